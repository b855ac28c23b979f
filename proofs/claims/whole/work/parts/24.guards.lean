theorem nI_prd (q : Nat) : nI (q + 1) - nI 1 = nI q := pk_sub (by omega)
theorem x_req_pn {v pn : Int32} (h : pn ≤ nI 5) (h1 : x_req v pn = none) : ∃ i : Nat, i < 5 ∧ v = nI i := by
  unfold x_req at h1
  by_cases hc : v < 0 ∨ ¬ v < pn
  · rw [if_pos hc] at h1; cases h1
  · obtain ⟨j, hj, rfl⟩ := nI_of (fun h => hc (Or.inl h))
    have h2 : nI j < pn := by
      rcases Int32.lt_or_le (nI j) pn with h3 | h3
      · exact h3
      · exact absurd (Or.inr (Int32.not_lt.mpr h3)) hc
    exact ⟨j, (nI_ltI hj (by decide)).mp (Int32.lt_of_lt_of_le h2 h), rfl⟩
/-- feed's counter: q - 1 - i, and -1 at the end -/
def fdC (q i : Nat) : Int32 := nI (q - 1) - nI i
theorem fdC_0 (q : Nat) : fdC q 0 = nI (q - 1) := pk_sub (by omega)
theorem fdC_pos (q i : Nat) (h : i < q) : fdC q i = nI (q - 1 - i) := pk_sub (by omega)
theorem fdC_neg (q i : Nat) (h1 : 1 ≤ q ∧ q ≤ 8) (h2 : i = q) : fdC q i < 0 := by
  subst h2
  have : i = 1 ∨ i = 2 ∨ i = 3 ∨ i = 4 ∨ i = 5 ∨ i = 6 ∨ i = 7 ∨ i = 8 := by omega
  rcases this with rfl | rfl | rfl | rfl | rfl | rfl | rfl | rfl <;> decide
theorem fdC_s : ∀ q, q < 9 → ∀ i, i < q → nI (q - 1 - i) + Int32.ofInt (-1) = fdC q (i + 1) := by decide +kernel
set_option maxHeartbeats 4000000 in
set_option maxRecDepth 100000 in
/-- requireLeaf(v) -/
theorem c_requireLeaf {l : Launch} {D : va_G} {o ad : Nat → Nat} {cI cZ cG : ClassId} {tl lc wc dc pn : Int32} {isw : Nat → Int32} (hl0 : l.stackTraces = false) (v sl : Int32) (mem : Nat → Nat → Int32) : MTr l gE yX1_requireLeaf (.code yX1_requireLeaf cX1_requireLeaf 2 none :: tW) ({ frames := 6, cells := 1, slots := 6, locals := 100 }) D vwCl (tC cI cZ cG) [.ref (o 0), .int v] (wC o ad cI cZ cG tl lc wc dc pn sl isw mem) (x_req v lc) := by
  refine MTr.ofW (by decide +kernel) rfl (Nat.le_of_ble_eq_true rfl) ?_
  intro p e s m below meth c A ls hx hb hr hts hown hlk hml hA hP hK hD hT hl hno
  have hS : va_S A s.heap s.heap [] := va_S.rf
  have hown : s.vm.findClass RX1 = some m.cls := hown
  have hW : ∀ w ∈ tW, w.before _ s = true := fun w h => hts w (List.mem_cons_of_mem _ h)
  have hl : lv_has ls 2 [(0, .ref (o 0)), (1, .int v)] := hl
  refine lv_iload_n hx hb dX1_requireLeaf_0 rfl (lv_at hl 1 rfl) ?_
  refine lv_if_lt (tgt := 12) hx hb dX1_requireLeaf_1 (by decide) (fun ha => ?_) (fun ha => ?_)
  · exact tr_throw (cls := "java/lang/IndexOutOfBoundsException") (tx := "no such leaf") (names := ["java/lang/RuntimeException", "java/lang/Exception"]) (rest := []) hx hb (hml.trans hl.1.symm) hl0 hown (by decide +kernel) (by decide +kernel) (own_ok own_IOB hW hT) (hW _ tw_273) (hW _ tw_12) (hT.2.2.2 (.stringRef "ProofLeaves" 157 "no such leaf") (by decide +kernel)) hno hlk dX1_requireLeaf_12 dX1_requireLeaf_15 dX1_requireLeaf_16 dX1_requireLeaf_18 dX1_requireLeaf_21 (Nat.le_of_ble_eq_true rfl) (Nat.le_of_ble_eq_true rfl) (Nat.le_of_ble_eq_true rfl) (Nat.le_of_ble_eq_true rfl) (Nat.le_of_ble_eq_true rfl) (Nat.le_of_ble_eq_true rfl) (fun z t h1 h2 => Or.inr ⟨_, _, rfl, if_pos (Or.inl ha), h1, h2⟩)
  · refine lv_iload_n hx hb dX1_requireLeaf_4 rfl (lv_at hl 1 rfl) ?_
    refine lv_aload_n hx hb dX1_requireLeaf_5 rfl (lv_at hl 0 rfl) ?_
    refine va_get (D := D) (ci := 0) (v := .int lc) (C := RX1) (T := TX1) (N := 14) hx hb hW iPL hown hK hP 0 rfl rfl 5 (by decide) (hW _ tw_49) (fun _ h9 => h9) rfl dX1_requireLeaf_6 ?_
    refine lv_icmp_lt (tgt := 22) hx hb dX1_requireLeaf_9 (by decide) (fun hc => ?_) (fun hc => ?_)
    · exact tr_ret hx hb hr hlk (if_neg (fun h => h.elim ha (fun h1 => h1 hc))) dX1_requireLeaf_22 (Nat.le_of_ble_eq_true rfl) (Nat.le_of_ble_eq_true rfl)
    · exact tr_throw (cls := "java/lang/IndexOutOfBoundsException") (tx := "no such leaf") (names := ["java/lang/RuntimeException", "java/lang/Exception"]) (rest := []) hx hb (hml.trans hl.1.symm) hl0 hown (by decide +kernel) (by decide +kernel) (own_ok own_IOB hW hT) (hW _ tw_273) (hW _ tw_12) (hT.2.2.2 (.stringRef "ProofLeaves" 157 "no such leaf") (by decide +kernel)) hno hlk dX1_requireLeaf_12 dX1_requireLeaf_15 dX1_requireLeaf_16 dX1_requireLeaf_18 dX1_requireLeaf_21 (Nat.le_of_ble_eq_true rfl) (Nat.le_of_ble_eq_true rfl) (Nat.le_of_ble_eq_true rfl) (Nat.le_of_ble_eq_true rfl) (Nat.le_of_ble_eq_true rfl) (Nat.le_of_ble_eq_true rfl) (fun z t h1 h2 => Or.inr ⟨_, _, rfl, if_pos (Or.inr hc), h1, h2⟩)
set_option maxHeartbeats 4000000 in
set_option maxRecDepth 100000 in
/-- requireDay(v) -/
theorem c_requireDay {l : Launch} {D : va_G} {o ad : Nat → Nat} {cI cZ cG : ClassId} {tl lc wc dc pn : Int32} {isw : Nat → Int32} (hl0 : l.stackTraces = false) (v sl : Int32) (mem : Nat → Nat → Int32) : MTr l gE yX1_requireDay (.code yX1_requireDay cX1_requireDay 2 none :: tW) ({ frames := 6, cells := 1, slots := 6, locals := 100 }) D vwCl (tC cI cZ cG) [.ref (o 0), .int v] (wC o ad cI cZ cG tl lc wc dc pn sl isw mem) (x_req v dc) := by
  refine MTr.ofW (by decide +kernel) rfl (Nat.le_of_ble_eq_true rfl) ?_
  intro p e s m below meth c A ls hx hb hr hts hown hlk hml hA hP hK hD hT hl hno
  have hS : va_S A s.heap s.heap [] := va_S.rf
  have hown : s.vm.findClass RX1 = some m.cls := hown
  have hW : ∀ w ∈ tW, w.before _ s = true := fun w h => hts w (List.mem_cons_of_mem _ h)
  have hl : lv_has ls 2 [(0, .ref (o 0)), (1, .int v)] := hl
  refine lv_iload_n hx hb dX1_requireDay_0 rfl (lv_at hl 1 rfl) ?_
  refine lv_if_lt (tgt := 12) hx hb dX1_requireDay_1 (by decide) (fun ha => ?_) (fun ha => ?_)
  · exact tr_throw (cls := "java/lang/IndexOutOfBoundsException") (tx := "no such day") (names := ["java/lang/RuntimeException", "java/lang/Exception"]) (rest := []) hx hb (hml.trans hl.1.symm) hl0 hown (by decide +kernel) (by decide +kernel) (own_ok own_IOB hW hT) (hW _ tw_273) (hW _ tw_12) (hT.2.2.2 (.stringRef "ProofLeaves" 159 "no such day") (by decide +kernel)) hno hlk dX1_requireDay_12 dX1_requireDay_15 dX1_requireDay_16 dX1_requireDay_18 dX1_requireDay_21 (Nat.le_of_ble_eq_true rfl) (Nat.le_of_ble_eq_true rfl) (Nat.le_of_ble_eq_true rfl) (Nat.le_of_ble_eq_true rfl) (Nat.le_of_ble_eq_true rfl) (Nat.le_of_ble_eq_true rfl) (fun z t h1 h2 => Or.inr ⟨_, _, rfl, if_pos (Or.inl ha), h1, h2⟩)
  · refine lv_iload_n hx hb dX1_requireDay_4 rfl (lv_at hl 1 rfl) ?_
    refine lv_aload_n hx hb dX1_requireDay_5 rfl (lv_at hl 0 rfl) ?_
    refine va_get (D := D) (ci := 0) (v := .int dc) (C := RX1) (T := TX1) (N := 14) hx hb hW iPL hown hK hP 0 rfl rfl 9 (by decide) (hW _ tw_53) (fun _ h9 => h9) rfl dX1_requireDay_6 ?_
    refine lv_icmp_lt (tgt := 22) hx hb dX1_requireDay_9 (by decide) (fun hc => ?_) (fun hc => ?_)
    · exact tr_ret hx hb hr hlk (if_neg (fun h => h.elim ha (fun h1 => h1 hc))) dX1_requireDay_22 (Nat.le_of_ble_eq_true rfl) (Nat.le_of_ble_eq_true rfl)
    · exact tr_throw (cls := "java/lang/IndexOutOfBoundsException") (tx := "no such day") (names := ["java/lang/RuntimeException", "java/lang/Exception"]) (rest := []) hx hb (hml.trans hl.1.symm) hl0 hown (by decide +kernel) (by decide +kernel) (own_ok own_IOB hW hT) (hW _ tw_273) (hW _ tw_12) (hT.2.2.2 (.stringRef "ProofLeaves" 159 "no such day") (by decide +kernel)) hno hlk dX1_requireDay_12 dX1_requireDay_15 dX1_requireDay_16 dX1_requireDay_18 dX1_requireDay_21 (Nat.le_of_ble_eq_true rfl) (Nat.le_of_ble_eq_true rfl) (Nat.le_of_ble_eq_true rfl) (Nat.le_of_ble_eq_true rfl) (Nat.le_of_ble_eq_true rfl) (Nat.le_of_ble_eq_true rfl) (fun z t h1 h2 => Or.inr ⟨_, _, rfl, if_pos (Or.inr hc), h1, h2⟩)
set_option maxHeartbeats 4000000 in
set_option maxRecDepth 100000 in
/-- requirePathDigest(v) -/
theorem c_requirePathDigest {l : Launch} {D : va_G} {o ad : Nat → Nat} {cI cZ cG : ClassId} {tl lc wc dc pn : Int32} {isw : Nat → Int32} (hl0 : l.stackTraces = false) (v sl : Int32) (mem : Nat → Nat → Int32) : MTr l gE yX1_requirePathDigest (.code yX1_requirePathDigest cX1_requirePathDigest 2 none :: tW) ({ frames := 6, cells := 1, slots := 6, locals := 100 }) D vwCl (tC cI cZ cG) [.ref (o 0), .int v] (wC o ad cI cZ cG tl lc wc dc pn sl isw mem) (x_req v pn) := by
  refine MTr.ofW (by decide +kernel) rfl (Nat.le_of_ble_eq_true rfl) ?_
  intro p e s m below meth c A ls hx hb hr hts hown hlk hml hA hP hK hD hT hl hno
  have hS : va_S A s.heap s.heap [] := va_S.rf
  have hown : s.vm.findClass RX1 = some m.cls := hown
  have hW : ∀ w ∈ tW, w.before _ s = true := fun w h => hts w (List.mem_cons_of_mem _ h)
  have hl : lv_has ls 2 [(0, .ref (o 0)), (1, .int v)] := hl
  refine lv_iload_n hx hb dX1_requirePathDigest_0 rfl (lv_at hl 1 rfl) ?_
  refine lv_if_lt (tgt := 12) hx hb dX1_requirePathDigest_1 (by decide) (fun ha => ?_) (fun ha => ?_)
  · exact tr_throw (cls := "java/lang/IndexOutOfBoundsException") (tx := "no such digest in the proof") (names := ["java/lang/RuntimeException", "java/lang/Exception"]) (rest := []) hx hb (hml.trans hl.1.symm) hl0 hown (by decide +kernel) (by decide +kernel) (own_ok own_IOB hW hT) (hW _ tw_273) (hW _ tw_12) (hT.2.2.2 (.stringRef "ProofLeaves" 161 "no such digest in the proof") (by decide +kernel)) hno hlk dX1_requirePathDigest_12 dX1_requirePathDigest_15 dX1_requirePathDigest_16 dX1_requirePathDigest_18 dX1_requirePathDigest_21 (Nat.le_of_ble_eq_true rfl) (Nat.le_of_ble_eq_true rfl) (Nat.le_of_ble_eq_true rfl) (Nat.le_of_ble_eq_true rfl) (Nat.le_of_ble_eq_true rfl) (Nat.le_of_ble_eq_true rfl) (fun z t h1 h2 => Or.inr ⟨_, _, rfl, if_pos (Or.inl ha), h1, h2⟩)
  · refine lv_iload_n hx hb dX1_requirePathDigest_4 rfl (lv_at hl 1 rfl) ?_
    refine lv_aload_n hx hb dX1_requirePathDigest_5 rfl (lv_at hl 0 rfl) ?_
    refine va_get (D := D) (ci := 0) (v := .int pn) (C := RX1) (T := TX1) (N := 14) hx hb hW iPL hown hK hP 0 rfl rfl 11 (by decide) (hW _ tw_55) (fun _ h9 => h9) rfl dX1_requirePathDigest_6 ?_
    refine lv_icmp_lt (tgt := 22) hx hb dX1_requirePathDigest_9 (by decide) (fun hc => ?_) (fun hc => ?_)
    · exact tr_ret hx hb hr hlk (if_neg (fun h => h.elim ha (fun h1 => h1 hc))) dX1_requirePathDigest_22 (Nat.le_of_ble_eq_true rfl) (Nat.le_of_ble_eq_true rfl)
    · exact tr_throw (cls := "java/lang/IndexOutOfBoundsException") (tx := "no such digest in the proof") (names := ["java/lang/RuntimeException", "java/lang/Exception"]) (rest := []) hx hb (hml.trans hl.1.symm) hl0 hown (by decide +kernel) (by decide +kernel) (own_ok own_IOB hW hT) (hW _ tw_273) (hW _ tw_12) (hT.2.2.2 (.stringRef "ProofLeaves" 161 "no such digest in the proof") (by decide +kernel)) hno hlk dX1_requirePathDigest_12 dX1_requirePathDigest_15 dX1_requirePathDigest_16 dX1_requirePathDigest_18 dX1_requirePathDigest_21 (Nat.le_of_ble_eq_true rfl) (Nat.le_of_ble_eq_true rfl) (Nat.le_of_ble_eq_true rfl) (Nat.le_of_ble_eq_true rfl) (Nat.le_of_ble_eq_true rfl) (Nat.le_of_ble_eq_true rfl) (fun z t h1 h2 => Or.inr ⟨_, _, rfl, if_pos (Or.inr hc), h1, h2⟩)
set_option maxHeartbeats 4000000 in
set_option maxRecDepth 100000 in
/-- requireByte(v) -/
theorem c_requireByte {l : Launch} {D : va_G} {cI cZ cG : ClassId} (hl0 : l.stackTraces = false) (w : va_W) (v : Int32) : MTr l gE yX1_requireByte (.code yX1_requireByte cX1_requireByte 1 none :: tW) ({ frames := 6, cells := 1, slots := 6, locals := 100 }) D vwCl (tC cI cZ cG) [.int v] (w) (x_req v (nI 32)) := by
  refine MTr.ofW (by decide +kernel) rfl (Nat.le_of_ble_eq_true rfl) ?_
  intro p e s m below meth c A ls hx hb hr hts hown hlk hml hA hP hK hD hT hl hno
  have hS : va_S A s.heap s.heap [] := va_S.rf
  have hown : s.vm.findClass RX1 = some m.cls := hown
  have hW : ∀ w ∈ tW, w.before _ s = true := fun w h => hts w (List.mem_cons_of_mem _ h)
  have hl : lv_has ls 1 [(0, .int v)] := hl
  refine lv_iload_n hx hb dX1_requireByte_0 rfl (lv_at hl 0 rfl) ?_
  refine lv_if_lt (tgt := 10) hx hb dX1_requireByte_1 (by decide) (fun ha => ?_) (fun ha => ?_)
  · exact tr_throw (cls := "java/lang/IndexOutOfBoundsException") (tx := "no such byte") (names := ["java/lang/RuntimeException", "java/lang/Exception"]) (rest := []) hx hb (hml.trans hl.1.symm) hl0 hown (by decide +kernel) (by decide +kernel) (own_ok own_IOB hW hT) (hW _ tw_273) (hW _ tw_12) (hT.2.2.2 (.stringRef "ProofLeaves" 163 "no such byte") (by decide +kernel)) hno hlk dX1_requireByte_10 dX1_requireByte_13 dX1_requireByte_14 dX1_requireByte_16 dX1_requireByte_19 (Nat.le_of_ble_eq_true rfl) (Nat.le_of_ble_eq_true rfl) (Nat.le_of_ble_eq_true rfl) (Nat.le_of_ble_eq_true rfl) (Nat.le_of_ble_eq_true rfl) (Nat.le_of_ble_eq_true rfl) (fun z t h1 h2 => Or.inr ⟨_, _, rfl, if_pos (Or.inl ha), h1, h2⟩)
  · refine lv_iload_n hx hb dX1_requireByte_4 rfl (lv_at hl 0 rfl) ?_
    refine lv_bipush (v := nI 32) hx hb dX1_requireByte_5 (by decide) ?_
    refine lv_icmp_lt (tgt := 20) hx hb dX1_requireByte_7 (by decide) (fun hc => ?_) (fun hc => ?_)
    · exact tr_ret hx hb hr hlk (if_neg (fun h => h.elim ha (fun h1 => h1 hc))) dX1_requireByte_20 (Nat.le_of_ble_eq_true rfl) (Nat.le_of_ble_eq_true rfl)
    · exact tr_throw (cls := "java/lang/IndexOutOfBoundsException") (tx := "no such byte") (names := ["java/lang/RuntimeException", "java/lang/Exception"]) (rest := []) hx hb (hml.trans hl.1.symm) hl0 hown (by decide +kernel) (by decide +kernel) (own_ok own_IOB hW hT) (hW _ tw_273) (hW _ tw_12) (hT.2.2.2 (.stringRef "ProofLeaves" 163 "no such byte") (by decide +kernel)) hno hlk dX1_requireByte_10 dX1_requireByte_13 dX1_requireByte_14 dX1_requireByte_16 dX1_requireByte_19 (Nat.le_of_ble_eq_true rfl) (Nat.le_of_ble_eq_true rfl) (Nat.le_of_ble_eq_true rfl) (Nat.le_of_ble_eq_true rfl) (Nat.le_of_ble_eq_true rfl) (Nat.le_of_ble_eq_true rfl) (fun z t h1 h2 => Or.inr ⟨_, _, rfl, if_pos (Or.inr hc), h1, h2⟩)
set_option maxHeartbeats 4000000 in
set_option maxRecDepth 100000 in
/-- requireMask(v) -/
theorem c_requireMask {l : Launch} {D : va_G} {cI cZ cG : ClassId} (hl0 : l.stackTraces = false) (w : va_W) (v : Int32) : MTr l gE yX1_requireMask (.code yX1_requireMask cX1_requireMask 1 none :: tW) ({ frames := 6, cells := 1, slots := 6, locals := 100 }) D vwCl (tC cI cZ cG) [.int v] (w) (x_mask v) := by
  refine MTr.ofW (by decide +kernel) rfl (Nat.le_of_ble_eq_true rfl) ?_
  intro p e s m below meth c A ls hx hb hr hts hown hlk hml hA hP hK hD hT hl hno
  have hS : va_S A s.heap s.heap [] := va_S.rf
  have hown : s.vm.findClass RX1 = some m.cls := hown
  have hW : ∀ w ∈ tW, w.before _ s = true := fun w h => hts w (List.mem_cons_of_mem _ h)
  have hl : lv_has ls 1 [(0, .int v)] := hl
  refine lv_iload_n hx hb dX1_requireMask_0 rfl (lv_at hl 0 rfl) ?_
  refine lv_iconst (v := nI 1) hx hb dX1_requireMask_1 (by decide) ?_
  refine lv_icmp_lt (tgt := 12) hx hb dX1_requireMask_2 (by decide) (fun ha => ?_) (fun ha => ?_)
  · exact tr_throw (cls := "java/lang/IllegalArgumentException") (tx := "the mask is not 1 .. 255") (names := ["java/lang/RuntimeException", "java/lang/Exception"]) (rest := []) hx hb (hml.trans hl.1.symm) hl0 hown (by decide +kernel) (by decide +kernel) (own_ok own_IAE hW hT) (hW _ tw_97) (hW _ tw_7) (hT.2.2.2 (.stringRef "ProofLeaves" 165 "the mask is not 1 .. 255") (by decide +kernel)) hno hlk dX1_requireMask_12 dX1_requireMask_15 dX1_requireMask_16 dX1_requireMask_18 dX1_requireMask_21 (Nat.le_of_ble_eq_true rfl) (Nat.le_of_ble_eq_true rfl) (Nat.le_of_ble_eq_true rfl) (Nat.le_of_ble_eq_true rfl) (Nat.le_of_ble_eq_true rfl) (Nat.le_of_ble_eq_true rfl) (fun z t h1 h2 => Or.inr ⟨_, _, rfl, if_pos (Or.inl ha), h1, h2⟩)
  · refine lv_iload_n hx hb dX1_requireMask_5 rfl (lv_at hl 0 rfl) ?_
    refine lv_sipush (v := nI 255) hx hb dX1_requireMask_6 (by decide) ?_
    refine lv_icmp_le (tgt := 22) hx hb dX1_requireMask_9 (by decide) (fun hc => ?_) (fun hc => ?_)
    · exact tr_ret hx hb hr hlk (if_neg (fun h => h.elim ha (fun h1 => h1 hc))) dX1_requireMask_22 (Nat.le_of_ble_eq_true rfl) (Nat.le_of_ble_eq_true rfl)
    · exact tr_throw (cls := "java/lang/IllegalArgumentException") (tx := "the mask is not 1 .. 255") (names := ["java/lang/RuntimeException", "java/lang/Exception"]) (rest := []) hx hb (hml.trans hl.1.symm) hl0 hown (by decide +kernel) (by decide +kernel) (own_ok own_IAE hW hT) (hW _ tw_97) (hW _ tw_7) (hT.2.2.2 (.stringRef "ProofLeaves" 165 "the mask is not 1 .. 255") (by decide +kernel)) hno hlk dX1_requireMask_12 dX1_requireMask_15 dX1_requireMask_16 dX1_requireMask_18 dX1_requireMask_21 (Nat.le_of_ble_eq_true rfl) (Nat.le_of_ble_eq_true rfl) (Nat.le_of_ble_eq_true rfl) (Nat.le_of_ble_eq_true rfl) (Nat.le_of_ble_eq_true rfl) (Nat.le_of_ble_eq_true rfl) (fun z t h1 h2 => Or.inr ⟨_, _, rfl, if_pos (Or.inr hc), h1, h2⟩)
