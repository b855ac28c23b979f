/-! WHAT THE STATICS HOLD: Sha256's two tables, Throwable's two sentinels; the words on the exceptions' texts and classes -/
def xL (C n d : String) (A : Nat → Prop) (U : State) (H : Heap) : Prop := ∃ (c : ClassId) (k : Class) (i : Nat) (f : Field) (a : Nat) (cell : Cell) (v : Value), U.vm.findClass C = some c ∧ U.fieldFound? C n d = some (c, k, i, f) ∧ f.isStatic = true ∧ k.statics = some a ∧ H[a]? = some cell ∧ cell.vm.isStatics = true ∧ cell.cls = c ∧ f.slot < cell.slots.size ∧ k.staticTypes[f.slot]? = some f.type ∧ cell.slots[f.slot]? = some v ∧ v.isRef = true ∧ ¬ A a
theorem xL.moved {C n d : String} {A : Nat → Prop} {u U : State} {H : Heap} (hvm : u.vm.Alike U.vm) (h : xL C n d A u H) : xL C n d A U H := by
  obtain ⟨c, k, i, f, a, cell, v, h1, h2, h3, h4, h5, h6, h7, h8, h9, h10, h11, h12⟩ := h
  obtain ⟨k', hi', he⟩ := State.fieldFound?_setVm hvm h2
  exact ⟨c, k', i, f, a, cell, v, by rw [hvm.findClass]; exact h1, hi', h3, by rw [he]; exact h4, h5, h6, h7, h8, by rw [he]; exact h9, h10, h11, h12⟩
theorem xL.kept {C n d : String} {A : Nat → Prop} {U : State} {H H1 : Heap} (h : xL C n d A U H) (hq : ∀ a : Nat, a < H.size → ¬ A a → H1[a]? = H[a]?) : xL C n d A U H1 := by
  obtain ⟨c, k, i, f, a, cell, v, h1, h2, h3, h4, h5, h6, h7, h8, h9, h10, h11, h12⟩ := h
  exact ⟨c, k, i, f, a, cell, v, h1, h2, h3, h4, by rw [hq a (Array.getElem?_eq_some_iff.mp h5).1 h12]; exact h5, h6, h7, h8, h9, h10, h11, h12⟩
theorem xL.narrow {C n d : String} {A B : Nat → Prop} {U : State} {H : Heap} (h : xL C n d A U H) (hAB : ∀ q, B q → A q) : xL C n d B U H := by
  obtain ⟨c, k, i, f, a, cell, v, h1, h2, h3, h4, h5, h6, h7, h8, h9, h10, h11, h12⟩ := h
  exact ⟨c, k, i, f, a, cell, v, h1, h2, h3, h4, h5, h6, h7, h8, h9, h10, h11, fun z => h12 (hAB a z)⟩
theorem xL.lays {C n d : String} {A : Nat → Prop} {s : State} {args : Array Value} (h : xL C n d A s s.heap) : (Cond.laysStatic C n d).before args s = true := by
  obtain ⟨c, k, i, f, a, cell, v, h1, h2, h3, h4, h5, h6, h7, h8, h9, h10, h11, h12⟩ := h
  simp [Cond.before, Cond.holds, Cond.value, h1, h2, h3, h4, h5, h6, h7, h8, h9]
theorem xL.ref {C n d : String} {A : Nat → Prop} {s : State} {args : Array Value} (h : xL C n d A s s.heap) : (Cond.isRef (.static C n d)).before args s = true := by
  obtain ⟨c, k, i, f, a, cell, v, h1, h2, h3, h4, h5, h6, h7, h8, h9, h10, h11, h12⟩ := h
  have e : (Term.static C n d).eval args s none [] s = some v := by
    simp [Term.eval, State.fieldNamed?, h2, h3, h4, h5, h6, h10]
  cases v <;> simp [Value.isRef] at h11 <;> simp [Cond.before, Cond.holds, Cond.value, e]
theorem xt_str {own tx : String} {k : Nat} {s U : State} (hW : s.WarmedH U.vm) (h : (Cond.stringRef own k tx).before #[] s = true) : (Cond.stringRef own k tx).before #[] U = true := by
  have h1 : (Cond.stringRef own k tx).before #[] (s.setVm U.vm) = true := Cond.stringRef_warmed hW h
  first
    | exact va_tabs rfl (rfl : (s.setVm U.vm).vm = U.vm) h1
    | (simp only [Cond.before, Cond.holds, Cond.value, State.names, State.poolOf?, State.resolvedAt?] at h1 ⊢; exact h1)
theorem xt_dec {x : MethodName} {s U : State} (hW : s.WarmedH U.vm) (h : (Cond.declares x).before #[] s = true) : (Cond.declares x).before #[] U = true :=
  va_tabs rfl (rfl : (s.setVm U.vm).vm = U.vm) (by rw [Cond.declares_setVm hW.alike]; exact h)
theorem xt_aov {ty : FieldType} {s U : State} (hW : s.WarmedH U.vm) (h : (Cond.arrayOver ty).before #[] s = true) : (Cond.arrayOver ty).before #[] U = true := by
  have h1 : (Cond.arrayOver ty).before #[] (s.setVm U.vm) = true := by rw [Cond.arrayOver_setVmC hW.alike]; exact h
  first
    | exact va_tabs rfl (rfl : (s.setVm U.vm).vm = U.vm) h1
    | (simp only [Cond.before, Cond.holds] at h1 ⊢; exact h1)
/-- the words that every throw needs and that aren't among tW -/
def thL : List Cond := [.castable "java/lang/IllegalArgumentException" "java/lang/IllegalArgumentException", .stringRef "ProofLeaves" 62 "n is not 1 .. 8", .castable "java/lang/UnsupportedOperationException" "java/lang/UnsupportedOperationException", .stringRef "ProofLeaves" 69 "the tape would have more than 200 bytes", .stringRef "ProofLeaves" 72 "there are 24 leaves", .stringRef "ProofLeaves" 89 "there are 12 days", .castable "java/lang/IndexOutOfBoundsException" "java/lang/IndexOutOfBoundsException", .stringRef "ProofLeaves" 159 "no such day", .stringRef "ProofLeaves" 163 "no such byte", .stringRef "ProofLeaves" 157 "no such leaf", .castable "java/lang/IllegalStateException" "java/lang/IllegalStateException", .stringRef "ProofLeaves" 106 "the leaf came after the day", .stringRef "ProofLeaves" 161 "no such digest in the proof", .stringRef "ProofLeaves" 165 "the mask is not 1 .. 255", .stringRef "ProofLeaves" 119 "there is no proof", .stringRef "ProofLeaves" 121 "the number told is not 0 .. the count told - 1", .stringRef "ProofLeaves" 135 "the first day is later than the second", .stringRef "ProofLeaves" 141 "the leaf is withdrawn already", .stringRef "ProofLeaves" 145 "no such side", .stringRef "ProofLeaves" 148 "the leaf is withdrawn", .declares ⟨"java/lang/RuntimeException", "<init>", "(Ljava/lang/String;)V"⟩, .declares ⟨"java/lang/Exception", "<init>", "(Ljava/lang/String;)V"⟩, .declares ⟨"java/lang/Throwable", "<init>", "(Ljava/lang/String;)V"⟩, .arrayOver (.array .int)]
theorem thL_warm {s U : State} (hW : s.WarmedH U.vm) : ∀ w ∈ thL, w.before #[] s = true → w.before #[] U = true := by
  intro w hw
  simp only [thL, List.mem_cons, List.not_mem_nil, or_false] at hw
  rcases hw with rfl | rfl | rfl | rfl | rfl | rfl | rfl | rfl | rfl | rfl | rfl | rfl | rfl | rfl | rfl | rfl | rfl | rfl | rfl | rfl | rfl | rfl | rfl | rfl
  · intro h; exact (va_Nw.warmC hW h)
  · intro h; exact xt_str hW h
  · intro h; exact (va_Nw.warmC hW h)
  · intro h; exact xt_str hW h
  · intro h; exact xt_str hW h
  · intro h; exact xt_str hW h
  · intro h; exact (va_Nw.warmC hW h)
  · intro h; exact xt_str hW h
  · intro h; exact xt_str hW h
  · intro h; exact xt_str hW h
  · intro h; exact (va_Nw.warmC hW h)
  · intro h; exact xt_str hW h
  · intro h; exact xt_str hW h
  · intro h; exact xt_str hW h
  · intro h; exact xt_str hW h
  · intro h; exact xt_str hW h
  · intro h; exact xt_str hW h
  · intro h; exact xt_str hW h
  · intro h; exact xt_str hW h
  · intro h; exact xt_str hW h
  · intro h; exact xt_dec hW h
  · intro h; exact xt_dec hW h
  · intro h; exact xt_dec hW h
  · intro h; exact xt_aov hW h
def gE : xE := fun A U H => (∃ t1 t2 : Nat, va_Z RX0 "FIRST_STATE" "[I" (.ref t1) A U H ∧ va_T .int t1 8 (fun j => .int (h0 j)) A U H ∧ va_Z RX0 "ROUND_CONSTANTS" "[I" (.ref t2) A U H ∧ va_T .int t2 64 (fun j => .int (kc j)) A U H) ∧ xL Bundle.tN "UNASSIGNED_STACK" Bundle.steD A U H ∧ xL Bundle.tN "SUPPRESSED_SENTINEL" Bundle.listD A U H ∧ ∀ w ∈ thL, w.before #[] U = true
theorem gE_ok : okE gE := by
  refine ⟨fun A u U H hW h => ?_, fun A U H H1 h hq => ?_, fun A B U H h hq => ?_⟩
  · obtain ⟨⟨t1, t2, a, b, c, d⟩, e, f, g⟩ := h
    exact ⟨⟨t1, t2, a.moved hW.alike, b.moved hW.alike, c.moved hW.alike, d.moved hW.alike⟩, e.moved hW.alike, f.moved hW.alike, fun w hw => thL_warm hW w hw (g w hw)⟩
  · obtain ⟨⟨t1, t2, a, b, c, d⟩, e, f, g⟩ := h
    exact ⟨⟨t1, t2, a.kept hq, b.kept hq, c.kept hq, d.kept hq⟩, e.kept hq, f.kept hq, g⟩
  · obtain ⟨⟨t1, t2, a, b, c, d⟩, e, f, g⟩ := h
    exact ⟨⟨t1, t2, a.narrow hq, b.narrow hq, c.narrow hq, d.narrow hq⟩, e.narrow hq, f.narrow hq, g⟩
