/-! CONTRACTS OF METHODS THAT MAY THROW: x = none: it returns; x = some nm: it throws an nm, and no old cell has changed -/
abbrev xQr (x : Option String) : Array Value → State → Outcome → State → Prop := xt_Q (fun _ : Unit => none) (fun _ st t => x = none ∧ t.heap = st.heap) (fun nm => x = some nm)
abbrev xQTv (D : va_G) (cl : List vw_C) (w1 : va_W) (A : Nat → Prop) (x : Option String) : Array Value → State → Outcome → State → Prop := xt_Q (fun _ : Unit => none) (fun _ st t => x = none ∧ va_P D cl w1 t.heap ∧ va_D A w1 ∧ va_F A st t) (fun nm => x = some nm)
abbrev xQTi (D : va_G) (cl : List vw_C) (w1 : va_W) (res : Int32) (A : Nat → Prop) (x : Option String) : Array Value → State → Outcome → State → Prop := xt_Q (fun r : Int32 => some (.int r)) (fun r st t => x = none ∧ r = res ∧ va_P D cl w1 t.heap ∧ va_D A w1 ∧ va_F A st t) (fun nm => x = some nm)
def MTr (l : Launch) (E : xE) (y : MethodName) (ws : List Cond) (rm : Room) (D : va_G) (cl : List vw_C) (tys : List (ClassId × FieldType)) (av : List Value) (w0 : va_W) (x : Option String) : Prop :=
  ∀ sz : Nat, MetT l y ws rm (xPc E D cl tys av w0 sz) (xQr x) 1 6 (fun q => sz ≤ q)
def MTv (l : Launch) (E : xE) (y : MethodName) (ws : List Cond) (rm : Room) (D : va_G) (cl : List vw_C) (tys : List (ClassId × FieldType)) (av : List Value) (w0 w1 : va_W) (x : Option String) (mc ms : Nat) : Prop :=
  ∀ sz : Nat, MetT l y ws rm (xPc E D cl tys av w0 sz) (xQTv D cl w1 (va_A w0 sz) x) mc ms (va_A w0 sz)
def MTi (l : Launch) (E : xE) (y : MethodName) (ws : List Cond) (rm : Room) (D : va_G) (cl : List vw_C) (tys : List (ClassId × FieldType)) (av : List Value) (w0 w1 : va_W) (res : Int32) (x : Option String) (mc ms : Nat) : Prop :=
  ∀ sz : Nat, MetT l y ws rm (xPc E D cl tys av w0 sz) (xQTi D cl w1 res (va_A w0 sz) x) mc ms (va_A w0 sz)
section TC
variable {l : Launch} {E : xE} {y : MethodName} {ws ws' : List Cond} {rm : Room} {D : va_G} {cl : List vw_C} {tys : List (ClassId × FieldType)} {av : List Value} {w0 w1 : va_W} {cc : ByteArray} {maxL mc ms : Nat} {x : Option String} {ty : FieldType} {res : Int32}
theorem MTr.ofW (hy : plainName y.cls = true) (hw : ws = Cond.code y cc maxL none :: ws') (hlen : (lg_sl av).length ≤ maxL)
    (body : ∀ (p : Program) (e : Env) (s : State) (m : MethodId) (below : List Frame) (meth : Method) (c : Code) (A : Nat → Prop) (ls : Array Slot), p.tables.exec = Jvm.exec → c.code = cc → meth.sig.returnType = none → (∀ w ∈ ws, w.before av.toArray s = true) → s.vm.findClass y.cls = some m.cls → meth.locks = false → c.maxLocals = maxL → (∀ q : Nat, s.heap.size ≤ q → A q) →
      va_P D cl w0 s.heap → va_K D cl tys s → va_D A w0 → E A s s.heap → lv_has ls maxL (lv_args 0 av) → c.exceptionTable.isEmpty = true → W p l e rm s m av.toArray below meth c s.heap [] 0 0 (MQT below (xQr x) av.toArray s 1 6 (fun q => s.heap.size ≤ q)) (F0 m 0 ls [])) : MTr l E y ws rm D cl tys av w0 x := by
  intro sz
  refine MetT.ofW (cc := cc) (maxL := maxL) (ret := none) hy hw ?_
  intro p e s m args below meth c s₁ B hml hv
  obtain ⟨rfl, hsz, hP, hK, hD0, hE⟩ := hv
  subst hsz
  have hl := lv_entry av (n := maxL) hlen
  have hat := atoms_spec (ws := ws) B.pre
  rw [lg_entry_eq]
  exact body p e s m below meth c _ _ B.exec B.bytes B.returns hat (findClass_of_methodNamed B.named) B.notSynchronized hml (fun q h => Or.inr h) hP hK hD0.self hE hl (BodyLoose.noHandlers B (hat _ (by rw [hw]; exact List.mem_cons_self)))
theorem MTv.ofW (hy : plainName y.cls = true) (hw : ws = Cond.code y cc maxL none :: ws') (hlen : (lg_sl av).length ≤ maxL)
    (body : ∀ (p : Program) (e : Env) (s : State) (m : MethodId) (below : List Frame) (meth : Method) (c : Code) (A : Nat → Prop) (ls : Array Slot), p.tables.exec = Jvm.exec → c.code = cc → meth.sig.returnType = none → (∀ w ∈ ws, w.before av.toArray s = true) → s.vm.findClass y.cls = some m.cls → meth.locks = false → c.maxLocals = maxL → (∀ q : Nat, s.heap.size ≤ q → A q) →
      va_P D cl w0 s.heap → va_K D cl tys s → va_D A w0 → E A s s.heap → lv_has ls maxL (lv_args 0 av) → c.exceptionTable.isEmpty = true → W p l e rm s m av.toArray below meth c s.heap [] 0 0 (MQT below (xQTv D cl w1 A x) av.toArray s mc ms A) (F0 m 0 ls [])) : MTv l E y ws rm D cl tys av w0 w1 x mc ms := by
  intro sz
  refine MetT.ofW (cc := cc) (maxL := maxL) (ret := none) hy hw ?_
  intro p e s m args below meth c s₁ B hml hv
  obtain ⟨rfl, hsz, hP, hK, hD0, hE⟩ := hv
  subst hsz
  have hl := lv_entry av (n := maxL) hlen
  have hat := atoms_spec (ws := ws) B.pre
  rw [lg_entry_eq]
  exact body p e s m below meth c _ _ B.exec B.bytes B.returns hat (findClass_of_methodNamed B.named) B.notSynchronized hml (fun q h => Or.inr h) hP hK hD0.self hE hl (BodyLoose.noHandlers B (hat _ (by rw [hw]; exact List.mem_cons_self)))
theorem MTi.ofW (hy : plainName y.cls = true) (hw : ws = Cond.code y cc maxL (some ty) :: ws') (hlen : (lg_sl av).length ≤ maxL)
    (body : ∀ (p : Program) (e : Env) (s : State) (m : MethodId) (below : List Frame) (meth : Method) (c : Code) (A : Nat → Prop) (ls : Array Slot), p.tables.exec = Jvm.exec → c.code = cc → meth.sig.returnType = some ty → (∀ w ∈ ws, w.before av.toArray s = true) → s.vm.findClass y.cls = some m.cls → meth.locks = false → c.maxLocals = maxL → (∀ q : Nat, s.heap.size ≤ q → A q) →
      va_P D cl w0 s.heap → va_K D cl tys s → va_D A w0 → E A s s.heap → lv_has ls maxL (lv_args 0 av) → c.exceptionTable.isEmpty = true → W p l e rm s m av.toArray below meth c s.heap [] 0 0 (MQT below (xQTi D cl w1 res A x) av.toArray s mc ms A) (F0 m 0 ls [])) : MTi l E y ws rm D cl tys av w0 w1 res x mc ms := by
  intro sz
  refine MetT.ofW (cc := cc) (maxL := maxL) (ret := some ty) hy hw ?_
  intro p e s m args below meth c s₁ B hml hv
  obtain ⟨rfl, hsz, hP, hK, hD0, hE⟩ := hv
  subst hsz
  have hl := lv_entry av (n := maxL) hlen
  have hat := atoms_spec (ws := ws) B.pre
  rw [lg_entry_eq]
  exact body p e s m below meth c _ _ B.exec B.bytes B.returns hat (findClass_of_methodNamed B.named) B.notSynchronized hml (fun q h => Or.inr h) hP hK hD0.self hE hl (BodyLoose.noHandlers B (hat _ (by rw [hw]; exact List.mem_cons_self)))
end TC
section TR
variable {p : Program} {l : Launch} {e : Env} {R : Room} {s : State} {m : MethodId} {args : Array Value} {below : List Frame} {meth : Method} {c : Code} {H : Heap} {locs : List Loc} {cells slots : Nat} {Q : State → Prop}
variable {cc bytes : ByteArray} {pc nL maxL n index M N : Nat} {ls : Array Slot} {rest st0 As : List Value} {D : va_G} {cl : List vw_C} {A : Nat → Prop} {tys : List (ClassId × FieldType)} {w0 w1 : va_W} {E : xE} {Ts ws : List Cond} {own C : String} {y : MethodName} {rm : Room} {ret : Option FieldType} {res : Int32} {b : Nat} {x : Option String} {Qc : Array Value → State → Outcome → State → Prop} {free' : Addr → Prop}
/-- the three ends -/
theorem tr_ret (hx : p.tables.exec = Jvm.exec) (hb : c.code = cc) (hr : meth.sig.returnType = none) (hlk : meth.locks = false) (hn : x = none) (hdg : decode cc pc = .ok (.return_, 1)) (hM : cells ≤ M) (hN : slots ≤ N) :
    W p l e R s m args below meth c s.heap [] cells slots (MQT below (xQr x) args s M N free') (F0 m pc ls []) := by
  refine W.widen hM hN ?_
  exact xt_mono (fun t h => MQT.of t h) (W.vret hx hb hr (fun t ht _ => Or.inl ⟨(), rfl, hn, ht⟩) (fun q h => by cases h) hdg hlk)
theorem tv_ret (hx : p.tables.exec = Jvm.exec) (hb : c.code = cc) (hr : meth.sig.returnType = none) (hlk : meth.locks = false) (hn : x = none) (hS : va_S A s.heap H locs) (hP : va_P D cl w1 H) (hD : va_D A w1) (hdg : decode cc pc = .ok (.return_, 1)) (hM : cells ≤ M) (hN : slots ≤ N) :
    W p l e R s m args below meth c H locs cells slots (MQT below (xQTv D cl w1 A x) args s M N A) (F0 m pc ls []) := by
  refine W.widen hM hN ?_
  exact xt_mono (fun t h => MQT.of t h) (W.vret hx hb hr (fun t ht _ => Or.inl ⟨(), rfl, hn, by rw [ht]; exact hP, hD, hS.F ht⟩) hS.2.2 hdg hlk)
theorem ti_ret {ty : FieldType} {v : Int32} (hx : p.tables.exec = Jvm.exec) (hb : c.code = cc) (hr : meth.sig.returnType = some ty) (hnw : narrow ty (.int v) = .int v) (hlk : meth.locks = false) (hn : x = none) (hS : va_S A s.heap H locs) (hP : va_P D cl w1 H) (hD : va_D A w1) (hv : v = res) (hdg : decode cc pc = .ok (.ireturn, 1)) (hM : cells ≤ M) (hN : slots ≤ N) :
    W p l e R s m args below meth c H locs cells slots (MQT below (xQTi D cl w1 res A x) args s M N A) (F0 m pc ls [.int v]) := by
  refine W.widen hM hN ?_
  exact xt_mono (fun t h => MQT.of t h) (W.zret hx hb hr hnw (fun t ht _ => Or.inl ⟨v, rfl, hn, hv, by rw [ht]; exact hP, hD, hS.F ht⟩) hS.2.2 hdg hlk)
/-- throw new cls("tx") -/
theorem tr_throw (hx : p.tables.exec = Jvm.exec) (hb : c.code = cc) (hml : c.maxLocals = ls.size) (hl0 : l.stackTraces = false) {cls tx : String} {names : List String} {ia is ic : Nat}
    (hown : s.vm.findClass own = some m.cls) (hcls : Bundle.fit cls = true) (hnames : ∀ n ∈ names, Bundle.fit n = true) (h : ∀ w ∈ Bundle.ownAtoms own ic cls names, w.before args s = true)
    (hclink : (Cond.classLink own ia cls).before args s = true) (hini : (Cond.initialized cls).before args s = true) (hstr : (Cond.stringRef own is tx).before args s = true) (hno : c.exceptionTable.isEmpty = true) (hlk : meth.locks = false)
    (hd0 : decode cc pc = .ok (.new ia, 3)) (hd3 : decode cc (pc + 3) = .ok (.dup, 1)) (hd4 : decode cc (pc + 3 + 1) = .ok (.ldc is, 2)) (hd6 : decode cc (pc + 3 + 1 + 2) = .ok (.invokespecial ic, 3)) (hd9 : decode cc (pc + 3 + 1 + 2 + 3) = .ok (.athrow, 1))
    (hRc : cells + 1 ≤ R.cells) (hRs : slots + 6 ≤ R.slots) (hM : cells + 1 ≤ M) (hN : slots + 6 ≤ N) (hRf : names.length + 3 < R.frames) (hRl : (rest.map fun v => v.category).sum + (13 * (names.length + 1) + 43) ≤ R.locals)
    (hq : ∀ (z : Nat) (t : State), xt_Th cls z t → xt_K s t → Qc args s (.threw z) t) :
    W p l e R s m args below meth c s.heap [] cells slots (MQT below Qc args s M N free') (F0 m pc ls rest) := fun T hT X =>
  xt_throw hx hb hml ((show e.platform.stackTraces = l.stackTraces by rw [X.admits.platform]).trans hl0) hown hcls hnames h hclink hini hstr hno hlk hd0 hd3 hd4 hd6 hd9 hRc hRs hM hN hRf hRl hq T hT X
/-- a guard's call, at the start of a method that may throw -/
theorem tr_callV (S : CallFix p m c cc nL s args Ts own) (hMt : MTr l E y ws rm D cl tys (.ref b :: As) w0 x) (hE : okE E) (cw : CallW R s args own C index y bytes maxL ret ws rm 1 6 n) (hrc : ∃ cellB : Cell, s.heap[b]? = some cellB ∧ cellB.vm.isStatics = false ∧ s.vm.findClass C = some cellB.cls)
    (hP : va_P D cl w0 s.heap) (hD : va_D A w0) (hK : va_K D cl tys s) (hA : ∀ q : Nat, s.heap.size ≤ q → A q) (hT : E A s s.heap) (hn : As.length = n) (hsz : ls.size = nL) (hst : st0 = As.reverse ++ .ref b :: rest) (hW : (rest.map fun v => v.category).sum ≤ 8) (hdg : decode cc pc = .ok (.invokevirtual index, 3)) (hf : cells + 1 ≤ R.cells ∧ slots + 6 ≤ R.slots)
    (hno : c.exceptionTable.isEmpty = true) (hlk : meth.locks = false) (hM : cells + 1 ≤ M) (hN : slots + 6 ≤ N) (hq : ∀ (nm : String) (z : Nat) (t : State), x = some nm → xt_Th nm z t → xt_K s t → Qc args s (.threw z) t)
    (kk : x = none → W p l e R s m args below meth c s.heap [] (cells + 1) (slots + 6) (MQT below Qc args s M N free') (F0 m (pc + 3) ls rest)) : W p l e R s m args below meth c s.heap [] cells slots (MQT below Qc args s M N free') (F0 m pc ls st0) :=
  xt_req (φ := fun _ : Unit => x = none) (xt_runV (As := As) (rest := rest) S (hMt s.heap.size) cw ⟨mc_blind hE, hrc, mc_pre hE hP hD hK va_S.rf hA hT _⟩ rfl hn hsz hst (lv_room hW) hdg hf) (fun _ h => h) hno hlk (fun _ _ _ h => ⟨h.2, h.1⟩) hM hN hq (fun _ h => kk h)
theorem tr_callS (S : CallFix p m c cc nL s args Ts own) (hMt : MTr l E y ws rm D cl tys As w0 x) (hE : okE E) (cw : CallB R s args own index y bytes maxL ret ws rm 1 6 n ∧ (Cond.static y).before args s = true)
    (hP : va_P D cl w0 s.heap) (hD : va_D A w0) (hK : va_K D cl tys s) (hA : ∀ q : Nat, s.heap.size ≤ q → A q) (hT : E A s s.heap) (hn : As.length = n) (hsz : ls.size = nL) (hst : st0 = As.reverse ++ rest) (hW : (rest.map fun v => v.category).sum ≤ 8) (hdg : decode cc pc = .ok (.invokestatic index, 3)) (hf : cells + 1 ≤ R.cells ∧ slots + 6 ≤ R.slots)
    (hno : c.exceptionTable.isEmpty = true) (hlk : meth.locks = false) (hM : cells + 1 ≤ M) (hN : slots + 6 ≤ N) (hq : ∀ (nm : String) (z : Nat) (t : State), x = some nm → xt_Th nm z t → xt_K s t → Qc args s (.threw z) t)
    (kk : x = none → W p l e R s m args below meth c s.heap [] (cells + 1) (slots + 6) (MQT below Qc args s M N free') (F0 m (pc + 3) ls rest)) : W p l e R s m args below meth c s.heap [] cells slots (MQT below Qc args s M N free') (F0 m pc ls st0) :=
  xt_req (φ := fun _ : Unit => x = none) (xt_runS (As := As) (rest := rest) S (hMt s.heap.size) cw ⟨mc_blind hE, mc_pre hE hP hD hK va_S.rf hA hT _⟩ rfl hn hsz hst (lv_room hW) hdg hf) (fun _ h => h) hno hlk (fun _ _ _ h => ⟨h.2, h.1⟩) hM hN hq (fun _ h => kk h)
end TR
/-- the four words of a throw that speak of the heap -/
def xW : List Cond := [.isRef (.static Bundle.tN "UNASSIGNED_STACK" Bundle.steD), .isRef (.static Bundle.tN "SUPPRESSED_SENTINEL" Bundle.listD), .laysStatic Bundle.tN "UNASSIGNED_STACK" Bundle.steD, .laysStatic Bundle.tN "SUPPRESSED_SENTINEL" Bundle.listD]
def xCl : List Cond := [.castable "java/lang/IllegalArgumentException" "java/lang/IllegalArgumentException", .castable "java/lang/UnsupportedOperationException" "java/lang/UnsupportedOperationException", .castable "java/lang/IllegalStateException" "java/lang/IllegalStateException", .castable "java/lang/IndexOutOfBoundsException" "java/lang/IndexOutOfBoundsException", .declares ⟨"java/lang/RuntimeException", "<init>", "(Ljava/lang/String;)V"⟩, .declares ⟨"java/lang/Exception", "<init>", "(Ljava/lang/String;)V"⟩, .declares ⟨"java/lang/Throwable", "<init>", "(Ljava/lang/String;)V"⟩]
theorem own_ok {args : Array Value} {s : State} {A : Nat → Prop} {L : List Cond} (h1 : ∀ w ∈ L, w ∈ tW ∨ w ∈ xCl ∨ w ∈ xW) (hW : ∀ w ∈ tW, w.before args s = true) (hT : gE A s s.heap) : ∀ w ∈ L, w.before args s = true := by
  intro w hw
  rcases h1 w hw with h | h | h
  · exact hW w h
  · have g := hT.2.2.2
    simp only [xCl, List.mem_cons, List.not_mem_nil, or_false] at h
    rcases h with rfl | rfl | rfl | rfl | rfl | rfl | rfl
    · exact g (.castable "java/lang/IllegalArgumentException" "java/lang/IllegalArgumentException") (by decide +kernel)
    · exact g (.castable "java/lang/UnsupportedOperationException" "java/lang/UnsupportedOperationException") (by decide +kernel)
    · exact g (.castable "java/lang/IllegalStateException" "java/lang/IllegalStateException") (by decide +kernel)
    · exact g (.castable "java/lang/IndexOutOfBoundsException" "java/lang/IndexOutOfBoundsException") (by decide +kernel)
    · exact g (.declares ⟨"java/lang/RuntimeException", "<init>", "(Ljava/lang/String;)V"⟩) (by decide +kernel)
    · exact g (.declares ⟨"java/lang/Exception", "<init>", "(Ljava/lang/String;)V"⟩) (by decide +kernel)
    · exact g (.declares ⟨"java/lang/Throwable", "<init>", "(Ljava/lang/String;)V"⟩) (by decide +kernel)
  · simp only [xW, List.mem_cons, List.not_mem_nil, or_false] at h
    rcases h with rfl | rfl | rfl | rfl
    · exact hT.2.1.ref
    · exact hT.2.2.1.ref
    · exact hT.2.1.lays
    · exact hT.2.2.1.lays
set_option maxRecDepth 100000 in
theorem own_IAE : ∀ w ∈ Bundle.ownAtoms RX1 64 "java/lang/IllegalArgumentException" ["java/lang/RuntimeException", "java/lang/Exception"], w ∈ tW ∨ w ∈ xCl ∨ w ∈ xW := by decide +kernel
set_option maxRecDepth 100000 in
theorem own_UOE : ∀ w ∈ Bundle.ownAtoms RX1 71 "java/lang/UnsupportedOperationException" ["java/lang/RuntimeException", "java/lang/Exception"], w ∈ tW ∨ w ∈ xCl ∨ w ∈ xW := by decide +kernel
set_option maxRecDepth 100000 in
theorem own_ISE : ∀ w ∈ Bundle.ownAtoms RX1 108 "java/lang/IllegalStateException" ["java/lang/RuntimeException", "java/lang/Exception"], w ∈ tW ∨ w ∈ xCl ∨ w ∈ xW := by decide +kernel
set_option maxRecDepth 100000 in
theorem own_IOB : ∀ w ∈ Bundle.ownAtoms RX1 147 "java/lang/IndexOutOfBoundsException" ["java/lang/RuntimeException", "java/lang/Exception"], w ∈ tW ∨ w ∈ xCl ∨ w ∈ xW := by decide +kernel
