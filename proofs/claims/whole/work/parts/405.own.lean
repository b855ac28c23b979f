/-! CAUGHT BY A NAMED ROW BEHIND ROWS THAT ARE PASSED; new int[N][M]: both over the library's first layers -/
theorem og_row {Q : Handler → Pre} {E : CtlPost} {e : Env} {d : Bool} {acts : List Action} {s : State} {f : JFrame} {a : Addr} {z : ExceptionTableEntry} {t : List ExceptionTableEntry} {cX : ClassId} {cell : Cell} (hz : covers z f.pc = true) (h0 : z.catchType ≠ 0) (hl : s.vm.ClassLinks e.platform f.method.cls z.catchType cX) (hcell : s.heap[a]? = some cell) (hobj : ∀ k, cell.vm ≠ .statics k) (hk : ∃ k, s.vm.classes[cell.cls]? = some k) (hc : ∃ k, s.vm.classes[cX]? = some k) :
    wp (findHandler.go f a (z :: t)) Q E e d acts s ↔ if s.vm.assignable cell.cls cX = true then Q (.found z.handlerPc) d acts (s.setVm (s.vm.noted f.method.cls z.catchType (.cls cX))) else wp (findHandler.go f a t) Q E e d acts (s.setVm (s.vm.noted f.method.cls z.catchType (.cls cX))) := by
  simp only [covers] at hz
  obtain ⟨r1, r2⟩ := (resolveClass_links e.toSetting hl).op (op := VmOp.resolveClass f.method.cls z.catchType) rfl
  have hal : s.vm.Alike (s.vm.noted f.method.cls z.catchType (.cls cX)) := (Vm.Alike.refl s.vm).noted _ _ _
  obtain ⟨k1, h1⟩ := hk
  obtain ⟨k2, h2⟩ := hc
  obtain ⟨k3, h3, -⟩ := hal.2.2 _ _ h1
  obtain ⟨k4, h4, -⟩ := hal.2.2 _ _ h2
  have has : (s.vm.noted f.method.cls z.catchType (.cls cX)).assignable cell.cls cX = s.vm.assignable cell.cls cX := by rw [hal.assignable]
  cases hf : s.vm.assignable cell.cls cX <;> simp [findHandler.go, hz, h0, r1, r2, hcell, hobj, h3, h4, has, hf, VmOp.dirties, VmOp.acts]
def og_pass (s0 : State) (pl : Platform) (d th : ClassId) (y : ExceptionTableEntry) : Prop := y.catchType ≠ 0 ∧ ∃ cY, s0.vm.ClassLinks pl d y.catchType cY ∧ s0.vm.assignable th cY = false
theorem og_go {e : Env} {s0 : State} {f : JFrame} {a : Addr} {cell : Cell} (hobj : ∀ k, cell.vm ≠ .statics k) {k0 : Class} (hk0 : s0.vm.classes[cell.cls]? = some k0) (z : ExceptionTableEntry) (rest : List ExceptionTableEntry) {cZ : ClassId} (hz : covers z f.pc = true) (hz0 : z.catchType ≠ 0) (hzl : s0.vm.ClassLinks e.platform f.method.cls z.catchType cZ) (hzf : s0.vm.assignable cell.cls cZ = true) :
    ∀ (pre : List ExceptionTableEntry) (S : State), s0.WarmedH S.vm → S.heap[a]? = some cell → (∀ y ∈ pre, og_pass s0 e.platform f.method.cls cell.cls y) →
      ∃ vm', s0.WarmedH vm' ∧ ∀ (Q : Handler → Pre) (E : CtlPost) (d : Bool) (acts : List Action), wp (findHandler.go f a (pre ++ z :: rest)) Q E e d acts S ↔ Q (.found z.handlerPc) d acts (S.setVm vm')
  | [], S, hW, hcell, _ => by
    obtain ⟨k1, h1, -⟩ := hW.alike.2.2 _ _ hk0
    obtain ⟨dk, _, _, kt, hd, _, _, _, _, hkt, _, hopen⟩ := hzl.here
    obtain ⟨k2, h2, -⟩ := hW.alike.2.2 _ _ hkt
    refine ⟨_, hW.noted hd hopen (State.rightAt_cls hzl), fun Q E d acts => ?_⟩
    rw [List.nil_append, og_row hz hz0 (hW.classLinks hzl) hcell hobj ⟨k1, h1⟩ ⟨k2, h2⟩, if_pos (by rw [hW.alike.assignable]; exact hzf)]
  | y :: ys, S, hW, hcell, hp => by
    have hr : ∀ w ∈ ys, og_pass s0 e.platform f.method.cls cell.cls w := fun w hw => hp w (List.mem_cons_of_mem _ hw)
    cases hcov : covers y f.pc with
    | false =>
      obtain ⟨vm', hW', hq⟩ := og_go hobj hk0 z rest hz hz0 hzl hzf ys S hW hcell hr
      exact ⟨vm', hW', fun Q E d acts => by rw [List.cons_append, W.findHandler_go_skip hcov]; exact hq Q E d acts⟩
    | true =>
      obtain ⟨h0, cY, hl, hno⟩ := hp y List.mem_cons_self
      obtain ⟨k1, h1, -⟩ := hW.alike.2.2 _ _ hk0
      obtain ⟨dk, _, _, kt, hd, _, _, _, _, hkt, _, hopen⟩ := hl.here
      obtain ⟨k2, h2, -⟩ := hW.alike.2.2 _ _ hkt
      obtain ⟨vm', hW', hq⟩ := og_go hobj hk0 z rest hz hz0 hzl hzf ys (S.setVm (S.vm.noted f.method.cls y.catchType (.cls cY))) (hW.noted hd hopen (State.rightAt_cls hl)) hcell hr
      refine ⟨vm', hW', fun Q E d acts => ?_⟩
      rw [List.cons_append, og_row hcov h0 (hW.classLinks hl) hcell hobj ⟨k1, h1⟩ ⟨k2, h2⟩, if_neg (by rw [hW.alike.assignable, hno]; decide)]
      exact hq Q E d acts
theorem og_thr {e : Env} {s : State} {a : Addr} {f : JFrame} {r : List Frame} {pc : Nat} {vm' : Vm} (hfind : ∀ (Q : Handler → Pre) (E : CtlPost) (d : Bool) (acts : List Action), wp (findHandler f a) Q E e d acts s ↔ Q (.found pc) d acts (s.setVm vm')) :
    (stepThrowing e s a (.java f :: r)).Is ((s.setVm vm').setFrames (.java { f with pc := pc, stack := [.ref a] } :: r)) [] := by
  simp only [stepThrowing, searchFrame, vmDo]
  generalize hr : Sem.go _ e false [] s = res
  obtain ⟨as, rfl, ha⟩ := Sem.eq_ok_of hr (a := Handler.found pc) (s' := s.setVm vm') (acts' := []) (by simp [hfind _ _ _ _])
  exact ⟨rfl, ha⟩
theorem og_sf (u : State) (vm' : Vm) (F G : List Frame) : ((u.setFrames F).setVm vm').setFrames G = (u.setVm vm').setFrames G := by
  show ((u.setVm vm').setFrames F).setFrames G = _
  rw [State.setFrames_setFrames]
theorem og_step {tb : Tables} {e : Env} {s target : State} {g : JFrame} {c : Code} {below : List Frame} {a : Addr} (h : At s g.method c below) {pc : Nat} {vm' : Vm}
    (hfind : ∀ (Q : Handler → Pre) (E : CtlPost) (d : Bool) (acts : List Action), wp (findHandler g a) Q E e d acts ((s.setTop g).pushFrame (.throwing a)) ↔ Q (.found pc) d acts (((s.setTop g).pushFrame (.throwing a)).setVm vm')) (hrest : Steps tb e below ((s.setVm vm').setTop { g with pc := pc, stack := [.ref a] }) target) : Steps tb e below ((s.setTop g).pushFrame (.throwing a)) target := by
  obtain ⟨hgo, hw⟩ := h.throwing a
  refine Steps.head hgo hw ?_
  rw [stepThread_throwing (frames_entered h.top _), (og_thr (s := (s.setTop g).pushFrame (.throwing a)) hfind).1]
  obtain ⟨g0, hg⟩ := Option.isSome_iff_exists.mp h.top
  obtain ⟨r, hr⟩ := State.topJava?_eq_some.mp hg
  have hr' : (s.setVm vm').frames = .java g0 :: r := hr
  rw [State.setTop_of_frames _ hr'] at hrest
  rw [hr, State.pushFrame, og_sf, State.setTop_of_frames _ hr, og_sf]
  exact hrest
theorem og_over {args : Array Value} {s : State} (h : (Cond.arrayOver (.array .int)).before args s = true) :
    ∃ comp cA kA, s.vm.findClass (FieldType.array .int).toString = some comp ∧ s.vm.classes[cA]? = some kA ∧ kA.kind = .array comp (.array .int) ∧ s.vm.findClass ("[" ++ (FieldType.array .int).toString) = some cA := by
  simp only [Cond.before, Cond.holds, Cond.value, beq_iff_eq] at h
  rcases hc : s.vm.findClass (FieldType.array .int).toString with _ | comp
  · simp [hc] at h
  · simp only [hc, Option.bind_some, Option.bind_eq_some_iff, Option.map_eq_some_iff] at h
    obtain ⟨cA, hi, kA, hk, hb⟩ := h
    obtain ⟨hlt, hp, -⟩ := Array.findIdx?_eq_some_iff_getElem.mp hi
    rw [(Array.getElem?_eq_some_iff.mp hk).2] at hp
    rcases hkd : kA.kind with _ | _ | ⟨co, ty⟩
    all_goals (rw [hkd] at hb hp; simp at hb hp)
    exact ⟨comp, cA, kA, rfl, hk, by rw [hkd, hp, hb.1], hb.2⟩
def g2_in (cI : ClassId) (M : Nat) : Cell := { cls := cI, slots := Array.replicate M (.int 0), vm := .none }
def g2_out (cA : ClassId) (N h : Nat) : Nat → Cell
  | 0 => { cls := cA, slots := Array.replicate N .null, vm := .none }
  | i + 1 => (g2_out cA N h i).setSlot i (.ref (h + 1 + i))
def g2_st (T : State) (cA cI : ClassId) (N M : Nat) : Nat → State
  | 0 => T.pushCell (g2_out cA N T.heap.size 0)
  | i + 1 => ((g2_st T cA cI N M i).pushCell (g2_in cI M)).setCell T.heap.size (g2_out cA N T.heap.size (i + 1))
theorem g2_out_is (cA : ClassId) (N h : Nat) : ∀ i, i ≤ N → g2_out cA N h i = arrV cA N (fun j => if j < i then .ref (h + 1 + j) else .null)
  | 0, _ => by
    show ({ cls := cA, slots := Array.replicate N .null, vm := .none } : Cell) = _
    rw [arrV_new]
    congr 1
  | i + 1, hi => by
    show (g2_out cA N h i).setSlot i (.ref (h + 1 + i)) = _
    rw [g2_out_is cA N h i (by omega), arrV_store]
    congr 1
    funext j
    simp only [updV]
    by_cases hj : j = i
    · subst hj
      rw [if_pos rfl, if_pos (by omega)]
    · rw [if_neg hj]
      by_cases hl : j < i
      · rw [if_pos hl, if_pos (by omega)]
      · rw [if_neg hl, if_neg (by omega)]
theorem g2_out_size (cA : ClassId) (N h : Nat) : ∀ i, (g2_out cA N h i).cls = cA ∧ (g2_out cA N h i).vm = .none ∧ (g2_out cA N h i).slots.size = N
  | 0 => ⟨rfl, rfl, by simp [g2_out]⟩
  | i + 1 => by
    obtain ⟨a, b, d⟩ := g2_out_size cA N h i
    exact ⟨by simp [g2_out, Cell.setSlot, a], by simp [g2_out, Cell.setSlot, b], by simp [g2_out, Cell.setSlot, d]⟩
theorem g2_st_is (T : State) (cA cI : ClassId) (N M : Nat) : ∀ i, (g2_st T cA cI N M i).heap.size = T.heap.size + 1 + i ∧ (g2_st T cA cI N M i).heap[T.heap.size]? = some (g2_out cA N T.heap.size i) ∧ (g2_st T cA cI N M i).vm = T.vm ∧ (g2_st T cA cI N M i).slotsUsed = T.slotsUsed + N + i * M ∧
    (∀ a : Nat, a < T.heap.size → (g2_st T cA cI N M i).heap[a]? = T.heap[a]?) ∧ ∀ j : Nat, j < i → (g2_st T cA cI N M i).heap[T.heap.size + 1 + j]? = some (g2_in cI M)
  | 0 => ⟨by simp [g2_st], by simp [g2_st], rfl, by simp [g2_st, g2_out], fun a ha => State.heap_pushCell_of_lt _ _ ha, fun j hj => absurd hj (by omega)⟩
  | i + 1 => by
    obtain ⟨a, b, d, u, o, n⟩ := g2_st_is T cA cI N M i
    have hlt : T.heap.size < (g2_st T cA cI N M i).heap.size := by omega
    have hb' : ((g2_st T cA cI N M i).pushCell (g2_in cI M)).heap[T.heap.size]? = some (g2_out cA N T.heap.size i) := by rw [State.heap_pushCell_of_lt (h := hlt)]; exact b
    refine ⟨?_, State.heap_setCell_self hb', by simp [g2_st, d], ?_, fun q hq => ?_, fun j hj => ?_⟩
    · simp [g2_st, State.setCell, a]; omega
    · simp [g2_st, u, g2_in, Nat.succ_mul]; omega
    · show (((g2_st T cA cI N M i).pushCell (g2_in cI M)).setCell T.heap.size _).heap[q]? = _
      rw [State.heap_setCell_other (Nat.ne_of_gt hq), State.heap_pushCell_of_lt (h := show q < (g2_st T cA cI N M i).heap.size by omega)]
      exact o q hq
    · show (((g2_st T cA cI N M i).pushCell (g2_in cI M)).setCell T.heap.size _).heap[T.heap.size + 1 + j]? = _
      rw [State.heap_setCell_other (show T.heap.size ≠ T.heap.size + 1 + j by omega)]
      by_cases hji : j < i
      · rw [State.heap_pushCell_of_lt (h := show T.heap.size + 1 + j < (g2_st T cA cI N M i).heap.size by omega)]
        exact n j hji
      · have e : T.heap.size + 1 + j = (g2_st T cA cI N M i).heap.size := by omega
        rw [e]
        simp
theorem g2_st_top (T : State) (f : JFrame) (cA cI : ClassId) (N M : Nat) : ∀ i, g2_st (T.setTop f) cA cI N M i = (g2_st T cA cI N M i).setTop f
  | 0 => rfl
  | i + 1 => by simp only [g2_st, g2_st_top T f cA cI N M i, State.heap_setTop, State.pushCell_setTop, State.setCell_setTop]
section G2W
variable {E : CtlPost} {e : Env} {d : Bool} {acts : List Action} {s : State}
theorem g2_row {cI ci : ClassId} {kI : Class} {m : Int32} (hkI : s.vm.classes[cI]? = some kI) (hkindI : kI.kind = .array ci .int) (hm : ¬ m < 0) (hl : ¬ m.toNatClampNeg > e.platform.arrayLengthLimit) (hh : ¬ m.toNatClampNeg * componentBytes .int > e.platform.maxHeapBytes)
    (h1 : s.heap.size < e.platform.maxCells) (h2 : s.slotsUsed + m.toNatClampNeg ≤ e.platform.maxSlots) {Q : Addr → Pre} (hq : ∀ acts', Q s.heap.size d acts' (s.pushCell (g2_in cI m.toNatClampNeg))) : wp (multianewarray.make cI [m]) Q E e d acts s := by
  rw [multianewarray.make]
  simp only [wp_bind', W.ite, hm, if_false, wp_pure', W.theClass, hkI, hkindI, Option.some.injEq, exists_eq_left']
  exact W.newArray_of hkI hkindI hl hh h1 h2 rfl hq
theorem g2_rows {cA cI ci : ClassId} {kA kI : Class} {n m : Int32} (hkA : s.vm.classes[cA]? = some kA) (hkindA : kA.kind = .array cI (.array .int)) (hkI : s.vm.classes[cI]? = some kI) (hkindI : kI.kind = .array ci .int) (hn : ¬ n < 0) (hm : ¬ m < 0)
    (hl1 : ¬ n.toNatClampNeg > e.platform.arrayLengthLimit) (hh1 : ¬ n.toNatClampNeg * componentBytes (.array .int) > e.platform.maxHeapBytes) (hl2 : ¬ m.toNatClampNeg > e.platform.arrayLengthLimit) (hh2 : ¬ m.toNatClampNeg * componentBytes .int > e.platform.maxHeapBytes)
    (hc : s.heap.size + 1 + n.toNatClampNeg ≤ e.platform.maxCells) (hs : s.slotsUsed + n.toNatClampNeg + n.toNatClampNeg * m.toNatClampNeg ≤ e.platform.maxSlots)
    {Q : Addr → Pre} (hq : ∀ d' acts', Q s.heap.size d' acts' (g2_st s cA cI n.toNatClampNeg m.toNatClampNeg n.toNatClampNeg)) : wp (multianewarray.make cA [n, m]) Q E e d acts s := by
  generalize hN : n.toNatClampNeg = N at *
  generalize hM : m.toNatClampNeg = M at *
  have hfind : ([m].find? (· < 0)) = none := by simp [hm]
  rw [multianewarray.make]
  simp only [wp_bind', W.ite, hn, if_false, wp_pure', W.theClass, hkA, hkindA, Option.some.injEq, exists_eq_left', hN]
  refine W.newArray_of hkA hkindA hl1 hh1 (by omega) (by have := Nat.zero_le (N * M); omega) rfl (fun acts' => ?_)
  simp only [hfind]
  rw [ite_self, wp_bind', Std.Legacy.Range.forIn_eq_forIn_range']
  have hsz : ([:N] : Std.Legacy.Range).size = N := by simp [Std.Legacy.Range.size]
  rw [hsz]
  show wp (forIn (List.range' 0 N 1) PUnit.unit _) _ E e d acts' _
  refine wp_forIn_inv (fun rest s' => ∃ i, i ≤ N ∧ rest = List.range' i (N - i) ∧ s' = g2_st s cA cI N M i) _ _ ⟨0, Nat.zero_le _, rfl, rfl⟩ ?_ ?_
  · rintro x rest s' d' acts2 Q' ⟨i, hi, hl, rfl⟩ hnext
    have hlt : i < N := by
      rcases Nat.lt_or_ge i N with h | h
      · exact h
      · rw [show N - i = 0 by omega] at hl; simp at hl
    rw [show N - i = (N - (i + 1)) + 1 by omega, List.range'_succ] at hl
    obtain ⟨rfl, hrest⟩ := List.cons.inj hl
    obtain ⟨f1, f2, f3, f4, f5, f6⟩ := g2_st_is s cA cI N M x
    obtain ⟨o1, o2, o3⟩ := g2_out_size cA N s.heap.size x
    have hmul : x * M + M ≤ N * M := by
      have := Nat.mul_le_mul_right M (show x + 1 ≤ N from hlt)
      rw [Nat.succ_mul] at this
      exact this
    simp only [wp_bind']
    refine g2_row (by rw [f3]; exact hkI) hkindI hm (by rw [hM]; exact hl2) (by rw [hM]; exact hh2) (by rw [f1]; omega) (by rw [f4, hM]; omega) (fun acts3 => ?_)
    have hlt0 : s.heap.size < (g2_st s cA cI N M x).heap.size := by rw [f1]; omega
    simp only [wp_bind', W.writeLoc, wp_pure']
    refine ⟨g2_out cA N s.heap.size x, by rw [State.heap_pushCell_of_lt (h := hlt0)]; exact f2, by rw [o2]; simp, by rw [o3]; exact hlt, ?_, hnext _ _ _ ⟨x + 1, hlt, hrest, ?_⟩⟩
    · rw [o1, o2]
      simp [State.fitsSlot, State.slotType?, f3, hkA, hkindA, fits]
    · rw [f1, hM]; rfl
  · rintro s' d' acts2 ⟨i, hi, hl, rfl⟩
    have hiN : i = N := by
      rcases Nat.lt_or_ge i N with h | h
      · rw [show N - i = (N - (i + 1)) + 1 by omega, List.range'_succ] at hl; cases hl
      · omega
    subst hiN
    simp only [wp_pure']
    exact hq _ _
end G2W
section G2S
variable {p : Program} {l : Launch} {e : Env} {R : Room} {s : State} {m : MethodId} {args : Array Value} {below : List Frame} {meth : Method} {c : Code} {T : State} {locs : List Loc} {cells slots : Nat}
theorem g2_stand (X : Stand p l e R s m args below meth c T locs cells slots) (cA cI : ClassId) (N M : Nat) : ∀ i, Stand p l e R s m args below meth c (g2_st T cA cI N M i) (locs ++ (List.range i).map fun j => ⟨T.heap.size, j⟩) (cells + 1 + i) (slots + N + i * M)
  | 0 => by
    have h := X.pushed (g2_out cA N T.heap.size 0)
    rw [(g2_out_size cA N T.heap.size 0).2.2] at h
    simpa [g2_st] using h
  | i + 1 => by
    have Y := g2_stand X cA cI N M i
    obtain ⟨f1, f2, -⟩ := g2_st_is T cA cI N M i
    have hlt : T.heap.size < (g2_st T cA cI N M i).heap.size := by rw [f1]; omega
    have h := (Y.pushed (g2_in cI M)).stored (show ((g2_st T cA cI N M i).pushCell (g2_in cI M)).heap[T.heap.size]? = some (g2_out cA N T.heap.size i) by rw [State.heap_pushCell_of_lt (h := hlt)]; exact f2) i (.ref (T.heap.size + 1 + i))
    rw [show (g2_in cI M).slots.size = M by simp [g2_in]] at h
    rw [show (locs ++ (List.range (i + 1)).map fun j => (⟨T.heap.size, j⟩ : Loc)) = (locs ++ (List.range i).map fun j => (⟨T.heap.size, j⟩ : Loc)) ++ [⟨T.heap.size, i⟩] by simp [List.range_succ, List.append_assoc], show slots + N + (i + 1) * M = slots + N + i * M + M by rw [Nat.succ_mul]; omega]
    exact h
/-- multianewarray of int[N][M], as a step -/
theorem g2_step (X : Stand p l e R s m args below meth c T locs cells slots) (hexec : p.tables.exec = Jvm.exec) {own : String} {index : Nat} (hown : s.vm.findClass own = some m.cls) (hclink : (Cond.classLink own index ("[" ++ (FieldType.array .int).toString)).before args s = true) (hover : (Cond.arrayOver (.array .int)).before args s = true) (harr : (Cond.arrayClass .int).before args s = true)
    {g : JFrame} (hg : g.method = m) (hdg : decode c.code g.pc = .ok (.multianewarray index 2, 4)) {n k : Int32} {rest : List Value} (hstack : g.stack = .int k :: .int n :: rest) (hn : ¬ n < 0) (hk : ¬ k < 0) (hn2 : n.toNatClampNeg ≤ 1000) (hk2 : k.toNatClampNeg ≤ 1000)
    (hcells : cells + (1 + n.toNatClampNeg) ≤ R.cells) (hslots : slots + (n.toNatClampNeg + n.toNatClampNeg * k.toNatClampNeg) ≤ R.slots) :
    ∃ (vm₁ : Vm) (cA cI : ClassId), s.vm.findClass ("[" ++ (FieldType.array .int).toString) = some cA ∧ s.vm.findClass (FieldType.array .int).toString = some cI ∧ Stand p l e R s m args below meth c (g2_st (T.setVm vm₁) cA cI n.toNatClampNeg k.toNatClampNeg n.toNatClampNeg) locs (cells + 1 + n.toNatClampNeg) (slots + n.toNatClampNeg + n.toNatClampNeg * k.toNatClampNeg) ∧
      ∀ target, Steps p.tables e below ((g2_st (T.setVm vm₁) cA cI n.toNatClampNeg k.toNatClampNeg n.toNatClampNeg).setTop { g with pc := g.pc + 4, stack := .ref T.heap.size :: rest }) target → Steps p.tables e below (T.setTop g) target := by
  subst hg
  have hpl : e.platform.magicAccessors = ({} : Platform).magicAccessors := by rw [X.admits.platform]
  obtain ⟨cI, cA, kA, hcI, hkA, hkd, hnA⟩ := og_over hover
  obtain ⟨cI', kI, co, hcI', hkI, hkdI⟩ := Cond.arrayClass_spec harr
  cases Option.some.inj (hcI'.symm.trans hcI)
  obtain ⟨c0, hc0, hcl⟩ := Cond.classLink_spec hown hclink e.platform hpl
  cases hnA.symm.trans hc0
  obtain ⟨hg₁, hw, -⟩ := State.classEntry (e := e) X.warmed hcl
  generalize T.vm.noted g.method.cls index (.cls cA) = vm₁ at hg₁ hw
  obtain ⟨kA₁, hkA₁, eA⟩ := hw.alike.2.2 _ _ hkA
  obtain ⟨kI₁, hkI₁, eI⟩ := hw.alike.2.2 _ _ hkI
  have Y := X.noted hw
  have Z := g2_stand Y cA cI n.toNatClampNeg k.toNatClampNeg n.toNatClampNeg
  obtain ⟨hr1, hr2⟩ := X.roomAbove hcells hslots
  refine ⟨vm₁, cA, cI, hnA, hcI, Z.dropFresh (fun x hx => ?_), fun target hrest => ?_⟩
  · obtain ⟨j, -, rfl⟩ := List.mem_map.mp hx
    exact X.heapGrown
  · have l1 : ¬ n.toNatClampNeg > e.platform.arrayLengthLimit := by rw [Launch.admits_arrayLengthLimit X.admits]; omega
    have b1 : ¬ n.toNatClampNeg * componentBytes (.array .int) > e.platform.maxHeapBytes := by
      rw [Launch.admits_maxHeapBytes X.admits]; show ¬ n.toNatClampNeg * 4 > 536870912; omega
    have l2 : ¬ k.toNatClampNeg > e.platform.arrayLengthLimit := by rw [Launch.admits_arrayLengthLimit X.admits]; omega
    have b2 : ¬ k.toNatClampNeg * componentBytes .int > e.platform.maxHeapBytes := by
      rw [Launch.admits_maxHeapBytes X.admits]; show ¬ k.toNatClampNeg * 4 > 536870912; omega
    jvm_step X.here [hexec, hdg]
    simp only [multianewarray.sem, wp_bind', W.resolveClassAt_links (State.method?_setTop g X.here.top) hg₁]
    rw [W.popN, if_neg (by decide)]
    refine ⟨g, State.topJava?_setTop' (s := T.setVm vm₁) g X.here.top, [.int n, .int k], rest, rfl, hstack, ?_⟩
    simp only [List.mapM_cons, List.mapM_nil, wp_bind', wp_pure']
    refine g2_rows (kA := kA₁) (kI := kI₁) (cI := cI) (ci := co) hkA₁ (by rw [eA]; exact hkd) hkI₁ (by rw [eI]; exact hkdI) hn hk l1 b1 l2 b2 (by show T.heap.size + 1 + _ ≤ _; omega) (by show T.slotsUsed + _ + _ ≤ _; omega) (fun d' acts' => ?_)
    rw [show ((T.setTop g).setVm vm₁).setTop { g with stack := rest } = (T.setVm vm₁).setTop { g with stack := rest } by
      show ((T.setVm vm₁).setTop g).setTop _ = _
      rw [State.setTop_setTop], g2_st_top]
    simp only [wp_bind', W.mark, W.pushRef, State.topJava?_setTop' _ Z.here.top, Option.some.injEq, exists_eq_left', State.setTop_setTop, State.heap_setTop]
    intro acts
    simp [jvm, Z.here.top]
    exact hrest
end G2S
