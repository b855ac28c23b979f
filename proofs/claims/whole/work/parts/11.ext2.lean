/-! throwing: what a thrown exception is, the shape of a contract that may throw, its rows -/
def xt_Th (nm : String) (x : Nat) (t : State) : Prop := ∃ ce : Cell, t.heap[x]? = some ce ∧ ce.vm = .none ∧ t.vm.findClass nm = some ce.cls
def xt_K (st t : State) : Prop := st.heap.size ≤ t.heap.size ∧ ∀ q : Nat, q < st.heap.size → t.heap[q]? = st.heap[q]?
/-- it returns 'val u' with 'post u st t', or throws an exception of a class that 'thr' names, no old cell changed -/
def xt_Q {S : Type} (val : S → Option Value) (post : S → State → State → Prop) (thr : String → Prop) : Array Value → State → Outcome → State → Prop := fun _ st oc t =>
  (∃ u : S, oc = .returned (val u) ∧ post u st t) ∨ ∃ (nm : String) (x : Nat), oc = .threw x ∧ thr nm ∧ xt_Th nm x t ∧ xt_K st t
theorem xt_kept {s t : State} {k n : Nat} (h : s.sameButNew t [] k n) : s.heap.size ≤ t.heap.size ∧ ∀ q : Nat, q < s.heap.size → t.heap[q]? = s.heap[q]? := by
  obtain ⟨-, h1, -, -, -, h2⟩ := h
  refine ⟨h1, fun q hq => ?_⟩
  obtain ⟨c', e1, e2, e3, e4⟩ := h2 q s.heap[q] (Array.getElem?_eq_getElem hq)
  have es : c'.slots = s.heap[q].slots := Array.ext_getElem? (fun i => e4 i (by simp))
  have ec : c' = s.heap[q] := by
    rw [es] at e2
    exact e2
  rw [e1, ec, Array.getElem?_eq_getElem hq]
section XT3
variable {p : Program} {l : Launch} {e : Env} {R : Room} {s : State} {m : MethodId} {args : Array Value} {below : List Frame} {meth : Method} {c : Code} {H : Heap} {locs : List Loc} {cells slots : Nat} {Q : State → Prop}
variable {pc nL mc ms M N : Nat} {ls : Array Slot} {rest st0 : List Value} {a : Array Value} {free free' : Addr → Prop} {Qc : Array Value → State → Outcome → State → Prop} {cc : ByteArray}
theorem xt_none (h : c.exceptionTable.isEmpty = true) (pc : Nat) : ∀ x ∈ c.exceptionTable.toList, covers x pc = false := by
  intro x hx
  have : c.exceptionTable.toList = [] := by
    rw [Array.isEmpty_iff] at h
    rw [h]
  rw [this] at hx
  cases hx
/-- a guard called at a method's start: it comes back with nothing changed, or its exception goes on to the caller -/
theorem xt_req {S : Type} {val : S → Option Value} {post : S → State → State → Prop} {thr : String → Prop} {φ : S → Prop}
    (hr : xt_Run p l e R s m args below meth c s.heap [] cells slots mc ms (F0 m pc ls st0) rest (xt_Q val post thr a) free) (hfree : ∀ q, free q → s.heap.size ≤ q) (hno : c.exceptionTable.isEmpty = true) (hlocks : meth.locks = false)
    (hpost : ∀ u st t, post u st t → t.heap = st.heap ∧ φ u) (hM : cells + mc ≤ M) (hN : slots + ms ≤ N)
    (hq : ∀ (nm : String) (x : Nat) (t : State), thr nm → xt_Th nm x t → xt_K s t → Qc args s (.threw x) t)
    (kr : ∀ u, φ u → W p l e R s m args below meth c s.heap [] (cells + mc) (slots + ms) (MQT below Qc args s M N free') (F0 m (pc + 3) ls ((val u).toList ++ rest))) :
    W p l e R s m args below meth c s.heap [] cells slots (MQT below Qc args s M N free') (F0 m pc ls st0) := by
  intro T hT X
  obtain ⟨o, st₀, t, T', L, h0, X', hL, e1, e2, hq', hs⟩ := hr T hT X
  have X'' : Stand p l e R s m args below meth c T' [] (cells + mc) (slots + ms) := Stand.forget (locs := []) (extra := L) X' (fun y hy => hfree _ (hL y hy))
  rcases hs with ⟨v, rfl, hg⟩ | ⟨x, rfl, hg⟩
  · rcases hq' with ⟨u, hv, hp⟩ | ⟨nm, x, hx, -⟩
    · cases hv
      obtain ⟨hh, hφ⟩ := hpost u st₀ t hp
      obtain ⟨t2, a1, b1⟩ := kr u hφ T' (by rw [e1, hh, h0]) X''
      exact ⟨t2, hg t2 a1, b1⟩
    · cases hx
  · rcases hq' with ⟨u, hv, -⟩ | ⟨nm, x', hx, h1, h2, h3⟩
    · cases hv
    · cases hx
      obtain ⟨w1, w2, w3, w4, w5⟩ := X''.leaveThrown x (g := F0 m pc ls rest) rfl rfl rfl (xt_none hno _) hlocks
      have hh : (T'.setFrames (.throwing x :: below)).heap = t.heap := e1
      have hv2 : (T'.setFrames (.throwing x :: below)).vm = t.vm := e2
      refine ⟨_, hg _ w1, .threw x, w2, w3, hq nm x _ h1 ?_ ?_, [], ⟨w4, w5.mono hM hN⟩, fun q h => by cases h⟩
      · obtain ⟨ce, c1, c2, c3⟩ := h2
        exact ⟨ce, by rw [hh]; exact c1, c2, by rw [hv2]; exact c3⟩
      · refine ⟨by rw [hh, ← h0]; exact h3.1, fun q hq1 => ?_⟩
        rw [hh, h3.2 q (by rw [h0]; exact hq1), h0]
set_option maxHeartbeats 4000000 in
/-- throw new X("text"), nothing old written so far: the method ends with it -/
theorem xt_throw (hexec : p.tables.exec = Jvm.exec) (hb : c.code = cc) (hml : c.maxLocals = ls.size) (htr : e.platform.stackTraces = false) {own cls tx : String} {names : List String} {ia is ic : Nat}
    (hown : s.vm.findClass own = some m.cls) (hcls : Bundle.fit cls = true) (hnames : ∀ n ∈ names, Bundle.fit n = true) (h : ∀ w ∈ Bundle.ownAtoms own ic cls names, w.before args s = true)
    (hclink : (Cond.classLink own ia cls).before args s = true) (hini : (Cond.initialized cls).before args s = true) (hstr : (Cond.stringRef own is tx).before args s = true) (hno : c.exceptionTable.isEmpty = true) (hlocks : meth.locks = false)
    (hd0 : decode cc pc = .ok (.new ia, 3)) (hd3 : decode cc (pc + 3) = .ok (.dup, 1)) (hd4 : decode cc (pc + 3 + 1) = .ok (.ldc is, 2)) (hd6 : decode cc (pc + 3 + 1 + 2) = .ok (.invokespecial ic, 3)) (hd9 : decode cc (pc + 3 + 1 + 2 + 3) = .ok (.athrow, 1))
    (hRc : cells + 1 ≤ R.cells) (hRs : slots + 6 ≤ R.slots) (hM : cells + 1 ≤ M) (hN : slots + 6 ≤ N) (hRf : names.length + 3 < R.frames) (hRl : (rest.map fun v => v.category).sum + (13 * (names.length + 1) + 43) ≤ R.locals)
    (hq : ∀ (x : Nat) (t : State), xt_Th cls x t → xt_K s t → Qc args s (.threw x) t) :
    W p l e R s m args below meth c s.heap [] cells slots (MQT below Qc args s M N free') (F0 m pc ls rest) := by
  have hins : (Cond.instantiable cls 6).before args s = true := h _ (by simp [Bundle.ownAtoms])
  refine W.newc hexec hb hown hclink hins hini rfl hd0 hRc hRs (fun cC kC f1 f2 f3 f4 => ?_)
  refine lv_dup hexec hb hd3 rfl ?_
  obtain ⟨k, cf, i, q, -, -, -, -, -, hev⟩ := Cond.stringRef_spec (args := args) (first := s) (o := none) (idx := []) hown hstr
  intro T hT X
  have hcell : T.heap[s.heap.size]? = some (freshCell cC kC) := by rw [hT, Array.getElem?_push_size]
  obtain ⟨U, hsteps, hrun, hend, hW, hsame, ce, hce, K⟩ := X.ctorThrowS hexec htr (own := own) (cls := cls) (names := names) (ic := ic) hown hcls hnames h (fun x hx => by cases hx) f1 f2 hcell (Nat.le_refl _) (msg := .ref q) rfl
    (g := F0 m (pc + 3 + 1 + 2) ls (.ref q :: .ref s.heap.size :: .ref s.heap.size :: rest)) rfl hml.symm rfl rfl (rest := rest) rfl (by rw [hb]; exact hd6) (by rw [hb]; exact hd9) (xt_none hno _) hRf
    (by show 2 * 0 + (1 + (rest.map fun v => v.category).sum) + _ ≤ _; omega) hlocks
  have hk : xt_K s U := xt_kept (t := ({ U with vm := s.vm } : State)) hsame
  refine ⟨U, X.ldcString hexec hown hstr hev (g := F0 m (pc + 3 + 1) ls (.ref s.heap.size :: .ref s.heap.size :: rest)) rfl (by rw [hb]; exact hd4) U hsteps, .threw s.heap.size, hrun, hend, hq _ _ ?_ hk, [], ⟨hW, hsame.mono hM hN⟩, fun q h => by cases h⟩
  exact ⟨ce, hce, K.vm, by rw [hW.alike.findClass]; exact K.cls⟩
/-- the exception x is under way in this frame -/
def WT (p : Program) (l : Launch) (e : Env) (R : Room) (s : State) (m : MethodId) (args : Array Value) (below : List Frame) (meth : Method) (c : Code) (H : Heap) (locs : List Loc) (cells slots : Nat) (Q : State → Prop) (g : JFrame) (x : Nat) : Prop :=
  ∀ T : State, T.heap = H → Stand p l e R s m args below meth c T locs cells slots → ∃ t, Steps p.tables e below ((T.setTop g).pushFrame (.throwing x)) t ∧ Q t
/-- a call of a method that may throw, in a method that looks at what it threw -/
theorem xt_call {S : Type} {val : S → Option Value} {post : S → State → State → Prop} {thr : String → Prop}
    (hr : xt_Run p l e R s m args below meth c H locs cells slots mc ms (F0 m pc ls st0) rest (xt_Q val post thr a) free)
    (kr : ∀ (u : S) (st t : State) (H1 : Heap) (L : List Loc), st.heap = H → t.heap = H1 → s.vm.Alike t.vm → post u st t → (∀ q ∈ L, free q.base) → W p l e R s m args below meth c H1 (locs ++ L) (cells + mc) (slots + ms) Q (F0 m (pc + 3) ls ((val u).toList ++ rest)))
    (kt : ∀ (nm : String) (x : Nat) (t : State) (H1 : Heap) (L : List Loc), t.heap = H1 → s.vm.Alike t.vm → thr nm → xt_Th nm x t → H.size ≤ H1.size → (∀ q : Nat, q < H.size → H1[q]? = H[q]?) → (∀ q ∈ L, free q.base) → WT p l e R s m args below meth c H1 (locs ++ L) (cells + mc) (slots + ms) Q (F0 m pc ls rest) x) :
    W p l e R s m args below meth c H locs cells slots Q (F0 m pc ls st0) := by
  intro T hT X
  obtain ⟨o, st₀, t, T', L, h0, X', hL, e1, e2, hq', hs⟩ := hr T hT X
  have hal : s.vm.Alike t.vm := by rw [← e2]; exact X'.warmed.alike
  rcases hs with ⟨v, rfl, hg⟩ | ⟨x, rfl, hg⟩
  · rcases hq' with ⟨u, hv, hp⟩ | ⟨nm, x, hx, -⟩
    · cases hv
      obtain ⟨t2, a1, b1⟩ := kr u st₀ t T'.heap L h0 e1.symm hal hp hL T' rfl X'
      exact ⟨t2, hg t2 a1, b1⟩
    · cases hx
  · rcases hq' with ⟨u, hv, -⟩ | ⟨nm, x', hx, h1, h2, h3⟩
    · cases hv
    · cases hx
      obtain ⟨t2, a1, b1⟩ := kt nm x t T'.heap L e1.symm hal h1 h2 (by rw [e1, ← h0]; exact h3.1) (fun q hq => by rw [e1, h3.2 q (by rw [h0]; exact hq), h0]) hL T' rfl X'
      exact ⟨t2, hg t2 a1, b1⟩
/-- the handler at pc' takes it -/
theorem xt_catch {x pc' : Nat} (hfind : ∀ T : State, T.heap = H → Stand p l e R s m args below meth c T locs cells slots → Finds e ((T.setTop (F0 m pc ls st0)).pushFrame (.throwing x)) (F0 m pc ls st0) x (.found pc'))
    (k : W p l e R s m args below meth c H locs cells slots Q (F0 m pc' ls [.ref x])) : WT p l e R s m args below meth c H locs cells slots Q (F0 m pc ls st0) x := by
  intro T hT X
  obtain ⟨t, a1, b1⟩ := k T hT X
  exact ⟨t, X.catchAt x rfl (hfind T hT X) a1, b1⟩
end XT3
