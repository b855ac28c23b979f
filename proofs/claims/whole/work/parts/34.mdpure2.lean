/-! PURE FUNCTIONS OF THE REFERENCE: rows copied, the stack of parts, the way down -/
def rcp (kd bd ks bs i : Nat) (mem : xMem) : xMem := itr (fun i m => va_up m kd (upd (m kd) (bd + i) (m ks (bs + i)))) i mem
theorem rcp_s (kd bd ks bs i : Nat) (mem : xMem) : rcp kd bd ks bs (i + 1) mem = va_up (rcp kd bd ks bs i mem) kd (upd (rcp kd bd ks bs i mem kd) (bd + i) (rcp kd bd ks bs i mem ks (bs + i))) := rfl
theorem rcp_0 (kd bd ks bs : Nat) (mem : xMem) : rcp kd bd ks bs 0 mem = mem := rfl
theorem rcp_k {k kd : Nat} (h : k ≠ kd) (bd ks bs i : Nat) (mem : xMem) : rcp kd bd ks bs i mem k = mem k := itr_keep (fun i m => va_up_ne _ _ h) i mem
noncomputable def P_rcp : Nat → Nat → Nat → Nat → xMem → xMem := lk (fun kd bd ks bs mem => rcp kd bd ks bs 32 mem)
theorem P_rcp_e (kd bd ks bs : Nat) (mem : xMem) : P_rcp kd bd ks bs mem = rcp kd bd ks bs 32 mem := by
  show lk (fun kd bd ks bs mem => rcp kd bd ks bs 32 mem) kd bd ks bs mem = _
  rw [lk_eq]
theorem P_rcp_k {k kd : Nat} (h : k ≠ kd) (bd ks bs : Nat) (mem : xMem) : P_rcp kd bd ks bs mem k = mem k := by rw [P_rcp_e, rcp_k h]
-- join
def jn2 (p : Nat) (mem : xMem) : xMem := va_up mem 10 (upd (mem 10) (p - 2) (mem 10 (p - 2) + mem 10 (p - 1)))
noncomputable def jnZ (p : Nat) (mem : xMem) : Nat × xMem := mN 9 (32 * (p - 2)) 9 (32 * (p - 1)) mem
noncomputable def jn (p : Nat) (z : Nat × xMem) : Nat × xMem := ((jnZ p z.2).1, P_rcp 9 (32 * (p - 2)) 2 0 (jn2 p (jnZ p z.2).2))
theorem jn_k {k : Nat} (h2 : k ≠ 2) (h : k ≠ 3) (h4 : k ≠ 4) (h5 : k ≠ 5) (h9 : k ≠ 9) (h10 : k ≠ 10) (p : Nat) (z : Nat × xMem) : (jn p z).2 k = z.2 k := by
  show P_rcp 9 (32 * (p - 2)) 2 0 (jn2 p (jnZ p z.2).2) k = _
  rw [P_rcp_k h9]
  show va_up (jnZ p z.2).2 10 _ k = _
  rw [va_up_ne _ _ h10]
  exact mN_k h2 h h4 h5 _ _ _ _ _
theorem jn_10 (p : Nat) (z : Nat × xMem) : (jn p z).2 10 = upd (z.2 10) (p - 2) (z.2 10 (p - 2) + z.2 10 (p - 1)) := by
  have e : (jnZ p z.2).2 10 = z.2 10 := mN_k (by decide) (by decide) (by decide) (by decide) _ _ _ _ _
  show P_rcp 9 (32 * (p - 2)) 2 0 (jn2 p (jnZ p z.2).2) 10 = _
  rw [P_rcp_k (by decide)]
  show va_up (jnZ p z.2).2 10 (upd ((jnZ p z.2).2 10) (p - 2) ((jnZ p z.2).2 10 (p - 2) + (jnZ p z.2).2 10 (p - 1))) 10 = _
  rw [va_up_self, e]
-- the stack of sizes, its top first
def nrmF : Nat → List Nat → List Nat
  | f + 1, a :: b :: s => if a = b then nrmF f ((a + b) :: s) else a :: b :: s
  | _, s => s
def stk : Nat → List Nat
  | 0 => []
  | i + 1 => nrmF 8 (1 :: stk i)
noncomputable def mrg : Nat → List Nat → Nat × xMem → Nat × xMem
  | f + 1, a :: b :: s, z => if a = b then mrg f ((a + b) :: s) (jn (s.length + 2) z) else z
  | _, _, z => z
noncomputable def psh (l p : Nat) (z : Nat × xMem) : Nat × xMem := (z.1, va_up (P_rcp 9 (32 * p) 6 (32 * l) z.2) 10 (upd (P_rcp 9 (32 * p) 6 (32 * l) z.2 10) p (nI 1)))
noncomputable def trI (fr i : Nat) (z : Nat × xMem) : Nat × xMem := itr (fun i z => mrg 8 (1 :: stk i) (psh (fr + i) (stk i).length z)) i z
theorem trI_s (fr i : Nat) (z : Nat × xMem) : trI fr (i + 1) z = mrg 8 (1 :: stk i) (psh (fr + i) (stk i).length (trI fr i z)) := rfl
theorem trI_0 (fr : Nat) (z : Nat × xMem) : trI fr 0 z = z := rfl
noncomputable def clz : Nat → Nat × xMem → Nat × xMem
  | p + 2, z => clz (p + 1) (jn (p + 2) z)
  | _, z => z
noncomputable def m_tree (fr n : Nat) (z : Nat × xMem) : Nat × xMem :=
  if n = 0 then P_fin 2 (0, z.2) else ((clz (stk n).length (trI fr n z)).1, P_rcp 2 0 9 0 (clz (stk n).length (trI fr n z)).2)
def ptT (n : Nat) (pt : Int32) : Int32 := if n = 0 then pt else nI 1
theorem stk_ok : ∀ i, i < 25 → (stk i).length ≤ 5 ∧ (stk i).sum = i := by decide +kernel
theorem stk_pos : ∀ i, i < 25 → 1 ≤ i → 1 ≤ (stk i).length := by decide +kernel
/-- array 10 holds the stack's sizes -/
def Sz (s : List Nat) (m : xMem) : Prop := ∀ j, j < s.length → m 10 j = nI (s.getD (s.length - 1 - j) 0)
theorem Sz_nil (m : xMem) : Sz [] m := fun j h => absurd h (by simp)
theorem Sz_top {a : Nat} {s : List Nat} {m : xMem} (h : Sz (a :: s) m) : m 10 s.length = nI a := by
  have := h s.length (by simp)
  rw [this]
  simp
theorem Sz_snd {a b : Nat} {s : List Nat} {m : xMem} (h : Sz (a :: b :: s) m) : m 10 s.length = nI b := by
  have := h s.length (by simp; omega)
  rw [this]
  have e : (a :: b :: s).length - 1 - s.length = 1 := by simp only [List.length_cons]; omega
  rw [e]
  rfl
theorem Sz_low {a : Nat} {s : List Nat} {m : xMem} (h : Sz (a :: s) m) : Sz s m := by
  intro j hj
  rw [h j (by simp; omega)]
  have e : (a :: s).length - 1 - j = (s.length - 1 - j) + 1 := by simp only [List.length_cons]; omega
  rw [e]
  rfl
theorem Sz_cons {a : Nat} {s : List Nat} {m : xMem} (h : Sz s m) (ha : m 10 s.length = nI a) : Sz (a :: s) m := by
  intro j hj
  by_cases hc : j = s.length
  · subst hc
    rw [ha]
    simp
  · have hj2 : j < s.length := by simp only [List.length_cons] at hj; omega
    rw [h j hj2]
    have e : (a :: s).length - 1 - j = (s.length - 1 - j) + 1 := by simp only [List.length_cons]; omega
    rw [e]
    rfl
theorem Sz_of {s : List Nat} {m m' : xMem} (h : Sz s m) (e : ∀ j, j < s.length → m' 10 j = m 10 j) : Sz s m' := fun j hj => by rw [e j hj, h j hj]
theorem upd_ne9 {f : Nat → Int32} {j i : Nat} {v : Int32} (h : i ≠ j) : upd f j v i = f i := by simp [upd, h]
theorem upd_eq9 {f : Nat → Int32} {j : Nat} {v : Int32} : upd f j v j = v := by simp [upd]
theorem Sz_jn {a b : Nat} {s : List Nat} {z : Nat × xMem} (h : Sz (a :: b :: s) z.2) : Sz ((a + b) :: s) (jn (s.length + 2) z).2 := by
  have e := jn_10 (s.length + 2) z
  have e1 : s.length + 2 - 2 = s.length := by omega
  have e2 : s.length + 2 - 1 = s.length + 1 := by omega
  rw [e1, e2] at e
  refine Sz_cons (Sz_of (Sz_low (Sz_low h)) (fun j hj => ?_)) ?_
  · rw [e, upd_ne9 (by omega)]
  · rw [e, upd_eq9, Sz_snd h, show z.2 10 (s.length + 1) = nI a from Sz_top h, nI_add]
    exact congrArg nI (Nat.add_comm b a)
theorem Sz_psh {s : List Nat} {z : Nat × xMem} (h : Sz s z.2) (l : Nat) : Sz (1 :: s) (psh l s.length z).2 := by
  have e : (psh l s.length z).2 10 = upd (z.2 10) s.length (nI 1) := by
    simp only [psh]
    rw [va_up_self, P_rcp_k (k := 10) (kd := 9) (by decide)]
  refine Sz_cons (Sz_of h (fun j hj => ?_)) ?_
  · rw [e, upd_ne9 (by omega)]
  · rw [e, upd_eq9]
theorem Sz_mrg : ∀ (f : Nat) (s : List Nat) (z : Nat × xMem), Sz s z.2 → Sz (nrmF f s) (mrg f s z).2
  | 0, s, z, h => by
    have e1 : nrmF 0 s = s := by unfold nrmF; rfl
    have e2 : mrg 0 s z = z := by unfold mrg; rfl
    rw [e1, e2]
    exact h
  | f + 1, [], z, h => h
  | f + 1, [a], z, h => h
  | f + 1, a :: b :: s, z, h => by
    by_cases hc : a = b
    · have e1 : nrmF (f + 1) (a :: b :: s) = nrmF f ((a + b) :: s) := if_pos hc
      have e2 : mrg (f + 1) (a :: b :: s) z = mrg f ((a + b) :: s) (jn (s.length + 2) z) := if_pos hc
      rw [e1, e2]
      exact Sz_mrg f _ _ (Sz_jn h)
    · have e1 : nrmF (f + 1) (a :: b :: s) = a :: b :: s := if_neg hc
      have e2 : mrg (f + 1) (a :: b :: s) z = z := if_neg hc
      rw [e1, e2]
      exact h
theorem Sz_trI (fr : Nat) (z : Nat × xMem) : ∀ i, Sz (stk i) (trI fr i z).2
  | 0 => Sz_nil _
  | i + 1 => Sz_mrg 8 _ _ (Sz_psh (Sz_trI fr z i) _)
theorem mrg_k {k : Nat} (h2 : k ≠ 2) (h : k ≠ 3) (h4 : k ≠ 4) (h5 : k ≠ 5) (h9 : k ≠ 9) (h10 : k ≠ 10) : ∀ (f : Nat) (s : List Nat) (z : Nat × xMem), (mrg f s z).2 k = z.2 k
  | 0, s, z => by
    have e2 : mrg 0 s z = z := by unfold mrg; rfl
    rw [e2]
  | f + 1, [], z => rfl
  | f + 1, [a], z => rfl
  | f + 1, a :: b :: s, z => by
    by_cases hc : a = b
    · have e2 : mrg (f + 1) (a :: b :: s) z = mrg f ((a + b) :: s) (jn (s.length + 2) z) := if_pos hc
      rw [e2, mrg_k h2 h h4 h5 h9 h10 f, jn_k h2 h h4 h5 h9 h10]
    · have e2 : mrg (f + 1) (a :: b :: s) z = z := if_neg hc
      rw [e2]
theorem psh_k {k : Nat} (h9 : k ≠ 9) (h10 : k ≠ 10) (l p : Nat) (z : Nat × xMem) : (psh l p z).2 k = z.2 k := by
  show va_up (P_rcp 9 (32 * p) 6 (32 * l) z.2) 10 _ k = _
  rw [va_up_ne _ _ h10, P_rcp_k h9]
theorem trI_k {k : Nat} (h2 : k ≠ 2) (h : k ≠ 3) (h4 : k ≠ 4) (h5 : k ≠ 5) (h9 : k ≠ 9) (h10 : k ≠ 10) (fr : Nat) (z : Nat × xMem) : ∀ i, (trI fr i z).2 k = z.2 k
  | 0 => rfl
  | i + 1 => by rw [trI_s, mrg_k h2 h h4 h5 h9 h10, psh_k h9 h10, trI_k h2 h h4 h5 h9 h10 fr z i]
theorem clz_k {k : Nat} (h2 : k ≠ 2) (h : k ≠ 3) (h4 : k ≠ 4) (h5 : k ≠ 5) (h9 : k ≠ 9) (h10 : k ≠ 10) : ∀ (p : Nat) (z : Nat × xMem), (clz p z).2 k = z.2 k
  | 0, _ => rfl
  | 1, _ => rfl
  | p + 2, z => by
    show (clz (p + 1) (jn (p + 2) z)).2 k = _
    rw [clz_k h2 h h4 h5 h9 h10 (p + 1), jn_k h2 h h4 h5 h9 h10]
theorem m_tree_k {k : Nat} (h2 : k ≠ 2) (h : k ≠ 3) (h4 : k ≠ 4) (h5 : k ≠ 5) (h9 : k ≠ 9) (h10 : k ≠ 10) (fr n : Nat) (z : Nat × xMem) : (m_tree fr n z).2 k = z.2 k := by
  unfold m_tree
  split
  · exact P_fin_k h h4 h5 h2 _
  · exact (P_rcp_k h2 _ _ _ _).trans ((clz_k h2 h h4 h5 h9 h10 _ _).trans (trI_k h2 h h4 h5 h9 h10 _ _ _))
-- isOut, order
def isoA (f g : Nat → Int32) : Nat → Nat → Int32
  | 0, _ => nI 1
  | k + 1, i => if f i = g i then isoA f g k (i + 1) else nI 0
def p_iso (kk a : Nat) (mem : xMem) : Int32 := isoA (fun i => mem kk (a + i)) (mem 2) 32 0
def ordA (f g : Nat → Int32) : Nat → Nat → Int32
  | 0, _ => nI 0
  | k + 1, i => if f i - g i = 0 then ordA f g k (i + 1) else f i - g i
def p_ord (a b : Nat) (mem : xMem) : Int32 := ordA (fun i => mem 6 (32 * a + i)) (fun i => mem 6 (32 * b + i)) 32 0
-- goTo
def dbl : Nat → Nat → Nat → Nat
  | 0, l, _ => l
  | f + 1, l, m => if 2 * l < m then dbl f (2 * l) m else l
def lft (m : Nat) : Nat := dbl 5 1 m
def gl : Nat → Nat → Nat → Nat → List (Bool × Nat × Nat)
  | 0, _, _, _ => []
  | f + 1, l, fr, m => if m ≤ 1 then [] else if l < fr + lft m then (true, fr + lft m, m - lft m) :: gl f l fr (lft m) else (false, fr, lft m) :: gl f l (fr + lft m) (m - lft m)
def glist (l n : Nat) : List (Bool × Nat × Nat) := gl 24 l 0 n
def bI (b : Bool) : Int32 := if b then nI 1 else nI 0
def gtS (x : Bool × Nat × Nat) (k : Nat) (z : (Nat → Int32) × xMem) : (Nat → Int32) × xMem := (upd z.1 k (bI x.1), va_up (va_up z.2 11 (upd (z.2 11) k (nI x.2.1))) 12 (upd (va_up z.2 11 (upd (z.2 11) k (nI x.2.1)) 12) k (nI x.2.2)))
theorem gtS_1 (x : Bool × Nat × Nat) (k : Nat) (z : (Nat → Int32) × xMem) : (gtS x k z).1 = upd z.1 k (bI x.1) := rfl
theorem gtS_11 (x : Bool × Nat × Nat) (k : Nat) (z : (Nat → Int32) × xMem) : (gtS x k z).2 11 = upd (z.2 11) k (nI x.2.1) := by
  simp only [gtS]
  rw [va_up_ne _ _ (by decide), va_up_self]
theorem gtS_12 (x : Bool × Nat × Nat) (k : Nat) (z : (Nat → Int32) × xMem) : (gtS x k z).2 12 = upd (z.2 12) k (nI x.2.2) := by
  simp only [gtS]
  rw [va_up_self, va_up_ne _ _ (by decide)]
theorem gtS_k {k : Nat} (h11 : k ≠ 11) (h12 : k ≠ 12) (x : Bool × Nat × Nat) (c : Nat) (z : (Nat → Int32) × xMem) : (gtS x c z).2 k = z.2 k := by
  simp only [gtS]
  rw [va_up_ne _ _ h12, va_up_ne _ _ h11]
def gW : List (Bool × Nat × Nat) → Nat → (Nat → Int32) × xMem → (Nat → Int32) × xMem
  | [], _, z => z
  | x :: t, k, z => gW t (k + 1) (gtS x k z)
theorem gW_s (x : Bool × Nat × Nat) (t : List (Bool × Nat × Nat)) (k : Nat) (z : (Nat → Int32) × xMem) : gW (x :: t) k z = gW t (k + 1) (gtS x k z) := rfl
theorem lft_ok : ∀ m, m < 25 → 2 ≤ m → 1 ≤ lft m ∧ lft m < m := by decide +kernel
theorem glist_len : ∀ n, n < 25 → ∀ l, l < n → (glist l n).length ≤ 5 := by decide +kernel
theorem glist_ok : ∀ n, n < 25 → ∀ l, l < n → (glist l n).all (fun x => decide (x.2.1 + x.2.2 ≤ 24 ∧ 1 ≤ x.2.2)) = true := by decide +kernel
theorem gW_k {k : Nat} (h11 : k ≠ 11) (h12 : k ≠ 12) : ∀ (L : List (Bool × Nat × Nat)) (c : Nat) (z : (Nat → Int32) × xMem), (gW L c z).2 k = z.2 k
  | [], _, _ => rfl
  | x :: t, c, z => by rw [gW_s, gW_k h11 h12 t, gtS_k h11 h12]
theorem gW_lo : ∀ (L : List (Bool × Nat × Nat)) (c : Nat) (z : (Nat → Int32) × xMem) (j : Nat), j < c → (gW L c z).1 j = z.1 j ∧ (gW L c z).2 11 j = z.2 11 j ∧ (gW L c z).2 12 j = z.2 12 j
  | [], _, _, _, _ => ⟨rfl, rfl, rfl⟩
  | x :: t, c, z, j, h => by
    obtain ⟨a1, a2, a3⟩ := gW_lo t (c + 1) (gtS x c z) j (by omega)
    rw [gW_s]
    refine ⟨?_, ?_, ?_⟩
    · rw [a1, gtS_1]; exact upd_ne9 (by omega)
    · rw [a2, gtS_11]; exact upd_ne9 (by omega)
    · rw [a3, gtS_12]; exact upd_ne9 (by omega)
theorem gW_at : ∀ (L : List (Bool × Nat × Nat)) (c : Nat) (z : (Nat → Int32) × xMem) (j : Nat), j < L.length → (gW L c z).1 (c + j) = bI (L.getD j (false, 0, 0)).1 ∧ (gW L c z).2 11 (c + j) = nI (L.getD j (false, 0, 0)).2.1 ∧ (gW L c z).2 12 (c + j) = nI (L.getD j (false, 0, 0)).2.2
  | [], _, _, _, h => absurd h (by simp)
  | x :: t, c, z, 0, h => by
    obtain ⟨a1, a2, a3⟩ := gW_lo t (c + 1) (gtS x c z) c (by omega)
    rw [gW_s]
    refine ⟨?_, ?_, ?_⟩
    · show (gW t (c + 1) (gtS x c z)).1 c = _
      rw [a1, gtS_1]; exact upd_eq9
    · show (gW t (c + 1) (gtS x c z)).2 11 c = _
      rw [a2, gtS_11]; exact upd_eq9
    · show (gW t (c + 1) (gtS x c z)).2 12 c = _
      rw [a3, gtS_12]; exact upd_eq9
  | x :: t, c, z, j + 1, h => by
    have ih := gW_at t (c + 1) (gtS x c z) j (by simp at h; omega)
    rw [show c + (j + 1) = c + 1 + j by omega, gW_s]
    exact ih
theorem dbl_step {kd lf : Nat} (h : 24 ≤ lf * 2 ^ (kd + 1 + 1)) : 24 ≤ 2 * lf * 2 ^ (kd + 1) := by
  rw [Nat.pow_succ, ← Nat.mul_assoc] at h
  rw [Nat.mul_comm 2 lf, Nat.mul_right_comm]
  exact h
