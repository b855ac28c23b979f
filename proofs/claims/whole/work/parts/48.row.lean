/-! ROWS OF 32: nodes, keyed digests and leaves as functions of rows; copies -/
def rEq (f g : Nat → Int32) : Prop := ∀ i, i < 32 → f i = g i
theorem rEq.rf (f : Nat → Int32) : rEq f f := fun _ _ => rfl
theorem rEq.sy {f g : Nat → Int32} (h : rEq f g) : rEq g f := fun i hi => (h i hi).symm
theorem rEq.tr {f g k : Nat → Int32} (h : rEq f g) (h2 : rEq g k) : rEq f k := fun i hi => (h i hi).trans (h2 i hi)
def tkA (c : Nat → Int32) (q : Nat) (z : Nat × xMem) : Nat × xMem := itr (fun i z => p_take (c i) z) q z
theorem tkA_s (c : Nat → Int32) (q : Nat) (z : Nat × xMem) : tkA c (q + 1) z = p_take (c q) (tkA c q z) := rfl
theorem tkA_k {k : Nat} (h : k ≠ 3) (c : Nat → Int32) (q : Nat) (z : Nat × xMem) : (tkA c q z).2 k = z.2 k := itr_keep2 (f := fun i z => p_take (c i) z) (fun i z => p_take_k h (c i) z) q z
theorem tkA_msg (c : Nat → Int32) (n : Nat) (m : xMem) : ∀ q, n + q ≤ 256 → (tkA c q (n, m)).1 = n + q ∧ ∀ j, (tkA c q (n, m)).2 3 j = if n ≤ j ∧ j < n + q then c (j - n) else m 3 j
  | 0, _ => ⟨rfl, fun j => by rw [if_neg (by omega)]; rfl⟩
  | q + 1, h => by
    obtain ⟨i1, i2⟩ := tkA_msg c n m q (by omega)
    rw [tkA_s]
    refine ⟨by rw [p_take_fst _ _ (by omega), i1]; omega, fun j => ?_⟩
    have e : (p_take (c q) (tkA c q (n, m))).2 3 = upd ((tkA c q (n, m)).2 3) (n + q) (c q) := by
      unfold p_take
      rw [if_pos (by rw [i1]; omega)]
      show va_up (tkA c q (n, m)).2 3 (upd ((tkA c q (n, m)).2 3) (tkA c q (n, m)).1 (c q)) 3 = _
      rw [va_up_self, i1]
    rw [e]
    unfold upd
    by_cases hj : j = n + q
    · rw [if_pos hj, if_pos (by omega), show j - n = q by omega]
    · rw [if_neg hj, i2 j]
      by_cases hc : n ≤ j ∧ j < n + q
      · rw [if_pos hc, if_pos (by omega)]
      · rw [if_neg hc, if_neg (by omega)]
theorem p_first_tk (a : Nat) (ha : a ≠ 3) (z : Nat × xMem) : ∀ q, p_takeFirst a q z = tkA (z.2 a) q z
  | 0 => rfl
  | q + 1 => by
    have ih := p_first_tk a ha z q
    show p_take ((p_takeFirst a q z).2 a q) (p_takeFirst a q z) = p_take (z.2 a q) (tkA (z.2 a) q z)
    rw [ih, tkA_k ha]
theorem P_first_tk (a : Nat) (ha : a ≠ 3) (q : Nat) (z : Nat × xMem) : P_first a q z = tkA (z.2 a) q z := by rw [P_first_e]; exact p_first_tk a ha z q
theorem p_row_tk (a x : Nat) (ha : a ≠ 3) (z : Nat × xMem) : ∀ q, p_row a x q z = tkA (fun i => z.2 a (x + i)) q z
  | 0 => rfl
  | q + 1 => by
    have ih := p_row_tk a x ha z q
    show p_take ((p_row a x q z).2 a (x + q)) (p_row a x q z) = p_take (z.2 a (x + q)) (tkA (fun i => z.2 a (x + i)) q z)
    rw [ih, tkA_k ha]
theorem P_row_tk (a x : Nat) (ha : a ≠ 3) (q : Nat) (z : Nat × xMem) : P_row a x q z = tkA (fun i => z.2 a (x + i)) q z := by rw [P_row_e]; exact p_row_tk a x ha z q
def lB (v : Int64) (i : Nat) : Int32 := (lush v (p_sh i)).toInt32 &&& nI 255
theorem P_long_tk (v : Int64) (z : Nat × xMem) : P_long v z = tkA (lB v) 8 z := by
  rw [P_long_e]
  unfold p_takeLong
  generalize 8 = q
  rfl
theorem P_take_tk (x : Int32) (z : Nat × xMem) : P_take x z = tkA (fun _ => x) 1 z := by
  rw [P_take_e]
  rfl
/-- a digest of what was taken, one part behind the other -/
noncomputable def hN (f g : Nat → Int32) : Nat → Int32 := shaD 65 (fun j => if j < 1 then nI 1 else if j < 33 then f (j - 1) else g (j - 33))
noncomputable def hK (v : Int64) (f : Nat → Int32) : Nat → Int32 := shaD 40 (fun j => if j < 8 then lB v j else f (j - 8))
noncomputable def hL (t : Nat) (f : Nat → Int32) : Nat → Int32 := shaD (1 + t) (fun j => if j < 1 then nI 0 else f (j - 1))
theorem hN_eq {f f' g g' : Nat → Int32} (h1 : rEq f f') (h2 : rEq g g') : rEq (hN f g) (hN f' g') := by
  intro i hi
  refine shaD_eq _ _ _ (fun j hj => ?_) i hi
  by_cases c1 : j < 1
  · simp only [if_pos c1]
  · simp only [if_neg c1]
    by_cases c2 : j < 33
    · simp only [if_pos c2]; exact h1 _ (by omega)
    · simp only [if_neg c2]; exact h2 _ (by omega)
theorem hK_eq {v : Int64} {f f' : Nat → Int32} (h1 : rEq f f') : rEq (hK v f) (hK v f') := by
  intro i hi
  refine shaD_eq _ _ _ (fun j hj => ?_) i hi
  by_cases c1 : j < 8
  · simp only [if_pos c1]
  · simp only [if_neg c1]
    exact h1 _ (by omega)
theorem fin_tk2 {t : Nat} (ht : t ≠ 5) (c d : Nat → Int32) (q r : Nat) (m : xMem) (h : q + r ≤ 247) (g : Nat → Int32) (hg : ∀ j, j < q + r → g j = if j < q then c j else d (j - q)) : rEq ((P_fin t (tkA d r (tkA c q (0, m)))).2 t) (shaD (q + r) g) := by
  intro i hi
  obtain ⟨a1, a2⟩ := tkA_msg c 0 m q (by omega)
  rcases hz : tkA c q (0, m) with ⟨n1, m1⟩
  rw [hz] at a1 a2
  have a1 : n1 = 0 + q := a1
  obtain ⟨b1, b2⟩ := tkA_msg d n1 m1 r (by omega)
  rcases hz2 : tkA d r (n1, m1) with ⟨n2, m2⟩
  rw [hz2] at b1 b2
  have b1 : n2 = n1 + r := b1
  rw [P_fin_row ht n2 m2 i hi, show n2 = q + r by omega]
  refine shaD_eq _ _ _ (fun j hj => ?_) i hi
  rw [hg j hj]
  have b2 := b2 j
  have a2 := a2 j
  show m2 3 j = _
  rw [show m2 3 j = _ from b2]
  by_cases hc : j < q
  · rw [if_neg (by omega), if_pos hc, show m1 3 j = _ from a2, if_pos (by omega), Nat.sub_zero]
  · rw [if_pos (by omega), if_neg hc, show j - n1 = j - q by omega]
theorem fin_tk3 {t : Nat} (ht : t ≠ 5) (x : Int32) (c d : Nat → Int32) (q r : Nat) (m : xMem) (h : 1 + q + r ≤ 247) (g : Nat → Int32) (hg : ∀ j, j < 1 + q + r → g j = if j < 1 then x else if j < 1 + q then c (j - 1) else d (j - (1 + q))) : rEq ((P_fin t (tkA d r (tkA c q (tkA (fun _ => x) 1 (0, m))))).2 t) (shaD (1 + q + r) g) := by
  intro i hi
  obtain ⟨a1, a2⟩ := tkA_msg (fun _ => x) 0 m 1 (by omega)
  rcases hz : tkA (fun _ => x) 1 (0, m) with ⟨n1, m1⟩
  rw [hz] at a1 a2
  have a1 : n1 = 0 + 1 := a1
  obtain ⟨b1, b2⟩ := tkA_msg c n1 m1 q (by omega)
  rcases hz2 : tkA c q (n1, m1) with ⟨n2, m2⟩
  rw [hz2] at b1 b2
  have b1 : n2 = n1 + q := b1
  obtain ⟨e1, e2⟩ := tkA_msg d n2 m2 r (by omega)
  rcases hz3 : tkA d r (n2, m2) with ⟨n3, m3⟩
  rw [hz3] at e1 e2
  have e1 : n3 = n2 + r := e1
  rw [P_fin_row ht n3 m3 i hi, show n3 = 1 + q + r by omega]
  refine shaD_eq _ _ _ (fun j hj => ?_) i hi
  rw [hg j hj]
  show m3 3 j = _
  rw [show m3 3 j = _ from e2 j]
  by_cases hc : j < 1
  · rw [if_neg (by omega), if_pos hc, show m2 3 j = _ from b2 j, if_neg (by omega), show m1 3 j = _ from a2 j, if_pos (by omega)]
  · rw [if_neg hc]
    by_cases hd : j < 1 + q
    · rw [if_neg (by omega), if_pos hd, show m2 3 j = _ from b2 j, if_pos (by omega), show j - n1 = j - 1 by omega]
    · rw [if_pos (by omega), if_neg hd, show j - n2 = j - (1 + q) by omega]
theorem p_node_row {a b t : Nat} (ha : a ≠ 3) (hb : b ≠ 3) (ht : t ≠ 5) (m : xMem) : rEq ((p_node a b t m).2 t) (hN (m a) (m b)) := by
  unfold p_node
  rw [P_take_tk, P_first_tk a ha, P_first_tk b hb, tkA_k ha, tkA_k hb, tkA_k hb]
  exact fin_tk3 ht (nI 1) (m a) (m b) 32 32 m (by decide) _ (fun j _ => rfl)
theorem mN_row {a b : Nat} (ha : a ≠ 3) (hb : b ≠ 3) (x y : Nat) (m : xMem) : rEq ((mN a x b y m).2 2) (hN (fun i => m a (x + i)) (fun i => m b (y + i))) := by
  rw [mN_e, P_take_tk, P_row_tk a x ha, P_row_tk b y hb, tkA_k ha, tkA_k hb, tkA_k hb]
  exact fin_tk3 (by decide) (nI 1) (fun i => m a (x + i)) (fun i => m b (y + i)) 32 32 m (by decide) _ (fun j _ => rfl)
theorem p_keyed_row {d t : Nat} (hd : d ≠ 3) (ht : t ≠ 5) (v : Int64) (m : xMem) : rEq ((p_keyed v d t m).2 t) (hK v (m d)) := by
  unfold p_keyed
  rw [P_long_tk, P_first_tk d hd, tkA_k hd]
  exact fin_tk2 ht (lB v) (m d) 8 32 m (by decide) _ (fun j _ => rfl)
theorem m_keyed_row {d : Nat} (hd : d ≠ 3) (x : Nat) (v : Int64) (m : xMem) : rEq ((P_fin 2 (P_row d x 32 (P_long v (0, m)))).2 2) (hK v (fun i => m d (x + i))) := by
  rw [P_long_tk, P_row_tk d x hd, tkA_k hd]
  exact fin_tk2 (by decide) (lB v) (fun i => m d (x + i)) 8 32 m (by decide) _ (fun j _ => rfl)
theorem leaf_row {k : Nat} (hk : k ≠ 5) (t : Nat) (ht : t ≤ 200) (m : xMem) : rEq ((P_fin k (P_first 0 t (P_take (nI 0) (0, m)))).2 k) (hL t (m 0)) := by
  rw [P_take_tk, P_first_tk 0 (by decide), tkA_k (by decide)]
  exact fin_tk2 hk (fun _ => nI 0) (m 0) 1 t m (by omega) _ (fun j _ => rfl)
theorem empty_row {t : Nat} (ht : t ≠ 5) (m m' : xMem) : rEq ((P_fin t (0, m)).2 t) (shaD 0 (fun _ => 0)) := by
  intro i hi
  rw [P_fin_row ht 0 m i hi]
  exact shaD_eq 0 _ _ (fun j hj => absurd hj (by omega)) i hi
theorem p_copy_row (k0 k : Nat) (m : xMem) : rEq (p_copy k0 k m k) (m k0) := by
  intro i hi
  unfold p_copy
  rw [va_up_self]
  unfold va_cpy
  rw [if_pos (by omega), Nat.zero_add, Nat.sub_zero]
theorem rcp_at {kd ks : Nat} (h : ks ≠ kd) (bd bs : Nat) (m : xMem) : ∀ n j, rcp kd bd ks bs n m kd j = if bd ≤ j ∧ j < bd + n then m ks (bs + (j - bd)) else m kd j
  | 0, j => by rw [if_neg (by omega)]; rfl
  | n + 1, j => by
    have ih := rcp_at h bd bs m n j
    rw [rcp_s, va_up_self]
    unfold upd
    by_cases e : j = bd + n
    · rw [if_pos e, if_pos (by omega), rcp_k h, show j - bd = n by omega]
    · rw [if_neg e, ih]
      by_cases c : bd ≤ j ∧ j < bd + n
      · rw [if_pos c, if_pos (by omega)]
      · rw [if_neg c, if_neg (by omega)]
theorem P_rcp_row {kd ks : Nat} (h : ks ≠ kd) (bd bs : Nat) (m : xMem) : rEq (fun i => P_rcp kd bd ks bs m kd (bd + i)) (fun i => m ks (bs + i)) := by
  intro i hi
  show P_rcp kd bd ks bs m kd (bd + i) = m ks (bs + i)
  rw [P_rcp_e, rcp_at h, if_pos (by omega), Nat.add_sub_cancel_left]
theorem P_rcp_off {kd ks : Nat} (h : ks ≠ kd) (bd bs : Nat) (m : xMem) (j : Nat) (hj : j < bd ∨ bd + 32 ≤ j) : P_rcp kd bd ks bs m kd j = m kd j := by
  rw [P_rcp_e, rcp_at h, if_neg (by omega)]
theorem P_rcp_rows {kd ks : Nat} (h : ks ≠ kd) (p bs : Nat) (m : xMem) (j : Nat) (hj : j ≠ p) : rEq (fun i => P_rcp kd (32 * p) ks bs m kd (32 * j + i)) (fun i => m kd (32 * j + i)) := by
  intro i hi
  exact P_rcp_off h _ _ _ _ (by omega)
-- equal rows: the class's comparing, the reference's
theorem p_cmpA_0 (f g : Nat → Int32) : ∀ k i, p_cmpA f g k i = 0 ↔ ∀ j, i ≤ j → j < i + k → f j = g j
  | 0, i => ⟨fun _ j h1 h2 => absurd h2 (by omega), fun _ => rfl⟩
  | k + 1, i => by
    show (if f i = g i then p_cmpA f g k (i + 1) else if f i < g i then (-1) else nI 1) = 0 ↔ _
    by_cases h : f i = g i
    · rw [if_pos h, p_cmpA_0 f g k (i + 1)]
      refine ⟨fun H j h1 h2 => ?_, fun H j h1 h2 => H j (by omega) (by omega)⟩
      by_cases e : j = i
      · rw [e]; exact h
      · exact H j (by omega) (by omega)
    · rw [if_neg h]
      refine ⟨fun H => ?_, fun H => absurd (H i (Nat.le_refl _) (by omega)) h⟩
      split at H
      · exact absurd H (by decide)
      · exact absurd H (by decide)
theorem p_cmp_0 (f g : Nat → Int32) : p_cmp f g = 0 ↔ rEq f g := by
  unfold p_cmp
  rw [p_cmpA_0]
  exact ⟨fun H i hi => H i (Nat.zero_le _) (by omega), fun H j _ h2 => H j (by omega)⟩
theorem isoA_is (f g : Nat → Int32) : ∀ k i, isoA f g k i = nI 1 ∧ (∀ j, i ≤ j → j < i + k → f j = g j) ∨ isoA f g k i = nI 0 ∧ ¬ (∀ j, i ≤ j → j < i + k → f j = g j)
  | 0, i => Or.inl ⟨rfl, fun j h1 h2 => absurd h2 (by omega)⟩
  | k + 1, i => by
    show (if f i = g i then isoA f g k (i + 1) else nI 0) = nI 1 ∧ _ ∨ (if f i = g i then isoA f g k (i + 1) else nI 0) = nI 0 ∧ _
    by_cases h : f i = g i
    · rw [if_pos h]
      rcases isoA_is f g k (i + 1) with ⟨a, b⟩ | ⟨a, b⟩
      · refine Or.inl ⟨a, fun j h1 h2 => ?_⟩
        by_cases e : j = i
        · rw [e]; exact h
        · exact b j (by omega) (by omega)
      · exact Or.inr ⟨a, fun H => b (fun j h1 h2 => H j (by omega) (by omega))⟩
    · rw [if_neg h]
      exact Or.inr ⟨rfl, fun H => h (H i (Nat.le_refl _) (by omega))⟩
theorem p_iso_is (kk a : Nat) (m : xMem) : p_iso kk a m = nI 1 ∧ rEq (fun i => m kk (a + i)) (m 2) ∨ p_iso kk a m = nI 0 ∧ ¬ rEq (fun i => m kk (a + i)) (m 2) := by
  unfold p_iso
  rcases isoA_is (fun i => m kk (a + i)) (m 2) 32 0 with ⟨h1, h2⟩ | ⟨h1, h2⟩
  · exact Or.inl ⟨h1, fun i hi => h2 i (Nat.zero_le _) (by omega)⟩
  · exact Or.inr ⟨h1, fun H => h2 (fun j _ hj => H j (by omega))⟩
