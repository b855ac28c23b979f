/-! PURE FUNCTIONS OF THE REFERENCE'S PUBLIC METHODS -/
def cdL : List String → String → Int32
  | [], _ => nI 0
  | a :: t, nm => if nm = a then nI 1 else nI 1 + cdL t nm
theorem x_req_nat {i q : Nat} (h : i < q) (hq : q < 2 ^ 31) : x_req (nI i) (nI q) = none := if_neg (fun h1 => h1.elim (fun h2 => nI_pos (by omega) h2) (fun h2 => h2 (nI_lt h hq)))
theorem x_req_some {v n : Int32} {nm : String} (h : x_req v n = some nm) : nm = nIOB := by
  unfold x_req at h
  split at h
  · exact (Option.some.inj h).symm
  · cases h
theorem x_if_some {c : Prop} [Decidable c] {a nm : String} (h : x_if c a = some nm) : nm = a ∧ c := by
  unfold x_if at h
  split at h
  · rename_i hc
    exact ⟨(Option.some.inj h).symm, hc⟩
  · cases h
theorem x_if_none {c : Prop} [Decidable c] {a : String} (h : x_if c a = none) : ¬ c := by
  unfold x_if at h
  split at h
  · cases h
  · assumption
theorem x_mask_some {v : Int32} {nm : String} (h : x_mask v = some nm) : nm = nIAE := by
  unfold x_mask at h
  split at h
  · exact (Option.some.inj h).symm
  · cases h
theorem x_or_some {a b : Option String} {nm : String} (h : a.or b = some nm) : a = some nm ∨ (a = none ∧ b = some nm) := by
  cases a with
  | none => exact Or.inr ⟨rfl, h⟩
  | some z => exact Or.inl h
theorem p_in_mask (v : Int32) : p_in v (nI 1) (nI 255) = b01 (x_mask v) := by
  unfold p_in x_mask
  by_cases h0 : v < nI 1
  · rw [if_pos h0, if_pos (Or.inl h0)]
    rfl
  · rw [if_neg h0]
    by_cases h1 : v ≤ nI 255
    · rw [if_neg (Int32.not_lt.mpr h1), if_neg (fun h => h.elim h0 (fun h2 => h2 h1))]
      rfl
    · rw [if_pos (Int32.not_le.mp h1), if_pos (Or.inr h1)]
      rfl
theorem p_in_side (v : Int32) : p_in v (nI 0) (nI 1) = b01 (x_if (¬ (v = 0 ∨ v = nI 1)) nIOB) := by
  unfold p_in x_if
  by_cases h0 : v < nI 0
  · rw [if_pos h0, if_pos]
    · rfl
    · intro h
      rcases h with rfl | rfl
      · exact absurd h0 (by decide)
      · exact absurd h0 (by decide)
  · rw [if_neg h0]
    obtain ⟨j, hj, rfl⟩ := nI_of h0
    by_cases h1 : nI 1 < nI j
    · rw [if_pos h1, if_pos]
      · rfl
      · intro h
        rcases h with h | h
        · have := (nI_eq hj (by decide)).mp (show nI j = nI 0 from h)
          subst this
          exact absurd h1 (by decide)
        · rw [h] at h1
          exact absurd h1 (by decide)
    · rw [if_neg h1, if_neg]
      · rfl
      · intro h
        apply h
        have h2 : j ≤ 1 := by
          rcases Nat.lt_or_ge 1 j with h3 | h3
          · exact absurd (nI_lt h3 hj) h1
          · exact h3
        rcases Nat.eq_zero_or_pos j with rfl | h4
        · exact Or.inl rfl
        · exact Or.inr (by rw [show j = 1 by omega])
theorem p_in_feed (v : Int32) : p_in v (nI 1) (nI 8) = if v < nI 1 ∨ ¬ v ≤ nI 8 then nI 0 else nI 1 := by
  unfold p_in
  by_cases h0 : v < nI 1
  · rw [if_pos h0, if_pos (Or.inl h0)]
  · rw [if_neg h0]
    by_cases h1 : v ≤ nI 8
    · rw [if_neg (Int32.not_lt.mpr h1), if_neg (fun h => h.elim h0 (fun h2 => h2 h1))]
    · rw [if_pos (Int32.not_le.mp h1), if_pos (Or.inr h1)]
noncomputable def m_leaf (q t : Nat) (mem : xMem) : Nat × xMem := ((P_fin 2 (P_first 0 t (P_take (nI 0) (0, mem)))).1, P_rcp 6 (32 * q) 2 0 (P_fin 2 (P_first 0 t (P_take (nI 0) (0, mem)))).2)
noncomputable def m_close (q y : Nat) (z : Nat × xMem) : Nat × xMem := ((m_tree 0 q z).1, P_rcp 7 (32 * y) 2 0 (va_up (m_tree 0 q z).2 1 (upd ((m_tree 0 q z).2 1) y (nI q))))
noncomputable def m_mark (lf : Nat) (k1 k2 : Int64) (mem : xMem) : Nat × xMem :=
  P_fin 2 (P_row 9 0 32 (P_long k2 (0, P_rcp 9 0 2 0 (P_fin 2 (P_row 6 (32 * lf) 32 (P_long k1 (0, mem)))).2)))
def m_bend (k a : Nat) (x : Int32) (mem : xMem) : xMem := va_up mem k (upd (mem k) a (mem k a ^^^ x))
abbrev gIt (L : List (Bool × Nat × Nat)) (i : Nat) : Bool × Nat × Nat := L.getD (L.length - 1 - i) (false, 0, 0)
/-- prove's loop: parts, bytes, memory -/
noncomputable def pvI (L : List (Bool × Nat × Nat)) (i : Nat) (z : Int32 × Nat × xMem) : Int32 × Nat × xMem :=
  itr (fun i z => (ptT (gIt L i).2.2 z.1, (m_tree (gIt L i).2.1 (gIt L i).2.2 z.2).1, P_rcp 8 (32 * i) 2 0 (m_tree (gIt L i).2.1 (gIt L i).2.2 z.2).2)) i z
theorem pvI_s (L : List (Bool × Nat × Nat)) (i : Nat) (z : Int32 × Nat × xMem) : pvI L (i + 1) z = (ptT (gIt L i).2.2 (pvI L i z).1, (m_tree (gIt L i).2.1 (gIt L i).2.2 (pvI L i z).2).1, P_rcp 8 (32 * i) 2 0 (m_tree (gIt L i).2.1 (gIt L i).2.2 (pvI L i z).2).2) := rfl
theorem pvI_k {k : Nat} (h2 : k ≠ 2) (h : k ≠ 3) (h4 : k ≠ 4) (h5 : k ≠ 5) (h8 : k ≠ 8) (h9 : k ≠ 9) (h10 : k ≠ 10) (L : List (Bool × Nat × Nat)) (z : Int32 × Nat × xMem) : ∀ i, (pvI L i z).2.2 k = z.2.2 k
  | 0 => rfl
  | i + 1 => by
    rw [pvI_s]
    exact (P_rcp_k h8 _ _ _ _).trans ((m_tree_k h2 h h4 h5 h9 h10 _ _ _).trans (pvI_k h2 h h4 h5 h8 h9 h10 L z i))
/-- check's loop -/
noncomputable def ckN (L : List (Bool × Nat × Nat)) (i : Nat) (mem : xMem) : Nat × xMem := if (gIt L i).1 = true then mN 9 0 8 (32 * i) mem else mN 8 (32 * i) 9 0 mem
noncomputable def ckI (L : List (Bool × Nat × Nat)) (i : Nat) (z : Nat × xMem) : Nat × xMem := itr (fun i z => ((ckN L i z.2).1, P_rcp 9 0 2 0 (ckN L i z.2).2)) i z
theorem ckI_s (L : List (Bool × Nat × Nat)) (i : Nat) (z : Nat × xMem) : ckI L (i + 1) z = ((ckN L i (ckI L i z).2).1, P_rcp 9 0 2 0 (ckN L i (ckI L i z).2).2) := rfl
theorem ckN_k {k : Nat} (h2 : k ≠ 2) (h : k ≠ 3) (h4 : k ≠ 4) (h5 : k ≠ 5) (L : List (Bool × Nat × Nat)) (i : Nat) (m : xMem) : (ckN L i m).2 k = m k := by
  unfold ckN
  split
  · exact mN_k h2 h h4 h5 _ _ _ _ _
  · exact mN_k h2 h h4 h5 _ _ _ _ _
theorem ckI_k {k : Nat} (h2 : k ≠ 2) (h : k ≠ 3) (h4 : k ≠ 4) (h5 : k ≠ 5) (h9 : k ≠ 9) (L : List (Bool × Nat × Nat)) (z : Nat × xMem) : ∀ i, (ckI L i z).2 k = z.2 k
  | 0 => rfl
  | i + 1 => by
    rw [ckI_s]
    exact (P_rcp_k h9 _ _ _ _).trans ((ckN_k h2 h h4 h5 L i _).trans (ckI_k h2 h h4 h5 h9 L z i))
noncomputable def ckE (L : List (Bool × Nat × Nat)) (lf : Nat) (z : Nat × xMem) : Nat × xMem :=
  ((ckI L L.length (z.1, P_rcp 9 0 6 (32 * lf) z.2)).1, P_rcp 2 0 9 0 (ckI L L.length (z.1, P_rcp 9 0 6 (32 * lf) z.2)).2)
def wcn (gone : Nat → Int32) (i : Nat) : Nat := itr (fun i n => if gone i = 0 then n else n + 1) i 0
theorem wcn_s (gone : Nat → Int32) (i : Nat) : wcn gone (i + 1) = if gone i = 0 then wcn gone i else wcn gone i + 1 := rfl
theorem wcn_le (gone : Nat → Int32) : ∀ i, wcn gone i ≤ i
  | 0 => Nat.le_refl 0
  | i + 1 => by
    have := wcn_le gone i
    rw [wcn_s]
    split <;> omega
/-- absence's loop -/
def mnS (sd : Int32) (gone : Nat → Int32) (mem : xMem) (lf i : Nat) (r : Option Nat) : Option Nat :=
  if gone i = 0 then r else if sd = 0 then (if p_ord i lf mem < 0 then (match r with | none => some i | some j => if 0 < p_ord i j mem then some i else some j) else r) else (if 0 < p_ord i lf mem then (match r with | none => some i | some j => if p_ord i j mem < 0 then some i else some j) else r)
def mnr (sd : Int32) (gone : Nat → Int32) (mem : xMem) (lf n : Nat) : Option Nat := itr (mnS sd gone mem lf) n none
theorem mnr_s (sd : Int32) (gone : Nat → Int32) (mem : xMem) (lf n : Nat) : mnr sd gone mem lf (n + 1) = mnS sd gone mem lf n (mnr sd gone mem lf n) := rfl
theorem mnS_or (sd : Int32) (gone : Nat → Int32) (mem : xMem) (lf i : Nat) (r : Option Nat) : mnS sd gone mem lf i r = r ∨ mnS sd gone mem lf i r = some i := by
  unfold mnS
  by_cases c0 : gone i = 0
  · rw [if_pos c0]; exact Or.inl rfl
  · rw [if_neg c0]
    by_cases c1 : sd = 0
    · rw [if_pos c1]
      by_cases c2 : p_ord i lf mem < 0
      · rw [if_pos c2]
        cases r with
        | none => exact Or.inr rfl
        | some j =>
          by_cases c3 : 0 < p_ord i j mem
          · exact Or.inr (if_pos c3)
          · exact Or.inl (if_neg c3)
      · rw [if_neg c2]; exact Or.inl rfl
    · rw [if_neg c1]
      by_cases c2 : 0 < p_ord i lf mem
      · rw [if_pos c2]
        cases r with
        | none => exact Or.inr rfl
        | some j =>
          by_cases c3 : p_ord i j mem < 0
          · exact Or.inr (if_pos c3)
          · exact Or.inl (if_neg c3)
      · rw [if_neg c2]; exact Or.inl rfl
theorem mnr_lt (sd : Int32) (gone : Nat → Int32) (mem : xMem) (lf : Nat) : ∀ n j, mnr sd gone mem lf n = some j → j < n
  | 0, j, h => by cases h
  | n + 1, j, h => by
    have ih := mnr_lt sd gone mem lf n
    rw [mnr_s] at h
    rcases mnS_or sd gone mem lf n (mnr sd gone mem lf n) with e | e
    · rw [e] at h
      have := ih j h
      omega
    · rw [e] at h
      cases h
      omega
