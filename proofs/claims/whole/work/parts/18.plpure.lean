/-! PURE FUNCTIONS OF THE CLASS'S OWN METHODS: trees, paths, comparing -/
def p_copy (k0 k : Nat) (mem : xMem) : xMem := va_up mem k (va_cpy (mem k0) (mem k) 0 0 32)
def p_cmpA (f g : Nat → Int32) : Nat → Nat → Int32
  | 0, _ => nI 0
  | k + 1, i => if f i = g i then p_cmpA f g k (i + 1) else if f i < g i then (-1) else nI 1
def p_cmp (f g : Nat → Int32) : Int32 := p_cmpA f g 32 0
noncomputable def p_node (a b t : Nat) (mem : xMem) : Nat × xMem := P_fin t (P_first b 32 (P_first a 32 (P_take (nI 1) (0, mem))))
noncomputable def p_keyed (key : Int64) (d t : Nat) (mem : xMem) : Nat × xMem := P_fin t (P_first d 32 (P_long key (0, mem)))
def p_lay (n : Nat) (mem : xMem) : xMem := itr (fun i m => p_copy (6 + i) (47 + i) m) n mem
noncomputable def p_fold (w : Nat) (z : Nat × xMem) : Nat × xMem :=
  if w % 2 = 1 then ((itr (fun j z => p_node (47 + 2 * j) (47 + (2 * j + 1)) (47 + j) z.2) (w / 2) z).1, p_copy (47 + (w - 1)) (47 + w / 2) (itr (fun j z => p_node (47 + 2 * j) (47 + (2 * j + 1)) (47 + j) z.2) (w / 2) z).2) else itr (fun j z => p_node (47 + 2 * j) (47 + (2 * j + 1)) (47 + j) z.2) (w / 2) z
/-- the levels above one of width w -/
noncomputable def p_up : Nat → Nat → Nat × xMem → Nat × xMem
  | 0, _, z => z
  | f + 1, w, z => if w ≤ 1 then z else p_up f (w - w / 2) (p_fold w z)
noncomputable def p_tree (n t : Nat) (z : Nat × xMem) : Nat × xMem :=
  if n < 1 then P_fin t (0, z.2) else ((p_up n n (z.1, p_lay n z.2)).1, p_copy 47 t (p_up n n (z.1, p_lay n z.2)).2)
def p_due : Nat → Nat → Nat → Nat → Nat
  | 0, len, _, _ => len
  | f + 1, len, a, w => if w ≤ 1 then len else p_due f (if a ^^^ 1 < w then len + 1 else len) (a / 2) (w - w / 2)
/-- makePath's loop: the path's length, the message's length, the memory -/
noncomputable def p_pathA : Nat → Nat → Nat → Nat × Nat × xMem → Nat × Nat × xMem
  | 0, _, _, z => z
  | f + 1, a, w, z => if w ≤ 1 then z else p_pathA f (a / 2) (w - w / 2) (if a ^^^ 1 < w then (z.1 + 1, p_fold w (z.2.1, p_copy (47 + (a ^^^ 1)) (42 + z.1) z.2.2)) else (z.1, p_fold w z.2))
noncomputable def p_path (a n : Nat) (z : Nat × xMem) : Nat × Nat × xMem := p_pathA n a n (0, z.1, p_lay n z.2)
noncomputable def p_climbA : Nat → Nat → Nat → Nat → Nat × xMem → Nat × xMem
  | 0, _, _, _, z => z
  | f + 1, a, k, w, z => if w ≤ 1 then z else if a ^^^ 1 < w then p_climbA f (a / 2) (k + 1) (w - w / 2) (if a < a ^^^ 1 then p_node 2 (42 + k) 2 z.2 else p_node (42 + k) 2 2 z.2) else p_climbA f (a / 2) k (w - w / 2) z
noncomputable def p_climb (d a w : Nat) (z : Nat × xMem) : Nat × xMem := p_climbA w a 0 w (z.1, p_copy d 2 z.2)
def p_lies (side : Int32) (x : Int32) : Int32 := if side = 0 then (if x < 0 then nI 1 else nI 0) else if 0 < x then nI 1 else nI 0
def p_has (x v : Int32) : Int32 := if (x ^^^ nI 1) < v then nI 1 else nI 0
def hb1 (x v : Nat) : Int32 := if x ^^^ 1 < v then nI 1 else nI 0
theorem xor1_le (x : Nat) : x ^^^ 1 ≤ x + 1 := by
  have h2 : (x ^^^ 1) / 2 = x / 2 := by
    rw [Nat.xor_div_two]
    simp
  omega
theorem nI_xor1 (x : Nat) : nI x ^^^ nI 1 = nI (x ^^^ 1) := by
  apply Int32.toBitVec_inj.1
  show BitVec.ofNat 32 x ^^^ BitVec.ofNat 32 1 = BitVec.ofNat 32 (x ^^^ 1)
  apply BitVec.eq_of_getLsbD_eq
  intro i hi
  simp [hi]
theorem p_has_eq {x v : Nat} (hx : x < 2 ^ 30) (hv : v < 2 ^ 31) : p_has (nI x) (nI v) = hb1 x v := by
  have h := xor1_le x
  unfold p_has hb1
  rw [nI_xor1]
  by_cases hc : x ^^^ 1 < v
  · rw [if_pos hc, if_pos (nI_lt hc hv)]
  · rw [if_neg hc, if_neg (nI_nlt (by omega) (by omega))]
theorem hb1_0 {x v : Nat} (h : hb1 x v = 0) : ¬ x ^^^ 1 < v := by
  intro hc
  rw [hb1, if_pos hc] at h
  exact absurd h (by decide)
theorem hb1_1 {x v : Nat} (h : ¬ hb1 x v = 0) : x ^^^ 1 < v := by
  rcases Nat.lt_or_ge (x ^^^ 1) v with hc | hc
  · exact hc
  · rw [hb1, if_neg (by omega)] at h
    exact absurd (by decide) h
/-- how often a width is halved until it is 1 -/
def hlv (v : Nat) : Nat := if v ≤ 1 then 0 else if v ≤ 2 then 1 else if v ≤ 4 then 2 else if v ≤ 8 then 3 else if v ≤ 16 then 4 else 5
theorem hlv_step : ∀ v, v < 25 → 2 ≤ v → hlv (v - v / 2) + 1 ≤ hlv v := by decide +kernel
theorem hlv_5 : ∀ v, v < 25 → hlv v ≤ 5 := by decide +kernel
theorem half_lt {x v : Nat} (h : x < v) (h2 : 2 ≤ v) : x / 2 < v - v / 2 := by omega
def nrI : Option Nat → Int32
  | none => (-1)
  | some j => nI j
def p_nearS (sd : Int32) (isw : Nat → Int32) (mem : xMem) (lf i : Nat) (r : Option Nat) : Option Nat :=
  if isw i = 0 then r else if p_lies sd (p_cmp (mem (6 + i)) (mem (6 + lf))) = 0 then r else match r with
    | none => some i
    | some j => if p_lies sd (p_cmp (mem (6 + j)) (mem (6 + i))) = 0 then some j else some i
def p_near (sd : Int32) (isw : Nat → Int32) (mem : xMem) (lf n : Nat) : Option Nat := itr (p_nearS sd isw mem lf) n none
theorem p_near_lt (sd : Int32) (isw : Nat → Int32) (mem : xMem) (lf : Nat) : ∀ n j, p_near sd isw mem lf n = some j → j < n
  | 0, j, h => by cases h
  | n + 1, j, h => by
    have ih := p_near_lt sd isw mem lf n
    have e : p_near sd isw mem lf (n + 1) = p_nearS sd isw mem lf n (p_near sd isw mem lf n) := rfl
    rw [e] at h
    unfold p_nearS at h
    cases hr : p_near sd isw mem lf n with
    | none =>
      rw [hr] at h
      split at h
      · cases h
      · split at h
        · cases h
        · cases h; omega
    | some i =>
      rw [hr] at h
      have hi := ih i hr
      by_cases c1 : isw n = 0
      · rw [if_pos c1] at h; cases h; omega
      · rw [if_neg c1] at h
        by_cases c2 : p_lies sd (p_cmp (mem (6 + n)) (mem (6 + lf))) = 0
        · rw [if_pos c2] at h; cases h; omega
        · rw [if_neg c2] at h
          by_cases c3 : p_lies sd (p_cmp (mem (6 + i)) (mem (6 + n))) = 0
          · have h : (some i : Option Nat) = some j := by rw [← h]; exact (if_pos c3).symm
            cases h; omega
          · have h : (some n : Option Nat) = some j := by rw [← h]; exact (if_neg c3).symm
            cases h; omega
theorem nrI_ne (j : Nat) (h : j < 2 ^ 31) : ¬ nI j = (-1) := by
  intro e
  have := nI_pos h
  rw [e] at this
  exact this (by decide)
noncomputable def p_still (q y : Nat) (z : Nat × xMem) : Int32 := if p_cmp ((p_tree q 2 z).2 2) ((p_tree q 2 z).2 (30 + y)) = 0 then nI 1 else nI 0
theorem p_node_e (a b t : Nat) (mem : xMem) : p_node a b t mem = P_fin t (P_first b 32 (P_first a 32 (P_take (nI 1) (0, mem)))) := rfl
theorem p_keyed_e (key : Int64) (d t : Nat) (mem : xMem) : p_keyed key d t mem = P_fin t (P_first d 32 (P_long key (0, mem))) := rfl
theorem p_lay_s (i : Nat) (mem : xMem) : p_lay (i + 1) mem = p_copy (6 + i) (47 + i) (p_lay i mem) := rfl
