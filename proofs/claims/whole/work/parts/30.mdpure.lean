/-! THE REFERENCE'S WORLD: its numbers, its two rows of booleans, its int arrays by numbers: 0 tape, 1 count, 2 out, 3 message, 4 w, 5 h, 6 leaf, 7 root, 8 proof, 9 part, 10 size, 11 otherFrom, 12 otherMany, 13 k -/
def nE : xE := fun _ _ _ => True
theorem nE_ok : okE nE := ⟨fun _ _ _ _ _ _ => trivial, fun _ _ _ _ _ _ => trivial, fun _ _ _ _ _ _ => trivial⟩
def lenM : Nat → Nat
  | 0 => 200
  | 1 => 12
  | 2 => 32
  | 3 => 256
  | 4 => 64
  | 5 => 8
  | 6 => 768
  | 7 => 384
  | 8 => 320
  | 9 => 256
  | 10 => 8
  | 11 => 8
  | 12 => 8
  | _ => 64
abbrev wMx (om am : Nat → Nat) (cZ : ClassId) (th tp lv dy pv pm by_ pt wy : Int32) (gone oR : Nat → Int32) : va_W :=
  [(om 0, .inr (2, [.int th, .int tp, .ref (am 0), .int lv, .ref (am 6), .ref (om 1), .int dy, .ref (am 1), .ref (am 7), .int pv, .int pm, .ref (am 8), .int by_, .ref (am 3), .ref (am 2), .ref (am 4), .ref (am 5), .int pt, .ref (am 9), .ref (am 10), .int wy, .ref (am 11), .ref (am 12), .ref (om 2), .ref (am 13)])),
   (om 1, .inl (cZ, 24, .inl gone)),
   (om 2, .inl (cZ, 8, .inl oR))]
abbrev wM (om am : Nat → Nat) (cI cZ : ClassId) (th tp lv dy pv pm by_ pt wy : Int32) (gone oR : Nat → Int32) (mem : xMem) : va_W := wMx om am cZ th tp lv dy pv pm by_ pt wy gone oR ++ mp am cI lenM mem 14
def p_in (x a b : Int32) : Int32 := if x < a then nI 0 else if b < x then nI 0 else nI 1
def gth (a b c : Int32) : Int32 := if a = 0 then nI 1 else if b = 0 then nI 2 else if c = 0 then nI 3 else nI 0
def b01 : Option String → Int32
  | none => nI 1
  | some _ => nI 0
theorem p_in_req (v : Int32) (q : Nat) (hq : q < 2 ^ 30) : p_in v (nI 0) (nI q - nI 1) = b01 (x_req v (nI q)) := by
  unfold p_in x_req
  by_cases h0 : v < 0
  · rw [if_pos (show v < nI 0 from h0), if_pos (Or.inl h0)]
    rfl
  · rw [if_neg (show ¬ v < nI 0 from h0)]
    obtain ⟨j, hj, rfl⟩ := nI_of h0
    rcases Nat.eq_zero_or_pos q with rfl | hp
    · rw [if_pos (show nI 0 - nI 1 < nI j from Int32.lt_of_lt_of_le (by decide) (nI_pos' hj)), if_pos (Or.inr (nI_nlt (Nat.zero_le _) hj))]
      rfl
    · rw [pk_sub (show 1 ≤ q from hp)]
      by_cases h1 : j < q
      · rw [if_neg (nI_nlt (show j ≤ q - 1 by omega) (by omega)), if_neg (fun h => h.elim h0 (fun h2 => h2 (nI_lt h1 (by omega))))]
        rfl
      · rw [if_pos (nI_lt (show q - 1 < j by omega) hj), if_pos (Or.inr (nI_nlt (by omega) hj))]
        rfl
theorem p_in_byte (v : Int32) : p_in v (nI 0) (nI 31) = b01 (x_req v (nI 32)) := p_in_req v 32 (by decide)
def rgt (x d : Int32) : Int32 := ush x d ||| (x <<< ((nI 32 - d) &&& 31))
theorem rgt_eq {x d : Int32} (h : (nI 32 - d) &&& 31 = (-d) &&& 31) : rgt x d = rotr x d := by
  unfold rgt rotr
  rw [h]
def p_row (kk a q : Nat) (z : Nat × xMem) : Nat × xMem := itr (fun i z => p_take (z.2 kk (a + i)) z) q z
theorem p_row_fst (kk a : Nat) : ∀ (q : Nat) (z : Nat × xMem), z.1 + q ≤ 256 → (p_row kk a q z).1 = z.1 + q
  | 0, _, _ => rfl
  | q + 1, z, h => by
    have ih := p_row_fst kk a q z (by omega)
    show (p_take _ (p_row kk a q z)).1 = _
    rw [p_take_fst _ _ (by omega), ih]
    omega
theorem p_row_s (kk a i : Nat) (z : Nat × xMem) : p_row kk a (i + 1) z = p_take ((p_row kk a i z).2 kk (a + i)) (p_row kk a i z) := rfl
noncomputable def P_row : Nat → Nat → Nat → Nat × xMem → Nat × xMem := lk p_row
theorem P_row_e : P_row = p_row := lk_eq _
theorem P_row_fst (kk a q : Nat) (z : Nat × xMem) (h : z.1 + q ≤ 256) : (P_row kk a q z).1 = z.1 + q := by rw [P_row_e]; exact p_row_fst kk a q z h
theorem P_row_k {k : Nat} (h : k ≠ 3) (kk a q : Nat) (z : Nat × xMem) : (P_row kk a q z).2 k = z.2 k := by
  rw [P_row_e]
  exact itr_keep2 (fun i z => p_take_k h _ z) q z
theorem w2c (a b c d : Int32) : a + b + c + d = d + c + b + a := by
  rw [Int32.add_comm (a + b + c) d, Int32.add_comm (a + b) c, ← Int32.add_assoc, Int32.add_comm a b, ← Int32.add_assoc]
/-- the eight stores of the first state -/
def st5 (j : Nat) (x : Int32) (mem : xMem) : xMem := va_up mem 5 (upd (mem 5) j x)
def hS5 (mem : xMem) : xMem := va_up mem 5 (va_cpy h0 (mem 5) 0 0 8)
theorem st8 (mem : xMem) : st5 7 1541459225 (st5 6 528734635 (st5 5 (-1694144372) (st5 4 1359893119 (st5 3 (-1521486534) (st5 2 1013904242 (st5 1 (-1150833019) (st5 0 1779033703 mem))))))) = hS5 mem := by
  funext k
  by_cases hk : k = 5
  · subst hk
    unfold st5 hS5
    simp only [va_up_self]
    funext i
    by_cases hi : i < 8
    · have : i = 0 ∨ i = 1 ∨ i = 2 ∨ i = 3 ∨ i = 4 ∨ i = 5 ∨ i = 6 ∨ i = 7 := by omega
      rcases this with rfl | rfl | rfl | rfl | rfl | rfl | rfl | rfl <;> rfl
    · have e : va_cpy h0 (mem 5) 0 0 8 i = mem 5 i := if_neg (by omega)
      rw [e]
      have g0 : i ≠ 0 := by omega
      have g1 : i ≠ 1 := by omega
      have g2 : i ≠ 2 := by omega
      have g3 : i ≠ 3 := by omega
      have g4 : i ≠ 4 := by omega
      have g5 : i ≠ 5 := by omega
      have g6 : i ≠ 6 := by omega
      have g7 : i ≠ 7 := by omega
      simp [upd, g0, g1, g2, g3, g4, g5, g6, g7]
  · unfold st5 hS5
    simp only [va_up_ne _ _ hk]
/-- array 5 filled anew: it keeps away from what the message's steps do -/
def U5 (z : Nat × xMem) : Nat × xMem := (z.1, hS5 z.2)
theorem U5_take (x : Int32) (z : Nat × xMem) : p_take x (U5 z) = U5 (p_take x z) := by
  obtain ⟨n, m⟩ := z
  unfold p_take U5
  by_cases h : n < 256
  · rw [if_pos (show (n, hS5 m).1 < 256 from h), if_pos h]
    refine Prod.ext rfl ?_
    funext k
    show va_up (hS5 m) 3 (upd (hS5 m 3) n x) k = hS5 (va_up m 3 (upd (m 3) n x)) k
    unfold hS5
    by_cases h3 : k = 3
    · subst h3
      rw [va_up_self, va_up_ne _ _ (by decide), va_up_ne _ _ (by decide), va_up_self]
    · rw [va_up_ne _ _ h3]
      by_cases h5 : k = 5
      · subst h5
        rw [va_up_self, va_up_self, va_up_ne _ _ (by decide)]
      · rw [va_up_ne _ _ h5, va_up_ne _ _ h5, va_up_ne _ _ h3]
  · rw [if_neg (show ¬ (n, hS5 m).1 < 256 from h), if_neg h]
theorem U5_itr {f : Nat → Nat × xMem → Nat × xMem} (h : ∀ i z, f i (U5 z) = U5 (f i z)) : ∀ n z, itr f n (U5 z) = U5 (itr f n z)
  | 0, _ => rfl
  | n + 1, z => by rw [itr_s, itr_s, U5_itr h n z, h]
theorem U5_pfC (n : Nat) (mem : xMem) : pfC (n, hS5 mem) = U5 (pfC (n, mem)) := by
  have e0 : (n, hS5 mem) = U5 (n, mem) := rfl
  rw [pfC_e, pfC_e, pfB_e, pfB_e, pfA_e, pfA_e, e0, U5_take, U5_itr (fun i z => U5_take _ z)]
  unfold p_takeLong p_takeLongN
  rw [U5_itr (fun i z => U5_take _ z)]
theorem U5_snd (z : Nat × xMem) : (U5 z).2 = va_up z.2 5 (va_cpy h0 (z.2 5) 0 0 8) := rfl
theorem U5_fst (z : Nat × xMem) : (U5 z).1 = z.1 := rfl
theorem pfD_U (n : Nat) (mem : xMem) : (pfC (n, hS5 mem)).2 = pfD (n, mem) := by rw [U5_pfC, U5_snd, pfD_e]
theorem pfC_U (n : Nat) (mem : xMem) : (pfC (n, hS5 mem)).1 = (pfC (n, mem)).1 := by rw [U5_pfC, U5_fst]
theorem pfZ_fst (n : Nat) (mem : xMem) : ∀ i, n + 1 + i ≤ 256 → (itr (fun _ => p_take (nI 0)) i (pfA (n, mem))).1 = n + 1 + i
  | 0, h => by
    show (p_take (nI 128) (n, mem)).1 = n + 1 + 0
    rw [p_take_fst _ _ (show n < 256 by omega)]
  | i + 1, h => by
    have ih := pfZ_fst n mem i (by omega)
    rw [itr_s, p_take_fst _ _ (by omega), ih]
    omega
theorem pfC_fst (n : Nat) (mem : xMem) (h : n ≤ 247) : (pfC (n, mem)).1 = n + 9 + zz n := by
  have hz := zz_lt n
  have hb : n + 1 + zz n + 8 ≤ 256 := by
    unfold zz at hz ⊢
    omega
  rw [pfC_e]
  unfold p_takeLong
  have e : (pfB (n, mem)).1 = n + 1 + zz n := by
    rw [pfB_e]
    exact pfZ_fst n mem (zz n) (by omega)
  rw [p_takeLongN_fst _ 8 _ (by omega), e]
  omega
noncomputable def mN (a x b y : Nat) (mem : xMem) : Nat × xMem := P_fin 2 (P_row b y 32 (P_row a x 32 (P_take (nI 1) (0, mem))))
theorem mN_e (a x b y : Nat) (mem : xMem) : mN a x b y mem = P_fin 2 (P_row b y 32 (P_row a x 32 (P_take (nI 1) (0, mem)))) := rfl
theorem mN_k {k : Nat} (h2 : k ≠ 2) (h : k ≠ 3) (h4 : k ≠ 4) (h5 : k ≠ 5) (a x b y : Nat) (m : xMem) : (mN a x b y m).2 k = m k := by
  rw [mN_e, P_fin_k h h4 h5 h2, P_row_k h, P_row_k h, P_take_k h]
