/-! SHA-256's ROW DEPENDS ON THE MESSAGE ALONE -/
def eq3 (n : Nat) (m m' : xMem) : Prop := ∀ j, j < n → m 3 j = m' 3 j
theorem p_take_eq (x : Int32) (n : Nat) (m m' : xMem) (h : eq3 n m m') : (p_take x (n, m)).1 = (p_take x (n, m')).1 ∧ eq3 (p_take x (n, m)).1 (p_take x (n, m)).2 (p_take x (n, m')).2 := by
  unfold p_take
  by_cases hn : n < 256
  · rw [if_pos (show (n, m).1 < 256 from hn), if_pos (show (n, m').1 < 256 from hn)]
    refine ⟨rfl, fun j hj => ?_⟩
    have hj : j < n + 1 := hj
    show va_up m 3 (upd (m 3) n x) 3 j = va_up m' 3 (upd (m' 3) n x) 3 j
    rw [va_up_self, va_up_self]
    unfold upd
    by_cases e : j = n
    · rw [if_pos e, if_pos e]
    · rw [if_neg e, if_neg e]
      exact h j (by omega)
  · rw [if_neg (show ¬ (n, m).1 < 256 from hn), if_neg (show ¬ (n, m').1 < 256 from hn)]
    exact ⟨rfl, h⟩
/-- two states with one length and one message -/
def eqZ (z z' : Nat × xMem) : Prop := z.1 = z'.1 ∧ eq3 z.1 z.2 z'.2
theorem p_take_eqZ {z z' : Nat × xMem} (x : Int32) (h : eqZ z z') : eqZ (p_take x z) (p_take x z') := by
  obtain ⟨n, m⟩ := z
  obtain ⟨n', m'⟩ := z'
  obtain ⟨h1, h2⟩ := h
  have h1 : n = n' := h1
  subst h1
  exact p_take_eq x n m m' h2
theorem itr_eqZ {f g : Nat → Nat × xMem → Nat × xMem} (h : ∀ i z z', eqZ z z' → eqZ (f i z) (g i z')) : ∀ n z z', eqZ z z' → eqZ (itr f n z) (itr g n z')
  | 0, _, _, hz => hz
  | n + 1, z, z', hz => h n _ _ (itr_eqZ h n z z' hz)
theorem pfA_eqZ {z z' : Nat × xMem} (h : eqZ z z') : eqZ (pfA z) (pfA z') := p_take_eqZ _ h
theorem pfB_eqZ {z z' : Nat × xMem} (h : eqZ z z') : eqZ (pfB z) (pfB z') := by
  unfold pfB
  rw [h.1]
  generalize zz z'.1 = q
  exact itr_eqZ (fun _ _ _ hz => p_take_eqZ _ hz) q _ _ (pfA_eqZ h)
theorem p_longN_eqZ (v : Int64) (q : Nat) {z z' : Nat × xMem} (h : eqZ z z') : eqZ (p_takeLongN v q z) (p_takeLongN v q z') := itr_eqZ (f := fun i z => p_take ((lush v (p_sh i)).toInt32 &&& nI 255) z) (g := fun i z => p_take ((lush v (p_sh i)).toInt32 &&& nI 255) z) (fun _ _ _ hz => p_take_eqZ _ hz) q z z' h
theorem p_long_eqZ (v : Int64) {z z' : Nat × xMem} (h : eqZ z z') : eqZ (p_takeLong v z) (p_takeLong v z') := by
  unfold p_takeLong
  exact p_longN_eqZ v 8 h
theorem pfC_eqZ {z z' : Nat × xMem} (h : eqZ z z') : eqZ (pfC z) (pfC z') := by
  unfold pfC
  rw [h.1]
  exact p_long_eqZ _ (pfB_eqZ h)
def eq4 (n : Nat) (m m' : xMem) : Prop := ∀ j, j < n → m 4 j = m' 4 j
def eq5 (m m' : xMem) : Prop := ∀ j, j < 8 → m 5 j = m' 5 j
theorem upd_eq {f g : Nat → Int32} {n k : Nat} {x y : Int32} (h : ∀ j, j < n → f j = g j) (hxy : x = y) : ∀ j, j < n ∨ j = k → upd f k x j = upd g k y j := by
  intro j hj
  unfold upd
  by_cases e : j = k
  · rw [if_pos e, if_pos e, hxy]
  · rw [if_neg e, if_neg e]
    exact h j (by omega)
theorem p_w1_eq {M f i : Nat} {m m' : xMem} (h3 : eq3 M m m') (h4 : eq4 i m m') (hf : f + 4 * i + 4 ≤ M) : eq4 (i + 1) (p_w1 f i m) (p_w1 f i m') := by
  intro j hj
  unfold p_w1
  rw [va_up_self, va_up_self]
  refine upd_eq h4 ?_ j (by omega)
  rw [h3 (f + 4 * i) (by omega), h3 (f + 4 * i + 1) (by omega), h3 (f + 4 * i + 2) (by omega), h3 (f + 4 * i + 3) (by omega)]
theorem p_w1_k {k : Nat} (h : k ≠ 4) (f i : Nat) (m : xMem) : p_w1 f i m k = m k := va_up_ne _ _ h
theorem p_w2_k {k : Nat} (h : k ≠ 4) (i : Nat) (m : xMem) : p_w2 i m k = m k := va_up_ne _ _ h
theorem w1s_eq {M f : Nat} {m m' : xMem} (h3 : eq3 M m m') : ∀ i, f + 4 * i ≤ M → eq4 i (itr (p_w1 f) i m) (itr (p_w1 f) i m')
  | 0, _ => fun j hj => absurd hj (by omega)
  | i + 1, hi => by
    have ih := w1s_eq (f := f) h3 i (by omega)
    have k1 : ∀ (x : xMem), itr (p_w1 f) i x 3 = x 3 := fun x => itr_keep (fun i m => p_w1_k (by decide) f i m) i x
    have h3' : eq3 M (itr (p_w1 f) i m) (itr (p_w1 f) i m') := fun j hj => by
      rw [k1, k1]
      exact h3 j hj
    have hf : f + 4 * i + 4 ≤ M := by omega
    exact p_w1_eq h3' ih hf
theorem p_w2_eq {i : Nat} {m m' : xMem} (h4 : eq4 (16 + i) m m') : eq4 (16 + (i + 1)) (p_w2 i m) (p_w2 i m') := by
  intro j hj
  unfold p_w2
  rw [va_up_self, va_up_self]
  refine upd_eq h4 ?_ j (by omega)
  rw [h4 (14 + i) (by omega), h4 (9 + i) (by omega), h4 (1 + i) (by omega), h4 i (by omega)]
theorem w2s_eq {m m' : xMem} (h4 : eq4 16 m m') : ∀ i, eq4 (16 + i) (itr p_w2 i m) (itr p_w2 i m')
  | 0 => h4
  | i + 1 => p_w2_eq (w2s_eq h4 i)
theorem p_spread_eq {M f : Nat} {m m' : xMem} (h3 : eq3 M m m') (hf : f + 64 ≤ M) : eq4 64 (p_spread f m) (p_spread f m') := by
  unfold p_spread
  exact w2s_eq (w1s_eq (f := f) h3 16 (by omega)) 48
theorem p_rnd_eq {kt w w' : Int32} {v v' : Nat → Int32} (hw : w = w') (h : ∀ j, j < 8 → v j = v' j) : ∀ j, j < 8 → p_rnd kt w v j = p_rnd kt w' v' j := by
  intro j hj
  have e : p_first kt w v = p_first kt w' v' := by
    unfold p_first
    rw [hw, h 7 (by decide), h 4 (by decide), h 5 (by decide), h 6 (by decide)]
  have a0 := h 0 (by decide)
  have a1 := h 1 (by decide)
  have a2 := h 2 (by decide)
  have a3 := h 3 (by decide)
  have a4 := h 4 (by decide)
  have a5 := h 5 (by decide)
  have a6 := h 6 (by decide)
  match j, hj with
  | 0, _ => simp only [p_rnd]; rw [e, a0, a1, a2]
  | 1, _ => exact a0
  | 2, _ => exact a1
  | 3, _ => exact a2
  | 4, _ => simp only [p_rnd]; rw [e, a3]
  | 5, _ => exact a4
  | 6, _ => exact a5
  | 7, _ => exact a6
theorem p_rnds_eq {m m' : xMem} (h4 : eq4 64 m m') (h5 : eq5 m m') : ∀ n, n ≤ 64 → ∀ j, j < 8 → p_rnds m n j = p_rnds m' n j
  | 0, _ => h5
  | n + 1, hn => p_rnd_eq (h4 n (by omega)) (p_rnds_eq h4 h5 n (by omega))
theorem p_add_eq {i : Nat} {x x' : Int32} {m m' : xMem} (h : eq5 m m') (hx : x = x') (hi : i < 8) : eq5 (p_add i x m) (p_add i x' m') := by
  intro j hj
  unfold p_add
  rw [va_up_self, va_up_self]
  exact upd_eq h (by rw [hx, h i hi]) j (Or.inl hj)
theorem p_stir_eq {m m' : xMem} (h4 : eq4 64 m m') (h5 : eq5 m m') : eq5 (p_stir m) (p_stir m') := by
  have r := p_rnds_eq h4 h5 64 (Nat.le_refl _)
  generalize hq : p_rnds m 64 = f at r
  generalize hq' : p_rnds m' 64 = f' at r
  unfold p_stir
  rw [hq, hq']
  exact p_add_eq (p_add_eq (p_add_eq (p_add_eq (p_add_eq (p_add_eq (p_add_eq (p_add_eq h5 (r 0 (by decide)) (by decide)) (r 1 (by decide)) (by decide)) (r 2 (by decide)) (by decide)) (r 3 (by decide)) (by decide)) (r 4 (by decide)) (by decide)) (r 5 (by decide)) (by decide)) (r 6 (by decide)) (by decide)) (r 7 (by decide)) (by decide)
theorem pfE_eq {z z' : Nat × xMem} (h : eqZ z z') : ∀ b, 64 * b ≤ (pfC z).1 → eq3 (pfC z).1 (pfE z b) (pfE z' b) ∧ eq5 (pfE z b) (pfE z' b)
  | 0, _ => by
    have h3 := (pfC_eqZ h).2
    refine ⟨fun j hj => ?_, fun j hj => ?_⟩
    · show pfD z 3 j = pfD z' 3 j
      unfold pfD
      rw [va_up_ne _ _ (by decide), va_up_ne _ _ (by decide)]
      exact h3 j hj
    · show pfD z 5 j = pfD z' 5 j
      unfold pfD
      rw [va_up_self, va_up_self]
      unfold va_cpy
      rw [if_pos (by omega), if_pos (by omega)]
  | b + 1, hb => by
    obtain ⟨i3, i5⟩ := pfE_eq h b (by omega)
    have e : ∀ w : Nat × xMem, pfE w (b + 1) = p_stir (p_spread (64 * b) (pfE w b)) := fun _ => rfl
    rw [e, e]
    refine ⟨fun j hj => ?_, p_stir_eq (p_spread_eq i3 (by omega)) (fun j hj => ?_)⟩
    · rw [p_stir_k (by decide), p_stir_k (by decide), p_spread_k (by decide), p_spread_k (by decide)]
      exact i3 j hj
    · rw [p_spread_k (by decide), p_spread_k (by decide)]
      exact i5 j hj
def digB (h : Nat → Int32) (i : Nat) : Int32 := ush (h (i / 4)) (nI (24 - 8 * (i % 4))) &&& nI 255
theorem pfF_row {kk : Nat} (hk : kk ≠ 5) (z : Nat × xMem) : ∀ n, (pfF kk z n 5 = pfE z ((pfC z).1 / 64) 5) ∧ ∀ i, i < n → pfF kk z n kk i = digB (pfE z ((pfC z).1 / 64) 5) i
  | 0 => ⟨rfl, fun i hi => absurd hi (by omega)⟩
  | n + 1 => by
    obtain ⟨i1, i2⟩ := pfF_row hk z n
    have e : pfF kk z (n + 1) = va_up (pfF kk z n) kk (upd (pfF kk z n kk) n (ush (pfF kk z n 5 (n / 4)) (nI (24 - 8 * (n % 4))) &&& nI 255)) := rfl
    rw [e]
    refine ⟨by rw [va_up_ne _ _ (Ne.symm hk)]; exact i1, fun i hi => ?_⟩
    rw [va_up_self]
    unfold upd
    by_cases c : i = n
    · rw [if_pos c, i1, c]
      rfl
    · rw [if_neg c]
      exact i2 i (by omega)
/-- the digest of the first n numbers of g -/
noncomputable def shaD (n : Nat) (g : Nat → Int32) : Nat → Int32 := lk (fun i => digB (pfE (n, fun _ => g) ((pfC (n, fun _ => g)).1 / 64) 5) i)
theorem shaD_e (n : Nat) (g : Nat → Int32) : shaD n g = fun i => digB (pfE (n, fun _ => g) ((pfC (n, fun _ => g)).1 / 64) 5) i := lk_eq _
theorem P_fin_row {t : Nat} (ht : t ≠ 5) (n : Nat) (m : xMem) (i : Nat) (hi : i < 32) : (P_fin t (n, m)).2 t i = shaD n (m 3) i := by
  rw [P_fin_e]
  show pfF t (n, m) 32 t i = _
  rw [(pfF_row ht (n, m) 32).2 i hi]
  rw [shaD_e]
  have h : eqZ (n, m) (n, fun _ => m 3) := ⟨rfl, fun _ _ => rfl⟩
  have hc := (pfC_eqZ h).1
  rw [← hc]
  unfold digB
  rw [(pfE_eq h ((pfC (n, m)).1 / 64) (Nat.mul_div_le _ _)).2 (i / 4) (by omega)]
theorem shaD_eq (n : Nat) (g g' : Nat → Int32) (h : ∀ j, j < n → g j = g' j) (i : Nat) (hi : i < 32) : shaD n g i = shaD n g' i := by
  rw [shaD_e, shaD_e]
  have h : eqZ (n, fun _ => g) (n, fun _ => g') := ⟨rfl, h⟩
  have hc := (pfC_eqZ h).1
  rw [← hc]
  show digB _ i = digB _ i
  unfold digB
  rw [(pfE_eq h ((pfC (n, fun _ => g)).1 / 64) (Nat.mul_div_le _ _)).2 (i / 4) (by omega)]
def byte (x : Int32) : Prop := ∃ v, v < 256 ∧ x = nI v
theorem byte_and (x : Int32) : byte (x &&& nI 255) := by
  refine ⟨(x &&& nI 255).toBitVec.toNat, ?_, ?_⟩
  · show (x.toBitVec &&& (nI 255).toBitVec).toNat < 256
    rw [BitVec.toNat_and]
    exact Nat.lt_of_le_of_lt Nat.and_le_right (by decide)
  · apply Int32.toBitVec_inj.1
    show _ = BitVec.ofNat 32 _
    simp
theorem shaD_byte (n : Nat) (g : Nat → Int32) (i : Nat) : byte (shaD n g i) := by
  rw [shaD_e]
  exact byte_and _
