/-! THE CLASS'S WORLD AND ITS PURE FUNCTIONS -/
def ush (x y : Int32) : Int32 := (x.toUInt32 >>> (y.toUInt32 &&& Int32.toUInt32 31)).toInt32
def lush (x : Int64) (y : Int32) : Int64 := (x.toUInt64 >>> (y.toInt64.toUInt64 &&& Int64.toUInt64 63)).toInt64
def rotr (x d : Int32) : Int32 := ush x d ||| (x <<< ((-d) &&& 31))
/-- a loop: f 0, f 1, .. one behind the other -/
def itr {σ : Type} (f : Nat → σ → σ) : Nat → σ → σ
  | 0, z => z
  | n + 1, z => f n (itr f n z)
theorem itr_inv {σ : Type} {f : Nat → σ → σ} (P : σ → Prop) (h : ∀ i z, P z → P (f i z)) : ∀ n z, P z → P (itr f n z)
  | 0, _, hz => hz
  | n + 1, z, hz => h n _ (itr_inv P h n z hz)
abbrev xMem : Type := Nat → Nat → Int32
/-- the lengths of the class's int arrays by their numbers: 0 tape, 1 dayCounts, 2 made, 3 message, 4 words, 5 state, 6.. rows -/
def lenC : Nat → Nat
  | 0 => 200
  | 1 => 12
  | 2 => 32
  | 3 => 256
  | 4 => 64
  | 5 => 8
  | _ + 6 => 32
theorem lenC_row {k : Nat} (h : 6 ≤ k) : lenC k = 32 := by
  obtain ⟨j, rfl⟩ : ∃ j, k = j + 6 := ⟨k - 6, by omega⟩
  rfl
theorem lenC_lt (k : Nat) : lenC k < 2 ^ 31 := by
  rcases Nat.lt_or_ge k 6 with h | h
  · have : k = 0 ∨ k = 1 ∨ k = 2 ∨ k = 3 ∨ k = 4 ∨ k = 5 := by omega
    rcases this with rfl | rfl | rfl | rfl | rfl | rfl <;> decide
  · rw [lenC_row h]; decide
abbrev wX (o ad : Nat → Nat) (cZ cG : ClassId) (tl lc wc dc pn sl : Int32) (isw : Nat → Int32) : va_W :=
  [(o 0, .inr (0, [.ref (o 1), .ref (ad 0), .int tl, .ref (o 2), .ref (o 6), .int lc, .int wc, .ref (o 3), .ref (ad 1), .int dc, .ref (o 4), .int pn, .ref (o 5), .ref (ad 2)])),
   (o 1, .inr (1, [.ref (ad 3), .int sl, .ref (ad 4), .ref (ad 5)])),
   (o 2, .inl (cG, 24, .inr (.inr (.inr (.inr (fun i => some (ad (6 + i)))))))),
   (o 3, .inl (cG, 12, .inr (.inr (.inr (.inr (fun i => some (ad (30 + i)))))))),
   (o 4, .inl (cG, 5, .inr (.inr (.inr (.inr (fun i => some (ad (42 + i)))))))),
   (o 5, .inl (cG, 24, .inr (.inr (.inr (.inr (fun i => some (ad (47 + i)))))))),
   (o 6, .inl (cZ, 24, .inl isw))]
abbrev wC (o ad : Nat → Nat) (cI cZ cG : ClassId) (tl lc wc dc pn sl : Int32) (isw : Nat → Int32) (mem : xMem) : va_W := wX o ad cZ cG tl lc wc dc pn sl isw ++ mp ad cI lenC mem 71
abbrev tC (cI cZ cG : ClassId) : List (ClassId × FieldType) := [(cI, .int), (cZ, .boolean), (cG, .array .int)]
-- Sha256.take, takeFirst, takeLong: the message's length and the memory
def p_take (x : Int32) (z : Nat × xMem) : Nat × xMem := if z.1 < 256 then (z.1 + 1, va_up z.2 3 (upd (z.2 3) z.1 x)) else z
theorem p_take_le (x : Int32) (z : Nat × xMem) (h : z.1 ≤ 256) : (p_take x z).1 ≤ 256 := by
  unfold p_take
  split
  · show z.1 + 1 ≤ 256
    omega
  · exact h
def p_takeFirst (kk q : Nat) (z : Nat × xMem) : Nat × xMem := itr (fun i z => p_take (z.2 kk i) z) q z
theorem p_takeFirst_le (kk q : Nat) (z : Nat × xMem) (h : z.1 ≤ 256) : (p_takeFirst kk q z).1 ≤ 256 := itr_inv (fun z => z.1 ≤ 256) (fun _ z hz => p_take_le _ z hz) q z h
def p_sh (i : Nat) : Int32 := nI 56 - nI (8 * i)
theorem p_sh_pos : ∀ i, i < 8 → ¬ p_sh i < 0 := by decide +kernel
theorem p_sh_next : ∀ i, i < 8 → p_sh i + Int32.ofInt (-8) = p_sh (i + 1) := by decide +kernel
def p_takeLongN (v : Int64) (q : Nat) (z : Nat × xMem) : Nat × xMem := itr (fun i z => p_take ((lush v (p_sh i)).toInt32 &&& nI 255) z) q z
theorem p_takeLongN_le (v : Int64) (q : Nat) (z : Nat × xMem) (h : z.1 ≤ 256) : (p_takeLongN v q z).1 ≤ 256 := itr_inv (fun z => z.1 ≤ 256) (fun _ z hz => p_take_le _ z hz) q z h
def p_takeLong (v : Int64) (z : Nat × xMem) : Nat × xMem := p_takeLongN v 8 z
-- spreadBlock
def p_w1 (f i : Nat) (mem : xMem) : xMem := va_up mem 4 (upd (mem 4) i ((((mem 3 (f + 4 * i) <<< ((nI 24) &&& 31)) ||| (mem 3 (f + 4 * i + 1) <<< ((nI 16) &&& 31))) ||| (mem 3 (f + 4 * i + 2) <<< ((nI 8) &&& 31))) ||| mem 3 (f + 4 * i + 3)))
def p_w2 (i : Nat) (mem : xMem) : xMem := va_up mem 4 (upd (mem 4) (16 + i) (((((rotr (mem 4 (14 + i)) (nI 17) ^^^ rotr (mem 4 (14 + i)) (nI 19)) ^^^ ush (mem 4 (14 + i)) (nI 10)) + mem 4 (9 + i)) + ((rotr (mem 4 (1 + i)) (nI 7) ^^^ rotr (mem 4 (1 + i)) (nI 18)) ^^^ ush (mem 4 (1 + i)) (nI 3))) + mem 4 i))
def p_spread (f : Nat) (mem : xMem) : xMem := itr p_w2 48 (itr (p_w1 f) 16 mem)
-- stirState
def kcL : List Int32 := [0x428a2f98, 0x71374491, 0xb5c0fbcf, 0xe9b5dba5, 0x3956c25b, 0x59f111f1, 0x923f82a4, 0xab1c5ed5, 0xd807aa98, 0x12835b01, 0x243185be, 0x550c7dc3, 0x72be5d74, 0x80deb1fe, 0x9bdc06a7, 0xc19bf174, 0xe49b69c1, 0xefbe4786, 0x0fc19dc6, 0x240ca1cc, 0x2de92c6f, 0x4a7484aa, 0x5cb0a9dc, 0x76f988da, 0x983e5152, 0xa831c66d, 0xb00327c8, 0xbf597fc7, 0xc6e00bf3, 0xd5a79147, 0x06ca6351, 0x14292967, 0x27b70a85, 0x2e1b2138, 0x4d2c6dfc, 0x53380d13, 0x650a7354, 0x766a0abb, 0x81c2c92e, 0x92722c85, 0xa2bfe8a1, 0xa81a664b, 0xc24b8b70, 0xc76c51a3, 0xd192e819, 0xd6990624, 0xf40e3585, 0x106aa070, 0x19a4c116, 0x1e376c08, 0x2748774c, 0x34b0bcb5, 0x391c0cb3, 0x4ed8aa4a, 0x5b9cca4f, 0x682e6ff3, 0x748f82ee, 0x78a5636f, 0x84c87814, 0x8cc70208, 0x90befffa, 0xa4506ceb, 0xbef9a3f7, 0xc67178f2]
def kc (i : Nat) : Int32 := kcL.getD i 0
def h0L : List Int32 := [0x6a09e667, 0xbb67ae85, 0x3c6ef372, 0xa54ff53a, 0x510e527f, 0x9b05688c, 0x1f83d9ab, 0x5be0cd19]
def h0 (i : Nat) : Int32 := h0L.getD i 0
def p_first (kt wt : Int32) (v : Nat → Int32) : Int32 := (((v 7 + ((rotr (v 4) (nI 6) ^^^ rotr (v 4) (nI 11)) ^^^ rotr (v 4) (nI 25))) + ((v 4 &&& v 5) ^^^ ((v 4 ^^^ (-1)) &&& v 6))) + kt) + wt
def p_rnd (kt wt : Int32) (v : Nat → Int32) : Nat → Int32
  | 0 => (p_first kt wt v + ((rotr (v 0) (nI 2) ^^^ rotr (v 0) (nI 13)) ^^^ rotr (v 0) (nI 22))) + (((v 0 &&& v 1) ^^^ (v 0 &&& v 2)) ^^^ (v 1 &&& v 2))
  | 1 => v 0
  | 2 => v 1
  | 3 => v 2
  | 4 => v 3 + p_first kt wt v
  | 5 => v 4
  | 6 => v 5
  | _ => v 6
def p_rnds (mem : xMem) (n : Nat) : Nat → Int32 := itr (fun t v => p_rnd (kc t) (mem 4 t) v) n (mem 5)
def p_add (j : Nat) (x : Int32) (mem : xMem) : xMem := va_up mem 5 (upd (mem 5) j (mem 5 j + x))
def p_stir (mem : xMem) : xMem := p_add 7 (p_rnds mem 64 7) (p_add 6 (p_rnds mem 64 6) (p_add 5 (p_rnds mem 64 5) (p_add 4 (p_rnds mem 64 4) (p_add 3 (p_rnds mem 64 3) (p_add 2 (p_rnds mem 64 2) (p_add 1 (p_rnds mem 64 1) (p_add 0 (p_rnds mem 64 0) mem)))))))
-- finishInto
def fmd (x y : Int32) : Int32 := if ((x ^^^ y) < 0 ∧ ¬ (x - x / y * y) = 0) then (x - x / y * y) + y else x - x / y * y
def zz (n : Nat) : Nat := (311 - n) % 64
theorem zz_lt (n : Nat) : zz n < 64 := Nat.mod_lt _ (by decide)
theorem zz_eq : ∀ n, n < 257 → fmd (nI 55 - nI n) (nI 64) = nI (zz n) := by decide +kernel
def pfA (z : Nat × xMem) : Nat × xMem := p_take (nI 128) z
def pfB (z : Nat × xMem) : Nat × xMem := itr (fun _ => p_take (nI 0)) (zz z.1) (pfA z)
def pfC (z : Nat × xMem) : Nat × xMem := p_takeLong (lN 8 * (nI z.1).toInt64) (pfB z)
def pfD (z : Nat × xMem) : xMem := va_up (pfC z).2 5 (va_cpy h0 ((pfC z).2 5) 0 0 8)
def pfE (z : Nat × xMem) (b : Nat) : xMem := itr (fun b m => p_stir (p_spread (64 * b) m)) b (pfD z)
def pfF (kk : Nat) (z : Nat × xMem) (i : Nat) : xMem := itr (fun i m => va_up m kk (upd (m kk) i (ush (m 5 (i / 4)) (nI (24 - 8 * (i % 4))) &&& nI 255))) i (pfE z ((pfC z).1 / 64))
def p_finish (kk : Nat) (z : Nat × xMem) : Nat × xMem := ((pfC z).1, pfF kk z 32)
theorem pfA_le (z : Nat × xMem) (h : z.1 ≤ 247) : (pfA z).1 ≤ 256 := p_take_le _ _ (by omega)
theorem pfZ_le (i : Nat) (z : Nat × xMem) (h : z.1 ≤ 247) : (itr (fun _ => p_take (nI 0)) i (pfA z)).1 ≤ 256 := itr_inv (fun z => z.1 ≤ 256) (fun _ z hz => p_take_le _ z hz) i _ (pfA_le z h)
theorem pfB_le (z : Nat × xMem) (h : z.1 ≤ 247) : (pfB z).1 ≤ 256 := by
  unfold pfB
  exact pfZ_le (zz z.1) z h
theorem pfC_le (z : Nat × xMem) (h : z.1 ≤ 247) : (pfC z).1 ≤ 256 := by
  unfold pfC p_takeLong
  exact p_takeLongN_le _ 8 _ (pfB_le z h)
theorem p_take_fst (x : Int32) (z : Nat × xMem) (h : z.1 < 256) : (p_take x z).1 = z.1 + 1 := by
  unfold p_take
  rw [if_pos h]
theorem p_takeFirst_fst (kk : Nat) : ∀ (q : Nat) (z : Nat × xMem), z.1 + q ≤ 256 → (p_takeFirst kk q z).1 = z.1 + q
  | 0, _, _ => rfl
  | q + 1, z, h => by
    have ih := p_takeFirst_fst kk q z (by omega)
    show (p_take _ (p_takeFirst kk q z)).1 = _
    rw [p_take_fst _ _ (by omega), ih]
    omega
theorem p_takeLongN_fst (v : Int64) : ∀ (q : Nat) (z : Nat × xMem), z.1 + q ≤ 256 → (p_takeLongN v q z).1 = z.1 + q
  | 0, _, _ => rfl
  | q + 1, z, h => by
    have ih := p_takeLongN_fst v q z (by omega)
    show (p_take _ (p_takeLongN v q z)).1 = _
    rw [p_take_fst _ _ (by omega), ih]
    omega
