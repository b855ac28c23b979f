theorem itr_s {σ : Type} (f : Nat → σ → σ) (n : Nat) (z : σ) : itr f (n + 1) z = f n (itr f n z) := rfl
theorem itr_0 {σ : Type} (f : Nat → σ → σ) (z : σ) : itr f 0 z = z := rfl
theorem p_finish_1 (kk : Nat) (z : Nat × xMem) : (p_finish kk z).1 = (pfC z).1 := by simp only [p_finish]
theorem p_finish_2 (kk : Nat) (z : Nat × xMem) : (p_finish kk z).2 = pfF kk z 32 := by simp only [p_finish]
theorem pfF_s (kk : Nat) (z : Nat × xMem) (i : Nat) : pfF kk z (i + 1) = va_up (pfF kk z i) kk (upd (pfF kk z i kk) i (ush (pfF kk z i 5 (i / 4)) (nI (24 - 8 * (i % 4))) &&& nI 255)) := rfl
theorem pfF_0 (kk : Nat) (z : Nat × xMem) : pfF kk z 0 = pfE z ((pfC z).1 / 64) := rfl
theorem pfE_s (z : Nat × xMem) (b : Nat) : pfE z (b + 1) = p_stir (p_spread (64 * b) (pfE z b)) := rfl
theorem pfE_0 (z : Nat × xMem) : pfE z 0 = pfD z := rfl
theorem pfD_e (z : Nat × xMem) : pfD z = va_up (pfC z).2 5 (va_cpy h0 ((pfC z).2 5) 0 0 8) := rfl
theorem pfC_e (n : Nat) (mem : xMem) : pfC (n, mem) = p_takeLong (lN 8 * (nI n).toInt64) (pfB (n, mem)) := rfl
theorem pfB_e (n : Nat) (mem : xMem) : pfB (n, mem) = itr (fun _ => p_take (nI 0)) (zz n) (pfA (n, mem)) := rfl
theorem pfA_e (z : Nat × xMem) : pfA z = p_take (nI 128) z := rfl
