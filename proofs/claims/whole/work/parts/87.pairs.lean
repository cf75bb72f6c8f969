/-! pixels lit, both sides -/
def u32 (x : Int32) : Nat := x.toBitVec.toNat
theorem u32_lt (x : Int32) : u32 x < 2 ^ 32 := x.toBitVec.isLt
def shk (k : Nat) : Bool := decide ((((nI k &&& 31).toBitVec).smod 32).toNat = k)
theorem shk_all : ((List.range 32).all shk) = true := by decide +kernel
theorem and1b (y : Int32) : y &&& 1 = nI (if y.toBitVec.getLsbD 0 = true then 1 else 0) := by
  rcases and1 y with e | e
  · have h : (y &&& 1).toBitVec.getLsbD 0 = false := by rw [e]; rfl
    rw [Int32.toBitVec_and, BitVec.getLsbD_and] at h
    have h1 : (1 : Int32).toBitVec.getLsbD 0 = true := rfl
    rw [h1, Bool.and_true] at h
    rw [h, e]
    rfl
  · have h : (y &&& 1).toBitVec.getLsbD 0 = true := by rw [e]; rfl
    rw [Int32.toBitVec_and, BitVec.getLsbD_and] at h
    rw [((Bool.and_eq_true _ _).mp h).1, e]
    rfl
theorem bit_k (x : Int32) {k : Nat} (hk : k < 32) : (x >>> (nI k &&& 31)) &&& 1 = nI (u32 x / 2 ^ k % 2) := by
  have hs := of_decide_eq_true (List.all_eq_true.mp shk_all k (List.mem_range.mpr hk))
  have e : (x >>> (nI k &&& 31)).toBitVec.getLsbD 0 = x.toBitVec.getLsbD k := by
    rw [Int32.toBitVec_shiftRight, BitVec.sshiftRight_eq', BitVec.getLsbD_sshiftRight, hs, Nat.add_zero, if_pos hk]
    rfl
  have e2 : x.toBitVec.getLsbD k = decide (u32 x / 2 ^ k % 2 = 1) := Nat.testBit_eq_decide_div_mod_eq
  rw [and1b, e, e2]
  congr 1
  rcases Nat.mod_two_eq_zero_or_one (u32 x / 2 ^ k) with h | h <;> rw [h] <;> rfl
theorem pc_succ (k n : Nat) : pc (k + 1) n = pc k n + n / 2 ^ k % 2 := by
  rw [pc_add]
  rfl
theorem x11_size (x : Int32) (M : gM) : X11_size x M = some (nI (pc 32 (u32 x))) := by
  obtain ⟨e, h1, h2⟩ := gI1_FU (step := fun s => X11_size_L4 x s.1 s.2 M) (fun k (z : Int32) => (z, nI k)) (fun k z => z = nI (pc k (u32 x))) (fun z => z = nI (pc 32 (u32 x))) 0 32 (by omega) (by omega)
    (fun k z hk hz => by
      refine ⟨nI (pc (k + 1) (u32 x)), ?_, rfl⟩
      show X11_size_L4 x z (nI k) M = _
      unfold X11_size_L4
      rw [nlit 32, if_neg (nI_ge hk (by decide)), bit_k x hk, hz, nI_add, gLet_e, gLet_e, nI_1, pc_succ])
    (fun z hz => ⟨z, by
      show X11_size_L4 x z (nI 32) M = _
      unfold X11_size_L4
      rw [nlit 32, if_pos (nI_le (Nat.le_refl _) (by decide))], hz⟩) 0 rfl
  unfold X11_size
  show ((gIter (fun s => X11_size_L4 x s.1 s.2 M) FU (0, nI 0)).bind _) = _
  rw [h1, h2]
  rfl
def mkk (k : Nat) : Bool := decide ((4294967295 : Int64).toBitVec.getLsbD k = decide (k < 32))
theorem mkk_all : ((List.range 64).all mkk) = true := by decide +kernel
theorem j64_bv (hi lo : Int32) : (j64 hi lo).toBitVec = (hi.toBitVec ++ lo.toBitVec : BitVec 64) := by
  apply BitVec.eq_of_getLsbD_eq
  intro k hk
  unfold j64
  have hm := of_decide_eq_true (List.all_eq_true.mp mkk_all k (List.mem_range.mpr hk))
  have h32 : ((32 : Int64).toBitVec.smod 64).toNat = 32 := by decide +kernel
  rw [Int64.toBitVec_or, Int64.toBitVec_and, Int64.toBitVec_shiftLeft, BitVec.getLsbD_or, BitVec.getLsbD_and, hm, BitVec.shiftLeft_eq', h32, BitVec.getLsbD_shiftLeft, Int32.toBitVec_toInt64, Int32.toBitVec_toInt64, BitVec.getLsbD_append, BitVec.getLsbD_signExtend, BitVec.getLsbD_signExtend]
  by_cases h : k < 32
  · simp [h, hk]
  · have h' : k - 32 < 32 := by omega
    have h'' : k - 32 < 64 := by omega
    simp [h, hk, h', h'']
theorem u64_j (hi lo : Int32) : u64 (j64 hi lo) = u32 lo + 2 ^ 32 * u32 hi := by
  unfold u64
  rw [j64_bv, BitVec.toNat_append]
  show u32 hi <<< 32 ||| u32 lo = _
  rw [← Nat.shiftLeft_add_eq_or_of_lt (u32_lt lo), Nat.shiftLeft_eq, Nat.add_comm, Nat.mul_comm]
theorem pc_j (hi lo : Int32) : pc 64 (u64 (j64 hi lo)) = pc 32 (u32 lo) + pc 32 (u32 hi) := by
  have hl := u32_lt lo
  rw [u64_j, show (64 : Nat) = 32 + 32 from rfl, pc_add, ← pc_mod 32 (u32 lo + 2 ^ 32 * u32 hi)]
  rw [show (u32 lo + 2 ^ 32 * u32 hi) % 2 ^ 32 = u32 lo by omega, show (u32 lo + 2 ^ 32 * u32 hi) / 2 ^ 32 = u32 hi by omega]
def spc (f : Nat → Nat) : Nat → Nat
  | 0 => 0
  | m + 1 => spc f m + f m
section PR
variable {n W H T K i j k t : Nat} {M M' Mx Mm Mx' Mm' : gM}
def lt1 (i : Nat) (M : gM) (t : Nat) : Nat := pc 64 (u64 (M.2 41 i t))
theorem x11_lit (hj : j = 8 ∨ j = 9) (ht : t < 10) : X11_lit j (nI t) M = some (nI (pc 64 (u64 (j64 (M.1 52 j (1034 + 2 * t + 1)) (M.1 52 j (1034 + 2 * t)))))) := by
  unfold X11_lit
  have e1 : (1034 : Int32) + (2 * nI t) = nI (1034 + 2 * t) := by rw [nlit 2, nI_mul, nlit 1034, nI_add]
  rw [e1, nI_1, gLen8 hj, gG_t (gin_n (k := 1034 + 2 * t) (by omega) (by decide)), nI_clamp (n := 1034 + 2 * t) (by omega), x11_size, bind_e, gG_t (gin_n (k := 1034 + 2 * t + 1) (by omega) (by decide)), nI_clamp (n := 1034 + 2 * t + 1) (by omega), x11_size, bind_e, nI_add, pc_j]
theorem x0_pairs : X0_pairs i M = some (nI (spc (lt1 i M) 10)) := by
  obtain ⟨e, h1, h2⟩ := gI1_FU (step := fun s => X0_pairs_L4 i s.1 s.2 M) (fun k (z : Int32) => (z, nI k)) (fun k z => z = nI (spc (lt1 i M) k)) (fun z => z = nI (spc (lt1 i M) 10)) 0 10 (by omega) (by omega)
    (fun k z hk hz => by
      refine ⟨nI (spc (lt1 i M) (k + 1)), ?_, rfl⟩
      show X0_pairs_L4 i z (nI k) M = _
      unfold X0_pairs_L4
      rw [nlit 10, if_neg (nI_ge hk (by decide)), gG_t (gin_n hk (by decide)), nI_clamp (by omega), bitc, bind_e, hz, nI_add, gLet_e, gLet_e, nI_1]
      rfl)
    (fun z hz => ⟨z, by
      show X0_pairs_L4 i z (nI 10) M = _
      unfold X0_pairs_L4
      rw [nlit 10, if_pos (nI_le (Nat.le_refl _) (by decide))], hz⟩) 0 rfl
  unfold X0_pairs
  show ((gIter (fun s => X0_pairs_L4 i s.1 s.2 M) FU (0, nI 0)).bind _) = _
  rw [h1, h2]
  rfl
theorem spc_0 {f : Nat → Nat} {m n : Nat} (h : n ≤ m) (hz : ∀ t, n ≤ t → t < m → f t = 0) : spc f m = spc f n := by
  induction m with
  | zero => rw [show n = 0 by omega]
  | succ m ih =>
    by_cases e : n = m + 1
    · rw [e]
    · show spc f m + f m = _
      rw [ih (by omega) (fun t h1 h2 => hz t h1 (by omega)), hz m (by omega) (by omega), Nat.add_zero]
/-- pairs of triangle and pixel lit: the same number -/
theorem j_pairs (hj : j = 8 ∨ j = 9) (hn : n ≤ 10) (hm : Mm.1 50 0 16 = nI n) (fl : FL n i (Mm.1 52 j) Mx) : X0_pairs i Mx = some (nI (spc (lt1 i Mx) 10)) ∧ X11_pairs j Mm = some (nI (spc (lt1 i Mx) 10)) := by
  refine ⟨x0_pairs, ?_⟩
  have hs : spc (lt1 i Mx) 10 = spc (lt1 i Mx) n := spc_0 hn (fun t h1 h2 => by
    unfold lt1
    rw [fl.2.1 t h1 h2]
    decide +kernel)
  obtain ⟨e, h1, h2⟩ := gI1_FU (step := fun s => X11_pairs_L4 j s.1 s.2 Mm) (fun k (z : Int32) => (z, nI k)) (fun k z => z = nI (spc (lt1 i Mx) k)) (fun z => z = nI (spc (lt1 i Mx) n)) 0 n (by omega) (by omega)
    (fun k z hk hz => by
      refine ⟨nI (spc (lt1 i Mx) (k + 1)), ?_, rfl⟩
      show X11_pairs_L4 j z (nI k) Mm = _
      unfold X11_pairs_L4
      rw [hm, if_neg (nI_ge hk (by omega)), x11_lit hj (by omega), bind_e, ← fl.1 k hk, hz, nI_add, gLet_e, gLet_e, nI_1]
      rfl)
    (fun z hz => ⟨z, by
      show X11_pairs_L4 j z (nI n) Mm = _
      unfold X11_pairs_L4
      rw [hm, if_pos (nI_le (Nat.le_refl _) (by omega))], hz⟩) 0 rfl
  unfold X11_pairs
  show ((gIter (fun s => X11_pairs_L4 j s.1 s.2 Mm) FU (0, nI 0)).bind _) = _
  rw [h1, h2, hs]
  rfl
end PR
