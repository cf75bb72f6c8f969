/-! counting bits: the JDK's way, the plain way -/
def pc : Nat → Nat → Nat
  | 0, _ => 0
  | k + 1, n => n % 2 + pc k (n / 2)
theorem pc_le (k n : Nat) : pc k n ≤ k := by
  induction k generalizing n with
  | zero => exact Nat.le_refl 0
  | succ k ih =>
    have := ih (n / 2)
    show n % 2 + pc k (n / 2) ≤ k + 1
    omega
theorem pc_add (a b n : Nat) : pc (a + b) n = pc a n + pc b (n / 2 ^ a) := by
  induction a generalizing n with
  | zero => rw [Nat.zero_add, Nat.pow_zero, Nat.div_one]; show _ = 0 + _; rw [Nat.zero_add]
  | succ a ih =>
    rw [Nat.succ_add]
    show n % 2 + pc (a + b) (n / 2) = n % 2 + pc a (n / 2) + pc b (n / 2 ^ (a + 1))
    rw [ih, Nat.div_div_eq_div_mul, Nat.pow_succ, Nat.mul_comm (2 ^ a) 2]
    omega
theorem pc_mod (a n : Nat) : pc a (n % 2 ^ a) = pc a n := by
  induction a generalizing n with
  | zero => rfl
  | succ a ih =>
    show n % 2 ^ (a + 1) % 2 + pc a (n % 2 ^ (a + 1) / 2) = n % 2 + pc a (n / 2)
    have e1 : n % 2 ^ (a + 1) % 2 = n % 2 := Nat.mod_mod_of_dvd n ⟨2 ^ a, by rw [Nat.pow_succ, Nat.mul_comm]⟩
    have e2 : n % 2 ^ (a + 1) / 2 = n / 2 % 2 ^ a := by
      rw [Nat.pow_succ, Nat.mul_comm (2 ^ a) 2, Nat.mod_mul_right_div_self]
    rw [e1, e2, ih]
/-! bytes -/
def mkm (m : Nat) : Nat → Nat
  | 0 => 0
  | l + 1 => m + 256 * mkm m l
theorem land256 {x m M : Nat} (hm : m < 256) : x &&& (m + 256 * M) = ((x % 256) &&& m) + 256 * ((x / 256) &&& M) := by
  have h1 : (x &&& (m + 256 * M)) % 2 ^ 8 = (x % 2 ^ 8) &&& ((m + 256 * M) % 2 ^ 8) := Nat.and_mod_two_pow
  have h2 : (x &&& (m + 256 * M)) / 2 ^ 8 = (x / 2 ^ 8) &&& ((m + 256 * M) / 2 ^ 8) := Nat.and_div_two_pow
  have e1 : (m + 256 * M) % 2 ^ 8 = m := by omega
  have e2 : (m + 256 * M) / 2 ^ 8 = M := by omega
  rw [e1] at h1
  rw [e2] at h2
  have e3 : (2 : Nat) ^ 8 = 256 := rfl
  rw [e3] at h1 h2
  have := Nat.div_add_mod (x &&& (m + 256 * M)) 256
  omega
def sA (l n : Nat) : Nat := n - ((n / 2) &&& mkm 85 l)
def sB (l n : Nat) : Nat := (n &&& mkm 51 l) + ((n / 4) &&& mkm 51 l)
def sC (l n : Nat) : Nat := (n + n / 16) &&& mkm 15 l
def bA (d : Nat) : Nat := d - ((d / 2) &&& 85)
def bB (d : Nat) : Nat := (d &&& 51) + ((d / 4) &&& 51)
def bC (d : Nat) : Nat := (d + d / 16) % 16
def bck (d : Nat) : Bool := decide ((d / 2) &&& 85 = (d / 2 + 128) &&& 85) && (decide ((d / 2) &&& 85 ≤ d) && (decide (bA d < 256) && (decide ((d / 4) &&& 51 = (d / 4 + 64) &&& 51) && (decide ((d / 4) &&& 51 = (d / 4 + 128) &&& 51) && (decide ((d / 4) &&& 51 = (d / 4 + 192) &&& 51) && (decide (bB (bA d) ≤ 68) && (decide (bB (bA d) % 16 ≤ 4) && decide (bC (bB (bA d)) = pc 8 d))))))))
theorem bck_all : ((List.range 256).all bck) = true := by decide +kernel
theorem bck_e {d : Nat} (h : d < 256) : (d / 2) &&& 85 = (d / 2 + 128) &&& 85 ∧ (d / 2) &&& 85 ≤ d ∧ bA d < 256 ∧ (d / 4) &&& 51 = (d / 4 + 64) &&& 51 ∧ (d / 4) &&& 51 = (d / 4 + 128) &&& 51 ∧ (d / 4) &&& 51 = (d / 4 + 192) &&& 51 ∧ bB (bA d) ≤ 68 ∧ bB (bA d) % 16 ≤ 4 ∧ bC (bB (bA d)) = pc 8 d := by
  have := List.all_eq_true.mp bck_all d (List.mem_range.mpr h)
  unfold bck at this
  simp only [Bool.and_eq_true, decide_eq_true_eq] at this
  exact this
theorem sA_s (l : Nat) {d r : Nat} (hd : d < 256) : sA (l + 1) (d + 256 * r) = bA d + 256 * sA l r := by
  unfold sA bA
  show d + 256 * r - (((d + 256 * r) / 2) &&& (85 + 256 * mkm 85 l)) = _
  rw [land256 (by decide), show (d + 256 * r) / 2 / 256 = r / 2 by omega]
  have hb := bck_e hd
  have e : ((d + 256 * r) / 2 % 256) &&& 85 = (d / 2) &&& 85 := by
    rcases (show r % 2 = 0 ∨ r % 2 = 1 by omega) with h | h
    · rw [show (d + 256 * r) / 2 % 256 = d / 2 by omega]
    · rw [show (d + 256 * r) / 2 % 256 = d / 2 + 128 by omega, ← hb.1]
  rw [e]
  have h1 : (r / 2) &&& mkm 85 l ≤ r / 2 := Nat.and_le_left
  have h2 := hb.2.1
  omega
theorem sB_s (l : Nat) {d r : Nat} (hd : d < 256) : sB (l + 1) (d + 256 * r) = bB d + 256 * sB l r := by
  unfold sB bB
  show ((d + 256 * r) &&& (51 + 256 * mkm 51 l)) + (((d + 256 * r) / 4) &&& (51 + 256 * mkm 51 l)) = _
  rw [land256 (by decide), land256 (by decide), show (d + 256 * r) / 4 / 256 = r / 4 by omega, show (d + 256 * r) / 256 = r by omega, show (d + 256 * r) % 256 = d by omega]
  have hb := bck_e hd
  have e : ((d + 256 * r) / 4 % 256) &&& 51 = (d / 4) &&& 51 := by
    rcases (show r % 4 = 0 ∨ r % 4 = 1 ∨ r % 4 = 2 ∨ r % 4 = 3 by omega) with h | h | h | h
    · rw [show (d + 256 * r) / 4 % 256 = d / 4 by omega]
    · rw [show (d + 256 * r) / 4 % 256 = d / 4 + 64 by omega, ← hb.2.2.2.1]
    · rw [show (d + 256 * r) / 4 % 256 = d / 4 + 128 by omega, ← hb.2.2.2.2.1]
    · rw [show (d + 256 * r) / 4 % 256 = d / 4 + 192 by omega, ← hb.2.2.2.2.2.1]
  rw [e]
  omega
theorem sC_s (l : Nat) {d r : Nat} (hd : d ≤ 68) (hr : r % 16 ≤ 4) : sC (l + 1) (d + 256 * r) = bC d + 256 * sC l r := by
  unfold sC bC
  show ((d + 256 * r + (d + 256 * r) / 16) &&& (15 + 256 * mkm 15 l)) = _
  rw [land256 (by decide), show (d + 256 * r + (d + 256 * r) / 16) / 256 = r + r / 16 by omega]
  have e : ∀ x, x &&& 15 = x % 16 := fun x => Nat.and_two_pow_sub_one_eq_mod x 4
  rw [e]
  omega
/-- the bytes' counts -/
def wB : Nat → Nat → Nat
  | 0, _ => 0
  | l + 1, n => pc 8 (n % 256) + 256 * wB l (n / 256)
theorem sABC (l : Nat) : ∀ n, n < 256 ^ l → sC l (sB l (sA l n)) = wB l n ∧ sB l (sA l n) % 16 ≤ 4 ∧ sA l n < 256 ^ l := by
  induction l with
  | zero =>
    intro n hn
    have : n = 0 := by omega
    subst this
    decide
  | succ l ih =>
    intro n hn
    have hn' : n / 256 < 256 ^ l := by
      rw [Nat.pow_succ] at hn
      exact Nat.div_lt_of_lt_mul (by rw [Nat.mul_comm]; exact hn)
    have h := ih (n / 256) hn'
    have hd : n % 256 < 256 := Nat.mod_lt _ (by decide)
    have hb := bck_e hd
    have en : n % 256 + 256 * (n / 256) = n := Nat.mod_add_div n 256
    have e1 : sA (l + 1) n = bA (n % 256) + 256 * sA l (n / 256) := by
      have := sA_s l (r := n / 256) hd
      rw [en] at this
      exact this
    have e2 : sB (l + 1) (sA (l + 1) n) = bB (bA (n % 256)) + 256 * sB l (sA l (n / 256)) := by
      rw [e1]
      exact sB_s l hb.2.2.1
    refine ⟨?_, ?_, ?_⟩
    · rw [e2, sC_s l hb.2.2.2.2.2.2.1 h.2.1, hb.2.2.2.2.2.2.2.2, h.1]
      rfl
    · rw [e2]
      have := hb.2.2.2.2.2.2.2.1
      omega
    · rw [e1, Nat.pow_succ]
      have := h.2.2
      have := hb.2.2.1
      omega
theorem w8 (n : Nat) : ∃ a0 a1 a2 a3 a4 a5 a6 a7, (a0 ≤ 8 ∧ a1 ≤ 8 ∧ a2 ≤ 8 ∧ a3 ≤ 8 ∧ a4 ≤ 8 ∧ a5 ≤ 8 ∧ a6 ≤ 8 ∧ a7 ≤ 8) ∧ wB 8 n = a0 + 256 * (a1 + 256 * (a2 + 256 * (a3 + 256 * (a4 + 256 * (a5 + 256 * (a6 + 256 * (a7 + 256 * 0))))))) ∧ pc 64 n = a0 + (a1 + (a2 + (a3 + (a4 + (a5 + (a6 + (a7 + 0))))))) := by
  have s : ∀ k m, pc (8 + k) m = pc 8 (m % 256) + pc k (m / 256) := fun k m => by
    rw [pc_add, ← pc_mod 8 m]
  refine ⟨pc 8 (n % 256), pc 8 (n / 256 % 256), pc 8 (n / 256 / 256 % 256), pc 8 (n / 256 / 256 / 256 % 256), pc 8 (n / 256 / 256 / 256 / 256 % 256), pc 8 (n / 256 / 256 / 256 / 256 / 256 % 256), pc 8 (n / 256 / 256 / 256 / 256 / 256 / 256 % 256), pc 8 (n / 256 / 256 / 256 / 256 / 256 / 256 / 256 % 256), ⟨pc_le 8 _, pc_le 8 _, pc_le 8 _, pc_le 8 _, pc_le 8 _, pc_le 8 _, pc_le 8 _, pc_le 8 _⟩, rfl, ?_⟩
  rw [show (64 : Nat) = 8 + (8 + (8 + (8 + (8 + (8 + (8 + (8 + 0))))))) from rfl, s, s, s, s, s, s, s, s]
  rfl
theorem dv256 {a R : Nat} (h : a < 256) : (a + 256 * R) / 256 = R := by omega
theorem w_sum {a0 a1 a2 a3 a4 a5 a6 a7 R1 R2 R3 R4 R5 R6 R7 x3 x4 x5 : Nat} (h : a0 ≤ 8 ∧ a1 ≤ 8 ∧ a2 ≤ 8 ∧ a3 ≤ 8 ∧ a4 ≤ 8 ∧ a5 ≤ 8 ∧ a6 ≤ 8 ∧ a7 ≤ 8) (r7 : R7 = a7) (r6 : R6 = a6 + 256 * R7) (r5 : R5 = a5 + 256 * R6) (r4 : R4 = a4 + 256 * R5) (r3 : R3 = a3 + 256 * R4) (r2 : R2 = a2 + 256 * R3) (r1 : R1 = a1 + 256 * R2) (r0 : x3 = a0 + 256 * R1)
    (e4 : x4 = x3 + x3 / 256) (e5 : x5 = x4 + x4 / 65536) : x4 < 2 ^ 64 ∧ x5 < 2 ^ 64 ∧ x5 + x5 / 4294967296 < 2 ^ 64 ∧ (x5 + x5 / 4294967296) % 128 = a0 + (a1 + (a2 + (a3 + (a4 + (a5 + (a6 + (a7 + 0))))))) := by
  have b7 : R7 ≤ 8 := by clear e4 e5 r0 r1 r2 r3 r4 r5 r6; omega
  have b6 : R6 ≤ 2056 := by clear e4 e5 r0 r1 r2 r3 r4 r5 r7; omega
  have b5 : R5 ≤ 526344 := by clear e4 e5 r0 r1 r2 r3 r4 r6 r7 b7; omega
  have b4 : R4 ≤ 134744072 := by clear e4 e5 r0 r1 r2 r3 r5 r6 r7 b7 b6; omega
  have b3 : R3 ≤ 34494482440 := by clear e4 e5 r0 r1 r2 r4 r5 r6 r7 b7 b6 b5; omega
  have b2 : R2 ≤ 8830587504648 := by clear e4 e5 r0 r1 r3 r4 r5 r6 r7 b7 b6 b5 b4; omega
  have b1 : R1 ≤ 2260630401189896 := by clear e4 e5 r0 r2 r3 r4 r5 r6 r7 b7 b6 b5 b4 b3; omega
  have f4 : x4 = (a0 + a1) + 256 * (R1 + R2) := by
    rw [e4, r0, dv256 (by omega)]
    clear e4 e5 r0 r2 r3 r4 r5 r6 r7
    omega
  have s12 : R1 + R2 = (a1 + a2) + 256 * (R2 + R3) := by clear e4 e5 r0 r3 r4 r5 r6 r7 f4; omega
  have g4 : x4 / 65536 = R2 + R3 := by
    rw [f4, show (65536 : Nat) = 256 * 256 from rfl, ← Nat.div_div_eq_div_mul, dv256 (by omega), s12, dv256 (by omega)]
  have f5 : x5 = (a0 + a1 + a2 + a3) + 256 * (R1 + R2 + R3 + R4) := by
    rw [e5, g4, f4]
    clear e4 e5 r0 r1 r4 r5 r6 r7 f4 g4 s12
    omega
  have t1 : R1 + R2 + R3 + R4 = (a1 + a2 + a3 + a4) + 256 * (R2 + R3 + R4 + R5) := by clear e4 e5 r0 r5 r6 r7 f4 f5 g4 s12; omega
  have t2 : R2 + R3 + R4 + R5 = (a2 + a3 + a4 + a5) + 256 * (R3 + R4 + R5 + R6) := by clear e4 e5 r0 r1 r6 r7 f4 f5 g4 s12 t1; omega
  have t3 : R3 + R4 + R5 + R6 = (a3 + a4 + a5 + a6) + 256 * (R4 + R5 + R6 + R7) := by clear e4 e5 r0 r1 r2 r7 f4 f5 g4 s12 t1 t2; omega
  have g5 : x5 / 4294967296 = R4 + R5 + R6 + R7 := by
    rw [f5, show (4294967296 : Nat) = 256 * 256 * 256 * 256 from rfl, ← Nat.div_div_eq_div_mul, ← Nat.div_div_eq_div_mul, ← Nat.div_div_eq_div_mul, dv256 (by omega), t1, dv256 (by omega), t2, dv256 (by omega), t3, dv256 (by omega)]
  have f6 : x5 + x5 / 4294967296 = (a0 + (a1 + (a2 + (a3 + (a4 + (a5 + (a6 + (a7 + 0)))))))) + 256 * (R1 + R2 + R3 + R4 + R5 + R6 + R7) := by
    rw [g5, f5]
    clear e4 e5 r0 r1 r2 r3 f4 f5 g4 g5 s12 t1 t2 t3
    omega
  have hS : a0 + (a1 + (a2 + (a3 + (a4 + (a5 + (a6 + (a7 + 0))))))) ≤ 64 := by clear e4 e5 r0 r1 r2 r3 r4 r5 r6 r7 f4 f5 g4 g5 s12 t1 t2 t3 f6 b1 b2 b3 b4 b5 b6 b7; omega
  have x4b : x4 < 2 ^ 64 := by rw [f4]; clear e4 e5 r0 r1 r2 r3 r4 r5 r6 r7 f4 f5 g4 g5 s12 t1 t2 t3 f6 hS; omega
  have x5b : x5 < 2 ^ 64 := by rw [f5]; clear e4 e5 r0 r1 r2 r3 r4 r5 r6 r7 f4 f5 g4 g5 s12 t1 t2 t3 f6 hS x4b; omega
  refine ⟨x4b, x5b, ?_, ?_⟩
  · rw [f6]; clear e4 e5 r0 r1 r2 r3 r4 r5 r6 r7 f4 f5 g4 g5 s12 t1 t2 t3 f6 x4b x5b h; omega
  · rw [f6]; clear e4 e5 r0 r1 r2 r3 r4 r5 r6 r7 f4 f5 g4 g5 s12 t1 t2 t3 f6 x4b x5b h; omega
theorem w_end (n : Nat) {x4 x5 : Nat} (e4 : x4 = wB 8 n + wB 8 n / 256) (e5 : x5 = x4 + x4 / 65536) : x4 < 2 ^ 64 ∧ x5 < 2 ^ 64 ∧ x5 + x5 / 4294967296 < 2 ^ 64 ∧ (x5 + x5 / 4294967296) % 128 = pc 64 n := by
  obtain ⟨a0, a1, a2, a3, a4, a5, a6, a7, h, e1, e2⟩ := w8 n
  rw [Nat.mul_zero, Nat.add_zero] at e1
  rw [e2]
  exact w_sum h rfl rfl rfl rfl rfl rfl rfl e1 e4 e5
/-! 64 bits -/
def u64 (x : Int64) : Nat := x.toBitVec.toNat
theorem u64_lt (x : Int64) : u64 x < 256 ^ 8 := x.toBitVec.isLt
theorem u64_and (a b : Int64) : u64 (a &&& b) = u64 a &&& u64 b := by
  unfold u64
  rw [Int64.toBitVec_and, BitVec.toNat_and]
theorem u64_sub {a b : Int64} (h : u64 b ≤ u64 a) : u64 (a - b) = u64 a - u64 b := by
  unfold u64 at *
  show (a.toBitVec - b.toBitVec).toNat = _
  rw [BitVec.toNat_sub_of_le h]
theorem u64_add {a b : Int64} (h : u64 a + u64 b < 2 ^ 64) : u64 (a + b) = u64 a + u64 b := by
  unfold u64 at *
  show (a.toBitVec + b.toBitVec).toNat = _
  rw [BitVec.toNat_add, Nat.mod_eq_of_lt h]
theorem u64_sh (x : Int64) (s : UInt64) {k : Nat} (hs : s.toNat % 64 = k) : u64 ((Int64.toUInt64 x >>> s).toInt64) = u64 x / 2 ^ k := by
  show (Int64.toUInt64 x >>> s).toNat = _
  rw [UInt64.toNat_shiftRight, hs, Nat.shiftRight_eq_div_pow]
  rfl
theorem bc_end (z : Int64) : (Int64.toInt32 z) &&& 127 = nI (u64 z % 128) := by
  apply Int32.toBitVec_inj.1
  apply BitVec.eq_of_toNat_eq
  have e1 : ((Int64.toInt32 z) &&& 127).toBitVec.toNat = (u64 z % 2 ^ 32) &&& 127 := by
    rw [Int32.toBitVec_and, BitVec.toNat_and, Int64.toBitVec_toInt32, BitVec.signExtend_eq_setWidth_of_le _ (by decide), BitVec.toNat_setWidth]
    rfl
  have e2 : (nI (u64 z % 128)).toBitVec.toNat = u64 z % 128 % 2 ^ 32 := rfl
  have e3 : (u64 z % 2 ^ 32) &&& 127 = u64 z % 2 ^ 32 % 128 := Nat.and_two_pow_sub_one_eq_mod _ 7
  rw [e1, e2, e3]
  omega
theorem bitc (x : Int64) (M : gM) : J13_bitCount_95d88 x M = some (nI (pc 64 (u64 x))) := by
  have m55 : u64 6148914691236517205 = mkm 85 8 := by decide +kernel
  have m33 : u64 3689348814741910323 = mkm 51 8 := by decide +kernel
  have m0f : u64 1085102592571150095 = mkm 15 8 := by decide +kernel
  have v33 : mkm 51 8 = 3689348814741910323 := by decide +kernel
  have q := sABC 8 (u64 x) (u64_lt x)
  unfold J13_bitCount_95d88
  simp only [gLet_e]
  have h1 : u64 (x - (((Int64.toUInt64 x >>> ((Int32.toInt64 1).toUInt64 &&& Int64.toUInt64 63)).toInt64) &&& 6148914691236517205)) = sA 8 (u64 x) := by
    have e : u64 (((Int64.toUInt64 x >>> ((Int32.toInt64 1).toUInt64 &&& Int64.toUInt64 63)).toInt64) &&& 6148914691236517205) = (u64 x / 2) &&& mkm 85 8 := by rw [u64_and, u64_sh x _ (k := 1) (by decide), m55]
    have hle : (u64 x / 2) &&& mkm 85 8 ≤ u64 x / 2 := Nat.and_le_left
    rw [u64_sub (by rw [e]; omega), e]
    rfl
  generalize x - (((Int64.toUInt64 x >>> ((Int32.toInt64 1).toUInt64 &&& Int64.toUInt64 63)).toInt64) &&& 6148914691236517205) = y1 at *
  have b33 : ∀ n : Nat, n &&& mkm 51 8 ≤ 3689348814741910323 := fun n => by rw [← v33]; exact Nat.and_le_right
  have h2 : u64 ((y1 &&& 3689348814741910323) + (((Int64.toUInt64 y1 >>> ((Int32.toInt64 2).toUInt64 &&& Int64.toUInt64 63)).toInt64) &&& 3689348814741910323)) = sB 8 (u64 y1) := by
    have e1 : u64 (y1 &&& 3689348814741910323) = u64 y1 &&& mkm 51 8 := by rw [u64_and, m33]
    have e2 : u64 (((Int64.toUInt64 y1 >>> ((Int32.toInt64 2).toUInt64 &&& Int64.toUInt64 63)).toInt64) &&& 3689348814741910323) = (u64 y1 / 4) &&& mkm 51 8 := by rw [u64_and, u64_sh y1 _ (k := 2) (by decide), m33]
    have c1 := b33 (u64 y1)
    have c2 := b33 (u64 y1 / 4)
    rw [u64_add (by rw [e1, e2]; omega), e1, e2]
    rfl
  have l2 : sB 8 (u64 y1) ≤ 7378697629483820646 := by
    have c1 := b33 (u64 y1)
    have c2 := b33 (u64 y1 / 4)
    unfold sB
    omega
  generalize (y1 &&& 3689348814741910323) + (((Int64.toUInt64 y1 >>> ((Int32.toInt64 2).toUInt64 &&& Int64.toUInt64 63)).toInt64) &&& 3689348814741910323) = y2 at *
  have h3 : u64 ((y2 + ((Int64.toUInt64 y2 >>> ((Int32.toInt64 4).toUInt64 &&& Int64.toUInt64 63)).toInt64)) &&& 1085102592571150095) = sC 8 (u64 y2) := by
    have e : u64 ((Int64.toUInt64 y2 >>> ((Int32.toInt64 4).toUInt64 &&& Int64.toUInt64 63)).toInt64) = u64 y2 / 16 := u64_sh y2 _ (k := 4) (by decide)
    rw [u64_and, u64_add (by rw [e]; omega), e, m0f]
    rfl
  generalize (y2 + ((Int64.toUInt64 y2 >>> ((Int32.toInt64 4).toUInt64 &&& Int64.toUInt64 63)).toInt64)) &&& 1085102592571150095 = y3 at *
  have h3' : u64 y3 = wB 8 (u64 x) := by rw [h3, h2, h1, q.1]
  have w := w_end (u64 x) (x4 := u64 y3 + u64 y3 / 256) (x5 := u64 y3 + u64 y3 / 256 + (u64 y3 + u64 y3 / 256) / 65536) (by rw [h3']) rfl
  have h4 : u64 (y3 + ((Int64.toUInt64 y3 >>> ((Int32.toInt64 8).toUInt64 &&& Int64.toUInt64 63)).toInt64)) = u64 y3 + u64 y3 / 256 := by
    have e : u64 ((Int64.toUInt64 y3 >>> ((Int32.toInt64 8).toUInt64 &&& Int64.toUInt64 63)).toInt64) = u64 y3 / 256 := u64_sh y3 _ (k := 8) (by decide)
    rw [u64_add (by rw [e]; exact w.1), e]
  rw [← h4] at w
  generalize y3 + ((Int64.toUInt64 y3 >>> ((Int32.toInt64 8).toUInt64 &&& Int64.toUInt64 63)).toInt64) = y4 at *
  have h5 : u64 (y4 + ((Int64.toUInt64 y4 >>> ((Int32.toInt64 16).toUInt64 &&& Int64.toUInt64 63)).toInt64)) = u64 y4 + u64 y4 / 65536 := by
    have e : u64 ((Int64.toUInt64 y4 >>> ((Int32.toInt64 16).toUInt64 &&& Int64.toUInt64 63)).toInt64) = u64 y4 / 65536 := u64_sh y4 _ (k := 16) (by decide)
    rw [u64_add (by rw [e]; exact w.2.1), e]
  rw [← h5] at w
  generalize y4 + ((Int64.toUInt64 y4 >>> ((Int32.toInt64 16).toUInt64 &&& Int64.toUInt64 63)).toInt64) = y5 at *
  have h6 : u64 (y5 + ((Int64.toUInt64 y5 >>> ((Int32.toInt64 32).toUInt64 &&& Int64.toUInt64 63)).toInt64)) = u64 y5 + u64 y5 / 4294967296 := by
    have e : u64 ((Int64.toUInt64 y5 >>> ((Int32.toInt64 32).toUInt64 &&& Int64.toUInt64 63)).toInt64) = u64 y5 / 4294967296 := u64_sh y5 _ (k := 32) (by decide)
    rw [u64_add (by rw [e]; exact w.2.2.1), e]
  rw [bc_end, h6, w.2.2.2]
