/-! a triangle's geometry in plain numbers -/
def trA (τ : Nat → Int32) : Int32 := ((τ 2 - τ 0) * (τ 5 - τ 1)) - ((τ 3 - τ 1) * (τ 4 - τ 0))
def trP (τ : Nat → Int32) (k : Nat) : Nat := if trA τ < 0 then (if k = 1 then 2 else if k = 2 then 1 else k) else k
def tx (τ : Nat → Int32) (k : Nat) : Int32 := τ (2 * trP τ k)
def ty (τ : Nat → Int32) (k : Nat) : Int32 := τ (2 * trP τ k + 1)
def nx (e : Nat) : Nat := (e + 1) % 3
def trS (τ : Nat → Int32) (e : Nat) (px py : Int32) : Int32 := ((tx τ (nx e) - tx τ e) * (py - ty τ e)) - ((ty τ (nx e) - ty τ e) * (px - tx τ e))
def trH (τ : Nat → Int32) (e : Nat) : Bool := if ty τ e = ty τ (nx e) then decide (tx τ e < tx τ (nx e)) else decide (ty τ (nx e) < ty τ e)
def trE (τ : Nat → Int32) (e : Nat) (px py : Int32) : Bool := decide (0 < trS τ e px py) || (decide (trS τ e px py = 0) && trH τ e)
def trC (τ : Nat → Int32) (px py : Int32) : Bool := decide (¬ trA τ = 0) && (trE τ 0 px py && (trE τ 1 px py && trE τ 2 px py))
def trZ (τ : Nat → Int32) : Int32 := if 0 ≤ trA τ then trA τ else -trA τ
def trV (τ ζ : Nat → Int32) (px py : Int32) : Int32 := ζ (trP τ 0) * trS τ 1 px py + ζ (trP τ 1) * trS τ 2 px py + ζ (trP τ 2) * trS τ 0 px py
def fdv (a b : Int32) : Int32 := Int32.ofInt (a.toInt / b.toInt)
def trD (τ ζ : Nat → Int32) (px py : Int32) : Int32 := if trZ τ = 0 then 0 else fdv (trV τ ζ px py) (trZ τ)
def clp (v : Int32) : Int32 := if 0 ≤ v then (if v ≤ 255 then v else 255) else 0
theorem i32_ring (ax ay bx by' px py : Int32) : (ay - by') * px + (bx - ax) * py + ((by' - ay) * ax - (bx - ax) * ay) = (bx - ax) * (py - ay) - (by' - ay) * (px - ax) := by grind
theorem slope_ring (z0 z1 z2 a1 a2 a0 d1 d2 d0 b1 b2 b0 x y : Int32) : (z0 * a1 + z1 * a2 + z2 * a0) * x + (z0 * d1 + z1 * d2 + z2 * d0) * y + (z0 * b1 + z1 * b2 + z2 * b0) = z0 * (a1 * x + d1 * y + b1) + z1 * (a2 * x + d2 * y + b2) + z2 * (a0 * x + d0 * y + b0) := by grind
/-! floor division -/
theorem xor_neg (a b : Int32) (hb : 0 < b.toInt) : 0 ≤ (a ^^^ b) ↔ 0 ≤ a.toInt := by
  have h1 : (a ^^^ b).toBitVec.msb = (a.toBitVec.msb ^^ b.toBitVec.msb) := by rw [Int32.toBitVec_xor, BitVec.msb_xor]
  have h2 : b.toBitVec.msb = false := by
    rw [BitVec.msb_eq_toInt]
    exact decide_eq_false (by show ¬ b.toInt < 0; omega)
  rw [h2, Bool.xor_false, BitVec.msb_eq_toInt, BitVec.msb_eq_toInt] at h1
  have h3 := decide_eq_decide.mp h1
  rw [Int32.le_iff_toInt_le]
  show (0 : Int32).toInt ≤ (a ^^^ b).toBitVec.toInt ↔ 0 ≤ a.toBitVec.toInt
  have h0 : (0 : Int32).toInt = 0 := rfl
  omega
theorem i32_rng (a : Int32) : -2147483648 ≤ a.toInt ∧ a.toInt ≤ 2147483647 := ⟨Int32.le_toInt a, by have := Int32.toInt_lt a; omega⟩
theorem fl_div (a b : Int32) (hb : 0 < b.toInt) (M : gM) : J9_floorDiv_7cf53 a b M = some (fdv a b) := by
  have ra := i32_rng a
  have rb := i32_rng b
  have hq : (a / b).toInt = a.toInt.tdiv b.toInt := by
    rw [Int32.toInt_div]
    have h1 : (a.toInt.tdiv b.toInt).natAbs ≤ a.toInt.natAbs := Int.natAbs_tdiv_le_natAbs _ _
    by_cases h2 : a.toInt = -2147483648 ∧ b.toInt = -1
    · omega
    · apply Int.bmod_eq_of_le
      · omega
      · have : a.toInt.tdiv b.toInt ≤ 2147483647 := by
          rcases Int.le_total 0 a.toInt with h | h
          · omega
          · have h4 : a.toInt.tdiv b.toInt ≤ 0 := by
              have := Int.tdiv_nonneg (a := -a.toInt) (b := b.toInt) (by omega) (by omega)
              rw [Int.neg_tdiv] at this
              omega
            omega
        omega
  have hne : ¬ b = 0 := fun h => by
    rw [h] at hb
    exact absurd hb (by decide)
  have hmul : (a.toInt.tdiv b.toInt) * b.toInt + a.toInt.tmod b.toInt = a.toInt := by
    rw [Int.mul_comm]
    exact Int.mul_tdiv_add_tmod _ _
  have hte := Int.tdiv_eq_ediv (a := a.toInt) (b := b.toInt)
  unfold J9_floorDiv_7cf53
  rw [gG_t (decide_eq_true hne), gLet_e]
  have eq32 : ∀ x y : Int32, x.toInt = y.toInt → x = y := fun x y h => Int32.toInt_inj.mp h
  have ofI : ∀ z : Int, -2147483648 ≤ z → z ≤ 2147483647 → (Int32.ofInt z).toInt = z := fun z h1 h2 => Int32.toInt_ofInt_of_le (by omega) (by omega)
  have hfb : -2147483648 ≤ a.toInt / b.toInt ∧ a.toInt / b.toInt ≤ 2147483647 := by
    constructor
    · have := Int.le_ediv_of_mul_le hb (a := -2147483648) (b := a.toInt) (by
        have : -2147483648 * b.toInt ≤ -2147483648 * 1 := by
          apply Int.mul_le_mul_of_nonpos_left <;> omega
        omega)
      exact this
    · have := Int.ediv_le_self b.toInt (a := a.toInt)
      rcases Int.le_total 0 a.toInt with h | h
      · have := this h
        omega
      · have := Int.ediv_neg_of_neg_of_pos (a := a.toInt) (b := b.toInt)
        by_cases h0 : a.toInt = 0
        · rw [h0, Int.zero_ediv]
          omega
        · have := this (by omega) hb
          omega
  split
  · next h =>
    have h0 := (xor_neg a b hb).mp h
    congr 1
    apply eq32
    unfold fdv
    rw [hq, ofI _ hfb.1 hfb.2, hte, if_pos (Or.inl h0), Int.add_zero]
  · next h =>
    have h0 : ¬ 0 ≤ a.toInt := fun z => h ((xor_neg a b hb).mpr z)
    have hd : (a / b * b).toInt = a.toInt.tdiv b.toInt * b.toInt := by
      rw [Int32.toInt_mul, hq]
      have h1 := Int.lt_tmod_of_pos a.toInt hb
      have h2 : a.toInt.tmod b.toInt ≤ 0 := by
        have := Int.tmod_nonneg (a := -a.toInt) b.toInt (by omega)
        rw [Int.neg_tmod] at this
        omega
      apply Int.bmod_eq_of_le <;> omega
    by_cases hdv : b.toInt ∣ a.toInt
    · rw [if_pos (eq32 _ _ (by rw [hd]; exact Int.tdiv_mul_cancel hdv))]
      congr 1
      apply eq32
      unfold fdv
      rw [hq, ofI _ hfb.1 hfb.2, hte, if_pos (Or.inr hdv), Int.add_zero]
    · rw [if_neg (fun z => hdv ⟨a.toInt.tdiv b.toInt, by have := congrArg Int32.toInt z; rw [hd, Int.mul_comm] at this; exact this.symm⟩)]
      congr 1
      apply eq32
      unfold fdv
      have hs : b.toInt.sign = 1 := Int.sign_eq_one_of_pos hb
      rw [if_neg (by rintro (z | z); exact h0 z; exact hdv z), hs] at hte
      rw [ofI _ hfb.1 hfb.2, Int32.toInt_sub, hq, hte]
      have h1 : (1 : Int32).toInt = 1 := rfl
      rw [h1, Int.add_sub_cancel]
      apply Int.bmod_eq_of_le <;> omega
