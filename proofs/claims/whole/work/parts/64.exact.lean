/-! exact sums -/
theorem sub32 {a b : Int32} (h1 : -2147483648 ≤ a.toInt - b.toInt) (h2 : a.toInt - b.toInt ≤ 2147483647) : (a - b).toInt = a.toInt - b.toInt := by
  rw [Int32.toInt_sub]
  apply Int.bmod_eq_of_le <;> omega
theorem add32 {a b : Int32} (h1 : -2147483648 ≤ a.toInt + b.toInt) (h2 : a.toInt + b.toInt ≤ 2147483647) : (a + b).toInt = a.toInt + b.toInt := by
  rw [Int32.toInt_add]
  apply Int.bmod_eq_of_le <;> omega
theorem mul32 {a b : Int32} (h1 : -2147483648 ≤ a.toInt * b.toInt) (h2 : a.toInt * b.toInt ≤ 2147483647) : (a * b).toInt = a.toInt * b.toInt := by
  rw [Int32.toInt_mul]
  apply Int.bmod_eq_of_le <;> omega
theorem mul_bd {a b A B : Int} (h1 : -A ≤ a) (h2 : a ≤ A) (h3 : -B ≤ b) (h4 : b ≤ B) : -(A * B) ≤ a * b ∧ a * b ≤ A * B := by
  have hA : 0 ≤ A := by omega
  have hB : 0 ≤ B := by omega
  have h5 : a.natAbs ≤ A.natAbs := by omega
  have h6 : b.natAbs ≤ B.natAbs := by omega
  have h7 : a.natAbs * b.natAbs ≤ A.natAbs * B.natAbs := Nat.mul_le_mul h5 h6
  rw [← Int.natAbs_mul, ← Int.natAbs_mul] at h7
  have h8 : 0 ≤ A * B := Int.mul_nonneg hA hB
  omega
def cb (τ : Nat → Int32) : Prop := ∀ k, k < 6 → -200 ≤ (τ k).toInt ∧ (τ k).toInt ≤ 200
def pb (x : Int32) : Prop := -200 ≤ x.toInt ∧ x.toInt ≤ 200
def eI (ax ay bx by' px py : Int) : Int := (bx - ax) * (py - ay) - (by' - ay) * (px - ax)
theorem eS_ex {ax ay bx by' px py : Int32} (h1 : pb ax) (h2 : pb ay) (h3 : pb bx) (h4 : pb by') (h5 : pb px) (h6 : pb py) : ((bx - ax) * (py - ay) - (by' - ay) * (px - ax)).toInt = eI ax.toInt ay.toInt bx.toInt by'.toInt px.toInt py.toInt ∧ -320000 ≤ eI ax.toInt ay.toInt bx.toInt by'.toInt px.toInt py.toInt ∧ eI ax.toInt ay.toInt bx.toInt by'.toInt px.toInt py.toInt ≤ 320000 := by
  unfold pb at *
  unfold eI
  have e1 : (bx - ax).toInt = bx.toInt - ax.toInt := sub32 (by omega) (by omega)
  have e2 : (py - ay).toInt = py.toInt - ay.toInt := sub32 (by omega) (by omega)
  have e3 : (by' - ay).toInt = by'.toInt - ay.toInt := sub32 (by omega) (by omega)
  have e4 : (px - ax).toInt = px.toInt - ax.toInt := sub32 (by omega) (by omega)
  have b1 := mul_bd (a := bx.toInt - ax.toInt) (b := py.toInt - ay.toInt) (A := 400) (B := 400) (by omega) (by omega) (by omega) (by omega)
  have b2 := mul_bd (a := by'.toInt - ay.toInt) (b := px.toInt - ax.toInt) (A := 400) (B := 400) (by omega) (by omega) (by omega) (by omega)
  have e5 : ((bx - ax) * (py - ay)).toInt = (bx.toInt - ax.toInt) * (py.toInt - ay.toInt) := by
    rw [mul32 (by rw [e1, e2]; omega) (by rw [e1, e2]; omega), e1, e2]
  have e6 : ((by' - ay) * (px - ax)).toInt = (by'.toInt - ay.toInt) * (px.toInt - ax.toInt) := by
    rw [mul32 (by rw [e3, e4]; omega) (by rw [e3, e4]; omega), e3, e4]
  refine ⟨?_, by omega, by omega⟩
  rw [sub32 (by rw [e5, e6]; omega) (by rw [e5, e6]; omega), e5, e6]
theorem trP_lt {τ : Nat → Int32} {k : Nat} (h : k < 3) : trP τ k < 3 := by
  unfold trP
  split
  · split
    · omega
    · split <;> omega
  · exact h
theorem nx_lt (e : Nat) : nx e < 3 := Nat.mod_lt _ (by decide)
theorem cb.x {τ : Nat → Int32} (h : cb τ) {k : Nat} (hk : k < 3) : pb (tx τ k) := h _ (by have := trP_lt (τ := τ) hk; omega)
theorem cb.y {τ : Nat → Int32} (h : cb τ) {k : Nat} (hk : k < 3) : pb (ty τ k) := h _ (by have := trP_lt (τ := τ) hk; omega)
def sI (τ : Nat → Int32) (e : Nat) (px py : Int32) : Int := eI (tx τ e).toInt (ty τ e).toInt (tx τ (nx e)).toInt (ty τ (nx e)).toInt px.toInt py.toInt
theorem trS_ex {τ : Nat → Int32} (h : cb τ) {e : Nat} (he : e < 3) {px py : Int32} (h5 : pb px) (h6 : pb py) : (trS τ e px py).toInt = sI τ e px py ∧ -320000 ≤ sI τ e px py ∧ sI τ e px py ≤ 320000 := eS_ex (h.x he) (h.y he) (h.x (nx_lt e)) (h.y (nx_lt e)) h5 h6
def zb (ζ : Nat → Int32) : Prop := ∀ k, k < 3 → 0 ≤ (ζ k).toInt ∧ (ζ k).toInt ≤ 999
def vI (τ ζ : Nat → Int32) (px py : Int32) : Int := (ζ (trP τ 0)).toInt * sI τ 1 px py + (ζ (trP τ 1)).toInt * sI τ 2 px py + (ζ (trP τ 2)).toInt * sI τ 0 px py
theorem trV_ex {τ ζ : Nat → Int32} (h : cb τ) (hz : zb ζ) {px py : Int32} (h5 : pb px) (h6 : pb py) : (trV τ ζ px py).toInt = vI τ ζ px py ∧ -960000000 ≤ vI τ ζ px py ∧ vI τ ζ px py ≤ 960000000 ∧ (((ζ (trP τ 0)).toInt64 * (trS τ 1 px py).toInt64 + (ζ (trP τ 1)).toInt64 * (trS τ 2 px py).toInt64) + (ζ (trP τ 2)).toInt64 * (trS τ 0 px py).toInt64).toInt = vI τ ζ px py := by
  have s0 := trS_ex h (e := 0) (by decide) h5 h6
  have s1 := trS_ex h (e := 1) (by decide) h5 h6
  have s2 := trS_ex h (e := 2) (by decide) h5 h6
  have z0 := hz _ (trP_lt (τ := τ) (k := 0) (by decide))
  have z1 := hz _ (trP_lt (τ := τ) (k := 1) (by decide))
  have z2 := hz _ (trP_lt (τ := τ) (k := 2) (by decide))
  unfold trV vI
  generalize ζ (trP τ 0) = a0 at *
  generalize ζ (trP τ 1) = a1 at *
  generalize ζ (trP τ 2) = a2 at *
  generalize trS τ 0 px py = t0 at *
  generalize trS τ 1 px py = t1 at *
  generalize trS τ 2 px py = t2 at *
  generalize sI τ 0 px py = i0 at *
  generalize sI τ 1 px py = i1 at *
  generalize sI τ 2 px py = i2 at *
  have b1 := mul_bd (a := a0.toInt) (b := i1) (A := 999) (B := 320000) (by omega) (by omega) (by omega) (by omega)
  have b2 := mul_bd (a := a1.toInt) (b := i2) (A := 999) (B := 320000) (by omega) (by omega) (by omega) (by omega)
  have b3 := mul_bd (a := a2.toInt) (b := i0) (A := 999) (B := 320000) (by omega) (by omega) (by omega) (by omega)
  have e1 : (a0 * t1).toInt = a0.toInt * i1 := by rw [mul32 (by rw [s1.1]; omega) (by rw [s1.1]; omega), s1.1]
  have e2 : (a1 * t2).toInt = a1.toInt * i2 := by rw [mul32 (by rw [s2.1]; omega) (by rw [s2.1]; omega), s2.1]
  have e3 : (a2 * t0).toInt = a2.toInt * i0 := by rw [mul32 (by rw [s0.1]; omega) (by rw [s0.1]; omega), s0.1]
  have e4 : (a0 * t1 + a1 * t2).toInt = a0.toInt * i1 + a1.toInt * i2 := by rw [add32 (by rw [e1, e2]; omega) (by rw [e1, e2]; omega), e1, e2]
  have m64 : ∀ (x y : Int32) (i : Int), y.toInt = i → -1000000000 ≤ x.toInt * i → x.toInt * i ≤ 1000000000 → (x.toInt64 * y.toInt64).toInt = x.toInt * i := by
    intro x y i hy h1 h2
    rw [Int64.toInt_mul, Int32.toInt_toInt64, Int32.toInt_toInt64, hy]
    apply Int.bmod_eq_of_le <;> omega
  have f1 := m64 a0 t1 i1 s1.1 (by omega) (by omega)
  have f2 := m64 a1 t2 i2 s2.1 (by omega) (by omega)
  have f3 := m64 a2 t0 i0 s0.1 (by omega) (by omega)
  refine ⟨?_, by omega, by omega, ?_⟩
  · rw [add32 (by rw [e4, e3]; omega) (by rw [e4, e3]; omega), e4, e3]
  · rw [Int64.toInt_add, Int64.toInt_add, f1, f2, f3]
    rw [Int.bmod_eq_of_le (n := a0.toInt * i1 + a1.toInt * i2) (by omega) (by omega)]
    apply Int.bmod_eq_of_le <;> omega
theorem i64_rng (a : Int64) : -9223372036854775808 ≤ a.toInt ∧ a.toInt ≤ 9223372036854775807 := ⟨Int64.le_toInt a, by have := Int64.toInt_lt a; omega⟩
theorem x_down (a b : Int64) (hb : 0 < b.toInt) (M : gM) : X11_down a b M = some (Int32.ofInt (a.toInt / b.toInt)) := by
  have ra := i64_rng a
  have rb := i64_rng b
  have hne : ¬ b = 0 := fun h => by
    rw [h] at hb
    exact absurd hb (by decide)
  have h1 : (a.toInt.tdiv b.toInt).natAbs ≤ a.toInt.natAbs := Int.natAbs_tdiv_le_natAbs _ _
  have hup : a.toInt.tdiv b.toInt ≤ 9223372036854775807 := by
    rcases Int.le_total 0 a.toInt with h | h
    · omega
    · have := Int.tdiv_nonneg (a := -a.toInt) (b := b.toInt) (by omega) (by omega)
      rw [Int.neg_tdiv] at this
      omega
  have hq : (a / b).toInt = a.toInt.tdiv b.toInt := by
    rw [Int64.toInt_div]
    apply Int.bmod_eq_of_le <;> omega
  have hmul : (a.toInt.tdiv b.toInt) * b.toInt + a.toInt.tmod b.toInt = a.toInt := by
    rw [Int.mul_comm]
    exact Int.mul_tdiv_add_tmod _ _
  have hte := Int.tdiv_eq_ediv (a := a.toInt) (b := b.toInt)
  have l1 := Int.lt_tmod_of_pos a.toInt hb
  have l2 := Int.tmod_lt_of_pos a.toInt hb
  have sg1 : 0 ≤ a.toInt → 0 ≤ a.toInt.tmod b.toInt := Int.tmod_nonneg _
  have sg2 : a.toInt ≤ 0 → a.toInt.tmod b.toInt ≤ 0 := fun h => by
    have := Int.tmod_nonneg (a := -a.toInt) b.toInt (by omega)
    rw [Int.neg_tmod] at this
    omega
  have hdv : a.toInt.tmod b.toInt = 0 → b.toInt ∣ a.toInt := Int.dvd_of_tmod_eq_zero
  have hdv2 : b.toInt ∣ a.toInt → a.toInt.tmod b.toInt = 0 := Int.tmod_eq_zero_of_dvd
  have hp1 : (a / b * b).toInt = a.toInt.tdiv b.toInt * b.toInt := by
    rw [Int64.toInt_mul, hq]
    generalize a.toInt.tdiv b.toInt * b.toInt = P at hmul ⊢
    apply Int.bmod_eq_of_le <;> omega
  have hrem : (gRemL a b).toInt = a.toInt.tmod b.toInt := by
    unfold gRemL
    rw [Int64.toInt_sub, hp1]
    generalize a.toInt.tdiv b.toInt * b.toInt = P at hmul ⊢
    rw [show a.toInt - P = a.toInt.tmod b.toInt by omega]
    apply Int.bmod_eq_of_le <;> omega
  have hs : b.toInt.sign = 1 := Int.sign_eq_one_of_pos hb
  have h0 : (0 : Int64).toInt = 0 := rfl
  unfold X11_down
  rw [gG_t (decide_eq_true hne), gLet_e, gG_t (decide_eq_true hne)]
  split
  · next h =>
    have h2 := Int64.le_iff_toInt_le.mp ((lg_cmp_ge _ _).mp h)
    rw [hrem, h0] at h2
    congr 1
    apply Int32.toInt_inj.mp
    rw [Int64.toInt_toInt32, Int32.toInt_ofInt, hq, hte]
    rw [if_pos]
    · rw [Int.add_zero]
    · by_cases z : 0 ≤ a.toInt
      · exact Or.inl z
      · exact Or.inr (hdv (by omega))
  · next h =>
    have h2 : ¬ 0 ≤ (gRemL a b).toInt := fun z => h ((lg_cmp_ge _ _).mpr (Int64.le_iff_toInt_le.mpr (by rw [h0]; exact z)))
    rw [hrem] at h2
    have h3 : ¬ (0 ≤ a.toInt ∨ b.toInt ∣ a.toInt) := by
      rintro (z | z)
      · exact h2 (sg1 z)
      · exact h2 (by rw [hdv2 z]; exact Int.le_refl 0)
    rw [if_neg h3, hs] at hte
    congr 1
    apply Int32.toInt_inj.mp
    rw [Int64.toInt_toInt32, Int32.toInt_ofInt, Int64.toInt_sub, hq, hte]
    have h1' : (1 : Int64).toInt = 1 := rfl
    rw [h1', Int.add_sub_cancel]
    have hlo : a.toInt ≤ a.toInt / b.toInt := by
      have := Int.le_ediv_of_mul_le hb (a := a.toInt) (b := a.toInt) (by
        have hneg : a.toInt ≤ 0 := by
          rcases Int.le_total 0 a.toInt with z | z
          · exact absurd (Or.inl z) h3
          · exact z
        have := Int.mul_le_mul_of_nonpos_left (a := a.toInt) (b := b.toInt) (c := 1) hneg (by omega)
        omega)
      exact this
    rw [Int.bmod_eq_of_le (m := 2 ^ 64) (n := a.toInt / b.toInt) (by omega) (by omega)]
