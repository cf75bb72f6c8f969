/-! depth, shade -/
theorem trA_ex {τ : Nat → Int32} (h : cb τ) : -320000 ≤ (trA τ).toInt ∧ (trA τ).toInt ≤ 320000 := by
  have := eS_ex (ax := τ 0) (ay := τ 1) (bx := τ 2) (by' := τ 3) (px := τ 4) (py := τ 5) (h 0 (by decide)) (h 1 (by decide)) (h 2 (by decide)) (h 3 (by decide)) (h 4 (by decide)) (h 5 (by decide))
  unfold trA
  rw [this.1]
  exact this.2
theorem neg32 {a : Int32} (h1 : -1000000000 ≤ a.toInt) (h2 : a.toInt ≤ 1000000000) : (-a).toInt = -a.toInt := by
  rw [Int32.toInt_neg]
  apply Int.bmod_eq_of_le <;> omega
theorem i32_nz (a : Int32) : a = 0 ↔ a.toInt = 0 := by
  rw [← Int32.toInt_inj]
  rfl
theorem trZ_ex {τ : Nat → Int32} (h : cb τ) (hz : ¬ trA τ = 0) : 0 < (trZ τ).toInt ∧ (trZ τ).toInt ≤ 320000 ∧ ¬ trZ τ = 0 := by
  have h1 := trA_ex h
  have h2 : ¬ (trA τ).toInt = 0 := fun z => hz ((i32_nz _).mpr z)
  have key : 0 < (trZ τ).toInt ∧ (trZ τ).toInt ≤ 320000 := by
    unfold trZ
    split
    · next h3 =>
      have h4 := Int32.le_iff_toInt_le.mp h3
      have h0 : (0 : Int32).toInt = 0 := rfl
      omega
    · next h3 =>
      have h4 : ¬ 0 ≤ (trA τ).toInt := fun z => h3 (Int32.le_iff_toInt_le.mpr z)
      rw [neg32 (by omega) (by omega)]
      omega
  exact ⟨key.1, key.2, fun z => by rw [(i32_nz _).mp z] at key; omega⟩
theorem trZ_0 {τ : Nat → Int32} (h : trA τ = 0) : trZ τ = 0 := by
  unfold trZ
  rw [h]
  rfl
def SHs (i : Nat) (τ ζ : Nat → Int32) (M : gM) : Prop := M.1 25 i 0 = (ζ (trP τ 0) * M.1 21 i 1 + ζ (trP τ 1) * M.1 21 i 2) + ζ (trP τ 2) * M.1 21 i 0 ∧ M.1 25 i 1 = (ζ (trP τ 0) * M.1 22 i 1 + ζ (trP τ 1) * M.1 22 i 2) + ζ (trP τ 2) * M.1 22 i 0 ∧ M.1 25 i 2 = (ζ (trP τ 0) * M.1 23 i 1 + ζ (trP τ 1) * M.1 23 i 2) + ζ (trP τ 2) * M.1 23 i 0
theorem x6_depth {i : Nat} {τ ζ : Nat → Int32} {M : gM} (hc : cb τ) (h : SHe i τ M) (hs : SHs i τ ζ M) (ha : M.1 19 i 2 = trA τ) (px py : Int32) : X6_depthAt i px py M = some (trD τ ζ px py) := by
  have e0 : ∀ e, e < 3 → M.1 21 i e * px + M.1 22 i e * py + M.1 23 i e = trS τ e px py := by
    intro e he
    obtain ⟨h1, h2, h3, -⟩ := h e he
    rw [h1, h2, h3, i32_ring]
    rfl
  have key : ∀ z, z = trZ τ → X6_depthAt_J19 i px py z M = some (trD τ ζ px py) := by
    intro z hz
    unfold X6_depthAt_J19 trD
    rw [hz, hs.1, hs.2.1, hs.2.2, slope_ring, e0 0 (by decide), e0 1 (by decide), e0 2 (by decide)]
    by_cases hA : trA τ = 0
    · rw [if_pos (trZ_0 hA), if_pos (trZ_0 hA)]
    · have hp := trZ_ex hc hA
      rw [if_neg hp.2.2, if_neg hp.2.2, fl_div _ _ hp.1, bind_e]
      rfl
  unfold X6_depthAt
  rw [ha]
  split
  · next h1 => exact key _ (by unfold trZ; rw [if_pos h1])
  · next h1 => exact key _ (by unfold trZ; rw [if_neg h1])
theorem x11_depth {τ ζ : Nat → Int32} {cu : Int32} {M : gM} (hc : cb τ) (hz : zb ζ) (h : AK τ ζ cu M) (hA : ¬ trA τ = 0) {px py : Int32} (hx : pb px) (hy : pb py) : X11_depthAt px py M = some (trD τ ζ px py) := by
  have hk : ∀ k, k < 3 → M.1 52 12 k = tx τ k ∧ M.1 52 13 k = ty τ k := fun k hk => ⟨(h.1 k hk).1, (h.1 k hk).2.1⟩
  have hp := trZ_ex hc hA
  have hv := trV_ex hc hz hx hy
  have hb := trA_ex hc
  unfold X11_depthAt
  rw [nlit 1, nlit 2, ← nI_0, x11_sum (ζ := ζ) (cu := cu) hk (by decide), bind_e, x11_sum (ζ := ζ) (cu := cu) hk (by decide), bind_e, x11_sum (ζ := ζ) (cu := cu) hk (by decide), bind_e, gLet_e, (h.1 0 (by decide)).2.2, (h.1 1 (by decide)).2.2, (h.1 2 (by decide)).2.2, h.2.1]
  have key : ∀ z : Int32, z = trZ τ → (X11_down (((ζ (trP τ 0)).toInt64 * (trS τ 1 px py).toInt64 + (ζ (trP τ 1)).toInt64 * (trS τ 2 px py).toInt64) + (ζ (trP τ 2)).toInt64 * (trS τ 0 px py).toInt64) z.toInt64 M).bind (fun r => some r) = some (trD τ ζ px py) := by
    intro z hz'
    rw [x_down _ _ (by rw [Int32.toInt_toInt64, hz']; exact hp.1), bind_e, hv.2.2.2, Int32.toInt_toInt64, hz']
    unfold trD fdv
    rw [if_neg hp.2.2, hv.1]
  split
  · next h1 => exact key _ (if_pos h1).symm
  · next h1 => exact key _ (if_neg h1).symm
theorem clp_mm (v : Int32) : gmax 0 (gmin 255 v) = clp v := by
  unfold gmax gmin clp
  have h1 : (0 : Int32).toInt = 0 := rfl
  have h2 : (255 : Int32).toInt = 255 := rfl
  by_cases a : v < 255
  · have a' := Int32.lt_iff_toInt_lt.mp a
    have b : v ≤ 255 := Int32.le_iff_toInt_le.mpr (by omega)
    rw [if_pos a, if_pos b]
    by_cases c : 0 < v
    · have c' := Int32.lt_iff_toInt_lt.mp c
      rw [if_pos c, if_pos (Int32.le_iff_toInt_le.mpr (by omega))]
    · rw [if_neg c]
      by_cases d : 0 ≤ v
      · rw [if_pos d]
        apply Int32.toInt_inj.mp
        have d' := Int32.le_iff_toInt_le.mp d
        have c' : ¬ (0 : Int32).toInt < v.toInt := fun z => c (Int32.lt_iff_toInt_lt.mpr z)
        omega
      · rw [if_neg d]
  · have a' : ¬ v.toInt < (255 : Int32).toInt := fun z => a (Int32.lt_iff_toInt_lt.mpr z)
    rw [if_neg a, if_pos (by decide), if_pos (Int32.le_iff_toInt_le.mpr (by omega))]
    by_cases b : v ≤ 255
    · rw [if_pos b]
      apply Int32.toInt_inj.mp
      have b' := Int32.le_iff_toInt_le.mp b
      omega
    · rw [if_neg b]
def trB (τ ζ : Nat → Int32) (pat col : Int32) (x y : Nat) : Int32 := clp (if pat = 1 then (if (x + y) % 2 = 0 then col else 255 - col) else if pat = 2 then (if y % 2 = 0 then col else col / 2) else if pat = 3 then col - fdv (trD τ ζ (nI (8 * x + 4)) (nI (8 * y + 4))) 4 else col)
theorem nI_r2 {a : Nat} (h : a < 2 ^ 31) : (gRem (nI a) 2 = 0) ↔ a % 2 = 0 := by
  rw [nlit 2, nI_rem h (by decide), ← nI_0]
  exact nI_eq (by omega) (by decide)
theorem pb_n {k : Nat} (h : k ≤ 200) : pb (nI k) := by
  unfold pb
  rw [nI_toInt (by omega)]
  omega
theorem x11_shade {τ ζ : Nat → Int32} {cu pat col : Int32} {M : gM} {t x y : Nat} (hc : cb τ) (hz : zb ζ) (h : AK τ ζ cu M) (hA : ¬ trA τ = 0) (ht : t < 10) (hx : x < 8) (hy : y < 8) (h9 : M.1 52 4 (12 * t + 9) = col) (h11 : M.1 52 4 (12 * t + 11) = pat) (hp : pat = 0 ∨ pat = 1 ∨ pat = 2 ∨ pat = 3) : X11_shadeOf (nI t) (nI x) (nI y) M = some (trB τ ζ pat col x y) := by
  unfold X11_shadeOf
  rw [nlit 12, nI_mul, nlit 9, nI_add, nlit 11, nI_add, gG_t (gin_n (by omega) (by decide)), gLet_e, gG_t (gin_n (by omega) (by decide)), nI_clamp (by omega), nI_clamp (by omega), h9, h11]
  have cl : ∀ v : Int32, (if 0 ≤ v then (if v ≤ 255 then some v else some 255) else some 0) = some (clp v) := by
    intro v
    unfold clp
    split
    · split <;> rfl
    · rfl
  rcases hp with rfl | rfl | rfl | rfl
  · rw [if_pos rfl, cl]
    rfl
  · show _ = some (clp (if (x + y) % 2 = 0 then col else 255 - col))
    rw [if_neg (by decide), if_pos rfl, nI_add]
    by_cases h2 : (x + y) % 2 = 0
    · rw [if_pos ((nI_r2 (by omega)).mpr h2), if_pos h2, cl]
    · rw [if_neg (fun z => h2 ((nI_r2 (by omega)).mp z)), if_neg h2, gLet_e, cl]
  · show _ = some (clp (if y % 2 = 0 then col else col / 2))
    rw [if_neg (by decide), if_neg (by decide), if_pos rfl]
    by_cases h2 : y % 2 = 0
    · rw [if_pos ((nI_r2 (by omega)).mpr h2), if_pos h2, cl]
    · rw [if_neg (fun z => h2 ((nI_r2 (by omega)).mp z)), if_neg h2, gLet_e, cl]
  · show _ = some (clp (col - fdv (trD τ ζ (nI (8 * x + 4)) (nI (8 * y + 4))) 4))
    rw [if_neg (by decide), if_neg (by decide), if_neg (by decide), nlit 8, nI_mul, nI_mul, nlit 4, nI_add, nI_add, x11_depth hc hz h hA (pb_n (by omega)) (pb_n (by omega)), bind_e, x_down _ _ (by decide), bind_e, gLet_e, cl, Int32.toInt_toInt64]
    rfl
