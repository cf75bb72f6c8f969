/-! shades and touched tiles of a shape -/
theorem x6_fillS {i : Nat} {τ ζ : Nat → Int32} {M : gM} {pat col : Int32} (hc : cb τ) (h : SHe i τ M) (hs : SHs i τ ζ M) (ha : M.1 19 i 2 = trA τ) (hpt : pat = 0 ∨ pat = 1 ∨ pat = 2 ∨ pat = 3) :
    ∃ M', X6_fillShades i pat col M = some M' ∧ Only 27 i M M' ∧ ∀ x y, x < 8 → y < 8 → M'.1 27 i (8 * y + x) = trB τ ζ pat col x y := by
  obtain ⟨M', e1, h1, h2⟩ := gI1_FU (step := fun s => X6_fillShades_L2 i pat col s.1 s.2) (fun k (M' : gM) => (nI k, M')) (fun k M' => Only 27 i M M' ∧ ∀ j, j < k → M'.1 27 i j = trB τ ζ pat col (j % 8) (j / 8)) (fun M' => Only 27 i M M' ∧ ∀ j, j < 64 → M'.1 27 i j = trB τ ζ pat col (j % 8) (j / 8)) 0 64 (by decide) (by decide)
    (fun k M' hk hI => by
      obtain ⟨hI1, hI2⟩ := hI
      have g : ∀ a b c, ¬ (a = 27 ∧ b = i) → M'.1 a b c = M.1 a b c := hI1.2
      have hS := h.only hI1 (by decide)
      have hSs : SHs i τ ζ M' := by
        unfold SHs
        rw [g 25 i 0 (by omega), g 25 i 1 (by omega), g 25 i 2 (by omega), g 21 i 0 (by omega), g 21 i 1 (by omega), g 21 i 2 (by omega), g 22 i 0 (by omega), g 22 i 1 (by omega), g 22 i 2 (by omega), g 23 i 0 (by omega), g 23 i 1 (by omega), g 23 i 2 (by omega)]
        exact hs
      have hSa : M'.1 19 i 2 = trA τ := by rw [g 19 i 2 (by omega)]; exact ha
      have fin : ∀ v, clp v = trB τ ζ pat col (k % 8) (k / 8) → ∃ x', X6_fillShades_J99 i pat col (nI k) v M' = some (.inl (nI (k + 1), x')) ∧ Only 27 i M x' ∧ ∀ j, j < k + 1 → x'.1 27 i j = trB τ ζ pat col (j % 8) (j / 8) := by
        intro v hv
        refine ⟨wI M' 27 i k (clp v), ?_, hI1.w _ _, fun j hj => ?_⟩
        · unfold X6_fillShades_J99
          rw [gG_t (gin_n hk (by decide)), gLet_e, gLet_e, nI_1, nI_clamp (by omega), clp_mm]
        · rw [r1_wI]
          by_cases he : j = k
          · rw [if_pos ⟨rfl, rfl, he⟩, hv, he]
          · rw [if_neg (fun z => he z.2.2)]
            exact hI2 j (by omega)
      show ∃ x', X6_fillShades_L2 i pat col (nI k) M' = _ ∧ _
      unfold X6_fillShades_L2
      rw [nlit 64, if_neg (nI_ge hk (by decide)), nlit 8, nI_rem (by omega) (by decide), nI_div (by omega) (by decide), gLet_e, gLet_e]
      have hkm : k % 8 < 8 := Nat.mod_lt _ (by decide)
      have hkd : k / 8 < 8 := by omega
      rcases hpt with rfl | rfl | rfl | rfl
      · rw [if_neg (by decide)]
        unfold X6_fillShades_J48
        rw [if_neg (by decide)]
        unfold X6_fillShades_J68
        rw [if_neg (by decide)]
        exact fin _ rfl
      · rw [if_pos rfl, nI_add]
        by_cases h2 : (k % 8 + k / 8) % 2 = 0
        · rw [if_pos ((nI_r2 (by omega)).mpr h2)]
          unfold X6_fillShades_J48
          rw [if_neg (by decide)]
          unfold X6_fillShades_J68
          rw [if_neg (by decide)]
          refine fin _ ?_
          show _ = clp (if (k % 8 + k / 8) % 2 = 0 then col else 255 - col)
          rw [if_pos h2]
        · rw [if_neg (fun z => h2 ((nI_r2 (by omega)).mp z)), gLet_e]
          refine fin _ ?_
          show _ = clp (if (k % 8 + k / 8) % 2 = 0 then col else 255 - col)
          rw [if_neg h2]
      · rw [if_neg (by decide)]
        unfold X6_fillShades_J48
        rw [if_pos rfl]
        by_cases h2 : k / 8 % 2 = 0
        · rw [if_pos ((nI_r2 (by omega)).mpr h2)]
          unfold X6_fillShades_J68
          rw [if_neg (by decide)]
          refine fin _ ?_
          show _ = clp (if k / 8 % 2 = 0 then col else col / 2)
          rw [if_pos h2]
        · rw [if_neg (fun z => h2 ((nI_r2 (by omega)).mp z)), gLet_e]
          refine fin _ ?_
          show _ = clp (if k / 8 % 2 = 0 then col else col / 2)
          rw [if_neg h2]
      · rw [if_neg (by decide)]
        unfold X6_fillShades_J48
        rw [if_neg (by decide)]
        unfold X6_fillShades_J68
        rw [if_pos rfl, nlit 8, nI_mul, nI_mul, nlit 4, nI_add, nI_add, x6_depth hc hS hSs hSa, bind_e, fl_div _ _ (by decide), bind_e, gLet_e]
        refine fin _ ?_
        show _ = clp (col - fdv (trD τ ζ (nI (8 * (k % 8) + 4)) (nI (8 * (k / 8) + 4))) 4)
        rw [Nat.mul_comm (k % 8) 8, Nat.mul_comm (k / 8) 8]
        rfl)
    (fun M' hI => ⟨M', by
      show X6_fillShades_L2 i pat col (nI 64) M' = _
      unfold X6_fillShades_L2
      rw [nlit 64, if_pos (nI_le (Nat.le_refl _) (by decide))], hI⟩) M ⟨Only.rf _ _ _, fun j hj => absurd hj (Nat.not_lt_zero j)⟩
  refine ⟨M', ?_, h1, fun x y hx hy => ?_⟩
  · unfold X6_fillShades
    rw [← nI_0, e1]
    rfl
  · have := h2 (8 * y + x) (by omega)
    rw [show (8 * y + x) % 8 = x by omega, show (8 * y + x) / 8 = y by omega] at this
    exact this
/-! touching -/
def bsd (a b c lo hi : Int32) : Bool := (decide (a < lo) && (decide (b < lo) && decide (c < lo))) || (decide (hi < a) && (decide (hi < b) && decide (hi < c)))
theorem gmax_lt (a b lo : Int32) : gmax a b < lo ↔ a < lo ∧ b < lo := by
  unfold gmax
  split
  · next h =>
    rw [Int32.lt_iff_toInt_lt] at *
    rw [Int32.lt_iff_toInt_lt]
    omega
  · next h =>
    rw [Int32.lt_iff_toInt_lt] at *
    rw [Int32.lt_iff_toInt_lt]
    omega
theorem lt_gmin (a b hi : Int32) : hi < gmin a b ↔ hi < a ∧ hi < b := by
  unfold gmin
  split
  · next h =>
    rw [Int32.lt_iff_toInt_lt] at *
    rw [Int32.lt_iff_toInt_lt]
    omega
  · next h =>
    rw [Int32.lt_iff_toInt_lt] at *
    rw [Int32.lt_iff_toInt_lt]
    omega
theorem x6_bsd {i w : Nat} {τ : Nat → Int32} {M : gM} (h : ∀ k, k < 6 → M.1 20 i k = τ k) (hw : w < 2) (lo hi : Int32) : X6_isBeside i (nI w) lo hi M = some (if bsd (τ w) (τ (2 + w)) (τ (4 + w)) lo hi = true then 1 else 0) := by
  unfold X6_isBeside
  rw [nlit 2, nlit 4, nI_add, nI_add, gG_t (gin_n (by omega) (by decide)), gG_t (gin_n (by omega) (by decide)), gG_t (gin_n (by omega) (by decide)), gLet_e, gG_t (gin_n (by omega) (by decide)), gG_t (gin_n (by omega) (by decide)), gG_t (gin_n (by omega) (by decide)), gLet_e, nI_clamp (by omega), nI_clamp (by omega), nI_clamp (by omega), h w (by omega), h (2 + w) (by omega), h (4 + w) (by omega)]
  unfold bsd
  by_cases h1 : gmax (τ w) (gmax (τ (2 + w)) (τ (4 + w))) < lo
  · rw [if_pos h1]
    rw [gmax_lt, gmax_lt] at h1
    simp [h1]
  · rw [if_neg h1]
    rw [gmax_lt, gmax_lt] at h1
    by_cases h2 : gmin (τ w) (gmin (τ (2 + w)) (τ (4 + w))) ≤ hi
    · rw [if_pos h2]
      have h3 : ¬ hi < gmin (τ w) (gmin (τ (2 + w)) (τ (4 + w))) := Int32.not_lt.mpr h2
      rw [lt_gmin, lt_gmin] at h3
      rw [if_neg]
      simp only [Bool.or_eq_true, Bool.and_eq_true, decide_eq_true_eq]
      rintro (z | z)
      · exact h1 z
      · exact h3 z
    · rw [if_neg h2]
      have h3 : hi < gmin (τ w) (gmin (τ (2 + w)) (τ (4 + w))) := Int32.not_le.mp h2
      rw [lt_gmin, lt_gmin] at h3
      simp [h3]
def o4 (τ : Nat → Int32) (e : Nat) (l r u d : Int32) : Bool := (decide (trS τ e l u < 0) && decide (trS τ e r u < 0)) && (decide (trS τ e l d < 0) && decide (trS τ e r d < 0))
def outs (τ : Nat → Int32) (l r u d : Int32) : Bool := o4 τ 0 l r u d || (o4 τ 1 l r u d || o4 τ 2 l r u d)
theorem i32_nn (x : Int32) : ¬ 0 ≤ x ↔ x < 0 := Int32.not_le
theorem x6_out1 {i e : Nat} {τ : Nat → Int32} {M : gM} (h : SHe i τ M) (he : e < 3) (l r u d : Int32) : X6_isOutside_L3 i l r u d (nI e) M = if o4 τ e l r u d = true then some (.inr (.inl ())) else some (.inl (nI (e + 1))) := by
  unfold X6_isOutside_L3
  rw [nlit 3, if_neg (nI_ge he (by decide)), x6_sum h he, bind_e, x6_sum h he, bind_e, gLet_e, x6_sum h he, bind_e, x6_sum h he, bind_e, gLet_e, gLet_e, nI_1]
  unfold o4
  by_cases h1 : 0 ≤ gmax (trS τ e l u) (trS τ e r u)
  · rw [if_pos h1, if_neg]
    have h2 : ¬ gmax (trS τ e l u) (trS τ e r u) < 0 := Int32.not_lt.mpr h1
    rw [gmax_lt] at h2
    simp only [Bool.and_eq_true, decide_eq_true_eq]
    exact fun z => h2 z.1
  · rw [if_neg h1]
    have h2 : gmax (trS τ e l u) (trS τ e r u) < 0 := Int32.not_le.mp h1
    rw [gmax_lt] at h2
    by_cases h3 : 0 ≤ gmax (trS τ e l d) (trS τ e r d)
    · rw [if_pos h3, if_neg]
      have h4 : ¬ gmax (trS τ e l d) (trS τ e r d) < 0 := Int32.not_lt.mpr h3
      rw [gmax_lt] at h4
      simp only [Bool.and_eq_true, decide_eq_true_eq]
      exact fun z => h4 z.2
    · rw [if_neg h3, if_pos]
      have h4 : gmax (trS τ e l d) (trS τ e r d) < 0 := Int32.not_le.mp h3
      rw [gmax_lt] at h4
      simp only [Bool.and_eq_true, decide_eq_true_eq]
      exact ⟨h2, h4⟩
theorem x6_out {i : Nat} {τ : Nat → Int32} {M : gM} (h : SHe i τ M) (l r u d : Int32) : X6_isOutside i l r u d M = some (if outs τ l r u d = true then 1 else 0) := by
  have s3 : X6_isOutside_L3 i l r u d (nI 3) M = some (.inr (.inr ())) := by
    unfold X6_isOutside_L3
    rw [nlit 3, if_pos (nI_le (Nat.le_refl 3) (by decide))]
  have s0 := x6_out1 h (e := 0) (by decide) l r u d
  have s1 := x6_out1 h (e := 1) (by decide) l r u d
  have s2 := x6_out1 h (e := 2) (by decide) l r u d
  unfold X6_isOutside outs
  rw [← nI_0]
  cases h0 : o4 τ 0 l r u d with
  | true =>
    rw [h0, if_pos rfl] at s0
    rw [FU5 (gIt_x (step := fun s => X6_isOutside_L3 i l r u d s M) s0)]
    rfl
  | false =>
    rw [h0, if_neg (by decide)] at s0
    cases h1 : o4 τ 1 l r u d with
    | true =>
      rw [h1, if_pos rfl] at s1
      rw [FU5 (gIt_s (step := fun s => X6_isOutside_L3 i l r u d s M) s0 (gIt_x s1))]
      rfl
    | false =>
      rw [h1, if_neg (by decide)] at s1
      cases h2 : o4 τ 2 l r u d with
      | true =>
        rw [h2, if_pos rfl] at s2
        rw [FU5 (gIt_s (step := fun s => X6_isOutside_L3 i l r u d s M) s0 (gIt_s s1 (gIt_x s2)))]
        rfl
      | false =>
        rw [h2, if_neg (by decide)] at s2
        rw [FU5 (gIt_s (step := fun s => X6_isOutside_L3 i l r u d s M) s0 (gIt_s s1 (gIt_s s2 (gIt_x s3))))]
        rfl
/-- whether a triangle with an area touches a tile -/
def trT (W H T : Nat) (τ : Nat → Int32) (t : Nat) : Bool := decide (¬ trA τ = 0) && (!bsd (τ 0) (τ 2) (τ 4) (nI (8 * tL W T t)) (nI (8 * tR W T t)) && (!bsd (τ 1) (τ 3) (τ 5) (nI (8 * tU W T t)) (nI (8 * tD W H T t)) && !outs τ (nI (8 * tL W T t)) (nI (8 * tR W T t)) (nI (8 * tU W T t)) (nI (8 * tD W H T t))))
/-- a set of small numbers as bits -/
def bts (f : Nat → Bool) : Nat → Int32
  | 0 => 0
  | n + 1 => if f n = true then bts f n ||| ((1 : Int32) <<< (nI n &&& 31)) else bts f n
