/-! tiles: plain numbers, and both sides' ways to reckon them -/
def tC (W T : Nat) : Nat := (W + T - 1) / T
def tN (W H T : Nat) : Nat := tC W T * tC H T
def tL (W T t : Nat) : Nat := t % tC W T * T
def tR (W T t : Nat) : Nat := min (tL W T t + T) W
def tU (W T t : Nat) : Nat := t / tC W T * T
def tD (W H T t : Nat) : Nat := min (tU W T t + T) H
def dOk (W H T K : Nat) : Prop := (1 ≤ W ∧ W ≤ 8) ∧ (1 ≤ H ∧ H ≤ 8) ∧ (2 ≤ T ∧ T ≤ 4) ∧ (K = 1 ∨ K = 2 ∨ K = 4)
def tck (W H T : Nat) : Bool := decide (1 ≤ tC W T) && (decide (tC W T ≤ 4) && (decide (1 ≤ tN W H T) && (decide (tN W H T ≤ 16) && (List.range (tN W H T)).all (fun t => decide (tL W T t < tR W T t) && (decide (tR W T t ≤ W) && (decide (tU W T t < tD W H T t) && decide (tD W H T t ≤ H)))))))
theorem t_fact2 : ((List.range 8).all fun W => (List.range 8).all fun H => (List.range 3).all fun T => tck (W + 1) (H + 1) (T + 2)) = true := by decide +kernel
theorem t_fact0 : ∀ W, W < 9 → ∀ H, H < 9 → ∀ T, T < 5 → 1 ≤ W → 1 ≤ H → 2 ≤ T → (1 ≤ tC W T ∧ tC W T ≤ 4 ∧ 1 ≤ tN W H T ∧ tN W H T ≤ 16 ∧ ∀ t, t < tN W H T → tL W T t < tR W T t ∧ tR W T t ≤ W ∧ tU W T t < tD W H T t ∧ tD W H T t ≤ H) := by
  intro W hW H hH T hT h1 h2 h3
  obtain ⟨W, rfl⟩ : ∃ j, W = j + 1 := ⟨W - 1, by omega⟩
  obtain ⟨H, rfl⟩ : ∃ j, H = j + 1 := ⟨H - 1, by omega⟩
  obtain ⟨T, rfl⟩ : ∃ j, T = j + 2 := ⟨T - 2, by omega⟩
  have h := List.all_eq_true.mp (List.all_eq_true.mp (List.all_eq_true.mp t_fact2 W (List.mem_range.mpr (by omega))) H (List.mem_range.mpr (by omega))) T (List.mem_range.mpr (by omega))
  simp only [tck, Bool.and_eq_true, decide_eq_true_eq, List.all_eq_true, List.mem_range] at h
  exact h
theorem dOk.C {W H T K : Nat} (h : dOk W H T K) : 1 ≤ tC W T ∧ tC W T ≤ 4 := by
  have := t_fact0 W (by have := h.1; omega) H (by have := h.2.1; omega) T (by have := h.2.2.1; omega) h.1.1 h.2.1.1 h.2.2.1.1
  exact ⟨this.1, this.2.1⟩
theorem dOk.N {W H T K : Nat} (h : dOk W H T K) : 1 ≤ tN W H T ∧ tN W H T ≤ 16 := by
  have := t_fact0 W (by have := h.1; omega) H (by have := h.2.1; omega) T (by have := h.2.2.1; omega) h.1.1 h.2.1.1 h.2.2.1.1
  exact ⟨this.2.2.1, this.2.2.2.1⟩
theorem dOk.t {W H T K t : Nat} (h : dOk W H T K) (ht : t < tN W H T) : tL W T t < tR W T t ∧ tR W T t ≤ W ∧ tU W T t < tD W H T t ∧ tD W H T t ≤ H :=
  (t_fact0 W (by have := h.1; omega) H (by have := h.2.1; omega) T (by have := h.2.2.1; omega) h.1.1 h.2.1.1 h.2.2.1.1).2.2.2.2 t ht
/-- the class's grid -/
def GD (W H T K : Nat) (M : gM) : Prop := M.1 12 0 0 = nI W ∧ M.1 12 0 1 = nI H ∧ M.1 12 0 2 = nI T ∧ M.1 12 0 3 = nI K ∧ M.1 12 0 4 = nI (tC W T) ∧ M.1 12 0 5 = nI (tN W H T) ∧ M.1 12 0 6 = nI (W * H * K)
/-- the reference's rules -/
def MD (n W H T K : Nat) (M : gM) : Prop := M.1 50 0 16 = nI n ∧ M.1 52 2 0 = nI W ∧ M.1 52 2 1 = nI H ∧ M.1 52 2 2 = nI T ∧ M.1 52 2 3 = nI K
theorem gd_ne {n : Nat} (h0 : 0 < n) (h : n < 2 ^ 31) : decide (¬ nI n = 0) = true := decide_eq_true (nI_ne0 h0 h)
theorem gd_gt {n : Nat} (h0 : 0 < n) (h : n < 2 ^ 31) : ¬ nI n ≤ 0 := nI_ge (a := 0) h0 h
section DM
variable {n W H T K t : Nat} {M : gM}
theorem x1_left (h : dOk W H T K) (g : GD W H T K M) (ht : t < 100) : X1_leftOf (nI t) M = some (nI (tL W T t)) := by
  have hc := h.C
  unfold X1_leftOf
  rw [g.2.2.2.2.1, g.2.2.1, if_neg (gd_gt (n := tC W T) (by omega) (by omega)), gG_t (gd_ne (by omega) (by omega)), nI_rem (by omega) (by omega), nI_mul]
  rfl
theorem x1_top (h : dOk W H T K) (g : GD W H T K M) (ht : t < 100) : X1_topOf (nI t) M = some (nI (tU W T t)) := by
  have hc := h.C
  unfold X1_topOf
  rw [g.2.2.2.2.1, g.2.2.1, if_neg (gd_gt (n := tC W T) (by omega) (by omega)), gG_t (gd_ne (by omega) (by omega)), nI_div (by omega) (by omega), nI_mul]
  rfl
theorem tL_lt (h : dOk W H T K) (ht : t < 100) : tL W T t < 1000 ∧ tU W T t < 1000 := by
  have hc := h.C
  have h2 := h.2.2.1
  unfold tL tU
  have h3 : t % tC W T < 4 + 1 := Nat.lt_of_lt_of_le (Nat.mod_lt t (by omega)) (by omega)
  have h4 : t / tC W T ≤ t := Nat.div_le_self _ _
  have h5 : t % tC W T * T ≤ 4 * 4 := Nat.mul_le_mul (by omega) (by omega)
  have h6 : t / tC W T * T ≤ 99 * 4 := Nat.mul_le_mul (by omega) (by omega)
  omega
theorem x1_right (h : dOk W H T K) (g : GD W H T K M) (ht : t < 100) : X1_rightOf (nI t) M = some (nI (tR W T t)) := by
  have h1 := tL_lt h ht
  have hW := h.1
  have hT := h.2.2.1
  unfold X1_rightOf
  rw [x1_left h g ht, bind_e, g.2.2.1, g.1, nI_add, nI_min (by omega) (by omega)]
  rfl
theorem x1_bottom (h : dOk W H T K) (g : GD W H T K M) (ht : t < 100) : X1_bottomOf (nI t) M = some (nI (tD W H T t)) := by
  have h1 := tL_lt h ht
  have hW := h.2.1
  have hT := h.2.2.1
  unfold X1_bottomOf
  rw [x1_top h g ht, bind_e, g.2.2.1, g.2.1, nI_add, nI_min (by omega) (by omega)]
  rfl
theorem x11_across (h : dOk W H T K) (g : MD n W H T K M) : X11_tilesAcross M = some (nI (tC W T)) := by
  have h1 := h.1
  have h2 := h.2.2.1
  unfold X11_tilesAcross
  rw [g.2.1, g.2.2.2.1, gG_t (gd_ne (by omega) (by omega)), nI_add, nlit 1, nI_sub (by omega), nI_div (by omega) (by omega)]
  rfl
theorem x11_all (h : dOk W H T K) (g : MD n W H T K M) : X11_tilesAll M = some (nI (tN W H T)) := by
  have h1 := h.2.1
  have h2 := h.2.2.1
  unfold X11_tilesAll
  rw [x11_across h g, bind_e, g.2.2.1, g.2.2.2.1, gG_t (gd_ne (by omega) (by omega)), nI_add, nlit 1, nI_sub (by omega), nI_div (by omega) (by omega), nI_mul]
  rfl
theorem x11_left (h : dOk W H T K) (g : MD n W H T K M) (ht : t < 100) : X11_leftOf (nI t) M = some (nI (tL W T t)) := by
  have hc := h.C
  unfold X11_leftOf
  rw [x11_across h g, bind_e, g.2.2.2.1, gG_t (gd_ne (by omega) (by omega)), nI_rem (by omega) (by omega), nI_mul]
  rfl
theorem x11_top (h : dOk W H T K) (g : MD n W H T K M) (ht : t < 100) : X11_topOf (nI t) M = some (nI (tU W T t)) := by
  have hc := h.C
  unfold X11_topOf
  rw [x11_across h g, bind_e, g.2.2.2.1, gG_t (gd_ne (by omega) (by omega)), nI_div (by omega) (by omega), nI_mul]
  rfl
theorem x11_right (h : dOk W H T K) (g : MD n W H T K M) (ht : t < 100) : X11_rightOf (nI t) M = some (nI (tR W T t)) := by
  have h1 := tL_lt h ht
  have hW := h.1
  have hT := h.2.2.1
  unfold X11_rightOf
  rw [x11_left h g ht, bind_e, g.2.2.2.1, g.2.1, nI_add, gLet_e]
  unfold tR
  by_cases hc : W ≤ tL W T t + T
  · rw [if_pos ((nI_leI (by omega) (by omega)).mpr hc), Nat.min_eq_right hc]
  · rw [if_neg (fun z => hc ((nI_leI (by omega) (by omega)).mp z)), Nat.min_eq_left (by omega)]
theorem x11_low (h : dOk W H T K) (g : MD n W H T K M) (ht : t < 100) : X11_lowOf (nI t) M = some (nI (tD W H T t)) := by
  have h1 := tL_lt h ht
  have hW := h.2.1
  have hT := h.2.2.1
  unfold X11_lowOf
  rw [x11_top h g ht, bind_e, g.2.2.2.1, g.2.2.1, nI_add, gLet_e]
  unfold tD
  by_cases hc : H ≤ tU W T t + T
  · rw [if_pos ((nI_leI (by omega) (by omega)).mpr hc), Nat.min_eq_right hc]
  · rw [if_neg (fun z => hc ((nI_leI (by omega) (by omega)).mp z)), Nat.min_eq_left (by omega)]
end DM
/-! the samples of a tile, in order -/
def plc (x y s : Nat) : Nat := 4 * (8 * y + x) + s
def tX (W T K t y : Nat) : List (Nat × Nat × Nat) := (List.range' (tL W T t) (tR W T t - tL W T t)).flatMap fun x => (List.range' 0 K).map fun s => (x, y, s)
def tS (W H T K t : Nat) : List (Nat × Nat × Nat) := (List.range' (tU W T t) (tD W H T t - tU W T t)).flatMap fun y => tX W T K t y
theorem tS_mem {W H T K t : Nat} {a : Nat × Nat × Nat} (h : a ∈ tS W H T K t) : (tL W T t ≤ a.1 ∧ a.1 < tR W T t) ∧ (tU W T t ≤ a.2.1 ∧ a.2.1 < tD W H T t) ∧ a.2.2 < K := by
  unfold tS tX at h
  obtain ⟨y, hy, h⟩ := List.mem_flatMap.mp h
  obtain ⟨x, hx, h⟩ := List.mem_flatMap.mp h
  obtain ⟨s, hs, h⟩ := List.mem_map.mp h
  subst h
  have h1 := List.mem_range'_1.mp hy
  have h2 := List.mem_range'_1.mp hx
  have h3 := List.mem_range'_1.mp hs
  refine ⟨⟨h2.1, ?_⟩, ⟨h1.1, ?_⟩, ?_⟩
  · show x < tR W T t
    omega
  · show y < tD W H T t
    omega
  · show s < K
    omega
