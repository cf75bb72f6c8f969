/-! shifts -/
/-- corners shifted -/
def sft (τ : Nat → Int32) (dx dy : Int32) (k : Nat) : Int32 := if k < 6 then τ k + (if k % 2 = 0 then dx else dy) else 0
section SF
variable {n W H T K i j k t m nf q : Nat} {M Mx Mm Z : gM} {τ ζ : Nat → Int32} {cu dx dy px py : Int32}
theorem sft_A : trA (sft τ dx dy) = trA τ := by
  unfold trA sft
  simp only [show (2 : Nat) < 6 by decide, show (0 : Nat) < 6 by decide, show (5 : Nat) < 6 by decide, show (1 : Nat) < 6 by decide, show (3 : Nat) < 6 by decide, show (4 : Nat) < 6 by decide, if_true]
  show (τ 2 + dx - (τ 0 + dx)) * (τ 5 + dy - (τ 1 + dy)) - (τ 3 + dy - (τ 1 + dy)) * (τ 4 + dx - (τ 0 + dx)) = _
  grind
theorem sft_P : trP (sft τ dx dy) = trP τ := by
  funext k
  unfold trP
  rw [sft_A]
theorem sft_x (hk : k < 3) : tx (sft τ dx dy) k = tx τ k + dx ∧ ty (sft τ dx dy) k = ty τ k + dy := by
  unfold tx ty
  rw [sft_P]
  have hp := trP_lt (τ := τ) hk
  unfold sft
  constructor
  · rw [if_pos (by omega), if_pos (by omega)]
  · rw [if_pos (by omega), if_neg (by omega)]
theorem sft_S (hk : k < 3) : trS (sft τ dx dy) k px py = trS τ k (px - dx) (py - dy) := by
  unfold trS
  rw [(sft_x hk).1, (sft_x hk).2, (sft_x (nx_lt k)).1, (sft_x (nx_lt k)).2]
  grind
theorem lt_sh {a b d : Int32} (ha : pb a) (hb : pb b) (hd : -3 ≤ d.toInt ∧ d.toInt ≤ 3) : a + d < b + d ↔ a < b := by
  unfold pb at ha hb
  rw [Int32.lt_iff_toInt_lt, Int32.lt_iff_toInt_lt, add32 (by omega) (by omega), add32 (by omega) (by omega)]
  omega
theorem eq_sh {a b d : Int32} : a + d = b + d ↔ a = b := Int32.add_left_inj d
theorem sft_H (hc : cb τ) (hx : -3 ≤ dx.toInt ∧ dx.toInt ≤ 3) (hy : -3 ≤ dy.toInt ∧ dy.toInt ≤ 3) (hk : k < 3) : trH (sft τ dx dy) k = trH τ k := by
  unfold trH
  rw [(sft_x hk).1, (sft_x hk).2, (sft_x (nx_lt k)).1, (sft_x (nx_lt k)).2]
  have h1 := lt_sh (d := dx) (hc.x hk) (hc.x (nx_lt k)) hx
  have h2 := lt_sh (d := dy) (hc.y (nx_lt k)) (hc.y hk) hy
  simp only [eq_sh, h1, h2]
theorem sft_C (hc : cb τ) (hx : -3 ≤ dx.toInt ∧ dx.toInt ≤ 3) (hy : -3 ≤ dy.toInt ∧ dy.toInt ≤ 3) : trC (sft τ dx dy) px py = trC τ (px - dx) (py - dy) := by
  unfold trC trE
  rw [sft_A, sft_S (by omega), sft_S (by omega), sft_S (by omega), sft_H hc hx hy (by omega), sft_H hc hx hy (by omega), sft_H hc hx hy (by omega)]
/-- how many are covered, shifted -/
def csh (Mx : gM) (W H T K t p k : Nat) : Nat := (tA W H T K (tN W H T)).countP fun a => !cul (trA (ct Mx 0 t)) (Mx.1 40 0 0) && trC (ct Mx 0 t) (qx K a.1 a.2.2 - (nI (k % (2 * p + 1)) - nI p)) (qy K a.2.1 a.2.2 - (nI (k / (2 * p + 1)) - nI p))
theorem csh_le (h : dOk W H T K) (t p k : Nat) : csh Mx W H T K t p k ≤ 256 := by
  unfold csh
  refine Nat.le_trans List.countP_le_length ?_
  rw [tA_len h]
  exact whk_le h
/-- the best, its number, how many are as many -/
def bst (c : Nat → Nat) : Nat → Nat
  | 0 => 0
  | k + 1 => if c k ≤ bst c k then bst c k else c k
def bix (c : Nat → Nat) : Nat → Nat
  | 0 => 0
  | k + 1 => if c k ≤ bst c k then bix c k else k
def bct (c : Nat → Nat) (b : Nat) : Nat → Nat
  | 0 => 0
  | k + 1 => bct c b k + if c k = b then 1 else 0
theorem bst_le (c : Nat → Nat) (hc : ∀ k, c k ≤ 256) (k : Nat) : bst c k ≤ 256 := by
  induction k with
  | zero => exact Nat.zero_le _
  | succ k ih =>
    show (if c k ≤ bst c k then bst c k else c k) ≤ 256
    split
    · exact ih
    · exact hc k
theorem bix_le (c : Nat → Nat) (k : Nat) : bix c k ≤ k := by
  induction k with
  | zero => exact Nat.le_refl _
  | succ k ih =>
    show (if c k ≤ bst c k then bix c k else k) ≤ k + 1
    split <;> omega
theorem bct_le (c : Nat → Nat) (b k : Nat) : bct c b k ≤ k := by
  induction k with
  | zero => exact Nat.le_refl _
  | succ k ih =>
    show bct c b k + (if c k = b then 1 else 0) ≤ k + 1
    split <;> omega
theorem sh_b {a p : Nat} (ha : a ≤ 2 * p) (hp : p ≤ 3) : (nI a - nI p : Int32).toInt = (a : Int) - p := by
  rw [sub32 (by rw [nI_toInt (by omega), nI_toInt (by omega)]; omega) (by rw [nI_toInt (by omega), nI_toInt (by omega)]; omega), nI_toInt (by omega), nI_toInt (by omega)]
/-- the class: one shift -/
theorem x7_csh {p : Nat} (hp : 1 ≤ p ∧ p ≤ 3) (h1 : SCx n W H T K M) (h2 : SHi n W H T K 0 M) (ht : t < n) (hcu : cul (trA (ct M 0 t)) (M.1 40 0 0) = false) (hk : k < (2 * p + 1) * (2 * p + 1)) : X7_coveredShifted (nI t) (nI (k % (2 * p + 1)) - nI p) (nI (k / (2 * p + 1)) - nI p) M = some (nI (csh M W H T K t p k)) := by
  have hd := h1.1
  have hn := h1.2.1
  have hw := whk_le hd
  have e6 : M.1 12 0 6 = nI (W * H * K) := h1.2.2.2.1.2.2.2.2.2.2
  have sh := h2 t ht
  have hc := c_cnt (sc := fun s => X7_coveredShifted_L17 (nI (k % (2 * p + 1)) - nI p) (nI (k / (2 * p + 1)) - nI p) t s.1 s.2 M) hd (fun a => !cul (trA (ct M 0 t)) (M.1 40 0 0) && trC (ct M 0 t) (qx K a.1 a.2.2 - (nI (k % (2 * p + 1)) - nI p)) (qy K a.2.1 a.2.2 - (nI (k / (2 * p + 1)) - nI p)))
    (fun l a hl => by
      have hb := tA_mem hd (Nat.le_refl _) (tA_getD hd hl)
      have e13 : M.1 13 0 l = nI (plA ((tA W H T K (tN W H T)).getD l (0, 0, 0))) := h1.2.2.2.2.1.2 l hl
      generalize (tA W H T K (tN W H T)).getD l (0, 0, 0) = P at hb e13
      have hpl : plA P < 256 := plc_lt hd hb.1 hb.2.1 hb.2.2
      have gp := h1.2.2.2.2.2.1 P.1 P.2.1 P.2.2 hb.1 hb.2.1 hb.2.2
      show X7_coveredShifted_L17 _ _ t a (nI l) M = _
      unfold X7_coveredShifted_L17
      rw [e6, if_neg (nI_ge hl (by omega)), gG_t (gin_n (k := l) (by omega) (by decide)), nI_clamp (n := l) (by omega), e13, gLet_e, gG_t (gin_n hpl (by decide)), gG_t (gin_n hpl (by decide)), nI_clamp (n := plA P) (by omega), show M.1 15 0 (plA P) = qx K P.1 P.2.2 from gp.1, show M.1 16 0 (plA P) = qy K P.2.1 P.2.2 from gp.2, x6_cov sh.2.2.2.2.2.2.1 sh.2.2.1, bind_e, hcu]
      show _ = some (Sum.inl (a + nI (if (!false && trC (ct M 0 t) (qx K P.1 P.2.2 - (nI (k % (2 * p + 1)) - nI p)) (qy K P.2.1 P.2.2 - (nI (k / (2 * p + 1)) - nI p))) = true then 1 else 0), nI (l + 1)))
      rw [Bool.not_false, Bool.true_and]
      cases trC (ct M 0 t) (qx K P.1 P.2.2 - (nI (k % (2 * p + 1)) - nI p)) (qy K P.2.1 P.2.2 - (nI (k / (2 * p + 1)) - nI p)) with
      | true => rw [if_pos rfl, if_neg (show ¬ (1 : Int32) = 0 by decide), gLet_e, gLet_e, nI_1]; rfl
      | false =>
        rw [if_pos (by decide), gLet_e, nI_1]
        show _ = some (Sum.inl (a + 0, nI (l + 1)))
        rw [Int32.add_zero])
    (fun a => by
      show X7_coveredShifted_L17 _ _ t a (nI (W * H * K)) M = _
      unfold X7_coveredShifted_L17
      rw [e6, if_pos (nI_le (Nat.le_refl _) (by omega))])
  unfold X7_coveredShifted
  rw [gG_t (gin_n (k := t) (by omega) (by decide)), nI_clamp (by omega), hc]
  rfl
/-- the reference: one shift -/
theorem x11_csh {p : Nat} (hp : 1 ≤ p ∧ p ≤ 3) (hS : SN m nf n W H T K Mx Mm) (ht : t < n) (hk : k < (2 * p + 1) * (2 * p + 1)) (gz : ∀ a b c, ¬ ((a = 52 ∧ (b = 12 ∨ b = 13 ∨ b = 14)) ∨ (a = 50 ∧ b = 0 ∧ (c = 28 ∨ c = 29 ∨ c = 30 ∨ c = 31))) → Z.1 a b c = Mm.1 a b c) (z1 : Z.1 50 0 29 = nI (k % (2 * p + 1)) - nI p) (z2 : Z.1 50 0 30 = nI (k / (2 * p + 1)) - nI p) :
    ∃ Y, X11_asks 8 (nI t) Z = some Y ∧ SameA Z Y ∧ X11_covered Y = some (nI (csh Mx W H T K t p k)) := by
  have hd := hS.1.1.1
  have hn := hS.1.1.2.1
  obtain ⟨Y, y1, y2, y3⟩ := x11_asks (j := 8) (t := t) (M := Z) (Or.inl rfl) (by omega)
  have mdZ : MD n W H T K Z := by
    unfold MD
    rw [gz 50 0 16 (by omega), gz 52 2 0 (by omega), gz 52 2 1 (by omega), gz 52 2 2 (by omega), gz 52 2 3 (by omega)]
    exact hS.1.2.1.1
  have h1 : k % (2 * p + 1) ≤ 2 * p := by have := Nat.mod_lt k (show 0 < 2 * p + 1 by omega); omega
  have h2 : k / (2 * p + 1) ≤ 2 * p := by have := (Nat.div_lt_iff_lt_mul (show 0 < 2 * p + 1 by omega)).mpr hk; omega
  have b1 := sh_b h1 hp.2
  have b2 := sh_b h2 hp.2
  have hx : -3 ≤ (nI (k % (2 * p + 1)) - nI p : Int32).toInt ∧ (nI (k % (2 * p + 1)) - nI p : Int32).toInt ≤ 3 := by
    rw [b1]
    clear b1 b2 h2 z1 z2 hk
    generalize k % (2 * p + 1) = r at h1
    omega
  have hy : -3 ≤ (nI (k / (2 * p + 1)) - nI p : Int32).toInt ∧ (nI (k / (2 * p + 1)) - nI p : Int32).toInt ≤ 3 := by
    rw [b2]
    clear b1 b2 h1 z1 z2 hk hx
    generalize k / (2 * p + 1) = r at h2
    omega
  have et : tau Z 8 t = sft (ct Mx 0 t) (nI (k % (2 * p + 1)) - nI p) (nI (k / (2 * p + 1)) - nI p) := by
    funext l
    unfold tau sft
    by_cases hl : l < 6
    · have fc := ((hS.1.2.2.2.1 t ht).1 l hl).1
      rw [if_pos hl, if_pos hl, z1, z2, gz 52 8 _ (by omega), fc]
      unfold ct
      rw [if_pos hl]
    · rw [if_neg hl, if_neg hl]
  have eu : Z.1 52 8 1057 = Mx.1 40 0 0 := by
    rw [gz 52 8 1057 (by omega)]
    exact hS.1.2.2.2.2.1.1 0 (by omega)
  rw [et, eu] at y2
  refine ⟨Y, y1, y3, ?_⟩
  rw [x11_coverd hd (y3.md mdZ) y2]
  unfold csh cvS
  congr 3
  funext a
  rw [sft_A, sft_C (ct_cb hS.1.2.2.2.1 ht) hx hy]
end SF
