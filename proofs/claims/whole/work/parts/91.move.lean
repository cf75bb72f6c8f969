/-! numbers within bounds; a corner moved; a rule changed -/
theorem x11_isIn (p : Int32) (lo hi : Int64) (M : gM) : X11_isIn p.toInt64 lo hi M = some (if lo.toInt ≤ p.toInt ∧ p.toInt ≤ hi.toInt then 1 else 0) := by
  unfold X11_isIn
  by_cases h1 : lg_cmp p.toInt64 lo < 0
  · have h := (lg_cmp_lt _ _).mp h1
    rw [Int64.lt_iff_toInt_lt, Int32.toInt_toInt64] at h
    rw [if_pos h1, if_neg (by omega)]
  · have h : ¬ p.toInt64 < lo := fun z => h1 ((lg_cmp_lt _ _).mpr z)
    rw [Int64.lt_iff_toInt_lt, Int32.toInt_toInt64] at h
    rw [if_neg h1]
    by_cases h2 : 0 < lg_cmp p.toInt64 hi
    · have g := (lg_cmp_gt _ _).mp h2
      rw [Int64.lt_iff_toInt_lt, Int32.toInt_toInt64] at g
      rw [if_pos h2, if_neg (by omega)]
    · have g : ¬ hi < p.toInt64 := fun z => h2 ((lg_cmp_gt _ _).mpr z)
      rw [Int64.lt_iff_toInt_lt, Int32.toInt_toInt64] at g
      rw [if_neg h2, if_pos (by omega)]
def rvl (k : Nat) (v : Int32) : Prop := (k = 0 → v = 0 ∨ v = 1 ∨ v = 2) ∧ (k = 1 ∨ k = 2 → v = 0 ∨ v = 1) ∧ (k = 3 → ∃ r, 1 ≤ r ∧ r ≤ 10 ∧ v = nI r)
section MV
variable {n W H T K i j k t c : Nat} {M M' Mx Mm Mx' Mm' : gM} {dx dy v : Int32}
theorem j_move (hj : j = 8 ∨ j = 9) (h : RJ n W H T K i j Mx Mm) (hP : PN i Mx) (ht : t < n) (hc : c < 3) (h1 : -99 ≤ (Mx.1 39 i (6 * t + 2 * c) + dx).toInt ∧ (Mx.1 39 i (6 * t + 2 * c) + dx).toInt ≤ 160) (h2 : -99 ≤ (Mx.1 39 i (6 * t + 2 * c + 1) + dy).toInt ∧ (Mx.1 39 i (6 * t + 2 * c + 1) + dy).toInt ≤ 160) :
    ∃ Mx' Mm', X9_moveCorner i (nI t) (nI c) dx dy Mx = some (trA (ct Mx' i t), Mx') ∧ X11_moves j (nI t) (nI c) dx dy Mm = some Mm' ∧ RJ n W H T K i j Mx' Mm' ∧ PN i Mx' ∧ OQ (fun a b _ => (a = 39 ∧ b = i) ∨ (19 ≤ a ∧ a ≤ 27)) Mx Mx' ∧ OQ (fun a b c => a = 52 ∧ b = j ∧ 944 ≤ c ∧ c < 1034) Mm Mm' := by
  have hn := h.1.2.1
  have fc := h.2.2.2.1
  have ex : (nI t * 6) + (nI c * 2) = nI (6 * t + 2 * c) := by rw [nlit 6, nI_mul, nlit 2, nI_mul, nI_add, Nat.mul_comm t 6, Nat.mul_comm c 2]
  have em : ((944 : Int32) + (9 * nI t)) + (3 * nI c) = nI (944 + 9 * t + 3 * c) := by rw [nlit 9, nI_mul, nlit 944, nI_add, nlit 3, nI_mul, nI_add]
  have m0 : Mm.1 52 j (944 + 9 * t + 3 * c) = Mx.1 39 i (6 * t + 2 * c) := by
    have := ((fc t ht).1 (2 * c) (by omega)).1
    rw [show 944 + 9 * t + 3 * (2 * c / 2) + 2 * c % 2 = 944 + 9 * t + 3 * c by omega] at this
    exact this
  have m1 : Mm.1 52 j (944 + 9 * t + 3 * c + 1) = Mx.1 39 i (6 * t + 2 * c + 1) := by
    have := ((fc t ht).1 (2 * c + 1) (by omega)).1
    rw [show 944 + 9 * t + 3 * ((2 * c + 1) / 2) + (2 * c + 1) % 2 = 944 + 9 * t + 3 * c + 1 by omega] at this
    exact this
  -- the class's corners
  obtain ⟨X, hX⟩ : ∃ X, X = wI (wI Mx 39 i (6 * t + 2 * c) (Mx.1 39 i (6 * t + 2 * c) + dx)) 39 i (6 * t + 2 * c + 1) (Mx.1 39 i (6 * t + 2 * c + 1) + dy) := ⟨_, rfl⟩
  obtain ⟨Y, hY⟩ : ∃ Y, Y = wI (wI Mm 52 j (944 + 9 * t + 3 * c) (Mx.1 39 i (6 * t + 2 * c) + dx)) 52 j (944 + 9 * t + 3 * c + 1) (Mx.1 39 i (6 * t + 2 * c + 1) + dy) := ⟨_, rfl⟩
  have xo : ∀ a b d, ¬ (a = 39 ∧ b = i ∧ (d = 6 * t + 2 * c ∨ d = 6 * t + 2 * c + 1)) → X.1 a b d = Mx.1 a b d := fun a b d hq => by rw [hX, w_n (by omega), w_n (by omega)]
  have x2 : X.2 = Mx.2 := by rw [hX]; rfl
  have yo : ∀ a b d, ¬ (a = 52 ∧ b = j ∧ (d = 944 + 9 * t + 3 * c ∨ d = 944 + 9 * t + 3 * c + 1)) → Y.1 a b d = Mm.1 a b d := fun a b d hq => by rw [hY, w_n (by omega), w_n (by omega)]
  have y2 : Y.2 = Mm.2 := by rw [hY]; rfl
  have xe0 : X.1 39 i (6 * t + 2 * c) = Mx.1 39 i (6 * t + 2 * c) + dx := by rw [hX, w_n (by omega), w_e]
  have xe1 : X.1 39 i (6 * t + 2 * c + 1) = Mx.1 39 i (6 * t + 2 * c + 1) + dy := by rw [hX, w_e]
  have ye0 : Y.1 52 j (944 + 9 * t + 3 * c) = Mx.1 39 i (6 * t + 2 * c) + dx := by rw [hY, w_n (by omega), w_e]
  have ye1 : Y.1 52 j (944 + 9 * t + 3 * c + 1) = Mx.1 39 i (6 * t + 2 * c + 1) + dy := by rw [hY, w_e]
  have sx : SCx n W H T K X := h.1.of fun a b d hh => xo a b d (by omega)
  have fcX : FC n i (Y.1 52 j) X := fun u hu => by
    refine ⟨fun k hk => ?_, fun k hk => ?_⟩
    · by_cases q0 : 6 * u + k = 6 * t + 2 * c
      · have eu : u = t := by omega
        have ek : k = 2 * c := by omega
        rw [q0, xe0, show 944 + 9 * u + 3 * (k / 2) + k % 2 = 944 + 9 * t + 3 * c by omega, ye0]
        exact ⟨rfl, h1⟩
      · by_cases q1 : 6 * u + k = 6 * t + 2 * c + 1
        · have eu : u = t := by omega
          have ek : k = 2 * c + 1 := by omega
          rw [q1, xe1, show 944 + 9 * u + 3 * (k / 2) + k % 2 = 944 + 9 * t + 3 * c + 1 by omega, ye1]
          exact ⟨rfl, h2⟩
        · rw [xo 39 i _ (by omega), yo 52 j _ (by omega)]
          exact (fc u hu).1 k hk
    · rw [xo 10 1 _ (by omega), yo 52 j _ (by omega)]
      exact (fc u hu).2 k hk
  have zX : zt X t = zt Mx t := zt_of fun d => xo 10 1 d (by omega)
  obtain ⟨Z, z1, z2, z3⟩ := x6_fitTo (M := X) (t := t) (f := i) (τ := ct X i t) (ζ := zt Mx t) (pat := Mx.1 7 1 t) (col := Mx.1 8 1 t) sx.1 sx.2.2.2.1 sx.2.2.2.2.1 sx.2.2.2.2.2.1 (ct_cb fcX ht) (by omega) (h.1.2.2.2.2.2.2 t ht).1
    (fun k hk => by rw [← zX]; unfold zt; rw [if_pos hk]) (xo 7 1 t (by omega)) (xo 8 1 t (by omega)) (fun k hk => by unfold ct; rw [if_pos hk]) (fun k hk => by unfold ct; rw [if_neg (by omega)])
    (Or.inr ⟨ct Mx i t, fun k hk => by unfold ct; rw [if_neg (by omega)], (h.2.2.1 t ht).keep fun a d g1 g2 => xo a t d (by omega)⟩)
  have zo : ∀ a b d, ¬ (19 ≤ a ∧ a ≤ 27 ∧ b = t) → Z.1 a b d = X.1 a b d := fun a b d hq => z2.2 a b d hq
  have zct : ∀ u, ct Z i u = ct X i u := fun u => ct_of fun d => zo 39 i d (by omega)
  have zzt : ∀ u, zt Z u = zt Mx u := fun u => (zt_of fun d => zo 10 1 d (by omega)).trans (zt_of fun d => xo 10 1 d (by omega))
  have hPZ : PN i Z := fun k hk => by rw [zo 36 i k (by omega), xo 36 i k (by omega)]; exact hP k hk
  refine ⟨Z, Y, ?_, ?_, ⟨sx.of fun a b d hh => zo a b d (by omega), ?_, fun u hu => ?_, fcX.of (fun d => zo 39 i d (by omega)) (fun d => zo 10 1 d (by omega)) (fun d _ _ => rfl), ?_, fun k hk => ?_, ?_, ?_⟩, hPZ, ⟨z2.1.trans x2, fun a b d hq => by rw [zo a b d (by omega), xo a b d (by omega)]⟩, ⟨y2, fun a b d hq => yo a b d (by omega)⟩⟩
  · unfold X9_moveCorner
    rw [x4_has h.1 ht, bind_e, if_neg (show ¬ (1 : Int32) = 0 by decide), if_neg (nI_neg (by omega)), if_pos (show nI c ≤ (2 : Int32) from nI_le (a := c) (b := 2) (by omega) (by decide)), ex, gG_t (gin_n (k := 6 * t + 2 * c) (by omega) (by decide)), gG_t (gin_n (k := 6 * t + 2 * c) (by omega) (by decide)), gLet_e, nI_1, gG_t (gin_n (k := 6 * t + 2 * c + 1) (by omega) (by decide)), gG_t (gin_n (k := 6 * t + 2 * c + 1) (by omega) (by decide)), gLet_e, gG_t (gin_n (k := t) (by omega) (by decide)), nI_clamp (n := 6 * t + 2 * c) (by omega), nI_clamp (n := 6 * t + 2 * c + 1) (by omega), nI_clamp (n := t) (by omega), w_n (c := 6 * t + 2 * c + 1) (by omega), ← hX, z1, bind_e, gG_t (gin_n (k := t) (by omega) (by decide)), z3.2.2.1, zct]
  · unfold X11_moves
    rw [em, gLen8 hj, gG_t (gin_n (k := 944 + 9 * t + 3 * c) (by omega) (by decide)), gG_t (gin_n (k := 944 + 9 * t + 3 * c) (by omega) (by decide)), gLet_e, nI_1, gG_t (gin_n (k := 944 + 9 * t + 3 * c + 1) (by omega) (by decide)), gG_t (gin_n (k := 944 + 9 * t + 3 * c + 1) (by omega) (by decide)), gLet_e, nI_clamp (n := 944 + 9 * t + 3 * c) (by omega), nI_clamp (n := 944 + 9 * t + 3 * c + 1) (by omega), w_n (c := 944 + 9 * t + 3 * c + 1) (by omega), m0, m1, ← hY]
  · exact h.2.1.of (fun d u => ⟨fun _ => by rw [zo 5 1 d (by omega), xo 5 1 d (by omega)], by rw [zo 8 1 u (by omega), xo 8 1 u (by omega)], by rw [zo 9 1 u (by omega), xo 9 1 u (by omega)], by rw [zo 7 1 u (by omega), xo 7 1 u (by omega)]⟩) (fun b d hb => yo 52 b d (by omega)) ⟨yo 50 0 16 (by omega), yo 50 0 29 (by omega), yo 50 0 30 (by omega)⟩
  · rw [zct, zzt, zo 7 1 u (by omega), xo 7 1 u (by omega), zo 8 1 u (by omega), xo 8 1 u (by omega)]
    by_cases e : u = t
    · subst e
      exact z3
    · have ecu : ct X i u = ct Mx i u := by
        funext k
        unfold ct
        by_cases hk : k < 6
        · rw [if_pos hk, if_pos hk, xo 39 i _ (by omega)]
        · rw [if_neg hk, if_neg hk]
      rw [ecu]
      exact (h.2.2.1 u hu).keep fun a d g1 g2 => by rw [zo a u d (by omega), xo a u d (by omega)]
  · exact h.2.2.2.2.1.of (fun d => by rw [zo 40 i d (by omega), xo 40 i d (by omega)]) (fun d _ _ => yo 52 j d (by omega))
  · have e := h.2.2.2.2.2.1 k hk
    rw [zo 34 i k (by omega), xo 34 i k (by omega), zo 35 i k (by omega), xo 35 i k (by omega), zo 36 i k (by omega), xo 36 i k (by omega), yo 52 j k (by omega), yo 52 j (256 + k) (by omega), yo 52 j (512 + k) (by omega)]
    exact ⟨e.1, e.2.1, e.2.2.1, Or.inl (hP k hk)⟩
  · exact h.2.2.2.2.2.2.1.of (fun a d ha => by rw [zo a i d (by omega), xo a i d (by omega)]) (fun d _ _ => yo 52 j d (by omega))
  · exact h.2.2.2.2.2.2.2.of (by omega) (fun d => by rw [z2.1, x2]) (fun d _ _ => by rw [zo 33 i d (by omega), xo 33 i d (by omega)]) (fun d _ _ => yo 52 j d (by omega))
/-- a rule changed -/
theorem j_rule (hj : j = 8 ∨ j = 9) (h : RJ n W H T K i j Mx Mm) (hk : k < 4) (hv : rvl k v) :
    X9_changeRule i (nI k) v Mx = some (Mx.1 40 i k, wI Mx 40 i k v) ∧ RJ n W H T K i j (wI Mx 40 i k v) (wI Mm 52 j (1057 + k) v) := by
  constructor
  · unfold X9_changeRule
    rw [if_neg (nI_neg (by omega)), if_pos (show nI k < (4 : Int32) from (nI_ltI (by omega) (by decide)).mpr hk), gG_t (gin_n hk (by decide)), gLet_e, gG_t (gin_n hk (by decide)), gLet_e, nI_clamp (by omega)]
  · have hn := h.1.2.1
    refine ⟨h.1.of fun a b d hh => w_n (by omega), h.2.1.of (fun d u => ⟨fun _ => w_n (by omega), w_n (by omega), w_n (by omega), w_n (by omega)⟩) (fun b d hb => w_n (by omega)) ⟨w_n (by omega), w_n (by omega), w_n (by omega)⟩, h.2.2.1.of fun a b d hh => w_n (by omega), h.2.2.2.1.of (fun d => w_n (by omega)) (fun d => w_n (by omega)) (fun d _ _ => w_n (by omega)), ⟨fun l hl => ?_, ?_, ?_, ?_, ?_⟩, h.2.2.2.2.2.1.of (fun a d ha => w_n (by omega)) (fun d _ => w_n (by omega)), h.2.2.2.2.2.2.1.of (fun a d ha => w_n (by omega)) (fun d _ _ => w_n (by omega)), h.2.2.2.2.2.2.2.of (by omega) (fun d => rfl) (fun d _ _ => w_n (by omega)) (fun d _ _ => w_n (by omega))⟩
    · by_cases e : l = k
      · rw [e, w_e, w_e]
      · rw [w_n (by omega), w_n (by omega)]
        exact h.2.2.2.2.1.1 l hl
    · by_cases e : k = 0
      · rw [w_ee e.symm]; exact hv.1 e
      · rw [w_n (by omega)]; exact h.2.2.2.2.1.2.1
    · by_cases e : k = 1
      · rw [w_ee e.symm]; exact hv.2.1 (Or.inl e)
      · rw [w_n (by omega)]; exact h.2.2.2.2.1.2.2.1
    · by_cases e : k = 2
      · rw [w_ee e.symm]; exact hv.2.1 (Or.inr e)
      · rw [w_n (by omega)]; exact h.2.2.2.2.1.2.2.2.1
    · by_cases e : k = 3
      · rw [w_ee e.symm]; exact hv.2.2 e
      · rw [w_n (by omega)]; exact h.2.2.2.2.1.2.2.2.2
end MV
