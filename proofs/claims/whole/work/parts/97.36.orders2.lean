/-! orders: one order drawn -/
section OE
variable {n W H T K i j k t m nf q : Nat} {M Mx Mm Z X Y : gM}
/-- the frame apart, between two orders -/
def CF (n W H T K : Nat) (Mx X : gM) : Prop := (∀ c, c < 60 → X.1 39 2 c = Mx.1 39 0 c) ∧ (∀ c, c < 4 → c ≠ 2 → X.1 40 2 c = Mx.1 40 0 c) ∧ X.1 40 2 2 = 0 ∧ (∀ t, t < 16 → ∃ b, b ≤ 10 ∧ X.1 38 2 t = nI b) ∧ SX Mx X ∧ ∀ a b c, 19 ≤ a → a ≤ 28 → X.1 a b c = Mx.1 a b c
theorem CF.sh (hS : SN m nf n W H T K Mx Mm) (h : CF n W H T K Mx X) : SHi n W H T K 2 X := fun t ht => by
  have hn := hS.1.1.2.1
  have ec : ct X 2 t = ct Mx 0 t := by
    funext k
    unfold ct
    by_cases hk : k < 6
    · rw [if_pos hk, if_pos hk, h.1 _ (by omega)]
    · rw [if_neg hk, if_neg hk]
  have gx := h.2.2.2.2.1.1
  rw [ec, zt_of (fun c => gx 10 1 c (by omega)), gx 7 1 t (by omega), gx 8 1 t (by omega)]
  exact (hS.1.2.2.1 t ht).keep (fun a c h1 h2 => h.2.2.2.2.2 a t c (by omega) (by omega))
theorem j_ostart (hS : SN m nf n W H T K Mx Mm) (h : CF n W H T K Mx X) (sm : SM Mm Y) : ∃ X1 Ya Yb, (∃ r, X0_wipe 2 (X.1 5 1 4) X = some (r, X1)) ∧ X11_copyRow 8 0 9 0 Y = some Ya ∧ X11_clears 9 Ya = some Yb ∧ RJ n W H T K 2 9 X1 (wI Yb 52 9 1059 0) ∧ PN 2 X1 ∧ CF n W H T K Mx X1 ∧ SM Y (wI Yb 52 9 1059 0) ∧ (∀ a b c, 19 ≤ a → a ≤ 32 → X1.1 a b c = X.1 a b c) ∧ ∀ b c, 15 ≤ b → b ≤ 19 → (wI Yb 52 9 1059 0).1 52 b c = Y.1 52 b c := by
  have hn := hS.1.1.2.1
  have hSY := hS.sm sm
  obtain ⟨X1, x1, x2, x3, x4, x5, x6, x7⟩ := x0_wipe (M := X) (i := 2) (v := X.1 5 1 4) h.2.2.2.1
  obtain ⟨Ya, c1, c2, c3⟩ := x11_copy (M := Y) (i0 := 8) (i2 := 9) (a := 0) (b := 0) (by decide) (by decide) (by decide) (by decide)
  have c1 : X11_copyRow 8 0 9 0 Y = some Ya := c1
  obtain ⟨Yb, y1, y2, y3, y4⟩ := x11_clears (M := Ya) (j := 9) (Or.inr rfl)
  have gX : ∀ a b c, ¬ ((34 ≤ a ∧ a ≤ 38 ∧ b = 2) ∨ (a = 33 ∧ b = 2 ∧ 10 ≤ c ∧ c ≤ 12)) → X1.1 a b c = X.1 a b c := x6.1
  have sx0 := h.2.2.2.2.1
  have sx1 : SX Mx X1 := sx0.tr ⟨fun a b c hq => gX a b c (by omega), x6.2⟩
  have gY : ∀ a b c, ¬ (a = 52 ∧ b = 9) → (wI Yb 52 9 1059 0).1 a b c = Y.1 a b c := fun a b c hq => by rw [w_n (by omega), y4 a b c hq, c3, if_neg (by omega)]
  have r9 : ∀ c, c < 1242 → Ya.1 52 9 c = Y.1 52 8 c := fun c hc => by rw [c3, if_pos (by omega), Nat.zero_add, Nat.sub_zero]
  have w9 : ∀ c, c ≠ 1059 → (wI Yb 52 9 1059 0).1 52 9 c = clr (Ya.1 52 9) (Ya.1 52 2 4) c := fun c hc => by rw [w_n (by omega), y3]
  have kp : ∀ c, 944 ≤ c → c < 1034 ∨ 1057 ≤ c → c < 1061 → c ≠ 1059 → (wI Yb 52 9 1059 0).1 52 9 c = Y.1 52 8 c := fun c h1 h2 h3 h4 => by
    rw [w9 c h4]
    unfold clr
    rw [if_neg (by omega), if_neg (by omega), if_neg (by omega), if_neg (by omega), if_neg (by omega), r9 c (by omega)]
  have cf1 : CF n W H T K Mx X1 := ⟨fun c hc => by rw [gX 39 2 c (by omega)]; exact h.1 c hc, fun c hc hc2 => by rw [gX 40 2 c (by omega)]; exact h.2.1 c hc hc2, by rw [gX 40 2 2 (by omega)]; exact h.2.2.1, fun t ht => ⟨0, by omega, x3 t ht⟩, sx1, fun a b c h1 h2 => by rw [gX a b c (by omega)]; exact h.2.2.2.2.2 a b c h1 h2⟩
  have ebg : Ya.1 52 2 4 = X.1 5 1 4 := by
    rw [c3, if_neg (by omega), sx0.1 5 1 4 (by omega)]
    exact hSY.1.2.1.2.1
  refine ⟨X1, Ya, Yb, ⟨_, x1⟩, c1, y1, ⟨hS.1.1.of fun a b c hc => sx1.1 a b c (by omega), hSY.1.2.1.of (fun c t => ⟨fun _ => sx1.1 5 1 c (by omega), sx1.1 8 1 t (by omega), sx1.1 9 1 t (by omega), sx1.1 7 1 t (by omega)⟩) (fun b c hb => gY 52 b c (by omega)) ⟨gY 50 0 16 (by omega), gY 50 0 29 (by omega), gY 50 0 30 (by omega)⟩, cf1.sh hS, fun t ht => ⟨fun k hk => ?_, fun k hk => ?_⟩, ⟨fun k hk => ?_, ?_⟩, fun c hc => ?_, fun t ht => ?_, ⟨fun t ht => ?_, fun t h1 h2 => x4 t h2, ?_⟩⟩, fun c hc => (x2 c hc).2.2, cf1, ⟨fun a b c hq => gY a b c (by omega), by rw [r2_wI, y2, c2]⟩, fun a b c h1 h2 => gX a b c (by omega), fun b c h1 h2 => gY 52 b c (by omega)⟩
  · have fc := (hSY.1.2.2.2.1 t ht).1 k hk
    rw [kp _ (by omega) (by omega) (by omega) (by omega), cf1.1 _ (by omega)]
    exact fc
  · have fc := (hSY.1.2.2.2.1 t ht).2 k hk
    rw [kp _ (by omega) (by omega) (by omega) (by omega), sx1.1 10 1 _ (by omega)]
    exact fc
  · by_cases e : k = 2
    · rw [e, cf1.2.2.1]
      exact w_e
    · rw [kp _ (by omega) (by omega) (by omega) (by omega), cf1.2.1 k hk e]
      exact hSY.1.2.2.2.2.1.1 k hk
  · have fr := hSY.1.2.2.2.2.1.2
    rw [cf1.2.1 0 (by omega) (by omega), cf1.2.1 1 (by omega) (by omega), cf1.2.1 3 (by omega) (by omega), cf1.2.2.1]
    exact ⟨fr.1, fr.2.1, Or.inl rfl, fr.2.2.2⟩
  · rw [(x2 c hc).1, (x2 c hc).2.1, (x2 c hc).2.2, w9 c (by omega), w9 (256 + c) (by omega), w9 (512 + c) (by omega), ebg]
    unfold clr
    rw [if_pos hc, if_neg (show ¬ 256 + c < 256 by omega), if_pos (show 256 + c < 512 by omega), if_neg (show ¬ 512 + c < 256 by omega), if_neg (show ¬ 512 + c < 512 by omega), if_pos (show 512 + c < 768 by omega)]
    exact ⟨⟨rfl, by decide, by decide⟩, rfl, rfl, Or.inl rfl⟩
  · refine ⟨0, by omega, x3 t ht, ?_, fun _ => rfl, fun k hk => absurd hk (by omega)⟩
    rw [w9 _ (by omega)]
    unfold clr
    rw [if_neg (by omega), if_neg (by omega), if_neg (by omega), if_pos (by omega), if_pos (by omega)]
    rfl
  · rw [x4 t (by omega), w9 _ (by omega), w9 _ (by omega)]
    unfold clr
    rw [if_neg (by omega), if_neg (by omega), if_neg (by omega), if_neg (by omega), if_pos (by omega), if_neg (by omega), if_neg (by omega), if_neg (by omega), if_neg (by omega), if_pos (by omega)]
    decide
  · rw [x5 10 (by omega) (by omega), x5 11 (by omega) (by omega), x5 12 (by omega) (by omega), w9 _ (by omega), w9 _ (by omega), w9 _ (by omega)]
    exact ⟨rfl, rfl, rfl⟩
/-- the list is closed up -/
theorem x7_106 {i : Nat} (hi : i < 4) (a b : Int32) : ∃ X', gIter (fun s => X7_drawInOrder_L106 a b s.1 s.2) FU (nI i, X) = some X' ∧ (∀ c, c < 3 → X'.1 31 0 c = if i ≤ c then X.1 31 0 (c + 1) else X.1 31 0 c) ∧ X'.2 = X.2 ∧ ∀ r s c, r ≠ 31 → X'.1 r s c = X.1 r s c := by
  obtain ⟨X', e1, e2, e3, e4⟩ := gI1_FU (step := fun s : Int32 × gM => X7_drawInOrder_L106 a b s.1 s.2) (fun k (u : gM) => (nI k, u)) (fun k u => i ≤ k ∧ (∀ c, c < 4 → u.1 31 0 c = if i ≤ c ∧ c < k then X.1 31 0 (c + 1) else X.1 31 0 c) ∧ u.2 = X.2 ∧ ∀ r s c, r ≠ 31 → u.1 r s c = X.1 r s c) (fun u => (∀ c, c < 3 → u.1 31 0 c = if i ≤ c then X.1 31 0 (c + 1) else X.1 31 0 c) ∧ u.2 = X.2 ∧ ∀ r s c, r ≠ 31 → u.1 r s c = X.1 r s c) i 3 (by omega) (by omega)
    (fun k u hk hu => by
      obtain ⟨u0, u1, u2, u3⟩ := hu
      refine ⟨wI u 31 0 k (u.1 31 0 (k + 1)), ?_, by omega, fun c hc => ?_, u2, fun r s c hr => by rw [w_n (by omega)]; exact u3 r s c hr⟩
      · show X7_drawInOrder_L106 a b (nI k) u = _
        unfold X7_drawInOrder_L106
        rw [nI_1, if_neg (show ¬ (4 : Int32) ≤ nI (k + 1) from nI_ge (a := k + 1) (b := 4) (by omega) (by decide)), gG_t (gin_n (k := k + 1) (by omega) (by decide)), gG_t (gin_n (k := k) (by omega) (by decide)), nI_clamp (n := k) (by omega), nI_clamp (n := k + 1) (by omega), gLet_e, gLet_e]
      · by_cases e : c = k
        · subst e
          rw [w_e, u1 (c + 1) (by omega), if_neg (by omega), if_pos (by omega)]
        · rw [w_n (by omega), u1 c hc]
          by_cases h : i ≤ c ∧ c < k
          · rw [if_pos h, if_pos (by omega)]
          · rw [if_neg h, if_neg (by omega)])
    (fun u hu => ⟨u, by
      show X7_drawInOrder_L106 a b (nI 3) u = _
      unfold X7_drawInOrder_L106
      rw [if_pos (by decide)], fun c hc => by
        rw [hu.2.1 c (by omega)]
        by_cases h : i ≤ c
        · rw [if_pos ⟨h, hc⟩, if_pos h]
        · rw [if_neg (by omega), if_neg h], hu.2.2⟩) X ⟨Nat.le_refl _, fun c hc => by rw [if_neg (by omega)], rfl, fun _ _ _ _ => rfl⟩
  exact ⟨X', e1, e2, e3, e4⟩
end OE
