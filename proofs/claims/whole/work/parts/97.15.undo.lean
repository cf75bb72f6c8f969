/-! undo, image, back -/
section UN
variable {n W H T K i j k t m nf nf' q q' NT : Nat} {M M' Mx Mm Mx' Mm' X Y Z : gM} {p v r : Int32} {w w' : Nat → Int32}
/-- what image and back may change -/
def CXI (X X' : gM) : Prop := (∀ a b c, ¬ ((19 ≤ a ∧ a ≤ 27) ∨ (33 ≤ a ∧ a ≤ 42 ∧ (b = 0 ∨ b = 1)) ∨ a = 43 ∨ (a = 0 ∧ b = 0 ∧ c = 14)) → X'.1 a b c = X.1 a b c) ∧ ∀ a b c, ¬ (a = 41 ∧ (b = 0 ∨ b = 1)) → X'.2 a b c = X.2 a b c
def CMI (Y Y' : gM) : Prop := (∀ a b c, ¬ ((a = 52 ∧ (b = 8 ∨ b = 10)) ∨ (a = 50 ∧ b = 0 ∧ (c = 0 ∨ c = 23 ∨ c = 24))) → Y'.1 a b c = Y.1 a b c) ∧ Y'.2 = Y.2
theorem CXI.g (h : CXI Mx Mx') : GX Mx Mx' := fun a b c hc => ⟨h.1 a b c (by omega), h.2 a b c (by omega)⟩
theorem CMI.g (h : CMI Mm Mm') : GM Mm Mm' := fun a b c hc => ⟨h.1 a b c (by omega), by rw [h.2]⟩
theorem CXI.rf : CXI Mx Mx := ⟨fun _ _ _ _ => rfl, fun _ _ _ _ => rfl⟩
theorem CMI.t0 : CMI Mm (wI Mm 50 0 0 v) := ⟨fun a b c hq => w_n (by omega), rfl⟩
theorem FTO.of (h : SHi n W H T K i M) (ht : t < n) (g : ∀ a b c, (19 ≤ a ∧ a ≤ 27) ∨ (7 ≤ a ∧ a ≤ 10 ∧ b = 1) → M'.1 a b c = M.1 a b c) : FTO W H T K t M' := by
  refine Or.inr ⟨ct M i t, fun k hk => by unfold ct; rw [if_neg (by omega)], ?_⟩
  rw [zt_of (fun c => g 10 1 c (by omega)), g 7 1 t (by omega), g 8 1 t (by omega)]
  exact (h t ht).keep (fun a c h1 h2 => g a t c (by omega))
/-- the shapes fitted to the live frame again -/
theorem j_fit0 (hs : SCx n W H T K X) (hm : SCm n W H T K X Y) (hf : FX m n (tN W H T) 0 w X) (ft : ∀ t, t < n → FTO W H T K t X) (hw : ∀ c, c < 1242 → Y.1 52 8 c = w c) :
    ∃ X2, X9_fit 0 X = some X2 ∧ OQ (fun a _ _ => 19 ≤ a ∧ a ≤ 27) X X2 ∧ RJ n W H T K 0 8 X2 Y ∧ PN 0 X2 ∧ LGR m 0 (Y.1 52 8) X2 := by
  have hn := hs.2.1
  obtain ⟨X2, e1, o1, s1⟩ := x9_fit hs hf.1.1 ft
  have g : ∀ a b c, ¬ (19 ≤ a ∧ a ≤ 27) → X2.1 a b c = X.1 a b c := o1.2
  have f2 : FX m n (tN W H T) 0 (Y.1 52 8) X2 := FX.cp (by omega) hf (cpx_of (fun a c h1 h2 => g a 0 c (by omega)) (fun c => by rw [o1.1])) (fun c => g 10 1 c (by omega)) hw
  exact ⟨X2, e1, o1, ⟨hs.of (fun a b c hh => g a b c (by omega)), hm.of (fun c t => ⟨fun _ => g 5 1 c (by omega), g 8 1 t (by omega), g 9 1 t (by omega), g 7 1 t (by omega)⟩) (fun _ _ _ => rfl) ⟨rfl, rfl, rfl⟩, s1, f2.1⟩, f2.2.1, f2.2.2⟩
theorem j_undoO (hnf : nf ≤ 40) (h : SN m nf n W H T K Mx Mm) : ∃ r Mx' Mm', X10_undo nf Mx = some (r, Mx') ∧ X11_undo Mm = some (r, Mm') ∧ SN m nf n W H T K Mx' Mm' ∧ CXI Mx Mx' ∧ CMI Mm Mm' := by
  have hn := h.1.1.2.1
  obtain ⟨pp, hh, f, h1, h2, h3, h4, h5, h6, h7, h8, h9, h10⟩ := h.2.2.2.1
  have h0 := h.t0 (v := 0)
  have y9 : (wI Mm 50 0 0 0).1 50 0 23 = nI hh := by rw [w_n (by omega)]; exact h9
  unfold X10_undo X11_undo
  rw [gLet_e, h7, y9]
  by_cases hz : hh = 0
  · subst hz
    rw [if_pos (by decide), if_pos (by decide)]
    exact ⟨-1, Mx, _, rfl, rfl, h0, CXI.rf, CMI.t0⟩
  · have n0 : ¬ nI hh = 0 := nI_ne0 (by omega) (by omega)
    rw [if_neg n0, if_neg n0, gLet_e]
    -- the class
    have er : X2_restore nf 0 Mx = X2_restore_J19 nf 0 (nI ((pp + 39) % 40)) Mx := by
      unfold X2_restore
      rw [h6]
      by_cases hp : pp = 0
      · subst hp
        rw [if_pos (by decide)]
        rfl
      · rw [if_neg (show ¬ nI pp ≤ (0 : Int32) from nI_ge (a := 0) (b := pp) (by omega) (by omega)), nlit 1, nI_sub (by omega), show (pp + 39) % 40 = pp - 1 by omega]
    have hp' : (pp + 39) % 40 < nf := by omega
    have hp40 : (pp + 39) % 40 < 40 := Nat.mod_lt _ (by decide)
    generalize hP : (pp + 39) % 40 = P at er hp' hp40
    obtain ⟨B, b1, b2, b3, b4⟩ := x0_copy (M := wI Mx 43 0 1 (nI P)) (i0 := 0) (i1 := P + 3) (by omega)
    have b43 : B.1 43 0 2 = nI hh := by rw [b3 43 0 2 (by omega), w_n (by omega)]; exact h7
    have eC : X2_restore_J19 nf 0 (nI P) Mx = some (wI B 43 0 2 (nI (hh - 1))) := by
      unfold X2_restore_J19
      rw [gLet_e, w_e, gG_t (gin_n (k := P) (by omega) (by decide)), nI_clamp (by omega), gG_t (decide_eq_true hp'), b1, bind_e, gLet_e, b43, nlit 1, nI_sub (by omega)]
    have gC : ∀ a b c, ¬ ((33 ≤ a ∧ a ≤ 42 ∧ b = 0) ∨ a = 43) → (wI B 43 0 2 (nI (hh - 1))).1 a b c = Mx.1 a b c := fun a b c hq => by rw [w_n (by omega), b3 a b c (by omega), w_n (by omega)]
    have gC2 : ∀ a b c, ¬ (a = 41 ∧ b = 0) → (wI B 43 0 2 (nI (hh - 1))).2 a b c = Mx.2 a b c := fun a b c hq => by rw [r2_wI, b4 a b c hq, r2_wI]
    have fx : FX m n (tN W H T) (P + 3) (fun c => Mm.1 52 11 (1242 * ((f + (hh - 1)) % 40) + c)) Mx := by
      have := h10 (hh - 1) (by omega)
      rw [show 3 + (pp + 40 - hh + (hh - 1)) % 40 = P + 3 by omega] at this
      exact this
    have fC : FX m n (tN W H T) 0 (fun c => Mm.1 52 11 (1242 * ((f + (hh - 1)) % 40) + c)) (wI B 43 0 2 (nI (hh - 1))) := FX.cp (by omega) fx ⟨fun a c hc => by rw [w_n (by omega), b2.1 a c hc, w_n (by omega)], fun c hc => by rw [r2_wI, b2.2 c hc, r2_wI]⟩ (fun c => gC 10 1 c (by omega)) (fun _ _ => rfl)
    -- the reference
    have hF : (f + (hh - 1)) % 40 < 40 := Nat.mod_lt _ (by decide)
    obtain ⟨Y, c1, c2, c3⟩ := x11_copy (M := wI (wI Mm 50 0 0 0) 50 0 23 (nI (hh - 1))) (i0 := 11) (i2 := 8) (a := 1242 * ((f + (hh - 1)) % 40)) (b := 0) (by decide) (by show 1242 * ((f + (hh - 1)) % 40) + 1242 ≤ 49680; omega) (by decide) (by decide)
    have gY : ∀ a b c, ¬ ((a = 52 ∧ b = 8) ∨ (a = 50 ∧ b = 0 ∧ (c = 0 ∨ c = 23))) → Y.1 a b c = Mm.1 a b c := fun a b c hq => by rw [c3, if_neg (by omega), w_n (by omega), w_n (by omega)]
    have y23 : Y.1 50 0 23 = nI (hh - 1) := by rw [c3, if_neg (by omega), w_e]
    have y22 : (wI (wI Mm 50 0 0 0) 50 0 23 (nI (hh - 1))).1 50 0 22 = nI f := by rw [w_n (by omega), w_n (by omega)]; exact h8
    obtain ⟨X2, f1, f2, f3, f4, f5⟩ := j_fit0 (Y := Y) (h.1.1.of fun a b c hh => gC a b c (by omega)) (h.1.2.1.of (fun c t => ⟨fun _ => gC 5 1 c (by omega), gC 8 1 t (by omega), gC 9 1 t (by omega), gC 7 1 t (by omega)⟩) (fun b c hb => gY 52 b c (by omega)) ⟨gY 50 0 16 (by omega), gY 50 0 29 (by omega), gY 50 0 30 (by omega)⟩) fC
      (fun t ht => FTO.of h.1.2.2.1 ht fun a b c hq => gC a b c (by omega)) (fun c hc => by rw [c3, if_pos (by omega), w_n (by omega), w_n (by omega)]; rfl)
    have gX : ∀ a b c, ¬ ((19 ≤ a ∧ a ≤ 27) ∨ (33 ≤ a ∧ a ≤ 42 ∧ b = 0) ∨ a = 43) → X2.1 a b c = Mx.1 a b c := fun a b c hq => by rw [f2.2 a b c (by omega), gC a b c (by omega)]
    have gX2 : ∀ a b c, ¬ (a = 41 ∧ b = 0) → X2.2 a b c = Mx.2 a b c := fun a b c hq => by rw [f2.1, gC2 a b c hq]
    have x43 : X2.1 43 0 2 = nI (hh - 1) := by rw [f2.2 43 0 2 (by omega), w_e]
    have x431 : X2.1 43 0 1 = nI P := by rw [f2.2 43 0 1 (by omega), w_n (by omega), b3 43 0 1 (by omega), w_e]
    refine ⟨nI (hh - 1), X2, Y, ?_, ?_, ⟨f3, f4, f5, ?_, ?_⟩, ⟨fun a b c hq => gX a b c (by omega), fun a b c hq => gX2 a b c (by omega)⟩, ⟨fun a b c hq => gY a b c (by omega), by rw [c2]; rfl⟩⟩
    · rw [er, eC, bind_e, f1, bind_e, x43]
    · rw [nlit 1, nI_sub (by omega), y22, w_e, nI_add, nlit 40, nI_rem (by omega) (by decide), nlit 1242, nI_mul]
      have c1 : X11_copyRow 11 (nI (1242 * ((f + (hh - 1)) % 40))) 8 0 (wI (wI Mm 50 0 0 0) 50 0 23 (nI (hh - 1))) = some Y := c1
      rw [c1, bind_e, y23]
    · refine ⟨P, hh - 1, f, hp40, by omega, by omega, h4, by omega, x431, x43, by rw [gY 50 0 22 (by omega)]; exact h8, y23, fun k hk => ?_⟩
      have e := h10 k (by omega)
      rw [show 3 + (pp + 40 - hh + k) % 40 = 3 + (P + 40 - (hh - 1) + k) % 40 by omega] at e
      exact FX.cp (by omega) e (cpx_of (fun a c g1 g2 => gX a _ c (by omega)) (fun c => gX2 41 _ c (by omega))) (fun c => gX 10 1 c (by omega)) (fun c hc => gY 52 11 _ (by omega))
    · exact h.2.2.2.2.same (by omega) (Nat.le_refl _) (fun a b c hc => gX a b c (by omega)) (fun c => gX2 41 1 c (by omega)) (fun a b c hc => gY a b c (by omega))
end UN
