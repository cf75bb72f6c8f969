/-! image, back -/
section IB
variable {n W H T K i j k t m nf nf' q q' NT : Nat} {M M' Mx Mm Mx' Mm' X Y Z : gM} {p v r : Int32} {w w' : Nat → Int32}
theorem j_imageO (h : SN m nf n W H T K Mx Mm) : ∃ r Mx' Mm', X10_image Mx = some (r, Mx') ∧ X11_image Mm = some (r, Mm') ∧ SN m nf n W H T K Mx' Mm' ∧ CXI Mx Mx' ∧ CMI Mm Mm' := by
  have hn := h.1.1.2.1
  obtain ⟨B, b1, b2, b3, b4⟩ := x0_copy (M := Mx) (i0 := 1) (i1 := 0) (by omega)
  obtain ⟨Y, c1, c2, c3⟩ := x11_copy (M := wI Mm 50 0 0 0) (i0 := 8) (i2 := 10) (a := 0) (b := 0) (by decide) (by decide) (by decide) (by decide)
  have c1 : X11_copyRow 8 0 10 0 (wI Mm 50 0 0 0) = some Y := c1
  have gX : ∀ a b c, ¬ ((33 ≤ a ∧ a ≤ 42 ∧ b = 1) ∨ (a = 0 ∧ b = 0 ∧ c = 14)) → (wI B 0 0 14 1).1 a b c = Mx.1 a b c := fun a b c hq => by rw [w_n (by omega), b3 a b c (by omega)]
  have gX2 : ∀ a b c, ¬ (a = 41 ∧ b = 1) → (wI B 0 0 14 1).2 a b c = Mx.2 a b c := fun a b c hq => by rw [r2_wI, b4 a b c hq]
  have gY : ∀ a b c, ¬ ((a = 52 ∧ b = 10) ∨ (a = 50 ∧ b = 0 ∧ (c = 0 ∨ c = 24))) → (wI Y 50 0 24 1).1 a b c = Mm.1 a b c := fun a b c hq => by rw [w_n (by omega), c3, if_neg (by omega), w_n (by omega)]
  have r' : RJ n W H T K 0 8 (wI B 0 0 14 1) (wI Y 50 0 24 1) := h.1.same (fun a b c hc => gX a b c (by omega)) (fun c => gX2 41 0 c (by omega)) (fun a b c hc => gY a b c (by omega))
  have fx : FX m n (tN W H T) 0 (Mm.1 52 8) Mx := ⟨h.1.2.2.2, h.2.1, h.2.2.1⟩
  obtain ⟨w1, w2⟩ := j_pairs (Or.inl rfl) (by omega) r'.2.1.1.1 r'.2.2.2.2.2.2.2
  refine ⟨nI (spc (lt1 0 (wI B 0 0 14 1)) 10), wI B 0 0 14 1, wI Y 50 0 24 1, ?_, ?_, ⟨r', h.2.1.same fun c => gX 36 0 c (by omega), h.2.2.1.same (gX 33 0 9 (by omega)) (fun c => gX 42 0 c (by omega)) (fun c _ => gY 52 8 c (by omega)), h.2.2.2.1.same (by omega) (Nat.le_refl _) (fun a b c hc => gX a b c (by omega)) (fun b c hb => gX2 41 b c (by omega)) (fun a b c hc => gY a b c (by omega)), Or.inr ⟨w_e, w_e, ?_⟩⟩, ⟨fun a b c hq => gX a b c (by omega), fun a b c hq => gX2 a b c (by omega)⟩, ⟨fun a b c hq => gY a b c (by omega), by rw [r2_wI, c2]; rfl⟩⟩
  · unfold X10_image
    rw [h.has, bind_e, if_neg (show ¬ (1 : Int32) = 0 by decide), b1, bind_e, gLet_e, w1]
    rfl
  · unfold X11_image
    rw [gLet_e, if_neg h.t0.n0.2, c1, bind_e, gLet_e, w2]
    rfl
  · exact FX.cp (by omega) fx ⟨fun a c hc => by rw [w_n (by omega), b2.1 a c hc], fun c hc => by rw [r2_wI, b2.2 c hc]⟩ (fun c => gX 10 1 c (by omega)) (fun c hc => by rw [w_n (by omega), c3, if_pos (by omega), w_n (by omega), Nat.zero_add, Nat.sub_zero])
theorem j_backO (h : SN m nf n W H T K Mx Mm) : ∃ r Mx' Mm', X10_back Mx = some (r, Mx') ∧ X11_back Mm = some (r, Mm') ∧ SN m nf n W H T K Mx' Mm' ∧ CXI Mx Mx' ∧ CMI Mm Mm' := by
  have hn := h.1.1.2.1
  unfold X10_back X11_back
  rw [gLet_e]
  rcases h.2.2.2.2 with ⟨i1, i2⟩ | ⟨i1, i2, fx⟩
  · rw [i1, if_pos rfl, w_n (by omega), i2, if_pos rfl]
    exact ⟨-1, Mx, _, rfl, rfl, h.t0, ⟨fun _ _ _ _ => rfl, fun _ _ _ _ => rfl⟩, ⟨fun a b c hq => w_n (by omega), rfl⟩⟩
  · obtain ⟨pp, hh, f, h1, h2, h3, h4, h5, h6, h7, h8, h9, h10⟩ := h.2.2.2.1
    rw [i1, if_neg (show ¬ (1 : Int32) = 0 by decide), w_n (by omega), i2, if_neg (show ¬ (1 : Int32) = 0 by decide)]
    obtain ⟨B, b1, b2, b3, b4⟩ := x0_copy (M := Mx) (i0 := 0) (i1 := 1) (by omega)
    obtain ⟨Y, c1, c2, c3⟩ := x11_copy (M := wI Mm 50 0 0 0) (i0 := 10) (i2 := 8) (a := 0) (b := 0) (by decide) (by decide) (by decide) (by decide)
    have c1 : X11_copyRow 10 0 8 0 (wI Mm 50 0 0 0) = some Y := c1
    have gY : ∀ a b c, ¬ ((a = 52 ∧ b = 8) ∨ (a = 50 ∧ b = 0 ∧ (c = 0 ∨ c = 23))) → (wI Y 50 0 23 0).1 a b c = Mm.1 a b c := fun a b c hq => by rw [w_n (by omega), c3, if_neg (by omega), w_n (by omega)]
    have fB : FX m n (tN W H T) 0 (Mm.1 52 10) B := FX.cp (by omega) fx b2 (fun c => b3 10 1 c (by omega)) (fun _ _ => rfl)
    obtain ⟨X2, f1, f2, f3, f4, f5⟩ := j_fit0 (Y := wI Y 50 0 23 0) (h.1.1.of fun a b c hh => b3 a b c (by omega)) (h.1.2.1.of (fun c t => ⟨fun _ => b3 5 1 c (by omega), b3 8 1 t (by omega), b3 9 1 t (by omega), b3 7 1 t (by omega)⟩) (fun b c hb => gY 52 b c (by omega)) ⟨gY 50 0 16 (by omega), gY 50 0 29 (by omega), gY 50 0 30 (by omega)⟩) fB
      (fun t ht => FTO.of h.1.2.2.1 ht fun a b c hq => b3 a b c (by omega)) (fun c hc => by rw [w_n (by omega), c3, if_pos (by omega), w_n (by omega), Nat.zero_add, Nat.sub_zero])
    have gX : ∀ a b c, ¬ ((19 ≤ a ∧ a ≤ 27) ∨ (33 ≤ a ∧ a ≤ 42 ∧ b = 0) ∨ a = 43) → (wI (wI X2 43 0 1 0) 43 0 2 0).1 a b c = Mx.1 a b c := fun a b c hq => by rw [w_n (by omega), w_n (by omega), f2.2 a b c (by omega), b3 a b c (by omega)]
    have gX2 : ∀ a b c, ¬ (a = 41 ∧ b = 0) → (wI (wI X2 43 0 1 0) 43 0 2 0).2 a b c = Mx.2 a b c := fun a b c hq => by rw [r2_wI, r2_wI, f2.1, b4 a b c hq]
    have r' : RJ n W H T K 0 8 (wI (wI X2 43 0 1 0) 43 0 2 0) (wI Y 50 0 23 0) := f3.same (fun a b c hc => by rw [w_n (by omega), w_n (by omega)]) (fun c => rfl) (fun _ _ _ _ => rfl)
    obtain ⟨w1, w2⟩ := j_pairs (Or.inl rfl) (by omega) r'.2.1.1.1 r'.2.2.2.2.2.2.2
    refine ⟨nI (spc (lt1 0 (wI (wI X2 43 0 1 0) 43 0 2 0)) 10), wI (wI X2 43 0 1 0) 43 0 2 0, wI Y 50 0 23 0, ?_, ?_, ⟨r', f4.same fun c => by rw [w_n (by omega), w_n (by omega)], f5.same (by rw [w_n (by omega), w_n (by omega)]) (fun c => by rw [w_n (by omega), w_n (by omega)]) (fun _ _ => rfl), ⟨0, 0, f, by omega, by omega, by omega, h4, by omega, by rw [w_n (by omega), w_e]; rfl, w_e, by rw [gY 50 0 22 (by omega)]; exact h8, w_e, fun k hk => absurd hk (by omega)⟩, h.2.2.2.2.same (by omega) (Nat.le_refl _) (fun a b c hc => gX a b c (by omega)) (fun c => gX2 41 1 c (by omega)) (fun a b c hc => gY a b c (by omega))⟩, ⟨fun a b c hq => gX a b c (by omega), fun a b c hq => gX2 a b c (by omega)⟩, ⟨fun a b c hq => gY a b c (by omega), by rw [r2_wI, c2]; rfl⟩⟩
    · rw [b1, bind_e, f1, bind_e]
      unfold X2_forget
      rw [gLet_e, gLet_e, bind_e, w1]
      rfl
    · rw [c1, bind_e, gLet_e, w2]
      rfl
theorem J.img (h : J q nf Mx Mm) (s : SN (40 * q) nf n W H T K Mx' Mm') (cx : CXI Mx Mx') (cm : CMI Mm Mm') : J q nf Mx' Mm' :=
  ⟨h.1, h.2.1.same (fun a b c hc => cx.1 a b c (by omega)) (fun a b c hc => cm.1 a b c (by omega)), h.2.2.1.same (fun a b c hc => cx.1 a b c (by omega)) (fun a b c hc => cm.1 a b c (by omega)), fun k hk => by rw [cx.1 48 0 k (by omega), cm.1 52 7 k (by omega)]; exact h.2.2.2.1 k hk, Or.inr ⟨n, W, H, T, K, s⟩⟩
theorem O24 : O_24 Iv := fun q nf M hq hI => by
  refine glue1 (F := fun M => X10_undo nf M) (G := fun M => X11_undo M) (fun Mx Mm h => ?_) hI
  rcases h.2.2.2.2 with hN | ⟨n, W, H, T, K, hS⟩
  · refine ⟨-1, Mx, wI Mm 50 0 0 0, ?_, ?_, h.t0.mono (by omega), GX.rf, GM.t0⟩
    · show X10_undo nf Mx = _
      unfold X10_undo
      rw [if_pos hN.2.2.2.2.2.2.2.2.1]
    · show X11_undo Mm = _
      unfold X11_undo
      rw [gLet_e, if_pos hN.t0.2.2.2.2.2.2.2.2.2.1]
  · obtain ⟨r, X', Y', e1, e2, e5, e7, e8⟩ := j_undoO h.1 hS
    exact ⟨r, X', Y', e1, e2, (h.img e5 e7 e8).mono (by omega), e7.g, e8.g⟩
theorem O38 : O_38 Iv := fun q nf M hq hI => by
  refine glue1 (F := fun M => X10_image M) (G := fun M => X11_image M) (fun Mx Mm h => ?_) hI
  rcases h.2.2.2.2 with hN | ⟨n, W, H, T, K, hS⟩
  · refine ⟨-1, Mx, wI Mm 50 0 0 0, ?_, ?_, h.t0.mono (by omega), GX.rf, GM.t0⟩
    · show X10_image Mx = _
      unfold X10_image
      rw [hN.has, bind_e, if_pos rfl]
    · show X11_image Mm = _
      unfold X11_image
      rw [gLet_e, if_pos hN.t0.2.1]
  · obtain ⟨r, X', Y', e1, e2, e5, e7, e8⟩ := j_imageO hS
    exact ⟨r, X', Y', e1, e2, (h.img e5 e7 e8).mono (by omega), e7.g, e8.g⟩
theorem O39 : O_39 Iv := fun q nf M hq hI => by
  refine glue1 (F := fun M => X10_back M) (G := fun M => X11_back M) (fun Mx Mm h => ?_) hI
  rcases h.2.2.2.2 with hN | ⟨n, W, H, T, K, hS⟩
  · refine ⟨-1, Mx, wI Mm 50 0 0 0, ?_, ?_, h.t0.mono (by omega), GX.rf, GM.t0⟩
    · show X10_back Mx = _
      unfold X10_back
      rw [if_pos hN.2.2.2.2.2.2.2.2.2.2.1]
    · show X11_back Mm = _
      unfold X11_back
      rw [gLet_e, if_pos hN.t0.2.2.2.2.2.2.2.2.2.2.2.1]
  · obtain ⟨r, X', Y', e1, e2, e5, e7, e8⟩ := j_backO hS
    exact ⟨r, X', Y', e1, e2, (h.img e5 e7 e8).mono (by omega), e7.g, e8.g⟩
end IB
