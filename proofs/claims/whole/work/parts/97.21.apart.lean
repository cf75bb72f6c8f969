/-! the frame apart: run, shown, whole; step -/
section AP
variable {n W H T K i j k t m nf nf' q q' L s l : Nat} {M M' Mx Mm Mx' Mm' X Y X' Y' : gM} {p p1 p2 p3 v r : Int32}
/-- what a study may change -/
def SX (X X' : gM) : Prop := (∀ a b c, ¬ ((19 ≤ a ∧ a ≤ 32) ∨ (33 ≤ a ∧ a ≤ 42 ∧ b = 2)) → X'.1 a b c = X.1 a b c) ∧ ∀ a b c, ¬ (a = 41 ∧ b = 2) → X'.2 a b c = X.2 a b c
def SM (Y Y' : gM) : Prop := (∀ a b c, ¬ ((a = 52 ∧ (b = 9 ∨ (12 ≤ b ∧ b ≤ 19))) ∨ (a = 50 ∧ b = 0 ∧ (c = 28 ∨ c = 31))) → Y'.1 a b c = Y.1 a b c) ∧ Y'.2 = Y.2
theorem SX.rf : SX X X := ⟨fun _ _ _ _ => rfl, fun _ _ _ _ => rfl⟩
theorem SM.rf : SM X X := ⟨fun _ _ _ _ => rfl, rfl⟩
theorem SX.tr {X'' : gM} (h : SX X X') (h' : SX X' X'') : SX X X'' := ⟨fun a b c hq => (h'.1 a b c hq).trans (h.1 a b c hq), fun a b c hq => (h'.2 a b c hq).trans (h.2 a b c hq)⟩
theorem SM.tr {Y'' : gM} (h : SM Y Y') (h' : SM Y' Y'') : SM Y Y'' := ⟨fun a b c hq => (h'.1 a b c hq).trans (h.1 a b c hq), h'.2.trans h.2⟩
theorem SX.g (h : SX X X') : GX X X' := fun a b c hc => ⟨h.1 a b c (by omega), h.2 a b c (by omega)⟩
theorem SM.g (h : SM Y Y') : GM Y Y' := fun a b c hc => ⟨h.1 a b c (by omega), by rw [h.2]⟩
theorem JD.sx (h : JD n W H T K 2 9 X Y X' Y') : SX X X' ∧ SM Y Y' := by
  refine ⟨⟨fun a b c hq => h.2.1.1 a b c (by unfold xB; omega), fun a b c hq => h.2.1.2 a b c hq⟩, ⟨fun a b c hq => h.2.2.1.2 a b c (by unfold mB; omega), h.2.2.1.1⟩⟩
theorem OPXi.sx (h : OPXi 2 X X') : SX X X' := ⟨fun a b c hq => h.1 a b c (by unfold opXi; omega), h.2⟩
theorem OPMj.sm (h : OPMj 9 Y Y') : SM Y Y' := ⟨fun a b c hq => h.2 a b c (by unfold opMj; omega), h.1⟩
theorem SameA.sm (h : SameA Y Y') : SM Y Y' := ⟨fun a b c hq => h.2 a b c (by omega), h.1⟩
/-- the live frame copied apart -/
theorem SN.apart (h : SN m nf n W H T K Mx Mm) : ∃ X Y, X0_copyFrom 2 0 Mx = some X ∧ X11_copyRow 8 0 9 0 Mm = some Y ∧ RJ n W H T K 2 9 X Y ∧ PN 2 X ∧ SX Mx X ∧ SM Mm Y ∧ (∀ a b c, ¬ (33 ≤ a ∧ a ≤ 42 ∧ b = 2) → X.1 a b c = Mx.1 a b c) ∧ ∀ c, c < 256 → X.1 36 2 c = Mx.1 36 0 c := by
  have hn := h.1.1.2.1
  obtain ⟨B, b1, b2, b3, b4⟩ := x0_copy (M := Mx) (i0 := 2) (i1 := 0) (by omega)
  obtain ⟨Y, c1, c2, c3⟩ := x11_copy (M := Mm) (i0 := 8) (i2 := 9) (a := 0) (b := 0) (by decide) (by decide) (by decide) (by decide)
  have c1 : X11_copyRow 8 0 9 0 Mm = some Y := c1
  have gY : ∀ a b c, ¬ (a = 52 ∧ b = 9) → Y.1 a b c = Mm.1 a b c := fun a b c hq => by rw [c3, if_neg (by omega)]
  have fx : FX m n (tN W H T) 0 (Mm.1 52 8) Mx := ⟨h.1.2.2.2, h.2.1, h.2.2.1⟩
  have f2 : FX m n (tN W H T) 2 (Y.1 52 9) B := FX.cp (by omega) fx b2 (fun c => b3 10 1 c (by omega)) (fun c hc => by rw [c3, if_pos (by omega), Nat.zero_add, Nat.sub_zero])
  refine ⟨B, Y, b1, c1, ⟨h.1.1.of fun a b c hh => b3 a b c (by omega), h.1.2.1.of (fun c t => ⟨fun _ => b3 5 1 c (by omega), b3 8 1 t (by omega), b3 9 1 t (by omega), b3 7 1 t (by omega)⟩) (fun b c hb => gY 52 b c (by omega)) ⟨gY 50 0 16 (by omega), gY 50 0 29 (by omega), gY 50 0 30 (by omega)⟩, fun t ht => ?_, f2.1⟩, f2.2.1, ⟨fun a b c hq => b3 a b c (by omega), b4⟩, ⟨fun a b c hq => gY a b c (by omega), c2⟩, b3, fun c hc => b2.1 36 c (by omega)⟩
  have ec : ct B 2 t = ct Mx 0 t := by
    funext k
    unfold ct
    by_cases hk : k < 6
    · rw [if_pos hk, if_pos hk, b2.1 39 _ (by omega)]
    · rw [if_neg hk, if_neg hk]
  rw [ec, zt_of (fun c => b3 10 1 c (by omega)), b3 7 1 t (by omega), b3 8 1 t (by omega)]
  exact (h.1.2.2.1 t ht).keep (fun a c h1 h2 => b3 a t c (by omega))
/-- a study is over: shapes as they were -/
theorem SN.over (h : SN m nf n W H T K Mx Mm) (sx : SX Mx X) (sm : SM Mm Y) (sh : SHi n W H T K 0 X) : SN m nf n W H T K X Y := by
  obtain ⟨hr, hp, hl, hh, hi⟩ := h
  have hn := hr.1.2.1
  have gx := sx.1
  have gm := sm.1
  have fr := hr.2.2.2
  refine ⟨⟨hr.1.of fun a b c hc => gx a b c (by omega), hr.2.1.of (fun c t => ⟨fun _ => gx 5 1 c (by omega), gx 8 1 t (by omega), gx 9 1 t (by omega), gx 7 1 t (by omega)⟩) (fun b c hb => gm 52 b c (by omega)) ⟨gm 50 0 16 (by omega), gm 50 0 29 (by omega), gm 50 0 30 (by omega)⟩, sh,
    fr.1.of (fun c => gx 39 0 c (by omega)) (fun c => gx 10 1 c (by omega)) (fun c h1 h2 => gm 52 8 c (by omega)), fr.2.1.of (fun c => gx 40 0 c (by omega)) (fun c h1 h2 => gm 52 8 c (by omega)), fr.2.2.1.of (fun a c ha => gx a 0 c (by omega)) (fun c hc => gm 52 8 c (by omega)), fr.2.2.2.1.of (fun a c ha => gx a 0 c (by omega)) (fun c h1 h2 => gm 52 8 c (by omega)), fr.2.2.2.2.of (by omega) (fun c => sx.2 41 0 c (by omega)) (fun c h1 h2 => gx 33 0 c (by omega)) (fun c h1 h2 => gm 52 8 c (by omega))⟩,
    hp.same fun c => gx 36 0 c (by omega), hl.same (gx 33 0 9 (by omega)) (fun c => gx 42 0 c (by omega)) (fun c _ => gm 52 8 c (by omega)), hh.same (by omega) (Nat.le_refl _) (fun a b c hc => gx a b c (by omega)) (fun b c hb => sx.2 41 b c (by omega)) (fun a b c hc => gm a b c (by omega)), hi.same (by omega) (Nat.le_refl _) (fun a b c hc => gx a b c (by omega)) (fun c => sx.2 41 1 c (by omega)) (fun a b c hc => gm a b c (by omega))⟩
theorem SN.refit (h : SN m nf n W H T K Mx Mm) (sx : SX Mx X) (sm : SM Mm Y) (sh : SHi n W H T K 2 X) : ∃ X', X9_fit 0 X = some X' ∧ SX X X' ∧ SN m nf n W H T K X' Y ∧ (∀ a b c, ¬ (19 ≤ a ∧ a ≤ 27) → X'.1 a b c = X.1 a b c) ∧ X'.2 = X.2 := by
  have gx := sx.1
  obtain ⟨X', e1, o1, s1⟩ := x9_fit (i := 0) (w := Mm.1 52 8) (h.1.1.of fun a b c hc => gx a b c (by omega)) (h.1.2.2.2.1.of (fun c => gx 39 0 c (by omega)) (fun c => gx 10 1 c (by omega)) (fun _ _ _ => rfl)) (fun t ht => FTO.of sh ht fun _ _ _ _ => rfl)
  have s2 : SX X X' := ⟨fun a b c hq => o1.2 a b c (by omega), fun a b c _ => by rw [o1.1]⟩
  exact ⟨X', e1, s2, h.over (sx.tr s2) sm s1, o1.2, o1.1⟩
/-- shapes that were not touched -/
theorem SN.over0 (h : SN m nf n W H T K Mx Mm) (sx : SX Mx X) (sm : SM Mm Y) (g : ∀ a b c, 19 ≤ a → a ≤ 27 → X.1 a b c = Mx.1 a b c) : SN m nf n W H T K X Y :=
  h.over sx sm fun t ht => by
    rw [ct_of (fun c => sx.1 39 0 c (by omega)), zt_of (fun c => sx.1 10 1 c (by omega)), sx.1 7 1 t (by omega), sx.1 8 1 t (by omega)]
    exact (h.1.2.2.1 t ht).keep (fun a c h1 h2 => g a t c h1 h2)
theorem J.study (h : J q nf Mx Mm) (s : SN (40 * q) nf n W H T K X Y) (sx : SX Mx X) (sm : SM Mm Y) : J q nf X Y :=
  ⟨h.1, h.2.1.same (fun a b c hc => sx.1 a b c (by omega)) (fun a b c hc => sm.1 a b c (by omega)), h.2.2.1.same (fun a b c hc => sx.1 a b c (by omega)) (fun a b c hc => sm.1 a b c (by omega)), fun k hk => by rw [sx.1 48 0 k (by omega), sm.1 52 7 k (by omega)]; exact h.2.2.2.1 k hk, Or.inr ⟨n, W, H, T, K, s⟩⟩
theorem x3_nos (hk : k ≤ 8) : X3_numbersOfStep (nI k) M = some (nI (nst k)) := by
  unfold X3_numbersOfStep
  rcases (show k = 0 ∨ k = 1 ∨ k = 2 ∨ k = 3 ∨ k = 4 ∨ k = 5 ∨ k = 6 ∨ k = 7 ∨ k = 8 by omega) with rfl | rfl | rfl | rfl | rfl | rfl | rfl | rfl | rfl <;> rfl
theorem O26 : O_26 Iv := fun q nf M a1 a2 a3 hq hI => by
  refine qq (F := fun M => X10_step a1 a2 a3 M) (G := fun M => X11_step a1 a2 a3 M) (fun Mx Mm h => ?_) hI
  have h0 := h.t0 (v := 0)
  show ∃ r Mm', X10_step a1 a2 a3 Mx = some r ∧ X11_step a1 a2 a3 Mm = some (r, Mm') ∧ SameA (wI Mm 50 0 0 0) Mm'
  unfold X11_step
  rw [gLet_e]
  revert h0
  generalize wI Mm 50 0 0 0 = Y
  intro h0
  unfold X10_step
  obtain ⟨ns, s1, s2, s3, s4⟩ := h0.2.2.1
  rcases x10_hasS s1 s2 s3 a1 with ⟨e1, e2⟩ | ⟨e1, e2, s, hs', rfl⟩
  · rw [e1, e2, bind_e, bind_e, if_pos rfl, if_pos rfl]
    exact ⟨_, Y, rfl, rfl, SameA.rf Y⟩
  · obtain ⟨L, g1, g2, g3, g4⟩ := s4 s hs'
    rw [e1, e2, bind_e, bind_e, if_neg (show ¬ (1 : Int32) = 0 by decide), if_neg (show ¬ (1 : Int32) = 0 by decide), gG_t (gin_n (k := s) (by omega) (by decide)), gG_t (gin_n (k := s) (by omega) (by decide)), gG_t (gin_n (k := s) (by omega) (by decide)), gG_t (gin_n (k := s) (by omega) (by decide)), nI_clamp (by omega), g2, g3]
    by_cases hz : L = 0
    · subst hz
      have e0 : X11_isIn a2.toInt64 0 (nI 0 - 1).toInt64 Y = some 0 := by
        have a0 : (0 : Int64).toInt = 0 := rfl
        have e1 : (nI 0 - 1 : Int32).toInt = -1 := rfl
        rw [x11_isIn, a0, Int32.toInt_toInt64, e1, if_neg (by omega)]
      rw [e0, bind_e, if_pos rfl]
      by_cases c0 : a2 < 0
      · rw [if_pos c0]; exact ⟨_, Y, rfl, rfl, SameA.rf Y⟩
      · rw [if_neg c0, if_neg (show ¬ a2 < nI 0 from c0)]; exact ⟨_, Y, rfl, rfl, SameA.rf Y⟩
    · rcases rng (n := L) (by omega) (by omega) (nI_p1 (by omega) (by omega)) a2 Y with ⟨o, e⟩ | ⟨e, o1, o2, -, -, l, hl, rfl⟩
      · rw [e, bind_e, if_pos rfl]
        rcases o with o | o
        · rw [if_pos o]; exact ⟨_, Y, rfl, rfl, SameA.rf Y⟩
        · rw [if_neg o.1, if_neg (Int32.not_lt.mpr o.2.1)]; exact ⟨_, Y, rfl, rfl, SameA.rf Y⟩
      · obtain ⟨k, hk, z1, z2, z3⟩ := g4 l hl
        have z1 : Mx.1 47 s (5 * l) = nI k := z1
        have z2 : Y.1 52 5 (5 * (12 * s + l)) = nI k := z2
        rw [e, bind_e, if_neg (show ¬ (1 : Int32) = 0 by decide), if_neg o1, if_pos (Int32.not_le.mp o2), x5_kind hl g1 g2, bind_e, z1, x3_nos hk, bind_e]
        rcases rng (n := 5) (hi := 4) (by omega) (by omega) rfl a3 Y with ⟨o, e⟩ | ⟨e, o3, -, -, -, c, hc, rfl⟩
        · rw [e, bind_e, if_pos rfl]
          rcases o with o | o
          · rw [if_pos o]; exact ⟨_, Y, rfl, rfl, SameA.rf Y⟩
          · have hb : nst k ≤ 4 := by unfold nst; split <;> (try split) <;> omega
            rw [if_neg o.1, if_neg (show ¬ a3 ≤ nI (nst k) from fun z => o.2.2.2 (Int32.le_trans z (nI_le hb (by omega))))]; exact ⟨_, Y, rfl, rfl, SameA.rf Y⟩
        · have em : (5 : Int32) * ((12 * nI s) + nI l) + nI c = nI (5 * (12 * s + l) + c) := by rw [nlit 12, nI_mul, nI_add, nlit 5, nI_mul, nI_add]
          have ex : nI l * 5 + nI c = nI (5 * l + c) := by rw [nlit 5, nI_mul, nI_add, Nat.mul_comm]
          rw [e, bind_e, if_neg (show ¬ (1 : Int32) = 0 by decide), if_neg o3, em, ex, gG_t (gin_n (k := 5 * l + c) (by omega) (by decide)), gG_t (gin_n (k := 5 * (12 * s + l) + c) (by omega) (by decide)), nI_clamp (n := 5 * l + c) (by omega), nI_clamp (n := 5 * (12 * s + l) + c) (by omega)]
          by_cases hc2 : c ≤ nst k
          · rw [if_pos (nI_le hc2 (by unfold nst; split <;> (try split) <;> omega))]
            by_cases c0 : c = 0
            · subst c0
              rw [Nat.add_zero, Nat.add_zero, z1, z2]
              exact ⟨_, Y, rfl, rfl, SameA.rf Y⟩
            · have zc : Y.1 52 5 (5 * (12 * s + l) + c) = Mx.1 47 s (5 * l + c) := (z3 c (by omega) hc).1 hc2
              rw [zc]
              exact ⟨_, Y, rfl, rfl, SameA.rf Y⟩
          · have z4 : Y.1 52 5 (5 * (12 * s + l) + c) = -1000000000 := (z3 c (by omega) hc).2 (by omega)
            rw [if_neg (nI_ge (by omega) (by omega)), z4]
            exact ⟨_, Y, rfl, rfl, SameA.rf Y⟩
end AP
