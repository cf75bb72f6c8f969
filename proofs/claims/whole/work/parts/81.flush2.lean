/-! a tile flushed, all tiles flushed -/
section FF
variable {n W H T K i j k t tl x y s : Nat} {M M' Mx Mm Mx' Mm' : gM}
theorem w_comm {r k' : Nat} {c v : Int32} (h : ¬ (r = 33 ∧ k' = 12)) : wI (wI M 33 i 12 c) r i k' v = wI (wI M r i k' v) 33 i 12 c := by
  apply Prod.ext
  · funext a b d
    show (wI (wI M 33 i 12 c) r i k' v).1 a b d = (wI (wI M r i k' v) 33 i 12 c).1 a b d
    rw [r1_wI, r1_wI, r1_wI, r1_wI]
    by_cases h1 : a = r ∧ b = i ∧ d = k'
    · rw [if_pos h1, if_neg (by omega), if_pos h1]
    · rw [if_neg h1, if_neg h1]
  · rfl
theorem sh_comm (p c : Int32) : X9_shadePending i p (wI M 33 i 12 c) = (X9_shadePending i p M).map (fun z => wI z 33 i 12 c) := by
  unfold X9_shadePending
  cases hg : gin p 256 with
  | false => rfl
  | true =>
    simp only [gG_t (rfl : true = true), gLet_e]
    rw [w_n (a := 36) (by omega)]
    by_cases h1 : M.1 36 i (Int32.toNatClampNeg p) < 0
    · rw [if_pos h1, if_pos h1, w_comm (by omega)]
      rfl
    · rw [if_neg h1, if_neg h1]
      by_cases h2 : 10 ≤ M.1 36 i (Int32.toNatClampNeg p)
      · rw [if_pos h2, if_pos h2, w_comm (by omega)]
        rfl
      · rw [if_neg h2, if_neg h2]
        cases gin (M.1 36 i (Int32.toNatClampNeg p)) 10 with
        | false => rfl
        | true =>
          cases gin (p / 4) 64 with
          | false => rfl
          | true =>
            simp only [gG_t (rfl : true = true), Option.map_some]
            rw [w_n (a := 27) (by omega), w_comm (by omega)]
            rw [show ∀ (N : gM) (q : Nat) (v : Int64), wL (wI N 33 i 12 c) 41 i q v = wI (wL N 41 i q v) 33 i 12 c from fun _ _ _ => rfl, w_comm (by omega)]
            rfl
theorem sh_33 {p : Int32} (h : X9_shadePending i p M = some M') : M'.1 33 i 12 = M.1 33 i 12 := by
  have e := sh_comm (M := M) (i := i) p (M.1 33 i 12)
  rw [w_same rfl, h] at e
  have e2 : M' = wI M' 33 i 12 (M.1 33 i 12) := Option.some.inj e
  have e3 : (wI M' 33 i 12 (M.1 33 i 12)).1 33 i 12 = M.1 33 i 12 := w_e
  rw [← e2] at e3
  exact e3
/-- the relation but for the count of flushes -/
theorem j_shT (hj : j = 8 ∨ j = 9) (c : Int32) (h : RJ n W H T K i j (wI Mx 33 i 12 c) Mm) (htl : tl < tN W H T) (x3 : Int32) :
    ∃ Mx' Mm', gIter (fun s => X9_flushTile_L129 i (nI tl) x3 s.1 s.2) FU (nI (fS W H T K tl), Mx) = some Mx' ∧ gIter (fun s => X11_flushes_L71 j (nI tl) s.1 s.2) FU (nI (tU W T tl), Mm) = some Mm' ∧ RJ n W H T K i j (wI Mx' 33 i 12 c) Mm' ∧ Mx'.1 33 i 12 = Mx.1 33 i 12 ∧ OX i Mx Mx' ∧ OM j Mm Mm' ∧ (∀ q, ¬ TL W H T K tl q → Mx'.1 36 i q = Mx.1 36 i q) ∧ ∀ q, TL W H T K tl q → Mx'.1 36 i q = -1 := by
  have hd := h.1.1
  have hn := h.1.2.1
  have hN := hd.N
  have R2 := tile_relQ (β := gM) (γ := gM) (σ := Int32 × gM) (ρ := Int32 × gM) hd htl (fun u v => RJ n W H T K i j (wI u 33 i 12 c) v ∧ u.1 33 i 12 = Mx.1 33 i 12 ∧ OX i Mx u ∧ OM j Mm v ∧ ∀ q, ¬ TL W H T K tl q → u.1 36 i q = Mx.1 36 i q)
    (fun a u => u.1 36 i (plA a) = -1)
    (fun p u => X9_shadePending i p u) (fun a b c v => X11_shadesPending j a b c v)
    (fun x y s hx hy hs hin u v hr => by
      obtain ⟨u', v', g1, g2, g3, g4, _⟩ := j_shade hj hr.1 hx hy hs
      rw [sh_comm] at g1
      obtain ⟨z, hz, ez⟩ := Option.map_eq_some_iff.mp g1
      subst ez
      have p0 : ∀ q, q ≠ plc x y s → z.1 36 i q = u.1 36 i q := fun q hq => by
        have := g3.2.2.2 q hq
        rw [w_n (by omega), w_n (by omega)] at this
        exact this
      have p1 : z.1 36 i (plc x y s) = -1 := by
        rw [w_n (by omega)] at g4
        exact g4
      refine ⟨z, v', hz, g2, ⟨g3.1, (sh_33 hz).trans hr.2.1, ⟨fun a b d hq => ?_, fun a b d hq => (g3.2.1.2 a b d hq).trans (hr.2.2.1.2 a b d hq)⟩, hr.2.2.2.1.tr g3.2.2.1, fun q hq => (p0 q (fun e => hq ⟨x, y, s, hin.1, hin.2, hs, e⟩)).trans (hr.2.2.2.2 q hq)⟩, p1, fun b hb => ?_⟩
      · have := g3.2.1.1 a b d hq
        unfold xQ at hq
        rw [w_n (by omega), w_n (by omega)] at this
        rw [this]
        exact hr.2.2.1.1 a b d (by unfold xQ; exact hq)
      · by_cases e : plA b = plc x y s
        · rw [e]; exact p1
        · rw [p0 _ e]; exact hb)
    (fun k u => (k, u)) (fun s => X9_flushTile_L129 i (nI tl) x3 s.1 s.2)
    (fun k u v hk hr => by
      have go : GO W H T K u := gO_of hr.1.1.2.2.2.2.1 (fun c => (w_n (by omega)).symm) (fun c => (w_n (by omega)).symm)
      have g1 := go_first go hd htl
      have g2 := go_at go hd hk htl
      have g3 := fS_le (m := tl + 1) hd (by omega)
      show X9_flushTile_L129 i (nI tl) x3 (nI k) u = _
      unfold X9_flushTile_L129
      rw [gG_t g1.1, g1.2, if_neg (nI_ge hk (by omega)), gG_t (gin_n g2.1 (by decide)), g2.2]
      rfl)
    (fun u v hr => by
      have go : GO W H T K u := gO_of hr.1.1.2.2.2.2.1 (fun c => (w_n (by omega)).symm) (fun c => (w_n (by omega)).symm)
      have g1 := go_first go hd htl
      have g3 := fS_le (m := tl + 1) hd (by omega)
      show X9_flushTile_L129 i (nI tl) x3 _ u = _
      unfold X9_flushTile_L129
      rw [gG_t g1.1, g1.2, if_pos (nI_le (Nat.le_refl _) (by omega))])
    (fun y v => (y, v)) (fun v => X11_lowOf (nI tl) v) (fun v => X11_leftOf (nI tl) v) (fun v => X11_rightOf (nI tl) v) (fun v => v.1 52 2 3)
    (fun u v hr => x11_low hd hr.1.2.1.1 (by omega)) (fun u v hr => x11_left hd hr.1.2.1.1 (by omega)) (fun u v hr => x11_right hd hr.1.2.1.1 (by omega)) (fun u v hr => hr.1.2.1.1.2.2.2.2)
    (fun s => X11_flushes_L71 j (nI tl) s.1 s.2) (fun y s => X11_flushes_L88 j (nI tl) y s.1 s.2) (fun y a s => X11_flushes_L101 j (nI tl) y a s.1 s.2)
    (fun y x => rfl) (fun y a x => rfl) (fun y a s x => rfl) Mx Mm ⟨h, rfl, OX.rf i Mx, OM.rf j Mm, fun _ _ => rfl⟩
  obtain ⟨u', v', g1, g2, g3, g4⟩ := R2
  refine ⟨u', v', g1, g2, g3.1, g3.2.1, g3.2.2.1, g3.2.2.2.1, g3.2.2.2.2, ?_⟩
  rintro q ⟨x, y, s, h1, h2, h3, rfl⟩
  exact g4 (x, y, s) (tS_of h1.1 h1.2 h2.1 h2.2 h3)
/-- what a flush does, besides -/
def JF (n W H T K i j tl : Nat) (Mx Mm Mx' Mm' : gM) : Prop := RJ n W H T K i j Mx' Mm' ∧ OXB i Mx Mx' ∧ OMB j Mm Mm' ∧ Mx'.1 38 i tl = nI 0 ∧ (∀ c, c ≠ tl → Mx'.1 38 i c = Mx.1 38 i c) ∧ (∀ q, TL W H T K tl q → Mx'.1 36 i q = -1) ∧ (∀ q, ¬ TL W H T K tl q → Mx'.1 36 i q = Mx.1 36 i q)
theorem j_flush (hj : j = 8 ∨ j = 9) (h : RJ n W H T K i j Mx Mm) (htl : tl < tN W H T) : ∃ b Mx' Mm', b ≤ 10 ∧ Mx.1 38 i tl = nI b ∧ Mm.1 52 j (768 + 11 * tl) = nI b ∧ X9_flushTile i (nI tl) Mx = some (nI b, Mx') ∧ X11_flushes j (nI tl) Mm = some Mm' ∧ JF n W H T K i j tl Mx Mm Mx' Mm' := by
  have hd := h.1.1
  have hn := h.1.2.1
  have hN := hd.N
  obtain ⟨b, hb, h2, h3, -, -⟩ := h.2.2.2.2.2.2.1 tl (by omega)
  obtain ⟨X, Y, g1, g2, g3⟩ := j_bin hj h htl hb h2
  have r2 := g3.1.bin0 hj (t := tl) (by omega)
  have e768 : (768 : Int32) + (11 * nI tl) = nI (768 + 11 * tl) := by rw [nlit 11, nI_mul, nlit 768, nI_add]
  have e14 : (wI X 38 i tl 0).1 14 0 tl = nI (fS W H T K tl) := by
    rw [w_n (by omega)]
    exact g3.1.1.2.2.2.2.1.1 tl (by omega)
  have xb : OXB i Mx (wI X 38 i tl 0) := g3.2.1.b.tr (OXB.w (by unfold xB; omega))
  have mb : OMB j Mm (wI Y 52 j (768 + 11 * tl) 0) := g3.2.2.1.b.tr (OMB.w (by omega))
  have p36 : ∀ q, ¬ TL W H T K tl q → (wI X 38 i tl 0).1 36 i q = Mx.1 36 i q := fun q hq => by rw [w_n (by omega)]; exact g3.2.2.2 q hq
  have p38 : ∀ c, (c = tl → (wI X 38 i tl 0).1 38 i c = nI 0) ∧ (c ≠ tl → (wI X 38 i tl 0).1 38 i c = Mx.1 38 i c) := fun c => ⟨fun e => by rw [e, w_e]; rfl, fun e => by rw [w_n (by omega)]; exact g3.2.1.1 38 i c (by unfold xQ; omega)⟩
  have cf : ∀ x4 x5 : gM, gIter (fun s => X9_flushTile_L129 i (nI tl) (nI b) s.1 s.2) FU (nI (fS W H T K tl), wI X 38 i tl 0) = some x4 → (if nI b ≤ 0 then some (nI b, x4) else gLet (wI x4 33 i 12 ((x4.1 33 i 12) + 1)) (fun M_38 => some (nI b, M_38))) = some (nI b, x5) → X9_flushTile i (nI tl) Mx = some (nI b, x5) := by
    intro x4 x5 z1 z2
    unfold X9_flushTile
    rw [x1_hasT h.1 htl, bind_e, if_neg (show ¬ (1 : Int32) = 0 by decide), gG_t (gin_n (k := tl) (by omega) (by decide)), nI_clamp (by omega), h2, nlit 10, nI_min (by omega) (by omega), Nat.min_eq_left hb, gLet_e]
    show ((gIter (fun s => X9_flushTile_L28 i (nI tl) (nI b) s.1 s.2) FU (nI 0, Mx)).bind _) = _
    rw [g1, bind_e, gG_t (gin_n (k := tl) (by omega) (by decide)), gLet_e, gG_t (gin_n (k := tl) (by omega) (by decide)), e14, gLet_e, z1, bind_e]
    exact z2
  generalize hX : wI X 38 i tl 0 = X0 at *
  generalize hY : wI Y 52 j (768 + 11 * tl) 0 = Y0 at *
  have mf : ∀ y4 : gM, gIter (fun s => X11_flushes_L71 j (nI tl) s.1 s.2) FU (nI (tU W T tl), wI Y0 52 j 1056 (Y0.1 52 j 1056 + if nI b ≤ 0 then 0 else 1)) = some y4 → X11_flushes j (nI tl) Mm = some y4 := by
    intro y4 z1
    have hM : ∀ c, MD n W H T K (wI Y0 52 j 1056 c) := fun c => by
      have q := r2.2.1.1
      unfold MD at q ⊢
      rw [w_n (by omega), w_n (by omega), w_n (by omega), w_n (by omega), w_n (by omega)]
      exact q
    unfold X11_flushes
    rw [e768, gLet_e, gLen8 hj, gG_t (gin_n (k := 768 + 11 * tl) (by omega) (by decide)), nI_clamp (n := 768 + 11 * tl) (by omega), h3, gLet_e]
    show ((gIter (fun s => X11_flushes_L17 j (nI tl) (nI (768 + 11 * tl)) (nI b) s.1 s.2) FU (nI (0 + 1), Mm)).bind _) = _
    rw [g2, bind_e, gG_t (gin_n (k := 768 + 11 * tl) (by omega) (by decide)), hY, gLet_e, nlit 1056, gG_t (gin_n (k := 1056) (by omega) (by decide)), nI_clamp (n := 1056) (by omega), gG_t (gin_n (k := 1056) (by omega) (by decide)), gLet_e]
    by_cases hq : nI b ≤ 0
    · rw [if_pos hq] at z1
      rw [if_pos hq, x11_top hd (hM _) (by omega), bind_e, z1]
      rfl
    · rw [if_neg hq] at z1
      rw [if_neg hq, gG_t (gin_n (k := 1056) (by omega) (by decide)), gLet_e, x11_top hd (hM _) (by omega), bind_e, z1]
      rfl
  by_cases hb0 : b = 0
  · have hq : nI b ≤ 0 := by rw [hb0]; decide
    have rs : RJ n W H T K i j (wI X0 33 i 12 (X0.1 33 i 12)) Y0 := by rw [w_same rfl]; exact r2
    obtain ⟨X', Y', q1, q2, q3, q3', q4, q5, q6, q7⟩ := j_shT hj _ rs htl (nI b)
    rw [w_same q3'] at q3
    refine ⟨b, X', Y', hb, h2, h3, cf X' X' q1 (if_pos hq), mf Y' ?_, q3, xb.tr q4.b, mb.tr q5.b, ?_, ?_, q7, fun q hq => (q6 q hq).trans (p36 q hq)⟩
    · rw [if_pos hq, Int32.add_zero, w_same rfl]
      exact q2
    · rw [q4.1 38 i tl (by unfold xQ; omega)]
      exact (p38 tl).1 rfl
    · intro c hc
      rw [q4.1 38 i c (by unfold xQ; omega)]
      exact (p38 c).2 hc
  · have hq : ¬ nI b ≤ 0 := show ¬ nI b ≤ nI 0 from nI_ge (by omega) (by omega)
    have rs := r2.cnt hj (k := 12) (by omega)
    obtain ⟨X', Y', q1, q2, q3, q3', q4, q5, q6, q7⟩ := j_shT hj _ rs htl (nI b)
    refine ⟨b, wI X' 33 i 12 (X'.1 33 i 12 + 1), Y', hb, h2, h3, cf X' _ q1 (if_neg hq), mf Y' ?_, ?_, (xb.tr q4.b).tr (OXB.w (by unfold xB; omega)), (mb.tr (OMB.w (by omega))).tr q5.b, ?_, ?_, fun q hq => ?_, fun q hq => ?_⟩
    · rw [if_neg hq]
      exact q2
    · rw [q3']
      exact q3
    · rw [w_n (by omega), q4.1 38 i tl (by unfold xQ; omega)]
      exact (p38 tl).1 rfl
    · intro c hc
      rw [w_n (by omega), q4.1 38 i c (by unfold xQ; omega)]
      exact (p38 c).2 hc
    · rw [w_n (by omega)]
      exact q7 q hq
    · rw [w_n (by omega)]
      exact (q6 q hq).trans (p36 q hq)
end FF
