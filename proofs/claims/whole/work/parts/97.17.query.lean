/-! queries -/
section QA
variable {n W H T K i j k t m nf nf' q q' : Nat} {M M' Mx Mm Mx' Mm' X Y Y' : gM} {p p1 p2 p3 p4 v r : Int32}
theorem J.ask (h : J q nf Mx Mm) (s : SameA Mm Mm') : J q nf Mx Mm' := h.same (fun _ _ _ _ => rfl) (fun _ _ _ => rfl) (fun a b c hc => s.2 a b c (by unfold rM relM at hc; omega))
theorem SameA.g (s : SameA Mm Mm') : GM Mm Mm' := fun a b c hc => ⟨s.2 a b c (by omega), by rw [s.1]⟩
/-- a question: the reference may change what it asked, no more -/
theorem qq {ρ : Type} {F : gM → Option ρ} {G : gM → Option (ρ × gM)} (L : ∀ Mx Mm, J q nf Mx Mm → ∃ r Mm', F Mx = some r ∧ G Mm = some (r, Mm') ∧ SameA (wI Mm 50 0 0 0) Mm') (h : J q nf M M) : ∃ r M2, F M = some r ∧ G M = some (r, M2) ∧ J (q + 1) nf M2 M2 := by
  refine glue0 (F := F) (G := G) (fun Mx Mm h => ?_) h
  obtain ⟨r, Y, e1, e2, s⟩ := L Mx Mm h
  exact ⟨r, Y, e1, e2, (h.t0.ask s).mono (by omega), GM.t0.tr s.g⟩
theorem rng {hi : Int64} {n : Nat} (h1 : 1 ≤ n) (hn : n < 1000) (hh : hi.toInt = (n : Int) - 1) (p : Int32) (M : gM) :
    ((p < 0 ∨ (¬ p < 0 ∧ nI n ≤ p ∧ nI (n - 1) < p ∧ ¬ p ≤ nI (n - 1))) ∧ X11_isIn p.toInt64 0 hi M = some 0) ∨ (X11_isIn p.toInt64 0 hi M = some 1 ∧ ¬ p < 0 ∧ ¬ nI n ≤ p ∧ ¬ nI (n - 1) < p ∧ p ≤ nI (n - 1) ∧ ∃ k, k < n ∧ p = nI k) := by
  have a0 : (0 : Int64).toInt = 0 := rfl
  have a00 : (0 : Int32).toInt = 0 := rfl
  have e2 : (nI n : Int32).toInt = (n : Int) := nI_toInt (by omega)
  have e3 : (nI (n - 1) : Int32).toInt = ((n - 1 : Nat) : Int) := nI_toInt (by omega)
  rw [x11_isIn, a0, hh]
  by_cases h0 : p < 0
  · have := Int32.lt_iff_toInt_lt.mp h0
    rw [if_neg (show ¬ (0 ≤ p.toInt ∧ p.toInt ≤ (n : Int) - 1) by omega)]
    exact Or.inl ⟨Or.inl h0, rfl⟩
  · have g0 := Int32.le_iff_toInt_le.mp (Int32.not_lt.mp h0)
    by_cases h2 : nI n ≤ p
    · have := Int32.le_iff_toInt_le.mp h2
      rw [if_neg (show ¬ (0 ≤ p.toInt ∧ p.toInt ≤ (n : Int) - 1) by omega)]
      exact Or.inl ⟨Or.inr ⟨h0, h2, Int32.lt_iff_toInt_lt.mpr (by omega), fun z => by have := Int32.le_iff_toInt_le.mp z; omega⟩, rfl⟩
    · have g2 := Int32.lt_iff_toInt_lt.mp (Int32.not_le.mp h2)
      rw [if_pos (show 0 ≤ p.toInt ∧ p.toInt ≤ (n : Int) - 1 by omega)]
      exact Or.inr ⟨rfl, h0, h2, fun z => by have := Int32.lt_iff_toInt_lt.mp z; omega, Int32.le_iff_toInt_le.mpr (by omega), arg h0 h2 (by omega)⟩
theorem ne_out (hk : k < n) (hn : n < 1000) (h : p < 0 ∨ (¬ p < 0 ∧ nI n ≤ p ∧ nI (n - 1) < p ∧ ¬ p ≤ nI (n - 1))) : ¬ p = nI k := fun e => by
  subst e
  rcases h with h | h
  · exact nI_neg (by omega) h
  · exact nI_ge hk (by omega) h.2.1
theorem nI_p1 (hn : 1 ≤ n) (h : n < 1000) : (nI n - 1 : Int32).toInt64.toInt = (n : Int) - 1 := by
  rw [nlit 1, nI_sub hn, Int32.toInt_toInt64, nI_toInt (by omega)]
  omega
theorem j_hasP (hs : SCx n W H T K Mx) (hm : MD n W H T K Mm) : (X1_hasPixel p1 p2 Mx = some 0 ∧ X11_isPixel p1 p2 Mm = some 0) ∨ (X1_hasPixel p1 p2 Mx = some 1 ∧ X11_isPixel p1 p2 Mm = some 1 ∧ ∃ x y, x < W ∧ y < H ∧ p1 = nI x ∧ p2 = nI y) := by
  have hn := hs.2.1
  have hW := hs.1.1
  have hH := hs.1.2.1
  unfold X1_hasPixel X11_isPixel
  rw [hs.2.2.2.1.1, hs.2.2.2.1.2.1, hm.1, hm.2.1, hm.2.2.1, if_neg (show ¬ nI n ≤ (0 : Int32) from nI_ge (a := 0) (b := n) (by omega) (by omega))]
  rcases rng (n := W) (by omega) (by omega) (nI_p1 (by omega) (by omega)) p1 Mm with ⟨o, e⟩ | ⟨e, g1, g2, -, -, x, hx, rfl⟩
  · rw [e, bind_e, if_pos rfl]
    rcases o with o | o
    · rw [if_pos o]; exact Or.inl ⟨rfl, rfl⟩
    · rw [if_neg o.1, if_pos o.2.1]; exact Or.inl ⟨rfl, rfl⟩
  · rw [e, bind_e, if_neg (show ¬ (1 : Int32) = 0 by decide), if_neg g1, if_neg g2]
    rcases rng (n := H) (by omega) (by omega) (nI_p1 (by omega) (by omega)) p2 Mm with ⟨o, e⟩ | ⟨e, g1, g2, -, -, y, hy, rfl⟩
    · rw [e, bind_e, if_pos rfl]
      rcases o with o | o
      · rw [if_pos o]; exact Or.inl ⟨rfl, rfl⟩
      · rw [if_neg o.1, if_pos o.2.1]; exact Or.inl ⟨rfl, rfl⟩
    · rw [e, bind_e, if_neg (show ¬ (1 : Int32) = 0 by decide), if_neg g1, if_neg g2]
      exact Or.inr ⟨rfl, rfl, x, y, hx, hy, rfl, rfl⟩
theorem j_hasSm (hs : SCx n W H T K Mx) (hm : MD n W H T K Mm) : (X1_hasSample p1 p2 p3 Mx = some 0 ∧ X11_isSample p1 p2 p3 Mm = some 0) ∨ (X1_hasSample p1 p2 p3 Mx = some 1 ∧ X11_isSample p1 p2 p3 Mm = some 1 ∧ ∃ x y s, x < W ∧ y < H ∧ s < K ∧ p1 = nI x ∧ p2 = nI y ∧ p3 = nI s) := by
  have hK := hs.1.2.2.2
  unfold X1_hasSample X11_isSample
  rcases j_hasP (p1 := p1) (p2 := p2) hs hm with ⟨e1, e2⟩ | ⟨e1, e2, x, y, hx, hy, rfl, rfl⟩
  · rw [e1, e2, bind_e, bind_e, if_pos rfl, if_pos rfl]
    exact Or.inl ⟨rfl, rfl⟩
  · rw [e1, e2, bind_e, bind_e, if_neg (show ¬ (1 : Int32) = 0 by decide), if_neg (show ¬ (1 : Int32) = 0 by decide), hs.2.2.2.1.2.2.2.1, hm.2.2.2.2]
    rcases rng (n := K) (by omega) (by omega) (nI_p1 (by omega) (by omega)) p3 Mm with ⟨o, e⟩ | ⟨e, g1, g2, -, -, s, hs', rfl⟩
    · rw [e, bind_e, if_pos rfl]
      rcases o with o | o
      · rw [if_pos o]; exact Or.inl ⟨rfl, rfl⟩
      · rw [if_neg o.1, if_pos o.2.1]; exact Or.inl ⟨rfl, rfl⟩
    · rw [e, bind_e, if_neg (show ¬ (1 : Int32) = 0 by decide), if_neg g1, if_neg g2]
      exact Or.inr ⟨rfl, rfl, x, y, s, hx, hy, hs', rfl, rfl, rfl⟩
/-! without a scene -/
theorem NSn.tri (h : NSn Mx Mm) (p : Int32) : X4_has 1 p Mx = some 0 ∧ X11_isTri p Mm = some 0 := by
  refine ⟨?_, isTri0 h.2.1⟩
  unfold X4_has
  rw [h.1]
  by_cases h0 : p < 0
  · rw [if_pos h0]
  · rw [if_neg h0, if_pos (Int32.not_lt.mp h0)]
theorem NSn.pix (h : NSn Mx Mm) (p1 p2 : Int32) : X1_hasPixel p1 p2 Mx = some 0 ∧ X11_isPixel p1 p2 Mm = some 0 := by
  constructor
  · unfold X1_hasPixel
    rw [h.2.2.1]
    by_cases h0 : p1 < 0
    · rw [if_pos h0]
    · rw [if_neg h0, if_pos (Int32.not_lt.mp h0)]
  · unfold X11_isPixel
    rw [h.2.1, if_pos (by decide)]
theorem NSn.smp (h : NSn Mx Mm) (p1 p2 p3 : Int32) : X1_hasSample p1 p2 p3 Mx = some 0 ∧ X11_isSample p1 p2 p3 Mm = some 0 := by
  unfold X1_hasSample X11_isSample
  rw [(h.pix p1 p2).1, (h.pix p1 p2).2, bind_e, bind_e, if_pos rfl, if_pos rfl]
  exact ⟨rfl, rfl⟩
theorem NSn.til (h : NSn Mx Mm) (p : Int32) : X1_hasTile p Mx = some 0 ∧ X11_isTile p Mm = some 0 := by
  constructor
  · unfold X1_hasTile
    rw [h.2.2.2.2.1]
    by_cases h0 : p < 0
    · rw [if_pos h0]
    · rw [if_neg h0, if_pos (Int32.not_lt.mp h0)]
  · unfold X11_isTile
    rw [h.2.1, if_pos (by decide)]
theorem J.tri (h : J q nf Mx Mm) (p : Int32) : (X4_has 1 p Mx = some 0 ∧ X11_isTri p Mm = some 0) ∨ ∃ n W H T K t, SN (40 * q) nf n W H T K Mx Mm ∧ t < n ∧ p = nI t ∧ X4_has 1 p Mx = some 1 ∧ X11_isTri p Mm = some 1 := by
  rcases h.2.2.2.2 with hN | ⟨n, W, H, T, K, hS⟩
  · exact Or.inl (hN.tri p)
  · exact (j_has (p := p) hS.1.1 hS.1.2.1.1).imp id fun ⟨e1, e2, t, ht, e⟩ => ⟨n, W, H, T, K, t, hS, ht, e, e1, e2⟩
theorem J.pix (h : J q nf Mx Mm) (p1 p2 : Int32) : (X1_hasPixel p1 p2 Mx = some 0 ∧ X11_isPixel p1 p2 Mm = some 0) ∨ ∃ n W H T K x y, SN (40 * q) nf n W H T K Mx Mm ∧ x < W ∧ y < H ∧ p1 = nI x ∧ p2 = nI y ∧ X1_hasPixel p1 p2 Mx = some 1 ∧ X11_isPixel p1 p2 Mm = some 1 := by
  rcases h.2.2.2.2 with hN | ⟨n, W, H, T, K, hS⟩
  · exact Or.inl (hN.pix p1 p2)
  · exact (j_hasP (p1 := p1) (p2 := p2) hS.1.1 hS.1.2.1.1).imp id fun ⟨e1, e2, x, y, hx, hy, e3, e4⟩ => ⟨n, W, H, T, K, x, y, hS, hx, hy, e3, e4, e1, e2⟩
theorem J.smp (h : J q nf Mx Mm) (p1 p2 p3 : Int32) : (X1_hasSample p1 p2 p3 Mx = some 0 ∧ X11_isSample p1 p2 p3 Mm = some 0) ∨ ∃ n W H T K x y s, SN (40 * q) nf n W H T K Mx Mm ∧ x < W ∧ y < H ∧ s < K ∧ p1 = nI x ∧ p2 = nI y ∧ p3 = nI s ∧ X1_hasSample p1 p2 p3 Mx = some 1 ∧ X11_isSample p1 p2 p3 Mm = some 1 := by
  rcases h.2.2.2.2 with hN | ⟨n, W, H, T, K, hS⟩
  · exact Or.inl (hN.smp p1 p2 p3)
  · exact (j_hasSm (p1 := p1) (p2 := p2) (p3 := p3) hS.1.1 hS.1.2.1.1).imp id fun ⟨e1, e2, x, y, s, hx, hy, hs, e3, e4, e5⟩ => ⟨n, W, H, T, K, x, y, s, hS, hx, hy, hs, e3, e4, e5, e1, e2⟩
theorem J.til (h : J q nf Mx Mm) (p : Int32) : (X1_hasTile p Mx = some 0 ∧ X11_isTile p Mm = some 0) ∨ ∃ n W H T K t, SN (40 * q) nf n W H T K Mx Mm ∧ t < tN W H T ∧ p = nI t ∧ X1_hasTile p Mx = some 1 ∧ X11_isTile p Mm = some 1 := by
  rcases h.2.2.2.2 with hN | ⟨n, W, H, T, K, hS⟩
  · exact Or.inl (hN.til p)
  · exact (j_hasT (p := p) hS.1.1 hS.1.2.1.1).imp id fun ⟨e1, e2, t, ht, e⟩ => ⟨n, W, H, T, K, t, hS, ht, e, e1, e2⟩
theorem O4 : O_4 Iv := fun q nf M a1 hq hI => by
  refine qq (F := fun M => X10_rule a1 M) (G := fun M => X11_rule a1 M) (fun Mx Mm h => ?_) hI
  have h0 := h.t0 (v := 0)
  show ∃ r Mm', X10_rule a1 Mx = some r ∧ X11_rule a1 Mm = some (r, Mm') ∧ SameA (wI Mm 50 0 0 0) Mm'
  unfold X11_rule
  rw [gLet_e]
  revert h0
  generalize wI Mm 50 0 0 0 = Y
  intro h0
  unfold X10_rule
  rcases h0.2.2.2.2 with hN | ⟨n, W, H, T, K, hS⟩
  · rw [hN.has, bind_e, if_pos rfl, if_pos hN.2.1]
    exact ⟨_, Y, rfl, rfl, SameA.rf Y⟩
  · have hr := hS.1
    rw [hS.has, bind_e, if_neg (show ¬ (1 : Int32) = 0 by decide), if_neg hS.n0.2]
    rcases rng (n := 10) (hi := 9) (by omega) (by omega) rfl a1 Y with ⟨o, e⟩ | ⟨e, -, -, -, -, k, hk, rfl⟩
    · rw [e, bind_e, if_pos rfl, if_neg (show ¬ a1 = (0 : Int32) from ne_out (k := 0) (by omega) (by omega) o), if_neg (show ¬ a1 = (1 : Int32) from ne_out (k := 1) (by omega) (by omega) o), if_neg (show ¬ a1 = (2 : Int32) from ne_out (k := 2) (by omega) (by omega) o), if_neg (show ¬ a1 = (3 : Int32) from ne_out (k := 3) (by omega) (by omega) o), if_neg (show ¬ a1 = (4 : Int32) from ne_out (k := 4) (by omega) (by omega) o), if_neg (show ¬ a1 = (5 : Int32) from ne_out (k := 5) (by omega) (by omega) o), if_neg (show ¬ a1 = (6 : Int32) from ne_out (k := 6) (by omega) (by omega) o), if_neg (show ¬ a1 = (7 : Int32) from ne_out (k := 7) (by omega) (by omega) o), if_neg (show ¬ a1 = (8 : Int32) from ne_out (k := 8) (by omega) (by omega) o), if_neg (show ¬ a1 = (9 : Int32) from ne_out (k := 9) (by omega) (by omega) o)]
      exact ⟨_, Y, rfl, rfl, SameA.rf Y⟩
    · rw [e, bind_e, if_neg (show ¬ (1 : Int32) = 0 by decide)]
      rcases (show k = 0 ∨ k = 1 ∨ k = 2 ∨ k = 3 ∨ k = 4 ∨ k = 5 ∨ k = 6 ∨ k = 7 ∨ k = 8 ∨ k = 9 by omega) with rfl | rfl | rfl | rfl | rfl | rfl | rfl | rfl | rfl | rfl
      · rw [if_pos (show nI 0 = (0 : Int32) from rfl), if_neg (show ¬ nI 0 = (9 : Int32) by decide), if_pos (show nI 0 ≤ (4 : Int32) by decide), gG_t (gin_n (k := 0) (by decide) (by decide)), nI_clamp (n := 0) (by decide), hr.1.2.2.1.1, hr.2.1.1.2.1]
        exact ⟨_, Y, rfl, rfl, SameA.rf Y⟩
      · rw [if_neg (show ¬ nI 1 = (0 : Int32) by decide), if_pos (show nI 1 = (1 : Int32) from rfl), if_neg (show ¬ nI 1 = (9 : Int32) by decide), if_pos (show nI 1 ≤ (4 : Int32) by decide), gG_t (gin_n (k := 1) (by decide) (by decide)), nI_clamp (n := 1) (by decide), hr.1.2.2.1.2.1, hr.2.1.1.2.2.1]
        exact ⟨_, Y, rfl, rfl, SameA.rf Y⟩
      · rw [if_neg (show ¬ nI 2 = (0 : Int32) by decide), if_neg (show ¬ nI 2 = (1 : Int32) by decide), if_pos (show nI 2 = (2 : Int32) from rfl), if_neg (show ¬ nI 2 = (9 : Int32) by decide), if_pos (show nI 2 ≤ (4 : Int32) by decide), gG_t (gin_n (k := 2) (by decide) (by decide)), nI_clamp (n := 2) (by decide), hr.1.2.2.1.2.2.1, hr.2.1.1.2.2.2.1]
        exact ⟨_, Y, rfl, rfl, SameA.rf Y⟩
      · rw [if_neg (show ¬ nI 3 = (0 : Int32) by decide), if_neg (show ¬ nI 3 = (1 : Int32) by decide), if_neg (show ¬ nI 3 = (2 : Int32) by decide), if_pos (show nI 3 = (3 : Int32) from rfl), if_neg (show ¬ nI 3 = (9 : Int32) by decide), if_pos (show nI 3 ≤ (4 : Int32) by decide), gG_t (gin_n (k := 3) (by decide) (by decide)), nI_clamp (n := 3) (by decide), hr.1.2.2.1.2.2.2.1, hr.2.1.1.2.2.2.2]
        exact ⟨_, Y, rfl, rfl, SameA.rf Y⟩
      · rw [if_neg (show ¬ nI 4 = (0 : Int32) by decide), if_neg (show ¬ nI 4 = (1 : Int32) by decide), if_neg (show ¬ nI 4 = (2 : Int32) by decide), if_neg (show ¬ nI 4 = (3 : Int32) by decide), if_pos (show nI 4 = (4 : Int32) from rfl), if_neg (show ¬ nI 4 = (9 : Int32) by decide), if_pos (show nI 4 ≤ (4 : Int32) by decide), gG_t (gin_n (k := 4) (by decide) (by decide)), nI_clamp (n := 4) (by decide), ← hr.2.1.2.1]
        exact ⟨_, Y, rfl, rfl, SameA.rf Y⟩
      · rw [if_neg (show ¬ nI 5 = (0 : Int32) by decide), if_neg (show ¬ nI 5 = (1 : Int32) by decide), if_neg (show ¬ nI 5 = (2 : Int32) by decide), if_neg (show ¬ nI 5 = (3 : Int32) by decide), if_neg (show ¬ nI 5 = (4 : Int32) by decide), if_pos (show nI 5 = (5 : Int32) from rfl), if_neg (show ¬ nI 5 = (9 : Int32) by decide), if_neg (show ¬ nI 5 ≤ (4 : Int32) by decide), show ((1057 : Int32) + nI 5) - 5 = nI (1057 + 0) by decide, gG_t (gin_n (k := 1057 + 0) (by decide) (by decide)), nI_clamp (n := 1057 + 0) (by decide), hr.2.2.2.2.1.1 0 (by decide)]
        exact ⟨_, Y, rfl, rfl, SameA.rf Y⟩
      · rw [if_neg (show ¬ nI 6 = (0 : Int32) by decide), if_neg (show ¬ nI 6 = (1 : Int32) by decide), if_neg (show ¬ nI 6 = (2 : Int32) by decide), if_neg (show ¬ nI 6 = (3 : Int32) by decide), if_neg (show ¬ nI 6 = (4 : Int32) by decide), if_neg (show ¬ nI 6 = (5 : Int32) by decide), if_pos (show nI 6 = (6 : Int32) from rfl), if_neg (show ¬ nI 6 = (9 : Int32) by decide), if_neg (show ¬ nI 6 ≤ (4 : Int32) by decide), show ((1057 : Int32) + nI 6) - 5 = nI (1057 + 1) by decide, gG_t (gin_n (k := 1057 + 1) (by decide) (by decide)), nI_clamp (n := 1057 + 1) (by decide), hr.2.2.2.2.1.1 1 (by decide)]
        exact ⟨_, Y, rfl, rfl, SameA.rf Y⟩
      · rw [if_neg (show ¬ nI 7 = (0 : Int32) by decide), if_neg (show ¬ nI 7 = (1 : Int32) by decide), if_neg (show ¬ nI 7 = (2 : Int32) by decide), if_neg (show ¬ nI 7 = (3 : Int32) by decide), if_neg (show ¬ nI 7 = (4 : Int32) by decide), if_neg (show ¬ nI 7 = (5 : Int32) by decide), if_neg (show ¬ nI 7 = (6 : Int32) by decide), if_pos (show nI 7 = (7 : Int32) from rfl), if_neg (show ¬ nI 7 = (9 : Int32) by decide), if_neg (show ¬ nI 7 ≤ (4 : Int32) by decide), show ((1057 : Int32) + nI 7) - 5 = nI (1057 + 2) by decide, gG_t (gin_n (k := 1057 + 2) (by decide) (by decide)), nI_clamp (n := 1057 + 2) (by decide), hr.2.2.2.2.1.1 2 (by decide)]
        exact ⟨_, Y, rfl, rfl, SameA.rf Y⟩
      · rw [if_neg (show ¬ nI 8 = (0 : Int32) by decide), if_neg (show ¬ nI 8 = (1 : Int32) by decide), if_neg (show ¬ nI 8 = (2 : Int32) by decide), if_neg (show ¬ nI 8 = (3 : Int32) by decide), if_neg (show ¬ nI 8 = (4 : Int32) by decide), if_neg (show ¬ nI 8 = (5 : Int32) by decide), if_neg (show ¬ nI 8 = (6 : Int32) by decide), if_neg (show ¬ nI 8 = (7 : Int32) by decide), if_pos (show nI 8 = (8 : Int32) from rfl), if_neg (show ¬ nI 8 = (9 : Int32) by decide), if_neg (show ¬ nI 8 ≤ (4 : Int32) by decide), show ((1057 : Int32) + nI 8) - 5 = nI (1057 + 3) by decide, gG_t (gin_n (k := 1057 + 3) (by decide) (by decide)), nI_clamp (n := 1057 + 3) (by decide), hr.2.2.2.2.1.1 3 (by decide)]
        exact ⟨_, Y, rfl, rfl, SameA.rf Y⟩
      · rw [if_neg (show ¬ nI 9 = (0 : Int32) by decide), if_neg (show ¬ nI 9 = (1 : Int32) by decide), if_neg (show ¬ nI 9 = (2 : Int32) by decide), if_neg (show ¬ nI 9 = (3 : Int32) by decide), if_neg (show ¬ nI 9 = (4 : Int32) by decide), if_neg (show ¬ nI 9 = (5 : Int32) by decide), if_neg (show ¬ nI 9 = (6 : Int32) by decide), if_neg (show ¬ nI 9 = (7 : Int32) by decide), if_neg (show ¬ nI 9 = (8 : Int32) by decide), if_pos (show nI 9 = (9 : Int32) from rfl), x11_all hr.1.1 hr.2.1.1, bind_e, hr.1.2.2.2.1.2.2.2.2.2.1]
        exact ⟨_, Y, rfl, rfl, SameA.rf Y⟩
theorem O40 : O_40 Iv := fun q nf M a1 hq hI => by
  refine qq (F := fun M => X10_count a1 M) (G := fun M => X11_count a1 M) (fun Mx Mm h => ?_) hI
  have h0 := h.t0 (v := 0)
  show ∃ r Mm', X10_count a1 Mx = some r ∧ X11_count a1 Mm = some (r, Mm') ∧ SameA (wI Mm 50 0 0 0) Mm'
  unfold X11_count
  rw [gLet_e]
  revert h0
  generalize wI Mm 50 0 0 0 = Y
  intro h0
  unfold X10_count
  have hT := h0.2.1
  obtain ⟨L, l1, l2, l3, -⟩ := h0.2.1
  obtain ⟨ns, s1, s2, s3, -⟩ := h0.2.2.1
  by_cases c0 : a1 = 0
  · rw [if_pos c0, if_pos c0]
    rcases h0.2.2.2.2 with hN | ⟨n, W, H, T, K, hS⟩
    · rw [hN.1, hN.2.1]; exact ⟨_, Y, rfl, rfl, SameA.rf Y⟩
    · rw [hS.1.1.2.2.1.2.2.2.2, hS.1.2.1.1.1]; exact ⟨_, Y, rfl, rfl, SameA.rf Y⟩
  · rw [if_neg c0, if_neg c0]
    by_cases c1 : a1 = 1
    · rw [if_pos c1, if_pos c1, s2, s3]; exact ⟨_, Y, rfl, rfl, SameA.rf Y⟩
    · rw [if_neg c1, if_neg c1]
      by_cases c2 : a1 = 2
      · rw [if_pos c2, if_pos c2, l2, l3]; exact ⟨_, Y, rfl, rfl, SameA.rf Y⟩
      · rw [if_neg c2, if_neg c2]
        by_cases c3 : a1 = 3
        · rw [if_pos c3, if_pos c3]
          rcases h0.2.2.2.2 with hN | ⟨n, W, H, T, K, hS⟩
          · rw [hN.2.2.2.2.1, if_pos hN.2.1]; exact ⟨_, Y, rfl, rfl, SameA.rf Y⟩
          · rw [if_neg hS.n0.2, x11_all hS.1.1.1 hS.1.2.1.1, bind_e, hS.1.1.2.2.2.1.2.2.2.2.2.1]; exact ⟨_, Y, rfl, rfl, SameA.rf Y⟩
        · rw [if_neg c3, if_neg c3]
          by_cases c4 : a1 = 4
          · rw [if_pos c4, if_pos c4]
            unfold X0_logLength
            rw [bind_e]
            rcases h0.2.2.2.2 with hN | ⟨n, W, H, T, K, hS⟩
            · rw [hN.2.2.2.2.2.1, hN.2.2.2.2.2.2.1]; exact ⟨_, Y, rfl, rfl, SameA.rf Y⟩
            · obtain ⟨lg, g1, g2, g3, -⟩ := hS.2.2.1
              rw [g1, g3, nlit 60, nI_min (by omega) (by omega)]; exact ⟨_, Y, rfl, rfl, SameA.rf Y⟩
          · rw [if_neg c4, if_neg c4]
            by_cases c5 : a1 = 5
            · rw [if_pos c5, if_pos c5]
              rcases h0.2.2.2.2 with hN | ⟨n, W, H, T, K, hS⟩
              · rw [hN.2.2.2.2.2.2.2.2.1, hN.2.2.2.2.2.2.2.2.2.1]; exact ⟨_, Y, rfl, rfl, SameA.rf Y⟩
              · obtain ⟨pp, hh, ff, -, -, -, -, -, -, q7, -, q9, -⟩ := hS.2.2.2.1
                rw [q7, q9]; exact ⟨_, Y, rfl, rfl, SameA.rf Y⟩
            · rw [if_neg c5, if_neg c5]; exact ⟨_, Y, rfl, rfl, SameA.rf Y⟩
theorem O23 : O_23 Iv := fun q nf M a1 hq hI => by
  refine qq (F := fun M => X10_status a1 M) (G := fun M => X11_status a1 M) (fun Mx Mm h => ?_) hI
  have h0 := h.t0 (v := 0)
  show ∃ r Mm', X10_status a1 Mx = some r ∧ X11_status a1 Mm = some (r, Mm') ∧ SameA (wI Mm 50 0 0 0) Mm'
  unfold X11_status
  rw [gLet_e]
  revert h0
  generalize wI Mm 50 0 0 0 = Y
  intro h0
  unfold X10_status
  have st := h0.2.2.2.1
  rcases rng (n := 4) (hi := 3) (by omega) (by omega) rfl a1 Y with ⟨o, e⟩ | ⟨e, g1, g2, -, -, k, hk, rfl⟩
  · rw [e, bind_e, if_pos rfl]
    rcases o with o | o
    · rw [if_pos o]; exact ⟨_, Y, rfl, rfl, SameA.rf Y⟩
    · rw [if_neg o.1, if_pos (show (4 : Int32) ≤ a1 from o.2.1)]; exact ⟨_, Y, rfl, rfl, SameA.rf Y⟩
  · rw [e, bind_e, if_neg (show ¬ (1 : Int32) = 0 by decide), if_neg g1, if_neg (show ¬ (4 : Int32) ≤ nI k from g2), gG_t (gin_n hk (by decide)), gG_t (gin_n hk (by decide)), nI_clamp (by omega), st k hk]
    exact ⟨_, Y, rfl, rfl, SameA.rf Y⟩
theorem O6 : O_6 Iv := fun q nf M a1 a2 a3 hq hI => by
  refine qq (F := fun M => X10_corner a1 a2 a3 M) (G := fun M => X11_corner a1 a2 a3 M) (fun Mx Mm h => ?_) hI
  have h0 := h.t0 (v := 0)
  show ∃ r Mm', X10_corner a1 a2 a3 Mx = some r ∧ X11_corner a1 a2 a3 Mm = some (r, Mm') ∧ SameA (wI Mm 50 0 0 0) Mm'
  unfold X11_corner
  rw [gLet_e]
  revert h0
  generalize wI Mm 50 0 0 0 = Y
  intro h0
  unfold X10_corner
  rcases h0.tri a1 with ⟨e1, e2⟩ | ⟨n, W, H, T, K, t, hS, ht, rfl, e1, e2⟩
  · rw [e1, e2, bind_e, bind_e, if_pos rfl, if_pos rfl]; exact ⟨_, Y, rfl, rfl, SameA.rf Y⟩
  · have hn := hS.1.1.2.1
    have fc := hS.1.2.2.2.1 t ht
    rw [e1, e2, bind_e, bind_e, if_neg (show ¬ (1 : Int32) = 0 by decide), if_neg (show ¬ (1 : Int32) = 0 by decide)]
    rcases rng (n := 3) (hi := 2) (by omega) (by omega) rfl a2 Y with ⟨o, e⟩ | ⟨e, g1, -, g2, -, c, hc, rfl⟩
    · rw [e, bind_e, if_pos rfl]
      rcases o with o | o
      · rw [if_pos o]; exact ⟨_, Y, rfl, rfl, SameA.rf Y⟩
      · rw [if_neg o.1, if_pos (show (2 : Int32) < a2 from o.2.2.1)]; exact ⟨_, Y, rfl, rfl, SameA.rf Y⟩
    · rw [e, bind_e, if_neg (show ¬ (1 : Int32) = 0 by decide), if_neg g1, if_neg (show ¬ (2 : Int32) < nI c from g2)]
      rcases rng (n := 3) (hi := 2) (by omega) (by omega) rfl a3 Y with ⟨o, e⟩ | ⟨e, g1, -, -, g3, d, hd, rfl⟩
      · rw [e, bind_e, if_pos rfl]
        rcases o with o | o
        · rw [if_pos o]; exact ⟨_, Y, rfl, rfl, SameA.rf Y⟩
        · rw [if_neg o.1, if_neg (show ¬ a3 ≤ (2 : Int32) from o.2.2.2)]; exact ⟨_, Y, rfl, rfl, SameA.rf Y⟩
      · have em : ((944 : Int32) + (9 * nI t)) + (3 * nI c) + nI d = nI (944 + 9 * t + 3 * c + d) := by rw [nlit 9, nI_mul, nlit 944, nI_add, nlit 3, nI_mul, nI_add, nI_add]
        rw [e, bind_e, if_neg (show ¬ (1 : Int32) = 0 by decide), if_neg g1, if_pos (show nI d ≤ (2 : Int32) from g3), em, gG_t (gin_n (k := 944 + 9 * t + 3 * c + d) (by omega) (by decide)), nI_clamp (n := 944 + 9 * t + 3 * c + d) (by omega)]
        by_cases e2 : d = 2
        · subst e2
          have ex : nI t * 3 + nI c = nI (3 * t + c) := by rw [nlit 3, nI_mul, nI_add, Nat.mul_comm]
          rw [if_pos (show nI 2 = (2 : Int32) from rfl), ex, gG_t (gin_n (k := 3 * t + c) (by omega) (by decide)), nI_clamp (n := 3 * t + c) (by omega), fc.2 c hc]
          exact ⟨_, Y, rfl, rfl, SameA.rf Y⟩
        · have ex : (nI t * 6) + (nI c * 2) + nI d = nI (6 * t + (2 * c + d)) := by rw [nlit 6, nI_mul, nlit 2, nI_mul, nI_add, nI_add, Nat.mul_comm t 6, Nat.mul_comm c 2, Nat.add_assoc]
          have fk := (fc.1 (2 * c + d) (by omega)).1
          rw [show 944 + 9 * t + 3 * ((2 * c + d) / 2) + (2 * c + d) % 2 = 944 + 9 * t + 3 * c + d by omega] at fk
          rw [if_neg (show ¬ nI d = (2 : Int32) from fun z => e2 (nI_inj (b := 2) (by omega) (by decide) z)), ex, gG_t (gin_n (k := 6 * t + (2 * c + d)) (by omega) (by decide)), nI_clamp (n := 6 * t + (2 * c + d)) (by omega), fk]
          exact ⟨_, Y, rfl, rfl, SameA.rf Y⟩
end QA
