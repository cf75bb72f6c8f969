/-! queries: geometry, samples -/
section QB
variable {n W H T K i j k t m nf nf' q q' : Nat} {M M' Mx Mm Mx' Mm' X Y Y' : gM} {p p1 p2 p3 p4 v r : Int32}
theorem SN.asks (h : SN m nf n W H T K Mx Mm) (ht : t < n) : ∃ M', X11_asks 8 (nI t) Mm = some M' ∧ AK (ct Mx 0 t) (zt Mx t) (Mx.1 40 0 0) M' ∧ SameA Mm M' := x11_asksR h.1.2.1 (by have := h.1.1.2.1; omega) h.1.2.2.2.1 h.1.2.2.2.2.1 (Or.inl rfl) ht
theorem x1_place (x y : Nat) : X1_placeOf (nI x) (nI y) M = some (nI (4 * (8 * y + x))) := by
  unfold X1_placeOf
  rw [nlit 8, nI_mul, nI_add, nlit 4, nI_mul]
  congr 2
  omega
theorem plc_e (x y s : Nat) : nI (4 * (8 * y + x)) + nI s = nI (plc x y s) := by
  rw [nI_add]
  rfl
theorem O7 : O_7 Iv := fun q nf M a1 a2 a3 a4 hq hI => by
  refine qq (F := fun M => X10_edge a1 a2 a3 a4 M) (G := fun M => X11_edge a1 a2 a3 a4 M) (fun Mx Mm h => ?_) hI
  have h0 := h.t0 (v := 0)
  show ∃ r Mm', X10_edge a1 a2 a3 a4 Mx = some r ∧ X11_edge a1 a2 a3 a4 Mm = some (r, Mm') ∧ SameA (wI Mm 50 0 0 0) Mm'
  unfold X11_edge
  rw [gLet_e]
  revert h0
  generalize wI Mm 50 0 0 0 = Y
  intro h0
  unfold X10_edge
  rcases h0.tri a1 with ⟨e1, e2⟩ | ⟨n, W, H, T, K, t, hS, ht, rfl, e1, e2⟩
  · rw [e1, e2, bind_e, bind_e, if_pos rfl, if_pos rfl]; exact ⟨_, Y, rfl, rfl, SameA.rf Y⟩
  · have hn := hS.1.1.2.1
    have b99 : (-99 : Int64).toInt = -99 := by decide
    have b160 : (160 : Int64).toInt = 160 := rfl
    rw [e1, e2, bind_e, bind_e, if_neg (show ¬ (1 : Int32) = 0 by decide), if_neg (show ¬ (1 : Int32) = 0 by decide)]
    rcases rng (n := 3) (hi := 2) (by omega) (by omega) rfl a2 Y with ⟨o, e⟩ | ⟨e, g1, -, g2, -, c, hc, rfl⟩
    · rw [e, bind_e, if_pos rfl]
      rcases o with o | o
      · rw [if_pos o]; exact ⟨_, Y, rfl, rfl, SameA.rf Y⟩
      · rw [if_neg o.1, if_pos (show (2 : Int32) < a2 from o.2.2.1)]; exact ⟨_, Y, rfl, rfl, SameA.rf Y⟩
    · rw [e, bind_e, if_neg (show ¬ (1 : Int32) = 0 by decide), if_neg g1, if_neg (show ¬ (2 : Int32) < nI c from g2), x10_isPoint, bind_e, x11_isIn, b99, b160, bind_e]
      by_cases h5 : -99 ≤ a3.toInt ∧ a3.toInt ≤ 160
      · rw [if_pos h5, if_neg (show ¬ (1 : Int32) = 0 by decide), if_neg (show ¬ (1 : Int32) = 0 by decide), x10_isPoint, bind_e, x11_isIn, b99, b160, bind_e]
        by_cases h6 : -99 ≤ a4.toInt ∧ a4.toInt ≤ 160
        · obtain ⟨Z, z1, z2, z3⟩ := hS.asks ht
          rw [if_pos h6, if_neg (show ¬ (1 : Int32) = 0 by decide), if_neg (show ¬ (1 : Int32) = 0 by decide), gG_t (gin_n (k := t) (by omega) (by decide)), nI_clamp (by omega), x6_sum (hS.1.2.2.1 t ht).2.2.2.2.2.2.1 hc, bind_e, z1, bind_e, x11_sum (ζ := zt Mx t) (cu := Mx.1 40 0 0) (fun k hk => ⟨(z2.1 k hk).1, (z2.1 k hk).2.1⟩) hc, bind_e]
          exact ⟨_, Z, rfl, rfl, z3⟩
        · rw [if_neg h6, if_pos rfl, if_pos rfl]; exact ⟨_, Y, rfl, rfl, SameA.rf Y⟩
      · rw [if_neg h5, if_pos rfl, if_pos rfl]; exact ⟨_, Y, rfl, rfl, SameA.rf Y⟩
theorem j_dep {Z : gM} (hS : SN m nf n W H T K Mx Mm) (ht : t < n) (z2 : AK (ct Mx 0 t) (zt Mx t) (Mx.1 40 0 0) Z) (z3 : SameA Mm Z) {x y s : Nat} (hx : x < W) (hy : y < H) (hs : s < K) :
    ∃ d, X9_depthIn 0 (nI t) (nI (plc x y s)) Mx = some d ∧ ((d = -1 ∧ X11_coversSample (nI x) (nI y) (nI s) Z = some 0) ∨ (0 ≤ d.toInt ∧ ¬ d < 0 ∧ X11_coversSample (nI x) (nI y) (nI s) Z = some 1 ∧ X11_depthAt ((8 * nI x) + nI (sX K s)) ((8 * nI y) + nI (sY K s)) Z = some d)) := by
  have hd := hS.1.1.1
  have hW := hd.1
  have hH := hd.2.1
  have md : MD n W H T K Z := z3.md hS.1.2.1.1
  refine ⟨_, x9_depthIn hS.1.1 hS.1.2.2.1 ht 0 hx hy hs, ?_⟩
  rw [x11_covS md hd z2 hs]
  cases hcu : cul (trA (ct Mx 0 t)) (Mx.1 40 0 0) with
  | true =>
    rw [if_pos rfl]
    exact Or.inl ⟨rfl, rfl⟩
  | false =>
    rw [if_neg (by decide)]
    cases htc : trC (ct Mx 0 t) (qx K x s) (qy K y s) with
    | false =>
      rw [dvl_f htc]
      exact Or.inl ⟨rfl, rfl⟩
    | true =>
      have hA := cul_A hcu
      have cbh := ct_cb hS.1.2.2.2.1 ht
      have zbh := (hS.1.1.2.2.2.2.2.2 t ht).2.1
      have bd := trD_bd (ζ := zt Mx t) cbh zbh (pb_q (K := K) (s := s) (show x < 8 by omega)).1 (pb_q (K := K) (s := s) (show y < 8 by omega)).2 htc
      have ex : (8 * nI x : Int32) + nI (sX K s) = qx K x s := by rw [nlit 8, nI_mul, nI_add]; rfl
      have ey : (8 * nI y : Int32) + nI (sY K s) = qy K y s := by rw [nlit 8, nI_mul, nI_add]; rfl
      rw [dvl_t htc, ex, ey, x11_depth cbh zbh z2 hA (pb_q (by omega)).1 (pb_q (by omega)).2]
      refine Or.inr ⟨bd.1, fun z => ?_, rfl, rfl⟩
      have := Int32.lt_iff_toInt_lt.mp z
      have a0 : (0 : Int32).toInt = 0 := rfl
      omega
theorem O9 : O_9 Iv := fun q nf M a1 a2 a3 a4 hq hI => by
  refine qq (F := fun M => X10_depth a1 a2 a3 a4 M) (G := fun M => X11_depth a1 a2 a3 a4 M) (fun Mx Mm h => ?_) hI
  have h0 := h.t0 (v := 0)
  show ∃ r Mm', X10_depth a1 a2 a3 a4 Mx = some r ∧ X11_depth a1 a2 a3 a4 Mm = some (r, Mm') ∧ SameA (wI Mm 50 0 0 0) Mm'
  unfold X11_depth
  rw [gLet_e]
  revert h0
  generalize wI Mm 50 0 0 0 = Y
  intro h0
  unfold X10_depth
  rcases h0.tri a1 with ⟨e1, e2⟩ | ⟨n, W, H, T, K, t, hS, ht, rfl, e1, e2⟩
  · rw [e1, e2, bind_e, bind_e, if_pos rfl, if_pos rfl]; exact ⟨_, Y, rfl, rfl, SameA.rf Y⟩
  · rw [e1, e2, bind_e, bind_e, if_neg (show ¬ (1 : Int32) = 0 by decide), if_neg (show ¬ (1 : Int32) = 0 by decide)]
    rcases j_hasSm (p1 := a2) (p2 := a3) (p3 := a4) hS.1.1 hS.1.2.1.1 with ⟨e1, e2⟩ | ⟨e1, e2, x, y, s, hx, hy, hs, rfl, rfl, rfl⟩
    · rw [e1, e2, bind_e, bind_e, if_pos rfl, if_pos rfl]; exact ⟨_, Y, rfl, rfl, SameA.rf Y⟩
    · obtain ⟨Z, z1, z2, z3⟩ := hS.asks ht
      have hsx := x11_sX (z3.md hS.1.2.1.1) hS.1.1.1 hs
      rw [e1, e2, bind_e, bind_e, if_neg (show ¬ (1 : Int32) = 0 by decide), if_neg (show ¬ (1 : Int32) = 0 by decide), x1_place, bind_e, plc_e, z1, bind_e]
      obtain ⟨d, d1, ⟨rfl, d2⟩ | ⟨-, -, d2, d3⟩⟩ := j_dep hS ht z2 z3 hx hy hs
      · rw [d1, bind_e, d2, bind_e, if_pos rfl]
        exact ⟨_, Z, rfl, rfl, z3⟩
      · rw [d1, bind_e, d2, bind_e, if_neg (show ¬ (1 : Int32) = 0 by decide), hsx.1, bind_e, hsx.2, bind_e, d3, bind_e]
        exact ⟨_, Z, rfl, rfl, z3⟩
theorem O10 : O_10 Iv := fun q nf M a1 a2 a3 hq hI => by
  refine qq (F := fun M => X10_shade a1 a2 a3 M) (G := fun M => X11_shade a1 a2 a3 M) (fun Mx Mm h => ?_) hI
  have h0 := h.t0 (v := 0)
  show ∃ r Mm', X10_shade a1 a2 a3 Mx = some r ∧ X11_shade a1 a2 a3 Mm = some (r, Mm') ∧ SameA (wI Mm 50 0 0 0) Mm'
  unfold X11_shade
  rw [gLet_e]
  revert h0
  generalize wI Mm 50 0 0 0 = Y
  intro h0
  unfold X10_shade
  rcases h0.tri a1 with ⟨e1, e2⟩ | ⟨n, W, H, T, K, t, hS, ht, rfl, e1, e2⟩
  · rw [e1, e2, bind_e, bind_e, if_pos rfl, if_pos rfl]; exact ⟨_, Y, rfl, rfl, SameA.rf Y⟩
  · have hn := hS.1.1.2.1
    have hd := hS.1.1.1
    have hW := hd.1
    have hH := hd.2.1
    rw [e1, e2, bind_e, bind_e, if_neg (show ¬ (1 : Int32) = 0 by decide), if_neg (show ¬ (1 : Int32) = 0 by decide)]
    rcases j_hasP (p1 := a2) (p2 := a3) hS.1.1 hS.1.2.1.1 with ⟨e1, e2⟩ | ⟨e1, e2, x, y, hx, hy, rfl, rfl⟩
    · rw [e1, e2, bind_e, bind_e, if_pos rfl, if_pos rfl]; exact ⟨_, Y, rfl, rfl, SameA.rf Y⟩
    · obtain ⟨Z, z1, z2, z3⟩ := hS.asks ht
      have sh := hS.1.2.2.1 t ht
      have exy : nI y * 8 + nI x = nI (8 * y + x) := by rw [nlit 8, nI_mul, nI_add, Nat.mul_comm]
      rw [e1, e2, bind_e, bind_e, if_neg (show ¬ (1 : Int32) = 0 by decide), if_neg (show ¬ (1 : Int32) = 0 by decide), z1, bind_e, gG_t (gin_n (k := t) (by omega) (by decide)), gG_t (gin_n (k := t) (by omega) (by decide)), nI_clamp (by omega), sh.2.2.1, z2.2.1, exy, gG_t (gin_n (k := 8 * y + x) (by omega) (by decide)), nI_clamp (n := 8 * y + x) (by omega), sh.2.2.2.2.2.2.2.2 x y (by omega) (by omega)]
      by_cases hA : trA (ct Mx 0 t) = 0
      · rw [if_pos hA, if_pos hA]
        exact ⟨_, Z, rfl, rfl, z3⟩
      · have sc := hS.1.2.1.2.2.2 t ht
        rw [if_neg hA, if_neg hA, x11_shade (pat := Mx.1 7 1 t) (col := Mx.1 8 1 t) (ct_cb hS.1.2.2.2.1 ht) (hS.1.1.2.2.2.2.2.2 t ht).2.1 z2 hA (by omega) (by omega) (by omega) (by rw [z3.2 52 4 _ (by omega)]; exact sc.1) (by rw [z3.2 52 4 _ (by omega)]; exact sc.2.2) (hS.1.1.2.2.2.2.2.2 t ht).1, bind_e]
        exact ⟨_, Z, rfl, rfl, z3⟩
theorem O11 : O_11 Iv := fun q nf M a1 a2 a3 a4 hq hI => by
  refine qq (F := fun M => X10_sample a1 a2 a3 a4 M) (G := fun M => X11_sample a1 a2 a3 a4 M) (fun Mx Mm h => ?_) hI
  have h0 := h.t0 (v := 0)
  show ∃ r Mm', X10_sample a1 a2 a3 a4 Mx = some r ∧ X11_sample a1 a2 a3 a4 Mm = some (r, Mm') ∧ SameA (wI Mm 50 0 0 0) Mm'
  unfold X11_sample
  rw [gLet_e]
  revert h0
  generalize wI Mm 50 0 0 0 = Y
  intro h0
  unfold X10_sample
  rcases h0.smp a1 a2 a3 with ⟨e1, e2⟩ | ⟨n, W, H, T, K, x, y, s, hS, hx, hy, hs, rfl, rfl, rfl, e1, e2⟩
  · rw [e1, e2, bind_e, bind_e, if_pos rfl, if_pos rfl]; exact ⟨_, Y, rfl, rfl, SameA.rf Y⟩
  · have hp := plc_lt hS.1.1.1 hx hy hs
    have fs := hS.1.2.2.2.2.2.1 (plc x y s) hp
    rw [e1, e2, bind_e, bind_e, if_neg (show ¬ (1 : Int32) = 0 by decide), if_neg (show ¬ (1 : Int32) = 0 by decide), x1_place, bind_e, plc_e, gLet_e]
    rcases rng (n := 3) (hi := 2) (by omega) (by omega) rfl a4 Y with ⟨o, e⟩ | ⟨e, -, -, -, -, k, hk, rfl⟩
    · rw [e, bind_e, if_pos rfl, if_neg (show ¬ a4 = (0 : Int32) from ne_out (k := 0) (by omega) (by omega) o), if_neg (show ¬ a4 = (1 : Int32) from ne_out (k := 1) (by omega) (by omega) o), if_neg (show ¬ a4 = (2 : Int32) from ne_out (k := 2) (by omega) (by omega) o)]; exact ⟨_, Y, rfl, rfl, SameA.rf Y⟩
    · have em : (256 : Int32) * nI k + nI (plc x y s) = nI (256 * k + plc x y s) := by rw [nlit 256, nI_mul, nI_add]
      unfold X11_place
      rw [e, bind_e, if_neg (show ¬ (1 : Int32) = 0 by decide), bind_e, pl_e, em, gG_t (gin_n (k := 256 * k + plc x y s) (by omega) (by decide)), nI_clamp (n := 256 * k + plc x y s) (by omega), gG_t (gin_n hp (by decide)), nI_clamp (n := plc x y s) (by omega)]
      rcases (show k = 0 ∨ k = 1 ∨ k = 2 by omega) with rfl | rfl | rfl
      · rw [if_pos (show nI 0 = (0 : Int32) from rfl), fs.1.1, show 256 * 0 + plc x y s = plc x y s by omega]; exact ⟨_, Y, rfl, rfl, SameA.rf Y⟩
      · rw [if_neg (show ¬ nI 1 = (0 : Int32) by decide), if_pos (show nI 1 = (1 : Int32) from rfl), gG_t (gin_n hp (by decide)), fs.2.1]; exact ⟨_, Y, rfl, rfl, SameA.rf Y⟩
      · rw [if_neg (show ¬ nI 2 = (0 : Int32) by decide), if_neg (show ¬ nI 2 = (1 : Int32) by decide), if_pos (show nI 2 = (2 : Int32) from rfl), gG_t (gin_n hp (by decide)), fs.2.2.1]; exact ⟨_, Y, rfl, rfl, SameA.rf Y⟩
theorem O14 : O_14 Iv := fun q nf M a1 a2 hq hI => by
  refine qq (F := fun M => X10_bin a1 a2 M) (G := fun M => X11_bin a1 a2 M) (fun Mx Mm h => ?_) hI
  have h0 := h.t0 (v := 0)
  show ∃ r Mm', X10_bin a1 a2 Mx = some r ∧ X11_bin a1 a2 Mm = some (r, Mm') ∧ SameA (wI Mm 50 0 0 0) Mm'
  unfold X11_bin
  rw [gLet_e]
  revert h0
  generalize wI Mm 50 0 0 0 = Y
  intro h0
  unfold X10_bin
  rcases h0.til a1 with ⟨e1, e2⟩ | ⟨n, W, H, T, K, t, hS, ht, rfl, e1, e2⟩
  · rw [e1, e2, bind_e, bind_e, if_pos rfl, if_pos rfl]; exact ⟨_, Y, rfl, rfl, SameA.rf Y⟩
  · have hN := hS.1.1.1.N
    obtain ⟨b, hb, b2, b3, -, b5⟩ := hS.1.2.2.2.2.2.2.1 t (by omega)
    have e7 : (768 : Int32) + (11 * nI t) = nI (768 + 11 * t) := by rw [nlit 11, nI_mul, nlit 768, nI_add]
    rw [e1, e2, bind_e, bind_e, if_neg (show ¬ (1 : Int32) = 0 by decide), if_neg (show ¬ (1 : Int32) = 0 by decide), e7, gG_t (gin_n (k := 768 + 11 * t) (by omega) (by decide)), nI_clamp (n := 768 + 11 * t) (by omega), gG_t (gin_n (k := t) (by omega) (by decide)), nI_clamp (n := t) (by omega), b2, b3]
    by_cases c0 : a2 < 0
    · rw [if_pos c0, if_pos c0]; exact ⟨_, Y, rfl, rfl, SameA.rf Y⟩
    · rw [if_neg c0, if_neg c0]
      by_cases c1 : nI b ≤ a2
      · rw [if_neg (Int32.not_lt.mpr c1), if_pos c1]; exact ⟨_, Y, rfl, rfl, SameA.rf Y⟩
      · obtain ⟨k, hk, rfl⟩ := arg c0 c1 (by omega)
        obtain ⟨u, u1, u2, u3⟩ := b5 k hk
        have e8 : (nI (768 + 11 * t) + 1) + nI k = nI (768 + 11 * t + 1 + k) := by rw [nI_1, nI_add]
        have e9 : nI t * 10 + nI k = nI (10 * t + k) := by rw [nlit 10, nI_mul, nI_add, Nat.mul_comm]
        rw [if_pos (Int32.not_le.mp c1), if_neg c1, e8, e9, gG_t (gin_n (k := 10 * t + k) (by omega) (by decide)), gG_t (gin_n (k := 768 + 11 * t + 1 + k) (by omega) (by decide)), nI_clamp (n := 10 * t + k) (by omega), nI_clamp (n := 768 + 11 * t + 1 + k) (by omega), u2, u3]; exact ⟨_, Y, rfl, rfl, SameA.rf Y⟩
theorem O15 : O_15 Iv := fun q nf M a1 hq hI => by
  refine qq (F := fun M => X10_shaded a1 M) (G := fun M => X11_shaded a1 M) (fun Mx Mm h => ?_) hI
  have h0 := h.t0 (v := 0)
  show ∃ r Mm', X10_shaded a1 Mx = some r ∧ X11_shaded a1 Mm = some (r, Mm') ∧ SameA (wI Mm 50 0 0 0) Mm'
  unfold X11_shaded
  rw [gLet_e]
  revert h0
  generalize wI Mm 50 0 0 0 = Y
  intro h0
  unfold X10_shaded
  rcases h0.tri a1 with ⟨e1, e2⟩ | ⟨n, W, H, T, K, t, hS, ht, rfl, e1, e2⟩
  · rw [e1, e2, bind_e, bind_e, if_pos rfl, if_pos rfl]; exact ⟨_, Y, rfl, rfl, SameA.rf Y⟩
  · have hn := hS.1.1.2.1
    have fl := hS.1.2.2.2.2.2.2.2.1 t ht
    have e3 : (1034 : Int32) + (2 * nI t) = nI (1034 + 2 * t) := by rw [nlit 2, nI_mul, nlit 1034, nI_add]
    rw [e1, e2, bind_e, bind_e, if_neg (show ¬ (1 : Int32) = 0 by decide), if_neg (show ¬ (1 : Int32) = 0 by decide), e3, nI_1, gG_t (gin_n (k := t) (by omega) (by decide)), gG_t (gin_n (k := 1034 + 2 * t + 1) (by omega) (by decide)), gG_t (gin_n (k := 1034 + 2 * t) (by omega) (by decide)), nI_clamp (n := t) (by omega), nI_clamp (n := 1034 + 2 * t + 1) (by omega), nI_clamp (n := 1034 + 2 * t) (by omega), fl]
    exact ⟨_, Y, rfl, rfl, SameA.rf Y⟩
theorem O25 : O_25 Iv := fun q nf M a1 a2 hq hI => by
  refine qq (F := fun M => X10_log a1 a2 M) (G := fun M => X11_log a1 a2 M) (fun Mx Mm h => ?_) hI
  have h0 := h.t0 (v := 0)
  show ∃ r Mm', X10_log a1 a2 Mx = some r ∧ X11_log a1 a2 Mm = some (r, Mm') ∧ SameA (wI Mm 50 0 0 0) Mm'
  unfold X11_log
  rw [gLet_e]
  revert h0
  generalize wI Mm 50 0 0 0 = Y
  intro h0
  unfold X10_log X0_logLength
  rw [bind_e]
  by_cases c0 : a1 < 0
  · rw [if_pos c0, if_pos c0]; exact ⟨_, Y, rfl, rfl, SameA.rf Y⟩
  · rw [if_neg c0, if_neg c0]
    rcases h0.2.2.2.2 with hN | ⟨n, W, H, T, K, hS⟩
    · rw [hN.2.2.2.2.2.1, hN.2.2.2.2.2.2.1, show gmin (0 : Int32) 60 = 0 from rfl, if_pos (Int32.not_lt.mp c0), if_pos (Int32.not_lt.mp c0)]; exact ⟨_, Y, rfl, rfl, SameA.rf Y⟩
    · obtain ⟨lg, g1, g2, g3, g4⟩ := hS.2.2.1
      rw [g1, g3, nlit 60, nI_min (by omega) (by omega)]
      by_cases c1 : nI (min lg 60) ≤ a1
      · rw [if_pos c1, if_pos c1]; exact ⟨_, Y, rfl, rfl, SameA.rf Y⟩
      · obtain ⟨e, he, rfl⟩ := arg c0 c1 (by omega)
        rw [if_neg c1, if_neg c1]
        rcases rng (n := 3) (hi := 2) (by omega) (by omega) rfl a2 Y with ⟨o, e⟩ | ⟨e', g5, -, -, g6, c, hc, rfl⟩
        · rw [e, bind_e, if_pos rfl]
          rcases o with o | o
          · rw [if_pos o]; exact ⟨_, Y, rfl, rfl, SameA.rf Y⟩
          · rw [if_neg o.1, if_neg (show ¬ a2 ≤ (2 : Int32) from o.2.2.2)]; exact ⟨_, Y, rfl, rfl, SameA.rf Y⟩
        · have em : (1062 : Int32) + (3 * ((nI (min lg 60) - 1) - nI e)) + nI c = nI (1062 + 3 * (min lg 60 - 1 - e) + c) := by rw [nlit 1, nI_sub (by omega), nI_sub (by omega), nlit 3, nI_mul, nlit 1062, nI_add, nI_add]
          have ex : (nI lg - 1 : Int32) - nI e = nI (lg - 1 - e) := by rw [nlit 1, nI_sub (by omega), nI_sub (by omega)]
          have hm := Nat.mod_lt (lg - 1 - e) (show 0 < 60 by decide)
          have ey : nI ((lg - 1 - e) % 60) * 3 + nI c = nI (3 * ((lg - 1 - e) % 60) + c) := by rw [nlit 3, nI_mul, nI_add, Nat.mul_comm]
          unfold X0_noted
          rw [e', bind_e, if_neg (show ¬ (1 : Int32) = 0 by decide), if_neg g5, if_pos (show nI c ≤ (2 : Int32) from g6), g1, ex, fl_mod (by omega), bind_e, ey, em, gG_t (gin_n (k := 3 * ((lg - 1 - e) % 60) + c) (by omega) (by decide)), gG_t (gin_n (k := 1062 + 3 * (min lg 60 - 1 - e) + c) (by omega) (by decide)), nI_clamp (n := 3 * ((lg - 1 - e) % 60) + c) (by omega), nI_clamp (n := 1062 + 3 * (min lg 60 - 1 - e) + c) (by omega), g4 e he c hc, bind_e]
          exact ⟨_, Y, rfl, rfl, SameA.rf Y⟩
end QB
