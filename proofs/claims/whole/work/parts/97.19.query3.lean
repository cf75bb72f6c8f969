/-! queries: masks, pixels, tiles -/
section QC
variable {n W H T K i j k t tl m nf nf' q q' : Nat} {M M' Mx Mm Mx' Mm' X Y Y' : gM} {p p1 p2 p3 p4 v r : Int32}
def mnD (f : Nat → Int32) (a : Nat × Nat × Nat) (u : Int32) : Option Int32 := some (if u ≤ f (plA a) then u else f (plA a))
theorem j_near (hj : j = 8 ∨ j = 9) (h : RJ n W H T K i j Mx Mm) (htl : tl < tN W H T) : ∃ F : Int32, X1_nearOf i (nI tl) Mx = some F ∧ X11_depthOf j (nI tl) 0 Mm = some F ∧ 0 ≤ F.toInt ∧ F.toInt ≤ 1000 := by
  have hd := h.1.1
  have hN := hd.N
  have hf := hd.t htl
  have hW := hd.1
  have hH := hd.2.1
  have hK := hd.2.2.2
  have go := h.1.2.2.2.2.1
  have fs := h.2.2.2.2.2.1
  have g1 := go_first go hd htl
  have g3 := fS_le (m := tl + 1) hd (by omega)
  have hp : ∀ a ∈ tS W H T K tl, plA a < 256 := fun a ha => by
    have := tS_mem ha
    exact plc_lt hd (x := a.1) (y := a.2.1) (by omega) (by omega) this.2.2
  -- the class
  have ec := c_tileR (σ := Int32 × Int32) hd htl (fun k u => (u, k)) (fun _ => True) (fun p u => gG (gin p 256) (some (if u ≤ Mx.1 34 i (Int32.toNatClampNeg p) then u else Mx.1 34 i (Int32.toNatClampNeg p)))) (fun s => X1_nearOf_L12 i (nI tl) s.1 s.2 Mx)
    (fun _ _ _ _ _ _ => trivial)
    (fun k u hk _ => by
      have g2 := go_at go hd hk htl
      show X1_nearOf_L12 i (nI tl) u (nI k) Mx = _
      unfold X1_nearOf_L12
      rw [gG_t g1.1, g1.2, if_neg (nI_ge hk (by omega)), gG_t (gin_n g2.1 (by decide)), g2.2, gLet_e]
      cases gin (nI (plA ((tA W H T K (tN W H T)).getD k (0, 0, 0)))) 256 with
      | false => rfl
      | true =>
        rw [gG_t rfl, gG_t rfl]
        split <;> rfl)
    (fun u _ => by
      show X1_nearOf_L12 i (nI tl) u _ Mx = _
      unfold X1_nearOf_L12
      rw [gG_t g1.1, g1.2, if_pos (nI_le (Nat.le_refl _) (by omega))]) 1000 trivial
  -- the reference
  have d0 : Int32 := Mm.1 52 j (plc (tL W T tl) (tU W T tl) 0)
  have em := m_tileR (σ := Int32 × Int32) hd htl (fun k u => (u, k)) (fun _ => True) (fun a b c u => (X11_place a b c Mm).bind fun r => gG (gin (0 + r) (gLen 52 j)) (some (if u ≤ Mm.1 52 j (Int32.toNatClampNeg (0 + r)) then u else Mm.1 52 j (Int32.toNatClampNeg (0 + r))))) (fun _ => X11_lowOf (nI tl) Mm) (fun _ => X11_leftOf (nI tl) Mm) (fun _ => X11_rightOf (nI tl) Mm) (fun _ => Mm.1 52 2 3)
    (fun _ _ => x11_low hd h.2.1.1 (by omega)) (fun _ _ => x11_left hd h.2.1.1 (by omega)) (fun _ _ => x11_right hd h.2.1.1 (by omega)) (fun _ _ => h.2.1.1.2.2.2.2)
    (fun _ _ _ _ _ _ _ _ _ _ => trivial)
    (fun s => X11_depthOf_L27 j (nI tl) 0 s.1 s.2 Mm) (fun y s => X11_depthOf_L44 j (nI tl) 0 y s.1 s.2 Mm) (fun y a s => X11_depthOf_L57 j (nI tl) 0 y a s.1 s.2 Mm)
    (fun y x => rfl) (fun y a x => rfl) (fun y a s x => by
      show X11_depthOf_L57 j (nI tl) 0 y a x s Mm = _
      unfold X11_depthOf_L57
      by_cases q : Mm.1 52 2 3 ≤ s
      · rw [if_pos q, if_pos q]
      · rw [if_neg q, if_neg q]
        unfold X11_place
        rw [bind_e, bind_e]
        cases gin (0 + (4 * (8 * y + a) + s)) (gLen 52 j) with
        | false => rfl
        | true =>
          rw [gG_t rfl, gG_t rfl, gLet_e, if_pos rfl]
          split <;> rfl)
  have cc : ∀ u, gFM (fun (a : Nat × Nat × Nat) z => gG (gin (nI (plA a)) 256) (some (if z ≤ Mx.1 34 i (Int32.toNatClampNeg (nI (plA a))) then z else Mx.1 34 i (Int32.toNatClampNeg (nI (plA a)))))) (tS W H T K tl) u = gFM (mnD (Mx.1 34 i)) (tS W H T K tl) u := fun u => gFM_congr (fun _ => True) _ (fun a ha x _ => by
    have q := hp a ha
    rw [gG_t (gin_n q (by decide)), nI_clamp (by omega)]
    rfl) (fun _ _ _ _ _ _ => trivial) u trivial
  have cm : ∀ u, gFM (fun (a : Nat × Nat × Nat) z => (X11_place (nI a.1) (nI a.2.1) (nI a.2.2) Mm).bind fun r => gG (gin (0 + r) (gLen 52 j)) (some (if z ≤ Mm.1 52 j (Int32.toNatClampNeg (0 + r)) then z else Mm.1 52 j (Int32.toNatClampNeg (0 + r))))) (tS W H T K tl) u = gFM (mnD (Mx.1 34 i)) (tS W H T K tl) u := fun u => gFM_congr (fun _ => True) _ (fun a ha x _ => by
    have q := hp a ha
    unfold X11_place
    rw [bind_e, pl_e, Int32.zero_add, gLen8 hj]
    show gG (gin (nI (plA a)) 1242) (some (if x ≤ Mm.1 52 j (Int32.toNatClampNeg (nI (plA a))) then x else Mm.1 52 j (Int32.toNatClampNeg (nI (plA a))))) = _
    rw [gG_t (gin_n (n := 1242) (by omega) (by decide)), nI_clamp (by omega), ← (fs (plA a) q).1.1]
    rfl) (fun _ _ _ _ _ _ => trivial) u trivial
  obtain ⟨l, hl⟩ := tS_head hd htl
  have h0 : plc (tL W T tl) (tU W T tl) 0 < 256 := hp (tL W T tl, tU W T tl, 0) (by rw [hl]; exact List.mem_cons_self)
  have f0 := fs _ h0
  obtain ⟨F, hF, bF⟩ := gFM_get (f := mnD (Mx.1 34 i)) (fun z => 0 ≤ z.toInt ∧ z.toInt ≤ 1000) (tS W H T K tl) 1000 (by decide) (fun a ha x hx => by
    unfold mnD
    refine ⟨_, rfl, ?_⟩
    split
    · exact hx
    · exact (fs _ (hp a ha)).1.2)
  have hF2 : gFM (mnD (Mx.1 34 i)) (tS W H T K tl) (Mx.1 34 i (plc (tL W T tl) (tU W T tl) 0)) = some F := by
    rw [← hF, hl, gFM_cons, gFM_cons]
    have e1 : mnD (Mx.1 34 i) (tL W T tl, tU W T tl, 0) (Mx.1 34 i (plc (tL W T tl) (tU W T tl) 0)) = some (Mx.1 34 i (plc (tL W T tl) (tU W T tl) 0)) := by
      unfold mnD
      show some (if Mx.1 34 i (plc (tL W T tl) (tU W T tl) 0) ≤ Mx.1 34 i (plc (tL W T tl) (tU W T tl) 0) then _ else _) = _
      rw [if_pos (Int32.le_refl _)]
    have e2 : mnD (Mx.1 34 i) (tL W T tl, tU W T tl, 0) 1000 = some (Mx.1 34 i (plc (tL W T tl) (tU W T tl) 0)) := by
      unfold mnD
      show some (if 1000 ≤ Mx.1 34 i (plc (tL W T tl) (tU W T tl) 0) then 1000 else Mx.1 34 i (plc (tL W T tl) (tU W T tl) 0)) = _
      split
      · next q =>
        have q2 := Int32.le_iff_toInt_le.mp q
        have : (1000 : Int32).toInt = 1000 := rfl
        congr 1
        apply Int32.toInt_inj.mp
        omega
      · rfl
    rw [e1, e2]
  refine ⟨F, ?_, ?_, bF⟩
  · unfold X1_nearOf
    rw [gG_t (gin_n (by omega) (by decide)), nI_clamp (by omega), go.1 tl (by omega), gLet_e, ec, cc, hF]
    rfl
  · unfold X11_depthOf
    rw [x11_left hd h.2.1.1 (by omega), bind_e, x11_top hd h.2.1.1 (by omega), bind_e]
    unfold X11_place
    rw [bind_e, nlit 0, pl_e, nI_0, Int32.zero_add, gLen8 hj, gG_t (gin_n (n := 1242) (by omega) (by decide)), nI_clamp (by omega), gLet_e, bind_e, ← f0.1.1]
    have := (em _ trivial).trans ((cm _).trans hF2)
    rw [this]
    rfl
theorem j_mask {Z : gM} (hS : SN m nf n W H T K Mx Mm) (ht : t < n) (z2 : AK (ct Mx 0 t) (zt Mx t) (Mx.1 40 0 0) Z) (z3 : SameA Mm Z) {x y : Nat} (hx : x < W) (hy : y < H) :
    ∃ v, gIter (fun s => X10_mask_L31 (nI t) (nI x) (nI y) s.1 s.2 Mx) FU (0, 0) = some v ∧ X11_maskOf (nI x) (nI y) Z = some v := by
  have hd := hS.1.1.1
  have hK := hd.2.2.2
  have md : MD n W H T K Z := z3.md hS.1.2.1.1
  obtain ⟨e, d, e1, e2, e3⟩ := gI2_FU (s1 := fun s : Int32 × Int32 => X10_mask_L31 (nI t) (nI x) (nI y) s.1 s.2 Mx) (s2 := fun s : Int32 × Int32 => X11_maskOf_L5 (nI x) (nI y) s.1 s.2 Z) (fun k (u : Int32) => (u, nI k)) (fun k (u : Int32) => (u, nI k)) (fun _ a b => a = b) (fun a b => a = b) 0 K (by omega) (by omega)
    (fun k a b hk hR => by
      subst hR
      obtain ⟨d, d1, d2⟩ := j_dep hS ht z2 z3 hx hy hk
      rcases d2 with ⟨rfl, d2⟩ | ⟨-, d3, d2, -⟩
      · refine ⟨a, a, ?_, ?_, rfl⟩
        · show X10_mask_L31 (nI t) (nI x) (nI y) a (nI k) Mx = _
          unfold X10_mask_L31
          rw [hS.1.1.2.2.2.1.2.2.2.1, if_neg (nI_ge hk (by omega)), x1_place, bind_e, plc_e, d1, bind_e, if_pos (by decide), gLet_e, nI_1]
        · show X11_maskOf_L5 (nI x) (nI y) a (nI k) Z = _
          unfold X11_maskOf_L5
          rw [md.2.2.2.2, if_neg (nI_ge hk (by omega)), d2, bind_e, if_pos rfl, gLet_e, gLet_e, nI_1, Int32.or_zero]
      · refine ⟨a ||| (1 <<< (nI k &&& 31)), a ||| (1 <<< (nI k &&& 31)), ?_, ?_, rfl⟩
        · show X10_mask_L31 (nI t) (nI x) (nI y) a (nI k) Mx = _
          unfold X10_mask_L31
          rw [hS.1.1.2.2.2.1.2.2.2.1, if_neg (nI_ge hk (by omega)), x1_place, bind_e, plc_e, d1, bind_e, if_neg d3, gLet_e, gLet_e, nI_1]
        · show X11_maskOf_L5 (nI x) (nI y) a (nI k) Z = _
          unfold X11_maskOf_L5
          rw [md.2.2.2.2, if_neg (nI_ge hk (by omega)), d2, bind_e, if_neg (show ¬ (1 : Int32) = 0 by decide), gLet_e, gLet_e, nI_1])
    (fun a b hR => ⟨a, b, by
      show X10_mask_L31 (nI t) (nI x) (nI y) a (nI K) Mx = _
      unfold X10_mask_L31
      rw [hS.1.1.2.2.2.1.2.2.2.1, if_pos (nI_le (Nat.le_refl _) (by omega))], by
      show X11_maskOf_L5 (nI x) (nI y) b (nI K) Z = _
      unfold X11_maskOf_L5
      rw [md.2.2.2.2, if_pos (nI_le (Nat.le_refl _) (by omega))], hR⟩) 0 0 rfl
  subst e3
  refine ⟨e, e1, ?_⟩
  unfold X11_maskOf
  have e2 : gIter (fun s => X11_maskOf_L5 (nI x) (nI y) s.1 s.2 Z) FU (0, 0) = some e := e2
  rw [e2]
  rfl
theorem j_res (hj : j = 8 ∨ j = 9) (h : RJ n W H T K i j Mx Mm) {x y : Nat} (hx : x < W) (hy : y < H) : ∃ v, X1_resolved i (nI (8 * y + x)) Mx = some v ∧ X11_resolved j (nI x) (nI y) Mm = some v := by
  have hd := h.1.1
  have hW := hd.1
  have hH := hd.2.1
  have hK := hd.2.2.2
  have md := h.2.1.1
  obtain ⟨e, d, e1, e2, e3⟩ := gI2_FU (s1 := fun s : Int32 × Int32 => X1_resolved_L5 i (nI (8 * y + x)) s.1 s.2 Mx) (s2 := fun s : Int32 × Int32 => X11_resolved_L6 j (nI x) (nI y) s.1 s.2 Mm) (fun k (u : Int32) => (u, nI k)) (fun k (u : Int32) => (u, nI k)) (fun _ a b => a = b) (fun a b => a = b) 0 K (by omega) (by omega)
    (fun k a b hk hR => by
      subst hR
      have hp := plc_lt hd hx hy hk
      have fs := h.2.2.2.2.2.1 (plc x y k) hp
      refine ⟨a + Mx.1 35 i (plc x y k), a + Mx.1 35 i (plc x y k), ?_, ?_, rfl⟩
      · show X1_resolved_L5 i (nI (8 * y + x)) a (nI k) Mx = _
        unfold X1_resolved_L5
        have ep : nI (8 * y + x) * 4 + nI k = nI (plc x y k) := by rw [nlit 4, nI_mul, Nat.mul_comm, plc_e]
        rw [h.1.2.2.2.1.2.2.2.1, if_neg (nI_ge hk (by omega)), ep, gG_t (gin_n hp (by decide)), nI_clamp (by omega), gLet_e, gLet_e, nI_1]
      · show X11_resolved_L6 j (nI x) (nI y) a (nI k) Mm = _
        unfold X11_resolved_L6 X11_place
        rw [md.2.2.2.2, if_neg (nI_ge hk (by omega)), bind_e, pl_e, nlit 256, nI_add, gl8 hj, gG_t (gin_n (k := 256 + plc x y k) (by omega) (by decide)), nI_clamp (n := 256 + plc x y k) (by omega), gLet_e, gLet_e, nI_1, fs.2.1])
    (fun a b hR => ⟨a, b, by
      show X1_resolved_L5 i (nI (8 * y + x)) a (nI K) Mx = _
      unfold X1_resolved_L5
      rw [h.1.2.2.2.1.2.2.2.1, if_pos (nI_le (Nat.le_refl _) (by omega))], by
      show X11_resolved_L6 j (nI x) (nI y) b (nI K) Mm = _
      unfold X11_resolved_L6
      rw [md.2.2.2.2, if_pos (nI_le (Nat.le_refl _) (by omega))], hR⟩) 0 0 rfl
  subst e3
  have k0 : decide (¬ nI K = 0) = true := decide_eq_true (nI_ne0 (by omega) (by omega))
  have e1 : gIter (fun s => X1_resolved_L5 i (nI (8 * y + x)) s.1 s.2 Mx) FU (0, 0) = some e := e1
  have e2 : gIter (fun s => X11_resolved_L6 j (nI x) (nI y) s.1 s.2 Mm) FU (0, 0) = some e := e2
  refine ⟨e / nI K, ?_, ?_⟩
  · unfold X1_resolved
    rw [e1, bind_e, h.1.2.2.2.1.2.2.2.1, if_neg (gd_gt (n := K) (by omega) (by omega)), gG_t k0]
  · unfold X11_resolved
    rw [e2, bind_e, md.2.2.2.2, gG_t k0]
theorem tS_len (W H T K t : Nat) : (tS W H T K t).length = (tD W H T t - tU W T t) * ((tR W T t - tL W T t) * K) := by
  unfold tS tX
  rw [List.length_flatMap]
  have e : (fun y : Nat => ((List.range' (tL W T t) (tR W T t - tL W T t)).flatMap fun x => (List.range' 0 K).map fun s => (x, y, s)).length) = fun _ => (tR W T t - tL W T t) * K := by
    funext y
    rw [List.length_flatMap]
    have e2 : (fun x : Nat => ((List.range' 0 K).map fun s => (x, y, s)).length) = fun _ => K := by
      funext x
      rw [List.length_map, List.length_range']
    rw [e2, List.map_const', List.sum_replicate_nat, List.length_range']
  rw [e, List.map_const', List.sum_replicate_nat, List.length_range']
theorem O8 : O_8 Iv := fun q nf M a1 a2 a3 hq hI => by
  refine qq (F := fun M => X10_mask a1 a2 a3 M) (G := fun M => X11_mask a1 a2 a3 M) (fun Mx Mm h => ?_) hI
  have h0 := h.t0 (v := 0)
  show ∃ r Mm', X10_mask a1 a2 a3 Mx = some r ∧ X11_mask a1 a2 a3 Mm = some (r, Mm') ∧ SameA (wI Mm 50 0 0 0) Mm'
  unfold X11_mask
  rw [gLet_e]
  revert h0
  generalize wI Mm 50 0 0 0 = Y
  intro h0
  unfold X10_mask
  rcases h0.tri a1 with ⟨e1, e2⟩ | ⟨n, W, H, T, K, t, hS, ht, rfl, e1, e2⟩
  · rw [e1, e2, bind_e, bind_e, if_pos rfl, if_pos rfl]; exact ⟨_, Y, rfl, rfl, SameA.rf Y⟩
  · rw [e1, e2, bind_e, bind_e, if_neg (show ¬ (1 : Int32) = 0 by decide), if_neg (show ¬ (1 : Int32) = 0 by decide)]
    rcases j_hasP (p1 := a2) (p2 := a3) hS.1.1 hS.1.2.1.1 with ⟨e1, e2⟩ | ⟨e1, e2, x, y, hx, hy, rfl, rfl⟩
    · rw [e1, e2, bind_e, bind_e, if_pos rfl, if_pos rfl]; exact ⟨_, Y, rfl, rfl, SameA.rf Y⟩
    · obtain ⟨Z, z1, z2, z3⟩ := hS.asks ht
      obtain ⟨v, v1, v2⟩ := j_mask hS ht z2 z3 hx hy
      rw [e1, e2, bind_e, bind_e, if_neg (show ¬ (1 : Int32) = 0 by decide), if_neg (show ¬ (1 : Int32) = 0 by decide), z1, bind_e, v1, v2, bind_e, bind_e]
      exact ⟨_, Z, rfl, rfl, z3⟩
theorem O12 : O_12 Iv := fun q nf M a1 a2 hq hI => by
  refine qq (F := fun M => X10_pixel a1 a2 M) (G := fun M => X11_pixel a1 a2 M) (fun Mx Mm h => ?_) hI
  have h0 := h.t0 (v := 0)
  show ∃ r Mm', X10_pixel a1 a2 Mx = some r ∧ X11_pixel a1 a2 Mm = some (r, Mm') ∧ SameA (wI Mm 50 0 0 0) Mm'
  unfold X11_pixel
  rw [gLet_e]
  revert h0
  generalize wI Mm 50 0 0 0 = Y
  intro h0
  unfold X10_pixel
  rcases h0.pix a1 a2 with ⟨e1, e2⟩ | ⟨n, W, H, T, K, x, y, hS, hx, hy, rfl, rfl, e1, e2⟩
  · rw [e1, e2, bind_e, bind_e, if_pos rfl, if_pos rfl]; exact ⟨_, Y, rfl, rfl, SameA.rf Y⟩
  · obtain ⟨v, v1, v2⟩ := j_res (Or.inl rfl) hS.1 hx hy
    have exy : nI y * 8 + nI x = nI (8 * y + x) := by rw [nlit 8, nI_mul, nI_add, Nat.mul_comm]
    rw [e1, e2, bind_e, bind_e, if_neg (show ¬ (1 : Int32) = 0 by decide), if_neg (show ¬ (1 : Int32) = 0 by decide), exy, v1, v2, bind_e, bind_e]
    exact ⟨_, Y, rfl, rfl, SameA.rf Y⟩
theorem O13 : O_13 Iv := fun q nf M a1 a2 hq hI => by
  refine qq (F := fun M => X10_tile a1 a2 M) (G := fun M => X11_tile a1 a2 M) (fun Mx Mm h => ?_) hI
  have h0 := h.t0 (v := 0)
  show ∃ r Mm', X10_tile a1 a2 Mx = some r ∧ X11_tile a1 a2 Mm = some (r, Mm') ∧ SameA (wI Mm 50 0 0 0) Mm'
  unfold X11_tile
  rw [gLet_e]
  revert h0
  generalize wI Mm 50 0 0 0 = Y
  intro h0
  unfold X10_tile
  rcases h0.til a1 with ⟨e1, e2⟩ | ⟨n, W, H, T, K, t, hS, ht, rfl, e1, e2⟩
  · rw [e1, e2, bind_e, bind_e, if_pos rfl, if_pos rfl]; exact ⟨_, Y, rfl, rfl, SameA.rf Y⟩
  · have hd := hS.1.1.1
    have hN := hd.N
    have hf := hd.t ht
    have hW := hd.1
    have hH := hd.2.1
    have hK := hd.2.2.2
    rw [e1, e2, bind_e, bind_e, if_neg (show ¬ (1 : Int32) = 0 by decide), if_neg (show ¬ (1 : Int32) = 0 by decide)]
    rcases rng (n := 5) (hi := 4) (by omega) (by omega) rfl a2 Y with ⟨o, e⟩ | ⟨e, -, -, -, -, k, hk, rfl⟩
    · rw [e, bind_e, if_pos rfl, if_neg (show ¬ a2 = (0 : Int32) from ne_out (k := 0) (by omega) (by omega) o), if_neg (show ¬ a2 = (1 : Int32) from ne_out (k := 1) (by omega) (by omega) o), if_neg (show ¬ a2 = (2 : Int32) from ne_out (k := 2) (by omega) (by omega) o), if_neg (show ¬ a2 = (3 : Int32) from ne_out (k := 3) (by omega) (by omega) o), if_neg (show ¬ a2 = (4 : Int32) from ne_out (k := 4) (by omega) (by omega) o)]; exact ⟨_, Y, rfl, rfl, SameA.rf Y⟩
    · rw [e, bind_e, if_neg (show ¬ (1 : Int32) = 0 by decide)]
      rcases (show k = 0 ∨ k = 1 ∨ k = 2 ∨ k = 3 ∨ k = 4 by omega) with rfl | rfl | rfl | rfl | rfl
      · obtain ⟨b, hb, b2, b3, -, b5⟩ := hS.1.2.2.2.2.2.2.1 t (by omega)
        have e7 : (768 : Int32) + (11 * nI t) = nI (768 + 11 * t) := by rw [nlit 11, nI_mul, nlit 768, nI_add]
        rw [if_pos (show nI 0 = (0 : Int32) from rfl), e7, gG_t (gin_n (k := 768 + 11 * t) (by omega) (by decide)), nI_clamp (n := 768 + 11 * t) (by omega), gG_t (gin_n (k := t) (by omega) (by decide)), nI_clamp (n := t) (by omega), b2, b3]; exact ⟨_, Y, rfl, rfl, SameA.rf Y⟩
      · obtain ⟨F, f1, f2, -⟩ := j_far (Or.inl rfl) hS.1 ht
        rw [if_neg (show ¬ nI 1 = (0 : Int32) by decide), if_pos (show nI 1 = (1 : Int32) from rfl), f1, f2, bind_e, bind_e]; exact ⟨_, Y, rfl, rfl, SameA.rf Y⟩
      · obtain ⟨F, f1, f2, -⟩ := j_near (Or.inl rfl) hS.1 ht
        rw [if_neg (show ¬ nI 2 = (0 : Int32) by decide), if_neg (show ¬ nI 2 = (1 : Int32) by decide), if_pos (show nI 2 = (2 : Int32) from rfl), f1, f2, bind_e, bind_e]; exact ⟨_, Y, rfl, rfl, SameA.rf Y⟩
      · obtain ⟨f1, f2⟩ := j_pend (Or.inl rfl) hS.1 hS.2.1 ht
        rw [if_neg (show ¬ nI 3 = (0 : Int32) by decide), if_neg (show ¬ nI 3 = (1 : Int32) by decide), if_neg (show ¬ nI 3 = (2 : Int32) by decide), if_pos (show nI 3 = (3 : Int32) from rfl), f1, f2, bind_e, bind_e]; exact ⟨_, Y, rfl, rfl, SameA.rf Y⟩
      · have go := hS.1.1.2.2.2.2.1
        have ls := tS_len W H T K t
        have l4 := fS_succ W H T K t
        have l5 := fS_le (m := t + 1) hd (by omega)
        unfold X1_pixelsOf
        rw [if_neg (show ¬ nI 4 = (0 : Int32) by decide), if_neg (show ¬ nI 4 = (1 : Int32) by decide), if_neg (show ¬ nI 4 = (2 : Int32) by decide), if_neg (show ¬ nI 4 = (3 : Int32) by decide), if_pos (show nI 4 = (4 : Int32) from rfl), x11_right hd hS.1.2.1.1 (by omega), bind_e, x11_left hd hS.1.2.1.1 (by omega), bind_e, x11_low hd hS.1.2.1.1 (by omega), bind_e, x11_top hd hS.1.2.1.1 (by omega), bind_e, nI_1, gG_t (gin_n (k := t + 1) (by omega) (by decide)), gG_t (gin_n (k := t) (by omega) (by decide)), nI_clamp (n := t + 1) (by omega), nI_clamp (n := t) (by omega), go.1 (t + 1) (by omega), go.1 t (by omega), hS.1.1.2.2.2.1.2.2.2.1, if_neg (gd_gt (n := K) (by omega) (by omega)), gG_t (decide_eq_true (nI_ne0 (by omega) (by omega))), nI_sub (by omega), nI_div (by omega) (by omega), nI_sub (by omega), nI_sub (by omega), nI_mul, bind_e]
        refine ⟨_, Y, rfl, ?_, SameA.rf Y⟩
        have e9 : (fS W H T K (t + 1) - fS W H T K t) / K = (tR W T t - tL W T t) * (tD W H T t - tU W T t) := by
          rw [l4, Nat.add_sub_cancel_left, ls, ← Nat.mul_assoc, Nat.mul_div_cancel _ (by omega), Nat.mul_comm]
        rw [e9, if_neg (show ¬ nI 4 = (0 : Int32) by decide), if_neg (show ¬ nI 4 = (1 : Int32) by decide), if_neg (show ¬ nI 4 = (2 : Int32) by decide), if_neg (show ¬ nI 4 = (3 : Int32) by decide)]
end QC
