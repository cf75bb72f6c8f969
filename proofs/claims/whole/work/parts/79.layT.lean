/-! a triangle laid over a tile; how far a tile reaches -/
def TL (W H T K tl c : Nat) : Prop := ∃ x y s, (tL W T tl ≤ x ∧ x < tR W T tl) ∧ (tU W T tl ≤ y ∧ y < tD W H T tl) ∧ s < K ∧ c = plc x y s
section LT
variable {n W H T K i j k t tl x y s : Nat} {M M' Mx Mm Mx' Mm' : gM}
def JT (n W H T K i j tl : Nat) (Mx Mm Mx' Mm' : gM) : Prop := RJ n W H T K i j Mx' Mm' ∧ OX i Mx Mx' ∧ OM j Mm Mm' ∧ ∀ c, ¬ TL W H T K tl c → Mx'.1 36 i c = Mx.1 36 i c
theorem JT.rf (h : RJ n W H T K i j Mx Mm) : JT n W H T K i j tl Mx Mm Mx Mm := ⟨h, OX.rf i Mx, OM.rf j Mm, fun _ _ => rfl⟩
theorem JT.tr {Mx'' Mm'' : gM} (h : JT n W H T K i j tl Mx Mm Mx' Mm') (h' : JT n W H T K i j tl Mx' Mm' Mx'' Mm'') : JT n W H T K i j tl Mx Mm Mx'' Mm'' := ⟨h'.1, h.2.1.tr h'.2.1, h.2.2.1.tr h'.2.2.1, fun c hc => (h'.2.2.2 c hc).trans (h.2.2.2 c hc)⟩
theorem JT.smp (h : JT n W H T K i j tl Mx Mm M M') (hx : (tL W T tl ≤ x ∧ x < tR W T tl) ∧ tU W T tl ≤ y ∧ y < tD W H T tl) (hs : s < K) (h' : JS n W H T K i j (plc x y s) M M' Mx' Mm') : JT n W H T K i j tl Mx Mm Mx' Mm' :=
  ⟨h'.1, h.2.1.tr h'.2.1, h.2.2.1.tr h'.2.2.1, fun c hc => (h'.2.2.2 c (fun z => hc ⟨x, y, s, hx.1, hx.2, hs, z⟩)).trans (h.2.2.2 c hc)⟩
theorem go_first (h : GO W H T K M) (hd : dOk W H T K) (ht : tl < tN W H T) : gin (nI tl + 1) 17 = true ∧ M.1 14 0 (Int32.toNatClampNeg (nI tl + 1)) = nI (fS W H T K (tl + 1)) := by
  have hN := hd.N
  rw [nI_1, nI_clamp (by omega)]
  exact ⟨gin_n (by omega) (by decide), h.1 (tl + 1) (by omega)⟩
theorem go_at (h : GO W H T K M) (hd : dOk W H T K) (hk : k < fS W H T K (tl + 1)) (ht : tl < tN W H T) : k < 256 ∧ M.1 13 0 (Int32.toNatClampNeg (nI k)) = nI (plA ((tA W H T K (tN W H T)).getD k (0, 0, 0))) := by
  have h1 := fS_le (m := tl + 1) hd (by omega)
  obtain ⟨l, hl⟩ := tA_pre (W := W) (H := H) (T := T) (K := K) (show tl + 1 ≤ tN W H T by omega)
  have h2 := tA_len hd
  rw [hl, List.length_append] at h2
  have h3 : fS W H T K (tl + 1) ≤ W * H * K := by unfold fS; omega
  rw [nI_clamp (by omega)]
  exact ⟨by omega, h.2 k (by omega)⟩
theorem j_layT (hj : j = 8 ∨ j = 9) (h : RJ n W H T K i j Mx Mm) (ht : t < n) (hc : cul (trA (ct Mx i t)) (Mx.1 40 i 0) = false) (ak : akO i t Mx Mm) (htl : tl < tN W H T) :
    ∃ Mx' Mm', X9_layOne i (nI t) (nI tl) Mx = some Mx' ∧ gIter (fun s => X11_lays_L41 j (nI tl) (nI t) s.1 s.2) FU (nI (tU W T tl), Mm) = some Mm' ∧ JT n W H T K i j tl Mx Mm Mx' Mm' := by
  have hd := h.1.1
  have hn := h.1.2.1
  have hN := hd.N
  have R2 := tile_rel (β := gM) (γ := gM) (σ := Int32 × gM) (ρ := Int32 × gM) hd htl (fun u v => JT n W H T K i j tl Mx Mm u v ∧ akO i t u v)
    (fun p u => layB i t (nI t) (Mx.1 9 1 t) (if Mx.1 40 i 2 = 1 then 1 else 0) p u) (fun a b c v => X11_laysAt j (nI t) a b c v)
    (fun x y s hx hy hs hin u v hr => by
      obtain ⟨u', v', g1, g2, g3, g4⟩ := j_lay (x5 := Mx.1 9 1 t) (x6 := if Mx.1 40 i 2 = 1 then 1 else 0) hj hr.1.1 ht (by rw [hr.1.2.1.ct, hr.1.2.1.1 40 i 0 (by unfold xQ; omega)]; exact hc) hr.2 (hr.1.2.1.1 9 1 t (by unfold xQ; omega)).symm (by rw [hr.1.2.1.1 40 i 2 (by unfold xQ; omega)]) hx hy hs
      exact ⟨u', v', g1, g2, hr.1.smp hin hs g3, g4⟩)
    (fun k u => (k, u)) (fun s => X9_layOne_L50 i (nI t) (nI tl) t (Mx.1 9 1 t) (if Mx.1 40 i 2 = 1 then 1 else 0) s.1 s.2)
    (fun k u v hk hr => by
      have go := hr.1.1.1.2.2.2.2.1
      have g1 := go_first go hd htl
      have g2 := go_at go hd hk htl
      have g3 := fS_le (m := tl + 1) hd (by omega)
      exact layB_e (q := 0) g1.1 (by rw [g1.2]; exact nI_ge hk (by omega)) (gin_n g2.1 (by decide)) g2.2)
    (fun u v hr => by
      have go := hr.1.1.1.2.2.2.2.1
      have g1 := go_first go hd htl
      have g3 := fS_le (m := tl + 1) hd (by omega)
      show X9_layOne_L50 i (nI t) (nI tl) t (Mx.1 9 1 t) _ _ u = _
      unfold X9_layOne_L50
      rw [gG_t g1.1, g1.2, if_pos (nI_le (Nat.le_refl _) (by omega))])
    (fun y v => (y, v)) (fun v => X11_lowOf (nI tl) v) (fun v => X11_leftOf (nI tl) v) (fun v => X11_rightOf (nI tl) v) (fun v => v.1 52 2 3)
    (fun u v hr => x11_low hd hr.1.1.2.1.1 (by omega)) (fun u v hr => x11_left hd hr.1.1.2.1.1 (by omega)) (fun u v hr => x11_right hd hr.1.1.2.1.1 (by omega)) (fun u v hr => hr.1.1.2.1.1.2.2.2.2)
    (fun s => X11_lays_L41 j (nI tl) (nI t) s.1 s.2) (fun y s => X11_lays_L58 j (nI tl) (nI t) y s.1 s.2) (fun y a s => X11_lays_L71 j (nI tl) (nI t) y a s.1 s.2)
    (fun y x => rfl) (fun y a x => rfl) (fun y a s x => rfl) Mx Mm ⟨JT.rf h, ak⟩
  obtain ⟨u', v', g1, g2, g3⟩ := R2
  refine ⟨u', v', ?_, g2, g3.1⟩
  unfold X9_layOne
  rw [gG_t (gin_n (by omega) (by decide)), gG_t (gin_n (by omega) (by decide)), gLet_e, nI_clamp (n := t) (by omega), gG_t (gin_n (k := tl) (by omega) (by decide)), nI_clamp (n := tl) (by omega), h.1.2.2.2.2.1.1 tl (by omega), gLet_e]
  by_cases h2 : Mx.1 40 i 2 = 1
  · rw [if_pos h2] at g1
    rw [if_pos h2, g1]
    rfl
  · rw [if_neg h2] at g1
    rw [if_neg h2, gG_t (gin_n (k := tl) (by omega) (by decide)), gLet_e, g1]
    rfl
/-- a culled one lays nothing -/
theorem x11_layC (hj : j = 8 ∨ j = 9) (h : RJ n W H T K i j Mx Mm) (hc : cul (trA (ct Mx i t)) (Mx.1 40 i 0) = true) (ak : akO i t Mx Mm) (htl : tl < tN W H T) : gIter (fun s => X11_lays_L41 j (nI tl) (nI t) s.1 s.2) FU (nI (tU W T tl), Mm) = some Mm := by
  have hd := h.1.1
  have hN := hd.N
  have hb : ∀ a b c, c < K → X11_laysAt j (nI t) a b (nI c) Mm = some Mm := fun a b c hcK => by
    have sx := x11_sX h.2.1.1 hd hcK
    unfold X11_laysAt
    rw [sx.1, bind_e, gLet_e, sx.2, bind_e, gLet_e, x11_cov ak, bind_e, hc, Bool.not_true, Bool.false_and, if_pos (by decide)]
  have e := m_tileR (σ := Int32 × gM) hd htl (fun y v => (y, v)) (fun v => v = Mm) (fun a b c v => X11_laysAt j (nI t) a b c v) (fun v => X11_lowOf (nI tl) v) (fun v => X11_leftOf (nI tl) v) (fun v => X11_rightOf (nI tl) v) (fun v => v.1 52 2 3)
    (fun v hv => by rw [hv]; exact x11_low hd h.2.1.1 (by omega)) (fun v hv => by rw [hv]; exact x11_left hd h.2.1.1 (by omega)) (fun v hv => by rw [hv]; exact x11_right hd h.2.1.1 (by omega)) (fun v hv => by rw [hv]; exact h.2.1.1.2.2.2.2)
    (fun a b c x y _ _ hcK hx he => by
      rw [hx, hb _ _ _ hcK] at he
      cases he
      rfl)
    (fun s => X11_lays_L41 j (nI tl) (nI t) s.1 s.2) (fun y s => X11_lays_L58 j (nI tl) (nI t) y s.1 s.2) (fun y a s => X11_lays_L71 j (nI tl) (nI t) y a s.1 s.2)
    (fun y x => rfl) (fun y a x => rfl) (fun y a s x => rfl) Mm rfl
  refine e.trans ?_
  obtain ⟨z, hz, ez⟩ := gFM_inv (f := fun (a : Nat × Nat × Nat) z => X11_laysAt j (nI t) (nI a.1) (nI a.2.1) (nI a.2.2) z) (fun v => v = Mm) (tS W H T K tl) (fun a ha x hx => ⟨Mm, by rw [hx]; exact hb _ _ _ (tS_mem ha).2.2, rfl⟩) Mm rfl
  rw [hz, ez]
/-! far -/
theorem tS_head (hd : dOk W H T K) (ht : tl < tN W H T) : ∃ l, tS W H T K tl = (tL W T tl, tU W T tl, 0) :: l := by
  have hf := hd.t ht
  have hK := hd.2.2.2
  obtain ⟨a, ha⟩ : ∃ a, tD W H T tl - tU W T tl = a + 1 := ⟨tD W H T tl - tU W T tl - 1, by omega⟩
  obtain ⟨b, hb⟩ : ∃ b, tR W T tl - tL W T tl = b + 1 := ⟨tR W T tl - tL W T tl - 1, by omega⟩
  obtain ⟨c, hc⟩ : ∃ c, K = c + 1 := ⟨K - 1, by omega⟩
  unfold tS tX
  rw [ha, hb, hc, List.range'_succ (s := tU W T tl), List.flatMap_cons, List.range'_succ (s := tL W T tl), List.flatMap_cons, List.range'_succ (s := 0), List.map_cons]
  exact ⟨_, rfl⟩
def mxD (f : Nat → Int32) (a : Nat × Nat × Nat) (u : Int32) : Option Int32 := some (if f (plA a) ≤ u then u else f (plA a))
theorem gFM_get {α β : Type} {f : α → β → Option β} (R : β → Prop) (l : List α) (x : β) (h : R x) (hs : ∀ a ∈ l, ∀ x, R x → ∃ x', f a x = some x' ∧ R x') : ∃ y, gFM f l x = some y ∧ R y := gFM_inv R l hs x h
theorem j_far (hj : j = 8 ∨ j = 9) (h : RJ n W H T K i j Mx Mm) (htl : tl < tN W H T) : ∃ F : Int32, X1_farOf i (nI tl) Mx = some F ∧ X11_depthOf j (nI tl) 1 Mm = some F ∧ 0 ≤ F.toInt ∧ F.toInt ≤ 1000 := by
  have hd := h.1.1
  have hN := hd.N
  have hf := hd.t htl
  have hW := hd.1
  have hH := hd.2.1
  have hK := hd.2.2.2
  have go := h.1.2.2.2.2.1
  have fs := h.2.2.2.2.2.1
  have g1 := go_first go hd htl
  have g3 := fS_le (m := tl + 1) hd (by omega)
  have hp : ∀ a ∈ tS W H T K tl, plA a < 256 := fun a ha => by
    have := tS_mem ha
    exact plc_lt hd (x := a.1) (y := a.2.1) (by omega) (by omega) this.2.2
  -- the class
  have ec := c_tileR (σ := Int32 × Int32) hd htl (fun k u => (u, k)) (fun _ => True) (fun p u => gG (gin p 256) (some (if Mx.1 34 i (Int32.toNatClampNeg p) ≤ u then u else Mx.1 34 i (Int32.toNatClampNeg p)))) (fun s => X1_farOf_L10 i (nI tl) s.1 s.2 Mx)
    (fun _ _ _ _ _ _ => trivial)
    (fun k u hk _ => by
      have g2 := go_at go hd hk htl
      show X1_farOf_L10 i (nI tl) u (nI k) Mx = _
      unfold X1_farOf_L10
      rw [gG_t g1.1, g1.2, if_neg (nI_ge hk (by omega)), gG_t (gin_n g2.1 (by decide)), g2.2, gLet_e]
      cases gin (nI (plA ((tA W H T K (tN W H T)).getD k (0, 0, 0)))) 256 with
      | false => rfl
      | true =>
        rw [gG_t rfl, gG_t rfl]
        split <;> rfl)
    (fun u _ => by
      show X1_farOf_L10 i (nI tl) u _ Mx = _
      unfold X1_farOf_L10
      rw [gG_t g1.1, g1.2, if_pos (nI_le (Nat.le_refl _) (by omega))]) 0 trivial
  -- the reference
  have d0 : Int32 := Mm.1 52 j (plc (tL W T tl) (tU W T tl) 0)
  have em := m_tileR (σ := Int32 × Int32) hd htl (fun k u => (u, k)) (fun _ => True) (fun a b c u => (X11_place a b c Mm).bind fun r => gG (gin (0 + r) (gLen 52 j)) (some (if Mm.1 52 j (Int32.toNatClampNeg (0 + r)) ≤ u then u else Mm.1 52 j (Int32.toNatClampNeg (0 + r))))) (fun _ => X11_lowOf (nI tl) Mm) (fun _ => X11_leftOf (nI tl) Mm) (fun _ => X11_rightOf (nI tl) Mm) (fun _ => Mm.1 52 2 3)
    (fun _ _ => x11_low hd h.2.1.1 (by omega)) (fun _ _ => x11_left hd h.2.1.1 (by omega)) (fun _ _ => x11_right hd h.2.1.1 (by omega)) (fun _ _ => h.2.1.1.2.2.2.2)
    (fun _ _ _ _ _ _ _ _ _ _ => trivial)
    (fun s => X11_depthOf_L27 j (nI tl) 1 s.1 s.2 Mm) (fun y s => X11_depthOf_L44 j (nI tl) 1 y s.1 s.2 Mm) (fun y a s => X11_depthOf_L57 j (nI tl) 1 y a s.1 s.2 Mm)
    (fun y x => rfl) (fun y a x => rfl) (fun y a s x => by
      show X11_depthOf_L57 j (nI tl) 1 y a x s Mm = _
      unfold X11_depthOf_L57
      by_cases q : Mm.1 52 2 3 ≤ s
      · rw [if_pos q, if_pos q]
      · rw [if_neg q, if_neg q]
        unfold X11_place
        rw [bind_e, bind_e]
        cases gin (0 + (4 * (8 * y + a) + s)) (gLen 52 j) with
        | false => rfl
        | true =>
          rw [gG_t rfl, gG_t rfl, gLet_e, if_neg (by decide)]
          split <;> rfl)
  have cc : ∀ u, gFM (fun (a : Nat × Nat × Nat) z => gG (gin (nI (plA a)) 256) (some (if Mx.1 34 i (Int32.toNatClampNeg (nI (plA a))) ≤ z then z else Mx.1 34 i (Int32.toNatClampNeg (nI (plA a)))))) (tS W H T K tl) u = gFM (mxD (Mx.1 34 i)) (tS W H T K tl) u := fun u => gFM_congr (fun _ => True) _ (fun a ha x _ => by
    have q := hp a ha
    rw [gG_t (gin_n q (by decide)), nI_clamp (by omega)]
    rfl) (fun _ _ _ _ _ _ => trivial) u trivial
  have cm : ∀ u, gFM (fun (a : Nat × Nat × Nat) z => (X11_place (nI a.1) (nI a.2.1) (nI a.2.2) Mm).bind fun r => gG (gin (0 + r) (gLen 52 j)) (some (if Mm.1 52 j (Int32.toNatClampNeg (0 + r)) ≤ z then z else Mm.1 52 j (Int32.toNatClampNeg (0 + r))))) (tS W H T K tl) u = gFM (mxD (Mx.1 34 i)) (tS W H T K tl) u := fun u => gFM_congr (fun _ => True) _ (fun a ha x _ => by
    have q := hp a ha
    unfold X11_place
    rw [bind_e, pl_e, Int32.zero_add, gLen8 hj]
    show gG (gin (nI (plA a)) 1242) (some (if Mm.1 52 j (Int32.toNatClampNeg (nI (plA a))) ≤ x then x else Mm.1 52 j (Int32.toNatClampNeg (nI (plA a))))) = _
    rw [gG_t (gin_n (n := 1242) (by omega) (by decide)), nI_clamp (by omega), ← (fs (plA a) q).1.1]
    rfl) (fun _ _ _ _ _ _ => trivial) u trivial
  obtain ⟨l, hl⟩ := tS_head hd htl
  have h0 : plc (tL W T tl) (tU W T tl) 0 < 256 := hp (tL W T tl, tU W T tl, 0) (by rw [hl]; exact List.mem_cons_self)
  have f0 := fs _ h0
  obtain ⟨F, hF, bF⟩ := gFM_get (f := mxD (Mx.1 34 i)) (fun z => 0 ≤ z.toInt ∧ z.toInt ≤ 1000) (tS W H T K tl) 0 (by decide) (fun a ha x hx => by
    unfold mxD
    refine ⟨_, rfl, ?_⟩
    split
    · exact hx
    · exact (fs _ (hp a ha)).1.2)
  have hF2 : gFM (mxD (Mx.1 34 i)) (tS W H T K tl) (Mx.1 34 i (plc (tL W T tl) (tU W T tl) 0)) = some F := by
    rw [← hF, hl, gFM_cons, gFM_cons]
    have e1 : mxD (Mx.1 34 i) (tL W T tl, tU W T tl, 0) (Mx.1 34 i (plc (tL W T tl) (tU W T tl) 0)) = some (Mx.1 34 i (plc (tL W T tl) (tU W T tl) 0)) := by
      unfold mxD
      show some (if Mx.1 34 i (plc (tL W T tl) (tU W T tl) 0) ≤ Mx.1 34 i (plc (tL W T tl) (tU W T tl) 0) then _ else _) = _
      rw [if_pos (Int32.le_refl _)]
    have e2 : mxD (Mx.1 34 i) (tL W T tl, tU W T tl, 0) 0 = some (Mx.1 34 i (plc (tL W T tl) (tU W T tl) 0)) := by
      unfold mxD
      show some (if Mx.1 34 i (plc (tL W T tl) (tU W T tl) 0) ≤ 0 then 0 else Mx.1 34 i (plc (tL W T tl) (tU W T tl) 0)) = _
      split
      · next q =>
        have q2 := Int32.le_iff_toInt_le.mp q
        have : (0 : Int32).toInt = 0 := rfl
        congr 1
        apply Int32.toInt_inj.mp
        omega
      · rfl
    rw [e1, e2]
  refine ⟨F, ?_, ?_, bF⟩
  · unfold X1_farOf
    rw [gG_t (gin_n (by omega) (by decide)), nI_clamp (by omega), go.1 tl (by omega), gLet_e, ec, cc, hF]
    rfl
  · unfold X11_depthOf
    rw [x11_left hd h.2.1.1 (by omega), bind_e, x11_top hd h.2.1.1 (by omega), bind_e]
    unfold X11_place
    rw [bind_e, nlit 0, pl_e, nI_0, Int32.zero_add, gLen8 hj, gG_t (gin_n (n := 1242) (by omega) (by decide)), nI_clamp (by omega), gLet_e, bind_e, ← f0.1.1]
    have := (em _ trivial).trans ((cm _).trans hF2)
    rw [this]
    rfl
end LT
