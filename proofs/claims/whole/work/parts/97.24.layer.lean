/-! layer -/
section LY
variable {n W H T K i j k t m nf nf' q q' x y s : Nat} {M M' Mx Mm Mx' Mm' X Y Y' : gM} {p v r : Int32}
theorem J.sm (h : J q nf Mx Mm) (s : SM Mm Mm') : J q nf Mx Mm' := h.same (fun _ _ _ _ => rfl) (fun _ _ _ => rfl) (fun a b c hc => s.1 a b c (by unfold rM relM at hc; omega))
theorem qs {ρ : Type} {F : gM → Option ρ} {G : gM → Option (ρ × gM)} (L : ∀ Mx Mm, J q nf Mx Mm → ∃ r Mm', F Mx = some r ∧ G Mm = some (r, Mm') ∧ SM (wI Mm 50 0 0 0) Mm') (h : J q nf M M) : ∃ r M2, F M = some r ∧ G M = some (r, M2) ∧ J (q + 1) nf M2 M2 := by
  refine glue0 (F := F) (G := G) (fun Mx Mm h => ?_) h
  obtain ⟨r, Y, e1, e2, s⟩ := L Mx Mm h
  exact ⟨r, Y, e1, e2, (h.t0.sm s).mono (by omega), GM.t0.tr s.g⟩
theorem SN.sm (h : SN m nf n W H T K Mx Mm) (s : SM Mm Y) : SN m nf n W H T K Mx Y := h.over0 SX.rf s fun _ _ _ _ _ => rfl
/-- the depth of a triangle at a sample, -1 where it does not cover it -/
def dq (Mx : gM) (K t x y s : Nat) : Int32 := if cul (trA (ct Mx 0 t)) (Mx.1 40 0 0) = true then -1 else dvl (ct Mx 0 t) (zt Mx t) K x y s
theorem j_dq {Z : gM} (hS : SN m nf n W H T K Mx Mm) (ht : t < n) (z2 : AK (ct Mx 0 t) (zt Mx t) (Mx.1 40 0 0) Z) (z3 : SameA Mm Z) (hx : x < W) (hy : y < H) (hs : s < K) :
    X9_depthIn 0 (nI t) (nI (plc x y s)) Mx = some (dq Mx K t x y s) ∧ ((dq Mx K t x y s = -1 ∧ X11_coversSample (nI x) (nI y) (nI s) Z = some 0) ∨ (0 ≤ (dq Mx K t x y s).toInt ∧ ¬ dq Mx K t x y s < 0 ∧ X11_coversSample (nI x) (nI y) (nI s) Z = some 1 ∧ X11_depthAt ((8 * nI x) + nI (sX K s)) ((8 * nI y) + nI (sY K s)) Z = some (dq Mx K t x y s))) := by
  have e : X9_depthIn 0 (nI t) (nI (plc x y s)) Mx = some (dq Mx K t x y s) := x9_depthIn hS.1.1 hS.1.2.2.1 ht 0 hx hy hs
  obtain ⟨d, d1, d2⟩ := j_dep hS ht z2 z3 hx hy hs
  rw [e] at d1
  cases d1
  exact ⟨e, d2⟩
theorem dq_or (hS : SN m nf n W H T K Mx Mm) (ht : t < n) (hx : x < W) (hy : y < H) (hs : s < K) : X9_depthIn 0 (nI t) (nI (plc x y s)) Mx = some (dq Mx K t x y s) ∧ ((dq Mx K t x y s = -1) ∨ (¬ dq Mx K t x y s < 0 ∧ ¬ dq Mx K t x y s = -1)) := by
  obtain ⟨Z, z1, z2, z3⟩ := hS.asks ht
  obtain ⟨d1, d2⟩ := j_dq hS ht z2 z3 hx hy hs
  refine ⟨d1, d2.imp (fun z => z.1) fun z => ⟨z.2.1, fun e => z.2.1 (by rw [e]; decide)⟩⟩
/-- the reference's depths are filled -/
theorem x11_dep {p : Int32} (hS : SN m nf n W H T K Mx Mm) (hx : x < W) (hy : y < H) (hs : s < K) : ∃ Y, gIter (fun z => X11_layer_L25 (nI x) (nI y) (nI s) p z.1 z.2) FU (0, Mm) = some Y ∧ SM Mm Y ∧ ∀ u, u < n → Y.1 52 15 u = dq Mx K u x y s := by
  have hn := hS.1.1.2.1
  obtain ⟨Y, e1, e2, e3⟩ := gI1_FU (step := fun z : Int32 × gM => X11_layer_L25 (nI x) (nI y) (nI s) p z.1 z.2) (fun k (u : gM) => (nI k, u)) (fun k u => SM Mm u ∧ ∀ t, t < k → u.1 52 15 t = dq Mx K t x y s) (fun u => SM Mm u ∧ ∀ t, t < n → u.1 52 15 t = dq Mx K t x y s) 0 n (by omega) (by omega)
    (fun k u hk hp => by
      obtain ⟨p1, p2⟩ := hp
      have hS1 := hS.sm p1
      obtain ⟨Z, z1, z2, z3⟩ := hS1.asks hk
      obtain ⟨d1, d2⟩ := j_dq hS1 hk z2 z3 hx hy hs
      have md := z3.md hS1.1.2.1.1
      have hsx := x11_sX md hS1.1.1.1 hs
      refine ⟨wI Z 52 15 k (dq Mx K k x y s), ?_, (p1.tr z3.sm).tr ⟨fun a b c hq => w_n (by omega), rfl⟩, fun t ht => ?_⟩
      · show X11_layer_L25 (nI x) (nI y) (nI s) p (nI k) u = _
        unfold X11_layer_L25
        rw [hS1.1.2.1.1.1, if_neg (nI_ge hk (by omega)), z1, bind_e, gG_t (gin_n (k := k) (by omega) (by decide)), nI_clamp (n := k) (by omega)]
        rcases d2 with ⟨d2, d3⟩ | ⟨-, -, d3, d4⟩
        · rw [d3, bind_e, if_pos rfl, gLet_e, gLet_e, nI_1, d2]
        · rw [d3, bind_e, if_neg (show ¬ (1 : Int32) = 0 by decide), hsx.1, bind_e, hsx.2, bind_e, d4, bind_e, gG_t (gin_n (k := k) (by omega) (by decide)), gLet_e, gLet_e, nI_1]
      · by_cases e : t = k
        · rw [e, w_e]
        · rw [w_n (by omega), z3.2 52 15 t (by omega)]
          exact p2 t (by omega))
    (fun u hp => ⟨u, by
      show X11_layer_L25 (nI x) (nI y) (nI s) p (nI n) u = _
      unfold X11_layer_L25
      rw [(hS.sm hp.1).1.2.1.1.1, if_pos (nI_le (Nat.le_refl _) (by omega))], hp⟩) Mm ⟨SM.rf, fun _ h => absurd h (by omega)⟩
  exact ⟨Y, e1, e2, e3⟩
theorem j_rank {p : Int32} (hS : SN m nf n W H T K Mx Mm) (hx : x < W) (hy : y < H) (hs : s < K) (ht : t < n) (hd : ¬ dq Mx K t x y s = -1) (hY : ∀ u, u < n → Y.1 52 15 u = dq Mx K u x y s) (hY2 : Y.1 50 0 16 = nI n) :
    ∃ c, c ≤ 10 ∧ X9_rankOf 0 (nI t) (nI (plc x y s)) Mx = some (nI c) ∧ gIter (fun z => X11_layer_L127 p (nI t) z.1 z.2 Y) FU (0, 0) = some (nI c) := by
  have hn := hS.1.1.2.1
  have dt := dq_or hS ht hx hy hs
  obtain ⟨v, e1, e2, c, hc, rfl⟩ := twin (s1 := fun z => X9_rankOf_L15 0 (nI t) (nI (plc x y s)) (dq Mx K t x y s) z.1 z.2 Mx) (s2 := fun z => X11_layer_L127 p (nI t) z.1 z.2 Y) 0 n (by omega) (by omega) (fun k a => ∃ c, c ≤ k ∧ a = nI c) 0 ⟨0, by omega, rfl⟩
    (fun k a hk hp => by
      obtain ⟨c, hc, rfl⟩ := hp
      obtain ⟨d1, d2⟩ := dq_or hS hk hx hy hs
      have c0 : X9_rankOf_L15 0 (nI t) (nI (plc x y s)) (dq Mx K t x y s) (nI c) (nI k) Mx = (if dq Mx K k x y s < 0 then some (.inl (nI c, nI (k + 1))) else if dq Mx K k x y s < dq Mx K t x y s then some (.inl (nI (c + 1), nI (k + 1))) else if dq Mx K k x y s = dq Mx K t x y s then (if nI t ≤ nI k then some (.inl (nI c, nI (k + 1))) else some (.inl (nI (c + 1), nI (k + 1)))) else some (.inl (nI c, nI (k + 1)))) := by
        unfold X9_rankOf_L15
        simp only [hS.1.1.2.2.1.2.2.2.2, if_neg (nI_ge hk (by omega)), d1, bind_e, gLet_e, nI_1]
      have m0 : X11_layer_L127 p (nI t) (nI c) (nI k) Y = (if dq Mx K k x y s = -1 then some (.inl (nI c, nI (k + 1))) else if dq Mx K k x y s < dq Mx K t x y s then some (.inl (nI (c + 1), nI (k + 1))) else if dq Mx K k x y s = dq Mx K t x y s then (if nI t ≤ nI k then some (.inl (nI c, nI (k + 1))) else some (.inl (nI (c + 1), nI (k + 1)))) else some (.inl (nI c, nI (k + 1)))) := by
        unfold X11_layer_L127
        simp only [hY2, if_neg (nI_ge hk (by omega)), gG_t (gin_n (k := k) (n := 10) (by omega) (by decide)), gG_t (gin_n (k := t) (n := 10) (by omega) (by decide)), nI_clamp (n := k) (by omega), nI_clamp (n := t) (by omega), hY k hk, hY t ht, gLet_e, nI_1, Int32.add_zero]
      have fin : ∃ c', c' ≤ k + 1 ∧ X9_rankOf_L15 0 (nI t) (nI (plc x y s)) (dq Mx K t x y s) (nI c) (nI k) Mx = some (.inl (nI c', nI (k + 1))) ∧ X11_layer_L127 p (nI t) (nI c) (nI k) Y = some (.inl (nI c', nI (k + 1))) := by
        rw [c0, m0]
        rcases d2 with d2 | ⟨d2, d3⟩
        · rw [if_pos (show dq Mx K k x y s < 0 by rw [d2]; decide), if_pos d2]
          exact ⟨c, by omega, rfl, rfl⟩
        · rw [if_neg d2, if_neg d3]
          by_cases q1 : dq Mx K k x y s < dq Mx K t x y s
          · rw [if_pos q1]
            exact ⟨c + 1, by omega, rfl, rfl⟩
          · rw [if_neg q1]
            by_cases q2 : dq Mx K k x y s = dq Mx K t x y s
            · rw [if_pos q2]
              by_cases q3 : nI t ≤ nI k
              · rw [if_pos q3]
                exact ⟨c, by omega, rfl, rfl⟩
              · rw [if_neg q3]
                exact ⟨c + 1, by omega, rfl, rfl⟩
            · rw [if_neg q2]
              exact ⟨c, by omega, rfl, rfl⟩
      obtain ⟨c', h1, h2, h3⟩ := fin
      exact ⟨nI c', h2, h3, c', h1, rfl⟩)
    (fun a _ => by
      refine ⟨?_, ?_⟩
      · show X9_rankOf_L15 0 (nI t) (nI (plc x y s)) (dq Mx K t x y s) a (nI n) Mx = _
        unfold X9_rankOf_L15
        rw [hS.1.1.2.2.1.2.2.2.2, if_pos (nI_le (Nat.le_refl _) (by omega))]
      · show X11_layer_L127 p (nI t) a (nI n) Y = _
        unfold X11_layer_L127
        rw [hY2, if_pos (nI_le (Nat.le_refl _) (by omega))])
  refine ⟨c, by omega, ?_, e2⟩
  have e1 : gIter (fun z => X9_rankOf_L15 0 (nI t) (nI (plc x y s)) (dq Mx K t x y s) z.1 z.2 Mx) FU (0, 0) = some (nI c) := e1
  unfold X9_rankOf
  rw [dt.1, bind_e, e1]
  rfl
theorem O29 : O_29 Iv := fun q nf M a1 a2 a3 a4 hq hI => by
  refine qs (F := fun M => X10_layer a1 a2 a3 a4 M) (G := fun M => X11_layer a1 a2 a3 a4 M) (fun Mx Mm h => ?_) hI
  have h0 := h.t0 (v := 0)
  show ∃ r Mm', X10_layer a1 a2 a3 a4 Mx = some r ∧ X11_layer a1 a2 a3 a4 Mm = some (r, Mm') ∧ SM (wI Mm 50 0 0 0) Mm'
  unfold X11_layer
  rw [gLet_e]
  revert h0
  generalize wI Mm 50 0 0 0 = Y
  intro h0
  unfold X10_layer
  rcases h0.smp a1 a2 a3 with ⟨e1, e2⟩ | ⟨n, W, H, T, K, x, y, s, hS, hx, hy, hs, rfl, rfl, rfl, e1, e2⟩
  · rw [e1, e2, bind_e, bind_e, if_pos rfl, if_pos rfl]
    exact ⟨_, Y, rfl, rfl, SM.rf⟩
  · have hn := hS.1.1.2.1
    have a0 : (0 : Int32).toInt = 0 := rfl
    rw [e1, e2, bind_e, bind_e, if_neg (show ¬ (1 : Int32) = 0 by decide), if_neg (show ¬ (1 : Int32) = 0 by decide), x1_place, bind_e, plc_e, gLet_e]
    obtain ⟨Y1, f1, f2, f3⟩ := x11_dep (p := a4) hS hx hy hs
    have y16 : Y1.1 50 0 16 = nI n := (hS.sm f2).1.2.1.1.1
    by_cases h4 : 0 ≤ a4
    · rw [if_pos h4, f1, bind_e]
      obtain ⟨e, d, g1, g2, g3⟩ := gI2x_FU (s1 := fun z : Int32 => X10_layer_L27 a4 (nI (plc x y s)) z Mx) (s2 := fun z : Int32 => X11_layer_L98 a4 z Y1) (fun k (_ : Unit) => nI k) (fun k (_ : Unit) => nI k) (fun _ _ _ => True) (fun e d => e = d) 0 n (by omega) (by omega)
        (fun k _ _ hk _ => by
          obtain ⟨d1, d2⟩ := dq_or hS hk hx hy hs
          rcases d2 with d2 | ⟨d2, d3⟩
          · refine Or.inl ⟨(), (), ?_, ?_, trivial⟩
            · show X10_layer_L27 a4 (nI (plc x y s)) (nI k) Mx = _
              unfold X10_layer_L27
              rw [hS.1.1.2.2.1.2.2.2.2, if_neg (nI_ge hk (by omega)), d1, bind_e, if_pos (by rw [d2]; decide), gLet_e, nI_1]
            · show X11_layer_L98 a4 (nI k) Y1 = _
              unfold X11_layer_L98
              rw [y16, if_neg (nI_ge hk (by omega)), gG_t (gin_n (k := k) (by omega) (by decide)), nI_clamp (by omega), f3 k hk, if_pos d2, gLet_e, nI_1]
          · obtain ⟨c, hc, c1, c2⟩ := j_rank (p := a4) hS hx hy hs hk d3 f3 y16
            by_cases hz : nI c = a4
            · refine Or.inr ⟨.inl (nI k), .inl (nI k), ?_, ?_, rfl⟩
              · show X10_layer_L27 a4 (nI (plc x y s)) (nI k) Mx = _
                unfold X10_layer_L27
                rw [hS.1.1.2.2.1.2.2.2.2, if_neg (nI_ge hk (by omega)), d1, bind_e, if_neg d2, c1, bind_e, if_pos hz]
              · show X11_layer_L98 a4 (nI k) Y1 = _
                unfold X11_layer_L98
                rw [y16, if_neg (nI_ge hk (by omega)), gG_t (gin_n (k := k) (by omega) (by decide)), nI_clamp (by omega), f3 k hk, if_neg d3, c2, bind_e, if_pos hz]
            · refine Or.inl ⟨(), (), ?_, ?_, trivial⟩
              · show X10_layer_L27 a4 (nI (plc x y s)) (nI k) Mx = _
                unfold X10_layer_L27
                rw [hS.1.1.2.2.1.2.2.2.2, if_neg (nI_ge hk (by omega)), d1, bind_e, if_neg d2, c1, bind_e, if_neg hz, gLet_e, nI_1]
              · show X11_layer_L98 a4 (nI k) Y1 = _
                unfold X11_layer_L98
                rw [y16, if_neg (nI_ge hk (by omega)), gG_t (gin_n (k := k) (by omega) (by decide)), nI_clamp (by omega), f3 k hk, if_neg d3, c2, bind_e, if_neg hz, gLet_e, nI_1])
        (fun _ _ _ => ⟨.inr (), .inr (), by
          show X10_layer_L27 a4 (nI (plc x y s)) (nI n) Mx = _
          unfold X10_layer_L27
          rw [hS.1.1.2.2.1.2.2.2.2, if_pos (nI_le (Nat.le_refl _) (by omega))], by
          show X11_layer_L98 a4 (nI n) Y1 = _
          unfold X11_layer_L98
          rw [y16, if_pos (nI_le (Nat.le_refl _) (by omega))], rfl⟩) () () trivial
      subst g3
      have g1 : gIter (fun z : Int32 => X10_layer_L27 a4 (nI (plc x y s)) z Mx) FU 0 = some e := g1
      have g2 : gIter (fun z : Int32 => X11_layer_L98 a4 z Y1) FU 0 = some e := g2
      rw [g1, g2, bind_e, bind_e]
      cases e with
      | inl z => exact ⟨z, Y1, rfl, rfl, f2⟩
      | inr z => exact ⟨-1, Y1, rfl, rfl, f2⟩
    · have h4' := Int32.lt_iff_toInt_lt.mp (Int32.not_le.mp h4)
      rw [if_neg h4]
      obtain ⟨e, g1, g2⟩ := gI1_FU (step := fun z : Int32 => X10_layer_L27 a4 (nI (plc x y s)) z Mx) (fun k (_ : Unit) => nI k) (fun _ _ => True) (fun e => e = .inr ()) 0 n (by omega) (by omega)
        (fun k _ hk _ => by
          obtain ⟨d1, d2⟩ := dq_or hS hk hx hy hs
          refine ⟨(), ?_, trivial⟩
          show X10_layer_L27 a4 (nI (plc x y s)) (nI k) Mx = _
          unfold X10_layer_L27
          rw [hS.1.1.2.2.1.2.2.2.2, if_neg (nI_ge hk (by omega)), d1, bind_e]
          rcases d2 with d2 | ⟨d2, d3⟩
          · rw [if_pos (by rw [d2]; decide), gLet_e, nI_1]
          · obtain ⟨c, hc, c1, c2⟩ := j_rank (p := a4) hS hx hy hs hk d3 f3 y16
            rw [if_neg d2, c1, bind_e, if_neg (fun z => by
              have := congrArg Int32.toInt z
              rw [nI_toInt (by omega)] at this
              omega), gLet_e, nI_1])
        (fun _ _ => ⟨.inr (), by
          show X10_layer_L27 a4 (nI (plc x y s)) (nI n) Mx = _
          unfold X10_layer_L27
          rw [hS.1.1.2.2.1.2.2.2.2, if_pos (nI_le (Nat.le_refl _) (by omega))], rfl⟩) () trivial
      subst g2
      have g1 : gIter (fun z : Int32 => X10_layer_L27 a4 (nI (plc x y s)) z Mx) FU 0 = some (.inr ()) := g1
      rw [g1, bind_e]
      exact ⟨-1, Y, rfl, rfl, SM.rf⟩
end LY
