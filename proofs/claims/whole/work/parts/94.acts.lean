/-! flush, all, clear as calls -/
section AK4
variable {n W H T K i j k t m nf nf' : Nat} {M M' Mx Mm Mx' Mm' X1 X2 X3 : gM} {a b p v r : Int32}
theorem x10_done {p1 p2 p3 p4 p5 : Int32} (k1 : X2_keep nf Mx = some (nf', X1)) (k2 : X9_carryOut 0 p1 p2 p3 p4 p5 X1 = some (r, X2)) (k3 : X0_note 0 a b X2 = some X3) (s1 : X10_sortOf p1 X2 = some a) (s2 : X10_numberOf p1 p2 X2 = some b) : X10_act_J45 nf p1 p2 p3 p4 p5 Mx = some (r, nf', X3) := by
  unfold X10_act_J45
  rw [k1, bind_e, gU2_e, k2, bind_e, gU2_e, s1, bind_e, s2, bind_e, k3]
  rfl
noncomputable def flM (p : Int32) (Y : gM) : Option (Int32 × gM) := gG (gin (768 + (11 * p)) 1242) (gLet ((Y.1 52 8 (Int32.toNatClampNeg (768 + (11 * p))))) (fun x3_8 => (X11_flushes 8 p Y).bind (fun M_10 => some (x3_8, M_10))))
theorem j_flushC (hm : m + 1 < 100000) (hnf : nf ≤ 40) (h : SN m nf n W H T K Mx Mm) (hs : ST Mx Mm) (v : Int32) :
    (∃ k, k < 4 ∧ X9_refusal 0 1 p 0 0 0 Mx = some (nI k) ∧ X11_stopsFlush 8 p Mm = some (nI k)) ∨
    (X9_refusal 0 1 p 0 0 0 Mx = some (-1) ∧ X11_stopsFlush 8 p Mm = some (-1) ∧ ∃ r nf' Mx' Y1 Y2 Y3, X10_act nf 1 p 0 0 0 v Mx = some (r, nf', Mx') ∧ X11_remember Mm = some Y1 ∧ flM p Y1 = some (r, Y2) ∧ X11_tells 1 p Y2 = some Y3 ∧ nf ≤ nf' ∧ nf' ≤ 40 ∧ SN (m + 1) nf' n W H T K Mx' Y3 ∧ ST Mx' Y3 ∧ CX Mx Mx' ∧ CM Mm Y3) := by
  have hr := h.1
  have hn := hr.1.2.1
  have hN := hr.1.1.N
  have n0 : ¬ Mx.1 5 1 5 = 0 := by
    rw [hr.1.2.2.1.2.2.2.2]
    exact nI_ne0 (by omega) (by omega)
  unfold X11_stopsFlush
  rcases j_hasT (p := p) hr.1 hr.2.1.1 with ⟨e1, e2⟩ | ⟨e1, e2, t, ht, rfl⟩
  · refine Or.inl ⟨0, by omega, ?_, ?_⟩
    · unfold X9_refusal
      rw [if_neg n0, if_neg (by decide), if_pos rfl, e1, bind_e, if_pos rfl]
      rfl
    · rw [e2, bind_e, if_pos rfl]
      rfl
  · obtain ⟨b, hb, b2, b3, -, -⟩ := hr.2.2.2.2.2.2.1 t (by omega)
    obtain ⟨w1, w2⟩ := j_pend (Or.inl rfl) hr h.2.1 ht
    have e7 : (768 : Int32) + (11 * nI t) = nI (768 + 11 * t) := by rw [nlit 11, nI_mul, nlit 768, nI_add]
    have rf : X9_refusal 0 1 (nI t) 0 0 0 Mx = some (if nI b = 0 then 2 else -1) := by
      unfold X9_refusal
      rw [if_neg n0, if_neg (by decide), if_pos rfl, e1, bind_e, if_neg (show ¬ (1 : Int32) = 0 by decide), gG_t (gin_n (k := t) (by omega) (by decide)), nI_clamp (by omega), b2, w1, bind_e, if_pos rfl]
      split <;> rfl
    rw [e2, bind_e, if_neg (show ¬ (1 : Int32) = 0 by decide), e7, show gLen 52 8 = 1242 from rfl, gG_t (gin_n (k := 768 + 11 * t) (by omega) (by decide)), nI_clamp (n := 768 + 11 * t) (by omega), b3, w2, bind_e, if_pos rfl]
    by_cases hz : nI b = 0
    · rw [if_pos hz] at rf
      rw [if_pos hz]
      exact Or.inl ⟨2, by omega, rf, rfl⟩
    · rw [if_neg hz] at rf
      rw [if_neg hz]
      refine Or.inr ⟨rf, rfl, ?_⟩
      obtain ⟨nf', r, X1, X2, X3, Y1, Y2, Y3, k1, k2, k3, k4, k5, k6, k7, k8, k9, k10, k11⟩ := j_act (a := 1) (b := nI t) (opc := fun X => X9_carryOut 0 1 (nI t) 0 0 0 X) (opm := fun Y => flM (nI t) Y) hm hnf h
        (fun X Y g1 g2 _ _ => by
          obtain ⟨b', X', Y', d1, d2, d3, d4, d5, d6⟩ := j_flush (Or.inl rfl) g1 ht
          have d := d6.d
          refine ⟨nI b', X', Y', ?_, ?_, d.1, d.pn g2, d.opx.1, d.opx.2⟩
          · show X9_carryOut 0 1 (nI t) 0 0 0 X = _
            unfold X9_carryOut
            rw [if_neg (by decide), if_pos rfl, d4]
            rfl
          · show flM (nI t) Y = _
            unfold flM
            rw [e7, gG_t (gin_n (k := 768 + 11 * t) (by omega) (by decide)), nI_clamp (n := 768 + 11 * t) (by omega), d3, gLet_e, d5]
            rfl)
      refine ⟨r, nf', X3, Y1, Y2, Y3, ?_, k4, k5, k6, k7, k8, k9, hs.c k10 k11, k10.c, k11.c⟩
      rw [x10_go rf]
      exact x10_done k1 k2 k3 rfl rfl
theorem j_flushO (hm : m + 1 < 100000) (hnf : nf ≤ 40) (h : SN m nf n W H T K Mx Mm) (hs : ST Mx Mm) : ∃ r nf' Mx' Mm', X10_flush nf p Mx = some (r, nf', Mx') ∧ X11_flush p Mm = some (r, Mm') ∧ nf ≤ nf' ∧ nf' ≤ 40 ∧ SN (m + 1) nf' n W H T K Mx' Mm' ∧ ST Mx' Mm' ∧ CX Mx Mx' ∧ CM Mm Mm' := by
  unfold X10_flush X11_flush
  rw [gLet_e]
  rcases j_flushC (p := p) hm hnf h.t0 (hs.t0 (v := 0)) (-1) with ⟨k, hk, e1, e2⟩ | ⟨e1, e2, r, nf', X', Y1, Y2, Y3, g1, g2, g3, g4, g5, g6, g7, g8, g9, g10⟩
  · obtain ⟨q1, q2, q3, q4, q5⟩ := j_ref hk h.t0 (hs.t0 (v := 0))
    refine ⟨-1, nf, _, _, x10_ref hk e1, ?_, Nat.le_refl _, hnf, q2.mono (by omega), q3, q4, (CM.t0 (v := 0)).tr q5⟩
    rw [e2, bind_e, if_neg (nI_m1 (by omega)), q1]
    rfl
  · refine ⟨r, nf', X', Y3, g1, ?_, g5, g6, g7, g8, g9, (CM.t0 (v := 0)).tr g10⟩
    rw [e2, bind_e, if_pos rfl, g2, bind_e]
    unfold flM at g3
    cases hg : gin (768 + (11 * p)) 1242 with
    | false =>
      rw [hg] at g3
      cases g3
    | true =>
      rw [hg, gG_t rfl, gLet_e] at g3
      obtain ⟨Z, z1, z2⟩ := gBind_some g3
      cases z2
      rw [gG_t rfl, gLet_e, z1, bind_e, g4]
      rfl
/-! all -/
theorem x11_cnt (hj : RJ n W H T K 0 8 Mx Mm) : gIter (fun s => X11_all_L26 s.1 s.2 Mm) FU (0, 0) = some (nI (nbc (bnn 0 Mx) (tN W H T))) := by
  have hN := hj.1.1.N
  obtain ⟨e, h1, h2⟩ := gI1_FU (step := fun s => X11_all_L26 s.1 s.2 Mm) (fun k (z : Int32) => (z, nI k)) (fun k z => z = nI (nbc (bnn 0 Mx) k)) (fun z => z = nI (nbc (bnn 0 Mx) (tN W H T))) 0 (tN W H T) (by omega) (by omega)
    (fun k z hk hz => by
      obtain ⟨b, hb, b2, b3, -, -⟩ := hj.2.2.2.2.2.2.1 k (by omega)
      have e7 : (768 : Int32) + (11 * nI k) = nI (768 + 11 * k) := by rw [nlit 11, nI_mul, nlit 768, nI_add]
      refine ⟨nI (nbc (bnn 0 Mx) (k + 1)), ?_, rfl⟩
      show X11_all_L26 z (nI k) Mm = some (Sum.inl (nI (nbc (bnn 0 Mx) k + if 0 < bnn 0 Mx k then 1 else 0), nI (k + 1)))
      unfold X11_all_L26
      rw [x11_all hj.1.1 hj.2.1.1, bind_e, if_neg (nI_ge hk (by omega)), e7, gG_t (gin_n (k := 768 + 11 * k) (by omega) (by decide)), nI_clamp (n := 768 + 11 * k) (by omega), b3, bnn_e b2 hb, hz, gLet_e, gLet_e, gLet_e, gLet_e, nI_1, nI_1, Int32.add_zero]
      by_cases hb0 : 0 < b
      · rw [if_neg (show ¬ nI b ≤ (0 : Int32) from nI_ge (a := 0) (b := b) hb0 (by omega)), if_pos hb0]
      · have : b = 0 := by omega
        subst this
        rw [if_pos (by decide), if_neg (by omega)]
        rfl)
    (fun z hz => ⟨z, by
      show X11_all_L26 z (nI (tN W H T)) Mm = _
      unfold X11_all_L26
      rw [x11_all hj.1.1 hj.2.1.1, bind_e, if_pos (nI_le (Nat.le_refl _) (by omega))], hz⟩) 0 rfl
  show gIter (fun s => X11_all_L26 s.1 s.2 Mm) FU (0, nI 0) = _
  rw [h1, h2]
theorem x11_bind (hj : RJ n W H T K 0 8 Mx Mm) : X11_binned Mm = some (nI (spc (bnn 0 Mx) 16)) := by
  have hN := hj.1.1.N
  have hs : spc (bnn 0 Mx) 16 = spc (bnn 0 Mx) (tN W H T) := spc_0 hN.2 (fun t h1 h2 => by
    obtain ⟨b, hb, b2, -, b4, -⟩ := hj.2.2.2.2.2.2.1 t h2
    rw [bnn_e b2 hb]
    exact b4 h1)
  obtain ⟨e, h1, h2⟩ := gI1_FU (step := fun s => X11_binned_L4 s.1 s.2 Mm) (fun k (z : Int32) => (z, nI k)) (fun k z => z = nI (spc (bnn 0 Mx) k)) (fun z => z = nI (spc (bnn 0 Mx) (tN W H T))) 0 (tN W H T) (by omega) (by omega)
    (fun k z hk hz => by
      obtain ⟨b, hb, b2, b3, -, -⟩ := hj.2.2.2.2.2.2.1 k (by omega)
      have e7 : (768 : Int32) + (11 * nI k) = nI (768 + 11 * k) := by rw [nlit 11, nI_mul, nlit 768, nI_add]
      refine ⟨nI (spc (bnn 0 Mx) (k + 1)), ?_, rfl⟩
      show X11_binned_L4 z (nI k) Mm = some (Sum.inl (nI (spc (bnn 0 Mx) k + bnn 0 Mx k), nI (k + 1)))
      unfold X11_binned_L4
      rw [x11_all hj.1.1 hj.2.1.1, bind_e, if_neg (nI_ge hk (by omega)), e7, gG_t (gin_n (k := 768 + 11 * k) (by omega) (by decide)), nI_clamp (n := 768 + 11 * k) (by omega), b3, bnn_e b2 hb, hz, gLet_e, gLet_e, nI_1, nI_add])
    (fun z hz => ⟨z, by
      show X11_binned_L4 z (nI (tN W H T)) Mm = _
      unfold X11_binned_L4
      rw [x11_all hj.1.1 hj.2.1.1, bind_e, if_pos (nI_le (Nat.le_refl _) (by omega))], hz⟩) 0 rfl
  unfold X11_binned
  show ((gIter (fun s => X11_binned_L4 s.1 s.2 Mm) FU (0, nI 0)).bind _) = _
  rw [h1, h2, hs]
  rfl
theorem j_allO (hm : m + 1 < 100000) (hnf : nf ≤ 40) (h : SN m nf n W H T K Mx Mm) (hs : ST Mx Mm) : ∃ r nf' Mx' Mm', X10_all nf Mx = some (r, nf', Mx') ∧ X11_all Mm = some (r, Mm') ∧ nf ≤ nf' ∧ nf' ≤ 40 ∧ SN (m + 1) nf' n W H T K Mx' Mm' ∧ ST Mx' Mm' ∧ CX Mx Mx' ∧ CM Mm Mm' := by
  have h0 := h.t0 (v := 0)
  have hn := h.1.1.2.1
  have n0 : ¬ Mx.1 5 1 5 = 0 := by
    rw [h.1.1.2.2.1.2.2.2.2]
    exact nI_ne0 (by omega) (by omega)
  have n1 : ¬ (wI Mm 50 0 0 0).1 50 0 16 = 0 := by
    rw [h0.1.2.1.1.1]
    exact nI_ne0 (by omega) (by omega)
  have rf : X9_refusal 0 2 0 0 0 0 Mx = some (-1) := by
    unfold X9_refusal
    rw [if_neg n0, if_neg (by decide), if_neg (by decide), if_pos rfl]
  obtain ⟨nf', r, X1, X2, X3, Y1, Y2, Y3, k1, k2, k3, k4, k5, k6, k7, k8, k9, k10, k11⟩ := j_act (a := 2) (b := 0) (opc := fun X => X9_carryOut 0 2 0 0 0 0 X) (opm := fun Y => (gIter (fun s => X11_all_L26 s.1 s.2 Y) FU (0, 0)).bind fun x1 => (X11_flushesAll 8 Y).bind fun M => some (x1, M)) hm hnf h0
    (fun X Y g1 g2 _ _ => by
      obtain ⟨X', Y', d1, d2, d⟩ := j_all (Or.inl rfl) g1
      refine ⟨nI (nbc (bnn 0 X) (tN W H T)), X', Y', ?_, ?_, d.1, d.pn g2, d.opx.1, d.opx.2⟩
      · show X9_carryOut 0 2 0 0 0 0 X = _
        unfold X9_carryOut
        rw [if_neg (by decide), if_neg (by decide), if_pos rfl, d1]
        rfl
      · show ((gIter (fun s => X11_all_L26 s.1 s.2 Y) FU (0, 0)).bind _) = _
        rw [x11_cnt g1, bind_e, d2]
        rfl)
  refine ⟨r, nf', X3, Y3, ?_, ?_, k7, k8, k9, (hs.t0 (v := 0)).c k10 k11, k10.c, (CM.t0 (v := 0)).tr k11.c⟩
  · unfold X10_all
    rw [x10_go rf]
    exact x10_done k1 k2 k3 rfl rfl
  · unfold X11_all
    rw [gLet_e, if_neg n1, k4, bind_e]
    obtain ⟨z, z1, z2⟩ := gBind_some k5
    obtain ⟨Z, z3, z4⟩ := gBind_some z2
    cases z4
    rw [z1, bind_e, z3, bind_e, k6]
    rfl
theorem j_clearO (hm : m + 1 < 100000) (hnf : nf ≤ 40) (h : SN m nf n W H T K Mx Mm) (hs : ST Mx Mm) : ∃ r nf' Mx' Mm', X10_clear nf Mx = some (r, nf', Mx') ∧ X11_clear Mm = some (r, Mm') ∧ nf ≤ nf' ∧ nf' ≤ 40 ∧ SN (m + 1) nf' n W H T K Mx' Mm' ∧ ST Mx' Mm' ∧ CX Mx Mx' ∧ CM Mm Mm' := by
  have h0 := h.t0 (v := 0)
  have hn := h.1.1.2.1
  have n0 : ¬ Mx.1 5 1 5 = 0 := by
    rw [h.1.1.2.2.1.2.2.2.2]
    exact nI_ne0 (by omega) (by omega)
  have n1 : ¬ (wI Mm 50 0 0 0).1 50 0 16 = 0 := by
    rw [h0.1.2.1.1.1]
    exact nI_ne0 (by omega) (by omega)
  have rf : X9_refusal 0 3 0 0 0 0 Mx = some (-1) := by
    unfold X9_refusal
    rw [if_neg n0, if_neg (by decide), if_neg (by decide), if_neg (by decide), if_pos rfl]
  obtain ⟨nf', r, X1, X2, X3, Y1, Y2, Y3, k1, k2, k3, k4, k5, k6, k7, k8, k9, k10, k11⟩ := j_act (a := 3) (b := 0) (opc := fun X => X9_carryOut 0 3 0 0 0 0 X) (opm := fun Y => (X11_binned Y).bind fun x1 => (X11_clears 8 Y).bind fun M => some (x1, M)) hm hnf h0
    (fun X Y g1 g2 _ _ => by
      obtain ⟨X', Y', d1, d2, d, -, -⟩ := j_wipe (Or.inl rfl) g1
      refine ⟨nI (spc (bnn 0 X) 16), X', Y', ?_, ?_, d.1, d.pn g2, d.opx.1, d.opx.2⟩
      · show X9_carryOut 0 3 0 0 0 0 X = _
        unfold X9_carryOut
        rw [if_neg (by decide), if_neg (by decide), if_neg (by decide), if_pos rfl, d1]
        rfl
      · show ((X11_binned Y).bind _) = _
        rw [x11_bind g1, bind_e, d2]
        rfl)
  refine ⟨r, nf', X3, Y3, ?_, ?_, k7, k8, k9, (hs.t0 (v := 0)).c k10 k11, k10.c, (CM.t0 (v := 0)).tr k11.c⟩
  · unfold X10_clear
    rw [x10_go rf]
    exact x10_done k1 k2 k3 rfl rfl
  · unfold X11_clear
    rw [gLet_e, if_neg n1, k4, bind_e]
    obtain ⟨z, z1, z2⟩ := gBind_some k5
    obtain ⟨Z, z3, z4⟩ := gBind_some z2
    cases z4
    rw [z1, bind_e, z3, bind_e, k6]
    rfl
end AK4
