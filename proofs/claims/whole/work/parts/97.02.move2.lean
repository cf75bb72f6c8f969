/-! move as a call, done -/
section MD2
variable {n W H T K i j k t m nf nf' : Nat} {M M' Mx Mm Mx' Mm' : gM} {a b p p1 p2 p3 p4 v r : Int32}
theorem note_39 (h : X0_note i a b M = some M') (c : Nat) : M'.1 39 i c = M.1 39 i c := by
  unfold X0_note at h
  obtain ⟨r2, -, h⟩ := gBind_some h
  rw [gLet_e] at h
  have h := (gG_some h).2
  rw [gLet_e] at h
  have h := (gG_some h).2
  rw [gLet_e] at h
  obtain ⟨r9, -, h⟩ := gBind_some h
  have h := (gG_some h).2
  rw [gLet_e, gLet_e] at h
  cases h
  rw [w_n (by omega), w_n (by omega), w_n (by omega), w_n (by omega)]
theorem x9_ref8 (n0 : ¬ Mx.1 5 1 5 = 0) : X9_refusal 0 8 p1 p2 p3 p4 Mx = X9_refusalOfMove 0 p1 p2 p3 p4 Mx := by
  unfold X9_refusal
  rw [if_neg n0]
  simp only [bind_id]
  rfl
theorem x9_co8 : X9_carryOut 0 8 p1 p2 p3 p4 M = X9_moveCorner 0 p1 p2 p3 p4 M := by
  unfold X9_carryOut
  simp only [bind_u2]
  rfl
theorem j_moveO (hm : m + 1 < 100000) (hnf : nf ≤ 40) (h : SN m nf n W H T K Mx Mm) (hs : ST Mx Mm) : ∃ r nf' Mx' Mm', X10_move nf p1 p2 p3 p4 Mx = some (r, nf', Mx') ∧ X11_move p1 p2 p3 p4 Mm = some (r, Mm') ∧ nf ≤ nf' ∧ nf' ≤ 40 ∧ SN (m + 1) nf' n W H T K Mx' Mm' ∧ ST Mx' Mm' ∧ CX Mx Mx' ∧ CM Mm Mm' := by
  have h0 := h.t0 (v := 0)
  have hn := h.1.1.2.1
  unfold X10_move X11_move
  rw [gLet_e]
  rcases j_stopM (p1 := p1) (p2 := p2) (p3 := p3) (p4 := p4) h0.1 with ⟨k, hk, e1, e2⟩ | ⟨e1, e2, t, c, ht, hc, rfl, rfl, b1, b2⟩
  · obtain ⟨q1, q2, q3, q4, q5⟩ := j_ref hk h0 (hs.t0 (v := 0))
    refine ⟨-1000000000, nf, _, _, x10_ref hk ((x9_ref8 h.n0.1).trans e1), ?_, Nat.le_refl _, hnf, q2.mono (by omega), q3, q4, (CM.t0 (v := 0)).tr q5⟩
    rw [e2, bind_e, if_neg (nI_m1 (by omega)), q1]
    rfl
  · obtain ⟨nf', r, X1, X2, X3, Y1, Y2, Y3, k1, k2, k3, k4, k5, k6, k7, k8, k9, k10, k11, k12⟩ := j_actR (a := 5) (b := nI t) (opc := fun X => X9_carryOut 0 8 (nI t) (nI c) p3 p4 X) (opm := fun Y => (X11_moves 8 (nI t) (nI c) p3 p4 Y).bind fun M => some (trA (tau M 8 t), M)) hm hnf h0
      (fun X Y g1 g2 g3 _ => by
        obtain ⟨X', Y', d1, d2, d3, d4, d5, d6⟩ := j_move (dx := p3) (dy := p4) (c := c) (Or.inl rfl) g1 g2 ht hc (by rw [g3 39 _ (by omega) (by omega)]; exact b1) (by rw [g3 39 _ (by omega) (by omega)]; exact b2)
        refine ⟨trA (ct X' 0 t), X', Y', ?_, ?_, d3, d4, ⟨fun a b c hq => d5.2 a b c (by unfold opX at hq; omega), fun _ _ _ _ => by rw [d5.1]⟩, ⟨d6.1, fun a b c hq => d6.2 a b c (by unfold opM at hq; omega)⟩⟩
        · show X9_carryOut 0 8 (nI t) (nI c) p3 p4 X = _
          rw [x9_co8, d1]
        · show ((X11_moves 8 (nI t) (nI c) p3 p4 Y).bind _) = _
          rw [d2, bind_e, (tau_ct d3.2.1 d3.2.2.2.1 ht).1])
    have rf : X9_refusal 0 8 (nI t) (nI c) p3 p4 Mx = some (-1) := (x9_ref8 h.n0.1).trans e1
    have ec : ct X3 0 t = ct X2 0 t := ct_of (note_39 k3)
    obtain ⟨Z, z1, z2, z3⟩ := x11_asksR k9.1.2.1 (by omega) k9.1.2.2.2.1 k9.1.2.2.2.2.1 (Or.inl rfl) ht
    refine ⟨r, nf', X3, Z, ?_, ?_, k7, k8, k9.ask z3, ((hs.t0 (v := 0)).c k10 k11).ask z3, k10.c, ((CM.t0 (v := 0)).tr k11.c).tr (CM.ask z3)⟩
    · rw [x10_go rf]
      exact x10_done k1 k2 k3 rfl rfl
    · rw [e2, bind_e, if_pos rfl, k4, bind_e]
      obtain ⟨N, y1, y2⟩ := gBind_some k5
      cases y2
      rw [y1, bind_e, k6, bind_e, z1, bind_e, z2.2.1, ec, (tau_ct k12.1.2.1 k12.1.2.2.2.1 ht).1]
end MD2
