/-! set, move as calls -/
section SM
variable {n W H T K i j k t m nf nf' : Nat} {M M' Mx Mm Mx' Mm' : gM} {p p1 p2 p3 p4 v r : Int32}
theorem SN.n0 (h : SN m nf n W H T K Mx Mm) : ¬ Mx.1 5 1 5 = 0 ∧ ¬ Mm.1 50 0 16 = 0 := by
  have hn := h.1.1.2.1
  constructor
  · rw [h.1.1.2.2.1.2.2.2.2]
    exact nI_ne0 (by omega) (by omega)
  · rw [h.1.2.1.1.1]
    exact nI_ne0 (by omega) (by omega)
theorem x9_ref9 (n0 : ¬ Mx.1 5 1 5 = 0) : X9_refusal 0 9 p 0 0 0 Mx = some (nI 1) := by
  unfold X9_refusal
  rw [if_neg n0]
  rfl
theorem x11_refN (n0 : ¬ Mm.1 50 0 16 = 0) (h : ¬ (0 ≤ p1.toInt ∧ p1.toInt ≤ 3)) : X11_stopsRule 8 p1 p Mm = some (nI 1) := by
  unfold X11_stopsRule
  have a0 : (0 : Int64).toInt = 0 := rfl
  have a3 : (3 : Int64).toInt = 3 := rfl
  rw [if_neg n0, x11_isIn, a0, a3, if_neg h, bind_e, if_pos rfl]
  rfl
theorem x10_set (n0 : ¬ Mx.1 5 1 5 = 0) : (∃ k, k < 4 ∧ p1 = nI k ∧ X10_set nf p1 p Mx = X10_act nf (nI (4 + k)) p 0 0 0 (-1) Mx) ∨ (¬ (0 ≤ p1.toInt ∧ p1.toInt ≤ 3) ∧ X10_set nf p1 p Mx = X10_act nf 9 p 0 0 0 (-1) Mx) := by
  unfold X10_set X10_set_J15 X10_set_J17
  have a0 : (0 : Int32).toInt = 0 := rfl
  have a4 : (4 : Int32).toInt = 4 := rfl
  by_cases h0 : p1 < 0
  · have := Int32.lt_iff_toInt_lt.mp h0
    rw [if_pos h0]
    exact Or.inr ⟨by omega, rfl⟩
  · rw [if_neg h0]
    by_cases h1 : 4 ≤ p1
    · have := Int32.le_iff_toInt_le.mp h1
      rw [if_pos h1]
      exact Or.inr ⟨by omega, rfl⟩
    · obtain ⟨k, hk, rfl⟩ := arg (n := 4) h0 (by exact h1) (by decide)
      rw [if_neg h1, nlit 4, nI_add]
      exact Or.inl ⟨k, hk, rfl, rfl⟩
theorem j_setO (hm : m + 1 < 100000) (hnf : nf ≤ 40) (h : SN m nf n W H T K Mx Mm) (hs : ST Mx Mm) : ∃ r nf' Mx' Mm', X10_set nf p1 p Mx = some (r, nf', Mx') ∧ X11_set p1 p Mm = some (r, Mm') ∧ nf ≤ nf' ∧ nf' ≤ 40 ∧ SN (m + 1) nf' n W H T K Mx' Mm' ∧ ST Mx' Mm' ∧ CX Mx Mx' ∧ CM Mm Mm' := by
  have h0 := h.t0 (v := 0)
  unfold X11_set
  rw [gLet_e]
  rcases x10_set (nf := nf) (p := p) (p1 := p1) h.n0.1 with ⟨k, hk, rfl, es⟩ | ⟨hb, es⟩
  · rw [es]
    rcases j_setC (p := p) hm hnf h0 (hs.t0 (v := 0)) hk (-1) with ⟨l, hl, e1, e2⟩ | ⟨e1, e2, r, nf', X', Y1, Y2, Y3, g1, g2, g3, g4, g5, g6, g7, g8, g9, g10⟩
    · obtain ⟨q1, q2, q3, q4, q5⟩ := j_ref hl h0 (hs.t0 (v := 0))
      refine ⟨-1, nf, _, _, x10_ref hl e1, ?_, Nat.le_refl _, hnf, q2.mono (by omega), q3, q4, (CM.t0 (v := 0)).tr q5⟩
      rw [e2, bind_e, if_neg (nI_m1 (by omega)), q1]
      rfl
    · refine ⟨r, nf', X', Y3, g1, ?_, g5, g6, g7, g8, g9, (CM.t0 (v := 0)).tr g10⟩
      rw [e2, bind_e, if_pos rfl, g2, bind_e]
      unfold seM at g3
      cases hg : gin (1057 + nI k) 1242 with
      | false =>
        rw [hg] at g3
        cases g3
      | true =>
        rw [hg, gG_t rfl, gLet_e, gG_t rfl, gLet_e] at g3
        cases g3
        rw [gG_t rfl, gLet_e, gG_t rfl, gLet_e, g4]
        rfl
  · obtain ⟨q1, q2, q3, q4, q5⟩ := j_ref (k := 1) (by omega) h0 (hs.t0 (v := 0))
    refine ⟨-1, nf, _, _, es.trans (x10_ref (by omega) (x9_ref9 h.n0.1)), ?_, Nat.le_refl _, hnf, q2.mono (by omega), q3, q4, (CM.t0 (v := 0)).tr q5⟩
    rw [x11_refN h0.n0.2 hb, bind_e, if_neg (nI_m1 (by omega)), q1]
    rfl
end SM
