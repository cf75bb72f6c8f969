/-! drawing, flushing all -/
theorem and1 (x : Int32) : x &&& 1 = 0 ∨ x &&& 1 = 1 := by
  cases h : x.toBitVec.getLsbD 0 with
  | false =>
    left
    apply Int32.toBitVec_inj.1
    rw [Int32.toBitVec_and]
    apply BitVec.eq_of_getLsbD_eq
    intro k hk
    rw [BitVec.getLsbD_and]
    show (x.toBitVec.getLsbD k && (1#32).getLsbD k) = (0#32).getLsbD k
    rw [BitVec.getLsbD_one, BitVec.getLsbD_zero]
    by_cases e : k = 0
    · rw [e, h]; rfl
    · rw [decide_eq_false e, Bool.and_false, Bool.and_false]
  | true =>
    right
    apply Int32.toBitVec_inj.1
    rw [Int32.toBitVec_and]
    apply BitVec.eq_of_getLsbD_eq
    intro k hk
    rw [BitVec.getLsbD_and]
    show (x.toBitVec.getLsbD k && (1#32).getLsbD k) = (1#32).getLsbD k
    rw [BitVec.getLsbD_one]
    by_cases e : k = 0
    · rw [e, h]; rfl
    · rw [decide_eq_false e, Bool.and_false, Bool.and_false]
theorem x11_hasb (x3 : Int32) (k : Nat) (M : gM) : X11_has x3 (nI k) M = some (if ((x3 >>> (nI k &&& 31)) &&& 1) = 0 then 0 else 1) := by
  unfold X11_has
  rcases and1 (x3 >>> (nI k &&& 31)) with e | e <;> rw [e] <;> rfl
section DR
variable {n W H T K i j k t tl : Nat} {M M' Mx Mm Mx' Mm' : gM}
def JD (n W H T K i j : Nat) (Mx Mm Mx' Mm' : gM) : Prop := RJ n W H T K i j Mx' Mm' ∧ OXB i Mx Mx' ∧ OMB j Mm Mm' ∧ ∀ q, Mx.1 36 i q = -1 → Mx'.1 36 i q = -1
theorem JD.rf (h : RJ n W H T K i j Mx Mm) : JD n W H T K i j Mx Mm Mx Mm := ⟨h, OXB.rf i Mx, OMB.rf j Mm, fun _ h => h⟩
theorem JD.tr {Mx'' Mm'' : gM} (h : JD n W H T K i j Mx Mm Mx' Mm') (h' : JD n W H T K i j Mx' Mm' Mx'' Mm'') : JD n W H T K i j Mx Mm Mx'' Mm'' := ⟨h'.1, h.2.1.tr h'.2.1, h.2.2.1.tr h'.2.2.1, fun q hq => h'.2.2.2 q (h.2.2.2 q hq)⟩
theorem JF.d (h : JF n W H T K i j tl Mx Mm Mx' Mm') : JD n W H T K i j Mx Mm Mx' Mm' := ⟨h.1, h.2.1, h.2.2.1, fun q hq => by
  by_cases c : TL W H T K tl q
  · exact h.2.2.2.2.2.1 q c
  · rw [h.2.2.2.2.2.2 q c]; exact hq⟩
theorem j_push {b u : Nat} {x3 x4 : Int32} (hj : j = 8 ∨ j = 9) (h : RJ n W H T K i j Mx Mm) (ht : t < tN W H T) (hb : b < 10) (hu : u < n) (eb : Mx.1 38 i t = nI b) :
    ∃ Mx' Mm', X9_drawOne_J88 i (nI u) x3 x4 (nI t) Mx = some (.inl (x4 + 1, nI (t + 1), Mx')) ∧ X11_draws_J64 j (nI u) x3 x4 (nI t) (nI (768 + 11 * t)) Mm = some (.inl (x4 + 1, nI (t + 1), Mm')) ∧ JD n W H T K i j Mx Mm Mx' Mm' := by
  have hn := h.1.2.1
  have hN := h.1.1.N
  obtain ⟨b', h1, h2, h3, -, -⟩ := h.2.2.2.2.2.2.1 t (by omega)
  have ebb : b' = b := nI_inj (by omega) (by omega) (h2.symm.trans eb)
  subst ebb
  have r := h.push hj ht hb hu eb
  refine ⟨_, _, ?_, ?_, r, (OXB.w (by unfold xB; omega)).tr (OXB.w (by unfold xB; omega)), (OMB.w (by omega)).tr (OMB.w (by omega)), fun q hq => by rw [w_n (by omega), w_n (by omega)]; exact hq⟩
  · unfold X9_drawOne_J88
    rw [nI_clamp (n := t) (by omega), h2, nlit 10, nI_mul, nI_add, gG_t (gin_n (k := t) (by omega) (by decide)), gG_t (gin_n (k := t * 10 + b') (by omega) (by decide)), gLet_e, gG_t (gin_n (k := t) (by omega) (by decide)), gG_t (gin_n (k := t) (by omega) (by decide)), gLet_e, nI_clamp (n := t * 10 + b') (by omega), w_n (by omega), h2, gLet_e, gLet_e, nI_1, nI_1, Nat.mul_comm t 10]
  · unfold X11_draws_J64
    rw [gLen8 hj, gG_t (gin_n (k := 768 + 11 * t) (by omega) (by decide)), gG_t (gin_n (k := 768 + 11 * t) (by omega) (by decide)), gLet_e, nI_clamp (n := 768 + 11 * t) (by omega), h3, nI_1, gG_t (gin_n (k := 768 + 11 * t) (by omega) (by decide)), w_e, nI_add, gG_t (gin_n (k := 768 + 11 * t + (b' + 1)) (by omega) (by decide)), nI_clamp (n := 768 + 11 * t + (b' + 1)) (by omega), gLet_e, gLet_e, gLet_e, nI_1]
theorem j_draw1 {x3 x4 : Int32} {u : Nat} (hj : j = 8 ∨ j = 9) (h : RJ n W H T K i j Mx Mm) (ht : t < tN W H T) (hu : u < n) :
    ∃ x' Mx' Mm', X9_drawOne_L28 i (nI u) x3 x4 (nI t) Mx = some (.inl (x', nI (t + 1), Mx')) ∧ X11_draws_L13 j (nI u) x3 x4 (nI t) Mm = some (.inl (x', nI (t + 1), Mm')) ∧ JD n W H T K i j Mx Mm Mx' Mm' := by
  have hn := h.1.2.1
  have hd := h.1.1
  have hN := hd.N
  obtain ⟨b, hb, h2, h3, -, -⟩ := h.2.2.2.2.2.2.1 t (by omega)
  obtain ⟨r, hr1, hr2, hr⟩ := h.2.2.2.2.1.2.2.2.2
  have e60 : Mm.1 52 j 1060 = nI r := (h.2.2.2.2.1.1 3 (by decide)).trans hr
  have e768 : (768 : Int32) + (11 * nI t) = nI (768 + 11 * t) := by rw [nlit 11, nI_mul, nlit 768, nI_add]
  unfold X9_drawOne_L28 X11_draws_L13
  rw [h.1.2.2.2.1.2.2.2.2.2.1, if_neg (nI_ge ht (by omega)), x11_all hd h.2.1.1, bind_e, if_neg (nI_ge ht (by omega)), x11_hasb, bind_e]
  by_cases hbit : ((x3 >>> (nI t &&& 31)) &&& 1) = 0
  · rw [if_pos hbit, if_pos hbit, if_pos rfl, gLet_e, gLet_e, nI_1]
    exact ⟨x4, Mx, Mm, rfl, rfl, JD.rf h⟩
  · rw [if_neg hbit, if_neg hbit, if_neg (show ¬ (1 : Int32) = 0 by decide), gG_t (gin_n (k := t) (by omega) (by decide)), gLet_e, e768, gLen8 hj, gG_t (gin_n (k := 768 + 11 * t) (by omega) (by decide)), nlit 1060, gG_t (gin_n (k := 1060) (by omega) (by decide)), nI_clamp (n := t) (by omega), nI_clamp (n := 768 + 11 * t) (by omega), nI_clamp (n := 1060) (by omega), hr, h2, h3, e60]
    by_cases hc : r ≤ b
    · rw [if_pos (nI_le hc (by omega)), if_neg (fun z => absurd ((nI_ltI (by omega) (by omega)).mp z) (by omega))]
      obtain ⟨b', X, Y, q1, q2, q3, q4, q5, q6⟩ := j_flush hj h ht
      obtain ⟨X', Y', p1, p2, p3⟩ := j_push (x3 := x3) (x4 := x4) hj q6.1 ht (b := 0) (by omega) hu q6.2.2.2.1
      unfold X9_drawOne_J80
      rw [q4, bind_e, gU2_e, q5, bind_e]
      exact ⟨_, X', Y', p1, p2, q6.d.tr p3⟩
    · rw [if_neg (nI_ge (by omega) (by omega)), if_pos ((nI_ltI (by omega) (by omega)).mpr (by omega)), gG_t (gin_n (k := t) (by omega) (by decide)), nlit 10, if_pos ((nI_ltI (by omega) (by omega)).mpr (by omega))]
      obtain ⟨X', Y', p1, p2, p3⟩ := j_push (x3 := x3) (x4 := x4) hj h ht (b := b) (by omega) hu h2
      exact ⟨_, X', Y', p1, p2, p3⟩
theorem j_draw (hj : j = 8 ∨ j = 9) (h : RJ n W H T K i j Mx Mm) (ht : t < n) : ∃ r Mx' Mm', X9_drawOne i (nI t) Mx = some (r, Mx') ∧ X11_draws j (nI t) Mm = some (r, Mm') ∧ JD n W H T K i j Mx Mm Mx' Mm' := by
  have hd := h.1.1
  have hN := hd.N
  obtain ⟨z, M7, e1, e2, s7, h7, -, -⟩ := j_touched hj h ht
  obtain ⟨e, d, g1, g2, g3, g4⟩ := gI2_FU (s1 := fun s => X9_drawOne_L28 i (nI t) z s.1 s.2.1 s.2.2) (s2 := fun s => X11_draws_L13 j (nI t) z s.1 s.2.1 s.2.2) (fun k (x : Int32 × gM) => (x.1, nI k, x.2)) (fun k (x : Int32 × gM) => (x.1, nI k, x.2))
    (fun _ x y => x.1 = y.1 ∧ JD n W H T K i j Mx M7 x.2 y.2) (fun (x y : Int32 × gM) => x.1 = y.1 ∧ JD n W H T K i j Mx M7 x.2 y.2) 0 (tN W H T) (by omega) (by omega)
    (fun k x y hk hr => by
      obtain ⟨x', X, Y, p1, p2, p3⟩ := j_draw1 (x3 := z) (x4 := x.1) hj hr.2.1 hk ht
      refine ⟨(x', X), (x', Y), p1, ?_, rfl, hr.2.tr p3⟩
      show X11_draws_L13 j (nI t) z y.1 (nI k) y.2 = _
      rw [← hr.1]
      exact p2)
    (fun x y hr => by
      refine ⟨x, y, ?_, ?_, hr⟩
      · show X9_drawOne_L28 i (nI t) z x.1 (nI (tN W H T)) x.2 = _
        unfold X9_drawOne_L28
        rw [hr.2.1.1.2.2.2.1.2.2.2.2.2.1, if_pos (nI_le (Nat.le_refl _) (by omega))]
      · show X11_draws_L13 j (nI t) z y.1 (nI (tN W H T)) y.2 = _
        unfold X11_draws_L13
        rw [x11_all hd hr.2.1.2.1.1, bind_e, if_pos (nI_le (Nat.le_refl _) (by omega))]) (0, Mx) (0, M7) ⟨rfl, JD.rf h7⟩
  obtain ⟨r, X⟩ := e
  obtain ⟨r', Y⟩ := d
  simp only at g3 g4
  subst g3
  refine ⟨r, X, Y, ?_, ?_, g4.1, g4.2.1, (OM.ask s7).b.tr g4.2.2.1, g4.2.2.2⟩
  · unfold X9_drawOne
    rw [x4_has h.1 ht, bind_e, if_neg (show ¬ (1 : Int32) = 0 by decide), e1, bind_e]
    show ((gIter (fun s => X9_drawOne_L28 i (nI t) z s.1 s.2.1 s.2.2) FU (0, nI 0, Mx)).bind _) = _
    rw [g1]
    rfl
  · unfold X11_draws
    rw [e2, bind_e, gU2_e]
    show ((gIter (fun s => X11_draws_L13 j (nI t) z s.1 s.2.1 s.2.2) FU (0, nI 0, M7)).bind _) = _
    rw [g2]
    rfl
/-! all tiles -/
def nbc (f : Nat → Nat) : Nat → Nat
  | 0 => 0
  | m + 1 => nbc f m + if 0 < f m then 1 else 0
theorem nbc_le (f : Nat → Nat) (m : Nat) : nbc f m ≤ m := by
  induction m with
  | zero => exact Nat.le_refl 0
  | succ m ih =>
    show nbc f m + (if 0 < f m then 1 else 0) ≤ m + 1
    split <;> omega
def bnn (i : Nat) (M : gM) (c : Nat) : Nat := Int32.toNatClampNeg (M.1 38 i c)
theorem bnn_e {b : Nat} (h : M.1 38 i t = nI b) (hb : b ≤ 10) : bnn i M t = b := by
  unfold bnn
  rw [h, nI_clamp (by omega)]
theorem j_all (hj : j = 8 ∨ j = 9) (h : RJ n W H T K i j Mx Mm) : ∃ Mx' Mm', X9_flushAll i Mx = some (nI (nbc (bnn i Mx) (tN W H T)), Mx') ∧ X11_flushesAll j Mm = some Mm' ∧ JD n W H T K i j Mx Mm Mx' Mm' := by
  have hd := h.1.1
  have hN := hd.N
  obtain ⟨e, d, g1, g2, g3, g4⟩ := gI2_FU (s1 := fun s => X9_flushAll_L4 i s.1 s.2.1 s.2.2) (s2 := fun s => X11_flushesAll_L2 j s.1 s.2) (fun k (x : Int32 × gM) => (x.1, nI k, x.2)) (fun k (x : gM) => (nI k, x))
    (fun k x y => (x.1 = nI (nbc (bnn i Mx) k) ∧ ∀ c, k ≤ c → x.2.1 38 i c = Mx.1 38 i c) ∧ JD n W H T K i j Mx Mm x.2 y) (fun (x : Int32 × gM) y => x.1 = nI (nbc (bnn i Mx) (tN W H T)) ∧ JD n W H T K i j Mx Mm x.2 y) 0 (tN W H T) (by omega) (by omega)
    (fun k x y hk hr => by
      obtain ⟨b, X, Y, q1, q2, q3, q4, q5, q6⟩ := j_flush hj hr.2.1 hk
      have eb : bnn i Mx k = b := bnn_e ((hr.1.2 k (Nat.le_refl k)).symm.trans q2) q1
      refine ⟨(nI (nbc (bnn i Mx) (k + 1)), X), Y, ?_, ?_, ⟨rfl, fun c hc => ?_⟩, hr.2.tr q6.d⟩
      · show X9_flushAll_L4 i x.1 (nI k) x.2 = _
        unfold X9_flushAll_L4
        rw [hr.2.1.1.2.2.2.1.2.2.2.2.2.1, if_neg (nI_ge hk (by omega)), q4, bind_e, gU2_e, hr.1.1]
        show _ = some (Sum.inl (nI (nbc (bnn i Mx) k + if 0 < bnn i Mx k then 1 else 0), nI (k + 1), X))
        rw [eb]
        by_cases hb : 0 < b
        · rw [if_neg (show ¬ nI b ≤ (0 : Int32) from nI_ge (a := 0) (b := b) hb (by omega)), if_pos hb, gLet_e, gLet_e, nI_1, nI_1]
        · have : b = 0 := by omega
          subst this
          rw [if_pos (by decide), if_neg (by omega), gLet_e, nI_1]
          rfl
      · show X11_flushesAll_L2 j (nI k) y = _
        unfold X11_flushesAll_L2
        rw [x11_all hd hr.2.1.2.1.1, bind_e, if_neg (nI_ge hk (by omega)), q5, bind_e, gLet_e, nI_1]
      · show X.1 38 i c = _
        rw [q6.2.2.2.2.1 c (by omega)]
        exact hr.1.2 c (by omega))
    (fun x y hr => by
      refine ⟨x, y, ?_, ?_, hr.1.1, hr.2⟩
      · show X9_flushAll_L4 i x.1 (nI (tN W H T)) x.2 = _
        unfold X9_flushAll_L4
        rw [hr.2.1.1.2.2.2.1.2.2.2.2.2.1, if_pos (nI_le (Nat.le_refl _) (by omega))]
      · show X11_flushesAll_L2 j (nI (tN W H T)) y = _
        unfold X11_flushesAll_L2
        rw [x11_all hd hr.2.1.2.1.1, bind_e, if_pos (nI_le (Nat.le_refl _) (by omega))]) (0, Mx) Mm ⟨⟨rfl, fun _ _ => rfl⟩, JD.rf h⟩
  obtain ⟨r, X⟩ := e
  simp only at g3 g4
  subst g3
  refine ⟨X, d, ?_, ?_, g4⟩
  · unfold X9_flushAll
    show ((gIter (fun s => X9_flushAll_L4 i s.1 s.2.1 s.2.2) FU (0, nI 0, Mx)).bind _) = _
    rw [g1]
    rfl
  · unfold X11_flushesAll
    show ((gIter (fun s => X11_flushesAll_L2 j s.1 s.2) FU (nI 0, Mm)).bind _) = _
    rw [g2]
    rfl
end DR
