/-! an act of a kind, done on both sides -/
noncomputable def mst (j k : Nat) (p1 p2 p3 p4 : Int32) (Y : gM) : Option (Int32 × gM) :=
  if k = 0 then X11_stopsDraw j p1 Y else if k = 1 then (X11_stopsFlush j p1 Y).bind fun r => some (r, Y) else if k = 2 ∨ k = 3 then some (-1, Y) else if k = 8 then (X11_stopsMove j p1 p2 p3 p4 Y).bind fun r => some (r, Y) else (X11_stopsRule j (nI (k - 4)) p1 Y).bind fun r => some (r, Y)
noncomputable def mop (j k : Nat) (p1 p2 p3 p4 : Int32) (Y : gM) : Option gM :=
  if k = 0 then (X11_draws j p1 Y).bind (gU2 fun _ M => some M) else if k = 1 then X11_flushes j p1 Y else if k = 2 then X11_flushesAll j Y else if k = 3 then X11_clears j Y else if k = 8 then X11_moves j p1 p2 p3 p4 Y else some (wI Y 52 j (1057 + (k - 4)) p1)
def opXi (i a b c : Nat) : Prop := (19 ≤ a ∧ a ≤ 27) ∨ (33 ≤ a ∧ a ≤ 41 ∧ b = i ∧ ¬ (a = 33 ∧ c = 9))
def OPXi (i : Nat) (X X' : gM) : Prop := (∀ a b c, ¬ opXi i a b c → X'.1 a b c = X.1 a b c) ∧ ∀ a b c, ¬ (a = 41 ∧ b = i) → X'.2 a b c = X.2 a b c
def opMj (j a b c : Nat) : Prop := (a = 52 ∧ b = j ∧ c < 1061) ∨ (a = 52 ∧ (b = 12 ∨ b = 13 ∨ b = 14)) ∨ (a = 50 ∧ b = 0 ∧ (c = 28 ∨ c = 31))
def OPMj (j : Nat) (Y Y' : gM) : Prop := OQ (opMj j) Y Y'
/-- both sides do it -/
def DOK (n W H T K i j k : Nat) (p1 p2 p3 p4 : Int32) (Mx : gM) : Prop := ∀ X Y, RJ n W H T K i j X Y → PN i X → (∀ a c, 33 ≤ a → a ≤ 42 → X.1 a i c = Mx.1 a i c) → ∃ r X' Y', X9_carryOut i (nI k) p1 p2 p3 p4 X = some (r, X') ∧ mop j k p1 p2 p3 p4 Y = some Y' ∧ RJ n W H T K i j X' Y' ∧ PN i X' ∧ OPXi i X X' ∧ OPMj j Y Y'
section KR2
variable {n W H T K i j k t m nf nf' : Nat} {M M' Mx Mm Mx' Mm' : gM} {p p1 p2 p3 p4 v r : Int32}
theorem JD.opi (h : JD n W H T K i j Mx Mm Mx' Mm') : OPXi i Mx Mx' ∧ OPMj j Mm Mm' := by
  refine ⟨⟨fun a b c hq => h.2.1.1 a b c ?_, fun a b c hq => h.2.1.2 a b c hq⟩, ⟨h.2.2.1.1, fun a b c hq => h.2.2.1.2 a b c ?_⟩⟩
  · unfold opXi at hq
    unfold xB
    omega
  · unfold opMj at hq
    unfold mB
    omega
theorem RJ.n0 (h : RJ n W H T K i j Mx Mm) : ¬ Mx.1 5 1 5 = 0 ∧ ¬ Mm.1 50 0 16 = 0 := by
  have hn := h.1.2.1
  constructor
  · rw [h.1.2.2.1.2.2.2.2]
    exact nI_ne0 (by omega) (by omega)
  · rw [h.2.1.1.1]
    exact nI_ne0 (by omega) (by omega)
theorem x9_refI (n0 : ¬ Mx.1 5 1 5 = 0) (h4 : 4 ≤ k) (h7 : k ≤ 7) : X9_refusal i (nI k) p1 p2 p3 p4 Mx = X9_refusalOfRule i (nI (k - 4)) p1 Mx := by
  unfold X9_refusal
  rw [if_neg n0]
  simp only [bind_id]
  rcases (show k = 4 ∨ k = 5 ∨ k = 6 ∨ k = 7 by omega) with rfl | rfl | rfl | rfl <;> rfl
theorem x9_coI (h4 : 4 ≤ k) (h7 : k ≤ 7) : X9_carryOut i (nI k) p1 p2 p3 p4 M = X9_changeRule i (nI (k - 4)) p1 M := by
  unfold X9_carryOut
  simp only [bind_u2]
  rcases (show k = 4 ∨ k = 5 ∨ k = 6 ∨ k = 7 by omega) with rfl | rfl | rfl | rfl <;> rfl
theorem j_kr (hj : j = 8 ∨ j = 9) (h : RJ n W H T K i j Mx Mm) (hP : PN i Mx) (hk : k ≤ 8) :
    (∃ l Y1, l < 4 ∧ X9_refusal i (nI k) p1 p2 p3 p4 Mx = some (nI l) ∧ mst j k p1 p2 p3 p4 Mm = some (nI l, Y1) ∧ SameA Mm Y1) ∨
    (X9_refusal i (nI k) p1 p2 p3 p4 Mx = some (-1) ∧ ∃ Y1, mst j k p1 p2 p3 p4 Mm = some (-1, Y1) ∧ SameA Mm Y1 ∧ DOK n W H T K i j k p1 p2 p3 p4 Mx) := by
  have hn := h.1.2.1
  have hN := h.1.1.N
  have n0 := h.n0
  rcases (show k = 0 ∨ k = 1 ∨ k = 2 ∨ k = 3 ∨ k = 8 ∨ (4 ≤ k ∧ k ≤ 7) by omega) with rfl | rfl | rfl | rfl | rfl | ⟨h4, h7⟩
  · show (∃ l Y1, l < 4 ∧ X9_refusal i 0 p1 p2 p3 p4 Mx = some (nI l) ∧ X11_stopsDraw j p1 Mm = some (nI l, Y1) ∧ SameA Mm Y1) ∨ (X9_refusal i 0 p1 p2 p3 p4 Mx = some (-1) ∧ ∃ Y1, X11_stopsDraw j p1 Mm = some (-1, Y1) ∧ SameA Mm Y1 ∧ DOK n W H T K i j 0 p1 p2 p3 p4 Mx)
    unfold X11_stopsDraw
    rcases j_has (p := p1) h.1 h.2.1.1 with ⟨e1, e2⟩ | ⟨e1, e2, t, ht, rfl⟩
    · refine Or.inl ⟨0, Mm, by omega, ?_, ?_, SameA.rf Mm⟩
      · unfold X9_refusal
        rw [if_neg n0.1, if_pos rfl, e1, bind_e, if_pos rfl]
        rfl
      · rw [e2, bind_e, if_pos rfl]
        rfl
    · obtain ⟨z, M7, t1, t2, s7, h7, -, -⟩ := j_touched hj h ht
      have rf : X9_refusal i 0 (nI t) p2 p3 p4 Mx = some (if z = 0 then 2 else -1) := by
        unfold X9_refusal
        rw [if_neg n0.1, if_pos rfl, e1, bind_e, if_neg (show ¬ (1 : Int32) = 0 by decide), t1, bind_e]
        split <;> rfl
      rw [e2, bind_e, if_neg (show ¬ (1 : Int32) = 0 by decide), t2, bind_e, gU2_e]
      by_cases hz : z = 0
      · rw [if_pos hz] at rf
        rw [if_pos hz]
        exact Or.inl ⟨2, M7, by omega, rf, rfl, s7⟩
      · rw [if_neg hz] at rf
        rw [if_neg hz]
        refine Or.inr ⟨rf, M7, rfl, s7, fun X Y g1 g2 _ => ?_⟩
        obtain ⟨r, X', Y', d1, d2, d3⟩ := j_draw hj g1 ht
        refine ⟨r, X', Y', ?_, ?_, d3.1, d3.pn g2, d3.opi.1, d3.opi.2⟩
        · show X9_carryOut i 0 (nI t) p2 p3 p4 X = _
          unfold X9_carryOut
          rw [if_pos rfl, d1]
          rfl
        · show ((X11_draws j (nI t) Y).bind _) = _
          rw [d2]
          rfl
  · show (∃ l Y1, l < 4 ∧ X9_refusal i 1 p1 p2 p3 p4 Mx = some (nI l) ∧ ((X11_stopsFlush j p1 Mm).bind fun r => some (r, Mm)) = some (nI l, Y1) ∧ SameA Mm Y1) ∨ (X9_refusal i 1 p1 p2 p3 p4 Mx = some (-1) ∧ ∃ Y1, ((X11_stopsFlush j p1 Mm).bind fun r => some (r, Mm)) = some (-1, Y1) ∧ SameA Mm Y1 ∧ DOK n W H T K i j 1 p1 p2 p3 p4 Mx)
    unfold X11_stopsFlush
    rcases j_hasT (p := p1) h.1 h.2.1.1 with ⟨e1, e2⟩ | ⟨e1, e2, t, ht, rfl⟩
    · refine Or.inl ⟨0, Mm, by omega, ?_, ?_, SameA.rf Mm⟩
      · unfold X9_refusal
        rw [if_neg n0.1, if_neg (by decide), if_pos rfl, e1, bind_e, if_pos rfl]
        rfl
      · rw [e2, bind_e, if_pos rfl]
        rfl
    · obtain ⟨b, hb, b2, b3, -, -⟩ := h.2.2.2.2.2.2.1 t (by omega)
      obtain ⟨w1, w2⟩ := j_pend hj h hP ht
      have e7 : (768 : Int32) + (11 * nI t) = nI (768 + 11 * t) := by rw [nlit 11, nI_mul, nlit 768, nI_add]
      have rf : X9_refusal i 1 (nI t) p2 p3 p4 Mx = some (if nI b = 0 then 2 else -1) := by
        unfold X9_refusal
        rw [if_neg n0.1, if_neg (by decide), if_pos rfl, e1, bind_e, if_neg (show ¬ (1 : Int32) = 0 by decide), gG_t (gin_n (k := t) (by omega) (by decide)), nI_clamp (by omega), b2, w1, bind_e, if_pos rfl]
        split <;> rfl
      rw [e2, bind_e, if_neg (show ¬ (1 : Int32) = 0 by decide), e7, gl8 hj, gG_t (gin_n (k := 768 + 11 * t) (by omega) (by decide)), nI_clamp (n := 768 + 11 * t) (by omega), b3, w2, bind_e, if_pos rfl]
      by_cases hz : nI b = 0
      · rw [if_pos hz] at rf
        rw [if_pos hz]
        exact Or.inl ⟨2, Mm, by omega, rf, rfl, SameA.rf Mm⟩
      · rw [if_neg hz] at rf
        rw [if_neg hz]
        refine Or.inr ⟨rf, Mm, rfl, SameA.rf Mm, fun X Y g1 g2 _ => ?_⟩
        obtain ⟨b', X', Y', d1, d2, d3, d4, d5, d6⟩ := j_flush hj g1 ht
        have d := d6.d
        refine ⟨nI b', X', Y', ?_, d5, d.1, d.pn g2, d.opi.1, d.opi.2⟩
        show X9_carryOut i 1 (nI t) p2 p3 p4 X = _
        unfold X9_carryOut
        rw [if_neg (by decide), if_pos rfl, d4]
        rfl
  · refine Or.inr ⟨?_, Mm, rfl, SameA.rf Mm, fun X Y g1 g2 _ => ?_⟩
    · unfold X9_refusal
      rw [if_neg n0.1]
      rfl
    · obtain ⟨X', Y', d1, d2, d⟩ := j_all hj g1
      refine ⟨nI (nbc (bnn i X) (tN W H T)), X', Y', ?_, d2, d.1, d.pn g2, d.opi.1, d.opi.2⟩
      · show X9_carryOut i 2 p1 p2 p3 p4 X = _
        unfold X9_carryOut
        rw [if_neg (by decide), if_neg (by decide), if_pos rfl, d1]
        rfl
  · refine Or.inr ⟨?_, Mm, rfl, SameA.rf Mm, fun X Y g1 g2 _ => ?_⟩
    · unfold X9_refusal
      rw [if_neg n0.1]
      rfl
    · obtain ⟨X', Y', d1, d2, d, -, -⟩ := j_wipe hj g1
      refine ⟨nI (spc (bnn i X) 16), X', Y', ?_, d2, d.1, d.pn g2, d.opi.1, d.opi.2⟩
      · show X9_carryOut i 3 p1 p2 p3 p4 X = _
        unfold X9_carryOut
        rw [if_neg (by decide), if_neg (by decide), if_neg (by decide), if_pos rfl, d1]
        rfl
  · have er : X9_refusal i (nI 8) p1 p2 p3 p4 Mx = X9_refusalOfMove i p1 p2 p3 p4 Mx := by
      unfold X9_refusal
      rw [if_neg n0.1]
      simp only [bind_id]
      rfl
    have em : mst j 8 p1 p2 p3 p4 Mm = (X11_stopsMove j p1 p2 p3 p4 Mm).bind fun r => some (r, Mm) := rfl
    rw [er, em]
    rcases j_stopMr (p1 := p1) (p2 := p2) (p3 := p3) (p4 := p4) hj h with ⟨l, hl, e1, e2⟩ | ⟨e1, e2, t, c, ht, hc, rfl, rfl, b1, b2⟩
    · exact Or.inl ⟨l, Mm, hl, e1, by rw [e2]; rfl, SameA.rf Mm⟩
    · refine Or.inr ⟨e1, Mm, by rw [e2]; rfl, SameA.rf Mm, fun X Y g1 g2 g3 => ?_⟩
      obtain ⟨X', Y', d1, d2, d3, d4, d5, d6⟩ := j_move (dx := p3) (dy := p4) (c := c) hj g1 g2 ht hc (by rw [g3 39 _ (by omega) (by omega)]; exact b1) (by rw [g3 39 _ (by omega) (by omega)]; exact b2)
      refine ⟨trA (ct X' i t), X', Y', ?_, d2, d3, d4, ⟨fun a b c hq => d5.2 a b c (by unfold opXi at hq; omega), fun _ _ _ _ => by rw [d5.1]⟩, ⟨d6.1, fun a b c hq => d6.2 a b c (by unfold opMj at hq; omega)⟩⟩
      show X9_carryOut i 8 (nI t) (nI c) p3 p4 X = _
      unfold X9_carryOut
      simp only [bind_u2]
      exact d1
  · have em : mst j k p1 p2 p3 p4 Mm = (X11_stopsRule j (nI (k - 4)) p1 Mm).bind fun r => some (r, Mm) := by
      unfold mst
      rw [if_neg (by omega), if_neg (by omega), if_neg (by omega), if_neg (by omega)]
    rw [x9_refI n0.1 h4 h7, x9_refRr (by omega), em, x11_refRr hj (by omega) n0.2, bind_e, h.2.2.2.2.1.1 (k - 4) (by omega)]
    unfold rans
    by_cases h1 : rlo (k - 4) ≤ p1.toInt ∧ p1.toInt ≤ rhi (k - 4)
    · rw [if_pos h1]
      by_cases h2 : Mx.1 40 i (k - 4) = p1
      · rw [if_pos h2]
        exact Or.inl ⟨2, Mm, by omega, rfl, rfl, SameA.rf Mm⟩
      · rw [if_neg h2]
        refine Or.inr ⟨rfl, Mm, rfl, SameA.rf Mm, fun X Y g1 g2 _ => ?_⟩
        obtain ⟨d1, d2⟩ := j_rule hj g1 (show k - 4 < 4 by omega) (rvl_of (by omega) h1)
        refine ⟨X.1 40 i (k - 4), wI X 40 i (k - 4) p1, wI Y 52 j (1057 + (k - 4)) p1, ?_, ?_, d2, g2.same fun c => w_n (by omega), ⟨fun a b c hq => w_n (by unfold opXi at hq; omega), fun _ _ _ _ => rfl⟩, ⟨rfl, fun a b c hq => w_n (by unfold opMj at hq; omega)⟩⟩
        · rw [x9_coI h4 h7, d1]
        · unfold mop
          rw [if_neg (by omega), if_neg (by omega), if_neg (by omega), if_neg (by omega), if_neg (by omega)]
    · rw [if_neg h1]
      exact Or.inl ⟨1, Mm, by omega, rfl, rfl, SameA.rf Mm⟩
end KR2
