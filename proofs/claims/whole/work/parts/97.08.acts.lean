/-! an act of a kind, as a step of scripts and of years -/
def msort (k : Nat) : Int32 := if 4 ≤ k then (if k = 8 then 5 else 4) else nI k
def mnum (k : Nat) (p : Int32) : Int32 := if k = 2 ∨ k = 3 then 0 else if 4 ≤ k ∧ k ≤ 7 then nI (k - 4) else p
section KC
variable {n W H T K i j k t m nf nf' : Nat} {M M' Mx Mm Mx' Mm' : gM} {p p1 p2 p3 p4 v r : Int32}
theorem x10_sort (hk : k ≤ 8) : X10_sortOf (nI k) M = some (msort k) := by
  rcases (show k = 0 ∨ k = 1 ∨ k = 2 ∨ k = 3 ∨ k = 4 ∨ k = 5 ∨ k = 6 ∨ k = 7 ∨ k = 8 by omega) with rfl | rfl | rfl | rfl | rfl | rfl | rfl | rfl | rfl <;> rfl
theorem x10_num (hk : k ≤ 8) : X10_numberOf (nI k) p M = some (mnum k p) := by
  rcases (show k = 0 ∨ k = 1 ∨ k = 2 ∨ k = 3 ∨ k = 4 ∨ k = 5 ∨ k = 6 ∨ k = 7 ∨ k = 8 by omega) with rfl | rfl | rfl | rfl | rfl | rfl | rfl | rfl | rfl <;> rfl
theorem j_kc (hm : m + 1 < 100000) (hnf : nf ≤ 40) (h : SN m nf n W H T K Mx Mm) (hs : ST Mx Mm) (hk : k ≤ 8) (v : Int32) :
    (∃ l Y1, l < 4 ∧ X9_refusal 0 (nI k) p1 p2 p3 p4 Mx = some (nI l) ∧ mst 8 k p1 p2 p3 p4 Mm = some (nI l, Y1) ∧ SameA Mm Y1) ∨
    (X9_refusal 0 (nI k) p1 p2 p3 p4 Mx = some (-1) ∧ ∃ Y0, mst 8 k p1 p2 p3 p4 Mm = some (-1, Y0) ∧ SameA Mm Y0 ∧ ∃ r nf' Mx' Y1 Y2 Y3, X10_act nf (nI k) p1 p2 p3 p4 v Mx = some (r, nf', Mx') ∧ X11_remember Y0 = some Y1 ∧ mop 8 k p1 p2 p3 p4 Y1 = some Y2 ∧ X11_tells (msort k) (mnum k p1) Y2 = some Y3 ∧ nf ≤ nf' ∧ nf' ≤ 40 ∧ SN (m + 1) nf' n W H T K Mx' Y3 ∧ ST Mx' Y3 ∧ OAX Mx Mx' ∧ CM Mm Y3 ∧ Y3.2 = Mm.2 ∧ ∀ c, Y1.1 52 5 c = Mm.1 52 5 c ∧ Y2.1 52 5 c = Mm.1 52 5 c) := by
  rcases j_kr (p1 := p1) (p2 := p2) (p3 := p3) (p4 := p4) (Or.inl rfl) h.1 h.2.1 hk with g | ⟨e1, Y0, e2, s0, dk⟩
  · exact Or.inl g
  · refine Or.inr ⟨e1, Y0, e2, s0, ?_⟩
    obtain ⟨nf', r, X1, X2, X3, Y1, Y2, Y3, k1, k2, k3, k4, k5, k6, k7, k8, k9, k10, k11, -, k12⟩ := j_actR (a := msort k) (b := mnum k p1) (opc := fun X => (X9_carryOut 0 (nI k) p1 p2 p3 p4 X).bind (gU2 fun _ X => some (0, X))) (opm := fun Y => (mop 8 k p1 p2 p3 p4 Y).bind fun Y => some (0, Y)) hm hnf (h.ask s0)
      (fun X Y g1 g2 g3 _ => by
        obtain ⟨r, X', Y', d1, d2, d3, d4, d5, d6⟩ := dk X Y g1 g2 g3
        refine ⟨0, X', Y', ?_, ?_, d3, d4, d5, d6⟩
        · show ((X9_carryOut 0 (nI k) p1 p2 p3 p4 X).bind _) = _
          rw [d1]
          rfl
        · show ((mop 8 k p1 p2 p3 p4 Y).bind _) = _
          rw [d2]
          rfl)
    obtain ⟨⟨ρ, Z⟩, z1, z2⟩ := gBind_some k2
    cases z2
    obtain ⟨Z', z3, z4⟩ := gBind_some k5
    cases z4
    refine ⟨ρ, nf', X3, Y1, Y2, Y3, ?_, k4, z3, k6, k7, k8, k9, (hs.ask s0).c k10 k11, k10, (CM.ask s0).tr k11.c, by rw [k11.1, s0.1], fun c => ?_⟩
    · rw [x10_go e1]
      exact x10_done k1 z1 k3 (x10_sort hk) (x10_num hk)
    · have := k12 52 5 c (by unfold acM; omega)
      rw [this.1, this.2, s0.2 52 5 c (by omega)]
      exact ⟨rfl, rfl⟩
end KC
