/-! scripts; perform -/
def nst (k : Nat) : Nat := if k = 8 then 4 else if k = 2 ∨ k = 3 then 0 else 1
/-- a step, told on both sides -/
def SR1 (x y : Nat → Int32) : Prop := ∃ k, k ≤ 8 ∧ x 0 = nI k ∧ y 0 = nI k ∧ ∀ c, 1 ≤ c → c < 5 → (c ≤ nst k → y c = x c) ∧ (nst k < c → y c = -1000000000)
def SR (Mx Mm : gM) : Prop := ∃ ns, ns ≤ 4 ∧ Mx.1 0 0 13 = nI ns ∧ Mm.1 50 0 17 = nI ns ∧ ∀ s, s < ns → ∃ L, L ≤ 12 ∧ Mx.1 46 s 1 = nI L ∧ Mm.1 52 6 s = nI L ∧ ∀ l, l < L → SR1 (fun c => Mx.1 47 s (5 * l + c)) (fun c => Mm.1 52 5 (5 * (12 * s + l) + c))
section PF
variable {n W H T K i j k t m nf nf' s l L q : Nat} {M M' Mx Mm Mx' Mm' X Y : gM} {p p1 p2 p3 p4 v r : Int32}
theorem SR.same (h : SR Mx Mm) (gx : ∀ a b c, a = 46 ∨ a = 47 ∨ (a = 0 ∧ b = 0 ∧ c = 13) → Mx'.1 a b c = Mx.1 a b c) (gm : ∀ a b c, (a = 52 ∧ (b = 5 ∨ b = 6)) ∨ (a = 50 ∧ b = 0 ∧ c = 17) → Mm'.1 a b c = Mm.1 a b c) : SR Mx' Mm' := by
  obtain ⟨ns, h1, h2, h3, h4⟩ := h
  refine ⟨ns, h1, by rw [gx 0 0 13 (by omega)]; exact h2, by rw [gm 50 0 17 (by omega)]; exact h3, fun s hs => ?_⟩
  obtain ⟨L, g1, g2, g3, g4⟩ := h4 s hs
  refine ⟨L, g1, by rw [gx 46 s 1 (by omega)]; exact g2, by rw [gm 52 6 s (by omega)]; exact g3, fun l hl => ?_⟩
  have e1 : (fun c => Mx'.1 47 s (5 * l + c)) = (fun c => Mx.1 47 s (5 * l + c)) := funext fun c => gx 47 s _ (by omega)
  have e2 : (fun c => Mm'.1 52 5 (5 * (12 * s + l) + c)) = (fun c => Mm.1 52 5 (5 * (12 * s + l) + c)) := funext fun c => gm 52 5 _ (by omega)
  rw [e1, e2]
  exact g4 l hl
theorem x5_kind (hl : l < L) (hL : L ≤ 12) (e : M.1 46 s 1 = nI L) : X5_kindOf s (nI l) M = some (M.1 47 s (5 * l)) := by
  unfold X5_kindOf
  rw [if_neg (nI_neg (by omega)), e, if_neg (nI_ge hl (by omega)), nlit 5, nI_mul, gG_t (gin_n (k := l * 5) (by omega) (by decide)), nI_clamp (n := l * 5) (by omega), Nat.mul_comm]
theorem x5_num {c : Nat} (hl : l < L) (hL : L ≤ 12) (hc : c < 5) (e : M.1 46 s 1 = nI L) : X5_number s (nI l) (nI c) M = some (M.1 47 s (5 * l + c)) := by
  unfold X5_number
  rw [if_neg (nI_neg (by omega)), e, if_neg (nI_ge hl (by omega)), if_neg (nI_neg (by omega)), if_neg (show ¬ (5 : Int32) ≤ nI c from nI_ge (a := c) (b := 5) hc (by decide)), nlit 5, nI_mul, nI_add, gG_t (gin_n (k := l * 5 + c) (by omega) (by decide)), nI_clamp (n := l * 5 + c) (by omega), Nat.mul_comm l 5]
theorem x11_ss (hq : q + 4 < 300) (hk : k ≤ 8) (e0 : M.1 52 5 q = nI k) (e1 : 1 ≤ nst k → M.1 52 5 (q + 1) = p1) (e2 : nst k = 4 → M.1 52 5 (q + 2) = p2 ∧ M.1 52 5 (q + 3) = p3 ∧ M.1 52 5 (q + 4) = p4) : X11_stopsStep j (nI q) M = mst j k p1 p2 p3 p4 M := by
  unfold X11_stopsStep mst
  rw [show nI q + 1 = nI (q + 1) from nI_add q 1, show nI q + 2 = nI (q + 2) from nI_add q 2, show nI q + 3 = nI (q + 3) from nI_add q 3, show nI q + 4 = nI (q + 4) from nI_add q 4, gLet_e]
  simp only [gG_t (gin_n (k := q) (n := 300) (by omega) (by decide)), gG_t (gin_n (k := q + 1) (n := 300) (by omega) (by decide)), gG_t (gin_n (k := q + 2) (n := 300) (by omega) (by decide)), gG_t (gin_n (k := q + 3) (n := 300) (by omega) (by decide)), gG_t (gin_n (k := q + 4) (n := 300) (by omega) (by decide)), bind_u2, nI_clamp (n := q) (by omega), nI_clamp (n := q + 1) (by omega), nI_clamp (n := q + 2) (by omega), nI_clamp (n := q + 3) (by omega), nI_clamp (n := q + 4) (by omega), e0]
  rcases (show k = 0 ∨ k = 1 ∨ k = 2 ∨ k = 3 ∨ k = 4 ∨ k = 5 ∨ k = 6 ∨ k = 7 ∨ k = 8 by omega) with rfl | rfl | rfl | rfl | rfl | rfl | rfl | rfl | rfl
  · rw [if_pos (show nI 0 = (0 : Int32) from rfl), e1 (by decide), if_pos rfl]
  · rw [if_neg (show ¬ nI 1 = (0 : Int32) by decide), if_pos (show nI 1 = (1 : Int32) from rfl), e1 (by decide), if_neg (by omega), if_pos rfl]
  · rw [if_neg (show ¬ nI 2 = (0 : Int32) by decide), if_neg (show ¬ nI 2 = (1 : Int32) by decide), if_pos (show nI 2 = (2 : Int32) from rfl), if_neg (by omega), if_neg (by omega), if_pos (by omega)]
  · rw [if_neg (show ¬ nI 3 = (0 : Int32) by decide), if_neg (show ¬ nI 3 = (1 : Int32) by decide), if_neg (show ¬ nI 3 = (2 : Int32) by decide), if_pos (show nI 3 = (3 : Int32) from rfl), if_neg (by omega), if_neg (by omega), if_pos (by omega)]
  · rw [if_neg (show ¬ nI 4 = (0 : Int32) by decide), if_neg (show ¬ nI 4 = (1 : Int32) by decide), if_neg (show ¬ nI 4 = (2 : Int32) by decide), if_neg (show ¬ nI 4 = (3 : Int32) by decide), if_pos (show nI 4 = (4 : Int32) from rfl), e1 (by decide), show nI 4 - (4 : Int32) = nI (4 - 4) by decide, if_neg (by omega), if_neg (by omega), if_neg (by omega), if_neg (by omega)]
  · rw [if_neg (show ¬ nI 5 = (0 : Int32) by decide), if_neg (show ¬ nI 5 = (1 : Int32) by decide), if_neg (show ¬ nI 5 = (2 : Int32) by decide), if_neg (show ¬ nI 5 = (3 : Int32) by decide), if_neg (show ¬ nI 5 = (4 : Int32) by decide), if_pos (show nI 5 = (5 : Int32) from rfl), e1 (by decide), show nI 5 - (4 : Int32) = nI (5 - 4) by decide, if_neg (by omega), if_neg (by omega), if_neg (by omega), if_neg (by omega)]
  · rw [if_neg (show ¬ nI 6 = (0 : Int32) by decide), if_neg (show ¬ nI 6 = (1 : Int32) by decide), if_neg (show ¬ nI 6 = (2 : Int32) by decide), if_neg (show ¬ nI 6 = (3 : Int32) by decide), if_neg (show ¬ nI 6 = (4 : Int32) by decide), if_neg (show ¬ nI 6 = (5 : Int32) by decide), if_pos (show nI 6 = (6 : Int32) from rfl), e1 (by decide), show nI 6 - (4 : Int32) = nI (6 - 4) by decide, if_neg (by omega), if_neg (by omega), if_neg (by omega), if_neg (by omega)]
  · rw [if_neg (show ¬ nI 7 = (0 : Int32) by decide), if_neg (show ¬ nI 7 = (1 : Int32) by decide), if_neg (show ¬ nI 7 = (2 : Int32) by decide), if_neg (show ¬ nI 7 = (3 : Int32) by decide), if_neg (show ¬ nI 7 = (4 : Int32) by decide), if_neg (show ¬ nI 7 = (5 : Int32) by decide), if_neg (show ¬ nI 7 = (6 : Int32) by decide), if_pos (show nI 7 = (7 : Int32) from rfl), e1 (by decide), show nI 7 - (4 : Int32) = nI (7 - 4) by decide, if_neg (by omega), if_neg (by omega), if_neg (by omega), if_neg (by omega)]
  · obtain ⟨g2, g3, g4⟩ := e2 (by decide)
    rw [if_neg (show ¬ nI 8 = (0 : Int32) by decide), if_neg (show ¬ nI 8 = (1 : Int32) by decide), if_neg (show ¬ nI 8 = (2 : Int32) by decide), if_neg (show ¬ nI 8 = (3 : Int32) by decide), if_neg (show ¬ nI 8 = (4 : Int32) by decide), if_neg (show ¬ nI 8 = (5 : Int32) by decide), if_neg (show ¬ nI 8 = (6 : Int32) by decide), if_neg (show ¬ nI 8 = (7 : Int32) by decide), if_pos (show nI 8 = (8 : Int32) from rfl), e1 (by decide), g2, g3, g4, if_neg (by omega), if_neg (by omega), if_neg (by omega), if_pos rfl]
theorem x11_ds (hj : j = 8 ∨ j = 9) (hq : q + 4 < 300) (hk : k ≤ 8) (e0 : M.1 52 5 q = nI k) (e1 : 1 ≤ nst k → M.1 52 5 (q + 1) = p1) (e2 : nst k = 4 → M.1 52 5 (q + 2) = p2 ∧ M.1 52 5 (q + 3) = p3 ∧ M.1 52 5 (q + 4) = p4) : X11_doesStep j (nI q) M = mop j k p1 p2 p3 p4 M := by
  unfold X11_doesStep mop
  rw [show nI q + 1 = nI (q + 1) from nI_add q 1, show nI q + 2 = nI (q + 2) from nI_add q 2, show nI q + 3 = nI (q + 3) from nI_add q 3, show nI q + 4 = nI (q + 4) from nI_add q 4, gLet_e, gl8 hj]
  simp only [gG_t (gin_n (k := q) (n := 300) (by omega) (by decide)), gG_t (gin_n (k := q + 1) (n := 300) (by omega) (by decide)), gG_t (gin_n (k := q + 2) (n := 300) (by omega) (by decide)), gG_t (gin_n (k := q + 3) (n := 300) (by omega) (by decide)), gG_t (gin_n (k := q + 4) (n := 300) (by omega) (by decide)), bind_id, nI_clamp (n := q) (by omega), nI_clamp (n := q + 1) (by omega), nI_clamp (n := q + 2) (by omega), nI_clamp (n := q + 3) (by omega), nI_clamp (n := q + 4) (by omega), e0]
  rcases (show k = 0 ∨ k = 1 ∨ k = 2 ∨ k = 3 ∨ k = 4 ∨ k = 5 ∨ k = 6 ∨ k = 7 ∨ k = 8 by omega) with rfl | rfl | rfl | rfl | rfl | rfl | rfl | rfl | rfl
  · rw [if_pos (show nI 0 = (0 : Int32) from rfl), e1 (by decide), if_pos rfl]
  · rw [if_neg (show ¬ nI 1 = (0 : Int32) by decide), if_pos (show nI 1 = (1 : Int32) from rfl), e1 (by decide), if_neg (by omega), if_pos rfl]
  · rw [if_neg (show ¬ nI 2 = (0 : Int32) by decide), if_neg (show ¬ nI 2 = (1 : Int32) by decide), if_pos (show nI 2 = (2 : Int32) from rfl), if_neg (by omega), if_neg (by omega), if_pos rfl]
  · rw [if_neg (show ¬ nI 3 = (0 : Int32) by decide), if_neg (show ¬ nI 3 = (1 : Int32) by decide), if_neg (show ¬ nI 3 = (2 : Int32) by decide), if_pos (show nI 3 = (3 : Int32) from rfl), if_neg (by omega), if_neg (by omega), if_neg (by omega), if_pos rfl]
  · rw [if_neg (show ¬ nI 4 = (0 : Int32) by decide), if_neg (show ¬ nI 4 = (1 : Int32) by decide), if_neg (show ¬ nI 4 = (2 : Int32) by decide), if_neg (show ¬ nI 4 = (3 : Int32) by decide), if_pos (show nI 4 = (4 : Int32) from rfl), e1 (by decide), show ((1057 : Int32) + nI 4) - 4 = nI (1057 + (4 - 4)) by decide, gG_t (gin_n (k := 1057 + (4 - 4)) (by omega) (by decide)), nI_clamp (n := 1057 + (4 - 4)) (by omega), gLet_e, if_neg (by omega), if_neg (by omega), if_neg (by omega), if_neg (by omega), if_neg (by omega)]
  · rw [if_neg (show ¬ nI 5 = (0 : Int32) by decide), if_neg (show ¬ nI 5 = (1 : Int32) by decide), if_neg (show ¬ nI 5 = (2 : Int32) by decide), if_neg (show ¬ nI 5 = (3 : Int32) by decide), if_neg (show ¬ nI 5 = (4 : Int32) by decide), if_pos (show nI 5 = (5 : Int32) from rfl), e1 (by decide), show ((1057 : Int32) + nI 5) - 4 = nI (1057 + (5 - 4)) by decide, gG_t (gin_n (k := 1057 + (5 - 4)) (by omega) (by decide)), nI_clamp (n := 1057 + (5 - 4)) (by omega), gLet_e, if_neg (by omega), if_neg (by omega), if_neg (by omega), if_neg (by omega), if_neg (by omega)]
  · rw [if_neg (show ¬ nI 6 = (0 : Int32) by decide), if_neg (show ¬ nI 6 = (1 : Int32) by decide), if_neg (show ¬ nI 6 = (2 : Int32) by decide), if_neg (show ¬ nI 6 = (3 : Int32) by decide), if_neg (show ¬ nI 6 = (4 : Int32) by decide), if_neg (show ¬ nI 6 = (5 : Int32) by decide), if_pos (show nI 6 = (6 : Int32) from rfl), e1 (by decide), show ((1057 : Int32) + nI 6) - 4 = nI (1057 + (6 - 4)) by decide, gG_t (gin_n (k := 1057 + (6 - 4)) (by omega) (by decide)), nI_clamp (n := 1057 + (6 - 4)) (by omega), gLet_e, if_neg (by omega), if_neg (by omega), if_neg (by omega), if_neg (by omega), if_neg (by omega)]
  · rw [if_neg (show ¬ nI 7 = (0 : Int32) by decide), if_neg (show ¬ nI 7 = (1 : Int32) by decide), if_neg (show ¬ nI 7 = (2 : Int32) by decide), if_neg (show ¬ nI 7 = (3 : Int32) by decide), if_neg (show ¬ nI 7 = (4 : Int32) by decide), if_neg (show ¬ nI 7 = (5 : Int32) by decide), if_neg (show ¬ nI 7 = (6 : Int32) by decide), if_pos (show nI 7 = (7 : Int32) from rfl), e1 (by decide), show ((1057 : Int32) + nI 7) - 4 = nI (1057 + (7 - 4)) by decide, gG_t (gin_n (k := 1057 + (7 - 4)) (by omega) (by decide)), nI_clamp (n := 1057 + (7 - 4)) (by omega), gLet_e, if_neg (by omega), if_neg (by omega), if_neg (by omega), if_neg (by omega), if_neg (by omega)]
  · obtain ⟨g2, g3, g4⟩ := e2 (by decide)
    rw [if_neg (show ¬ nI 8 = (0 : Int32) by decide), if_neg (show ¬ nI 8 = (1 : Int32) by decide), if_neg (show ¬ nI 8 = (2 : Int32) by decide), if_neg (show ¬ nI 8 = (3 : Int32) by decide), if_neg (show ¬ nI 8 = (4 : Int32) by decide), if_neg (show ¬ nI 8 = (5 : Int32) by decide), if_neg (show ¬ nI 8 = (6 : Int32) by decide), if_neg (show ¬ nI 8 = (7 : Int32) by decide), if_pos (show nI 8 = (8 : Int32) from rfl), e1 (by decide), g2, g3, g4, if_neg (by omega), if_neg (by omega), if_neg (by omega), if_neg (by omega), if_pos rfl]
/-- the state of a script that is performed -/
def PR (m nf n W H T K : Nat) (Mx Mm : gM) (k : Nat) (x : Nat × gM) (y : gM) : Prop := nf ≤ x.1 ∧ x.1 ≤ 40 ∧ SN (m + k) x.1 n W H T K x.2 y ∧ ST x.2 y ∧ CX Mx x.2 ∧ CM Mm y
theorem CM.s5 (h : CM Mm Mm') (c : Nat) : Mm'.1 52 5 c = Mm.1 52 5 c := h.1 52 5 c (by unfold acM; omega)
theorem j_pf (hm : m + 1 < 100000) (hnf : nf ≤ 40) (h : SN m nf n W H T K Mx Mm) (hs : ST Mx Mm) (hl : l < L) (hL : L ≤ 12) (hS : s < 5) (eL : Mx.1 46 s 1 = nI L) (eM : Mm.1 52 6 s = nI L) (sr : SR1 (fun c => Mx.1 47 s (5 * l + c)) (fun c => Mm.1 52 5 (5 * (12 * s + l) + c))) :
    (∃ nf' Mx' Mm', X10_perform_L26 s (nI l) nf Mx = some (.inl (nI (l + 1), nf', Mx')) ∧ X11_perform_L32 (nI s) (nI l) Mm = some (.inl (nI (l + 1), Mm')) ∧ nf ≤ nf' ∧ nf' ≤ 40 ∧ SN (m + 1) nf' n W H T K Mx' Mm' ∧ ST Mx' Mm' ∧ CX Mx Mx' ∧ CM Mm Mm') ∨
    (∃ Mm', X10_perform_L26 s (nI l) nf Mx = some (.inr (.inl (nI l, nf, Mx))) ∧ X11_perform_L32 (nI s) (nI l) Mm = some (.inr (nI l, Mm')) ∧ SN (m + 1) nf n W H T K Mx Mm' ∧ ST Mx Mm' ∧ CM Mm Mm') := by
  obtain ⟨k, hk, z1, z2, z3⟩ := sr
  have z1 : Mx.1 47 s (5 * l) = nI k := z1
  have z2 : Mm.1 52 5 (5 * (12 * s + l)) = nI k := z2
  have eq5 : (5 : Int32) * ((12 * nI s) + nI l) = nI (5 * (12 * s + l)) := by rw [nlit 12, nI_mul, nI_add, nlit 5, nI_mul]
  have hq : 5 * (12 * s + l) + 4 < 300 := by omega
  have a1 : 1 ≤ nst k → Mm.1 52 5 (5 * (12 * s + l) + 1) = Mx.1 47 s (5 * l + 1) := fun g => (z3 1 (by omega) (by omega)).1 g
  have a2 : nst k = 4 → Mm.1 52 5 (5 * (12 * s + l) + 2) = Mx.1 47 s (5 * l + 2) ∧ Mm.1 52 5 (5 * (12 * s + l) + 3) = Mx.1 47 s (5 * l + 3) ∧ Mm.1 52 5 (5 * (12 * s + l) + 4) = Mx.1 47 s (5 * l + 4) := fun g => ⟨(z3 2 (by omega) (by omega)).1 (by omega), (z3 3 (by omega) (by omega)).1 (by omega), (z3 4 (by omega) (by omega)).1 (by omega)⟩
  have n1 : X5_number s (nI l) 1 Mx = some (Mx.1 47 s (5 * l + 1)) := x5_num (c := 1) hl hL (by omega) eL
  have n2 : X5_number s (nI l) 2 Mx = some (Mx.1 47 s (5 * l + 2)) := x5_num (c := 2) hl hL (by omega) eL
  have n3 : X5_number s (nI l) 3 Mx = some (Mx.1 47 s (5 * l + 3)) := x5_num (c := 3) hl hL (by omega) eL
  have n4 : X5_number s (nI l) 4 Mx = some (Mx.1 47 s (5 * l + 4)) := x5_num (c := 4) hl hL (by omega) eL
  have hss := x11_ss (j := 8) hq hk z2 a1 a2
  have cls : ∀ o, X9_refusal 0 (nI k) (Mx.1 47 s (5 * l + 1)) (Mx.1 47 s (5 * l + 2)) (Mx.1 47 s (5 * l + 3)) (Mx.1 47 s (5 * l + 4)) Mx = some o → X10_perform_L26 s (nI l) nf Mx = (if o = (-1) then (X10_act nf (nI k) (Mx.1 47 s (5 * l + 1)) (Mx.1 47 s (5 * l + 2)) (Mx.1 47 s (5 * l + 3)) (Mx.1 47 s (5 * l + 4)) (-1) Mx).bind (gU2 (fun r_23 => gU2 (fun nf M_24 => gLet (nI l + 1) (fun x3_25 => some (.inl (x3_25, nf, M_24)))))) else some (.inr (.inl (nI l, nf, Mx)))) := fun o ho => by
    unfold X10_perform_L26
    rw [eL, if_neg (nI_ge hl (by omega)), x5_kind hl hL eL, bind_e, n1, bind_e, n2, bind_e, n3, bind_e, n4, bind_e, z1, ho, bind_e]
  rcases j_kc (p1 := Mx.1 47 s (5 * l + 1)) (p2 := Mx.1 47 s (5 * l + 2)) (p3 := Mx.1 47 s (5 * l + 3)) (p4 := Mx.1 47 s (5 * l + 4)) hm hnf h hs hk (-1) with ⟨o, Y1, ho, e1, e2, s1⟩ | ⟨e1, Y0, e2, s0, r, nf', X', Y1, Y2, Y3, g1, g2, g3, g4, g5, g6, g7, g8, g9, g10, g11, g12⟩
  · refine Or.inr ⟨Y1, ?_, ?_, (h.ask s1).mono (by omega), hs.ask s1, CM.ask s1⟩
    · rw [cls _ e1, if_neg (nI_m1 (by omega))]
    · unfold X11_perform_L32
      rw [gG_t (gin_n (k := s) (by omega) (by decide)), nI_clamp (by omega), eM, if_neg (nI_ge hl (by omega)), eq5, hss, e2, bind_e, gU2_e, if_neg (nI_m1 (by omega))]
  · refine Or.inl ⟨nf', X', Y3, ?_, ?_, g5, g6, g7, g8, g9.c, g10⟩
    · rw [cls _ e1, if_pos rfl, g1, bind_e, gU2_e, gU2_e, gLet_e, nI_1]
    · have y0 : ∀ c, Y0.1 52 5 c = Mm.1 52 5 c := fun c => s0.2 52 5 c (by omega)
      have hds := x11_ds (M := Y1) (j := 8) (p1 := Mx.1 47 s (5 * l + 1)) (p2 := Mx.1 47 s (5 * l + 2)) (p3 := Mx.1 47 s (5 * l + 3)) (p4 := Mx.1 47 s (5 * l + 4)) (Or.inl rfl) hq hk (by rw [(g12 _).1]; exact z2) (fun g => by rw [(g12 _).1]; exact a1 g) (fun g => by rw [(g12 _).1, (g12 _).1, (g12 _).1]; exact a2 g)
      unfold X11_perform_L32
      rw [gG_t (gin_n (k := s) (by omega) (by decide)), nI_clamp (by omega), eM, if_neg (nI_ge hl (by omega)), eq5, hss, e2, bind_e, gU2_e, if_pos rfl, gLet_e, gG_t (gin_n (k := 5 * (12 * s + l)) (by omega) (by decide)), nI_clamp (n := 5 * (12 * s + l)) (by omega), y0, z2, gLet_e, g2, bind_e, hds, g3, bind_e, nI_1]
      unfold X11_perform_J138
      rw [nI_1, gG_t (gin_n (k := 5 * (12 * s + l) + 1) (by omega) (by decide)), nI_clamp (n := 5 * (12 * s + l) + 1) (by omega), (g12 _).2]
      rcases (show k = 0 ∨ k = 1 ∨ k = 2 ∨ k = 3 ∨ k = 4 ∨ k = 5 ∨ k = 6 ∨ k = 7 ∨ k = 8 by omega) with rfl | rfl | rfl | rfl | rfl | rfl | rfl | rfl | rfl
      · rw [a1 (by decide)]
        have g4 : X11_tells (nI 0) (Mx.1 47 s (5 * l + 1)) Y2 = some Y3 := g4
        rw [if_neg (by decide), if_neg (by decide), g4, bind_e, gLet_e, gG_t (gin_n (k := 5 * (12 * s + l) + 1) (by omega) (by decide))]
      · rw [a1 (by decide)]
        have g4 : X11_tells (nI 1) (Mx.1 47 s (5 * l + 1)) Y2 = some Y3 := g4
        rw [if_neg (by decide), if_neg (by decide), g4, bind_e, gLet_e, gG_t (gin_n (k := 5 * (12 * s + l) + 1) (by omega) (by decide))]
      · have g4 : X11_tells (nI 2) 0 Y2 = some Y3 := g4
        rw [if_neg (by decide), if_pos (by decide), g4, bind_e, gLet_e]
      · have g4 : X11_tells (nI 3) 0 Y2 = some Y3 := g4
        rw [if_neg (by decide), if_pos (by decide), g4, bind_e, gLet_e]
      · have g4 : X11_tells 4 (nI 4 - 4) Y2 = some Y3 := g4
        rw [if_pos (by decide), if_neg (by decide), if_neg (by decide), g4, bind_e, gLet_e, nI_1]
      · have g4 : X11_tells 4 (nI 5 - 4) Y2 = some Y3 := g4
        rw [if_pos (by decide), if_neg (by decide), if_neg (by decide), g4, bind_e, gLet_e, nI_1]
      · have g4 : X11_tells 4 (nI 6 - 4) Y2 = some Y3 := g4
        rw [if_pos (by decide), if_neg (by decide), if_neg (by decide), g4, bind_e, gLet_e, nI_1]
      · have g4 : X11_tells 4 (nI 7 - 4) Y2 = some Y3 := g4
        rw [if_pos (by decide), if_neg (by decide), if_neg (by decide), g4, bind_e, gLet_e, nI_1]
      · rw [a1 (by decide)]
        have g4 : X11_tells 5 (Mx.1 47 s (5 * l + 1)) Y2 = some Y3 := g4
        rw [if_pos (by decide), if_pos (by decide), if_pos (by decide), g4, bind_e, gLet_e, nI_1]
end PF
