/-! a triangle is taken -/
section DT
variable {n j w t k : Nat} {X Y X' Y' : gM} {v pat : Int32}
theorem x4_tri (hn : n < 10) (e5 : X.1 5 0 5 = nI n) : ∃ X', X4_takeTriangle 0 pat X = some X' ∧ X'.1 5 0 5 = nI (n + 1) ∧ (∀ c, c < 3 → X'.1 11 0 (6 * n + 2 * c) = X.1 4 0 (3 * c) ∧ X'.1 11 0 (6 * n + 2 * c + 1) = X.1 4 0 (3 * c + 1) ∧ X'.1 10 0 (3 * n + c) = X.1 4 0 (3 * c + 2)) ∧ X'.1 7 0 n = pat ∧ X'.1 8 0 n = X.1 4 0 9 ∧ X'.1 9 0 n = X.1 4 0 10 ∧ X'.2 = X.2 ∧ ∀ a b c, ¬ ((a = 5 ∧ b = 0 ∧ c = 5) ∨ (a = 11 ∧ b = 0 ∧ 6 * n ≤ c ∧ c < 6 * n + 6) ∨ (a = 10 ∧ b = 0 ∧ 3 * n ≤ c ∧ c < 3 * n + 3) ∨ (7 ≤ a ∧ a ≤ 9 ∧ b = 0 ∧ c = n)) → X'.1 a b c = X.1 a b c := by
  obtain ⟨X1, f1, f2, f3, f4⟩ := gI1_FU (step := fun z : Int32 × gM => X4_takeTriangle_L12 0 pat z.1 z.2) (fun l (u : gM) => (nI l, u)) (fun l u => (∀ c, c < l → u.1 11 0 (6 * n + 2 * c) = X.1 4 0 (3 * c) ∧ u.1 11 0 (6 * n + 2 * c + 1) = X.1 4 0 (3 * c + 1) ∧ u.1 10 0 (3 * n + c) = X.1 4 0 (3 * c + 2)) ∧ u.2 = X.2 ∧ ∀ a b c, ¬ ((a = 11 ∧ b = 0 ∧ 6 * n ≤ c ∧ c < 6 * n + 6) ∨ (a = 10 ∧ b = 0 ∧ 3 * n ≤ c ∧ c < 3 * n + 3)) → u.1 a b c = X.1 a b c) (fun u => (∀ c, c < 3 → u.1 11 0 (6 * n + 2 * c) = X.1 4 0 (3 * c) ∧ u.1 11 0 (6 * n + 2 * c + 1) = X.1 4 0 (3 * c + 1) ∧ u.1 10 0 (3 * n + c) = X.1 4 0 (3 * c + 2)) ∧ u.2 = X.2 ∧ ∀ a b c, ¬ ((a = 11 ∧ b = 0 ∧ 6 * n ≤ c ∧ c < 6 * n + 6) ∨ (a = 10 ∧ b = 0 ∧ 3 * n ≤ c ∧ c < 3 * n + 3)) → u.1 a b c = X.1 a b c) 0 3 (by omega) (by omega)
    (fun l u hl hu => by
      obtain ⟨u1, u2, u3⟩ := hu
      have e : u.1 5 0 5 = nI n := by rw [u3 5 0 5 (by omega)]; exact e5
      have i1 : nI n * 6 + nI l * 2 = nI (6 * n + 2 * l) := by rw [nlit 6, nI_mul, nlit 2, nI_mul, nI_add, Nat.mul_comm n 6, Nat.mul_comm l 2]
      have i2 : nI l * 3 = nI (3 * l) := by rw [nlit 3, nI_mul, Nat.mul_comm]
      have i3 : nI n * 3 + nI l = nI (3 * n + l) := by rw [nlit 3, nI_mul, nI_add, Nat.mul_comm]
      have i4 : nI (3 * l) + 2 = nI (3 * l + 2) := nI_add (3 * l) 2
      refine ⟨wI (wI (wI u 11 0 (6 * n + 2 * l) (X.1 4 0 (3 * l))) 11 0 (6 * n + 2 * l + 1) (X.1 4 0 (3 * l + 1))) 10 0 (3 * n + l) (X.1 4 0 (3 * l + 2)), ?_, fun c hc => ?_, u2, fun a b c hq => by rw [w_n (by omega), w_n (by omega), w_n (by omega)]; exact u3 a b c hq⟩
      · show X4_takeTriangle_L12 0 pat (nI l) u = _
        unfold X4_takeTriangle_L12
        rw [if_neg (show ¬ (3 : Int32) ≤ nI l from nI_ge (a := l) (b := 3) hl (by decide)), i2, e, i1, gG_t (gin_n (k := 3 * l) (by omega) (by decide)), gG_t (gin_n (k := 6 * n + 2 * l) (by omega) (by decide)), nI_clamp (n := 6 * n + 2 * l) (by omega), nI_clamp (n := 3 * l) (by omega), gLet_e, nI_1, gG_t (gin_n (k := 3 * l + 1) (by omega) (by decide)), w_n (by omega), e, i1, nI_1, gG_t (gin_n (k := 6 * n + 2 * l + 1) (by omega) (by decide)), nI_clamp (n := 6 * n + 2 * l + 1) (by omega), nI_clamp (n := 3 * l + 1) (by omega), gLet_e, i4, gG_t (gin_n (k := 3 * l + 2) (by omega) (by decide)), w_n (by omega), w_n (by omega), w_n (by omega), e, i3, gG_t (gin_n (k := 3 * n + l) (by omega) (by decide)), nI_clamp (n := 3 * n + l) (by omega), nI_clamp (n := 3 * l + 2) (by omega), w_n (by omega), w_n (by omega), gLet_e, gLet_e, nI_1, u3 4 0 (3 * l) (by omega), u3 4 0 (3 * l + 1) (by omega), u3 4 0 (3 * l + 2) (by omega)]
      · by_cases ec : c = l
        · subst ec
          refine ⟨?_, ?_, w_e⟩
          · rw [w_n (by omega), w_n (by omega), w_e]
          · rw [w_n (by omega), w_e]
        · rw [w_n (by omega), w_n (by omega), w_n (by omega), w_n (by omega), w_n (by omega), w_n (by omega), w_n (by omega), w_n (by omega), w_n (by omega)]
          exact u1 c (by omega))
    (fun u hu => ⟨u, by
      show X4_takeTriangle_L12 0 pat (nI 3) u = _
      unfold X4_takeTriangle_L12
      rw [if_pos (by decide)], hu⟩) X ⟨fun c hc => absurd hc (by omega), rfl, fun _ _ _ _ => rfl⟩
  have f1' : gIter (fun z : Int32 × gM => X4_takeTriangle_L12 0 pat z.1 z.2) FU (0, X) = some X1 := f1
  have e1 : X1.1 5 0 5 = nI n := by rw [f4 5 0 5 (by omega)]; exact e5
  refine ⟨wI (wI (wI (wI X1 7 0 n pat) 8 0 n (X.1 4 0 9)) 9 0 n (X.1 4 0 10)) 5 0 5 (nI (n + 1)), ?_, w_e, fun c hc => ?_, ?_, ?_, ?_, f3, fun a b c hq => by rw [w_n (by omega), w_n (by omega), w_n (by omega), w_n (by omega)]; exact f4 a b c (by omega)⟩
  · unfold X4_takeTriangle
    rw [e5, if_pos (show nI n < (10 : Int32) from (nI_ltI (a := n) (b := 10) (by omega) (by decide)).mpr hn), f1', bind_e, e1, gG_t (gin_n (k := n) hn (by decide)), nI_clamp (by omega), gLet_e, w_n (by omega), e1, gG_t (gin_n (k := n) hn (by decide)), nI_clamp (by omega), w_n (by omega), f4 4 0 9 (by omega), gLet_e, w_n (by omega), w_n (by omega), e1, gG_t (gin_n (k := n) hn (by decide)), nI_clamp (by omega), w_n (by omega), w_n (by omega), f4 4 0 10 (by omega), gLet_e, w_n (by omega), w_n (by omega), w_n (by omega), e1, nI_1, gLet_e]
  · have := f2 c hc
    rw [w_n (by omega), w_n (by omega), w_n (by omega), w_n (by omega), w_n (by omega), w_n (by omega), w_n (by omega), w_n (by omega), w_n (by omega), w_n (by omega), w_n (by omega), w_n (by omega)]
    exact this
  · rw [w_n (by omega), w_n (by omega), w_n (by omega), w_e]
  · rw [w_n (by omega), w_n (by omega), w_e]
  · rw [w_n (by omega), w_e]
theorem x11_95 (hn : n < 10) (e5 : Y.1 50 0 15 = nI n) (x1 x2 : Int32) : ∃ Y', gIter (fun z : Int32 × gM => X11_readClause_L95 x1 x2 z.1 z.2) FU (0, Y) = some Y' ∧ (∀ c, c < 11 → Y'.1 52 3 (12 * n + c) = Y.1 52 0 c) ∧ Y'.2 = Y.2 ∧ ∀ a b c, ¬ (a = 52 ∧ b = 3 ∧ 12 * n ≤ c ∧ c < 12 * n + 11) → Y'.1 a b c = Y.1 a b c := by
  obtain ⟨Y1, f1, f2, f3, f4⟩ := gI1_FU (step := fun z : Int32 × gM => X11_readClause_L95 x1 x2 z.1 z.2) (fun l (u : gM) => (nI l, u)) (fun l u => (∀ c, c < l → u.1 52 3 (12 * n + c) = Y.1 52 0 c) ∧ u.2 = Y.2 ∧ ∀ a b c, ¬ (a = 52 ∧ b = 3 ∧ 12 * n ≤ c ∧ c < 12 * n + 11) → u.1 a b c = Y.1 a b c) (fun u => (∀ c, c < 11 → u.1 52 3 (12 * n + c) = Y.1 52 0 c) ∧ u.2 = Y.2 ∧ ∀ a b c, ¬ (a = 52 ∧ b = 3 ∧ 12 * n ≤ c ∧ c < 12 * n + 11) → u.1 a b c = Y.1 a b c) 0 11 (by omega) (by omega)
    (fun l u hl hu => by
      obtain ⟨u1, u2, u3⟩ := hu
      have e : u.1 50 0 15 = nI n := by rw [u3 50 0 15 (by omega)]; exact e5
      have i1 : 12 * nI n + nI l = nI (12 * n + l) := by rw [nlit 12, nI_mul, nI_add]
      refine ⟨wI u 52 3 (12 * n + l) (Y.1 52 0 l), ?_, fun c hc => ?_, u2, fun a b c hq => by rw [w_n (by omega)]; exact u3 a b c hq⟩
      · show X11_readClause_L95 x1 x2 (nI l) u = _
        unfold X11_readClause_L95
        rw [if_neg (show ¬ (11 : Int32) ≤ nI l from nI_ge (a := l) (b := 11) hl (by decide)), gG_t (gin_n (k := l) hl (by decide)), e, i1, gG_t (gin_n (k := 12 * n + l) (by omega) (by decide)), nI_clamp (n := 12 * n + l) (by omega), nI_clamp (n := l) (by omega), gLet_e, gLet_e, nI_1, u3 52 0 l (by omega)]
      · by_cases ec : c = l
        · rw [ec, w_e]
        · rw [w_n (by omega)]
          exact u1 c (by omega))
    (fun u hu => ⟨u, by
      show X11_readClause_L95 x1 x2 (nI 11) u = _
      unfold X11_readClause_L95
      rw [if_pos (by decide)], hu⟩) Y ⟨fun c hc => absurd hc (by omega), rfl, fun _ _ _ _ => rfl⟩
  exact ⟨Y1, f1, f2, f3, f4⟩
/-- the triangle is the same on both sides -/
theorem d_tri {pt : Nat} (hn : n < 10) (hp : pt ≤ 3) (ht : DRt n X Y) (hq : ∀ j, j < 11 → X.1 4 0 j = Y.1 52 0 j ∧ rlo2 2 9 j ≤ X.1 4 0 j ∧ X.1 4 0 j ≤ rhi2 2 9 j) (x1 x2 : Int32) : ∃ X' Y1, X4_takeTriangle 0 (nI pt) X = some X' ∧ gIter (fun z : Int32 × gM => X11_readClause_L95 x1 x2 z.1 z.2) FU (0, Y) = some Y1 ∧ Y1.1 50 0 15 = nI n ∧ DRt (n + 1) X' (wI (wI Y1 52 3 (12 * n + 11) (nI pt)) 50 0 15 (nI (n + 1))) ∧ X'.2 = X.2 ∧ (∀ a b c, ¬ ((a = 5 ∧ b = 0 ∧ c = 5) ∨ (7 ≤ a ∧ a ≤ 11 ∧ b = 0)) → X'.1 a b c = X.1 a b c) ∧ Y1.2 = Y.2 ∧ ∀ a b c, ¬ (a = 52 ∧ b = 3) → Y1.1 a b c = Y.1 a b c := by
  obtain ⟨X', a1, a2, a3, a4, a5, a6, a7, a8⟩ := x4_tri (X := X) (pat := nI pt) hn ht.2.1
  obtain ⟨Y1, b1, b2, b3, b4⟩ := x11_95 (Y := Y) hn ht.2.2.1 x1 x2
  have y15 : Y1.1 50 0 15 = nI n := by rw [b4 50 0 15 (by omega)]; exact ht.2.2.1
  have rg : ∀ j, j < 11 → (rlo2 2 9 j).toInt ≤ (X.1 4 0 j).toInt ∧ (X.1 4 0 j).toInt ≤ (rhi2 2 9 j).toInt := fun j hj => ⟨Int32.le_iff_toInt_le.mp (hq j hj).2.1, Int32.le_iff_toInt_le.mp (hq j hj).2.2⟩
  have yw : ∀ c, c < 11 → (wI (wI Y1 52 3 (12 * n + 11) (nI pt)) 50 0 15 (nI (n + 1))).1 52 3 (12 * n + c) = Y.1 52 0 c := fun c hc => by rw [w_n (by omega), w_n (by omega)]; exact b2 c hc
  refine ⟨X', Y1, a1, b1, y15, ⟨by omega, a2, w_e, fun t ht' => ?_⟩, a7, fun a b c hq => a8 a b c (by omega), b3, fun a b c hq => b4 a b c (by omega)⟩
  by_cases e : t = n
  · subst e
    refine ⟨fun c hc => ?_, ?_, ⟨?_, ?_⟩, ⟨?_, ?_⟩⟩
    · obtain ⟨g1, g2, g3⟩ := a3 c hc
      have r0 := rg (3 * c) (by omega)
      have r1 := rg (3 * c + 1) (by omega)
      have r2 := rg (3 * c + 2) (by omega)
      rw [g1, g2, g3, yw (3 * c) (by omega), show 12 * t + 3 * c + 1 = 12 * t + (3 * c + 1) by omega, yw (3 * c + 1) (by omega), show 12 * t + 3 * c + 2 = 12 * t + (3 * c + 2) by omega, yw (3 * c + 2) (by omega), (hq (3 * c) (by omega)).1, (hq (3 * c + 1) (by omega)).1, (hq (3 * c + 2) (by omega)).1]
      rw [(hq (3 * c) (by omega)).1] at r0
      rw [(hq (3 * c + 1) (by omega)).1] at r1
      rw [(hq (3 * c + 2) (by omega)).1] at r2
      rcases (show c = 0 ∨ c = 1 ∨ c = 2 by omega) with rfl | rfl | rfl <;> exact ⟨⟨rfl, r0⟩, ⟨rfl, r1⟩, ⟨rfl, r2⟩⟩
    · rw [a5, yw 9 (by omega), (hq 9 (by omega)).1]
    · rw [a6, yw 10 (by omega), (hq 10 (by omega)).1]
    · rw [a6]
      exact RG.of (by omega) (rg 10 (by omega)).1 (rg 10 (by omega)).2
    · rw [a4, w_n (by omega), w_e]
    · rw [a4]
      exact ⟨pt, by omega, hp, rfl⟩
  · have h := ht.2.2.2 t (by omega)
    unfold TRd at h ⊢
    refine ⟨fun c hc => ?_, ?_, ?_, ?_⟩
    · have h := h.1 c hc
      rw [a8 11 0 _ (by omega), a8 11 0 _ (by omega), a8 10 0 _ (by omega), w_n (by omega), w_n (by omega), b4 52 3 _ (by omega), w_n (by omega), w_n (by omega), b4 52 3 _ (by omega), w_n (by omega), w_n (by omega), b4 52 3 _ (by omega)]
      exact h
    · rw [a8 8 0 _ (by omega), w_n (by omega), w_n (by omega), b4 52 3 _ (by omega)]
      exact h.2.1
    · rw [a8 9 0 _ (by omega), w_n (by omega), w_n (by omega), b4 52 3 _ (by omega)]
      exact h.2.2.1
    · rw [a8 7 0 _ (by omega), w_n (by omega), w_n (by omega), b4 52 3 _ (by omega)]
      exact h.2.2.2
end DT
