/-! the third word; words again; behind a fault -/
section MN
variable {L p q k i w st s n : Nat} {X Y X' Y' X'' Y'' M : gM} {mc mm : Int32}
theorem bit_bi (x : Int32) {k : Nat} (hk : k < 32) : ((x >>> (nI k &&& 31)) &&& 1) = 0 ↔ bi x k = false := by
  have h1 := x11_hasb x k M00
  have h2 := x11_hasB x hk M00
  rw [h1] at h2
  have h3 := Option.some.inj h2
  constructor
  · intro e
    rw [if_pos e] at h3
    cases hb : bi x k with
    | false => rfl
    | true =>
      rw [hb] at h3
      exact absurd h3 (by decide)
  · intro e
    rw [e] at h3
    by_cases c : ((x >>> (nI k &&& 31)) &&& 1) = 0
    · exact c
    · rw [if_neg c] at h3
      exact absurd h3 (by decide)
/-- may the word stand again -/
theorem x3_again (hw : w < 12) (e5 : X.1 5 0 5 = nI n) (hn : n ≤ 10) : X3_mayNotBeAgain 0 (nI w) mc X = some (if (w < 8 ∧ bi mc w = true) ∨ (8 ≤ w ∧ n = 10) then 1 else 0) := by
  unfold X3_mayNotBeAgain
  by_cases h8 : w < 8
  · rw [if_pos (show nI w < (8 : Int32) from (nI_ltI (a := w) (b := 8) (by omega) (by decide)).mpr h8)]
    cases hb : bi mc w with
    | false => rw [if_pos ((bit_bi mc (by omega)).mpr hb), if_neg (fun z => z.elim (fun z => absurd z.2 (by decide)) (fun z => by omega))]
    | true => rw [if_neg (fun z => by rw [(bit_bi mc (by omega)).mp z] at hb; exact absurd hb (by decide)), if_pos (Or.inl ⟨h8, rfl⟩)]
  · rw [if_neg (show ¬ nI w < (8 : Int32) from fun z => h8 ((nI_ltI (a := w) (b := 8) (by omega) (by decide)).mp z)), e5]
    by_cases h10 : n = 10
    · rw [h10, if_neg (by decide), if_pos (Or.inr ⟨by omega, rfl⟩)]
    · rw [if_pos (show nI n < (10 : Int32) from (nI_ltI (a := n) (b := 10) (by omega) (by decide)).mpr (by omega)), if_neg (by rintro (z | z) <;> omega)]
/-- behind a fault the reference ends -/
theorem m_fail (h : RP L p X Y) (y4 : Y.1 50 0 4 = nI s) (hs : s ≤ 480) : ∃ Y', X11_goesOn Y = some (0, Y') ∧ Y'.1 50 0 4 = nI s ∧ YO (fun c => c = 3) Y Y' := by
  obtain ⟨s3, X4, Y4, b1, b2, b3, b4, b5, b6, b7, b8, b9⟩ := j_skip h
  have y44 : Y4.1 50 0 4 = nI s := by rw [b8.2 50 0 4 (by omega)]; exact y4
  refine ⟨Y4, ?_, y44, b8⟩
  unfold X11_goesOn
  rw [b3, bind_e, gU2_e, y44, if_neg (nI_m1 (by omega)), if_neg (nI_m1 (by omega))]
/-- how many samples: one, two or four -/
theorem j_many (h : RP L p X Y) (y4 : Y.1 50 0 4 = -1) : ∃ X' Y', X11_readNumbers (nI 1) 1 (nI 2) Y = some Y' ∧
    ((X3_readNumbers 2 (nI 3) (nI 1) X = some (1, X') ∧ (X'.1 4 0 0 = 1 ∨ X'.1 4 0 0 = 2 ∨ X'.1 4 0 0 = 4) ∧ X'.1 4 0 0 = Y'.1 52 0 0 ∧ (∃ q, p ≤ q ∧ RP L q X' Y') ∧ Y'.1 50 0 4 = -1 ∧ (∀ c, by8 X' c = by8 X c) ∧ XC X X' ∧ YD0 Y Y') ∨
    (X3_readNumbers 2 (nI 3) (nI 1) X = some (0, X') ∧ NF L X Y X' Y') ∨ (X3_readNumbers 2 (nI 3) (nI 1) X = some (1, X') ∧ X'.1 4 0 0 = 3 ∧ NF L X Y X' Y')) := by
  have hL := h.1.1
  obtain ⟨s, ok, v, q, X2, Y2, n1, n2, n3, n4, m1, m2, m3, m4, m5, m6, m7, m8⟩ := j_num (k := 0) (lo := 1) (hi := 4) (by omega) h y4
  have hsq : s ≤ 480 := by have := m1.2.2.2; omega
  have cls : ∀ z, ok = z → X3_readNumbers 2 (nI 3) (nI 1) X = (if z = 0 then some (0, X2) else some (1, X2)) := fun z hz => by
    have j32 : X3_readNumbers_L3 2 (nI 3) (nI 1) (nI 0) X = if z = 0 then some (.inr (.inr (.inl X2))) else some (.inl (nI 1, X2)) := by
      unfold X3_readNumbers_L3
      rw [if_neg (by decide), if_neg (by decide), if_pos (by decide), x3_j32 (off := 3) (cnt := 1) (i := 2) (by decide) (by decide) (by omega)]
      have n1 : X3_readNumber (nI 0) (rlo2 2 3 0) (rhi2 2 3 0) X = some (ok, X2) := n1
      rw [n1, bind_e, gU2_e, hz]
    have fin : X3_readNumbers_L3 2 (nI 3) (nI 1) (nI 1) X2 = some (.inr (.inr (.inr X2))) := by
      unfold X3_readNumbers_L3
      rw [if_pos (by decide)]
    unfold X3_readNumbers
    by_cases hz0 : z = 0
    · rw [if_pos hz0] at j32 ⊢
      have g : gIter (fun s : Int32 × gM => X3_readNumbers_L3 2 (nI 3) (nI 1) s.1 s.2) FU (0, X) = some (.inr (.inl X2)) := FU5 (gIt_x j32)
      rw [g]
      rfl
    · rw [if_neg hz0] at j32 ⊢
      have g : gIter (fun s : Int32 × gM => X3_readNumbers_L3 2 (nI 3) (nI 1) s.1 s.2) FU (0, X) = some (.inr (.inr X2)) := FU5 (gIt_s (s' := (nI 1, X2)) j32 (gIt_x fin))
      rw [g]
      rfl
  have rw2 : RP L q X2 (wI Y2 52 0 0 v) := ⟨m1.1.of (fun _ _ _ _ => rfl) (fun a b c hc => w_n (by omega)), m1.2.1, by rw [w_n (by omega)]; exact m1.2.2.1, m1.2.2.2⟩
  have yw : YD0 Y (wI Y2 52 0 0 v) := m7.d.tr ⟨rfl, fun a b c hq => w_n (by omega)⟩
  have well : ∀ M, X11_isWell 1 (nI 2) (nI 0) v M = some (if v = 1 ∨ v = 2 ∨ v = 4 then 1 else 0) := fun M => by
    unfold X11_isWell X11_isWellOfScene
    rw [if_neg (show ¬ (1 : Int32) = 0 by decide), if_pos (show nI 2 < (8 : Int32) by decide), if_neg (show ¬ nI 2 = (0 : Int32) by decide), if_neg (show ¬ nI 2 = (1 : Int32) by decide), if_pos (show nI 2 = (2 : Int32) from rfl)]
    by_cases c1 : v = 1
    · rw [if_pos c1, if_pos (Or.inl c1)]; rfl
    · rw [if_neg c1]
      by_cases c2 : v = 2
      · rw [if_pos c2, if_pos (Or.inr (Or.inl c2))]; rfl
      · rw [if_neg c2]
        by_cases c4 : v = 4
        · rw [if_pos c4, if_pos (Or.inr (Or.inr c4))]; rfl
        · rw [if_neg c4, if_neg (fun z => z.elim c1 (fun z => z.elim c2 c4))]; rfl
  have mod : ∀ {Yz}, X11_readNumbers_J50 (nI 1) 1 (nI 2) (nI 0) Y = some (.inl (nI 1, Yz)) → X11_readNumbers (nI 1) 1 (nI 2) Y = some Yz := fun {Yz} hj => by
    have g : gIter (fun s : Int32 × gM => X11_readNumbers_L3 (nI 1) 1 (nI 2) s.1 s.2) FU (0, Y) = some (.inr Yz) := by
      refine FU5 (gIt_s (s' := (nI 1, Yz)) ?_ (gIt_x ?_))
      · show X11_readNumbers_L3 (nI 1) 1 (nI 2) (nI 0) Y = _
        unfold X11_readNumbers_L3
        rw [if_neg (by decide), if_pos y4, if_pos (by decide)]
        exact hj
      · show X11_readNumbers_L3 (nI 1) 1 (nI 2) (nI 1) Yz = _
        unfold X11_readNumbers_L3
        rw [if_pos (by decide)]
    unfold X11_readNumbers
    rw [g]
    rfl
  have head : X11_readNumbers_J50 (nI 1) 1 (nI 2) (nI 0) Y = (if (wI Y2 52 0 0 v).1 50 0 4 = (-1) then (if v = 1 ∨ v = 2 ∨ v = 4 then some (.inl (nI 1, wI Y2 52 0 0 v)) else (X11_fails ((wI Y2 52 0 0 v).1 50 0 7) (wI Y2 52 0 0 v)).bind (fun M_17 => some (.inl (nI 1, M_17)))) else some (.inl (nI 1, wI Y2 52 0 0 v))) := by
    unfold X11_readNumbers_J50
    rw [n2, bind_e, gU2_e, gG_t (gin_n (k := 0) (by omega) (by decide)), nI_clamp (n := 0) (by omega), gLet_e, w_e, gG_t (gin_n (k := 0) (by omega) (by decide)), well, bind_e]
    simp only [gLet_e, nI_1]
    by_cases c : v = 1 ∨ v = 2 ∨ v = 4
    · rw [if_pos c, if_pos c, if_neg (show ¬ (1 : Int32) = 0 by decide)]
    · rw [if_neg c, if_neg c, if_pos rfl]
  have bad : X11_isWell 1 (nI 2) (nI 0) v Y = X11_isWell 1 (nI 2) (nI 0) v Y := rfl
  rcases m8 with ⟨e0, m8⟩ | ⟨m8, m9, m10⟩
  · refine ⟨X2, wI Y2 52 0 0 v, mod (by rw [head, if_neg (by rw [w_n (by omega), m8]; exact nI_m1 (by omega))]), Or.inr (Or.inl ⟨by rw [cls 0 e0, if_pos rfl], ⟨q, rw2⟩, m4, m5, yw, s, m2, by rw [w_n (by omega)]; exact m8, hsq⟩)⟩
  · have e4 : (wI Y2 52 0 0 v).1 50 0 4 = -1 := by rw [w_n (by omega)]; exact m8
    have e7 : (wI Y2 52 0 0 v).1 50 0 7 = nI s := by rw [w_n (by omega)]; exact m3
    have fl : ¬ (v = 1 ∨ v = 2 ∨ v = 4) → X11_readNumbers (nI 1) 1 (nI 2) Y = some (wI (wI Y2 52 0 0 v) 50 0 4 (nI s)) := fun c => mod (by rw [head, if_pos e4, if_neg c, e7, sfail e4, bind_e])
    have nf : NF L X Y X2 (wI (wI Y2 52 0 0 v) 50 0 4 (nI s)) := ⟨⟨q, rw2.1.of (fun _ _ _ _ => rfl) (fun a b c hc => w_n (by omega)), rw2.2.1, by rw [w_n (by omega)]; exact rw2.2.2.1, rw2.2.2.2⟩, m4, m5, yw.tr ⟨rfl, fun a b c hq => w_n (by omega)⟩, s, m2, w_e, hsq⟩
    have a1 : (1 : Int32).toInt = 1 := rfl
    have a4 : (4 : Int32).toInt = 4 := rfl
    by_cases rg : (1 : Int32) ≤ X2.1 4 0 0 ∧ X2.1 4 0 0 ≤ 4
    · have g1 := Int32.le_iff_toInt_le.mp rg.1
      have g2 := Int32.le_iff_toInt_le.mp rg.2
      have ev : v = X2.1 4 0 0 := m9.e (by omega) (by omega)
      rw [if_pos rg] at m10
      by_cases c : v = 1 ∨ v = 2 ∨ v = 4
      · refine ⟨X2, wI Y2 52 0 0 v, mod (by rw [head, if_pos e4, if_pos c]), Or.inl ⟨by rw [cls 1 m10, if_neg (show ¬ (1 : Int32) = 0 by decide)], by rw [← ev]; exact c, by rw [w_e, ev], ⟨q, by omega, rw2⟩, e4, m4, m5, yw⟩⟩
      · refine ⟨X2, _, fl c, Or.inr (Or.inr ⟨by rw [cls 1 m10, if_neg (show ¬ (1 : Int32) = 0 by decide)], ?_, nf⟩)⟩
        rw [← ev]
        have h3 : v.toInt = 3 := by
          rw [← ev] at g1 g2
          have e1 : v.toInt ≠ 1 := fun z => c (Or.inl (Int32.toInt_inj.mp z))
          have e2 : v.toInt ≠ 2 := fun z => c (Or.inr (Or.inl (Int32.toInt_inj.mp z)))
          have e4' : v.toInt ≠ 4 := fun z => c (Or.inr (Or.inr (Int32.toInt_inj.mp z)))
          omega
        exact Int32.toInt_inj.mp h3
    · rw [if_neg rg] at m10
      have c : ¬ (v = 1 ∨ v = 2 ∨ v = 4) := fun z => rg (by
        have := (m9.b (lo := 1) (hi := 4) (by omega) (by omega)).mpr (by rcases z with rfl | rfl | rfl <;> decide)
        exact ⟨Int32.le_iff_toInt_le.mpr this.1, Int32.le_iff_toInt_le.mpr this.2⟩)
      exact ⟨X2, _, fl c, Or.inr (Or.inl ⟨by rw [cls 0 m10, if_pos rfl], nf⟩)⟩
end MN
