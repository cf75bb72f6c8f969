/-! refusals and acts of a kind, for any frame and row -/
section KR
variable {n W H T K i j k t m nf nf' : Nat} {M M' Mx Mm Mx' Mm' : gM} {p p1 p2 p3 p4 v r : Int32}
theorem gl8 (hj : j = 8 ∨ j = 9) : gLen 52 j = 1242 := by
  rcases hj with rfl | rfl <;> rfl
theorem x9_refRr (hk : k < 4) : X9_refusalOfRule i (nI k) p Mx = some (rans k p (Mx.1 40 i k)) := by
  have g := gsv hk
  unfold X9_refusalOfRule rans
  rw [if_neg (nI_neg (by omega)), if_neg (show ¬ (4 : Int32) ≤ nI k from nI_ge (a := k) (b := 4) hk (by decide)), gG_t (gin_n hk (by decide)), gG_t (gin_n hk (by decide)), gG_t (gin_n hk (by decide)), nI_clamp (by omega)]
  by_cases h1 : p < gSv 8 k
  · have := Int32.lt_iff_toInt_lt.mp h1
    rw [if_pos h1, if_neg (by omega)]
  · have h1' := Int32.le_iff_toInt_le.mp (Int32.not_lt.mp h1)
    rw [if_neg h1]
    by_cases h2 : p ≤ gSv 9 k
    · have := Int32.le_iff_toInt_le.mp h2
      rw [if_pos h2, if_pos (show rlo k ≤ p.toInt ∧ p.toInt ≤ rhi k by omega)]
      split <;> rfl
    · have := Int32.lt_iff_toInt_lt.mp (Int32.not_le.mp h2)
      rw [if_neg h2, if_neg (by omega)]
theorem x11_refRr (hj : j = 8 ∨ j = 9) (hk : k < 4) (n0 : ¬ Mm.1 50 0 16 = 0) : X11_stopsRule j (nI k) p Mm = some (rans k p (Mm.1 52 j (1057 + k))) := by
  have e57 : (1057 : Int32) + nI k = nI (1057 + k) := by rw [nlit 1057, nI_add]
  have J : ∀ lo hi : Int64, lo.toInt = rlo k → hi.toInt = rhi k → X11_stopsRule_J55 j (nI k) p hi lo p.toInt64 Mm = some (rans k p (Mm.1 52 j (1057 + k))) := fun lo hi h1 h2 => by
    unfold X11_stopsRule_J55 rans
    rw [x11_isIn, bind_e, h1, h2, e57, gl8 hj, gG_t (gin_n (k := 1057 + k) (by omega) (by decide)), nI_clamp (n := 1057 + k) (by omega)]
    by_cases h3 : rlo k ≤ p.toInt ∧ p.toInt ≤ rhi k
    · rw [if_pos h3, if_pos h3, if_neg (show ¬ (1 : Int32) = 0 by decide)]
      split <;> rfl
    · rw [if_neg h3, if_neg h3, if_pos rfl]
  have hin : X11_isIn (nI k).toInt64 0 3 Mm = some 1 := by
    rw [x11_isIn, nI_toInt (by omega), if_pos]
    have a0 : (0 : Int64).toInt = 0 := rfl
    have a3 : (3 : Int64).toInt = 3 := rfl
    rw [a0, a3]
    omega
  unfold X11_stopsRule
  rw [if_neg n0, hin, bind_e, if_neg (show ¬ (1 : Int32) = 0 by decide)]
  rcases (show k = 0 ∨ k = 1 ∨ k = 2 ∨ k = 3 by omega) with rfl | rfl | rfl | rfl
  · rw [if_neg (show ¬ nI 0 = (3 : Int32) by decide)]
    unfold X11_stopsRule_J33
    rw [if_neg (show ¬ nI 0 = (3 : Int32) by decide), if_pos (show nI 0 = (0 : Int32) by decide)]
    exact J 0 2 (by decide) (by decide)
  · rw [if_neg (show ¬ nI 1 = (3 : Int32) by decide)]
    unfold X11_stopsRule_J33
    rw [if_neg (show ¬ nI 1 = (3 : Int32) by decide), if_neg (show ¬ nI 1 = (0 : Int32) by decide)]
    exact J 0 1 (by decide) (by decide)
  · rw [if_neg (show ¬ nI 2 = (3 : Int32) by decide)]
    unfold X11_stopsRule_J33
    rw [if_neg (show ¬ nI 2 = (3 : Int32) by decide), if_neg (show ¬ nI 2 = (0 : Int32) by decide)]
    exact J 0 1 (by decide) (by decide)
  · rw [if_pos (show nI 3 = (3 : Int32) by decide)]
    unfold X11_stopsRule_J33
    rw [if_pos (show nI 3 = (3 : Int32) by decide)]
    exact J 1 10 (by decide) (by decide)
theorem j_stopMr (hj : j = 8 ∨ j = 9) (h : RJ n W H T K i j Mx Mm) :
    (∃ k, k < 4 ∧ X9_refusalOfMove i p1 p2 p3 p4 Mx = some (nI k) ∧ X11_stopsMove j p1 p2 p3 p4 Mm = some (nI k)) ∨
    (X9_refusalOfMove i p1 p2 p3 p4 Mx = some (-1) ∧ X11_stopsMove j p1 p2 p3 p4 Mm = some (-1) ∧ ∃ t c, t < n ∧ c < 3 ∧ p1 = nI t ∧ p2 = nI c ∧ (-99 ≤ (Mx.1 39 i (6 * t + 2 * c) + p3).toInt ∧ (Mx.1 39 i (6 * t + 2 * c) + p3).toInt ≤ 160) ∧ (-99 ≤ (Mx.1 39 i (6 * t + 2 * c + 1) + p4).toInt ∧ (Mx.1 39 i (6 * t + 2 * c + 1) + p4).toInt ≤ 160)) := by
  have hn := h.1.2.1
  have fc := h.2.2.2.1
  unfold X9_refusalOfMove X11_stopsMove
  rcases j_has (p := p1) h.1 h.2.1.1 with ⟨e1, e2⟩ | ⟨e1, e2, t, ht, rfl⟩
  · rw [e1, e2, bind_e, bind_e, if_pos rfl, if_pos rfl]
    exact Or.inl ⟨0, by omega, rfl, rfl⟩
  · have b0 : (0 : Int64).toInt = 0 := rfl
    have b2 : (2 : Int64).toInt = 2 := rfl
    have b20 : (20 : Int64).toInt = 20 := rfl
    have bm : (-20 : Int64).toInt = -20 := by decide
    have b99 : (-99 : Int64).toInt = -99 := by decide
    have b160 : (160 : Int64).toInt = 160 := rfl
    have a0 : (0 : Int32).toInt = 0 := rfl
    have a2 : (2 : Int32).toInt = 2 := rfl
    rw [e1, e2, bind_e, bind_e, if_neg (show ¬ (1 : Int32) = 0 by decide), x11_isIn, b0, b2, bind_e]
    by_cases h0 : p2 < 0
    · have := Int32.lt_iff_toInt_lt.mp h0
      rw [if_pos h0, if_neg (show ¬ (1 : Int32) = 0 by decide), if_neg (show ¬ (0 ≤ p2.toInt ∧ p2.toInt ≤ 2) by omega), if_pos rfl]
      exact Or.inl ⟨1, by omega, rfl, rfl⟩
    · have g0 := Int32.le_iff_toInt_le.mp (Int32.not_lt.mp h0)
      rw [if_neg h0, if_neg (show ¬ (1 : Int32) = 0 by decide)]
      by_cases h1 : 2 < p2
      · have := Int32.lt_iff_toInt_lt.mp h1
        rw [if_pos h1, if_neg (show ¬ (0 ≤ p2.toInt ∧ p2.toInt ≤ 2) by omega), if_pos rfl]
        exact Or.inl ⟨1, by omega, rfl, rfl⟩
      · have g1 := Int32.le_iff_toInt_le.mp (Int32.not_lt.mp h1)
        obtain ⟨c, hc, rfl⟩ := arg (n := 3) h0 (fun z => h1 (by
          have q := Int32.le_iff_toInt_le.mp z
          rw [nI_toInt (by decide)] at q
          exact Int32.lt_iff_toInt_lt.mpr (by omega))) (by decide)
        have ex : (nI t * 6) + (nI c * 2) = nI (6 * t + 2 * c) := by rw [nlit 6, nI_mul, nlit 2, nI_mul, nI_add, Nat.mul_comm t 6, Nat.mul_comm c 2]
        have em : ((944 : Int32) + (9 * nI t)) + (3 * nI c) = nI (944 + 9 * t + 3 * c) := by rw [nlit 9, nI_mul, nlit 944, nI_add, nlit 3, nI_mul, nI_add]
        have m0 : Mm.1 52 j (944 + 9 * t + 3 * c) = Mx.1 39 i (6 * t + 2 * c) := by
          have := ((fc t ht).1 (2 * c) (by omega)).1
          rw [show 944 + 9 * t + 3 * (2 * c / 2) + 2 * c % 2 = 944 + 9 * t + 3 * c by omega] at this
          exact this
        have m1 : Mm.1 52 j (944 + 9 * t + 3 * c + 1) = Mx.1 39 i (6 * t + 2 * c + 1) := by
          have := ((fc t ht).1 (2 * c + 1) (by omega)).1
          rw [show 944 + 9 * t + 3 * ((2 * c + 1) / 2) + (2 * c + 1) % 2 = 944 + 9 * t + 3 * c + 1 by omega] at this
          exact this
        rw [if_neg h1, if_pos (show 0 ≤ (nI c).toInt ∧ (nI c).toInt ≤ 2 by omega), if_neg (show ¬ (1 : Int32) = 0 by decide), x9_isMove, bind_e, x11_isIn, bm, b20, bind_e]
        by_cases h3 : -20 ≤ p3.toInt ∧ p3.toInt ≤ 20
        · rw [if_pos h3, if_neg (show ¬ (1 : Int32) = 0 by decide), if_neg (show ¬ (1 : Int32) = 0 by decide), x9_isMove, bind_e, x11_isIn, bm, b20, bind_e]
          by_cases h4 : -20 ≤ p4.toInt ∧ p4.toInt ≤ 20
          · rw [if_pos h4, if_neg (show ¬ (1 : Int32) = 0 by decide), if_neg (show ¬ (1 : Int32) = 0 by decide), gLet_e, gLet_e, ex, em, nI_1, nI_1, gl8 hj, gG_t (gin_n (k := 6 * t + 2 * c) (by omega) (by decide)), gG_t (gin_n (k := 944 + 9 * t + 3 * c) (by omega) (by decide)), gG_t (gin_n (k := 6 * t + 2 * c + 1) (by omega) (by decide)), gG_t (gin_n (k := 944 + 9 * t + 3 * c + 1) (by omega) (by decide)), nI_clamp (n := 6 * t + 2 * c) (by omega), nI_clamp (n := 6 * t + 2 * c + 1) (by omega), nI_clamp (n := 944 + 9 * t + 3 * c) (by omega), nI_clamp (n := 944 + 9 * t + 3 * c + 1) (by omega), m0, m1, x10_isPoint, bind_e, x11_isIn, b99, b160, bind_e]
            by_cases h5 : -99 ≤ (Mx.1 39 i (6 * t + 2 * c) + p3).toInt ∧ (Mx.1 39 i (6 * t + 2 * c) + p3).toInt ≤ 160
            · rw [if_pos h5, if_neg (show ¬ (1 : Int32) = 0 by decide), if_neg (show ¬ (1 : Int32) = 0 by decide), x10_isPoint, bind_e, x11_isIn, b99, b160, bind_e]
              by_cases h6 : -99 ≤ (Mx.1 39 i (6 * t + 2 * c + 1) + p4).toInt ∧ (Mx.1 39 i (6 * t + 2 * c + 1) + p4).toInt ≤ 160
              · rw [if_pos h6, if_neg (show ¬ (1 : Int32) = 0 by decide), if_neg (show ¬ (1 : Int32) = 0 by decide)]
                obtain ⟨z, z1, z2⟩ := j_times hj h (nI t)
                have fin : (∃ k, k < 4 ∧ X9_refusalOfMove_J98 i (nI t) Mx = some (nI k) ∧ X11_stopsMove_J124 j (nI t) Mm = some (nI k)) ∨ (X9_refusalOfMove_J98 i (nI t) Mx = some (-1) ∧ X11_stopsMove_J124 j (nI t) Mm = some (-1)) := by
                  unfold X9_refusalOfMove_J98 X11_stopsMove_J124 X11_isBinned
                  rw [z1, z2, bind_e, bind_e]
                  by_cases hz : z ≤ 0
                  · rw [if_pos hz, if_pos hz, bind_e, if_pos rfl]
                    exact Or.inr ⟨rfl, rfl⟩
                  · rw [if_neg hz, if_neg hz, bind_e, if_neg (show ¬ (1 : Int32) = 0 by decide)]
                    exact Or.inl ⟨3, by omega, rfl, rfl⟩
                have fin2 : (∃ k, k < 4 ∧ X9_refusalOfMove_J98 i (nI t) Mx = some (nI k) ∧ X11_stopsMove_J124 j (nI t) Mm = some (nI k)) ∨ (X9_refusalOfMove_J98 i (nI t) Mx = some (-1) ∧ X11_stopsMove_J124 j (nI t) Mm = some (-1) ∧ ∃ t' c', t' < n ∧ c' < 3 ∧ nI t = nI t' ∧ nI c = nI c' ∧ (-99 ≤ (Mx.1 39 i (6 * t' + 2 * c') + p3).toInt ∧ (Mx.1 39 i (6 * t' + 2 * c') + p3).toInt ≤ 160) ∧ (-99 ≤ (Mx.1 39 i (6 * t' + 2 * c' + 1) + p4).toInt ∧ (Mx.1 39 i (6 * t' + 2 * c' + 1) + p4).toInt ≤ 160)) := fin.imp id fun q => ⟨q.1, q.2, t, c, ht, hc, rfl, rfl, h5, h6⟩
                by_cases h7 : p3 = 0
                · by_cases h8 : p4 = 0
                  · rw [if_pos h7, if_pos h8, if_pos h7, if_pos h8]
                    exact Or.inl ⟨2, by omega, rfl, rfl⟩
                  · rw [if_pos h7, if_neg h8, if_pos h7, if_neg h8]
                    exact fin2
                · rw [if_neg h7, if_neg h7]
                  exact fin2
              · rw [if_neg h6, if_pos rfl, if_pos rfl]
                exact Or.inl ⟨1, by omega, rfl, rfl⟩
            · rw [if_neg h5, if_pos rfl, if_pos rfl]
              exact Or.inl ⟨1, by omega, rfl, rfl⟩
          · rw [if_neg h4, if_pos rfl, if_pos rfl]
            exact Or.inl ⟨1, by omega, rfl, rfl⟩
        · rw [if_neg h3, if_pos rfl, if_pos rfl]
          exact Or.inl ⟨1, by omega, rfl, rfl⟩
end KR
