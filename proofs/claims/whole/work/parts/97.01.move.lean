/-! move as a call -/
section MC
variable {n W H T K i j k t m nf nf' : Nat} {M M' Mx Mm Mx' Mm' : gM} {p p1 p2 p3 p4 v r : Int32}
theorem x9_isMove : X9_isMove p M = some (if -20 ≤ p.toInt ∧ p.toInt ≤ 20 then 1 else 0) := by
  unfold X9_isMove
  have a0 : (-20 : Int32).toInt = -20 := by decide
  have a1 : (20 : Int32).toInt = 20 := rfl
  by_cases h0 : p < (-20)
  · have := Int32.lt_iff_toInt_lt.mp h0
    rw [if_pos h0, if_neg (by omega)]
  · have g0 := Int32.le_iff_toInt_le.mp (Int32.not_lt.mp h0)
    rw [if_neg h0]
    by_cases h1 : 20 < p
    · have := Int32.lt_iff_toInt_lt.mp h1
      rw [if_pos h1, if_neg (by omega)]
    · have g1 := Int32.le_iff_toInt_le.mp (Int32.not_lt.mp h1)
      rw [if_neg h1, if_pos (by omega)]
theorem x10_isPoint : X10_isPoint p M = some (if -99 ≤ p.toInt ∧ p.toInt ≤ 160 then 1 else 0) := by
  unfold X10_isPoint
  have a0 : (-99 : Int32).toInt = -99 := by decide
  have a1 : (160 : Int32).toInt = 160 := rfl
  by_cases h0 : p < (-99)
  · have := Int32.lt_iff_toInt_lt.mp h0
    rw [if_pos h0, if_neg (by omega)]
  · have g0 := Int32.le_iff_toInt_le.mp (Int32.not_lt.mp h0)
    rw [if_neg h0]
    by_cases h1 : 160 < p
    · have := Int32.lt_iff_toInt_lt.mp h1
      rw [if_pos h1, if_neg (by omega)]
    · have g1 := Int32.le_iff_toInt_le.mp (Int32.not_lt.mp h1)
      rw [if_neg h1, if_pos (by omega)]
theorem j_stopM (h : RJ n W H T K 0 8 Mx Mm) :
    (∃ k, k < 4 ∧ X9_refusalOfMove 0 p1 p2 p3 p4 Mx = some (nI k) ∧ X11_stopsMove 8 p1 p2 p3 p4 Mm = some (nI k)) ∨
    (X9_refusalOfMove 0 p1 p2 p3 p4 Mx = some (-1) ∧ X11_stopsMove 8 p1 p2 p3 p4 Mm = some (-1) ∧ ∃ t c, t < n ∧ c < 3 ∧ p1 = nI t ∧ p2 = nI c ∧ (-99 ≤ (Mx.1 39 0 (6 * t + 2 * c) + p3).toInt ∧ (Mx.1 39 0 (6 * t + 2 * c) + p3).toInt ≤ 160) ∧ (-99 ≤ (Mx.1 39 0 (6 * t + 2 * c + 1) + p4).toInt ∧ (Mx.1 39 0 (6 * t + 2 * c + 1) + p4).toInt ≤ 160)) := by
  have hn := h.1.2.1
  have fc := h.2.2.2.1
  unfold X9_refusalOfMove X11_stopsMove
  rcases j_has (p := p1) h.1 h.2.1.1 with ⟨e1, e2⟩ | ⟨e1, e2, t, ht, rfl⟩
  · rw [e1, e2, bind_e, bind_e, if_pos rfl, if_pos rfl]
    exact Or.inl ⟨0, by omega, rfl, rfl⟩
  · have b0 : (0 : Int64).toInt = 0 := rfl
    have b2 : (2 : Int64).toInt = 2 := rfl
    have b20 : (20 : Int64).toInt = 20 := rfl
    have bm : (-20 : Int64).toInt = -20 := by decide
    have b99 : (-99 : Int64).toInt = -99 := by decide
    have b160 : (160 : Int64).toInt = 160 := rfl
    have a0 : (0 : Int32).toInt = 0 := rfl
    have a2 : (2 : Int32).toInt = 2 := rfl
    rw [e1, e2, bind_e, bind_e, if_neg (show ¬ (1 : Int32) = 0 by decide), x11_isIn, b0, b2, bind_e]
    by_cases h0 : p2 < 0
    · have := Int32.lt_iff_toInt_lt.mp h0
      rw [if_pos h0, if_neg (show ¬ (1 : Int32) = 0 by decide), if_neg (show ¬ (0 ≤ p2.toInt ∧ p2.toInt ≤ 2) by omega), if_pos rfl]
      exact Or.inl ⟨1, by omega, rfl, rfl⟩
    · have g0 := Int32.le_iff_toInt_le.mp (Int32.not_lt.mp h0)
      rw [if_neg h0, if_neg (show ¬ (1 : Int32) = 0 by decide)]
      by_cases h1 : 2 < p2
      · have := Int32.lt_iff_toInt_lt.mp h1
        rw [if_pos h1, if_neg (show ¬ (0 ≤ p2.toInt ∧ p2.toInt ≤ 2) by omega), if_pos rfl]
        exact Or.inl ⟨1, by omega, rfl, rfl⟩
      · have g1 := Int32.le_iff_toInt_le.mp (Int32.not_lt.mp h1)
        obtain ⟨c, hc, rfl⟩ := arg (n := 3) h0 (fun z => h1 (by
          have q := Int32.le_iff_toInt_le.mp z
          rw [nI_toInt (by decide)] at q
          exact Int32.lt_iff_toInt_lt.mpr (by omega))) (by decide)
        have ex : (nI t * 6) + (nI c * 2) = nI (6 * t + 2 * c) := by rw [nlit 6, nI_mul, nlit 2, nI_mul, nI_add, Nat.mul_comm t 6, Nat.mul_comm c 2]
        have em : ((944 : Int32) + (9 * nI t)) + (3 * nI c) = nI (944 + 9 * t + 3 * c) := by rw [nlit 9, nI_mul, nlit 944, nI_add, nlit 3, nI_mul, nI_add]
        have m0 : Mm.1 52 8 (944 + 9 * t + 3 * c) = Mx.1 39 0 (6 * t + 2 * c) := by
          have := ((fc t ht).1 (2 * c) (by omega)).1
          rw [show 944 + 9 * t + 3 * (2 * c / 2) + 2 * c % 2 = 944 + 9 * t + 3 * c by omega] at this
          exact this
        have m1 : Mm.1 52 8 (944 + 9 * t + 3 * c + 1) = Mx.1 39 0 (6 * t + 2 * c + 1) := by
          have := ((fc t ht).1 (2 * c + 1) (by omega)).1
          rw [show 944 + 9 * t + 3 * ((2 * c + 1) / 2) + (2 * c + 1) % 2 = 944 + 9 * t + 3 * c + 1 by omega] at this
          exact this
        rw [if_neg h1, if_pos (show 0 ≤ (nI c).toInt ∧ (nI c).toInt ≤ 2 by omega), if_neg (show ¬ (1 : Int32) = 0 by decide), x9_isMove, bind_e, x11_isIn, bm, b20, bind_e]
        by_cases h3 : -20 ≤ p3.toInt ∧ p3.toInt ≤ 20
        · rw [if_pos h3, if_neg (show ¬ (1 : Int32) = 0 by decide), if_neg (show ¬ (1 : Int32) = 0 by decide), x9_isMove, bind_e, x11_isIn, bm, b20, bind_e]
          by_cases h4 : -20 ≤ p4.toInt ∧ p4.toInt ≤ 20
          · rw [if_pos h4, if_neg (show ¬ (1 : Int32) = 0 by decide), if_neg (show ¬ (1 : Int32) = 0 by decide), gLet_e, gLet_e, ex, em, nI_1, nI_1, show gLen 52 8 = 1242 from rfl, gG_t (gin_n (k := 6 * t + 2 * c) (by omega) (by decide)), gG_t (gin_n (k := 944 + 9 * t + 3 * c) (by omega) (by decide)), gG_t (gin_n (k := 6 * t + 2 * c + 1) (by omega) (by decide)), gG_t (gin_n (k := 944 + 9 * t + 3 * c + 1) (by omega) (by decide)), nI_clamp (n := 6 * t + 2 * c) (by omega), nI_clamp (n := 6 * t + 2 * c + 1) (by omega), nI_clamp (n := 944 + 9 * t + 3 * c) (by omega), nI_clamp (n := 944 + 9 * t + 3 * c + 1) (by omega), m0, m1, x10_isPoint, bind_e, x11_isIn, b99, b160, bind_e]
            by_cases h5 : -99 ≤ (Mx.1 39 0 (6 * t + 2 * c) + p3).toInt ∧ (Mx.1 39 0 (6 * t + 2 * c) + p3).toInt ≤ 160
            · rw [if_pos h5, if_neg (show ¬ (1 : Int32) = 0 by decide), if_neg (show ¬ (1 : Int32) = 0 by decide), x10_isPoint, bind_e, x11_isIn, b99, b160, bind_e]
              by_cases h6 : -99 ≤ (Mx.1 39 0 (6 * t + 2 * c + 1) + p4).toInt ∧ (Mx.1 39 0 (6 * t + 2 * c + 1) + p4).toInt ≤ 160
              · rw [if_pos h6, if_neg (show ¬ (1 : Int32) = 0 by decide), if_neg (show ¬ (1 : Int32) = 0 by decide)]
                obtain ⟨z, z1, z2⟩ := j_times (Or.inl rfl) h (nI t)
                have fin : (∃ k, k < 4 ∧ X9_refusalOfMove_J98 0 (nI t) Mx = some (nI k) ∧ X11_stopsMove_J124 8 (nI t) Mm = some (nI k)) ∨ (X9_refusalOfMove_J98 0 (nI t) Mx = some (-1) ∧ X11_stopsMove_J124 8 (nI t) Mm = some (-1)) := by
                  unfold X9_refusalOfMove_J98 X11_stopsMove_J124 X11_isBinned
                  rw [z1, z2, bind_e, bind_e]
                  by_cases hz : z ≤ 0
                  · rw [if_pos hz, if_pos hz, bind_e, if_pos rfl]
                    exact Or.inr ⟨rfl, rfl⟩
                  · rw [if_neg hz, if_neg hz, bind_e, if_neg (show ¬ (1 : Int32) = 0 by decide)]
                    exact Or.inl ⟨3, by omega, rfl, rfl⟩
                have fin2 : (∃ k, k < 4 ∧ X9_refusalOfMove_J98 0 (nI t) Mx = some (nI k) ∧ X11_stopsMove_J124 8 (nI t) Mm = some (nI k)) ∨ (X9_refusalOfMove_J98 0 (nI t) Mx = some (-1) ∧ X11_stopsMove_J124 8 (nI t) Mm = some (-1) ∧ ∃ t' c', t' < n ∧ c' < 3 ∧ nI t = nI t' ∧ nI c = nI c' ∧ (-99 ≤ (Mx.1 39 0 (6 * t' + 2 * c') + p3).toInt ∧ (Mx.1 39 0 (6 * t' + 2 * c') + p3).toInt ≤ 160) ∧ (-99 ≤ (Mx.1 39 0 (6 * t' + 2 * c' + 1) + p4).toInt ∧ (Mx.1 39 0 (6 * t' + 2 * c' + 1) + p4).toInt ≤ 160)) := fin.imp id fun q => ⟨q.1, q.2, t, c, ht, hc, rfl, rfl, h5, h6⟩
                by_cases h7 : p3 = 0
                · by_cases h8 : p4 = 0
                  · rw [if_pos h7, if_pos h8, if_pos h7, if_pos h8]
                    exact Or.inl ⟨2, by omega, rfl, rfl⟩
                  · rw [if_pos h7, if_neg h8, if_pos h7, if_neg h8]
                    exact fin2
                · rw [if_neg h7, if_neg h7]
                  exact fin2
              · rw [if_neg h6, if_pos rfl, if_pos rfl]
                exact Or.inl ⟨1, by omega, rfl, rfl⟩
            · rw [if_neg h5, if_pos rfl, if_pos rfl]
              exact Or.inl ⟨1, by omega, rfl, rfl⟩
          · rw [if_neg h4, if_pos rfl, if_pos rfl]
            exact Or.inl ⟨1, by omega, rfl, rfl⟩
        · rw [if_neg h3, if_pos rfl, if_pos rfl]
          exact Or.inl ⟨1, by omega, rfl, rfl⟩
end MC
