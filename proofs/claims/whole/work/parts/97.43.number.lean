/-! numbers -/
def isD (b : Nat) : Prop := 48 ≤ b ∧ b ≤ 57
/-- the reference's number v, the class's number c -/
def NR (v c : Int32) : Prop := (v = c ∧ -100000 ≤ c.toInt ∧ c.toInt ≤ 100000) ∨ (100000 ≤ v.toInt ∧ c.toInt = 100000) ∨ (v.toInt ≤ -100000 ∧ c.toInt = -100000)
section NB
variable {L p q k i w st s : Nat} {X Y X' Y' M : gM} {lo hi : Int32}
theorem NR.b {v c : Int32} (h : NR v c) (hl : -1000 ≤ lo.toInt) (hh : hi.toInt ≤ 1000) : (lo.toInt ≤ c.toInt ∧ c.toInt ≤ hi.toInt) ↔ (lo.toInt ≤ v.toInt ∧ v.toInt ≤ hi.toInt) := by
  rcases h with ⟨rfl, -⟩ | ⟨h1, h2⟩ | ⟨h1, h2⟩
  · exact Iff.rfl
  · constructor <;> intro z <;> omega
  · constructor <;> intro z <;> omega
theorem NR.e {v c : Int32} (h : NR v c) (h1 : -1000 ≤ c.toInt) (h2 : c.toInt ≤ 1000) : v = c := by
  rcases h with ⟨e, -⟩ | ⟨g1, g2⟩ | ⟨g1, g2⟩
  · exact e
  · omega
  · omega
theorem j_digits {sg x5 : Int32} (h : RP L st X Y) (y4 : Y.1 50 0 4 = -1) (h0 : st < L ∧ isD (by8 X st)) :
    ∃ n q X' Y', st < q ∧ n ≤ 999999 ∧ gIter (fun z : Int32 × gM => X3_readNumber_L66 (nI k) lo hi sg x5 z.1 z.2) FU (0, X) = some (nI (min n 100000), X') ∧ gIter (fun z : Int32 × gM => X11_number_L58 sg z.1 z.2) FU (0, Y) = some (nI n, Y') ∧ RP L q X' Y' ∧ (∀ c, by8 X' c = by8 X c) ∧ XO (fun c => c = 2) X X' ∧ YO (fun c => c = 3) Y Y' := by
  have hL := h.1.1
  obtain ⟨e, d, f1, f2, q, n, X', Y', rfl, rfl, q1, q2, q3, q4, q5, q6, q7⟩ := gI2x_FU (s1 := fun z : Int32 × gM => X3_readNumber_L66 (nI k) lo hi sg x5 z.1 z.2) (s2 := fun z : Int32 × gM => X11_number_L58 sg z.1 z.2) (fun _ (x : Int32 × gM) => x) (fun _ (y : Int32 × gM) => y) (fun k x y => st ≤ k ∧ (∃ n, n ≤ 999999 ∧ x.1 = nI (min n 100000) ∧ y.1 = nI n) ∧ RP L k x.2 y.2 ∧ (∀ c, by8 x.2 c = by8 X c) ∧ XO (fun c => c = 2) X x.2 ∧ YO (fun c => c = 3) Y y.2) (fun e d => ∃ q n X' Y', e = (nI (min n 100000), X') ∧ d = (nI n, Y') ∧ st ≤ q ∧ n ≤ 999999 ∧ RP L q X' Y' ∧ (∀ c, by8 X' c = by8 X c) ∧ XO (fun c => c = 2) X X' ∧ YO (fun c => c = 3) Y Y' ∧ (q < L → ¬ isD (by8 X q))) st L h.2.2.2 (by omega)
    (fun k' x y hk hR => by
      obtain ⟨x1, x2⟩ := x
      obtain ⟨y1, y2⟩ := y
      obtain ⟨r1, ⟨n, hn, u1, u2⟩, s2, s3, s4, s5⟩ := hR
      have e1 : x1 = nI (min n 100000) := u1
      have e2 : y1 = nI n := u2
      have r2 : RP L k' x2 y2 := s2
      have r3 : ∀ c, by8 x2 c = by8 X c := s3
      have r4 : XO (fun c => c = 2) X x2 := s4
      have r5 : YO (fun c => c = 3) Y y2 := s5
      clear u1 u2 s2 s3 s4 s5
      subst e1 e2
      have hbk := r2.1.b hk
      have es : see L k' x2 = nI (by8 x2 k') := if_pos hk
      have un1 : X3_readNumber_L66 (nI k) lo hi sg x5 (nI (min n 100000)) x2 = if nI (by8 x2 k') < nI 48 then some (.inr (nI (min n 100000), x2)) else if nI 57 < nI (by8 x2 k') then some (.inr (nI (min n 100000), x2)) else some (.inl (gmin (nI (min n 100000) * 10 + (nI (by8 x2 k') - 48)) 100000, wI x2 3 0 2 (nI (k' + 1)))) := by
        unfold X3_readNumber_L66
        rw [r2.1.2.1, r2.2.1, if_neg (nI_ge hk (by omega)), gG_t (gin_n (k := k') (by omega) (by decide)), gG_t (gin_n (k := k') (by omega) (by decide)), gG_t (gin_n (k := k') (by omega) (by decide)), nI_clamp (by omega), hbk.1, nI_1]
        rfl
      have un2 : X11_number_L58 sg (nI n) y2 = if nI (by8 x2 k') < nI 48 then some (.inr (nI n, y2)) else if nI 57 < nI (by8 x2 k') then some (.inr (nI n, y2)) else (if nI n ≤ 99999 then some (.inl (((10 * nI n) + nI (by8 x2 k')) - 48, wI y2 50 0 3 (nI (k' + 1)))) else some (.inl (nI n, wI y2 50 0 3 (nI (k' + 1))))) := by
        unfold X11_number_L58 X11_isDigit
        rw [x11_here r2, bind_e, es, bind_e, r2.2.2.1, nI_1, bind_e]
        show ((if nI (by8 x2 k') < nI 48 then some 0 else if nI 57 < nI (by8 x2 k') then some 0 else some 1).bind _) = _
        by_cases c1 : nI (by8 x2 k') < nI 48
        · rw [if_pos c1, if_pos c1, bind_e, if_pos rfl]
        · rw [if_neg c1, if_neg c1]
          by_cases c2 : nI 57 < nI (by8 x2 k')
          · rw [if_pos c2, if_pos c2, bind_e, if_pos rfl]
          · rw [if_neg c2, if_neg c2, bind_e, if_neg (show ¬ (1 : Int32) = 0 by decide)]
            rfl
      have l48 : nI (by8 x2 k') < nI 48 ↔ by8 x2 k' < 48 := nI_ltI (by omega) (by omega)
      have g57 : nI 57 < nI (by8 x2 k') ↔ 57 < by8 x2 k' := nI_ltI (by omega) (by omega)
      show (∃ x' y', X3_readNumber_L66 (nI k) lo hi sg x5 (nI (min n 100000)) x2 = _ ∧ X11_number_L58 sg (nI n) y2 = _ ∧ _) ∨ (∃ e d, X3_readNumber_L66 (nI k) lo hi sg x5 (nI (min n 100000)) x2 = _ ∧ X11_number_L58 sg (nI n) y2 = _ ∧ _)
      rw [un1, un2]
      by_cases c1 : by8 x2 k' < 48
      · rw [if_pos (l48.mpr c1), if_pos (l48.mpr c1)]
        exact Or.inr ⟨_, _, rfl, rfl, k', n, x2, y2, rfl, rfl, r1, hn, r2, r3, r4, r5, fun _ z => by rw [← r3 k'] at z; unfold isD at z; omega⟩
      · rw [if_neg (fun z => c1 (l48.mp z)), if_neg (fun z => c1 (l48.mp z))]
        by_cases c2 : 57 < by8 x2 k'
        · rw [if_pos (g57.mpr c2), if_pos (g57.mpr c2)]
          exact Or.inr ⟨_, _, rfl, rfl, k', n, x2, y2, rfl, rfl, r1, hn, r2, r3, r4, r5, fun _ z => by rw [← r3 k'] at z; unfold isD at z; omega⟩
        · rw [if_neg (fun z => c2 (g57.mp z)), if_neg (fun z => c2 (g57.mp z))]
          have ec : gmin (nI (min n 100000) * 10 + (nI (by8 x2 k') - 48)) 100000 = nI (min (min n 100000 * 10 + (by8 x2 k' - 48)) 100000) := by
            rw [nlit 10, nI_mul, nlit 48, nI_sub (by omega), nI_add, nlit 100000, nI_min (by omega) (by omega)]
          have bb : ∀ c, by8 (wI x2 3 0 2 (nI (k' + 1))) c = by8 X c := fun c => by
            have := r3 c
            unfold by8 at this ⊢
            rw [w_n (by omega)]
            exact this
          rw [ec]
          by_cases c3 : n ≤ 99999
          · have em : ((10 * nI n) + nI (by8 x2 k')) - 48 = nI (10 * n + by8 x2 k' - 48) := by rw [nlit 10, nI_mul, nI_add, nlit 48, nI_sub (by omega)]
            rw [if_pos (show nI n ≤ (99999 : Int32) from nI_le (b := 99999) c3 (by decide)), em]
            have en : min (min n 100000 * 10 + (by8 x2 k' - 48)) 100000 = min (10 * n + by8 x2 k' - 48) 100000 := by omega
            rw [en]
            exact Or.inl ⟨_, _, rfl, rfl, by omega, ⟨10 * n + by8 x2 k' - 48, by omega, rfl, rfl⟩, r2.go hk, bb, r4.tr (XO.w rfl), r5.tr (YO.w rfl)⟩
          · rw [if_neg (show ¬ nI n ≤ (99999 : Int32) from nI_ge (a := 99999) (b := n) (by omega) (by omega))]
            have en : min (min n 100000 * 10 + (by8 x2 k' - 48)) 100000 = min n 100000 := by omega
            rw [en]
            exact Or.inl ⟨_, _, rfl, rfl, by omega, ⟨n, hn, rfl, rfl⟩, r2.go hk, bb, r4.tr (XO.w rfl), r5.tr (YO.w rfl)⟩)
    (fun x y hR => by
      obtain ⟨x1, x2⟩ := x
      obtain ⟨y1, y2⟩ := y
      obtain ⟨r1, ⟨n, hn, u1, u2⟩, s2, s3, s4, s5⟩ := hR
      have e1 : x1 = nI (min n 100000) := u1
      have e2 : y1 = nI n := u2
      have r2 : RP L L x2 y2 := s2
      clear u1 u2
      subst e1 e2
      have es : see L L x2 = -1 := if_neg (by omega)
      refine ⟨_, _, ?_, ?_, L, n, x2, y2, rfl, rfl, r1, hn, r2, s3, s4, s5, fun z => absurd z (by omega)⟩
      · show X3_readNumber_L66 (nI k) lo hi sg x5 (nI (min n 100000)) x2 = _
        unfold X3_readNumber_L66
        rw [r2.1.2.1, r2.2.1, if_pos (nI_le (Nat.le_refl _) (by omega))]
      · show X11_number_L58 sg (nI n) y2 = _
        unfold X11_number_L58 X11_isDigit
        rw [x11_here r2, bind_e, es, if_pos (by decide), bind_e, if_pos rfl])
    (0, X) (0, Y) ⟨Nat.le_refl _, ⟨0, by omega, rfl, rfl⟩, h, fun _ => rfl, XO.rf, YO.rf⟩
  refine ⟨n, q, X', Y', ?_, q2, f1, f2, q3, q4, q5, q6⟩
  rcases Nat.lt_or_ge st q with z | z
  · exact z
  · have : q = st := by omega
    subst this
    exact absurd h0.2 (q7 h0.1)
end NB
