/-! the reference asks for a triangle -/
def tau (M : gM) (j t k : Nat) : Int32 := if k < 6 then M.1 52 j (944 + 9 * t + 3 * (k / 2) + k % 2) + (if k % 2 = 0 then M.1 50 0 29 else M.1 50 0 30) else 0
def zet (M : gM) (j t k : Nat) : Int32 := if k < 3 then M.1 52 j (944 + 9 * t + 3 * k + 2) else 0
def SameA (M M' : gM) : Prop := M'.2 = M.2 ∧ ∀ r i k, ¬ ((r = 52 ∧ (i = 12 ∨ i = 13 ∨ i = 14)) ∨ (r = 50 ∧ i = 0 ∧ (k = 28 ∨ k = 31))) → M'.1 r i k = M.1 r i k
theorem SameA.rf (M : gM) : SameA M M := ⟨rfl, fun _ _ _ _ => rfl⟩
theorem SameA.tr {M M' M'' : gM} (h : SameA M M') (h' : SameA M' M'') : SameA M M'' := ⟨h'.1.trans h.1, fun r i k hn => (h'.2 r i k hn).trans (h.2 r i k hn)⟩
theorem SameA.w {M : gM} {r i k : Nat} {v : Int32} (h : (r = 52 ∧ (i = 12 ∨ i = 13 ∨ i = 14)) ∨ (r = 50 ∧ i = 0 ∧ (k = 28 ∨ k = 31))) : SameA M (wI M r i k v) := ⟨rfl, fun r' i' k' hn => by
  rw [r1_wI, if_neg]
  rintro ⟨rfl, rfl, rfl⟩
  exact hn h⟩
theorem gLen8 {j : Nat} (hj : j = 8 ∨ j = 9) : gLen 52 j = 1242 := by rcases hj with rfl | rfl <;> rfl
def ask1 (M : gM) (k : Nat) (a b c : Int32) : gM := wI (wI (wI M 52 12 k a) 52 13 k b) 52 14 k c
theorem x11_ask1 {j t k : Nat} {M : gM} (hj : j = 8 ∨ j = 9) (ht : t < 10) (hk : k < 3) : X11_asks_L2 j (nI t) (nI k) M = some (.inl (nI (k + 1), ask1 M k (M.1 52 j (944 + 9 * t + 3 * k) + M.1 50 0 29) (M.1 52 j (944 + 9 * t + 3 * k + 1) + M.1 50 0 30) (M.1 52 j (944 + 9 * t + 3 * k + 2)))) := by
  have hl := gLen8 hj
  unfold X11_asks_L2
  rw [hl, nlit 3, if_neg (nI_ge hk (by decide)), nlit 944, nlit 9, nI_mul, nI_add, nI_mul, nI_add, gLet_e, gG_t (gin_n (by omega) (by decide)), gG_t (gin_n hk (by decide)), gLet_e, nI_1, gG_t (gin_n (by omega) (by decide)), gG_t (gin_n hk (by decide)), gLet_e, nlit 2, nI_add, gG_t (gin_n (by omega) (by decide)), gG_t (gin_n hk (by decide)), gLet_e, gLet_e, nI_1, nI_clamp (by omega), nI_clamp (by omega), nI_clamp (by omega), nI_clamp (by omega)]
  unfold ask1
  congr 5
  · rw [r1_wI, if_neg (by omega), r1_wI, if_neg (by omega)]
  · rw [r1_wI, if_neg (by omega), r1_wI, if_neg (by omega)]
theorem x11_sumR {e : Nat} {M : gM} (he : e < 3) (px py : Int32) : X11_sum (nI e) px py M = some ((((M.1 52 12 (nx e)) - (M.1 52 12 e)) * (py - (M.1 52 13 e))) - (((M.1 52 13 (nx e)) - (M.1 52 13 e)) * (px - (M.1 52 12 e)))) := by
  have hn := nx_lt e
  unfold X11_sum
  rw [nI_1, nlit 3, nI_rem (by omega) (by decide), gLet_e]
  rw [show (e + 1) % 3 = nx e from rfl]
  rw [gG_t (gin_n hn (by decide)), gG_t (gin_n he (by decide)), gG_t (gin_n he (by decide)), gG_t (gin_n hn (by decide)), gG_t (gin_n he (by decide)), gG_t (gin_n he (by decide))]
  show some ((((M.1 52 12 (nI (nx e)).toNatClampNeg) - (M.1 52 12 (nI e).toNatClampNeg)) * (py - (M.1 52 13 (nI e).toNatClampNeg))) - (((M.1 52 13 (nI (nx e)).toNatClampNeg) - (M.1 52 13 (nI e).toNatClampNeg)) * (px - (M.1 52 12 (nI e).toNatClampNeg)))) = _
  rw [nI_clamp (by omega), nI_clamp (by omega)]
theorem x11_swaps {i : Nat} {M : gM} (hi : i = 12 ∨ i = 13 ∨ i = 14) : X11_swaps i M = some (wI (wI M 52 i 1 (M.1 52 i 2)) 52 i 2 (M.1 52 i 1)) := by
  have hl : gLen 52 i = 3 := by rcases hi with rfl | rfl | rfl <;> rfl
  unfold X11_swaps
  rw [hl, gG_t (by decide), gLet_e, gG_t (by decide), gG_t (by decide), gLet_e, gG_t (by decide), gLet_e]
  rfl
theorem x11_asks {j t : Nat} {M : gM} (hj : j = 8 ∨ j = 9) (ht : t < 10) : ∃ M', X11_asks j (nI t) M = some M' ∧ AK (tau M j t) (zet M j t) (M.1 52 j 1057) M' ∧ SameA M M' := by
  have hl := gLen8 hj
  have jn : j ≠ 12 ∧ j ≠ 13 ∧ j ≠ 14 := by omega
  obtain ⟨M1, e1⟩ : ∃ M1, M1 = ask1 M 0 (M.1 52 j (944 + 9 * t + 3 * 0) + M.1 50 0 29) (M.1 52 j (944 + 9 * t + 3 * 0 + 1) + M.1 50 0 30) (M.1 52 j (944 + 9 * t + 3 * 0 + 2)) := ⟨_, rfl⟩
  have s0 := x11_ask1 (k := 0) (M := M) hj ht (by decide)
  rw [← e1] at s0
  have sj : ∀ (A : gM) (k : Nat) (a b c : Int32), SameA A (ask1 A k a b c) := fun A k a b c => ((SameA.w (Or.inl ⟨rfl, Or.inl rfl⟩)).tr (SameA.w (Or.inl ⟨rfl, Or.inr (Or.inl rfl)⟩))).tr (SameA.w (Or.inl ⟨rfl, Or.inr (Or.inr rfl)⟩))
  have a1 : SameA M M1 := by rw [e1]; exact sj _ _ _ _ _
  obtain ⟨M2, e2⟩ : ∃ M2, M2 = ask1 M1 1 (M.1 52 j (944 + 9 * t + 3 * 1) + M.1 50 0 29) (M.1 52 j (944 + 9 * t + 3 * 1 + 1) + M.1 50 0 30) (M.1 52 j (944 + 9 * t + 3 * 1 + 2)) := ⟨_, rfl⟩
  have s1 := x11_ask1 (k := 1) (M := M1) hj ht (by decide)
  rw [a1.2 52 j _ (by omega), a1.2 52 j _ (by omega), a1.2 52 j _ (by omega), a1.2 50 0 29 (by omega), a1.2 50 0 30 (by omega), ← e2] at s1
  have a2 : SameA M M2 := by rw [e2]; exact a1.tr (sj _ _ _ _ _)
  obtain ⟨M3, e3⟩ : ∃ M3, M3 = ask1 M2 2 (M.1 52 j (944 + 9 * t + 3 * 2) + M.1 50 0 29) (M.1 52 j (944 + 9 * t + 3 * 2 + 1) + M.1 50 0 30) (M.1 52 j (944 + 9 * t + 3 * 2 + 2)) := ⟨_, rfl⟩
  have s2 := x11_ask1 (k := 2) (M := M2) hj ht (by decide)
  rw [a2.2 52 j _ (by omega), a2.2 52 j _ (by omega), a2.2 52 j _ (by omega), a2.2 50 0 29 (by omega), a2.2 50 0 30 (by omega), ← e3] at s2
  have a3 : SameA M M3 := by rw [e3]; exact a2.tr (sj _ _ _ _ _)
  have s3 : X11_asks_L2 j (nI t) (nI 3) M3 = some (.inr M3) := by
    unfold X11_asks_L2
    rw [nlit 3, if_pos (nI_le (Nat.le_refl 3) (by decide))]
  have loop : gIter (fun s => X11_asks_L2 j (nI t) s.1 s.2) FU (nI 0, M) = some M3 := FU5 (gIt_s (step := fun s => X11_asks_L2 j (nI t) s.1 s.2) (s' := (nI 1, M1)) s0 (gIt_s (s' := (nI 2, M2)) s1 (gIt_s (s' := (nI 3, M3)) s2 (gIt_x s3))))
  have cx : ∀ k, k < 3 → M3.1 52 12 k = tau M j t (2 * k) ∧ M3.1 52 13 k = tau M j t (2 * k + 1) ∧ M3.1 52 14 k = zet M j t k := by
    intro k hk
    rcases (show k = 0 ∨ k = 1 ∨ k = 2 by omega) with rfl | rfl | rfl <;> rw [e3, e2, e1] <;> simp [ask1, r1_wI, tau, zet]
  clear sj e1 e2 e3 s0 s1 s2 s3 a1 a2
  unfold X11_asks
  rw [← nI_0, loop, bind_e, x11_sumR (by decide), bind_e]
  have har : (((M3.1 52 12 (nx 0)) - (M3.1 52 12 0)) * ((M3.1 52 13 2) - (M3.1 52 13 0))) - (((M3.1 52 13 (nx 0)) - (M3.1 52 13 0)) * ((M3.1 52 12 2) - (M3.1 52 12 0))) = trA (tau M j t) := by
    show (((M3.1 52 12 1) - (M3.1 52 12 0)) * ((M3.1 52 13 2) - (M3.1 52 13 0))) - (((M3.1 52 13 1) - (M3.1 52 13 0)) * ((M3.1 52 12 2) - (M3.1 52 12 0))) = _
    rw [(cx 0 (by decide)).1, (cx 0 (by decide)).2.1, (cx 1 (by decide)).1, (cx 1 (by decide)).2.1, (cx 2 (by decide)).1, (cx 2 (by decide)).2.1]
    rfl
  rw [har, gLet_e]
  generalize hM4 : wI M3 50 0 28 (trA (tau M j t)) = M4
  have a4 : SameA M M4 := by rw [← hM4]; exact a3.tr (SameA.w (Or.inr ⟨rfl, rfl, Or.inl rfl⟩))
  have r4 : M4.1 50 0 28 = trA (tau M j t) := by rw [← hM4]; simp [r1_wI]
  have c4 : ∀ k, k < 3 → M4.1 52 12 k = tau M j t (2 * k) ∧ M4.1 52 13 k = tau M j t (2 * k + 1) ∧ M4.1 52 14 k = zet M j t k := by
    intro k hk
    rw [← hM4]
    exact cx k hk
  -- the end, with whether it is culled
  have fin : ∀ b : Bool, b = cul (trA (tau M j t)) (M.1 52 j 1057) → ∃ M', X11_asks_J137 (if b = true then 1 else 0) M4 = some M' ∧ AK (tau M j t) (zet M j t) (M.1 52 j 1057) M' ∧ SameA M M' := by
    intro b hb
    unfold X11_asks_J137
    rw [gG_t (by cases b <;> decide), gLet_e]
    generalize hM5 : wI M4 50 0 31 (if b = true then 1 else 0) = M5
    have a5 : SameA M M5 := by rw [← hM5]; exact a4.tr (SameA.w (Or.inr ⟨rfl, rfl, Or.inr rfl⟩))
    have r5 : M5.1 50 0 28 = trA (tau M j t) ∧ M5.1 50 0 31 = if b = true then 1 else 0 := by
      rw [← hM5]
      exact ⟨by rw [r1_wI, if_neg (by omega)]; exact r4, by rw [r1_wI, if_pos ⟨rfl, rfl, rfl⟩]⟩
    have c5 : ∀ k, k < 3 → M5.1 52 12 k = tau M j t (2 * k) ∧ M5.1 52 13 k = tau M j t (2 * k + 1) ∧ M5.1 52 14 k = zet M j t k := by
      intro k hk
      rw [← hM5]
      exact c4 k hk
    rw [r5.1]
    by_cases hneg : trA (tau M j t) < 0
    · rw [if_pos hneg, x11_swaps (Or.inl rfl), bind_e, x11_swaps (Or.inr (Or.inl rfl)), bind_e, x11_swaps (Or.inr (Or.inr rfl)), bind_e]
      refine ⟨_, rfl, ⟨fun k hk => ?_, ?_, ?_⟩, ?_⟩
      · have tp : trP (tau M j t) 0 = 0 ∧ trP (tau M j t) 1 = 2 ∧ trP (tau M j t) 2 = 1 := by
          unfold trP
          rw [if_pos hneg, if_pos hneg, if_pos hneg]
          exact ⟨rfl, rfl, rfl⟩
        rcases (show k = 0 ∨ k = 1 ∨ k = 2 by omega) with rfl | rfl | rfl
        · simp [r1_wI, tx, ty, tp, c5 0 (by decide)]
        · simp [r1_wI, tx, ty, tp, c5 2 (by decide)]
        · simp [r1_wI, tx, ty, tp, c5 1 (by decide)]
      · simp [r1_wI, r5.1]
      · simp [r1_wI, r5.2, hb]
      · exact a5.tr (((((SameA.w (Or.inl ⟨rfl, Or.inl rfl⟩)).tr (SameA.w (Or.inl ⟨rfl, Or.inl rfl⟩))).tr ((SameA.w (Or.inl ⟨rfl, Or.inr (Or.inl rfl)⟩)).tr (SameA.w (Or.inl ⟨rfl, Or.inr (Or.inl rfl)⟩))))).tr ((SameA.w (Or.inl ⟨rfl, Or.inr (Or.inr rfl)⟩)).tr (SameA.w (Or.inl ⟨rfl, Or.inr (Or.inr rfl)⟩))))
    · rw [if_neg hneg]
      have tp : ∀ k, trP (tau M j t) k = k := by
        intro k
        unfold trP
        rw [if_neg hneg]
      refine ⟨M5, rfl, ⟨fun k hk => ?_, r5.1, by rw [r5.2, hb]⟩, a5⟩
      unfold tx ty
      rw [tp]
      exact c5 k hk
  rw [r4]
  have hcu : M4.1 52 j 1057 = M.1 52 j 1057 := a4.2 52 j 1057 (by omega)
  have k57 : (1057 : Int32).toNatClampNeg = 1057 := by decide
  have f1 : cul (trA (tau M j t)) (M.1 52 j 1057) = true → ∃ M', X11_asks_J132 M4 = some M' ∧ AK (tau M j t) (zet M j t) (M.1 52 j 1057) M' ∧ SameA M M' := fun h => fin true h.symm
  have f0 : cul (trA (tau M j t)) (M.1 52 j 1057) = false → ∃ M', X11_asks_J136 M4 = some M' ∧ AK (tau M j t) (zet M j t) (M.1 52 j 1057) M' ∧ SameA M M' := fun h => fin false h.symm
  generalize hA : trA (tau M j t) = A at *
  generalize hC : M.1 52 j 1057 = Cu at *
  have j16 : (¬ A = 0) → (Cu = 1 → ¬ A < 0) → ∃ M', X11_asks_J116 j M4 = some M' ∧ AK (tau M j t) (zet M j t) Cu M' ∧ SameA M M' := by
    intro h1 h2
    unfold X11_asks_J116
    rw [hl, gG_t (by decide), k57, hcu, r4]
    by_cases h3 : Cu = 2
    · rw [if_pos h3]
      by_cases h4 : A ≤ 0
      · rw [if_pos h4]
        exact f0 (by unfold cul; rw [decide_eq_false h1, decide_eq_false (fun z => absurd (h3.symm.trans z) (by decide)), decide_eq_false (Int32.not_lt.mpr h4)]; simp)
      · rw [if_neg h4]
        exact f1 (by unfold cul; rw [decide_eq_true h3, decide_eq_true (Int32.not_le.mp h4)]; simp)
    · rw [if_neg h3]
      exact f0 (by
        unfold cul
        rw [decide_eq_false h1, decide_eq_false h3]
        by_cases h5 : Cu = 1
        · rw [decide_eq_false (h2 h5)]
          simp
        · rw [decide_eq_false h5]
          simp)
  rw [nI_0]
  by_cases h1 : A = 0
  · rw [if_pos h1]
    exact f1 (by unfold cul; rw [decide_eq_true h1]; rfl)
  · rw [if_neg h1, hl, gG_t (by decide), k57, hcu]
    by_cases h2 : Cu = 1
    · rw [if_pos h2]
      by_cases h3 : A < 0
      · rw [if_pos h3]
        exact f1 (by unfold cul; rw [decide_eq_true h2, decide_eq_true h3]; simp)
      · rw [if_neg h3]
        exact j16 h1 (fun _ => h3)
    · rw [if_neg h2]
      exact j16 h1 (fun z => absurd z h2)
