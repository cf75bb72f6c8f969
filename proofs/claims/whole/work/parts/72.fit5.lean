theorem x6_fitTo {t f W H T K : Nat} {τ ζ : Nat → Int32} {pat col : Int32} {M : gM} (hd : dOk W H T K) (hg : GD W H T K M) (ho : GO W H T K M) (hp : GP W H K M) (hc : cb τ) (htn : t < 10) (hpt : pat = 0 ∨ pat = 1 ∨ pat = 2 ∨ pat = 3)
    (hz : ∀ k, k < 3 → M.1 10 1 (3 * t + k) = ζ k) (h7 : M.1 7 1 t = pat) (h8 : M.1 8 1 t = col) (hτ : ∀ k, k < 6 → M.1 39 f (6 * t + k) = τ k) (hτ6 : ∀ k, 6 ≤ k → τ k = 0) (hF : M.1 19 t 1 = 0 ∨ ∃ τ', (∀ k, 6 ≤ k → τ' k = 0) ∧ SH W H T K t τ' ζ pat col M) :
    ∃ M', X6_fitTo t 1 (nI t) f M = some M' ∧ OQ (shQ t) M M' ∧ SH W H T K t τ ζ pat col M' := by
  obtain ⟨⟨sm, M1⟩, e1, o1, v1, x1, w1⟩ := gI1_FU (step := fun s => X6_fitTo_L9 t 1 (nI t) f s.1 s.2.1 s.2.2) (fun k (q : Int32 × gM) => (q.1, nI k, q.2)) (fun k q => OQ (fun a b _ => a = 20 ∧ b = t) M q.2 ∧ (∀ j, j < k → q.2.1 20 t j = τ j) ∧ (∀ j, k ≤ j → q.2.1 20 t j = M.1 20 t j) ∧ (q.1 = 0 ∨ (¬ M.1 19 t 1 = 0 ∧ ∀ j, j < k → M.1 20 t j = τ j))) (fun q => OQ (fun a b _ => a = 20 ∧ b = t) M q.2 ∧ (∀ j, j < 6 → q.2.1 20 t j = τ j) ∧ (∀ j, 6 ≤ j → q.2.1 20 t j = M.1 20 t j) ∧ (q.1 = 0 ∨ (¬ M.1 19 t 1 = 0 ∧ ∀ j, j < 6 → M.1 20 t j = τ j))) 0 6 (by decide) (by decide)
    (fun k q hk hI => by
      obtain ⟨s, M'⟩ := q
      obtain ⟨i1, i2, i3, i4⟩ := hI
      show ∃ x', X6_fitTo_L9 t 1 (nI t) f s (nI k) M' = _ ∧ _
      have hv : M'.1 39 f (6 * t + k) = τ k := by
        have := i1.2 39 f (6 * t + k) (by omega)
        exact this.trans (hτ k hk)
      have st : ∀ b : Int32, (b = 0 ∨ (¬ M.1 19 t 1 = 0 ∧ ∀ j, j < k + 1 → M.1 20 t j = τ j)) → OQ (fun a b _ => a = 20 ∧ b = t) M (wI M' 20 t k (τ k)) ∧ (∀ j, j < k + 1 → (wI M' 20 t k (τ k)).1 20 t j = τ j) ∧ (∀ j, k + 1 ≤ j → (wI M' 20 t k (τ k)).1 20 t j = M.1 20 t j) ∧ (b = 0 ∨ (¬ M.1 19 t 1 = 0 ∧ ∀ j, j < k + 1 → M.1 20 t j = τ j)) := by
        intro b hb
        refine ⟨i1.w ⟨rfl, rfl⟩, fun j hj => ?_, fun j hj => ?_, hb⟩
        · rw [r1_wI]
          by_cases he : j = k
          · rw [if_pos ⟨rfl, rfl, he⟩, he]
          · rw [if_neg (fun z => he z.2.2)]
            exact i2 j (by omega)
        · rw [r1_wI, if_neg (by omega)]
          exact i3 j (by omega)
      unfold X6_fitTo_L9
      rw [nlit 6, if_neg (nI_ge hk (by decide)), nI_mul, nI_add, gG_t (gin_n (by omega) (by decide)), gLet_e, nI_clamp (n := t * 6 + k) (by omega), nI_clamp (n := k) (by omega), show t * 6 + k = 6 * t + k by omega, hv]
      by_cases hs : s = 0
      · rw [if_pos hs, gG_t (gin_n hk (by decide)), gLet_e, gLet_e, nI_1]
        exact ⟨(0, wI M' 20 t k (τ k)), rfl, st 0 (Or.inl rfl)⟩
      · rw [if_neg hs, gG_t (gin_n hk (by decide))]
        by_cases he : M'.1 20 t k = τ k
        · rw [if_pos he, gG_t (gin_n hk (by decide)), gLet_e, gLet_e, nI_1]
          refine ⟨(1, wI M' 20 t k (τ k)), rfl, st 1 (Or.inr ⟨(i4.resolve_left hs).1, fun j hj => ?_⟩)⟩
          by_cases hjk : j = k
          · rw [hjk, ← i3 k (Nat.le_refl k)]
            exact he
          · exact (i4.resolve_left hs).2 j (by omega)
        · rw [if_neg he, gG_t (gin_n hk (by decide)), gLet_e, gLet_e, nI_1]
          exact ⟨(0, wI M' 20 t k (τ k)), rfl, st 0 (Or.inl rfl)⟩)
    (fun q hI => ⟨q, by
      show X6_fitTo_L9 t 1 (nI t) f q.1 (nI 6) q.2 = _
      unfold X6_fitTo_L9
      rw [nlit 6, if_pos (nI_le (Nat.le_refl 6) (by decide))], hI.1, hI.2.1, hI.2.2.1, hI.2.2.2⟩) (M.1 19 t 1, M) ⟨OQ.rf _ _, fun j hj => absurd hj (Nat.not_lt_zero j), fun _ _ => rfl, by
        by_cases h0 : M.1 19 t 1 = 0
        · exact Or.inl h0
        · exact Or.inr ⟨h0, fun j hj => absurd hj (Nat.not_lt_zero j)⟩⟩
  have o1 : OQ (fun a b _ => a = 20 ∧ b = t) M M1 := o1
  have v1 : ∀ j, j < 6 → M1.1 20 t j = τ j := v1
  have w1 : sm = 0 ∨ (¬ M.1 19 t 1 = 0 ∧ ∀ j, j < 6 → M.1 20 t j = τ j) := w1
  have q1 : OQ (shQ t) M M1 := o1.mono (fun a b c z => ⟨by omega, by omega, z.2⟩)
  unfold X6_fitTo
  rw [gLet_e]
  show ∃ M', (gIter (fun s => X6_fitTo_L9 t 1 (nI t) f s.1 s.2.1 s.2.2) FU (M.1 19 t 1, nI 0, M)).bind _ = some M' ∧ _
  rw [e1, bind_e, gU2_e]
  by_cases hs : sm = 0
  · rw [if_pos hs, gLet_e, gLet_e]
    generalize hM2 : wI M1 19 t 1 1 = M2
    have t2 : ∀ k, k < 6 → M2.1 20 t k = τ k := fun k hk => by rw [← hM2, r1_wI, if_neg (by omega)]; exact v1 k hk
    have hA : (((M2.1 20 t 2) - (M2.1 20 t 0)) * ((M2.1 20 t 5) - (M2.1 20 t 1))) - (((M2.1 20 t 3) - (M2.1 20 t 1)) * ((M2.1 20 t 4) - (M2.1 20 t 0))) = trA τ := by
      rw [t2 0 (by decide), t2 1 (by decide), t2 2 (by decide), t2 3 (by decide), t2 4 (by decide), t2 5 (by decide)]
      rfl
    rw [hA]
    generalize hM3 : wI M2 19 t 2 (trA τ) = M3
    have q3 : OQ (shQ t) M M3 := by
      rw [← hM3, ← hM2]
      exact (q1.w ⟨by decide, by decide, rfl⟩).w ⟨by decide, by decide, rfl⟩
    have fr : ∀ r c, r < 19 → ∀ b, M3.1 r b c = M.1 r b c := fun r c hr b => q3.2 r b c (by unfold shQ; omega)
    have t3 : ∀ k, k < 6 → M3.1 20 t k = τ k := fun k hk => by rw [← hM3, r1_wI, if_neg (by omega)]; exact t2 k hk
    have f3 : M3.1 19 t 1 = 1 := by rw [← hM3, r1_wI, if_neg (by omega), ← hM2, r1_wI, if_pos ⟨rfl, rfl, rfl⟩]
    have a3 : M3.1 19 t 2 = trA τ := by rw [← hM3, r1_wI, if_pos ⟨rfl, rfl, rfl⟩]
    rw [a3]
    by_cases hn : 0 ≤ trA τ
    · rw [if_pos hn]
      have tp : ∀ k, trP τ k = k := fun k => by unfold trP; rw [if_neg (Int32.not_lt.mpr hn)]
      obtain ⟨M', e2, o2, h2⟩ := x6_fit149 (M := M3) (sec := 1) (thr := 2) (ζ := ζ) (pat := pat) (col := col) hd (gD_of hg (fun c => fr 12 c (by decide) 0)) (gO_of ho (fun c => fr 13 c (by decide) 0) (fun c => fr 14 c (by decide) 0)) (gP_of hp (fun c => fr 15 c (by decide) 0) (fun c => fr 16 c (by decide) 0)) hc htn hpt (fun k hk => by rw [fr 10 _ (by decide) 1]; exact hz k hk) (by rw [fr 7 _ (by decide) 1]; exact h7) (by rw [fr 8 _ (by decide) 1]; exact h8) t3 f3 a3 (tp 1).symm (tp 2).symm (by decide) (tp 0)
      exact ⟨M', e2, q3.tr o2, h2⟩
    · rw [if_neg hn]
      have hlt : trA τ < 0 := Int32.not_le.mp hn
      have tp : trP τ 0 = 0 ∧ trP τ 1 = 2 ∧ trP τ 2 = 1 := by
        unfold trP
        rw [if_pos hlt, if_pos hlt, if_pos hlt]
        exact ⟨rfl, rfl, rfl⟩
      obtain ⟨M', e2, o2, h2⟩ := x6_fit149 (M := M3) (sec := 2) (thr := 1) (ζ := ζ) (pat := pat) (col := col) hd (gD_of hg (fun c => fr 12 c (by decide) 0)) (gO_of ho (fun c => fr 13 c (by decide) 0) (fun c => fr 14 c (by decide) 0)) (gP_of hp (fun c => fr 15 c (by decide) 0) (fun c => fr 16 c (by decide) 0)) hc htn hpt (fun k hk => by rw [fr 10 _ (by decide) 1]; exact hz k hk) (by rw [fr 7 _ (by decide) 1]; exact h7) (by rw [fr 8 _ (by decide) 1]; exact h8) t3 f3 a3 tp.2.1.symm tp.2.2.symm (by decide) tp.1
      exact ⟨M', e2, q3.tr o2, h2⟩
  · rw [if_neg hs]
    have w2 := w1.resolve_left hs
    obtain ⟨τ', hτ', hS⟩ := hF.resolve_left w2.1
    have e : τ' = τ := by
      funext k
      rcases Nat.lt_or_ge k 6 with z | z
      · rw [← hS.1 k z, w2.2 k z]
      · rw [hτ' k z, hτ6 k z]
    subst e
    refine ⟨M1, rfl, q1, hS.keep (fun a c ha hb => ?_)⟩
    by_cases h20 : a = 20
    · subst h20
      rcases Nat.lt_or_ge c 6 with z | z
      · rw [v1 c z, w2.2 c z]
      · exact x1 c z
    · exact o1.2 a t c (by omega)
