/-! the class fits a shape: all of it -/
def OQ (Q : Nat → Nat → Nat → Prop) (M M' : gM) : Prop := M'.2 = M.2 ∧ ∀ a b c, ¬ Q a b c → M'.1 a b c = M.1 a b c
theorem OQ.rf (Q : Nat → Nat → Nat → Prop) (M : gM) : OQ Q M M := ⟨rfl, fun _ _ _ _ => rfl⟩
theorem OQ.tr {Q : Nat → Nat → Nat → Prop} {M M' M'' : gM} (h : OQ Q M M') (h' : OQ Q M' M'') : OQ Q M M'' := ⟨h'.1.trans h.1, fun a b c hn => (h'.2 a b c hn).trans (h.2 a b c hn)⟩
theorem OQ.w {Q : Nat → Nat → Nat → Prop} {M M' : gM} (h : OQ Q M M') {r i k : Nat} {v : Int32} (hq : Q r i k) : OQ Q M (wI M' r i k v) := ⟨h.1, fun a b c hn => by
  rw [r1_wI, if_neg]
  · exact h.2 a b c hn
  · rintro ⟨rfl, rfl, rfl⟩
    exact hn hq⟩
theorem OQ.mono {Q Q' : Nat → Nat → Nat → Prop} {M M' : gM} (h : OQ Q M M') (hq : ∀ a b c, Q a b c → Q' a b c) : OQ Q' M M' := ⟨h.1, fun a b c hn => h.2 a b c (fun z => hn (hq a b c z))⟩
theorem Only.q {r i : Nat} {M M' : gM} (h : Only r i M M') : OQ (fun a b _ => a = r ∧ b = i) M M' := h
theorem x6_fillT {i W H T K : Nat} {τ : Nat → Int32} {M : gM} (hd : dOk W H T K) (hg : GD W H T K M) (ht : ∀ k, k < 6 → M.1 20 i k = τ k) (h : SHe i τ M) (ha : M.1 19 i 2 = trA τ) :
    ∃ M', X6_fillTouched i M = some M' ∧ OQ (fun a b c => a = 19 ∧ b = i ∧ c = 5) M M' ∧ M'.1 19 i 5 = bts (trT W H T τ) (tN W H T) := by
  have hN := hd.N
  obtain ⟨M', e1, h1, h2⟩ := gI1_FU (step := fun s => X6_fillTouched_L7 i s.1 s.2) (fun k (M' : gM) => (nI k, M')) (fun k M' => OQ (fun a b c => a = 19 ∧ b = i ∧ c = 5) M M' ∧ M'.1 19 i 5 = bts (trT W H T τ) k) (fun M' => OQ (fun a b c => a = 19 ∧ b = i ∧ c = 5) M M' ∧ M'.1 19 i 5 = bts (trT W H T τ) (tN W H T)) 0 (tN W H T) (Nat.zero_le _) (by omega)
    (fun k M' hk hI => by
      obtain ⟨hI1, hI2⟩ := hI
      have g : ∀ a b c, ¬ (a = 19 ∧ b = i ∧ c = 5) → M'.1 a b c = M.1 a b c := hI1.2
      have hS : SHe i τ M' := fun e he => by
        rw [g 21 i e (by omega), g 22 i e (by omega), g 23 i e (by omega), g 24 i e (by omega)]
        exact h e he
      have hSa : M'.1 19 i 2 = trA τ := by rw [g 19 i 2 (by omega)]; exact ha
      have hSt : ∀ k, k < 6 → M'.1 20 i k = τ k := fun k hk => by rw [g 20 i k (by omega)]; exact ht k hk
      have hg' : GD W H T K M' := by
        unfold GD
        rw [g 12 0 0 (by omega), g 12 0 1 (by omega), g 12 0 2 (by omega), g 12 0 3 (by omega), g 12 0 4 (by omega), g 12 0 5 (by omega), g 12 0 6 (by omega)]
        exact hg
      have hf := hd.t hk
      have d1 := hd.1
      have d2 := hd.2.1
      show ∃ x', X6_fillTouched_L7 i (nI k) M' = _ ∧ _
      unfold X6_fillTouched_L7
      rw [hg'.2.2.2.2.2.1, if_neg (nI_ge hk (by omega)), x1_left hd hg' (by omega), bind_e, x1_right hd hg' (by omega), x1_top hd hg' (by omega), x1_bottom hd hg' (by omega), nlit 8, nI_mul, gLet_e, bind_e, nI_mul, gLet_e, bind_e, nI_mul, gLet_e, bind_e, nI_mul, gLet_e, ← nI_0, x6_bsd hSt (by decide), bind_e, nlit 1, x6_bsd hSt (by decide)]
      have e8 : ∀ n : Nat, n * 8 = 8 * n := fun n => Nat.mul_comm n 8
      rw [e8, e8, e8, e8]
      have no : ∀ {z}, trT W H T τ k = false → z = gLet (nI k + 1) (fun x2_19 => (some (.inl (x2_19, M')) : Option ((Int32 × gM) ⊕ gM))) → ∃ x', z = some (.inl (nI (k + 1), x')) ∧ OQ (fun a b c => a = 19 ∧ b = i ∧ c = 5) M x' ∧ x'.1 19 i 5 = bts (trT W H T τ) (k + 1) := by
        intro z h1 h2
        refine ⟨M', by rw [h2, gLet_e, nI_1], hI1, ?_⟩
        rw [hI2]
        show _ = if trT W H T τ k = true then _ else _
        rw [h1, if_neg (by decide)]
      have j77 : ∀ a b c d : Int32, trT W H T τ k = false → ∃ x', X6_fillTouched_J77 i (nI k) a b c d M' = some (.inl (nI (k + 1), x')) ∧ OQ (fun a b c => a = 19 ∧ b = i ∧ c = 5) M x' ∧ x'.1 19 i 5 = bts (trT W H T τ) (k + 1) := by
        intro a b c d h1
        unfold X6_fillTouched_J77 X6_fillTouched_J82
        split
        · exact no h1 rfl
        · rw [if_neg (by decide)]
          exact no h1 rfl
      cases hb1 : bsd (τ 0) (τ (2 + 0)) (τ (4 + 0)) (nI (8 * tL W T k)) (nI (8 * tR W T k)) with
      | true =>
        rw [if_pos rfl, if_neg (by decide)]
        exact j77 _ _ _ _ (by unfold trT; rw [show bsd (τ 0) (τ 2) (τ 4) (nI (8 * tL W T k)) (nI (8 * tR W T k)) = true from hb1]; simp)
      | false =>
        rw [if_pos (by decide), bind_e]
        cases hb2 : bsd (τ 1) (τ (2 + 1)) (τ (4 + 1)) (nI (8 * tU W T k)) (nI (8 * tD W H T k)) with
        | true =>
          rw [if_pos rfl, if_neg (by decide)]
          exact j77 _ _ _ _ (by unfold trT; rw [show bsd (τ 1) (τ 3) (τ 5) (nI (8 * tU W T k)) (nI (8 * tD W H T k)) = true from hb2]; simp)
        | false =>
          rw [if_pos (by decide)]
          unfold X6_fillTouched_J82
          rw [hSa]
          by_cases hA : trA τ = 0
          · rw [if_pos hA]
            exact no (by unfold trT; rw [decide_eq_false (fun z => z hA)]; rfl) rfl
          · rw [if_neg hA, if_pos nI_0, x6_out hS, bind_e]
            cases ho : outs τ (nI (8 * tL W T k)) (nI (8 * tR W T k)) (nI (8 * tU W T k)) (nI (8 * tD W H T k)) with
            | true =>
              rw [if_pos rfl, if_neg (by decide)]
              exact no (by unfold trT; rw [ho]; simp) rfl
            | false =>
              rw [if_pos (by decide)]
              have hT : trT W H T τ k = true := by
                unfold trT
                rw [decide_eq_true hA, ho, show bsd (τ 0) (τ 2) (τ 4) (nI (8 * tL W T k)) (nI (8 * tR W T k)) = false from hb1, show bsd (τ 1) (τ 3) (τ 5) (nI (8 * tU W T k)) (nI (8 * tD W H T k)) = false from hb2]
                rfl
              refine ⟨wI M' 19 i 5 (M'.1 19 i 5 ||| ((1 : Int32) <<< (nI k &&& 31))), by rw [gLet_e, gLet_e, nI_1], hI1.w ⟨rfl, rfl, rfl⟩, ?_⟩
              rw [r1_wI, if_pos ⟨rfl, rfl, rfl⟩, hI2]
              show _ = if trT W H T τ k = true then _ else _
              rw [hT, if_pos rfl])
    (fun M' hI => ⟨M', by
      show X6_fillTouched_L7 i (nI (tN W H T)) M' = _
      unfold X6_fillTouched_L7
      rw [hI.1.2 12 0 5 (by omega), hg.2.2.2.2.2.1, if_pos (nI_le (Nat.le_refl _) (by omega))], hI⟩) (wI M 19 i 5 0) ⟨(OQ.rf _ _).w ⟨rfl, rfl, rfl⟩, by rw [r1_wI, if_pos ⟨rfl, rfl, rfl⟩]; rfl⟩
  refine ⟨M', ?_, h1, h2⟩
  unfold X6_fillTouched
  rw [gLet_e]
  show (gIter (fun s => X6_fillTouched_L7 i s.1 s.2) FU (nI 0, wI M 19 i 5 0)).bind _ = _
  rw [e1]
  rfl
theorem x6_edge {i e a b : Nat} {τ : Nat → Int32} {M : gM} (ht : ∀ k, k < 6 → M.1 20 i k = τ k) (he : e < 3) (ha : a < 3) (hb : b < 3) (ea : a = trP τ e) (eb : b = trP τ (nx e)) :
    ∃ M', X6_layEdge i (nI e) (nI a) (nI b) M = some M' ∧ OQ (fun r j c => (r = 21 ∨ r = 22 ∨ r = 23 ∨ r = 24) ∧ j = i ∧ c = e) M M' ∧ M'.1 21 i e = ty τ e - ty τ (nx e) ∧ M'.1 22 i e = tx τ (nx e) - tx τ e ∧ M'.1 23 i e = ((ty τ (nx e) - ty τ e) * tx τ e) - ((tx τ (nx e) - tx τ e) * ty τ e) ∧ M'.1 24 i e = if trH τ e = true then 0 else 1 := by
  have k1 : τ (a * 2) = tx τ e := by unfold tx; rw [ea, Nat.mul_comm]
  have k2 : τ (a * 2 + 1) = ty τ e := by unfold ty; rw [ea, Nat.mul_comm]
  have k3 : τ (b * 2) = tx τ (nx e) := by unfold tx; rw [eb, Nat.mul_comm]
  have k4 : τ (b * 2 + 1) = ty τ (nx e) := by unfold ty; rw [eb, Nat.mul_comm]
  unfold X6_layEdge
  rw [nlit 2, nI_mul, nI_mul, nI_1, nI_1, gG_t (gin_n (by omega) (by decide)), gLet_e, gG_t (gin_n (by omega) (by decide)), gLet_e, gG_t (gin_n (by omega) (by decide)), gLet_e, gG_t (gin_n (by omega) (by decide)), gLet_e, gG_t (gin_n he (by decide)), gLet_e, gG_t (gin_n he (by decide)), gLet_e, gG_t (gin_n he (by decide)), gLet_e, nI_clamp (n := a * 2) (by omega), nI_clamp (n := a * 2 + 1) (by omega), nI_clamp (n := b * 2) (by omega), nI_clamp (n := b * 2 + 1) (by omega), nI_clamp (n := e) (by omega), ht _ (by omega), ht _ (by omega), ht _ (by omega), ht _ (by omega), k1, k2, k3, k4]
  generalize hM1 : wI (wI (wI M 21 i e (ty τ e - ty τ (nx e))) 22 i e (tx τ (nx e) - tx τ e)) 23 i e (((ty τ (nx e) - ty τ e) * tx τ e) - ((tx τ (nx e) - tx τ e) * ty τ e)) = M1
  have fin : ∀ v : Int32, v = (if trH τ e = true then 0 else 1) → ∃ M', some (wI M1 24 i e v) = some M' ∧ OQ (fun r j c => (r = 21 ∨ r = 22 ∨ r = 23 ∨ r = 24) ∧ j = i ∧ c = e) M M' ∧ M'.1 21 i e = ty τ e - ty τ (nx e) ∧ M'.1 22 i e = tx τ (nx e) - tx τ e ∧ M'.1 23 i e = ((ty τ (nx e) - ty τ e) * tx τ e) - ((tx τ (nx e) - tx τ e) * ty τ e) ∧ M'.1 24 i e = if trH τ e = true then 0 else 1 := by
    intro v hv
    refine ⟨_, rfl, ?_, ?_, ?_, ?_, ?_⟩
    · rw [← hM1]
      exact ((((OQ.rf _ _).w ⟨Or.inl rfl, rfl, rfl⟩).w ⟨Or.inr (Or.inl rfl), rfl, rfl⟩).w ⟨Or.inr (Or.inr (Or.inl rfl)), rfl, rfl⟩).w ⟨Or.inr (Or.inr (Or.inr rfl)), rfl, rfl⟩
    · rw [← hM1]
      simp [r1_wI]
    · rw [← hM1]
      simp [r1_wI]
    · rw [← hM1]
      simp [r1_wI]
    · rw [r1_wI, if_pos ⟨rfl, rfl, rfl⟩, hv]
  have j103 : ¬ (ty τ e = ty τ (nx e) ∧ tx τ e < tx τ (nx e)) → ∃ M', X6_layEdge_J103 i (nI e) (ty τ e) (ty τ (nx e)) M1 = some M' ∧ OQ (fun r j c => (r = 21 ∨ r = 22 ∨ r = 23 ∨ r = 24) ∧ j = i ∧ c = e) M M' ∧ M'.1 21 i e = ty τ e - ty τ (nx e) ∧ M'.1 22 i e = tx τ (nx e) - tx τ e ∧ M'.1 23 i e = ((ty τ (nx e) - ty τ e) * tx τ e) - ((tx τ (nx e) - tx τ e) * ty τ e) ∧ M'.1 24 i e = if trH τ e = true then 0 else 1 := by
    intro hn
    unfold X6_layEdge_J103
    by_cases h1 : ty τ e ≤ ty τ (nx e)
    · rw [if_pos h1, gG_t (gin_n he (by decide)), gLet_e, nI_clamp (by omega)]
      refine fin _ ?_
      rw [if_neg]
      unfold trH
      by_cases h2 : ty τ e = ty τ (nx e)
      · rw [if_pos h2]
        simp only [decide_eq_true_eq]
        exact fun z => hn ⟨h2, z⟩
      · rw [if_neg h2]
        simp only [decide_eq_true_eq]
        exact Int32.not_lt.mpr h1
    · rw [if_neg h1, gG_t (gin_n he (by decide)), gLet_e, nI_clamp (by omega)]
      refine fin _ ?_
      rw [if_pos]
      unfold trH
      have h3 : ty τ (nx e) < ty τ e := Int32.not_le.mp h1
      rw [if_neg (fun z => h1 (by rw [z]; exact Int32.le_refl _))]
      simp only [decide_eq_true_eq]
      exact h3
  by_cases h1 : ty τ e = ty τ (nx e)
  · rw [if_pos h1]
    by_cases h2 : tx τ e < tx τ (nx e)
    · rw [if_pos h2, gG_t (gin_n he (by decide)), gLet_e]
      refine fin _ ?_
      rw [if_pos]
      unfold trH
      rw [if_pos h1]
      simp only [decide_eq_true_eq]
      exact h2
    · rw [if_neg h2]
      exact j103 (fun z => h2 z.2)
  · rw [if_neg h1]
    exact j103 (fun z => h1 z.1)
