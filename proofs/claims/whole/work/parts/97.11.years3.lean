/-! two counted loops that may end early; years as a call -/
theorem gI2x {σ τ ε δ β γ : Type} {s1 : σ → Option (σ ⊕ ε)} {s2 : τ → Option (τ ⊕ δ)} (mk1 : Nat → β → σ) (mk2 : Nat → γ → τ) (R : Nat → β → γ → Prop) (K : ε → δ → Prop) (b : Nat)
    (hs : ∀ k x y, k < b → R k x y → (∃ x' y', s1 (mk1 k x) = some (.inl (mk1 (k + 1) x')) ∧ s2 (mk2 k y) = some (.inl (mk2 (k + 1) y')) ∧ R (k + 1) x' y') ∨ ∃ e d, s1 (mk1 k x) = some (.inr e) ∧ s2 (mk2 k y) = some (.inr d) ∧ K e d)
    (he : ∀ x y, R b x y → ∃ e d, s1 (mk1 b x) = some (.inr e) ∧ s2 (mk2 b y) = some (.inr d) ∧ K e d) :
    ∀ (n a m : Nat) (x : β) (y : γ), a + n = b → n < m → R a x y → ∃ e d, gIter s1 m (mk1 a x) = some e ∧ gIter s2 m (mk2 a y) = some d ∧ K e d := by
  intro n
  induction n with
  | zero =>
    intro a m x y ha hm hp
    have e : a = b := by omega
    subst e
    obtain ⟨m, rfl⟩ : ∃ j, m = j + 1 := ⟨m - 1, by omega⟩
    obtain ⟨e, d, h1, h2, h3⟩ := he x y hp
    exact ⟨e, d, by unfold gIter; rw [h1], by unfold gIter; rw [h2], h3⟩
  | succ n ih =>
    intro a m x y ha hm hp
    obtain ⟨m, rfl⟩ : ∃ j, m = j + 1 := ⟨m - 1, by omega⟩
    rcases hs a x y (by omega) hp with ⟨x', y', h1, h2, h3⟩ | ⟨e, d, h1, h2, h3⟩
    · obtain ⟨e, d, h4, h5, h6⟩ := ih (a + 1) m x' y' (by omega) (by omega) h3
      exact ⟨e, d, by unfold gIter; rw [h1]; exact h4, by unfold gIter; rw [h2]; exact h5, h6⟩
    · exact ⟨e, d, by unfold gIter; rw [h1], by unfold gIter; rw [h2], h3⟩
theorem gI2x_FU {σ τ ε δ β γ : Type} {s1 : σ → Option (σ ⊕ ε)} {s2 : τ → Option (τ ⊕ δ)} (mk1 : Nat → β → σ) (mk2 : Nat → γ → τ) (R : Nat → β → γ → Prop) (K : ε → δ → Prop) (a b : Nat) (hab : a ≤ b) (hb : b < 5000)
    (hs : ∀ k x y, k < b → R k x y → (∃ x' y', s1 (mk1 k x) = some (.inl (mk1 (k + 1) x')) ∧ s2 (mk2 k y) = some (.inl (mk2 (k + 1) y')) ∧ R (k + 1) x' y') ∨ ∃ e d, s1 (mk1 k x) = some (.inr e) ∧ s2 (mk2 k y) = some (.inr d) ∧ K e d)
    (he : ∀ x y, R b x y → ∃ e d, s1 (mk1 b x) = some (.inr e) ∧ s2 (mk2 b y) = some (.inr d) ∧ K e d) (x : β) (y : γ) (hp : R a x y) : ∃ e d, gIter s1 FU (mk1 a x) = some e ∧ gIter s2 FU (mk2 a y) = some d ∧ K e d :=
  gI2x mk1 mk2 R K b hs he (b - a) a FU x y (by omega) (FU_gt (by omega)) hp
section YR3
variable {n W H T K i j k t m nf nf' : Nat} {M M' Mx Mm Mx' Mm' X Y M9 : gM} {p p1 p2 p3 p4 v r x1 x4 : Int32} {u : Int64}
theorem CX.rf : CX Mx Mx := ⟨fun _ _ _ _ => rfl, fun _ _ _ _ => rfl⟩
theorem CM.rf : CM Mm Mm := ⟨fun _ _ _ _ => rfl, fun _ _ _ _ => rfl⟩
theorem SN.has (h : SN m nf n W H T K Mx Mm) : X10_hasScene Mx = some 1 := by
  have hn := h.1.1.2.1
  unfold X10_hasScene
  rw [h.1.1.2.2.1.2.2.2.2, if_neg (show ¬ nI n ≤ (0 : Int32) from nI_ge (a := 0) (b := n) (by omega) (by omega))]
def YR (m nf n W H T K : Nat) (Mx Mm : gM) (k : Nat) (x : Nat × gM) (y : gM) : Prop := nf ≤ x.1 ∧ x.1 ≤ 40 ∧ SN (m + k) x.1 n W H T K x.2 y ∧ ST x.2 y ∧ sdE x.2 y ∧ CX Mx x.2 ∧ CM Mm y
theorem j_yearsL {y : Nat} (hy : y ≤ 40) (hm : m + 40 < 100000) (hnf : nf ≤ 40) (h : SN m nf n W H T K Mx Mm) (hs : ST Mx Mm) (sd : sdE Mx Mm) :
    ∃ nf' Mx' Mm', gIter (fun s => X10_years_L28 (nI y) s.1 s.2.1 s.2.2) FU (0, nf, Mx) = some (nf', Mx') ∧ gIter (fun s => X11_years_L34 (nI y) s.1 s.2) FU (0, Mm) = some Mm' ∧ YR m nf n W H T K Mx Mm y (nf', Mx') Mm' := by
  obtain ⟨e, d, e1, e2, e3⟩ := gI2_FU (s1 := fun s : Int32 × Nat × gM => X10_years_L28 (nI y) s.1 s.2.1 s.2.2) (s2 := fun s : Int32 × gM => X11_years_L34 (nI y) s.1 s.2) (fun k (x : Nat × gM) => (nI k, x.1, x.2)) (fun k (x : gM) => (nI k, x)) (YR m nf n W H T K Mx Mm) (YR m nf n W H T K Mx Mm y) 0 y (by omega) (by omega)
    (fun k x z hk hR => by
      obtain ⟨r1, r2, r3, r4, r5, r6, r7⟩ := hR
      obtain ⟨nf', X', Y', g1, g2, g3, g4, g5, g6, g7, g8, g9⟩ := j_hap (by omega) r2 r3 r4 r5
      refine ⟨(nf', X'), Y', ?_, ?_, Nat.le_trans r1 g3, g4, g5, g6, g7, r6.tr g8, r7.tr g9⟩
      · show X10_years_L28 (nI y) (nI k) x.1 x.2 = _
        rw [g1 _ _ (nI_ge hk (by omega)), nI_1]
      · show X11_years_L34 (nI y) (nI k) z = _
        unfold X11_years_L34
        rw [if_neg (nI_ge hk (by omega)), g2, bind_e, gLet_e, nI_1])
    (fun x z hR => ⟨x, z, by
      show X10_years_L28 (nI y) (nI y) x.1 x.2 = _
      unfold X10_years_L28
      rw [if_pos (nI_le (Nat.le_refl _) (by omega))], by
      show X11_years_L34 (nI y) (nI y) z = _
      unfold X11_years_L34
      rw [if_pos (nI_le (Nat.le_refl _) (by omega))], hR⟩) (nf, Mx) Mm ⟨Nat.le_refl _, hnf, h, hs, sd, CX.rf, CM.rf⟩
  exact ⟨e.1, e.2, d, e1, e2, e3⟩
theorem j_yearsO (hm : m + 40 < 100000) (hnf : nf ≤ 40) (h : SN m nf n W H T K Mx Mm) (hs : ST Mx Mm) : ∃ r nf' Mx' Mm', X10_years nf p u Mx = some (r, nf', Mx') ∧ X11_years p u Mm = some (r, Mm') ∧ nf ≤ nf' ∧ nf' ≤ 40 ∧ SN (m + 40) nf' n W H T K Mx' Mm' ∧ ST Mx' Mm' ∧ CX Mx Mx' ∧ CM Mm Mm' := by
  have hn := h.1.1.2.1
  have h0 := h.t0 (v := 0)
  have hs0 := hs.t0 (v := 0)
  have a1 : (1 : Int32).toInt = 1 := rfl
  have a40 : (40 : Int32).toInt = 40 := rfl
  have b1 : (1 : Int64).toInt = 1 := rfl
  have b40 : (40 : Int64).toInt = 40 := rfl
  unfold X10_years X11_years
  rw [h.has, bind_e, if_neg (show ¬ (1 : Int32) = 0 by decide), gLet_e (wI Mm 50 0 0 0), if_neg h0.n0.2, x11_isIn, b1, b40, bind_e]
  by_cases h1 : p < 1
  · have := Int32.lt_iff_toInt_lt.mp h1
    rw [if_pos h1, if_neg (show ¬ (1 ≤ p.toInt ∧ p.toInt ≤ 40) by omega), if_pos rfl]
    exact ⟨-1, nf, Mx, _, rfl, rfl, Nat.le_refl _, hnf, h0.mono (by omega), hs0, CX.rf, CM.t0⟩
  · have g1 := Int32.le_iff_toInt_le.mp (Int32.not_lt.mp h1)
    rw [if_neg h1]
    by_cases h2 : p ≤ 40
    · have g2 := Int32.le_iff_toInt_le.mp h2
      have ep : p = nI p.toInt.toNat := Int32.toInt_inj.mp (by rw [nI_toInt (by omega)]; omega)
      rw [if_pos h2, if_pos (show 1 ≤ p.toInt ∧ p.toInt ≤ 40 by omega), if_neg (show ¬ (1 : Int32) = 0 by decide)]
      have hy : p.toInt.toNat ≤ 40 := by omega
      generalize p.toInt.toNat = y at ep hy
      subst ep
      have qx : CHS Mx (wL Mx 0 0 15 u) := CHS.rf.l
      have qm : CHM (wI Mm 50 0 0 0) (wL (wI Mm 50 0 0 0) 50 0 32 u) := CHM.rf.l
      obtain ⟨nf', X', Y', e1, e2, r1, r2, r3, r4, -, r6, r7⟩ := j_yearsL hy hm hnf (h0.ch qx qm) (hs0.ch qx qm) sdE.l
      obtain ⟨w1, w2⟩ := j_pairs (Or.inl rfl) (by omega) r3.1.2.1.1.1 r3.1.2.2.2.2.2.2.2
      refine ⟨nI (spc (lt1 0 X') 10), nf', X', Y', ?_, ?_, r1, r2, r3.mono (by omega), r4, qx.cx.tr r6, (CM.t0.tr qm.cm).tr r7⟩
      · rw [gLet_e, e1, bind_e, gU2_e, w1]
        rfl
      · rw [gLet_e, e2, bind_e, w2]
        rfl
    · have g2 := Int32.lt_iff_toInt_lt.mp (Int32.not_le.mp h2)
      rw [if_neg h2, if_neg (show ¬ (1 ≤ p.toInt ∧ p.toInt ≤ 40) by omega), if_pos rfl]
      exact ⟨-1, nf, Mx, _, rfl, rfl, Nat.le_refl _, hnf, h0.mono (by omega), hs0, CX.rf, CM.t0⟩
end YR3
