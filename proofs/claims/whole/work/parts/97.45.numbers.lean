/-! numbers in a row -/
theorem gI2y {σ τ ε δ β γ : Type} {s1 : σ → Option (σ ⊕ ε)} {s2 : τ → Option (τ ⊕ δ)} (mk1 : Nat → β → σ) (mk2 : Nat → γ → τ) (R : Nat → β → γ → Prop) (K : ε → δ → Prop) (b : Nat)
    (hs : ∀ k x y, k < b → R k x y → (∃ x' y', s1 (mk1 k x) = some (.inl (mk1 (k + 1) x')) ∧ s2 (mk2 k y) = some (.inl (mk2 (k + 1) y')) ∧ R (k + 1) x' y') ∨ (∃ e d, s1 (mk1 k x) = some (.inr e) ∧ s2 (mk2 k y) = some (.inr d) ∧ K e d) ∨ (∃ e y' d, s1 (mk1 k x) = some (.inr e) ∧ s2 (mk2 k y) = some (.inl (mk2 (k + 1) y')) ∧ s2 (mk2 (k + 1) y') = some (.inr d) ∧ K e d))
    (he : ∀ x y, R b x y → ∃ e d, s1 (mk1 b x) = some (.inr e) ∧ s2 (mk2 b y) = some (.inr d) ∧ K e d) :
    ∀ (n a m : Nat) (x : β) (y : γ), a + n = b → n < m → R a x y → ∃ e d, gIter s1 m (mk1 a x) = some e ∧ gIter s2 m (mk2 a y) = some d ∧ K e d := by
  intro n
  induction n with
  | zero =>
    intro a m x y ha hm hp
    have e : a = b := by omega
    subst e
    obtain ⟨m, rfl⟩ : ∃ j, m = j + 1 := ⟨m - 1, by omega⟩
    obtain ⟨e, d, h1, h2, h3⟩ := he x y hp
    exact ⟨e, d, by unfold gIter; rw [h1], by unfold gIter; rw [h2], h3⟩
  | succ n ih =>
    intro a m x y ha hm hp
    obtain ⟨m, rfl⟩ : ∃ j, m = j + 1 + 1 := ⟨m - 2, by omega⟩
    rcases hs a x y (by omega) hp with ⟨x', y', h1, h2, h3⟩ | ⟨e, d, h1, h2, h3⟩ | ⟨e, y', d, h1, h2, h3, h4⟩
    · obtain ⟨e, d, h4, h5, h6⟩ := ih (a + 1) (m + 1) x' y' (by omega) (by omega) h3
      exact ⟨e, d, by unfold gIter; rw [h1]; exact h4, by unfold gIter; rw [h2]; exact h5, h6⟩
    · exact ⟨e, d, by unfold gIter; rw [h1], by unfold gIter; rw [h2], h3⟩
    · refine ⟨e, d, by unfold gIter; rw [h1], gIt_s h2 (gIt_x h3), h4⟩
theorem gI2y_FU {σ τ ε δ β γ : Type} {s1 : σ → Option (σ ⊕ ε)} {s2 : τ → Option (τ ⊕ δ)} (mk1 : Nat → β → σ) (mk2 : Nat → γ → τ) (R : Nat → β → γ → Prop) (K : ε → δ → Prop) (a b : Nat) (hab : a ≤ b) (hb : b < 5000)
    (hs : ∀ k x y, k < b → R k x y → (∃ x' y', s1 (mk1 k x) = some (.inl (mk1 (k + 1) x')) ∧ s2 (mk2 k y) = some (.inl (mk2 (k + 1) y')) ∧ R (k + 1) x' y') ∨ (∃ e d, s1 (mk1 k x) = some (.inr e) ∧ s2 (mk2 k y) = some (.inr d) ∧ K e d) ∨ (∃ e y' d, s1 (mk1 k x) = some (.inr e) ∧ s2 (mk2 k y) = some (.inl (mk2 (k + 1) y')) ∧ s2 (mk2 (k + 1) y') = some (.inr d) ∧ K e d))
    (he : ∀ x y, R b x y → ∃ e d, s1 (mk1 b x) = some (.inr e) ∧ s2 (mk2 b y) = some (.inr d) ∧ K e d) (x : β) (y : γ) (hp : R a x y) : ∃ e d, gIter s1 FU (mk1 a x) = some e ∧ gIter s2 FU (mk2 a y) = some d ∧ K e d :=
  gI2y mk1 mk2 R K b hs he (b - a) a FU x y (by omega) (FU_gt (by omega)) hp
def YD0 (Y Y' : gM) : Prop := Y'.2 = Y.2 ∧ ∀ a b c, ¬ ((a = 50 ∧ b = 0 ∧ (c = 3 ∨ c = 4 ∨ c = 5 ∨ c = 7)) ∨ (a = 52 ∧ b = 0)) → Y'.1 a b c = Y.1 a b c
section NS
variable {L p q k i w st s cnt off : Nat} {X Y X' Y' X'' Y'' M : gM} {lo hi : Nat → Int32} {kd wd : Int32}
theorem YD0.rf : YD0 Y Y := ⟨rfl, fun _ _ _ _ => rfl⟩
theorem YD0.tr (h : YD0 Y Y') (h' : YD0 Y' Y'') : YD0 Y Y'' := ⟨h'.1.trans h.1, fun a b c hq => (h'.2 a b c hq).trans (h.2 a b c hq)⟩
theorem YC.d (h : YC Y Y') : YD0 Y Y' := ⟨h.1, fun a b c hq => h.2 a b c (fun z => hq (Or.inl z))⟩
/-- a sign that must stand here -/
theorem j_sign {c : Nat} (hc : c < 128) (h : RP L p X Y) : ∃ s X' Y', X11_look Y = some (see L s X, Y') ∧ p ≤ s ∧ RP L s X' Y' ∧ X'.1 3 0 3 = nI s ∧ (∀ c, by8 X' c = by8 X c) ∧ XO S23 X X' ∧ YO (fun c => c = 3) Y Y' ∧ ((s < L ∧ by8 X s = c ∧ see L s X = nI c ∧ X3_readSign (nI c) X = some (1, wI X' 3 0 2 (nI (s + 1)))) ∨ (¬ see L s X = nI c ∧ X3_readSign (nI c) X = some (0, X'))) := by
  have hL := h.1.1
  obtain ⟨s, X1, Y1, a1, a2, a3, a4, a5, a6, a7, a8, a9⟩ := j_skip h
  have hsL := a4.2.2.2
  refine ⟨s, X1, Y1, a3, a1, a4, a5, a6, a7, a8, ?_⟩
  unfold X3_readSign
  rw [a2, bind_e, a4.1.2.1, a4.2.1]
  by_cases hs : s < L
  · have hb := a4.1.b hs
    rw [if_neg (nI_ge hs (by omega)), gG_t (gin_n (k := s) (by omega) (by decide)), nI_clamp (by omega), hb.1, a6 s, nI_1]
    have es : see L s X = nI (by8 X s) := if_pos hs
    rw [es]
    by_cases e : by8 X s = c
    · left
      rw [e, if_pos rfl, gLet_e]
      exact ⟨hs, rfl, rfl, rfl⟩
    · right
      have ne : ¬ nI (by8 X s) = nI c := fun z => e (nI_inj (by rw [← a6 s]; omega) (by omega) z)
      rw [if_neg ne]
      exact ⟨ne, rfl⟩
  · right
    rw [if_pos (nI_le (by omega) (by omega))]
    refine ⟨?_, rfl⟩
    rw [show see L s X = -1 from if_neg hs]
    exact fun z => nI_m1 (by omega) z.symm
/-- so far the numbers are the same -/
def NQ (L : Nat) (lo hi : Nat → Int32) (X0 Y0 : gM) (k : Nat) (X Y : gM) : Prop := (∃ q, RP L q X Y) ∧ Y.1 50 0 4 = -1 ∧ (∀ c, by8 X c = by8 X0 c) ∧ XC X0 X ∧ YD0 Y0 Y ∧ ∀ j, j < k → X.1 4 0 j = Y.1 52 0 j ∧ lo j ≤ X.1 4 0 j ∧ X.1 4 0 j ≤ hi j
def NF (L : Nat) (X0 Y0 X Y : gM) : Prop := (∃ q, RP L q X Y) ∧ (∀ c, by8 X c = by8 X0 c) ∧ XC X0 X ∧ YD0 Y0 Y ∧ ∃ s, X.1 3 0 3 = nI s ∧ Y.1 50 0 4 = nI s ∧ s ≤ 480
theorem j_one (hw : ∀ v M, X11_isWell kd wd (nI k) v M = some (if lo k ≤ v ∧ v ≤ hi k then 1 else 0)) (hk : k < 11) (hb : -1000 ≤ (lo k).toInt ∧ (hi k).toInt ≤ 1000) (h : NQ L lo hi X Y k X' Y') (x1 : Int32) :
    (∃ X2 Y2, X3_readNumber (nI k) (lo k) (hi k) X' = some (1, X2) ∧ X11_readNumbers_J50 x1 kd wd (nI k) Y' = some (.inl (nI (k + 1), Y2)) ∧ NQ L lo hi X Y (k + 1) X2 Y2) ∨ (∃ X2 Y2, X3_readNumber (nI k) (lo k) (hi k) X' = some (0, X2) ∧ X11_readNumbers_J50 x1 kd wd (nI k) Y' = some (.inl (nI (k + 1), Y2)) ∧ NF L X Y X2 Y2) := by
  obtain ⟨⟨p, hp⟩, h2, h3, h4, h5, h6⟩ := h
  have hL := hp.1.1
  obtain ⟨s, ok, v, q, X2, Y2, n1, n2, n3, n4, n5⟩ := j_num (k := k) (lo := lo k) (hi := hi k) hk hp h2
  obtain ⟨m1, m2, m3, m4, m5, m6, m7, m8⟩ := n5
  have hsq : s ≤ 480 := by have := m1.2.2.2; omega
  have yw : YD0 Y (wI Y2 52 0 k v) := (h5.tr m7.d).tr ⟨rfl, fun a b c hq => w_n (by omega)⟩
  have rw2 : RP L q X2 (wI Y2 52 0 k v) := ⟨m1.1.of (fun _ _ _ _ => rfl) (fun a b c hc => w_n (by omega)), m1.2.1, by rw [w_n (by omega)]; exact m1.2.2.1, m1.2.2.2⟩
  have bb : ∀ c, by8 X2 c = by8 X c := fun c => by rw [m4 c, h3 c]
  have head : X11_readNumbers_J50 x1 kd wd (nI k) Y' = (if (wI Y2 52 0 k v).1 50 0 4 = (-1) then (X11_isWell kd wd (nI k) v (wI Y2 52 0 k v)).bind (fun r_13 => (if r_13 = 0 then (X11_fails ((wI Y2 52 0 k v).1 50 0 7) (wI Y2 52 0 k v)).bind (fun M_17 => some (.inl (nI (k + 1), M_17))) else some (.inl (nI (k + 1), wI Y2 52 0 k v)))) else some (.inl (nI (k + 1), wI Y2 52 0 k v))) := by
    unfold X11_readNumbers_J50
    rw [n2, bind_e, gU2_e, gG_t (gin_n hk (by decide)), nI_clamp (by omega), gLet_e, w_e, gG_t (gin_n hk (by decide))]
    simp only [gLet_e, nI_1]
  rcases m8 with ⟨rfl, m8⟩ | ⟨m8, m9, m10⟩
  · refine Or.inr ⟨X2, wI Y2 52 0 k v, n1, ?_, ⟨q, rw2⟩, bb, h4.tr m5, yw, s, m2, by rw [w_n (by omega)]; exact m8, hsq⟩
    rw [head, if_neg (by rw [w_n (by omega), m8]; exact nI_m1 (by omega))]
  · have e4 : (wI Y2 52 0 k v).1 50 0 4 = -1 := by rw [w_n (by omega)]; exact m8
    have e7 : (wI Y2 52 0 k v).1 50 0 7 = nI s := by rw [w_n (by omega)]; exact m3
    have iff1 : (lo k ≤ X2.1 4 0 k ∧ X2.1 4 0 k ≤ hi k) ↔ (lo k ≤ v ∧ v ≤ hi k) := by
      have := m9.b (lo := lo k) (hi := hi k) hb.1 hb.2
      simp only [Int32.le_iff_toInt_le]
      exact this
    by_cases rg : lo k ≤ X2.1 4 0 k ∧ X2.1 4 0 k ≤ hi k
    · rw [if_pos rg] at m10
      subst m10
      have ev : v = X2.1 4 0 k := by
        have g1 := Int32.le_iff_toInt_le.mp rg.1
        have g2 := Int32.le_iff_toInt_le.mp rg.2
        exact m9.e (by omega) (by omega)
      refine Or.inl ⟨X2, wI Y2 52 0 k v, n1, ?_, ⟨q, rw2⟩, e4, bb, h4.tr m5, yw, fun j hj => ?_⟩
      · rw [head, if_pos e4, hw, bind_e, if_pos (iff1.mp rg), if_neg (show ¬ (1 : Int32) = 0 by decide)]
      · by_cases e : j = k
        · subst e
          rw [w_e, ev]
          exact ⟨rfl, rg⟩
        · have := h6 j (by omega)
          rw [w_n (by omega), m6 j e, m7.2 52 0 j (by omega)]
          exact this
    · rw [if_neg rg] at m10
      subst m10
      refine Or.inr ⟨X2, wI (wI Y2 52 0 k v) 50 0 4 (nI s), n1, ?_, ⟨q, rw2.1.of (fun _ _ _ _ => rfl) (fun a b c hc => w_n (by omega)), rw2.2.1, by rw [w_n (by omega)]; exact rw2.2.2.1, rw2.2.2.2⟩, bb, h4.tr m5, yw.tr ⟨rfl, fun a b c hq => w_n (by omega)⟩, s, m2, w_e, hsq⟩
      rw [head, if_pos e4, hw, bind_e, if_neg (fun z => rg (iff1.mpr z)), if_pos rfl, e7]
      unfold X11_fails
      rw [if_pos e4, gLet_e, bind_e]
end NS
