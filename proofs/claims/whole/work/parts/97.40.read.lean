/-! readers: where both stand -/
/-- the tape is the same -/
def TS (L : Nat) (X Y : gM) : Prop := L ≤ 480 ∧ X.1 1 0 1 = nI L ∧ Y.1 50 0 2 = nI L ∧ ∀ c, c < L → X.1 2 0 c = Y.1 51 0 c &&& 255 ∧ ∃ b, b < 256 ∧ X.1 2 0 c = nI b ∧ (b < 128 → Y.1 51 0 c = nI b)
def RP (L p : Nat) (X Y : gM) : Prop := TS L X Y ∧ X.1 3 0 2 = nI p ∧ Y.1 50 0 3 = nI p ∧ p ≤ L
/-- the byte at a place -/
def by8 (X : gM) (c : Nat) : Nat := Int32.toNatClampNeg (X.1 2 0 c)
/-- only these fields of the reader, of the reference -/
def XO (S : Nat → Prop) (X X' : gM) : Prop := X'.2 = X.2 ∧ ∀ a b c, ¬ (a = 3 ∧ b = 0 ∧ S c) → X'.1 a b c = X.1 a b c
def YO (S : Nat → Prop) (Y Y' : gM) : Prop := Y'.2 = Y.2 ∧ ∀ a b c, ¬ (a = 50 ∧ b = 0 ∧ S c) → Y'.1 a b c = Y.1 a b c
section RD
variable {L p q k i : Nat} {X Y X' Y' X'' Y'' M : gM} {v : Int32} {S S' : Nat → Prop}
theorem XO.rf : XO S X X := ⟨rfl, fun _ _ _ _ => rfl⟩
theorem YO.rf : YO S Y Y := ⟨rfl, fun _ _ _ _ => rfl⟩
theorem XO.tr (h : XO S X X') (h' : XO S X' X'') : XO S X X'' := ⟨h'.1.trans h.1, fun a b c hq => (h'.2 a b c hq).trans (h.2 a b c hq)⟩
theorem YO.tr (h : YO S Y Y') (h' : YO S Y' Y'') : YO S Y Y'' := ⟨h'.1.trans h.1, fun a b c hq => (h'.2 a b c hq).trans (h.2 a b c hq)⟩
theorem XO.w {c : Nat} (hc : S c) : XO S X (wI X 3 0 c v) := ⟨rfl, fun a b c' hq => w_n (fun z => hq ⟨z.1, z.2.1, by rw [z.2.2]; exact hc⟩)⟩
theorem YO.w {c : Nat} (hc : S c) : YO S Y (wI Y 50 0 c v) := ⟨rfl, fun a b c' hq => w_n (fun z => hq ⟨z.1, z.2.1, by rw [z.2.2]; exact hc⟩)⟩
theorem XO.mono (h : XO S X X') (hs : ∀ c, S c → S' c) : XO S' X X' := ⟨h.1, fun a b c hq => h.2 a b c (fun z => hq ⟨z.1, z.2.1, hs c z.2.2⟩)⟩
theorem YO.mono (h : YO S Y Y') (hs : ∀ c, S c → S' c) : YO S' Y Y' := ⟨h.1, fun a b c hq => h.2 a b c (fun z => hq ⟨z.1, z.2.1, hs c z.2.2⟩)⟩
theorem TS.of (h : TS L X Y) (gx : ∀ a b c, a = 1 ∨ a = 2 → X'.1 a b c = X.1 a b c) (gm : ∀ a b c, a = 51 ∨ (a = 50 ∧ b = 0 ∧ c = 2) → Y'.1 a b c = Y.1 a b c) : TS L X' Y' := by
  obtain ⟨h1, h2, h3, h4⟩ := h
  refine ⟨h1, by rw [gx 1 0 1 (by omega)]; exact h2, by rw [gm 50 0 2 (by omega)]; exact h3, fun c hc => ?_⟩
  rw [gx 2 0 c (by omega), gm 51 0 c (by omega)]
  exact h4 c hc
theorem TS.b (h : TS L X Y) (hp : p < L) : X.1 2 0 p = nI (by8 X p) ∧ by8 X p < 256 := by
  obtain ⟨b, hb, e, -⟩ := (h.2.2.2 p hp).2
  unfold by8
  rw [e, nI_clamp (by omega)]
  exact ⟨rfl, hb⟩
theorem TS.m (h : TS L X Y) (hp : p < L) (h1 : by8 X p < 128) : Y.1 51 0 p = nI (by8 X p) := by
  obtain ⟨b, hb, e, g⟩ := (h.2.2.2 p hp).2
  have eb : by8 X p = b := by
    unfold by8
    rw [e, nI_clamp (by omega)]
  rw [eb] at h1 ⊢
  exact g h1
/-- what the reference sees here -/
def see (L p : Nat) (X : gM) : Int32 := if p < L then nI (by8 X p) else -1
theorem x11_here (h : RP L p X Y) : X11_here Y = some (see L p X) := by
  obtain ⟨ts, h1, h2, h3⟩ := h
  have hL := ts.1
  unfold X11_here see
  rw [ts.2.2.1, h2]
  by_cases hp : p < L
  · rw [if_neg (nI_ge hp (by omega)), if_pos hp, gG_t (gin_n (k := p) (by omega) (by decide)), nI_clamp (by omega), ← (ts.2.2.2 p hp).1, (ts.b hp).1]
  · rw [if_pos (nI_le (by omega) (by omega)), if_neg hp]
/-- both go on one place -/
theorem RP.go (h : RP L p X Y) (hp : p < L) : RP L (p + 1) (wI X 3 0 2 (nI (p + 1))) (wI Y 50 0 3 (nI (p + 1))) := ⟨h.1.of (fun a b c hc => w_n (by omega)) (fun a b c hc => w_n (by omega)), w_e, w_e, hp⟩
theorem nI_lit {a : Nat} (ha : a < 256) (b : Nat) (hb : b < 256) : nI a = nI b ↔ a = b := ⟨fun z => nI_inj (by omega) (by omega) z, fun z => by rw [z]⟩
/-- two loops over the memory that go on while a byte is of a kind -/
theorem j_while {s1 s2 : gM → Option (gM ⊕ gM)} (C : Nat → Prop) (h0 : RP L p X Y)
    (hs : ∀ k x y, k < L → RP L k x y → (∀ c, by8 x c = by8 X c) → XO (fun c => c = 2) X x → YO (fun c => c = 3) Y y → (C (by8 X k) ∧ s1 x = some (.inl (wI x 3 0 2 (nI (k + 1)))) ∧ s2 y = some (.inl (wI y 50 0 3 (nI (k + 1))))) ∨ (¬ C (by8 X k) ∧ s1 x = some (.inr x) ∧ s2 y = some (.inr y)))
    (he : ∀ x y, RP L L x y → s1 x = some (.inr x) ∧ s2 y = some (.inr y)) :
    ∃ q X' Y', p ≤ q ∧ gIter s1 FU X = some X' ∧ gIter s2 FU Y = some Y' ∧ RP L q X' Y' ∧ (∀ c, by8 X' c = by8 X c) ∧ XO (fun c => c = 2) X X' ∧ YO (fun c => c = 3) Y Y' ∧ (∀ c, p ≤ c → c < q → C (by8 X c)) ∧ (q < L → ¬ C (by8 X q)) := by
  have hL := h0.1.1
  obtain ⟨e, d, f1, f2, q, q1, q2, q3, q4, q5, q6, q7⟩ := gI2x_FU (s1 := s1) (s2 := s2) (fun _ (x : gM) => x) (fun _ (y : gM) => y) (fun k x y => p ≤ k ∧ RP L k x y ∧ (∀ c, by8 x c = by8 X c) ∧ XO (fun c => c = 2) X x ∧ YO (fun c => c = 3) Y y ∧ ∀ c, p ≤ c → c < k → C (by8 X c)) (fun x y => ∃ q, p ≤ q ∧ RP L q x y ∧ (∀ c, by8 x c = by8 X c) ∧ XO (fun c => c = 2) X x ∧ YO (fun c => c = 3) Y y ∧ (∀ c, p ≤ c → c < q → C (by8 X c)) ∧ (q < L → ¬ C (by8 X q))) p L h0.2.2.2 (by omega)
    (fun k x y hk hR => by
      obtain ⟨r1, r2, r3, r4, r5, r6⟩ := hR
      rcases hs k x y hk r2 r3 r4 r5 with ⟨c1, c2, c3⟩ | ⟨c1, c2, c3⟩
      · refine Or.inl ⟨_, _, c2, c3, by omega, r2.go hk, fun c => ?_, r4.tr (XO.w rfl), r5.tr (YO.w rfl), fun c g1 g2 => ?_⟩
        · unfold by8
          rw [w_n (by omega)]
          exact r3 c
        · by_cases e : c = k
          · rw [e]
            exact c1
          · exact r6 c g1 (by omega)
      · exact Or.inr ⟨_, _, c2, c3, k, r1, r2, r3, r4, r5, r6, fun _ => c1⟩)
    (fun x y hR => by
      obtain ⟨r1, r2, r3, r4, r5, r6⟩ := hR
      exact ⟨_, _, (he x y r2).1, (he x y r2).2, L, r1, r2, r3, r4, r5, r6, fun z => absurd z (by omega)⟩) X Y ⟨Nat.le_refl _, h0, fun _ => rfl, XO.rf, YO.rf, fun c g1 g2 => absurd g2 (by omega)⟩
  exact ⟨q, e, d, q1, f1, f2, q2, q3, q4, q5, q6, q7⟩
/-- what changes when both pass blanks -/
def S23 (c : Nat) : Prop := c = 2 ∨ c = 3
theorem j_skip (h : RP L p X Y) : ∃ q X' Y', p ≤ q ∧ X3_skipBlanks X = some X' ∧ X11_look Y = some (see L q X, Y') ∧ RP L q X' Y' ∧ X'.1 3 0 3 = nI q ∧ (∀ c, by8 X' c = by8 X c) ∧ XO S23 X X' ∧ YO (fun c => c = 3) Y Y' ∧ (q < L → ¬ by8 X q = 32) := by
  have hL := h.1.1
  have fin : ∀ {q X1 Y1}, RP L q X1 Y1 → (∀ c, by8 X1 c = by8 X c) → RP L q (wI X1 3 0 3 (nI q)) Y1 ∧ (wI X1 3 0 3 (nI q)).1 3 0 3 = nI q ∧ (∀ c, by8 (wI X1 3 0 3 (nI q)) c = by8 X c) ∧ see L q X1 = see L q X := fun {q X1 Y1} hr hb => by
    refine ⟨⟨hr.1.of (fun a b c hc => w_n (by omega)) (fun _ _ _ _ => rfl), by rw [w_n (by omega)]; exact hr.2.1, hr.2.2⟩, w_e, fun c => ?_, ?_⟩
    · unfold by8
      rw [w_n (by omega)]
      exact hb c
    · unfold see
      rw [hb]
  unfold X3_skipBlanks X11_look
  rw [x11_here h, bind_e, h.1.2.1, h.2.1]
  by_cases hp : p < L
  · have hb := h.1.b hp
    have es : see L p X = nI (by8 X p) := if_pos hp
    rw [if_neg (nI_ge hp (by omega)), gG_t (gin_n (k := p) (by omega) (by decide)), nI_clamp (by omega), hb.1, es]
    by_cases h32 : by8 X p = 32
    · rw [if_pos (show nI (by8 X p) = (32 : Int32) by rw [h32]; rfl), if_pos (show nI (by8 X p) = (32 : Int32) by rw [h32]; rfl), h.2.2.1, nI_1, gLet_e, gLet_e]
      obtain ⟨q, X1, Y1, w1, w2, w3, w4, w5, w6, w7, w8, w9⟩ := j_while (s1 := fun s => X3_skipBlanks_L0 s) (s2 := fun s => X11_look_L0 s) (fun b => b = 32) (h.go hp)
        (fun k x y hk hr hbx _ _ => by
          have hbk := hr.1.b hk
          have es : see L k x = nI (by8 x k) := if_pos hk
          show (by8 (wI X 3 0 2 (nI (p + 1))) k = 32 ∧ X3_skipBlanks_L0 x = _ ∧ X11_look_L0 y = _) ∨ (¬ by8 (wI X 3 0 2 (nI (p + 1))) k = 32 ∧ X3_skipBlanks_L0 x = _ ∧ X11_look_L0 y = _)
          unfold X3_skipBlanks_L0 X11_look_L0
          rw [x11_here hr, bind_e, es, hr.1.2.1, hr.2.1, if_neg (nI_ge hk (by omega)), gG_t (gin_n (k := k) (by omega) (by decide)), nI_clamp (by omega), hbk.1, hr.2.2.1, nI_1, gLet_e, gLet_e, hbx k]
          by_cases e : by8 (wI X 3 0 2 (nI (p + 1))) k = 32
          · exact Or.inl ⟨e, by rw [e]; rfl, by rw [e]; rfl⟩
          · have ne : ¬ nI (by8 (wI X 3 0 2 (nI (p + 1))) k) = (32 : Int32) := fun z => e ((nI_lit (by rw [← hbx k]; exact hbk.2) 32 (by omega)).mp z)
            exact Or.inr ⟨e, by rw [if_neg ne], by rw [if_neg ne]⟩)
        (fun x y hr => by
          have es : see L L x = -1 := if_neg (by omega)
          constructor
          · show X3_skipBlanks_L0 x = _
            unfold X3_skipBlanks_L0
            rw [hr.1.2.1, hr.2.1, if_pos (nI_le (Nat.le_refl _) (by omega))]
          · show X11_look_L0 y = _
            unfold X11_look_L0
            rw [x11_here hr, bind_e, es, if_neg (by decide)])
      have hb0 : ∀ c, by8 (wI X 3 0 2 (nI (p + 1))) c = by8 X c := fun c => by unfold by8; rw [w_n (by omega)]
      have hb1 : ∀ c, by8 X1 c = by8 X c := fun c => by rw [w5 c, hb0 c]
      obtain ⟨f1, f2, f3, f4⟩ := fin w4 hb1
      refine ⟨q, wI X1 3 0 3 (nI q), Y1, by omega, ?_, ?_, f1, f2, f3, (((XO.w (S := fun c => c = 2) rfl).tr w6).mono fun c hc => Or.inl hc).tr (XO.w (Or.inr rfl)), (YO.w (S := fun c => c = 3) rfl).tr w7, fun hq => by rw [← hb0 q]; exact w9 hq⟩
      · rw [w2, bind_e, gLet_e, w4.2.1]
      · rw [w3, bind_e, x11_here w4, bind_e, f4]
    · have ne : ¬ nI (by8 X p) = (32 : Int32) := fun z => h32 ((nI_lit hb.2 32 (by omega)).mp z)
      obtain ⟨f1, f2, f3, f4⟩ := fin h (fun _ => rfl)
      rw [if_neg ne, if_neg ne, gLet_e, bind_e]
      exact ⟨p, _, Y, Nat.le_refl _, rfl, by rw [es], f1, f2, f3, XO.w (Or.inr rfl), YO.rf, fun _ => h32⟩
  · have hpL : p = L := by have := h.2.2.2; omega
    have es : see L p X = -1 := if_neg hp
    obtain ⟨f1, f2, f3, f4⟩ := fin h (fun _ => rfl)
    rw [if_pos (nI_le (by omega) (by omega)), gLet_e, es, if_neg (by decide), bind_e]
    exact ⟨p, _, Y, Nat.le_refl _, rfl, by rw [es], f1, f2, f3, XO.w (Or.inr rfl), YO.rf, fun z => absurd z hp⟩
end RD
