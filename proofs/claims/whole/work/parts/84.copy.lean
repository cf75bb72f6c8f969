/-! copies of frames and rows -/
section CP
variable {n W H T K i i' j k t q NT : Nat} {w w' : Nat → Int32} {M M' Mx Mm Mx' Mm' : gM}
theorem x11_copy {i0 i2 a b : Nat} (hne : i0 ≠ i2) (ha : a + 1242 ≤ gLen 52 i0) (hb : b + 1242 ≤ gLen 52 i2) (hl : gLen 52 i0 < 2 ^ 31 ∧ gLen 52 i2 < 2 ^ 31) :
    ∃ M', X11_copyRow i0 (nI a) i2 (nI b) M = some M' ∧ M'.2 = M.2 ∧ ∀ r i c, M'.1 r i c = if r = 52 ∧ i = i2 ∧ b ≤ c ∧ c < b + 1242 then M.1 52 i0 (a + (c - b)) else M.1 r i c := by
  obtain ⟨M', h1, h2⟩ := gI1_FU (step := fun s => X11_copyRow_L3 i0 (nI a) i2 (nI b) s.1 s.2) (fun k (x : gM) => (nI k, x)) (fun k x => x.2 = M.2 ∧ ∀ r i c, x.1 r i c = if r = 52 ∧ i = i2 ∧ b ≤ c ∧ c < b + k then M.1 52 i0 (a + (c - b)) else M.1 r i c)
    (fun x => x.2 = M.2 ∧ ∀ r i c, x.1 r i c = if r = 52 ∧ i = i2 ∧ b ≤ c ∧ c < b + 1242 then M.1 52 i0 (a + (c - b)) else M.1 r i c) 0 1242 (by omega) (by omega)
    (fun k x hk hx => by
      refine ⟨wI x 52 i2 (b + k) (M.1 52 i0 (a + k)), ?_, hx.1, fun r i c => ?_⟩
      · show X11_copyRow_L3 i0 (nI a) i2 (nI b) (nI k) x = _
        unfold X11_copyRow_L3
        rw [nlit 1242, if_neg (nI_ge hk (by omega)), nI_add, nI_add, gG_t (gin_n (k := a + k) (by omega) hl.1), gG_t (gin_n (k := b + k) (by omega) hl.2), gLet_e, gLet_e, nI_1, nI_clamp (n := a + k) (by omega), nI_clamp (n := b + k) (by omega), hx.2 52 i0 (a + k), if_neg (by omega)]
      · rw [r1_wI, hx.2 r i c]
        by_cases e : r = 52 ∧ i = i2 ∧ c = b + k
        · rw [if_pos e, if_pos (by omega), show c - b = k by omega]
        · rw [if_neg e]
          by_cases e2 : r = 52 ∧ i = i2 ∧ b ≤ c ∧ c < b + k
          · rw [if_pos e2, if_pos (by omega)]
          · rw [if_neg e2, if_neg (by omega)])
    (fun x hx => ⟨x, by
      show X11_copyRow_L3 i0 (nI a) i2 (nI b) (nI 1242) x = _
      unfold X11_copyRow_L3
      rw [nlit 1242, if_pos (nI_le (Nat.le_refl _) (by omega))], hx⟩) M ⟨rfl, fun r i c => by rw [if_neg (by omega)]⟩
  refine ⟨M', ?_, h2⟩
  unfold X11_copyRow
  show ((gIter (fun s => X11_copyRow_L3 i0 (nI a) i2 (nI b) s.1 s.2) FU (nI 0, M)).bind _) = _
  rw [h1]
  rfl
/-- frame i' of M' is as frame i of M -/
def cpx (i i' : Nat) (M M' : gM) : Prop := (∀ a c, (34 ≤ a ∧ a ≤ 36 ∧ c < 256) ∨ (a = 37 ∧ c < 160) ∨ (a = 38 ∧ c < 16) ∨ (a = 39 ∧ c < 60) ∨ (a = 40 ∧ c < 4) ∨ (a = 42 ∧ c < 180) ∨ (a = 33 ∧ 9 ≤ c ∧ c ≤ 12) → M'.1 a i' c = M.1 a i c) ∧ ∀ c, c < 10 → M'.2 41 i' c = M.2 41 i c
theorem cpx.tr {i'' : Nat} {M'' : gM} (h : cpx i i' M M') (h' : cpx i' i'' M' M'') : cpx i i'' M M'' := ⟨fun a c hc => (h'.1 a c hc).trans (h.1 a c hc), fun c hc => (h'.2 c hc).trans (h.2 c hc)⟩
theorem x0_copy {i0 i1 : Nat} (hne : i0 ≠ i1) : ∃ M', X0_copyFrom i0 i1 M = some M' ∧ cpx i1 i0 M M' ∧ (∀ a b c, ¬ (33 ≤ a ∧ a ≤ 42 ∧ b = i0) → M'.1 a b c = M.1 a b c) ∧ ∀ a b c, ¬ (a = 41 ∧ b = i0) → M'.2 a b c = M.2 a b c := by
  have hne' : ¬ i1 = i0 := fun z => hne z.symm
  refine ⟨_, rfl, ⟨fun a c hc => ?_, fun c hc => ?_⟩, fun a b c hn => ?_, fun a b c hn => ?_⟩
  · rcases hc with ⟨h1, h2, h3⟩ | ⟨rfl, h3⟩ | ⟨rfl, h3⟩ | ⟨rfl, h3⟩ | ⟨rfl, h3⟩ | ⟨rfl, h3⟩ | ⟨rfl, h1, h2⟩
    · rcases (show a = 34 ∨ a = 35 ∨ a = 36 by omega) with rfl | rfl | rfl <;> simp [r1_wI, r1_cpI, r1_cpL, hne', h3]
    · simp [r1_wI, r1_cpI, r1_cpL, hne', h3]
    · simp [r1_wI, r1_cpI, r1_cpL, hne', h3]
    · simp [r1_wI, r1_cpI, r1_cpL, hne', h3]
    · simp [r1_wI, r1_cpI, r1_cpL, hne', h3]
    · simp [r1_wI, r1_cpI, r1_cpL, hne', h3]
    · rcases (show c = 9 ∨ c = 10 ∨ c = 11 ∨ c = 12 by omega) with rfl | rfl | rfl | rfl <;> simp [r1_wI, r1_cpI, r1_cpL, hne']
  · show (cpL _ 41 i1 41 i0 10).2 41 i0 c = _
    rw [r2_cpL, if_pos ⟨rfl, rfl, hc⟩]
    rfl
  · simp only [r1_wI, r1_cpI, r1_cpL]
    repeat rw [if_neg (by omega)]
  · show (cpL _ 41 i1 41 i0 10).2 a b c = _
    rw [r2_cpL, if_neg (by omega)]
    rfl
/-! whole frames -/
def PN (i : Nat) (M : gM) : Prop := ∀ k, k < 256 → M.1 36 i k = -1
def LGR (m i : Nat) (w : Nat → Int32) (M : gM) : Prop := ∃ lg, M.1 33 i 9 = nI lg ∧ lg ≤ m ∧ w 1061 = nI (min lg 60) ∧ ∀ e, e < min lg 60 → ∀ c, c < 3 → M.1 42 i (3 * ((lg - 1 - e) % 60) + c) = w (1062 + 3 * (min lg 60 - 1 - e) + c)
/-- a frame, whole: nothing pending, the log -/
def FX (q n NT i : Nat) (w : Nat → Int32) (M : gM) : Prop := FR n NT i w M ∧ PN i M ∧ LGR q i w M
theorem FX.cp (hn : n ≤ 10) (h : FX q n NT i w M) (g : cpx i i' M M') (gz : ∀ c, M'.1 10 1 c = M.1 10 1 c) (gw : ∀ c, c < 1242 → w' c = w c) : FX q n NT i' w' M' := by
  obtain ⟨⟨f1, f2, f3, f4, f5⟩, f6, f7⟩ := h
  have hct : ∀ t, t < n → ct M' i' t = ct M i t := fun t ht => by
    funext k
    unfold ct
    by_cases hk : k < 6
    · rw [if_pos hk, if_pos hk, g.1 39 _ (by omega)]
    · rw [if_neg hk, if_neg hk]
  refine ⟨⟨fun t ht => ⟨fun k hk => ?_, fun k hk => ?_⟩, ⟨fun k hk => ?_, ?_⟩, fun k hk => ?_, fun t ht => ?_, ⟨fun t ht => ?_, fun t h1 h2 => ?_, ?_⟩⟩, fun k hk => ?_, ?_⟩
  · rw [g.1 39 _ (by omega), gw _ (by omega)]
    exact (f1 t ht).1 k hk
  · rw [gz, gw _ (by omega)]
    exact (f1 t ht).2 k hk
  · rw [g.1 40 _ (by omega), gw _ (by omega)]
    exact f2.1 k hk
  · rw [g.1 40 0 (by omega), g.1 40 1 (by omega), g.1 40 2 (by omega), g.1 40 3 (by omega)]
    exact f2.2
  · have e := f3 k hk
    rw [g.1 34 k (by omega), g.1 35 k (by omega), g.1 36 k (by omega), gw k (by omega), gw (256 + k) (by omega), gw (512 + k) (by omega)]
    refine ⟨e.1, e.2.1, e.2.2.1, e.2.2.2.imp id fun ⟨t, h1, h2, h3⟩ => ⟨t, h1, h2, ?_⟩⟩
    rw [hct t h1]
    exact h3
  · obtain ⟨b, h1, h2, h3, h4, h5⟩ := f4 t ht
    refine ⟨b, h1, ?_, ?_, h4, fun k hk => ?_⟩
    · rw [g.1 38 t (by omega)]; exact h2
    · rw [gw _ (by omega)]; exact h3
    · rw [g.1 37 _ (by omega), gw _ (by omega)]; exact h5 k hk
  · rw [g.2 t (by omega), gw _ (by omega), gw _ (by omega)]
    exact f5.1 t ht
  · rw [g.2 t (by omega)]
    exact f5.2.1 t h1 h2
  · rw [g.1 33 10 (by omega), g.1 33 11 (by omega), g.1 33 12 (by omega), gw _ (by omega), gw _ (by omega), gw _ (by omega)]
    exact f5.2.2
  · rw [g.1 36 k (by omega)]
    exact f6 k hk
  · obtain ⟨lg, h1, h2, h3, h4⟩ := f7
    refine ⟨lg, ?_, h2, ?_, fun e he c hc => ?_⟩
    · rw [g.1 33 9 (by omega)]; exact h1
    · rw [gw _ (by omega)]; exact h3
    · have hm : (lg - 1 - e) % 60 < 60 := Nat.mod_lt _ (by decide)
      rw [g.1 42 _ (by omega), gw _ (by omega)]
      exact h4 e he c hc
theorem FX.mono {q' : Nat} (h : FX q n NT i w M) (hq : q ≤ q') : FX q' n NT i w M := by
  obtain ⟨f1, f6, lg, h1, h2, h3⟩ := h
  exact ⟨f1, f6, lg, h1, by omega, h3⟩
theorem cpx_of (h : ∀ a c, 33 ≤ a → a ≤ 42 → M'.1 a i c = M.1 a i c) (h2 : ∀ c, M'.2 41 i c = M.2 41 i c) : cpx i i M M' := ⟨fun a c hc => h a c (by omega) (by omega), fun c _ => h2 c⟩
end CP
