/-! numbers in a row, both sides -/
section NT
variable {L p q k i w st s cnt off : Nat} {X Y X' Y' X'' Y'' M : gM} {kd wd : Int32}
def rlo2 (i off k : Nat) : Int32 := gSv i (2 * (off + k))
def rhi2 (i off k : Nat) : Int32 := gSv i (2 * (off + k) + 1)
theorem x3_j32 (hl : 2 * (off + cnt) ≤ (gSt i).length) (hl2 : (gSt i).length ≤ 40) (hk : k < cnt) (x3 : Int32) : X3_readNumbers_J32 i (nI off) x3 (nI k) X = (X3_readNumber (nI k) (rlo2 i off k) (rhi2 i off k) X).bind (gU2 (fun r_9 M_10 => (if r_9 = 0 then some (.inr (.inr (.inl M_10))) else some (.inl (nI (k + 1), M_10))))) := by
  unfold X3_readNumbers_J32 rlo2 rhi2
  have e : (nI off + nI k) * 2 = nI (2 * (off + k)) := by rw [nI_add, nlit 2, nI_mul, Nat.mul_comm]
  rw [gLet_e, e, nI_1, if_neg (show ¬ Int32.ofNat (gSt i).length ≤ nI (2 * (off + k) + 1) from nI_ge (b := (gSt i).length) (by omega) (by omega)), gG_t (gin_n (k := 2 * (off + k)) (by omega) (by omega)), gG_t (gin_n (k := 2 * (off + k) + 1) (by omega) (by omega)), nI_clamp (n := 2 * (off + k)) (by omega), nI_clamp (n := 2 * (off + k) + 1) (by omega)]
  simp only [gLet_e, nI_1]
theorem NQ.sg {lo hi : Nat → Int32} (h : NQ L lo hi X Y k X' Y') (hr : RP L q X'' Y'') (h1 : ∀ c, by8 X'' c = by8 X' c) (h2 : XC X' X'') (h3 : ∀ j, X''.1 4 0 j = X'.1 4 0 j) (h4 : YD0 Y' Y'') (h5 : ∀ j, Y''.1 52 0 j = Y'.1 52 0 j) (h6 : Y''.1 50 0 4 = Y'.1 50 0 4) : NQ L lo hi X Y k X'' Y'' :=
  ⟨⟨q, hr⟩, by rw [h6]; exact h.2.1, fun c => by rw [h1 c, h.2.2.1 c], h.2.2.2.1.tr h2, h.2.2.2.2.1.tr h4, fun j hj => by rw [h3 j, h5 j]; exact h.2.2.2.2.2 j hj⟩
theorem j_nums (hw : ∀ k, k < cnt → ∀ v M, X11_isWell kd wd (nI k) v M = some (if rlo2 i off k ≤ v ∧ v ≤ rhi2 i off k then 1 else 0)) (hb : ∀ k, k < cnt → -1000 ≤ (rlo2 i off k).toInt ∧ (rhi2 i off k).toInt ≤ 1000) (hc : cnt ≤ 11) (hl : 2 * (off + cnt) ≤ (gSt i).length) (hl2 : (gSt i).length ≤ 40) (h : RP L p X Y) (y4 : Y.1 50 0 4 = -1) :
    ∃ X' Y', (X3_readNumbers i (nI off) (nI cnt) X = some (1, X') ∧ X11_readNumbers (nI cnt) kd wd Y = some Y' ∧ NQ L (rlo2 i off) (rhi2 i off) X Y cnt X' Y') ∨ (X3_readNumbers i (nI off) (nI cnt) X = some (0, X') ∧ X11_readNumbers (nI cnt) kd wd Y = some Y' ∧ NF L X Y X' Y') := by
  have hL := h.1.1
  obtain ⟨e, d, f1, f2, X2, Y2, f3⟩ := gI2y_FU (s1 := fun z : Int32 × gM => X3_readNumbers_L3 i (nI off) (nI cnt) z.1 z.2) (s2 := fun z : Int32 × gM => X11_readNumbers_L3 (nI cnt) kd wd z.1 z.2) (fun k (x : gM) => (nI k, x)) (fun k (y : gM) => (nI k, y)) (NQ L (rlo2 i off) (rhi2 i off) X Y) (fun e d => ∃ X2 Y2, (e = .inr (.inr X2) ∧ d = .inr Y2 ∧ NQ L (rlo2 i off) (rhi2 i off) X Y cnt X2 Y2) ∨ ((e = .inl X2 ∨ e = .inr (.inl X2)) ∧ NF L X Y X2 Y2 ∧ (d = .inr Y2 ∨ ∃ Y3, d = .inl Y3 ∧ Y3.1 50 0 4 = -1 ∧ Y2 = wI Y3 50 0 4 (Y3.1 50 0 3)))) 0 cnt (by omega) (by omega)
    (fun k x y hk hR => by
      -- one number behind the sign
      have num : ∀ {x y}, NQ L (rlo2 i off) (rhi2 i off) X Y k x y → (∃ x' y', X3_readNumbers_J32 i (nI off) (nI cnt) (nI k) x = some (.inl (nI (k + 1), x')) ∧ X11_readNumbers_J50 (nI cnt) kd wd (nI k) y = some (.inl (nI (k + 1), y')) ∧ NQ L (rlo2 i off) (rhi2 i off) X Y (k + 1) x' y') ∨ (∃ x' y', X3_readNumbers_J32 i (nI off) (nI cnt) (nI k) x = some (.inr (.inr (.inl x'))) ∧ X11_readNumbers_J50 (nI cnt) kd wd (nI k) y = some (.inl (nI (k + 1), y')) ∧ NF L X Y x' y') := fun {x y} hq => by
        rcases j_one (lo := rlo2 i off) (hi := rhi2 i off) (hw k hk) (by omega) (hb k hk) hq (nI cnt) with ⟨X2, Y2, g1, g2, g3⟩ | ⟨X2, Y2, g1, g2, g3⟩
        · refine Or.inl ⟨X2, Y2, ?_, g2, g3⟩
          rw [x3_j32 hl hl2 hk, g1, bind_e, gU2_e, if_neg (show ¬ (1 : Int32) = 0 by decide)]
        · refine Or.inr ⟨X2, Y2, ?_, g2, g3⟩
          rw [x3_j32 hl hl2 hk, g1, bind_e, gU2_e, if_pos rfl]
      have stop : ∀ y', (∃ s, y'.1 50 0 4 = nI s ∧ s ≤ 480) → X11_readNumbers_L3 (nI cnt) kd wd (nI (k + 1)) y' = some (.inr (.inr y')) := fun y' ⟨s, g1, g2⟩ => by
        unfold X11_readNumbers_L3
        rw [g1, if_neg (nI_m1 (by omega))]
        split <;> rfl
      have fin : ∀ {x1 y1}, NQ L (rlo2 i off) (rhi2 i off) X Y k x1 y1 → X3_readNumbers_L3 i (nI off) (nI cnt) (nI k) x = X3_readNumbers_J32 i (nI off) (nI cnt) (nI k) x1 → X11_readNumbers_L3 (nI cnt) kd wd (nI k) y = X11_readNumbers_J50 (nI cnt) kd wd (nI k) y1 → (∃ x' y', X3_readNumbers_L3 i (nI off) (nI cnt) (nI k) x = some (.inl (nI (k + 1), x')) ∧ X11_readNumbers_L3 (nI cnt) kd wd (nI k) y = some (.inl (nI (k + 1), y')) ∧ NQ L (rlo2 i off) (rhi2 i off) X Y (k + 1) x' y') ∨ (∃ e y' d, X3_readNumbers_L3 i (nI off) (nI cnt) (nI k) x = some (.inr e) ∧ X11_readNumbers_L3 (nI cnt) kd wd (nI k) y = some (.inl (nI (k + 1), y')) ∧ X11_readNumbers_L3 (nI cnt) kd wd (nI (k + 1)) y' = some (.inr d) ∧ ∃ X2 Y2, (e = .inr (.inr X2) ∧ d = .inr Y2 ∧ NQ L (rlo2 i off) (rhi2 i off) X Y cnt X2 Y2) ∨ ((e = .inl X2 ∨ e = .inr (.inl X2)) ∧ NF L X Y X2 Y2 ∧ (d = .inr Y2 ∨ ∃ Y3, d = .inl Y3 ∧ Y3.1 50 0 4 = -1 ∧ Y2 = wI Y3 50 0 4 (Y3.1 50 0 3)))) := fun {x1 y1} hq e1 e2 => by
        rw [e1, e2]
        rcases num hq with ⟨x', y', g1, g2, g3⟩ | ⟨x', y', g1, g2, g3⟩
        · exact Or.inl ⟨x', y', g1, g2, g3⟩
        · obtain ⟨-, -, -, -, s, t1, t2, t3⟩ := id g3
          exact Or.inr ⟨_, y', _, g1, g2, stop y' ⟨s, t2, t3⟩, x', y', Or.inr ⟨Or.inr rfl, g3, Or.inl rfl⟩⟩
      have y4' := hR.2.1
      by_cases k0 : k = 0
      · subst k0
        rcases fin hR (by
          unfold X3_readNumbers_L3
          rw [if_neg (nI_ge hk (by omega)), if_neg (by decide), if_pos (by decide)]) (by
          unfold X11_readNumbers_L3
          rw [if_neg (nI_ge hk (by omega)), if_pos y4', if_pos (by decide)]) with g | g
        · exact Or.inl g
        · exact Or.inr (Or.inr g)
      · obtain ⟨⟨p', hp'⟩, -⟩ := id hR
        obtain ⟨s, X1, Y1, b1, b2, b3, b4, b5, b6, b7, b8⟩ := j_sign (c := 44) (by omega) hp'
        have nk : ¬ nI k ≤ (0 : Int32) := nI_ge (a := 0) (b := k) (by omega) (by omega)
        have n11 : ¬ (11 : Int32) ≤ nI k := nI_ge (a := k) (b := 11) (by omega) (by decide)
        have hs480 : s ≤ 480 := by have := b3.2.2.2; omega
        rcases b8 with ⟨c1, c2, c3, c4⟩ | ⟨c1, c2⟩
        · have c4 : X3_readSign 44 x = some (1, wI X1 3 0 2 (nI (s + 1))) := c4
          have hq2 : NQ L (rlo2 i off) (rhi2 i off) X Y k (wI X1 3 0 2 (nI (s + 1))) (wI Y1 50 0 3 (nI (s + 1))) := NQ.sg hR (b3.go c1) (fun c => by have := b5 c; unfold by8 at this ⊢; rw [w_n (by omega)]; exact this) (b6.c.tr ⟨rfl, fun a b c hq => w_n (by omega)⟩) (fun j => by rw [w_n (by omega), b6.n4 j]) ((b7.c fun c hc => Or.inl hc).d.tr ⟨rfl, fun a b c hq => w_n (by omega)⟩) (fun j => by rw [w_n (by omega), b7.2 52 0 j (by omega)]) (by rw [w_n (by omega), b7.2 50 0 4 (by omega)])
          rcases fin hq2 (by
            unfold X3_readNumbers_L3
            rw [if_neg (nI_ge hk (by omega)), if_neg n11, if_neg nk, c4, bind_e, gU2_e, if_neg (show ¬ (1 : Int32) = 0 by decide)]) (by
            unfold X11_readNumbers_L3
            rw [if_neg (nI_ge hk (by omega)), if_pos y4', if_neg nk, b1, bind_e, gU2_e, if_pos (show see L s x = (44 : Int32) from c3), b3.2.2.1, nI_1, gLet_e]) with g | g
          · exact Or.inl g
          · exact Or.inr (Or.inr g)
        · have c2 : X3_readSign 44 x = some (0, X1) := c2
          have y41 : Y1.1 50 0 4 = -1 := by rw [b7.2 50 0 4 (by omega)]; exact y4'
          refine Or.inr (Or.inl ⟨.inl X1, .inl Y1, ?_, ?_, X1, wI Y1 50 0 4 (Y1.1 50 0 3), Or.inr ⟨Or.inl rfl, ⟨⟨s, b3.1.of (fun _ _ _ _ => rfl) (fun a b c hc => w_n (by omega)), b3.2.1, by rw [w_n (by omega)]; exact b3.2.2.1, b3.2.2.2⟩, fun c => by rw [b5 c, hR.2.2.1 c], hR.2.2.2.1.tr b6.c, (hR.2.2.2.2.1.tr (b7.c fun c hc => Or.inl hc).d).tr ⟨rfl, fun a b c hq => w_n (by omega)⟩, s, b4, by rw [w_e]; exact b3.2.2.1, hs480⟩, Or.inr ⟨Y1, rfl, y41, rfl⟩⟩⟩)
          · show X3_readNumbers_L3 i (nI off) (nI cnt) (nI k) x = _
            unfold X3_readNumbers_L3
            rw [if_neg (nI_ge hk (by omega)), if_neg n11, if_neg nk, c2, bind_e, gU2_e, if_pos rfl]
          · show X11_readNumbers_L3 (nI cnt) kd wd (nI k) y = _
            unfold X11_readNumbers_L3
            rw [if_neg (nI_ge hk (by omega)), if_pos y4', if_neg nk, b1, bind_e, gU2_e, if_neg (show ¬ see L s x = (44 : Int32) from c1)])
    (fun x y hR => by
      refine ⟨.inr (.inr x), .inr y, ?_, ?_, x, y, Or.inl ⟨rfl, rfl, hR⟩⟩
      · show X3_readNumbers_L3 i (nI off) (nI cnt) (nI cnt) x = _
        unfold X3_readNumbers_L3
        rw [if_pos (nI_le (Nat.le_refl _) (by omega))]
      · show X11_readNumbers_L3 (nI cnt) kd wd (nI cnt) y = _
        unfold X11_readNumbers_L3
        rw [if_pos (nI_le (Nat.le_refl _) (by omega))])
    X Y ⟨⟨p, h⟩, y4, fun _ => rfl, XC.rf, YD0.rf, fun j hj => absurd hj (by omega)⟩
  have f1 : gIter (fun z : Int32 × gM => X3_readNumbers_L3 i (nI off) (nI cnt) z.1 z.2) FU (0, X) = some e := f1
  have f2 : gIter (fun z : Int32 × gM => X11_readNumbers_L3 (nI cnt) kd wd z.1 z.2) FU (0, Y) = some d := f2
  refine ⟨X2, Y2, ?_⟩
  unfold X3_readNumbers X11_readNumbers
  rw [f1, f2, bind_e, bind_e]
  rcases f3 with ⟨rfl, rfl, g⟩ | ⟨he, g, hd⟩
  · exact Or.inl ⟨rfl, rfl, g⟩
  · refine Or.inr ⟨?_, ?_, g⟩
    · rcases he with rfl | rfl <;> rfl
    · rcases hd with rfl | ⟨Y3, rfl, h4, rfl⟩
      · rfl
      · rw [gS2_e1]
        unfold X11_fails
        rw [if_pos h4, gLet_e]
        rfl
end NT
