/-! a script is read on both sides -/
theorem gI2z {σ τ ε δ β γ : Type} {s1 : σ → Option (σ ⊕ ε)} {s2 : τ → Option (τ ⊕ δ)} (mk1 : Nat → β → σ) (mk2 : Nat → γ → τ) (R : Nat → β → γ → Prop) (K : ε → δ → Prop) (b : Nat)
    (hs : ∀ k x y, k < b → R k x y → (k + 1 < b ∧ ∃ x' y', s1 (mk1 k x) = some (.inl (mk1 (k + 1) x')) ∧ s2 (mk2 k y) = some (.inl (mk2 (k + 1) y')) ∧ R (k + 1) x' y') ∨ (∃ e d, s1 (mk1 k x) = some (.inr e) ∧ s2 (mk2 k y) = some (.inr d) ∧ K e d) ∨ (∃ e y' d, s1 (mk1 k x) = some (.inr e) ∧ s2 (mk2 k y) = some (.inl y') ∧ s2 y' = some (.inr d) ∧ K e d) ∨ (∃ e x' d, s1 (mk1 k x) = some (.inl x') ∧ s1 x' = some (.inr e) ∧ s2 (mk2 k y) = some (.inr d) ∧ K e d)) :
    ∀ (n a m : Nat) (x : β) (y : γ), a + n + 1 = b → n + 1 < m → R a x y → ∃ e d, gIter s1 m (mk1 a x) = some e ∧ gIter s2 m (mk2 a y) = some d ∧ K e d := by
  intro n
  induction n with
  | zero =>
    intro a m x y ha hm hp
    obtain ⟨m, rfl⟩ : ∃ j, m = j + 1 + 1 := ⟨m - 2, by omega⟩
    rcases hs a x y (by omega) hp with ⟨h0, -⟩ | ⟨e, d, h1, h2, h3⟩ | ⟨e, y', d, h1, h2, h3, h4⟩ | ⟨e, x', d, h1, h2, h3, h4⟩
    · exact absurd h0 (by omega)
    · exact ⟨e, d, gIt_x h1, gIt_x h2, h3⟩
    · exact ⟨e, d, gIt_x h1, gIt_s h2 (gIt_x h3), h4⟩
    · exact ⟨e, d, gIt_s h1 (gIt_x h2), gIt_x h3, h4⟩
  | succ n ih =>
    intro a m x y ha hm hp
    obtain ⟨m, rfl⟩ : ∃ j, m = j + 1 + 1 := ⟨m - 2, by omega⟩
    rcases hs a x y (by omega) hp with ⟨-, x', y', h1, h2, h3⟩ | ⟨e, d, h1, h2, h3⟩ | ⟨e, y', d, h1, h2, h3, h4⟩ | ⟨e, x', d, h1, h2, h3, h4⟩
    · obtain ⟨e, d, h4, h5, h6⟩ := ih (a + 1) (m + 1) x' y' (by omega) (by omega) h3
      exact ⟨e, d, gIt_s h1 h4, gIt_s h2 h5, h6⟩
    · exact ⟨e, d, gIt_x h1, gIt_x h2, h3⟩
    · exact ⟨e, d, gIt_x h1, gIt_s h2 (gIt_x h3), h4⟩
    · exact ⟨e, d, gIt_s h1 (gIt_x h2), gIt_x h3, h4⟩
def XS (i : Nat) (X X' : gM) : Prop := X'.2 = X.2 ∧ ∀ a b c, ¬ (a = 3 ∨ a = 4 ∨ (a = 46 ∧ b = i) ∨ (a = 47 ∧ b = i)) → X'.1 a b c = X.1 a b c
def YS (Y Y' : gM) : Prop := Y'.2 = Y.2 ∧ ∀ a b c, ¬ ((a = 50 ∧ b = 0 ∧ (c = 3 ∨ c = 4 ∨ c = 5 ∨ c = 7)) ∨ (a = 52 ∧ (b = 0 ∨ (b = 5 ∧ 240 ≤ c) ∨ (b = 6 ∧ c = 4)))) → Y'.1 a b c = Y.1 a b c
section SQ
variable {L p q k i w st s cnt off : Nat} {X Y X' Y' X'' Y'' M : gM} {r : Int32}
theorem XS.tr (h : XS i X X') (h' : XS i X' X'') : XS i X X'' := ⟨h'.1.trans h.1, fun a b c hq => (h'.2 a b c hq).trans (h.2 a b c hq)⟩
theorem YS.tr (h : YS Y Y') (h' : YS Y' Y'') : YS Y Y'' := ⟨h'.1.trans h.1, fun a b c hq => (h'.2 a b c hq).trans (h.2 a b c hq)⟩
theorem XC.sp (h : XC X X') : XS i X X' := ⟨h.1, fun a b c hq => h.2 a b c (by omega)⟩
theorem YD0.sp (h : YD0 Y Y') : YS Y Y' := ⟨h.1, fun a b c hq => h.2 a b c (by omega)⟩
/-- the steps that were read so far -/
def SD (i k : Nat) (X Y : gM) : Prop := X.1 46 i 1 = nI k ∧ ∀ l, l < k → SR1 (fun c => X.1 47 i (5 * l + c)) (fun c => Y.1 52 5 (5 * (48 + l) + c))
theorem SD.of (h : SD i k X Y) (gx : ∀ a c, a = 46 ∨ a = 47 → X'.1 a i c = X.1 a i c) (gy : ∀ c, Y'.1 52 5 c = Y.1 52 5 c) : SD i k X' Y' := by
  refine ⟨by rw [gx 46 1 (by omega)]; exact h.1, fun l hl => ?_⟩
  have e1 : (fun c => X'.1 47 i (5 * l + c)) = (fun c => X.1 47 i (5 * l + c)) := funext fun c => gx 47 _ (by omega)
  have e2 : (fun c => Y'.1 52 5 (5 * (48 + l) + c)) = (fun c => Y.1 52 5 (5 * (48 + l) + c)) := funext fun c => gy _
  rw [e1, e2]
  exact h.2 l hl
/-- how it ended: r is what fault answers -/
theorem SR1.of {x y x' y' : Nat → Int32} (h : SR1 x y) (hx : ∀ c, c < 5 → x' c = x c) (hy : ∀ c, c < 5 → y' c = y c) : SR1 x' y' := by
  obtain ⟨k, h1, h2, h3, h4⟩ := h
  refine ⟨k, h1, by rw [hx 0 (by omega)]; exact h2, by rw [hy 0 (by omega)]; exact h3, fun c g1 g2 => ?_⟩
  rw [hx c g2, hy c g2]
  exact h4 c g1 g2
def SE (i : Nat) (X0 Y0 : gM) (r : Int32) (X Y : gM) : Prop := Y.1 50 0 4 = r ∧ XS i X0 X ∧ YS Y0 Y ∧ ((∃ s, s ≤ 480 ∧ r = nI s) ∨ (r = -1 ∧ ∃ ln, 1 ≤ ln ∧ ln ≤ 12 ∧ SD i ln X Y ∧ Y.1 52 6 4 = nI ln))
noncomputable def ct1 : (gM ⊕ (gM ⊕ (gM ⊕ (gM ⊕ gM)))) → Option (Int32 × gM) := gS2 (fun M_27 => some ((M_27.1 3 0 3), M_27)) (gS2 (fun M_28 => some ((M_28.1 3 0 3), M_28)) (gS2 (fun M_29 => some ((-1), M_29)) (gS2 (fun M_30 => some ((M_30.1 3 0 3), M_30)) (fun M_31 => some ((M_31.1 3 0 3), M_31)))))
noncomputable def ct2 : (gM ⊕ (gM ⊕ (Int32 × gM))) → Option gM := gS2 (fun M_34 => (X11_fails (M_34.1 50 0 5) M_34).bind (fun M_36 => some M_36)) (gS2 (fun M_37 => (X11_fails (M_37.1 50 0 3) M_37).bind (fun M_39 => some M_39)) (gU2 (fun x1_40 M_41 => gLet (wI M_41 52 6 4 x1_40) (fun M_42 => some M_42))))
/-- while it is read -/
def SI (L i : Nat) (X0 Y0 : gM) (k : Nat) (X : gM) (y : Int32 × gM) : Prop := y.1 = 1 ∧ (∃ q, RP L q X y.2) ∧ y.2.1 50 0 4 = -1 ∧ SD i k X y.2 ∧ XS i X0 X ∧ YS Y0 y.2
theorem sfail {z : Int32} {Y : gM} (y4 : Y.1 50 0 4 = -1) : X11_fails z Y = some (wI Y 50 0 4 z) := by
  unfold X11_fails
  rw [if_pos y4, gLet_e]
theorem offT_e (hw : w < 9) : gSv 4 w = nI (offT w) ∧ gSv 3 w = nI (nst w) ∧ nst w ≤ 4 ∧ 2 * (offT w + nst w) ≤ (gSt 5).length ∧ (gSt 5).length ≤ 40 ∧ ∀ k, k < nst w → -1000 ≤ (rlo2 5 (offT w) k).toInt ∧ (rhi2 5 (offT w) k).toInt ≤ 1000 := by
  rcases (show w = 0 ∨ w = 1 ∨ w = 2 ∨ w = 3 ∨ w = 4 ∨ w = 5 ∨ w = 6 ∨ w = 7 ∨ w = 8 by omega) with rfl | rfl | rfl | rfl | rfl | rfl | rfl | rfl | rfl <;> exact ⟨rfl, rfl, by decide, by decide, by decide, by decide⟩
theorem x11_l4 (hw : w < 9) (e : X11_word 1 Y = some (nI w, Y')) (x1 : Int32) : X11_readScript_L4 x1 1 Y = X11_readScript_J66 x1 (5 * (48 + x1)) (nI w) (nI (nst w)) Y' := by
  unfold X11_readScript_L4 X11_readScript_J50
  rw [if_neg (show ¬ (1 : Int32) = 0 by decide), gLet_e, e, bind_e, gU2_e, if_neg (nI_m1 (by omega))]
  rcases (show w = 0 ∨ w = 1 ∨ w = 2 ∨ w = 3 ∨ w = 4 ∨ w = 5 ∨ w = 6 ∨ w = 7 ∨ w = 8 by omega) with rfl | rfl | rfl | rfl | rfl | rfl | rfl | rfl | rfl
  · rw [if_neg (by decide), if_neg (by decide), if_neg (by decide)]; rfl
  · rw [if_neg (by decide), if_neg (by decide), if_neg (by decide)]; rfl
  · rw [if_pos (by decide)]; rfl
  · rw [if_neg (by decide), if_pos (by decide)]; rfl
  · rw [if_neg (by decide), if_neg (by decide), if_neg (by decide)]; rfl
  · rw [if_neg (by decide), if_neg (by decide), if_neg (by decide)]; rfl
  · rw [if_neg (by decide), if_neg (by decide), if_neg (by decide)]; rfl
  · rw [if_neg (by decide), if_neg (by decide), if_neg (by decide)]; rfl
  · rw [if_neg (by decide), if_neg (by decide), if_pos (by decide)]; rfl
theorem j_sstep (hk : k < 12) {y : Int32 × gM} (h : SI L i X Y k X' y) :
    (k + 1 < 12 ∧ ∃ x2 y2, X3_readScript_L12 i (nI k) X' = some (.inl (nI (k + 1), x2)) ∧ X11_readScript_L4 (nI k) y.1 y.2 = some (.inl (nI (k + 1), y2.1, y2.2)) ∧ SI L i X Y (k + 1) x2 y2) ∨
    (∃ e d, X3_readScript_L12 i (nI k) X' = some (.inr e) ∧ X11_readScript_L4 (nI k) y.1 y.2 = some (.inr d) ∧ ∃ r X2 Y2, ct1 e = some (r, X2) ∧ ct2 d = some Y2 ∧ SE i X Y r X2 Y2) ∨
    (∃ e y' d, X3_readScript_L12 i (nI k) X' = some (.inr e) ∧ X11_readScript_L4 (nI k) y.1 y.2 = some (.inl y') ∧ X11_readScript_L4 y'.1 y'.2.1 y'.2.2 = some (.inr d) ∧ ∃ r X2 Y2, ct1 e = some (r, X2) ∧ ct2 d = some Y2 ∧ SE i X Y r X2 Y2) ∨
    (∃ e x' d, X3_readScript_L12 i (nI k) X' = some (.inl x') ∧ X3_readScript_L12 i x'.1 x'.2 = some (.inr e) ∧ X11_readScript_L4 (nI k) y.1 y.2 = some (.inr d) ∧ ∃ r X2 Y2, ct1 e = some (r, X2) ∧ ct2 d = some Y2 ∧ SE i X Y r X2 Y2) := by
  obtain ⟨y1, y2⟩ := y
  obtain ⟨i1, ⟨p, i2⟩, i3, i4, i5, i6⟩ := h
  have i1 : y1 = 1 := i1
  subst i1
  have i2 : RP L p X' y2 := i2
  have i3 : y2.1 50 0 4 = -1 := i3
  have hL := i2.1.1
  have c12 : ¬ (12 : Int32) ≤ nI k := nI_ge (a := k) (b := 12) hk (by decide)
  obtain ⟨r, s, q, X1, Y1, a1, a2, a3, a4, a5, a6, a7, a8, a9, a10, a11⟩ := j_wordR (i := 1) (Or.inr rfl) i2
  have hq5 := a5.2.2.2
  have y41 : Y1.1 50 0 4 = -1 := by rw [a11.2 50 0 4 (by omega)]; exact i3
  have xs1 : XS i X X1 := i5.tr a10.c.sp
  have ys1 : YS Y Y1 := i6.tr (a11.c fun c hc => by omega).d.sp
  have sd1 : SD i k X1 Y1 := i4.of (fun a c ha => a10.2 a i c (by omega)) (fun c => a11.2 52 5 c (by omega))
  rcases a8 with rfl | ⟨w, hw, rfl⟩
  · refine Or.inr (Or.inl ⟨.inl X1, .inl Y1, ?_, ?_, nI s, X1, wI Y1 50 0 4 (nI s), ?_, ?_, w_e, xs1, ys1.tr ⟨rfl, fun a b c hq => w_n (by omega)⟩, Or.inl ⟨s, by omega, rfl⟩⟩)
    · unfold X3_readScript_L12
      rw [if_neg c12, a1, bind_e, gU2_e, if_pos (by decide)]
    · show X11_readScript_L4 (nI k) 1 y2 = _
      unfold X11_readScript_L4
      rw [if_neg (show ¬ (1 : Int32) = 0 by decide), gLet_e, a2, bind_e, gU2_e, if_pos rfl]
    · unfold ct1
      rw [gS2_e1, a6]
    · unfold ct2
      rw [gS2_e1, sfail y41, bind_e, a7]
  · have hw : w < 9 := hw
    obtain ⟨o1, o2, o3, o4, o5, o6⟩ := offT_e hw
    have e48 : (5 : Int32) * (48 + nI k) = nI (5 * (48 + k)) := by rw [nlit 48, nI_add, nlit 5, nI_mul]
    have mod : X11_readScript_L4 (nI k) 1 y2 = X11_readScript_J66 (nI k) (nI (5 * (48 + k))) (nI w) (nI (nst w)) Y1 := by rw [x11_l4 hw a2, e48]
    obtain ⟨X2, Y2, g⟩ := j_nums (i := 5) (off := offT w) (cnt := nst w) (kd := 0) (wd := nI w) (fun k hk v M => wellT hw hk v M) o6 (by omega) o4 o5 a5 y41
    rcases g with ⟨g1, g2, g3⟩ | ⟨g1, g2, g3⟩
    · obtain ⟨⟨q2, h1⟩, h2, h3, h4, h5, h6⟩ := g3
      have e46 : X2.1 46 i 1 = nI k := by rw [h4.2 46 i 1 (by omega)]; exact sd1.1
      obtain ⟨X3, t1, t2, t3, t4, t5, t6⟩ := x5_take (X := X2) (r := nI w) (cnt := nst w) hk o3 e46
      obtain ⟨Y3, m1, m2, m3, m4⟩ := x11_88 (Y := wI Y2 52 5 (5 * (48 + k)) (nI w)) (cnt := nst w) hk o3 (nI k)
      have gx : ∀ a b c, ¬ ((a = 46 ∧ b = i) ∨ (a = 47 ∧ b = i ∧ 5 * k ≤ c ∧ c < 5 * k + 5)) → X3.1 a b c = X2.1 a b c := t6
      have gy : ∀ a b c, ¬ (a = 52 ∧ b = 5 ∧ 5 * (48 + k) ≤ c ∧ c < 5 * (48 + k) + 5) → Y3.1 a b c = Y2.1 a b c := fun a b c hq => by rw [m4 a b c (by omega), w_n (by omega)]
      have sd3 : SD i (k + 1) X3 Y3 := by
        refine ⟨t2, fun l hl => ?_⟩
        by_cases e : l = k
        · subst e
          refine ⟨w, by omega, t3, ?_, fun c c1 c2 => ⟨fun c3 => ?_, fun c3 => ?_⟩⟩
          · show Y3.1 52 5 (5 * (48 + l) + 0) = _
            rw [m4 52 5 _ (by omega), Nat.add_zero, w_e]
          · show Y3.1 52 5 (5 * (48 + l) + c) = X3.1 47 i (5 * l + c)
            rw [m2 c c1 c2, if_neg (by omega), t4 c c1 c2, if_neg (by omega), w_n (by omega), (h6 (c - 1) (by omega)).1]
          · show Y3.1 52 5 (5 * (48 + l) + c) = _
            rw [m2 c c1 c2, if_pos c3]
        · refine (sd1.2 l (by omega)).of (fun c hc => ?_) (fun c hc => ?_)
          · rw [gx 47 i _ (by omega), h4.2 47 i _ (by omega)]
          · rw [gy 52 5 _ (by omega), h5.2 52 5 _ (by omega)]
      have r3 : RP L q2 X3 Y3 := ⟨h1.1.of (fun a b c hc => gx a b c (by omega)) (fun a b c hc => gy a b c (by omega)), by rw [gx 3 0 2 (by omega)]; exact h1.2.1, by rw [gy 50 0 3 (by omega)]; exact h1.2.2.1, h1.2.2.2⟩
      have y43 : Y3.1 50 0 4 = -1 := by rw [gy 50 0 4 (by omega)]; exact h2
      have xs3 : XS i X X3 := (xs1.tr h4.sp).tr ⟨t5, fun a b c hq => gx a b c (by omega)⟩
      have ys3 : YS Y Y3 := (ys1.tr h5.sp).tr ⟨m3, fun a b c hq => gy a b c (by omega)⟩
      obtain ⟨s3, X4, Y4, b1, b2, b3, b4, b5, b6, b7⟩ := j_on r3 y43
      have hs3 := b2.2.2.2
      have xs4 : XS i X X4 := xs3.tr b5.c.sp
      have ys4 : YS Y Y4 := ys3.tr (b6.c fun c hc => by omega).d.sp
      have sd4 : SD i (k + 1) X4 Y4 := sd3.of (fun a c ha => b5.2 a i c (by omega)) (fun c => b6.2 52 5 c (by omega))
      have y44 : Y4.1 50 0 4 = -1 := by rw [b6.2 50 0 4 (by omega)]; exact y43
      have cls : X3_readScript_L12 i (nI k) X' = (X3_isAtEnd X3).bind (gU2 (fun r_19 M_20 => (if r_19 = 0 then (X3_readSign 59 M_20).bind (gU2 (fun r_23 M_24 => (if r_23 = 0 then some (.inr (.inr (.inr (.inr (.inl M_24))))) else some (.inl (nI (k + 1), M_24))))) else some (.inr (.inr (.inr (.inl M_20))))))) := by
        unfold X3_readScript_L12
        rw [if_neg c12, a1, bind_e, gU2_e, if_neg (nI_neg (by omega)), if_pos (show nI w < (9 : Int32) from (nI_ltI (a := w) (b := 9) (by omega) (by decide)).mpr hw), gG_t (gin_n (k := w) hw (by decide)), gG_t (gin_n (k := w) hw (by decide)), nI_clamp (n := w) (by omega), o1, o2, g1, bind_e, gU2_e, if_neg (show ¬ (1 : Int32) = 0 by decide), gG_t (gin_n (k := w) hw (by decide)), t1, bind_e]
        simp only [gLet_e, nI_1]
      have md : ∀ {z Yz}, X11_goesOn Y3 = some (z, Yz) → X11_readScript_L4 (nI k) 1 y2 = (if z = 0 then (if z = 0 then some (.inl (nI (k + 1), z, Yz)) else some (.inl (nI (k + 1), z, wI Yz 50 0 3 ((Yz.1 50 0 3) + 1)))) else (if nI (k + 1) = 12 then some (.inr (.inr (.inl Yz))) else (if z = 0 then some (.inl (nI (k + 1), z, Yz)) else some (.inl (nI (k + 1), z, wI Yz 50 0 3 ((Yz.1 50 0 3) + 1)))))) := fun {z Yz} ho => by
        rw [mod]
        unfold X11_readScript_J66
        rw [g2, bind_e, gG_t (gin_n (k := 5 * (48 + k)) (by omega) (by decide)), nI_clamp (n := 5 * (48 + k)) (by omega), gLet_e, m1, bind_e, gLet_e, ho, bind_e, gU2_e]
        simp only [gLet_e, nI_1]
      rcases b7 with ⟨d1, d2⟩ | ⟨d1, d2, d3, d4⟩ | ⟨d1, d2, d3⟩
      · refine Or.inr (Or.inr (Or.inl ⟨.inr (.inr (.inl X4)), (nI (k + 1), 0, Y4), .inr (.inr (nI (k + 1), Y4)), ?_, ?_, ?_, -1, X4, wI Y4 52 6 4 (nI (k + 1)), rfl, rfl, by rw [w_n (by omega)]; exact y44, xs4, ys4.tr ⟨rfl, fun a b c hq => w_n (by omega)⟩, Or.inr ⟨rfl, k + 1, by omega, by omega, sd4.of (fun _ _ _ => rfl) (fun c => w_n (by omega)), w_e⟩⟩))
        · rw [cls, d1, bind_e, gU2_e, if_neg (show ¬ (1 : Int32) = 0 by decide)]
        · show X11_readScript_L4 (nI k) 1 y2 = _
          rw [md d2, if_pos rfl, if_pos rfl]
        · show X11_readScript_L4 (nI (k + 1)) 0 Y4 = _
          unfold X11_readScript_L4
          rw [if_pos rfl]
      · by_cases k12 : k + 1 = 12
        · refine Or.inr (Or.inr (Or.inr ⟨.inr (.inr (.inr (.inr (wI X4 3 0 2 (nI (s3 + 1)))))), (nI (k + 1), wI X4 3 0 2 (nI (s3 + 1))), .inr (.inl Y4), ?_, ?_, ?_, nI s3, wI X4 3 0 2 (nI (s3 + 1)), wI Y4 50 0 4 (nI s3), ?_, ?_, w_e, xs4.tr ⟨rfl, fun a b c hq => w_n (by omega)⟩, ys4.tr ⟨rfl, fun a b c hq => w_n (by omega)⟩, Or.inl ⟨s3, by omega, rfl⟩⟩))
          · rw [cls, d1, bind_e, gU2_e, if_pos rfl, d3, bind_e, gU2_e, if_neg (show ¬ (1 : Int32) = 0 by decide)]
          · show X3_readScript_L12 i (nI (k + 1)) (wI X4 3 0 2 (nI (s3 + 1))) = _
            unfold X3_readScript_L12
            rw [k12, if_pos (by decide)]
          · show X11_readScript_L4 (nI k) 1 y2 = _
            rw [md d4, if_neg (show ¬ (1 : Int32) = 0 by decide), k12, if_pos (by decide)]
          · unfold ct1
            rw [gS2_e2, gS2_e2, gS2_e2, gS2_e2, w_n (by omega), b3]
          · unfold ct2
            rw [gS2_e2, gS2_e1, sfail y44, bind_e, b2.2.2.1]
        · refine Or.inl ⟨by omega, wI X4 3 0 2 (nI (s3 + 1)), (1, wI Y4 50 0 3 (nI (s3 + 1))), ?_, ?_, rfl, ⟨s3 + 1, b2.go d2⟩, by show (wI Y4 50 0 3 (nI (s3 + 1))).1 50 0 4 = -1; rw [w_n (by omega)]; exact y44, sd4.of (fun a c ha => w_n (by omega)) (fun c => w_n (by omega)), xs4.tr ⟨rfl, fun a b c hq => w_n (by omega)⟩, ys4.tr ⟨rfl, fun a b c hq => w_n (by omega)⟩⟩
          · rw [cls, d1, bind_e, gU2_e, if_pos rfl, d3, bind_e, gU2_e, if_neg (show ¬ (1 : Int32) = 0 by decide)]
          · show X11_readScript_L4 (nI k) 1 y2 = _
            rw [md d4, if_neg (show ¬ (1 : Int32) = 0 by decide), if_neg (show ¬ nI (k + 1) = (12 : Int32) from fun z => k12 (nI_inj (b := 12) (by omega) (by decide) z)), if_neg (show ¬ (1 : Int32) = 0 by decide), b2.2.2.1, nI_1]
      · refine Or.inr (Or.inr (Or.inl ⟨.inr (.inr (.inr (.inl X4))), (nI (k + 1), 0, wI Y4 50 0 4 (nI s3)), .inr (.inr (nI (k + 1), wI Y4 50 0 4 (nI s3))), ?_, ?_, ?_, nI s3, X4, wI (wI Y4 50 0 4 (nI s3)) 52 6 4 (nI (k + 1)), ?_, rfl, by rw [w_n (by omega), w_e], xs4, ys4.tr ⟨rfl, fun a b c hq => by rw [w_n (by omega), w_n (by omega)]⟩, Or.inl ⟨s3, by omega, rfl⟩⟩))
        · rw [cls, d1, bind_e, gU2_e, if_pos rfl, d2, bind_e, gU2_e, if_pos rfl]
        · show X11_readScript_L4 (nI k) 1 y2 = _
          rw [md d3, if_pos rfl, if_pos rfl]
        · show X11_readScript_L4 (nI (k + 1)) 0 (wI Y4 50 0 4 (nI s3)) = _
          unfold X11_readScript_L4
          rw [if_pos rfl]
        · unfold ct1
          rw [gS2_e2, gS2_e2, gS2_e2, gS2_e1, b3]
    · obtain ⟨⟨q2, h1⟩, h2, h3, h4, s2, h5, h6, h7⟩ := g3
      obtain ⟨Y3, m1, m2, m3, m4⟩ := x11_88 (Y := wI Y2 52 5 (5 * (48 + k)) (nI w)) (cnt := nst w) hk o3 (nI k)
      have r3 : RP L q2 X2 Y3 := ⟨h1.1.of (fun _ _ _ _ => rfl) (fun a b c hc => by rw [m4 a b c (by omega), w_n (by omega)]), h1.2.1, by rw [m4 50 0 3 (by omega), w_n (by omega)]; exact h1.2.2.1, h1.2.2.2⟩
      obtain ⟨s3, X4, Y4, b1, b2, b3, b4, b5, b6, b7, b8, b9⟩ := j_skip r3
      have y44 : Y4.1 50 0 4 = nI s2 := by rw [b8.2 50 0 4 (by omega), m4 50 0 4 (by omega), w_n (by omega)]; exact h6
      have on : X11_goesOn Y3 = some (0, Y4) := by
        unfold X11_goesOn
        rw [b3, bind_e, gU2_e, y44, if_neg (nI_m1 (by omega)), if_neg (nI_m1 (by omega))]
      have ys4 : YS Y Y4 := ((ys1.tr h4.sp).tr ⟨m3, fun a b c hq => by rw [m4 a b c (by omega), w_n (by omega)]⟩).tr (b8.c fun c hc => by omega).d.sp
      refine Or.inr (Or.inr (Or.inl ⟨.inr (.inl X2), (nI (k + 1), 0, Y4), .inr (.inr (nI (k + 1), Y4)), ?_, ?_, ?_, nI s2, X2, wI Y4 52 6 4 (nI (k + 1)), ?_, ?_, by rw [w_n (by omega)]; exact y44, xs1.tr h3.sp, ys4.tr ⟨rfl, fun a b c hq => w_n (by omega)⟩, Or.inl ⟨s2, h7, rfl⟩⟩))
      · unfold X3_readScript_L12
        rw [if_neg c12, a1, bind_e, gU2_e, if_neg (nI_neg (by omega)), if_pos (show nI w < (9 : Int32) from (nI_ltI (a := w) (b := 9) (by omega) (by decide)).mpr hw), gG_t (gin_n (k := w) hw (by decide)), gG_t (gin_n (k := w) hw (by decide)), nI_clamp (n := w) (by omega), o1, o2, g1, bind_e, gU2_e, if_pos rfl]
      · show X11_readScript_L4 (nI k) 1 y2 = _
        rw [mod]
        unfold X11_readScript_J66
        rw [g2, bind_e, gG_t (gin_n (k := 5 * (48 + k)) (by omega) (by decide)), nI_clamp (n := 5 * (48 + k)) (by omega), gLet_e, m1, bind_e, gLet_e, on, bind_e, gU2_e, if_pos rfl, if_pos rfl, nI_1]
      · show X11_readScript_L4 (nI (k + 1)) 0 Y4 = _
        unfold X11_readScript_L4
        rw [if_pos rfl]
      · unfold ct1
        rw [gS2_e2, gS2_e1, h5]
      · rfl
theorem j_script (hi : i < 5) (h : TS L X Y) (x0 : Y.1 50 0 3 = nI 0) (y4 : Y.1 50 0 4 = -1) : ∃ r X' Y', X3_readScript i X = some (r, X') ∧ X11_readScript Y = some Y' ∧ SE i X Y r X' Y' := by
  have hL := h.1
  have r0 : RP L 0 (wI (wI X 46 i 1 0) 3 0 2 0) Y := ⟨h.of (fun a b c hc => by rw [w_n (by omega), w_n (by omega)]) (fun _ _ _ _ => rfl), w_e, x0, by omega⟩
  obtain ⟨e, d, f1, f2, r, X2, Y2, f3, f4, f5⟩ := gI2z (s1 := fun z : Int32 × gM => X3_readScript_L12 i z.1 z.2) (s2 := fun z : Int32 × Int32 × gM => X11_readScript_L4 z.1 z.2.1 z.2.2) (fun k (x : gM) => (nI k, x)) (fun k (y : Int32 × gM) => (nI k, y.1, y.2)) (SI L i X Y) (fun e d => ∃ r X2 Y2, ct1 e = some (r, X2) ∧ ct2 d = some Y2 ∧ SE i X Y r X2 Y2) 12
    (fun k x y hk hR => j_sstep hk hR) 11 0 FU (wI (wI X 46 i 1 0) 3 0 2 0) (1, Y) (by omega) (FU_gt (by omega)) ⟨rfl, ⟨0, r0⟩, y4, ⟨by rw [w_n (by omega), w_e]; rfl, fun l hl => absurd hl (by omega)⟩, ⟨rfl, fun a b c hq => by rw [w_n (by omega), w_n (by omega)]⟩, ⟨rfl, fun _ _ _ _ => rfl⟩⟩
  have f1 : gIter (fun z : Int32 × gM => X3_readScript_L12 i z.1 z.2) FU (0, wI (wI X 46 i 1 0) 3 0 2 0) = some e := f1
  have f2 : gIter (fun z : Int32 × Int32 × gM => X11_readScript_L4 z.1 z.2.1 z.2.2) FU (0, 1, Y) = some d := f2
  refine ⟨r, X2, Y2, ?_, ?_, f5⟩
  · unfold X3_readScript
    rw [gLet_e, gLet_e, f1, bind_e]
    exact f3
  · unfold X11_readScript
    rw [f2, bind_e]
    exact f4
end SQ
