/-! the scene is read on both sides -/
noncomputable def ct3 : (gM ⊕ (gM ⊕ (gM ⊕ (gM ⊕ (gM ⊕ gM))))) → Option (Int32 × gM) := gS2 (fun M_33 => some ((M_33.1 3 0 3), M_33)) (gS2 (fun M_34 => some ((M_34.1 3 0 3), M_34)) (gS2 (fun M_35 => some ((M_35.1 3 0 3), M_35)) (gS2 (fun M_36 => (if (M_36.1 5 0 5) = 0 then some ((M_36.1 1 0 1), M_36) else some ((-1), M_36))) (gS2 (fun M_38 => some ((M_38.1 3 0 3), M_38)) (fun M_39 => some ((M_39.1 3 0 3), M_39))))))
noncomputable def ct4 : gM → Option gM := fun M_13 => (if (M_13.1 50 0 4) = (-1) then (if (M_13.1 50 0 15) = 0 then (X11_fails (M_13.1 50 0 3) M_13).bind (fun M_17 => some M_17) else some M_13) else some M_13)
/-- how it ended: r is what fault answers -/
def CE (X0 Y0 : gM) (r : Int32) (X Y : gM) : Prop := Y.1 50 0 4 = r ∧ XT X0 X ∧ YT Y0 Y ∧ ((∃ s, s ≤ 480 ∧ r = nI s) ∨ (r = -1 ∧ DRr X Y ∧ ∃ n, 1 ≤ n ∧ DRt n X Y))
/-- while it is read -/
def CI (L : Nat) (X0 Y0 : gM) (k : Nat) (x y : Int32 × gM) : Prop := (∃ q, RP L q x.2 y.2) ∧ y.2.1 50 0 4 = -1 ∧ (∀ i, i < 8 → bi x.1 i = bi y.1 i) ∧ DRr x.2 y.2 ∧ (∃ n, DRt n x.2 y.2 ∧ k = cbt x.1 + n) ∧ XT X0 x.2 ∧ YT Y0 y.2
section SC
variable {L p q k i w st s n : Nat} {X Y X' Y' X'' Y'' M Y1 : gM} {mc mm m2 : Int32}
theorem atend (h : RP L p X Y) (e : X3_isAtEnd X = some (1, X')) (h' : RP L q X' Y') : q = L := by
  have hL := h.1.1
  obtain ⟨s3, X4, Y4, b1, b2, b3, b4, b5, b6, b7, b8, b9⟩ := j_skip h
  unfold X3_isAtEnd at e
  rw [b2, bind_e] at e
  by_cases c : X4.1 3 0 2 < X4.1 1 0 1
  · rw [if_pos c] at e
    have e1 : (0 : Int32) = 1 := congrArg Prod.fst (Option.some.inj e)
    exact absurd e1 (by decide)
  · rw [if_neg c] at e
    have e1 : X4 = X' := congrArg Prod.snd (Option.some.inj e)
    subst e1
    have hq := h'.2.2.2
    rw [h'.2.1, h'.1.2.1] at c
    have : ¬ q < L := fun z => c ((nI_ltI (by omega) (by omega)).mpr z)
    omega
theorem j_cstep (hk : k < 20) {x y : Int32 × gM} (h : CI L X Y k x y) :
    (k + 1 < 20 ∧ ∃ x2 y2 : Int32 × gM, X3_readScene_L13 0 x.1 (nI k) x.2 = some (.inl (x2.1, nI (k + 1), x2.2)) ∧ X11_readScene_L13 y.1 1 y.2 = some (.inl (y2.1, 1, y2.2)) ∧ CI L X Y (k + 1) x2 y2) ∨
    (∃ e d, X3_readScene_L13 0 x.1 (nI k) x.2 = some (.inr e) ∧ X11_readScene_L13 y.1 1 y.2 = some (.inr d) ∧ ∃ r X2 Y2, ct3 e = some (r, X2) ∧ ct4 d = some Y2 ∧ CE X Y r X2 Y2) ∨
    (∃ e y' d, X3_readScene_L13 0 x.1 (nI k) x.2 = some (.inr e) ∧ X11_readScene_L13 y.1 1 y.2 = some (.inl y') ∧ X11_readScene_L13 y'.1 y'.2.1 y'.2.2 = some (.inr d) ∧ ∃ r X2 Y2, ct3 e = some (r, X2) ∧ ct4 d = some Y2 ∧ CE X Y r X2 Y2) ∨
    (∃ e x' d, X3_readScene_L13 0 x.1 (nI k) x.2 = some (.inl x') ∧ X3_readScene_L13 0 x'.1 x'.2.1 x'.2.2 = some (.inr e) ∧ X11_readScene_L13 y.1 1 y.2 = some (.inr d) ∧ ∃ r X2 Y2, ct3 e = some (r, X2) ∧ ct4 d = some Y2 ∧ CE X Y r X2 Y2) := by
  obtain ⟨mc, X0⟩ := x
  obtain ⟨mm, Y0⟩ := y
  obtain ⟨⟨p, i2⟩, i3, i4, i5, ⟨n, i6, i7⟩, i8, i9⟩ := h
  have i2 : RP L p X0 Y0 := i2
  have i3 : Y0.1 50 0 4 = -1 := i3
  have i4 : ∀ i, i < 8 → bi mc i = bi mm i := i4
  have i5 : DRr X0 Y0 := i5
  have i6 : DRt n X0 Y0 := i6
  have i7 : k = cbt mc + n := i7
  have i8 : XT X X0 := i8
  have i9 : YT Y Y0 := i9
  have hL := i2.1.1
  have hn := i6.1
  have hcb := cbt_le mc
  show (k + 1 < 20 ∧ ∃ x2 y2 : Int32 × gM, X3_readScene_L13 0 mc (nI k) X0 = some (.inl (x2.1, nI (k + 1), x2.2)) ∧ X11_readScene_L13 mm 1 Y0 = some (.inl (y2.1, 1, y2.2)) ∧ CI L X Y (k + 1) x2 y2) ∨
    (∃ e d, X3_readScene_L13 0 mc (nI k) X0 = some (.inr e) ∧ X11_readScene_L13 mm 1 Y0 = some (.inr d) ∧ ∃ r X2 Y2, ct3 e = some (r, X2) ∧ ct4 d = some Y2 ∧ CE X Y r X2 Y2) ∨
    (∃ e y' d, X3_readScene_L13 0 mc (nI k) X0 = some (.inr e) ∧ X11_readScene_L13 mm 1 Y0 = some (.inl y') ∧ X11_readScene_L13 y'.1 y'.2.1 y'.2.2 = some (.inr d) ∧ ∃ r X2 Y2, ct3 e = some (r, X2) ∧ ct4 d = some Y2 ∧ CE X Y r X2 Y2) ∨
    (∃ e x' d, X3_readScene_L13 0 mc (nI k) X0 = some (.inl x') ∧ X3_readScene_L13 0 x'.1 x'.2.1 x'.2.2 = some (.inr e) ∧ X11_readScene_L13 mm 1 Y0 = some (.inr d) ∧ ∃ r X2 Y2, ct3 e = some (r, X2) ∧ ct4 d = some Y2 ∧ CE X Y r X2 Y2)
  have c480 : ¬ (480 : Int32) < nI k := fun z => absurd ((nI_ltI (a := 480) (b := k) (by decide) (by omega)).mp z) (by omega)
  obtain ⟨r, s, q, X1, Y1, a1, a2, a3, a4, a5, a6, a7, a8, a9, a10, a11⟩ := j_wordR (i := 0) (Or.inl rfl) i2
  have hq5 := a5.2.2.2
  have y41 : Y1.1 50 0 4 = -1 := by rw [a11.2 50 0 4 (by omega)]; exact i3
  have xs1 : XT X X1 := i8.tr a10.c.tp
  have ys1 : YT Y Y1 := i9.tr (a11.c fun c hc => by omega).d.tp
  have dr1 : DRr X1 Y1 := i5.of (fun a b c hc => a10.2 a b c (by omega)) (fun c => a11.2 52 1 c (by omega))
  have dt1 : DRt n X1 Y1 := i6.of (fun a b c hc => a10.2 a b c (by omega)) (fun a b c hc => a11.2 a b c (by omega))
  -- a fault in a clause
  have bad : ∀ {e X2 Y2 m2 s2}, X3_readScene_L13 0 mc (nI k) X0 = some (.inr e) → ct3 e = some (X2.1 3 0 3, X2) → X2.1 3 0 3 = nI s2 → s2 ≤ 480 → X11_readClause mm Y0 = some (m2, Y2) → Y2.1 50 0 4 = nI s2 → (∃ q, RP L q X2 Y2) → XT X X2 → YT Y Y2 → (∃ e y' d, X3_readScene_L13 0 mc (nI k) X0 = some (.inr e) ∧ X11_readScene_L13 mm 1 Y0 = some (.inl y') ∧ X11_readScene_L13 y'.1 y'.2.1 y'.2.2 = some (.inr d) ∧ ∃ r X2 Y2, ct3 e = some (r, X2) ∧ ct4 d = some Y2 ∧ CE X Y r X2 Y2) := fun {e X2 Y2 m2 s2} g1 g2 g3 g4 g5 g6 g7 g8 g9 => by
    obtain ⟨q2, g7⟩ := g7
    obtain ⟨Y3, f1, f2, f3, f4⟩ := c_fail g7 g6 g4 g5
    refine ⟨e, (m2, 0, Y3), Y3, g1, f1, f2, nI s2, X2, Y3, by rw [g2, g3], ?_, f3, g8, g9.tr (f4.c fun c hc => by omega).d.tp, Or.inl ⟨s2, g4, rfl⟩⟩
    unfold ct4
    rw [f3, if_neg (nI_m1 (by omega))]
  have rpw : ∀ {X2 Y2 q v}, RP L q X2 Y2 → RP L q X2 (wI Y2 50 0 4 v) := fun {X2 Y2 q v} hr => ⟨hr.1.of (fun _ _ _ _ => rfl) (fun a b c hc => w_n (by omega)), hr.2.1, by rw [w_n (by omega)]; exact hr.2.2.1, hr.2.2.2⟩
  have ytw : YT Y (wI Y1 50 0 4 (nI s)) := ys1.tr ⟨rfl, fun a b c hq => w_n (by omega)⟩
  rcases a8 with rfl | ⟨w, hw, rfl⟩
  · refine Or.inr (Or.inr (Or.inl (bad (e := .inl X1) (X2 := X1) (Y2 := wI Y1 50 0 4 (nI s)) (m2 := mm) (s2 := s) ?_ rfl a6 (by omega) ?_ w_e ⟨q, rpw a5⟩ xs1 ytw)))
    · unfold X3_readScene_L13
      rw [if_neg c480, a1, bind_e, gU2_e, if_pos (by decide)]
    · unfold X11_readClause
      rw [a2, bind_e, gU2_e, if_pos rfl, sfail y41, bind_e, a7]
  · have hw : w < 12 := hw
    obtain ⟨o1, o2, o3, o4, o5, o6⟩ := offS_e hw
    have ag := x3_again (mc := mc) hw dt1.2.1 hn
    have c12 : ¬ (12 : Int32) ≤ nI w := nI_ge (a := w) (b := 12) hw (by decide)
    by_cases ha : (w < 8 ∧ bi mc w = true) ∨ (8 ≤ w ∧ n = 10)
    · have ha' : (w < 8 ∧ bi mm w = true) ∨ (8 ≤ w ∧ n = 10) := ha.imp (fun z => ⟨z.1, by rw [← i4 w z.1]; exact z.2⟩) id
      refine Or.inr (Or.inr (Or.inl (bad (e := .inl X1) (X2 := X1) (Y2 := wI Y1 50 0 4 (nI s)) (m2 := mm) (s2 := s) ?_ rfl a6 (by omega) (x11_cbad a2 hw a7 y41 dt1.2.2.1 hn ha') w_e ⟨q, rpw a5⟩ xs1 ytw)))
      unfold X3_readScene_L13
      rw [if_neg c480, a1, bind_e, gU2_e, if_neg (nI_neg (by omega)), if_neg c12, ag, if_pos ha, bind_e, if_neg (show ¬ (1 : Int32) = 0 by decide)]
    · have ha' : ¬ ((w < 8 ∧ bi mm w = true) ∨ (8 ≤ w ∧ n = 10)) := fun z => ha (z.imp (fun z => ⟨z.1, by rw [i4 w z.1]; exact z.2⟩) id)
      have mod := x11_cok (mm := mm) a2 hw dt1.2.2.1 hn ha'
      have cls : X3_readScene_L13 0 mc (nI k) X0 = (X3_readNumbers 2 (nI (offS w)) (nI (cntS w)) X1).bind (gU2 (fun r_17 M_18 => (if r_17 = 0 then some (.inr (.inr (.inl M_18))) else (if nI w = 2 then (if (M_18.1 4 0 0) = 3 then some (.inr (.inr (.inr (.inl M_18)))) else X3_readScene_J112 0 (mc ||| (1 <<< (nI w &&& 31))) (nI k) (nI w) M_18) else X3_readScene_J112 0 (mc ||| (1 <<< (nI w &&& 31))) (nI k) (nI w) M_18)))) := by
        unfold X3_readScene_L13
        rw [if_neg c480, a1, bind_e, gU2_e, if_neg (nI_neg (by omega)), if_neg c12, ag, if_neg ha, bind_e, if_pos rfl, gLet_e, gG_t (gin_n (k := w) hw (by decide)), gG_t (gin_n (k := w) hw (by decide)), nI_clamp (n := w) (by omega), o1, o2]
      have ne2 : w ≠ 2 → ¬ nI w = (2 : Int32) := fun z z' => z (nI_inj (b := 2) (by omega) (by decide) z')
      -- numbers that are not well
      have nfb : ∀ {X2 Y2 e}, X3_readScene_L13 0 mc (nI k) X0 = some (.inr e) → ct3 e = some (X2.1 3 0 3, X2) → X11_readNumbers (nI (cntS w)) 1 (nI w) Y1 = some Y2 → NF L X1 Y1 X2 Y2 → (∃ e y' d, X3_readScene_L13 0 mc (nI k) X0 = some (.inr e) ∧ X11_readScene_L13 mm 1 Y0 = some (.inl y') ∧ X11_readScene_L13 y'.1 y'.2.1 y'.2.2 = some (.inr d) ∧ ∃ r X2 Y2, ct3 e = some (r, X2) ∧ ct4 d = some Y2 ∧ CE X Y r X2 Y2) := fun {X2 Y2 e} g1 g2 g3 g4 => by
        obtain ⟨h1, h2, h3, h4, s2, h5, h6, h7⟩ := g4
        refine bad (m2 := mm) (Y2 := Y2) g1 g2 h5 h7 ?_ h6 h1 (xs1.tr h3.tp) (ys1.tr h4.tp)
        rw [mod]
        unfold X11_readClause_J72
        rw [g3, bind_e, h6, if_neg (nI_m1 (by omega))]
      -- numbers that are well
      have good : ∀ {X2 Y2}, X3_readScene_L13 0 mc (nI k) X0 = X3_readScene_J112 0 (mc ||| (1 <<< (nI w &&& 31))) (nI k) (nI w) X2 → X11_readNumbers (nI (cntS w)) 1 (nI w) Y1 = some Y2 → (∃ q, RP L q X2 Y2) → Y2.1 50 0 4 = -1 → XC X1 X2 → YD0 Y1 Y2 → X2.1 4 0 0 = Y2.1 52 0 0 → (w = 2 → X2.1 4 0 0 = 1 ∨ X2.1 4 0 0 = 2 ∨ X2.1 4 0 0 = 4) → (w ≠ 2 → ∀ j, j < cntS w → X2.1 4 0 j = Y2.1 52 0 j ∧ rlo2 2 (offS w) j ≤ X2.1 4 0 j ∧ X2.1 4 0 j ≤ rhi2 2 (offS w) j) →
          (k + 1 < 20 ∧ ∃ x2 y2 : Int32 × gM, X3_readScene_L13 0 mc (nI k) X0 = some (.inl (x2.1, nI (k + 1), x2.2)) ∧ X11_readScene_L13 mm 1 Y0 = some (.inl (y2.1, 1, y2.2)) ∧ CI L X Y (k + 1) x2 y2) ∨ (∃ e y' d, X3_readScene_L13 0 mc (nI k) X0 = some (.inr e) ∧ X11_readScene_L13 mm 1 Y0 = some (.inl y') ∧ X11_readScene_L13 y'.1 y'.2.1 y'.2.2 = some (.inr d) ∧ ∃ r X2 Y2, ct3 e = some (r, X2) ∧ ct4 d = some Y2 ∧ CE X Y r X2 Y2) := fun {X2 Y2} g1 g2 g3 g4 g5 g6 g7 g8 g9 => by
        obtain ⟨q2, g3⟩ := g3
        have dr2 : DRr X2 Y2 := dr1.of (fun a b c hc => g5.2 a b c (by omega)) (fun c => g6.2 52 1 c (by omega))
        have dt2 : DRt n X2 Y2 := dt1.of (fun a b c hc => g5.2 a b c (by omega)) (fun a b c hc => g6.2 a b c (by omega))
        obtain ⟨X3, Y3, m', n', t1, t2, t3, t4, t5, t6, t7, t8, t9, t10⟩ := c_take (mm := mm) hw dt2 dr2 (by omega) g7 g8 g9 g2 g4
        have hn' := t4.1
        have r3 : RP L q2 X3 Y3 := ⟨g3.1.of (fun a b c hc => t8 a b c (by omega)) (fun a b c hc => t10 a b c (by omega)), by rw [t8 3 0 2 (by omega)]; exact g3.2.1, by rw [t10 50 0 3 (by omega)]; exact g3.2.2.1, g3.2.2.2⟩
        have y43 : Y3.1 50 0 4 = -1 := by rw [t10 50 0 4 (by omega)]; exact g4
        have xs3 : XT X X3 := (xs1.tr g5.tp).tr ⟨t7, fun a b c hq => t8 a b c (by omega)⟩
        have ys3 : YT Y Y3 := (ys1.tr g6.tp).tr ⟨t9, fun a b c hq => t10 a b c (by omega)⟩
        have em : ∀ i, i < 8 → bi (mc ||| (1 <<< (nI w &&& 31))) i = bi m' i := fun i hi => by
          by_cases h8 : w < 8
          · rw [(t5 h8).2, m_or hw hi, m_or hw hi, i4 i hi]
          · rw [(t6 (by omega)).2, m_or hw hi, i4 i hi, decide_eq_false (show ¬ i = w by omega), Bool.or_false]
        have ek : k + 1 = cbt (mc ||| (1 <<< (nI w &&& 31))) + n' := by
          by_cases h8 : w < 8
          · have hb : bi mc w = false := by
              cases hb : bi mc w with
              | false => rfl
              | true => exact absurd (Or.inl ⟨h8, hb⟩) ha
            rw [cbt_up h8 hb (fun i hi => m_or hw hi), (t5 h8).1]
            omega
          · rw [cbt_eq (m := mc) (fun i hi => by rw [m_or hw hi, decide_eq_false (show ¬ i = w by omega), Bool.or_false]), (t6 (by omega)).1]
            omega
        have hcb' := cbt_le (mc ||| (1 <<< (nI w &&& 31)))
        obtain ⟨s3, X4, Y4, b1, b2, b3, b4, b5, b6, b7⟩ := j_on r3 y43
        have hs3 := b2.2.2.2
        have xs4 : XT X X4 := xs3.tr b5.c.tp
        have ys4 : YT Y Y4 := ys3.tr (b6.c fun c hc => by omega).d.tp
        have dr4 : DRr X4 Y4 := t3.of (fun a b c hc => b5.2 a b c (by omega)) (fun c => b6.2 52 1 c (by omega))
        have dt4 : DRt n' X4 Y4 := t4.of (fun a b c hc => b5.2 a b c (by omega)) (fun a b c hc => b6.2 a b c (by omega))
        have y44 : Y4.1 50 0 4 = -1 := by rw [b6.2 50 0 4 (by omega)]; exact y43
        have cl : X3_readScene_L13 0 mc (nI k) X0 = (X3_isAtEnd X3).bind (gU2 (fun r_24 M_25 => (if r_24 = 0 then (X3_readSign 59 M_25).bind (gU2 (fun r_28 M_29 => (if r_28 = 0 then some (.inr (.inr (.inr (.inr (.inr (.inl M_29)))))) else some (.inl ((mc ||| (1 <<< (nI w &&& 31))), nI (k + 1), M_29))))) else some (.inr (.inr (.inr (.inr (.inl M_25)))))))) := by
          rw [g1]
          unfold X3_readScene_J112
          rw [t1, bind_e]
          simp only [gLet_e, nI_1]
        have md : ∀ {z Yz}, X11_goesOn Y3 = some (z, Yz) → X11_readScene_L13 mm 1 Y0 = (if z = 0 then some (.inl (m', z, Yz)) else some (.inl (m', z, wI Yz 50 0 3 ((Yz.1 50 0 3) + 1)))) := fun {z Yz} ho => by
          unfold X11_readScene_L13
          rw [if_neg (show ¬ (1 : Int32) = 0 by decide), mod, t2, bind_e, gU2_e, ho, bind_e, gU2_e]
          simp only [gLet_e]
        have stop : ∀ y, X11_readScene_L13 m' 0 y = some (.inr y) := fun y => by
          unfold X11_readScene_L13
          rw [if_pos rfl]
        rcases b7 with ⟨d1, d2⟩ | ⟨d1, d2, d3, d4⟩ | ⟨d1, d2, d3⟩
        · have eL := atend r3 d1 b2
          have hc1 : X3_readScene_L13 0 mc (nI k) X0 = some (.inr (.inr (.inr (.inr (.inl X4))))) := by rw [cl, d1, bind_e, gU2_e, if_neg (show ¬ (1 : Int32) = 0 by decide)]
          have hm1 : X11_readScene_L13 mm 1 Y0 = some (.inl (m', 0, Y4)) := by rw [md d2, if_pos rfl]
          by_cases hz : n' = 0
          · refine Or.inr ⟨_, (m', 0, Y4), Y4, hc1, hm1, stop Y4, nI L, X4, wI Y4 50 0 4 (nI L), ?_, ?_, w_e, xs4, ys4.tr ⟨rfl, fun a b c hq => w_n (by omega)⟩, Or.inl ⟨L, by omega, rfl⟩⟩
            · unfold ct3
              rw [gS2_e2, gS2_e2, gS2_e2, gS2_e1, dt4.2.1, hz, if_pos (by decide), b2.1.2.1]
            · unfold ct4
              rw [if_pos y44, dt4.2.2.1, hz, if_pos (by decide), sfail y44, bind_e, b2.2.2.1, eL]
          · have nz : ¬ nI n' = (0 : Int32) := fun z => hz (nI_inj (b := 0) (by omega) (by decide) z)
            refine Or.inr ⟨_, (m', 0, Y4), Y4, hc1, hm1, stop Y4, -1, X4, Y4, ?_, ?_, y44, xs4, ys4, Or.inr ⟨rfl, dr4, n', by omega, dt4⟩⟩
            · unfold ct3
              rw [gS2_e2, gS2_e2, gS2_e2, gS2_e1, dt4.2.1, if_neg nz]
            · unfold ct4
              rw [if_pos y44, dt4.2.2.1, if_neg nz]
        · refine Or.inl ⟨by omega, ((mc ||| (1 <<< (nI w &&& 31))), wI X4 3 0 2 (nI (s3 + 1))), (m', wI Y4 50 0 3 (nI (s3 + 1))), ?_, ?_, ⟨s3 + 1, b2.go d2⟩, by show (wI Y4 50 0 3 (nI (s3 + 1))).1 50 0 4 = -1; rw [w_n (by omega)]; exact y44, em, dr4.of (fun a b c hc => w_n (by omega)) (fun c => w_n (by omega)), ⟨n', dt4.of (fun a b c hc => w_n (by omega)) (fun a b c hc => w_n (by omega)), ek⟩, xs4.tr ⟨rfl, fun a b c hq => w_n (by omega)⟩, ys4.tr ⟨rfl, fun a b c hq => w_n (by omega)⟩⟩
          · rw [cl, d1, bind_e, gU2_e, if_pos rfl, d3, bind_e, gU2_e, if_neg (show ¬ (1 : Int32) = 0 by decide)]
          · rw [md d4, if_neg (show ¬ (1 : Int32) = 0 by decide), b2.2.2.1, nI_1]
        · refine Or.inr ⟨.inr (.inr (.inr (.inr (.inl X4)))), (m', 0, wI Y4 50 0 4 (nI s3)), wI Y4 50 0 4 (nI s3), ?_, ?_, stop _, nI s3, X4, wI Y4 50 0 4 (nI s3), ?_, ?_, w_e, xs4, ys4.tr ⟨rfl, fun a b c hq => w_n (by omega)⟩, Or.inl ⟨s3, by omega, rfl⟩⟩
          · rw [cl, d1, bind_e, gU2_e, if_pos rfl, d2, bind_e, gU2_e, if_pos rfl]
          · rw [md d3, if_pos rfl]
          · unfold ct3
            rw [gS2_e2, gS2_e2, gS2_e2, gS2_e2, gS2_e1, b3]
          · unfold ct4
            rw [w_e, if_neg (nI_m1 (by omega))]
      have fin : ∀ {P Q : Prop}, (P ∨ (∃ e y' d, X3_readScene_L13 0 mc (nI k) X0 = some (.inr e) ∧ X11_readScene_L13 mm 1 Y0 = some (.inl y') ∧ X11_readScene_L13 y'.1 y'.2.1 y'.2.2 = some (.inr d) ∧ ∃ r X2 Y2, ct3 e = some (r, X2) ∧ ct4 d = some Y2 ∧ CE X Y r X2 Y2)) → P ∨ Q ∨ (∃ e y' d, X3_readScene_L13 0 mc (nI k) X0 = some (.inr e) ∧ X11_readScene_L13 mm 1 Y0 = some (.inl y') ∧ X11_readScene_L13 y'.1 y'.2.1 y'.2.2 = some (.inr d) ∧ ∃ r X2 Y2, ct3 e = some (r, X2) ∧ ct4 d = some Y2 ∧ CE X Y r X2 Y2) ∨ (∃ e x' d, X3_readScene_L13 0 mc (nI k) X0 = some (.inl x') ∧ X3_readScene_L13 0 x'.1 x'.2.1 x'.2.2 = some (.inr e) ∧ X11_readScene_L13 mm 1 Y0 = some (.inr d) ∧ ∃ r X2 Y2, ct3 e = some (r, X2) ∧ ct4 d = some Y2 ∧ CE X Y r X2 Y2) := fun {P Q} h => h.elim Or.inl (fun z => Or.inr (Or.inr (Or.inl z)))
      by_cases h2 : w = 2
      · subst h2
        obtain ⟨X2, Y2, g0, g⟩ := j_many a5 y41
        have cls : X3_readScene_L13 0 mc (nI k) X0 = (X3_readNumbers 2 (nI 3) (nI 1) X1).bind (gU2 (fun r_17 M_18 => (if r_17 = 0 then some (.inr (.inr (.inl M_18))) else (if nI 2 = 2 then (if (M_18.1 4 0 0) = 3 then some (.inr (.inr (.inr (.inl M_18)))) else X3_readScene_J112 0 (mc ||| (1 <<< (nI 2 &&& 31))) (nI k) (nI 2) M_18) else X3_readScene_J112 0 (mc ||| (1 <<< (nI 2 &&& 31))) (nI k) (nI 2) M_18)))) := cls
        rcases g with ⟨g1, g2, g3, ⟨q2, -, g4⟩, g5, g6, g7, g8⟩ | ⟨g1, g2⟩ | ⟨g1, g2, g3⟩
        · refine fin (good (X2 := X2) (Y2 := Y2) ?_ g0 ⟨q2, g4⟩ g5 g7 g8 g3 (fun _ => g2) (fun z => absurd rfl z))
          have n3 : ¬ X2.1 4 0 0 = 3 := by rcases g2 with z | z | z <;> rw [z] <;> decide
          rw [cls, g1, bind_e, gU2_e, if_neg (show ¬ (1 : Int32) = 0 by decide), if_pos (show nI 2 = (2 : Int32) from rfl), if_neg n3]
        · exact Or.inr (Or.inr (Or.inl (nfb (e := .inr (.inl X2)) (by rw [cls, g1, bind_e, gU2_e, if_pos rfl]) rfl g0 g2)))
        · exact Or.inr (Or.inr (Or.inl (nfb (e := .inr (.inr (.inl X2))) (by rw [cls, g1, bind_e, gU2_e, if_neg (show ¬ (1 : Int32) = 0 by decide), if_pos (show nI 2 = (2 : Int32) from rfl), if_pos g2]) rfl g0 g3)))
      · obtain ⟨X2, Y2, g⟩ := j_nums (i := 2) (off := offS w) (cnt := cntS w) (kd := 1) (wd := nI w) (fun k hk v M => wellS hw h2 hk v M) o6 o3 o4 o5 a5 y41
        have pos : 0 < cntS w := by
          rcases (show w = 0 ∨ w = 1 ∨ w = 2 ∨ w = 3 ∨ w = 4 ∨ w = 5 ∨ w = 6 ∨ w = 7 ∨ w = 8 ∨ w = 9 ∨ w = 10 ∨ w = 11 by omega) with rfl | rfl | rfl | rfl | rfl | rfl | rfl | rfl | rfl | rfl | rfl | rfl <;> decide
        rcases g with ⟨g1, g2, g3⟩ | ⟨g1, g2, g3⟩
        · obtain ⟨h1, h2', h3, h4, h5, h6⟩ := g3
          refine fin (good (X2 := X2) (Y2 := Y2) ?_ g2 h1 h2' h4 h5 (h6 0 pos).1 (fun z => absurd z h2) (fun _ => h6))
          rw [cls, g1, bind_e, gU2_e, if_neg (show ¬ (1 : Int32) = 0 by decide), if_neg (ne2 h2)]
        · exact Or.inr (Or.inr (Or.inl (nfb (e := .inr (.inl X2)) (by rw [cls, g1, bind_e, gU2_e, if_pos rfl]) rfl g2 g3)))
theorem j_scene (h : TS L X Y) (x0 : Y.1 50 0 3 = nI 0) (y4 : Y.1 50 0 4 = -1) : ∃ r X' Y', X3_readScene 0 X = some (r, X') ∧ X11_readScene Y = some Y' ∧ CE X Y r X' Y' := by
  have hL := h.1
  obtain ⟨Xa, ea, xa1, xa2, xa3, xa4⟩ : ∃ Xa, X4_reset 0 X = some Xa ∧ (∀ j, j < 9 → cx j Xa = ([8, 8, 4, 1, 0, 0, 0, 1, 10] : List Int32).getD j 0) ∧ Xa.1 5 0 5 = 0 ∧ Xa.2 = X.2 ∧ ∀ a b c, ¬ (5 ≤ a ∧ a ≤ 6 ∧ b = 0) → Xa.1 a b c = X.1 a b c := by
    refine ⟨wI (wI (wI (wI (wI (wI (wI (wI (wI (wI X 5 0 0 8) 5 0 1 8) 5 0 2 4) 5 0 3 1) 5 0 4 0) 5 0 5 0) 6 0 0 0) 6 0 1 0) 6 0 2 1) 6 0 3 10, ?_, fun j hj => ?_, ?_, rfl, fun a b c hq => ?_⟩
    · unfold X4_reset
      simp only [gLet_e]
    · unfold cx
      rcases (show j = 0 ∨ j = 1 ∨ j = 2 ∨ j = 3 ∨ j = 4 ∨ j = 5 ∨ j = 6 ∨ j = 7 ∨ j = 8 by omega) with rfl | rfl | rfl | rfl | rfl | rfl | rfl | rfl | rfl
      · rw [if_pos (by decide), w_n (by omega), w_n (by omega), w_n (by omega), w_n (by omega), w_n (by omega), w_n (by omega), w_n (by omega), w_n (by omega), w_n (by omega), w_e]; rfl
      · rw [if_pos (by decide), w_n (by omega), w_n (by omega), w_n (by omega), w_n (by omega), w_n (by omega), w_n (by omega), w_n (by omega), w_n (by omega), w_e]; rfl
      · rw [if_pos (by decide), w_n (by omega), w_n (by omega), w_n (by omega), w_n (by omega), w_n (by omega), w_n (by omega), w_n (by omega), w_e]; rfl
      · rw [if_pos (by decide), w_n (by omega), w_n (by omega), w_n (by omega), w_n (by omega), w_n (by omega), w_n (by omega), w_e]; rfl
      · rw [if_pos (by decide), w_n (by omega), w_n (by omega), w_n (by omega), w_n (by omega), w_n (by omega), w_e]; rfl
      · rw [if_neg (by decide), w_n (by omega), w_n (by omega), w_n (by omega), w_e]; rfl
      · rw [if_neg (by decide), w_n (by omega), w_n (by omega), w_e]; rfl
      · rw [if_neg (by decide), w_n (by omega), w_e]; rfl
      · rw [if_neg (by decide), w_e]; rfl
    · rw [w_n (by omega), w_n (by omega), w_n (by omega), w_n (by omega), w_e]
    · rw [w_n (by omega), w_n (by omega), w_n (by omega), w_n (by omega), w_n (by omega), w_n (by omega), w_n (by omega), w_n (by omega), w_n (by omega), w_n (by omega)]
  obtain ⟨Ya, eb, ya1, ya3, ya4⟩ : ∃ Ya, X11_usualRules Y = some Ya ∧ (∀ j, j < 9 → Ya.1 52 1 j = ([8, 8, 4, 1, 0, 0, 0, 1, 10] : List Int32).getD j 0) ∧ Ya.2 = Y.2 ∧ ∀ a b c, ¬ (a = 52 ∧ b = 1) → Ya.1 a b c = Y.1 a b c := by
    refine ⟨wI (wI (wI (wI (wI (wI (wI (wI (wI Y 52 1 0 8) 52 1 1 8) 52 1 2 4) 52 1 3 1) 52 1 4 0) 52 1 5 0) 52 1 6 0) 52 1 7 1) 52 1 8 10, ?_, fun j hj => ?_, rfl, fun a b c hq => ?_⟩
    · unfold X11_usualRules
      simp only [gLet_e]
    · rcases (show j = 0 ∨ j = 1 ∨ j = 2 ∨ j = 3 ∨ j = 4 ∨ j = 5 ∨ j = 6 ∨ j = 7 ∨ j = 8 by omega) with rfl | rfl | rfl | rfl | rfl | rfl | rfl | rfl | rfl
      · rw [w_n (by omega), w_n (by omega), w_n (by omega), w_n (by omega), w_n (by omega), w_n (by omega), w_n (by omega), w_n (by omega), w_e]; rfl
      · rw [w_n (by omega), w_n (by omega), w_n (by omega), w_n (by omega), w_n (by omega), w_n (by omega), w_n (by omega), w_e]; rfl
      · rw [w_n (by omega), w_n (by omega), w_n (by omega), w_n (by omega), w_n (by omega), w_n (by omega), w_e]; rfl
      · rw [w_n (by omega), w_n (by omega), w_n (by omega), w_n (by omega), w_n (by omega), w_e]; rfl
      · rw [w_n (by omega), w_n (by omega), w_n (by omega), w_n (by omega), w_e]; rfl
      · rw [w_n (by omega), w_n (by omega), w_n (by omega), w_e]; rfl
      · rw [w_n (by omega), w_n (by omega), w_e]; rfl
      · rw [w_n (by omega), w_e]; rfl
      · rw [w_e]; rfl
    · rw [w_n (by omega), w_n (by omega), w_n (by omega), w_n (by omega), w_n (by omega), w_n (by omega), w_n (by omega), w_n (by omega), w_n (by omega)]
  have ok : ∀ j, j < 9 → okr j (([8, 8, 4, 1, 0, 0, 0, 1, 10] : List Int32).getD j 0) := fun j hj => by
    unfold okr
    rcases (show j = 0 ∨ j = 1 ∨ j = 2 ∨ j = 3 ∨ j = 4 ∨ j = 5 ∨ j = 6 ∨ j = 7 ∨ j = 8 by omega) with rfl | rfl | rfl | rfl | rfl | rfl | rfl | rfl | rfl
    · exact ⟨fun _ => ⟨8, by omega, by omega, rfl⟩, fun z => absurd z (by omega), fun z => absurd z (by omega), fun z => absurd z (by omega)⟩
    · exact ⟨fun _ => ⟨8, by omega, by omega, rfl⟩, fun z => absurd z (by omega), fun z => absurd z (by omega), fun z => absurd z (by omega)⟩
    · exact ⟨fun z => absurd z (by omega), fun _ => ⟨4, by omega, by omega, rfl⟩, fun z => absurd z (by omega), fun z => absurd z (by omega)⟩
    · exact ⟨fun z => absurd z (by omega), fun z => absurd z (by omega), fun _ => Or.inl rfl, fun z => absurd z (by omega)⟩
    · exact ⟨fun z => absurd z (by omega), fun z => absurd z (by omega), fun z => absurd z (by omega), fun z => absurd z (by omega)⟩
    · exact ⟨fun z => absurd z (by omega), fun z => absurd z (by omega), fun z => absurd z (by omega), fun _ => rvl_of (by omega) (by decide)⟩
    · exact ⟨fun z => absurd z (by omega), fun z => absurd z (by omega), fun z => absurd z (by omega), fun _ => rvl_of (by omega) (by decide)⟩
    · exact ⟨fun z => absurd z (by omega), fun z => absurd z (by omega), fun z => absurd z (by omega), fun _ => rvl_of (by omega) (by decide)⟩
    · exact ⟨fun z => absurd z (by omega), fun z => absurd z (by omega), fun z => absurd z (by omega), fun _ => rvl_of (by omega) (by decide)⟩
  have gx : ∀ a b c, ¬ ((a = 3 ∧ b = 0 ∧ c = 2) ∨ (5 ≤ a ∧ a ≤ 6 ∧ b = 0)) → (wI Xa 3 0 2 0).1 a b c = X.1 a b c := fun a b c hq => by rw [w_n (by omega)]; exact xa4 a b c (by omega)
  have gy : ∀ a b c, ¬ ((a = 50 ∧ b = 0 ∧ c = 15) ∨ (a = 52 ∧ b = 1)) → (wI Ya 50 0 15 0).1 a b c = Y.1 a b c := fun a b c hq => by rw [w_n (by omega)]; exact ya4 a b c (by omega)
  have r0 : RP L 0 (wI Xa 3 0 2 0) (wI Ya 50 0 15 0) := ⟨h.of (fun a b c hc => gx a b c (by omega)) (fun a b c hc => gy a b c (by omega)), w_e, by rw [gy 50 0 3 (by omega)]; exact x0, by omega⟩
  have dr0 : DRr (wI Xa 3 0 2 0) (wI Ya 50 0 15 0) := fun j hj => by
    have e : cx j (wI Xa 3 0 2 0) = cx j Xa := by
      unfold cx
      split <;> exact w_n (by omega)
    rw [e, w_n (by omega), xa1 j hj, ya1 j hj]
    exact ⟨rfl, ok j hj⟩
  have dt0 : DRt 0 (wI Xa 3 0 2 0) (wI Ya 50 0 15 0) := ⟨by omega, by rw [w_n (by omega)]; exact xa2, w_e, fun t ht => absurd ht (by omega)⟩
  have c0 : CI L X Y 0 (0, wI Xa 3 0 2 0) (0, wI Ya 50 0 15 0) := ⟨⟨0, r0⟩, by show (wI Ya 50 0 15 0).1 50 0 4 = -1; rw [gy 50 0 4 (by omega)]; exact y4, fun _ _ => rfl, dr0, ⟨0, dt0, show 0 = cbt 0 + 0 by decide⟩, ⟨xa3, fun a b c hq => gx a b c (by omega)⟩, ⟨ya3, fun a b c hq => gy a b c (by omega)⟩⟩
  obtain ⟨e, d, f1, f2, r, X2, Y2, f3, f4, f5⟩ := gI2z (s1 := fun z : Int32 × Int32 × gM => X3_readScene_L13 0 z.1 z.2.1 z.2.2) (s2 := fun z : Int32 × Int32 × gM => X11_readScene_L13 z.1 z.2.1 z.2.2) (fun k (x : Int32 × gM) => (x.1, nI k, x.2)) (fun k (y : Int32 × gM) => (y.1, 1, y.2)) (CI L X Y) (fun e d => ∃ r X2 Y2, ct3 e = some (r, X2) ∧ ct4 d = some Y2 ∧ CE X Y r X2 Y2) 20
    (fun k x y hk hR => j_cstep hk hR) 19 0 FU (0, wI Xa 3 0 2 0) (0, wI Ya 50 0 15 0) (by omega) (FU_gt (by omega)) c0
  have f1 : gIter (fun z : Int32 × Int32 × gM => X3_readScene_L13 0 z.1 z.2.1 z.2.2) FU (0, 0, wI Xa 3 0 2 0) = some e := f1
  have f2 : gIter (fun z : Int32 × Int32 × gM => X11_readScene_L13 z.1 z.2.1 z.2.2) FU (0, 1, wI Ya 50 0 15 0) = some d := f2
  refine ⟨r, X2, Y2, ?_, ?_, f5⟩
  · unfold X3_readScene
    rw [ea, bind_e, gLet_e, f1, bind_e]
    exact f3
  · unfold X11_readScene
    rw [eb, bind_e, gLet_e, f2, bind_e]
    exact f4
end SC
