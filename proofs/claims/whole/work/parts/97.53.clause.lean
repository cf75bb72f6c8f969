/-! a clause of the scene -/
def XT (X X' : gM) : Prop := X'.2 = X.2 ∧ ∀ a b c, ¬ (a = 3 ∨ a = 4 ∨ (5 ≤ a ∧ a ≤ 11 ∧ b = 0)) → X'.1 a b c = X.1 a b c
def YT (Y Y' : gM) : Prop := Y'.2 = Y.2 ∧ ∀ a b c, ¬ ((a = 50 ∧ b = 0 ∧ (c = 3 ∨ c = 4 ∨ c = 5 ∨ c = 7 ∨ c = 15)) ∨ (a = 52 ∧ (b = 0 ∨ b = 1 ∨ b = 3))) → Y'.1 a b c = Y.1 a b c
/-- how many of the eight words were told -/
def cbt (m : Int32) : Nat := (bi m 0).toNat + (bi m 1).toNat + (bi m 2).toNat + (bi m 3).toNat + (bi m 4).toNat + (bi m 5).toNat + (bi m 6).toNat + (bi m 7).toNat
section CL
variable {L p q k i w st s n : Nat} {X Y X' Y' X'' Y'' M Y1 : gM} {mc mm m2 : Int32}
theorem XT.tr (h : XT X X') (h' : XT X' X'') : XT X X'' := ⟨h'.1.trans h.1, fun a b c hq => (h'.2 a b c hq).trans (h.2 a b c hq)⟩
theorem YT.tr (h : YT Y Y') (h' : YT Y' Y'') : YT Y Y'' := ⟨h'.1.trans h.1, fun a b c hq => (h'.2 a b c hq).trans (h.2 a b c hq)⟩
theorem XC.tp (h : XC X X') : XT X X' := ⟨h.1, fun a b c hq => h.2 a b c (by omega)⟩
theorem YD0.tp (h : YD0 Y Y') : YT Y Y' := ⟨h.1, fun a b c hq => h.2 a b c (by omega)⟩
theorem cbt_le (m : Int32) : cbt m ≤ 8 := by
  unfold cbt
  have h := fun i => Bool.toNat_le (bi m i)
  have h0 := h 0
  have h1 := h 1
  have h2 := h 2
  have h3 := h 3
  have h4 := h 4
  have h5 := h 5
  have h6 := h 6
  have h7 := h 7
  omega
theorem cbt_eq {m m' : Int32} (h : ∀ i, i < 8 → bi m' i = bi m i) : cbt m' = cbt m := by
  unfold cbt
  rw [h 0 (by omega), h 1 (by omega), h 2 (by omega), h 3 (by omega), h 4 (by omega), h 5 (by omega), h 6 (by omega), h 7 (by omega)]
theorem cbt_up {m m' : Int32} (hw : w < 8) (hb : bi m w = false) (h : ∀ i, i < 8 → bi m' i = (bi m i || decide (i = w))) : cbt m' = cbt m + 1 := by
  unfold cbt
  rw [h 0 (by omega), h 1 (by omega), h 2 (by omega), h 3 (by omega), h 4 (by omega), h 5 (by omega), h 6 (by omega), h 7 (by omega)]
  rcases (show w = 0 ∨ w = 1 ∨ w = 2 ∨ w = 3 ∨ w = 4 ∨ w = 5 ∨ w = 6 ∨ w = 7 by omega) with rfl | rfl | rfl | rfl | rfl | rfl | rfl | rfl <;> simp [hb] <;> omega
theorem m_or (hw : w < 12) {i : Nat} (hi : i < 8) : bi (mc ||| (1 <<< (nI w &&& 31))) i = (bi mc i || decide (i = w)) := by rw [bi_or, bi_1 (by omega) (by omega)]
theorem offS_e (hw : w < 12) : gSv 1 w = nI (offS w) ∧ gSv 0 w = nI (cntS w) ∧ cntS w ≤ 11 ∧ 2 * (offS w + cntS w) ≤ (gSt 2).length ∧ (gSt 2).length ≤ 40 ∧ ∀ k, k < cntS w → -1000 ≤ (rlo2 2 (offS w) k).toInt ∧ (rhi2 2 (offS w) k).toInt ≤ 1000 := by
  rcases (show w = 0 ∨ w = 1 ∨ w = 2 ∨ w = 3 ∨ w = 4 ∨ w = 5 ∨ w = 6 ∨ w = 7 ∨ w = 8 ∨ w = 9 ∨ w = 10 ∨ w = 11 by omega) with rfl | rfl | rfl | rfl | rfl | rfl | rfl | rfl | rfl | rfl | rfl | rfl <;> exact ⟨rfl, rfl, by decide, by decide, by decide, by decide⟩
/-- behind a fault in a clause -/
theorem c_fail (h : RP L p X Y') (y4 : Y'.1 50 0 4 = nI s) (hs : s ≤ 480) (e : X11_readClause mm Y = some (m2, Y')) : ∃ Y2, X11_readScene_L13 mm 1 Y = some (.inl (m2, 0, Y2)) ∧ X11_readScene_L13 m2 0 Y2 = some (.inr Y2) ∧ Y2.1 50 0 4 = nI s ∧ YO (fun c => c = 3) Y' Y2 := by
  obtain ⟨Y2, g1, g2, g3⟩ := m_fail h y4 hs
  refine ⟨Y2, ?_, ?_, g2, g3⟩
  · unfold X11_readScene_L13
    rw [if_neg (show ¬ (1 : Int32) = 0 by decide), e, bind_e, gU2_e, g1, bind_e, gU2_e, if_pos rfl]
  · unfold X11_readScene_L13
    rw [if_pos rfl]
/-- the reference: the word may not stand here -/
theorem x11_cbad (e : X11_word 0 Y = some (nI w, Y1)) (hw : w < 12) (y5 : Y1.1 50 0 5 = nI s) (y4 : Y1.1 50 0 4 = -1) (y15 : Y1.1 50 0 15 = nI n) (hn : n ≤ 10) (ha : (w < 8 ∧ bi mm w = true) ∨ (8 ≤ w ∧ n = 10)) : X11_readClause mm Y = some (mm, wI Y1 50 0 4 (nI s)) := by
  unfold X11_readClause
  rw [e, bind_e, gU2_e, if_neg (nI_m1 (by omega))]
  rcases ha with ⟨h8, hb⟩ | ⟨h8, h10⟩
  · rw [if_neg (show ¬ (8 : Int32) ≤ nI w from nI_ge (a := w) (b := 8) h8 (by decide)), x11_hasB mm (by omega), bind_e, if_pos hb, if_neg (show ¬ (1 : Int32) = 0 by decide), sfail y4, bind_e, y5]
  · rw [if_pos (show (8 : Int32) ≤ nI w from nI_le (a := 8) (b := w) h8 (by omega))]
    unfold X11_readClause_J26
    rw [if_neg (show ¬ nI w < (8 : Int32) from fun z => absurd ((nI_ltI (a := w) (b := 8) (by omega) (by decide)).mp z) (by omega)), y15, h10, if_pos (by decide), sfail y4, bind_e, y5]
theorem x11_cok (e : X11_word 0 Y = some (nI w, Y1)) (hw : w < 12) (y15 : Y1.1 50 0 15 = nI n) (hn : n ≤ 10) (ha : ¬ ((w < 8 ∧ bi mm w = true) ∨ (8 ≤ w ∧ n = 10))) : X11_readClause mm Y = X11_readClause_J72 mm (nI w) (nI (cntS w)) Y1 := by
  have j51 : X11_readClause_J51 mm (nI w) Y1 = X11_readClause_J72 mm (nI w) (nI (cntS w)) Y1 := by
    unfold X11_readClause_J51
    by_cases h8 : w < 8
    · rw [if_pos (show nI w < (8 : Int32) from (nI_ltI (a := w) (b := 8) (by omega) (by decide)).mpr h8)]
      by_cases h0 : w = 0
      · subst h0
        rw [if_pos (by decide)]
        rfl
      · have e1 : cntS w = 1 := by
          rcases (show w = 1 ∨ w = 2 ∨ w = 3 ∨ w = 4 ∨ w = 5 ∨ w = 6 ∨ w = 7 by omega) with rfl | rfl | rfl | rfl | rfl | rfl | rfl <;> rfl
        rw [if_neg (show ¬ nI w = (0 : Int32) from fun z => h0 (nI_inj (b := 0) (by omega) (by decide) z)), e1]
        rfl
    · have e1 : cntS w = 11 := by
        rcases (show w = 8 ∨ w = 9 ∨ w = 10 ∨ w = 11 by omega) with rfl | rfl | rfl | rfl <;> rfl
      rw [if_neg (show ¬ nI w < (8 : Int32) from fun z => absurd ((nI_ltI (a := w) (b := 8) (by omega) (by decide)).mp z) (by omega)), e1]
      rfl
  unfold X11_readClause
  rw [e, bind_e, gU2_e, if_neg (nI_m1 (by omega))]
  unfold X11_readClause_J26
  by_cases h8 : w < 8
  · have hb : ¬ bi mm w = true := fun z => ha (Or.inl ⟨h8, z⟩)
    rw [if_neg (show ¬ (8 : Int32) ≤ nI w from nI_ge (a := w) (b := 8) h8 (by decide)), x11_hasB mm (by omega), bind_e, if_neg hb, if_pos rfl, if_pos (show nI w < (8 : Int32) from (nI_ltI (a := w) (b := 8) (by omega) (by decide)).mpr h8), j51]
  · rw [if_pos (show (8 : Int32) ≤ nI w from nI_le (a := 8) (b := w) (by omega) (by omega)), if_neg (show ¬ nI w < (8 : Int32) from fun z => absurd ((nI_ltI (a := w) (b := 8) (by omega) (by decide)).mp z) (by omega)), y15, if_neg (show ¬ nI n = (10 : Int32) from fun z => ha (Or.inr ⟨by omega, nI_inj (b := 10) (by omega) (by decide) z⟩)), j51]
/-- what a clause tells is taken -/
theorem c_take (hw : w < 12) (ht : DRt n X Y) (hr : DRr X Y) (hok : w < 8 ∨ n < 10) (hv0 : X.1 4 0 0 = Y.1 52 0 0) (hv2 : w = 2 → X.1 4 0 0 = 1 ∨ X.1 4 0 0 = 2 ∨ X.1 4 0 0 = 4) (hv : w ≠ 2 → ∀ j, j < cntS w → X.1 4 0 j = Y.1 52 0 j ∧ rlo2 2 (offS w) j ≤ X.1 4 0 j ∧ X.1 4 0 j ≤ rhi2 2 (offS w) j)
    (nums : X11_readNumbers (nI (cntS w)) 1 (nI w) Y1 = some Y) (y4 : Y.1 50 0 4 = -1) : ∃ X' Y' m' n', X4_take 0 (nI w) (nI w - 8) X = some X' ∧ X11_readClause_J72 mm (nI w) (nI (cntS w)) Y1 = some (m', Y') ∧ DRr X' Y' ∧ DRt n' X' Y' ∧ (w < 8 → n' = n ∧ m' = (mm ||| (1 <<< (nI w &&& 31)))) ∧ (8 ≤ w → n' = n + 1 ∧ m' = mm) ∧ X'.2 = X.2 ∧ (∀ a b c, ¬ (5 ≤ a ∧ a ≤ 11 ∧ b = 0) → X'.1 a b c = X.1 a b c) ∧ Y'.2 = Y.2 ∧ (∀ a b c, ¬ ((a = 50 ∧ b = 0 ∧ c = 15) ∨ (a = 52 ∧ (b = 1 ∨ b = 3))) → Y'.1 a b c = Y.1 a b c) := by
  have j72 : X11_readClause_J72 mm (nI w) (nI (cntS w)) Y1 = (if nI w < 8 then (if nI w = 0 then X11_readClause_J173 mm (nI w) 0 Y else X11_readClause_J173 mm (nI w) (nI w + 1) Y) else (gIter (fun s => X11_readClause_L95 mm (nI w) s.1 s.2) FU (0, Y)).bind (fun M_25 => gG (gin ((12 * (M_25.1 50 0 15)) + 11) 120) (gLet (wI M_25 52 3 (Int32.toNatClampNeg ((12 * (M_25.1 50 0 15)) + 11)) (nI w - 8)) (fun M_27 => gLet (wI M_27 50 0 15 ((M_27.1 50 0 15) + 1)) (fun M_28 => some (mm, M_28)))))) := by
    unfold X11_readClause_J72
    rw [nums, bind_e, if_pos y4]
  rw [j72]
  by_cases h8 : w < 8
  · rw [if_pos (show nI w < (8 : Int32) from (nI_ltI (a := w) (b := 8) (by omega) (by decide)).mpr h8)]
    by_cases h0 : w = 0
    · subst h0
      have hv := hv (by decide)
      have v0 := hv 0 (by decide)
      have v1 := hv 1 (by decide)
      have o0 : okr 0 (X.1 4 0 0) := ⟨fun _ => RG.of (by omega) (Int32.le_iff_toInt_le.mp v0.2.1) (Int32.le_iff_toInt_le.mp v0.2.2), fun z => absurd z (by omega), fun z => absurd z (by omega), fun z => absurd z (by omega)⟩
      have o1 : okr 1 (X.1 4 0 1) := ⟨fun _ => RG.of (by omega) (Int32.le_iff_toInt_le.mp v1.2.1) (Int32.le_iff_toInt_le.mp v1.2.2), fun z => absurd z (by omega), fun z => absurd z (by omega), fun z => absurd z (by omega)⟩
      refine ⟨_, wI (wI Y 52 1 0 (X.1 4 0 0)) 52 1 1 (X.1 4 0 1), (mm ||| (1 <<< (nI 0 &&& 31))), n, x4_take0 _, ?_, (hr.up (by omega) o0).up (by omega) o1, ht.of (fun a b c hc => by rw [wX_n (by omega) (by omega), wX_n (by omega) (by omega)]) (fun a b c hc => by rw [w_n (by omega), w_n (by omega)]), fun _ => ⟨rfl, rfl⟩, fun z => absurd z (by omega), by rw [wX_2, wX_2], fun a b c hq => by rw [wX_n (by omega) (by omega), wX_n (by omega) (by omega)], rfl, fun a b c hq => by rw [w_n (by omega), w_n (by omega)]⟩
      rw [if_pos (by decide)]
      unfold X11_readClause_J173
      rw [gG_t (by decide), gLet_e, if_pos (by decide), gLet_e, w_n (by omega), ← hv0, ← v1.1]
      rfl
    · have ow : okr (w + 1) (X.1 4 0 0) := by
        by_cases h2 : w = 2
        · subst h2
          exact ⟨fun z => absurd z (by omega), fun z => absurd z (by omega), fun _ => hv2 rfl, fun z => absurd z (by omega)⟩
        · exact ok_w (by omega) h2 (hv h2 0 (by
            rcases (show w = 1 ∨ w = 3 ∨ w = 4 ∨ w = 5 ∨ w = 6 ∨ w = 7 by omega) with rfl | rfl | rfl | rfl | rfl | rfl <;> decide)).2
      refine ⟨_, wI Y 52 1 (w + 1) (X.1 4 0 0), (mm ||| (1 <<< (nI w &&& 31))), n, x4_take1 (by omega) _, ?_, hr.up (by omega) ow, ht.of (fun a b c hc => wX_n (by omega) (by omega)) (fun a b c hc => w_n (by omega)), fun _ => ⟨rfl, rfl⟩, fun z => absurd z (by omega), wX_2, fun a b c hq => wX_n (by omega) (by omega), rfl, fun a b c hq => w_n (by omega)⟩
      have ne : ¬ nI w = (0 : Int32) := fun z => h0 (nI_inj (b := 0) (by omega) (by decide) z)
      rw [if_neg ne]
      unfold X11_readClause_J173
      rw [nI_1, gG_t (gin_n (k := w + 1) (by omega) (by decide)), nI_clamp (n := w + 1) (by omega), gLet_e, if_neg ne, ← hv0]
  · have en : nI w - 8 = nI (w - 8) := by rw [nlit 8, nI_sub (by omega)]
    rw [if_neg (show ¬ nI w < (8 : Int32) from fun z => absurd ((nI_ltI (a := w) (b := 8) (by omega) (by decide)).mp z) (by omega)), en]
    have hn : n < 10 := by omega
    have hvt : ∀ j, j < 11 → X.1 4 0 j = Y.1 52 0 j ∧ rlo2 2 9 j ≤ X.1 4 0 j ∧ X.1 4 0 j ≤ rhi2 2 9 j := by
      have hv := hv (by omega)
      rcases (show w = 8 ∨ w = 9 ∨ w = 10 ∨ w = 11 by omega) with rfl | rfl | rfl | rfl <;> exact hv
    obtain ⟨X3, Y3, t1, t2, t3, t4, t5, t6, t7, t8⟩ := d_tri (pt := w - 8) hn (by omega) ht hvt mm (nI w)
    have gy : ∀ a b c, ¬ ((a = 50 ∧ b = 0 ∧ c = 15) ∨ (a = 52 ∧ (b = 1 ∨ b = 3))) → (wI (wI Y3 52 3 (12 * n + 11) (nI (w - 8))) 50 0 15 (nI (n + 1))).1 a b c = Y.1 a b c := fun a b c hq => by rw [w_n (by omega), w_n (by omega)]; exact t8 a b c (by omega)
    refine ⟨X3, wI (wI Y3 52 3 (12 * n + 11) (nI (w - 8))) 50 0 15 (nI (n + 1)), mm, n + 1, ?_, ?_, hr.of (fun a b c hc => t6 a b c (by omega)) (fun c => by rw [w_n (by omega), w_n (by omega)]; exact t8 52 1 c (by omega)), t4, fun z => absurd z h8, fun _ => ⟨rfl, rfl⟩, t5, fun a b c hq => t6 a b c (by omega), t7, gy⟩
    · unfold X4_take
      rcases (show w = 8 ∨ w = 9 ∨ w = 10 ∨ w = 11 by omega) with rfl | rfl | rfl | rfl
      · rw [if_neg (by decide), if_neg (by decide), if_neg (by decide), if_neg (by decide), if_neg (by decide), if_neg (by decide), if_neg (by decide), if_neg (by decide), t1]; rfl
      · rw [if_neg (by decide), if_neg (by decide), if_neg (by decide), if_neg (by decide), if_neg (by decide), if_neg (by decide), if_neg (by decide), if_neg (by decide), t1]; rfl
      · rw [if_neg (by decide), if_neg (by decide), if_neg (by decide), if_neg (by decide), if_neg (by decide), if_neg (by decide), if_neg (by decide), if_neg (by decide), t1]; rfl
      · rw [if_neg (by decide), if_neg (by decide), if_neg (by decide), if_neg (by decide), if_neg (by decide), if_neg (by decide), if_neg (by decide), if_neg (by decide), t1]; rfl
    · have i1 : 12 * nI n + 11 = nI (12 * n + 11) := by rw [nlit 12, nI_mul, nlit 11, nI_add]
      rw [t2, bind_e, t3, i1, gG_t (gin_n (k := 12 * n + 11) (by omega) (by decide)), nI_clamp (n := 12 * n + 11) (by omega), gLet_e, gLet_e, w_n (by omega), t3, nI_1]
end CL
