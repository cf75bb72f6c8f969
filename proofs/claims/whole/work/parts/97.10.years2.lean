/-! years as a call -/
section YR2
variable {n W H T K i j k t m nf nf' : Nat} {M M' Mx Mm Mx' Mm' X Y M9 : gM} {p p1 p2 p3 p4 v r x1 x4 : Int32} {u : Int64}
theorem gt4 (r : Int32) : 4 < r ↔ 5 ≤ r := by
  have a4 : (4 : Int32).toInt = 4 := rfl
  have a5 : (5 : Int32).toInt = 5 := rfl
  rw [Int32.lt_iff_toInt_lt, Int32.le_iff_toInt_le]
  omega
def YE (m nf n W H T K : Nat) (Mx Mm : gM) : Prop := ∃ nf' Mx' Mm', (∀ x1 x4 : Int32, ¬ x1 ≤ x4 → X10_years_L28 x1 x4 nf Mx = some (.inl (x4 + 1, nf', Mx'))) ∧ X11_happens Mm = some Mm' ∧ nf ≤ nf' ∧ nf' ≤ 40 ∧ SN (m + 1) nf' n W H T K Mx' Mm' ∧ ST Mx' Mm' ∧ sdE Mx' Mm' ∧ CX Mx Mx' ∧ CM Mm Mm'
theorem j_hap (hm : m + 1 < 100000) (hnf : nf ≤ 40) (h : SN m nf n W H T K Mx Mm) (hs : ST Mx Mm) (sd : sdE Mx Mm) : YE m nf n W H T K Mx Mm := by
  have hr := h.1
  have hn := hr.1.2.1
  have hN := hr.1.1.N
  have eN : Mx.1 12 0 5 = nI (tN W H T) := hr.1.2.2.2.1.2.2.2.2.2.1
  have en : Mx.1 5 1 5 = nI n := hr.1.2.2.1.2.2.2.2
  have em : Mm.1 50 0 16 = nI n := hr.2.1.1.1
  obtain ⟨r, u, c1, d1⟩ := ch2 (k := 8) (by omega) (by decide) sd
  have c1 : X10_chanceOf 8 Mx = some (r, wL Mx 0 0 15 u) := c1
  have d1 : X11_chance 8 Mm = some (r, wL Mm 50 0 32 u) := d1
  by_cases h4 : 4 < r
  · have h5 : 5 ≤ r := (gt4 r).mp h4
    by_cases e5 : r = 5
    · obtain ⟨r2, u2, c2, d2⟩ := ch2 (k := tN W H T) (X := wI (wL Mx 0 0 15 u) 49 0 0 1) (Y := wL Mm 50 0 32 u) (by omega) (by omega) (sdE.w sdE.l)
      have h9 : X10_chooseAct Mx = some (wI (wL (wI (wL Mx 0 0 15 u) 49 0 0 1) 0 0 15 u2) 49 0 1 r2) := by
        unfold X10_chooseAct
        rw [c1, bind_e, gU2_e, if_pos h4, if_pos e5, gLet_e, w_n (by omega), r1_wL, eN, c2, bind_e, gU2_e, gLet_e]
      have y := yr_do (k := 1) (Y := wL (wL Mm 50 0 32 u) 50 0 32 u2) hm hnf h hs ((CHS.rf.l.w).l.w) (CHM.rf.l.l) (sdE.w sdE.l) h9 (by omega) (by rw [w_n (by omega), r1_wL, w_e]; rfl)
      rw [w_e] at y
      have ht : X11_tilesAll (wL Mm 50 0 32 u) = some (nI (tN W H T)) := x11_all hr.1.1 hr.2.1.1
      rcases y with ⟨l, Y1, hl, e1, X', f1, f2, f3, f4, f5, f6⟩ | ⟨Y0, e1, nf', X', Y1, Y2, Y3, f1, f2, f3, f4, f5, f6, f7, f8, f9, f10, f11⟩
      · refine ⟨nf, X', Y1, f1, ?_, Nat.le_refl _, hnf, f2, f3, f4, f5, f6⟩
        have e1 : ((X11_stopsFlush 8 r2 (wL (wL Mm 50 0 32 u) 50 0 32 u2)).bind fun r => some (r, (wL (wL Mm 50 0 32 u) 50 0 32 u2))) = some (nI l, Y1) := e1
        obtain ⟨z, z1, z2⟩ := gBind_some e1
        cases z2
        unfold X11_happens
        rw [d1, bind_e, gU2_e, if_pos h5, if_pos e5, ht, bind_e, d2, bind_e, gU2_e, z1, bind_e, if_neg (nI_m1 (by omega))]
      · refine ⟨nf', X', Y3, f1, ?_, f5, f6, f7, f8, f9, f10, f11⟩
        have e1 : ((X11_stopsFlush 8 r2 (wL (wL Mm 50 0 32 u) 50 0 32 u2)).bind fun r => some (r, (wL (wL Mm 50 0 32 u) 50 0 32 u2))) = some (-1, Y0) := e1
        obtain ⟨z, z1, z2⟩ := gBind_some e1
        cases z2
        have f3 : X11_flushes 8 r2 Y1 = some Y2 := f3
        have f4 : X11_tells 1 r2 Y2 = some Y3 := f4
        unfold X11_happens
        rw [d1, bind_e, gU2_e, if_pos h5, if_pos e5, ht, bind_e, d2, bind_e, gU2_e, z1, bind_e, if_pos rfl, f2, bind_e, f3, bind_e, f4, bind_e]
    · by_cases e6 : r = 6
      · have h9 : X10_chooseAct Mx = some (wI (wI (wL Mx 0 0 15 u) 49 0 0 6) 49 0 1 (1 - Mx.1 40 0 2)) := by
          unfold X10_chooseAct
          rw [c1, bind_e, gU2_e, if_pos h4, if_neg e5, if_pos e6, gLet_e, gLet_e, w_n (by omega), r1_wL]
        have y := yr_do (k := 6) (Y := wL Mm 50 0 32 u) hm hnf h hs ((CHS.rf.l.w).w) (CHM.rf.l) (sdE.w (sdE.w sdE.l)) h9 (by omega) (by rw [w_n (by omega), w_e]; rfl)
        rw [w_e] at y
        have e2 : mst 8 6 (1 - Mx.1 40 0 2) ((wI (wI (wL Mx 0 0 15 u) 49 0 0 6) 49 0 1 (1 - Mx.1 40 0 2)).1 49 0 2) ((wI (wI (wL Mx 0 0 15 u) 49 0 0 6) 49 0 1 (1 - Mx.1 40 0 2)).1 49 0 3) ((wI (wI (wL Mx 0 0 15 u) 49 0 0 6) 49 0 1 (1 - Mx.1 40 0 2)).1 49 0 4) (wL Mm 50 0 32 u) = some (-1, wL Mm 50 0 32 u) := by
          show ((X11_stopsRule 8 (nI 2) (1 - Mx.1 40 0 2) (wL Mm 50 0 32 u)).bind _) = _
          rw [x11_refRr (k := 2) (Or.inl rfl) (by omega) (show ¬ (wL Mm 50 0 32 u).1 50 0 16 = 0 from h.n0.2), bind_e]
          show some (rans 2 (1 - Mx.1 40 0 2) (Mm.1 52 8 (1057 + 2)), _) = _
          rw [hr.2.2.2.2.1.1 2 (by omega)]
          rcases hr.2.2.2.2.1.2.2.2.1 with g | g <;> rw [g] <;> rfl
        rcases y with ⟨l, Y1, hl, e1, -⟩ | ⟨Y0, e1, nf', X', Y1, Y2, Y3, f1, f2, f3, f4, f5, f6, f7, f8, f9, f10, f11⟩
        · rw [e2] at e1
          exact absurd (congrArg Prod.fst (Option.some.inj e1)).symm (nI_m1 (by omega))
        · rw [e2] at e1
          cases e1
          obtain ⟨pp, hh, ff, -, -, q3, q4, -, -, -, q8, q9, -⟩ := h.2.2.2.1
          obtain ⟨Z, z1, -, -, -, -, -, z7⟩ := x11_rem (Mm := wL Mm 50 0 32 u) q4 q3 q8 q9
          rw [z1] at f2
          cases f2
          refine ⟨nf', X', Y3, f1, ?_, f5, f6, f7, f8, f9, f10, f11⟩
          have f3 : some (wI Y1 52 8 1059 (1 - Mx.1 40 0 2)) = some Y2 := f3
          cases f3
          have f4 : X11_tells 4 2 (wI Y1 52 8 1059 (1 - Mx.1 40 0 2)) = some Y3 := f4
          have ez : Y1.1 52 8 1059 = Mx.1 40 0 2 := by
            rw [z7 52 8 1059 (by omega), r1_wL]
            exact hr.2.2.2.2.1.1 2 (by omega)
          unfold X11_happens
          rw [d1, bind_e, gU2_e, if_pos h5, if_neg e5, if_pos e6, z1, bind_e, gLet_e, ez, f4, bind_e]
      · obtain ⟨r2, u2, c2, d2⟩ := ch2 (k := n) (X := wI (wL Mx 0 0 15 u) 49 0 0 8) (Y := wL Mm 50 0 32 u) (by omega) (by omega) (sdE.w sdE.l)
        obtain ⟨r3, u3, c3, d3⟩ := ch2 (k := 3) (X := wI (wL (wI (wL Mx 0 0 15 u) 49 0 0 8) 0 0 15 u2) 49 0 1 r2) (Y := wL (wL Mm 50 0 32 u) 50 0 32 u2) (by omega) (by omega) (sdE.w sdE.l)
        obtain ⟨r4, u4, c4, d4⟩ := ch2 (k := 9) (X := wI (wL (wI (wL (wI (wL Mx 0 0 15 u) 49 0 0 8) 0 0 15 u2) 49 0 1 r2) 0 0 15 u3) 49 0 2 r3) (Y := wL (wL (wL Mm 50 0 32 u) 50 0 32 u2) 50 0 32 u3) (by omega) (by omega) (sdE.w sdE.l)
        obtain ⟨r5, u5, c5, d5⟩ := ch2 (k := 9) (X := wI (wL (wI (wL (wI (wL (wI (wL Mx 0 0 15 u) 49 0 0 8) 0 0 15 u2) 49 0 1 r2) 0 0 15 u3) 49 0 2 r3) 0 0 15 u4) 49 0 3 (r4 - 4)) (Y := wL (wL (wL (wL Mm 50 0 32 u) 50 0 32 u2) 50 0 32 u3) 50 0 32 u4) (by omega) (by omega) (sdE.w sdE.l)
        have c3 : X10_chanceOf 3 (wI (wL (wI (wL Mx 0 0 15 u) 49 0 0 8) 0 0 15 u2) 49 0 1 r2) = _ := c3
        have c4 : X10_chanceOf 9 (wI (wL (wI (wL (wI (wL Mx 0 0 15 u) 49 0 0 8) 0 0 15 u2) 49 0 1 r2) 0 0 15 u3) 49 0 2 r3) = _ := c4
        have c5 : X10_chanceOf 9 (wI (wL (wI (wL (wI (wL (wI (wL Mx 0 0 15 u) 49 0 0 8) 0 0 15 u2) 49 0 1 r2) 0 0 15 u3) 49 0 2 r3) 0 0 15 u4) 49 0 3 (r4 - 4)) = _ := c5
        have d3 : X11_chance 3 (wL (wL Mm 50 0 32 u) 50 0 32 u2) = _ := d3
        have d4 : X11_chance 9 (wL (wL (wL Mm 50 0 32 u) 50 0 32 u2) 50 0 32 u3) = _ := d4
        have d5 : X11_chance 9 (wL (wL (wL (wL Mm 50 0 32 u) 50 0 32 u2) 50 0 32 u3) 50 0 32 u4) = _ := d5
        have h9 : X10_chooseAct Mx = some (wI (wL (wI (wL (wI (wL (wI (wL (wI (wL Mx 0 0 15 u) 49 0 0 8) 0 0 15 u2) 49 0 1 r2) 0 0 15 u3) 49 0 2 r3) 0 0 15 u4) 49 0 3 (r4 - 4)) 0 0 15 u5) 49 0 4 (r5 - 4)) := by
          unfold X10_chooseAct
          rw [c1, bind_e, gU2_e, if_pos h4, if_neg e5, if_neg e6, gLet_e, w_n (by omega), r1_wL, en, c2, bind_e, gU2_e, gLet_e, c3, bind_e, gU2_e, gLet_e, c4, bind_e, gU2_e, gLet_e, c5, bind_e, gU2_e, gLet_e]
        have y := yr_do (k := 8) (Y := wL (wL (wL (wL (wL Mm 50 0 32 u) 50 0 32 u2) 50 0 32 u3) 50 0 32 u4) 50 0 32 u5) hm hnf h hs (CHS.rf.l.w.l.w.l.w.l.w.l.w) (CHM.rf.l.l.l.l.l) (sdE.w sdE.l) h9 (by omega) rfl
        have y : YD m nf n W H T K Mx Mm (wL (wL (wL (wL (wL Mm 50 0 32 u) 50 0 32 u2) 50 0 32 u3) 50 0 32 u4) 50 0 32 u5) 8 r2 r3 (r4 - 4) (r5 - 4) := y
        rcases y with ⟨l, Y1, hl, e1, X', f1, f2, f3, f4, f5, f6⟩ | ⟨Y0, e1, nf', X', Y1, Y2, Y3, f1, f2, f3, f4, f5, f6, f7, f8, f9, f10, f11⟩
        · refine ⟨nf, X', Y1, f1, ?_, Nat.le_refl _, hnf, f2, f3, f4, f5, f6⟩
          obtain ⟨z, z1, z2⟩ := gBind_some (show ((X11_stopsMove 8 r2 r3 (r4 - 4) (r5 - 4) _).bind fun r => some (r, _)) = some (nI l, Y1) from e1)
          cases z2
          unfold X11_happens X11_happensToMove
          rw [d1, bind_e, gU2_e, if_pos h5, if_neg e5, if_neg e6, r1_wL, em, d2, bind_e, gU2_e, d3, bind_e, gU2_e, d4, bind_e, gU2_e, gLet_e, d5, bind_e, gU2_e, gLet_e, z1, bind_e, if_neg (nI_m1 (by omega)), bind_e]
        · refine ⟨nf', X', Y3, f1, ?_, f5, f6, f7, f8, f9, f10, f11⟩
          obtain ⟨z, z1, z2⟩ := gBind_some (show ((X11_stopsMove 8 r2 r3 (r4 - 4) (r5 - 4) _).bind fun r => some (r, _)) = some (-1, Y0) from e1)
          cases z2
          have f3 : X11_moves 8 r2 r3 (r4 - 4) (r5 - 4) Y1 = some Y2 := f3
          have f4 : X11_tells 5 r2 Y2 = some Y3 := f4
          unfold X11_happens X11_happensToMove
          rw [d1, bind_e, gU2_e, if_pos h5, if_neg e5, if_neg e6, r1_wL, em, d2, bind_e, gU2_e, d3, bind_e, gU2_e, d4, bind_e, gU2_e, gLet_e, d5, bind_e, gU2_e, gLet_e, z1, bind_e, if_pos rfl, f2, bind_e, f3, bind_e, f4, bind_e, bind_e]
  · have h5 : ¬ 5 ≤ r := fun z => h4 ((gt4 r).mpr z)
    obtain ⟨r2, u2, c2, d2⟩ := ch2 (k := n) (X := wI (wL Mx 0 0 15 u) 49 0 0 0) (Y := wL Mm 50 0 32 u) (by omega) (by omega) (sdE.w sdE.l)
    have h9 : X10_chooseAct Mx = some (wI (wL (wI (wL Mx 0 0 15 u) 49 0 0 0) 0 0 15 u2) 49 0 1 r2) := by
      unfold X10_chooseAct
      rw [c1, bind_e, gU2_e, if_neg h4, gLet_e, w_n (by omega), r1_wL, en, c2, bind_e, gU2_e, gLet_e]
    have y := yr_do (k := 0) (Y := wL (wL Mm 50 0 32 u) 50 0 32 u2) hm hnf h hs ((CHS.rf.l.w).l.w) (CHM.rf.l.l) (sdE.w sdE.l) h9 (by omega) (by rw [w_n (by omega), r1_wL, w_e]; rfl)
    rw [w_e] at y
    rcases y with ⟨l, Y1, hl, e1, X', f1, f2, f3, f4, f5, f6⟩ | ⟨Y0, e1, nf', X', Y1, Y2, Y3, f1, f2, f3, f4, f5, f6, f7, f8, f9, f10, f11⟩
    · refine ⟨nf, X', Y1, f1, ?_, Nat.le_refl _, hnf, f2, f3, f4, f5, f6⟩
      have e1 : X11_stopsDraw 8 r2 (wL (wL Mm 50 0 32 u) 50 0 32 u2) = some (nI l, Y1) := e1
      unfold X11_happens
      rw [d1, bind_e, gU2_e, if_neg h5, r1_wL, em, d2, bind_e, gU2_e, e1, bind_e, gU2_e, if_neg (nI_m1 (by omega))]
    · refine ⟨nf', X', Y3, f1, ?_, f5, f6, f7, f8, f9, f10, f11⟩
      have e1 : X11_stopsDraw 8 r2 (wL (wL Mm 50 0 32 u) 50 0 32 u2) = some (-1, Y0) := e1
      obtain ⟨⟨ρ, z⟩, z1, z2⟩ := gBind_some (show ((X11_draws 8 r2 Y1).bind (gU2 fun _ M => some M)) = some Y2 from f3)
      cases z2
      have f4 : X11_tells 0 r2 z = some Y3 := f4
      unfold X11_happens
      rw [d1, bind_e, gU2_e, if_neg h5, r1_wL, em, d2, bind_e, gU2_e, e1, bind_e, gU2_e, if_pos rfl, f2, bind_e, z1, bind_e, gU2_e, f4, bind_e]
end YR2
