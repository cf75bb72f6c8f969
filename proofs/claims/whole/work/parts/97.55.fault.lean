/-! fault -/
section FL
variable {L p q k i w s n nf ns : Nat} {X Y X' Y' M Mx Mm Mx' Mm' : gM} {r a1 : Int32}
theorem TP.ts (h : TP X Y) : ∃ L, TS L X Y := h
theorem x11_f (a1 : Int32) (ha : a1 = 0 ∨ a1 = 1) (M : gM) : X11_fault a1 M = (if a1 = 0 then (X11_readScene (wI (wI (wI M 50 0 0 0) 50 0 3 0) 50 0 4 (-1))).bind (fun M_11 => some ((M_11.1 50 0 4), M_11)) else (X11_readScript (wI (wI (wI M 50 0 0 0) 50 0 3 0) 50 0 4 (-1))).bind (fun M_9 => some ((M_9.1 50 0 4), M_9))) := by
  unfold X11_fault
  rw [gLet_e, x11_isIn, if_pos (by rcases ha with rfl | rfl <;> decide), bind_e, if_neg (show ¬ (1 : Int32) = 0 by decide), gLet_e, gLet_e]
theorem J.scene (h : J q nf Mx Mm) : ∃ r X' Y', X3_readScene 0 Mx = some (r, X') ∧ X11_fault 0 Mm = some (r, Y') ∧ J q nf X' Y' ∧ XT Mx X' ∧ GM Mm Y' ∧ ((∃ s, s ≤ 480 ∧ r = nI s) ∨ (r = -1 ∧ DRr X' Y' ∧ ∃ n, 1 ≤ n ∧ DRt n X' Y')) := by
  obtain ⟨L, ts⟩ := h.2.1.ts
  have gy : ∀ a b c, ¬ (a = 50 ∧ b = 0 ∧ (c = 0 ∨ c = 3 ∨ c = 4)) → (wI (wI (wI Mm 50 0 0 0) 50 0 3 0) 50 0 4 (-1)).1 a b c = Mm.1 a b c := fun a b c hq => by rw [w_n (by omega), w_n (by omega), w_n (by omega)]
  obtain ⟨r, X', Y', e1, e2, e3, e4, e5, e6⟩ := j_scene (X := Mx) (Y := wI (wI (wI Mm 50 0 0 0) 50 0 3 0) 50 0 4 (-1)) (ts.of (fun _ _ _ _ => rfl) (fun a b c hc => gy a b c (by omega))) (by rw [w_n (by omega), w_e]; rfl) w_e
  refine ⟨r, X', Y', e1, ?_, ?_, e4, fun a b c hq => ⟨?_, ?_⟩, e6⟩
  · rw [x11_f 0 (Or.inl rfl), if_pos rfl, e2, bind_e, e3]
  · exact h.same (fun a b c hc => e4.2 a b c (by unfold rX relX at hc; omega)) (fun b c _ => by rw [e4.1]) (fun a b c hc => by rw [e5.2 a b c (by unfold rM relM at hc; omega), gy a b c (by unfold rM relM at hc; omega)])
  · rw [e5.2 a b c (by omega), gy a b c (by omega)]
  · rw [e5.1]; rfl
theorem J.script (h : J q nf Mx Mm) (hn : ns ≤ 4) (e13 : Mx.1 0 0 13 = nI ns) : ∃ r X' Y', X3_readScript ns Mx = some (r, X') ∧ X11_fault 1 Mm = some (r, Y') ∧ J q nf X' Y' ∧ XS ns Mx X' ∧ GM Mm Y' ∧ Y'.1 50 0 17 = Mm.1 50 0 17 ∧ ((∃ s, s ≤ 480 ∧ r = nI s) ∨ (r = -1 ∧ ∃ ln, 1 ≤ ln ∧ ln ≤ 12 ∧ SD ns ln X' Y' ∧ Y'.1 52 6 4 = nI ln)) := by
  obtain ⟨L, ts⟩ := h.2.1.ts
  have gy : ∀ a b c, ¬ (a = 50 ∧ b = 0 ∧ (c = 0 ∨ c = 3 ∨ c = 4)) → (wI (wI (wI Mm 50 0 0 0) 50 0 3 0) 50 0 4 (-1)).1 a b c = Mm.1 a b c := fun a b c hq => by rw [w_n (by omega), w_n (by omega), w_n (by omega)]
  obtain ⟨r, X', Y', e1, e2, e3, e4, e5, e6⟩ := j_script (i := ns) (X := Mx) (Y := wI (wI (wI Mm 50 0 0 0) 50 0 3 0) 50 0 4 (-1)) (by omega) (ts.of (fun _ _ _ _ => rfl) (fun a b c hc => gy a b c (by omega))) (by rw [w_n (by omega), w_e]; rfl) w_e
  have fy : ∀ a b c, ¬ ((a = 50 ∧ b = 0 ∧ (c = 0 ∨ c = 3 ∨ c = 4 ∨ c = 5 ∨ c = 7)) ∨ (a = 52 ∧ (b = 0 ∨ (b = 5 ∧ 240 ≤ c) ∨ (b = 6 ∧ c = 4)))) → Y'.1 a b c = Mm.1 a b c := fun a b c hq => by rw [e5.2 a b c (by omega), gy a b c (by omega)]
  refine ⟨r, X', Y', e1, ?_, ?_, e4, fun a b c hq => ⟨?_, ?_⟩, fy 50 0 17 (by omega), e6⟩
  · rw [x11_f 1 (Or.inr rfl), if_neg (show ¬ (1 : Int32) = 0 by decide), e2, bind_e, e3]
  · obtain ⟨h1, h2, h3, h4, h5⟩ := h
    refine ⟨h1, h2.same (fun a b c hc => e4.2 a b c (by omega)) (fun a b c hc => fy a b c (by omega)), ?_, fun k hk => ?_, ?_⟩
    · obtain ⟨ns', g1, g2, g3, g4⟩ := h3
      have en : ns' = ns := nI_inj (by omega) (by omega) (by rw [← g2, ← e13])
      subst en
      refine ⟨ns', g1, by rw [e4.2 0 0 13 (by omega)]; exact g2, by rw [fy 50 0 17 (by omega)]; exact g3, fun s hs => ?_⟩
      obtain ⟨ln, l1, l2, l3, l4⟩ := g4 s hs
      refine ⟨ln, l1, by rw [e4.2 46 s 1 (by omega)]; exact l2, by rw [fy 52 6 s (by omega)]; exact l3, fun l hl => (l4 l hl).of (fun c hc => e4.2 47 s _ (by omega)) (fun c hc => fy 52 5 _ (by omega))⟩
    · rw [e4.2 48 0 k (by omega), fy 52 7 k (by omega)]
      exact h4 k hk
    · rcases h5 with h5 | ⟨n, W, H, T, K, h5⟩
      · exact Or.inl (h5.same (fun a b c hc => e4.2 a b c (by unfold relX at hc; omega)) (fun a b c hc => fy a b c (by unfold relM at hc; omega)))
      · exact Or.inr ⟨n, W, H, T, K, h5.same (fun a b c hc => e4.2 a b c (by unfold relX at hc; omega)) (fun b c _ => by rw [e4.1]) (fun a b c hc => fy a b c (by unfold relM at hc; omega))⟩
  · exact fy a b c (by omega)
  · rw [e5.1]; rfl
theorem O2 : O_2 Iv := fun q nf M a1 hq hI => by
  refine glue1 (F := fun M => X10_fault a1 M) (G := fun M => X11_fault a1 M) (fun Mx Mm h => ?_) hI
  show ∃ r Mx' Mm', X10_fault a1 Mx = some (r, Mx') ∧ X11_fault a1 Mm = some (r, Mm') ∧ _
  unfold X10_fault
  by_cases c0 : a1 = 0
  · subst c0
    obtain ⟨r, X', Y', e1, e2, e3, e4, e5, e6⟩ := h.scene
    refine ⟨r, X', Y', by rw [if_pos rfl, e1, bind_e, gU2_e], e2, e3.mono (Nat.le_succ q), fun a b c hc => ⟨e4.2 a b c (by omega), by rw [e4.1]⟩, e5⟩
  · by_cases c1 : a1 = 1
    · subst c1
      obtain ⟨ns, g1, g2, g3, g4⟩ := id h.2.2.1
      obtain ⟨r, X', Y', e1, e2, e3, e4, e5, e6, e7⟩ := h.script g1 g2
      refine ⟨r, X', Y', by rw [if_neg c0, if_pos rfl, g2, gG_t (gin_n (k := ns) (by omega) (by decide)), nI_clamp (n := ns) (by omega), e1, bind_e, gU2_e], e2, e3.mono (Nat.le_succ q), fun a b c hc => ⟨e4.2 a b c (by omega), by rw [e4.1]⟩, e5⟩
    · have ni : ¬ ((0 : Int64).toInt ≤ a1.toInt ∧ a1.toInt ≤ (1 : Int64).toInt) := fun z => by
        have z1 : 0 ≤ a1.toInt := z.1
        have z2 : a1.toInt ≤ 1 := z.2
        have n0 : a1.toInt ≠ 0 := fun e => c0 (Int32.toInt_inj.mp e)
        have n1 : a1.toInt ≠ 1 := fun e => c1 (Int32.toInt_inj.mp e)
        omega
      refine ⟨-2, Mx, wI Mm 50 0 0 0, by rw [if_neg c0, if_neg c1], ?_, (h.t0 (v := 0)).mono (Nat.le_succ q), GX.rf, GM.t0⟩
      unfold X11_fault
      rw [gLet_e, x11_isIn, if_neg ni, bind_e, if_pos rfl]
end FL
