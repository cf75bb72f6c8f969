/-! orders as a call -/
theorem O35 : O_35 Iv := fun q nf M a1 hq hI => by
  refine glue1 (F := fun M => X10_orders a1 M) (G := fun M => X11_orders a1 M) (fun Mx Mm h => ?_) hI
  have h0 := h.t0 (v := 0)
  show ∃ r Mx' Mm', X10_orders a1 Mx = some (r, Mx') ∧ X11_orders a1 Mm = some (r, Mm') ∧ J (q + 1) nf Mx' Mm' ∧ GX Mx Mx' ∧ GM Mm Mm'
  have hG : GM Mm (wI Mm 50 0 0 0) := GM.t0
  unfold X11_orders
  rw [gLet_e]
  revert h0 hG
  generalize wI Mm 50 0 0 0 = Y
  intro h0 hG
  unfold X10_orders
  have triv : ∃ r Mx' Mm', some ((-1 : Int32), Mx) = some (r, Mx') ∧ some ((-1 : Int32), Y) = some (r, Mm') ∧ J (q + 1) nf Mx' Mm' ∧ GX Mx Mx' ∧ GM Mm Mm' := ⟨_, _, _, rfl, rfl, h0.mono (by omega), GX.rf, hG⟩
  rcases h0.2.2.2.2 with hN | ⟨n, W, H, T, K, hS⟩
  · rw [hN.has, bind_e, if_pos rfl, if_pos hN.2.1]; exact triv
  · rw [hS.has, bind_e, if_neg (show ¬ (1 : Int32) = 0 by decide), if_neg hS.n0.2]
    rcases rng (n := 3) (hi := 2) (by omega) (by omega) rfl a1 Y with ⟨o, e⟩ | ⟨e, o1, -, -, o2, d, hd, rfl⟩
    · rw [e, bind_e, if_pos rfl]
      rcases o with o | o
      · rw [if_pos o]; exact triv
      · rw [if_neg o.1, if_neg (show ¬ a1 ≤ (2 : Int32) from o.2.2.2)]; exact triv
    · have hn := hS.1.1.2.1
      rw [e, bind_e, if_neg (show ¬ (1 : Int32) = 0 by decide), if_neg o1, if_pos (show nI d ≤ (2 : Int32) from o2)]
      -- the frame apart
      have gF : ∀ a b c, a ≠ 32 → (flI Mx 32 0 0 3).1 a b c = Mx.1 a b c := fun a b c ha => by rw [r1_flI, if_neg (by omega)]
      obtain ⟨A, c1, c2, c3, c4⟩ := x0_copy (M := flI Mx 32 0 0 3) (i0 := 2) (i1 := 0) (by omega)
      have gA : ∀ a b c, ¬ (a = 32 ∨ (33 ≤ a ∧ a ≤ 42 ∧ b = 2)) → (wI A 40 2 2 0).1 a b c = Mx.1 a b c := fun a b c hq => by rw [w_n (by omega), c3 a b c (by omega), gF a b c (by omega)]
      have cf : CF n W H T K Mx (wI A 40 2 2 0) := by
        refine ⟨fun c hc => ?_, fun c hc h2 => ?_, w_e, fun t ht => ?_, ⟨fun a b c hq => gA a b c (by omega), fun a b c hq => by rw [r2_wI, c4 a b c hq]; rfl⟩, fun a b c g1 g2 => gA a b c (by omega)⟩
        · rw [w_n (by omega), c2.1 39 c (by omega), gF 39 0 c (by omega)]
        · rw [w_n (by omega), c2.1 40 c (by omega), gF 40 0 c (by omega)]
        · rw [w_n (by omega), c2.1 38 t (by omega), gF 38 0 t (by omega)]
          obtain ⟨b, h1, h2, -⟩ := hS.1.2.2.2.2.2.2.1 t ht
          exact ⟨b, h1, h2⟩
      have ch0 : CH n W H T K Mx Y 0 (wI A 40 2 2 0) Y := ⟨by omega, ⟨fun _ => 0, fun i hi => absurd hi (by omega)⟩, cf, SM.rf, fun l hl => by rw [w_n (by omega), c3 32 0 l (by omega), r1_flI, if_pos (by omega)]⟩
      obtain ⟨c, X1, Y1, f1, f2, f3⟩ := j_choose (p := nI d) hS ch0
      obtain ⟨hc, ⟨tl, htl⟩, cf1, sm1, h32⟩ := f3
      unfold X7_tryOrders
      rw [gLet_e, c1, bind_e, gLet_e, f1, bind_e, gU2_e, x7_fac hc, bind_e, f2, bind_e, gU2_e]
      unfold X11_orders_J95
      by_cases hc0 : c = 0
      · subst hc0
        have lp : gIter (fun s : Int32 × gM => X7_tryOrders_L40 (nI 0) (nI (fac 0)) s.1 s.2) FU (0, X1) = some X1 := by
          apply FU5
          refine gIt_x ?_
          show X7_tryOrders_L40 (nI 0) (nI (fac 0)) 0 X1 = _
          unfold X7_tryOrders_L40
          rw [if_neg (by decide), if_pos (by decide)]
        rw [lp, bind_e, bind_e, gG_t (gin_n hd (by decide)), nI_clamp (by omega), h32 d hd, if_pos (show nI 0 = (0 : Int32) from rfl)]
        exact ⟨_, _, _, rfl, rfl, (h0.study (CF.sn hS cf1 sm1) cf1.2.2.2.2.1 sm1).mono (by omega), cf1.2.2.2.2.1.g, hG.tr sm1.g⟩
      · have hfl := fac_le (m := c) (by omega)
        have hfp := fac_pos c
        obtain ⟨X2, b, g1, g2, g3⟩ := gI2_FU (s1 := fun s : Int32 × gM => X7_tryOrders_L40 (nI c) (nI (fac c)) s.1 s.2) (s2 := fun s : Int32 × Int32 × Int32 × Int32 × gM => X11_orders_L135 (nI d) (nI c) (nI (fac c)) s.1 s.2.1 s.2.2.1 s.2.2.2.1 s.2.2.2.2) (fun k (x : gM) => (nI k, x)) (fun k (b : Int32 × Int32 × Int32 × gM) => (b.1, b.2.1, b.2.2.1, nI k, b.2.2.2)) (OL n W H T K Mx Y tl c) (OL n W H T K Mx Y tl c (fac c)) 0 (fac c) (by omega) (by omega)
          (fun k x b hk hR => by
            obtain ⟨X', b', q1, q2, q3⟩ := j_try (p := nI d) hS (by omega) hk hR
            exact ⟨X', b', q1, q2, q3⟩)
          (fun x b hR => by
            refine ⟨x, b, ?_, ?_, hR⟩
            · show X7_tryOrders_L40 (nI c) (nI (fac c)) (nI (fac c)) x = _
              unfold X7_tryOrders_L40
              rw [if_pos (nI_le (Nat.le_refl _) (by omega))]
            · show X11_orders_L135 (nI d) (nI c) (nI (fac c)) b.1 b.2.1 b.2.2.1 (nI (fac c)) b.2.2.2 = _
              unfold X11_orders_L135
              rw [if_pos (nI_le (Nat.le_refl _) (by omega))])
          X1 (-1, 0, 0, Y1) ⟨htl, cf1, sm1, h32 2 (by omega), Or.inl ⟨rfl, rfl⟩⟩
        obtain ⟨b1, b2, b3, Y2⟩ := b
        obtain ⟨-, k2, k3, k4, k5⟩ := g3
        have k3 : SM Y Y2 := k3
        have k4 : X2.1 32 0 2 = b3 := k4
        have k5 : (fac c = 0 ∧ b1 = -1) ∨ (1 ≤ fac c ∧ (∃ d, d < 100 ∧ b1 = nI d) ∧ X2.1 32 0 1 = b1 ∧ X2.1 32 0 0 = b2) := k5
        have k6 : X2.1 32 0 1 = b1 ∧ X2.1 32 0 0 = b2 := by
          rcases k5 with k5 | k5
          · exact absurd k5.1 (by omega)
          · exact ⟨k5.2.2.1, k5.2.2.2⟩
        have g1 : gIter (fun s : Int32 × gM => X7_tryOrders_L40 (nI c) (nI (fac c)) s.1 s.2) FU (0, X1) = some X2 := g1
        have g2 : gIter (fun s : Int32 × Int32 × Int32 × Int32 × gM => X11_orders_L135 (nI d) (nI c) (nI (fac c)) s.1 s.2.1 s.2.2.1 s.2.2.2.1 s.2.2.2.2) FU (-1, 0, 0, 0, Y1) = some (b1, b2, b3, Y2) := g2
        have fin : J (q + 1) nf X2 Y2 ∧ GX Mx X2 ∧ GM Mm Y2 := ⟨(h0.study (CF.sn hS k2 k3) k2.2.2.2.2.1 k3).mono (by omega), k2.2.2.2.2.1.g, hG.tr k3.g⟩
        have last : ∃ r Mx' Mm', some (X2.1 32 0 d, X2) = some (r, Mx') ∧ (if nI d = 0 then some (b2, Y2) else (if nI d = 1 then some (b1, Y2) else some (b3, Y2))) = some (r, Mm') ∧ J (q + 1) nf Mx' Mm' ∧ GX Mx Mx' ∧ GM Mm Mm' := by
          rcases (show d = 0 ∨ d = 1 ∨ d = 2 by omega) with rfl | rfl | rfl
          · rw [if_pos (show nI 0 = (0 : Int32) from rfl), k6.2]
            exact ⟨_, _, _, rfl, rfl, fin⟩
          · rw [if_neg (show ¬ nI 1 = (0 : Int32) by decide), if_pos (show nI 1 = (1 : Int32) from rfl), k6.1]
            exact ⟨_, _, _, rfl, rfl, fin⟩
          · rw [if_neg (show ¬ nI 2 = (0 : Int32) by decide), if_neg (show ¬ nI 2 = (1 : Int32) by decide), k4]
            exact ⟨_, _, _, rfl, rfl, fin⟩
        rw [g1, bind_e, bind_e, gG_t (gin_n hd (by decide)), nI_clamp (by omega)]
        rcases (show c = 1 ∨ c = 2 ∨ c = 3 ∨ c = 4 by omega) with rfl | rfl | rfl | rfl
        · have g2 : gIter (fun s : Int32 × Int32 × Int32 × Int32 × gM => X11_orders_L135 (nI d) (nI 1) (nI 1) s.1 s.2.1 s.2.2.1 s.2.2.2.1 s.2.2.2.2) FU (-1, 0, 0, 0, Y1) = some (b1, b2, b3, Y2) := g2
          rw [if_neg (show ¬ nI 1 = (0 : Int32) by decide), if_neg (show ¬ nI 1 = (4 : Int32) by decide), if_neg (show ¬ nI 1 = (3 : Int32) by decide), g2, bind_e, gU2_e, gU2_e, gU2_e]
          exact last
        · have g2 : gIter (fun s : Int32 × Int32 × Int32 × Int32 × gM => X11_orders_L135 (nI d) (nI 2) (nI 2) s.1 s.2.1 s.2.2.1 s.2.2.2.1 s.2.2.2.2) FU (-1, 0, 0, 0, Y1) = some (b1, b2, b3, Y2) := g2
          rw [if_neg (show ¬ nI 2 = (0 : Int32) by decide), if_neg (show ¬ nI 2 = (4 : Int32) by decide), if_neg (show ¬ nI 2 = (3 : Int32) by decide), g2, bind_e, gU2_e, gU2_e, gU2_e]
          exact last
        · have g2 : gIter (fun s : Int32 × Int32 × Int32 × Int32 × gM => X11_orders_L135 (nI d) (nI 3) 6 s.1 s.2.1 s.2.2.1 s.2.2.2.1 s.2.2.2.2) FU (-1, 0, 0, 0, Y1) = some (b1, b2, b3, Y2) := g2
          rw [if_neg (show ¬ nI 3 = (0 : Int32) by decide), if_neg (show ¬ nI 3 = (4 : Int32) by decide), if_pos (show nI 3 = (3 : Int32) from rfl), g2, bind_e, gU2_e, gU2_e, gU2_e]
          exact last
        · have g2 : gIter (fun s : Int32 × Int32 × Int32 × Int32 × gM => X11_orders_L135 (nI d) (nI 4) 24 s.1 s.2.1 s.2.2.1 s.2.2.2.1 s.2.2.2.2) FU (-1, 0, 0, 0, Y1) = some (b1, b2, b3, Y2) := g2
          rw [if_neg (show ¬ nI 4 = (0 : Int32) by decide), if_pos (show nI 4 = (4 : Int32) from rfl), g2, bind_e, gU2_e, gU2_e, gU2_e]
          exact last
