/-! text -/
section TX
variable {q nf n ns k t : Nat} {X Y X' Y' M Mx Mm Mx' Mm' : gM} {r a1 : Int32}
theorem x11_t (ha : a1 = 0 ∨ (a1 = 1 ∧ ¬ M.1 50 0 17 = 4)) : X11_text a1 M = X11_text_J28 a1 (wI M 50 0 0 0) := by
  unfold X11_text
  rcases ha with rfl | ⟨rfl, h4⟩
  · rw [gLet_e, x11_isIn, if_pos (by decide), bind_e, if_neg (show ¬ (1 : Int32) = 0 by decide), if_neg (show ¬ (0 : Int32) = 1 by decide)]
  · rw [gLet_e, x11_isIn, if_pos (by decide), bind_e, if_neg (show ¬ (1 : Int32) = 0 by decide), if_pos rfl, w_n (by omega), if_neg h4]
theorem J.f22 (h : J q nf Mx Mm) : (∃ f, f < 40 ∧ Mm.1 50 0 22 = nI f) ∧ Mm.1 50 0 29 = 0 ∧ Mm.1 50 0 30 = 0 := by
  rcases h.2.2.2.2 with g | ⟨n, W, H, T, K, g⟩
  · obtain ⟨g1, g2, g3, g3b, g3c, g4, g5, g6, g7, g8, g9, g10, g11, g12, g13⟩ := g
    exact ⟨⟨0, by omega, g13⟩, g11, g12⟩
  · obtain ⟨hr, hp, hl, hh, hi⟩ := g
    obtain ⟨p, h', f, h1, h2, h3, h4, h5, h6, h7, h8, h9, h10⟩ := hh
    exact ⟨⟨f, h4, h8⟩, hr.2.1.2.2.1.1, hr.2.1.2.2.1.2⟩
/-- a script is kept -/
theorem j_text1 (h : J q nf Mx Mm) (hn : ns < 4) (e13 : Mx.1 0 0 13 = nI ns) (e17 : Mm.1 50 0 17 = nI ns) : ∃ r X' Y', X10_text 1 Mx = some (r, X') ∧ X11_text 1 Mm = some (r, Y') ∧ J q nf X' Y' ∧ GX Mx X' ∧ GM Mm Y' := by
  have h0 := h.t0 (v := 0)
  obtain ⟨r, X', Y', e1, e2, e3, e4, e5, e6, e7⟩ := h0.script (ns := ns) (by omega) e13
  have n4 : ¬ nI ns = (4 : Int32) := fun z => absurd (nI_inj (b := 4) (by omega) (by decide) z) (by omega)
  have cls : X10_text 1 Mx = (if r = (-1) then gLet (wI X' 1 0 1 0) (fun M_9 => gLet (wI M_9 0 0 13 ((M_9.1 0 0 13) + 1)) (fun M_10 => some (((M_10.1 0 0 13) - 1), M_10))) else some ((-1), X')) := by
    unfold X10_text X10_text_J39
    rw [if_neg (show ¬ (1 : Int32) = 0 by decide), if_pos rfl, e13, if_neg (show ¬ (4 : Int32) ≤ nI ns from nI_ge (a := ns) (b := 4) hn (by decide)), gG_t (gin_n (k := ns) (by omega) (by decide)), nI_clamp (n := ns) (by omega), e1, bind_e, gU2_e]
  have mod : X11_text 1 Mm = (if r = (-1) then (gIter (fun s => X11_text_L51 s.1 s.2) FU (0, wI Y' 50 0 2 0)).bind (fun M_54 => gG (gin (M_54.1 50 0 17) 5) (gLet (wI M_54 52 6 (Int32.toNatClampNeg (M_54.1 50 0 17)) (M_54.1 52 6 4)) (fun M_56 => gLet (wI M_56 50 0 17 ((M_56.1 50 0 17) + 1)) (fun M_57 => some (((M_57.1 50 0 17) - 1), M_57))))) else some ((-1), Y')) := by
    rw [x11_t (Or.inr ⟨rfl, by rw [e17]; exact n4⟩)]
    unfold X11_text_J28
    rw [e2, bind_e, gU2_e, gLet_e, if_pos (show (1 : Int32) = 1 from rfl)]
  have gxx : GX Mx X' := fun a b c hc => ⟨e4.2 a b c (by omega), by rw [e4.1]⟩
  have gmm : GM Mm Y' := GM.t0.tr e5
  rcases e7 with ⟨s, s1, s2⟩ | ⟨r1, ln, l1, l2, l3, l4⟩
  · have nr : ¬ r = -1 := by rw [s2]; exact nI_m1 (by omega)
    exact ⟨-1, X', Y', by rw [cls, if_neg nr], by rw [mod, if_neg nr], e3, gxx, gmm⟩
  · have y17 : Y'.1 50 0 17 = nI ns := by rw [e6, w_n (by omega)]; exact e17
    have x13 : X'.1 0 0 13 = nI ns := by rw [e4.2 0 0 13 (by omega)]; exact e13
    obtain ⟨Z, z1, z2, z3⟩ := lp_w (M := wI Y' 50 0 2 0) (step := fun s => X11_text_L51 s.1 s.2) 52 5 (60 * ns) 60 (fun k => Y'.1 52 5 (240 + k)) (by omega)
      (fun k x hk hx => by
        have gx : ∀ a b c, ¬ (a = 52 ∧ b = 5 ∧ 60 * ns ≤ c ∧ c < 60 * ns + 60) → x.1 a b c = (wI Y' 50 0 2 0).1 a b c := hx.2
        have i1 : 240 + nI k = nI (240 + k) := by rw [nlit 240, nI_add]
        have i2 : 60 * nI ns + nI k = nI (60 * ns + k) := by rw [nlit 60, nI_mul, nI_add]
        show X11_text_L51 (nI k) x = _
        unfold X11_text_L51
        rw [if_neg (show ¬ (60 : Int32) ≤ nI k from nI_ge (a := k) (b := 60) hk (by decide)), gx 50 0 17 (by omega), w_n (by omega), y17, i1, i2, gG_t (gin_n (k := 240 + k) (by omega) (by decide)), gG_t (gin_n (k := 60 * ns + k) (by omega) (by decide)), nI_clamp (n := 60 * ns + k) (by omega), nI_clamp (n := 240 + k) (by omega), gLet_e, gLet_e, nI_1, gx 52 5 _ (by omega), w_n (by omega)])
      (fun x => by
        show X11_text_L51 (nI 60) x = _
        unfold X11_text_L51
        rw [if_pos (by decide)])
    have gz : ∀ a b c, ¬ ((a = 52 ∧ b = 5 ∧ 60 * ns ≤ c ∧ c < 60 * ns + 60) ∨ (a = 50 ∧ b = 0 ∧ c = 2)) → Z.1 a b c = Y'.1 a b c := fun a b c hq => by rw [z3.2 a b c (by omega), w_n (by omega)]
    have z17 : Z.1 50 0 17 = nI ns := by rw [gz 50 0 17 (by omega)]; exact y17
    have z64 : Z.1 52 6 4 = nI ln := by rw [gz 52 6 4 (by omega)]; exact l4
    have em : nI (ns + 1) - 1 = nI ns := by rw [nlit 1, nI_sub (by omega), Nat.add_sub_cancel]
    have gx : ∀ a b c, ¬ ((a = 1 ∧ b = 0 ∧ c = 1) ∨ (a = 0 ∧ b = 0 ∧ c = 13)) → (wI (wI X' 1 0 1 0) 0 0 13 (nI (ns + 1))).1 a b c = X'.1 a b c := fun a b c hq => by rw [w_n (by omega), w_n (by omega)]
    have gy : ∀ a b c, ¬ ((a = 52 ∧ b = 5 ∧ 60 * ns ≤ c ∧ c < 60 * ns + 60) ∨ (a = 50 ∧ b = 0 ∧ (c = 2 ∨ c = 17)) ∨ (a = 52 ∧ b = 6 ∧ c = ns)) → (wI (wI Z 52 6 ns (nI ln)) 50 0 17 (nI (ns + 1))).1 a b c = Y'.1 a b c := fun a b c hq => by rw [w_n (by omega), w_n (by omega)]; exact gz a b c (by omega)
    refine ⟨nI ns, wI (wI X' 1 0 1 0) 0 0 13 (nI (ns + 1)), wI (wI Z 52 6 ns (nI ln)) 50 0 17 (nI (ns + 1)), ?_, ?_, ?_, gxx.tr (fun a b c hc => ⟨gx a b c (by omega), rfl⟩), gmm.tr (fun a b c hc => ⟨gy a b c (by omega), ?_⟩)⟩
    · rw [cls, if_pos r1, gLet_e, w_n (by omega), x13, nI_1, gLet_e, w_e, em]
    · rw [mod, if_pos r1, z1, bind_e, z17, gG_t (gin_n (k := ns) (by omega) (by decide)), nI_clamp (n := ns) (by omega), z64, gLet_e, w_n (by omega), z17, nI_1, gLet_e, w_e, em]
    · obtain ⟨h1, h2, h3, h4, h5⟩ := e3
      refine ⟨h1, ⟨0, by omega, by rw [w_n (by omega), w_e]; rfl, by rw [w_n (by omega), w_n (by omega), z3.2 50 0 2 (by omega), w_e]; rfl, fun c hc => absurd hc (by omega)⟩, ?_, fun k hk => ?_, ?_⟩
      · obtain ⟨ns', g1, g2, g3, g4⟩ := h3
        have en : ns' = ns := nI_inj (by omega) (by omega) (by rw [← g2, ← x13])
        subst en
        refine ⟨ns' + 1, by omega, w_e, w_e, fun s hs => ?_⟩
        by_cases e : s = ns'
        · subst e
          refine ⟨ln, by omega, by rw [gx 46 s 1 (by omega)]; exact l3.1, by rw [w_n (by omega), w_e], fun l hl => (l3.2 l hl).of (fun c hc => gx 47 s _ (by omega)) (fun c hc => ?_)⟩
          have zz := z2 (5 * l + c) (by omega)
          rw [w_n (by omega), w_n (by omega), show 5 * (12 * s + l) + c = 60 * s + (5 * l + c) by omega, zz, show 240 + (5 * l + c) = 5 * (48 + l) + c by omega]
        · obtain ⟨L, q1, q2, q3, q4⟩ := g4 s (by omega)
          refine ⟨L, q1, by rw [gx 46 s 1 (by omega)]; exact q2, by rw [gy 52 6 s (by omega)]; exact q3, fun l hl => (q4 l hl).of (fun c hc => gx 47 s _ (by omega)) (fun c hc => gy 52 5 _ (by omega))⟩
      · rw [gx 48 0 k (by omega), gy 52 7 k (by omega)]
        exact h4 k hk
      · rcases h5 with h5 | ⟨n, W, H, T, K, h5⟩
        · exact Or.inl (h5.same (fun a b c hc => gx a b c (by unfold relX at hc; omega)) (fun a b c hc => gy a b c (by unfold relM at hc; omega)))
        · exact Or.inr ⟨n, W, H, T, K, h5.same (fun a b c hc => gx a b c (by unfold relX at hc; omega)) (fun b c _ => rfl) (fun a b c hc => gy a b c (by unfold relM at hc; omega))⟩
    · show Z.2 a b c = _
      rw [z3.1]
      rfl
/-- a scene is begun -/
theorem j_text0 (h : J q nf Mx Mm) : ∃ r X' Y', X10_text 0 Mx = some (r, X') ∧ X11_text 0 Mm = some (r, Y') ∧ J q nf X' Y' ∧ GX Mx X' ∧ GM Mm Y' := by
  have h0 := h.t0 (v := 0)
  obtain ⟨r, X', Y', e1, e2, e3, e4, e5, e6⟩ := h0.scene
  have cls : X10_text 0 Mx = (if r = (-1) then gLet (wI X' 1 0 1 0) (fun M_15 => (X10_begin M_15).bind (fun M_17 => some ((M_17.1 5 1 5), M_17))) else some ((-1), X')) := by
    unfold X10_text X10_text_J39
    rw [if_pos rfl, e1, bind_e, gU2_e, if_neg (show ¬ (0 : Int32) = 1 by decide)]
  have mod : X11_text 0 Mm = (if r = (-1) then tl0 (wI Y' 50 0 2 0) else some ((-1), Y')) := by
    rw [x11_t (Or.inl rfl)]
    unfold X11_text_J28 tl0
    rw [e2, bind_e, gU2_e, gLet_e (wI Y' 50 0 2 0), if_neg (show ¬ (0 : Int32) = 1 by decide)]
  have gxx : GX Mx X' := fun a b c hc => ⟨e4.2 a b c (by omega), by rw [e4.1]⟩
  have gmm : GM Mm Y' := GM.t0.tr e5
  rcases e6 with ⟨s, s1, s2⟩ | ⟨r1, dr, n, hn1, dt⟩
  · have nr : ¬ r = -1 := by rw [s2]; exact nI_m1 (by omega)
    exact ⟨-1, X', Y', by rw [cls, if_neg nr], by rw [mod, if_neg nr], e3, gxx, gmm⟩
  · have hn := dt.1
    obtain ⟨W, w1, w2, w3⟩ := (dr 0 (by omega)).2.1 (by omega)
    obtain ⟨H, p1, p2, p3⟩ := (dr 1 (by omega)).2.1 (by omega)
    obtain ⟨T, t1, t2, t3⟩ := (dr 2 (by omega)).2.2.1 rfl
    have k0 := (dr 3 (by omega)).2.2.2.1 rfl
    obtain ⟨K, k1, k2⟩ : ∃ K, (K = 1 ∨ K = 2 ∨ K = 4) ∧ cx 3 X' = nI K := by
      rcases k0 with z | z | z
      · exact ⟨1, by omega, z⟩
      · exact ⟨2, by omega, z⟩
      · exact ⟨4, by omega, z⟩
    have hd : dOk W H T K := ⟨⟨w1, w2⟩, ⟨p1, p2⟩, ⟨t1, t2⟩, k1⟩
    have cx5 : ∀ j, j < 5 → X'.1 5 0 j = cx j X' := fun j hj => by unfold cx; rw [if_pos hj]
    have cx6 : ∀ j, X'.1 6 0 j = cx (5 + j) X' := fun j => by unfold cx; rw [if_neg (by omega), Nat.add_sub_cancel_left]
    obtain ⟨Yb, y1, y2⟩ := x11_told (n := n) (Y := wI Y' 50 0 2 0) hn (by rw [w_n (by omega)]; exact dt.2.2.1)
    obtain ⟨m1, m2, m3, m4, m5, m6, m7, m8, m9, m10, m11, m12⟩ := y2
    have gy : ∀ a b c, ¬ ((a = 52 ∧ (b = 2 ∨ b = 4 ∨ b = 8)) ∨ (a = 50 ∧ b = 0 ∧ (c = 2 ∨ c = 16 ∨ c = 23 ∨ c = 24))) → Yb.1 a b c = Y'.1 a b c := fun a b c hq => by rw [m12.2 a b c (by omega), w_n (by omega)]
    have ya : ∀ b c, (wI Y' 50 0 2 0).1 52 b c = Y'.1 52 b c := fun b c => w_n (by omega)
    have xa : ∀ a b c, ¬ (a = 1 ∧ b = 0 ∧ c = 1) → (wI X' 1 0 1 0).1 a b c = X'.1 a b c := fun a b c hq => w_n hq
    have fd : FD n (Yb.1 52 8) (wI X' 1 0 1 0) := fun t ht => by
      obtain ⟨g1, g2, g3, g4⟩ := dt.2.2.2 t ht
      refine ⟨fun k hk => ?_, fun k hk => ?_⟩
      · obtain ⟨c1, c2, c3⟩ := g1 (k / 2) (by omega)
        rw [xa 11 0 _ (by omega), show 944 + 9 * t + 3 * (k / 2) + k % 2 = 944 + 9 * t + (3 * (k / 2) + k % 2) by omega, m4 t ht _ (by omega), ya]
        rcases (show k % 2 = 0 ∨ k % 2 = 1 by omega) with e | e
        · rw [show 6 * t + k = 6 * t + 2 * (k / 2) by omega, show 12 * t + (3 * (k / 2) + k % 2) = 12 * t + 3 * (k / 2) by omega]
          exact ⟨c1.1.symm, c1.2⟩
        · rw [show 6 * t + k = 6 * t + 2 * (k / 2) + 1 by omega, show 12 * t + (3 * (k / 2) + k % 2) = 12 * t + 3 * (k / 2) + 1 by omega]
          exact ⟨c2.1.symm, c2.2⟩
      · obtain ⟨c1, c2, c3⟩ := g1 k hk
        rw [xa 10 0 _ (by omega), show 944 + 9 * t + 3 * k + 2 = 944 + 9 * t + (3 * k + 2) by omega, m4 t ht _ (by omega), ya, show 12 * t + (3 * k + 2) = 12 * t + 3 * k + 2 by omega]
        exact c3.1.symm
    obtain ⟨Xb, b1, b2, b3, b4, b5, b6, b7, b8, b9, b10, b11, b12, b13, b14⟩ := x10_beg (M := wI X' 1 0 1 0) (w := Yb.1 52 8) hd ⟨hn1, hn⟩ ⟨by rw [xa 5 0 0 (by omega), cx5 0 (by omega)]; exact w3, by rw [xa 5 0 1 (by omega), cx5 1 (by omega)]; exact p3, by rw [xa 5 0 2 (by omega), cx5 2 (by omega)]; exact t3, by rw [xa 5 0 3 (by omega), cx5 3 (by omega)]; exact k2, by rw [xa 5 0 5 (by omega)]; exact dt.2.1⟩
      (fun t ht => by
        obtain ⟨g1, g2, g3, g4⟩ := dt.2.2.2 t ht
        rw [xa 7 0 t (by omega), xa 9 0 t (by omega)]
        refine ⟨?_, fun k hk => ?_, g3.2⟩
        · obtain ⟨a, a1, a2, a3⟩ := g4.2
          rw [a3]
          rcases (show a = 0 ∨ a = 1 ∨ a = 2 ∨ a = 3 by omega) with rfl | rfl | rfl | rfl
          · exact Or.inl rfl
          · exact Or.inr (Or.inl rfl)
          · exact Or.inr (Or.inr (Or.inl rfl))
          · exact Or.inr (Or.inr (Or.inr rfl))
        · rw [xa 10 0 _ (by omega)]
          exact (g1 k hk).2.2.2) fd
    have x54 : (wI X' 1 0 1 0).1 5 0 4 = Y'.1 52 1 4 := by rw [xa 5 0 4 (by omega), cx5 4 (by omega), (dr 4 (by omega)).1]
    rw [x54] at b5 b8
    have ru : ∀ k, k < 4 → Xb.1 40 0 k = cx (5 + k) X' := fun k hk => by rw [b7 k hk, xa 6 0 k (by omega), cx6]
    have rv : ∀ k, k < 4 → rvl k (Xb.1 40 0 k) := fun k hk => by
      have := (dr (5 + k) (by omega)).2.2.2.2 (by omega)
      rw [Nat.add_sub_cancel_left] at this
      rw [ru k hk]
      exact this
    have gx : ∀ a b c, ¬ ((a = 1 ∧ b = 0 ∧ c = 1) ∨ (5 ≤ a ∧ a ≤ 11 ∧ b = 1) ∨ (12 ≤ a ∧ a ≤ 16 ∧ b = 0) ∨ (19 ≤ a ∧ a ≤ 27) ∨ (33 ≤ a ∧ a ≤ 40 ∧ b = 0) ∨ (a = 43 ∧ b = 0 ∧ (c = 1 ∨ c = 2)) ∨ (a = 0 ∧ b = 0 ∧ c = 14)) → Xb.1 a b c = X'.1 a b c := fun a b c hq => by rw [b13 a b c (by omega), xa a b c (by omega)]
    obtain ⟨⟨f, f1, f2⟩, f29, f30⟩ := e3.f22
    obtain ⟨h1, h2, h3, h4, h5⟩ := e3
    have sn : SN (40 * q) nf n W H T K Xb Yb := by
      refine ⟨⟨b2, ⟨⟨m1, ?_, ?_, ?_, ?_⟩, ?_, ⟨?_, ?_⟩, fun t ht => ⟨?_, ?_, ?_⟩⟩, b3, b4, ⟨fun k hk => ?_, (rv 0 (by omega)).1 rfl, (rv 1 (by omega)).2.1 (by omega), (rv 2 (by omega)).2.1 (by omega), (rv 3 (by omega)).2.2 rfl⟩, fun k hk => ?_, fun t ht => ?_, fun t ht => ?_, fun t g1 g2 => b8.2.2.1 t g2, ?_, ?_, ?_⟩, fun k hk => (b8.1 k hk).2.2, ⟨0, b9, by omega, m9, fun e he => absurd he (by omega)⟩, ⟨0, 0, f, by omega, by omega, by omega, f1, by omega, b10, b11, by rw [gy 50 0 22 (by omega)]; exact f2, m10, fun k hk => absurd hk (by omega)⟩, Or.inl ⟨b12, m11⟩⟩
      · rw [m2 0 (by omega), ya, ← (dr 0 (by omega)).1]; exact w3
      · rw [m2 1 (by omega), ya, ← (dr 1 (by omega)).1]; exact p3
      · rw [m2 2 (by omega), ya, ← (dr 2 (by omega)).1]; exact t3
      · rw [m2 3 (by omega), ya, ← (dr 3 (by omega)).1]; exact k2
      · rw [m2 4 (by omega), ya, b5]
      · rw [gy 50 0 29 (by omega)]; exact f29
      · rw [gy 50 0 30 (by omega)]; exact f30
      · rw [m3 _ (by omega), ya, b6 8 t (by omega) (by omega) (by omega), xa 8 0 t (by omega)]
        exact (dt.2.2.2 t ht).2.1.symm
      · rw [m3 _ (by omega), ya, b6 9 t (by omega) (by omega) (by omega), xa 9 0 t (by omega)]
        exact (dt.2.2.2 t ht).2.2.1.1.symm
      · rw [m3 _ (by omega), ya, b6 7 t (by omega) (by omega) (by omega), xa 7 0 t (by omega)]
        exact (dt.2.2.2 t ht).2.2.2.1.symm
      · rw [m5 k hk, ya, ru k hk, (dr (5 + k) (by omega)).1]
      · obtain ⟨c1, c2, c3⟩ := b8.1 k hk
        obtain ⟨d1, d2, d3⟩ := m6 k hk
        rw [c1, c2, c3, d1, d2, d3, ya]
        exact ⟨⟨rfl, by decide, by decide⟩, rfl, rfl, Or.inl rfl⟩
      · exact ⟨0, by omega, b8.2.1 t ht, m7 t ht, fun _ => rfl, fun k hk => absurd hk (by omega)⟩
      · rw [b8.2.2.1 t (by omega), m8 _ (by omega) (by omega), m8 _ (by omega) (by omega)]
        decide
      · rw [b8.2.2.2 10 (by omega) (by omega), m8 _ (by omega) (by omega)]
      · rw [b8.2.2.2 11 (by omega) (by omega), m8 _ (by omega) (by omega)]
      · rw [b8.2.2.2 12 (by omega) (by omega), m8 _ (by omega) (by omega)]
    refine ⟨nI n, Xb, Yb, ?_, ?_, ⟨h1, ⟨0, by omega, by rw [b13 1 0 1 (by omega), w_e]; rfl, by rw [m12.2 50 0 2 (by omega), w_e]; rfl, fun c hc => absurd hc (by omega)⟩, h3.same (fun a b c hc => gx a b c (by omega)) (fun a b c hc => gy a b c (by omega)), fun k hk => ?_, Or.inr ⟨n, W, H, T, K, sn⟩⟩, gxx.tr (fun a b c hc => ⟨gx a b c (by omega), by rw [b14 a b c (by omega)]; rfl⟩), gmm.tr (fun a b c hc => ⟨gy a b c (by omega), by rw [m12.1]; rfl⟩)⟩
    · rw [cls, if_pos r1, gLet_e, b1, bind_e, b2.2.2.1.2.2.2.2]
    · rw [mod, if_pos r1, y1]
    · rw [gx 48 0 k (by omega), gy 52 7 k (by omega)]
      exact h4 k hk
theorem O3 : O_3 Iv := fun q nf M a1 hq hI => by
  refine glue1 (F := fun M => X10_text a1 M) (G := fun M => X11_text a1 M) (fun Mx Mm h => ?_) hI
  show ∃ r Mx' Mm', X10_text a1 Mx = some (r, Mx') ∧ X11_text a1 Mm = some (r, Mm') ∧ _
  by_cases c0 : a1 = 0
  · subst c0
    obtain ⟨r, X', Y', e1, e2, e3, e4, e5⟩ := j_text0 h
    exact ⟨r, X', Y', e1, e2, e3.mono (Nat.le_succ q), e4, e5⟩
  · by_cases c1 : a1 = 1
    · subst c1
      obtain ⟨ns, g1, g2, g3, g4⟩ := id h.2.2.1
      by_cases h4 : ns = 4
      · refine ⟨-1, Mx, wI Mm 50 0 0 0, ?_, ?_, (h.t0 (v := 0)).mono (Nat.le_succ q), GX.rf, GM.t0⟩
        · unfold X10_text X10_text_J39
          rw [if_neg c0, if_pos rfl, g2, h4, if_pos (by decide)]
        · unfold X11_text
          rw [gLet_e, x11_isIn, if_pos (by decide), bind_e, if_neg (show ¬ (1 : Int32) = 0 by decide), if_pos rfl, w_n (by omega), g3, h4, if_pos (by decide)]
      · obtain ⟨r, X', Y', e1, e2, e3, e4, e5⟩ := j_text1 h (ns := ns) (by omega) g2 g3
        exact ⟨r, X', Y', e1, e2, e3.mono (Nat.le_succ q), e4, e5⟩
    · have ni : ¬ ((0 : Int64).toInt ≤ a1.toInt ∧ a1.toInt ≤ (1 : Int64).toInt) := fun z => by
        have z1 : 0 ≤ a1.toInt := z.1
        have z2 : a1.toInt ≤ 1 := z.2
        have n0 : a1.toInt ≠ 0 := fun e => c0 (Int32.toInt_inj.mp e)
        have n1 : a1.toInt ≠ 1 := fun e => c1 (Int32.toInt_inj.mp e)
        omega
      refine ⟨-1, Mx, wI Mm 50 0 0 0, ?_, ?_, (h.t0 (v := 0)).mono (Nat.le_succ q), GX.rf, GM.t0⟩
      · unfold X10_text X10_text_J39
        rw [if_neg c0, if_neg c1]
      · unfold X11_text
        rw [gLet_e, x11_isIn, if_neg ni, bind_e, if_pos rfl]
end TX
