/-! run, shown, whole -/
section RN
variable {n W H T K i j k t m nf nf' q q' L s l : Nat} {M M' Mx Mm Mx' Mm' X Y X' Y' : gM} {p p1 p2 p3 v r : Int32}
theorem RJ.ask2 (h : RJ n W H T K i j Mx Mm) (hj : j = 8 ∨ j = 9) (s : SameA Mm Mm') : RJ n W H T K i j Mx Mm' :=
  h.same (fun _ _ _ _ => rfl) (fun _ => rfl) (fun a b c hc => s.2 a b c (by omega))
def R2 (n W H T K : Nat) (X0 Y0 : gM) (_ : Nat) (x y : gM) : Prop := RJ n W H T K 2 9 x y ∧ PN 2 x ∧ SX X0 x ∧ SM Y0 y
theorem j_rs (h : R2 n W H T K Mx Mm k X Y) (hl : l < L) (hL : L ≤ 12) (hS : s < 5) (eL : X.1 46 s 1 = nI L) (eM : Y.1 52 6 s = nI L) (sr : SR1 (fun c => X.1 47 s (5 * l + c)) (fun c => Y.1 52 5 (5 * (12 * s + l) + c))) :
    (∃ X' Y', X7_runOf_L10 s (nI l) X = some (.inl (nI (l + 1), X')) ∧ X11_run_L56 (nI s) p (nI l) Y = some (.inl (nI (l + 1), Y')) ∧ R2 n W H T K Mx Mm (k + 1) X' Y') ∨
    (∃ Y', X7_runOf_L10 s (nI l) X = some (.inr (.inl (nI l, X))) ∧ X11_run_L56 (nI s) p (nI l) Y = some (.inr (nI l, Y')) ∧ R2 n W H T K Mx Mm k X Y') := by
  obtain ⟨kk, hk, z1, z2, z3⟩ := sr
  obtain ⟨r1, r2, r3, r4⟩ := h
  have z1 : X.1 47 s (5 * l) = nI kk := z1
  have z2 : Y.1 52 5 (5 * (12 * s + l)) = nI kk := z2
  have eq5 : (5 : Int32) * ((12 * nI s) + nI l) = nI (5 * (12 * s + l)) := by rw [nlit 12, nI_mul, nI_add, nlit 5, nI_mul]
  have hq : 5 * (12 * s + l) + 4 < 300 := by omega
  have a1 : 1 ≤ nst kk → Y.1 52 5 (5 * (12 * s + l) + 1) = X.1 47 s (5 * l + 1) := fun g => (z3 1 (by omega) (by omega)).1 g
  have a2 : nst kk = 4 → Y.1 52 5 (5 * (12 * s + l) + 2) = X.1 47 s (5 * l + 2) ∧ Y.1 52 5 (5 * (12 * s + l) + 3) = X.1 47 s (5 * l + 3) ∧ Y.1 52 5 (5 * (12 * s + l) + 4) = X.1 47 s (5 * l + 4) := fun g => ⟨(z3 2 (by omega) (by omega)).1 (by omega), (z3 3 (by omega) (by omega)).1 (by omega), (z3 4 (by omega) (by omega)).1 (by omega)⟩
  have n1 : X5_number s (nI l) 1 X = some (X.1 47 s (5 * l + 1)) := x5_num (c := 1) hl hL (by omega) eL
  have n2 : X5_number s (nI l) 2 X = some (X.1 47 s (5 * l + 2)) := x5_num (c := 2) hl hL (by omega) eL
  have n3 : X5_number s (nI l) 3 X = some (X.1 47 s (5 * l + 3)) := x5_num (c := 3) hl hL (by omega) eL
  have n4 : X5_number s (nI l) 4 X = some (X.1 47 s (5 * l + 4)) := x5_num (c := 4) hl hL (by omega) eL
  have hss := x11_ss (j := 9) hq hk z2 a1 a2
  have cls : ∀ o, X9_refusal 2 (nI kk) (X.1 47 s (5 * l + 1)) (X.1 47 s (5 * l + 2)) (X.1 47 s (5 * l + 3)) (X.1 47 s (5 * l + 4)) X = some o → X7_runOf_L10 s (nI l) X = (if o = (-1) then (X9_carryOut 2 (nI kk) (X.1 47 s (5 * l + 1)) (X.1 47 s (5 * l + 2)) (X.1 47 s (5 * l + 3)) (X.1 47 s (5 * l + 4)) X).bind (gU2 (fun r_18 M_19 => gLet (nI l + 1) (fun x3_20 => some (.inl (x3_20, M_19))))) else some (.inr (.inl (nI l, X)))) := fun o ho => by
    unfold X7_runOf_L10
    rw [eL, if_neg (nI_ge hl (by omega)), x5_kind hl hL eL, bind_e, n1, bind_e, n2, bind_e, n3, bind_e, n4, bind_e, z1, ho, bind_e]
  rcases j_kr (p1 := X.1 47 s (5 * l + 1)) (p2 := X.1 47 s (5 * l + 2)) (p3 := X.1 47 s (5 * l + 3)) (p4 := X.1 47 s (5 * l + 4)) (Or.inr rfl) r1 r2 hk with ⟨o, Y1, ho, e1, e2, s1⟩ | ⟨e1, Y0, e2, s0, dk⟩
  · refine Or.inr ⟨Y1, ?_, ?_, r1.ask2 (Or.inr rfl) s1, r2, r3, r4.tr s1.sm⟩
    · rw [cls _ e1, if_neg (nI_m1 (by omega))]
    · unfold X11_run_L56
      rw [gG_t (gin_n (k := s) (by omega) (by decide)), nI_clamp (by omega), eM, if_neg (nI_ge hl (by omega)), eq5, hss, e2, bind_e, gU2_e, if_neg (nI_m1 (by omega))]
  · obtain ⟨r, X', Y', d1, d2, d3, d4, d5, d6⟩ := dk X Y0 (r1.ask2 (Or.inr rfl) s0) r2 (fun _ _ _ _ => rfl)
    have y0 : ∀ c, Y0.1 52 5 c = Y.1 52 5 c := fun c => s0.2 52 5 c (by omega)
    have hds := x11_ds (M := Y0) (j := 9) (p1 := X.1 47 s (5 * l + 1)) (p2 := X.1 47 s (5 * l + 2)) (p3 := X.1 47 s (5 * l + 3)) (p4 := X.1 47 s (5 * l + 4)) (Or.inr rfl) hq hk (by rw [y0]; exact z2) (fun g => by rw [y0]; exact a1 g) (fun g => by rw [y0, y0, y0]; exact a2 g)
    refine Or.inl ⟨X', Y', ?_, ?_, d3, d4, r3.tr d5.sx, (r4.tr s0.sm).tr d6.sm⟩
    · rw [cls _ e1, if_pos rfl, d1, bind_e, gU2_e, gLet_e, nI_1]
    · unfold X11_run_L56
      rw [gG_t (gin_n (k := s) (by omega) (by decide)), nI_clamp (by omega), eM, if_neg (nI_ge hl (by omega)), eq5, hss, e2, bind_e, gU2_e, if_pos rfl, hds, d2, bind_e, gLet_e, nI_1]
theorem O27 : O_27 Iv := fun q nf M a1 a2 hq hI => by
  refine glue1 (F := fun M => X10_run a1 a2 M) (G := fun M => X11_run a1 a2 M) (fun Mx Mm h => ?_) hI
  have h0 := h.t0 (v := 0)
  show ∃ r Mx' Mm', X10_run a1 a2 Mx = some (r, Mx') ∧ X11_run a1 a2 Mm = some (r, Mm') ∧ J (q + 1) nf Mx' Mm' ∧ GX Mx Mx' ∧ GM Mm Mm'
  have hG : GM Mm (wI Mm 50 0 0 0) := GM.t0
  unfold X11_run
  rw [gLet_e]
  revert h0 hG
  generalize wI Mm 50 0 0 0 = Y
  intro h0 hG
  unfold X10_run
  obtain ⟨ns, s1, s2, s3, s4⟩ := h0.2.2.1
  have triv : ∃ r Mx' Mm', some ((-1000000000 : Int32), Mx) = some (r, Mx') ∧ some ((-1000000000 : Int32), Y) = some (r, Mm') ∧ J (q + 1) nf Mx' Mm' ∧ GX Mx Mx' ∧ GM Mm Mm' := ⟨_, _, _, rfl, rfl, h0.mono (by omega), GX.rf, hG⟩
  rcases h0.2.2.2.2 with hN | ⟨n, W, H, T, K, hS⟩
  · rw [hN.has, bind_e, if_pos rfl, if_pos hN.2.1]
    rcases x10_hasS s1 s2 s3 a1 with ⟨e1, e2⟩ | ⟨e1, e2, s, hs', rfl⟩
    · rw [e2, bind_e, if_pos rfl]; exact triv
    · rw [e2, bind_e, if_neg (show ¬ (1 : Int32) = 0 by decide)]; exact triv
  · rw [hS.has, bind_e, if_neg (show ¬ (1 : Int32) = 0 by decide), if_neg hS.n0.2]
    rcases x10_hasS s1 s2 s3 a1 with ⟨e1, e2⟩ | ⟨e1, e2, s, hs', rfl⟩
    · rw [e1, e2, bind_e, bind_e, if_pos rfl, if_pos rfl]; exact triv
    · rw [e1, e2, bind_e, bind_e, if_neg (show ¬ (1 : Int32) = 0 by decide), if_neg (show ¬ (1 : Int32) = 0 by decide)]
      rcases rng (n := 2) (hi := 1) (by omega) (by omega) rfl a2 Y with ⟨o, e⟩ | ⟨e, o1, -, -, o2, d, hd, rfl⟩
      · rw [e, bind_e, if_pos rfl]
        rcases o with o | o
        · rw [if_pos o]; exact triv
        · rw [if_neg o.1, if_neg (show ¬ a2 ≤ (1 : Int32) from o.2.2.2)]; exact triv
      · obtain ⟨L, g1, g2, g3, g4⟩ := s4 s hs'
        obtain ⟨X0, Y0, c1, c2, c3, c4, c5, c6, -, -⟩ := hS.apart
        rw [e, bind_e, if_neg (show ¬ (1 : Int32) = 0 by decide), if_neg o1, if_pos (show nI d ≤ (1 : Int32) from o2), gG_t (gin_n (k := s) (by omega) (by decide)), nI_clamp (by omega), c2, bind_e]
        unfold X7_runOf
        rw [c1, bind_e]
        obtain ⟨e, d', f1, f2, f3⟩ := gI2x_FU (s1 := fun z : Int32 × gM => X7_runOf_L10 s z.1 z.2) (s2 := fun z : Int32 × gM => X11_run_L56 (nI s) (nI d) z.1 z.2) (fun k (x : gM) => (nI k, x)) (fun k (x : gM) => (nI k, x)) (R2 n W H T K Mx Y) (fun e f => ∃ l x y, l ≤ L ∧ ((e = .inl (nI l, x) ∧ l < L) ∨ (e = .inr x ∧ l = L)) ∧ f = (nI l, y) ∧ R2 n W H T K Mx Y 0 x y) 0 L (by omega) (by omega)
          (fun k x y hk hR => by
            obtain ⟨r1, r2, r3, r4⟩ := hR
            have e47 : (fun c => x.1 47 s (5 * k + c)) = (fun c => Mx.1 47 s (5 * k + c)) := funext fun c => r3.1 47 s _ (by omega)
            have e5 : (fun c => y.1 52 5 (5 * (12 * s + k) + c)) = (fun c => Y.1 52 5 (5 * (12 * s + k) + c)) := funext fun c => r4.1 52 5 _ (by omega)
            rcases j_rs (p := nI d) (k := k) (l := k) (s := s) ⟨r1, r2, r3, r4⟩ hk g1 (by omega) (by rw [r3.1 46 s 1 (by omega)]; exact g2) (by rw [r4.1 52 6 s (by omega)]; exact g3) (by rw [e47, e5]; exact g4 k hk) with ⟨X', Y', q1, q2, q3⟩ | ⟨Y', q1, q2, q3⟩
            · exact Or.inl ⟨X', Y', q1, q2, q3⟩
            · exact Or.inr ⟨_, _, q1, q2, k, x, Y', by omega, Or.inl ⟨rfl, hk⟩, rfl, q3⟩)
          (fun x y hR => by
            obtain ⟨r1, r2, r3, r4⟩ := hR
            refine ⟨.inr x, (nI L, y), ?_, ?_, L, x, y, Nat.le_refl _, Or.inr ⟨rfl, rfl⟩, rfl, r1, r2, r3, r4⟩
            · show X7_runOf_L10 s (nI L) x = _
              unfold X7_runOf_L10
              rw [r3.1 46 s 1 (by omega), g2, if_pos (nI_le (Nat.le_refl _) (by omega))]
            · show X11_run_L56 (nI s) (nI d) (nI L) y = _
              unfold X11_run_L56
              rw [gG_t (gin_n (k := s) (by omega) (by decide)), nI_clamp (by omega), r4.1 52 6 s (by omega), g3, if_pos (nI_le (Nat.le_refl _) (by omega))])
          X0 Y0 ⟨c3, c4, c5, c6⟩
        have f1 : gIter (fun z : Int32 × gM => X7_runOf_L10 s z.1 z.2) FU (0, X0) = some e := f1
        have f2 : gIter (fun z : Int32 × gM => X11_run_L56 (nI s) (nI d) z.1 z.2) FU (0, Y0) = some d' := f2
        obtain ⟨l, X1, Y1, hlL, he, rfl, r1, r2, r3, r4⟩ := f3
        obtain ⟨X2, u1, u2, u3, u4, u5⟩ := hS.refit r3 r4 r1.2.2.1
        have ec : (gIter (fun z : Int32 × gM => X7_runOf_L10 s z.1 z.2) FU (0, X0)).bind (gS2 (gU2 (fun x3_21 M_22 => some (x3_21, M_22))) (fun M_23 => some ((M_23.1 46 s 1), M_23))) = some (nI l, X1) := by
          rw [f1, bind_e]
          rcases he with ⟨rfl, -⟩ | ⟨rfl, rfl⟩
          · rfl
          · rw [gS2_e2, r3.1 46 s 1 (by omega), g2]
        have fin : ∀ _ : Nat, J (q + 1) nf X2 Y1 ∧ GX Mx X2 ∧ GM Mm Y1 := fun _ => ⟨(h0.study u3 (r3.tr u2) r4).mono (by omega), (r3.tr u2).g, hG.tr r4.g⟩
        rw [ec, bind_e, gU2_e, u1, bind_e, f2, bind_e, gU2_e]
        unfold X11_run_J108
        rcases (show d = 0 ∨ d = 1 by omega) with rfl | rfl
        · rw [if_neg (show ¬ nI 0 = (1 : Int32) by decide), if_neg (show ¬ nI 0 = (1 : Int32) by decide), gG_t (gin_n (k := s) (by omega) (by decide)), gG_t (gin_n (k := s) (by omega) (by decide)), nI_clamp (by omega), u4 46 s 1 (by omega), r3.1 46 s 1 (by omega), g2, r4.1 52 6 s (by omega), g3]
          by_cases hz : nI l = nI L
          · rw [if_pos hz, if_pos hz]
            exact ⟨_, _, _, rfl, rfl, fin 0⟩
          · rw [if_neg hz, if_neg hz]
            exact ⟨_, _, _, rfl, rfl, fin 0⟩
        · have hn := hS.1.1.2.1
          obtain ⟨w1, w2⟩ := j_pairs (Mx := X2) (i := 2) (Or.inr rfl) (by omega) r1.2.1.1.1 (r1.2.2.2.2.2.2.2.of (by omega) (fun c => by rw [u5]) (fun c _ _ => u4 33 2 c (by omega)) (fun _ _ _ => rfl))
          rw [if_pos (show nI 1 = (1 : Int32) from rfl), if_pos (show nI 1 = (1 : Int32) from rfl), w1, w2, bind_e, bind_e]
          exact ⟨_, _, _, rfl, rfl, fin 0⟩
/-- all drawn anew apart, by another rule of order, but one -/
theorem j_frames {u : Int32} (h : SN m nf n W H T K Mx Mm) (hv : v = 0 ∨ v = 1) : ∃ X Y, X7_drawWhole 0 v u Mx = some X ∧ X11_frames u v Mm = some Y ∧ RJ n W H T K 2 9 X Y ∧ PN 2 X ∧ SX Mx X ∧ SM Mm Y ∧ ∀ a b c, 19 ≤ a → a ≤ 27 → X.1 a b c = Mx.1 a b c := by
  have hn := h.1.1.2.1
  obtain ⟨A, B, c1, c2, c3, c4, c5, c6, c7, -⟩ := h.apart
  have rv : rvl 2 v := ⟨fun z => absurd z (by omega), fun _ => hv, fun z => absurd z (by omega)⟩
  obtain ⟨-, d2⟩ := j_rule (k := 2) (v := v) (Or.inr rfl) c3 (by omega) rv
  obtain ⟨X1, Y1, w1, w2, w3, -, w5⟩ := j_wipe (Or.inr rfl) d2
  obtain ⟨B1, b1, b2, b3, b4⟩ := x11_clears (M := B) (j := 9) (Or.inr rfl)
  obtain ⟨B2, e1, e2, e3, e4⟩ := x11_clears (M := wI B 52 9 (1057 + 2) v) (j := 9) (Or.inr rfl)
  have eY : Y1 = B2 := Option.some.inj (w2.symm.trans e1)
  subst eY
  have same : ∀ a b c, (wI B1 52 9 1059 v).1 a b c = Y1.1 a b c := fun a b c => by
    by_cases hc : a = 52 ∧ b = 9
    · obtain ⟨rfl, rfl⟩ := hc
      rw [e3 c]
      by_cases h9 : c = 1059
      · subst h9
        rw [w_e]
        unfold clr
        rw [if_neg (by omega), if_neg (by omega), if_neg (by omega), if_neg (by omega), if_neg (by omega), w_e]
      · rw [w_n (by omega), b3 c, w_n (by omega)]
        unfold clr
        rw [w_n (by omega)]
    · rw [w_n (by omega), b4 a b c hc, e4 a b c hc, w_n (by omega)]
  have r1 : RJ n W H T K 2 9 X1 (wI B1 52 9 1059 v) := w3.1.same (fun _ _ _ _ => rfl) (fun _ => rfl) (fun a b c _ => same a b c)
  have sx1 : SX Mx X1 := (c5.tr ⟨fun a b c hq => w_n (by omega), fun _ _ _ _ => rfl⟩).tr w3.sx.1
  have sm1 : SM Mm (wI B1 52 9 1059 v) := c6.tr ⟨fun a b c hq => by rw [w_n (by omega), b4 a b c (by omega)], b2⟩
  have sh1 : ∀ a b c, 19 ≤ a → a ≤ 27 → X1.1 a b c = Mx.1 a b c := fun a b c h1 h2 => by rw [w3.2.1.1 a b c (by unfold xB; omega), w_n (by omega), c7 a b c (by omega)]
  obtain ⟨X2, Y2, f1, f2, f3, f4, f5, f6, f7⟩ := gI2_FU (s1 := fun z : Int32 × gM => X7_drawWhole_L36 u z.1 z.2) (s2 := fun z : Int32 × gM => X11_frames_L32 u z.1 z.2) (fun k (x : gM) => (nI k, x)) (fun k (x : gM) => (nI k, x)) (fun _ x y => RJ n W H T K 2 9 x y ∧ PN 2 x ∧ SX Mx x ∧ SM Mm y ∧ ∀ a b c, 19 ≤ a → a ≤ 27 → x.1 a b c = Mx.1 a b c) (fun x y => RJ n W H T K 2 9 x y ∧ PN 2 x ∧ SX Mx x ∧ SM Mm y ∧ ∀ a b c, 19 ≤ a → a ≤ 27 → x.1 a b c = Mx.1 a b c) 0 n (by omega) (by omega)
    (fun k x y hk hR => by
      obtain ⟨r1, r2, r3, r4, r5⟩ := hR
      by_cases hu : nI k = u
      · refine ⟨x, y, ?_, ?_, r1, r2, r3, r4, r5⟩
        · show X7_drawWhole_L36 u (nI k) x = _
          unfold X7_drawWhole_L36
          rw [r1.1.2.2.1.2.2.2.2, if_neg (nI_ge hk (by omega)), if_pos hu, gLet_e, nI_1]
        · show X11_frames_L32 u (nI k) y = _
          unfold X11_frames_L32
          rw [r1.2.1.1.1, if_neg (nI_ge hk (by omega)), if_pos hu, gLet_e, nI_1]
      · obtain ⟨r, X', Y', d1, d2, d3⟩ := j_draw (Or.inr rfl) r1 hk
        refine ⟨X', Y', ?_, ?_, d3.1, d3.pn r2, r3.tr d3.sx.1, r4.tr d3.sx.2, fun a b c h1 h2 => by rw [d3.2.1.1 a b c (by unfold xB; omega)]; exact r5 a b c h1 h2⟩
        · show X7_drawWhole_L36 u (nI k) x = _
          unfold X7_drawWhole_L36
          rw [r1.1.2.2.1.2.2.2.2, if_neg (nI_ge hk (by omega)), if_neg hu, d1, bind_e, gU2_e, gLet_e, nI_1]
        · show X11_frames_L32 u (nI k) y = _
          unfold X11_frames_L32
          rw [r1.2.1.1.1, if_neg (nI_ge hk (by omega)), if_neg hu, d2, bind_e, gU2_e, gLet_e, nI_1])
    (fun x y hR => by
      refine ⟨x, y, ?_, ?_, hR⟩
      · show X7_drawWhole_L36 u (nI n) x = _
        unfold X7_drawWhole_L36
        rw [hR.1.1.2.2.1.2.2.2.2, if_pos (nI_le (Nat.le_refl _) (by omega))]
      · show X11_frames_L32 u (nI n) y = _
        unfold X11_frames_L32
        rw [hR.1.2.1.1.1, if_pos (nI_le (Nat.le_refl _) (by omega))])
    X1 (wI B1 52 9 1059 v) ⟨r1, w5, sx1, sm1, sh1⟩
  have f1 : gIter (fun z : Int32 × gM => X7_drawWhole_L36 u z.1 z.2) FU (0, X1) = some X2 := f1
  have f2 : gIter (fun z : Int32 × gM => X11_frames_L32 u z.1 z.2) FU (0, wI B1 52 9 1059 v) = some Y2 := f2
  obtain ⟨X3, Y3, g1, g2, g3⟩ := j_all (Or.inr rfl) f3
  refine ⟨X3, Y3, ?_, ?_, g3.1, g3.pn f4, f5.tr g3.sx.1, f6.tr g3.sx.2, fun a b c h1 h2 => by rw [g3.2.1.1 a b c (by unfold xB; omega)]; exact f7 a b c h1 h2⟩
  · unfold X7_drawWhole
    rw [c1, bind_e, gLet_e, w1, bind_e, gU2_e, f1, bind_e, g1]
    rfl
  · unfold X11_frames
    rw [c2, bind_e, b1, bind_e, gLet_e, f2, bind_e, g2]
    rfl
theorem O30 : O_30 Iv := fun q nf M a1 a2 hq hI => by
  refine glue1 (F := fun M => X10_shown a1 a2 M) (G := fun M => X11_shown a1 a2 M) (fun Mx Mm h => ?_) hI
  have h0 := h.t0 (v := 0)
  show ∃ r Mx' Mm', X10_shown a1 a2 Mx = some (r, Mx') ∧ X11_shown a1 a2 Mm = some (r, Mm') ∧ J (q + 1) nf Mx' Mm' ∧ GX Mx Mx' ∧ GM Mm Mm'
  have hG : GM Mm (wI Mm 50 0 0 0) := GM.t0
  unfold X11_shown
  rw [gLet_e]
  revert h0 hG
  generalize wI Mm 50 0 0 0 = Y
  intro h0 hG
  unfold X10_shown X7_flushApart
  rcases h0.pix a1 a2 with ⟨e1, e2⟩ | ⟨n, W, H, T, K, x, y, hS, hx, hy, rfl, rfl, e1, e2⟩
  · rw [e1, e2, bind_e, bind_e, if_pos rfl, if_pos rfl]
    exact ⟨_, _, _, rfl, rfl, h0.mono (by omega), GX.rf, hG⟩
  · obtain ⟨A, B, c1, c2, c3, c4, c5, c6, c7, -⟩ := hS.apart
    obtain ⟨X3, Y3, g1, g2, g3⟩ := j_all (Or.inr rfl) c3
    obtain ⟨v, v1, v2⟩ := j_res (Or.inr rfl) g3.1 hx hy
    have exy : nI y * 8 + nI x = nI (8 * y + x) := by rw [nlit 8, nI_mul, nI_add, Nat.mul_comm]
    rw [e1, e2, bind_e, bind_e, if_neg (show ¬ (1 : Int32) = 0 by decide), if_neg (show ¬ (1 : Int32) = 0 by decide), c1, bind_e, g1, bind_e, gU2_e, bind_e, exy, v1, bind_e, c2, bind_e, g2, bind_e, v2, bind_e]
    have sx := c5.tr g3.sx.1
    have sm := c6.tr g3.sx.2
    exact ⟨_, _, _, rfl, rfl, (h0.study (hS.over0 sx sm fun a b c h1 h2 => by rw [g3.2.1.1 a b c (by unfold xB; omega), c7 a b c (by omega)]) sx sm).mono (by omega), sx.g, hG.tr sm.g⟩
theorem O31 : O_31 Iv := fun q nf M a1 a2 hq hI => by
  refine glue1 (F := fun M => X10_whole a1 a2 M) (G := fun M => X11_whole a1 a2 M) (fun Mx Mm h => ?_) hI
  have h0 := h.t0 (v := 0)
  show ∃ r Mx' Mm', X10_whole a1 a2 Mx = some (r, Mx') ∧ X11_whole a1 a2 Mm = some (r, Mm') ∧ J (q + 1) nf Mx' Mm' ∧ GX Mx Mx' ∧ GM Mm Mm'
  have hG : GM Mm (wI Mm 50 0 0 0) := GM.t0
  unfold X11_whole
  rw [gLet_e]
  revert h0 hG
  generalize wI Mm 50 0 0 0 = Y
  intro h0 hG
  unfold X10_whole
  rcases h0.pix a1 a2 with ⟨e1, e2⟩ | ⟨n, W, H, T, K, x, y, hS, hx, hy, rfl, rfl, e1, e2⟩
  · rw [e1, e2, bind_e, bind_e, if_pos rfl, if_pos rfl]
    exact ⟨_, _, _, rfl, rfl, h0.mono (by omega), GX.rf, hG⟩
  · have er : Y.1 52 8 1059 = Mx.1 40 0 2 := hS.1.2.2.2.2.1.1 2 (by omega)
    obtain ⟨A, B, c1, c2, c3, c4, c5, c6, c7⟩ := j_frames (u := -1) hS hS.1.2.2.2.2.1.2.2.2.1
    obtain ⟨v, v1, v2⟩ := j_res (Or.inr rfl) c3 hx hy
    have exy : nI y * 8 + nI x = nI (8 * y + x) := by rw [nlit 8, nI_mul, nI_add, Nat.mul_comm]
    rw [e1, e2, bind_e, bind_e, if_neg (show ¬ (1 : Int32) = 0 by decide), if_neg (show ¬ (1 : Int32) = 0 by decide), c1, bind_e, exy, v1, bind_e, er, c2, bind_e, v2, bind_e]
    exact ⟨_, _, _, rfl, rfl, (h0.study (hS.over0 c5 c6 c7) c5 c6).mono (by omega), c5.g, hG.tr c6.g⟩
end RN
