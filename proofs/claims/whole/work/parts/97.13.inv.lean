/-! perform as a call; the invariant of all calls -/
section PF2
variable {n W H T K i j k t m nf nf' s l L q : Nat} {M M' Mx Mm Mx' Mm' X Y : gM} {p p1 p2 p3 p4 v r : Int32}
theorem x10_hasS {ns : Nat} (hn : ns ≤ 4) (e : Mx.1 0 0 13 = nI ns) (e' : Mm.1 50 0 17 = nI ns) (p : Int32) : (X10_hasScript p Mx = some 0 ∧ X11_isIn p.toInt64 0 (Mm.1 50 0 17 - 1).toInt64 Mm = some 0) ∨ (X10_hasScript p Mx = some 1 ∧ X11_isIn p.toInt64 0 (Mm.1 50 0 17 - 1).toInt64 Mm = some 1 ∧ ∃ s, s < ns ∧ p = nI s) := by
  have a0 : (0 : Int64).toInt = 0 := rfl
  have a00 : (0 : Int32).toInt = 0 := rfl
  have e1 : (nI ns - 1 : Int32).toInt = (ns : Int) - 1 := by
    rcases (show ns = 0 ∨ ns = 1 ∨ ns = 2 ∨ ns = 3 ∨ ns = 4 by omega) with rfl | rfl | rfl | rfl | rfl <;> rfl
  have e2 : (nI ns : Int32).toInt = (ns : Int) := nI_toInt (by omega)
  unfold X10_hasScript
  rw [x11_isIn, a0, e', e, Int32.toInt_toInt64, e1]
  by_cases h0 : p < 0
  · have := Int32.lt_iff_toInt_lt.mp h0
    rw [if_pos h0, if_neg (show ¬ (0 ≤ p.toInt ∧ p.toInt ≤ (ns : Int) - 1) by omega)]
    exact Or.inl ⟨rfl, rfl⟩
  · have g0 := Int32.le_iff_toInt_le.mp (Int32.not_lt.mp h0)
    rw [if_neg h0]
    by_cases h1 : nI ns ≤ p
    · have := Int32.le_iff_toInt_le.mp h1
      rw [if_pos h1, if_neg (show ¬ (0 ≤ p.toInt ∧ p.toInt ≤ (ns : Int) - 1) by omega)]
      exact Or.inl ⟨rfl, rfl⟩
    · obtain ⟨s, hs, rfl⟩ := arg h0 h1 (by omega)
      have e3 : (nI s : Int32).toInt = (s : Int) := nI_toInt (by omega)
      rw [if_neg h1, if_pos (show 0 ≤ (nI s : Int32).toInt ∧ (nI s : Int32).toInt ≤ (ns : Int) - 1 by omega)]
      exact Or.inr ⟨rfl, rfl, s, hs, rfl⟩
theorem j_performO (hm : m + 40 < 100000) (hnf : nf ≤ 40) (h : SN m nf n W H T K Mx Mm) (hs : ST Mx Mm) (sr : SR Mx Mm) : ∃ r nf' Mx' Mm', X10_perform nf p Mx = some (r, nf', Mx') ∧ X11_perform p Mm = some (r, Mm') ∧ nf ≤ nf' ∧ nf' ≤ 40 ∧ SN (m + 40) nf' n W H T K Mx' Mm' ∧ ST Mx' Mm' ∧ CX Mx Mx' ∧ CM Mm Mm' := by
  have h0 := h.t0 (v := 0)
  have hs0 := hs.t0 (v := 0)
  have sr0 : SR Mx (wI Mm 50 0 0 0) := sr.same (fun _ _ _ _ => rfl) (fun a b c hc => w_n (by omega))
  obtain ⟨ns, s1, s2, s3, s4⟩ := sr0
  unfold X10_perform X11_perform
  rw [h.has, bind_e, if_neg (show ¬ (1 : Int32) = 0 by decide), gLet_e]
  rcases x10_hasS s1 s2 s3 p with ⟨e1, e2⟩ | ⟨e1, e2, s, hs', rfl⟩
  · rw [e1, e2, bind_e, bind_e, if_pos rfl, if_pos rfl]
    exact ⟨-1, nf, Mx, _, rfl, rfl, Nat.le_refl _, hnf, h0.mono (by omega), hs0, CX.rf, CM.t0⟩
  · obtain ⟨L, g1, g2, g3, g4⟩ := s4 s hs'
    rw [e1, e2, bind_e, bind_e, if_neg (show ¬ (1 : Int32) = 0 by decide), if_neg h0.n0.2, gG_t (gin_n (k := s) (by omega) (by decide)), nI_clamp (by omega)]
    obtain ⟨e, d, f1, f2, f3⟩ := gI2x_FU (s1 := fun z : Int32 × Nat × gM => X10_perform_L26 s z.1 z.2.1 z.2.2) (s2 := fun z : Int32 × gM => X11_perform_L32 (nI s) z.1 z.2) (fun k (x : Nat × gM) => (nI k, x.1, x.2)) (fun k (x : gM) => (nI k, x)) (PR m nf n W H T K Mx (wI Mm 50 0 0 0)) (fun e d => ∃ r nf' Mx' Mm', (e = .inl (r, nf', Mx') ∨ e = .inr (r, nf', Mx')) ∧ d = (r, Mm') ∧ PR m nf n W H T K Mx (wI Mm 50 0 0 0) 40 (nf', Mx') Mm') 0 L (by omega) (by omega)
      (fun k x z hk hR => by
        obtain ⟨r1, r2, r3, r4, r6, r7⟩ := hR
        have e47 : (fun c => x.2.1 47 s (5 * k + c)) = (fun c => Mx.1 47 s (5 * k + c)) := funext fun c => r6.1 47 s _ (by unfold acX; omega)
        have e5 : (fun c => z.1 52 5 (5 * (12 * s + k) + c)) = (fun c => (wI Mm 50 0 0 0).1 52 5 (5 * (12 * s + k) + c)) := funext fun c => r7.1 52 5 _ (by unfold acM; omega)
        rcases j_pf (L := L) (l := k) (s := s) (by omega) r2 r3 r4 hk g1 (by omega) (by rw [r6.1 46 s 1 (by unfold acX; omega)]; exact g2) (by rw [r7.1 52 6 s (by unfold acM; omega)]; exact g3) (by rw [e47, e5]; exact g4 k hk) with ⟨nf', X', Y', q1, q2, q3, q4, q5, q6, q7, q8⟩ | ⟨Y', q1, q2, q3, q4, q5⟩
        · exact Or.inl ⟨(nf', X'), Y', q1, q2, Nat.le_trans r1 q3, q4, q5, q6, r6.tr q7, r7.tr q8⟩
        · exact Or.inr ⟨_, _, q1, q2, nI k, x.1, x.2, Y', Or.inl rfl, rfl, r1, r2, q3.mono (by omega), q4, r6, r7.tr q5⟩)
      (fun x z hR => by
        obtain ⟨r1, r2, r3, r4, r6, r7⟩ := hR
        refine ⟨.inr (nI L, x.1, x.2), (nI L, z), ?_, ?_, nI L, x.1, x.2, z, Or.inr rfl, rfl, r1, r2, r3.mono (by omega), r4, r6, r7⟩
        · show X10_perform_L26 s (nI L) x.1 x.2 = _
          unfold X10_perform_L26
          rw [r6.1 46 s 1 (by unfold acX; omega), g2, if_pos (nI_le (Nat.le_refl _) (by omega))]
        · show X11_perform_L32 (nI s) (nI L) z = _
          unfold X11_perform_L32
          rw [gG_t (gin_n (k := s) (by omega) (by decide)), nI_clamp (by omega), r7.1 52 6 s (by unfold acM; omega), g3, if_pos (nI_le (Nat.le_refl _) (by omega))])
      (nf, Mx) (wI Mm 50 0 0 0) ⟨Nat.le_refl _, hnf, h0, hs0, CX.rf, CM.rf⟩
    obtain ⟨r, nf', X', Y', e3, rfl, r1, r2, r3, r4, r6, r7⟩ := f3
    have f1 : gIter (fun z : Int32 × Nat × gM => X10_perform_L26 s z.1 z.2.1 z.2.2) FU (0, nf, Mx) = some e := f1
    have f2 : gIter (fun z : Int32 × gM => X11_perform_L32 (nI s) z.1 z.2) FU (0, wI Mm 50 0 0 0) = some (r, Y') := f2
    refine ⟨r, nf', X', Y', ?_, ?_, r1, r2, r3, r4, r6, CM.t0.tr r7⟩
    · rw [f1, bind_e]
      rcases e3 with rfl | rfl <;> rfl
    · rw [f2]
      rfl
end PF2
/-- the tape -/
def TP (Mx Mm : gM) : Prop := ∃ L, L ≤ 480 ∧ Mx.1 1 0 1 = nI L ∧ Mm.1 50 0 2 = nI L ∧ ∀ c, c < L → Mx.1 2 0 c = Mm.1 51 0 c &&& 255 ∧ ∃ b, b < 256 ∧ Mx.1 2 0 c = nI b ∧ (b < 128 → Mm.1 51 0 c = nI b)
/-- no scene was told yet -/
def NSn (Mx Mm : gM) : Prop := Mx.1 5 1 5 = 0 ∧ Mm.1 50 0 16 = 0 ∧ Mx.1 12 0 0 = 0 ∧ Mx.1 12 0 1 = 0 ∧ Mx.1 12 0 5 = 0 ∧ Mx.1 33 0 9 = 0 ∧ Mm.1 52 8 1061 = 0 ∧ Mx.1 43 0 1 = 0 ∧ Mx.1 43 0 2 = 0 ∧ Mm.1 50 0 23 = 0 ∧ Mx.1 0 0 14 = 0 ∧ Mm.1 50 0 24 = 0 ∧ Mm.1 50 0 29 = 0 ∧ Mm.1 50 0 30 = 0 ∧ Mm.1 50 0 22 = 0
def J (q nf : Nat) (Mx Mm : gM) : Prop := nf ≤ 40 ∧ TP Mx Mm ∧ SR Mx Mm ∧ ST Mx Mm ∧ (NSn Mx Mm ∨ ∃ n W H T K, SN (40 * q) nf n W H T K Mx Mm)
def rX (a b c : Nat) : Prop := relX a b c ∨ a = 1 ∨ a = 2 ∨ a = 46 ∨ a = 47 ∨ a = 48 ∨ (a = 0 ∧ b = 0 ∧ c = 13)
def rM (a b c : Nat) : Prop := relM a b c ∨ a = 51 ∨ (a = 52 ∧ (b = 5 ∨ b = 6 ∨ b = 7)) ∨ (a = 50 ∧ b = 0 ∧ (c = 2 ∨ c = 17))
section IV
variable {n W H T K i j k t m nf nf' q q' : Nat} {M M' Mx Mm Mx' Mm' X Y : gM} {p p1 p2 p3 p4 v r : Int32}
theorem TP.same (h : TP Mx Mm) (gx : ∀ a b c, a = 1 ∨ a = 2 → Mx'.1 a b c = Mx.1 a b c) (gm : ∀ a b c, a = 51 ∨ (a = 50 ∧ b = 0 ∧ c = 2) → Mm'.1 a b c = Mm.1 a b c) : TP Mx' Mm' := by
  obtain ⟨L, h1, h2, h3, h4⟩ := h
  refine ⟨L, h1, by rw [gx 1 0 1 (by omega)]; exact h2, by rw [gm 50 0 2 (by omega)]; exact h3, fun c hc => ?_⟩
  rw [gx 2 0 c (by omega), gm 51 0 c (by omega)]
  exact h4 c hc
theorem NSn.same (h : NSn Mx Mm) (gx : ∀ a b c, relX a b c → Mx'.1 a b c = Mx.1 a b c) (gm : ∀ a b c, relM a b c → Mm'.1 a b c = Mm.1 a b c) : NSn Mx' Mm' := by
  obtain ⟨h1, h2, h3, h3b, h3c, h4, h5, h6, h7, h8, h9, h10, h11, h12, h13⟩ := h
  refine ⟨?_, ?_, ?_, ?_, ?_, ?_, ?_, ?_, ?_, ?_, ?_, ?_, ?_, ?_, ?_⟩
  · rw [gx 5 1 5 (by unfold relX; omega)]; exact h1
  · rw [gm 50 0 16 (by unfold relM; omega)]; exact h2
  · rw [gx 12 0 0 (by unfold relX; omega)]; exact h3
  · rw [gx 12 0 1 (by unfold relX; omega)]; exact h3b
  · rw [gx 12 0 5 (by unfold relX; omega)]; exact h3c
  · rw [gx 33 0 9 (by unfold relX; omega)]; exact h4
  · rw [gm 52 8 1061 (by unfold relM; omega)]; exact h5
  · rw [gx 43 0 1 (by unfold relX; omega)]; exact h6
  · rw [gx 43 0 2 (by unfold relX; omega)]; exact h7
  · rw [gm 50 0 23 (by unfold relM; omega)]; exact h8
  · rw [gx 0 0 14 (by unfold relX; omega)]; exact h9
  · rw [gm 50 0 24 (by unfold relM; omega)]; exact h10
  · rw [gm 50 0 29 (by unfold relM; omega)]; exact h11
  · rw [gm 50 0 30 (by unfold relM; omega)]; exact h12
  · rw [gm 50 0 22 (by unfold relM; omega)]; exact h13
theorem J.same (h : J q nf Mx Mm) (gx : ∀ a b c, rX a b c → Mx'.1 a b c = Mx.1 a b c) (gl : ∀ b c, b ≠ 2 → Mx'.2 41 b c = Mx.2 41 b c) (gm : ∀ a b c, rM a b c → Mm'.1 a b c = Mm.1 a b c) : J q nf Mx' Mm' := by
  obtain ⟨h1, h2, h3, h4, h5⟩ := h
  refine ⟨h1, h2.same (fun a b c hc => gx a b c (by unfold rX; omega)) (fun a b c hc => gm a b c (by unfold rM; omega)), h3.same (fun a b c hc => gx a b c (by unfold rX; omega)) (fun a b c hc => gm a b c (by unfold rM; omega)), fun k hk => ?_, ?_⟩
  · rw [gx 48 0 k (by unfold rX; omega), gm 52 7 k (by unfold rM; omega)]
    exact h4 k hk
  · rcases h5 with h5 | ⟨n, W, H, T, K, h5⟩
    · exact Or.inl (h5.same (fun a b c hc => gx a b c (Or.inl hc)) (fun a b c hc => gm a b c (Or.inl hc)))
    · exact Or.inr ⟨n, W, H, T, K, h5.same (fun a b c hc => gx a b c (Or.inl hc)) gl (fun a b c hc => gm a b c (Or.inl hc))⟩
theorem J.mono (h : J q nf Mx Mm) (hq : q ≤ q') : J q' nf Mx Mm := by
  obtain ⟨h1, h2, h3, h4, h5⟩ := h
  refine ⟨h1, h2, h3, h4, h5.imp id ?_⟩
  rintro ⟨n, W, H, T, K, h5⟩
  exact ⟨n, W, H, T, K, h5.mono (by omega)⟩
def GX (X X' : gM) : Prop := ∀ a b c, 50 ≤ a ∧ a ≤ 52 → X'.1 a b c = X.1 a b c ∧ X'.2 a b c = X.2 a b c
def GM (Y Y' : gM) : Prop := ∀ a b c, ¬ (50 ≤ a ∧ a ≤ 52) → Y'.1 a b c = Y.1 a b c ∧ Y'.2 a b c = Y.2 a b c
theorem J.gx (h : J q nf M M) (g : GX M M') : J q nf M M' := h.same (fun _ _ _ _ => rfl) (fun _ _ _ => rfl) (fun a b c hc => (g a b c (by unfold rM relM at hc; omega)).1)
theorem J.gm (h : J q nf M M') (g : GM M M') : J q nf M' M' := h.same (fun a b c hc => (g a b c (by unfold rX relX at hc; omega)).1) (fun b c _ => (g 41 b c (by omega)).2) (fun _ _ _ _ => rfl)
theorem CX.g (h : CX Mx Mx') : GX Mx Mx' := fun a b c hc => ⟨h.1 a b c (by unfold acX; omega), h.2 a b c (by omega)⟩
theorem CM.g (h : CM Mm Mm') : GM Mm Mm' := fun a b c hc => ⟨h.1 a b c (by unfold acM; omega), h.2 a b c (by omega)⟩
theorem GM.tr {Mm'' : gM} (h : GM Mm Mm') (h' : GM Mm' Mm'') : GM Mm Mm'' := fun a b c hq => ⟨(h' a b c hq).1.trans (h a b c hq).1, (h' a b c hq).2.trans (h a b c hq).2⟩
theorem GX.tr {Mx'' : gM} (h : GX Mx Mx') (h' : GX Mx' Mx'') : GX Mx Mx'' := fun a b c hq => ⟨(h' a b c hq).1.trans (h a b c hq).1, (h' a b c hq).2.trans (h a b c hq).2⟩
theorem GX.rf : GX Mx Mx := fun _ _ _ _ => ⟨rfl, rfl⟩
theorem GM.rf : GM Mm Mm := fun _ _ _ _ => ⟨rfl, rfl⟩
theorem GM.t0 : GM Mm (wI Mm 50 0 0 v) := CM.t0.g
/-- both sides in one memory: a call that may make frames -/
theorem glue2 {F : gM → Option (Int32 × Nat × gM)} {G : gM → Option (Int32 × gM)} (L : ∀ Mx Mm, J q nf Mx Mm → ∃ r nf' Mx' Mm', F Mx = some (r, nf', Mx') ∧ G Mm = some (r, Mm') ∧ nf ≤ nf' ∧ nf' ≤ 40 ∧ J q' nf' Mx' Mm' ∧ GX Mx Mx' ∧ GM Mm Mm') (h : J q nf M M) :
    ∃ r nf' M1 M2, F M = some (r, nf', M1) ∧ G M1 = some (r, M2) ∧ nf ≤ nf' ∧ nf' ≤ 40 ∧ J q' nf' M2 M2 := by
  obtain ⟨r, nf', M1, N, f1, -, -, -, -, c1, -⟩ := L M M h
  obtain ⟨r', nf'', M1', M2, f1', g1, a1, a2, s2, -, c2⟩ := L M M1 (h.gx c1)
  rw [f1] at f1'
  cases f1'
  exact ⟨r, nf', M1, M2, f1, g1, a1, a2, s2.same (fun a b c hc => (c2 a b c (by unfold rX relX at hc; omega)).1) (fun b c _ => (c2 41 b c (by omega)).2) (fun _ _ _ _ => rfl)⟩
theorem glue1 {ρ : Type} {F : gM → Option (ρ × gM)} {G : gM → Option (ρ × gM)} (L : ∀ Mx Mm, J q nf Mx Mm → ∃ r Mx' Mm', F Mx = some (r, Mx') ∧ G Mm = some (r, Mm') ∧ J q' nf Mx' Mm' ∧ GX Mx Mx' ∧ GM Mm Mm') (h : J q nf M M) :
    ∃ r M1 M2, F M = some (r, M1) ∧ G M1 = some (r, M2) ∧ J q' nf M2 M2 := by
  obtain ⟨r, M1, N, f1, -, -, c1, -⟩ := L M M h
  obtain ⟨r', M1', M2, f1', g1, s2, -, c2⟩ := L M M1 (h.gx c1)
  rw [f1] at f1'
  cases f1'
  exact ⟨r, M1, M2, f1, g1, s2.same (fun a b c hc => (c2 a b c (by unfold rX relX at hc; omega)).1) (fun b c _ => (c2 41 b c (by omega)).2) (fun _ _ _ _ => rfl)⟩
theorem glue0 {ρ : Type} {F : gM → Option ρ} {G : gM → Option (ρ × gM)} (L : ∀ Mx Mm, J q nf Mx Mm → ∃ r Mm', F Mx = some r ∧ G Mm = some (r, Mm') ∧ J q' nf Mx Mm' ∧ GM Mm Mm') (h : J q nf M M) :
    ∃ r M2, F M = some r ∧ G M = some (r, M2) ∧ J q' nf M2 M2 := by
  obtain ⟨r, M2, f1, g1, s2, c2⟩ := L M M h
  exact ⟨r, M2, f1, g1, s2.gm c2⟩
end IV
def Iv (q nf : Nat) (M : gM) : Prop := J q nf M M
