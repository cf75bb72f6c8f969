/-! the state with a scene; one act -/
def IMG (q n NT : Nat) (Mx Mm : gM) : Prop := (Mx.1 0 0 14 = 0 ∧ Mm.1 50 0 24 = 0) ∨ (Mx.1 0 0 14 = 1 ∧ Mm.1 50 0 24 = 1 ∧ FX q n NT 1 (Mm.1 52 10) Mx)
def SN (m nf n W H T K : Nat) (Mx Mm : gM) : Prop := RJ n W H T K 0 8 Mx Mm ∧ PN 0 Mx ∧ LGR m 0 (Mm.1 52 8) Mx ∧ HS m n (tN W H T) nf Mx Mm ∧ IMG m n (tN W H T) Mx Mm
/-- what the doing of an act may change -/
def opX (a b c : Nat) : Prop := (19 ≤ a ∧ a ≤ 27) ∨ (33 ≤ a ∧ a ≤ 41 ∧ b = 0 ∧ ¬ (a = 33 ∧ c = 9))
def OPX (X X' : gM) : Prop := (∀ a b c, ¬ opX a b c → X'.1 a b c = X.1 a b c) ∧ ∀ a b c, ¬ (a = 41 ∧ b = 0) → X'.2 a b c = X.2 a b c
def opM (a b c : Nat) : Prop := (a = 52 ∧ b = 8 ∧ c < 1061) ∨ (a = 52 ∧ (b = 12 ∨ b = 13 ∨ b = 14)) ∨ (a = 50 ∧ b = 0 ∧ (c = 28 ∨ c = 31))
def OPM (Y Y' : gM) : Prop := OQ opM Y Y'
/-- what a whole act may change -/
def acX (a b : Nat) : Prop := (19 ≤ a ∧ a ≤ 27) ∨ (33 ≤ a ∧ a ≤ 42 ∧ (b = 0 ∨ 3 ≤ b)) ∨ a = 43
def OAX (X X' : gM) : Prop := (∀ a b c, ¬ acX a b → X'.1 a b c = X.1 a b c) ∧ ∀ a b c, ¬ (33 ≤ a ∧ a ≤ 42 ∧ (b = 0 ∨ 3 ≤ b)) → X'.2 a b c = X.2 a b c
def acM (a b c : Nat) : Prop := (a = 52 ∧ (b = 8 ∨ b = 11 ∨ b = 12 ∨ b = 13 ∨ b = 14)) ∨ (a = 50 ∧ b = 0 ∧ (c = 22 ∨ c = 23 ∨ c = 28 ∨ c = 31))
def OAM (Y Y' : gM) : Prop := OQ acM Y Y'
section AC
variable {n W H T K i j k t m m' nf NT : Nat} {w w' : Nat → Int32} {M M' Mx Mm Mx' Mm' : gM} {a b : Int32}
theorem RJ.same (h : RJ n W H T K i j Mx Mm) (gx : ∀ a b c, (5 ≤ a ∧ a ≤ 10 ∧ b = 1) ∨ (12 ≤ a ∧ a ≤ 27) ∨ (34 ≤ a ∧ a ≤ 40 ∧ b = i) ∨ (a = 33 ∧ b = i ∧ 10 ≤ c ∧ c ≤ 12) → Mx'.1 a b c = Mx.1 a b c) (gl : ∀ c, Mx'.2 41 i c = Mx.2 41 i c) (gm : ∀ a b c, (a = 52 ∧ (b = 2 ∨ b = 4)) ∨ (a = 52 ∧ b = j ∧ c < 1061) ∨ (a = 50 ∧ b = 0 ∧ (c = 16 ∨ c = 29 ∨ c = 30)) → Mm'.1 a b c = Mm.1 a b c) : RJ n W H T K i j Mx' Mm' := by
  have hn := h.1.2.1
  refine ⟨h.1.of fun a b c hh => gx a b c (by omega), h.2.1.of (fun c t => ⟨fun _ => gx 5 1 c (by omega), gx 8 1 t (by omega), gx 9 1 t (by omega), gx 7 1 t (by omega)⟩) (fun b c hb => gm 52 b c (by omega)) ⟨gm 50 0 16 (by omega), gm 50 0 29 (by omega), gm 50 0 30 (by omega)⟩, fun t ht => ?_,
    h.2.2.2.1.of (fun c => gx 39 i c (by omega)) (fun c => gx 10 1 c (by omega)) (fun c h1 h2 => gm 52 j c (by omega)), h.2.2.2.2.1.of (fun c => gx 40 i c (by omega)) (fun c h1 h2 => gm 52 j c (by omega)), h.2.2.2.2.2.1.of (fun a c ha => gx a i c (by omega)) (fun c hc => gm 52 j c (by omega)), h.2.2.2.2.2.2.1.of (fun a c ha => gx a i c (by omega)) (fun c h1 h2 => gm 52 j c (by omega)), h.2.2.2.2.2.2.2.of (by omega) gl (fun c h1 h2 => gx 33 i c (by omega)) (fun c h1 h2 => gm 52 j c (by omega))⟩
  rw [ct_of (fun c => gx 39 i c (by omega)), zt_of (fun c => gx 10 1 c (by omega)), gx 7 1 t (by omega), gx 8 1 t (by omega)]
  exact (h.2.2.1 t ht).keep (fun a c h1 h2 => gx a t c (by omega))
theorem LGR.same (h : LGR m i w M) (g1 : M'.1 33 i 9 = M.1 33 i 9) (g2 : ∀ c, M'.1 42 i c = M.1 42 i c) (g3 : ∀ c, 1061 ≤ c → w' c = w c) : LGR m i w' M' := by
  obtain ⟨lg, h1, h2, h3, h4⟩ := h
  refine ⟨lg, by rw [g1]; exact h1, h2, by rw [g3 _ (by omega)]; exact h3, fun e he c hc => ?_⟩
  rw [g2, g3 _ (by omega)]
  exact h4 e he c hc
theorem HS.same (hn : n ≤ 10) (hmm : m ≤ m') (h : HS m n NT nf Mx Mm) (gx : ∀ a b c, (33 ≤ a ∧ a ≤ 42 ∧ 3 ≤ b) ∨ a = 43 ∨ (a = 10 ∧ b = 1) → Mx'.1 a b c = Mx.1 a b c) (gl : ∀ b c, 3 ≤ b → Mx'.2 41 b c = Mx.2 41 b c) (gm : ∀ a b c, (a = 52 ∧ b = 11) ∨ (a = 50 ∧ b = 0 ∧ (c = 22 ∨ c = 23)) → Mm'.1 a b c = Mm.1 a b c) : HS m' n NT nf Mx' Mm' := by
  obtain ⟨p, h, f, h1, h2, h3, h4, h5, h6, h7, h8, h9, h10⟩ := h
  refine ⟨p, h, f, h1, h2, h3, h4, h5, ?_, ?_, ?_, ?_, fun k hk => ?_⟩
  · rw [gx 43 0 1 (by omega)]; exact h6
  · rw [gx 43 0 2 (by omega)]; exact h7
  · rw [gm 50 0 22 (by omega)]; exact h8
  · rw [gm 50 0 23 (by omega)]; exact h9
  · exact (FX.cp hn (h10 k hk) (cpx_of (fun a c g1 g2 => gx a _ c (by omega)) (fun c => gl _ c (by omega))) (fun c => gx 10 1 c (by omega)) (fun c hc => gm 52 11 _ (by omega))).mono hmm
theorem IMG.same (hn : n ≤ 10) (hmm : m ≤ m') (h : IMG m n NT Mx Mm) (gx : ∀ a b c, (33 ≤ a ∧ a ≤ 42 ∧ b = 1) ∨ (a = 0 ∧ b = 0 ∧ c = 14) ∨ (a = 10 ∧ b = 1) → Mx'.1 a b c = Mx.1 a b c) (gl : ∀ c, Mx'.2 41 1 c = Mx.2 41 1 c) (gm : ∀ a b c, (a = 52 ∧ b = 10) ∨ (a = 50 ∧ b = 0 ∧ c = 24) → Mm'.1 a b c = Mm.1 a b c) : IMG m' n NT Mx' Mm' := by
  unfold IMG
  rw [gx 0 0 14 (by omega), gm 50 0 24 (by omega)]
  rcases h with h | h
  · exact Or.inl h
  · exact Or.inr ⟨h.1, h.2.1, (FX.cp hn h.2.2 (cpx_of (fun a c g1 g2 => gx a 1 c (by omega)) gl) (fun c => gx 10 1 c (by omega)) (fun c hc => gm 52 10 c (by omega))).mono hmm⟩
theorem PN.same (h : PN i M) (g : ∀ c, M'.1 36 i c = M.1 36 i c) : PN i M' := fun k hk => by rw [g]; exact h k hk
theorem j_actR {opc opm : gM → Option (Int32 × gM)} (hm : m + 1 < 100000) (hnf : nf ≤ 40) (h : SN m nf n W H T K Mx Mm)
    (hop : ∀ X Y, RJ n W H T K 0 8 X Y → PN 0 X → (∀ a c, 33 ≤ a → a ≤ 42 → X.1 a 0 c = Mx.1 a 0 c) → (∀ c, Y.1 52 8 c = Mm.1 52 8 c) → ∃ r X' Y', opc X = some (r, X') ∧ opm Y = some (r, Y') ∧ RJ n W H T K 0 8 X' Y' ∧ PN 0 X' ∧ OPX X X' ∧ OPM Y Y') :
    ∃ nf' r X1 X2 X3 Y1 Y2 Y3, X2_keep nf Mx = some (nf', X1) ∧ opc X1 = some (r, X2) ∧ X0_note 0 a b X2 = some X3 ∧ X11_remember Mm = some Y1 ∧ opm Y1 = some (r, Y2) ∧ X11_tells a b Y2 = some Y3 ∧ nf ≤ nf' ∧ nf' ≤ 40 ∧ SN (m + 1) nf' n W H T K X3 Y3 ∧ OAX Mx X3 ∧ OAM Mm Y3 ∧ RJ n W H T K 0 8 X2 Y2 ∧ ∀ a b c, ¬ acM a b c → Y1.1 a b c = Mm.1 a b c ∧ Y2.1 a b c = Mm.1 a b c := by
  obtain ⟨hr, hp, hl, hh, hi⟩ := h
  have hn := hr.1.2.1
  obtain ⟨nf', X1, Y1, k1, k2, k3, k4, k5, k6, k7, k8, k9⟩ := j_keep (q := m) (by omega) hnf ⟨hr.2.2.2, hp, hl⟩ hh
  have r1 : RJ n W H T K 0 8 X1 Y1 := hr.same (fun a b c hc => k6 a b c (by omega)) (fun c => k7 41 0 c (by omega)) (fun a b c hc => k8 a b c (by omega))
  obtain ⟨r, X2, Y2, o1, o2, o3, o4, o5, o6⟩ := hop X1 Y1 r1 (hp.same fun c => k6 36 0 c (by omega)) (fun a c h1 h2 => k6 a 0 c (by omega)) (fun c => k8 52 8 c (by omega))
  have ox : ∀ a b c, ¬ ((19 ≤ a ∧ a ≤ 27) ∨ (33 ≤ a ∧ a ≤ 41 ∧ b = 0 ∧ ¬ (a = 33 ∧ c = 9))) → X2.1 a b c = X1.1 a b c := o5.1
  have om : ∀ a b c, ¬ ((a = 52 ∧ b = 8 ∧ c < 1061) ∨ (a = 52 ∧ (b = 12 ∨ b = 13 ∨ b = 14)) ∨ (a = 50 ∧ b = 0 ∧ (c = 28 ∨ c = 31))) → Y2.1 a b c = Y1.1 a b c := o6.2
  have l2 : LGR m 0 (Y2.1 52 8) X2 := hl.same (by rw [ox 33 0 9 (by omega), k6 33 0 9 (by omega)]) (fun c => by rw [ox 42 0 c (by omega), k6 42 0 c (by omega)]) (fun c hc => by rw [om 52 8 c (by omega), k8 52 8 c (by omega)])
  obtain ⟨X3, Y3, n1, n2, n3, n4, n5, n6, n7⟩ := j_note (n := n) (i := 0) (a := a) (b := b) (by omega) (by omega) o3.2.1.1.1 o3.2.2.2.2.2.2.2 l2
  refine ⟨nf', r, X1, X2, X3, Y1, Y2, Y3, k1, o1, n1, k2, o2, n2, k3, k4, ⟨?_, ?_, n3, ?_, ?_⟩, ⟨fun a b c hq => ?_, fun a b c hq => ?_⟩, ⟨?_, fun a b c hq => ?_⟩, o3, fun a b c hq => ?_⟩
  · exact o3.same (fun a b c hc => n6 a b c (by omega) (by omega)) (fun c => by rw [n4]) (fun a b c hc => n7 a b c (by omega))
  · exact o4.same fun c => n6 36 0 c (by omega) (by omega)
  · exact k5.same (by omega) (by omega) (fun a b c hc => by rw [n6 a b c (by omega) (by omega), ox a b c (by omega)]) (fun b c hb => by rw [n4, o5.2 41 b c (by omega)]) (fun a b c hc => by rw [n7 a b c (by omega), om a b c (by omega)])
  · exact hi.same (by omega) (by omega) (fun a b c hc => by rw [n6 a b c (by omega) (by omega), ox a b c (by omega), k6 a b c (by omega)]) (fun c => by rw [n4, o5.2 41 1 c (by omega), k7 41 1 c (by omega)]) (fun a b c hc => by rw [n7 a b c (by omega), om a b c (by omega), k8 a b c (by omega)])
  · unfold acX at hq
    rw [n6 a b c (by omega) (by omega), ox a b c (by omega), k6 a b c (by omega)]
  · rw [n4, o5.2 a b c (by omega), k7 a b c (by omega)]
  · rw [n5, o6.1, k9]
  · unfold acM at hq
    rw [n7 a b c (by omega), om a b c (by omega), k8 a b c (by omega)]
  · unfold acM at hq
    exact ⟨k8 a b c (by omega), by rw [om a b c (by omega), k8 a b c (by omega)]⟩
theorem j_act {opc opm : gM → Option (Int32 × gM)} (hm : m + 1 < 100000) (hnf : nf ≤ 40) (h : SN m nf n W H T K Mx Mm)
    (hop : ∀ X Y, RJ n W H T K 0 8 X Y → PN 0 X → (∀ a c, 33 ≤ a → a ≤ 42 → X.1 a 0 c = Mx.1 a 0 c) → (∀ c, Y.1 52 8 c = Mm.1 52 8 c) → ∃ r X' Y', opc X = some (r, X') ∧ opm Y = some (r, Y') ∧ RJ n W H T K 0 8 X' Y' ∧ PN 0 X' ∧ OPX X X' ∧ OPM Y Y') :
    ∃ nf' r X1 X2 X3 Y1 Y2 Y3, X2_keep nf Mx = some (nf', X1) ∧ opc X1 = some (r, X2) ∧ X0_note 0 a b X2 = some X3 ∧ X11_remember Mm = some Y1 ∧ opm Y1 = some (r, Y2) ∧ X11_tells a b Y2 = some Y3 ∧ nf ≤ nf' ∧ nf' ≤ 40 ∧ SN (m + 1) nf' n W H T K X3 Y3 ∧ OAX Mx X3 ∧ OAM Mm Y3 := by
  obtain ⟨nf', r, X1, X2, X3, Y1, Y2, Y3, k1, k2, k3, k4, k5, k6, k7, k8, k9, k10, k11, -⟩ := j_actR (a := a) (b := b) hm hnf h hop
  exact ⟨nf', r, X1, X2, X3, Y1, Y2, Y3, k1, k2, k3, k4, k5, k6, k7, k8, k9, k10, k11⟩
theorem JD.opx (h : JD n W H T K 0 8 Mx Mm Mx' Mm') : OPX Mx Mx' ∧ OPM Mm Mm' := by
  refine ⟨⟨fun a b c hq => h.2.1.1 a b c ?_, fun a b c hq => h.2.1.2 a b c hq⟩, ⟨h.2.2.1.1, fun a b c hq => h.2.2.1.2 a b c ?_⟩⟩
  · unfold opX at hq
    unfold xB
    omega
  · unfold opM at hq
    unfold mB
    omega
theorem JD.pn (h : JD n W H T K i j Mx Mm Mx' Mm') (hp : PN i Mx) : PN i Mx' := fun k hk => h.2.2.2 k (hp k hk)
end AC
