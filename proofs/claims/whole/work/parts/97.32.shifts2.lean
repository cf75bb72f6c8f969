/-! shifts as a call -/
section SG
variable {n W H T K i j k t m nf q : Nat} {M Mx Mm Z X : gM}
def S3 (c : Nat → Nat) (b : Nat) (M : gM) (k : Nat) (X : gM) : Prop := X.1 32 0 0 = nI (bst c k) ∧ X.1 32 0 1 = nI (bix c k) ∧ X.1 32 0 2 = nI (bct c b k) ∧ X.2 = M.2 ∧ ∀ a b c, a ≠ 32 → X.1 a b c = M.1 a b c
theorem j71 {c : Nat → Nat} {b : Nat} (hc : ∀ k, c k ≤ 256) (hb : b ≤ 256) (hk : k < 1000) (h : S3 c b M k X) (x2 x3 x5 x7 x8 : Int32) : ∃ X', X7_tryShifts_J71 x2 x3 (nI b) x5 (nI k) x7 x8 (nI (c k)) X = some (.inl (nI (k + 1), x8 + 1, X')) ∧ S3 c b M (k + 1) X' := by
  obtain ⟨h1, h2, h3, h4, h5⟩ := h
  have hb1 := bst_le c hc k
  have hck := hc k
  have e1 : bst c (k + 1) = if c k ≤ bst c k then bst c k else c k := rfl
  have e2 : bix c (k + 1) = if c k ≤ bst c k then bix c k else k := rfl
  have e3 : bct c b (k + 1) = bct c b k + if c k = b then 1 else 0 := rfl
  unfold X7_tryShifts_J71 S3
  rw [h1, e1, e2, e3]
  by_cases q1 : c k ≤ bst c k
  · rw [if_pos (nI_le q1 (by omega)), if_pos q1, if_pos q1]
    by_cases q2 : c k = b
    · rw [if_pos (by rw [q2]), if_pos q2]
      refine ⟨wI X 32 0 2 (nI (bct c b k + 1)), ?_, ?_, ?_, w_e, h4, fun a b' c' ha => by rw [w_n (by omega)]; exact h5 a b' c' ha⟩
      · rw [gLet_e, gLet_e, gLet_e, h3, nI_1, nI_1]
      · rw [w_n (by omega)]; exact h1
      · rw [w_n (by omega)]; exact h2
    · rw [if_neg (fun z => q2 (nI_inj (by omega) (by omega) z)), if_neg q2]
      refine ⟨X, ?_, h1, h2, h3, h4, h5⟩
      rw [gLet_e, gLet_e, nI_1]
  · rw [if_neg (nI_ge (by omega) (by omega)), gLet_e (wI X 32 0 0 (nI (c k))), gLet_e (wI (wI X 32 0 0 (nI (c k))) 32 0 1 (nI k)), if_neg q1, if_neg q1]
    by_cases q2 : c k = b
    · rw [if_pos (by rw [q2]), if_pos q2]
      refine ⟨wI (wI (wI X 32 0 0 (nI (c k))) 32 0 1 (nI k)) 32 0 2 (nI (bct c b k + 1)), ?_, ?_, ?_, w_e, h4, fun a b' c' ha => by rw [w_n (by omega), w_n (by omega), w_n (by omega)]; exact h5 a b' c' ha⟩
      · rw [gLet_e, gLet_e, gLet_e, w_n (by omega), w_n (by omega), h3, nI_1, nI_1]
      · rw [w_n (by omega), w_n (by omega), w_e]
      · rw [w_n (by omega), w_e]
    · rw [if_neg (fun z => q2 (nI_inj (by omega) (by omega) z)), if_neg q2]
      refine ⟨wI (wI X 32 0 0 (nI (c k))) 32 0 1 (nI k), ?_, ?_, w_e, ?_, h4, fun a b' c' ha => by rw [w_n (by omega), w_n (by omega)]; exact h5 a b' c' ha⟩
      · rw [gLet_e, gLet_e, nI_1]
      · rw [w_n (by omega), w_e]
      · rw [w_n (by omega), w_n (by omega)]; exact h3
theorem x7_sh {p b : Nat} (hp : 1 ≤ p ∧ p ≤ 3) (hS : SN m nf n W H T K Mx Mm) (ht : t < n) (hb : b ≤ 256) (hM : S3 (csh Mx W H T K t p) b Mx 0 M) (x5 : Int32) (h5 : x5 = if cul (trA (ct Mx 0 t)) (Mx.1 40 0 0) = true then 1 else 0) :
    ∃ X, gIter (fun s => X7_tryShifts_L37 (nI t) (nI p) (nI b) x5 s.1 s.2.1 s.2.2) FU (0, -nI p, M) = some X ∧ S3 (csh Mx W H T K t p) b Mx ((2 * p + 1) * (2 * p + 1)) X := by
  have hd := hS.1.1.1
  have hc : ∀ k, csh Mx W H T K t p k ≤ 256 := fun k => csh_le hd t p k
  have hD : (2 * p + 1) * (2 * p + 1) ≤ 49 := by
    have := Nat.mul_le_mul (show 2 * p + 1 ≤ 7 by omega) (show 2 * p + 1 ≤ 7 by omega)
    omega
  have en : -nI p = nI 0 - nI p := (Int32.zero_sub (nI p)).symm
  have lt : ∀ l, l < 2 * p + 1 → ¬ nI p < nI l - nI p := fun l hl z => by
    have := Int32.lt_iff_toInt_lt.mp z
    rw [sh_b (by omega) hp.2, nI_toInt (by omega)] at this
    omega
  have gt : nI p < nI (2 * p + 1) - nI p := Int32.lt_iff_toInt_lt.mpr (by
    rw [sub32 (by rw [nI_toInt (by omega), nI_toInt (by omega)]; omega) (by rw [nI_toInt (by omega), nI_toInt (by omega)]; omega), nI_toInt (by omega), nI_toInt (by omega)]
    omega)
  have s1 : ∀ l : Nat, (nI l - nI p : Int32) + 1 = nI (l + 1) - nI p := fun l => by
    rw [← nI_1]
    grind
  have cov : ∀ iy l X, iy < 2 * p + 1 → l < 2 * p + 1 → S3 (csh Mx W H T K t p) b Mx ((2 * p + 1) * iy + l) X → ∃ X', X7_tryShifts_L47 (nI t) (nI p) (nI b) x5 (nI iy - nI p) (nI ((2 * p + 1) * iy + l)) (nI l - nI p) X = some (.inl (nI ((2 * p + 1) * iy + (l + 1)), nI (l + 1) - nI p, X')) ∧ S3 (csh Mx W H T K t p) b Mx ((2 * p + 1) * iy + (l + 1)) X' := fun iy l X hi hl hX => by
    have hk : (2 * p + 1) * iy + l < (2 * p + 1) * (2 * p + 1) := by
      have := Nat.mul_le_mul_left (2 * p + 1) (show iy + 1 ≤ 2 * p + 1 by omega)
      rw [Nat.mul_add] at this
      omega
    have em : ((2 * p + 1) * iy + l) % (2 * p + 1) = l := by rw [Nat.mul_add_mod, Nat.mod_eq_of_lt hl]
    have ed : ((2 * p + 1) * iy + l) / (2 * p + 1) = iy := by rw [Nat.mul_add_div (by omega), Nat.div_eq_of_lt hl, Nat.add_zero]
    obtain ⟨X', j1, j2⟩ := j71 hc hb (by omega) hX (nI t) (nI p) x5 (nI iy - nI p) (nI l - nI p)
    refine ⟨X', ?_, j2⟩
    unfold X7_tryShifts_L47
    rw [if_neg (lt l hl)]
    have gx := hX.2.2.2.2
    cases hcu : cul (trA (ct Mx 0 t)) (Mx.1 40 0 0) with
    | true =>
      have c0 : csh Mx W H T K t p ((2 * p + 1) * iy + l) = 0 := by
        unfold csh
        rw [hcu]
        exact List.countP_eq_zero.mpr fun _ _ => by simp
      rw [hcu] at h5
      rw [if_neg (show ¬ x5 = 0 by rw [h5]; decide)]
      rw [c0] at j1
      exact j1.trans (by rw [s1]; rfl)
    | false =>
      rw [hcu] at h5
      have ec : ct X 0 t = ct Mx 0 t := ct_of (fun c => gx 39 0 c (by omega))
      have e40 : X.1 40 0 0 = Mx.1 40 0 0 := gx 40 0 0 (by omega)
      have x1 := x7_csh (t := t) hp (hS.1.1.of fun a b c _ => gx a b c (by omega)) (hS.1.2.2.1.of fun a b c _ => gx a b c (by omega)) ht (by rw [ec, e40]; exact hcu) hk
      have es : csh X W H T K t p ((2 * p + 1) * iy + l) = csh Mx W H T K t p ((2 * p + 1) * iy + l) := by
        unfold csh
        rw [ec, e40]
      rw [em, ed, es] at x1
      rw [if_pos (show x5 = 0 by rw [h5]; rfl), x1, bind_e, j1, s1]
      rfl
  obtain ⟨X, e1, e2⟩ := gI1_FU (step := fun s : Int32 × Int32 × gM => X7_tryShifts_L37 (nI t) (nI p) (nI b) x5 s.1 s.2.1 s.2.2) (fun iy (u : gM) => (nI ((2 * p + 1) * iy), nI iy - nI p, u)) (fun iy u => S3 (csh Mx W H T K t p) b Mx ((2 * p + 1) * iy) u) (fun u => S3 (csh Mx W H T K t p) b Mx ((2 * p + 1) * (2 * p + 1)) u) 0 (2 * p + 1) (by omega) (by omega)
    (fun iy u hi hu => by
      obtain ⟨v, f1, f2⟩ := gI1_FU (step := fun s : Int32 × Int32 × gM => X7_tryShifts_L47 (nI t) (nI p) (nI b) x5 (nI iy - nI p) s.1 s.2.1 s.2.2) (fun l (u : gM) => (nI ((2 * p + 1) * iy + l), nI l - nI p, u)) (fun l u => S3 (csh Mx W H T K t p) b Mx ((2 * p + 1) * iy + l) u) (fun v => v.1 = nI ((2 * p + 1) * (iy + 1)) ∧ S3 (csh Mx W H T K t p) b Mx ((2 * p + 1) * (iy + 1)) v.2) 0 (2 * p + 1) (by omega) (by omega)
        (fun l u hl hu => cov iy l u hi hl hu)
        (fun u hu => ⟨(nI ((2 * p + 1) * iy + (2 * p + 1)), u), by
          show X7_tryShifts_L47 (nI t) (nI p) (nI b) x5 (nI iy - nI p) (nI ((2 * p + 1) * iy + (2 * p + 1))) (nI (2 * p + 1) - nI p) u = _
          unfold X7_tryShifts_L47
          rw [if_pos gt], by rw [Nat.mul_add, Nat.mul_one], by rw [Nat.mul_add, Nat.mul_one]; exact hu⟩) u (by rw [Nat.add_zero]; exact hu)
      obtain ⟨v1, v2⟩ := v
      have f2a : v1 = nI ((2 * p + 1) * (iy + 1)) := f2.1
      have f1 : gIter (fun s : Int32 × Int32 × gM => X7_tryShifts_L47 (nI t) (nI p) (nI b) x5 (nI iy - nI p) s.1 s.2.1 s.2.2) FU (nI ((2 * p + 1) * iy + 0), nI 0 - nI p, u) = some (v1, v2) := f1
      refine ⟨v2, ?_, f2.2⟩
      show X7_tryShifts_L37 (nI t) (nI p) (nI b) x5 (nI ((2 * p + 1) * iy)) (nI iy - nI p) u = _
      unfold X7_tryShifts_L37
      rw [Nat.add_zero] at f1
      rw [if_neg (lt iy hi), gLet_e, en, f1, bind_e, gU2_e, gLet_e, s1, f2a])
    (fun u hu => ⟨u, by
      show X7_tryShifts_L37 (nI t) (nI p) (nI b) x5 (nI ((2 * p + 1) * (2 * p + 1))) (nI (2 * p + 1) - nI p) u = _
      unfold X7_tryShifts_L37
      rw [if_pos gt], hu⟩) M (by rw [Nat.mul_zero]; exact hM)
  refine ⟨X, ?_, e2⟩
  rw [en]
  have e1 : gIter (fun s : Int32 × Int32 × gM => X7_tryShifts_L37 (nI t) (nI p) (nI b) x5 s.1 s.2.1 s.2.2) FU (nI ((2 * p + 1) * 0), nI 0 - nI p, M) = some X := e1
  rw [Nat.mul_zero] at e1
  exact e1
def OS9 (Y u : gM) : Prop := u.2 = Y.2 ∧ ∀ a b c, ¬ ((a = 52 ∧ (b = 12 ∨ b = 13 ∨ b = 14)) ∨ (a = 50 ∧ b = 0 ∧ (c = 28 ∨ c = 29 ∨ c = 30 ∨ c = 31))) → u.1 a b c = Y.1 a b c
theorem x11_sh {p b : Nat} {p3 : Int32} (hp : 1 ≤ p ∧ p ≤ 3) (hS : SN m nf n W H T K Mx Mm) (ht : t < n) (hb : b ≤ 256) (hZ : OS9 Mm Z) :
    ∃ Y, gIter (fun s => X11_shifts_L73 (nI t) (nI p) p3 (nI b) (nI (2 * p + 1)) s.1 s.2.1 s.2.2.1 s.2.2.2.1 s.2.2.2.2) FU (0, (-1), 0, 0, Z) = some (nI (bix (csh Mx W H T K t p) ((2 * p + 1) * (2 * p + 1))), nI (bst (csh Mx W H T K t p) ((2 * p + 1) * (2 * p + 1))), nI (bct (csh Mx W H T K t p) b ((2 * p + 1) * (2 * p + 1))), Y) ∧ OS9 Mm Y := by
  have hd := hS.1.1.1
  have hc : ∀ k, csh Mx W H T K t p k ≤ 256 := fun k => csh_le hd t p k
  generalize hcd : csh Mx W H T K t p = c at hc
  have hD : 9 ≤ (2 * p + 1) * (2 * p + 1) ∧ (2 * p + 1) * (2 * p + 1) ≤ 49 := by
    have h1 := Nat.mul_le_mul (show 2 * p + 1 ≤ 7 by omega) (show 2 * p + 1 ≤ 7 by omega)
    have h2 := Nat.mul_le_mul (show 3 ≤ 2 * p + 1 by omega) (show 3 ≤ 2 * p + 1 by omega)
    omega
  have eD : nI (2 * p + 1) * nI (2 * p + 1) = nI ((2 * p + 1) * (2 * p + 1)) := nI_mul _ _
  have nD : decide (¬ nI (2 * p + 1) = 0) = true := decide_eq_true (nI_ne0 (by omega) (by omega))
  obtain ⟨e, e1, e2⟩ := gI1_FU (step := fun s : Int32 × Int32 × Int32 × Int32 × gM => X11_shifts_L73 (nI t) (nI p) p3 (nI b) (nI (2 * p + 1)) s.1 s.2.1 s.2.2.1 s.2.2.2.1 s.2.2.2.2) (fun k (u : Int32 × Int32 × Int32 × gM) => (u.1, u.2.1, u.2.2.1, nI k, u.2.2.2)) (fun k u => u.1 = nI (bix c k) ∧ (u.2.1 = nI (bst c k) ∨ (k = 0 ∧ u.2.1 = -1)) ∧ u.2.2.1 = nI (bct c b k) ∧ OS9 Mm u.2.2.2) (fun u => u.1 = nI (bix c ((2 * p + 1) * (2 * p + 1))) ∧ u.2.1 = nI (bst c ((2 * p + 1) * (2 * p + 1))) ∧ u.2.2.1 = nI (bct c b ((2 * p + 1) * (2 * p + 1))) ∧ OS9 Mm u.2.2.2) 0 ((2 * p + 1) * (2 * p + 1)) (by omega) (by omega)
    (fun k u hk hu => by
      obtain ⟨u1, u2, u3, y⟩ := u
      obtain ⟨g1, g2, g3, g4⟩ := hu
      have g1 : u1 = nI (bix c k) := g1
      have g2 : u2 = nI (bst c k) ∨ (k = 0 ∧ u2 = -1) := g2
      have g3 : u3 = nI (bct c b k) := g3
      have g4 : OS9 Mm y := g4
      have e29 : gRem (nI k) (nI (2 * p + 1)) = nI (k % (2 * p + 1)) := nI_rem (by omega) (by omega)
      have e30 : nI k / nI (2 * p + 1) = nI (k / (2 * p + 1)) := nI_div (by omega) (by omega)
      obtain ⟨Y, y1, y2, y3⟩ := x11_csh (Z := wI (wI y 50 0 29 (nI (k % (2 * p + 1)) - nI p)) 50 0 30 (nI (k / (2 * p + 1)) - nI p)) hp hS ht hk (fun a b c hq => by rw [w_n (by omega), w_n (by omega)]; exact g4.2 a b c hq) (by rw [w_n (by omega), w_e]) w_e
      rw [hcd] at y3
      have o9 : OS9 Mm Y := ⟨y2.1.trans g4.1, fun a b c hq => by rw [y2.2 a b c (by omega), w_n (by omega), w_n (by omega)]; exact g4.2 a b c hq⟩
      have hb1 := bst_le c hc k
      have hck := hc k
      have c1 : bst c (k + 1) = if c k ≤ bst c k then bst c k else c k := rfl
      have c2 : bix c (k + 1) = if c k ≤ bst c k then bix c k else k := rfl
      have c3 : bct c b (k + 1) = bct c b k + if c k = b then 1 else 0 := rfl
      -- is it better
      have bet : (u2 < nI (c k) ∧ nI k = nI (bix c (k + 1)) ∧ nI (c k) = nI (bst c (k + 1))) ∨ (¬ u2 < nI (c k) ∧ u1 = nI (bix c (k + 1)) ∧ u2 = nI (bst c (k + 1))) := by
        rcases g2 with g2 | ⟨k0, g5⟩
        · by_cases q1 : c k ≤ bst c k
          · refine Or.inr ⟨?_, ?_, ?_⟩
            · rw [g2]
              exact Int32.not_lt.mpr (nI_le q1 (by omega))
            · rw [c2, if_pos q1, g1]
            · rw [c1, if_pos q1, g2]
          · refine Or.inl ⟨?_, ?_, ?_⟩
            · rw [g2]
              exact Int32.not_le.mp (nI_ge (by omega) (by omega))
            · rw [c2, if_neg q1]
            · rw [c1, if_neg q1]
        · subst k0
          refine Or.inl ⟨?_, ?_, ?_⟩
          · rw [g5]
            apply Int32.lt_iff_toInt_lt.mpr
            rw [nI_toInt (by omega)]
            have : (-1 : Int32).toInt = -1 := by decide
            omega
          · rw [c2]
            split <;> rfl
          · rw [c1]
            split
            · next q => rw [show c 0 = bst c 0 from by have : bst c 0 = 0 := rfl; omega]
            · rfl
      have cnt : (nI (c k) = nI b ∧ u3 + 1 = nI (bct c b (k + 1))) ∨ (¬ nI (c k) = nI b ∧ u3 + 0 = nI (bct c b (k + 1))) := by
        by_cases q2 : c k = b
        · exact Or.inl ⟨by rw [q2], by rw [c3, if_pos q2, g3, nI_1]⟩
        · exact Or.inr ⟨fun z => q2 (nI_inj (by omega) (by omega) z), by rw [c3, if_neg q2, g3, Int32.add_zero, Nat.add_zero]⟩
      refine ⟨(nI (bix c (k + 1)), nI (bst c (k + 1)), nI (bct c b (k + 1)), Y), ?_, rfl, Or.inl rfl, rfl, o9⟩
      show X11_shifts_L73 (nI t) (nI p) p3 (nI b) (nI (2 * p + 1)) u1 u2 u3 (nI k) y = _
      unfold X11_shifts_L73
      rw [eD, if_neg (nI_ge hk (by omega)), gG_t nD, gLet_e, gG_t nD, gLet_e, e29, e30, y1, bind_e, y3, bind_e]
      rcases cnt with ⟨n1, n2⟩ | ⟨n1, n2⟩
      · rw [if_pos n1, gLet_e, n2]
        rcases bet with ⟨m1, m2, m3⟩ | ⟨m1, m2, m3⟩
        · rw [if_pos m1, gLet_e, nI_1]
          show some (Sum.inl (nI k, nI (c k), _, _, _)) = _
          rw [m2, m3]
        · rw [if_neg m1, gLet_e, nI_1]
          show some (Sum.inl (u1, u2, _, _, _)) = _
          rw [m2, m3]
      · rw [if_neg n1, gLet_e, n2]
        rcases bet with ⟨m1, m2, m3⟩ | ⟨m1, m2, m3⟩
        · rw [if_pos m1, gLet_e, nI_1]
          show some (Sum.inl (nI k, nI (c k), _, _, _)) = _
          rw [m2, m3]
        · rw [if_neg m1, gLet_e, nI_1]
          show some (Sum.inl (u1, u2, _, _, _)) = _
          rw [m2, m3])
    (fun u hu => by
      obtain ⟨u1, u2, u3, y⟩ := u
      obtain ⟨g1, g2, g3, g4⟩ := hu
      refine ⟨(u1, u2, u3, y), ?_, g1, ?_, g3, g4⟩
      · show X11_shifts_L73 (nI t) (nI p) p3 (nI b) (nI (2 * p + 1)) u1 u2 u3 (nI ((2 * p + 1) * (2 * p + 1))) y = _
        unfold X11_shifts_L73
        rw [eD, if_pos (nI_le (Nat.le_refl _) (by omega))]
      · rcases g2 with g2 | g2
        · exact g2
        · exact absurd g2.1 (by omega)) (0, -1, 0, Z) ⟨rfl, Or.inr ⟨rfl, rfl⟩, rfl, hZ⟩
  obtain ⟨u1, u2, u3, y⟩ := e
  obtain ⟨g1, g2, g3, g4⟩ := e2
  have g1 : u1 = _ := g1
  have g2 : u2 = _ := g2
  have g3 : u3 = _ := g3
  subst g1 g2 g3
  exact ⟨y, e1, g4⟩
theorem O36 : O_36 Iv := fun q nf M a1 a2 a3 hq hI => by
  refine glue1 (F := fun M => X10_shifts a1 a2 a3 M) (G := fun M => X11_shifts a1 a2 a3 M) (fun Mx Mm h => ?_) hI
  have h0 := h.t0 (v := 0)
  show ∃ r Mx' Mm', X10_shifts a1 a2 a3 Mx = some (r, Mx') ∧ X11_shifts a1 a2 a3 Mm = some (r, Mm') ∧ J (q + 1) nf Mx' Mm' ∧ GX Mx Mx' ∧ GM Mm Mm'
  have hG : GM Mm (wI Mm 50 0 0 0) := GM.t0
  unfold X11_shifts
  rw [gLet_e (wI Mm 50 0 0 0)]
  revert h0 hG
  generalize wI Mm 50 0 0 0 = Y
  intro h0 hG
  unfold X10_shifts
  have triv : ∃ r Mx' Mm', some ((-1 : Int32), Mx) = some (r, Mx') ∧ some ((-1 : Int32), Y) = some (r, Mm') ∧ J (q + 1) nf Mx' Mm' ∧ GX Mx Mx' ∧ GM Mm Mm' := ⟨_, _, _, rfl, rfl, h0.mono (by omega), GX.rf, hG⟩
  rcases h0.tri a1 with ⟨e1, e2⟩ | ⟨n, W, H, T, K, t, hS, ht, rfl, e1, e2⟩
  · rw [e1, e2, bind_e, bind_e, if_pos rfl, if_pos rfl]; exact triv
  · have hd := hS.1.1.1
    have b1 : (1 : Int64).toInt = 1 := rfl
    have b3 : (3 : Int64).toInt = 3 := rfl
    have c1 : (1 : Int32).toInt = 1 := rfl
    have c3 : (3 : Int32).toInt = 3 := rfl
    rw [e1, e2, bind_e, bind_e, if_neg (show ¬ (1 : Int32) = 0 by decide), if_neg (show ¬ (1 : Int32) = 0 by decide), x11_isIn, b1, b3, bind_e]
    by_cases q1 : a2 < 1
    · have := Int32.lt_iff_toInt_lt.mp q1
      rw [if_pos q1, if_neg (show ¬ (1 ≤ a2.toInt ∧ a2.toInt ≤ 3) by omega), if_pos rfl]; exact triv
    · have g1 := Int32.le_iff_toInt_le.mp (Int32.not_lt.mp q1)
      rw [if_neg q1]
      by_cases q2 : 3 < a2
      · have := Int32.lt_iff_toInt_lt.mp q2
        rw [if_pos q2, if_neg (show ¬ (1 ≤ a2.toInt ∧ a2.toInt ≤ 3) by omega), if_pos rfl]; exact triv
      · have g2 := Int32.le_iff_toInt_le.mp (Int32.not_lt.mp q2)
        have ep : a2 = nI a2.toInt.toNat := Int32.toInt_inj.mp (by rw [nI_toInt (by omega)]; omega)
        rw [if_neg q2, if_pos (show 1 ≤ a2.toInt ∧ a2.toInt ≤ 3 by omega), if_neg (show ¬ (1 : Int32) = 0 by decide)]
        have hp : 1 ≤ a2.toInt.toNat ∧ a2.toInt.toNat ≤ 3 := by omega
        generalize a2.toInt.toNat = p at ep hp
        subst ep
        rcases rng (n := 3) (hi := 2) (by omega) (by omega) rfl a3 Y with ⟨o, e⟩ | ⟨e, o1, -, -, o2, d, hd3, rfl⟩
        · rw [e, bind_e, if_pos rfl]
          rcases o with o | o
          · rw [if_pos o]; exact triv
          · rw [if_neg o.1, if_neg (show ¬ a3 ≤ (2 : Int32) from o.2.2.2)]; exact triv
        · have hb : ((tA W H T K (tN W H T)).countP fun a => cvS (ct Mx 0 t) (Mx.1 40 0 0) K a.1 a.2.1 a.2.2) ≤ 256 := by
            refine Nat.le_trans List.countP_le_length ?_
            rw [tA_len hd]
            exact whk_le hd
          have gF : ∀ a b c, a ≠ 32 → (flI Mx 32 0 0 3).1 a b c = Mx.1 a b c := fun a b c ha => by rw [r1_flI, if_neg (by omega)]
          have sF : SX Mx (flI Mx 32 0 0 3) := ⟨fun a b c hq => gF a b c (by omega), fun _ _ _ _ => rfl⟩
          have hSF : SN (40 * q) nf n W H T K (flI Mx 32 0 0 3) Y := hS.over0 sF SM.rf fun a b c g1 g2 => gF a b c (by omega)
          have ec : ct (flI Mx 32 0 0 3) 0 t = ct Mx 0 t := ct_of (fun c => gF 39 0 c (by omega))
          have e40 : (flI Mx 32 0 0 3).1 40 0 0 = Mx.1 40 0 0 := gF 40 0 0 (by omega)
          have cb1 := x9_covB hSF ht
          have cu1 := x9_cull hSF.1.1 hSF.1.2.2.1 ht 0
          rw [ec, e40] at cb1 cu1
          obtain ⟨Z, z1, z2, z3⟩ := hS.asks ht
          have cm1 := x11_coverd hd (z3.md hS.1.2.1.1) z2
          generalize hbb : ((tA W H T K (tN W H T)).countP fun a => cvS (ct Mx 0 t) (Mx.1 40 0 0) K a.1 a.2.1 a.2.2) = b at hb cb1 cm1
          have s30 : S3 (csh Mx W H T K t p) b Mx 0 (flI Mx 32 0 0 3) := ⟨by rw [r1_flI, if_pos (by omega)]; rfl, by rw [r1_flI, if_pos (by omega)]; rfl, by rw [r1_flI, if_pos (by omega)]; rfl, rfl, gF⟩
          obtain ⟨X, x1, x2⟩ := x7_sh hp hS ht hb s30 _ rfl
          obtain ⟨Y2, y1, y2⟩ := x11_sh (p3 := nI d) (Z := Z) hp hS ht hb ⟨z3.1, fun a b c hq => z3.2 a b c (by omega)⟩
          have e2p : (2 * nI p : Int32) + 1 = nI (2 * p + 1) := by rw [nlit 2, nI_mul, nI_1]
          have sx : SX Mx X := ⟨fun a b c hq => x2.2.2.2.2 a b c (by omega), fun a b c _ => by rw [x2.2.2.2.1]⟩
          have sm : SM Y (wI (wI Y2 50 0 29 0) 50 0 30 0) := ⟨fun a b c hq => by
            by_cases g29 : a = 50 ∧ b = 0 ∧ c = 29
            · obtain ⟨rfl, rfl, rfl⟩ := g29
              rw [w_n (by omega), w_e]
              exact hS.1.2.1.2.2.1.1.symm
            · by_cases g30 : a = 50 ∧ b = 0 ∧ c = 30
              · obtain ⟨rfl, rfl, rfl⟩ := g30
                rw [w_e]
                exact hS.1.2.1.2.2.1.2.symm
              · rw [w_n (by omega), w_n (by omega), y2.2 a b c (by omega)], y2.1⟩
          have fin : J (q + 1) nf X (wI (wI Y2 50 0 29 0) 50 0 30 0) ∧ GX Mx X ∧ GM Mm (wI (wI Y2 50 0 29 0) 50 0 30 0) := ⟨(h0.study (hS.over0 sx sm fun a b c g1 g2 => x2.2.2.2.2 a b c (by omega)) sx sm).mono (by omega), sx.g, hG.tr sm.g⟩
          unfold X7_tryShifts
          rw [e, bind_e, if_neg (show ¬ (1 : Int32) = 0 by decide), if_neg o1, if_pos (show nI d ≤ (2 : Int32) from o2), gLet_e, cb1, bind_e, cu1, bind_e, gLet_e, x1, bind_e, bind_e, gG_t (gin_n hd3 (by decide)), nI_clamp (by omega), z1, bind_e, cm1, bind_e, gLet_e, e2p, y1, bind_e, gU2_e, gU2_e, gU2_e, gLet_e, gLet_e]
          rcases (show d = 0 ∨ d = 1 ∨ d = 2 by omega) with rfl | rfl | rfl
          · rw [if_pos (show nI 0 = (0 : Int32) from rfl), x2.1]
            exact ⟨_, _, _, rfl, rfl, fin⟩
          · rw [if_neg (show ¬ nI 1 = (0 : Int32) by decide), if_pos (show nI 1 = (1 : Int32) from rfl), x2.2.1]
            exact ⟨_, _, _, rfl, rfl, fin⟩
          · rw [if_neg (show ¬ nI 2 = (0 : Int32) by decide), if_neg (show ¬ nI 2 = (1 : Int32) by decide), x2.2.2.1]
            exact ⟨_, _, _, rfl, rfl, fin⟩
end SG
