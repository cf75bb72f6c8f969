/-! orders as a call -/
section OG
variable {n W H T K i j k t m nf q c o : Nat} {M Mx Mm Z X Y X' Y' : gM} {tl : Nat → Nat}
/-- the opaque ones, chosen on both sides -/
def CH (n W H T K : Nat) (Mx Mm : gM) (c : Nat) (X Y : gM) : Prop := c ≤ 4 ∧ (∃ tl : Nat → Nat, ∀ i, i < c → tl i < n ∧ X.1 30 0 i = nI (tl i) ∧ Y.1 52 19 i = nI (tl i)) ∧ CF n W H T K Mx X ∧ SM Mm Y ∧ ∀ l, l < 3 → X.1 32 0 l = 0
theorem CF.sn (hS : SN m nf n W H T K Mx Mm) (cf : CF n W H T K Mx X) (sm : SM Mm Y) : SN m nf n W H T K X Y := hS.over0 cf.2.2.2.2.1 sm fun a b c h1 h2 => cf.2.2.2.2.2 a b c h1 (by omega)
theorem j_choose {p : Int32} (hS : SN m nf n W H T K Mx Mm) (h0 : CH n W H T K Mx Mm 0 X Y) : ∃ c X' Y', X7_chooseOpaque 0 X = some (nI c, X') ∧ gIter (fun s => X11_orders_L30 p s.1 s.2.1 s.2.2) FU (0, 0, Y) = some (nI c, Y') ∧ CH n W H T K Mx Mm c X' Y' := by
  have hn := hS.1.1.2.1
  obtain ⟨e, d, f1, f2, c, X', Y', rfl, rfl, f3⟩ := gI2x_FU (s1 := fun s : Int32 × Int32 × gM => X7_chooseOpaque_L4 0 s.1 s.2.1 s.2.2) (s2 := fun s : Int32 × Int32 × gM => X11_orders_L30 p s.1 s.2.1 s.2.2) (fun k (b : Int32 × gM) => (b.1, nI k, b.2)) (fun k (b : Int32 × gM) => (b.1, nI k, b.2)) (fun _ x y => ∃ c, x.1 = nI c ∧ y.1 = nI c ∧ CH n W H T K Mx Mm c x.2 y.2) (fun e d => ∃ c X' Y', e = (nI c, X') ∧ d = (nI c, Y') ∧ CH n W H T K Mx Mm c X' Y') 0 n (by omega) (by omega)
    (fun k x y hk hR => by
      obtain ⟨x1, x2⟩ := x
      obtain ⟨y1, y2⟩ := y
      obtain ⟨c, e1, e2, h⟩ := hR
      have e1 : x1 = nI c := e1
      have e2 : y1 = nI c := e2
      have h : CH n W H T K Mx Mm c x2 y2 := h
      subst e1 e2
      obtain ⟨hc, ⟨tl, htl⟩, cf, sm, h32⟩ := h
      have hSN := CF.sn hS cf sm
      by_cases hc4 : c = 4
      · subst hc4
        refine Or.inr ⟨(nI 4, x2), (nI 4, y2), ?_, ?_, 4, x2, y2, rfl, rfl, hc, ⟨tl, htl⟩, cf, sm, h32⟩
        · show X7_chooseOpaque_L4 0 (nI 4) (nI k) x2 = _
          unfold X7_chooseOpaque_L4
          rw [hSN.1.1.2.2.1.2.2.2.2, if_neg (nI_ge hk (by omega)), if_pos (by decide)]
        · show X11_orders_L30 p (nI 4) (nI k) y2 = _
          unfold X11_orders_L30
          rw [hSN.1.2.1.1.1, if_neg (nI_ge hk (by omega)), if_pos (by decide)]
      · refine Or.inl ?_
        have c4 : ¬ (4 : Int32) ≤ nI c := nI_ge (a := c) (b := 4) (by omega) (by decide)
        obtain ⟨Z, z1, z2, z3⟩ := hSN.asks hk
        have cc := x9_cull hSN.1.1 hSN.1.2.2.1 hk 0
        have z4 := z2.2.2
        have sc := (hSN.ask z3).1.2.1.2.2.2 k hk
        obtain ⟨al, a1, a2, a3⟩ := (hSN.1.1.2.2.2.2.2.2 k hk).2.2
        have e10 : (12 * nI k : Int32) + 10 = nI (12 * k + 10) := by rw [nlit 12, nI_mul, nlit 10, nI_add]
        have m10 : Z.1 52 4 (12 * k + 10) = nI al := by rw [sc.2.1, a3]
        have clsA : X7_chooseOpaque_L4 0 (nI c) (nI k) x2 = (if nI al = 8 then (if (if cul (trA (ct x2 0 k)) (x2.1 40 0 0) = true then (1 : Int32) else 0) = 0 then some (.inl (nI (c + 1), nI (k + 1), wI x2 30 0 c (nI k))) else some (.inl (nI c, nI (k + 1), x2))) else some (.inl (nI c, nI (k + 1), x2))) := by
          unfold X7_chooseOpaque_L4
          rw [hSN.1.1.2.2.1.2.2.2.2, if_neg (nI_ge hk (by omega)), if_neg c4, gG_t (gin_n (k := k) (by omega) (by decide)), nI_clamp (n := k) (by omega), a3, cc, bind_e, gG_t (gin_n (k := c) (by omega) (by decide)), nI_clamp (n := c) (by omega)]
          simp only [gLet_e, nI_1]
        have modA : X11_orders_L30 p (nI c) (nI k) y2 = (if (if cul (trA (ct x2 0 k)) (x2.1 40 0 0) = true then (1 : Int32) else 0) = 0 then (if 8 ≤ nI al then some (.inl (nI (c + 1), nI (k + 1), wI Z 52 19 c (nI k))) else some (.inl (nI c, nI (k + 1), Z))) else some (.inl (nI c, nI (k + 1), Z))) := by
          unfold X11_orders_L30
          rw [hSN.1.2.1.1.1, if_neg (nI_ge hk (by omega)), if_neg c4, z1, bind_e, z4, e10, gG_t (gin_n (k := 12 * k + 10) (by omega) (by decide)), nI_clamp (n := 12 * k + 10) (by omega), m10, gG_t (gin_n (k := c) (by omega) (by decide)), nI_clamp (n := c) (by omega)]
          simp only [gLet_e, nI_1]
        have stay : CH n W H T K Mx Mm c x2 Z := ⟨hc, ⟨tl, fun i hi => ⟨(htl i hi).1, (htl i hi).2.1, by rw [z3.2 52 19 i (by omega)]; exact (htl i hi).2.2⟩⟩, cf, sm.tr z3.sm, h32⟩
        cases hcu : cul (trA (ct x2 0 k)) (x2.1 40 0 0) with
        | true =>
          rw [hcu] at clsA modA
          refine ⟨(nI c, x2), (nI c, Z), ?_, ?_, c, rfl, rfl, stay⟩
          · refine clsA.trans ?_
            rw [if_neg (show ¬ (if true = true then (1 : Int32) else 0) = 0 by decide)]
            split <;> rfl
          · refine modA.trans ?_
            rw [if_neg (by decide)]
        | false =>
          rw [hcu] at clsA modA
          by_cases h8 : al = 8
          · subst h8
            refine ⟨(nI (c + 1), wI x2 30 0 c (nI k)), (nI (c + 1), wI Z 52 19 c (nI k)), ?_, ?_, c + 1, rfl, rfl, by omega, ⟨fun i => if i = c then k else tl i, fun i hi => ?_⟩, cf.ot rfl fun a b c hq => w_n (by omega), (sm.tr z3.sm).tr ⟨fun a b c hq => w_n (by omega), rfl⟩, fun l hl => ?_⟩
            · refine clsA.trans ?_
              rw [if_pos (by decide), if_pos (by decide)]
            · refine modA.trans ?_
              rw [if_pos (by decide), if_pos (by decide)]
            · show (if i = c then k else tl i) < n ∧ (wI x2 30 0 c (nI k)).1 30 0 i = nI (if i = c then k else tl i) ∧ (wI Z 52 19 c (nI k)).1 52 19 i = nI (if i = c then k else tl i)
              by_cases e : i = c
              · subst e
                rw [if_pos rfl]
                exact ⟨hk, w_e, w_e⟩
              · rw [if_neg e]
                have := htl i (by omega)
                refine ⟨this.1, ?_, ?_⟩
                · show (wI x2 30 0 c (nI k)).1 30 0 i = _
                  rw [w_n (by omega)]
                  exact this.2.1
                · show (wI Z 52 19 c (nI k)).1 52 19 i = _
                  rw [w_n (by omega), z3.2 52 19 i (by omega)]
                  exact this.2.2
            · show (wI x2 30 0 c (nI k)).1 32 0 l = _
              rw [w_n (by omega)]
              exact h32 l hl
          · refine ⟨(nI c, x2), (nI c, Z), ?_, ?_, c, rfl, rfl, stay⟩
            · refine clsA.trans ?_
              rw [if_neg (show ¬ nI al = (8 : Int32) from fun z => h8 (nI_inj (b := 8) (by omega) (by decide) z))]
            · refine modA.trans ?_
              rw [if_pos (by decide), if_neg (show ¬ (8 : Int32) ≤ nI al from nI_ge (a := al) (b := 8) (by omega) (by decide))])
    (fun x y hR => by
      obtain ⟨x1, x2⟩ := x
      obtain ⟨y1, y2⟩ := y
      obtain ⟨c, e1, e2, h⟩ := hR
      have e1 : x1 = nI c := e1
      have e2 : y1 = nI c := e2
      have h : CH n W H T K Mx Mm c x2 y2 := h
      subst e1 e2
      have hSN := CF.sn hS h.2.2.1 h.2.2.2.1
      refine ⟨(nI c, x2), (nI c, y2), ?_, ?_, c, x2, y2, rfl, rfl, h⟩
      · show X7_chooseOpaque_L4 0 (nI c) (nI n) x2 = _
        unfold X7_chooseOpaque_L4
        rw [hSN.1.1.2.2.1.2.2.2.2, if_pos (nI_le (Nat.le_refl _) (by omega))]
      · show X11_orders_L30 p (nI c) (nI n) y2 = _
        unfold X11_orders_L30
        rw [hSN.1.2.1.1.1, if_pos (nI_le (Nat.le_refl _) (by omega))])
    (0, X) (0, Y) ⟨0, rfl, rfl, h0⟩
  have f1 : gIter (fun s : Int32 × Int32 × gM => X7_chooseOpaque_L4 0 s.1 s.2.1 s.2.2) FU (0, 0, X) = some (nI c, X') := f1
  refine ⟨c, X', Y', ?_, f2, f3⟩
  unfold X7_chooseOpaque
  rw [f1]
  rfl
/-- while the orders are tried -/
def OL (n W H T K : Nat) (Mx Mm : gM) (tl : Nat → Nat) (c k : Nat) (X : gM) (b : Int32 × Int32 × Int32 × gM) : Prop := (∀ i, i < c → tl i < n ∧ X.1 30 0 i = nI (tl i) ∧ b.2.2.2.1 52 19 i = nI (tl i)) ∧ CF n W H T K Mx X ∧ SM Mm b.2.2.2 ∧ X.1 32 0 2 = b.2.2.1 ∧ ((k = 0 ∧ b.1 = -1) ∨ (1 ≤ k ∧ (∃ d, d < 100 ∧ b.1 = nI d) ∧ X.1 32 0 1 = b.1 ∧ X.1 32 0 0 = b.2.1))
theorem j_try {p : Int32} (hS : SN m nf n W H T K Mx Mm) (hc : 1 ≤ c ∧ c ≤ 4) (hk : k < fac c) {b : Int32 × Int32 × Int32 × gM} (h : OL n W H T K Mx Mm tl c k X b) :
    ∃ X' b', X7_tryOrders_L40 (nI c) (nI (fac c)) (nI k) X = some (.inl (nI (k + 1), X')) ∧ X11_orders_L135 p (nI c) (nI (fac c)) b.1 b.2.1 b.2.2.1 (nI k) b.2.2.2 = some (.inl (b'.1, b'.2.1, b'.2.2.1, nI (k + 1), b'.2.2.2)) ∧ OL n W H T K Mx Mm tl c (k + 1) X' b' := by
  obtain ⟨b1, b2, b3, y⟩ := b
  obtain ⟨h1, h2, h3, h4, h5⟩ := h
  have h4 : X.1 32 0 2 = b3 := h4
  have hn := hS.1.1.2.1
  have hfl := fac_le (m := c) (by omega)
  obtain ⟨X1, Ya, Yb, Yd, Y1, g1, g2, g3, g4, g5, g6, g7, g8, g9, g10⟩ := j_order (x1 := p) (x3 := nI (fac c)) (x4 := b1) (x5 := b2) (x6 := b3) hS hc hk h1 h2 h3
  obtain ⟨w1, w2⟩ := j_pairs (Or.inr rfl) (by omega) g6.2.1.1.1 g6.2.2.2.2.2.2.2
  generalize nI (spc (lt1 2 X1) 10) = R at w1 w2
  have gm : gmax (X1.1 32 0 2) R = if R ≤ b3 then b3 else R := by
    rw [(g10 2).2, h4]
    unfold gmax
    by_cases z : R ≤ b3
    · rw [if_pos z, if_neg (Int32.not_lt.mpr z)]
    · rw [if_neg z, if_pos (Int32.not_le.mp z)]
  have cls : X7_tryOrders_L40 (nI c) (nI (fac c)) (nI k) X = (if nI k = 0 then X7_tryOrders_J82 (nI c) (nI (fac c)) (nI k) R X1 else (if (X1.1 32 0 0) ≤ R then X7_tryOrders_J98 (nI c) (nI (fac c)) (nI k) R X1 else X7_tryOrders_J82 (nI c) (nI (fac c)) (nI k) R X1)) := by
    unfold X7_tryOrders_L40
    rw [if_neg (nI_ge hk (by omega)), if_neg (show ¬ nI c ≤ (0 : Int32) from nI_ge (a := 0) (b := c) (by omega) (by omega)), g1, bind_e, w1, bind_e]
  have mod : X11_orders_L135 p (nI c) (nI (fac c)) b1 b2 b3 (nI k) y = (if b1 = (-1) then (if R ≤ b3 then some (.inl (nI k, R, b3, nI (k + 1), Y1)) else some (.inl (nI k, R, R, nI (k + 1), Y1))) else (if b2 ≤ R then (if R ≤ b3 then some (.inl (b1, b2, b3, nI (k + 1), Y1)) else some (.inl (b1, b2, R, nI (k + 1), Y1))) else (if R ≤ b3 then some (.inl (nI k, R, b3, nI (k + 1), Y1)) else some (.inl (nI k, R, R, nI (k + 1), Y1))))) := by
    unfold X11_orders_L135
    rw [if_neg (nI_ge hk (by omega)), g2, bind_e, g3, bind_e, gLet_e, g4, bind_e, g5, bind_e, w2, bind_e]
    simp only [gLet_e, nI_1]
  have c98 : ∀ X2, X7_tryOrders_J98 (nI c) (nI (fac c)) (nI k) R X2 = some (.inl (nI (k + 1), wI X2 32 0 2 (gmax (X2.1 32 0 2) R))) := fun X2 => by
    unfold X7_tryOrders_J98
    rw [gLet_e, gLet_e, nI_1]
  have c82 : X7_tryOrders_J82 (nI c) (nI (fac c)) (nI k) R X1 = some (.inl (nI (k + 1), wI (wI (wI X1 32 0 0 R) 32 0 1 (nI k)) 32 0 2 (gmax (X1.1 32 0 2) R))) := by
    unfold X7_tryOrders_J82
    rw [gLet_e, gLet_e, c98, w_n (by omega), w_n (by omega)]
  -- a new best
  have new : ∀ X2, X2 = wI (wI (wI X1 32 0 0 R) 32 0 1 (nI k)) 32 0 2 (gmax (X1.1 32 0 2) R) → OL n W H T K Mx Mm tl c (k + 1) X2 (nI k, R, (if R ≤ b3 then b3 else R), Y1) := fun X2 e => by
    subst e
    refine ⟨fun i hi => ?_, g7.ot rfl fun a b c hq => by rw [w_n (by omega), w_n (by omega), w_n (by omega)], g8, ?_, Or.inr ⟨by omega, ⟨k, by omega, rfl⟩, ?_, ?_⟩⟩
    · have := h1 i hi
      refine ⟨this.1, ?_, ?_⟩
      · rw [w_n (by omega), w_n (by omega), w_n (by omega), (g10 i).1]
        exact this.2.1
      · show Y1.1 52 19 i = _
        rw [g9]
        exact this.2.2
    · rw [w_e, gm]
    · rw [w_n (by omega), w_e]
    · rw [w_n (by omega), w_n (by omega), w_e]
  have spl : ∀ (u v : Int32), (if R ≤ b3 then some (Sum.inl (u, v, b3, nI (k + 1), Y1)) else some (Sum.inl (u, v, R, nI (k + 1), Y1)) : Option ((Int32 × Int32 × Int32 × Int32 × gM) ⊕ (Int32 × Int32 × Int32 × gM))) = some (Sum.inl (u, v, (if R ≤ b3 then b3 else R), nI (k + 1), Y1)) := fun u v => by
    split <;> rfl
  rcases h5 with ⟨k0, hb⟩ | ⟨k1, ⟨d, hd, hb⟩, ha, hbb⟩
  · have hb : b1 = -1 := hb
    refine ⟨_, (nI k, R, (if R ≤ b3 then b3 else R), Y1), ?_, ?_, new _ rfl⟩
    · rw [cls, if_pos (by rw [k0]; rfl), c82]
    · show X11_orders_L135 p (nI c) (nI (fac c)) b1 b2 b3 (nI k) y = _
      rw [mod, if_pos hb, spl]
  · have hb : b1 = nI d := hb
    have ha : X.1 32 0 1 = b1 := ha
    have hbb : X.1 32 0 0 = b2 := hbb
    have nb : ¬ b1 = -1 := by rw [hb]; exact nI_m1 (by omega)
    by_cases q : b2 ≤ R
    · refine ⟨wI X1 32 0 2 (gmax (X1.1 32 0 2) R), (b1, b2, (if R ≤ b3 then b3 else R), Y1), ?_, ?_, fun i hi => ?_, g7.ot rfl fun a b c hq => w_n (by omega), g8, ?_, Or.inr ⟨by omega, ⟨d, hd, hb⟩, ?_, ?_⟩⟩
      · rw [cls, if_neg (nI_ne0 (by omega) (by omega)), if_pos (by rw [(g10 0).2, hbb]; exact q), c98]
      · show X11_orders_L135 p (nI c) (nI (fac c)) b1 b2 b3 (nI k) y = _
        rw [mod, if_neg nb, if_pos q, spl]
      · have := h1 i hi
        refine ⟨this.1, ?_, ?_⟩
        · rw [w_n (by omega), (g10 i).1]
          exact this.2.1
        · show Y1.1 52 19 i = _
          rw [g9]
          exact this.2.2
      · rw [w_e, gm]
      · rw [w_n (by omega), (g10 1).2]
        exact ha
      · rw [w_n (by omega), (g10 0).2]
        exact hbb
    · refine ⟨_, (nI k, R, (if R ≤ b3 then b3 else R), Y1), ?_, ?_, new _ rfl⟩
      · rw [cls, if_neg (nI_ne0 (by omega) (by omega)), if_neg (by rw [(g10 0).2, hbb]; exact q), c82]
      · show X11_orders_L135 p (nI c) (nI (fac c)) b1 b2 b3 (nI k) y = _
        rw [mod, if_neg nb, if_neg q, spl]
end OG
