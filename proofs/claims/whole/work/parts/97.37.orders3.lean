/-! orders: one order drawn, both sides -/
section OF
variable {n W H T K i j k t m nf q c o : Nat} {M Mx Mm Z X Y X' Y' : gM} {tl : Nat → Nat}
theorem fac_pos (m : Nat) : 0 < fac m := by
  induction m with
  | zero => decide
  | succ m ih => exact Nat.mul_pos (Nat.succ_pos m) ih
theorem fac_le {m : Nat} (h : m ≤ 4) : fac m ≤ 24 := by
  rcases (show m = 0 ∨ m = 1 ∨ m = 2 ∨ m = 3 ∨ m = 4 by omega) with rfl | rfl | rfl | rfl | rfl <;> decide
theorem CF.jd (h : CF n W H T K Mx X) (d : JD n W H T K 2 9 X Y X' Y') : CF n W H T K Mx X' := by
  have g : ∀ a b c, ¬ ((34 ≤ a ∧ a ≤ 38 ∧ b = 2) ∨ (a = 33 ∧ b = 2 ∧ 10 ≤ c ∧ c ≤ 12)) → X'.1 a b c = X.1 a b c := d.2.1.1
  exact ⟨fun c hc => by rw [g 39 2 c (by omega)]; exact h.1 c hc, fun c hc h2 => by rw [g 40 2 c (by omega)]; exact h.2.1 c hc h2, by rw [g 40 2 2 (by omega)]; exact h.2.2.1, fun t ht => by obtain ⟨b, h1, h2, -⟩ := d.1.2.2.2.2.2.2.1 t ht; exact ⟨b, h1, h2⟩, h.2.2.2.2.1.tr d.sx.1, fun a b c h1 h2 => by rw [g a b c (by omega)]; exact h.2.2.2.2.2 a b c h1 h2⟩
theorem CF.ot (h : CF n W H T K Mx X) (g2 : X'.2 = X.2) (g : ∀ a b c, ¬ (29 ≤ a ∧ a ≤ 32) → X'.1 a b c = X.1 a b c) : CF n W H T K Mx X' :=
  ⟨fun c hc => by rw [g 39 2 c (by omega)]; exact h.1 c hc, fun c hc h2 => by rw [g 40 2 c (by omega)]; exact h.2.1 c hc h2, by rw [g 40 2 2 (by omega)]; exact h.2.2.1, fun t ht => by rw [g 38 2 t (by omega)]; exact h.2.2.2.1 t ht, h.2.2.2.2.1.tr ⟨fun a b c hq => g a b c (by omega), fun a b c _ => by rw [g2]⟩, fun a b c h1 h2 => by rw [g a b c (by omega)]; exact h.2.2.2.2.2 a b c h1 h2⟩
theorem drop_head {l : List Nat} {k a : Nat} {r : List Nat} (h : l.drop k = a :: r) : l.getD k 0 = a ∧ l.drop (k + 1) = r := by
  constructor
  · have e : l[k]? = some a := by
      have := List.getElem?_drop (xs := l) (i := k) (j := 0)
      rw [h, Nat.add_zero] at this
      rw [← this]
      rfl
    rw [List.getD_eq_getElem?_getD, e]
    rfl
  · rw [← List.drop_drop, h]
    rfl
theorem erase_getD {l : List Nat} {i j : Nat} : (l.eraseIdx i).getD j 0 = if j < i then l.getD j 0 else l.getD (j + 1) 0 := by
  rw [List.getD_eq_getElem?_getD, List.getElem?_eraseIdx]
  split
  · rw [List.getD_eq_getElem?_getD]
  · rw [List.getD_eq_getElem?_getD]
/-- while an order is drawn -/
def OR (n W H T K : Nat) (Mx Mm X Y : gM) (tl : Nat → Nat) (c o k : Nat) (b : Int32 × gM) (y : gM) : Prop := ∃ li o', b.1 = nI o' ∧ o' < fac (c - k) ∧ li.length = c - k ∧ (og c (List.range c) o).drop k = og (c - k) li o' ∧ (∀ i, i < c - k → b.2.1 31 0 i = nI (tl (li.getD i 0))) ∧ RJ n W H T K 2 9 b.2 y ∧ PN 2 b.2 ∧ CF n W H T K Mx b.2 ∧ SM Mm y ∧ (∀ b c, 15 ≤ b → b ≤ 19 → y.1 52 b c = Y.1 52 b c) ∧ ∀ c, b.2.1 30 0 c = X.1 30 0 c ∧ b.2.1 32 0 c = X.1 32 0 c
theorem j_ostep {x1 x3 x4 x5 x6 : Int32} (hc : 1 ≤ c ∧ c ≤ 4) (ho : o < fac c) (ht : ∀ i, i < c → tl i < n ∧ Y.1 52 19 i = nI (tl i)) (hk : k < c) {b : Int32 × gM} {y : gM} (h : OR n W H T K Mx Mm X Y tl c o k b y) :
    ∃ b' y', X7_drawInOrder_L34 b.1 (nI (c - k)) b.2 = some (.inl (b'.1, nI (c - (k + 1)), b'.2)) ∧ X11_orders_L174 x1 (nI c) x3 x4 x5 x6 (nI o) (nI k) y = some (.inl (nI (k + 1), y')) ∧ OR n W H T K Mx Mm X Y tl c o (k + 1) b' y' := by
  obtain ⟨b1, b2⟩ := b
  obtain ⟨li, o', q1, q2, q3, q4, q5, q6, q7, q8, q9, q10, q11⟩ := h
  have q1 : b1 = nI o' := q1
  subst q1
  obtain ⟨m, hm⟩ : ∃ m, c - k = m + 1 := ⟨c - k - 1, by omega⟩
  have hm2 : c - (k + 1) = m := by omega
  rw [hm] at q2 q3 q4 q5
  have hf := fac_pos m
  have hfl := fac_le (m := m) (by omega)
  have hfl2 := fac_le (m := c) (by omega)
  have hi : o' / fac m < m + 1 := (Nat.div_lt_iff_lt_mul hf).mpr q2
  have hol : o' < 100 := Nat.lt_of_lt_of_le q2 (Nat.le_trans (fac_le (m := m + 1) (by omega)) (by omega))
  obtain ⟨e1, e2⟩ := drop_head (show (og c (List.range c) o).drop k = li.getD (o' / fac m) 0 :: og m (li.eraseIdx (o' / fac m)) (o' % fac m) from q4)
  obtain ⟨f1, f2⟩ := x11_ino hc ho hk y
  rw [e1] at f1 f2
  obtain ⟨t1, t2⟩ := ht _ f2
  have q6 : RJ n W H T K 2 9 b2 y := q6
  obtain ⟨r, X1, Y1, d1, d2, d3⟩ := j_draw (Or.inr rfl) q6 t1
  have g1 : ∀ a b c, ¬ ((34 ≤ a ∧ a ≤ 38 ∧ b = 2) ∨ (a = 33 ∧ b = 2 ∧ 10 ≤ c ∧ c ≤ 12)) → X1.1 a b c = b2.1 a b c := d3.2.1.1
  obtain ⟨X2, s1, s2, s3, s4⟩ := x7_106 (X := X1) (i := o' / fac m) (by omega) (nI (o' % fac m)) (nI (m + 1))
  have e31 : b2.1 31 0 (o' / fac m) = nI (tl (li.getD (o' / fac m) 0)) := q5 _ hi
  have eo : nI o' - nI (o' / fac m) * nI (fac m) = nI (o' % fac m) := by
    have hle : o' / fac m * fac m ≤ o' := Nat.div_mul_le_self _ _
    rw [nI_mul, nI_sub hle]
    have := Nat.div_add_mod o' (fac m)
    rw [Nat.mul_comm] at this
    congr 1
    omega
  have em1 : nI (m + 1) - 1 = nI m := by rw [nlit 1, nI_sub (by omega), Nat.add_sub_cancel]
  have emm : nI (m + 1) + (-1) = nI m := by
    rw [← em1]
    grind
  refine ⟨(nI (o' % fac m), X2), Y1, ?_, ?_, li.eraseIdx (o' / fac m), o' % fac m, rfl, ?_, ?_, ?_, fun i hi' => ?_, ?_, ?_, ?_, ?_, fun b c h1 h2 => ?_, fun c => ?_⟩
  · show X7_drawInOrder_L34 (nI o') (nI (c - k)) b2 = _
    unfold X7_drawInOrder_L34 X7_drawInOrder_J61
    rw [hm, if_neg (show ¬ nI (m + 1) ≤ (0 : Int32) from nI_ge (a := 0) (b := m + 1) (by omega) (by omega)), em1, x7_fac (by omega), bind_e, if_neg (show ¬ nI (fac m) ≤ (0 : Int32) from nI_ge (a := 0) (b := fac m) hf (by omega)), gG_t (decide_eq_true (nI_ne0 hf (by omega))), nI_div (by omega) (by omega), gLet_e, eo, if_neg (nI_neg (by omega)), if_pos (show nI (o' / fac m) < (4 : Int32) from Int32.not_le.mp (nI_ge (a := o' / fac m) (b := 4) (by omega) (by decide))), gG_t (gin_n (k := o' / fac m) (by omega) (by decide)), nI_clamp (n := o' / fac m) (by omega), e31, d1, bind_e, gU2_e, s1, bind_e, gLet_e, emm, hm2]
  · unfold X11_orders_L174
    rw [if_neg (nI_ge hk (by omega)), f1, bind_e, gG_t (gin_n (k := li.getD (o' / fac m) 0) (by omega) (by decide)), nI_clamp (n := li.getD (o' / fac m) 0) (by omega), q10 19 _ (by omega) (by omega), t2, d2, bind_e, gU2_e, gLet_e, nI_1]
  · rw [hm2]
    exact Nat.mod_lt _ hf
  · rw [hm2, List.length_eraseIdx, if_pos (by omega), q3, Nat.add_sub_cancel]
  · rw [hm2]
    exact e2
  · rw [hm2] at hi'
    show X2.1 31 0 i = _
    rw [s2 i (by omega), erase_getD]
    by_cases hz : o' / fac m ≤ i
    · rw [if_pos hz, if_neg (by omega), g1 31 0 _ (by omega)]
      exact q5 _ (by omega)
    · rw [if_neg hz, if_pos (by omega), g1 31 0 _ (by omega)]
      exact q5 _ (by omega)
  · exact d3.1.same (fun a b c hc => s4 a b c (by omega)) (fun c => by rw [s3]) (fun _ _ _ _ => rfl)
  · exact (d3.pn q7).same fun c => s4 36 2 c (by omega)
  · exact (CF.jd q8 d3).ot s3 fun a b c hq => s4 a b c (by omega)
  · exact q9.tr d3.sx.2
  · rw [d3.2.2.1.2 52 b c (by unfold mB; omega)]
    exact q10 b c h1 h2
  · show X2.1 30 0 c = _ ∧ X2.1 32 0 c = _
    rw [s4 30 0 c (by omega), s4 32 0 c (by omega), g1 30 0 c (by omega), g1 32 0 c (by omega)]
    exact q11 c
theorem j_order {x1 x3 x4 x5 x6 : Int32} (hS : SN m nf n W H T K Mx Mm) (hc : 1 ≤ c ∧ c ≤ 4) (ho : o < fac c) (ht : ∀ i, i < c → tl i < n ∧ X.1 30 0 i = nI (tl i) ∧ Y.1 52 19 i = nI (tl i)) (cf : CF n W H T K Mx X) (sm : SM Mm Y) :
    ∃ X' Ya Yb Yd Y', X7_drawInOrder (nI o) (nI c) X = some X' ∧ X11_copyRow 8 0 9 0 Y = some Ya ∧ X11_clears 9 Ya = some Yb ∧ gIter (fun s => X11_orders_L174 x1 (nI c) x3 x4 x5 x6 (nI o) s.1 s.2) FU (0, wI Yb 52 9 1059 0) = some Yd ∧ X11_flushesAll 9 Yd = some Y' ∧ RJ n W H T K 2 9 X' Y' ∧ CF n W H T K Mx X' ∧ SM Mm Y' ∧ (∀ l, Y'.1 52 19 l = Y.1 52 19 l) ∧ ∀ l, X'.1 30 0 l = X.1 30 0 l ∧ X'.1 32 0 l = X.1 32 0 l := by
  have gC : ∀ a b c, a ≠ 31 → (cpI X 30 0 31 0 4).1 a b c = X.1 a b c := fun a b c ha => by rw [r1_cpI, if_neg (by omega)]
  have cf0 : CF n W H T K Mx (cpI X 30 0 31 0 4) := cf.ot rfl fun a b c hq => gC a b c (by omega)
  obtain ⟨X1, Ya, Yb, ⟨r, w1⟩, w2, w3, w4, w5, w6, w7, w8, w9⟩ := j_ostart hS cf0 sm
  obtain ⟨e, d, f1, f2, f3⟩ := gI2_FU (s1 := fun s : Int32 × Int32 × gM => X7_drawInOrder_L34 s.1 s.2.1 s.2.2) (s2 := fun s : Int32 × gM => X11_orders_L174 x1 (nI c) x3 x4 x5 x6 (nI o) s.1 s.2) (fun k (b : Int32 × gM) => (b.1, nI (c - k), b.2)) (fun k (y : gM) => (nI k, y)) (OR n W H T K Mx Mm X Y tl c o) (fun e d => ∃ X2 o2, e = .inr X2 ∧ OR n W H T K Mx Mm X Y tl c o c (o2, X2) d) 0 c (by omega) (by omega)
    (fun k b y hk hR => by
      obtain ⟨b', y', g1, g2, g3⟩ := j_ostep (x1 := x1) (x3 := x3) (x4 := x4) (x5 := x5) (x6 := x6) hc ho (fun i hi => ⟨(ht i hi).1, (ht i hi).2.2⟩) hk hR
      exact ⟨b', y', g1, g2, g3⟩)
    (fun b y hR => by
      refine ⟨.inr b.2, y, ?_, ?_, b.2, b.1, rfl, hR⟩
      · show X7_drawInOrder_L34 b.1 (nI (c - c)) b.2 = _
        unfold X7_drawInOrder_L34
        rw [Nat.sub_self, if_pos (by decide)]
      · show X11_orders_L174 x1 (nI c) x3 x4 x5 x6 (nI o) (nI c) y = _
        unfold X11_orders_L174
        rw [if_pos (nI_le (Nat.le_refl _) (by omega))])
    (nI o, X1) (wI Yb 52 9 1059 0) ⟨List.range c, o, rfl, ho, List.length_range, rfl, fun i hi => by
      show X1.1 31 0 i = _
      rw [w8 31 0 i (by omega) (by omega), r1_cpI, if_pos (by omega), (ht i (by omega)).2.1]
      congr 1
      rw [List.getD_eq_getElem?_getD, List.getElem?_range (by omega)]
      rfl, w4, w5, w6, sm.tr w7, fun b c h1 h2 => w9 b c h1 h2, fun l => by
      show X1.1 30 0 l = _ ∧ X1.1 32 0 l = _
      rw [w8 30 0 l (by omega) (by omega), w8 32 0 l (by omega) (by omega)]
      exact ⟨gC 30 0 l (by omega), gC 32 0 l (by omega)⟩⟩
  obtain ⟨X2, o2, rfl, li, o', q1, q2, q3, q4, q5, q6, q7, q8, q9, q10, q11⟩ := f3
  have q6 : RJ n W H T K 2 9 X2 d := q6
  obtain ⟨X3, Y3, g1, g2, g3⟩ := j_all (Or.inr rfl) q6
  have gg : ∀ a b c, ¬ ((34 ≤ a ∧ a ≤ 38 ∧ b = 2) ∨ (a = 33 ∧ b = 2 ∧ 10 ≤ c ∧ c ≤ 12)) → X3.1 a b c = X2.1 a b c := g3.2.1.1
  have f1 : gIter (fun s : Int32 × Int32 × gM => X7_drawInOrder_L34 s.1 s.2.1 s.2.2) FU (nI o, nI c, X1) = some (.inr X2) := f1
  refine ⟨X3, Ya, Yb, d, Y3, ?_, w2, w3, f2, g2, g3.1, CF.jd q8 g3, q9.tr g3.sx.2, fun l => ?_, fun l => ?_⟩
  · unfold X7_drawInOrder
    rw [gLet_e, w1, bind_e, gU2_e, f1, bind_e, gS2_e2, g1]
    rfl
  · rw [g3.2.2.1.2 52 19 l (by unfold mB; omega)]
    exact q10 19 l (by omega) (by omega)
  · have := q11 l
    rw [gg 30 0 l (by omega), gg 32 0 l (by omega)]
    exact this
end OF
