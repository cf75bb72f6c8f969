/-! the grid is laid out -/
theorem lo_loop {α σ : Type} {step : σ → Option (σ ⊕ gM)} (mk : Nat → gM → σ) (P : Nat → List α → gM → Prop) (f : Nat → List α) (B a0 b : Nat)
    (hs : ∀ k M l, a0 ≤ k → k < b → P k l M → l.length + (f k).length ≤ B → ∃ M', step (mk k M) = some (.inl (mk (k + 1) M')) ∧ P (k + 1) (l ++ f k) M')
    (he : ∀ M l, P b l M → step (mk b M) = some (.inr M)) :
    ∀ (n a m : Nat) (l : List α) (M : gM), a0 ≤ a → a + n = b → n < m → l.length + ((List.range' a n).flatMap f).length ≤ B → P a l M → ∃ M', gIter step m (mk a M) = some M' ∧ P b (l ++ (List.range' a n).flatMap f) M' := by
  intro n
  induction n with
  | zero =>
    intro a m l M h0 hb hm hl hp
    obtain ⟨m, rfl⟩ : ∃ j, m = j + 1 := ⟨m - 1, by omega⟩
    have e : a = b := by omega
    subst e
    refine ⟨M, gIt_x (he M l hp), ?_⟩
    rw [List.range'_zero, List.flatMap_nil, List.append_nil]
    exact hp
  | succ n ih =>
    intro a m l M h0 hb hm hl hp
    obtain ⟨m, rfl⟩ : ∃ j, m = j + 1 := ⟨m - 1, by omega⟩
    rw [List.range'_succ, List.flatMap_cons, List.length_append] at hl
    obtain ⟨M1, g1, g2⟩ := hs a M l h0 (by omega) hp (by omega)
    obtain ⟨M2, g3, g4⟩ := ih (a + 1) m (l ++ f a) M1 (by omega) (by omega) (by omega) (by rw [List.length_append]; omega) g2
    refine ⟨M2, gIt_s g1 g3, ?_⟩
    rw [List.range'_succ, List.flatMap_cons, ← List.append_assoc]
    exact g4
theorem fm_one {α : Type} (g : Nat → α) (l : List Nat) : l.flatMap (fun s => [g s]) = l.map g := by
  induction l with
  | nil => rfl
  | cons a l ih => rw [List.flatMap_cons, List.map_cons, ih]; rfl
/-- so far laid out -/
def LO (K : Nat) (M0 : gM) (l : List (Nat × Nat × Nat)) (M : gM) : Prop := M.1 12 0 6 = nI l.length ∧ (∀ k, k < l.length → M.1 13 0 k = nI (plA (l.getD k (0, 0, 0)))) ∧ (∀ a, a ∈ l → (a.1 < 8 ∧ a.2.2 < 4) ∧ M.1 15 0 (plA a) = qx K a.1 a.2.2 ∧ M.1 16 0 (plA a) = qy K a.2.1 a.2.2) ∧ M.2 = M0.2 ∧ ∀ a b c, ¬ ((a = 12 ∧ b = 0 ∧ c = 6) ∨ (b = 0 ∧ (a = 13 ∨ a = 15 ∨ a = 16))) → M.1 a b c = M0.1 a b c
section LY
variable {W H T K x y s t k : Nat} {M M0 M' : gM} {l : List (Nat × Nat × Nat)}
theorem sv67 {j : Nat} (hj : j < 7) : gSv 6 j = nI ([4, 2, 6, 3, 7, 1, 5].getD j 0) ∧ gSv 7 j = nI ([4, 2, 6, 1, 3, 5, 7].getD j 0) := by
  rcases (show j = 0 ∨ j = 1 ∨ j = 2 ∨ j = 3 ∨ j = 4 ∨ j = 5 ∨ j = 6 by omega) with rfl | rfl | rfl | rfl | rfl | rfl | rfl <;> exact ⟨rfl, rfl⟩
theorem lo_step (hK : K = 1 ∨ K = 2 ∨ K = 4) (hx : x < 8) (hy : y < 8) (hs : s < K) (e3 : M.1 12 0 3 = nI K) (h : LO K M0 l M) (hl : l.length + 1 ≤ 256) : ∃ M', X1_layOutPixel_L2 (nI x) (nI y) (nI s) M = some (.inl (nI (s + 1), M')) ∧ LO K M0 (l ++ [(x, y, s)]) M' := by
  obtain ⟨h1, h2, h3, h4, h5⟩ := h
  have hp : plc x y s < 256 := by unfold plc; omega
  have sv := sv67 (j := K - 1 + s) (by omega)
  have ep : ((nI y * 8) + nI x) * 4 + nI s = nI (plc x y s) := by
    rw [nlit 8, nI_mul, nI_add, nlit 4, nI_mul, nI_add]
    unfold plc
    congr 1
    omega
  have ek : (nI K - 1) + nI s = nI (K - 1 + s) := by rw [nlit 1, nI_sub (by omega), nI_add]
  have eqx : nI x * 8 + gSv 6 (K - 1 + s) = qx K x s := by
    rw [sv.1, nlit 8, nI_mul, nI_add]
    unfold qx sX
    rw [Nat.mul_comm]
  have eqy : nI y * 8 + gSv 7 (K - 1 + s) = qy K y s := by
    rw [sv.2, nlit 8, nI_mul, nI_add]
    unfold qy sY
    rw [Nat.mul_comm]
  refine ⟨wI (wI (wI (wI M 13 0 l.length (nI (plc x y s))) 15 0 (plc x y s) (qx K x s)) 16 0 (plc x y s) (qy K y s)) 12 0 6 (nI (l.length + 1)), ?_, ?_, fun k hk => ?_, fun a ha => ?_, h4, fun a b c hq => ?_⟩
  · unfold X1_layOutPixel_L2 X1_placeOf
    rw [e3, h1, if_neg (nI_ge hs (by omega)), if_neg (show ¬ (256 : Int32) ≤ nI l.length from nI_ge (a := l.length) (b := 256) (by omega) (by decide)), bind_e, gLet_e, ep, gG_t (gin_n (k := l.length) (by omega) (by decide)), nI_clamp (n := l.length) (by omega), gLet_e, w_n (by omega), e3, ek, gG_t (gin_n (k := K - 1 + s) (by omega) (by decide)), gG_t (gin_n (k := plc x y s) hp (by decide)), nI_clamp (n := plc x y s) (by omega), nI_clamp (n := K - 1 + s) (by omega), eqx, gLet_e, w_n (by omega), w_n (by omega), e3, ek, gG_t (gin_n (k := K - 1 + s) (by omega) (by decide)), gG_t (gin_n (k := plc x y s) hp (by decide)), nI_clamp (n := K - 1 + s) (by omega), eqy, gLet_e, w_n (by omega), w_n (by omega), w_n (by omega), h1, nI_1, gLet_e, gLet_e, nI_1]
  · rw [w_e, List.length_append]
    rfl
  · rw [List.length_append] at hk
    rw [w_n (by omega), w_n (by omega), w_n (by omega)]
    by_cases e : k = l.length
    · rw [e, w_e, List.getD_eq_getElem?_getD, List.getElem?_append_right (Nat.le_refl _), Nat.sub_self]
      rfl
    · have hk : k < l.length + 1 := hk
      rw [w_n (by omega), h2 k (by omega), List.getD_eq_getElem?_getD, List.getD_eq_getElem?_getD, List.getElem?_append_left (by omega)]
  · rcases List.mem_append.mp ha with ha | ha
    · obtain ⟨⟨b1, b2⟩, b3, b4⟩ := h3 a ha
      refine ⟨⟨b1, b2⟩, ?_⟩
      by_cases e : plA a = plc x y s
      · obtain ⟨g1, g2, g3⟩ := plc_inj (x := a.1) (y := a.2.1) (s := a.2.2) e b1 hx b2 (by omega)
        rw [e, w_n (by omega), w_n (by omega), w_e, w_n (by omega), w_e, g1, g2, g3]
        exact ⟨rfl, rfl⟩
      · rw [w_n (by omega), w_n (by omega), w_n (fun z => e z.2.2), w_n (by omega), w_n (by omega), w_n (fun z => e z.2.2), w_n (by omega), w_n (by omega)]
        exact ⟨b3, b4⟩
    · have ea : a = (x, y, s) := List.mem_singleton.mp ha
      subst ea
      refine ⟨⟨hx, show s < 4 by omega⟩, ?_⟩
      show (wI _ _ _ _ _).1 15 0 (plc x y s) = qx K x s ∧ (wI _ _ _ _ _).1 16 0 (plc x y s) = qy K y s
      rw [w_n (by omega), w_n (by omega), w_e, w_n (by omega), w_e]
      exact ⟨rfl, rfl⟩
  · rw [w_n (by omega), w_n (by omega), w_n (by omega), w_n (by omega)]
    exact h5 a b c hq
/-- the sizes, before the count of samples is known -/
def GE (W H T K : Nat) (M : gM) : Prop := M.1 12 0 0 = nI W ∧ M.1 12 0 1 = nI H ∧ M.1 12 0 2 = nI T ∧ M.1 12 0 3 = nI K ∧ M.1 12 0 4 = nI (tC W T) ∧ M.1 12 0 5 = nI (tN W H T)
theorem GE.gd (g : GE W H T K M) : GD W H T K (wI M 12 0 6 (nI (W * H * K))) := by
  unfold GD
  rw [w_n (by omega), w_n (by omega), w_n (by omega), w_n (by omega), w_n (by omega), w_n (by omega), w_e]
  exact ⟨g.1, g.2.1, g.2.2.1, g.2.2.2.1, g.2.2.2.2.1, g.2.2.2.2.2, rfl⟩
theorem x1_e4 (h : dOk W H T K) (g : GE W H T K M) (ht : t < 100) : X1_leftOf (nI t) M = some (nI (tL W T t)) ∧ X1_topOf (nI t) M = some (nI (tU W T t)) ∧ X1_rightOf (nI t) M = some (nI (tR W T t)) ∧ X1_bottomOf (nI t) M = some (nI (tD W H T t)) := by
  have a1 := x1_left h g.gd ht
  have a2 := x1_top h g.gd ht
  have a3 := x1_right h g.gd ht
  have a4 := x1_bottom h g.gd ht
  unfold X1_rightOf at a3 ⊢
  unfold X1_bottomOf at a4 ⊢
  unfold X1_leftOf at a1 a3 ⊢
  unfold X1_topOf at a2 a4 ⊢
  have w : ∀ c, c ≠ 6 → (wI M 12 0 6 (nI (W * H * K))).1 12 0 c = M.1 12 0 c := fun c hc => w_n (by omega)
  rw [w 4 (by omega), w 2 (by omega)] at a1 a2
  rw [w 4 (by omega), w 2 (by omega), w 0 (by omega)] at a3
  rw [w 4 (by omega), w 2 (by omega), w 1 (by omega)] at a4
  exact ⟨a1, a2, a3, a4⟩
theorem LO.ge (g : GE W H T K M0) (h : LO K M0 l M) : GE W H T K M := by
  have e : ∀ c, c ≠ 6 → M.1 12 0 c = M0.1 12 0 c := fun c hc => h.2.2.2.2 12 0 c (by omega)
  unfold GE
  rw [e 0 (by omega), e 1 (by omega), e 2 (by omega), e 3 (by omega), e 4 (by omega), e 5 (by omega)]
  exact g
theorem lo_pixel (hd : dOk W H T K) (g : GE W H T K M0) (hx : x < 8) (hy : y < 8) (h : LO K M0 l M) (hl : l.length + ((List.range' 0 K).map fun s => (x, y, s)).length ≤ 256) : ∃ M', X1_layOutPixel (nI x) (nI y) M = some M' ∧ LO K M0 (l ++ (List.range' 0 K).map fun s => (x, y, s)) M' := by
  have hK := hd.2.2.2
  rw [← fm_one] at hl ⊢
  obtain ⟨M', e1, e2⟩ := lo_loop (step := fun s : Int32 × gM => X1_layOutPixel_L2 (nI x) (nI y) s.1 s.2) (fun k M => (nI k, M)) (fun _ l M => LO K M0 l M) (fun s => [(x, y, s)]) 256 0 K
    (fun k M l _ hk hp hl => by
      obtain ⟨M', g1, g2⟩ := lo_step (x := x) (y := y) hK hx hy hk (hp.ge g).2.2.2.1 hp hl
      exact ⟨M', g1, g2⟩)
    (fun M l hp => by
      show X1_layOutPixel_L2 (nI x) (nI y) (nI K) M = _
      unfold X1_layOutPixel_L2
      rw [(hp.ge g).2.2.2.1, if_pos (nI_le (Nat.le_refl _) (by omega))]) K 0 FU l M (by omega) (by omega) (FU_gt (by omega)) hl h
  refine ⟨M', ?_, e2⟩
  have e1 : gIter (fun s : Int32 × gM => X1_layOutPixel_L2 (nI x) (nI y) s.1 s.2) FU (0, M) = some M' := e1
  unfold X1_layOutPixel
  rw [e1, bind_e]
theorem lo_row (hd : dOk W H T K) (g : GE W H T K M0) (ht : t < tN W H T) (hy : y < 8) (h : LO K M0 l M) (hl : l.length + (tX W T K t y).length ≤ 256) : ∃ M', gIter (fun s : Int32 × gM => X1_layOut_L128 (nI t) (nI y) s.1 s.2) FU (nI (tL W T t), M) = some M' ∧ LO K M0 (l ++ tX W T K t y) M' := by
  have hf := hd.t ht
  have hN := hd.N
  have hW := hd.1
  unfold tX at hl ⊢
  exact lo_loop (step := fun s : Int32 × gM => X1_layOut_L128 (nI t) (nI y) s.1 s.2) (fun k M => (nI k, M)) (fun _ l M => LO K M0 l M) (fun x => (List.range' 0 K).map fun s => (x, y, s)) 256 (tL W T t) (tR W T t)
    (fun k M l _ hk hp hl => by
      obtain ⟨M', g1, g2⟩ := lo_pixel (x := k) (y := y) hd g (by omega) hy hp hl
      refine ⟨M', ?_, g2⟩
      show X1_layOut_L128 (nI t) (nI y) (nI k) M = _
      unfold X1_layOut_L128
      rw [(x1_e4 hd (hp.ge g) (by omega)).2.2.1, bind_e, if_neg (nI_ge hk (by omega)), g1, bind_e, gLet_e, nI_1])
    (fun M l hp => by
      show X1_layOut_L128 (nI t) (nI y) (nI (tR W T t)) M = _
      unfold X1_layOut_L128
      rw [(x1_e4 hd (hp.ge g) (by omega)).2.2.1, bind_e, if_pos (nI_le (Nat.le_refl _) (by omega))]) (tR W T t - tL W T t) (tL W T t) FU l M (by omega) (by omega) (FU_gt (by omega)) hl h
theorem lo_tile (hd : dOk W H T K) (g : GE W H T K M0) (ht : t < tN W H T) (h : LO K M0 l M) (hl : l.length + (tS W H T K t).length ≤ 256) : ∃ M', gIter (fun s : Int32 × gM => X1_layOut_L112 (nI t) s.1 s.2) FU (nI (tU W T t), M) = some M' ∧ LO K M0 (l ++ tS W H T K t) M' := by
  have hf := hd.t ht
  have hN := hd.N
  have hH := hd.2.1
  unfold tS at hl ⊢
  exact lo_loop (step := fun s : Int32 × gM => X1_layOut_L112 (nI t) s.1 s.2) (fun k M => (nI k, M)) (fun _ l M => LO K M0 l M) (fun y => tX W T K t y) 256 (tU W T t) (tD W H T t)
    (fun k M l _ hk hp hl => by
      obtain ⟨M', g1, g2⟩ := lo_row (y := k) hd g ht (by omega) hp hl
      have x4 := x1_e4 hd (hp.ge g) (t := t) (by omega)
      refine ⟨M', ?_, g2⟩
      show X1_layOut_L112 (nI t) (nI k) M = _
      unfold X1_layOut_L112
      rw [x4.2.2.2, bind_e, if_neg (nI_ge hk (by omega)), x4.1, bind_e, g1, bind_e, gLet_e, nI_1])
    (fun M l hp => by
      show X1_layOut_L112 (nI t) (nI (tD W H T t)) M = _
      unfold X1_layOut_L112
      rw [(x1_e4 hd (hp.ge g) (by omega)).2.2.2, bind_e, if_pos (nI_le (Nat.le_refl _) (by omega))]) (tD W H T t - tU W T t) (tU W T t) FU l M (by omega) (by omega) (FU_gt (by omega)) hl h
theorem LO.base (h : LO K M0 l M) : LO K M l M := ⟨h.1, h.2.1, h.2.2.1, rfl, fun _ _ _ _ => rfl⟩
theorem LO.w14 (h : LO K M0 l M) (k : Nat) (v : Int32) : LO K (wI M 14 0 k v) l (wI M 14 0 k v) := by
  obtain ⟨h1, h2, h3, h4, h5⟩ := h
  refine ⟨by rw [w_n (by omega)]; exact h1, fun k hk => by rw [w_n (by omega)]; exact h2 k hk, fun a ha => ?_, rfl, fun _ _ _ _ => rfl⟩
  rw [w_n (by omega), w_n (by omega)]
  exact h3 a ha
def LT (W H T K : Nat) (M0 : gM) (k : Nat) (l : List (Nat × Nat × Nat)) (M : gM) : Prop := l = tA W H T K k ∧ LO K M l M ∧ (∀ m, m < k → M.1 14 0 m = nI (fS W H T K m)) ∧ M.2 = M0.2 ∧ ∀ a b c, ¬ ((a = 12 ∧ b = 0 ∧ c = 6) ∨ (b = 0 ∧ 13 ≤ a ∧ a ≤ 16)) → M.1 a b c = M0.1 a b c
theorem LT.ge (g : GE W H T K M0) (h : LT W H T K M0 k l M) : GE W H T K M := by
  have e : ∀ c, c ≠ 6 → M.1 12 0 c = M0.1 12 0 c := fun c hc => h.2.2.2.2 12 0 c (by omega)
  unfold GE
  rw [e 0 (by omega), e 1 (by omega), e 2 (by omega), e 3 (by omega), e 4 (by omega), e 5 (by omega)]
  exact g
theorem lo_all (hd : dOk W H T K) (g : GE W H T K M0) (e6 : M0.1 12 0 6 = 0) : ∃ M', gIter (fun s : Int32 × gM => X1_layOut_L88 s.1 s.2) FU (0, M0) = some M' ∧ LT W H T K M0 (tN W H T) (tA W H T K (tN W H T)) M' := by
  have hN := hd.N
  have hl := tA_len hd
  have hw := whk_le hd
  have ta : (List.range' 0 (tN W H T)).flatMap (fun t => tS W H T K t) = tA W H T K (tN W H T) := by
    unfold tA
    rw [List.range_eq_range']
  obtain ⟨M', e1, e2⟩ := lo_loop (step := fun s : Int32 × gM => X1_layOut_L88 s.1 s.2) (fun k M => (nI k, M)) (LT W H T K M0) (fun t => tS W H T K t) 256 0 (tN W H T)
    (fun k M l _ hk hp hl => by
      have ge := hp.ge g
      obtain ⟨p1, p2, p3, p4, p5⟩ := hp
      have ge' : GE W H T K (wI M 14 0 k (nI l.length)) := by
        unfold GE
        rw [w_n (by omega), w_n (by omega), w_n (by omega), w_n (by omega), w_n (by omega), w_n (by omega)]
        exact ge
      obtain ⟨M', g1, g2⟩ := lo_tile hd ge' hk (p2.w14 k (nI l.length)) hl
      refine ⟨M', ?_, by rw [tA_succ, p1], g2.base, fun m hm => ?_, by rw [g2.2.2.2.1]; exact p4, fun a b c hq => by rw [g2.2.2.2.2 a b c (by omega), w_n (by omega)]; exact p5 a b c hq⟩
      · show X1_layOut_L88 (nI k) M = _
        unfold X1_layOut_L88
        rw [ge.2.2.2.2.2, if_neg (nI_ge hk (by omega)), gG_t (gin_n (k := k) (by omega) (by decide)), nI_clamp (n := k) (by omega), p2.1, gLet_e, (x1_e4 hd ge' (by omega)).2.1, bind_e, g1, bind_e, gLet_e, nI_1]
      · rw [g2.2.2.2.2 14 0 m (by omega)]
        by_cases e : m = k
        · rw [e, w_e, p1]
          rfl
        · rw [w_n (by omega)]
          exact p3 m (by omega))
    (fun M l hp => by
      show X1_layOut_L88 (nI (tN W H T)) M = _
      unfold X1_layOut_L88
      rw [(hp.ge g).2.2.2.2.2, if_pos (nI_le (Nat.le_refl _) (by omega))]) (tN W H T) 0 FU [] M0 (by omega) (by omega) (FU_gt (by omega)) (by rw [ta, hl]; show 0 + W * H * K ≤ 256; omega)
    ⟨rfl, ⟨e6, fun k hk => absurd hk (Nat.not_lt_zero k), fun a ha => absurd ha List.not_mem_nil, rfl, fun _ _ _ _ => rfl⟩, fun m hm => absurd hm (by omega), rfl, fun _ _ _ _ => rfl⟩
  rw [ta, List.nil_append] at e2
  exact ⟨M', e1, e2⟩
theorem x1_lay (hd : dOk W H T K) (e : M.1 5 1 0 = nI W ∧ M.1 5 1 1 = nI H ∧ M.1 5 1 2 = nI T ∧ M.1 5 1 3 = nI K) : ∃ M', X1_layOut 1 M = some M' ∧ GD W H T K M' ∧ GO W H T K M' ∧ GP W H K M' ∧ OQ (fun a b _ => 12 ≤ a ∧ a ≤ 16 ∧ b = 0) M M' := by
  have hN := hd.N
  have hC := hd.C
  have hW := hd.1
  have hH := hd.2.1
  have hT := hd.2.2.1
  have hw := whk_le hd
  have hlen := tA_len hd
  obtain ⟨M9, eM⟩ : ∃ M9, M9 = wI (wI (wI (wI (wI (wI (wI M 12 0 0 (nI W)) 12 0 1 (nI H)) 12 0 2 (nI T)) 12 0 3 (nI K)) 12 0 4 (nI (tC W T))) 12 0 5 (nI (tN W H T))) 12 0 6 0 := ⟨_, rfl⟩
  have m9 : M9.1 12 0 6 = 0 := by rw [eM, w_e]
  have ge : GE W H T K M9 := by
    rw [eM]
    refine ⟨?_, ?_, ?_, ?_, ?_, ?_⟩
    · rw [w_n (by omega), w_n (by omega), w_n (by omega), w_n (by omega), w_n (by omega), w_n (by omega), w_e]
    · rw [w_n (by omega), w_n (by omega), w_n (by omega), w_n (by omega), w_n (by omega), w_e]
    · rw [w_n (by omega), w_n (by omega), w_n (by omega), w_n (by omega), w_e]
    · rw [w_n (by omega), w_n (by omega), w_n (by omega), w_e]
    · rw [w_n (by omega), w_n (by omega), w_e]
    · rw [w_n (by omega), w_e]
  have g9 : ∀ a b c, ¬ (a = 12 ∧ b = 0) → M9.1 a b c = M.1 a b c := fun a b c hq => by
    rw [eM, w_n (by omega), w_n (by omega), w_n (by omega), w_n (by omega), w_n (by omega), w_n (by omega), w_n (by omega)]
  obtain ⟨Z, z1, -, z2, z3, z4, z5⟩ := lo_all hd ge m9
  have geZ : GE W H T K Z := by
    have e : ∀ c, c ≠ 6 → Z.1 12 0 c = M9.1 12 0 c := fun c hc => z5 12 0 c (by omega)
    unfold GE
    rw [e 0 (by omega), e 1 (by omega), e 2 (by omega), e 3 (by omega), e 4 (by omega), e 5 (by omega)]
    exact ge
  have z6 : Z.1 12 0 6 = nI (W * H * K) := by rw [z2.1, hlen]
  refine ⟨wI Z 14 0 (tN W H T) (nI (W * H * K)), ?_, ?_, ⟨fun m hm => ?_, fun k hk => ?_⟩, fun x y s hx hy hs => ?_, ⟨?_, fun a b c hq => ?_⟩⟩
  · have mx : gmax (nI T) 2 = nI T := by rw [nlit 2, nI_max (by omega) (by omega), Nat.max_eq_left hT.1]
    have d1 : (nI W + nI T - 1) / nI T = nI (tC W T) := by
      rw [nI_add, nlit 1, nI_sub (by omega), nI_div (by omega) (by omega)]
      rfl
    have d2 : nI (tC W T) * ((nI H + nI T - 1) / nI T) = nI (tN W H T) := by
      rw [nI_add, nlit 1, nI_sub (by omega), nI_div (by omega) (by omega), nI_mul]
      rfl
    have gT := gd_ne (n := T) (by omega) (by omega)
    unfold X1_layOut
    rw [e.1, gLet_e, w_n (by omega), e.2.1, gLet_e, w_n (by omega), w_n (by omega), e.2.2.1, mx, gLet_e, w_n (by omega), w_n (by omega), w_n (by omega), e.2.2.2, gLet_e]
    rw [w_n (a := 12) (b := 0) (c := 2) (r := 12) (i := 0) (k := 3) (by omega), w_e, gG_t gT, w_n (a := 12) (b := 0) (c := 0) (k := 3) (by omega), w_n (a := 12) (b := 0) (c := 0) (k := 2) (by omega), w_n (a := 12) (b := 0) (c := 0) (k := 1) (by omega), w_e, d1, gLet_e]
    rw [w_n (a := 12) (b := 0) (c := 2) (k := 4) (by omega), w_n (a := 12) (b := 0) (c := 2) (k := 3) (by omega), w_e, gG_t gT, w_e, w_n (a := 12) (b := 0) (c := 1) (k := 4) (by omega), w_n (a := 12) (b := 0) (c := 1) (k := 3) (by omega), w_n (a := 12) (b := 0) (c := 1) (k := 2) (by omega), w_e, d2, gLet_e, gLet_e, ← eM, z1, bind_e, geZ.2.2.2.2.2, gG_t (gin_n (k := tN W H T) (by omega) (by decide)), nI_clamp (n := tN W H T) (by omega), z6, gLet_e]
  · unfold GD
    rw [w_n (by omega), w_n (by omega), w_n (by omega), w_n (by omega), w_n (by omega), w_n (by omega), w_n (by omega)]
    exact ⟨geZ.1, geZ.2.1, geZ.2.2.1, geZ.2.2.2.1, geZ.2.2.2.2.1, geZ.2.2.2.2.2, z6⟩
  · by_cases e : m = tN W H T
    · rw [e, w_e]
      unfold fS
      rw [hlen]
    · rw [w_n (by omega)]
      exact z3 m (by omega)
  · rw [w_n (by omega)]
    exact z2.2.1 k (by rw [hlen]; exact hk)
  · obtain ⟨k, hk, ek⟩ := tA_of (K := K) hd hx hy hs
    have hm := tA_getD hd hk
    rw [ek] at hm
    rw [w_n (by omega), w_n (by omega)]
    exact (z2.2.2.1 (x, y, s) hm).2
  · show Z.2 = M.2
    rw [z4, eM]
    rfl
  · rw [w_n (by omega), z5 a b c (by omega), g9 a b c (by omega)]
end LY
