/-! the reference's tiles touched -/
section TC
variable {n W H T K i j k t tl : Nat} {M M' Mx Mm Mx' Mm' : gM}
theorem x11_aside {a b c lo hi : Int32} (hi' : i = 12 ∨ i = 13) (ha : M.1 52 i 0 = a) (hb : M.1 52 i 1 = b) (hc : M.1 52 i 2 = c) : X11_isAside i lo hi M = some (if bsd a b c lo hi = true then 1 else 0) := by
  have g3 : gLen 52 i = 3 := by rcases hi' with rfl | rfl <;> rfl
  have c0 : Int32.toNatClampNeg 0 = 0 := by decide
  have c1 : Int32.toNatClampNeg 1 = 1 := by decide
  have c2 : Int32.toNatClampNeg 2 = 2 := by decide
  have q : X11_isAside_J25 i hi M = some (if (decide (hi < a) && (decide (hi < b) && decide (hi < c))) = true then 1 else 0) := by
    unfold X11_isAside_J25 X11_isAside_J26
    rw [if_pos rfl, g3, gG_t (by decide), c0, c1, c2, ha, hb, hc]
    by_cases h1 : a ≤ hi
    · rw [if_pos h1, decide_eq_false (Int32.not_lt.mpr h1), Bool.false_and]
      rfl
    · rw [if_neg h1, gG_t (by decide), decide_eq_true (Int32.not_le.mp h1), Bool.true_and]
      by_cases h2 : b ≤ hi
      · rw [if_pos h2, decide_eq_false (Int32.not_lt.mpr h2), Bool.false_and]
        rfl
      · rw [if_neg h2, gG_t (by decide), decide_eq_true (Int32.not_le.mp h2), Bool.true_and]
        by_cases h3 : c ≤ hi
        · rw [if_pos h3, decide_eq_false (Int32.not_lt.mpr h3)]
          rfl
        · rw [if_neg h3, decide_eq_true (Int32.not_le.mp h3)]
          rfl
  unfold X11_isAside bsd
  rw [q, g3, gG_t (by decide), c0, c1, c2, ha, hb, hc]
  by_cases h1 : lo ≤ a
  · rw [if_pos h1, decide_eq_false (Int32.not_lt.mpr h1), Bool.false_and, Bool.false_or]
  · rw [if_neg h1, gG_t (by decide), decide_eq_true (Int32.not_le.mp h1), Bool.true_and]
    by_cases h2 : lo ≤ b
    · rw [if_pos h2, decide_eq_false (Int32.not_lt.mpr h2), Bool.false_and, Bool.false_or]
    · rw [if_neg h2, gG_t (by decide), decide_eq_true (Int32.not_le.mp h2), Bool.true_and]
      by_cases h3 : lo ≤ c
      · rw [if_pos h3, decide_eq_false (Int32.not_lt.mpr h3), Bool.false_or]
      · rw [if_neg h3, decide_eq_true (Int32.not_le.mp h3), Bool.true_or]
        rfl
theorem bsd_sw (a b c lo hi : Int32) : bsd a c b lo hi = bsd a b c lo hi := by
  unfold bsd
  rw [Bool.and_comm (decide (c < lo)), Bool.and_comm (decide (hi < c))]
theorem bsd_x (τ : Nat → Int32) (lo hi : Int32) : bsd (tx τ 0) (tx τ 1) (tx τ 2) lo hi = bsd (τ 0) (τ 2) (τ 4) lo hi ∧ bsd (ty τ 0) (ty τ 1) (ty τ 2) lo hi = bsd (τ 1) (τ 3) (τ 5) lo hi := by
  unfold tx ty
  by_cases hc : trA τ < 0
  · have p0 : trP τ 0 = 0 := by unfold trP; rw [if_pos hc]; rfl
    have p1 : trP τ 1 = 2 := by unfold trP; rw [if_pos hc]; rfl
    have p2 : trP τ 2 = 1 := by unfold trP; rw [if_pos hc]; rfl
    rw [p0, p1, p2]
    exact ⟨bsd_sw _ _ _ _ _, bsd_sw _ _ _ _ _⟩
  · have p0 : trP τ 0 = 0 := by unfold trP; rw [if_neg hc]
    have p1 : trP τ 1 = 1 := by unfold trP; rw [if_neg hc]
    have p2 : trP τ 2 = 2 := by unfold trP; rw [if_neg hc]
    rw [p0, p1, p2]
    exact ⟨rfl, rfl⟩
theorem x11_out1 {e : Nat} {τ ζ : Nat → Int32} {cu : Int32} (h : AK τ ζ cu M) (he : e < 3) (l r u d : Int32) : X11_touches_L76 l r u d (nI e) M = if o4 τ e l r u d = true then some (.inr (.inl ())) else some (.inl (nI (e + 1))) := by
  have hk : ∀ k, k < 3 → M.1 52 12 k = tx τ k ∧ M.1 52 13 k = ty τ k := fun k hk => ⟨(h.1 k hk).1, (h.1 k hk).2.1⟩
  have s : ∀ px py, X11_sum (nI e) px py M = some (trS τ e px py) := fun px py => x11_sum (ζ := ζ) (cu := cu) hk he px py
  unfold X11_touches_L76
  rw [nlit 3, if_neg (nI_ge he (by decide)), s, bind_e, s, bind_e, s, bind_e, s, bind_e, gLet_e, nI_1]
  unfold o4
  by_cases h1 : 0 ≤ trS τ e l u
  · rw [if_pos h1, if_neg]
    simp only [Bool.and_eq_true, decide_eq_true_eq]
    exact fun z => Int32.not_lt.mpr h1 z.1.1
  · rw [if_neg h1, decide_eq_true (Int32.not_le.mp h1), Bool.true_and]
    by_cases h2 : 0 ≤ trS τ e r u
    · rw [if_pos h2, if_neg]
      simp only [Bool.and_eq_true, decide_eq_true_eq]
      exact fun z => Int32.not_lt.mpr h2 z.1
    · rw [if_neg h2, decide_eq_true (Int32.not_le.mp h2), Bool.true_and]
      by_cases h3 : 0 ≤ trS τ e l d
      · rw [if_pos h3, if_neg]
        simp only [Bool.and_eq_true, decide_eq_true_eq]
        exact fun z => Int32.not_lt.mpr h3 z.1
      · rw [if_neg h3, decide_eq_true (Int32.not_le.mp h3), Bool.true_and]
        by_cases h4 : 0 ≤ trS τ e r d
        · rw [if_pos h4, if_neg]
          simp only [decide_eq_true_eq]
          exact fun z => Int32.not_lt.mpr h4 z
        · rw [if_neg h4, decide_eq_true (Int32.not_le.mp h4), if_pos rfl]
theorem x11_out {τ ζ : Nat → Int32} {cu : Int32} (h : AK τ ζ cu M) (l r u d : Int32) : (gIter (fun s => X11_touches_L76 l r u d s M) FU 0).bind (gS2 (fun _ => some 0) (fun _ => some 1)) = some (if outs τ l r u d = true then (0 : Int32) else 1) := by
  have s3 : X11_touches_L76 l r u d (nI 3) M = some (.inr (.inr ())) := by
    unfold X11_touches_L76
    rw [nlit 3, if_pos (nI_le (Nat.le_refl 3) (by decide))]
  have s0 := x11_out1 h (e := 0) (by decide) l r u d
  have s1 := x11_out1 h (e := 1) (by decide) l r u d
  have s2 := x11_out1 h (e := 2) (by decide) l r u d
  unfold outs
  show (gIter (fun s => X11_touches_L76 l r u d s M) FU (nI 0)).bind _ = _
  cases h0 : o4 τ 0 l r u d with
  | true =>
    rw [h0, if_pos rfl] at s0
    rw [FU5 (gIt_x (step := fun s => X11_touches_L76 l r u d s M) s0)]
    rfl
  | false =>
    rw [h0, if_neg (by decide)] at s0
    cases h1 : o4 τ 1 l r u d with
    | true =>
      rw [h1, if_pos rfl] at s1
      rw [FU5 (gIt_s (step := fun s => X11_touches_L76 l r u d s M) s0 (gIt_x s1))]
      rfl
    | false =>
      rw [h1, if_neg (by decide)] at s1
      cases h2 : o4 τ 2 l r u d with
      | true =>
        rw [h2, if_pos rfl] at s2
        rw [FU5 (gIt_s (step := fun s => X11_touches_L76 l r u d s M) s0 (gIt_s s1 (gIt_x s2)))]
        rfl
      | false =>
        rw [h2, if_neg (by decide)] at s2
        rw [FU5 (gIt_s (step := fun s => X11_touches_L76 l r u d s M) s0 (gIt_s s1 (gIt_s s2 (gIt_x s3))))]
        rfl
theorem x11_touches {τ ζ : Nat → Int32} {cu : Int32} (hd : dOk W H T K) (g : MD n W H T K M) (h : AK τ ζ cu M) (ht : t < tN W H T) : X11_touches (nI t) M = some (if (!cul (trA τ) cu && trT W H T τ t) = true then 1 else 0) := by
  have hN := hd.N
  have a12 := x11_aside (M := M) (lo := nI (8 * tL W T t)) (hi := nI (8 * tR W T t)) (i := 12) (Or.inl rfl) ((h.1 0 (by decide)).1) ((h.1 1 (by decide)).1) ((h.1 2 (by decide)).1)
  have a13 := x11_aside (M := M) (lo := nI (8 * tU W T t)) (hi := nI (8 * tD W H T t)) (i := 13) (Or.inr rfl) ((h.1 0 (by decide)).2.1) ((h.1 1 (by decide)).2.1) ((h.1 2 (by decide)).2.1)
  rw [(bsd_x τ _ _).1] at a12
  rw [(bsd_x τ _ _).2] at a13
  unfold X11_touches
  rw [x11_left hd g (by omega), bind_e, gLet_e, x11_right hd g (by omega), bind_e, gLet_e, x11_top hd g (by omega), bind_e, gLet_e, x11_low hd g (by omega), bind_e, gLet_e, nlit 8, nI_mul, nI_mul, nI_mul, nI_mul, h.2.2]
  unfold trT
  cases hc : cul (trA τ) cu with
  | true =>
    rw [if_pos rfl, if_neg (by decide), Bool.not_true, Bool.false_and]
    rfl
  | false =>
    rw [if_pos (by decide), Bool.not_false, Bool.true_and, decide_eq_true (cul_A hc), Bool.true_and, a12, bind_e]
    cases h1 : bsd (τ 0) (τ 2) (τ 4) (nI (8 * tL W T t)) (nI (8 * tR W T t)) with
    | true => rfl
    | false =>
      rw [if_pos (by decide), a13, bind_e]
      cases h2 : bsd (τ 1) (τ 3) (τ 5) (nI (8 * tU W T t)) (nI (8 * tD W H T t)) with
      | true => rfl
      | false =>
        rw [if_pos (by decide), x11_out h]
        cases outs τ (nI (8 * tL W T t)) (nI (8 * tR W T t)) (nI (8 * tU W T t)) (nI (8 * tD W H T t)) <;> rfl
theorem x11_bits {τ ζ : Nat → Int32} {cu : Int32} (hd : dOk W H T K) (g : MD n W H T K M) (h : AK τ ζ cu M) : gIter (fun s => X11_touched_L11 s.1 s.2 M) FU (0, 0) = some (if cul (trA τ) cu = true then 0 else bts (trT W H T τ) (tN W H T)) := by
  have hN := hd.N
  obtain ⟨e, h1, h2⟩ := gI1_FU (step := fun s => X11_touched_L11 s.1 s.2 M) (fun k (z : Int32) => (z, nI k)) (fun k z => z = if cul (trA τ) cu = true then 0 else bts (trT W H T τ) k) (fun z => z = if cul (trA τ) cu = true then 0 else bts (trT W H T τ) (tN W H T)) 0 (tN W H T) (by omega) (by omega)
    (fun k z hk hz => by
      show ∃ x', X11_touched_L11 z (nI k) M = _ ∧ _
      unfold X11_touched_L11
      rw [x11_all hd g, bind_e, if_neg (nI_ge hk (by omega)), x11_touches hd g h hk, bind_e, Int32.or_zero, gLet_e, gLet_e, gLet_e, gLet_e, nI_1]
      cases hc : cul (trA τ) cu with
      | true =>
        rw [hc, if_pos rfl] at hz
        refine ⟨z, ?_, ?_⟩
        · rw [Bool.not_true, Bool.false_and, if_pos (by decide)]
        · rw [hz, if_pos rfl]
      | false =>
        rw [hc, if_neg (by decide)] at hz
        rw [Bool.not_false, Bool.true_and]
        cases hb : trT W H T τ k with
        | true =>
          refine ⟨z ||| (1 <<< (nI k &&& 31)), ?_, ?_⟩
          · rw [if_neg (by decide)]
          · rw [if_neg (by decide), hz]
            show _ = if trT W H T τ k = true then _ else _
            rw [hb, if_pos rfl]
        | false =>
          refine ⟨z, ?_, ?_⟩
          · rw [if_pos (by decide)]
          · rw [if_neg (by decide), hz]
            show _ = if trT W H T τ k = true then _ else _
            rw [hb, if_neg (by decide)])
    (fun z hz => ⟨z, by
      show X11_touched_L11 z (nI (tN W H T)) M = _
      unfold X11_touched_L11
      rw [x11_all hd g, bind_e, if_pos (nI_le (Nat.le_refl _) (by omega))], hz⟩) 0 (by
        show (0 : Int32) = if _ then 0 else 0
        rw [ite_self])
  rw [← h2]
  exact h1
theorem j_touched (hj : j = 8 ∨ j = 9) (h : RJ n W H T K i j Mx Mm) (ht : t < n) : ∃ z M', X9_touchedBy i (nI t) Mx = some z ∧ X11_touched j (nI t) Mm = some (z, M') ∧ SameA Mm M' ∧ RJ n W H T K i j Mx M' ∧ akO i t Mx M' ∧ z = if cul (trA (ct Mx i t)) (Mx.1 40 i 0) = true then 0 else bts (trT W H T (ct Mx i t)) (tN W H T) := by
  have hn := h.1.2.1
  obtain ⟨M7, e7, a7, s7⟩ := x11_asksR h.2.1 (by omega) h.2.2.2.1 h.2.2.2.2.1 hj ht
  have h7 := h.ask hj s7
  refine ⟨_, M7, x9_touched h.1 h.2.2.1 ht i, ?_, s7, h7, a7, rfl⟩
  unfold X11_touched
  rw [e7, bind_e, x11_bits h.1.1 h7.2.1.1 a7]
  rfl
end TC
