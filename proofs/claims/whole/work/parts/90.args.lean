/-! arguments; what is pending; how often a triangle is binned -/
theorem arg {p : Int32} {n : Nat} (h0 : ¬ p < 0) (h1 : ¬ nI n ≤ p) (hn : n < 2 ^ 31) : ∃ t, t < n ∧ p = nI t := by
  have a0 := Int32.le_iff_toInt_le.mp (Int32.not_lt.mp h0)
  have a1 := Int32.lt_iff_toInt_lt.mp (Int32.not_le.mp h1)
  have hz : (0 : Int32).toInt = 0 := rfl
  rw [nI_toInt hn] at a1
  refine ⟨p.toInt.toNat, by omega, ?_⟩
  apply Int32.toInt_inj.mp
  rw [nI_toInt (by omega)]
  omega
section AG
variable {n W H T K i j k t tl : Nat} {M M' Mx Mm Mx' Mm' : gM} {p : Int32}
theorem j_has (hs : SCx n W H T K Mx) (hm : MD n W H T K Mm) : (X4_has 1 p Mx = some 0 ∧ X11_isTri p Mm = some 0) ∨ (X4_has 1 p Mx = some 1 ∧ X11_isTri p Mm = some 1 ∧ ∃ t, t < n ∧ p = nI t) := by
  have hn := hs.2.1
  unfold X4_has X11_isTri
  rw [hs.2.2.1.2.2.2.2, hm.1]
  by_cases h0 : p < 0
  · rw [if_pos h0]
    exact Or.inl ⟨rfl, rfl⟩
  · rw [if_neg h0]
    by_cases h1 : nI n ≤ p
    · rw [if_pos h1]
      exact Or.inl ⟨rfl, rfl⟩
    · rw [if_neg h1]
      exact Or.inr ⟨rfl, rfl, arg h0 h1 (by omega)⟩
theorem j_hasT (hs : SCx n W H T K Mx) (hm : MD n W H T K Mm) : (X1_hasTile p Mx = some 0 ∧ X11_isTile p Mm = some 0) ∨ (X1_hasTile p Mx = some 1 ∧ X11_isTile p Mm = some 1 ∧ ∃ t, t < tN W H T ∧ p = nI t) := by
  have hn := hs.2.1
  have hN := hs.1.N
  unfold X1_hasTile X11_isTile
  rw [hs.2.2.2.1.2.2.2.2.2.1, hm.1, x11_all hs.1 hm, bind_e, if_neg (show ¬ nI n ≤ (0 : Int32) from nI_ge (a := 0) (b := n) (by omega) (by omega))]
  by_cases h0 : p < 0
  · rw [if_pos h0]
    exact Or.inl ⟨rfl, rfl⟩
  · rw [if_neg h0]
    by_cases h1 : nI (tN W H T) ≤ p
    · rw [if_pos h1]
      exact Or.inl ⟨rfl, rfl⟩
    · rw [if_neg h1]
      exact Or.inr ⟨rfl, rfl, arg h0 h1 (by omega)⟩
/-- nothing is pending between calls -/
theorem j_pend (hj : j = 8 ∨ j = 9) (h : RJ n W H T K i j Mx Mm) (hP : PN i Mx) (htl : tl < tN W H T) : X1_pendingIn i (nI tl) Mx = some 0 ∧ X11_pendingIn j (nI tl) Mm = some 0 := by
  have hd := h.1.1
  have hN := hd.N
  have hf := hd.t htl
  have go := h.1.2.2.2.2.1
  have fs := h.2.2.2.2.2.1
  have g1 := go_first go hd htl
  have g3 := fS_le (m := tl + 1) hd (by omega)
  have hp : ∀ a ∈ tS W H T K tl, plA a < 256 := fun a ha => by
    have := tS_mem ha
    exact plc_lt hd (x := a.1) (y := a.2.1) (by omega) (by omega) this.2.2
  constructor
  · have ec := c_tileR (σ := Int32 × Int32) hd htl (fun k u => (u, k)) (fun _ => True) (fun p u => gG (gin p 256) (some (if Mx.1 36 i (Int32.toNatClampNeg p) = -1 then u else u + 1))) (fun s => X1_pendingIn_L10 i (nI tl) s.1 s.2 Mx)
      (fun _ _ _ _ _ _ => trivial)
      (fun k u hk _ => by
        have g2 := go_at go hd hk htl
        show X1_pendingIn_L10 i (nI tl) u (nI k) Mx = _
        unfold X1_pendingIn_L10
        rw [gG_t g1.1, g1.2, if_neg (nI_ge hk (by omega)), gG_t (gin_n g2.1 (by decide)), g2.2]
        cases gin (nI (plA ((tA W H T K (tN W H T)).getD k (0, 0, 0)))) 256 with
        | false => rfl
        | true =>
          rw [gG_t rfl, gG_t rfl]
          split <;> rfl)
      (fun u _ => by
        show X1_pendingIn_L10 i (nI tl) u _ Mx = _
        unfold X1_pendingIn_L10
        rw [gG_t g1.1, g1.2, if_pos (nI_le (Nat.le_refl _) (by omega))]) 0 trivial
    obtain ⟨z, hz, ez⟩ := gFM_inv (f := fun (a : Nat × Nat × Nat) (u : Int32) => gG (gin (nI (plA a)) 256) (some (if Mx.1 36 i (Int32.toNatClampNeg (nI (plA a))) = -1 then u else u + 1))) (fun u => u = 0) (tS W H T K tl) (fun a ha u hu => ⟨u, by
      have q := hp a ha
      rw [gG_t (gin_n q (by decide)), nI_clamp (by omega), if_pos (hP _ q)], hu⟩) 0 rfl
    unfold X1_pendingIn
    rw [gG_t (gin_n (by omega) (by decide)), nI_clamp (by omega), go.1 tl (by omega), gLet_e, ec, hz, ez]
    rfl
  · have em := m_tileR (σ := Int32 × Int32) hd htl (fun k u => (u, k)) (fun _ => True) (fun a b c u => (X11_place a b c Mm).bind fun r => gG (gin (512 + r) (gLen 52 j)) (some (if Mm.1 52 j (Int32.toNatClampNeg (512 + r)) = -1 then u + 0 else u + 1))) (fun _ => X11_lowOf (nI tl) Mm) (fun _ => X11_leftOf (nI tl) Mm) (fun _ => X11_rightOf (nI tl) Mm) (fun _ => Mm.1 52 2 3)
      (fun _ _ => x11_low hd h.2.1.1 (by omega)) (fun _ _ => x11_left hd h.2.1.1 (by omega)) (fun _ _ => x11_right hd h.2.1.1 (by omega)) (fun _ _ => h.2.1.1.2.2.2.2)
      (fun _ _ _ _ _ _ _ _ _ _ => trivial)
      (fun s => X11_pendingIn_L9 j (nI tl) s.1 s.2 Mm) (fun y s => X11_pendingIn_L26 j (nI tl) y s.1 s.2 Mm) (fun y a s => X11_pendingIn_L39 j (nI tl) y a s.1 s.2 Mm)
      (fun y x => rfl) (fun y a x => rfl) (fun y a s x => by
        show X11_pendingIn_L39 j (nI tl) y a x s Mm = _
        unfold X11_pendingIn_L39
        by_cases q : Mm.1 52 2 3 ≤ s
        · rw [if_pos q, if_pos q]
        · rw [if_neg q, if_neg q]
          unfold X11_place
          rw [bind_e, bind_e]
          cases gin (512 + (4 * (8 * y + a) + s)) (gLen 52 j) with
          | false => rfl
          | true =>
            rw [gG_t rfl, gG_t rfl]
            split <;> rfl) 0 trivial
    obtain ⟨z, hz, ez⟩ := gFM_inv (f := fun (a : Nat × Nat × Nat) (u : Int32) => (X11_place (nI a.1) (nI a.2.1) (nI a.2.2) Mm).bind fun r => gG (gin (512 + r) (gLen 52 j)) (some (if Mm.1 52 j (Int32.toNatClampNeg (512 + r)) = -1 then u + 0 else u + 1))) (fun u => u = 0) (tS W H T K tl) (fun a ha u hu => ⟨u, by
      have q := hp a ha
      unfold X11_place
      have e5 : (512 : Int32) + nI (plA a) = nI (512 + plA a) := by rw [nlit 512, nI_add]
      rw [bind_e, pl_e, gLen8 hj]
      show gG (gin (512 + nI (plA a)) 1242) (some (if Mm.1 52 j (Int32.toNatClampNeg (512 + nI (plA a))) = -1 then u + 0 else u + 1)) = _
      rw [e5, gG_t (gin_n (n := 1242) (by omega) (by decide)), nI_clamp (by omega), ← (fs (plA a) q).2.2.1, if_pos (hP _ q), Int32.add_zero], hu⟩) 0 rfl
    unfold X11_pendingIn
    rw [x11_top hd h.2.1.1 (by omega), bind_e]
    have := em.trans hz
    rw [this, ez]
    rfl
/-- times in bins -/
theorem j_times (hj : j = 8 ∨ j = 9) (h : RJ n W H T K i j Mx Mm) (p : Int32) : ∃ z, X9_timesInBins i p Mx = some z ∧ X11_timesIn j p Mm = some z := by
  have hd := h.1.1
  have hN := hd.N
  obtain ⟨e, d, g1, g2, g3⟩ := gI2_FU (s1 := fun s => X9_timesInBins_L5 i p s.1 s.2 Mx) (s2 := fun s => X11_timesIn_L5 j p s.1 s.2 Mm) (fun k (z : Int32) => (z, nI k)) (fun k (z : Int32) => (z, nI k)) (fun _ x y => x = y) (fun (x y : Int32) => x = y) 0 (tN W H T) (by omega) (by omega)
    (fun k x y hk hxy => by
      subst hxy
      obtain ⟨b, h1, h2, h3, -, h5⟩ := h.2.2.2.2.2.2.1 k (by omega)
      have e7 : (768 : Int32) + (11 * nI k) = nI (768 + 11 * k) := by rw [nlit 11, nI_mul, nlit 768, nI_add]
      obtain ⟨e, d, q1, q2, q3⟩ := gI2_FU (s1 := fun s => X9_timesInBins_L20 i p (nI k) s.1 s.2 Mx) (s2 := fun s => X11_timesIn_L17 j p (nI k) s.1 s.2 Mm) (fun l (z : Int32) => (z, nI l)) (fun l (z : Int32) => (z, nI (l + 1))) (fun _ x y => x = y) (fun (x y : Int32) => x = y) 0 b (by omega) (by omega)
        (fun l x y hl hxy => by
          subst hxy
          obtain ⟨u, hu, u1, u2⟩ := h5 l hl
          have ie : (nI k * 10) + nI l = nI (10 * k + l) := by rw [nlit 10, nI_mul, nI_add, Nat.mul_comm]
          have je : nI (768 + 11 * k) + nI (l + 1) = nI (768 + 11 * k + 1 + l) := by rw [nI_add]; congr 1; omega
          refine ⟨if nI u = p then x + 1 else x, if nI u = p then x + 1 else x, ?_, ?_, rfl⟩
          · show X9_timesInBins_L20 i p (nI k) x (nI l) Mx = _
            unfold X9_timesInBins_L20
            rw [gG_t (gin_n (k := k) (by omega) (by decide)), nI_clamp (n := k) (by omega), h2, if_neg (nI_ge hl (by omega)), if_neg (show ¬ (10 : Int32) ≤ nI l from nI_ge (a := l) (b := 10) (by omega) (by decide)), ie, gG_t (gin_n (k := 10 * k + l) (by omega) (by decide)), nI_clamp (n := 10 * k + l) (by omega), u1, gLet_e, gLet_e, gLet_e, nI_1]
            split <;> rfl
          · show X11_timesIn_L17 j p (nI k) x (nI (l + 1)) Mm = _
            unfold X11_timesIn_L17
            rw [e7, gLen8 hj, gG_t (gin_n (k := 768 + 11 * k) (by omega) (by decide)), nI_clamp (n := 768 + 11 * k) (by omega), h3, if_neg (fun z => absurd ((nI_ltI (by omega) (by omega)).mp z) (by omega)), je, gG_t (gin_n (k := 768 + 11 * k + 1 + l) (by omega) (by decide)), nI_clamp (n := 768 + 11 * k + 1 + l) (by omega), u2, Int32.add_zero, gLet_e, gLet_e, gLet_e, gLet_e, nI_1]
            split <;> rfl)
        (fun x y hxy => ⟨x, y, by
          show X9_timesInBins_L20 i p (nI k) x (nI b) Mx = _
          unfold X9_timesInBins_L20
          rw [gG_t (gin_n (k := k) (by omega) (by decide)), nI_clamp (n := k) (by omega), h2, if_pos (nI_le (Nat.le_refl _) (by omega))], by
          show X11_timesIn_L17 j p (nI k) y (nI (b + 1)) Mm = _
          unfold X11_timesIn_L17
          rw [e7, gLen8 hj, gG_t (gin_n (k := 768 + 11 * k) (by omega) (by decide)), nI_clamp (n := 768 + 11 * k) (by omega), h3, if_pos ((nI_ltI (by omega) (by omega)).mpr (by omega))], hxy⟩) x x rfl
      subst q3
      refine ⟨e, e, ?_, ?_, rfl⟩
      · show X9_timesInBins_L5 i p x (nI k) Mx = _
        unfold X9_timesInBins_L5
        rw [h.1.2.2.2.1.2.2.2.2.2.1, if_neg (nI_ge hk (by omega))]
        show ((gIter (fun s => X9_timesInBins_L20 i p (nI k) s.1 s.2 Mx) FU (x, nI 0)).bind _) = _
        rw [q1, bind_e, gLet_e, nI_1]
      · show X11_timesIn_L5 j p x (nI k) Mm = _
        unfold X11_timesIn_L5
        rw [x11_all hd h.2.1.1, bind_e, if_neg (nI_ge hk (by omega))]
        show ((gIter (fun s => X11_timesIn_L17 j p (nI k) s.1 s.2 Mm) FU (x, nI (0 + 1))).bind _) = _
        rw [q2, bind_e, gLet_e, nI_1])
    (fun x y hxy => ⟨x, y, by
      show X9_timesInBins_L5 i p x (nI (tN W H T)) Mx = _
      unfold X9_timesInBins_L5
      rw [h.1.2.2.2.1.2.2.2.2.2.1, if_pos (nI_le (Nat.le_refl _) (by omega))], by
      show X11_timesIn_L5 j p y (nI (tN W H T)) Mm = _
      unfold X11_timesIn_L5
      rw [x11_all hd h.2.1.1, bind_e, if_pos (nI_le (Nat.le_refl _) (by omega))], hxy⟩) 0 0 rfl
  subst g3
  refine ⟨e, ?_, ?_⟩
  · unfold X9_timesInBins
    show ((gIter (fun s => X9_timesInBins_L5 i p s.1 s.2 Mx) FU (0, nI 0)).bind _) = _
    rw [g1]
    rfl
  · unfold X11_timesIn
    show ((gIter (fun s => X11_timesIn_L5 j p s.1 s.2 Mm) FU (0, nI 0)).bind _) = _
    rw [g2]
    rfl
end AG
