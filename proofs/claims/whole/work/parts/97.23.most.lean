/-! most -/
theorem twin {s1 s2 : Int32 × Int32 → Option ((Int32 × Int32) ⊕ Int32)} (k0 b : Nat) (hk : k0 ≤ b) (hb : b < 5000) (P : Nat → Int32 → Prop) (a0 : Int32) (h0 : P k0 a0)
    (hs : ∀ k a, k < b → P k a → ∃ a', s1 (a, nI k) = some (.inl (a', nI (k + 1))) ∧ s2 (a, nI k) = some (.inl (a', nI (k + 1))) ∧ P (k + 1) a') (he : ∀ a, P b a → s1 (a, nI b) = some (.inr a) ∧ s2 (a, nI b) = some (.inr a)) : ∃ v, gIter s1 FU (a0, nI k0) = some v ∧ gIter s2 FU (a0, nI k0) = some v ∧ P b v := by
  obtain ⟨e, d, e1, e2, rfl, e4⟩ := gI2_FU (s1 := s1) (s2 := s2) (fun k (u : Int32) => (u, nI k)) (fun k (u : Int32) => (u, nI k)) (fun k a b => a = b ∧ P k a) (fun x y => x = y ∧ P b x) k0 b hk hb
    (fun k x y hk hR => by
      obtain ⟨rfl, hp⟩ := hR
      obtain ⟨a', g1, g2, g3⟩ := hs k x hk hp
      exact ⟨a', a', g1, g2, rfl, g3⟩)
    (fun x y hR => by
      obtain ⟨rfl, hp⟩ := hR
      exact ⟨x, x, (he x hp).1, (he x hp).2, rfl, hp⟩) a0 a0 ⟨rfl, h0⟩
  exact ⟨e, e1, e2, e4⟩
section MO
variable {n W H T K i j k t m nf nf' q q' : Nat} {M M' Mx Mm Mx' Mm' X Y Y' : gM} {p v r : Int32}
theorem lcmp0 (x : Int64) : lg_cmp x 0 = 0 ↔ x = 0 := by
  constructor
  · intro h
    have h1 : ¬ x < 0 := fun z => by
      have := (lg_cmp_lt _ _).mpr z
      rw [h] at this
      exact absurd this (by decide)
    have h2 : ¬ 0 < x := fun z => by
      have := (lg_cmp_gt _ _).mpr z
      rw [h] at this
      exact absurd this (by decide)
    rw [Int64.lt_iff_toInt_lt] at h1 h2
    exact Int64.toInt_inj.mp (by omega)
  · intro h
    rw [h]
    exact lcmp_self 0
theorem pc_0 (k n : Nat) (h : pc k n = 0) (hn : n < 2 ^ k) : n = 0 := by
  induction k generalizing n with
  | zero => simpa using hn
  | succ k ih =>
    have h' : n % 2 + pc k (n / 2) = 0 := h
    have := ih (n / 2) (by omega) (by rw [Nat.pow_succ] at hn; omega)
    omega
theorem pc_z (k : Nat) : pc k 0 = 0 := by
  induction k with
  | zero => rfl
  | succ k ih => show 0 % 2 + pc k (0 / 2) = 0; rw [Nat.zero_div, ih]
theorem u64_0 (x : Int64) : pc 64 (u64 x) = 0 ↔ x = 0 := by
  constructor
  · intro h
    have h1 := pc_0 64 (u64 x) h x.toBitVec.isLt
    apply Int64.toBitVec_inj.1
    apply BitVec.eq_of_toNat_eq
    exact h1
  · intro h
    rw [h]
    exact pc_z 64
theorem j_pendA (h : SN m nf n W H T K Mx Mm) : ∃ v, X9_pendingInAll 0 Mx = some v ∧ X11_pendingAll Mm = some v := by
  have hd := h.1.1.1
  have hN := hd.N
  obtain ⟨v, e1, e2, -⟩ := twin (s1 := fun s => X9_pendingInAll_L4 0 s.1 s.2 Mx) (s2 := fun s => X11_pendingAll_L4 s.1 s.2 Mm) 0 (tN W H T) (by omega) (by omega) (fun _ _ => True) 0 trivial
    (fun k a hk _ => by
      obtain ⟨f1, f2⟩ := j_pend (Or.inl rfl) h.1 h.2.1 hk
      refine ⟨a + 0, ?_, ?_, trivial⟩
      · show X9_pendingInAll_L4 0 a (nI k) Mx = _
        unfold X9_pendingInAll_L4
        rw [h.1.1.2.2.2.1.2.2.2.2.2.1, if_neg (nI_ge hk (by omega)), f1, bind_e, gLet_e, gLet_e, nI_1]
      · show X11_pendingAll_L4 a (nI k) Mm = _
        unfold X11_pendingAll_L4
        rw [x11_all hd h.1.2.1.1, bind_e, if_neg (nI_ge hk (by omega)), f2, bind_e, gLet_e, gLet_e, nI_1])
    (fun a _ => by
      refine ⟨?_, ?_⟩
      · show X9_pendingInAll_L4 0 a (nI (tN W H T)) Mx = _
        unfold X9_pendingInAll_L4
        rw [h.1.1.2.2.2.1.2.2.2.2.2.1, if_pos (nI_le (Nat.le_refl _) (by omega))]
      · show X11_pendingAll_L4 a (nI (tN W H T)) Mm = _
        unfold X11_pendingAll_L4
        rw [x11_all hd h.1.2.1.1, bind_e, if_pos (nI_le (Nat.le_refl _) (by omega))])
  have e1 : gIter (fun s => X9_pendingInAll_L4 0 s.1 s.2 Mx) FU (0, 0) = some v := e1
  have e2 : gIter (fun s => X11_pendingAll_L4 s.1 s.2 Mm) FU (0, 0) = some v := e2
  refine ⟨v, ?_, ?_⟩
  · unfold X9_pendingInAll
    rw [e1]
    rfl
  · unfold X11_pendingAll
    rw [e2]
    rfl
theorem j_hid (h : RJ n W H T K 2 9 Mx Mm) : ∃ v, gIter (fun s => X7_hidesOf_L16 s.1 s.2 Mx) FU (0, 0) = some v ∧ gIter (fun s => X11_hides_L17 s.1 s.2 Mm) FU (0, 0) = some v := by
  have hn := h.1.2.1
  obtain ⟨v, e1, e2, -⟩ := twin (s1 := fun s => X7_hidesOf_L16 s.1 s.2 Mx) (s2 := fun s => X11_hides_L17 s.1 s.2 Mm) 0 n (by omega) (by omega) (fun _ _ => True) 0 trivial
    (fun k a hk _ => by
      have fl := h.2.2.2.2.2.2.2.1 k hk
      have hb := pc_le 64 (u64 (Mx.2 41 2 k))
      by_cases hz : Mx.2 41 2 k = 0
      · refine ⟨a ||| (1 <<< (nI k &&& 31)), ?_, ?_, trivial⟩
        · show X7_hidesOf_L16 a (nI k) Mx = _
          unfold X7_hidesOf_L16
          rw [h.1.2.2.1.2.2.2.2, if_neg (nI_ge hk (by omega)), gG_t (gin_n (k := k) (by omega) (by decide)), nI_clamp (by omega), if_pos ((lcmp0 _).mpr hz), gLet_e, gLet_e, nI_1]
        · show X11_hides_L17 a (nI k) Mm = _
          unfold X11_hides_L17
          rw [h.2.1.1.1, if_neg (nI_ge hk (by omega)), x11_lit (Or.inr rfl) (by omega), ← fl, (u64_0 _).mpr hz, bind_e, if_pos (show nI 0 = (0 : Int32) from rfl), gLet_e, gLet_e, nI_1]
      · refine ⟨a, ?_, ?_, trivial⟩
        · show X7_hidesOf_L16 a (nI k) Mx = _
          unfold X7_hidesOf_L16
          rw [h.1.2.2.1.2.2.2.2, if_neg (nI_ge hk (by omega)), gG_t (gin_n (k := k) (by omega) (by decide)), nI_clamp (by omega), if_neg (fun z => hz ((lcmp0 _).mp z)), gLet_e, nI_1]
        · show X11_hides_L17 a (nI k) Mm = _
          unfold X11_hides_L17
          have hp : 0 < pc 64 (u64 (Mx.2 41 2 k)) := Nat.pos_of_ne_zero fun z => hz ((u64_0 _).mp z)
          rw [h.2.1.1.1, if_neg (nI_ge hk (by omega)), x11_lit (Or.inr rfl) (by omega), ← fl, bind_e, if_neg (nI_ne0 hp (by omega)), gLet_e, gLet_e, nI_1, Int32.or_zero])
    (fun a _ => by
      refine ⟨?_, ?_⟩
      · show X7_hidesOf_L16 a (nI n) Mx = _
        unfold X7_hidesOf_L16
        rw [h.1.2.2.1.2.2.2.2, if_pos (nI_le (Nat.le_refl _) (by omega))]
      · show X11_hides_L17 a (nI n) Mm = _
        unfold X11_hides_L17
        rw [h.2.1.1.1, if_pos (nI_le (Nat.le_refl _) (by omega))])
  exact ⟨v, e1, e2⟩
theorem j_culO (h : SN m nf n W H T K Mx Mm) : ∃ v Y, X9_culledOnes 0 Mx = some v ∧ X11_culledOnes Mm = some (v, Y) ∧ SameA Mm Y := by
  have hn := h.1.1.2.1
  obtain ⟨e, d, e1, e2, e3, e4⟩ := gI2_FU (s1 := fun s : Int32 × Int32 => X9_culledOnes_L4 0 s.1 s.2 Mx) (s2 := fun s : Int32 × Int32 × gM => X11_culledOnes_L4 s.1 s.2.1 s.2.2) (fun k (u : Int32) => (u, nI k)) (fun k (u : Int32 × gM) => (u.1, nI k, u.2)) (fun _ a b => a = b.1 ∧ SameA Mm b.2) (fun a b => a = b.1 ∧ SameA Mm b.2) 0 n (by omega) (by omega)
    (fun k a b hk hR => by
      obtain ⟨a1, b⟩ := b
      obtain ⟨rfl, hs⟩ := hR
      have hs : SameA Mm b := hs
      obtain ⟨Z, z1, z2, z3⟩ := (h.ask hs).asks hk
      have cc := x9_cull h.1.1 h.1.2.2.1 hk 0
      have z4 := z2.2.2
      cases hcu : cul (trA (ct Mx 0 k)) (Mx.1 40 0 0) with
      | true =>
        rw [hcu] at cc z4
        refine ⟨a ||| (1 <<< (nI k &&& 31)), (a ||| (1 <<< (nI k &&& 31)), Z), ?_, ?_, rfl, hs.tr z3⟩
        · show X9_culledOnes_L4 0 a (nI k) Mx = _
          unfold X9_culledOnes_L4
          rw [h.1.1.2.2.1.2.2.2.2, if_neg (nI_ge hk (by omega)), cc, bind_e, if_neg (by decide), gLet_e, gLet_e, nI_1]
        · show X11_culledOnes_L4 a (nI k) b = _
          unfold X11_culledOnes_L4
          rw [(hs.md h.1.2.1.1).1, if_neg (nI_ge hk (by omega)), z1, bind_e, z4, if_neg (by decide), gLet_e, gLet_e, nI_1]
      | false =>
        rw [hcu] at cc z4
        refine ⟨a, (a, Z), ?_, ?_, rfl, hs.tr z3⟩
        · show X9_culledOnes_L4 0 a (nI k) Mx = _
          unfold X9_culledOnes_L4
          rw [h.1.1.2.2.1.2.2.2.2, if_neg (nI_ge hk (by omega)), cc, bind_e, if_pos (by decide), gLet_e, nI_1]
        · show X11_culledOnes_L4 a (nI k) b = _
          unfold X11_culledOnes_L4
          rw [(hs.md h.1.2.1.1).1, if_neg (nI_ge hk (by omega)), z1, bind_e, z4, if_pos (by decide), gLet_e, gLet_e, nI_1, Int32.or_zero])
    (fun a b hR => by
      obtain ⟨a1, b⟩ := b
      obtain ⟨rfl, hs⟩ := hR
      have hs : SameA Mm b := hs
      refine ⟨a, (a, b), ?_, ?_, rfl, hs⟩
      · show X9_culledOnes_L4 0 a (nI n) Mx = _
        unfold X9_culledOnes_L4
        rw [h.1.1.2.2.1.2.2.2.2, if_pos (nI_le (Nat.le_refl _) (by omega))]
      · show X11_culledOnes_L4 a (nI n) b = _
        unfold X11_culledOnes_L4
        rw [(hs.md h.1.2.1.1).1, if_pos (nI_le (Nat.le_refl _) (by omega))])
    0 (0, Mm) ⟨rfl, SameA.rf Mm⟩
  obtain ⟨d1, d2⟩ := d
  have e1 : gIter (fun s : Int32 × Int32 => X9_culledOnes_L4 0 s.1 s.2 Mx) FU (0, 0) = some e := e1
  have e2 : gIter (fun s : Int32 × Int32 × gM => X11_culledOnes_L4 s.1 s.2.1 s.2.2) FU (0, 0, Mm) = some (d1, d2) := e2
  have e3 : e = d1 := e3
  subst e3
  refine ⟨e, d2, ?_, ?_, e4⟩
  · unfold X9_culledOnes
    rw [e1]
    rfl
  · unfold X11_culledOnes
    rw [e2]
    rfl
theorem j_full (h : SN m nf n W H T K Mx Mm) : ∃ v, X9_fullestTile 0 Mx = some v ∧ X11_fullest Mm = some v := by
  have hd := h.1.1.1
  have hN := hd.N
  have fb := h.1.2.2.2.2.2.2.1
  obtain ⟨v, e1, e2, -⟩ := twin (s1 := fun s => X9_fullestTile_L4 0 s.1 s.2 Mx) (s2 := fun s => X11_fullest_L4 s.1 s.2 Mm) 1 (tN W H T) (by omega) (by omega) (fun _ a => ∃ u, u < tN W H T ∧ a = nI u) 0 ⟨0, by omega, rfl⟩
    (fun k a hk hp => by
      obtain ⟨u, hu, rfl⟩ := hp
      obtain ⟨b, hb, b2, b3, -, -⟩ := fb k (by omega)
      obtain ⟨c, hc, c2, c3, -, -⟩ := fb u (by omega)
      have e7 : ∀ t, (768 : Int32) + (11 * nI t) = nI (768 + 11 * t) := fun t => by rw [nlit 11, nI_mul, nlit 768, nI_add]
      by_cases hz : nI b ≤ nI c
      · refine ⟨nI u, ?_, ?_, u, hu, rfl⟩
        · show X9_fullestTile_L4 0 (nI u) (nI k) Mx = _
          unfold X9_fullestTile_L4
          rw [h.1.1.2.2.2.1.2.2.2.2.2.1, if_neg (nI_ge hk (by omega)), gG_t (gin_n (k := k) (by omega) (by decide)), gG_t (gin_n (k := u) (by omega) (by decide)), nI_clamp (n := k) (by omega), nI_clamp (n := u) (by omega), b2, c2, if_pos hz, gLet_e, nI_1]
        · show X11_fullest_L4 (nI u) (nI k) Mm = _
          unfold X11_fullest_L4
          rw [x11_all hd h.1.2.1.1, bind_e, if_neg (nI_ge hk (by omega)), e7, e7, gG_t (gin_n (k := 768 + 11 * k) (by omega) (by decide)), gG_t (gin_n (k := 768 + 11 * u) (by omega) (by decide)), nI_clamp (n := 768 + 11 * k) (by omega), nI_clamp (n := 768 + 11 * u) (by omega), b3, c3, if_pos hz, gLet_e, nI_1]
      · refine ⟨nI k, ?_, ?_, k, hk, rfl⟩
        · show X9_fullestTile_L4 0 (nI u) (nI k) Mx = _
          unfold X9_fullestTile_L4
          rw [h.1.1.2.2.2.1.2.2.2.2.2.1, if_neg (nI_ge hk (by omega)), gG_t (gin_n (k := k) (by omega) (by decide)), gG_t (gin_n (k := u) (by omega) (by decide)), nI_clamp (n := k) (by omega), nI_clamp (n := u) (by omega), b2, c2, if_neg hz, gLet_e, nI_1]
        · show X11_fullest_L4 (nI u) (nI k) Mm = _
          unfold X11_fullest_L4
          rw [x11_all hd h.1.2.1.1, bind_e, if_neg (nI_ge hk (by omega)), e7, e7, gG_t (gin_n (k := 768 + 11 * k) (by omega) (by decide)), gG_t (gin_n (k := 768 + 11 * u) (by omega) (by decide)), nI_clamp (n := 768 + 11 * k) (by omega), nI_clamp (n := 768 + 11 * u) (by omega), b3, c3, if_neg hz, gLet_e, nI_1])
    (fun a _ => by
      refine ⟨?_, ?_⟩
      · show X9_fullestTile_L4 0 a (nI (tN W H T)) Mx = _
        unfold X9_fullestTile_L4
        rw [h.1.1.2.2.2.1.2.2.2.2.2.1, if_pos (nI_le (Nat.le_refl _) (by omega))]
      · show X11_fullest_L4 a (nI (tN W H T)) Mm = _
        unfold X11_fullest_L4
        rw [x11_all hd h.1.2.1.1, bind_e, if_pos (nI_le (Nat.le_refl _) (by omega))])
  have e1 : gIter (fun s => X9_fullestTile_L4 0 s.1 s.2 Mx) FU (0, 1) = some v := e1
  have e2 : gIter (fun s => X11_fullest_L4 s.1 s.2 Mm) FU (0, 1) = some v := e2
  refine ⟨v, ?_, ?_⟩
  · unfold X9_fullestTile
    rw [e1]
    rfl
  · unfold X11_fullest
    rw [e2]
    rfl
theorem j_binO (h : SN m nf n W H T K Mx Mm) : ∃ v, X9_binnedOnes 0 Mx = some v ∧ X11_binnedOnes Mm = some v := by
  have hn := h.1.1.2.1
  obtain ⟨v, e1, e2, -⟩ := twin (s1 := fun s => X9_binnedOnes_L4 0 s.1 s.2 Mx) (s2 := fun s => X11_binnedOnes_L4 s.1 s.2 Mm) 0 n (by omega) (by omega) (fun _ _ => True) 0 trivial
    (fun k a hk _ => by
      obtain ⟨z, z1, z2⟩ := j_times (Or.inl rfl) h.1 (nI k)
      by_cases hz : z ≤ 0
      · refine ⟨a, ?_, ?_, trivial⟩
        · show X9_binnedOnes_L4 0 a (nI k) Mx = _
          unfold X9_binnedOnes_L4
          rw [h.1.1.2.2.1.2.2.2.2, if_neg (nI_ge hk (by omega)), z1, bind_e, if_pos hz, gLet_e, nI_1]
        · show X11_binnedOnes_L4 a (nI k) Mm = _
          unfold X11_binnedOnes_L4 X11_isBinned
          rw [h.1.2.1.1.1, if_neg (nI_ge hk (by omega)), z2, bind_e, if_pos hz, bind_e, if_pos rfl, gLet_e, gLet_e, nI_1, Int32.or_zero]
      · refine ⟨a ||| (1 <<< (nI k &&& 31)), ?_, ?_, trivial⟩
        · show X9_binnedOnes_L4 0 a (nI k) Mx = _
          unfold X9_binnedOnes_L4
          rw [h.1.1.2.2.1.2.2.2.2, if_neg (nI_ge hk (by omega)), z1, bind_e, if_neg hz, gLet_e, gLet_e, nI_1]
        · show X11_binnedOnes_L4 a (nI k) Mm = _
          unfold X11_binnedOnes_L4 X11_isBinned
          rw [h.1.2.1.1.1, if_neg (nI_ge hk (by omega)), z2, bind_e, if_neg hz, bind_e, if_neg (show ¬ (1 : Int32) = 0 by decide), gLet_e, gLet_e, nI_1])
    (fun a _ => by
      refine ⟨?_, ?_⟩
      · show X9_binnedOnes_L4 0 a (nI n) Mx = _
        unfold X9_binnedOnes_L4
        rw [h.1.1.2.2.1.2.2.2.2, if_pos (nI_le (Nat.le_refl _) (by omega))]
      · show X11_binnedOnes_L4 a (nI n) Mm = _
        unfold X11_binnedOnes_L4
        rw [h.1.2.1.1.1, if_pos (nI_le (Nat.le_refl _) (by omega))])
  have e1 : gIter (fun s => X9_binnedOnes_L4 0 s.1 s.2 Mx) FU (0, 0) = some v := e1
  have e2 : gIter (fun s => X11_binnedOnes_L4 s.1 s.2 Mm) FU (0, 0) = some v := e2
  refine ⟨v, ?_, ?_⟩
  · unfold X9_binnedOnes
    rw [e1]
    rfl
  · unfold X11_binnedOnes
    rw [e2]
    rfl
theorem O37 : O_37 Iv := fun q nf M a1 hq hI => by
  refine glue1 (F := fun M => X10_most a1 M) (G := fun M => X11_most a1 M) (fun Mx Mm h => ?_) hI
  have h0 := h.t0 (v := 0)
  show ∃ r Mx' Mm', X10_most a1 Mx = some (r, Mx') ∧ X11_most a1 Mm = some (r, Mm') ∧ J (q + 1) nf Mx' Mm' ∧ GX Mx Mx' ∧ GM Mm Mm'
  have hG : GM Mm (wI Mm 50 0 0 0) := GM.t0
  unfold X11_most
  rw [gLet_e]
  revert h0 hG
  generalize wI Mm 50 0 0 0 = Y
  intro h0 hG
  unfold X10_most
  have triv : ∀ r : Int32, ∃ r' Mx' Mm', some (r, Mx) = some (r', Mx') ∧ some (r, Y) = some (r', Mm') ∧ J (q + 1) nf Mx' Mm' ∧ GX Mx Mx' ∧ GM Mm Mm' := fun r => ⟨_, _, _, rfl, rfl, h0.mono (by omega), GX.rf, hG⟩
  rcases h0.2.2.2.2 with hN | ⟨n, W, H, T, K, hS⟩
  · rw [hN.has, bind_e, if_pos rfl, if_pos hN.2.1]; exact triv _
  · have hn := hS.1.1.2.1
    have fl := hS.1.2.2.2.2.2.2.2
    rw [hS.has, bind_e, if_neg (show ¬ (1 : Int32) = 0 by decide), if_neg hS.n0.2]
    by_cases c0 : a1 = 0
    · rw [if_pos c0, if_pos c0]
      obtain ⟨w1, w2⟩ := j_pairs (Or.inl rfl) (by omega) hS.1.2.1.1.1 fl
      rw [w1, w2, bind_e, bind_e]; exact triv _
    · rw [if_neg c0, if_neg c0]
      by_cases c1 : a1 = 1
      · rw [if_pos c1, if_pos c1]
        rw [fl.2.2.1]; exact triv _
      · rw [if_neg c1, if_neg c1]
        by_cases c2 : a1 = 2
        · rw [if_pos c2, if_pos c2]
          rw [fl.2.2.2.1]; exact triv _
        · rw [if_neg c2, if_neg c2]
          by_cases c3 : a1 = 3
          · rw [if_pos c3, if_pos c3]
            rw [fl.2.2.2.2]; exact triv _
          · rw [if_neg c3, if_neg c3]
            by_cases c4 : a1 = 4
            · rw [if_pos c4, if_pos c4]
              obtain ⟨v, w1, w2⟩ := j_pendA hS
              rw [w1, w2, bind_e, bind_e]; exact triv _
            · rw [if_neg c4, if_neg c4]
              by_cases c5 : a1 = 5
              · rw [if_pos c5, if_pos c5]
                have er : Y.1 52 8 1059 = Mx.1 40 0 2 := hS.1.2.2.2.2.1.1 2 (by omega)
                obtain ⟨A, B, c1, c2, c3, c4, c5, c6, c7⟩ := j_frames (u := -1) hS hS.1.2.2.2.2.1.2.2.2.1
                obtain ⟨v, w1, w2⟩ := j_hid c3
                unfold X7_hidesOf X11_hides
                rw [c1, bind_e, w1, bind_e, bind_e, gU2_e, er, c2, bind_e, w2, bind_e, bind_e, gU2_e]
                exact ⟨_, _, _, rfl, rfl, (h0.study (hS.over0 c5 c6 c7) c5 c6).mono (by omega), c5.g, hG.tr c6.g⟩
              · rw [if_neg c5, if_neg c5]
                by_cases c6 : a1 = 6
                · rw [if_pos c6, if_pos c6]
                  obtain ⟨A, B, c1, c2, c3, c4, c5, c6, c7⟩ := j_frames (u := -1) (v := 0) hS (Or.inl rfl)
                  obtain ⟨w1, w2⟩ := j_pairs (Or.inr rfl) (by omega) c3.2.1.1.1 c3.2.2.2.2.2.2.2
                  have hS1 := hS.over0 c5 c6 c7
                  obtain ⟨A2, B2, d1, d2, d3, d4, d5, d6, d7⟩ := j_frames (u := -1) (v := 1) hS1 (Or.inr rfl)
                  obtain ⟨y1, y2⟩ := j_pairs (Or.inr rfl) (by omega) d3.2.1.1.1 d3.2.2.2.2.2.2.2
                  unfold X7_savedOf X11_saved
                  rw [c1, bind_e, w1, bind_e, d1, bind_e, y1, bind_e, bind_e, gU2_e, c2, bind_e, w2, bind_e, d2, bind_e, y2, bind_e, bind_e, gU2_e]
                  exact ⟨_, _, _, rfl, rfl, (h0.study (hS1.over0 d5 d6 d7) (c5.tr d5) (c6.tr d6)).mono (by omega), (c5.tr d5).g, hG.tr (c6.tr d6).g⟩
                · rw [if_neg c6, if_neg c6]
                  by_cases c7 : a1 = 7
                  · rw [if_pos c7, if_pos c7]
                    obtain ⟨v, Z, w1, w2, w3⟩ := j_culO hS
                    rw [w1, w2, bind_e, bind_e, gU2_e]
                    exact ⟨_, _, _, rfl, rfl, (h0.ask w3).mono (by omega), GX.rf, hG.tr w3.g⟩
                  · rw [if_neg c7, if_neg c7]
                    by_cases c8 : a1 = 8
                    · rw [if_pos c8, if_pos c8]
                      obtain ⟨v, w1, w2⟩ := j_full hS
                      rw [w1, w2, bind_e, bind_e]; exact triv _
                    · rw [if_neg c8, if_neg c8]
                      by_cases c9 : a1 = 9
                      · rw [if_pos c9, if_pos c9]
                        obtain ⟨v, w1, w2⟩ := j_binO hS
                        rw [w1, w2, bind_e, bind_e]; exact triv _
                      · rw [if_neg c9, if_neg c9]
                        exact triv _
end MO
