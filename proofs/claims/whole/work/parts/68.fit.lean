/-! the class fits a shape -/
def sX (K s : Nat) : Nat := [4, 2, 6, 3, 7, 1, 5].getD (K - 1 + s) 0
def sY (K s : Nat) : Nat := [4, 2, 6, 1, 3, 5, 7].getD (K - 1 + s) 0
theorem sXY_lt (K s : Nat) : sX K s < 8 ∧ sY K s < 8 := by
  have h : ∀ k, ([4, 2, 6, 3, 7, 1, 5].getD k 0 < 8 ∧ [4, 2, 6, 1, 3, 5, 7].getD k 0 < 8) := by
    intro k
    rcases (show k = 0 ∨ k = 1 ∨ k = 2 ∨ k = 3 ∨ k = 4 ∨ k = 5 ∨ k = 6 ∨ 7 ≤ k by omega) with rfl | rfl | rfl | rfl | rfl | rfl | rfl | h
    all_goals first | decide | skip
    rw [List.getD_eq_getElem?_getD, List.getD_eq_getElem?_getD, List.getElem?_eq_none (by simpa using h), List.getElem?_eq_none (by simpa using h)]
    decide
  exact h _
def qx (K x s : Nat) : Int32 := nI (8 * x + sX K s)
def qy (K y s : Nat) : Int32 := nI (8 * y + sY K s)
theorem pb_q {K x s : Nat} (hx : x < 8) : pb (qx K x s) ∧ pb (qy K x s) := by
  have := sXY_lt K s
  exact ⟨pb_n (by omega), pb_n (by omega)⟩
theorem tA_mem {W H T K m : Nat} {a : Nat × Nat × Nat} (hd : dOk W H T K) (hm : m ≤ tN W H T) (h : a ∈ tA W H T K m) : a.1 < W ∧ a.2.1 < H ∧ a.2.2 < K := by
  unfold tA at h
  obtain ⟨t, ht, h⟩ := List.mem_flatMap.mp h
  have h1 := tS_mem h
  have h2 := hd.t (t := t) (by have := List.mem_range.mp ht; omega)
  exact ⟨by omega, by omega, h1.2.2⟩
def tck3 (W H T : Nat) : Bool := (List.range W).all fun x => (List.range H).all fun y => decide (y / T * tC W T + x / T < tN W H T) && (decide (tL W T (y / T * tC W T + x / T) ≤ x) && (decide (x < tR W T (y / T * tC W T + x / T)) && (decide (tU W T (y / T * tC W T + x / T) ≤ y) && decide (y < tD W H T (y / T * tC W T + x / T)))))
theorem t_fact4 : ((List.range 8).all fun W => (List.range 8).all fun H => (List.range 3).all fun T => tck3 (W + 1) (H + 1) (T + 2)) = true := by decide +kernel
theorem t_in {W H T K x y : Nat} (hd : dOk W H T K) (hx : x < W) (hy : y < H) : ∃ t, t < tN W H T ∧ (tL W T t ≤ x ∧ x < tR W T t) ∧ (tU W T t ≤ y ∧ y < tD W H T t) := by
  obtain ⟨⟨h1, h2⟩, ⟨h3, h4⟩, ⟨h5, h6⟩, hK⟩ := hd
  obtain ⟨W, rfl⟩ : ∃ j, W = j + 1 := ⟨W - 1, by omega⟩
  obtain ⟨H, rfl⟩ : ∃ j, H = j + 1 := ⟨H - 1, by omega⟩
  obtain ⟨T, rfl⟩ : ∃ j, T = j + 2 := ⟨T - 2, by omega⟩
  have h := List.all_eq_true.mp (List.all_eq_true.mp (List.all_eq_true.mp t_fact4 W (List.mem_range.mpr (by omega))) H (List.mem_range.mpr (by omega))) T (List.mem_range.mpr (by omega))
  have h := List.all_eq_true.mp (List.all_eq_true.mp h x (List.mem_range.mpr hx)) y (List.mem_range.mpr hy)
  simp only [Bool.and_eq_true, decide_eq_true_eq] at h
  exact ⟨_, h.1, ⟨h.2.1, h.2.2.1⟩, h.2.2.2.1, h.2.2.2.2⟩
theorem tS_of {W H T K t x y s : Nat} (h1 : tL W T t ≤ x) (h2 : x < tR W T t) (h3 : tU W T t ≤ y) (h4 : y < tD W H T t) (h5 : s < K) : (x, y, s) ∈ tS W H T K t := by
  unfold tS tX
  exact List.mem_flatMap.mpr ⟨y, List.mem_range'_1.mpr (by omega), List.mem_flatMap.mpr ⟨x, List.mem_range'_1.mpr (by omega), List.mem_map.mpr ⟨s, List.mem_range'_1.mpr (by omega), rfl⟩⟩⟩
theorem tA_of {W H T K x y s : Nat} (hd : dOk W H T K) (hx : x < W) (hy : y < H) (hs : s < K) : ∃ k, k < W * H * K ∧ (tA W H T K (tN W H T)).getD k (0, 0, 0) = (x, y, s) := by
  obtain ⟨t, ht, h1, h2⟩ := t_in hd hx hy
  have hm : (x, y, s) ∈ tA W H T K (tN W H T) := by
    unfold tA
    exact List.mem_flatMap.mpr ⟨t, List.mem_range.mpr ht, tS_of h1.1 h1.2 h2.1 h2.2 hs⟩
  obtain ⟨k, hk, he⟩ := List.getElem_of_mem hm
  refine ⟨k, by rw [← tA_len hd]; exact hk, ?_⟩
  rw [List.getD_eq_getElem?_getD, List.getElem?_eq_getElem hk, he]
  rfl
theorem tA_getD {W H T K k : Nat} (hd : dOk W H T K) (hk : k < W * H * K) : (tA W H T K (tN W H T)).getD k (0, 0, 0) ∈ tA W H T K (tN W H T) := by
  rw [← tA_len hd] at hk
  rw [List.getD_eq_getElem?_getD, List.getElem?_eq_getElem hk]
  exact List.getElem_mem hk
theorem plc_lt {W H T K x y s : Nat} (hd : dOk W H T K) (hx : x < W) (hy : y < H) (hs : s < K) : plc x y s < 256 := by
  have h1 := hd.1
  have h2 := hd.2.1
  have h3 := hd.2.2.2
  unfold plc
  omega
theorem plc_inj {x y s x' y' s' : Nat} (h : plc x y s = plc x' y' s') (hx : x < 8) (hx' : x' < 8) (hs : s < 4) (hs' : s' < 4) : x = x' ∧ y = y' ∧ s = s' := by
  unfold plc at h
  omega
/-- where samples lie -/
def GP (W H K : Nat) (M : gM) : Prop := ∀ x y s, x < W → y < H → s < K → M.1 15 0 (plc x y s) = qx K x s ∧ M.1 16 0 (plc x y s) = qy K y s
def dvl (τ ζ : Nat → Int32) (K x y s : Nat) : Int32 := if trC τ (qx K x s) (qy K y s) = true then trD τ ζ (qx K x s) (qy K y s) else -1
def dvA (τ ζ : Nat → Int32) (K : Nat) (a : Nat × Nat × Nat) : Int32 := dvl τ ζ K a.1 a.2.1 a.2.2
/-- nothing but cells of one array -/
def Only (r i : Nat) (M M' : gM) : Prop := M'.2 = M.2 ∧ ∀ a b c, ¬ (a = r ∧ b = i) → M'.1 a b c = M.1 a b c
theorem Only.rf (r i : Nat) (M : gM) : Only r i M M := ⟨rfl, fun _ _ _ _ => rfl⟩
theorem Only.w {r i : Nat} {M M' : gM} (h : Only r i M M') (k : Nat) (v : Int32) : Only r i M (wI M' r i k v) := ⟨h.1, fun a b c hn => by
  rw [r1_wI, if_neg (fun z => hn ⟨z.1, z.2.1⟩)]
  exact h.2 a b c hn⟩
theorem SHe.only {r i j : Nat} {τ : Nat → Int32} {M M' : gM} (h : SHe i τ M) (ho : Only r j M M') (hr : r ≠ 21 ∧ r ≠ 22 ∧ r ≠ 23 ∧ r ≠ 24) : SHe i τ M' := fun e he => by
  rw [ho.2 21 i e (by omega), ho.2 22 i e (by omega), ho.2 23 i e (by omega), ho.2 24 i e (by omega)]
  exact h e he
theorem x6_fillD {i W H T K : Nat} {τ ζ : Nat → Int32} {M : gM} (hd : dOk W H T K) (hg : GD W H T K M) (ho : GO W H T K M) (hp : GP W H K M) (hc : cb τ) (h : SHe i τ M) (hs : SHs i τ ζ M) (ha : M.1 19 i 2 = trA τ) :
    ∃ M', X6_fillDepths i M = some M' ∧ Only 26 i M M' ∧ ∀ x y s, x < W → y < H → s < K → M'.1 26 i (plc x y s) = dvl τ ζ K x y s := by
  have hN := whk_le hd
  obtain ⟨M', e1, h1, h2⟩ := gI1_FU (step := fun s => X6_fillDepths_L2 i s.1 s.2) (fun k (M' : gM) => (nI k, M')) (fun k M' => Only 26 i M M' ∧ ∀ j, j < k → (M'.1 26 i (plA ((tA W H T K (tN W H T)).getD j (0, 0, 0))) = dvA τ ζ K ((tA W H T K (tN W H T)).getD j (0, 0, 0)))) (fun M' => Only 26 i M M' ∧ ∀ j, j < W * H * K → (M'.1 26 i (plA ((tA W H T K (tN W H T)).getD j (0, 0, 0))) = dvA τ ζ K ((tA W H T K (tN W H T)).getD j (0, 0, 0)))) 0 (W * H * K) (Nat.zero_le _) (by omega)
    (fun k M' hk hI => by
      obtain ⟨hI1, hI2⟩ := hI
      have hm := tA_mem hd (Nat.le_refl _) (tA_getD hd hk)
      have hord := ho.2 k hk
      generalize hav : (tA W H T K (tN W H T)).getD k (0, 0, 0) = av at hm hord
      obtain ⟨x, y, s⟩ := av
      replace hord : M.1 13 0 k = nI (plc x y s) := hord
      have hm1 : x < W := hm.1
      have hm2 : y < H := hm.2.1
      have hm3 : s < K := hm.2.2
      have hpl := plc_lt hd hm1 hm2 hm3
      have hxy := hp x y s hm1 hm2 hm3
      have g : ∀ a b c, ¬ (a = 26 ∧ b = i) → M'.1 a b c = M.1 a b c := hI1.2
      have hS := h.only hI1 (by decide)
      have hSs : SHs i τ ζ M' := by
        unfold SHs
        rw [g 25 i 0 (by omega), g 25 i 1 (by omega), g 25 i 2 (by omega), g 21 i 0 (by omega), g 21 i 1 (by omega), g 21 i 2 (by omega), g 22 i 0 (by omega), g 22 i 1 (by omega), g 22 i 2 (by omega), g 23 i 0 (by omega), g 23 i 1 (by omega), g 23 i 2 (by omega)]
        exact hs
      have hSa : M'.1 19 i 2 = trA τ := by rw [g 19 i 2 (by omega)]; exact ha
      have fin : ∀ v, v = dvl τ ζ K x y s → (Only 26 i M (wI M' 26 i (plc x y s) v) ∧ ∀ j, j < k + 1 → ((wI M' 26 i (plc x y s) v).1 26 i (plA ((tA W H T K (tN W H T)).getD j (0, 0, 0))) = dvA τ ζ K ((tA W H T K (tN W H T)).getD j (0, 0, 0)))) := by
        intro v hv
        refine ⟨hI1.w _ _, fun j hj => ?_⟩
        have hj2 : j < W * H * K := by omega
        have hmj := tA_mem hd (Nat.le_refl _) (tA_getD hd hj2)
        have hIj := fun hjk => hI2 j hjk
        generalize haj : (tA W H T K (tN W H T)).getD j (0, 0, 0) = aj at hmj hIj
        obtain ⟨x', y', s'⟩ := aj
        show (wI M' 26 i (plc x y s) v).1 26 i (plc x' y' s') = dvl τ ζ K x' y' s'
        rw [r1_wI]
        have d1 := hd.1
        have d3 := hd.2.2.2
        have q1 : x' < W := hmj.1
        have q3 : s' < K := hmj.2.2
        by_cases he : plc x' y' s' = plc x y s
        · rw [if_pos ⟨rfl, rfl, he⟩, hv]
          obtain ⟨r1, r2, r3⟩ := plc_inj he (by omega) (by omega) (by omega) (by omega)
          rw [r1, r2, r3]
        · rw [if_neg (fun z => he z.2.2)]
          refine hIj ?_
          rcases Nat.lt_or_ge j k with z | z
          · exact z
          · have : j = k := by omega
            rw [this, hav] at haj
            obtain ⟨r1, r2, r3⟩ := Prod.mk.inj haj |>.imp_right Prod.mk.inj
            exact absurd (by rw [r1, r2, r3]) he
      refine ⟨wI M' 26 i (plc x y s) (dvl τ ζ K x y s), ?_, fin _ rfl⟩
      show X6_fillDepths_L2 i (nI k) M' = _
      unfold X6_fillDepths_L2
      rw [g 12 0 6 (by omega), hg.2.2.2.2.2.2, if_neg (nI_ge hk (by omega)), gG_t (gin_n (by omega) (by decide)), gLet_e, nI_clamp (by omega), g 13 0 k (by omega), hord]
      rw [gG_t (gin_n hpl (by decide)), gLet_e, nI_clamp (by omega), g 15 0 _ (by omega), hxy.1, gG_t (gin_n hpl (by decide)), gLet_e, g 16 0 _ (by omega), hxy.2, x6_cov hS hSa, bind_e]
      unfold dvl
      cases hcv : trC τ (qx K x s) (qy K y s) with
      | true =>
        rw [if_pos rfl, if_neg (by decide), x6_depth hc hS hSs hSa, bind_e]
        rw [gG_t (gin_n hpl (by decide)), gLet_e, gLet_e, nI_1, if_pos rfl]
      | false =>
        rw [if_pos (by decide)]
        rw [gG_t (gin_n hpl (by decide)), gLet_e, gLet_e, nI_1, if_neg (by decide)])
    (fun M' hI => ⟨M', by
      show X6_fillDepths_L2 i (nI (W * H * K)) M' = _
      unfold X6_fillDepths_L2
      rw [hI.1.2 12 0 6 (by omega), hg.2.2.2.2.2.2, if_pos (nI_le (Nat.le_refl _) (by omega))], hI⟩) M ⟨Only.rf _ _ _, fun j hj => absurd hj (Nat.not_lt_zero j)⟩
  refine ⟨M', ?_, h1, fun x y s hx hy hs' => ?_⟩
  · unfold X6_fillDepths
    rw [← nI_0, e1]
    rfl
  · obtain ⟨k, hk, he⟩ := tA_of (T := T) hd hx hy hs'
    have := h2 k hk
    rw [he] at this
    exact this
