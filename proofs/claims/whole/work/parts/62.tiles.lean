/-! a tile's samples: the reference's three loops, the class's one loop -/
theorem m_tile {β σ : Type} {W H T K t : Nat} (hd : dOk W H T K) (ht : t < tN W H T) (mk : Int32 → β → σ) (P : β → Prop) (B : Int32 → Int32 → Int32 → β → Option β) (low lef rig : β → Option Int32) (man : β → Int32)
    (hlow : ∀ x, P x → low x = some (nI (tD W H T t))) (hlef : ∀ x, P x → lef x = some (nI (tL W T t))) (hrig : ∀ x, P x → rig x = some (nI (tR W T t))) (hman : ∀ x, P x → man x = nI K)
    (hB : ∀ a b c x y, P x → B a b c x = some y → P y)
    (sy : σ → Option (σ ⊕ β)) (sx : Int32 → σ → Option (σ ⊕ β)) (ss : Int32 → Int32 → σ → Option (σ ⊕ β))
    (hsy : ∀ y x, sy (mk y x) = (low x).bind fun r => if r ≤ y then some (.inr x) else (lef x).bind fun l => (gIter (sx y) FU (mk l x)).bind fun x' => some (.inl (mk (y + 1) x')))
    (hsx : ∀ y a x, sx y (mk a x) = (rig x).bind fun r => if r ≤ a then some (.inr x) else (gIter (ss y a) FU (mk 0 x)).bind fun x' => some (.inl (mk (a + 1) x')))
    (hss : ∀ y a s x, ss y a (mk s x) = if man x ≤ s then some (.inr x) else (B a y s x).bind fun x' => some (.inl (mk (s + 1) x'))) :
    ∀ x, P x → gIter sy FU (mk (nI (tU W T t)) x) = gFM (fun a z => B (nI a.1) (nI a.2.1) (nI a.2.2) z) (tS W H T K t) x := by
  have hf := hd.t ht
  have h1 := hd.1
  have h2 := hd.2.1
  have h3 := hd.2.2.2
  have e1 : ∀ y a st, P st → gIter (ss y a) FU (mk 0 st) = gFM (fun s z => B a y (nI s) z) (List.range' 0 K) st := by
    intro y a st hp
    have := gI_for (step := ss y a) (fun k z => mk (nI k) z) (fun s z => B a y (nI s) z) id P 0 K K (by omega) (by omega)
      (fun k x hk hx => by
        show ss y a (mk (nI k) x) = _
        rw [hss, hman x hx, if_neg (nI_ge hk (by omega)), nI_1])
      (fun k x y' _ hx he => hB _ _ _ _ _ hx he)
      (fun x hx => by
        show ss y a (mk (nI K) x) = _
        rw [hss, hman x hx, if_pos (nI_le (Nat.le_refl K) (by omega))]
        rfl) st hp
    refine this.trans ?_
    cases gFM (fun s z => B a y (nI s) z) (List.range' 0 K) st <;> rfl
  have p1 : ∀ y a st st', P st → gFM (fun s z => B a y (nI s) z) (List.range' 0 K) st = some st' → P st' := by
    intro y a
    generalize List.range' 0 K = l
    intro st st' hp he
    induction l generalizing st with
    | nil => cases he; exact hp
    | cons b l ih =>
      rw [gFM_cons] at he
      obtain ⟨z, hz, he⟩ := gBind_some he
      exact ih z (hB _ _ _ _ _ hp hz) he
  have e2 : ∀ y st, P st → gIter (sx y) FU (mk (nI (tL W T t)) st) = gFM (fun a z => gFM (fun s z => B (nI a) y (nI s) z) (List.range' 0 K) z) (List.range' (tL W T t) (tR W T t - tL W T t)) st := by
    intro y st hp
    have := gI_for (step := sx y) (fun k z => mk (nI k) z) (fun a z => gFM (fun s z => B (nI a) y (nI s) z) (List.range' 0 K) z) id P (tL W T t) (tR W T t - tL W T t) (tR W T t) (by omega) (by omega)
      (fun k x hk hx => by
        show sx y (mk (nI k) x) = _
        rw [hsx, hrig x hx, bind_e, if_neg (nI_ge hk (by omega)), nI_1, e1 _ _ _ hx])
      (fun k x y' _ hx he => p1 _ _ _ _ hx he)
      (fun x hx => by
        show sx y (mk (nI (tR W T t)) x) = _
        rw [hsx, hrig x hx, bind_e, if_pos (nI_le (Nat.le_refl _) (by omega))]
        rfl) st hp
    refine this.trans ?_
    cases gFM (fun a z => gFM (fun s z => B (nI a) y (nI s) z) (List.range' 0 K) z) (List.range' (tL W T t) (tR W T t - tL W T t)) st <;> rfl
  have p2 : ∀ y st st', P st → gFM (fun a z => gFM (fun s z => B (nI a) y (nI s) z) (List.range' 0 K) z) (List.range' (tL W T t) (tR W T t - tL W T t)) st = some st' → P st' := by
    intro y
    generalize List.range' (tL W T t) (tR W T t - tL W T t) = l
    intro st st' hp he
    induction l generalizing st with
    | nil => cases he; exact hp
    | cons b l ih =>
      rw [gFM_cons] at he
      obtain ⟨z, hz, he⟩ := gBind_some he
      exact ih z (p1 _ _ _ _ hp hz) he
  intro st hp
  have := gI_for (step := sy) (fun k z => mk (nI k) z) (fun b z => gFM (fun a z => gFM (fun s z => B (nI a) (nI b) (nI s) z) (List.range' 0 K) z) (List.range' (tL W T t) (tR W T t - tL W T t)) z) id P (tU W T t) (tD W H T t - tU W T t) (tD W H T t) (by omega) (by omega)
    (fun k x hk hx => by
      show sy (mk (nI k) x) = _
      rw [hsy, hlow x hx, bind_e, if_neg (nI_ge hk (by omega)), hlef x hx, bind_e, nI_1, e2 _ _ hx])
    (fun k x y' _ hx he => p2 _ _ _ hx he)
    (fun x hx => by
      show sy (mk (nI (tD W H T t)) x) = _
      rw [hsy, hlow x hx, bind_e, if_pos (nI_le (Nat.le_refl _) (by omega))]
      rfl) st hp
  refine this.trans ?_
  unfold tS
  rw [gFM_flatMap]
  have e3 : (fun (b : Nat) (z : β) => gFM (fun a z => gFM (fun s z => B (nI a) (nI b) (nI s) z) (List.range' 0 K) z) (List.range' (tL W T t) (tR W T t - tL W T t)) z) = fun c => gFM (fun (a : Nat × Nat × Nat) z => B (nI a.1) (nI a.2.1) (nI a.2.2) z) (tX W T K t c) := by
    funext b z
    unfold tX
    rw [gFM_flatMap]
    congr 1
    funext a z
    rw [gFM_map]
  rw [e3]
  cases gFM (fun c => gFM (fun (a : Nat × Nat × Nat) z => B (nI a.1) (nI a.2.1) (nI a.2.2) z) (tX W T K t c)) (List.range' (tU W T t) (tD W H T t - tU W T t)) st <;> rfl
/-! the class's order of samples -/
def tA (W H T K m : Nat) : List (Nat × Nat × Nat) := (List.range m).flatMap fun t => tS W H T K t
theorem tA_succ (W H T K m : Nat) : tA W H T K (m + 1) = tA W H T K m ++ tS W H T K m := by
  unfold tA
  rw [List.range_succ, List.flatMap_append, List.flatMap_cons, List.flatMap_nil, List.append_nil]
theorem tA_pre {W H T K m m' : Nat} (h : m ≤ m') : ∃ l, tA W H T K m' = tA W H T K m ++ l := by
  induction m' with
  | zero => exact ⟨[], by rw [show m = 0 by omega, List.append_nil]⟩
  | succ m' ih =>
    by_cases he : m = m' + 1
    · exact ⟨[], by rw [he, List.append_nil]⟩
    · obtain ⟨l, hl⟩ := ih (by omega)
      exact ⟨l ++ tS W H T K m', by rw [tA_succ, hl, List.append_assoc]⟩
def tck2 (W H T K : Nat) : Bool := decide ((tA W H T K (tN W H T)).length = W * H * K)
theorem t_fact3 : ((List.range 8).all fun W => (List.range 8).all fun H => (List.range 3).all fun T => tck2 (W + 1) (H + 1) (T + 2) 1 && (tck2 (W + 1) (H + 1) (T + 2) 2 && tck2 (W + 1) (H + 1) (T + 2) 4)) = true := by decide +kernel
theorem tA_len {W H T K : Nat} (h : dOk W H T K) : (tA W H T K (tN W H T)).length = W * H * K := by
  obtain ⟨⟨h1, h2⟩, ⟨h3, h4⟩, ⟨h5, h6⟩, hK⟩ := h
  obtain ⟨W, rfl⟩ : ∃ j, W = j + 1 := ⟨W - 1, by omega⟩
  obtain ⟨H, rfl⟩ : ∃ j, H = j + 1 := ⟨H - 1, by omega⟩
  obtain ⟨T, rfl⟩ : ∃ j, T = j + 2 := ⟨T - 2, by omega⟩
  have h := List.all_eq_true.mp (List.all_eq_true.mp (List.all_eq_true.mp t_fact3 W (List.mem_range.mpr (by omega))) H (List.mem_range.mpr (by omega))) T (List.mem_range.mpr (by omega))
  simp only [tck2, Bool.and_eq_true, decide_eq_true_eq] at h
  rcases hK with rfl | rfl | rfl
  · exact h.1
  · exact h.2.1
  · exact h.2.2
def fS (W H T K m : Nat) : Nat := (tA W H T K m).length
theorem fS_succ (W H T K m : Nat) : fS W H T K (m + 1) = fS W H T K m + (tS W H T K m).length := by
  unfold fS
  rw [tA_succ, List.length_append]
theorem whk_le {W H T K : Nat} (h : dOk W H T K) : W * H * K ≤ 256 := by
  have h1 : W * H ≤ 8 * 8 := Nat.mul_le_mul h.1.2 h.2.1.2
  have h2 : W * H * K ≤ 64 * 4 := Nat.mul_le_mul h1 (by have := h.2.2.2; omega)
  omega
theorem fS_le {W H T K m : Nat} (h : dOk W H T K) (hm : m ≤ tN W H T) : fS W H T K m ≤ 256 := by
  obtain ⟨l, hl⟩ := tA_pre (W := W) (H := H) (T := T) (K := K) hm
  have h1 := tA_len h
  rw [hl, List.length_append] at h1
  have := whk_le h
  unfold fS
  omega
def plA (a : Nat × Nat × Nat) : Nat := plc a.1 a.2.1 a.2.2
/-- the class's arrays of samples by tiles -/
def GO (W H T K : Nat) (M : gM) : Prop := (∀ m, m ≤ tN W H T → M.1 14 0 m = nI (fS W H T K m)) ∧ ∀ k, k < W * H * K → M.1 13 0 k = nI (plA ((tA W H T K (tN W H T)).getD k (0, 0, 0)))
theorem getD_mid {α : Type} (A B C : List α) (d : α) : (List.range' A.length B.length).map (fun k => (A ++ B ++ C).getD k d) = B := by
  apply List.ext_getElem
  · simp
  · intro i h1 h2
    simp only [List.getElem_map, List.getElem_range']
    rw [List.getD_eq_getElem?_getD, List.append_assoc, List.getElem?_append_right (by omega)]
    simp only [Nat.one_mul, Nat.add_sub_cancel_left]
    rw [List.getElem?_append_left h2, List.getElem?_eq_getElem h2]
    rfl
theorem tS_range {W H T K t : Nat} (ht : t < tN W H T) : (List.range' (fS W H T K t) (tS W H T K t).length).map (fun k => (tA W H T K (tN W H T)).getD k (0, 0, 0)) = tS W H T K t := by
  obtain ⟨l, hl⟩ := tA_pre (W := W) (H := H) (T := T) (K := K) (show t + 1 ≤ tN W H T by omega)
  rw [hl, tA_succ]
  exact getD_mid _ _ _ _
theorem c_tile {β σ : Type} {W H T K t : Nat} (hd : dOk W H T K) (ht : t < tN W H T) (mk : Int32 → β → σ) (P : β → Prop) (B : Int32 → β → Option β) (sc : σ → Option (σ ⊕ β))
    (hB : ∀ a x y, P x → B a x = some y → P y)
    (hs : ∀ k x, k < fS W H T K (t + 1) → P x → sc (mk (nI k) x) = (B (nI (plA ((tA W H T K (tN W H T)).getD k (0, 0, 0)))) x).bind fun x' => some (.inl (mk (nI k + 1) x')))
    (he : ∀ x, P x → sc (mk (nI (fS W H T K (t + 1))) x) = some (.inr x)) :
    ∀ x, P x → gIter sc FU (mk (nI (fS W H T K t)) x) = gFM (fun a z => B (nI (plA a)) z) (tS W H T K t) x := by
  intro x hp
  have hle := fS_le (m := t + 1) hd (by omega)
  have hsu := fS_succ W H T K t
  have := gI_for (step := sc) (fun k z => mk (nI k) z) (fun k z => B (nI (plA ((tA W H T K (tN W H T)).getD k (0, 0, 0)))) z) id P (fS W H T K t) (tS W H T K t).length (fS W H T K (t + 1)) (by omega) (by omega)
    (fun k x hk hx => by
      show sc (mk (nI k) x) = _
      rw [hs k x hk hx, nI_1])
    (fun k x y' _ hx h => hB _ _ _ hx h)
    (fun x hx => he x hx) x hp
  refine this.trans ?_
  rw [← gFM_map (fun (a : Nat × Nat × Nat) z => B (nI (plA a)) z) (fun k => (tA W H T K (tN W H T)).getD k (0, 0, 0)), tS_range ht]
  cases gFM (fun (a : Nat × Nat × Nat) z => B (nI (plA a)) z) (tS W H T K t) x <;> rfl
