/-! tiles again, the steps known at the tile's own samples only -/
theorem gI_fa {σ ε β : Type} {step : σ → Option (σ ⊕ ε)} (mk : Nat → β → σ) (f : Nat → β → Option β) (out : β → ε) (P : β → Prop) (lo b : Nat)
    (h1 : ∀ k x, lo ≤ k → k < b → P x → step (mk k x) = (f k x).bind (fun y => some (.inl (mk (k + 1) y)))) (hP : ∀ k x y, lo ≤ k → k < b → P x → f k x = some y → P y) (h2 : ∀ x, P x → step (mk b x) = some (.inr (out x))) :
    ∀ (n a m : Nat) (x : β), lo ≤ a → a + n = b → n < m → P x → gIter step m (mk a x) = (gFM f (List.range' a n) x).bind (fun y => some (out y)) := by
  intro n
  induction n with
  | zero =>
    intro a m x hl ha hm hp
    have e : a = b := by omega
    subst e
    obtain ⟨m, rfl⟩ : ∃ j, m = j + 1 := ⟨m - 1, by omega⟩
    unfold gIter
    rw [h2 x hp]
    rfl
  | succ n ih =>
    intro a m x hl ha hm hp
    obtain ⟨m, rfl⟩ : ∃ j, m = j + 1 := ⟨m - 1, by omega⟩
    unfold gIter
    rw [h1 a x hl (by omega) hp, List.range'_succ, gFM_cons]
    cases hy : f a x with
    | none => rfl
    | some y => exact ih (a + 1) m y (by omega) (by omega) (by omega) (hP a x y hl (by omega) hp hy)
theorem gI_fo {σ ε β : Type} {step : σ → Option (σ ⊕ ε)} (mk : Nat → β → σ) (f : Nat → β → Option β) (out : β → ε) (P : β → Prop) (a n b : Nat) (hb : a + n = b) (hn : n < 5000)
    (h1 : ∀ k x, a ≤ k → k < b → P x → step (mk k x) = (f k x).bind (fun y => some (.inl (mk (k + 1) y)))) (hP : ∀ k x y, a ≤ k → k < b → P x → f k x = some y → P y) (h2 : ∀ x, P x → step (mk b x) = some (.inr (out x))) (x : β) (hp : P x) :
    gIter step FU (mk a x) = (gFM f (List.range' a n) x).bind (fun y => some (out y)) := gI_fa mk f out P a b h1 hP h2 n a FU x (Nat.le_refl a) hb (FU_gt hn) hp
theorem gFM_P {α β : Type} {f : α → β → Option β} (P : β → Prop) (l : List α) (h : ∀ a ∈ l, ∀ x y, P x → f a x = some y → P y) : ∀ x y, P x → gFM f l x = some y → P y := by
  induction l with
  | nil => intro x y hp he; cases he; exact hp
  | cons b l ih =>
    intro x y hp he
    rw [gFM_cons] at he
    obtain ⟨z, hz, he⟩ := gBind_some he
    exact ih (fun a ha => h a (List.mem_cons_of_mem _ ha)) z y (h b List.mem_cons_self x z hp hz) he
theorem m_tileR {β σ : Type} {W H T K t : Nat} (hd : dOk W H T K) (ht : t < tN W H T) (mk : Int32 → β → σ) (P : β → Prop) (B : Int32 → Int32 → Int32 → β → Option β) (low lef rig : β → Option Int32) (man : β → Int32)
    (hlow : ∀ x, P x → low x = some (nI (tD W H T t))) (hlef : ∀ x, P x → lef x = some (nI (tL W T t))) (hrig : ∀ x, P x → rig x = some (nI (tR W T t))) (hman : ∀ x, P x → man x = nI K)
    (hB : ∀ a b c x y, (tL W T t ≤ a ∧ a < tR W T t) → (tU W T t ≤ b ∧ b < tD W H T t) → c < K → P x → B (nI a) (nI b) (nI c) x = some y → P y)
    (sy : σ → Option (σ ⊕ β)) (sx : Int32 → σ → Option (σ ⊕ β)) (ss : Int32 → Int32 → σ → Option (σ ⊕ β))
    (hsy : ∀ y x, sy (mk y x) = (low x).bind fun r => if r ≤ y then some (.inr x) else (lef x).bind fun l => (gIter (sx y) FU (mk l x)).bind fun x' => some (.inl (mk (y + 1) x')))
    (hsx : ∀ y a x, sx y (mk a x) = (rig x).bind fun r => if r ≤ a then some (.inr x) else (gIter (ss y a) FU (mk 0 x)).bind fun x' => some (.inl (mk (a + 1) x')))
    (hss : ∀ y a s x, ss y a (mk s x) = if man x ≤ s then some (.inr x) else (B a y s x).bind fun x' => some (.inl (mk (s + 1) x'))) :
    ∀ x, P x → gIter sy FU (mk (nI (tU W T t)) x) = gFM (fun a z => B (nI a.1) (nI a.2.1) (nI a.2.2) z) (tS W H T K t) x := by
  have hf := hd.t ht
  have h1 := hd.1
  have h2 := hd.2.1
  have h3 := hd.2.2.2
  have e1 : ∀ y a st, (tL W T t ≤ a ∧ a < tR W T t) → (tU W T t ≤ y ∧ y < tD W H T t) → P st → gIter (ss (nI y) (nI a)) FU (mk 0 st) = gFM (fun s z => B (nI a) (nI y) (nI s) z) (List.range' 0 K) st := by
    intro y a st ha hy hp
    have := gI_fo (step := ss (nI y) (nI a)) (fun k z => mk (nI k) z) (fun s z => B (nI a) (nI y) (nI s) z) id P 0 K K (by omega) (by omega)
      (fun k x _ hk hx => by
        show ss (nI y) (nI a) (mk (nI k) x) = _
        rw [hss, hman x hx, if_neg (nI_ge hk (by omega)), nI_1])
      (fun k x y' _ hk hx he => hB _ _ _ _ _ ha hy hk hx he)
      (fun x hx => by
        show ss (nI y) (nI a) (mk (nI K) x) = _
        rw [hss, hman x hx, if_pos (nI_le (Nat.le_refl K) (by omega))]
        rfl) st hp
    refine this.trans ?_
    cases gFM (fun s z => B (nI a) (nI y) (nI s) z) (List.range' 0 K) st <;> rfl
  have p1 : ∀ y a st st', (tL W T t ≤ a ∧ a < tR W T t) → (tU W T t ≤ y ∧ y < tD W H T t) → P st → gFM (fun s z => B (nI a) (nI y) (nI s) z) (List.range' 0 K) st = some st' → P st' := by
    intro y a st st' ha hy hp he
    refine gFM_P P _ (fun c hc x y' hx he => hB _ _ _ _ _ ha hy ?_ hx he) st st' hp he
    have := List.mem_range'_1.mp hc
    omega
  have e2 : ∀ y st, (tU W T t ≤ y ∧ y < tD W H T t) → P st → gIter (sx (nI y)) FU (mk (nI (tL W T t)) st) = gFM (fun a z => gFM (fun s z => B (nI a) (nI y) (nI s) z) (List.range' 0 K) z) (List.range' (tL W T t) (tR W T t - tL W T t)) st := by
    intro y st hy hp
    have := gI_fo (step := sx (nI y)) (fun k z => mk (nI k) z) (fun a z => gFM (fun s z => B (nI a) (nI y) (nI s) z) (List.range' 0 K) z) id P (tL W T t) (tR W T t - tL W T t) (tR W T t) (by omega) (by omega)
      (fun k x hl hk hx => by
        show sx (nI y) (mk (nI k) x) = _
        rw [hsx, hrig x hx, bind_e, if_neg (nI_ge hk (by omega)), nI_1, e1 _ _ _ ⟨hl, hk⟩ hy hx])
      (fun k x y' hl hk hx he => p1 _ _ _ _ ⟨hl, hk⟩ hy hx he)
      (fun x hx => by
        show sx (nI y) (mk (nI (tR W T t)) x) = _
        rw [hsx, hrig x hx, bind_e, if_pos (nI_le (Nat.le_refl _) (by omega))]
        rfl) st hp
    refine this.trans ?_
    cases gFM (fun a z => gFM (fun s z => B (nI a) (nI y) (nI s) z) (List.range' 0 K) z) (List.range' (tL W T t) (tR W T t - tL W T t)) st <;> rfl
  have p2 : ∀ y st st', (tU W T t ≤ y ∧ y < tD W H T t) → P st → gFM (fun a z => gFM (fun s z => B (nI a) (nI y) (nI s) z) (List.range' 0 K) z) (List.range' (tL W T t) (tR W T t - tL W T t)) st = some st' → P st' := by
    intro y st st' hy hp he
    refine gFM_P P _ (fun c hc x y' hx he => p1 _ _ _ _ ?_ hy hx he) st st' hp he
    have := List.mem_range'_1.mp hc
    omega
  intro st hp
  have := gI_fo (step := sy) (fun k z => mk (nI k) z) (fun b z => gFM (fun a z => gFM (fun s z => B (nI a) (nI b) (nI s) z) (List.range' 0 K) z) (List.range' (tL W T t) (tR W T t - tL W T t)) z) id P (tU W T t) (tD W H T t - tU W T t) (tD W H T t) (by omega) (by omega)
    (fun k x hl hk hx => by
      show sy (mk (nI k) x) = _
      rw [hsy, hlow x hx, bind_e, if_neg (nI_ge hk (by omega)), hlef x hx, bind_e, nI_1, e2 _ _ ⟨hl, hk⟩ hx])
    (fun k x y' hl hk hx he => p2 _ _ _ ⟨hl, hk⟩ hx he)
    (fun x hx => by
      show sy (mk (nI (tD W H T t)) x) = _
      rw [hsy, hlow x hx, bind_e, if_pos (nI_le (Nat.le_refl _) (by omega))]
      rfl) st hp
  refine this.trans ?_
  unfold tS
  rw [gFM_flatMap]
  have e3 : (fun (b : Nat) (z : β) => gFM (fun a z => gFM (fun s z => B (nI a) (nI b) (nI s) z) (List.range' 0 K) z) (List.range' (tL W T t) (tR W T t - tL W T t)) z) = fun c => gFM (fun (a : Nat × Nat × Nat) z => B (nI a.1) (nI a.2.1) (nI a.2.2) z) (tX W T K t c) := by
    funext b z
    unfold tX
    rw [gFM_flatMap]
    congr 1
    funext a z
    rw [gFM_map]
  rw [e3]
  cases gFM (fun c => gFM (fun (a : Nat × Nat × Nat) z => B (nI a.1) (nI a.2.1) (nI a.2.2) z) (tX W T K t c)) (List.range' (tU W T t) (tD W H T t - tU W T t)) st <;> rfl
theorem c_tileR {β σ : Type} {W H T K t : Nat} (hd : dOk W H T K) (ht : t < tN W H T) (mk : Int32 → β → σ) (P : β → Prop) (B : Int32 → β → Option β) (sc : σ → Option (σ ⊕ β))
    (hB : ∀ a, a ∈ tS W H T K t → ∀ x y, P x → B (nI (plA a)) x = some y → P y)
    (hs : ∀ k x, k < fS W H T K (t + 1) → P x → sc (mk (nI k) x) = (B (nI (plA ((tA W H T K (tN W H T)).getD k (0, 0, 0)))) x).bind fun x' => some (.inl (mk (nI k + 1) x')))
    (he : ∀ x, P x → sc (mk (nI (fS W H T K (t + 1))) x) = some (.inr x)) :
    ∀ x, P x → gIter sc FU (mk (nI (fS W H T K t)) x) = gFM (fun a z => B (nI (plA a)) z) (tS W H T K t) x := by
  intro x hp
  have hle := fS_le (m := t + 1) hd (by omega)
  have hsu := fS_succ W H T K t
  have hm : ∀ k, fS W H T K t ≤ k → k < fS W H T K (t + 1) → (tA W H T K (tN W H T)).getD k (0, 0, 0) ∈ tS W H T K t := fun k h1 h2 => by
    rw [← tS_range (W := W) (H := H) (T := T) (K := K) (t := t) ht]
    exact List.mem_map.mpr ⟨k, List.mem_range'_1.mpr ⟨h1, by omega⟩, rfl⟩
  have := gI_fo (step := sc) (fun k z => mk (nI k) z) (fun k z => B (nI (plA ((tA W H T K (tN W H T)).getD k (0, 0, 0)))) z) id P (fS W H T K t) (tS W H T K t).length (fS W H T K (t + 1)) (by omega) (by omega)
    (fun k x _ hk hx => by
      show sc (mk (nI k) x) = _
      rw [hs k x hk hx, nI_1])
    (fun k x y' hl hk hx h => hB _ (hm k hl hk) _ _ hx h)
    (fun x hx => he x hx) x hp
  refine this.trans ?_
  rw [← gFM_map (fun (a : Nat × Nat × Nat) z => B (nI (plA a)) z) (fun k => (tA W H T K (tN W H T)).getD k (0, 0, 0)), tS_range ht]
  cases gFM (fun (a : Nat × Nat × Nat) z => B (nI (plA a)) z) (tS W H T K t) x <;> rfl
/-- both sides through a tile -/
theorem tile_rel {β γ σ ρ : Type} {W H T K t : Nat} (hd : dOk W H T K) (ht : t < tN W H T) (R : β → γ → Prop) (Bc : Int32 → β → Option β) (Bm : Int32 → Int32 → Int32 → γ → Option γ)
    (hb : ∀ x y s, x < W → y < H → s < K → ((tL W T t ≤ x ∧ x < tR W T t) ∧ tU W T t ≤ y ∧ y < tD W H T t) → ∀ u v, R u v → ∃ u' v', Bc (nI (plc x y s)) u = some u' ∧ Bm (nI x) (nI y) (nI s) v = some v' ∧ R u' v')
    (mkc : Int32 → β → σ) (sc : σ → Option (σ ⊕ β))
    (hs : ∀ k u v, k < fS W H T K (t + 1) → R u v → sc (mkc (nI k) u) = (Bc (nI (plA ((tA W H T K (tN W H T)).getD k (0, 0, 0)))) u).bind fun x' => some (.inl (mkc (nI k + 1) x')))
    (he : ∀ u v, R u v → sc (mkc (nI (fS W H T K (t + 1))) u) = some (.inr u))
    (mk : Int32 → γ → ρ) (low lef rig : γ → Option Int32) (man : γ → Int32)
    (hlow : ∀ u v, R u v → low v = some (nI (tD W H T t))) (hlef : ∀ u v, R u v → lef v = some (nI (tL W T t))) (hrig : ∀ u v, R u v → rig v = some (nI (tR W T t))) (hman : ∀ u v, R u v → man v = nI K)
    (sy : ρ → Option (ρ ⊕ γ)) (sx : Int32 → ρ → Option (ρ ⊕ γ)) (ss : Int32 → Int32 → ρ → Option (ρ ⊕ γ))
    (hsy : ∀ y x, sy (mk y x) = (low x).bind fun r => if r ≤ y then some (.inr x) else (lef x).bind fun l => (gIter (sx y) FU (mk l x)).bind fun x' => some (.inl (mk (y + 1) x')))
    (hsx : ∀ y a x, sx y (mk a x) = (rig x).bind fun r => if r ≤ a then some (.inr x) else (gIter (ss y a) FU (mk 0 x)).bind fun x' => some (.inl (mk (a + 1) x')))
    (hss : ∀ y a s x, ss y a (mk s x) = if man x ≤ s then some (.inr x) else (Bm a y s x).bind fun x' => some (.inl (mk (s + 1) x'))) :
    ∀ u v, R u v → ∃ u' v', gIter sc FU (mkc (nI (fS W H T K t)) u) = some u' ∧ gIter sy FU (mk (nI (tU W T t)) v) = some v' ∧ R u' v' := by
  have hf := hd.t ht
  have hb' : ∀ a ∈ tS W H T K t, ∀ u v, R u v → ∃ u' v', Bc (nI (plA a)) u = some u' ∧ Bm (nI a.1) (nI a.2.1) (nI a.2.2) v = some v' ∧ R u' v' := fun a ha u v hr => by
    have := tS_mem ha
    exact hb a.1 a.2.1 a.2.2 (by omega) (by omega) this.2.2 ⟨this.1, this.2.1⟩ u v hr
  intro u v hr
  obtain ⟨u', v', h1, h2, h3⟩ := gFM_rel (f := fun a z => Bc (nI (plA a)) z) (g := fun a z => Bm (nI a.1) (nI a.2.1) (nI a.2.2) z) R (tS W H T K t) hb' u v hr
  refine ⟨u', v', ?_, ?_, h3⟩
  · rw [← h1]
    refine c_tileR hd ht mkc (fun x => ∃ y, R x y) Bc sc ?_ ?_ ?_ u ⟨v, hr⟩
    · rintro a ha x y ⟨z, hz⟩ e
      obtain ⟨u2, v2, e1, e2, e3⟩ := hb' a ha x z hz
      rw [e1] at e
      cases e
      exact ⟨v2, e3⟩
    · rintro k x hk ⟨z, hz⟩
      exact hs k x z hk hz
    · rintro x ⟨z, hz⟩
      exact he x z hz
  · rw [← h2]
    refine m_tileR hd ht mk (fun y => ∃ x, R x y) Bm low lef rig man ?_ ?_ ?_ ?_ ?_ sy sx ss hsy hsx hss v ⟨u, hr⟩
    · rintro x ⟨z, hz⟩
      exact hlow z x hz
    · rintro x ⟨z, hz⟩
      exact hlef z x hz
    · rintro x ⟨z, hz⟩
      exact hrig z x hz
    · rintro x ⟨z, hz⟩
      exact hman z x hz
    · rintro a b c x y ha hb2 hc ⟨z, hz⟩ e
      obtain ⟨u2, v2, e1, e2, e3⟩ := hb a b c (by omega) (by omega) hc ⟨ha, hb2⟩ z x hz
      rw [e2] at e
      cases e
      exact ⟨u2, e3⟩
