/-! a tile's bin flushed -/
theorem gFM_relQ {α β γ : Type} {f : α → β → Option β} {g : α → γ → Option γ} (R : β → γ → Prop) (Q : α → β → Prop) (l : List α) (h : ∀ a ∈ l, ∀ x y, R x y → ∃ x' y', f a x = some x' ∧ g a y = some y' ∧ R x' y' ∧ Q a x' ∧ ∀ b, Q b x → Q b x') : ∀ x y, R x y → ∃ x' y', gFM f l x = some x' ∧ gFM g l y = some y' ∧ R x' y' ∧ (∀ a ∈ l, Q a x') ∧ ∀ b, Q b x → Q b x' := by
  induction l with
  | nil => intro x y hr; exact ⟨x, y, rfl, rfl, hr, fun a ha => absurd ha List.not_mem_nil, fun _ h => h⟩
  | cons a l ih =>
    intro x y hr
    obtain ⟨x1, y1, e1, e2, h1, q1, k1⟩ := h a List.mem_cons_self x y hr
    obtain ⟨x2, y2, e3, e4, h2, q2, k2⟩ := ih (fun b hb => h b (List.mem_cons_of_mem _ hb)) x1 y1 h1
    refine ⟨x2, y2, by rw [gFM_cons, e1]; exact e3, by rw [gFM_cons, e2]; exact e4, h2, fun b hb => ?_, fun b hb => k2 b (k1 b hb)⟩
    rcases List.mem_cons.mp hb with rfl | hb
    · exact k2 _ q1
    · exact q2 b hb
/-- both sides through a tile -/
theorem tile_relQ {β γ σ ρ : Type} {W H T K t : Nat} (hd : dOk W H T K) (ht : t < tN W H T) (R : β → γ → Prop) (Q : Nat × Nat × Nat → β → Prop) (Bc : Int32 → β → Option β) (Bm : Int32 → Int32 → Int32 → γ → Option γ)
    (hb : ∀ x y s, x < W → y < H → s < K → ((tL W T t ≤ x ∧ x < tR W T t) ∧ tU W T t ≤ y ∧ y < tD W H T t) → ∀ u v, R u v → ∃ u' v', Bc (nI (plc x y s)) u = some u' ∧ Bm (nI x) (nI y) (nI s) v = some v' ∧ R u' v' ∧ Q (x, y, s) u' ∧ ∀ b, Q b u → Q b u')
    (mkc : Int32 → β → σ) (sc : σ → Option (σ ⊕ β))
    (hs : ∀ k u v, k < fS W H T K (t + 1) → R u v → sc (mkc (nI k) u) = (Bc (nI (plA ((tA W H T K (tN W H T)).getD k (0, 0, 0)))) u).bind fun x' => some (.inl (mkc (nI k + 1) x')))
    (he : ∀ u v, R u v → sc (mkc (nI (fS W H T K (t + 1))) u) = some (.inr u))
    (mk : Int32 → γ → ρ) (low lef rig : γ → Option Int32) (man : γ → Int32)
    (hlow : ∀ u v, R u v → low v = some (nI (tD W H T t))) (hlef : ∀ u v, R u v → lef v = some (nI (tL W T t))) (hrig : ∀ u v, R u v → rig v = some (nI (tR W T t))) (hman : ∀ u v, R u v → man v = nI K)
    (sy : ρ → Option (ρ ⊕ γ)) (sx : Int32 → ρ → Option (ρ ⊕ γ)) (ss : Int32 → Int32 → ρ → Option (ρ ⊕ γ))
    (hsy : ∀ y x, sy (mk y x) = (low x).bind fun r => if r ≤ y then some (.inr x) else (lef x).bind fun l => (gIter (sx y) FU (mk l x)).bind fun x' => some (.inl (mk (y + 1) x')))
    (hsx : ∀ y a x, sx y (mk a x) = (rig x).bind fun r => if r ≤ a then some (.inr x) else (gIter (ss y a) FU (mk 0 x)).bind fun x' => some (.inl (mk (a + 1) x')))
    (hss : ∀ y a s x, ss y a (mk s x) = if man x ≤ s then some (.inr x) else (Bm a y s x).bind fun x' => some (.inl (mk (s + 1) x'))) :
    ∀ u v, R u v → ∃ u' v', gIter sc FU (mkc (nI (fS W H T K t)) u) = some u' ∧ gIter sy FU (mk (nI (tU W T t)) v) = some v' ∧ R u' v' ∧ ∀ a ∈ tS W H T K t, Q a u' := by
  have hf := hd.t ht
  have hb' : ∀ a ∈ tS W H T K t, ∀ u v, R u v → ∃ u' v', Bc (nI (plA a)) u = some u' ∧ Bm (nI a.1) (nI a.2.1) (nI a.2.2) v = some v' ∧ R u' v' ∧ Q a u' ∧ ∀ b, Q b u → Q b u' := fun a ha u v hr => by
    have := tS_mem ha
    exact hb a.1 a.2.1 a.2.2 (by omega) (by omega) this.2.2 ⟨this.1, this.2.1⟩ u v hr
  intro u v hr
  obtain ⟨u', v', h1, h2, h3, h4, _⟩ := gFM_relQ (f := fun a z => Bc (nI (plA a)) z) (g := fun a z => Bm (nI a.1) (nI a.2.1) (nI a.2.2) z) R Q (tS W H T K t) hb' u v hr
  refine ⟨u', v', ?_, ?_, h3, h4⟩
  · rw [← h1]
    refine c_tileR hd ht mkc (fun x => ∃ y, R x y) Bc sc ?_ ?_ ?_ u ⟨v, hr⟩
    · rintro a ha x y ⟨z, hz⟩ e
      obtain ⟨u2, v2, e1, e2, e3, _⟩ := hb' a ha x z hz
      rw [e1] at e
      cases e
      exact ⟨v2, e3⟩
    · rintro k x hk ⟨z, hz⟩
      exact hs k x z hk hz
    · rintro x ⟨z, hz⟩
      exact he x z hz
  · rw [← h2]
    refine m_tileR hd ht mk (fun y => ∃ x, R x y) Bm low lef rig man ?_ ?_ ?_ ?_ ?_ sy sx ss hsy hsx hss v ⟨u, hr⟩
    · rintro x ⟨z, hz⟩
      exact hlow z x hz
    · rintro x ⟨z, hz⟩
      exact hlef z x hz
    · rintro x ⟨z, hz⟩
      exact hrig z x hz
    · rintro x ⟨z, hz⟩
      exact hman z x hz
    · rintro a b c x y ha hb2 hc ⟨z, hz⟩ e
      obtain ⟨u2, v2, e1, e2, e3, _⟩ := hb a b c (by omega) (by omega) hc ⟨ha, hb2⟩ z x hz
      rw [e2] at e
      cases e
      exact ⟨u2, e3⟩
section FT
variable {n W H T K i j k t tl x y s : Nat} {M M' Mx Mm Mx' Mm' : gM}
theorem least_e {τ ζ : Nat → Int32} {cu : Int32} (h : AK τ ζ cu M) : X11_leastZ M = some (gmin (ζ (trP τ 0)) (gmin (ζ (trP τ 1)) (ζ (trP τ 2)))) := by
  unfold X11_leastZ
  rw [(h.1 0 (by decide)).2.2, (h.1 1 (by decide)).2.2, (h.1 2 (by decide)).2.2, gLet_e, gLet_e]
  generalize ζ (trP τ 0) = a
  generalize ζ (trP τ 1) = b
  generalize ζ (trP τ 2) = c
  have key : (if b ≤ a then (if b ≤ c then b else c) else (if a ≤ c then a else c)) = gmin a (gmin b c) := by
    unfold gmin
    simp only [Int32.le_iff_toInt_le, Int32.lt_iff_toInt_lt]
    apply Int32.toInt_inj.mp
    split <;> split <;> split <;> (try split) <;> (try split) <;> omega
  rw [← key]
  split <;> split <;> rfl
theorem x4_has (hs : SCx n W H T K M) (ht : t < n) : X4_has 1 (nI t) M = some 1 := by
  have hn := hs.2.1
  unfold X4_has
  rw [if_neg (nI_neg (by omega)), hs.2.2.1.2.2.2.2, if_neg (nI_ge ht (by omega))]
theorem x1_hasT (hs : SCx n W H T K M) (ht : t < tN W H T) : X1_hasTile (nI t) M = some 1 := by
  have hN := hs.1.N
  unfold X1_hasTile
  rw [if_neg (nI_neg (by omega)), hs.2.2.2.1.2.2.2.2.2.1, if_neg (nI_ge ht (by omega))]
theorem j_entry {b : Nat} (hj : j = 8 ∨ j = 9) (h : RJ n W H T K i j Mx Mm) (htl : tl < tN W H T) (hb : b ≤ 10) (hk : k < b) (ht : t < n) (e1 : Mx.1 37 i (10 * tl + k) = nI t) (e2 : Mm.1 52 j (768 + 11 * tl + 1 + k) = nI t) :
    ∃ Mx' Mm', X9_flushTile_L28 i (nI tl) (nI b) (nI k) Mx = some (.inl (nI (k + 1), Mx')) ∧ X11_flushes_L17 j (nI tl) (nI (768 + 11 * tl)) (nI b) (nI (k + 1)) Mm = some (.inl (nI (k + 1 + 1), Mm')) ∧ JT n W H T K i j tl Mx Mm Mx' Mm' := by
  have hd := h.1.1
  have hn := h.1.2.1
  have hN := hd.N
  have ru := h.2.2.2.2.1
  obtain ⟨F, f1, f2, f3⟩ := j_far hj h htl
  obtain ⟨M7, e7, a7, s7⟩ := x11_asksR h.2.1 (by omega) h.2.2.2.1 h.2.2.2.2.1 hj ht
  have h7 := h.ask hj s7
  obtain ⟨F', f1', f2', f3'⟩ := j_far hj h7 htl
  have eF : F' = F := Option.some.inj (f1'.symm.trans f1)
  subst eF
  have r7 := s7.row (j := j) (by omega)
  have c58 : M7.1 52 j 1058 = Mx.1 40 i 1 := by rw [r7]; exact ru.1 1 (by decide)
  have pz := x11_pass (M := M7) (d := gmin (zt Mx t (trP (ct Mx i t) 0)) (gmin (zt Mx t (trP (ct Mx i t) 1)) (zt Mx t (trP (ct Mx i t) 2)))) (z := F') hj (by rw [c58]; exact ru.2.2.1) f3.1 f3.2
  have ie : (nI tl * 10) + nI k = nI (10 * tl + k) := by rw [nlit 10, nI_mul, nI_add, Nat.mul_comm]
  have je : nI (768 + 11 * tl) + nI (k + 1) = nI (768 + 11 * tl + 1 + k) := by rw [nI_add]; congr 1; omega
  have l3 := (h.2.2.1 t ht).2.2.2.1
  have j7 : JT n W H T K i j tl Mx Mm Mx M7 := ⟨h7, OX.rf i Mx, OM.ask s7, fun _ _ => rfl⟩
  unfold X9_flushTile_L28 X11_flushes_L17 X11_lays X9_isBehind
  rw [if_neg (nI_ge hk (by omega)), ie, gG_t (gin_n (by omega) (by decide)), nI_clamp (n := 10 * tl + k) (by omega), e1, gLet_e, x4_has h.1 ht, bind_e, if_neg (show ¬ (1 : Int32) = 0 by decide), gG_t (gin_n (k := t) (by omega) (by decide)), f1, bind_e, nI_clamp (n := t) (by omega), l3,
    if_neg (show ¬ nI b < nI (k + 1) from fun z => absurd ((nI_ltI (by omega) (by omega)).mp z) (by omega)), je, gLen8 hj, gG_t (gin_n (k := 768 + 11 * tl + 1 + k) (by omega) (by decide)), nI_clamp (n := 768 + 11 * tl + 1 + k) (by omega), e2, e7, bind_e, least_e a7, bind_e, f2', bind_e, pz, bind_e, c58]
  generalize gmin (zt Mx t (trP (ct Mx i t) 0)) (gmin (zt Mx t (trP (ct Mx i t) 1)) (zt Mx t (trP (ct Mx i t) 2))) = L
  by_cases hL : F' + Mx.1 40 i 1 ≤ L
  · rw [if_neg (Int32.not_lt.mpr hL), bind_e, if_neg (show ¬ (1 : Int32) = 0 by decide), if_pos hL, if_pos rfl, nlit 1054, gG_t (gin_n (k := 1054) (by omega) (by decide)), gG_t (gin_n (k := 1054) (by omega) (by decide)), gLet_e, gLet_e, gLet_e, nI_clamp (n := 1054) (by omega), bind_e, gLet_e, nI_1, nI_1]
    have r2 := h7.cnt hj (k := 10) (by omega)
    exact ⟨_, _, rfl, rfl, j7.tr ⟨r2, OX.w (by unfold xQ; omega), OM.w (by omega), fun c _ => w_n (by omega)⟩⟩
  · rw [if_pos (Int32.not_le.mp hL), bind_e, if_pos rfl, if_neg hL, if_neg (show ¬ (1 : Int32) = 0 by decide), x9_cull h.1 h.2.2.1 ht, bind_e, x11_top hd h7.2.1.1 (by omega), bind_e]
    cases hc : cul (trA (ct Mx i t)) (Mx.1 40 i 0) with
    | true =>
      rw [if_neg (by decide), x11_layC hj h7 hc a7 htl, bind_e, bind_e, gLet_e, gLet_e, nI_1, nI_1]
      exact ⟨_, _, rfl, rfl, j7⟩
    | false =>
      obtain ⟨X, Y, g1, g2, g3⟩ := j_layT hj h7 ht hc a7 htl
      rw [if_pos (by decide), g1, g2, bind_e, bind_e, bind_e, gLet_e, gLet_e, nI_1, nI_1]
      exact ⟨_, _, rfl, rfl, j7.tr g3⟩
theorem j_bin {b : Nat} (hj : j = 8 ∨ j = 9) (h : RJ n W H T K i j Mx Mm) (htl : tl < tN W H T) (hb : b ≤ 10) (eb : Mx.1 38 i tl = nI b) :
    ∃ Mx' Mm', gIter (fun s => X9_flushTile_L28 i (nI tl) (nI b) s.1 s.2) FU (nI 0, Mx) = some Mx' ∧ gIter (fun s => X11_flushes_L17 j (nI tl) (nI (768 + 11 * tl)) (nI b) s.1 s.2) FU (nI (0 + 1), Mm) = some Mm' ∧ JT n W H T K i j tl Mx Mm Mx' Mm' := by
  have hN := h.1.1.N
  refine gI2_FU (s1 := fun s => X9_flushTile_L28 i (nI tl) (nI b) s.1 s.2) (s2 := fun s => X11_flushes_L17 j (nI tl) (nI (768 + 11 * tl)) (nI b) s.1 s.2) (fun k u => (nI k, u)) (fun k v => (nI (k + 1), v)) (fun _ u v => JT n W H T K i j tl Mx Mm u v) (fun u v => JT n W H T K i j tl Mx Mm u v) 0 b (by omega) (by omega) ?_ ?_ Mx Mm (JT.rf h)
  · intro k u v hk hr
    obtain ⟨b', h1, h2, h3, h4, h5⟩ := hr.1.2.2.2.2.2.2.1 tl (by omega)
    have ebb : b' = b := nI_inj (by omega) (by omega) (h2.symm.trans ((hr.2.1.1 38 i tl (by unfold xQ; omega)).trans eb))
    subst ebb
    obtain ⟨t, ht, q1, q2⟩ := h5 k hk
    obtain ⟨u', v', g1, g2, g3⟩ := j_entry hj hr.1 htl hb hk ht q1 q2
    exact ⟨u', v', g1, g2, hr.tr g3⟩
  · intro u v hr
    refine ⟨u, v, ?_, ?_, hr⟩
    · show X9_flushTile_L28 i (nI tl) (nI b) (nI b) u = _
      unfold X9_flushTile_L28
      rw [if_pos (nI_le (Nat.le_refl _) (by omega))]
    · show X11_flushes_L17 j (nI tl) (nI (768 + 11 * tl)) (nI b) (nI (b + 1)) v = _
      unfold X11_flushes_L17
      rw [if_pos ((nI_ltI (by omega) (by omega)).mpr (by omega))]
end FT
