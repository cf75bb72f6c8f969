/-! fitTo -/
def SH (W H T K t : Nat) (τ ζ : Nat → Int32) (pat col : Int32) (M : gM) : Prop :=
  (∀ k, k < 6 → M.1 20 t k = τ k) ∧ M.1 19 t 1 = 1 ∧ M.1 19 t 2 = trA τ ∧ M.1 19 t 3 = gmin (ζ (trP τ 0)) (gmin (ζ (trP τ 1)) (ζ (trP τ 2))) ∧ M.1 19 t 4 = gmax (ζ (trP τ 0)) (gmax (ζ (trP τ 1)) (ζ (trP τ 2))) ∧
  M.1 19 t 5 = bts (trT W H T τ) (tN W H T) ∧ SHe t τ M ∧ (∀ x y s, x < W → y < H → s < K → M.1 26 t (plc x y s) = dvl τ ζ K x y s) ∧ (∀ x y, x < 8 → y < 8 → M.1 27 t (8 * y + x) = trB τ ζ pat col x y)
/-- what belongs to the shape t -/
def shQ (t : Nat) : Nat → Nat → Nat → Prop := fun a b _ => 19 ≤ a ∧ a ≤ 27 ∧ b = t
theorem SH.keep {W H T K t : Nat} {τ ζ : Nat → Int32} {pat col : Int32} {M M' : gM} (h : SH W H T K t τ ζ pat col M) (g : ∀ a c, 19 ≤ a → a ≤ 27 → M'.1 a t c = M.1 a t c) : SH W H T K t τ ζ pat col M' := by
  obtain ⟨h1, h2, h3, h4, h5, h6, h7, h8, h9⟩ := h
  refine ⟨fun k hk => ?_, ?_, ?_, ?_, ?_, ?_, fun e he => ?_, fun x y s hx hy hs => ?_, fun x y hx hy => ?_⟩
  · rw [g 20 k (by omega) (by omega)]; exact h1 k hk
  · rw [g 19 1 (by omega) (by omega)]; exact h2
  · rw [g 19 2 (by omega) (by omega)]; exact h3
  · rw [g 19 3 (by omega) (by omega)]; exact h4
  · rw [g 19 4 (by omega) (by omega)]; exact h5
  · rw [g 19 5 (by omega) (by omega)]; exact h6
  · rw [g 21 e (by omega) (by omega), g 22 e (by omega) (by omega), g 23 e (by omega) (by omega), g 24 e (by omega) (by omega)]; exact h7 e he
  · rw [g 26 _ (by omega) (by omega)]; exact h8 x y s hx hy hs
  · rw [g 27 _ (by omega) (by omega)]; exact h9 x y hx hy
theorem trA_cong {τ τ' : Nat → Int32} (h : ∀ k, k < 6 → τ' k = τ k) : trA τ' = trA τ := by
  unfold trA
  rw [h 0 (by decide), h 1 (by decide), h 2 (by decide), h 3 (by decide), h 4 (by decide), h 5 (by decide)]
theorem gD_of {W H T K : Nat} {M M' : gM} (h : GD W H T K M) (g : ∀ c, M'.1 12 0 c = M.1 12 0 c) : GD W H T K M' := by
  unfold GD
  rw [g 0, g 1, g 2, g 3, g 4, g 5, g 6]
  exact h
theorem gO_of {W H T K : Nat} {M M' : gM} (h : GO W H T K M) (g : ∀ c, M'.1 13 0 c = M.1 13 0 c) (g' : ∀ c, M'.1 14 0 c = M.1 14 0 c) : GO W H T K M' := ⟨fun m hm => by rw [g']; exact h.1 m hm, fun k hk => by rw [g]; exact h.2 k hk⟩
theorem gP_of {W H K : Nat} {M M' : gM} (h : GP W H K M) (g : ∀ c, M'.1 15 0 c = M.1 15 0 c) (g' : ∀ c, M'.1 16 0 c = M.1 16 0 c) : GP W H K M' := fun x y s hx hy hs => by
  rw [g, g']
  exact h x y s hx hy hs
theorem x6_fit149 {t W H T K sec thr : Nat} {τ ζ : Nat → Int32} {pat col : Int32} {M : gM} (hd : dOk W H T K) (hg : GD W H T K M) (ho : GO W H T K M) (hp : GP W H K M) (hc : cb τ) (htn : t < 10) (hpt : pat = 0 ∨ pat = 1 ∨ pat = 2 ∨ pat = 3)
    (hz : ∀ k, k < 3 → M.1 10 1 (3 * t + k) = ζ k) (h7 : M.1 7 1 t = pat) (h8 : M.1 8 1 t = col) (ht : ∀ k, k < 6 → M.1 20 t k = τ k) (hf : M.1 19 t 1 = 1) (ha : M.1 19 t 2 = trA τ) (hs1 : sec = trP τ 1) (hs2 : thr = trP τ 2) (hs3 : (nI 3 - nI sec) = nI thr) (h0 : trP τ 0 = 0) :
    ∃ M', X6_fitTo_J149 t 1 (nI t) (nI sec) M = some M' ∧ OQ (shQ t) M M' ∧ SH W H T K t τ ζ pat col M' := by
  have p1 : sec < 3 := by rw [hs1]; exact trP_lt (by decide)
  have p2 : thr < 3 := by rw [hs2]; exact trP_lt (by decide)
  have shw : ∀ {A B : gM} {e : Nat}, OQ (fun r j c => (r = 21 ∨ r = 22 ∨ r = 23 ∨ r = 24) ∧ j = t ∧ c = e) A B → OQ (shQ t) A B := fun h => h.mono (fun a b c z => ⟨by omega, by omega, z.2.1⟩)
  obtain ⟨M1, e1, o1, v1⟩ := x6_edge (i := t) (e := 0) (a := 0) (b := sec) ht (by decide) (by decide) p1 h0.symm hs1
  have t1 : ∀ k, k < 6 → M1.1 20 t k = τ k := fun k hk => by rw [o1.2 20 t k (by omega)]; exact ht k hk
  obtain ⟨M2, e2, o2, v2⟩ := x6_edge (i := t) (e := 1) (a := sec) (b := thr) t1 (by decide) p1 p2 hs1 hs2
  have t2 : ∀ k, k < 6 → M2.1 20 t k = τ k := fun k hk => by rw [o2.2 20 t k (by omega)]; exact t1 k hk
  obtain ⟨M3, e3, o3, v3⟩ := x6_edge (i := t) (e := 2) (a := thr) (b := 0) t2 (by decide) p2 (by decide) hs2 h0.symm
  have q3 : OQ (shQ t) M M3 := (shw o1).tr ((shw o2).tr (shw o3))
  have t3 : ∀ k, k < 6 → M3.1 20 t k = τ k := fun k hk => by rw [o3.2 20 t k (by omega)]; exact t2 k hk
  have s3 : SHe t τ M3 := by
    intro e he
    rcases (show e = 0 ∨ e = 1 ∨ e = 2 by omega) with rfl | rfl | rfl
    · rw [o3.2 21 t 0 (by omega), o3.2 22 t 0 (by omega), o3.2 23 t 0 (by omega), o3.2 24 t 0 (by omega), o2.2 21 t 0 (by omega), o2.2 22 t 0 (by omega), o2.2 23 t 0 (by omega), o2.2 24 t 0 (by omega)]
      exact v1
    · rw [o3.2 21 t 1 (by omega), o3.2 22 t 1 (by omega), o3.2 23 t 1 (by omega), o3.2 24 t 1 (by omega)]
      exact v2
    · exact v3
  have n19 : ∀ c, M3.1 19 t c = M.1 19 t c := fun c => by rw [o3.2 19 t c (by omega), o2.2 19 t c (by omega), o1.2 19 t c (by omega)]
  have z3 : ∀ k, k < 3 → M3.1 10 1 (3 * t + k) = ζ k := fun k hk => by rw [q3.2 10 1 _ (by unfold shQ; omega)]; exact hz k hk
  unfold X6_fitTo_J149
  rw [nlit 3, hs3, gLet_e, ← nI_0, e1, bind_e, nlit 1, e2, bind_e, nlit 2, e3, bind_e, nI_mul, gLet_e, nI_add, nI_add, gG_t (gin_n (by omega) (by decide)), gG_t (gin_n (by omega) (by decide)), gG_t (gin_n (by omega) (by decide)), nI_clamp (by omega), nI_clamp (by omega), nI_clamp (by omega)]
  rw [show t * 3 = 3 * t + 0 by omega, z3 0 (by decide), show 3 * t + 0 + sec = 3 * t + sec by omega, z3 sec p1, show 3 * t + 0 + thr = 3 * t + thr by omega, z3 thr p2]
  obtain ⟨M4, e4⟩ : ∃ M4, X6_laySlope t (ζ 0) (ζ sec) (ζ thr) M3 = some M4 := ⟨_, rfl⟩
  have o4 : OQ (fun a b c => b = t ∧ (a = 25 ∨ (a = 19 ∧ (c = 3 ∨ c = 4)))) M3 M4 := by
    cases e4
    exact (((((OQ.rf _ _).w ⟨rfl, Or.inl rfl⟩).w ⟨rfl, Or.inl rfl⟩).w ⟨rfl, Or.inl rfl⟩).w ⟨rfl, Or.inr ⟨rfl, Or.inl rfl⟩⟩).w ⟨rfl, Or.inr ⟨rfl, Or.inr rfl⟩⟩
  have hss : SHs t τ ζ M4 ∧ M4.1 19 t 3 = gmin (ζ (trP τ 0)) (gmin (ζ (trP τ 1)) (ζ (trP τ 2))) ∧ M4.1 19 t 4 = gmax (ζ (trP τ 0)) (gmax (ζ (trP τ 1)) (ζ (trP τ 2))) := by
    unfold SHs
    rw [o4.2 21 t 0 (by omega), o4.2 21 t 1 (by omega), o4.2 21 t 2 (by omega), o4.2 22 t 0 (by omega), o4.2 22 t 1 (by omega), o4.2 22 t 2 (by omega), o4.2 23 t 0 (by omega), o4.2 23 t 1 (by omega), o4.2 23 t 2 (by omega), h0, ← hs1, ← hs2]
    cases e4
    simp [r1_wI]
  have q4 : OQ (shQ t) M M4 := q3.tr (o4.mono (fun a b c z => ⟨by omega, by omega, z.1⟩))
  have s4 : SHe t τ M4 := fun e he => by
    rw [o4.2 21 t e (by omega), o4.2 22 t e (by omega), o4.2 23 t e (by omega), o4.2 24 t e (by omega)]
    exact s3 e he
  have a4 : M4.1 19 t 2 = trA τ := by rw [o4.2 19 t 2 (by omega), n19]; exact ha
  have fr : ∀ {A : gM}, OQ (shQ t) M A → ∀ r c, r < 19 → ∀ b, A.1 r b c = M.1 r b c := fun h r c hr b => h.2 r b c (by unfold shQ; omega)
  rw [e4, bind_e]
  obtain ⟨M5, e5, o5, v5⟩ := x6_fillD hd (gD_of hg (fun c => fr q4 12 c (by decide) 0)) (gO_of ho (fun c => fr q4 13 c (by decide) 0) (fun c => fr q4 14 c (by decide) 0)) (gP_of hp (fun c => fr q4 15 c (by decide) 0) (fun c => fr q4 16 c (by decide) 0)) hc s4 hss.1 a4
  have q5 : OQ (shQ t) M M5 := q4.tr (o5.q.mono (fun a b c z => ⟨by omega, by omega, z.2⟩))
  have s5 : SHe t τ M5 := s4.only o5 (by decide)
  have ss5 : SHs t τ ζ M5 := by
    unfold SHs
    rw [o5.2 25 t 0 (by omega), o5.2 25 t 1 (by omega), o5.2 25 t 2 (by omega), o5.2 21 t 0 (by omega), o5.2 21 t 1 (by omega), o5.2 21 t 2 (by omega), o5.2 22 t 0 (by omega), o5.2 22 t 1 (by omega), o5.2 22 t 2 (by omega), o5.2 23 t 0 (by omega), o5.2 23 t 1 (by omega), o5.2 23 t 2 (by omega)]
    exact hss.1
  have a5 : M5.1 19 t 2 = trA τ := by rw [o5.2 19 t 2 (by omega)]; exact a4
  rw [e5, bind_e, gG_t (gin_n htn (by decide)), gG_t (gin_n htn (by decide)), nI_clamp (by omega), fr q5 7 t (by decide) 1, fr q5 8 t (by decide) 1, h7, h8]
  obtain ⟨M6, e6, o6, v6⟩ := x6_fillS (pat := pat) (col := col) hc s5 ss5 a5 hpt
  have q6 : OQ (shQ t) M M6 := q5.tr (o6.q.mono (fun a b c z => ⟨by omega, by omega, z.2⟩))
  have s6 : SHe t τ M6 := s5.only o6 (by decide)
  have a6 : M6.1 19 t 2 = trA τ := by rw [o6.2 19 t 2 (by omega)]; exact a5
  have t6 : ∀ k, k < 6 → M6.1 20 t k = τ k := fun k hk => by rw [o6.2 20 t k (by omega), o5.2 20 t k (by omega), o4.2 20 t k (by omega)]; exact t3 k hk
  rw [e6, bind_e]
  obtain ⟨M7, e7, o7, v7⟩ := x6_fillT hd (gD_of hg (fun c => fr q6 12 c (by decide) 0)) t6 s6 a6
  have q7 : OQ (shQ t) M M7 := q6.tr (o7.mono (fun a b c z => ⟨by omega, by omega, z.2.1⟩))
  rw [e7, bind_e]
  refine ⟨M7, rfl, q7, fun k hk => ?_, ?_, ?_, ?_, ?_, v7, fun e he => ?_, fun x y s hx hy hs => ?_, fun x y hx hy => ?_⟩
  · rw [o7.2 20 t k (by omega)]; exact t6 k hk
  · rw [o7.2 19 t 1 (by omega), o6.2 19 t 1 (by omega), o5.2 19 t 1 (by omega), o4.2 19 t 1 (by omega), n19]; exact hf
  · rw [o7.2 19 t 2 (by omega)]; exact a6
  · rw [o7.2 19 t 3 (by omega), o6.2 19 t 3 (by omega), o5.2 19 t 3 (by omega)]; exact hss.2.1
  · rw [o7.2 19 t 4 (by omega), o6.2 19 t 4 (by omega), o5.2 19 t 4 (by omega)]; exact hss.2.2
  · rw [o7.2 21 t e (by omega), o7.2 22 t e (by omega), o7.2 23 t e (by omega), o7.2 24 t e (by omega)]; exact s6 e he
  · rw [o7.2 26 t _ (by omega), o6.2 26 t _ (by omega)]; exact v5 x y s hx hy hs
  · rw [o7.2 27 t _ (by omega)]; exact v6 x y hx hy
