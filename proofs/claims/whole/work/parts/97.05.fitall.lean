/-! all shapes fitted again -/
/-- a shape that may be fitted: forgotten, or as it was for some corners -/
def FTO (W H T K t : Nat) (M : gM) : Prop := M.1 19 t 1 = 0 ∨ ∃ τ', (∀ k, 6 ≤ k → τ' k = 0) ∧ SH W H T K t τ' (zt M t) (M.1 7 1 t) (M.1 8 1 t) M
section FA
variable {n W H T K i t : Nat} {w : Nat → Int32} {M M' : gM}
theorem x9_fit (hs : SCx n W H T K M) (hc : FC n i w M) (hf : ∀ t, t < n → FTO W H T K t M) : ∃ M', X9_fit i M = some M' ∧ OQ (fun a _ _ => 19 ≤ a ∧ a ≤ 27) M M' ∧ SHi n W H T K i M' := by
  have hn := hs.2.1
  obtain ⟨M', e1, o1, h1⟩ := gI1_FU (step := fun s => X9_fit_L2 i s.1 s.2) (fun k (x : gM) => (nI k, x)) (fun k x => OQ (fun a b _ => 19 ≤ a ∧ a ≤ 27 ∧ b < k) M x ∧ ∀ u, u < k → SH W H T K u (ct M i u) (zt M u) (M.1 7 1 u) (M.1 8 1 u) x) (fun x => OQ (fun a b _ => 19 ≤ a ∧ a ≤ 27 ∧ b < n) M x ∧ ∀ u, u < n → SH W H T K u (ct M i u) (zt M u) (M.1 7 1 u) (M.1 8 1 u) x) 0 n (by omega) (by omega)
    (fun k x hk hx => by
      obtain ⟨o, hS⟩ := hx
      have g : ∀ a b c, ¬ (19 ≤ a ∧ a ≤ 27 ∧ b < k) → x.1 a b c = M.1 a b c := o.2
      have sx : SCx n W H T K x := hs.of fun a b c hh => g a b c (by omega)
      obtain ⟨Z, z1, z2, z3⟩ := x6_fitTo (M := x) (t := k) (f := i) (τ := ct M i k) (ζ := zt M k) (pat := M.1 7 1 k) (col := M.1 8 1 k) sx.1 sx.2.2.2.1 sx.2.2.2.2.1 sx.2.2.2.2.2.1 (ct_cb hc hk) (by omega) (hs.2.2.2.2.2.2 k hk).1
        (fun l hl => by rw [g 10 1 _ (by omega)]; unfold zt; rw [if_pos hl]) (g 7 1 k (by omega)) (g 8 1 k (by omega)) (fun l hl => by rw [g 39 i _ (by omega)]; unfold ct; rw [if_pos hl]) (fun l hl => by unfold ct; rw [if_neg (by omega)])
        ((hf k hk).imp (fun e => by rw [g 19 k 1 (by omega)]; exact e) (fun ⟨τ', q1, q2⟩ => ⟨τ', q1, q2.keep fun a c _ _ => g a k c (by omega)⟩))
      have zo : ∀ a b c, ¬ (19 ≤ a ∧ a ≤ 27 ∧ b = k) → Z.1 a b c = x.1 a b c := z2.2
      refine ⟨Z, ?_, ⟨z2.1.trans o.1, fun a b c hq => by rw [zo a b c (by omega), g a b c (by omega)]⟩, fun u hu => ?_⟩
      · show X9_fit_L2 i (nI k) x = _
        unfold X9_fit_L2
        rw [sx.2.2.1.2.2.2.2, if_neg (nI_ge hk (by omega)), gG_t (gin_n (k := k) (by omega) (by decide)), nI_clamp (by omega), z1, bind_e, gLet_e, nI_1]
      · by_cases e : u = k
        · subst e
          exact z3
        · exact (hS u (by omega)).keep fun a c _ _ => zo a u c (by omega))
    (fun x hx => ⟨x, by
      have sx : SCx n W H T K x := hs.of fun a b c hh => hx.1.2 a b c (by omega)
      show X9_fit_L2 i (nI n) x = _
      unfold X9_fit_L2
      rw [sx.2.2.1.2.2.2.2, if_pos (nI_le (Nat.le_refl _) (by omega))], hx⟩) M ⟨OQ.rf _ M, fun u hu => absurd hu (by omega)⟩
  have g : ∀ a b c, ¬ (19 ≤ a ∧ a ≤ 27 ∧ b < n) → M'.1 a b c = M.1 a b c := o1.2
  refine ⟨M', ?_, o1.mono (fun a b c q => ⟨q.1, q.2.1⟩), fun u hu => ?_⟩
  · unfold X9_fit
    show ((gIter (fun s => X9_fit_L2 i s.1 s.2) FU (nI 0, M)).bind _) = _
    rw [e1]
    rfl
  · rw [ct_of (fun c => g 39 i c (by omega)), zt_of (fun c => g 10 1 c (by omega)), g 7 1 u (by omega), g 8 1 u (by omega)]
    exact h1 u hu
end FA
