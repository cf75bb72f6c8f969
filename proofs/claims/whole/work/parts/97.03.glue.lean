/-! both sides in one memory -/
section GL
variable {n W H T K m nf : Nat} {M : gM}
theorem glue {F : gM → Option (Int32 × Nat × gM)} {G : gM → Option (Int32 × gM)} {m' : Nat} (L : ∀ Mx Mm, SN m nf n W H T K Mx Mm → ST Mx Mm → ∃ r nf' Mx' Mm', F Mx = some (r, nf', Mx') ∧ G Mm = some (r, Mm') ∧ nf ≤ nf' ∧ nf' ≤ 40 ∧ SN m' nf' n W H T K Mx' Mm' ∧ ST Mx' Mm' ∧ CX Mx Mx' ∧ CM Mm Mm') (h : SN m nf n W H T K M M) (hs : ST M M) :
    ∃ r nf' M1 M2, F M = some (r, nf', M1) ∧ G M1 = some (r, M2) ∧ nf ≤ nf' ∧ nf' ≤ 40 ∧ SN m' nf' n W H T K M2 M2 ∧ ST M2 M2 ∧ CX M M1 ∧ CM M1 M2 := by
  obtain ⟨r, nf', M1, N, f1, -, -, -, -, -, c1, -⟩ := L M M h hs
  have s1 : SN m nf n W H T K M M1 := h.same (fun _ _ _ _ => rfl) (fun _ _ _ => rfl) (fun a b c hc => c1.1 a b c (by unfold relM at hc; unfold acX; omega))
  have t1 : ST M M1 := fun k hk => by
    rw [c1.1 52 7 k (by unfold acX; omega)]
    exact hs k hk
  obtain ⟨r', nf'', M1', M2, f1', g1, a1, a2, s2, t2, -, c2⟩ := L M M1 s1 t1
  rw [f1] at f1'
  cases f1'
  refine ⟨r, nf', M1, M2, f1, g1, a1, a2, s2.same (fun a b c hc => c2.1 a b c (by unfold relX at hc; unfold acM; omega)) (fun b c _ => c2.2 41 b c (by omega)) (fun _ _ _ _ => rfl), fun k hk => ?_, c1, c2⟩
  rw [c2.1 48 0 k (by unfold acM; omega)]
  exact t2 k hk
end GL
