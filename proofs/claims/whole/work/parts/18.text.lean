section GT
variable {Ψ : gM → Nat → List (Nat × Value) → List Value → Prop} {G : gG5} {nf : Nat} {cc : ByteArray} {own : String} {nL : Nat} {ret : Option FieldType} {fr lo : Nat} {v0 : Option Value} {M0 M : gM} {pc index : Nat} {ls : List (Nat × Value)} {st : List Value}
theorem gt2_0 : 0 < 2 := by decide
theorem r_ldcS (C : gC Ψ G (gXn nf) cc own nL ret fr lo v0 M0) (d : decode cc pc = .ok (.ldc index, 2)) (k0 : Nat) (hk : k0 < 4) (ho : (gTw k0).1 = own) (hi : (gTw k0).2.1 = index) (k : Ψ M (pc + 2) ls (.ref (gad 62 (gTw k0).2.2.2) :: st)) : Ψ M pc ls st := by
  subst ho; subst hi
  obtain ⟨p, e, s, m, args, below, meth, c, Q, rfl, hx, hb, hml, hown, hts, hK, hlk, hr, hQ⟩ := C
  intro H locs lsA h1 h2 h3
  exact va_ldcS hx hb hown (hK.2.1 k0 hk) d (k H locs lsA h1 h2 h3)
theorem gt2 (k : Nat) (h : k < 2 := by decide) : k < 2 := h
theorem r_strlen (C : gC Ψ G (gXn nf) cc own nL ret fr lo v0 M0) {i : Nat} (d : decode cc pc = .ok (.invokevirtual index, 3)) (hl : Cond.methodLink own index yJ0_length_8abf5 ∈ gws) (hi : i < 2) (hR : 3 ≤ fr ∧ 81 ≤ lo) (hcat : (st.map fun v => v.category).sum ≤ 8) (k : Ψ M (pc + 3) ls (.int (gTl i) :: st)) : Ψ M pc ls (.ref (gad 62 i) :: st) := sorry
theorem r_charAt (C : gC Ψ G (gXn nf) cc own nL ret fr lo v0 M0) {i : Nat} {x : Int32} (d : decode cc pc = .ok (.invokevirtual index, 3)) (hl : Cond.methodLink own index yJ0_charAt_5068e ∈ gws) (hi : i < 2) (hg : gin x (gTx i).length = true) (hR : 6 ≤ fr ∧ 141 ≤ lo) (hcat : (st.map fun v => v.category).sum ≤ 8) (k : Ψ M (pc + 3) ls (.int (gTc i x.toNatClampNeg) :: st)) : Ψ M pc ls (.int x :: .ref (gad 62 i) :: st) := sorry
end GT
