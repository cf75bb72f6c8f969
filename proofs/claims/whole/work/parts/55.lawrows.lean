theorem gW_callM {G : gG5} {X : gX} {p : Program} {e : Env} {R : Room} {s : State} {m : MethodId} {args : Array Value} {below : List Frame} {meth : Method} {c : Code} {H : Heap} {locs : List Loc} {cells slots mc ms pc : Nat} {Q : State → Prop} {lsA : Array Slot} {st0 rest : List Value} {v : Option Value} {M1 : gM} {a : Array Value}
    (hr : va_Run p G.1 e R s m args below meth c H locs cells slots mc ms (F0 m pc lsA st0) rest (gPost G X v M1 a) (gA G.2.2.1)) (h3 : va_S (gA G.2.2.1) s.heap H locs)
    (kk : ∀ (H1 : Heap) (locs1 : List Loc), gWd G.2.1 G.2.2.1 G.2.2.2.1 G.2.2.2.2 X M1 s H1 → va_S (gA G.2.2.1) s.heap H1 locs1 → W p G.1 e R s m args below meth c H1 locs1 (cells + mc) (slots + ms) Q (F0 m (pc + 3) lsA ((v.map (gv G.2.2.2.1)).toList ++ rest))) : W p G.1 e R s m args below meth c H locs cells slots Q (F0 m pc lsA st0) := by
  intro T hT X0
  obtain ⟨v', st₀, t, T', L, h0, X', hL, e1, e2, ⟨hv, hw, hz, hk⟩, stp⟩ := hr T hT X0
  cases hv
  rw [h0] at hz hk
  obtain ⟨t2, a1, b1⟩ := kk T'.heap (locs ++ L) (by rw [e1]; exact hw.moved (by rw [← e2]; exact X'.warmed.alike.symm))
    ⟨Nat.le_trans h3.1 (by rw [e1]; exact hz), fun q h1 h2 => by rw [e1, hk q (Nat.lt_of_lt_of_le h1 h3.1) h2]; exact h3.2.1 q h1 h2, fun q hq => by
      rcases List.mem_append.mp hq with h | h
      · exact h3.2.2 q h
      · exact hL q h⟩ T' rfl X'
  exact ⟨t2, stp t2 a1, b1⟩
/-! the law's walk: the script, its own call that catches -/
def gLD (Φ : gF) (l : Launch) (D : va_G) (base : Nat) (ad0 : Nat → Nat) (b L : Nat) (xs : Nat → Int32) : Prop :=
  ∃ (p : Program) (e : Env) (s : State) (m : MethodId) (args : Array Value) (below : List Frame) (meth : Method) (c : Code) (Q : State → Prop) (R : Room),
    (Φ = (fun cells slots ad cA X M pc ls st => ∀ (H : Heap) (locs : List Loc) (lsA : Array Slot), lv_has lsA 7 (gls ad ls) → gWd D base ad cA X M s H → va_S (gA base) s.heap H locs →
      W p l e R s m args below meth c H locs cells slots Q (F0 m pc lsA (st.map (gv ad)))) ∧
    p.tables.exec = Jvm.exec ∧ c.code = code ∧ c.maxLocals = 7 ∧ s.vm.findClass RL = some m.cls ∧ (∀ w ∈ gws, w.before args s = true) ∧ gK D ad0 s ∧ R.frames = 13 ∧ R.locals = 552 ∧ R.cells = 601024 ∧ R.slots = 7293033 ∧ meth.name = meth.name) ∧
    va_X b L xs s s.heap ∧ b < s.heap.size ∧ ¬ base ≤ b ∧ gT base s s.heap
def gDn (Φ : gF) (l : Launch) (D : va_G) (base : Nat) (ad0 : Nat → Nat) : Prop := ∃ mn, gD Φ l D base ad0 code RL 7 13 552 601024 7293033 mn
theorem gLD.D {Φ : gF} {l : Launch} {D : va_G} {base : Nat} {ad0 : Nat → Nat} {b L : Nat} {xs : Nat → Int32} (Z : gLD Φ l D base ad0 b L xs) : gDn Φ l D base ad0 := by
  obtain ⟨p, e, s, m, args, below, meth, c, Q, R, h, -⟩ := Z
  exact ⟨meth.name, p, e, s, m, args, below, meth, c, Q, R, h⟩
section GL
variable {Φ : gF} {l : Launch} {D : va_G} {base : Nat} {ad0 : Nat → Nat} {b L : Nat} {xs : Nat → Int32} {cells slots : Nat} {ad : Nat → Nat} {cA : Nat → ClassId} {X : gX} {M : gM} {pc : Nat} {ls : List (Nat × Value)} {st : List Value}
theorem l_sld (Z : gLD Φ l D base ad0 b L xs) (hb : ad (gad 60 1) = b) (d : decode code pc = .ok (.iaload, 1)) {x : Int32} {j : Nat} (hx : vp_in x L ∧ x.toNatClampNeg = j) (k : Φ cells slots ad cA X M (pc + 1) ls (.int (xs j) :: st)) : Φ cells slots ad cA X M pc ls (.int x :: .ref (gad 60 1) :: st) := by
  obtain ⟨p, e, s, m, args, below, meth, c, Q, R, ⟨rfl, hx1, hb1, hml, hown, hts, hK, h9⟩, hX, hbl, hbA, hT⟩ := Z
  intro H locs lsA h1 h2 h3
  obtain ⟨hx0, rfl⟩ := hx
  have key := va_sld (A := gA base) (ls := lsA) (rest := st.map (gv ad)) hx1 hb1 hX hbl hbA h3 hx0 d (k H locs lsA h1 h2 h3)
  rw [← hb] at key
  exact key
theorem l_slen (Z : gLD Φ l D base ad0 b L xs) (hb : ad (gad 60 1) = b) (d : decode code pc = .ok (.arraylength, 1)) (k : Φ cells slots ad cA X M (pc + 1) ls (.int (Int32.ofNat L) :: st)) : Φ cells slots ad cA X M pc ls (.ref (gad 60 1) :: st) := by
  obtain ⟨p, e, s, m, args, below, meth, c, Q, R, ⟨rfl, hx1, hb1, hml, hown, hts, hK, h9⟩, hX, hbl, hbA, hT⟩ := Z
  intro H locs lsA h1 h2 h3
  have key := va_slen (A := gA base) (ls := lsA) (rest := st.map (gv ad)) hx1 hb1 hX hbl hbA h3 d (k H locs lsA h1 h2 h3)
  rw [← hb] at key
  exact key
theorem l_widen (Z : gLD Φ l D base ad0 b L xs) {cells' slots' : Nat} (h1 : cells ≤ cells') (h2 : slots ≤ slots') (k : Φ cells' slots' ad cA X M pc ls st) : Φ cells slots ad cA X M pc ls st := by
  obtain ⟨p, e, s, m, args, below, meth, c, Q, R, ⟨rfl, h9⟩, -⟩ := Z
  intro H locs lsA g1 g2 g3 T hT X0
  exact k H locs lsA g1 g2 g3 T hT (stand_widen X0 h1 h2)
theorem hd_L_triangle : yL_triangle.cls ≠ "java/lang/invoke/MethodHandle" ∧ yL_triangle.cls ≠ "java/lang/invoke/VarHandle" ∧ (parseMethodDescriptor yL_triangle.desc).map (fun d => d.parameters.length) = some 4 := by decide +kernel
theorem l_tri {nf : Nat} (Z : gLD Φ l D base ad0 b L xs) (hl : l.stackTraces = false) (had : ∀ k, k < 2 → ad (gad 62 k) = ad0 (gad 62 k)) (d : decode code pc = .ok (.invokestatic 42, 3)) {p1 p2 kk : Int32} {M1 : gM} (hr : L_tri p1 p2 M = some (kk, M1)) (hroom : cells + 1 ≤ 601024 ∧ slots + 6 ≤ 7293033) (hcat : (st.map fun v => v.category).sum ≤ 8)
    (k : Φ (cells + 1) (slots + 6) ad cA (gXn nf) M1 (pc + 3) ls (.int kk :: st)) : Φ cells slots ad cA (gXn nf) M pc ls (.ref (gad 53 0) :: .int p2 :: .int p1 :: .ref (gad 0 0) :: st) := by
  obtain ⟨p, e, s, m, args, below, meth, c, Q, R, ⟨rfl, hx1, hb1, hml, hown, hts, hK, hf, hlo, hc, hs, -⟩, hX, hbl, hbA, hT⟩ := Z
  intro H locs lsA h1 h2 h3
  have cw : vx_CSW R s args RL 42 yL_triangle cL_triangle 5 (some .int) [(0, 10, 13, 13)] (gwh yL_triangle cL_triangle 5 (some .int) [(0, 10, 13, 13)]) { frames := 7, cells := 1, slots := 6, locals := 123 } 1 6 4 := by
    refine ⟨⟨rfl, rfl, by rw [hf]; decide, by rw [hlo]; decide, fun w hw a' U hWU => ?_, List.mem_cons_self⟩, hts _ q1317, hts _ q115, ⟨hd_L_triangle.1, hd_L_triangle.2.1⟩, fun sig h => ?_, hts _ q1315, hts _ q1316⟩
    · have hw2 : w ∈ gws := (List.mem_cons.mp hw).elim (fun e => by rw [e]; exact q1317) id
      exact word_at hWU (gws_good hw2) (hts w hw2)
    · have h2 := hd_L_triangle.2.2
      rw [h] at h2
      exact (Option.some.inj h2).symm
  have hp : PreS s H (gPreT (l, D, base, ad, cA) (gXn nf) M [.ref (gad 0 0), .int p1, .int p2, .ref (gad 53 0)]) ([Value.ref (gad 0 0), .int p1, .int p2, .ref (gad 53 0)].map (gv ad)) :=
    ⟨gPreT_blind _ _ _ _, fun U hU hW => ⟨⟨rfl, (hK.ad had).warm hW, by rw [hU]; exact h2.moved hW.alike⟩, by rw [hU]; exact (hT.warm hW).kept (fun a ha hq => h3.2.1 a ha hq)⟩⟩
  refine gW_callM (G := (l, D, base, ad, cA)) (vx_runSW (rest := st.map (gv ad)) (g := F0 m pc lsA _) ⟨hx1, hb1, hml, hown, hts⟩ (n_L_triangle (G := (l, D, base, ad, cA)) hl hr) cw hp rfl rfl h1.1 rfl (lv_room (by rw [gv_catsum]; exact hcat)) d ⟨by rw [hc]; exact hroom.1, by rw [hs]; exact hroom.2⟩) h3 (fun H1 locs1 hw hs1 => k H1 locs1 lsA h1 hw hs1)
end GL
theorem lix {n j L : Nat} (h : n + 6 ≤ L) (hL : L ≤ 3072) (hj : j < 6) : vp_in (Int32.ofNat (n + j)) L ∧ (Int32.ofNat (n + j)).toNatClampNeg = n + j := by
  exact ⟨nI_in (by omega) (by omega), nI_clamp (by omega)⟩
theorem lio (n j : Nat) : Int32.ofNat n + Int32.ofNat j = Int32.ofNat (n + j) := (Int32.ofNat_add n j).symm
theorem lxi {n j L : Nat} (h : n + 6 ≤ L) (hL : L ≤ 3072) (hj : j < 6) : vp_in (Int32.ofNat n + Int32.ofNat j) L ∧ (Int32.ofNat n + Int32.ofNat j).toNatClampNeg = n + j := by
  rw [lio]
  exact lix h hL hj
