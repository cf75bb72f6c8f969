/-! cells that are made -/
theorem gad_inj {r i r' i' : Nat} (h1 : r < 64) (h2 : r' < 64) (h : gad r i = gad r' i') : r = r' ∧ i = i' := by
  unfold gad at h
  omega
def gup {α : Type} (f : Nat → α) (a : Nat) (v : α) : Nat → α := fun b => if b = a then v else f b
theorem gup_same {α : Type} (f : Nat → α) (a : Nat) (v : α) : gup f a v a = v := if_pos rfl
theorem gup_ne {α : Type} (f : Nat → α) {a b : Nat} (v : α) (h : b ≠ a) : gup f a v b = f b := if_neg h
def gXadd (X : gX) (r i : Nat) : gX := (fun r' i' => X.1 r' i' || (decide (r' = r) && decide (i' = i)), fun r' i' j => if r' = r ∧ i' = i then none else X.2 r' i' j)
def gXref (X : gX) (r i j a : Nat) : gX := (X.1, fun r' i' j' => if r' = r ∧ i' = i ∧ j' = j then some a else X.2 r' i' j')
def gZero (M : gM) (r i : Nat) : gM := (fun r' i' k => if r' = r ∧ i' = i then 0 else M.1 r' i' k, fun r' i' k => if r' = r ∧ i' = i then 0 else M.2 r' i' k)
/-- nothing that is there refers to it -/
def gFr (X : gX) (r i : Nat) : Prop := X.1 r i = false ∧ (∀ r' i' j, X.1 r' i' = true → X.2 r' i' j ≠ some (gad r i)) ∧ ∀ r' i', X.1 r' i' = true → r' < 60
theorem gXadd_iff {X : gX} {r i r' i' : Nat} : (gXadd X r i).1 r' i' = true ↔ X.1 r' i' = true ∨ (r' = r ∧ i' = i) := by simp [gXadd]
theorem gXadd_old {X : gX} {r i r' i' : Nat} (h : X.1 r' i' = true) : (gXadd X r i).1 r' i' = true := gXadd_iff.mpr (Or.inl h)
theorem gXadd_new {X : gX} {r i : Nat} : (gXadd X r i).1 r i = true := gXadd_iff.mpr (Or.inr ⟨rfl, rfl⟩)
theorem gdef_int (ty : FieldType) (h : ty = .int ∨ ty = .char ∨ ty = .byte ∨ ty = .boolean) : defaultValue ty = .int 0 := by rcases h with rfl | rfl | rfl | rfl <;> rfl
/-- a new cell behind all others: the world with it -/
theorem gWd.alloc {D : va_G} {base : Nat} {ad : Nat → Nat} {cA : Nat → ClassId} {X : gX} {M : gM} {U : State} {H H1 : Heap} {r i : Nat} {c : ClassId} (h : gWd D base ad cA X M U H) (hr : r < 60) (hf : gFr X r i) (hz : H1.size = H.size + 1) (ho : ∀ q, q < H.size → H1[q]? = H[q]?)
    (hn : gAt D (gup ad (gad r i) H.size) (gup cA (gad r i) c) (gXadd X r i) (gZero M r i) r i H1) (hty : 100 ≤ gSh r → ArrOfT U c (gTy (gSh r)) ∧ va_RA U c (gTy (gSh r))) :
    gWd D base (gup ad (gad r i) H.size) (gup cA (gad r i) c) (gXadd X r i) (gZero M r i) U H1 := by
  obtain ⟨h1, h2, h3, h4, h5, h6, h7⟩ := h
  obtain ⟨f1, f2, f3⟩ := hf
  have ne : ∀ r' i', X.1 r' i' = true → gad r' i' ≠ gad r i := by
    intro r' i' hx e
    obtain ⟨rfl, rfl⟩ := gad_inj (by have := f3 r' i' hx; omega) (by omega) e
    rw [hx] at f1
    cases f1
  have adx : ∀ r' i', X.1 r' i' = true → gup ad (gad r i) H.size (gad r' i') = ad (gad r' i') := fun r' i' hx => gup_ne _ _ (ne r' i' hx)
  have adh : ∀ r' i', 60 ≤ r' → r' < 64 → gup ad (gad r i) H.size (gad r' i') = ad (gad r' i') := fun r' i' hx hy => gup_ne _ _ (fun e => by
    have := gad_inj hy (by omega) e
    omega)
  have lt : ∀ r' i', X.1 r' i' = true → ad (gad r' i') < H.size := fun r' i' hx => gAt_lt (h2 r' i' hx)
  refine ⟨by omega, ?_, ?_, ?_, ?_, ?_, ?_⟩
  · intro r' i' hx
    by_cases he : r' = r ∧ i' = i
    · obtain ⟨rfl, rfl⟩ := he
      exact hn
    · have hx0 : X.1 r' i' = true := (gXadd_iff.mp hx).resolve_right he
      have hg := h2 r' i' hx0
      have hfv : ∀ t j, gfv (gup ad (gad r i) H.size) (gXadd X r i) (gZero M r i) r' i' t j = gfv ad X M r' i' t j := by
        intro t j
        unfold gfv
        show (if t = 0 then Value.int (if r' = r ∧ i' = i then 0 else M.1 r' i' j) else if t = 1 then Value.long (if r' = r ∧ i' = i then 0 else M.2 r' i' j) else va_rf (Option.map _ (if r' = r ∧ i' = i then none else X.2 r' i' j))) = _
        rw [if_neg he, if_neg he, if_neg he]
        split
        · rfl
        · split
          · rfl
          · cases hj : X.2 r' i' j with
            | none => rfl
            | some a =>
              show va_rf (some _) = va_rf (some _)
              rw [gup_ne _ _ (fun e => f2 r' i' j hx0 (by rw [hj, e]))]
      unfold gAt at hg ⊢
      simp only [hfv]
      rw [adx r' i' hx0, gup_ne cA c (ne r' i' hx0)]
      have hq := ho _ (lt r' i' hx0)
      split
      · next hs => rw [if_pos hs] at hg; exact hg.kept hq
      · next hs => rw [if_neg hs] at hg; rw [hq]; exact hg
  · intro r1 i1 r2 i2 hx1 hx2 e
    rcases gXadd_iff.mp hx1 with hy1 | ⟨hy1, hy1'⟩
    · rcases gXadd_iff.mp hx2 with hy2 | ⟨hy2, hy2'⟩
      · rw [adx r1 i1 hy1, adx r2 i2 hy2] at e
        exact h3 r1 i1 r2 i2 hy1 hy2 e
      · rw [adx r1 i1 hy1, hy2, hy2', gup_same] at e
        have := lt r1 i1 hy1
        omega
    · rcases gXadd_iff.mp hx2 with hy2 | ⟨hy2, hy2'⟩
      · rw [adx r2 i2 hy2, hy1, hy1', gup_same] at e
        have := lt r2 i2 hy2
        omega
      · exact ⟨hy1.trans hy2.symm, hy1'.trans hy2'.symm⟩
  · intro r' i' hx
    rcases gXadd_iff.mp hx with hx | ⟨rfl, rfl⟩
    · rw [adx r' i' hx]
      exact h4 r' i' hx
    · rw [gup_same]
      exact h1
  · intro r' i' hx hs
    rcases gXadd_iff.mp hx with hx | ⟨rfl, rfl⟩
    · rw [gup_ne cA c (ne r' i' hx)]
      exact h5 r' i' hx hs
    · rw [gup_same]
      exact hty hs
  · have h6' := h6.kept (H1 := H1) (fun a ha _ => ho a ha)
    intro k hk
    rw [adh 63 k (by omega) (by omega)]
    exact h6' k hk
  · have h7' := h7.kept (H1 := H1) (fun a ha _ => ho a ha)
    refine ⟨fun k hk => ?_, h7'.2.1, ?_⟩
    · rw [adh 62 k (by omega) (by omega), adh 61 k (by omega) (by omega)]
      exact h7'.1 k hk
    · rw [adh 60 0 (by omega) (by omega)]
      exact h7'.2.2
/-- a reference is put into a cell -/
theorem gWd.putR {D : va_G} {base : Nat} {ad : Nat → Nat} {cA : Nat → ClassId} {X : gX} {M : gM} {U : State} {H H1 : Heap} {r i j a : Nat} (h : gWd D base ad cA X M U H) (he : X.1 r i = true) (hz : H1.size = H.size) (oq : ∀ q : Nat, q ≠ ad (gad r i) → H1[q]? = H[q]?)
    (hn : gAt D ad cA (gXref X r i j a) M r i H1) : gWd D base ad cA (gXref X r i j a) M U H1 := by
  obtain ⟨h1, h2, h3, h4, h5, h6, h7⟩ := h
  refine ⟨by rw [hz]; exact h1, fun r' i' hx => ?_, h3, h4, h5, h6.kept (fun b _ hb => oq b (fun e => hb (by rw [e]; exact h4 r i he))), h7.kept (fun b _ hb => oq b (fun e => hb (by rw [e]; exact h4 r i he)))⟩
  by_cases hri : r' = r ∧ i' = i
  · obtain ⟨rfl, rfl⟩ := hri
    exact hn
  · have hx0 : X.1 r' i' = true := hx
    have hg := h2 r' i' hx0
    have hfv : ∀ t k, gfv ad (gXref X r i j a) M r' i' t k = gfv ad X M r' i' t k := by
      intro t k
      unfold gfv
      show (if t = 0 then _ else if t = 1 then _ else va_rf (Option.map ad (if r' = r ∧ i' = i ∧ k = j then some a else X.2 r' i' k))) = _
      rw [if_neg (show ¬ (r' = r ∧ i' = i ∧ k = j) from fun z => hri ⟨z.1, z.2.1⟩)]
    have hq := oq (ad (gad r' i')) (fun e => hri (h3 r' i' r i hx0 he e))
    unfold gAt at hg ⊢
    simp only [hfv]
    split
    · next hs => rw [if_pos hs] at hg; exact hg.kept hq
    · next hs => rw [if_neg hs] at hg; rw [hq]; exact hg
/-! the walk of a method that makes cells: the room it has used stands in Φ -/
abbrev gF : Type := Nat → Nat → (Nat → Nat) → (Nat → ClassId) → gX → gM → Nat → List (Nat × Value) → List Value → Prop
/-- Φ cells slots ad cA X: the walk with so much made; at its end mc cells and ms slots are made, Z tells of it -/
def gD (Φ : gF) (l : Launch) (D : va_G) (base : Nat) (ad0 : Nat → Nat) (cc : ByteArray) (own : String) (nL : Nat) (fr lo mc ms : Nat) (mname : String) : Prop :=
  ∃ (p : Program) (e : Env) (s : State) (m : MethodId) (args : Array Value) (below : List Frame) (meth : Method) (c : Code) (Q : State → Prop) (R : Room),
    Φ = (fun cells slots ad cA X M pc ls st => ∀ (H : Heap) (locs : List Loc) (lsA : Array Slot), lv_has lsA nL (gls ad ls) → gWd D base ad cA X M s H → va_S (gA base) s.heap H locs →
      W p l e R s m args below meth c H locs cells slots Q (F0 m pc lsA (st.map (gv ad)))) ∧
    p.tables.exec = Jvm.exec ∧ c.code = cc ∧ c.maxLocals = nL ∧ s.vm.findClass own = some m.cls ∧ (∀ w ∈ gws, w.before args s = true) ∧ gK D ad0 s ∧ R.frames = fr ∧ R.locals = lo ∧ R.cells = mc ∧ R.slots = ms ∧ meth.name = mname
theorem gK.ad {D : va_G} {ad ad' : Nat → Nat} {U : State} (h : gK D ad U) (he : ∀ k, k < 2 → ad' (gad 62 k) = ad (gad 62 k)) : gK D ad' U := by
  refine ⟨h.1, fun k hk => ?_, h.2.2⟩
  rw [he _ (by rcases (show k = 0 ∨ k = 1 ∨ k = 2 ∨ k = 3 by omega) with rfl | rfl | rfl | rfl <;> decide)]
  exact h.2.1 k hk
theorem gD.C {Φ : gF} {l : Launch} {D : va_G} {base : Nat} {ad0 : Nat → Nat} {cc : ByteArray} {own : String} {nL fr lo mc ms : Nat} {mn : String} (h : gD Φ l D base ad0 cc own nL fr lo mc ms mn) {cells slots : Nat} (h1 : cells ≤ mc) (h2 : slots ≤ ms) {ad : Nat → Nat} (cA : Nat → ClassId) (X : gX) (had : ∀ k, k < 2 → ad (gad 62 k) = ad0 (gad 62 k)) (ret : Option FieldType) (v0 : Option Value) (M0 : gM) : gC (Φ cells slots ad cA X) (l, D, base, ad, cA) X cc own nL ret fr lo v0 M0 := by
  obtain ⟨p, e, s, m, args, below, meth, c, Q, R, rfl, hx, hb, hml, hown, hts, hK, rfl, rfl, rfl, rfl, hmn⟩ := h
  exact ⟨p, e, s, m, args, below, meth, c, Q, R, cells, slots, rfl, hx, hb, hml, hown, hts, hK.ad had, rfl, rfl, h1, h2⟩
