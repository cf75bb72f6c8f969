/-! cells that are made -/
theorem gad_inj {r i r' i' : Nat} (h1 : r < 64) (h2 : r' < 64) (h : gad r i = gad r' i') : r = r' ∧ i = i' := by
  unfold gad at h
  omega
def gup {α : Type} (f : Nat → α) (a : Nat) (v : α) : Nat → α := fun b => if b = a then v else f b
theorem gup_same {α : Type} (f : Nat → α) (a : Nat) (v : α) : gup f a v a = v := if_pos rfl
theorem gup_ne {α : Type} (f : Nat → α) {a b : Nat} (v : α) (h : b ≠ a) : gup f a v b = f b := if_neg h
def gXadd (X : gX) (r i : Nat) : gX := (fun r' i' => X.1 r' i' || (decide (r' = r) && decide (i' = i)), fun r' i' j => if r' = r ∧ i' = i then none else X.2 r' i' j)
def gXref (X : gX) (r i j a : Nat) : gX := (X.1, fun r' i' j' => if r' = r ∧ i' = i ∧ j' = j then some a else X.2 r' i' j')
def gZero (M : gM) (r i : Nat) : gM := (fun r' i' k => if r' = r ∧ i' = i then 0 else M.1 r' i' k, fun r' i' k => if r' = r ∧ i' = i then 0 else M.2 r' i' k)
/-- nothing that is there refers to it -/
def gFr (X : gX) (r i : Nat) : Prop := X.1 r i = false ∧ (∀ r' i' j, X.1 r' i' = true → X.2 r' i' j ≠ some (gad r i)) ∧ ∀ r' i', X.1 r' i' = true → r' < 60
theorem gXadd_iff {X : gX} {r i r' i' : Nat} : (gXadd X r i).1 r' i' = true ↔ X.1 r' i' = true ∨ (r' = r ∧ i' = i) := by simp [gXadd]
theorem gXadd_old {X : gX} {r i r' i' : Nat} (h : X.1 r' i' = true) : (gXadd X r i).1 r' i' = true := gXadd_iff.mpr (Or.inl h)
theorem gXadd_new {X : gX} {r i : Nat} : (gXadd X r i).1 r i = true := gXadd_iff.mpr (Or.inr ⟨rfl, rfl⟩)
theorem gdef_int (ty : FieldType) (h : ty = .int ∨ ty = .char ∨ ty = .byte ∨ ty = .boolean) : defaultValue ty = .int 0 := by rcases h with rfl | rfl | rfl | rfl <;> rfl
/-- a new cell behind all others: the world with it -/
theorem gWd.alloc {D : va_G} {base : Nat} {ad : Nat → Nat} {cA : Nat → ClassId} {X : gX} {M : gM} {U : State} {H H1 : Heap} {r i : Nat} {c : ClassId} (h : gWd D base ad cA X M U H) (hr : r < 60) (hf : gFr X r i) (hz : H1.size = H.size + 1) (ho : ∀ q, q < H.size → H1[q]? = H[q]?)
    (hn : gAt D (gup ad (gad r i) H.size) (gup cA (gad r i) c) (gXadd X r i) (gZero M r i) r i H1) (hty : 100 ≤ gSh r → ArrOfT U c (gTy (gSh r)) ∧ va_RA U c (gTy (gSh r))) :
    gWd D base (gup ad (gad r i) H.size) (gup cA (gad r i) c) (gXadd X r i) (gZero M r i) U H1 := by
  obtain ⟨h1, h2, h3, h4, h5, h6, h7⟩ := h
  obtain ⟨f1, f2, f3⟩ := hf
  have ne : ∀ r' i', X.1 r' i' = true → gad r' i' ≠ gad r i := by
    intro r' i' hx e
    obtain ⟨rfl, rfl⟩ := gad_inj (by have := f3 r' i' hx; omega) (by omega) e
    rw [hx] at f1
    cases f1
  have adx : ∀ r' i', X.1 r' i' = true → gup ad (gad r i) H.size (gad r' i') = ad (gad r' i') := fun r' i' hx => gup_ne _ _ (ne r' i' hx)
  have adh : ∀ r' i', 60 ≤ r' → r' < 64 → gup ad (gad r i) H.size (gad r' i') = ad (gad r' i') := fun r' i' hx hy => gup_ne _ _ (fun e => by
    have := gad_inj hy (by omega) e
    omega)
  have lt : ∀ r' i', X.1 r' i' = true → ad (gad r' i') < H.size := fun r' i' hx => gAt_lt (h2 r' i' hx)
  refine ⟨by omega, ?_, ?_, ?_, ?_, ?_, ?_⟩
  · intro r' i' hx
    by_cases he : r' = r ∧ i' = i
    · obtain ⟨rfl, rfl⟩ := he
      exact hn
    · have hx0 : X.1 r' i' = true := (gXadd_iff.mp hx).resolve_right he
      have hg := h2 r' i' hx0
      have hfv : ∀ t j, gfv (gup ad (gad r i) H.size) (gXadd X r i) (gZero M r i) r' i' t j = gfv ad X M r' i' t j := by
        intro t j
        unfold gfv
        show (if t = 0 then Value.int (if r' = r ∧ i' = i then 0 else M.1 r' i' j) else if t = 1 then Value.long (if r' = r ∧ i' = i then 0 else M.2 r' i' j) else va_rf (Option.map _ (if r' = r ∧ i' = i then none else X.2 r' i' j))) = _
        rw [if_neg he, if_neg he, if_neg he]
        split
        · rfl
        · split
          · rfl
          · cases hj : X.2 r' i' j with
            | none => rfl
            | some a =>
              show va_rf (some _) = va_rf (some _)
              rw [gup_ne _ _ (fun e => f2 r' i' j hx0 (by rw [hj, e]))]
      unfold gAt at hg ⊢
      simp only [hfv]
      rw [adx r' i' hx0, gup_ne cA c (ne r' i' hx0)]
      have hq := ho _ (lt r' i' hx0)
      split
      · next hs => rw [if_pos hs] at hg; exact hg.kept hq
      · next hs => rw [if_neg hs] at hg; rw [hq]; exact hg
  · intro r1 i1 r2 i2 hx1 hx2 e
    rcases gXadd_iff.mp hx1 with hy1 | ⟨hy1, hy1'⟩
    · rcases gXadd_iff.mp hx2 with hy2 | ⟨hy2, hy2'⟩
      · rw [adx r1 i1 hy1, adx r2 i2 hy2] at e
        exact h3 r1 i1 r2 i2 hy1 hy2 e
      · rw [adx r1 i1 hy1, hy2, hy2', gup_same] at e
        have := lt r1 i1 hy1
        omega
    · rcases gXadd_iff.mp hx2 with hy2 | ⟨hy2, hy2'⟩
      · rw [adx r2 i2 hy2, hy1, hy1', gup_same] at e
        have := lt r2 i2 hy2
        omega
      · exact ⟨hy1.trans hy2.symm, hy1'.trans hy2'.symm⟩
  · intro r' i' hx
    rcases gXadd_iff.mp hx with hx | ⟨rfl, rfl⟩
    · rw [adx r' i' hx]
      exact h4 r' i' hx
    · rw [gup_same]
      exact h1
  · intro r' i' hx hs
    rcases gXadd_iff.mp hx with hx | ⟨rfl, rfl⟩
    · rw [gup_ne cA c (ne r' i' hx)]
      exact h5 r' i' hx hs
    · rw [gup_same]
      exact hty hs
  · have h6' := h6.kept (H1 := H1) (fun a ha _ => ho a ha)
    intro k hk
    rw [adh 63 k (by omega) (by omega)]
    exact h6' k hk
  · have h7' := h7.kept (H1 := H1) (fun a ha _ => ho a ha)
    refine ⟨fun k hk => ?_, h7'.2.1, ?_⟩
    · rw [adh 62 k (by omega) (by omega), adh 61 k (by omega) (by omega)]
      exact h7'.1 k hk
    · rw [adh 60 0 (by omega) (by omega)]
      exact h7'.2.2
/-- a reference is put into a cell -/
theorem gWd.putR {D : va_G} {base : Nat} {ad : Nat → Nat} {cA : Nat → ClassId} {X : gX} {M : gM} {U : State} {H H1 : Heap} {r i j a : Nat} (h : gWd D base ad cA X M U H) (he : X.1 r i = true) (hz : H1.size = H.size) (oq : ∀ q : Nat, q ≠ ad (gad r i) → H1[q]? = H[q]?)
    (hn : gAt D ad cA (gXref X r i j a) M r i H1) : gWd D base ad cA (gXref X r i j a) M U H1 := by
  obtain ⟨h1, h2, h3, h4, h5, h6, h7⟩ := h
  refine ⟨by rw [hz]; exact h1, fun r' i' hx => ?_, h3, h4, h5, h6.kept (fun b _ hb => oq b (fun e => hb (by rw [e]; exact h4 r i he))), h7.kept (fun b _ hb => oq b (fun e => hb (by rw [e]; exact h4 r i he)))⟩
  by_cases hri : r' = r ∧ i' = i
  · obtain ⟨rfl, rfl⟩ := hri
    exact hn
  · have hx0 : X.1 r' i' = true := hx
    have hg := h2 r' i' hx0
    have hfv : ∀ t k, gfv ad (gXref X r i j a) M r' i' t k = gfv ad X M r' i' t k := by
      intro t k
      unfold gfv
      show (if t = 0 then _ else if t = 1 then _ else va_rf (Option.map ad (if r' = r ∧ i' = i ∧ k = j then some a else X.2 r' i' k))) = _
      rw [if_neg (show ¬ (r' = r ∧ i' = i ∧ k = j) from fun z => hri ⟨z.1, z.2.1⟩)]
    have hq := oq (ad (gad r' i')) (fun e => hri (h3 r' i' r i hx0 he e))
    unfold gAt at hg ⊢
    simp only [hfv]
    split
    · next hs => rw [if_pos hs] at hg; exact hg.kept hq
    · next hs => rw [if_neg hs] at hg; rw [hq]; exact hg
/-! the walk of a method that makes cells: the room it has used stands in Φ -/
abbrev gF : Type := Nat → Nat → (Nat → Nat) → (Nat → ClassId) → gX → gM → Nat → List (Nat × Value) → List Value → Prop
/-- Φ cells slots ad cA X: the walk with so much made; at its end mc cells and ms slots are made, Z tells of it -/
def gD (Φ : gF) (l : Launch) (D : va_G) (base : Nat) (ad0 : Nat → Nat) (cc : ByteArray) (own : String) (nL : Nat) (fr lo mc ms : Nat) (mname : String) : Prop :=
  ∃ (p : Program) (e : Env) (s : State) (m : MethodId) (args : Array Value) (below : List Frame) (meth : Method) (c : Code) (Q : State → Prop) (R : Room),
    Φ = (fun cells slots ad cA X M pc ls st => ∀ (H : Heap) (locs : List Loc) (lsA : Array Slot), lv_has lsA nL (gls ad ls) → gWd D base ad cA X M s H → va_S (gA base) s.heap H locs →
      W p l e R s m args below meth c H locs cells slots Q (F0 m pc lsA (st.map (gv ad)))) ∧
    p.tables.exec = Jvm.exec ∧ c.code = cc ∧ c.maxLocals = nL ∧ s.vm.findClass own = some m.cls ∧ (∀ w ∈ gws, w.before args s = true) ∧ gK D ad0 s ∧ R.frames = fr ∧ R.locals = lo ∧ R.cells = mc ∧ R.slots = ms ∧ meth.name = mname
theorem gK.ad {D : va_G} {ad ad' : Nat → Nat} {U : State} (h : gK D ad U) (he : ∀ k, k < 2 → ad' (gad 62 k) = ad (gad 62 k)) : gK D ad' U := by
  refine ⟨h.1, fun k hk => ?_, h.2.2⟩
  rw [he _ (by rcases (show k = 0 ∨ k = 1 ∨ k = 2 ∨ k = 3 by omega) with rfl | rfl | rfl | rfl <;> decide)]
  exact h.2.1 k hk
theorem gD.C {Φ : gF} {l : Launch} {D : va_G} {base : Nat} {ad0 : Nat → Nat} {cc : ByteArray} {own : String} {nL fr lo mc ms : Nat} {mn : String} (h : gD Φ l D base ad0 cc own nL fr lo mc ms mn) {cells slots : Nat} (h1 : cells ≤ mc) (h2 : slots ≤ ms) {ad : Nat → Nat} (cA : Nat → ClassId) (X : gX) (had : ∀ k, k < 2 → ad (gad 62 k) = ad0 (gad 62 k)) (ret : Option FieldType) (v0 : Option Value) (M0 : gM) : gC (Φ cells slots ad cA X) (l, D, base, ad, cA) X cc own nL ret fr lo v0 M0 := by
  obtain ⟨p, e, s, m, args, below, meth, c, Q, R, rfl, hx, hb, hml, hown, hts, hK, rfl, rfl, rfl, rfl, hmn⟩ := h
  exact ⟨p, e, s, m, args, below, meth, c, Q, R, cells, slots, rfl, hx, hb, hml, hown, hts, hK.ad had, rfl, rfl, h1, h2⟩
def gAgr (X : gX) (ad ad' : Nat → Nat) : Prop := (∀ r i, X.1 r i = true → ad' (gad r i) = ad (gad r i)) ∧ ∀ r i, 60 ≤ r → r < 64 → ad' (gad r i) = ad (gad r i)
theorem gAgr.rf {X : gX} {ad : Nat → Nat} : gAgr X ad ad := ⟨fun _ _ _ => rfl, fun _ _ _ _ => rfl⟩
theorem gAgr.trans {X X' : gX} {ad ad' ad'' : Nat → Nat} (h1 : gAgr X ad ad') (h2 : gAgr X' ad' ad'') (hX : ∀ r i, X.1 r i = true → X'.1 r i = true) : gAgr X ad ad'' := ⟨fun r i h => (h2.1 r i (hX r i h)).trans (h1.1 r i h), fun r i h h' => (h2.2 r i h h').trans (h1.2 r i h h')⟩
theorem gAgr.str {X : gX} {ad ad' : Nat → Nat} (h : gAgr X ad ad') : ∀ k, k < 2 → ad' (gad 62 k) = ad (gad 62 k) := fun k _ => h.2 62 k (by decide) (by decide)
def gEv (X : gX) (v : Value) : Prop := ∀ a, v = .ref a → ∃ r i, a = gad r i ∧ (X.1 r i = true ∨ (60 ≤ r ∧ r < 64))
theorem gEv_i (X : gX) (x : Int32) : gEv X (.int x) := fun _ h => by cases h
theorem gEv_l (X : gX) (x : Int64) : gEv X (.long x) := fun _ h => by cases h
theorem gEv_r {X : gX} {r i : Nat} (h : X.1 r i = true) : gEv X (.ref (gad r i)) := fun a e => by cases e; exact ⟨r, i, rfl, Or.inl h⟩
theorem gEv.gv {X : gX} {ad ad' : Nat → Nat} {v : Value} (h : gEv X v) (ha : gAgr X ad ad') : gv ad' v = gv ad v := by
  cases v with
  | ref a =>
    obtain ⟨r, i, rfl, h1 | h1⟩ := h a rfl
    · show Value.ref _ = Value.ref _
      rw [ha.1 r i h1]
    · show Value.ref _ = Value.ref _
      rw [ha.2 r i h1.1 h1.2]
  | _ => rfl
theorem gEv_ls {X : gX} {ad ad' : Nat → Nat} (ha : gAgr X ad ad') : ∀ {ls : List (Nat × Value)}, (∀ q ∈ ls, gEv X q.2) → gls ad' ls = gls ad ls := by
  intro ls h
  unfold gls
  apply List.map_congr_left
  intro q hq
  rw [(h q hq).gv ha]
theorem gEv_st {X : gX} {ad ad' : Nat → Nat} (ha : gAgr X ad ad') : ∀ {st : List Value}, (∀ v ∈ st, gEv X v) → st.map (gv ad') = st.map (gv ad) := by
  intro st h
  apply List.map_congr_left
  intro v hv
  exact (h v hv).gv ha
def gPostD (D : va_G) (base : Nat) (ad : Nat → Nat) (X : gX) (v : Option Value) (X' : gX) (M' : gM) : Array Value → State → Outcome → State → Prop := fun _ st o t => o = .returned (v.map (gv ad)) ∧ (∃ ad' cA', gAgr X ad ad' ∧ gWd D base ad' cA' X' M' t t.heap) ∧ va_F (gA base) st t
def gMetD (l : Launch) (D : va_G) (base : Nat) (y : MethodName) (cc : ByteArray) (n : Nat) (ret : Option FieldType) (fr lo mc ms : Nat) (ad : Nat → Nat) (cA : Nat → ClassId) (X : gX) (M : gM) (av : List Value) (v : Option Value) (X' : gX) (M' : gM) : Prop :=
  Met l y (gwm y cc n ret) { frames := fr, cells := mc, slots := ms, locals := lo } (gPre (l, D, base, ad, cA) X M av) (gPostD D base ad X v X' M') mc ms (gA base)
section GDR
variable {Φ : gF} {l : Launch} {D : va_G} {base : Nat} {ad0 : Nat → Nat} {cc : ByteArray} {own : String} {nL fr lo mc ms : Nat} {mn : String} {cells slots : Nat} {ad : Nat → Nat} {cA : Nat → ClassId} {X : gX} {M : gM} {pc : Nat} {ls : List (Nat × Value)} {st : List Value}
theorem gAgr_add {r i a : Nat} (hr : r < 60) (hf : gFr X r i) : gAgr X ad (gup ad (gad r i) a) := by
  refine ⟨fun r' i' h => gup_ne _ _ (fun e => ?_), fun r' i' h h' => gup_ne _ _ (fun e => ?_)⟩
  · obtain ⟨rfl, rfl⟩ := gad_inj (by have := hf.2.2 r' i' h; omega) (by omega) e
    have hf1 := hf.1
    rw [h] at hf1
    cases hf1
  · have := gad_inj h' (by omega) e
    omega
theorem gS_new {A : Nat → Prop} {H0 H H1 : Heap} {locs : List Loc} (h : va_S A H0 H locs) (z : H1.size = H.size + 1) (o : ∀ q, q < H.size → H1[q]? = H[q]?) : va_S A H0 H1 locs := ⟨Nat.le_trans h.1 (by omega), fun x h1 h2 => (o x (Nat.lt_of_lt_of_le h1 h.1)).trans (h.2.1 x h1 h2), h.2.2⟩
theorem d_new (Z : gD Φ l D base ad0 cc own nL fr lo mc ms mn) {index r i : Nat} {Cn : String} {T : u_T} {N : Nat} (d : decode cc pc = .ok (.new index, 3)) (had : ∀ k, k < 2 → ad (gad 62 k) = ad0 (gad 62 k)) (hr : r < 60) (hc : vwCl[gSh r]? = some (Cn, T, N)) (hN : gClN (gSh r) = N) (hs : gSh r < 100) (hin : ∀ w ∈ u_ws Cn T N, w ∈ gws)
    (ty0 : Nat → FieldType) (hty : ∀ k, k < N → parseFieldDescriptor (T k).2.2.1 = some (ty0 k)) (hdv : ∀ k, k < N → defaultValue (ty0 k) = if gFt (gSh r) k = 0 then .int 0 else if gFt (gSh r) k = 1 then .long 0 else .null)
    (hcl : Cond.classLink own index Cn ∈ gws) (hinst : Cond.instantiable Cn N ∈ gws) (hini : Cond.initialized Cn ∈ gws) (hf : gFr X r i) (hroom : cells + 1 ≤ mc ∧ slots + N ≤ ms) (hls : ∀ q ∈ ls, gEv X q.2) (hst : ∀ v ∈ st, gEv X v)
    (k : ∀ ad', gAgr X ad ad' → Φ (cells + 1) (slots + N) ad' cA (gXadd X r i) (gZero M r i) (pc + 3) ls (.ref (gad r i) :: st)) : Φ cells slots ad cA X M pc ls st := by
  obtain ⟨p, e, s, m, args, below, meth, c, Q, R, rfl, hx, hb, hml, hown, hts, hK, rfl, rfl, rfl, rfl, hmn⟩ := Z
  intro H locs lsA h1 h2 h3
  have hKn := hK.1 (gSh r) _ hc
  have ha := gAgr_add (ad := ad) (a := H.size) hr hf
  refine W.newcK hx hb hown (hts _ hcl) (hts _ hinst) (hts _ hini) rfl d hroom.1 hroom.2 hKn.2.1 rfl fun H1 kC hkC e1 z1 o1 => ?_
  have hcA : gup cA (gad r i) (cA (gad r i)) = cA := by
    funext b
    unfold gup
    split
    · next hb => rw [hb]
    · rfl
  have hn : gAt D (gup ad (gad r i) H.size) (gup cA (gad r i) (cA (gad r i))) (gXadd X r i) (gZero M r i) r i H1 := by
    unfold gAt
    rw [if_pos hs, gup_same, hN]
    refine (u_born ty0 hts hin hKn hkC e1 hty).to (fun k hk => ?_)
    rw [hdv k hk]
    unfold gfv
    show _ = (if gFt (gSh r) k = 0 then Value.int (if r = r ∧ i = i then 0 else _) else if gFt (gSh r) k = 1 then Value.long (if r = r ∧ i = i then 0 else _) else va_rf (Option.map _ (if r = r ∧ i = i then none else _)))
    simp only [and_self, if_true]
    rfl
  have hw := h2.alloc hr hf z1 o1 hn (fun h => by omega)
  rw [hcA] at hw
  have key := k _ ha H1 locs lsA (by rw [gEv_ls ha hls]; exact h1) hw (gS_new h3 z1 o1)
  have est : (Value.ref (gad r i) :: st).map (gv (gup ad (gad r i) H.size)) = Value.ref H.size :: st.map (gv ad) := by
    rw [List.map_cons, gEv_st ha hst]
    show Value.ref (gup ad (gad r i) H.size (gad r i)) :: _ = _
    rw [gup_same]
  rw [est] at key
  exact key
theorem d_newA (Z : gD Φ l D base ad0 cc own nL fr lo mc ms mn) {atype : ArrayType} {r i N : Nat} {n : Int32} (d : decode cc pc = .ok (.newarray atype, 2)) (hr : r < 60) (hsh : 100 ≤ gSh r) (hty : newarray.typeOf atype = gTy (gSh r)) (hdv : defaultValue (gTy (gSh r)) = if gFt (gSh r) 0 = 0 then .int 0 else .long 0) (hft : gFt (gSh r) 0 = 0 ∨ gFt (gSh r) 0 = 1) (harr : Cond.arrayClass (newarray.typeOf atype) ∈ gws) (hn0 : ¬ n < 0 ∧ n.toNatClampNeg = N ∧ N * componentBytes (newarray.typeOf atype) ≤ 536870912) (hlen : gLen r i = N)
    (hf : gFr X r i) (hroom : cells + 1 ≤ mc ∧ slots + N ≤ ms) (hls : ∀ q ∈ ls, gEv X q.2) (hst : ∀ v ∈ st, gEv X v)
    (k : ∀ ad' cA', gAgr X ad ad' → Φ (cells + 1) (slots + N) ad' cA' (gXadd X r i) (gZero M r i) (pc + 2) ls (.ref (gad r i) :: st)) : Φ cells slots ad cA X M pc ls (.int n :: st) := by
  obtain ⟨p, e, s, m, args, below, meth, c, Q, R, rfl, hx, hb, hml, hown, hts, hK, rfl, rfl, rfl, rfl, hmn⟩ := Z
  intro H locs lsA h1 h2 h3
  have ha := gAgr_add (ad := ad) (a := H.size) hr hf
  refine va_newaK hx hb (hts _ harr) rfl d rfl hn0.1 hn0.2.1 hn0.2.2 hroom.1 hroom.2 rfl fun H1 cN e1 z1 o1 hAr hNm => ?_
  have hn : gAt D (gup ad (gad r i) H.size) (gup cA (gad r i) cN) (gXadd X r i) (gZero M r i) r i H1 := by
    unfold gAt
    rw [if_neg (by omega), gup_same, gup_same, hlen, e1, hty]
    congr 2
    funext j
    rw [hdv, gFt_arr hsh j 0]
    unfold gfv
    show _ = (if gFt (gSh r) 0 = 0 then Value.int (if r = r ∧ i = i then 0 else _) else if gFt (gSh r) 0 = 1 then Value.long (if r = r ∧ i = i then 0 else _) else _)
    rcases hft with h0 | h0
    · simp only [h0, and_self, if_true]
    · simp only [h0, and_self, if_true]
  have hw := h2.alloc hr hf z1 o1 hn (fun _ => ⟨by rw [← hty]; exact hAr, by rw [← hty]; cases atype <;> exact hNm⟩)
  have key := k _ _ ha H1 locs lsA (by rw [gEv_ls ha hls]; exact h1) hw (gS_new h3 z1 o1)
  have est : (Value.ref (gad r i) :: st).map (gv (gup ad (gad r i) H.size)) = Value.ref H.size :: st.map (gv ad) := by
    rw [List.map_cons, gEv_st ha hst]
    show Value.ref (gup ad (gad r i) H.size (gad r i)) :: _ = _
    rw [gup_same]
  rw [est] at key
  exact key
theorem d_newQ (Z : gD Φ l D base ad0 cc own nL fr lo mc ms mn) {index r i N : Nat} {Cn : String} {n : Int32} (d : decode cc pc = .ok (.anewarray index, 3)) (hr : r < 60) (hsh : 100 ≤ gSh r) (hty : gTy (gSh r) = .object Cn) (hft : gFt (gSh r) 0 = 2) (hcl : Cond.classLink own index Cn ∈ gws) (hover : Cn = RX0 ∨ Cn = RX5 ∨ Cn = RX6) (hn0 : ¬ n < 0 ∧ n.toNatClampNeg = N ∧ N * 4 ≤ 536870912) (hlen : gLen r i = N)
    (hf : gFr X r i) (hroom : cells + 1 ≤ mc ∧ slots + N ≤ ms) (hls : ∀ q ∈ ls, gEv X q.2) (hst : ∀ v ∈ st, gEv X v)
    (k : ∀ ad' cA', gAgr X ad ad' → Φ (cells + 1) (slots + N) ad' cA' (gXadd X r i) (gZero M r i) (pc + 3) ls (.ref (gad r i) :: st)) : Φ cells slots ad cA X M pc ls (.int n :: st) := by
  obtain ⟨p, e, s, m, args, below, meth, c, Q, R, rfl, hx, hb, hml, hown, hts, hK, rfl, rfl, rfl, rfl, hmn⟩ := Z
  intro H locs lsA h1 h2 h3
  have ha := gAgr_add (ad := ad) (a := H.size) hr hf
  have hAO : va_AO Cn s := by
    rcases hover with rfl | rfl | rfl
    · exact hK.2.2.2.1
    · exact hK.2.2.2.2.1
    · exact hK.2.2.2.2.2
  obtain ⟨hn1, rfl, hn3⟩ := hn0
  refine W.anew hx hb hown (hts _ hcl) (va_AO.use hAO) rfl d rfl hn1 hn3 hroom.1 hroom.2 fun cN kA comp f1 f2 f3 f4 => ?_
  generalize hH1 : H.push ({ cls := cN, slots := Array.replicate n.toNatClampNeg .null, vm := .none } : Cell) = H1
  have z1 : H1.size = H.size + 1 := by rw [← hH1, Array.size_push]
  have e1 : H1[H.size]? = some (arrV cN n.toNatClampNeg (fun _ => .null)) := by rw [← hH1, Array.getElem?_push_size, ← arrV_new]
  have o1 : ∀ q : Nat, q < H.size → H1[q]? = H[q]? := fun q hq => by rw [← hH1, Array.getElem?_push, if_neg (Nat.ne_of_lt hq)]
  have hn : gAt D (gup ad (gad r i) H.size) (gup cA (gad r i) cN) (gXadd X r i) (gZero M r i) r i H1 := by
    unfold gAt
    rw [if_neg (by omega), gup_same, gup_same, hlen, e1]
    congr 2
    funext j
    rw [gFt_arr hsh j 0, hft]
    unfold gfv
    show _ = va_rf (Option.map _ (if r = r ∧ i = i then none else _))
    simp only [and_self, if_true]
    rfl
  have hw := h2.alloc hr hf z1 o1 hn (fun _ => by
    rw [hty]
    exact ⟨fun N z => ⟨(fun k h => by cases h), kA, f2, comp, f3⟩, kA, comp, f2, f3, f4, f1⟩)
  have key := k _ _ ha H1 locs lsA (by rw [gEv_ls ha hls]; exact h1) hw (gS_new h3 z1 o1)
  have est : (Value.ref (gad r i) :: st).map (gv (gup ad (gad r i) H.size)) = Value.ref H.size :: st.map (gv ad) := by
    rw [List.map_cons, gEv_st ha hst]
    show Value.ref (gup ad (gad r i) H.size (gad r i)) :: _ = _
    rw [gup_same]
  rw [est] at key
  exact key
theorem d_putR (Z : gD Φ l D base ad0 cc own nL fr lo mc ms "<init>") {index r i j a : Nat} {Cn : String} {T : u_T} {N : Nat} (d : decode cc pc = .ok (.putfield index, 3)) (hc : vwCl[gSh r]? = some (Cn, T, N)) (hN : gClN (gSh r) = N) (hs : gSh r < 100) (hk : j < N) (hin : ∀ w ∈ u_ws Cn T N, w ∈ gws) (hdecl : (T j).1 = Cn) (hown2 : Cn = own) (hlink : Cond.fieldLink own index Cn (T j).2.1 (T j).2.2.1 ∈ gws) (he : X.1 r i = true)
    (ty0 : Nat → FieldType) (hty : ∀ k, k < N → parseFieldDescriptor (T k).2.2.1 = some (ty0 k)) (hnm : ∀ a, a < N → ∀ b, b < N → a ≠ b → (T a).2.1 ≠ (T b).2.1) (hfin : (T j).2.2.2 = true) (hft : gFt (gSh r) j = 2) (hn : ∀ b, narrow (ty0 j) (.ref b) = .ref b) (hfit : ∀ b, fits (ty0 j) (.ref b) = true)
    (k : Φ cells slots ad cA (gXref X r i j a) M (pc + 3) ls st) : Φ cells slots ad cA X M pc ls (.ref a :: .ref (gad r i) :: st) := by
  obtain ⟨p, e, s, m, args, below, meth, c, Q, R, rfl, hx, hb, hml, hown, hts, hK, rfl, rfl, rfl, rfl, hmn⟩ := Z
  intro H locs lsA h1 h2 h3
  have hK0 : va_K D vwCl [] s := ⟨hK.1, fun k q h => by simp at h⟩
  have hap := va_apart (own := own) hts hin ty0 hty hnm hK0 hc
  obtain ⟨cell, q1, q2, q3, q4⟩ := gAt_obj hs (h2.2.1 r i he)
  rw [hN] at q4
  obtain ⟨hS, hfc, kC, hkC, hkind⟩ := hK.1 (gSh r) _ hc
  obtain ⟨cf, kf, fi, f, hi, hsl⟩ := hS j hk
  have hlay := hts _ (hin _ (u_in_lay hk))
  unfold u_lay at hlay
  rw [if_pos hfin] at hlay
  have hst := (u_facts hfc hkC (u_lays hts hin hk) hi).1
  have hcf : m.cls = cf := by
    obtain ⟨_, _, c', _, _, _, -, -, hf', -, -, -, hown3, -⟩ := Cond.laysFinal_spec hlay
    have e1 : c' = cf := by have := hi.symm.trans hf'; simp at this; exact this.1.symm
    rw [hdecl, hown2] at hown3
    rw [← e1]; exact Option.some.inj (hown.symm.trans hown3)
  have h6 := u_fits hfc hkC hkind (Or.inr hlay) hi (hty j hk) (hn (ad a)) (hfit (ad a))
  refine W.putFinK hx hb hown (hts _ hlink) (hdecl ▸ hi) hst hcf hmn (a := ad (gad r i)) (v := .ref (ad a)) (by rw [q2]; exact h6) q1 q3 (by rw [hsl]; exact k2_hasslot (q4 j hk)) (g := F0 m pc lsA ((.ref a :: .ref (gad r i) :: st).map (gv ad))) rfl (rest := st.map (gv ad)) rfl d fun H' e1 e2 e3 => ?_
  rw [hsl] at e1 ⊢
  refine k H' _ lsA h1 (h2.putR he e2 e3 ?_) (h3.put e2 e3 (h2.2.2.2.1 r i he))
  unfold gAt
  rw [if_pos hs]
  refine t_OB.to (V := updV (fun j => gfv ad X M r i (gFt (gSh r) j) j) j (.ref (ad a))) ⟨_, e1, q2, q3, by rw [hN]; exact t_set q4 hap hk _⟩ (fun j' _ => ?_)
  unfold updV
  split
  · next hj =>
    rw [hj, hft]
    show _ = va_rf (Option.map ad (if r = r ∧ i = i ∧ j = j then some a else _))
    rw [if_pos ⟨rfl, rfl, rfl⟩]
    rfl
  · next hj =>
    unfold gfv
    show _ = (if _ then _ else if _ then _ else va_rf (Option.map ad (if r = r ∧ i = i ∧ j' = j then some a else X.2 r i j')))
    rw [if_neg (show ¬ (r = r ∧ i = i ∧ j' = j) from fun z => hj z.2.2)]
theorem d_aast (Z : gD Φ l D base ad0 cc own nL fr lo mc ms mn) {r i r2 i2 : Nat} {x : Int32} {q : vw_C} (d : decode cc pc = .ok (.aastore, 1)) (hsh : 100 ≤ gSh r) (hty : gTy (gSh r) = .object q.1) (hft : gFt (gSh r) 0 = 2) (he : X.1 r i = true) (hg : gin x (gLen r i) = true) (hs2 : gSh r2 < 100) (hc : vwCl[gSh r2]? = some q) (he2 : X.1 r2 i2 = true)
    (k : Φ cells slots ad cA (gXref X r i x.toNatClampNeg (gad r2 i2)) M (pc + 1) ls st) : Φ cells slots ad cA X M pc ls (.ref (gad r2 i2) :: .int x :: .ref (gad r i) :: st) := by
  obtain ⟨p, e, s, m, args, below, meth, c, Q, R, rfl, hx, hb, hml, hown, hts, hK, rfl, rfl, rfl, rfl, hmn⟩ := Z
  intro H locs lsA h1 h2 h3
  have hin := gin_iff.mp hg
  have hlt := gin_lt hg
  have h0 : ¬ x < 0 := fun z => hin (Or.inl z)
  obtain ⟨cellV, g1, g2, g3, -⟩ := gAt_obj hs2 (h2.2.1 r2 i2 he2)
  have hcls := (hK.1 (gSh r2) q hc).2
  have hRA := (h2.2.2.2.2.1 r i he hsh).2
  rw [hty] at hRA
  obtain ⟨kA, comp, k1, k2, k3, -⟩ := hRA
  have hcomp : comp = D.1 (gSh r2) := Option.some.inj (k3.symm.trans hcls.1)
  subst hcomp
  obtain ⟨kC, hkC, -⟩ := hcls.2
  refine W.aast hx hb (gAt_arr hsh (h2.2.1 r i he)) (fun q h => by cases h) (fun h => by cases h) k1 k2 rfl hkC ⟨h0, by show _ < (arrV _ _ _).slots.size; rw [arrV_size]; exact hlt⟩ g1 (fun q h => by rw [g3] at h; cases h) (by rw [g2]; exact hkC) (by rw [g2]; exact va_assign hcls) rfl rfl d fun H1 e1 z oq => ?_
  refine k H1 _ lsA h1 (h2.putR he z oq ?_) (h3.put z oq (h2.2.2.2.1 r i he))
  unfold gAt
  rw [if_neg (by omega), e1, arrV_store]
  congr 2
  funext j'
  unfold updV
  split
  · next hj =>
    rw [hj, gFt_arr hsh _ 0, hft]
    show _ = va_rf (Option.map ad (if r = r ∧ i = i ∧ _ = _ then some _ else _))
    rw [if_pos ⟨rfl, rfl, rfl⟩]
    rfl
  · next hj =>
    unfold gfv
    show _ = (if _ then _ else if _ then _ else va_rf (Option.map ad (if r = r ∧ i = i ∧ j' = x.toNatClampNeg then some _ else X.2 r i j')))
    rw [if_neg (show ¬ (r = r ∧ i = i ∧ j' = x.toNatClampNeg) from fun z => hj z.2.2)]
theorem d_obj (Z : gD Φ l D base ad0 cc own nL fr lo mc ms mn) {index a : Nat} (d : decode cc pc = .ok (.invokespecial index, 3)) (hl : Cond.methodLink own index objectInit ∈ gws) (hR : 1 ≤ fr ∧ 20 ≤ lo) (hcat : (st.map fun v => v.category).sum ≤ 8) (k : Φ cells slots ad cA X M (pc + 3) ls st) : Φ cells slots ad cA X M pc ls (.ref a :: st) := by
  obtain ⟨p, e, s, m, args, below, meth, c, Q, R, rfl, hx, hb, hml, hown, hts, hK, rfl, rfl, rfl, rfl, hmn⟩ := Z
  intro H locs lsA h1 h2 h3
  exact W.objInit hx hb hown (hts _ hl) (hts _ q146) (hts _ q147) (g := F0 m pc lsA ((.ref a :: st).map (gv ad))) rfl (by rw [hml]; exact h1.1) (a := ad a) (rest := st.map (gv ad)) rfl d hR.1 (by show 2 * 0 + _ + 12 ≤ _; rw [gv_catsum]; omega) (k H locs lsA h1 h2 h3)
end GDR
