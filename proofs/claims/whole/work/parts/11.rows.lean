section GR
variable {Ψ : gM → Nat → List (Nat × Value) → List Value → Prop} {G : gG5} {X : gX} {cc : ByteArray} {own : String} {nL : Nat} {ret : Option FieldType} {fr lo : Nat} {v0 : Option Value} {M0 M : gM} {pc : Nat} {ls ls' : List (Nat × Value)} {st : List Value}
theorem r_iconst (C : gC Ψ G X cc own nL ret fr lo v0 M0) {n : Int} {v : Int32} (d : decode cc pc = .ok (.iconst n, 1)) (hv : Int32.ofInt n = v) (k : Ψ M (pc + 1) ls (.int v :: st)) : Ψ M pc ls (st) := by
  obtain ⟨p, e, s, m, args, below, meth, c, Q, R, cells, slots, rfl, hx, hb, hml, hown, hts, hK, rfl, rfl, hcl, hsl⟩ := C
  intro H locs lsA h1 h2 h3
  exact lv_iconst hx hb d hv (k H locs lsA h1 h2 h3)
theorem r_bipush (C : gC Ψ G X cc own nL ret fr lo v0 M0) {n : Int} {v : Int32} (d : decode cc pc = .ok (.bipush n, 2)) (hv : (Int8.ofInt n).toInt32 = v) (k : Ψ M (pc + 2) ls (.int v :: st)) : Ψ M pc ls (st) := by
  obtain ⟨p, e, s, m, args, below, meth, c, Q, R, cells, slots, rfl, hx, hb, hml, hown, hts, hK, rfl, rfl, hcl, hsl⟩ := C
  intro H locs lsA h1 h2 h3
  exact lv_bipush hx hb d hv (k H locs lsA h1 h2 h3)
theorem r_sipush (C : gC Ψ G X cc own nL ret fr lo v0 M0) {n : Int} {v : Int32} (d : decode cc pc = .ok (.sipush n, 3)) (hv : (Int16.ofInt n).toInt32 = v) (k : Ψ M (pc + 3) ls (.int v :: st)) : Ψ M pc ls (st) := by
  obtain ⟨p, e, s, m, args, below, meth, c, Q, R, cells, slots, rfl, hx, hb, hml, hown, hts, hK, rfl, rfl, hcl, hsl⟩ := C
  intro H locs lsA h1 h2 h3
  exact lv_sipush hx hb d hv (k H locs lsA h1 h2 h3)
theorem r_lconst (C : gC Ψ G X cc own nL ret fr lo v0 M0) {n : Fin 2} {v : Int64} (d : decode cc pc = .ok (.lconst n, 1)) (hv : Int64.ofNat (n : Nat) = v) (k : Ψ M (pc + 1) ls (.long v :: st)) : Ψ M pc ls (st) := by
  obtain ⟨p, e, s, m, args, below, meth, c, Q, R, cells, slots, rfl, hx, hb, hml, hown, hts, hK, rfl, rfl, hcl, hsl⟩ := C
  intro H locs lsA h1 h2 h3
  exact lv_lconst hx hb d hv (k H locs lsA h1 h2 h3)
theorem r_ldc (C : gC Ψ G X cc own nL ret fr lo v0 M0) {index : Nat} {v : Int32} (d : decode cc pc = .ok (.ldc index, 2)) (hw : Cond.constant own index v ∈ gws) (k : Ψ M (pc + 2) ls (.int v :: st)) : Ψ M pc ls (st) := by
  obtain ⟨p, e, s, m, args, below, meth, c, Q, R, cells, slots, rfl, hx, hb, hml, hown, hts, hK, rfl, rfl, hcl, hsl⟩ := C
  intro H locs lsA h1 h2 h3
  exact lv_ldc hx hb hown (hts _ hw) d (k H locs lsA h1 h2 h3)
theorem r_ldcw (C : gC Ψ G X cc own nL ret fr lo v0 M0) {index : Nat} {v : Int32} (d : decode cc pc = .ok (.ldc_w index, 3)) (hw : Cond.constant own index v ∈ gws) (k : Ψ M (pc + 3) ls (.int v :: st)) : Ψ M pc ls (st) := by
  obtain ⟨p, e, s, m, args, below, meth, c, Q, R, cells, slots, rfl, hx, hb, hml, hown, hts, hK, rfl, rfl, hcl, hsl⟩ := C
  intro H locs lsA h1 h2 h3
  exact lv_ldcw hx hb hown (hts _ hw) d (k H locs lsA h1 h2 h3)
theorem r_ldc2 (C : gC Ψ G X cc own nL ret fr lo v0 M0) {index : Nat} {v : Int64} (d : decode cc pc = .ok (.ldc2_w index, 3)) (hw : Cond.constantLong own index v ∈ gws) (k : Ψ M (pc + 3) ls (.long v :: st)) : Ψ M pc ls (st) := by
  obtain ⟨p, e, s, m, args, below, meth, c, Q, R, cells, slots, rfl, hx, hb, hml, hown, hts, hK, rfl, rfl, hcl, hsl⟩ := C
  intro H locs lsA h1 h2 h3
  exact lv_ldc2 hx hb hown (hts _ hw) d (k H locs lsA h1 h2 h3)
theorem r_iload_n (C : gC Ψ G X cc own nL ret fr lo v0 M0) {k0 : Fin 4} {i : Nat} {x : Int32} (d : decode cc pc = .ok (.iload_n k0, 1)) (hi : (k0 : Nat) = i) (j : Nat) (hl : ls[j]? = some (i, .int x)) (k : Ψ M (pc + 1) ls (.int x :: st)) : Ψ M pc ls (st) := by
  obtain ⟨p, e, s, m, args, below, meth, c, Q, R, cells, slots, rfl, hx, hb, hml, hown, hts, hK, rfl, rfl, hcl, hsl⟩ := C
  intro H locs lsA h1 h2 h3
  exact lv_iload_n hx hb d hi (lv_at h1 j (gls_at hl)) (k H locs lsA h1 h2 h3)
theorem r_iload (C : gC Ψ G X cc own nL ret fr lo v0 M0) {i : Nat} {x : Int32} (d : decode cc pc = .ok (.iload i, 2)) (j : Nat) (hl : ls[j]? = some (i, .int x)) (k : Ψ M (pc + 2) ls (.int x :: st)) : Ψ M pc ls (st) := by
  obtain ⟨p, e, s, m, args, below, meth, c, Q, R, cells, slots, rfl, hx, hb, hml, hown, hts, hK, rfl, rfl, hcl, hsl⟩ := C
  intro H locs lsA h1 h2 h3
  exact lv_iload hx hb d (lv_at h1 j (gls_at hl)) (k H locs lsA h1 h2 h3)
theorem r_lload_n (C : gC Ψ G X cc own nL ret fr lo v0 M0) {k0 : Fin 4} {i : Nat} {x : Int64} (d : decode cc pc = .ok (.lload_n k0, 1)) (hi : (k0 : Nat) = i) (j : Nat) (hl : ls[j]? = some (i, .long x)) (k : Ψ M (pc + 1) ls (.long x :: st)) : Ψ M pc ls (st) := by
  obtain ⟨p, e, s, m, args, below, meth, c, Q, R, cells, slots, rfl, hx, hb, hml, hown, hts, hK, rfl, rfl, hcl, hsl⟩ := C
  intro H locs lsA h1 h2 h3
  exact lv_lload_n hx hb d hi (lv_at h1 j (gls_at hl)) (k H locs lsA h1 h2 h3)
theorem r_lload (C : gC Ψ G X cc own nL ret fr lo v0 M0) {i : Nat} {x : Int64} (d : decode cc pc = .ok (.lload i, 2)) (j : Nat) (hl : ls[j]? = some (i, .long x)) (k : Ψ M (pc + 2) ls (.long x :: st)) : Ψ M pc ls (st) := by
  obtain ⟨p, e, s, m, args, below, meth, c, Q, R, cells, slots, rfl, hx, hb, hml, hown, hts, hK, rfl, rfl, hcl, hsl⟩ := C
  intro H locs lsA h1 h2 h3
  exact lv_lload hx hb d (lv_at h1 j (gls_at hl)) (k H locs lsA h1 h2 h3)
theorem r_aload_n (C : gC Ψ G X cc own nL ret fr lo v0 M0) {k0 : Fin 4} {i : Nat} {x : Nat} (d : decode cc pc = .ok (.aload_n k0, 1)) (hi : (k0 : Nat) = i) (j : Nat) (hl : ls[j]? = some (i, .ref x)) (k : Ψ M (pc + 1) ls (.ref x :: st)) : Ψ M pc ls (st) := by
  obtain ⟨p, e, s, m, args, below, meth, c, Q, R, cells, slots, rfl, hx, hb, hml, hown, hts, hK, rfl, rfl, hcl, hsl⟩ := C
  intro H locs lsA h1 h2 h3
  exact lv_aload_n hx hb d hi (lv_at h1 j (gls_at hl)) (k H locs lsA h1 h2 h3)
theorem r_aload (C : gC Ψ G X cc own nL ret fr lo v0 M0) {i : Nat} {x : Nat} (d : decode cc pc = .ok (.aload i, 2)) (j : Nat) (hl : ls[j]? = some (i, .ref x)) (k : Ψ M (pc + 2) ls (.ref x :: st)) : Ψ M pc ls (st) := by
  obtain ⟨p, e, s, m, args, below, meth, c, Q, R, cells, slots, rfl, hx, hb, hml, hown, hts, hK, rfl, rfl, hcl, hsl⟩ := C
  intro H locs lsA h1 h2 h3
  exact lv_aload hx hb d (lv_at h1 j (gls_at hl)) (k H locs lsA h1 h2 h3)
theorem r_istore_n (C : gC Ψ G X cc own nL ret fr lo v0 M0) {k0 : Fin 4} {i : Nat} {x y : Int32} (d : decode cc pc = .ok (.istore_n k0, 1)) (hi : (k0 : Nat) = i) (hn : i < nL) (hy : y = x) (hl : (i, Value.int y) :: ls.filter (fun q => !(q.1 == i) && !(q.1 + 1 == i && q.2.category == 2)) = ls') (k : Ψ M (pc + 1) ls' st) : Ψ M pc ls (.int x :: st) := by
  subst hy
  obtain ⟨p, e, s, m, args, below, meth, c, Q, R, cells, slots, rfl, hx, hb, hml, hown, hts, hK, rfl, rfl, hcl, hsl⟩ := C
  intro H locs lsA h1 h2 h3
  exact lv_istore_n hx hb d hi h1 hn (gls_store hl) (fun a ha => k H locs a ha h2 h3)
theorem r_istore (C : gC Ψ G X cc own nL ret fr lo v0 M0) {i : Nat} {x y : Int32} (d : decode cc pc = .ok (.istore i, 2)) (hn : i < nL) (hy : y = x) (hl : (i, Value.int y) :: ls.filter (fun q => !(q.1 == i) && !(q.1 + 1 == i && q.2.category == 2)) = ls') (k : Ψ M (pc + 2) ls' st) : Ψ M pc ls (.int x :: st) := by
  subst hy
  obtain ⟨p, e, s, m, args, below, meth, c, Q, R, cells, slots, rfl, hx, hb, hml, hown, hts, hK, rfl, rfl, hcl, hsl⟩ := C
  intro H locs lsA h1 h2 h3
  exact lv_istore hx hb d h1 hn (gls_store hl) (fun a ha => k H locs a ha h2 h3)
theorem r_lstore_n (C : gC Ψ G X cc own nL ret fr lo v0 M0) {k0 : Fin 4} {i : Nat} {x y : Int64} (d : decode cc pc = .ok (.lstore_n k0, 1)) (hi : (k0 : Nat) = i) (hn : i + 1 < nL) (hy : y = x) (hl : (i, Value.long y) :: ls.filter (fun q => !(q.1 == i) && (!(q.1 == i + 1) && !(q.1 + 1 == i && q.2.category == 2))) = ls') (k : Ψ M (pc + 1) ls' st) : Ψ M pc ls (.long x :: st) := by
  subst hy
  obtain ⟨p, e, s, m, args, below, meth, c, Q, R, cells, slots, rfl, hx, hb, hml, hown, hts, hK, rfl, rfl, hcl, hsl⟩ := C
  intro H locs lsA h1 h2 h3
  exact lv_lstore_n hx hb d hi h1 hn (gls_storeL hl) (fun a ha => k H locs a ha h2 h3)
theorem r_lstore (C : gC Ψ G X cc own nL ret fr lo v0 M0) {i : Nat} {x y : Int64} (d : decode cc pc = .ok (.lstore i, 2)) (hn : i + 1 < nL) (hy : y = x) (hl : (i, Value.long y) :: ls.filter (fun q => !(q.1 == i) && (!(q.1 == i + 1) && !(q.1 + 1 == i && q.2.category == 2))) = ls') (k : Ψ M (pc + 2) ls' st) : Ψ M pc ls (.long x :: st) := by
  subst hy
  obtain ⟨p, e, s, m, args, below, meth, c, Q, R, cells, slots, rfl, hx, hb, hml, hown, hts, hK, rfl, rfl, hcl, hsl⟩ := C
  intro H locs lsA h1 h2 h3
  exact lv_lstore hx hb d h1 hn (gls_storeL hl) (fun a ha => k H locs a ha h2 h3)
theorem r_astore_n (C : gC Ψ G X cc own nL ret fr lo v0 M0) {k0 : Fin 4} {i : Nat} {x y : Nat} (d : decode cc pc = .ok (.astore_n k0, 1)) (hi : (k0 : Nat) = i) (hn : i < nL) (hy : y = x) (hl : (i, Value.ref y) :: ls.filter (fun q => !(q.1 == i) && !(q.1 + 1 == i && q.2.category == 2)) = ls') (k : Ψ M (pc + 1) ls' st) : Ψ M pc ls (.ref x :: st) := by
  subst hy
  obtain ⟨p, e, s, m, args, below, meth, c, Q, R, cells, slots, rfl, hx, hb, hml, hown, hts, hK, rfl, rfl, hcl, hsl⟩ := C
  intro H locs lsA h1 h2 h3
  exact lv_astore_n hx hb d hi h1 hn (gls_store hl) (fun a ha => k H locs a ha h2 h3)
theorem r_astore (C : gC Ψ G X cc own nL ret fr lo v0 M0) {i : Nat} {x y : Nat} (d : decode cc pc = .ok (.astore i, 2)) (hn : i < nL) (hy : y = x) (hl : (i, Value.ref y) :: ls.filter (fun q => !(q.1 == i) && !(q.1 + 1 == i && q.2.category == 2)) = ls') (k : Ψ M (pc + 2) ls' st) : Ψ M pc ls (.ref x :: st) := by
  subst hy
  obtain ⟨p, e, s, m, args, below, meth, c, Q, R, cells, slots, rfl, hx, hb, hml, hown, hts, hK, rfl, rfl, hcl, hsl⟩ := C
  intro H locs lsA h1 h2 h3
  exact lv_astore hx hb d h1 hn (gls_store hl) (fun a ha => k H locs a ha h2 h3)
theorem r_iinc (C : gC Ψ G X cc own nL ret fr lo v0 M0) {i : Nat} {n : Int} {x w y : Int32} (d : decode cc pc = .ok (.iinc i n, 3)) (j : Nat) (hj : ls[j]? = some (i, .int x)) (hw : x + Int32.ofInt n = w) (hn : i < nL) (hy : y = w) (hl : (i, Value.int y) :: ls.filter (fun q => !(q.1 == i) && !(q.1 + 1 == i && q.2.category == 2)) = ls') (k : Ψ M (pc + 3) ls' st) : Ψ M pc ls st := by
  subst hy
  obtain ⟨p, e, s, m, args, below, meth, c, Q, R, cells, slots, rfl, hx, hb, hml, hown, hts, hK, rfl, rfl, hcl, hsl⟩ := C
  intro H locs lsA h1 h2 h3
  exact lv_iinc hx hb d h1 (gls_at hj) hw hn (gls_store hl) (fun a ha => k H locs a ha h2 h3)
def gRem (x y : Int32) : Int32 := x - x / y * y
def gRemL (x y : Int64) : Int64 := x - x / y * y
theorem r_iadd (C : gC Ψ G X cc own nL ret fr lo v0 M0) {x y : Int32} (d : decode cc pc = .ok (.iadd, 1))  (k : Ψ M (pc + 1) ls (.int (x + y) :: st)) : Ψ M pc ls (.int y :: .int x :: st) := by
  obtain ⟨p, e, s, m, args, below, meth, c, Q, R, cells, slots, rfl, hx, hb, hml, hown, hts, hK, rfl, rfl, hcl, hsl⟩ := C
  intro H locs lsA h1 h2 h3
  exact lv_iadd hx hb d (k H locs lsA h1 h2 h3)
theorem r_isub (C : gC Ψ G X cc own nL ret fr lo v0 M0) {x y : Int32} (d : decode cc pc = .ok (.isub, 1))  (k : Ψ M (pc + 1) ls (.int (x - y) :: st)) : Ψ M pc ls (.int y :: .int x :: st) := by
  obtain ⟨p, e, s, m, args, below, meth, c, Q, R, cells, slots, rfl, hx, hb, hml, hown, hts, hK, rfl, rfl, hcl, hsl⟩ := C
  intro H locs lsA h1 h2 h3
  exact lv_isub hx hb d (k H locs lsA h1 h2 h3)
theorem r_imul (C : gC Ψ G X cc own nL ret fr lo v0 M0) {x y : Int32} (d : decode cc pc = .ok (.imul, 1))  (k : Ψ M (pc + 1) ls (.int (x * y) :: st)) : Ψ M pc ls (.int y :: .int x :: st) := by
  obtain ⟨p, e, s, m, args, below, meth, c, Q, R, cells, slots, rfl, hx, hb, hml, hown, hts, hK, rfl, rfl, hcl, hsl⟩ := C
  intro H locs lsA h1 h2 h3
  exact lv_imul hx hb d (k H locs lsA h1 h2 h3)
theorem r_iand (C : gC Ψ G X cc own nL ret fr lo v0 M0) {x y : Int32} (d : decode cc pc = .ok (.iand, 1))  (k : Ψ M (pc + 1) ls (.int (x &&& y) :: st)) : Ψ M pc ls (.int y :: .int x :: st) := by
  obtain ⟨p, e, s, m, args, below, meth, c, Q, R, cells, slots, rfl, hx, hb, hml, hown, hts, hK, rfl, rfl, hcl, hsl⟩ := C
  intro H locs lsA h1 h2 h3
  exact lv_iand hx hb d (k H locs lsA h1 h2 h3)
theorem r_ior (C : gC Ψ G X cc own nL ret fr lo v0 M0) {x y : Int32} (d : decode cc pc = .ok (.ior, 1))  (k : Ψ M (pc + 1) ls (.int (x ||| y) :: st)) : Ψ M pc ls (.int y :: .int x :: st) := by
  obtain ⟨p, e, s, m, args, below, meth, c, Q, R, cells, slots, rfl, hx, hb, hml, hown, hts, hK, rfl, rfl, hcl, hsl⟩ := C
  intro H locs lsA h1 h2 h3
  exact lv_ior hx hb d (k H locs lsA h1 h2 h3)
theorem r_ixor (C : gC Ψ G X cc own nL ret fr lo v0 M0) {x y : Int32} (d : decode cc pc = .ok (.ixor, 1))  (k : Ψ M (pc + 1) ls (.int (x ^^^ y) :: st)) : Ψ M pc ls (.int y :: .int x :: st) := by
  obtain ⟨p, e, s, m, args, below, meth, c, Q, R, cells, slots, rfl, hx, hb, hml, hown, hts, hK, rfl, rfl, hcl, hsl⟩ := C
  intro H locs lsA h1 h2 h3
  exact lv_ixor hx hb d (k H locs lsA h1 h2 h3)
theorem r_ishl (C : gC Ψ G X cc own nL ret fr lo v0 M0) {x y : Int32} (d : decode cc pc = .ok (.ishl, 1))  (k : Ψ M (pc + 1) ls (.int (x <<< (y &&& 31)) :: st)) : Ψ M pc ls (.int y :: .int x :: st) := by
  obtain ⟨p, e, s, m, args, below, meth, c, Q, R, cells, slots, rfl, hx, hb, hml, hown, hts, hK, rfl, rfl, hcl, hsl⟩ := C
  intro H locs lsA h1 h2 h3
  exact lv_ishl hx hb d (k H locs lsA h1 h2 h3)
theorem r_ishr (C : gC Ψ G X cc own nL ret fr lo v0 M0) {x y : Int32} (d : decode cc pc = .ok (.ishr, 1))  (k : Ψ M (pc + 1) ls (.int (x >>> (y &&& 31)) :: st)) : Ψ M pc ls (.int y :: .int x :: st) := by
  obtain ⟨p, e, s, m, args, below, meth, c, Q, R, cells, slots, rfl, hx, hb, hml, hown, hts, hK, rfl, rfl, hcl, hsl⟩ := C
  intro H locs lsA h1 h2 h3
  exact lv_ishr hx hb d (k H locs lsA h1 h2 h3)
theorem r_iushr (C : gC Ψ G X cc own nL ret fr lo v0 M0) {x y : Int32} (d : decode cc pc = .ok (.iushr, 1))  (k : Ψ M (pc + 1) ls (.int ((x.toUInt32 >>> (y.toUInt32 &&& Int32.toUInt32 31)).toInt32) :: st)) : Ψ M pc ls (.int y :: .int x :: st) := by
  obtain ⟨p, e, s, m, args, below, meth, c, Q, R, cells, slots, rfl, hx, hb, hml, hown, hts, hK, rfl, rfl, hcl, hsl⟩ := C
  intro H locs lsA h1 h2 h3
  exact lv_iushr hx hb d rfl (k H locs lsA h1 h2 h3)
theorem r_idiv (C : gC Ψ G X cc own nL ret fr lo v0 M0) {x y : Int32} (d : decode cc pc = .ok (.idiv, 1)) (hne : ¬ y = 0) (k : Ψ M (pc + 1) ls (.int (x / y) :: st)) : Ψ M pc ls (.int y :: .int x :: st) := by
  obtain ⟨p, e, s, m, args, below, meth, c, Q, R, cells, slots, rfl, hx, hb, hml, hown, hts, hK, rfl, rfl, hcl, hsl⟩ := C
  intro H locs lsA h1 h2 h3
  exact lv_idiv hx hb d hne (k H locs lsA h1 h2 h3)
theorem r_irem (C : gC Ψ G X cc own nL ret fr lo v0 M0) {x y : Int32} (d : decode cc pc = .ok (.irem, 1)) (hne : ¬ y = 0) (k : Ψ M (pc + 1) ls (.int (gRem x y) :: st)) : Ψ M pc ls (.int y :: .int x :: st) := by
  obtain ⟨p, e, s, m, args, below, meth, c, Q, R, cells, slots, rfl, hx, hb, hml, hown, hts, hK, rfl, rfl, hcl, hsl⟩ := C
  intro H locs lsA h1 h2 h3
  exact lv_irem hx hb d hne (k H locs lsA h1 h2 h3)
theorem r_ineg (C : gC Ψ G X cc own nL ret fr lo v0 M0) {x : Int32} (d : decode cc pc = .ok (.ineg, 1))  (k : Ψ M (pc + 1) ls (.int (-x) :: st)) : Ψ M pc ls (.int x :: st) := by
  obtain ⟨p, e, s, m, args, below, meth, c, Q, R, cells, slots, rfl, hx, hb, hml, hown, hts, hK, rfl, rfl, hcl, hsl⟩ := C
  intro H locs lsA h1 h2 h3
  exact lv_ineg hx hb d (k H locs lsA h1 h2 h3)
theorem r_ladd (C : gC Ψ G X cc own nL ret fr lo v0 M0) {x y : Int64} (d : decode cc pc = .ok (.ladd, 1))  (k : Ψ M (pc + 1) ls (.long (x + y) :: st)) : Ψ M pc ls (.long y :: .long x :: st) := by
  obtain ⟨p, e, s, m, args, below, meth, c, Q, R, cells, slots, rfl, hx, hb, hml, hown, hts, hK, rfl, rfl, hcl, hsl⟩ := C
  intro H locs lsA h1 h2 h3
  exact lv_ladd hx hb d (k H locs lsA h1 h2 h3)
theorem r_lsub (C : gC Ψ G X cc own nL ret fr lo v0 M0) {x y : Int64} (d : decode cc pc = .ok (.lsub, 1))  (k : Ψ M (pc + 1) ls (.long (x - y) :: st)) : Ψ M pc ls (.long y :: .long x :: st) := by
  obtain ⟨p, e, s, m, args, below, meth, c, Q, R, cells, slots, rfl, hx, hb, hml, hown, hts, hK, rfl, rfl, hcl, hsl⟩ := C
  intro H locs lsA h1 h2 h3
  exact lv_lsub hx hb d (k H locs lsA h1 h2 h3)
theorem r_lmul (C : gC Ψ G X cc own nL ret fr lo v0 M0) {x y : Int64} (d : decode cc pc = .ok (.lmul, 1))  (k : Ψ M (pc + 1) ls (.long (x * y) :: st)) : Ψ M pc ls (.long y :: .long x :: st) := by
  obtain ⟨p, e, s, m, args, below, meth, c, Q, R, cells, slots, rfl, hx, hb, hml, hown, hts, hK, rfl, rfl, hcl, hsl⟩ := C
  intro H locs lsA h1 h2 h3
  exact lv_lmul hx hb d (k H locs lsA h1 h2 h3)
theorem r_land (C : gC Ψ G X cc own nL ret fr lo v0 M0) {x y : Int64} (d : decode cc pc = .ok (.land, 1))  (k : Ψ M (pc + 1) ls (.long (x &&& y) :: st)) : Ψ M pc ls (.long y :: .long x :: st) := by
  obtain ⟨p, e, s, m, args, below, meth, c, Q, R, cells, slots, rfl, hx, hb, hml, hown, hts, hK, rfl, rfl, hcl, hsl⟩ := C
  intro H locs lsA h1 h2 h3
  exact lv_land hx hb d (k H locs lsA h1 h2 h3)
theorem r_lor (C : gC Ψ G X cc own nL ret fr lo v0 M0) {x y : Int64} (d : decode cc pc = .ok (.lor, 1))  (k : Ψ M (pc + 1) ls (.long (x ||| y) :: st)) : Ψ M pc ls (.long y :: .long x :: st) := by
  obtain ⟨p, e, s, m, args, below, meth, c, Q, R, cells, slots, rfl, hx, hb, hml, hown, hts, hK, rfl, rfl, hcl, hsl⟩ := C
  intro H locs lsA h1 h2 h3
  exact lv_lor hx hb d (k H locs lsA h1 h2 h3)
theorem r_ldiv (C : gC Ψ G X cc own nL ret fr lo v0 M0) {x y : Int64} (d : decode cc pc = .ok (.ldiv, 1)) (hne : ¬ y = 0) (k : Ψ M (pc + 1) ls (.long (x / y) :: st)) : Ψ M pc ls (.long y :: .long x :: st) := by
  obtain ⟨p, e, s, m, args, below, meth, c, Q, R, cells, slots, rfl, hx, hb, hml, hown, hts, hK, rfl, rfl, hcl, hsl⟩ := C
  intro H locs lsA h1 h2 h3
  exact lv_ldiv hx hb d hne (k H locs lsA h1 h2 h3)
theorem r_lrem (C : gC Ψ G X cc own nL ret fr lo v0 M0) {x y : Int64} (d : decode cc pc = .ok (.lrem, 1)) (hne : ¬ y = 0) (k : Ψ M (pc + 1) ls (.long (gRemL x y) :: st)) : Ψ M pc ls (.long y :: .long x :: st) := by
  obtain ⟨p, e, s, m, args, below, meth, c, Q, R, cells, slots, rfl, hx, hb, hml, hown, hts, hK, rfl, rfl, hcl, hsl⟩ := C
  intro H locs lsA h1 h2 h3
  exact lv_lrem hx hb d hne (k H locs lsA h1 h2 h3)
theorem r_lushr (C : gC Ψ G X cc own nL ret fr lo v0 M0) {x : Int64} {y : Int32} (d : decode cc pc = .ok (.lushr, 1))  (k : Ψ M (pc + 1) ls (.long ((x.toUInt64 >>> (y.toInt64.toUInt64 &&& Int64.toUInt64 63)).toInt64) :: st)) : Ψ M pc ls (.int y :: .long x :: st) := by
  obtain ⟨p, e, s, m, args, below, meth, c, Q, R, cells, slots, rfl, hx, hb, hml, hown, hts, hK, rfl, rfl, hcl, hsl⟩ := C
  intro H locs lsA h1 h2 h3
  exact lv_lushr hx hb d rfl (k H locs lsA h1 h2 h3)
theorem r_lshl (C : gC Ψ G X cc own nL ret fr lo v0 M0) {x : Int64} {y : Int32} (d : decode cc pc = .ok (.lshl, 1))  (k : Ψ M (pc + 1) ls (.long (x <<< (y.toInt64 &&& 63)) :: st)) : Ψ M pc ls (.int y :: .long x :: st) := by
  obtain ⟨p, e, s, m, args, below, meth, c, Q, R, cells, slots, rfl, hx, hb, hml, hown, hts, hK, rfl, rfl, hcl, hsl⟩ := C
  intro H locs lsA h1 h2 h3
  exact lv_lshl hx hb d rfl (k H locs lsA h1 h2 h3)
theorem r_lcmp (C : gC Ψ G X cc own nL ret fr lo v0 M0) {x y : Int64} (d : decode cc pc = .ok (.lcmp, 1))  (k : Ψ M (pc + 1) ls (.int (lg_cmp x y) :: st)) : Ψ M pc ls (.long y :: .long x :: st) := by
  obtain ⟨p, e, s, m, args, below, meth, c, Q, R, cells, slots, rfl, hx, hb, hml, hown, hts, hK, rfl, rfl, hcl, hsl⟩ := C
  intro H locs lsA h1 h2 h3
  exact W.lcmp hx hb d (k H locs lsA h1 h2 h3)
theorem r_i2l (C : gC Ψ G X cc own nL ret fr lo v0 M0) {x : Int32} (d : decode cc pc = .ok (.i2l, 1))  (k : Ψ M (pc + 1) ls (.long x.toInt64 :: st)) : Ψ M pc ls (.int x :: st) := by
  obtain ⟨p, e, s, m, args, below, meth, c, Q, R, cells, slots, rfl, hx, hb, hml, hown, hts, hK, rfl, rfl, hcl, hsl⟩ := C
  intro H locs lsA h1 h2 h3
  exact lv_i2l hx hb d rfl (k H locs lsA h1 h2 h3)
theorem r_l2i (C : gC Ψ G X cc own nL ret fr lo v0 M0) {x : Int64} (d : decode cc pc = .ok (.l2i, 1))  (k : Ψ M (pc + 1) ls (.int x.toInt32 :: st)) : Ψ M pc ls (.long x :: st) := by
  obtain ⟨p, e, s, m, args, below, meth, c, Q, R, cells, slots, rfl, hx, hb, hml, hown, hts, hK, rfl, rfl, hcl, hsl⟩ := C
  intro H locs lsA h1 h2 h3
  exact lv_l2i hx hb d rfl (k H locs lsA h1 h2 h3)
theorem r_i2b (C : gC Ψ G X cc own nL ret fr lo v0 M0) {x : Int32} (d : decode cc pc = .ok (.i2b, 1))  (k : Ψ M (pc + 1) ls (.int x.toInt8.toInt32 :: st)) : Ψ M pc ls (.int x :: st) := by
  obtain ⟨p, e, s, m, args, below, meth, c, Q, R, cells, slots, rfl, hx, hb, hml, hown, hts, hK, rfl, rfl, hcl, hsl⟩ := C
  intro H locs lsA h1 h2 h3
  exact lv_i2b hx hb d rfl (k H locs lsA h1 h2 h3)
theorem r_i2c (C : gC Ψ G X cc own nL ret fr lo v0 M0) {x : Int32} (d : decode cc pc = .ok (.i2c, 1))  (k : Ψ M (pc + 1) ls (.int (x.toUInt32 % 65536).toInt32 :: st)) : Ψ M pc ls (.int x :: st) := by
  obtain ⟨p, e, s, m, args, below, meth, c, Q, R, cells, slots, rfl, hx, hb, hml, hown, hts, hK, rfl, rfl, hcl, hsl⟩ := C
  intro H locs lsA h1 h2 h3
  exact lv_i2c hx hb d rfl (k H locs lsA h1 h2 h3)
theorem r_dup (C : gC Ψ G X cc own nL ret fr lo v0 M0) {va : Value} (d : decode cc pc = .ok (.dup, 1)) (hva : va.category = 1) (k : Ψ M (pc + 1) ls (va :: va :: st)) : Ψ M pc ls (va :: st) := by
  obtain ⟨p, e, s, m, args, below, meth, c, Q, R, cells, slots, rfl, hx, hb, hml, hown, hts, hK, rfl, rfl, hcl, hsl⟩ := C
  intro H locs lsA h1 h2 h3
  exact lv_dup hx hb d (by rw [gv_cat]; exact hva) (k H locs lsA h1 h2 h3)
theorem r_pop (C : gC Ψ G X cc own nL ret fr lo v0 M0) {va : Value} (d : decode cc pc = .ok (.pop, 1)) (hva : va.category = 1) (k : Ψ M (pc + 1) ls (st)) : Ψ M pc ls (va :: st) := by
  obtain ⟨p, e, s, m, args, below, meth, c, Q, R, cells, slots, rfl, hx, hb, hml, hown, hts, hK, rfl, rfl, hcl, hsl⟩ := C
  intro H locs lsA h1 h2 h3
  exact lv_pop hx hb d (by rw [gv_cat]; exact hva) (k H locs lsA h1 h2 h3)
theorem r_dup2 (C : gC Ψ G X cc own nL ret fr lo v0 M0) {va vb : Value} (d : decode cc pc = .ok (.dup2, 1)) (hva : va.category = 1) (hvb : vb.category = 1) (k : Ψ M (pc + 1) ls (va :: vb :: va :: vb :: st)) : Ψ M pc ls (va :: vb :: st) := by
  obtain ⟨p, e, s, m, args, below, meth, c, Q, R, cells, slots, rfl, hx, hb, hml, hown, hts, hK, rfl, rfl, hcl, hsl⟩ := C
  intro H locs lsA h1 h2 h3
  exact lv_dup2_11 hx hb d (by rw [gv_cat]; exact hva) (by rw [gv_cat]; exact hvb) (k H locs lsA h1 h2 h3)
theorem r_dup2l (C : gC Ψ G X cc own nL ret fr lo v0 M0) {va : Value} (d : decode cc pc = .ok (.dup2, 1)) (hva : va.category = 2) (k : Ψ M (pc + 1) ls (va :: va :: st)) : Ψ M pc ls (va :: st) := by
  obtain ⟨p, e, s, m, args, below, meth, c, Q, R, cells, slots, rfl, hx, hb, hml, hown, hts, hK, rfl, rfl, hcl, hsl⟩ := C
  intro H locs lsA h1 h2 h3
  exact lv_dup2_2 hx hb d (by rw [gv_cat]; exact hva) (k H locs lsA h1 h2 h3)
theorem r_if_eq (C : gC Ψ G X cc own nL ret fr lo v0 M0) {x : Int32} {off : Int} {tgt : Nat} (d : decode cc pc = .ok (.ifCond .eq off, 3)) (ht : (pc : Int) + off = (tgt : Int)) (kt : x = 0 → Ψ M tgt ls st) (kf : ¬ x = 0 → Ψ M (pc + 3) ls st) : Ψ M pc ls (.int x :: st) := by
  obtain ⟨p, e, s, m, args, below, meth, c, Q, R, cells, slots, rfl, hx, hb, hml, hown, hts, hK, rfl, rfl, hcl, hsl⟩ := C
  intro H locs lsA h1 h2 h3
  exact lv_if_eq hx hb d ht (fun q => kt q H locs lsA h1 h2 h3) (fun q => kf q H locs lsA h1 h2 h3)
theorem r_icmp_eq (C : gC Ψ G X cc own nL ret fr lo v0 M0) {x y : Int32} {off : Int} {tgt : Nat} (d : decode cc pc = .ok (.if_icmp .eq off, 3)) (ht : (pc : Int) + off = (tgt : Int)) (kt : x = y → Ψ M tgt ls st) (kf : ¬ x = y → Ψ M (pc + 3) ls st) : Ψ M pc ls (.int y :: .int x :: st) := by
  obtain ⟨p, e, s, m, args, below, meth, c, Q, R, cells, slots, rfl, hx, hb, hml, hown, hts, hK, rfl, rfl, hcl, hsl⟩ := C
  intro H locs lsA h1 h2 h3
  exact lv_icmp_eq hx hb d ht (fun q => kt q H locs lsA h1 h2 h3) (fun q => kf q H locs lsA h1 h2 h3)
theorem r_if_ne (C : gC Ψ G X cc own nL ret fr lo v0 M0) {x : Int32} {off : Int} {tgt : Nat} (d : decode cc pc = .ok (.ifCond .ne off, 3)) (ht : (pc : Int) + off = (tgt : Int)) (kt : ¬ x = 0 → Ψ M tgt ls st) (kf : x = 0 → Ψ M (pc + 3) ls st) : Ψ M pc ls (.int x :: st) := by
  obtain ⟨p, e, s, m, args, below, meth, c, Q, R, cells, slots, rfl, hx, hb, hml, hown, hts, hK, rfl, rfl, hcl, hsl⟩ := C
  intro H locs lsA h1 h2 h3
  exact lv_if_ne hx hb d ht (fun q => kt q H locs lsA h1 h2 h3) (fun q => kf q H locs lsA h1 h2 h3)
theorem r_icmp_ne (C : gC Ψ G X cc own nL ret fr lo v0 M0) {x y : Int32} {off : Int} {tgt : Nat} (d : decode cc pc = .ok (.if_icmp .ne off, 3)) (ht : (pc : Int) + off = (tgt : Int)) (kt : ¬ x = y → Ψ M tgt ls st) (kf : x = y → Ψ M (pc + 3) ls st) : Ψ M pc ls (.int y :: .int x :: st) := by
  obtain ⟨p, e, s, m, args, below, meth, c, Q, R, cells, slots, rfl, hx, hb, hml, hown, hts, hK, rfl, rfl, hcl, hsl⟩ := C
  intro H locs lsA h1 h2 h3
  exact lv_icmp_ne hx hb d ht (fun q => kt q H locs lsA h1 h2 h3) (fun q => kf q H locs lsA h1 h2 h3)
theorem r_if_lt (C : gC Ψ G X cc own nL ret fr lo v0 M0) {x : Int32} {off : Int} {tgt : Nat} (d : decode cc pc = .ok (.ifCond .lt off, 3)) (ht : (pc : Int) + off = (tgt : Int)) (kt : x < 0 → Ψ M tgt ls st) (kf : ¬ x < 0 → Ψ M (pc + 3) ls st) : Ψ M pc ls (.int x :: st) := by
  obtain ⟨p, e, s, m, args, below, meth, c, Q, R, cells, slots, rfl, hx, hb, hml, hown, hts, hK, rfl, rfl, hcl, hsl⟩ := C
  intro H locs lsA h1 h2 h3
  exact lv_if_lt hx hb d ht (fun q => kt q H locs lsA h1 h2 h3) (fun q => kf q H locs lsA h1 h2 h3)
theorem r_icmp_lt (C : gC Ψ G X cc own nL ret fr lo v0 M0) {x y : Int32} {off : Int} {tgt : Nat} (d : decode cc pc = .ok (.if_icmp .lt off, 3)) (ht : (pc : Int) + off = (tgt : Int)) (kt : x < y → Ψ M tgt ls st) (kf : ¬ x < y → Ψ M (pc + 3) ls st) : Ψ M pc ls (.int y :: .int x :: st) := by
  obtain ⟨p, e, s, m, args, below, meth, c, Q, R, cells, slots, rfl, hx, hb, hml, hown, hts, hK, rfl, rfl, hcl, hsl⟩ := C
  intro H locs lsA h1 h2 h3
  exact lv_icmp_lt hx hb d ht (fun q => kt q H locs lsA h1 h2 h3) (fun q => kf q H locs lsA h1 h2 h3)
theorem r_if_ge (C : gC Ψ G X cc own nL ret fr lo v0 M0) {x : Int32} {off : Int} {tgt : Nat} (d : decode cc pc = .ok (.ifCond .ge off, 3)) (ht : (pc : Int) + off = (tgt : Int)) (kt : 0 ≤ x → Ψ M tgt ls st) (kf : ¬ 0 ≤ x → Ψ M (pc + 3) ls st) : Ψ M pc ls (.int x :: st) := by
  obtain ⟨p, e, s, m, args, below, meth, c, Q, R, cells, slots, rfl, hx, hb, hml, hown, hts, hK, rfl, rfl, hcl, hsl⟩ := C
  intro H locs lsA h1 h2 h3
  exact lv_if_ge hx hb d ht (fun q => kt q H locs lsA h1 h2 h3) (fun q => kf q H locs lsA h1 h2 h3)
theorem r_icmp_ge (C : gC Ψ G X cc own nL ret fr lo v0 M0) {x y : Int32} {off : Int} {tgt : Nat} (d : decode cc pc = .ok (.if_icmp .ge off, 3)) (ht : (pc : Int) + off = (tgt : Int)) (kt : y ≤ x → Ψ M tgt ls st) (kf : ¬ y ≤ x → Ψ M (pc + 3) ls st) : Ψ M pc ls (.int y :: .int x :: st) := by
  obtain ⟨p, e, s, m, args, below, meth, c, Q, R, cells, slots, rfl, hx, hb, hml, hown, hts, hK, rfl, rfl, hcl, hsl⟩ := C
  intro H locs lsA h1 h2 h3
  exact lv_icmp_ge hx hb d ht (fun q => kt q H locs lsA h1 h2 h3) (fun q => kf q H locs lsA h1 h2 h3)
theorem r_if_gt (C : gC Ψ G X cc own nL ret fr lo v0 M0) {x : Int32} {off : Int} {tgt : Nat} (d : decode cc pc = .ok (.ifCond .gt off, 3)) (ht : (pc : Int) + off = (tgt : Int)) (kt : 0 < x → Ψ M tgt ls st) (kf : ¬ 0 < x → Ψ M (pc + 3) ls st) : Ψ M pc ls (.int x :: st) := by
  obtain ⟨p, e, s, m, args, below, meth, c, Q, R, cells, slots, rfl, hx, hb, hml, hown, hts, hK, rfl, rfl, hcl, hsl⟩ := C
  intro H locs lsA h1 h2 h3
  exact lv_if_gt hx hb d ht (fun q => kt q H locs lsA h1 h2 h3) (fun q => kf q H locs lsA h1 h2 h3)
theorem r_icmp_gt (C : gC Ψ G X cc own nL ret fr lo v0 M0) {x y : Int32} {off : Int} {tgt : Nat} (d : decode cc pc = .ok (.if_icmp .gt off, 3)) (ht : (pc : Int) + off = (tgt : Int)) (kt : y < x → Ψ M tgt ls st) (kf : ¬ y < x → Ψ M (pc + 3) ls st) : Ψ M pc ls (.int y :: .int x :: st) := by
  obtain ⟨p, e, s, m, args, below, meth, c, Q, R, cells, slots, rfl, hx, hb, hml, hown, hts, hK, rfl, rfl, hcl, hsl⟩ := C
  intro H locs lsA h1 h2 h3
  exact lv_icmp_gt hx hb d ht (fun q => kt q H locs lsA h1 h2 h3) (fun q => kf q H locs lsA h1 h2 h3)
theorem r_if_le (C : gC Ψ G X cc own nL ret fr lo v0 M0) {x : Int32} {off : Int} {tgt : Nat} (d : decode cc pc = .ok (.ifCond .le off, 3)) (ht : (pc : Int) + off = (tgt : Int)) (kt : x ≤ 0 → Ψ M tgt ls st) (kf : ¬ x ≤ 0 → Ψ M (pc + 3) ls st) : Ψ M pc ls (.int x :: st) := by
  obtain ⟨p, e, s, m, args, below, meth, c, Q, R, cells, slots, rfl, hx, hb, hml, hown, hts, hK, rfl, rfl, hcl, hsl⟩ := C
  intro H locs lsA h1 h2 h3
  exact lv_if_le hx hb d ht (fun q => kt q H locs lsA h1 h2 h3) (fun q => kf q H locs lsA h1 h2 h3)
theorem r_icmp_le (C : gC Ψ G X cc own nL ret fr lo v0 M0) {x y : Int32} {off : Int} {tgt : Nat} (d : decode cc pc = .ok (.if_icmp .le off, 3)) (ht : (pc : Int) + off = (tgt : Int)) (kt : x ≤ y → Ψ M tgt ls st) (kf : ¬ x ≤ y → Ψ M (pc + 3) ls st) : Ψ M pc ls (.int y :: .int x :: st) := by
  obtain ⟨p, e, s, m, args, below, meth, c, Q, R, cells, slots, rfl, hx, hb, hml, hown, hts, hK, rfl, rfl, hcl, hsl⟩ := C
  intro H locs lsA h1 h2 h3
  exact lv_icmp_le hx hb d ht (fun q => kt q H locs lsA h1 h2 h3) (fun q => kf q H locs lsA h1 h2 h3)
theorem r_goto (C : gC Ψ G X cc own nL ret fr lo v0 M0) {off : Int} {tgt : Nat} (d : decode cc pc = .ok (.goto off, 3)) (ht : (pc : Int) + off = (tgt : Int)) (k : Ψ M tgt ls st) : Ψ M pc ls st := by
  obtain ⟨p, e, s, m, args, below, meth, c, Q, R, cells, slots, rfl, hx, hb, hml, hown, hts, hK, rfl, rfl, hcl, hsl⟩ := C
  intro H locs lsA h1 h2 h3
  exact lv_goto hx hb d ht (k H locs lsA h1 h2 h3)
theorem r_tableIn (C : gC Ψ G X cc own nL ret fr lo v0 M0) {dflt lo1 hi1 : Int} {offs : Array Int} {len : Nat} {x : Int32} {off : Int} {tgt : Nat} (d : decode cc pc = .ok (.tableswitch dflt lo1 hi1 offs, len)) (w : Int32) (hw : x = w) (ho : ¬ w.toInt < lo1 ∧ ¬ hi1 < w.toInt ∧ offs[(w.toInt - lo1).toNat]? = some off) (ht : (pc : Int) + off = (tgt : Int)) (k : Ψ M tgt ls st) : Ψ M pc ls (.int x :: st) := by
  subst hw
  obtain ⟨p, e, s, m, args, below, meth, c, Q, R, cells, slots, rfl, hx, hb, hml, hown, hts, hK, rfl, rfl, hcl, hsl⟩ := C
  intro H locs lsA h1 h2 h3
  exact lv_tableIn hx hb d ho.1 ho.2.1 ho.2.2 ht (k H locs lsA h1 h2 h3)
theorem gOut {x : Int32} {a b : Int} (h : ∀ k : Int, a ≤ k → k ≤ b → ¬ x = Int32.ofInt k) : x.toInt < a ∨ b < x.toInt := by
  by_cases h1 : x.toInt < a
  · exact Or.inl h1
  · by_cases h2 : b < x.toInt
    · exact Or.inr h2
    · exact absurd (by rw [Int32.ofInt_toInt]) (h x.toInt (by omega) (by omega))
theorem r_tableOut (C : gC Ψ G X cc own nL ret fr lo v0 M0) {dflt lo1 hi1 : Int} {offs : Array Int} {len : Nat} {x : Int32} {tgt : Nat} (d : decode cc pc = .ok (.tableswitch dflt lo1 hi1 offs, len)) (h : ∀ k : Int, lo1 ≤ k → k ≤ hi1 → ¬ x = Int32.ofInt k) (ht : (pc : Int) + dflt = (tgt : Int)) (k : Ψ M tgt ls st) : Ψ M pc ls (.int x :: st) := by
  obtain ⟨p, e, s, m, args, below, meth, c, Q, R, cells, slots, rfl, hx, hb, hml, hown, hts, hK, rfl, rfl, hcl, hsl⟩ := C
  intro H locs lsA h1 h2 h3
  exact lv_tableOut hx hb d (gOut h) ht (k H locs lsA h1 h2 h3)
theorem r_sub (C : gC Ψ G X cc own nL ret fr lo v0 M0) (ks : List Nat) (hl : lv_pick ls ks = ls') (k : Ψ M pc ls' st) : Ψ M pc ls st := by
  obtain ⟨p, e, s, m, args, below, meth, c, Q, R, cells, slots, rfl, hx, hb, hml, hown, hts, hK, rfl, rfl, hcl, hsl⟩ := C
  intro H locs lsA h1 h2 h3
  refine k H locs lsA (lv_sub h1 ks ?_) h2 h3
  rw [← hl]
  unfold lv_pick gls
  rw [List.map_filterMap]
  congr 1
  funext j
  rw [List.getElem?_map]
theorem r_iret (CR : gR Ψ cc (some .int) v0 M0) {x : Int32} (d : decode cc pc = .ok (.ireturn, 1)) (hv : v0 = some (.int x)) (hM : M0 = M) : Ψ M pc ls [.int x] := by
  subst hM
  exact CR.1 pc ls x .int rfl d rfl hv
theorem r_zret (CR : gR Ψ cc (some .boolean) v0 M0) {x : Int32} (d : decode cc pc = .ok (.ireturn, 1)) (hz : narrow .boolean (.int x) = .int x) (hv : v0 = some (.int x)) (hM : M0 = M) : Ψ M pc ls [.int x] := by
  subst hM
  exact CR.1 pc ls x .boolean rfl d hz hv
theorem r_nret {ty : FieldType} (CR : gR Ψ cc (some ty) v0 M0) {x : Int32} (d : decode cc pc = .ok (.ireturn, 1)) (hz : narrow ty (.int x) = .int x) (hv : v0 = some (.int x)) (hM : M0 = M) : Ψ M pc ls [.int x] := by
  subst hM
  exact CR.1 pc ls x ty rfl d hz hv
theorem r_lret (CR : gR Ψ cc (some .long) v0 M0) {x : Int64} (d : decode cc pc = .ok (.lreturn, 1)) (hv : v0 = some (.long x)) (hM : M0 = M) : Ψ M pc ls [.long x] := by
  subst hM
  exact CR.2.1 pc ls x rfl d hv
theorem r_vret (CR : gR Ψ cc none v0 M0) (d : decode cc pc = .ok (.return_, 1)) (hv : v0 = none) (hM : M0 = M) : Ψ M pc ls [] := by
  subst hM
  exact CR.2.2 pc ls rfl d hv
end GR
