/-! null on the stack and in a local -/
section GN
variable {p : Program} {l : Launch} {e : Env} {R : Room} {s : State} {m : MethodId} {args : Array Value} {below : List Frame} {meth : Method} {c : Code} {H : Heap} {locs : List Loc} {cells slots : Nat} {Q : State → Prop} {cc : ByteArray} {pc : Nat} {ls : Array Slot} {rest : List Value}
theorem ln_aload_n (hexec : p.tables.exec = Jvm.exec) (hb : c.code = cc) {k : Fin 4} {i : Nat} (hdg : decode cc pc = .ok (.aload_n k, 1)) (hi : (k : Nat) = i) (hl : ls[i]? = some (.val .null))
    (k : W p l e R s m args below meth c H locs cells slots Q (F0 m (pc + 1) ls (.null :: rest))) : W p l e R s m args below meth c H locs cells slots Q (F0 m pc ls (rest)) := by
  subst hi
  intro T hT X
  obtain ⟨t, a, b⟩ := k T hT X
  refine ⟨t, ?_, b⟩
  jvm_step X.here [X.here.top, hexec, hb, hdg, hl, Value.isRef]
  exact a
theorem ln_astore_n (hexec : p.tables.exec = Jvm.exec) (hb : c.code = cc) {k : Fin 4} {i nL : Nat} {lv lv' : List (Nat × Value)} (hdg : decode cc pc = .ok (.astore_n k, 1)) (hi : (k : Nat) = i) (h : lv_has ls nL lv) (hn : i < nL) (hl : (i, Value.null) :: lv.filter (fun q => !(q.1 == i) && !(q.1 + 1 == i && q.2.category == 2)) = lv')
    (kk : ∀ ls' : Array Slot, lv_has ls' nL lv' → W p l e R s m args below meth c H locs cells slots Q (F0 m (pc + 1) ls' rest)) : W p l e R s m args below meth c H locs cells slots Q (F0 m pc ls (.null :: rest)) := by
  subst hi
  obtain ⟨ls', e', h'⟩ := lv_store1 (v := .null) h hn rfl
  intro T hT X
  obtain ⟨t, a, b⟩ := kk ls' (hl ▸ h') T hT X
  refine ⟨t, ?_, b⟩
  jvm_step X.here [X.here.top, ↓top_set X.here.top, hexec, hb, hdg, e', Value.isRef]
  exact a
end GN
section GN2
variable {Ψ : gM → Nat → List (Nat × Value) → List Value → Prop} {G : gG5} {X : gX} {cc : ByteArray} {own : String} {nL : Nat} {ret : Option FieldType} {fr lo : Nat} {v0 : Option Value} {M0 M : gM} {pc : Nat} {ls ls' : List (Nat × Value)} {st : List Value}
theorem r_aloadN (C : gC Ψ G X cc own nL ret fr lo v0 M0) {k0 : Fin 4} {i : Nat} (d : decode cc pc = .ok (.aload_n k0, 1)) (hi : (k0 : Nat) = i) (j : Nat) (hl : ls[j]? = some (i, .null)) (k : Ψ M (pc + 1) ls (.null :: st)) : Ψ M pc ls st := by
  obtain ⟨p, e, s, m, args, below, meth, c, Q, R, cells, slots, rfl, hx, hb, hml, hown, hts, hK, rfl, rfl, hcl, hsl⟩ := C
  intro H locs lsA h1 h2 h3
  exact ln_aload_n hx hb d hi (lv_at h1 j (gls_at hl)) (k H locs lsA h1 h2 h3)
theorem r_astoreN (C : gC Ψ G X cc own nL ret fr lo v0 M0) {k0 : Fin 4} {i : Nat} (d : decode cc pc = .ok (.astore_n k0, 1)) (hi : (k0 : Nat) = i) (hn : i < nL) (hl : (i, Value.null) :: ls.filter (fun q => !(q.1 == i) && !(q.1 + 1 == i && q.2.category == 2)) = ls') (k : Ψ M (pc + 1) ls' st) : Ψ M pc ls (.null :: st) := by
  obtain ⟨p, e, s, m, args, below, meth, c, Q, R, cells, slots, rfl, hx, hb, hml, hown, hts, hK, rfl, rfl, hcl, hsl⟩ := C
  intro H locs lsA h1 h2 h3
  exact ln_astore_n hx hb d hi h1 hn (gls_store hl) (fun a ha => k H locs a ha h2 h3)
theorem r_ifnonnullN (C : gC Ψ G X cc own nL ret fr lo v0 M0) {off : Int} (d : decode cc pc = .ok (.ifnonnull off, 3)) (k : Ψ M (pc + 3) ls st) : Ψ M pc ls (.null :: st) := by
  obtain ⟨p, e, s, m, args, below, meth, c, Q, R, cells, slots, rfl, hx, hb, hml, hown, hts, hK, rfl, rfl, hcl, hsl⟩ := C
  intro H locs lsA h1 h2 h3
  exact lv_ifnonnullN hx hb d (k H locs lsA h1 h2 h3)
theorem r_ifnonnullR (C : gC Ψ G X cc own nL ret fr lo v0 M0) {a : Nat} {off : Int} {tgt : Nat} (d : decode cc pc = .ok (.ifnonnull off, 3)) (ht : (pc : Int) + off = (tgt : Int)) (k : Ψ M tgt ls st) : Ψ M pc ls (.ref a :: st) := by
  obtain ⟨p, e, s, m, args, below, meth, c, Q, R, cells, slots, rfl, hx, hb, hml, hown, hts, hK, rfl, rfl, hcl, hsl⟩ := C
  intro H locs lsA h1 h2 h3
  exact lv_ifnonnull hx hb d ht (k H locs lsA h1 h2 h3)
theorem r_aaldN (C : gC Ψ G X cc own nL ret fr lo v0 M0) {r i : Nat} {x : Int32} {Cn : String} (d : decode cc pc = .ok (.aaload, 1)) (hs : 100 ≤ gSh r) (hty : gTy (gSh r) = .object Cn) (hft : gFt (gSh r) 0 = 2) (he : X.1 r i = true) (hg : gin x (gLen r i) = true) (ha : X.2 r i x.toNatClampNeg = none) (k : Ψ M (pc + 1) ls (.null :: st)) : Ψ M pc ls (.int x :: .ref (gad r i) :: st) := by
  obtain ⟨p, e, s, m, args, below, meth, c, Q, R, cells, slots, rfl, hx, hb, hml, hown, hts, hK, rfl, rfl, hcl, hsl⟩ := C
  intro H locs lsA h1 h2 h3
  have hin := gin_iff.mp hg
  have hlt := gin_lt hg
  have hA := (h2.2.2.2.2.1 r i he hs).1
  rw [hty] at hA
  exact W.aald (v := .null) (ty := .object Cn) hx hb (gAt_arr hs (h2.2.1 r i he)) (hA _ _) rfl (fun q => by cases q) (by show ¬ (x < 0 ∨ (arrV _ _ _).slots.size ≤ _); rw [arrV_size]; exact hin) (by show (arrV _ _ _).slots[_]? = _; rw [arrV_read _ _ hlt, gFt_arr hs x.toNatClampNeg 0, hft]; unfold gfv; rw [if_neg (by decide), if_neg (by decide), ha]; rfl) rfl rfl d (k H locs lsA h1 h2 h3)
end GN2
