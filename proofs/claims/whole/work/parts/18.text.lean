section GT
variable {Ψ : gM → Nat → List (Nat × Value) → List Value → Prop} {G : gG5} {nf : Nat} {cc : ByteArray} {own : String} {nL : Nat} {ret : Option FieldType} {fr lo : Nat} {v0 : Option Value} {M0 M : gM} {pc index : Nat} {ls : List (Nat × Value)} {st : List Value}
theorem gt2 (k : Nat) (h : k < 2 := by decide) : k < 2 := h
theorem r_ldcS (C : gC Ψ G (gXn nf) cc own nL ret fr lo v0 M0) (d : decode cc pc = .ok (.ldc index, 2)) (k0 : Nat) (hk : k0 < 4) (ho : (gTw k0).1 = own) (hi : (gTw k0).2.1 = index) (k : Ψ M (pc + 2) ls (.ref (gad 62 (gTw k0).2.2.2) :: st)) : Ψ M pc ls st := by
  subst ho; subst hi
  obtain ⟨p, e, s, m, args, below, meth, c, Q, R, cells, slots, rfl, hx, hb, hml, hown, hts, hK, rfl, rfl, hcl, hsl⟩ := C
  intro H locs lsA h1 h2 h3
  exact va_ldcS hx hb hown (hK.2.1 k0 hk) d (k H locs lsA h1 h2 h3)
theorem gZ_gets {p : Program} {l : Launch} {e : Env} {R : Room} {s : State} {m : MethodId} {args : Array Value} {below : List Frame} {meth : Method} {c : Code} {H : Heap} {locs : List Loc} {cells slots : Nat} {Q : State → Prop} {lsA : Array Slot} {rest : List Value} {A : Nat → Prop} {Cn n ds : String} {v : Value} (hx : p.tables.exec = Jvm.exec) (hb : c.code = cc) (hZ : va_Z Cn n ds v A s H) (hown : s.vm.findClass own = some m.cls) (hl : (Cond.fieldLink own index Cn n ds).before args s = true) (d : decode cc pc = .ok (.getstatic index, 3)) (k : W p l e R s m args below meth c H locs cells slots Q (F0 m (pc + 3) lsA (v :: rest))) : W p l e R s m args below meth c H locs cells slots Q (F0 m pc lsA rest) := by
  obtain ⟨cf, kf, fi, f, a, cell, g1, g2, g3, g4, g5, g6, g7, g8⟩ := hZ
  exact W.gets hx hb hown hl g1 g2 g3 g4 g5 (fun e => by rw [e] at g6; cases g6) g7 rfl d k
theorem r_getZ (C : gC Ψ G (gXn nf) cc own nL ret fr lo v0 M0) (d : decode cc pc = .ok (.getstatic index, 3)) (hl : Cond.fieldLink own index "java/lang/String" "COMPACT_STRINGS" "Z" ∈ gws) (k : Ψ M (pc + 3) ls (.int 1 :: st)) : Ψ M pc ls st := by
  obtain ⟨p, e, s, m, args, below, meth, c, Q, R, cells, slots, rfl, hx, hb, hml, hown, hts, hK, rfl, rfl, hcl, hsl⟩ := C
  intro H locs lsA h1 h2 h3
  exact gZ_gets hx hb h2.2.2.2.2.2.2.2.1 hown (hts _ hl) d (k H locs lsA h1 h2 h3)
theorem r_getQ (C : gC Ψ G (gXn nf) cc own nL ret fr lo v0 M0) (d : decode cc pc = .ok (.getstatic index, 3)) (hl : Cond.fieldLink own index "jdk/internal/util/Preconditions" "SIOOBE_FORMATTER" "Ljava/util/function/BiFunction;" ∈ gws) (k : ∀ v : Value, v = .null ∨ v = .ref (gad 60 0) → Ψ M (pc + 3) ls (v :: st)) : Ψ M pc ls st := by
  obtain ⟨p, e, s, m, args, below, meth, c, Q, R, cells, slots, rfl, hx, hb, hml, hown, hts, hK, rfl, rfl, hcl, hsl⟩ := C
  intro H locs lsA h1 h2 h3
  rcases h2.2.2.2.2.2.2.2.2 with hZ | hZ
  · exact gZ_gets hx hb hZ hown (hts _ hl) d (k .null (Or.inl rfl) H locs lsA h1 h2 h3)
  · exact gZ_gets hx hb hZ hown (hts _ hl) d (k (.ref (gad 60 0)) (Or.inr rfl) H locs lsA h1 h2 h3)
theorem r_coder (C : gC Ψ G (gXn nf) cc own nL ret fr lo v0 M0) {i : Nat} (hi : i < 2) (d : decode cc pc = .ok (.getfield index, 3)) (hl : Cond.fieldLink own index "java/lang/String" "coder" "B" ∈ gws) (k : Ψ M (pc + 3) ls (.int 0 :: st)) : Ψ M pc ls (.ref (gad 62 i) :: st) := by
  obtain ⟨p, e, s, m, args, below, meth, c, Q, R, cells, slots, rfl, hx, hb, hml, hown, hts, hK, rfl, rfl, hcl, hsl⟩ := C
  intro H locs lsA h1 h2 h3
  obtain ⟨cf, k9, fi, f, cell, g1, g2, g3, g4, g5, g6⟩ := (h2.2.2.2.2.2.2.1 i hi).2.1
  exact W.getf hx hb hown (hts _ hl) g1 g2 g3 g4 (v := .int 0) g5 rfl rfl d (k H locs lsA h1 h2 h3)
theorem r_value (C : gC Ψ G (gXn nf) cc own nL ret fr lo v0 M0) {i : Nat} (hi : i < 2) (d : decode cc pc = .ok (.getfield index, 3)) (hl : Cond.fieldLink own index "java/lang/String" "value" "[B" ∈ gws) (k : Ψ M (pc + 3) ls (.ref (gad 61 i) :: st)) : Ψ M pc ls (.ref (gad 62 i) :: st) := by
  obtain ⟨p, e, s, m, args, below, meth, c, Q, R, cells, slots, rfl, hx, hb, hml, hown, hts, hK, rfl, rfl, hcl, hsl⟩ := C
  intro H locs lsA h1 h2 h3
  obtain ⟨cf, k9, fi, f, cell, g1, g2, g3, g4, g5, g6⟩ := (h2.2.2.2.2.2.2.1 i hi).2.2.1
  exact W.getf hx hb hown (hts _ hl) g1 g2 g3 g4 (v := .ref (G.2.2.2.1 (gad 61 i))) g5 rfl rfl d (k H locs lsA h1 h2 h3)
theorem r_tlen (C : gC Ψ G (gXn nf) cc own nL ret fr lo v0 M0) {i : Nat} (hi : i < 2) (d : decode cc pc = .ok (.arraylength, 1)) (k : Ψ M (pc + 1) ls (.int (gTl i) :: st)) : Ψ M pc ls (.ref (gad 61 i) :: st) := by
  obtain ⟨p, e, s, m, args, below, meth, c, Q, R, cells, slots, rfl, hx, hb, hml, hown, hts, hK, rfl, rfl, hcl, hsl⟩ := C
  intro H locs lsA h1 h2 h3
  obtain ⟨cell, g1, g2, g3, g4, g5, g6, g7⟩ := (h2.2.2.2.2.2.2.1 i hi).2.2.2
  exact W.alen (n := gTl i) hx hb g1 g2 g5 rfl rfl d (k H locs lsA h1 h2 h3)
theorem r_tald (C : gC Ψ G (gXn nf) cc own nL ret fr lo v0 M0) {i : Nat} {x : Int32} (hi : i < 2) (hg : gin x (gTx i).length = true) (d : decode cc pc = .ok (.baload, 1)) (k : Ψ M (pc + 1) ls (.int (gTc i x.toNatClampNeg) :: st)) : Ψ M pc ls (.int x :: .ref (gad 61 i) :: st) := by
  obtain ⟨p, e, s, m, args, below, meth, c, Q, R, cells, slots, rfl, hx, hb, hml, hown, hts, hK, rfl, rfl, hcl, hsl⟩ := C
  intro H locs lsA h1 h2 h3
  have hin := gin_iff.mp hg
  have hlt := gin_lt hg
  obtain ⟨cell, g1, g2, g3, g4, g5, g6, g7⟩ := (h2.2.2.2.2.2.2.1 i hi).2.2.2
  exact W.bald (v := .int (gTc i x.toNatClampNeg)) hx hb g1 g2 g3 (fun q => q.elim (fun z => hin (Or.inl z)) (fun z => absurd hlt (by omega))) (g6 _ hlt) rfl rfl d (k H locs lsA h1 h2 h3)
theorem r_callVS (C : gC Ψ G (gXn nf) cc own nL ret fr lo v0 M0) {y : MethodName} {bytes : ByteArray} {maxL : Nat} {rt : Option FieldType} {fr1 lo1 : Nat} {i : Nat} (As rest : List Value) {v : Option Value} {M1 : gM} (hi : i < 2) (hy : y.cls = "java/lang/String")
    (d : decode cc pc = .ok (.invokevirtual index, 3)) (hM : gMet G (gXn nf) y bytes maxL rt fr1 lo1 M (.ref (gad 62 i) :: As) v M1)
    (hl : Cond.methodLink own index y ∈ gws) (hin : Cond.instanceMethod y ∈ gws) (hse : Cond.selects y.cls y y ∈ gws) (hini : Cond.initialized y.cls ∈ gws) (hco : Cond.code y bytes maxL rt ∈ gws)
    (hd : y.cls ≠ "java/lang/invoke/MethodHandle" ∧ y.cls ≠ "java/lang/invoke/VarHandle" ∧ (parseMethodDescriptor y.desc).map (fun d => d.parameters.length) = some As.length) (hR : fr1 + 1 ≤ fr ∧ 8 + (maxL + 11) + lo1 ≤ lo)
    (hst : st = As.reverse ++ .ref (gad 62 i) :: rest) (hcat : (rest.map fun v => v.category).sum ≤ 8)
    (k : Ψ M1 (pc + 3) ls (v.toList ++ rest)) : Ψ M pc ls st := by
  obtain ⟨p, e, s, m, args, below, meth, c, Q, R, cells, slots, rfl, hx, hb, hml, hown, hts, hK, rfl, rfl, hcl, hsl⟩ := C
  intro H locs lsA h1 h2 h3
  obtain ⟨cell, q1, q2, q3, -⟩ := (h2.2.2.2.2.2.2.1 i hi).1
  have cw : CallW R s args own y.cls index y bytes maxL rt (gwm y bytes maxL rt) { frames := fr1, cells := 0, slots := 0, locals := lo1 } 0 0 As.length :=
    ⟨callB_of As.length hts (gwm_in hco) rfl rfl rfl (hts _ hini) (hts _ hl) hd hR, hts _ hin, hts _ hse⟩
  have hp : PreV s H y.cls (G.2.2.2.1 (gad 62 i)) (gPre G (gXn nf) M (.ref (gad 62 i) :: As)) (As.map (gv G.2.2.2.1)) :=
    ⟨gPre_blind _ _ _ _, ⟨cell, q1, q2, by rw [hy]; exact q3⟩, fun U hU hW => ⟨rfl, hK.warm hW, by rw [hU]; exact h2.moved hW.alike⟩⟩
  refine gW_call (va_runV (rest := rest.map (gv G.2.2.2.1)) (g := F0 m pc lsA (st.map (gv G.2.2.2.1))) ⟨hx, hb, hml, hown, hts⟩ hM cw hp rfl (by simp) h1.1 (by rw [hst]; simp [List.map_append, List.map_reverse]; rfl) (lv_room (by rw [gv_catsum]; exact hcat)) d ⟨hcl, hsl⟩) h3 (fun H1 locs1 hw hs1 => ?_)
  rw [gv_toList]
  exact k H1 locs1 lsA h1 hw hs1
end GT
theorem pf_0l : plainFor yJ0_length_8abf5 = true := by decide +kernel
theorem pf_0c : plainFor yJ0_charAt_5068e = true := by decide +kernel
theorem pf_0d : plainFor yJ0_coder_7d493 = true := by decide +kernel
theorem pf_0i : plainFor yJ0_isLatin1_aae02 = true := by decide +kernel
theorem pf_0x : plainFor yJ0_checkIndex_df160 = true := by decide +kernel
theorem pf_1c : plainFor yJ1_charAt_3b067 = true := by decide +kernel
theorem pf_3x : plainFor yJ3_checkIndex_8e157 = true := by decide +kernel
theorem hd_0l : yJ0_length_8abf5.cls ≠ "java/lang/invoke/MethodHandle" ∧ yJ0_length_8abf5.cls ≠ "java/lang/invoke/VarHandle" ∧ (parseMethodDescriptor yJ0_length_8abf5.desc).map (fun d => d.parameters.length) = some 0 := by decide +kernel
theorem hd_0c : yJ0_charAt_5068e.cls ≠ "java/lang/invoke/MethodHandle" ∧ yJ0_charAt_5068e.cls ≠ "java/lang/invoke/VarHandle" ∧ (parseMethodDescriptor yJ0_charAt_5068e.desc).map (fun d => d.parameters.length) = some 1 := by decide +kernel
theorem hd_0d : yJ0_coder_7d493.cls ≠ "java/lang/invoke/MethodHandle" ∧ yJ0_coder_7d493.cls ≠ "java/lang/invoke/VarHandle" ∧ (parseMethodDescriptor yJ0_coder_7d493.desc).map (fun d => d.parameters.length) = some 0 := by decide +kernel
theorem hd_0i : yJ0_isLatin1_aae02.cls ≠ "java/lang/invoke/MethodHandle" ∧ yJ0_isLatin1_aae02.cls ≠ "java/lang/invoke/VarHandle" ∧ (parseMethodDescriptor yJ0_isLatin1_aae02.desc).map (fun d => d.parameters.length) = some 0 := by decide +kernel
theorem hd_0x : yJ0_checkIndex_df160.cls ≠ "java/lang/invoke/MethodHandle" ∧ yJ0_checkIndex_df160.cls ≠ "java/lang/invoke/VarHandle" ∧ (parseMethodDescriptor yJ0_checkIndex_df160.desc).map (fun d => d.parameters.length) = some 2 := by decide +kernel
theorem hd_1c : yJ1_charAt_3b067.cls ≠ "java/lang/invoke/MethodHandle" ∧ yJ1_charAt_3b067.cls ≠ "java/lang/invoke/VarHandle" ∧ (parseMethodDescriptor yJ1_charAt_3b067.desc).map (fun d => d.parameters.length) = some 2 := by decide +kernel
theorem hd_3x : yJ3_checkIndex_8e157.cls ≠ "java/lang/invoke/MethodHandle" ∧ yJ3_checkIndex_8e157.cls ≠ "java/lang/invoke/VarHandle" ∧ (parseMethodDescriptor yJ3_checkIndex_8e157.desc).map (fun d => d.parameters.length) = some 3 := by decide +kernel
section GT2
variable {G : gG5} {nf : Nat} {M : gM}
theorem k_0d {i : Nat} (hi : i < 2) : gMet G (gXn nf) yJ0_coder_7d493 cJ0_coder_7d493 1 (some .byte) 0 0 M [.ref (gad 62 i)] (some (.int 0)) M := by
  refine gMet_ofF pf_0d rfl (Nat.le_of_ble_eq_true rfl) (fun Ψ C CR => ?_)
  show Ψ M 0 [(0, .ref (gad 62 i))] []
  refine r_getZ (pc := 0) C dJ0_coder_7d493_0 q624 ?_
  refine r_if_eq (pc := 3) (tgt := 13) C dJ0_coder_7d493_3 rfl (fun c => absurd c (by decide)) (fun _ => ?_)
  refine r_aload_n (pc := 6) C dJ0_coder_7d493_6 rfl 0 rfl ?_
  refine r_coder (pc := 7) C hi dJ0_coder_7d493_7 q2086 ?_
  refine r_goto (pc := 10) (tgt := 14) C dJ0_coder_7d493_10 rfl ?_
  exact r_nret (pc := 14) CR dJ0_coder_7d493_14 rfl rfl rfl
theorem k_0i {i : Nat} (hi : i < 2) : gMet G (gXn nf) yJ0_isLatin1_aae02 cJ0_isLatin1_aae02 1 (some .boolean) 0 0 M [.ref (gad 62 i)] (some (.int 1)) M := by
  refine gMet_ofF pf_0i rfl (Nat.le_of_ble_eq_true rfl) (fun Ψ C CR => ?_)
  show Ψ M 0 [(0, .ref (gad 62 i))] []
  refine r_getZ (pc := 0) C dJ0_isLatin1_aae02_0 q624 ?_
  refine r_if_eq (pc := 3) (tgt := 17) C dJ0_isLatin1_aae02_3 rfl (fun c => absurd c (by decide)) (fun _ => ?_)
  refine r_aload_n (pc := 6) C dJ0_isLatin1_aae02_6 rfl 0 rfl ?_
  refine r_coder (pc := 7) C hi dJ0_isLatin1_aae02_7 q2086 ?_
  refine r_if_ne (pc := 10) (tgt := 17) C dJ0_isLatin1_aae02_10 rfl (fun c => absurd rfl c) (fun _ => ?_)
  refine r_iconst (v := 1) (pc := 13) C dJ0_isLatin1_aae02_13 rfl ?_
  refine r_goto (pc := 14) (tgt := 18) C dJ0_isLatin1_aae02_14 rfl ?_
  exact r_nret (pc := 18) CR dJ0_isLatin1_aae02_18 rfl rfl rfl
theorem gshr0 : ∀ i, i < 2 → gTl i >>> ((0 : Int32) &&& 31) = gTl i := by decide
theorem k_0l {i : Nat} (hi : i < 2) : gMet G (gXn nf) yJ0_length_8abf5 cJ0_length_8abf5 1 (some .int) 1 20 M [.ref (gad 62 i)] (some (.int (gTl i))) M := by
  refine gMet_ofF pf_0l rfl (Nat.le_of_ble_eq_true rfl) (fun Ψ C CR => ?_)
  show Ψ M 0 [(0, .ref (gad 62 i))] []
  refine r_aload_n (pc := 0) C dJ0_length_8abf5_0 rfl 0 rfl ?_
  refine r_value (pc := 1) C hi dJ0_length_8abf5_1 q2085 ?_
  refine r_tlen (pc := 4) C hi dJ0_length_8abf5_4 ?_
  refine r_aload_n (pc := 5) C dJ0_length_8abf5_5 rfl 0 rfl ?_
  refine r_callVS (pc := 6) C [] [.int (gTl i)] hi rfl dJ0_length_8abf5_6 (k_0d hi) q620 q621 q622 q128 q623 hd_0d ⟨by decide, by decide⟩ rfl (Nat.le_of_ble_eq_true rfl) ?_
  refine r_ishr (pc := 9) C dJ0_length_8abf5_9 ?_
  rw [gshr0 i hi]
  exact r_iret (pc := 10) CR dJ0_length_8abf5_10 rfl rfl
theorem k_3x {a b : Int32} {v : Value} (hv : v = .null ∨ v = .ref (gad 60 0)) (h0 : ¬ a < 0) (h1 : a < b) : gMet G (gXn nf) yJ3_checkIndex_8e157 cJ3_checkIndex_8e157 3 (some .int) 0 0 M [.int a, .int b, v] (some (.int a)) M := by
  have hc : v.category = 1 := by rcases hv with rfl | rfl <;> rfl
  refine gMet_ofF pf_3x rfl (by rcases hv with rfl | rfl <;> exact Nat.le_of_ble_eq_true rfl) (fun Ψ C CR => ?_)
  have e : lv_args 0 [.int a, .int b, v] = [(0, .int a), (1, .int b), (2, v)] := by rcases hv with rfl | rfl <;> rfl
  rw [e]
  refine r_iload_n (pc := 0) C dJ3_checkIndex_8e157_0 rfl 0 rfl ?_
  refine r_if_lt (pc := 1) (tgt := 9) C dJ3_checkIndex_8e157_1 rfl (fun c => absurd c h0) (fun _ => ?_)
  refine r_iload_n (pc := 4) C dJ3_checkIndex_8e157_4 rfl 0 rfl ?_
  refine r_iload_n (pc := 5) C dJ3_checkIndex_8e157_5 rfl 1 rfl ?_
  refine r_icmp_lt (pc := 6) (tgt := 16) C dJ3_checkIndex_8e157_6 rfl (fun _ => ?_) (fun c => absurd h1 c)
  refine r_iload_n (pc := 16) C dJ3_checkIndex_8e157_16 rfl 0 rfl ?_
  exact r_iret (pc := 17) CR dJ3_checkIndex_8e157_17 rfl rfl
theorem k_0x {a b : Int32} (h0 : ¬ a < 0) (h1 : a < b) : gMet G (gXn nf) yJ0_checkIndex_df160 cJ0_checkIndex_df160 2 none 1 22 M [.int a, .int b] none M := by
  refine gMet_ofF pf_0x rfl (Nat.le_of_ble_eq_true rfl) (fun Ψ C CR => ?_)
  show Ψ M 0 [(0, .int a), (1, .int b)] []
  refine r_iload_n (pc := 0) C dJ0_checkIndex_df160_0 rfl 0 rfl ?_
  refine r_iload_n (pc := 1) C dJ0_checkIndex_df160_1 rfl 1 rfl ?_
  refine r_getQ (pc := 2) C dJ0_checkIndex_df160_2 q640 (fun v hv => ?_)
  refine r_callS (pc := 5) C [.int a, .int b, v] [] dJ0_checkIndex_df160_5 (k_3x hv h0 h1) q642 q643 q130 q644 hd_3x ⟨by decide, by decide⟩ rfl (Nat.le_of_ble_eq_true rfl) ?_
  refine r_pop (pc := 8) C dJ0_checkIndex_df160_8 rfl ?_
  exact r_vret (pc := 9) CR dJ0_checkIndex_df160_9 rfl rfl
theorem gTc_nar : ∀ i, i < 2 → ∀ j, j < 61 → ((gTc i j &&& 255).toUInt32 % 65536).toInt32 = gTc i j ∧ narrow .char (.int (gTc i j)) = .int (gTc i j) := by decide +kernel
theorem gTl_lt {i : Nat} {x : Int32} (hi : i < 2) (hg : gin x (gTx i).length = true) : ¬ x < 0 ∧ x < gTl i ∧ x.toNatClampNeg < 61 := by
  have h1 := gin_iff.mp hg
  have h2 := gin_lt hg
  have hn : ¬ x < 0 := fun z => h1 (Or.inl z)
  have hl : (gTx i).length ≤ 61 := by
    rcases (show i = 0 ∨ i = 1 by omega) with rfl | rfl <;> decide
  have hT : (gTl i).toInt = ((gTx i).length : Int) := by
    rcases (show i = 0 ∨ i = 1 by omega) with rfl | rfl <;> decide
  refine ⟨hn, ?_, by omega⟩
  rw [Int32.lt_iff_toInt_lt, gnn x hn, hT]
  omega
theorem k_1c {i : Nat} {x : Int32} (hi : i < 2) (hg : gin x (gTx i).length = true) : gMet G (gXn nf) yJ1_charAt_3b067 cJ1_charAt_3b067 2 (some .char) 2 43 M [.ref (gad 61 i), .int x] (some (.int (gTc i x.toNatClampNeg))) M := by
  obtain ⟨h0, h1, h2⟩ := gTl_lt hi hg
  obtain ⟨e1, e2⟩ := gTc_nar i hi x.toNatClampNeg h2
  refine gMet_ofF pf_1c rfl (Nat.le_of_ble_eq_true rfl) (fun Ψ C CR => ?_)
  show Ψ M 0 [(0, .ref (gad 61 i)), (1, .int x)] []
  refine r_iload_n (pc := 0) C dJ1_charAt_3b067_0 rfl 1 rfl ?_
  refine r_aload_n (pc := 1) C dJ1_charAt_3b067_1 rfl 0 rfl ?_
  refine r_tlen (pc := 2) C hi dJ1_charAt_3b067_2 ?_
  refine r_callS (pc := 3) C [.int x, .int (gTl i)] [] dJ1_charAt_3b067_3 (k_0x h0 h1) q637 q638 q128 q639 hd_0x ⟨by decide, by decide⟩ rfl (Nat.le_of_ble_eq_true rfl) ?_
  refine r_aload_n (pc := 6) C dJ1_charAt_3b067_6 rfl 0 rfl ?_
  refine r_iload_n (pc := 7) C dJ1_charAt_3b067_7 rfl 1 rfl ?_
  refine r_tald (pc := 8) C hi hg dJ1_charAt_3b067_8 ?_
  refine r_sipush (v := 255) (pc := 9) C dJ1_charAt_3b067_9 rfl ?_
  refine r_iand (pc := 12) C dJ1_charAt_3b067_12 ?_
  refine r_i2c (pc := 13) C dJ1_charAt_3b067_13 ?_
  rw [e1]
  exact r_nret (pc := 14) CR dJ1_charAt_3b067_14 e2 rfl rfl
theorem k_0c {i : Nat} {x : Int32} (hi : i < 2) (hg : gin x (gTx i).length = true) : gMet G (gXn nf) yJ0_charAt_5068e cJ0_charAt_5068e 2 (some .char) 3 64 M [.ref (gad 62 i), .int x] (some (.int (gTc i x.toNatClampNeg))) M := by
  obtain ⟨h0, h1, h2⟩ := gTl_lt hi hg
  obtain ⟨e1, e2⟩ := gTc_nar i hi x.toNatClampNeg h2
  refine gMet_ofF pf_0c rfl (Nat.le_of_ble_eq_true rfl) (fun Ψ C CR => ?_)
  show Ψ M 0 [(0, .ref (gad 62 i)), (1, .int x)] []
  refine r_aload_n (pc := 0) C dJ0_charAt_5068e_0 rfl 0 rfl ?_
  refine r_callVS (pc := 1) C [] [] hi rfl dJ0_charAt_5068e_1 (k_0i hi) q630 q631 q632 q128 q633 hd_0i ⟨by decide, by decide⟩ rfl (Nat.le_of_ble_eq_true rfl) ?_
  refine r_if_eq (pc := 4) (tgt := 16) C dJ0_charAt_5068e_4 rfl (fun c => absurd c (by decide)) (fun _ => ?_)
  refine r_aload_n (pc := 7) C dJ0_charAt_5068e_7 rfl 0 rfl ?_
  refine r_value (pc := 8) C hi dJ0_charAt_5068e_8 q2085 ?_
  refine r_iload_n (pc := 11) C dJ0_charAt_5068e_11 rfl 1 rfl ?_
  refine r_callS (pc := 12) C [.ref (gad 61 i), .int x] [] dJ0_charAt_5068e_12 (k_1c hi hg) q634 q635 q129 q636 hd_1c ⟨by decide, by decide⟩ rfl (Nat.le_of_ble_eq_true rfl) ?_
  exact r_nret (pc := 15) CR dJ0_charAt_5068e_15 e2 rfl rfl
end GT2
section GT3
variable {Ψ : gM → Nat → List (Nat × Value) → List Value → Prop} {G : gG5} {nf : Nat} {cc : ByteArray} {own : String} {nL : Nat} {ret : Option FieldType} {fr lo : Nat} {v0 : Option Value} {M0 M : gM} {pc index : Nat} {ls : List (Nat × Value)} {st : List Value}
theorem r_strlen (C : gC Ψ G (gXn nf) cc own nL ret fr lo v0 M0) {i : Nat} (d : decode cc pc = .ok (.invokevirtual index, 3)) (hl : Cond.methodLink own index yJ0_length_8abf5 ∈ gws) (hi : i < 2) (hR : 3 ≤ fr ∧ 81 ≤ lo) (hcat : (st.map fun v => v.category).sum ≤ 8) (k : Ψ M (pc + 3) ls (.int (gTl i) :: st)) : Ψ M pc ls (.ref (gad 62 i) :: st) := r_callVS C [] st hi rfl d (k_0l hi) hl q617 q618 q128 q619 hd_0l ⟨by omega, by omega⟩ rfl hcat k
theorem r_charAt (C : gC Ψ G (gXn nf) cc own nL ret fr lo v0 M0) {i : Nat} {x : Int32} (d : decode cc pc = .ok (.invokevirtual index, 3)) (hl : Cond.methodLink own index yJ0_charAt_5068e ∈ gws) (hi : i < 2) (hg : gin x (gTx i).length = true) (hR : 6 ≤ fr ∧ 141 ≤ lo) (hcat : (st.map fun v => v.category).sum ≤ 8) (k : Ψ M (pc + 3) ls (.int (gTc i x.toNatClampNeg) :: st)) : Ψ M pc ls (.int x :: .ref (gad 62 i) :: st) := r_callVS C [.int x] st hi rfl d (k_0c hi hg) hl q627 q628 q128 q629 hd_0c ⟨by omega, by omega⟩ rfl hcat k
end GT3
