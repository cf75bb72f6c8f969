/-! the law's own triangle: it catches -/
abbrev gwh (y : MethodName) (cc : ByteArray) (n : Nat) (ret : Option FieldType) (hh : List (Nat × Nat × Nat × Nat)) : List Cond := Cond.codeWith y cc n ret hh :: gws
theorem gOfWH {l : Launch} {y : MethodName} {ws ws' : List Cond} {rm : Room} {Pc : Array Value → State → Prop} {Qc : Array Value → State → Outcome → State → Prop} {mc ms : Nat} {free : Addr → Prop} {cc : ByteArray} {maxL : Nat} {ret : Option FieldType} {hh : List (Nat × Nat × Nat × Nat)}
    (hy : plainName y.cls = true) (hw : ws = Cond.codeWith y cc maxL ret hh :: ws')
    (body : ∀ p e s m args below meth c s₁, BodyLoose p l y (headSpec ws rm) cc maxL ret e s m args below meth c s₁ → c.maxLocals = maxL → Pc args s →
      W p l e (headSpec ws rm).room s m args below meth c s.heap [] 0 0 (MQ below Qc args s mc ms free) (entryFrame m args maxL)) : Met l y ws rm Pc Qc mc ms free := by
  refine MetFree.of_bodyS (code := cc) (maxLocals := maxL) (ret := ret) hy ?_ ?_
  · intro args s m h hn
    obtain ⟨m9, meth, c, hn9, h1, h2, h3, h4, -, h5, h6, -⟩ := Cond.codeWith_spec (atoms_spec (ws := ws) h _ (by rw [hw]; exact List.mem_cons_self))
    cases hn.symm.trans hn9
    exact ⟨meth, c, h1, h2, h3, h4, h5, h6⟩
  · intro p e s m args below meth c s₁ B hml hP _
    have hh0 : s₁.heap = s.heap := by rw [B.state]; rfl
    obtain ⟨t, a1, o, b1, b2, b3⟩ := body p e s m args below meth c s₁ B hml hP s₁ hh0 (Stand.of_body B)
    exact ⟨t, o, a1, b1, b2, ⟨b3.1, b3.2⟩⟩
theorem gW_callX {p : Program} {e : Env} {R : Room} {s : State} {m : MethodId} {args : Array Value} {below : List Frame} {meth : Method} {c : Code} {H : Heap} {locs : List Loc} {cells slots mc ms pc : Nat} {Q : State → Prop} {lsA : Array Slot} {st0 rest : List Value} {G : gG5} {X : gX} {M : gM} {o : Option Int32} {a : Array Value}
    (hr : vx_Run p G.1 e R s m args below meth c H locs cells slots mc ms (F0 m pc lsA st0) rest (gPostT G X M o a) (gXT G X M o) (gA G.2.2.1)) (h3 : va_S (gA G.2.2.1) s.heap H locs)
    (kk : ∀ (r : Int32) (H1 : Heap) (locs1 : List Loc), o = some r → gWd G.2.1 G.2.2.1 G.2.2.2.1 G.2.2.2.2 X M s H1 → va_S (gA G.2.2.1) s.heap H1 locs1 → W p G.1 e R s m args below meth c H1 locs1 (cells + mc) (slots + ms) Q (F0 m (pc + 3) lsA (.int r :: rest)))
    (kx : ∀ (q : Addr) (ce : Cell) (H1 : Heap) (locs1 : List Loc), o = none → H1[q]? = some ce → ce.vm = .none → s.vm.findClass RE = some ce.cls → gWd G.2.1 G.2.2.1 G.2.2.2.1 G.2.2.2.2 X M s H1 → va_S (gA G.2.2.1) s.heap H1 locs1 → vx_W p G.1 e R s m args below meth c H1 locs1 (cells + mc) (slots + ms) Q (F0 m pc lsA rest) q) : W p G.1 e R s m args below meth c H locs cells slots Q (F0 m pc lsA st0) := by
  intro T hT X0
  rcases hr T hT X0 with ⟨v, st₀, t, T', L, h0, X', hL, e1, e2, ⟨r, ho, hv, hw, hz, hk⟩, stp⟩ | ⟨q, st₀, t, T', L, E, ce, h0, X', hL, e1, e2, ⟨ho, rfl, hw, hz, hk⟩, hce, hcv, hcl, stp⟩
  · cases hv
    rw [h0] at hz hk
    obtain ⟨t2, a1, b1⟩ := kk r T'.heap (locs ++ L) ho (by rw [e1]; exact hw.moved (by rw [← e2]; exact X'.warmed.alike.symm))
      ⟨Nat.le_trans h3.1 (by rw [e1]; exact hz), fun q h1 h2 => by rw [e1, hk q (Nat.lt_of_lt_of_le h1 h3.1) h2]; exact h3.2.1 q h1 h2, fun q hq => by
        rcases List.mem_append.mp hq with h | h
        · exact h3.2.2 q h
        · exact hL q h⟩ T' rfl X'
    exact ⟨t2, stp t2 a1, b1⟩
  · rw [h0] at hz hk
    obtain ⟨t2, a1, b1⟩ := kx q ce T'.heap (locs ++ L) ho (by rw [e1]; exact hce) hcv hcl (by rw [e1]; exact hw.moved (by rw [← e2]; exact X'.warmed.alike.symm))
      ⟨Nat.le_trans h3.1 (by rw [e1]; exact hz), fun q h1 h2 => by rw [e1, hk q (Nat.lt_of_lt_of_le h1 h3.1) h2]; exact h3.2.1 q h1 h2, fun q hq => by
        rcases List.mem_append.mp hq with h | h
        · exact h3.2.2 q h
        · exact hL q h⟩ T' rfl X'
    exact ⟨t2, stp.trans a1, b1⟩
noncomputable def L_tri (p1 p2 : Int32) (M : gM) : Option (Int32 × gM) := (X10_tri p1 p2 M).bind (fun o => o.elim (some (1, M)) (fun r => some (0, wL M 53 0 0 (Int32.toInt64 r))))
theorem hd_X10_triangle : yX10_triangle.cls ≠ "java/lang/invoke/MethodHandle" ∧ yX10_triangle.cls ≠ "java/lang/invoke/VarHandle" ∧ (parseMethodDescriptor yX10_triangle.desc).map (fun d => d.parameters.length) = some 2 := by decide +kernel
theorem n_L_triangle {G : gG5} {nf : Nat} {M : gM} {p1 p2 k : Int32} {M1 : gM} (hl : G.1.stackTraces = false) (hr : L_tri p1 p2 M = some (k, M1)) :
    Met G.1 yL_triangle (gwh yL_triangle cL_triangle 5 (some .int) [(0, 10, 13, 13)]) { frames := 7, cells := 1, slots := 6, locals := 123 } (gPreT G (gXn nf) M [.ref (gad 0 0), .int p1, .int p2, .ref (gad 53 0)]) (gPost G (gXn nf) (some (.int k)) M1) 1 6 (gA G.2.2.1) := by
  refine gOfWH (cc := cL_triangle) (maxL := 5) (ret := some .int) (hh := [(0, 10, 13, 13)]) (by decide +kernel) rfl ?_
  intro p e s m args below meth c s₁ B hml hv
  obtain ⟨⟨rfl, hK, hW⟩, hT⟩ := hv
  have hts := atoms_spec (ws := gwh yL_triangle cL_triangle 5 (some .int) [(0, 10, 13, 13)]) B.pre
  have hle2 : (lg_sl ([Value.ref (gad 0 0), .int p1, .int p2, .ref (gad 53 0)].map (gv G.2.2.2.1))).length ≤ 5 := by
    rw [gsl]
    exact Nat.le_of_ble_eq_true rfl
  have hen := lv_entry ([Value.ref (gad 0 0), .int p1, .int p2, .ref (gad 53 0)].map (gv G.2.2.2.1)) (n := 5) hle2
  rw [lg_entry_eq]
  rw [gargs] at hen
  have hgw : ∀ w ∈ gws, w.before (List.map (gv G.2.2.2.1) [Value.ref (gad 0 0), .int p1, .int p2, .ref (gad 53 0)]).toArray s = true := fun w hw => hts w (List.mem_cons_of_mem _ hw)
  have hown : s.vm.findClass RL = some m.cls := findClass_of_methodNamed B.named
  have htb : c.exceptionTable.toList = tableOf [(0, 10, 13, 13)] := vx_table (x := yL_triangle) B (hts _ List.mem_cons_self)
  obtain ⟨o, hc, hr⟩ := gBind_some hr
  have key : ∀ Ψ0 Ψ1 : gM → Nat → List (Nat × Value) → List Value → Prop, gC Ψ0 G (gXn nf) cL_triangle RL 5 (some .int) 7 123 none M → gC Ψ1 G (gXn nf) cL_triangle RL 5 (some .int) 7 123 none M → gR Ψ1 cL_triangle (some .int) (some (.int k)) M1
      → ((∀ r, o = some r → Ψ1 M 8 [(0, .ref (gad 0 0)), (1, .int p1), (2, .int p2), (3, .ref (gad 53 0))] [.int r, .int 0, .ref (gad 53 0)]) → Ψ0 M 5 [(0, .ref (gad 0 0)), (1, .int p1), (2, .int p2), (3, .ref (gad 53 0))] [.int p2, .int p1, .ref (gad 0 0), .int 0, .ref (gad 53 0)]) → Ψ0 M 0 [(0, .ref (gad 0 0)), (1, .int p1), (2, .int p2), (3, .ref (gad 53 0))] [] := by
    intro Ψ0 Ψ1 C C1 CR call
    refine r_aload_n (pc := 0) C dL_triangle_0 rfl 3 rfl ?_
    refine r_iconst (pc := 1) C dL_triangle_1 ki0 ?_
    refine r_aload_n (pc := 2) C dL_triangle_2 rfl 0 rfl ?_
    refine r_iload_n (pc := 3) C dL_triangle_3 rfl 1 rfl ?_
    refine r_iload_n (pc := 4) C dL_triangle_4 rfl 2 rfl ?_
    refine call (fun r ho => ?_)
    subst ho
    refine r_i2l (pc := 8) C1 dL_triangle_8 ?_
    refine r_lastN (pc := 9) C1 dL_triangle_9 rfl (e53 nf) (by decide : gin 0 1 = true) kc0 rfl ?_
    refine r_goto (pc := 10) (tgt := 17) C1 dL_triangle_10 rfl ?_
    refine r_iconst (pc := 17) C1 dL_triangle_17 ki0 ?_
    exact r_iret (pc := 18) CR dL_triangle_18 (congrArg (fun z => some (Value.int z)) (Prod.mk.inj (gSome hr)).1) (Prod.mk.inj (gSome hr)).2
  have CR1 := gR_of (G := G) (X := gXn nf) (p := p) (e := e) (s := s) (meth := meth) (m := m) (below := below) (c := c) (nL := 5) (R := (headSpec (gwh yL_triangle cL_triangle 5 (some .int) [(0, 10, 13, 13)]) { frames := 7, cells := 1, slots := 6, locals := 123 }).room) (Qc := gPost G (gXn nf) (some (.int k)) M1) (M1 := M1) (v := some (.int k)) (cells := 1) (slots := 6) (args := (List.map (gv G.2.2.2.1) [Value.ref (gad 0 0), .int p1, .int p2, .ref (gad 53 0)]).toArray) B.exec B.bytes B.returns B.notSynchronized (fun t hq hF _ => ⟨rfl, hq, hF⟩)
  refine key (fun M pc ls st => ∀ (H : Heap) (locs : List Loc) (lsA : Array Slot), lv_has lsA 5 (gls G.2.2.2.1 ls) → gWd G.2.1 G.2.2.1 G.2.2.2.1 G.2.2.2.2 (gXn nf) M s H → va_S (gA G.2.2.1) s.heap H locs →
      W p G.1 e _ s m _ below meth c H locs 0 0 (MQ below (gPost G (gXn nf) (some (.int k)) M1) _ s 1 6 (gA G.2.2.1)) (F0 m pc lsA (st.map (gv G.2.2.2.1)))) _
    ⟨p, e, s, m, _, below, meth, c, _, _, 0, 0, rfl, B.exec, B.bytes, hml, hown, hgw, hK, rfl, rfl, Nat.zero_le _, Nat.zero_le _⟩
    ⟨p, e, s, m, _, below, meth, c, _, _, 1, 6, rfl, B.exec, B.bytes, hml, hown, hgw, hK, rfl, rfl, Nat.le_refl _, Nat.le_refl _⟩
    CR1 (fun kk H locs lsA h1 h2 h3 => ?_) s.heap [] _ hen hW va_S.rf
  obtain ⟨cell, q1, q2, q3, -⟩ := gAt_obj (r := 0) (i := 0) (by decide) (h2.2.1 0 0 (e0 nf))
  have cw : CallW (headSpec (gwh yL_triangle cL_triangle 5 (some .int) [(0, 10, 13, 13)]) { frames := 7, cells := 1, slots := 6, locals := 123 }).room s (List.map (gv G.2.2.2.1) [Value.ref (gad 0 0), .int p1, .int p2, .ref (gad 53 0)]).toArray RL RX10 7 yX10_triangle cX10_triangle 4 (some .int) (gwm yX10_triangle cX10_triangle 4 (some .int)) { frames := 6, cells := 1, slots := 6, locals := 100 } 1 6 2 :=
    ⟨callB_of 2 hgw (gwm_in q1322) rfl rfl rfl (hgw _ q116) (hgw _ q1319) hd_X10_triangle ⟨by decide, by decide⟩, hgw _ q1320, hgw _ q1321⟩
  have hp : PreV s H RX10 (G.2.2.2.1 (gad 0 0)) (gPreT G (gXn nf) M [.ref (gad 0 0), .int p1, .int p2]) ([Value.int p1, .int p2].map (gv G.2.2.2.1)) :=
    ⟨gPreT_blind _ _ _ _, ⟨cell, q1, by rw [q3]; rfl, by rw [q2]; exact (hK.1 10 _ rfl).2.1⟩, fun U hU hWU => ⟨⟨rfl, hK.warm hWU, by rw [hU]; exact h2.moved hWU.alike⟩, by rw [hU]; exact (hT.warm hWU).kept (fun a ha hb => h3.2.1 a ha hb)⟩⟩
  refine gW_callX (vx_runV (rest := [Value.int 0, .ref (gad 53 0)].map (gv G.2.2.2.1)) (g := F0 m 5 lsA _) ⟨B.exec, B.bytes, hml, hown, hgw⟩ (x_X10_triangle hl hc) cw hp rfl rfl h1.1 rfl (lv_room (Nat.le_of_ble_eq_true rfl)) dL_triangle_5 ⟨Nat.le_refl _, Nat.le_refl _⟩) h3 (fun r H1 locs1 ho hw hs => kk r ho H1 locs1 lsA h1 hw hs) (fun q ce H1 locs1 ho hce hcv hcl hw hs => ?_)
  subst ho
  refine vx_catch (own := RL) (name := RE) (E := RE) (ce := ce) hown [] ⟨0, 10, 13, 13⟩ [] htb (fun z hz => nomatch hz) (by decide) (by decide) (hgw _ q1318) (va_Nw.use rfl hT.1.1) hce hcv hcl ?_
  refine lv_astore B.exec B.bytes dL_triangle_13 h1 (by decide) rfl (fun ls' h1' => ?_)
  refine lv_iconst B.exec B.bytes dL_triangle_15 ki1 ?_
  exact CR1.1 16 [] 1 .int rfl dL_triangle_16 rfl (congrArg (fun z => some (Value.int z)) (Prod.mk.inj (gSome hr)).1) H1 locs1 ls' (lv_sub h1' [] rfl) (by rw [(Prod.mk.inj (gSome hr)).2]; exact hw) hs
