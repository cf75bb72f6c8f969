section GC
variable {Ψ : gM → Nat → List (Nat × Value) → List Value → Prop} {G : gG5} {X : gX} {cc : ByteArray} {own : String} {nL : Nat} {ret : Option FieldType} {fr lo : Nat} {v0 : Option Value} {M0 M : gM} {pc : Nat} {ls ls' : List (Nat × Value)} {st : List Value}
theorem gPre_blind (G : gG5) (X : gX) (M : gM) (av : List Value) : FrameBlind (gPre G X M av) := fun a U g mk h => ⟨h.1, h.2.1.same (u := U) (U := U.calling g mk a) rfl, gWd.moved (u := U) (U := U.calling g mk a) (Vm.Alike.refl U.vm) h.2.2⟩
theorem gwm_in {y : MethodName} {bytes : ByteArray} {n : Nat} {rt : Option FieldType} (h : Cond.code y bytes n rt ∈ gws) : GoodIn gws (gwm y bytes n rt) := by
  intro w hw
  rcases List.mem_cons.mp hw with rfl | hw
  · exact ⟨h, gws_good h⟩
  · exact ⟨hw, gws_good hw⟩
/-- behind a call: the world as the callee left it -/
theorem gW_call {p : Program} {l : Launch} {e : Env} {R : Room} {s : State} {m : MethodId} {args : Array Value} {below : List Frame} {meth : Method} {c : Code} {H : Heap} {locs : List Loc} {cells slots : Nat} {Q : State → Prop} {lsA : Array Slot} {st0 rest : List Value} {v : Option Value} {M1 : gM} {a : Array Value}
    (hr : va_Run p l e R s m args below meth c H locs cells slots 0 0 (F0 m pc lsA st0) rest (gPost G X v M1 a) (gA G.2.2.1)) (h3 : va_S (gA G.2.2.1) s.heap H locs)
    (kk : ∀ (H1 : Heap) (locs1 : List Loc), gWd G.2.1 G.2.2.1 G.2.2.2.1 G.2.2.2.2 X M1 s H1 → va_S (gA G.2.2.1) s.heap H1 locs1 → W p l e R s m args below meth c H1 locs1 cells slots Q (F0 m (pc + 3) lsA ((v.map (gv G.2.2.2.1)).toList ++ rest))) : W p l e R s m args below meth c H locs cells slots Q (F0 m pc lsA st0) := by
  intro T hT X0
  obtain ⟨v', st₀, t, T', L, h0, X', hL, e1, e2, ⟨hv, hw, hz, hk⟩, stp⟩ := hr T hT X0
  cases hv
  rw [h0] at hz hk
  obtain ⟨t2, a1, b1⟩ := kk T'.heap (locs ++ L) (by rw [e1]; exact hw.moved (by rw [← e2]; exact X'.warmed.alike.symm))
    ⟨Nat.le_trans h3.1 (by rw [e1]; exact hz), fun q h1 h2 => by rw [e1, hk q (Nat.lt_of_lt_of_le h1 h3.1) h2]; exact h3.2.1 q h1 h2, fun q hq => by
      rcases List.mem_append.mp hq with h | h
      · exact h3.2.2 q h
      · exact hL q h⟩ T' rfl X'
  exact ⟨t2, stp t2 a1, b1⟩
theorem gv_catsum (ad : Nat → Nat) (st : List Value) : ((st.map (gv ad)).map fun v => v.category).sum = (st.map fun v => v.category).sum := by
  rw [List.map_map]
  congr 1
  apply List.map_congr_left
  intro v _
  exact gv_cat ad v
theorem gv_toList (ad : Nat → Nat) (v : Option Value) (rest : List Value) : (v.map (gv ad)).toList ++ rest.map (gv ad) = (v.toList ++ rest).map (gv ad) := by cases v <;> rfl
theorem r_callV (C : gC Ψ G X cc own nL ret fr lo v0 M0) {index : Nat} {y : MethodName} {bytes : ByteArray} {maxL : Nat} {rt : Option FieldType} {fr1 lo1 : Nat} {r i : Nat} (As rest : List Value) {v : Option Value} {M1 : gM} {T : u_T} {N : Nat}
    (d : decode cc pc = .ok (.invokevirtual index, 3)) (hM : gMet G X y bytes maxL rt fr1 lo1 M (.ref (gad r i) :: As) v M1)
    (hl : Cond.methodLink own index y ∈ gws) (hi : Cond.instanceMethod y ∈ gws) (hse : Cond.selects y.cls y y ∈ gws) (hini : Cond.initialized y.cls ∈ gws) (hco : Cond.code y bytes maxL rt ∈ gws)
    (hd : y.cls ≠ "java/lang/invoke/MethodHandle" ∧ y.cls ≠ "java/lang/invoke/VarHandle" ∧ (parseMethodDescriptor y.desc).map (fun d => d.parameters.length) = some As.length) (hR : fr1 + 1 ≤ fr ∧ 8 + (maxL + 11) + lo1 ≤ lo)
    (hc : vwCl[gSh r]? = some (y.cls, T, N)) (hs : gSh r < 100) (he : X.1 r i = true) (hst : st = As.reverse ++ .ref (gad r i) :: rest) (hcat : (rest.map fun v => v.category).sum ≤ 8)
    (k : Ψ M1 (pc + 3) ls (v.toList ++ rest)) : Ψ M pc ls st := by
  obtain ⟨p, e, s, m, args, below, meth, c, Q, R, cells, slots, rfl, hx, hb, hml, hown, hts, hK, rfl, rfl, hcl, hsl⟩ := C
  intro H locs lsA h1 h2 h3
  obtain ⟨cell, q1, q2, q3, -⟩ := gAt_obj hs (h2.2.1 r i he)
  have cw : CallW R s args own y.cls index y bytes maxL rt (gwm y bytes maxL rt) { frames := fr1, cells := 0, slots := 0, locals := lo1 } 0 0 As.length :=
    ⟨callB_of As.length hts (gwm_in hco) rfl rfl rfl (hts _ hini) (hts _ hl) hd hR, hts _ hi, hts _ hse⟩
  have hp : PreV s H y.cls (G.2.2.2.1 (gad r i)) (gPre G X M (.ref (gad r i) :: As)) (As.map (gv G.2.2.2.1)) :=
    ⟨gPre_blind _ _ _ _, ⟨cell, q1, by rw [q3]; rfl, by rw [q2]; exact (hK.1 (gSh r) _ hc).2.1⟩, fun U hU hW => ⟨rfl, hK.warm hW, by rw [hU]; exact h2.moved hW.alike⟩⟩
  refine gW_call (va_runV (rest := rest.map (gv G.2.2.2.1)) (g := F0 m pc lsA (st.map (gv G.2.2.2.1))) ⟨hx, hb, hml, hown, hts⟩ hM cw hp rfl (by simp) h1.1 (by rw [hst]; simp [List.map_append, List.map_reverse]; rfl) (lv_room (by rw [gv_catsum]; exact hcat)) d ⟨hcl, hsl⟩) h3 (fun H1 locs1 hw hs1 => ?_)
  rw [gv_toList]
  exact k H1 locs1 lsA h1 hw hs1
theorem r_callS (C : gC Ψ G X cc own nL ret fr lo v0 M0) {index : Nat} {y : MethodName} {bytes : ByteArray} {maxL : Nat} {rt : Option FieldType} {fr1 lo1 : Nat} (As rest : List Value) {v : Option Value} {M1 : gM}
    (d : decode cc pc = .ok (.invokestatic index, 3)) (hM : gMet G X y bytes maxL rt fr1 lo1 M As v M1)
    (hl : Cond.methodLink own index y ∈ gws) (hi : Cond.static y ∈ gws) (hini : Cond.initialized y.cls ∈ gws) (hco : Cond.code y bytes maxL rt ∈ gws)
    (hd : y.cls ≠ "java/lang/invoke/MethodHandle" ∧ y.cls ≠ "java/lang/invoke/VarHandle" ∧ (parseMethodDescriptor y.desc).map (fun d => d.parameters.length) = some As.length) (hR : fr1 + 1 ≤ fr ∧ 8 + (maxL + 11) + lo1 ≤ lo)
    (hst : st = As.reverse ++ rest) (hcat : (rest.map fun v => v.category).sum ≤ 8)
    (k : Ψ M1 (pc + 3) ls (v.toList ++ rest)) : Ψ M pc ls st := by
  obtain ⟨p, e, s, m, args, below, meth, c, Q, R, cells, slots, rfl, hx, hb, hml, hown, hts, hK, rfl, rfl, hcl, hsl⟩ := C
  intro H locs lsA h1 h2 h3
  have cw : CallB R s args own index y bytes maxL rt (gwm y bytes maxL rt) { frames := fr1, cells := 0, slots := 0, locals := lo1 } 0 0 As.length ∧ (Cond.static y).before args s = true :=
    ⟨callB_of As.length hts (gwm_in hco) rfl rfl rfl (hts _ hini) (hts _ hl) hd hR, hts _ hi⟩
  have hp : PreS s H (gPre G X M As) (As.map (gv G.2.2.2.1)) :=
    ⟨gPre_blind _ _ _ _, fun U hU hW => ⟨rfl, hK.warm hW, by rw [hU]; exact h2.moved hW.alike⟩⟩
  refine gW_call (va_runS (rest := rest.map (gv G.2.2.2.1)) (g := F0 m pc lsA (st.map (gv G.2.2.2.1))) ⟨hx, hb, hml, hown, hts⟩ hM cw hp rfl (by simp) h1.1 (by rw [hst]; simp [List.map_append, List.map_reverse]) (lv_room (by rw [gv_catsum]; exact hcat)) d ⟨hcl, hsl⟩) h3 (fun H1 locs1 hw hs1 => ?_)
  rw [gv_toList]
  exact k H1 locs1 lsA h1 hw hs1
/-- the one call of a private static method of the nest's host -/
theorem r_callSN (C : gC Ψ G X cc RX9 nL ret fr lo v0 M0) {bytes : ByteArray} {maxL : Nat} {rt : Option FieldType} {fr1 lo1 : Nat} (As rest : List Value) {v : Option Value} {M1 : gM}
    (d : decode cc pc = .ok (.invokestatic 118, 3)) (hM : gMet G X yX10_isPoint bytes maxL rt fr1 lo1 M As v M1)
    (hi : Cond.static yX10_isPoint ∈ gws) (hini : Cond.initialized yX10_isPoint.cls ∈ gws) (hco : Cond.code yX10_isPoint bytes maxL rt ∈ gws)
    (hd : yX10_isPoint.cls ≠ "java/lang/invoke/MethodHandle" ∧ yX10_isPoint.cls ≠ "java/lang/invoke/VarHandle" ∧ (parseMethodDescriptor yX10_isPoint.desc).map (fun d => d.parameters.length) = some As.length) (hR : fr1 + 1 ≤ fr ∧ 8 + (maxL + 11) + lo1 ≤ lo)
    (hst : st = As.reverse ++ rest) (hcat : (rest.map fun v => v.category).sum ≤ 8)
    (k : Ψ M1 (pc + 3) ls (v.toList ++ rest)) : Ψ M pc ls st := by
  obtain ⟨p, e, s, m, args, below, meth, c, Q, R, cells, slots, rfl, hx, hb, hml, hown, hts, hK, rfl, rfl, hcl, hsl⟩ := C
  intro H locs lsA h1 h2 h3
  have cw : va_CN R s args RX9 118 yX10_isPoint RX10 bytes maxL rt (gwm yX10_isPoint bytes maxL rt) { frames := fr1, cells := 0, slots := 0, locals := lo1 } 0 0 As.length ∧ (Cond.static yX10_isPoint).before args s = true ∧ True :=
    ⟨va_cnB As.length hts (gwm_in hco) rfl rfl rfl hK.2.2.1 (hts _ hini) hd hR, hts _ hi, trivial⟩
  have hp : PreS s H (gPre G X M As) (As.map (gv G.2.2.2.1)) :=
    ⟨gPre_blind _ _ _ _, fun U hU hW => ⟨rfl, hK.warm hW, by rw [hU]; exact h2.moved hW.alike⟩⟩
  refine gW_call (va_runSN (rest := rest.map (gv G.2.2.2.1)) (g := F0 m pc lsA (st.map (gv G.2.2.2.1))) ⟨hx, hb, hml, hown, hts⟩ hM cw hp rfl (by simp) h1.1 (by rw [hst]; simp [List.map_append, List.map_reverse]) (lv_room (by rw [gv_catsum]; exact hcat)) d ⟨hcl, hsl⟩) h3 (fun H1 locs1 hw hs1 => ?_)
  rw [gv_toList]
  exact k H1 locs1 lsA h1 hw hs1
theorem gR_of {p : Program} {e : Env} {R : Room} {s : State} {m : MethodId} {args : Array Value} {below : List Frame} {meth : Method} {c : Code} {cells slots nL : Nat} {bytes : ByteArray} {rt : Option FieldType} {v : Option Value} {M1 : gM} {Qc : Array Value → State → Outcome → State → Prop} (hx : p.tables.exec = Jvm.exec) (hb : c.code = bytes) (hr : meth.sig.returnType = rt) (hlocks : meth.locks = false)
    (hq : ∀ t : State, gWd G.2.1 G.2.2.1 G.2.2.2.1 G.2.2.2.2 X M1 t t.heap → va_F (gA G.2.2.1) s t → s.WarmedH t.vm → Qc args s (.returned (v.map (gv G.2.2.2.1))) t) :
    gR (fun M pc ls st => ∀ (H : Heap) (locs : List Loc) (lsA : Array Slot), lv_has lsA nL (gls G.2.2.2.1 ls) → gWd G.2.1 G.2.2.1 G.2.2.2.1 G.2.2.2.2 X M s H → va_S (gA G.2.2.1) s.heap H locs →
      W p G.1 e R s m args below meth c H locs cells slots (MQ below Qc args s cells slots (gA G.2.2.1)) (F0 m pc lsA (st.map (gv G.2.2.2.1)))) bytes rt v M1 := by
  refine ⟨fun pc ls x ty hty d hz hv => ?_, fun pc ls x hty d hv => ?_, fun pc ls hty d hv => ?_⟩
  · subst hv
    intro H locs lsA h1 h2 h3
    exact W.zret hx hb (hr.trans hty) hz (fun t ht hW => hq t (by rw [ht]; exact h2.moved hW.alike) (h3.F ht) hW) h3.2.2 d
  · subst hv
    intro H locs lsA h1 h2 h3
    exact W.lret hx hb (hr.trans hty) (fun t ht hW => hq t (by rw [ht]; exact h2.moved hW.alike) (h3.F ht) hW) h3.2.2 d
  · subst hv
    intro H locs lsA h1 h2 h3
    exact W.vret hx hb (hr.trans hty) (fun t ht hW => hq t (by rw [ht]; exact h2.moved hW.alike) (h3.F ht) hW) h3.2.2 d
/-- a method's walk gives its contract -/
theorem gMet_of {y : MethodName} {bytes : ByteArray} {n : Nat} {rt : Option FieldType} {av : List Value} {v : Option Value} {M1 : gM} {own : String} (hy : plainName y.cls = true) (ho : y.cls = own) (hle : (lg_sl av).length ≤ n)
    (body : ∀ Ψ, gC Ψ G X bytes own n rt fr lo v M1 → gR Ψ bytes rt v M1 → Ψ M 0 (lv_args 0 av) []) : gMet G X y bytes n rt fr lo M av v M1 := by
  subst ho
  refine Met.ofW (cc := bytes) (maxL := n) (ret := rt) hy rfl ?_
  intro p e s m args below meth c s₁ B hml hv
  obtain ⟨rfl, hK, hW⟩ := hv
  have hts := atoms_spec (ws := gwm y bytes n rt) B.pre
  have hle2 : (lg_sl (av.map (gv G.2.2.2.1))).length ≤ n := by
    refine Nat.le_trans (Nat.le_of_eq ?_) hle
    clear hle body hts hK hW B
    induction av with
    | nil => rfl
    | cons a t ih =>
      simp only [lg_sl, List.map_cons, List.flatMap_cons, List.length_append, gv_cat] at ih ⊢
      rw [ih]
      split <;> rfl
  have hl := lv_entry (av.map (gv G.2.2.2.1)) (n := n) hle2
  rw [lg_entry_eq]
  have hla : ∀ (i : Nat) (av : List Value), lv_args i (av.map (gv G.2.2.2.1)) = gls G.2.2.2.1 (lv_args i av) := by
    intro i av
    induction av generalizing i with
    | nil => rfl
    | cons a t ih =>
      simp only [List.map_cons, lv_args, gls, gv_cat] at ih ⊢
      rw [ih]
  rw [hla] at hl
  exact body _ ⟨p, e, s, m, _, below, meth, c, _, _, 0, 0, rfl, B.exec, B.bytes, hml, findClass_of_methodNamed B.named, fun w hw => hts w (List.mem_cons_of_mem _ hw), hK, rfl, rfl, Nat.le_refl 0, Nat.le_refl 0⟩ (gR_of (Qc := gPost G X v M1) B.exec B.bytes B.returns B.notSynchronized (fun t hq hF _ => ⟨rfl, hq, hF⟩)) s.heap [] _ hl hW va_S.rf
theorem gOfWF {l : Launch} {y : MethodName} {ws ws' : List Cond} {rm : Room} {Pc : Array Value → State → Prop} {Qc : Array Value → State → Outcome → State → Prop} {mc ms : Nat} {free : Addr → Prop} {cc : ByteArray} {maxL : Nat} {ret : Option FieldType}
    (hy : plainFor y = true) (hw : ws = Cond.code y cc maxL ret :: ws')
    (body : ∀ p e s m args below meth c s₁, BodyLoose p l y (headSpec ws rm) cc maxL ret e s m args below meth c s₁ → c.maxLocals = maxL → Pc args s →
      W p l e (headSpec ws rm).room s m args below meth c s.heap [] 0 0 (MQ below Qc args s mc ms free) (entryFrame m args maxL)) : Met l y ws rm Pc Qc mc ms free := by
  refine MetFree.of_bodySF (code := cc) (maxLocals := maxL) (ret := ret) hy ?_ ?_
  · intro args s m h hn
    obtain ⟨meth, c, h1, h2, h3, h4, h5, h6, -, -⟩ := Cond.code_spec hn (atoms_spec (ws := ws) h _ (by rw [hw]; exact List.mem_cons_self))
    exact ⟨meth, c, h1, h2, h3, h4, h5, h6⟩
  · intro p e s m args below meth c s₁ B hml hP _
    have hh0 : s₁.heap = s.heap := by rw [B.state]; rfl
    obtain ⟨t, a1, o, b1, b2, b3⟩ := body p e s m args below meth c s₁ B hml hP s₁ hh0 (Stand.of_body B)
    exact ⟨t, o, a1, b1, b2, ⟨b3.1, b3.2⟩⟩
/-- the same for a class some of whose methods are run otherwise -/
theorem gMet_ofF {y : MethodName} {bytes : ByteArray} {n : Nat} {rt : Option FieldType} {av : List Value} {v : Option Value} {M1 : gM} {own : String} (hy : plainFor y = true) (ho : y.cls = own) (hle : (lg_sl av).length ≤ n)
    (body : ∀ Ψ, gC Ψ G X bytes own n rt fr lo v M1 → gR Ψ bytes rt v M1 → Ψ M 0 (lv_args 0 av) []) : gMet G X y bytes n rt fr lo M av v M1 := by
  subst ho
  refine gOfWF (cc := bytes) (maxL := n) (ret := rt) hy rfl ?_
  intro p e s m args below meth c s₁ B hml hv
  obtain ⟨rfl, hK, hW⟩ := hv
  have hts := atoms_spec (ws := gwm y bytes n rt) B.pre
  have hle2 : (lg_sl (av.map (gv G.2.2.2.1))).length ≤ n := by
    refine Nat.le_trans (Nat.le_of_eq ?_) hle
    clear hle body hts hK hW B
    induction av with
    | nil => rfl
    | cons a t ih =>
      simp only [lg_sl, List.map_cons, List.flatMap_cons, List.length_append, gv_cat] at ih ⊢
      rw [ih]
      split <;> rfl
  have hl := lv_entry (av.map (gv G.2.2.2.1)) (n := n) hle2
  rw [lg_entry_eq]
  have hla : ∀ (i : Nat) (av : List Value), lv_args i (av.map (gv G.2.2.2.1)) = gls G.2.2.2.1 (lv_args i av) := by
    intro i av
    induction av generalizing i with
    | nil => rfl
    | cons a t ih =>
      simp only [List.map_cons, lv_args, gls, gv_cat] at ih ⊢
      rw [ih]
  rw [hla] at hl
  exact body _ ⟨p, e, s, m, _, below, meth, c, _, _, 0, 0, rfl, B.exec, B.bytes, hml, findClass_of_methodNamed B.named, fun w hw => hts w (List.mem_cons_of_mem _ hw), hK, rfl, rfl, Nat.le_refl 0, Nat.le_refl 0⟩ (gR_of (Qc := gPost G X v M1) B.exec B.bytes B.returns B.notSynchronized (fun t hq hF _ => ⟨rfl, hq, hF⟩)) s.heap [] _ hl hW va_S.rf
end GC
