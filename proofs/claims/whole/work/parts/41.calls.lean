section GDC
variable {Φ : gF} {l : Launch} {D : va_G} {base : Nat} {ad0 : Nat → Nat} {cc : ByteArray} {own : String} {nL fr lo mc ms : Nat} {mn : String} {cells slots : Nat} {ad : Nat → Nat} {cA : Nat → ClassId} {X : gX} {M : gM} {pc : Nat} {ls : List (Nat × Value)} {st : List Value}
theorem gW_callD {p : Program} {e : Env} {R : Room} {s : State} {m : MethodId} {args : Array Value} {below : List Frame} {meth : Method} {c : Code} {H : Heap} {locs : List Loc} {mc1 ms1 : Nat} {Q : State → Prop} {lsA : Array Slot} {st0 rest : List Value} {v : Option Value} {X1 : gX} {M1 : gM} {a : Array Value}
    (hr : va_Run p l e R s m args below meth c H locs cells slots mc1 ms1 (F0 m pc lsA st0) rest (gPostD D base ad X v X1 M1 a) (gA base)) (h3 : va_S (gA base) s.heap H locs)
    (kk : ∀ (ad' : Nat → Nat) (cA' : Nat → ClassId) (H1 : Heap) (locs1 : List Loc), gAgr X ad ad' → gWd D base ad' cA' X1 M1 s H1 → va_S (gA base) s.heap H1 locs1 → W p l e R s m args below meth c H1 locs1 (cells + mc1) (slots + ms1) Q (F0 m (pc + 3) lsA ((v.map (gv ad)).toList ++ rest))) : W p l e R s m args below meth c H locs cells slots Q (F0 m pc lsA st0) := by
  intro T hT X0
  obtain ⟨v', st₀, t, T', L, h0, X', hL, e1, e2, ⟨hv, ⟨ad', cA', hag, hw⟩, hz, hk⟩, stp⟩ := hr T hT X0
  cases hv
  rw [h0] at hz hk
  obtain ⟨t2, a1, b1⟩ := kk ad' cA' T'.heap (locs ++ L) hag (by rw [e1]; exact hw.moved (by rw [← e2]; exact X'.warmed.alike.symm))
    ⟨Nat.le_trans h3.1 (by rw [e1]; exact hz), fun q h1 h2 => by rw [e1, hk q (Nat.lt_of_lt_of_le h1 h3.1) h2]; exact h3.2.1 q h1 h2, fun q hq => by
      rcases List.mem_append.mp hq with h | h
      · exact h3.2.2 q h
      · exact hL q h⟩ T' rfl X'
  exact ⟨t2, stp t2 a1, b1⟩
theorem d_callI (Z : gD Φ l D base ad0 cc own nL fr lo mc ms mn) {index : Nat} {y : MethodName} {bytes : ByteArray} {maxL : Nat} {fr1 lo1 mc1 ms1 : Nat} {r i : Nat} (As rest : List Value) {X1 : gX} {M1 : gM}
    (d : decode cc pc = .ok (.invokespecial index, 3)) (hM : gMetD l D base y bytes maxL none fr1 lo1 mc1 ms1 ad cA X M (.ref (gad r i) :: As) none X1 M1) (had : ∀ k, k < 2 → ad (gad 62 k) = ad0 (gad 62 k))
    (hl : Cond.methodLink own index y ∈ gws) (hi : Cond.instanceMethod y ∈ gws) (hini : Cond.initialized y.cls ∈ gws) (hco : Cond.code y bytes maxL none ∈ gws) (hyn : y.name = "<init>")
    (hd : y.cls ≠ "java/lang/invoke/MethodHandle" ∧ y.cls ≠ "java/lang/invoke/VarHandle" ∧ (parseMethodDescriptor y.desc).map (fun d => d.parameters.length) = some As.length) (hR : fr1 + 1 ≤ fr ∧ 8 + (maxL + 11) + lo1 ≤ lo) (hroom : cells + mc1 ≤ mc ∧ slots + ms1 ≤ ms)
    (hst : st = As.reverse ++ .ref (gad r i) :: rest) (hcat : (rest.map fun v => v.category).sum ≤ 8) (hls : ∀ q ∈ ls, gEv X q.2) (hrs : ∀ v ∈ rest, gEv X v)
    (k : ∀ ad' cA', gAgr X ad ad' → Φ (cells + mc1) (slots + ms1) ad' cA' X1 M1 (pc + 3) ls rest) : Φ cells slots ad cA X M pc ls st := by
  obtain ⟨p, e, s, m, args, below, meth, c, Q, R, rfl, hx, hb, hml, hown, hts, hK, rfl, rfl, rfl, rfl, hmn⟩ := Z
  intro H locs lsA h1 h2 h3
  have cw : CallB R s args own index y bytes maxL none (gwm y bytes maxL none) { frames := fr1, cells := mc1, slots := ms1, locals := lo1 } mc1 ms1 As.length ∧ y.name = "<init>" ∧ (Cond.instanceMethod y).before args s = true :=
    ⟨callB_of As.length hts (gwm_in hco) rfl rfl rfl (hts _ hini) (hts _ hl) hd hR, hyn, hts _ hi⟩
  have hp : PreS s H (gPre (l, D, base, ad, cA) X M (.ref (gad r i) :: As)) (.ref (ad (gad r i)) :: As.map (gv ad)) :=
    ⟨gPre_blind _ _ _ _, fun U hU hW => ⟨rfl, (hK.ad had).warm hW, by rw [hU]; exact h2.moved hW.alike⟩⟩
  refine gW_callD (va_runI (rest := rest.map (gv ad)) (g := F0 m pc lsA (st.map (gv ad))) ⟨hx, hb, hml, hown, hts⟩ hM cw hp rfl (by simp) h1.1 (by rw [hst]; simp [List.map_append, List.map_reverse]; rfl) (lv_room (by rw [gv_catsum]; exact hcat)) d hroom) h3 (fun ad' cA' H1 locs1 hag hw hs1 => ?_)
  have key := k ad' cA' hag H1 locs1 lsA (by rw [gEv_ls hag hls]; exact h1) hw hs1
  rw [gEv_st hag hrs] at key
  exact key
theorem d_callV (Z : gD Φ l D base ad0 cc own nL fr lo mc ms mn) {index : Nat} {y : MethodName} {bytes : ByteArray} {maxL : Nat} {rt : Option FieldType} {fr1 lo1 mc1 ms1 : Nat} {r i : Nat} (As rest : List Value) {v : Option Value} {X1 : gX} {M1 : gM} {T : u_T} {N : Nat}
    (d : decode cc pc = .ok (.invokevirtual index, 3)) (hM : gMetD l D base y bytes maxL rt fr1 lo1 mc1 ms1 ad cA X M (.ref (gad r i) :: As) v X1 M1) (had : ∀ k, k < 2 → ad (gad 62 k) = ad0 (gad 62 k)) (hv : ∀ w ∈ v, ∃ x, w = .int x)
    (hl : Cond.methodLink own index y ∈ gws) (hi : Cond.instanceMethod y ∈ gws) (hse : Cond.selects y.cls y y ∈ gws) (hini : Cond.initialized y.cls ∈ gws) (hco : Cond.code y bytes maxL rt ∈ gws)
    (hd : y.cls ≠ "java/lang/invoke/MethodHandle" ∧ y.cls ≠ "java/lang/invoke/VarHandle" ∧ (parseMethodDescriptor y.desc).map (fun d => d.parameters.length) = some As.length) (hR : fr1 + 1 ≤ fr ∧ 8 + (maxL + 11) + lo1 ≤ lo) (hroom : cells + mc1 ≤ mc ∧ slots + ms1 ≤ ms)
    (hc : vwCl[gSh r]? = some (y.cls, T, N)) (hs : gSh r < 100) (he : X.1 r i = true)
    (hst : st = As.reverse ++ .ref (gad r i) :: rest) (hcat : (rest.map fun v => v.category).sum ≤ 8) (hls : ∀ q ∈ ls, gEv X q.2) (hrs : ∀ v ∈ rest, gEv X v)
    (k : ∀ ad' cA', gAgr X ad ad' → Φ (cells + mc1) (slots + ms1) ad' cA' X1 M1 (pc + 3) ls (v.toList ++ rest)) : Φ cells slots ad cA X M pc ls st := by
  obtain ⟨p, e, s, m, args, below, meth, c, Q, R, rfl, hx, hb, hml, hown, hts, hK, rfl, rfl, rfl, rfl, hmn⟩ := Z
  intro H locs lsA h1 h2 h3
  obtain ⟨cell, q1, q2, q3, -⟩ := gAt_obj hs (h2.2.1 r i he)
  have cw : CallW R s args own y.cls index y bytes maxL rt (gwm y bytes maxL rt) { frames := fr1, cells := mc1, slots := ms1, locals := lo1 } mc1 ms1 As.length :=
    ⟨callB_of As.length hts (gwm_in hco) rfl rfl rfl (hts _ hini) (hts _ hl) hd hR, hts _ hi, hts _ hse⟩
  have hp : PreV s H y.cls (ad (gad r i)) (gPre (l, D, base, ad, cA) X M (.ref (gad r i) :: As)) (As.map (gv ad)) :=
    ⟨gPre_blind _ _ _ _, ⟨cell, q1, by rw [q3]; rfl, by rw [q2]; exact (hK.1 (gSh r) _ hc).2.1⟩, fun U hU hW => ⟨rfl, (hK.ad had).warm hW, by rw [hU]; exact h2.moved hW.alike⟩⟩
  refine gW_callD (va_runV (rest := rest.map (gv ad)) (g := F0 m pc lsA (st.map (gv ad))) ⟨hx, hb, hml, hown, hts⟩ hM cw hp rfl (by simp) h1.1 (by rw [hst]; simp [List.map_append, List.map_reverse]; rfl) (lv_room (by rw [gv_catsum]; exact hcat)) d hroom) h3 (fun ad' cA' H1 locs1 hag hw hs1 => ?_)
  have key := k ad' cA' hag H1 locs1 lsA (by rw [gEv_ls hag hls]; exact h1) hw hs1
  rw [List.map_append, gEv_st hag hrs] at key
  have ev : v.toList.map (gv ad') = (v.map (gv ad)).toList := by
    cases v with
    | none => rfl
    | some w =>
      obtain ⟨x, rfl⟩ := hv w rfl
      rfl
  rw [ev] at key
  exact key
/-- a method that makes cells: its walk gives its contract -/
theorem gMetD_of {y : MethodName} {bytes : ByteArray} {n : Nat} {rt : Option FieldType} {av : List Value} {v : Option Value} {X1 : gX} {M1 : gM} {own : String} (hy : plainName y.cls = true) (ho : y.cls = own) (hle : (lg_sl av).length ≤ n) (hv : ∀ w ∈ v, ∃ x, w = .int x)
    (body : ∀ Φ, gD Φ l D base ad bytes own n fr lo mc ms y.name → (∀ ad' cA', gAgr X ad ad' → gR (Φ mc ms ad' cA' X1) bytes rt v M1) → Φ 0 0 ad cA X M 0 (lv_args 0 av) []) : gMetD l D base y bytes n rt fr lo mc ms ad cA X M av v X1 M1 := by
  subst ho
  refine Met.ofW (cc := bytes) (maxL := n) (ret := rt) hy rfl ?_
  intro p e s m args below meth c s₁ B hml hvv
  obtain ⟨rfl, hK, hW⟩ := hvv
  have hts := atoms_spec (ws := gwm y bytes n rt) B.pre
  have hle2 : (lg_sl (av.map (gv ad))).length ≤ n := by
    refine Nat.le_trans (Nat.le_of_eq ?_) hle
    clear hle body hts hK hW B
    induction av with
    | nil => rfl
    | cons a t ih =>
      simp only [lg_sl, List.map_cons, List.flatMap_cons, List.length_append, gv_cat] at ih ⊢
      rw [ih]
      split <;> rfl
  have hl := lv_entry (av.map (gv ad)) (n := n) hle2
  have hla : ∀ (i : Nat) (av : List Value), lv_args i (av.map (gv ad)) = gls ad (lv_args i av) := by
    intro i av
    induction av generalizing i with
    | nil => rfl
    | cons a t ih =>
      simp only [List.map_cons, lv_args, gls, gv_cat] at ih ⊢
      rw [ih]
  rw [hla] at hl
  have ev : ∀ ad' : Nat → Nat, v.map (gv ad') = v.map (gv ad) := by
    intro ad'
    cases v with
    | none => rfl
    | some w =>
      obtain ⟨x, rfl⟩ := hv w rfl
      rfl
  have eF : (entryFrame m ((av.map (gv ad)).toArray) n) = F0 m 0 ((lg_sl (av.map (gv ad)) ++ List.replicate (n - (lg_sl (av.map (gv ad))).length) Slot.unset).toArray) [] := lg_entry_eq m _ n
  show W p l e _ s m _ below meth c s.heap [] 0 0 _ (entryFrame m ((av.map (gv ad)).toArray) n)
  rw [eF]
  exact body (fun cells slots ad cA X M pc ls st => ∀ (H : Heap) (locs : List Loc) (lsA : Array Slot), lv_has lsA n (gls ad ls) → gWd D base ad cA X M s H → va_S (gA base) s.heap H locs →
      W p l e (headSpec (gwm y bytes n rt) { frames := fr, cells := mc, slots := ms, locals := lo }).room s m _ below meth c H locs cells slots _ (F0 m pc lsA (st.map (gv ad)))) 
    ⟨p, e, s, m, _, below, meth, c, _, _, rfl, B.exec, B.bytes, hml, findClass_of_methodNamed B.named, fun w hw => hts w (List.mem_cons_of_mem _ hw), hK, rfl, rfl, rfl, rfl, (name_of_methodNamed B.named B.method).1⟩
    (fun ad' cA' hag => gR_of (G := (l, D, base, ad', cA')) (Qc := gPostD D base ad X v X1 M1) B.exec B.bytes B.returns B.notSynchronized (fun t hq hF _ => ⟨by rw [← ev ad'], ⟨ad', cA', hag, hq⟩, hF⟩)) s.heap [] _ hl hW va_S.rf
end GDC
