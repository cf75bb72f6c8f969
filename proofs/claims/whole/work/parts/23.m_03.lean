theorem hd_X1_farOf : yX1_farOf.cls ≠ "java/lang/invoke/MethodHandle" ∧ yX1_farOf.cls ≠ "java/lang/invoke/VarHandle" ∧ (parseMethodDescriptor yX1_farOf.desc).map (fun d => d.parameters.length) = some 2 := by decide +kernel
noncomputable def X1_farOf_L10 (i1 : Nat) (x2 : Int32) (x3 : Int32) (x4 : Int32) (M : gM) : Option ((Int32 × Int32) ⊕ Int32) := gG (gin (x2 + 1) 17) ((if (M.1 14 0 (Int32.toNatClampNeg (x2 + 1))) ≤ x4 then some (.inr x3) else gG (gin x4 256) (gG (gin (M.1 13 0 (Int32.toNatClampNeg x4)) 256) (gLet ((M.1 34 i1 (Int32.toNatClampNeg (M.1 13 0 (Int32.toNatClampNeg x4))))) (fun x5_7 => (if x5_7 ≤ x3 then gLet (x4 + 1) (fun x4_9 => some (.inl (x3, x4_9))) else gLet (x4 + 1) (fun x4_10 => some (.inl (x5_7, x4_10)))))))))
theorem t_X1_farOf_L10 {Ψ : gM → Nat → List (Nat × Value) → List Value → Prop} {G : gG5} {nf : Nat} {M : gM} {v0 : Option Value} {M0 : gM} {i1 : Nat} {x2 : Int32} {x3 : Int32} {x4 : Int32} {w : ((Int32 × Int32) ⊕ Int32)} (C : gC Ψ G (gXn nf) cX1_farOf RX1 6 (some .int) 0 0 v0 M0) (h1 : i1 < nf + 3) (hr : X1_farOf_L10 i1 x2 x3 x4 M = some w) (hn : ∀ s, w = .inl s → Ψ M 10 [(0, .ref (gad 12 0)), (1, .ref (gad 33 i1)), (2, .int x2), (3, .int (s.1)), (4, .int (s.2))] []) (hx : ∀ e, w = .inr e → (fun e => Ψ M 56 [(3, .int e)] []) e) : Ψ M 10 [(0, .ref (gad 12 0)), (1, .ref (gad 33 i1)), (2, .int x2), (3, .int x3), (4, .int x4)] [] := by
  refine r_iload (pc := 10) C dX1_farOf_10 4 rfl ?_
  refine r_aload_n (pc := 12) C dX1_farOf_12 rfl 0 rfl ?_
  refine g12_8 (pc := 13) C dX1_farOf_13 q283 (e12 nf) ?_
  refine r_iload_n (pc := 16) C dX1_farOf_16 rfl 2 rfl ?_
  refine r_iconst (pc := 17) C dX1_farOf_17 ki1 ?_
  refine r_iadd (pc := 18) C dX1_farOf_18 ?_
  obtain ⟨g_3, hr⟩ := gG_some hr
  refine r_ialdN (pc := 19) C dX1_farOf_19 rfl (e14 nf) g_3 rfl ?_
  refine r_icmp_ge (pc := 20) (tgt := 56) C dX1_farOf_20 rfl (fun c_4 => ?_) (fun c_4 => ?_)
  · replace hr := (if_pos c_4).symm.trans hr
    refine r_sub C [3] (ls' := [(3, .int x3)]) rfl ?_
    exact hx x3 (gSome hr)
  · replace hr := (if_neg c_4).symm.trans hr
    refine r_aload_n (pc := 23) C dX1_farOf_23 rfl 1 rfl ?_
    refine g33_0 (pc := 24) C dX1_farOf_24 q401 (e33 (nf := nf) h1) ?_
    refine r_aload_n (pc := 27) C dX1_farOf_27 rfl 0 rfl ?_
    refine g12_7 (pc := 28) C dX1_farOf_28 q279 (e12 nf) ?_
    refine r_iload (pc := 31) C dX1_farOf_31 4 rfl ?_
    obtain ⟨g_5, hr⟩ := gG_some hr
    refine r_ialdN (pc := 33) C dX1_farOf_33 rfl (e13 nf) g_5 rfl ?_
    obtain ⟨g_6, hr⟩ := gG_some hr
    refine r_ialdN (pc := 34) C dX1_farOf_34 rfl (e34 (nf := nf) h1) g_6 rfl ?_
    obtain ⟨x5_7, ex5_7, hr⟩ := gLet_some hr
    refine r_istore (pc := 35) C dX1_farOf_35 (by decide) ex5_7 (ls' := [(5, .int x5_7), (0, .ref (gad 12 0)), (1, .ref (gad 33 i1)), (2, .int x2), (3, .int x3), (4, .int x4)]) rfl ?_
    refine r_iload (pc := 37) C dX1_farOf_37 0 rfl ?_
    refine r_iload_n (pc := 39) C dX1_farOf_39 rfl 4 rfl ?_
    refine r_icmp_le (pc := 40) (tgt := 48) C dX1_farOf_40 rfl (fun c_8 => ?_) (fun c_8 => ?_)
    · replace hr := (if_pos c_8).symm.trans hr
      refine r_iload_n (pc := 48) C dX1_farOf_48 rfl 4 rfl ?_
      refine r_istore_n (pc := 49) C dX1_farOf_49 rfl (by decide) rfl (ls' := [(3, .int x3), (5, .int x5_7), (0, .ref (gad 12 0)), (1, .ref (gad 33 i1)), (2, .int x2), (4, .int x4)]) rfl ?_
      obtain ⟨x4_9, ex4_9, hr⟩ := gLet_some hr
      refine r_iinc (pc := 50) C dX1_farOf_50 5 rfl rfl (by decide) ex4_9 (ls' := [(4, .int x4_9), (3, .int x3), (5, .int x5_7), (0, .ref (gad 12 0)), (1, .ref (gad 33 i1)), (2, .int x2)]) rfl ?_
      refine r_goto (pc := 53) (tgt := 10) C dX1_farOf_53 rfl ?_
      refine r_sub C [3, 4, 5, 1, 0] (ls' := [(0, .ref (gad 12 0)), (1, .ref (gad 33 i1)), (2, .int x2), (3, .int x3), (4, .int x4_9)]) rfl ?_
      exact hn (x3, x4_9) (gSome hr)
    · replace hr := (if_neg c_8).symm.trans hr
      refine r_iload (pc := 43) C dX1_farOf_43 0 rfl ?_
      refine r_goto (pc := 45) (tgt := 49) C dX1_farOf_45 rfl ?_
      refine r_istore_n (pc := 49) C dX1_farOf_49 rfl (by decide) rfl (ls' := [(3, .int x5_7), (5, .int x5_7), (0, .ref (gad 12 0)), (1, .ref (gad 33 i1)), (2, .int x2), (4, .int x4)]) rfl ?_
      obtain ⟨x4_10, ex4_10, hr⟩ := gLet_some hr
      refine r_iinc (pc := 50) C dX1_farOf_50 5 rfl rfl (by decide) ex4_10 (ls' := [(4, .int x4_10), (3, .int x5_7), (5, .int x5_7), (0, .ref (gad 12 0)), (1, .ref (gad 33 i1)), (2, .int x2)]) rfl ?_
      refine r_goto (pc := 53) (tgt := 10) C dX1_farOf_53 rfl ?_
      refine r_sub C [3, 4, 5, 1, 0] (ls' := [(0, .ref (gad 12 0)), (1, .ref (gad 33 i1)), (2, .int x2), (3, .int x5_7), (4, .int x4_10)]) rfl ?_
      exact hn (x5_7, x4_10) (gSome hr)
noncomputable def X1_farOf (i1 : Nat) (p2 : Int32) (M : gM) : Option Int32 := gG (gin p2 17) (gLet ((M.1 14 0 (Int32.toNatClampNeg p2))) (fun x4_2 => (gIter (fun s => X1_farOf_L10 i1 p2 s.1 s.2 M) FU (0, x4_2)).bind (fun x3_11 => some x3_11)))
theorem k_X1_farOf {G : gG5} {nf : Nat} {M : gM} {i1 : Nat} {p2 : Int32} (h1 : i1 < nf + 3) {r : Int32} (hr : X1_farOf i1 p2 M = some r) : gMet G (gXn nf) yX1_farOf cX1_farOf 6 (some .int) 0 0 M [.ref (gad 12 0), .ref (gad 33 i1), .int p2] (some (.int r)) M := by
  refine gMet_of pl_X1 rfl (Nat.le_of_ble_eq_true rfl) (fun Ψ C CR => ?_)
  show Ψ M 0 [(0, .ref (gad 12 0)), (1, .ref (gad 33 i1)), (2, .int p2)] []
  refine r_iconst (pc := 0) C dX1_farOf_0 ki0 ?_
  refine r_istore_n (pc := 1) C dX1_farOf_1 rfl (by decide) rfl (ls' := [(3, .int 0), (0, .ref (gad 12 0)), (1, .ref (gad 33 i1)), (2, .int p2)]) rfl ?_
  refine r_aload_n (pc := 2) C dX1_farOf_2 rfl 1 rfl ?_
  refine g12_8 (pc := 3) C dX1_farOf_3 q283 (e12 nf) ?_
  refine r_iload_n (pc := 6) C dX1_farOf_6 rfl 3 rfl ?_
  obtain ⟨g_1, hr⟩ := gG_some hr
  refine r_ialdN (pc := 7) C dX1_farOf_7 rfl (e14 nf) g_1 rfl ?_
  obtain ⟨x4_2, ex4_2, hr⟩ := gLet_some hr
  refine r_istore (pc := 8) C dX1_farOf_8 (by decide) ex4_2 (ls' := [(4, .int x4_2), (3, .int 0), (0, .ref (gad 12 0)), (1, .ref (gad 33 i1)), (2, .int p2)]) rfl ?_
  refine r_sub C [2, 3, 4, 1, 0] (ls' := [(0, .ref (gad 12 0)), (1, .ref (gad 33 i1)), (2, .int p2), (3, .int 0), (4, .int x4_2)]) rfl ?_
  obtain ⟨ev, hit, hr⟩ := gBind_some hr
  refine gIter_V (step := fun s => X1_farOf_L10 i1 p2 s.1 s.2 M) (P := fun s => Ψ M 10 [(0, .ref (gad 12 0)), (1, .ref (gad 33 i1)), (2, .int p2), (3, .int (s.1)), (4, .int (s.2))] []) (K := (fun e => Ψ M 56 [(3, .int e)] [])) (fun s w hs hn hx => t_X1_farOf_L10 C h1 hs hn hx) FU (0, x4_2) ev hit ?_
  obtain ⟨x3_11, rfl⟩ : ∃ z, z = ev := ⟨_, rfl⟩
  show Ψ M 56 [(3, .int x3_11)] []
  refine r_iload_n (pc := 56) C dX1_farOf_56 rfl 0 rfl ?_
  exact r_iret (pc := 57) CR dX1_farOf_57 (congrArg (fun z => some (Value.int z)) (gSome hr)) rfl
theorem c_X1_farOf {Ψ : gM → Nat → List (Nat × Value) → List Value → Prop} {G : gG5} {nf : Nat} {cc : ByteArray} {own : String} {nL : Nat} {ret : Option FieldType} {fr lo : Nat} {v0 : Option Value} {M0 M : gM} {pc index : Nat} {ls : List (Nat × Value)} {st : List Value} (C : gC Ψ G (gXn nf) cc own nL ret fr lo v0 M0) (d : decode cc pc = .ok (.invokevirtual index, 3)) (hl : Cond.methodLink own index yX1_farOf ∈ gws) (hR : 1 ≤ fr ∧ 25 ≤ lo) {i1 : Nat} {p2 : Int32} (h1 : i1 < nf + 3) {r : Int32} (hr : X1_farOf i1 p2 M = some r) (hcat : (st.map fun v => v.category).sum ≤ 8) (k : Ψ M (pc + 3) ls (.int r :: st)) : Ψ M pc ls (.int p2 :: .ref (gad 33 i1) :: .ref (gad 12 0) :: st) := r_callV C [.ref (gad 33 i1), .int p2] st d (k_X1_farOf h1 hr) hl q931 q932 q120 q933 hd_X1_farOf hR rfl (by decide) (e12 nf) rfl hcat k
theorem hd_X1_nearOf : yX1_nearOf.cls ≠ "java/lang/invoke/MethodHandle" ∧ yX1_nearOf.cls ≠ "java/lang/invoke/VarHandle" ∧ (parseMethodDescriptor yX1_nearOf.desc).map (fun d => d.parameters.length) = some 2 := by decide +kernel
noncomputable def X1_nearOf_L12 (i1 : Nat) (x2 : Int32) (x3 : Int32) (x4 : Int32) (M : gM) : Option ((Int32 × Int32) ⊕ Int32) := gG (gin (x2 + 1) 17) ((if (M.1 14 0 (Int32.toNatClampNeg (x2 + 1))) ≤ x4 then some (.inr x3) else gG (gin x4 256) (gG (gin (M.1 13 0 (Int32.toNatClampNeg x4)) 256) (gLet ((M.1 34 i1 (Int32.toNatClampNeg (M.1 13 0 (Int32.toNatClampNeg x4))))) (fun x5_7 => (if x3 ≤ x5_7 then gLet (x4 + 1) (fun x4_9 => some (.inl (x3, x4_9))) else gLet (x4 + 1) (fun x4_10 => some (.inl (x5_7, x4_10)))))))))
theorem t_X1_nearOf_L12 {Ψ : gM → Nat → List (Nat × Value) → List Value → Prop} {G : gG5} {nf : Nat} {M : gM} {v0 : Option Value} {M0 : gM} {i1 : Nat} {x2 : Int32} {x3 : Int32} {x4 : Int32} {w : ((Int32 × Int32) ⊕ Int32)} (C : gC Ψ G (gXn nf) cX1_nearOf RX1 6 (some .int) 0 0 v0 M0) (h1 : i1 < nf + 3) (hr : X1_nearOf_L12 i1 x2 x3 x4 M = some w) (hn : ∀ s, w = .inl s → Ψ M 12 [(0, .ref (gad 12 0)), (1, .ref (gad 33 i1)), (2, .int x2), (3, .int (s.1)), (4, .int (s.2))] []) (hx : ∀ e, w = .inr e → (fun e => Ψ M 58 [(3, .int e)] []) e) : Ψ M 12 [(0, .ref (gad 12 0)), (1, .ref (gad 33 i1)), (2, .int x2), (3, .int x3), (4, .int x4)] [] := by
  refine r_iload (pc := 12) C dX1_nearOf_12 4 rfl ?_
  refine r_aload_n (pc := 14) C dX1_nearOf_14 rfl 0 rfl ?_
  refine g12_8 (pc := 15) C dX1_nearOf_15 q283 (e12 nf) ?_
  refine r_iload_n (pc := 18) C dX1_nearOf_18 rfl 2 rfl ?_
  refine r_iconst (pc := 19) C dX1_nearOf_19 ki1 ?_
  refine r_iadd (pc := 20) C dX1_nearOf_20 ?_
  obtain ⟨g_3, hr⟩ := gG_some hr
  refine r_ialdN (pc := 21) C dX1_nearOf_21 rfl (e14 nf) g_3 rfl ?_
  refine r_icmp_ge (pc := 22) (tgt := 58) C dX1_nearOf_22 rfl (fun c_4 => ?_) (fun c_4 => ?_)
  · replace hr := (if_pos c_4).symm.trans hr
    refine r_sub C [3] (ls' := [(3, .int x3)]) rfl ?_
    exact hx x3 (gSome hr)
  · replace hr := (if_neg c_4).symm.trans hr
    refine r_aload_n (pc := 25) C dX1_nearOf_25 rfl 1 rfl ?_
    refine g33_0 (pc := 26) C dX1_nearOf_26 q401 (e33 (nf := nf) h1) ?_
    refine r_aload_n (pc := 29) C dX1_nearOf_29 rfl 0 rfl ?_
    refine g12_7 (pc := 30) C dX1_nearOf_30 q279 (e12 nf) ?_
    refine r_iload (pc := 33) C dX1_nearOf_33 4 rfl ?_
    obtain ⟨g_5, hr⟩ := gG_some hr
    refine r_ialdN (pc := 35) C dX1_nearOf_35 rfl (e13 nf) g_5 rfl ?_
    obtain ⟨g_6, hr⟩ := gG_some hr
    refine r_ialdN (pc := 36) C dX1_nearOf_36 rfl (e34 (nf := nf) h1) g_6 rfl ?_
    obtain ⟨x5_7, ex5_7, hr⟩ := gLet_some hr
    refine r_istore (pc := 37) C dX1_nearOf_37 (by decide) ex5_7 (ls' := [(5, .int x5_7), (0, .ref (gad 12 0)), (1, .ref (gad 33 i1)), (2, .int x2), (3, .int x3), (4, .int x4)]) rfl ?_
    refine r_iload (pc := 39) C dX1_nearOf_39 0 rfl ?_
    refine r_iload_n (pc := 41) C dX1_nearOf_41 rfl 4 rfl ?_
    refine r_icmp_ge (pc := 42) (tgt := 50) C dX1_nearOf_42 rfl (fun c_8 => ?_) (fun c_8 => ?_)
    · replace hr := (if_pos c_8).symm.trans hr
      refine r_iload_n (pc := 50) C dX1_nearOf_50 rfl 4 rfl ?_
      refine r_istore_n (pc := 51) C dX1_nearOf_51 rfl (by decide) rfl (ls' := [(3, .int x3), (5, .int x5_7), (0, .ref (gad 12 0)), (1, .ref (gad 33 i1)), (2, .int x2), (4, .int x4)]) rfl ?_
      obtain ⟨x4_9, ex4_9, hr⟩ := gLet_some hr
      refine r_iinc (pc := 52) C dX1_nearOf_52 5 rfl rfl (by decide) ex4_9 (ls' := [(4, .int x4_9), (3, .int x3), (5, .int x5_7), (0, .ref (gad 12 0)), (1, .ref (gad 33 i1)), (2, .int x2)]) rfl ?_
      refine r_goto (pc := 55) (tgt := 12) C dX1_nearOf_55 rfl ?_
      refine r_sub C [3, 4, 5, 1, 0] (ls' := [(0, .ref (gad 12 0)), (1, .ref (gad 33 i1)), (2, .int x2), (3, .int x3), (4, .int x4_9)]) rfl ?_
      exact hn (x3, x4_9) (gSome hr)
    · replace hr := (if_neg c_8).symm.trans hr
      refine r_iload (pc := 45) C dX1_nearOf_45 0 rfl ?_
      refine r_goto (pc := 47) (tgt := 51) C dX1_nearOf_47 rfl ?_
      refine r_istore_n (pc := 51) C dX1_nearOf_51 rfl (by decide) rfl (ls' := [(3, .int x5_7), (5, .int x5_7), (0, .ref (gad 12 0)), (1, .ref (gad 33 i1)), (2, .int x2), (4, .int x4)]) rfl ?_
      obtain ⟨x4_10, ex4_10, hr⟩ := gLet_some hr
      refine r_iinc (pc := 52) C dX1_nearOf_52 5 rfl rfl (by decide) ex4_10 (ls' := [(4, .int x4_10), (3, .int x5_7), (5, .int x5_7), (0, .ref (gad 12 0)), (1, .ref (gad 33 i1)), (2, .int x2)]) rfl ?_
      refine r_goto (pc := 55) (tgt := 12) C dX1_nearOf_55 rfl ?_
      refine r_sub C [3, 4, 5, 1, 0] (ls' := [(0, .ref (gad 12 0)), (1, .ref (gad 33 i1)), (2, .int x2), (3, .int x5_7), (4, .int x4_10)]) rfl ?_
      exact hn (x5_7, x4_10) (gSome hr)
noncomputable def X1_nearOf (i1 : Nat) (p2 : Int32) (M : gM) : Option Int32 := gG (gin p2 17) (gLet ((M.1 14 0 (Int32.toNatClampNeg p2))) (fun x4_2 => (gIter (fun s => X1_nearOf_L12 i1 p2 s.1 s.2 M) FU (1000, x4_2)).bind (fun x3_11 => some x3_11)))
theorem k_X1_nearOf {G : gG5} {nf : Nat} {M : gM} {i1 : Nat} {p2 : Int32} (h1 : i1 < nf + 3) {r : Int32} (hr : X1_nearOf i1 p2 M = some r) : gMet G (gXn nf) yX1_nearOf cX1_nearOf 6 (some .int) 0 0 M [.ref (gad 12 0), .ref (gad 33 i1), .int p2] (some (.int r)) M := by
  refine gMet_of pl_X1 rfl (Nat.le_of_ble_eq_true rfl) (fun Ψ C CR => ?_)
  show Ψ M 0 [(0, .ref (gad 12 0)), (1, .ref (gad 33 i1)), (2, .int p2)] []
  refine r_sipush (pc := 0) C dX1_nearOf_0 ks1000 ?_
  refine r_istore_n (pc := 3) C dX1_nearOf_3 rfl (by decide) rfl (ls' := [(3, .int 1000), (0, .ref (gad 12 0)), (1, .ref (gad 33 i1)), (2, .int p2)]) rfl ?_
  refine r_aload_n (pc := 4) C dX1_nearOf_4 rfl 1 rfl ?_
  refine g12_8 (pc := 5) C dX1_nearOf_5 q283 (e12 nf) ?_
  refine r_iload_n (pc := 8) C dX1_nearOf_8 rfl 3 rfl ?_
  obtain ⟨g_1, hr⟩ := gG_some hr
  refine r_ialdN (pc := 9) C dX1_nearOf_9 rfl (e14 nf) g_1 rfl ?_
  obtain ⟨x4_2, ex4_2, hr⟩ := gLet_some hr
  refine r_istore (pc := 10) C dX1_nearOf_10 (by decide) ex4_2 (ls' := [(4, .int x4_2), (3, .int 1000), (0, .ref (gad 12 0)), (1, .ref (gad 33 i1)), (2, .int p2)]) rfl ?_
  refine r_sub C [2, 3, 4, 1, 0] (ls' := [(0, .ref (gad 12 0)), (1, .ref (gad 33 i1)), (2, .int p2), (3, .int 1000), (4, .int x4_2)]) rfl ?_
  obtain ⟨ev, hit, hr⟩ := gBind_some hr
  refine gIter_V (step := fun s => X1_nearOf_L12 i1 p2 s.1 s.2 M) (P := fun s => Ψ M 12 [(0, .ref (gad 12 0)), (1, .ref (gad 33 i1)), (2, .int p2), (3, .int (s.1)), (4, .int (s.2))] []) (K := (fun e => Ψ M 58 [(3, .int e)] [])) (fun s w hs hn hx => t_X1_nearOf_L12 C h1 hs hn hx) FU (1000, x4_2) ev hit ?_
  obtain ⟨x3_11, rfl⟩ : ∃ z, z = ev := ⟨_, rfl⟩
  show Ψ M 58 [(3, .int x3_11)] []
  refine r_iload_n (pc := 58) C dX1_nearOf_58 rfl 0 rfl ?_
  exact r_iret (pc := 59) CR dX1_nearOf_59 (congrArg (fun z => some (Value.int z)) (gSome hr)) rfl
theorem c_X1_nearOf {Ψ : gM → Nat → List (Nat × Value) → List Value → Prop} {G : gG5} {nf : Nat} {cc : ByteArray} {own : String} {nL : Nat} {ret : Option FieldType} {fr lo : Nat} {v0 : Option Value} {M0 M : gM} {pc index : Nat} {ls : List (Nat × Value)} {st : List Value} (C : gC Ψ G (gXn nf) cc own nL ret fr lo v0 M0) (d : decode cc pc = .ok (.invokevirtual index, 3)) (hl : Cond.methodLink own index yX1_nearOf ∈ gws) (hR : 1 ≤ fr ∧ 25 ≤ lo) {i1 : Nat} {p2 : Int32} (h1 : i1 < nf + 3) {r : Int32} (hr : X1_nearOf i1 p2 M = some r) (hcat : (st.map fun v => v.category).sum ≤ 8) (k : Ψ M (pc + 3) ls (.int r :: st)) : Ψ M pc ls (.int p2 :: .ref (gad 33 i1) :: .ref (gad 12 0) :: st) := r_callV C [.ref (gad 33 i1), .int p2] st d (k_X1_nearOf h1 hr) hl q935 q936 q120 q937 hd_X1_nearOf hR rfl (by decide) (e12 nf) rfl hcat k
theorem hd_X1_pendingIn : yX1_pendingIn.cls ≠ "java/lang/invoke/MethodHandle" ∧ yX1_pendingIn.cls ≠ "java/lang/invoke/VarHandle" ∧ (parseMethodDescriptor yX1_pendingIn.desc).map (fun d => d.parameters.length) = some 2 := by decide +kernel
noncomputable def X1_pendingIn_L10 (i1 : Nat) (x2 : Int32) (x3 : Int32) (x4 : Int32) (M : gM) : Option ((Int32 × Int32) ⊕ Int32) := gG (gin (x2 + 1) 17) ((if (M.1 14 0 (Int32.toNatClampNeg (x2 + 1))) ≤ x4 then some (.inr x3) else gG (gin x4 256) (gG (gin (M.1 13 0 (Int32.toNatClampNeg x4)) 256) ((if (M.1 36 i1 (Int32.toNatClampNeg (M.1 13 0 (Int32.toNatClampNeg x4)))) = (-1) then gLet (x4 + 1) (fun x4_8 => some (.inl (x3, x4_8))) else gLet (x3 + 1) (fun x3_9 => gLet (x4 + 1) (fun x4_10 => some (.inl (x3_9, x4_10)))))))))
theorem t_X1_pendingIn_L10 {Ψ : gM → Nat → List (Nat × Value) → List Value → Prop} {G : gG5} {nf : Nat} {M : gM} {v0 : Option Value} {M0 : gM} {i1 : Nat} {x2 : Int32} {x3 : Int32} {x4 : Int32} {w : ((Int32 × Int32) ⊕ Int32)} (C : gC Ψ G (gXn nf) cX1_pendingIn RX1 5 (some .int) 0 0 v0 M0) (h1 : i1 < nf + 3) (hr : X1_pendingIn_L10 i1 x2 x3 x4 M = some w) (hn : ∀ s, w = .inl s → Ψ M 10 [(0, .ref (gad 12 0)), (1, .ref (gad 33 i1)), (2, .int x2), (3, .int (s.1)), (4, .int (s.2))] []) (hx : ∀ e, w = .inr e → (fun e => Ψ M 48 [(3, .int e)] []) e) : Ψ M 10 [(0, .ref (gad 12 0)), (1, .ref (gad 33 i1)), (2, .int x2), (3, .int x3), (4, .int x4)] [] := by
  refine r_iload (pc := 10) C dX1_pendingIn_10 4 rfl ?_
  refine r_aload_n (pc := 12) C dX1_pendingIn_12 rfl 0 rfl ?_
  refine g12_8 (pc := 13) C dX1_pendingIn_13 q283 (e12 nf) ?_
  refine r_iload_n (pc := 16) C dX1_pendingIn_16 rfl 2 rfl ?_
  refine r_iconst (pc := 17) C dX1_pendingIn_17 ki1 ?_
  refine r_iadd (pc := 18) C dX1_pendingIn_18 ?_
  obtain ⟨g_3, hr⟩ := gG_some hr
  refine r_ialdN (pc := 19) C dX1_pendingIn_19 rfl (e14 nf) g_3 rfl ?_
  refine r_icmp_ge (pc := 20) (tgt := 48) C dX1_pendingIn_20 rfl (fun c_4 => ?_) (fun c_4 => ?_)
  · replace hr := (if_pos c_4).symm.trans hr
    refine r_sub C [3] (ls' := [(3, .int x3)]) rfl ?_
    exact hx x3 (gSome hr)
  · replace hr := (if_neg c_4).symm.trans hr
    refine r_aload_n (pc := 23) C dX1_pendingIn_23 rfl 1 rfl ?_
    refine g33_2 (pc := 24) C dX1_pendingIn_24 q409 (e33 (nf := nf) h1) ?_
    refine r_aload_n (pc := 27) C dX1_pendingIn_27 rfl 0 rfl ?_
    refine g12_7 (pc := 28) C dX1_pendingIn_28 q279 (e12 nf) ?_
    refine r_iload (pc := 31) C dX1_pendingIn_31 4 rfl ?_
    obtain ⟨g_5, hr⟩ := gG_some hr
    refine r_ialdN (pc := 33) C dX1_pendingIn_33 rfl (e13 nf) g_5 rfl ?_
    obtain ⟨g_6, hr⟩ := gG_some hr
    refine r_ialdN (pc := 34) C dX1_pendingIn_34 rfl (e36 (nf := nf) h1) g_6 rfl ?_
    refine r_iconst (pc := 35) C dX1_pendingIn_35 kim1 ?_
    refine r_icmp_eq (pc := 36) (tgt := 42) C dX1_pendingIn_36 rfl (fun c_7 => ?_) (fun c_7 => ?_)
    · replace hr := (if_pos c_7).symm.trans hr
      obtain ⟨x4_8, ex4_8, hr⟩ := gLet_some hr
      refine r_iinc (pc := 42) C dX1_pendingIn_42 4 rfl rfl (by decide) ex4_8 (ls' := [(4, .int x4_8), (0, .ref (gad 12 0)), (1, .ref (gad 33 i1)), (2, .int x2), (3, .int x3)]) rfl ?_
      refine r_goto (pc := 45) (tgt := 10) C dX1_pendingIn_45 rfl ?_
      refine r_sub C [1, 2, 3, 4, 0] (ls' := [(0, .ref (gad 12 0)), (1, .ref (gad 33 i1)), (2, .int x2), (3, .int x3), (4, .int x4_8)]) rfl ?_
      exact hn (x3, x4_8) (gSome hr)
    · replace hr := (if_neg c_7).symm.trans hr
      obtain ⟨x3_9, ex3_9, hr⟩ := gLet_some hr
      refine r_iinc (pc := 39) C dX1_pendingIn_39 3 rfl rfl (by decide) ex3_9 (ls' := [(3, .int x3_9), (0, .ref (gad 12 0)), (1, .ref (gad 33 i1)), (2, .int x2), (4, .int x4)]) rfl ?_
      obtain ⟨x4_10, ex4_10, hr⟩ := gLet_some hr
      refine r_iinc (pc := 42) C dX1_pendingIn_42 4 rfl rfl (by decide) ex4_10 (ls' := [(4, .int x4_10), (3, .int x3_9), (0, .ref (gad 12 0)), (1, .ref (gad 33 i1)), (2, .int x2)]) rfl ?_
      refine r_goto (pc := 45) (tgt := 10) C dX1_pendingIn_45 rfl ?_
      refine r_sub C [2, 3, 4, 1, 0] (ls' := [(0, .ref (gad 12 0)), (1, .ref (gad 33 i1)), (2, .int x2), (3, .int x3_9), (4, .int x4_10)]) rfl ?_
      exact hn (x3_9, x4_10) (gSome hr)
noncomputable def X1_pendingIn (i1 : Nat) (p2 : Int32) (M : gM) : Option Int32 := gG (gin p2 17) (gLet ((M.1 14 0 (Int32.toNatClampNeg p2))) (fun x4_2 => (gIter (fun s => X1_pendingIn_L10 i1 p2 s.1 s.2 M) FU (0, x4_2)).bind (fun x3_11 => some x3_11)))
theorem k_X1_pendingIn {G : gG5} {nf : Nat} {M : gM} {i1 : Nat} {p2 : Int32} (h1 : i1 < nf + 3) {r : Int32} (hr : X1_pendingIn i1 p2 M = some r) : gMet G (gXn nf) yX1_pendingIn cX1_pendingIn 5 (some .int) 0 0 M [.ref (gad 12 0), .ref (gad 33 i1), .int p2] (some (.int r)) M := by
  refine gMet_of pl_X1 rfl (Nat.le_of_ble_eq_true rfl) (fun Ψ C CR => ?_)
  show Ψ M 0 [(0, .ref (gad 12 0)), (1, .ref (gad 33 i1)), (2, .int p2)] []
  refine r_iconst (pc := 0) C dX1_pendingIn_0 ki0 ?_
  refine r_istore_n (pc := 1) C dX1_pendingIn_1 rfl (by decide) rfl (ls' := [(3, .int 0), (0, .ref (gad 12 0)), (1, .ref (gad 33 i1)), (2, .int p2)]) rfl ?_
  refine r_aload_n (pc := 2) C dX1_pendingIn_2 rfl 1 rfl ?_
  refine g12_8 (pc := 3) C dX1_pendingIn_3 q283 (e12 nf) ?_
  refine r_iload_n (pc := 6) C dX1_pendingIn_6 rfl 3 rfl ?_
  obtain ⟨g_1, hr⟩ := gG_some hr
  refine r_ialdN (pc := 7) C dX1_pendingIn_7 rfl (e14 nf) g_1 rfl ?_
  obtain ⟨x4_2, ex4_2, hr⟩ := gLet_some hr
  refine r_istore (pc := 8) C dX1_pendingIn_8 (by decide) ex4_2 (ls' := [(4, .int x4_2), (3, .int 0), (0, .ref (gad 12 0)), (1, .ref (gad 33 i1)), (2, .int p2)]) rfl ?_
  refine r_sub C [2, 3, 4, 1, 0] (ls' := [(0, .ref (gad 12 0)), (1, .ref (gad 33 i1)), (2, .int p2), (3, .int 0), (4, .int x4_2)]) rfl ?_
  obtain ⟨ev, hit, hr⟩ := gBind_some hr
  refine gIter_V (step := fun s => X1_pendingIn_L10 i1 p2 s.1 s.2 M) (P := fun s => Ψ M 10 [(0, .ref (gad 12 0)), (1, .ref (gad 33 i1)), (2, .int p2), (3, .int (s.1)), (4, .int (s.2))] []) (K := (fun e => Ψ M 48 [(3, .int e)] [])) (fun s w hs hn hx => t_X1_pendingIn_L10 C h1 hs hn hx) FU (0, x4_2) ev hit ?_
  obtain ⟨x3_11, rfl⟩ : ∃ z, z = ev := ⟨_, rfl⟩
  show Ψ M 48 [(3, .int x3_11)] []
  refine r_iload_n (pc := 48) C dX1_pendingIn_48 rfl 0 rfl ?_
  exact r_iret (pc := 49) CR dX1_pendingIn_49 (congrArg (fun z => some (Value.int z)) (gSome hr)) rfl
theorem c_X1_pendingIn {Ψ : gM → Nat → List (Nat × Value) → List Value → Prop} {G : gG5} {nf : Nat} {cc : ByteArray} {own : String} {nL : Nat} {ret : Option FieldType} {fr lo : Nat} {v0 : Option Value} {M0 M : gM} {pc index : Nat} {ls : List (Nat × Value)} {st : List Value} (C : gC Ψ G (gXn nf) cc own nL ret fr lo v0 M0) (d : decode cc pc = .ok (.invokevirtual index, 3)) (hl : Cond.methodLink own index yX1_pendingIn ∈ gws) (hR : 1 ≤ fr ∧ 24 ≤ lo) {i1 : Nat} {p2 : Int32} (h1 : i1 < nf + 3) {r : Int32} (hr : X1_pendingIn i1 p2 M = some r) (hcat : (st.map fun v => v.category).sum ≤ 8) (k : Ψ M (pc + 3) ls (.int r :: st)) : Ψ M pc ls (.int p2 :: .ref (gad 33 i1) :: .ref (gad 12 0) :: st) := r_callV C [.ref (gad 33 i1), .int p2] st d (k_X1_pendingIn h1 hr) hl q939 q940 q120 q941 hd_X1_pendingIn hR rfl (by decide) (e12 nf) rfl hcat k
theorem hd_X1_pixelsOf : yX1_pixelsOf.cls ≠ "java/lang/invoke/MethodHandle" ∧ yX1_pixelsOf.cls ≠ "java/lang/invoke/VarHandle" ∧ (parseMethodDescriptor yX1_pixelsOf.desc).map (fun d => d.parameters.length) = some 1 := by decide +kernel
noncomputable def X1_pixelsOf (p1 : Int32) (M : gM) : Option Int32 := (if (M.1 12 0 3) ≤ 0 then some 0 else gG (gin (p1 + 1) 17) (gG (gin p1 17) (gG (decide (¬ (M.1 12 0 3) = 0)) (some (((M.1 14 0 (Int32.toNatClampNeg (p1 + 1))) - (M.1 14 0 (Int32.toNatClampNeg p1))) / (M.1 12 0 3))))))
theorem k_X1_pixelsOf {G : gG5} {nf : Nat} {M : gM} {p1 : Int32} {r : Int32} (hr : X1_pixelsOf p1 M = some r) : gMet G (gXn nf) yX1_pixelsOf cX1_pixelsOf 2 (some .int) 0 0 M [.ref (gad 12 0), .int p1] (some (.int r)) M := by
  refine gMet_of pl_X1 rfl (Nat.le_of_ble_eq_true rfl) (fun Ψ C CR => ?_)
  show Ψ M 0 [(0, .ref (gad 12 0)), (1, .int p1)] []
  refine r_aload_n (pc := 0) C dX1_pixelsOf_0 rfl 0 rfl ?_
  refine g12_3 (pc := 1) C dX1_pixelsOf_1 q268 (e12 nf) ?_
  refine r_if_le (pc := 4) (tgt := 30) C dX1_pixelsOf_4 rfl (fun c_1 => ?_) (fun c_1 => ?_)
  · replace hr := (if_pos c_1).symm.trans hr
    refine r_iconst (pc := 30) C dX1_pixelsOf_30 ki0 ?_
    exact r_iret (pc := 31) CR dX1_pixelsOf_31 (congrArg (fun z => some (Value.int z)) (gSome hr)) rfl
  · replace hr := (if_neg c_1).symm.trans hr
    refine r_aload_n (pc := 7) C dX1_pixelsOf_7 rfl 0 rfl ?_
    refine g12_8 (pc := 8) C dX1_pixelsOf_8 q283 (e12 nf) ?_
    refine r_iload_n (pc := 11) C dX1_pixelsOf_11 rfl 1 rfl ?_
    refine r_iconst (pc := 12) C dX1_pixelsOf_12 ki1 ?_
    refine r_iadd (pc := 13) C dX1_pixelsOf_13 ?_
    obtain ⟨g_2, hr⟩ := gG_some hr
    refine r_ialdN (pc := 14) C dX1_pixelsOf_14 rfl (e14 nf) g_2 rfl ?_
    refine r_aload_n (pc := 15) C dX1_pixelsOf_15 rfl 0 rfl ?_
    refine g12_8 (pc := 16) C dX1_pixelsOf_16 q283 (e12 nf) ?_
    refine r_iload_n (pc := 19) C dX1_pixelsOf_19 rfl 1 rfl ?_
    obtain ⟨g_3, hr⟩ := gG_some hr
    refine r_ialdN (pc := 20) C dX1_pixelsOf_20 rfl (e14 nf) g_3 rfl ?_
    refine r_isub (pc := 21) C dX1_pixelsOf_21 ?_
    refine r_aload_n (pc := 22) C dX1_pixelsOf_22 rfl 0 rfl ?_
    refine g12_3 (pc := 23) C dX1_pixelsOf_23 q268 (e12 nf) ?_
    obtain ⟨g_4, hr⟩ := gG_some hr
    refine r_idiv (pc := 26) C dX1_pixelsOf_26 (of_decide_eq_true g_4) ?_
    refine r_goto (pc := 27) (tgt := 31) C dX1_pixelsOf_27 rfl ?_
    exact r_iret (pc := 31) CR dX1_pixelsOf_31 (congrArg (fun z => some (Value.int z)) (gSome hr)) rfl
theorem c_X1_pixelsOf {Ψ : gM → Nat → List (Nat × Value) → List Value → Prop} {G : gG5} {nf : Nat} {cc : ByteArray} {own : String} {nL : Nat} {ret : Option FieldType} {fr lo : Nat} {v0 : Option Value} {M0 M : gM} {pc index : Nat} {ls : List (Nat × Value)} {st : List Value} (C : gC Ψ G (gXn nf) cc own nL ret fr lo v0 M0) (d : decode cc pc = .ok (.invokevirtual index, 3)) (hl : Cond.methodLink own index yX1_pixelsOf ∈ gws) (hR : 1 ≤ fr ∧ 21 ≤ lo) {p1 : Int32} {r : Int32} (hr : X1_pixelsOf p1 M = some r) (hcat : (st.map fun v => v.category).sum ≤ 8) (k : Ψ M (pc + 3) ls (.int r :: st)) : Ψ M pc ls (.int p1 :: .ref (gad 12 0) :: st) := r_callV C [.int p1] st d (k_X1_pixelsOf hr) hl q943 q944 q120 q945 hd_X1_pixelsOf hR rfl (by decide) (e12 nf) rfl hcat k
theorem hd_X10_tile : yX10_tile.cls ≠ "java/lang/invoke/MethodHandle" ∧ yX10_tile.cls ≠ "java/lang/invoke/VarHandle" ∧ (parseMethodDescriptor yX10_tile.desc).map (fun d => d.parameters.length) = some 2 := by decide +kernel
noncomputable def X10_tile (p1 : Int32) (p2 : Int32) (M : gM) : Option Int32 := (X1_hasTile p1 M).bind (fun r_2 => (if r_2 = 0 then some (-1) else (if p2 = 0 then gG (gin p1 16) (some (M.1 38 0 (Int32.toNatClampNeg p1))) else if p2 = 1 then (X1_farOf 0 p1 M).bind (fun r_7 => some r_7) else if p2 = 2 then (X1_nearOf 0 p1 M).bind (fun r_9 => some r_9) else if p2 = 3 then (X1_pendingIn 0 p1 M).bind (fun r_11 => some r_11) else if p2 = 4 then (X1_pixelsOf p1 M).bind (fun r_13 => some r_13) else some (-1))))
theorem k_X10_tile {G : gG5} {nf : Nat} {M : gM} {p1 : Int32} {p2 : Int32} {r : Int32} (hr : X10_tile p1 p2 M = some r) : gMet G (gXn nf) yX10_tile cX10_tile 3 (some .int) 1 25 M [.ref (gad 0 0), .int p1, .int p2] (some (.int r)) M := by
  refine gMet_of pl_X10 rfl (Nat.le_of_ble_eq_true rfl) (fun Ψ C CR => ?_)
  show Ψ M 0 [(0, .ref (gad 0 0)), (1, .int p1), (2, .int p2)] []
  refine r_aload_n (pc := 0) C dX10_tile_0 rfl 0 rfl ?_
  refine g0_4 (pc := 1) C dX10_tile_1 q538 (e0 nf) ?_
  refine r_iload_n (pc := 4) C dX10_tile_4 rfl 1 rfl ?_
  obtain ⟨r_2, hc_1, hr⟩ := gBind_some hr
  refine c_X1_hasTile (pc := 5) C dX10_tile_5 q926 ⟨Nat.le_of_ble_eq_true rfl, Nat.le_of_ble_eq_true rfl⟩ hc_1 (Nat.le_of_ble_eq_true rfl) ?_
  refine r_if_ne (pc := 8) (tgt := 13) C dX10_tile_8 rfl (fun c_3 => ?_) (fun c_3 => ?_)
  · replace hr := (if_neg c_3).symm.trans hr
    refine r_iload_n (pc := 13) C dX10_tile_13 rfl 2 rfl ?_
    by_cases c_4_0 : p2 = 0
    · replace hr := (if_pos c_4_0).symm.trans hr
      refine r_tableIn (pc := 14) (tgt := 48) (off := 34) C dX10_tile_14 0 c_4_0 (by decide) rfl ?_
      refine r_aload_n (pc := 48) C dX10_tile_48 rfl 0 rfl ?_
      refine g0_7 (pc := 49) C dX10_tile_49 q541 (e0 nf) ?_
      refine g33_4 (pc := 52) C dX10_tile_52 q417 (e33 (nf := nf) (gf0 nf)) ?_
      refine r_iload_n (pc := 55) C dX10_tile_55 rfl 1 rfl ?_
      obtain ⟨g_5, hr⟩ := gG_some hr
      refine r_ialdN (pc := 56) C dX10_tile_56 rfl (e38 (nf := nf) (gf0 nf)) g_5 rfl ?_
      exact r_iret (pc := 57) CR dX10_tile_57 (congrArg (fun z => some (Value.int z)) (gSome hr)) rfl
    replace hr := (if_neg c_4_0).symm.trans hr
    by_cases c_4_1 : p2 = 1
    · replace hr := (if_pos c_4_1).symm.trans hr
      refine r_tableIn (pc := 14) (tgt := 58) (off := 44) C dX10_tile_14 1 c_4_1 (by decide) rfl ?_
      refine r_aload_n (pc := 58) C dX10_tile_58 rfl 0 rfl ?_
      refine g0_4 (pc := 59) C dX10_tile_59 q538 (e0 nf) ?_
      refine r_aload_n (pc := 62) C dX10_tile_62 rfl 0 rfl ?_
      refine g0_7 (pc := 63) C dX10_tile_63 q541 (e0 nf) ?_
      refine r_iload_n (pc := 66) C dX10_tile_66 rfl 1 rfl ?_
      obtain ⟨r_7, hc_6, hr⟩ := gBind_some hr
      refine c_X1_farOf (pc := 67) C dX10_tile_67 q930 ⟨Nat.le_of_ble_eq_true rfl, Nat.le_of_ble_eq_true rfl⟩ (gf0 nf) hc_6 (Nat.le_of_ble_eq_true rfl) ?_
      exact r_iret (pc := 70) CR dX10_tile_70 (congrArg (fun z => some (Value.int z)) (gSome hr)) rfl
    replace hr := (if_neg c_4_1).symm.trans hr
    by_cases c_4_2 : p2 = 2
    · replace hr := (if_pos c_4_2).symm.trans hr
      refine r_tableIn (pc := 14) (tgt := 71) (off := 57) C dX10_tile_14 2 c_4_2 (by decide) rfl ?_
      refine r_aload_n (pc := 71) C dX10_tile_71 rfl 0 rfl ?_
      refine g0_4 (pc := 72) C dX10_tile_72 q538 (e0 nf) ?_
      refine r_aload_n (pc := 75) C dX10_tile_75 rfl 0 rfl ?_
      refine g0_7 (pc := 76) C dX10_tile_76 q541 (e0 nf) ?_
      refine r_iload_n (pc := 79) C dX10_tile_79 rfl 1 rfl ?_
      obtain ⟨r_9, hc_8, hr⟩ := gBind_some hr
      refine c_X1_nearOf (pc := 80) C dX10_tile_80 q934 ⟨Nat.le_of_ble_eq_true rfl, Nat.le_of_ble_eq_true rfl⟩ (gf0 nf) hc_8 (Nat.le_of_ble_eq_true rfl) ?_
      exact r_iret (pc := 83) CR dX10_tile_83 (congrArg (fun z => some (Value.int z)) (gSome hr)) rfl
    replace hr := (if_neg c_4_2).symm.trans hr
    by_cases c_4_3 : p2 = 3
    · replace hr := (if_pos c_4_3).symm.trans hr
      refine r_tableIn (pc := 14) (tgt := 84) (off := 70) C dX10_tile_14 3 c_4_3 (by decide) rfl ?_
      refine r_aload_n (pc := 84) C dX10_tile_84 rfl 0 rfl ?_
      refine g0_4 (pc := 85) C dX10_tile_85 q538 (e0 nf) ?_
      refine r_aload_n (pc := 88) C dX10_tile_88 rfl 0 rfl ?_
      refine g0_7 (pc := 89) C dX10_tile_89 q541 (e0 nf) ?_
      refine r_iload_n (pc := 92) C dX10_tile_92 rfl 1 rfl ?_
      obtain ⟨r_11, hc_10, hr⟩ := gBind_some hr
      refine c_X1_pendingIn (pc := 93) C dX10_tile_93 q938 ⟨Nat.le_of_ble_eq_true rfl, Nat.le_of_ble_eq_true rfl⟩ (gf0 nf) hc_10 (Nat.le_of_ble_eq_true rfl) ?_
      exact r_iret (pc := 96) CR dX10_tile_96 (congrArg (fun z => some (Value.int z)) (gSome hr)) rfl
    replace hr := (if_neg c_4_3).symm.trans hr
    by_cases c_4_4 : p2 = 4
    · replace hr := (if_pos c_4_4).symm.trans hr
      refine r_tableIn (pc := 14) (tgt := 97) (off := 83) C dX10_tile_14 4 c_4_4 (by decide) rfl ?_
      refine r_aload_n (pc := 97) C dX10_tile_97 rfl 0 rfl ?_
      refine g0_4 (pc := 98) C dX10_tile_98 q538 (e0 nf) ?_
      refine r_iload_n (pc := 101) C dX10_tile_101 rfl 1 rfl ?_
      obtain ⟨r_13, hc_12, hr⟩ := gBind_some hr
      refine c_X1_pixelsOf (pc := 102) C dX10_tile_102 q942 ⟨Nat.le_of_ble_eq_true rfl, Nat.le_of_ble_eq_true rfl⟩ hc_12 (Nat.le_of_ble_eq_true rfl) ?_
      exact r_iret (pc := 105) CR dX10_tile_105 (congrArg (fun z => some (Value.int z)) (gSome hr)) rfl
    replace hr := (if_neg c_4_4).symm.trans hr
    refine r_tableOut (pc := 14) (tgt := 106) C dX10_tile_14 (fun k h1 h2 => ?_) rfl ?_
    · rcases (show k = 0 ∨ k = 1 ∨ k = 2 ∨ k = 3 ∨ k = 4 by omega) with rfl | rfl | rfl | rfl | rfl
      all_goals assumption
    · refine r_iconst (pc := 106) C dX10_tile_106 kim1 ?_
      exact r_iret (pc := 107) CR dX10_tile_107 (congrArg (fun z => some (Value.int z)) (gSome hr)) rfl
  · replace hr := (if_pos c_3).symm.trans hr
    refine r_iconst (pc := 11) C dX10_tile_11 kim1 ?_
    exact r_iret (pc := 12) CR dX10_tile_12 (congrArg (fun z => some (Value.int z)) (gSome hr)) rfl
theorem c_X10_tile {Ψ : gM → Nat → List (Nat × Value) → List Value → Prop} {G : gG5} {nf : Nat} {cc : ByteArray} {own : String} {nL : Nat} {ret : Option FieldType} {fr lo : Nat} {v0 : Option Value} {M0 M : gM} {pc index : Nat} {ls : List (Nat × Value)} {st : List Value} (C : gC Ψ G (gXn nf) cc own nL ret fr lo v0 M0) (d : decode cc pc = .ok (.invokevirtual index, 3)) (hl : Cond.methodLink own index yX10_tile ∈ gws) (hR : 2 ≤ fr ∧ 47 ≤ lo) {p1 : Int32} {p2 : Int32} {r : Int32} (hr : X10_tile p1 p2 M = some r) (hcat : (st.map fun v => v.category).sum ≤ 8) (k : Ψ M (pc + 3) ls (.int r :: st)) : Ψ M pc ls (.int p2 :: .int p1 :: .ref (gad 0 0) :: st) := r_callV C [.int p1, .int p2] st d (k_X10_tile hr) hl q923 q924 q116 q925 hd_X10_tile hR rfl (by decide) (e0 nf) rfl hcat k
theorem hd_X10_bin : yX10_bin.cls ≠ "java/lang/invoke/MethodHandle" ∧ yX10_bin.cls ≠ "java/lang/invoke/VarHandle" ∧ (parseMethodDescriptor yX10_bin.desc).map (fun d => d.parameters.length) = some 2 := by decide +kernel
noncomputable def X10_bin (p1 : Int32) (p2 : Int32) (M : gM) : Option Int32 := (X1_hasTile p1 M).bind (fun r_2 => (if r_2 = 0 then some (-1) else (if p2 < 0 then some (-1) else gG (gin p1 16) ((if p2 < (M.1 38 0 (Int32.toNatClampNeg p1)) then gG (gin ((p1 * 10) + p2) 160) (some (M.1 37 0 (Int32.toNatClampNeg ((p1 * 10) + p2)))) else some (-1))))))
theorem k_X10_bin {G : gG5} {nf : Nat} {M : gM} {p1 : Int32} {p2 : Int32} {r : Int32} (hr : X10_bin p1 p2 M = some r) : gMet G (gXn nf) yX10_bin cX10_bin 3 (some .int) 1 21 M [.ref (gad 0 0), .int p1, .int p2] (some (.int r)) M := by
  refine gMet_of pl_X10 rfl (Nat.le_of_ble_eq_true rfl) (fun Ψ C CR => ?_)
  show Ψ M 0 [(0, .ref (gad 0 0)), (1, .int p1), (2, .int p2)] []
  refine r_aload_n (pc := 0) C dX10_bin_0 rfl 0 rfl ?_
  refine g0_4 (pc := 1) C dX10_bin_1 q538 (e0 nf) ?_
  refine r_iload_n (pc := 4) C dX10_bin_4 rfl 1 rfl ?_
  obtain ⟨r_2, hc_1, hr⟩ := gBind_some hr
  refine c_X1_hasTile (pc := 5) C dX10_bin_5 q926 ⟨Nat.le_of_ble_eq_true rfl, Nat.le_of_ble_eq_true rfl⟩ hc_1 (Nat.le_of_ble_eq_true rfl) ?_
  refine r_if_eq (pc := 8) (tgt := 28) C dX10_bin_8 rfl (fun c_3 => ?_) (fun c_3 => ?_)
  · replace hr := (if_pos c_3).symm.trans hr
    refine r_iconst (pc := 28) C dX10_bin_28 kim1 ?_
    exact r_iret (pc := 29) CR dX10_bin_29 (congrArg (fun z => some (Value.int z)) (gSome hr)) rfl
  · replace hr := (if_neg c_3).symm.trans hr
    refine r_iload_n (pc := 11) C dX10_bin_11 rfl 2 rfl ?_
    refine r_if_lt (pc := 12) (tgt := 28) C dX10_bin_12 rfl (fun c_4 => ?_) (fun c_4 => ?_)
    · replace hr := (if_pos c_4).symm.trans hr
      refine r_iconst (pc := 28) C dX10_bin_28 kim1 ?_
      exact r_iret (pc := 29) CR dX10_bin_29 (congrArg (fun z => some (Value.int z)) (gSome hr)) rfl
    · replace hr := (if_neg c_4).symm.trans hr
      refine r_iload_n (pc := 15) C dX10_bin_15 rfl 2 rfl ?_
      refine r_aload_n (pc := 16) C dX10_bin_16 rfl 0 rfl ?_
      refine g0_7 (pc := 17) C dX10_bin_17 q541 (e0 nf) ?_
      refine g33_4 (pc := 20) C dX10_bin_20 q417 (e33 (nf := nf) (gf0 nf)) ?_
      refine r_iload_n (pc := 23) C dX10_bin_23 rfl 1 rfl ?_
      obtain ⟨g_5, hr⟩ := gG_some hr
      refine r_ialdN (pc := 24) C dX10_bin_24 rfl (e38 (nf := nf) (gf0 nf)) g_5 rfl ?_
      refine r_icmp_lt (pc := 25) (tgt := 30) C dX10_bin_25 rfl (fun c_6 => ?_) (fun c_6 => ?_)
      · replace hr := (if_pos c_6).symm.trans hr
        refine r_aload_n (pc := 30) C dX10_bin_30 rfl 0 rfl ?_
        refine g0_7 (pc := 31) C dX10_bin_31 q541 (e0 nf) ?_
        refine g33_3 (pc := 34) C dX10_bin_34 q414 (e33 (nf := nf) (gf0 nf)) ?_
        refine r_iload_n (pc := 37) C dX10_bin_37 rfl 1 rfl ?_
        refine r_bipush (pc := 38) C dX10_bin_38 kb10 ?_
        refine r_imul (pc := 40) C dX10_bin_40 ?_
        refine r_iload_n (pc := 41) C dX10_bin_41 rfl 2 rfl ?_
        refine r_iadd (pc := 42) C dX10_bin_42 ?_
        obtain ⟨g_7, hr⟩ := gG_some hr
        refine r_ialdN (pc := 43) C dX10_bin_43 rfl (e37 (nf := nf) (gf0 nf)) g_7 rfl ?_
        exact r_iret (pc := 44) CR dX10_bin_44 (congrArg (fun z => some (Value.int z)) (gSome hr)) rfl
      · replace hr := (if_neg c_6).symm.trans hr
        refine r_iconst (pc := 28) C dX10_bin_28 kim1 ?_
        exact r_iret (pc := 29) CR dX10_bin_29 (congrArg (fun z => some (Value.int z)) (gSome hr)) rfl
theorem c_X10_bin {Ψ : gM → Nat → List (Nat × Value) → List Value → Prop} {G : gG5} {nf : Nat} {cc : ByteArray} {own : String} {nL : Nat} {ret : Option FieldType} {fr lo : Nat} {v0 : Option Value} {M0 M : gM} {pc index : Nat} {ls : List (Nat × Value)} {st : List Value} (C : gC Ψ G (gXn nf) cc own nL ret fr lo v0 M0) (d : decode cc pc = .ok (.invokevirtual index, 3)) (hl : Cond.methodLink own index yX10_bin ∈ gws) (hR : 2 ≤ fr ∧ 43 ≤ lo) {p1 : Int32} {p2 : Int32} {r : Int32} (hr : X10_bin p1 p2 M = some r) (hcat : (st.map fun v => v.category).sum ≤ 8) (k : Ψ M (pc + 3) ls (.int r :: st)) : Ψ M pc ls (.int p2 :: .int p1 :: .ref (gad 0 0) :: st) := r_callV C [.int p1, .int p2] st d (k_X10_bin hr) hl q947 q948 q116 q949 hd_X10_bin hR rfl (by decide) (e0 nf) rfl hcat k
theorem hd_X10_shaded : yX10_shaded.cls ≠ "java/lang/invoke/MethodHandle" ∧ yX10_shaded.cls ≠ "java/lang/invoke/VarHandle" ∧ (parseMethodDescriptor yX10_shaded.desc).map (fun d => d.parameters.length) = some 1 := by decide +kernel
noncomputable def X10_shaded (p1 : Int32) (M : gM) : Option Int64 := (X4_has 1 p1 M).bind (fun r_2 => (if r_2 = 0 then some 0 else gG (gin p1 10) (some (M.2 41 0 (Int32.toNatClampNeg p1)))))
theorem k_X10_shaded {G : gG5} {nf : Nat} {M : gM} {p1 : Int32} {r : Int64} (hr : X10_shaded p1 M = some r) : gMet G (gXn nf) yX10_shaded cX10_shaded 2 (some .long) 1 21 M [.ref (gad 0 0), .int p1] (some (.long r)) M := by
  refine gMet_of pl_X10 rfl (Nat.le_of_ble_eq_true rfl) (fun Ψ C CR => ?_)
  show Ψ M 0 [(0, .ref (gad 0 0)), (1, .int p1)] []
  refine r_aload_n (pc := 0) C dX10_shaded_0 rfl 0 rfl ?_
  refine g0_3 (pc := 1) C dX10_shaded_1 q537 (e0 nf) ?_
  refine r_iload_n (pc := 4) C dX10_shaded_4 rfl 1 rfl ?_
  obtain ⟨r_2, hc_1, hr⟩ := gBind_some hr
  refine c_X4_has (pc := 5) C dX10_shaded_5 q867 ⟨Nat.le_of_ble_eq_true rfl, Nat.le_of_ble_eq_true rfl⟩ (by decide) hc_1 (Nat.le_of_ble_eq_true rfl) ?_
  refine r_if_eq (pc := 8) (tgt := 23) C dX10_shaded_8 rfl (fun c_3 => ?_) (fun c_3 => ?_)
  · replace hr := (if_pos c_3).symm.trans hr
    refine r_lconst (pc := 23) (v := 0) C dX10_shaded_23 rfl ?_
    exact r_lret (pc := 24) CR dX10_shaded_24 (congrArg (fun z => some (Value.long z)) (gSome hr)) rfl
  · replace hr := (if_neg c_3).symm.trans hr
    refine r_aload_n (pc := 11) C dX10_shaded_11 rfl 0 rfl ?_
    refine g0_7 (pc := 12) C dX10_shaded_12 q541 (e0 nf) ?_
    refine g33_7 (pc := 15) C dX10_shaded_15 q427 (e33 (nf := nf) (gf0 nf)) ?_
    refine r_iload_n (pc := 18) C dX10_shaded_18 rfl 1 rfl ?_
    obtain ⟨g_4, hr⟩ := gG_some hr
    refine r_laldN (pc := 19) C dX10_shaded_19 rfl (e41 (nf := nf) (gf0 nf)) g_4 rfl ?_
    refine r_goto (pc := 20) (tgt := 24) C dX10_shaded_20 rfl ?_
    exact r_lret (pc := 24) CR dX10_shaded_24 (congrArg (fun z => some (Value.long z)) (gSome hr)) rfl
theorem c_X10_shaded {Ψ : gM → Nat → List (Nat × Value) → List Value → Prop} {G : gG5} {nf : Nat} {cc : ByteArray} {own : String} {nL : Nat} {ret : Option FieldType} {fr lo : Nat} {v0 : Option Value} {M0 M : gM} {pc index : Nat} {ls : List (Nat × Value)} {st : List Value} (C : gC Ψ G (gXn nf) cc own nL ret fr lo v0 M0) (d : decode cc pc = .ok (.invokevirtual index, 3)) (hl : Cond.methodLink own index yX10_shaded ∈ gws) (hR : 2 ≤ fr ∧ 42 ≤ lo) {p1 : Int32} {r : Int64} (hr : X10_shaded p1 M = some r) (hcat : (st.map fun v => v.category).sum ≤ 8) (k : Ψ M (pc + 3) ls (.long r :: st)) : Ψ M pc ls (.int p1 :: .ref (gad 0 0) :: st) := r_callV C [.int p1] st d (k_X10_shaded hr) hl q951 q952 q116 q953 hd_X10_shaded hR rfl (by decide) (e0 nf) rfl hcat k
theorem hd_X9_isMove : yX9_isMove.cls ≠ "java/lang/invoke/MethodHandle" ∧ yX9_isMove.cls ≠ "java/lang/invoke/VarHandle" ∧ (parseMethodDescriptor yX9_isMove.desc).map (fun d => d.parameters.length) = some 1 := by decide +kernel
noncomputable def X9_isMove (p0 : Int32) (M : gM) : Option Int32 := (if p0 < (-20) then some 0 else (if 20 < p0 then some 0 else some 1))
theorem k_X9_isMove {G : gG5} {nf : Nat} {M : gM} {p0 : Int32} {r : Int32} (hr : X9_isMove p0 M = some r) : gMet G (gXn nf) yX9_isMove cX9_isMove 1 (some .boolean) 0 0 M [.int p0] (some (.int r)) M := by
  refine gMet_of pl_X9 rfl (Nat.le_of_ble_eq_true rfl) (fun Ψ C CR => ?_)
  show Ψ M 0 [(0, .int p0)] []
  refine r_iload_n (pc := 0) C dX9_isMove_0 rfl 0 rfl ?_
  refine r_bipush (pc := 1) C dX9_isMove_1 kbm20 ?_
  refine r_icmp_lt (pc := 3) (tgt := 16) C dX9_isMove_3 rfl (fun c_1 => ?_) (fun c_1 => ?_)
  · replace hr := (if_pos c_1).symm.trans hr
    refine r_iconst (pc := 16) C dX9_isMove_16 ki0 ?_
    exact r_zret (pc := 17) CR dX9_isMove_17 rfl (congrArg (fun z => some (Value.int z)) (gSome hr)) rfl
  · replace hr := (if_neg c_1).symm.trans hr
    refine r_iload_n (pc := 6) C dX9_isMove_6 rfl 0 rfl ?_
    refine r_bipush (pc := 7) C dX9_isMove_7 kb20 ?_
    refine r_icmp_gt (pc := 9) (tgt := 16) C dX9_isMove_9 rfl (fun c_2 => ?_) (fun c_2 => ?_)
    · replace hr := (if_pos c_2).symm.trans hr
      refine r_iconst (pc := 16) C dX9_isMove_16 ki0 ?_
      exact r_zret (pc := 17) CR dX9_isMove_17 rfl (congrArg (fun z => some (Value.int z)) (gSome hr)) rfl
    · replace hr := (if_neg c_2).symm.trans hr
      refine r_iconst (pc := 12) C dX9_isMove_12 ki1 ?_
      refine r_goto (pc := 13) (tgt := 17) C dX9_isMove_13 rfl ?_
      exact r_zret (pc := 17) CR dX9_isMove_17 rfl (congrArg (fun z => some (Value.int z)) (gSome hr)) rfl
theorem c_X9_isMove {Ψ : gM → Nat → List (Nat × Value) → List Value → Prop} {G : gG5} {nf : Nat} {cc : ByteArray} {own : String} {nL : Nat} {ret : Option FieldType} {fr lo : Nat} {v0 : Option Value} {M0 M : gM} {pc index : Nat} {ls : List (Nat × Value)} {st : List Value} (C : gC Ψ G (gXn nf) cc own nL ret fr lo v0 M0) (d : decode cc pc = .ok (.invokestatic index, 3)) (hl : Cond.methodLink own index yX9_isMove ∈ gws) (hR : 1 ≤ fr ∧ 20 ≤ lo) {p0 : Int32} {r : Int32} (hr : X9_isMove p0 M = some r) (hcat : (st.map fun v => v.category).sum ≤ 8) (k : Ψ M (pc + 3) ls (.int r :: st)) : Ψ M pc ls (.int p0 :: st) := r_callS C [.int p0] st d (k_X9_isMove hr) hl q978 q121 q979 hd_X9_isMove hR rfl hcat k
theorem hd_X9_refusalOfMove : yX9_refusalOfMove.cls ≠ "java/lang/invoke/MethodHandle" ∧ yX9_refusalOfMove.cls ≠ "java/lang/invoke/VarHandle" ∧ (parseMethodDescriptor yX9_refusalOfMove.desc).map (fun d => d.parameters.length) = some 5 := by decide +kernel
noncomputable def X9_refusalOfMove_J98 (i1 : Nat) (x2 : Int32) (M : gM) : Option Int32 := (X9_timesInBins i1 x2 M).bind (fun r_23 => (if r_23 ≤ 0 then some (-1) else some 3))
theorem t_X9_refusalOfMove_J98 {Ψ : gM → Nat → List (Nat × Value) → List Value → Prop} {G : gG5} {nf : Nat} {M : gM} {i1 : Nat} {x2 : Int32} {r : Int32} (C : gC Ψ G (gXn nf) cX9_refusalOfMove RX9 7 (some .int) 1 25 (some (.int r)) M) (CR : gR Ψ cX9_refusalOfMove (some .int) (some (.int r)) M) (h1 : i1 < nf + 3) (hr : X9_refusalOfMove_J98 i1 x2 M = some r) : Ψ M 98 [(0, .ref (gad 17 0)), (1, .ref (gad 33 i1)), (2, .int x2)] [] := by
  refine r_aload_n (pc := 98) C dX9_refusalOfMove_98 rfl 0 rfl ?_
  refine r_aload_n (pc := 99) C dX9_refusalOfMove_99 rfl 1 rfl ?_
  refine r_iload_n (pc := 100) C dX9_refusalOfMove_100 rfl 2 rfl ?_
  obtain ⟨r_23, hc_22, hr⟩ := gBind_some hr
  refine c_X9_timesInBins (pc := 101) C dX9_refusalOfMove_101 q981 ⟨Nat.le_of_ble_eq_true rfl, Nat.le_of_ble_eq_true rfl⟩ h1 hc_22 (Nat.le_of_ble_eq_true rfl) ?_
  refine r_if_le (pc := 104) (tgt := 111) C dX9_refusalOfMove_104 rfl (fun c_24 => ?_) (fun c_24 => ?_)
  · replace hr := (if_pos c_24).symm.trans hr
    refine r_iconst (pc := 111) C dX9_refusalOfMove_111 kim1 ?_
    exact r_iret (pc := 112) CR dX9_refusalOfMove_112 (congrArg (fun z => some (Value.int z)) (gSome hr)) rfl
  · replace hr := (if_neg c_24).symm.trans hr
    refine r_iconst (pc := 107) C dX9_refusalOfMove_107 ki3 ?_
    refine r_goto (pc := 108) (tgt := 112) C dX9_refusalOfMove_108 rfl ?_
    exact r_iret (pc := 112) CR dX9_refusalOfMove_112 (congrArg (fun z => some (Value.int z)) (gSome hr)) rfl
noncomputable def X9_refusalOfMove (i1 : Nat) (p2 : Int32) (p3 : Int32) (p4 : Int32) (p5 : Int32) (M : gM) : Option Int32 := (X4_has 1 p2 M).bind (fun r_2 => (if r_2 = 0 then some 0 else (if p3 < 0 then some 1 else (if 2 < p3 then some 1 else (X9_isMove p4 M).bind (fun r_7 => (if r_7 = 0 then some 1 else (X9_isMove p5 M).bind (fun r_10 => (if r_10 = 0 then some 1 else gLet (((p2 * 6) + (p3 * 2))) (fun x6_12 => gG (gin x6_12 60) ((X10_isPoint ((M.1 39 i1 (Int32.toNatClampNeg x6_12)) + p4) M).bind (fun r_15 => (if r_15 = 0 then some 1 else gG (gin (x6_12 + 1) 60) ((X10_isPoint ((M.1 39 i1 (Int32.toNatClampNeg (x6_12 + 1))) + p5) M).bind (fun r_19 => (if r_19 = 0 then some 1 else (if p4 = 0 then (if p5 = 0 then some 2 else X9_refusalOfMove_J98 i1 p2 M) else X9_refusalOfMove_J98 i1 p2 M))))))))))))))))
theorem k_X9_refusalOfMove {G : gG5} {nf : Nat} {M : gM} {i1 : Nat} {p2 : Int32} {p3 : Int32} {p4 : Int32} {p5 : Int32} (h1 : i1 < nf + 3) {r : Int32} (hr : X9_refusalOfMove i1 p2 p3 p4 p5 M = some r) : gMet G (gXn nf) yX9_refusalOfMove cX9_refusalOfMove 7 (some .int) 1 25 M [.ref (gad 17 0), .ref (gad 33 i1), .int p2, .int p3, .int p4, .int p5] (some (.int r)) M := by
  refine gMet_of pl_X9 rfl (Nat.le_of_ble_eq_true rfl) (fun Ψ C CR => ?_)
  show Ψ M 0 [(0, .ref (gad 17 0)), (1, .ref (gad 33 i1)), (2, .int p2), (3, .int p3), (4, .int p4), (5, .int p5)] []
  refine r_aload_n (pc := 0) C dX9_refusalOfMove_0 rfl 0 rfl ?_
  refine g17_0 (pc := 1) C dX9_refusalOfMove_1 q376 (e17 nf) ?_
  refine r_iload_n (pc := 4) C dX9_refusalOfMove_4 rfl 2 rfl ?_
  obtain ⟨r_2, hc_1, hr⟩ := gBind_some hr
  refine c_X4_has (pc := 5) C dX9_refusalOfMove_5 q966 ⟨Nat.le_of_ble_eq_true rfl, Nat.le_of_ble_eq_true rfl⟩ (by decide) hc_1 (Nat.le_of_ble_eq_true rfl) ?_
  refine r_if_ne (pc := 8) (tgt := 13) C dX9_refusalOfMove_8 rfl (fun c_3 => ?_) (fun c_3 => ?_)
  · replace hr := (if_neg c_3).symm.trans hr
    refine r_iload_n (pc := 13) C dX9_refusalOfMove_13 rfl 3 rfl ?_
    refine r_if_lt (pc := 14) (tgt := 38) C dX9_refusalOfMove_14 rfl (fun c_4 => ?_) (fun c_4 => ?_)
    · replace hr := (if_pos c_4).symm.trans hr
      refine r_iconst (pc := 38) C dX9_refusalOfMove_38 ki1 ?_
      exact r_iret (pc := 39) CR dX9_refusalOfMove_39 (congrArg (fun z => some (Value.int z)) (gSome hr)) rfl
    · replace hr := (if_neg c_4).symm.trans hr
      refine r_iload_n (pc := 17) C dX9_refusalOfMove_17 rfl 3 rfl ?_
      refine r_iconst (pc := 18) C dX9_refusalOfMove_18 ki2 ?_
      refine r_icmp_gt (pc := 19) (tgt := 38) C dX9_refusalOfMove_19 rfl (fun c_5 => ?_) (fun c_5 => ?_)
      · replace hr := (if_pos c_5).symm.trans hr
        refine r_iconst (pc := 38) C dX9_refusalOfMove_38 ki1 ?_
        exact r_iret (pc := 39) CR dX9_refusalOfMove_39 (congrArg (fun z => some (Value.int z)) (gSome hr)) rfl
      · replace hr := (if_neg c_5).symm.trans hr
        refine r_iload (pc := 22) C dX9_refusalOfMove_22 4 rfl ?_
        obtain ⟨r_7, hc_6, hr⟩ := gBind_some hr
        refine c_X9_isMove (pc := 24) C dX9_refusalOfMove_24 q977 ⟨Nat.le_of_ble_eq_true rfl, Nat.le_of_ble_eq_true rfl⟩ hc_6 (Nat.le_of_ble_eq_true rfl) ?_
        refine r_if_eq (pc := 27) (tgt := 38) C dX9_refusalOfMove_27 rfl (fun c_8 => ?_) (fun c_8 => ?_)
        · replace hr := (if_pos c_8).symm.trans hr
          refine r_iconst (pc := 38) C dX9_refusalOfMove_38 ki1 ?_
          exact r_iret (pc := 39) CR dX9_refusalOfMove_39 (congrArg (fun z => some (Value.int z)) (gSome hr)) rfl
        · replace hr := (if_neg c_8).symm.trans hr
          refine r_iload (pc := 30) C dX9_refusalOfMove_30 5 rfl ?_
          obtain ⟨r_10, hc_9, hr⟩ := gBind_some hr
          refine c_X9_isMove (pc := 32) C dX9_refusalOfMove_32 q977 ⟨Nat.le_of_ble_eq_true rfl, Nat.le_of_ble_eq_true rfl⟩ hc_9 (Nat.le_of_ble_eq_true rfl) ?_
          refine r_if_ne (pc := 35) (tgt := 40) C dX9_refusalOfMove_35 rfl (fun c_11 => ?_) (fun c_11 => ?_)
          · replace hr := (if_neg c_11).symm.trans hr
            refine r_iload_n (pc := 40) C dX9_refusalOfMove_40 rfl 2 rfl ?_
            refine r_bipush (pc := 41) C dX9_refusalOfMove_41 kb6 ?_
            refine r_imul (pc := 43) C dX9_refusalOfMove_43 ?_
            refine r_iload_n (pc := 44) C dX9_refusalOfMove_44 rfl 3 rfl ?_
            refine r_iconst (pc := 45) C dX9_refusalOfMove_45 ki2 ?_
            refine r_imul (pc := 46) C dX9_refusalOfMove_46 ?_
            refine r_iadd (pc := 47) C dX9_refusalOfMove_47 ?_
            obtain ⟨x6_12, ex6_12, hr⟩ := gLet_some hr
            refine r_istore (pc := 48) C dX9_refusalOfMove_48 (by decide) ex6_12 (ls' := [(6, .int x6_12), (0, .ref (gad 17 0)), (1, .ref (gad 33 i1)), (2, .int p2), (3, .int p3), (4, .int p4), (5, .int p5)]) rfl ?_
            refine r_aload_n (pc := 50) C dX9_refusalOfMove_50 rfl 2 rfl ?_
            refine g33_5 (pc := 51) C dX9_refusalOfMove_51 q419 (e33 (nf := nf) h1) ?_
            refine r_iload (pc := 54) C dX9_refusalOfMove_54 0 rfl ?_
            obtain ⟨g_13, hr⟩ := gG_some hr
            refine r_ialdN (pc := 56) C dX9_refusalOfMove_56 rfl (e39 (nf := nf) h1) g_13 rfl ?_
            refine r_iload (pc := 57) C dX9_refusalOfMove_57 5 rfl ?_
            refine r_iadd (pc := 59) C dX9_refusalOfMove_59 ?_
            obtain ⟨r_15, hc_14, hr⟩ := gBind_some hr
            refine cn_X10_isPoint (pc := 60) C dX9_refusalOfMove_60 ⟨Nat.le_of_ble_eq_true rfl, Nat.le_of_ble_eq_true rfl⟩ hc_14 (Nat.le_of_ble_eq_true rfl) ?_
            refine r_if_eq (pc := 63) (tgt := 84) C dX9_refusalOfMove_63 rfl (fun c_16 => ?_) (fun c_16 => ?_)
            · replace hr := (if_pos c_16).symm.trans hr
              refine r_iconst (pc := 84) C dX9_refusalOfMove_84 ki1 ?_
              exact r_iret (pc := 85) CR dX9_refusalOfMove_85 (congrArg (fun z => some (Value.int z)) (gSome hr)) rfl
            · replace hr := (if_neg c_16).symm.trans hr
              refine r_aload_n (pc := 66) C dX9_refusalOfMove_66 rfl 2 rfl ?_
              refine g33_5 (pc := 67) C dX9_refusalOfMove_67 q419 (e33 (nf := nf) h1) ?_
              refine r_iload (pc := 70) C dX9_refusalOfMove_70 0 rfl ?_
              refine r_iconst (pc := 72) C dX9_refusalOfMove_72 ki1 ?_
              refine r_iadd (pc := 73) C dX9_refusalOfMove_73 ?_
              obtain ⟨g_17, hr⟩ := gG_some hr
              refine r_ialdN (pc := 74) C dX9_refusalOfMove_74 rfl (e39 (nf := nf) h1) g_17 rfl ?_
              refine r_iload (pc := 75) C dX9_refusalOfMove_75 6 rfl ?_
              refine r_iadd (pc := 77) C dX9_refusalOfMove_77 ?_
              obtain ⟨r_19, hc_18, hr⟩ := gBind_some hr
              refine cn_X10_isPoint (pc := 78) C dX9_refusalOfMove_78 ⟨Nat.le_of_ble_eq_true rfl, Nat.le_of_ble_eq_true rfl⟩ hc_18 (Nat.le_of_ble_eq_true rfl) ?_
              refine r_if_ne (pc := 81) (tgt := 86) C dX9_refusalOfMove_81 rfl (fun c_20 => ?_) (fun c_20 => ?_)
              · replace hr := (if_neg c_20).symm.trans hr
                refine r_iload (pc := 86) C dX9_refusalOfMove_86 5 rfl ?_
                refine r_if_ne (pc := 88) (tgt := 98) C dX9_refusalOfMove_88 rfl (fun c_21 => ?_) (fun c_21 => ?_)
                · replace hr := (if_neg c_21).symm.trans hr
                  refine r_sub C [1, 2, 3] (ls' := [(0, .ref (gad 17 0)), (1, .ref (gad 33 i1)), (2, .int p2)]) rfl ?_
                  exact t_X9_refusalOfMove_J98 C CR h1 hr
                · replace hr := (if_pos c_21).symm.trans hr
                  refine r_iload (pc := 91) C dX9_refusalOfMove_91 6 rfl ?_
                  refine r_if_ne (pc := 93) (tgt := 98) C dX9_refusalOfMove_93 rfl (fun c_25 => ?_) (fun c_25 => ?_)
                  · replace hr := (if_neg c_25).symm.trans hr
                    refine r_sub C [1, 2, 3] (ls' := [(0, .ref (gad 17 0)), (1, .ref (gad 33 i1)), (2, .int p2)]) rfl ?_
                    exact t_X9_refusalOfMove_J98 C CR h1 hr
                  · replace hr := (if_pos c_25).symm.trans hr
                    refine r_iconst (pc := 96) C dX9_refusalOfMove_96 ki2 ?_
                    exact r_iret (pc := 97) CR dX9_refusalOfMove_97 (congrArg (fun z => some (Value.int z)) (gSome hr)) rfl
              · replace hr := (if_pos c_20).symm.trans hr
                refine r_iconst (pc := 84) C dX9_refusalOfMove_84 ki1 ?_
                exact r_iret (pc := 85) CR dX9_refusalOfMove_85 (congrArg (fun z => some (Value.int z)) (gSome hr)) rfl
          · replace hr := (if_pos c_11).symm.trans hr
            refine r_iconst (pc := 38) C dX9_refusalOfMove_38 ki1 ?_
            exact r_iret (pc := 39) CR dX9_refusalOfMove_39 (congrArg (fun z => some (Value.int z)) (gSome hr)) rfl
  · replace hr := (if_pos c_3).symm.trans hr
    refine r_iconst (pc := 11) C dX9_refusalOfMove_11 ki0 ?_
    exact r_iret (pc := 12) CR dX9_refusalOfMove_12 (congrArg (fun z => some (Value.int z)) (gSome hr)) rfl
theorem c_X9_refusalOfMove {Ψ : gM → Nat → List (Nat × Value) → List Value → Prop} {G : gG5} {nf : Nat} {cc : ByteArray} {own : String} {nL : Nat} {ret : Option FieldType} {fr lo : Nat} {v0 : Option Value} {M0 M : gM} {pc index : Nat} {ls : List (Nat × Value)} {st : List Value} (C : gC Ψ G (gXn nf) cc own nL ret fr lo v0 M0) (d : decode cc pc = .ok (.invokevirtual index, 3)) (hl : Cond.methodLink own index yX9_refusalOfMove ∈ gws) (hR : 2 ≤ fr ∧ 51 ≤ lo) {i1 : Nat} {p2 : Int32} {p3 : Int32} {p4 : Int32} {p5 : Int32} (h1 : i1 < nf + 3) {r : Int32} (hr : X9_refusalOfMove i1 p2 p3 p4 p5 M = some r) (hcat : (st.map fun v => v.category).sum ≤ 8) (k : Ψ M (pc + 3) ls (.int r :: st)) : Ψ M pc ls (.int p5 :: .int p4 :: .int p3 :: .int p2 :: .ref (gad 33 i1) :: .ref (gad 17 0) :: st) := r_callV C [.ref (gad 33 i1), .int p2, .int p3, .int p4, .int p5] st d (k_X9_refusalOfMove h1 hr) hl q975 q20 q121 q976 hd_X9_refusalOfMove hR rfl (by decide) (e17 nf) rfl hcat k
theorem hd_X9_refusalOfRule : yX9_refusalOfRule.cls ≠ "java/lang/invoke/MethodHandle" ∧ yX9_refusalOfRule.cls ≠ "java/lang/invoke/VarHandle" ∧ (parseMethodDescriptor yX9_refusalOfRule.desc).map (fun d => d.parameters.length) = some 3 := by decide +kernel
noncomputable def X9_refusalOfRule (i1 : Nat) (p2 : Int32) (p3 : Int32) (M : gM) : Option Int32 := (if p2 < 0 then some 1 else (if 4 ≤ p2 then some 1 else gG (gin p2 4) ((if p3 < (gSv 8 (Int32.toNatClampNeg p2)) then some 1 else gG (gin p2 4) ((if p3 ≤ (gSv 9 (Int32.toNatClampNeg p2)) then gG (gin p2 4) ((if (M.1 40 i1 (Int32.toNatClampNeg p2)) = p3 then some 2 else some (-1))) else some 1))))))
theorem k_X9_refusalOfRule {G : gG5} {nf : Nat} {M : gM} {i1 : Nat} {p2 : Int32} {p3 : Int32} (h1 : i1 < nf + 3) {r : Int32} (hr : X9_refusalOfRule i1 p2 p3 M = some r) : gMet G (gXn nf) yX9_refusalOfRule cX9_refusalOfRule 4 (some .int) 0 0 M [.ref (gad 17 0), .ref (gad 33 i1), .int p2, .int p3] (some (.int r)) M := by
  refine gMet_of pl_X9 rfl (Nat.le_of_ble_eq_true rfl) (fun Ψ C CR => ?_)
  show Ψ M 0 [(0, .ref (gad 17 0)), (1, .ref (gad 33 i1)), (2, .int p2), (3, .int p3)] []
  refine r_iload_n (pc := 0) C dX9_refusalOfRule_0 rfl 2 rfl ?_
  refine r_if_lt (pc := 1) (tgt := 27) C dX9_refusalOfRule_1 rfl (fun c_1 => ?_) (fun c_1 => ?_)
  · replace hr := (if_pos c_1).symm.trans hr
    refine r_iconst (pc := 27) C dX9_refusalOfRule_27 ki1 ?_
    exact r_iret (pc := 28) CR dX9_refusalOfRule_28 (congrArg (fun z => some (Value.int z)) (gSome hr)) rfl
  · replace hr := (if_neg c_1).symm.trans hr
    refine r_iload_n (pc := 4) C dX9_refusalOfRule_4 rfl 2 rfl ?_
    refine r_iconst (pc := 5) C dX9_refusalOfRule_5 ki4 ?_
    refine r_icmp_ge (pc := 6) (tgt := 27) C dX9_refusalOfRule_6 rfl (fun c_2 => ?_) (fun c_2 => ?_)
    · replace hr := (if_pos c_2).symm.trans hr
      refine r_iconst (pc := 27) C dX9_refusalOfRule_27 ki1 ?_
      exact r_iret (pc := 28) CR dX9_refusalOfRule_28 (congrArg (fun z => some (Value.int z)) (gSome hr)) rfl
    · replace hr := (if_neg c_2).symm.trans hr
      refine r_iload_n (pc := 9) C dX9_refusalOfRule_9 rfl 3 rfl ?_
      refine r_gets (pc := 10) (j := 8) C dX9_refusalOfRule_10 (by decide) q989 ?_
      refine r_iload_n (pc := 13) C dX9_refusalOfRule_13 rfl 2 rfl ?_
      obtain ⟨g_3, hr⟩ := gG_some hr
      refine r_saldN (pc := 14) C dX9_refusalOfRule_14 (by decide) g_3 rfl ?_
      refine r_icmp_lt (pc := 15) (tgt := 27) C dX9_refusalOfRule_15 rfl (fun c_4 => ?_) (fun c_4 => ?_)
      · replace hr := (if_pos c_4).symm.trans hr
        refine r_iconst (pc := 27) C dX9_refusalOfRule_27 ki1 ?_
        exact r_iret (pc := 28) CR dX9_refusalOfRule_28 (congrArg (fun z => some (Value.int z)) (gSome hr)) rfl
      · replace hr := (if_neg c_4).symm.trans hr
        refine r_iload_n (pc := 18) C dX9_refusalOfRule_18 rfl 3 rfl ?_
        refine r_gets (pc := 19) (j := 9) C dX9_refusalOfRule_19 (by decide) q991 ?_
        refine r_iload_n (pc := 22) C dX9_refusalOfRule_22 rfl 2 rfl ?_
        obtain ⟨g_5, hr⟩ := gG_some hr
        refine r_saldN (pc := 23) C dX9_refusalOfRule_23 (by decide) g_5 rfl ?_
        refine r_icmp_le (pc := 24) (tgt := 29) C dX9_refusalOfRule_24 rfl (fun c_6 => ?_) (fun c_6 => ?_)
        · replace hr := (if_pos c_6).symm.trans hr
          refine r_aload_n (pc := 29) C dX9_refusalOfRule_29 rfl 1 rfl ?_
          refine g33_6 (pc := 30) C dX9_refusalOfRule_30 q423 (e33 (nf := nf) h1) ?_
          refine r_iload_n (pc := 33) C dX9_refusalOfRule_33 rfl 2 rfl ?_
          obtain ⟨g_7, hr⟩ := gG_some hr
          refine r_ialdN (pc := 34) C dX9_refusalOfRule_34 rfl (e40 (nf := nf) h1) g_7 rfl ?_
          refine r_iload_n (pc := 35) C dX9_refusalOfRule_35 rfl 3 rfl ?_
          refine r_icmp_ne (pc := 36) (tgt := 43) C dX9_refusalOfRule_36 rfl (fun c_8 => ?_) (fun c_8 => ?_)
          · replace hr := (if_neg c_8).symm.trans hr
            refine r_iconst (pc := 43) C dX9_refusalOfRule_43 kim1 ?_
            exact r_iret (pc := 44) CR dX9_refusalOfRule_44 (congrArg (fun z => some (Value.int z)) (gSome hr)) rfl
          · replace hr := (if_pos c_8).symm.trans hr
            refine r_iconst (pc := 39) C dX9_refusalOfRule_39 ki2 ?_
            refine r_goto (pc := 40) (tgt := 44) C dX9_refusalOfRule_40 rfl ?_
            exact r_iret (pc := 44) CR dX9_refusalOfRule_44 (congrArg (fun z => some (Value.int z)) (gSome hr)) rfl
        · replace hr := (if_neg c_6).symm.trans hr
          refine r_iconst (pc := 27) C dX9_refusalOfRule_27 ki1 ?_
          exact r_iret (pc := 28) CR dX9_refusalOfRule_28 (congrArg (fun z => some (Value.int z)) (gSome hr)) rfl
theorem c_X9_refusalOfRule {Ψ : gM → Nat → List (Nat × Value) → List Value → Prop} {G : gG5} {nf : Nat} {cc : ByteArray} {own : String} {nL : Nat} {ret : Option FieldType} {fr lo : Nat} {v0 : Option Value} {M0 M : gM} {pc index : Nat} {ls : List (Nat × Value)} {st : List Value} (C : gC Ψ G (gXn nf) cc own nL ret fr lo v0 M0) (d : decode cc pc = .ok (.invokevirtual index, 3)) (hl : Cond.methodLink own index yX9_refusalOfRule ∈ gws) (hR : 1 ≤ fr ∧ 23 ≤ lo) {i1 : Nat} {p2 : Int32} {p3 : Int32} (h1 : i1 < nf + 3) {r : Int32} (hr : X9_refusalOfRule i1 p2 p3 M = some r) (hcat : (st.map fun v => v.category).sum ≤ 8) (k : Ψ M (pc + 3) ls (.int r :: st)) : Ψ M pc ls (.int p3 :: .int p2 :: .ref (gad 33 i1) :: .ref (gad 17 0) :: st) := r_callV C [.ref (gad 33 i1), .int p2, .int p3] st d (k_X9_refusalOfRule h1 hr) hl q987 q21 q121 q988 hd_X9_refusalOfRule hR rfl (by decide) (e17 nf) rfl hcat k
theorem hd_X9_refusal : yX9_refusal.cls ≠ "java/lang/invoke/MethodHandle" ∧ yX9_refusal.cls ≠ "java/lang/invoke/VarHandle" ∧ (parseMethodDescriptor yX9_refusal.desc).map (fun d => d.parameters.length) = some 6 := by decide +kernel
noncomputable def X9_refusal (i1 : Nat) (p2 : Int32) (p3 : Int32) (p4 : Int32) (p5 : Int32) (p6 : Int32) (M : gM) : Option Int32 := (if (M.1 5 1 5) = 0 then some 0 else (if p2 = 0 then (X4_has 1 p3 M).bind (fun r_4 => (if r_4 = 0 then some 0 else (X9_touchedBy i1 p3 M).bind (fun r_7 => (if r_7 = 0 then some 2 else some (-1))))) else if p2 = 1 then (X1_hasTile p3 M).bind (fun r_10 => (if r_10 = 0 then some 0 else gG (gin p3 16) ((if (M.1 38 i1 (Int32.toNatClampNeg p3)) = 0 then (X1_pendingIn i1 p3 M).bind (fun r_15 => (if r_15 = 0 then some 2 else some (-1))) else some (-1))))) else if p2 = 2 then some (-1) else if p2 = 3 then some (-1) else if p2 = 4 then (X9_refusalOfRule i1 (p2 - 4) p3 M).bind (fun r_18 => some r_18) else if p2 = 5 then (X9_refusalOfRule i1 (p2 - 4) p3 M).bind (fun r_20 => some r_20) else if p2 = 6 then (X9_refusalOfRule i1 (p2 - 4) p3 M).bind (fun r_22 => some r_22) else if p2 = 7 then (X9_refusalOfRule i1 (p2 - 4) p3 M).bind (fun r_24 => some r_24) else if p2 = 8 then (X9_refusalOfMove i1 p3 p4 p5 p6 M).bind (fun r_26 => some r_26) else (X9_refusalOfRule i1 (p2 - 4) p3 M).bind (fun r_28 => some r_28)))
theorem k_X9_refusal {G : gG5} {nf : Nat} {M : gM} {i1 : Nat} {p2 : Int32} {p3 : Int32} {p4 : Int32} {p5 : Int32} {p6 : Int32} (h1 : i1 < nf + 3) {r : Int32} (hr : X9_refusal i1 p2 p3 p4 p5 p6 M = some r) : gMet G (gXn nf) yX9_refusal cX9_refusal 7 (some .int) 2 51 M [.ref (gad 17 0), .ref (gad 33 i1), .int p2, .int p3, .int p4, .int p5, .int p6] (some (.int r)) M := by
  refine gMet_of pl_X9 rfl (Nat.le_of_ble_eq_true rfl) (fun Ψ C CR => ?_)
  show Ψ M 0 [(0, .ref (gad 17 0)), (1, .ref (gad 33 i1)), (2, .int p2), (3, .int p3), (4, .int p4), (5, .int p5), (6, .int p6)] []
  refine r_aload_n (pc := 0) C dX9_refusal_0 rfl 0 rfl ?_
  refine g17_0 (pc := 1) C dX9_refusal_1 q376 (e17 nf) ?_
  refine g5_5 (pc := 4) C dX9_refusal_4 q213 (e5 (nf := nf) (by decide)) ?_
  refine r_if_ne (pc := 7) (tgt := 12) C dX9_refusal_7 rfl (fun c_1 => ?_) (fun c_1 => ?_)
  · replace hr := (if_neg c_1).symm.trans hr
    refine r_iload_n (pc := 12) C dX9_refusal_12 rfl 2 rfl ?_
    by_cases c_2_0 : p2 = 0
    · replace hr := (if_pos c_2_0).symm.trans hr
      refine r_tableIn (pc := 13) (tgt := 64) (off := 51) C dX9_refusal_13 0 c_2_0 (by decide) rfl ?_
      refine r_aload_n (pc := 64) C dX9_refusal_64 rfl 0 rfl ?_
      refine g17_0 (pc := 65) C dX9_refusal_65 q376 (e17 nf) ?_
      refine r_iload_n (pc := 68) C dX9_refusal_68 rfl 3 rfl ?_
      obtain ⟨r_4, hc_3, hr⟩ := gBind_some hr
      refine c_X4_has (pc := 69) C dX9_refusal_69 q966 ⟨Nat.le_of_ble_eq_true rfl, Nat.le_of_ble_eq_true rfl⟩ (by decide) hc_3 (Nat.le_of_ble_eq_true rfl) ?_
      refine r_if_ne (pc := 72) (tgt := 77) C dX9_refusal_72 rfl (fun c_5 => ?_) (fun c_5 => ?_)
      · replace hr := (if_neg c_5).symm.trans hr
        refine r_aload_n (pc := 77) C dX9_refusal_77 rfl 0 rfl ?_
        refine r_aload_n (pc := 78) C dX9_refusal_78 rfl 1 rfl ?_
        refine r_iload_n (pc := 79) C dX9_refusal_79 rfl 3 rfl ?_
        obtain ⟨r_7, hc_6, hr⟩ := gBind_some hr
        refine c_X9_touchedBy (pc := 80) C dX9_refusal_80 q967 ⟨Nat.le_of_ble_eq_true rfl, Nat.le_of_ble_eq_true rfl⟩ h1 hc_6 (Nat.le_of_ble_eq_true rfl) ?_
        refine r_if_ne (pc := 83) (tgt := 90) C dX9_refusal_83 rfl (fun c_8 => ?_) (fun c_8 => ?_)
        · replace hr := (if_neg c_8).symm.trans hr
          refine r_iconst (pc := 90) C dX9_refusal_90 kim1 ?_
          exact r_iret (pc := 91) CR dX9_refusal_91 (congrArg (fun z => some (Value.int z)) (gSome hr)) rfl
        · replace hr := (if_pos c_8).symm.trans hr
          refine r_iconst (pc := 86) C dX9_refusal_86 ki2 ?_
          refine r_goto (pc := 87) (tgt := 91) C dX9_refusal_87 rfl ?_
          exact r_iret (pc := 91) CR dX9_refusal_91 (congrArg (fun z => some (Value.int z)) (gSome hr)) rfl
      · replace hr := (if_pos c_5).symm.trans hr
        refine r_iconst (pc := 75) C dX9_refusal_75 ki0 ?_
        exact r_iret (pc := 76) CR dX9_refusal_76 (congrArg (fun z => some (Value.int z)) (gSome hr)) rfl
    replace hr := (if_neg c_2_0).symm.trans hr
    by_cases c_2_1 : p2 = 1
    · replace hr := (if_pos c_2_1).symm.trans hr
      refine r_tableIn (pc := 13) (tgt := 92) (off := 79) C dX9_refusal_13 1 c_2_1 (by decide) rfl ?_
      refine r_aload_n (pc := 92) C dX9_refusal_92 rfl 0 rfl ?_
      refine g17_1 (pc := 93) C dX9_refusal_93 q377 (e17 nf) ?_
      refine r_iload_n (pc := 96) C dX9_refusal_96 rfl 3 rfl ?_
      obtain ⟨r_10, hc_9, hr⟩ := gBind_some hr
      refine c_X1_hasTile (pc := 97) C dX9_refusal_97 q971 ⟨Nat.le_of_ble_eq_true rfl, Nat.le_of_ble_eq_true rfl⟩ hc_9 (Nat.le_of_ble_eq_true rfl) ?_
      refine r_if_ne (pc := 100) (tgt := 105) C dX9_refusal_100 rfl (fun c_11 => ?_) (fun c_11 => ?_)
      · replace hr := (if_neg c_11).symm.trans hr
        refine r_aload_n (pc := 105) C dX9_refusal_105 rfl 1 rfl ?_
        refine g33_4 (pc := 106) C dX9_refusal_106 q416 (e33 (nf := nf) h1) ?_
        refine r_iload_n (pc := 109) C dX9_refusal_109 rfl 3 rfl ?_
        obtain ⟨g_12, hr⟩ := gG_some hr
        refine r_ialdN (pc := 110) C dX9_refusal_110 rfl (e38 (nf := nf) h1) g_12 rfl ?_
        refine r_if_ne (pc := 111) (tgt := 130) C dX9_refusal_111 rfl (fun c_13 => ?_) (fun c_13 => ?_)
        · replace hr := (if_neg c_13).symm.trans hr
          refine r_iconst (pc := 130) C dX9_refusal_130 kim1 ?_
          exact r_iret (pc := 131) CR dX9_refusal_131 (congrArg (fun z => some (Value.int z)) (gSome hr)) rfl
        · replace hr := (if_pos c_13).symm.trans hr
          refine r_aload_n (pc := 114) C dX9_refusal_114 rfl 0 rfl ?_
          refine g17_1 (pc := 115) C dX9_refusal_115 q377 (e17 nf) ?_
          refine r_aload_n (pc := 118) C dX9_refusal_118 rfl 1 rfl ?_
          refine r_iload_n (pc := 119) C dX9_refusal_119 rfl 3 rfl ?_
          obtain ⟨r_15, hc_14, hr⟩ := gBind_some hr
          refine c_X1_pendingIn (pc := 120) C dX9_refusal_120 q972 ⟨Nat.le_of_ble_eq_true rfl, Nat.le_of_ble_eq_true rfl⟩ h1 hc_14 (Nat.le_of_ble_eq_true rfl) ?_
          refine r_if_ne (pc := 123) (tgt := 130) C dX9_refusal_123 rfl (fun c_16 => ?_) (fun c_16 => ?_)
          · replace hr := (if_neg c_16).symm.trans hr
            refine r_iconst (pc := 130) C dX9_refusal_130 kim1 ?_
            exact r_iret (pc := 131) CR dX9_refusal_131 (congrArg (fun z => some (Value.int z)) (gSome hr)) rfl
          · replace hr := (if_pos c_16).symm.trans hr
            refine r_iconst (pc := 126) C dX9_refusal_126 ki2 ?_
            refine r_goto (pc := 127) (tgt := 131) C dX9_refusal_127 rfl ?_
            exact r_iret (pc := 131) CR dX9_refusal_131 (congrArg (fun z => some (Value.int z)) (gSome hr)) rfl
      · replace hr := (if_pos c_11).symm.trans hr
        refine r_iconst (pc := 103) C dX9_refusal_103 ki0 ?_
        exact r_iret (pc := 104) CR dX9_refusal_104 (congrArg (fun z => some (Value.int z)) (gSome hr)) rfl
    replace hr := (if_neg c_2_1).symm.trans hr
    by_cases c_2_2 : p2 = 2
    · replace hr := (if_pos c_2_2).symm.trans hr
      refine r_tableIn (pc := 13) (tgt := 132) (off := 119) C dX9_refusal_13 2 c_2_2 (by decide) rfl ?_
      refine r_iconst (pc := 132) C dX9_refusal_132 kim1 ?_
      exact r_iret (pc := 133) CR dX9_refusal_133 (congrArg (fun z => some (Value.int z)) (gSome hr)) rfl
    replace hr := (if_neg c_2_2).symm.trans hr
    by_cases c_2_3 : p2 = 3
    · replace hr := (if_pos c_2_3).symm.trans hr
      refine r_tableIn (pc := 13) (tgt := 132) (off := 119) C dX9_refusal_13 3 c_2_3 (by decide) rfl ?_
      refine r_iconst (pc := 132) C dX9_refusal_132 kim1 ?_
      exact r_iret (pc := 133) CR dX9_refusal_133 (congrArg (fun z => some (Value.int z)) (gSome hr)) rfl
    replace hr := (if_neg c_2_3).symm.trans hr
    by_cases c_2_4 : p2 = 4
    · replace hr := (if_pos c_2_4).symm.trans hr
      refine r_tableIn (pc := 13) (tgt := 147) (off := 134) C dX9_refusal_13 4 c_2_4 (by decide) rfl ?_
      refine r_aload_n (pc := 147) C dX9_refusal_147 rfl 0 rfl ?_
      refine r_aload_n (pc := 148) C dX9_refusal_148 rfl 1 rfl ?_
      refine r_iload_n (pc := 149) C dX9_refusal_149 rfl 2 rfl ?_
      refine r_iconst (pc := 150) C dX9_refusal_150 ki4 ?_
      refine r_isub (pc := 151) C dX9_refusal_151 ?_
      refine r_iload_n (pc := 152) C dX9_refusal_152 rfl 3 rfl ?_
      obtain ⟨r_18, hc_17, hr⟩ := gBind_some hr
      refine c_X9_refusalOfRule (pc := 153) C dX9_refusal_153 q985 ⟨Nat.le_of_ble_eq_true rfl, Nat.le_of_ble_eq_true rfl⟩ h1 hc_17 (Nat.le_of_ble_eq_true rfl) ?_
      exact r_iret (pc := 156) CR dX9_refusal_156 (congrArg (fun z => some (Value.int z)) (gSome hr)) rfl
    replace hr := (if_neg c_2_4).symm.trans hr
    by_cases c_2_5 : p2 = 5
    · replace hr := (if_pos c_2_5).symm.trans hr
      refine r_tableIn (pc := 13) (tgt := 147) (off := 134) C dX9_refusal_13 5 c_2_5 (by decide) rfl ?_
      refine r_aload_n (pc := 147) C dX9_refusal_147 rfl 0 rfl ?_
      refine r_aload_n (pc := 148) C dX9_refusal_148 rfl 1 rfl ?_
      refine r_iload_n (pc := 149) C dX9_refusal_149 rfl 2 rfl ?_
      refine r_iconst (pc := 150) C dX9_refusal_150 ki4 ?_
      refine r_isub (pc := 151) C dX9_refusal_151 ?_
      refine r_iload_n (pc := 152) C dX9_refusal_152 rfl 3 rfl ?_
      obtain ⟨r_20, hc_19, hr⟩ := gBind_some hr
      refine c_X9_refusalOfRule (pc := 153) C dX9_refusal_153 q985 ⟨Nat.le_of_ble_eq_true rfl, Nat.le_of_ble_eq_true rfl⟩ h1 hc_19 (Nat.le_of_ble_eq_true rfl) ?_
      exact r_iret (pc := 156) CR dX9_refusal_156 (congrArg (fun z => some (Value.int z)) (gSome hr)) rfl
    replace hr := (if_neg c_2_5).symm.trans hr
    by_cases c_2_6 : p2 = 6
    · replace hr := (if_pos c_2_6).symm.trans hr
      refine r_tableIn (pc := 13) (tgt := 147) (off := 134) C dX9_refusal_13 6 c_2_6 (by decide) rfl ?_
      refine r_aload_n (pc := 147) C dX9_refusal_147 rfl 0 rfl ?_
      refine r_aload_n (pc := 148) C dX9_refusal_148 rfl 1 rfl ?_
      refine r_iload_n (pc := 149) C dX9_refusal_149 rfl 2 rfl ?_
      refine r_iconst (pc := 150) C dX9_refusal_150 ki4 ?_
      refine r_isub (pc := 151) C dX9_refusal_151 ?_
      refine r_iload_n (pc := 152) C dX9_refusal_152 rfl 3 rfl ?_
      obtain ⟨r_22, hc_21, hr⟩ := gBind_some hr
      refine c_X9_refusalOfRule (pc := 153) C dX9_refusal_153 q985 ⟨Nat.le_of_ble_eq_true rfl, Nat.le_of_ble_eq_true rfl⟩ h1 hc_21 (Nat.le_of_ble_eq_true rfl) ?_
      exact r_iret (pc := 156) CR dX9_refusal_156 (congrArg (fun z => some (Value.int z)) (gSome hr)) rfl
    replace hr := (if_neg c_2_6).symm.trans hr
    by_cases c_2_7 : p2 = 7
    · replace hr := (if_pos c_2_7).symm.trans hr
      refine r_tableIn (pc := 13) (tgt := 147) (off := 134) C dX9_refusal_13 7 c_2_7 (by decide) rfl ?_
      refine r_aload_n (pc := 147) C dX9_refusal_147 rfl 0 rfl ?_
      refine r_aload_n (pc := 148) C dX9_refusal_148 rfl 1 rfl ?_
      refine r_iload_n (pc := 149) C dX9_refusal_149 rfl 2 rfl ?_
      refine r_iconst (pc := 150) C dX9_refusal_150 ki4 ?_
      refine r_isub (pc := 151) C dX9_refusal_151 ?_
      refine r_iload_n (pc := 152) C dX9_refusal_152 rfl 3 rfl ?_
      obtain ⟨r_24, hc_23, hr⟩ := gBind_some hr
      refine c_X9_refusalOfRule (pc := 153) C dX9_refusal_153 q985 ⟨Nat.le_of_ble_eq_true rfl, Nat.le_of_ble_eq_true rfl⟩ h1 hc_23 (Nat.le_of_ble_eq_true rfl) ?_
      exact r_iret (pc := 156) CR dX9_refusal_156 (congrArg (fun z => some (Value.int z)) (gSome hr)) rfl
    replace hr := (if_neg c_2_7).symm.trans hr
    by_cases c_2_8 : p2 = 8
    · replace hr := (if_pos c_2_8).symm.trans hr
      refine r_tableIn (pc := 13) (tgt := 134) (off := 121) C dX9_refusal_13 8 c_2_8 (by decide) rfl ?_
      refine r_aload_n (pc := 134) C dX9_refusal_134 rfl 0 rfl ?_
      refine r_aload_n (pc := 135) C dX9_refusal_135 rfl 1 rfl ?_
      refine r_iload_n (pc := 136) C dX9_refusal_136 rfl 3 rfl ?_
      refine r_iload (pc := 137) C dX9_refusal_137 4 rfl ?_
      refine r_iload (pc := 139) C dX9_refusal_139 5 rfl ?_
      refine r_iload (pc := 141) C dX9_refusal_141 6 rfl ?_
      obtain ⟨r_26, hc_25, hr⟩ := gBind_some hr
      refine c_X9_refusalOfMove (pc := 143) C dX9_refusal_143 q973 ⟨Nat.le_of_ble_eq_true rfl, Nat.le_of_ble_eq_true rfl⟩ h1 hc_25 (Nat.le_of_ble_eq_true rfl) ?_
      exact r_iret (pc := 146) CR dX9_refusal_146 (congrArg (fun z => some (Value.int z)) (gSome hr)) rfl
    replace hr := (if_neg c_2_8).symm.trans hr
    refine r_tableOut (pc := 13) (tgt := 147) C dX9_refusal_13 (fun k h1 h2 => ?_) rfl ?_
    · rcases (show k = 0 ∨ k = 1 ∨ k = 2 ∨ k = 3 ∨ k = 4 ∨ k = 5 ∨ k = 6 ∨ k = 7 ∨ k = 8 by omega) with rfl | rfl | rfl | rfl | rfl | rfl | rfl | rfl | rfl
      all_goals assumption
    · refine r_aload_n (pc := 147) C dX9_refusal_147 rfl 0 rfl ?_
      refine r_aload_n (pc := 148) C dX9_refusal_148 rfl 1 rfl ?_
      refine r_iload_n (pc := 149) C dX9_refusal_149 rfl 2 rfl ?_
      refine r_iconst (pc := 150) C dX9_refusal_150 ki4 ?_
      refine r_isub (pc := 151) C dX9_refusal_151 ?_
      refine r_iload_n (pc := 152) C dX9_refusal_152 rfl 3 rfl ?_
      obtain ⟨r_28, hc_27, hr⟩ := gBind_some hr
      refine c_X9_refusalOfRule (pc := 153) C dX9_refusal_153 q985 ⟨Nat.le_of_ble_eq_true rfl, Nat.le_of_ble_eq_true rfl⟩ h1 hc_27 (Nat.le_of_ble_eq_true rfl) ?_
      exact r_iret (pc := 156) CR dX9_refusal_156 (congrArg (fun z => some (Value.int z)) (gSome hr)) rfl
  · replace hr := (if_pos c_1).symm.trans hr
    refine r_iconst (pc := 10) C dX9_refusal_10 ki0 ?_
    exact r_iret (pc := 11) CR dX9_refusal_11 (congrArg (fun z => some (Value.int z)) (gSome hr)) rfl
theorem c_X9_refusal {Ψ : gM → Nat → List (Nat × Value) → List Value → Prop} {G : gG5} {nf : Nat} {cc : ByteArray} {own : String} {nL : Nat} {ret : Option FieldType} {fr lo : Nat} {v0 : Option Value} {M0 M : gM} {pc index : Nat} {ls : List (Nat × Value)} {st : List Value} (C : gC Ψ G (gXn nf) cc own nL ret fr lo v0 M0) (d : decode cc pc = .ok (.invokevirtual index, 3)) (hl : Cond.methodLink own index yX9_refusal ∈ gws) (hR : 3 ≤ fr ∧ 77 ≤ lo) {i1 : Nat} {p2 : Int32} {p3 : Int32} {p4 : Int32} {p5 : Int32} {p6 : Int32} (h1 : i1 < nf + 3) {r : Int32} (hr : X9_refusal i1 p2 p3 p4 p5 p6 M = some r) (hcat : (st.map fun v => v.category).sum ≤ 8) (k : Ψ M (pc + 3) ls (.int r :: st)) : Ψ M pc ls (.int p6 :: .int p5 :: .int p4 :: .int p3 :: .int p2 :: .ref (gad 33 i1) :: .ref (gad 17 0) :: st) := r_callV C [.ref (gad 33 i1), .int p2, .int p3, .int p4, .int p5, .int p6] st d (k_X9_refusal h1 hr) hl q963 q964 q121 q965 hd_X9_refusal hR rfl (by decide) (e17 nf) rfl hcat k
theorem hd_X0_copyFrom : yX0_copyFrom.cls ≠ "java/lang/invoke/MethodHandle" ∧ yX0_copyFrom.cls ≠ "java/lang/invoke/VarHandle" ∧ (parseMethodDescriptor yX0_copyFrom.desc).map (fun d => d.parameters.length) = some 1 := by decide +kernel
noncomputable def X0_copyFrom (i0 : Nat) (i1 : Nat) (M : gM) : Option gM := gLet (cpI M 34 i1 34 i0 256) (fun M_1 => gLet (cpI M_1 35 i1 35 i0 256) (fun M_2 => gLet (cpI M_2 36 i1 36 i0 256) (fun M_3 => gLet (cpI M_3 37 i1 37 i0 160) (fun M_4 => gLet (cpI M_4 38 i1 38 i0 16) (fun M_5 => gLet (cpI M_5 39 i1 39 i0 60) (fun M_6 => gLet (cpI M_6 40 i1 40 i0 4) (fun M_7 => gLet (cpL M_7 41 i1 41 i0 10) (fun M_8 => gLet (cpI M_8 42 i1 42 i0 180) (fun M_9 => gLet (wI M_9 33 i0 9 (M_9.1 33 i1 9)) (fun M_10 => gLet (wI M_10 33 i0 10 (M_10.1 33 i1 10)) (fun M_11 => gLet (wI M_11 33 i0 11 (M_11.1 33 i1 11)) (fun M_12 => gLet (wI M_12 33 i0 12 (M_12.1 33 i1 12)) (fun M_13 => some M_13)))))))))))))
theorem k_X0_copyFrom {G : gG5} {nf : Nat} {M : gM} {i0 : Nat} {i1 : Nat} (h0 : i0 < nf + 3) (h1 : i1 < nf + 3) {M1 : gM} (hr : X0_copyFrom i0 i1 M = some M1) : gMet G (gXn nf) yX0_copyFrom cX0_copyFrom 2 none 2 64 M [.ref (gad 33 i0), .ref (gad 33 i1)] none M1 := by
  refine gMet_of pl_X0 rfl (Nat.le_of_ble_eq_true rfl) (fun Ψ C CR => ?_)
  show Ψ M 0 [(0, .ref (gad 33 i0)), (1, .ref (gad 33 i1))] []
  refine r_aload_n (pc := 0) C dX0_copyFrom_0 rfl 1 rfl ?_
  refine g33_0 (pc := 1) C dX0_copyFrom_1 q400 (e33 (nf := nf) h1) ?_
  refine r_iconst (pc := 4) C dX0_copyFrom_4 ki0 ?_
  refine r_aload_n (pc := 5) C dX0_copyFrom_5 rfl 0 rfl ?_
  refine g33_0 (pc := 6) C dX0_copyFrom_6 q400 (e33 (nf := nf) h0) ?_
  refine r_iconst (pc := 9) C dX0_copyFrom_9 ki0 ?_
  refine r_aload_n (pc := 10) C dX0_copyFrom_10 rfl 0 rfl ?_
  refine g33_0 (pc := 11) C dX0_copyFrom_11 q400 (e33 (nf := nf) h0) ?_
  refine r_alen (pc := 14) (n := 256) C dX0_copyFrom_14 (by decide) (e34 (nf := nf) h0) rfl ?_
  obtain ⟨M_1, eM_1, hr⟩ := gLet_some hr
  refine r_copyI (pc := 15) (n := 256) C dX0_copyFrom_15 q785 rfl rfl (e34 (nf := nf) h1) (e34 (nf := nf) h0) ⟨rfl, rfl, by decide, by decide⟩ ⟨Nat.le_of_ble_eq_true rfl, Nat.le_of_ble_eq_true rfl⟩ eM_1 (by decide) (Nat.le_of_ble_eq_true rfl) ?_
  refine r_aload_n (pc := 18) C dX0_copyFrom_18 rfl 1 rfl ?_
  refine g33_1 (pc := 19) C dX0_copyFrom_19 q404 (e33 (nf := nf) h1) ?_
  refine r_iconst (pc := 22) C dX0_copyFrom_22 ki0 ?_
  refine r_aload_n (pc := 23) C dX0_copyFrom_23 rfl 0 rfl ?_
  refine g33_1 (pc := 24) C dX0_copyFrom_24 q404 (e33 (nf := nf) h0) ?_
  refine r_iconst (pc := 27) C dX0_copyFrom_27 ki0 ?_
  refine r_aload_n (pc := 28) C dX0_copyFrom_28 rfl 0 rfl ?_
  refine g33_1 (pc := 29) C dX0_copyFrom_29 q404 (e33 (nf := nf) h0) ?_
  refine r_alen (pc := 32) (n := 256) C dX0_copyFrom_32 (by decide) (e35 (nf := nf) h0) rfl ?_
  obtain ⟨M_2, eM_2, hr⟩ := gLet_some hr
  refine r_copyI (pc := 33) (n := 256) C dX0_copyFrom_33 q785 rfl rfl (e35 (nf := nf) h1) (e35 (nf := nf) h0) ⟨rfl, rfl, by decide, by decide⟩ ⟨Nat.le_of_ble_eq_true rfl, Nat.le_of_ble_eq_true rfl⟩ eM_2 (by decide) (Nat.le_of_ble_eq_true rfl) ?_
  refine r_aload_n (pc := 36) C dX0_copyFrom_36 rfl 1 rfl ?_
  refine g33_2 (pc := 37) C dX0_copyFrom_37 q408 (e33 (nf := nf) h1) ?_
  refine r_iconst (pc := 40) C dX0_copyFrom_40 ki0 ?_
  refine r_aload_n (pc := 41) C dX0_copyFrom_41 rfl 0 rfl ?_
  refine g33_2 (pc := 42) C dX0_copyFrom_42 q408 (e33 (nf := nf) h0) ?_
  refine r_iconst (pc := 45) C dX0_copyFrom_45 ki0 ?_
  refine r_aload_n (pc := 46) C dX0_copyFrom_46 rfl 0 rfl ?_
  refine g33_2 (pc := 47) C dX0_copyFrom_47 q408 (e33 (nf := nf) h0) ?_
  refine r_alen (pc := 50) (n := 256) C dX0_copyFrom_50 (by decide) (e36 (nf := nf) h0) rfl ?_
  obtain ⟨M_3, eM_3, hr⟩ := gLet_some hr
  refine r_copyI (pc := 51) (n := 256) C dX0_copyFrom_51 q785 rfl rfl (e36 (nf := nf) h1) (e36 (nf := nf) h0) ⟨rfl, rfl, by decide, by decide⟩ ⟨Nat.le_of_ble_eq_true rfl, Nat.le_of_ble_eq_true rfl⟩ eM_3 (by decide) (Nat.le_of_ble_eq_true rfl) ?_
  refine r_aload_n (pc := 54) C dX0_copyFrom_54 rfl 1 rfl ?_
  refine g33_3 (pc := 55) C dX0_copyFrom_55 q412 (e33 (nf := nf) h1) ?_
  refine r_iconst (pc := 58) C dX0_copyFrom_58 ki0 ?_
  refine r_aload_n (pc := 59) C dX0_copyFrom_59 rfl 0 rfl ?_
  refine g33_3 (pc := 60) C dX0_copyFrom_60 q412 (e33 (nf := nf) h0) ?_
  refine r_iconst (pc := 63) C dX0_copyFrom_63 ki0 ?_
  refine r_aload_n (pc := 64) C dX0_copyFrom_64 rfl 0 rfl ?_
  refine g33_3 (pc := 65) C dX0_copyFrom_65 q412 (e33 (nf := nf) h0) ?_
  refine r_alen (pc := 68) (n := 160) C dX0_copyFrom_68 (by decide) (e37 (nf := nf) h0) rfl ?_
  obtain ⟨M_4, eM_4, hr⟩ := gLet_some hr
  refine r_copyI (pc := 69) (n := 160) C dX0_copyFrom_69 q785 rfl rfl (e37 (nf := nf) h1) (e37 (nf := nf) h0) ⟨rfl, rfl, by decide, by decide⟩ ⟨Nat.le_of_ble_eq_true rfl, Nat.le_of_ble_eq_true rfl⟩ eM_4 (by decide) (Nat.le_of_ble_eq_true rfl) ?_
  refine r_aload_n (pc := 72) C dX0_copyFrom_72 rfl 1 rfl ?_
  refine g33_4 (pc := 73) C dX0_copyFrom_73 q415 (e33 (nf := nf) h1) ?_
  refine r_iconst (pc := 76) C dX0_copyFrom_76 ki0 ?_
  refine r_aload_n (pc := 77) C dX0_copyFrom_77 rfl 0 rfl ?_
  refine g33_4 (pc := 78) C dX0_copyFrom_78 q415 (e33 (nf := nf) h0) ?_
  refine r_iconst (pc := 81) C dX0_copyFrom_81 ki0 ?_
  refine r_aload_n (pc := 82) C dX0_copyFrom_82 rfl 0 rfl ?_
  refine g33_4 (pc := 83) C dX0_copyFrom_83 q415 (e33 (nf := nf) h0) ?_
  refine r_alen (pc := 86) (n := 16) C dX0_copyFrom_86 (by decide) (e38 (nf := nf) h0) rfl ?_
  obtain ⟨M_5, eM_5, hr⟩ := gLet_some hr
  refine r_copyI (pc := 87) (n := 16) C dX0_copyFrom_87 q785 rfl rfl (e38 (nf := nf) h1) (e38 (nf := nf) h0) ⟨rfl, rfl, by decide, by decide⟩ ⟨Nat.le_of_ble_eq_true rfl, Nat.le_of_ble_eq_true rfl⟩ eM_5 (by decide) (Nat.le_of_ble_eq_true rfl) ?_
  refine r_aload_n (pc := 90) C dX0_copyFrom_90 rfl 1 rfl ?_
  refine g33_5 (pc := 91) C dX0_copyFrom_91 q418 (e33 (nf := nf) h1) ?_
  refine r_iconst (pc := 94) C dX0_copyFrom_94 ki0 ?_
  refine r_aload_n (pc := 95) C dX0_copyFrom_95 rfl 0 rfl ?_
  refine g33_5 (pc := 96) C dX0_copyFrom_96 q418 (e33 (nf := nf) h0) ?_
  refine r_iconst (pc := 99) C dX0_copyFrom_99 ki0 ?_
  refine r_aload_n (pc := 100) C dX0_copyFrom_100 rfl 0 rfl ?_
  refine g33_5 (pc := 101) C dX0_copyFrom_101 q418 (e33 (nf := nf) h0) ?_
  refine r_alen (pc := 104) (n := 60) C dX0_copyFrom_104 (by decide) (e39 (nf := nf) h0) rfl ?_
  obtain ⟨M_6, eM_6, hr⟩ := gLet_some hr
  refine r_copyI (pc := 105) (n := 60) C dX0_copyFrom_105 q785 rfl rfl (e39 (nf := nf) h1) (e39 (nf := nf) h0) ⟨rfl, rfl, by decide, by decide⟩ ⟨Nat.le_of_ble_eq_true rfl, Nat.le_of_ble_eq_true rfl⟩ eM_6 (by decide) (Nat.le_of_ble_eq_true rfl) ?_
  refine r_aload_n (pc := 108) C dX0_copyFrom_108 rfl 1 rfl ?_
  refine g33_6 (pc := 109) C dX0_copyFrom_109 q421 (e33 (nf := nf) h1) ?_
  refine r_iconst (pc := 112) C dX0_copyFrom_112 ki0 ?_
  refine r_aload_n (pc := 113) C dX0_copyFrom_113 rfl 0 rfl ?_
  refine g33_6 (pc := 114) C dX0_copyFrom_114 q421 (e33 (nf := nf) h0) ?_
  refine r_iconst (pc := 117) C dX0_copyFrom_117 ki0 ?_
  refine r_aload_n (pc := 118) C dX0_copyFrom_118 rfl 0 rfl ?_
  refine g33_6 (pc := 119) C dX0_copyFrom_119 q421 (e33 (nf := nf) h0) ?_
  refine r_alen (pc := 122) (n := 4) C dX0_copyFrom_122 (by decide) (e40 (nf := nf) h0) rfl ?_
  obtain ⟨M_7, eM_7, hr⟩ := gLet_some hr
  refine r_copyI (pc := 123) (n := 4) C dX0_copyFrom_123 q785 rfl rfl (e40 (nf := nf) h1) (e40 (nf := nf) h0) ⟨rfl, rfl, by decide, by decide⟩ ⟨Nat.le_of_ble_eq_true rfl, Nat.le_of_ble_eq_true rfl⟩ eM_7 (by decide) (Nat.le_of_ble_eq_true rfl) ?_
  refine r_aload_n (pc := 126) C dX0_copyFrom_126 rfl 1 rfl ?_
  refine g33_7 (pc := 127) C dX0_copyFrom_127 q425 (e33 (nf := nf) h1) ?_
  refine r_iconst (pc := 130) C dX0_copyFrom_130 ki0 ?_
  refine r_aload_n (pc := 131) C dX0_copyFrom_131 rfl 0 rfl ?_
  refine g33_7 (pc := 132) C dX0_copyFrom_132 q425 (e33 (nf := nf) h0) ?_
  refine r_iconst (pc := 135) C dX0_copyFrom_135 ki0 ?_
  refine r_aload_n (pc := 136) C dX0_copyFrom_136 rfl 0 rfl ?_
  refine g33_7 (pc := 137) C dX0_copyFrom_137 q425 (e33 (nf := nf) h0) ?_
  refine r_alen (pc := 140) (n := 10) C dX0_copyFrom_140 (by decide) (e41 (nf := nf) h0) rfl ?_
  obtain ⟨M_8, eM_8, hr⟩ := gLet_some hr
  refine r_copyL (pc := 141) (n := 10) C dX0_copyFrom_141 q785 rfl rfl (e41 (nf := nf) h1) (e41 (nf := nf) h0) ⟨rfl, rfl, by decide, by decide⟩ ⟨Nat.le_of_ble_eq_true rfl, Nat.le_of_ble_eq_true rfl⟩ eM_8 (by decide) (Nat.le_of_ble_eq_true rfl) ?_
  refine r_aload_n (pc := 144) C dX0_copyFrom_144 rfl 1 rfl ?_
  refine g33_8 (pc := 145) C dX0_copyFrom_145 q429 (e33 (nf := nf) h1) ?_
  refine r_iconst (pc := 148) C dX0_copyFrom_148 ki0 ?_
  refine r_aload_n (pc := 149) C dX0_copyFrom_149 rfl 0 rfl ?_
  refine g33_8 (pc := 150) C dX0_copyFrom_150 q429 (e33 (nf := nf) h0) ?_
  refine r_iconst (pc := 153) C dX0_copyFrom_153 ki0 ?_
  refine r_aload_n (pc := 154) C dX0_copyFrom_154 rfl 0 rfl ?_
  refine g33_8 (pc := 155) C dX0_copyFrom_155 q429 (e33 (nf := nf) h0) ?_
  refine r_alen (pc := 158) (n := 180) C dX0_copyFrom_158 (by decide) (e42 (nf := nf) h0) rfl ?_
  obtain ⟨M_9, eM_9, hr⟩ := gLet_some hr
  refine r_copyI (pc := 159) (n := 180) C dX0_copyFrom_159 q785 rfl rfl (e42 (nf := nf) h1) (e42 (nf := nf) h0) ⟨rfl, rfl, by decide, by decide⟩ ⟨Nat.le_of_ble_eq_true rfl, Nat.le_of_ble_eq_true rfl⟩ eM_9 (by decide) (Nat.le_of_ble_eq_true rfl) ?_
  refine r_aload_n (pc := 162) C dX0_copyFrom_162 rfl 0 rfl ?_
  refine r_aload_n (pc := 163) C dX0_copyFrom_163 rfl 1 rfl ?_
  refine g33_9 (pc := 164) C dX0_copyFrom_164 q430 (e33 (nf := nf) h1) ?_
  obtain ⟨M_10, eM_10, hr⟩ := gLet_some hr
  refine p33_9 (pc := 167) C dX0_copyFrom_167 q430 (e33 (nf := nf) h0) eM_10 ?_
  refine r_aload_n (pc := 170) C dX0_copyFrom_170 rfl 0 rfl ?_
  refine r_aload_n (pc := 171) C dX0_copyFrom_171 rfl 1 rfl ?_
  refine g33_10 (pc := 172) C dX0_copyFrom_172 q431 (e33 (nf := nf) h1) ?_
  obtain ⟨M_11, eM_11, hr⟩ := gLet_some hr
  refine p33_10 (pc := 175) C dX0_copyFrom_175 q431 (e33 (nf := nf) h0) eM_11 ?_
  refine r_aload_n (pc := 178) C dX0_copyFrom_178 rfl 0 rfl ?_
  refine r_aload_n (pc := 179) C dX0_copyFrom_179 rfl 1 rfl ?_
  refine g33_11 (pc := 180) C dX0_copyFrom_180 q434 (e33 (nf := nf) h1) ?_
  obtain ⟨M_12, eM_12, hr⟩ := gLet_some hr
  refine p33_11 (pc := 183) C dX0_copyFrom_183 q434 (e33 (nf := nf) h0) eM_12 ?_
  refine r_aload_n (pc := 186) C dX0_copyFrom_186 rfl 0 rfl ?_
  refine r_aload_n (pc := 187) C dX0_copyFrom_187 rfl 1 rfl ?_
  refine g33_12 (pc := 188) C dX0_copyFrom_188 q437 (e33 (nf := nf) h1) ?_
  obtain ⟨M_13, eM_13, hr⟩ := gLet_some hr
  refine p33_12 (pc := 191) C dX0_copyFrom_191 q437 (e33 (nf := nf) h0) eM_13 ?_
  exact r_vret (pc := 194) CR dX0_copyFrom_194 rfl (gSome hr)
theorem c_X0_copyFrom {Ψ : gM → Nat → List (Nat × Value) → List Value → Prop} {G : gG5} {nf : Nat} {cc : ByteArray} {own : String} {nL : Nat} {ret : Option FieldType} {fr lo : Nat} {v0 : Option Value} {M0 M : gM} {pc index : Nat} {ls : List (Nat × Value)} {st : List Value} (C : gC Ψ G (gXn nf) cc own nL ret fr lo v0 M0) (d : decode cc pc = .ok (.invokevirtual index, 3)) (hl : Cond.methodLink own index yX0_copyFrom ∈ gws) (hR : 3 ≤ fr ∧ 85 ≤ lo) {i0 : Nat} {i1 : Nat} (h0 : i0 < nf + 3) (h1 : i1 < nf + 3) {M1 : gM} (hr : X0_copyFrom i0 i1 M = some M1) (hcat : (st.map fun v => v.category).sum ≤ 8) (k : Ψ M1 (pc + 3) ls (st)) : Ψ M pc ls (.ref (gad 33 i1) :: .ref (gad 33 i0) :: st) := r_callV C [.ref (gad 33 i1)] st d (k_X0_copyFrom h0 h1 hr) hl q999 q1000 q124 q1001 hd_X0_copyFrom hR rfl (by decide) (e33 (nf := nf) h0) rfl hcat k
theorem hd_X9_isBehind : yX9_isBehind.cls ≠ "java/lang/invoke/MethodHandle" ∧ yX9_isBehind.cls ≠ "java/lang/invoke/VarHandle" ∧ (parseMethodDescriptor yX9_isBehind.desc).map (fun d => d.parameters.length) = some 3 := by decide +kernel
noncomputable def X9_isBehind (i1 : Nat) (p2 : Int32) (p3 : Int32) (M : gM) : Option Int32 := gG (gin p2 10) ((X1_farOf i1 p3 M).bind (fun r_3 => (if (M.1 19 (Int32.toNatClampNeg p2) 3) < (r_3 + (M.1 40 i1 1)) then some 0 else some 1)))
theorem k_X9_isBehind {G : gG5} {nf : Nat} {M : gM} {i1 : Nat} {p2 : Int32} {p3 : Int32} (h1 : i1 < nf + 3) {r : Int32} (hr : X9_isBehind i1 p2 p3 M = some r) : gMet G (gXn nf) yX9_isBehind cX9_isBehind 4 (some .boolean) 1 25 M [.ref (gad 17 0), .ref (gad 33 i1), .int p2, .int p3] (some (.int r)) M := by
  refine gMet_of pl_X9 rfl (Nat.le_of_ble_eq_true rfl) (fun Ψ C CR => ?_)
  show Ψ M 0 [(0, .ref (gad 17 0)), (1, .ref (gad 33 i1)), (2, .int p2), (3, .int p3)] []
  refine r_aload_n (pc := 0) C dX9_isBehind_0 rfl 0 rfl ?_
  refine g17_2 (pc := 1) C dX9_isBehind_1 q378 (e17 nf) ?_
  refine r_iload_n (pc := 4) C dX9_isBehind_4 rfl 2 rfl ?_
  obtain ⟨g_1, hr⟩ := gG_some hr
  refine a18 (pc := 5) C dX9_isBehind_5 g_1 ?_
  refine g19_3 (pc := 6) C dX9_isBehind_6 q334 (e19 (nf := nf) (gin_lt g_1)) ?_
  refine r_aload_n (pc := 9) C dX9_isBehind_9 rfl 0 rfl ?_
  refine g17_1 (pc := 10) C dX9_isBehind_10 q377 (e17 nf) ?_
  refine r_aload_n (pc := 13) C dX9_isBehind_13 rfl 1 rfl ?_
  refine r_iload_n (pc := 14) C dX9_isBehind_14 rfl 3 rfl ?_
  obtain ⟨r_3, hc_2, hr⟩ := gBind_some hr
  refine c_X1_farOf (pc := 15) C dX9_isBehind_15 q1020 ⟨Nat.le_of_ble_eq_true rfl, Nat.le_of_ble_eq_true rfl⟩ h1 hc_2 (Nat.le_of_ble_eq_true rfl) ?_
  refine r_aload_n (pc := 18) C dX9_isBehind_18 rfl 1 rfl ?_
  refine g33_6 (pc := 19) C dX9_isBehind_19 q423 (e33 (nf := nf) h1) ?_
  refine r_iconst (pc := 22) C dX9_isBehind_22 ki1 ?_
  refine r_ialdN (pc := 23) C dX9_isBehind_23 rfl (e40 (nf := nf) h1) (by decide : gin 1 4 = true) kc1 ?_
  refine r_iadd (pc := 24) C dX9_isBehind_24 ?_
  refine r_icmp_lt (pc := 25) (tgt := 32) C dX9_isBehind_25 rfl (fun c_4 => ?_) (fun c_4 => ?_)
  · replace hr := (if_pos c_4).symm.trans hr
    refine r_iconst (pc := 32) C dX9_isBehind_32 ki0 ?_
    exact r_zret (pc := 33) CR dX9_isBehind_33 rfl (congrArg (fun z => some (Value.int z)) (gSome hr)) rfl
  · replace hr := (if_neg c_4).symm.trans hr
    refine r_iconst (pc := 28) C dX9_isBehind_28 ki1 ?_
    refine r_goto (pc := 29) (tgt := 33) C dX9_isBehind_29 rfl ?_
    exact r_zret (pc := 33) CR dX9_isBehind_33 rfl (congrArg (fun z => some (Value.int z)) (gSome hr)) rfl
theorem c_X9_isBehind {Ψ : gM → Nat → List (Nat × Value) → List Value → Prop} {G : gG5} {nf : Nat} {cc : ByteArray} {own : String} {nL : Nat} {ret : Option FieldType} {fr lo : Nat} {v0 : Option Value} {M0 M : gM} {pc index : Nat} {ls : List (Nat × Value)} {st : List Value} (C : gC Ψ G (gXn nf) cc own nL ret fr lo v0 M0) (d : decode cc pc = .ok (.invokevirtual index, 3)) (hl : Cond.methodLink own index yX9_isBehind ∈ gws) (hR : 2 ≤ fr ∧ 48 ≤ lo) {i1 : Nat} {p2 : Int32} {p3 : Int32} (h1 : i1 < nf + 3) {r : Int32} (hr : X9_isBehind i1 p2 p3 M = some r) (hcat : (st.map fun v => v.category).sum ≤ 8) (k : Ψ M (pc + 3) ls (.int r :: st)) : Ψ M pc ls (.int p3 :: .int p2 :: .ref (gad 33 i1) :: .ref (gad 17 0) :: st) := r_callV C [.ref (gad 33 i1), .int p2, .int p3] st d (k_X9_isBehind h1 hr) hl q1018 q22 q121 q1019 hd_X9_isBehind hR rfl (by decide) (e17 nf) rfl hcat k
theorem hd_X9_passes : yX9_passes.cls ≠ "java/lang/invoke/MethodHandle" ∧ yX9_passes.cls ≠ "java/lang/invoke/VarHandle" ∧ (parseMethodDescriptor yX9_passes.desc).map (fun d => d.parameters.length) = some 3 := by decide +kernel
noncomputable def X9_passes (i1 : Nat) (p2 : Int32) (p3 : Int32) (M : gM) : Option (Int32 × gM) := (if 0 ≤ p2 then gLet (wI M 33 i1 11 ((M.1 33 i1 11) + 1)) (fun M_2 => gG (gin p3 256) ((if ((M_2.1 34 i1 (Int32.toNatClampNeg p3)) + (M_2.1 40 i1 1)) ≤ p2 then some (0, M_2) else some (1, M_2)))) else some (0, M))
theorem k_X9_passes {G : gG5} {nf : Nat} {M : gM} {i1 : Nat} {p2 : Int32} {p3 : Int32} (h1 : i1 < nf + 3) {r : Int32} {M1 : gM} (hr : X9_passes i1 p2 p3 M = some (r, M1)) : gMet G (gXn nf) yX9_passes cX9_passes 4 (some .boolean) 0 0 M [.ref (gad 17 0), .ref (gad 33 i1), .int p2, .int p3] (some (.int r)) M1 := by
  refine gMet_of pl_X9 rfl (Nat.le_of_ble_eq_true rfl) (fun Ψ C CR => ?_)
  show Ψ M 0 [(0, .ref (gad 17 0)), (1, .ref (gad 33 i1)), (2, .int p2), (3, .int p3)] []
  refine r_iload_n (pc := 0) C dX9_passes_0 rfl 2 rfl ?_
  refine r_if_ge (pc := 1) (tgt := 6) C dX9_passes_1 rfl (fun c_1 => ?_) (fun c_1 => ?_)
  · replace hr := (if_pos c_1).symm.trans hr
    refine r_aload_n (pc := 6) C dX9_passes_6 rfl 1 rfl ?_
    refine r_dup (pc := 7) C dX9_passes_7 rfl ?_
    refine g33_11 (pc := 8) C dX9_passes_8 q435 (e33 (nf := nf) h1) ?_
    refine r_iconst (pc := 11) C dX9_passes_11 ki1 ?_
    refine r_iadd (pc := 12) C dX9_passes_12 ?_
    obtain ⟨M_2, eM_2, hr⟩ := gLet_some hr
    refine p33_11 (pc := 13) C dX9_passes_13 q435 (e33 (nf := nf) h1) eM_2 ?_
    refine r_iload_n (pc := 16) C dX9_passes_16 rfl 2 rfl ?_
    refine r_aload_n (pc := 17) C dX9_passes_17 rfl 1 rfl ?_
    refine g33_0 (pc := 18) C dX9_passes_18 q403 (e33 (nf := nf) h1) ?_
    refine r_iload_n (pc := 21) C dX9_passes_21 rfl 3 rfl ?_
    obtain ⟨g_3, hr⟩ := gG_some hr
    refine r_ialdN (pc := 22) C dX9_passes_22 rfl (e34 (nf := nf) h1) g_3 rfl ?_
    refine r_aload_n (pc := 23) C dX9_passes_23 rfl 1 rfl ?_
    refine g33_6 (pc := 24) C dX9_passes_24 q423 (e33 (nf := nf) h1) ?_
    refine r_iconst (pc := 27) C dX9_passes_27 ki1 ?_
    refine r_ialdN (pc := 28) C dX9_passes_28 rfl (e40 (nf := nf) h1) (by decide : gin 1 4 = true) kc1 ?_
    refine r_iadd (pc := 29) C dX9_passes_29 ?_
    refine r_icmp_ge (pc := 30) (tgt := 37) C dX9_passes_30 rfl (fun c_4 => ?_) (fun c_4 => ?_)
    · replace hr := (if_pos c_4).symm.trans hr
      refine r_iconst (pc := 37) C dX9_passes_37 ki0 ?_
      exact r_zret (pc := 38) CR dX9_passes_38 rfl (congrArg (fun z => some (Value.int z)) (Prod.mk.inj (gSome hr)).1) (Prod.mk.inj (gSome hr)).2
    · replace hr := (if_neg c_4).symm.trans hr
      refine r_iconst (pc := 33) C dX9_passes_33 ki1 ?_
      refine r_goto (pc := 34) (tgt := 38) C dX9_passes_34 rfl ?_
      exact r_zret (pc := 38) CR dX9_passes_38 rfl (congrArg (fun z => some (Value.int z)) (Prod.mk.inj (gSome hr)).1) (Prod.mk.inj (gSome hr)).2
  · replace hr := (if_neg c_1).symm.trans hr
    refine r_iconst (pc := 4) C dX9_passes_4 ki0 ?_
    exact r_zret (pc := 5) CR dX9_passes_5 rfl (congrArg (fun z => some (Value.int z)) (Prod.mk.inj (gSome hr)).1) (Prod.mk.inj (gSome hr)).2
theorem c_X9_passes {Ψ : gM → Nat → List (Nat × Value) → List Value → Prop} {G : gG5} {nf : Nat} {cc : ByteArray} {own : String} {nL : Nat} {ret : Option FieldType} {fr lo : Nat} {v0 : Option Value} {M0 M : gM} {pc index : Nat} {ls : List (Nat × Value)} {st : List Value} (C : gC Ψ G (gXn nf) cc own nL ret fr lo v0 M0) (d : decode cc pc = .ok (.invokevirtual index, 3)) (hl : Cond.methodLink own index yX9_passes ∈ gws) (hR : 1 ≤ fr ∧ 23 ≤ lo) {i1 : Nat} {p2 : Int32} {p3 : Int32} (h1 : i1 < nf + 3) {r : Int32} {M1 : gM} (hr : X9_passes i1 p2 p3 M = some (r, M1)) (hcat : (st.map fun v => v.category).sum ≤ 8) (k : Ψ M1 (pc + 3) ls (.int r :: st)) : Ψ M pc ls (.int p3 :: .int p2 :: .ref (gad 33 i1) :: .ref (gad 17 0) :: st) := r_callV C [.ref (gad 33 i1), .int p2, .int p3] st d (k_X9_passes h1 hr) hl q1027 q24 q121 q1028 hd_X9_passes hR rfl (by decide) (e17 nf) rfl hcat k
theorem hd_X9_shadePending : yX9_shadePending.cls ≠ "java/lang/invoke/MethodHandle" ∧ yX9_shadePending.cls ≠ "java/lang/invoke/VarHandle" ∧ (parseMethodDescriptor yX9_shadePending.desc).map (fun d => d.parameters.length) = some 2 := by decide +kernel
noncomputable def X9_shadePending (i1 : Nat) (p2 : Int32) (M : gM) : Option gM := gG (gin p2 256) (gLet ((M.1 36 i1 (Int32.toNatClampNeg p2))) (fun x3_2 => (if x3_2 < 0 then gG (gin p2 256) (gLet (wI M 36 i1 (Int32.toNatClampNeg p2) (-1)) (fun M_5 => some M_5)) else (if 10 ≤ x3_2 then gG (gin p2 256) (gLet (wI M 36 i1 (Int32.toNatClampNeg p2) (-1)) (fun M_8 => some M_8)) else gG (gin x3_2 10) (gG (gin (p2 / 4) 64) (gG (gin p2 256) (gLet (wI M 35 i1 (Int32.toNatClampNeg p2) (M.1 27 (Int32.toNatClampNeg x3_2) (Int32.toNatClampNeg (p2 / 4)))) (fun M_12 => gG (gin x3_2 10) (gG (gin x3_2 10) (gLet (wL M_12 41 i1 (Int32.toNatClampNeg x3_2) ((M_12.2 41 i1 (Int32.toNatClampNeg x3_2)) ||| (1 <<< (Int32.toInt64 (p2 / 4) &&& 63)))) (fun M_15 => gG (gin p2 256) (gLet (wI M_15 36 i1 (Int32.toNatClampNeg p2) (-1)) (fun M_17 => some M_17)))))))))))))
theorem k_X9_shadePending {G : gG5} {nf : Nat} {M : gM} {i1 : Nat} {p2 : Int32} (h1 : i1 < nf + 3) {M1 : gM} (hr : X9_shadePending i1 p2 M = some M1) : gMet G (gXn nf) yX9_shadePending cX9_shadePending 4 none 0 0 M [.ref (gad 17 0), .ref (gad 33 i1), .int p2] none M1 := by
  refine gMet_of pl_X9 rfl (Nat.le_of_ble_eq_true rfl) (fun Ψ C CR => ?_)
  show Ψ M 0 [(0, .ref (gad 17 0)), (1, .ref (gad 33 i1)), (2, .int p2)] []
  refine r_aload_n (pc := 0) C dX9_shadePending_0 rfl 1 rfl ?_
  refine g33_2 (pc := 1) C dX9_shadePending_1 q411 (e33 (nf := nf) h1) ?_
  refine r_iload_n (pc := 4) C dX9_shadePending_4 rfl 2 rfl ?_
  obtain ⟨g_1, hr⟩ := gG_some hr
  refine r_ialdN (pc := 5) C dX9_shadePending_5 rfl (e36 (nf := nf) h1) g_1 rfl ?_
  obtain ⟨x3_2, ex3_2, hr⟩ := gLet_some hr
  refine r_istore_n (pc := 6) C dX9_shadePending_6 rfl (by decide) ex3_2 (ls' := [(3, .int x3_2), (0, .ref (gad 17 0)), (1, .ref (gad 33 i1)), (2, .int p2)]) rfl ?_
  refine r_iload_n (pc := 7) C dX9_shadePending_7 rfl 0 rfl ?_
  refine r_if_lt (pc := 8) (tgt := 50) C dX9_shadePending_8 rfl (fun c_3 => ?_) (fun c_3 => ?_)
  · replace hr := (if_pos c_3).symm.trans hr
    refine r_aload_n (pc := 50) C dX9_shadePending_50 rfl 2 rfl ?_
    refine g33_2 (pc := 51) C dX9_shadePending_51 q411 (e33 (nf := nf) h1) ?_
    refine r_iload_n (pc := 54) C dX9_shadePending_54 rfl 3 rfl ?_
    refine r_iconst (pc := 55) C dX9_shadePending_55 kim1 ?_
    obtain ⟨g_4, hr⟩ := gG_some hr
    obtain ⟨M_5, eM_5, hr⟩ := gLet_some hr
    refine r_iastN (pc := 56) C dX9_shadePending_56 rfl (e36 (nf := nf) h1) g_4 rfl eM_5 ?_
    exact r_vret (pc := 57) CR dX9_shadePending_57 rfl (gSome hr)
  · replace hr := (if_neg c_3).symm.trans hr
    refine r_iload_n (pc := 11) C dX9_shadePending_11 rfl 0 rfl ?_
    refine r_bipush (pc := 12) C dX9_shadePending_12 kb10 ?_
    refine r_icmp_ge (pc := 14) (tgt := 50) C dX9_shadePending_14 rfl (fun c_6 => ?_) (fun c_6 => ?_)
    · replace hr := (if_pos c_6).symm.trans hr
      refine r_aload_n (pc := 50) C dX9_shadePending_50 rfl 2 rfl ?_
      refine g33_2 (pc := 51) C dX9_shadePending_51 q411 (e33 (nf := nf) h1) ?_
      refine r_iload_n (pc := 54) C dX9_shadePending_54 rfl 3 rfl ?_
      refine r_iconst (pc := 55) C dX9_shadePending_55 kim1 ?_
      obtain ⟨g_7, hr⟩ := gG_some hr
      obtain ⟨M_8, eM_8, hr⟩ := gLet_some hr
      refine r_iastN (pc := 56) C dX9_shadePending_56 rfl (e36 (nf := nf) h1) g_7 rfl eM_8 ?_
      exact r_vret (pc := 57) CR dX9_shadePending_57 rfl (gSome hr)
    · replace hr := (if_neg c_6).symm.trans hr
      refine r_aload_n (pc := 17) C dX9_shadePending_17 rfl 2 rfl ?_
      refine g33_1 (pc := 18) C dX9_shadePending_18 q407 (e33 (nf := nf) h1) ?_
      refine r_iload_n (pc := 21) C dX9_shadePending_21 rfl 3 rfl ?_
      refine r_aload_n (pc := 22) C dX9_shadePending_22 rfl 1 rfl ?_
      refine g17_2 (pc := 23) C dX9_shadePending_23 q378 (e17 nf) ?_
      refine r_iload_n (pc := 26) C dX9_shadePending_26 rfl 0 rfl ?_
      obtain ⟨g_9, hr⟩ := gG_some hr
      refine a18 (pc := 27) C dX9_shadePending_27 g_9 ?_
      refine g19_12 (pc := 28) C dX9_shadePending_28 q348 (e19 (nf := nf) (gin_lt g_9)) ?_
      refine r_iload_n (pc := 31) C dX9_shadePending_31 rfl 3 rfl ?_
      refine r_iconst (pc := 32) C dX9_shadePending_32 ki4 ?_
      refine r_idiv (pc := 33) C dX9_shadePending_33 (by decide) ?_
      obtain ⟨g_10, hr⟩ := gG_some hr
      refine r_ialdN (pc := 34) C dX9_shadePending_34 rfl (e27 (nf := nf) (gin_lt g_9)) g_10 rfl ?_
      obtain ⟨g_11, hr⟩ := gG_some hr
      obtain ⟨M_12, eM_12, hr⟩ := gLet_some hr
      refine r_iastN (pc := 35) C dX9_shadePending_35 rfl (e35 (nf := nf) h1) g_11 rfl eM_12 ?_
      refine r_aload_n (pc := 36) C dX9_shadePending_36 rfl 2 rfl ?_
      refine g33_7 (pc := 37) C dX9_shadePending_37 q428 (e33 (nf := nf) h1) ?_
      refine r_iload_n (pc := 40) C dX9_shadePending_40 rfl 0 rfl ?_
      refine r_dup2 (pc := 41) C dX9_shadePending_41 rfl rfl ?_
      obtain ⟨g_13, hr⟩ := gG_some hr
      refine r_laldN (pc := 42) C dX9_shadePending_42 rfl (e41 (nf := nf) h1) g_13 rfl ?_
      refine r_lconst (pc := 43) (v := 1) C dX9_shadePending_43 rfl ?_
      refine r_iload_n (pc := 44) C dX9_shadePending_44 rfl 3 rfl ?_
      refine r_iconst (pc := 45) C dX9_shadePending_45 ki4 ?_
      refine r_idiv (pc := 46) C dX9_shadePending_46 (by decide) ?_
      refine r_lshl (pc := 47) C dX9_shadePending_47 ?_
      refine r_lor (pc := 48) C dX9_shadePending_48 ?_
      obtain ⟨g_14, hr⟩ := gG_some hr
      obtain ⟨M_15, eM_15, hr⟩ := gLet_some hr
      refine r_lastN (pc := 49) C dX9_shadePending_49 rfl (e41 (nf := nf) h1) g_14 rfl eM_15 ?_
      refine r_aload_n (pc := 50) C dX9_shadePending_50 rfl 2 rfl ?_
      refine g33_2 (pc := 51) C dX9_shadePending_51 q411 (e33 (nf := nf) h1) ?_
      refine r_iload_n (pc := 54) C dX9_shadePending_54 rfl 3 rfl ?_
      refine r_iconst (pc := 55) C dX9_shadePending_55 kim1 ?_
      obtain ⟨g_16, hr⟩ := gG_some hr
      obtain ⟨M_17, eM_17, hr⟩ := gLet_some hr
      refine r_iastN (pc := 56) C dX9_shadePending_56 rfl (e36 (nf := nf) h1) g_16 rfl eM_17 ?_
      exact r_vret (pc := 57) CR dX9_shadePending_57 rfl (gSome hr)
theorem c_X9_shadePending {Ψ : gM → Nat → List (Nat × Value) → List Value → Prop} {G : gG5} {nf : Nat} {cc : ByteArray} {own : String} {nL : Nat} {ret : Option FieldType} {fr lo : Nat} {v0 : Option Value} {M0 M : gM} {pc index : Nat} {ls : List (Nat × Value)} {st : List Value} (C : gC Ψ G (gXn nf) cc own nL ret fr lo v0 M0) (d : decode cc pc = .ok (.invokevirtual index, 3)) (hl : Cond.methodLink own index yX9_shadePending ∈ gws) (hR : 1 ≤ fr ∧ 23 ≤ lo) {i1 : Nat} {p2 : Int32} (h1 : i1 < nf + 3) {M1 : gM} (hr : X9_shadePending i1 p2 M = some M1) (hcat : (st.map fun v => v.category).sum ≤ 8) (k : Ψ M1 (pc + 3) ls (st)) : Ψ M pc ls (.int p2 :: .ref (gad 33 i1) :: .ref (gad 17 0) :: st) := r_callV C [.ref (gad 33 i1), .int p2] st d (k_X9_shadePending h1 hr) hl q1031 q25 q121 q1032 hd_X9_shadePending hR rfl (by decide) (e17 nf) rfl hcat k
theorem hd_X9_blend : yX9_blend.cls ≠ "java/lang/invoke/MethodHandle" ∧ yX9_blend.cls ≠ "java/lang/invoke/VarHandle" ∧ (parseMethodDescriptor yX9_blend.desc).map (fun d => d.parameters.length) = some 3 := by decide +kernel
noncomputable def X9_blend (i1 : Nat) (p2 : Int32) (p3 : Int32) (M : gM) : Option gM := gG (gin p2 10) (gLet ((M.1 9 1 (Int32.toNatClampNeg p2))) (fun x4_2 => gG (gin p2 10) (gG (gin (p3 / 4) 64) (gLet ((M.1 27 (Int32.toNatClampNeg p2) (Int32.toNatClampNeg (p3 / 4)))) (fun x5_5 => gG (gin p3 256) (gG (gin p3 256) (gLet (wI M 35 i1 (Int32.toNatClampNeg p3) (((x5_5 * x4_2) + ((M.1 35 i1 (Int32.toNatClampNeg p3)) * (8 - x4_2))) / 8)) (fun M_8 => gG (gin p2 10) (gG (gin p2 10) (gLet (wL M_8 41 i1 (Int32.toNatClampNeg p2) ((M_8.2 41 i1 (Int32.toNatClampNeg p2)) ||| (1 <<< (Int32.toInt64 (p3 / 4) &&& 63)))) (fun M_11 => some M_11)))))))))))
theorem k_X9_blend {G : gG5} {nf : Nat} {M : gM} {i1 : Nat} {p2 : Int32} {p3 : Int32} (h1 : i1 < nf + 3) {M1 : gM} (hr : X9_blend i1 p2 p3 M = some M1) : gMet G (gXn nf) yX9_blend cX9_blend 6 none 0 0 M [.ref (gad 17 0), .ref (gad 33 i1), .int p2, .int p3] none M1 := by
  refine gMet_of pl_X9 rfl (Nat.le_of_ble_eq_true rfl) (fun Ψ C CR => ?_)
  show Ψ M 0 [(0, .ref (gad 17 0)), (1, .ref (gad 33 i1)), (2, .int p2), (3, .int p3)] []
  refine r_aload_n (pc := 0) C dX9_blend_0 rfl 0 rfl ?_
  refine g17_0 (pc := 1) C dX9_blend_1 q376 (e17 nf) ?_
  refine g5_9 (pc := 4) C dX9_blend_4 q228 (e5 (nf := nf) (by decide)) ?_
  refine r_iload_n (pc := 7) C dX9_blend_7 rfl 2 rfl ?_
  obtain ⟨g_1, hr⟩ := gG_some hr
  refine r_ialdN (pc := 8) C dX9_blend_8 rfl (e9 (nf := nf) (by decide)) g_1 rfl ?_
  obtain ⟨x4_2, ex4_2, hr⟩ := gLet_some hr
  refine r_istore (pc := 9) C dX9_blend_9 (by decide) ex4_2 (ls' := [(4, .int x4_2), (0, .ref (gad 17 0)), (1, .ref (gad 33 i1)), (2, .int p2), (3, .int p3)]) rfl ?_
  refine r_aload_n (pc := 11) C dX9_blend_11 rfl 1 rfl ?_
  refine g17_2 (pc := 12) C dX9_blend_12 q378 (e17 nf) ?_
  refine r_iload_n (pc := 15) C dX9_blend_15 rfl 3 rfl ?_
  obtain ⟨g_3, hr⟩ := gG_some hr
  refine a18 (pc := 16) C dX9_blend_16 g_3 ?_
  refine g19_12 (pc := 17) C dX9_blend_17 q348 (e19 (nf := nf) (gin_lt g_3)) ?_
  refine r_iload_n (pc := 20) C dX9_blend_20 rfl 4 rfl ?_
  refine r_iconst (pc := 21) C dX9_blend_21 ki4 ?_
  refine r_idiv (pc := 22) C dX9_blend_22 (by decide) ?_
  obtain ⟨g_4, hr⟩ := gG_some hr
  refine r_ialdN (pc := 23) C dX9_blend_23 rfl (e27 (nf := nf) (gin_lt g_3)) g_4 rfl ?_
  obtain ⟨x5_5, ex5_5, hr⟩ := gLet_some hr
  refine r_istore (pc := 24) C dX9_blend_24 (by decide) ex5_5 (ls' := [(5, .int x5_5), (4, .int x4_2), (0, .ref (gad 17 0)), (1, .ref (gad 33 i1)), (2, .int p2), (3, .int p3)]) rfl ?_
  refine r_aload_n (pc := 26) C dX9_blend_26 rfl 3 rfl ?_
  refine g33_1 (pc := 27) C dX9_blend_27 q407 (e33 (nf := nf) h1) ?_
  refine r_iload_n (pc := 30) C dX9_blend_30 rfl 5 rfl ?_
  refine r_iload (pc := 31) C dX9_blend_31 0 rfl ?_
  refine r_iload (pc := 33) C dX9_blend_33 1 rfl ?_
  refine r_imul (pc := 35) C dX9_blend_35 ?_
  refine r_aload_n (pc := 36) C dX9_blend_36 rfl 3 rfl ?_
  refine g33_1 (pc := 37) C dX9_blend_37 q407 (e33 (nf := nf) h1) ?_
  refine r_iload_n (pc := 40) C dX9_blend_40 rfl 5 rfl ?_
  obtain ⟨g_6, hr⟩ := gG_some hr
  refine r_ialdN (pc := 41) C dX9_blend_41 rfl (e35 (nf := nf) h1) g_6 rfl ?_
  refine r_bipush (pc := 42) C dX9_blend_42 kb8 ?_
  refine r_iload (pc := 44) C dX9_blend_44 1 rfl ?_
  refine r_isub (pc := 46) C dX9_blend_46 ?_
  refine r_imul (pc := 47) C dX9_blend_47 ?_
  refine r_iadd (pc := 48) C dX9_blend_48 ?_
  refine r_bipush (pc := 49) C dX9_blend_49 kb8 ?_
  refine r_idiv (pc := 51) C dX9_blend_51 (by decide) ?_
  obtain ⟨g_7, hr⟩ := gG_some hr
  obtain ⟨M_8, eM_8, hr⟩ := gLet_some hr
  refine r_iastN (pc := 52) C dX9_blend_52 rfl (e35 (nf := nf) h1) g_7 rfl eM_8 ?_
  refine r_aload_n (pc := 53) C dX9_blend_53 rfl 3 rfl ?_
  refine g33_7 (pc := 54) C dX9_blend_54 q428 (e33 (nf := nf) h1) ?_
  refine r_iload_n (pc := 57) C dX9_blend_57 rfl 4 rfl ?_
  refine r_dup2 (pc := 58) C dX9_blend_58 rfl rfl ?_
  obtain ⟨g_9, hr⟩ := gG_some hr
  refine r_laldN (pc := 59) C dX9_blend_59 rfl (e41 (nf := nf) h1) g_9 rfl ?_
  refine r_lconst (pc := 60) (v := 1) C dX9_blend_60 rfl ?_
  refine r_iload_n (pc := 61) C dX9_blend_61 rfl 5 rfl ?_
  refine r_iconst (pc := 62) C dX9_blend_62 ki4 ?_
  refine r_idiv (pc := 63) C dX9_blend_63 (by decide) ?_
  refine r_lshl (pc := 64) C dX9_blend_64 ?_
  refine r_lor (pc := 65) C dX9_blend_65 ?_
  obtain ⟨g_10, hr⟩ := gG_some hr
  obtain ⟨M_11, eM_11, hr⟩ := gLet_some hr
  refine r_lastN (pc := 66) C dX9_blend_66 rfl (e41 (nf := nf) h1) g_10 rfl eM_11 ?_
  exact r_vret (pc := 67) CR dX9_blend_67 rfl (gSome hr)
theorem c_X9_blend {Ψ : gM → Nat → List (Nat × Value) → List Value → Prop} {G : gG5} {nf : Nat} {cc : ByteArray} {own : String} {nL : Nat} {ret : Option FieldType} {fr lo : Nat} {v0 : Option Value} {M0 M : gM} {pc index : Nat} {ls : List (Nat × Value)} {st : List Value} (C : gC Ψ G (gXn nf) cc own nL ret fr lo v0 M0) (d : decode cc pc = .ok (.invokevirtual index, 3)) (hl : Cond.methodLink own index yX9_blend ∈ gws) (hR : 1 ≤ fr ∧ 25 ≤ lo) {i1 : Nat} {p2 : Int32} {p3 : Int32} (h1 : i1 < nf + 3) {M1 : gM} (hr : X9_blend i1 p2 p3 M = some M1) (hcat : (st.map fun v => v.category).sum ≤ 8) (k : Ψ M1 (pc + 3) ls (st)) : Ψ M pc ls (.int p3 :: .int p2 :: .ref (gad 33 i1) :: .ref (gad 17 0) :: st) := r_callV C [.ref (gad 33 i1), .int p2, .int p3] st d (k_X9_blend h1 hr) hl q1035 q26 q121 q1036 hd_X9_blend hR rfl (by decide) (e17 nf) rfl hcat k
theorem hd_X9_layOne : yX9_layOne.cls ≠ "java/lang/invoke/MethodHandle" ∧ yX9_layOne.cls ≠ "java/lang/invoke/VarHandle" ∧ (parseMethodDescriptor yX9_layOne.desc).map (fun d => d.parameters.length) = some 3 := by decide +kernel
noncomputable def X9_layOne_L50 (i1 : Nat) (x2 : Int32) (x3 : Int32) (i4 : Nat) (x5 : Int32) (x6 : Int32) (x7 : Int32) (M : gM) : Option ((Int32 × gM) ⊕ gM) := gG (gin (x3 + 1) 17) ((if (M.1 14 0 (Int32.toNatClampNeg (x3 + 1))) ≤ x7 then some (.inr M) else gG (gin x7 256) (gLet ((M.1 13 0 (Int32.toNatClampNeg x7))) (fun x8_10 => gG (gin x8_10 256) ((X9_passes i1 (M.1 26 i4 (Int32.toNatClampNeg x8_10)) x8_10 M).bind (gU2 (fun r_13 M_14 => (if r_13 = 0 then gLet (x7 + 1) (fun x7_32 => some (.inl (x7_32, M_14))) else (if 8 ≤ x5 then gG (gin x8_10 256) (gG (gin x8_10 256) (gLet (wI M_14 34 i1 (Int32.toNatClampNeg x8_10) (M_14.1 26 i4 (Int32.toNatClampNeg x8_10))) (fun M_19 => gG (gin x8_10 256) (gLet (wI M_19 36 i1 (Int32.toNatClampNeg x8_10) x2) (fun M_21 => (if x6 = 0 then (X9_shadePending i1 x8_10 M_21).bind (fun M_25 => gLet (x7 + 1) (fun x7_26 => some (.inl (x7_26, M_25)))) else gLet (x7 + 1) (fun x7_23 => some (.inl (x7_23, M_21))))))))) else (X9_shadePending i1 x8_10 M_14).bind (fun M_28 => (X9_blend i1 x2 x8_10 M_28).bind (fun M_30 => gLet (x7 + 1) (fun x7_31 => some (.inl (x7_31, M_30))))))))))))))
theorem t_X9_layOne_L50 {Ψ : gM → Nat → List (Nat × Value) → List Value → Prop} {G : gG5} {nf : Nat} {M : gM} {v0 : Option Value} {M0 : gM} {i1 : Nat} {x2 : Int32} {x3 : Int32} {i4 : Nat} {x5 : Int32} {x6 : Int32} {x7 : Int32} {w : ((Int32 × gM) ⊕ gM)} (C : gC Ψ G (gXn nf) cX9_layOne RX9 9 none 1 25 v0 M0) (h1 : i1 < nf + 3) (h4 : i4 < 10) (hr : X9_layOne_L50 i1 x2 x3 i4 x5 x6 x7 M = some w) (hn : ∀ s, w = .inl s → Ψ s.2 50 [(0, .ref (gad 17 0)), (1, .ref (gad 33 i1)), (2, .int x2), (3, .int x3), (4, .ref (gad 26 i4)), (5, .int x5), (6, .int x6), (7, .int (s.1))] []) (hx : ∀ e, w = .inr e → (fun e => Ψ e 159 [] []) e) : Ψ M 50 [(0, .ref (gad 17 0)), (1, .ref (gad 33 i1)), (2, .int x2), (3, .int x3), (4, .ref (gad 26 i4)), (5, .int x5), (6, .int x6), (7, .int x7)] [] := by
  refine r_iload (pc := 50) C dX9_layOne_50 7 rfl ?_
  refine r_aload_n (pc := 52) C dX9_layOne_52 rfl 0 rfl ?_
  refine g17_1 (pc := 53) C dX9_layOne_53 q377 (e17 nf) ?_
  refine g12_8 (pc := 56) C dX9_layOne_56 q284 (e12 nf) ?_
  refine r_iload_n (pc := 59) C dX9_layOne_59 rfl 3 rfl ?_
  refine r_iconst (pc := 60) C dX9_layOne_60 ki1 ?_
  refine r_iadd (pc := 61) C dX9_layOne_61 ?_
  obtain ⟨g_7, hr⟩ := gG_some hr
  refine r_ialdN (pc := 62) C dX9_layOne_62 rfl (e14 nf) g_7 rfl ?_
  refine r_icmp_ge (pc := 63) (tgt := 159) C dX9_layOne_63 rfl (fun c_8 => ?_) (fun c_8 => ?_)
  · replace hr := (if_pos c_8).symm.trans hr
    refine r_sub C [] (ls' := []) rfl ?_
    exact hx M (gSome hr)
  · replace hr := (if_neg c_8).symm.trans hr
    refine r_aload_n (pc := 66) C dX9_layOne_66 rfl 0 rfl ?_
    refine g17_1 (pc := 67) C dX9_layOne_67 q377 (e17 nf) ?_
    refine g12_7 (pc := 70) C dX9_layOne_70 q282 (e12 nf) ?_
    refine r_iload (pc := 73) C dX9_layOne_73 7 rfl ?_
    obtain ⟨g_9, hr⟩ := gG_some hr
    refine r_ialdN (pc := 75) C dX9_layOne_75 rfl (e13 nf) g_9 rfl ?_
    obtain ⟨x8_10, ex8_10, hr⟩ := gLet_some hr
    refine r_istore (pc := 76) C dX9_layOne_76 (by decide) ex8_10 (ls' := [(8, .int x8_10), (0, .ref (gad 17 0)), (1, .ref (gad 33 i1)), (2, .int x2), (3, .int x3), (4, .ref (gad 26 i4)), (5, .int x5), (6, .int x6), (7, .int x7)]) rfl ?_
    refine r_aload_n (pc := 78) C dX9_layOne_78 rfl 1 rfl ?_
    refine r_aload_n (pc := 79) C dX9_layOne_79 rfl 2 rfl ?_
    refine r_aload (pc := 80) C dX9_layOne_80 5 rfl ?_
    refine r_iload (pc := 82) C dX9_layOne_82 0 rfl ?_
    obtain ⟨g_11, hr⟩ := gG_some hr
    refine r_ialdN (pc := 84) C dX9_layOne_84 rfl (e26 (nf := nf) h4) g_11 rfl ?_
    refine r_iload (pc := 85) C dX9_layOne_85 0 rfl ?_
    obtain ⟨⟨r_13, M_14⟩, hc_12, hr⟩ := gBind_some hr
    replace hr := gU2_some hr
    refine c_X9_passes (pc := 87) C dX9_layOne_87 q1025 ⟨Nat.le_of_ble_eq_true rfl, Nat.le_of_ble_eq_true rfl⟩ h1 hc_12 (Nat.le_of_ble_eq_true rfl) ?_
    refine r_if_ne (pc := 90) (tgt := 96) C dX9_layOne_90 rfl (fun c_15 => ?_) (fun c_15 => ?_)
    · replace hr := (if_neg c_15).symm.trans hr
      refine r_iload (pc := 96) C dX9_layOne_96 6 rfl ?_
      refine r_bipush (pc := 98) C dX9_layOne_98 kb8 ?_
      refine r_icmp_ge (pc := 100) (tgt := 121) C dX9_layOne_100 rfl (fun c_16 => ?_) (fun c_16 => ?_)
      · replace hr := (if_pos c_16).symm.trans hr
        refine r_aload_n (pc := 121) C dX9_layOne_121 rfl 2 rfl ?_
        refine g33_0 (pc := 122) C dX9_layOne_122 q403 (e33 (nf := nf) h1) ?_
        refine r_iload (pc := 125) C dX9_layOne_125 0 rfl ?_
        refine r_aload (pc := 127) C dX9_layOne_127 5 rfl ?_
        refine r_iload (pc := 129) C dX9_layOne_129 0 rfl ?_
        obtain ⟨g_17, hr⟩ := gG_some hr
        refine r_ialdN (pc := 131) C dX9_layOne_131 rfl (e26 (nf := nf) h4) g_17 rfl ?_
        obtain ⟨g_18, hr⟩ := gG_some hr
        obtain ⟨M_19, eM_19, hr⟩ := gLet_some hr
        refine r_iastN (pc := 132) C dX9_layOne_132 rfl (e34 (nf := nf) h1) g_18 rfl eM_19 ?_
        refine r_aload_n (pc := 133) C dX9_layOne_133 rfl 2 rfl ?_
        refine g33_2 (pc := 134) C dX9_layOne_134 q411 (e33 (nf := nf) h1) ?_
        refine r_iload (pc := 137) C dX9_layOne_137 0 rfl ?_
        refine r_iload_n (pc := 139) C dX9_layOne_139 rfl 3 rfl ?_
        obtain ⟨g_20, hr⟩ := gG_some hr
        obtain ⟨M_21, eM_21, hr⟩ := gLet_some hr
        refine r_iastN (pc := 140) C dX9_layOne_140 rfl (e36 (nf := nf) h1) g_20 rfl eM_21 ?_
        refine r_iload (pc := 141) C dX9_layOne_141 7 rfl ?_
        refine r_if_ne (pc := 143) (tgt := 153) C dX9_layOne_143 rfl (fun c_22 => ?_) (fun c_22 => ?_)
        · replace hr := (if_neg c_22).symm.trans hr
          obtain ⟨x7_23, ex7_23, hr⟩ := gLet_some hr
          refine r_iinc (pc := 153) C dX9_layOne_153 8 rfl rfl (by decide) ex7_23 (ls' := [(7, .int x7_23), (8, .int x8_10), (0, .ref (gad 17 0)), (1, .ref (gad 33 i1)), (2, .int x2), (3, .int x3), (4, .ref (gad 26 i4)), (5, .int x5), (6, .int x6)]) rfl ?_
          refine r_goto (pc := 156) (tgt := 50) C dX9_layOne_156 rfl ?_
          refine r_sub C [2, 3, 4, 5, 6, 7, 8, 0] (ls' := [(0, .ref (gad 17 0)), (1, .ref (gad 33 i1)), (2, .int x2), (3, .int x3), (4, .ref (gad 26 i4)), (5, .int x5), (6, .int x6), (7, .int x7_23)]) rfl ?_
          exact hn (x7_23, M_21) (gSome hr)
        · replace hr := (if_pos c_22).symm.trans hr
          refine r_aload_n (pc := 146) C dX9_layOne_146 rfl 1 rfl ?_
          refine r_aload_n (pc := 147) C dX9_layOne_147 rfl 2 rfl ?_
          refine r_iload (pc := 148) C dX9_layOne_148 0 rfl ?_
          obtain ⟨M_25, hc_24, hr⟩ := gBind_some hr
          refine c_X9_shadePending (pc := 150) C dX9_layOne_150 q1029 ⟨Nat.le_of_ble_eq_true rfl, Nat.le_of_ble_eq_true rfl⟩ h1 hc_24 (Nat.le_of_ble_eq_true rfl) ?_
          obtain ⟨x7_26, ex7_26, hr⟩ := gLet_some hr
          refine r_iinc (pc := 153) C dX9_layOne_153 8 rfl rfl (by decide) ex7_26 (ls' := [(7, .int x7_26), (8, .int x8_10), (0, .ref (gad 17 0)), (1, .ref (gad 33 i1)), (2, .int x2), (3, .int x3), (4, .ref (gad 26 i4)), (5, .int x5), (6, .int x6)]) rfl ?_
          refine r_goto (pc := 156) (tgt := 50) C dX9_layOne_156 rfl ?_
          refine r_sub C [2, 3, 4, 5, 6, 7, 8, 0] (ls' := [(0, .ref (gad 17 0)), (1, .ref (gad 33 i1)), (2, .int x2), (3, .int x3), (4, .ref (gad 26 i4)), (5, .int x5), (6, .int x6), (7, .int x7_26)]) rfl ?_
          exact hn (x7_26, M_25) (gSome hr)
      · replace hr := (if_neg c_16).symm.trans hr
        refine r_aload_n (pc := 103) C dX9_layOne_103 rfl 1 rfl ?_
        refine r_aload_n (pc := 104) C dX9_layOne_104 rfl 2 rfl ?_
        refine r_iload (pc := 105) C dX9_layOne_105 0 rfl ?_
        obtain ⟨M_28, hc_27, hr⟩ := gBind_some hr
        refine c_X9_shadePending (pc := 107) C dX9_layOne_107 q1029 ⟨Nat.le_of_ble_eq_true rfl, Nat.le_of_ble_eq_true rfl⟩ h1 hc_27 (Nat.le_of_ble_eq_true rfl) ?_
        refine r_aload_n (pc := 110) C dX9_layOne_110 rfl 1 rfl ?_
        refine r_aload_n (pc := 111) C dX9_layOne_111 rfl 2 rfl ?_
        refine r_iload_n (pc := 112) C dX9_layOne_112 rfl 3 rfl ?_
        refine r_iload (pc := 113) C dX9_layOne_113 0 rfl ?_
        obtain ⟨M_30, hc_29, hr⟩ := gBind_some hr
        refine c_X9_blend (pc := 115) C dX9_layOne_115 q1033 ⟨Nat.le_of_ble_eq_true rfl, Nat.le_of_ble_eq_true rfl⟩ h1 hc_29 (Nat.le_of_ble_eq_true rfl) ?_
        refine r_goto (pc := 118) (tgt := 153) C dX9_layOne_118 rfl ?_
        obtain ⟨x7_31, ex7_31, hr⟩ := gLet_some hr
        refine r_iinc (pc := 153) C dX9_layOne_153 8 rfl rfl (by decide) ex7_31 (ls' := [(7, .int x7_31), (8, .int x8_10), (0, .ref (gad 17 0)), (1, .ref (gad 33 i1)), (2, .int x2), (3, .int x3), (4, .ref (gad 26 i4)), (5, .int x5), (6, .int x6)]) rfl ?_
        refine r_goto (pc := 156) (tgt := 50) C dX9_layOne_156 rfl ?_
        refine r_sub C [2, 3, 4, 5, 6, 7, 8, 0] (ls' := [(0, .ref (gad 17 0)), (1, .ref (gad 33 i1)), (2, .int x2), (3, .int x3), (4, .ref (gad 26 i4)), (5, .int x5), (6, .int x6), (7, .int x7_31)]) rfl ?_
        exact hn (x7_31, M_30) (gSome hr)
    · replace hr := (if_pos c_15).symm.trans hr
      refine r_goto (pc := 93) (tgt := 153) C dX9_layOne_93 rfl ?_
      obtain ⟨x7_32, ex7_32, hr⟩ := gLet_some hr
      refine r_iinc (pc := 153) C dX9_layOne_153 8 rfl rfl (by decide) ex7_32 (ls' := [(7, .int x7_32), (8, .int x8_10), (0, .ref (gad 17 0)), (1, .ref (gad 33 i1)), (2, .int x2), (3, .int x3), (4, .ref (gad 26 i4)), (5, .int x5), (6, .int x6)]) rfl ?_
      refine r_goto (pc := 156) (tgt := 50) C dX9_layOne_156 rfl ?_
      refine r_sub C [2, 3, 4, 5, 6, 7, 8, 0] (ls' := [(0, .ref (gad 17 0)), (1, .ref (gad 33 i1)), (2, .int x2), (3, .int x3), (4, .ref (gad 26 i4)), (5, .int x5), (6, .int x6), (7, .int x7_32)]) rfl ?_
      exact hn (x7_32, M_14) (gSome hr)
noncomputable def X9_layOne (i1 : Nat) (p2 : Int32) (p3 : Int32) (M : gM) : Option gM := gG (gin p2 10) (gG (gin p2 10) (gLet ((M.1 9 1 (Int32.toNatClampNeg p2))) (fun x5_3 => (if (M.1 40 i1 2) = 1 then gG (gin p3 17) (gLet ((M.1 14 0 (Int32.toNatClampNeg p3))) (fun x7_35 => (gIter (fun s => X9_layOne_L50 i1 p2 p3 (Int32.toNatClampNeg p2) x5_3 1 s.1 s.2) FU (x7_35, M)).bind (fun M_36 => some M_36))) else gG (gin p3 17) (gLet ((M.1 14 0 (Int32.toNatClampNeg p3))) (fun x7_6 => (gIter (fun s => X9_layOne_L50 i1 p2 p3 (Int32.toNatClampNeg p2) x5_3 0 s.1 s.2) FU (x7_6, M)).bind (fun M_33 => some M_33)))))))
theorem k_X9_layOne {G : gG5} {nf : Nat} {M : gM} {i1 : Nat} {p2 : Int32} {p3 : Int32} (h1 : i1 < nf + 3) {M1 : gM} (hr : X9_layOne i1 p2 p3 M = some M1) : gMet G (gXn nf) yX9_layOne cX9_layOne 9 none 1 25 M [.ref (gad 17 0), .ref (gad 33 i1), .int p2, .int p3] none M1 := by
  refine gMet_of pl_X9 rfl (Nat.le_of_ble_eq_true rfl) (fun Ψ C CR => ?_)
  show Ψ M 0 [(0, .ref (gad 17 0)), (1, .ref (gad 33 i1)), (2, .int p2), (3, .int p3)] []
  refine r_aload_n (pc := 0) C dX9_layOne_0 rfl 0 rfl ?_
  refine g17_2 (pc := 1) C dX9_layOne_1 q378 (e17 nf) ?_
  refine r_iload_n (pc := 4) C dX9_layOne_4 rfl 2 rfl ?_
  obtain ⟨g_1, hr⟩ := gG_some hr
  refine a18 (pc := 5) C dX9_layOne_5 g_1 ?_
  refine g19_11 (pc := 6) C dX9_layOne_6 q345 (e19 (nf := nf) (gin_lt g_1)) ?_
  refine r_astore (pc := 9) C dX9_layOne_9 (by decide) rfl (ls' := [(4, .ref (gad 26 (Int32.toNatClampNeg p2))), (0, .ref (gad 17 0)), (1, .ref (gad 33 i1)), (2, .int p2), (3, .int p3)]) rfl ?_
  refine r_aload_n (pc := 11) C dX9_layOne_11 rfl 1 rfl ?_
  refine g17_0 (pc := 12) C dX9_layOne_12 q376 (e17 nf) ?_
  refine g5_9 (pc := 15) C dX9_layOne_15 q228 (e5 (nf := nf) (by decide)) ?_
  refine r_iload_n (pc := 18) C dX9_layOne_18 rfl 3 rfl ?_
  obtain ⟨g_2, hr⟩ := gG_some hr
  refine r_ialdN (pc := 19) C dX9_layOne_19 rfl (e9 (nf := nf) (by decide)) g_2 rfl ?_
  obtain ⟨x5_3, ex5_3, hr⟩ := gLet_some hr
  refine r_istore (pc := 20) C dX9_layOne_20 (by decide) ex5_3 (ls' := [(5, .int x5_3), (4, .ref (gad 26 (Int32.toNatClampNeg p2))), (0, .ref (gad 17 0)), (1, .ref (gad 33 i1)), (2, .int p2), (3, .int p3)]) rfl ?_
  refine r_aload_n (pc := 22) C dX9_layOne_22 rfl 3 rfl ?_
  refine g33_6 (pc := 23) C dX9_layOne_23 q423 (e33 (nf := nf) h1) ?_
  refine r_iconst (pc := 26) C dX9_layOne_26 ki2 ?_
  refine r_ialdN (pc := 27) C dX9_layOne_27 rfl (e40 (nf := nf) h1) (by decide : gin 2 4 = true) kc2 ?_
  refine r_iconst (pc := 28) C dX9_layOne_28 ki1 ?_
  refine r_icmp_ne (pc := 29) (tgt := 36) C dX9_layOne_29 rfl (fun c_4 => ?_) (fun c_4 => ?_)
  · replace hr := (if_neg c_4).symm.trans hr
    refine r_iconst (pc := 36) C dX9_layOne_36 ki0 ?_
    refine r_istore (pc := 37) C dX9_layOne_37 (by decide) rfl (ls' := [(6, .int 0), (5, .int x5_3), (4, .ref (gad 26 (Int32.toNatClampNeg p2))), (0, .ref (gad 17 0)), (1, .ref (gad 33 i1)), (2, .int p2), (3, .int p3)]) rfl ?_
    refine r_aload_n (pc := 39) C dX9_layOne_39 rfl 3 rfl ?_
    refine g17_1 (pc := 40) C dX9_layOne_40 q377 (e17 nf) ?_
    refine g12_8 (pc := 43) C dX9_layOne_43 q284 (e12 nf) ?_
    refine r_iload_n (pc := 46) C dX9_layOne_46 rfl 6 rfl ?_
    obtain ⟨g_5, hr⟩ := gG_some hr
    refine r_ialdN (pc := 47) C dX9_layOne_47 rfl (e14 nf) g_5 rfl ?_
    obtain ⟨x7_6, ex7_6, hr⟩ := gLet_some hr
    refine r_istore (pc := 48) C dX9_layOne_48 (by decide) ex7_6 (ls' := [(7, .int x7_6), (6, .int 0), (5, .int x5_3), (4, .ref (gad 26 (Int32.toNatClampNeg p2))), (0, .ref (gad 17 0)), (1, .ref (gad 33 i1)), (2, .int p2), (3, .int p3)]) rfl ?_
    refine r_sub C [4, 5, 6, 7, 3, 2, 1, 0] (ls' := [(0, .ref (gad 17 0)), (1, .ref (gad 33 i1)), (2, .int p2), (3, .int p3), (4, .ref (gad 26 (Int32.toNatClampNeg p2))), (5, .int x5_3), (6, .int 0), (7, .int x7_6)]) rfl ?_
    obtain ⟨ev, hit, hr⟩ := gBind_some hr
    refine gIter_V (step := fun s => X9_layOne_L50 i1 p2 p3 (Int32.toNatClampNeg p2) x5_3 0 s.1 s.2) (P := fun s => Ψ s.2 50 [(0, .ref (gad 17 0)), (1, .ref (gad 33 i1)), (2, .int p2), (3, .int p3), (4, .ref (gad 26 (Int32.toNatClampNeg p2))), (5, .int x5_3), (6, .int 0), (7, .int (s.1))] []) (K := (fun e => Ψ e 159 [] [])) (fun s w hs hn hx => t_X9_layOne_L50 C h1 (gin_lt g_1) hs hn hx) FU (x7_6, M) ev hit ?_
    obtain ⟨M_33, rfl⟩ : ∃ z, z = ev := ⟨_, rfl⟩
    show Ψ M_33 159 [] []
    exact r_vret (pc := 159) CR dX9_layOne_159 rfl (gSome hr)
  · replace hr := (if_pos c_4).symm.trans hr
    refine r_iconst (pc := 32) C dX9_layOne_32 ki1 ?_
    refine r_goto (pc := 33) (tgt := 37) C dX9_layOne_33 rfl ?_
    refine r_istore (pc := 37) C dX9_layOne_37 (by decide) rfl (ls' := [(6, .int 1), (5, .int x5_3), (4, .ref (gad 26 (Int32.toNatClampNeg p2))), (0, .ref (gad 17 0)), (1, .ref (gad 33 i1)), (2, .int p2), (3, .int p3)]) rfl ?_
    refine r_aload_n (pc := 39) C dX9_layOne_39 rfl 3 rfl ?_
    refine g17_1 (pc := 40) C dX9_layOne_40 q377 (e17 nf) ?_
    refine g12_8 (pc := 43) C dX9_layOne_43 q284 (e12 nf) ?_
    refine r_iload_n (pc := 46) C dX9_layOne_46 rfl 6 rfl ?_
    obtain ⟨g_34, hr⟩ := gG_some hr
    refine r_ialdN (pc := 47) C dX9_layOne_47 rfl (e14 nf) g_34 rfl ?_
    obtain ⟨x7_35, ex7_35, hr⟩ := gLet_some hr
    refine r_istore (pc := 48) C dX9_layOne_48 (by decide) ex7_35 (ls' := [(7, .int x7_35), (6, .int 1), (5, .int x5_3), (4, .ref (gad 26 (Int32.toNatClampNeg p2))), (0, .ref (gad 17 0)), (1, .ref (gad 33 i1)), (2, .int p2), (3, .int p3)]) rfl ?_
    refine r_sub C [4, 5, 6, 7, 3, 2, 1, 0] (ls' := [(0, .ref (gad 17 0)), (1, .ref (gad 33 i1)), (2, .int p2), (3, .int p3), (4, .ref (gad 26 (Int32.toNatClampNeg p2))), (5, .int x5_3), (6, .int 1), (7, .int x7_35)]) rfl ?_
    obtain ⟨ev, hit, hr⟩ := gBind_some hr
    refine gIter_V (step := fun s => X9_layOne_L50 i1 p2 p3 (Int32.toNatClampNeg p2) x5_3 1 s.1 s.2) (P := fun s => Ψ s.2 50 [(0, .ref (gad 17 0)), (1, .ref (gad 33 i1)), (2, .int p2), (3, .int p3), (4, .ref (gad 26 (Int32.toNatClampNeg p2))), (5, .int x5_3), (6, .int 1), (7, .int (s.1))] []) (K := (fun e => Ψ e 159 [] [])) (fun s w hs hn hx => t_X9_layOne_L50 C h1 (gin_lt g_1) hs hn hx) FU (x7_35, M) ev hit ?_
    obtain ⟨M_36, rfl⟩ : ∃ z, z = ev := ⟨_, rfl⟩
    show Ψ M_36 159 [] []
    exact r_vret (pc := 159) CR dX9_layOne_159 rfl (gSome hr)
theorem c_X9_layOne {Ψ : gM → Nat → List (Nat × Value) → List Value → Prop} {G : gG5} {nf : Nat} {cc : ByteArray} {own : String} {nL : Nat} {ret : Option FieldType} {fr lo : Nat} {v0 : Option Value} {M0 M : gM} {pc index : Nat} {ls : List (Nat × Value)} {st : List Value} (C : gC Ψ G (gXn nf) cc own nL ret fr lo v0 M0) (d : decode cc pc = .ok (.invokevirtual index, 3)) (hl : Cond.methodLink own index yX9_layOne ∈ gws) (hR : 2 ≤ fr ∧ 53 ≤ lo) {i1 : Nat} {p2 : Int32} {p3 : Int32} (h1 : i1 < nf + 3) {M1 : gM} (hr : X9_layOne i1 p2 p3 M = some M1) (hcat : (st.map fun v => v.category).sum ≤ 8) (k : Ψ M1 (pc + 3) ls (st)) : Ψ M pc ls (.int p3 :: .int p2 :: .ref (gad 33 i1) :: .ref (gad 17 0) :: st) := r_callV C [.ref (gad 33 i1), .int p2, .int p3] st d (k_X9_layOne h1 hr) hl q1023 q23 q121 q1024 hd_X9_layOne hR rfl (by decide) (e17 nf) rfl hcat k
theorem hd_X9_flushTile : yX9_flushTile.cls ≠ "java/lang/invoke/MethodHandle" ∧ yX9_flushTile.cls ≠ "java/lang/invoke/VarHandle" ∧ (parseMethodDescriptor yX9_flushTile.desc).map (fun d => d.parameters.length) = some 2 := by decide +kernel
noncomputable def X9_flushTile_L28 (i1 : Nat) (x2 : Int32) (x3 : Int32) (x4 : Int32) (M : gM) : Option ((Int32 × gM) ⊕ gM) := (if x3 ≤ x4 then some (.inr M) else gG (gin ((x2 * 10) + x4) 160) (gLet ((M.1 37 i1 (Int32.toNatClampNeg ((x2 * 10) + x4)))) (fun x5_8 => (X4_has 1 x5_8 M).bind (fun r_10 => (if r_10 = 0 then gLet (x4 + 1) (fun x4_24 => some (.inl (x4_24, M))) else (X9_isBehind i1 x5_8 x2 M).bind (fun r_13 => (if r_13 = 0 then (X9_isCulled i1 x5_8 M).bind (fun r_16 => (if r_16 = 0 then (X9_layOne i1 x5_8 x2 M).bind (fun M_20 => gLet (x4 + 1) (fun x4_21 => some (.inl (x4_21, M_20)))) else gLet (x4 + 1) (fun x4_18 => some (.inl (x4_18, M))))) else gLet (wI M 33 i1 10 ((M.1 33 i1 10) + 1)) (fun M_22 => gLet (x4 + 1) (fun x4_23 => some (.inl (x4_23, M_22)))))))))))
theorem t_X9_flushTile_L28 {Ψ : gM → Nat → List (Nat × Value) → List Value → Prop} {G : gG5} {nf : Nat} {M : gM} {v0 : Option Value} {M0 : gM} {i1 : Nat} {x2 : Int32} {x3 : Int32} {x4 : Int32} {w : ((Int32 × gM) ⊕ gM)} (C : gC Ψ G (gXn nf) cX9_flushTile RX9 6 (some .int) 2 53 v0 M0) (h1 : i1 < nf + 3) (hr : X9_flushTile_L28 i1 x2 x3 x4 M = some w) (hn : ∀ s, w = .inl s → Ψ s.2 28 [(0, .ref (gad 17 0)), (1, .ref (gad 33 i1)), (2, .int x2), (3, .int x3), (4, .int (s.1))] []) (hx : ∀ e, w = .inr e → (fun e => Ψ e 111 [(0, .ref (gad 17 0)), (1, .ref (gad 33 i1)), (2, .int x2), (3, .int x3)] []) e) : Ψ M 28 [(0, .ref (gad 17 0)), (1, .ref (gad 33 i1)), (2, .int x2), (3, .int x3), (4, .int x4)] [] := by
  refine r_iload (pc := 28) C dX9_flushTile_28 4 rfl ?_
  refine r_iload_n (pc := 30) C dX9_flushTile_30 rfl 3 rfl ?_
  refine r_icmp_ge (pc := 31) (tgt := 111) C dX9_flushTile_31 rfl (fun c_6 => ?_) (fun c_6 => ?_)
  · replace hr := (if_pos c_6).symm.trans hr
    refine r_sub C [0, 1, 2, 3] (ls' := [(0, .ref (gad 17 0)), (1, .ref (gad 33 i1)), (2, .int x2), (3, .int x3)]) rfl ?_
    exact hx M (gSome hr)
  · replace hr := (if_neg c_6).symm.trans hr
    refine r_aload_n (pc := 34) C dX9_flushTile_34 rfl 1 rfl ?_
    refine g33_3 (pc := 35) C dX9_flushTile_35 q413 (e33 (nf := nf) h1) ?_
    refine r_iload_n (pc := 38) C dX9_flushTile_38 rfl 2 rfl ?_
    refine r_bipush (pc := 39) C dX9_flushTile_39 kb10 ?_
    refine r_imul (pc := 41) C dX9_flushTile_41 ?_
    refine r_iload (pc := 42) C dX9_flushTile_42 4 rfl ?_
    refine r_iadd (pc := 44) C dX9_flushTile_44 ?_
    obtain ⟨g_7, hr⟩ := gG_some hr
    refine r_ialdN (pc := 45) C dX9_flushTile_45 rfl (e37 (nf := nf) h1) g_7 rfl ?_
    obtain ⟨x5_8, ex5_8, hr⟩ := gLet_some hr
    refine r_istore (pc := 46) C dX9_flushTile_46 (by decide) ex5_8 (ls' := [(5, .int x5_8), (0, .ref (gad 17 0)), (1, .ref (gad 33 i1)), (2, .int x2), (3, .int x3), (4, .int x4)]) rfl ?_
    refine r_aload_n (pc := 48) C dX9_flushTile_48 rfl 1 rfl ?_
    refine g17_0 (pc := 49) C dX9_flushTile_49 q376 (e17 nf) ?_
    refine r_iload (pc := 52) C dX9_flushTile_52 0 rfl ?_
    obtain ⟨r_10, hc_9, hr⟩ := gBind_some hr
    refine c_X4_has (pc := 54) C dX9_flushTile_54 q966 ⟨Nat.le_of_ble_eq_true rfl, Nat.le_of_ble_eq_true rfl⟩ (by decide) hc_9 (Nat.le_of_ble_eq_true rfl) ?_
    refine r_if_ne (pc := 57) (tgt := 63) C dX9_flushTile_57 rfl (fun c_11 => ?_) (fun c_11 => ?_)
    · replace hr := (if_neg c_11).symm.trans hr
      refine r_aload_n (pc := 63) C dX9_flushTile_63 rfl 1 rfl ?_
      refine r_aload_n (pc := 64) C dX9_flushTile_64 rfl 2 rfl ?_
      refine r_iload (pc := 65) C dX9_flushTile_65 0 rfl ?_
      refine r_iload_n (pc := 67) C dX9_flushTile_67 rfl 3 rfl ?_
      obtain ⟨r_13, hc_12, hr⟩ := gBind_some hr
      refine c_X9_isBehind (pc := 68) C dX9_flushTile_68 q1016 ⟨Nat.le_of_ble_eq_true rfl, Nat.le_of_ble_eq_true rfl⟩ h1 hc_12 (Nat.le_of_ble_eq_true rfl) ?_
      refine r_if_eq (pc := 71) (tgt := 87) C dX9_flushTile_71 rfl (fun c_14 => ?_) (fun c_14 => ?_)
      · replace hr := (if_pos c_14).symm.trans hr
        refine r_aload_n (pc := 87) C dX9_flushTile_87 rfl 1 rfl ?_
        refine r_aload_n (pc := 88) C dX9_flushTile_88 rfl 2 rfl ?_
        refine r_iload (pc := 89) C dX9_flushTile_89 0 rfl ?_
        obtain ⟨r_16, hc_15, hr⟩ := gBind_some hr
        refine c_X9_isCulled (pc := 91) C dX9_flushTile_91 q893 ⟨Nat.le_of_ble_eq_true rfl, Nat.le_of_ble_eq_true rfl⟩ h1 hc_15 (Nat.le_of_ble_eq_true rfl) ?_
        refine r_if_ne (pc := 94) (tgt := 105) C dX9_flushTile_94 rfl (fun c_17 => ?_) (fun c_17 => ?_)
        · replace hr := (if_neg c_17).symm.trans hr
          obtain ⟨x4_18, ex4_18, hr⟩ := gLet_some hr
          refine r_iinc (pc := 105) C dX9_flushTile_105 5 rfl rfl (by decide) ex4_18 (ls' := [(4, .int x4_18), (5, .int x5_8), (0, .ref (gad 17 0)), (1, .ref (gad 33 i1)), (2, .int x2), (3, .int x3)]) rfl ?_
          refine r_goto (pc := 108) (tgt := 28) C dX9_flushTile_108 rfl ?_
          refine r_sub C [2, 3, 4, 5, 0] (ls' := [(0, .ref (gad 17 0)), (1, .ref (gad 33 i1)), (2, .int x2), (3, .int x3), (4, .int x4_18)]) rfl ?_
          exact hn (x4_18, M) (gSome hr)
        · replace hr := (if_pos c_17).symm.trans hr
          refine r_aload_n (pc := 97) C dX9_flushTile_97 rfl 1 rfl ?_
          refine r_aload_n (pc := 98) C dX9_flushTile_98 rfl 2 rfl ?_
          refine r_iload (pc := 99) C dX9_flushTile_99 0 rfl ?_
          refine r_iload_n (pc := 101) C dX9_flushTile_101 rfl 3 rfl ?_
          obtain ⟨M_20, hc_19, hr⟩ := gBind_some hr
          refine c_X9_layOne (pc := 102) C dX9_flushTile_102 q1021 ⟨Nat.le_of_ble_eq_true rfl, Nat.le_of_ble_eq_true rfl⟩ h1 hc_19 (Nat.le_of_ble_eq_true rfl) ?_
          obtain ⟨x4_21, ex4_21, hr⟩ := gLet_some hr
          refine r_iinc (pc := 105) C dX9_flushTile_105 5 rfl rfl (by decide) ex4_21 (ls' := [(4, .int x4_21), (5, .int x5_8), (0, .ref (gad 17 0)), (1, .ref (gad 33 i1)), (2, .int x2), (3, .int x3)]) rfl ?_
          refine r_goto (pc := 108) (tgt := 28) C dX9_flushTile_108 rfl ?_
          refine r_sub C [2, 3, 4, 5, 0] (ls' := [(0, .ref (gad 17 0)), (1, .ref (gad 33 i1)), (2, .int x2), (3, .int x3), (4, .int x4_21)]) rfl ?_
          exact hn (x4_21, M_20) (gSome hr)
      · replace hr := (if_neg c_14).symm.trans hr
        refine r_aload_n (pc := 74) C dX9_flushTile_74 rfl 2 rfl ?_
        refine r_dup (pc := 75) C dX9_flushTile_75 rfl ?_
        refine g33_10 (pc := 76) C dX9_flushTile_76 q432 (e33 (nf := nf) h1) ?_
        refine r_iconst (pc := 79) C dX9_flushTile_79 ki1 ?_
        refine r_iadd (pc := 80) C dX9_flushTile_80 ?_
        obtain ⟨M_22, eM_22, hr⟩ := gLet_some hr
        refine p33_10 (pc := 81) C dX9_flushTile_81 q432 (e33 (nf := nf) h1) eM_22 ?_
        refine r_goto (pc := 84) (tgt := 105) C dX9_flushTile_84 rfl ?_
        obtain ⟨x4_23, ex4_23, hr⟩ := gLet_some hr
        refine r_iinc (pc := 105) C dX9_flushTile_105 5 rfl rfl (by decide) ex4_23 (ls' := [(4, .int x4_23), (5, .int x5_8), (0, .ref (gad 17 0)), (1, .ref (gad 33 i1)), (2, .int x2), (3, .int x3)]) rfl ?_
        refine r_goto (pc := 108) (tgt := 28) C dX9_flushTile_108 rfl ?_
        refine r_sub C [2, 3, 4, 5, 0] (ls' := [(0, .ref (gad 17 0)), (1, .ref (gad 33 i1)), (2, .int x2), (3, .int x3), (4, .int x4_23)]) rfl ?_
        exact hn (x4_23, M_22) (gSome hr)
    · replace hr := (if_pos c_11).symm.trans hr
      refine r_goto (pc := 60) (tgt := 105) C dX9_flushTile_60 rfl ?_
      obtain ⟨x4_24, ex4_24, hr⟩ := gLet_some hr
      refine r_iinc (pc := 105) C dX9_flushTile_105 5 rfl rfl (by decide) ex4_24 (ls' := [(4, .int x4_24), (5, .int x5_8), (0, .ref (gad 17 0)), (1, .ref (gad 33 i1)), (2, .int x2), (3, .int x3)]) rfl ?_
      refine r_goto (pc := 108) (tgt := 28) C dX9_flushTile_108 rfl ?_
      refine r_sub C [2, 3, 4, 5, 0] (ls' := [(0, .ref (gad 17 0)), (1, .ref (gad 33 i1)), (2, .int x2), (3, .int x3), (4, .int x4_24)]) rfl ?_
      exact hn (x4_24, M) (gSome hr)
noncomputable def X9_flushTile_L129 (i1 : Nat) (x2 : Int32) (x3 : Int32) (x4 : Int32) (M : gM) : Option ((Int32 × gM) ⊕ gM) := gG (gin (x2 + 1) 17) ((if (M.1 14 0 (Int32.toNatClampNeg (x2 + 1))) ≤ x4 then some (.inr M) else gG (gin x4 256) ((X9_shadePending i1 (M.1 13 0 (Int32.toNatClampNeg x4)) M).bind (fun M_34 => gLet (x4 + 1) (fun x4_35 => some (.inl (x4_35, M_34)))))))
theorem t_X9_flushTile_L129 {Ψ : gM → Nat → List (Nat × Value) → List Value → Prop} {G : gG5} {nf : Nat} {M : gM} {v0 : Option Value} {M0 : gM} {i1 : Nat} {x2 : Int32} {x3 : Int32} {x4 : Int32} {w : ((Int32 × gM) ⊕ gM)} (C : gC Ψ G (gXn nf) cX9_flushTile RX9 6 (some .int) 2 53 v0 M0) (h1 : i1 < nf + 3) (hr : X9_flushTile_L129 i1 x2 x3 x4 M = some w) (hn : ∀ s, w = .inl s → Ψ s.2 129 [(0, .ref (gad 17 0)), (1, .ref (gad 33 i1)), (2, .int x2), (3, .int x3), (4, .int (s.1))] []) (hx : ∀ e, w = .inr e → (fun e => Ψ e 166 [(1, .ref (gad 33 i1)), (3, .int x3)] []) e) : Ψ M 129 [(0, .ref (gad 17 0)), (1, .ref (gad 33 i1)), (2, .int x2), (3, .int x3), (4, .int x4)] [] := by
  refine r_iload (pc := 129) C dX9_flushTile_129 4 rfl ?_
  refine r_aload_n (pc := 131) C dX9_flushTile_131 rfl 0 rfl ?_
  refine g17_1 (pc := 132) C dX9_flushTile_132 q377 (e17 nf) ?_
  refine g12_8 (pc := 135) C dX9_flushTile_135 q284 (e12 nf) ?_
  refine r_iload_n (pc := 138) C dX9_flushTile_138 rfl 2 rfl ?_
  refine r_iconst (pc := 139) C dX9_flushTile_139 ki1 ?_
  refine r_iadd (pc := 140) C dX9_flushTile_140 ?_
  obtain ⟨g_30, hr⟩ := gG_some hr
  refine r_ialdN (pc := 141) C dX9_flushTile_141 rfl (e14 nf) g_30 rfl ?_
  refine r_icmp_ge (pc := 142) (tgt := 166) C dX9_flushTile_142 rfl (fun c_31 => ?_) (fun c_31 => ?_)
  · replace hr := (if_pos c_31).symm.trans hr
    refine r_sub C [1, 3] (ls' := [(1, .ref (gad 33 i1)), (3, .int x3)]) rfl ?_
    exact hx M (gSome hr)
  · replace hr := (if_neg c_31).symm.trans hr
    refine r_aload_n (pc := 145) C dX9_flushTile_145 rfl 0 rfl ?_
    refine r_aload_n (pc := 146) C dX9_flushTile_146 rfl 1 rfl ?_
    refine r_aload_n (pc := 147) C dX9_flushTile_147 rfl 0 rfl ?_
    refine g17_1 (pc := 148) C dX9_flushTile_148 q377 (e17 nf) ?_
    refine g12_7 (pc := 151) C dX9_flushTile_151 q282 (e12 nf) ?_
    refine r_iload (pc := 154) C dX9_flushTile_154 4 rfl ?_
    obtain ⟨g_32, hr⟩ := gG_some hr
    refine r_ialdN (pc := 156) C dX9_flushTile_156 rfl (e13 nf) g_32 rfl ?_
    obtain ⟨M_34, hc_33, hr⟩ := gBind_some hr
    refine c_X9_shadePending (pc := 157) C dX9_flushTile_157 q1029 ⟨Nat.le_of_ble_eq_true rfl, Nat.le_of_ble_eq_true rfl⟩ h1 hc_33 (Nat.le_of_ble_eq_true rfl) ?_
    obtain ⟨x4_35, ex4_35, hr⟩ := gLet_some hr
    refine r_iinc (pc := 160) C dX9_flushTile_160 4 rfl rfl (by decide) ex4_35 (ls' := [(4, .int x4_35), (0, .ref (gad 17 0)), (1, .ref (gad 33 i1)), (2, .int x2), (3, .int x3)]) rfl ?_
    refine r_goto (pc := 163) (tgt := 129) C dX9_flushTile_163 rfl ?_
    refine r_sub C [1, 2, 3, 4, 0] (ls' := [(0, .ref (gad 17 0)), (1, .ref (gad 33 i1)), (2, .int x2), (3, .int x3), (4, .int x4_35)]) rfl ?_
    exact hn (x4_35, M_34) (gSome hr)
noncomputable def X9_flushTile (i1 : Nat) (p2 : Int32) (M : gM) : Option (Int32 × gM) := (X1_hasTile p2 M).bind (fun r_2 => (if r_2 = 0 then some (0, M) else gG (gin p2 16) (gLet ((gmin (M.1 38 i1 (Int32.toNatClampNeg p2)) 10)) (fun x3_5 => (gIter (fun s => X9_flushTile_L28 i1 p2 x3_5 s.1 s.2) FU (0, M)).bind (fun M_25 => gG (gin p2 16) (gLet (wI M_25 38 i1 (Int32.toNatClampNeg p2) 0) (fun M_27 => gG (gin p2 17) (gLet ((M_27.1 14 0 (Int32.toNatClampNeg p2))) (fun x4_29 => (gIter (fun s => X9_flushTile_L129 i1 p2 x3_5 s.1 s.2) FU (x4_29, M_27)).bind (fun M_36 => (if x3_5 ≤ 0 then some (x3_5, M_36) else gLet (wI M_36 33 i1 12 ((M_36.1 33 i1 12) + 1)) (fun M_38 => some (x3_5, M_38)))))))))))))
theorem k_X9_flushTile {G : gG5} {nf : Nat} {M : gM} {i1 : Nat} {p2 : Int32} (h1 : i1 < nf + 3) {r : Int32} {M1 : gM} (hr : X9_flushTile i1 p2 M = some (r, M1)) : gMet G (gXn nf) yX9_flushTile cX9_flushTile 6 (some .int) 2 53 M [.ref (gad 17 0), .ref (gad 33 i1), .int p2] (some (.int r)) M1 := by
  refine gMet_of pl_X9 rfl (Nat.le_of_ble_eq_true rfl) (fun Ψ C CR => ?_)
  show Ψ M 0 [(0, .ref (gad 17 0)), (1, .ref (gad 33 i1)), (2, .int p2)] []
  refine r_aload_n (pc := 0) C dX9_flushTile_0 rfl 0 rfl ?_
  refine g17_1 (pc := 1) C dX9_flushTile_1 q377 (e17 nf) ?_
  refine r_iload_n (pc := 4) C dX9_flushTile_4 rfl 2 rfl ?_
  obtain ⟨r_2, hc_1, hr⟩ := gBind_some hr
  refine c_X1_hasTile (pc := 5) C dX9_flushTile_5 q971 ⟨Nat.le_of_ble_eq_true rfl, Nat.le_of_ble_eq_true rfl⟩ hc_1 (Nat.le_of_ble_eq_true rfl) ?_
  refine r_if_ne (pc := 8) (tgt := 13) C dX9_flushTile_8 rfl (fun c_3 => ?_) (fun c_3 => ?_)
  · replace hr := (if_neg c_3).symm.trans hr
    refine r_aload_n (pc := 13) C dX9_flushTile_13 rfl 1 rfl ?_
    refine g33_4 (pc := 14) C dX9_flushTile_14 q416 (e33 (nf := nf) h1) ?_
    refine r_iload_n (pc := 17) C dX9_flushTile_17 rfl 2 rfl ?_
    obtain ⟨g_4, hr⟩ := gG_some hr
    refine r_ialdN (pc := 18) C dX9_flushTile_18 rfl (e38 (nf := nf) h1) g_4 rfl ?_
    refine r_bipush (pc := 19) C dX9_flushTile_19 kb10 ?_
    refine r_min (pc := 21) C dX9_flushTile_21 q1015 (by decide) (Nat.le_of_ble_eq_true rfl) ?_
    obtain ⟨x3_5, ex3_5, hr⟩ := gLet_some hr
    refine r_istore_n (pc := 24) C dX9_flushTile_24 rfl (by decide) ex3_5 (ls' := [(3, .int x3_5), (0, .ref (gad 17 0)), (1, .ref (gad 33 i1)), (2, .int p2)]) rfl ?_
    refine r_iconst (pc := 25) C dX9_flushTile_25 ki0 ?_
    refine r_istore (pc := 26) C dX9_flushTile_26 (by decide) rfl (ls' := [(4, .int 0), (3, .int x3_5), (0, .ref (gad 17 0)), (1, .ref (gad 33 i1)), (2, .int p2)]) rfl ?_
    refine r_sub C [2, 3, 4, 1, 0] (ls' := [(0, .ref (gad 17 0)), (1, .ref (gad 33 i1)), (2, .int p2), (3, .int x3_5), (4, .int 0)]) rfl ?_
    obtain ⟨ev, hit, hr⟩ := gBind_some hr
    refine gIter_V (step := fun s => X9_flushTile_L28 i1 p2 x3_5 s.1 s.2) (P := fun s => Ψ s.2 28 [(0, .ref (gad 17 0)), (1, .ref (gad 33 i1)), (2, .int p2), (3, .int x3_5), (4, .int (s.1))] []) (K := (fun e => Ψ e 111 [(0, .ref (gad 17 0)), (1, .ref (gad 33 i1)), (2, .int p2), (3, .int x3_5)] [])) (fun s w hs hn hx => t_X9_flushTile_L28 C h1 hs hn hx) FU (0, M) ev hit ?_
    obtain ⟨M_25, rfl⟩ : ∃ z, z = ev := ⟨_, rfl⟩
    show Ψ M_25 111 [(0, .ref (gad 17 0)), (1, .ref (gad 33 i1)), (2, .int p2), (3, .int x3_5)] []
    refine r_aload_n (pc := 111) C dX9_flushTile_111 rfl 1 rfl ?_
    refine g33_4 (pc := 112) C dX9_flushTile_112 q416 (e33 (nf := nf) h1) ?_
    refine r_iload_n (pc := 115) C dX9_flushTile_115 rfl 2 rfl ?_
    refine r_iconst (pc := 116) C dX9_flushTile_116 ki0 ?_
    obtain ⟨g_26, hr⟩ := gG_some hr
    obtain ⟨M_27, eM_27, hr⟩ := gLet_some hr
    refine r_iastN (pc := 117) C dX9_flushTile_117 rfl (e38 (nf := nf) h1) g_26 rfl eM_27 ?_
    refine r_aload_n (pc := 118) C dX9_flushTile_118 rfl 0 rfl ?_
    refine g17_1 (pc := 119) C dX9_flushTile_119 q377 (e17 nf) ?_
    refine g12_8 (pc := 122) C dX9_flushTile_122 q284 (e12 nf) ?_
    refine r_iload_n (pc := 125) C dX9_flushTile_125 rfl 2 rfl ?_
    obtain ⟨g_28, hr⟩ := gG_some hr
    refine r_ialdN (pc := 126) C dX9_flushTile_126 rfl (e14 nf) g_28 rfl ?_
    obtain ⟨x4_29, ex4_29, hr⟩ := gLet_some hr
    refine r_istore (pc := 127) C dX9_flushTile_127 (by decide) ex4_29 (ls' := [(4, .int x4_29), (0, .ref (gad 17 0)), (1, .ref (gad 33 i1)), (2, .int p2), (3, .int x3_5)]) rfl ?_
    refine r_sub C [1, 2, 3, 4, 0] (ls' := [(0, .ref (gad 17 0)), (1, .ref (gad 33 i1)), (2, .int p2), (3, .int x3_5), (4, .int x4_29)]) rfl ?_
    obtain ⟨ev, hit, hr⟩ := gBind_some hr
    refine gIter_V (step := fun s => X9_flushTile_L129 i1 p2 x3_5 s.1 s.2) (P := fun s => Ψ s.2 129 [(0, .ref (gad 17 0)), (1, .ref (gad 33 i1)), (2, .int p2), (3, .int x3_5), (4, .int (s.1))] []) (K := (fun e => Ψ e 166 [(1, .ref (gad 33 i1)), (3, .int x3_5)] [])) (fun s w hs hn hx => t_X9_flushTile_L129 C h1 hs hn hx) FU (x4_29, M_27) ev hit ?_
    obtain ⟨M_36, rfl⟩ : ∃ z, z = ev := ⟨_, rfl⟩
    show Ψ M_36 166 [(1, .ref (gad 33 i1)), (3, .int x3_5)] []
    refine r_iload_n (pc := 166) C dX9_flushTile_166 rfl 1 rfl ?_
    refine r_if_le (pc := 167) (tgt := 180) C dX9_flushTile_167 rfl (fun c_37 => ?_) (fun c_37 => ?_)
    · replace hr := (if_pos c_37).symm.trans hr
      refine r_iload_n (pc := 180) C dX9_flushTile_180 rfl 1 rfl ?_
      exact r_iret (pc := 181) CR dX9_flushTile_181 (congrArg (fun z => some (Value.int z)) (Prod.mk.inj (gSome hr)).1) (Prod.mk.inj (gSome hr)).2
    · replace hr := (if_neg c_37).symm.trans hr
      refine r_aload_n (pc := 170) C dX9_flushTile_170 rfl 0 rfl ?_
      refine r_dup (pc := 171) C dX9_flushTile_171 rfl ?_
      refine g33_12 (pc := 172) C dX9_flushTile_172 q438 (e33 (nf := nf) h1) ?_
      refine r_iconst (pc := 175) C dX9_flushTile_175 ki1 ?_
      refine r_iadd (pc := 176) C dX9_flushTile_176 ?_
      obtain ⟨M_38, eM_38, hr⟩ := gLet_some hr
      refine p33_12 (pc := 177) C dX9_flushTile_177 q438 (e33 (nf := nf) h1) eM_38 ?_
      refine r_iload_n (pc := 180) C dX9_flushTile_180 rfl 1 rfl ?_
      exact r_iret (pc := 181) CR dX9_flushTile_181 (congrArg (fun z => some (Value.int z)) (Prod.mk.inj (gSome hr)).1) (Prod.mk.inj (gSome hr)).2
  · replace hr := (if_pos c_3).symm.trans hr
    refine r_iconst (pc := 11) C dX9_flushTile_11 ki0 ?_
    exact r_iret (pc := 12) CR dX9_flushTile_12 (congrArg (fun z => some (Value.int z)) (Prod.mk.inj (gSome hr)).1) (Prod.mk.inj (gSome hr)).2
theorem c_X9_flushTile {Ψ : gM → Nat → List (Nat × Value) → List Value → Prop} {G : gG5} {nf : Nat} {cc : ByteArray} {own : String} {nL : Nat} {ret : Option FieldType} {fr lo : Nat} {v0 : Option Value} {M0 M : gM} {pc index : Nat} {ls : List (Nat × Value)} {st : List Value} (C : gC Ψ G (gXn nf) cc own nL ret fr lo v0 M0) (d : decode cc pc = .ok (.invokevirtual index, 3)) (hl : Cond.methodLink own index yX9_flushTile ∈ gws) (hR : 3 ≤ fr ∧ 78 ≤ lo) {i1 : Nat} {p2 : Int32} (h1 : i1 < nf + 3) {r : Int32} {M1 : gM} (hr : X9_flushTile i1 p2 M = some (r, M1)) (hcat : (st.map fun v => v.category).sum ≤ 8) (k : Ψ M1 (pc + 3) ls (.int r :: st)) : Ψ M pc ls (.int p2 :: .ref (gad 33 i1) :: .ref (gad 17 0) :: st) := r_callV C [.ref (gad 33 i1), .int p2] st d (k_X9_flushTile h1 hr) hl q1012 q1013 q121 q1014 hd_X9_flushTile hR rfl (by decide) (e17 nf) rfl hcat k
theorem hd_X9_drawOne : yX9_drawOne.cls ≠ "java/lang/invoke/MethodHandle" ∧ yX9_drawOne.cls ≠ "java/lang/invoke/VarHandle" ∧ (parseMethodDescriptor yX9_drawOne.desc).map (fun d => d.parameters.length) = some 2 := by decide +kernel
noncomputable def X9_drawOne_J88 (i1 : Nat) (x2 : Int32) (x3 : Int32) (x4 : Int32) (x5 : Int32) (M : gM) : Option ((Int32 × Int32 × gM) ⊕ (Int32 × gM)) := gG (gin x5 16) (gG (gin ((x5 * 10) + (M.1 38 i1 (Int32.toNatClampNeg x5))) 160) (gLet (wI M 37 i1 (Int32.toNatClampNeg ((x5 * 10) + (M.1 38 i1 (Int32.toNatClampNeg x5)))) x2) (fun M_13 => gG (gin x5 16) (gG (gin x5 16) (gLet (wI M_13 38 i1 (Int32.toNatClampNeg x5) ((M_13.1 38 i1 (Int32.toNatClampNeg x5)) + 1)) (fun M_16 => gLet (x4 + 1) (fun x4_17 => gLet (x5 + 1) (fun x5_18 => some (.inl (x4_17, x5_18, M_16))))))))))
theorem t_X9_drawOne_J88 {Ψ : gM → Nat → List (Nat × Value) → List Value → Prop} {G : gG5} {nf : Nat} {M : gM} {v0 : Option Value} {M0 : gM} {i1 : Nat} {x2 : Int32} {x3 : Int32} {x4 : Int32} {x5 : Int32} {w : ((Int32 × Int32 × gM) ⊕ (Int32 × gM))} (C : gC Ψ G (gXn nf) cX9_drawOne RX9 6 (some .int) 3 78 v0 M0) (h1 : i1 < nf + 3) (hr : X9_drawOne_J88 i1 x2 x3 x4 x5 M = some w) (hn : ∀ s, w = .inl s → Ψ s.2.2 28 [(0, .ref (gad 17 0)), (1, .ref (gad 33 i1)), (2, .int x2), (3, .int x3), (4, .int (s.1)), (5, .int (s.2.1))] []) (hx : ∀ e, w = .inr e → (fun e => Ψ e.2 127 [(4, .int (e.1))] []) e) : Ψ M 88 [(0, .ref (gad 17 0)), (1, .ref (gad 33 i1)), (2, .int x2), (3, .int x3), (4, .int x4), (5, .int x5)] [] := by
  refine r_aload_n (pc := 88) C dX9_drawOne_88 rfl 1 rfl ?_
  refine g33_3 (pc := 89) C dX9_drawOne_89 q413 (e33 (nf := nf) h1) ?_
  refine r_iload (pc := 92) C dX9_drawOne_92 5 rfl ?_
  refine r_bipush (pc := 94) C dX9_drawOne_94 kb10 ?_
  refine r_imul (pc := 96) C dX9_drawOne_96 ?_
  refine r_aload_n (pc := 97) C dX9_drawOne_97 rfl 1 rfl ?_
  refine g33_4 (pc := 98) C dX9_drawOne_98 q416 (e33 (nf := nf) h1) ?_
  refine r_iload (pc := 101) C dX9_drawOne_101 5 rfl ?_
  obtain ⟨g_11, hr⟩ := gG_some hr
  refine r_ialdN (pc := 103) C dX9_drawOne_103 rfl (e38 (nf := nf) h1) g_11 rfl ?_
  refine r_iadd (pc := 104) C dX9_drawOne_104 ?_
  refine r_iload_n (pc := 105) C dX9_drawOne_105 rfl 2 rfl ?_
  obtain ⟨g_12, hr⟩ := gG_some hr
  obtain ⟨M_13, eM_13, hr⟩ := gLet_some hr
  refine r_iastN (pc := 106) C dX9_drawOne_106 rfl (e37 (nf := nf) h1) g_12 rfl eM_13 ?_
  refine r_aload_n (pc := 107) C dX9_drawOne_107 rfl 1 rfl ?_
  refine g33_4 (pc := 108) C dX9_drawOne_108 q416 (e33 (nf := nf) h1) ?_
  refine r_iload (pc := 111) C dX9_drawOne_111 5 rfl ?_
  refine r_dup2 (pc := 113) C dX9_drawOne_113 rfl rfl ?_
  obtain ⟨g_14, hr⟩ := gG_some hr
  refine r_ialdN (pc := 114) C dX9_drawOne_114 rfl (e38 (nf := nf) h1) g_14 rfl ?_
  refine r_iconst (pc := 115) C dX9_drawOne_115 ki1 ?_
  refine r_iadd (pc := 116) C dX9_drawOne_116 ?_
  obtain ⟨g_15, hr⟩ := gG_some hr
  obtain ⟨M_16, eM_16, hr⟩ := gLet_some hr
  refine r_iastN (pc := 117) C dX9_drawOne_117 rfl (e38 (nf := nf) h1) g_15 rfl eM_16 ?_
  obtain ⟨x4_17, ex4_17, hr⟩ := gLet_some hr
  refine r_iinc (pc := 118) C dX9_drawOne_118 4 rfl rfl (by decide) ex4_17 (ls' := [(4, .int x4_17), (0, .ref (gad 17 0)), (1, .ref (gad 33 i1)), (2, .int x2), (3, .int x3), (5, .int x5)]) rfl ?_
  obtain ⟨x5_18, ex5_18, hr⟩ := gLet_some hr
  refine r_iinc (pc := 121) C dX9_drawOne_121 5 rfl rfl (by decide) ex5_18 (ls' := [(5, .int x5_18), (4, .int x4_17), (0, .ref (gad 17 0)), (1, .ref (gad 33 i1)), (2, .int x2), (3, .int x3)]) rfl ?_
  refine r_goto (pc := 124) (tgt := 28) C dX9_drawOne_124 rfl ?_
  refine r_sub C [2, 3, 4, 5, 1, 0] (ls' := [(0, .ref (gad 17 0)), (1, .ref (gad 33 i1)), (2, .int x2), (3, .int x3), (4, .int x4_17), (5, .int x5_18)]) rfl ?_
  exact hn (x4_17, x5_18, M_16) (gSome hr)
noncomputable def X9_drawOne_J80 (i1 : Nat) (x2 : Int32) (x3 : Int32) (x4 : Int32) (x5 : Int32) (M : gM) : Option ((Int32 × Int32 × gM) ⊕ (Int32 × gM)) := (X9_flushTile i1 x5 M).bind (gU2 (fun r_9 M_10 => X9_drawOne_J88 i1 x2 x3 x4 x5 M_10))
theorem t_X9_drawOne_J80 {Ψ : gM → Nat → List (Nat × Value) → List Value → Prop} {G : gG5} {nf : Nat} {M : gM} {v0 : Option Value} {M0 : gM} {i1 : Nat} {x2 : Int32} {x3 : Int32} {x4 : Int32} {x5 : Int32} {w : ((Int32 × Int32 × gM) ⊕ (Int32 × gM))} (C : gC Ψ G (gXn nf) cX9_drawOne RX9 6 (some .int) 3 78 v0 M0) (h1 : i1 < nf + 3) (hr : X9_drawOne_J80 i1 x2 x3 x4 x5 M = some w) (hn : ∀ s, w = .inl s → Ψ s.2.2 28 [(0, .ref (gad 17 0)), (1, .ref (gad 33 i1)), (2, .int x2), (3, .int x3), (4, .int (s.1)), (5, .int (s.2.1))] []) (hx : ∀ e, w = .inr e → (fun e => Ψ e.2 127 [(4, .int (e.1))] []) e) : Ψ M 80 [(0, .ref (gad 17 0)), (1, .ref (gad 33 i1)), (2, .int x2), (3, .int x3), (4, .int x4), (5, .int x5)] [] := by
  refine r_aload_n (pc := 80) C dX9_drawOne_80 rfl 0 rfl ?_
  refine r_aload_n (pc := 81) C dX9_drawOne_81 rfl 1 rfl ?_
  refine r_iload (pc := 82) C dX9_drawOne_82 5 rfl ?_
  obtain ⟨⟨r_9, M_10⟩, hc_8, hr⟩ := gBind_some hr
  replace hr := gU2_some hr
  refine c_X9_flushTile (pc := 84) C dX9_drawOne_84 q1011 ⟨Nat.le_of_ble_eq_true rfl, Nat.le_of_ble_eq_true rfl⟩ h1 hc_8 (Nat.le_of_ble_eq_true rfl) ?_
  refine r_pop (pc := 87) C dX9_drawOne_87 rfl ?_
  exact t_X9_drawOne_J88 C h1 hr hn hx
noncomputable def X9_drawOne_L28 (i1 : Nat) (x2 : Int32) (x3 : Int32) (x4 : Int32) (x5 : Int32) (M : gM) : Option ((Int32 × Int32 × gM) ⊕ (Int32 × gM)) := (if (M.1 12 0 5) ≤ x5 then some (.inr (x4, M)) else (if ((x3 >>> (x5 &&& 31)) &&& 1) = 0 then gLet (x5 + 1) (fun x5_21 => some (.inl (x4, x5_21, M))) else gG (gin x5 16) ((if (M.1 40 i1 3) ≤ (M.1 38 i1 (Int32.toNatClampNeg x5)) then X9_drawOne_J80 i1 x2 x3 x4 x5 M else gG (gin x5 16) ((if (M.1 38 i1 (Int32.toNatClampNeg x5)) < 10 then X9_drawOne_J88 i1 x2 x3 x4 x5 M else X9_drawOne_J80 i1 x2 x3 x4 x5 M))))))
theorem t_X9_drawOne_L28 {Ψ : gM → Nat → List (Nat × Value) → List Value → Prop} {G : gG5} {nf : Nat} {M : gM} {v0 : Option Value} {M0 : gM} {i1 : Nat} {x2 : Int32} {x3 : Int32} {x4 : Int32} {x5 : Int32} {w : ((Int32 × Int32 × gM) ⊕ (Int32 × gM))} (C : gC Ψ G (gXn nf) cX9_drawOne RX9 6 (some .int) 3 78 v0 M0) (h1 : i1 < nf + 3) (hr : X9_drawOne_L28 i1 x2 x3 x4 x5 M = some w) (hn : ∀ s, w = .inl s → Ψ s.2.2 28 [(0, .ref (gad 17 0)), (1, .ref (gad 33 i1)), (2, .int x2), (3, .int x3), (4, .int (s.1)), (5, .int (s.2.1))] []) (hx : ∀ e, w = .inr e → (fun e => Ψ e.2 127 [(4, .int (e.1))] []) e) : Ψ M 28 [(0, .ref (gad 17 0)), (1, .ref (gad 33 i1)), (2, .int x2), (3, .int x3), (4, .int x4), (5, .int x5)] [] := by
  refine r_iload (pc := 28) C dX9_drawOne_28 5 rfl ?_
  refine r_aload_n (pc := 30) C dX9_drawOne_30 rfl 0 rfl ?_
  refine g17_1 (pc := 31) C dX9_drawOne_31 q377 (e17 nf) ?_
  refine g12_5 (pc := 34) C dX9_drawOne_34 q272 (e12 nf) ?_
  refine r_icmp_ge (pc := 37) (tgt := 127) C dX9_drawOne_37 rfl (fun c_4 => ?_) (fun c_4 => ?_)
  · replace hr := (if_pos c_4).symm.trans hr
    refine r_sub C [4] (ls' := [(4, .int x4)]) rfl ?_
    exact hx (x4, M) (gSome hr)
  · replace hr := (if_neg c_4).symm.trans hr
    refine r_iload_n (pc := 40) C dX9_drawOne_40 rfl 3 rfl ?_
    refine r_iload (pc := 41) C dX9_drawOne_41 5 rfl ?_
    refine r_ishr (pc := 43) C dX9_drawOne_43 ?_
    refine r_iconst (pc := 44) C dX9_drawOne_44 ki1 ?_
    refine r_iand (pc := 45) C dX9_drawOne_45 ?_
    refine r_if_ne (pc := 46) (tgt := 52) C dX9_drawOne_46 rfl (fun c_5 => ?_) (fun c_5 => ?_)
    · replace hr := (if_neg c_5).symm.trans hr
      refine r_aload_n (pc := 52) C dX9_drawOne_52 rfl 1 rfl ?_
      refine g33_4 (pc := 53) C dX9_drawOne_53 q416 (e33 (nf := nf) h1) ?_
      refine r_iload (pc := 56) C dX9_drawOne_56 5 rfl ?_
      obtain ⟨g_6, hr⟩ := gG_some hr
      refine r_ialdN (pc := 58) C dX9_drawOne_58 rfl (e38 (nf := nf) h1) g_6 rfl ?_
      refine r_aload_n (pc := 59) C dX9_drawOne_59 rfl 1 rfl ?_
      refine g33_6 (pc := 60) C dX9_drawOne_60 q423 (e33 (nf := nf) h1) ?_
      refine r_iconst (pc := 63) C dX9_drawOne_63 ki3 ?_
      refine r_ialdN (pc := 64) C dX9_drawOne_64 rfl (e40 (nf := nf) h1) (by decide : gin 3 4 = true) kc3 ?_
      refine r_icmp_ge (pc := 65) (tgt := 80) C dX9_drawOne_65 rfl (fun c_7 => ?_) (fun c_7 => ?_)
      · replace hr := (if_pos c_7).symm.trans hr
        exact t_X9_drawOne_J80 C h1 hr hn hx
      · replace hr := (if_neg c_7).symm.trans hr
        refine r_aload_n (pc := 68) C dX9_drawOne_68 rfl 1 rfl ?_
        refine g33_4 (pc := 69) C dX9_drawOne_69 q416 (e33 (nf := nf) h1) ?_
        refine r_iload (pc := 72) C dX9_drawOne_72 5 rfl ?_
        obtain ⟨g_19, hr⟩ := gG_some hr
        refine r_ialdN (pc := 74) C dX9_drawOne_74 rfl (e38 (nf := nf) h1) g_19 rfl ?_
        refine r_bipush (pc := 75) C dX9_drawOne_75 kb10 ?_
        refine r_icmp_lt (pc := 77) (tgt := 88) C dX9_drawOne_77 rfl (fun c_20 => ?_) (fun c_20 => ?_)
        · replace hr := (if_pos c_20).symm.trans hr
          exact t_X9_drawOne_J88 C h1 hr hn hx
        · replace hr := (if_neg c_20).symm.trans hr
          exact t_X9_drawOne_J80 C h1 hr hn hx
    · replace hr := (if_pos c_5).symm.trans hr
      refine r_goto (pc := 49) (tgt := 121) C dX9_drawOne_49 rfl ?_
      obtain ⟨x5_21, ex5_21, hr⟩ := gLet_some hr
      refine r_iinc (pc := 121) C dX9_drawOne_121 5 rfl rfl (by decide) ex5_21 (ls' := [(5, .int x5_21), (0, .ref (gad 17 0)), (1, .ref (gad 33 i1)), (2, .int x2), (3, .int x3), (4, .int x4)]) rfl ?_
      refine r_goto (pc := 124) (tgt := 28) C dX9_drawOne_124 rfl ?_
      refine r_sub C [1, 2, 3, 4, 5, 0] (ls' := [(0, .ref (gad 17 0)), (1, .ref (gad 33 i1)), (2, .int x2), (3, .int x3), (4, .int x4), (5, .int x5_21)]) rfl ?_
      exact hn (x4, x5_21, M) (gSome hr)
noncomputable def X9_drawOne (i1 : Nat) (p2 : Int32) (M : gM) : Option (Int32 × gM) := (X4_has 1 p2 M).bind (fun r_2 => (if r_2 = 0 then (gIter (fun s => X9_drawOne_L28 i1 p2 0 s.1 s.2.1 s.2.2) FU (0, 0, M)).bind (gU2 (fun x4_22 M_23 => some (x4_22, M_23))) else (X9_touchedBy i1 p2 M).bind (fun r_25 => (gIter (fun s => X9_drawOne_L28 i1 p2 r_25 s.1 s.2.1 s.2.2) FU (0, 0, M)).bind (gU2 (fun x4_26 M_27 => some (x4_26, M_27))))))
theorem k_X9_drawOne {G : gG5} {nf : Nat} {M : gM} {i1 : Nat} {p2 : Int32} (h1 : i1 < nf + 3) {r : Int32} {M1 : gM} (hr : X9_drawOne i1 p2 M = some (r, M1)) : gMet G (gXn nf) yX9_drawOne cX9_drawOne 6 (some .int) 3 78 M [.ref (gad 17 0), .ref (gad 33 i1), .int p2] (some (.int r)) M1 := by
  refine gMet_of pl_X9 rfl (Nat.le_of_ble_eq_true rfl) (fun Ψ C CR => ?_)
  show Ψ M 0 [(0, .ref (gad 17 0)), (1, .ref (gad 33 i1)), (2, .int p2)] []
  refine r_aload_n (pc := 0) C dX9_drawOne_0 rfl 0 rfl ?_
  refine g17_0 (pc := 1) C dX9_drawOne_1 q376 (e17 nf) ?_
  refine r_iload_n (pc := 4) C dX9_drawOne_4 rfl 2 rfl ?_
  obtain ⟨r_2, hc_1, hr⟩ := gBind_some hr
  refine c_X4_has (pc := 5) C dX9_drawOne_5 q966 ⟨Nat.le_of_ble_eq_true rfl, Nat.le_of_ble_eq_true rfl⟩ (by decide) hc_1 (Nat.le_of_ble_eq_true rfl) ?_
  refine r_if_eq (pc := 8) (tgt := 20) C dX9_drawOne_8 rfl (fun c_3 => ?_) (fun c_3 => ?_)
  · replace hr := (if_pos c_3).symm.trans hr
    refine r_iconst (pc := 20) C dX9_drawOne_20 ki0 ?_
    refine r_istore_n (pc := 21) C dX9_drawOne_21 rfl (by decide) rfl (ls' := [(3, .int 0), (0, .ref (gad 17 0)), (1, .ref (gad 33 i1)), (2, .int p2)]) rfl ?_
    refine r_iconst (pc := 22) C dX9_drawOne_22 ki0 ?_
    refine r_istore (pc := 23) C dX9_drawOne_23 (by decide) rfl (ls' := [(4, .int 0), (3, .int 0), (0, .ref (gad 17 0)), (1, .ref (gad 33 i1)), (2, .int p2)]) rfl ?_
    refine r_iconst (pc := 25) C dX9_drawOne_25 ki0 ?_
    refine r_istore (pc := 26) C dX9_drawOne_26 (by decide) rfl (ls' := [(5, .int 0), (4, .int 0), (3, .int 0), (0, .ref (gad 17 0)), (1, .ref (gad 33 i1)), (2, .int p2)]) rfl ?_
    refine r_sub C [3, 4, 5, 2, 1, 0] (ls' := [(0, .ref (gad 17 0)), (1, .ref (gad 33 i1)), (2, .int p2), (3, .int 0), (4, .int 0), (5, .int 0)]) rfl ?_
    obtain ⟨ev, hit, hr⟩ := gBind_some hr
    refine gIter_V (step := fun s => X9_drawOne_L28 i1 p2 0 s.1 s.2.1 s.2.2) (P := fun s => Ψ s.2.2 28 [(0, .ref (gad 17 0)), (1, .ref (gad 33 i1)), (2, .int p2), (3, .int 0), (4, .int (s.1)), (5, .int (s.2.1))] []) (K := (fun e => Ψ e.2 127 [(4, .int (e.1))] [])) (fun s w hs hn hx => t_X9_drawOne_L28 C h1 hs hn hx) FU (0, 0, M) ev hit ?_
    obtain ⟨x4_22, M_23⟩ := ev
    replace hr := gU2_some hr
    show Ψ M_23 127 [(4, .int x4_22)] []
    refine r_iload (pc := 127) C dX9_drawOne_127 0 rfl ?_
    exact r_iret (pc := 129) CR dX9_drawOne_129 (congrArg (fun z => some (Value.int z)) (Prod.mk.inj (gSome hr)).1) (Prod.mk.inj (gSome hr)).2
  · replace hr := (if_neg c_3).symm.trans hr
    refine r_aload_n (pc := 11) C dX9_drawOne_11 rfl 0 rfl ?_
    refine r_aload_n (pc := 12) C dX9_drawOne_12 rfl 1 rfl ?_
    refine r_iload_n (pc := 13) C dX9_drawOne_13 rfl 2 rfl ?_
    obtain ⟨r_25, hc_24, hr⟩ := gBind_some hr
    refine c_X9_touchedBy (pc := 14) C dX9_drawOne_14 q967 ⟨Nat.le_of_ble_eq_true rfl, Nat.le_of_ble_eq_true rfl⟩ h1 hc_24 (Nat.le_of_ble_eq_true rfl) ?_
    refine r_goto (pc := 17) (tgt := 21) C dX9_drawOne_17 rfl ?_
    refine r_istore_n (pc := 21) C dX9_drawOne_21 rfl (by decide) rfl (ls' := [(3, .int r_25), (0, .ref (gad 17 0)), (1, .ref (gad 33 i1)), (2, .int p2)]) rfl ?_
    refine r_iconst (pc := 22) C dX9_drawOne_22 ki0 ?_
    refine r_istore (pc := 23) C dX9_drawOne_23 (by decide) rfl (ls' := [(4, .int 0), (3, .int r_25), (0, .ref (gad 17 0)), (1, .ref (gad 33 i1)), (2, .int p2)]) rfl ?_
    refine r_iconst (pc := 25) C dX9_drawOne_25 ki0 ?_
    refine r_istore (pc := 26) C dX9_drawOne_26 (by decide) rfl (ls' := [(5, .int 0), (4, .int 0), (3, .int r_25), (0, .ref (gad 17 0)), (1, .ref (gad 33 i1)), (2, .int p2)]) rfl ?_
    refine r_sub C [3, 4, 5, 2, 1, 0] (ls' := [(0, .ref (gad 17 0)), (1, .ref (gad 33 i1)), (2, .int p2), (3, .int r_25), (4, .int 0), (5, .int 0)]) rfl ?_
    obtain ⟨ev, hit, hr⟩ := gBind_some hr
    refine gIter_V (step := fun s => X9_drawOne_L28 i1 p2 r_25 s.1 s.2.1 s.2.2) (P := fun s => Ψ s.2.2 28 [(0, .ref (gad 17 0)), (1, .ref (gad 33 i1)), (2, .int p2), (3, .int r_25), (4, .int (s.1)), (5, .int (s.2.1))] []) (K := (fun e => Ψ e.2 127 [(4, .int (e.1))] [])) (fun s w hs hn hx => t_X9_drawOne_L28 C h1 hs hn hx) FU (0, 0, M) ev hit ?_
    obtain ⟨x4_26, M_27⟩ := ev
    replace hr := gU2_some hr
    show Ψ M_27 127 [(4, .int x4_26)] []
    refine r_iload (pc := 127) C dX9_drawOne_127 0 rfl ?_
    exact r_iret (pc := 129) CR dX9_drawOne_129 (congrArg (fun z => some (Value.int z)) (Prod.mk.inj (gSome hr)).1) (Prod.mk.inj (gSome hr)).2
theorem c_X9_drawOne {Ψ : gM → Nat → List (Nat × Value) → List Value → Prop} {G : gG5} {nf : Nat} {cc : ByteArray} {own : String} {nL : Nat} {ret : Option FieldType} {fr lo : Nat} {v0 : Option Value} {M0 M : gM} {pc index : Nat} {ls : List (Nat × Value)} {st : List Value} (C : gC Ψ G (gXn nf) cc own nL ret fr lo v0 M0) (d : decode cc pc = .ok (.invokevirtual index, 3)) (hl : Cond.methodLink own index yX9_drawOne ∈ gws) (hR : 4 ≤ fr ∧ 103 ≤ lo) {i1 : Nat} {p2 : Int32} (h1 : i1 < nf + 3) {r : Int32} {M1 : gM} (hr : X9_drawOne i1 p2 M = some (r, M1)) (hcat : (st.map fun v => v.category).sum ≤ 8) (k : Ψ M1 (pc + 3) ls (.int r :: st)) : Ψ M pc ls (.int p2 :: .ref (gad 33 i1) :: .ref (gad 17 0) :: st) := r_callV C [.ref (gad 33 i1), .int p2] st d (k_X9_drawOne h1 hr) hl q1008 q1009 q121 q1010 hd_X9_drawOne hR rfl (by decide) (e17 nf) rfl hcat k
