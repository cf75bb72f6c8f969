theorem hd_X9_flushAll : yX9_flushAll.cls ≠ "java/lang/invoke/MethodHandle" ∧ yX9_flushAll.cls ≠ "java/lang/invoke/VarHandle" ∧ (parseMethodDescriptor yX9_flushAll.desc).map (fun d => d.parameters.length) = some 1 := by decide +kernel
noncomputable def X9_flushAll_L4 (i1 : Nat) (x2 : Int32) (x3 : Int32) (M : gM) : Option ((Int32 × Int32 × gM) ⊕ (Int32 × gM)) := (if (M.1 12 0 5) ≤ x3 then some (.inr (x2, M)) else (X9_flushTile i1 x3 M).bind (gU2 (fun r_3 M_4 => (if r_3 ≤ 0 then gLet (x3 + 1) (fun x3_6 => some (.inl (x2, x3_6, M_4))) else gLet (x2 + 1) (fun x2_7 => gLet (x3 + 1) (fun x3_8 => some (.inl (x2_7, x3_8, M_4))))))))
theorem t_X9_flushAll_L4 {Ψ : gM → Nat → List (Nat × Value) → List Value → Prop} {G : gG5} {nf : Nat} {M : gM} {v0 : Option Value} {M0 : gM} {i1 : Nat} {x2 : Int32} {x3 : Int32} {w : ((Int32 × Int32 × gM) ⊕ (Int32 × gM))} (C : gC Ψ G (gXn nf) cX9_flushAll RX9 4 (some .int) 3 78 v0 M0) (h1 : i1 < nf + 3) (hr : X9_flushAll_L4 i1 x2 x3 M = some w) (hn : ∀ s, w = .inl s → Ψ s.2.2 4 [(0, .ref (gad 17 0)), (1, .ref (gad 33 i1)), (2, .int (s.1)), (3, .int (s.2.1))] []) (hx : ∀ e, w = .inr e → (fun e => Ψ e.2 33 [(2, .int (e.1))] []) e) : Ψ M 4 [(0, .ref (gad 17 0)), (1, .ref (gad 33 i1)), (2, .int x2), (3, .int x3)] [] := by
  refine r_iload_n (pc := 4) C dX9_flushAll_4 rfl 3 rfl ?_
  refine r_aload_n (pc := 5) C dX9_flushAll_5 rfl 0 rfl ?_
  refine g17_1 (pc := 6) C dX9_flushAll_6 q377 (e17 nf) ?_
  refine g12_5 (pc := 9) C dX9_flushAll_9 q272 (e12 nf) ?_
  refine r_icmp_ge (pc := 12) (tgt := 33) C dX9_flushAll_12 rfl (fun c_1 => ?_) (fun c_1 => ?_)
  · replace hr := (if_pos c_1).symm.trans hr
    refine r_sub C [2] (ls' := [(2, .int x2)]) rfl ?_
    exact hx (x2, M) (gSome hr)
  · replace hr := (if_neg c_1).symm.trans hr
    refine r_aload_n (pc := 15) C dX9_flushAll_15 rfl 0 rfl ?_
    refine r_aload_n (pc := 16) C dX9_flushAll_16 rfl 1 rfl ?_
    refine r_iload_n (pc := 17) C dX9_flushAll_17 rfl 3 rfl ?_
    obtain ⟨⟨r_3, M_4⟩, hc_2, hr⟩ := gBind_some hr
    replace hr := gU2_some hr
    refine c_X9_flushTile (pc := 18) C dX9_flushAll_18 q1011 ⟨Nat.le_of_ble_eq_true rfl, Nat.le_of_ble_eq_true rfl⟩ h1 hc_2 (Nat.le_of_ble_eq_true rfl) ?_
    refine r_if_le (pc := 21) (tgt := 27) C dX9_flushAll_21 rfl (fun c_5 => ?_) (fun c_5 => ?_)
    · replace hr := (if_pos c_5).symm.trans hr
      obtain ⟨x3_6, ex3_6, hr⟩ := gLet_some hr
      refine r_iinc (pc := 27) C dX9_flushAll_27 3 rfl rfl (by decide) ex3_6 (ls' := [(3, .int x3_6), (0, .ref (gad 17 0)), (1, .ref (gad 33 i1)), (2, .int x2)]) rfl ?_
      refine r_goto (pc := 30) (tgt := 4) C dX9_flushAll_30 rfl ?_
      refine r_sub C [1, 2, 3, 0] (ls' := [(0, .ref (gad 17 0)), (1, .ref (gad 33 i1)), (2, .int x2), (3, .int x3_6)]) rfl ?_
      exact hn (x2, x3_6, M_4) (gSome hr)
    · replace hr := (if_neg c_5).symm.trans hr
      obtain ⟨x2_7, ex2_7, hr⟩ := gLet_some hr
      refine r_iinc (pc := 24) C dX9_flushAll_24 2 rfl rfl (by decide) ex2_7 (ls' := [(2, .int x2_7), (0, .ref (gad 17 0)), (1, .ref (gad 33 i1)), (3, .int x3)]) rfl ?_
      obtain ⟨x3_8, ex3_8, hr⟩ := gLet_some hr
      refine r_iinc (pc := 27) C dX9_flushAll_27 3 rfl rfl (by decide) ex3_8 (ls' := [(3, .int x3_8), (2, .int x2_7), (0, .ref (gad 17 0)), (1, .ref (gad 33 i1))]) rfl ?_
      refine r_goto (pc := 30) (tgt := 4) C dX9_flushAll_30 rfl ?_
      refine r_sub C [2, 3, 1, 0] (ls' := [(0, .ref (gad 17 0)), (1, .ref (gad 33 i1)), (2, .int x2_7), (3, .int x3_8)]) rfl ?_
      exact hn (x2_7, x3_8, M_4) (gSome hr)
noncomputable def X9_flushAll (i1 : Nat) (M : gM) : Option (Int32 × gM) := (gIter (fun s => X9_flushAll_L4 i1 s.1 s.2.1 s.2.2) FU (0, 0, M)).bind (gU2 (fun x2_9 M_10 => some (x2_9, M_10)))
theorem k_X9_flushAll {G : gG5} {nf : Nat} {M : gM} {i1 : Nat} (h1 : i1 < nf + 3) {r : Int32} {M1 : gM} (hr : X9_flushAll i1 M = some (r, M1)) : gMet G (gXn nf) yX9_flushAll cX9_flushAll 4 (some .int) 3 78 M [.ref (gad 17 0), .ref (gad 33 i1)] (some (.int r)) M1 := by
  refine gMet_of pl_X9 rfl (Nat.le_of_ble_eq_true rfl) (fun Ψ C CR => ?_)
  show Ψ M 0 [(0, .ref (gad 17 0)), (1, .ref (gad 33 i1))] []
  refine r_iconst (pc := 0) C dX9_flushAll_0 ki0 ?_
  refine r_istore_n (pc := 1) C dX9_flushAll_1 rfl (by decide) rfl (ls' := [(2, .int 0), (0, .ref (gad 17 0)), (1, .ref (gad 33 i1))]) rfl ?_
  refine r_iconst (pc := 2) C dX9_flushAll_2 ki0 ?_
  refine r_istore_n (pc := 3) C dX9_flushAll_3 rfl (by decide) rfl (ls' := [(3, .int 0), (2, .int 0), (0, .ref (gad 17 0)), (1, .ref (gad 33 i1))]) rfl ?_
  refine r_sub C [2, 3, 1, 0] (ls' := [(0, .ref (gad 17 0)), (1, .ref (gad 33 i1)), (2, .int 0), (3, .int 0)]) rfl ?_
  obtain ⟨ev, hit, hr⟩ := gBind_some hr
  refine gIter_V (step := fun s => X9_flushAll_L4 i1 s.1 s.2.1 s.2.2) (P := fun s => Ψ s.2.2 4 [(0, .ref (gad 17 0)), (1, .ref (gad 33 i1)), (2, .int (s.1)), (3, .int (s.2.1))] []) (K := (fun e => Ψ e.2 33 [(2, .int (e.1))] [])) (fun s w hs hn hx => t_X9_flushAll_L4 C h1 hs hn hx) FU (0, 0, M) ev hit ?_
  obtain ⟨x2_9, M_10⟩ := ev
  replace hr := gU2_some hr
  show Ψ M_10 33 [(2, .int x2_9)] []
  refine r_iload_n (pc := 33) C dX9_flushAll_33 rfl 0 rfl ?_
  exact r_iret (pc := 34) CR dX9_flushAll_34 (congrArg (fun z => some (Value.int z)) (Prod.mk.inj (gSome hr)).1) (Prod.mk.inj (gSome hr)).2
theorem c_X9_flushAll {Ψ : gM → Nat → List (Nat × Value) → List Value → Prop} {G : gG5} {nf : Nat} {cc : ByteArray} {own : String} {nL : Nat} {ret : Option FieldType} {fr lo : Nat} {v0 : Option Value} {M0 M : gM} {pc index : Nat} {ls : List (Nat × Value)} {st : List Value} (C : gC Ψ G (gXn nf) cc own nL ret fr lo v0 M0) (d : decode cc pc = .ok (.invokevirtual index, 3)) (hl : Cond.methodLink own index yX9_flushAll ∈ gws) (hR : 4 ≤ fr ∧ 101 ≤ lo) {i1 : Nat} (h1 : i1 < nf + 3) {r : Int32} {M1 : gM} (hr : X9_flushAll i1 M = some (r, M1)) (hcat : (st.map fun v => v.category).sum ≤ 8) (k : Ψ M1 (pc + 3) ls (.int r :: st)) : Ψ M pc ls (.ref (gad 33 i1) :: .ref (gad 17 0) :: st) := r_callV C [.ref (gad 33 i1)] st d (k_X9_flushAll h1 hr) hl q1038 q1039 q121 q1040 hd_X9_flushAll hR rfl (by decide) (e17 nf) rfl hcat k
theorem hd_X9_moveCorner : yX9_moveCorner.cls ≠ "java/lang/invoke/MethodHandle" ∧ yX9_moveCorner.cls ≠ "java/lang/invoke/VarHandle" ∧ (parseMethodDescriptor yX9_moveCorner.desc).map (fun d => d.parameters.length) = some 5 := by decide +kernel
noncomputable def X9_moveCorner (i1 : Nat) (p2 : Int32) (p3 : Int32) (p4 : Int32) (p5 : Int32) (M : gM) : Option (Int32 × gM) := (X4_has 1 p2 M).bind (fun r_2 => (if r_2 = 0 then some ((-1000000000), M) else (if p3 < 0 then some ((-1000000000), M) else (if p3 ≤ 2 then gG (gin ((p2 * 6) + (p3 * 2)) 60) (gG (gin ((p2 * 6) + (p3 * 2)) 60) (gLet (wI M 39 i1 (Int32.toNatClampNeg ((p2 * 6) + (p3 * 2))) ((M.1 39 i1 (Int32.toNatClampNeg ((p2 * 6) + (p3 * 2)))) + p4)) (fun M_8 => gG (gin (((p2 * 6) + (p3 * 2)) + 1) 60) (gG (gin (((p2 * 6) + (p3 * 2)) + 1) 60) (gLet (wI M_8 39 i1 (Int32.toNatClampNeg (((p2 * 6) + (p3 * 2)) + 1)) ((M_8.1 39 i1 (Int32.toNatClampNeg (((p2 * 6) + (p3 * 2)) + 1))) + p5)) (fun M_11 => gG (gin p2 10) ((X6_fitTo (Int32.toNatClampNeg p2) 1 p2 i1 M_11).bind (fun M_14 => gG (gin p2 10) (some ((M_14.1 19 (Int32.toNatClampNeg p2) 2), M_14)))))))))) else some ((-1000000000), M)))))
theorem k_X9_moveCorner {G : gG5} {nf : Nat} {M : gM} {i1 : Nat} {p2 : Int32} {p3 : Int32} {p4 : Int32} {p5 : Int32} (h1 : i1 < nf + 3) {r : Int32} {M1 : gM} (hr : X9_moveCorner i1 p2 p3 p4 p5 M = some (r, M1)) : gMet G (gXn nf) yX9_moveCorner cX9_moveCorner 6 (some .int) 4 105 M [.ref (gad 17 0), .ref (gad 33 i1), .int p2, .int p3, .int p4, .int p5] (some (.int r)) M1 := by
  refine gMet_of pl_X9 rfl (Nat.le_of_ble_eq_true rfl) (fun Ψ C CR => ?_)
  show Ψ M 0 [(0, .ref (gad 17 0)), (1, .ref (gad 33 i1)), (2, .int p2), (3, .int p3), (4, .int p4), (5, .int p5)] []
  refine r_aload_n (pc := 0) C dX9_moveCorner_0 rfl 0 rfl ?_
  refine g17_0 (pc := 1) C dX9_moveCorner_1 q376 (e17 nf) ?_
  refine r_iload_n (pc := 4) C dX9_moveCorner_4 rfl 2 rfl ?_
  obtain ⟨r_2, hc_1, hr⟩ := gBind_some hr
  refine c_X4_has (pc := 5) C dX9_moveCorner_5 q966 ⟨Nat.le_of_ble_eq_true rfl, Nat.le_of_ble_eq_true rfl⟩ (by decide) hc_1 (Nat.le_of_ble_eq_true rfl) ?_
  refine r_if_eq (pc := 8) (tgt := 20) C dX9_moveCorner_8 rfl (fun c_3 => ?_) (fun c_3 => ?_)
  · replace hr := (if_pos c_3).symm.trans hr
    refine r_ldc (pc := 20) C dX9_moveCorner_20 q1046 ?_
    exact r_iret (pc := 22) CR dX9_moveCorner_22 (congrArg (fun z => some (Value.int z)) (Prod.mk.inj (gSome hr)).1) (Prod.mk.inj (gSome hr)).2
  · replace hr := (if_neg c_3).symm.trans hr
    refine r_iload_n (pc := 11) C dX9_moveCorner_11 rfl 3 rfl ?_
    refine r_if_lt (pc := 12) (tgt := 20) C dX9_moveCorner_12 rfl (fun c_4 => ?_) (fun c_4 => ?_)
    · replace hr := (if_pos c_4).symm.trans hr
      refine r_ldc (pc := 20) C dX9_moveCorner_20 q1046 ?_
      exact r_iret (pc := 22) CR dX9_moveCorner_22 (congrArg (fun z => some (Value.int z)) (Prod.mk.inj (gSome hr)).1) (Prod.mk.inj (gSome hr)).2
    · replace hr := (if_neg c_4).symm.trans hr
      refine r_iload_n (pc := 15) C dX9_moveCorner_15 rfl 3 rfl ?_
      refine r_iconst (pc := 16) C dX9_moveCorner_16 ki2 ?_
      refine r_icmp_le (pc := 17) (tgt := 23) C dX9_moveCorner_17 rfl (fun c_5 => ?_) (fun c_5 => ?_)
      · replace hr := (if_pos c_5).symm.trans hr
        refine r_aload_n (pc := 23) C dX9_moveCorner_23 rfl 1 rfl ?_
        refine g33_5 (pc := 24) C dX9_moveCorner_24 q419 (e33 (nf := nf) h1) ?_
        refine r_iload_n (pc := 27) C dX9_moveCorner_27 rfl 2 rfl ?_
        refine r_bipush (pc := 28) C dX9_moveCorner_28 kb6 ?_
        refine r_imul (pc := 30) C dX9_moveCorner_30 ?_
        refine r_iload_n (pc := 31) C dX9_moveCorner_31 rfl 3 rfl ?_
        refine r_iconst (pc := 32) C dX9_moveCorner_32 ki2 ?_
        refine r_imul (pc := 33) C dX9_moveCorner_33 ?_
        refine r_iadd (pc := 34) C dX9_moveCorner_34 ?_
        refine r_dup2 (pc := 35) C dX9_moveCorner_35 rfl rfl ?_
        obtain ⟨g_6, hr⟩ := gG_some hr
        refine r_ialdN (pc := 36) C dX9_moveCorner_36 rfl (e39 (nf := nf) h1) g_6 rfl ?_
        refine r_iload (pc := 37) C dX9_moveCorner_37 4 rfl ?_
        refine r_iadd (pc := 39) C dX9_moveCorner_39 ?_
        obtain ⟨g_7, hr⟩ := gG_some hr
        obtain ⟨M_8, eM_8, hr⟩ := gLet_some hr
        refine r_iastN (pc := 40) C dX9_moveCorner_40 rfl (e39 (nf := nf) h1) g_7 rfl eM_8 ?_
        refine r_aload_n (pc := 41) C dX9_moveCorner_41 rfl 1 rfl ?_
        refine g33_5 (pc := 42) C dX9_moveCorner_42 q419 (e33 (nf := nf) h1) ?_
        refine r_iload_n (pc := 45) C dX9_moveCorner_45 rfl 2 rfl ?_
        refine r_bipush (pc := 46) C dX9_moveCorner_46 kb6 ?_
        refine r_imul (pc := 48) C dX9_moveCorner_48 ?_
        refine r_iload_n (pc := 49) C dX9_moveCorner_49 rfl 3 rfl ?_
        refine r_iconst (pc := 50) C dX9_moveCorner_50 ki2 ?_
        refine r_imul (pc := 51) C dX9_moveCorner_51 ?_
        refine r_iadd (pc := 52) C dX9_moveCorner_52 ?_
        refine r_iconst (pc := 53) C dX9_moveCorner_53 ki1 ?_
        refine r_iadd (pc := 54) C dX9_moveCorner_54 ?_
        refine r_dup2 (pc := 55) C dX9_moveCorner_55 rfl rfl ?_
        obtain ⟨g_9, hr⟩ := gG_some hr
        refine r_ialdN (pc := 56) C dX9_moveCorner_56 rfl (e39 (nf := nf) h1) g_9 rfl ?_
        refine r_iload (pc := 57) C dX9_moveCorner_57 5 rfl ?_
        refine r_iadd (pc := 59) C dX9_moveCorner_59 ?_
        obtain ⟨g_10, hr⟩ := gG_some hr
        obtain ⟨M_11, eM_11, hr⟩ := gLet_some hr
        refine r_iastN (pc := 60) C dX9_moveCorner_60 rfl (e39 (nf := nf) h1) g_10 rfl eM_11 ?_
        refine r_aload_n (pc := 61) C dX9_moveCorner_61 rfl 0 rfl ?_
        refine g17_2 (pc := 62) C dX9_moveCorner_62 q378 (e17 nf) ?_
        refine r_iload_n (pc := 65) C dX9_moveCorner_65 rfl 2 rfl ?_
        obtain ⟨g_12, hr⟩ := gG_some hr
        refine a18 (pc := 66) C dX9_moveCorner_66 g_12 ?_
        refine r_aload_n (pc := 67) C dX9_moveCorner_67 rfl 0 rfl ?_
        refine g17_0 (pc := 68) C dX9_moveCorner_68 q376 (e17 nf) ?_
        refine r_aload_n (pc := 71) C dX9_moveCorner_71 rfl 0 rfl ?_
        refine g17_1 (pc := 72) C dX9_moveCorner_72 q377 (e17 nf) ?_
        refine r_iload_n (pc := 75) C dX9_moveCorner_75 rfl 2 rfl ?_
        refine r_aload_n (pc := 76) C dX9_moveCorner_76 rfl 1 rfl ?_
        refine g33_5 (pc := 77) C dX9_moveCorner_77 q419 (e33 (nf := nf) h1) ?_
        obtain ⟨M_14, hc_13, hr⟩ := gBind_some hr
        refine c_X6_fitTo (pc := 80) C dX9_moveCorner_80 q798 ⟨Nat.le_of_ble_eq_true rfl, Nat.le_of_ble_eq_true rfl⟩ (gin_lt g_12) (by decide) h1 hc_13 (Nat.le_of_ble_eq_true rfl) ?_
        refine r_aload_n (pc := 83) C dX9_moveCorner_83 rfl 0 rfl ?_
        refine g17_2 (pc := 84) C dX9_moveCorner_84 q378 (e17 nf) ?_
        refine r_iload_n (pc := 87) C dX9_moveCorner_87 rfl 2 rfl ?_
        obtain ⟨g_15, hr⟩ := gG_some hr
        refine a18 (pc := 88) C dX9_moveCorner_88 g_15 ?_
        refine g19_2 (pc := 89) C dX9_moveCorner_89 q330 (e19 (nf := nf) (gin_lt g_15)) ?_
        exact r_iret (pc := 92) CR dX9_moveCorner_92 (congrArg (fun z => some (Value.int z)) (Prod.mk.inj (gSome hr)).1) (Prod.mk.inj (gSome hr)).2
      · replace hr := (if_neg c_5).symm.trans hr
        refine r_ldc (pc := 20) C dX9_moveCorner_20 q1046 ?_
        exact r_iret (pc := 22) CR dX9_moveCorner_22 (congrArg (fun z => some (Value.int z)) (Prod.mk.inj (gSome hr)).1) (Prod.mk.inj (gSome hr)).2
theorem c_X9_moveCorner {Ψ : gM → Nat → List (Nat × Value) → List Value → Prop} {G : gG5} {nf : Nat} {cc : ByteArray} {own : String} {nL : Nat} {ret : Option FieldType} {fr lo : Nat} {v0 : Option Value} {M0 M : gM} {pc index : Nat} {ls : List (Nat × Value)} {st : List Value} (C : gC Ψ G (gXn nf) cc own nL ret fr lo v0 M0) (d : decode cc pc = .ok (.invokevirtual index, 3)) (hl : Cond.methodLink own index yX9_moveCorner ∈ gws) (hR : 5 ≤ fr ∧ 130 ≤ lo) {i1 : Nat} {p2 : Int32} {p3 : Int32} {p4 : Int32} {p5 : Int32} (h1 : i1 < nf + 3) {r : Int32} {M1 : gM} (hr : X9_moveCorner i1 p2 p3 p4 p5 M = some (r, M1)) (hcat : (st.map fun v => v.category).sum ≤ 8) (k : Ψ M1 (pc + 3) ls (.int r :: st)) : Ψ M pc ls (.int p5 :: .int p4 :: .int p3 :: .int p2 :: .ref (gad 33 i1) :: .ref (gad 17 0) :: st) := r_callV C [.ref (gad 33 i1), .int p2, .int p3, .int p4, .int p5] st d (k_X9_moveCorner h1 hr) hl q1044 q27 q121 q1045 hd_X9_moveCorner hR rfl (by decide) (e17 nf) rfl hcat k
theorem hd_X9_changeRule : yX9_changeRule.cls ≠ "java/lang/invoke/MethodHandle" ∧ yX9_changeRule.cls ≠ "java/lang/invoke/VarHandle" ∧ (parseMethodDescriptor yX9_changeRule.desc).map (fun d => d.parameters.length) = some 3 := by decide +kernel
noncomputable def X9_changeRule (i1 : Nat) (p2 : Int32) (p3 : Int32) (M : gM) : Option (Int32 × gM) := (if p2 < 0 then some ((-1), M) else (if p2 < 4 then gG (gin p2 4) (gLet ((M.1 40 i1 (Int32.toNatClampNeg p2))) (fun x4_4 => gG (gin p2 4) (gLet (wI M 40 i1 (Int32.toNatClampNeg p2) p3) (fun M_6 => some (x4_4, M_6))))) else some ((-1), M)))
theorem k_X9_changeRule {G : gG5} {nf : Nat} {M : gM} {i1 : Nat} {p2 : Int32} {p3 : Int32} (h1 : i1 < nf + 3) {r : Int32} {M1 : gM} (hr : X9_changeRule i1 p2 p3 M = some (r, M1)) : gMet G (gXn nf) yX9_changeRule cX9_changeRule 5 (some .int) 0 0 M [.ref (gad 17 0), .ref (gad 33 i1), .int p2, .int p3] (some (.int r)) M1 := by
  refine gMet_of pl_X9 rfl (Nat.le_of_ble_eq_true rfl) (fun Ψ C CR => ?_)
  show Ψ M 0 [(0, .ref (gad 17 0)), (1, .ref (gad 33 i1)), (2, .int p2), (3, .int p3)] []
  refine r_iload_n (pc := 0) C dX9_changeRule_0 rfl 2 rfl ?_
  refine r_if_lt (pc := 1) (tgt := 9) C dX9_changeRule_1 rfl (fun c_1 => ?_) (fun c_1 => ?_)
  · replace hr := (if_pos c_1).symm.trans hr
    refine r_iconst (pc := 9) C dX9_changeRule_9 kim1 ?_
    exact r_iret (pc := 10) CR dX9_changeRule_10 (congrArg (fun z => some (Value.int z)) (Prod.mk.inj (gSome hr)).1) (Prod.mk.inj (gSome hr)).2
  · replace hr := (if_neg c_1).symm.trans hr
    refine r_iload_n (pc := 4) C dX9_changeRule_4 rfl 2 rfl ?_
    refine r_iconst (pc := 5) C dX9_changeRule_5 ki4 ?_
    refine r_icmp_lt (pc := 6) (tgt := 11) C dX9_changeRule_6 rfl (fun c_2 => ?_) (fun c_2 => ?_)
    · replace hr := (if_pos c_2).symm.trans hr
      refine r_aload_n (pc := 11) C dX9_changeRule_11 rfl 1 rfl ?_
      refine g33_6 (pc := 12) C dX9_changeRule_12 q423 (e33 (nf := nf) h1) ?_
      refine r_iload_n (pc := 15) C dX9_changeRule_15 rfl 2 rfl ?_
      obtain ⟨g_3, hr⟩ := gG_some hr
      refine r_ialdN (pc := 16) C dX9_changeRule_16 rfl (e40 (nf := nf) h1) g_3 rfl ?_
      obtain ⟨x4_4, ex4_4, hr⟩ := gLet_some hr
      refine r_istore (pc := 17) C dX9_changeRule_17 (by decide) ex4_4 (ls' := [(4, .int x4_4), (0, .ref (gad 17 0)), (1, .ref (gad 33 i1)), (2, .int p2), (3, .int p3)]) rfl ?_
      refine r_aload_n (pc := 19) C dX9_changeRule_19 rfl 2 rfl ?_
      refine g33_6 (pc := 20) C dX9_changeRule_20 q423 (e33 (nf := nf) h1) ?_
      refine r_iload_n (pc := 23) C dX9_changeRule_23 rfl 3 rfl ?_
      refine r_iload_n (pc := 24) C dX9_changeRule_24 rfl 4 rfl ?_
      obtain ⟨g_5, hr⟩ := gG_some hr
      obtain ⟨M_6, eM_6, hr⟩ := gLet_some hr
      refine r_iastN (pc := 25) C dX9_changeRule_25 rfl (e40 (nf := nf) h1) g_5 rfl eM_6 ?_
      refine r_iload (pc := 26) C dX9_changeRule_26 0 rfl ?_
      exact r_iret (pc := 28) CR dX9_changeRule_28 (congrArg (fun z => some (Value.int z)) (Prod.mk.inj (gSome hr)).1) (Prod.mk.inj (gSome hr)).2
    · replace hr := (if_neg c_2).symm.trans hr
      refine r_iconst (pc := 9) C dX9_changeRule_9 kim1 ?_
      exact r_iret (pc := 10) CR dX9_changeRule_10 (congrArg (fun z => some (Value.int z)) (Prod.mk.inj (gSome hr)).1) (Prod.mk.inj (gSome hr)).2
theorem c_X9_changeRule {Ψ : gM → Nat → List (Nat × Value) → List Value → Prop} {G : gG5} {nf : Nat} {cc : ByteArray} {own : String} {nL : Nat} {ret : Option FieldType} {fr lo : Nat} {v0 : Option Value} {M0 M : gM} {pc index : Nat} {ls : List (Nat × Value)} {st : List Value} (C : gC Ψ G (gXn nf) cc own nL ret fr lo v0 M0) (d : decode cc pc = .ok (.invokevirtual index, 3)) (hl : Cond.methodLink own index yX9_changeRule ∈ gws) (hR : 1 ≤ fr ∧ 24 ≤ lo) {i1 : Nat} {p2 : Int32} {p3 : Int32} (h1 : i1 < nf + 3) {r : Int32} {M1 : gM} (hr : X9_changeRule i1 p2 p3 M = some (r, M1)) (hcat : (st.map fun v => v.category).sum ≤ 8) (k : Ψ M1 (pc + 3) ls (.int r :: st)) : Ψ M pc ls (.int p3 :: .int p2 :: .ref (gad 33 i1) :: .ref (gad 17 0) :: st) := r_callV C [.ref (gad 33 i1), .int p2, .int p3] st d (k_X9_changeRule h1 hr) hl q1049 q28 q121 q1050 hd_X9_changeRule hR rfl (by decide) (e17 nf) rfl hcat k
theorem hd_X9_carryOut : yX9_carryOut.cls ≠ "java/lang/invoke/MethodHandle" ∧ yX9_carryOut.cls ≠ "java/lang/invoke/VarHandle" ∧ (parseMethodDescriptor yX9_carryOut.desc).map (fun d => d.parameters.length) = some 6 := by decide +kernel
noncomputable def X9_carryOut (i1 : Nat) (p2 : Int32) (p3 : Int32) (p4 : Int32) (p5 : Int32) (p6 : Int32) (M : gM) : Option (Int32 × gM) := (if p2 = 0 then (X9_drawOne i1 p3 M).bind (gU2 (fun r_3 M_4 => some (r_3, M_4))) else if p2 = 1 then (X9_flushTile i1 p3 M).bind (gU2 (fun r_6 M_7 => some (r_6, M_7))) else if p2 = 2 then (X9_flushAll i1 M).bind (gU2 (fun r_9 M_10 => some (r_9, M_10))) else if p2 = 3 then (X0_wipe i1 (M.1 5 1 4) M).bind (gU2 (fun r_12 M_13 => some (r_12, M_13))) else if p2 = 4 then (X9_changeRule i1 (p2 - 4) p3 M).bind (gU2 (fun r_15 M_16 => some (r_15, M_16))) else if p2 = 5 then (X9_changeRule i1 (p2 - 4) p3 M).bind (gU2 (fun r_18 M_19 => some (r_18, M_19))) else if p2 = 6 then (X9_changeRule i1 (p2 - 4) p3 M).bind (gU2 (fun r_21 M_22 => some (r_21, M_22))) else if p2 = 7 then (X9_changeRule i1 (p2 - 4) p3 M).bind (gU2 (fun r_24 M_25 => some (r_24, M_25))) else if p2 = 8 then (X9_moveCorner i1 p3 p4 p5 p6 M).bind (gU2 (fun r_27 M_28 => some (r_27, M_28))) else (X9_changeRule i1 (p2 - 4) p3 M).bind (gU2 (fun r_30 M_31 => some (r_30, M_31))))
theorem k_X9_carryOut {G : gG5} {nf : Nat} {M : gM} {i1 : Nat} {p2 : Int32} {p3 : Int32} {p4 : Int32} {p5 : Int32} {p6 : Int32} (h1 : i1 < nf + 3) {r : Int32} {M1 : gM} (hr : X9_carryOut i1 p2 p3 p4 p5 p6 M = some (r, M1)) : gMet G (gXn nf) yX9_carryOut cX9_carryOut 7 (some .int) 5 130 M [.ref (gad 17 0), .ref (gad 33 i1), .int p2, .int p3, .int p4, .int p5, .int p6] (some (.int r)) M1 := by
  refine gMet_of pl_X9 rfl (Nat.le_of_ble_eq_true rfl) (fun Ψ C CR => ?_)
  show Ψ M 0 [(0, .ref (gad 17 0)), (1, .ref (gad 33 i1)), (2, .int p2), (3, .int p3), (4, .int p4), (5, .int p5), (6, .int p6)] []
  refine r_iload_n (pc := 0) C dX9_carryOut_0 rfl 2 rfl ?_
  by_cases c_1_0 : p2 = 0
  · replace hr := (if_pos c_1_0).symm.trans hr
    refine r_tableIn (pc := 1) (tgt := 52) (off := 51) C dX9_carryOut_1 0 c_1_0 (by decide) rfl ?_
    refine r_aload_n (pc := 52) C dX9_carryOut_52 rfl 0 rfl ?_
    refine r_aload_n (pc := 53) C dX9_carryOut_53 rfl 1 rfl ?_
    refine r_iload_n (pc := 54) C dX9_carryOut_54 rfl 3 rfl ?_
    obtain ⟨⟨r_3, M_4⟩, hc_2, hr⟩ := gBind_some hr
    replace hr := gU2_some hr
    refine c_X9_drawOne (pc := 55) C dX9_carryOut_55 q1007 ⟨Nat.le_of_ble_eq_true rfl, Nat.le_of_ble_eq_true rfl⟩ h1 hc_2 (Nat.le_of_ble_eq_true rfl) ?_
    exact r_iret (pc := 58) CR dX9_carryOut_58 (congrArg (fun z => some (Value.int z)) (Prod.mk.inj (gSome hr)).1) (Prod.mk.inj (gSome hr)).2
  replace hr := (if_neg c_1_0).symm.trans hr
  by_cases c_1_1 : p2 = 1
  · replace hr := (if_pos c_1_1).symm.trans hr
    refine r_tableIn (pc := 1) (tgt := 59) (off := 58) C dX9_carryOut_1 1 c_1_1 (by decide) rfl ?_
    refine r_aload_n (pc := 59) C dX9_carryOut_59 rfl 0 rfl ?_
    refine r_aload_n (pc := 60) C dX9_carryOut_60 rfl 1 rfl ?_
    refine r_iload_n (pc := 61) C dX9_carryOut_61 rfl 3 rfl ?_
    obtain ⟨⟨r_6, M_7⟩, hc_5, hr⟩ := gBind_some hr
    replace hr := gU2_some hr
    refine c_X9_flushTile (pc := 62) C dX9_carryOut_62 q1011 ⟨Nat.le_of_ble_eq_true rfl, Nat.le_of_ble_eq_true rfl⟩ h1 hc_5 (Nat.le_of_ble_eq_true rfl) ?_
    exact r_iret (pc := 65) CR dX9_carryOut_65 (congrArg (fun z => some (Value.int z)) (Prod.mk.inj (gSome hr)).1) (Prod.mk.inj (gSome hr)).2
  replace hr := (if_neg c_1_1).symm.trans hr
  by_cases c_1_2 : p2 = 2
  · replace hr := (if_pos c_1_2).symm.trans hr
    refine r_tableIn (pc := 1) (tgt := 66) (off := 65) C dX9_carryOut_1 2 c_1_2 (by decide) rfl ?_
    refine r_aload_n (pc := 66) C dX9_carryOut_66 rfl 0 rfl ?_
    refine r_aload_n (pc := 67) C dX9_carryOut_67 rfl 1 rfl ?_
    obtain ⟨⟨r_9, M_10⟩, hc_8, hr⟩ := gBind_some hr
    replace hr := gU2_some hr
    refine c_X9_flushAll (pc := 68) C dX9_carryOut_68 q1037 ⟨Nat.le_of_ble_eq_true rfl, Nat.le_of_ble_eq_true rfl⟩ h1 hc_8 (Nat.le_of_ble_eq_true rfl) ?_
    exact r_iret (pc := 71) CR dX9_carryOut_71 (congrArg (fun z => some (Value.int z)) (Prod.mk.inj (gSome hr)).1) (Prod.mk.inj (gSome hr)).2
  replace hr := (if_neg c_1_2).symm.trans hr
  by_cases c_1_3 : p2 = 3
  · replace hr := (if_pos c_1_3).symm.trans hr
    refine r_tableIn (pc := 1) (tgt := 72) (off := 71) C dX9_carryOut_1 3 c_1_3 (by decide) rfl ?_
    refine r_aload_n (pc := 72) C dX9_carryOut_72 rfl 1 rfl ?_
    refine r_aload_n (pc := 73) C dX9_carryOut_73 rfl 0 rfl ?_
    refine g17_0 (pc := 74) C dX9_carryOut_74 q376 (e17 nf) ?_
    refine g5_4 (pc := 77) C dX9_carryOut_77 q211 (e5 (nf := nf) (by decide)) ?_
    obtain ⟨⟨r_12, M_13⟩, hc_11, hr⟩ := gBind_some hr
    replace hr := gU2_some hr
    refine c_X0_wipe (pc := 80) C dX9_carryOut_80 q1041 ⟨Nat.le_of_ble_eq_true rfl, Nat.le_of_ble_eq_true rfl⟩ h1 hc_11 (Nat.le_of_ble_eq_true rfl) ?_
    exact r_iret (pc := 83) CR dX9_carryOut_83 (congrArg (fun z => some (Value.int z)) (Prod.mk.inj (gSome hr)).1) (Prod.mk.inj (gSome hr)).2
  replace hr := (if_neg c_1_3).symm.trans hr
  by_cases c_1_4 : p2 = 4
  · replace hr := (if_pos c_1_4).symm.trans hr
    refine r_tableIn (pc := 1) (tgt := 97) (off := 96) C dX9_carryOut_1 4 c_1_4 (by decide) rfl ?_
    refine r_aload_n (pc := 97) C dX9_carryOut_97 rfl 0 rfl ?_
    refine r_aload_n (pc := 98) C dX9_carryOut_98 rfl 1 rfl ?_
    refine r_iload_n (pc := 99) C dX9_carryOut_99 rfl 2 rfl ?_
    refine r_iconst (pc := 100) C dX9_carryOut_100 ki4 ?_
    refine r_isub (pc := 101) C dX9_carryOut_101 ?_
    refine r_iload_n (pc := 102) C dX9_carryOut_102 rfl 3 rfl ?_
    obtain ⟨⟨r_15, M_16⟩, hc_14, hr⟩ := gBind_some hr
    replace hr := gU2_some hr
    refine c_X9_changeRule (pc := 103) C dX9_carryOut_103 q1047 ⟨Nat.le_of_ble_eq_true rfl, Nat.le_of_ble_eq_true rfl⟩ h1 hc_14 (Nat.le_of_ble_eq_true rfl) ?_
    exact r_iret (pc := 106) CR dX9_carryOut_106 (congrArg (fun z => some (Value.int z)) (Prod.mk.inj (gSome hr)).1) (Prod.mk.inj (gSome hr)).2
  replace hr := (if_neg c_1_4).symm.trans hr
  by_cases c_1_5 : p2 = 5
  · replace hr := (if_pos c_1_5).symm.trans hr
    refine r_tableIn (pc := 1) (tgt := 97) (off := 96) C dX9_carryOut_1 5 c_1_5 (by decide) rfl ?_
    refine r_aload_n (pc := 97) C dX9_carryOut_97 rfl 0 rfl ?_
    refine r_aload_n (pc := 98) C dX9_carryOut_98 rfl 1 rfl ?_
    refine r_iload_n (pc := 99) C dX9_carryOut_99 rfl 2 rfl ?_
    refine r_iconst (pc := 100) C dX9_carryOut_100 ki4 ?_
    refine r_isub (pc := 101) C dX9_carryOut_101 ?_
    refine r_iload_n (pc := 102) C dX9_carryOut_102 rfl 3 rfl ?_
    obtain ⟨⟨r_18, M_19⟩, hc_17, hr⟩ := gBind_some hr
    replace hr := gU2_some hr
    refine c_X9_changeRule (pc := 103) C dX9_carryOut_103 q1047 ⟨Nat.le_of_ble_eq_true rfl, Nat.le_of_ble_eq_true rfl⟩ h1 hc_17 (Nat.le_of_ble_eq_true rfl) ?_
    exact r_iret (pc := 106) CR dX9_carryOut_106 (congrArg (fun z => some (Value.int z)) (Prod.mk.inj (gSome hr)).1) (Prod.mk.inj (gSome hr)).2
  replace hr := (if_neg c_1_5).symm.trans hr
  by_cases c_1_6 : p2 = 6
  · replace hr := (if_pos c_1_6).symm.trans hr
    refine r_tableIn (pc := 1) (tgt := 97) (off := 96) C dX9_carryOut_1 6 c_1_6 (by decide) rfl ?_
    refine r_aload_n (pc := 97) C dX9_carryOut_97 rfl 0 rfl ?_
    refine r_aload_n (pc := 98) C dX9_carryOut_98 rfl 1 rfl ?_
    refine r_iload_n (pc := 99) C dX9_carryOut_99 rfl 2 rfl ?_
    refine r_iconst (pc := 100) C dX9_carryOut_100 ki4 ?_
    refine r_isub (pc := 101) C dX9_carryOut_101 ?_
    refine r_iload_n (pc := 102) C dX9_carryOut_102 rfl 3 rfl ?_
    obtain ⟨⟨r_21, M_22⟩, hc_20, hr⟩ := gBind_some hr
    replace hr := gU2_some hr
    refine c_X9_changeRule (pc := 103) C dX9_carryOut_103 q1047 ⟨Nat.le_of_ble_eq_true rfl, Nat.le_of_ble_eq_true rfl⟩ h1 hc_20 (Nat.le_of_ble_eq_true rfl) ?_
    exact r_iret (pc := 106) CR dX9_carryOut_106 (congrArg (fun z => some (Value.int z)) (Prod.mk.inj (gSome hr)).1) (Prod.mk.inj (gSome hr)).2
  replace hr := (if_neg c_1_6).symm.trans hr
  by_cases c_1_7 : p2 = 7
  · replace hr := (if_pos c_1_7).symm.trans hr
    refine r_tableIn (pc := 1) (tgt := 97) (off := 96) C dX9_carryOut_1 7 c_1_7 (by decide) rfl ?_
    refine r_aload_n (pc := 97) C dX9_carryOut_97 rfl 0 rfl ?_
    refine r_aload_n (pc := 98) C dX9_carryOut_98 rfl 1 rfl ?_
    refine r_iload_n (pc := 99) C dX9_carryOut_99 rfl 2 rfl ?_
    refine r_iconst (pc := 100) C dX9_carryOut_100 ki4 ?_
    refine r_isub (pc := 101) C dX9_carryOut_101 ?_
    refine r_iload_n (pc := 102) C dX9_carryOut_102 rfl 3 rfl ?_
    obtain ⟨⟨r_24, M_25⟩, hc_23, hr⟩ := gBind_some hr
    replace hr := gU2_some hr
    refine c_X9_changeRule (pc := 103) C dX9_carryOut_103 q1047 ⟨Nat.le_of_ble_eq_true rfl, Nat.le_of_ble_eq_true rfl⟩ h1 hc_23 (Nat.le_of_ble_eq_true rfl) ?_
    exact r_iret (pc := 106) CR dX9_carryOut_106 (congrArg (fun z => some (Value.int z)) (Prod.mk.inj (gSome hr)).1) (Prod.mk.inj (gSome hr)).2
  replace hr := (if_neg c_1_7).symm.trans hr
  by_cases c_1_8 : p2 = 8
  · replace hr := (if_pos c_1_8).symm.trans hr
    refine r_tableIn (pc := 1) (tgt := 84) (off := 83) C dX9_carryOut_1 8 c_1_8 (by decide) rfl ?_
    refine r_aload_n (pc := 84) C dX9_carryOut_84 rfl 0 rfl ?_
    refine r_aload_n (pc := 85) C dX9_carryOut_85 rfl 1 rfl ?_
    refine r_iload_n (pc := 86) C dX9_carryOut_86 rfl 3 rfl ?_
    refine r_iload (pc := 87) C dX9_carryOut_87 4 rfl ?_
    refine r_iload (pc := 89) C dX9_carryOut_89 5 rfl ?_
    refine r_iload (pc := 91) C dX9_carryOut_91 6 rfl ?_
    obtain ⟨⟨r_27, M_28⟩, hc_26, hr⟩ := gBind_some hr
    replace hr := gU2_some hr
    refine c_X9_moveCorner (pc := 93) C dX9_carryOut_93 q1042 ⟨Nat.le_of_ble_eq_true rfl, Nat.le_of_ble_eq_true rfl⟩ h1 hc_26 (Nat.le_of_ble_eq_true rfl) ?_
    exact r_iret (pc := 96) CR dX9_carryOut_96 (congrArg (fun z => some (Value.int z)) (Prod.mk.inj (gSome hr)).1) (Prod.mk.inj (gSome hr)).2
  replace hr := (if_neg c_1_8).symm.trans hr
  refine r_tableOut (pc := 1) (tgt := 97) C dX9_carryOut_1 (fun k h1 h2 => ?_) rfl ?_
  · rcases (show k = 0 ∨ k = 1 ∨ k = 2 ∨ k = 3 ∨ k = 4 ∨ k = 5 ∨ k = 6 ∨ k = 7 ∨ k = 8 by omega) with rfl | rfl | rfl | rfl | rfl | rfl | rfl | rfl | rfl
    all_goals assumption
  · refine r_aload_n (pc := 97) C dX9_carryOut_97 rfl 0 rfl ?_
    refine r_aload_n (pc := 98) C dX9_carryOut_98 rfl 1 rfl ?_
    refine r_iload_n (pc := 99) C dX9_carryOut_99 rfl 2 rfl ?_
    refine r_iconst (pc := 100) C dX9_carryOut_100 ki4 ?_
    refine r_isub (pc := 101) C dX9_carryOut_101 ?_
    refine r_iload_n (pc := 102) C dX9_carryOut_102 rfl 3 rfl ?_
    obtain ⟨⟨r_30, M_31⟩, hc_29, hr⟩ := gBind_some hr
    replace hr := gU2_some hr
    refine c_X9_changeRule (pc := 103) C dX9_carryOut_103 q1047 ⟨Nat.le_of_ble_eq_true rfl, Nat.le_of_ble_eq_true rfl⟩ h1 hc_29 (Nat.le_of_ble_eq_true rfl) ?_
    exact r_iret (pc := 106) CR dX9_carryOut_106 (congrArg (fun z => some (Value.int z)) (Prod.mk.inj (gSome hr)).1) (Prod.mk.inj (gSome hr)).2
theorem c_X9_carryOut {Ψ : gM → Nat → List (Nat × Value) → List Value → Prop} {G : gG5} {nf : Nat} {cc : ByteArray} {own : String} {nL : Nat} {ret : Option FieldType} {fr lo : Nat} {v0 : Option Value} {M0 M : gM} {pc index : Nat} {ls : List (Nat × Value)} {st : List Value} (C : gC Ψ G (gXn nf) cc own nL ret fr lo v0 M0) (d : decode cc pc = .ok (.invokevirtual index, 3)) (hl : Cond.methodLink own index yX9_carryOut ∈ gws) (hR : 6 ≤ fr ∧ 156 ≤ lo) {i1 : Nat} {p2 : Int32} {p3 : Int32} {p4 : Int32} {p5 : Int32} {p6 : Int32} (h1 : i1 < nf + 3) {r : Int32} {M1 : gM} (hr : X9_carryOut i1 p2 p3 p4 p5 p6 M = some (r, M1)) (hcat : (st.map fun v => v.category).sum ≤ 8) (k : Ψ M1 (pc + 3) ls (.int r :: st)) : Ψ M pc ls (.int p6 :: .int p5 :: .int p4 :: .int p3 :: .int p2 :: .ref (gad 33 i1) :: .ref (gad 17 0) :: st) := r_callV C [.ref (gad 33 i1), .int p2, .int p3, .int p4, .int p5, .int p6] st d (k_X9_carryOut h1 hr) hl q1004 q1005 q121 q1006 hd_X9_carryOut hR rfl (by decide) (e17 nf) rfl hcat k
theorem hd_X10_sortOf : yX10_sortOf.cls ≠ "java/lang/invoke/MethodHandle" ∧ yX10_sortOf.cls ≠ "java/lang/invoke/VarHandle" ∧ (parseMethodDescriptor yX10_sortOf.desc).map (fun d => d.parameters.length) = some 1 := by decide +kernel
noncomputable def X10_sortOf (p0 : Int32) (M : gM) : Option Int32 := (if 4 ≤ p0 then (if p0 = 8 then some 5 else some 4) else some p0)
theorem k_X10_sortOf {G : gG5} {nf : Nat} {M : gM} {p0 : Int32} {r : Int32} (hr : X10_sortOf p0 M = some r) : gMet G (gXn nf) yX10_sortOf cX10_sortOf 1 (some .int) 0 0 M [.int p0] (some (.int r)) M := by
  refine gMet_of pl_X10 rfl (Nat.le_of_ble_eq_true rfl) (fun Ψ C CR => ?_)
  show Ψ M 0 [(0, .int p0)] []
  refine r_iload_n (pc := 0) C dX10_sortOf_0 rfl 0 rfl ?_
  refine r_iconst (pc := 1) C dX10_sortOf_1 ki4 ?_
  refine r_icmp_ge (pc := 2) (tgt := 9) C dX10_sortOf_2 rfl (fun c_1 => ?_) (fun c_1 => ?_)
  · replace hr := (if_pos c_1).symm.trans hr
    refine r_iload_n (pc := 9) C dX10_sortOf_9 rfl 0 rfl ?_
    refine r_bipush (pc := 10) C dX10_sortOf_10 kb8 ?_
    refine r_icmp_ne (pc := 12) (tgt := 19) C dX10_sortOf_12 rfl (fun c_2 => ?_) (fun c_2 => ?_)
    · replace hr := (if_neg c_2).symm.trans hr
      refine r_iconst (pc := 19) C dX10_sortOf_19 ki4 ?_
      exact r_iret (pc := 20) CR dX10_sortOf_20 (congrArg (fun z => some (Value.int z)) (gSome hr)) rfl
    · replace hr := (if_pos c_2).symm.trans hr
      refine r_iconst (pc := 15) C dX10_sortOf_15 ki5 ?_
      refine r_goto (pc := 16) (tgt := 20) C dX10_sortOf_16 rfl ?_
      exact r_iret (pc := 20) CR dX10_sortOf_20 (congrArg (fun z => some (Value.int z)) (gSome hr)) rfl
  · replace hr := (if_neg c_1).symm.trans hr
    refine r_iload_n (pc := 5) C dX10_sortOf_5 rfl 0 rfl ?_
    refine r_goto (pc := 6) (tgt := 20) C dX10_sortOf_6 rfl ?_
    exact r_iret (pc := 20) CR dX10_sortOf_20 (congrArg (fun z => some (Value.int z)) (gSome hr)) rfl
theorem c_X10_sortOf {Ψ : gM → Nat → List (Nat × Value) → List Value → Prop} {G : gG5} {nf : Nat} {cc : ByteArray} {own : String} {nL : Nat} {ret : Option FieldType} {fr lo : Nat} {v0 : Option Value} {M0 M : gM} {pc index : Nat} {ls : List (Nat × Value)} {st : List Value} (C : gC Ψ G (gXn nf) cc own nL ret fr lo v0 M0) (d : decode cc pc = .ok (.invokestatic index, 3)) (hl : Cond.methodLink own index yX10_sortOf ∈ gws) (hR : 1 ≤ fr ∧ 20 ≤ lo) {p0 : Int32} {r : Int32} (hr : X10_sortOf p0 M = some r) (hcat : (st.map fun v => v.category).sum ≤ 8) (k : Ψ M (pc + 3) ls (.int r :: st)) : Ψ M pc ls (.int p0 :: st) := r_callS C [.int p0] st d (k_X10_sortOf hr) hl q1052 q116 q1053 hd_X10_sortOf hR rfl hcat k
theorem hd_X10_numberOf : yX10_numberOf.cls ≠ "java/lang/invoke/MethodHandle" ∧ yX10_numberOf.cls ≠ "java/lang/invoke/VarHandle" ∧ (parseMethodDescriptor yX10_numberOf.desc).map (fun d => d.parameters.length) = some 2 := by decide +kernel
noncomputable def X10_numberOf (p0 : Int32) (p1 : Int32) (M : gM) : Option Int32 := (if p0 = 2 then some 0 else (if p0 = 3 then some 0 else (X10_sortOf p0 M).bind (fun r_4 => (if r_4 = 4 then some (p0 - 4) else some p1))))
theorem k_X10_numberOf {G : gG5} {nf : Nat} {M : gM} {p0 : Int32} {p1 : Int32} {r : Int32} (hr : X10_numberOf p0 p1 M = some r) : gMet G (gXn nf) yX10_numberOf cX10_numberOf 2 (some .int) 1 20 M [.int p0, .int p1] (some (.int r)) M := by
  refine gMet_of pl_X10 rfl (Nat.le_of_ble_eq_true rfl) (fun Ψ C CR => ?_)
  show Ψ M 0 [(0, .int p0), (1, .int p1)] []
  refine r_iload_n (pc := 0) C dX10_numberOf_0 rfl 0 rfl ?_
  refine r_iconst (pc := 1) C dX10_numberOf_1 ki2 ?_
  refine r_icmp_eq (pc := 2) (tgt := 10) C dX10_numberOf_2 rfl (fun c_1 => ?_) (fun c_1 => ?_)
  · replace hr := (if_pos c_1).symm.trans hr
    refine r_iconst (pc := 10) C dX10_numberOf_10 ki0 ?_
    exact r_iret (pc := 11) CR dX10_numberOf_11 (congrArg (fun z => some (Value.int z)) (gSome hr)) rfl
  · replace hr := (if_neg c_1).symm.trans hr
    refine r_iload_n (pc := 5) C dX10_numberOf_5 rfl 0 rfl ?_
    refine r_iconst (pc := 6) C dX10_numberOf_6 ki3 ?_
    refine r_icmp_ne (pc := 7) (tgt := 12) C dX10_numberOf_7 rfl (fun c_2 => ?_) (fun c_2 => ?_)
    · replace hr := (if_neg c_2).symm.trans hr
      refine r_iload_n (pc := 12) C dX10_numberOf_12 rfl 0 rfl ?_
      obtain ⟨r_4, hc_3, hr⟩ := gBind_some hr
      refine c_X10_sortOf (pc := 13) C dX10_numberOf_13 q1051 ⟨Nat.le_of_ble_eq_true rfl, Nat.le_of_ble_eq_true rfl⟩ hc_3 (Nat.le_of_ble_eq_true rfl) ?_
      refine r_iconst (pc := 16) C dX10_numberOf_16 ki4 ?_
      refine r_icmp_ne (pc := 17) (tgt := 26) C dX10_numberOf_17 rfl (fun c_5 => ?_) (fun c_5 => ?_)
      · replace hr := (if_neg c_5).symm.trans hr
        refine r_iload_n (pc := 26) C dX10_numberOf_26 rfl 1 rfl ?_
        exact r_iret (pc := 27) CR dX10_numberOf_27 (congrArg (fun z => some (Value.int z)) (gSome hr)) rfl
      · replace hr := (if_pos c_5).symm.trans hr
        refine r_iload_n (pc := 20) C dX10_numberOf_20 rfl 0 rfl ?_
        refine r_iconst (pc := 21) C dX10_numberOf_21 ki4 ?_
        refine r_isub (pc := 22) C dX10_numberOf_22 ?_
        refine r_goto (pc := 23) (tgt := 27) C dX10_numberOf_23 rfl ?_
        exact r_iret (pc := 27) CR dX10_numberOf_27 (congrArg (fun z => some (Value.int z)) (gSome hr)) rfl
    · replace hr := (if_pos c_2).symm.trans hr
      refine r_iconst (pc := 10) C dX10_numberOf_10 ki0 ?_
      exact r_iret (pc := 11) CR dX10_numberOf_11 (congrArg (fun z => some (Value.int z)) (gSome hr)) rfl
theorem c_X10_numberOf {Ψ : gM → Nat → List (Nat × Value) → List Value → Prop} {G : gG5} {nf : Nat} {cc : ByteArray} {own : String} {nL : Nat} {ret : Option FieldType} {fr lo : Nat} {v0 : Option Value} {M0 M : gM} {pc index : Nat} {ls : List (Nat × Value)} {st : List Value} (C : gC Ψ G (gXn nf) cc own nL ret fr lo v0 M0) (d : decode cc pc = .ok (.invokestatic index, 3)) (hl : Cond.methodLink own index yX10_numberOf ∈ gws) (hR : 2 ≤ fr ∧ 41 ≤ lo) {p0 : Int32} {p1 : Int32} {r : Int32} (hr : X10_numberOf p0 p1 M = some r) (hcat : (st.map fun v => v.category).sum ≤ 8) (k : Ψ M (pc + 3) ls (.int r :: st)) : Ψ M pc ls (.int p1 :: .int p0 :: st) := r_callS C [.int p0, .int p1] st d (k_X10_numberOf hr) hl q1055 q116 q1056 hd_X10_numberOf hR rfl hcat k
theorem hd_X0_pairs : yX0_pairs.cls ≠ "java/lang/invoke/MethodHandle" ∧ yX0_pairs.cls ≠ "java/lang/invoke/VarHandle" ∧ (parseMethodDescriptor yX0_pairs.desc).map (fun d => d.parameters.length) = some 0 := by decide +kernel
noncomputable def X0_pairs_L4 (i0 : Nat) (x1 : Int32) (x2 : Int32) (M : gM) : Option ((Int32 × Int32) ⊕ Int32) := (if 10 ≤ x2 then some (.inr x1) else gG (gin x2 10) ((J13_bitCount_95d88 (M.2 41 i0 (Int32.toNatClampNeg x2)) M).bind (fun r_4 => gLet ((x1 + r_4)) (fun x1_5 => gLet (x2 + 1) (fun x2_6 => some (.inl (x1_5, x2_6)))))))
theorem t_X0_pairs_L4 {Ψ : gM → Nat → List (Nat × Value) → List Value → Prop} {G : gG5} {nf : Nat} {M : gM} {v0 : Option Value} {M0 : gM} {i0 : Nat} {x1 : Int32} {x2 : Int32} {w : ((Int32 × Int32) ⊕ Int32)} (C : gC Ψ G (gXn nf) cX0_pairs RX0 3 (some .int) 1 21 v0 M0) (h0 : i0 < nf + 3) (hr : X0_pairs_L4 i0 x1 x2 M = some w) (hn : ∀ s, w = .inl s → Ψ M 4 [(0, .ref (gad 33 i0)), (1, .int (s.1)), (2, .int (s.2))] []) (hx : ∀ e, w = .inr e → (fun e => Ψ M 28 [(1, .int e)] []) e) : Ψ M 4 [(0, .ref (gad 33 i0)), (1, .int x1), (2, .int x2)] [] := by
  refine r_iload_n (pc := 4) C dX0_pairs_4 rfl 2 rfl ?_
  refine r_bipush (pc := 5) C dX0_pairs_5 kb10 ?_
  refine r_icmp_ge (pc := 7) (tgt := 28) C dX0_pairs_7 rfl (fun c_1 => ?_) (fun c_1 => ?_)
  · replace hr := (if_pos c_1).symm.trans hr
    refine r_sub C [1] (ls' := [(1, .int x1)]) rfl ?_
    exact hx x1 (gSome hr)
  · replace hr := (if_neg c_1).symm.trans hr
    refine r_iload_n (pc := 10) C dX0_pairs_10 rfl 1 rfl ?_
    refine r_aload_n (pc := 11) C dX0_pairs_11 rfl 0 rfl ?_
    refine g33_7 (pc := 12) C dX0_pairs_12 q425 (e33 (nf := nf) h0) ?_
    refine r_iload_n (pc := 15) C dX0_pairs_15 rfl 2 rfl ?_
    obtain ⟨g_2, hr⟩ := gG_some hr
    refine r_laldN (pc := 16) C dX0_pairs_16 rfl (e41 (nf := nf) h0) g_2 rfl ?_
    obtain ⟨r_4, hc_3, hr⟩ := gBind_some hr
    refine c_J13_bitCount_95d88 (pc := 17) C dX0_pairs_17 q1068 ⟨Nat.le_of_ble_eq_true rfl, Nat.le_of_ble_eq_true rfl⟩ hc_3 (Nat.le_of_ble_eq_true rfl) ?_
    refine r_iadd (pc := 20) C dX0_pairs_20 ?_
    obtain ⟨x1_5, ex1_5, hr⟩ := gLet_some hr
    refine r_istore_n (pc := 21) C dX0_pairs_21 rfl (by decide) ex1_5 (ls' := [(1, .int x1_5), (0, .ref (gad 33 i0)), (2, .int x2)]) rfl ?_
    obtain ⟨x2_6, ex2_6, hr⟩ := gLet_some hr
    refine r_iinc (pc := 22) C dX0_pairs_22 2 rfl rfl (by decide) ex2_6 (ls' := [(2, .int x2_6), (1, .int x1_5), (0, .ref (gad 33 i0))]) rfl ?_
    refine r_goto (pc := 25) (tgt := 4) C dX0_pairs_25 rfl ?_
    refine r_sub C [2, 1, 0] (ls' := [(0, .ref (gad 33 i0)), (1, .int x1_5), (2, .int x2_6)]) rfl ?_
    exact hn (x1_5, x2_6) (gSome hr)
noncomputable def X0_pairs (i0 : Nat) (M : gM) : Option Int32 := (gIter (fun s => X0_pairs_L4 i0 s.1 s.2 M) FU (0, 0)).bind (fun x1_7 => some x1_7)
theorem k_X0_pairs {G : gG5} {nf : Nat} {M : gM} {i0 : Nat} (h0 : i0 < nf + 3) {r : Int32} (hr : X0_pairs i0 M = some r) : gMet G (gXn nf) yX0_pairs cX0_pairs 3 (some .int) 1 21 M [.ref (gad 33 i0)] (some (.int r)) M := by
  refine gMet_of pl_X0 rfl (Nat.le_of_ble_eq_true rfl) (fun Ψ C CR => ?_)
  show Ψ M 0 [(0, .ref (gad 33 i0))] []
  refine r_iconst (pc := 0) C dX0_pairs_0 ki0 ?_
  refine r_istore_n (pc := 1) C dX0_pairs_1 rfl (by decide) rfl (ls' := [(1, .int 0), (0, .ref (gad 33 i0))]) rfl ?_
  refine r_iconst (pc := 2) C dX0_pairs_2 ki0 ?_
  refine r_istore_n (pc := 3) C dX0_pairs_3 rfl (by decide) rfl (ls' := [(2, .int 0), (1, .int 0), (0, .ref (gad 33 i0))]) rfl ?_
  refine r_sub C [2, 1, 0] (ls' := [(0, .ref (gad 33 i0)), (1, .int 0), (2, .int 0)]) rfl ?_
  obtain ⟨ev, hit, hr⟩ := gBind_some hr
  refine gIter_V (step := fun s => X0_pairs_L4 i0 s.1 s.2 M) (P := fun s => Ψ M 4 [(0, .ref (gad 33 i0)), (1, .int (s.1)), (2, .int (s.2))] []) (K := (fun e => Ψ M 28 [(1, .int e)] [])) (fun s w hs hn hx => t_X0_pairs_L4 C h0 hs hn hx) FU (0, 0) ev hit ?_
  obtain ⟨x1_7, rfl⟩ : ∃ z, z = ev := ⟨_, rfl⟩
  show Ψ M 28 [(1, .int x1_7)] []
  refine r_iload_n (pc := 28) C dX0_pairs_28 rfl 0 rfl ?_
  exact r_iret (pc := 29) CR dX0_pairs_29 (congrArg (fun z => some (Value.int z)) (gSome hr)) rfl
theorem c_X0_pairs {Ψ : gM → Nat → List (Nat × Value) → List Value → Prop} {G : gG5} {nf : Nat} {cc : ByteArray} {own : String} {nL : Nat} {ret : Option FieldType} {fr lo : Nat} {v0 : Option Value} {M0 M : gM} {pc index : Nat} {ls : List (Nat × Value)} {st : List Value} (C : gC Ψ G (gXn nf) cc own nL ret fr lo v0 M0) (d : decode cc pc = .ok (.invokevirtual index, 3)) (hl : Cond.methodLink own index yX0_pairs ∈ gws) (hR : 2 ≤ fr ∧ 43 ≤ lo) {i0 : Nat} (h0 : i0 < nf + 3) {r : Int32} (hr : X0_pairs i0 M = some r) (hcat : (st.map fun v => v.category).sum ≤ 8) (k : Ψ M (pc + 3) ls (.int r :: st)) : Ψ M pc ls (.ref (gad 33 i0) :: st) := r_callV C [] st d (k_X0_pairs h0 hr) hl q1065 q1066 q124 q1067 hd_X0_pairs hR rfl (by decide) (e33 (nf := nf) h0) rfl hcat k
theorem hd_X0_note : yX0_note.cls ≠ "java/lang/invoke/MethodHandle" ∧ yX0_note.cls ≠ "java/lang/invoke/VarHandle" ∧ (parseMethodDescriptor yX0_note.desc).map (fun d => d.parameters.length) = some 2 := by decide +kernel
noncomputable def X0_note (i0 : Nat) (p1 : Int32) (p2 : Int32) (M : gM) : Option gM := (J9_floorMod_7cf53 (M.1 33 i0 9) 60 M).bind (fun r_2 => gLet ((r_2 * 3)) (fun x3_3 => gG (gin x3_3 180) (gLet (wI M 42 i0 (Int32.toNatClampNeg x3_3) p1) (fun M_5 => gG (gin (x3_3 + 1) 180) (gLet (wI M_5 42 i0 (Int32.toNatClampNeg (x3_3 + 1)) p2) (fun M_7 => (X0_pairs i0 M_7).bind (fun r_9 => gG (gin (x3_3 + 2) 180) (gLet (wI M_7 42 i0 (Int32.toNatClampNeg (x3_3 + 2)) r_9) (fun M_11 => gLet (wI M_11 33 i0 9 ((M_11.1 33 i0 9) + 1)) (fun M_12 => some M_12))))))))))
theorem k_X0_note {G : gG5} {nf : Nat} {M : gM} {i0 : Nat} {p1 : Int32} {p2 : Int32} (h0 : i0 < nf + 3) {M1 : gM} (hr : X0_note i0 p1 p2 M = some M1) : gMet G (gXn nf) yX0_note cX0_note 4 none 2 43 M [.ref (gad 33 i0), .int p1, .int p2] none M1 := by
  refine gMet_of pl_X0 rfl (Nat.le_of_ble_eq_true rfl) (fun Ψ C CR => ?_)
  show Ψ M 0 [(0, .ref (gad 33 i0)), (1, .int p1), (2, .int p2)] []
  refine r_aload_n (pc := 0) C dX0_note_0 rfl 0 rfl ?_
  refine g33_9 (pc := 1) C dX0_note_1 q430 (e33 (nf := nf) h0) ?_
  refine r_bipush (pc := 4) C dX0_note_4 kb60 ?_
  obtain ⟨r_2, hc_1, hr⟩ := gBind_some hr
  refine c_J9_floorMod_7cf53 (pc := 6) C dX0_note_6 q1061 ⟨Nat.le_of_ble_eq_true rfl, Nat.le_of_ble_eq_true rfl⟩ hc_1 (Nat.le_of_ble_eq_true rfl) ?_
  refine r_iconst (pc := 9) C dX0_note_9 ki3 ?_
  refine r_imul (pc := 10) C dX0_note_10 ?_
  obtain ⟨x3_3, ex3_3, hr⟩ := gLet_some hr
  refine r_istore_n (pc := 11) C dX0_note_11 rfl (by decide) ex3_3 (ls' := [(3, .int x3_3), (0, .ref (gad 33 i0)), (1, .int p1), (2, .int p2)]) rfl ?_
  refine r_aload_n (pc := 12) C dX0_note_12 rfl 1 rfl ?_
  refine g33_8 (pc := 13) C dX0_note_13 q429 (e33 (nf := nf) h0) ?_
  refine r_iload_n (pc := 16) C dX0_note_16 rfl 0 rfl ?_
  refine r_iload_n (pc := 17) C dX0_note_17 rfl 2 rfl ?_
  obtain ⟨g_4, hr⟩ := gG_some hr
  obtain ⟨M_5, eM_5, hr⟩ := gLet_some hr
  refine r_iastN (pc := 18) C dX0_note_18 rfl (e42 (nf := nf) h0) g_4 rfl eM_5 ?_
  refine r_aload_n (pc := 19) C dX0_note_19 rfl 1 rfl ?_
  refine g33_8 (pc := 20) C dX0_note_20 q429 (e33 (nf := nf) h0) ?_
  refine r_iload_n (pc := 23) C dX0_note_23 rfl 0 rfl ?_
  refine r_iconst (pc := 24) C dX0_note_24 ki1 ?_
  refine r_iadd (pc := 25) C dX0_note_25 ?_
  refine r_iload_n (pc := 26) C dX0_note_26 rfl 3 rfl ?_
  obtain ⟨g_6, hr⟩ := gG_some hr
  obtain ⟨M_7, eM_7, hr⟩ := gLet_some hr
  refine r_iastN (pc := 27) C dX0_note_27 rfl (e42 (nf := nf) h0) g_6 rfl eM_7 ?_
  refine r_aload_n (pc := 28) C dX0_note_28 rfl 1 rfl ?_
  refine g33_8 (pc := 29) C dX0_note_29 q429 (e33 (nf := nf) h0) ?_
  refine r_iload_n (pc := 32) C dX0_note_32 rfl 0 rfl ?_
  refine r_iconst (pc := 33) C dX0_note_33 ki2 ?_
  refine r_iadd (pc := 34) C dX0_note_34 ?_
  refine r_aload_n (pc := 35) C dX0_note_35 rfl 1 rfl ?_
  obtain ⟨r_9, hc_8, hr⟩ := gBind_some hr
  refine c_X0_pairs (pc := 36) C dX0_note_36 q1064 ⟨Nat.le_of_ble_eq_true rfl, Nat.le_of_ble_eq_true rfl⟩ h0 hc_8 (Nat.le_of_ble_eq_true rfl) ?_
  obtain ⟨g_10, hr⟩ := gG_some hr
  obtain ⟨M_11, eM_11, hr⟩ := gLet_some hr
  refine r_iastN (pc := 39) C dX0_note_39 rfl (e42 (nf := nf) h0) g_10 rfl eM_11 ?_
  refine r_aload_n (pc := 40) C dX0_note_40 rfl 1 rfl ?_
  refine r_dup (pc := 41) C dX0_note_41 rfl ?_
  refine g33_9 (pc := 42) C dX0_note_42 q430 (e33 (nf := nf) h0) ?_
  refine r_iconst (pc := 45) C dX0_note_45 ki1 ?_
  refine r_iadd (pc := 46) C dX0_note_46 ?_
  obtain ⟨M_12, eM_12, hr⟩ := gLet_some hr
  refine p33_9 (pc := 47) C dX0_note_47 q430 (e33 (nf := nf) h0) eM_12 ?_
  exact r_vret (pc := 50) CR dX0_note_50 rfl (gSome hr)
theorem c_X0_note {Ψ : gM → Nat → List (Nat × Value) → List Value → Prop} {G : gG5} {nf : Nat} {cc : ByteArray} {own : String} {nL : Nat} {ret : Option FieldType} {fr lo : Nat} {v0 : Option Value} {M0 M : gM} {pc index : Nat} {ls : List (Nat × Value)} {st : List Value} (C : gC Ψ G (gXn nf) cc own nL ret fr lo v0 M0) (d : decode cc pc = .ok (.invokevirtual index, 3)) (hl : Cond.methodLink own index yX0_note ∈ gws) (hR : 3 ≤ fr ∧ 66 ≤ lo) {i0 : Nat} {p1 : Int32} {p2 : Int32} (h0 : i0 < nf + 3) {M1 : gM} (hr : X0_note i0 p1 p2 M = some M1) (hcat : (st.map fun v => v.category).sum ≤ 8) (k : Ψ M1 (pc + 3) ls (st)) : Ψ M pc ls (.int p2 :: .int p1 :: .ref (gad 33 i0) :: st) := r_callV C [.int p1, .int p2] st d (k_X0_note h0 hr) hl q1058 q1059 q124 q1060 hd_X0_note hR rfl (by decide) (e33 (nf := nf) h0) rfl hcat k
theorem hd_X10_chanceOf : yX10_chanceOf.cls ≠ "java/lang/invoke/MethodHandle" ∧ yX10_chanceOf.cls ≠ "java/lang/invoke/VarHandle" ∧ (parseMethodDescriptor yX10_chanceOf.desc).map (fun d => d.parameters.length) = some 1 := by decide +kernel
noncomputable def X10_chanceOf (p1 : Int32) (M : gM) : Option (Int32 × gM) := gLet (wL M 0 0 15 (((M.2 0 0 15) * 6364136223846793005) + 1442695040888963407)) (fun M_1 => (if p1 ≤ 0 then some (0, M_1) else gG (decide (¬ (Int32.toInt64 p1) = 0)) (some ((Int64.toInt32 (gRemL ((Int64.toUInt64 (M_1.2 0 0 15) >>> ((Int32.toInt64 33).toUInt64 &&& Int64.toUInt64 63)).toInt64) (Int32.toInt64 p1))), M_1))))
theorem k_X10_chanceOf {G : gG5} {nf : Nat} {M : gM} {p1 : Int32} {r : Int32} {M1 : gM} (hr : X10_chanceOf p1 M = some (r, M1)) : gMet G (gXn nf) yX10_chanceOf cX10_chanceOf 2 (some .int) 0 0 M [.ref (gad 0 0), .int p1] (some (.int r)) M1 := by
  refine gMet_of pl_X10 rfl (Nat.le_of_ble_eq_true rfl) (fun Ψ C CR => ?_)
  show Ψ M 0 [(0, .ref (gad 0 0)), (1, .int p1)] []
  refine r_aload_n (pc := 0) C dX10_chanceOf_0 rfl 0 rfl ?_
  refine r_aload_n (pc := 1) C dX10_chanceOf_1 rfl 0 rfl ?_
  refine g0_15 (pc := 2) C dX10_chanceOf_2 q549 (e0 nf) ?_
  refine r_ldc2 (pc := 5) C dX10_chanceOf_5 q1106 ?_
  refine r_lmul (pc := 8) C dX10_chanceOf_8 ?_
  refine r_ldc2 (pc := 9) C dX10_chanceOf_9 q1107 ?_
  refine r_ladd (pc := 12) C dX10_chanceOf_12 ?_
  obtain ⟨M_1, eM_1, hr⟩ := gLet_some hr
  refine p0_15 (pc := 13) C dX10_chanceOf_13 q549 (e0 nf) eM_1 ?_
  refine r_iload_n (pc := 16) C dX10_chanceOf_16 rfl 1 rfl ?_
  refine r_if_le (pc := 17) (tgt := 34) C dX10_chanceOf_17 rfl (fun c_2 => ?_) (fun c_2 => ?_)
  · replace hr := (if_pos c_2).symm.trans hr
    refine r_iconst (pc := 34) C dX10_chanceOf_34 ki0 ?_
    exact r_iret (pc := 35) CR dX10_chanceOf_35 (congrArg (fun z => some (Value.int z)) (Prod.mk.inj (gSome hr)).1) (Prod.mk.inj (gSome hr)).2
  · replace hr := (if_neg c_2).symm.trans hr
    refine r_aload_n (pc := 20) C dX10_chanceOf_20 rfl 0 rfl ?_
    refine g0_15 (pc := 21) C dX10_chanceOf_21 q549 (e0 nf) ?_
    refine r_bipush (pc := 24) C dX10_chanceOf_24 kb33 ?_
    refine r_lushr (pc := 26) C dX10_chanceOf_26 ?_
    refine r_iload_n (pc := 27) C dX10_chanceOf_27 rfl 1 rfl ?_
    refine r_i2l (pc := 28) C dX10_chanceOf_28 ?_
    obtain ⟨g_3, hr⟩ := gG_some hr
    refine r_lrem (pc := 29) C dX10_chanceOf_29 (of_decide_eq_true g_3) ?_
    refine r_l2i (pc := 30) C dX10_chanceOf_30 ?_
    refine r_goto (pc := 31) (tgt := 35) C dX10_chanceOf_31 rfl ?_
    exact r_iret (pc := 35) CR dX10_chanceOf_35 (congrArg (fun z => some (Value.int z)) (Prod.mk.inj (gSome hr)).1) (Prod.mk.inj (gSome hr)).2
theorem c_X10_chanceOf {Ψ : gM → Nat → List (Nat × Value) → List Value → Prop} {G : gG5} {nf : Nat} {cc : ByteArray} {own : String} {nL : Nat} {ret : Option FieldType} {fr lo : Nat} {v0 : Option Value} {M0 M : gM} {pc index : Nat} {ls : List (Nat × Value)} {st : List Value} (C : gC Ψ G (gXn nf) cc own nL ret fr lo v0 M0) (d : decode cc pc = .ok (.invokevirtual index, 3)) (hl : Cond.methodLink own index yX10_chanceOf ∈ gws) (hR : 1 ≤ fr ∧ 21 ≤ lo) {p1 : Int32} {r : Int32} {M1 : gM} (hr : X10_chanceOf p1 M = some (r, M1)) (hcat : (st.map fun v => v.category).sum ≤ 8) (k : Ψ M1 (pc + 3) ls (.int r :: st)) : Ψ M pc ls (.int p1 :: .ref (gad 0 0) :: st) := r_callV C [.int p1] st d (k_X10_chanceOf hr) hl q1104 q30 q116 q1105 hd_X10_chanceOf hR rfl (by decide) (e0 nf) rfl hcat k
theorem hd_X10_chooseAct : yX10_chooseAct.cls ≠ "java/lang/invoke/MethodHandle" ∧ yX10_chooseAct.cls ≠ "java/lang/invoke/VarHandle" ∧ (parseMethodDescriptor yX10_chooseAct.desc).map (fun d => d.parameters.length) = some 0 := by decide +kernel
noncomputable def X10_chooseAct (M : gM) : Option gM := (X10_chanceOf 8 M).bind (gU2 (fun r_2 M_3 => (if 4 < r_2 then (if r_2 = 5 then gLet (wI M_3 49 0 0 1) (fun M_26 => (X10_chanceOf (M_26.1 12 0 5) M_26).bind (gU2 (fun r_28 M_29 => gLet (wI M_29 49 0 1 r_28) (fun M_30 => some M_30)))) else (if r_2 = 6 then gLet (wI M_3 49 0 0 6) (fun M_24 => gLet (wI M_24 49 0 1 (1 - (M_24.1 40 0 2))) (fun M_25 => some M_25)) else gLet (wI M_3 49 0 0 8) (fun M_7 => (X10_chanceOf (M_7.1 5 1 5) M_7).bind (gU2 (fun r_9 M_10 => gLet (wI M_10 49 0 1 r_9) (fun M_11 => (X10_chanceOf 3 M_11).bind (gU2 (fun r_13 M_14 => gLet (wI M_14 49 0 2 r_13) (fun M_15 => (X10_chanceOf 9 M_15).bind (gU2 (fun r_17 M_18 => gLet (wI M_18 49 0 3 (r_17 - 4)) (fun M_19 => (X10_chanceOf 9 M_19).bind (gU2 (fun r_21 M_22 => gLet (wI M_22 49 0 4 (r_21 - 4)) (fun M_23 => some M_23))))))))))))))) else gLet (wI M_3 49 0 0 0) (fun M_31 => (X10_chanceOf (M_31.1 5 1 5) M_31).bind (gU2 (fun r_33 M_34 => gLet (wI M_34 49 0 1 r_33) (fun M_35 => some M_35)))))))
theorem k_X10_chooseAct {G : gG5} {nf : Nat} {M : gM} {M1 : gM} (hr : X10_chooseAct M = some M1) : gMet G (gXn nf) yX10_chooseAct cX10_chooseAct 2 none 1 21 M [.ref (gad 0 0)] none M1 := by
  refine gMet_of pl_X10 rfl (Nat.le_of_ble_eq_true rfl) (fun Ψ C CR => ?_)
  show Ψ M 0 [(0, .ref (gad 0 0))] []
  refine r_aload_n (pc := 0) C dX10_chooseAct_0 rfl 0 rfl ?_
  refine r_bipush (pc := 1) C dX10_chooseAct_1 kb8 ?_
  obtain ⟨⟨r_2, M_3⟩, hc_1, hr⟩ := gBind_some hr
  replace hr := gU2_some hr
  refine c_X10_chanceOf (pc := 3) C dX10_chooseAct_3 q1102 ⟨Nat.le_of_ble_eq_true rfl, Nat.le_of_ble_eq_true rfl⟩ hc_1 (Nat.le_of_ble_eq_true rfl) ?_
  refine r_istore_n (pc := 6) C dX10_chooseAct_6 rfl (by decide) rfl (ls' := [(1, .int r_2), (0, .ref (gad 0 0))]) rfl ?_
  refine r_iload_n (pc := 7) C dX10_chooseAct_7 rfl 0 rfl ?_
  refine r_iconst (pc := 8) C dX10_chooseAct_8 ki4 ?_
  refine r_icmp_gt (pc := 9) (tgt := 39) C dX10_chooseAct_9 rfl (fun c_4 => ?_) (fun c_4 => ?_)
  · replace hr := (if_pos c_4).symm.trans hr
    refine r_iload_n (pc := 39) C dX10_chooseAct_39 rfl 0 rfl ?_
    refine r_iconst (pc := 40) C dX10_chooseAct_40 ki5 ?_
    refine r_icmp_ne (pc := 41) (tgt := 71) C dX10_chooseAct_41 rfl (fun c_5 => ?_) (fun c_5 => ?_)
    · replace hr := (if_neg c_5).symm.trans hr
      refine r_iload_n (pc := 71) C dX10_chooseAct_71 rfl 0 rfl ?_
      refine r_bipush (pc := 72) C dX10_chooseAct_72 kb6 ?_
      refine r_icmp_ne (pc := 74) (tgt := 105) C dX10_chooseAct_74 rfl (fun c_6 => ?_) (fun c_6 => ?_)
      · replace hr := (if_neg c_6).symm.trans hr
        refine r_aload_n (pc := 105) C dX10_chooseAct_105 rfl 1 rfl ?_
        refine g0_12 (pc := 106) C dX10_chooseAct_106 q546 (e0 nf) ?_
        refine r_iconst (pc := 109) C dX10_chooseAct_109 ki0 ?_
        refine r_bipush (pc := 110) C dX10_chooseAct_110 kb8 ?_
        obtain ⟨M_7, eM_7, hr⟩ := gLet_some hr
        refine r_iastN (pc := 112) C dX10_chooseAct_112 rfl (e49 nf) (by decide : gin 0 5 = true) kc0 eM_7 ?_
        refine r_aload_n (pc := 113) C dX10_chooseAct_113 rfl 1 rfl ?_
        refine g0_12 (pc := 114) C dX10_chooseAct_114 q546 (e0 nf) ?_
        refine r_iconst (pc := 117) C dX10_chooseAct_117 ki1 ?_
        refine r_aload_n (pc := 118) C dX10_chooseAct_118 rfl 1 rfl ?_
        refine r_aload_n (pc := 119) C dX10_chooseAct_119 rfl 1 rfl ?_
        refine g0_3 (pc := 120) C dX10_chooseAct_120 q537 (e0 nf) ?_
        refine g5_5 (pc := 123) C dX10_chooseAct_123 q216 (e5 (nf := nf) (by decide)) ?_
        obtain ⟨⟨r_9, M_10⟩, hc_8, hr⟩ := gBind_some hr
        replace hr := gU2_some hr
        refine c_X10_chanceOf (pc := 126) C dX10_chooseAct_126 q1102 ⟨Nat.le_of_ble_eq_true rfl, Nat.le_of_ble_eq_true rfl⟩ hc_8 (Nat.le_of_ble_eq_true rfl) ?_
        obtain ⟨M_11, eM_11, hr⟩ := gLet_some hr
        refine r_iastN (pc := 129) C dX10_chooseAct_129 rfl (e49 nf) (by decide : gin 1 5 = true) kc1 eM_11 ?_
        refine r_aload_n (pc := 130) C dX10_chooseAct_130 rfl 1 rfl ?_
        refine g0_12 (pc := 131) C dX10_chooseAct_131 q546 (e0 nf) ?_
        refine r_iconst (pc := 134) C dX10_chooseAct_134 ki2 ?_
        refine r_aload_n (pc := 135) C dX10_chooseAct_135 rfl 1 rfl ?_
        refine r_iconst (pc := 136) C dX10_chooseAct_136 ki3 ?_
        obtain ⟨⟨r_13, M_14⟩, hc_12, hr⟩ := gBind_some hr
        replace hr := gU2_some hr
        refine c_X10_chanceOf (pc := 137) C dX10_chooseAct_137 q1102 ⟨Nat.le_of_ble_eq_true rfl, Nat.le_of_ble_eq_true rfl⟩ hc_12 (Nat.le_of_ble_eq_true rfl) ?_
        obtain ⟨M_15, eM_15, hr⟩ := gLet_some hr
        refine r_iastN (pc := 140) C dX10_chooseAct_140 rfl (e49 nf) (by decide : gin 2 5 = true) kc2 eM_15 ?_
        refine r_aload_n (pc := 141) C dX10_chooseAct_141 rfl 1 rfl ?_
        refine g0_12 (pc := 142) C dX10_chooseAct_142 q546 (e0 nf) ?_
        refine r_iconst (pc := 145) C dX10_chooseAct_145 ki3 ?_
        refine r_aload_n (pc := 146) C dX10_chooseAct_146 rfl 1 rfl ?_
        refine r_bipush (pc := 147) C dX10_chooseAct_147 kb9 ?_
        obtain ⟨⟨r_17, M_18⟩, hc_16, hr⟩ := gBind_some hr
        replace hr := gU2_some hr
        refine c_X10_chanceOf (pc := 149) C dX10_chooseAct_149 q1102 ⟨Nat.le_of_ble_eq_true rfl, Nat.le_of_ble_eq_true rfl⟩ hc_16 (Nat.le_of_ble_eq_true rfl) ?_
        refine r_iconst (pc := 152) C dX10_chooseAct_152 ki4 ?_
        refine r_isub (pc := 153) C dX10_chooseAct_153 ?_
        obtain ⟨M_19, eM_19, hr⟩ := gLet_some hr
        refine r_iastN (pc := 154) C dX10_chooseAct_154 rfl (e49 nf) (by decide : gin 3 5 = true) kc3 eM_19 ?_
        refine r_aload_n (pc := 155) C dX10_chooseAct_155 rfl 1 rfl ?_
        refine g0_12 (pc := 156) C dX10_chooseAct_156 q546 (e0 nf) ?_
        refine r_iconst (pc := 159) C dX10_chooseAct_159 ki4 ?_
        refine r_aload_n (pc := 160) C dX10_chooseAct_160 rfl 1 rfl ?_
        refine r_bipush (pc := 161) C dX10_chooseAct_161 kb9 ?_
        obtain ⟨⟨r_21, M_22⟩, hc_20, hr⟩ := gBind_some hr
        replace hr := gU2_some hr
        refine c_X10_chanceOf (pc := 163) C dX10_chooseAct_163 q1102 ⟨Nat.le_of_ble_eq_true rfl, Nat.le_of_ble_eq_true rfl⟩ hc_20 (Nat.le_of_ble_eq_true rfl) ?_
        refine r_iconst (pc := 166) C dX10_chooseAct_166 ki4 ?_
        refine r_isub (pc := 167) C dX10_chooseAct_167 ?_
        obtain ⟨M_23, eM_23, hr⟩ := gLet_some hr
        refine r_iastN (pc := 168) C dX10_chooseAct_168 rfl (e49 nf) (by decide : gin 4 5 = true) kc4 eM_23 ?_
        exact r_vret (pc := 169) CR dX10_chooseAct_169 rfl (gSome hr)
      · replace hr := (if_pos c_6).symm.trans hr
        refine r_aload_n (pc := 77) C dX10_chooseAct_77 rfl 1 rfl ?_
        refine g0_12 (pc := 78) C dX10_chooseAct_78 q546 (e0 nf) ?_
        refine r_iconst (pc := 81) C dX10_chooseAct_81 ki0 ?_
        refine r_bipush (pc := 82) C dX10_chooseAct_82 kb6 ?_
        obtain ⟨M_24, eM_24, hr⟩ := gLet_some hr
        refine r_iastN (pc := 84) C dX10_chooseAct_84 rfl (e49 nf) (by decide : gin 0 5 = true) kc0 eM_24 ?_
        refine r_aload_n (pc := 85) C dX10_chooseAct_85 rfl 1 rfl ?_
        refine g0_12 (pc := 86) C dX10_chooseAct_86 q546 (e0 nf) ?_
        refine r_iconst (pc := 89) C dX10_chooseAct_89 ki1 ?_
        refine r_iconst (pc := 90) C dX10_chooseAct_90 ki1 ?_
        refine r_aload_n (pc := 91) C dX10_chooseAct_91 rfl 1 rfl ?_
        refine g0_7 (pc := 92) C dX10_chooseAct_92 q541 (e0 nf) ?_
        refine g33_6 (pc := 95) C dX10_chooseAct_95 q424 (e33 (nf := nf) (gf0 nf)) ?_
        refine r_iconst (pc := 98) C dX10_chooseAct_98 ki2 ?_
        refine r_ialdN (pc := 99) C dX10_chooseAct_99 rfl (e40 (nf := nf) (gf0 nf)) (by decide : gin 2 4 = true) kc2 ?_
        refine r_isub (pc := 100) C dX10_chooseAct_100 ?_
        obtain ⟨M_25, eM_25, hr⟩ := gLet_some hr
        refine r_iastN (pc := 101) C dX10_chooseAct_101 rfl (e49 nf) (by decide : gin 1 5 = true) kc1 eM_25 ?_
        refine r_goto (pc := 102) (tgt := 169) C dX10_chooseAct_102 rfl ?_
        exact r_vret (pc := 169) CR dX10_chooseAct_169 rfl (gSome hr)
    · replace hr := (if_pos c_5).symm.trans hr
      refine r_aload_n (pc := 44) C dX10_chooseAct_44 rfl 1 rfl ?_
      refine g0_12 (pc := 45) C dX10_chooseAct_45 q546 (e0 nf) ?_
      refine r_iconst (pc := 48) C dX10_chooseAct_48 ki0 ?_
      refine r_iconst (pc := 49) C dX10_chooseAct_49 ki1 ?_
      obtain ⟨M_26, eM_26, hr⟩ := gLet_some hr
      refine r_iastN (pc := 50) C dX10_chooseAct_50 rfl (e49 nf) (by decide : gin 0 5 = true) kc0 eM_26 ?_
      refine r_aload_n (pc := 51) C dX10_chooseAct_51 rfl 1 rfl ?_
      refine g0_12 (pc := 52) C dX10_chooseAct_52 q546 (e0 nf) ?_
      refine r_iconst (pc := 55) C dX10_chooseAct_55 ki1 ?_
      refine r_aload_n (pc := 56) C dX10_chooseAct_56 rfl 1 rfl ?_
      refine r_aload_n (pc := 57) C dX10_chooseAct_57 rfl 1 rfl ?_
      refine g0_4 (pc := 58) C dX10_chooseAct_58 q538 (e0 nf) ?_
      refine g12_5 (pc := 61) C dX10_chooseAct_61 q274 (e12 nf) ?_
      obtain ⟨⟨r_28, M_29⟩, hc_27, hr⟩ := gBind_some hr
      replace hr := gU2_some hr
      refine c_X10_chanceOf (pc := 64) C dX10_chooseAct_64 q1102 ⟨Nat.le_of_ble_eq_true rfl, Nat.le_of_ble_eq_true rfl⟩ hc_27 (Nat.le_of_ble_eq_true rfl) ?_
      obtain ⟨M_30, eM_30, hr⟩ := gLet_some hr
      refine r_iastN (pc := 67) C dX10_chooseAct_67 rfl (e49 nf) (by decide : gin 1 5 = true) kc1 eM_30 ?_
      refine r_goto (pc := 68) (tgt := 169) C dX10_chooseAct_68 rfl ?_
      exact r_vret (pc := 169) CR dX10_chooseAct_169 rfl (gSome hr)
  · replace hr := (if_neg c_4).symm.trans hr
    refine r_aload_n (pc := 12) C dX10_chooseAct_12 rfl 1 rfl ?_
    refine g0_12 (pc := 13) C dX10_chooseAct_13 q546 (e0 nf) ?_
    refine r_iconst (pc := 16) C dX10_chooseAct_16 ki0 ?_
    refine r_iconst (pc := 17) C dX10_chooseAct_17 ki0 ?_
    obtain ⟨M_31, eM_31, hr⟩ := gLet_some hr
    refine r_iastN (pc := 18) C dX10_chooseAct_18 rfl (e49 nf) (by decide : gin 0 5 = true) kc0 eM_31 ?_
    refine r_aload_n (pc := 19) C dX10_chooseAct_19 rfl 1 rfl ?_
    refine g0_12 (pc := 20) C dX10_chooseAct_20 q546 (e0 nf) ?_
    refine r_iconst (pc := 23) C dX10_chooseAct_23 ki1 ?_
    refine r_aload_n (pc := 24) C dX10_chooseAct_24 rfl 1 rfl ?_
    refine r_aload_n (pc := 25) C dX10_chooseAct_25 rfl 1 rfl ?_
    refine g0_3 (pc := 26) C dX10_chooseAct_26 q537 (e0 nf) ?_
    refine g5_5 (pc := 29) C dX10_chooseAct_29 q216 (e5 (nf := nf) (by decide)) ?_
    obtain ⟨⟨r_33, M_34⟩, hc_32, hr⟩ := gBind_some hr
    replace hr := gU2_some hr
    refine c_X10_chanceOf (pc := 32) C dX10_chooseAct_32 q1102 ⟨Nat.le_of_ble_eq_true rfl, Nat.le_of_ble_eq_true rfl⟩ hc_32 (Nat.le_of_ble_eq_true rfl) ?_
    obtain ⟨M_35, eM_35, hr⟩ := gLet_some hr
    refine r_iastN (pc := 35) C dX10_chooseAct_35 rfl (e49 nf) (by decide : gin 1 5 = true) kc1 eM_35 ?_
    refine r_goto (pc := 36) (tgt := 169) C dX10_chooseAct_36 rfl ?_
    exact r_vret (pc := 169) CR dX10_chooseAct_169 rfl (gSome hr)
theorem c_X10_chooseAct {Ψ : gM → Nat → List (Nat × Value) → List Value → Prop} {G : gG5} {nf : Nat} {cc : ByteArray} {own : String} {nL : Nat} {ret : Option FieldType} {fr lo : Nat} {v0 : Option Value} {M0 M : gM} {pc index : Nat} {ls : List (Nat × Value)} {st : List Value} (C : gC Ψ G (gXn nf) cc own nL ret fr lo v0 M0) (d : decode cc pc = .ok (.invokevirtual index, 3)) (hl : Cond.methodLink own index yX10_chooseAct ∈ gws) (hR : 2 ≤ fr ∧ 42 ≤ lo) {M1 : gM} (hr : X10_chooseAct M = some M1) (hcat : (st.map fun v => v.category).sum ≤ 8) (k : Ψ M1 (pc + 3) ls (st)) : Ψ M pc ls (.ref (gad 0 0) :: st) := r_callV C [] st d (k_X10_chooseAct hr) hl q1100 q29 q116 q1101 hd_X10_chooseAct hR rfl (by decide) (e0 nf) rfl hcat k
theorem hd_X10_status : yX10_status.cls ≠ "java/lang/invoke/MethodHandle" ∧ yX10_status.cls ≠ "java/lang/invoke/VarHandle" ∧ (parseMethodDescriptor yX10_status.desc).map (fun d => d.parameters.length) = some 1 := by decide +kernel
noncomputable def X10_status (p1 : Int32) (M : gM) : Option Int32 := (if p1 < 0 then some (-1) else (if 4 ≤ p1 then some (-1) else gG (gin p1 4) (some (M.1 48 0 (Int32.toNatClampNeg p1)))))
theorem k_X10_status {G : gG5} {nf : Nat} {M : gM} {p1 : Int32} {r : Int32} (hr : X10_status p1 M = some r) : gMet G (gXn nf) yX10_status cX10_status 2 (some .int) 0 0 M [.ref (gad 0 0), .int p1] (some (.int r)) M := by
  refine gMet_of pl_X10 rfl (Nat.le_of_ble_eq_true rfl) (fun Ψ C CR => ?_)
  show Ψ M 0 [(0, .ref (gad 0 0)), (1, .int p1)] []
  refine r_iload_n (pc := 0) C dX10_status_0 rfl 1 rfl ?_
  refine r_if_lt (pc := 1) (tgt := 18) C dX10_status_1 rfl (fun c_1 => ?_) (fun c_1 => ?_)
  · replace hr := (if_pos c_1).symm.trans hr
    refine r_iconst (pc := 18) C dX10_status_18 kim1 ?_
    exact r_iret (pc := 19) CR dX10_status_19 (congrArg (fun z => some (Value.int z)) (gSome hr)) rfl
  · replace hr := (if_neg c_1).symm.trans hr
    refine r_iload_n (pc := 4) C dX10_status_4 rfl 1 rfl ?_
    refine r_iconst (pc := 5) C dX10_status_5 ki4 ?_
    refine r_icmp_ge (pc := 6) (tgt := 18) C dX10_status_6 rfl (fun c_2 => ?_) (fun c_2 => ?_)
    · replace hr := (if_pos c_2).symm.trans hr
      refine r_iconst (pc := 18) C dX10_status_18 kim1 ?_
      exact r_iret (pc := 19) CR dX10_status_19 (congrArg (fun z => some (Value.int z)) (gSome hr)) rfl
    · replace hr := (if_neg c_2).symm.trans hr
      refine r_aload_n (pc := 9) C dX10_status_9 rfl 0 rfl ?_
      refine g0_11 (pc := 10) C dX10_status_10 q545 (e0 nf) ?_
      refine r_iload_n (pc := 13) C dX10_status_13 rfl 1 rfl ?_
      obtain ⟨g_3, hr⟩ := gG_some hr
      refine r_ialdN (pc := 14) C dX10_status_14 rfl (e48 nf) g_3 rfl ?_
      refine r_goto (pc := 15) (tgt := 19) C dX10_status_15 rfl ?_
      exact r_iret (pc := 19) CR dX10_status_19 (congrArg (fun z => some (Value.int z)) (gSome hr)) rfl
theorem c_X10_status {Ψ : gM → Nat → List (Nat × Value) → List Value → Prop} {G : gG5} {nf : Nat} {cc : ByteArray} {own : String} {nL : Nat} {ret : Option FieldType} {fr lo : Nat} {v0 : Option Value} {M0 M : gM} {pc index : Nat} {ls : List (Nat × Value)} {st : List Value} (C : gC Ψ G (gXn nf) cc own nL ret fr lo v0 M0) (d : decode cc pc = .ok (.invokevirtual index, 3)) (hl : Cond.methodLink own index yX10_status ∈ gws) (hR : 1 ≤ fr ∧ 21 ≤ lo) {p1 : Int32} {r : Int32} (hr : X10_status p1 M = some r) (hcat : (st.map fun v => v.category).sum ≤ 8) (k : Ψ M (pc + 3) ls (.int r :: st)) : Ψ M pc ls (.int p1 :: .ref (gad 0 0) :: st) := r_callV C [.int p1] st d (k_X10_status hr) hl q1110 q1111 q116 q1112 hd_X10_status hR rfl (by decide) (e0 nf) rfl hcat k
theorem hd_X2_restore : yX2_restore.cls ≠ "java/lang/invoke/MethodHandle" ∧ yX2_restore.cls ≠ "java/lang/invoke/VarHandle" ∧ (parseMethodDescriptor yX2_restore.desc).map (fun d => d.parameters.length) = some 1 := by decide +kernel
noncomputable def X2_restore_J19 (nf : Nat) (i1 : Nat) (xs0 : Int32) (M : gM) : Option gM := gLet (wI M 43 0 1 xs0) (fun M_2 => gG (gin (M_2.1 43 0 1) 40) (gG (decide ((Int32.toNatClampNeg (M_2.1 43 0 1)) < nf)) ((X0_copyFrom i1 ((Int32.toNatClampNeg (M_2.1 43 0 1)) + 3) M_2).bind (fun M_6 => gLet (wI M_6 43 0 2 ((M_6.1 43 0 2) - 1)) (fun M_7 => some M_7)))))
theorem t_X2_restore_J19 {Ψ : gM → Nat → List (Nat × Value) → List Value → Prop} {G : gG5} {nf : Nat} {M : gM} {i1 : Nat} {xs0 : Int32} {M1 : gM} (C : gC Ψ G (gXn nf) cX2_restore RX2 3 none 3 85 none M1) (CR : gR Ψ cX2_restore none none M1) (h1 : i1 < nf + 3) (hr : X2_restore_J19 nf i1 xs0 M = some M1) : Ψ M 19 [(0, .ref (gad 43 0)), (1, .ref (gad 33 i1))] [.int xs0, .ref (gad 43 0)] := by
  obtain ⟨M_2, eM_2, hr⟩ := gLet_some hr
  refine p43_1 (pc := 19) C dX2_restore_19 q506 (e43 nf) eM_2 ?_
  refine r_aload_n (pc := 22) C dX2_restore_22 rfl 0 rfl ?_
  refine g43_0 (pc := 23) C dX2_restore_23 q505 (e43 nf) ?_
  refine r_aload_n (pc := 26) C dX2_restore_26 rfl 0 rfl ?_
  refine g43_1 (pc := 27) C dX2_restore_27 q506 (e43 nf) ?_
  obtain ⟨g_3, hr⟩ := gG_some hr
  obtain ⟨g_4, hr⟩ := gG_some hr
  refine a44 (pc := 30) C dX2_restore_30 g_3 (of_decide_eq_true g_4) ?_
  refine r_astore_n (pc := 31) C dX2_restore_31 rfl (by decide) rfl (ls' := [(2, .ref (gad 33 ((Int32.toNatClampNeg (M_2.1 43 0 1)) + 3))), (0, .ref (gad 43 0)), (1, .ref (gad 33 i1))]) rfl ?_
  refine r_aload_n (pc := 32) C dX2_restore_32 rfl 0 rfl ?_
  refine r_ifnullR (pc := 33) C dX2_restore_33 ?_
  refine r_aload_n (pc := 36) C dX2_restore_36 rfl 2 rfl ?_
  refine r_aload_n (pc := 37) C dX2_restore_37 rfl 0 rfl ?_
  obtain ⟨M_6, hc_5, hr⟩ := gBind_some hr
  refine c_X0_copyFrom (pc := 38) C dX2_restore_38 q998 ⟨Nat.le_of_ble_eq_true rfl, Nat.le_of_ble_eq_true rfl⟩ h1 (Nat.add_lt_add_right (of_decide_eq_true g_4) 3) hc_5 (Nat.le_of_ble_eq_true rfl) ?_
  refine r_aload_n (pc := 41) C dX2_restore_41 rfl 1 rfl ?_
  refine r_dup (pc := 42) C dX2_restore_42 rfl ?_
  refine g43_2 (pc := 43) C dX2_restore_43 q507 (e43 nf) ?_
  refine r_iconst (pc := 46) C dX2_restore_46 ki1 ?_
  refine r_isub (pc := 47) C dX2_restore_47 ?_
  obtain ⟨M_7, eM_7, hr⟩ := gLet_some hr
  refine p43_2 (pc := 48) C dX2_restore_48 q507 (e43 nf) eM_7 ?_
  exact r_vret (pc := 51) CR dX2_restore_51 rfl (gSome hr)
noncomputable def X2_restore (nf : Nat) (i1 : Nat) (M : gM) : Option gM := (if (M.1 43 0 1) ≤ 0 then X2_restore_J19 nf i1 39 M else X2_restore_J19 nf i1 ((M.1 43 0 1) - 1) M)
theorem k_X2_restore {G : gG5} {nf : Nat} {M : gM} {i1 : Nat} (h1 : i1 < nf + 3) {M1 : gM} (hr : X2_restore nf i1 M = some M1) : gMet G (gXn nf) yX2_restore cX2_restore 3 none 3 85 M [.ref (gad 43 0), .ref (gad 33 i1)] none M1 := by
  refine gMet_of pl_X2 rfl (Nat.le_of_ble_eq_true rfl) (fun Ψ C CR => ?_)
  show Ψ M 0 [(0, .ref (gad 43 0)), (1, .ref (gad 33 i1))] []
  refine r_aload_n (pc := 0) C dX2_restore_0 rfl 0 rfl ?_
  refine r_aload_n (pc := 1) C dX2_restore_1 rfl 0 rfl ?_
  refine g43_1 (pc := 2) C dX2_restore_2 q506 (e43 nf) ?_
  refine r_if_le (pc := 5) (tgt := 17) C dX2_restore_5 rfl (fun c_1 => ?_) (fun c_1 => ?_)
  · replace hr := (if_pos c_1).symm.trans hr
    refine r_bipush (pc := 17) C dX2_restore_17 kb39 ?_
    exact t_X2_restore_J19 C CR h1 hr
  · replace hr := (if_neg c_1).symm.trans hr
    refine r_aload_n (pc := 8) C dX2_restore_8 rfl 0 rfl ?_
    refine g43_1 (pc := 9) C dX2_restore_9 q506 (e43 nf) ?_
    refine r_iconst (pc := 12) C dX2_restore_12 ki1 ?_
    refine r_isub (pc := 13) C dX2_restore_13 ?_
    refine r_goto (pc := 14) (tgt := 19) C dX2_restore_14 rfl ?_
    exact t_X2_restore_J19 C CR h1 hr
theorem c_X2_restore {Ψ : gM → Nat → List (Nat × Value) → List Value → Prop} {G : gG5} {nf : Nat} {cc : ByteArray} {own : String} {nL : Nat} {ret : Option FieldType} {fr lo : Nat} {v0 : Option Value} {M0 M : gM} {pc index : Nat} {ls : List (Nat × Value)} {st : List Value} (C : gC Ψ G (gXn nf) cc own nL ret fr lo v0 M0) (d : decode cc pc = .ok (.invokevirtual index, 3)) (hl : Cond.methodLink own index yX2_restore ∈ gws) (hR : 4 ≤ fr ∧ 107 ≤ lo) {i1 : Nat} (h1 : i1 < nf + 3) {M1 : gM} (hr : X2_restore nf i1 M = some M1) (hcat : (st.map fun v => v.category).sum ≤ 8) (k : Ψ M1 (pc + 3) ls (st)) : Ψ M pc ls (.ref (gad 33 i1) :: .ref (gad 43 0) :: st) := r_callV C [.ref (gad 33 i1)] st d (k_X2_restore h1 hr) hl q1118 q1119 q125 q1120 hd_X2_restore hR rfl (by decide) (e43 nf) rfl hcat k
theorem hd_X10_undo : yX10_undo.cls ≠ "java/lang/invoke/MethodHandle" ∧ yX10_undo.cls ≠ "java/lang/invoke/VarHandle" ∧ (parseMethodDescriptor yX10_undo.desc).map (fun d => d.parameters.length) = some 0 := by decide +kernel
noncomputable def X10_undo (nf : Nat) (M : gM) : Option (Int32 × gM) := (if (M.1 43 0 2) = 0 then some ((-1), M) else (X2_restore nf 0 M).bind (fun M_3 => (X9_fit 0 M_3).bind (fun M_5 => some ((M_5.1 43 0 2), M_5))))
theorem k_X10_undo {G : gG5} {nf : Nat} {M : gM} {r : Int32} {M1 : gM} (hr : X10_undo nf M = some (r, M1)) : gMet G (gXn nf) yX10_undo cX10_undo 1 (some .int) 5 127 M [.ref (gad 0 0)] (some (.int r)) M1 := by
  refine gMet_of pl_X10 rfl (Nat.le_of_ble_eq_true rfl) (fun Ψ C CR => ?_)
  show Ψ M 0 [(0, .ref (gad 0 0))] []
  refine r_aload_n (pc := 0) C dX10_undo_0 rfl 0 rfl ?_
  refine g0_9 (pc := 1) C dX10_undo_1 q543 (e0 nf) ?_
  refine g43_2 (pc := 4) C dX10_undo_4 q508 (e43 nf) ?_
  refine r_if_ne (pc := 7) (tgt := 12) C dX10_undo_7 rfl (fun c_1 => ?_) (fun c_1 => ?_)
  · replace hr := (if_neg c_1).symm.trans hr
    refine r_aload_n (pc := 12) C dX10_undo_12 rfl 0 rfl ?_
    refine g0_9 (pc := 13) C dX10_undo_13 q543 (e0 nf) ?_
    refine r_aload_n (pc := 16) C dX10_undo_16 rfl 0 rfl ?_
    refine g0_7 (pc := 17) C dX10_undo_17 q541 (e0 nf) ?_
    obtain ⟨M_3, hc_2, hr⟩ := gBind_some hr
    refine c_X2_restore (pc := 20) C dX10_undo_20 q1117 ⟨Nat.le_of_ble_eq_true rfl, Nat.le_of_ble_eq_true rfl⟩ (gf0 nf) hc_2 (Nat.le_of_ble_eq_true rfl) ?_
    refine r_aload_n (pc := 23) C dX10_undo_23 rfl 0 rfl ?_
    refine g0_5 (pc := 24) C dX10_undo_24 q539 (e0 nf) ?_
    refine r_aload_n (pc := 27) C dX10_undo_27 rfl 0 rfl ?_
    refine g0_7 (pc := 28) C dX10_undo_28 q541 (e0 nf) ?_
    obtain ⟨M_5, hc_4, hr⟩ := gBind_some hr
    refine c_X9_fit (pc := 31) C dX10_undo_31 q794 ⟨Nat.le_of_ble_eq_true rfl, Nat.le_of_ble_eq_true rfl⟩ (gf0 nf) hc_4 (Nat.le_of_ble_eq_true rfl) ?_
    refine r_aload_n (pc := 34) C dX10_undo_34 rfl 0 rfl ?_
    refine g0_9 (pc := 35) C dX10_undo_35 q543 (e0 nf) ?_
    refine g43_2 (pc := 38) C dX10_undo_38 q508 (e43 nf) ?_
    exact r_iret (pc := 41) CR dX10_undo_41 (congrArg (fun z => some (Value.int z)) (Prod.mk.inj (gSome hr)).1) (Prod.mk.inj (gSome hr)).2
  · replace hr := (if_pos c_1).symm.trans hr
    refine r_iconst (pc := 10) C dX10_undo_10 kim1 ?_
    exact r_iret (pc := 11) CR dX10_undo_11 (congrArg (fun z => some (Value.int z)) (Prod.mk.inj (gSome hr)).1) (Prod.mk.inj (gSome hr)).2
theorem c_X10_undo {Ψ : gM → Nat → List (Nat × Value) → List Value → Prop} {G : gG5} {nf : Nat} {cc : ByteArray} {own : String} {nL : Nat} {ret : Option FieldType} {fr lo : Nat} {v0 : Option Value} {M0 M : gM} {pc index : Nat} {ls : List (Nat × Value)} {st : List Value} (C : gC Ψ G (gXn nf) cc own nL ret fr lo v0 M0) (d : decode cc pc = .ok (.invokevirtual index, 3)) (hl : Cond.methodLink own index yX10_undo ∈ gws) (hR : 6 ≤ fr ∧ 147 ≤ lo) {r : Int32} {M1 : gM} (hr : X10_undo nf M = some (r, M1)) (hcat : (st.map fun v => v.category).sum ≤ 8) (k : Ψ M1 (pc + 3) ls (.int r :: st)) : Ψ M pc ls (.ref (gad 0 0) :: st) := r_callV C [] st d (k_X10_undo hr) hl q1114 q1115 q116 q1116 hd_X10_undo hR rfl (by decide) (e0 nf) rfl hcat k
theorem hd_X0_logLength : yX0_logLength.cls ≠ "java/lang/invoke/MethodHandle" ∧ yX0_logLength.cls ≠ "java/lang/invoke/VarHandle" ∧ (parseMethodDescriptor yX0_logLength.desc).map (fun d => d.parameters.length) = some 0 := by decide +kernel
noncomputable def X0_logLength (i0 : Nat) (M : gM) : Option Int32 := some (gmin (M.1 33 i0 9) 60)
theorem k_X0_logLength {G : gG5} {nf : Nat} {M : gM} {i0 : Nat} (h0 : i0 < nf + 3) {r : Int32} (hr : X0_logLength i0 M = some r) : gMet G (gXn nf) yX0_logLength cX0_logLength 1 (some .int) 1 21 M [.ref (gad 33 i0)] (some (.int r)) M := by
  refine gMet_of pl_X0 rfl (Nat.le_of_ble_eq_true rfl) (fun Ψ C CR => ?_)
  show Ψ M 0 [(0, .ref (gad 33 i0))] []
  refine r_aload_n (pc := 0) C dX0_logLength_0 rfl 0 rfl ?_
  refine g33_9 (pc := 1) C dX0_logLength_1 q430 (e33 (nf := nf) h0) ?_
  refine r_bipush (pc := 4) C dX0_logLength_4 kb60 ?_
  refine r_min (pc := 6) C dX0_logLength_6 q1129 (by decide) (Nat.le_of_ble_eq_true rfl) ?_
  exact r_iret (pc := 9) CR dX0_logLength_9 (congrArg (fun z => some (Value.int z)) (gSome hr)) rfl
theorem c_X0_logLength {Ψ : gM → Nat → List (Nat × Value) → List Value → Prop} {G : gG5} {nf : Nat} {cc : ByteArray} {own : String} {nL : Nat} {ret : Option FieldType} {fr lo : Nat} {v0 : Option Value} {M0 M : gM} {pc index : Nat} {ls : List (Nat × Value)} {st : List Value} (C : gC Ψ G (gXn nf) cc own nL ret fr lo v0 M0) (d : decode cc pc = .ok (.invokevirtual index, 3)) (hl : Cond.methodLink own index yX0_logLength ∈ gws) (hR : 2 ≤ fr ∧ 41 ≤ lo) {i0 : Nat} (h0 : i0 < nf + 3) {r : Int32} (hr : X0_logLength i0 M = some r) (hcat : (st.map fun v => v.category).sum ≤ 8) (k : Ψ M (pc + 3) ls (.int r :: st)) : Ψ M pc ls (.ref (gad 33 i0) :: st) := r_callV C [] st d (k_X0_logLength h0 hr) hl q1126 q1127 q124 q1128 hd_X0_logLength hR rfl (by decide) (e33 (nf := nf) h0) rfl hcat k
theorem hd_X0_noted : yX0_noted.cls ≠ "java/lang/invoke/MethodHandle" ∧ yX0_noted.cls ≠ "java/lang/invoke/VarHandle" ∧ (parseMethodDescriptor yX0_noted.desc).map (fun d => d.parameters.length) = some 2 := by decide +kernel
noncomputable def X0_noted (i0 : Nat) (p1 : Int32) (p2 : Int32) (M : gM) : Option Int32 := (J9_floorMod_7cf53 (((M.1 33 i0 9) - 1) - p1) 60 M).bind (fun r_2 => gG (gin ((r_2 * 3) + p2) 180) (some (M.1 42 i0 (Int32.toNatClampNeg ((r_2 * 3) + p2)))))
theorem k_X0_noted {G : gG5} {nf : Nat} {M : gM} {i0 : Nat} {p1 : Int32} {p2 : Int32} (h0 : i0 < nf + 3) {r : Int32} (hr : X0_noted i0 p1 p2 M = some r) : gMet G (gXn nf) yX0_noted cX0_noted 3 (some .int) 1 22 M [.ref (gad 33 i0), .int p1, .int p2] (some (.int r)) M := by
  refine gMet_of pl_X0 rfl (Nat.le_of_ble_eq_true rfl) (fun Ψ C CR => ?_)
  show Ψ M 0 [(0, .ref (gad 33 i0)), (1, .int p1), (2, .int p2)] []
  refine r_aload_n (pc := 0) C dX0_noted_0 rfl 0 rfl ?_
  refine g33_8 (pc := 1) C dX0_noted_1 q429 (e33 (nf := nf) h0) ?_
  refine r_aload_n (pc := 4) C dX0_noted_4 rfl 0 rfl ?_
  refine g33_9 (pc := 5) C dX0_noted_5 q430 (e33 (nf := nf) h0) ?_
  refine r_iconst (pc := 8) C dX0_noted_8 ki1 ?_
  refine r_isub (pc := 9) C dX0_noted_9 ?_
  refine r_iload_n (pc := 10) C dX0_noted_10 rfl 1 rfl ?_
  refine r_isub (pc := 11) C dX0_noted_11 ?_
  refine r_bipush (pc := 12) C dX0_noted_12 kb60 ?_
  obtain ⟨r_2, hc_1, hr⟩ := gBind_some hr
  refine c_J9_floorMod_7cf53 (pc := 14) C dX0_noted_14 q1061 ⟨Nat.le_of_ble_eq_true rfl, Nat.le_of_ble_eq_true rfl⟩ hc_1 (Nat.le_of_ble_eq_true rfl) ?_
  refine r_iconst (pc := 17) C dX0_noted_17 ki3 ?_
  refine r_imul (pc := 18) C dX0_noted_18 ?_
  refine r_iload_n (pc := 19) C dX0_noted_19 rfl 2 rfl ?_
  refine r_iadd (pc := 20) C dX0_noted_20 ?_
  obtain ⟨g_3, hr⟩ := gG_some hr
  refine r_ialdN (pc := 21) C dX0_noted_21 rfl (e42 (nf := nf) h0) g_3 rfl ?_
  exact r_iret (pc := 22) CR dX0_noted_22 (congrArg (fun z => some (Value.int z)) (gSome hr)) rfl
theorem c_X0_noted {Ψ : gM → Nat → List (Nat × Value) → List Value → Prop} {G : gG5} {nf : Nat} {cc : ByteArray} {own : String} {nL : Nat} {ret : Option FieldType} {fr lo : Nat} {v0 : Option Value} {M0 M : gM} {pc index : Nat} {ls : List (Nat × Value)} {st : List Value} (C : gC Ψ G (gXn nf) cc own nL ret fr lo v0 M0) (d : decode cc pc = .ok (.invokevirtual index, 3)) (hl : Cond.methodLink own index yX0_noted ∈ gws) (hR : 2 ≤ fr ∧ 44 ≤ lo) {i0 : Nat} {p1 : Int32} {p2 : Int32} (h0 : i0 < nf + 3) {r : Int32} (hr : X0_noted i0 p1 p2 M = some r) (hcat : (st.map fun v => v.category).sum ≤ 8) (k : Ψ M (pc + 3) ls (.int r :: st)) : Ψ M pc ls (.int p2 :: .int p1 :: .ref (gad 33 i0) :: st) := r_callV C [.int p1, .int p2] st d (k_X0_noted h0 hr) hl q1131 q1132 q124 q1133 hd_X0_noted hR rfl (by decide) (e33 (nf := nf) h0) rfl hcat k
theorem hd_X10_log : yX10_log.cls ≠ "java/lang/invoke/MethodHandle" ∧ yX10_log.cls ≠ "java/lang/invoke/VarHandle" ∧ (parseMethodDescriptor yX10_log.desc).map (fun d => d.parameters.length) = some 2 := by decide +kernel
noncomputable def X10_log (p1 : Int32) (p2 : Int32) (M : gM) : Option Int32 := (if p1 < 0 then some (-1) else (X0_logLength 0 M).bind (fun r_3 => (if r_3 ≤ p1 then some (-1) else (if p2 < 0 then some (-1) else (if p2 ≤ 2 then (X0_noted 0 p1 p2 M).bind (fun r_8 => some r_8) else some (-1))))))
theorem k_X10_log {G : gG5} {nf : Nat} {M : gM} {p1 : Int32} {p2 : Int32} {r : Int32} (hr : X10_log p1 p2 M = some r) : gMet G (gXn nf) yX10_log cX10_log 3 (some .int) 2 44 M [.ref (gad 0 0), .int p1, .int p2] (some (.int r)) M := by
  refine gMet_of pl_X10 rfl (Nat.le_of_ble_eq_true rfl) (fun Ψ C CR => ?_)
  show Ψ M 0 [(0, .ref (gad 0 0)), (1, .int p1), (2, .int p2)] []
  refine r_iload_n (pc := 0) C dX10_log_0 rfl 1 rfl ?_
  refine r_if_lt (pc := 1) (tgt := 24) C dX10_log_1 rfl (fun c_1 => ?_) (fun c_1 => ?_)
  · replace hr := (if_pos c_1).symm.trans hr
    refine r_iconst (pc := 24) C dX10_log_24 kim1 ?_
    exact r_iret (pc := 25) CR dX10_log_25 (congrArg (fun z => some (Value.int z)) (gSome hr)) rfl
  · replace hr := (if_neg c_1).symm.trans hr
    refine r_iload_n (pc := 4) C dX10_log_4 rfl 1 rfl ?_
    refine r_aload_n (pc := 5) C dX10_log_5 rfl 0 rfl ?_
    refine g0_7 (pc := 6) C dX10_log_6 q541 (e0 nf) ?_
    obtain ⟨r_3, hc_2, hr⟩ := gBind_some hr
    refine c_X0_logLength (pc := 9) C dX10_log_9 q1125 ⟨Nat.le_of_ble_eq_true rfl, Nat.le_of_ble_eq_true rfl⟩ (gf0 nf) hc_2 (Nat.le_of_ble_eq_true rfl) ?_
    refine r_icmp_ge (pc := 12) (tgt := 24) C dX10_log_12 rfl (fun c_4 => ?_) (fun c_4 => ?_)
    · replace hr := (if_pos c_4).symm.trans hr
      refine r_iconst (pc := 24) C dX10_log_24 kim1 ?_
      exact r_iret (pc := 25) CR dX10_log_25 (congrArg (fun z => some (Value.int z)) (gSome hr)) rfl
    · replace hr := (if_neg c_4).symm.trans hr
      refine r_iload_n (pc := 15) C dX10_log_15 rfl 2 rfl ?_
      refine r_if_lt (pc := 16) (tgt := 24) C dX10_log_16 rfl (fun c_5 => ?_) (fun c_5 => ?_)
      · replace hr := (if_pos c_5).symm.trans hr
        refine r_iconst (pc := 24) C dX10_log_24 kim1 ?_
        exact r_iret (pc := 25) CR dX10_log_25 (congrArg (fun z => some (Value.int z)) (gSome hr)) rfl
      · replace hr := (if_neg c_5).symm.trans hr
        refine r_iload_n (pc := 19) C dX10_log_19 rfl 2 rfl ?_
        refine r_iconst (pc := 20) C dX10_log_20 ki2 ?_
        refine r_icmp_le (pc := 21) (tgt := 26) C dX10_log_21 rfl (fun c_6 => ?_) (fun c_6 => ?_)
        · replace hr := (if_pos c_6).symm.trans hr
          refine r_aload_n (pc := 26) C dX10_log_26 rfl 0 rfl ?_
          refine g0_7 (pc := 27) C dX10_log_27 q541 (e0 nf) ?_
          refine r_iload_n (pc := 30) C dX10_log_30 rfl 1 rfl ?_
          refine r_iload_n (pc := 31) C dX10_log_31 rfl 2 rfl ?_
          obtain ⟨r_8, hc_7, hr⟩ := gBind_some hr
          refine c_X0_noted (pc := 32) C dX10_log_32 q1130 ⟨Nat.le_of_ble_eq_true rfl, Nat.le_of_ble_eq_true rfl⟩ (gf0 nf) hc_7 (Nat.le_of_ble_eq_true rfl) ?_
          exact r_iret (pc := 35) CR dX10_log_35 (congrArg (fun z => some (Value.int z)) (gSome hr)) rfl
        · replace hr := (if_neg c_6).symm.trans hr
          refine r_iconst (pc := 24) C dX10_log_24 kim1 ?_
          exact r_iret (pc := 25) CR dX10_log_25 (congrArg (fun z => some (Value.int z)) (gSome hr)) rfl
theorem c_X10_log {Ψ : gM → Nat → List (Nat × Value) → List Value → Prop} {G : gG5} {nf : Nat} {cc : ByteArray} {own : String} {nL : Nat} {ret : Option FieldType} {fr lo : Nat} {v0 : Option Value} {M0 M : gM} {pc index : Nat} {ls : List (Nat × Value)} {st : List Value} (C : gC Ψ G (gXn nf) cc own nL ret fr lo v0 M0) (d : decode cc pc = .ok (.invokevirtual index, 3)) (hl : Cond.methodLink own index yX10_log ∈ gws) (hR : 3 ≤ fr ∧ 66 ≤ lo) {p1 : Int32} {p2 : Int32} {r : Int32} (hr : X10_log p1 p2 M = some r) (hcat : (st.map fun v => v.category).sum ≤ 8) (k : Ψ M (pc + 3) ls (.int r :: st)) : Ψ M pc ls (.int p2 :: .int p1 :: .ref (gad 0 0) :: st) := r_callV C [.int p1, .int p2] st d (k_X10_log hr) hl q1122 q1123 q116 q1124 hd_X10_log hR rfl (by decide) (e0 nf) rfl hcat k
theorem hd_X10_hasScript : yX10_hasScript.cls ≠ "java/lang/invoke/MethodHandle" ∧ yX10_hasScript.cls ≠ "java/lang/invoke/VarHandle" ∧ (parseMethodDescriptor yX10_hasScript.desc).map (fun d => d.parameters.length) = some 1 := by decide +kernel
noncomputable def X10_hasScript (p1 : Int32) (M : gM) : Option Int32 := (if p1 < 0 then some 0 else (if (M.1 0 0 13) ≤ p1 then some 0 else some 1))
theorem k_X10_hasScript {G : gG5} {nf : Nat} {M : gM} {p1 : Int32} {r : Int32} (hr : X10_hasScript p1 M = some r) : gMet G (gXn nf) yX10_hasScript cX10_hasScript 2 (some .boolean) 0 0 M [.ref (gad 0 0), .int p1] (some (.int r)) M := by
  refine gMet_of pl_X10 rfl (Nat.le_of_ble_eq_true rfl) (fun Ψ C CR => ?_)
  show Ψ M 0 [(0, .ref (gad 0 0)), (1, .int p1)] []
  refine r_iload_n (pc := 0) C dX10_hasScript_0 rfl 1 rfl ?_
  refine r_if_lt (pc := 1) (tgt := 16) C dX10_hasScript_1 rfl (fun c_1 => ?_) (fun c_1 => ?_)
  · replace hr := (if_pos c_1).symm.trans hr
    refine r_iconst (pc := 16) C dX10_hasScript_16 ki0 ?_
    exact r_zret (pc := 17) CR dX10_hasScript_17 rfl (congrArg (fun z => some (Value.int z)) (gSome hr)) rfl
  · replace hr := (if_neg c_1).symm.trans hr
    refine r_iload_n (pc := 4) C dX10_hasScript_4 rfl 1 rfl ?_
    refine r_aload_n (pc := 5) C dX10_hasScript_5 rfl 0 rfl ?_
    refine g0_13 (pc := 6) C dX10_hasScript_6 q547 (e0 nf) ?_
    refine r_icmp_ge (pc := 9) (tgt := 16) C dX10_hasScript_9 rfl (fun c_2 => ?_) (fun c_2 => ?_)
    · replace hr := (if_pos c_2).symm.trans hr
      refine r_iconst (pc := 16) C dX10_hasScript_16 ki0 ?_
      exact r_zret (pc := 17) CR dX10_hasScript_17 rfl (congrArg (fun z => some (Value.int z)) (gSome hr)) rfl
    · replace hr := (if_neg c_2).symm.trans hr
      refine r_iconst (pc := 12) C dX10_hasScript_12 ki1 ?_
      refine r_goto (pc := 13) (tgt := 17) C dX10_hasScript_13 rfl ?_
      exact r_zret (pc := 17) CR dX10_hasScript_17 rfl (congrArg (fun z => some (Value.int z)) (gSome hr)) rfl
theorem c_X10_hasScript {Ψ : gM → Nat → List (Nat × Value) → List Value → Prop} {G : gG5} {nf : Nat} {cc : ByteArray} {own : String} {nL : Nat} {ret : Option FieldType} {fr lo : Nat} {v0 : Option Value} {M0 M : gM} {pc index : Nat} {ls : List (Nat × Value)} {st : List Value} (C : gC Ψ G (gXn nf) cc own nL ret fr lo v0 M0) (d : decode cc pc = .ok (.invokevirtual index, 3)) (hl : Cond.methodLink own index yX10_hasScript ∈ gws) (hR : 1 ≤ fr ∧ 21 ≤ lo) {p1 : Int32} {r : Int32} (hr : X10_hasScript p1 M = some r) (hcat : (st.map fun v => v.category).sum ≤ 8) (k : Ψ M (pc + 3) ls (.int r :: st)) : Ψ M pc ls (.int p1 :: .ref (gad 0 0) :: st) := r_callV C [.int p1] st d (k_X10_hasScript hr) hl q1140 q31 q116 q1141 hd_X10_hasScript hR rfl (by decide) (e0 nf) rfl hcat k
theorem hd_X5_kindOf : yX5_kindOf.cls ≠ "java/lang/invoke/MethodHandle" ∧ yX5_kindOf.cls ≠ "java/lang/invoke/VarHandle" ∧ (parseMethodDescriptor yX5_kindOf.desc).map (fun d => d.parameters.length) = some 1 := by decide +kernel
noncomputable def X5_kindOf (i0 : Nat) (p1 : Int32) (M : gM) : Option Int32 := (if p1 < 0 then some 9 else (if (M.1 46 i0 1) ≤ p1 then some 9 else gG (gin (p1 * 5) 60) (some (M.1 47 i0 (Int32.toNatClampNeg (p1 * 5))))))
theorem k_X5_kindOf {G : gG5} {nf : Nat} {M : gM} {i0 : Nat} {p1 : Int32} (h0 : i0 < 5) {r : Int32} (hr : X5_kindOf i0 p1 M = some r) : gMet G (gXn nf) yX5_kindOf cX5_kindOf 2 (some .int) 0 0 M [.ref (gad 46 i0), .int p1] (some (.int r)) M := by
  refine gMet_of pl_X5 rfl (Nat.le_of_ble_eq_true rfl) (fun Ψ C CR => ?_)
  show Ψ M 0 [(0, .ref (gad 46 i0)), (1, .int p1)] []
  refine r_iload_n (pc := 0) C dX5_kindOf_0 rfl 1 rfl ?_
  refine r_if_lt (pc := 1) (tgt := 23) C dX5_kindOf_1 rfl (fun c_1 => ?_) (fun c_1 => ?_)
  · replace hr := (if_pos c_1).symm.trans hr
    refine r_bipush (pc := 23) C dX5_kindOf_23 kb9 ?_
    exact r_iret (pc := 25) CR dX5_kindOf_25 (congrArg (fun z => some (Value.int z)) (gSome hr)) rfl
  · replace hr := (if_neg c_1).symm.trans hr
    refine r_iload_n (pc := 4) C dX5_kindOf_4 rfl 1 rfl ?_
    refine r_aload_n (pc := 5) C dX5_kindOf_5 rfl 0 rfl ?_
    refine g46_1 (pc := 6) C dX5_kindOf_6 q525 (e46 (nf := nf) h0) ?_
    refine r_icmp_ge (pc := 9) (tgt := 23) C dX5_kindOf_9 rfl (fun c_2 => ?_) (fun c_2 => ?_)
    · replace hr := (if_pos c_2).symm.trans hr
      refine r_bipush (pc := 23) C dX5_kindOf_23 kb9 ?_
      exact r_iret (pc := 25) CR dX5_kindOf_25 (congrArg (fun z => some (Value.int z)) (gSome hr)) rfl
    · replace hr := (if_neg c_2).symm.trans hr
      refine r_aload_n (pc := 12) C dX5_kindOf_12 rfl 0 rfl ?_
      refine g46_0 (pc := 13) C dX5_kindOf_13 q523 (e46 (nf := nf) h0) ?_
      refine r_iload_n (pc := 16) C dX5_kindOf_16 rfl 1 rfl ?_
      refine r_iconst (pc := 17) C dX5_kindOf_17 ki5 ?_
      refine r_imul (pc := 18) C dX5_kindOf_18 ?_
      obtain ⟨g_3, hr⟩ := gG_some hr
      refine r_ialdN (pc := 19) C dX5_kindOf_19 rfl (e47 (nf := nf) h0) g_3 rfl ?_
      refine r_goto (pc := 20) (tgt := 25) C dX5_kindOf_20 rfl ?_
      exact r_iret (pc := 25) CR dX5_kindOf_25 (congrArg (fun z => some (Value.int z)) (gSome hr)) rfl
theorem c_X5_kindOf {Ψ : gM → Nat → List (Nat × Value) → List Value → Prop} {G : gG5} {nf : Nat} {cc : ByteArray} {own : String} {nL : Nat} {ret : Option FieldType} {fr lo : Nat} {v0 : Option Value} {M0 M : gM} {pc index : Nat} {ls : List (Nat × Value)} {st : List Value} (C : gC Ψ G (gXn nf) cc own nL ret fr lo v0 M0) (d : decode cc pc = .ok (.invokevirtual index, 3)) (hl : Cond.methodLink own index yX5_kindOf ∈ gws) (hR : 1 ≤ fr ∧ 21 ≤ lo) {i0 : Nat} {p1 : Int32} (h0 : i0 < 5) {r : Int32} (hr : X5_kindOf i0 p1 M = some r) (hcat : (st.map fun v => v.category).sum ≤ 8) (k : Ψ M (pc + 3) ls (.int r :: st)) : Ψ M pc ls (.int p1 :: .ref (gad 46 i0) :: st) := r_callV C [.int p1] st d (k_X5_kindOf h0 hr) hl q1143 q1144 q126 q1145 hd_X5_kindOf hR rfl (by decide) (e46 (nf := nf) h0) rfl hcat k
theorem hd_X3_numbersOfStep : yX3_numbersOfStep.cls ≠ "java/lang/invoke/MethodHandle" ∧ yX3_numbersOfStep.cls ≠ "java/lang/invoke/VarHandle" ∧ (parseMethodDescriptor yX3_numbersOfStep.desc).map (fun d => d.parameters.length) = some 1 := by decide +kernel
noncomputable def X3_numbersOfStep (p0 : Int32) (M : gM) : Option Int32 := (if p0 < 0 then some 0 else (if 9 ≤ p0 then some 0 else gG (gin p0 9) (some (gSv 3 (Int32.toNatClampNeg p0)))))
theorem k_X3_numbersOfStep {G : gG5} {nf : Nat} {M : gM} {p0 : Int32} {r : Int32} (hr : X3_numbersOfStep p0 M = some r) : gMet G (gXn nf) yX3_numbersOfStep cX3_numbersOfStep 1 (some .int) 0 0 M [.int p0] (some (.int r)) M := by
  refine gMet_of pl_X3 rfl (Nat.le_of_ble_eq_true rfl) (fun Ψ C CR => ?_)
  show Ψ M 0 [(0, .int p0)] []
  refine r_iload_n (pc := 0) C dX3_numbersOfStep_0 rfl 0 rfl ?_
  refine r_if_lt (pc := 1) (tgt := 20) C dX3_numbersOfStep_1 rfl (fun c_1 => ?_) (fun c_1 => ?_)
  · replace hr := (if_pos c_1).symm.trans hr
    refine r_iconst (pc := 20) C dX3_numbersOfStep_20 ki0 ?_
    exact r_iret (pc := 21) CR dX3_numbersOfStep_21 (congrArg (fun z => some (Value.int z)) (gSome hr)) rfl
  · replace hr := (if_neg c_1).symm.trans hr
    refine r_iload_n (pc := 4) C dX3_numbersOfStep_4 rfl 0 rfl ?_
    refine r_gets (pc := 5) (j := 3) C dX3_numbersOfStep_5 (by decide) q710 ?_
    refine r_salen (pc := 8) (n := 9) C dX3_numbersOfStep_8 (by decide) rfl ?_
    refine r_icmp_ge (pc := 9) (tgt := 20) C dX3_numbersOfStep_9 rfl (fun c_2 => ?_) (fun c_2 => ?_)
    · replace hr := (if_pos c_2).symm.trans hr
      refine r_iconst (pc := 20) C dX3_numbersOfStep_20 ki0 ?_
      exact r_iret (pc := 21) CR dX3_numbersOfStep_21 (congrArg (fun z => some (Value.int z)) (gSome hr)) rfl
    · replace hr := (if_neg c_2).symm.trans hr
      refine r_gets (pc := 12) (j := 3) C dX3_numbersOfStep_12 (by decide) q710 ?_
      refine r_iload_n (pc := 15) C dX3_numbersOfStep_15 rfl 0 rfl ?_
      obtain ⟨g_3, hr⟩ := gG_some hr
      refine r_saldN (pc := 16) C dX3_numbersOfStep_16 (by decide) g_3 rfl ?_
      refine r_goto (pc := 17) (tgt := 21) C dX3_numbersOfStep_17 rfl ?_
      exact r_iret (pc := 21) CR dX3_numbersOfStep_21 (congrArg (fun z => some (Value.int z)) (gSome hr)) rfl
theorem c_X3_numbersOfStep {Ψ : gM → Nat → List (Nat × Value) → List Value → Prop} {G : gG5} {nf : Nat} {cc : ByteArray} {own : String} {nL : Nat} {ret : Option FieldType} {fr lo : Nat} {v0 : Option Value} {M0 M : gM} {pc index : Nat} {ls : List (Nat × Value)} {st : List Value} (C : gC Ψ G (gXn nf) cc own nL ret fr lo v0 M0) (d : decode cc pc = .ok (.invokestatic index, 3)) (hl : Cond.methodLink own index yX3_numbersOfStep ∈ gws) (hR : 1 ≤ fr ∧ 20 ≤ lo) {p0 : Int32} {r : Int32} (hr : X3_numbersOfStep p0 M = some r) (hcat : (st.map fun v => v.category).sum ≤ 8) (k : Ψ M (pc + 3) ls (.int r :: st)) : Ψ M pc ls (.int p0 :: st) := r_callS C [.int p0] st d (k_X3_numbersOfStep hr) hl q1147 q118 q1148 hd_X3_numbersOfStep hR rfl hcat k
theorem hd_X10_step : yX10_step.cls ≠ "java/lang/invoke/MethodHandle" ∧ yX10_step.cls ≠ "java/lang/invoke/VarHandle" ∧ (parseMethodDescriptor yX10_step.desc).map (fun d => d.parameters.length) = some 3 := by decide +kernel
noncomputable def X10_step (p1 : Int32) (p2 : Int32) (p3 : Int32) (M : gM) : Option Int32 := (X10_hasScript p1 M).bind (fun r_2 => (if r_2 = 0 then some (-1000000000) else (if p2 < 0 then some (-1000000000) else gG (gin p1 5) ((if p2 < (M.1 46 (Int32.toNatClampNeg p1) 1) then gG (gin p1 5) ((X5_kindOf (Int32.toNatClampNeg p1) p2 M).bind (fun r_9 => (if p3 < 0 then some (-1000000000) else (X3_numbersOfStep r_9 M).bind (fun r_12 => (if p3 ≤ r_12 then gG (gin p1 5) (gG (gin ((p2 * 5) + p3) 60) (some (M.1 47 (Int32.toNatClampNeg p1) (Int32.toNatClampNeg ((p2 * 5) + p3))))) else some (-1000000000)))))) else some (-1000000000))))))
theorem k_X10_step {G : gG5} {nf : Nat} {M : gM} {p1 : Int32} {p2 : Int32} {p3 : Int32} {r : Int32} (hr : X10_step p1 p2 p3 M = some r) : gMet G (gXn nf) yX10_step cX10_step 5 (some .int) 1 21 M [.ref (gad 0 0), .int p1, .int p2, .int p3] (some (.int r)) M := by
  refine gMet_of pl_X10 rfl (Nat.le_of_ble_eq_true rfl) (fun Ψ C CR => ?_)
  show Ψ M 0 [(0, .ref (gad 0 0)), (1, .int p1), (2, .int p2), (3, .int p3)] []
  refine r_aload_n (pc := 0) C dX10_step_0 rfl 0 rfl ?_
  refine r_iload_n (pc := 1) C dX10_step_1 rfl 1 rfl ?_
  obtain ⟨r_2, hc_1, hr⟩ := gBind_some hr
  refine c_X10_hasScript (pc := 2) C dX10_step_2 q1138 ⟨Nat.le_of_ble_eq_true rfl, Nat.le_of_ble_eq_true rfl⟩ hc_1 (Nat.le_of_ble_eq_true rfl) ?_
  refine r_if_eq (pc := 5) (tgt := 25) C dX10_step_5 rfl (fun c_3 => ?_) (fun c_3 => ?_)
  · replace hr := (if_pos c_3).symm.trans hr
    refine r_ldc (pc := 25) C dX10_step_25 q871 ?_
    exact r_iret (pc := 27) CR dX10_step_27 (congrArg (fun z => some (Value.int z)) (gSome hr)) rfl
  · replace hr := (if_neg c_3).symm.trans hr
    refine r_iload_n (pc := 8) C dX10_step_8 rfl 2 rfl ?_
    refine r_if_lt (pc := 9) (tgt := 25) C dX10_step_9 rfl (fun c_4 => ?_) (fun c_4 => ?_)
    · replace hr := (if_pos c_4).symm.trans hr
      refine r_ldc (pc := 25) C dX10_step_25 q871 ?_
      exact r_iret (pc := 27) CR dX10_step_27 (congrArg (fun z => some (Value.int z)) (gSome hr)) rfl
    · replace hr := (if_neg c_4).symm.trans hr
      refine r_iload_n (pc := 12) C dX10_step_12 rfl 2 rfl ?_
      refine r_aload_n (pc := 13) C dX10_step_13 rfl 0 rfl ?_
      refine g0_10 (pc := 14) C dX10_step_14 q544 (e0 nf) ?_
      refine r_iload_n (pc := 17) C dX10_step_17 rfl 1 rfl ?_
      obtain ⟨g_5, hr⟩ := gG_some hr
      refine a45 (pc := 18) C dX10_step_18 g_5 ?_
      refine g46_1 (pc := 19) C dX10_step_19 q528 (e46 (nf := nf) (gin_lt g_5)) ?_
      refine r_icmp_lt (pc := 22) (tgt := 28) C dX10_step_22 rfl (fun c_6 => ?_) (fun c_6 => ?_)
      · replace hr := (if_pos c_6).symm.trans hr
        refine r_aload_n (pc := 28) C dX10_step_28 rfl 0 rfl ?_
        refine g0_10 (pc := 29) C dX10_step_29 q544 (e0 nf) ?_
        refine r_iload_n (pc := 32) C dX10_step_32 rfl 1 rfl ?_
        obtain ⟨g_7, hr⟩ := gG_some hr
        refine a45 (pc := 33) C dX10_step_33 g_7 ?_
        refine r_iload_n (pc := 34) C dX10_step_34 rfl 2 rfl ?_
        obtain ⟨r_9, hc_8, hr⟩ := gBind_some hr
        refine c_X5_kindOf (pc := 35) C dX10_step_35 q1142 ⟨Nat.le_of_ble_eq_true rfl, Nat.le_of_ble_eq_true rfl⟩ (gin_lt g_7) hc_8 (Nat.le_of_ble_eq_true rfl) ?_
        refine r_istore (pc := 38) C dX10_step_38 (by decide) rfl (ls' := [(4, .int r_9), (0, .ref (gad 0 0)), (1, .int p1), (2, .int p2), (3, .int p3)]) rfl ?_
        refine r_iload_n (pc := 40) C dX10_step_40 rfl 4 rfl ?_
        refine r_if_lt (pc := 41) (tgt := 53) C dX10_step_41 rfl (fun c_10 => ?_) (fun c_10 => ?_)
        · replace hr := (if_pos c_10).symm.trans hr
          refine r_ldc (pc := 53) C dX10_step_53 q871 ?_
          exact r_iret (pc := 55) CR dX10_step_55 (congrArg (fun z => some (Value.int z)) (gSome hr)) rfl
        · replace hr := (if_neg c_10).symm.trans hr
          refine r_iload_n (pc := 44) C dX10_step_44 rfl 4 rfl ?_
          refine r_iload (pc := 45) C dX10_step_45 0 rfl ?_
          obtain ⟨r_12, hc_11, hr⟩ := gBind_some hr
          refine c_X3_numbersOfStep (pc := 47) C dX10_step_47 q1146 ⟨Nat.le_of_ble_eq_true rfl, Nat.le_of_ble_eq_true rfl⟩ hc_11 (Nat.le_of_ble_eq_true rfl) ?_
          refine r_icmp_le (pc := 50) (tgt := 56) C dX10_step_50 rfl (fun c_13 => ?_) (fun c_13 => ?_)
          · replace hr := (if_pos c_13).symm.trans hr
            refine r_aload_n (pc := 56) C dX10_step_56 rfl 1 rfl ?_
            refine g0_10 (pc := 57) C dX10_step_57 q544 (e0 nf) ?_
            refine r_iload_n (pc := 60) C dX10_step_60 rfl 2 rfl ?_
            obtain ⟨g_14, hr⟩ := gG_some hr
            refine a45 (pc := 61) C dX10_step_61 g_14 ?_
            refine g46_0 (pc := 62) C dX10_step_62 q524 (e46 (nf := nf) (gin_lt g_14)) ?_
            refine r_iload_n (pc := 65) C dX10_step_65 rfl 3 rfl ?_
            refine r_iconst (pc := 66) C dX10_step_66 ki5 ?_
            refine r_imul (pc := 67) C dX10_step_67 ?_
            refine r_iload_n (pc := 68) C dX10_step_68 rfl 4 rfl ?_
            refine r_iadd (pc := 69) C dX10_step_69 ?_
            obtain ⟨g_15, hr⟩ := gG_some hr
            refine r_ialdN (pc := 70) C dX10_step_70 rfl (e47 (nf := nf) (gin_lt g_14)) g_15 rfl ?_
            exact r_iret (pc := 71) CR dX10_step_71 (congrArg (fun z => some (Value.int z)) (gSome hr)) rfl
          · replace hr := (if_neg c_13).symm.trans hr
            refine r_ldc (pc := 53) C dX10_step_53 q871 ?_
            exact r_iret (pc := 55) CR dX10_step_55 (congrArg (fun z => some (Value.int z)) (gSome hr)) rfl
      · replace hr := (if_neg c_6).symm.trans hr
        refine r_ldc (pc := 25) C dX10_step_25 q871 ?_
        exact r_iret (pc := 27) CR dX10_step_27 (congrArg (fun z => some (Value.int z)) (gSome hr)) rfl
theorem c_X10_step {Ψ : gM → Nat → List (Nat × Value) → List Value → Prop} {G : gG5} {nf : Nat} {cc : ByteArray} {own : String} {nL : Nat} {ret : Option FieldType} {fr lo : Nat} {v0 : Option Value} {M0 M : gM} {pc index : Nat} {ls : List (Nat × Value)} {st : List Value} (C : gC Ψ G (gXn nf) cc own nL ret fr lo v0 M0) (d : decode cc pc = .ok (.invokevirtual index, 3)) (hl : Cond.methodLink own index yX10_step ∈ gws) (hR : 2 ≤ fr ∧ 45 ≤ lo) {p1 : Int32} {p2 : Int32} {p3 : Int32} {r : Int32} (hr : X10_step p1 p2 p3 M = some r) (hcat : (st.map fun v => v.category).sum ≤ 8) (k : Ψ M (pc + 3) ls (.int r :: st)) : Ψ M pc ls (.int p3 :: .int p2 :: .int p1 :: .ref (gad 0 0) :: st) := r_callV C [.int p1, .int p2, .int p3] st d (k_X10_step hr) hl q1135 q1136 q116 q1137 hd_X10_step hR rfl (by decide) (e0 nf) rfl hcat k
theorem hd_X5_number : yX5_number.cls ≠ "java/lang/invoke/MethodHandle" ∧ yX5_number.cls ≠ "java/lang/invoke/VarHandle" ∧ (parseMethodDescriptor yX5_number.desc).map (fun d => d.parameters.length) = some 2 := by decide +kernel
noncomputable def X5_number (i0 : Nat) (p1 : Int32) (p2 : Int32) (M : gM) : Option Int32 := (if p1 < 0 then some 0 else (if (M.1 46 i0 1) ≤ p1 then some 0 else (if p2 < 0 then some 0 else (if 5 ≤ p2 then some 0 else gG (gin ((p1 * 5) + p2) 60) (some (M.1 47 i0 (Int32.toNatClampNeg ((p1 * 5) + p2))))))))
theorem k_X5_number {G : gG5} {nf : Nat} {M : gM} {i0 : Nat} {p1 : Int32} {p2 : Int32} (h0 : i0 < 5) {r : Int32} (hr : X5_number i0 p1 p2 M = some r) : gMet G (gXn nf) yX5_number cX5_number 3 (some .int) 0 0 M [.ref (gad 46 i0), .int p1, .int p2] (some (.int r)) M := by
  refine gMet_of pl_X5 rfl (Nat.le_of_ble_eq_true rfl) (fun Ψ C CR => ?_)
  show Ψ M 0 [(0, .ref (gad 46 i0)), (1, .int p1), (2, .int p2)] []
  refine r_iload_n (pc := 0) C dX5_number_0 rfl 1 rfl ?_
  refine r_if_lt (pc := 1) (tgt := 34) C dX5_number_1 rfl (fun c_1 => ?_) (fun c_1 => ?_)
  · replace hr := (if_pos c_1).symm.trans hr
    refine r_iconst (pc := 34) C dX5_number_34 ki0 ?_
    exact r_iret (pc := 35) CR dX5_number_35 (congrArg (fun z => some (Value.int z)) (gSome hr)) rfl
  · replace hr := (if_neg c_1).symm.trans hr
    refine r_iload_n (pc := 4) C dX5_number_4 rfl 1 rfl ?_
    refine r_aload_n (pc := 5) C dX5_number_5 rfl 0 rfl ?_
    refine g46_1 (pc := 6) C dX5_number_6 q525 (e46 (nf := nf) h0) ?_
    refine r_icmp_ge (pc := 9) (tgt := 34) C dX5_number_9 rfl (fun c_2 => ?_) (fun c_2 => ?_)
    · replace hr := (if_pos c_2).symm.trans hr
      refine r_iconst (pc := 34) C dX5_number_34 ki0 ?_
      exact r_iret (pc := 35) CR dX5_number_35 (congrArg (fun z => some (Value.int z)) (gSome hr)) rfl
    · replace hr := (if_neg c_2).symm.trans hr
      refine r_iload_n (pc := 12) C dX5_number_12 rfl 2 rfl ?_
      refine r_if_lt (pc := 13) (tgt := 34) C dX5_number_13 rfl (fun c_3 => ?_) (fun c_3 => ?_)
      · replace hr := (if_pos c_3).symm.trans hr
        refine r_iconst (pc := 34) C dX5_number_34 ki0 ?_
        exact r_iret (pc := 35) CR dX5_number_35 (congrArg (fun z => some (Value.int z)) (gSome hr)) rfl
      · replace hr := (if_neg c_3).symm.trans hr
        refine r_iload_n (pc := 16) C dX5_number_16 rfl 2 rfl ?_
        refine r_iconst (pc := 17) C dX5_number_17 ki5 ?_
        refine r_icmp_ge (pc := 18) (tgt := 34) C dX5_number_18 rfl (fun c_4 => ?_) (fun c_4 => ?_)
        · replace hr := (if_pos c_4).symm.trans hr
          refine r_iconst (pc := 34) C dX5_number_34 ki0 ?_
          exact r_iret (pc := 35) CR dX5_number_35 (congrArg (fun z => some (Value.int z)) (gSome hr)) rfl
        · replace hr := (if_neg c_4).symm.trans hr
          refine r_aload_n (pc := 21) C dX5_number_21 rfl 0 rfl ?_
          refine g46_0 (pc := 22) C dX5_number_22 q523 (e46 (nf := nf) h0) ?_
          refine r_iload_n (pc := 25) C dX5_number_25 rfl 1 rfl ?_
          refine r_iconst (pc := 26) C dX5_number_26 ki5 ?_
          refine r_imul (pc := 27) C dX5_number_27 ?_
          refine r_iload_n (pc := 28) C dX5_number_28 rfl 2 rfl ?_
          refine r_iadd (pc := 29) C dX5_number_29 ?_
          obtain ⟨g_5, hr⟩ := gG_some hr
          refine r_ialdN (pc := 30) C dX5_number_30 rfl (e47 (nf := nf) h0) g_5 rfl ?_
          refine r_goto (pc := 31) (tgt := 35) C dX5_number_31 rfl ?_
          exact r_iret (pc := 35) CR dX5_number_35 (congrArg (fun z => some (Value.int z)) (gSome hr)) rfl
theorem c_X5_number {Ψ : gM → Nat → List (Nat × Value) → List Value → Prop} {G : gG5} {nf : Nat} {cc : ByteArray} {own : String} {nL : Nat} {ret : Option FieldType} {fr lo : Nat} {v0 : Option Value} {M0 M : gM} {pc index : Nat} {ls : List (Nat × Value)} {st : List Value} (C : gC Ψ G (gXn nf) cc own nL ret fr lo v0 M0) (d : decode cc pc = .ok (.invokevirtual index, 3)) (hl : Cond.methodLink own index yX5_number ∈ gws) (hR : 1 ≤ fr ∧ 22 ≤ lo) {i0 : Nat} {p1 : Int32} {p2 : Int32} (h0 : i0 < 5) {r : Int32} (hr : X5_number i0 p1 p2 M = some r) (hcat : (st.map fun v => v.category).sum ≤ 8) (k : Ψ M (pc + 3) ls (.int r :: st)) : Ψ M pc ls (.int p2 :: .int p1 :: .ref (gad 46 i0) :: st) := r_callV C [.int p1, .int p2] st d (k_X5_number h0 hr) hl q1160 q1161 q126 q1162 hd_X5_number hR rfl (by decide) (e46 (nf := nf) h0) rfl hcat k
theorem hd_X7_runOf : yX7_runOf.cls ≠ "java/lang/invoke/MethodHandle" ∧ yX7_runOf.cls ≠ "java/lang/invoke/VarHandle" ∧ (parseMethodDescriptor yX7_runOf.desc).map (fun d => d.parameters.length) = some 2 := by decide +kernel
noncomputable def X7_runOf_L10 (i2 : Nat) (x3 : Int32) (M : gM) : Option ((Int32 × gM) ⊕ ((Int32 × gM) ⊕ gM)) := (if (M.1 46 i2 1) ≤ x3 then some (.inr (.inr M)) else (X5_kindOf i2 x3 M).bind (fun r_5 => (X5_number i2 x3 1 M).bind (fun r_7 => (X5_number i2 x3 2 M).bind (fun r_9 => (X5_number i2 x3 3 M).bind (fun r_11 => (X5_number i2 x3 4 M).bind (fun r_13 => (X9_refusal 2 r_5 r_7 r_9 r_11 r_13 M).bind (fun r_15 => (if r_15 = (-1) then (X9_carryOut 2 r_5 r_7 r_9 r_11 r_13 M).bind (gU2 (fun r_18 M_19 => gLet (x3 + 1) (fun x3_20 => some (.inl (x3_20, M_19))))) else some (.inr (.inl (x3, M)))))))))))
theorem t_X7_runOf_L10 {Ψ : gM → Nat → List (Nat × Value) → List Value → Prop} {G : gG5} {nf : Nat} {M : gM} {v0 : Option Value} {M0 : gM} {i2 : Nat} {x3 : Int32} {w : ((Int32 × gM) ⊕ ((Int32 × gM) ⊕ gM))} (C : gC Ψ G (gXn nf) cX7_runOf RX7 9 (some .int) 6 156 v0 M0) (h2 : i2 < 5) (hr : X7_runOf_L10 i2 x3 M = some w) (hn : ∀ s, w = .inl s → Ψ s.2 10 [(0, .ref (gad 28 0)), (2, .ref (gad 46 i2)), (3, .int (s.1))] []) (hx : ∀ e, w = .inr e → (gSP (fun e => Ψ e.2 82 [(3, .int (e.1))] []) (fun e => Ψ e 112 [(2, .ref (gad 46 i2))] [])) e) : Ψ M 10 [(0, .ref (gad 28 0)), (2, .ref (gad 46 i2)), (3, .int x3)] [] := by
  refine r_iload_n (pc := 10) C dX7_runOf_10 rfl 2 rfl ?_
  refine r_aload_n (pc := 11) C dX7_runOf_11 rfl 1 rfl ?_
  refine g46_1 (pc := 12) C dX7_runOf_12 q527 (e46 (nf := nf) h2) ?_
  refine r_icmp_ge (pc := 15) (tgt := 112) C dX7_runOf_15 rfl (fun c_3 => ?_) (fun c_3 => ?_)
  · replace hr := (if_pos c_3).symm.trans hr
    refine r_sub C [1] (ls' := [(2, .ref (gad 46 i2))]) rfl ?_
    exact hx (.inr M) (gSome hr)
  · replace hr := (if_neg c_3).symm.trans hr
    refine r_aload_n (pc := 18) C dX7_runOf_18 rfl 1 rfl ?_
    refine r_iload_n (pc := 19) C dX7_runOf_19 rfl 2 rfl ?_
    obtain ⟨r_5, hc_4, hr⟩ := gBind_some hr
    refine c_X5_kindOf (pc := 20) C dX7_runOf_20 q1158 ⟨Nat.le_of_ble_eq_true rfl, Nat.le_of_ble_eq_true rfl⟩ h2 hc_4 (Nat.le_of_ble_eq_true rfl) ?_
    refine r_istore (pc := 23) C dX7_runOf_23 (by decide) rfl (ls' := [(4, .int r_5), (0, .ref (gad 28 0)), (2, .ref (gad 46 i2)), (3, .int x3)]) rfl ?_
    refine r_aload_n (pc := 25) C dX7_runOf_25 rfl 2 rfl ?_
    refine r_iload_n (pc := 26) C dX7_runOf_26 rfl 3 rfl ?_
    refine r_iconst (pc := 27) C dX7_runOf_27 ki1 ?_
    obtain ⟨r_7, hc_6, hr⟩ := gBind_some hr
    refine c_X5_number (pc := 28) C dX7_runOf_28 q1159 ⟨Nat.le_of_ble_eq_true rfl, Nat.le_of_ble_eq_true rfl⟩ h2 hc_6 (Nat.le_of_ble_eq_true rfl) ?_
    refine r_istore (pc := 31) C dX7_runOf_31 (by decide) rfl (ls' := [(5, .int r_7), (4, .int r_5), (0, .ref (gad 28 0)), (2, .ref (gad 46 i2)), (3, .int x3)]) rfl ?_
    refine r_aload_n (pc := 33) C dX7_runOf_33 rfl 3 rfl ?_
    refine r_iload_n (pc := 34) C dX7_runOf_34 rfl 4 rfl ?_
    refine r_iconst (pc := 35) C dX7_runOf_35 ki2 ?_
    obtain ⟨r_9, hc_8, hr⟩ := gBind_some hr
    refine c_X5_number (pc := 36) C dX7_runOf_36 q1159 ⟨Nat.le_of_ble_eq_true rfl, Nat.le_of_ble_eq_true rfl⟩ h2 hc_8 (Nat.le_of_ble_eq_true rfl) ?_
    refine r_istore (pc := 39) C dX7_runOf_39 (by decide) rfl (ls' := [(6, .int r_9), (5, .int r_7), (4, .int r_5), (0, .ref (gad 28 0)), (2, .ref (gad 46 i2)), (3, .int x3)]) rfl ?_
    refine r_aload_n (pc := 41) C dX7_runOf_41 rfl 4 rfl ?_
    refine r_iload_n (pc := 42) C dX7_runOf_42 rfl 5 rfl ?_
    refine r_iconst (pc := 43) C dX7_runOf_43 ki3 ?_
    obtain ⟨r_11, hc_10, hr⟩ := gBind_some hr
    refine c_X5_number (pc := 44) C dX7_runOf_44 q1159 ⟨Nat.le_of_ble_eq_true rfl, Nat.le_of_ble_eq_true rfl⟩ h2 hc_10 (Nat.le_of_ble_eq_true rfl) ?_
    refine r_istore (pc := 47) C dX7_runOf_47 (by decide) rfl (ls' := [(7, .int r_11), (6, .int r_9), (5, .int r_7), (4, .int r_5), (0, .ref (gad 28 0)), (2, .ref (gad 46 i2)), (3, .int x3)]) rfl ?_
    refine r_aload_n (pc := 49) C dX7_runOf_49 rfl 5 rfl ?_
    refine r_iload_n (pc := 50) C dX7_runOf_50 rfl 6 rfl ?_
    refine r_iconst (pc := 51) C dX7_runOf_51 ki4 ?_
    obtain ⟨r_13, hc_12, hr⟩ := gBind_some hr
    refine c_X5_number (pc := 52) C dX7_runOf_52 q1159 ⟨Nat.le_of_ble_eq_true rfl, Nat.le_of_ble_eq_true rfl⟩ h2 hc_12 (Nat.le_of_ble_eq_true rfl) ?_
    refine r_istore (pc := 55) C dX7_runOf_55 (by decide) rfl (ls' := [(8, .int r_13), (7, .int r_11), (6, .int r_9), (5, .int r_7), (4, .int r_5), (0, .ref (gad 28 0)), (2, .ref (gad 46 i2)), (3, .int x3)]) rfl ?_
    refine r_aload_n (pc := 57) C dX7_runOf_57 rfl 5 rfl ?_
    refine g28_2 (pc := 58) C dX7_runOf_58 q470 (e28 nf) ?_
    refine r_aload_n (pc := 61) C dX7_runOf_61 rfl 5 rfl ?_
    refine g28_6 (pc := 62) C dX7_runOf_62 q474 (e28 nf) ?_
    refine r_iload (pc := 65) C dX7_runOf_65 4 rfl ?_
    refine r_iload (pc := 67) C dX7_runOf_67 3 rfl ?_
    refine r_iload (pc := 69) C dX7_runOf_69 2 rfl ?_
    refine r_iload (pc := 71) C dX7_runOf_71 1 rfl ?_
    refine r_iload (pc := 73) C dX7_runOf_73 0 rfl ?_
    obtain ⟨r_15, hc_14, hr⟩ := gBind_some hr
    refine c_X9_refusal (pc := 75) C dX7_runOf_75 q1163 ⟨Nat.le_of_ble_eq_true rfl, Nat.le_of_ble_eq_true rfl⟩ (gf2 nf) hc_14 (Nat.le_of_ble_eq_true rfl) ?_
    refine r_iconst (pc := 78) C dX7_runOf_78 kim1 ?_
    refine r_icmp_eq (pc := 79) (tgt := 84) C dX7_runOf_79 rfl (fun c_16 => ?_) (fun c_16 => ?_)
    · replace hr := (if_pos c_16).symm.trans hr
      refine r_aload_n (pc := 84) C dX7_runOf_84 rfl 5 rfl ?_
      refine g28_2 (pc := 85) C dX7_runOf_85 q470 (e28 nf) ?_
      refine r_aload_n (pc := 88) C dX7_runOf_88 rfl 5 rfl ?_
      refine g28_6 (pc := 89) C dX7_runOf_89 q474 (e28 nf) ?_
      refine r_iload (pc := 92) C dX7_runOf_92 4 rfl ?_
      refine r_iload (pc := 94) C dX7_runOf_94 3 rfl ?_
      refine r_iload (pc := 96) C dX7_runOf_96 2 rfl ?_
      refine r_iload (pc := 98) C dX7_runOf_98 1 rfl ?_
      refine r_iload (pc := 100) C dX7_runOf_100 0 rfl ?_
      obtain ⟨⟨r_18, M_19⟩, hc_17, hr⟩ := gBind_some hr
      replace hr := gU2_some hr
      refine c_X9_carryOut (pc := 102) C dX7_runOf_102 q1164 ⟨Nat.le_of_ble_eq_true rfl, Nat.le_of_ble_eq_true rfl⟩ (gf2 nf) hc_17 (Nat.le_of_ble_eq_true rfl) ?_
      refine r_pop (pc := 105) C dX7_runOf_105 rfl ?_
      obtain ⟨x3_20, ex3_20, hr⟩ := gLet_some hr
      refine r_iinc (pc := 106) C dX7_runOf_106 7 rfl rfl (by decide) ex3_20 (ls' := [(3, .int x3_20), (8, .int r_13), (7, .int r_11), (6, .int r_9), (5, .int r_7), (4, .int r_5), (0, .ref (gad 28 0)), (2, .ref (gad 46 i2))]) rfl ?_
      refine r_goto (pc := 109) (tgt := 10) C dX7_runOf_109 rfl ?_
      refine r_sub C [6, 7, 0] (ls' := [(0, .ref (gad 28 0)), (2, .ref (gad 46 i2)), (3, .int x3_20)]) rfl ?_
      exact hn (x3_20, M_19) (gSome hr)
    · replace hr := (if_neg c_16).symm.trans hr
      refine r_sub C [7] (ls' := [(3, .int x3)]) rfl ?_
      exact hx (.inl (x3, M)) (gSome hr)
noncomputable def X7_runOf (i1 : Nat) (i2 : Nat) (M : gM) : Option (Int32 × gM) := (X0_copyFrom 2 i1 M).bind (fun M_2 => (gIter (fun s => X7_runOf_L10 i2 s.1 s.2) FU (0, M_2)).bind (gS2 (gU2 (fun x3_21 M_22 => some (x3_21, M_22))) (fun M_23 => some ((M_23.1 46 i2 1), M_23))))
theorem k_X7_runOf {G : gG5} {nf : Nat} {M : gM} {i1 : Nat} {i2 : Nat} (h1 : i1 < nf + 3) (h2 : i2 < 5) {r : Int32} {M1 : gM} (hr : X7_runOf i1 i2 M = some (r, M1)) : gMet G (gXn nf) yX7_runOf cX7_runOf 9 (some .int) 6 156 M [.ref (gad 28 0), .ref (gad 33 i1), .ref (gad 46 i2)] (some (.int r)) M1 := by
  refine gMet_of pl_X7 rfl (Nat.le_of_ble_eq_true rfl) (fun Ψ C CR => ?_)
  show Ψ M 0 [(0, .ref (gad 28 0)), (1, .ref (gad 33 i1)), (2, .ref (gad 46 i2))] []
  refine r_aload_n (pc := 0) C dX7_runOf_0 rfl 0 rfl ?_
  refine g28_6 (pc := 1) C dX7_runOf_1 q474 (e28 nf) ?_
  refine r_aload_n (pc := 4) C dX7_runOf_4 rfl 1 rfl ?_
  obtain ⟨M_2, hc_1, hr⟩ := gBind_some hr
  refine c_X0_copyFrom (pc := 5) C dX7_runOf_5 q1157 ⟨Nat.le_of_ble_eq_true rfl, Nat.le_of_ble_eq_true rfl⟩ (gf2 nf) h1 hc_1 (Nat.le_of_ble_eq_true rfl) ?_
  refine r_iconst (pc := 8) C dX7_runOf_8 ki0 ?_
  refine r_istore_n (pc := 9) C dX7_runOf_9 rfl (by decide) rfl (ls' := [(3, .int 0), (0, .ref (gad 28 0)), (1, .ref (gad 33 i1)), (2, .ref (gad 46 i2))]) rfl ?_
  refine r_sub C [1, 3, 0] (ls' := [(0, .ref (gad 28 0)), (2, .ref (gad 46 i2)), (3, .int 0)]) rfl ?_
  obtain ⟨ev, hit, hr⟩ := gBind_some hr
  refine gIter_V (step := fun s => X7_runOf_L10 i2 s.1 s.2) (P := fun s => Ψ s.2 10 [(0, .ref (gad 28 0)), (2, .ref (gad 46 i2)), (3, .int (s.1))] []) (K := (gSP (fun e => Ψ e.2 82 [(3, .int (e.1))] []) (fun e => Ψ e 112 [(2, .ref (gad 46 i2))] []))) (fun s w hs hn hx => t_X7_runOf_L10 C h2 hs hn hx) FU (0, M_2) ev hit ?_
  rcases ev with ⟨x3_21, M_22⟩ | M_23
  · replace hr := gS2_l hr
    replace hr := gU2_some hr
    show Ψ M_22 82 [(3, .int x3_21)] []
    refine r_iload_n (pc := 82) C dX7_runOf_82 rfl 0 rfl ?_
    exact r_iret (pc := 83) CR dX7_runOf_83 (congrArg (fun z => some (Value.int z)) (Prod.mk.inj (gSome hr)).1) (Prod.mk.inj (gSome hr)).2
  · replace hr := gS2_r hr
    show Ψ M_23 112 [(2, .ref (gad 46 i2))] []
    refine r_aload_n (pc := 112) C dX7_runOf_112 rfl 0 rfl ?_
    refine g46_1 (pc := 113) C dX7_runOf_113 q527 (e46 (nf := nf) h2) ?_
    exact r_iret (pc := 116) CR dX7_runOf_116 (congrArg (fun z => some (Value.int z)) (Prod.mk.inj (gSome hr)).1) (Prod.mk.inj (gSome hr)).2
theorem c_X7_runOf {Ψ : gM → Nat → List (Nat × Value) → List Value → Prop} {G : gG5} {nf : Nat} {cc : ByteArray} {own : String} {nL : Nat} {ret : Option FieldType} {fr lo : Nat} {v0 : Option Value} {M0 M : gM} {pc index : Nat} {ls : List (Nat × Value)} {st : List Value} (C : gC Ψ G (gXn nf) cc own nL ret fr lo v0 M0) (d : decode cc pc = .ok (.invokevirtual index, 3)) (hl : Cond.methodLink own index yX7_runOf ∈ gws) (hR : 7 ≤ fr ∧ 184 ≤ lo) {i1 : Nat} {i2 : Nat} (h1 : i1 < nf + 3) (h2 : i2 < 5) {r : Int32} {M1 : gM} (hr : X7_runOf i1 i2 M = some (r, M1)) (hcat : (st.map fun v => v.category).sum ≤ 8) (k : Ψ M1 (pc + 3) ls (.int r :: st)) : Ψ M pc ls (.ref (gad 46 i2) :: .ref (gad 33 i1) :: .ref (gad 28 0) :: st) := r_callV C [.ref (gad 33 i1), .ref (gad 46 i2)] st d (k_X7_runOf h1 h2 hr) hl q1154 q1155 q123 q1156 hd_X7_runOf hR rfl (by decide) (e28 nf) rfl hcat k
theorem hd_X10_run : yX10_run.cls ≠ "java/lang/invoke/MethodHandle" ∧ yX10_run.cls ≠ "java/lang/invoke/VarHandle" ∧ (parseMethodDescriptor yX10_run.desc).map (fun d => d.parameters.length) = some 2 := by decide +kernel
noncomputable def X10_run (p1 : Int32) (p2 : Int32) (M : gM) : Option (Int32 × gM) := (X10_hasScene M).bind (fun r_2 => (if r_2 = 0 then some ((-1000000000), M) else (X10_hasScript p1 M).bind (fun r_5 => (if r_5 = 0 then some ((-1000000000), M) else (if p2 < 0 then some ((-1000000000), M) else (if p2 ≤ 1 then gG (gin p1 5) ((X7_runOf 0 (Int32.toNatClampNeg p1) M).bind (gU2 (fun r_11 M_12 => (X9_fit 0 M_12).bind (fun M_14 => (if p2 = 1 then (X0_pairs 2 M_14).bind (fun r_19 => some (r_19, M_14)) else gG (gin p1 5) ((if r_11 = (M_14.1 46 (Int32.toNatClampNeg p1) 1) then some ((-1), M_14) else some (r_11, M_14)))))))) else some ((-1000000000), M)))))))
theorem k_X10_run {G : gG5} {nf : Nat} {M : gM} {p1 : Int32} {p2 : Int32} {r : Int32} {M1 : gM} (hr : X10_run p1 p2 M = some (r, M1)) : gMet G (gXn nf) yX10_run cX10_run 4 (some .int) 7 184 M [.ref (gad 0 0), .int p1, .int p2] (some (.int r)) M1 := by
  refine gMet_of pl_X10 rfl (Nat.le_of_ble_eq_true rfl) (fun Ψ C CR => ?_)
  show Ψ M 0 [(0, .ref (gad 0 0)), (1, .int p1), (2, .int p2)] []
  refine r_aload_n (pc := 0) C dX10_run_0 rfl 0 rfl ?_
  obtain ⟨r_2, hc_1, hr⟩ := gBind_some hr
  refine c_X10_hasScene (pc := 1) C dX10_run_1 q859 ⟨Nat.le_of_ble_eq_true rfl, Nat.le_of_ble_eq_true rfl⟩ hc_1 (Nat.le_of_ble_eq_true rfl) ?_
  refine r_if_eq (pc := 4) (tgt := 24) C dX10_run_4 rfl (fun c_3 => ?_) (fun c_3 => ?_)
  · replace hr := (if_pos c_3).symm.trans hr
    refine r_ldc (pc := 24) C dX10_run_24 q871 ?_
    exact r_iret (pc := 26) CR dX10_run_26 (congrArg (fun z => some (Value.int z)) (Prod.mk.inj (gSome hr)).1) (Prod.mk.inj (gSome hr)).2
  · replace hr := (if_neg c_3).symm.trans hr
    refine r_aload_n (pc := 7) C dX10_run_7 rfl 0 rfl ?_
    refine r_iload_n (pc := 8) C dX10_run_8 rfl 1 rfl ?_
    obtain ⟨r_5, hc_4, hr⟩ := gBind_some hr
    refine c_X10_hasScript (pc := 9) C dX10_run_9 q1138 ⟨Nat.le_of_ble_eq_true rfl, Nat.le_of_ble_eq_true rfl⟩ hc_4 (Nat.le_of_ble_eq_true rfl) ?_
    refine r_if_eq (pc := 12) (tgt := 24) C dX10_run_12 rfl (fun c_6 => ?_) (fun c_6 => ?_)
    · replace hr := (if_pos c_6).symm.trans hr
      refine r_ldc (pc := 24) C dX10_run_24 q871 ?_
      exact r_iret (pc := 26) CR dX10_run_26 (congrArg (fun z => some (Value.int z)) (Prod.mk.inj (gSome hr)).1) (Prod.mk.inj (gSome hr)).2
    · replace hr := (if_neg c_6).symm.trans hr
      refine r_iload_n (pc := 15) C dX10_run_15 rfl 2 rfl ?_
      refine r_if_lt (pc := 16) (tgt := 24) C dX10_run_16 rfl (fun c_7 => ?_) (fun c_7 => ?_)
      · replace hr := (if_pos c_7).symm.trans hr
        refine r_ldc (pc := 24) C dX10_run_24 q871 ?_
        exact r_iret (pc := 26) CR dX10_run_26 (congrArg (fun z => some (Value.int z)) (Prod.mk.inj (gSome hr)).1) (Prod.mk.inj (gSome hr)).2
      · replace hr := (if_neg c_7).symm.trans hr
        refine r_iload_n (pc := 19) C dX10_run_19 rfl 2 rfl ?_
        refine r_iconst (pc := 20) C dX10_run_20 ki1 ?_
        refine r_icmp_le (pc := 21) (tgt := 27) C dX10_run_21 rfl (fun c_8 => ?_) (fun c_8 => ?_)
        · replace hr := (if_pos c_8).symm.trans hr
          refine r_aload_n (pc := 27) C dX10_run_27 rfl 0 rfl ?_
          refine g0_6 (pc := 28) C dX10_run_28 q540 (e0 nf) ?_
          refine r_aload_n (pc := 31) C dX10_run_31 rfl 0 rfl ?_
          refine g0_7 (pc := 32) C dX10_run_32 q541 (e0 nf) ?_
          refine r_aload_n (pc := 35) C dX10_run_35 rfl 0 rfl ?_
          refine g0_10 (pc := 36) C dX10_run_36 q544 (e0 nf) ?_
          refine r_iload_n (pc := 39) C dX10_run_39 rfl 1 rfl ?_
          obtain ⟨g_9, hr⟩ := gG_some hr
          refine a45 (pc := 40) C dX10_run_40 g_9 ?_
          obtain ⟨⟨r_11, M_12⟩, hc_10, hr⟩ := gBind_some hr
          replace hr := gU2_some hr
          refine c_X7_runOf (pc := 41) C dX10_run_41 q1153 ⟨Nat.le_of_ble_eq_true rfl, Nat.le_of_ble_eq_true rfl⟩ (gf0 nf) (gin_lt g_9) hc_10 (Nat.le_of_ble_eq_true rfl) ?_
          refine r_istore_n (pc := 44) C dX10_run_44 rfl (by decide) rfl (ls' := [(3, .int r_11), (0, .ref (gad 0 0)), (1, .int p1), (2, .int p2)]) rfl ?_
          refine r_aload_n (pc := 45) C dX10_run_45 rfl 1 rfl ?_
          refine g0_5 (pc := 46) C dX10_run_46 q539 (e0 nf) ?_
          refine r_aload_n (pc := 49) C dX10_run_49 rfl 1 rfl ?_
          refine g0_7 (pc := 50) C dX10_run_50 q541 (e0 nf) ?_
          obtain ⟨M_14, hc_13, hr⟩ := gBind_some hr
          refine c_X9_fit (pc := 53) C dX10_run_53 q794 ⟨Nat.le_of_ble_eq_true rfl, Nat.le_of_ble_eq_true rfl⟩ (gf0 nf) hc_13 (Nat.le_of_ble_eq_true rfl) ?_
          refine r_iload_n (pc := 56) C dX10_run_56 rfl 3 rfl ?_
          refine r_iconst (pc := 57) C dX10_run_57 ki1 ?_
          refine r_icmp_ne (pc := 58) (tgt := 72) C dX10_run_58 rfl (fun c_15 => ?_) (fun c_15 => ?_)
          · replace hr := (if_neg c_15).symm.trans hr
            refine r_iload_n (pc := 72) C dX10_run_72 rfl 0 rfl ?_
            refine r_aload_n (pc := 73) C dX10_run_73 rfl 1 rfl ?_
            refine g0_10 (pc := 74) C dX10_run_74 q544 (e0 nf) ?_
            refine r_iload_n (pc := 77) C dX10_run_77 rfl 2 rfl ?_
            obtain ⟨g_16, hr⟩ := gG_some hr
            refine a45 (pc := 78) C dX10_run_78 g_16 ?_
            refine g46_1 (pc := 79) C dX10_run_79 q528 (e46 (nf := nf) (gin_lt g_16)) ?_
            refine r_icmp_ne (pc := 82) (tgt := 89) C dX10_run_82 rfl (fun c_17 => ?_) (fun c_17 => ?_)
            · replace hr := (if_neg c_17).symm.trans hr
              refine r_iload_n (pc := 89) C dX10_run_89 rfl 0 rfl ?_
              exact r_iret (pc := 90) CR dX10_run_90 (congrArg (fun z => some (Value.int z)) (Prod.mk.inj (gSome hr)).1) (Prod.mk.inj (gSome hr)).2
            · replace hr := (if_pos c_17).symm.trans hr
              refine r_iconst (pc := 85) C dX10_run_85 kim1 ?_
              refine r_goto (pc := 86) (tgt := 90) C dX10_run_86 rfl ?_
              exact r_iret (pc := 90) CR dX10_run_90 (congrArg (fun z => some (Value.int z)) (Prod.mk.inj (gSome hr)).1) (Prod.mk.inj (gSome hr)).2
          · replace hr := (if_pos c_15).symm.trans hr
            refine r_aload_n (pc := 61) C dX10_run_61 rfl 1 rfl ?_
            refine g0_6 (pc := 62) C dX10_run_62 q540 (e0 nf) ?_
            refine g28_6 (pc := 65) C dX10_run_65 q475 (e28 nf) ?_
            obtain ⟨r_19, hc_18, hr⟩ := gBind_some hr
            refine c_X0_pairs (pc := 68) C dX10_run_68 q1108 ⟨Nat.le_of_ble_eq_true rfl, Nat.le_of_ble_eq_true rfl⟩ (gf2 nf) hc_18 (Nat.le_of_ble_eq_true rfl) ?_
            exact r_iret (pc := 71) CR dX10_run_71 (congrArg (fun z => some (Value.int z)) (Prod.mk.inj (gSome hr)).1) (Prod.mk.inj (gSome hr)).2
        · replace hr := (if_neg c_8).symm.trans hr
          refine r_ldc (pc := 24) C dX10_run_24 q871 ?_
          exact r_iret (pc := 26) CR dX10_run_26 (congrArg (fun z => some (Value.int z)) (Prod.mk.inj (gSome hr)).1) (Prod.mk.inj (gSome hr)).2
theorem c_X10_run {Ψ : gM → Nat → List (Nat × Value) → List Value → Prop} {G : gG5} {nf : Nat} {cc : ByteArray} {own : String} {nL : Nat} {ret : Option FieldType} {fr lo : Nat} {v0 : Option Value} {M0 M : gM} {pc index : Nat} {ls : List (Nat × Value)} {st : List Value} (C : gC Ψ G (gXn nf) cc own nL ret fr lo v0 M0) (d : decode cc pc = .ok (.invokevirtual index, 3)) (hl : Cond.methodLink own index yX10_run ∈ gws) (hR : 8 ≤ fr ∧ 207 ≤ lo) {p1 : Int32} {p2 : Int32} {r : Int32} {M1 : gM} (hr : X10_run p1 p2 M = some (r, M1)) (hcat : (st.map fun v => v.category).sum ≤ 8) (k : Ψ M1 (pc + 3) ls (.int r :: st)) : Ψ M pc ls (.int p2 :: .int p1 :: .ref (gad 0 0) :: st) := r_callV C [.int p1, .int p2] st d (k_X10_run hr) hl q1150 q1151 q116 q1152 hd_X10_run hR rfl (by decide) (e0 nf) rfl hcat k
theorem hd_X9_rankOf : yX9_rankOf.cls ≠ "java/lang/invoke/MethodHandle" ∧ yX9_rankOf.cls ≠ "java/lang/invoke/VarHandle" ∧ (parseMethodDescriptor yX9_rankOf.desc).map (fun d => d.parameters.length) = some 3 := by decide +kernel
noncomputable def X9_rankOf_L15 (i1 : Nat) (x2 : Int32) (x3 : Int32) (x4 : Int32) (x5 : Int32) (x6 : Int32) (M : gM) : Option ((Int32 × Int32) ⊕ Int32) := (if (M.1 5 1 5) ≤ x6 then some (.inr x5) else (X9_depthIn i1 x6 x3 M).bind (fun r_5 => (if r_5 < 0 then gLet (x6 + 1) (fun x6_7 => some (.inl (x5, x6_7))) else (if r_5 < x4 then gLet (x5 + 1) (fun x5_9 => gLet (x6 + 1) (fun x6_10 => some (.inl (x5_9, x6_10)))) else (if r_5 = x4 then (if x2 ≤ x6 then gLet (x6 + 1) (fun x6_14 => some (.inl (x5, x6_14))) else gLet (x5 + 1) (fun x5_15 => gLet (x6 + 1) (fun x6_16 => some (.inl (x5_15, x6_16))))) else gLet (x6 + 1) (fun x6_12 => some (.inl (x5, x6_12))))))))
theorem t_X9_rankOf_L15 {Ψ : gM → Nat → List (Nat × Value) → List Value → Prop} {G : gG5} {nf : Nat} {M : gM} {v0 : Option Value} {M0 : gM} {i1 : Nat} {x2 : Int32} {x3 : Int32} {x4 : Int32} {x5 : Int32} {x6 : Int32} {w : ((Int32 × Int32) ⊕ Int32)} (C : gC Ψ G (gXn nf) cX9_rankOf RX9 8 (some .int) 2 47 v0 M0) (h1 : i1 < nf + 3) (hr : X9_rankOf_L15 i1 x2 x3 x4 x5 x6 M = some w) (hn : ∀ s, w = .inl s → Ψ M 15 [(0, .ref (gad 17 0)), (1, .ref (gad 33 i1)), (2, .int x2), (3, .int x3), (4, .int x4), (5, .int (s.1)), (6, .int (s.2))] []) (hx : ∀ e, w = .inr e → (fun e => Ψ M 71 [(5, .int e)] []) e) : Ψ M 15 [(0, .ref (gad 17 0)), (1, .ref (gad 33 i1)), (2, .int x2), (3, .int x3), (4, .int x4), (5, .int x5), (6, .int x6)] [] := by
  refine r_iload (pc := 15) C dX9_rankOf_15 6 rfl ?_
  refine r_aload_n (pc := 17) C dX9_rankOf_17 rfl 0 rfl ?_
  refine g17_0 (pc := 18) C dX9_rankOf_18 q376 (e17 nf) ?_
  refine g5_5 (pc := 21) C dX9_rankOf_21 q213 (e5 (nf := nf) (by decide)) ?_
  refine r_icmp_ge (pc := 24) (tgt := 71) C dX9_rankOf_24 rfl (fun c_3 => ?_) (fun c_3 => ?_)
  · replace hr := (if_pos c_3).symm.trans hr
    refine r_sub C [5] (ls' := [(5, .int x5)]) rfl ?_
    exact hx x5 (gSome hr)
  · replace hr := (if_neg c_3).symm.trans hr
    refine r_aload_n (pc := 27) C dX9_rankOf_27 rfl 0 rfl ?_
    refine r_aload_n (pc := 28) C dX9_rankOf_28 rfl 1 rfl ?_
    refine r_iload (pc := 29) C dX9_rankOf_29 6 rfl ?_
    refine r_iload_n (pc := 31) C dX9_rankOf_31 rfl 3 rfl ?_
    obtain ⟨r_5, hc_4, hr⟩ := gBind_some hr
    refine c_X9_depthIn (pc := 32) C dX9_rankOf_32 q1178 ⟨Nat.le_of_ble_eq_true rfl, Nat.le_of_ble_eq_true rfl⟩ h1 hc_4 (Nat.le_of_ble_eq_true rfl) ?_
    refine r_istore (pc := 35) C dX9_rankOf_35 (by decide) rfl (ls' := [(7, .int r_5), (0, .ref (gad 17 0)), (1, .ref (gad 33 i1)), (2, .int x2), (3, .int x3), (4, .int x4), (5, .int x5), (6, .int x6)]) rfl ?_
    refine r_iload (pc := 37) C dX9_rankOf_37 0 rfl ?_
    refine r_if_lt (pc := 39) (tgt := 65) C dX9_rankOf_39 rfl (fun c_6 => ?_) (fun c_6 => ?_)
    · replace hr := (if_pos c_6).symm.trans hr
      obtain ⟨x6_7, ex6_7, hr⟩ := gLet_some hr
      refine r_iinc (pc := 65) C dX9_rankOf_65 7 rfl rfl (by decide) ex6_7 (ls' := [(6, .int x6_7), (7, .int r_5), (0, .ref (gad 17 0)), (1, .ref (gad 33 i1)), (2, .int x2), (3, .int x3), (4, .int x4), (5, .int x5)]) rfl ?_
      refine r_goto (pc := 68) (tgt := 15) C dX9_rankOf_68 rfl ?_
      refine r_sub C [2, 3, 4, 5, 6, 7, 0] (ls' := [(0, .ref (gad 17 0)), (1, .ref (gad 33 i1)), (2, .int x2), (3, .int x3), (4, .int x4), (5, .int x5), (6, .int x6_7)]) rfl ?_
      exact hn (x5, x6_7) (gSome hr)
    · replace hr := (if_neg c_6).symm.trans hr
      refine r_iload (pc := 42) C dX9_rankOf_42 0 rfl ?_
      refine r_iload (pc := 44) C dX9_rankOf_44 5 rfl ?_
      refine r_icmp_lt (pc := 46) (tgt := 62) C dX9_rankOf_46 rfl (fun c_8 => ?_) (fun c_8 => ?_)
      · replace hr := (if_pos c_8).symm.trans hr
        obtain ⟨x5_9, ex5_9, hr⟩ := gLet_some hr
        refine r_iinc (pc := 62) C dX9_rankOf_62 6 rfl rfl (by decide) ex5_9 (ls' := [(5, .int x5_9), (7, .int r_5), (0, .ref (gad 17 0)), (1, .ref (gad 33 i1)), (2, .int x2), (3, .int x3), (4, .int x4), (6, .int x6)]) rfl ?_
        obtain ⟨x6_10, ex6_10, hr⟩ := gLet_some hr
        refine r_iinc (pc := 65) C dX9_rankOf_65 7 rfl rfl (by decide) ex6_10 (ls' := [(6, .int x6_10), (5, .int x5_9), (7, .int r_5), (0, .ref (gad 17 0)), (1, .ref (gad 33 i1)), (2, .int x2), (3, .int x3), (4, .int x4)]) rfl ?_
        refine r_goto (pc := 68) (tgt := 15) C dX9_rankOf_68 rfl ?_
        refine r_sub C [3, 4, 5, 6, 7, 1, 0] (ls' := [(0, .ref (gad 17 0)), (1, .ref (gad 33 i1)), (2, .int x2), (3, .int x3), (4, .int x4), (5, .int x5_9), (6, .int x6_10)]) rfl ?_
        exact hn (x5_9, x6_10) (gSome hr)
      · replace hr := (if_neg c_8).symm.trans hr
        refine r_iload (pc := 49) C dX9_rankOf_49 0 rfl ?_
        refine r_iload (pc := 51) C dX9_rankOf_51 5 rfl ?_
        refine r_icmp_ne (pc := 53) (tgt := 65) C dX9_rankOf_53 rfl (fun c_11 => ?_) (fun c_11 => ?_)
        · replace hr := (if_neg c_11).symm.trans hr
          obtain ⟨x6_12, ex6_12, hr⟩ := gLet_some hr
          refine r_iinc (pc := 65) C dX9_rankOf_65 7 rfl rfl (by decide) ex6_12 (ls' := [(6, .int x6_12), (7, .int r_5), (0, .ref (gad 17 0)), (1, .ref (gad 33 i1)), (2, .int x2), (3, .int x3), (4, .int x4), (5, .int x5)]) rfl ?_
          refine r_goto (pc := 68) (tgt := 15) C dX9_rankOf_68 rfl ?_
          refine r_sub C [2, 3, 4, 5, 6, 7, 0] (ls' := [(0, .ref (gad 17 0)), (1, .ref (gad 33 i1)), (2, .int x2), (3, .int x3), (4, .int x4), (5, .int x5), (6, .int x6_12)]) rfl ?_
          exact hn (x5, x6_12) (gSome hr)
        · replace hr := (if_pos c_11).symm.trans hr
          refine r_iload (pc := 56) C dX9_rankOf_56 7 rfl ?_
          refine r_iload_n (pc := 58) C dX9_rankOf_58 rfl 3 rfl ?_
          refine r_icmp_ge (pc := 59) (tgt := 65) C dX9_rankOf_59 rfl (fun c_13 => ?_) (fun c_13 => ?_)
          · replace hr := (if_pos c_13).symm.trans hr
            obtain ⟨x6_14, ex6_14, hr⟩ := gLet_some hr
            refine r_iinc (pc := 65) C dX9_rankOf_65 7 rfl rfl (by decide) ex6_14 (ls' := [(6, .int x6_14), (7, .int r_5), (0, .ref (gad 17 0)), (1, .ref (gad 33 i1)), (2, .int x2), (3, .int x3), (4, .int x4), (5, .int x5)]) rfl ?_
            refine r_goto (pc := 68) (tgt := 15) C dX9_rankOf_68 rfl ?_
            refine r_sub C [2, 3, 4, 5, 6, 7, 0] (ls' := [(0, .ref (gad 17 0)), (1, .ref (gad 33 i1)), (2, .int x2), (3, .int x3), (4, .int x4), (5, .int x5), (6, .int x6_14)]) rfl ?_
            exact hn (x5, x6_14) (gSome hr)
          · replace hr := (if_neg c_13).symm.trans hr
            obtain ⟨x5_15, ex5_15, hr⟩ := gLet_some hr
            refine r_iinc (pc := 62) C dX9_rankOf_62 6 rfl rfl (by decide) ex5_15 (ls' := [(5, .int x5_15), (7, .int r_5), (0, .ref (gad 17 0)), (1, .ref (gad 33 i1)), (2, .int x2), (3, .int x3), (4, .int x4), (6, .int x6)]) rfl ?_
            obtain ⟨x6_16, ex6_16, hr⟩ := gLet_some hr
            refine r_iinc (pc := 65) C dX9_rankOf_65 7 rfl rfl (by decide) ex6_16 (ls' := [(6, .int x6_16), (5, .int x5_15), (7, .int r_5), (0, .ref (gad 17 0)), (1, .ref (gad 33 i1)), (2, .int x2), (3, .int x3), (4, .int x4)]) rfl ?_
            refine r_goto (pc := 68) (tgt := 15) C dX9_rankOf_68 rfl ?_
            refine r_sub C [3, 4, 5, 6, 7, 1, 0] (ls' := [(0, .ref (gad 17 0)), (1, .ref (gad 33 i1)), (2, .int x2), (3, .int x3), (4, .int x4), (5, .int x5_15), (6, .int x6_16)]) rfl ?_
            exact hn (x5_15, x6_16) (gSome hr)
noncomputable def X9_rankOf (i1 : Nat) (p2 : Int32) (p3 : Int32) (M : gM) : Option Int32 := (X9_depthIn i1 p2 p3 M).bind (fun r_2 => (gIter (fun s => X9_rankOf_L15 i1 p2 p3 r_2 s.1 s.2 M) FU (0, 0)).bind (fun x5_17 => some x5_17))
theorem k_X9_rankOf {G : gG5} {nf : Nat} {M : gM} {i1 : Nat} {p2 : Int32} {p3 : Int32} (h1 : i1 < nf + 3) {r : Int32} (hr : X9_rankOf i1 p2 p3 M = some r) : gMet G (gXn nf) yX9_rankOf cX9_rankOf 8 (some .int) 2 47 M [.ref (gad 17 0), .ref (gad 33 i1), .int p2, .int p3] (some (.int r)) M := by
  refine gMet_of pl_X9 rfl (Nat.le_of_ble_eq_true rfl) (fun Ψ C CR => ?_)
  show Ψ M 0 [(0, .ref (gad 17 0)), (1, .ref (gad 33 i1)), (2, .int p2), (3, .int p3)] []
  refine r_aload_n (pc := 0) C dX9_rankOf_0 rfl 0 rfl ?_
  refine r_aload_n (pc := 1) C dX9_rankOf_1 rfl 1 rfl ?_
  refine r_iload_n (pc := 2) C dX9_rankOf_2 rfl 2 rfl ?_
  refine r_iload_n (pc := 3) C dX9_rankOf_3 rfl 3 rfl ?_
  obtain ⟨r_2, hc_1, hr⟩ := gBind_some hr
  refine c_X9_depthIn (pc := 4) C dX9_rankOf_4 q1178 ⟨Nat.le_of_ble_eq_true rfl, Nat.le_of_ble_eq_true rfl⟩ h1 hc_1 (Nat.le_of_ble_eq_true rfl) ?_
  refine r_istore (pc := 7) C dX9_rankOf_7 (by decide) rfl (ls' := [(4, .int r_2), (0, .ref (gad 17 0)), (1, .ref (gad 33 i1)), (2, .int p2), (3, .int p3)]) rfl ?_
  refine r_iconst (pc := 9) C dX9_rankOf_9 ki0 ?_
  refine r_istore (pc := 10) C dX9_rankOf_10 (by decide) rfl (ls' := [(5, .int 0), (4, .int r_2), (0, .ref (gad 17 0)), (1, .ref (gad 33 i1)), (2, .int p2), (3, .int p3)]) rfl ?_
  refine r_iconst (pc := 12) C dX9_rankOf_12 ki0 ?_
  refine r_istore (pc := 13) C dX9_rankOf_13 (by decide) rfl (ls' := [(6, .int 0), (5, .int 0), (4, .int r_2), (0, .ref (gad 17 0)), (1, .ref (gad 33 i1)), (2, .int p2), (3, .int p3)]) rfl ?_
  refine r_sub C [3, 4, 5, 6, 2, 1, 0] (ls' := [(0, .ref (gad 17 0)), (1, .ref (gad 33 i1)), (2, .int p2), (3, .int p3), (4, .int r_2), (5, .int 0), (6, .int 0)]) rfl ?_
  obtain ⟨ev, hit, hr⟩ := gBind_some hr
  refine gIter_V (step := fun s => X9_rankOf_L15 i1 p2 p3 r_2 s.1 s.2 M) (P := fun s => Ψ M 15 [(0, .ref (gad 17 0)), (1, .ref (gad 33 i1)), (2, .int p2), (3, .int p3), (4, .int r_2), (5, .int (s.1)), (6, .int (s.2))] []) (K := (fun e => Ψ M 71 [(5, .int e)] [])) (fun s w hs hn hx => t_X9_rankOf_L15 C h1 hs hn hx) FU (0, 0) ev hit ?_
  obtain ⟨x5_17, rfl⟩ : ∃ z, z = ev := ⟨_, rfl⟩
  show Ψ M 71 [(5, .int x5_17)] []
  refine r_iload (pc := 71) C dX9_rankOf_71 0 rfl ?_
  exact r_iret (pc := 73) CR dX9_rankOf_73 (congrArg (fun z => some (Value.int z)) (gSome hr)) rfl
theorem c_X9_rankOf {Ψ : gM → Nat → List (Nat × Value) → List Value → Prop} {G : gG5} {nf : Nat} {cc : ByteArray} {own : String} {nL : Nat} {ret : Option FieldType} {fr lo : Nat} {v0 : Option Value} {M0 M : gM} {pc index : Nat} {ls : List (Nat × Value)} {st : List Value} (C : gC Ψ G (gXn nf) cc own nL ret fr lo v0 M0) (d : decode cc pc = .ok (.invokevirtual index, 3)) (hl : Cond.methodLink own index yX9_rankOf ∈ gws) (hR : 3 ≤ fr ∧ 74 ≤ lo) {i1 : Nat} {p2 : Int32} {p3 : Int32} (h1 : i1 < nf + 3) {r : Int32} (hr : X9_rankOf i1 p2 p3 M = some r) (hcat : (st.map fun v => v.category).sum ≤ 8) (k : Ψ M (pc + 3) ls (.int r :: st)) : Ψ M pc ls (.int p3 :: .int p2 :: .ref (gad 33 i1) :: .ref (gad 17 0) :: st) := r_callV C [.ref (gad 33 i1), .int p2, .int p3] st d (k_X9_rankOf h1 hr) hl q1175 q1176 q121 q1177 hd_X9_rankOf hR rfl (by decide) (e17 nf) rfl hcat k
theorem hd_X10_layer : yX10_layer.cls ≠ "java/lang/invoke/MethodHandle" ∧ yX10_layer.cls ≠ "java/lang/invoke/VarHandle" ∧ (parseMethodDescriptor yX10_layer.desc).map (fun d => d.parameters.length) = some 4 := by decide +kernel
noncomputable def X10_layer_L27 (x4 : Int32) (x5 : Int32) (x6 : Int32) (M : gM) : Option (Int32 ⊕ (Int32 ⊕ Unit)) := (if (M.1 5 1 5) ≤ x6 then some (.inr (.inr ())) else (X9_depthIn 0 x6 x5 M).bind (fun r_9 => (if r_9 < 0 then gLet (x6 + 1) (fun x6_11 => some (.inl x6_11)) else (X9_rankOf 0 x6 x5 M).bind (fun r_13 => (if r_13 = x4 then some (.inr (.inl x6)) else gLet (x6 + 1) (fun x6_15 => some (.inl x6_15)))))))
theorem t_X10_layer_L27 {Ψ : gM → Nat → List (Nat × Value) → List Value → Prop} {G : gG5} {nf : Nat} {M : gM} {v0 : Option Value} {M0 : gM} {x4 : Int32} {x5 : Int32} {x6 : Int32} {w : (Int32 ⊕ (Int32 ⊕ Unit))} (C : gC Ψ G (gXn nf) cX10_layer RX10 7 (some .int) 3 74 v0 M0) (hr : X10_layer_L27 x4 x5 x6 M = some w) (hn : ∀ s, w = .inl s → Ψ M 27 [(0, .ref (gad 0 0)), (4, .int x4), (5, .int x5), (6, .int s)] []) (hx : ∀ e, w = .inr e → (gSP (fun e => Ψ M 77 [(6, .int e)] []) (fun e => Ψ M 86 [] [])) e) : Ψ M 27 [(0, .ref (gad 0 0)), (4, .int x4), (5, .int x5), (6, .int x6)] [] := by
  refine r_iload (pc := 27) C dX10_layer_27 3 rfl ?_
  refine r_aload_n (pc := 29) C dX10_layer_29 rfl 0 rfl ?_
  refine g0_3 (pc := 30) C dX10_layer_30 q537 (e0 nf) ?_
  refine g5_5 (pc := 33) C dX10_layer_33 q216 (e5 (nf := nf) (by decide)) ?_
  refine r_icmp_ge (pc := 36) (tgt := 86) C dX10_layer_36 rfl (fun c_7 => ?_) (fun c_7 => ?_)
  · replace hr := (if_pos c_7).symm.trans hr
    refine r_sub C [] (ls' := []) rfl ?_
    exact hx (.inr ()) (gSome hr)
  · replace hr := (if_neg c_7).symm.trans hr
    refine r_aload_n (pc := 39) C dX10_layer_39 rfl 0 rfl ?_
    refine g0_5 (pc := 40) C dX10_layer_40 q539 (e0 nf) ?_
    refine r_aload_n (pc := 43) C dX10_layer_43 rfl 0 rfl ?_
    refine g0_7 (pc := 44) C dX10_layer_44 q541 (e0 nf) ?_
    refine r_iload (pc := 47) C dX10_layer_47 3 rfl ?_
    refine r_iload (pc := 49) C dX10_layer_49 2 rfl ?_
    obtain ⟨r_9, hc_8, hr⟩ := gBind_some hr
    refine c_X9_depthIn (pc := 51) C dX10_layer_51 q889 ⟨Nat.le_of_ble_eq_true rfl, Nat.le_of_ble_eq_true rfl⟩ (gf0 nf) hc_8 (Nat.le_of_ble_eq_true rfl) ?_
    refine r_if_lt (pc := 54) (tgt := 80) C dX10_layer_54 rfl (fun c_10 => ?_) (fun c_10 => ?_)
    · replace hr := (if_pos c_10).symm.trans hr
      obtain ⟨x6_11, ex6_11, hr⟩ := gLet_some hr
      refine r_iinc (pc := 80) C dX10_layer_80 3 rfl rfl (by decide) ex6_11 (ls' := [(6, .int x6_11), (0, .ref (gad 0 0)), (4, .int x4), (5, .int x5)]) rfl ?_
      refine r_goto (pc := 83) (tgt := 27) C dX10_layer_83 rfl ?_
      refine r_sub C [1, 2, 3, 0] (ls' := [(0, .ref (gad 0 0)), (4, .int x4), (5, .int x5), (6, .int x6_11)]) rfl ?_
      exact hn x6_11 (gSome hr)
    · replace hr := (if_neg c_10).symm.trans hr
      refine r_aload_n (pc := 57) C dX10_layer_57 rfl 0 rfl ?_
      refine g0_5 (pc := 58) C dX10_layer_58 q539 (e0 nf) ?_
      refine r_aload_n (pc := 61) C dX10_layer_61 rfl 0 rfl ?_
      refine g0_7 (pc := 62) C dX10_layer_62 q541 (e0 nf) ?_
      refine r_iload (pc := 65) C dX10_layer_65 3 rfl ?_
      refine r_iload (pc := 67) C dX10_layer_67 2 rfl ?_
      obtain ⟨r_13, hc_12, hr⟩ := gBind_some hr
      refine c_X9_rankOf (pc := 69) C dX10_layer_69 q1174 ⟨Nat.le_of_ble_eq_true rfl, Nat.le_of_ble_eq_true rfl⟩ (gf0 nf) hc_12 (Nat.le_of_ble_eq_true rfl) ?_
      refine r_iload (pc := 72) C dX10_layer_72 1 rfl ?_
      refine r_icmp_ne (pc := 74) (tgt := 80) C dX10_layer_74 rfl (fun c_14 => ?_) (fun c_14 => ?_)
      · replace hr := (if_neg c_14).symm.trans hr
        obtain ⟨x6_15, ex6_15, hr⟩ := gLet_some hr
        refine r_iinc (pc := 80) C dX10_layer_80 3 rfl rfl (by decide) ex6_15 (ls' := [(6, .int x6_15), (0, .ref (gad 0 0)), (4, .int x4), (5, .int x5)]) rfl ?_
        refine r_goto (pc := 83) (tgt := 27) C dX10_layer_83 rfl ?_
        refine r_sub C [1, 2, 3, 0] (ls' := [(0, .ref (gad 0 0)), (4, .int x4), (5, .int x5), (6, .int x6_15)]) rfl ?_
        exact hn x6_15 (gSome hr)
      · replace hr := (if_pos c_14).symm.trans hr
        refine r_sub C [3] (ls' := [(6, .int x6)]) rfl ?_
        exact hx (.inl x6) (gSome hr)
noncomputable def X10_layer (p1 : Int32) (p2 : Int32) (p3 : Int32) (p4 : Int32) (M : gM) : Option Int32 := (X1_hasSample p1 p2 p3 M).bind (fun r_2 => (if r_2 = 0 then some (-1) else (X1_placeOf p1 p2 M).bind (fun r_5 => gLet ((r_5 + p3)) (fun x5_6 => (gIter (fun s => X10_layer_L27 p4 x5_6 s M) FU 0).bind (gS2 (fun x6_16 => some x6_16) (fun _ => some (-1)))))))
theorem k_X10_layer {G : gG5} {nf : Nat} {M : gM} {p1 : Int32} {p2 : Int32} {p3 : Int32} {p4 : Int32} {r : Int32} (hr : X10_layer p1 p2 p3 p4 M = some r) : gMet G (gXn nf) yX10_layer cX10_layer 7 (some .int) 3 74 M [.ref (gad 0 0), .int p1, .int p2, .int p3, .int p4] (some (.int r)) M := by
  refine gMet_of pl_X10 rfl (Nat.le_of_ble_eq_true rfl) (fun Ψ C CR => ?_)
  show Ψ M 0 [(0, .ref (gad 0 0)), (1, .int p1), (2, .int p2), (3, .int p3), (4, .int p4)] []
  refine r_aload_n (pc := 0) C dX10_layer_0 rfl 0 rfl ?_
  refine g0_4 (pc := 1) C dX10_layer_1 q538 (e0 nf) ?_
  refine r_iload_n (pc := 4) C dX10_layer_4 rfl 1 rfl ?_
  refine r_iload_n (pc := 5) C dX10_layer_5 rfl 2 rfl ?_
  refine r_iload_n (pc := 6) C dX10_layer_6 rfl 3 rfl ?_
  obtain ⟨r_2, hc_1, hr⟩ := gBind_some hr
  refine c_X1_hasSample (pc := 7) C dX10_layer_7 q901 ⟨Nat.le_of_ble_eq_true rfl, Nat.le_of_ble_eq_true rfl⟩ hc_1 (Nat.le_of_ble_eq_true rfl) ?_
  refine r_if_ne (pc := 10) (tgt := 15) C dX10_layer_10 rfl (fun c_3 => ?_) (fun c_3 => ?_)
  · replace hr := (if_neg c_3).symm.trans hr
    refine r_iload_n (pc := 15) C dX10_layer_15 rfl 1 rfl ?_
    refine r_iload_n (pc := 16) C dX10_layer_16 rfl 2 rfl ?_
    obtain ⟨r_5, hc_4, hr⟩ := gBind_some hr
    refine c_X1_placeOf (pc := 17) C dX10_layer_17 q888 ⟨Nat.le_of_ble_eq_true rfl, Nat.le_of_ble_eq_true rfl⟩ hc_4 (Nat.le_of_ble_eq_true rfl) ?_
    refine r_iload_n (pc := 20) C dX10_layer_20 rfl 3 rfl ?_
    refine r_iadd (pc := 21) C dX10_layer_21 ?_
    obtain ⟨x5_6, ex5_6, hr⟩ := gLet_some hr
    refine r_istore (pc := 22) C dX10_layer_22 (by decide) ex5_6 (ls' := [(5, .int x5_6), (0, .ref (gad 0 0)), (1, .int p1), (2, .int p2), (3, .int p3), (4, .int p4)]) rfl ?_
    refine r_iconst (pc := 24) C dX10_layer_24 ki0 ?_
    refine r_istore (pc := 25) C dX10_layer_25 (by decide) rfl (ls' := [(6, .int 0), (5, .int x5_6), (0, .ref (gad 0 0)), (1, .int p1), (2, .int p2), (3, .int p3), (4, .int p4)]) rfl ?_
    refine r_sub C [2, 6, 1, 0] (ls' := [(0, .ref (gad 0 0)), (4, .int p4), (5, .int x5_6), (6, .int 0)]) rfl ?_
    obtain ⟨ev, hit, hr⟩ := gBind_some hr
    refine gIter_V (step := fun s => X10_layer_L27 p4 x5_6 s M) (P := fun s => Ψ M 27 [(0, .ref (gad 0 0)), (4, .int p4), (5, .int x5_6), (6, .int s)] []) (K := (gSP (fun e => Ψ M 77 [(6, .int e)] []) (fun e => Ψ M 86 [] []))) (fun s w hs hn hx => t_X10_layer_L27 C  hs hn hx) FU 0 ev hit ?_
    rcases ev with x6_16 | _
    · replace hr := gS2_l hr
      show Ψ M 77 [(6, .int x6_16)] []
      refine r_iload (pc := 77) C dX10_layer_77 0 rfl ?_
      exact r_iret (pc := 79) CR dX10_layer_79 (congrArg (fun z => some (Value.int z)) (gSome hr)) rfl
    · replace hr := gS2_r hr
      show Ψ M 86 [] []
      refine r_iconst (pc := 86) C dX10_layer_86 kim1 ?_
      exact r_iret (pc := 87) CR dX10_layer_87 (congrArg (fun z => some (Value.int z)) (gSome hr)) rfl
  · replace hr := (if_pos c_3).symm.trans hr
    refine r_iconst (pc := 13) C dX10_layer_13 kim1 ?_
    exact r_iret (pc := 14) CR dX10_layer_14 (congrArg (fun z => some (Value.int z)) (gSome hr)) rfl
theorem c_X10_layer {Ψ : gM → Nat → List (Nat × Value) → List Value → Prop} {G : gG5} {nf : Nat} {cc : ByteArray} {own : String} {nL : Nat} {ret : Option FieldType} {fr lo : Nat} {v0 : Option Value} {M0 M : gM} {pc index : Nat} {ls : List (Nat × Value)} {st : List Value} (C : gC Ψ G (gXn nf) cc own nL ret fr lo v0 M0) (d : decode cc pc = .ok (.invokevirtual index, 3)) (hl : Cond.methodLink own index yX10_layer ∈ gws) (hR : 4 ≤ fr ∧ 100 ≤ lo) {p1 : Int32} {p2 : Int32} {p3 : Int32} {p4 : Int32} {r : Int32} (hr : X10_layer p1 p2 p3 p4 M = some r) (hcat : (st.map fun v => v.category).sum ≤ 8) (k : Ψ M (pc + 3) ls (.int r :: st)) : Ψ M pc ls (.int p4 :: .int p3 :: .int p2 :: .int p1 :: .ref (gad 0 0) :: st) := r_callV C [.int p1, .int p2, .int p3, .int p4] st d (k_X10_layer hr) hl q1171 q1172 q116 q1173 hd_X10_layer hR rfl (by decide) (e0 nf) rfl hcat k
theorem hd_X7_flushApart : yX7_flushApart.cls ≠ "java/lang/invoke/MethodHandle" ∧ yX7_flushApart.cls ≠ "java/lang/invoke/VarHandle" ∧ (parseMethodDescriptor yX7_flushApart.desc).map (fun d => d.parameters.length) = some 1 := by decide +kernel
noncomputable def X7_flushApart (i1 : Nat) (M : gM) : Option gM := (X0_copyFrom 2 i1 M).bind (fun M_2 => (X9_flushAll 2 M_2).bind (gU2 (fun r_4 M_5 => some M_5)))
theorem k_X7_flushApart {G : gG5} {nf : Nat} {M : gM} {i1 : Nat} (h1 : i1 < nf + 3) {M1 : gM} (hr : X7_flushApart i1 M = some M1) : gMet G (gXn nf) yX7_flushApart cX7_flushApart 2 none 4 101 M [.ref (gad 28 0), .ref (gad 33 i1)] none M1 := by
  refine gMet_of pl_X7 rfl (Nat.le_of_ble_eq_true rfl) (fun Ψ C CR => ?_)
  show Ψ M 0 [(0, .ref (gad 28 0)), (1, .ref (gad 33 i1))] []
  refine r_aload_n (pc := 0) C dX7_flushApart_0 rfl 0 rfl ?_
  refine g28_6 (pc := 1) C dX7_flushApart_1 q474 (e28 nf) ?_
  refine r_aload_n (pc := 4) C dX7_flushApart_4 rfl 1 rfl ?_
  obtain ⟨M_2, hc_1, hr⟩ := gBind_some hr
  refine c_X0_copyFrom (pc := 5) C dX7_flushApart_5 q1157 ⟨Nat.le_of_ble_eq_true rfl, Nat.le_of_ble_eq_true rfl⟩ (gf2 nf) h1 hc_1 (Nat.le_of_ble_eq_true rfl) ?_
  refine r_aload_n (pc := 8) C dX7_flushApart_8 rfl 0 rfl ?_
  refine g28_2 (pc := 9) C dX7_flushApart_9 q470 (e28 nf) ?_
  refine r_aload_n (pc := 12) C dX7_flushApart_12 rfl 0 rfl ?_
  refine g28_6 (pc := 13) C dX7_flushApart_13 q474 (e28 nf) ?_
  obtain ⟨⟨r_4, M_5⟩, hc_3, hr⟩ := gBind_some hr
  replace hr := gU2_some hr
  refine c_X9_flushAll (pc := 16) C dX7_flushApart_16 q1187 ⟨Nat.le_of_ble_eq_true rfl, Nat.le_of_ble_eq_true rfl⟩ (gf2 nf) hc_3 (Nat.le_of_ble_eq_true rfl) ?_
  refine r_pop (pc := 19) C dX7_flushApart_19 rfl ?_
  exact r_vret (pc := 20) CR dX7_flushApart_20 rfl (gSome hr)
theorem c_X7_flushApart {Ψ : gM → Nat → List (Nat × Value) → List Value → Prop} {G : gG5} {nf : Nat} {cc : ByteArray} {own : String} {nL : Nat} {ret : Option FieldType} {fr lo : Nat} {v0 : Option Value} {M0 M : gM} {pc index : Nat} {ls : List (Nat × Value)} {st : List Value} (C : gC Ψ G (gXn nf) cc own nL ret fr lo v0 M0) (d : decode cc pc = .ok (.invokevirtual index, 3)) (hl : Cond.methodLink own index yX7_flushApart ∈ gws) (hR : 5 ≤ fr ∧ 122 ≤ lo) {i1 : Nat} (h1 : i1 < nf + 3) {M1 : gM} (hr : X7_flushApart i1 M = some M1) (hcat : (st.map fun v => v.category).sum ≤ 8) (k : Ψ M1 (pc + 3) ls (st)) : Ψ M pc ls (.ref (gad 33 i1) :: .ref (gad 28 0) :: st) := r_callV C [.ref (gad 33 i1)] st d (k_X7_flushApart h1 hr) hl q1184 q1185 q123 q1186 hd_X7_flushApart hR rfl (by decide) (e28 nf) rfl hcat k
theorem hd_X10_shown : yX10_shown.cls ≠ "java/lang/invoke/MethodHandle" ∧ yX10_shown.cls ≠ "java/lang/invoke/VarHandle" ∧ (parseMethodDescriptor yX10_shown.desc).map (fun d => d.parameters.length) = some 2 := by decide +kernel
noncomputable def X10_shown (p1 : Int32) (p2 : Int32) (M : gM) : Option (Int32 × gM) := (X1_hasPixel p1 p2 M).bind (fun r_2 => (if r_2 = 0 then some ((-1), M) else (X7_flushApart 0 M).bind (fun M_5 => (X1_resolved 2 ((p2 * 8) + p1) M_5).bind (fun r_7 => some (r_7, M_5)))))
theorem k_X10_shown {G : gG5} {nf : Nat} {M : gM} {p1 : Int32} {p2 : Int32} {r : Int32} {M1 : gM} (hr : X10_shown p1 p2 M = some (r, M1)) : gMet G (gXn nf) yX10_shown cX10_shown 3 (some .int) 5 122 M [.ref (gad 0 0), .int p1, .int p2] (some (.int r)) M1 := by
  refine gMet_of pl_X10 rfl (Nat.le_of_ble_eq_true rfl) (fun Ψ C CR => ?_)
  show Ψ M 0 [(0, .ref (gad 0 0)), (1, .int p1), (2, .int p2)] []
  refine r_aload_n (pc := 0) C dX10_shown_0 rfl 0 rfl ?_
  refine g0_4 (pc := 1) C dX10_shown_1 q538 (e0 nf) ?_
  refine r_iload_n (pc := 4) C dX10_shown_4 rfl 1 rfl ?_
  refine r_iload_n (pc := 5) C dX10_shown_5 rfl 2 rfl ?_
  obtain ⟨r_2, hc_1, hr⟩ := gBind_some hr
  refine c_X1_hasPixel (pc := 6) C dX10_shown_6 q884 ⟨Nat.le_of_ble_eq_true rfl, Nat.le_of_ble_eq_true rfl⟩ hc_1 (Nat.le_of_ble_eq_true rfl) ?_
  refine r_if_ne (pc := 9) (tgt := 14) C dX10_shown_9 rfl (fun c_3 => ?_) (fun c_3 => ?_)
  · replace hr := (if_neg c_3).symm.trans hr
    refine r_aload_n (pc := 14) C dX10_shown_14 rfl 0 rfl ?_
    refine g0_6 (pc := 15) C dX10_shown_15 q540 (e0 nf) ?_
    refine r_aload_n (pc := 18) C dX10_shown_18 rfl 0 rfl ?_
    refine g0_7 (pc := 19) C dX10_shown_19 q541 (e0 nf) ?_
    obtain ⟨M_5, hc_4, hr⟩ := gBind_some hr
    refine c_X7_flushApart (pc := 22) C dX10_shown_22 q1183 ⟨Nat.le_of_ble_eq_true rfl, Nat.le_of_ble_eq_true rfl⟩ (gf0 nf) hc_4 (Nat.le_of_ble_eq_true rfl) ?_
    refine r_aload_n (pc := 25) C dX10_shown_25 rfl 0 rfl ?_
    refine g0_4 (pc := 26) C dX10_shown_26 q538 (e0 nf) ?_
    refine r_aload_n (pc := 29) C dX10_shown_29 rfl 0 rfl ?_
    refine g0_6 (pc := 30) C dX10_shown_30 q540 (e0 nf) ?_
    refine g28_6 (pc := 33) C dX10_shown_33 q475 (e28 nf) ?_
    refine r_iload_n (pc := 36) C dX10_shown_36 rfl 2 rfl ?_
    refine r_bipush (pc := 37) C dX10_shown_37 kb8 ?_
    refine r_imul (pc := 39) C dX10_shown_39 ?_
    refine r_iload_n (pc := 40) C dX10_shown_40 rfl 1 rfl ?_
    refine r_iadd (pc := 41) C dX10_shown_41 ?_
    obtain ⟨r_7, hc_6, hr⟩ := gBind_some hr
    refine c_X1_resolved (pc := 42) C dX10_shown_42 q918 ⟨Nat.le_of_ble_eq_true rfl, Nat.le_of_ble_eq_true rfl⟩ (gf2 nf) hc_6 (Nat.le_of_ble_eq_true rfl) ?_
    exact r_iret (pc := 45) CR dX10_shown_45 (congrArg (fun z => some (Value.int z)) (Prod.mk.inj (gSome hr)).1) (Prod.mk.inj (gSome hr)).2
  · replace hr := (if_pos c_3).symm.trans hr
    refine r_iconst (pc := 12) C dX10_shown_12 kim1 ?_
    exact r_iret (pc := 13) CR dX10_shown_13 (congrArg (fun z => some (Value.int z)) (Prod.mk.inj (gSome hr)).1) (Prod.mk.inj (gSome hr)).2
theorem c_X10_shown {Ψ : gM → Nat → List (Nat × Value) → List Value → Prop} {G : gG5} {nf : Nat} {cc : ByteArray} {own : String} {nL : Nat} {ret : Option FieldType} {fr lo : Nat} {v0 : Option Value} {M0 M : gM} {pc index : Nat} {ls : List (Nat × Value)} {st : List Value} (C : gC Ψ G (gXn nf) cc own nL ret fr lo v0 M0) (d : decode cc pc = .ok (.invokevirtual index, 3)) (hl : Cond.methodLink own index yX10_shown ∈ gws) (hR : 6 ≤ fr ∧ 144 ≤ lo) {p1 : Int32} {p2 : Int32} {r : Int32} {M1 : gM} (hr : X10_shown p1 p2 M = some (r, M1)) (hcat : (st.map fun v => v.category).sum ≤ 8) (k : Ψ M1 (pc + 3) ls (.int r :: st)) : Ψ M pc ls (.int p2 :: .int p1 :: .ref (gad 0 0) :: st) := r_callV C [.int p1, .int p2] st d (k_X10_shown hr) hl q1180 q1181 q116 q1182 hd_X10_shown hR rfl (by decide) (e0 nf) rfl hcat k
theorem hd_X7_drawWhole : yX7_drawWhole.cls ≠ "java/lang/invoke/MethodHandle" ∧ yX7_drawWhole.cls ≠ "java/lang/invoke/VarHandle" ∧ (parseMethodDescriptor yX7_drawWhole.desc).map (fun d => d.parameters.length) = some 3 := by decide +kernel
noncomputable def X7_drawWhole_L36 (x3 : Int32) (x4 : Int32) (M : gM) : Option ((Int32 × gM) ⊕ gM) := (if (M.1 5 1 5) ≤ x4 then some (.inr M) else (if x4 = x3 then gLet (x4 + 1) (fun x4_9 => some (.inl (x4_9, M))) else (X9_drawOne 2 x4 M).bind (gU2 (fun r_11 M_12 => gLet (x4 + 1) (fun x4_13 => some (.inl (x4_13, M_12)))))))
theorem t_X7_drawWhole_L36 {Ψ : gM → Nat → List (Nat × Value) → List Value → Prop} {G : gG5} {nf : Nat} {M : gM} {v0 : Option Value} {M0 : gM} {x3 : Int32} {x4 : Int32} {w : ((Int32 × gM) ⊕ gM)} (C : gC Ψ G (gXn nf) cX7_drawWhole RX7 5 none 4 103 v0 M0) (hr : X7_drawWhole_L36 x3 x4 M = some w) (hn : ∀ s, w = .inl s → Ψ s.2 36 [(0, .ref (gad 28 0)), (3, .int x3), (4, .int (s.1))] []) (hx : ∀ e, w = .inr e → (fun e => Ψ e 74 [(0, .ref (gad 28 0))] []) e) : Ψ M 36 [(0, .ref (gad 28 0)), (3, .int x3), (4, .int x4)] [] := by
  refine r_iload (pc := 36) C dX7_drawWhole_36 2 rfl ?_
  refine r_aload_n (pc := 38) C dX7_drawWhole_38 rfl 0 rfl ?_
  refine g28_0 (pc := 39) C dX7_drawWhole_39 q468 (e28 nf) ?_
  refine g5_5 (pc := 42) C dX7_drawWhole_42 q214 (e5 (nf := nf) (by decide)) ?_
  refine r_icmp_ge (pc := 45) (tgt := 74) C dX7_drawWhole_45 rfl (fun c_7 => ?_) (fun c_7 => ?_)
  · replace hr := (if_pos c_7).symm.trans hr
    refine r_sub C [0] (ls' := [(0, .ref (gad 28 0))]) rfl ?_
    exact hx M (gSome hr)
  · replace hr := (if_neg c_7).symm.trans hr
    refine r_iload (pc := 48) C dX7_drawWhole_48 2 rfl ?_
    refine r_iload_n (pc := 50) C dX7_drawWhole_50 rfl 1 rfl ?_
    refine r_icmp_eq (pc := 51) (tgt := 68) C dX7_drawWhole_51 rfl (fun c_8 => ?_) (fun c_8 => ?_)
    · replace hr := (if_pos c_8).symm.trans hr
      obtain ⟨x4_9, ex4_9, hr⟩ := gLet_some hr
      refine r_iinc (pc := 68) C dX7_drawWhole_68 2 rfl rfl (by decide) ex4_9 (ls' := [(4, .int x4_9), (0, .ref (gad 28 0)), (3, .int x3)]) rfl ?_
      refine r_goto (pc := 71) (tgt := 36) C dX7_drawWhole_71 rfl ?_
      refine r_sub C [1, 2, 0] (ls' := [(0, .ref (gad 28 0)), (3, .int x3), (4, .int x4_9)]) rfl ?_
      exact hn (x4_9, M) (gSome hr)
    · replace hr := (if_neg c_8).symm.trans hr
      refine r_aload_n (pc := 54) C dX7_drawWhole_54 rfl 0 rfl ?_
      refine g28_2 (pc := 55) C dX7_drawWhole_55 q470 (e28 nf) ?_
      refine r_aload_n (pc := 58) C dX7_drawWhole_58 rfl 0 rfl ?_
      refine g28_6 (pc := 59) C dX7_drawWhole_59 q474 (e28 nf) ?_
      refine r_iload (pc := 62) C dX7_drawWhole_62 2 rfl ?_
      obtain ⟨⟨r_11, M_12⟩, hc_10, hr⟩ := gBind_some hr
      replace hr := gU2_some hr
      refine c_X9_drawOne (pc := 64) C dX7_drawWhole_64 q1197 ⟨Nat.le_of_ble_eq_true rfl, Nat.le_of_ble_eq_true rfl⟩ (gf2 nf) hc_10 (Nat.le_of_ble_eq_true rfl) ?_
      refine r_pop (pc := 67) C dX7_drawWhole_67 rfl ?_
      obtain ⟨x4_13, ex4_13, hr⟩ := gLet_some hr
      refine r_iinc (pc := 68) C dX7_drawWhole_68 2 rfl rfl (by decide) ex4_13 (ls' := [(4, .int x4_13), (0, .ref (gad 28 0)), (3, .int x3)]) rfl ?_
      refine r_goto (pc := 71) (tgt := 36) C dX7_drawWhole_71 rfl ?_
      refine r_sub C [1, 2, 0] (ls' := [(0, .ref (gad 28 0)), (3, .int x3), (4, .int x4_13)]) rfl ?_
      exact hn (x4_13, M_12) (gSome hr)
noncomputable def X7_drawWhole (i1 : Nat) (p2 : Int32) (p3 : Int32) (M : gM) : Option gM := (X0_copyFrom 2 i1 M).bind (fun M_2 => gLet (wI M_2 40 2 2 p2) (fun M_3 => (X0_wipe 2 (M_3.1 5 1 4) M_3).bind (gU2 (fun r_5 M_6 => (gIter (fun s => X7_drawWhole_L36 p3 s.1 s.2) FU (0, M_6)).bind (fun M_14 => (X9_flushAll 2 M_14).bind (gU2 (fun r_16 M_17 => some M_17)))))))
theorem k_X7_drawWhole {G : gG5} {nf : Nat} {M : gM} {i1 : Nat} {p2 : Int32} {p3 : Int32} (h1 : i1 < nf + 3) {M1 : gM} (hr : X7_drawWhole i1 p2 p3 M = some M1) : gMet G (gXn nf) yX7_drawWhole cX7_drawWhole 5 none 4 103 M [.ref (gad 28 0), .ref (gad 33 i1), .int p2, .int p3] none M1 := by
  refine gMet_of pl_X7 rfl (Nat.le_of_ble_eq_true rfl) (fun Ψ C CR => ?_)
  show Ψ M 0 [(0, .ref (gad 28 0)), (1, .ref (gad 33 i1)), (2, .int p2), (3, .int p3)] []
  refine r_aload_n (pc := 0) C dX7_drawWhole_0 rfl 0 rfl ?_
  refine g28_6 (pc := 1) C dX7_drawWhole_1 q474 (e28 nf) ?_
  refine r_aload_n (pc := 4) C dX7_drawWhole_4 rfl 1 rfl ?_
  obtain ⟨M_2, hc_1, hr⟩ := gBind_some hr
  refine c_X0_copyFrom (pc := 5) C dX7_drawWhole_5 q1157 ⟨Nat.le_of_ble_eq_true rfl, Nat.le_of_ble_eq_true rfl⟩ (gf2 nf) h1 hc_1 (Nat.le_of_ble_eq_true rfl) ?_
  refine r_aload_n (pc := 8) C dX7_drawWhole_8 rfl 0 rfl ?_
  refine g28_6 (pc := 9) C dX7_drawWhole_9 q474 (e28 nf) ?_
  refine g33_6 (pc := 12) C dX7_drawWhole_12 q422 (e33 (nf := nf) (gf2 nf)) ?_
  refine r_iconst (pc := 15) C dX7_drawWhole_15 ki2 ?_
  refine r_iload_n (pc := 16) C dX7_drawWhole_16 rfl 2 rfl ?_
  obtain ⟨M_3, eM_3, hr⟩ := gLet_some hr
  refine r_iastN (pc := 17) C dX7_drawWhole_17 rfl (e40 (nf := nf) (gf2 nf)) (by decide : gin 2 4 = true) kc2 eM_3 ?_
  refine r_aload_n (pc := 18) C dX7_drawWhole_18 rfl 0 rfl ?_
  refine g28_6 (pc := 19) C dX7_drawWhole_19 q474 (e28 nf) ?_
  refine r_aload_n (pc := 22) C dX7_drawWhole_22 rfl 0 rfl ?_
  refine g28_0 (pc := 23) C dX7_drawWhole_23 q468 (e28 nf) ?_
  refine g5_4 (pc := 26) C dX7_drawWhole_26 q209 (e5 (nf := nf) (by decide)) ?_
  obtain ⟨⟨r_5, M_6⟩, hc_4, hr⟩ := gBind_some hr
  replace hr := gU2_some hr
  refine c_X0_wipe (pc := 29) C dX7_drawWhole_29 q1196 ⟨Nat.le_of_ble_eq_true rfl, Nat.le_of_ble_eq_true rfl⟩ (gf2 nf) hc_4 (Nat.le_of_ble_eq_true rfl) ?_
  refine r_pop (pc := 32) C dX7_drawWhole_32 rfl ?_
  refine r_iconst (pc := 33) C dX7_drawWhole_33 ki0 ?_
  refine r_istore (pc := 34) C dX7_drawWhole_34 (by decide) rfl (ls' := [(4, .int 0), (0, .ref (gad 28 0)), (1, .ref (gad 33 i1)), (2, .int p2), (3, .int p3)]) rfl ?_
  refine r_sub C [1, 4, 0] (ls' := [(0, .ref (gad 28 0)), (3, .int p3), (4, .int 0)]) rfl ?_
  obtain ⟨ev, hit, hr⟩ := gBind_some hr
  refine gIter_V (step := fun s => X7_drawWhole_L36 p3 s.1 s.2) (P := fun s => Ψ s.2 36 [(0, .ref (gad 28 0)), (3, .int p3), (4, .int (s.1))] []) (K := (fun e => Ψ e 74 [(0, .ref (gad 28 0))] [])) (fun s w hs hn hx => t_X7_drawWhole_L36 C  hs hn hx) FU (0, M_6) ev hit ?_
  obtain ⟨M_14, rfl⟩ : ∃ z, z = ev := ⟨_, rfl⟩
  show Ψ M_14 74 [(0, .ref (gad 28 0))] []
  refine r_aload_n (pc := 74) C dX7_drawWhole_74 rfl 0 rfl ?_
  refine g28_2 (pc := 75) C dX7_drawWhole_75 q470 (e28 nf) ?_
  refine r_aload_n (pc := 78) C dX7_drawWhole_78 rfl 0 rfl ?_
  refine g28_6 (pc := 79) C dX7_drawWhole_79 q474 (e28 nf) ?_
  obtain ⟨⟨r_16, M_17⟩, hc_15, hr⟩ := gBind_some hr
  replace hr := gU2_some hr
  refine c_X9_flushAll (pc := 82) C dX7_drawWhole_82 q1187 ⟨Nat.le_of_ble_eq_true rfl, Nat.le_of_ble_eq_true rfl⟩ (gf2 nf) hc_15 (Nat.le_of_ble_eq_true rfl) ?_
  refine r_pop (pc := 85) C dX7_drawWhole_85 rfl ?_
  exact r_vret (pc := 86) CR dX7_drawWhole_86 rfl (gSome hr)
theorem c_X7_drawWhole {Ψ : gM → Nat → List (Nat × Value) → List Value → Prop} {G : gG5} {nf : Nat} {cc : ByteArray} {own : String} {nL : Nat} {ret : Option FieldType} {fr lo : Nat} {v0 : Option Value} {M0 M : gM} {pc index : Nat} {ls : List (Nat × Value)} {st : List Value} (C : gC Ψ G (gXn nf) cc own nL ret fr lo v0 M0) (d : decode cc pc = .ok (.invokevirtual index, 3)) (hl : Cond.methodLink own index yX7_drawWhole ∈ gws) (hR : 5 ≤ fr ∧ 127 ≤ lo) {i1 : Nat} {p2 : Int32} {p3 : Int32} (h1 : i1 < nf + 3) {M1 : gM} (hr : X7_drawWhole i1 p2 p3 M = some M1) (hcat : (st.map fun v => v.category).sum ≤ 8) (k : Ψ M1 (pc + 3) ls (st)) : Ψ M pc ls (.int p3 :: .int p2 :: .ref (gad 33 i1) :: .ref (gad 28 0) :: st) := r_callV C [.ref (gad 33 i1), .int p2, .int p3] st d (k_X7_drawWhole h1 hr) hl q1193 q1194 q123 q1195 hd_X7_drawWhole hR rfl (by decide) (e28 nf) rfl hcat k
theorem hd_X10_whole : yX10_whole.cls ≠ "java/lang/invoke/MethodHandle" ∧ yX10_whole.cls ≠ "java/lang/invoke/VarHandle" ∧ (parseMethodDescriptor yX10_whole.desc).map (fun d => d.parameters.length) = some 2 := by decide +kernel
noncomputable def X10_whole (p1 : Int32) (p2 : Int32) (M : gM) : Option (Int32 × gM) := (X1_hasPixel p1 p2 M).bind (fun r_2 => (if r_2 = 0 then some ((-1), M) else (X7_drawWhole 0 (M.1 40 0 2) (-1) M).bind (fun M_5 => (X1_resolved 2 ((p2 * 8) + p1) M_5).bind (fun r_7 => some (r_7, M_5)))))
theorem k_X10_whole {G : gG5} {nf : Nat} {M : gM} {p1 : Int32} {p2 : Int32} {r : Int32} {M1 : gM} (hr : X10_whole p1 p2 M = some (r, M1)) : gMet G (gXn nf) yX10_whole cX10_whole 3 (some .int) 5 127 M [.ref (gad 0 0), .int p1, .int p2] (some (.int r)) M1 := by
  refine gMet_of pl_X10 rfl (Nat.le_of_ble_eq_true rfl) (fun Ψ C CR => ?_)
  show Ψ M 0 [(0, .ref (gad 0 0)), (1, .int p1), (2, .int p2)] []
  refine r_aload_n (pc := 0) C dX10_whole_0 rfl 0 rfl ?_
  refine g0_4 (pc := 1) C dX10_whole_1 q538 (e0 nf) ?_
  refine r_iload_n (pc := 4) C dX10_whole_4 rfl 1 rfl ?_
  refine r_iload_n (pc := 5) C dX10_whole_5 rfl 2 rfl ?_
  obtain ⟨r_2, hc_1, hr⟩ := gBind_some hr
  refine c_X1_hasPixel (pc := 6) C dX10_whole_6 q884 ⟨Nat.le_of_ble_eq_true rfl, Nat.le_of_ble_eq_true rfl⟩ hc_1 (Nat.le_of_ble_eq_true rfl) ?_
  refine r_if_ne (pc := 9) (tgt := 14) C dX10_whole_9 rfl (fun c_3 => ?_) (fun c_3 => ?_)
  · replace hr := (if_neg c_3).symm.trans hr
    refine r_aload_n (pc := 14) C dX10_whole_14 rfl 0 rfl ?_
    refine g0_6 (pc := 15) C dX10_whole_15 q540 (e0 nf) ?_
    refine r_aload_n (pc := 18) C dX10_whole_18 rfl 0 rfl ?_
    refine g0_7 (pc := 19) C dX10_whole_19 q541 (e0 nf) ?_
    refine r_aload_n (pc := 22) C dX10_whole_22 rfl 0 rfl ?_
    refine g0_7 (pc := 23) C dX10_whole_23 q541 (e0 nf) ?_
    refine g33_6 (pc := 26) C dX10_whole_26 q424 (e33 (nf := nf) (gf0 nf)) ?_
    refine r_iconst (pc := 29) C dX10_whole_29 ki2 ?_
    refine r_ialdN (pc := 30) C dX10_whole_30 rfl (e40 (nf := nf) (gf0 nf)) (by decide : gin 2 4 = true) kc2 ?_
    refine r_iconst (pc := 31) C dX10_whole_31 kim1 ?_
    obtain ⟨M_5, hc_4, hr⟩ := gBind_some hr
    refine c_X7_drawWhole (pc := 32) C dX10_whole_32 q1192 ⟨Nat.le_of_ble_eq_true rfl, Nat.le_of_ble_eq_true rfl⟩ (gf0 nf) hc_4 (Nat.le_of_ble_eq_true rfl) ?_
    refine r_aload_n (pc := 35) C dX10_whole_35 rfl 0 rfl ?_
    refine g0_4 (pc := 36) C dX10_whole_36 q538 (e0 nf) ?_
    refine r_aload_n (pc := 39) C dX10_whole_39 rfl 0 rfl ?_
    refine g0_6 (pc := 40) C dX10_whole_40 q540 (e0 nf) ?_
    refine g28_6 (pc := 43) C dX10_whole_43 q475 (e28 nf) ?_
    refine r_iload_n (pc := 46) C dX10_whole_46 rfl 2 rfl ?_
    refine r_bipush (pc := 47) C dX10_whole_47 kb8 ?_
    refine r_imul (pc := 49) C dX10_whole_49 ?_
    refine r_iload_n (pc := 50) C dX10_whole_50 rfl 1 rfl ?_
    refine r_iadd (pc := 51) C dX10_whole_51 ?_
    obtain ⟨r_7, hc_6, hr⟩ := gBind_some hr
    refine c_X1_resolved (pc := 52) C dX10_whole_52 q918 ⟨Nat.le_of_ble_eq_true rfl, Nat.le_of_ble_eq_true rfl⟩ (gf2 nf) hc_6 (Nat.le_of_ble_eq_true rfl) ?_
    exact r_iret (pc := 55) CR dX10_whole_55 (congrArg (fun z => some (Value.int z)) (Prod.mk.inj (gSome hr)).1) (Prod.mk.inj (gSome hr)).2
  · replace hr := (if_pos c_3).symm.trans hr
    refine r_iconst (pc := 12) C dX10_whole_12 kim1 ?_
    exact r_iret (pc := 13) CR dX10_whole_13 (congrArg (fun z => some (Value.int z)) (Prod.mk.inj (gSome hr)).1) (Prod.mk.inj (gSome hr)).2
theorem c_X10_whole {Ψ : gM → Nat → List (Nat × Value) → List Value → Prop} {G : gG5} {nf : Nat} {cc : ByteArray} {own : String} {nL : Nat} {ret : Option FieldType} {fr lo : Nat} {v0 : Option Value} {M0 M : gM} {pc index : Nat} {ls : List (Nat × Value)} {st : List Value} (C : gC Ψ G (gXn nf) cc own nL ret fr lo v0 M0) (d : decode cc pc = .ok (.invokevirtual index, 3)) (hl : Cond.methodLink own index yX10_whole ∈ gws) (hR : 6 ≤ fr ∧ 149 ≤ lo) {p1 : Int32} {p2 : Int32} {r : Int32} {M1 : gM} (hr : X10_whole p1 p2 M = some (r, M1)) (hcat : (st.map fun v => v.category).sum ≤ 8) (k : Ψ M1 (pc + 3) ls (.int r :: st)) : Ψ M pc ls (.int p2 :: .int p1 :: .ref (gad 0 0) :: st) := r_callV C [.int p1, .int p2] st d (k_X10_whole hr) hl q1189 q1190 q116 q1191 hd_X10_whole hR rfl (by decide) (e0 nf) rfl hcat k
