theorem hd_X11_sum : yX11_sum.cls ≠ "java/lang/invoke/MethodHandle" ∧ yX11_sum.cls ≠ "java/lang/invoke/VarHandle" ∧ (parseMethodDescriptor yX11_sum.desc).map (fun d => d.parameters.length) = some 3 := by decide +kernel
noncomputable def X11_sum (p1 : Int32) (p2 : Int32) (p3 : Int32) (M : gM) : Option Int32 := gLet ((gRem (p1 + 1) 3)) (fun x5_1 => gG (gin x5_1 3) (gG (gin p1 3) (gG (gin p1 3) (gG (gin x5_1 3) (gG (gin p1 3) (gG (gin p1 3) (some ((((M.1 52 12 (Int32.toNatClampNeg x5_1)) - (M.1 52 12 (Int32.toNatClampNeg p1))) * (p3 - (M.1 52 13 (Int32.toNatClampNeg p1)))) - (((M.1 52 13 (Int32.toNatClampNeg x5_1)) - (M.1 52 13 (Int32.toNatClampNeg p1))) * (p2 - (M.1 52 12 (Int32.toNatClampNeg p1))))))))))))
theorem k_X11_sum {G : gG5} {nf : Nat} {M : gM} {p1 : Int32} {p2 : Int32} {p3 : Int32} {r : Int32} (hr : X11_sum p1 p2 p3 M = some r) : gMet G (gXn nf) yX11_sum cX11_sum 6 (some .int) 0 0 M [.ref (gad 50 0), .int p1, .int p2, .int p3] (some (.int r)) M := by
  refine gMet_of pl_X11 rfl (Nat.le_of_ble_eq_true rfl) (fun Ψ C CR => ?_)
  show Ψ M 0 [(0, .ref (gad 50 0)), (1, .int p1), (2, .int p2), (3, .int p3)] []
  refine r_iload_n (pc := 0) C dX11_sum_0 rfl 1 rfl ?_
  refine r_istore (pc := 1) C dX11_sum_1 (by decide) rfl (ls' := [(4, .int p1), (0, .ref (gad 50 0)), (1, .int p1), (2, .int p2), (3, .int p3)]) rfl ?_
  refine r_iload_n (pc := 3) C dX11_sum_3 rfl 2 rfl ?_
  refine r_iconst (pc := 4) C dX11_sum_4 ki1 ?_
  refine r_iadd (pc := 5) C dX11_sum_5 ?_
  refine r_iconst (pc := 6) C dX11_sum_6 ki3 ?_
  refine r_irem (pc := 7) C dX11_sum_7 (by decide) ?_
  obtain ⟨x5_1, ex5_1, hr⟩ := gLet_some hr
  refine r_istore (pc := 8) C dX11_sum_8 (by decide) ex5_1 (ls' := [(5, .int x5_1), (4, .int p1), (0, .ref (gad 50 0)), (1, .int p1), (2, .int p2), (3, .int p3)]) rfl ?_
  refine r_aload_n (pc := 10) C dX11_sum_10 rfl 2 rfl ?_
  refine g50_25 (pc := 11) C dX11_sum_11 q1425 (e50 nf) ?_
  refine r_iload (pc := 14) C dX11_sum_14 0 rfl ?_
  obtain ⟨g_2, hr⟩ := gG_some hr
  refine r_ialdN (pc := 16) C dX11_sum_16 rfl (e52 (nf := nf) (by decide)) g_2 rfl ?_
  refine r_aload_n (pc := 17) C dX11_sum_17 rfl 2 rfl ?_
  refine g50_25 (pc := 18) C dX11_sum_18 q1425 (e50 nf) ?_
  refine r_iload (pc := 21) C dX11_sum_21 1 rfl ?_
  obtain ⟨g_3, hr⟩ := gG_some hr
  refine r_ialdN (pc := 23) C dX11_sum_23 rfl (e52 (nf := nf) (by decide)) g_3 rfl ?_
  refine r_isub (pc := 24) C dX11_sum_24 ?_
  refine r_iload_n (pc := 25) C dX11_sum_25 rfl 5 rfl ?_
  refine r_aload_n (pc := 26) C dX11_sum_26 rfl 2 rfl ?_
  refine g50_26 (pc := 27) C dX11_sum_27 q1426 (e50 nf) ?_
  refine r_iload (pc := 30) C dX11_sum_30 1 rfl ?_
  obtain ⟨g_4, hr⟩ := gG_some hr
  refine r_ialdN (pc := 32) C dX11_sum_32 rfl (e52 (nf := nf) (by decide)) g_4 rfl ?_
  refine r_isub (pc := 33) C dX11_sum_33 ?_
  refine r_imul (pc := 34) C dX11_sum_34 ?_
  refine r_aload_n (pc := 35) C dX11_sum_35 rfl 2 rfl ?_
  refine g50_26 (pc := 36) C dX11_sum_36 q1426 (e50 nf) ?_
  refine r_iload (pc := 39) C dX11_sum_39 0 rfl ?_
  obtain ⟨g_5, hr⟩ := gG_some hr
  refine r_ialdN (pc := 41) C dX11_sum_41 rfl (e52 (nf := nf) (by decide)) g_5 rfl ?_
  refine r_aload_n (pc := 42) C dX11_sum_42 rfl 2 rfl ?_
  refine g50_26 (pc := 43) C dX11_sum_43 q1426 (e50 nf) ?_
  refine r_iload (pc := 46) C dX11_sum_46 1 rfl ?_
  obtain ⟨g_6, hr⟩ := gG_some hr
  refine r_ialdN (pc := 48) C dX11_sum_48 rfl (e52 (nf := nf) (by decide)) g_6 rfl ?_
  refine r_isub (pc := 49) C dX11_sum_49 ?_
  refine r_iload_n (pc := 50) C dX11_sum_50 rfl 4 rfl ?_
  refine r_aload_n (pc := 51) C dX11_sum_51 rfl 2 rfl ?_
  refine g50_25 (pc := 52) C dX11_sum_52 q1425 (e50 nf) ?_
  refine r_iload (pc := 55) C dX11_sum_55 1 rfl ?_
  obtain ⟨g_7, hr⟩ := gG_some hr
  refine r_ialdN (pc := 57) C dX11_sum_57 rfl (e52 (nf := nf) (by decide)) g_7 rfl ?_
  refine r_isub (pc := 58) C dX11_sum_58 ?_
  refine r_imul (pc := 59) C dX11_sum_59 ?_
  refine r_isub (pc := 60) C dX11_sum_60 ?_
  exact r_iret (pc := 61) CR dX11_sum_61 (congrArg (fun z => some (Value.int z)) (gSome hr)) rfl
theorem c_X11_sum {Ψ : gM → Nat → List (Nat × Value) → List Value → Prop} {G : gG5} {nf : Nat} {cc : ByteArray} {own : String} {nL : Nat} {ret : Option FieldType} {fr lo : Nat} {v0 : Option Value} {M0 M : gM} {pc index : Nat} {ls : List (Nat × Value)} {st : List Value} (C : gC Ψ G (gXn nf) cc own nL ret fr lo v0 M0) (d : decode cc pc = .ok (.invokevirtual index, 3)) (hl : Cond.methodLink own index yX11_sum ∈ gws) (hR : 1 ≤ fr ∧ 25 ≤ lo) {p1 : Int32} {p2 : Int32} {p3 : Int32} {r : Int32} (hr : X11_sum p1 p2 p3 M = some r) (hcat : (st.map fun v => v.category).sum ≤ 8) (k : Ψ M (pc + 3) ls (.int r :: st)) : Ψ M pc ls (.int p3 :: .int p2 :: .int p1 :: .ref (gad 50 0) :: st) := r_callV C [.int p1, .int p2, .int p3] st d (k_X11_sum hr) hl q1658 q57 q127 q1659 hd_X11_sum hR rfl (by decide) (e50 nf) rfl hcat k
theorem hd_X11_swaps : yX11_swaps.cls ≠ "java/lang/invoke/MethodHandle" ∧ yX11_swaps.cls ≠ "java/lang/invoke/VarHandle" ∧ (parseMethodDescriptor yX11_swaps.desc).map (fun d => d.parameters.length) = some 1 := by decide +kernel
noncomputable def X11_swaps (i0 : Nat) (M : gM) : Option gM := gG (gin 1 (gLen 52 i0)) (gLet ((M.1 52 i0 (Int32.toNatClampNeg 1))) (fun x1_2 => gG (gin 2 (gLen 52 i0)) (gG (gin 1 (gLen 52 i0)) (gLet (wI M 52 i0 (Int32.toNatClampNeg 1) (M.1 52 i0 (Int32.toNatClampNeg 2))) (fun M_5 => gG (gin 2 (gLen 52 i0)) (gLet (wI M_5 52 i0 (Int32.toNatClampNeg 2) x1_2) (fun M_7 => some M_7)))))))
theorem k_X11_swaps {G : gG5} {nf : Nat} {M : gM} {i0 : Nat} (h0 : i0 < 20) {M1 : gM} (hr : X11_swaps i0 M = some M1) : gMet G (gXn nf) yX11_swaps cX11_swaps 2 none 0 0 M [.ref (gad 52 i0)] none M1 := by
  refine gMet_of pl_X11 rfl (Nat.le_of_ble_eq_true rfl) (fun Ψ C CR => ?_)
  show Ψ M 0 [(0, .ref (gad 52 i0))] []
  refine r_aload_n (pc := 0) C dX11_swaps_0 rfl 0 rfl ?_
  refine r_iconst (pc := 1) C dX11_swaps_1 ki1 ?_
  obtain ⟨g_1, hr⟩ := gG_some hr
  refine r_ialdN (pc := 2) C dX11_swaps_2 rfl (e52 (nf := nf) h0) g_1 rfl ?_
  obtain ⟨x1_2, ex1_2, hr⟩ := gLet_some hr
  refine r_istore_n (pc := 3) C dX11_swaps_3 rfl (by decide) ex1_2 (ls' := [(1, .int x1_2), (0, .ref (gad 52 i0))]) rfl ?_
  refine r_aload_n (pc := 4) C dX11_swaps_4 rfl 1 rfl ?_
  refine r_iconst (pc := 5) C dX11_swaps_5 ki1 ?_
  refine r_aload_n (pc := 6) C dX11_swaps_6 rfl 1 rfl ?_
  refine r_iconst (pc := 7) C dX11_swaps_7 ki2 ?_
  obtain ⟨g_3, hr⟩ := gG_some hr
  refine r_ialdN (pc := 8) C dX11_swaps_8 rfl (e52 (nf := nf) h0) g_3 rfl ?_
  obtain ⟨g_4, hr⟩ := gG_some hr
  obtain ⟨M_5, eM_5, hr⟩ := gLet_some hr
  refine r_iastN (pc := 9) C dX11_swaps_9 rfl (e52 (nf := nf) h0) g_4 rfl eM_5 ?_
  refine r_aload_n (pc := 10) C dX11_swaps_10 rfl 1 rfl ?_
  refine r_iconst (pc := 11) C dX11_swaps_11 ki2 ?_
  refine r_iload_n (pc := 12) C dX11_swaps_12 rfl 0 rfl ?_
  obtain ⟨g_6, hr⟩ := gG_some hr
  obtain ⟨M_7, eM_7, hr⟩ := gLet_some hr
  refine r_iastN (pc := 13) C dX11_swaps_13 rfl (e52 (nf := nf) h0) g_6 rfl eM_7 ?_
  exact r_vret (pc := 14) CR dX11_swaps_14 rfl (gSome hr)
theorem c_X11_swaps {Ψ : gM → Nat → List (Nat × Value) → List Value → Prop} {G : gG5} {nf : Nat} {cc : ByteArray} {own : String} {nL : Nat} {ret : Option FieldType} {fr lo : Nat} {v0 : Option Value} {M0 M : gM} {pc index : Nat} {ls : List (Nat × Value)} {st : List Value} (C : gC Ψ G (gXn nf) cc own nL ret fr lo v0 M0) (d : decode cc pc = .ok (.invokestatic index, 3)) (hl : Cond.methodLink own index yX11_swaps ∈ gws) (hR : 1 ≤ fr ∧ 21 ≤ lo) {i0 : Nat} (h0 : i0 < 20) {M1 : gM} (hr : X11_swaps i0 M = some M1) (hcat : (st.map fun v => v.category).sum ≤ 8) (k : Ψ M1 (pc + 3) ls (st)) : Ψ M pc ls (.ref (gad 52 i0) :: st) := r_callS C [.ref (gad 52 i0)] st d (k_X11_swaps h0 hr) hl q1661 q127 q1662 hd_X11_swaps hR rfl hcat k
theorem hd_X11_asks : yX11_asks.cls ≠ "java/lang/invoke/MethodHandle" ∧ yX11_asks.cls ≠ "java/lang/invoke/VarHandle" ∧ (parseMethodDescriptor yX11_asks.desc).map (fun d => d.parameters.length) = some 2 := by decide +kernel
noncomputable def X11_asks_L2 (i1 : Nat) (x2 : Int32) (x3 : Int32) (M : gM) : Option ((Int32 × gM) ⊕ gM) := (if 3 ≤ x3 then some (.inr M) else gLet (((944 + (9 * x2)) + (3 * x3))) (fun x4_2 => gG (gin x4_2 (gLen 52 i1)) (gG (gin x3 3) (gLet (wI M 52 12 (Int32.toNatClampNeg x3) ((M.1 52 i1 (Int32.toNatClampNeg x4_2)) + (M.1 50 0 29))) (fun M_5 => gG (gin (x4_2 + 1) (gLen 52 i1)) (gG (gin x3 3) (gLet (wI M_5 52 13 (Int32.toNatClampNeg x3) ((M_5.1 52 i1 (Int32.toNatClampNeg (x4_2 + 1))) + (M_5.1 50 0 30))) (fun M_8 => gG (gin (x4_2 + 2) (gLen 52 i1)) (gG (gin x3 3) (gLet (wI M_8 52 14 (Int32.toNatClampNeg x3) (M_8.1 52 i1 (Int32.toNatClampNeg (x4_2 + 2)))) (fun M_11 => gLet (x3 + 1) (fun x3_12 => some (.inl (x3_12, M_11))))))))))))))
theorem t_X11_asks_L2 {Ψ : gM → Nat → List (Nat × Value) → List Value → Prop} {G : gG5} {nf : Nat} {M : gM} {v0 : Option Value} {M0 : gM} {i1 : Nat} {x2 : Int32} {x3 : Int32} {w : ((Int32 × gM) ⊕ gM)} (C : gC Ψ G (gXn nf) cX11_asks RX11 5 none 1 25 v0 M0) (h1 : i1 < 20) (hr : X11_asks_L2 i1 x2 x3 M = some w) (hn : ∀ s, w = .inl s → Ψ s.2 2 [(0, .ref (gad 50 0)), (1, .ref (gad 52 i1)), (2, .int x2), (3, .int (s.1))] []) (hx : ∀ e, w = .inr e → (fun e => Ψ e 71 [(0, .ref (gad 50 0)), (1, .ref (gad 52 i1))] []) e) : Ψ M 2 [(0, .ref (gad 50 0)), (1, .ref (gad 52 i1)), (2, .int x2), (3, .int x3)] [] := by
  refine r_iload_n (pc := 2) C dX11_asks_2 rfl 3 rfl ?_
  refine r_iconst (pc := 3) C dX11_asks_3 ki3 ?_
  refine r_icmp_ge (pc := 4) (tgt := 71) C dX11_asks_4 rfl (fun c_1 => ?_) (fun c_1 => ?_)
  · replace hr := (if_pos c_1).symm.trans hr
    refine r_sub C [0, 1] (ls' := [(0, .ref (gad 50 0)), (1, .ref (gad 52 i1))]) rfl ?_
    exact hx M (gSome hr)
  · replace hr := (if_neg c_1).symm.trans hr
    refine r_sipush (pc := 7) C dX11_asks_7 ks944 ?_
    refine r_bipush (pc := 10) C dX11_asks_10 kb9 ?_
    refine r_iload_n (pc := 12) C dX11_asks_12 rfl 2 rfl ?_
    refine r_imul (pc := 13) C dX11_asks_13 ?_
    refine r_iadd (pc := 14) C dX11_asks_14 ?_
    refine r_iconst (pc := 15) C dX11_asks_15 ki3 ?_
    refine r_iload_n (pc := 16) C dX11_asks_16 rfl 3 rfl ?_
    refine r_imul (pc := 17) C dX11_asks_17 ?_
    refine r_iadd (pc := 18) C dX11_asks_18 ?_
    obtain ⟨x4_2, ex4_2, hr⟩ := gLet_some hr
    refine r_istore (pc := 19) C dX11_asks_19 (by decide) ex4_2 (ls' := [(4, .int x4_2), (0, .ref (gad 50 0)), (1, .ref (gad 52 i1)), (2, .int x2), (3, .int x3)]) rfl ?_
    refine r_aload_n (pc := 21) C dX11_asks_21 rfl 1 rfl ?_
    refine g50_25 (pc := 22) C dX11_asks_22 q1425 (e50 nf) ?_
    refine r_iload_n (pc := 25) C dX11_asks_25 rfl 4 rfl ?_
    refine r_aload_n (pc := 26) C dX11_asks_26 rfl 2 rfl ?_
    refine r_iload (pc := 27) C dX11_asks_27 0 rfl ?_
    obtain ⟨g_3, hr⟩ := gG_some hr
    refine r_ialdN (pc := 29) C dX11_asks_29 rfl (e52 (nf := nf) h1) g_3 rfl ?_
    refine r_aload_n (pc := 30) C dX11_asks_30 rfl 1 rfl ?_
    refine g50_29 (pc := 31) C dX11_asks_31 q1429 (e50 nf) ?_
    refine r_iadd (pc := 34) C dX11_asks_34 ?_
    obtain ⟨g_4, hr⟩ := gG_some hr
    obtain ⟨M_5, eM_5, hr⟩ := gLet_some hr
    refine r_iastN (pc := 35) C dX11_asks_35 rfl (e52 (nf := nf) (by decide)) g_4 rfl eM_5 ?_
    refine r_aload_n (pc := 36) C dX11_asks_36 rfl 1 rfl ?_
    refine g50_26 (pc := 37) C dX11_asks_37 q1426 (e50 nf) ?_
    refine r_iload_n (pc := 40) C dX11_asks_40 rfl 4 rfl ?_
    refine r_aload_n (pc := 41) C dX11_asks_41 rfl 2 rfl ?_
    refine r_iload (pc := 42) C dX11_asks_42 0 rfl ?_
    refine r_iconst (pc := 44) C dX11_asks_44 ki1 ?_
    refine r_iadd (pc := 45) C dX11_asks_45 ?_
    obtain ⟨g_6, hr⟩ := gG_some hr
    refine r_ialdN (pc := 46) C dX11_asks_46 rfl (e52 (nf := nf) h1) g_6 rfl ?_
    refine r_aload_n (pc := 47) C dX11_asks_47 rfl 1 rfl ?_
    refine g50_30 (pc := 48) C dX11_asks_48 q1430 (e50 nf) ?_
    refine r_iadd (pc := 51) C dX11_asks_51 ?_
    obtain ⟨g_7, hr⟩ := gG_some hr
    obtain ⟨M_8, eM_8, hr⟩ := gLet_some hr
    refine r_iastN (pc := 52) C dX11_asks_52 rfl (e52 (nf := nf) (by decide)) g_7 rfl eM_8 ?_
    refine r_aload_n (pc := 53) C dX11_asks_53 rfl 1 rfl ?_
    refine g50_27 (pc := 54) C dX11_asks_54 q1427 (e50 nf) ?_
    refine r_iload_n (pc := 57) C dX11_asks_57 rfl 4 rfl ?_
    refine r_aload_n (pc := 58) C dX11_asks_58 rfl 2 rfl ?_
    refine r_iload (pc := 59) C dX11_asks_59 0 rfl ?_
    refine r_iconst (pc := 61) C dX11_asks_61 ki2 ?_
    refine r_iadd (pc := 62) C dX11_asks_62 ?_
    obtain ⟨g_9, hr⟩ := gG_some hr
    refine r_ialdN (pc := 63) C dX11_asks_63 rfl (e52 (nf := nf) h1) g_9 rfl ?_
    obtain ⟨g_10, hr⟩ := gG_some hr
    obtain ⟨M_11, eM_11, hr⟩ := gLet_some hr
    refine r_iastN (pc := 64) C dX11_asks_64 rfl (e52 (nf := nf) (by decide)) g_10 rfl eM_11 ?_
    obtain ⟨x3_12, ex3_12, hr⟩ := gLet_some hr
    refine r_iinc (pc := 65) C dX11_asks_65 4 rfl rfl (by decide) ex3_12 (ls' := [(3, .int x3_12), (4, .int x4_2), (0, .ref (gad 50 0)), (1, .ref (gad 52 i1)), (2, .int x2)]) rfl ?_
    refine r_goto (pc := 68) (tgt := 2) C dX11_asks_68 rfl ?_
    refine r_sub C [2, 3, 4, 0] (ls' := [(0, .ref (gad 50 0)), (1, .ref (gad 52 i1)), (2, .int x2), (3, .int x3_12)]) rfl ?_
    exact hn (x3_12, M_11) (gSome hr)
noncomputable def X11_asks_J137 (xs0 : Int32) (M : gM) : Option gM := gG (gb xs0) (gLet (wI M 50 0 31 xs0) (fun M_19 => (if (M_19.1 50 0 28) < 0 then (X11_swaps 12 M_19).bind (fun M_22 => (X11_swaps 13 M_22).bind (fun M_24 => (X11_swaps 14 M_24).bind (fun M_26 => some M_26))) else some M_19)))
theorem t_X11_asks_J137 {Ψ : gM → Nat → List (Nat × Value) → List Value → Prop} {G : gG5} {nf : Nat} {M : gM} {xs0 : Int32} {M1 : gM} (C : gC Ψ G (gXn nf) cX11_asks RX11 5 none 1 25 none M1) (CR : gR Ψ cX11_asks none none M1) (hr : X11_asks_J137 xs0 M = some M1) : Ψ M 137 [(0, .ref (gad 50 0))] [.int xs0, .ref (gad 50 0)] := by
  obtain ⟨g_18, hr⟩ := gG_some hr
  obtain ⟨M_19, eM_19, hr⟩ := gLet_some hr
  refine p50_31 (pc := 137) C dX11_asks_137 q1431 (e50 nf) g_18 eM_19 ?_
  refine r_aload_n (pc := 140) C dX11_asks_140 rfl 0 rfl ?_
  refine g50_28 (pc := 141) C dX11_asks_141 q1428 (e50 nf) ?_
  refine r_if_lt (pc := 144) (tgt := 148) C dX11_asks_144 rfl (fun c_20 => ?_) (fun c_20 => ?_)
  · replace hr := (if_pos c_20).symm.trans hr
    refine r_aload_n (pc := 148) C dX11_asks_148 rfl 0 rfl ?_
    refine g50_25 (pc := 149) C dX11_asks_149 q1425 (e50 nf) ?_
    obtain ⟨M_22, hc_21, hr⟩ := gBind_some hr
    refine c_X11_swaps (pc := 152) C dX11_asks_152 q1660 ⟨Nat.le_of_ble_eq_true rfl, Nat.le_of_ble_eq_true rfl⟩ (by decide) hc_21 (Nat.le_of_ble_eq_true rfl) ?_
    refine r_aload_n (pc := 155) C dX11_asks_155 rfl 0 rfl ?_
    refine g50_26 (pc := 156) C dX11_asks_156 q1426 (e50 nf) ?_
    obtain ⟨M_24, hc_23, hr⟩ := gBind_some hr
    refine c_X11_swaps (pc := 159) C dX11_asks_159 q1660 ⟨Nat.le_of_ble_eq_true rfl, Nat.le_of_ble_eq_true rfl⟩ (by decide) hc_23 (Nat.le_of_ble_eq_true rfl) ?_
    refine r_aload_n (pc := 162) C dX11_asks_162 rfl 0 rfl ?_
    refine g50_27 (pc := 163) C dX11_asks_163 q1427 (e50 nf) ?_
    obtain ⟨M_26, hc_25, hr⟩ := gBind_some hr
    refine c_X11_swaps (pc := 166) C dX11_asks_166 q1660 ⟨Nat.le_of_ble_eq_true rfl, Nat.le_of_ble_eq_true rfl⟩ (by decide) hc_25 (Nat.le_of_ble_eq_true rfl) ?_
    exact r_vret (pc := 169) CR dX11_asks_169 rfl (gSome hr)
  · replace hr := (if_neg c_20).symm.trans hr
    exact r_vret (pc := 147) CR dX11_asks_147 rfl (gSome hr)
noncomputable def X11_asks_J132 (M : gM) : Option gM := X11_asks_J137 1 M
theorem t_X11_asks_J132 {Ψ : gM → Nat → List (Nat × Value) → List Value → Prop} {G : gG5} {nf : Nat} {M : gM} {M1 : gM} (C : gC Ψ G (gXn nf) cX11_asks RX11 5 none 1 25 none M1) (CR : gR Ψ cX11_asks none none M1) (hr : X11_asks_J132 M = some M1) : Ψ M 132 [(0, .ref (gad 50 0))] [.ref (gad 50 0)] := by
  refine r_iconst (pc := 132) C dX11_asks_132 ki1 ?_
  refine r_goto (pc := 133) (tgt := 137) C dX11_asks_133 rfl ?_
  exact t_X11_asks_J137 C CR  hr
noncomputable def X11_asks_J136 (M : gM) : Option gM := X11_asks_J137 0 M
theorem t_X11_asks_J136 {Ψ : gM → Nat → List (Nat × Value) → List Value → Prop} {G : gG5} {nf : Nat} {M : gM} {M1 : gM} (C : gC Ψ G (gXn nf) cX11_asks RX11 5 none 1 25 none M1) (CR : gR Ψ cX11_asks none none M1) (hr : X11_asks_J136 M = some M1) : Ψ M 136 [(0, .ref (gad 50 0))] [.ref (gad 50 0)] := by
  refine r_iconst (pc := 136) C dX11_asks_136 ki0 ?_
  exact t_X11_asks_J137 C CR  hr
noncomputable def X11_asks_J116 (i1 : Nat) (M : gM) : Option gM := gG (gin 1057 (gLen 52 i1)) ((if (M.1 52 i1 (Int32.toNatClampNeg 1057)) = 2 then (if (M.1 50 0 28) ≤ 0 then X11_asks_J136 M else X11_asks_J132 M) else X11_asks_J136 M))
theorem t_X11_asks_J116 {Ψ : gM → Nat → List (Nat × Value) → List Value → Prop} {G : gG5} {nf : Nat} {M : gM} {i1 : Nat} {M1 : gM} (C : gC Ψ G (gXn nf) cX11_asks RX11 5 none 1 25 none M1) (CR : gR Ψ cX11_asks none none M1) (h1 : i1 < 20) (hr : X11_asks_J116 i1 M = some M1) : Ψ M 116 [(0, .ref (gad 50 0)), (1, .ref (gad 52 i1))] [.ref (gad 50 0)] := by
  refine r_aload_n (pc := 116) C dX11_asks_116 rfl 1 rfl ?_
  refine r_sipush (pc := 117) C dX11_asks_117 ks1057 ?_
  obtain ⟨g_29, hr⟩ := gG_some hr
  refine r_ialdN (pc := 120) C dX11_asks_120 rfl (e52 (nf := nf) h1) g_29 rfl ?_
  refine r_iconst (pc := 121) C dX11_asks_121 ki2 ?_
  refine r_icmp_ne (pc := 122) (tgt := 136) C dX11_asks_122 rfl (fun c_30 => ?_) (fun c_30 => ?_)
  · replace hr := (if_neg c_30).symm.trans hr
    refine r_sub C [0] (ls' := [(0, .ref (gad 50 0))]) rfl ?_
    exact t_X11_asks_J136 C CR  hr
  · replace hr := (if_pos c_30).symm.trans hr
    refine r_aload_n (pc := 125) C dX11_asks_125 rfl 0 rfl ?_
    refine g50_28 (pc := 126) C dX11_asks_126 q1428 (e50 nf) ?_
    refine r_if_le (pc := 129) (tgt := 136) C dX11_asks_129 rfl (fun c_31 => ?_) (fun c_31 => ?_)
    · replace hr := (if_pos c_31).symm.trans hr
      refine r_sub C [0] (ls' := [(0, .ref (gad 50 0))]) rfl ?_
      exact t_X11_asks_J136 C CR  hr
    · replace hr := (if_neg c_31).symm.trans hr
      refine r_sub C [0] (ls' := [(0, .ref (gad 50 0))]) rfl ?_
      exact t_X11_asks_J132 C CR  hr
noncomputable def X11_asks (i1 : Nat) (p2 : Int32) (M : gM) : Option gM := (gIter (fun s => X11_asks_L2 i1 p2 s.1 s.2) FU (0, M)).bind (fun M_13 => (X11_sum 0 (M_13.1 52 12 2) (M_13.1 52 13 2) M_13).bind (fun r_15 => gLet (wI M_13 50 0 28 r_15) (fun M_16 => (if (M_16.1 50 0 28) = 0 then X11_asks_J132 M_16 else gG (gin 1057 (gLen 52 i1)) ((if (M_16.1 52 i1 (Int32.toNatClampNeg 1057)) = 1 then (if (M_16.1 50 0 28) < 0 then X11_asks_J132 M_16 else X11_asks_J116 i1 M_16) else X11_asks_J116 i1 M_16))))))
theorem k_X11_asks {G : gG5} {nf : Nat} {M : gM} {i1 : Nat} {p2 : Int32} (h1 : i1 < 20) {M1 : gM} (hr : X11_asks i1 p2 M = some M1) : gMet G (gXn nf) yX11_asks cX11_asks 5 none 1 25 M [.ref (gad 50 0), .ref (gad 52 i1), .int p2] none M1 := by
  refine gMet_of pl_X11 rfl (Nat.le_of_ble_eq_true rfl) (fun Ψ C CR => ?_)
  show Ψ M 0 [(0, .ref (gad 50 0)), (1, .ref (gad 52 i1)), (2, .int p2)] []
  refine r_iconst (pc := 0) C dX11_asks_0 ki0 ?_
  refine r_istore_n (pc := 1) C dX11_asks_1 rfl (by decide) rfl (ls' := [(3, .int 0), (0, .ref (gad 50 0)), (1, .ref (gad 52 i1)), (2, .int p2)]) rfl ?_
  refine r_sub C [1, 2, 3, 0] (ls' := [(0, .ref (gad 50 0)), (1, .ref (gad 52 i1)), (2, .int p2), (3, .int 0)]) rfl ?_
  obtain ⟨ev, hit, hr⟩ := gBind_some hr
  refine gIter_V (step := fun s => X11_asks_L2 i1 p2 s.1 s.2) (P := fun s => Ψ s.2 2 [(0, .ref (gad 50 0)), (1, .ref (gad 52 i1)), (2, .int p2), (3, .int (s.1))] []) (K := (fun e => Ψ e 71 [(0, .ref (gad 50 0)), (1, .ref (gad 52 i1))] [])) (fun s w hs hn hx => t_X11_asks_L2 C h1 hs hn hx) FU (0, M) ev hit ?_
  obtain ⟨M_13, rfl⟩ : ∃ z, z = ev := ⟨_, rfl⟩
  show Ψ M_13 71 [(0, .ref (gad 50 0)), (1, .ref (gad 52 i1))] []
  refine r_aload_n (pc := 71) C dX11_asks_71 rfl 0 rfl ?_
  refine r_aload_n (pc := 72) C dX11_asks_72 rfl 0 rfl ?_
  refine r_iconst (pc := 73) C dX11_asks_73 ki0 ?_
  refine r_aload_n (pc := 74) C dX11_asks_74 rfl 0 rfl ?_
  refine g50_25 (pc := 75) C dX11_asks_75 q1425 (e50 nf) ?_
  refine r_iconst (pc := 78) C dX11_asks_78 ki2 ?_
  refine r_ialdN (pc := 79) C dX11_asks_79 rfl (e52 (nf := nf) (by decide)) (by decide : gin 2 3 = true) kc2 ?_
  refine r_aload_n (pc := 80) C dX11_asks_80 rfl 0 rfl ?_
  refine g50_26 (pc := 81) C dX11_asks_81 q1426 (e50 nf) ?_
  refine r_iconst (pc := 84) C dX11_asks_84 ki2 ?_
  refine r_ialdN (pc := 85) C dX11_asks_85 rfl (e52 (nf := nf) (by decide)) (by decide : gin 2 3 = true) kc2 ?_
  obtain ⟨r_15, hc_14, hr⟩ := gBind_some hr
  refine c_X11_sum (pc := 86) C dX11_asks_86 q1656 ⟨Nat.le_of_ble_eq_true rfl, Nat.le_of_ble_eq_true rfl⟩ hc_14 (Nat.le_of_ble_eq_true rfl) ?_
  obtain ⟨M_16, eM_16, hr⟩ := gLet_some hr
  refine p50_28 (pc := 89) C dX11_asks_89 q1428 (e50 nf) eM_16 ?_
  refine r_aload_n (pc := 92) C dX11_asks_92 rfl 0 rfl ?_
  refine r_aload_n (pc := 93) C dX11_asks_93 rfl 0 rfl ?_
  refine g50_28 (pc := 94) C dX11_asks_94 q1428 (e50 nf) ?_
  refine r_if_eq (pc := 97) (tgt := 132) C dX11_asks_97 rfl (fun c_17 => ?_) (fun c_17 => ?_)
  · replace hr := (if_pos c_17).symm.trans hr
    refine r_sub C [0] (ls' := [(0, .ref (gad 50 0))]) rfl ?_
    exact t_X11_asks_J132 C CR  hr
  · replace hr := (if_neg c_17).symm.trans hr
    refine r_aload_n (pc := 100) C dX11_asks_100 rfl 1 rfl ?_
    refine r_sipush (pc := 101) C dX11_asks_101 ks1057 ?_
    obtain ⟨g_27, hr⟩ := gG_some hr
    refine r_ialdN (pc := 104) C dX11_asks_104 rfl (e52 (nf := nf) h1) g_27 rfl ?_
    refine r_iconst (pc := 105) C dX11_asks_105 ki1 ?_
    refine r_icmp_ne (pc := 106) (tgt := 116) C dX11_asks_106 rfl (fun c_28 => ?_) (fun c_28 => ?_)
    · replace hr := (if_neg c_28).symm.trans hr
      exact t_X11_asks_J116 C CR h1 hr
    · replace hr := (if_pos c_28).symm.trans hr
      refine r_aload_n (pc := 109) C dX11_asks_109 rfl 0 rfl ?_
      refine g50_28 (pc := 110) C dX11_asks_110 q1428 (e50 nf) ?_
      refine r_if_lt (pc := 113) (tgt := 132) C dX11_asks_113 rfl (fun c_32 => ?_) (fun c_32 => ?_)
      · replace hr := (if_pos c_32).symm.trans hr
        refine r_sub C [0] (ls' := [(0, .ref (gad 50 0))]) rfl ?_
        exact t_X11_asks_J132 C CR  hr
      · replace hr := (if_neg c_32).symm.trans hr
        exact t_X11_asks_J116 C CR h1 hr
theorem c_X11_asks {Ψ : gM → Nat → List (Nat × Value) → List Value → Prop} {G : gG5} {nf : Nat} {cc : ByteArray} {own : String} {nL : Nat} {ret : Option FieldType} {fr lo : Nat} {v0 : Option Value} {M0 M : gM} {pc index : Nat} {ls : List (Nat × Value)} {st : List Value} (C : gC Ψ G (gXn nf) cc own nL ret fr lo v0 M0) (d : decode cc pc = .ok (.invokevirtual index, 3)) (hl : Cond.methodLink own index yX11_asks ∈ gws) (hR : 2 ≤ fr ∧ 49 ≤ lo) {i1 : Nat} {p2 : Int32} (h1 : i1 < 20) {M1 : gM} (hr : X11_asks i1 p2 M = some M1) (hcat : (st.map fun v => v.category).sum ≤ 8) (k : Ψ M1 (pc + 3) ls (st)) : Ψ M pc ls (.int p2 :: .ref (gad 52 i1) :: .ref (gad 50 0) :: st) := r_callV C [.ref (gad 52 i1), .int p2] st d (k_X11_asks h1 hr) hl q1654 q56 q127 q1655 hd_X11_asks hR rfl (by decide) (e50 nf) rfl hcat k
theorem hd_X11_isHigh : yX11_isHigh.cls ≠ "java/lang/invoke/MethodHandle" ∧ yX11_isHigh.cls ≠ "java/lang/invoke/VarHandle" ∧ (parseMethodDescriptor yX11_isHigh.desc).map (fun d => d.parameters.length) = some 1 := by decide +kernel
noncomputable def X11_isHigh (p1 : Int32) (M : gM) : Option Int32 := gLet ((gRem (p1 + 1) 3)) (fun x2_1 => gG (gin p1 3) (gG (gin x2_1 3) ((if (M.1 52 13 (Int32.toNatClampNeg p1)) = (M.1 52 13 (Int32.toNatClampNeg x2_1)) then gG (gin x2_1 3) (gG (gin p1 3) ((if (M.1 52 12 (Int32.toNatClampNeg x2_1)) ≤ (M.1 52 12 (Int32.toNatClampNeg p1)) then some 0 else some 1))) else gG (gin x2_1 3) (gG (gin p1 3) ((if (M.1 52 13 (Int32.toNatClampNeg p1)) ≤ (M.1 52 13 (Int32.toNatClampNeg x2_1)) then some 0 else some 1)))))))
theorem k_X11_isHigh {G : gG5} {nf : Nat} {M : gM} {p1 : Int32} {r : Int32} (hr : X11_isHigh p1 M = some r) : gMet G (gXn nf) yX11_isHigh cX11_isHigh 3 (some .boolean) 0 0 M [.ref (gad 50 0), .int p1] (some (.int r)) M := by
  refine gMet_of pl_X11 rfl (Nat.le_of_ble_eq_true rfl) (fun Ψ C CR => ?_)
  show Ψ M 0 [(0, .ref (gad 50 0)), (1, .int p1)] []
  refine r_iload_n (pc := 0) C dX11_isHigh_0 rfl 1 rfl ?_
  refine r_iconst (pc := 1) C dX11_isHigh_1 ki1 ?_
  refine r_iadd (pc := 2) C dX11_isHigh_2 ?_
  refine r_iconst (pc := 3) C dX11_isHigh_3 ki3 ?_
  refine r_irem (pc := 4) C dX11_isHigh_4 (by decide) ?_
  obtain ⟨x2_1, ex2_1, hr⟩ := gLet_some hr
  refine r_istore_n (pc := 5) C dX11_isHigh_5 rfl (by decide) ex2_1 (ls' := [(2, .int x2_1), (0, .ref (gad 50 0)), (1, .int p1)]) rfl ?_
  refine r_aload_n (pc := 6) C dX11_isHigh_6 rfl 1 rfl ?_
  refine g50_26 (pc := 7) C dX11_isHigh_7 q1426 (e50 nf) ?_
  refine r_iload_n (pc := 10) C dX11_isHigh_10 rfl 2 rfl ?_
  obtain ⟨g_2, hr⟩ := gG_some hr
  refine r_ialdN (pc := 11) C dX11_isHigh_11 rfl (e52 (nf := nf) (by decide)) g_2 rfl ?_
  refine r_aload_n (pc := 12) C dX11_isHigh_12 rfl 1 rfl ?_
  refine g50_26 (pc := 13) C dX11_isHigh_13 q1426 (e50 nf) ?_
  refine r_iload_n (pc := 16) C dX11_isHigh_16 rfl 0 rfl ?_
  obtain ⟨g_3, hr⟩ := gG_some hr
  refine r_ialdN (pc := 17) C dX11_isHigh_17 rfl (e52 (nf := nf) (by decide)) g_3 rfl ?_
  refine r_icmp_ne (pc := 18) (tgt := 44) C dX11_isHigh_18 rfl (fun c_4 => ?_) (fun c_4 => ?_)
  · replace hr := (if_neg c_4).symm.trans hr
    refine r_aload_n (pc := 44) C dX11_isHigh_44 rfl 1 rfl ?_
    refine g50_26 (pc := 45) C dX11_isHigh_45 q1426 (e50 nf) ?_
    refine r_iload_n (pc := 48) C dX11_isHigh_48 rfl 0 rfl ?_
    obtain ⟨g_5, hr⟩ := gG_some hr
    refine r_ialdN (pc := 49) C dX11_isHigh_49 rfl (e52 (nf := nf) (by decide)) g_5 rfl ?_
    refine r_aload_n (pc := 50) C dX11_isHigh_50 rfl 1 rfl ?_
    refine g50_26 (pc := 51) C dX11_isHigh_51 q1426 (e50 nf) ?_
    refine r_iload_n (pc := 54) C dX11_isHigh_54 rfl 2 rfl ?_
    obtain ⟨g_6, hr⟩ := gG_some hr
    refine r_ialdN (pc := 55) C dX11_isHigh_55 rfl (e52 (nf := nf) (by decide)) g_6 rfl ?_
    refine r_icmp_ge (pc := 56) (tgt := 63) C dX11_isHigh_56 rfl (fun c_7 => ?_) (fun c_7 => ?_)
    · replace hr := (if_pos c_7).symm.trans hr
      refine r_iconst (pc := 63) C dX11_isHigh_63 ki0 ?_
      exact r_zret (pc := 64) CR dX11_isHigh_64 rfl (congrArg (fun z => some (Value.int z)) (gSome hr)) rfl
    · replace hr := (if_neg c_7).symm.trans hr
      refine r_iconst (pc := 59) C dX11_isHigh_59 ki1 ?_
      refine r_goto (pc := 60) (tgt := 64) C dX11_isHigh_60 rfl ?_
      exact r_zret (pc := 64) CR dX11_isHigh_64 rfl (congrArg (fun z => some (Value.int z)) (gSome hr)) rfl
  · replace hr := (if_pos c_4).symm.trans hr
    refine r_aload_n (pc := 21) C dX11_isHigh_21 rfl 1 rfl ?_
    refine g50_25 (pc := 22) C dX11_isHigh_22 q1425 (e50 nf) ?_
    refine r_iload_n (pc := 25) C dX11_isHigh_25 rfl 0 rfl ?_
    obtain ⟨g_8, hr⟩ := gG_some hr
    refine r_ialdN (pc := 26) C dX11_isHigh_26 rfl (e52 (nf := nf) (by decide)) g_8 rfl ?_
    refine r_aload_n (pc := 27) C dX11_isHigh_27 rfl 1 rfl ?_
    refine g50_25 (pc := 28) C dX11_isHigh_28 q1425 (e50 nf) ?_
    refine r_iload_n (pc := 31) C dX11_isHigh_31 rfl 2 rfl ?_
    obtain ⟨g_9, hr⟩ := gG_some hr
    refine r_ialdN (pc := 32) C dX11_isHigh_32 rfl (e52 (nf := nf) (by decide)) g_9 rfl ?_
    refine r_icmp_le (pc := 33) (tgt := 40) C dX11_isHigh_33 rfl (fun c_10 => ?_) (fun c_10 => ?_)
    · replace hr := (if_pos c_10).symm.trans hr
      refine r_iconst (pc := 40) C dX11_isHigh_40 ki0 ?_
      refine r_goto (pc := 41) (tgt := 64) C dX11_isHigh_41 rfl ?_
      exact r_zret (pc := 64) CR dX11_isHigh_64 rfl (congrArg (fun z => some (Value.int z)) (gSome hr)) rfl
    · replace hr := (if_neg c_10).symm.trans hr
      refine r_iconst (pc := 36) C dX11_isHigh_36 ki1 ?_
      refine r_goto (pc := 37) (tgt := 64) C dX11_isHigh_37 rfl ?_
      exact r_zret (pc := 64) CR dX11_isHigh_64 rfl (congrArg (fun z => some (Value.int z)) (gSome hr)) rfl
theorem c_X11_isHigh {Ψ : gM → Nat → List (Nat × Value) → List Value → Prop} {G : gG5} {nf : Nat} {cc : ByteArray} {own : String} {nL : Nat} {ret : Option FieldType} {fr lo : Nat} {v0 : Option Value} {M0 M : gM} {pc index : Nat} {ls : List (Nat × Value)} {st : List Value} (C : gC Ψ G (gXn nf) cc own nL ret fr lo v0 M0) (d : decode cc pc = .ok (.invokevirtual index, 3)) (hl : Cond.methodLink own index yX11_isHigh ∈ gws) (hR : 1 ≤ fr ∧ 22 ≤ lo) {p1 : Int32} {r : Int32} (hr : X11_isHigh p1 M = some r) (hcat : (st.map fun v => v.category).sum ≤ 8) (k : Ψ M (pc + 3) ls (.int r :: st)) : Ψ M pc ls (.int p1 :: .ref (gad 50 0) :: st) := r_callV C [.int p1] st d (k_X11_isHigh hr) hl q1749 q76 q127 q1750 hd_X11_isHigh hR rfl (by decide) (e50 nf) rfl hcat k
theorem hd_X11_covers : yX11_covers.cls ≠ "java/lang/invoke/MethodHandle" ∧ yX11_covers.cls ≠ "java/lang/invoke/VarHandle" ∧ (parseMethodDescriptor yX11_covers.desc).map (fun d => d.parameters.length) = some 2 := by decide +kernel
noncomputable def X11_covers_L16 (x1 : Int32) (x2 : Int32) (x3 : Int32) (x4 : Int32) (M : gM) : Option ((Int32 × Int32) ⊕ Int32) := (if 3 ≤ x4 then some (.inr x3) else (if x3 = 0 then some (.inr x3) else (X11_sum x4 x1 x2 M).bind (fun r_5 => (if 0 < r_5 then gLet (x4 + 1) (fun x4_7 => some (.inl (1, x4_7))) else (if r_5 = 0 then (X11_isHigh x4 M).bind (fun r_11 => (if r_11 = 0 then gLet (x4 + 1) (fun x4_13 => some (.inl (0, x4_13))) else gLet (x4 + 1) (fun x4_14 => some (.inl (1, x4_14))))) else gLet (x4 + 1) (fun x4_9 => some (.inl (0, x4_9))))))))
theorem t_X11_covers_L16 {Ψ : gM → Nat → List (Nat × Value) → List Value → Prop} {G : gG5} {nf : Nat} {M : gM} {v0 : Option Value} {M0 : gM} {x1 : Int32} {x2 : Int32} {x3 : Int32} {x4 : Int32} {w : ((Int32 × Int32) ⊕ Int32)} (C : gC Ψ G (gXn nf) cX11_covers RX11 6 (some .boolean) 1 25 v0 M0) (hr : X11_covers_L16 x1 x2 x3 x4 M = some w) (hn : ∀ s, w = .inl s → Ψ M 16 [(0, .ref (gad 50 0)), (1, .int x1), (2, .int x2), (3, .int (s.1)), (4, .int (s.2))] []) (hx : ∀ e, w = .inr e → (fun e => Ψ M 67 [(3, .int e)] []) e) : Ψ M 16 [(0, .ref (gad 50 0)), (1, .int x1), (2, .int x2), (3, .int x3), (4, .int x4)] [] := by
  refine r_iload (pc := 16) C dX11_covers_16 4 rfl ?_
  refine r_iconst (pc := 18) C dX11_covers_18 ki3 ?_
  refine r_icmp_ge (pc := 19) (tgt := 67) C dX11_covers_19 rfl (fun c_2 => ?_) (fun c_2 => ?_)
  · replace hr := (if_pos c_2).symm.trans hr
    refine r_sub C [3] (ls' := [(3, .int x3)]) rfl ?_
    exact hx x3 (gSome hr)
  · replace hr := (if_neg c_2).symm.trans hr
    refine r_iload_n (pc := 22) C dX11_covers_22 rfl 3 rfl ?_
    refine r_if_eq (pc := 23) (tgt := 67) C dX11_covers_23 rfl (fun c_3 => ?_) (fun c_3 => ?_)
    · replace hr := (if_pos c_3).symm.trans hr
      refine r_sub C [3] (ls' := [(3, .int x3)]) rfl ?_
      exact hx x3 (gSome hr)
    · replace hr := (if_neg c_3).symm.trans hr
      refine r_aload_n (pc := 26) C dX11_covers_26 rfl 0 rfl ?_
      refine r_iload (pc := 27) C dX11_covers_27 4 rfl ?_
      refine r_iload_n (pc := 29) C dX11_covers_29 rfl 1 rfl ?_
      refine r_iload_n (pc := 30) C dX11_covers_30 rfl 2 rfl ?_
      obtain ⟨r_5, hc_4, hr⟩ := gBind_some hr
      refine c_X11_sum (pc := 31) C dX11_covers_31 q1656 ⟨Nat.le_of_ble_eq_true rfl, Nat.le_of_ble_eq_true rfl⟩ hc_4 (Nat.le_of_ble_eq_true rfl) ?_
      refine r_istore (pc := 34) C dX11_covers_34 (by decide) rfl (ls' := [(5, .int r_5), (0, .ref (gad 50 0)), (1, .int x1), (2, .int x2), (3, .int x3), (4, .int x4)]) rfl ?_
      refine r_iload (pc := 36) C dX11_covers_36 0 rfl ?_
      refine r_if_gt (pc := 38) (tgt := 55) C dX11_covers_38 rfl (fun c_6 => ?_) (fun c_6 => ?_)
      · replace hr := (if_pos c_6).symm.trans hr
        refine r_iconst (pc := 55) C dX11_covers_55 ki1 ?_
        refine r_goto (pc := 56) (tgt := 60) C dX11_covers_56 rfl ?_
        refine r_istore_n (pc := 60) C dX11_covers_60 rfl (by decide) rfl (ls' := [(3, .int 1), (5, .int r_5), (0, .ref (gad 50 0)), (1, .int x1), (2, .int x2), (4, .int x4)]) rfl ?_
        obtain ⟨x4_7, ex4_7, hr⟩ := gLet_some hr
        refine r_iinc (pc := 61) C dX11_covers_61 5 rfl rfl (by decide) ex4_7 (ls' := [(4, .int x4_7), (3, .int 1), (5, .int r_5), (0, .ref (gad 50 0)), (1, .int x1), (2, .int x2)]) rfl ?_
        refine r_goto (pc := 64) (tgt := 16) C dX11_covers_64 rfl ?_
        refine r_sub C [3, 4, 5, 1, 0] (ls' := [(0, .ref (gad 50 0)), (1, .int x1), (2, .int x2), (3, .int 1), (4, .int x4_7)]) rfl ?_
        exact hn (1, x4_7) (gSome hr)
      · replace hr := (if_neg c_6).symm.trans hr
        refine r_iload (pc := 41) C dX11_covers_41 0 rfl ?_
        refine r_if_ne (pc := 43) (tgt := 59) C dX11_covers_43 rfl (fun c_8 => ?_) (fun c_8 => ?_)
        · replace hr := (if_neg c_8).symm.trans hr
          refine r_iconst (pc := 59) C dX11_covers_59 ki0 ?_
          refine r_istore_n (pc := 60) C dX11_covers_60 rfl (by decide) rfl (ls' := [(3, .int 0), (5, .int r_5), (0, .ref (gad 50 0)), (1, .int x1), (2, .int x2), (4, .int x4)]) rfl ?_
          obtain ⟨x4_9, ex4_9, hr⟩ := gLet_some hr
          refine r_iinc (pc := 61) C dX11_covers_61 5 rfl rfl (by decide) ex4_9 (ls' := [(4, .int x4_9), (3, .int 0), (5, .int r_5), (0, .ref (gad 50 0)), (1, .int x1), (2, .int x2)]) rfl ?_
          refine r_goto (pc := 64) (tgt := 16) C dX11_covers_64 rfl ?_
          refine r_sub C [3, 4, 5, 1, 0] (ls' := [(0, .ref (gad 50 0)), (1, .int x1), (2, .int x2), (3, .int 0), (4, .int x4_9)]) rfl ?_
          exact hn (0, x4_9) (gSome hr)
        · replace hr := (if_pos c_8).symm.trans hr
          refine r_aload_n (pc := 46) C dX11_covers_46 rfl 1 rfl ?_
          refine r_iload (pc := 47) C dX11_covers_47 5 rfl ?_
          obtain ⟨r_11, hc_10, hr⟩ := gBind_some hr
          refine c_X11_isHigh (pc := 49) C dX11_covers_49 q1747 ⟨Nat.le_of_ble_eq_true rfl, Nat.le_of_ble_eq_true rfl⟩ hc_10 (Nat.le_of_ble_eq_true rfl) ?_
          refine r_if_eq (pc := 52) (tgt := 59) C dX11_covers_52 rfl (fun c_12 => ?_) (fun c_12 => ?_)
          · replace hr := (if_pos c_12).symm.trans hr
            refine r_iconst (pc := 59) C dX11_covers_59 ki0 ?_
            refine r_istore_n (pc := 60) C dX11_covers_60 rfl (by decide) rfl (ls' := [(3, .int 0), (5, .int r_5), (0, .ref (gad 50 0)), (1, .int x1), (2, .int x2), (4, .int x4)]) rfl ?_
            obtain ⟨x4_13, ex4_13, hr⟩ := gLet_some hr
            refine r_iinc (pc := 61) C dX11_covers_61 5 rfl rfl (by decide) ex4_13 (ls' := [(4, .int x4_13), (3, .int 0), (5, .int r_5), (0, .ref (gad 50 0)), (1, .int x1), (2, .int x2)]) rfl ?_
            refine r_goto (pc := 64) (tgt := 16) C dX11_covers_64 rfl ?_
            refine r_sub C [3, 4, 5, 1, 0] (ls' := [(0, .ref (gad 50 0)), (1, .int x1), (2, .int x2), (3, .int 0), (4, .int x4_13)]) rfl ?_
            exact hn (0, x4_13) (gSome hr)
          · replace hr := (if_neg c_12).symm.trans hr
            refine r_iconst (pc := 55) C dX11_covers_55 ki1 ?_
            refine r_goto (pc := 56) (tgt := 60) C dX11_covers_56 rfl ?_
            refine r_istore_n (pc := 60) C dX11_covers_60 rfl (by decide) rfl (ls' := [(3, .int 1), (5, .int r_5), (0, .ref (gad 50 0)), (1, .int x1), (2, .int x2), (4, .int x4)]) rfl ?_
            obtain ⟨x4_14, ex4_14, hr⟩ := gLet_some hr
            refine r_iinc (pc := 61) C dX11_covers_61 5 rfl rfl (by decide) ex4_14 (ls' := [(4, .int x4_14), (3, .int 1), (5, .int r_5), (0, .ref (gad 50 0)), (1, .int x1), (2, .int x2)]) rfl ?_
            refine r_goto (pc := 64) (tgt := 16) C dX11_covers_64 rfl ?_
            refine r_sub C [3, 4, 5, 1, 0] (ls' := [(0, .ref (gad 50 0)), (1, .int x1), (2, .int x2), (3, .int 1), (4, .int x4_14)]) rfl ?_
            exact hn (1, x4_14) (gSome hr)
noncomputable def X11_covers (p1 : Int32) (p2 : Int32) (M : gM) : Option Int32 := (if (M.1 50 0 31) = 0 then (gIter (fun s => X11_covers_L16 p1 p2 s.1 s.2 M) FU (1, 0)).bind (fun x3_17 => gG (gb x3_17) (some x3_17)) else (gIter (fun s => X11_covers_L16 p1 p2 s.1 s.2 M) FU (0, 0)).bind (fun x3_15 => gG (gb x3_15) (some x3_15)))
theorem k_X11_covers {G : gG5} {nf : Nat} {M : gM} {p1 : Int32} {p2 : Int32} {r : Int32} (hr : X11_covers p1 p2 M = some r) : gMet G (gXn nf) yX11_covers cX11_covers 6 (some .boolean) 1 25 M [.ref (gad 50 0), .int p1, .int p2] (some (.int r)) M := by
  refine gMet_of pl_X11 rfl (Nat.le_of_ble_eq_true rfl) (fun Ψ C CR => ?_)
  show Ψ M 0 [(0, .ref (gad 50 0)), (1, .int p1), (2, .int p2)] []
  refine r_aload_n (pc := 0) C dX11_covers_0 rfl 0 rfl ?_
  refine g50_31 (pc := 1) C dX11_covers_1 q1431 (e50 nf) ?_
  refine r_if_ne (pc := 4) (tgt := 11) C dX11_covers_4 rfl (fun c_1 => ?_) (fun c_1 => ?_)
  · replace hr := (if_neg c_1).symm.trans hr
    refine r_iconst (pc := 11) C dX11_covers_11 ki0 ?_
    refine r_istore_n (pc := 12) C dX11_covers_12 rfl (by decide) rfl (ls' := [(3, .int 0), (0, .ref (gad 50 0)), (1, .int p1), (2, .int p2)]) rfl ?_
    refine r_iconst (pc := 13) C dX11_covers_13 ki0 ?_
    refine r_istore (pc := 14) C dX11_covers_14 (by decide) rfl (ls' := [(4, .int 0), (3, .int 0), (0, .ref (gad 50 0)), (1, .int p1), (2, .int p2)]) rfl ?_
    refine r_sub C [2, 3, 4, 1, 0] (ls' := [(0, .ref (gad 50 0)), (1, .int p1), (2, .int p2), (3, .int 0), (4, .int 0)]) rfl ?_
    obtain ⟨ev, hit, hr⟩ := gBind_some hr
    refine gIter_V (step := fun s => X11_covers_L16 p1 p2 s.1 s.2 M) (P := fun s => Ψ M 16 [(0, .ref (gad 50 0)), (1, .int p1), (2, .int p2), (3, .int (s.1)), (4, .int (s.2))] []) (K := (fun e => Ψ M 67 [(3, .int e)] [])) (fun s w hs hn hx => t_X11_covers_L16 C  hs hn hx) FU (0, 0) ev hit ?_
    obtain ⟨x3_15, rfl⟩ : ∃ z, z = ev := ⟨_, rfl⟩
    show Ψ M 67 [(3, .int x3_15)] []
    refine r_iload_n (pc := 67) C dX11_covers_67 rfl 0 rfl ?_
    obtain ⟨g_16, hr⟩ := gG_some hr
    exact r_zret (pc := 68) CR dX11_covers_68 (gb_nar g_16) (congrArg (fun z => some (Value.int z)) (gSome hr)) rfl
  · replace hr := (if_pos c_1).symm.trans hr
    refine r_iconst (pc := 7) C dX11_covers_7 ki1 ?_
    refine r_goto (pc := 8) (tgt := 12) C dX11_covers_8 rfl ?_
    refine r_istore_n (pc := 12) C dX11_covers_12 rfl (by decide) rfl (ls' := [(3, .int 1), (0, .ref (gad 50 0)), (1, .int p1), (2, .int p2)]) rfl ?_
    refine r_iconst (pc := 13) C dX11_covers_13 ki0 ?_
    refine r_istore (pc := 14) C dX11_covers_14 (by decide) rfl (ls' := [(4, .int 0), (3, .int 1), (0, .ref (gad 50 0)), (1, .int p1), (2, .int p2)]) rfl ?_
    refine r_sub C [2, 3, 4, 1, 0] (ls' := [(0, .ref (gad 50 0)), (1, .int p1), (2, .int p2), (3, .int 1), (4, .int 0)]) rfl ?_
    obtain ⟨ev, hit, hr⟩ := gBind_some hr
    refine gIter_V (step := fun s => X11_covers_L16 p1 p2 s.1 s.2 M) (P := fun s => Ψ M 16 [(0, .ref (gad 50 0)), (1, .int p1), (2, .int p2), (3, .int (s.1)), (4, .int (s.2))] []) (K := (fun e => Ψ M 67 [(3, .int e)] [])) (fun s w hs hn hx => t_X11_covers_L16 C  hs hn hx) FU (1, 0) ev hit ?_
    obtain ⟨x3_17, rfl⟩ : ∃ z, z = ev := ⟨_, rfl⟩
    show Ψ M 67 [(3, .int x3_17)] []
    refine r_iload_n (pc := 67) C dX11_covers_67 rfl 0 rfl ?_
    obtain ⟨g_18, hr⟩ := gG_some hr
    exact r_zret (pc := 68) CR dX11_covers_68 (gb_nar g_18) (congrArg (fun z => some (Value.int z)) (gSome hr)) rfl
theorem c_X11_covers {Ψ : gM → Nat → List (Nat × Value) → List Value → Prop} {G : gG5} {nf : Nat} {cc : ByteArray} {own : String} {nL : Nat} {ret : Option FieldType} {fr lo : Nat} {v0 : Option Value} {M0 M : gM} {pc index : Nat} {ls : List (Nat × Value)} {st : List Value} (C : gC Ψ G (gXn nf) cc own nL ret fr lo v0 M0) (d : decode cc pc = .ok (.invokevirtual index, 3)) (hl : Cond.methodLink own index yX11_covers ∈ gws) (hR : 2 ≤ fr ∧ 50 ≤ lo) {p1 : Int32} {p2 : Int32} {r : Int32} (hr : X11_covers p1 p2 M = some r) (hcat : (st.map fun v => v.category).sum ≤ 8) (k : Ψ M (pc + 3) ls (.int r :: st)) : Ψ M pc ls (.int p2 :: .int p1 :: .ref (gad 50 0) :: st) := r_callV C [.int p1, .int p2] st d (k_X11_covers hr) hl q1745 q75 q127 q1746 hd_X11_covers hR rfl (by decide) (e50 nf) rfl hcat k
theorem hd_X11_depthAt : yX11_depthAt.cls ≠ "java/lang/invoke/MethodHandle" ∧ yX11_depthAt.cls ≠ "java/lang/invoke/VarHandle" ∧ (parseMethodDescriptor yX11_depthAt.desc).map (fun d => d.parameters.length) = some 2 := by decide +kernel
noncomputable def X11_depthAt (p1 : Int32) (p2 : Int32) (M : gM) : Option Int32 := (X11_sum 1 p1 p2 M).bind (fun r_2 => (X11_sum 2 p1 p2 M).bind (fun r_4 => (X11_sum 0 p1 p2 M).bind (fun r_6 => gLet (((((Int32.toInt64 (M.1 52 14 0)) * (Int32.toInt64 r_2)) + ((Int32.toInt64 (M.1 52 14 1)) * (Int32.toInt64 r_4))) + ((Int32.toInt64 (M.1 52 14 2)) * (Int32.toInt64 r_6)))) (fun x3_7 => (if 0 ≤ (M.1 50 0 28) then (X11_down x3_7 (Int32.toInt64 (M.1 50 0 28)) M).bind (fun r_10 => some r_10) else (X11_down x3_7 (Int32.toInt64 (-(M.1 50 0 28))) M).bind (fun r_12 => some r_12))))))
theorem k_X11_depthAt {G : gG5} {nf : Nat} {M : gM} {p1 : Int32} {p2 : Int32} {r : Int32} (hr : X11_depthAt p1 p2 M = some r) : gMet G (gXn nf) yX11_depthAt cX11_depthAt 5 (some .int) 1 25 M [.ref (gad 50 0), .int p1, .int p2] (some (.int r)) M := by
  refine gMet_of pl_X11 rfl (Nat.le_of_ble_eq_true rfl) (fun Ψ C CR => ?_)
  show Ψ M 0 [(0, .ref (gad 50 0)), (1, .int p1), (2, .int p2)] []
  refine r_aload_n (pc := 0) C dX11_depthAt_0 rfl 0 rfl ?_
  refine g50_27 (pc := 1) C dX11_depthAt_1 q1427 (e50 nf) ?_
  refine r_iconst (pc := 4) C dX11_depthAt_4 ki0 ?_
  refine r_ialdN (pc := 5) C dX11_depthAt_5 rfl (e52 (nf := nf) (by decide)) (by decide : gin 0 3 = true) kc0 ?_
  refine r_i2l (pc := 6) C dX11_depthAt_6 ?_
  refine r_aload_n (pc := 7) C dX11_depthAt_7 rfl 0 rfl ?_
  refine r_iconst (pc := 8) C dX11_depthAt_8 ki1 ?_
  refine r_iload_n (pc := 9) C dX11_depthAt_9 rfl 1 rfl ?_
  refine r_iload_n (pc := 10) C dX11_depthAt_10 rfl 2 rfl ?_
  obtain ⟨r_2, hc_1, hr⟩ := gBind_some hr
  refine c_X11_sum (pc := 11) C dX11_depthAt_11 q1656 ⟨Nat.le_of_ble_eq_true rfl, Nat.le_of_ble_eq_true rfl⟩ hc_1 (Nat.le_of_ble_eq_true rfl) ?_
  refine r_i2l (pc := 14) C dX11_depthAt_14 ?_
  refine r_lmul (pc := 15) C dX11_depthAt_15 ?_
  refine r_aload_n (pc := 16) C dX11_depthAt_16 rfl 0 rfl ?_
  refine g50_27 (pc := 17) C dX11_depthAt_17 q1427 (e50 nf) ?_
  refine r_iconst (pc := 20) C dX11_depthAt_20 ki1 ?_
  refine r_ialdN (pc := 21) C dX11_depthAt_21 rfl (e52 (nf := nf) (by decide)) (by decide : gin 1 3 = true) kc1 ?_
  refine r_i2l (pc := 22) C dX11_depthAt_22 ?_
  refine r_aload_n (pc := 23) C dX11_depthAt_23 rfl 0 rfl ?_
  refine r_iconst (pc := 24) C dX11_depthAt_24 ki2 ?_
  refine r_iload_n (pc := 25) C dX11_depthAt_25 rfl 1 rfl ?_
  refine r_iload_n (pc := 26) C dX11_depthAt_26 rfl 2 rfl ?_
  obtain ⟨r_4, hc_3, hr⟩ := gBind_some hr
  refine c_X11_sum (pc := 27) C dX11_depthAt_27 q1656 ⟨Nat.le_of_ble_eq_true rfl, Nat.le_of_ble_eq_true rfl⟩ hc_3 (Nat.le_of_ble_eq_true rfl) ?_
  refine r_i2l (pc := 30) C dX11_depthAt_30 ?_
  refine r_lmul (pc := 31) C dX11_depthAt_31 ?_
  refine r_ladd (pc := 32) C dX11_depthAt_32 ?_
  refine r_aload_n (pc := 33) C dX11_depthAt_33 rfl 0 rfl ?_
  refine g50_27 (pc := 34) C dX11_depthAt_34 q1427 (e50 nf) ?_
  refine r_iconst (pc := 37) C dX11_depthAt_37 ki2 ?_
  refine r_ialdN (pc := 38) C dX11_depthAt_38 rfl (e52 (nf := nf) (by decide)) (by decide : gin 2 3 = true) kc2 ?_
  refine r_i2l (pc := 39) C dX11_depthAt_39 ?_
  refine r_aload_n (pc := 40) C dX11_depthAt_40 rfl 0 rfl ?_
  refine r_iconst (pc := 41) C dX11_depthAt_41 ki0 ?_
  refine r_iload_n (pc := 42) C dX11_depthAt_42 rfl 1 rfl ?_
  refine r_iload_n (pc := 43) C dX11_depthAt_43 rfl 2 rfl ?_
  obtain ⟨r_6, hc_5, hr⟩ := gBind_some hr
  refine c_X11_sum (pc := 44) C dX11_depthAt_44 q1656 ⟨Nat.le_of_ble_eq_true rfl, Nat.le_of_ble_eq_true rfl⟩ hc_5 (Nat.le_of_ble_eq_true rfl) ?_
  refine r_i2l (pc := 47) C dX11_depthAt_47 ?_
  refine r_lmul (pc := 48) C dX11_depthAt_48 ?_
  refine r_ladd (pc := 49) C dX11_depthAt_49 ?_
  obtain ⟨x3_7, ex3_7, hr⟩ := gLet_some hr
  refine r_lstore_n (pc := 50) C dX11_depthAt_50 rfl (by decide) ex3_7 (ls' := [(3, .long x3_7), (0, .ref (gad 50 0)), (1, .int p1), (2, .int p2)]) rfl ?_
  refine r_lload_n (pc := 51) C dX11_depthAt_51 rfl 0 rfl ?_
  refine r_aload_n (pc := 52) C dX11_depthAt_52 rfl 1 rfl ?_
  refine g50_28 (pc := 53) C dX11_depthAt_53 q1428 (e50 nf) ?_
  refine r_if_ge (pc := 56) (tgt := 68) C dX11_depthAt_56 rfl (fun c_8 => ?_) (fun c_8 => ?_)
  · replace hr := (if_pos c_8).symm.trans hr
    refine r_aload_n (pc := 68) C dX11_depthAt_68 rfl 1 rfl ?_
    refine g50_28 (pc := 69) C dX11_depthAt_69 q1428 (e50 nf) ?_
    refine r_i2l (pc := 72) C dX11_depthAt_72 ?_
    obtain ⟨r_10, hc_9, hr⟩ := gBind_some hr
    refine c_X11_down (pc := 73) C dX11_depthAt_73 q1755 ⟨Nat.le_of_ble_eq_true rfl, Nat.le_of_ble_eq_true rfl⟩ hc_9 (Nat.le_of_ble_eq_true rfl) ?_
    exact r_iret (pc := 76) CR dX11_depthAt_76 (congrArg (fun z => some (Value.int z)) (gSome hr)) rfl
  · replace hr := (if_neg c_8).symm.trans hr
    refine r_aload_n (pc := 59) C dX11_depthAt_59 rfl 1 rfl ?_
    refine g50_28 (pc := 60) C dX11_depthAt_60 q1428 (e50 nf) ?_
    refine r_ineg (pc := 63) C dX11_depthAt_63 ?_
    refine r_i2l (pc := 64) C dX11_depthAt_64 ?_
    refine r_goto (pc := 65) (tgt := 73) C dX11_depthAt_65 rfl ?_
    obtain ⟨r_12, hc_11, hr⟩ := gBind_some hr
    refine c_X11_down (pc := 73) C dX11_depthAt_73 q1755 ⟨Nat.le_of_ble_eq_true rfl, Nat.le_of_ble_eq_true rfl⟩ hc_11 (Nat.le_of_ble_eq_true rfl) ?_
    exact r_iret (pc := 76) CR dX11_depthAt_76 (congrArg (fun z => some (Value.int z)) (gSome hr)) rfl
theorem c_X11_depthAt {Ψ : gM → Nat → List (Nat × Value) → List Value → Prop} {G : gG5} {nf : Nat} {cc : ByteArray} {own : String} {nL : Nat} {ret : Option FieldType} {fr lo : Nat} {v0 : Option Value} {M0 M : gM} {pc index : Nat} {ls : List (Nat × Value)} {st : List Value} (C : gC Ψ G (gXn nf) cc own nL ret fr lo v0 M0) (d : decode cc pc = .ok (.invokevirtual index, 3)) (hl : Cond.methodLink own index yX11_depthAt ∈ gws) (hR : 2 ≤ fr ∧ 49 ≤ lo) {p1 : Int32} {p2 : Int32} {r : Int32} (hr : X11_depthAt p1 p2 M = some r) (hcat : (st.map fun v => v.category).sum ≤ 8) (k : Ψ M (pc + 3) ls (.int r :: st)) : Ψ M pc ls (.int p2 :: .int p1 :: .ref (gad 50 0) :: st) := r_callV C [.int p1, .int p2] st d (k_X11_depthAt hr) hl q1753 q77 q127 q1754 hd_X11_depthAt hR rfl (by decide) (e50 nf) rfl hcat k
theorem hd_X11_shadeOf : yX11_shadeOf.cls ≠ "java/lang/invoke/MethodHandle" ∧ yX11_shadeOf.cls ≠ "java/lang/invoke/VarHandle" ∧ (parseMethodDescriptor yX11_shadeOf.desc).map (fun d => d.parameters.length) = some 3 := by decide +kernel
noncomputable def X11_shadeOf (p1 : Int32) (p2 : Int32) (p3 : Int32) (M : gM) : Option Int32 := gG (gin ((12 * p1) + 9) 120) (gLet ((M.1 52 4 (Int32.toNatClampNeg ((12 * p1) + 9)))) (fun x4_2 => gG (gin ((12 * p1) + 11) 120) ((if (M.1 52 4 (Int32.toNatClampNeg ((12 * p1) + 11))) = 0 then (if 0 ≤ x4_2 then (if x4_2 ≤ 255 then some x4_2 else some 255) else some 0) else if (M.1 52 4 (Int32.toNatClampNeg ((12 * p1) + 11))) = 1 then (if (gRem (p2 + p3) 2) = 0 then (if 0 ≤ x4_2 then (if x4_2 ≤ 255 then some x4_2 else some 255) else some 0) else gLet ((255 - x4_2)) (fun x5_8 => (if 0 ≤ x5_8 then (if x5_8 ≤ 255 then some x5_8 else some 255) else some 0))) else if (M.1 52 4 (Int32.toNatClampNeg ((12 * p1) + 11))) = 2 then (if (gRem p3 2) = 0 then (if 0 ≤ x4_2 then (if x4_2 ≤ 255 then some x4_2 else some 255) else some 0) else gLet ((x4_2 / 2)) (fun x5_14 => (if 0 ≤ x5_14 then (if x5_14 ≤ 255 then some x5_14 else some 255) else some 0))) else (X11_depthAt ((8 * p2) + 4) ((8 * p3) + 4) M).bind (fun r_20 => (X11_down (Int32.toInt64 r_20) 4 M).bind (fun r_22 => gLet ((x4_2 - r_22)) (fun x5_23 => (if 0 ≤ x5_23 then (if x5_23 ≤ 255 then some x5_23 else some 255) else some 0))))))))
theorem k_X11_shadeOf {G : gG5} {nf : Nat} {M : gM} {p1 : Int32} {p2 : Int32} {p3 : Int32} {r : Int32} (hr : X11_shadeOf p1 p2 p3 M = some r) : gMet G (gXn nf) yX11_shadeOf cX11_shadeOf 6 (some .int) 2 49 M [.ref (gad 50 0), .int p1, .int p2, .int p3] (some (.int r)) M := by
  refine gMet_of pl_X11 rfl (Nat.le_of_ble_eq_true rfl) (fun Ψ C CR => ?_)
  show Ψ M 0 [(0, .ref (gad 50 0)), (1, .int p1), (2, .int p2), (3, .int p3)] []
  refine r_aload_n (pc := 0) C dX11_shadeOf_0 rfl 0 rfl ?_
  refine g50_11 (pc := 1) C dX11_shadeOf_1 q1411 (e50 nf) ?_
  refine r_bipush (pc := 4) C dX11_shadeOf_4 kb12 ?_
  refine r_iload_n (pc := 6) C dX11_shadeOf_6 rfl 1 rfl ?_
  refine r_imul (pc := 7) C dX11_shadeOf_7 ?_
  refine r_bipush (pc := 8) C dX11_shadeOf_8 kb9 ?_
  refine r_iadd (pc := 10) C dX11_shadeOf_10 ?_
  obtain ⟨g_1, hr⟩ := gG_some hr
  refine r_ialdN (pc := 11) C dX11_shadeOf_11 rfl (e52 (nf := nf) (by decide)) g_1 rfl ?_
  obtain ⟨x4_2, ex4_2, hr⟩ := gLet_some hr
  refine r_istore (pc := 12) C dX11_shadeOf_12 (by decide) ex4_2 (ls' := [(4, .int x4_2), (0, .ref (gad 50 0)), (1, .int p1), (2, .int p2), (3, .int p3)]) rfl ?_
  refine r_iload (pc := 14) C dX11_shadeOf_14 0 rfl ?_
  refine r_istore (pc := 16) C dX11_shadeOf_16 (by decide) rfl (ls' := [(5, .int x4_2), (4, .int x4_2), (0, .ref (gad 50 0)), (1, .int p1), (2, .int p2), (3, .int p3)]) rfl ?_
  refine r_aload_n (pc := 18) C dX11_shadeOf_18 rfl 2 rfl ?_
  refine g50_11 (pc := 19) C dX11_shadeOf_19 q1411 (e50 nf) ?_
  refine r_bipush (pc := 22) C dX11_shadeOf_22 kb12 ?_
  refine r_iload_n (pc := 24) C dX11_shadeOf_24 rfl 3 rfl ?_
  refine r_imul (pc := 25) C dX11_shadeOf_25 ?_
  refine r_bipush (pc := 26) C dX11_shadeOf_26 kb11 ?_
  refine r_iadd (pc := 28) C dX11_shadeOf_28 ?_
  obtain ⟨g_3, hr⟩ := gG_some hr
  refine r_ialdN (pc := 29) C dX11_shadeOf_29 rfl (e52 (nf := nf) (by decide)) g_3 rfl ?_
  by_cases c_4_0 : (M.1 52 4 (Int32.toNatClampNeg ((12 * p1) + 11))) = 0
  · replace hr := (if_pos c_4_0).symm.trans hr
    refine r_tableIn (pc := 30) (tgt := 56) (off := 26) C dX11_shadeOf_30 0 c_4_0 (by decide) rfl ?_
    refine r_goto (pc := 56) (tgt := 131) C dX11_shadeOf_56 rfl ?_
    refine r_iload (pc := 131) C dX11_shadeOf_131 0 rfl ?_
    refine r_if_ge (pc := 133) (tgt := 140) C dX11_shadeOf_133 rfl (fun c_5 => ?_) (fun c_5 => ?_)
    · replace hr := (if_pos c_5).symm.trans hr
      refine r_iload (pc := 140) C dX11_shadeOf_140 0 rfl ?_
      refine r_sipush (pc := 142) C dX11_shadeOf_142 ks255 ?_
      refine r_icmp_le (pc := 145) (tgt := 154) C dX11_shadeOf_145 rfl (fun c_6 => ?_) (fun c_6 => ?_)
      · replace hr := (if_pos c_6).symm.trans hr
        refine r_iload (pc := 154) C dX11_shadeOf_154 0 rfl ?_
        exact r_iret (pc := 156) CR dX11_shadeOf_156 (congrArg (fun z => some (Value.int z)) (gSome hr)) rfl
      · replace hr := (if_neg c_6).symm.trans hr
        refine r_sipush (pc := 148) C dX11_shadeOf_148 ks255 ?_
        refine r_goto (pc := 151) (tgt := 156) C dX11_shadeOf_151 rfl ?_
        exact r_iret (pc := 156) CR dX11_shadeOf_156 (congrArg (fun z => some (Value.int z)) (gSome hr)) rfl
    · replace hr := (if_neg c_5).symm.trans hr
      refine r_iconst (pc := 136) C dX11_shadeOf_136 ki0 ?_
      refine r_goto (pc := 137) (tgt := 156) C dX11_shadeOf_137 rfl ?_
      exact r_iret (pc := 156) CR dX11_shadeOf_156 (congrArg (fun z => some (Value.int z)) (gSome hr)) rfl
  replace hr := (if_neg c_4_0).symm.trans hr
  by_cases c_4_1 : (M.1 52 4 (Int32.toNatClampNeg ((12 * p1) + 11))) = 1
  · replace hr := (if_pos c_4_1).symm.trans hr
    refine r_tableIn (pc := 30) (tgt := 59) (off := 29) C dX11_shadeOf_30 1 c_4_1 (by decide) rfl ?_
    refine r_iload_n (pc := 59) C dX11_shadeOf_59 rfl 4 rfl ?_
    refine r_iload_n (pc := 60) C dX11_shadeOf_60 rfl 5 rfl ?_
    refine r_iadd (pc := 61) C dX11_shadeOf_61 ?_
    refine r_iconst (pc := 62) C dX11_shadeOf_62 ki2 ?_
    refine r_irem (pc := 63) C dX11_shadeOf_63 (by decide) ?_
    refine r_if_ne (pc := 64) (tgt := 72) C dX11_shadeOf_64 rfl (fun c_7 => ?_) (fun c_7 => ?_)
    · replace hr := (if_neg c_7).symm.trans hr
      refine r_sipush (pc := 72) C dX11_shadeOf_72 ks255 ?_
      refine r_iload (pc := 75) C dX11_shadeOf_75 1 rfl ?_
      refine r_isub (pc := 77) C dX11_shadeOf_77 ?_
      obtain ⟨x5_8, ex5_8, hr⟩ := gLet_some hr
      refine r_istore (pc := 78) C dX11_shadeOf_78 (by decide) ex5_8 (ls' := [(5, .int x5_8), (4, .int x4_2), (0, .ref (gad 50 0)), (1, .int p1), (2, .int p2), (3, .int p3)]) rfl ?_
      refine r_goto (pc := 80) (tgt := 131) C dX11_shadeOf_80 rfl ?_
      refine r_iload (pc := 131) C dX11_shadeOf_131 0 rfl ?_
      refine r_if_ge (pc := 133) (tgt := 140) C dX11_shadeOf_133 rfl (fun c_9 => ?_) (fun c_9 => ?_)
      · replace hr := (if_pos c_9).symm.trans hr
        refine r_iload (pc := 140) C dX11_shadeOf_140 0 rfl ?_
        refine r_sipush (pc := 142) C dX11_shadeOf_142 ks255 ?_
        refine r_icmp_le (pc := 145) (tgt := 154) C dX11_shadeOf_145 rfl (fun c_10 => ?_) (fun c_10 => ?_)
        · replace hr := (if_pos c_10).symm.trans hr
          refine r_iload (pc := 154) C dX11_shadeOf_154 0 rfl ?_
          exact r_iret (pc := 156) CR dX11_shadeOf_156 (congrArg (fun z => some (Value.int z)) (gSome hr)) rfl
        · replace hr := (if_neg c_10).symm.trans hr
          refine r_sipush (pc := 148) C dX11_shadeOf_148 ks255 ?_
          refine r_goto (pc := 151) (tgt := 156) C dX11_shadeOf_151 rfl ?_
          exact r_iret (pc := 156) CR dX11_shadeOf_156 (congrArg (fun z => some (Value.int z)) (gSome hr)) rfl
      · replace hr := (if_neg c_9).symm.trans hr
        refine r_iconst (pc := 136) C dX11_shadeOf_136 ki0 ?_
        refine r_goto (pc := 137) (tgt := 156) C dX11_shadeOf_137 rfl ?_
        exact r_iret (pc := 156) CR dX11_shadeOf_156 (congrArg (fun z => some (Value.int z)) (gSome hr)) rfl
    · replace hr := (if_pos c_7).symm.trans hr
      refine r_iload (pc := 67) C dX11_shadeOf_67 1 rfl ?_
      refine r_goto (pc := 69) (tgt := 78) C dX11_shadeOf_69 rfl ?_
      refine r_istore (pc := 78) C dX11_shadeOf_78 (by decide) rfl (ls' := [(5, .int x4_2), (4, .int x4_2), (0, .ref (gad 50 0)), (1, .int p1), (2, .int p2), (3, .int p3)]) rfl ?_
      refine r_goto (pc := 80) (tgt := 131) C dX11_shadeOf_80 rfl ?_
      refine r_iload (pc := 131) C dX11_shadeOf_131 0 rfl ?_
      refine r_if_ge (pc := 133) (tgt := 140) C dX11_shadeOf_133 rfl (fun c_11 => ?_) (fun c_11 => ?_)
      · replace hr := (if_pos c_11).symm.trans hr
        refine r_iload (pc := 140) C dX11_shadeOf_140 0 rfl ?_
        refine r_sipush (pc := 142) C dX11_shadeOf_142 ks255 ?_
        refine r_icmp_le (pc := 145) (tgt := 154) C dX11_shadeOf_145 rfl (fun c_12 => ?_) (fun c_12 => ?_)
        · replace hr := (if_pos c_12).symm.trans hr
          refine r_iload (pc := 154) C dX11_shadeOf_154 0 rfl ?_
          exact r_iret (pc := 156) CR dX11_shadeOf_156 (congrArg (fun z => some (Value.int z)) (gSome hr)) rfl
        · replace hr := (if_neg c_12).symm.trans hr
          refine r_sipush (pc := 148) C dX11_shadeOf_148 ks255 ?_
          refine r_goto (pc := 151) (tgt := 156) C dX11_shadeOf_151 rfl ?_
          exact r_iret (pc := 156) CR dX11_shadeOf_156 (congrArg (fun z => some (Value.int z)) (gSome hr)) rfl
      · replace hr := (if_neg c_11).symm.trans hr
        refine r_iconst (pc := 136) C dX11_shadeOf_136 ki0 ?_
        refine r_goto (pc := 137) (tgt := 156) C dX11_shadeOf_137 rfl ?_
        exact r_iret (pc := 156) CR dX11_shadeOf_156 (congrArg (fun z => some (Value.int z)) (gSome hr)) rfl
  replace hr := (if_neg c_4_1).symm.trans hr
  by_cases c_4_2 : (M.1 52 4 (Int32.toNatClampNeg ((12 * p1) + 11))) = 2
  · replace hr := (if_pos c_4_2).symm.trans hr
    refine r_tableIn (pc := 30) (tgt := 83) (off := 53) C dX11_shadeOf_30 2 c_4_2 (by decide) rfl ?_
    refine r_iload_n (pc := 83) C dX11_shadeOf_83 rfl 5 rfl ?_
    refine r_iconst (pc := 84) C dX11_shadeOf_84 ki2 ?_
    refine r_irem (pc := 85) C dX11_shadeOf_85 (by decide) ?_
    refine r_if_ne (pc := 86) (tgt := 94) C dX11_shadeOf_86 rfl (fun c_13 => ?_) (fun c_13 => ?_)
    · replace hr := (if_neg c_13).symm.trans hr
      refine r_iload (pc := 94) C dX11_shadeOf_94 1 rfl ?_
      refine r_iconst (pc := 96) C dX11_shadeOf_96 ki2 ?_
      refine r_idiv (pc := 97) C dX11_shadeOf_97 (by decide) ?_
      obtain ⟨x5_14, ex5_14, hr⟩ := gLet_some hr
      refine r_istore (pc := 98) C dX11_shadeOf_98 (by decide) ex5_14 (ls' := [(5, .int x5_14), (4, .int x4_2), (0, .ref (gad 50 0)), (1, .int p1), (2, .int p2), (3, .int p3)]) rfl ?_
      refine r_goto (pc := 100) (tgt := 131) C dX11_shadeOf_100 rfl ?_
      refine r_iload (pc := 131) C dX11_shadeOf_131 0 rfl ?_
      refine r_if_ge (pc := 133) (tgt := 140) C dX11_shadeOf_133 rfl (fun c_15 => ?_) (fun c_15 => ?_)
      · replace hr := (if_pos c_15).symm.trans hr
        refine r_iload (pc := 140) C dX11_shadeOf_140 0 rfl ?_
        refine r_sipush (pc := 142) C dX11_shadeOf_142 ks255 ?_
        refine r_icmp_le (pc := 145) (tgt := 154) C dX11_shadeOf_145 rfl (fun c_16 => ?_) (fun c_16 => ?_)
        · replace hr := (if_pos c_16).symm.trans hr
          refine r_iload (pc := 154) C dX11_shadeOf_154 0 rfl ?_
          exact r_iret (pc := 156) CR dX11_shadeOf_156 (congrArg (fun z => some (Value.int z)) (gSome hr)) rfl
        · replace hr := (if_neg c_16).symm.trans hr
          refine r_sipush (pc := 148) C dX11_shadeOf_148 ks255 ?_
          refine r_goto (pc := 151) (tgt := 156) C dX11_shadeOf_151 rfl ?_
          exact r_iret (pc := 156) CR dX11_shadeOf_156 (congrArg (fun z => some (Value.int z)) (gSome hr)) rfl
      · replace hr := (if_neg c_15).symm.trans hr
        refine r_iconst (pc := 136) C dX11_shadeOf_136 ki0 ?_
        refine r_goto (pc := 137) (tgt := 156) C dX11_shadeOf_137 rfl ?_
        exact r_iret (pc := 156) CR dX11_shadeOf_156 (congrArg (fun z => some (Value.int z)) (gSome hr)) rfl
    · replace hr := (if_pos c_13).symm.trans hr
      refine r_iload (pc := 89) C dX11_shadeOf_89 1 rfl ?_
      refine r_goto (pc := 91) (tgt := 98) C dX11_shadeOf_91 rfl ?_
      refine r_istore (pc := 98) C dX11_shadeOf_98 (by decide) rfl (ls' := [(5, .int x4_2), (4, .int x4_2), (0, .ref (gad 50 0)), (1, .int p1), (2, .int p2), (3, .int p3)]) rfl ?_
      refine r_goto (pc := 100) (tgt := 131) C dX11_shadeOf_100 rfl ?_
      refine r_iload (pc := 131) C dX11_shadeOf_131 0 rfl ?_
      refine r_if_ge (pc := 133) (tgt := 140) C dX11_shadeOf_133 rfl (fun c_17 => ?_) (fun c_17 => ?_)
      · replace hr := (if_pos c_17).symm.trans hr
        refine r_iload (pc := 140) C dX11_shadeOf_140 0 rfl ?_
        refine r_sipush (pc := 142) C dX11_shadeOf_142 ks255 ?_
        refine r_icmp_le (pc := 145) (tgt := 154) C dX11_shadeOf_145 rfl (fun c_18 => ?_) (fun c_18 => ?_)
        · replace hr := (if_pos c_18).symm.trans hr
          refine r_iload (pc := 154) C dX11_shadeOf_154 0 rfl ?_
          exact r_iret (pc := 156) CR dX11_shadeOf_156 (congrArg (fun z => some (Value.int z)) (gSome hr)) rfl
        · replace hr := (if_neg c_18).symm.trans hr
          refine r_sipush (pc := 148) C dX11_shadeOf_148 ks255 ?_
          refine r_goto (pc := 151) (tgt := 156) C dX11_shadeOf_151 rfl ?_
          exact r_iret (pc := 156) CR dX11_shadeOf_156 (congrArg (fun z => some (Value.int z)) (gSome hr)) rfl
      · replace hr := (if_neg c_17).symm.trans hr
        refine r_iconst (pc := 136) C dX11_shadeOf_136 ki0 ?_
        refine r_goto (pc := 137) (tgt := 156) C dX11_shadeOf_137 rfl ?_
        exact r_iret (pc := 156) CR dX11_shadeOf_156 (congrArg (fun z => some (Value.int z)) (gSome hr)) rfl
  replace hr := (if_neg c_4_2).symm.trans hr
  refine r_tableOut (pc := 30) (tgt := 103) C dX11_shadeOf_30 (fun k h1 h2 => ?_) rfl ?_
  · rcases (show k = 0 ∨ k = 1 ∨ k = 2 by omega) with rfl | rfl | rfl
    all_goals assumption
  · refine r_iload (pc := 103) C dX11_shadeOf_103 1 rfl ?_
    refine r_aload_n (pc := 105) C dX11_shadeOf_105 rfl 2 rfl ?_
    refine r_bipush (pc := 106) C dX11_shadeOf_106 kb8 ?_
    refine r_iload_n (pc := 108) C dX11_shadeOf_108 rfl 4 rfl ?_
    refine r_imul (pc := 109) C dX11_shadeOf_109 ?_
    refine r_iconst (pc := 110) C dX11_shadeOf_110 ki4 ?_
    refine r_iadd (pc := 111) C dX11_shadeOf_111 ?_
    refine r_bipush (pc := 112) C dX11_shadeOf_112 kb8 ?_
    refine r_iload_n (pc := 114) C dX11_shadeOf_114 rfl 5 rfl ?_
    refine r_imul (pc := 115) C dX11_shadeOf_115 ?_
    refine r_iconst (pc := 116) C dX11_shadeOf_116 ki4 ?_
    refine r_iadd (pc := 117) C dX11_shadeOf_117 ?_
    obtain ⟨r_20, hc_19, hr⟩ := gBind_some hr
    refine c_X11_depthAt (pc := 118) C dX11_shadeOf_118 q1751 ⟨Nat.le_of_ble_eq_true rfl, Nat.le_of_ble_eq_true rfl⟩ hc_19 (Nat.le_of_ble_eq_true rfl) ?_
    refine r_i2l (pc := 121) C dX11_shadeOf_121 ?_
    refine r_ldc2 (pc := 122) C dX11_shadeOf_122 q1608 ?_
    obtain ⟨r_22, hc_21, hr⟩ := gBind_some hr
    refine c_X11_down (pc := 125) C dX11_shadeOf_125 q1755 ⟨Nat.le_of_ble_eq_true rfl, Nat.le_of_ble_eq_true rfl⟩ hc_21 (Nat.le_of_ble_eq_true rfl) ?_
    refine r_isub (pc := 128) C dX11_shadeOf_128 ?_
    obtain ⟨x5_23, ex5_23, hr⟩ := gLet_some hr
    refine r_istore (pc := 129) C dX11_shadeOf_129 (by decide) ex5_23 (ls' := [(5, .int x5_23), (4, .int x4_2), (0, .ref (gad 50 0)), (1, .int p1), (2, .int p2), (3, .int p3)]) rfl ?_
    refine r_iload (pc := 131) C dX11_shadeOf_131 0 rfl ?_
    refine r_if_ge (pc := 133) (tgt := 140) C dX11_shadeOf_133 rfl (fun c_24 => ?_) (fun c_24 => ?_)
    · replace hr := (if_pos c_24).symm.trans hr
      refine r_iload (pc := 140) C dX11_shadeOf_140 0 rfl ?_
      refine r_sipush (pc := 142) C dX11_shadeOf_142 ks255 ?_
      refine r_icmp_le (pc := 145) (tgt := 154) C dX11_shadeOf_145 rfl (fun c_25 => ?_) (fun c_25 => ?_)
      · replace hr := (if_pos c_25).symm.trans hr
        refine r_iload (pc := 154) C dX11_shadeOf_154 0 rfl ?_
        exact r_iret (pc := 156) CR dX11_shadeOf_156 (congrArg (fun z => some (Value.int z)) (gSome hr)) rfl
      · replace hr := (if_neg c_25).symm.trans hr
        refine r_sipush (pc := 148) C dX11_shadeOf_148 ks255 ?_
        refine r_goto (pc := 151) (tgt := 156) C dX11_shadeOf_151 rfl ?_
        exact r_iret (pc := 156) CR dX11_shadeOf_156 (congrArg (fun z => some (Value.int z)) (gSome hr)) rfl
    · replace hr := (if_neg c_24).symm.trans hr
      refine r_iconst (pc := 136) C dX11_shadeOf_136 ki0 ?_
      refine r_goto (pc := 137) (tgt := 156) C dX11_shadeOf_137 rfl ?_
      exact r_iret (pc := 156) CR dX11_shadeOf_156 (congrArg (fun z => some (Value.int z)) (gSome hr)) rfl
theorem c_X11_shadeOf {Ψ : gM → Nat → List (Nat × Value) → List Value → Prop} {G : gG5} {nf : Nat} {cc : ByteArray} {own : String} {nL : Nat} {ret : Option FieldType} {fr lo : Nat} {v0 : Option Value} {M0 M : gM} {pc index : Nat} {ls : List (Nat × Value)} {st : List Value} (C : gC Ψ G (gXn nf) cc own nL ret fr lo v0 M0) (d : decode cc pc = .ok (.invokevirtual index, 3)) (hl : Cond.methodLink own index yX11_shadeOf ∈ gws) (hR : 3 ≤ fr ∧ 74 ≤ lo) {p1 : Int32} {p2 : Int32} {p3 : Int32} {r : Int32} (hr : X11_shadeOf p1 p2 p3 M = some r) (hcat : (st.map fun v => v.category).sum ≤ 8) (k : Ψ M (pc + 3) ls (.int r :: st)) : Ψ M pc ls (.int p3 :: .int p2 :: .int p1 :: .ref (gad 50 0) :: st) := r_callV C [.int p1, .int p2, .int p3] st d (k_X11_shadeOf hr) hl q1764 q79 q127 q1765 hd_X11_shadeOf hR rfl (by decide) (e50 nf) rfl hcat k
theorem hd_X11_leastZ : yX11_leastZ.cls ≠ "java/lang/invoke/MethodHandle" ∧ yX11_leastZ.cls ≠ "java/lang/invoke/VarHandle" ∧ (parseMethodDescriptor yX11_leastZ.desc).map (fun d => d.parameters.length) = some 0 := by decide +kernel
noncomputable def X11_leastZ (M : gM) : Option Int32 := (if (M.1 52 14 1) ≤ (M.1 52 14 0) then gLet ((M.1 52 14 1)) (fun x1_2 => (if x1_2 ≤ (M.1 52 14 2) then some x1_2 else some (M.1 52 14 2))) else gLet ((M.1 52 14 0)) (fun x1_4 => (if x1_4 ≤ (M.1 52 14 2) then some x1_4 else some (M.1 52 14 2))))
theorem k_X11_leastZ {G : gG5} {nf : Nat} {M : gM} {r : Int32} (hr : X11_leastZ M = some r) : gMet G (gXn nf) yX11_leastZ cX11_leastZ 2 (some .int) 0 0 M [.ref (gad 50 0)] (some (.int r)) M := by
  refine gMet_of pl_X11 rfl (Nat.le_of_ble_eq_true rfl) (fun Ψ C CR => ?_)
  show Ψ M 0 [(0, .ref (gad 50 0))] []
  refine r_aload_n (pc := 0) C dX11_leastZ_0 rfl 0 rfl ?_
  refine g50_27 (pc := 1) C dX11_leastZ_1 q1427 (e50 nf) ?_
  refine r_iconst (pc := 4) C dX11_leastZ_4 ki0 ?_
  refine r_ialdN (pc := 5) C dX11_leastZ_5 rfl (e52 (nf := nf) (by decide)) (by decide : gin 0 3 = true) kc0 ?_
  refine r_aload_n (pc := 6) C dX11_leastZ_6 rfl 0 rfl ?_
  refine g50_27 (pc := 7) C dX11_leastZ_7 q1427 (e50 nf) ?_
  refine r_iconst (pc := 10) C dX11_leastZ_10 ki1 ?_
  refine r_ialdN (pc := 11) C dX11_leastZ_11 rfl (e52 (nf := nf) (by decide)) (by decide : gin 1 3 = true) kc1 ?_
  refine r_icmp_ge (pc := 12) (tgt := 24) C dX11_leastZ_12 rfl (fun c_1 => ?_) (fun c_1 => ?_)
  · replace hr := (if_pos c_1).symm.trans hr
    refine r_aload_n (pc := 24) C dX11_leastZ_24 rfl 0 rfl ?_
    refine g50_27 (pc := 25) C dX11_leastZ_25 q1427 (e50 nf) ?_
    refine r_iconst (pc := 28) C dX11_leastZ_28 ki1 ?_
    refine r_ialdN (pc := 29) C dX11_leastZ_29 rfl (e52 (nf := nf) (by decide)) (by decide : gin 1 3 = true) kc1 ?_
    obtain ⟨x1_2, ex1_2, hr⟩ := gLet_some hr
    refine r_istore_n (pc := 30) C dX11_leastZ_30 rfl (by decide) ex1_2 (ls' := [(1, .int x1_2), (0, .ref (gad 50 0))]) rfl ?_
    refine r_aload_n (pc := 31) C dX11_leastZ_31 rfl 1 rfl ?_
    refine g50_27 (pc := 32) C dX11_leastZ_32 q1427 (e50 nf) ?_
    refine r_iconst (pc := 35) C dX11_leastZ_35 ki2 ?_
    refine r_ialdN (pc := 36) C dX11_leastZ_36 rfl (e52 (nf := nf) (by decide)) (by decide : gin 2 3 = true) kc2 ?_
    refine r_iload_n (pc := 37) C dX11_leastZ_37 rfl 0 rfl ?_
    refine r_icmp_ge (pc := 38) (tgt := 50) C dX11_leastZ_38 rfl (fun c_3 => ?_) (fun c_3 => ?_)
    · replace hr := (if_pos c_3).symm.trans hr
      refine r_iload_n (pc := 50) C dX11_leastZ_50 rfl 0 rfl ?_
      exact r_iret (pc := 51) CR dX11_leastZ_51 (congrArg (fun z => some (Value.int z)) (gSome hr)) rfl
    · replace hr := (if_neg c_3).symm.trans hr
      refine r_aload_n (pc := 41) C dX11_leastZ_41 rfl 1 rfl ?_
      refine g50_27 (pc := 42) C dX11_leastZ_42 q1427 (e50 nf) ?_
      refine r_iconst (pc := 45) C dX11_leastZ_45 ki2 ?_
      refine r_ialdN (pc := 46) C dX11_leastZ_46 rfl (e52 (nf := nf) (by decide)) (by decide : gin 2 3 = true) kc2 ?_
      refine r_goto (pc := 47) (tgt := 51) C dX11_leastZ_47 rfl ?_
      exact r_iret (pc := 51) CR dX11_leastZ_51 (congrArg (fun z => some (Value.int z)) (gSome hr)) rfl
  · replace hr := (if_neg c_1).symm.trans hr
    refine r_aload_n (pc := 15) C dX11_leastZ_15 rfl 0 rfl ?_
    refine g50_27 (pc := 16) C dX11_leastZ_16 q1427 (e50 nf) ?_
    refine r_iconst (pc := 19) C dX11_leastZ_19 ki0 ?_
    refine r_ialdN (pc := 20) C dX11_leastZ_20 rfl (e52 (nf := nf) (by decide)) (by decide : gin 0 3 = true) kc0 ?_
    refine r_goto (pc := 21) (tgt := 30) C dX11_leastZ_21 rfl ?_
    obtain ⟨x1_4, ex1_4, hr⟩ := gLet_some hr
    refine r_istore_n (pc := 30) C dX11_leastZ_30 rfl (by decide) ex1_4 (ls' := [(1, .int x1_4), (0, .ref (gad 50 0))]) rfl ?_
    refine r_aload_n (pc := 31) C dX11_leastZ_31 rfl 1 rfl ?_
    refine g50_27 (pc := 32) C dX11_leastZ_32 q1427 (e50 nf) ?_
    refine r_iconst (pc := 35) C dX11_leastZ_35 ki2 ?_
    refine r_ialdN (pc := 36) C dX11_leastZ_36 rfl (e52 (nf := nf) (by decide)) (by decide : gin 2 3 = true) kc2 ?_
    refine r_iload_n (pc := 37) C dX11_leastZ_37 rfl 0 rfl ?_
    refine r_icmp_ge (pc := 38) (tgt := 50) C dX11_leastZ_38 rfl (fun c_5 => ?_) (fun c_5 => ?_)
    · replace hr := (if_pos c_5).symm.trans hr
      refine r_iload_n (pc := 50) C dX11_leastZ_50 rfl 0 rfl ?_
      exact r_iret (pc := 51) CR dX11_leastZ_51 (congrArg (fun z => some (Value.int z)) (gSome hr)) rfl
    · replace hr := (if_neg c_5).symm.trans hr
      refine r_aload_n (pc := 41) C dX11_leastZ_41 rfl 1 rfl ?_
      refine g50_27 (pc := 42) C dX11_leastZ_42 q1427 (e50 nf) ?_
      refine r_iconst (pc := 45) C dX11_leastZ_45 ki2 ?_
      refine r_ialdN (pc := 46) C dX11_leastZ_46 rfl (e52 (nf := nf) (by decide)) (by decide : gin 2 3 = true) kc2 ?_
      refine r_goto (pc := 47) (tgt := 51) C dX11_leastZ_47 rfl ?_
      exact r_iret (pc := 51) CR dX11_leastZ_51 (congrArg (fun z => some (Value.int z)) (gSome hr)) rfl
theorem c_X11_leastZ {Ψ : gM → Nat → List (Nat × Value) → List Value → Prop} {G : gG5} {nf : Nat} {cc : ByteArray} {own : String} {nL : Nat} {ret : Option FieldType} {fr lo : Nat} {v0 : Option Value} {M0 M : gM} {pc index : Nat} {ls : List (Nat × Value)} {st : List Value} (C : gC Ψ G (gXn nf) cc own nL ret fr lo v0 M0) (d : decode cc pc = .ok (.invokevirtual index, 3)) (hl : Cond.methodLink own index yX11_leastZ ∈ gws) (hR : 1 ≤ fr ∧ 21 ≤ lo) {r : Int32} (hr : X11_leastZ M = some r) (hcat : (st.map fun v => v.category).sum ≤ 8) (k : Ψ M (pc + 3) ls (.int r :: st)) : Ψ M pc ls (.ref (gad 50 0) :: st) := r_callV C [] st d (k_X11_leastZ hr) hl q1719 q70 q127 q1720 hd_X11_leastZ hR rfl (by decide) (e50 nf) rfl hcat k
theorem hd_X11_mostZ : yX11_mostZ.cls ≠ "java/lang/invoke/MethodHandle" ∧ yX11_mostZ.cls ≠ "java/lang/invoke/VarHandle" ∧ (parseMethodDescriptor yX11_mostZ.desc).map (fun d => d.parameters.length) = some 0 := by decide +kernel
noncomputable def X11_mostZ (M : gM) : Option Int32 := (if (M.1 52 14 0) ≤ (M.1 52 14 1) then gLet ((M.1 52 14 1)) (fun x1_2 => (if (M.1 52 14 2) ≤ x1_2 then some x1_2 else some (M.1 52 14 2))) else gLet ((M.1 52 14 0)) (fun x1_4 => (if (M.1 52 14 2) ≤ x1_4 then some x1_4 else some (M.1 52 14 2))))
theorem k_X11_mostZ {G : gG5} {nf : Nat} {M : gM} {r : Int32} (hr : X11_mostZ M = some r) : gMet G (gXn nf) yX11_mostZ cX11_mostZ 2 (some .int) 0 0 M [.ref (gad 50 0)] (some (.int r)) M := by
  refine gMet_of pl_X11 rfl (Nat.le_of_ble_eq_true rfl) (fun Ψ C CR => ?_)
  show Ψ M 0 [(0, .ref (gad 50 0))] []
  refine r_aload_n (pc := 0) C dX11_mostZ_0 rfl 0 rfl ?_
  refine g50_27 (pc := 1) C dX11_mostZ_1 q1427 (e50 nf) ?_
  refine r_iconst (pc := 4) C dX11_mostZ_4 ki0 ?_
  refine r_ialdN (pc := 5) C dX11_mostZ_5 rfl (e52 (nf := nf) (by decide)) (by decide : gin 0 3 = true) kc0 ?_
  refine r_aload_n (pc := 6) C dX11_mostZ_6 rfl 0 rfl ?_
  refine g50_27 (pc := 7) C dX11_mostZ_7 q1427 (e50 nf) ?_
  refine r_iconst (pc := 10) C dX11_mostZ_10 ki1 ?_
  refine r_ialdN (pc := 11) C dX11_mostZ_11 rfl (e52 (nf := nf) (by decide)) (by decide : gin 1 3 = true) kc1 ?_
  refine r_icmp_le (pc := 12) (tgt := 24) C dX11_mostZ_12 rfl (fun c_1 => ?_) (fun c_1 => ?_)
  · replace hr := (if_pos c_1).symm.trans hr
    refine r_aload_n (pc := 24) C dX11_mostZ_24 rfl 0 rfl ?_
    refine g50_27 (pc := 25) C dX11_mostZ_25 q1427 (e50 nf) ?_
    refine r_iconst (pc := 28) C dX11_mostZ_28 ki1 ?_
    refine r_ialdN (pc := 29) C dX11_mostZ_29 rfl (e52 (nf := nf) (by decide)) (by decide : gin 1 3 = true) kc1 ?_
    obtain ⟨x1_2, ex1_2, hr⟩ := gLet_some hr
    refine r_istore_n (pc := 30) C dX11_mostZ_30 rfl (by decide) ex1_2 (ls' := [(1, .int x1_2), (0, .ref (gad 50 0))]) rfl ?_
    refine r_aload_n (pc := 31) C dX11_mostZ_31 rfl 1 rfl ?_
    refine g50_27 (pc := 32) C dX11_mostZ_32 q1427 (e50 nf) ?_
    refine r_iconst (pc := 35) C dX11_mostZ_35 ki2 ?_
    refine r_ialdN (pc := 36) C dX11_mostZ_36 rfl (e52 (nf := nf) (by decide)) (by decide : gin 2 3 = true) kc2 ?_
    refine r_iload_n (pc := 37) C dX11_mostZ_37 rfl 0 rfl ?_
    refine r_icmp_le (pc := 38) (tgt := 50) C dX11_mostZ_38 rfl (fun c_3 => ?_) (fun c_3 => ?_)
    · replace hr := (if_pos c_3).symm.trans hr
      refine r_iload_n (pc := 50) C dX11_mostZ_50 rfl 0 rfl ?_
      exact r_iret (pc := 51) CR dX11_mostZ_51 (congrArg (fun z => some (Value.int z)) (gSome hr)) rfl
    · replace hr := (if_neg c_3).symm.trans hr
      refine r_aload_n (pc := 41) C dX11_mostZ_41 rfl 1 rfl ?_
      refine g50_27 (pc := 42) C dX11_mostZ_42 q1427 (e50 nf) ?_
      refine r_iconst (pc := 45) C dX11_mostZ_45 ki2 ?_
      refine r_ialdN (pc := 46) C dX11_mostZ_46 rfl (e52 (nf := nf) (by decide)) (by decide : gin 2 3 = true) kc2 ?_
      refine r_goto (pc := 47) (tgt := 51) C dX11_mostZ_47 rfl ?_
      exact r_iret (pc := 51) CR dX11_mostZ_51 (congrArg (fun z => some (Value.int z)) (gSome hr)) rfl
  · replace hr := (if_neg c_1).symm.trans hr
    refine r_aload_n (pc := 15) C dX11_mostZ_15 rfl 0 rfl ?_
    refine g50_27 (pc := 16) C dX11_mostZ_16 q1427 (e50 nf) ?_
    refine r_iconst (pc := 19) C dX11_mostZ_19 ki0 ?_
    refine r_ialdN (pc := 20) C dX11_mostZ_20 rfl (e52 (nf := nf) (by decide)) (by decide : gin 0 3 = true) kc0 ?_
    refine r_goto (pc := 21) (tgt := 30) C dX11_mostZ_21 rfl ?_
    obtain ⟨x1_4, ex1_4, hr⟩ := gLet_some hr
    refine r_istore_n (pc := 30) C dX11_mostZ_30 rfl (by decide) ex1_4 (ls' := [(1, .int x1_4), (0, .ref (gad 50 0))]) rfl ?_
    refine r_aload_n (pc := 31) C dX11_mostZ_31 rfl 1 rfl ?_
    refine g50_27 (pc := 32) C dX11_mostZ_32 q1427 (e50 nf) ?_
    refine r_iconst (pc := 35) C dX11_mostZ_35 ki2 ?_
    refine r_ialdN (pc := 36) C dX11_mostZ_36 rfl (e52 (nf := nf) (by decide)) (by decide : gin 2 3 = true) kc2 ?_
    refine r_iload_n (pc := 37) C dX11_mostZ_37 rfl 0 rfl ?_
    refine r_icmp_le (pc := 38) (tgt := 50) C dX11_mostZ_38 rfl (fun c_5 => ?_) (fun c_5 => ?_)
    · replace hr := (if_pos c_5).symm.trans hr
      refine r_iload_n (pc := 50) C dX11_mostZ_50 rfl 0 rfl ?_
      exact r_iret (pc := 51) CR dX11_mostZ_51 (congrArg (fun z => some (Value.int z)) (gSome hr)) rfl
    · replace hr := (if_neg c_5).symm.trans hr
      refine r_aload_n (pc := 41) C dX11_mostZ_41 rfl 1 rfl ?_
      refine g50_27 (pc := 42) C dX11_mostZ_42 q1427 (e50 nf) ?_
      refine r_iconst (pc := 45) C dX11_mostZ_45 ki2 ?_
      refine r_ialdN (pc := 46) C dX11_mostZ_46 rfl (e52 (nf := nf) (by decide)) (by decide : gin 2 3 = true) kc2 ?_
      refine r_goto (pc := 47) (tgt := 51) C dX11_mostZ_47 rfl ?_
      exact r_iret (pc := 51) CR dX11_mostZ_51 (congrArg (fun z => some (Value.int z)) (gSome hr)) rfl
theorem c_X11_mostZ {Ψ : gM → Nat → List (Nat × Value) → List Value → Prop} {G : gG5} {nf : Nat} {cc : ByteArray} {own : String} {nL : Nat} {ret : Option FieldType} {fr lo : Nat} {v0 : Option Value} {M0 M : gM} {pc index : Nat} {ls : List (Nat × Value)} {st : List Value} (C : gC Ψ G (gXn nf) cc own nL ret fr lo v0 M0) (d : decode cc pc = .ok (.invokevirtual index, 3)) (hl : Cond.methodLink own index yX11_mostZ ∈ gws) (hR : 1 ≤ fr ∧ 21 ≤ lo) {r : Int32} (hr : X11_mostZ M = some r) (hcat : (st.map fun v => v.category).sum ≤ 8) (k : Ψ M (pc + 3) ls (.int r :: st)) : Ψ M pc ls (.ref (gad 50 0) :: st) := r_callV C [] st d (k_X11_mostZ hr) hl q1893 q94 q127 q1894 hd_X11_mostZ hR rfl (by decide) (e50 nf) rfl hcat k
theorem hd_X11_tilesAcross : yX11_tilesAcross.cls ≠ "java/lang/invoke/MethodHandle" ∧ yX11_tilesAcross.cls ≠ "java/lang/invoke/VarHandle" ∧ (parseMethodDescriptor yX11_tilesAcross.desc).map (fun d => d.parameters.length) = some 0 := by decide +kernel
noncomputable def X11_tilesAcross (M : gM) : Option Int32 := gG (decide (¬ (M.1 52 2 2) = 0)) (some ((((M.1 52 2 0) + (M.1 52 2 2)) - 1) / (M.1 52 2 2)))
theorem k_X11_tilesAcross {G : gG5} {nf : Nat} {M : gM} {r : Int32} (hr : X11_tilesAcross M = some r) : gMet G (gXn nf) yX11_tilesAcross cX11_tilesAcross 1 (some .int) 0 0 M [.ref (gad 50 0)] (some (.int r)) M := by
  refine gMet_of pl_X11 rfl (Nat.le_of_ble_eq_true rfl) (fun Ψ C CR => ?_)
  show Ψ M 0 [(0, .ref (gad 50 0))] []
  refine r_aload_n (pc := 0) C dX11_tilesAcross_0 rfl 0 rfl ?_
  refine g50_9 (pc := 1) C dX11_tilesAcross_1 q1409 (e50 nf) ?_
  refine r_iconst (pc := 4) C dX11_tilesAcross_4 ki0 ?_
  refine r_ialdN (pc := 5) C dX11_tilesAcross_5 rfl (e52 (nf := nf) (by decide)) (by decide : gin 0 9 = true) kc0 ?_
  refine r_aload_n (pc := 6) C dX11_tilesAcross_6 rfl 0 rfl ?_
  refine g50_9 (pc := 7) C dX11_tilesAcross_7 q1409 (e50 nf) ?_
  refine r_iconst (pc := 10) C dX11_tilesAcross_10 ki2 ?_
  refine r_ialdN (pc := 11) C dX11_tilesAcross_11 rfl (e52 (nf := nf) (by decide)) (by decide : gin 2 9 = true) kc2 ?_
  refine r_iadd (pc := 12) C dX11_tilesAcross_12 ?_
  refine r_iconst (pc := 13) C dX11_tilesAcross_13 ki1 ?_
  refine r_isub (pc := 14) C dX11_tilesAcross_14 ?_
  refine r_aload_n (pc := 15) C dX11_tilesAcross_15 rfl 0 rfl ?_
  refine g50_9 (pc := 16) C dX11_tilesAcross_16 q1409 (e50 nf) ?_
  refine r_iconst (pc := 19) C dX11_tilesAcross_19 ki2 ?_
  refine r_ialdN (pc := 20) C dX11_tilesAcross_20 rfl (e52 (nf := nf) (by decide)) (by decide : gin 2 9 = true) kc2 ?_
  obtain ⟨g_1, hr⟩ := gG_some hr
  refine r_idiv (pc := 21) C dX11_tilesAcross_21 (of_decide_eq_true g_1) ?_
  exact r_iret (pc := 22) CR dX11_tilesAcross_22 (congrArg (fun z => some (Value.int z)) (gSome hr)) rfl
theorem c_X11_tilesAcross {Ψ : gM → Nat → List (Nat × Value) → List Value → Prop} {G : gG5} {nf : Nat} {cc : ByteArray} {own : String} {nL : Nat} {ret : Option FieldType} {fr lo : Nat} {v0 : Option Value} {M0 M : gM} {pc index : Nat} {ls : List (Nat × Value)} {st : List Value} (C : gC Ψ G (gXn nf) cc own nL ret fr lo v0 M0) (d : decode cc pc = .ok (.invokevirtual index, 3)) (hl : Cond.methodLink own index yX11_tilesAcross ∈ gws) (hR : 1 ≤ fr ∧ 20 ≤ lo) {r : Int32} (hr : X11_tilesAcross M = some r) (hcat : (st.map fun v => v.category).sum ≤ 8) (k : Ψ M (pc + 3) ls (.int r :: st)) : Ψ M pc ls (.ref (gad 50 0) :: st) := r_callV C [] st d (k_X11_tilesAcross hr) hl q1669 q59 q127 q1670 hd_X11_tilesAcross hR rfl (by decide) (e50 nf) rfl hcat k
theorem hd_X11_tilesAll : yX11_tilesAll.cls ≠ "java/lang/invoke/MethodHandle" ∧ yX11_tilesAll.cls ≠ "java/lang/invoke/VarHandle" ∧ (parseMethodDescriptor yX11_tilesAll.desc).map (fun d => d.parameters.length) = some 0 := by decide +kernel
noncomputable def X11_tilesAll (M : gM) : Option Int32 := (X11_tilesAcross M).bind (fun r_2 => gG (decide (¬ (M.1 52 2 2) = 0)) (some (r_2 * ((((M.1 52 2 1) + (M.1 52 2 2)) - 1) / (M.1 52 2 2)))))
theorem k_X11_tilesAll {G : gG5} {nf : Nat} {M : gM} {r : Int32} (hr : X11_tilesAll M = some r) : gMet G (gXn nf) yX11_tilesAll cX11_tilesAll 1 (some .int) 1 20 M [.ref (gad 50 0)] (some (.int r)) M := by
  refine gMet_of pl_X11 rfl (Nat.le_of_ble_eq_true rfl) (fun Ψ C CR => ?_)
  show Ψ M 0 [(0, .ref (gad 50 0))] []
  refine r_aload_n (pc := 0) C dX11_tilesAll_0 rfl 0 rfl ?_
  obtain ⟨r_2, hc_1, hr⟩ := gBind_some hr
  refine c_X11_tilesAcross (pc := 1) C dX11_tilesAll_1 q1667 ⟨Nat.le_of_ble_eq_true rfl, Nat.le_of_ble_eq_true rfl⟩ hc_1 (Nat.le_of_ble_eq_true rfl) ?_
  refine r_aload_n (pc := 4) C dX11_tilesAll_4 rfl 0 rfl ?_
  refine g50_9 (pc := 5) C dX11_tilesAll_5 q1409 (e50 nf) ?_
  refine r_iconst (pc := 8) C dX11_tilesAll_8 ki1 ?_
  refine r_ialdN (pc := 9) C dX11_tilesAll_9 rfl (e52 (nf := nf) (by decide)) (by decide : gin 1 9 = true) kc1 ?_
  refine r_aload_n (pc := 10) C dX11_tilesAll_10 rfl 0 rfl ?_
  refine g50_9 (pc := 11) C dX11_tilesAll_11 q1409 (e50 nf) ?_
  refine r_iconst (pc := 14) C dX11_tilesAll_14 ki2 ?_
  refine r_ialdN (pc := 15) C dX11_tilesAll_15 rfl (e52 (nf := nf) (by decide)) (by decide : gin 2 9 = true) kc2 ?_
  refine r_iadd (pc := 16) C dX11_tilesAll_16 ?_
  refine r_iconst (pc := 17) C dX11_tilesAll_17 ki1 ?_
  refine r_isub (pc := 18) C dX11_tilesAll_18 ?_
  refine r_aload_n (pc := 19) C dX11_tilesAll_19 rfl 0 rfl ?_
  refine g50_9 (pc := 20) C dX11_tilesAll_20 q1409 (e50 nf) ?_
  refine r_iconst (pc := 23) C dX11_tilesAll_23 ki2 ?_
  refine r_ialdN (pc := 24) C dX11_tilesAll_24 rfl (e52 (nf := nf) (by decide)) (by decide : gin 2 9 = true) kc2 ?_
  obtain ⟨g_3, hr⟩ := gG_some hr
  refine r_idiv (pc := 25) C dX11_tilesAll_25 (of_decide_eq_true g_3) ?_
  refine r_imul (pc := 26) C dX11_tilesAll_26 ?_
  exact r_iret (pc := 27) CR dX11_tilesAll_27 (congrArg (fun z => some (Value.int z)) (gSome hr)) rfl
theorem c_X11_tilesAll {Ψ : gM → Nat → List (Nat × Value) → List Value → Prop} {G : gG5} {nf : Nat} {cc : ByteArray} {own : String} {nL : Nat} {ret : Option FieldType} {fr lo : Nat} {v0 : Option Value} {M0 M : gM} {pc index : Nat} {ls : List (Nat × Value)} {st : List Value} (C : gC Ψ G (gXn nf) cc own nL ret fr lo v0 M0) (d : decode cc pc = .ok (.invokevirtual index, 3)) (hl : Cond.methodLink own index yX11_tilesAll ∈ gws) (hR : 2 ≤ fr ∧ 40 ≤ lo) {r : Int32} (hr : X11_tilesAll M = some r) (hcat : (st.map fun v => v.category).sum ≤ 8) (k : Ψ M (pc + 3) ls (.int r :: st)) : Ψ M pc ls (.ref (gad 50 0) :: st) := r_callV C [] st d (k_X11_tilesAll hr) hl q1665 q58 q127 q1666 hd_X11_tilesAll hR rfl (by decide) (e50 nf) rfl hcat k
theorem hd_X11_leftOf : yX11_leftOf.cls ≠ "java/lang/invoke/MethodHandle" ∧ yX11_leftOf.cls ≠ "java/lang/invoke/VarHandle" ∧ (parseMethodDescriptor yX11_leftOf.desc).map (fun d => d.parameters.length) = some 1 := by decide +kernel
noncomputable def X11_leftOf (p1 : Int32) (M : gM) : Option Int32 := (X11_tilesAcross M).bind (fun r_2 => gG (decide (¬ r_2 = 0)) (some ((gRem p1 r_2) * (M.1 52 2 2))))
theorem k_X11_leftOf {G : gG5} {nf : Nat} {M : gM} {p1 : Int32} {r : Int32} (hr : X11_leftOf p1 M = some r) : gMet G (gXn nf) yX11_leftOf cX11_leftOf 2 (some .int) 1 20 M [.ref (gad 50 0), .int p1] (some (.int r)) M := by
  refine gMet_of pl_X11 rfl (Nat.le_of_ble_eq_true rfl) (fun Ψ C CR => ?_)
  show Ψ M 0 [(0, .ref (gad 50 0)), (1, .int p1)] []
  refine r_iload_n (pc := 0) C dX11_leftOf_0 rfl 1 rfl ?_
  refine r_aload_n (pc := 1) C dX11_leftOf_1 rfl 0 rfl ?_
  obtain ⟨r_2, hc_1, hr⟩ := gBind_some hr
  refine c_X11_tilesAcross (pc := 2) C dX11_leftOf_2 q1667 ⟨Nat.le_of_ble_eq_true rfl, Nat.le_of_ble_eq_true rfl⟩ hc_1 (Nat.le_of_ble_eq_true rfl) ?_
  obtain ⟨g_3, hr⟩ := gG_some hr
  refine r_irem (pc := 5) C dX11_leftOf_5 (of_decide_eq_true g_3) ?_
  refine r_aload_n (pc := 6) C dX11_leftOf_6 rfl 0 rfl ?_
  refine g50_9 (pc := 7) C dX11_leftOf_7 q1409 (e50 nf) ?_
  refine r_iconst (pc := 10) C dX11_leftOf_10 ki2 ?_
  refine r_ialdN (pc := 11) C dX11_leftOf_11 rfl (e52 (nf := nf) (by decide)) (by decide : gin 2 9 = true) kc2 ?_
  refine r_imul (pc := 12) C dX11_leftOf_12 ?_
  exact r_iret (pc := 13) CR dX11_leftOf_13 (congrArg (fun z => some (Value.int z)) (gSome hr)) rfl
theorem c_X11_leftOf {Ψ : gM → Nat → List (Nat × Value) → List Value → Prop} {G : gG5} {nf : Nat} {cc : ByteArray} {own : String} {nL : Nat} {ret : Option FieldType} {fr lo : Nat} {v0 : Option Value} {M0 M : gM} {pc index : Nat} {ls : List (Nat × Value)} {st : List Value} (C : gC Ψ G (gXn nf) cc own nL ret fr lo v0 M0) (d : decode cc pc = .ok (.invokevirtual index, 3)) (hl : Cond.methodLink own index yX11_leftOf ∈ gws) (hR : 2 ≤ fr ∧ 41 ≤ lo) {p1 : Int32} {r : Int32} (hr : X11_leftOf p1 M = some r) (hcat : (st.map fun v => v.category).sum ≤ 8) (k : Ψ M (pc + 3) ls (.int r :: st)) : Ψ M pc ls (.int p1 :: .ref (gad 50 0) :: st) := r_callV C [.int p1] st d (k_X11_leftOf hr) hl q1677 q61 q127 q1678 hd_X11_leftOf hR rfl (by decide) (e50 nf) rfl hcat k
theorem hd_X11_topOf : yX11_topOf.cls ≠ "java/lang/invoke/MethodHandle" ∧ yX11_topOf.cls ≠ "java/lang/invoke/VarHandle" ∧ (parseMethodDescriptor yX11_topOf.desc).map (fun d => d.parameters.length) = some 1 := by decide +kernel
noncomputable def X11_topOf (p1 : Int32) (M : gM) : Option Int32 := (X11_tilesAcross M).bind (fun r_2 => gG (decide (¬ r_2 = 0)) (some ((p1 / r_2) * (M.1 52 2 2))))
theorem k_X11_topOf {G : gG5} {nf : Nat} {M : gM} {p1 : Int32} {r : Int32} (hr : X11_topOf p1 M = some r) : gMet G (gXn nf) yX11_topOf cX11_topOf 2 (some .int) 1 20 M [.ref (gad 50 0), .int p1] (some (.int r)) M := by
  refine gMet_of pl_X11 rfl (Nat.le_of_ble_eq_true rfl) (fun Ψ C CR => ?_)
  show Ψ M 0 [(0, .ref (gad 50 0)), (1, .int p1)] []
  refine r_iload_n (pc := 0) C dX11_topOf_0 rfl 1 rfl ?_
  refine r_aload_n (pc := 1) C dX11_topOf_1 rfl 0 rfl ?_
  obtain ⟨r_2, hc_1, hr⟩ := gBind_some hr
  refine c_X11_tilesAcross (pc := 2) C dX11_topOf_2 q1667 ⟨Nat.le_of_ble_eq_true rfl, Nat.le_of_ble_eq_true rfl⟩ hc_1 (Nat.le_of_ble_eq_true rfl) ?_
  obtain ⟨g_3, hr⟩ := gG_some hr
  refine r_idiv (pc := 5) C dX11_topOf_5 (of_decide_eq_true g_3) ?_
  refine r_aload_n (pc := 6) C dX11_topOf_6 rfl 0 rfl ?_
  refine g50_9 (pc := 7) C dX11_topOf_7 q1409 (e50 nf) ?_
  refine r_iconst (pc := 10) C dX11_topOf_10 ki2 ?_
  refine r_ialdN (pc := 11) C dX11_topOf_11 rfl (e52 (nf := nf) (by decide)) (by decide : gin 2 9 = true) kc2 ?_
  refine r_imul (pc := 12) C dX11_topOf_12 ?_
  exact r_iret (pc := 13) CR dX11_topOf_13 (congrArg (fun z => some (Value.int z)) (gSome hr)) rfl
theorem c_X11_topOf {Ψ : gM → Nat → List (Nat × Value) → List Value → Prop} {G : gG5} {nf : Nat} {cc : ByteArray} {own : String} {nL : Nat} {ret : Option FieldType} {fr lo : Nat} {v0 : Option Value} {M0 M : gM} {pc index : Nat} {ls : List (Nat × Value)} {st : List Value} (C : gC Ψ G (gXn nf) cc own nL ret fr lo v0 M0) (d : decode cc pc = .ok (.invokevirtual index, 3)) (hl : Cond.methodLink own index yX11_topOf ∈ gws) (hR : 2 ≤ fr ∧ 41 ≤ lo) {p1 : Int32} {r : Int32} (hr : X11_topOf p1 M = some r) (hcat : (st.map fun v => v.category).sum ≤ 8) (k : Ψ M (pc + 3) ls (.int r :: st)) : Ψ M pc ls (.int p1 :: .ref (gad 50 0) :: st) := r_callV C [.int p1] st d (k_X11_topOf hr) hl q1685 q63 q127 q1686 hd_X11_topOf hR rfl (by decide) (e50 nf) rfl hcat k
theorem hd_X11_rightOf : yX11_rightOf.cls ≠ "java/lang/invoke/MethodHandle" ∧ yX11_rightOf.cls ≠ "java/lang/invoke/VarHandle" ∧ (parseMethodDescriptor yX11_rightOf.desc).map (fun d => d.parameters.length) = some 1 := by decide +kernel
noncomputable def X11_rightOf (p1 : Int32) (M : gM) : Option Int32 := (X11_leftOf p1 M).bind (fun r_2 => gLet ((r_2 + (M.1 52 2 2))) (fun x2_3 => (if (M.1 52 2 0) ≤ x2_3 then some (M.1 52 2 0) else some x2_3)))
theorem k_X11_rightOf {G : gG5} {nf : Nat} {M : gM} {p1 : Int32} {r : Int32} (hr : X11_rightOf p1 M = some r) : gMet G (gXn nf) yX11_rightOf cX11_rightOf 3 (some .int) 2 41 M [.ref (gad 50 0), .int p1] (some (.int r)) M := by
  refine gMet_of pl_X11 rfl (Nat.le_of_ble_eq_true rfl) (fun Ψ C CR => ?_)
  show Ψ M 0 [(0, .ref (gad 50 0)), (1, .int p1)] []
  refine r_aload_n (pc := 0) C dX11_rightOf_0 rfl 0 rfl ?_
  refine r_iload_n (pc := 1) C dX11_rightOf_1 rfl 1 rfl ?_
  obtain ⟨r_2, hc_1, hr⟩ := gBind_some hr
  refine c_X11_leftOf (pc := 2) C dX11_rightOf_2 q1675 ⟨Nat.le_of_ble_eq_true rfl, Nat.le_of_ble_eq_true rfl⟩ hc_1 (Nat.le_of_ble_eq_true rfl) ?_
  refine r_aload_n (pc := 5) C dX11_rightOf_5 rfl 0 rfl ?_
  refine g50_9 (pc := 6) C dX11_rightOf_6 q1409 (e50 nf) ?_
  refine r_iconst (pc := 9) C dX11_rightOf_9 ki2 ?_
  refine r_ialdN (pc := 10) C dX11_rightOf_10 rfl (e52 (nf := nf) (by decide)) (by decide : gin 2 9 = true) kc2 ?_
  refine r_iadd (pc := 11) C dX11_rightOf_11 ?_
  obtain ⟨x2_3, ex2_3, hr⟩ := gLet_some hr
  refine r_istore_n (pc := 12) C dX11_rightOf_12 rfl (by decide) ex2_3 (ls' := [(2, .int x2_3), (0, .ref (gad 50 0)), (1, .int p1)]) rfl ?_
  refine r_iload_n (pc := 13) C dX11_rightOf_13 rfl 0 rfl ?_
  refine r_aload_n (pc := 14) C dX11_rightOf_14 rfl 1 rfl ?_
  refine g50_9 (pc := 15) C dX11_rightOf_15 q1409 (e50 nf) ?_
  refine r_iconst (pc := 18) C dX11_rightOf_18 ki0 ?_
  refine r_ialdN (pc := 19) C dX11_rightOf_19 rfl (e52 (nf := nf) (by decide)) (by decide : gin 0 9 = true) kc0 ?_
  refine r_icmp_ge (pc := 20) (tgt := 27) C dX11_rightOf_20 rfl (fun c_4 => ?_) (fun c_4 => ?_)
  · replace hr := (if_pos c_4).symm.trans hr
    refine r_aload_n (pc := 27) C dX11_rightOf_27 rfl 1 rfl ?_
    refine g50_9 (pc := 28) C dX11_rightOf_28 q1409 (e50 nf) ?_
    refine r_iconst (pc := 31) C dX11_rightOf_31 ki0 ?_
    refine r_ialdN (pc := 32) C dX11_rightOf_32 rfl (e52 (nf := nf) (by decide)) (by decide : gin 0 9 = true) kc0 ?_
    exact r_iret (pc := 33) CR dX11_rightOf_33 (congrArg (fun z => some (Value.int z)) (gSome hr)) rfl
  · replace hr := (if_neg c_4).symm.trans hr
    refine r_iload_n (pc := 23) C dX11_rightOf_23 rfl 0 rfl ?_
    refine r_goto (pc := 24) (tgt := 33) C dX11_rightOf_24 rfl ?_
    exact r_iret (pc := 33) CR dX11_rightOf_33 (congrArg (fun z => some (Value.int z)) (gSome hr)) rfl
theorem c_X11_rightOf {Ψ : gM → Nat → List (Nat × Value) → List Value → Prop} {G : gG5} {nf : Nat} {cc : ByteArray} {own : String} {nL : Nat} {ret : Option FieldType} {fr lo : Nat} {v0 : Option Value} {M0 M : gM} {pc index : Nat} {ls : List (Nat × Value)} {st : List Value} (C : gC Ψ G (gXn nf) cc own nL ret fr lo v0 M0) (d : decode cc pc = .ok (.invokevirtual index, 3)) (hl : Cond.methodLink own index yX11_rightOf ∈ gws) (hR : 3 ≤ fr ∧ 63 ≤ lo) {p1 : Int32} {r : Int32} (hr : X11_rightOf p1 M = some r) (hcat : (st.map fun v => v.category).sum ≤ 8) (k : Ψ M (pc + 3) ls (.int r :: st)) : Ψ M pc ls (.int p1 :: .ref (gad 50 0) :: st) := r_callV C [.int p1] st d (k_X11_rightOf hr) hl q1681 q62 q127 q1682 hd_X11_rightOf hR rfl (by decide) (e50 nf) rfl hcat k
theorem hd_X11_lowOf : yX11_lowOf.cls ≠ "java/lang/invoke/MethodHandle" ∧ yX11_lowOf.cls ≠ "java/lang/invoke/VarHandle" ∧ (parseMethodDescriptor yX11_lowOf.desc).map (fun d => d.parameters.length) = some 1 := by decide +kernel
noncomputable def X11_lowOf (p1 : Int32) (M : gM) : Option Int32 := (X11_topOf p1 M).bind (fun r_2 => gLet ((r_2 + (M.1 52 2 2))) (fun x2_3 => (if (M.1 52 2 1) ≤ x2_3 then some (M.1 52 2 1) else some x2_3)))
theorem k_X11_lowOf {G : gG5} {nf : Nat} {M : gM} {p1 : Int32} {r : Int32} (hr : X11_lowOf p1 M = some r) : gMet G (gXn nf) yX11_lowOf cX11_lowOf 3 (some .int) 2 41 M [.ref (gad 50 0), .int p1] (some (.int r)) M := by
  refine gMet_of pl_X11 rfl (Nat.le_of_ble_eq_true rfl) (fun Ψ C CR => ?_)
  show Ψ M 0 [(0, .ref (gad 50 0)), (1, .int p1)] []
  refine r_aload_n (pc := 0) C dX11_lowOf_0 rfl 0 rfl ?_
  refine r_iload_n (pc := 1) C dX11_lowOf_1 rfl 1 rfl ?_
  obtain ⟨r_2, hc_1, hr⟩ := gBind_some hr
  refine c_X11_topOf (pc := 2) C dX11_lowOf_2 q1683 ⟨Nat.le_of_ble_eq_true rfl, Nat.le_of_ble_eq_true rfl⟩ hc_1 (Nat.le_of_ble_eq_true rfl) ?_
  refine r_aload_n (pc := 5) C dX11_lowOf_5 rfl 0 rfl ?_
  refine g50_9 (pc := 6) C dX11_lowOf_6 q1409 (e50 nf) ?_
  refine r_iconst (pc := 9) C dX11_lowOf_9 ki2 ?_
  refine r_ialdN (pc := 10) C dX11_lowOf_10 rfl (e52 (nf := nf) (by decide)) (by decide : gin 2 9 = true) kc2 ?_
  refine r_iadd (pc := 11) C dX11_lowOf_11 ?_
  obtain ⟨x2_3, ex2_3, hr⟩ := gLet_some hr
  refine r_istore_n (pc := 12) C dX11_lowOf_12 rfl (by decide) ex2_3 (ls' := [(2, .int x2_3), (0, .ref (gad 50 0)), (1, .int p1)]) rfl ?_
  refine r_iload_n (pc := 13) C dX11_lowOf_13 rfl 0 rfl ?_
  refine r_aload_n (pc := 14) C dX11_lowOf_14 rfl 1 rfl ?_
  refine g50_9 (pc := 15) C dX11_lowOf_15 q1409 (e50 nf) ?_
  refine r_iconst (pc := 18) C dX11_lowOf_18 ki1 ?_
  refine r_ialdN (pc := 19) C dX11_lowOf_19 rfl (e52 (nf := nf) (by decide)) (by decide : gin 1 9 = true) kc1 ?_
  refine r_icmp_ge (pc := 20) (tgt := 27) C dX11_lowOf_20 rfl (fun c_4 => ?_) (fun c_4 => ?_)
  · replace hr := (if_pos c_4).symm.trans hr
    refine r_aload_n (pc := 27) C dX11_lowOf_27 rfl 1 rfl ?_
    refine g50_9 (pc := 28) C dX11_lowOf_28 q1409 (e50 nf) ?_
    refine r_iconst (pc := 31) C dX11_lowOf_31 ki1 ?_
    refine r_ialdN (pc := 32) C dX11_lowOf_32 rfl (e52 (nf := nf) (by decide)) (by decide : gin 1 9 = true) kc1 ?_
    exact r_iret (pc := 33) CR dX11_lowOf_33 (congrArg (fun z => some (Value.int z)) (gSome hr)) rfl
  · replace hr := (if_neg c_4).symm.trans hr
    refine r_iload_n (pc := 23) C dX11_lowOf_23 rfl 0 rfl ?_
    refine r_goto (pc := 24) (tgt := 33) C dX11_lowOf_24 rfl ?_
    exact r_iret (pc := 33) CR dX11_lowOf_33 (congrArg (fun z => some (Value.int z)) (gSome hr)) rfl
theorem c_X11_lowOf {Ψ : gM → Nat → List (Nat × Value) → List Value → Prop} {G : gG5} {nf : Nat} {cc : ByteArray} {own : String} {nL : Nat} {ret : Option FieldType} {fr lo : Nat} {v0 : Option Value} {M0 M : gM} {pc index : Nat} {ls : List (Nat × Value)} {st : List Value} (C : gC Ψ G (gXn nf) cc own nL ret fr lo v0 M0) (d : decode cc pc = .ok (.invokevirtual index, 3)) (hl : Cond.methodLink own index yX11_lowOf ∈ gws) (hR : 3 ≤ fr ∧ 63 ≤ lo) {p1 : Int32} {r : Int32} (hr : X11_lowOf p1 M = some r) (hcat : (st.map fun v => v.category).sum ≤ 8) (k : Ψ M (pc + 3) ls (.int r :: st)) : Ψ M pc ls (.int p1 :: .ref (gad 50 0) :: st) := r_callV C [.int p1] st d (k_X11_lowOf hr) hl q1689 q64 q127 q1690 hd_X11_lowOf hR rfl (by decide) (e50 nf) rfl hcat k
theorem hd_X11_isAside : yX11_isAside.cls ≠ "java/lang/invoke/MethodHandle" ∧ yX11_isAside.cls ≠ "java/lang/invoke/VarHandle" ∧ (parseMethodDescriptor yX11_isAside.desc).map (fun d => d.parameters.length) = some 3 := by decide +kernel
noncomputable def X11_isAside_J26 (i0 : Nat) (x2 : Int32) (xs0 : Int32) (M : gM) : Option Int32 := (if xs0 = 0 then gG (gin 0 (gLen 52 i0)) ((if (M.1 52 i0 (Int32.toNatClampNeg 0)) ≤ x2 then some 0 else gG (gin 1 (gLen 52 i0)) ((if (M.1 52 i0 (Int32.toNatClampNeg 1)) ≤ x2 then some 0 else gG (gin 2 (gLen 52 i0)) ((if (M.1 52 i0 (Int32.toNatClampNeg 2)) ≤ x2 then some 0 else some 1)))))) else some 1)
theorem t_X11_isAside_J26 {Ψ : gM → Nat → List (Nat × Value) → List Value → Prop} {G : gG5} {nf : Nat} {M : gM} {i0 : Nat} {x2 : Int32} {xs0 : Int32} {r : Int32} (C : gC Ψ G (gXn nf) cX11_isAside RX11 4 (some .boolean) 0 0 (some (.int r)) M) (CR : gR Ψ cX11_isAside (some .boolean) (some (.int r)) M) (h0 : i0 < 20) (hr : X11_isAside_J26 i0 x2 xs0 M = some r) : Ψ M 26 [(0, .ref (gad 52 i0)), (2, .int x2)] [.int xs0] := by
  refine r_istore_n (pc := 26) C dX11_isAside_26 rfl (by decide) rfl (ls' := [(3, .int xs0), (0, .ref (gad 52 i0)), (2, .int x2)]) rfl ?_
  refine r_iload_n (pc := 27) C dX11_isAside_27 rfl 0 rfl ?_
  refine r_if_ne (pc := 28) (tgt := 52) C dX11_isAside_28 rfl (fun c_3 => ?_) (fun c_3 => ?_)
  · replace hr := (if_neg c_3).symm.trans hr
    refine r_iconst (pc := 52) C dX11_isAside_52 ki1 ?_
    refine r_goto (pc := 53) (tgt := 57) C dX11_isAside_53 rfl ?_
    exact r_zret (pc := 57) CR dX11_isAside_57 rfl (congrArg (fun z => some (Value.int z)) (gSome hr)) rfl
  · replace hr := (if_pos c_3).symm.trans hr
    refine r_aload_n (pc := 31) C dX11_isAside_31 rfl 1 rfl ?_
    refine r_iconst (pc := 32) C dX11_isAside_32 ki0 ?_
    obtain ⟨g_4, hr⟩ := gG_some hr
    refine r_ialdN (pc := 33) C dX11_isAside_33 rfl (e52 (nf := nf) h0) g_4 rfl ?_
    refine r_iload_n (pc := 34) C dX11_isAside_34 rfl 2 rfl ?_
    refine r_icmp_le (pc := 35) (tgt := 56) C dX11_isAside_35 rfl (fun c_5 => ?_) (fun c_5 => ?_)
    · replace hr := (if_pos c_5).symm.trans hr
      refine r_iconst (pc := 56) C dX11_isAside_56 ki0 ?_
      exact r_zret (pc := 57) CR dX11_isAside_57 rfl (congrArg (fun z => some (Value.int z)) (gSome hr)) rfl
    · replace hr := (if_neg c_5).symm.trans hr
      refine r_aload_n (pc := 38) C dX11_isAside_38 rfl 1 rfl ?_
      refine r_iconst (pc := 39) C dX11_isAside_39 ki1 ?_
      obtain ⟨g_6, hr⟩ := gG_some hr
      refine r_ialdN (pc := 40) C dX11_isAside_40 rfl (e52 (nf := nf) h0) g_6 rfl ?_
      refine r_iload_n (pc := 41) C dX11_isAside_41 rfl 2 rfl ?_
      refine r_icmp_le (pc := 42) (tgt := 56) C dX11_isAside_42 rfl (fun c_7 => ?_) (fun c_7 => ?_)
      · replace hr := (if_pos c_7).symm.trans hr
        refine r_iconst (pc := 56) C dX11_isAside_56 ki0 ?_
        exact r_zret (pc := 57) CR dX11_isAside_57 rfl (congrArg (fun z => some (Value.int z)) (gSome hr)) rfl
      · replace hr := (if_neg c_7).symm.trans hr
        refine r_aload_n (pc := 45) C dX11_isAside_45 rfl 1 rfl ?_
        refine r_iconst (pc := 46) C dX11_isAside_46 ki2 ?_
        obtain ⟨g_8, hr⟩ := gG_some hr
        refine r_ialdN (pc := 47) C dX11_isAside_47 rfl (e52 (nf := nf) h0) g_8 rfl ?_
        refine r_iload_n (pc := 48) C dX11_isAside_48 rfl 2 rfl ?_
        refine r_icmp_le (pc := 49) (tgt := 56) C dX11_isAside_49 rfl (fun c_9 => ?_) (fun c_9 => ?_)
        · replace hr := (if_pos c_9).symm.trans hr
          refine r_iconst (pc := 56) C dX11_isAside_56 ki0 ?_
          exact r_zret (pc := 57) CR dX11_isAside_57 rfl (congrArg (fun z => some (Value.int z)) (gSome hr)) rfl
        · replace hr := (if_neg c_9).symm.trans hr
          refine r_iconst (pc := 52) C dX11_isAside_52 ki1 ?_
          refine r_goto (pc := 53) (tgt := 57) C dX11_isAside_53 rfl ?_
          exact r_zret (pc := 57) CR dX11_isAside_57 rfl (congrArg (fun z => some (Value.int z)) (gSome hr)) rfl
noncomputable def X11_isAside_J25 (i0 : Nat) (x2 : Int32) (M : gM) : Option Int32 := X11_isAside_J26 i0 x2 0 M
theorem t_X11_isAside_J25 {Ψ : gM → Nat → List (Nat × Value) → List Value → Prop} {G : gG5} {nf : Nat} {M : gM} {i0 : Nat} {x2 : Int32} {r : Int32} (C : gC Ψ G (gXn nf) cX11_isAside RX11 4 (some .boolean) 0 0 (some (.int r)) M) (CR : gR Ψ cX11_isAside (some .boolean) (some (.int r)) M) (h0 : i0 < 20) (hr : X11_isAside_J25 i0 x2 M = some r) : Ψ M 25 [(0, .ref (gad 52 i0)), (2, .int x2)] [] := by
  refine r_iconst (pc := 25) C dX11_isAside_25 ki0 ?_
  exact t_X11_isAside_J26 C CR h0 hr
noncomputable def X11_isAside (i0 : Nat) (p1 : Int32) (p2 : Int32) (M : gM) : Option Int32 := gG (gin 0 (gLen 52 i0)) ((if p1 ≤ (M.1 52 i0 (Int32.toNatClampNeg 0)) then X11_isAside_J25 i0 p2 M else gG (gin 1 (gLen 52 i0)) ((if p1 ≤ (M.1 52 i0 (Int32.toNatClampNeg 1)) then X11_isAside_J25 i0 p2 M else gG (gin 2 (gLen 52 i0)) ((if p1 ≤ (M.1 52 i0 (Int32.toNatClampNeg 2)) then X11_isAside_J25 i0 p2 M else X11_isAside_J26 i0 p2 1 M))))))
theorem k_X11_isAside {G : gG5} {nf : Nat} {M : gM} {i0 : Nat} {p1 : Int32} {p2 : Int32} (h0 : i0 < 20) {r : Int32} (hr : X11_isAside i0 p1 p2 M = some r) : gMet G (gXn nf) yX11_isAside cX11_isAside 4 (some .boolean) 0 0 M [.ref (gad 52 i0), .int p1, .int p2] (some (.int r)) M := by
  refine gMet_of pl_X11 rfl (Nat.le_of_ble_eq_true rfl) (fun Ψ C CR => ?_)
  show Ψ M 0 [(0, .ref (gad 52 i0)), (1, .int p1), (2, .int p2)] []
  refine r_aload_n (pc := 0) C dX11_isAside_0 rfl 0 rfl ?_
  refine r_iconst (pc := 1) C dX11_isAside_1 ki0 ?_
  obtain ⟨g_1, hr⟩ := gG_some hr
  refine r_ialdN (pc := 2) C dX11_isAside_2 rfl (e52 (nf := nf) h0) g_1 rfl ?_
  refine r_iload_n (pc := 3) C dX11_isAside_3 rfl 1 rfl ?_
  refine r_icmp_ge (pc := 4) (tgt := 25) C dX11_isAside_4 rfl (fun c_2 => ?_) (fun c_2 => ?_)
  · replace hr := (if_pos c_2).symm.trans hr
    refine r_sub C [0, 2] (ls' := [(0, .ref (gad 52 i0)), (2, .int p2)]) rfl ?_
    exact t_X11_isAside_J25 C CR h0 hr
  · replace hr := (if_neg c_2).symm.trans hr
    refine r_aload_n (pc := 7) C dX11_isAside_7 rfl 0 rfl ?_
    refine r_iconst (pc := 8) C dX11_isAside_8 ki1 ?_
    obtain ⟨g_10, hr⟩ := gG_some hr
    refine r_ialdN (pc := 9) C dX11_isAside_9 rfl (e52 (nf := nf) h0) g_10 rfl ?_
    refine r_iload_n (pc := 10) C dX11_isAside_10 rfl 1 rfl ?_
    refine r_icmp_ge (pc := 11) (tgt := 25) C dX11_isAside_11 rfl (fun c_11 => ?_) (fun c_11 => ?_)
    · replace hr := (if_pos c_11).symm.trans hr
      refine r_sub C [0, 2] (ls' := [(0, .ref (gad 52 i0)), (2, .int p2)]) rfl ?_
      exact t_X11_isAside_J25 C CR h0 hr
    · replace hr := (if_neg c_11).symm.trans hr
      refine r_aload_n (pc := 14) C dX11_isAside_14 rfl 0 rfl ?_
      refine r_iconst (pc := 15) C dX11_isAside_15 ki2 ?_
      obtain ⟨g_12, hr⟩ := gG_some hr
      refine r_ialdN (pc := 16) C dX11_isAside_16 rfl (e52 (nf := nf) h0) g_12 rfl ?_
      refine r_iload_n (pc := 17) C dX11_isAside_17 rfl 1 rfl ?_
      refine r_icmp_ge (pc := 18) (tgt := 25) C dX11_isAside_18 rfl (fun c_13 => ?_) (fun c_13 => ?_)
      · replace hr := (if_pos c_13).symm.trans hr
        refine r_sub C [0, 2] (ls' := [(0, .ref (gad 52 i0)), (2, .int p2)]) rfl ?_
        exact t_X11_isAside_J25 C CR h0 hr
      · replace hr := (if_neg c_13).symm.trans hr
        refine r_iconst (pc := 21) C dX11_isAside_21 ki1 ?_
        refine r_goto (pc := 22) (tgt := 26) C dX11_isAside_22 rfl ?_
        refine r_sub C [0, 2] (ls' := [(0, .ref (gad 52 i0)), (2, .int p2)]) rfl ?_
        exact t_X11_isAside_J26 C CR h0 hr
theorem c_X11_isAside {Ψ : gM → Nat → List (Nat × Value) → List Value → Prop} {G : gG5} {nf : Nat} {cc : ByteArray} {own : String} {nL : Nat} {ret : Option FieldType} {fr lo : Nat} {v0 : Option Value} {M0 M : gM} {pc index : Nat} {ls : List (Nat × Value)} {st : List Value} (C : gC Ψ G (gXn nf) cc own nL ret fr lo v0 M0) (d : decode cc pc = .ok (.invokestatic index, 3)) (hl : Cond.methodLink own index yX11_isAside ∈ gws) (hR : 1 ≤ fr ∧ 23 ≤ lo) {i0 : Nat} {p1 : Int32} {p2 : Int32} (h0 : i0 < 20) {r : Int32} (hr : X11_isAside i0 p1 p2 M = some r) (hcat : (st.map fun v => v.category).sum ≤ 8) (k : Ψ M (pc + 3) ls (.int r :: st)) : Ψ M pc ls (.int p2 :: .int p1 :: .ref (gad 52 i0) :: st) := r_callS C [.ref (gad 52 i0), .int p1, .int p2] st d (k_X11_isAside h0 hr) hl q1692 q127 q1693 hd_X11_isAside hR rfl hcat k
theorem hd_X11_touches : yX11_touches.cls ≠ "java/lang/invoke/MethodHandle" ∧ yX11_touches.cls ≠ "java/lang/invoke/VarHandle" ∧ (parseMethodDescriptor yX11_touches.desc).map (fun d => d.parameters.length) = some 1 := by decide +kernel
noncomputable def X11_touches_L76 (x2 : Int32) (x3 : Int32) (x4 : Int32) (x5 : Int32) (x6 : Int32) (M : gM) : Option (Int32 ⊕ (Unit ⊕ Unit)) := (if 3 ≤ x6 then some (.inr (.inr ())) else (X11_sum x6 x2 x4 M).bind (fun r_22 => (if 0 ≤ r_22 then gLet (x6 + 1) (fun x6_24 => some (.inl x6_24)) else (X11_sum x6 x3 x4 M).bind (fun r_26 => (if 0 ≤ r_26 then gLet (x6 + 1) (fun x6_28 => some (.inl x6_28)) else (X11_sum x6 x2 x5 M).bind (fun r_30 => (if 0 ≤ r_30 then gLet (x6 + 1) (fun x6_32 => some (.inl x6_32)) else (X11_sum x6 x3 x5 M).bind (fun r_34 => (if 0 ≤ r_34 then gLet (x6 + 1) (fun x6_36 => some (.inl x6_36)) else some (.inr (.inl ())))))))))))
theorem t_X11_touches_L76 {Ψ : gM → Nat → List (Nat × Value) → List Value → Prop} {G : gG5} {nf : Nat} {M : gM} {v0 : Option Value} {M0 : gM} {x2 : Int32} {x3 : Int32} {x4 : Int32} {x5 : Int32} {x6 : Int32} {w : (Int32 ⊕ (Unit ⊕ Unit))} (C : gC Ψ G (gXn nf) cX11_touches RX11 7 (some .boolean) 3 63 v0 M0) (hr : X11_touches_L76 x2 x3 x4 x5 x6 M = some w) (hn : ∀ s, w = .inl s → Ψ M 76 [(0, .ref (gad 50 0)), (2, .int x2), (3, .int x3), (4, .int x4), (5, .int x5), (6, .int s)] []) (hx : ∀ e, w = .inr e → (gSP (fun e => Ψ M 130 [] []) (fun e => Ψ M 138 [] [])) e) : Ψ M 76 [(0, .ref (gad 50 0)), (2, .int x2), (3, .int x3), (4, .int x4), (5, .int x5), (6, .int x6)] [] := by
  refine r_iload (pc := 76) C dX11_touches_76 5 rfl ?_
  refine r_iconst (pc := 78) C dX11_touches_78 ki3 ?_
  refine r_icmp_ge (pc := 79) (tgt := 138) C dX11_touches_79 rfl (fun c_20 => ?_) (fun c_20 => ?_)
  · replace hr := (if_pos c_20).symm.trans hr
    refine r_sub C [] (ls' := []) rfl ?_
    exact hx (.inr ()) (gSome hr)
  · replace hr := (if_neg c_20).symm.trans hr
    refine r_aload_n (pc := 82) C dX11_touches_82 rfl 0 rfl ?_
    refine r_iload (pc := 83) C dX11_touches_83 5 rfl ?_
    refine r_iload_n (pc := 85) C dX11_touches_85 rfl 1 rfl ?_
    refine r_iload (pc := 86) C dX11_touches_86 3 rfl ?_
    obtain ⟨r_22, hc_21, hr⟩ := gBind_some hr
    refine c_X11_sum (pc := 88) C dX11_touches_88 q1656 ⟨Nat.le_of_ble_eq_true rfl, Nat.le_of_ble_eq_true rfl⟩ hc_21 (Nat.le_of_ble_eq_true rfl) ?_
    refine r_if_ge (pc := 91) (tgt := 132) C dX11_touches_91 rfl (fun c_23 => ?_) (fun c_23 => ?_)
    · replace hr := (if_pos c_23).symm.trans hr
      obtain ⟨x6_24, ex6_24, hr⟩ := gLet_some hr
      refine r_iinc (pc := 132) C dX11_touches_132 5 rfl rfl (by decide) ex6_24 (ls' := [(6, .int x6_24), (0, .ref (gad 50 0)), (2, .int x2), (3, .int x3), (4, .int x4), (5, .int x5)]) rfl ?_
      refine r_goto (pc := 135) (tgt := 76) C dX11_touches_135 rfl ?_
      refine r_sub C [1, 2, 3, 4, 5, 0] (ls' := [(0, .ref (gad 50 0)), (2, .int x2), (3, .int x3), (4, .int x4), (5, .int x5), (6, .int x6_24)]) rfl ?_
      exact hn x6_24 (gSome hr)
    · replace hr := (if_neg c_23).symm.trans hr
      refine r_aload_n (pc := 94) C dX11_touches_94 rfl 0 rfl ?_
      refine r_iload (pc := 95) C dX11_touches_95 5 rfl ?_
      refine r_iload_n (pc := 97) C dX11_touches_97 rfl 2 rfl ?_
      refine r_iload (pc := 98) C dX11_touches_98 3 rfl ?_
      obtain ⟨r_26, hc_25, hr⟩ := gBind_some hr
      refine c_X11_sum (pc := 100) C dX11_touches_100 q1656 ⟨Nat.le_of_ble_eq_true rfl, Nat.le_of_ble_eq_true rfl⟩ hc_25 (Nat.le_of_ble_eq_true rfl) ?_
      refine r_if_ge (pc := 103) (tgt := 132) C dX11_touches_103 rfl (fun c_27 => ?_) (fun c_27 => ?_)
      · replace hr := (if_pos c_27).symm.trans hr
        obtain ⟨x6_28, ex6_28, hr⟩ := gLet_some hr
        refine r_iinc (pc := 132) C dX11_touches_132 5 rfl rfl (by decide) ex6_28 (ls' := [(6, .int x6_28), (0, .ref (gad 50 0)), (2, .int x2), (3, .int x3), (4, .int x4), (5, .int x5)]) rfl ?_
        refine r_goto (pc := 135) (tgt := 76) C dX11_touches_135 rfl ?_
        refine r_sub C [1, 2, 3, 4, 5, 0] (ls' := [(0, .ref (gad 50 0)), (2, .int x2), (3, .int x3), (4, .int x4), (5, .int x5), (6, .int x6_28)]) rfl ?_
        exact hn x6_28 (gSome hr)
      · replace hr := (if_neg c_27).symm.trans hr
        refine r_aload_n (pc := 106) C dX11_touches_106 rfl 0 rfl ?_
        refine r_iload (pc := 107) C dX11_touches_107 5 rfl ?_
        refine r_iload_n (pc := 109) C dX11_touches_109 rfl 1 rfl ?_
        refine r_iload (pc := 110) C dX11_touches_110 4 rfl ?_
        obtain ⟨r_30, hc_29, hr⟩ := gBind_some hr
        refine c_X11_sum (pc := 112) C dX11_touches_112 q1656 ⟨Nat.le_of_ble_eq_true rfl, Nat.le_of_ble_eq_true rfl⟩ hc_29 (Nat.le_of_ble_eq_true rfl) ?_
        refine r_if_ge (pc := 115) (tgt := 132) C dX11_touches_115 rfl (fun c_31 => ?_) (fun c_31 => ?_)
        · replace hr := (if_pos c_31).symm.trans hr
          obtain ⟨x6_32, ex6_32, hr⟩ := gLet_some hr
          refine r_iinc (pc := 132) C dX11_touches_132 5 rfl rfl (by decide) ex6_32 (ls' := [(6, .int x6_32), (0, .ref (gad 50 0)), (2, .int x2), (3, .int x3), (4, .int x4), (5, .int x5)]) rfl ?_
          refine r_goto (pc := 135) (tgt := 76) C dX11_touches_135 rfl ?_
          refine r_sub C [1, 2, 3, 4, 5, 0] (ls' := [(0, .ref (gad 50 0)), (2, .int x2), (3, .int x3), (4, .int x4), (5, .int x5), (6, .int x6_32)]) rfl ?_
          exact hn x6_32 (gSome hr)
        · replace hr := (if_neg c_31).symm.trans hr
          refine r_aload_n (pc := 118) C dX11_touches_118 rfl 0 rfl ?_
          refine r_iload (pc := 119) C dX11_touches_119 5 rfl ?_
          refine r_iload_n (pc := 121) C dX11_touches_121 rfl 2 rfl ?_
          refine r_iload (pc := 122) C dX11_touches_122 4 rfl ?_
          obtain ⟨r_34, hc_33, hr⟩ := gBind_some hr
          refine c_X11_sum (pc := 124) C dX11_touches_124 q1656 ⟨Nat.le_of_ble_eq_true rfl, Nat.le_of_ble_eq_true rfl⟩ hc_33 (Nat.le_of_ble_eq_true rfl) ?_
          refine r_if_ge (pc := 127) (tgt := 132) C dX11_touches_127 rfl (fun c_35 => ?_) (fun c_35 => ?_)
          · replace hr := (if_pos c_35).symm.trans hr
            obtain ⟨x6_36, ex6_36, hr⟩ := gLet_some hr
            refine r_iinc (pc := 132) C dX11_touches_132 5 rfl rfl (by decide) ex6_36 (ls' := [(6, .int x6_36), (0, .ref (gad 50 0)), (2, .int x2), (3, .int x3), (4, .int x4), (5, .int x5)]) rfl ?_
            refine r_goto (pc := 135) (tgt := 76) C dX11_touches_135 rfl ?_
            refine r_sub C [1, 2, 3, 4, 5, 0] (ls' := [(0, .ref (gad 50 0)), (2, .int x2), (3, .int x3), (4, .int x4), (5, .int x5), (6, .int x6_36)]) rfl ?_
            exact hn x6_36 (gSome hr)
          · replace hr := (if_neg c_35).symm.trans hr
            refine r_sub C [] (ls' := []) rfl ?_
            exact hx (.inl ()) (gSome hr)
noncomputable def X11_touches (p1 : Int32) (M : gM) : Option Int32 := (X11_leftOf p1 M).bind (fun r_2 => gLet ((8 * r_2)) (fun x2_3 => (X11_rightOf p1 M).bind (fun r_5 => gLet ((8 * r_5)) (fun x3_6 => (X11_topOf p1 M).bind (fun r_8 => gLet ((8 * r_8)) (fun x4_9 => (X11_lowOf p1 M).bind (fun r_11 => gLet ((8 * r_11)) (fun x5_12 => (if (M.1 50 0 31) = 0 then (X11_isAside 12 x2_3 x3_6 M).bind (fun r_15 => (if r_15 = 0 then (X11_isAside 13 x4_9 x5_12 M).bind (fun r_18 => (if r_18 = 0 then (gIter (fun s => X11_touches_L76 x2_3 x3_6 x4_9 x5_12 s M) FU 0).bind (gS2 (fun _ => some 0) (fun _ => some 1)) else some 0)) else some 0)) else some 0)))))))))
theorem k_X11_touches {G : gG5} {nf : Nat} {M : gM} {p1 : Int32} {r : Int32} (hr : X11_touches p1 M = some r) : gMet G (gXn nf) yX11_touches cX11_touches 7 (some .boolean) 3 63 M [.ref (gad 50 0), .int p1] (some (.int r)) M := by
  refine gMet_of pl_X11 rfl (Nat.le_of_ble_eq_true rfl) (fun Ψ C CR => ?_)
  show Ψ M 0 [(0, .ref (gad 50 0)), (1, .int p1)] []
  refine r_bipush (pc := 0) C dX11_touches_0 kb8 ?_
  refine r_aload_n (pc := 2) C dX11_touches_2 rfl 0 rfl ?_
  refine r_iload_n (pc := 3) C dX11_touches_3 rfl 1 rfl ?_
  obtain ⟨r_2, hc_1, hr⟩ := gBind_some hr
  refine c_X11_leftOf (pc := 4) C dX11_touches_4 q1675 ⟨Nat.le_of_ble_eq_true rfl, Nat.le_of_ble_eq_true rfl⟩ hc_1 (Nat.le_of_ble_eq_true rfl) ?_
  refine r_imul (pc := 7) C dX11_touches_7 ?_
  obtain ⟨x2_3, ex2_3, hr⟩ := gLet_some hr
  refine r_istore_n (pc := 8) C dX11_touches_8 rfl (by decide) ex2_3 (ls' := [(2, .int x2_3), (0, .ref (gad 50 0)), (1, .int p1)]) rfl ?_
  refine r_bipush (pc := 9) C dX11_touches_9 kb8 ?_
  refine r_aload_n (pc := 11) C dX11_touches_11 rfl 1 rfl ?_
  refine r_iload_n (pc := 12) C dX11_touches_12 rfl 2 rfl ?_
  obtain ⟨r_5, hc_4, hr⟩ := gBind_some hr
  refine c_X11_rightOf (pc := 13) C dX11_touches_13 q1679 ⟨Nat.le_of_ble_eq_true rfl, Nat.le_of_ble_eq_true rfl⟩ hc_4 (Nat.le_of_ble_eq_true rfl) ?_
  refine r_imul (pc := 16) C dX11_touches_16 ?_
  obtain ⟨x3_6, ex3_6, hr⟩ := gLet_some hr
  refine r_istore_n (pc := 17) C dX11_touches_17 rfl (by decide) ex3_6 (ls' := [(3, .int x3_6), (2, .int x2_3), (0, .ref (gad 50 0)), (1, .int p1)]) rfl ?_
  refine r_bipush (pc := 18) C dX11_touches_18 kb8 ?_
  refine r_aload_n (pc := 20) C dX11_touches_20 rfl 2 rfl ?_
  refine r_iload_n (pc := 21) C dX11_touches_21 rfl 3 rfl ?_
  obtain ⟨r_8, hc_7, hr⟩ := gBind_some hr
  refine c_X11_topOf (pc := 22) C dX11_touches_22 q1683 ⟨Nat.le_of_ble_eq_true rfl, Nat.le_of_ble_eq_true rfl⟩ hc_7 (Nat.le_of_ble_eq_true rfl) ?_
  refine r_imul (pc := 25) C dX11_touches_25 ?_
  obtain ⟨x4_9, ex4_9, hr⟩ := gLet_some hr
  refine r_istore (pc := 26) C dX11_touches_26 (by decide) ex4_9 (ls' := [(4, .int x4_9), (3, .int x3_6), (2, .int x2_3), (0, .ref (gad 50 0)), (1, .int p1)]) rfl ?_
  refine r_bipush (pc := 28) C dX11_touches_28 kb8 ?_
  refine r_aload_n (pc := 30) C dX11_touches_30 rfl 3 rfl ?_
  refine r_iload_n (pc := 31) C dX11_touches_31 rfl 4 rfl ?_
  obtain ⟨r_11, hc_10, hr⟩ := gBind_some hr
  refine c_X11_lowOf (pc := 32) C dX11_touches_32 q1687 ⟨Nat.le_of_ble_eq_true rfl, Nat.le_of_ble_eq_true rfl⟩ hc_10 (Nat.le_of_ble_eq_true rfl) ?_
  refine r_imul (pc := 35) C dX11_touches_35 ?_
  obtain ⟨x5_12, ex5_12, hr⟩ := gLet_some hr
  refine r_istore (pc := 36) C dX11_touches_36 (by decide) ex5_12 (ls' := [(5, .int x5_12), (4, .int x4_9), (3, .int x3_6), (2, .int x2_3), (0, .ref (gad 50 0)), (1, .int p1)]) rfl ?_
  refine r_aload_n (pc := 38) C dX11_touches_38 rfl 4 rfl ?_
  refine g50_31 (pc := 39) C dX11_touches_39 q1431 (e50 nf) ?_
  refine r_if_ne (pc := 42) (tgt := 71) C dX11_touches_42 rfl (fun c_13 => ?_) (fun c_13 => ?_)
  · replace hr := (if_neg c_13).symm.trans hr
    refine r_iconst (pc := 71) C dX11_touches_71 ki0 ?_
    exact r_zret (pc := 72) CR dX11_touches_72 rfl (congrArg (fun z => some (Value.int z)) (gSome hr)) rfl
  · replace hr := (if_pos c_13).symm.trans hr
    refine r_aload_n (pc := 45) C dX11_touches_45 rfl 4 rfl ?_
    refine g50_25 (pc := 46) C dX11_touches_46 q1425 (e50 nf) ?_
    refine r_iload_n (pc := 49) C dX11_touches_49 rfl 3 rfl ?_
    refine r_iload_n (pc := 50) C dX11_touches_50 rfl 2 rfl ?_
    obtain ⟨r_15, hc_14, hr⟩ := gBind_some hr
    refine c_X11_isAside (pc := 51) C dX11_touches_51 q1691 ⟨Nat.le_of_ble_eq_true rfl, Nat.le_of_ble_eq_true rfl⟩ (by decide) hc_14 (Nat.le_of_ble_eq_true rfl) ?_
    refine r_if_ne (pc := 54) (tgt := 71) C dX11_touches_54 rfl (fun c_16 => ?_) (fun c_16 => ?_)
    · replace hr := (if_neg c_16).symm.trans hr
      refine r_iconst (pc := 71) C dX11_touches_71 ki0 ?_
      exact r_zret (pc := 72) CR dX11_touches_72 rfl (congrArg (fun z => some (Value.int z)) (gSome hr)) rfl
    · replace hr := (if_pos c_16).symm.trans hr
      refine r_aload_n (pc := 57) C dX11_touches_57 rfl 4 rfl ?_
      refine g50_26 (pc := 58) C dX11_touches_58 q1426 (e50 nf) ?_
      refine r_iload (pc := 61) C dX11_touches_61 1 rfl ?_
      refine r_iload (pc := 63) C dX11_touches_63 0 rfl ?_
      obtain ⟨r_18, hc_17, hr⟩ := gBind_some hr
      refine c_X11_isAside (pc := 65) C dX11_touches_65 q1691 ⟨Nat.le_of_ble_eq_true rfl, Nat.le_of_ble_eq_true rfl⟩ (by decide) hc_17 (Nat.le_of_ble_eq_true rfl) ?_
      refine r_if_eq (pc := 68) (tgt := 73) C dX11_touches_68 rfl (fun c_19 => ?_) (fun c_19 => ?_)
      · replace hr := (if_pos c_19).symm.trans hr
        refine r_iconst (pc := 73) C dX11_touches_73 ki0 ?_
        refine r_istore (pc := 74) C dX11_touches_74 (by decide) rfl (ls' := [(6, .int 0), (5, .int x5_12), (4, .int x4_9), (3, .int x3_6), (2, .int x2_3), (0, .ref (gad 50 0)), (1, .int p1)]) rfl ?_
        refine r_sub C [5, 4, 3, 2, 1, 0] (ls' := [(0, .ref (gad 50 0)), (2, .int x2_3), (3, .int x3_6), (4, .int x4_9), (5, .int x5_12), (6, .int 0)]) rfl ?_
        obtain ⟨ev, hit, hr⟩ := gBind_some hr
        refine gIter_V (step := fun s => X11_touches_L76 x2_3 x3_6 x4_9 x5_12 s M) (P := fun s => Ψ M 76 [(0, .ref (gad 50 0)), (2, .int x2_3), (3, .int x3_6), (4, .int x4_9), (5, .int x5_12), (6, .int s)] []) (K := (gSP (fun e => Ψ M 130 [] []) (fun e => Ψ M 138 [] []))) (fun s w hs hn hx => t_X11_touches_L76 C  hs hn hx) FU 0 ev hit ?_
        rcases ev with _ | _
        · replace hr := gS2_l hr
          show Ψ M 130 [] []
          refine r_iconst (pc := 130) C dX11_touches_130 ki0 ?_
          exact r_zret (pc := 131) CR dX11_touches_131 rfl (congrArg (fun z => some (Value.int z)) (gSome hr)) rfl
        · replace hr := gS2_r hr
          show Ψ M 138 [] []
          refine r_iconst (pc := 138) C dX11_touches_138 ki1 ?_
          exact r_zret (pc := 139) CR dX11_touches_139 rfl (congrArg (fun z => some (Value.int z)) (gSome hr)) rfl
      · replace hr := (if_neg c_19).symm.trans hr
        refine r_iconst (pc := 71) C dX11_touches_71 ki0 ?_
        exact r_zret (pc := 72) CR dX11_touches_72 rfl (congrArg (fun z => some (Value.int z)) (gSome hr)) rfl
theorem c_X11_touches {Ψ : gM → Nat → List (Nat × Value) → List Value → Prop} {G : gG5} {nf : Nat} {cc : ByteArray} {own : String} {nL : Nat} {ret : Option FieldType} {fr lo : Nat} {v0 : Option Value} {M0 M : gM} {pc index : Nat} {ls : List (Nat × Value)} {st : List Value} (C : gC Ψ G (gXn nf) cc own nL ret fr lo v0 M0) (d : decode cc pc = .ok (.invokevirtual index, 3)) (hl : Cond.methodLink own index yX11_touches ∈ gws) (hR : 4 ≤ fr ∧ 89 ≤ lo) {p1 : Int32} {r : Int32} (hr : X11_touches p1 M = some r) (hcat : (st.map fun v => v.category).sum ≤ 8) (k : Ψ M (pc + 3) ls (.int r :: st)) : Ψ M pc ls (.int p1 :: .ref (gad 50 0) :: st) := r_callV C [.int p1] st d (k_X11_touches hr) hl q1673 q60 q127 q1674 hd_X11_touches hR rfl (by decide) (e50 nf) rfl hcat k
theorem hd_X11_touched : yX11_touched.cls ≠ "java/lang/invoke/MethodHandle" ∧ yX11_touched.cls ≠ "java/lang/invoke/VarHandle" ∧ (parseMethodDescriptor yX11_touched.desc).map (fun d => d.parameters.length) = some 2 := by decide +kernel
noncomputable def X11_touched_L11 (x3 : Int32) (x4 : Int32) (M : gM) : Option ((Int32 × Int32) ⊕ Int32) := (X11_tilesAll M).bind (fun r_4 => (if r_4 ≤ x4 then some (.inr x3) else (X11_touches x4 M).bind (fun r_7 => (if r_7 = 0 then gLet ((x3 ||| 0)) (fun x3_9 => gLet (x4 + 1) (fun x4_10 => some (.inl (x3_9, x4_10)))) else gLet ((x3 ||| (1 <<< (x4 &&& 31)))) (fun x3_11 => gLet (x4 + 1) (fun x4_12 => some (.inl (x3_11, x4_12))))))))
theorem t_X11_touched_L11 {Ψ : gM → Nat → List (Nat × Value) → List Value → Prop} {G : gG5} {nf : Nat} {M : gM} {v0 : Option Value} {M0 : gM} {x3 : Int32} {x4 : Int32} {w : ((Int32 × Int32) ⊕ Int32)} (C : gC Ψ G (gXn nf) cX11_touched RX11 5 (some .int) 4 89 v0 M0) (hr : X11_touched_L11 x3 x4 M = some w) (hn : ∀ s, w = .inl s → Ψ M 11 [(0, .ref (gad 50 0)), (3, .int (s.1)), (4, .int (s.2))] []) (hx : ∀ e, w = .inr e → (fun e => Ψ M 46 [(3, .int e)] []) e) : Ψ M 11 [(0, .ref (gad 50 0)), (3, .int x3), (4, .int x4)] [] := by
  refine r_iload (pc := 11) C dX11_touched_11 2 rfl ?_
  refine r_aload_n (pc := 13) C dX11_touched_13 rfl 0 rfl ?_
  obtain ⟨r_4, hc_3, hr⟩ := gBind_some hr
  refine c_X11_tilesAll (pc := 14) C dX11_touched_14 q1663 ⟨Nat.le_of_ble_eq_true rfl, Nat.le_of_ble_eq_true rfl⟩ hc_3 (Nat.le_of_ble_eq_true rfl) ?_
  refine r_icmp_ge (pc := 17) (tgt := 46) C dX11_touched_17 rfl (fun c_5 => ?_) (fun c_5 => ?_)
  · replace hr := (if_pos c_5).symm.trans hr
    refine r_sub C [1] (ls' := [(3, .int x3)]) rfl ?_
    exact hx x3 (gSome hr)
  · replace hr := (if_neg c_5).symm.trans hr
    refine r_iload_n (pc := 20) C dX11_touched_20 rfl 1 rfl ?_
    refine r_aload_n (pc := 21) C dX11_touched_21 rfl 0 rfl ?_
    refine r_iload (pc := 22) C dX11_touched_22 2 rfl ?_
    obtain ⟨r_7, hc_6, hr⟩ := gBind_some hr
    refine c_X11_touches (pc := 24) C dX11_touched_24 q1671 ⟨Nat.le_of_ble_eq_true rfl, Nat.le_of_ble_eq_true rfl⟩ hc_6 (Nat.le_of_ble_eq_true rfl) ?_
    refine r_if_eq (pc := 27) (tgt := 37) C dX11_touched_27 rfl (fun c_8 => ?_) (fun c_8 => ?_)
    · replace hr := (if_pos c_8).symm.trans hr
      refine r_iconst (pc := 37) C dX11_touched_37 ki0 ?_
      refine r_ior (pc := 38) C dX11_touched_38 ?_
      obtain ⟨x3_9, ex3_9, hr⟩ := gLet_some hr
      refine r_istore_n (pc := 39) C dX11_touched_39 rfl (by decide) ex3_9 (ls' := [(3, .int x3_9), (0, .ref (gad 50 0)), (4, .int x4)]) rfl ?_
      obtain ⟨x4_10, ex4_10, hr⟩ := gLet_some hr
      refine r_iinc (pc := 40) C dX11_touched_40 2 rfl rfl (by decide) ex4_10 (ls' := [(4, .int x4_10), (3, .int x3_9), (0, .ref (gad 50 0))]) rfl ?_
      refine r_goto (pc := 43) (tgt := 11) C dX11_touched_43 rfl ?_
      refine r_sub C [2, 1, 0] (ls' := [(0, .ref (gad 50 0)), (3, .int x3_9), (4, .int x4_10)]) rfl ?_
      exact hn (x3_9, x4_10) (gSome hr)
    · replace hr := (if_neg c_8).symm.trans hr
      refine r_iconst (pc := 30) C dX11_touched_30 ki1 ?_
      refine r_iload (pc := 31) C dX11_touched_31 2 rfl ?_
      refine r_ishl (pc := 33) C dX11_touched_33 ?_
      refine r_goto (pc := 34) (tgt := 38) C dX11_touched_34 rfl ?_
      refine r_ior (pc := 38) C dX11_touched_38 ?_
      obtain ⟨x3_11, ex3_11, hr⟩ := gLet_some hr
      refine r_istore_n (pc := 39) C dX11_touched_39 rfl (by decide) ex3_11 (ls' := [(3, .int x3_11), (0, .ref (gad 50 0)), (4, .int x4)]) rfl ?_
      obtain ⟨x4_12, ex4_12, hr⟩ := gLet_some hr
      refine r_iinc (pc := 40) C dX11_touched_40 2 rfl rfl (by decide) ex4_12 (ls' := [(4, .int x4_12), (3, .int x3_11), (0, .ref (gad 50 0))]) rfl ?_
      refine r_goto (pc := 43) (tgt := 11) C dX11_touched_43 rfl ?_
      refine r_sub C [2, 1, 0] (ls' := [(0, .ref (gad 50 0)), (3, .int x3_11), (4, .int x4_12)]) rfl ?_
      exact hn (x3_11, x4_12) (gSome hr)
noncomputable def X11_touched (i1 : Nat) (p2 : Int32) (M : gM) : Option (Int32 × gM) := (X11_asks i1 p2 M).bind (fun M_2 => (gIter (fun s => X11_touched_L11 s.1 s.2 M_2) FU (0, 0)).bind (fun x3_13 => some (x3_13, M_2)))
theorem k_X11_touched {G : gG5} {nf : Nat} {M : gM} {i1 : Nat} {p2 : Int32} (h1 : i1 < 20) {r : Int32} {M1 : gM} (hr : X11_touched i1 p2 M = some (r, M1)) : gMet G (gXn nf) yX11_touched cX11_touched 5 (some .int) 4 89 M [.ref (gad 50 0), .ref (gad 52 i1), .int p2] (some (.int r)) M1 := by
  refine gMet_of pl_X11 rfl (Nat.le_of_ble_eq_true rfl) (fun Ψ C CR => ?_)
  show Ψ M 0 [(0, .ref (gad 50 0)), (1, .ref (gad 52 i1)), (2, .int p2)] []
  refine r_aload_n (pc := 0) C dX11_touched_0 rfl 0 rfl ?_
  refine r_aload_n (pc := 1) C dX11_touched_1 rfl 1 rfl ?_
  refine r_iload_n (pc := 2) C dX11_touched_2 rfl 2 rfl ?_
  obtain ⟨M_2, hc_1, hr⟩ := gBind_some hr
  refine c_X11_asks (pc := 3) C dX11_touched_3 q1652 ⟨Nat.le_of_ble_eq_true rfl, Nat.le_of_ble_eq_true rfl⟩ h1 hc_1 (Nat.le_of_ble_eq_true rfl) ?_
  refine r_iconst (pc := 6) C dX11_touched_6 ki0 ?_
  refine r_istore_n (pc := 7) C dX11_touched_7 rfl (by decide) rfl (ls' := [(3, .int 0), (0, .ref (gad 50 0)), (1, .ref (gad 52 i1)), (2, .int p2)]) rfl ?_
  refine r_iconst (pc := 8) C dX11_touched_8 ki0 ?_
  refine r_istore (pc := 9) C dX11_touched_9 (by decide) rfl (ls' := [(4, .int 0), (3, .int 0), (0, .ref (gad 50 0)), (1, .ref (gad 52 i1)), (2, .int p2)]) rfl ?_
  refine r_sub C [2, 1, 0] (ls' := [(0, .ref (gad 50 0)), (3, .int 0), (4, .int 0)]) rfl ?_
  obtain ⟨ev, hit, hr⟩ := gBind_some hr
  refine gIter_V (step := fun s => X11_touched_L11 s.1 s.2 M_2) (P := fun s => Ψ M_2 11 [(0, .ref (gad 50 0)), (3, .int (s.1)), (4, .int (s.2))] []) (K := (fun e => Ψ M_2 46 [(3, .int e)] [])) (fun s w hs hn hx => t_X11_touched_L11 C  hs hn hx) FU (0, 0) ev hit ?_
  obtain ⟨x3_13, rfl⟩ : ∃ z, z = ev := ⟨_, rfl⟩
  show Ψ M_2 46 [(3, .int x3_13)] []
  refine r_iload_n (pc := 46) C dX11_touched_46 rfl 0 rfl ?_
  exact r_iret (pc := 47) CR dX11_touched_47 (congrArg (fun z => some (Value.int z)) (Prod.mk.inj (gSome hr)).1) (Prod.mk.inj (gSome hr)).2
theorem c_X11_touched {Ψ : gM → Nat → List (Nat × Value) → List Value → Prop} {G : gG5} {nf : Nat} {cc : ByteArray} {own : String} {nL : Nat} {ret : Option FieldType} {fr lo : Nat} {v0 : Option Value} {M0 M : gM} {pc index : Nat} {ls : List (Nat × Value)} {st : List Value} (C : gC Ψ G (gXn nf) cc own nL ret fr lo v0 M0) (d : decode cc pc = .ok (.invokevirtual index, 3)) (hl : Cond.methodLink own index yX11_touched ∈ gws) (hR : 5 ≤ fr ∧ 113 ≤ lo) {i1 : Nat} {p2 : Int32} (h1 : i1 < 20) {r : Int32} {M1 : gM} (hr : X11_touched i1 p2 M = some (r, M1)) (hcat : (st.map fun v => v.category).sum ≤ 8) (k : Ψ M1 (pc + 3) ls (.int r :: st)) : Ψ M pc ls (.int p2 :: .ref (gad 52 i1) :: .ref (gad 50 0) :: st) := r_callV C [.ref (gad 52 i1), .int p2] st d (k_X11_touched h1 hr) hl q1650 q55 q127 q1651 hd_X11_touched hR rfl (by decide) (e50 nf) rfl hcat k
theorem hd_X11_place : yX11_place.cls ≠ "java/lang/invoke/MethodHandle" ∧ yX11_place.cls ≠ "java/lang/invoke/VarHandle" ∧ (parseMethodDescriptor yX11_place.desc).map (fun d => d.parameters.length) = some 3 := by decide +kernel
noncomputable def X11_place (p0 : Int32) (p1 : Int32) (p2 : Int32) (M : gM) : Option Int32 := some ((4 * ((8 * p1) + p0)) + p2)
theorem k_X11_place {G : gG5} {nf : Nat} {M : gM} {p0 : Int32} {p1 : Int32} {p2 : Int32} {r : Int32} (hr : X11_place p0 p1 p2 M = some r) : gMet G (gXn nf) yX11_place cX11_place 3 (some .int) 0 0 M [.int p0, .int p1, .int p2] (some (.int r)) M := by
  refine gMet_of pl_X11 rfl (Nat.le_of_ble_eq_true rfl) (fun Ψ C CR => ?_)
  show Ψ M 0 [(0, .int p0), (1, .int p1), (2, .int p2)] []
  refine r_iconst (pc := 0) C dX11_place_0 ki4 ?_
  refine r_bipush (pc := 1) C dX11_place_1 kb8 ?_
  refine r_iload_n (pc := 3) C dX11_place_3 rfl 1 rfl ?_
  refine r_imul (pc := 4) C dX11_place_4 ?_
  refine r_iload_n (pc := 5) C dX11_place_5 rfl 0 rfl ?_
  refine r_iadd (pc := 6) C dX11_place_6 ?_
  refine r_imul (pc := 7) C dX11_place_7 ?_
  refine r_iload_n (pc := 8) C dX11_place_8 rfl 2 rfl ?_
  refine r_iadd (pc := 9) C dX11_place_9 ?_
  exact r_iret (pc := 10) CR dX11_place_10 (congrArg (fun z => some (Value.int z)) (gSome hr)) rfl
theorem c_X11_place {Ψ : gM → Nat → List (Nat × Value) → List Value → Prop} {G : gG5} {nf : Nat} {cc : ByteArray} {own : String} {nL : Nat} {ret : Option FieldType} {fr lo : Nat} {v0 : Option Value} {M0 M : gM} {pc index : Nat} {ls : List (Nat × Value)} {st : List Value} (C : gC Ψ G (gXn nf) cc own nL ret fr lo v0 M0) (d : decode cc pc = .ok (.invokestatic index, 3)) (hl : Cond.methodLink own index yX11_place ∈ gws) (hR : 1 ≤ fr ∧ 22 ≤ lo) {p0 : Int32} {p1 : Int32} {p2 : Int32} {r : Int32} (hr : X11_place p0 p1 p2 M = some r) (hcat : (st.map fun v => v.category).sum ≤ 8) (k : Ψ M (pc + 3) ls (.int r :: st)) : Ψ M pc ls (.int p2 :: .int p1 :: .int p0 :: st) := r_callS C [.int p0, .int p1, .int p2] st d (k_X11_place hr) hl q1726 q127 q1727 hd_X11_place hR rfl hcat k
theorem hd_X11_depthOf : yX11_depthOf.cls ≠ "java/lang/invoke/MethodHandle" ∧ yX11_depthOf.cls ≠ "java/lang/invoke/VarHandle" ∧ (parseMethodDescriptor yX11_depthOf.desc).map (fun d => d.parameters.length) = some 3 := by decide +kernel
noncomputable def X11_depthOf_L57 (i1 : Nat) (x2 : Int32) (x3 : Int32) (x5 : Int32) (x6 : Int32) (x4 : Int32) (x7 : Int32) (M : gM) : Option ((Int32 × Int32) ⊕ Int32) := (if (M.1 52 2 3) ≤ x7 then some (.inr x4) else (X11_place x6 x5 x7 M).bind (fun r_21 => gG (gin (0 + r_21) (gLen 52 i1)) (gLet ((M.1 52 i1 (Int32.toNatClampNeg (0 + r_21)))) (fun x8_23 => (if x3 = 0 then (if x4 ≤ x8_23 then gLet (x7 + 1) (fun x7_26 => some (.inl (x4, x7_26))) else gLet (x7 + 1) (fun x7_27 => some (.inl (x8_23, x7_27)))) else (if x8_23 ≤ x4 then gLet (x7 + 1) (fun x7_29 => some (.inl (x4, x7_29))) else gLet (x7 + 1) (fun x7_30 => some (.inl (x8_23, x7_30)))))))))
theorem t_X11_depthOf_L57 {Ψ : gM → Nat → List (Nat × Value) → List Value → Prop} {G : gG5} {nf : Nat} {M : gM} {v0 : Option Value} {M0 : gM} {i1 : Nat} {x2 : Int32} {x3 : Int32} {x5 : Int32} {x6 : Int32} {x4 : Int32} {x7 : Int32} {w : ((Int32 × Int32) ⊕ Int32)} (C : gC Ψ G (gXn nf) cX11_depthOf RX11 9 (some .int) 3 63 v0 M0) (h1 : i1 < 20) (hr : X11_depthOf_L57 i1 x2 x3 x5 x6 x4 x7 M = some w) (hn : ∀ s, w = .inl s → Ψ M 57 [(0, .ref (gad 50 0)), (1, .ref (gad 52 i1)), (2, .int x2), (3, .int x3), (4, .int (s.1)), (5, .int x5), (6, .int x6), (7, .int (s.2))] []) (hx : ∀ e, w = .inr e → (fun e => Ψ M 114 [(0, .ref (gad 50 0)), (1, .ref (gad 52 i1)), (2, .int x2), (3, .int x3), (4, .int e), (5, .int x5), (6, .int x6)] []) e) : Ψ M 57 [(0, .ref (gad 50 0)), (1, .ref (gad 52 i1)), (2, .int x2), (3, .int x3), (4, .int x4), (5, .int x5), (6, .int x6), (7, .int x7)] [] := by
  refine r_iload (pc := 57) C dX11_depthOf_57 7 rfl ?_
  refine r_aload_n (pc := 59) C dX11_depthOf_59 rfl 0 rfl ?_
  refine g50_9 (pc := 60) C dX11_depthOf_60 q1409 (e50 nf) ?_
  refine r_iconst (pc := 63) C dX11_depthOf_63 ki3 ?_
  refine r_ialdN (pc := 64) C dX11_depthOf_64 rfl (e52 (nf := nf) (by decide)) (by decide : gin 3 9 = true) kc3 ?_
  refine r_icmp_ge (pc := 65) (tgt := 114) C dX11_depthOf_65 rfl (fun c_19 => ?_) (fun c_19 => ?_)
  · replace hr := (if_pos c_19).symm.trans hr
    refine r_sub C [0, 1, 2, 3, 4, 5, 6] (ls' := [(0, .ref (gad 50 0)), (1, .ref (gad 52 i1)), (2, .int x2), (3, .int x3), (4, .int x4), (5, .int x5), (6, .int x6)]) rfl ?_
    exact hx x4 (gSome hr)
  · replace hr := (if_neg c_19).symm.trans hr
    refine r_aload_n (pc := 68) C dX11_depthOf_68 rfl 1 rfl ?_
    refine r_iconst (pc := 69) C dX11_depthOf_69 ki0 ?_
    refine r_iload (pc := 70) C dX11_depthOf_70 6 rfl ?_
    refine r_iload (pc := 72) C dX11_depthOf_72 5 rfl ?_
    refine r_iload (pc := 74) C dX11_depthOf_74 7 rfl ?_
    obtain ⟨r_21, hc_20, hr⟩ := gBind_some hr
    refine c_X11_place (pc := 76) C dX11_depthOf_76 q1725 ⟨Nat.le_of_ble_eq_true rfl, Nat.le_of_ble_eq_true rfl⟩ hc_20 (Nat.le_of_ble_eq_true rfl) ?_
    refine r_iadd (pc := 79) C dX11_depthOf_79 ?_
    obtain ⟨g_22, hr⟩ := gG_some hr
    refine r_ialdN (pc := 80) C dX11_depthOf_80 rfl (e52 (nf := nf) h1) g_22 rfl ?_
    obtain ⟨x8_23, ex8_23, hr⟩ := gLet_some hr
    refine r_istore (pc := 81) C dX11_depthOf_81 (by decide) ex8_23 (ls' := [(8, .int x8_23), (0, .ref (gad 50 0)), (1, .ref (gad 52 i1)), (2, .int x2), (3, .int x3), (4, .int x4), (5, .int x5), (6, .int x6), (7, .int x7)]) rfl ?_
    refine r_iload_n (pc := 83) C dX11_depthOf_83 rfl 4 rfl ?_
    refine r_if_eq (pc := 84) (tgt := 97) C dX11_depthOf_84 rfl (fun c_24 => ?_) (fun c_24 => ?_)
    · replace hr := (if_pos c_24).symm.trans hr
      refine r_iload (pc := 97) C dX11_depthOf_97 0 rfl ?_
      refine r_iload (pc := 99) C dX11_depthOf_99 5 rfl ?_
      refine r_icmp_ge (pc := 101) (tgt := 108) C dX11_depthOf_101 rfl (fun c_25 => ?_) (fun c_25 => ?_)
      · replace hr := (if_pos c_25).symm.trans hr
        obtain ⟨x7_26, ex7_26, hr⟩ := gLet_some hr
        refine r_iinc (pc := 108) C dX11_depthOf_108 8 rfl rfl (by decide) ex7_26 (ls' := [(7, .int x7_26), (8, .int x8_23), (0, .ref (gad 50 0)), (1, .ref (gad 52 i1)), (2, .int x2), (3, .int x3), (4, .int x4), (5, .int x5), (6, .int x6)]) rfl ?_
        refine r_goto (pc := 111) (tgt := 57) C dX11_depthOf_111 rfl ?_
        refine r_sub C [2, 3, 4, 5, 6, 7, 8, 0] (ls' := [(0, .ref (gad 50 0)), (1, .ref (gad 52 i1)), (2, .int x2), (3, .int x3), (4, .int x4), (5, .int x5), (6, .int x6), (7, .int x7_26)]) rfl ?_
        exact hn (x4, x7_26) (gSome hr)
      · replace hr := (if_neg c_25).symm.trans hr
        refine r_iload (pc := 104) C dX11_depthOf_104 0 rfl ?_
        refine r_istore (pc := 106) C dX11_depthOf_106 (by decide) rfl (ls' := [(4, .int x8_23), (8, .int x8_23), (0, .ref (gad 50 0)), (1, .ref (gad 52 i1)), (2, .int x2), (3, .int x3), (5, .int x5), (6, .int x6), (7, .int x7)]) rfl ?_
        obtain ⟨x7_27, ex7_27, hr⟩ := gLet_some hr
        refine r_iinc (pc := 108) C dX11_depthOf_108 8 rfl rfl (by decide) ex7_27 (ls' := [(7, .int x7_27), (4, .int x8_23), (8, .int x8_23), (0, .ref (gad 50 0)), (1, .ref (gad 52 i1)), (2, .int x2), (3, .int x3), (5, .int x5), (6, .int x6)]) rfl ?_
        refine r_goto (pc := 111) (tgt := 57) C dX11_depthOf_111 rfl ?_
        refine r_sub C [3, 4, 5, 6, 1, 7, 8, 0] (ls' := [(0, .ref (gad 50 0)), (1, .ref (gad 52 i1)), (2, .int x2), (3, .int x3), (4, .int x8_23), (5, .int x5), (6, .int x6), (7, .int x7_27)]) rfl ?_
        exact hn (x8_23, x7_27) (gSome hr)
    · replace hr := (if_neg c_24).symm.trans hr
      refine r_iload (pc := 87) C dX11_depthOf_87 0 rfl ?_
      refine r_iload (pc := 89) C dX11_depthOf_89 5 rfl ?_
      refine r_icmp_le (pc := 91) (tgt := 108) C dX11_depthOf_91 rfl (fun c_28 => ?_) (fun c_28 => ?_)
      · replace hr := (if_pos c_28).symm.trans hr
        obtain ⟨x7_29, ex7_29, hr⟩ := gLet_some hr
        refine r_iinc (pc := 108) C dX11_depthOf_108 8 rfl rfl (by decide) ex7_29 (ls' := [(7, .int x7_29), (8, .int x8_23), (0, .ref (gad 50 0)), (1, .ref (gad 52 i1)), (2, .int x2), (3, .int x3), (4, .int x4), (5, .int x5), (6, .int x6)]) rfl ?_
        refine r_goto (pc := 111) (tgt := 57) C dX11_depthOf_111 rfl ?_
        refine r_sub C [2, 3, 4, 5, 6, 7, 8, 0] (ls' := [(0, .ref (gad 50 0)), (1, .ref (gad 52 i1)), (2, .int x2), (3, .int x3), (4, .int x4), (5, .int x5), (6, .int x6), (7, .int x7_29)]) rfl ?_
        exact hn (x4, x7_29) (gSome hr)
      · replace hr := (if_neg c_28).symm.trans hr
        refine r_goto (pc := 94) (tgt := 104) C dX11_depthOf_94 rfl ?_
        refine r_iload (pc := 104) C dX11_depthOf_104 0 rfl ?_
        refine r_istore (pc := 106) C dX11_depthOf_106 (by decide) rfl (ls' := [(4, .int x8_23), (8, .int x8_23), (0, .ref (gad 50 0)), (1, .ref (gad 52 i1)), (2, .int x2), (3, .int x3), (5, .int x5), (6, .int x6), (7, .int x7)]) rfl ?_
        obtain ⟨x7_30, ex7_30, hr⟩ := gLet_some hr
        refine r_iinc (pc := 108) C dX11_depthOf_108 8 rfl rfl (by decide) ex7_30 (ls' := [(7, .int x7_30), (4, .int x8_23), (8, .int x8_23), (0, .ref (gad 50 0)), (1, .ref (gad 52 i1)), (2, .int x2), (3, .int x3), (5, .int x5), (6, .int x6)]) rfl ?_
        refine r_goto (pc := 111) (tgt := 57) C dX11_depthOf_111 rfl ?_
        refine r_sub C [3, 4, 5, 6, 1, 7, 8, 0] (ls' := [(0, .ref (gad 50 0)), (1, .ref (gad 52 i1)), (2, .int x2), (3, .int x3), (4, .int x8_23), (5, .int x5), (6, .int x6), (7, .int x7_30)]) rfl ?_
        exact hn (x8_23, x7_30) (gSome hr)
noncomputable def X11_depthOf_L44 (i1 : Nat) (x2 : Int32) (x3 : Int32) (x5 : Int32) (x4 : Int32) (x6 : Int32) (M : gM) : Option ((Int32 × Int32) ⊕ Int32) := (X11_rightOf x2 M).bind (fun r_17 => (if r_17 ≤ x6 then some (.inr x4) else (gIter (fun s => X11_depthOf_L57 i1 x2 x3 x5 x6 s.1 s.2 M) FU (x4, 0)).bind (fun x4_31 => gLet (x6 + 1) (fun x6_32 => some (.inl (x4_31, x6_32))))))
theorem t_X11_depthOf_L44 {Ψ : gM → Nat → List (Nat × Value) → List Value → Prop} {G : gG5} {nf : Nat} {M : gM} {v0 : Option Value} {M0 : gM} {i1 : Nat} {x2 : Int32} {x3 : Int32} {x5 : Int32} {x4 : Int32} {x6 : Int32} {w : ((Int32 × Int32) ⊕ Int32)} (C : gC Ψ G (gXn nf) cX11_depthOf RX11 9 (some .int) 3 63 v0 M0) (h1 : i1 < 20) (hr : X11_depthOf_L44 i1 x2 x3 x5 x4 x6 M = some w) (hn : ∀ s, w = .inl s → Ψ M 44 [(0, .ref (gad 50 0)), (1, .ref (gad 52 i1)), (2, .int x2), (3, .int x3), (4, .int (s.1)), (5, .int x5), (6, .int (s.2))] []) (hx : ∀ e, w = .inr e → (fun e => Ψ M 120 [(0, .ref (gad 50 0)), (1, .ref (gad 52 i1)), (2, .int x2), (3, .int x3), (4, .int e), (5, .int x5)] []) e) : Ψ M 44 [(0, .ref (gad 50 0)), (1, .ref (gad 52 i1)), (2, .int x2), (3, .int x3), (4, .int x4), (5, .int x5), (6, .int x6)] [] := by
  refine r_iload (pc := 44) C dX11_depthOf_44 6 rfl ?_
  refine r_aload_n (pc := 46) C dX11_depthOf_46 rfl 0 rfl ?_
  refine r_iload_n (pc := 47) C dX11_depthOf_47 rfl 2 rfl ?_
  obtain ⟨r_17, hc_16, hr⟩ := gBind_some hr
  refine c_X11_rightOf (pc := 48) C dX11_depthOf_48 q1679 ⟨Nat.le_of_ble_eq_true rfl, Nat.le_of_ble_eq_true rfl⟩ hc_16 (Nat.le_of_ble_eq_true rfl) ?_
  refine r_icmp_ge (pc := 51) (tgt := 120) C dX11_depthOf_51 rfl (fun c_18 => ?_) (fun c_18 => ?_)
  · replace hr := (if_pos c_18).symm.trans hr
    refine r_sub C [0, 1, 2, 3, 4, 5] (ls' := [(0, .ref (gad 50 0)), (1, .ref (gad 52 i1)), (2, .int x2), (3, .int x3), (4, .int x4), (5, .int x5)]) rfl ?_
    exact hx x4 (gSome hr)
  · replace hr := (if_neg c_18).symm.trans hr
    refine r_iconst (pc := 54) C dX11_depthOf_54 ki0 ?_
    refine r_istore (pc := 55) C dX11_depthOf_55 (by decide) rfl (ls' := [(7, .int 0), (0, .ref (gad 50 0)), (1, .ref (gad 52 i1)), (2, .int x2), (3, .int x3), (4, .int x4), (5, .int x5), (6, .int x6)]) rfl ?_
    refine r_sub C [1, 2, 3, 4, 5, 6, 7, 0] (ls' := [(0, .ref (gad 50 0)), (1, .ref (gad 52 i1)), (2, .int x2), (3, .int x3), (4, .int x4), (5, .int x5), (6, .int x6), (7, .int 0)]) rfl ?_
    obtain ⟨ev, hit, hr⟩ := gBind_some hr
    refine gIter_V (step := fun s => X11_depthOf_L57 i1 x2 x3 x5 x6 s.1 s.2 M) (P := fun s => Ψ M 57 [(0, .ref (gad 50 0)), (1, .ref (gad 52 i1)), (2, .int x2), (3, .int x3), (4, .int (s.1)), (5, .int x5), (6, .int x6), (7, .int (s.2))] []) (K := (fun e => Ψ M 114 [(0, .ref (gad 50 0)), (1, .ref (gad 52 i1)), (2, .int x2), (3, .int x3), (4, .int e), (5, .int x5), (6, .int x6)] [])) (fun s w hs hn hx => t_X11_depthOf_L57 C h1 hs hn hx) FU (x4, 0) ev hit ?_
    obtain ⟨x4_31, rfl⟩ : ∃ z, z = ev := ⟨_, rfl⟩
    show Ψ M 114 [(0, .ref (gad 50 0)), (1, .ref (gad 52 i1)), (2, .int x2), (3, .int x3), (4, .int x4_31), (5, .int x5), (6, .int x6)] []
    obtain ⟨x6_32, ex6_32, hr⟩ := gLet_some hr
    refine r_iinc (pc := 114) C dX11_depthOf_114 6 rfl rfl (by decide) ex6_32 (ls' := [(6, .int x6_32), (0, .ref (gad 50 0)), (1, .ref (gad 52 i1)), (2, .int x2), (3, .int x3), (4, .int x4_31), (5, .int x5)]) rfl ?_
    refine r_goto (pc := 117) (tgt := 44) C dX11_depthOf_117 rfl ?_
    refine r_sub C [1, 2, 3, 4, 5, 6, 0] (ls' := [(0, .ref (gad 50 0)), (1, .ref (gad 52 i1)), (2, .int x2), (3, .int x3), (4, .int x4_31), (5, .int x5), (6, .int x6_32)]) rfl ?_
    exact hn (x4_31, x6_32) (gSome hr)
noncomputable def X11_depthOf_L27 (i1 : Nat) (x2 : Int32) (x3 : Int32) (x4 : Int32) (x5 : Int32) (M : gM) : Option ((Int32 × Int32) ⊕ Int32) := (X11_lowOf x2 M).bind (fun r_12 => (if r_12 ≤ x5 then some (.inr x4) else (X11_leftOf x2 M).bind (fun r_15 => (gIter (fun s => X11_depthOf_L44 i1 x2 x3 x5 s.1 s.2 M) FU (x4, r_15)).bind (fun x4_33 => gLet (x5 + 1) (fun x5_34 => some (.inl (x4_33, x5_34)))))))
theorem t_X11_depthOf_L27 {Ψ : gM → Nat → List (Nat × Value) → List Value → Prop} {G : gG5} {nf : Nat} {M : gM} {v0 : Option Value} {M0 : gM} {i1 : Nat} {x2 : Int32} {x3 : Int32} {x4 : Int32} {x5 : Int32} {w : ((Int32 × Int32) ⊕ Int32)} (C : gC Ψ G (gXn nf) cX11_depthOf RX11 9 (some .int) 3 63 v0 M0) (h1 : i1 < 20) (hr : X11_depthOf_L27 i1 x2 x3 x4 x5 M = some w) (hn : ∀ s, w = .inl s → Ψ M 27 [(0, .ref (gad 50 0)), (1, .ref (gad 52 i1)), (2, .int x2), (3, .int x3), (4, .int (s.1)), (5, .int (s.2))] []) (hx : ∀ e, w = .inr e → (fun e => Ψ M 126 [(4, .int e)] []) e) : Ψ M 27 [(0, .ref (gad 50 0)), (1, .ref (gad 52 i1)), (2, .int x2), (3, .int x3), (4, .int x4), (5, .int x5)] [] := by
  refine r_iload (pc := 27) C dX11_depthOf_27 5 rfl ?_
  refine r_aload_n (pc := 29) C dX11_depthOf_29 rfl 0 rfl ?_
  refine r_iload_n (pc := 30) C dX11_depthOf_30 rfl 2 rfl ?_
  obtain ⟨r_12, hc_11, hr⟩ := gBind_some hr
  refine c_X11_lowOf (pc := 31) C dX11_depthOf_31 q1687 ⟨Nat.le_of_ble_eq_true rfl, Nat.le_of_ble_eq_true rfl⟩ hc_11 (Nat.le_of_ble_eq_true rfl) ?_
  refine r_icmp_ge (pc := 34) (tgt := 126) C dX11_depthOf_34 rfl (fun c_13 => ?_) (fun c_13 => ?_)
  · replace hr := (if_pos c_13).symm.trans hr
    refine r_sub C [4] (ls' := [(4, .int x4)]) rfl ?_
    exact hx x4 (gSome hr)
  · replace hr := (if_neg c_13).symm.trans hr
    refine r_aload_n (pc := 37) C dX11_depthOf_37 rfl 0 rfl ?_
    refine r_iload_n (pc := 38) C dX11_depthOf_38 rfl 2 rfl ?_
    obtain ⟨r_15, hc_14, hr⟩ := gBind_some hr
    refine c_X11_leftOf (pc := 39) C dX11_depthOf_39 q1675 ⟨Nat.le_of_ble_eq_true rfl, Nat.le_of_ble_eq_true rfl⟩ hc_14 (Nat.le_of_ble_eq_true rfl) ?_
    refine r_istore (pc := 42) C dX11_depthOf_42 (by decide) rfl (ls' := [(6, .int r_15), (0, .ref (gad 50 0)), (1, .ref (gad 52 i1)), (2, .int x2), (3, .int x3), (4, .int x4), (5, .int x5)]) rfl ?_
    refine r_sub C [1, 2, 3, 4, 5, 6, 0] (ls' := [(0, .ref (gad 50 0)), (1, .ref (gad 52 i1)), (2, .int x2), (3, .int x3), (4, .int x4), (5, .int x5), (6, .int r_15)]) rfl ?_
    obtain ⟨ev, hit, hr⟩ := gBind_some hr
    refine gIter_V (step := fun s => X11_depthOf_L44 i1 x2 x3 x5 s.1 s.2 M) (P := fun s => Ψ M 44 [(0, .ref (gad 50 0)), (1, .ref (gad 52 i1)), (2, .int x2), (3, .int x3), (4, .int (s.1)), (5, .int x5), (6, .int (s.2))] []) (K := (fun e => Ψ M 120 [(0, .ref (gad 50 0)), (1, .ref (gad 52 i1)), (2, .int x2), (3, .int x3), (4, .int e), (5, .int x5)] [])) (fun s w hs hn hx => t_X11_depthOf_L44 C h1 hs hn hx) FU (x4, r_15) ev hit ?_
    obtain ⟨x4_33, rfl⟩ : ∃ z, z = ev := ⟨_, rfl⟩
    show Ψ M 120 [(0, .ref (gad 50 0)), (1, .ref (gad 52 i1)), (2, .int x2), (3, .int x3), (4, .int x4_33), (5, .int x5)] []
    obtain ⟨x5_34, ex5_34, hr⟩ := gLet_some hr
    refine r_iinc (pc := 120) C dX11_depthOf_120 5 rfl rfl (by decide) ex5_34 (ls' := [(5, .int x5_34), (0, .ref (gad 50 0)), (1, .ref (gad 52 i1)), (2, .int x2), (3, .int x3), (4, .int x4_33)]) rfl ?_
    refine r_goto (pc := 123) (tgt := 27) C dX11_depthOf_123 rfl ?_
    refine r_sub C [1, 2, 3, 4, 5, 0] (ls' := [(0, .ref (gad 50 0)), (1, .ref (gad 52 i1)), (2, .int x2), (3, .int x3), (4, .int x4_33), (5, .int x5_34)]) rfl ?_
    exact hn (x4_33, x5_34) (gSome hr)
noncomputable def X11_depthOf (i1 : Nat) (p2 : Int32) (p3 : Int32) (M : gM) : Option Int32 := (X11_leftOf p2 M).bind (fun r_2 => (X11_topOf p2 M).bind (fun r_4 => (X11_place r_2 r_4 0 M).bind (fun r_6 => gG (gin (0 + r_6) (gLen 52 i1)) (gLet ((M.1 52 i1 (Int32.toNatClampNeg (0 + r_6)))) (fun x4_8 => (X11_topOf p2 M).bind (fun r_10 => (gIter (fun s => X11_depthOf_L27 i1 p2 p3 s.1 s.2 M) FU (x4_8, r_10)).bind (fun x4_35 => some x4_35)))))))
theorem k_X11_depthOf {G : gG5} {nf : Nat} {M : gM} {i1 : Nat} {p2 : Int32} {p3 : Int32} (h1 : i1 < 20) {r : Int32} (hr : X11_depthOf i1 p2 p3 M = some r) : gMet G (gXn nf) yX11_depthOf cX11_depthOf 9 (some .int) 3 63 M [.ref (gad 50 0), .ref (gad 52 i1), .int p2, .int p3] (some (.int r)) M := by
  refine gMet_of pl_X11 rfl (Nat.le_of_ble_eq_true rfl) (fun Ψ C CR => ?_)
  show Ψ M 0 [(0, .ref (gad 50 0)), (1, .ref (gad 52 i1)), (2, .int p2), (3, .int p3)] []
  refine r_aload_n (pc := 0) C dX11_depthOf_0 rfl 1 rfl ?_
  refine r_iconst (pc := 1) C dX11_depthOf_1 ki0 ?_
  refine r_aload_n (pc := 2) C dX11_depthOf_2 rfl 0 rfl ?_
  refine r_iload_n (pc := 3) C dX11_depthOf_3 rfl 2 rfl ?_
  obtain ⟨r_2, hc_1, hr⟩ := gBind_some hr
  refine c_X11_leftOf (pc := 4) C dX11_depthOf_4 q1675 ⟨Nat.le_of_ble_eq_true rfl, Nat.le_of_ble_eq_true rfl⟩ hc_1 (Nat.le_of_ble_eq_true rfl) ?_
  refine r_aload_n (pc := 7) C dX11_depthOf_7 rfl 0 rfl ?_
  refine r_iload_n (pc := 8) C dX11_depthOf_8 rfl 2 rfl ?_
  obtain ⟨r_4, hc_3, hr⟩ := gBind_some hr
  refine c_X11_topOf (pc := 9) C dX11_depthOf_9 q1683 ⟨Nat.le_of_ble_eq_true rfl, Nat.le_of_ble_eq_true rfl⟩ hc_3 (Nat.le_of_ble_eq_true rfl) ?_
  refine r_iconst (pc := 12) C dX11_depthOf_12 ki0 ?_
  obtain ⟨r_6, hc_5, hr⟩ := gBind_some hr
  refine c_X11_place (pc := 13) C dX11_depthOf_13 q1725 ⟨Nat.le_of_ble_eq_true rfl, Nat.le_of_ble_eq_true rfl⟩ hc_5 (Nat.le_of_ble_eq_true rfl) ?_
  refine r_iadd (pc := 16) C dX11_depthOf_16 ?_
  obtain ⟨g_7, hr⟩ := gG_some hr
  refine r_ialdN (pc := 17) C dX11_depthOf_17 rfl (e52 (nf := nf) h1) g_7 rfl ?_
  obtain ⟨x4_8, ex4_8, hr⟩ := gLet_some hr
  refine r_istore (pc := 18) C dX11_depthOf_18 (by decide) ex4_8 (ls' := [(4, .int x4_8), (0, .ref (gad 50 0)), (1, .ref (gad 52 i1)), (2, .int p2), (3, .int p3)]) rfl ?_
  refine r_aload_n (pc := 20) C dX11_depthOf_20 rfl 1 rfl ?_
  refine r_iload_n (pc := 21) C dX11_depthOf_21 rfl 3 rfl ?_
  obtain ⟨r_10, hc_9, hr⟩ := gBind_some hr
  refine c_X11_topOf (pc := 22) C dX11_depthOf_22 q1683 ⟨Nat.le_of_ble_eq_true rfl, Nat.le_of_ble_eq_true rfl⟩ hc_9 (Nat.le_of_ble_eq_true rfl) ?_
  refine r_istore (pc := 25) C dX11_depthOf_25 (by decide) rfl (ls' := [(5, .int r_10), (4, .int x4_8), (0, .ref (gad 50 0)), (1, .ref (gad 52 i1)), (2, .int p2), (3, .int p3)]) rfl ?_
  refine r_sub C [2, 3, 4, 5, 1, 0] (ls' := [(0, .ref (gad 50 0)), (1, .ref (gad 52 i1)), (2, .int p2), (3, .int p3), (4, .int x4_8), (5, .int r_10)]) rfl ?_
  obtain ⟨ev, hit, hr⟩ := gBind_some hr
  refine gIter_V (step := fun s => X11_depthOf_L27 i1 p2 p3 s.1 s.2 M) (P := fun s => Ψ M 27 [(0, .ref (gad 50 0)), (1, .ref (gad 52 i1)), (2, .int p2), (3, .int p3), (4, .int (s.1)), (5, .int (s.2))] []) (K := (fun e => Ψ M 126 [(4, .int e)] [])) (fun s w hs hn hx => t_X11_depthOf_L27 C h1 hs hn hx) FU (x4_8, r_10) ev hit ?_
  obtain ⟨x4_35, rfl⟩ : ∃ z, z = ev := ⟨_, rfl⟩
  show Ψ M 126 [(4, .int x4_35)] []
  refine r_iload (pc := 126) C dX11_depthOf_126 0 rfl ?_
  exact r_iret (pc := 128) CR dX11_depthOf_128 (congrArg (fun z => some (Value.int z)) (gSome hr)) rfl
theorem c_X11_depthOf {Ψ : gM → Nat → List (Nat × Value) → List Value → Prop} {G : gG5} {nf : Nat} {cc : ByteArray} {own : String} {nL : Nat} {ret : Option FieldType} {fr lo : Nat} {v0 : Option Value} {M0 M : gM} {pc index : Nat} {ls : List (Nat × Value)} {st : List Value} (C : gC Ψ G (gXn nf) cc own nL ret fr lo v0 M0) (d : decode cc pc = .ok (.invokevirtual index, 3)) (hl : Cond.methodLink own index yX11_depthOf ∈ gws) (hR : 4 ≤ fr ∧ 91 ≤ lo) {i1 : Nat} {p2 : Int32} {p3 : Int32} (h1 : i1 < 20) {r : Int32} (hr : X11_depthOf i1 p2 p3 M = some r) (hcat : (st.map fun v => v.category).sum ≤ 8) (k : Ψ M (pc + 3) ls (.int r :: st)) : Ψ M pc ls (.int p3 :: .int p2 :: .ref (gad 52 i1) :: .ref (gad 50 0) :: st) := r_callV C [.ref (gad 52 i1), .int p2, .int p3] st d (k_X11_depthOf h1 hr) hl q1723 q71 q127 q1724 hd_X11_depthOf hR rfl (by decide) (e50 nf) rfl hcat k
theorem hd_X11_passes : yX11_passes.cls ≠ "java/lang/invoke/MethodHandle" ∧ yX11_passes.cls ≠ "java/lang/invoke/VarHandle" ∧ (parseMethodDescriptor yX11_passes.desc).map (fun d => d.parameters.length) = some 3 := by decide +kernel
noncomputable def X11_passes (i0 : Nat) (p1 : Int32) (p2 : Int32) (M : gM) : Option Int32 := (if p1 < p2 then some 1 else gG (gin 1058 (gLen 52 i0)) ((if (M.1 52 i0 (Int32.toNatClampNeg 1058)) = 1 then (if p1 = p2 then some 1 else some 0) else some 0)))
theorem k_X11_passes {G : gG5} {nf : Nat} {M : gM} {i0 : Nat} {p1 : Int32} {p2 : Int32} (h0 : i0 < 20) {r : Int32} (hr : X11_passes i0 p1 p2 M = some r) : gMet G (gXn nf) yX11_passes cX11_passes 3 (some .boolean) 0 0 M [.ref (gad 52 i0), .int p1, .int p2] (some (.int r)) M := by
  refine gMet_of pl_X11 rfl (Nat.le_of_ble_eq_true rfl) (fun Ψ C CR => ?_)
  show Ψ M 0 [(0, .ref (gad 52 i0)), (1, .int p1), (2, .int p2)] []
  refine r_iload_n (pc := 0) C dX11_passes_0 rfl 1 rfl ?_
  refine r_iload_n (pc := 1) C dX11_passes_1 rfl 2 rfl ?_
  refine r_icmp_lt (pc := 2) (tgt := 19) C dX11_passes_2 rfl (fun c_1 => ?_) (fun c_1 => ?_)
  · replace hr := (if_pos c_1).symm.trans hr
    refine r_iconst (pc := 19) C dX11_passes_19 ki1 ?_
    refine r_goto (pc := 20) (tgt := 24) C dX11_passes_20 rfl ?_
    exact r_zret (pc := 24) CR dX11_passes_24 rfl (congrArg (fun z => some (Value.int z)) (gSome hr)) rfl
  · replace hr := (if_neg c_1).symm.trans hr
    refine r_aload_n (pc := 5) C dX11_passes_5 rfl 0 rfl ?_
    refine r_sipush (pc := 6) C dX11_passes_6 ks1058 ?_
    obtain ⟨g_2, hr⟩ := gG_some hr
    refine r_ialdN (pc := 9) C dX11_passes_9 rfl (e52 (nf := nf) h0) g_2 rfl ?_
    refine r_iconst (pc := 10) C dX11_passes_10 ki1 ?_
    refine r_icmp_ne (pc := 11) (tgt := 23) C dX11_passes_11 rfl (fun c_3 => ?_) (fun c_3 => ?_)
    · replace hr := (if_neg c_3).symm.trans hr
      refine r_iconst (pc := 23) C dX11_passes_23 ki0 ?_
      exact r_zret (pc := 24) CR dX11_passes_24 rfl (congrArg (fun z => some (Value.int z)) (gSome hr)) rfl
    · replace hr := (if_pos c_3).symm.trans hr
      refine r_iload_n (pc := 14) C dX11_passes_14 rfl 1 rfl ?_
      refine r_iload_n (pc := 15) C dX11_passes_15 rfl 2 rfl ?_
      refine r_icmp_ne (pc := 16) (tgt := 23) C dX11_passes_16 rfl (fun c_4 => ?_) (fun c_4 => ?_)
      · replace hr := (if_neg c_4).symm.trans hr
        refine r_iconst (pc := 23) C dX11_passes_23 ki0 ?_
        exact r_zret (pc := 24) CR dX11_passes_24 rfl (congrArg (fun z => some (Value.int z)) (gSome hr)) rfl
      · replace hr := (if_pos c_4).symm.trans hr
        refine r_iconst (pc := 19) C dX11_passes_19 ki1 ?_
        refine r_goto (pc := 20) (tgt := 24) C dX11_passes_20 rfl ?_
        exact r_zret (pc := 24) CR dX11_passes_24 rfl (congrArg (fun z => some (Value.int z)) (gSome hr)) rfl
theorem c_X11_passes {Ψ : gM → Nat → List (Nat × Value) → List Value → Prop} {G : gG5} {nf : Nat} {cc : ByteArray} {own : String} {nL : Nat} {ret : Option FieldType} {fr lo : Nat} {v0 : Option Value} {M0 M : gM} {pc index : Nat} {ls : List (Nat × Value)} {st : List Value} (C : gC Ψ G (gXn nf) cc own nL ret fr lo v0 M0) (d : decode cc pc = .ok (.invokestatic index, 3)) (hl : Cond.methodLink own index yX11_passes ∈ gws) (hR : 1 ≤ fr ∧ 22 ≤ lo) {i0 : Nat} {p1 : Int32} {p2 : Int32} (h0 : i0 < 20) {r : Int32} (hr : X11_passes i0 p1 p2 M = some r) (hcat : (st.map fun v => v.category).sum ≤ 8) (k : Ψ M (pc + 3) ls (.int r :: st)) : Ψ M pc ls (.int p2 :: .int p1 :: .ref (gad 52 i0) :: st) := r_callS C [.ref (gad 52 i0), .int p1, .int p2] st d (k_X11_passes h0 hr) hl q1729 q127 q1730 hd_X11_passes hR rfl hcat k
theorem hd_X11_lights : yX11_lights.cls ≠ "java/lang/invoke/MethodHandle" ∧ yX11_lights.cls ≠ "java/lang/invoke/VarHandle" ∧ (parseMethodDescriptor yX11_lights.desc).map (fun d => d.parameters.length) = some 4 := by decide +kernel
noncomputable def X11_lights (i0 : Nat) (p1 : Int32) (p2 : Int32) (p3 : Int32) (M : gM) : Option gM := gG (gin ((1034 + (2 * p1)) + (p3 / 4)) (gLen 52 i0)) (gG (gin ((1034 + (2 * p1)) + (p3 / 4)) (gLen 52 i0)) (gLet (wI M 52 i0 (Int32.toNatClampNeg ((1034 + (2 * p1)) + (p3 / 4))) ((M.1 52 i0 (Int32.toNatClampNeg ((1034 + (2 * p1)) + (p3 / 4)))) ||| (1 <<< (((8 * (gRem p3 4)) + p2) &&& 31)))) (fun M_3 => some M_3)))
theorem k_X11_lights {G : gG5} {nf : Nat} {M : gM} {i0 : Nat} {p1 : Int32} {p2 : Int32} {p3 : Int32} (h0 : i0 < 20) {M1 : gM} (hr : X11_lights i0 p1 p2 p3 M = some M1) : gMet G (gXn nf) yX11_lights cX11_lights 4 none 0 0 M [.ref (gad 52 i0), .int p1, .int p2, .int p3] none M1 := by
  refine gMet_of pl_X11 rfl (Nat.le_of_ble_eq_true rfl) (fun Ψ C CR => ?_)
  show Ψ M 0 [(0, .ref (gad 52 i0)), (1, .int p1), (2, .int p2), (3, .int p3)] []
  refine r_aload_n (pc := 0) C dX11_lights_0 rfl 0 rfl ?_
  refine r_sipush (pc := 1) C dX11_lights_1 ks1034 ?_
  refine r_iconst (pc := 4) C dX11_lights_4 ki2 ?_
  refine r_iload_n (pc := 5) C dX11_lights_5 rfl 1 rfl ?_
  refine r_imul (pc := 6) C dX11_lights_6 ?_
  refine r_iadd (pc := 7) C dX11_lights_7 ?_
  refine r_iload_n (pc := 8) C dX11_lights_8 rfl 3 rfl ?_
  refine r_iconst (pc := 9) C dX11_lights_9 ki4 ?_
  refine r_idiv (pc := 10) C dX11_lights_10 (by decide) ?_
  refine r_iadd (pc := 11) C dX11_lights_11 ?_
  refine r_dup2 (pc := 12) C dX11_lights_12 rfl rfl ?_
  obtain ⟨g_1, hr⟩ := gG_some hr
  refine r_ialdN (pc := 13) C dX11_lights_13 rfl (e52 (nf := nf) h0) g_1 rfl ?_
  refine r_iconst (pc := 14) C dX11_lights_14 ki1 ?_
  refine r_bipush (pc := 15) C dX11_lights_15 kb8 ?_
  refine r_iload_n (pc := 17) C dX11_lights_17 rfl 3 rfl ?_
  refine r_iconst (pc := 18) C dX11_lights_18 ki4 ?_
  refine r_irem (pc := 19) C dX11_lights_19 (by decide) ?_
  refine r_imul (pc := 20) C dX11_lights_20 ?_
  refine r_iload_n (pc := 21) C dX11_lights_21 rfl 2 rfl ?_
  refine r_iadd (pc := 22) C dX11_lights_22 ?_
  refine r_ishl (pc := 23) C dX11_lights_23 ?_
  refine r_ior (pc := 24) C dX11_lights_24 ?_
  obtain ⟨g_2, hr⟩ := gG_some hr
  obtain ⟨M_3, eM_3, hr⟩ := gLet_some hr
  refine r_iastN (pc := 25) C dX11_lights_25 rfl (e52 (nf := nf) h0) g_2 rfl eM_3 ?_
  exact r_vret (pc := 26) CR dX11_lights_26 rfl (gSome hr)
theorem c_X11_lights {Ψ : gM → Nat → List (Nat × Value) → List Value → Prop} {G : gG5} {nf : Nat} {cc : ByteArray} {own : String} {nL : Nat} {ret : Option FieldType} {fr lo : Nat} {v0 : Option Value} {M0 M : gM} {pc index : Nat} {ls : List (Nat × Value)} {st : List Value} (C : gC Ψ G (gXn nf) cc own nL ret fr lo v0 M0) (d : decode cc pc = .ok (.invokestatic index, 3)) (hl : Cond.methodLink own index yX11_lights ∈ gws) (hR : 1 ≤ fr ∧ 23 ≤ lo) {i0 : Nat} {p1 : Int32} {p2 : Int32} {p3 : Int32} (h0 : i0 < 20) {M1 : gM} (hr : X11_lights i0 p1 p2 p3 M = some M1) (hcat : (st.map fun v => v.category).sum ≤ 8) (k : Ψ M1 (pc + 3) ls (st)) : Ψ M pc ls (.int p3 :: .int p2 :: .int p1 :: .ref (gad 52 i0) :: st) := r_callS C [.ref (gad 52 i0), .int p1, .int p2, .int p3] st d (k_X11_lights h0 hr) hl q1767 q127 q1768 hd_X11_lights hR rfl hcat k
theorem hd_X11_shadesPending : yX11_shadesPending.cls ≠ "java/lang/invoke/MethodHandle" ∧ yX11_shadesPending.cls ≠ "java/lang/invoke/VarHandle" ∧ (parseMethodDescriptor yX11_shadesPending.desc).map (fun d => d.parameters.length) = some 4 := by decide +kernel
noncomputable def X11_shadesPending (i1 : Nat) (p2 : Int32) (p3 : Int32) (p4 : Int32) (M : gM) : Option gM := (X11_place p2 p3 p4 M).bind (fun r_2 => gG (gin (512 + r_2) (gLen 52 i1)) (gLet ((M.1 52 i1 (Int32.toNatClampNeg (512 + r_2)))) (fun x6_4 => (if x6_4 = (-1) then some M else (X11_asks i1 x6_4 M).bind (fun M_7 => (X11_shadeOf x6_4 p2 p3 M_7).bind (fun r_9 => gG (gin (256 + r_2) (gLen 52 i1)) (gLet (wI M_7 52 i1 (Int32.toNatClampNeg (256 + r_2)) r_9) (fun M_11 => gG (gin (512 + r_2) (gLen 52 i1)) (gLet (wI M_11 52 i1 (Int32.toNatClampNeg (512 + r_2)) (-1)) (fun M_13 => (X11_lights i1 x6_4 p2 p3 M_13).bind (fun M_15 => some M_15)))))))))))
theorem k_X11_shadesPending {G : gG5} {nf : Nat} {M : gM} {i1 : Nat} {p2 : Int32} {p3 : Int32} {p4 : Int32} (h1 : i1 < 20) {M1 : gM} (hr : X11_shadesPending i1 p2 p3 p4 M = some M1) : gMet G (gXn nf) yX11_shadesPending cX11_shadesPending 7 none 3 74 M [.ref (gad 50 0), .ref (gad 52 i1), .int p2, .int p3, .int p4] none M1 := by
  refine gMet_of pl_X11 rfl (Nat.le_of_ble_eq_true rfl) (fun Ψ C CR => ?_)
  show Ψ M 0 [(0, .ref (gad 50 0)), (1, .ref (gad 52 i1)), (2, .int p2), (3, .int p3), (4, .int p4)] []
  refine r_iload_n (pc := 0) C dX11_shadesPending_0 rfl 2 rfl ?_
  refine r_iload_n (pc := 1) C dX11_shadesPending_1 rfl 3 rfl ?_
  refine r_iload (pc := 2) C dX11_shadesPending_2 4 rfl ?_
  obtain ⟨r_2, hc_1, hr⟩ := gBind_some hr
  refine c_X11_place (pc := 4) C dX11_shadesPending_4 q1725 ⟨Nat.le_of_ble_eq_true rfl, Nat.le_of_ble_eq_true rfl⟩ hc_1 (Nat.le_of_ble_eq_true rfl) ?_
  refine r_istore (pc := 7) C dX11_shadesPending_7 (by decide) rfl (ls' := [(5, .int r_2), (0, .ref (gad 50 0)), (1, .ref (gad 52 i1)), (2, .int p2), (3, .int p3), (4, .int p4)]) rfl ?_
  refine r_aload_n (pc := 9) C dX11_shadesPending_9 rfl 2 rfl ?_
  refine r_sipush (pc := 10) C dX11_shadesPending_10 ks512 ?_
  refine r_iload (pc := 13) C dX11_shadesPending_13 0 rfl ?_
  refine r_iadd (pc := 15) C dX11_shadesPending_15 ?_
  obtain ⟨g_3, hr⟩ := gG_some hr
  refine r_ialdN (pc := 16) C dX11_shadesPending_16 rfl (e52 (nf := nf) h1) g_3 rfl ?_
  obtain ⟨x6_4, ex6_4, hr⟩ := gLet_some hr
  refine r_istore (pc := 17) C dX11_shadesPending_17 (by decide) ex6_4 (ls' := [(6, .int x6_4), (5, .int r_2), (0, .ref (gad 50 0)), (1, .ref (gad 52 i1)), (2, .int p2), (3, .int p3), (4, .int p4)]) rfl ?_
  refine r_iload (pc := 19) C dX11_shadesPending_19 0 rfl ?_
  refine r_iconst (pc := 21) C dX11_shadesPending_21 kim1 ?_
  refine r_icmp_ne (pc := 22) (tgt := 26) C dX11_shadesPending_22 rfl (fun c_5 => ?_) (fun c_5 => ?_)
  · replace hr := (if_neg c_5).symm.trans hr
    refine r_aload_n (pc := 26) C dX11_shadesPending_26 rfl 2 rfl ?_
    refine r_aload_n (pc := 27) C dX11_shadesPending_27 rfl 3 rfl ?_
    refine r_iload (pc := 28) C dX11_shadesPending_28 0 rfl ?_
    obtain ⟨M_7, hc_6, hr⟩ := gBind_some hr
    refine c_X11_asks (pc := 30) C dX11_shadesPending_30 q1652 ⟨Nat.le_of_ble_eq_true rfl, Nat.le_of_ble_eq_true rfl⟩ h1 hc_6 (Nat.le_of_ble_eq_true rfl) ?_
    refine r_aload_n (pc := 33) C dX11_shadesPending_33 rfl 3 rfl ?_
    refine r_sipush (pc := 34) C dX11_shadesPending_34 ks256 ?_
    refine r_iload (pc := 37) C dX11_shadesPending_37 1 rfl ?_
    refine r_iadd (pc := 39) C dX11_shadesPending_39 ?_
    refine r_aload_n (pc := 40) C dX11_shadesPending_40 rfl 2 rfl ?_
    refine r_iload (pc := 41) C dX11_shadesPending_41 0 rfl ?_
    refine r_iload_n (pc := 43) C dX11_shadesPending_43 rfl 4 rfl ?_
    refine r_iload_n (pc := 44) C dX11_shadesPending_44 rfl 5 rfl ?_
    obtain ⟨r_9, hc_8, hr⟩ := gBind_some hr
    refine c_X11_shadeOf (pc := 45) C dX11_shadesPending_45 q1762 ⟨Nat.le_of_ble_eq_true rfl, Nat.le_of_ble_eq_true rfl⟩ hc_8 (Nat.le_of_ble_eq_true rfl) ?_
    obtain ⟨g_10, hr⟩ := gG_some hr
    obtain ⟨M_11, eM_11, hr⟩ := gLet_some hr
    refine r_iastN (pc := 48) C dX11_shadesPending_48 rfl (e52 (nf := nf) h1) g_10 rfl eM_11 ?_
    refine r_aload_n (pc := 49) C dX11_shadesPending_49 rfl 3 rfl ?_
    refine r_sipush (pc := 50) C dX11_shadesPending_50 ks512 ?_
    refine r_iload (pc := 53) C dX11_shadesPending_53 1 rfl ?_
    refine r_iadd (pc := 55) C dX11_shadesPending_55 ?_
    refine r_iconst (pc := 56) C dX11_shadesPending_56 kim1 ?_
    obtain ⟨g_12, hr⟩ := gG_some hr
    obtain ⟨M_13, eM_13, hr⟩ := gLet_some hr
    refine r_iastN (pc := 57) C dX11_shadesPending_57 rfl (e52 (nf := nf) h1) g_12 rfl eM_13 ?_
    refine r_aload_n (pc := 58) C dX11_shadesPending_58 rfl 3 rfl ?_
    refine r_iload (pc := 59) C dX11_shadesPending_59 0 rfl ?_
    refine r_iload_n (pc := 61) C dX11_shadesPending_61 rfl 4 rfl ?_
    refine r_iload_n (pc := 62) C dX11_shadesPending_62 rfl 5 rfl ?_
    obtain ⟨M_15, hc_14, hr⟩ := gBind_some hr
    refine c_X11_lights (pc := 63) C dX11_shadesPending_63 q1766 ⟨Nat.le_of_ble_eq_true rfl, Nat.le_of_ble_eq_true rfl⟩ h1 hc_14 (Nat.le_of_ble_eq_true rfl) ?_
    exact r_vret (pc := 66) CR dX11_shadesPending_66 rfl (gSome hr)
  · replace hr := (if_pos c_5).symm.trans hr
    exact r_vret (pc := 25) CR dX11_shadesPending_25 rfl (gSome hr)
theorem c_X11_shadesPending {Ψ : gM → Nat → List (Nat × Value) → List Value → Prop} {G : gG5} {nf : Nat} {cc : ByteArray} {own : String} {nL : Nat} {ret : Option FieldType} {fr lo : Nat} {v0 : Option Value} {M0 M : gM} {pc index : Nat} {ls : List (Nat × Value)} {st : List Value} (C : gC Ψ G (gXn nf) cc own nL ret fr lo v0 M0) (d : decode cc pc = .ok (.invokevirtual index, 3)) (hl : Cond.methodLink own index yX11_shadesPending ∈ gws) (hR : 4 ≤ fr ∧ 100 ≤ lo) {i1 : Nat} {p2 : Int32} {p3 : Int32} {p4 : Int32} (h1 : i1 < 20) {M1 : gM} (hr : X11_shadesPending i1 p2 p3 p4 M = some M1) (hcat : (st.map fun v => v.category).sum ≤ 8) (k : Ψ M1 (pc + 3) ls (st)) : Ψ M pc ls (.int p4 :: .int p3 :: .int p2 :: .ref (gad 52 i1) :: .ref (gad 50 0) :: st) := r_callV C [.ref (gad 52 i1), .int p2, .int p3, .int p4] st d (k_X11_shadesPending h1 hr) hl q1760 q78 q127 q1761 hd_X11_shadesPending hR rfl (by decide) (e50 nf) rfl hcat k
