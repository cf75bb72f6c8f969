theorem hd_X11_stopsMove : yX11_stopsMove.cls ≠ "java/lang/invoke/MethodHandle" ∧ yX11_stopsMove.cls ≠ "java/lang/invoke/VarHandle" ∧ (parseMethodDescriptor yX11_stopsMove.desc).map (fun d => d.parameters.length) = some 5 := by decide +kernel
noncomputable def X11_stopsMove_J124 (i1 : Nat) (x2 : Int32) (M : gM) : Option Int32 := (X11_isBinned i1 x2 M).bind (fun r_24 => (if r_24 = 0 then some (-1) else some 3))
theorem t_X11_stopsMove_J124 {Ψ : gM → Nat → List (Nat × Value) → List Value → Prop} {G : gG5} {nf : Nat} {M : gM} {i1 : Nat} {x2 : Int32} {r : Int32} (C : gC Ψ G (gXn nf) cX11_stopsMove RX11 7 (some .int) 4 87 (some (.int r)) M) (CR : gR Ψ cX11_stopsMove (some .int) (some (.int r)) M) (h1 : i1 < 20) (hr : X11_stopsMove_J124 i1 x2 M = some r) : Ψ M 124 [(0, .ref (gad 50 0)), (1, .ref (gad 52 i1)), (2, .int x2)] [] := by
  refine r_aload_n (pc := 124) C dX11_stopsMove_124 rfl 0 rfl ?_
  refine r_aload_n (pc := 125) C dX11_stopsMove_125 rfl 1 rfl ?_
  refine r_iload_n (pc := 126) C dX11_stopsMove_126 rfl 2 rfl ?_
  obtain ⟨r_24, hc_23, hr⟩ := gBind_some hr
  refine c_X11_isBinned (pc := 127) C dX11_stopsMove_127 q1832 ⟨Nat.le_of_ble_eq_true rfl, Nat.le_of_ble_eq_true rfl⟩ h1 hc_23 (Nat.le_of_ble_eq_true rfl) ?_
  refine r_if_eq (pc := 130) (tgt := 137) C dX11_stopsMove_130 rfl (fun c_25 => ?_) (fun c_25 => ?_)
  · replace hr := (if_pos c_25).symm.trans hr
    refine r_iconst (pc := 137) C dX11_stopsMove_137 kim1 ?_
    exact r_iret (pc := 138) CR dX11_stopsMove_138 (congrArg (fun z => some (Value.int z)) (gSome hr)) rfl
  · replace hr := (if_neg c_25).symm.trans hr
    refine r_iconst (pc := 133) C dX11_stopsMove_133 ki3 ?_
    refine r_goto (pc := 134) (tgt := 138) C dX11_stopsMove_134 rfl ?_
    exact r_iret (pc := 138) CR dX11_stopsMove_138 (congrArg (fun z => some (Value.int z)) (gSome hr)) rfl
noncomputable def X11_stopsMove (i1 : Nat) (p2 : Int32) (p3 : Int32) (p4 : Int32) (p5 : Int32) (M : gM) : Option Int32 := (X11_isTri p2 M).bind (fun r_2 => (if r_2 = 0 then some 0 else (X11_isIn (Int32.toInt64 p3) 0 2 M).bind (fun r_5 => (if r_5 = 0 then some 1 else (X11_isIn (Int32.toInt64 p4) (-20) 20 M).bind (fun r_8 => (if r_8 = 0 then some 1 else (X11_isIn (Int32.toInt64 p5) (-20) 20 M).bind (fun r_11 => (if r_11 = 0 then some 1 else gLet (((944 + (9 * p2)) + (3 * p3))) (fun x6_13 => gG (gin x6_13 (gLen 52 i1)) ((X11_isIn (Int32.toInt64 ((M.1 52 i1 (Int32.toNatClampNeg x6_13)) + p4)) (-99) 160 M).bind (fun r_16 => (if r_16 = 0 then some 1 else gG (gin (x6_13 + 1) (gLen 52 i1)) ((X11_isIn (Int32.toInt64 ((M.1 52 i1 (Int32.toNatClampNeg (x6_13 + 1))) + p5)) (-99) 160 M).bind (fun r_20 => (if r_20 = 0 then some 1 else (if p4 = 0 then (if p5 = 0 then some 2 else X11_stopsMove_J124 i1 p2 M) else X11_stopsMove_J124 i1 p2 M))))))))))))))))
theorem k_X11_stopsMove {G : gG5} {nf : Nat} {M : gM} {i1 : Nat} {p2 : Int32} {p3 : Int32} {p4 : Int32} {p5 : Int32} (h1 : i1 < 20) {r : Int32} (hr : X11_stopsMove i1 p2 p3 p4 p5 M = some r) : gMet G (gXn nf) yX11_stopsMove cX11_stopsMove 7 (some .int) 4 87 M [.ref (gad 50 0), .ref (gad 52 i1), .int p2, .int p3, .int p4, .int p5] (some (.int r)) M := by
  refine gMet_of pl_X11 rfl (Nat.le_of_ble_eq_true rfl) (fun Ψ C CR => ?_)
  show Ψ M 0 [(0, .ref (gad 50 0)), (1, .ref (gad 52 i1)), (2, .int p2), (3, .int p3), (4, .int p4), (5, .int p5)] []
  refine r_aload_n (pc := 0) C dX11_stopsMove_0 rfl 0 rfl ?_
  refine r_iload_n (pc := 1) C dX11_stopsMove_1 rfl 2 rfl ?_
  obtain ⟨r_2, hc_1, hr⟩ := gBind_some hr
  refine c_X11_isTri (pc := 2) C dX11_stopsMove_2 q1644 ⟨Nat.le_of_ble_eq_true rfl, Nat.le_of_ble_eq_true rfl⟩ hc_1 (Nat.le_of_ble_eq_true rfl) ?_
  refine r_if_ne (pc := 5) (tgt := 10) C dX11_stopsMove_5 rfl (fun c_3 => ?_) (fun c_3 => ?_)
  · replace hr := (if_neg c_3).symm.trans hr
    refine r_iload_n (pc := 10) C dX11_stopsMove_10 rfl 3 rfl ?_
    refine r_i2l (pc := 11) C dX11_stopsMove_11 ?_
    refine r_lconst (pc := 12) (v := 0) C dX11_stopsMove_12 rfl ?_
    refine r_ldc2 (pc := 13) C dX11_stopsMove_13 q1607 ?_
    obtain ⟨r_5, hc_4, hr⟩ := gBind_some hr
    refine c_X11_isIn (pc := 16) C dX11_stopsMove_16 q1538 ⟨Nat.le_of_ble_eq_true rfl, Nat.le_of_ble_eq_true rfl⟩ hc_4 (Nat.le_of_ble_eq_true rfl) ?_
    refine r_if_eq (pc := 19) (tgt := 52) C dX11_stopsMove_19 rfl (fun c_6 => ?_) (fun c_6 => ?_)
    · replace hr := (if_pos c_6).symm.trans hr
      refine r_iconst (pc := 52) C dX11_stopsMove_52 ki1 ?_
      exact r_iret (pc := 53) CR dX11_stopsMove_53 (congrArg (fun z => some (Value.int z)) (gSome hr)) rfl
    · replace hr := (if_neg c_6).symm.trans hr
      refine r_iload (pc := 22) C dX11_stopsMove_22 4 rfl ?_
      refine r_i2l (pc := 24) C dX11_stopsMove_24 ?_
      refine r_ldc2 (pc := 25) C dX11_stopsMove_25 q1615 ?_
      refine r_ldc2 (pc := 28) C dX11_stopsMove_28 q1616 ?_
      obtain ⟨r_8, hc_7, hr⟩ := gBind_some hr
      refine c_X11_isIn (pc := 31) C dX11_stopsMove_31 q1538 ⟨Nat.le_of_ble_eq_true rfl, Nat.le_of_ble_eq_true rfl⟩ hc_7 (Nat.le_of_ble_eq_true rfl) ?_
      refine r_if_eq (pc := 34) (tgt := 52) C dX11_stopsMove_34 rfl (fun c_9 => ?_) (fun c_9 => ?_)
      · replace hr := (if_pos c_9).symm.trans hr
        refine r_iconst (pc := 52) C dX11_stopsMove_52 ki1 ?_
        exact r_iret (pc := 53) CR dX11_stopsMove_53 (congrArg (fun z => some (Value.int z)) (gSome hr)) rfl
      · replace hr := (if_neg c_9).symm.trans hr
        refine r_iload (pc := 37) C dX11_stopsMove_37 5 rfl ?_
        refine r_i2l (pc := 39) C dX11_stopsMove_39 ?_
        refine r_ldc2 (pc := 40) C dX11_stopsMove_40 q1615 ?_
        refine r_ldc2 (pc := 43) C dX11_stopsMove_43 q1616 ?_
        obtain ⟨r_11, hc_10, hr⟩ := gBind_some hr
        refine c_X11_isIn (pc := 46) C dX11_stopsMove_46 q1538 ⟨Nat.le_of_ble_eq_true rfl, Nat.le_of_ble_eq_true rfl⟩ hc_10 (Nat.le_of_ble_eq_true rfl) ?_
        refine r_if_ne (pc := 49) (tgt := 54) C dX11_stopsMove_49 rfl (fun c_12 => ?_) (fun c_12 => ?_)
        · replace hr := (if_neg c_12).symm.trans hr
          refine r_sipush (pc := 54) C dX11_stopsMove_54 ks944 ?_
          refine r_bipush (pc := 57) C dX11_stopsMove_57 kb9 ?_
          refine r_iload_n (pc := 59) C dX11_stopsMove_59 rfl 2 rfl ?_
          refine r_imul (pc := 60) C dX11_stopsMove_60 ?_
          refine r_iadd (pc := 61) C dX11_stopsMove_61 ?_
          refine r_iconst (pc := 62) C dX11_stopsMove_62 ki3 ?_
          refine r_iload_n (pc := 63) C dX11_stopsMove_63 rfl 3 rfl ?_
          refine r_imul (pc := 64) C dX11_stopsMove_64 ?_
          refine r_iadd (pc := 65) C dX11_stopsMove_65 ?_
          obtain ⟨x6_13, ex6_13, hr⟩ := gLet_some hr
          refine r_istore (pc := 66) C dX11_stopsMove_66 (by decide) ex6_13 (ls' := [(6, .int x6_13), (0, .ref (gad 50 0)), (1, .ref (gad 52 i1)), (2, .int p2), (3, .int p3), (4, .int p4), (5, .int p5)]) rfl ?_
          refine r_aload_n (pc := 68) C dX11_stopsMove_68 rfl 2 rfl ?_
          refine r_iload (pc := 69) C dX11_stopsMove_69 0 rfl ?_
          obtain ⟨g_14, hr⟩ := gG_some hr
          refine r_ialdN (pc := 71) C dX11_stopsMove_71 rfl (e52 (nf := nf) h1) g_14 rfl ?_
          refine r_iload (pc := 72) C dX11_stopsMove_72 5 rfl ?_
          refine r_iadd (pc := 74) C dX11_stopsMove_74 ?_
          refine r_i2l (pc := 75) C dX11_stopsMove_75 ?_
          refine r_ldc2 (pc := 76) C dX11_stopsMove_76 q1605 ?_
          refine r_ldc2 (pc := 79) C dX11_stopsMove_79 q1606 ?_
          obtain ⟨r_16, hc_15, hr⟩ := gBind_some hr
          refine c_X11_isIn (pc := 82) C dX11_stopsMove_82 q1538 ⟨Nat.le_of_ble_eq_true rfl, Nat.le_of_ble_eq_true rfl⟩ hc_15 (Nat.le_of_ble_eq_true rfl) ?_
          refine r_if_eq (pc := 85) (tgt := 110) C dX11_stopsMove_85 rfl (fun c_17 => ?_) (fun c_17 => ?_)
          · replace hr := (if_pos c_17).symm.trans hr
            refine r_iconst (pc := 110) C dX11_stopsMove_110 ki1 ?_
            exact r_iret (pc := 111) CR dX11_stopsMove_111 (congrArg (fun z => some (Value.int z)) (gSome hr)) rfl
          · replace hr := (if_neg c_17).symm.trans hr
            refine r_aload_n (pc := 88) C dX11_stopsMove_88 rfl 2 rfl ?_
            refine r_iload (pc := 89) C dX11_stopsMove_89 0 rfl ?_
            refine r_iconst (pc := 91) C dX11_stopsMove_91 ki1 ?_
            refine r_iadd (pc := 92) C dX11_stopsMove_92 ?_
            obtain ⟨g_18, hr⟩ := gG_some hr
            refine r_ialdN (pc := 93) C dX11_stopsMove_93 rfl (e52 (nf := nf) h1) g_18 rfl ?_
            refine r_iload (pc := 94) C dX11_stopsMove_94 6 rfl ?_
            refine r_iadd (pc := 96) C dX11_stopsMove_96 ?_
            refine r_i2l (pc := 97) C dX11_stopsMove_97 ?_
            refine r_ldc2 (pc := 98) C dX11_stopsMove_98 q1605 ?_
            refine r_ldc2 (pc := 101) C dX11_stopsMove_101 q1606 ?_
            obtain ⟨r_20, hc_19, hr⟩ := gBind_some hr
            refine c_X11_isIn (pc := 104) C dX11_stopsMove_104 q1538 ⟨Nat.le_of_ble_eq_true rfl, Nat.le_of_ble_eq_true rfl⟩ hc_19 (Nat.le_of_ble_eq_true rfl) ?_
            refine r_if_ne (pc := 107) (tgt := 112) C dX11_stopsMove_107 rfl (fun c_21 => ?_) (fun c_21 => ?_)
            · replace hr := (if_neg c_21).symm.trans hr
              refine r_iload (pc := 112) C dX11_stopsMove_112 5 rfl ?_
              refine r_if_ne (pc := 114) (tgt := 124) C dX11_stopsMove_114 rfl (fun c_22 => ?_) (fun c_22 => ?_)
              · replace hr := (if_neg c_22).symm.trans hr
                refine r_sub C [1, 2, 3] (ls' := [(0, .ref (gad 50 0)), (1, .ref (gad 52 i1)), (2, .int p2)]) rfl ?_
                exact t_X11_stopsMove_J124 C CR h1 hr
              · replace hr := (if_pos c_22).symm.trans hr
                refine r_iload (pc := 117) C dX11_stopsMove_117 6 rfl ?_
                refine r_if_ne (pc := 119) (tgt := 124) C dX11_stopsMove_119 rfl (fun c_26 => ?_) (fun c_26 => ?_)
                · replace hr := (if_neg c_26).symm.trans hr
                  refine r_sub C [1, 2, 3] (ls' := [(0, .ref (gad 50 0)), (1, .ref (gad 52 i1)), (2, .int p2)]) rfl ?_
                  exact t_X11_stopsMove_J124 C CR h1 hr
                · replace hr := (if_pos c_26).symm.trans hr
                  refine r_iconst (pc := 122) C dX11_stopsMove_122 ki2 ?_
                  exact r_iret (pc := 123) CR dX11_stopsMove_123 (congrArg (fun z => some (Value.int z)) (gSome hr)) rfl
            · replace hr := (if_pos c_21).symm.trans hr
              refine r_iconst (pc := 110) C dX11_stopsMove_110 ki1 ?_
              exact r_iret (pc := 111) CR dX11_stopsMove_111 (congrArg (fun z => some (Value.int z)) (gSome hr)) rfl
        · replace hr := (if_pos c_12).symm.trans hr
          refine r_iconst (pc := 52) C dX11_stopsMove_52 ki1 ?_
          exact r_iret (pc := 53) CR dX11_stopsMove_53 (congrArg (fun z => some (Value.int z)) (gSome hr)) rfl
  · replace hr := (if_pos c_3).symm.trans hr
    refine r_iconst (pc := 8) C dX11_stopsMove_8 ki0 ?_
    exact r_iret (pc := 9) CR dX11_stopsMove_9 (congrArg (fun z => some (Value.int z)) (gSome hr)) rfl
theorem c_X11_stopsMove {Ψ : gM → Nat → List (Nat × Value) → List Value → Prop} {G : gG5} {nf : Nat} {cc : ByteArray} {own : String} {nL : Nat} {ret : Option FieldType} {fr lo : Nat} {v0 : Option Value} {M0 M : gM} {pc index : Nat} {ls : List (Nat × Value)} {st : List Value} (C : gC Ψ G (gXn nf) cc own nL ret fr lo v0 M0) (d : decode cc pc = .ok (.invokevirtual index, 3)) (hl : Cond.methodLink own index yX11_stopsMove ∈ gws) (hR : 5 ≤ fr ∧ 113 ≤ lo) {i1 : Nat} {p2 : Int32} {p3 : Int32} {p4 : Int32} {p5 : Int32} (h1 : i1 < 20) {r : Int32} (hr : X11_stopsMove i1 p2 p3 p4 p5 M = some r) (hcat : (st.map fun v => v.category).sum ≤ 8) (k : Ψ M (pc + 3) ls (.int r :: st)) : Ψ M pc ls (.int p5 :: .int p4 :: .int p3 :: .int p2 :: .ref (gad 52 i1) :: .ref (gad 50 0) :: st) := r_callV C [.ref (gad 52 i1), .int p2, .int p3, .int p4, .int p5] st d (k_X11_stopsMove h1 hr) hl q1830 q88 q127 q1831 hd_X11_stopsMove hR rfl (by decide) (e50 nf) rfl hcat k
theorem hd_X11_moves : yX11_moves.cls ≠ "java/lang/invoke/MethodHandle" ∧ yX11_moves.cls ≠ "java/lang/invoke/VarHandle" ∧ (parseMethodDescriptor yX11_moves.desc).map (fun d => d.parameters.length) = some 5 := by decide +kernel
noncomputable def X11_moves (i0 : Nat) (p1 : Int32) (p2 : Int32) (p3 : Int32) (p4 : Int32) (M : gM) : Option gM := gG (gin ((944 + (9 * p1)) + (3 * p2)) (gLen 52 i0)) (gG (gin ((944 + (9 * p1)) + (3 * p2)) (gLen 52 i0)) (gLet (wI M 52 i0 (Int32.toNatClampNeg ((944 + (9 * p1)) + (3 * p2))) ((M.1 52 i0 (Int32.toNatClampNeg ((944 + (9 * p1)) + (3 * p2)))) + p3)) (fun M_3 => gG (gin (((944 + (9 * p1)) + (3 * p2)) + 1) (gLen 52 i0)) (gG (gin (((944 + (9 * p1)) + (3 * p2)) + 1) (gLen 52 i0)) (gLet (wI M_3 52 i0 (Int32.toNatClampNeg (((944 + (9 * p1)) + (3 * p2)) + 1)) ((M_3.1 52 i0 (Int32.toNatClampNeg (((944 + (9 * p1)) + (3 * p2)) + 1))) + p4)) (fun M_6 => some M_6))))))
theorem k_X11_moves {G : gG5} {nf : Nat} {M : gM} {i0 : Nat} {p1 : Int32} {p2 : Int32} {p3 : Int32} {p4 : Int32} (h0 : i0 < 20) {M1 : gM} (hr : X11_moves i0 p1 p2 p3 p4 M = some M1) : gMet G (gXn nf) yX11_moves cX11_moves 5 none 0 0 M [.ref (gad 52 i0), .int p1, .int p2, .int p3, .int p4] none M1 := by
  refine gMet_of pl_X11 rfl (Nat.le_of_ble_eq_true rfl) (fun Ψ C CR => ?_)
  show Ψ M 0 [(0, .ref (gad 52 i0)), (1, .int p1), (2, .int p2), (3, .int p3), (4, .int p4)] []
  refine r_aload_n (pc := 0) C dX11_moves_0 rfl 0 rfl ?_
  refine r_sipush (pc := 1) C dX11_moves_1 ks944 ?_
  refine r_bipush (pc := 4) C dX11_moves_4 kb9 ?_
  refine r_iload_n (pc := 6) C dX11_moves_6 rfl 1 rfl ?_
  refine r_imul (pc := 7) C dX11_moves_7 ?_
  refine r_iadd (pc := 8) C dX11_moves_8 ?_
  refine r_iconst (pc := 9) C dX11_moves_9 ki3 ?_
  refine r_iload_n (pc := 10) C dX11_moves_10 rfl 2 rfl ?_
  refine r_imul (pc := 11) C dX11_moves_11 ?_
  refine r_iadd (pc := 12) C dX11_moves_12 ?_
  refine r_dup2 (pc := 13) C dX11_moves_13 rfl rfl ?_
  obtain ⟨g_1, hr⟩ := gG_some hr
  refine r_ialdN (pc := 14) C dX11_moves_14 rfl (e52 (nf := nf) h0) g_1 rfl ?_
  refine r_iload_n (pc := 15) C dX11_moves_15 rfl 3 rfl ?_
  refine r_iadd (pc := 16) C dX11_moves_16 ?_
  obtain ⟨g_2, hr⟩ := gG_some hr
  obtain ⟨M_3, eM_3, hr⟩ := gLet_some hr
  refine r_iastN (pc := 17) C dX11_moves_17 rfl (e52 (nf := nf) h0) g_2 rfl eM_3 ?_
  refine r_aload_n (pc := 18) C dX11_moves_18 rfl 0 rfl ?_
  refine r_sipush (pc := 19) C dX11_moves_19 ks944 ?_
  refine r_bipush (pc := 22) C dX11_moves_22 kb9 ?_
  refine r_iload_n (pc := 24) C dX11_moves_24 rfl 1 rfl ?_
  refine r_imul (pc := 25) C dX11_moves_25 ?_
  refine r_iadd (pc := 26) C dX11_moves_26 ?_
  refine r_iconst (pc := 27) C dX11_moves_27 ki3 ?_
  refine r_iload_n (pc := 28) C dX11_moves_28 rfl 2 rfl ?_
  refine r_imul (pc := 29) C dX11_moves_29 ?_
  refine r_iadd (pc := 30) C dX11_moves_30 ?_
  refine r_iconst (pc := 31) C dX11_moves_31 ki1 ?_
  refine r_iadd (pc := 32) C dX11_moves_32 ?_
  refine r_dup2 (pc := 33) C dX11_moves_33 rfl rfl ?_
  obtain ⟨g_4, hr⟩ := gG_some hr
  refine r_ialdN (pc := 34) C dX11_moves_34 rfl (e52 (nf := nf) h0) g_4 rfl ?_
  refine r_iload (pc := 35) C dX11_moves_35 4 rfl ?_
  refine r_iadd (pc := 37) C dX11_moves_37 ?_
  obtain ⟨g_5, hr⟩ := gG_some hr
  obtain ⟨M_6, eM_6, hr⟩ := gLet_some hr
  refine r_iastN (pc := 38) C dX11_moves_38 rfl (e52 (nf := nf) h0) g_5 rfl eM_6 ?_
  exact r_vret (pc := 39) CR dX11_moves_39 rfl (gSome hr)
theorem c_X11_moves {Ψ : gM → Nat → List (Nat × Value) → List Value → Prop} {G : gG5} {nf : Nat} {cc : ByteArray} {own : String} {nL : Nat} {ret : Option FieldType} {fr lo : Nat} {v0 : Option Value} {M0 M : gM} {pc index : Nat} {ls : List (Nat × Value)} {st : List Value} (C : gC Ψ G (gXn nf) cc own nL ret fr lo v0 M0) (d : decode cc pc = .ok (.invokestatic index, 3)) (hl : Cond.methodLink own index yX11_moves ∈ gws) (hR : 1 ≤ fr ∧ 24 ≤ lo) {i0 : Nat} {p1 : Int32} {p2 : Int32} {p3 : Int32} {p4 : Int32} (h0 : i0 < 20) {M1 : gM} (hr : X11_moves i0 p1 p2 p3 p4 M = some M1) (hcat : (st.map fun v => v.category).sum ≤ 8) (k : Ψ M1 (pc + 3) ls (st)) : Ψ M pc ls (.int p4 :: .int p3 :: .int p2 :: .int p1 :: .ref (gad 52 i0) :: st) := r_callS C [.ref (gad 52 i0), .int p1, .int p2, .int p3, .int p4] st d (k_X11_moves h0 hr) hl q1841 q127 q1842 hd_X11_moves hR rfl hcat k
theorem hd_X11_refuses : yX11_refuses.cls ≠ "java/lang/invoke/MethodHandle" ∧ yX11_refuses.cls ≠ "java/lang/invoke/VarHandle" ∧ (parseMethodDescriptor yX11_refuses.desc).map (fun d => d.parameters.length) = some 1 := by decide +kernel
noncomputable def X11_refuses (p1 : Int32) (M : gM) : Option (Int32 × gM) := gG (gin p1 4) (gG (gin p1 4) (gLet (wI M 52 7 (Int32.toNatClampNeg p1) ((M.1 52 7 (Int32.toNatClampNeg p1)) + 1)) (fun M_3 => some ((-1), M_3))))
theorem k_X11_refuses {G : gG5} {nf : Nat} {M : gM} {p1 : Int32} {r : Int32} {M1 : gM} (hr : X11_refuses p1 M = some (r, M1)) : gMet G (gXn nf) yX11_refuses cX11_refuses 2 (some .int) 0 0 M [.ref (gad 50 0), .int p1] (some (.int r)) M1 := by
  refine gMet_of pl_X11 rfl (Nat.le_of_ble_eq_true rfl) (fun Ψ C CR => ?_)
  show Ψ M 0 [(0, .ref (gad 50 0)), (1, .int p1)] []
  refine r_aload_n (pc := 0) C dX11_refuses_0 rfl 0 rfl ?_
  refine g50_14 (pc := 1) C dX11_refuses_1 q1414 (e50 nf) ?_
  refine r_iload_n (pc := 4) C dX11_refuses_4 rfl 1 rfl ?_
  refine r_dup2 (pc := 5) C dX11_refuses_5 rfl rfl ?_
  obtain ⟨g_1, hr⟩ := gG_some hr
  refine r_ialdN (pc := 6) C dX11_refuses_6 rfl (e52 (nf := nf) (by decide)) g_1 rfl ?_
  refine r_iconst (pc := 7) C dX11_refuses_7 ki1 ?_
  refine r_iadd (pc := 8) C dX11_refuses_8 ?_
  obtain ⟨g_2, hr⟩ := gG_some hr
  obtain ⟨M_3, eM_3, hr⟩ := gLet_some hr
  refine r_iastN (pc := 9) C dX11_refuses_9 rfl (e52 (nf := nf) (by decide)) g_2 rfl eM_3 ?_
  refine r_iconst (pc := 10) C dX11_refuses_10 kim1 ?_
  exact r_iret (pc := 11) CR dX11_refuses_11 (congrArg (fun z => some (Value.int z)) (Prod.mk.inj (gSome hr)).1) (Prod.mk.inj (gSome hr)).2
theorem c_X11_refuses {Ψ : gM → Nat → List (Nat × Value) → List Value → Prop} {G : gG5} {nf : Nat} {cc : ByteArray} {own : String} {nL : Nat} {ret : Option FieldType} {fr lo : Nat} {v0 : Option Value} {M0 M : gM} {pc index : Nat} {ls : List (Nat × Value)} {st : List Value} (C : gC Ψ G (gXn nf) cc own nL ret fr lo v0 M0) (d : decode cc pc = .ok (.invokevirtual index, 3)) (hl : Cond.methodLink own index yX11_refuses ∈ gws) (hR : 1 ≤ fr ∧ 21 ≤ lo) {p1 : Int32} {r : Int32} {M1 : gM} (hr : X11_refuses p1 M = some (r, M1)) (hcat : (st.map fun v => v.category).sum ≤ 8) (k : Ψ M1 (pc + 3) ls (.int r :: st)) : Ψ M pc ls (.int p1 :: .ref (gad 50 0) :: st) := r_callV C [.int p1] st d (k_X11_refuses hr) hl q1696 q65 q127 q1697 hd_X11_refuses hR rfl (by decide) (e50 nf) rfl hcat k
theorem hd_X11_draw : yX11_draw.cls ≠ "java/lang/invoke/MethodHandle" ∧ yX11_draw.cls ≠ "java/lang/invoke/VarHandle" ∧ (parseMethodDescriptor yX11_draw.desc).map (fun d => d.parameters.length) = some 1 := by decide +kernel
noncomputable def X11_draw (p1 : Int32) (M : gM) : Option (Int32 × gM) := gLet (wI M 50 0 0 0) (fun M_1 => (X11_stopsDraw 8 p1 M_1).bind (gU2 (fun r_3 M_4 => (if r_3 = (-1) then (X11_remember M_4).bind (fun M_7 => (X11_draws 8 p1 M_7).bind (gU2 (fun r_9 M_10 => (X11_tells 0 p1 M_10).bind (fun M_12 => some (r_9, M_12))))) else (X11_refuses r_3 M_4).bind (gU2 (fun r_14 M_15 => some (r_14, M_15)))))))
theorem k_X11_draw {G : gG5} {nf : Nat} {M : gM} {p1 : Int32} {r : Int32} {M1 : gM} (hr : X11_draw p1 M = some (r, M1)) : gMet G (gXn nf) yX11_draw cX11_draw 4 (some .int) 8 209 M [.ref (gad 50 0), .int p1] (some (.int r)) M1 := by
  refine gMet_of pl_X11 rfl (Nat.le_of_ble_eq_true rfl) (fun Ψ C CR => ?_)
  show Ψ M 0 [(0, .ref (gad 50 0)), (1, .int p1)] []
  refine r_aload_n (pc := 0) C dX11_draw_0 rfl 0 rfl ?_
  refine r_iconst (pc := 1) C dX11_draw_1 ki0 ?_
  obtain ⟨M_1, eM_1, hr⟩ := gLet_some hr
  refine p50_0 (pc := 2) C dX11_draw_2 q1400 (e50 nf) eM_1 ?_
  refine r_aload_n (pc := 5) C dX11_draw_5 rfl 0 rfl ?_
  refine r_aload_n (pc := 6) C dX11_draw_6 rfl 0 rfl ?_
  refine g50_18 (pc := 7) C dX11_draw_7 q1418 (e50 nf) ?_
  refine r_iload_n (pc := 10) C dX11_draw_10 rfl 1 rfl ?_
  obtain ⟨⟨r_3, M_4⟩, hc_2, hr⟩ := gBind_some hr
  replace hr := gU2_some hr
  refine c_X11_stopsDraw (pc := 11) C dX11_draw_11 q1640 ⟨Nat.le_of_ble_eq_true rfl, Nat.le_of_ble_eq_true rfl⟩ (by decide) hc_2 (Nat.le_of_ble_eq_true rfl) ?_
  refine r_istore_n (pc := 14) C dX11_draw_14 rfl (by decide) rfl (ls' := [(2, .int r_3), (0, .ref (gad 50 0)), (1, .int p1)]) rfl ?_
  refine r_iload_n (pc := 15) C dX11_draw_15 rfl 0 rfl ?_
  refine r_iconst (pc := 16) C dX11_draw_16 kim1 ?_
  refine r_icmp_eq (pc := 17) (tgt := 26) C dX11_draw_17 rfl (fun c_5 => ?_) (fun c_5 => ?_)
  · replace hr := (if_pos c_5).symm.trans hr
    refine r_aload_n (pc := 26) C dX11_draw_26 rfl 1 rfl ?_
    obtain ⟨M_7, hc_6, hr⟩ := gBind_some hr
    refine c_X11_remember (pc := 27) C dX11_draw_27 q1698 ⟨Nat.le_of_ble_eq_true rfl, Nat.le_of_ble_eq_true rfl⟩ hc_6 (Nat.le_of_ble_eq_true rfl) ?_
    refine r_aload_n (pc := 30) C dX11_draw_30 rfl 1 rfl ?_
    refine r_aload_n (pc := 31) C dX11_draw_31 rfl 1 rfl ?_
    refine g50_18 (pc := 32) C dX11_draw_32 q1418 (e50 nf) ?_
    refine r_iload_n (pc := 35) C dX11_draw_35 rfl 2 rfl ?_
    obtain ⟨⟨r_9, M_10⟩, hc_8, hr⟩ := gBind_some hr
    replace hr := gU2_some hr
    refine c_X11_draws (pc := 36) C dX11_draw_36 q1705 ⟨Nat.le_of_ble_eq_true rfl, Nat.le_of_ble_eq_true rfl⟩ (by decide) hc_8 (Nat.le_of_ble_eq_true rfl) ?_
    refine r_istore_n (pc := 39) C dX11_draw_39 rfl (by decide) rfl (ls' := [(3, .int r_9), (2, .int r_3), (0, .ref (gad 50 0)), (1, .int p1)]) rfl ?_
    refine r_aload_n (pc := 40) C dX11_draw_40 rfl 2 rfl ?_
    refine r_iconst (pc := 41) C dX11_draw_41 ki0 ?_
    refine r_iload_n (pc := 42) C dX11_draw_42 rfl 3 rfl ?_
    obtain ⟨M_12, hc_11, hr⟩ := gBind_some hr
    refine c_X11_tells (pc := 43) C dX11_draw_43 q1769 ⟨Nat.le_of_ble_eq_true rfl, Nat.le_of_ble_eq_true rfl⟩ hc_11 (Nat.le_of_ble_eq_true rfl) ?_
    refine r_iload_n (pc := 46) C dX11_draw_46 rfl 0 rfl ?_
    exact r_iret (pc := 47) CR dX11_draw_47 (congrArg (fun z => some (Value.int z)) (Prod.mk.inj (gSome hr)).1) (Prod.mk.inj (gSome hr)).2
  · replace hr := (if_neg c_5).symm.trans hr
    refine r_aload_n (pc := 20) C dX11_draw_20 rfl 1 rfl ?_
    refine r_iload_n (pc := 21) C dX11_draw_21 rfl 0 rfl ?_
    obtain ⟨⟨r_14, M_15⟩, hc_13, hr⟩ := gBind_some hr
    replace hr := gU2_some hr
    refine c_X11_refuses (pc := 22) C dX11_draw_22 q1694 ⟨Nat.le_of_ble_eq_true rfl, Nat.le_of_ble_eq_true rfl⟩ hc_13 (Nat.le_of_ble_eq_true rfl) ?_
    exact r_iret (pc := 25) CR dX11_draw_25 (congrArg (fun z => some (Value.int z)) (Prod.mk.inj (gSome hr)).1) (Prod.mk.inj (gSome hr)).2
theorem c_X11_draw {Ψ : gM → Nat → List (Nat × Value) → List Value → Prop} {G : gG5} {nf : Nat} {cc : ByteArray} {own : String} {nL : Nat} {ret : Option FieldType} {fr lo : Nat} {v0 : Option Value} {M0 M : gM} {pc index : Nat} {ls : List (Nat × Value)} {st : List Value} (C : gC Ψ G (gXn nf) cc own nL ret fr lo v0 M0) (d : decode cc pc = .ok (.invokevirtual index, 3)) (hl : Cond.methodLink own index yX11_draw ∈ gws) (hR : 9 ≤ fr ∧ 232 ≤ lo) {p1 : Int32} {r : Int32} {M1 : gM} (hr : X11_draw p1 M = some (r, M1)) (hcat : (st.map fun v => v.category).sum ≤ 8) (k : Ψ M1 (pc + 3) ls (.int r :: st)) : Ψ M pc ls (.int p1 :: .ref (gad 50 0) :: st) := r_callV C [.int p1] st d (k_X11_draw hr) hl q1637 q1638 q127 q1639 hd_X11_draw hR rfl (by decide) (e50 nf) rfl hcat k
theorem hd_X11_flush : yX11_flush.cls ≠ "java/lang/invoke/MethodHandle" ∧ yX11_flush.cls ≠ "java/lang/invoke/VarHandle" ∧ (parseMethodDescriptor yX11_flush.desc).map (fun d => d.parameters.length) = some 1 := by decide +kernel
noncomputable def X11_flush (p1 : Int32) (M : gM) : Option (Int32 × gM) := gLet (wI M 50 0 0 0) (fun M_1 => (X11_stopsFlush 8 p1 M_1).bind (fun r_3 => (if r_3 = (-1) then (X11_remember M_1).bind (fun M_6 => gG (gin (768 + (11 * p1)) 1242) (gLet ((M_6.1 52 8 (Int32.toNatClampNeg (768 + (11 * p1))))) (fun x3_8 => (X11_flushes 8 p1 M_6).bind (fun M_10 => (X11_tells 1 p1 M_10).bind (fun M_12 => some (x3_8, M_12)))))) else (X11_refuses r_3 M_1).bind (gU2 (fun r_14 M_15 => some (r_14, M_15))))))
theorem k_X11_flush {G : gG5} {nf : Nat} {M : gM} {p1 : Int32} {r : Int32} {M1 : gM} (hr : X11_flush p1 M = some (r, M1)) : gMet G (gXn nf) yX11_flush cX11_flush 4 (some .int) 7 183 M [.ref (gad 50 0), .int p1] (some (.int r)) M1 := by
  refine gMet_of pl_X11 rfl (Nat.le_of_ble_eq_true rfl) (fun Ψ C CR => ?_)
  show Ψ M 0 [(0, .ref (gad 50 0)), (1, .int p1)] []
  refine r_aload_n (pc := 0) C dX11_flush_0 rfl 0 rfl ?_
  refine r_iconst (pc := 1) C dX11_flush_1 ki0 ?_
  obtain ⟨M_1, eM_1, hr⟩ := gLet_some hr
  refine p50_0 (pc := 2) C dX11_flush_2 q1400 (e50 nf) eM_1 ?_
  refine r_aload_n (pc := 5) C dX11_flush_5 rfl 0 rfl ?_
  refine r_aload_n (pc := 6) C dX11_flush_6 rfl 0 rfl ?_
  refine g50_18 (pc := 7) C dX11_flush_7 q1418 (e50 nf) ?_
  refine r_iload_n (pc := 10) C dX11_flush_10 rfl 1 rfl ?_
  obtain ⟨r_3, hc_2, hr⟩ := gBind_some hr
  refine c_X11_stopsFlush (pc := 11) C dX11_flush_11 q1787 ⟨Nat.le_of_ble_eq_true rfl, Nat.le_of_ble_eq_true rfl⟩ (by decide) hc_2 (Nat.le_of_ble_eq_true rfl) ?_
  refine r_istore_n (pc := 14) C dX11_flush_14 rfl (by decide) rfl (ls' := [(2, .int r_3), (0, .ref (gad 50 0)), (1, .int p1)]) rfl ?_
  refine r_iload_n (pc := 15) C dX11_flush_15 rfl 0 rfl ?_
  refine r_iconst (pc := 16) C dX11_flush_16 kim1 ?_
  refine r_icmp_eq (pc := 17) (tgt := 26) C dX11_flush_17 rfl (fun c_4 => ?_) (fun c_4 => ?_)
  · replace hr := (if_pos c_4).symm.trans hr
    refine r_aload_n (pc := 26) C dX11_flush_26 rfl 1 rfl ?_
    obtain ⟨M_6, hc_5, hr⟩ := gBind_some hr
    refine c_X11_remember (pc := 27) C dX11_flush_27 q1698 ⟨Nat.le_of_ble_eq_true rfl, Nat.le_of_ble_eq_true rfl⟩ hc_5 (Nat.le_of_ble_eq_true rfl) ?_
    refine r_aload_n (pc := 30) C dX11_flush_30 rfl 1 rfl ?_
    refine g50_18 (pc := 31) C dX11_flush_31 q1418 (e50 nf) ?_
    refine r_sipush (pc := 34) C dX11_flush_34 ks768 ?_
    refine r_bipush (pc := 37) C dX11_flush_37 kb11 ?_
    refine r_iload_n (pc := 39) C dX11_flush_39 rfl 2 rfl ?_
    refine r_imul (pc := 40) C dX11_flush_40 ?_
    refine r_iadd (pc := 41) C dX11_flush_41 ?_
    obtain ⟨g_7, hr⟩ := gG_some hr
    refine r_ialdN (pc := 42) C dX11_flush_42 rfl (e52 (nf := nf) (by decide)) g_7 rfl ?_
    obtain ⟨x3_8, ex3_8, hr⟩ := gLet_some hr
    refine r_istore_n (pc := 43) C dX11_flush_43 rfl (by decide) ex3_8 (ls' := [(3, .int x3_8), (2, .int r_3), (0, .ref (gad 50 0)), (1, .int p1)]) rfl ?_
    refine r_aload_n (pc := 44) C dX11_flush_44 rfl 2 rfl ?_
    refine r_aload_n (pc := 45) C dX11_flush_45 rfl 2 rfl ?_
    refine g50_18 (pc := 46) C dX11_flush_46 q1418 (e50 nf) ?_
    refine r_iload_n (pc := 49) C dX11_flush_49 rfl 3 rfl ?_
    obtain ⟨M_10, hc_9, hr⟩ := gBind_some hr
    refine c_X11_flushes (pc := 50) C dX11_flush_50 q1709 ⟨Nat.le_of_ble_eq_true rfl, Nat.le_of_ble_eq_true rfl⟩ (by decide) hc_9 (Nat.le_of_ble_eq_true rfl) ?_
    refine r_aload_n (pc := 53) C dX11_flush_53 rfl 2 rfl ?_
    refine r_iconst (pc := 54) C dX11_flush_54 ki1 ?_
    refine r_iload_n (pc := 55) C dX11_flush_55 rfl 3 rfl ?_
    obtain ⟨M_12, hc_11, hr⟩ := gBind_some hr
    refine c_X11_tells (pc := 56) C dX11_flush_56 q1769 ⟨Nat.le_of_ble_eq_true rfl, Nat.le_of_ble_eq_true rfl⟩ hc_11 (Nat.le_of_ble_eq_true rfl) ?_
    refine r_iload_n (pc := 59) C dX11_flush_59 rfl 0 rfl ?_
    exact r_iret (pc := 60) CR dX11_flush_60 (congrArg (fun z => some (Value.int z)) (Prod.mk.inj (gSome hr)).1) (Prod.mk.inj (gSome hr)).2
  · replace hr := (if_neg c_4).symm.trans hr
    refine r_aload_n (pc := 20) C dX11_flush_20 rfl 1 rfl ?_
    refine r_iload_n (pc := 21) C dX11_flush_21 rfl 0 rfl ?_
    obtain ⟨⟨r_14, M_15⟩, hc_13, hr⟩ := gBind_some hr
    replace hr := gU2_some hr
    refine c_X11_refuses (pc := 22) C dX11_flush_22 q1694 ⟨Nat.le_of_ble_eq_true rfl, Nat.le_of_ble_eq_true rfl⟩ hc_13 (Nat.le_of_ble_eq_true rfl) ?_
    exact r_iret (pc := 25) CR dX11_flush_25 (congrArg (fun z => some (Value.int z)) (Prod.mk.inj (gSome hr)).1) (Prod.mk.inj (gSome hr)).2
theorem c_X11_flush {Ψ : gM → Nat → List (Nat × Value) → List Value → Prop} {G : gG5} {nf : Nat} {cc : ByteArray} {own : String} {nL : Nat} {ret : Option FieldType} {fr lo : Nat} {v0 : Option Value} {M0 M : gM} {pc index : Nat} {ls : List (Nat × Value)} {st : List Value} (C : gC Ψ G (gXn nf) cc own nL ret fr lo v0 M0) (d : decode cc pc = .ok (.invokevirtual index, 3)) (hl : Cond.methodLink own index yX11_flush ∈ gws) (hR : 8 ≤ fr ∧ 206 ≤ lo) {p1 : Int32} {r : Int32} {M1 : gM} (hr : X11_flush p1 M = some (r, M1)) (hcat : (st.map fun v => v.category).sum ≤ 8) (k : Ψ M1 (pc + 3) ls (.int r :: st)) : Ψ M pc ls (.int p1 :: .ref (gad 50 0) :: st) := r_callV C [.int p1] st d (k_X11_flush hr) hl q1784 q1785 q127 q1786 hd_X11_flush hR rfl (by decide) (e50 nf) rfl hcat k
theorem hd_X11_all : yX11_all.cls ≠ "java/lang/invoke/MethodHandle" ∧ yX11_all.cls ≠ "java/lang/invoke/VarHandle" ∧ (parseMethodDescriptor yX11_all.desc).map (fun d => d.parameters.length) = some 0 := by decide +kernel
noncomputable def X11_all_L26 (x1 : Int32) (x2 : Int32) (M : gM) : Option ((Int32 × Int32) ⊕ Int32) := (X11_tilesAll M).bind (fun r_6 => (if r_6 ≤ x2 then some (.inr x1) else gG (gin (768 + (11 * x2)) 1242) ((if (M.1 52 8 (Int32.toNatClampNeg (768 + (11 * x2)))) ≤ 0 then gLet ((x1 + 0)) (fun x1_10 => gLet (x2 + 1) (fun x2_11 => some (.inl (x1_10, x2_11)))) else gLet ((x1 + 1)) (fun x1_12 => gLet (x2 + 1) (fun x2_13 => some (.inl (x1_12, x2_13))))))))
theorem t_X11_all_L26 {Ψ : gM → Nat → List (Nat × Value) → List Value → Prop} {G : gG5} {nf : Nat} {M : gM} {v0 : Option Value} {M0 : gM} {x1 : Int32} {x2 : Int32} {w : ((Int32 × Int32) ⊕ Int32)} (C : gC Ψ G (gXn nf) cX11_all RX11 3 (some .int) 8 205 v0 M0) (hr : X11_all_L26 x1 x2 M = some w) (hn : ∀ s, w = .inl s → Ψ M 26 [(0, .ref (gad 50 0)), (1, .int (s.1)), (2, .int (s.2))] []) (hx : ∀ e, w = .inr e → (fun e => Ψ M 64 [(0, .ref (gad 50 0)), (1, .int e)] []) e) : Ψ M 26 [(0, .ref (gad 50 0)), (1, .int x1), (2, .int x2)] [] := by
  refine r_iload_n (pc := 26) C dX11_all_26 rfl 2 rfl ?_
  refine r_aload_n (pc := 27) C dX11_all_27 rfl 0 rfl ?_
  obtain ⟨r_6, hc_5, hr⟩ := gBind_some hr
  refine c_X11_tilesAll (pc := 28) C dX11_all_28 q1663 ⟨Nat.le_of_ble_eq_true rfl, Nat.le_of_ble_eq_true rfl⟩ hc_5 (Nat.le_of_ble_eq_true rfl) ?_
  refine r_icmp_ge (pc := 31) (tgt := 64) C dX11_all_31 rfl (fun c_7 => ?_) (fun c_7 => ?_)
  · replace hr := (if_pos c_7).symm.trans hr
    refine r_sub C [0, 1] (ls' := [(0, .ref (gad 50 0)), (1, .int x1)]) rfl ?_
    exact hx x1 (gSome hr)
  · replace hr := (if_neg c_7).symm.trans hr
    refine r_iload_n (pc := 34) C dX11_all_34 rfl 1 rfl ?_
    refine r_aload_n (pc := 35) C dX11_all_35 rfl 0 rfl ?_
    refine g50_18 (pc := 36) C dX11_all_36 q1418 (e50 nf) ?_
    refine r_sipush (pc := 39) C dX11_all_39 ks768 ?_
    refine r_bipush (pc := 42) C dX11_all_42 kb11 ?_
    refine r_iload_n (pc := 44) C dX11_all_44 rfl 2 rfl ?_
    refine r_imul (pc := 45) C dX11_all_45 ?_
    refine r_iadd (pc := 46) C dX11_all_46 ?_
    obtain ⟨g_8, hr⟩ := gG_some hr
    refine r_ialdN (pc := 47) C dX11_all_47 rfl (e52 (nf := nf) (by decide)) g_8 rfl ?_
    refine r_if_le (pc := 48) (tgt := 55) C dX11_all_48 rfl (fun c_9 => ?_) (fun c_9 => ?_)
    · replace hr := (if_pos c_9).symm.trans hr
      refine r_iconst (pc := 55) C dX11_all_55 ki0 ?_
      refine r_iadd (pc := 56) C dX11_all_56 ?_
      obtain ⟨x1_10, ex1_10, hr⟩ := gLet_some hr
      refine r_istore_n (pc := 57) C dX11_all_57 rfl (by decide) ex1_10 (ls' := [(1, .int x1_10), (0, .ref (gad 50 0)), (2, .int x2)]) rfl ?_
      obtain ⟨x2_11, ex2_11, hr⟩ := gLet_some hr
      refine r_iinc (pc := 58) C dX11_all_58 2 rfl rfl (by decide) ex2_11 (ls' := [(2, .int x2_11), (1, .int x1_10), (0, .ref (gad 50 0))]) rfl ?_
      refine r_goto (pc := 61) (tgt := 26) C dX11_all_61 rfl ?_
      refine r_sub C [2, 1, 0] (ls' := [(0, .ref (gad 50 0)), (1, .int x1_10), (2, .int x2_11)]) rfl ?_
      exact hn (x1_10, x2_11) (gSome hr)
    · replace hr := (if_neg c_9).symm.trans hr
      refine r_iconst (pc := 51) C dX11_all_51 ki1 ?_
      refine r_goto (pc := 52) (tgt := 56) C dX11_all_52 rfl ?_
      refine r_iadd (pc := 56) C dX11_all_56 ?_
      obtain ⟨x1_12, ex1_12, hr⟩ := gLet_some hr
      refine r_istore_n (pc := 57) C dX11_all_57 rfl (by decide) ex1_12 (ls' := [(1, .int x1_12), (0, .ref (gad 50 0)), (2, .int x2)]) rfl ?_
      obtain ⟨x2_13, ex2_13, hr⟩ := gLet_some hr
      refine r_iinc (pc := 58) C dX11_all_58 2 rfl rfl (by decide) ex2_13 (ls' := [(2, .int x2_13), (1, .int x1_12), (0, .ref (gad 50 0))]) rfl ?_
      refine r_goto (pc := 61) (tgt := 26) C dX11_all_61 rfl ?_
      refine r_sub C [2, 1, 0] (ls' := [(0, .ref (gad 50 0)), (1, .int x1_12), (2, .int x2_13)]) rfl ?_
      exact hn (x1_12, x2_13) (gSome hr)
noncomputable def X11_all (M : gM) : Option (Int32 × gM) := gLet (wI M 50 0 0 0) (fun M_1 => (if (M_1.1 50 0 16) = 0 then (X11_refuses 0 M_1).bind (gU2 (fun r_20 M_21 => some (r_20, M_21))) else (X11_remember M_1).bind (fun M_4 => (gIter (fun s => X11_all_L26 s.1 s.2 M_4) FU (0, 0)).bind (fun x1_14 => (X11_flushesAll 8 M_4).bind (fun M_16 => (X11_tells 2 0 M_16).bind (fun M_18 => some (x1_14, M_18)))))))
theorem k_X11_all {G : gG5} {nf : Nat} {M : gM} {r : Int32} {M1 : gM} (hr : X11_all M = some (r, M1)) : gMet G (gXn nf) yX11_all cX11_all 3 (some .int) 8 205 M [.ref (gad 50 0)] (some (.int r)) M1 := by
  refine gMet_of pl_X11 rfl (Nat.le_of_ble_eq_true rfl) (fun Ψ C CR => ?_)
  show Ψ M 0 [(0, .ref (gad 50 0))] []
  refine r_aload_n (pc := 0) C dX11_all_0 rfl 0 rfl ?_
  refine r_iconst (pc := 1) C dX11_all_1 ki0 ?_
  obtain ⟨M_1, eM_1, hr⟩ := gLet_some hr
  refine p50_0 (pc := 2) C dX11_all_2 q1400 (e50 nf) eM_1 ?_
  refine r_aload_n (pc := 5) C dX11_all_5 rfl 0 rfl ?_
  refine g50_16 (pc := 6) C dX11_all_6 q1416 (e50 nf) ?_
  refine r_if_ne (pc := 9) (tgt := 18) C dX11_all_9 rfl (fun c_2 => ?_) (fun c_2 => ?_)
  · replace hr := (if_neg c_2).symm.trans hr
    refine r_aload_n (pc := 18) C dX11_all_18 rfl 0 rfl ?_
    obtain ⟨M_4, hc_3, hr⟩ := gBind_some hr
    refine c_X11_remember (pc := 19) C dX11_all_19 q1698 ⟨Nat.le_of_ble_eq_true rfl, Nat.le_of_ble_eq_true rfl⟩ hc_3 (Nat.le_of_ble_eq_true rfl) ?_
    refine r_iconst (pc := 22) C dX11_all_22 ki0 ?_
    refine r_istore_n (pc := 23) C dX11_all_23 rfl (by decide) rfl (ls' := [(1, .int 0), (0, .ref (gad 50 0))]) rfl ?_
    refine r_iconst (pc := 24) C dX11_all_24 ki0 ?_
    refine r_istore_n (pc := 25) C dX11_all_25 rfl (by decide) rfl (ls' := [(2, .int 0), (1, .int 0), (0, .ref (gad 50 0))]) rfl ?_
    refine r_sub C [2, 1, 0] (ls' := [(0, .ref (gad 50 0)), (1, .int 0), (2, .int 0)]) rfl ?_
    obtain ⟨ev, hit, hr⟩ := gBind_some hr
    refine gIter_V (step := fun s => X11_all_L26 s.1 s.2 M_4) (P := fun s => Ψ M_4 26 [(0, .ref (gad 50 0)), (1, .int (s.1)), (2, .int (s.2))] []) (K := (fun e => Ψ M_4 64 [(0, .ref (gad 50 0)), (1, .int e)] [])) (fun s w hs hn hx => t_X11_all_L26 C  hs hn hx) FU (0, 0) ev hit ?_
    obtain ⟨x1_14, rfl⟩ : ∃ z, z = ev := ⟨_, rfl⟩
    show Ψ M_4 64 [(0, .ref (gad 50 0)), (1, .int x1_14)] []
    refine r_aload_n (pc := 64) C dX11_all_64 rfl 0 rfl ?_
    refine r_aload_n (pc := 65) C dX11_all_65 rfl 0 rfl ?_
    refine g50_18 (pc := 66) C dX11_all_66 q1418 (e50 nf) ?_
    obtain ⟨M_16, hc_15, hr⟩ := gBind_some hr
    refine c_X11_flushesAll (pc := 69) C dX11_all_69 q1803 ⟨Nat.le_of_ble_eq_true rfl, Nat.le_of_ble_eq_true rfl⟩ (by decide) hc_15 (Nat.le_of_ble_eq_true rfl) ?_
    refine r_aload_n (pc := 72) C dX11_all_72 rfl 0 rfl ?_
    refine r_iconst (pc := 73) C dX11_all_73 ki2 ?_
    refine r_iconst (pc := 74) C dX11_all_74 ki0 ?_
    obtain ⟨M_18, hc_17, hr⟩ := gBind_some hr
    refine c_X11_tells (pc := 75) C dX11_all_75 q1769 ⟨Nat.le_of_ble_eq_true rfl, Nat.le_of_ble_eq_true rfl⟩ hc_17 (Nat.le_of_ble_eq_true rfl) ?_
    refine r_iload_n (pc := 78) C dX11_all_78 rfl 1 rfl ?_
    exact r_iret (pc := 79) CR dX11_all_79 (congrArg (fun z => some (Value.int z)) (Prod.mk.inj (gSome hr)).1) (Prod.mk.inj (gSome hr)).2
  · replace hr := (if_pos c_2).symm.trans hr
    refine r_aload_n (pc := 12) C dX11_all_12 rfl 0 rfl ?_
    refine r_iconst (pc := 13) C dX11_all_13 ki0 ?_
    obtain ⟨⟨r_20, M_21⟩, hc_19, hr⟩ := gBind_some hr
    replace hr := gU2_some hr
    refine c_X11_refuses (pc := 14) C dX11_all_14 q1694 ⟨Nat.le_of_ble_eq_true rfl, Nat.le_of_ble_eq_true rfl⟩ hc_19 (Nat.le_of_ble_eq_true rfl) ?_
    exact r_iret (pc := 17) CR dX11_all_17 (congrArg (fun z => some (Value.int z)) (Prod.mk.inj (gSome hr)).1) (Prod.mk.inj (gSome hr)).2
theorem c_X11_all {Ψ : gM → Nat → List (Nat × Value) → List Value → Prop} {G : gG5} {nf : Nat} {cc : ByteArray} {own : String} {nL : Nat} {ret : Option FieldType} {fr lo : Nat} {v0 : Option Value} {M0 M : gM} {pc index : Nat} {ls : List (Nat × Value)} {st : List Value} (C : gC Ψ G (gXn nf) cc own nL ret fr lo v0 M0) (d : decode cc pc = .ok (.invokevirtual index, 3)) (hl : Cond.methodLink own index yX11_all ∈ gws) (hR : 9 ≤ fr ∧ 227 ≤ lo) {r : Int32} {M1 : gM} (hr : X11_all M = some (r, M1)) (hcat : (st.map fun v => v.category).sum ≤ 8) (k : Ψ M1 (pc + 3) ls (.int r :: st)) : Ψ M pc ls (.ref (gad 50 0) :: st) := r_callV C [] st d (k_X11_all hr) hl q1800 q1801 q127 q1802 hd_X11_all hR rfl (by decide) (e50 nf) rfl hcat k
theorem hd_X11_binned : yX11_binned.cls ≠ "java/lang/invoke/MethodHandle" ∧ yX11_binned.cls ≠ "java/lang/invoke/VarHandle" ∧ (parseMethodDescriptor yX11_binned.desc).map (fun d => d.parameters.length) = some 0 := by decide +kernel
noncomputable def X11_binned_L4 (x1 : Int32) (x2 : Int32) (M : gM) : Option ((Int32 × Int32) ⊕ Int32) := (X11_tilesAll M).bind (fun r_2 => (if r_2 ≤ x2 then some (.inr x1) else gG (gin (768 + (11 * x2)) 1242) (gLet ((x1 + (M.1 52 8 (Int32.toNatClampNeg (768 + (11 * x2)))))) (fun x1_5 => gLet (x2 + 1) (fun x2_6 => some (.inl (x1_5, x2_6)))))))
theorem t_X11_binned_L4 {Ψ : gM → Nat → List (Nat × Value) → List Value → Prop} {G : gG5} {nf : Nat} {M : gM} {v0 : Option Value} {M0 : gM} {x1 : Int32} {x2 : Int32} {w : ((Int32 × Int32) ⊕ Int32)} (C : gC Ψ G (gXn nf) cX11_binned RX11 3 (some .int) 2 40 v0 M0) (hr : X11_binned_L4 x1 x2 M = some w) (hn : ∀ s, w = .inl s → Ψ M 4 [(0, .ref (gad 50 0)), (1, .int (s.1)), (2, .int (s.2))] []) (hx : ∀ e, w = .inr e → (fun e => Ψ M 34 [(1, .int e)] []) e) : Ψ M 4 [(0, .ref (gad 50 0)), (1, .int x1), (2, .int x2)] [] := by
  refine r_iload_n (pc := 4) C dX11_binned_4 rfl 2 rfl ?_
  refine r_aload_n (pc := 5) C dX11_binned_5 rfl 0 rfl ?_
  obtain ⟨r_2, hc_1, hr⟩ := gBind_some hr
  refine c_X11_tilesAll (pc := 6) C dX11_binned_6 q1663 ⟨Nat.le_of_ble_eq_true rfl, Nat.le_of_ble_eq_true rfl⟩ hc_1 (Nat.le_of_ble_eq_true rfl) ?_
  refine r_icmp_ge (pc := 9) (tgt := 34) C dX11_binned_9 rfl (fun c_3 => ?_) (fun c_3 => ?_)
  · replace hr := (if_pos c_3).symm.trans hr
    refine r_sub C [1] (ls' := [(1, .int x1)]) rfl ?_
    exact hx x1 (gSome hr)
  · replace hr := (if_neg c_3).symm.trans hr
    refine r_iload_n (pc := 12) C dX11_binned_12 rfl 1 rfl ?_
    refine r_aload_n (pc := 13) C dX11_binned_13 rfl 0 rfl ?_
    refine g50_18 (pc := 14) C dX11_binned_14 q1418 (e50 nf) ?_
    refine r_sipush (pc := 17) C dX11_binned_17 ks768 ?_
    refine r_bipush (pc := 20) C dX11_binned_20 kb11 ?_
    refine r_iload_n (pc := 22) C dX11_binned_22 rfl 2 rfl ?_
    refine r_imul (pc := 23) C dX11_binned_23 ?_
    refine r_iadd (pc := 24) C dX11_binned_24 ?_
    obtain ⟨g_4, hr⟩ := gG_some hr
    refine r_ialdN (pc := 25) C dX11_binned_25 rfl (e52 (nf := nf) (by decide)) g_4 rfl ?_
    refine r_iadd (pc := 26) C dX11_binned_26 ?_
    obtain ⟨x1_5, ex1_5, hr⟩ := gLet_some hr
    refine r_istore_n (pc := 27) C dX11_binned_27 rfl (by decide) ex1_5 (ls' := [(1, .int x1_5), (0, .ref (gad 50 0)), (2, .int x2)]) rfl ?_
    obtain ⟨x2_6, ex2_6, hr⟩ := gLet_some hr
    refine r_iinc (pc := 28) C dX11_binned_28 2 rfl rfl (by decide) ex2_6 (ls' := [(2, .int x2_6), (1, .int x1_5), (0, .ref (gad 50 0))]) rfl ?_
    refine r_goto (pc := 31) (tgt := 4) C dX11_binned_31 rfl ?_
    refine r_sub C [2, 1, 0] (ls' := [(0, .ref (gad 50 0)), (1, .int x1_5), (2, .int x2_6)]) rfl ?_
    exact hn (x1_5, x2_6) (gSome hr)
noncomputable def X11_binned (M : gM) : Option Int32 := (gIter (fun s => X11_binned_L4 s.1 s.2 M) FU (0, 0)).bind (fun x1_7 => some x1_7)
theorem k_X11_binned {G : gG5} {nf : Nat} {M : gM} {r : Int32} (hr : X11_binned M = some r) : gMet G (gXn nf) yX11_binned cX11_binned 3 (some .int) 2 40 M [.ref (gad 50 0)] (some (.int r)) M := by
  refine gMet_of pl_X11 rfl (Nat.le_of_ble_eq_true rfl) (fun Ψ C CR => ?_)
  show Ψ M 0 [(0, .ref (gad 50 0))] []
  refine r_iconst (pc := 0) C dX11_binned_0 ki0 ?_
  refine r_istore_n (pc := 1) C dX11_binned_1 rfl (by decide) rfl (ls' := [(1, .int 0), (0, .ref (gad 50 0))]) rfl ?_
  refine r_iconst (pc := 2) C dX11_binned_2 ki0 ?_
  refine r_istore_n (pc := 3) C dX11_binned_3 rfl (by decide) rfl (ls' := [(2, .int 0), (1, .int 0), (0, .ref (gad 50 0))]) rfl ?_
  refine r_sub C [2, 1, 0] (ls' := [(0, .ref (gad 50 0)), (1, .int 0), (2, .int 0)]) rfl ?_
  obtain ⟨ev, hit, hr⟩ := gBind_some hr
  refine gIter_V (step := fun s => X11_binned_L4 s.1 s.2 M) (P := fun s => Ψ M 4 [(0, .ref (gad 50 0)), (1, .int (s.1)), (2, .int (s.2))] []) (K := (fun e => Ψ M 34 [(1, .int e)] [])) (fun s w hs hn hx => t_X11_binned_L4 C  hs hn hx) FU (0, 0) ev hit ?_
  obtain ⟨x1_7, rfl⟩ : ∃ z, z = ev := ⟨_, rfl⟩
  show Ψ M 34 [(1, .int x1_7)] []
  refine r_iload_n (pc := 34) C dX11_binned_34 rfl 0 rfl ?_
  exact r_iret (pc := 35) CR dX11_binned_35 (congrArg (fun z => some (Value.int z)) (gSome hr)) rfl
theorem c_X11_binned {Ψ : gM → Nat → List (Nat × Value) → List Value → Prop} {G : gG5} {nf : Nat} {cc : ByteArray} {own : String} {nL : Nat} {ret : Option FieldType} {fr lo : Nat} {v0 : Option Value} {M0 M : gM} {pc index : Nat} {ls : List (Nat × Value)} {st : List Value} (C : gC Ψ G (gXn nf) cc own nL ret fr lo v0 M0) (d : decode cc pc = .ok (.invokevirtual index, 3)) (hl : Cond.methodLink own index yX11_binned ∈ gws) (hR : 3 ≤ fr ∧ 62 ≤ lo) {r : Int32} (hr : X11_binned M = some r) (hcat : (st.map fun v => v.category).sum ≤ 8) (k : Ψ M (pc + 3) ls (.int r :: st)) : Ψ M pc ls (.ref (gad 50 0) :: st) := r_callV C [] st d (k_X11_binned hr) hl q1813 q86 q127 q1814 hd_X11_binned hR rfl (by decide) (e50 nf) rfl hcat k
theorem hd_X11_clear : yX11_clear.cls ≠ "java/lang/invoke/MethodHandle" ∧ yX11_clear.cls ≠ "java/lang/invoke/VarHandle" ∧ (parseMethodDescriptor yX11_clear.desc).map (fun d => d.parameters.length) = some 0 := by decide +kernel
noncomputable def X11_clear (M : gM) : Option (Int32 × gM) := gLet (wI M 50 0 0 0) (fun M_1 => (if (M_1.1 50 0 16) = 0 then (X11_refuses 0 M_1).bind (gU2 (fun r_12 M_13 => some (r_12, M_13))) else (X11_remember M_1).bind (fun M_4 => (X11_binned M_4).bind (fun r_6 => (X11_clears 8 M_4).bind (fun M_8 => (X11_tells 3 0 M_8).bind (fun M_10 => some (r_6, M_10)))))))
theorem k_X11_clear {G : gG5} {nf : Nat} {M : gM} {r : Int32} {M1 : gM} (hr : X11_clear M = some (r, M1)) : gMet G (gXn nf) yX11_clear cX11_clear 2 (some .int) 4 89 M [.ref (gad 50 0)] (some (.int r)) M1 := by
  refine gMet_of pl_X11 rfl (Nat.le_of_ble_eq_true rfl) (fun Ψ C CR => ?_)
  show Ψ M 0 [(0, .ref (gad 50 0))] []
  refine r_aload_n (pc := 0) C dX11_clear_0 rfl 0 rfl ?_
  refine r_iconst (pc := 1) C dX11_clear_1 ki0 ?_
  obtain ⟨M_1, eM_1, hr⟩ := gLet_some hr
  refine p50_0 (pc := 2) C dX11_clear_2 q1400 (e50 nf) eM_1 ?_
  refine r_aload_n (pc := 5) C dX11_clear_5 rfl 0 rfl ?_
  refine g50_16 (pc := 6) C dX11_clear_6 q1416 (e50 nf) ?_
  refine r_if_ne (pc := 9) (tgt := 18) C dX11_clear_9 rfl (fun c_2 => ?_) (fun c_2 => ?_)
  · replace hr := (if_neg c_2).symm.trans hr
    refine r_aload_n (pc := 18) C dX11_clear_18 rfl 0 rfl ?_
    obtain ⟨M_4, hc_3, hr⟩ := gBind_some hr
    refine c_X11_remember (pc := 19) C dX11_clear_19 q1698 ⟨Nat.le_of_ble_eq_true rfl, Nat.le_of_ble_eq_true rfl⟩ hc_3 (Nat.le_of_ble_eq_true rfl) ?_
    refine r_aload_n (pc := 22) C dX11_clear_22 rfl 0 rfl ?_
    obtain ⟨r_6, hc_5, hr⟩ := gBind_some hr
    refine c_X11_binned (pc := 23) C dX11_clear_23 q1811 ⟨Nat.le_of_ble_eq_true rfl, Nat.le_of_ble_eq_true rfl⟩ hc_5 (Nat.le_of_ble_eq_true rfl) ?_
    refine r_istore_n (pc := 26) C dX11_clear_26 rfl (by decide) rfl (ls' := [(1, .int r_6), (0, .ref (gad 50 0))]) rfl ?_
    refine r_aload_n (pc := 27) C dX11_clear_27 rfl 1 rfl ?_
    refine r_aload_n (pc := 28) C dX11_clear_28 rfl 1 rfl ?_
    refine g50_18 (pc := 29) C dX11_clear_29 q1418 (e50 nf) ?_
    obtain ⟨M_8, hc_7, hr⟩ := gBind_some hr
    refine c_X11_clears (pc := 32) C dX11_clear_32 q1632 ⟨Nat.le_of_ble_eq_true rfl, Nat.le_of_ble_eq_true rfl⟩ (by decide) hc_7 (Nat.le_of_ble_eq_true rfl) ?_
    refine r_aload_n (pc := 35) C dX11_clear_35 rfl 1 rfl ?_
    refine r_iconst (pc := 36) C dX11_clear_36 ki3 ?_
    refine r_iconst (pc := 37) C dX11_clear_37 ki0 ?_
    obtain ⟨M_10, hc_9, hr⟩ := gBind_some hr
    refine c_X11_tells (pc := 38) C dX11_clear_38 q1769 ⟨Nat.le_of_ble_eq_true rfl, Nat.le_of_ble_eq_true rfl⟩ hc_9 (Nat.le_of_ble_eq_true rfl) ?_
    refine r_iload_n (pc := 41) C dX11_clear_41 rfl 0 rfl ?_
    exact r_iret (pc := 42) CR dX11_clear_42 (congrArg (fun z => some (Value.int z)) (Prod.mk.inj (gSome hr)).1) (Prod.mk.inj (gSome hr)).2
  · replace hr := (if_pos c_2).symm.trans hr
    refine r_aload_n (pc := 12) C dX11_clear_12 rfl 0 rfl ?_
    refine r_iconst (pc := 13) C dX11_clear_13 ki0 ?_
    obtain ⟨⟨r_12, M_13⟩, hc_11, hr⟩ := gBind_some hr
    replace hr := gU2_some hr
    refine c_X11_refuses (pc := 14) C dX11_clear_14 q1694 ⟨Nat.le_of_ble_eq_true rfl, Nat.le_of_ble_eq_true rfl⟩ hc_11 (Nat.le_of_ble_eq_true rfl) ?_
    exact r_iret (pc := 17) CR dX11_clear_17 (congrArg (fun z => some (Value.int z)) (Prod.mk.inj (gSome hr)).1) (Prod.mk.inj (gSome hr)).2
theorem c_X11_clear {Ψ : gM → Nat → List (Nat × Value) → List Value → Prop} {G : gG5} {nf : Nat} {cc : ByteArray} {own : String} {nL : Nat} {ret : Option FieldType} {fr lo : Nat} {v0 : Option Value} {M0 M : gM} {pc index : Nat} {ls : List (Nat × Value)} {st : List Value} (C : gC Ψ G (gXn nf) cc own nL ret fr lo v0 M0) (d : decode cc pc = .ok (.invokevirtual index, 3)) (hl : Cond.methodLink own index yX11_clear ∈ gws) (hR : 5 ≤ fr ∧ 110 ≤ lo) {r : Int32} {M1 : gM} (hr : X11_clear M = some (r, M1)) (hcat : (st.map fun v => v.category).sum ≤ 8) (k : Ψ M1 (pc + 3) ls (.int r :: st)) : Ψ M pc ls (.ref (gad 50 0) :: st) := r_callV C [] st d (k_X11_clear hr) hl q1808 q1809 q127 q1810 hd_X11_clear hR rfl (by decide) (e50 nf) rfl hcat k
theorem hd_X11_set : yX11_set.cls ≠ "java/lang/invoke/MethodHandle" ∧ yX11_set.cls ≠ "java/lang/invoke/VarHandle" ∧ (parseMethodDescriptor yX11_set.desc).map (fun d => d.parameters.length) = some 2 := by decide +kernel
noncomputable def X11_set (p1 : Int32) (p2 : Int32) (M : gM) : Option (Int32 × gM) := gLet (wI M 50 0 0 0) (fun M_1 => (X11_stopsRule 8 p1 p2 M_1).bind (fun r_3 => (if r_3 = (-1) then (X11_remember M_1).bind (fun M_6 => gG (gin (1057 + p1) 1242) (gLet ((M_6.1 52 8 (Int32.toNatClampNeg (1057 + p1)))) (fun x4_8 => gG (gin (1057 + p1) 1242) (gLet (wI M_6 52 8 (Int32.toNatClampNeg (1057 + p1)) p2) (fun M_10 => (X11_tells 4 p1 M_10).bind (fun M_12 => some (x4_8, M_12))))))) else (X11_refuses r_3 M_1).bind (gU2 (fun r_14 M_15 => some (r_14, M_15))))))
theorem k_X11_set {G : gG5} {nf : Nat} {M : gM} {p1 : Int32} {p2 : Int32} {r : Int32} {M1 : gM} (hr : X11_set p1 p2 M = some (r, M1)) : gMet G (gXn nf) yX11_set cX11_set 5 (some .int) 4 89 M [.ref (gad 50 0), .int p1, .int p2] (some (.int r)) M1 := by
  refine gMet_of pl_X11 rfl (Nat.le_of_ble_eq_true rfl) (fun Ψ C CR => ?_)
  show Ψ M 0 [(0, .ref (gad 50 0)), (1, .int p1), (2, .int p2)] []
  refine r_aload_n (pc := 0) C dX11_set_0 rfl 0 rfl ?_
  refine r_iconst (pc := 1) C dX11_set_1 ki0 ?_
  obtain ⟨M_1, eM_1, hr⟩ := gLet_some hr
  refine p50_0 (pc := 2) C dX11_set_2 q1400 (e50 nf) eM_1 ?_
  refine r_aload_n (pc := 5) C dX11_set_5 rfl 0 rfl ?_
  refine r_aload_n (pc := 6) C dX11_set_6 rfl 0 rfl ?_
  refine g50_18 (pc := 7) C dX11_set_7 q1418 (e50 nf) ?_
  refine r_iload_n (pc := 10) C dX11_set_10 rfl 1 rfl ?_
  refine r_iload_n (pc := 11) C dX11_set_11 rfl 2 rfl ?_
  obtain ⟨r_3, hc_2, hr⟩ := gBind_some hr
  refine c_X11_stopsRule (pc := 12) C dX11_set_12 q1819 ⟨Nat.le_of_ble_eq_true rfl, Nat.le_of_ble_eq_true rfl⟩ (by decide) hc_2 (Nat.le_of_ble_eq_true rfl) ?_
  refine r_istore_n (pc := 15) C dX11_set_15 rfl (by decide) rfl (ls' := [(3, .int r_3), (0, .ref (gad 50 0)), (1, .int p1), (2, .int p2)]) rfl ?_
  refine r_iload_n (pc := 16) C dX11_set_16 rfl 0 rfl ?_
  refine r_iconst (pc := 17) C dX11_set_17 kim1 ?_
  refine r_icmp_eq (pc := 18) (tgt := 27) C dX11_set_18 rfl (fun c_4 => ?_) (fun c_4 => ?_)
  · replace hr := (if_pos c_4).symm.trans hr
    refine r_aload_n (pc := 27) C dX11_set_27 rfl 1 rfl ?_
    obtain ⟨M_6, hc_5, hr⟩ := gBind_some hr
    refine c_X11_remember (pc := 28) C dX11_set_28 q1698 ⟨Nat.le_of_ble_eq_true rfl, Nat.le_of_ble_eq_true rfl⟩ hc_5 (Nat.le_of_ble_eq_true rfl) ?_
    refine r_aload_n (pc := 31) C dX11_set_31 rfl 1 rfl ?_
    refine g50_18 (pc := 32) C dX11_set_32 q1418 (e50 nf) ?_
    refine r_sipush (pc := 35) C dX11_set_35 ks1057 ?_
    refine r_iload_n (pc := 38) C dX11_set_38 rfl 2 rfl ?_
    refine r_iadd (pc := 39) C dX11_set_39 ?_
    obtain ⟨g_7, hr⟩ := gG_some hr
    refine r_ialdN (pc := 40) C dX11_set_40 rfl (e52 (nf := nf) (by decide)) g_7 rfl ?_
    obtain ⟨x4_8, ex4_8, hr⟩ := gLet_some hr
    refine r_istore (pc := 41) C dX11_set_41 (by decide) ex4_8 (ls' := [(4, .int x4_8), (3, .int r_3), (0, .ref (gad 50 0)), (1, .int p1), (2, .int p2)]) rfl ?_
    refine r_aload_n (pc := 43) C dX11_set_43 rfl 2 rfl ?_
    refine g50_18 (pc := 44) C dX11_set_44 q1418 (e50 nf) ?_
    refine r_sipush (pc := 47) C dX11_set_47 ks1057 ?_
    refine r_iload_n (pc := 50) C dX11_set_50 rfl 3 rfl ?_
    refine r_iadd (pc := 51) C dX11_set_51 ?_
    refine r_iload_n (pc := 52) C dX11_set_52 rfl 4 rfl ?_
    obtain ⟨g_9, hr⟩ := gG_some hr
    obtain ⟨M_10, eM_10, hr⟩ := gLet_some hr
    refine r_iastN (pc := 53) C dX11_set_53 rfl (e52 (nf := nf) (by decide)) g_9 rfl eM_10 ?_
    refine r_aload_n (pc := 54) C dX11_set_54 rfl 2 rfl ?_
    refine r_iconst (pc := 55) C dX11_set_55 ki4 ?_
    refine r_iload_n (pc := 56) C dX11_set_56 rfl 3 rfl ?_
    obtain ⟨M_12, hc_11, hr⟩ := gBind_some hr
    refine c_X11_tells (pc := 57) C dX11_set_57 q1769 ⟨Nat.le_of_ble_eq_true rfl, Nat.le_of_ble_eq_true rfl⟩ hc_11 (Nat.le_of_ble_eq_true rfl) ?_
    refine r_iload (pc := 60) C dX11_set_60 0 rfl ?_
    exact r_iret (pc := 62) CR dX11_set_62 (congrArg (fun z => some (Value.int z)) (Prod.mk.inj (gSome hr)).1) (Prod.mk.inj (gSome hr)).2
  · replace hr := (if_neg c_4).symm.trans hr
    refine r_aload_n (pc := 21) C dX11_set_21 rfl 1 rfl ?_
    refine r_iload_n (pc := 22) C dX11_set_22 rfl 0 rfl ?_
    obtain ⟨⟨r_14, M_15⟩, hc_13, hr⟩ := gBind_some hr
    replace hr := gU2_some hr
    refine c_X11_refuses (pc := 23) C dX11_set_23 q1694 ⟨Nat.le_of_ble_eq_true rfl, Nat.le_of_ble_eq_true rfl⟩ hc_13 (Nat.le_of_ble_eq_true rfl) ?_
    exact r_iret (pc := 26) CR dX11_set_26 (congrArg (fun z => some (Value.int z)) (Prod.mk.inj (gSome hr)).1) (Prod.mk.inj (gSome hr)).2
theorem c_X11_set {Ψ : gM → Nat → List (Nat × Value) → List Value → Prop} {G : gG5} {nf : Nat} {cc : ByteArray} {own : String} {nL : Nat} {ret : Option FieldType} {fr lo : Nat} {v0 : Option Value} {M0 M : gM} {pc index : Nat} {ls : List (Nat × Value)} {st : List Value} (C : gC Ψ G (gXn nf) cc own nL ret fr lo v0 M0) (d : decode cc pc = .ok (.invokevirtual index, 3)) (hl : Cond.methodLink own index yX11_set ∈ gws) (hR : 5 ≤ fr ∧ 113 ≤ lo) {p1 : Int32} {p2 : Int32} {r : Int32} {M1 : gM} (hr : X11_set p1 p2 M = some (r, M1)) (hcat : (st.map fun v => v.category).sum ≤ 8) (k : Ψ M1 (pc + 3) ls (.int r :: st)) : Ψ M pc ls (.int p2 :: .int p1 :: .ref (gad 50 0) :: st) := r_callV C [.int p1, .int p2] st d (k_X11_set hr) hl q1816 q1817 q127 q1818 hd_X11_set hR rfl (by decide) (e50 nf) rfl hcat k
theorem hd_X11_move : yX11_move.cls ≠ "java/lang/invoke/MethodHandle" ∧ yX11_move.cls ≠ "java/lang/invoke/VarHandle" ∧ (parseMethodDescriptor yX11_move.desc).map (fun d => d.parameters.length) = some 4 := by decide +kernel
noncomputable def X11_move (p1 : Int32) (p2 : Int32) (p3 : Int32) (p4 : Int32) (M : gM) : Option (Int32 × gM) := gLet (wI M 50 0 0 0) (fun M_1 => (X11_stopsMove 8 p1 p2 p3 p4 M_1).bind (fun r_3 => (if r_3 = (-1) then (X11_remember M_1).bind (fun M_6 => (X11_moves 8 p1 p2 p3 p4 M_6).bind (fun M_8 => (X11_tells 5 p1 M_8).bind (fun M_10 => (X11_asks 8 p1 M_10).bind (fun M_12 => some ((M_12.1 50 0 28), M_12))))) else (X11_refuses r_3 M_1).bind (gU2 (fun r_14 M_15 => some ((-1000000000), M_15))))))
theorem k_X11_move {G : gG5} {nf : Nat} {M : gM} {p1 : Int32} {p2 : Int32} {p3 : Int32} {p4 : Int32} {r : Int32} {M1 : gM} (hr : X11_move p1 p2 p3 p4 M = some (r, M1)) : gMet G (gXn nf) yX11_move cX11_move 6 (some .int) 5 113 M [.ref (gad 50 0), .int p1, .int p2, .int p3, .int p4] (some (.int r)) M1 := by
  refine gMet_of pl_X11 rfl (Nat.le_of_ble_eq_true rfl) (fun Ψ C CR => ?_)
  show Ψ M 0 [(0, .ref (gad 50 0)), (1, .int p1), (2, .int p2), (3, .int p3), (4, .int p4)] []
  refine r_aload_n (pc := 0) C dX11_move_0 rfl 0 rfl ?_
  refine r_iconst (pc := 1) C dX11_move_1 ki0 ?_
  obtain ⟨M_1, eM_1, hr⟩ := gLet_some hr
  refine p50_0 (pc := 2) C dX11_move_2 q1400 (e50 nf) eM_1 ?_
  refine r_aload_n (pc := 5) C dX11_move_5 rfl 0 rfl ?_
  refine r_aload_n (pc := 6) C dX11_move_6 rfl 0 rfl ?_
  refine g50_18 (pc := 7) C dX11_move_7 q1418 (e50 nf) ?_
  refine r_iload_n (pc := 10) C dX11_move_10 rfl 1 rfl ?_
  refine r_iload_n (pc := 11) C dX11_move_11 rfl 2 rfl ?_
  refine r_iload_n (pc := 12) C dX11_move_12 rfl 3 rfl ?_
  refine r_iload (pc := 13) C dX11_move_13 4 rfl ?_
  obtain ⟨r_3, hc_2, hr⟩ := gBind_some hr
  refine c_X11_stopsMove (pc := 15) C dX11_move_15 q1828 ⟨Nat.le_of_ble_eq_true rfl, Nat.le_of_ble_eq_true rfl⟩ (by decide) hc_2 (Nat.le_of_ble_eq_true rfl) ?_
  refine r_istore (pc := 18) C dX11_move_18 (by decide) rfl (ls' := [(5, .int r_3), (0, .ref (gad 50 0)), (1, .int p1), (2, .int p2), (3, .int p3), (4, .int p4)]) rfl ?_
  refine r_iload (pc := 20) C dX11_move_20 0 rfl ?_
  refine r_iconst (pc := 22) C dX11_move_22 kim1 ?_
  refine r_icmp_eq (pc := 23) (tgt := 36) C dX11_move_23 rfl (fun c_4 => ?_) (fun c_4 => ?_)
  · replace hr := (if_pos c_4).symm.trans hr
    refine r_aload_n (pc := 36) C dX11_move_36 rfl 1 rfl ?_
    obtain ⟨M_6, hc_5, hr⟩ := gBind_some hr
    refine c_X11_remember (pc := 37) C dX11_move_37 q1698 ⟨Nat.le_of_ble_eq_true rfl, Nat.le_of_ble_eq_true rfl⟩ hc_5 (Nat.le_of_ble_eq_true rfl) ?_
    refine r_aload_n (pc := 40) C dX11_move_40 rfl 1 rfl ?_
    refine g50_18 (pc := 41) C dX11_move_41 q1418 (e50 nf) ?_
    refine r_iload_n (pc := 44) C dX11_move_44 rfl 2 rfl ?_
    refine r_iload_n (pc := 45) C dX11_move_45 rfl 3 rfl ?_
    refine r_iload_n (pc := 46) C dX11_move_46 rfl 4 rfl ?_
    refine r_iload (pc := 47) C dX11_move_47 5 rfl ?_
    obtain ⟨M_8, hc_7, hr⟩ := gBind_some hr
    refine c_X11_moves (pc := 49) C dX11_move_49 q1840 ⟨Nat.le_of_ble_eq_true rfl, Nat.le_of_ble_eq_true rfl⟩ (by decide) hc_7 (Nat.le_of_ble_eq_true rfl) ?_
    refine r_aload_n (pc := 52) C dX11_move_52 rfl 1 rfl ?_
    refine r_iconst (pc := 53) C dX11_move_53 ki5 ?_
    refine r_iload_n (pc := 54) C dX11_move_54 rfl 2 rfl ?_
    obtain ⟨M_10, hc_9, hr⟩ := gBind_some hr
    refine c_X11_tells (pc := 55) C dX11_move_55 q1769 ⟨Nat.le_of_ble_eq_true rfl, Nat.le_of_ble_eq_true rfl⟩ hc_9 (Nat.le_of_ble_eq_true rfl) ?_
    refine r_aload_n (pc := 58) C dX11_move_58 rfl 1 rfl ?_
    refine r_aload_n (pc := 59) C dX11_move_59 rfl 1 rfl ?_
    refine g50_18 (pc := 60) C dX11_move_60 q1418 (e50 nf) ?_
    refine r_iload_n (pc := 63) C dX11_move_63 rfl 2 rfl ?_
    obtain ⟨M_12, hc_11, hr⟩ := gBind_some hr
    refine c_X11_asks (pc := 64) C dX11_move_64 q1652 ⟨Nat.le_of_ble_eq_true rfl, Nat.le_of_ble_eq_true rfl⟩ (by decide) hc_11 (Nat.le_of_ble_eq_true rfl) ?_
    refine r_aload_n (pc := 67) C dX11_move_67 rfl 1 rfl ?_
    refine g50_28 (pc := 68) C dX11_move_68 q1428 (e50 nf) ?_
    exact r_iret (pc := 71) CR dX11_move_71 (congrArg (fun z => some (Value.int z)) (Prod.mk.inj (gSome hr)).1) (Prod.mk.inj (gSome hr)).2
  · replace hr := (if_neg c_4).symm.trans hr
    refine r_aload_n (pc := 26) C dX11_move_26 rfl 1 rfl ?_
    refine r_iload (pc := 27) C dX11_move_27 0 rfl ?_
    obtain ⟨⟨r_14, M_15⟩, hc_13, hr⟩ := gBind_some hr
    replace hr := gU2_some hr
    refine c_X11_refuses (pc := 29) C dX11_move_29 q1694 ⟨Nat.le_of_ble_eq_true rfl, Nat.le_of_ble_eq_true rfl⟩ hc_13 (Nat.le_of_ble_eq_true rfl) ?_
    refine r_pop (pc := 32) C dX11_move_32 rfl ?_
    refine r_ldc (pc := 33) C dX11_move_33 q1626 ?_
    exact r_iret (pc := 35) CR dX11_move_35 (congrArg (fun z => some (Value.int z)) (Prod.mk.inj (gSome hr)).1) (Prod.mk.inj (gSome hr)).2
theorem c_X11_move {Ψ : gM → Nat → List (Nat × Value) → List Value → Prop} {G : gG5} {nf : Nat} {cc : ByteArray} {own : String} {nL : Nat} {ret : Option FieldType} {fr lo : Nat} {v0 : Option Value} {M0 M : gM} {pc index : Nat} {ls : List (Nat × Value)} {st : List Value} (C : gC Ψ G (gXn nf) cc own nL ret fr lo v0 M0) (d : decode cc pc = .ok (.invokevirtual index, 3)) (hl : Cond.methodLink own index yX11_move ∈ gws) (hR : 6 ≤ fr ∧ 138 ≤ lo) {p1 : Int32} {p2 : Int32} {p3 : Int32} {p4 : Int32} {r : Int32} {M1 : gM} (hr : X11_move p1 p2 p3 p4 M = some (r, M1)) (hcat : (st.map fun v => v.category).sum ≤ 8) (k : Ψ M1 (pc + 3) ls (.int r :: st)) : Ψ M pc ls (.int p4 :: .int p3 :: .int p2 :: .int p1 :: .ref (gad 50 0) :: st) := r_callV C [.int p1, .int p2, .int p3, .int p4] st d (k_X11_move hr) hl q1825 q1826 q127 q1827 hd_X11_move hR rfl (by decide) (e50 nf) rfl hcat k
theorem hd_X11_chance : yX11_chance.cls ≠ "java/lang/invoke/MethodHandle" ∧ yX11_chance.cls ≠ "java/lang/invoke/VarHandle" ∧ (parseMethodDescriptor yX11_chance.desc).map (fun d => d.parameters.length) = some 1 := by decide +kernel
noncomputable def X11_chance (p1 : Int32) (M : gM) : Option (Int32 × gM) := gLet (wL M 50 0 32 (((M.2 50 0 32) * 6364136223846793005) + 1442695040888963407)) (fun M_1 => gG (decide (¬ (Int32.toInt64 p1) = 0)) (some ((Int64.toInt32 (gRemL ((Int64.toUInt64 (M_1.2 50 0 32) >>> ((Int32.toInt64 33).toUInt64 &&& Int64.toUInt64 63)).toInt64) (Int32.toInt64 p1))), M_1)))
theorem k_X11_chance {G : gG5} {nf : Nat} {M : gM} {p1 : Int32} {r : Int32} {M1 : gM} (hr : X11_chance p1 M = some (r, M1)) : gMet G (gXn nf) yX11_chance cX11_chance 2 (some .int) 0 0 M [.ref (gad 50 0), .int p1] (some (.int r)) M1 := by
  refine gMet_of pl_X11 rfl (Nat.le_of_ble_eq_true rfl) (fun Ψ C CR => ?_)
  show Ψ M 0 [(0, .ref (gad 50 0)), (1, .int p1)] []
  refine r_aload_n (pc := 0) C dX11_chance_0 rfl 0 rfl ?_
  refine r_aload_n (pc := 1) C dX11_chance_1 rfl 0 rfl ?_
  refine g50_32 (pc := 2) C dX11_chance_2 q1432 (e50 nf) ?_
  refine r_ldc2 (pc := 5) C dX11_chance_5 q1856 ?_
  refine r_lmul (pc := 8) C dX11_chance_8 ?_
  refine r_ldc2 (pc := 9) C dX11_chance_9 q1857 ?_
  refine r_ladd (pc := 12) C dX11_chance_12 ?_
  obtain ⟨M_1, eM_1, hr⟩ := gLet_some hr
  refine p50_32 (pc := 13) C dX11_chance_13 q1432 (e50 nf) eM_1 ?_
  refine r_aload_n (pc := 16) C dX11_chance_16 rfl 0 rfl ?_
  refine g50_32 (pc := 17) C dX11_chance_17 q1432 (e50 nf) ?_
  refine r_bipush (pc := 20) C dX11_chance_20 kb33 ?_
  refine r_lushr (pc := 22) C dX11_chance_22 ?_
  refine r_iload_n (pc := 23) C dX11_chance_23 rfl 1 rfl ?_
  refine r_i2l (pc := 24) C dX11_chance_24 ?_
  obtain ⟨g_2, hr⟩ := gG_some hr
  refine r_lrem (pc := 25) C dX11_chance_25 (of_decide_eq_true g_2) ?_
  refine r_l2i (pc := 26) C dX11_chance_26 ?_
  exact r_iret (pc := 27) CR dX11_chance_27 (congrArg (fun z => some (Value.int z)) (Prod.mk.inj (gSome hr)).1) (Prod.mk.inj (gSome hr)).2
theorem c_X11_chance {Ψ : gM → Nat → List (Nat × Value) → List Value → Prop} {G : gG5} {nf : Nat} {cc : ByteArray} {own : String} {nL : Nat} {ret : Option FieldType} {fr lo : Nat} {v0 : Option Value} {M0 M : gM} {pc index : Nat} {ls : List (Nat × Value)} {st : List Value} (C : gC Ψ G (gXn nf) cc own nL ret fr lo v0 M0) (d : decode cc pc = .ok (.invokevirtual index, 3)) (hl : Cond.methodLink own index yX11_chance ∈ gws) (hR : 1 ≤ fr ∧ 21 ≤ lo) {p1 : Int32} {r : Int32} {M1 : gM} (hr : X11_chance p1 M = some (r, M1)) (hcat : (st.map fun v => v.category).sum ≤ 8) (k : Ψ M1 (pc + 3) ls (.int r :: st)) : Ψ M pc ls (.int p1 :: .ref (gad 50 0) :: st) := r_callV C [.int p1] st d (k_X11_chance hr) hl q1854 q92 q127 q1855 hd_X11_chance hR rfl (by decide) (e50 nf) rfl hcat k
theorem hd_X11_happensToMove : yX11_happensToMove.cls ≠ "java/lang/invoke/MethodHandle" ∧ yX11_happensToMove.cls ≠ "java/lang/invoke/VarHandle" ∧ (parseMethodDescriptor yX11_happensToMove.desc).map (fun d => d.parameters.length) = some 0 := by decide +kernel
noncomputable def X11_happensToMove (M : gM) : Option gM := (X11_chance (M.1 50 0 16) M).bind (gU2 (fun r_2 M_3 => (X11_chance 3 M_3).bind (gU2 (fun r_5 M_6 => (X11_chance 9 M_6).bind (gU2 (fun r_8 M_9 => gLet ((r_8 - 4)) (fun x3_10 => (X11_chance 9 M_9).bind (gU2 (fun r_12 M_13 => gLet ((r_12 - 4)) (fun x4_14 => (X11_stopsMove 8 r_2 r_5 x3_10 x4_14 M_13).bind (fun r_16 => (if r_16 = (-1) then (X11_remember M_13).bind (fun M_19 => (X11_moves 8 r_2 r_5 x3_10 x4_14 M_19).bind (fun M_21 => (X11_tells 5 r_2 M_21).bind (fun M_23 => some M_23))) else some M_13))))))))))))
theorem k_X11_happensToMove {G : gG5} {nf : Nat} {M : gM} {M1 : gM} (hr : X11_happensToMove M = some M1) : gMet G (gXn nf) yX11_happensToMove cX11_happensToMove 5 none 5 113 M [.ref (gad 50 0)] none M1 := by
  refine gMet_of pl_X11 rfl (Nat.le_of_ble_eq_true rfl) (fun Ψ C CR => ?_)
  show Ψ M 0 [(0, .ref (gad 50 0))] []
  refine r_aload_n (pc := 0) C dX11_happensToMove_0 rfl 0 rfl ?_
  refine r_aload_n (pc := 1) C dX11_happensToMove_1 rfl 0 rfl ?_
  refine g50_16 (pc := 2) C dX11_happensToMove_2 q1416 (e50 nf) ?_
  obtain ⟨⟨r_2, M_3⟩, hc_1, hr⟩ := gBind_some hr
  replace hr := gU2_some hr
  refine c_X11_chance (pc := 5) C dX11_happensToMove_5 q1852 ⟨Nat.le_of_ble_eq_true rfl, Nat.le_of_ble_eq_true rfl⟩ hc_1 (Nat.le_of_ble_eq_true rfl) ?_
  refine r_istore_n (pc := 8) C dX11_happensToMove_8 rfl (by decide) rfl (ls' := [(1, .int r_2), (0, .ref (gad 50 0))]) rfl ?_
  refine r_aload_n (pc := 9) C dX11_happensToMove_9 rfl 1 rfl ?_
  refine r_iconst (pc := 10) C dX11_happensToMove_10 ki3 ?_
  obtain ⟨⟨r_5, M_6⟩, hc_4, hr⟩ := gBind_some hr
  replace hr := gU2_some hr
  refine c_X11_chance (pc := 11) C dX11_happensToMove_11 q1852 ⟨Nat.le_of_ble_eq_true rfl, Nat.le_of_ble_eq_true rfl⟩ hc_4 (Nat.le_of_ble_eq_true rfl) ?_
  refine r_istore_n (pc := 14) C dX11_happensToMove_14 rfl (by decide) rfl (ls' := [(2, .int r_5), (1, .int r_2), (0, .ref (gad 50 0))]) rfl ?_
  refine r_aload_n (pc := 15) C dX11_happensToMove_15 rfl 2 rfl ?_
  refine r_bipush (pc := 16) C dX11_happensToMove_16 kb9 ?_
  obtain ⟨⟨r_8, M_9⟩, hc_7, hr⟩ := gBind_some hr
  replace hr := gU2_some hr
  refine c_X11_chance (pc := 18) C dX11_happensToMove_18 q1852 ⟨Nat.le_of_ble_eq_true rfl, Nat.le_of_ble_eq_true rfl⟩ hc_7 (Nat.le_of_ble_eq_true rfl) ?_
  refine r_iconst (pc := 21) C dX11_happensToMove_21 ki4 ?_
  refine r_isub (pc := 22) C dX11_happensToMove_22 ?_
  obtain ⟨x3_10, ex3_10, hr⟩ := gLet_some hr
  refine r_istore_n (pc := 23) C dX11_happensToMove_23 rfl (by decide) ex3_10 (ls' := [(3, .int x3_10), (2, .int r_5), (1, .int r_2), (0, .ref (gad 50 0))]) rfl ?_
  refine r_aload_n (pc := 24) C dX11_happensToMove_24 rfl 3 rfl ?_
  refine r_bipush (pc := 25) C dX11_happensToMove_25 kb9 ?_
  obtain ⟨⟨r_12, M_13⟩, hc_11, hr⟩ := gBind_some hr
  replace hr := gU2_some hr
  refine c_X11_chance (pc := 27) C dX11_happensToMove_27 q1852 ⟨Nat.le_of_ble_eq_true rfl, Nat.le_of_ble_eq_true rfl⟩ hc_11 (Nat.le_of_ble_eq_true rfl) ?_
  refine r_iconst (pc := 30) C dX11_happensToMove_30 ki4 ?_
  refine r_isub (pc := 31) C dX11_happensToMove_31 ?_
  obtain ⟨x4_14, ex4_14, hr⟩ := gLet_some hr
  refine r_istore (pc := 32) C dX11_happensToMove_32 (by decide) ex4_14 (ls' := [(4, .int x4_14), (3, .int x3_10), (2, .int r_5), (1, .int r_2), (0, .ref (gad 50 0))]) rfl ?_
  refine r_aload_n (pc := 34) C dX11_happensToMove_34 rfl 4 rfl ?_
  refine r_aload_n (pc := 35) C dX11_happensToMove_35 rfl 4 rfl ?_
  refine g50_18 (pc := 36) C dX11_happensToMove_36 q1418 (e50 nf) ?_
  refine r_iload_n (pc := 39) C dX11_happensToMove_39 rfl 3 rfl ?_
  refine r_iload_n (pc := 40) C dX11_happensToMove_40 rfl 2 rfl ?_
  refine r_iload_n (pc := 41) C dX11_happensToMove_41 rfl 1 rfl ?_
  refine r_iload (pc := 42) C dX11_happensToMove_42 0 rfl ?_
  obtain ⟨r_16, hc_15, hr⟩ := gBind_some hr
  refine c_X11_stopsMove (pc := 44) C dX11_happensToMove_44 q1828 ⟨Nat.le_of_ble_eq_true rfl, Nat.le_of_ble_eq_true rfl⟩ (by decide) hc_15 (Nat.le_of_ble_eq_true rfl) ?_
  refine r_iconst (pc := 47) C dX11_happensToMove_47 kim1 ?_
  refine r_icmp_eq (pc := 48) (tgt := 52) C dX11_happensToMove_48 rfl (fun c_17 => ?_) (fun c_17 => ?_)
  · replace hr := (if_pos c_17).symm.trans hr
    refine r_aload_n (pc := 52) C dX11_happensToMove_52 rfl 4 rfl ?_
    obtain ⟨M_19, hc_18, hr⟩ := gBind_some hr
    refine c_X11_remember (pc := 53) C dX11_happensToMove_53 q1698 ⟨Nat.le_of_ble_eq_true rfl, Nat.le_of_ble_eq_true rfl⟩ hc_18 (Nat.le_of_ble_eq_true rfl) ?_
    refine r_aload_n (pc := 56) C dX11_happensToMove_56 rfl 4 rfl ?_
    refine g50_18 (pc := 57) C dX11_happensToMove_57 q1418 (e50 nf) ?_
    refine r_iload_n (pc := 60) C dX11_happensToMove_60 rfl 3 rfl ?_
    refine r_iload_n (pc := 61) C dX11_happensToMove_61 rfl 2 rfl ?_
    refine r_iload_n (pc := 62) C dX11_happensToMove_62 rfl 1 rfl ?_
    refine r_iload (pc := 63) C dX11_happensToMove_63 0 rfl ?_
    obtain ⟨M_21, hc_20, hr⟩ := gBind_some hr
    refine c_X11_moves (pc := 65) C dX11_happensToMove_65 q1840 ⟨Nat.le_of_ble_eq_true rfl, Nat.le_of_ble_eq_true rfl⟩ (by decide) hc_20 (Nat.le_of_ble_eq_true rfl) ?_
    refine r_aload_n (pc := 68) C dX11_happensToMove_68 rfl 4 rfl ?_
    refine r_iconst (pc := 69) C dX11_happensToMove_69 ki5 ?_
    refine r_iload_n (pc := 70) C dX11_happensToMove_70 rfl 3 rfl ?_
    obtain ⟨M_23, hc_22, hr⟩ := gBind_some hr
    refine c_X11_tells (pc := 71) C dX11_happensToMove_71 q1769 ⟨Nat.le_of_ble_eq_true rfl, Nat.le_of_ble_eq_true rfl⟩ hc_22 (Nat.le_of_ble_eq_true rfl) ?_
    exact r_vret (pc := 74) CR dX11_happensToMove_74 rfl (gSome hr)
  · replace hr := (if_neg c_17).symm.trans hr
    exact r_vret (pc := 51) CR dX11_happensToMove_51 rfl (gSome hr)
theorem c_X11_happensToMove {Ψ : gM → Nat → List (Nat × Value) → List Value → Prop} {G : gG5} {nf : Nat} {cc : ByteArray} {own : String} {nL : Nat} {ret : Option FieldType} {fr lo : Nat} {v0 : Option Value} {M0 M : gM} {pc index : Nat} {ls : List (Nat × Value)} {st : List Value} (C : gC Ψ G (gXn nf) cc own nL ret fr lo v0 M0) (d : decode cc pc = .ok (.invokevirtual index, 3)) (hl : Cond.methodLink own index yX11_happensToMove ∈ gws) (hR : 6 ≤ fr ∧ 137 ≤ lo) {M1 : gM} (hr : X11_happensToMove M = some M1) (hcat : (st.map fun v => v.category).sum ≤ 8) (k : Ψ M1 (pc + 3) ls (st)) : Ψ M pc ls (.ref (gad 50 0) :: st) := r_callV C [] st d (k_X11_happensToMove hr) hl q1860 q93 q127 q1861 hd_X11_happensToMove hR rfl (by decide) (e50 nf) rfl hcat k
theorem hd_X11_happens : yX11_happens.cls ≠ "java/lang/invoke/MethodHandle" ∧ yX11_happens.cls ≠ "java/lang/invoke/VarHandle" ∧ (parseMethodDescriptor yX11_happens.desc).map (fun d => d.parameters.length) = some 0 := by decide +kernel
noncomputable def X11_happens (M : gM) : Option gM := (X11_chance 8 M).bind (gU2 (fun r_2 M_3 => (if 5 ≤ r_2 then (if r_2 = 5 then (X11_tilesAll M_3).bind (fun r_15 => (X11_chance r_15 M_3).bind (gU2 (fun r_17 M_18 => (X11_stopsFlush 8 r_17 M_18).bind (fun r_20 => (if r_20 = (-1) then (X11_remember M_18).bind (fun M_23 => (X11_flushes 8 r_17 M_23).bind (fun M_25 => (X11_tells 1 r_17 M_25).bind (fun M_27 => some M_27))) else some M_18))))) else (if r_2 = 6 then (X11_remember M_3).bind (fun M_10 => gLet (wI M_10 52 8 1059 (1 - (M_10.1 52 8 1059))) (fun M_11 => (X11_tells 4 2 M_11).bind (fun M_13 => some M_13))) else (X11_happensToMove M_3).bind (fun M_8 => some M_8))) else (X11_chance (M_3.1 50 0 16) M_3).bind (gU2 (fun r_29 M_30 => (X11_stopsDraw 8 r_29 M_30).bind (gU2 (fun r_32 M_33 => (if r_32 = (-1) then (X11_remember M_33).bind (fun M_36 => (X11_draws 8 r_29 M_36).bind (gU2 (fun r_38 M_39 => (X11_tells 0 r_29 M_39).bind (fun M_41 => some M_41)))) else some M_33))))))))
theorem k_X11_happens {G : gG5} {nf : Nat} {M : gM} {M1 : gM} (hr : X11_happens M = some M1) : gMet G (gXn nf) yX11_happens cX11_happens 3 none 8 209 M [.ref (gad 50 0)] none M1 := by
  refine gMet_of pl_X11 rfl (Nat.le_of_ble_eq_true rfl) (fun Ψ C CR => ?_)
  show Ψ M 0 [(0, .ref (gad 50 0))] []
  refine r_aload_n (pc := 0) C dX11_happens_0 rfl 0 rfl ?_
  refine r_bipush (pc := 1) C dX11_happens_1 kb8 ?_
  obtain ⟨⟨r_2, M_3⟩, hc_1, hr⟩ := gBind_some hr
  replace hr := gU2_some hr
  refine c_X11_chance (pc := 3) C dX11_happens_3 q1852 ⟨Nat.le_of_ble_eq_true rfl, Nat.le_of_ble_eq_true rfl⟩ hc_1 (Nat.le_of_ble_eq_true rfl) ?_
  refine r_istore_n (pc := 6) C dX11_happens_6 rfl (by decide) rfl (ls' := [(1, .int r_2), (0, .ref (gad 50 0))]) rfl ?_
  refine r_iload_n (pc := 7) C dX11_happens_7 rfl 0 rfl ?_
  refine r_iconst (pc := 8) C dX11_happens_8 ki5 ?_
  refine r_icmp_ge (pc := 9) (tgt := 58) C dX11_happens_9 rfl (fun c_4 => ?_) (fun c_4 => ?_)
  · replace hr := (if_pos c_4).symm.trans hr
    refine r_iload_n (pc := 58) C dX11_happens_58 rfl 0 rfl ?_
    refine r_iconst (pc := 59) C dX11_happens_59 ki5 ?_
    refine r_icmp_ne (pc := 60) (tgt := 108) C dX11_happens_60 rfl (fun c_5 => ?_) (fun c_5 => ?_)
    · replace hr := (if_neg c_5).symm.trans hr
      refine r_iload_n (pc := 108) C dX11_happens_108 rfl 0 rfl ?_
      refine r_bipush (pc := 109) C dX11_happens_109 kb6 ?_
      refine r_icmp_ne (pc := 111) (tgt := 145) C dX11_happens_111 rfl (fun c_6 => ?_) (fun c_6 => ?_)
      · replace hr := (if_neg c_6).symm.trans hr
        refine r_aload_n (pc := 145) C dX11_happens_145 rfl 1 rfl ?_
        obtain ⟨M_8, hc_7, hr⟩ := gBind_some hr
        refine c_X11_happensToMove (pc := 146) C dX11_happens_146 q1858 ⟨Nat.le_of_ble_eq_true rfl, Nat.le_of_ble_eq_true rfl⟩ hc_7 (Nat.le_of_ble_eq_true rfl) ?_
        exact r_vret (pc := 149) CR dX11_happens_149 rfl (gSome hr)
      · replace hr := (if_pos c_6).symm.trans hr
        refine r_aload_n (pc := 114) C dX11_happens_114 rfl 1 rfl ?_
        obtain ⟨M_10, hc_9, hr⟩ := gBind_some hr
        refine c_X11_remember (pc := 115) C dX11_happens_115 q1698 ⟨Nat.le_of_ble_eq_true rfl, Nat.le_of_ble_eq_true rfl⟩ hc_9 (Nat.le_of_ble_eq_true rfl) ?_
        refine r_aload_n (pc := 118) C dX11_happens_118 rfl 1 rfl ?_
        refine g50_18 (pc := 119) C dX11_happens_119 q1418 (e50 nf) ?_
        refine r_sipush (pc := 122) C dX11_happens_122 ks1059 ?_
        refine r_iconst (pc := 125) C dX11_happens_125 ki1 ?_
        refine r_aload_n (pc := 126) C dX11_happens_126 rfl 1 rfl ?_
        refine g50_18 (pc := 127) C dX11_happens_127 q1418 (e50 nf) ?_
        refine r_sipush (pc := 130) C dX11_happens_130 ks1059 ?_
        refine r_ialdN (pc := 133) C dX11_happens_133 rfl (e52 (nf := nf) (by decide)) (by decide : gin 1059 1242 = true) kc1059 ?_
        refine r_isub (pc := 134) C dX11_happens_134 ?_
        obtain ⟨M_11, eM_11, hr⟩ := gLet_some hr
        refine r_iastN (pc := 135) C dX11_happens_135 rfl (e52 (nf := nf) (by decide)) (by decide : gin 1059 1242 = true) kc1059 eM_11 ?_
        refine r_aload_n (pc := 136) C dX11_happens_136 rfl 1 rfl ?_
        refine r_iconst (pc := 137) C dX11_happens_137 ki4 ?_
        refine r_iconst (pc := 138) C dX11_happens_138 ki2 ?_
        obtain ⟨M_13, hc_12, hr⟩ := gBind_some hr
        refine c_X11_tells (pc := 139) C dX11_happens_139 q1769 ⟨Nat.le_of_ble_eq_true rfl, Nat.le_of_ble_eq_true rfl⟩ hc_12 (Nat.le_of_ble_eq_true rfl) ?_
        refine r_goto (pc := 142) (tgt := 149) C dX11_happens_142 rfl ?_
        exact r_vret (pc := 149) CR dX11_happens_149 rfl (gSome hr)
    · replace hr := (if_pos c_5).symm.trans hr
      refine r_aload_n (pc := 63) C dX11_happens_63 rfl 1 rfl ?_
      refine r_aload_n (pc := 64) C dX11_happens_64 rfl 1 rfl ?_
      obtain ⟨r_15, hc_14, hr⟩ := gBind_some hr
      refine c_X11_tilesAll (pc := 65) C dX11_happens_65 q1663 ⟨Nat.le_of_ble_eq_true rfl, Nat.le_of_ble_eq_true rfl⟩ hc_14 (Nat.le_of_ble_eq_true rfl) ?_
      obtain ⟨⟨r_17, M_18⟩, hc_16, hr⟩ := gBind_some hr
      replace hr := gU2_some hr
      refine c_X11_chance (pc := 68) C dX11_happens_68 q1852 ⟨Nat.le_of_ble_eq_true rfl, Nat.le_of_ble_eq_true rfl⟩ hc_16 (Nat.le_of_ble_eq_true rfl) ?_
      refine r_istore_n (pc := 71) C dX11_happens_71 rfl (by decide) rfl (ls' := [(2, .int r_17), (1, .int r_2), (0, .ref (gad 50 0))]) rfl ?_
      refine r_aload_n (pc := 72) C dX11_happens_72 rfl 2 rfl ?_
      refine r_aload_n (pc := 73) C dX11_happens_73 rfl 2 rfl ?_
      refine g50_18 (pc := 74) C dX11_happens_74 q1418 (e50 nf) ?_
      refine r_iload_n (pc := 77) C dX11_happens_77 rfl 0 rfl ?_
      obtain ⟨r_20, hc_19, hr⟩ := gBind_some hr
      refine c_X11_stopsFlush (pc := 78) C dX11_happens_78 q1787 ⟨Nat.le_of_ble_eq_true rfl, Nat.le_of_ble_eq_true rfl⟩ (by decide) hc_19 (Nat.le_of_ble_eq_true rfl) ?_
      refine r_iconst (pc := 81) C dX11_happens_81 kim1 ?_
      refine r_icmp_eq (pc := 82) (tgt := 86) C dX11_happens_82 rfl (fun c_21 => ?_) (fun c_21 => ?_)
      · replace hr := (if_pos c_21).symm.trans hr
        refine r_aload_n (pc := 86) C dX11_happens_86 rfl 2 rfl ?_
        obtain ⟨M_23, hc_22, hr⟩ := gBind_some hr
        refine c_X11_remember (pc := 87) C dX11_happens_87 q1698 ⟨Nat.le_of_ble_eq_true rfl, Nat.le_of_ble_eq_true rfl⟩ hc_22 (Nat.le_of_ble_eq_true rfl) ?_
        refine r_aload_n (pc := 90) C dX11_happens_90 rfl 2 rfl ?_
        refine r_aload_n (pc := 91) C dX11_happens_91 rfl 2 rfl ?_
        refine g50_18 (pc := 92) C dX11_happens_92 q1418 (e50 nf) ?_
        refine r_iload_n (pc := 95) C dX11_happens_95 rfl 0 rfl ?_
        obtain ⟨M_25, hc_24, hr⟩ := gBind_some hr
        refine c_X11_flushes (pc := 96) C dX11_happens_96 q1709 ⟨Nat.le_of_ble_eq_true rfl, Nat.le_of_ble_eq_true rfl⟩ (by decide) hc_24 (Nat.le_of_ble_eq_true rfl) ?_
        refine r_aload_n (pc := 99) C dX11_happens_99 rfl 2 rfl ?_
        refine r_iconst (pc := 100) C dX11_happens_100 ki1 ?_
        refine r_iload_n (pc := 101) C dX11_happens_101 rfl 0 rfl ?_
        obtain ⟨M_27, hc_26, hr⟩ := gBind_some hr
        refine c_X11_tells (pc := 102) C dX11_happens_102 q1769 ⟨Nat.le_of_ble_eq_true rfl, Nat.le_of_ble_eq_true rfl⟩ hc_26 (Nat.le_of_ble_eq_true rfl) ?_
        refine r_goto (pc := 105) (tgt := 149) C dX11_happens_105 rfl ?_
        exact r_vret (pc := 149) CR dX11_happens_149 rfl (gSome hr)
      · replace hr := (if_neg c_21).symm.trans hr
        exact r_vret (pc := 85) CR dX11_happens_85 rfl (gSome hr)
  · replace hr := (if_neg c_4).symm.trans hr
    refine r_aload_n (pc := 12) C dX11_happens_12 rfl 1 rfl ?_
    refine r_aload_n (pc := 13) C dX11_happens_13 rfl 1 rfl ?_
    refine g50_16 (pc := 14) C dX11_happens_14 q1416 (e50 nf) ?_
    obtain ⟨⟨r_29, M_30⟩, hc_28, hr⟩ := gBind_some hr
    replace hr := gU2_some hr
    refine c_X11_chance (pc := 17) C dX11_happens_17 q1852 ⟨Nat.le_of_ble_eq_true rfl, Nat.le_of_ble_eq_true rfl⟩ hc_28 (Nat.le_of_ble_eq_true rfl) ?_
    refine r_istore_n (pc := 20) C dX11_happens_20 rfl (by decide) rfl (ls' := [(2, .int r_29), (1, .int r_2), (0, .ref (gad 50 0))]) rfl ?_
    refine r_aload_n (pc := 21) C dX11_happens_21 rfl 2 rfl ?_
    refine r_aload_n (pc := 22) C dX11_happens_22 rfl 2 rfl ?_
    refine g50_18 (pc := 23) C dX11_happens_23 q1418 (e50 nf) ?_
    refine r_iload_n (pc := 26) C dX11_happens_26 rfl 0 rfl ?_
    obtain ⟨⟨r_32, M_33⟩, hc_31, hr⟩ := gBind_some hr
    replace hr := gU2_some hr
    refine c_X11_stopsDraw (pc := 27) C dX11_happens_27 q1640 ⟨Nat.le_of_ble_eq_true rfl, Nat.le_of_ble_eq_true rfl⟩ (by decide) hc_31 (Nat.le_of_ble_eq_true rfl) ?_
    refine r_iconst (pc := 30) C dX11_happens_30 kim1 ?_
    refine r_icmp_eq (pc := 31) (tgt := 35) C dX11_happens_31 rfl (fun c_34 => ?_) (fun c_34 => ?_)
    · replace hr := (if_pos c_34).symm.trans hr
      refine r_aload_n (pc := 35) C dX11_happens_35 rfl 2 rfl ?_
      obtain ⟨M_36, hc_35, hr⟩ := gBind_some hr
      refine c_X11_remember (pc := 36) C dX11_happens_36 q1698 ⟨Nat.le_of_ble_eq_true rfl, Nat.le_of_ble_eq_true rfl⟩ hc_35 (Nat.le_of_ble_eq_true rfl) ?_
      refine r_aload_n (pc := 39) C dX11_happens_39 rfl 2 rfl ?_
      refine r_aload_n (pc := 40) C dX11_happens_40 rfl 2 rfl ?_
      refine g50_18 (pc := 41) C dX11_happens_41 q1418 (e50 nf) ?_
      refine r_iload_n (pc := 44) C dX11_happens_44 rfl 0 rfl ?_
      obtain ⟨⟨r_38, M_39⟩, hc_37, hr⟩ := gBind_some hr
      replace hr := gU2_some hr
      refine c_X11_draws (pc := 45) C dX11_happens_45 q1705 ⟨Nat.le_of_ble_eq_true rfl, Nat.le_of_ble_eq_true rfl⟩ (by decide) hc_37 (Nat.le_of_ble_eq_true rfl) ?_
      refine r_pop (pc := 48) C dX11_happens_48 rfl ?_
      refine r_aload_n (pc := 49) C dX11_happens_49 rfl 2 rfl ?_
      refine r_iconst (pc := 50) C dX11_happens_50 ki0 ?_
      refine r_iload_n (pc := 51) C dX11_happens_51 rfl 0 rfl ?_
      obtain ⟨M_41, hc_40, hr⟩ := gBind_some hr
      refine c_X11_tells (pc := 52) C dX11_happens_52 q1769 ⟨Nat.le_of_ble_eq_true rfl, Nat.le_of_ble_eq_true rfl⟩ hc_40 (Nat.le_of_ble_eq_true rfl) ?_
      refine r_goto (pc := 55) (tgt := 149) C dX11_happens_55 rfl ?_
      exact r_vret (pc := 149) CR dX11_happens_149 rfl (gSome hr)
    · replace hr := (if_neg c_34).symm.trans hr
      exact r_vret (pc := 34) CR dX11_happens_34 rfl (gSome hr)
theorem c_X11_happens {Ψ : gM → Nat → List (Nat × Value) → List Value → Prop} {G : gG5} {nf : Nat} {cc : ByteArray} {own : String} {nL : Nat} {ret : Option FieldType} {fr lo : Nat} {v0 : Option Value} {M0 M : gM} {pc index : Nat} {ls : List (Nat × Value)} {st : List Value} (C : gC Ψ G (gXn nf) cc own nL ret fr lo v0 M0) (d : decode cc pc = .ok (.invokevirtual index, 3)) (hl : Cond.methodLink own index yX11_happens ∈ gws) (hR : 9 ≤ fr ∧ 231 ≤ lo) {M1 : gM} (hr : X11_happens M = some M1) (hcat : (st.map fun v => v.category).sum ≤ 8) (k : Ψ M1 (pc + 3) ls (st)) : Ψ M pc ls (.ref (gad 50 0) :: st) := r_callV C [] st d (k_X11_happens hr) hl q1850 q91 q127 q1851 hd_X11_happens hR rfl (by decide) (e50 nf) rfl hcat k
theorem hd_X11_years : yX11_years.cls ≠ "java/lang/invoke/MethodHandle" ∧ yX11_years.cls ≠ "java/lang/invoke/VarHandle" ∧ (parseMethodDescriptor yX11_years.desc).map (fun d => d.parameters.length) = some 2 := by decide +kernel
noncomputable def X11_years_L34 (x1 : Int32) (x4 : Int32) (M : gM) : Option ((Int32 × gM) ⊕ gM) := (if x1 ≤ x4 then some (.inr M) else (X11_happens M).bind (fun M_9 => gLet (x4 + 1) (fun x4_10 => some (.inl (x4_10, M_9)))))
theorem t_X11_years_L34 {Ψ : gM → Nat → List (Nat × Value) → List Value → Prop} {G : gG5} {nf : Nat} {M : gM} {v0 : Option Value} {M0 : gM} {x1 : Int32} {x4 : Int32} {w : ((Int32 × gM) ⊕ gM)} (C : gC Ψ G (gXn nf) cX11_years RX11 5 (some .int) 9 231 v0 M0) (hr : X11_years_L34 x1 x4 M = some w) (hn : ∀ s, w = .inl s → Ψ s.2 34 [(0, .ref (gad 50 0)), (1, .int x1), (4, .int (s.1))] []) (hx : ∀ e, w = .inr e → (fun e => Ψ e 50 [(0, .ref (gad 50 0))] []) e) : Ψ M 34 [(0, .ref (gad 50 0)), (1, .int x1), (4, .int x4)] [] := by
  refine r_iload (pc := 34) C dX11_years_34 2 rfl ?_
  refine r_iload_n (pc := 36) C dX11_years_36 rfl 1 rfl ?_
  refine r_icmp_ge (pc := 37) (tgt := 50) C dX11_years_37 rfl (fun c_7 => ?_) (fun c_7 => ?_)
  · replace hr := (if_pos c_7).symm.trans hr
    refine r_sub C [0] (ls' := [(0, .ref (gad 50 0))]) rfl ?_
    exact hx M (gSome hr)
  · replace hr := (if_neg c_7).symm.trans hr
    refine r_aload_n (pc := 40) C dX11_years_40 rfl 0 rfl ?_
    obtain ⟨M_9, hc_8, hr⟩ := gBind_some hr
    refine c_X11_happens (pc := 41) C dX11_years_41 q1848 ⟨Nat.le_of_ble_eq_true rfl, Nat.le_of_ble_eq_true rfl⟩ hc_8 (Nat.le_of_ble_eq_true rfl) ?_
    obtain ⟨x4_10, ex4_10, hr⟩ := gLet_some hr
    refine r_iinc (pc := 44) C dX11_years_44 2 rfl rfl (by decide) ex4_10 (ls' := [(4, .int x4_10), (0, .ref (gad 50 0)), (1, .int x1)]) rfl ?_
    refine r_goto (pc := 47) (tgt := 34) C dX11_years_47 rfl ?_
    refine r_sub C [1, 2, 0] (ls' := [(0, .ref (gad 50 0)), (1, .int x1), (4, .int x4_10)]) rfl ?_
    exact hn (x4_10, M_9) (gSome hr)
noncomputable def X11_years (p1 : Int32) (p2 : Int64) (M : gM) : Option (Int32 × gM) := gLet (wI M 50 0 0 0) (fun M_1 => (if (M_1.1 50 0 16) = 0 then some ((-1), M_1) else (X11_isIn (Int32.toInt64 p1) 1 40 M_1).bind (fun r_4 => (if r_4 = 0 then some ((-1), M_1) else gLet (wL M_1 50 0 32 p2) (fun M_6 => (gIter (fun s => X11_years_L34 p1 s.1 s.2) FU (0, M_6)).bind (fun M_11 => (X11_pairs 8 M_11).bind (fun r_13 => some (r_13, M_11))))))))
theorem k_X11_years {G : gG5} {nf : Nat} {M : gM} {p1 : Int32} {p2 : Int64} {r : Int32} {M1 : gM} (hr : X11_years p1 p2 M = some (r, M1)) : gMet G (gXn nf) yX11_years cX11_years 5 (some .int) 9 231 M [.ref (gad 50 0), .int p1, .long p2] (some (.int r)) M1 := by
  refine gMet_of pl_X11 rfl (Nat.le_of_ble_eq_true rfl) (fun Ψ C CR => ?_)
  show Ψ M 0 [(0, .ref (gad 50 0)), (1, .int p1), (2, .long p2)] []
  refine r_aload_n (pc := 0) C dX11_years_0 rfl 0 rfl ?_
  refine r_iconst (pc := 1) C dX11_years_1 ki0 ?_
  obtain ⟨M_1, eM_1, hr⟩ := gLet_some hr
  refine p50_0 (pc := 2) C dX11_years_2 q1400 (e50 nf) eM_1 ?_
  refine r_aload_n (pc := 5) C dX11_years_5 rfl 0 rfl ?_
  refine g50_16 (pc := 6) C dX11_years_6 q1416 (e50 nf) ?_
  refine r_if_eq (pc := 9) (tgt := 24) C dX11_years_9 rfl (fun c_2 => ?_) (fun c_2 => ?_)
  · replace hr := (if_pos c_2).symm.trans hr
    refine r_iconst (pc := 24) C dX11_years_24 kim1 ?_
    exact r_iret (pc := 25) CR dX11_years_25 (congrArg (fun z => some (Value.int z)) (Prod.mk.inj (gSome hr)).1) (Prod.mk.inj (gSome hr)).2
  · replace hr := (if_neg c_2).symm.trans hr
    refine r_iload_n (pc := 12) C dX11_years_12 rfl 1 rfl ?_
    refine r_i2l (pc := 13) C dX11_years_13 ?_
    refine r_lconst (pc := 14) (v := 1) C dX11_years_14 rfl ?_
    refine r_ldc2 (pc := 15) C dX11_years_15 q1847 ?_
    obtain ⟨r_4, hc_3, hr⟩ := gBind_some hr
    refine c_X11_isIn (pc := 18) C dX11_years_18 q1538 ⟨Nat.le_of_ble_eq_true rfl, Nat.le_of_ble_eq_true rfl⟩ hc_3 (Nat.le_of_ble_eq_true rfl) ?_
    refine r_if_ne (pc := 21) (tgt := 26) C dX11_years_21 rfl (fun c_5 => ?_) (fun c_5 => ?_)
    · replace hr := (if_neg c_5).symm.trans hr
      refine r_aload_n (pc := 26) C dX11_years_26 rfl 0 rfl ?_
      refine r_lload_n (pc := 27) C dX11_years_27 rfl 2 rfl ?_
      obtain ⟨M_6, eM_6, hr⟩ := gLet_some hr
      refine p50_32 (pc := 28) C dX11_years_28 q1432 (e50 nf) eM_6 ?_
      refine r_iconst (pc := 31) C dX11_years_31 ki0 ?_
      refine r_istore (pc := 32) C dX11_years_32 (by decide) rfl (ls' := [(4, .int 0), (0, .ref (gad 50 0)), (1, .int p1), (2, .long p2)]) rfl ?_
      refine r_sub C [1, 2, 0] (ls' := [(0, .ref (gad 50 0)), (1, .int p1), (4, .int 0)]) rfl ?_
      obtain ⟨ev, hit, hr⟩ := gBind_some hr
      refine gIter_V (step := fun s => X11_years_L34 p1 s.1 s.2) (P := fun s => Ψ s.2 34 [(0, .ref (gad 50 0)), (1, .int p1), (4, .int (s.1))] []) (K := (fun e => Ψ e 50 [(0, .ref (gad 50 0))] [])) (fun s w hs hn hx => t_X11_years_L34 C  hs hn hx) FU (0, M_6) ev hit ?_
      obtain ⟨M_11, rfl⟩ : ∃ z, z = ev := ⟨_, rfl⟩
      show Ψ M_11 50 [(0, .ref (gad 50 0))] []
      refine r_aload_n (pc := 50) C dX11_years_50 rfl 0 rfl ?_
      refine r_aload_n (pc := 51) C dX11_years_51 rfl 0 rfl ?_
      refine g50_18 (pc := 52) C dX11_years_52 q1418 (e50 nf) ?_
      obtain ⟨r_13, hc_12, hr⟩ := gBind_some hr
      refine c_X11_pairs (pc := 55) C dX11_years_55 q1773 ⟨Nat.le_of_ble_eq_true rfl, Nat.le_of_ble_eq_true rfl⟩ (by decide) hc_12 (Nat.le_of_ble_eq_true rfl) ?_
      exact r_iret (pc := 58) CR dX11_years_58 (congrArg (fun z => some (Value.int z)) (Prod.mk.inj (gSome hr)).1) (Prod.mk.inj (gSome hr)).2
    · replace hr := (if_pos c_5).symm.trans hr
      refine r_iconst (pc := 24) C dX11_years_24 kim1 ?_
      exact r_iret (pc := 25) CR dX11_years_25 (congrArg (fun z => some (Value.int z)) (Prod.mk.inj (gSome hr)).1) (Prod.mk.inj (gSome hr)).2
theorem c_X11_years {Ψ : gM → Nat → List (Nat × Value) → List Value → Prop} {G : gG5} {nf : Nat} {cc : ByteArray} {own : String} {nL : Nat} {ret : Option FieldType} {fr lo : Nat} {v0 : Option Value} {M0 M : gM} {pc index : Nat} {ls : List (Nat × Value)} {st : List Value} (C : gC Ψ G (gXn nf) cc own nL ret fr lo v0 M0) (d : decode cc pc = .ok (.invokevirtual index, 3)) (hl : Cond.methodLink own index yX11_years ∈ gws) (hR : 10 ≤ fr ∧ 255 ≤ lo) {p1 : Int32} {p2 : Int64} {r : Int32} {M1 : gM} (hr : X11_years p1 p2 M = some (r, M1)) (hcat : (st.map fun v => v.category).sum ≤ 8) (k : Ψ M1 (pc + 3) ls (.int r :: st)) : Ψ M pc ls (.long p2 :: .int p1 :: .ref (gad 50 0) :: st) := r_callV C [.int p1, .long p2] st d (k_X11_years hr) hl q1844 q1845 q127 q1846 hd_X11_years hR rfl (by decide) (e50 nf) rfl hcat k
theorem hd_X11_status : yX11_status.cls ≠ "java/lang/invoke/MethodHandle" ∧ yX11_status.cls ≠ "java/lang/invoke/VarHandle" ∧ (parseMethodDescriptor yX11_status.desc).map (fun d => d.parameters.length) = some 1 := by decide +kernel
noncomputable def X11_status (p1 : Int32) (M : gM) : Option (Int32 × gM) := gLet (wI M 50 0 0 0) (fun M_1 => (X11_isIn (Int32.toInt64 p1) 0 3 M_1).bind (fun r_3 => (if r_3 = 0 then some ((-1), M_1) else gG (gin p1 4) (some ((M_1.1 52 7 (Int32.toNatClampNeg p1)), M_1)))))
theorem k_X11_status {G : gG5} {nf : Nat} {M : gM} {p1 : Int32} {r : Int32} {M1 : gM} (hr : X11_status p1 M = some (r, M1)) : gMet G (gXn nf) yX11_status cX11_status 2 (some .int) 1 25 M [.ref (gad 50 0), .int p1] (some (.int r)) M1 := by
  refine gMet_of pl_X11 rfl (Nat.le_of_ble_eq_true rfl) (fun Ψ C CR => ?_)
  show Ψ M 0 [(0, .ref (gad 50 0)), (1, .int p1)] []
  refine r_aload_n (pc := 0) C dX11_status_0 rfl 0 rfl ?_
  refine r_iconst (pc := 1) C dX11_status_1 ki0 ?_
  obtain ⟨M_1, eM_1, hr⟩ := gLet_some hr
  refine p50_0 (pc := 2) C dX11_status_2 q1400 (e50 nf) eM_1 ?_
  refine r_iload_n (pc := 5) C dX11_status_5 rfl 1 rfl ?_
  refine r_i2l (pc := 6) C dX11_status_6 ?_
  refine r_lconst (pc := 7) (v := 0) C dX11_status_7 rfl ?_
  refine r_ldc2 (pc := 8) C dX11_status_8 q1823 ?_
  obtain ⟨r_3, hc_2, hr⟩ := gBind_some hr
  refine c_X11_isIn (pc := 11) C dX11_status_11 q1538 ⟨Nat.le_of_ble_eq_true rfl, Nat.le_of_ble_eq_true rfl⟩ hc_2 (Nat.le_of_ble_eq_true rfl) ?_
  refine r_if_eq (pc := 14) (tgt := 26) C dX11_status_14 rfl (fun c_4 => ?_) (fun c_4 => ?_)
  · replace hr := (if_pos c_4).symm.trans hr
    refine r_iconst (pc := 26) C dX11_status_26 kim1 ?_
    exact r_iret (pc := 27) CR dX11_status_27 (congrArg (fun z => some (Value.int z)) (Prod.mk.inj (gSome hr)).1) (Prod.mk.inj (gSome hr)).2
  · replace hr := (if_neg c_4).symm.trans hr
    refine r_aload_n (pc := 17) C dX11_status_17 rfl 0 rfl ?_
    refine g50_14 (pc := 18) C dX11_status_18 q1414 (e50 nf) ?_
    refine r_iload_n (pc := 21) C dX11_status_21 rfl 1 rfl ?_
    obtain ⟨g_5, hr⟩ := gG_some hr
    refine r_ialdN (pc := 22) C dX11_status_22 rfl (e52 (nf := nf) (by decide)) g_5 rfl ?_
    refine r_goto (pc := 23) (tgt := 27) C dX11_status_23 rfl ?_
    exact r_iret (pc := 27) CR dX11_status_27 (congrArg (fun z => some (Value.int z)) (Prod.mk.inj (gSome hr)).1) (Prod.mk.inj (gSome hr)).2
theorem c_X11_status {Ψ : gM → Nat → List (Nat × Value) → List Value → Prop} {G : gG5} {nf : Nat} {cc : ByteArray} {own : String} {nL : Nat} {ret : Option FieldType} {fr lo : Nat} {v0 : Option Value} {M0 M : gM} {pc index : Nat} {ls : List (Nat × Value)} {st : List Value} (C : gC Ψ G (gXn nf) cc own nL ret fr lo v0 M0) (d : decode cc pc = .ok (.invokevirtual index, 3)) (hl : Cond.methodLink own index yX11_status ∈ gws) (hR : 2 ≤ fr ∧ 46 ≤ lo) {p1 : Int32} {r : Int32} {M1 : gM} (hr : X11_status p1 M = some (r, M1)) (hcat : (st.map fun v => v.category).sum ≤ 8) (k : Ψ M1 (pc + 3) ls (.int r :: st)) : Ψ M pc ls (.int p1 :: .ref (gad 50 0) :: st) := r_callV C [.int p1] st d (k_X11_status hr) hl q1863 q1864 q127 q1865 hd_X11_status hR rfl (by decide) (e50 nf) rfl hcat k
theorem hd_X11_undo : yX11_undo.cls ≠ "java/lang/invoke/MethodHandle" ∧ yX11_undo.cls ≠ "java/lang/invoke/VarHandle" ∧ (parseMethodDescriptor yX11_undo.desc).map (fun d => d.parameters.length) = some 0 := by decide +kernel
noncomputable def X11_undo (M : gM) : Option (Int32 × gM) := gLet (wI M 50 0 0 0) (fun M_1 => (if (M_1.1 50 0 23) = 0 then some ((-1), M_1) else gLet (wI M_1 50 0 23 ((M_1.1 50 0 23) - 1)) (fun M_3 => (X11_copyRow 11 (1242 * (gRem ((M_3.1 50 0 22) + (M_3.1 50 0 23)) 40)) 8 0 M_3).bind (fun M_5 => some ((M_5.1 50 0 23), M_5)))))
theorem k_X11_undo {G : gG5} {nf : Nat} {M : gM} {r : Int32} {M1 : gM} (hr : X11_undo M = some (r, M1)) : gMet G (gXn nf) yX11_undo cX11_undo 1 (some .int) 1 24 M [.ref (gad 50 0)] (some (.int r)) M1 := by
  refine gMet_of pl_X11 rfl (Nat.le_of_ble_eq_true rfl) (fun Ψ C CR => ?_)
  show Ψ M 0 [(0, .ref (gad 50 0))] []
  refine r_aload_n (pc := 0) C dX11_undo_0 rfl 0 rfl ?_
  refine r_iconst (pc := 1) C dX11_undo_1 ki0 ?_
  obtain ⟨M_1, eM_1, hr⟩ := gLet_some hr
  refine p50_0 (pc := 2) C dX11_undo_2 q1400 (e50 nf) eM_1 ?_
  refine r_aload_n (pc := 5) C dX11_undo_5 rfl 0 rfl ?_
  refine g50_23 (pc := 6) C dX11_undo_6 q1423 (e50 nf) ?_
  refine r_if_ne (pc := 9) (tgt := 14) C dX11_undo_9 rfl (fun c_2 => ?_) (fun c_2 => ?_)
  · replace hr := (if_neg c_2).symm.trans hr
    refine r_aload_n (pc := 14) C dX11_undo_14 rfl 0 rfl ?_
    refine r_dup (pc := 15) C dX11_undo_15 rfl ?_
    refine g50_23 (pc := 16) C dX11_undo_16 q1423 (e50 nf) ?_
    refine r_iconst (pc := 19) C dX11_undo_19 ki1 ?_
    refine r_isub (pc := 20) C dX11_undo_20 ?_
    obtain ⟨M_3, eM_3, hr⟩ := gLet_some hr
    refine p50_23 (pc := 21) C dX11_undo_21 q1423 (e50 nf) eM_3 ?_
    refine r_aload_n (pc := 24) C dX11_undo_24 rfl 0 rfl ?_
    refine g50_21 (pc := 25) C dX11_undo_25 q1421 (e50 nf) ?_
    refine r_sipush (pc := 28) C dX11_undo_28 ks1242 ?_
    refine r_aload_n (pc := 31) C dX11_undo_31 rfl 0 rfl ?_
    refine g50_22 (pc := 32) C dX11_undo_32 q1422 (e50 nf) ?_
    refine r_aload_n (pc := 35) C dX11_undo_35 rfl 0 rfl ?_
    refine g50_23 (pc := 36) C dX11_undo_36 q1423 (e50 nf) ?_
    refine r_iadd (pc := 39) C dX11_undo_39 ?_
    refine r_bipush (pc := 40) C dX11_undo_40 kb40 ?_
    refine r_irem (pc := 42) C dX11_undo_42 (by decide) ?_
    refine r_imul (pc := 43) C dX11_undo_43 ?_
    refine r_aload_n (pc := 44) C dX11_undo_44 rfl 0 rfl ?_
    refine g50_18 (pc := 45) C dX11_undo_45 q1418 (e50 nf) ?_
    refine r_iconst (pc := 48) C dX11_undo_48 ki0 ?_
    obtain ⟨M_5, hc_4, hr⟩ := gBind_some hr
    refine c_X11_copyRow (pc := 49) C dX11_undo_49 q1702 ⟨Nat.le_of_ble_eq_true rfl, Nat.le_of_ble_eq_true rfl⟩ (by decide) (by decide) hc_4 (Nat.le_of_ble_eq_true rfl) ?_
    refine r_aload_n (pc := 52) C dX11_undo_52 rfl 0 rfl ?_
    refine g50_23 (pc := 53) C dX11_undo_53 q1423 (e50 nf) ?_
    exact r_iret (pc := 56) CR dX11_undo_56 (congrArg (fun z => some (Value.int z)) (Prod.mk.inj (gSome hr)).1) (Prod.mk.inj (gSome hr)).2
  · replace hr := (if_pos c_2).symm.trans hr
    refine r_iconst (pc := 12) C dX11_undo_12 kim1 ?_
    exact r_iret (pc := 13) CR dX11_undo_13 (congrArg (fun z => some (Value.int z)) (Prod.mk.inj (gSome hr)).1) (Prod.mk.inj (gSome hr)).2
theorem c_X11_undo {Ψ : gM → Nat → List (Nat × Value) → List Value → Prop} {G : gG5} {nf : Nat} {cc : ByteArray} {own : String} {nL : Nat} {ret : Option FieldType} {fr lo : Nat} {v0 : Option Value} {M0 M : gM} {pc index : Nat} {ls : List (Nat × Value)} {st : List Value} (C : gC Ψ G (gXn nf) cc own nL ret fr lo v0 M0) (d : decode cc pc = .ok (.invokevirtual index, 3)) (hl : Cond.methodLink own index yX11_undo ∈ gws) (hR : 2 ≤ fr ∧ 44 ≤ lo) {r : Int32} {M1 : gM} (hr : X11_undo M = some (r, M1)) (hcat : (st.map fun v => v.category).sum ≤ 8) (k : Ψ M1 (pc + 3) ls (.int r :: st)) : Ψ M pc ls (.ref (gad 50 0) :: st) := r_callV C [] st d (k_X11_undo hr) hl q1867 q1868 q127 q1869 hd_X11_undo hR rfl (by decide) (e50 nf) rfl hcat k
theorem hd_X11_log : yX11_log.cls ≠ "java/lang/invoke/MethodHandle" ∧ yX11_log.cls ≠ "java/lang/invoke/VarHandle" ∧ (parseMethodDescriptor yX11_log.desc).map (fun d => d.parameters.length) = some 2 := by decide +kernel
noncomputable def X11_log (p1 : Int32) (p2 : Int32) (M : gM) : Option (Int32 × gM) := gLet (wI M 50 0 0 0) (fun M_1 => (if p1 < 0 then some ((-1), M_1) else (if (M_1.1 52 8 1061) ≤ p1 then some ((-1), M_1) else (X11_isIn (Int32.toInt64 p2) 0 2 M_1).bind (fun r_5 => (if r_5 = 0 then some ((-1), M_1) else gG (gin ((1062 + (3 * (((M_1.1 52 8 1061) - 1) - p1))) + p2) 1242) (some ((M_1.1 52 8 (Int32.toNatClampNeg ((1062 + (3 * (((M_1.1 52 8 1061) - 1) - p1))) + p2))), M_1)))))))
theorem k_X11_log {G : gG5} {nf : Nat} {M : gM} {p1 : Int32} {p2 : Int32} {r : Int32} {M1 : gM} (hr : X11_log p1 p2 M = some (r, M1)) : gMet G (gXn nf) yX11_log cX11_log 3 (some .int) 1 25 M [.ref (gad 50 0), .int p1, .int p2] (some (.int r)) M1 := by
  refine gMet_of pl_X11 rfl (Nat.le_of_ble_eq_true rfl) (fun Ψ C CR => ?_)
  show Ψ M 0 [(0, .ref (gad 50 0)), (1, .int p1), (2, .int p2)] []
  refine r_aload_n (pc := 0) C dX11_log_0 rfl 0 rfl ?_
  refine r_iconst (pc := 1) C dX11_log_1 ki0 ?_
  obtain ⟨M_1, eM_1, hr⟩ := gLet_some hr
  refine p50_0 (pc := 2) C dX11_log_2 q1400 (e50 nf) eM_1 ?_
  refine r_iload_n (pc := 5) C dX11_log_5 rfl 1 rfl ?_
  refine r_if_lt (pc := 6) (tgt := 33) C dX11_log_6 rfl (fun c_2 => ?_) (fun c_2 => ?_)
  · replace hr := (if_pos c_2).symm.trans hr
    refine r_iconst (pc := 33) C dX11_log_33 kim1 ?_
    exact r_iret (pc := 34) CR dX11_log_34 (congrArg (fun z => some (Value.int z)) (Prod.mk.inj (gSome hr)).1) (Prod.mk.inj (gSome hr)).2
  · replace hr := (if_neg c_2).symm.trans hr
    refine r_iload_n (pc := 9) C dX11_log_9 rfl 1 rfl ?_
    refine r_aload_n (pc := 10) C dX11_log_10 rfl 0 rfl ?_
    refine g50_18 (pc := 11) C dX11_log_11 q1418 (e50 nf) ?_
    refine r_sipush (pc := 14) C dX11_log_14 ks1061 ?_
    refine r_ialdN (pc := 17) C dX11_log_17 rfl (e52 (nf := nf) (by decide)) (by decide : gin 1061 1242 = true) kc1061 ?_
    refine r_icmp_ge (pc := 18) (tgt := 33) C dX11_log_18 rfl (fun c_3 => ?_) (fun c_3 => ?_)
    · replace hr := (if_pos c_3).symm.trans hr
      refine r_iconst (pc := 33) C dX11_log_33 kim1 ?_
      exact r_iret (pc := 34) CR dX11_log_34 (congrArg (fun z => some (Value.int z)) (Prod.mk.inj (gSome hr)).1) (Prod.mk.inj (gSome hr)).2
    · replace hr := (if_neg c_3).symm.trans hr
      refine r_iload_n (pc := 21) C dX11_log_21 rfl 2 rfl ?_
      refine r_i2l (pc := 22) C dX11_log_22 ?_
      refine r_lconst (pc := 23) (v := 0) C dX11_log_23 rfl ?_
      refine r_ldc2 (pc := 24) C dX11_log_24 q1607 ?_
      obtain ⟨r_5, hc_4, hr⟩ := gBind_some hr
      refine c_X11_isIn (pc := 27) C dX11_log_27 q1538 ⟨Nat.le_of_ble_eq_true rfl, Nat.le_of_ble_eq_true rfl⟩ hc_4 (Nat.le_of_ble_eq_true rfl) ?_
      refine r_if_ne (pc := 30) (tgt := 35) C dX11_log_30 rfl (fun c_6 => ?_) (fun c_6 => ?_)
      · replace hr := (if_neg c_6).symm.trans hr
        refine r_aload_n (pc := 35) C dX11_log_35 rfl 0 rfl ?_
        refine g50_18 (pc := 36) C dX11_log_36 q1418 (e50 nf) ?_
        refine r_sipush (pc := 39) C dX11_log_39 ks1062 ?_
        refine r_iconst (pc := 42) C dX11_log_42 ki3 ?_
        refine r_aload_n (pc := 43) C dX11_log_43 rfl 0 rfl ?_
        refine g50_18 (pc := 44) C dX11_log_44 q1418 (e50 nf) ?_
        refine r_sipush (pc := 47) C dX11_log_47 ks1061 ?_
        refine r_ialdN (pc := 50) C dX11_log_50 rfl (e52 (nf := nf) (by decide)) (by decide : gin 1061 1242 = true) kc1061 ?_
        refine r_iconst (pc := 51) C dX11_log_51 ki1 ?_
        refine r_isub (pc := 52) C dX11_log_52 ?_
        refine r_iload_n (pc := 53) C dX11_log_53 rfl 1 rfl ?_
        refine r_isub (pc := 54) C dX11_log_54 ?_
        refine r_imul (pc := 55) C dX11_log_55 ?_
        refine r_iadd (pc := 56) C dX11_log_56 ?_
        refine r_iload_n (pc := 57) C dX11_log_57 rfl 2 rfl ?_
        refine r_iadd (pc := 58) C dX11_log_58 ?_
        obtain ⟨g_7, hr⟩ := gG_some hr
        refine r_ialdN (pc := 59) C dX11_log_59 rfl (e52 (nf := nf) (by decide)) g_7 rfl ?_
        exact r_iret (pc := 60) CR dX11_log_60 (congrArg (fun z => some (Value.int z)) (Prod.mk.inj (gSome hr)).1) (Prod.mk.inj (gSome hr)).2
      · replace hr := (if_pos c_6).symm.trans hr
        refine r_iconst (pc := 33) C dX11_log_33 kim1 ?_
        exact r_iret (pc := 34) CR dX11_log_34 (congrArg (fun z => some (Value.int z)) (Prod.mk.inj (gSome hr)).1) (Prod.mk.inj (gSome hr)).2
theorem c_X11_log {Ψ : gM → Nat → List (Nat × Value) → List Value → Prop} {G : gG5} {nf : Nat} {cc : ByteArray} {own : String} {nL : Nat} {ret : Option FieldType} {fr lo : Nat} {v0 : Option Value} {M0 M : gM} {pc index : Nat} {ls : List (Nat × Value)} {st : List Value} (C : gC Ψ G (gXn nf) cc own nL ret fr lo v0 M0) (d : decode cc pc = .ok (.invokevirtual index, 3)) (hl : Cond.methodLink own index yX11_log ∈ gws) (hR : 2 ≤ fr ∧ 47 ≤ lo) {p1 : Int32} {p2 : Int32} {r : Int32} {M1 : gM} (hr : X11_log p1 p2 M = some (r, M1)) (hcat : (st.map fun v => v.category).sum ≤ 8) (k : Ψ M1 (pc + 3) ls (.int r :: st)) : Ψ M pc ls (.int p2 :: .int p1 :: .ref (gad 50 0) :: st) := r_callV C [.int p1, .int p2] st d (k_X11_log hr) hl q1871 q1872 q127 q1873 hd_X11_log hR rfl (by decide) (e50 nf) rfl hcat k
theorem hd_X11_image : yX11_image.cls ≠ "java/lang/invoke/MethodHandle" ∧ yX11_image.cls ≠ "java/lang/invoke/VarHandle" ∧ (parseMethodDescriptor yX11_image.desc).map (fun d => d.parameters.length) = some 0 := by decide +kernel
noncomputable def X11_image (M : gM) : Option (Int32 × gM) := gLet (wI M 50 0 0 0) (fun M_1 => (if (M_1.1 50 0 16) = 0 then some ((-1), M_1) else (X11_copyRow 8 0 10 0 M_1).bind (fun M_4 => gLet (wI M_4 50 0 24 1) (fun M_5 => (X11_pairs 8 M_5).bind (fun r_7 => some (r_7, M_5))))))
theorem k_X11_image {G : gG5} {nf : Nat} {M : gM} {r : Int32} {M1 : gM} (hr : X11_image M = some (r, M1)) : gMet G (gXn nf) yX11_image cX11_image 1 (some .int) 3 66 M [.ref (gad 50 0)] (some (.int r)) M1 := by
  refine gMet_of pl_X11 rfl (Nat.le_of_ble_eq_true rfl) (fun Ψ C CR => ?_)
  show Ψ M 0 [(0, .ref (gad 50 0))] []
  refine r_aload_n (pc := 0) C dX11_image_0 rfl 0 rfl ?_
  refine r_iconst (pc := 1) C dX11_image_1 ki0 ?_
  obtain ⟨M_1, eM_1, hr⟩ := gLet_some hr
  refine p50_0 (pc := 2) C dX11_image_2 q1400 (e50 nf) eM_1 ?_
  refine r_aload_n (pc := 5) C dX11_image_5 rfl 0 rfl ?_
  refine g50_16 (pc := 6) C dX11_image_6 q1416 (e50 nf) ?_
  refine r_if_ne (pc := 9) (tgt := 14) C dX11_image_9 rfl (fun c_2 => ?_) (fun c_2 => ?_)
  · replace hr := (if_neg c_2).symm.trans hr
    refine r_aload_n (pc := 14) C dX11_image_14 rfl 0 rfl ?_
    refine g50_18 (pc := 15) C dX11_image_15 q1418 (e50 nf) ?_
    refine r_iconst (pc := 18) C dX11_image_18 ki0 ?_
    refine r_aload_n (pc := 19) C dX11_image_19 rfl 0 rfl ?_
    refine g50_20 (pc := 20) C dX11_image_20 q1420 (e50 nf) ?_
    refine r_iconst (pc := 23) C dX11_image_23 ki0 ?_
    obtain ⟨M_4, hc_3, hr⟩ := gBind_some hr
    refine c_X11_copyRow (pc := 24) C dX11_image_24 q1702 ⟨Nat.le_of_ble_eq_true rfl, Nat.le_of_ble_eq_true rfl⟩ (by decide) (by decide) hc_3 (Nat.le_of_ble_eq_true rfl) ?_
    refine r_aload_n (pc := 27) C dX11_image_27 rfl 0 rfl ?_
    refine r_iconst (pc := 28) C dX11_image_28 ki1 ?_
    obtain ⟨M_5, eM_5, hr⟩ := gLet_some hr
    refine p50_24 (pc := 29) C dX11_image_29 q1424 (e50 nf) rfl eM_5 ?_
    refine r_aload_n (pc := 32) C dX11_image_32 rfl 0 rfl ?_
    refine r_aload_n (pc := 33) C dX11_image_33 rfl 0 rfl ?_
    refine g50_18 (pc := 34) C dX11_image_34 q1418 (e50 nf) ?_
    obtain ⟨r_7, hc_6, hr⟩ := gBind_some hr
    refine c_X11_pairs (pc := 37) C dX11_image_37 q1773 ⟨Nat.le_of_ble_eq_true rfl, Nat.le_of_ble_eq_true rfl⟩ (by decide) hc_6 (Nat.le_of_ble_eq_true rfl) ?_
    exact r_iret (pc := 40) CR dX11_image_40 (congrArg (fun z => some (Value.int z)) (Prod.mk.inj (gSome hr)).1) (Prod.mk.inj (gSome hr)).2
  · replace hr := (if_pos c_2).symm.trans hr
    refine r_iconst (pc := 12) C dX11_image_12 kim1 ?_
    exact r_iret (pc := 13) CR dX11_image_13 (congrArg (fun z => some (Value.int z)) (Prod.mk.inj (gSome hr)).1) (Prod.mk.inj (gSome hr)).2
theorem c_X11_image {Ψ : gM → Nat → List (Nat × Value) → List Value → Prop} {G : gG5} {nf : Nat} {cc : ByteArray} {own : String} {nL : Nat} {ret : Option FieldType} {fr lo : Nat} {v0 : Option Value} {M0 M : gM} {pc index : Nat} {ls : List (Nat × Value)} {st : List Value} (C : gC Ψ G (gXn nf) cc own nL ret fr lo v0 M0) (d : decode cc pc = .ok (.invokevirtual index, 3)) (hl : Cond.methodLink own index yX11_image ∈ gws) (hR : 4 ≤ fr ∧ 86 ≤ lo) {r : Int32} {M1 : gM} (hr : X11_image M = some (r, M1)) (hcat : (st.map fun v => v.category).sum ≤ 8) (k : Ψ M1 (pc + 3) ls (.int r :: st)) : Ψ M pc ls (.ref (gad 50 0) :: st) := r_callV C [] st d (k_X11_image hr) hl q1875 q1876 q127 q1877 hd_X11_image hR rfl (by decide) (e50 nf) rfl hcat k
theorem hd_X11_back : yX11_back.cls ≠ "java/lang/invoke/MethodHandle" ∧ yX11_back.cls ≠ "java/lang/invoke/VarHandle" ∧ (parseMethodDescriptor yX11_back.desc).map (fun d => d.parameters.length) = some 0 := by decide +kernel
noncomputable def X11_back (M : gM) : Option (Int32 × gM) := gLet (wI M 50 0 0 0) (fun M_1 => (if (M_1.1 50 0 24) = 0 then some ((-1), M_1) else (X11_copyRow 10 0 8 0 M_1).bind (fun M_4 => gLet (wI M_4 50 0 23 0) (fun M_5 => (X11_pairs 8 M_5).bind (fun r_7 => some (r_7, M_5))))))
theorem k_X11_back {G : gG5} {nf : Nat} {M : gM} {r : Int32} {M1 : gM} (hr : X11_back M = some (r, M1)) : gMet G (gXn nf) yX11_back cX11_back 1 (some .int) 3 66 M [.ref (gad 50 0)] (some (.int r)) M1 := by
  refine gMet_of pl_X11 rfl (Nat.le_of_ble_eq_true rfl) (fun Ψ C CR => ?_)
  show Ψ M 0 [(0, .ref (gad 50 0))] []
  refine r_aload_n (pc := 0) C dX11_back_0 rfl 0 rfl ?_
  refine r_iconst (pc := 1) C dX11_back_1 ki0 ?_
  obtain ⟨M_1, eM_1, hr⟩ := gLet_some hr
  refine p50_0 (pc := 2) C dX11_back_2 q1400 (e50 nf) eM_1 ?_
  refine r_aload_n (pc := 5) C dX11_back_5 rfl 0 rfl ?_
  refine g50_24 (pc := 6) C dX11_back_6 q1424 (e50 nf) ?_
  refine r_if_ne (pc := 9) (tgt := 14) C dX11_back_9 rfl (fun c_2 => ?_) (fun c_2 => ?_)
  · replace hr := (if_neg c_2).symm.trans hr
    refine r_aload_n (pc := 14) C dX11_back_14 rfl 0 rfl ?_
    refine g50_20 (pc := 15) C dX11_back_15 q1420 (e50 nf) ?_
    refine r_iconst (pc := 18) C dX11_back_18 ki0 ?_
    refine r_aload_n (pc := 19) C dX11_back_19 rfl 0 rfl ?_
    refine g50_18 (pc := 20) C dX11_back_20 q1418 (e50 nf) ?_
    refine r_iconst (pc := 23) C dX11_back_23 ki0 ?_
    obtain ⟨M_4, hc_3, hr⟩ := gBind_some hr
    refine c_X11_copyRow (pc := 24) C dX11_back_24 q1702 ⟨Nat.le_of_ble_eq_true rfl, Nat.le_of_ble_eq_true rfl⟩ (by decide) (by decide) hc_3 (Nat.le_of_ble_eq_true rfl) ?_
    refine r_aload_n (pc := 27) C dX11_back_27 rfl 0 rfl ?_
    refine r_iconst (pc := 28) C dX11_back_28 ki0 ?_
    obtain ⟨M_5, eM_5, hr⟩ := gLet_some hr
    refine p50_23 (pc := 29) C dX11_back_29 q1423 (e50 nf) eM_5 ?_
    refine r_aload_n (pc := 32) C dX11_back_32 rfl 0 rfl ?_
    refine r_aload_n (pc := 33) C dX11_back_33 rfl 0 rfl ?_
    refine g50_18 (pc := 34) C dX11_back_34 q1418 (e50 nf) ?_
    obtain ⟨r_7, hc_6, hr⟩ := gBind_some hr
    refine c_X11_pairs (pc := 37) C dX11_back_37 q1773 ⟨Nat.le_of_ble_eq_true rfl, Nat.le_of_ble_eq_true rfl⟩ (by decide) hc_6 (Nat.le_of_ble_eq_true rfl) ?_
    exact r_iret (pc := 40) CR dX11_back_40 (congrArg (fun z => some (Value.int z)) (Prod.mk.inj (gSome hr)).1) (Prod.mk.inj (gSome hr)).2
  · replace hr := (if_pos c_2).symm.trans hr
    refine r_iconst (pc := 12) C dX11_back_12 kim1 ?_
    exact r_iret (pc := 13) CR dX11_back_13 (congrArg (fun z => some (Value.int z)) (Prod.mk.inj (gSome hr)).1) (Prod.mk.inj (gSome hr)).2
theorem c_X11_back {Ψ : gM → Nat → List (Nat × Value) → List Value → Prop} {G : gG5} {nf : Nat} {cc : ByteArray} {own : String} {nL : Nat} {ret : Option FieldType} {fr lo : Nat} {v0 : Option Value} {M0 M : gM} {pc index : Nat} {ls : List (Nat × Value)} {st : List Value} (C : gC Ψ G (gXn nf) cc own nL ret fr lo v0 M0) (d : decode cc pc = .ok (.invokevirtual index, 3)) (hl : Cond.methodLink own index yX11_back ∈ gws) (hR : 4 ≤ fr ∧ 86 ≤ lo) {r : Int32} {M1 : gM} (hr : X11_back M = some (r, M1)) (hcat : (st.map fun v => v.category).sum ≤ 8) (k : Ψ M1 (pc + 3) ls (.int r :: st)) : Ψ M pc ls (.ref (gad 50 0) :: st) := r_callV C [] st d (k_X11_back hr) hl q1879 q1880 q127 q1881 hd_X11_back hR rfl (by decide) (e50 nf) rfl hcat k
theorem hd_X11_rule : yX11_rule.cls ≠ "java/lang/invoke/MethodHandle" ∧ yX11_rule.cls ≠ "java/lang/invoke/VarHandle" ∧ (parseMethodDescriptor yX11_rule.desc).map (fun d => d.parameters.length) = some 1 := by decide +kernel
noncomputable def X11_rule (p1 : Int32) (M : gM) : Option (Int32 × gM) := gLet (wI M 50 0 0 0) (fun M_1 => (if (M_1.1 50 0 16) = 0 then some ((-1), M_1) else (X11_isIn (Int32.toInt64 p1) 0 9 M_1).bind (fun r_4 => (if r_4 = 0 then some ((-1), M_1) else (if p1 = 9 then (X11_tilesAll M_1).bind (fun r_11 => some (r_11, M_1)) else (if p1 ≤ 4 then gG (gin p1 9) (some ((M_1.1 52 2 (Int32.toNatClampNeg p1)), M_1)) else gG (gin ((1057 + p1) - 5) 1242) (some ((M_1.1 52 8 (Int32.toNatClampNeg ((1057 + p1) - 5))), M_1))))))))
theorem k_X11_rule {G : gG5} {nf : Nat} {M : gM} {p1 : Int32} {r : Int32} {M1 : gM} (hr : X11_rule p1 M = some (r, M1)) : gMet G (gXn nf) yX11_rule cX11_rule 2 (some .int) 2 40 M [.ref (gad 50 0), .int p1] (some (.int r)) M1 := by
  refine gMet_of pl_X11 rfl (Nat.le_of_ble_eq_true rfl) (fun Ψ C CR => ?_)
  show Ψ M 0 [(0, .ref (gad 50 0)), (1, .int p1)] []
  refine r_aload_n (pc := 0) C dX11_rule_0 rfl 0 rfl ?_
  refine r_iconst (pc := 1) C dX11_rule_1 ki0 ?_
  obtain ⟨M_1, eM_1, hr⟩ := gLet_some hr
  refine p50_0 (pc := 2) C dX11_rule_2 q1400 (e50 nf) eM_1 ?_
  refine r_aload_n (pc := 5) C dX11_rule_5 rfl 0 rfl ?_
  refine g50_16 (pc := 6) C dX11_rule_6 q1416 (e50 nf) ?_
  refine r_if_eq (pc := 9) (tgt := 24) C dX11_rule_9 rfl (fun c_2 => ?_) (fun c_2 => ?_)
  · replace hr := (if_pos c_2).symm.trans hr
    refine r_iconst (pc := 24) C dX11_rule_24 kim1 ?_
    exact r_iret (pc := 25) CR dX11_rule_25 (congrArg (fun z => some (Value.int z)) (Prod.mk.inj (gSome hr)).1) (Prod.mk.inj (gSome hr)).2
  · replace hr := (if_neg c_2).symm.trans hr
    refine r_iload_n (pc := 12) C dX11_rule_12 rfl 1 rfl ?_
    refine r_i2l (pc := 13) C dX11_rule_13 ?_
    refine r_lconst (pc := 14) (v := 0) C dX11_rule_14 rfl ?_
    refine r_ldc2 (pc := 15) C dX11_rule_15 q1613 ?_
    obtain ⟨r_4, hc_3, hr⟩ := gBind_some hr
    refine c_X11_isIn (pc := 18) C dX11_rule_18 q1538 ⟨Nat.le_of_ble_eq_true rfl, Nat.le_of_ble_eq_true rfl⟩ hc_3 (Nat.le_of_ble_eq_true rfl) ?_
    refine r_if_ne (pc := 21) (tgt := 26) C dX11_rule_21 rfl (fun c_5 => ?_) (fun c_5 => ?_)
    · replace hr := (if_neg c_5).symm.trans hr
      refine r_iload_n (pc := 26) C dX11_rule_26 rfl 1 rfl ?_
      refine r_bipush (pc := 27) C dX11_rule_27 kb9 ?_
      refine r_icmp_ne (pc := 29) (tgt := 39) C dX11_rule_29 rfl (fun c_6 => ?_) (fun c_6 => ?_)
      · replace hr := (if_neg c_6).symm.trans hr
        refine r_iload_n (pc := 39) C dX11_rule_39 rfl 1 rfl ?_
        refine r_iconst (pc := 40) C dX11_rule_40 ki4 ?_
        refine r_icmp_le (pc := 41) (tgt := 59) C dX11_rule_41 rfl (fun c_7 => ?_) (fun c_7 => ?_)
        · replace hr := (if_pos c_7).symm.trans hr
          refine r_aload_n (pc := 59) C dX11_rule_59 rfl 0 rfl ?_
          refine g50_9 (pc := 60) C dX11_rule_60 q1409 (e50 nf) ?_
          refine r_iload_n (pc := 63) C dX11_rule_63 rfl 1 rfl ?_
          obtain ⟨g_8, hr⟩ := gG_some hr
          refine r_ialdN (pc := 64) C dX11_rule_64 rfl (e52 (nf := nf) (by decide)) g_8 rfl ?_
          exact r_iret (pc := 65) CR dX11_rule_65 (congrArg (fun z => some (Value.int z)) (Prod.mk.inj (gSome hr)).1) (Prod.mk.inj (gSome hr)).2
        · replace hr := (if_neg c_7).symm.trans hr
          refine r_aload_n (pc := 44) C dX11_rule_44 rfl 0 rfl ?_
          refine g50_18 (pc := 45) C dX11_rule_45 q1418 (e50 nf) ?_
          refine r_sipush (pc := 48) C dX11_rule_48 ks1057 ?_
          refine r_iload_n (pc := 51) C dX11_rule_51 rfl 1 rfl ?_
          refine r_iadd (pc := 52) C dX11_rule_52 ?_
          refine r_iconst (pc := 53) C dX11_rule_53 ki5 ?_
          refine r_isub (pc := 54) C dX11_rule_54 ?_
          obtain ⟨g_9, hr⟩ := gG_some hr
          refine r_ialdN (pc := 55) C dX11_rule_55 rfl (e52 (nf := nf) (by decide)) g_9 rfl ?_
          refine r_goto (pc := 56) (tgt := 65) C dX11_rule_56 rfl ?_
          exact r_iret (pc := 65) CR dX11_rule_65 (congrArg (fun z => some (Value.int z)) (Prod.mk.inj (gSome hr)).1) (Prod.mk.inj (gSome hr)).2
      · replace hr := (if_pos c_6).symm.trans hr
        refine r_aload_n (pc := 32) C dX11_rule_32 rfl 0 rfl ?_
        obtain ⟨r_11, hc_10, hr⟩ := gBind_some hr
        refine c_X11_tilesAll (pc := 33) C dX11_rule_33 q1663 ⟨Nat.le_of_ble_eq_true rfl, Nat.le_of_ble_eq_true rfl⟩ hc_10 (Nat.le_of_ble_eq_true rfl) ?_
        refine r_goto (pc := 36) (tgt := 65) C dX11_rule_36 rfl ?_
        exact r_iret (pc := 65) CR dX11_rule_65 (congrArg (fun z => some (Value.int z)) (Prod.mk.inj (gSome hr)).1) (Prod.mk.inj (gSome hr)).2
    · replace hr := (if_pos c_5).symm.trans hr
      refine r_iconst (pc := 24) C dX11_rule_24 kim1 ?_
      exact r_iret (pc := 25) CR dX11_rule_25 (congrArg (fun z => some (Value.int z)) (Prod.mk.inj (gSome hr)).1) (Prod.mk.inj (gSome hr)).2
theorem c_X11_rule {Ψ : gM → Nat → List (Nat × Value) → List Value → Prop} {G : gG5} {nf : Nat} {cc : ByteArray} {own : String} {nL : Nat} {ret : Option FieldType} {fr lo : Nat} {v0 : Option Value} {M0 M : gM} {pc index : Nat} {ls : List (Nat × Value)} {st : List Value} (C : gC Ψ G (gXn nf) cc own nL ret fr lo v0 M0) (d : decode cc pc = .ok (.invokevirtual index, 3)) (hl : Cond.methodLink own index yX11_rule ∈ gws) (hR : 3 ≤ fr ∧ 61 ≤ lo) {p1 : Int32} {r : Int32} {M1 : gM} (hr : X11_rule p1 M = some (r, M1)) (hcat : (st.map fun v => v.category).sum ≤ 8) (k : Ψ M1 (pc + 3) ls (.int r :: st)) : Ψ M pc ls (.int p1 :: .ref (gad 50 0) :: st) := r_callV C [.int p1] st d (k_X11_rule hr) hl q1883 q1884 q127 q1885 hd_X11_rule hR rfl (by decide) (e50 nf) rfl hcat k
theorem hd_X11_isPixel : yX11_isPixel.cls ≠ "java/lang/invoke/MethodHandle" ∧ yX11_isPixel.cls ≠ "java/lang/invoke/VarHandle" ∧ (parseMethodDescriptor yX11_isPixel.desc).map (fun d => d.parameters.length) = some 2 := by decide +kernel
noncomputable def X11_isPixel (p1 : Int32) (p2 : Int32) (M : gM) : Option Int32 := (if (M.1 50 0 16) ≤ 0 then some 0 else (X11_isIn (Int32.toInt64 p1) 0 (Int32.toInt64 ((M.1 52 2 0) - 1)) M).bind (fun r_3 => (if r_3 = 0 then some 0 else (X11_isIn (Int32.toInt64 p2) 0 (Int32.toInt64 ((M.1 52 2 1) - 1)) M).bind (fun r_6 => (if r_6 = 0 then some 0 else some 1)))))
theorem k_X11_isPixel {G : gG5} {nf : Nat} {M : gM} {p1 : Int32} {p2 : Int32} {r : Int32} (hr : X11_isPixel p1 p2 M = some r) : gMet G (gXn nf) yX11_isPixel cX11_isPixel 3 (some .boolean) 1 25 M [.ref (gad 50 0), .int p1, .int p2] (some (.int r)) M := by
  refine gMet_of pl_X11 rfl (Nat.le_of_ble_eq_true rfl) (fun Ψ C CR => ?_)
  show Ψ M 0 [(0, .ref (gad 50 0)), (1, .int p1), (2, .int p2)] []
  refine r_aload_n (pc := 0) C dX11_isPixel_0 rfl 0 rfl ?_
  refine g50_16 (pc := 1) C dX11_isPixel_1 q1416 (e50 nf) ?_
  refine r_if_le (pc := 4) (tgt := 47) C dX11_isPixel_4 rfl (fun c_1 => ?_) (fun c_1 => ?_)
  · replace hr := (if_pos c_1).symm.trans hr
    refine r_iconst (pc := 47) C dX11_isPixel_47 ki0 ?_
    exact r_zret (pc := 48) CR dX11_isPixel_48 rfl (congrArg (fun z => some (Value.int z)) (gSome hr)) rfl
  · replace hr := (if_neg c_1).symm.trans hr
    refine r_iload_n (pc := 7) C dX11_isPixel_7 rfl 1 rfl ?_
    refine r_i2l (pc := 8) C dX11_isPixel_8 ?_
    refine r_lconst (pc := 9) (v := 0) C dX11_isPixel_9 rfl ?_
    refine r_aload_n (pc := 10) C dX11_isPixel_10 rfl 0 rfl ?_
    refine g50_9 (pc := 11) C dX11_isPixel_11 q1409 (e50 nf) ?_
    refine r_iconst (pc := 14) C dX11_isPixel_14 ki0 ?_
    refine r_ialdN (pc := 15) C dX11_isPixel_15 rfl (e52 (nf := nf) (by decide)) (by decide : gin 0 9 = true) kc0 ?_
    refine r_iconst (pc := 16) C dX11_isPixel_16 ki1 ?_
    refine r_isub (pc := 17) C dX11_isPixel_17 ?_
    refine r_i2l (pc := 18) C dX11_isPixel_18 ?_
    obtain ⟨r_3, hc_2, hr⟩ := gBind_some hr
    refine c_X11_isIn (pc := 19) C dX11_isPixel_19 q1538 ⟨Nat.le_of_ble_eq_true rfl, Nat.le_of_ble_eq_true rfl⟩ hc_2 (Nat.le_of_ble_eq_true rfl) ?_
    refine r_if_eq (pc := 22) (tgt := 47) C dX11_isPixel_22 rfl (fun c_4 => ?_) (fun c_4 => ?_)
    · replace hr := (if_pos c_4).symm.trans hr
      refine r_iconst (pc := 47) C dX11_isPixel_47 ki0 ?_
      exact r_zret (pc := 48) CR dX11_isPixel_48 rfl (congrArg (fun z => some (Value.int z)) (gSome hr)) rfl
    · replace hr := (if_neg c_4).symm.trans hr
      refine r_iload_n (pc := 25) C dX11_isPixel_25 rfl 2 rfl ?_
      refine r_i2l (pc := 26) C dX11_isPixel_26 ?_
      refine r_lconst (pc := 27) (v := 0) C dX11_isPixel_27 rfl ?_
      refine r_aload_n (pc := 28) C dX11_isPixel_28 rfl 0 rfl ?_
      refine g50_9 (pc := 29) C dX11_isPixel_29 q1409 (e50 nf) ?_
      refine r_iconst (pc := 32) C dX11_isPixel_32 ki1 ?_
      refine r_ialdN (pc := 33) C dX11_isPixel_33 rfl (e52 (nf := nf) (by decide)) (by decide : gin 1 9 = true) kc1 ?_
      refine r_iconst (pc := 34) C dX11_isPixel_34 ki1 ?_
      refine r_isub (pc := 35) C dX11_isPixel_35 ?_
      refine r_i2l (pc := 36) C dX11_isPixel_36 ?_
      obtain ⟨r_6, hc_5, hr⟩ := gBind_some hr
      refine c_X11_isIn (pc := 37) C dX11_isPixel_37 q1538 ⟨Nat.le_of_ble_eq_true rfl, Nat.le_of_ble_eq_true rfl⟩ hc_5 (Nat.le_of_ble_eq_true rfl) ?_
      refine r_if_eq (pc := 40) (tgt := 47) C dX11_isPixel_40 rfl (fun c_7 => ?_) (fun c_7 => ?_)
      · replace hr := (if_pos c_7).symm.trans hr
        refine r_iconst (pc := 47) C dX11_isPixel_47 ki0 ?_
        exact r_zret (pc := 48) CR dX11_isPixel_48 rfl (congrArg (fun z => some (Value.int z)) (gSome hr)) rfl
      · replace hr := (if_neg c_7).symm.trans hr
        refine r_iconst (pc := 43) C dX11_isPixel_43 ki1 ?_
        refine r_goto (pc := 44) (tgt := 48) C dX11_isPixel_44 rfl ?_
        exact r_zret (pc := 48) CR dX11_isPixel_48 rfl (congrArg (fun z => some (Value.int z)) (gSome hr)) rfl
theorem c_X11_isPixel {Ψ : gM → Nat → List (Nat × Value) → List Value → Prop} {G : gG5} {nf : Nat} {cc : ByteArray} {own : String} {nL : Nat} {ret : Option FieldType} {fr lo : Nat} {v0 : Option Value} {M0 M : gM} {pc index : Nat} {ls : List (Nat × Value)} {st : List Value} (C : gC Ψ G (gXn nf) cc own nL ret fr lo v0 M0) (d : decode cc pc = .ok (.invokevirtual index, 3)) (hl : Cond.methodLink own index yX11_isPixel ∈ gws) (hR : 2 ≤ fr ∧ 47 ≤ lo) {p1 : Int32} {p2 : Int32} {r : Int32} (hr : X11_isPixel p1 p2 M = some r) (hcat : (st.map fun v => v.category).sum ≤ 8) (k : Ψ M (pc + 3) ls (.int r :: st)) : Ψ M pc ls (.int p2 :: .int p1 :: .ref (gad 50 0) :: st) := r_callV C [.int p1, .int p2] st d (k_X11_isPixel hr) hl q1929 q100 q127 q1930 hd_X11_isPixel hR rfl (by decide) (e50 nf) rfl hcat k
theorem hd_X11_isSample : yX11_isSample.cls ≠ "java/lang/invoke/MethodHandle" ∧ yX11_isSample.cls ≠ "java/lang/invoke/VarHandle" ∧ (parseMethodDescriptor yX11_isSample.desc).map (fun d => d.parameters.length) = some 3 := by decide +kernel
noncomputable def X11_isSample (p1 : Int32) (p2 : Int32) (p3 : Int32) (M : gM) : Option Int32 := (X11_isPixel p1 p2 M).bind (fun r_2 => (if r_2 = 0 then some 0 else (X11_isIn (Int32.toInt64 p3) 0 (Int32.toInt64 ((M.1 52 2 3) - 1)) M).bind (fun r_5 => (if r_5 = 0 then some 0 else some 1))))
theorem k_X11_isSample {G : gG5} {nf : Nat} {M : gM} {p1 : Int32} {p2 : Int32} {p3 : Int32} {r : Int32} (hr : X11_isSample p1 p2 p3 M = some r) : gMet G (gXn nf) yX11_isSample cX11_isSample 4 (some .boolean) 2 47 M [.ref (gad 50 0), .int p1, .int p2, .int p3] (some (.int r)) M := by
  refine gMet_of pl_X11 rfl (Nat.le_of_ble_eq_true rfl) (fun Ψ C CR => ?_)
  show Ψ M 0 [(0, .ref (gad 50 0)), (1, .int p1), (2, .int p2), (3, .int p3)] []
  refine r_aload_n (pc := 0) C dX11_isSample_0 rfl 0 rfl ?_
  refine r_iload_n (pc := 1) C dX11_isSample_1 rfl 1 rfl ?_
  refine r_iload_n (pc := 2) C dX11_isSample_2 rfl 2 rfl ?_
  obtain ⟨r_2, hc_1, hr⟩ := gBind_some hr
  refine c_X11_isPixel (pc := 3) C dX11_isSample_3 q1927 ⟨Nat.le_of_ble_eq_true rfl, Nat.le_of_ble_eq_true rfl⟩ hc_1 (Nat.le_of_ble_eq_true rfl) ?_
  refine r_if_eq (pc := 6) (tgt := 31) C dX11_isSample_6 rfl (fun c_3 => ?_) (fun c_3 => ?_)
  · replace hr := (if_pos c_3).symm.trans hr
    refine r_iconst (pc := 31) C dX11_isSample_31 ki0 ?_
    exact r_zret (pc := 32) CR dX11_isSample_32 rfl (congrArg (fun z => some (Value.int z)) (gSome hr)) rfl
  · replace hr := (if_neg c_3).symm.trans hr
    refine r_iload_n (pc := 9) C dX11_isSample_9 rfl 3 rfl ?_
    refine r_i2l (pc := 10) C dX11_isSample_10 ?_
    refine r_lconst (pc := 11) (v := 0) C dX11_isSample_11 rfl ?_
    refine r_aload_n (pc := 12) C dX11_isSample_12 rfl 0 rfl ?_
    refine g50_9 (pc := 13) C dX11_isSample_13 q1409 (e50 nf) ?_
    refine r_iconst (pc := 16) C dX11_isSample_16 ki3 ?_
    refine r_ialdN (pc := 17) C dX11_isSample_17 rfl (e52 (nf := nf) (by decide)) (by decide : gin 3 9 = true) kc3 ?_
    refine r_iconst (pc := 18) C dX11_isSample_18 ki1 ?_
    refine r_isub (pc := 19) C dX11_isSample_19 ?_
    refine r_i2l (pc := 20) C dX11_isSample_20 ?_
    obtain ⟨r_5, hc_4, hr⟩ := gBind_some hr
    refine c_X11_isIn (pc := 21) C dX11_isSample_21 q1538 ⟨Nat.le_of_ble_eq_true rfl, Nat.le_of_ble_eq_true rfl⟩ hc_4 (Nat.le_of_ble_eq_true rfl) ?_
    refine r_if_eq (pc := 24) (tgt := 31) C dX11_isSample_24 rfl (fun c_6 => ?_) (fun c_6 => ?_)
    · replace hr := (if_pos c_6).symm.trans hr
      refine r_iconst (pc := 31) C dX11_isSample_31 ki0 ?_
      exact r_zret (pc := 32) CR dX11_isSample_32 rfl (congrArg (fun z => some (Value.int z)) (gSome hr)) rfl
    · replace hr := (if_neg c_6).symm.trans hr
      refine r_iconst (pc := 27) C dX11_isSample_27 ki1 ?_
      refine r_goto (pc := 28) (tgt := 32) C dX11_isSample_28 rfl ?_
      exact r_zret (pc := 32) CR dX11_isSample_32 rfl (congrArg (fun z => some (Value.int z)) (gSome hr)) rfl
theorem c_X11_isSample {Ψ : gM → Nat → List (Nat × Value) → List Value → Prop} {G : gG5} {nf : Nat} {cc : ByteArray} {own : String} {nL : Nat} {ret : Option FieldType} {fr lo : Nat} {v0 : Option Value} {M0 M : gM} {pc index : Nat} {ls : List (Nat × Value)} {st : List Value} (C : gC Ψ G (gXn nf) cc own nL ret fr lo v0 M0) (d : decode cc pc = .ok (.invokevirtual index, 3)) (hl : Cond.methodLink own index yX11_isSample ∈ gws) (hR : 3 ≤ fr ∧ 70 ≤ lo) {p1 : Int32} {p2 : Int32} {p3 : Int32} {r : Int32} (hr : X11_isSample p1 p2 p3 M = some r) (hcat : (st.map fun v => v.category).sum ≤ 8) (k : Ψ M (pc + 3) ls (.int r :: st)) : Ψ M pc ls (.int p3 :: .int p2 :: .int p1 :: .ref (gad 50 0) :: st) := r_callV C [.int p1, .int p2, .int p3] st d (k_X11_isSample hr) hl q1937 q101 q127 q1938 hd_X11_isSample hR rfl (by decide) (e50 nf) rfl hcat k
theorem hd_X11_coversSample : yX11_coversSample.cls ≠ "java/lang/invoke/MethodHandle" ∧ yX11_coversSample.cls ≠ "java/lang/invoke/VarHandle" ∧ (parseMethodDescriptor yX11_coversSample.desc).map (fun d => d.parameters.length) = some 3 := by decide +kernel
noncomputable def X11_coversSample (p1 : Int32) (p2 : Int32) (p3 : Int32) (M : gM) : Option Int32 := (X11_sampleX p3 M).bind (fun r_2 => (X11_sampleY p3 M).bind (fun r_4 => (X11_covers ((8 * p1) + r_2) ((8 * p2) + r_4) M).bind (fun r_6 => gG (gb r_6) (some r_6))))
theorem k_X11_coversSample {G : gG5} {nf : Nat} {M : gM} {p1 : Int32} {p2 : Int32} {p3 : Int32} {r : Int32} (hr : X11_coversSample p1 p2 p3 M = some r) : gMet G (gXn nf) yX11_coversSample cX11_coversSample 4 (some .boolean) 2 50 M [.ref (gad 50 0), .int p1, .int p2, .int p3] (some (.int r)) M := by
  refine gMet_of pl_X11 rfl (Nat.le_of_ble_eq_true rfl) (fun Ψ C CR => ?_)
  show Ψ M 0 [(0, .ref (gad 50 0)), (1, .int p1), (2, .int p2), (3, .int p3)] []
  refine r_aload_n (pc := 0) C dX11_coversSample_0 rfl 0 rfl ?_
  refine r_bipush (pc := 1) C dX11_coversSample_1 kb8 ?_
  refine r_iload_n (pc := 3) C dX11_coversSample_3 rfl 1 rfl ?_
  refine r_imul (pc := 4) C dX11_coversSample_4 ?_
  refine r_aload_n (pc := 5) C dX11_coversSample_5 rfl 0 rfl ?_
  refine r_iload_n (pc := 6) C dX11_coversSample_6 rfl 3 rfl ?_
  obtain ⟨r_2, hc_1, hr⟩ := gBind_some hr
  refine c_X11_sampleX (pc := 7) C dX11_coversSample_7 q1735 ⟨Nat.le_of_ble_eq_true rfl, Nat.le_of_ble_eq_true rfl⟩ hc_1 (Nat.le_of_ble_eq_true rfl) ?_
  refine r_iadd (pc := 10) C dX11_coversSample_10 ?_
  refine r_bipush (pc := 11) C dX11_coversSample_11 kb8 ?_
  refine r_iload_n (pc := 13) C dX11_coversSample_13 rfl 2 rfl ?_
  refine r_imul (pc := 14) C dX11_coversSample_14 ?_
  refine r_aload_n (pc := 15) C dX11_coversSample_15 rfl 0 rfl ?_
  refine r_iload_n (pc := 16) C dX11_coversSample_16 rfl 3 rfl ?_
  obtain ⟨r_4, hc_3, hr⟩ := gBind_some hr
  refine c_X11_sampleY (pc := 17) C dX11_coversSample_17 q1739 ⟨Nat.le_of_ble_eq_true rfl, Nat.le_of_ble_eq_true rfl⟩ hc_3 (Nat.le_of_ble_eq_true rfl) ?_
  refine r_iadd (pc := 20) C dX11_coversSample_20 ?_
  obtain ⟨r_6, hc_5, hr⟩ := gBind_some hr
  refine c_X11_covers (pc := 21) C dX11_coversSample_21 q1743 ⟨Nat.le_of_ble_eq_true rfl, Nat.le_of_ble_eq_true rfl⟩ hc_5 (Nat.le_of_ble_eq_true rfl) ?_
  obtain ⟨g_7, hr⟩ := gG_some hr
  exact r_zret (pc := 24) CR dX11_coversSample_24 (gb_nar g_7) (congrArg (fun z => some (Value.int z)) (gSome hr)) rfl
theorem c_X11_coversSample {Ψ : gM → Nat → List (Nat × Value) → List Value → Prop} {G : gG5} {nf : Nat} {cc : ByteArray} {own : String} {nL : Nat} {ret : Option FieldType} {fr lo : Nat} {v0 : Option Value} {M0 M : gM} {pc index : Nat} {ls : List (Nat × Value)} {st : List Value} (C : gC Ψ G (gXn nf) cc own nL ret fr lo v0 M0) (d : decode cc pc = .ok (.invokevirtual index, 3)) (hl : Cond.methodLink own index yX11_coversSample ∈ gws) (hR : 3 ≤ fr ∧ 73 ≤ lo) {p1 : Int32} {p2 : Int32} {p3 : Int32} {r : Int32} (hr : X11_coversSample p1 p2 p3 M = some r) (hcat : (st.map fun v => v.category).sum ≤ 8) (k : Ψ M (pc + 3) ls (.int r :: st)) : Ψ M pc ls (.int p3 :: .int p2 :: .int p1 :: .ref (gad 50 0) :: st) := r_callV C [.int p1, .int p2, .int p3] st d (k_X11_coversSample hr) hl q1909 q98 q127 q1910 hd_X11_coversSample hR rfl (by decide) (e50 nf) rfl hcat k
theorem hd_X11_maskOf : yX11_maskOf.cls ≠ "java/lang/invoke/MethodHandle" ∧ yX11_maskOf.cls ≠ "java/lang/invoke/VarHandle" ∧ (parseMethodDescriptor yX11_maskOf.desc).map (fun d => d.parameters.length) = some 2 := by decide +kernel
noncomputable def X11_maskOf_L5 (x1 : Int32) (x2 : Int32) (x3 : Int32) (x4 : Int32) (M : gM) : Option ((Int32 × Int32) ⊕ Int32) := (if (M.1 52 2 3) ≤ x4 then some (.inr x3) else (X11_coversSample x1 x2 x4 M).bind (fun r_3 => (if r_3 = 0 then gLet ((x3 ||| 0)) (fun x3_5 => gLet (x4 + 1) (fun x4_6 => some (.inl (x3_5, x4_6)))) else gLet ((x3 ||| (1 <<< (x4 &&& 31)))) (fun x3_7 => gLet (x4 + 1) (fun x4_8 => some (.inl (x3_7, x4_8)))))))
theorem t_X11_maskOf_L5 {Ψ : gM → Nat → List (Nat × Value) → List Value → Prop} {G : gG5} {nf : Nat} {M : gM} {v0 : Option Value} {M0 : gM} {x1 : Int32} {x2 : Int32} {x3 : Int32} {x4 : Int32} {w : ((Int32 × Int32) ⊕ Int32)} (C : gC Ψ G (gXn nf) cX11_maskOf RX11 5 (some .int) 3 73 v0 M0) (hr : X11_maskOf_L5 x1 x2 x3 x4 M = some w) (hn : ∀ s, w = .inl s → Ψ M 5 [(0, .ref (gad 50 0)), (1, .int x1), (2, .int x2), (3, .int (s.1)), (4, .int (s.2))] []) (hx : ∀ e, w = .inr e → (fun e => Ψ M 44 [(3, .int e)] []) e) : Ψ M 5 [(0, .ref (gad 50 0)), (1, .int x1), (2, .int x2), (3, .int x3), (4, .int x4)] [] := by
  refine r_iload (pc := 5) C dX11_maskOf_5 4 rfl ?_
  refine r_aload_n (pc := 7) C dX11_maskOf_7 rfl 0 rfl ?_
  refine g50_9 (pc := 8) C dX11_maskOf_8 q1409 (e50 nf) ?_
  refine r_iconst (pc := 11) C dX11_maskOf_11 ki3 ?_
  refine r_ialdN (pc := 12) C dX11_maskOf_12 rfl (e52 (nf := nf) (by decide)) (by decide : gin 3 9 = true) kc3 ?_
  refine r_icmp_ge (pc := 13) (tgt := 44) C dX11_maskOf_13 rfl (fun c_1 => ?_) (fun c_1 => ?_)
  · replace hr := (if_pos c_1).symm.trans hr
    refine r_sub C [3] (ls' := [(3, .int x3)]) rfl ?_
    exact hx x3 (gSome hr)
  · replace hr := (if_neg c_1).symm.trans hr
    refine r_iload_n (pc := 16) C dX11_maskOf_16 rfl 3 rfl ?_
    refine r_aload_n (pc := 17) C dX11_maskOf_17 rfl 0 rfl ?_
    refine r_iload_n (pc := 18) C dX11_maskOf_18 rfl 1 rfl ?_
    refine r_iload_n (pc := 19) C dX11_maskOf_19 rfl 2 rfl ?_
    refine r_iload (pc := 20) C dX11_maskOf_20 4 rfl ?_
    obtain ⟨r_3, hc_2, hr⟩ := gBind_some hr
    refine c_X11_coversSample (pc := 22) C dX11_maskOf_22 q1907 ⟨Nat.le_of_ble_eq_true rfl, Nat.le_of_ble_eq_true rfl⟩ hc_2 (Nat.le_of_ble_eq_true rfl) ?_
    refine r_if_eq (pc := 25) (tgt := 35) C dX11_maskOf_25 rfl (fun c_4 => ?_) (fun c_4 => ?_)
    · replace hr := (if_pos c_4).symm.trans hr
      refine r_iconst (pc := 35) C dX11_maskOf_35 ki0 ?_
      refine r_ior (pc := 36) C dX11_maskOf_36 ?_
      obtain ⟨x3_5, ex3_5, hr⟩ := gLet_some hr
      refine r_istore_n (pc := 37) C dX11_maskOf_37 rfl (by decide) ex3_5 (ls' := [(3, .int x3_5), (0, .ref (gad 50 0)), (1, .int x1), (2, .int x2), (4, .int x4)]) rfl ?_
      obtain ⟨x4_6, ex4_6, hr⟩ := gLet_some hr
      refine r_iinc (pc := 38) C dX11_maskOf_38 4 rfl rfl (by decide) ex4_6 (ls' := [(4, .int x4_6), (3, .int x3_5), (0, .ref (gad 50 0)), (1, .int x1), (2, .int x2)]) rfl ?_
      refine r_goto (pc := 41) (tgt := 5) C dX11_maskOf_41 rfl ?_
      refine r_sub C [2, 3, 4, 1, 0] (ls' := [(0, .ref (gad 50 0)), (1, .int x1), (2, .int x2), (3, .int x3_5), (4, .int x4_6)]) rfl ?_
      exact hn (x3_5, x4_6) (gSome hr)
    · replace hr := (if_neg c_4).symm.trans hr
      refine r_iconst (pc := 28) C dX11_maskOf_28 ki1 ?_
      refine r_iload (pc := 29) C dX11_maskOf_29 4 rfl ?_
      refine r_ishl (pc := 31) C dX11_maskOf_31 ?_
      refine r_goto (pc := 32) (tgt := 36) C dX11_maskOf_32 rfl ?_
      refine r_ior (pc := 36) C dX11_maskOf_36 ?_
      obtain ⟨x3_7, ex3_7, hr⟩ := gLet_some hr
      refine r_istore_n (pc := 37) C dX11_maskOf_37 rfl (by decide) ex3_7 (ls' := [(3, .int x3_7), (0, .ref (gad 50 0)), (1, .int x1), (2, .int x2), (4, .int x4)]) rfl ?_
      obtain ⟨x4_8, ex4_8, hr⟩ := gLet_some hr
      refine r_iinc (pc := 38) C dX11_maskOf_38 4 rfl rfl (by decide) ex4_8 (ls' := [(4, .int x4_8), (3, .int x3_7), (0, .ref (gad 50 0)), (1, .int x1), (2, .int x2)]) rfl ?_
      refine r_goto (pc := 41) (tgt := 5) C dX11_maskOf_41 rfl ?_
      refine r_sub C [2, 3, 4, 1, 0] (ls' := [(0, .ref (gad 50 0)), (1, .int x1), (2, .int x2), (3, .int x3_7), (4, .int x4_8)]) rfl ?_
      exact hn (x3_7, x4_8) (gSome hr)
noncomputable def X11_maskOf (p1 : Int32) (p2 : Int32) (M : gM) : Option Int32 := (gIter (fun s => X11_maskOf_L5 p1 p2 s.1 s.2 M) FU (0, 0)).bind (fun x3_9 => some x3_9)
theorem k_X11_maskOf {G : gG5} {nf : Nat} {M : gM} {p1 : Int32} {p2 : Int32} {r : Int32} (hr : X11_maskOf p1 p2 M = some r) : gMet G (gXn nf) yX11_maskOf cX11_maskOf 5 (some .int) 3 73 M [.ref (gad 50 0), .int p1, .int p2] (some (.int r)) M := by
  refine gMet_of pl_X11 rfl (Nat.le_of_ble_eq_true rfl) (fun Ψ C CR => ?_)
  show Ψ M 0 [(0, .ref (gad 50 0)), (1, .int p1), (2, .int p2)] []
  refine r_iconst (pc := 0) C dX11_maskOf_0 ki0 ?_
  refine r_istore_n (pc := 1) C dX11_maskOf_1 rfl (by decide) rfl (ls' := [(3, .int 0), (0, .ref (gad 50 0)), (1, .int p1), (2, .int p2)]) rfl ?_
  refine r_iconst (pc := 2) C dX11_maskOf_2 ki0 ?_
  refine r_istore (pc := 3) C dX11_maskOf_3 (by decide) rfl (ls' := [(4, .int 0), (3, .int 0), (0, .ref (gad 50 0)), (1, .int p1), (2, .int p2)]) rfl ?_
  refine r_sub C [2, 3, 4, 1, 0] (ls' := [(0, .ref (gad 50 0)), (1, .int p1), (2, .int p2), (3, .int 0), (4, .int 0)]) rfl ?_
  obtain ⟨ev, hit, hr⟩ := gBind_some hr
  refine gIter_V (step := fun s => X11_maskOf_L5 p1 p2 s.1 s.2 M) (P := fun s => Ψ M 5 [(0, .ref (gad 50 0)), (1, .int p1), (2, .int p2), (3, .int (s.1)), (4, .int (s.2))] []) (K := (fun e => Ψ M 44 [(3, .int e)] [])) (fun s w hs hn hx => t_X11_maskOf_L5 C  hs hn hx) FU (0, 0) ev hit ?_
  obtain ⟨x3_9, rfl⟩ : ∃ z, z = ev := ⟨_, rfl⟩
  show Ψ M 44 [(3, .int x3_9)] []
  refine r_iload_n (pc := 44) C dX11_maskOf_44 rfl 0 rfl ?_
  exact r_iret (pc := 45) CR dX11_maskOf_45 (congrArg (fun z => some (Value.int z)) (gSome hr)) rfl
theorem c_X11_maskOf {Ψ : gM → Nat → List (Nat × Value) → List Value → Prop} {G : gG5} {nf : Nat} {cc : ByteArray} {own : String} {nL : Nat} {ret : Option FieldType} {fr lo : Nat} {v0 : Option Value} {M0 M : gM} {pc index : Nat} {ls : List (Nat × Value)} {st : List Value} (C : gC Ψ G (gXn nf) cc own nL ret fr lo v0 M0) (d : decode cc pc = .ok (.invokevirtual index, 3)) (hl : Cond.methodLink own index yX11_maskOf ∈ gws) (hR : 4 ≤ fr ∧ 97 ≤ lo) {p1 : Int32} {p2 : Int32} {r : Int32} (hr : X11_maskOf p1 p2 M = some r) (hcat : (st.map fun v => v.category).sum ≤ 8) (k : Ψ M (pc + 3) ls (.int r :: st)) : Ψ M pc ls (.int p2 :: .int p1 :: .ref (gad 50 0) :: st) := r_callV C [.int p1, .int p2] st d (k_X11_maskOf hr) hl q1905 q97 q127 q1906 hd_X11_maskOf hR rfl (by decide) (e50 nf) rfl hcat k
theorem hd_X11_covered : yX11_covered.cls ≠ "java/lang/invoke/MethodHandle" ∧ yX11_covered.cls ≠ "java/lang/invoke/VarHandle" ∧ (parseMethodDescriptor yX11_covered.desc).map (fun d => d.parameters.length) = some 0 := by decide +kernel
noncomputable def X11_covered_L16 (x2 : Int32) (x1 : Int32) (x3 : Int32) (M : gM) : Option ((Int32 × Int32) ⊕ Int32) := (if (M.1 52 2 0) ≤ x3 then some (.inr x1) else (X11_maskOf x3 x2 M).bind (fun r_4 => (X11_size r_4 M).bind (fun r_6 => gLet ((x1 + r_6)) (fun x1_7 => gLet (x3 + 1) (fun x3_8 => some (.inl (x1_7, x3_8)))))))
theorem t_X11_covered_L16 {Ψ : gM → Nat → List (Nat × Value) → List Value → Prop} {G : gG5} {nf : Nat} {M : gM} {v0 : Option Value} {M0 : gM} {x2 : Int32} {x1 : Int32} {x3 : Int32} {w : ((Int32 × Int32) ⊕ Int32)} (C : gC Ψ G (gXn nf) cX11_covered RX11 4 (some .int) 4 97 v0 M0) (hr : X11_covered_L16 x2 x1 x3 M = some w) (hn : ∀ s, w = .inl s → Ψ M 16 [(0, .ref (gad 50 0)), (1, .int (s.1)), (2, .int x2), (3, .int (s.2))] []) (hx : ∀ e, w = .inr e → (fun e => Ψ M 44 [(0, .ref (gad 50 0)), (1, .int e), (2, .int x2)] []) e) : Ψ M 16 [(0, .ref (gad 50 0)), (1, .int x1), (2, .int x2), (3, .int x3)] [] := by
  refine r_iload_n (pc := 16) C dX11_covered_16 rfl 3 rfl ?_
  refine r_aload_n (pc := 17) C dX11_covered_17 rfl 0 rfl ?_
  refine g50_9 (pc := 18) C dX11_covered_18 q1409 (e50 nf) ?_
  refine r_iconst (pc := 21) C dX11_covered_21 ki0 ?_
  refine r_ialdN (pc := 22) C dX11_covered_22 rfl (e52 (nf := nf) (by decide)) (by decide : gin 0 9 = true) kc0 ?_
  refine r_icmp_ge (pc := 23) (tgt := 44) C dX11_covered_23 rfl (fun c_2 => ?_) (fun c_2 => ?_)
  · replace hr := (if_pos c_2).symm.trans hr
    refine r_sub C [0, 1, 2] (ls' := [(0, .ref (gad 50 0)), (1, .int x1), (2, .int x2)]) rfl ?_
    exact hx x1 (gSome hr)
  · replace hr := (if_neg c_2).symm.trans hr
    refine r_iload_n (pc := 26) C dX11_covered_26 rfl 1 rfl ?_
    refine r_aload_n (pc := 27) C dX11_covered_27 rfl 0 rfl ?_
    refine r_iload_n (pc := 28) C dX11_covered_28 rfl 3 rfl ?_
    refine r_iload_n (pc := 29) C dX11_covered_29 rfl 2 rfl ?_
    obtain ⟨r_4, hc_3, hr⟩ := gBind_some hr
    refine c_X11_maskOf (pc := 30) C dX11_covered_30 q1903 ⟨Nat.le_of_ble_eq_true rfl, Nat.le_of_ble_eq_true rfl⟩ hc_3 (Nat.le_of_ble_eq_true rfl) ?_
    obtain ⟨r_6, hc_5, hr⟩ := gBind_some hr
    refine c_X11_size (pc := 33) C dX11_covered_33 q1780 ⟨Nat.le_of_ble_eq_true rfl, Nat.le_of_ble_eq_true rfl⟩ hc_5 (Nat.le_of_ble_eq_true rfl) ?_
    refine r_iadd (pc := 36) C dX11_covered_36 ?_
    obtain ⟨x1_7, ex1_7, hr⟩ := gLet_some hr
    refine r_istore_n (pc := 37) C dX11_covered_37 rfl (by decide) ex1_7 (ls' := [(1, .int x1_7), (0, .ref (gad 50 0)), (2, .int x2), (3, .int x3)]) rfl ?_
    obtain ⟨x3_8, ex3_8, hr⟩ := gLet_some hr
    refine r_iinc (pc := 38) C dX11_covered_38 3 rfl rfl (by decide) ex3_8 (ls' := [(3, .int x3_8), (1, .int x1_7), (0, .ref (gad 50 0)), (2, .int x2)]) rfl ?_
    refine r_goto (pc := 41) (tgt := 16) C dX11_covered_41 rfl ?_
    refine r_sub C [2, 1, 3, 0] (ls' := [(0, .ref (gad 50 0)), (1, .int x1_7), (2, .int x2), (3, .int x3_8)]) rfl ?_
    exact hn (x1_7, x3_8) (gSome hr)
noncomputable def X11_covered_L4 (x1 : Int32) (x2 : Int32) (M : gM) : Option ((Int32 × Int32) ⊕ Int32) := (if (M.1 52 2 1) ≤ x2 then some (.inr x1) else (gIter (fun s => X11_covered_L16 x2 s.1 s.2 M) FU (x1, 0)).bind (fun x1_9 => gLet (x2 + 1) (fun x2_10 => some (.inl (x1_9, x2_10)))))
theorem t_X11_covered_L4 {Ψ : gM → Nat → List (Nat × Value) → List Value → Prop} {G : gG5} {nf : Nat} {M : gM} {v0 : Option Value} {M0 : gM} {x1 : Int32} {x2 : Int32} {w : ((Int32 × Int32) ⊕ Int32)} (C : gC Ψ G (gXn nf) cX11_covered RX11 4 (some .int) 4 97 v0 M0) (hr : X11_covered_L4 x1 x2 M = some w) (hn : ∀ s, w = .inl s → Ψ M 4 [(0, .ref (gad 50 0)), (1, .int (s.1)), (2, .int (s.2))] []) (hx : ∀ e, w = .inr e → (fun e => Ψ M 50 [(1, .int e)] []) e) : Ψ M 4 [(0, .ref (gad 50 0)), (1, .int x1), (2, .int x2)] [] := by
  refine r_iload_n (pc := 4) C dX11_covered_4 rfl 2 rfl ?_
  refine r_aload_n (pc := 5) C dX11_covered_5 rfl 0 rfl ?_
  refine g50_9 (pc := 6) C dX11_covered_6 q1409 (e50 nf) ?_
  refine r_iconst (pc := 9) C dX11_covered_9 ki1 ?_
  refine r_ialdN (pc := 10) C dX11_covered_10 rfl (e52 (nf := nf) (by decide)) (by decide : gin 1 9 = true) kc1 ?_
  refine r_icmp_ge (pc := 11) (tgt := 50) C dX11_covered_11 rfl (fun c_1 => ?_) (fun c_1 => ?_)
  · replace hr := (if_pos c_1).symm.trans hr
    refine r_sub C [1] (ls' := [(1, .int x1)]) rfl ?_
    exact hx x1 (gSome hr)
  · replace hr := (if_neg c_1).symm.trans hr
    refine r_iconst (pc := 14) C dX11_covered_14 ki0 ?_
    refine r_istore_n (pc := 15) C dX11_covered_15 rfl (by decide) rfl (ls' := [(3, .int 0), (0, .ref (gad 50 0)), (1, .int x1), (2, .int x2)]) rfl ?_
    refine r_sub C [1, 2, 3, 0] (ls' := [(0, .ref (gad 50 0)), (1, .int x1), (2, .int x2), (3, .int 0)]) rfl ?_
    obtain ⟨ev, hit, hr⟩ := gBind_some hr
    refine gIter_V (step := fun s => X11_covered_L16 x2 s.1 s.2 M) (P := fun s => Ψ M 16 [(0, .ref (gad 50 0)), (1, .int (s.1)), (2, .int x2), (3, .int (s.2))] []) (K := (fun e => Ψ M 44 [(0, .ref (gad 50 0)), (1, .int e), (2, .int x2)] [])) (fun s w hs hn hx => t_X11_covered_L16 C  hs hn hx) FU (x1, 0) ev hit ?_
    obtain ⟨x1_9, rfl⟩ : ∃ z, z = ev := ⟨_, rfl⟩
    show Ψ M 44 [(0, .ref (gad 50 0)), (1, .int x1_9), (2, .int x2)] []
    obtain ⟨x2_10, ex2_10, hr⟩ := gLet_some hr
    refine r_iinc (pc := 44) C dX11_covered_44 2 rfl rfl (by decide) ex2_10 (ls' := [(2, .int x2_10), (0, .ref (gad 50 0)), (1, .int x1_9)]) rfl ?_
    refine r_goto (pc := 47) (tgt := 4) C dX11_covered_47 rfl ?_
    refine r_sub C [1, 2, 0] (ls' := [(0, .ref (gad 50 0)), (1, .int x1_9), (2, .int x2_10)]) rfl ?_
    exact hn (x1_9, x2_10) (gSome hr)
noncomputable def X11_covered (M : gM) : Option Int32 := (gIter (fun s => X11_covered_L4 s.1 s.2 M) FU (0, 0)).bind (fun x1_11 => some x1_11)
theorem k_X11_covered {G : gG5} {nf : Nat} {M : gM} {r : Int32} (hr : X11_covered M = some r) : gMet G (gXn nf) yX11_covered cX11_covered 4 (some .int) 4 97 M [.ref (gad 50 0)] (some (.int r)) M := by
  refine gMet_of pl_X11 rfl (Nat.le_of_ble_eq_true rfl) (fun Ψ C CR => ?_)
  show Ψ M 0 [(0, .ref (gad 50 0))] []
  refine r_iconst (pc := 0) C dX11_covered_0 ki0 ?_
  refine r_istore_n (pc := 1) C dX11_covered_1 rfl (by decide) rfl (ls' := [(1, .int 0), (0, .ref (gad 50 0))]) rfl ?_
  refine r_iconst (pc := 2) C dX11_covered_2 ki0 ?_
  refine r_istore_n (pc := 3) C dX11_covered_3 rfl (by decide) rfl (ls' := [(2, .int 0), (1, .int 0), (0, .ref (gad 50 0))]) rfl ?_
  refine r_sub C [2, 1, 0] (ls' := [(0, .ref (gad 50 0)), (1, .int 0), (2, .int 0)]) rfl ?_
  obtain ⟨ev, hit, hr⟩ := gBind_some hr
  refine gIter_V (step := fun s => X11_covered_L4 s.1 s.2 M) (P := fun s => Ψ M 4 [(0, .ref (gad 50 0)), (1, .int (s.1)), (2, .int (s.2))] []) (K := (fun e => Ψ M 50 [(1, .int e)] [])) (fun s w hs hn hx => t_X11_covered_L4 C  hs hn hx) FU (0, 0) ev hit ?_
  obtain ⟨x1_11, rfl⟩ : ∃ z, z = ev := ⟨_, rfl⟩
  show Ψ M 50 [(1, .int x1_11)] []
  refine r_iload_n (pc := 50) C dX11_covered_50 rfl 0 rfl ?_
  exact r_iret (pc := 51) CR dX11_covered_51 (congrArg (fun z => some (Value.int z)) (gSome hr)) rfl
theorem c_X11_covered {Ψ : gM → Nat → List (Nat × Value) → List Value → Prop} {G : gG5} {nf : Nat} {cc : ByteArray} {own : String} {nL : Nat} {ret : Option FieldType} {fr lo : Nat} {v0 : Option Value} {M0 M : gM} {pc index : Nat} {ls : List (Nat × Value)} {st : List Value} (C : gC Ψ G (gXn nf) cc own nL ret fr lo v0 M0) (d : decode cc pc = .ok (.invokevirtual index, 3)) (hl : Cond.methodLink own index yX11_covered ∈ gws) (hR : 5 ≤ fr ∧ 120 ≤ lo) {r : Int32} (hr : X11_covered M = some r) (hcat : (st.map fun v => v.category).sum ≤ 8) (k : Ψ M (pc + 3) ls (.int r :: st)) : Ψ M pc ls (.ref (gad 50 0) :: st) := r_callV C [] st d (k_X11_covered hr) hl q1913 q99 q127 q1914 hd_X11_covered hR rfl (by decide) (e50 nf) rfl hcat k
theorem hd_X11_coveredIn : yX11_coveredIn.cls ≠ "java/lang/invoke/MethodHandle" ∧ yX11_coveredIn.cls ≠ "java/lang/invoke/VarHandle" ∧ (parseMethodDescriptor yX11_coveredIn.desc).map (fun d => d.parameters.length) = some 1 := by decide +kernel
noncomputable def X11_coveredIn_L24 (x1 : Int32) (x3 : Int32) (x2 : Int32) (x4 : Int32) (M : gM) : Option ((Int32 × Int32) ⊕ Int32) := (X11_rightOf x1 M).bind (fun r_9 => (if r_9 ≤ x4 then some (.inr x2) else (X11_maskOf x4 x3 M).bind (fun r_12 => (X11_size r_12 M).bind (fun r_14 => gLet ((x2 + r_14)) (fun x2_15 => gLet (x4 + 1) (fun x4_16 => some (.inl (x2_15, x4_16))))))))
theorem t_X11_coveredIn_L24 {Ψ : gM → Nat → List (Nat × Value) → List Value → Prop} {G : gG5} {nf : Nat} {M : gM} {v0 : Option Value} {M0 : gM} {x1 : Int32} {x3 : Int32} {x2 : Int32} {x4 : Int32} {w : ((Int32 × Int32) ⊕ Int32)} (C : gC Ψ G (gXn nf) cX11_coveredIn RX11 5 (some .int) 4 97 v0 M0) (hr : X11_coveredIn_L24 x1 x3 x2 x4 M = some w) (hn : ∀ s, w = .inl s → Ψ M 24 [(0, .ref (gad 50 0)), (1, .int x1), (2, .int (s.1)), (3, .int x3), (4, .int (s.2))] []) (hx : ∀ e, w = .inr e → (fun e => Ψ M 53 [(0, .ref (gad 50 0)), (1, .int x1), (2, .int e), (3, .int x3)] []) e) : Ψ M 24 [(0, .ref (gad 50 0)), (1, .int x1), (2, .int x2), (3, .int x3), (4, .int x4)] [] := by
  refine r_iload (pc := 24) C dX11_coveredIn_24 4 rfl ?_
  refine r_aload_n (pc := 26) C dX11_coveredIn_26 rfl 0 rfl ?_
  refine r_iload_n (pc := 27) C dX11_coveredIn_27 rfl 1 rfl ?_
  obtain ⟨r_9, hc_8, hr⟩ := gBind_some hr
  refine c_X11_rightOf (pc := 28) C dX11_coveredIn_28 q1679 ⟨Nat.le_of_ble_eq_true rfl, Nat.le_of_ble_eq_true rfl⟩ hc_8 (Nat.le_of_ble_eq_true rfl) ?_
  refine r_icmp_ge (pc := 31) (tgt := 53) C dX11_coveredIn_31 rfl (fun c_10 => ?_) (fun c_10 => ?_)
  · replace hr := (if_pos c_10).symm.trans hr
    refine r_sub C [0, 1, 2, 3] (ls' := [(0, .ref (gad 50 0)), (1, .int x1), (2, .int x2), (3, .int x3)]) rfl ?_
    exact hx x2 (gSome hr)
  · replace hr := (if_neg c_10).symm.trans hr
    refine r_iload_n (pc := 34) C dX11_coveredIn_34 rfl 2 rfl ?_
    refine r_aload_n (pc := 35) C dX11_coveredIn_35 rfl 0 rfl ?_
    refine r_iload (pc := 36) C dX11_coveredIn_36 4 rfl ?_
    refine r_iload_n (pc := 38) C dX11_coveredIn_38 rfl 3 rfl ?_
    obtain ⟨r_12, hc_11, hr⟩ := gBind_some hr
    refine c_X11_maskOf (pc := 39) C dX11_coveredIn_39 q1903 ⟨Nat.le_of_ble_eq_true rfl, Nat.le_of_ble_eq_true rfl⟩ hc_11 (Nat.le_of_ble_eq_true rfl) ?_
    obtain ⟨r_14, hc_13, hr⟩ := gBind_some hr
    refine c_X11_size (pc := 42) C dX11_coveredIn_42 q1780 ⟨Nat.le_of_ble_eq_true rfl, Nat.le_of_ble_eq_true rfl⟩ hc_13 (Nat.le_of_ble_eq_true rfl) ?_
    refine r_iadd (pc := 45) C dX11_coveredIn_45 ?_
    obtain ⟨x2_15, ex2_15, hr⟩ := gLet_some hr
    refine r_istore_n (pc := 46) C dX11_coveredIn_46 rfl (by decide) ex2_15 (ls' := [(2, .int x2_15), (0, .ref (gad 50 0)), (1, .int x1), (3, .int x3), (4, .int x4)]) rfl ?_
    obtain ⟨x4_16, ex4_16, hr⟩ := gLet_some hr
    refine r_iinc (pc := 47) C dX11_coveredIn_47 4 rfl rfl (by decide) ex4_16 (ls' := [(4, .int x4_16), (2, .int x2_15), (0, .ref (gad 50 0)), (1, .int x1), (3, .int x3)]) rfl ?_
    refine r_goto (pc := 50) (tgt := 24) C dX11_coveredIn_50 rfl ?_
    refine r_sub C [2, 3, 1, 4, 0] (ls' := [(0, .ref (gad 50 0)), (1, .int x1), (2, .int x2_15), (3, .int x3), (4, .int x4_16)]) rfl ?_
    exact hn (x2_15, x4_16) (gSome hr)
noncomputable def X11_coveredIn_L8 (x1 : Int32) (x2 : Int32) (x3 : Int32) (M : gM) : Option ((Int32 × Int32) ⊕ Int32) := (X11_lowOf x1 M).bind (fun r_4 => (if r_4 ≤ x3 then some (.inr x2) else (X11_leftOf x1 M).bind (fun r_7 => (gIter (fun s => X11_coveredIn_L24 x1 x3 s.1 s.2 M) FU (x2, r_7)).bind (fun x2_17 => gLet (x3 + 1) (fun x3_18 => some (.inl (x2_17, x3_18)))))))
theorem t_X11_coveredIn_L8 {Ψ : gM → Nat → List (Nat × Value) → List Value → Prop} {G : gG5} {nf : Nat} {M : gM} {v0 : Option Value} {M0 : gM} {x1 : Int32} {x2 : Int32} {x3 : Int32} {w : ((Int32 × Int32) ⊕ Int32)} (C : gC Ψ G (gXn nf) cX11_coveredIn RX11 5 (some .int) 4 97 v0 M0) (hr : X11_coveredIn_L8 x1 x2 x3 M = some w) (hn : ∀ s, w = .inl s → Ψ M 8 [(0, .ref (gad 50 0)), (1, .int x1), (2, .int (s.1)), (3, .int (s.2))] []) (hx : ∀ e, w = .inr e → (fun e => Ψ M 59 [(2, .int e)] []) e) : Ψ M 8 [(0, .ref (gad 50 0)), (1, .int x1), (2, .int x2), (3, .int x3)] [] := by
  refine r_iload_n (pc := 8) C dX11_coveredIn_8 rfl 3 rfl ?_
  refine r_aload_n (pc := 9) C dX11_coveredIn_9 rfl 0 rfl ?_
  refine r_iload_n (pc := 10) C dX11_coveredIn_10 rfl 1 rfl ?_
  obtain ⟨r_4, hc_3, hr⟩ := gBind_some hr
  refine c_X11_lowOf (pc := 11) C dX11_coveredIn_11 q1687 ⟨Nat.le_of_ble_eq_true rfl, Nat.le_of_ble_eq_true rfl⟩ hc_3 (Nat.le_of_ble_eq_true rfl) ?_
  refine r_icmp_ge (pc := 14) (tgt := 59) C dX11_coveredIn_14 rfl (fun c_5 => ?_) (fun c_5 => ?_)
  · replace hr := (if_pos c_5).symm.trans hr
    refine r_sub C [2] (ls' := [(2, .int x2)]) rfl ?_
    exact hx x2 (gSome hr)
  · replace hr := (if_neg c_5).symm.trans hr
    refine r_aload_n (pc := 17) C dX11_coveredIn_17 rfl 0 rfl ?_
    refine r_iload_n (pc := 18) C dX11_coveredIn_18 rfl 1 rfl ?_
    obtain ⟨r_7, hc_6, hr⟩ := gBind_some hr
    refine c_X11_leftOf (pc := 19) C dX11_coveredIn_19 q1675 ⟨Nat.le_of_ble_eq_true rfl, Nat.le_of_ble_eq_true rfl⟩ hc_6 (Nat.le_of_ble_eq_true rfl) ?_
    refine r_istore (pc := 22) C dX11_coveredIn_22 (by decide) rfl (ls' := [(4, .int r_7), (0, .ref (gad 50 0)), (1, .int x1), (2, .int x2), (3, .int x3)]) rfl ?_
    refine r_sub C [1, 2, 3, 4, 0] (ls' := [(0, .ref (gad 50 0)), (1, .int x1), (2, .int x2), (3, .int x3), (4, .int r_7)]) rfl ?_
    obtain ⟨ev, hit, hr⟩ := gBind_some hr
    refine gIter_V (step := fun s => X11_coveredIn_L24 x1 x3 s.1 s.2 M) (P := fun s => Ψ M 24 [(0, .ref (gad 50 0)), (1, .int x1), (2, .int (s.1)), (3, .int x3), (4, .int (s.2))] []) (K := (fun e => Ψ M 53 [(0, .ref (gad 50 0)), (1, .int x1), (2, .int e), (3, .int x3)] [])) (fun s w hs hn hx => t_X11_coveredIn_L24 C  hs hn hx) FU (x2, r_7) ev hit ?_
    obtain ⟨x2_17, rfl⟩ : ∃ z, z = ev := ⟨_, rfl⟩
    show Ψ M 53 [(0, .ref (gad 50 0)), (1, .int x1), (2, .int x2_17), (3, .int x3)] []
    obtain ⟨x3_18, ex3_18, hr⟩ := gLet_some hr
    refine r_iinc (pc := 53) C dX11_coveredIn_53 3 rfl rfl (by decide) ex3_18 (ls' := [(3, .int x3_18), (0, .ref (gad 50 0)), (1, .int x1), (2, .int x2_17)]) rfl ?_
    refine r_goto (pc := 56) (tgt := 8) C dX11_coveredIn_56 rfl ?_
    refine r_sub C [1, 2, 3, 0] (ls' := [(0, .ref (gad 50 0)), (1, .int x1), (2, .int x2_17), (3, .int x3_18)]) rfl ?_
    exact hn (x2_17, x3_18) (gSome hr)
noncomputable def X11_coveredIn (p1 : Int32) (M : gM) : Option Int32 := (X11_topOf p1 M).bind (fun r_2 => (gIter (fun s => X11_coveredIn_L8 p1 s.1 s.2 M) FU (0, r_2)).bind (fun x2_19 => some x2_19))
theorem k_X11_coveredIn {G : gG5} {nf : Nat} {M : gM} {p1 : Int32} {r : Int32} (hr : X11_coveredIn p1 M = some r) : gMet G (gXn nf) yX11_coveredIn cX11_coveredIn 5 (some .int) 4 97 M [.ref (gad 50 0), .int p1] (some (.int r)) M := by
  refine gMet_of pl_X11 rfl (Nat.le_of_ble_eq_true rfl) (fun Ψ C CR => ?_)
  show Ψ M 0 [(0, .ref (gad 50 0)), (1, .int p1)] []
  refine r_iconst (pc := 0) C dX11_coveredIn_0 ki0 ?_
  refine r_istore_n (pc := 1) C dX11_coveredIn_1 rfl (by decide) rfl (ls' := [(2, .int 0), (0, .ref (gad 50 0)), (1, .int p1)]) rfl ?_
  refine r_aload_n (pc := 2) C dX11_coveredIn_2 rfl 1 rfl ?_
  refine r_iload_n (pc := 3) C dX11_coveredIn_3 rfl 2 rfl ?_
  obtain ⟨r_2, hc_1, hr⟩ := gBind_some hr
  refine c_X11_topOf (pc := 4) C dX11_coveredIn_4 q1683 ⟨Nat.le_of_ble_eq_true rfl, Nat.le_of_ble_eq_true rfl⟩ hc_1 (Nat.le_of_ble_eq_true rfl) ?_
  refine r_istore_n (pc := 7) C dX11_coveredIn_7 rfl (by decide) rfl (ls' := [(3, .int r_2), (2, .int 0), (0, .ref (gad 50 0)), (1, .int p1)]) rfl ?_
  refine r_sub C [2, 3, 1, 0] (ls' := [(0, .ref (gad 50 0)), (1, .int p1), (2, .int 0), (3, .int r_2)]) rfl ?_
  obtain ⟨ev, hit, hr⟩ := gBind_some hr
  refine gIter_V (step := fun s => X11_coveredIn_L8 p1 s.1 s.2 M) (P := fun s => Ψ M 8 [(0, .ref (gad 50 0)), (1, .int p1), (2, .int (s.1)), (3, .int (s.2))] []) (K := (fun e => Ψ M 59 [(2, .int e)] [])) (fun s w hs hn hx => t_X11_coveredIn_L8 C  hs hn hx) FU (0, r_2) ev hit ?_
  obtain ⟨x2_19, rfl⟩ : ∃ z, z = ev := ⟨_, rfl⟩
  show Ψ M 59 [(2, .int x2_19)] []
  refine r_iload_n (pc := 59) C dX11_coveredIn_59 rfl 0 rfl ?_
  exact r_iret (pc := 60) CR dX11_coveredIn_60 (congrArg (fun z => some (Value.int z)) (gSome hr)) rfl
theorem c_X11_coveredIn {Ψ : gM → Nat → List (Nat × Value) → List Value → Prop} {G : gG5} {nf : Nat} {cc : ByteArray} {own : String} {nL : Nat} {ret : Option FieldType} {fr lo : Nat} {v0 : Option Value} {M0 M : gM} {pc index : Nat} {ls : List (Nat × Value)} {st : List Value} (C : gC Ψ G (gXn nf) cc own nL ret fr lo v0 M0) (d : decode cc pc = .ok (.invokevirtual index, 3)) (hl : Cond.methodLink own index yX11_coveredIn ∈ gws) (hR : 5 ≤ fr ∧ 121 ≤ lo) {p1 : Int32} {r : Int32} (hr : X11_coveredIn p1 M = some r) (hcat : (st.map fun v => v.category).sum ≤ 8) (k : Ψ M (pc + 3) ls (.int r :: st)) : Ψ M pc ls (.int p1 :: .ref (gad 50 0) :: st) := r_callV C [.int p1] st d (k_X11_coveredIn hr) hl q1901 q96 q127 q1902 hd_X11_coveredIn hR rfl (by decide) (e50 nf) rfl hcat k
theorem hd_X11_vain : yX11_vain.cls ≠ "java/lang/invoke/MethodHandle" ∧ yX11_vain.cls ≠ "java/lang/invoke/VarHandle" ∧ (parseMethodDescriptor yX11_vain.desc).map (fun d => d.parameters.length) = some 1 := by decide +kernel
noncomputable def X11_vain_L15 (x2 : Int32) (x3 : Int32) (x4 : Int32) (M : gM) : Option ((Int32 × Int32) ⊕ Int32) := (X11_tilesAll M).bind (fun r_5 => (if r_5 ≤ x4 then some (.inr x3) else (X11_has x2 x4 M).bind (fun r_8 => (if r_8 = 0 then gLet ((x3 ||| 0)) (fun x3_10 => gLet (x4 + 1) (fun x4_11 => some (.inl (x3_10, x4_11)))) else (X11_coveredIn x4 M).bind (fun r_13 => (if r_13 = 0 then gLet ((x3 ||| (1 <<< (x4 &&& 31)))) (fun x3_17 => gLet (x4 + 1) (fun x4_18 => some (.inl (x3_17, x4_18)))) else gLet ((x3 ||| 0)) (fun x3_15 => gLet (x4 + 1) (fun x4_16 => some (.inl (x3_15, x4_16))))))))))
theorem t_X11_vain_L15 {Ψ : gM → Nat → List (Nat × Value) → List Value → Prop} {G : gG5} {nf : Nat} {M : gM} {v0 : Option Value} {M0 : gM} {x2 : Int32} {x3 : Int32} {x4 : Int32} {w : ((Int32 × Int32) ⊕ Int32)} (C : gC Ψ G (gXn nf) cX11_vain RX11 5 (some .int) 5 121 v0 M0) (hr : X11_vain_L15 x2 x3 x4 M = some w) (hn : ∀ s, w = .inl s → Ψ M 15 [(0, .ref (gad 50 0)), (2, .int x2), (3, .int (s.1)), (4, .int (s.2))] []) (hx : ∀ e, w = .inr e → (fun e => Ψ M 59 [(3, .int e)] []) e) : Ψ M 15 [(0, .ref (gad 50 0)), (2, .int x2), (3, .int x3), (4, .int x4)] [] := by
  refine r_iload (pc := 15) C dX11_vain_15 3 rfl ?_
  refine r_aload_n (pc := 17) C dX11_vain_17 rfl 0 rfl ?_
  obtain ⟨r_5, hc_4, hr⟩ := gBind_some hr
  refine c_X11_tilesAll (pc := 18) C dX11_vain_18 q1663 ⟨Nat.le_of_ble_eq_true rfl, Nat.le_of_ble_eq_true rfl⟩ hc_4 (Nat.le_of_ble_eq_true rfl) ?_
  refine r_icmp_ge (pc := 21) (tgt := 59) C dX11_vain_21 rfl (fun c_6 => ?_) (fun c_6 => ?_)
  · replace hr := (if_pos c_6).symm.trans hr
    refine r_sub C [2] (ls' := [(3, .int x3)]) rfl ?_
    exact hx x3 (gSome hr)
  · replace hr := (if_neg c_6).symm.trans hr
    refine r_iload_n (pc := 24) C dX11_vain_24 rfl 2 rfl ?_
    refine r_iload_n (pc := 25) C dX11_vain_25 rfl 1 rfl ?_
    refine r_iload (pc := 26) C dX11_vain_26 3 rfl ?_
    obtain ⟨r_8, hc_7, hr⟩ := gBind_some hr
    refine c_X11_has (pc := 28) C dX11_vain_28 q1576 ⟨Nat.le_of_ble_eq_true rfl, Nat.le_of_ble_eq_true rfl⟩ hc_7 (Nat.le_of_ble_eq_true rfl) ?_
    refine r_if_eq (pc := 31) (tgt := 50) C dX11_vain_31 rfl (fun c_9 => ?_) (fun c_9 => ?_)
    · replace hr := (if_pos c_9).symm.trans hr
      refine r_iconst (pc := 50) C dX11_vain_50 ki0 ?_
      refine r_ior (pc := 51) C dX11_vain_51 ?_
      obtain ⟨x3_10, ex3_10, hr⟩ := gLet_some hr
      refine r_istore_n (pc := 52) C dX11_vain_52 rfl (by decide) ex3_10 (ls' := [(3, .int x3_10), (0, .ref (gad 50 0)), (2, .int x2), (4, .int x4)]) rfl ?_
      obtain ⟨x4_11, ex4_11, hr⟩ := gLet_some hr
      refine r_iinc (pc := 53) C dX11_vain_53 3 rfl rfl (by decide) ex4_11 (ls' := [(4, .int x4_11), (3, .int x3_10), (0, .ref (gad 50 0)), (2, .int x2)]) rfl ?_
      refine r_goto (pc := 56) (tgt := 15) C dX11_vain_56 rfl ?_
      refine r_sub C [2, 3, 1, 0] (ls' := [(0, .ref (gad 50 0)), (2, .int x2), (3, .int x3_10), (4, .int x4_11)]) rfl ?_
      exact hn (x3_10, x4_11) (gSome hr)
    · replace hr := (if_neg c_9).symm.trans hr
      refine r_aload_n (pc := 34) C dX11_vain_34 rfl 0 rfl ?_
      refine r_iload (pc := 35) C dX11_vain_35 3 rfl ?_
      obtain ⟨r_13, hc_12, hr⟩ := gBind_some hr
      refine c_X11_coveredIn (pc := 37) C dX11_vain_37 q1899 ⟨Nat.le_of_ble_eq_true rfl, Nat.le_of_ble_eq_true rfl⟩ hc_12 (Nat.le_of_ble_eq_true rfl) ?_
      refine r_if_ne (pc := 40) (tgt := 50) C dX11_vain_40 rfl (fun c_14 => ?_) (fun c_14 => ?_)
      · replace hr := (if_neg c_14).symm.trans hr
        refine r_iconst (pc := 50) C dX11_vain_50 ki0 ?_
        refine r_ior (pc := 51) C dX11_vain_51 ?_
        obtain ⟨x3_15, ex3_15, hr⟩ := gLet_some hr
        refine r_istore_n (pc := 52) C dX11_vain_52 rfl (by decide) ex3_15 (ls' := [(3, .int x3_15), (0, .ref (gad 50 0)), (2, .int x2), (4, .int x4)]) rfl ?_
        obtain ⟨x4_16, ex4_16, hr⟩ := gLet_some hr
        refine r_iinc (pc := 53) C dX11_vain_53 3 rfl rfl (by decide) ex4_16 (ls' := [(4, .int x4_16), (3, .int x3_15), (0, .ref (gad 50 0)), (2, .int x2)]) rfl ?_
        refine r_goto (pc := 56) (tgt := 15) C dX11_vain_56 rfl ?_
        refine r_sub C [2, 3, 1, 0] (ls' := [(0, .ref (gad 50 0)), (2, .int x2), (3, .int x3_15), (4, .int x4_16)]) rfl ?_
        exact hn (x3_15, x4_16) (gSome hr)
      · replace hr := (if_pos c_14).symm.trans hr
        refine r_iconst (pc := 43) C dX11_vain_43 ki1 ?_
        refine r_iload (pc := 44) C dX11_vain_44 3 rfl ?_
        refine r_ishl (pc := 46) C dX11_vain_46 ?_
        refine r_goto (pc := 47) (tgt := 51) C dX11_vain_47 rfl ?_
        refine r_ior (pc := 51) C dX11_vain_51 ?_
        obtain ⟨x3_17, ex3_17, hr⟩ := gLet_some hr
        refine r_istore_n (pc := 52) C dX11_vain_52 rfl (by decide) ex3_17 (ls' := [(3, .int x3_17), (0, .ref (gad 50 0)), (2, .int x2), (4, .int x4)]) rfl ?_
        obtain ⟨x4_18, ex4_18, hr⟩ := gLet_some hr
        refine r_iinc (pc := 53) C dX11_vain_53 3 rfl rfl (by decide) ex4_18 (ls' := [(4, .int x4_18), (3, .int x3_17), (0, .ref (gad 50 0)), (2, .int x2)]) rfl ?_
        refine r_goto (pc := 56) (tgt := 15) C dX11_vain_56 rfl ?_
        refine r_sub C [2, 3, 1, 0] (ls' := [(0, .ref (gad 50 0)), (2, .int x2), (3, .int x3_17), (4, .int x4_18)]) rfl ?_
        exact hn (x3_17, x4_18) (gSome hr)
noncomputable def X11_vain (p1 : Int32) (M : gM) : Option (Int32 × gM) := (X11_touched 8 p1 M).bind (gU2 (fun r_2 M_3 => (gIter (fun s => X11_vain_L15 r_2 s.1 s.2 M_3) FU (0, 0)).bind (fun x3_19 => some (x3_19, M_3))))
theorem k_X11_vain {G : gG5} {nf : Nat} {M : gM} {p1 : Int32} {r : Int32} {M1 : gM} (hr : X11_vain p1 M = some (r, M1)) : gMet G (gXn nf) yX11_vain cX11_vain 5 (some .int) 5 121 M [.ref (gad 50 0), .int p1] (some (.int r)) M1 := by
  refine gMet_of pl_X11 rfl (Nat.le_of_ble_eq_true rfl) (fun Ψ C CR => ?_)
  show Ψ M 0 [(0, .ref (gad 50 0)), (1, .int p1)] []
  refine r_aload_n (pc := 0) C dX11_vain_0 rfl 0 rfl ?_
  refine r_aload_n (pc := 1) C dX11_vain_1 rfl 0 rfl ?_
  refine g50_18 (pc := 2) C dX11_vain_2 q1418 (e50 nf) ?_
  refine r_iload_n (pc := 5) C dX11_vain_5 rfl 1 rfl ?_
  obtain ⟨⟨r_2, M_3⟩, hc_1, hr⟩ := gBind_some hr
  replace hr := gU2_some hr
  refine c_X11_touched (pc := 6) C dX11_vain_6 q1648 ⟨Nat.le_of_ble_eq_true rfl, Nat.le_of_ble_eq_true rfl⟩ (by decide) hc_1 (Nat.le_of_ble_eq_true rfl) ?_
  refine r_istore_n (pc := 9) C dX11_vain_9 rfl (by decide) rfl (ls' := [(2, .int r_2), (0, .ref (gad 50 0)), (1, .int p1)]) rfl ?_
  refine r_iconst (pc := 10) C dX11_vain_10 ki0 ?_
  refine r_istore_n (pc := 11) C dX11_vain_11 rfl (by decide) rfl (ls' := [(3, .int 0), (2, .int r_2), (0, .ref (gad 50 0)), (1, .int p1)]) rfl ?_
  refine r_iconst (pc := 12) C dX11_vain_12 ki0 ?_
  refine r_istore (pc := 13) C dX11_vain_13 (by decide) rfl (ls' := [(4, .int 0), (3, .int 0), (2, .int r_2), (0, .ref (gad 50 0)), (1, .int p1)]) rfl ?_
  refine r_sub C [3, 2, 1, 0] (ls' := [(0, .ref (gad 50 0)), (2, .int r_2), (3, .int 0), (4, .int 0)]) rfl ?_
  obtain ⟨ev, hit, hr⟩ := gBind_some hr
  refine gIter_V (step := fun s => X11_vain_L15 r_2 s.1 s.2 M_3) (P := fun s => Ψ M_3 15 [(0, .ref (gad 50 0)), (2, .int r_2), (3, .int (s.1)), (4, .int (s.2))] []) (K := (fun e => Ψ M_3 59 [(3, .int e)] [])) (fun s w hs hn hx => t_X11_vain_L15 C  hs hn hx) FU (0, 0) ev hit ?_
  obtain ⟨x3_19, rfl⟩ : ∃ z, z = ev := ⟨_, rfl⟩
  show Ψ M_3 59 [(3, .int x3_19)] []
  refine r_iload_n (pc := 59) C dX11_vain_59 rfl 0 rfl ?_
  exact r_iret (pc := 60) CR dX11_vain_60 (congrArg (fun z => some (Value.int z)) (Prod.mk.inj (gSome hr)).1) (Prod.mk.inj (gSome hr)).2
theorem c_X11_vain {Ψ : gM → Nat → List (Nat × Value) → List Value → Prop} {G : gG5} {nf : Nat} {cc : ByteArray} {own : String} {nL : Nat} {ret : Option FieldType} {fr lo : Nat} {v0 : Option Value} {M0 M : gM} {pc index : Nat} {ls : List (Nat × Value)} {st : List Value} (C : gC Ψ G (gXn nf) cc own nL ret fr lo v0 M0) (d : decode cc pc = .ok (.invokevirtual index, 3)) (hl : Cond.methodLink own index yX11_vain ∈ gws) (hR : 6 ≤ fr ∧ 145 ≤ lo) {p1 : Int32} {r : Int32} {M1 : gM} (hr : X11_vain p1 M = some (r, M1)) (hcat : (st.map fun v => v.category).sum ≤ 8) (k : Ψ M1 (pc + 3) ls (.int r :: st)) : Ψ M pc ls (.int p1 :: .ref (gad 50 0) :: st) := r_callV C [.int p1] st d (k_X11_vain hr) hl q1897 q95 q127 q1898 hd_X11_vain hR rfl (by decide) (e50 nf) rfl hcat k
