theorem hd_X11_laysAt : yX11_laysAt.cls ≠ "java/lang/invoke/MethodHandle" ∧ yX11_laysAt.cls ≠ "java/lang/invoke/VarHandle" ∧ (parseMethodDescriptor yX11_laysAt.desc).map (fun d => d.parameters.length) = some 5 := by decide +kernel
noncomputable def X11_laysAt (i1 : Nat) (p2 : Int32) (p3 : Int32) (p4 : Int32) (p5 : Int32) (M : gM) : Option gM := (X11_sampleX p5 M).bind (fun r_2 => gLet (((8 * p3) + r_2)) (fun x6_3 => (X11_sampleY p5 M).bind (fun r_5 => gLet (((8 * p4) + r_5)) (fun x7_6 => (X11_covers x6_3 x7_6 M).bind (fun r_8 => (if r_8 = 0 then some M else (X11_place p3 p4 p5 M).bind (fun r_11 => (X11_depthAt x6_3 x7_6 M).bind (fun r_13 => gG (gin 1055 (gLen 52 i1)) (gG (gin 1055 (gLen 52 i1)) (gLet (wI M 52 i1 (Int32.toNatClampNeg 1055) ((M.1 52 i1 (Int32.toNatClampNeg 1055)) + 1)) (fun M_16 => gG (gin (0 + r_11) (gLen 52 i1)) ((X11_passes i1 r_13 (M_16.1 52 i1 (Int32.toNatClampNeg (0 + r_11))) M_16).bind (fun r_19 => (if r_19 = 0 then some M_16 else gG (gin ((12 * p2) + 10) 120) (gLet ((M_16.1 52 4 (Int32.toNatClampNeg ((12 * p2) + 10)))) (fun x10_22 => (if 8 ≤ x10_22 then gG (gin (0 + r_11) (gLen 52 i1)) (gLet (wI M_16 52 i1 (Int32.toNatClampNeg (0 + r_11)) r_13) (fun M_25 => gG (gin (512 + r_11) (gLen 52 i1)) (gLet (wI M_25 52 i1 (Int32.toNatClampNeg (512 + r_11)) p2) (fun M_27 => gG (gin 1059 (gLen 52 i1)) ((if (M_27.1 52 i1 (Int32.toNatClampNeg 1059)) = 0 then (X11_shadesPending i1 p3 p4 p5 M_27).bind (fun M_31 => some M_31) else some M_27)))))) else (X11_shadesPending i1 p3 p4 p5 M_16).bind (fun M_33 => (X11_asks i1 p2 M_33).bind (fun M_35 => (X11_shadeOf p2 p3 p4 M_35).bind (fun r_37 => gG (gin (256 + r_11) (gLen 52 i1)) (gG (gin (256 + r_11) (gLen 52 i1)) (gLet (wI M_35 52 i1 (Int32.toNatClampNeg (256 + r_11)) (((r_37 * x10_22) + ((M_35.1 52 i1 (Int32.toNatClampNeg (256 + r_11))) * (8 - x10_22))) / 8)) (fun M_40 => (X11_lights i1 p2 p3 p4 M_40).bind (fun M_42 => some M_42))))))))))))))))))))))))
theorem k_X11_laysAt {G : gG5} {nf : Nat} {M : gM} {i1 : Nat} {p2 : Int32} {p3 : Int32} {p4 : Int32} {p5 : Int32} (h1 : i1 < 20) {M1 : gM} (hr : X11_laysAt i1 p2 p3 p4 p5 M = some M1) : gMet G (gXn nf) yX11_laysAt cX11_laysAt 11 none 4 100 M [.ref (gad 50 0), .ref (gad 52 i1), .int p2, .int p3, .int p4, .int p5] none M1 := by
  refine gMet_of pl_X11 rfl (Nat.le_of_ble_eq_true rfl) (fun Ψ C CR => ?_)
  show Ψ M 0 [(0, .ref (gad 50 0)), (1, .ref (gad 52 i1)), (2, .int p2), (3, .int p3), (4, .int p4), (5, .int p5)] []
  refine r_bipush (pc := 0) C dX11_laysAt_0 kb8 ?_
  refine r_iload_n (pc := 2) C dX11_laysAt_2 rfl 3 rfl ?_
  refine r_imul (pc := 3) C dX11_laysAt_3 ?_
  refine r_aload_n (pc := 4) C dX11_laysAt_4 rfl 0 rfl ?_
  refine r_iload (pc := 5) C dX11_laysAt_5 5 rfl ?_
  obtain ⟨r_2, hc_1, hr⟩ := gBind_some hr
  refine c_X11_sampleX (pc := 7) C dX11_laysAt_7 q1735 ⟨Nat.le_of_ble_eq_true rfl, Nat.le_of_ble_eq_true rfl⟩ hc_1 (Nat.le_of_ble_eq_true rfl) ?_
  refine r_iadd (pc := 10) C dX11_laysAt_10 ?_
  obtain ⟨x6_3, ex6_3, hr⟩ := gLet_some hr
  refine r_istore (pc := 11) C dX11_laysAt_11 (by decide) ex6_3 (ls' := [(6, .int x6_3), (0, .ref (gad 50 0)), (1, .ref (gad 52 i1)), (2, .int p2), (3, .int p3), (4, .int p4), (5, .int p5)]) rfl ?_
  refine r_bipush (pc := 13) C dX11_laysAt_13 kb8 ?_
  refine r_iload (pc := 15) C dX11_laysAt_15 5 rfl ?_
  refine r_imul (pc := 17) C dX11_laysAt_17 ?_
  refine r_aload_n (pc := 18) C dX11_laysAt_18 rfl 1 rfl ?_
  refine r_iload (pc := 19) C dX11_laysAt_19 6 rfl ?_
  obtain ⟨r_5, hc_4, hr⟩ := gBind_some hr
  refine c_X11_sampleY (pc := 21) C dX11_laysAt_21 q1739 ⟨Nat.le_of_ble_eq_true rfl, Nat.le_of_ble_eq_true rfl⟩ hc_4 (Nat.le_of_ble_eq_true rfl) ?_
  refine r_iadd (pc := 24) C dX11_laysAt_24 ?_
  obtain ⟨x7_6, ex7_6, hr⟩ := gLet_some hr
  refine r_istore (pc := 25) C dX11_laysAt_25 (by decide) ex7_6 (ls' := [(7, .int x7_6), (6, .int x6_3), (0, .ref (gad 50 0)), (1, .ref (gad 52 i1)), (2, .int p2), (3, .int p3), (4, .int p4), (5, .int p5)]) rfl ?_
  refine r_aload_n (pc := 27) C dX11_laysAt_27 rfl 2 rfl ?_
  refine r_iload (pc := 28) C dX11_laysAt_28 1 rfl ?_
  refine r_iload (pc := 30) C dX11_laysAt_30 0 rfl ?_
  obtain ⟨r_8, hc_7, hr⟩ := gBind_some hr
  refine c_X11_covers (pc := 32) C dX11_laysAt_32 q1743 ⟨Nat.le_of_ble_eq_true rfl, Nat.le_of_ble_eq_true rfl⟩ hc_7 (Nat.le_of_ble_eq_true rfl) ?_
  refine r_if_ne (pc := 35) (tgt := 39) C dX11_laysAt_35 rfl (fun c_9 => ?_) (fun c_9 => ?_)
  · replace hr := (if_neg c_9).symm.trans hr
    refine r_iload_n (pc := 39) C dX11_laysAt_39 rfl 5 rfl ?_
    refine r_iload (pc := 40) C dX11_laysAt_40 6 rfl ?_
    refine r_iload (pc := 42) C dX11_laysAt_42 7 rfl ?_
    obtain ⟨r_11, hc_10, hr⟩ := gBind_some hr
    refine c_X11_place (pc := 44) C dX11_laysAt_44 q1725 ⟨Nat.le_of_ble_eq_true rfl, Nat.le_of_ble_eq_true rfl⟩ hc_10 (Nat.le_of_ble_eq_true rfl) ?_
    refine r_istore (pc := 47) C dX11_laysAt_47 (by decide) rfl (ls' := [(8, .int r_11), (7, .int x7_6), (6, .int x6_3), (0, .ref (gad 50 0)), (1, .ref (gad 52 i1)), (2, .int p2), (3, .int p3), (4, .int p4), (5, .int p5)]) rfl ?_
    refine r_aload_n (pc := 49) C dX11_laysAt_49 rfl 3 rfl ?_
    refine r_iload (pc := 50) C dX11_laysAt_50 2 rfl ?_
    refine r_iload (pc := 52) C dX11_laysAt_52 1 rfl ?_
    obtain ⟨r_13, hc_12, hr⟩ := gBind_some hr
    refine c_X11_depthAt (pc := 54) C dX11_laysAt_54 q1751 ⟨Nat.le_of_ble_eq_true rfl, Nat.le_of_ble_eq_true rfl⟩ hc_12 (Nat.le_of_ble_eq_true rfl) ?_
    refine r_istore (pc := 57) C dX11_laysAt_57 (by decide) rfl (ls' := [(9, .int r_13), (8, .int r_11), (7, .int x7_6), (6, .int x6_3), (0, .ref (gad 50 0)), (1, .ref (gad 52 i1)), (2, .int p2), (3, .int p3), (4, .int p4), (5, .int p5)]) rfl ?_
    refine r_aload_n (pc := 59) C dX11_laysAt_59 rfl 5 rfl ?_
    refine r_sipush (pc := 60) C dX11_laysAt_60 ks1055 ?_
    refine r_dup2 (pc := 63) C dX11_laysAt_63 rfl rfl ?_
    obtain ⟨g_14, hr⟩ := gG_some hr
    refine r_ialdN (pc := 64) C dX11_laysAt_64 rfl (e52 (nf := nf) h1) g_14 rfl ?_
    refine r_iconst (pc := 65) C dX11_laysAt_65 ki1 ?_
    refine r_iadd (pc := 66) C dX11_laysAt_66 ?_
    obtain ⟨g_15, hr⟩ := gG_some hr
    obtain ⟨M_16, eM_16, hr⟩ := gLet_some hr
    refine r_iastN (pc := 67) C dX11_laysAt_67 rfl (e52 (nf := nf) h1) g_15 rfl eM_16 ?_
    refine r_aload_n (pc := 68) C dX11_laysAt_68 rfl 5 rfl ?_
    refine r_iload (pc := 69) C dX11_laysAt_69 0 rfl ?_
    refine r_aload_n (pc := 71) C dX11_laysAt_71 rfl 5 rfl ?_
    refine r_iconst (pc := 72) C dX11_laysAt_72 ki0 ?_
    refine r_iload (pc := 73) C dX11_laysAt_73 1 rfl ?_
    refine r_iadd (pc := 75) C dX11_laysAt_75 ?_
    obtain ⟨g_17, hr⟩ := gG_some hr
    refine r_ialdN (pc := 76) C dX11_laysAt_76 rfl (e52 (nf := nf) h1) g_17 rfl ?_
    obtain ⟨r_19, hc_18, hr⟩ := gBind_some hr
    refine c_X11_passes (pc := 77) C dX11_laysAt_77 q1728 ⟨Nat.le_of_ble_eq_true rfl, Nat.le_of_ble_eq_true rfl⟩ h1 hc_18 (Nat.le_of_ble_eq_true rfl) ?_
    refine r_if_ne (pc := 80) (tgt := 84) C dX11_laysAt_80 rfl (fun c_20 => ?_) (fun c_20 => ?_)
    · replace hr := (if_neg c_20).symm.trans hr
      refine r_aload_n (pc := 84) C dX11_laysAt_84 rfl 4 rfl ?_
      refine g50_11 (pc := 85) C dX11_laysAt_85 q1411 (e50 nf) ?_
      refine r_bipush (pc := 88) C dX11_laysAt_88 kb12 ?_
      refine r_iload_n (pc := 90) C dX11_laysAt_90 rfl 6 rfl ?_
      refine r_imul (pc := 91) C dX11_laysAt_91 ?_
      refine r_bipush (pc := 92) C dX11_laysAt_92 kb10 ?_
      refine r_iadd (pc := 94) C dX11_laysAt_94 ?_
      obtain ⟨g_21, hr⟩ := gG_some hr
      refine r_ialdN (pc := 95) C dX11_laysAt_95 rfl (e52 (nf := nf) (by decide)) g_21 rfl ?_
      obtain ⟨x10_22, ex10_22, hr⟩ := gLet_some hr
      refine r_istore (pc := 96) C dX11_laysAt_96 (by decide) ex10_22 (ls' := [(10, .int x10_22), (9, .int r_13), (8, .int r_11), (7, .int x7_6), (6, .int x6_3), (0, .ref (gad 50 0)), (1, .ref (gad 52 i1)), (2, .int p2), (3, .int p3), (4, .int p4), (5, .int p5)]) rfl ?_
      refine r_iload (pc := 98) C dX11_laysAt_98 0 rfl ?_
      refine r_bipush (pc := 100) C dX11_laysAt_100 kb8 ?_
      refine r_icmp_ge (pc := 102) (tgt := 167) C dX11_laysAt_102 rfl (fun c_23 => ?_) (fun c_23 => ?_)
      · replace hr := (if_pos c_23).symm.trans hr
        refine r_aload_n (pc := 167) C dX11_laysAt_167 rfl 6 rfl ?_
        refine r_iconst (pc := 168) C dX11_laysAt_168 ki0 ?_
        refine r_iload (pc := 169) C dX11_laysAt_169 2 rfl ?_
        refine r_iadd (pc := 171) C dX11_laysAt_171 ?_
        refine r_iload (pc := 172) C dX11_laysAt_172 1 rfl ?_
        obtain ⟨g_24, hr⟩ := gG_some hr
        obtain ⟨M_25, eM_25, hr⟩ := gLet_some hr
        refine r_iastN (pc := 174) C dX11_laysAt_174 rfl (e52 (nf := nf) h1) g_24 rfl eM_25 ?_
        refine r_aload_n (pc := 175) C dX11_laysAt_175 rfl 6 rfl ?_
        refine r_sipush (pc := 176) C dX11_laysAt_176 ks512 ?_
        refine r_iload (pc := 179) C dX11_laysAt_179 2 rfl ?_
        refine r_iadd (pc := 181) C dX11_laysAt_181 ?_
        refine r_iload_n (pc := 182) C dX11_laysAt_182 rfl 7 rfl ?_
        obtain ⟨g_26, hr⟩ := gG_some hr
        obtain ⟨M_27, eM_27, hr⟩ := gLet_some hr
        refine r_iastN (pc := 183) C dX11_laysAt_183 rfl (e52 (nf := nf) h1) g_26 rfl eM_27 ?_
        refine r_aload_n (pc := 184) C dX11_laysAt_184 rfl 6 rfl ?_
        refine r_sipush (pc := 185) C dX11_laysAt_185 ks1059 ?_
        obtain ⟨g_28, hr⟩ := gG_some hr
        refine r_ialdN (pc := 188) C dX11_laysAt_188 rfl (e52 (nf := nf) h1) g_28 rfl ?_
        refine r_if_ne (pc := 189) (tgt := 202) C dX11_laysAt_189 rfl (fun c_29 => ?_) (fun c_29 => ?_)
        · replace hr := (if_neg c_29).symm.trans hr
          exact r_vret (pc := 202) CR dX11_laysAt_202 rfl (gSome hr)
        · replace hr := (if_pos c_29).symm.trans hr
          refine r_aload_n (pc := 192) C dX11_laysAt_192 rfl 5 rfl ?_
          refine r_aload_n (pc := 193) C dX11_laysAt_193 rfl 6 rfl ?_
          refine r_iload_n (pc := 194) C dX11_laysAt_194 rfl 8 rfl ?_
          refine r_iload (pc := 195) C dX11_laysAt_195 9 rfl ?_
          refine r_iload (pc := 197) C dX11_laysAt_197 10 rfl ?_
          obtain ⟨M_31, hc_30, hr⟩ := gBind_some hr
          refine c_X11_shadesPending (pc := 199) C dX11_laysAt_199 q1758 ⟨Nat.le_of_ble_eq_true rfl, Nat.le_of_ble_eq_true rfl⟩ h1 hc_30 (Nat.le_of_ble_eq_true rfl) ?_
          exact r_vret (pc := 202) CR dX11_laysAt_202 rfl (gSome hr)
      · replace hr := (if_neg c_23).symm.trans hr
        refine r_aload_n (pc := 105) C dX11_laysAt_105 rfl 5 rfl ?_
        refine r_aload_n (pc := 106) C dX11_laysAt_106 rfl 6 rfl ?_
        refine r_iload_n (pc := 107) C dX11_laysAt_107 rfl 8 rfl ?_
        refine r_iload (pc := 108) C dX11_laysAt_108 9 rfl ?_
        refine r_iload (pc := 110) C dX11_laysAt_110 10 rfl ?_
        obtain ⟨M_33, hc_32, hr⟩ := gBind_some hr
        refine c_X11_shadesPending (pc := 112) C dX11_laysAt_112 q1758 ⟨Nat.le_of_ble_eq_true rfl, Nat.le_of_ble_eq_true rfl⟩ h1 hc_32 (Nat.le_of_ble_eq_true rfl) ?_
        refine r_aload_n (pc := 115) C dX11_laysAt_115 rfl 5 rfl ?_
        refine r_aload_n (pc := 116) C dX11_laysAt_116 rfl 6 rfl ?_
        refine r_iload_n (pc := 117) C dX11_laysAt_117 rfl 7 rfl ?_
        obtain ⟨M_35, hc_34, hr⟩ := gBind_some hr
        refine c_X11_asks (pc := 118) C dX11_laysAt_118 q1652 ⟨Nat.le_of_ble_eq_true rfl, Nat.le_of_ble_eq_true rfl⟩ h1 hc_34 (Nat.le_of_ble_eq_true rfl) ?_
        refine r_aload_n (pc := 121) C dX11_laysAt_121 rfl 6 rfl ?_
        refine r_sipush (pc := 122) C dX11_laysAt_122 ks256 ?_
        refine r_iload (pc := 125) C dX11_laysAt_125 2 rfl ?_
        refine r_iadd (pc := 127) C dX11_laysAt_127 ?_
        refine r_aload_n (pc := 128) C dX11_laysAt_128 rfl 5 rfl ?_
        refine r_iload_n (pc := 129) C dX11_laysAt_129 rfl 7 rfl ?_
        refine r_iload_n (pc := 130) C dX11_laysAt_130 rfl 8 rfl ?_
        refine r_iload (pc := 131) C dX11_laysAt_131 9 rfl ?_
        obtain ⟨r_37, hc_36, hr⟩ := gBind_some hr
        refine c_X11_shadeOf (pc := 133) C dX11_laysAt_133 q1762 ⟨Nat.le_of_ble_eq_true rfl, Nat.le_of_ble_eq_true rfl⟩ hc_36 (Nat.le_of_ble_eq_true rfl) ?_
        refine r_iload (pc := 136) C dX11_laysAt_136 0 rfl ?_
        refine r_imul (pc := 138) C dX11_laysAt_138 ?_
        refine r_aload_n (pc := 139) C dX11_laysAt_139 rfl 6 rfl ?_
        refine r_sipush (pc := 140) C dX11_laysAt_140 ks256 ?_
        refine r_iload (pc := 143) C dX11_laysAt_143 2 rfl ?_
        refine r_iadd (pc := 145) C dX11_laysAt_145 ?_
        obtain ⟨g_38, hr⟩ := gG_some hr
        refine r_ialdN (pc := 146) C dX11_laysAt_146 rfl (e52 (nf := nf) h1) g_38 rfl ?_
        refine r_bipush (pc := 147) C dX11_laysAt_147 kb8 ?_
        refine r_iload (pc := 149) C dX11_laysAt_149 0 rfl ?_
        refine r_isub (pc := 151) C dX11_laysAt_151 ?_
        refine r_imul (pc := 152) C dX11_laysAt_152 ?_
        refine r_iadd (pc := 153) C dX11_laysAt_153 ?_
        refine r_bipush (pc := 154) C dX11_laysAt_154 kb8 ?_
        refine r_idiv (pc := 156) C dX11_laysAt_156 (by decide) ?_
        obtain ⟨g_39, hr⟩ := gG_some hr
        obtain ⟨M_40, eM_40, hr⟩ := gLet_some hr
        refine r_iastN (pc := 157) C dX11_laysAt_157 rfl (e52 (nf := nf) h1) g_39 rfl eM_40 ?_
        refine r_aload_n (pc := 158) C dX11_laysAt_158 rfl 6 rfl ?_
        refine r_iload_n (pc := 159) C dX11_laysAt_159 rfl 7 rfl ?_
        refine r_iload_n (pc := 160) C dX11_laysAt_160 rfl 8 rfl ?_
        refine r_iload (pc := 161) C dX11_laysAt_161 9 rfl ?_
        obtain ⟨M_42, hc_41, hr⟩ := gBind_some hr
        refine c_X11_lights (pc := 163) C dX11_laysAt_163 q1766 ⟨Nat.le_of_ble_eq_true rfl, Nat.le_of_ble_eq_true rfl⟩ h1 hc_41 (Nat.le_of_ble_eq_true rfl) ?_
        exact r_vret (pc := 166) CR dX11_laysAt_166 rfl (gSome hr)
    · replace hr := (if_pos c_20).symm.trans hr
      exact r_vret (pc := 83) CR dX11_laysAt_83 rfl (gSome hr)
  · replace hr := (if_pos c_9).symm.trans hr
    exact r_vret (pc := 38) CR dX11_laysAt_38 rfl (gSome hr)
theorem c_X11_laysAt {Ψ : gM → Nat → List (Nat × Value) → List Value → Prop} {G : gG5} {nf : Nat} {cc : ByteArray} {own : String} {nL : Nat} {ret : Option FieldType} {fr lo : Nat} {v0 : Option Value} {M0 M : gM} {pc index : Nat} {ls : List (Nat × Value)} {st : List Value} (C : gC Ψ G (gXn nf) cc own nL ret fr lo v0 M0) (d : decode cc pc = .ok (.invokevirtual index, 3)) (hl : Cond.methodLink own index yX11_laysAt ∈ gws) (hR : 5 ≤ fr ∧ 130 ≤ lo) {i1 : Nat} {p2 : Int32} {p3 : Int32} {p4 : Int32} {p5 : Int32} (h1 : i1 < 20) {M1 : gM} (hr : X11_laysAt i1 p2 p3 p4 p5 M = some M1) (hcat : (st.map fun v => v.category).sum ≤ 8) (k : Ψ M1 (pc + 3) ls (st)) : Ψ M pc ls (.int p5 :: .int p4 :: .int p3 :: .int p2 :: .ref (gad 52 i1) :: .ref (gad 50 0) :: st) := r_callV C [.ref (gad 52 i1), .int p2, .int p3, .int p4, .int p5] st d (k_X11_laysAt h1 hr) hl q1733 q72 q127 q1734 hd_X11_laysAt hR rfl (by decide) (e50 nf) rfl hcat k
theorem hd_X11_lays : yX11_lays.cls ≠ "java/lang/invoke/MethodHandle" ∧ yX11_lays.cls ≠ "java/lang/invoke/VarHandle" ∧ (parseMethodDescriptor yX11_lays.desc).map (fun d => d.parameters.length) = some 3 := by decide +kernel
noncomputable def X11_lays_L71 (i1 : Nat) (x2 : Int32) (x3 : Int32) (x4 : Int32) (x5 : Int32) (x6 : Int32) (M : gM) : Option ((Int32 × gM) ⊕ gM) := (if (M.1 52 2 3) ≤ x6 then some (.inr M) else (X11_laysAt i1 x3 x5 x4 x6 M).bind (fun M_22 => gLet (x6 + 1) (fun x6_23 => some (.inl (x6_23, M_22)))))
theorem t_X11_lays_L71 {Ψ : gM → Nat → List (Nat × Value) → List Value → Prop} {G : gG5} {nf : Nat} {M : gM} {v0 : Option Value} {M0 : gM} {i1 : Nat} {x2 : Int32} {x3 : Int32} {x4 : Int32} {x5 : Int32} {x6 : Int32} {w : ((Int32 × gM) ⊕ gM)} (C : gC Ψ G (gXn nf) cX11_lays RX11 7 none 5 130 v0 M0) (h1 : i1 < 20) (hr : X11_lays_L71 i1 x2 x3 x4 x5 x6 M = some w) (hn : ∀ s, w = .inl s → Ψ s.2 71 [(0, .ref (gad 50 0)), (1, .ref (gad 52 i1)), (2, .int x2), (3, .int x3), (4, .int x4), (5, .int x5), (6, .int (s.1))] []) (hx : ∀ e, w = .inr e → (fun e => Ψ e 100 [(0, .ref (gad 50 0)), (1, .ref (gad 52 i1)), (2, .int x2), (3, .int x3), (4, .int x4), (5, .int x5)] []) e) : Ψ M 71 [(0, .ref (gad 50 0)), (1, .ref (gad 52 i1)), (2, .int x2), (3, .int x3), (4, .int x4), (5, .int x5), (6, .int x6)] [] := by
  refine r_iload (pc := 71) C dX11_lays_71 6 rfl ?_
  refine r_aload_n (pc := 73) C dX11_lays_73 rfl 0 rfl ?_
  refine g50_9 (pc := 74) C dX11_lays_74 q1409 (e50 nf) ?_
  refine r_iconst (pc := 77) C dX11_lays_77 ki3 ?_
  refine r_ialdN (pc := 78) C dX11_lays_78 rfl (e52 (nf := nf) (by decide)) (by decide : gin 3 9 = true) kc3 ?_
  refine r_icmp_ge (pc := 79) (tgt := 100) C dX11_lays_79 rfl (fun c_20 => ?_) (fun c_20 => ?_)
  · replace hr := (if_pos c_20).symm.trans hr
    refine r_sub C [0, 1, 2, 3, 4, 5] (ls' := [(0, .ref (gad 50 0)), (1, .ref (gad 52 i1)), (2, .int x2), (3, .int x3), (4, .int x4), (5, .int x5)]) rfl ?_
    exact hx M (gSome hr)
  · replace hr := (if_neg c_20).symm.trans hr
    refine r_aload_n (pc := 82) C dX11_lays_82 rfl 0 rfl ?_
    refine r_aload_n (pc := 83) C dX11_lays_83 rfl 1 rfl ?_
    refine r_iload_n (pc := 84) C dX11_lays_84 rfl 3 rfl ?_
    refine r_iload (pc := 85) C dX11_lays_85 5 rfl ?_
    refine r_iload (pc := 87) C dX11_lays_87 4 rfl ?_
    refine r_iload (pc := 89) C dX11_lays_89 6 rfl ?_
    obtain ⟨M_22, hc_21, hr⟩ := gBind_some hr
    refine c_X11_laysAt (pc := 91) C dX11_lays_91 q1731 ⟨Nat.le_of_ble_eq_true rfl, Nat.le_of_ble_eq_true rfl⟩ h1 hc_21 (Nat.le_of_ble_eq_true rfl) ?_
    obtain ⟨x6_23, ex6_23, hr⟩ := gLet_some hr
    refine r_iinc (pc := 94) C dX11_lays_94 6 rfl rfl (by decide) ex6_23 (ls' := [(6, .int x6_23), (0, .ref (gad 50 0)), (1, .ref (gad 52 i1)), (2, .int x2), (3, .int x3), (4, .int x4), (5, .int x5)]) rfl ?_
    refine r_goto (pc := 97) (tgt := 71) C dX11_lays_97 rfl ?_
    refine r_sub C [1, 2, 3, 4, 5, 6, 0] (ls' := [(0, .ref (gad 50 0)), (1, .ref (gad 52 i1)), (2, .int x2), (3, .int x3), (4, .int x4), (5, .int x5), (6, .int x6_23)]) rfl ?_
    exact hn (x6_23, M_22) (gSome hr)
noncomputable def X11_lays_L58 (i1 : Nat) (x2 : Int32) (x3 : Int32) (x4 : Int32) (x5 : Int32) (M : gM) : Option ((Int32 × gM) ⊕ gM) := (X11_rightOf x2 M).bind (fun r_18 => (if r_18 ≤ x5 then some (.inr M) else (gIter (fun s => X11_lays_L71 i1 x2 x3 x4 x5 s.1 s.2) FU (0, M)).bind (fun M_24 => gLet (x5 + 1) (fun x5_25 => some (.inl (x5_25, M_24))))))
theorem t_X11_lays_L58 {Ψ : gM → Nat → List (Nat × Value) → List Value → Prop} {G : gG5} {nf : Nat} {M : gM} {v0 : Option Value} {M0 : gM} {i1 : Nat} {x2 : Int32} {x3 : Int32} {x4 : Int32} {x5 : Int32} {w : ((Int32 × gM) ⊕ gM)} (C : gC Ψ G (gXn nf) cX11_lays RX11 7 none 5 130 v0 M0) (h1 : i1 < 20) (hr : X11_lays_L58 i1 x2 x3 x4 x5 M = some w) (hn : ∀ s, w = .inl s → Ψ s.2 58 [(0, .ref (gad 50 0)), (1, .ref (gad 52 i1)), (2, .int x2), (3, .int x3), (4, .int x4), (5, .int (s.1))] []) (hx : ∀ e, w = .inr e → (fun e => Ψ e 106 [(0, .ref (gad 50 0)), (1, .ref (gad 52 i1)), (2, .int x2), (3, .int x3), (4, .int x4)] []) e) : Ψ M 58 [(0, .ref (gad 50 0)), (1, .ref (gad 52 i1)), (2, .int x2), (3, .int x3), (4, .int x4), (5, .int x5)] [] := by
  refine r_iload (pc := 58) C dX11_lays_58 5 rfl ?_
  refine r_aload_n (pc := 60) C dX11_lays_60 rfl 0 rfl ?_
  refine r_iload_n (pc := 61) C dX11_lays_61 rfl 2 rfl ?_
  obtain ⟨r_18, hc_17, hr⟩ := gBind_some hr
  refine c_X11_rightOf (pc := 62) C dX11_lays_62 q1679 ⟨Nat.le_of_ble_eq_true rfl, Nat.le_of_ble_eq_true rfl⟩ hc_17 (Nat.le_of_ble_eq_true rfl) ?_
  refine r_icmp_ge (pc := 65) (tgt := 106) C dX11_lays_65 rfl (fun c_19 => ?_) (fun c_19 => ?_)
  · replace hr := (if_pos c_19).symm.trans hr
    refine r_sub C [0, 1, 2, 3, 4] (ls' := [(0, .ref (gad 50 0)), (1, .ref (gad 52 i1)), (2, .int x2), (3, .int x3), (4, .int x4)]) rfl ?_
    exact hx M (gSome hr)
  · replace hr := (if_neg c_19).symm.trans hr
    refine r_iconst (pc := 68) C dX11_lays_68 ki0 ?_
    refine r_istore (pc := 69) C dX11_lays_69 (by decide) rfl (ls' := [(6, .int 0), (0, .ref (gad 50 0)), (1, .ref (gad 52 i1)), (2, .int x2), (3, .int x3), (4, .int x4), (5, .int x5)]) rfl ?_
    refine r_sub C [1, 2, 3, 4, 5, 6, 0] (ls' := [(0, .ref (gad 50 0)), (1, .ref (gad 52 i1)), (2, .int x2), (3, .int x3), (4, .int x4), (5, .int x5), (6, .int 0)]) rfl ?_
    obtain ⟨ev, hit, hr⟩ := gBind_some hr
    refine gIter_V (step := fun s => X11_lays_L71 i1 x2 x3 x4 x5 s.1 s.2) (P := fun s => Ψ s.2 71 [(0, .ref (gad 50 0)), (1, .ref (gad 52 i1)), (2, .int x2), (3, .int x3), (4, .int x4), (5, .int x5), (6, .int (s.1))] []) (K := (fun e => Ψ e 100 [(0, .ref (gad 50 0)), (1, .ref (gad 52 i1)), (2, .int x2), (3, .int x3), (4, .int x4), (5, .int x5)] [])) (fun s w hs hn hx => t_X11_lays_L71 C h1 hs hn hx) FU (0, M) ev hit ?_
    obtain ⟨M_24, rfl⟩ : ∃ z, z = ev := ⟨_, rfl⟩
    show Ψ M_24 100 [(0, .ref (gad 50 0)), (1, .ref (gad 52 i1)), (2, .int x2), (3, .int x3), (4, .int x4), (5, .int x5)] []
    obtain ⟨x5_25, ex5_25, hr⟩ := gLet_some hr
    refine r_iinc (pc := 100) C dX11_lays_100 5 rfl rfl (by decide) ex5_25 (ls' := [(5, .int x5_25), (0, .ref (gad 50 0)), (1, .ref (gad 52 i1)), (2, .int x2), (3, .int x3), (4, .int x4)]) rfl ?_
    refine r_goto (pc := 103) (tgt := 58) C dX11_lays_103 rfl ?_
    refine r_sub C [1, 2, 3, 4, 5, 0] (ls' := [(0, .ref (gad 50 0)), (1, .ref (gad 52 i1)), (2, .int x2), (3, .int x3), (4, .int x4), (5, .int x5_25)]) rfl ?_
    exact hn (x5_25, M_24) (gSome hr)
noncomputable def X11_lays_L41 (i1 : Nat) (x2 : Int32) (x3 : Int32) (x4 : Int32) (M : gM) : Option ((Int32 × gM) ⊕ gM) := (X11_lowOf x2 M).bind (fun r_13 => (if r_13 ≤ x4 then some (.inr M) else (X11_leftOf x2 M).bind (fun r_16 => (gIter (fun s => X11_lays_L58 i1 x2 x3 x4 s.1 s.2) FU (r_16, M)).bind (fun M_26 => gLet (x4 + 1) (fun x4_27 => some (.inl (x4_27, M_26)))))))
theorem t_X11_lays_L41 {Ψ : gM → Nat → List (Nat × Value) → List Value → Prop} {G : gG5} {nf : Nat} {M : gM} {v0 : Option Value} {M0 : gM} {i1 : Nat} {x2 : Int32} {x3 : Int32} {x4 : Int32} {w : ((Int32 × gM) ⊕ gM)} (C : gC Ψ G (gXn nf) cX11_lays RX11 7 none 5 130 v0 M0) (h1 : i1 < 20) (hr : X11_lays_L41 i1 x2 x3 x4 M = some w) (hn : ∀ s, w = .inl s → Ψ s.2 41 [(0, .ref (gad 50 0)), (1, .ref (gad 52 i1)), (2, .int x2), (3, .int x3), (4, .int (s.1))] []) (hx : ∀ e, w = .inr e → (fun e => Ψ e 112 [] []) e) : Ψ M 41 [(0, .ref (gad 50 0)), (1, .ref (gad 52 i1)), (2, .int x2), (3, .int x3), (4, .int x4)] [] := by
  refine r_iload (pc := 41) C dX11_lays_41 4 rfl ?_
  refine r_aload_n (pc := 43) C dX11_lays_43 rfl 0 rfl ?_
  refine r_iload_n (pc := 44) C dX11_lays_44 rfl 2 rfl ?_
  obtain ⟨r_13, hc_12, hr⟩ := gBind_some hr
  refine c_X11_lowOf (pc := 45) C dX11_lays_45 q1687 ⟨Nat.le_of_ble_eq_true rfl, Nat.le_of_ble_eq_true rfl⟩ hc_12 (Nat.le_of_ble_eq_true rfl) ?_
  refine r_icmp_ge (pc := 48) (tgt := 112) C dX11_lays_48 rfl (fun c_14 => ?_) (fun c_14 => ?_)
  · replace hr := (if_pos c_14).symm.trans hr
    refine r_sub C [] (ls' := []) rfl ?_
    exact hx M (gSome hr)
  · replace hr := (if_neg c_14).symm.trans hr
    refine r_aload_n (pc := 51) C dX11_lays_51 rfl 0 rfl ?_
    refine r_iload_n (pc := 52) C dX11_lays_52 rfl 2 rfl ?_
    obtain ⟨r_16, hc_15, hr⟩ := gBind_some hr
    refine c_X11_leftOf (pc := 53) C dX11_lays_53 q1675 ⟨Nat.le_of_ble_eq_true rfl, Nat.le_of_ble_eq_true rfl⟩ hc_15 (Nat.le_of_ble_eq_true rfl) ?_
    refine r_istore (pc := 56) C dX11_lays_56 (by decide) rfl (ls' := [(5, .int r_16), (0, .ref (gad 50 0)), (1, .ref (gad 52 i1)), (2, .int x2), (3, .int x3), (4, .int x4)]) rfl ?_
    refine r_sub C [1, 2, 3, 4, 5, 0] (ls' := [(0, .ref (gad 50 0)), (1, .ref (gad 52 i1)), (2, .int x2), (3, .int x3), (4, .int x4), (5, .int r_16)]) rfl ?_
    obtain ⟨ev, hit, hr⟩ := gBind_some hr
    refine gIter_V (step := fun s => X11_lays_L58 i1 x2 x3 x4 s.1 s.2) (P := fun s => Ψ s.2 58 [(0, .ref (gad 50 0)), (1, .ref (gad 52 i1)), (2, .int x2), (3, .int x3), (4, .int x4), (5, .int (s.1))] []) (K := (fun e => Ψ e 106 [(0, .ref (gad 50 0)), (1, .ref (gad 52 i1)), (2, .int x2), (3, .int x3), (4, .int x4)] [])) (fun s w hs hn hx => t_X11_lays_L58 C h1 hs hn hx) FU (r_16, M) ev hit ?_
    obtain ⟨M_26, rfl⟩ : ∃ z, z = ev := ⟨_, rfl⟩
    show Ψ M_26 106 [(0, .ref (gad 50 0)), (1, .ref (gad 52 i1)), (2, .int x2), (3, .int x3), (4, .int x4)] []
    obtain ⟨x4_27, ex4_27, hr⟩ := gLet_some hr
    refine r_iinc (pc := 106) C dX11_lays_106 4 rfl rfl (by decide) ex4_27 (ls' := [(4, .int x4_27), (0, .ref (gad 50 0)), (1, .ref (gad 52 i1)), (2, .int x2), (3, .int x3)]) rfl ?_
    refine r_goto (pc := 109) (tgt := 41) C dX11_lays_109 rfl ?_
    refine r_sub C [1, 2, 3, 4, 0] (ls' := [(0, .ref (gad 50 0)), (1, .ref (gad 52 i1)), (2, .int x2), (3, .int x3), (4, .int x4_27)]) rfl ?_
    exact hn (x4_27, M_26) (gSome hr)
noncomputable def X11_lays (i1 : Nat) (p2 : Int32) (p3 : Int32) (M : gM) : Option gM := (X11_asks i1 p3 M).bind (fun M_2 => (X11_leastZ M_2).bind (fun r_4 => (X11_depthOf i1 p2 1 M_2).bind (fun r_6 => (X11_passes i1 r_4 r_6 M_2).bind (fun r_8 => (if r_8 = 0 then gG (gin 1054 (gLen 52 i1)) (gG (gin 1054 (gLen 52 i1)) (gLet (wI M_2 52 i1 (Int32.toNatClampNeg 1054) ((M_2.1 52 i1 (Int32.toNatClampNeg 1054)) + 1)) (fun M_31 => some M_31))) else (X11_topOf p2 M_2).bind (fun r_11 => (gIter (fun s => X11_lays_L41 i1 p2 p3 s.1 s.2) FU (r_11, M_2)).bind (fun M_28 => some M_28)))))))
theorem k_X11_lays {G : gG5} {nf : Nat} {M : gM} {i1 : Nat} {p2 : Int32} {p3 : Int32} (h1 : i1 < 20) {M1 : gM} (hr : X11_lays i1 p2 p3 M = some M1) : gMet G (gXn nf) yX11_lays cX11_lays 7 none 5 130 M [.ref (gad 50 0), .ref (gad 52 i1), .int p2, .int p3] none M1 := by
  refine gMet_of pl_X11 rfl (Nat.le_of_ble_eq_true rfl) (fun Ψ C CR => ?_)
  show Ψ M 0 [(0, .ref (gad 50 0)), (1, .ref (gad 52 i1)), (2, .int p2), (3, .int p3)] []
  refine r_aload_n (pc := 0) C dX11_lays_0 rfl 0 rfl ?_
  refine r_aload_n (pc := 1) C dX11_lays_1 rfl 1 rfl ?_
  refine r_iload_n (pc := 2) C dX11_lays_2 rfl 3 rfl ?_
  obtain ⟨M_2, hc_1, hr⟩ := gBind_some hr
  refine c_X11_asks (pc := 3) C dX11_lays_3 q1652 ⟨Nat.le_of_ble_eq_true rfl, Nat.le_of_ble_eq_true rfl⟩ h1 hc_1 (Nat.le_of_ble_eq_true rfl) ?_
  refine r_aload_n (pc := 6) C dX11_lays_6 rfl 1 rfl ?_
  refine r_aload_n (pc := 7) C dX11_lays_7 rfl 0 rfl ?_
  obtain ⟨r_4, hc_3, hr⟩ := gBind_some hr
  refine c_X11_leastZ (pc := 8) C dX11_lays_8 q1717 ⟨Nat.le_of_ble_eq_true rfl, Nat.le_of_ble_eq_true rfl⟩ hc_3 (Nat.le_of_ble_eq_true rfl) ?_
  refine r_aload_n (pc := 11) C dX11_lays_11 rfl 0 rfl ?_
  refine r_aload_n (pc := 12) C dX11_lays_12 rfl 1 rfl ?_
  refine r_iload_n (pc := 13) C dX11_lays_13 rfl 2 rfl ?_
  refine r_iconst (pc := 14) C dX11_lays_14 ki1 ?_
  obtain ⟨r_6, hc_5, hr⟩ := gBind_some hr
  refine c_X11_depthOf (pc := 15) C dX11_lays_15 q1721 ⟨Nat.le_of_ble_eq_true rfl, Nat.le_of_ble_eq_true rfl⟩ h1 hc_5 (Nat.le_of_ble_eq_true rfl) ?_
  obtain ⟨r_8, hc_7, hr⟩ := gBind_some hr
  refine c_X11_passes (pc := 18) C dX11_lays_18 q1728 ⟨Nat.le_of_ble_eq_true rfl, Nat.le_of_ble_eq_true rfl⟩ h1 hc_7 (Nat.le_of_ble_eq_true rfl) ?_
  refine r_if_ne (pc := 21) (tgt := 34) C dX11_lays_21 rfl (fun c_9 => ?_) (fun c_9 => ?_)
  · replace hr := (if_neg c_9).symm.trans hr
    refine r_aload_n (pc := 34) C dX11_lays_34 rfl 0 rfl ?_
    refine r_iload_n (pc := 35) C dX11_lays_35 rfl 2 rfl ?_
    obtain ⟨r_11, hc_10, hr⟩ := gBind_some hr
    refine c_X11_topOf (pc := 36) C dX11_lays_36 q1683 ⟨Nat.le_of_ble_eq_true rfl, Nat.le_of_ble_eq_true rfl⟩ hc_10 (Nat.le_of_ble_eq_true rfl) ?_
    refine r_istore (pc := 39) C dX11_lays_39 (by decide) rfl (ls' := [(4, .int r_11), (0, .ref (gad 50 0)), (1, .ref (gad 52 i1)), (2, .int p2), (3, .int p3)]) rfl ?_
    refine r_sub C [1, 2, 3, 4, 0] (ls' := [(0, .ref (gad 50 0)), (1, .ref (gad 52 i1)), (2, .int p2), (3, .int p3), (4, .int r_11)]) rfl ?_
    obtain ⟨ev, hit, hr⟩ := gBind_some hr
    refine gIter_V (step := fun s => X11_lays_L41 i1 p2 p3 s.1 s.2) (P := fun s => Ψ s.2 41 [(0, .ref (gad 50 0)), (1, .ref (gad 52 i1)), (2, .int p2), (3, .int p3), (4, .int (s.1))] []) (K := (fun e => Ψ e 112 [] [])) (fun s w hs hn hx => t_X11_lays_L41 C h1 hs hn hx) FU (r_11, M_2) ev hit ?_
    obtain ⟨M_28, rfl⟩ : ∃ z, z = ev := ⟨_, rfl⟩
    show Ψ M_28 112 [] []
    exact r_vret (pc := 112) CR dX11_lays_112 rfl (gSome hr)
  · replace hr := (if_pos c_9).symm.trans hr
    refine r_aload_n (pc := 24) C dX11_lays_24 rfl 1 rfl ?_
    refine r_sipush (pc := 25) C dX11_lays_25 ks1054 ?_
    refine r_dup2 (pc := 28) C dX11_lays_28 rfl rfl ?_
    obtain ⟨g_29, hr⟩ := gG_some hr
    refine r_ialdN (pc := 29) C dX11_lays_29 rfl (e52 (nf := nf) h1) g_29 rfl ?_
    refine r_iconst (pc := 30) C dX11_lays_30 ki1 ?_
    refine r_iadd (pc := 31) C dX11_lays_31 ?_
    obtain ⟨g_30, hr⟩ := gG_some hr
    obtain ⟨M_31, eM_31, hr⟩ := gLet_some hr
    refine r_iastN (pc := 32) C dX11_lays_32 rfl (e52 (nf := nf) h1) g_30 rfl eM_31 ?_
    exact r_vret (pc := 33) CR dX11_lays_33 rfl (gSome hr)
theorem c_X11_lays {Ψ : gM → Nat → List (Nat × Value) → List Value → Prop} {G : gG5} {nf : Nat} {cc : ByteArray} {own : String} {nL : Nat} {ret : Option FieldType} {fr lo : Nat} {v0 : Option Value} {M0 M : gM} {pc index : Nat} {ls : List (Nat × Value)} {st : List Value} (C : gC Ψ G (gXn nf) cc own nL ret fr lo v0 M0) (d : decode cc pc = .ok (.invokevirtual index, 3)) (hl : Cond.methodLink own index yX11_lays ∈ gws) (hR : 6 ≤ fr ∧ 156 ≤ lo) {i1 : Nat} {p2 : Int32} {p3 : Int32} (h1 : i1 < 20) {M1 : gM} (hr : X11_lays i1 p2 p3 M = some M1) (hcat : (st.map fun v => v.category).sum ≤ 8) (k : Ψ M1 (pc + 3) ls (st)) : Ψ M pc ls (.int p3 :: .int p2 :: .ref (gad 52 i1) :: .ref (gad 50 0) :: st) := r_callV C [.ref (gad 52 i1), .int p2, .int p3] st d (k_X11_lays h1 hr) hl q1715 q69 q127 q1716 hd_X11_lays hR rfl (by decide) (e50 nf) rfl hcat k
theorem hd_X11_pendingIn : yX11_pendingIn.cls ≠ "java/lang/invoke/MethodHandle" ∧ yX11_pendingIn.cls ≠ "java/lang/invoke/VarHandle" ∧ (parseMethodDescriptor yX11_pendingIn.desc).map (fun d => d.parameters.length) = some 2 := by decide +kernel
noncomputable def X11_pendingIn_L39 (i1 : Nat) (x2 : Int32) (x4 : Int32) (x5 : Int32) (x3 : Int32) (x6 : Int32) (M : gM) : Option ((Int32 × Int32) ⊕ Int32) := (if (M.1 52 2 3) ≤ x6 then some (.inr x3) else (X11_place x5 x4 x6 M).bind (fun r_13 => gG (gin (512 + r_13) (gLen 52 i1)) ((if (M.1 52 i1 (Int32.toNatClampNeg (512 + r_13))) = (-1) then gLet ((x3 + 0)) (fun x3_18 => gLet (x6 + 1) (fun x6_19 => some (.inl (x3_18, x6_19)))) else gLet ((x3 + 1)) (fun x3_16 => gLet (x6 + 1) (fun x6_17 => some (.inl (x3_16, x6_17))))))))
theorem t_X11_pendingIn_L39 {Ψ : gM → Nat → List (Nat × Value) → List Value → Prop} {G : gG5} {nf : Nat} {M : gM} {v0 : Option Value} {M0 : gM} {i1 : Nat} {x2 : Int32} {x4 : Int32} {x5 : Int32} {x3 : Int32} {x6 : Int32} {w : ((Int32 × Int32) ⊕ Int32)} (C : gC Ψ G (gXn nf) cX11_pendingIn RX11 7 (some .int) 3 63 v0 M0) (h1 : i1 < 20) (hr : X11_pendingIn_L39 i1 x2 x4 x5 x3 x6 M = some w) (hn : ∀ s, w = .inl s → Ψ M 39 [(0, .ref (gad 50 0)), (1, .ref (gad 52 i1)), (2, .int x2), (3, .int (s.1)), (4, .int x4), (5, .int x5), (6, .int (s.2))] []) (hx : ∀ e, w = .inr e → (fun e => Ψ M 83 [(0, .ref (gad 50 0)), (1, .ref (gad 52 i1)), (2, .int x2), (3, .int e), (4, .int x4), (5, .int x5)] []) e) : Ψ M 39 [(0, .ref (gad 50 0)), (1, .ref (gad 52 i1)), (2, .int x2), (3, .int x3), (4, .int x4), (5, .int x5), (6, .int x6)] [] := by
  refine r_iload (pc := 39) C dX11_pendingIn_39 6 rfl ?_
  refine r_aload_n (pc := 41) C dX11_pendingIn_41 rfl 0 rfl ?_
  refine g50_9 (pc := 42) C dX11_pendingIn_42 q1409 (e50 nf) ?_
  refine r_iconst (pc := 45) C dX11_pendingIn_45 ki3 ?_
  refine r_ialdN (pc := 46) C dX11_pendingIn_46 rfl (e52 (nf := nf) (by decide)) (by decide : gin 3 9 = true) kc3 ?_
  refine r_icmp_ge (pc := 47) (tgt := 83) C dX11_pendingIn_47 rfl (fun c_11 => ?_) (fun c_11 => ?_)
  · replace hr := (if_pos c_11).symm.trans hr
    refine r_sub C [0, 1, 2, 3, 4, 5] (ls' := [(0, .ref (gad 50 0)), (1, .ref (gad 52 i1)), (2, .int x2), (3, .int x3), (4, .int x4), (5, .int x5)]) rfl ?_
    exact hx x3 (gSome hr)
  · replace hr := (if_neg c_11).symm.trans hr
    refine r_iload_n (pc := 50) C dX11_pendingIn_50 rfl 3 rfl ?_
    refine r_aload_n (pc := 51) C dX11_pendingIn_51 rfl 1 rfl ?_
    refine r_sipush (pc := 52) C dX11_pendingIn_52 ks512 ?_
    refine r_iload (pc := 55) C dX11_pendingIn_55 5 rfl ?_
    refine r_iload (pc := 57) C dX11_pendingIn_57 4 rfl ?_
    refine r_iload (pc := 59) C dX11_pendingIn_59 6 rfl ?_
    obtain ⟨r_13, hc_12, hr⟩ := gBind_some hr
    refine c_X11_place (pc := 61) C dX11_pendingIn_61 q1725 ⟨Nat.le_of_ble_eq_true rfl, Nat.le_of_ble_eq_true rfl⟩ hc_12 (Nat.le_of_ble_eq_true rfl) ?_
    refine r_iadd (pc := 64) C dX11_pendingIn_64 ?_
    obtain ⟨g_14, hr⟩ := gG_some hr
    refine r_ialdN (pc := 65) C dX11_pendingIn_65 rfl (e52 (nf := nf) h1) g_14 rfl ?_
    refine r_iconst (pc := 66) C dX11_pendingIn_66 kim1 ?_
    refine r_icmp_ne (pc := 67) (tgt := 74) C dX11_pendingIn_67 rfl (fun c_15 => ?_) (fun c_15 => ?_)
    · replace hr := (if_neg c_15).symm.trans hr
      refine r_iconst (pc := 74) C dX11_pendingIn_74 ki1 ?_
      refine r_iadd (pc := 75) C dX11_pendingIn_75 ?_
      obtain ⟨x3_16, ex3_16, hr⟩ := gLet_some hr
      refine r_istore_n (pc := 76) C dX11_pendingIn_76 rfl (by decide) ex3_16 (ls' := [(3, .int x3_16), (0, .ref (gad 50 0)), (1, .ref (gad 52 i1)), (2, .int x2), (4, .int x4), (5, .int x5), (6, .int x6)]) rfl ?_
      obtain ⟨x6_17, ex6_17, hr⟩ := gLet_some hr
      refine r_iinc (pc := 77) C dX11_pendingIn_77 6 rfl rfl (by decide) ex6_17 (ls' := [(6, .int x6_17), (3, .int x3_16), (0, .ref (gad 50 0)), (1, .ref (gad 52 i1)), (2, .int x2), (4, .int x4), (5, .int x5)]) rfl ?_
      refine r_goto (pc := 80) (tgt := 39) C dX11_pendingIn_80 rfl ?_
      refine r_sub C [2, 3, 4, 1, 5, 6, 0] (ls' := [(0, .ref (gad 50 0)), (1, .ref (gad 52 i1)), (2, .int x2), (3, .int x3_16), (4, .int x4), (5, .int x5), (6, .int x6_17)]) rfl ?_
      exact hn (x3_16, x6_17) (gSome hr)
    · replace hr := (if_pos c_15).symm.trans hr
      refine r_iconst (pc := 70) C dX11_pendingIn_70 ki0 ?_
      refine r_goto (pc := 71) (tgt := 75) C dX11_pendingIn_71 rfl ?_
      refine r_iadd (pc := 75) C dX11_pendingIn_75 ?_
      obtain ⟨x3_18, ex3_18, hr⟩ := gLet_some hr
      refine r_istore_n (pc := 76) C dX11_pendingIn_76 rfl (by decide) ex3_18 (ls' := [(3, .int x3_18), (0, .ref (gad 50 0)), (1, .ref (gad 52 i1)), (2, .int x2), (4, .int x4), (5, .int x5), (6, .int x6)]) rfl ?_
      obtain ⟨x6_19, ex6_19, hr⟩ := gLet_some hr
      refine r_iinc (pc := 77) C dX11_pendingIn_77 6 rfl rfl (by decide) ex6_19 (ls' := [(6, .int x6_19), (3, .int x3_18), (0, .ref (gad 50 0)), (1, .ref (gad 52 i1)), (2, .int x2), (4, .int x4), (5, .int x5)]) rfl ?_
      refine r_goto (pc := 80) (tgt := 39) C dX11_pendingIn_80 rfl ?_
      refine r_sub C [2, 3, 4, 1, 5, 6, 0] (ls' := [(0, .ref (gad 50 0)), (1, .ref (gad 52 i1)), (2, .int x2), (3, .int x3_18), (4, .int x4), (5, .int x5), (6, .int x6_19)]) rfl ?_
      exact hn (x3_18, x6_19) (gSome hr)
noncomputable def X11_pendingIn_L26 (i1 : Nat) (x2 : Int32) (x4 : Int32) (x3 : Int32) (x5 : Int32) (M : gM) : Option ((Int32 × Int32) ⊕ Int32) := (X11_rightOf x2 M).bind (fun r_9 => (if r_9 ≤ x5 then some (.inr x3) else (gIter (fun s => X11_pendingIn_L39 i1 x2 x4 x5 s.1 s.2 M) FU (x3, 0)).bind (fun x3_20 => gLet (x5 + 1) (fun x5_21 => some (.inl (x3_20, x5_21))))))
theorem t_X11_pendingIn_L26 {Ψ : gM → Nat → List (Nat × Value) → List Value → Prop} {G : gG5} {nf : Nat} {M : gM} {v0 : Option Value} {M0 : gM} {i1 : Nat} {x2 : Int32} {x4 : Int32} {x3 : Int32} {x5 : Int32} {w : ((Int32 × Int32) ⊕ Int32)} (C : gC Ψ G (gXn nf) cX11_pendingIn RX11 7 (some .int) 3 63 v0 M0) (h1 : i1 < 20) (hr : X11_pendingIn_L26 i1 x2 x4 x3 x5 M = some w) (hn : ∀ s, w = .inl s → Ψ M 26 [(0, .ref (gad 50 0)), (1, .ref (gad 52 i1)), (2, .int x2), (3, .int (s.1)), (4, .int x4), (5, .int (s.2))] []) (hx : ∀ e, w = .inr e → (fun e => Ψ M 89 [(0, .ref (gad 50 0)), (1, .ref (gad 52 i1)), (2, .int x2), (3, .int e), (4, .int x4)] []) e) : Ψ M 26 [(0, .ref (gad 50 0)), (1, .ref (gad 52 i1)), (2, .int x2), (3, .int x3), (4, .int x4), (5, .int x5)] [] := by
  refine r_iload (pc := 26) C dX11_pendingIn_26 5 rfl ?_
  refine r_aload_n (pc := 28) C dX11_pendingIn_28 rfl 0 rfl ?_
  refine r_iload_n (pc := 29) C dX11_pendingIn_29 rfl 2 rfl ?_
  obtain ⟨r_9, hc_8, hr⟩ := gBind_some hr
  refine c_X11_rightOf (pc := 30) C dX11_pendingIn_30 q1679 ⟨Nat.le_of_ble_eq_true rfl, Nat.le_of_ble_eq_true rfl⟩ hc_8 (Nat.le_of_ble_eq_true rfl) ?_
  refine r_icmp_ge (pc := 33) (tgt := 89) C dX11_pendingIn_33 rfl (fun c_10 => ?_) (fun c_10 => ?_)
  · replace hr := (if_pos c_10).symm.trans hr
    refine r_sub C [0, 1, 2, 3, 4] (ls' := [(0, .ref (gad 50 0)), (1, .ref (gad 52 i1)), (2, .int x2), (3, .int x3), (4, .int x4)]) rfl ?_
    exact hx x3 (gSome hr)
  · replace hr := (if_neg c_10).symm.trans hr
    refine r_iconst (pc := 36) C dX11_pendingIn_36 ki0 ?_
    refine r_istore (pc := 37) C dX11_pendingIn_37 (by decide) rfl (ls' := [(6, .int 0), (0, .ref (gad 50 0)), (1, .ref (gad 52 i1)), (2, .int x2), (3, .int x3), (4, .int x4), (5, .int x5)]) rfl ?_
    refine r_sub C [1, 2, 3, 4, 5, 6, 0] (ls' := [(0, .ref (gad 50 0)), (1, .ref (gad 52 i1)), (2, .int x2), (3, .int x3), (4, .int x4), (5, .int x5), (6, .int 0)]) rfl ?_
    obtain ⟨ev, hit, hr⟩ := gBind_some hr
    refine gIter_V (step := fun s => X11_pendingIn_L39 i1 x2 x4 x5 s.1 s.2 M) (P := fun s => Ψ M 39 [(0, .ref (gad 50 0)), (1, .ref (gad 52 i1)), (2, .int x2), (3, .int (s.1)), (4, .int x4), (5, .int x5), (6, .int (s.2))] []) (K := (fun e => Ψ M 83 [(0, .ref (gad 50 0)), (1, .ref (gad 52 i1)), (2, .int x2), (3, .int e), (4, .int x4), (5, .int x5)] [])) (fun s w hs hn hx => t_X11_pendingIn_L39 C h1 hs hn hx) FU (x3, 0) ev hit ?_
    obtain ⟨x3_20, rfl⟩ : ∃ z, z = ev := ⟨_, rfl⟩
    show Ψ M 83 [(0, .ref (gad 50 0)), (1, .ref (gad 52 i1)), (2, .int x2), (3, .int x3_20), (4, .int x4), (5, .int x5)] []
    obtain ⟨x5_21, ex5_21, hr⟩ := gLet_some hr
    refine r_iinc (pc := 83) C dX11_pendingIn_83 5 rfl rfl (by decide) ex5_21 (ls' := [(5, .int x5_21), (0, .ref (gad 50 0)), (1, .ref (gad 52 i1)), (2, .int x2), (3, .int x3_20), (4, .int x4)]) rfl ?_
    refine r_goto (pc := 86) (tgt := 26) C dX11_pendingIn_86 rfl ?_
    refine r_sub C [1, 2, 3, 4, 5, 0] (ls' := [(0, .ref (gad 50 0)), (1, .ref (gad 52 i1)), (2, .int x2), (3, .int x3_20), (4, .int x4), (5, .int x5_21)]) rfl ?_
    exact hn (x3_20, x5_21) (gSome hr)
noncomputable def X11_pendingIn_L9 (i1 : Nat) (x2 : Int32) (x3 : Int32) (x4 : Int32) (M : gM) : Option ((Int32 × Int32) ⊕ Int32) := (X11_lowOf x2 M).bind (fun r_4 => (if r_4 ≤ x4 then some (.inr x3) else (X11_leftOf x2 M).bind (fun r_7 => (gIter (fun s => X11_pendingIn_L26 i1 x2 x4 s.1 s.2 M) FU (x3, r_7)).bind (fun x3_22 => gLet (x4 + 1) (fun x4_23 => some (.inl (x3_22, x4_23)))))))
theorem t_X11_pendingIn_L9 {Ψ : gM → Nat → List (Nat × Value) → List Value → Prop} {G : gG5} {nf : Nat} {M : gM} {v0 : Option Value} {M0 : gM} {i1 : Nat} {x2 : Int32} {x3 : Int32} {x4 : Int32} {w : ((Int32 × Int32) ⊕ Int32)} (C : gC Ψ G (gXn nf) cX11_pendingIn RX11 7 (some .int) 3 63 v0 M0) (h1 : i1 < 20) (hr : X11_pendingIn_L9 i1 x2 x3 x4 M = some w) (hn : ∀ s, w = .inl s → Ψ M 9 [(0, .ref (gad 50 0)), (1, .ref (gad 52 i1)), (2, .int x2), (3, .int (s.1)), (4, .int (s.2))] []) (hx : ∀ e, w = .inr e → (fun e => Ψ M 95 [(3, .int e)] []) e) : Ψ M 9 [(0, .ref (gad 50 0)), (1, .ref (gad 52 i1)), (2, .int x2), (3, .int x3), (4, .int x4)] [] := by
  refine r_iload (pc := 9) C dX11_pendingIn_9 4 rfl ?_
  refine r_aload_n (pc := 11) C dX11_pendingIn_11 rfl 0 rfl ?_
  refine r_iload_n (pc := 12) C dX11_pendingIn_12 rfl 2 rfl ?_
  obtain ⟨r_4, hc_3, hr⟩ := gBind_some hr
  refine c_X11_lowOf (pc := 13) C dX11_pendingIn_13 q1687 ⟨Nat.le_of_ble_eq_true rfl, Nat.le_of_ble_eq_true rfl⟩ hc_3 (Nat.le_of_ble_eq_true rfl) ?_
  refine r_icmp_ge (pc := 16) (tgt := 95) C dX11_pendingIn_16 rfl (fun c_5 => ?_) (fun c_5 => ?_)
  · replace hr := (if_pos c_5).symm.trans hr
    refine r_sub C [3] (ls' := [(3, .int x3)]) rfl ?_
    exact hx x3 (gSome hr)
  · replace hr := (if_neg c_5).symm.trans hr
    refine r_aload_n (pc := 19) C dX11_pendingIn_19 rfl 0 rfl ?_
    refine r_iload_n (pc := 20) C dX11_pendingIn_20 rfl 2 rfl ?_
    obtain ⟨r_7, hc_6, hr⟩ := gBind_some hr
    refine c_X11_leftOf (pc := 21) C dX11_pendingIn_21 q1675 ⟨Nat.le_of_ble_eq_true rfl, Nat.le_of_ble_eq_true rfl⟩ hc_6 (Nat.le_of_ble_eq_true rfl) ?_
    refine r_istore (pc := 24) C dX11_pendingIn_24 (by decide) rfl (ls' := [(5, .int r_7), (0, .ref (gad 50 0)), (1, .ref (gad 52 i1)), (2, .int x2), (3, .int x3), (4, .int x4)]) rfl ?_
    refine r_sub C [1, 2, 3, 4, 5, 0] (ls' := [(0, .ref (gad 50 0)), (1, .ref (gad 52 i1)), (2, .int x2), (3, .int x3), (4, .int x4), (5, .int r_7)]) rfl ?_
    obtain ⟨ev, hit, hr⟩ := gBind_some hr
    refine gIter_V (step := fun s => X11_pendingIn_L26 i1 x2 x4 s.1 s.2 M) (P := fun s => Ψ M 26 [(0, .ref (gad 50 0)), (1, .ref (gad 52 i1)), (2, .int x2), (3, .int (s.1)), (4, .int x4), (5, .int (s.2))] []) (K := (fun e => Ψ M 89 [(0, .ref (gad 50 0)), (1, .ref (gad 52 i1)), (2, .int x2), (3, .int e), (4, .int x4)] [])) (fun s w hs hn hx => t_X11_pendingIn_L26 C h1 hs hn hx) FU (x3, r_7) ev hit ?_
    obtain ⟨x3_22, rfl⟩ : ∃ z, z = ev := ⟨_, rfl⟩
    show Ψ M 89 [(0, .ref (gad 50 0)), (1, .ref (gad 52 i1)), (2, .int x2), (3, .int x3_22), (4, .int x4)] []
    obtain ⟨x4_23, ex4_23, hr⟩ := gLet_some hr
    refine r_iinc (pc := 89) C dX11_pendingIn_89 4 rfl rfl (by decide) ex4_23 (ls' := [(4, .int x4_23), (0, .ref (gad 50 0)), (1, .ref (gad 52 i1)), (2, .int x2), (3, .int x3_22)]) rfl ?_
    refine r_goto (pc := 92) (tgt := 9) C dX11_pendingIn_92 rfl ?_
    refine r_sub C [1, 2, 3, 4, 0] (ls' := [(0, .ref (gad 50 0)), (1, .ref (gad 52 i1)), (2, .int x2), (3, .int x3_22), (4, .int x4_23)]) rfl ?_
    exact hn (x3_22, x4_23) (gSome hr)
noncomputable def X11_pendingIn (i1 : Nat) (p2 : Int32) (M : gM) : Option Int32 := (X11_topOf p2 M).bind (fun r_2 => (gIter (fun s => X11_pendingIn_L9 i1 p2 s.1 s.2 M) FU (0, r_2)).bind (fun x3_24 => some x3_24))
theorem k_X11_pendingIn {G : gG5} {nf : Nat} {M : gM} {i1 : Nat} {p2 : Int32} (h1 : i1 < 20) {r : Int32} (hr : X11_pendingIn i1 p2 M = some r) : gMet G (gXn nf) yX11_pendingIn cX11_pendingIn 7 (some .int) 3 63 M [.ref (gad 50 0), .ref (gad 52 i1), .int p2] (some (.int r)) M := by
  refine gMet_of pl_X11 rfl (Nat.le_of_ble_eq_true rfl) (fun Ψ C CR => ?_)
  show Ψ M 0 [(0, .ref (gad 50 0)), (1, .ref (gad 52 i1)), (2, .int p2)] []
  refine r_iconst (pc := 0) C dX11_pendingIn_0 ki0 ?_
  refine r_istore_n (pc := 1) C dX11_pendingIn_1 rfl (by decide) rfl (ls' := [(3, .int 0), (0, .ref (gad 50 0)), (1, .ref (gad 52 i1)), (2, .int p2)]) rfl ?_
  refine r_aload_n (pc := 2) C dX11_pendingIn_2 rfl 1 rfl ?_
  refine r_iload_n (pc := 3) C dX11_pendingIn_3 rfl 3 rfl ?_
  obtain ⟨r_2, hc_1, hr⟩ := gBind_some hr
  refine c_X11_topOf (pc := 4) C dX11_pendingIn_4 q1683 ⟨Nat.le_of_ble_eq_true rfl, Nat.le_of_ble_eq_true rfl⟩ hc_1 (Nat.le_of_ble_eq_true rfl) ?_
  refine r_istore (pc := 7) C dX11_pendingIn_7 (by decide) rfl (ls' := [(4, .int r_2), (3, .int 0), (0, .ref (gad 50 0)), (1, .ref (gad 52 i1)), (2, .int p2)]) rfl ?_
  refine r_sub C [2, 3, 4, 1, 0] (ls' := [(0, .ref (gad 50 0)), (1, .ref (gad 52 i1)), (2, .int p2), (3, .int 0), (4, .int r_2)]) rfl ?_
  obtain ⟨ev, hit, hr⟩ := gBind_some hr
  refine gIter_V (step := fun s => X11_pendingIn_L9 i1 p2 s.1 s.2 M) (P := fun s => Ψ M 9 [(0, .ref (gad 50 0)), (1, .ref (gad 52 i1)), (2, .int p2), (3, .int (s.1)), (4, .int (s.2))] []) (K := (fun e => Ψ M 95 [(3, .int e)] [])) (fun s w hs hn hx => t_X11_pendingIn_L9 C h1 hs hn hx) FU (0, r_2) ev hit ?_
  obtain ⟨x3_24, rfl⟩ : ∃ z, z = ev := ⟨_, rfl⟩
  show Ψ M 95 [(3, .int x3_24)] []
  refine r_iload_n (pc := 95) C dX11_pendingIn_95 rfl 0 rfl ?_
  exact r_iret (pc := 96) CR dX11_pendingIn_96 (congrArg (fun z => some (Value.int z)) (gSome hr)) rfl
theorem c_X11_pendingIn {Ψ : gM → Nat → List (Nat × Value) → List Value → Prop} {G : gG5} {nf : Nat} {cc : ByteArray} {own : String} {nL : Nat} {ret : Option FieldType} {fr lo : Nat} {v0 : Option Value} {M0 M : gM} {pc index : Nat} {ls : List (Nat × Value)} {st : List Value} (C : gC Ψ G (gXn nf) cc own nL ret fr lo v0 M0) (d : decode cc pc = .ok (.invokevirtual index, 3)) (hl : Cond.methodLink own index yX11_pendingIn ∈ gws) (hR : 4 ≤ fr ∧ 89 ≤ lo) {i1 : Nat} {p2 : Int32} (h1 : i1 < 20) {r : Int32} (hr : X11_pendingIn i1 p2 M = some r) (hcat : (st.map fun v => v.category).sum ≤ 8) (k : Ψ M (pc + 3) ls (.int r :: st)) : Ψ M pc ls (.int p2 :: .ref (gad 52 i1) :: .ref (gad 50 0) :: st) := r_callV C [.ref (gad 52 i1), .int p2] st d (k_X11_pendingIn h1 hr) hl q1797 q84 q127 q1798 hd_X11_pendingIn hR rfl (by decide) (e50 nf) rfl hcat k
theorem hd_X11_flushes : yX11_flushes.cls ≠ "java/lang/invoke/MethodHandle" ∧ yX11_flushes.cls ≠ "java/lang/invoke/VarHandle" ∧ (parseMethodDescriptor yX11_flushes.desc).map (fun d => d.parameters.length) = some 2 := by decide +kernel
noncomputable def X11_flushes_L17 (i1 : Nat) (x2 : Int32) (x3 : Int32) (x4 : Int32) (x5 : Int32) (M : gM) : Option ((Int32 × gM) ⊕ gM) := (if x4 < x5 then some (.inr M) else gG (gin (x3 + x5) (gLen 52 i1)) ((X11_lays i1 x2 (M.1 52 i1 (Int32.toNatClampNeg (x3 + x5))) M).bind (fun M_7 => gLet (x5 + 1) (fun x5_8 => some (.inl (x5_8, M_7))))))
theorem t_X11_flushes_L17 {Ψ : gM → Nat → List (Nat × Value) → List Value → Prop} {G : gG5} {nf : Nat} {M : gM} {v0 : Option Value} {M0 : gM} {i1 : Nat} {x2 : Int32} {x3 : Int32} {x4 : Int32} {x5 : Int32} {w : ((Int32 × gM) ⊕ gM)} (C : gC Ψ G (gXn nf) cX11_flushes RX11 8 none 6 156 v0 M0) (h1 : i1 < 20) (hr : X11_flushes_L17 i1 x2 x3 x4 x5 M = some w) (hn : ∀ s, w = .inl s → Ψ s.2 17 [(0, .ref (gad 50 0)), (1, .ref (gad 52 i1)), (2, .int x2), (3, .int x3), (4, .int x4), (5, .int (s.1))] []) (hx : ∀ e, w = .inr e → (fun e => Ψ e 42 [(0, .ref (gad 50 0)), (1, .ref (gad 52 i1)), (2, .int x2), (3, .int x3), (4, .int x4)] []) e) : Ψ M 17 [(0, .ref (gad 50 0)), (1, .ref (gad 52 i1)), (2, .int x2), (3, .int x3), (4, .int x4), (5, .int x5)] [] := by
  refine r_iload (pc := 17) C dX11_flushes_17 5 rfl ?_
  refine r_iload (pc := 19) C dX11_flushes_19 4 rfl ?_
  refine r_icmp_gt (pc := 21) (tgt := 42) C dX11_flushes_21 rfl (fun c_4 => ?_) (fun c_4 => ?_)
  · replace hr := (if_pos c_4).symm.trans hr
    refine r_sub C [0, 1, 2, 3, 4] (ls' := [(0, .ref (gad 50 0)), (1, .ref (gad 52 i1)), (2, .int x2), (3, .int x3), (4, .int x4)]) rfl ?_
    exact hx M (gSome hr)
  · replace hr := (if_neg c_4).symm.trans hr
    refine r_aload_n (pc := 24) C dX11_flushes_24 rfl 0 rfl ?_
    refine r_aload_n (pc := 25) C dX11_flushes_25 rfl 1 rfl ?_
    refine r_iload_n (pc := 26) C dX11_flushes_26 rfl 2 rfl ?_
    refine r_aload_n (pc := 27) C dX11_flushes_27 rfl 1 rfl ?_
    refine r_iload_n (pc := 28) C dX11_flushes_28 rfl 3 rfl ?_
    refine r_iload (pc := 29) C dX11_flushes_29 5 rfl ?_
    refine r_iadd (pc := 31) C dX11_flushes_31 ?_
    obtain ⟨g_5, hr⟩ := gG_some hr
    refine r_ialdN (pc := 32) C dX11_flushes_32 rfl (e52 (nf := nf) h1) g_5 rfl ?_
    obtain ⟨M_7, hc_6, hr⟩ := gBind_some hr
    refine c_X11_lays (pc := 33) C dX11_flushes_33 q1713 ⟨Nat.le_of_ble_eq_true rfl, Nat.le_of_ble_eq_true rfl⟩ h1 hc_6 (Nat.le_of_ble_eq_true rfl) ?_
    obtain ⟨x5_8, ex5_8, hr⟩ := gLet_some hr
    refine r_iinc (pc := 36) C dX11_flushes_36 5 rfl rfl (by decide) ex5_8 (ls' := [(5, .int x5_8), (0, .ref (gad 50 0)), (1, .ref (gad 52 i1)), (2, .int x2), (3, .int x3), (4, .int x4)]) rfl ?_
    refine r_goto (pc := 39) (tgt := 17) C dX11_flushes_39 rfl ?_
    refine r_sub C [1, 2, 3, 4, 5, 0] (ls' := [(0, .ref (gad 50 0)), (1, .ref (gad 52 i1)), (2, .int x2), (3, .int x3), (4, .int x4), (5, .int x5_8)]) rfl ?_
    exact hn (x5_8, M_7) (gSome hr)
noncomputable def X11_flushes_L101 (i1 : Nat) (x2 : Int32) (x5 : Int32) (x6 : Int32) (x7 : Int32) (M : gM) : Option ((Int32 × gM) ⊕ gM) := (if (M.1 52 2 3) ≤ x7 then some (.inr M) else (X11_shadesPending i1 x6 x5 x7 M).bind (fun M_28 => gLet (x7 + 1) (fun x7_29 => some (.inl (x7_29, M_28)))))
theorem t_X11_flushes_L101 {Ψ : gM → Nat → List (Nat × Value) → List Value → Prop} {G : gG5} {nf : Nat} {M : gM} {v0 : Option Value} {M0 : gM} {i1 : Nat} {x2 : Int32} {x5 : Int32} {x6 : Int32} {x7 : Int32} {w : ((Int32 × gM) ⊕ gM)} (C : gC Ψ G (gXn nf) cX11_flushes RX11 8 none 6 156 v0 M0) (h1 : i1 < 20) (hr : X11_flushes_L101 i1 x2 x5 x6 x7 M = some w) (hn : ∀ s, w = .inl s → Ψ s.2 101 [(0, .ref (gad 50 0)), (1, .ref (gad 52 i1)), (2, .int x2), (5, .int x5), (6, .int x6), (7, .int (s.1))] []) (hx : ∀ e, w = .inr e → (fun e => Ψ e 129 [(0, .ref (gad 50 0)), (1, .ref (gad 52 i1)), (2, .int x2), (5, .int x5), (6, .int x6)] []) e) : Ψ M 101 [(0, .ref (gad 50 0)), (1, .ref (gad 52 i1)), (2, .int x2), (5, .int x5), (6, .int x6), (7, .int x7)] [] := by
  refine r_iload (pc := 101) C dX11_flushes_101 5 rfl ?_
  refine r_aload_n (pc := 103) C dX11_flushes_103 rfl 0 rfl ?_
  refine g50_9 (pc := 104) C dX11_flushes_104 q1409 (e50 nf) ?_
  refine r_iconst (pc := 107) C dX11_flushes_107 ki3 ?_
  refine r_ialdN (pc := 108) C dX11_flushes_108 rfl (e52 (nf := nf) (by decide)) (by decide : gin 3 9 = true) kc3 ?_
  refine r_icmp_ge (pc := 109) (tgt := 129) C dX11_flushes_109 rfl (fun c_26 => ?_) (fun c_26 => ?_)
  · replace hr := (if_pos c_26).symm.trans hr
    refine r_sub C [0, 1, 2, 3, 4] (ls' := [(0, .ref (gad 50 0)), (1, .ref (gad 52 i1)), (2, .int x2), (5, .int x5), (6, .int x6)]) rfl ?_
    exact hx M (gSome hr)
  · replace hr := (if_neg c_26).symm.trans hr
    refine r_aload_n (pc := 112) C dX11_flushes_112 rfl 0 rfl ?_
    refine r_aload_n (pc := 113) C dX11_flushes_113 rfl 1 rfl ?_
    refine r_iload (pc := 114) C dX11_flushes_114 4 rfl ?_
    refine r_iload (pc := 116) C dX11_flushes_116 3 rfl ?_
    refine r_iload (pc := 118) C dX11_flushes_118 5 rfl ?_
    obtain ⟨M_28, hc_27, hr⟩ := gBind_some hr
    refine c_X11_shadesPending (pc := 120) C dX11_flushes_120 q1758 ⟨Nat.le_of_ble_eq_true rfl, Nat.le_of_ble_eq_true rfl⟩ h1 hc_27 (Nat.le_of_ble_eq_true rfl) ?_
    obtain ⟨x7_29, ex7_29, hr⟩ := gLet_some hr
    refine r_iinc (pc := 123) C dX11_flushes_123 5 rfl rfl (by decide) ex7_29 (ls' := [(7, .int x7_29), (0, .ref (gad 50 0)), (1, .ref (gad 52 i1)), (2, .int x2), (5, .int x5), (6, .int x6)]) rfl ?_
    refine r_goto (pc := 126) (tgt := 101) C dX11_flushes_126 rfl ?_
    refine r_sub C [1, 2, 3, 4, 5, 0] (ls' := [(0, .ref (gad 50 0)), (1, .ref (gad 52 i1)), (2, .int x2), (5, .int x5), (6, .int x6), (7, .int x7_29)]) rfl ?_
    exact hn (x7_29, M_28) (gSome hr)
noncomputable def X11_flushes_L88 (i1 : Nat) (x2 : Int32) (x5 : Int32) (x6 : Int32) (M : gM) : Option ((Int32 × gM) ⊕ gM) := (X11_rightOf x2 M).bind (fun r_24 => (if r_24 ≤ x6 then some (.inr M) else (gIter (fun s => X11_flushes_L101 i1 x2 x5 x6 s.1 s.2) FU (0, M)).bind (fun M_30 => gLet (x6 + 1) (fun x6_31 => some (.inl (x6_31, M_30))))))
theorem t_X11_flushes_L88 {Ψ : gM → Nat → List (Nat × Value) → List Value → Prop} {G : gG5} {nf : Nat} {M : gM} {v0 : Option Value} {M0 : gM} {i1 : Nat} {x2 : Int32} {x5 : Int32} {x6 : Int32} {w : ((Int32 × gM) ⊕ gM)} (C : gC Ψ G (gXn nf) cX11_flushes RX11 8 none 6 156 v0 M0) (h1 : i1 < 20) (hr : X11_flushes_L88 i1 x2 x5 x6 M = some w) (hn : ∀ s, w = .inl s → Ψ s.2 88 [(0, .ref (gad 50 0)), (1, .ref (gad 52 i1)), (2, .int x2), (5, .int x5), (6, .int (s.1))] []) (hx : ∀ e, w = .inr e → (fun e => Ψ e 135 [(0, .ref (gad 50 0)), (1, .ref (gad 52 i1)), (2, .int x2), (5, .int x5)] []) e) : Ψ M 88 [(0, .ref (gad 50 0)), (1, .ref (gad 52 i1)), (2, .int x2), (5, .int x5), (6, .int x6)] [] := by
  refine r_iload (pc := 88) C dX11_flushes_88 4 rfl ?_
  refine r_aload_n (pc := 90) C dX11_flushes_90 rfl 0 rfl ?_
  refine r_iload_n (pc := 91) C dX11_flushes_91 rfl 2 rfl ?_
  obtain ⟨r_24, hc_23, hr⟩ := gBind_some hr
  refine c_X11_rightOf (pc := 92) C dX11_flushes_92 q1679 ⟨Nat.le_of_ble_eq_true rfl, Nat.le_of_ble_eq_true rfl⟩ hc_23 (Nat.le_of_ble_eq_true rfl) ?_
  refine r_icmp_ge (pc := 95) (tgt := 135) C dX11_flushes_95 rfl (fun c_25 => ?_) (fun c_25 => ?_)
  · replace hr := (if_pos c_25).symm.trans hr
    refine r_sub C [0, 1, 2, 3] (ls' := [(0, .ref (gad 50 0)), (1, .ref (gad 52 i1)), (2, .int x2), (5, .int x5)]) rfl ?_
    exact hx M (gSome hr)
  · replace hr := (if_neg c_25).symm.trans hr
    refine r_iconst (pc := 98) C dX11_flushes_98 ki0 ?_
    refine r_istore (pc := 99) C dX11_flushes_99 (by decide) rfl (ls' := [(7, .int 0), (0, .ref (gad 50 0)), (1, .ref (gad 52 i1)), (2, .int x2), (5, .int x5), (6, .int x6)]) rfl ?_
    refine r_sub C [1, 2, 3, 4, 5, 0] (ls' := [(0, .ref (gad 50 0)), (1, .ref (gad 52 i1)), (2, .int x2), (5, .int x5), (6, .int x6), (7, .int 0)]) rfl ?_
    obtain ⟨ev, hit, hr⟩ := gBind_some hr
    refine gIter_V (step := fun s => X11_flushes_L101 i1 x2 x5 x6 s.1 s.2) (P := fun s => Ψ s.2 101 [(0, .ref (gad 50 0)), (1, .ref (gad 52 i1)), (2, .int x2), (5, .int x5), (6, .int x6), (7, .int (s.1))] []) (K := (fun e => Ψ e 129 [(0, .ref (gad 50 0)), (1, .ref (gad 52 i1)), (2, .int x2), (5, .int x5), (6, .int x6)] [])) (fun s w hs hn hx => t_X11_flushes_L101 C h1 hs hn hx) FU (0, M) ev hit ?_
    obtain ⟨M_30, rfl⟩ : ∃ z, z = ev := ⟨_, rfl⟩
    show Ψ M_30 129 [(0, .ref (gad 50 0)), (1, .ref (gad 52 i1)), (2, .int x2), (5, .int x5), (6, .int x6)] []
    obtain ⟨x6_31, ex6_31, hr⟩ := gLet_some hr
    refine r_iinc (pc := 129) C dX11_flushes_129 4 rfl rfl (by decide) ex6_31 (ls' := [(6, .int x6_31), (0, .ref (gad 50 0)), (1, .ref (gad 52 i1)), (2, .int x2), (5, .int x5)]) rfl ?_
    refine r_goto (pc := 132) (tgt := 88) C dX11_flushes_132 rfl ?_
    refine r_sub C [1, 2, 3, 4, 0] (ls' := [(0, .ref (gad 50 0)), (1, .ref (gad 52 i1)), (2, .int x2), (5, .int x5), (6, .int x6_31)]) rfl ?_
    exact hn (x6_31, M_30) (gSome hr)
noncomputable def X11_flushes_L71 (i1 : Nat) (x2 : Int32) (x5 : Int32) (M : gM) : Option ((Int32 × gM) ⊕ gM) := (X11_lowOf x2 M).bind (fun r_19 => (if r_19 ≤ x5 then some (.inr M) else (X11_leftOf x2 M).bind (fun r_22 => (gIter (fun s => X11_flushes_L88 i1 x2 x5 s.1 s.2) FU (r_22, M)).bind (fun M_32 => gLet (x5 + 1) (fun x5_33 => some (.inl (x5_33, M_32)))))))
theorem t_X11_flushes_L71 {Ψ : gM → Nat → List (Nat × Value) → List Value → Prop} {G : gG5} {nf : Nat} {M : gM} {v0 : Option Value} {M0 : gM} {i1 : Nat} {x2 : Int32} {x5 : Int32} {w : ((Int32 × gM) ⊕ gM)} (C : gC Ψ G (gXn nf) cX11_flushes RX11 8 none 6 156 v0 M0) (h1 : i1 < 20) (hr : X11_flushes_L71 i1 x2 x5 M = some w) (hn : ∀ s, w = .inl s → Ψ s.2 71 [(0, .ref (gad 50 0)), (1, .ref (gad 52 i1)), (2, .int x2), (5, .int (s.1))] []) (hx : ∀ e, w = .inr e → (fun e => Ψ e 141 [] []) e) : Ψ M 71 [(0, .ref (gad 50 0)), (1, .ref (gad 52 i1)), (2, .int x2), (5, .int x5)] [] := by
  refine r_iload (pc := 71) C dX11_flushes_71 3 rfl ?_
  refine r_aload_n (pc := 73) C dX11_flushes_73 rfl 0 rfl ?_
  refine r_iload_n (pc := 74) C dX11_flushes_74 rfl 2 rfl ?_
  obtain ⟨r_19, hc_18, hr⟩ := gBind_some hr
  refine c_X11_lowOf (pc := 75) C dX11_flushes_75 q1687 ⟨Nat.le_of_ble_eq_true rfl, Nat.le_of_ble_eq_true rfl⟩ hc_18 (Nat.le_of_ble_eq_true rfl) ?_
  refine r_icmp_ge (pc := 78) (tgt := 141) C dX11_flushes_78 rfl (fun c_20 => ?_) (fun c_20 => ?_)
  · replace hr := (if_pos c_20).symm.trans hr
    refine r_sub C [] (ls' := []) rfl ?_
    exact hx M (gSome hr)
  · replace hr := (if_neg c_20).symm.trans hr
    refine r_aload_n (pc := 81) C dX11_flushes_81 rfl 0 rfl ?_
    refine r_iload_n (pc := 82) C dX11_flushes_82 rfl 2 rfl ?_
    obtain ⟨r_22, hc_21, hr⟩ := gBind_some hr
    refine c_X11_leftOf (pc := 83) C dX11_flushes_83 q1675 ⟨Nat.le_of_ble_eq_true rfl, Nat.le_of_ble_eq_true rfl⟩ hc_21 (Nat.le_of_ble_eq_true rfl) ?_
    refine r_istore (pc := 86) C dX11_flushes_86 (by decide) rfl (ls' := [(6, .int r_22), (0, .ref (gad 50 0)), (1, .ref (gad 52 i1)), (2, .int x2), (5, .int x5)]) rfl ?_
    refine r_sub C [1, 2, 3, 4, 0] (ls' := [(0, .ref (gad 50 0)), (1, .ref (gad 52 i1)), (2, .int x2), (5, .int x5), (6, .int r_22)]) rfl ?_
    obtain ⟨ev, hit, hr⟩ := gBind_some hr
    refine gIter_V (step := fun s => X11_flushes_L88 i1 x2 x5 s.1 s.2) (P := fun s => Ψ s.2 88 [(0, .ref (gad 50 0)), (1, .ref (gad 52 i1)), (2, .int x2), (5, .int x5), (6, .int (s.1))] []) (K := (fun e => Ψ e 135 [(0, .ref (gad 50 0)), (1, .ref (gad 52 i1)), (2, .int x2), (5, .int x5)] [])) (fun s w hs hn hx => t_X11_flushes_L88 C h1 hs hn hx) FU (r_22, M) ev hit ?_
    obtain ⟨M_32, rfl⟩ : ∃ z, z = ev := ⟨_, rfl⟩
    show Ψ M_32 135 [(0, .ref (gad 50 0)), (1, .ref (gad 52 i1)), (2, .int x2), (5, .int x5)] []
    obtain ⟨x5_33, ex5_33, hr⟩ := gLet_some hr
    refine r_iinc (pc := 135) C dX11_flushes_135 3 rfl rfl (by decide) ex5_33 (ls' := [(5, .int x5_33), (0, .ref (gad 50 0)), (1, .ref (gad 52 i1)), (2, .int x2)]) rfl ?_
    refine r_goto (pc := 138) (tgt := 71) C dX11_flushes_138 rfl ?_
    refine r_sub C [1, 2, 3, 0] (ls' := [(0, .ref (gad 50 0)), (1, .ref (gad 52 i1)), (2, .int x2), (5, .int x5_33)]) rfl ?_
    exact hn (x5_33, M_32) (gSome hr)
noncomputable def X11_flushes (i1 : Nat) (p2 : Int32) (M : gM) : Option gM := gLet ((768 + (11 * p2))) (fun x3_1 => gG (gin x3_1 (gLen 52 i1)) (gLet ((M.1 52 i1 (Int32.toNatClampNeg x3_1))) (fun x4_3 => (gIter (fun s => X11_flushes_L17 i1 p2 x3_1 x4_3 s.1 s.2) FU (1, M)).bind (fun M_9 => gG (gin x3_1 (gLen 52 i1)) (gLet (wI M_9 52 i1 (Int32.toNatClampNeg x3_1) 0) (fun M_11 => gG (gin 1056 (gLen 52 i1)) ((if x4_3 ≤ 0 then gG (gin 1056 (gLen 52 i1)) (gLet (wI M_11 52 i1 (Int32.toNatClampNeg 1056) ((M_11.1 52 i1 (Int32.toNatClampNeg 1056)) + 0)) (fun M_15 => (X11_topOf p2 M_15).bind (fun r_17 => (gIter (fun s => X11_flushes_L71 i1 p2 s.1 s.2) FU (r_17, M_15)).bind (fun M_34 => some M_34)))) else gG (gin 1056 (gLen 52 i1)) (gLet (wI M_11 52 i1 (Int32.toNatClampNeg 1056) ((M_11.1 52 i1 (Int32.toNatClampNeg 1056)) + 1)) (fun M_36 => (X11_topOf p2 M_36).bind (fun r_38 => (gIter (fun s => X11_flushes_L71 i1 p2 s.1 s.2) FU (r_38, M_36)).bind (fun M_39 => some M_39))))))))))))
theorem k_X11_flushes {G : gG5} {nf : Nat} {M : gM} {i1 : Nat} {p2 : Int32} (h1 : i1 < 20) {M1 : gM} (hr : X11_flushes i1 p2 M = some M1) : gMet G (gXn nf) yX11_flushes cX11_flushes 8 none 6 156 M [.ref (gad 50 0), .ref (gad 52 i1), .int p2] none M1 := by
  refine gMet_of pl_X11 rfl (Nat.le_of_ble_eq_true rfl) (fun Ψ C CR => ?_)
  show Ψ M 0 [(0, .ref (gad 50 0)), (1, .ref (gad 52 i1)), (2, .int p2)] []
  refine r_sipush (pc := 0) C dX11_flushes_0 ks768 ?_
  refine r_bipush (pc := 3) C dX11_flushes_3 kb11 ?_
  refine r_iload_n (pc := 5) C dX11_flushes_5 rfl 2 rfl ?_
  refine r_imul (pc := 6) C dX11_flushes_6 ?_
  refine r_iadd (pc := 7) C dX11_flushes_7 ?_
  obtain ⟨x3_1, ex3_1, hr⟩ := gLet_some hr
  refine r_istore_n (pc := 8) C dX11_flushes_8 rfl (by decide) ex3_1 (ls' := [(3, .int x3_1), (0, .ref (gad 50 0)), (1, .ref (gad 52 i1)), (2, .int p2)]) rfl ?_
  refine r_aload_n (pc := 9) C dX11_flushes_9 rfl 2 rfl ?_
  refine r_iload_n (pc := 10) C dX11_flushes_10 rfl 0 rfl ?_
  obtain ⟨g_2, hr⟩ := gG_some hr
  refine r_ialdN (pc := 11) C dX11_flushes_11 rfl (e52 (nf := nf) h1) g_2 rfl ?_
  obtain ⟨x4_3, ex4_3, hr⟩ := gLet_some hr
  refine r_istore (pc := 12) C dX11_flushes_12 (by decide) ex4_3 (ls' := [(4, .int x4_3), (3, .int x3_1), (0, .ref (gad 50 0)), (1, .ref (gad 52 i1)), (2, .int p2)]) rfl ?_
  refine r_iconst (pc := 14) C dX11_flushes_14 ki1 ?_
  refine r_istore (pc := 15) C dX11_flushes_15 (by decide) rfl (ls' := [(5, .int 1), (4, .int x4_3), (3, .int x3_1), (0, .ref (gad 50 0)), (1, .ref (gad 52 i1)), (2, .int p2)]) rfl ?_
  refine r_sub C [3, 4, 5, 2, 1, 0] (ls' := [(0, .ref (gad 50 0)), (1, .ref (gad 52 i1)), (2, .int p2), (3, .int x3_1), (4, .int x4_3), (5, .int 1)]) rfl ?_
  obtain ⟨ev, hit, hr⟩ := gBind_some hr
  refine gIter_V (step := fun s => X11_flushes_L17 i1 p2 x3_1 x4_3 s.1 s.2) (P := fun s => Ψ s.2 17 [(0, .ref (gad 50 0)), (1, .ref (gad 52 i1)), (2, .int p2), (3, .int x3_1), (4, .int x4_3), (5, .int (s.1))] []) (K := (fun e => Ψ e 42 [(0, .ref (gad 50 0)), (1, .ref (gad 52 i1)), (2, .int p2), (3, .int x3_1), (4, .int x4_3)] [])) (fun s w hs hn hx => t_X11_flushes_L17 C h1 hs hn hx) FU (1, M) ev hit ?_
  obtain ⟨M_9, rfl⟩ : ∃ z, z = ev := ⟨_, rfl⟩
  show Ψ M_9 42 [(0, .ref (gad 50 0)), (1, .ref (gad 52 i1)), (2, .int p2), (3, .int x3_1), (4, .int x4_3)] []
  refine r_aload_n (pc := 42) C dX11_flushes_42 rfl 1 rfl ?_
  refine r_iload_n (pc := 43) C dX11_flushes_43 rfl 3 rfl ?_
  refine r_iconst (pc := 44) C dX11_flushes_44 ki0 ?_
  obtain ⟨g_10, hr⟩ := gG_some hr
  obtain ⟨M_11, eM_11, hr⟩ := gLet_some hr
  refine r_iastN (pc := 45) C dX11_flushes_45 rfl (e52 (nf := nf) h1) g_10 rfl eM_11 ?_
  refine r_aload_n (pc := 46) C dX11_flushes_46 rfl 1 rfl ?_
  refine r_sipush (pc := 47) C dX11_flushes_47 ks1056 ?_
  refine r_dup2 (pc := 50) C dX11_flushes_50 rfl rfl ?_
  obtain ⟨g_12, hr⟩ := gG_some hr
  refine r_ialdN (pc := 51) C dX11_flushes_51 rfl (e52 (nf := nf) h1) g_12 rfl ?_
  refine r_iload (pc := 52) C dX11_flushes_52 4 rfl ?_
  refine r_if_le (pc := 54) (tgt := 61) C dX11_flushes_54 rfl (fun c_13 => ?_) (fun c_13 => ?_)
  · replace hr := (if_pos c_13).symm.trans hr
    refine r_iconst (pc := 61) C dX11_flushes_61 ki0 ?_
    refine r_iadd (pc := 62) C dX11_flushes_62 ?_
    obtain ⟨g_14, hr⟩ := gG_some hr
    obtain ⟨M_15, eM_15, hr⟩ := gLet_some hr
    refine r_iastN (pc := 63) C dX11_flushes_63 rfl (e52 (nf := nf) h1) g_14 rfl eM_15 ?_
    refine r_aload_n (pc := 64) C dX11_flushes_64 rfl 0 rfl ?_
    refine r_iload_n (pc := 65) C dX11_flushes_65 rfl 2 rfl ?_
    obtain ⟨r_17, hc_16, hr⟩ := gBind_some hr
    refine c_X11_topOf (pc := 66) C dX11_flushes_66 q1683 ⟨Nat.le_of_ble_eq_true rfl, Nat.le_of_ble_eq_true rfl⟩ hc_16 (Nat.le_of_ble_eq_true rfl) ?_
    refine r_istore (pc := 69) C dX11_flushes_69 (by decide) rfl (ls' := [(5, .int r_17), (0, .ref (gad 50 0)), (1, .ref (gad 52 i1)), (2, .int p2), (3, .int x3_1), (4, .int x4_3)]) rfl ?_
    refine r_sub C [1, 2, 3, 0] (ls' := [(0, .ref (gad 50 0)), (1, .ref (gad 52 i1)), (2, .int p2), (5, .int r_17)]) rfl ?_
    obtain ⟨ev, hit, hr⟩ := gBind_some hr
    refine gIter_V (step := fun s => X11_flushes_L71 i1 p2 s.1 s.2) (P := fun s => Ψ s.2 71 [(0, .ref (gad 50 0)), (1, .ref (gad 52 i1)), (2, .int p2), (5, .int (s.1))] []) (K := (fun e => Ψ e 141 [] [])) (fun s w hs hn hx => t_X11_flushes_L71 C h1 hs hn hx) FU (r_17, M_15) ev hit ?_
    obtain ⟨M_34, rfl⟩ : ∃ z, z = ev := ⟨_, rfl⟩
    show Ψ M_34 141 [] []
    exact r_vret (pc := 141) CR dX11_flushes_141 rfl (gSome hr)
  · replace hr := (if_neg c_13).symm.trans hr
    refine r_iconst (pc := 57) C dX11_flushes_57 ki1 ?_
    refine r_goto (pc := 58) (tgt := 62) C dX11_flushes_58 rfl ?_
    refine r_iadd (pc := 62) C dX11_flushes_62 ?_
    obtain ⟨g_35, hr⟩ := gG_some hr
    obtain ⟨M_36, eM_36, hr⟩ := gLet_some hr
    refine r_iastN (pc := 63) C dX11_flushes_63 rfl (e52 (nf := nf) h1) g_35 rfl eM_36 ?_
    refine r_aload_n (pc := 64) C dX11_flushes_64 rfl 0 rfl ?_
    refine r_iload_n (pc := 65) C dX11_flushes_65 rfl 2 rfl ?_
    obtain ⟨r_38, hc_37, hr⟩ := gBind_some hr
    refine c_X11_topOf (pc := 66) C dX11_flushes_66 q1683 ⟨Nat.le_of_ble_eq_true rfl, Nat.le_of_ble_eq_true rfl⟩ hc_37 (Nat.le_of_ble_eq_true rfl) ?_
    refine r_istore (pc := 69) C dX11_flushes_69 (by decide) rfl (ls' := [(5, .int r_38), (0, .ref (gad 50 0)), (1, .ref (gad 52 i1)), (2, .int p2), (3, .int x3_1), (4, .int x4_3)]) rfl ?_
    refine r_sub C [1, 2, 3, 0] (ls' := [(0, .ref (gad 50 0)), (1, .ref (gad 52 i1)), (2, .int p2), (5, .int r_38)]) rfl ?_
    obtain ⟨ev, hit, hr⟩ := gBind_some hr
    refine gIter_V (step := fun s => X11_flushes_L71 i1 p2 s.1 s.2) (P := fun s => Ψ s.2 71 [(0, .ref (gad 50 0)), (1, .ref (gad 52 i1)), (2, .int p2), (5, .int (s.1))] []) (K := (fun e => Ψ e 141 [] [])) (fun s w hs hn hx => t_X11_flushes_L71 C h1 hs hn hx) FU (r_38, M_36) ev hit ?_
    obtain ⟨M_39, rfl⟩ : ∃ z, z = ev := ⟨_, rfl⟩
    show Ψ M_39 141 [] []
    exact r_vret (pc := 141) CR dX11_flushes_141 rfl (gSome hr)
theorem c_X11_flushes {Ψ : gM → Nat → List (Nat × Value) → List Value → Prop} {G : gG5} {nf : Nat} {cc : ByteArray} {own : String} {nL : Nat} {ret : Option FieldType} {fr lo : Nat} {v0 : Option Value} {M0 M : gM} {pc index : Nat} {ls : List (Nat × Value)} {st : List Value} (C : gC Ψ G (gXn nf) cc own nL ret fr lo v0 M0) (d : decode cc pc = .ok (.invokevirtual index, 3)) (hl : Cond.methodLink own index yX11_flushes ∈ gws) (hR : 7 ≤ fr ∧ 183 ≤ lo) {i1 : Nat} {p2 : Int32} (h1 : i1 < 20) {M1 : gM} (hr : X11_flushes i1 p2 M = some M1) (hcat : (st.map fun v => v.category).sum ≤ 8) (k : Ψ M1 (pc + 3) ls (st)) : Ψ M pc ls (.int p2 :: .ref (gad 52 i1) :: .ref (gad 50 0) :: st) := r_callV C [.ref (gad 52 i1), .int p2] st d (k_X11_flushes h1 hr) hl q1711 q68 q127 q1712 hd_X11_flushes hR rfl (by decide) (e50 nf) rfl hcat k
theorem hd_X11_flushesAll : yX11_flushesAll.cls ≠ "java/lang/invoke/MethodHandle" ∧ yX11_flushesAll.cls ≠ "java/lang/invoke/VarHandle" ∧ (parseMethodDescriptor yX11_flushesAll.desc).map (fun d => d.parameters.length) = some 1 := by decide +kernel
noncomputable def X11_flushesAll_L2 (i1 : Nat) (x2 : Int32) (M : gM) : Option ((Int32 × gM) ⊕ gM) := (X11_tilesAll M).bind (fun r_2 => (if r_2 ≤ x2 then some (.inr M) else (X11_flushes i1 x2 M).bind (fun M_5 => gLet (x2 + 1) (fun x2_6 => some (.inl (x2_6, M_5))))))
theorem t_X11_flushesAll_L2 {Ψ : gM → Nat → List (Nat × Value) → List Value → Prop} {G : gG5} {nf : Nat} {M : gM} {v0 : Option Value} {M0 : gM} {i1 : Nat} {x2 : Int32} {w : ((Int32 × gM) ⊕ gM)} (C : gC Ψ G (gXn nf) cX11_flushesAll RX11 3 none 7 183 v0 M0) (h1 : i1 < 20) (hr : X11_flushesAll_L2 i1 x2 M = some w) (hn : ∀ s, w = .inl s → Ψ s.2 2 [(0, .ref (gad 50 0)), (1, .ref (gad 52 i1)), (2, .int (s.1))] []) (hx : ∀ e, w = .inr e → (fun e => Ψ e 22 [] []) e) : Ψ M 2 [(0, .ref (gad 50 0)), (1, .ref (gad 52 i1)), (2, .int x2)] [] := by
  refine r_iload_n (pc := 2) C dX11_flushesAll_2 rfl 2 rfl ?_
  refine r_aload_n (pc := 3) C dX11_flushesAll_3 rfl 0 rfl ?_
  obtain ⟨r_2, hc_1, hr⟩ := gBind_some hr
  refine c_X11_tilesAll (pc := 4) C dX11_flushesAll_4 q1663 ⟨Nat.le_of_ble_eq_true rfl, Nat.le_of_ble_eq_true rfl⟩ hc_1 (Nat.le_of_ble_eq_true rfl) ?_
  refine r_icmp_ge (pc := 7) (tgt := 22) C dX11_flushesAll_7 rfl (fun c_3 => ?_) (fun c_3 => ?_)
  · replace hr := (if_pos c_3).symm.trans hr
    refine r_sub C [] (ls' := []) rfl ?_
    exact hx M (gSome hr)
  · replace hr := (if_neg c_3).symm.trans hr
    refine r_aload_n (pc := 10) C dX11_flushesAll_10 rfl 0 rfl ?_
    refine r_aload_n (pc := 11) C dX11_flushesAll_11 rfl 1 rfl ?_
    refine r_iload_n (pc := 12) C dX11_flushesAll_12 rfl 2 rfl ?_
    obtain ⟨M_5, hc_4, hr⟩ := gBind_some hr
    refine c_X11_flushes (pc := 13) C dX11_flushesAll_13 q1709 ⟨Nat.le_of_ble_eq_true rfl, Nat.le_of_ble_eq_true rfl⟩ h1 hc_4 (Nat.le_of_ble_eq_true rfl) ?_
    obtain ⟨x2_6, ex2_6, hr⟩ := gLet_some hr
    refine r_iinc (pc := 16) C dX11_flushesAll_16 2 rfl rfl (by decide) ex2_6 (ls' := [(2, .int x2_6), (0, .ref (gad 50 0)), (1, .ref (gad 52 i1))]) rfl ?_
    refine r_goto (pc := 19) (tgt := 2) C dX11_flushesAll_19 rfl ?_
    refine r_sub C [1, 2, 0] (ls' := [(0, .ref (gad 50 0)), (1, .ref (gad 52 i1)), (2, .int x2_6)]) rfl ?_
    exact hn (x2_6, M_5) (gSome hr)
noncomputable def X11_flushesAll (i1 : Nat) (M : gM) : Option gM := (gIter (fun s => X11_flushesAll_L2 i1 s.1 s.2) FU (0, M)).bind (fun M_7 => some M_7)
theorem k_X11_flushesAll {G : gG5} {nf : Nat} {M : gM} {i1 : Nat} (h1 : i1 < 20) {M1 : gM} (hr : X11_flushesAll i1 M = some M1) : gMet G (gXn nf) yX11_flushesAll cX11_flushesAll 3 none 7 183 M [.ref (gad 50 0), .ref (gad 52 i1)] none M1 := by
  refine gMet_of pl_X11 rfl (Nat.le_of_ble_eq_true rfl) (fun Ψ C CR => ?_)
  show Ψ M 0 [(0, .ref (gad 50 0)), (1, .ref (gad 52 i1))] []
  refine r_iconst (pc := 0) C dX11_flushesAll_0 ki0 ?_
  refine r_istore_n (pc := 1) C dX11_flushesAll_1 rfl (by decide) rfl (ls' := [(2, .int 0), (0, .ref (gad 50 0)), (1, .ref (gad 52 i1))]) rfl ?_
  refine r_sub C [1, 2, 0] (ls' := [(0, .ref (gad 50 0)), (1, .ref (gad 52 i1)), (2, .int 0)]) rfl ?_
  obtain ⟨ev, hit, hr⟩ := gBind_some hr
  refine gIter_V (step := fun s => X11_flushesAll_L2 i1 s.1 s.2) (P := fun s => Ψ s.2 2 [(0, .ref (gad 50 0)), (1, .ref (gad 52 i1)), (2, .int (s.1))] []) (K := (fun e => Ψ e 22 [] [])) (fun s w hs hn hx => t_X11_flushesAll_L2 C h1 hs hn hx) FU (0, M) ev hit ?_
  obtain ⟨M_7, rfl⟩ : ∃ z, z = ev := ⟨_, rfl⟩
  show Ψ M_7 22 [] []
  exact r_vret (pc := 22) CR dX11_flushesAll_22 rfl (gSome hr)
theorem c_X11_flushesAll {Ψ : gM → Nat → List (Nat × Value) → List Value → Prop} {G : gG5} {nf : Nat} {cc : ByteArray} {own : String} {nL : Nat} {ret : Option FieldType} {fr lo : Nat} {v0 : Option Value} {M0 M : gM} {pc index : Nat} {ls : List (Nat × Value)} {st : List Value} (C : gC Ψ G (gXn nf) cc own nL ret fr lo v0 M0) (d : decode cc pc = .ok (.invokevirtual index, 3)) (hl : Cond.methodLink own index yX11_flushesAll ∈ gws) (hR : 8 ≤ fr ∧ 205 ≤ lo) {i1 : Nat} (h1 : i1 < 20) {M1 : gM} (hr : X11_flushesAll i1 M = some M1) (hcat : (st.map fun v => v.category).sum ≤ 8) (k : Ψ M1 (pc + 3) ls (st)) : Ψ M pc ls (.ref (gad 52 i1) :: .ref (gad 50 0) :: st) := r_callV C [.ref (gad 52 i1)] st d (k_X11_flushesAll h1 hr) hl q1805 q85 q127 q1806 hd_X11_flushesAll hR rfl (by decide) (e50 nf) rfl hcat k
theorem hd_X11_draws : yX11_draws.cls ≠ "java/lang/invoke/MethodHandle" ∧ yX11_draws.cls ≠ "java/lang/invoke/VarHandle" ∧ (parseMethodDescriptor yX11_draws.desc).map (fun d => d.parameters.length) = some 2 := by decide +kernel
noncomputable def X11_draws_J64 (i1 : Nat) (x2 : Int32) (x3 : Int32) (x4 : Int32) (x5 : Int32) (x6 : Int32) (M : gM) : Option ((Int32 × Int32 × gM) ⊕ (Int32 × gM)) := gG (gin x6 (gLen 52 i1)) (gG (gin x6 (gLen 52 i1)) (gLet (wI M 52 i1 (Int32.toNatClampNeg x6) ((M.1 52 i1 (Int32.toNatClampNeg x6)) + 1)) (fun M_16 => gG (gin x6 (gLen 52 i1)) (gG (gin (x6 + (M_16.1 52 i1 (Int32.toNatClampNeg x6))) (gLen 52 i1)) (gLet (wI M_16 52 i1 (Int32.toNatClampNeg (x6 + (M_16.1 52 i1 (Int32.toNatClampNeg x6)))) x2) (fun M_19 => gLet (x4 + 1) (fun x4_20 => gLet (x5 + 1) (fun x5_21 => some (.inl (x4_20, x5_21, M_19))))))))))
theorem t_X11_draws_J64 {Ψ : gM → Nat → List (Nat × Value) → List Value → Prop} {G : gG5} {nf : Nat} {M : gM} {v0 : Option Value} {M0 : gM} {i1 : Nat} {x2 : Int32} {x3 : Int32} {x4 : Int32} {x5 : Int32} {x6 : Int32} {w : ((Int32 × Int32 × gM) ⊕ (Int32 × gM))} (C : gC Ψ G (gXn nf) cX11_draws RX11 7 (some .int) 7 183 v0 M0) (h1 : i1 < 20) (hr : X11_draws_J64 i1 x2 x3 x4 x5 x6 M = some w) (hn : ∀ s, w = .inl s → Ψ s.2.2 13 [(0, .ref (gad 50 0)), (1, .ref (gad 52 i1)), (2, .int x2), (3, .int x3), (4, .int (s.1)), (5, .int (s.2.1))] []) (hx : ∀ e, w = .inr e → (fun e => Ψ e.2 91 [(4, .int (e.1))] []) e) : Ψ M 64 [(0, .ref (gad 50 0)), (1, .ref (gad 52 i1)), (2, .int x2), (3, .int x3), (4, .int x4), (5, .int x5), (6, .int x6)] [] := by
  refine r_aload_n (pc := 64) C dX11_draws_64 rfl 1 rfl ?_
  refine r_iload (pc := 65) C dX11_draws_65 6 rfl ?_
  refine r_dup2 (pc := 67) C dX11_draws_67 rfl rfl ?_
  obtain ⟨g_14, hr⟩ := gG_some hr
  refine r_ialdN (pc := 68) C dX11_draws_68 rfl (e52 (nf := nf) h1) g_14 rfl ?_
  refine r_iconst (pc := 69) C dX11_draws_69 ki1 ?_
  refine r_iadd (pc := 70) C dX11_draws_70 ?_
  obtain ⟨g_15, hr⟩ := gG_some hr
  obtain ⟨M_16, eM_16, hr⟩ := gLet_some hr
  refine r_iastN (pc := 71) C dX11_draws_71 rfl (e52 (nf := nf) h1) g_15 rfl eM_16 ?_
  refine r_aload_n (pc := 72) C dX11_draws_72 rfl 1 rfl ?_
  refine r_iload (pc := 73) C dX11_draws_73 6 rfl ?_
  refine r_aload_n (pc := 75) C dX11_draws_75 rfl 1 rfl ?_
  refine r_iload (pc := 76) C dX11_draws_76 6 rfl ?_
  obtain ⟨g_17, hr⟩ := gG_some hr
  refine r_ialdN (pc := 78) C dX11_draws_78 rfl (e52 (nf := nf) h1) g_17 rfl ?_
  refine r_iadd (pc := 79) C dX11_draws_79 ?_
  refine r_iload_n (pc := 80) C dX11_draws_80 rfl 2 rfl ?_
  obtain ⟨g_18, hr⟩ := gG_some hr
  obtain ⟨M_19, eM_19, hr⟩ := gLet_some hr
  refine r_iastN (pc := 81) C dX11_draws_81 rfl (e52 (nf := nf) h1) g_18 rfl eM_19 ?_
  obtain ⟨x4_20, ex4_20, hr⟩ := gLet_some hr
  refine r_iinc (pc := 82) C dX11_draws_82 4 rfl rfl (by decide) ex4_20 (ls' := [(4, .int x4_20), (0, .ref (gad 50 0)), (1, .ref (gad 52 i1)), (2, .int x2), (3, .int x3), (5, .int x5), (6, .int x6)]) rfl ?_
  obtain ⟨x5_21, ex5_21, hr⟩ := gLet_some hr
  refine r_iinc (pc := 85) C dX11_draws_85 5 rfl rfl (by decide) ex5_21 (ls' := [(5, .int x5_21), (4, .int x4_20), (0, .ref (gad 50 0)), (1, .ref (gad 52 i1)), (2, .int x2), (3, .int x3), (6, .int x6)]) rfl ?_
  refine r_goto (pc := 88) (tgt := 13) C dX11_draws_88 rfl ?_
  refine r_sub C [2, 3, 4, 5, 1, 0] (ls' := [(0, .ref (gad 50 0)), (1, .ref (gad 52 i1)), (2, .int x2), (3, .int x3), (4, .int x4_20), (5, .int x5_21)]) rfl ?_
  exact hn (x4_20, x5_21, M_19) (gSome hr)
noncomputable def X11_draws_L13 (i1 : Nat) (x2 : Int32) (x3 : Int32) (x4 : Int32) (x5 : Int32) (M : gM) : Option ((Int32 × Int32 × gM) ⊕ (Int32 × gM)) := (X11_tilesAll M).bind (fun r_5 => (if r_5 ≤ x5 then some (.inr (x4, M)) else (X11_has x3 x5 M).bind (fun r_8 => (if r_8 = 0 then gLet (x5 + 1) (fun x5_24 => some (.inl (x4, x5_24, M))) else gLet ((768 + (11 * x5))) (fun x6_10 => gG (gin x6_10 (gLen 52 i1)) (gG (gin 1060 (gLen 52 i1)) ((if (M.1 52 i1 (Int32.toNatClampNeg x6_10)) < (M.1 52 i1 (Int32.toNatClampNeg 1060)) then X11_draws_J64 i1 x2 x3 x4 x5 x6_10 M else (X11_flushes i1 x5 M).bind (fun M_23 => X11_draws_J64 i1 x2 x3 x4 x5 x6_10 M_23)))))))))
theorem t_X11_draws_L13 {Ψ : gM → Nat → List (Nat × Value) → List Value → Prop} {G : gG5} {nf : Nat} {M : gM} {v0 : Option Value} {M0 : gM} {i1 : Nat} {x2 : Int32} {x3 : Int32} {x4 : Int32} {x5 : Int32} {w : ((Int32 × Int32 × gM) ⊕ (Int32 × gM))} (C : gC Ψ G (gXn nf) cX11_draws RX11 7 (some .int) 7 183 v0 M0) (h1 : i1 < 20) (hr : X11_draws_L13 i1 x2 x3 x4 x5 M = some w) (hn : ∀ s, w = .inl s → Ψ s.2.2 13 [(0, .ref (gad 50 0)), (1, .ref (gad 52 i1)), (2, .int x2), (3, .int x3), (4, .int (s.1)), (5, .int (s.2.1))] []) (hx : ∀ e, w = .inr e → (fun e => Ψ e.2 91 [(4, .int (e.1))] []) e) : Ψ M 13 [(0, .ref (gad 50 0)), (1, .ref (gad 52 i1)), (2, .int x2), (3, .int x3), (4, .int x4), (5, .int x5)] [] := by
  refine r_iload (pc := 13) C dX11_draws_13 5 rfl ?_
  refine r_aload_n (pc := 15) C dX11_draws_15 rfl 0 rfl ?_
  obtain ⟨r_5, hc_4, hr⟩ := gBind_some hr
  refine c_X11_tilesAll (pc := 16) C dX11_draws_16 q1663 ⟨Nat.le_of_ble_eq_true rfl, Nat.le_of_ble_eq_true rfl⟩ hc_4 (Nat.le_of_ble_eq_true rfl) ?_
  refine r_icmp_ge (pc := 19) (tgt := 91) C dX11_draws_19 rfl (fun c_6 => ?_) (fun c_6 => ?_)
  · replace hr := (if_pos c_6).symm.trans hr
    refine r_sub C [4] (ls' := [(4, .int x4)]) rfl ?_
    exact hx (x4, M) (gSome hr)
  · replace hr := (if_neg c_6).symm.trans hr
    refine r_iload_n (pc := 22) C dX11_draws_22 rfl 3 rfl ?_
    refine r_iload (pc := 23) C dX11_draws_23 5 rfl ?_
    obtain ⟨r_8, hc_7, hr⟩ := gBind_some hr
    refine c_X11_has (pc := 25) C dX11_draws_25 q1576 ⟨Nat.le_of_ble_eq_true rfl, Nat.le_of_ble_eq_true rfl⟩ hc_7 (Nat.le_of_ble_eq_true rfl) ?_
    refine r_if_ne (pc := 28) (tgt := 34) C dX11_draws_28 rfl (fun c_9 => ?_) (fun c_9 => ?_)
    · replace hr := (if_neg c_9).symm.trans hr
      refine r_sipush (pc := 34) C dX11_draws_34 ks768 ?_
      refine r_bipush (pc := 37) C dX11_draws_37 kb11 ?_
      refine r_iload (pc := 39) C dX11_draws_39 5 rfl ?_
      refine r_imul (pc := 41) C dX11_draws_41 ?_
      refine r_iadd (pc := 42) C dX11_draws_42 ?_
      obtain ⟨x6_10, ex6_10, hr⟩ := gLet_some hr
      refine r_istore (pc := 43) C dX11_draws_43 (by decide) ex6_10 (ls' := [(6, .int x6_10), (0, .ref (gad 50 0)), (1, .ref (gad 52 i1)), (2, .int x2), (3, .int x3), (4, .int x4), (5, .int x5)]) rfl ?_
      refine r_aload_n (pc := 45) C dX11_draws_45 rfl 2 rfl ?_
      refine r_iload (pc := 46) C dX11_draws_46 0 rfl ?_
      obtain ⟨g_11, hr⟩ := gG_some hr
      refine r_ialdN (pc := 48) C dX11_draws_48 rfl (e52 (nf := nf) h1) g_11 rfl ?_
      refine r_aload_n (pc := 49) C dX11_draws_49 rfl 2 rfl ?_
      refine r_sipush (pc := 50) C dX11_draws_50 ks1060 ?_
      obtain ⟨g_12, hr⟩ := gG_some hr
      refine r_ialdN (pc := 53) C dX11_draws_53 rfl (e52 (nf := nf) h1) g_12 rfl ?_
      refine r_icmp_lt (pc := 54) (tgt := 64) C dX11_draws_54 rfl (fun c_13 => ?_) (fun c_13 => ?_)
      · replace hr := (if_pos c_13).symm.trans hr
        refine r_sub C [1, 2, 3, 4, 5, 6, 0] (ls' := [(0, .ref (gad 50 0)), (1, .ref (gad 52 i1)), (2, .int x2), (3, .int x3), (4, .int x4), (5, .int x5), (6, .int x6_10)]) rfl ?_
        exact t_X11_draws_J64 C h1 hr hn hx
      · replace hr := (if_neg c_13).symm.trans hr
        refine r_aload_n (pc := 57) C dX11_draws_57 rfl 1 rfl ?_
        refine r_aload_n (pc := 58) C dX11_draws_58 rfl 2 rfl ?_
        refine r_iload (pc := 59) C dX11_draws_59 6 rfl ?_
        obtain ⟨M_23, hc_22, hr⟩ := gBind_some hr
        refine c_X11_flushes (pc := 61) C dX11_draws_61 q1709 ⟨Nat.le_of_ble_eq_true rfl, Nat.le_of_ble_eq_true rfl⟩ h1 hc_22 (Nat.le_of_ble_eq_true rfl) ?_
        refine r_sub C [1, 2, 3, 4, 5, 6, 0] (ls' := [(0, .ref (gad 50 0)), (1, .ref (gad 52 i1)), (2, .int x2), (3, .int x3), (4, .int x4), (5, .int x5), (6, .int x6_10)]) rfl ?_
        exact t_X11_draws_J64 C h1 hr hn hx
    · replace hr := (if_pos c_9).symm.trans hr
      refine r_goto (pc := 31) (tgt := 85) C dX11_draws_31 rfl ?_
      obtain ⟨x5_24, ex5_24, hr⟩ := gLet_some hr
      refine r_iinc (pc := 85) C dX11_draws_85 5 rfl rfl (by decide) ex5_24 (ls' := [(5, .int x5_24), (0, .ref (gad 50 0)), (1, .ref (gad 52 i1)), (2, .int x2), (3, .int x3), (4, .int x4)]) rfl ?_
      refine r_goto (pc := 88) (tgt := 13) C dX11_draws_88 rfl ?_
      refine r_sub C [1, 2, 3, 4, 5, 0] (ls' := [(0, .ref (gad 50 0)), (1, .ref (gad 52 i1)), (2, .int x2), (3, .int x3), (4, .int x4), (5, .int x5_24)]) rfl ?_
      exact hn (x4, x5_24, M) (gSome hr)
noncomputable def X11_draws (i1 : Nat) (p2 : Int32) (M : gM) : Option (Int32 × gM) := (X11_touched i1 p2 M).bind (gU2 (fun r_2 M_3 => (gIter (fun s => X11_draws_L13 i1 p2 r_2 s.1 s.2.1 s.2.2) FU (0, 0, M_3)).bind (gU2 (fun x4_25 M_26 => some (x4_25, M_26)))))
theorem k_X11_draws {G : gG5} {nf : Nat} {M : gM} {i1 : Nat} {p2 : Int32} (h1 : i1 < 20) {r : Int32} {M1 : gM} (hr : X11_draws i1 p2 M = some (r, M1)) : gMet G (gXn nf) yX11_draws cX11_draws 7 (some .int) 7 183 M [.ref (gad 50 0), .ref (gad 52 i1), .int p2] (some (.int r)) M1 := by
  refine gMet_of pl_X11 rfl (Nat.le_of_ble_eq_true rfl) (fun Ψ C CR => ?_)
  show Ψ M 0 [(0, .ref (gad 50 0)), (1, .ref (gad 52 i1)), (2, .int p2)] []
  refine r_aload_n (pc := 0) C dX11_draws_0 rfl 0 rfl ?_
  refine r_aload_n (pc := 1) C dX11_draws_1 rfl 1 rfl ?_
  refine r_iload_n (pc := 2) C dX11_draws_2 rfl 2 rfl ?_
  obtain ⟨⟨r_2, M_3⟩, hc_1, hr⟩ := gBind_some hr
  replace hr := gU2_some hr
  refine c_X11_touched (pc := 3) C dX11_draws_3 q1648 ⟨Nat.le_of_ble_eq_true rfl, Nat.le_of_ble_eq_true rfl⟩ h1 hc_1 (Nat.le_of_ble_eq_true rfl) ?_
  refine r_istore_n (pc := 6) C dX11_draws_6 rfl (by decide) rfl (ls' := [(3, .int r_2), (0, .ref (gad 50 0)), (1, .ref (gad 52 i1)), (2, .int p2)]) rfl ?_
  refine r_iconst (pc := 7) C dX11_draws_7 ki0 ?_
  refine r_istore (pc := 8) C dX11_draws_8 (by decide) rfl (ls' := [(4, .int 0), (3, .int r_2), (0, .ref (gad 50 0)), (1, .ref (gad 52 i1)), (2, .int p2)]) rfl ?_
  refine r_iconst (pc := 10) C dX11_draws_10 ki0 ?_
  refine r_istore (pc := 11) C dX11_draws_11 (by decide) rfl (ls' := [(5, .int 0), (4, .int 0), (3, .int r_2), (0, .ref (gad 50 0)), (1, .ref (gad 52 i1)), (2, .int p2)]) rfl ?_
  refine r_sub C [3, 4, 5, 2, 1, 0] (ls' := [(0, .ref (gad 50 0)), (1, .ref (gad 52 i1)), (2, .int p2), (3, .int r_2), (4, .int 0), (5, .int 0)]) rfl ?_
  obtain ⟨ev, hit, hr⟩ := gBind_some hr
  refine gIter_V (step := fun s => X11_draws_L13 i1 p2 r_2 s.1 s.2.1 s.2.2) (P := fun s => Ψ s.2.2 13 [(0, .ref (gad 50 0)), (1, .ref (gad 52 i1)), (2, .int p2), (3, .int r_2), (4, .int (s.1)), (5, .int (s.2.1))] []) (K := (fun e => Ψ e.2 91 [(4, .int (e.1))] [])) (fun s w hs hn hx => t_X11_draws_L13 C h1 hs hn hx) FU (0, 0, M_3) ev hit ?_
  obtain ⟨x4_25, M_26⟩ := ev
  replace hr := gU2_some hr
  show Ψ M_26 91 [(4, .int x4_25)] []
  refine r_iload (pc := 91) C dX11_draws_91 0 rfl ?_
  exact r_iret (pc := 93) CR dX11_draws_93 (congrArg (fun z => some (Value.int z)) (Prod.mk.inj (gSome hr)).1) (Prod.mk.inj (gSome hr)).2
theorem c_X11_draws {Ψ : gM → Nat → List (Nat × Value) → List Value → Prop} {G : gG5} {nf : Nat} {cc : ByteArray} {own : String} {nL : Nat} {ret : Option FieldType} {fr lo : Nat} {v0 : Option Value} {M0 M : gM} {pc index : Nat} {ls : List (Nat × Value)} {st : List Value} (C : gC Ψ G (gXn nf) cc own nL ret fr lo v0 M0) (d : decode cc pc = .ok (.invokevirtual index, 3)) (hl : Cond.methodLink own index yX11_draws ∈ gws) (hR : 8 ≤ fr ∧ 209 ≤ lo) {i1 : Nat} {p2 : Int32} (h1 : i1 < 20) {r : Int32} {M1 : gM} (hr : X11_draws i1 p2 M = some (r, M1)) (hcat : (st.map fun v => v.category).sum ≤ 8) (k : Ψ M1 (pc + 3) ls (.int r :: st)) : Ψ M pc ls (.int p2 :: .ref (gad 52 i1) :: .ref (gad 50 0) :: st) := r_callV C [.ref (gad 52 i1), .int p2] st d (k_X11_draws h1 hr) hl q1707 q67 q127 q1708 hd_X11_draws hR rfl (by decide) (e50 nf) rfl hcat k
theorem hd_X11_size : yX11_size.cls ≠ "java/lang/invoke/MethodHandle" ∧ yX11_size.cls ≠ "java/lang/invoke/VarHandle" ∧ (parseMethodDescriptor yX11_size.desc).map (fun d => d.parameters.length) = some 1 := by decide +kernel
noncomputable def X11_size_L4 (x0 : Int32) (x1 : Int32) (x2 : Int32) (M : gM) : Option ((Int32 × Int32) ⊕ Int32) := (if 32 ≤ x2 then some (.inr x1) else gLet ((x1 + ((x0 >>> (x2 &&& 31)) &&& 1))) (fun x1_2 => gLet (x2 + 1) (fun x2_3 => some (.inl (x1_2, x2_3)))))
theorem t_X11_size_L4 {Ψ : gM → Nat → List (Nat × Value) → List Value → Prop} {G : gG5} {nf : Nat} {M : gM} {v0 : Option Value} {M0 : gM} {x0 : Int32} {x1 : Int32} {x2 : Int32} {w : ((Int32 × Int32) ⊕ Int32)} (C : gC Ψ G (gXn nf) cX11_size RX11 3 (some .int) 0 0 v0 M0) (hr : X11_size_L4 x0 x1 x2 M = some w) (hn : ∀ s, w = .inl s → Ψ M 4 [(0, .int x0), (1, .int (s.1)), (2, .int (s.2))] []) (hx : ∀ e, w = .inr e → (fun e => Ψ M 24 [(1, .int e)] []) e) : Ψ M 4 [(0, .int x0), (1, .int x1), (2, .int x2)] [] := by
  refine r_iload_n (pc := 4) C dX11_size_4 rfl 2 rfl ?_
  refine r_bipush (pc := 5) C dX11_size_5 kb32 ?_
  refine r_icmp_ge (pc := 7) (tgt := 24) C dX11_size_7 rfl (fun c_1 => ?_) (fun c_1 => ?_)
  · replace hr := (if_pos c_1).symm.trans hr
    refine r_sub C [1] (ls' := [(1, .int x1)]) rfl ?_
    exact hx x1 (gSome hr)
  · replace hr := (if_neg c_1).symm.trans hr
    refine r_iload_n (pc := 10) C dX11_size_10 rfl 1 rfl ?_
    refine r_iload_n (pc := 11) C dX11_size_11 rfl 0 rfl ?_
    refine r_iload_n (pc := 12) C dX11_size_12 rfl 2 rfl ?_
    refine r_ishr (pc := 13) C dX11_size_13 ?_
    refine r_iconst (pc := 14) C dX11_size_14 ki1 ?_
    refine r_iand (pc := 15) C dX11_size_15 ?_
    refine r_iadd (pc := 16) C dX11_size_16 ?_
    obtain ⟨x1_2, ex1_2, hr⟩ := gLet_some hr
    refine r_istore_n (pc := 17) C dX11_size_17 rfl (by decide) ex1_2 (ls' := [(1, .int x1_2), (0, .int x0), (2, .int x2)]) rfl ?_
    obtain ⟨x2_3, ex2_3, hr⟩ := gLet_some hr
    refine r_iinc (pc := 18) C dX11_size_18 2 rfl rfl (by decide) ex2_3 (ls' := [(2, .int x2_3), (1, .int x1_2), (0, .int x0)]) rfl ?_
    refine r_goto (pc := 21) (tgt := 4) C dX11_size_21 rfl ?_
    refine r_sub C [2, 1, 0] (ls' := [(0, .int x0), (1, .int x1_2), (2, .int x2_3)]) rfl ?_
    exact hn (x1_2, x2_3) (gSome hr)
noncomputable def X11_size (p0 : Int32) (M : gM) : Option Int32 := (gIter (fun s => X11_size_L4 p0 s.1 s.2 M) FU (0, 0)).bind (fun x1_4 => some x1_4)
theorem k_X11_size {G : gG5} {nf : Nat} {M : gM} {p0 : Int32} {r : Int32} (hr : X11_size p0 M = some r) : gMet G (gXn nf) yX11_size cX11_size 3 (some .int) 0 0 M [.int p0] (some (.int r)) M := by
  refine gMet_of pl_X11 rfl (Nat.le_of_ble_eq_true rfl) (fun Ψ C CR => ?_)
  show Ψ M 0 [(0, .int p0)] []
  refine r_iconst (pc := 0) C dX11_size_0 ki0 ?_
  refine r_istore_n (pc := 1) C dX11_size_1 rfl (by decide) rfl (ls' := [(1, .int 0), (0, .int p0)]) rfl ?_
  refine r_iconst (pc := 2) C dX11_size_2 ki0 ?_
  refine r_istore_n (pc := 3) C dX11_size_3 rfl (by decide) rfl (ls' := [(2, .int 0), (1, .int 0), (0, .int p0)]) rfl ?_
  refine r_sub C [2, 1, 0] (ls' := [(0, .int p0), (1, .int 0), (2, .int 0)]) rfl ?_
  obtain ⟨ev, hit, hr⟩ := gBind_some hr
  refine gIter_V (step := fun s => X11_size_L4 p0 s.1 s.2 M) (P := fun s => Ψ M 4 [(0, .int p0), (1, .int (s.1)), (2, .int (s.2))] []) (K := (fun e => Ψ M 24 [(1, .int e)] [])) (fun s w hs hn hx => t_X11_size_L4 C  hs hn hx) FU (0, 0) ev hit ?_
  obtain ⟨x1_4, rfl⟩ : ∃ z, z = ev := ⟨_, rfl⟩
  show Ψ M 24 [(1, .int x1_4)] []
  refine r_iload_n (pc := 24) C dX11_size_24 rfl 0 rfl ?_
  exact r_iret (pc := 25) CR dX11_size_25 (congrArg (fun z => some (Value.int z)) (gSome hr)) rfl
theorem c_X11_size {Ψ : gM → Nat → List (Nat × Value) → List Value → Prop} {G : gG5} {nf : Nat} {cc : ByteArray} {own : String} {nL : Nat} {ret : Option FieldType} {fr lo : Nat} {v0 : Option Value} {M0 M : gM} {pc index : Nat} {ls : List (Nat × Value)} {st : List Value} (C : gC Ψ G (gXn nf) cc own nL ret fr lo v0 M0) (d : decode cc pc = .ok (.invokestatic index, 3)) (hl : Cond.methodLink own index yX11_size ∈ gws) (hR : 1 ≤ fr ∧ 22 ≤ lo) {p0 : Int32} {r : Int32} (hr : X11_size p0 M = some r) (hcat : (st.map fun v => v.category).sum ≤ 8) (k : Ψ M (pc + 3) ls (.int r :: st)) : Ψ M pc ls (.int p0 :: st) := r_callS C [.int p0] st d (k_X11_size hr) hl q1781 q127 q1782 hd_X11_size hR rfl hcat k
theorem hd_X11_lit : yX11_lit.cls ≠ "java/lang/invoke/MethodHandle" ∧ yX11_lit.cls ≠ "java/lang/invoke/VarHandle" ∧ (parseMethodDescriptor yX11_lit.desc).map (fun d => d.parameters.length) = some 2 := by decide +kernel
noncomputable def X11_lit (i0 : Nat) (p1 : Int32) (M : gM) : Option Int32 := gG (gin (1034 + (2 * p1)) (gLen 52 i0)) ((X11_size (M.1 52 i0 (Int32.toNatClampNeg (1034 + (2 * p1)))) M).bind (fun r_3 => gG (gin ((1034 + (2 * p1)) + 1) (gLen 52 i0)) ((X11_size (M.1 52 i0 (Int32.toNatClampNeg ((1034 + (2 * p1)) + 1))) M).bind (fun r_6 => some (r_3 + r_6)))))
theorem k_X11_lit {G : gG5} {nf : Nat} {M : gM} {i0 : Nat} {p1 : Int32} (h0 : i0 < 20) {r : Int32} (hr : X11_lit i0 p1 M = some r) : gMet G (gXn nf) yX11_lit cX11_lit 2 (some .int) 1 22 M [.ref (gad 52 i0), .int p1] (some (.int r)) M := by
  refine gMet_of pl_X11 rfl (Nat.le_of_ble_eq_true rfl) (fun Ψ C CR => ?_)
  show Ψ M 0 [(0, .ref (gad 52 i0)), (1, .int p1)] []
  refine r_aload_n (pc := 0) C dX11_lit_0 rfl 0 rfl ?_
  refine r_sipush (pc := 1) C dX11_lit_1 ks1034 ?_
  refine r_iconst (pc := 4) C dX11_lit_4 ki2 ?_
  refine r_iload_n (pc := 5) C dX11_lit_5 rfl 1 rfl ?_
  refine r_imul (pc := 6) C dX11_lit_6 ?_
  refine r_iadd (pc := 7) C dX11_lit_7 ?_
  obtain ⟨g_1, hr⟩ := gG_some hr
  refine r_ialdN (pc := 8) C dX11_lit_8 rfl (e52 (nf := nf) h0) g_1 rfl ?_
  obtain ⟨r_3, hc_2, hr⟩ := gBind_some hr
  refine c_X11_size (pc := 9) C dX11_lit_9 q1780 ⟨Nat.le_of_ble_eq_true rfl, Nat.le_of_ble_eq_true rfl⟩ hc_2 (Nat.le_of_ble_eq_true rfl) ?_
  refine r_aload_n (pc := 12) C dX11_lit_12 rfl 0 rfl ?_
  refine r_sipush (pc := 13) C dX11_lit_13 ks1034 ?_
  refine r_iconst (pc := 16) C dX11_lit_16 ki2 ?_
  refine r_iload_n (pc := 17) C dX11_lit_17 rfl 1 rfl ?_
  refine r_imul (pc := 18) C dX11_lit_18 ?_
  refine r_iadd (pc := 19) C dX11_lit_19 ?_
  refine r_iconst (pc := 20) C dX11_lit_20 ki1 ?_
  refine r_iadd (pc := 21) C dX11_lit_21 ?_
  obtain ⟨g_4, hr⟩ := gG_some hr
  refine r_ialdN (pc := 22) C dX11_lit_22 rfl (e52 (nf := nf) h0) g_4 rfl ?_
  obtain ⟨r_6, hc_5, hr⟩ := gBind_some hr
  refine c_X11_size (pc := 23) C dX11_lit_23 q1780 ⟨Nat.le_of_ble_eq_true rfl, Nat.le_of_ble_eq_true rfl⟩ hc_5 (Nat.le_of_ble_eq_true rfl) ?_
  refine r_iadd (pc := 26) C dX11_lit_26 ?_
  exact r_iret (pc := 27) CR dX11_lit_27 (congrArg (fun z => some (Value.int z)) (gSome hr)) rfl
theorem c_X11_lit {Ψ : gM → Nat → List (Nat × Value) → List Value → Prop} {G : gG5} {nf : Nat} {cc : ByteArray} {own : String} {nL : Nat} {ret : Option FieldType} {fr lo : Nat} {v0 : Option Value} {M0 M : gM} {pc index : Nat} {ls : List (Nat × Value)} {st : List Value} (C : gC Ψ G (gXn nf) cc own nL ret fr lo v0 M0) (d : decode cc pc = .ok (.invokestatic index, 3)) (hl : Cond.methodLink own index yX11_lit ∈ gws) (hR : 2 ≤ fr ∧ 43 ≤ lo) {i0 : Nat} {p1 : Int32} (h0 : i0 < 20) {r : Int32} (hr : X11_lit i0 p1 M = some r) (hcat : (st.map fun v => v.category).sum ≤ 8) (k : Ψ M (pc + 3) ls (.int r :: st)) : Ψ M pc ls (.int p1 :: .ref (gad 52 i0) :: st) := r_callS C [.ref (gad 52 i0), .int p1] st d (k_X11_lit h0 hr) hl q1778 q127 q1779 hd_X11_lit hR rfl hcat k
theorem hd_X11_pairs : yX11_pairs.cls ≠ "java/lang/invoke/MethodHandle" ∧ yX11_pairs.cls ≠ "java/lang/invoke/VarHandle" ∧ (parseMethodDescriptor yX11_pairs.desc).map (fun d => d.parameters.length) = some 1 := by decide +kernel
noncomputable def X11_pairs_L4 (i1 : Nat) (x2 : Int32) (x3 : Int32) (M : gM) : Option ((Int32 × Int32) ⊕ Int32) := (if (M.1 50 0 16) ≤ x3 then some (.inr x2) else (X11_lit i1 x3 M).bind (fun r_3 => gLet ((x2 + r_3)) (fun x2_4 => gLet (x3 + 1) (fun x3_5 => some (.inl (x2_4, x3_5))))))
theorem t_X11_pairs_L4 {Ψ : gM → Nat → List (Nat × Value) → List Value → Prop} {G : gG5} {nf : Nat} {M : gM} {v0 : Option Value} {M0 : gM} {i1 : Nat} {x2 : Int32} {x3 : Int32} {w : ((Int32 × Int32) ⊕ Int32)} (C : gC Ψ G (gXn nf) cX11_pairs RX11 4 (some .int) 2 43 v0 M0) (h1 : i1 < 20) (hr : X11_pairs_L4 i1 x2 x3 M = some w) (hn : ∀ s, w = .inl s → Ψ M 4 [(0, .ref (gad 50 0)), (1, .ref (gad 52 i1)), (2, .int (s.1)), (3, .int (s.2))] []) (hx : ∀ e, w = .inr e → (fun e => Ψ M 26 [(2, .int e)] []) e) : Ψ M 4 [(0, .ref (gad 50 0)), (1, .ref (gad 52 i1)), (2, .int x2), (3, .int x3)] [] := by
  refine r_iload_n (pc := 4) C dX11_pairs_4 rfl 3 rfl ?_
  refine r_aload_n (pc := 5) C dX11_pairs_5 rfl 0 rfl ?_
  refine g50_16 (pc := 6) C dX11_pairs_6 q1416 (e50 nf) ?_
  refine r_icmp_ge (pc := 9) (tgt := 26) C dX11_pairs_9 rfl (fun c_1 => ?_) (fun c_1 => ?_)
  · replace hr := (if_pos c_1).symm.trans hr
    refine r_sub C [2] (ls' := [(2, .int x2)]) rfl ?_
    exact hx x2 (gSome hr)
  · replace hr := (if_neg c_1).symm.trans hr
    refine r_iload_n (pc := 12) C dX11_pairs_12 rfl 2 rfl ?_
    refine r_aload_n (pc := 13) C dX11_pairs_13 rfl 1 rfl ?_
    refine r_iload_n (pc := 14) C dX11_pairs_14 rfl 3 rfl ?_
    obtain ⟨r_3, hc_2, hr⟩ := gBind_some hr
    refine c_X11_lit (pc := 15) C dX11_pairs_15 q1777 ⟨Nat.le_of_ble_eq_true rfl, Nat.le_of_ble_eq_true rfl⟩ h1 hc_2 (Nat.le_of_ble_eq_true rfl) ?_
    refine r_iadd (pc := 18) C dX11_pairs_18 ?_
    obtain ⟨x2_4, ex2_4, hr⟩ := gLet_some hr
    refine r_istore_n (pc := 19) C dX11_pairs_19 rfl (by decide) ex2_4 (ls' := [(2, .int x2_4), (0, .ref (gad 50 0)), (1, .ref (gad 52 i1)), (3, .int x3)]) rfl ?_
    obtain ⟨x3_5, ex3_5, hr⟩ := gLet_some hr
    refine r_iinc (pc := 20) C dX11_pairs_20 3 rfl rfl (by decide) ex3_5 (ls' := [(3, .int x3_5), (2, .int x2_4), (0, .ref (gad 50 0)), (1, .ref (gad 52 i1))]) rfl ?_
    refine r_goto (pc := 23) (tgt := 4) C dX11_pairs_23 rfl ?_
    refine r_sub C [2, 3, 1, 0] (ls' := [(0, .ref (gad 50 0)), (1, .ref (gad 52 i1)), (2, .int x2_4), (3, .int x3_5)]) rfl ?_
    exact hn (x2_4, x3_5) (gSome hr)
noncomputable def X11_pairs (i1 : Nat) (M : gM) : Option Int32 := (gIter (fun s => X11_pairs_L4 i1 s.1 s.2 M) FU (0, 0)).bind (fun x2_6 => some x2_6)
theorem k_X11_pairs {G : gG5} {nf : Nat} {M : gM} {i1 : Nat} (h1 : i1 < 20) {r : Int32} (hr : X11_pairs i1 M = some r) : gMet G (gXn nf) yX11_pairs cX11_pairs 4 (some .int) 2 43 M [.ref (gad 50 0), .ref (gad 52 i1)] (some (.int r)) M := by
  refine gMet_of pl_X11 rfl (Nat.le_of_ble_eq_true rfl) (fun Ψ C CR => ?_)
  show Ψ M 0 [(0, .ref (gad 50 0)), (1, .ref (gad 52 i1))] []
  refine r_iconst (pc := 0) C dX11_pairs_0 ki0 ?_
  refine r_istore_n (pc := 1) C dX11_pairs_1 rfl (by decide) rfl (ls' := [(2, .int 0), (0, .ref (gad 50 0)), (1, .ref (gad 52 i1))]) rfl ?_
  refine r_iconst (pc := 2) C dX11_pairs_2 ki0 ?_
  refine r_istore_n (pc := 3) C dX11_pairs_3 rfl (by decide) rfl (ls' := [(3, .int 0), (2, .int 0), (0, .ref (gad 50 0)), (1, .ref (gad 52 i1))]) rfl ?_
  refine r_sub C [2, 3, 1, 0] (ls' := [(0, .ref (gad 50 0)), (1, .ref (gad 52 i1)), (2, .int 0), (3, .int 0)]) rfl ?_
  obtain ⟨ev, hit, hr⟩ := gBind_some hr
  refine gIter_V (step := fun s => X11_pairs_L4 i1 s.1 s.2 M) (P := fun s => Ψ M 4 [(0, .ref (gad 50 0)), (1, .ref (gad 52 i1)), (2, .int (s.1)), (3, .int (s.2))] []) (K := (fun e => Ψ M 26 [(2, .int e)] [])) (fun s w hs hn hx => t_X11_pairs_L4 C h1 hs hn hx) FU (0, 0) ev hit ?_
  obtain ⟨x2_6, rfl⟩ : ∃ z, z = ev := ⟨_, rfl⟩
  show Ψ M 26 [(2, .int x2_6)] []
  refine r_iload_n (pc := 26) C dX11_pairs_26 rfl 0 rfl ?_
  exact r_iret (pc := 27) CR dX11_pairs_27 (congrArg (fun z => some (Value.int z)) (gSome hr)) rfl
theorem c_X11_pairs {Ψ : gM → Nat → List (Nat × Value) → List Value → Prop} {G : gG5} {nf : Nat} {cc : ByteArray} {own : String} {nL : Nat} {ret : Option FieldType} {fr lo : Nat} {v0 : Option Value} {M0 M : gM} {pc index : Nat} {ls : List (Nat × Value)} {st : List Value} (C : gC Ψ G (gXn nf) cc own nL ret fr lo v0 M0) (d : decode cc pc = .ok (.invokevirtual index, 3)) (hl : Cond.methodLink own index yX11_pairs ∈ gws) (hR : 3 ≤ fr ∧ 66 ≤ lo) {i1 : Nat} (h1 : i1 < 20) {r : Int32} (hr : X11_pairs i1 M = some r) (hcat : (st.map fun v => v.category).sum ≤ 8) (k : Ψ M (pc + 3) ls (.int r :: st)) : Ψ M pc ls (.ref (gad 52 i1) :: .ref (gad 50 0) :: st) := r_callV C [.ref (gad 52 i1)] st d (k_X11_pairs h1 hr) hl q1775 q81 q127 q1776 hd_X11_pairs hR rfl (by decide) (e50 nf) rfl hcat k
theorem hd_X11_resolved : yX11_resolved.cls ≠ "java/lang/invoke/MethodHandle" ∧ yX11_resolved.cls ≠ "java/lang/invoke/VarHandle" ∧ (parseMethodDescriptor yX11_resolved.desc).map (fun d => d.parameters.length) = some 3 := by decide +kernel
noncomputable def X11_resolved_L6 (i1 : Nat) (x2 : Int32) (x3 : Int32) (x4 : Int32) (x5 : Int32) (M : gM) : Option ((Int32 × Int32) ⊕ Int32) := (if (M.1 52 2 3) ≤ x5 then some (.inr x4) else (X11_place x2 x3 x5 M).bind (fun r_3 => gG (gin (256 + r_3) (gLen 52 i1)) (gLet ((x4 + (M.1 52 i1 (Int32.toNatClampNeg (256 + r_3))))) (fun x4_5 => gLet (x5 + 1) (fun x5_6 => some (.inl (x4_5, x5_6)))))))
theorem t_X11_resolved_L6 {Ψ : gM → Nat → List (Nat × Value) → List Value → Prop} {G : gG5} {nf : Nat} {M : gM} {v0 : Option Value} {M0 : gM} {i1 : Nat} {x2 : Int32} {x3 : Int32} {x4 : Int32} {x5 : Int32} {w : ((Int32 × Int32) ⊕ Int32)} (C : gC Ψ G (gXn nf) cX11_resolved RX11 6 (some .int) 1 22 v0 M0) (h1 : i1 < 20) (hr : X11_resolved_L6 i1 x2 x3 x4 x5 M = some w) (hn : ∀ s, w = .inl s → Ψ M 6 [(0, .ref (gad 50 0)), (1, .ref (gad 52 i1)), (2, .int x2), (3, .int x3), (4, .int (s.1)), (5, .int (s.2))] []) (hx : ∀ e, w = .inr e → (fun e => Ψ M 41 [(0, .ref (gad 50 0)), (4, .int e)] []) e) : Ψ M 6 [(0, .ref (gad 50 0)), (1, .ref (gad 52 i1)), (2, .int x2), (3, .int x3), (4, .int x4), (5, .int x5)] [] := by
  refine r_iload (pc := 6) C dX11_resolved_6 5 rfl ?_
  refine r_aload_n (pc := 8) C dX11_resolved_8 rfl 0 rfl ?_
  refine g50_9 (pc := 9) C dX11_resolved_9 q1409 (e50 nf) ?_
  refine r_iconst (pc := 12) C dX11_resolved_12 ki3 ?_
  refine r_ialdN (pc := 13) C dX11_resolved_13 rfl (e52 (nf := nf) (by decide)) (by decide : gin 3 9 = true) kc3 ?_
  refine r_icmp_ge (pc := 14) (tgt := 41) C dX11_resolved_14 rfl (fun c_1 => ?_) (fun c_1 => ?_)
  · replace hr := (if_pos c_1).symm.trans hr
    refine r_sub C [0, 4] (ls' := [(0, .ref (gad 50 0)), (4, .int x4)]) rfl ?_
    exact hx x4 (gSome hr)
  · replace hr := (if_neg c_1).symm.trans hr
    refine r_iload (pc := 17) C dX11_resolved_17 4 rfl ?_
    refine r_aload_n (pc := 19) C dX11_resolved_19 rfl 1 rfl ?_
    refine r_sipush (pc := 20) C dX11_resolved_20 ks256 ?_
    refine r_iload_n (pc := 23) C dX11_resolved_23 rfl 2 rfl ?_
    refine r_iload_n (pc := 24) C dX11_resolved_24 rfl 3 rfl ?_
    refine r_iload (pc := 25) C dX11_resolved_25 5 rfl ?_
    obtain ⟨r_3, hc_2, hr⟩ := gBind_some hr
    refine c_X11_place (pc := 27) C dX11_resolved_27 q1725 ⟨Nat.le_of_ble_eq_true rfl, Nat.le_of_ble_eq_true rfl⟩ hc_2 (Nat.le_of_ble_eq_true rfl) ?_
    refine r_iadd (pc := 30) C dX11_resolved_30 ?_
    obtain ⟨g_4, hr⟩ := gG_some hr
    refine r_ialdN (pc := 31) C dX11_resolved_31 rfl (e52 (nf := nf) h1) g_4 rfl ?_
    refine r_iadd (pc := 32) C dX11_resolved_32 ?_
    obtain ⟨x4_5, ex4_5, hr⟩ := gLet_some hr
    refine r_istore (pc := 33) C dX11_resolved_33 (by decide) ex4_5 (ls' := [(4, .int x4_5), (0, .ref (gad 50 0)), (1, .ref (gad 52 i1)), (2, .int x2), (3, .int x3), (5, .int x5)]) rfl ?_
    obtain ⟨x5_6, ex5_6, hr⟩ := gLet_some hr
    refine r_iinc (pc := 35) C dX11_resolved_35 5 rfl rfl (by decide) ex5_6 (ls' := [(5, .int x5_6), (4, .int x4_5), (0, .ref (gad 50 0)), (1, .ref (gad 52 i1)), (2, .int x2), (3, .int x3)]) rfl ?_
    refine r_goto (pc := 38) (tgt := 6) C dX11_resolved_38 rfl ?_
    refine r_sub C [2, 3, 4, 5, 1, 0] (ls' := [(0, .ref (gad 50 0)), (1, .ref (gad 52 i1)), (2, .int x2), (3, .int x3), (4, .int x4_5), (5, .int x5_6)]) rfl ?_
    exact hn (x4_5, x5_6) (gSome hr)
noncomputable def X11_resolved (i1 : Nat) (p2 : Int32) (p3 : Int32) (M : gM) : Option Int32 := (gIter (fun s => X11_resolved_L6 i1 p2 p3 s.1 s.2 M) FU (0, 0)).bind (fun x4_7 => gG (decide (¬ (M.1 52 2 3) = 0)) (some (x4_7 / (M.1 52 2 3))))
theorem k_X11_resolved {G : gG5} {nf : Nat} {M : gM} {i1 : Nat} {p2 : Int32} {p3 : Int32} (h1 : i1 < 20) {r : Int32} (hr : X11_resolved i1 p2 p3 M = some r) : gMet G (gXn nf) yX11_resolved cX11_resolved 6 (some .int) 1 22 M [.ref (gad 50 0), .ref (gad 52 i1), .int p2, .int p3] (some (.int r)) M := by
  refine gMet_of pl_X11 rfl (Nat.le_of_ble_eq_true rfl) (fun Ψ C CR => ?_)
  show Ψ M 0 [(0, .ref (gad 50 0)), (1, .ref (gad 52 i1)), (2, .int p2), (3, .int p3)] []
  refine r_iconst (pc := 0) C dX11_resolved_0 ki0 ?_
  refine r_istore (pc := 1) C dX11_resolved_1 (by decide) rfl (ls' := [(4, .int 0), (0, .ref (gad 50 0)), (1, .ref (gad 52 i1)), (2, .int p2), (3, .int p3)]) rfl ?_
  refine r_iconst (pc := 3) C dX11_resolved_3 ki0 ?_
  refine r_istore (pc := 4) C dX11_resolved_4 (by decide) rfl (ls' := [(5, .int 0), (4, .int 0), (0, .ref (gad 50 0)), (1, .ref (gad 52 i1)), (2, .int p2), (3, .int p3)]) rfl ?_
  refine r_sub C [2, 3, 4, 5, 1, 0] (ls' := [(0, .ref (gad 50 0)), (1, .ref (gad 52 i1)), (2, .int p2), (3, .int p3), (4, .int 0), (5, .int 0)]) rfl ?_
  obtain ⟨ev, hit, hr⟩ := gBind_some hr
  refine gIter_V (step := fun s => X11_resolved_L6 i1 p2 p3 s.1 s.2 M) (P := fun s => Ψ M 6 [(0, .ref (gad 50 0)), (1, .ref (gad 52 i1)), (2, .int p2), (3, .int p3), (4, .int (s.1)), (5, .int (s.2))] []) (K := (fun e => Ψ M 41 [(0, .ref (gad 50 0)), (4, .int e)] [])) (fun s w hs hn hx => t_X11_resolved_L6 C h1 hs hn hx) FU (0, 0) ev hit ?_
  obtain ⟨x4_7, rfl⟩ : ∃ z, z = ev := ⟨_, rfl⟩
  show Ψ M 41 [(0, .ref (gad 50 0)), (4, .int x4_7)] []
  refine r_iload (pc := 41) C dX11_resolved_41 1 rfl ?_
  refine r_aload_n (pc := 43) C dX11_resolved_43 rfl 0 rfl ?_
  refine g50_9 (pc := 44) C dX11_resolved_44 q1409 (e50 nf) ?_
  refine r_iconst (pc := 47) C dX11_resolved_47 ki3 ?_
  refine r_ialdN (pc := 48) C dX11_resolved_48 rfl (e52 (nf := nf) (by decide)) (by decide : gin 3 9 = true) kc3 ?_
  obtain ⟨g_8, hr⟩ := gG_some hr
  refine r_idiv (pc := 49) C dX11_resolved_49 (of_decide_eq_true g_8) ?_
  exact r_iret (pc := 50) CR dX11_resolved_50 (congrArg (fun z => some (Value.int z)) (gSome hr)) rfl
theorem c_X11_resolved {Ψ : gM → Nat → List (Nat × Value) → List Value → Prop} {G : gG5} {nf : Nat} {cc : ByteArray} {own : String} {nL : Nat} {ret : Option FieldType} {fr lo : Nat} {v0 : Option Value} {M0 M : gM} {pc index : Nat} {ls : List (Nat × Value)} {st : List Value} (C : gC Ψ G (gXn nf) cc own nL ret fr lo v0 M0) (d : decode cc pc = .ok (.invokevirtual index, 3)) (hl : Cond.methodLink own index yX11_resolved ∈ gws) (hR : 2 ≤ fr ∧ 47 ≤ lo) {i1 : Nat} {p2 : Int32} {p3 : Int32} (h1 : i1 < 20) {r : Int32} (hr : X11_resolved i1 p2 p3 M = some r) (hcat : (st.map fun v => v.category).sum ≤ 8) (k : Ψ M (pc + 3) ls (.int r :: st)) : Ψ M pc ls (.int p3 :: .int p2 :: .ref (gad 52 i1) :: .ref (gad 50 0) :: st) := r_callV C [.ref (gad 52 i1), .int p2, .int p3] st d (k_X11_resolved h1 hr) hl q1953 q102 q127 q1954 hd_X11_resolved hR rfl (by decide) (e50 nf) rfl hcat k
theorem hd_X11_remember : yX11_remember.cls ≠ "java/lang/invoke/MethodHandle" ∧ yX11_remember.cls ≠ "java/lang/invoke/VarHandle" ∧ (parseMethodDescriptor yX11_remember.desc).map (fun d => d.parameters.length) = some 0 := by decide +kernel
noncomputable def X11_remember_J35 (M : gM) : Option gM := (X11_copyRow 8 0 11 (1242 * (gRem (((M.1 50 0 22) + (M.1 50 0 23)) - 1) 40)) M).bind (fun M_4 => some M_4)
theorem t_X11_remember_J35 {Ψ : gM → Nat → List (Nat × Value) → List Value → Prop} {G : gG5} {nf : Nat} {M : gM} {M1 : gM} (C : gC Ψ G (gXn nf) cX11_remember RX11 1 none 1 24 none M1) (CR : gR Ψ cX11_remember none none M1) (hr : X11_remember_J35 M = some M1) : Ψ M 35 [(0, .ref (gad 50 0))] [] := by
  refine r_aload_n (pc := 35) C dX11_remember_35 rfl 0 rfl ?_
  refine g50_18 (pc := 36) C dX11_remember_36 q1418 (e50 nf) ?_
  refine r_iconst (pc := 39) C dX11_remember_39 ki0 ?_
  refine r_aload_n (pc := 40) C dX11_remember_40 rfl 0 rfl ?_
  refine g50_21 (pc := 41) C dX11_remember_41 q1421 (e50 nf) ?_
  refine r_sipush (pc := 44) C dX11_remember_44 ks1242 ?_
  refine r_aload_n (pc := 47) C dX11_remember_47 rfl 0 rfl ?_
  refine g50_22 (pc := 48) C dX11_remember_48 q1422 (e50 nf) ?_
  refine r_aload_n (pc := 51) C dX11_remember_51 rfl 0 rfl ?_
  refine g50_23 (pc := 52) C dX11_remember_52 q1423 (e50 nf) ?_
  refine r_iadd (pc := 55) C dX11_remember_55 ?_
  refine r_iconst (pc := 56) C dX11_remember_56 ki1 ?_
  refine r_isub (pc := 57) C dX11_remember_57 ?_
  refine r_bipush (pc := 58) C dX11_remember_58 kb40 ?_
  refine r_irem (pc := 60) C dX11_remember_60 (by decide) ?_
  refine r_imul (pc := 61) C dX11_remember_61 ?_
  obtain ⟨M_4, hc_3, hr⟩ := gBind_some hr
  refine c_X11_copyRow (pc := 62) C dX11_remember_62 q1702 ⟨Nat.le_of_ble_eq_true rfl, Nat.le_of_ble_eq_true rfl⟩ (by decide) (by decide) hc_3 (Nat.le_of_ble_eq_true rfl) ?_
  exact r_vret (pc := 65) CR dX11_remember_65 rfl (gSome hr)
noncomputable def X11_remember (M : gM) : Option gM := (if (M.1 50 0 23) = 40 then gLet (wI M 50 0 22 (gRem ((M.1 50 0 22) + 1) 40)) (fun M_5 => X11_remember_J35 M_5) else gLet (wI M 50 0 23 ((M.1 50 0 23) + 1)) (fun M_2 => X11_remember_J35 M_2))
theorem k_X11_remember {G : gG5} {nf : Nat} {M : gM} {M1 : gM} (hr : X11_remember M = some M1) : gMet G (gXn nf) yX11_remember cX11_remember 1 none 1 24 M [.ref (gad 50 0)] none M1 := by
  refine gMet_of pl_X11 rfl (Nat.le_of_ble_eq_true rfl) (fun Ψ C CR => ?_)
  show Ψ M 0 [(0, .ref (gad 50 0))] []
  refine r_aload_n (pc := 0) C dX11_remember_0 rfl 0 rfl ?_
  refine g50_23 (pc := 1) C dX11_remember_1 q1423 (e50 nf) ?_
  refine r_bipush (pc := 4) C dX11_remember_4 kb40 ?_
  refine r_icmp_ne (pc := 6) (tgt := 25) C dX11_remember_6 rfl (fun c_1 => ?_) (fun c_1 => ?_)
  · replace hr := (if_neg c_1).symm.trans hr
    refine r_aload_n (pc := 25) C dX11_remember_25 rfl 0 rfl ?_
    refine r_dup (pc := 26) C dX11_remember_26 rfl ?_
    refine g50_23 (pc := 27) C dX11_remember_27 q1423 (e50 nf) ?_
    refine r_iconst (pc := 30) C dX11_remember_30 ki1 ?_
    refine r_iadd (pc := 31) C dX11_remember_31 ?_
    obtain ⟨M_2, eM_2, hr⟩ := gLet_some hr
    refine p50_23 (pc := 32) C dX11_remember_32 q1423 (e50 nf) eM_2 ?_
    exact t_X11_remember_J35 C CR  hr
  · replace hr := (if_pos c_1).symm.trans hr
    refine r_aload_n (pc := 9) C dX11_remember_9 rfl 0 rfl ?_
    refine r_aload_n (pc := 10) C dX11_remember_10 rfl 0 rfl ?_
    refine g50_22 (pc := 11) C dX11_remember_11 q1422 (e50 nf) ?_
    refine r_iconst (pc := 14) C dX11_remember_14 ki1 ?_
    refine r_iadd (pc := 15) C dX11_remember_15 ?_
    refine r_bipush (pc := 16) C dX11_remember_16 kb40 ?_
    refine r_irem (pc := 18) C dX11_remember_18 (by decide) ?_
    obtain ⟨M_5, eM_5, hr⟩ := gLet_some hr
    refine p50_22 (pc := 19) C dX11_remember_19 q1422 (e50 nf) eM_5 ?_
    refine r_goto (pc := 22) (tgt := 35) C dX11_remember_22 rfl ?_
    exact t_X11_remember_J35 C CR  hr
theorem c_X11_remember {Ψ : gM → Nat → List (Nat × Value) → List Value → Prop} {G : gG5} {nf : Nat} {cc : ByteArray} {own : String} {nL : Nat} {ret : Option FieldType} {fr lo : Nat} {v0 : Option Value} {M0 M : gM} {pc index : Nat} {ls : List (Nat × Value)} {st : List Value} (C : gC Ψ G (gXn nf) cc own nL ret fr lo v0 M0) (d : decode cc pc = .ok (.invokevirtual index, 3)) (hl : Cond.methodLink own index yX11_remember ∈ gws) (hR : 2 ≤ fr ∧ 44 ≤ lo) {M1 : gM} (hr : X11_remember M = some M1) (hcat : (st.map fun v => v.category).sum ≤ 8) (k : Ψ M1 (pc + 3) ls (st)) : Ψ M pc ls (.ref (gad 50 0) :: st) := r_callV C [] st d (k_X11_remember hr) hl q1700 q66 q127 q1701 hd_X11_remember hR rfl (by decide) (e50 nf) rfl hcat k
theorem hd_X11_tells : yX11_tells.cls ≠ "java/lang/invoke/MethodHandle" ∧ yX11_tells.cls ≠ "java/lang/invoke/VarHandle" ∧ (parseMethodDescriptor yX11_tells.desc).map (fun d => d.parameters.length) = some 2 := by decide +kernel
noncomputable def X11_tells_J62 (x1 : Int32) (x2 : Int32) (M : gM) : Option gM := gLet ((1062 + (3 * (M.1 52 8 1061)))) (fun x3_2 => gG (gin x3_2 1242) (gLet (wI M 52 8 (Int32.toNatClampNeg x3_2) x1) (fun M_4 => gG (gin (x3_2 + 1) 1242) (gLet (wI M_4 52 8 (Int32.toNatClampNeg (x3_2 + 1)) x2) (fun M_6 => (X11_pairs 8 M_6).bind (fun r_8 => gG (gin (x3_2 + 2) 1242) (gLet (wI M_6 52 8 (Int32.toNatClampNeg (x3_2 + 2)) r_8) (fun M_10 => gLet (wI M_10 52 8 1061 ((M_10.1 52 8 1061) + 1)) (fun M_11 => some M_11)))))))))
theorem t_X11_tells_J62 {Ψ : gM → Nat → List (Nat × Value) → List Value → Prop} {G : gG5} {nf : Nat} {M : gM} {x1 : Int32} {x2 : Int32} {M1 : gM} (C : gC Ψ G (gXn nf) cX11_tells RX11 4 none 3 66 none M1) (CR : gR Ψ cX11_tells none none M1) (hr : X11_tells_J62 x1 x2 M = some M1) : Ψ M 62 [(0, .ref (gad 50 0)), (1, .int x1), (2, .int x2)] [] := by
  refine r_sipush (pc := 62) C dX11_tells_62 ks1062 ?_
  refine r_iconst (pc := 65) C dX11_tells_65 ki3 ?_
  refine r_aload_n (pc := 66) C dX11_tells_66 rfl 0 rfl ?_
  refine g50_18 (pc := 67) C dX11_tells_67 q1418 (e50 nf) ?_
  refine r_sipush (pc := 70) C dX11_tells_70 ks1061 ?_
  refine r_ialdN (pc := 73) C dX11_tells_73 rfl (e52 (nf := nf) (by decide)) (by decide : gin 1061 1242 = true) kc1061 ?_
  refine r_imul (pc := 74) C dX11_tells_74 ?_
  refine r_iadd (pc := 75) C dX11_tells_75 ?_
  obtain ⟨x3_2, ex3_2, hr⟩ := gLet_some hr
  refine r_istore_n (pc := 76) C dX11_tells_76 rfl (by decide) ex3_2 (ls' := [(3, .int x3_2), (0, .ref (gad 50 0)), (1, .int x1), (2, .int x2)]) rfl ?_
  refine r_aload_n (pc := 77) C dX11_tells_77 rfl 1 rfl ?_
  refine g50_18 (pc := 78) C dX11_tells_78 q1418 (e50 nf) ?_
  refine r_iload_n (pc := 81) C dX11_tells_81 rfl 0 rfl ?_
  refine r_iload_n (pc := 82) C dX11_tells_82 rfl 2 rfl ?_
  obtain ⟨g_3, hr⟩ := gG_some hr
  obtain ⟨M_4, eM_4, hr⟩ := gLet_some hr
  refine r_iastN (pc := 83) C dX11_tells_83 rfl (e52 (nf := nf) (by decide)) g_3 rfl eM_4 ?_
  refine r_aload_n (pc := 84) C dX11_tells_84 rfl 1 rfl ?_
  refine g50_18 (pc := 85) C dX11_tells_85 q1418 (e50 nf) ?_
  refine r_iload_n (pc := 88) C dX11_tells_88 rfl 0 rfl ?_
  refine r_iconst (pc := 89) C dX11_tells_89 ki1 ?_
  refine r_iadd (pc := 90) C dX11_tells_90 ?_
  refine r_iload_n (pc := 91) C dX11_tells_91 rfl 3 rfl ?_
  obtain ⟨g_5, hr⟩ := gG_some hr
  obtain ⟨M_6, eM_6, hr⟩ := gLet_some hr
  refine r_iastN (pc := 92) C dX11_tells_92 rfl (e52 (nf := nf) (by decide)) g_5 rfl eM_6 ?_
  refine r_aload_n (pc := 93) C dX11_tells_93 rfl 1 rfl ?_
  refine g50_18 (pc := 94) C dX11_tells_94 q1418 (e50 nf) ?_
  refine r_iload_n (pc := 97) C dX11_tells_97 rfl 0 rfl ?_
  refine r_iconst (pc := 98) C dX11_tells_98 ki2 ?_
  refine r_iadd (pc := 99) C dX11_tells_99 ?_
  refine r_aload_n (pc := 100) C dX11_tells_100 rfl 1 rfl ?_
  refine r_aload_n (pc := 101) C dX11_tells_101 rfl 1 rfl ?_
  refine g50_18 (pc := 102) C dX11_tells_102 q1418 (e50 nf) ?_
  obtain ⟨r_8, hc_7, hr⟩ := gBind_some hr
  refine c_X11_pairs (pc := 105) C dX11_tells_105 q1773 ⟨Nat.le_of_ble_eq_true rfl, Nat.le_of_ble_eq_true rfl⟩ (by decide) hc_7 (Nat.le_of_ble_eq_true rfl) ?_
  obtain ⟨g_9, hr⟩ := gG_some hr
  obtain ⟨M_10, eM_10, hr⟩ := gLet_some hr
  refine r_iastN (pc := 108) C dX11_tells_108 rfl (e52 (nf := nf) (by decide)) g_9 rfl eM_10 ?_
  refine r_aload_n (pc := 109) C dX11_tells_109 rfl 1 rfl ?_
  refine g50_18 (pc := 110) C dX11_tells_110 q1418 (e50 nf) ?_
  refine r_sipush (pc := 113) C dX11_tells_113 ks1061 ?_
  refine r_dup2 (pc := 116) C dX11_tells_116 rfl rfl ?_
  refine r_ialdN (pc := 117) C dX11_tells_117 rfl (e52 (nf := nf) (by decide)) (by decide : gin 1061 1242 = true) kc1061 ?_
  refine r_iconst (pc := 118) C dX11_tells_118 ki1 ?_
  refine r_iadd (pc := 119) C dX11_tells_119 ?_
  obtain ⟨M_11, eM_11, hr⟩ := gLet_some hr
  refine r_iastN (pc := 120) C dX11_tells_120 rfl (e52 (nf := nf) (by decide)) (by decide : gin 1061 1242 = true) kc1061 eM_11 ?_
  exact r_vret (pc := 121) CR dX11_tells_121 rfl (gSome hr)
noncomputable def X11_tells_L15 (x1 : Int32) (x2 : Int32) (x3 : Int32) (M : gM) : Option ((Int32 × gM) ⊕ gM) := (if 177 < x3 then some (.inr M) else gG (gin ((1061 + x3) + 3) 1242) (gG (gin (1061 + x3) 1242) (gLet (wI M 52 8 (Int32.toNatClampNeg (1061 + x3)) (M.1 52 8 (Int32.toNatClampNeg ((1061 + x3) + 3)))) (fun M_15 => gLet (x3 + 1) (fun x3_16 => some (.inl (x3_16, M_15)))))))
theorem t_X11_tells_L15 {Ψ : gM → Nat → List (Nat × Value) → List Value → Prop} {G : gG5} {nf : Nat} {M : gM} {v0 : Option Value} {M0 : gM} {x1 : Int32} {x2 : Int32} {x3 : Int32} {w : ((Int32 × gM) ⊕ gM)} (C : gC Ψ G (gXn nf) cX11_tells RX11 4 none 3 66 v0 M0) (hr : X11_tells_L15 x1 x2 x3 M = some w) (hn : ∀ s, w = .inl s → Ψ s.2 15 [(0, .ref (gad 50 0)), (1, .int x1), (2, .int x2), (3, .int (s.1))] []) (hx : ∀ e, w = .inr e → (fun e => Ψ e 50 [(0, .ref (gad 50 0)), (1, .int x1), (2, .int x2)] []) e) : Ψ M 15 [(0, .ref (gad 50 0)), (1, .int x1), (2, .int x2), (3, .int x3)] [] := by
  refine r_iload_n (pc := 15) C dX11_tells_15 rfl 3 rfl ?_
  refine r_sipush (pc := 16) C dX11_tells_16 ks177 ?_
  refine r_icmp_gt (pc := 19) (tgt := 50) C dX11_tells_19 rfl (fun c_12 => ?_) (fun c_12 => ?_)
  · replace hr := (if_pos c_12).symm.trans hr
    refine r_sub C [0, 1, 2] (ls' := [(0, .ref (gad 50 0)), (1, .int x1), (2, .int x2)]) rfl ?_
    exact hx M (gSome hr)
  · replace hr := (if_neg c_12).symm.trans hr
    refine r_aload_n (pc := 22) C dX11_tells_22 rfl 0 rfl ?_
    refine g50_18 (pc := 23) C dX11_tells_23 q1418 (e50 nf) ?_
    refine r_sipush (pc := 26) C dX11_tells_26 ks1061 ?_
    refine r_iload_n (pc := 29) C dX11_tells_29 rfl 3 rfl ?_
    refine r_iadd (pc := 30) C dX11_tells_30 ?_
    refine r_aload_n (pc := 31) C dX11_tells_31 rfl 0 rfl ?_
    refine g50_18 (pc := 32) C dX11_tells_32 q1418 (e50 nf) ?_
    refine r_sipush (pc := 35) C dX11_tells_35 ks1061 ?_
    refine r_iload_n (pc := 38) C dX11_tells_38 rfl 3 rfl ?_
    refine r_iadd (pc := 39) C dX11_tells_39 ?_
    refine r_iconst (pc := 40) C dX11_tells_40 ki3 ?_
    refine r_iadd (pc := 41) C dX11_tells_41 ?_
    obtain ⟨g_13, hr⟩ := gG_some hr
    refine r_ialdN (pc := 42) C dX11_tells_42 rfl (e52 (nf := nf) (by decide)) g_13 rfl ?_
    obtain ⟨g_14, hr⟩ := gG_some hr
    obtain ⟨M_15, eM_15, hr⟩ := gLet_some hr
    refine r_iastN (pc := 43) C dX11_tells_43 rfl (e52 (nf := nf) (by decide)) g_14 rfl eM_15 ?_
    obtain ⟨x3_16, ex3_16, hr⟩ := gLet_some hr
    refine r_iinc (pc := 44) C dX11_tells_44 3 rfl rfl (by decide) ex3_16 (ls' := [(3, .int x3_16), (0, .ref (gad 50 0)), (1, .int x1), (2, .int x2)]) rfl ?_
    refine r_goto (pc := 47) (tgt := 15) C dX11_tells_47 rfl ?_
    refine r_sub C [1, 2, 3, 0] (ls' := [(0, .ref (gad 50 0)), (1, .int x1), (2, .int x2), (3, .int x3_16)]) rfl ?_
    exact hn (x3_16, M_15) (gSome hr)
noncomputable def X11_tells (p1 : Int32) (p2 : Int32) (M : gM) : Option gM := (if (M.1 52 8 1061) = 60 then (gIter (fun s => X11_tells_L15 p1 p2 s.1 s.2) FU (1, M)).bind (fun M_17 => gLet (wI M_17 52 8 1061 ((M_17.1 52 8 1061) - 1)) (fun M_18 => X11_tells_J62 p1 p2 M_18)) else X11_tells_J62 p1 p2 M)
theorem k_X11_tells {G : gG5} {nf : Nat} {M : gM} {p1 : Int32} {p2 : Int32} {M1 : gM} (hr : X11_tells p1 p2 M = some M1) : gMet G (gXn nf) yX11_tells cX11_tells 4 none 3 66 M [.ref (gad 50 0), .int p1, .int p2] none M1 := by
  refine gMet_of pl_X11 rfl (Nat.le_of_ble_eq_true rfl) (fun Ψ C CR => ?_)
  show Ψ M 0 [(0, .ref (gad 50 0)), (1, .int p1), (2, .int p2)] []
  refine r_aload_n (pc := 0) C dX11_tells_0 rfl 0 rfl ?_
  refine g50_18 (pc := 1) C dX11_tells_1 q1418 (e50 nf) ?_
  refine r_sipush (pc := 4) C dX11_tells_4 ks1061 ?_
  refine r_ialdN (pc := 7) C dX11_tells_7 rfl (e52 (nf := nf) (by decide)) (by decide : gin 1061 1242 = true) kc1061 ?_
  refine r_bipush (pc := 8) C dX11_tells_8 kb60 ?_
  refine r_icmp_ne (pc := 10) (tgt := 62) C dX11_tells_10 rfl (fun c_1 => ?_) (fun c_1 => ?_)
  · replace hr := (if_neg c_1).symm.trans hr
    exact t_X11_tells_J62 C CR  hr
  · replace hr := (if_pos c_1).symm.trans hr
    refine r_iconst (pc := 13) C dX11_tells_13 ki1 ?_
    refine r_istore_n (pc := 14) C dX11_tells_14 rfl (by decide) rfl (ls' := [(3, .int 1), (0, .ref (gad 50 0)), (1, .int p1), (2, .int p2)]) rfl ?_
    refine r_sub C [1, 2, 3, 0] (ls' := [(0, .ref (gad 50 0)), (1, .int p1), (2, .int p2), (3, .int 1)]) rfl ?_
    obtain ⟨ev, hit, hr⟩ := gBind_some hr
    refine gIter_V (step := fun s => X11_tells_L15 p1 p2 s.1 s.2) (P := fun s => Ψ s.2 15 [(0, .ref (gad 50 0)), (1, .int p1), (2, .int p2), (3, .int (s.1))] []) (K := (fun e => Ψ e 50 [(0, .ref (gad 50 0)), (1, .int p1), (2, .int p2)] [])) (fun s w hs hn hx => t_X11_tells_L15 C  hs hn hx) FU (1, M) ev hit ?_
    obtain ⟨M_17, rfl⟩ : ∃ z, z = ev := ⟨_, rfl⟩
    show Ψ M_17 50 [(0, .ref (gad 50 0)), (1, .int p1), (2, .int p2)] []
    refine r_aload_n (pc := 50) C dX11_tells_50 rfl 0 rfl ?_
    refine g50_18 (pc := 51) C dX11_tells_51 q1418 (e50 nf) ?_
    refine r_sipush (pc := 54) C dX11_tells_54 ks1061 ?_
    refine r_dup2 (pc := 57) C dX11_tells_57 rfl rfl ?_
    refine r_ialdN (pc := 58) C dX11_tells_58 rfl (e52 (nf := nf) (by decide)) (by decide : gin 1061 1242 = true) kc1061 ?_
    refine r_iconst (pc := 59) C dX11_tells_59 ki1 ?_
    refine r_isub (pc := 60) C dX11_tells_60 ?_
    obtain ⟨M_18, eM_18, hr⟩ := gLet_some hr
    refine r_iastN (pc := 61) C dX11_tells_61 rfl (e52 (nf := nf) (by decide)) (by decide : gin 1061 1242 = true) kc1061 eM_18 ?_
    exact t_X11_tells_J62 C CR  hr
theorem c_X11_tells {Ψ : gM → Nat → List (Nat × Value) → List Value → Prop} {G : gG5} {nf : Nat} {cc : ByteArray} {own : String} {nL : Nat} {ret : Option FieldType} {fr lo : Nat} {v0 : Option Value} {M0 M : gM} {pc index : Nat} {ls : List (Nat × Value)} {st : List Value} (C : gC Ψ G (gXn nf) cc own nL ret fr lo v0 M0) (d : decode cc pc = .ok (.invokevirtual index, 3)) (hl : Cond.methodLink own index yX11_tells ∈ gws) (hR : 4 ≤ fr ∧ 89 ≤ lo) {p1 : Int32} {p2 : Int32} {M1 : gM} (hr : X11_tells p1 p2 M = some M1) (hcat : (st.map fun v => v.category).sum ≤ 8) (k : Ψ M1 (pc + 3) ls (st)) : Ψ M pc ls (.int p2 :: .int p1 :: .ref (gad 50 0) :: st) := r_callV C [.int p1, .int p2] st d (k_X11_tells hr) hl q1771 q80 q127 q1772 hd_X11_tells hR rfl (by decide) (e50 nf) rfl hcat k
theorem hd_X11_isTri : yX11_isTri.cls ≠ "java/lang/invoke/MethodHandle" ∧ yX11_isTri.cls ≠ "java/lang/invoke/VarHandle" ∧ (parseMethodDescriptor yX11_isTri.desc).map (fun d => d.parameters.length) = some 1 := by decide +kernel
noncomputable def X11_isTri (p1 : Int32) (M : gM) : Option Int32 := (if p1 < 0 then some 0 else (if (M.1 50 0 16) ≤ p1 then some 0 else some 1))
theorem k_X11_isTri {G : gG5} {nf : Nat} {M : gM} {p1 : Int32} {r : Int32} (hr : X11_isTri p1 M = some r) : gMet G (gXn nf) yX11_isTri cX11_isTri 2 (some .boolean) 0 0 M [.ref (gad 50 0), .int p1] (some (.int r)) M := by
  refine gMet_of pl_X11 rfl (Nat.le_of_ble_eq_true rfl) (fun Ψ C CR => ?_)
  show Ψ M 0 [(0, .ref (gad 50 0)), (1, .int p1)] []
  refine r_iload_n (pc := 0) C dX11_isTri_0 rfl 1 rfl ?_
  refine r_if_lt (pc := 1) (tgt := 16) C dX11_isTri_1 rfl (fun c_1 => ?_) (fun c_1 => ?_)
  · replace hr := (if_pos c_1).symm.trans hr
    refine r_iconst (pc := 16) C dX11_isTri_16 ki0 ?_
    exact r_zret (pc := 17) CR dX11_isTri_17 rfl (congrArg (fun z => some (Value.int z)) (gSome hr)) rfl
  · replace hr := (if_neg c_1).symm.trans hr
    refine r_iload_n (pc := 4) C dX11_isTri_4 rfl 1 rfl ?_
    refine r_aload_n (pc := 5) C dX11_isTri_5 rfl 0 rfl ?_
    refine g50_16 (pc := 6) C dX11_isTri_6 q1416 (e50 nf) ?_
    refine r_icmp_ge (pc := 9) (tgt := 16) C dX11_isTri_9 rfl (fun c_2 => ?_) (fun c_2 => ?_)
    · replace hr := (if_pos c_2).symm.trans hr
      refine r_iconst (pc := 16) C dX11_isTri_16 ki0 ?_
      exact r_zret (pc := 17) CR dX11_isTri_17 rfl (congrArg (fun z => some (Value.int z)) (gSome hr)) rfl
    · replace hr := (if_neg c_2).symm.trans hr
      refine r_iconst (pc := 12) C dX11_isTri_12 ki1 ?_
      refine r_goto (pc := 13) (tgt := 17) C dX11_isTri_13 rfl ?_
      exact r_zret (pc := 17) CR dX11_isTri_17 rfl (congrArg (fun z => some (Value.int z)) (gSome hr)) rfl
theorem c_X11_isTri {Ψ : gM → Nat → List (Nat × Value) → List Value → Prop} {G : gG5} {nf : Nat} {cc : ByteArray} {own : String} {nL : Nat} {ret : Option FieldType} {fr lo : Nat} {v0 : Option Value} {M0 M : gM} {pc index : Nat} {ls : List (Nat × Value)} {st : List Value} (C : gC Ψ G (gXn nf) cc own nL ret fr lo v0 M0) (d : decode cc pc = .ok (.invokevirtual index, 3)) (hl : Cond.methodLink own index yX11_isTri ∈ gws) (hR : 1 ≤ fr ∧ 21 ≤ lo) {p1 : Int32} {r : Int32} (hr : X11_isTri p1 M = some r) (hcat : (st.map fun v => v.category).sum ≤ 8) (k : Ψ M (pc + 3) ls (.int r :: st)) : Ψ M pc ls (.int p1 :: .ref (gad 50 0) :: st) := r_callV C [.int p1] st d (k_X11_isTri hr) hl q1646 q54 q127 q1647 hd_X11_isTri hR rfl (by decide) (e50 nf) rfl hcat k
theorem hd_X11_isTile : yX11_isTile.cls ≠ "java/lang/invoke/MethodHandle" ∧ yX11_isTile.cls ≠ "java/lang/invoke/VarHandle" ∧ (parseMethodDescriptor yX11_isTile.desc).map (fun d => d.parameters.length) = some 1 := by decide +kernel
noncomputable def X11_isTile (p1 : Int32) (M : gM) : Option Int32 := (if (M.1 50 0 16) ≤ 0 then some 0 else (if p1 < 0 then some 0 else (X11_tilesAll M).bind (fun r_4 => (if r_4 ≤ p1 then some 0 else some 1))))
theorem k_X11_isTile {G : gG5} {nf : Nat} {M : gM} {p1 : Int32} {r : Int32} (hr : X11_isTile p1 M = some r) : gMet G (gXn nf) yX11_isTile cX11_isTile 2 (some .boolean) 2 40 M [.ref (gad 50 0), .int p1] (some (.int r)) M := by
  refine gMet_of pl_X11 rfl (Nat.le_of_ble_eq_true rfl) (fun Ψ C CR => ?_)
  show Ψ M 0 [(0, .ref (gad 50 0)), (1, .int p1)] []
  refine r_aload_n (pc := 0) C dX11_isTile_0 rfl 0 rfl ?_
  refine g50_16 (pc := 1) C dX11_isTile_1 q1416 (e50 nf) ?_
  refine r_if_le (pc := 4) (tgt := 23) C dX11_isTile_4 rfl (fun c_1 => ?_) (fun c_1 => ?_)
  · replace hr := (if_pos c_1).symm.trans hr
    refine r_iconst (pc := 23) C dX11_isTile_23 ki0 ?_
    exact r_zret (pc := 24) CR dX11_isTile_24 rfl (congrArg (fun z => some (Value.int z)) (gSome hr)) rfl
  · replace hr := (if_neg c_1).symm.trans hr
    refine r_iload_n (pc := 7) C dX11_isTile_7 rfl 1 rfl ?_
    refine r_if_lt (pc := 8) (tgt := 23) C dX11_isTile_8 rfl (fun c_2 => ?_) (fun c_2 => ?_)
    · replace hr := (if_pos c_2).symm.trans hr
      refine r_iconst (pc := 23) C dX11_isTile_23 ki0 ?_
      exact r_zret (pc := 24) CR dX11_isTile_24 rfl (congrArg (fun z => some (Value.int z)) (gSome hr)) rfl
    · replace hr := (if_neg c_2).symm.trans hr
      refine r_iload_n (pc := 11) C dX11_isTile_11 rfl 1 rfl ?_
      refine r_aload_n (pc := 12) C dX11_isTile_12 rfl 0 rfl ?_
      obtain ⟨r_4, hc_3, hr⟩ := gBind_some hr
      refine c_X11_tilesAll (pc := 13) C dX11_isTile_13 q1663 ⟨Nat.le_of_ble_eq_true rfl, Nat.le_of_ble_eq_true rfl⟩ hc_3 (Nat.le_of_ble_eq_true rfl) ?_
      refine r_icmp_ge (pc := 16) (tgt := 23) C dX11_isTile_16 rfl (fun c_5 => ?_) (fun c_5 => ?_)
      · replace hr := (if_pos c_5).symm.trans hr
        refine r_iconst (pc := 23) C dX11_isTile_23 ki0 ?_
        exact r_zret (pc := 24) CR dX11_isTile_24 rfl (congrArg (fun z => some (Value.int z)) (gSome hr)) rfl
      · replace hr := (if_neg c_5).symm.trans hr
        refine r_iconst (pc := 19) C dX11_isTile_19 ki1 ?_
        refine r_goto (pc := 20) (tgt := 24) C dX11_isTile_20 rfl ?_
        exact r_zret (pc := 24) CR dX11_isTile_24 rfl (congrArg (fun z => some (Value.int z)) (gSome hr)) rfl
theorem c_X11_isTile {Ψ : gM → Nat → List (Nat × Value) → List Value → Prop} {G : gG5} {nf : Nat} {cc : ByteArray} {own : String} {nL : Nat} {ret : Option FieldType} {fr lo : Nat} {v0 : Option Value} {M0 M : gM} {pc index : Nat} {ls : List (Nat × Value)} {st : List Value} (C : gC Ψ G (gXn nf) cc own nL ret fr lo v0 M0) (d : decode cc pc = .ok (.invokevirtual index, 3)) (hl : Cond.methodLink own index yX11_isTile ∈ gws) (hR : 3 ≤ fr ∧ 61 ≤ lo) {p1 : Int32} {r : Int32} (hr : X11_isTile p1 M = some r) (hcat : (st.map fun v => v.category).sum ≤ 8) (k : Ψ M (pc + 3) ls (.int r :: st)) : Ψ M pc ls (.int p1 :: .ref (gad 50 0) :: st) := r_callV C [.int p1] st d (k_X11_isTile hr) hl q1793 q83 q127 q1794 hd_X11_isTile hR rfl (by decide) (e50 nf) rfl hcat k
theorem hd_X11_timesIn : yX11_timesIn.cls ≠ "java/lang/invoke/MethodHandle" ∧ yX11_timesIn.cls ≠ "java/lang/invoke/VarHandle" ∧ (parseMethodDescriptor yX11_timesIn.desc).map (fun d => d.parameters.length) = some 2 := by decide +kernel
noncomputable def X11_timesIn_L17 (i1 : Nat) (x2 : Int32) (x4 : Int32) (x3 : Int32) (x5 : Int32) (M : gM) : Option ((Int32 × Int32) ⊕ Int32) := gG (gin (768 + (11 * x4)) (gLen 52 i1)) ((if (M.1 52 i1 (Int32.toNatClampNeg (768 + (11 * x4)))) < x5 then some (.inr x3) else gG (gin ((768 + (11 * x4)) + x5) (gLen 52 i1)) ((if (M.1 52 i1 (Int32.toNatClampNeg ((768 + (11 * x4)) + x5))) = x2 then gLet ((x3 + 1)) (fun x3_10 => gLet (x5 + 1) (fun x5_11 => some (.inl (x3_10, x5_11)))) else gLet ((x3 + 0)) (fun x3_8 => gLet (x5 + 1) (fun x5_9 => some (.inl (x3_8, x5_9))))))))
theorem t_X11_timesIn_L17 {Ψ : gM → Nat → List (Nat × Value) → List Value → Prop} {G : gG5} {nf : Nat} {M : gM} {v0 : Option Value} {M0 : gM} {i1 : Nat} {x2 : Int32} {x4 : Int32} {x3 : Int32} {x5 : Int32} {w : ((Int32 × Int32) ⊕ Int32)} (C : gC Ψ G (gXn nf) cX11_timesIn RX11 6 (some .int) 2 40 v0 M0) (h1 : i1 < 20) (hr : X11_timesIn_L17 i1 x2 x4 x3 x5 M = some w) (hn : ∀ s, w = .inl s → Ψ M 17 [(0, .ref (gad 50 0)), (1, .ref (gad 52 i1)), (2, .int x2), (3, .int (s.1)), (4, .int x4), (5, .int (s.2))] []) (hx : ∀ e, w = .inr e → (fun e => Ψ M 65 [(0, .ref (gad 50 0)), (1, .ref (gad 52 i1)), (2, .int x2), (3, .int e), (4, .int x4)] []) e) : Ψ M 17 [(0, .ref (gad 50 0)), (1, .ref (gad 52 i1)), (2, .int x2), (3, .int x3), (4, .int x4), (5, .int x5)] [] := by
  refine r_iload (pc := 17) C dX11_timesIn_17 5 rfl ?_
  refine r_aload_n (pc := 19) C dX11_timesIn_19 rfl 1 rfl ?_
  refine r_sipush (pc := 20) C dX11_timesIn_20 ks768 ?_
  refine r_bipush (pc := 23) C dX11_timesIn_23 kb11 ?_
  refine r_iload (pc := 25) C dX11_timesIn_25 4 rfl ?_
  refine r_imul (pc := 27) C dX11_timesIn_27 ?_
  refine r_iadd (pc := 28) C dX11_timesIn_28 ?_
  obtain ⟨g_4, hr⟩ := gG_some hr
  refine r_ialdN (pc := 29) C dX11_timesIn_29 rfl (e52 (nf := nf) h1) g_4 rfl ?_
  refine r_icmp_gt (pc := 30) (tgt := 65) C dX11_timesIn_30 rfl (fun c_5 => ?_) (fun c_5 => ?_)
  · replace hr := (if_pos c_5).symm.trans hr
    refine r_sub C [0, 1, 2, 3, 4] (ls' := [(0, .ref (gad 50 0)), (1, .ref (gad 52 i1)), (2, .int x2), (3, .int x3), (4, .int x4)]) rfl ?_
    exact hx x3 (gSome hr)
  · replace hr := (if_neg c_5).symm.trans hr
    refine r_iload_n (pc := 33) C dX11_timesIn_33 rfl 3 rfl ?_
    refine r_aload_n (pc := 34) C dX11_timesIn_34 rfl 1 rfl ?_
    refine r_sipush (pc := 35) C dX11_timesIn_35 ks768 ?_
    refine r_bipush (pc := 38) C dX11_timesIn_38 kb11 ?_
    refine r_iload (pc := 40) C dX11_timesIn_40 4 rfl ?_
    refine r_imul (pc := 42) C dX11_timesIn_42 ?_
    refine r_iadd (pc := 43) C dX11_timesIn_43 ?_
    refine r_iload (pc := 44) C dX11_timesIn_44 5 rfl ?_
    refine r_iadd (pc := 46) C dX11_timesIn_46 ?_
    obtain ⟨g_6, hr⟩ := gG_some hr
    refine r_ialdN (pc := 47) C dX11_timesIn_47 rfl (e52 (nf := nf) h1) g_6 rfl ?_
    refine r_iload_n (pc := 48) C dX11_timesIn_48 rfl 2 rfl ?_
    refine r_icmp_ne (pc := 49) (tgt := 56) C dX11_timesIn_49 rfl (fun c_7 => ?_) (fun c_7 => ?_)
    · replace hr := (if_neg c_7).symm.trans hr
      refine r_iconst (pc := 56) C dX11_timesIn_56 ki0 ?_
      refine r_iadd (pc := 57) C dX11_timesIn_57 ?_
      obtain ⟨x3_8, ex3_8, hr⟩ := gLet_some hr
      refine r_istore_n (pc := 58) C dX11_timesIn_58 rfl (by decide) ex3_8 (ls' := [(3, .int x3_8), (0, .ref (gad 50 0)), (1, .ref (gad 52 i1)), (2, .int x2), (4, .int x4), (5, .int x5)]) rfl ?_
      obtain ⟨x5_9, ex5_9, hr⟩ := gLet_some hr
      refine r_iinc (pc := 59) C dX11_timesIn_59 5 rfl rfl (by decide) ex5_9 (ls' := [(5, .int x5_9), (3, .int x3_8), (0, .ref (gad 50 0)), (1, .ref (gad 52 i1)), (2, .int x2), (4, .int x4)]) rfl ?_
      refine r_goto (pc := 62) (tgt := 17) C dX11_timesIn_62 rfl ?_
      refine r_sub C [2, 3, 4, 1, 5, 0] (ls' := [(0, .ref (gad 50 0)), (1, .ref (gad 52 i1)), (2, .int x2), (3, .int x3_8), (4, .int x4), (5, .int x5_9)]) rfl ?_
      exact hn (x3_8, x5_9) (gSome hr)
    · replace hr := (if_pos c_7).symm.trans hr
      refine r_iconst (pc := 52) C dX11_timesIn_52 ki1 ?_
      refine r_goto (pc := 53) (tgt := 57) C dX11_timesIn_53 rfl ?_
      refine r_iadd (pc := 57) C dX11_timesIn_57 ?_
      obtain ⟨x3_10, ex3_10, hr⟩ := gLet_some hr
      refine r_istore_n (pc := 58) C dX11_timesIn_58 rfl (by decide) ex3_10 (ls' := [(3, .int x3_10), (0, .ref (gad 50 0)), (1, .ref (gad 52 i1)), (2, .int x2), (4, .int x4), (5, .int x5)]) rfl ?_
      obtain ⟨x5_11, ex5_11, hr⟩ := gLet_some hr
      refine r_iinc (pc := 59) C dX11_timesIn_59 5 rfl rfl (by decide) ex5_11 (ls' := [(5, .int x5_11), (3, .int x3_10), (0, .ref (gad 50 0)), (1, .ref (gad 52 i1)), (2, .int x2), (4, .int x4)]) rfl ?_
      refine r_goto (pc := 62) (tgt := 17) C dX11_timesIn_62 rfl ?_
      refine r_sub C [2, 3, 4, 1, 5, 0] (ls' := [(0, .ref (gad 50 0)), (1, .ref (gad 52 i1)), (2, .int x2), (3, .int x3_10), (4, .int x4), (5, .int x5_11)]) rfl ?_
      exact hn (x3_10, x5_11) (gSome hr)
noncomputable def X11_timesIn_L5 (i1 : Nat) (x2 : Int32) (x3 : Int32) (x4 : Int32) (M : gM) : Option ((Int32 × Int32) ⊕ Int32) := (X11_tilesAll M).bind (fun r_2 => (if r_2 ≤ x4 then some (.inr x3) else (gIter (fun s => X11_timesIn_L17 i1 x2 x4 s.1 s.2 M) FU (x3, 1)).bind (fun x3_12 => gLet (x4 + 1) (fun x4_13 => some (.inl (x3_12, x4_13))))))
theorem t_X11_timesIn_L5 {Ψ : gM → Nat → List (Nat × Value) → List Value → Prop} {G : gG5} {nf : Nat} {M : gM} {v0 : Option Value} {M0 : gM} {i1 : Nat} {x2 : Int32} {x3 : Int32} {x4 : Int32} {w : ((Int32 × Int32) ⊕ Int32)} (C : gC Ψ G (gXn nf) cX11_timesIn RX11 6 (some .int) 2 40 v0 M0) (h1 : i1 < 20) (hr : X11_timesIn_L5 i1 x2 x3 x4 M = some w) (hn : ∀ s, w = .inl s → Ψ M 5 [(0, .ref (gad 50 0)), (1, .ref (gad 52 i1)), (2, .int x2), (3, .int (s.1)), (4, .int (s.2))] []) (hx : ∀ e, w = .inr e → (fun e => Ψ M 71 [(3, .int e)] []) e) : Ψ M 5 [(0, .ref (gad 50 0)), (1, .ref (gad 52 i1)), (2, .int x2), (3, .int x3), (4, .int x4)] [] := by
  refine r_iload (pc := 5) C dX11_timesIn_5 4 rfl ?_
  refine r_aload_n (pc := 7) C dX11_timesIn_7 rfl 0 rfl ?_
  obtain ⟨r_2, hc_1, hr⟩ := gBind_some hr
  refine c_X11_tilesAll (pc := 8) C dX11_timesIn_8 q1663 ⟨Nat.le_of_ble_eq_true rfl, Nat.le_of_ble_eq_true rfl⟩ hc_1 (Nat.le_of_ble_eq_true rfl) ?_
  refine r_icmp_ge (pc := 11) (tgt := 71) C dX11_timesIn_11 rfl (fun c_3 => ?_) (fun c_3 => ?_)
  · replace hr := (if_pos c_3).symm.trans hr
    refine r_sub C [3] (ls' := [(3, .int x3)]) rfl ?_
    exact hx x3 (gSome hr)
  · replace hr := (if_neg c_3).symm.trans hr
    refine r_iconst (pc := 14) C dX11_timesIn_14 ki1 ?_
    refine r_istore (pc := 15) C dX11_timesIn_15 (by decide) rfl (ls' := [(5, .int 1), (0, .ref (gad 50 0)), (1, .ref (gad 52 i1)), (2, .int x2), (3, .int x3), (4, .int x4)]) rfl ?_
    refine r_sub C [1, 2, 3, 4, 5, 0] (ls' := [(0, .ref (gad 50 0)), (1, .ref (gad 52 i1)), (2, .int x2), (3, .int x3), (4, .int x4), (5, .int 1)]) rfl ?_
    obtain ⟨ev, hit, hr⟩ := gBind_some hr
    refine gIter_V (step := fun s => X11_timesIn_L17 i1 x2 x4 s.1 s.2 M) (P := fun s => Ψ M 17 [(0, .ref (gad 50 0)), (1, .ref (gad 52 i1)), (2, .int x2), (3, .int (s.1)), (4, .int x4), (5, .int (s.2))] []) (K := (fun e => Ψ M 65 [(0, .ref (gad 50 0)), (1, .ref (gad 52 i1)), (2, .int x2), (3, .int e), (4, .int x4)] [])) (fun s w hs hn hx => t_X11_timesIn_L17 C h1 hs hn hx) FU (x3, 1) ev hit ?_
    obtain ⟨x3_12, rfl⟩ : ∃ z, z = ev := ⟨_, rfl⟩
    show Ψ M 65 [(0, .ref (gad 50 0)), (1, .ref (gad 52 i1)), (2, .int x2), (3, .int x3_12), (4, .int x4)] []
    obtain ⟨x4_13, ex4_13, hr⟩ := gLet_some hr
    refine r_iinc (pc := 65) C dX11_timesIn_65 4 rfl rfl (by decide) ex4_13 (ls' := [(4, .int x4_13), (0, .ref (gad 50 0)), (1, .ref (gad 52 i1)), (2, .int x2), (3, .int x3_12)]) rfl ?_
    refine r_goto (pc := 68) (tgt := 5) C dX11_timesIn_68 rfl ?_
    refine r_sub C [1, 2, 3, 4, 0] (ls' := [(0, .ref (gad 50 0)), (1, .ref (gad 52 i1)), (2, .int x2), (3, .int x3_12), (4, .int x4_13)]) rfl ?_
    exact hn (x3_12, x4_13) (gSome hr)
noncomputable def X11_timesIn (i1 : Nat) (p2 : Int32) (M : gM) : Option Int32 := (gIter (fun s => X11_timesIn_L5 i1 p2 s.1 s.2 M) FU (0, 0)).bind (fun x3_14 => some x3_14)
theorem k_X11_timesIn {G : gG5} {nf : Nat} {M : gM} {i1 : Nat} {p2 : Int32} (h1 : i1 < 20) {r : Int32} (hr : X11_timesIn i1 p2 M = some r) : gMet G (gXn nf) yX11_timesIn cX11_timesIn 6 (some .int) 2 40 M [.ref (gad 50 0), .ref (gad 52 i1), .int p2] (some (.int r)) M := by
  refine gMet_of pl_X11 rfl (Nat.le_of_ble_eq_true rfl) (fun Ψ C CR => ?_)
  show Ψ M 0 [(0, .ref (gad 50 0)), (1, .ref (gad 52 i1)), (2, .int p2)] []
  refine r_iconst (pc := 0) C dX11_timesIn_0 ki0 ?_
  refine r_istore_n (pc := 1) C dX11_timesIn_1 rfl (by decide) rfl (ls' := [(3, .int 0), (0, .ref (gad 50 0)), (1, .ref (gad 52 i1)), (2, .int p2)]) rfl ?_
  refine r_iconst (pc := 2) C dX11_timesIn_2 ki0 ?_
  refine r_istore (pc := 3) C dX11_timesIn_3 (by decide) rfl (ls' := [(4, .int 0), (3, .int 0), (0, .ref (gad 50 0)), (1, .ref (gad 52 i1)), (2, .int p2)]) rfl ?_
  refine r_sub C [2, 3, 4, 1, 0] (ls' := [(0, .ref (gad 50 0)), (1, .ref (gad 52 i1)), (2, .int p2), (3, .int 0), (4, .int 0)]) rfl ?_
  obtain ⟨ev, hit, hr⟩ := gBind_some hr
  refine gIter_V (step := fun s => X11_timesIn_L5 i1 p2 s.1 s.2 M) (P := fun s => Ψ M 5 [(0, .ref (gad 50 0)), (1, .ref (gad 52 i1)), (2, .int p2), (3, .int (s.1)), (4, .int (s.2))] []) (K := (fun e => Ψ M 71 [(3, .int e)] [])) (fun s w hs hn hx => t_X11_timesIn_L5 C h1 hs hn hx) FU (0, 0) ev hit ?_
  obtain ⟨x3_14, rfl⟩ : ∃ z, z = ev := ⟨_, rfl⟩
  show Ψ M 71 [(3, .int x3_14)] []
  refine r_iload_n (pc := 71) C dX11_timesIn_71 rfl 0 rfl ?_
  exact r_iret (pc := 72) CR dX11_timesIn_72 (congrArg (fun z => some (Value.int z)) (gSome hr)) rfl
theorem c_X11_timesIn {Ψ : gM → Nat → List (Nat × Value) → List Value → Prop} {G : gG5} {nf : Nat} {cc : ByteArray} {own : String} {nL : Nat} {ret : Option FieldType} {fr lo : Nat} {v0 : Option Value} {M0 M : gM} {pc index : Nat} {ls : List (Nat × Value)} {st : List Value} (C : gC Ψ G (gXn nf) cc own nL ret fr lo v0 M0) (d : decode cc pc = .ok (.invokevirtual index, 3)) (hl : Cond.methodLink own index yX11_timesIn ∈ gws) (hR : 3 ≤ fr ∧ 65 ≤ lo) {i1 : Nat} {p2 : Int32} (h1 : i1 < 20) {r : Int32} (hr : X11_timesIn i1 p2 M = some r) (hcat : (st.map fun v => v.category).sum ≤ 8) (k : Ψ M (pc + 3) ls (.int r :: st)) : Ψ M pc ls (.int p2 :: .ref (gad 52 i1) :: .ref (gad 50 0) :: st) := r_callV C [.ref (gad 52 i1), .int p2] st d (k_X11_timesIn h1 hr) hl q1838 q90 q127 q1839 hd_X11_timesIn hR rfl (by decide) (e50 nf) rfl hcat k
theorem hd_X11_isBinned : yX11_isBinned.cls ≠ "java/lang/invoke/MethodHandle" ∧ yX11_isBinned.cls ≠ "java/lang/invoke/VarHandle" ∧ (parseMethodDescriptor yX11_isBinned.desc).map (fun d => d.parameters.length) = some 2 := by decide +kernel
noncomputable def X11_isBinned (i1 : Nat) (p2 : Int32) (M : gM) : Option Int32 := (X11_timesIn i1 p2 M).bind (fun r_2 => (if r_2 ≤ 0 then some 0 else some 1))
theorem k_X11_isBinned {G : gG5} {nf : Nat} {M : gM} {i1 : Nat} {p2 : Int32} (h1 : i1 < 20) {r : Int32} (hr : X11_isBinned i1 p2 M = some r) : gMet G (gXn nf) yX11_isBinned cX11_isBinned 3 (some .boolean) 3 65 M [.ref (gad 50 0), .ref (gad 52 i1), .int p2] (some (.int r)) M := by
  refine gMet_of pl_X11 rfl (Nat.le_of_ble_eq_true rfl) (fun Ψ C CR => ?_)
  show Ψ M 0 [(0, .ref (gad 50 0)), (1, .ref (gad 52 i1)), (2, .int p2)] []
  refine r_aload_n (pc := 0) C dX11_isBinned_0 rfl 0 rfl ?_
  refine r_aload_n (pc := 1) C dX11_isBinned_1 rfl 1 rfl ?_
  refine r_iload_n (pc := 2) C dX11_isBinned_2 rfl 2 rfl ?_
  obtain ⟨r_2, hc_1, hr⟩ := gBind_some hr
  refine c_X11_timesIn (pc := 3) C dX11_isBinned_3 q1836 ⟨Nat.le_of_ble_eq_true rfl, Nat.le_of_ble_eq_true rfl⟩ h1 hc_1 (Nat.le_of_ble_eq_true rfl) ?_
  refine r_if_le (pc := 6) (tgt := 13) C dX11_isBinned_6 rfl (fun c_3 => ?_) (fun c_3 => ?_)
  · replace hr := (if_pos c_3).symm.trans hr
    refine r_iconst (pc := 13) C dX11_isBinned_13 ki0 ?_
    exact r_zret (pc := 14) CR dX11_isBinned_14 rfl (congrArg (fun z => some (Value.int z)) (gSome hr)) rfl
  · replace hr := (if_neg c_3).symm.trans hr
    refine r_iconst (pc := 9) C dX11_isBinned_9 ki1 ?_
    refine r_goto (pc := 10) (tgt := 14) C dX11_isBinned_10 rfl ?_
    exact r_zret (pc := 14) CR dX11_isBinned_14 rfl (congrArg (fun z => some (Value.int z)) (gSome hr)) rfl
theorem c_X11_isBinned {Ψ : gM → Nat → List (Nat × Value) → List Value → Prop} {G : gG5} {nf : Nat} {cc : ByteArray} {own : String} {nL : Nat} {ret : Option FieldType} {fr lo : Nat} {v0 : Option Value} {M0 M : gM} {pc index : Nat} {ls : List (Nat × Value)} {st : List Value} (C : gC Ψ G (gXn nf) cc own nL ret fr lo v0 M0) (d : decode cc pc = .ok (.invokevirtual index, 3)) (hl : Cond.methodLink own index yX11_isBinned ∈ gws) (hR : 4 ≤ fr ∧ 87 ≤ lo) {i1 : Nat} {p2 : Int32} (h1 : i1 < 20) {r : Int32} (hr : X11_isBinned i1 p2 M = some r) (hcat : (st.map fun v => v.category).sum ≤ 8) (k : Ψ M (pc + 3) ls (.int r :: st)) : Ψ M pc ls (.int p2 :: .ref (gad 52 i1) :: .ref (gad 50 0) :: st) := r_callV C [.ref (gad 52 i1), .int p2] st d (k_X11_isBinned h1 hr) hl q1834 q89 q127 q1835 hd_X11_isBinned hR rfl (by decide) (e50 nf) rfl hcat k
theorem hd_X11_stopsDraw : yX11_stopsDraw.cls ≠ "java/lang/invoke/MethodHandle" ∧ yX11_stopsDraw.cls ≠ "java/lang/invoke/VarHandle" ∧ (parseMethodDescriptor yX11_stopsDraw.desc).map (fun d => d.parameters.length) = some 2 := by decide +kernel
noncomputable def X11_stopsDraw (i1 : Nat) (p2 : Int32) (M : gM) : Option (Int32 × gM) := (X11_isTri p2 M).bind (fun r_2 => (if r_2 = 0 then some (0, M) else (X11_touched i1 p2 M).bind (gU2 (fun r_5 M_6 => (if r_5 = 0 then some (2, M_6) else some ((-1), M_6))))))
theorem k_X11_stopsDraw {G : gG5} {nf : Nat} {M : gM} {i1 : Nat} {p2 : Int32} (h1 : i1 < 20) {r : Int32} {M1 : gM} (hr : X11_stopsDraw i1 p2 M = some (r, M1)) : gMet G (gXn nf) yX11_stopsDraw cX11_stopsDraw 3 (some .int) 5 113 M [.ref (gad 50 0), .ref (gad 52 i1), .int p2] (some (.int r)) M1 := by
  refine gMet_of pl_X11 rfl (Nat.le_of_ble_eq_true rfl) (fun Ψ C CR => ?_)
  show Ψ M 0 [(0, .ref (gad 50 0)), (1, .ref (gad 52 i1)), (2, .int p2)] []
  refine r_aload_n (pc := 0) C dX11_stopsDraw_0 rfl 0 rfl ?_
  refine r_iload_n (pc := 1) C dX11_stopsDraw_1 rfl 2 rfl ?_
  obtain ⟨r_2, hc_1, hr⟩ := gBind_some hr
  refine c_X11_isTri (pc := 2) C dX11_stopsDraw_2 q1644 ⟨Nat.le_of_ble_eq_true rfl, Nat.le_of_ble_eq_true rfl⟩ hc_1 (Nat.le_of_ble_eq_true rfl) ?_
  refine r_if_ne (pc := 5) (tgt := 10) C dX11_stopsDraw_5 rfl (fun c_3 => ?_) (fun c_3 => ?_)
  · replace hr := (if_neg c_3).symm.trans hr
    refine r_aload_n (pc := 10) C dX11_stopsDraw_10 rfl 0 rfl ?_
    refine r_aload_n (pc := 11) C dX11_stopsDraw_11 rfl 1 rfl ?_
    refine r_iload_n (pc := 12) C dX11_stopsDraw_12 rfl 2 rfl ?_
    obtain ⟨⟨r_5, M_6⟩, hc_4, hr⟩ := gBind_some hr
    replace hr := gU2_some hr
    refine c_X11_touched (pc := 13) C dX11_stopsDraw_13 q1648 ⟨Nat.le_of_ble_eq_true rfl, Nat.le_of_ble_eq_true rfl⟩ h1 hc_4 (Nat.le_of_ble_eq_true rfl) ?_
    refine r_if_ne (pc := 16) (tgt := 23) C dX11_stopsDraw_16 rfl (fun c_7 => ?_) (fun c_7 => ?_)
    · replace hr := (if_neg c_7).symm.trans hr
      refine r_iconst (pc := 23) C dX11_stopsDraw_23 kim1 ?_
      exact r_iret (pc := 24) CR dX11_stopsDraw_24 (congrArg (fun z => some (Value.int z)) (Prod.mk.inj (gSome hr)).1) (Prod.mk.inj (gSome hr)).2
    · replace hr := (if_pos c_7).symm.trans hr
      refine r_iconst (pc := 19) C dX11_stopsDraw_19 ki2 ?_
      refine r_goto (pc := 20) (tgt := 24) C dX11_stopsDraw_20 rfl ?_
      exact r_iret (pc := 24) CR dX11_stopsDraw_24 (congrArg (fun z => some (Value.int z)) (Prod.mk.inj (gSome hr)).1) (Prod.mk.inj (gSome hr)).2
  · replace hr := (if_pos c_3).symm.trans hr
    refine r_iconst (pc := 8) C dX11_stopsDraw_8 ki0 ?_
    exact r_iret (pc := 9) CR dX11_stopsDraw_9 (congrArg (fun z => some (Value.int z)) (Prod.mk.inj (gSome hr)).1) (Prod.mk.inj (gSome hr)).2
theorem c_X11_stopsDraw {Ψ : gM → Nat → List (Nat × Value) → List Value → Prop} {G : gG5} {nf : Nat} {cc : ByteArray} {own : String} {nL : Nat} {ret : Option FieldType} {fr lo : Nat} {v0 : Option Value} {M0 M : gM} {pc index : Nat} {ls : List (Nat × Value)} {st : List Value} (C : gC Ψ G (gXn nf) cc own nL ret fr lo v0 M0) (d : decode cc pc = .ok (.invokevirtual index, 3)) (hl : Cond.methodLink own index yX11_stopsDraw ∈ gws) (hR : 6 ≤ fr ∧ 135 ≤ lo) {i1 : Nat} {p2 : Int32} (h1 : i1 < 20) {r : Int32} {M1 : gM} (hr : X11_stopsDraw i1 p2 M = some (r, M1)) (hcat : (st.map fun v => v.category).sum ≤ 8) (k : Ψ M1 (pc + 3) ls (.int r :: st)) : Ψ M pc ls (.int p2 :: .ref (gad 52 i1) :: .ref (gad 50 0) :: st) := r_callV C [.ref (gad 52 i1), .int p2] st d (k_X11_stopsDraw h1 hr) hl q1642 q53 q127 q1643 hd_X11_stopsDraw hR rfl (by decide) (e50 nf) rfl hcat k
theorem hd_X11_stopsFlush : yX11_stopsFlush.cls ≠ "java/lang/invoke/MethodHandle" ∧ yX11_stopsFlush.cls ≠ "java/lang/invoke/VarHandle" ∧ (parseMethodDescriptor yX11_stopsFlush.desc).map (fun d => d.parameters.length) = some 2 := by decide +kernel
noncomputable def X11_stopsFlush (i1 : Nat) (p2 : Int32) (M : gM) : Option Int32 := (X11_isTile p2 M).bind (fun r_2 => (if r_2 = 0 then some 0 else gG (gin (768 + (11 * p2)) (gLen 52 i1)) ((if (M.1 52 i1 (Int32.toNatClampNeg (768 + (11 * p2)))) = 0 then (X11_pendingIn i1 p2 M).bind (fun r_7 => (if r_7 = 0 then some 2 else some (-1))) else some (-1)))))
theorem k_X11_stopsFlush {G : gG5} {nf : Nat} {M : gM} {i1 : Nat} {p2 : Int32} (h1 : i1 < 20) {r : Int32} (hr : X11_stopsFlush i1 p2 M = some r) : gMet G (gXn nf) yX11_stopsFlush cX11_stopsFlush 3 (some .int) 4 89 M [.ref (gad 50 0), .ref (gad 52 i1), .int p2] (some (.int r)) M := by
  refine gMet_of pl_X11 rfl (Nat.le_of_ble_eq_true rfl) (fun Ψ C CR => ?_)
  show Ψ M 0 [(0, .ref (gad 50 0)), (1, .ref (gad 52 i1)), (2, .int p2)] []
  refine r_aload_n (pc := 0) C dX11_stopsFlush_0 rfl 0 rfl ?_
  refine r_iload_n (pc := 1) C dX11_stopsFlush_1 rfl 2 rfl ?_
  obtain ⟨r_2, hc_1, hr⟩ := gBind_some hr
  refine c_X11_isTile (pc := 2) C dX11_stopsFlush_2 q1791 ⟨Nat.le_of_ble_eq_true rfl, Nat.le_of_ble_eq_true rfl⟩ hc_1 (Nat.le_of_ble_eq_true rfl) ?_
  refine r_if_ne (pc := 5) (tgt := 10) C dX11_stopsFlush_5 rfl (fun c_3 => ?_) (fun c_3 => ?_)
  · replace hr := (if_neg c_3).symm.trans hr
    refine r_aload_n (pc := 10) C dX11_stopsFlush_10 rfl 1 rfl ?_
    refine r_sipush (pc := 11) C dX11_stopsFlush_11 ks768 ?_
    refine r_bipush (pc := 14) C dX11_stopsFlush_14 kb11 ?_
    refine r_iload_n (pc := 16) C dX11_stopsFlush_16 rfl 2 rfl ?_
    refine r_imul (pc := 17) C dX11_stopsFlush_17 ?_
    refine r_iadd (pc := 18) C dX11_stopsFlush_18 ?_
    obtain ⟨g_4, hr⟩ := gG_some hr
    refine r_ialdN (pc := 19) C dX11_stopsFlush_19 rfl (e52 (nf := nf) h1) g_4 rfl ?_
    refine r_if_ne (pc := 20) (tgt := 36) C dX11_stopsFlush_20 rfl (fun c_5 => ?_) (fun c_5 => ?_)
    · replace hr := (if_neg c_5).symm.trans hr
      refine r_iconst (pc := 36) C dX11_stopsFlush_36 kim1 ?_
      exact r_iret (pc := 37) CR dX11_stopsFlush_37 (congrArg (fun z => some (Value.int z)) (gSome hr)) rfl
    · replace hr := (if_pos c_5).symm.trans hr
      refine r_aload_n (pc := 23) C dX11_stopsFlush_23 rfl 0 rfl ?_
      refine r_aload_n (pc := 24) C dX11_stopsFlush_24 rfl 1 rfl ?_
      refine r_iload_n (pc := 25) C dX11_stopsFlush_25 rfl 2 rfl ?_
      obtain ⟨r_7, hc_6, hr⟩ := gBind_some hr
      refine c_X11_pendingIn (pc := 26) C dX11_stopsFlush_26 q1795 ⟨Nat.le_of_ble_eq_true rfl, Nat.le_of_ble_eq_true rfl⟩ h1 hc_6 (Nat.le_of_ble_eq_true rfl) ?_
      refine r_if_ne (pc := 29) (tgt := 36) C dX11_stopsFlush_29 rfl (fun c_8 => ?_) (fun c_8 => ?_)
      · replace hr := (if_neg c_8).symm.trans hr
        refine r_iconst (pc := 36) C dX11_stopsFlush_36 kim1 ?_
        exact r_iret (pc := 37) CR dX11_stopsFlush_37 (congrArg (fun z => some (Value.int z)) (gSome hr)) rfl
      · replace hr := (if_pos c_8).symm.trans hr
        refine r_iconst (pc := 32) C dX11_stopsFlush_32 ki2 ?_
        refine r_goto (pc := 33) (tgt := 37) C dX11_stopsFlush_33 rfl ?_
        exact r_iret (pc := 37) CR dX11_stopsFlush_37 (congrArg (fun z => some (Value.int z)) (gSome hr)) rfl
  · replace hr := (if_pos c_3).symm.trans hr
    refine r_iconst (pc := 8) C dX11_stopsFlush_8 ki0 ?_
    exact r_iret (pc := 9) CR dX11_stopsFlush_9 (congrArg (fun z => some (Value.int z)) (gSome hr)) rfl
theorem c_X11_stopsFlush {Ψ : gM → Nat → List (Nat × Value) → List Value → Prop} {G : gG5} {nf : Nat} {cc : ByteArray} {own : String} {nL : Nat} {ret : Option FieldType} {fr lo : Nat} {v0 : Option Value} {M0 M : gM} {pc index : Nat} {ls : List (Nat × Value)} {st : List Value} (C : gC Ψ G (gXn nf) cc own nL ret fr lo v0 M0) (d : decode cc pc = .ok (.invokevirtual index, 3)) (hl : Cond.methodLink own index yX11_stopsFlush ∈ gws) (hR : 5 ≤ fr ∧ 111 ≤ lo) {i1 : Nat} {p2 : Int32} (h1 : i1 < 20) {r : Int32} (hr : X11_stopsFlush i1 p2 M = some r) (hcat : (st.map fun v => v.category).sum ≤ 8) (k : Ψ M (pc + 3) ls (.int r :: st)) : Ψ M pc ls (.int p2 :: .ref (gad 52 i1) :: .ref (gad 50 0) :: st) := r_callV C [.ref (gad 52 i1), .int p2] st d (k_X11_stopsFlush h1 hr) hl q1789 q82 q127 q1790 hd_X11_stopsFlush hR rfl (by decide) (e50 nf) rfl hcat k
theorem hd_X11_stopsRule : yX11_stopsRule.cls ≠ "java/lang/invoke/MethodHandle" ∧ yX11_stopsRule.cls ≠ "java/lang/invoke/VarHandle" ∧ (parseMethodDescriptor yX11_stopsRule.desc).map (fun d => d.parameters.length) = some 3 := by decide +kernel
noncomputable def X11_stopsRule_J55 (i1 : Nat) (x2 : Int32) (x3 : Int32) (xs0 : Int64) (xs1 : Int64) (xs2 : Int64) (M : gM) : Option Int32 := (X11_isIn xs2 xs1 xs0 M).bind (fun r_9 => (if r_9 = 0 then some 1 else gG (gin (1057 + x2) (gLen 52 i1)) ((if (M.1 52 i1 (Int32.toNatClampNeg (1057 + x2))) = x3 then some 2 else some (-1)))))
theorem t_X11_stopsRule_J55 {Ψ : gM → Nat → List (Nat × Value) → List Value → Prop} {G : gG5} {nf : Nat} {M : gM} {i1 : Nat} {x2 : Int32} {x3 : Int32} {xs0 : Int64} {xs1 : Int64} {xs2 : Int64} {r : Int32} (C : gC Ψ G (gXn nf) cX11_stopsRule RX11 4 (some .int) 1 25 (some (.int r)) M) (CR : gR Ψ cX11_stopsRule (some .int) (some (.int r)) M) (h1 : i1 < 20) (hr : X11_stopsRule_J55 i1 x2 x3 xs0 xs1 xs2 M = some r) : Ψ M 55 [(1, .ref (gad 52 i1)), (2, .int x2), (3, .int x3)] [.long xs0, .long xs1, .long xs2] := by
  obtain ⟨r_9, hc_8, hr⟩ := gBind_some hr
  refine c_X11_isIn (pc := 55) C dX11_stopsRule_55 q1538 ⟨Nat.le_of_ble_eq_true rfl, Nat.le_of_ble_eq_true rfl⟩ hc_8 (Nat.le_of_ble_eq_true rfl) ?_
  refine r_if_ne (pc := 58) (tgt := 63) C dX11_stopsRule_58 rfl (fun c_10 => ?_) (fun c_10 => ?_)
  · replace hr := (if_neg c_10).symm.trans hr
    refine r_aload_n (pc := 63) C dX11_stopsRule_63 rfl 0 rfl ?_
    refine r_sipush (pc := 64) C dX11_stopsRule_64 ks1057 ?_
    refine r_iload_n (pc := 67) C dX11_stopsRule_67 rfl 1 rfl ?_
    refine r_iadd (pc := 68) C dX11_stopsRule_68 ?_
    obtain ⟨g_11, hr⟩ := gG_some hr
    refine r_ialdN (pc := 69) C dX11_stopsRule_69 rfl (e52 (nf := nf) h1) g_11 rfl ?_
    refine r_iload_n (pc := 70) C dX11_stopsRule_70 rfl 2 rfl ?_
    refine r_icmp_ne (pc := 71) (tgt := 78) C dX11_stopsRule_71 rfl (fun c_12 => ?_) (fun c_12 => ?_)
    · replace hr := (if_neg c_12).symm.trans hr
      refine r_iconst (pc := 78) C dX11_stopsRule_78 kim1 ?_
      exact r_iret (pc := 79) CR dX11_stopsRule_79 (congrArg (fun z => some (Value.int z)) (gSome hr)) rfl
    · replace hr := (if_pos c_12).symm.trans hr
      refine r_iconst (pc := 74) C dX11_stopsRule_74 ki2 ?_
      refine r_goto (pc := 75) (tgt := 79) C dX11_stopsRule_75 rfl ?_
      exact r_iret (pc := 79) CR dX11_stopsRule_79 (congrArg (fun z => some (Value.int z)) (gSome hr)) rfl
  · replace hr := (if_pos c_10).symm.trans hr
    refine r_iconst (pc := 61) C dX11_stopsRule_61 ki1 ?_
    exact r_iret (pc := 62) CR dX11_stopsRule_62 (congrArg (fun z => some (Value.int z)) (gSome hr)) rfl
noncomputable def X11_stopsRule_J33 (i1 : Nat) (x2 : Int32) (x3 : Int32) (xs0 : Int64) (xs1 : Int64) (M : gM) : Option Int32 := (if x2 = 3 then X11_stopsRule_J55 i1 x2 x3 10 xs0 xs1 M else (if x2 = 0 then X11_stopsRule_J55 i1 x2 x3 2 xs0 xs1 M else X11_stopsRule_J55 i1 x2 x3 1 xs0 xs1 M))
theorem t_X11_stopsRule_J33 {Ψ : gM → Nat → List (Nat × Value) → List Value → Prop} {G : gG5} {nf : Nat} {M : gM} {i1 : Nat} {x2 : Int32} {x3 : Int32} {xs0 : Int64} {xs1 : Int64} {r : Int32} (C : gC Ψ G (gXn nf) cX11_stopsRule RX11 4 (some .int) 1 25 (some (.int r)) M) (CR : gR Ψ cX11_stopsRule (some .int) (some (.int r)) M) (h1 : i1 < 20) (hr : X11_stopsRule_J33 i1 x2 x3 xs0 xs1 M = some r) : Ψ M 33 [(1, .ref (gad 52 i1)), (2, .int x2), (3, .int x3)] [.long xs0, .long xs1] := by
  refine r_iload_n (pc := 33) C dX11_stopsRule_33 rfl 1 rfl ?_
  refine r_iconst (pc := 34) C dX11_stopsRule_34 ki3 ?_
  refine r_icmp_ne (pc := 35) (tgt := 44) C dX11_stopsRule_35 rfl (fun c_6 => ?_) (fun c_6 => ?_)
  · replace hr := (if_neg c_6).symm.trans hr
    refine r_iload_n (pc := 44) C dX11_stopsRule_44 rfl 1 rfl ?_
    refine r_if_ne (pc := 45) (tgt := 54) C dX11_stopsRule_45 rfl (fun c_7 => ?_) (fun c_7 => ?_)
    · replace hr := (if_neg c_7).symm.trans hr
      refine r_lconst (pc := 54) (v := 1) C dX11_stopsRule_54 rfl ?_
      exact t_X11_stopsRule_J55 C CR h1 hr
    · replace hr := (if_pos c_7).symm.trans hr
      refine r_ldc2 (pc := 48) C dX11_stopsRule_48 q1607 ?_
      refine r_goto (pc := 51) (tgt := 55) C dX11_stopsRule_51 rfl ?_
      exact t_X11_stopsRule_J55 C CR h1 hr
  · replace hr := (if_pos c_6).symm.trans hr
    refine r_ldc2 (pc := 38) C dX11_stopsRule_38 q1609 ?_
    refine r_goto (pc := 41) (tgt := 55) C dX11_stopsRule_41 rfl ?_
    exact t_X11_stopsRule_J55 C CR h1 hr
noncomputable def X11_stopsRule (i1 : Nat) (p2 : Int32) (p3 : Int32) (M : gM) : Option Int32 := (if (M.1 50 0 16) = 0 then some 0 else (X11_isIn (Int32.toInt64 p2) 0 3 M).bind (fun r_3 => (if r_3 = 0 then some 1 else (if p2 = 3 then X11_stopsRule_J33 i1 p2 p3 1 (Int32.toInt64 p3) M else X11_stopsRule_J33 i1 p2 p3 0 (Int32.toInt64 p3) M))))
theorem k_X11_stopsRule {G : gG5} {nf : Nat} {M : gM} {i1 : Nat} {p2 : Int32} {p3 : Int32} (h1 : i1 < 20) {r : Int32} (hr : X11_stopsRule i1 p2 p3 M = some r) : gMet G (gXn nf) yX11_stopsRule cX11_stopsRule 4 (some .int) 1 25 M [.ref (gad 50 0), .ref (gad 52 i1), .int p2, .int p3] (some (.int r)) M := by
  refine gMet_of pl_X11 rfl (Nat.le_of_ble_eq_true rfl) (fun Ψ C CR => ?_)
  show Ψ M 0 [(0, .ref (gad 50 0)), (1, .ref (gad 52 i1)), (2, .int p2), (3, .int p3)] []
  refine r_aload_n (pc := 0) C dX11_stopsRule_0 rfl 0 rfl ?_
  refine g50_16 (pc := 1) C dX11_stopsRule_1 q1416 (e50 nf) ?_
  refine r_if_ne (pc := 4) (tgt := 9) C dX11_stopsRule_4 rfl (fun c_1 => ?_) (fun c_1 => ?_)
  · replace hr := (if_neg c_1).symm.trans hr
    refine r_iload_n (pc := 9) C dX11_stopsRule_9 rfl 2 rfl ?_
    refine r_i2l (pc := 10) C dX11_stopsRule_10 ?_
    refine r_lconst (pc := 11) (v := 0) C dX11_stopsRule_11 rfl ?_
    refine r_ldc2 (pc := 12) C dX11_stopsRule_12 q1823 ?_
    obtain ⟨r_3, hc_2, hr⟩ := gBind_some hr
    refine c_X11_isIn (pc := 15) C dX11_stopsRule_15 q1538 ⟨Nat.le_of_ble_eq_true rfl, Nat.le_of_ble_eq_true rfl⟩ hc_2 (Nat.le_of_ble_eq_true rfl) ?_
    refine r_if_eq (pc := 18) (tgt := 61) C dX11_stopsRule_18 rfl (fun c_4 => ?_) (fun c_4 => ?_)
    · replace hr := (if_pos c_4).symm.trans hr
      refine r_iconst (pc := 61) C dX11_stopsRule_61 ki1 ?_
      exact r_iret (pc := 62) CR dX11_stopsRule_62 (congrArg (fun z => some (Value.int z)) (gSome hr)) rfl
    · replace hr := (if_neg c_4).symm.trans hr
      refine r_iload_n (pc := 21) C dX11_stopsRule_21 rfl 3 rfl ?_
      refine r_i2l (pc := 22) C dX11_stopsRule_22 ?_
      refine r_iload_n (pc := 23) C dX11_stopsRule_23 rfl 2 rfl ?_
      refine r_iconst (pc := 24) C dX11_stopsRule_24 ki3 ?_
      refine r_icmp_ne (pc := 25) (tgt := 32) C dX11_stopsRule_25 rfl (fun c_5 => ?_) (fun c_5 => ?_)
      · replace hr := (if_neg c_5).symm.trans hr
        refine r_lconst (pc := 32) (v := 0) C dX11_stopsRule_32 rfl ?_
        refine r_sub C [1, 2, 3] (ls' := [(1, .ref (gad 52 i1)), (2, .int p2), (3, .int p3)]) rfl ?_
        exact t_X11_stopsRule_J33 C CR h1 hr
      · replace hr := (if_pos c_5).symm.trans hr
        refine r_lconst (pc := 28) (v := 1) C dX11_stopsRule_28 rfl ?_
        refine r_goto (pc := 29) (tgt := 33) C dX11_stopsRule_29 rfl ?_
        refine r_sub C [1, 2, 3] (ls' := [(1, .ref (gad 52 i1)), (2, .int p2), (3, .int p3)]) rfl ?_
        exact t_X11_stopsRule_J33 C CR h1 hr
  · replace hr := (if_pos c_1).symm.trans hr
    refine r_iconst (pc := 7) C dX11_stopsRule_7 ki0 ?_
    exact r_iret (pc := 8) CR dX11_stopsRule_8 (congrArg (fun z => some (Value.int z)) (gSome hr)) rfl
theorem c_X11_stopsRule {Ψ : gM → Nat → List (Nat × Value) → List Value → Prop} {G : gG5} {nf : Nat} {cc : ByteArray} {own : String} {nL : Nat} {ret : Option FieldType} {fr lo : Nat} {v0 : Option Value} {M0 M : gM} {pc index : Nat} {ls : List (Nat × Value)} {st : List Value} (C : gC Ψ G (gXn nf) cc own nL ret fr lo v0 M0) (d : decode cc pc = .ok (.invokevirtual index, 3)) (hl : Cond.methodLink own index yX11_stopsRule ∈ gws) (hR : 2 ≤ fr ∧ 48 ≤ lo) {i1 : Nat} {p2 : Int32} {p3 : Int32} (h1 : i1 < 20) {r : Int32} (hr : X11_stopsRule i1 p2 p3 M = some r) (hcat : (st.map fun v => v.category).sum ≤ 8) (k : Ψ M (pc + 3) ls (.int r :: st)) : Ψ M pc ls (.int p3 :: .int p2 :: .ref (gad 52 i1) :: .ref (gad 50 0) :: st) := r_callV C [.ref (gad 52 i1), .int p2, .int p3] st d (k_X11_stopsRule h1 hr) hl q1821 q87 q127 q1822 hd_X11_stopsRule hR rfl (by decide) (e50 nf) rfl hcat k
