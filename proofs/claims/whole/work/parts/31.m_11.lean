theorem hd_X11_triangle : yX11_triangle.cls ≠ "java/lang/invoke/MethodHandle" ∧ yX11_triangle.cls ≠ "java/lang/invoke/VarHandle" ∧ (parseMethodDescriptor yX11_triangle.desc).map (fun d => d.parameters.length) = some 2 := by decide +kernel
noncomputable def X11_triangle (p1 : Int32) (p2 : Int32) (M : gM) : Option (Int32 × gM) := gLet (wI M 50 0 0 0) (fun M_1 => (X11_isTri p1 M_1).bind (fun r_3 => (if r_3 = 0 then gLet (wI M_1 50 0 0 1) (fun M_5 => some (0, M_5)) else (X11_isIn (Int32.toInt64 p2) 0 11 M_1).bind (fun r_7 => (if r_7 = 0 then gLet (wI M_1 50 0 0 1) (fun M_32 => some (0, M_32)) else (X11_asks 8 p1 M_1).bind (fun M_10 => (if p2 = 0 then some ((M_10.1 50 0 28), M_10) else if p2 = 1 then gG (gin ((12 * p1) + 10) 120) (some ((M_10.1 52 4 (Int32.toNatClampNeg ((12 * p1) + 10))), M_10)) else if p2 = 2 then gG (gin ((12 * p1) + 9) 120) (some ((M_10.1 52 4 (Int32.toNatClampNeg ((12 * p1) + 9))), M_10)) else if p2 = 3 then gG (gin ((12 * p1) + 11) 120) (some ((M_10.1 52 4 (Int32.toNatClampNeg ((12 * p1) + 11))), M_10)) else if p2 = 4 then (if (M_10.1 50 0 31) = 0 then some (0, M_10) else some (1, M_10)) else if p2 = 5 then (X11_leastZ M_10).bind (fun r_17 => some (r_17, M_10)) else if p2 = 6 then (X11_mostZ M_10).bind (fun r_19 => some (r_19, M_10)) else if p2 = 7 then (X11_touched 8 p1 M_10).bind (gU2 (fun r_21 M_22 => some (r_21, M_22))) else if p2 = 8 then (X11_vain p1 M_10).bind (gU2 (fun r_24 M_25 => some (r_24, M_25))) else if p2 = 9 then (X11_covered M_10).bind (fun r_27 => some (r_27, M_10)) else if p2 = 10 then (X11_lit 8 p1 M_10).bind (fun r_29 => some (r_29, M_10)) else (X11_timesIn 8 p1 M_10).bind (fun r_31 => some (r_31, M_10)))))))))
theorem k_X11_triangle {G : gG5} {nf : Nat} {M : gM} {p1 : Int32} {p2 : Int32} {r : Int32} {M1 : gM} (hr : X11_triangle p1 p2 M = some (r, M1)) : gMet G (gXn nf) yX11_triangle cX11_triangle 3 (some .int) 6 145 M [.ref (gad 50 0), .int p1, .int p2] (some (.int r)) M1 := by
  refine gMet_of pl_X11 rfl (Nat.le_of_ble_eq_true rfl) (fun Ψ C CR => ?_)
  show Ψ M 0 [(0, .ref (gad 50 0)), (1, .int p1), (2, .int p2)] []
  refine r_aload_n (pc := 0) C dX11_triangle_0 rfl 0 rfl ?_
  refine r_iconst (pc := 1) C dX11_triangle_1 ki0 ?_
  obtain ⟨M_1, eM_1, hr⟩ := gLet_some hr
  refine p50_0 (pc := 2) C dX11_triangle_2 q1400 (e50 nf) eM_1 ?_
  refine r_aload_n (pc := 5) C dX11_triangle_5 rfl 0 rfl ?_
  refine r_iload_n (pc := 6) C dX11_triangle_6 rfl 1 rfl ?_
  obtain ⟨r_3, hc_2, hr⟩ := gBind_some hr
  refine c_X11_isTri (pc := 7) C dX11_triangle_7 q1644 ⟨Nat.le_of_ble_eq_true rfl, Nat.le_of_ble_eq_true rfl⟩ hc_2 (Nat.le_of_ble_eq_true rfl) ?_
  refine r_if_eq (pc := 10) (tgt := 25) C dX11_triangle_10 rfl (fun c_4 => ?_) (fun c_4 => ?_)
  · replace hr := (if_pos c_4).symm.trans hr
    refine r_aload_n (pc := 25) C dX11_triangle_25 rfl 0 rfl ?_
    refine r_iconst (pc := 26) C dX11_triangle_26 ki1 ?_
    obtain ⟨M_5, eM_5, hr⟩ := gLet_some hr
    refine p50_0 (pc := 27) C dX11_triangle_27 q1400 (e50 nf) eM_5 ?_
    refine r_iconst (pc := 30) C dX11_triangle_30 ki0 ?_
    exact r_iret (pc := 31) CR dX11_triangle_31 (congrArg (fun z => some (Value.int z)) (Prod.mk.inj (gSome hr)).1) (Prod.mk.inj (gSome hr)).2
  · replace hr := (if_neg c_4).symm.trans hr
    refine r_iload_n (pc := 13) C dX11_triangle_13 rfl 2 rfl ?_
    refine r_i2l (pc := 14) C dX11_triangle_14 ?_
    refine r_lconst (pc := 15) (v := 0) C dX11_triangle_15 rfl ?_
    refine r_ldc2 (pc := 16) C dX11_triangle_16 q1890 ?_
    obtain ⟨r_7, hc_6, hr⟩ := gBind_some hr
    refine c_X11_isIn (pc := 19) C dX11_triangle_19 q1538 ⟨Nat.le_of_ble_eq_true rfl, Nat.le_of_ble_eq_true rfl⟩ hc_6 (Nat.le_of_ble_eq_true rfl) ?_
    refine r_if_ne (pc := 22) (tgt := 32) C dX11_triangle_22 rfl (fun c_8 => ?_) (fun c_8 => ?_)
    · replace hr := (if_neg c_8).symm.trans hr
      refine r_aload_n (pc := 32) C dX11_triangle_32 rfl 0 rfl ?_
      refine r_aload_n (pc := 33) C dX11_triangle_33 rfl 0 rfl ?_
      refine g50_18 (pc := 34) C dX11_triangle_34 q1418 (e50 nf) ?_
      refine r_iload_n (pc := 37) C dX11_triangle_37 rfl 1 rfl ?_
      obtain ⟨M_10, hc_9, hr⟩ := gBind_some hr
      refine c_X11_asks (pc := 38) C dX11_triangle_38 q1652 ⟨Nat.le_of_ble_eq_true rfl, Nat.le_of_ble_eq_true rfl⟩ (by decide) hc_9 (Nat.le_of_ble_eq_true rfl) ?_
      refine r_iload_n (pc := 41) C dX11_triangle_41 rfl 2 rfl ?_
      by_cases c_11_0 : p2 = 0
      · replace hr := (if_pos c_11_0).symm.trans hr
        refine r_tableIn (pc := 42) (tgt := 100) (off := 58) C dX11_triangle_42 0 c_11_0 (by decide) rfl ?_
        refine r_aload_n (pc := 100) C dX11_triangle_100 rfl 0 rfl ?_
        refine g50_28 (pc := 101) C dX11_triangle_101 q1428 (e50 nf) ?_
        exact r_iret (pc := 104) CR dX11_triangle_104 (congrArg (fun z => some (Value.int z)) (Prod.mk.inj (gSome hr)).1) (Prod.mk.inj (gSome hr)).2
      replace hr := (if_neg c_11_0).symm.trans hr
      by_cases c_11_1 : p2 = 1
      · replace hr := (if_pos c_11_1).symm.trans hr
        refine r_tableIn (pc := 42) (tgt := 105) (off := 63) C dX11_triangle_42 1 c_11_1 (by decide) rfl ?_
        refine r_aload_n (pc := 105) C dX11_triangle_105 rfl 0 rfl ?_
        refine g50_11 (pc := 106) C dX11_triangle_106 q1411 (e50 nf) ?_
        refine r_bipush (pc := 109) C dX11_triangle_109 kb12 ?_
        refine r_iload_n (pc := 111) C dX11_triangle_111 rfl 1 rfl ?_
        refine r_imul (pc := 112) C dX11_triangle_112 ?_
        refine r_bipush (pc := 113) C dX11_triangle_113 kb10 ?_
        refine r_iadd (pc := 115) C dX11_triangle_115 ?_
        obtain ⟨g_12, hr⟩ := gG_some hr
        refine r_ialdN (pc := 116) C dX11_triangle_116 rfl (e52 (nf := nf) (by decide)) g_12 rfl ?_
        exact r_iret (pc := 117) CR dX11_triangle_117 (congrArg (fun z => some (Value.int z)) (Prod.mk.inj (gSome hr)).1) (Prod.mk.inj (gSome hr)).2
      replace hr := (if_neg c_11_1).symm.trans hr
      by_cases c_11_2 : p2 = 2
      · replace hr := (if_pos c_11_2).symm.trans hr
        refine r_tableIn (pc := 42) (tgt := 118) (off := 76) C dX11_triangle_42 2 c_11_2 (by decide) rfl ?_
        refine r_aload_n (pc := 118) C dX11_triangle_118 rfl 0 rfl ?_
        refine g50_11 (pc := 119) C dX11_triangle_119 q1411 (e50 nf) ?_
        refine r_bipush (pc := 122) C dX11_triangle_122 kb12 ?_
        refine r_iload_n (pc := 124) C dX11_triangle_124 rfl 1 rfl ?_
        refine r_imul (pc := 125) C dX11_triangle_125 ?_
        refine r_bipush (pc := 126) C dX11_triangle_126 kb9 ?_
        refine r_iadd (pc := 128) C dX11_triangle_128 ?_
        obtain ⟨g_13, hr⟩ := gG_some hr
        refine r_ialdN (pc := 129) C dX11_triangle_129 rfl (e52 (nf := nf) (by decide)) g_13 rfl ?_
        exact r_iret (pc := 130) CR dX11_triangle_130 (congrArg (fun z => some (Value.int z)) (Prod.mk.inj (gSome hr)).1) (Prod.mk.inj (gSome hr)).2
      replace hr := (if_neg c_11_2).symm.trans hr
      by_cases c_11_3 : p2 = 3
      · replace hr := (if_pos c_11_3).symm.trans hr
        refine r_tableIn (pc := 42) (tgt := 131) (off := 89) C dX11_triangle_42 3 c_11_3 (by decide) rfl ?_
        refine r_aload_n (pc := 131) C dX11_triangle_131 rfl 0 rfl ?_
        refine g50_11 (pc := 132) C dX11_triangle_132 q1411 (e50 nf) ?_
        refine r_bipush (pc := 135) C dX11_triangle_135 kb12 ?_
        refine r_iload_n (pc := 137) C dX11_triangle_137 rfl 1 rfl ?_
        refine r_imul (pc := 138) C dX11_triangle_138 ?_
        refine r_bipush (pc := 139) C dX11_triangle_139 kb11 ?_
        refine r_iadd (pc := 141) C dX11_triangle_141 ?_
        obtain ⟨g_14, hr⟩ := gG_some hr
        refine r_ialdN (pc := 142) C dX11_triangle_142 rfl (e52 (nf := nf) (by decide)) g_14 rfl ?_
        exact r_iret (pc := 143) CR dX11_triangle_143 (congrArg (fun z => some (Value.int z)) (Prod.mk.inj (gSome hr)).1) (Prod.mk.inj (gSome hr)).2
      replace hr := (if_neg c_11_3).symm.trans hr
      by_cases c_11_4 : p2 = 4
      · replace hr := (if_pos c_11_4).symm.trans hr
        refine r_tableIn (pc := 42) (tgt := 144) (off := 102) C dX11_triangle_42 4 c_11_4 (by decide) rfl ?_
        refine r_aload_n (pc := 144) C dX11_triangle_144 rfl 0 rfl ?_
        refine g50_31 (pc := 145) C dX11_triangle_145 q1431 (e50 nf) ?_
        refine r_if_eq (pc := 148) (tgt := 155) C dX11_triangle_148 rfl (fun c_15 => ?_) (fun c_15 => ?_)
        · replace hr := (if_pos c_15).symm.trans hr
          refine r_iconst (pc := 155) C dX11_triangle_155 ki0 ?_
          exact r_iret (pc := 156) CR dX11_triangle_156 (congrArg (fun z => some (Value.int z)) (Prod.mk.inj (gSome hr)).1) (Prod.mk.inj (gSome hr)).2
        · replace hr := (if_neg c_15).symm.trans hr
          refine r_iconst (pc := 151) C dX11_triangle_151 ki1 ?_
          refine r_goto (pc := 152) (tgt := 156) C dX11_triangle_152 rfl ?_
          exact r_iret (pc := 156) CR dX11_triangle_156 (congrArg (fun z => some (Value.int z)) (Prod.mk.inj (gSome hr)).1) (Prod.mk.inj (gSome hr)).2
      replace hr := (if_neg c_11_4).symm.trans hr
      by_cases c_11_5 : p2 = 5
      · replace hr := (if_pos c_11_5).symm.trans hr
        refine r_tableIn (pc := 42) (tgt := 157) (off := 115) C dX11_triangle_42 5 c_11_5 (by decide) rfl ?_
        refine r_aload_n (pc := 157) C dX11_triangle_157 rfl 0 rfl ?_
        obtain ⟨r_17, hc_16, hr⟩ := gBind_some hr
        refine c_X11_leastZ (pc := 158) C dX11_triangle_158 q1717 ⟨Nat.le_of_ble_eq_true rfl, Nat.le_of_ble_eq_true rfl⟩ hc_16 (Nat.le_of_ble_eq_true rfl) ?_
        exact r_iret (pc := 161) CR dX11_triangle_161 (congrArg (fun z => some (Value.int z)) (Prod.mk.inj (gSome hr)).1) (Prod.mk.inj (gSome hr)).2
      replace hr := (if_neg c_11_5).symm.trans hr
      by_cases c_11_6 : p2 = 6
      · replace hr := (if_pos c_11_6).symm.trans hr
        refine r_tableIn (pc := 42) (tgt := 162) (off := 120) C dX11_triangle_42 6 c_11_6 (by decide) rfl ?_
        refine r_aload_n (pc := 162) C dX11_triangle_162 rfl 0 rfl ?_
        obtain ⟨r_19, hc_18, hr⟩ := gBind_some hr
        refine c_X11_mostZ (pc := 163) C dX11_triangle_163 q1891 ⟨Nat.le_of_ble_eq_true rfl, Nat.le_of_ble_eq_true rfl⟩ hc_18 (Nat.le_of_ble_eq_true rfl) ?_
        exact r_iret (pc := 166) CR dX11_triangle_166 (congrArg (fun z => some (Value.int z)) (Prod.mk.inj (gSome hr)).1) (Prod.mk.inj (gSome hr)).2
      replace hr := (if_neg c_11_6).symm.trans hr
      by_cases c_11_7 : p2 = 7
      · replace hr := (if_pos c_11_7).symm.trans hr
        refine r_tableIn (pc := 42) (tgt := 167) (off := 125) C dX11_triangle_42 7 c_11_7 (by decide) rfl ?_
        refine r_aload_n (pc := 167) C dX11_triangle_167 rfl 0 rfl ?_
        refine r_aload_n (pc := 168) C dX11_triangle_168 rfl 0 rfl ?_
        refine g50_18 (pc := 169) C dX11_triangle_169 q1418 (e50 nf) ?_
        refine r_iload_n (pc := 172) C dX11_triangle_172 rfl 1 rfl ?_
        obtain ⟨⟨r_21, M_22⟩, hc_20, hr⟩ := gBind_some hr
        replace hr := gU2_some hr
        refine c_X11_touched (pc := 173) C dX11_triangle_173 q1648 ⟨Nat.le_of_ble_eq_true rfl, Nat.le_of_ble_eq_true rfl⟩ (by decide) hc_20 (Nat.le_of_ble_eq_true rfl) ?_
        exact r_iret (pc := 176) CR dX11_triangle_176 (congrArg (fun z => some (Value.int z)) (Prod.mk.inj (gSome hr)).1) (Prod.mk.inj (gSome hr)).2
      replace hr := (if_neg c_11_7).symm.trans hr
      by_cases c_11_8 : p2 = 8
      · replace hr := (if_pos c_11_8).symm.trans hr
        refine r_tableIn (pc := 42) (tgt := 177) (off := 135) C dX11_triangle_42 8 c_11_8 (by decide) rfl ?_
        refine r_aload_n (pc := 177) C dX11_triangle_177 rfl 0 rfl ?_
        refine r_iload_n (pc := 178) C dX11_triangle_178 rfl 1 rfl ?_
        obtain ⟨⟨r_24, M_25⟩, hc_23, hr⟩ := gBind_some hr
        replace hr := gU2_some hr
        refine c_X11_vain (pc := 179) C dX11_triangle_179 q1895 ⟨Nat.le_of_ble_eq_true rfl, Nat.le_of_ble_eq_true rfl⟩ hc_23 (Nat.le_of_ble_eq_true rfl) ?_
        exact r_iret (pc := 182) CR dX11_triangle_182 (congrArg (fun z => some (Value.int z)) (Prod.mk.inj (gSome hr)).1) (Prod.mk.inj (gSome hr)).2
      replace hr := (if_neg c_11_8).symm.trans hr
      by_cases c_11_9 : p2 = 9
      · replace hr := (if_pos c_11_9).symm.trans hr
        refine r_tableIn (pc := 42) (tgt := 183) (off := 141) C dX11_triangle_42 9 c_11_9 (by decide) rfl ?_
        refine r_aload_n (pc := 183) C dX11_triangle_183 rfl 0 rfl ?_
        obtain ⟨r_27, hc_26, hr⟩ := gBind_some hr
        refine c_X11_covered (pc := 184) C dX11_triangle_184 q1911 ⟨Nat.le_of_ble_eq_true rfl, Nat.le_of_ble_eq_true rfl⟩ hc_26 (Nat.le_of_ble_eq_true rfl) ?_
        exact r_iret (pc := 187) CR dX11_triangle_187 (congrArg (fun z => some (Value.int z)) (Prod.mk.inj (gSome hr)).1) (Prod.mk.inj (gSome hr)).2
      replace hr := (if_neg c_11_9).symm.trans hr
      by_cases c_11_10 : p2 = 10
      · replace hr := (if_pos c_11_10).symm.trans hr
        refine r_tableIn (pc := 42) (tgt := 188) (off := 146) C dX11_triangle_42 10 c_11_10 (by decide) rfl ?_
        refine r_aload_n (pc := 188) C dX11_triangle_188 rfl 0 rfl ?_
        refine g50_18 (pc := 189) C dX11_triangle_189 q1418 (e50 nf) ?_
        refine r_iload_n (pc := 192) C dX11_triangle_192 rfl 1 rfl ?_
        obtain ⟨r_29, hc_28, hr⟩ := gBind_some hr
        refine c_X11_lit (pc := 193) C dX11_triangle_193 q1777 ⟨Nat.le_of_ble_eq_true rfl, Nat.le_of_ble_eq_true rfl⟩ (by decide) hc_28 (Nat.le_of_ble_eq_true rfl) ?_
        exact r_iret (pc := 196) CR dX11_triangle_196 (congrArg (fun z => some (Value.int z)) (Prod.mk.inj (gSome hr)).1) (Prod.mk.inj (gSome hr)).2
      replace hr := (if_neg c_11_10).symm.trans hr
      refine r_tableOut (pc := 42) (tgt := 197) C dX11_triangle_42 (fun k h1 h2 => ?_) rfl ?_
      · rcases (show k = 0 ∨ k = 1 ∨ k = 2 ∨ k = 3 ∨ k = 4 ∨ k = 5 ∨ k = 6 ∨ k = 7 ∨ k = 8 ∨ k = 9 ∨ k = 10 by omega) with rfl | rfl | rfl | rfl | rfl | rfl | rfl | rfl | rfl | rfl | rfl
        all_goals assumption
      · refine r_aload_n (pc := 197) C dX11_triangle_197 rfl 0 rfl ?_
        refine r_aload_n (pc := 198) C dX11_triangle_198 rfl 0 rfl ?_
        refine g50_18 (pc := 199) C dX11_triangle_199 q1418 (e50 nf) ?_
        refine r_iload_n (pc := 202) C dX11_triangle_202 rfl 1 rfl ?_
        obtain ⟨r_31, hc_30, hr⟩ := gBind_some hr
        refine c_X11_timesIn (pc := 203) C dX11_triangle_203 q1836 ⟨Nat.le_of_ble_eq_true rfl, Nat.le_of_ble_eq_true rfl⟩ (by decide) hc_30 (Nat.le_of_ble_eq_true rfl) ?_
        exact r_iret (pc := 206) CR dX11_triangle_206 (congrArg (fun z => some (Value.int z)) (Prod.mk.inj (gSome hr)).1) (Prod.mk.inj (gSome hr)).2
    · replace hr := (if_pos c_8).symm.trans hr
      refine r_aload_n (pc := 25) C dX11_triangle_25 rfl 0 rfl ?_
      refine r_iconst (pc := 26) C dX11_triangle_26 ki1 ?_
      obtain ⟨M_32, eM_32, hr⟩ := gLet_some hr
      refine p50_0 (pc := 27) C dX11_triangle_27 q1400 (e50 nf) eM_32 ?_
      refine r_iconst (pc := 30) C dX11_triangle_30 ki0 ?_
      exact r_iret (pc := 31) CR dX11_triangle_31 (congrArg (fun z => some (Value.int z)) (Prod.mk.inj (gSome hr)).1) (Prod.mk.inj (gSome hr)).2
theorem c_X11_triangle {Ψ : gM → Nat → List (Nat × Value) → List Value → Prop} {G : gG5} {nf : Nat} {cc : ByteArray} {own : String} {nL : Nat} {ret : Option FieldType} {fr lo : Nat} {v0 : Option Value} {M0 M : gM} {pc index : Nat} {ls : List (Nat × Value)} {st : List Value} (C : gC Ψ G (gXn nf) cc own nL ret fr lo v0 M0) (d : decode cc pc = .ok (.invokevirtual index, 3)) (hl : Cond.methodLink own index yX11_triangle ∈ gws) (hR : 7 ≤ fr ∧ 167 ≤ lo) {p1 : Int32} {p2 : Int32} {r : Int32} {M1 : gM} (hr : X11_triangle p1 p2 M = some (r, M1)) (hcat : (st.map fun v => v.category).sum ≤ 8) (k : Ψ M1 (pc + 3) ls (.int r :: st)) : Ψ M pc ls (.int p2 :: .int p1 :: .ref (gad 50 0) :: st) := r_callV C [.int p1, .int p2] st d (k_X11_triangle hr) hl q1887 q1888 q127 q1889 hd_X11_triangle hR rfl (by decide) (e50 nf) rfl hcat k
theorem hd_X11_corner : yX11_corner.cls ≠ "java/lang/invoke/MethodHandle" ∧ yX11_corner.cls ≠ "java/lang/invoke/VarHandle" ∧ (parseMethodDescriptor yX11_corner.desc).map (fun d => d.parameters.length) = some 3 := by decide +kernel
noncomputable def X11_corner (p1 : Int32) (p2 : Int32) (p3 : Int32) (M : gM) : Option (Int32 × gM) := gLet (wI M 50 0 0 0) (fun M_1 => (X11_isTri p1 M_1).bind (fun r_3 => (if r_3 = 0 then some ((-1000000000), M_1) else (X11_isIn (Int32.toInt64 p2) 0 2 M_1).bind (fun r_6 => (if r_6 = 0 then some ((-1000000000), M_1) else (X11_isIn (Int32.toInt64 p3) 0 2 M_1).bind (fun r_9 => (if r_9 = 0 then some ((-1000000000), M_1) else gG (gin (((944 + (9 * p1)) + (3 * p2)) + p3) 1242) (some ((M_1.1 52 8 (Int32.toNatClampNeg (((944 + (9 * p1)) + (3 * p2)) + p3))), M_1)))))))))
theorem k_X11_corner {G : gG5} {nf : Nat} {M : gM} {p1 : Int32} {p2 : Int32} {p3 : Int32} {r : Int32} {M1 : gM} (hr : X11_corner p1 p2 p3 M = some (r, M1)) : gMet G (gXn nf) yX11_corner cX11_corner 4 (some .int) 1 25 M [.ref (gad 50 0), .int p1, .int p2, .int p3] (some (.int r)) M1 := by
  refine gMet_of pl_X11 rfl (Nat.le_of_ble_eq_true rfl) (fun Ψ C CR => ?_)
  show Ψ M 0 [(0, .ref (gad 50 0)), (1, .int p1), (2, .int p2), (3, .int p3)] []
  refine r_aload_n (pc := 0) C dX11_corner_0 rfl 0 rfl ?_
  refine r_iconst (pc := 1) C dX11_corner_1 ki0 ?_
  obtain ⟨M_1, eM_1, hr⟩ := gLet_some hr
  refine p50_0 (pc := 2) C dX11_corner_2 q1400 (e50 nf) eM_1 ?_
  refine r_aload_n (pc := 5) C dX11_corner_5 rfl 0 rfl ?_
  refine r_iload_n (pc := 6) C dX11_corner_6 rfl 1 rfl ?_
  obtain ⟨r_3, hc_2, hr⟩ := gBind_some hr
  refine c_X11_isTri (pc := 7) C dX11_corner_7 q1644 ⟨Nat.le_of_ble_eq_true rfl, Nat.le_of_ble_eq_true rfl⟩ hc_2 (Nat.le_of_ble_eq_true rfl) ?_
  refine r_if_eq (pc := 10) (tgt := 37) C dX11_corner_10 rfl (fun c_4 => ?_) (fun c_4 => ?_)
  · replace hr := (if_pos c_4).symm.trans hr
    refine r_ldc (pc := 37) C dX11_corner_37 q1626 ?_
    exact r_iret (pc := 39) CR dX11_corner_39 (congrArg (fun z => some (Value.int z)) (Prod.mk.inj (gSome hr)).1) (Prod.mk.inj (gSome hr)).2
  · replace hr := (if_neg c_4).symm.trans hr
    refine r_iload_n (pc := 13) C dX11_corner_13 rfl 2 rfl ?_
    refine r_i2l (pc := 14) C dX11_corner_14 ?_
    refine r_lconst (pc := 15) (v := 0) C dX11_corner_15 rfl ?_
    refine r_ldc2 (pc := 16) C dX11_corner_16 q1607 ?_
    obtain ⟨r_6, hc_5, hr⟩ := gBind_some hr
    refine c_X11_isIn (pc := 19) C dX11_corner_19 q1538 ⟨Nat.le_of_ble_eq_true rfl, Nat.le_of_ble_eq_true rfl⟩ hc_5 (Nat.le_of_ble_eq_true rfl) ?_
    refine r_if_eq (pc := 22) (tgt := 37) C dX11_corner_22 rfl (fun c_7 => ?_) (fun c_7 => ?_)
    · replace hr := (if_pos c_7).symm.trans hr
      refine r_ldc (pc := 37) C dX11_corner_37 q1626 ?_
      exact r_iret (pc := 39) CR dX11_corner_39 (congrArg (fun z => some (Value.int z)) (Prod.mk.inj (gSome hr)).1) (Prod.mk.inj (gSome hr)).2
    · replace hr := (if_neg c_7).symm.trans hr
      refine r_iload_n (pc := 25) C dX11_corner_25 rfl 3 rfl ?_
      refine r_i2l (pc := 26) C dX11_corner_26 ?_
      refine r_lconst (pc := 27) (v := 0) C dX11_corner_27 rfl ?_
      refine r_ldc2 (pc := 28) C dX11_corner_28 q1607 ?_
      obtain ⟨r_9, hc_8, hr⟩ := gBind_some hr
      refine c_X11_isIn (pc := 31) C dX11_corner_31 q1538 ⟨Nat.le_of_ble_eq_true rfl, Nat.le_of_ble_eq_true rfl⟩ hc_8 (Nat.le_of_ble_eq_true rfl) ?_
      refine r_if_ne (pc := 34) (tgt := 40) C dX11_corner_34 rfl (fun c_10 => ?_) (fun c_10 => ?_)
      · replace hr := (if_neg c_10).symm.trans hr
        refine r_aload_n (pc := 40) C dX11_corner_40 rfl 0 rfl ?_
        refine g50_18 (pc := 41) C dX11_corner_41 q1418 (e50 nf) ?_
        refine r_sipush (pc := 44) C dX11_corner_44 ks944 ?_
        refine r_bipush (pc := 47) C dX11_corner_47 kb9 ?_
        refine r_iload_n (pc := 49) C dX11_corner_49 rfl 1 rfl ?_
        refine r_imul (pc := 50) C dX11_corner_50 ?_
        refine r_iadd (pc := 51) C dX11_corner_51 ?_
        refine r_iconst (pc := 52) C dX11_corner_52 ki3 ?_
        refine r_iload_n (pc := 53) C dX11_corner_53 rfl 2 rfl ?_
        refine r_imul (pc := 54) C dX11_corner_54 ?_
        refine r_iadd (pc := 55) C dX11_corner_55 ?_
        refine r_iload_n (pc := 56) C dX11_corner_56 rfl 3 rfl ?_
        refine r_iadd (pc := 57) C dX11_corner_57 ?_
        obtain ⟨g_11, hr⟩ := gG_some hr
        refine r_ialdN (pc := 58) C dX11_corner_58 rfl (e52 (nf := nf) (by decide)) g_11 rfl ?_
        exact r_iret (pc := 59) CR dX11_corner_59 (congrArg (fun z => some (Value.int z)) (Prod.mk.inj (gSome hr)).1) (Prod.mk.inj (gSome hr)).2
      · replace hr := (if_pos c_10).symm.trans hr
        refine r_ldc (pc := 37) C dX11_corner_37 q1626 ?_
        exact r_iret (pc := 39) CR dX11_corner_39 (congrArg (fun z => some (Value.int z)) (Prod.mk.inj (gSome hr)).1) (Prod.mk.inj (gSome hr)).2
theorem c_X11_corner {Ψ : gM → Nat → List (Nat × Value) → List Value → Prop} {G : gG5} {nf : Nat} {cc : ByteArray} {own : String} {nL : Nat} {ret : Option FieldType} {fr lo : Nat} {v0 : Option Value} {M0 M : gM} {pc index : Nat} {ls : List (Nat × Value)} {st : List Value} (C : gC Ψ G (gXn nf) cc own nL ret fr lo v0 M0) (d : decode cc pc = .ok (.invokevirtual index, 3)) (hl : Cond.methodLink own index yX11_corner ∈ gws) (hR : 2 ≤ fr ∧ 48 ≤ lo) {p1 : Int32} {p2 : Int32} {p3 : Int32} {r : Int32} {M1 : gM} (hr : X11_corner p1 p2 p3 M = some (r, M1)) (hcat : (st.map fun v => v.category).sum ≤ 8) (k : Ψ M1 (pc + 3) ls (.int r :: st)) : Ψ M pc ls (.int p3 :: .int p2 :: .int p1 :: .ref (gad 50 0) :: st) := r_callV C [.int p1, .int p2, .int p3] st d (k_X11_corner hr) hl q1916 q1917 q127 q1918 hd_X11_corner hR rfl (by decide) (e50 nf) rfl hcat k
theorem hd_X11_edge : yX11_edge.cls ≠ "java/lang/invoke/MethodHandle" ∧ yX11_edge.cls ≠ "java/lang/invoke/VarHandle" ∧ (parseMethodDescriptor yX11_edge.desc).map (fun d => d.parameters.length) = some 4 := by decide +kernel
noncomputable def X11_edge (p1 : Int32) (p2 : Int32) (p3 : Int32) (p4 : Int32) (M : gM) : Option (Int32 × gM) := gLet (wI M 50 0 0 0) (fun M_1 => (X11_isTri p1 M_1).bind (fun r_3 => (if r_3 = 0 then some ((-1000000000), M_1) else (X11_isIn (Int32.toInt64 p2) 0 2 M_1).bind (fun r_6 => (if r_6 = 0 then some ((-1000000000), M_1) else (X11_isIn (Int32.toInt64 p3) (-99) 160 M_1).bind (fun r_9 => (if r_9 = 0 then some ((-1000000000), M_1) else (X11_isIn (Int32.toInt64 p4) (-99) 160 M_1).bind (fun r_12 => (if r_12 = 0 then some ((-1000000000), M_1) else (X11_asks 8 p1 M_1).bind (fun M_15 => (X11_sum p2 p3 p4 M_15).bind (fun r_17 => some (r_17, M_15))))))))))))
theorem k_X11_edge {G : gG5} {nf : Nat} {M : gM} {p1 : Int32} {p2 : Int32} {p3 : Int32} {p4 : Int32} {r : Int32} {M1 : gM} (hr : X11_edge p1 p2 p3 p4 M = some (r, M1)) : gMet G (gXn nf) yX11_edge cX11_edge 5 (some .int) 2 49 M [.ref (gad 50 0), .int p1, .int p2, .int p3, .int p4] (some (.int r)) M1 := by
  refine gMet_of pl_X11 rfl (Nat.le_of_ble_eq_true rfl) (fun Ψ C CR => ?_)
  show Ψ M 0 [(0, .ref (gad 50 0)), (1, .int p1), (2, .int p2), (3, .int p3), (4, .int p4)] []
  refine r_aload_n (pc := 0) C dX11_edge_0 rfl 0 rfl ?_
  refine r_iconst (pc := 1) C dX11_edge_1 ki0 ?_
  obtain ⟨M_1, eM_1, hr⟩ := gLet_some hr
  refine p50_0 (pc := 2) C dX11_edge_2 q1400 (e50 nf) eM_1 ?_
  refine r_aload_n (pc := 5) C dX11_edge_5 rfl 0 rfl ?_
  refine r_iload_n (pc := 6) C dX11_edge_6 rfl 1 rfl ?_
  obtain ⟨r_3, hc_2, hr⟩ := gBind_some hr
  refine c_X11_isTri (pc := 7) C dX11_edge_7 q1644 ⟨Nat.le_of_ble_eq_true rfl, Nat.le_of_ble_eq_true rfl⟩ hc_2 (Nat.le_of_ble_eq_true rfl) ?_
  refine r_if_eq (pc := 10) (tgt := 54) C dX11_edge_10 rfl (fun c_4 => ?_) (fun c_4 => ?_)
  · replace hr := (if_pos c_4).symm.trans hr
    refine r_ldc (pc := 54) C dX11_edge_54 q1626 ?_
    exact r_iret (pc := 56) CR dX11_edge_56 (congrArg (fun z => some (Value.int z)) (Prod.mk.inj (gSome hr)).1) (Prod.mk.inj (gSome hr)).2
  · replace hr := (if_neg c_4).symm.trans hr
    refine r_iload_n (pc := 13) C dX11_edge_13 rfl 2 rfl ?_
    refine r_i2l (pc := 14) C dX11_edge_14 ?_
    refine r_lconst (pc := 15) (v := 0) C dX11_edge_15 rfl ?_
    refine r_ldc2 (pc := 16) C dX11_edge_16 q1607 ?_
    obtain ⟨r_6, hc_5, hr⟩ := gBind_some hr
    refine c_X11_isIn (pc := 19) C dX11_edge_19 q1538 ⟨Nat.le_of_ble_eq_true rfl, Nat.le_of_ble_eq_true rfl⟩ hc_5 (Nat.le_of_ble_eq_true rfl) ?_
    refine r_if_eq (pc := 22) (tgt := 54) C dX11_edge_22 rfl (fun c_7 => ?_) (fun c_7 => ?_)
    · replace hr := (if_pos c_7).symm.trans hr
      refine r_ldc (pc := 54) C dX11_edge_54 q1626 ?_
      exact r_iret (pc := 56) CR dX11_edge_56 (congrArg (fun z => some (Value.int z)) (Prod.mk.inj (gSome hr)).1) (Prod.mk.inj (gSome hr)).2
    · replace hr := (if_neg c_7).symm.trans hr
      refine r_iload_n (pc := 25) C dX11_edge_25 rfl 3 rfl ?_
      refine r_i2l (pc := 26) C dX11_edge_26 ?_
      refine r_ldc2 (pc := 27) C dX11_edge_27 q1605 ?_
      refine r_ldc2 (pc := 30) C dX11_edge_30 q1606 ?_
      obtain ⟨r_9, hc_8, hr⟩ := gBind_some hr
      refine c_X11_isIn (pc := 33) C dX11_edge_33 q1538 ⟨Nat.le_of_ble_eq_true rfl, Nat.le_of_ble_eq_true rfl⟩ hc_8 (Nat.le_of_ble_eq_true rfl) ?_
      refine r_if_eq (pc := 36) (tgt := 54) C dX11_edge_36 rfl (fun c_10 => ?_) (fun c_10 => ?_)
      · replace hr := (if_pos c_10).symm.trans hr
        refine r_ldc (pc := 54) C dX11_edge_54 q1626 ?_
        exact r_iret (pc := 56) CR dX11_edge_56 (congrArg (fun z => some (Value.int z)) (Prod.mk.inj (gSome hr)).1) (Prod.mk.inj (gSome hr)).2
      · replace hr := (if_neg c_10).symm.trans hr
        refine r_iload (pc := 39) C dX11_edge_39 4 rfl ?_
        refine r_i2l (pc := 41) C dX11_edge_41 ?_
        refine r_ldc2 (pc := 42) C dX11_edge_42 q1605 ?_
        refine r_ldc2 (pc := 45) C dX11_edge_45 q1606 ?_
        obtain ⟨r_12, hc_11, hr⟩ := gBind_some hr
        refine c_X11_isIn (pc := 48) C dX11_edge_48 q1538 ⟨Nat.le_of_ble_eq_true rfl, Nat.le_of_ble_eq_true rfl⟩ hc_11 (Nat.le_of_ble_eq_true rfl) ?_
        refine r_if_ne (pc := 51) (tgt := 57) C dX11_edge_51 rfl (fun c_13 => ?_) (fun c_13 => ?_)
        · replace hr := (if_neg c_13).symm.trans hr
          refine r_aload_n (pc := 57) C dX11_edge_57 rfl 0 rfl ?_
          refine r_aload_n (pc := 58) C dX11_edge_58 rfl 0 rfl ?_
          refine g50_18 (pc := 59) C dX11_edge_59 q1418 (e50 nf) ?_
          refine r_iload_n (pc := 62) C dX11_edge_62 rfl 1 rfl ?_
          obtain ⟨M_15, hc_14, hr⟩ := gBind_some hr
          refine c_X11_asks (pc := 63) C dX11_edge_63 q1652 ⟨Nat.le_of_ble_eq_true rfl, Nat.le_of_ble_eq_true rfl⟩ (by decide) hc_14 (Nat.le_of_ble_eq_true rfl) ?_
          refine r_aload_n (pc := 66) C dX11_edge_66 rfl 0 rfl ?_
          refine r_iload_n (pc := 67) C dX11_edge_67 rfl 2 rfl ?_
          refine r_iload_n (pc := 68) C dX11_edge_68 rfl 3 rfl ?_
          refine r_iload (pc := 69) C dX11_edge_69 4 rfl ?_
          obtain ⟨r_17, hc_16, hr⟩ := gBind_some hr
          refine c_X11_sum (pc := 71) C dX11_edge_71 q1656 ⟨Nat.le_of_ble_eq_true rfl, Nat.le_of_ble_eq_true rfl⟩ hc_16 (Nat.le_of_ble_eq_true rfl) ?_
          exact r_iret (pc := 74) CR dX11_edge_74 (congrArg (fun z => some (Value.int z)) (Prod.mk.inj (gSome hr)).1) (Prod.mk.inj (gSome hr)).2
        · replace hr := (if_pos c_13).symm.trans hr
          refine r_ldc (pc := 54) C dX11_edge_54 q1626 ?_
          exact r_iret (pc := 56) CR dX11_edge_56 (congrArg (fun z => some (Value.int z)) (Prod.mk.inj (gSome hr)).1) (Prod.mk.inj (gSome hr)).2
theorem c_X11_edge {Ψ : gM → Nat → List (Nat × Value) → List Value → Prop} {G : gG5} {nf : Nat} {cc : ByteArray} {own : String} {nL : Nat} {ret : Option FieldType} {fr lo : Nat} {v0 : Option Value} {M0 M : gM} {pc index : Nat} {ls : List (Nat × Value)} {st : List Value} (C : gC Ψ G (gXn nf) cc own nL ret fr lo v0 M0) (d : decode cc pc = .ok (.invokevirtual index, 3)) (hl : Cond.methodLink own index yX11_edge ∈ gws) (hR : 3 ≤ fr ∧ 73 ≤ lo) {p1 : Int32} {p2 : Int32} {p3 : Int32} {p4 : Int32} {r : Int32} {M1 : gM} (hr : X11_edge p1 p2 p3 p4 M = some (r, M1)) (hcat : (st.map fun v => v.category).sum ≤ 8) (k : Ψ M1 (pc + 3) ls (.int r :: st)) : Ψ M pc ls (.int p4 :: .int p3 :: .int p2 :: .int p1 :: .ref (gad 50 0) :: st) := r_callV C [.int p1, .int p2, .int p3, .int p4] st d (k_X11_edge hr) hl q1920 q1921 q127 q1922 hd_X11_edge hR rfl (by decide) (e50 nf) rfl hcat k
theorem hd_X11_mask : yX11_mask.cls ≠ "java/lang/invoke/MethodHandle" ∧ yX11_mask.cls ≠ "java/lang/invoke/VarHandle" ∧ (parseMethodDescriptor yX11_mask.desc).map (fun d => d.parameters.length) = some 3 := by decide +kernel
noncomputable def X11_mask (p1 : Int32) (p2 : Int32) (p3 : Int32) (M : gM) : Option (Int32 × gM) := gLet (wI M 50 0 0 0) (fun M_1 => (X11_isTri p1 M_1).bind (fun r_3 => (if r_3 = 0 then some ((-1), M_1) else (X11_isPixel p2 p3 M_1).bind (fun r_6 => (if r_6 = 0 then some ((-1), M_1) else (X11_asks 8 p1 M_1).bind (fun M_9 => (X11_maskOf p2 p3 M_9).bind (fun r_11 => some (r_11, M_9))))))))
theorem k_X11_mask {G : gG5} {nf : Nat} {M : gM} {p1 : Int32} {p2 : Int32} {p3 : Int32} {r : Int32} {M1 : gM} (hr : X11_mask p1 p2 p3 M = some (r, M1)) : gMet G (gXn nf) yX11_mask cX11_mask 4 (some .int) 4 97 M [.ref (gad 50 0), .int p1, .int p2, .int p3] (some (.int r)) M1 := by
  refine gMet_of pl_X11 rfl (Nat.le_of_ble_eq_true rfl) (fun Ψ C CR => ?_)
  show Ψ M 0 [(0, .ref (gad 50 0)), (1, .int p1), (2, .int p2), (3, .int p3)] []
  refine r_aload_n (pc := 0) C dX11_mask_0 rfl 0 rfl ?_
  refine r_iconst (pc := 1) C dX11_mask_1 ki0 ?_
  obtain ⟨M_1, eM_1, hr⟩ := gLet_some hr
  refine p50_0 (pc := 2) C dX11_mask_2 q1400 (e50 nf) eM_1 ?_
  refine r_aload_n (pc := 5) C dX11_mask_5 rfl 0 rfl ?_
  refine r_iload_n (pc := 6) C dX11_mask_6 rfl 1 rfl ?_
  obtain ⟨r_3, hc_2, hr⟩ := gBind_some hr
  refine c_X11_isTri (pc := 7) C dX11_mask_7 q1644 ⟨Nat.le_of_ble_eq_true rfl, Nat.le_of_ble_eq_true rfl⟩ hc_2 (Nat.le_of_ble_eq_true rfl) ?_
  refine r_if_eq (pc := 10) (tgt := 22) C dX11_mask_10 rfl (fun c_4 => ?_) (fun c_4 => ?_)
  · replace hr := (if_pos c_4).symm.trans hr
    refine r_iconst (pc := 22) C dX11_mask_22 kim1 ?_
    exact r_iret (pc := 23) CR dX11_mask_23 (congrArg (fun z => some (Value.int z)) (Prod.mk.inj (gSome hr)).1) (Prod.mk.inj (gSome hr)).2
  · replace hr := (if_neg c_4).symm.trans hr
    refine r_aload_n (pc := 13) C dX11_mask_13 rfl 0 rfl ?_
    refine r_iload_n (pc := 14) C dX11_mask_14 rfl 2 rfl ?_
    refine r_iload_n (pc := 15) C dX11_mask_15 rfl 3 rfl ?_
    obtain ⟨r_6, hc_5, hr⟩ := gBind_some hr
    refine c_X11_isPixel (pc := 16) C dX11_mask_16 q1927 ⟨Nat.le_of_ble_eq_true rfl, Nat.le_of_ble_eq_true rfl⟩ hc_5 (Nat.le_of_ble_eq_true rfl) ?_
    refine r_if_ne (pc := 19) (tgt := 24) C dX11_mask_19 rfl (fun c_7 => ?_) (fun c_7 => ?_)
    · replace hr := (if_neg c_7).symm.trans hr
      refine r_aload_n (pc := 24) C dX11_mask_24 rfl 0 rfl ?_
      refine r_aload_n (pc := 25) C dX11_mask_25 rfl 0 rfl ?_
      refine g50_18 (pc := 26) C dX11_mask_26 q1418 (e50 nf) ?_
      refine r_iload_n (pc := 29) C dX11_mask_29 rfl 1 rfl ?_
      obtain ⟨M_9, hc_8, hr⟩ := gBind_some hr
      refine c_X11_asks (pc := 30) C dX11_mask_30 q1652 ⟨Nat.le_of_ble_eq_true rfl, Nat.le_of_ble_eq_true rfl⟩ (by decide) hc_8 (Nat.le_of_ble_eq_true rfl) ?_
      refine r_aload_n (pc := 33) C dX11_mask_33 rfl 0 rfl ?_
      refine r_iload_n (pc := 34) C dX11_mask_34 rfl 2 rfl ?_
      refine r_iload_n (pc := 35) C dX11_mask_35 rfl 3 rfl ?_
      obtain ⟨r_11, hc_10, hr⟩ := gBind_some hr
      refine c_X11_maskOf (pc := 36) C dX11_mask_36 q1903 ⟨Nat.le_of_ble_eq_true rfl, Nat.le_of_ble_eq_true rfl⟩ hc_10 (Nat.le_of_ble_eq_true rfl) ?_
      exact r_iret (pc := 39) CR dX11_mask_39 (congrArg (fun z => some (Value.int z)) (Prod.mk.inj (gSome hr)).1) (Prod.mk.inj (gSome hr)).2
    · replace hr := (if_pos c_7).symm.trans hr
      refine r_iconst (pc := 22) C dX11_mask_22 kim1 ?_
      exact r_iret (pc := 23) CR dX11_mask_23 (congrArg (fun z => some (Value.int z)) (Prod.mk.inj (gSome hr)).1) (Prod.mk.inj (gSome hr)).2
theorem c_X11_mask {Ψ : gM → Nat → List (Nat × Value) → List Value → Prop} {G : gG5} {nf : Nat} {cc : ByteArray} {own : String} {nL : Nat} {ret : Option FieldType} {fr lo : Nat} {v0 : Option Value} {M0 M : gM} {pc index : Nat} {ls : List (Nat × Value)} {st : List Value} (C : gC Ψ G (gXn nf) cc own nL ret fr lo v0 M0) (d : decode cc pc = .ok (.invokevirtual index, 3)) (hl : Cond.methodLink own index yX11_mask ∈ gws) (hR : 5 ≤ fr ∧ 120 ≤ lo) {p1 : Int32} {p2 : Int32} {p3 : Int32} {r : Int32} {M1 : gM} (hr : X11_mask p1 p2 p3 M = some (r, M1)) (hcat : (st.map fun v => v.category).sum ≤ 8) (k : Ψ M1 (pc + 3) ls (.int r :: st)) : Ψ M pc ls (.int p3 :: .int p2 :: .int p1 :: .ref (gad 50 0) :: st) := r_callV C [.int p1, .int p2, .int p3] st d (k_X11_mask hr) hl q1924 q1925 q127 q1926 hd_X11_mask hR rfl (by decide) (e50 nf) rfl hcat k
theorem hd_X11_depth : yX11_depth.cls ≠ "java/lang/invoke/MethodHandle" ∧ yX11_depth.cls ≠ "java/lang/invoke/VarHandle" ∧ (parseMethodDescriptor yX11_depth.desc).map (fun d => d.parameters.length) = some 4 := by decide +kernel
noncomputable def X11_depth (p1 : Int32) (p2 : Int32) (p3 : Int32) (p4 : Int32) (M : gM) : Option (Int32 × gM) := gLet (wI M 50 0 0 0) (fun M_1 => (X11_isTri p1 M_1).bind (fun r_3 => (if r_3 = 0 then some ((-1), M_1) else (X11_isSample p2 p3 p4 M_1).bind (fun r_6 => (if r_6 = 0 then some ((-1), M_1) else (X11_asks 8 p1 M_1).bind (fun M_9 => (X11_coversSample p2 p3 p4 M_9).bind (fun r_11 => (if r_11 = 0 then some ((-1), M_9) else (X11_sampleX p4 M_9).bind (fun r_14 => (X11_sampleY p4 M_9).bind (fun r_16 => (X11_depthAt ((8 * p2) + r_14) ((8 * p3) + r_16) M_9).bind (fun r_18 => some (r_18, M_9))))))))))))
theorem k_X11_depth {G : gG5} {nf : Nat} {M : gM} {p1 : Int32} {p2 : Int32} {p3 : Int32} {p4 : Int32} {r : Int32} {M1 : gM} (hr : X11_depth p1 p2 p3 p4 M = some (r, M1)) : gMet G (gXn nf) yX11_depth cX11_depth 5 (some .int) 3 73 M [.ref (gad 50 0), .int p1, .int p2, .int p3, .int p4] (some (.int r)) M1 := by
  refine gMet_of pl_X11 rfl (Nat.le_of_ble_eq_true rfl) (fun Ψ C CR => ?_)
  show Ψ M 0 [(0, .ref (gad 50 0)), (1, .int p1), (2, .int p2), (3, .int p3), (4, .int p4)] []
  refine r_aload_n (pc := 0) C dX11_depth_0 rfl 0 rfl ?_
  refine r_iconst (pc := 1) C dX11_depth_1 ki0 ?_
  obtain ⟨M_1, eM_1, hr⟩ := gLet_some hr
  refine p50_0 (pc := 2) C dX11_depth_2 q1400 (e50 nf) eM_1 ?_
  refine r_aload_n (pc := 5) C dX11_depth_5 rfl 0 rfl ?_
  refine r_iload_n (pc := 6) C dX11_depth_6 rfl 1 rfl ?_
  obtain ⟨r_3, hc_2, hr⟩ := gBind_some hr
  refine c_X11_isTri (pc := 7) C dX11_depth_7 q1644 ⟨Nat.le_of_ble_eq_true rfl, Nat.le_of_ble_eq_true rfl⟩ hc_2 (Nat.le_of_ble_eq_true rfl) ?_
  refine r_if_eq (pc := 10) (tgt := 24) C dX11_depth_10 rfl (fun c_4 => ?_) (fun c_4 => ?_)
  · replace hr := (if_pos c_4).symm.trans hr
    refine r_iconst (pc := 24) C dX11_depth_24 kim1 ?_
    exact r_iret (pc := 25) CR dX11_depth_25 (congrArg (fun z => some (Value.int z)) (Prod.mk.inj (gSome hr)).1) (Prod.mk.inj (gSome hr)).2
  · replace hr := (if_neg c_4).symm.trans hr
    refine r_aload_n (pc := 13) C dX11_depth_13 rfl 0 rfl ?_
    refine r_iload_n (pc := 14) C dX11_depth_14 rfl 2 rfl ?_
    refine r_iload_n (pc := 15) C dX11_depth_15 rfl 3 rfl ?_
    refine r_iload (pc := 16) C dX11_depth_16 4 rfl ?_
    obtain ⟨r_6, hc_5, hr⟩ := gBind_some hr
    refine c_X11_isSample (pc := 18) C dX11_depth_18 q1935 ⟨Nat.le_of_ble_eq_true rfl, Nat.le_of_ble_eq_true rfl⟩ hc_5 (Nat.le_of_ble_eq_true rfl) ?_
    refine r_if_ne (pc := 21) (tgt := 26) C dX11_depth_21 rfl (fun c_7 => ?_) (fun c_7 => ?_)
    · replace hr := (if_neg c_7).symm.trans hr
      refine r_aload_n (pc := 26) C dX11_depth_26 rfl 0 rfl ?_
      refine r_aload_n (pc := 27) C dX11_depth_27 rfl 0 rfl ?_
      refine g50_18 (pc := 28) C dX11_depth_28 q1418 (e50 nf) ?_
      refine r_iload_n (pc := 31) C dX11_depth_31 rfl 1 rfl ?_
      obtain ⟨M_9, hc_8, hr⟩ := gBind_some hr
      refine c_X11_asks (pc := 32) C dX11_depth_32 q1652 ⟨Nat.le_of_ble_eq_true rfl, Nat.le_of_ble_eq_true rfl⟩ (by decide) hc_8 (Nat.le_of_ble_eq_true rfl) ?_
      refine r_aload_n (pc := 35) C dX11_depth_35 rfl 0 rfl ?_
      refine r_iload_n (pc := 36) C dX11_depth_36 rfl 2 rfl ?_
      refine r_iload_n (pc := 37) C dX11_depth_37 rfl 3 rfl ?_
      refine r_iload (pc := 38) C dX11_depth_38 4 rfl ?_
      obtain ⟨r_11, hc_10, hr⟩ := gBind_some hr
      refine c_X11_coversSample (pc := 40) C dX11_depth_40 q1907 ⟨Nat.le_of_ble_eq_true rfl, Nat.le_of_ble_eq_true rfl⟩ hc_10 (Nat.le_of_ble_eq_true rfl) ?_
      refine r_if_eq (pc := 43) (tgt := 75) C dX11_depth_43 rfl (fun c_12 => ?_) (fun c_12 => ?_)
      · replace hr := (if_pos c_12).symm.trans hr
        refine r_iconst (pc := 75) C dX11_depth_75 kim1 ?_
        exact r_iret (pc := 76) CR dX11_depth_76 (congrArg (fun z => some (Value.int z)) (Prod.mk.inj (gSome hr)).1) (Prod.mk.inj (gSome hr)).2
      · replace hr := (if_neg c_12).symm.trans hr
        refine r_aload_n (pc := 46) C dX11_depth_46 rfl 0 rfl ?_
        refine r_bipush (pc := 47) C dX11_depth_47 kb8 ?_
        refine r_iload_n (pc := 49) C dX11_depth_49 rfl 2 rfl ?_
        refine r_imul (pc := 50) C dX11_depth_50 ?_
        refine r_aload_n (pc := 51) C dX11_depth_51 rfl 0 rfl ?_
        refine r_iload (pc := 52) C dX11_depth_52 4 rfl ?_
        obtain ⟨r_14, hc_13, hr⟩ := gBind_some hr
        refine c_X11_sampleX (pc := 54) C dX11_depth_54 q1735 ⟨Nat.le_of_ble_eq_true rfl, Nat.le_of_ble_eq_true rfl⟩ hc_13 (Nat.le_of_ble_eq_true rfl) ?_
        refine r_iadd (pc := 57) C dX11_depth_57 ?_
        refine r_bipush (pc := 58) C dX11_depth_58 kb8 ?_
        refine r_iload_n (pc := 60) C dX11_depth_60 rfl 3 rfl ?_
        refine r_imul (pc := 61) C dX11_depth_61 ?_
        refine r_aload_n (pc := 62) C dX11_depth_62 rfl 0 rfl ?_
        refine r_iload (pc := 63) C dX11_depth_63 4 rfl ?_
        obtain ⟨r_16, hc_15, hr⟩ := gBind_some hr
        refine c_X11_sampleY (pc := 65) C dX11_depth_65 q1739 ⟨Nat.le_of_ble_eq_true rfl, Nat.le_of_ble_eq_true rfl⟩ hc_15 (Nat.le_of_ble_eq_true rfl) ?_
        refine r_iadd (pc := 68) C dX11_depth_68 ?_
        obtain ⟨r_18, hc_17, hr⟩ := gBind_some hr
        refine c_X11_depthAt (pc := 69) C dX11_depth_69 q1751 ⟨Nat.le_of_ble_eq_true rfl, Nat.le_of_ble_eq_true rfl⟩ hc_17 (Nat.le_of_ble_eq_true rfl) ?_
        refine r_goto (pc := 72) (tgt := 76) C dX11_depth_72 rfl ?_
        exact r_iret (pc := 76) CR dX11_depth_76 (congrArg (fun z => some (Value.int z)) (Prod.mk.inj (gSome hr)).1) (Prod.mk.inj (gSome hr)).2
    · replace hr := (if_pos c_7).symm.trans hr
      refine r_iconst (pc := 24) C dX11_depth_24 kim1 ?_
      exact r_iret (pc := 25) CR dX11_depth_25 (congrArg (fun z => some (Value.int z)) (Prod.mk.inj (gSome hr)).1) (Prod.mk.inj (gSome hr)).2
theorem c_X11_depth {Ψ : gM → Nat → List (Nat × Value) → List Value → Prop} {G : gG5} {nf : Nat} {cc : ByteArray} {own : String} {nL : Nat} {ret : Option FieldType} {fr lo : Nat} {v0 : Option Value} {M0 M : gM} {pc index : Nat} {ls : List (Nat × Value)} {st : List Value} (C : gC Ψ G (gXn nf) cc own nL ret fr lo v0 M0) (d : decode cc pc = .ok (.invokevirtual index, 3)) (hl : Cond.methodLink own index yX11_depth ∈ gws) (hR : 4 ≤ fr ∧ 97 ≤ lo) {p1 : Int32} {p2 : Int32} {p3 : Int32} {p4 : Int32} {r : Int32} {M1 : gM} (hr : X11_depth p1 p2 p3 p4 M = some (r, M1)) (hcat : (st.map fun v => v.category).sum ≤ 8) (k : Ψ M1 (pc + 3) ls (.int r :: st)) : Ψ M pc ls (.int p4 :: .int p3 :: .int p2 :: .int p1 :: .ref (gad 50 0) :: st) := r_callV C [.int p1, .int p2, .int p3, .int p4] st d (k_X11_depth hr) hl q1932 q1933 q127 q1934 hd_X11_depth hR rfl (by decide) (e50 nf) rfl hcat k
theorem hd_X11_shade : yX11_shade.cls ≠ "java/lang/invoke/MethodHandle" ∧ yX11_shade.cls ≠ "java/lang/invoke/VarHandle" ∧ (parseMethodDescriptor yX11_shade.desc).map (fun d => d.parameters.length) = some 3 := by decide +kernel
noncomputable def X11_shade (p1 : Int32) (p2 : Int32) (p3 : Int32) (M : gM) : Option (Int32 × gM) := gLet (wI M 50 0 0 0) (fun M_1 => (X11_isTri p1 M_1).bind (fun r_3 => (if r_3 = 0 then some ((-1), M_1) else (X11_isPixel p2 p3 M_1).bind (fun r_6 => (if r_6 = 0 then some ((-1), M_1) else (X11_asks 8 p1 M_1).bind (fun M_9 => (if (M_9.1 50 0 28) = 0 then some ((-1), M_9) else (X11_shadeOf p1 p2 p3 M_9).bind (fun r_12 => some (r_12, M_9)))))))))
theorem k_X11_shade {G : gG5} {nf : Nat} {M : gM} {p1 : Int32} {p2 : Int32} {p3 : Int32} {r : Int32} {M1 : gM} (hr : X11_shade p1 p2 p3 M = some (r, M1)) : gMet G (gXn nf) yX11_shade cX11_shade 4 (some .int) 3 74 M [.ref (gad 50 0), .int p1, .int p2, .int p3] (some (.int r)) M1 := by
  refine gMet_of pl_X11 rfl (Nat.le_of_ble_eq_true rfl) (fun Ψ C CR => ?_)
  show Ψ M 0 [(0, .ref (gad 50 0)), (1, .int p1), (2, .int p2), (3, .int p3)] []
  refine r_aload_n (pc := 0) C dX11_shade_0 rfl 0 rfl ?_
  refine r_iconst (pc := 1) C dX11_shade_1 ki0 ?_
  obtain ⟨M_1, eM_1, hr⟩ := gLet_some hr
  refine p50_0 (pc := 2) C dX11_shade_2 q1400 (e50 nf) eM_1 ?_
  refine r_aload_n (pc := 5) C dX11_shade_5 rfl 0 rfl ?_
  refine r_iload_n (pc := 6) C dX11_shade_6 rfl 1 rfl ?_
  obtain ⟨r_3, hc_2, hr⟩ := gBind_some hr
  refine c_X11_isTri (pc := 7) C dX11_shade_7 q1644 ⟨Nat.le_of_ble_eq_true rfl, Nat.le_of_ble_eq_true rfl⟩ hc_2 (Nat.le_of_ble_eq_true rfl) ?_
  refine r_if_eq (pc := 10) (tgt := 22) C dX11_shade_10 rfl (fun c_4 => ?_) (fun c_4 => ?_)
  · replace hr := (if_pos c_4).symm.trans hr
    refine r_iconst (pc := 22) C dX11_shade_22 kim1 ?_
    exact r_iret (pc := 23) CR dX11_shade_23 (congrArg (fun z => some (Value.int z)) (Prod.mk.inj (gSome hr)).1) (Prod.mk.inj (gSome hr)).2
  · replace hr := (if_neg c_4).symm.trans hr
    refine r_aload_n (pc := 13) C dX11_shade_13 rfl 0 rfl ?_
    refine r_iload_n (pc := 14) C dX11_shade_14 rfl 2 rfl ?_
    refine r_iload_n (pc := 15) C dX11_shade_15 rfl 3 rfl ?_
    obtain ⟨r_6, hc_5, hr⟩ := gBind_some hr
    refine c_X11_isPixel (pc := 16) C dX11_shade_16 q1927 ⟨Nat.le_of_ble_eq_true rfl, Nat.le_of_ble_eq_true rfl⟩ hc_5 (Nat.le_of_ble_eq_true rfl) ?_
    refine r_if_ne (pc := 19) (tgt := 24) C dX11_shade_19 rfl (fun c_7 => ?_) (fun c_7 => ?_)
    · replace hr := (if_neg c_7).symm.trans hr
      refine r_aload_n (pc := 24) C dX11_shade_24 rfl 0 rfl ?_
      refine r_aload_n (pc := 25) C dX11_shade_25 rfl 0 rfl ?_
      refine g50_18 (pc := 26) C dX11_shade_26 q1418 (e50 nf) ?_
      refine r_iload_n (pc := 29) C dX11_shade_29 rfl 1 rfl ?_
      obtain ⟨M_9, hc_8, hr⟩ := gBind_some hr
      refine c_X11_asks (pc := 30) C dX11_shade_30 q1652 ⟨Nat.le_of_ble_eq_true rfl, Nat.le_of_ble_eq_true rfl⟩ (by decide) hc_8 (Nat.le_of_ble_eq_true rfl) ?_
      refine r_aload_n (pc := 33) C dX11_shade_33 rfl 0 rfl ?_
      refine g50_28 (pc := 34) C dX11_shade_34 q1428 (e50 nf) ?_
      refine r_if_ne (pc := 37) (tgt := 44) C dX11_shade_37 rfl (fun c_10 => ?_) (fun c_10 => ?_)
      · replace hr := (if_neg c_10).symm.trans hr
        refine r_aload_n (pc := 44) C dX11_shade_44 rfl 0 rfl ?_
        refine r_iload_n (pc := 45) C dX11_shade_45 rfl 1 rfl ?_
        refine r_iload_n (pc := 46) C dX11_shade_46 rfl 2 rfl ?_
        refine r_iload_n (pc := 47) C dX11_shade_47 rfl 3 rfl ?_
        obtain ⟨r_12, hc_11, hr⟩ := gBind_some hr
        refine c_X11_shadeOf (pc := 48) C dX11_shade_48 q1762 ⟨Nat.le_of_ble_eq_true rfl, Nat.le_of_ble_eq_true rfl⟩ hc_11 (Nat.le_of_ble_eq_true rfl) ?_
        exact r_iret (pc := 51) CR dX11_shade_51 (congrArg (fun z => some (Value.int z)) (Prod.mk.inj (gSome hr)).1) (Prod.mk.inj (gSome hr)).2
      · replace hr := (if_pos c_10).symm.trans hr
        refine r_iconst (pc := 40) C dX11_shade_40 kim1 ?_
        refine r_goto (pc := 41) (tgt := 51) C dX11_shade_41 rfl ?_
        exact r_iret (pc := 51) CR dX11_shade_51 (congrArg (fun z => some (Value.int z)) (Prod.mk.inj (gSome hr)).1) (Prod.mk.inj (gSome hr)).2
    · replace hr := (if_pos c_7).symm.trans hr
      refine r_iconst (pc := 22) C dX11_shade_22 kim1 ?_
      exact r_iret (pc := 23) CR dX11_shade_23 (congrArg (fun z => some (Value.int z)) (Prod.mk.inj (gSome hr)).1) (Prod.mk.inj (gSome hr)).2
theorem c_X11_shade {Ψ : gM → Nat → List (Nat × Value) → List Value → Prop} {G : gG5} {nf : Nat} {cc : ByteArray} {own : String} {nL : Nat} {ret : Option FieldType} {fr lo : Nat} {v0 : Option Value} {M0 M : gM} {pc index : Nat} {ls : List (Nat × Value)} {st : List Value} (C : gC Ψ G (gXn nf) cc own nL ret fr lo v0 M0) (d : decode cc pc = .ok (.invokevirtual index, 3)) (hl : Cond.methodLink own index yX11_shade ∈ gws) (hR : 4 ≤ fr ∧ 97 ≤ lo) {p1 : Int32} {p2 : Int32} {p3 : Int32} {r : Int32} {M1 : gM} (hr : X11_shade p1 p2 p3 M = some (r, M1)) (hcat : (st.map fun v => v.category).sum ≤ 8) (k : Ψ M1 (pc + 3) ls (.int r :: st)) : Ψ M pc ls (.int p3 :: .int p2 :: .int p1 :: .ref (gad 50 0) :: st) := r_callV C [.int p1, .int p2, .int p3] st d (k_X11_shade hr) hl q1940 q1941 q127 q1942 hd_X11_shade hR rfl (by decide) (e50 nf) rfl hcat k
theorem hd_X11_sample : yX11_sample.cls ≠ "java/lang/invoke/MethodHandle" ∧ yX11_sample.cls ≠ "java/lang/invoke/VarHandle" ∧ (parseMethodDescriptor yX11_sample.desc).map (fun d => d.parameters.length) = some 4 := by decide +kernel
noncomputable def X11_sample (p1 : Int32) (p2 : Int32) (p3 : Int32) (p4 : Int32) (M : gM) : Option (Int32 × gM) := gLet (wI M 50 0 0 0) (fun M_1 => (X11_isSample p1 p2 p3 M_1).bind (fun r_3 => (if r_3 = 0 then some ((-1000000000), M_1) else (X11_isIn (Int32.toInt64 p4) 0 2 M_1).bind (fun r_6 => (if r_6 = 0 then some ((-1000000000), M_1) else (X11_place p1 p2 p3 M_1).bind (fun r_9 => gG (gin ((256 * p4) + r_9) 1242) (some ((M_1.1 52 8 (Int32.toNatClampNeg ((256 * p4) + r_9))), M_1))))))))
theorem k_X11_sample {G : gG5} {nf : Nat} {M : gM} {p1 : Int32} {p2 : Int32} {p3 : Int32} {p4 : Int32} {r : Int32} {M1 : gM} (hr : X11_sample p1 p2 p3 p4 M = some (r, M1)) : gMet G (gXn nf) yX11_sample cX11_sample 5 (some .int) 3 70 M [.ref (gad 50 0), .int p1, .int p2, .int p3, .int p4] (some (.int r)) M1 := by
  refine gMet_of pl_X11 rfl (Nat.le_of_ble_eq_true rfl) (fun Ψ C CR => ?_)
  show Ψ M 0 [(0, .ref (gad 50 0)), (1, .int p1), (2, .int p2), (3, .int p3), (4, .int p4)] []
  refine r_aload_n (pc := 0) C dX11_sample_0 rfl 0 rfl ?_
  refine r_iconst (pc := 1) C dX11_sample_1 ki0 ?_
  obtain ⟨M_1, eM_1, hr⟩ := gLet_some hr
  refine p50_0 (pc := 2) C dX11_sample_2 q1400 (e50 nf) eM_1 ?_
  refine r_aload_n (pc := 5) C dX11_sample_5 rfl 0 rfl ?_
  refine r_iload_n (pc := 6) C dX11_sample_6 rfl 1 rfl ?_
  refine r_iload_n (pc := 7) C dX11_sample_7 rfl 2 rfl ?_
  refine r_iload_n (pc := 8) C dX11_sample_8 rfl 3 rfl ?_
  obtain ⟨r_3, hc_2, hr⟩ := gBind_some hr
  refine c_X11_isSample (pc := 9) C dX11_sample_9 q1935 ⟨Nat.le_of_ble_eq_true rfl, Nat.le_of_ble_eq_true rfl⟩ hc_2 (Nat.le_of_ble_eq_true rfl) ?_
  refine r_if_eq (pc := 12) (tgt := 28) C dX11_sample_12 rfl (fun c_4 => ?_) (fun c_4 => ?_)
  · replace hr := (if_pos c_4).symm.trans hr
    refine r_ldc (pc := 28) C dX11_sample_28 q1626 ?_
    exact r_iret (pc := 30) CR dX11_sample_30 (congrArg (fun z => some (Value.int z)) (Prod.mk.inj (gSome hr)).1) (Prod.mk.inj (gSome hr)).2
  · replace hr := (if_neg c_4).symm.trans hr
    refine r_iload (pc := 15) C dX11_sample_15 4 rfl ?_
    refine r_i2l (pc := 17) C dX11_sample_17 ?_
    refine r_lconst (pc := 18) (v := 0) C dX11_sample_18 rfl ?_
    refine r_ldc2 (pc := 19) C dX11_sample_19 q1607 ?_
    obtain ⟨r_6, hc_5, hr⟩ := gBind_some hr
    refine c_X11_isIn (pc := 22) C dX11_sample_22 q1538 ⟨Nat.le_of_ble_eq_true rfl, Nat.le_of_ble_eq_true rfl⟩ hc_5 (Nat.le_of_ble_eq_true rfl) ?_
    refine r_if_ne (pc := 25) (tgt := 31) C dX11_sample_25 rfl (fun c_7 => ?_) (fun c_7 => ?_)
    · replace hr := (if_neg c_7).symm.trans hr
      refine r_aload_n (pc := 31) C dX11_sample_31 rfl 0 rfl ?_
      refine g50_18 (pc := 32) C dX11_sample_32 q1418 (e50 nf) ?_
      refine r_sipush (pc := 35) C dX11_sample_35 ks256 ?_
      refine r_iload (pc := 38) C dX11_sample_38 4 rfl ?_
      refine r_imul (pc := 40) C dX11_sample_40 ?_
      refine r_iload_n (pc := 41) C dX11_sample_41 rfl 1 rfl ?_
      refine r_iload_n (pc := 42) C dX11_sample_42 rfl 2 rfl ?_
      refine r_iload_n (pc := 43) C dX11_sample_43 rfl 3 rfl ?_
      obtain ⟨r_9, hc_8, hr⟩ := gBind_some hr
      refine c_X11_place (pc := 44) C dX11_sample_44 q1725 ⟨Nat.le_of_ble_eq_true rfl, Nat.le_of_ble_eq_true rfl⟩ hc_8 (Nat.le_of_ble_eq_true rfl) ?_
      refine r_iadd (pc := 47) C dX11_sample_47 ?_
      obtain ⟨g_10, hr⟩ := gG_some hr
      refine r_ialdN (pc := 48) C dX11_sample_48 rfl (e52 (nf := nf) (by decide)) g_10 rfl ?_
      exact r_iret (pc := 49) CR dX11_sample_49 (congrArg (fun z => some (Value.int z)) (Prod.mk.inj (gSome hr)).1) (Prod.mk.inj (gSome hr)).2
    · replace hr := (if_pos c_7).symm.trans hr
      refine r_ldc (pc := 28) C dX11_sample_28 q1626 ?_
      exact r_iret (pc := 30) CR dX11_sample_30 (congrArg (fun z => some (Value.int z)) (Prod.mk.inj (gSome hr)).1) (Prod.mk.inj (gSome hr)).2
theorem c_X11_sample {Ψ : gM → Nat → List (Nat × Value) → List Value → Prop} {G : gG5} {nf : Nat} {cc : ByteArray} {own : String} {nL : Nat} {ret : Option FieldType} {fr lo : Nat} {v0 : Option Value} {M0 M : gM} {pc index : Nat} {ls : List (Nat × Value)} {st : List Value} (C : gC Ψ G (gXn nf) cc own nL ret fr lo v0 M0) (d : decode cc pc = .ok (.invokevirtual index, 3)) (hl : Cond.methodLink own index yX11_sample ∈ gws) (hR : 4 ≤ fr ∧ 94 ≤ lo) {p1 : Int32} {p2 : Int32} {p3 : Int32} {p4 : Int32} {r : Int32} {M1 : gM} (hr : X11_sample p1 p2 p3 p4 M = some (r, M1)) (hcat : (st.map fun v => v.category).sum ≤ 8) (k : Ψ M1 (pc + 3) ls (.int r :: st)) : Ψ M pc ls (.int p4 :: .int p3 :: .int p2 :: .int p1 :: .ref (gad 50 0) :: st) := r_callV C [.int p1, .int p2, .int p3, .int p4] st d (k_X11_sample hr) hl q1944 q1945 q127 q1946 hd_X11_sample hR rfl (by decide) (e50 nf) rfl hcat k
theorem hd_X11_pixel : yX11_pixel.cls ≠ "java/lang/invoke/MethodHandle" ∧ yX11_pixel.cls ≠ "java/lang/invoke/VarHandle" ∧ (parseMethodDescriptor yX11_pixel.desc).map (fun d => d.parameters.length) = some 2 := by decide +kernel
noncomputable def X11_pixel (p1 : Int32) (p2 : Int32) (M : gM) : Option (Int32 × gM) := gLet (wI M 50 0 0 0) (fun M_1 => (X11_isPixel p1 p2 M_1).bind (fun r_3 => (if r_3 = 0 then some ((-1), M_1) else (X11_resolved 8 p1 p2 M_1).bind (fun r_6 => some (r_6, M_1)))))
theorem k_X11_pixel {G : gG5} {nf : Nat} {M : gM} {p1 : Int32} {p2 : Int32} {r : Int32} {M1 : gM} (hr : X11_pixel p1 p2 M = some (r, M1)) : gMet G (gXn nf) yX11_pixel cX11_pixel 3 (some .int) 2 47 M [.ref (gad 50 0), .int p1, .int p2] (some (.int r)) M1 := by
  refine gMet_of pl_X11 rfl (Nat.le_of_ble_eq_true rfl) (fun Ψ C CR => ?_)
  show Ψ M 0 [(0, .ref (gad 50 0)), (1, .int p1), (2, .int p2)] []
  refine r_aload_n (pc := 0) C dX11_pixel_0 rfl 0 rfl ?_
  refine r_iconst (pc := 1) C dX11_pixel_1 ki0 ?_
  obtain ⟨M_1, eM_1, hr⟩ := gLet_some hr
  refine p50_0 (pc := 2) C dX11_pixel_2 q1400 (e50 nf) eM_1 ?_
  refine r_aload_n (pc := 5) C dX11_pixel_5 rfl 0 rfl ?_
  refine r_iload_n (pc := 6) C dX11_pixel_6 rfl 1 rfl ?_
  refine r_iload_n (pc := 7) C dX11_pixel_7 rfl 2 rfl ?_
  obtain ⟨r_3, hc_2, hr⟩ := gBind_some hr
  refine c_X11_isPixel (pc := 8) C dX11_pixel_8 q1927 ⟨Nat.le_of_ble_eq_true rfl, Nat.le_of_ble_eq_true rfl⟩ hc_2 (Nat.le_of_ble_eq_true rfl) ?_
  refine r_if_eq (pc := 11) (tgt := 27) C dX11_pixel_11 rfl (fun c_4 => ?_) (fun c_4 => ?_)
  · replace hr := (if_pos c_4).symm.trans hr
    refine r_iconst (pc := 27) C dX11_pixel_27 kim1 ?_
    exact r_iret (pc := 28) CR dX11_pixel_28 (congrArg (fun z => some (Value.int z)) (Prod.mk.inj (gSome hr)).1) (Prod.mk.inj (gSome hr)).2
  · replace hr := (if_neg c_4).symm.trans hr
    refine r_aload_n (pc := 14) C dX11_pixel_14 rfl 0 rfl ?_
    refine r_aload_n (pc := 15) C dX11_pixel_15 rfl 0 rfl ?_
    refine g50_18 (pc := 16) C dX11_pixel_16 q1418 (e50 nf) ?_
    refine r_iload_n (pc := 19) C dX11_pixel_19 rfl 1 rfl ?_
    refine r_iload_n (pc := 20) C dX11_pixel_20 rfl 2 rfl ?_
    obtain ⟨r_6, hc_5, hr⟩ := gBind_some hr
    refine c_X11_resolved (pc := 21) C dX11_pixel_21 q1951 ⟨Nat.le_of_ble_eq_true rfl, Nat.le_of_ble_eq_true rfl⟩ (by decide) hc_5 (Nat.le_of_ble_eq_true rfl) ?_
    refine r_goto (pc := 24) (tgt := 28) C dX11_pixel_24 rfl ?_
    exact r_iret (pc := 28) CR dX11_pixel_28 (congrArg (fun z => some (Value.int z)) (Prod.mk.inj (gSome hr)).1) (Prod.mk.inj (gSome hr)).2
theorem c_X11_pixel {Ψ : gM → Nat → List (Nat × Value) → List Value → Prop} {G : gG5} {nf : Nat} {cc : ByteArray} {own : String} {nL : Nat} {ret : Option FieldType} {fr lo : Nat} {v0 : Option Value} {M0 M : gM} {pc index : Nat} {ls : List (Nat × Value)} {st : List Value} (C : gC Ψ G (gXn nf) cc own nL ret fr lo v0 M0) (d : decode cc pc = .ok (.invokevirtual index, 3)) (hl : Cond.methodLink own index yX11_pixel ∈ gws) (hR : 3 ≤ fr ∧ 69 ≤ lo) {p1 : Int32} {p2 : Int32} {r : Int32} {M1 : gM} (hr : X11_pixel p1 p2 M = some (r, M1)) (hcat : (st.map fun v => v.category).sum ≤ 8) (k : Ψ M1 (pc + 3) ls (.int r :: st)) : Ψ M pc ls (.int p2 :: .int p1 :: .ref (gad 50 0) :: st) := r_callV C [.int p1, .int p2] st d (k_X11_pixel hr) hl q1948 q1949 q127 q1950 hd_X11_pixel hR rfl (by decide) (e50 nf) rfl hcat k
theorem hd_X11_tile : yX11_tile.cls ≠ "java/lang/invoke/MethodHandle" ∧ yX11_tile.cls ≠ "java/lang/invoke/VarHandle" ∧ (parseMethodDescriptor yX11_tile.desc).map (fun d => d.parameters.length) = some 2 := by decide +kernel
noncomputable def X11_tile (p1 : Int32) (p2 : Int32) (M : gM) : Option (Int32 × gM) := gLet (wI M 50 0 0 0) (fun M_1 => (X11_isTile p1 M_1).bind (fun r_3 => (if r_3 = 0 then some ((-1), M_1) else (X11_isIn (Int32.toInt64 p2) 0 4 M_1).bind (fun r_6 => (if r_6 = 0 then some ((-1), M_1) else (if p2 = 0 then gG (gin (768 + (11 * p1)) 1242) (some ((M_1.1 52 8 (Int32.toNatClampNeg (768 + (11 * p1)))), M_1)) else if p2 = 1 then (X11_depthOf 8 p1 1 M_1).bind (fun r_11 => some (r_11, M_1)) else if p2 = 2 then (X11_depthOf 8 p1 0 M_1).bind (fun r_13 => some (r_13, M_1)) else if p2 = 3 then (X11_pendingIn 8 p1 M_1).bind (fun r_15 => some (r_15, M_1)) else (X11_rightOf p1 M_1).bind (fun r_17 => (X11_leftOf p1 M_1).bind (fun r_19 => (X11_lowOf p1 M_1).bind (fun r_21 => (X11_topOf p1 M_1).bind (fun r_23 => some (((r_17 - r_19) * (r_21 - r_23)), M_1)))))))))))
theorem k_X11_tile {G : gG5} {nf : Nat} {M : gM} {p1 : Int32} {p2 : Int32} {r : Int32} {M1 : gM} (hr : X11_tile p1 p2 M = some (r, M1)) : gMet G (gXn nf) yX11_tile cX11_tile 3 (some .int) 4 91 M [.ref (gad 50 0), .int p1, .int p2] (some (.int r)) M1 := by
  refine gMet_of pl_X11 rfl (Nat.le_of_ble_eq_true rfl) (fun Ψ C CR => ?_)
  show Ψ M 0 [(0, .ref (gad 50 0)), (1, .int p1), (2, .int p2)] []
  refine r_aload_n (pc := 0) C dX11_tile_0 rfl 0 rfl ?_
  refine r_iconst (pc := 1) C dX11_tile_1 ki0 ?_
  obtain ⟨M_1, eM_1, hr⟩ := gLet_some hr
  refine p50_0 (pc := 2) C dX11_tile_2 q1400 (e50 nf) eM_1 ?_
  refine r_aload_n (pc := 5) C dX11_tile_5 rfl 0 rfl ?_
  refine r_iload_n (pc := 6) C dX11_tile_6 rfl 1 rfl ?_
  obtain ⟨r_3, hc_2, hr⟩ := gBind_some hr
  refine c_X11_isTile (pc := 7) C dX11_tile_7 q1791 ⟨Nat.le_of_ble_eq_true rfl, Nat.le_of_ble_eq_true rfl⟩ hc_2 (Nat.le_of_ble_eq_true rfl) ?_
  refine r_if_eq (pc := 10) (tgt := 25) C dX11_tile_10 rfl (fun c_4 => ?_) (fun c_4 => ?_)
  · replace hr := (if_pos c_4).symm.trans hr
    refine r_iconst (pc := 25) C dX11_tile_25 kim1 ?_
    exact r_iret (pc := 26) CR dX11_tile_26 (congrArg (fun z => some (Value.int z)) (Prod.mk.inj (gSome hr)).1) (Prod.mk.inj (gSome hr)).2
  · replace hr := (if_neg c_4).symm.trans hr
    refine r_iload_n (pc := 13) C dX11_tile_13 rfl 2 rfl ?_
    refine r_i2l (pc := 14) C dX11_tile_14 ?_
    refine r_lconst (pc := 15) (v := 0) C dX11_tile_15 rfl ?_
    refine r_ldc2 (pc := 16) C dX11_tile_16 q1608 ?_
    obtain ⟨r_6, hc_5, hr⟩ := gBind_some hr
    refine c_X11_isIn (pc := 19) C dX11_tile_19 q1538 ⟨Nat.le_of_ble_eq_true rfl, Nat.le_of_ble_eq_true rfl⟩ hc_5 (Nat.le_of_ble_eq_true rfl) ?_
    refine r_if_ne (pc := 22) (tgt := 27) C dX11_tile_22 rfl (fun c_7 => ?_) (fun c_7 => ?_)
    · replace hr := (if_neg c_7).symm.trans hr
      refine r_iload_n (pc := 27) C dX11_tile_27 rfl 2 rfl ?_
      by_cases c_8_0 : p2 = 0
      · replace hr := (if_pos c_8_0).symm.trans hr
        refine r_tableIn (pc := 28) (tgt := 60) (off := 32) C dX11_tile_28 0 c_8_0 (by decide) rfl ?_
        refine r_aload_n (pc := 60) C dX11_tile_60 rfl 0 rfl ?_
        refine g50_18 (pc := 61) C dX11_tile_61 q1418 (e50 nf) ?_
        refine r_sipush (pc := 64) C dX11_tile_64 ks768 ?_
        refine r_bipush (pc := 67) C dX11_tile_67 kb11 ?_
        refine r_iload_n (pc := 69) C dX11_tile_69 rfl 1 rfl ?_
        refine r_imul (pc := 70) C dX11_tile_70 ?_
        refine r_iadd (pc := 71) C dX11_tile_71 ?_
        obtain ⟨g_9, hr⟩ := gG_some hr
        refine r_ialdN (pc := 72) C dX11_tile_72 rfl (e52 (nf := nf) (by decide)) g_9 rfl ?_
        exact r_iret (pc := 73) CR dX11_tile_73 (congrArg (fun z => some (Value.int z)) (Prod.mk.inj (gSome hr)).1) (Prod.mk.inj (gSome hr)).2
      replace hr := (if_neg c_8_0).symm.trans hr
      by_cases c_8_1 : p2 = 1
      · replace hr := (if_pos c_8_1).symm.trans hr
        refine r_tableIn (pc := 28) (tgt := 74) (off := 46) C dX11_tile_28 1 c_8_1 (by decide) rfl ?_
        refine r_aload_n (pc := 74) C dX11_tile_74 rfl 0 rfl ?_
        refine r_aload_n (pc := 75) C dX11_tile_75 rfl 0 rfl ?_
        refine g50_18 (pc := 76) C dX11_tile_76 q1418 (e50 nf) ?_
        refine r_iload_n (pc := 79) C dX11_tile_79 rfl 1 rfl ?_
        refine r_iconst (pc := 80) C dX11_tile_80 ki1 ?_
        obtain ⟨r_11, hc_10, hr⟩ := gBind_some hr
        refine c_X11_depthOf (pc := 81) C dX11_tile_81 q1721 ⟨Nat.le_of_ble_eq_true rfl, Nat.le_of_ble_eq_true rfl⟩ (by decide) hc_10 (Nat.le_of_ble_eq_true rfl) ?_
        exact r_iret (pc := 84) CR dX11_tile_84 (congrArg (fun z => some (Value.int z)) (Prod.mk.inj (gSome hr)).1) (Prod.mk.inj (gSome hr)).2
      replace hr := (if_neg c_8_1).symm.trans hr
      by_cases c_8_2 : p2 = 2
      · replace hr := (if_pos c_8_2).symm.trans hr
        refine r_tableIn (pc := 28) (tgt := 85) (off := 57) C dX11_tile_28 2 c_8_2 (by decide) rfl ?_
        refine r_aload_n (pc := 85) C dX11_tile_85 rfl 0 rfl ?_
        refine r_aload_n (pc := 86) C dX11_tile_86 rfl 0 rfl ?_
        refine g50_18 (pc := 87) C dX11_tile_87 q1418 (e50 nf) ?_
        refine r_iload_n (pc := 90) C dX11_tile_90 rfl 1 rfl ?_
        refine r_iconst (pc := 91) C dX11_tile_91 ki0 ?_
        obtain ⟨r_13, hc_12, hr⟩ := gBind_some hr
        refine c_X11_depthOf (pc := 92) C dX11_tile_92 q1721 ⟨Nat.le_of_ble_eq_true rfl, Nat.le_of_ble_eq_true rfl⟩ (by decide) hc_12 (Nat.le_of_ble_eq_true rfl) ?_
        exact r_iret (pc := 95) CR dX11_tile_95 (congrArg (fun z => some (Value.int z)) (Prod.mk.inj (gSome hr)).1) (Prod.mk.inj (gSome hr)).2
      replace hr := (if_neg c_8_2).symm.trans hr
      by_cases c_8_3 : p2 = 3
      · replace hr := (if_pos c_8_3).symm.trans hr
        refine r_tableIn (pc := 28) (tgt := 96) (off := 68) C dX11_tile_28 3 c_8_3 (by decide) rfl ?_
        refine r_aload_n (pc := 96) C dX11_tile_96 rfl 0 rfl ?_
        refine r_aload_n (pc := 97) C dX11_tile_97 rfl 0 rfl ?_
        refine g50_18 (pc := 98) C dX11_tile_98 q1418 (e50 nf) ?_
        refine r_iload_n (pc := 101) C dX11_tile_101 rfl 1 rfl ?_
        obtain ⟨r_15, hc_14, hr⟩ := gBind_some hr
        refine c_X11_pendingIn (pc := 102) C dX11_tile_102 q1795 ⟨Nat.le_of_ble_eq_true rfl, Nat.le_of_ble_eq_true rfl⟩ (by decide) hc_14 (Nat.le_of_ble_eq_true rfl) ?_
        exact r_iret (pc := 105) CR dX11_tile_105 (congrArg (fun z => some (Value.int z)) (Prod.mk.inj (gSome hr)).1) (Prod.mk.inj (gSome hr)).2
      replace hr := (if_neg c_8_3).symm.trans hr
      refine r_tableOut (pc := 28) (tgt := 106) C dX11_tile_28 (fun k h1 h2 => ?_) rfl ?_
      · rcases (show k = 0 ∨ k = 1 ∨ k = 2 ∨ k = 3 by omega) with rfl | rfl | rfl | rfl
        all_goals assumption
      · refine r_aload_n (pc := 106) C dX11_tile_106 rfl 0 rfl ?_
        refine r_iload_n (pc := 107) C dX11_tile_107 rfl 1 rfl ?_
        obtain ⟨r_17, hc_16, hr⟩ := gBind_some hr
        refine c_X11_rightOf (pc := 108) C dX11_tile_108 q1679 ⟨Nat.le_of_ble_eq_true rfl, Nat.le_of_ble_eq_true rfl⟩ hc_16 (Nat.le_of_ble_eq_true rfl) ?_
        refine r_aload_n (pc := 111) C dX11_tile_111 rfl 0 rfl ?_
        refine r_iload_n (pc := 112) C dX11_tile_112 rfl 1 rfl ?_
        obtain ⟨r_19, hc_18, hr⟩ := gBind_some hr
        refine c_X11_leftOf (pc := 113) C dX11_tile_113 q1675 ⟨Nat.le_of_ble_eq_true rfl, Nat.le_of_ble_eq_true rfl⟩ hc_18 (Nat.le_of_ble_eq_true rfl) ?_
        refine r_isub (pc := 116) C dX11_tile_116 ?_
        refine r_aload_n (pc := 117) C dX11_tile_117 rfl 0 rfl ?_
        refine r_iload_n (pc := 118) C dX11_tile_118 rfl 1 rfl ?_
        obtain ⟨r_21, hc_20, hr⟩ := gBind_some hr
        refine c_X11_lowOf (pc := 119) C dX11_tile_119 q1687 ⟨Nat.le_of_ble_eq_true rfl, Nat.le_of_ble_eq_true rfl⟩ hc_20 (Nat.le_of_ble_eq_true rfl) ?_
        refine r_aload_n (pc := 122) C dX11_tile_122 rfl 0 rfl ?_
        refine r_iload_n (pc := 123) C dX11_tile_123 rfl 1 rfl ?_
        obtain ⟨r_23, hc_22, hr⟩ := gBind_some hr
        refine c_X11_topOf (pc := 124) C dX11_tile_124 q1683 ⟨Nat.le_of_ble_eq_true rfl, Nat.le_of_ble_eq_true rfl⟩ hc_22 (Nat.le_of_ble_eq_true rfl) ?_
        refine r_isub (pc := 127) C dX11_tile_127 ?_
        refine r_imul (pc := 128) C dX11_tile_128 ?_
        exact r_iret (pc := 129) CR dX11_tile_129 (congrArg (fun z => some (Value.int z)) (Prod.mk.inj (gSome hr)).1) (Prod.mk.inj (gSome hr)).2
    · replace hr := (if_pos c_7).symm.trans hr
      refine r_iconst (pc := 25) C dX11_tile_25 kim1 ?_
      exact r_iret (pc := 26) CR dX11_tile_26 (congrArg (fun z => some (Value.int z)) (Prod.mk.inj (gSome hr)).1) (Prod.mk.inj (gSome hr)).2
theorem c_X11_tile {Ψ : gM → Nat → List (Nat × Value) → List Value → Prop} {G : gG5} {nf : Nat} {cc : ByteArray} {own : String} {nL : Nat} {ret : Option FieldType} {fr lo : Nat} {v0 : Option Value} {M0 M : gM} {pc index : Nat} {ls : List (Nat × Value)} {st : List Value} (C : gC Ψ G (gXn nf) cc own nL ret fr lo v0 M0) (d : decode cc pc = .ok (.invokevirtual index, 3)) (hl : Cond.methodLink own index yX11_tile ∈ gws) (hR : 5 ≤ fr ∧ 113 ≤ lo) {p1 : Int32} {p2 : Int32} {r : Int32} {M1 : gM} (hr : X11_tile p1 p2 M = some (r, M1)) (hcat : (st.map fun v => v.category).sum ≤ 8) (k : Ψ M1 (pc + 3) ls (.int r :: st)) : Ψ M pc ls (.int p2 :: .int p1 :: .ref (gad 50 0) :: st) := r_callV C [.int p1, .int p2] st d (k_X11_tile hr) hl q1956 q1957 q127 q1958 hd_X11_tile hR rfl (by decide) (e50 nf) rfl hcat k
theorem hd_X11_bin : yX11_bin.cls ≠ "java/lang/invoke/MethodHandle" ∧ yX11_bin.cls ≠ "java/lang/invoke/VarHandle" ∧ (parseMethodDescriptor yX11_bin.desc).map (fun d => d.parameters.length) = some 2 := by decide +kernel
noncomputable def X11_bin (p1 : Int32) (p2 : Int32) (M : gM) : Option (Int32 × gM) := gLet (wI M 50 0 0 0) (fun M_1 => (X11_isTile p1 M_1).bind (fun r_3 => (if r_3 = 0 then some ((-1), M_1) else (if p2 < 0 then some ((-1), M_1) else gG (gin (768 + (11 * p1)) 1242) ((if (M_1.1 52 8 (Int32.toNatClampNeg (768 + (11 * p1)))) ≤ p2 then some ((-1), M_1) else gG (gin (((768 + (11 * p1)) + 1) + p2) 1242) (some ((M_1.1 52 8 (Int32.toNatClampNeg (((768 + (11 * p1)) + 1) + p2))), M_1))))))))
theorem k_X11_bin {G : gG5} {nf : Nat} {M : gM} {p1 : Int32} {p2 : Int32} {r : Int32} {M1 : gM} (hr : X11_bin p1 p2 M = some (r, M1)) : gMet G (gXn nf) yX11_bin cX11_bin 3 (some .int) 3 61 M [.ref (gad 50 0), .int p1, .int p2] (some (.int r)) M1 := by
  refine gMet_of pl_X11 rfl (Nat.le_of_ble_eq_true rfl) (fun Ψ C CR => ?_)
  show Ψ M 0 [(0, .ref (gad 50 0)), (1, .int p1), (2, .int p2)] []
  refine r_aload_n (pc := 0) C dX11_bin_0 rfl 0 rfl ?_
  refine r_iconst (pc := 1) C dX11_bin_1 ki0 ?_
  obtain ⟨M_1, eM_1, hr⟩ := gLet_some hr
  refine p50_0 (pc := 2) C dX11_bin_2 q1400 (e50 nf) eM_1 ?_
  refine r_aload_n (pc := 5) C dX11_bin_5 rfl 0 rfl ?_
  refine r_iload_n (pc := 6) C dX11_bin_6 rfl 1 rfl ?_
  obtain ⟨r_3, hc_2, hr⟩ := gBind_some hr
  refine c_X11_isTile (pc := 7) C dX11_bin_7 q1791 ⟨Nat.le_of_ble_eq_true rfl, Nat.le_of_ble_eq_true rfl⟩ hc_2 (Nat.le_of_ble_eq_true rfl) ?_
  refine r_if_eq (pc := 10) (tgt := 54) C dX11_bin_10 rfl (fun c_4 => ?_) (fun c_4 => ?_)
  · replace hr := (if_pos c_4).symm.trans hr
    refine r_iconst (pc := 54) C dX11_bin_54 kim1 ?_
    exact r_iret (pc := 55) CR dX11_bin_55 (congrArg (fun z => some (Value.int z)) (Prod.mk.inj (gSome hr)).1) (Prod.mk.inj (gSome hr)).2
  · replace hr := (if_neg c_4).symm.trans hr
    refine r_iload_n (pc := 13) C dX11_bin_13 rfl 2 rfl ?_
    refine r_if_lt (pc := 14) (tgt := 54) C dX11_bin_14 rfl (fun c_5 => ?_) (fun c_5 => ?_)
    · replace hr := (if_pos c_5).symm.trans hr
      refine r_iconst (pc := 54) C dX11_bin_54 kim1 ?_
      exact r_iret (pc := 55) CR dX11_bin_55 (congrArg (fun z => some (Value.int z)) (Prod.mk.inj (gSome hr)).1) (Prod.mk.inj (gSome hr)).2
    · replace hr := (if_neg c_5).symm.trans hr
      refine r_iload_n (pc := 17) C dX11_bin_17 rfl 2 rfl ?_
      refine r_aload_n (pc := 18) C dX11_bin_18 rfl 0 rfl ?_
      refine g50_18 (pc := 19) C dX11_bin_19 q1418 (e50 nf) ?_
      refine r_sipush (pc := 22) C dX11_bin_22 ks768 ?_
      refine r_bipush (pc := 25) C dX11_bin_25 kb11 ?_
      refine r_iload_n (pc := 27) C dX11_bin_27 rfl 1 rfl ?_
      refine r_imul (pc := 28) C dX11_bin_28 ?_
      refine r_iadd (pc := 29) C dX11_bin_29 ?_
      obtain ⟨g_6, hr⟩ := gG_some hr
      refine r_ialdN (pc := 30) C dX11_bin_30 rfl (e52 (nf := nf) (by decide)) g_6 rfl ?_
      refine r_icmp_ge (pc := 31) (tgt := 54) C dX11_bin_31 rfl (fun c_7 => ?_) (fun c_7 => ?_)
      · replace hr := (if_pos c_7).symm.trans hr
        refine r_iconst (pc := 54) C dX11_bin_54 kim1 ?_
        exact r_iret (pc := 55) CR dX11_bin_55 (congrArg (fun z => some (Value.int z)) (Prod.mk.inj (gSome hr)).1) (Prod.mk.inj (gSome hr)).2
      · replace hr := (if_neg c_7).symm.trans hr
        refine r_aload_n (pc := 34) C dX11_bin_34 rfl 0 rfl ?_
        refine g50_18 (pc := 35) C dX11_bin_35 q1418 (e50 nf) ?_
        refine r_sipush (pc := 38) C dX11_bin_38 ks768 ?_
        refine r_bipush (pc := 41) C dX11_bin_41 kb11 ?_
        refine r_iload_n (pc := 43) C dX11_bin_43 rfl 1 rfl ?_
        refine r_imul (pc := 44) C dX11_bin_44 ?_
        refine r_iadd (pc := 45) C dX11_bin_45 ?_
        refine r_iconst (pc := 46) C dX11_bin_46 ki1 ?_
        refine r_iadd (pc := 47) C dX11_bin_47 ?_
        refine r_iload_n (pc := 48) C dX11_bin_48 rfl 2 rfl ?_
        refine r_iadd (pc := 49) C dX11_bin_49 ?_
        obtain ⟨g_8, hr⟩ := gG_some hr
        refine r_ialdN (pc := 50) C dX11_bin_50 rfl (e52 (nf := nf) (by decide)) g_8 rfl ?_
        refine r_goto (pc := 51) (tgt := 55) C dX11_bin_51 rfl ?_
        exact r_iret (pc := 55) CR dX11_bin_55 (congrArg (fun z => some (Value.int z)) (Prod.mk.inj (gSome hr)).1) (Prod.mk.inj (gSome hr)).2
theorem c_X11_bin {Ψ : gM → Nat → List (Nat × Value) → List Value → Prop} {G : gG5} {nf : Nat} {cc : ByteArray} {own : String} {nL : Nat} {ret : Option FieldType} {fr lo : Nat} {v0 : Option Value} {M0 M : gM} {pc index : Nat} {ls : List (Nat × Value)} {st : List Value} (C : gC Ψ G (gXn nf) cc own nL ret fr lo v0 M0) (d : decode cc pc = .ok (.invokevirtual index, 3)) (hl : Cond.methodLink own index yX11_bin ∈ gws) (hR : 4 ≤ fr ∧ 83 ≤ lo) {p1 : Int32} {p2 : Int32} {r : Int32} {M1 : gM} (hr : X11_bin p1 p2 M = some (r, M1)) (hcat : (st.map fun v => v.category).sum ≤ 8) (k : Ψ M1 (pc + 3) ls (.int r :: st)) : Ψ M pc ls (.int p2 :: .int p1 :: .ref (gad 50 0) :: st) := r_callV C [.int p1, .int p2] st d (k_X11_bin hr) hl q1960 q1961 q127 q1962 hd_X11_bin hR rfl (by decide) (e50 nf) rfl hcat k
theorem hd_X11_shaded : yX11_shaded.cls ≠ "java/lang/invoke/MethodHandle" ∧ yX11_shaded.cls ≠ "java/lang/invoke/VarHandle" ∧ (parseMethodDescriptor yX11_shaded.desc).map (fun d => d.parameters.length) = some 1 := by decide +kernel
noncomputable def X11_shaded (p1 : Int32) (M : gM) : Option (Int64 × gM) := gLet (wI M 50 0 0 0) (fun M_1 => (X11_isTri p1 M_1).bind (fun r_3 => (if r_3 = 0 then some (0, M_1) else gG (gin ((1034 + (2 * p1)) + 1) 1242) (gG (gin (1034 + (2 * p1)) 1242) (some ((((Int32.toInt64 (M_1.1 52 8 (Int32.toNatClampNeg ((1034 + (2 * p1)) + 1)))) <<< (Int32.toInt64 32 &&& 63)) ||| ((Int32.toInt64 (M_1.1 52 8 (Int32.toNatClampNeg (1034 + (2 * p1))))) &&& 4294967295)), M_1))))))
theorem k_X11_shaded {G : gG5} {nf : Nat} {M : gM} {p1 : Int32} {r : Int64} {M1 : gM} (hr : X11_shaded p1 M = some (r, M1)) : gMet G (gXn nf) yX11_shaded cX11_shaded 2 (some .long) 1 21 M [.ref (gad 50 0), .int p1] (some (.long r)) M1 := by
  refine gMet_of pl_X11 rfl (Nat.le_of_ble_eq_true rfl) (fun Ψ C CR => ?_)
  show Ψ M 0 [(0, .ref (gad 50 0)), (1, .int p1)] []
  refine r_aload_n (pc := 0) C dX11_shaded_0 rfl 0 rfl ?_
  refine r_iconst (pc := 1) C dX11_shaded_1 ki0 ?_
  obtain ⟨M_1, eM_1, hr⟩ := gLet_some hr
  refine p50_0 (pc := 2) C dX11_shaded_2 q1400 (e50 nf) eM_1 ?_
  refine r_aload_n (pc := 5) C dX11_shaded_5 rfl 0 rfl ?_
  refine r_iload_n (pc := 6) C dX11_shaded_6 rfl 1 rfl ?_
  obtain ⟨r_3, hc_2, hr⟩ := gBind_some hr
  refine c_X11_isTri (pc := 7) C dX11_shaded_7 q1644 ⟨Nat.le_of_ble_eq_true rfl, Nat.le_of_ble_eq_true rfl⟩ hc_2 (Nat.le_of_ble_eq_true rfl) ?_
  refine r_if_ne (pc := 10) (tgt := 15) C dX11_shaded_10 rfl (fun c_4 => ?_) (fun c_4 => ?_)
  · replace hr := (if_neg c_4).symm.trans hr
    refine r_aload_n (pc := 15) C dX11_shaded_15 rfl 0 rfl ?_
    refine g50_18 (pc := 16) C dX11_shaded_16 q1418 (e50 nf) ?_
    refine r_sipush (pc := 19) C dX11_shaded_19 ks1034 ?_
    refine r_iconst (pc := 22) C dX11_shaded_22 ki2 ?_
    refine r_iload_n (pc := 23) C dX11_shaded_23 rfl 1 rfl ?_
    refine r_imul (pc := 24) C dX11_shaded_24 ?_
    refine r_iadd (pc := 25) C dX11_shaded_25 ?_
    refine r_iconst (pc := 26) C dX11_shaded_26 ki1 ?_
    refine r_iadd (pc := 27) C dX11_shaded_27 ?_
    obtain ⟨g_5, hr⟩ := gG_some hr
    refine r_ialdN (pc := 28) C dX11_shaded_28 rfl (e52 (nf := nf) (by decide)) g_5 rfl ?_
    refine r_i2l (pc := 29) C dX11_shaded_29 ?_
    refine r_bipush (pc := 30) C dX11_shaded_30 kb32 ?_
    refine r_lshl (pc := 32) C dX11_shaded_32 ?_
    refine r_aload_n (pc := 33) C dX11_shaded_33 rfl 0 rfl ?_
    refine g50_18 (pc := 34) C dX11_shaded_34 q1418 (e50 nf) ?_
    refine r_sipush (pc := 37) C dX11_shaded_37 ks1034 ?_
    refine r_iconst (pc := 40) C dX11_shaded_40 ki2 ?_
    refine r_iload_n (pc := 41) C dX11_shaded_41 rfl 1 rfl ?_
    refine r_imul (pc := 42) C dX11_shaded_42 ?_
    refine r_iadd (pc := 43) C dX11_shaded_43 ?_
    obtain ⟨g_6, hr⟩ := gG_some hr
    refine r_ialdN (pc := 44) C dX11_shaded_44 rfl (e52 (nf := nf) (by decide)) g_6 rfl ?_
    refine r_i2l (pc := 45) C dX11_shaded_45 ?_
    refine r_ldc2 (pc := 46) C dX11_shaded_46 q1967 ?_
    refine r_land (pc := 49) C dX11_shaded_49 ?_
    refine r_lor (pc := 50) C dX11_shaded_50 ?_
    exact r_lret (pc := 51) CR dX11_shaded_51 (congrArg (fun z => some (Value.long z)) (Prod.mk.inj (gSome hr)).1) (Prod.mk.inj (gSome hr)).2
  · replace hr := (if_pos c_4).symm.trans hr
    refine r_lconst (pc := 13) (v := 0) C dX11_shaded_13 rfl ?_
    exact r_lret (pc := 14) CR dX11_shaded_14 (congrArg (fun z => some (Value.long z)) (Prod.mk.inj (gSome hr)).1) (Prod.mk.inj (gSome hr)).2
theorem c_X11_shaded {Ψ : gM → Nat → List (Nat × Value) → List Value → Prop} {G : gG5} {nf : Nat} {cc : ByteArray} {own : String} {nL : Nat} {ret : Option FieldType} {fr lo : Nat} {v0 : Option Value} {M0 M : gM} {pc index : Nat} {ls : List (Nat × Value)} {st : List Value} (C : gC Ψ G (gXn nf) cc own nL ret fr lo v0 M0) (d : decode cc pc = .ok (.invokevirtual index, 3)) (hl : Cond.methodLink own index yX11_shaded ∈ gws) (hR : 2 ≤ fr ∧ 42 ≤ lo) {p1 : Int32} {r : Int64} {M1 : gM} (hr : X11_shaded p1 M = some (r, M1)) (hcat : (st.map fun v => v.category).sum ≤ 8) (k : Ψ M1 (pc + 3) ls (.long r :: st)) : Ψ M pc ls (.int p1 :: .ref (gad 50 0) :: st) := r_callV C [.int p1] st d (k_X11_shaded hr) hl q1964 q1965 q127 q1966 hd_X11_shaded hR rfl (by decide) (e50 nf) rfl hcat k
theorem hd_X11_step : yX11_step.cls ≠ "java/lang/invoke/MethodHandle" ∧ yX11_step.cls ≠ "java/lang/invoke/VarHandle" ∧ (parseMethodDescriptor yX11_step.desc).map (fun d => d.parameters.length) = some 3 := by decide +kernel
noncomputable def X11_step (p1 : Int32) (p2 : Int32) (p3 : Int32) (M : gM) : Option (Int32 × gM) := gLet (wI M 50 0 0 0) (fun M_1 => (X11_isIn (Int32.toInt64 p1) 0 (Int32.toInt64 ((M_1.1 50 0 17) - 1)) M_1).bind (fun r_3 => (if r_3 = 0 then some ((-1000000000), M_1) else gG (gin p1 5) ((X11_isIn (Int32.toInt64 p2) 0 (Int32.toInt64 ((M_1.1 52 6 (Int32.toNatClampNeg p1)) - 1)) M_1).bind (fun r_7 => (if r_7 = 0 then some ((-1000000000), M_1) else (X11_isIn (Int32.toInt64 p3) 0 4 M_1).bind (fun r_10 => (if r_10 = 0 then some ((-1000000000), M_1) else gG (gin ((5 * ((12 * p1) + p2)) + p3) 300) (some ((M_1.1 52 5 (Int32.toNatClampNeg ((5 * ((12 * p1) + p2)) + p3))), M_1))))))))))
theorem k_X11_step {G : gG5} {nf : Nat} {M : gM} {p1 : Int32} {p2 : Int32} {p3 : Int32} {r : Int32} {M1 : gM} (hr : X11_step p1 p2 p3 M = some (r, M1)) : gMet G (gXn nf) yX11_step cX11_step 4 (some .int) 1 25 M [.ref (gad 50 0), .int p1, .int p2, .int p3] (some (.int r)) M1 := by
  refine gMet_of pl_X11 rfl (Nat.le_of_ble_eq_true rfl) (fun Ψ C CR => ?_)
  show Ψ M 0 [(0, .ref (gad 50 0)), (1, .int p1), (2, .int p2), (3, .int p3)] []
  refine r_aload_n (pc := 0) C dX11_step_0 rfl 0 rfl ?_
  refine r_iconst (pc := 1) C dX11_step_1 ki0 ?_
  obtain ⟨M_1, eM_1, hr⟩ := gLet_some hr
  refine p50_0 (pc := 2) C dX11_step_2 q1400 (e50 nf) eM_1 ?_
  refine r_iload_n (pc := 5) C dX11_step_5 rfl 1 rfl ?_
  refine r_i2l (pc := 6) C dX11_step_6 ?_
  refine r_lconst (pc := 7) (v := 0) C dX11_step_7 rfl ?_
  refine r_aload_n (pc := 8) C dX11_step_8 rfl 0 rfl ?_
  refine g50_17 (pc := 9) C dX11_step_9 q1417 (e50 nf) ?_
  refine r_iconst (pc := 12) C dX11_step_12 ki1 ?_
  refine r_isub (pc := 13) C dX11_step_13 ?_
  refine r_i2l (pc := 14) C dX11_step_14 ?_
  obtain ⟨r_3, hc_2, hr⟩ := gBind_some hr
  refine c_X11_isIn (pc := 15) C dX11_step_15 q1538 ⟨Nat.le_of_ble_eq_true rfl, Nat.le_of_ble_eq_true rfl⟩ hc_2 (Nat.le_of_ble_eq_true rfl) ?_
  refine r_if_eq (pc := 18) (tgt := 51) C dX11_step_18 rfl (fun c_4 => ?_) (fun c_4 => ?_)
  · replace hr := (if_pos c_4).symm.trans hr
    refine r_ldc (pc := 51) C dX11_step_51 q1626 ?_
    exact r_iret (pc := 53) CR dX11_step_53 (congrArg (fun z => some (Value.int z)) (Prod.mk.inj (gSome hr)).1) (Prod.mk.inj (gSome hr)).2
  · replace hr := (if_neg c_4).symm.trans hr
    refine r_iload_n (pc := 21) C dX11_step_21 rfl 2 rfl ?_
    refine r_i2l (pc := 22) C dX11_step_22 ?_
    refine r_lconst (pc := 23) (v := 0) C dX11_step_23 rfl ?_
    refine r_aload_n (pc := 24) C dX11_step_24 rfl 0 rfl ?_
    refine g50_13 (pc := 25) C dX11_step_25 q1413 (e50 nf) ?_
    refine r_iload_n (pc := 28) C dX11_step_28 rfl 1 rfl ?_
    obtain ⟨g_5, hr⟩ := gG_some hr
    refine r_ialdN (pc := 29) C dX11_step_29 rfl (e52 (nf := nf) (by decide)) g_5 rfl ?_
    refine r_iconst (pc := 30) C dX11_step_30 ki1 ?_
    refine r_isub (pc := 31) C dX11_step_31 ?_
    refine r_i2l (pc := 32) C dX11_step_32 ?_
    obtain ⟨r_7, hc_6, hr⟩ := gBind_some hr
    refine c_X11_isIn (pc := 33) C dX11_step_33 q1538 ⟨Nat.le_of_ble_eq_true rfl, Nat.le_of_ble_eq_true rfl⟩ hc_6 (Nat.le_of_ble_eq_true rfl) ?_
    refine r_if_eq (pc := 36) (tgt := 51) C dX11_step_36 rfl (fun c_8 => ?_) (fun c_8 => ?_)
    · replace hr := (if_pos c_8).symm.trans hr
      refine r_ldc (pc := 51) C dX11_step_51 q1626 ?_
      exact r_iret (pc := 53) CR dX11_step_53 (congrArg (fun z => some (Value.int z)) (Prod.mk.inj (gSome hr)).1) (Prod.mk.inj (gSome hr)).2
    · replace hr := (if_neg c_8).symm.trans hr
      refine r_iload_n (pc := 39) C dX11_step_39 rfl 3 rfl ?_
      refine r_i2l (pc := 40) C dX11_step_40 ?_
      refine r_lconst (pc := 41) (v := 0) C dX11_step_41 rfl ?_
      refine r_ldc2 (pc := 42) C dX11_step_42 q1608 ?_
      obtain ⟨r_10, hc_9, hr⟩ := gBind_some hr
      refine c_X11_isIn (pc := 45) C dX11_step_45 q1538 ⟨Nat.le_of_ble_eq_true rfl, Nat.le_of_ble_eq_true rfl⟩ hc_9 (Nat.le_of_ble_eq_true rfl) ?_
      refine r_if_ne (pc := 48) (tgt := 54) C dX11_step_48 rfl (fun c_11 => ?_) (fun c_11 => ?_)
      · replace hr := (if_neg c_11).symm.trans hr
        refine r_aload_n (pc := 54) C dX11_step_54 rfl 0 rfl ?_
        refine g50_12 (pc := 55) C dX11_step_55 q1412 (e50 nf) ?_
        refine r_iconst (pc := 58) C dX11_step_58 ki5 ?_
        refine r_bipush (pc := 59) C dX11_step_59 kb12 ?_
        refine r_iload_n (pc := 61) C dX11_step_61 rfl 1 rfl ?_
        refine r_imul (pc := 62) C dX11_step_62 ?_
        refine r_iload_n (pc := 63) C dX11_step_63 rfl 2 rfl ?_
        refine r_iadd (pc := 64) C dX11_step_64 ?_
        refine r_imul (pc := 65) C dX11_step_65 ?_
        refine r_iload_n (pc := 66) C dX11_step_66 rfl 3 rfl ?_
        refine r_iadd (pc := 67) C dX11_step_67 ?_
        obtain ⟨g_12, hr⟩ := gG_some hr
        refine r_ialdN (pc := 68) C dX11_step_68 rfl (e52 (nf := nf) (by decide)) g_12 rfl ?_
        exact r_iret (pc := 69) CR dX11_step_69 (congrArg (fun z => some (Value.int z)) (Prod.mk.inj (gSome hr)).1) (Prod.mk.inj (gSome hr)).2
      · replace hr := (if_pos c_11).symm.trans hr
        refine r_ldc (pc := 51) C dX11_step_51 q1626 ?_
        exact r_iret (pc := 53) CR dX11_step_53 (congrArg (fun z => some (Value.int z)) (Prod.mk.inj (gSome hr)).1) (Prod.mk.inj (gSome hr)).2
theorem c_X11_step {Ψ : gM → Nat → List (Nat × Value) → List Value → Prop} {G : gG5} {nf : Nat} {cc : ByteArray} {own : String} {nL : Nat} {ret : Option FieldType} {fr lo : Nat} {v0 : Option Value} {M0 M : gM} {pc index : Nat} {ls : List (Nat × Value)} {st : List Value} (C : gC Ψ G (gXn nf) cc own nL ret fr lo v0 M0) (d : decode cc pc = .ok (.invokevirtual index, 3)) (hl : Cond.methodLink own index yX11_step ∈ gws) (hR : 2 ≤ fr ∧ 48 ≤ lo) {p1 : Int32} {p2 : Int32} {p3 : Int32} {r : Int32} {M1 : gM} (hr : X11_step p1 p2 p3 M = some (r, M1)) (hcat : (st.map fun v => v.category).sum ≤ 8) (k : Ψ M1 (pc + 3) ls (.int r :: st)) : Ψ M pc ls (.int p3 :: .int p2 :: .int p1 :: .ref (gad 50 0) :: st) := r_callV C [.int p1, .int p2, .int p3] st d (k_X11_step hr) hl q1969 q1970 q127 q1971 hd_X11_step hR rfl (by decide) (e50 nf) rfl hcat k
theorem hd_X11_stopsStep : yX11_stopsStep.cls ≠ "java/lang/invoke/MethodHandle" ∧ yX11_stopsStep.cls ≠ "java/lang/invoke/VarHandle" ∧ (parseMethodDescriptor yX11_stopsStep.desc).map (fun d => d.parameters.length) = some 2 := by decide +kernel
noncomputable def X11_stopsStep (i1 : Nat) (p2 : Int32) (M : gM) : Option (Int32 × gM) := gG (gin (p2 + 1) 300) (gLet ((M.1 52 5 (Int32.toNatClampNeg (p2 + 1)))) (fun x3_2 => gG (gin p2 300) ((if (M.1 52 5 (Int32.toNatClampNeg p2)) = 0 then (X11_stopsDraw i1 x3_2 M).bind (gU2 (fun r_6 M_7 => some (r_6, M_7))) else if (M.1 52 5 (Int32.toNatClampNeg p2)) = 1 then (X11_stopsFlush i1 x3_2 M).bind (fun r_9 => some (r_9, M)) else if (M.1 52 5 (Int32.toNatClampNeg p2)) = 2 then some ((-1), M) else if (M.1 52 5 (Int32.toNatClampNeg p2)) = 3 then some ((-1), M) else if (M.1 52 5 (Int32.toNatClampNeg p2)) = 4 then gG (gin p2 300) ((X11_stopsRule i1 ((M.1 52 5 (Int32.toNatClampNeg p2)) - 4) x3_2 M).bind (fun r_12 => some (r_12, M))) else if (M.1 52 5 (Int32.toNatClampNeg p2)) = 5 then gG (gin p2 300) ((X11_stopsRule i1 ((M.1 52 5 (Int32.toNatClampNeg p2)) - 4) x3_2 M).bind (fun r_15 => some (r_15, M))) else if (M.1 52 5 (Int32.toNatClampNeg p2)) = 6 then gG (gin p2 300) ((X11_stopsRule i1 ((M.1 52 5 (Int32.toNatClampNeg p2)) - 4) x3_2 M).bind (fun r_18 => some (r_18, M))) else if (M.1 52 5 (Int32.toNatClampNeg p2)) = 7 then gG (gin p2 300) ((X11_stopsRule i1 ((M.1 52 5 (Int32.toNatClampNeg p2)) - 4) x3_2 M).bind (fun r_21 => some (r_21, M))) else if (M.1 52 5 (Int32.toNatClampNeg p2)) = 8 then gG (gin (p2 + 2) 300) (gG (gin (p2 + 3) 300) (gG (gin (p2 + 4) 300) ((X11_stopsMove i1 x3_2 (M.1 52 5 (Int32.toNatClampNeg (p2 + 2))) (M.1 52 5 (Int32.toNatClampNeg (p2 + 3))) (M.1 52 5 (Int32.toNatClampNeg (p2 + 4))) M).bind (fun r_26 => some (r_26, M))))) else gG (gin p2 300) ((X11_stopsRule i1 ((M.1 52 5 (Int32.toNatClampNeg p2)) - 4) x3_2 M).bind (fun r_29 => some (r_29, M)))))))
theorem k_X11_stopsStep {G : gG5} {nf : Nat} {M : gM} {i1 : Nat} {p2 : Int32} (h1 : i1 < 20) {r : Int32} {M1 : gM} (hr : X11_stopsStep i1 p2 M = some (r, M1)) : gMet G (gXn nf) yX11_stopsStep cX11_stopsStep 4 (some .int) 6 135 M [.ref (gad 50 0), .ref (gad 52 i1), .int p2] (some (.int r)) M1 := by
  refine gMet_of pl_X11 rfl (Nat.le_of_ble_eq_true rfl) (fun Ψ C CR => ?_)
  show Ψ M 0 [(0, .ref (gad 50 0)), (1, .ref (gad 52 i1)), (2, .int p2)] []
  refine r_aload_n (pc := 0) C dX11_stopsStep_0 rfl 0 rfl ?_
  refine g50_12 (pc := 1) C dX11_stopsStep_1 q1412 (e50 nf) ?_
  refine r_iload_n (pc := 4) C dX11_stopsStep_4 rfl 2 rfl ?_
  refine r_iconst (pc := 5) C dX11_stopsStep_5 ki1 ?_
  refine r_iadd (pc := 6) C dX11_stopsStep_6 ?_
  obtain ⟨g_1, hr⟩ := gG_some hr
  refine r_ialdN (pc := 7) C dX11_stopsStep_7 rfl (e52 (nf := nf) (by decide)) g_1 rfl ?_
  obtain ⟨x3_2, ex3_2, hr⟩ := gLet_some hr
  refine r_istore_n (pc := 8) C dX11_stopsStep_8 rfl (by decide) ex3_2 (ls' := [(3, .int x3_2), (0, .ref (gad 50 0)), (1, .ref (gad 52 i1)), (2, .int p2)]) rfl ?_
  refine r_aload_n (pc := 9) C dX11_stopsStep_9 rfl 1 rfl ?_
  refine g50_12 (pc := 10) C dX11_stopsStep_10 q1412 (e50 nf) ?_
  refine r_iload_n (pc := 13) C dX11_stopsStep_13 rfl 3 rfl ?_
  obtain ⟨g_3, hr⟩ := gG_some hr
  refine r_ialdN (pc := 14) C dX11_stopsStep_14 rfl (e52 (nf := nf) (by decide)) g_3 rfl ?_
  by_cases c_4_0 : (M.1 52 5 (Int32.toNatClampNeg p2)) = 0
  · replace hr := (if_pos c_4_0).symm.trans hr
    refine r_tableIn (pc := 15) (tgt := 64) (off := 49) C dX11_stopsStep_15 0 c_4_0 (by decide) rfl ?_
    refine r_aload_n (pc := 64) C dX11_stopsStep_64 rfl 1 rfl ?_
    refine r_aload_n (pc := 65) C dX11_stopsStep_65 rfl 2 rfl ?_
    refine r_iload_n (pc := 66) C dX11_stopsStep_66 rfl 0 rfl ?_
    obtain ⟨⟨r_6, M_7⟩, hc_5, hr⟩ := gBind_some hr
    replace hr := gU2_some hr
    refine c_X11_stopsDraw (pc := 67) C dX11_stopsStep_67 q1640 ⟨Nat.le_of_ble_eq_true rfl, Nat.le_of_ble_eq_true rfl⟩ h1 hc_5 (Nat.le_of_ble_eq_true rfl) ?_
    exact r_iret (pc := 70) CR dX11_stopsStep_70 (congrArg (fun z => some (Value.int z)) (Prod.mk.inj (gSome hr)).1) (Prod.mk.inj (gSome hr)).2
  replace hr := (if_neg c_4_0).symm.trans hr
  by_cases c_4_1 : (M.1 52 5 (Int32.toNatClampNeg p2)) = 1
  · replace hr := (if_pos c_4_1).symm.trans hr
    refine r_tableIn (pc := 15) (tgt := 71) (off := 56) C dX11_stopsStep_15 1 c_4_1 (by decide) rfl ?_
    refine r_aload_n (pc := 71) C dX11_stopsStep_71 rfl 1 rfl ?_
    refine r_aload_n (pc := 72) C dX11_stopsStep_72 rfl 2 rfl ?_
    refine r_iload_n (pc := 73) C dX11_stopsStep_73 rfl 0 rfl ?_
    obtain ⟨r_9, hc_8, hr⟩ := gBind_some hr
    refine c_X11_stopsFlush (pc := 74) C dX11_stopsStep_74 q1787 ⟨Nat.le_of_ble_eq_true rfl, Nat.le_of_ble_eq_true rfl⟩ h1 hc_8 (Nat.le_of_ble_eq_true rfl) ?_
    exact r_iret (pc := 77) CR dX11_stopsStep_77 (congrArg (fun z => some (Value.int z)) (Prod.mk.inj (gSome hr)).1) (Prod.mk.inj (gSome hr)).2
  replace hr := (if_neg c_4_1).symm.trans hr
  by_cases c_4_2 : (M.1 52 5 (Int32.toNatClampNeg p2)) = 2
  · replace hr := (if_pos c_4_2).symm.trans hr
    refine r_tableIn (pc := 15) (tgt := 78) (off := 63) C dX11_stopsStep_15 2 c_4_2 (by decide) rfl ?_
    refine r_iconst (pc := 78) C dX11_stopsStep_78 kim1 ?_
    exact r_iret (pc := 79) CR dX11_stopsStep_79 (congrArg (fun z => some (Value.int z)) (Prod.mk.inj (gSome hr)).1) (Prod.mk.inj (gSome hr)).2
  replace hr := (if_neg c_4_2).symm.trans hr
  by_cases c_4_3 : (M.1 52 5 (Int32.toNatClampNeg p2)) = 3
  · replace hr := (if_pos c_4_3).symm.trans hr
    refine r_tableIn (pc := 15) (tgt := 78) (off := 63) C dX11_stopsStep_15 3 c_4_3 (by decide) rfl ?_
    refine r_iconst (pc := 78) C dX11_stopsStep_78 kim1 ?_
    exact r_iret (pc := 79) CR dX11_stopsStep_79 (congrArg (fun z => some (Value.int z)) (Prod.mk.inj (gSome hr)).1) (Prod.mk.inj (gSome hr)).2
  replace hr := (if_neg c_4_3).symm.trans hr
  by_cases c_4_4 : (M.1 52 5 (Int32.toNatClampNeg p2)) = 4
  · replace hr := (if_pos c_4_4).symm.trans hr
    refine r_tableIn (pc := 15) (tgt := 111) (off := 96) C dX11_stopsStep_15 4 c_4_4 (by decide) rfl ?_
    refine r_aload_n (pc := 111) C dX11_stopsStep_111 rfl 1 rfl ?_
    refine r_aload_n (pc := 112) C dX11_stopsStep_112 rfl 2 rfl ?_
    refine r_aload_n (pc := 113) C dX11_stopsStep_113 rfl 1 rfl ?_
    refine g50_12 (pc := 114) C dX11_stopsStep_114 q1412 (e50 nf) ?_
    refine r_iload_n (pc := 117) C dX11_stopsStep_117 rfl 3 rfl ?_
    obtain ⟨g_10, hr⟩ := gG_some hr
    refine r_ialdN (pc := 118) C dX11_stopsStep_118 rfl (e52 (nf := nf) (by decide)) g_10 rfl ?_
    refine r_iconst (pc := 119) C dX11_stopsStep_119 ki4 ?_
    refine r_isub (pc := 120) C dX11_stopsStep_120 ?_
    refine r_iload_n (pc := 121) C dX11_stopsStep_121 rfl 0 rfl ?_
    obtain ⟨r_12, hc_11, hr⟩ := gBind_some hr
    refine c_X11_stopsRule (pc := 122) C dX11_stopsStep_122 q1819 ⟨Nat.le_of_ble_eq_true rfl, Nat.le_of_ble_eq_true rfl⟩ h1 hc_11 (Nat.le_of_ble_eq_true rfl) ?_
    exact r_iret (pc := 125) CR dX11_stopsStep_125 (congrArg (fun z => some (Value.int z)) (Prod.mk.inj (gSome hr)).1) (Prod.mk.inj (gSome hr)).2
  replace hr := (if_neg c_4_4).symm.trans hr
  by_cases c_4_5 : (M.1 52 5 (Int32.toNatClampNeg p2)) = 5
  · replace hr := (if_pos c_4_5).symm.trans hr
    refine r_tableIn (pc := 15) (tgt := 111) (off := 96) C dX11_stopsStep_15 5 c_4_5 (by decide) rfl ?_
    refine r_aload_n (pc := 111) C dX11_stopsStep_111 rfl 1 rfl ?_
    refine r_aload_n (pc := 112) C dX11_stopsStep_112 rfl 2 rfl ?_
    refine r_aload_n (pc := 113) C dX11_stopsStep_113 rfl 1 rfl ?_
    refine g50_12 (pc := 114) C dX11_stopsStep_114 q1412 (e50 nf) ?_
    refine r_iload_n (pc := 117) C dX11_stopsStep_117 rfl 3 rfl ?_
    obtain ⟨g_13, hr⟩ := gG_some hr
    refine r_ialdN (pc := 118) C dX11_stopsStep_118 rfl (e52 (nf := nf) (by decide)) g_13 rfl ?_
    refine r_iconst (pc := 119) C dX11_stopsStep_119 ki4 ?_
    refine r_isub (pc := 120) C dX11_stopsStep_120 ?_
    refine r_iload_n (pc := 121) C dX11_stopsStep_121 rfl 0 rfl ?_
    obtain ⟨r_15, hc_14, hr⟩ := gBind_some hr
    refine c_X11_stopsRule (pc := 122) C dX11_stopsStep_122 q1819 ⟨Nat.le_of_ble_eq_true rfl, Nat.le_of_ble_eq_true rfl⟩ h1 hc_14 (Nat.le_of_ble_eq_true rfl) ?_
    exact r_iret (pc := 125) CR dX11_stopsStep_125 (congrArg (fun z => some (Value.int z)) (Prod.mk.inj (gSome hr)).1) (Prod.mk.inj (gSome hr)).2
  replace hr := (if_neg c_4_5).symm.trans hr
  by_cases c_4_6 : (M.1 52 5 (Int32.toNatClampNeg p2)) = 6
  · replace hr := (if_pos c_4_6).symm.trans hr
    refine r_tableIn (pc := 15) (tgt := 111) (off := 96) C dX11_stopsStep_15 6 c_4_6 (by decide) rfl ?_
    refine r_aload_n (pc := 111) C dX11_stopsStep_111 rfl 1 rfl ?_
    refine r_aload_n (pc := 112) C dX11_stopsStep_112 rfl 2 rfl ?_
    refine r_aload_n (pc := 113) C dX11_stopsStep_113 rfl 1 rfl ?_
    refine g50_12 (pc := 114) C dX11_stopsStep_114 q1412 (e50 nf) ?_
    refine r_iload_n (pc := 117) C dX11_stopsStep_117 rfl 3 rfl ?_
    obtain ⟨g_16, hr⟩ := gG_some hr
    refine r_ialdN (pc := 118) C dX11_stopsStep_118 rfl (e52 (nf := nf) (by decide)) g_16 rfl ?_
    refine r_iconst (pc := 119) C dX11_stopsStep_119 ki4 ?_
    refine r_isub (pc := 120) C dX11_stopsStep_120 ?_
    refine r_iload_n (pc := 121) C dX11_stopsStep_121 rfl 0 rfl ?_
    obtain ⟨r_18, hc_17, hr⟩ := gBind_some hr
    refine c_X11_stopsRule (pc := 122) C dX11_stopsStep_122 q1819 ⟨Nat.le_of_ble_eq_true rfl, Nat.le_of_ble_eq_true rfl⟩ h1 hc_17 (Nat.le_of_ble_eq_true rfl) ?_
    exact r_iret (pc := 125) CR dX11_stopsStep_125 (congrArg (fun z => some (Value.int z)) (Prod.mk.inj (gSome hr)).1) (Prod.mk.inj (gSome hr)).2
  replace hr := (if_neg c_4_6).symm.trans hr
  by_cases c_4_7 : (M.1 52 5 (Int32.toNatClampNeg p2)) = 7
  · replace hr := (if_pos c_4_7).symm.trans hr
    refine r_tableIn (pc := 15) (tgt := 111) (off := 96) C dX11_stopsStep_15 7 c_4_7 (by decide) rfl ?_
    refine r_aload_n (pc := 111) C dX11_stopsStep_111 rfl 1 rfl ?_
    refine r_aload_n (pc := 112) C dX11_stopsStep_112 rfl 2 rfl ?_
    refine r_aload_n (pc := 113) C dX11_stopsStep_113 rfl 1 rfl ?_
    refine g50_12 (pc := 114) C dX11_stopsStep_114 q1412 (e50 nf) ?_
    refine r_iload_n (pc := 117) C dX11_stopsStep_117 rfl 3 rfl ?_
    obtain ⟨g_19, hr⟩ := gG_some hr
    refine r_ialdN (pc := 118) C dX11_stopsStep_118 rfl (e52 (nf := nf) (by decide)) g_19 rfl ?_
    refine r_iconst (pc := 119) C dX11_stopsStep_119 ki4 ?_
    refine r_isub (pc := 120) C dX11_stopsStep_120 ?_
    refine r_iload_n (pc := 121) C dX11_stopsStep_121 rfl 0 rfl ?_
    obtain ⟨r_21, hc_20, hr⟩ := gBind_some hr
    refine c_X11_stopsRule (pc := 122) C dX11_stopsStep_122 q1819 ⟨Nat.le_of_ble_eq_true rfl, Nat.le_of_ble_eq_true rfl⟩ h1 hc_20 (Nat.le_of_ble_eq_true rfl) ?_
    exact r_iret (pc := 125) CR dX11_stopsStep_125 (congrArg (fun z => some (Value.int z)) (Prod.mk.inj (gSome hr)).1) (Prod.mk.inj (gSome hr)).2
  replace hr := (if_neg c_4_7).symm.trans hr
  by_cases c_4_8 : (M.1 52 5 (Int32.toNatClampNeg p2)) = 8
  · replace hr := (if_pos c_4_8).symm.trans hr
    refine r_tableIn (pc := 15) (tgt := 80) (off := 65) C dX11_stopsStep_15 8 c_4_8 (by decide) rfl ?_
    refine r_aload_n (pc := 80) C dX11_stopsStep_80 rfl 1 rfl ?_
    refine r_aload_n (pc := 81) C dX11_stopsStep_81 rfl 2 rfl ?_
    refine r_iload_n (pc := 82) C dX11_stopsStep_82 rfl 0 rfl ?_
    refine r_aload_n (pc := 83) C dX11_stopsStep_83 rfl 1 rfl ?_
    refine g50_12 (pc := 84) C dX11_stopsStep_84 q1412 (e50 nf) ?_
    refine r_iload_n (pc := 87) C dX11_stopsStep_87 rfl 3 rfl ?_
    refine r_iconst (pc := 88) C dX11_stopsStep_88 ki2 ?_
    refine r_iadd (pc := 89) C dX11_stopsStep_89 ?_
    obtain ⟨g_22, hr⟩ := gG_some hr
    refine r_ialdN (pc := 90) C dX11_stopsStep_90 rfl (e52 (nf := nf) (by decide)) g_22 rfl ?_
    refine r_aload_n (pc := 91) C dX11_stopsStep_91 rfl 1 rfl ?_
    refine g50_12 (pc := 92) C dX11_stopsStep_92 q1412 (e50 nf) ?_
    refine r_iload_n (pc := 95) C dX11_stopsStep_95 rfl 3 rfl ?_
    refine r_iconst (pc := 96) C dX11_stopsStep_96 ki3 ?_
    refine r_iadd (pc := 97) C dX11_stopsStep_97 ?_
    obtain ⟨g_23, hr⟩ := gG_some hr
    refine r_ialdN (pc := 98) C dX11_stopsStep_98 rfl (e52 (nf := nf) (by decide)) g_23 rfl ?_
    refine r_aload_n (pc := 99) C dX11_stopsStep_99 rfl 1 rfl ?_
    refine g50_12 (pc := 100) C dX11_stopsStep_100 q1412 (e50 nf) ?_
    refine r_iload_n (pc := 103) C dX11_stopsStep_103 rfl 3 rfl ?_
    refine r_iconst (pc := 104) C dX11_stopsStep_104 ki4 ?_
    refine r_iadd (pc := 105) C dX11_stopsStep_105 ?_
    obtain ⟨g_24, hr⟩ := gG_some hr
    refine r_ialdN (pc := 106) C dX11_stopsStep_106 rfl (e52 (nf := nf) (by decide)) g_24 rfl ?_
    obtain ⟨r_26, hc_25, hr⟩ := gBind_some hr
    refine c_X11_stopsMove (pc := 107) C dX11_stopsStep_107 q1828 ⟨Nat.le_of_ble_eq_true rfl, Nat.le_of_ble_eq_true rfl⟩ h1 hc_25 (Nat.le_of_ble_eq_true rfl) ?_
    exact r_iret (pc := 110) CR dX11_stopsStep_110 (congrArg (fun z => some (Value.int z)) (Prod.mk.inj (gSome hr)).1) (Prod.mk.inj (gSome hr)).2
  replace hr := (if_neg c_4_8).symm.trans hr
  refine r_tableOut (pc := 15) (tgt := 111) C dX11_stopsStep_15 (fun k h1 h2 => ?_) rfl ?_
  · rcases (show k = 0 ∨ k = 1 ∨ k = 2 ∨ k = 3 ∨ k = 4 ∨ k = 5 ∨ k = 6 ∨ k = 7 ∨ k = 8 by omega) with rfl | rfl | rfl | rfl | rfl | rfl | rfl | rfl | rfl
    all_goals assumption
  · refine r_aload_n (pc := 111) C dX11_stopsStep_111 rfl 1 rfl ?_
    refine r_aload_n (pc := 112) C dX11_stopsStep_112 rfl 2 rfl ?_
    refine r_aload_n (pc := 113) C dX11_stopsStep_113 rfl 1 rfl ?_
    refine g50_12 (pc := 114) C dX11_stopsStep_114 q1412 (e50 nf) ?_
    refine r_iload_n (pc := 117) C dX11_stopsStep_117 rfl 3 rfl ?_
    obtain ⟨g_27, hr⟩ := gG_some hr
    refine r_ialdN (pc := 118) C dX11_stopsStep_118 rfl (e52 (nf := nf) (by decide)) g_27 rfl ?_
    refine r_iconst (pc := 119) C dX11_stopsStep_119 ki4 ?_
    refine r_isub (pc := 120) C dX11_stopsStep_120 ?_
    refine r_iload_n (pc := 121) C dX11_stopsStep_121 rfl 0 rfl ?_
    obtain ⟨r_29, hc_28, hr⟩ := gBind_some hr
    refine c_X11_stopsRule (pc := 122) C dX11_stopsStep_122 q1819 ⟨Nat.le_of_ble_eq_true rfl, Nat.le_of_ble_eq_true rfl⟩ h1 hc_28 (Nat.le_of_ble_eq_true rfl) ?_
    exact r_iret (pc := 125) CR dX11_stopsStep_125 (congrArg (fun z => some (Value.int z)) (Prod.mk.inj (gSome hr)).1) (Prod.mk.inj (gSome hr)).2
theorem c_X11_stopsStep {Ψ : gM → Nat → List (Nat × Value) → List Value → Prop} {G : gG5} {nf : Nat} {cc : ByteArray} {own : String} {nL : Nat} {ret : Option FieldType} {fr lo : Nat} {v0 : Option Value} {M0 M : gM} {pc index : Nat} {ls : List (Nat × Value)} {st : List Value} (C : gC Ψ G (gXn nf) cc own nL ret fr lo v0 M0) (d : decode cc pc = .ok (.invokevirtual index, 3)) (hl : Cond.methodLink own index yX11_stopsStep ∈ gws) (hR : 7 ≤ fr ∧ 158 ≤ lo) {i1 : Nat} {p2 : Int32} (h1 : i1 < 20) {r : Int32} {M1 : gM} (hr : X11_stopsStep i1 p2 M = some (r, M1)) (hcat : (st.map fun v => v.category).sum ≤ 8) (k : Ψ M1 (pc + 3) ls (.int r :: st)) : Ψ M pc ls (.int p2 :: .ref (gad 52 i1) :: .ref (gad 50 0) :: st) := r_callV C [.ref (gad 52 i1), .int p2] st d (k_X11_stopsStep h1 hr) hl q1978 q103 q127 q1979 hd_X11_stopsStep hR rfl (by decide) (e50 nf) rfl hcat k
theorem hd_X11_doesStep : yX11_doesStep.cls ≠ "java/lang/invoke/MethodHandle" ∧ yX11_doesStep.cls ≠ "java/lang/invoke/VarHandle" ∧ (parseMethodDescriptor yX11_doesStep.desc).map (fun d => d.parameters.length) = some 2 := by decide +kernel
noncomputable def X11_doesStep (i1 : Nat) (p2 : Int32) (M : gM) : Option gM := gG (gin (p2 + 1) 300) (gLet ((M.1 52 5 (Int32.toNatClampNeg (p2 + 1)))) (fun x3_2 => gG (gin p2 300) ((if (M.1 52 5 (Int32.toNatClampNeg p2)) = 0 then (X11_draws i1 x3_2 M).bind (gU2 (fun r_6 M_7 => some M_7)) else if (M.1 52 5 (Int32.toNatClampNeg p2)) = 1 then (X11_flushes i1 x3_2 M).bind (fun M_9 => some M_9) else if (M.1 52 5 (Int32.toNatClampNeg p2)) = 2 then (X11_flushesAll i1 M).bind (fun M_11 => some M_11) else if (M.1 52 5 (Int32.toNatClampNeg p2)) = 3 then (X11_clears i1 M).bind (fun M_13 => some M_13) else if (M.1 52 5 (Int32.toNatClampNeg p2)) = 4 then gG (gin p2 300) (gG (gin ((1057 + (M.1 52 5 (Int32.toNatClampNeg p2))) - 4) (gLen 52 i1)) (gLet (wI M 52 i1 (Int32.toNatClampNeg ((1057 + (M.1 52 5 (Int32.toNatClampNeg p2))) - 4)) x3_2) (fun M_16 => some M_16))) else if (M.1 52 5 (Int32.toNatClampNeg p2)) = 5 then gG (gin p2 300) (gG (gin ((1057 + (M.1 52 5 (Int32.toNatClampNeg p2))) - 4) (gLen 52 i1)) (gLet (wI M 52 i1 (Int32.toNatClampNeg ((1057 + (M.1 52 5 (Int32.toNatClampNeg p2))) - 4)) x3_2) (fun M_19 => some M_19))) else if (M.1 52 5 (Int32.toNatClampNeg p2)) = 6 then gG (gin p2 300) (gG (gin ((1057 + (M.1 52 5 (Int32.toNatClampNeg p2))) - 4) (gLen 52 i1)) (gLet (wI M 52 i1 (Int32.toNatClampNeg ((1057 + (M.1 52 5 (Int32.toNatClampNeg p2))) - 4)) x3_2) (fun M_22 => some M_22))) else if (M.1 52 5 (Int32.toNatClampNeg p2)) = 7 then gG (gin p2 300) (gG (gin ((1057 + (M.1 52 5 (Int32.toNatClampNeg p2))) - 4) (gLen 52 i1)) (gLet (wI M 52 i1 (Int32.toNatClampNeg ((1057 + (M.1 52 5 (Int32.toNatClampNeg p2))) - 4)) x3_2) (fun M_25 => some M_25))) else if (M.1 52 5 (Int32.toNatClampNeg p2)) = 8 then gG (gin (p2 + 2) 300) (gG (gin (p2 + 3) 300) (gG (gin (p2 + 4) 300) ((X11_moves i1 x3_2 (M.1 52 5 (Int32.toNatClampNeg (p2 + 2))) (M.1 52 5 (Int32.toNatClampNeg (p2 + 3))) (M.1 52 5 (Int32.toNatClampNeg (p2 + 4))) M).bind (fun M_30 => some M_30)))) else gG (gin p2 300) (gG (gin ((1057 + (M.1 52 5 (Int32.toNatClampNeg p2))) - 4) (gLen 52 i1)) (gLet (wI M 52 i1 (Int32.toNatClampNeg ((1057 + (M.1 52 5 (Int32.toNatClampNeg p2))) - 4)) x3_2) (fun M_33 => some M_33)))))))
theorem k_X11_doesStep {G : gG5} {nf : Nat} {M : gM} {i1 : Nat} {p2 : Int32} (h1 : i1 < 20) {M1 : gM} (hr : X11_doesStep i1 p2 M = some M1) : gMet G (gXn nf) yX11_doesStep cX11_doesStep 4 none 8 209 M [.ref (gad 50 0), .ref (gad 52 i1), .int p2] none M1 := by
  refine gMet_of pl_X11 rfl (Nat.le_of_ble_eq_true rfl) (fun Ψ C CR => ?_)
  show Ψ M 0 [(0, .ref (gad 50 0)), (1, .ref (gad 52 i1)), (2, .int p2)] []
  refine r_aload_n (pc := 0) C dX11_doesStep_0 rfl 0 rfl ?_
  refine g50_12 (pc := 1) C dX11_doesStep_1 q1412 (e50 nf) ?_
  refine r_iload_n (pc := 4) C dX11_doesStep_4 rfl 2 rfl ?_
  refine r_iconst (pc := 5) C dX11_doesStep_5 ki1 ?_
  refine r_iadd (pc := 6) C dX11_doesStep_6 ?_
  obtain ⟨g_1, hr⟩ := gG_some hr
  refine r_ialdN (pc := 7) C dX11_doesStep_7 rfl (e52 (nf := nf) (by decide)) g_1 rfl ?_
  obtain ⟨x3_2, ex3_2, hr⟩ := gLet_some hr
  refine r_istore_n (pc := 8) C dX11_doesStep_8 rfl (by decide) ex3_2 (ls' := [(3, .int x3_2), (0, .ref (gad 50 0)), (1, .ref (gad 52 i1)), (2, .int p2)]) rfl ?_
  refine r_aload_n (pc := 9) C dX11_doesStep_9 rfl 1 rfl ?_
  refine g50_12 (pc := 10) C dX11_doesStep_10 q1412 (e50 nf) ?_
  refine r_iload_n (pc := 13) C dX11_doesStep_13 rfl 3 rfl ?_
  obtain ⟨g_3, hr⟩ := gG_some hr
  refine r_ialdN (pc := 14) C dX11_doesStep_14 rfl (e52 (nf := nf) (by decide)) g_3 rfl ?_
  by_cases c_4_0 : (M.1 52 5 (Int32.toNatClampNeg p2)) = 0
  · replace hr := (if_pos c_4_0).symm.trans hr
    refine r_tableIn (pc := 15) (tgt := 64) (off := 49) C dX11_doesStep_15 0 c_4_0 (by decide) rfl ?_
    refine r_aload_n (pc := 64) C dX11_doesStep_64 rfl 1 rfl ?_
    refine r_aload_n (pc := 65) C dX11_doesStep_65 rfl 2 rfl ?_
    refine r_iload_n (pc := 66) C dX11_doesStep_66 rfl 0 rfl ?_
    obtain ⟨⟨r_6, M_7⟩, hc_5, hr⟩ := gBind_some hr
    replace hr := gU2_some hr
    refine c_X11_draws (pc := 67) C dX11_doesStep_67 q1705 ⟨Nat.le_of_ble_eq_true rfl, Nat.le_of_ble_eq_true rfl⟩ h1 hc_5 (Nat.le_of_ble_eq_true rfl) ?_
    refine r_pop (pc := 70) C dX11_doesStep_70 rfl ?_
    refine r_goto (pc := 71) (tgt := 146) C dX11_doesStep_71 rfl ?_
    exact r_vret (pc := 146) CR dX11_doesStep_146 rfl (gSome hr)
  replace hr := (if_neg c_4_0).symm.trans hr
  by_cases c_4_1 : (M.1 52 5 (Int32.toNatClampNeg p2)) = 1
  · replace hr := (if_pos c_4_1).symm.trans hr
    refine r_tableIn (pc := 15) (tgt := 74) (off := 59) C dX11_doesStep_15 1 c_4_1 (by decide) rfl ?_
    refine r_aload_n (pc := 74) C dX11_doesStep_74 rfl 1 rfl ?_
    refine r_aload_n (pc := 75) C dX11_doesStep_75 rfl 2 rfl ?_
    refine r_iload_n (pc := 76) C dX11_doesStep_76 rfl 0 rfl ?_
    obtain ⟨M_9, hc_8, hr⟩ := gBind_some hr
    refine c_X11_flushes (pc := 77) C dX11_doesStep_77 q1709 ⟨Nat.le_of_ble_eq_true rfl, Nat.le_of_ble_eq_true rfl⟩ h1 hc_8 (Nat.le_of_ble_eq_true rfl) ?_
    refine r_goto (pc := 80) (tgt := 146) C dX11_doesStep_80 rfl ?_
    exact r_vret (pc := 146) CR dX11_doesStep_146 rfl (gSome hr)
  replace hr := (if_neg c_4_1).symm.trans hr
  by_cases c_4_2 : (M.1 52 5 (Int32.toNatClampNeg p2)) = 2
  · replace hr := (if_pos c_4_2).symm.trans hr
    refine r_tableIn (pc := 15) (tgt := 83) (off := 68) C dX11_doesStep_15 2 c_4_2 (by decide) rfl ?_
    refine r_aload_n (pc := 83) C dX11_doesStep_83 rfl 1 rfl ?_
    refine r_aload_n (pc := 84) C dX11_doesStep_84 rfl 2 rfl ?_
    obtain ⟨M_11, hc_10, hr⟩ := gBind_some hr
    refine c_X11_flushesAll (pc := 85) C dX11_doesStep_85 q1803 ⟨Nat.le_of_ble_eq_true rfl, Nat.le_of_ble_eq_true rfl⟩ h1 hc_10 (Nat.le_of_ble_eq_true rfl) ?_
    refine r_goto (pc := 88) (tgt := 146) C dX11_doesStep_88 rfl ?_
    exact r_vret (pc := 146) CR dX11_doesStep_146 rfl (gSome hr)
  replace hr := (if_neg c_4_2).symm.trans hr
  by_cases c_4_3 : (M.1 52 5 (Int32.toNatClampNeg p2)) = 3
  · replace hr := (if_pos c_4_3).symm.trans hr
    refine r_tableIn (pc := 15) (tgt := 91) (off := 76) C dX11_doesStep_15 3 c_4_3 (by decide) rfl ?_
    refine r_aload_n (pc := 91) C dX11_doesStep_91 rfl 1 rfl ?_
    refine r_aload_n (pc := 92) C dX11_doesStep_92 rfl 2 rfl ?_
    obtain ⟨M_13, hc_12, hr⟩ := gBind_some hr
    refine c_X11_clears (pc := 93) C dX11_doesStep_93 q1632 ⟨Nat.le_of_ble_eq_true rfl, Nat.le_of_ble_eq_true rfl⟩ h1 hc_12 (Nat.le_of_ble_eq_true rfl) ?_
    refine r_goto (pc := 96) (tgt := 146) C dX11_doesStep_96 rfl ?_
    exact r_vret (pc := 146) CR dX11_doesStep_146 rfl (gSome hr)
  replace hr := (if_neg c_4_3).symm.trans hr
  by_cases c_4_4 : (M.1 52 5 (Int32.toNatClampNeg p2)) = 4
  · replace hr := (if_pos c_4_4).symm.trans hr
    refine r_tableIn (pc := 15) (tgt := 131) (off := 116) C dX11_doesStep_15 4 c_4_4 (by decide) rfl ?_
    refine r_aload_n (pc := 131) C dX11_doesStep_131 rfl 2 rfl ?_
    refine r_sipush (pc := 132) C dX11_doesStep_132 ks1057 ?_
    refine r_aload_n (pc := 135) C dX11_doesStep_135 rfl 1 rfl ?_
    refine g50_12 (pc := 136) C dX11_doesStep_136 q1412 (e50 nf) ?_
    refine r_iload_n (pc := 139) C dX11_doesStep_139 rfl 3 rfl ?_
    obtain ⟨g_14, hr⟩ := gG_some hr
    refine r_ialdN (pc := 140) C dX11_doesStep_140 rfl (e52 (nf := nf) (by decide)) g_14 rfl ?_
    refine r_iadd (pc := 141) C dX11_doesStep_141 ?_
    refine r_iconst (pc := 142) C dX11_doesStep_142 ki4 ?_
    refine r_isub (pc := 143) C dX11_doesStep_143 ?_
    refine r_iload_n (pc := 144) C dX11_doesStep_144 rfl 0 rfl ?_
    obtain ⟨g_15, hr⟩ := gG_some hr
    obtain ⟨M_16, eM_16, hr⟩ := gLet_some hr
    refine r_iastN (pc := 145) C dX11_doesStep_145 rfl (e52 (nf := nf) h1) g_15 rfl eM_16 ?_
    exact r_vret (pc := 146) CR dX11_doesStep_146 rfl (gSome hr)
  replace hr := (if_neg c_4_4).symm.trans hr
  by_cases c_4_5 : (M.1 52 5 (Int32.toNatClampNeg p2)) = 5
  · replace hr := (if_pos c_4_5).symm.trans hr
    refine r_tableIn (pc := 15) (tgt := 131) (off := 116) C dX11_doesStep_15 5 c_4_5 (by decide) rfl ?_
    refine r_aload_n (pc := 131) C dX11_doesStep_131 rfl 2 rfl ?_
    refine r_sipush (pc := 132) C dX11_doesStep_132 ks1057 ?_
    refine r_aload_n (pc := 135) C dX11_doesStep_135 rfl 1 rfl ?_
    refine g50_12 (pc := 136) C dX11_doesStep_136 q1412 (e50 nf) ?_
    refine r_iload_n (pc := 139) C dX11_doesStep_139 rfl 3 rfl ?_
    obtain ⟨g_17, hr⟩ := gG_some hr
    refine r_ialdN (pc := 140) C dX11_doesStep_140 rfl (e52 (nf := nf) (by decide)) g_17 rfl ?_
    refine r_iadd (pc := 141) C dX11_doesStep_141 ?_
    refine r_iconst (pc := 142) C dX11_doesStep_142 ki4 ?_
    refine r_isub (pc := 143) C dX11_doesStep_143 ?_
    refine r_iload_n (pc := 144) C dX11_doesStep_144 rfl 0 rfl ?_
    obtain ⟨g_18, hr⟩ := gG_some hr
    obtain ⟨M_19, eM_19, hr⟩ := gLet_some hr
    refine r_iastN (pc := 145) C dX11_doesStep_145 rfl (e52 (nf := nf) h1) g_18 rfl eM_19 ?_
    exact r_vret (pc := 146) CR dX11_doesStep_146 rfl (gSome hr)
  replace hr := (if_neg c_4_5).symm.trans hr
  by_cases c_4_6 : (M.1 52 5 (Int32.toNatClampNeg p2)) = 6
  · replace hr := (if_pos c_4_6).symm.trans hr
    refine r_tableIn (pc := 15) (tgt := 131) (off := 116) C dX11_doesStep_15 6 c_4_6 (by decide) rfl ?_
    refine r_aload_n (pc := 131) C dX11_doesStep_131 rfl 2 rfl ?_
    refine r_sipush (pc := 132) C dX11_doesStep_132 ks1057 ?_
    refine r_aload_n (pc := 135) C dX11_doesStep_135 rfl 1 rfl ?_
    refine g50_12 (pc := 136) C dX11_doesStep_136 q1412 (e50 nf) ?_
    refine r_iload_n (pc := 139) C dX11_doesStep_139 rfl 3 rfl ?_
    obtain ⟨g_20, hr⟩ := gG_some hr
    refine r_ialdN (pc := 140) C dX11_doesStep_140 rfl (e52 (nf := nf) (by decide)) g_20 rfl ?_
    refine r_iadd (pc := 141) C dX11_doesStep_141 ?_
    refine r_iconst (pc := 142) C dX11_doesStep_142 ki4 ?_
    refine r_isub (pc := 143) C dX11_doesStep_143 ?_
    refine r_iload_n (pc := 144) C dX11_doesStep_144 rfl 0 rfl ?_
    obtain ⟨g_21, hr⟩ := gG_some hr
    obtain ⟨M_22, eM_22, hr⟩ := gLet_some hr
    refine r_iastN (pc := 145) C dX11_doesStep_145 rfl (e52 (nf := nf) h1) g_21 rfl eM_22 ?_
    exact r_vret (pc := 146) CR dX11_doesStep_146 rfl (gSome hr)
  replace hr := (if_neg c_4_6).symm.trans hr
  by_cases c_4_7 : (M.1 52 5 (Int32.toNatClampNeg p2)) = 7
  · replace hr := (if_pos c_4_7).symm.trans hr
    refine r_tableIn (pc := 15) (tgt := 131) (off := 116) C dX11_doesStep_15 7 c_4_7 (by decide) rfl ?_
    refine r_aload_n (pc := 131) C dX11_doesStep_131 rfl 2 rfl ?_
    refine r_sipush (pc := 132) C dX11_doesStep_132 ks1057 ?_
    refine r_aload_n (pc := 135) C dX11_doesStep_135 rfl 1 rfl ?_
    refine g50_12 (pc := 136) C dX11_doesStep_136 q1412 (e50 nf) ?_
    refine r_iload_n (pc := 139) C dX11_doesStep_139 rfl 3 rfl ?_
    obtain ⟨g_23, hr⟩ := gG_some hr
    refine r_ialdN (pc := 140) C dX11_doesStep_140 rfl (e52 (nf := nf) (by decide)) g_23 rfl ?_
    refine r_iadd (pc := 141) C dX11_doesStep_141 ?_
    refine r_iconst (pc := 142) C dX11_doesStep_142 ki4 ?_
    refine r_isub (pc := 143) C dX11_doesStep_143 ?_
    refine r_iload_n (pc := 144) C dX11_doesStep_144 rfl 0 rfl ?_
    obtain ⟨g_24, hr⟩ := gG_some hr
    obtain ⟨M_25, eM_25, hr⟩ := gLet_some hr
    refine r_iastN (pc := 145) C dX11_doesStep_145 rfl (e52 (nf := nf) h1) g_24 rfl eM_25 ?_
    exact r_vret (pc := 146) CR dX11_doesStep_146 rfl (gSome hr)
  replace hr := (if_neg c_4_7).symm.trans hr
  by_cases c_4_8 : (M.1 52 5 (Int32.toNatClampNeg p2)) = 8
  · replace hr := (if_pos c_4_8).symm.trans hr
    refine r_tableIn (pc := 15) (tgt := 99) (off := 84) C dX11_doesStep_15 8 c_4_8 (by decide) rfl ?_
    refine r_aload_n (pc := 99) C dX11_doesStep_99 rfl 2 rfl ?_
    refine r_iload_n (pc := 100) C dX11_doesStep_100 rfl 0 rfl ?_
    refine r_aload_n (pc := 101) C dX11_doesStep_101 rfl 1 rfl ?_
    refine g50_12 (pc := 102) C dX11_doesStep_102 q1412 (e50 nf) ?_
    refine r_iload_n (pc := 105) C dX11_doesStep_105 rfl 3 rfl ?_
    refine r_iconst (pc := 106) C dX11_doesStep_106 ki2 ?_
    refine r_iadd (pc := 107) C dX11_doesStep_107 ?_
    obtain ⟨g_26, hr⟩ := gG_some hr
    refine r_ialdN (pc := 108) C dX11_doesStep_108 rfl (e52 (nf := nf) (by decide)) g_26 rfl ?_
    refine r_aload_n (pc := 109) C dX11_doesStep_109 rfl 1 rfl ?_
    refine g50_12 (pc := 110) C dX11_doesStep_110 q1412 (e50 nf) ?_
    refine r_iload_n (pc := 113) C dX11_doesStep_113 rfl 3 rfl ?_
    refine r_iconst (pc := 114) C dX11_doesStep_114 ki3 ?_
    refine r_iadd (pc := 115) C dX11_doesStep_115 ?_
    obtain ⟨g_27, hr⟩ := gG_some hr
    refine r_ialdN (pc := 116) C dX11_doesStep_116 rfl (e52 (nf := nf) (by decide)) g_27 rfl ?_
    refine r_aload_n (pc := 117) C dX11_doesStep_117 rfl 1 rfl ?_
    refine g50_12 (pc := 118) C dX11_doesStep_118 q1412 (e50 nf) ?_
    refine r_iload_n (pc := 121) C dX11_doesStep_121 rfl 3 rfl ?_
    refine r_iconst (pc := 122) C dX11_doesStep_122 ki4 ?_
    refine r_iadd (pc := 123) C dX11_doesStep_123 ?_
    obtain ⟨g_28, hr⟩ := gG_some hr
    refine r_ialdN (pc := 124) C dX11_doesStep_124 rfl (e52 (nf := nf) (by decide)) g_28 rfl ?_
    obtain ⟨M_30, hc_29, hr⟩ := gBind_some hr
    refine c_X11_moves (pc := 125) C dX11_doesStep_125 q1840 ⟨Nat.le_of_ble_eq_true rfl, Nat.le_of_ble_eq_true rfl⟩ h1 hc_29 (Nat.le_of_ble_eq_true rfl) ?_
    refine r_goto (pc := 128) (tgt := 146) C dX11_doesStep_128 rfl ?_
    exact r_vret (pc := 146) CR dX11_doesStep_146 rfl (gSome hr)
  replace hr := (if_neg c_4_8).symm.trans hr
  refine r_tableOut (pc := 15) (tgt := 131) C dX11_doesStep_15 (fun k h1 h2 => ?_) rfl ?_
  · rcases (show k = 0 ∨ k = 1 ∨ k = 2 ∨ k = 3 ∨ k = 4 ∨ k = 5 ∨ k = 6 ∨ k = 7 ∨ k = 8 by omega) with rfl | rfl | rfl | rfl | rfl | rfl | rfl | rfl | rfl
    all_goals assumption
  · refine r_aload_n (pc := 131) C dX11_doesStep_131 rfl 2 rfl ?_
    refine r_sipush (pc := 132) C dX11_doesStep_132 ks1057 ?_
    refine r_aload_n (pc := 135) C dX11_doesStep_135 rfl 1 rfl ?_
    refine g50_12 (pc := 136) C dX11_doesStep_136 q1412 (e50 nf) ?_
    refine r_iload_n (pc := 139) C dX11_doesStep_139 rfl 3 rfl ?_
    obtain ⟨g_31, hr⟩ := gG_some hr
    refine r_ialdN (pc := 140) C dX11_doesStep_140 rfl (e52 (nf := nf) (by decide)) g_31 rfl ?_
    refine r_iadd (pc := 141) C dX11_doesStep_141 ?_
    refine r_iconst (pc := 142) C dX11_doesStep_142 ki4 ?_
    refine r_isub (pc := 143) C dX11_doesStep_143 ?_
    refine r_iload_n (pc := 144) C dX11_doesStep_144 rfl 0 rfl ?_
    obtain ⟨g_32, hr⟩ := gG_some hr
    obtain ⟨M_33, eM_33, hr⟩ := gLet_some hr
    refine r_iastN (pc := 145) C dX11_doesStep_145 rfl (e52 (nf := nf) h1) g_32 rfl eM_33 ?_
    exact r_vret (pc := 146) CR dX11_doesStep_146 rfl (gSome hr)
theorem c_X11_doesStep {Ψ : gM → Nat → List (Nat × Value) → List Value → Prop} {G : gG5} {nf : Nat} {cc : ByteArray} {own : String} {nL : Nat} {ret : Option FieldType} {fr lo : Nat} {v0 : Option Value} {M0 M : gM} {pc index : Nat} {ls : List (Nat × Value)} {st : List Value} (C : gC Ψ G (gXn nf) cc own nL ret fr lo v0 M0) (d : decode cc pc = .ok (.invokevirtual index, 3)) (hl : Cond.methodLink own index yX11_doesStep ∈ gws) (hR : 9 ≤ fr ∧ 232 ≤ lo) {i1 : Nat} {p2 : Int32} (h1 : i1 < 20) {M1 : gM} (hr : X11_doesStep i1 p2 M = some M1) (hcat : (st.map fun v => v.category).sum ≤ 8) (k : Ψ M1 (pc + 3) ls (st)) : Ψ M pc ls (.int p2 :: .ref (gad 52 i1) :: .ref (gad 50 0) :: st) := r_callV C [.ref (gad 52 i1), .int p2] st d (k_X11_doesStep h1 hr) hl q1982 q104 q127 q1983 hd_X11_doesStep hR rfl (by decide) (e50 nf) rfl hcat k
theorem hd_X11_run : yX11_run.cls ≠ "java/lang/invoke/MethodHandle" ∧ yX11_run.cls ≠ "java/lang/invoke/VarHandle" ∧ (parseMethodDescriptor yX11_run.desc).map (fun d => d.parameters.length) = some 2 := by decide +kernel
noncomputable def X11_run_L56 (x1 : Int32) (x2 : Int32) (x3 : Int32) (M : gM) : Option ((Int32 × gM) ⊕ (Int32 × gM)) := gG (gin x1 5) ((if (M.1 52 6 (Int32.toNatClampNeg x1)) ≤ x3 then some (.inr (x3, M)) else (X11_stopsStep 9 (5 * ((12 * x1) + x3)) M).bind (gU2 (fun r_14 M_15 => (if r_14 = (-1) then (X11_doesStep 9 (5 * ((12 * x1) + x3)) M_15).bind (fun M_18 => gLet (x3 + 1) (fun x3_19 => some (.inl (x3_19, M_18)))) else some (.inr (x3, M_15)))))))
theorem t_X11_run_L56 {Ψ : gM → Nat → List (Nat × Value) → List Value → Prop} {G : gG5} {nf : Nat} {M : gM} {v0 : Option Value} {M0 : gM} {x1 : Int32} {x2 : Int32} {x3 : Int32} {w : ((Int32 × gM) ⊕ (Int32 × gM))} (C : gC Ψ G (gXn nf) cX11_run RX11 4 (some .int) 9 232 v0 M0) (hr : X11_run_L56 x1 x2 x3 M = some w) (hn : ∀ s, w = .inl s → Ψ s.2 56 [(0, .ref (gad 50 0)), (1, .int x1), (2, .int x2), (3, .int (s.1))] []) (hx : ∀ e, w = .inr e → (fun e => Ψ e.2 108 [(0, .ref (gad 50 0)), (1, .int x1), (2, .int x2), (3, .int (e.1))] []) e) : Ψ M 56 [(0, .ref (gad 50 0)), (1, .int x1), (2, .int x2), (3, .int x3)] [] := by
  refine r_iload_n (pc := 56) C dX11_run_56 rfl 3 rfl ?_
  refine r_aload_n (pc := 57) C dX11_run_57 rfl 0 rfl ?_
  refine g50_13 (pc := 58) C dX11_run_58 q1413 (e50 nf) ?_
  refine r_iload_n (pc := 61) C dX11_run_61 rfl 1 rfl ?_
  obtain ⟨g_11, hr⟩ := gG_some hr
  refine r_ialdN (pc := 62) C dX11_run_62 rfl (e52 (nf := nf) (by decide)) g_11 rfl ?_
  refine r_icmp_ge (pc := 63) (tgt := 108) C dX11_run_63 rfl (fun c_12 => ?_) (fun c_12 => ?_)
  · replace hr := (if_pos c_12).symm.trans hr
    exact hx (x3, M) (gSome hr)
  · replace hr := (if_neg c_12).symm.trans hr
    refine r_aload_n (pc := 66) C dX11_run_66 rfl 0 rfl ?_
    refine r_aload_n (pc := 67) C dX11_run_67 rfl 0 rfl ?_
    refine g50_19 (pc := 68) C dX11_run_68 q1419 (e50 nf) ?_
    refine r_iconst (pc := 71) C dX11_run_71 ki5 ?_
    refine r_bipush (pc := 72) C dX11_run_72 kb12 ?_
    refine r_iload_n (pc := 74) C dX11_run_74 rfl 1 rfl ?_
    refine r_imul (pc := 75) C dX11_run_75 ?_
    refine r_iload_n (pc := 76) C dX11_run_76 rfl 3 rfl ?_
    refine r_iadd (pc := 77) C dX11_run_77 ?_
    refine r_imul (pc := 78) C dX11_run_78 ?_
    obtain ⟨⟨r_14, M_15⟩, hc_13, hr⟩ := gBind_some hr
    replace hr := gU2_some hr
    refine c_X11_stopsStep (pc := 79) C dX11_run_79 q1976 ⟨Nat.le_of_ble_eq_true rfl, Nat.le_of_ble_eq_true rfl⟩ (by decide) hc_13 (Nat.le_of_ble_eq_true rfl) ?_
    refine r_iconst (pc := 82) C dX11_run_82 kim1 ?_
    refine r_icmp_ne (pc := 83) (tgt := 108) C dX11_run_83 rfl (fun c_16 => ?_) (fun c_16 => ?_)
    · replace hr := (if_neg c_16).symm.trans hr
      exact hx (x3, M_15) (gSome hr)
    · replace hr := (if_pos c_16).symm.trans hr
      refine r_aload_n (pc := 86) C dX11_run_86 rfl 0 rfl ?_
      refine r_aload_n (pc := 87) C dX11_run_87 rfl 0 rfl ?_
      refine g50_19 (pc := 88) C dX11_run_88 q1419 (e50 nf) ?_
      refine r_iconst (pc := 91) C dX11_run_91 ki5 ?_
      refine r_bipush (pc := 92) C dX11_run_92 kb12 ?_
      refine r_iload_n (pc := 94) C dX11_run_94 rfl 1 rfl ?_
      refine r_imul (pc := 95) C dX11_run_95 ?_
      refine r_iload_n (pc := 96) C dX11_run_96 rfl 3 rfl ?_
      refine r_iadd (pc := 97) C dX11_run_97 ?_
      refine r_imul (pc := 98) C dX11_run_98 ?_
      obtain ⟨M_18, hc_17, hr⟩ := gBind_some hr
      refine c_X11_doesStep (pc := 99) C dX11_run_99 q1980 ⟨Nat.le_of_ble_eq_true rfl, Nat.le_of_ble_eq_true rfl⟩ (by decide) hc_17 (Nat.le_of_ble_eq_true rfl) ?_
      obtain ⟨x3_19, ex3_19, hr⟩ := gLet_some hr
      refine r_iinc (pc := 102) C dX11_run_102 3 rfl rfl (by decide) ex3_19 (ls' := [(3, .int x3_19), (0, .ref (gad 50 0)), (1, .int x1), (2, .int x2)]) rfl ?_
      refine r_goto (pc := 105) (tgt := 56) C dX11_run_105 rfl ?_
      refine r_sub C [1, 2, 3, 0] (ls' := [(0, .ref (gad 50 0)), (1, .int x1), (2, .int x2), (3, .int x3_19)]) rfl ?_
      exact hn (x3_19, M_18) (gSome hr)
noncomputable def X11_run_J108 (x1 : Int32) (x2 : Int32) (x3 : Int32) (M : gM) : Option (Int32 × gM) := (if x2 = 1 then (X11_pairs 9 M).bind (fun r_26 => some (r_26, M)) else gG (gin x1 5) ((if x3 = (M.1 52 6 (Int32.toNatClampNeg x1)) then some ((-1), M) else some (x3, M))))
theorem t_X11_run_J108 {Ψ : gM → Nat → List (Nat × Value) → List Value → Prop} {G : gG5} {nf : Nat} {M : gM} {x1 : Int32} {x2 : Int32} {x3 : Int32} {r : Int32} {M1 : gM} (C : gC Ψ G (gXn nf) cX11_run RX11 4 (some .int) 9 232 (some (.int r)) M1) (CR : gR Ψ cX11_run (some .int) (some (.int r)) M1) (hr : X11_run_J108 x1 x2 x3 M = some (r, M1)) : Ψ M 108 [(0, .ref (gad 50 0)), (1, .int x1), (2, .int x2), (3, .int x3)] [] := by
  refine r_iload_n (pc := 108) C dX11_run_108 rfl 2 rfl ?_
  refine r_iconst (pc := 109) C dX11_run_109 ki1 ?_
  refine r_icmp_ne (pc := 110) (tgt := 124) C dX11_run_110 rfl (fun c_22 => ?_) (fun c_22 => ?_)
  · replace hr := (if_neg c_22).symm.trans hr
    refine r_iload_n (pc := 124) C dX11_run_124 rfl 3 rfl ?_
    refine r_aload_n (pc := 125) C dX11_run_125 rfl 0 rfl ?_
    refine g50_13 (pc := 126) C dX11_run_126 q1413 (e50 nf) ?_
    refine r_iload_n (pc := 129) C dX11_run_129 rfl 1 rfl ?_
    obtain ⟨g_23, hr⟩ := gG_some hr
    refine r_ialdN (pc := 130) C dX11_run_130 rfl (e52 (nf := nf) (by decide)) g_23 rfl ?_
    refine r_icmp_ne (pc := 131) (tgt := 138) C dX11_run_131 rfl (fun c_24 => ?_) (fun c_24 => ?_)
    · replace hr := (if_neg c_24).symm.trans hr
      refine r_iload_n (pc := 138) C dX11_run_138 rfl 3 rfl ?_
      exact r_iret (pc := 139) CR dX11_run_139 (congrArg (fun z => some (Value.int z)) (Prod.mk.inj (gSome hr)).1) (Prod.mk.inj (gSome hr)).2
    · replace hr := (if_pos c_24).symm.trans hr
      refine r_iconst (pc := 134) C dX11_run_134 kim1 ?_
      refine r_goto (pc := 135) (tgt := 139) C dX11_run_135 rfl ?_
      exact r_iret (pc := 139) CR dX11_run_139 (congrArg (fun z => some (Value.int z)) (Prod.mk.inj (gSome hr)).1) (Prod.mk.inj (gSome hr)).2
  · replace hr := (if_pos c_22).symm.trans hr
    refine r_aload_n (pc := 113) C dX11_run_113 rfl 0 rfl ?_
    refine r_aload_n (pc := 114) C dX11_run_114 rfl 0 rfl ?_
    refine g50_19 (pc := 115) C dX11_run_115 q1419 (e50 nf) ?_
    obtain ⟨r_26, hc_25, hr⟩ := gBind_some hr
    refine c_X11_pairs (pc := 118) C dX11_run_118 q1773 ⟨Nat.le_of_ble_eq_true rfl, Nat.le_of_ble_eq_true rfl⟩ (by decide) hc_25 (Nat.le_of_ble_eq_true rfl) ?_
    refine r_goto (pc := 121) (tgt := 139) C dX11_run_121 rfl ?_
    exact r_iret (pc := 139) CR dX11_run_139 (congrArg (fun z => some (Value.int z)) (Prod.mk.inj (gSome hr)).1) (Prod.mk.inj (gSome hr)).2
noncomputable def X11_run (p1 : Int32) (p2 : Int32) (M : gM) : Option (Int32 × gM) := gLet (wI M 50 0 0 0) (fun M_1 => (X11_isIn (Int32.toInt64 p1) 0 (Int32.toInt64 ((M_1.1 50 0 17) - 1)) M_1).bind (fun r_3 => (if r_3 = 0 then some ((-1000000000), M_1) else (if (M_1.1 50 0 16) = 0 then some ((-1000000000), M_1) else (X11_isIn (Int32.toInt64 p2) 0 1 M_1).bind (fun r_7 => (if r_7 = 0 then some ((-1000000000), M_1) else (X11_copyRow 8 0 9 0 M_1).bind (fun M_10 => (gIter (fun s => X11_run_L56 p1 p2 s.1 s.2) FU (0, M_10)).bind (gU2 (fun x3_20 M_21 => X11_run_J108 p1 p2 x3_20 M_21)))))))))
theorem k_X11_run {G : gG5} {nf : Nat} {M : gM} {p1 : Int32} {p2 : Int32} {r : Int32} {M1 : gM} (hr : X11_run p1 p2 M = some (r, M1)) : gMet G (gXn nf) yX11_run cX11_run 4 (some .int) 9 232 M [.ref (gad 50 0), .int p1, .int p2] (some (.int r)) M1 := by
  refine gMet_of pl_X11 rfl (Nat.le_of_ble_eq_true rfl) (fun Ψ C CR => ?_)
  show Ψ M 0 [(0, .ref (gad 50 0)), (1, .int p1), (2, .int p2)] []
  refine r_aload_n (pc := 0) C dX11_run_0 rfl 0 rfl ?_
  refine r_iconst (pc := 1) C dX11_run_1 ki0 ?_
  obtain ⟨M_1, eM_1, hr⟩ := gLet_some hr
  refine p50_0 (pc := 2) C dX11_run_2 q1400 (e50 nf) eM_1 ?_
  refine r_iload_n (pc := 5) C dX11_run_5 rfl 1 rfl ?_
  refine r_i2l (pc := 6) C dX11_run_6 ?_
  refine r_lconst (pc := 7) (v := 0) C dX11_run_7 rfl ?_
  refine r_aload_n (pc := 8) C dX11_run_8 rfl 0 rfl ?_
  refine g50_17 (pc := 9) C dX11_run_9 q1417 (e50 nf) ?_
  refine r_iconst (pc := 12) C dX11_run_12 ki1 ?_
  refine r_isub (pc := 13) C dX11_run_13 ?_
  refine r_i2l (pc := 14) C dX11_run_14 ?_
  obtain ⟨r_3, hc_2, hr⟩ := gBind_some hr
  refine c_X11_isIn (pc := 15) C dX11_run_15 q1538 ⟨Nat.le_of_ble_eq_true rfl, Nat.le_of_ble_eq_true rfl⟩ hc_2 (Nat.le_of_ble_eq_true rfl) ?_
  refine r_if_eq (pc := 18) (tgt := 38) C dX11_run_18 rfl (fun c_4 => ?_) (fun c_4 => ?_)
  · replace hr := (if_pos c_4).symm.trans hr
    refine r_ldc (pc := 38) C dX11_run_38 q1626 ?_
    exact r_iret (pc := 40) CR dX11_run_40 (congrArg (fun z => some (Value.int z)) (Prod.mk.inj (gSome hr)).1) (Prod.mk.inj (gSome hr)).2
  · replace hr := (if_neg c_4).symm.trans hr
    refine r_aload_n (pc := 21) C dX11_run_21 rfl 0 rfl ?_
    refine g50_16 (pc := 22) C dX11_run_22 q1416 (e50 nf) ?_
    refine r_if_eq (pc := 25) (tgt := 38) C dX11_run_25 rfl (fun c_5 => ?_) (fun c_5 => ?_)
    · replace hr := (if_pos c_5).symm.trans hr
      refine r_ldc (pc := 38) C dX11_run_38 q1626 ?_
      exact r_iret (pc := 40) CR dX11_run_40 (congrArg (fun z => some (Value.int z)) (Prod.mk.inj (gSome hr)).1) (Prod.mk.inj (gSome hr)).2
    · replace hr := (if_neg c_5).symm.trans hr
      refine r_iload_n (pc := 28) C dX11_run_28 rfl 2 rfl ?_
      refine r_i2l (pc := 29) C dX11_run_29 ?_
      refine r_lconst (pc := 30) (v := 0) C dX11_run_30 rfl ?_
      refine r_lconst (pc := 31) (v := 1) C dX11_run_31 rfl ?_
      obtain ⟨r_7, hc_6, hr⟩ := gBind_some hr
      refine c_X11_isIn (pc := 32) C dX11_run_32 q1538 ⟨Nat.le_of_ble_eq_true rfl, Nat.le_of_ble_eq_true rfl⟩ hc_6 (Nat.le_of_ble_eq_true rfl) ?_
      refine r_if_ne (pc := 35) (tgt := 41) C dX11_run_35 rfl (fun c_8 => ?_) (fun c_8 => ?_)
      · replace hr := (if_neg c_8).symm.trans hr
        refine r_aload_n (pc := 41) C dX11_run_41 rfl 0 rfl ?_
        refine g50_18 (pc := 42) C dX11_run_42 q1418 (e50 nf) ?_
        refine r_iconst (pc := 45) C dX11_run_45 ki0 ?_
        refine r_aload_n (pc := 46) C dX11_run_46 rfl 0 rfl ?_
        refine g50_19 (pc := 47) C dX11_run_47 q1419 (e50 nf) ?_
        refine r_iconst (pc := 50) C dX11_run_50 ki0 ?_
        obtain ⟨M_10, hc_9, hr⟩ := gBind_some hr
        refine c_X11_copyRow (pc := 51) C dX11_run_51 q1702 ⟨Nat.le_of_ble_eq_true rfl, Nat.le_of_ble_eq_true rfl⟩ (by decide) (by decide) hc_9 (Nat.le_of_ble_eq_true rfl) ?_
        refine r_iconst (pc := 54) C dX11_run_54 ki0 ?_
        refine r_istore_n (pc := 55) C dX11_run_55 rfl (by decide) rfl (ls' := [(3, .int 0), (0, .ref (gad 50 0)), (1, .int p1), (2, .int p2)]) rfl ?_
        refine r_sub C [1, 2, 3, 0] (ls' := [(0, .ref (gad 50 0)), (1, .int p1), (2, .int p2), (3, .int 0)]) rfl ?_
        obtain ⟨ev, hit, hr⟩ := gBind_some hr
        refine gIter_V (step := fun s => X11_run_L56 p1 p2 s.1 s.2) (P := fun s => Ψ s.2 56 [(0, .ref (gad 50 0)), (1, .int p1), (2, .int p2), (3, .int (s.1))] []) (K := (fun e => Ψ e.2 108 [(0, .ref (gad 50 0)), (1, .int p1), (2, .int p2), (3, .int (e.1))] [])) (fun s w hs hn hx => t_X11_run_L56 C  hs hn hx) FU (0, M_10) ev hit ?_
        obtain ⟨x3_20, M_21⟩ := ev
        replace hr := gU2_some hr
        show Ψ M_21 108 [(0, .ref (gad 50 0)), (1, .int p1), (2, .int p2), (3, .int x3_20)] []
        exact t_X11_run_J108 C CR  hr
      · replace hr := (if_pos c_8).symm.trans hr
        refine r_ldc (pc := 38) C dX11_run_38 q1626 ?_
        exact r_iret (pc := 40) CR dX11_run_40 (congrArg (fun z => some (Value.int z)) (Prod.mk.inj (gSome hr)).1) (Prod.mk.inj (gSome hr)).2
theorem c_X11_run {Ψ : gM → Nat → List (Nat × Value) → List Value → Prop} {G : gG5} {nf : Nat} {cc : ByteArray} {own : String} {nL : Nat} {ret : Option FieldType} {fr lo : Nat} {v0 : Option Value} {M0 M : gM} {pc index : Nat} {ls : List (Nat × Value)} {st : List Value} (C : gC Ψ G (gXn nf) cc own nL ret fr lo v0 M0) (d : decode cc pc = .ok (.invokevirtual index, 3)) (hl : Cond.methodLink own index yX11_run ∈ gws) (hR : 10 ≤ fr ∧ 255 ≤ lo) {p1 : Int32} {p2 : Int32} {r : Int32} {M1 : gM} (hr : X11_run p1 p2 M = some (r, M1)) (hcat : (st.map fun v => v.category).sum ≤ 8) (k : Ψ M1 (pc + 3) ls (.int r :: st)) : Ψ M pc ls (.int p2 :: .int p1 :: .ref (gad 50 0) :: st) := r_callV C [.int p1, .int p2] st d (k_X11_run hr) hl q1973 q1974 q127 q1975 hd_X11_run hR rfl (by decide) (e50 nf) rfl hcat k
theorem hd_X11_perform : yX11_perform.cls ≠ "java/lang/invoke/MethodHandle" ∧ yX11_perform.cls ≠ "java/lang/invoke/VarHandle" ∧ (parseMethodDescriptor yX11_perform.desc).map (fun d => d.parameters.length) = some 1 := by decide +kernel
noncomputable def X11_perform_J138 (x1 : Int32) (x2 : Int32) (x3 : Int32) (x4 : Int32) (xs0 : Int32) (M : gM) : Option ((Int32 × gM) ⊕ (Int32 × gM)) := (if x4 = 8 then gG (gin (x3 + 1) 300) ((X11_tells xs0 (M.1 52 5 (Int32.toNatClampNeg (x3 + 1))) M).bind (fun M_27 => gLet (x2 + 1) (fun x2_28 => some (.inl (x2_28, M_27))))) else (X11_tells xs0 (x4 - 4) M).bind (fun M_23 => gLet (x2 + 1) (fun x2_24 => some (.inl (x2_24, M_23)))))
theorem t_X11_perform_J138 {Ψ : gM → Nat → List (Nat × Value) → List Value → Prop} {G : gG5} {nf : Nat} {M : gM} {v0 : Option Value} {M0 : gM} {x1 : Int32} {x2 : Int32} {x3 : Int32} {x4 : Int32} {xs0 : Int32} {w : ((Int32 × gM) ⊕ (Int32 × gM))} (C : gC Ψ G (gXn nf) cX11_perform RX11 5 (some .int) 9 232 v0 M0) (hr : X11_perform_J138 x1 x2 x3 x4 xs0 M = some w) (hn : ∀ s, w = .inl s → Ψ s.2 32 [(0, .ref (gad 50 0)), (1, .int x1), (2, .int (s.1))] []) (hx : ∀ e, w = .inr e → (fun e => Ψ e.2 169 [(2, .int (e.1))] []) e) : Ψ M 138 [(0, .ref (gad 50 0)), (1, .int x1), (2, .int x2), (3, .int x3), (4, .int x4)] [.int xs0, .ref (gad 50 0)] := by
  refine r_iload (pc := 138) C dX11_perform_138 4 rfl ?_
  refine r_bipush (pc := 140) C dX11_perform_140 kb8 ?_
  refine r_icmp_ne (pc := 142) (tgt := 156) C dX11_perform_142 rfl (fun c_21 => ?_) (fun c_21 => ?_)
  · replace hr := (if_neg c_21).symm.trans hr
    refine r_iload (pc := 156) C dX11_perform_156 4 rfl ?_
    refine r_iconst (pc := 158) C dX11_perform_158 ki4 ?_
    refine r_isub (pc := 159) C dX11_perform_159 ?_
    obtain ⟨M_23, hc_22, hr⟩ := gBind_some hr
    refine c_X11_tells (pc := 160) C dX11_perform_160 q1769 ⟨Nat.le_of_ble_eq_true rfl, Nat.le_of_ble_eq_true rfl⟩ hc_22 (Nat.le_of_ble_eq_true rfl) ?_
    obtain ⟨x2_24, ex2_24, hr⟩ := gLet_some hr
    refine r_iinc (pc := 163) C dX11_perform_163 2 rfl rfl (by decide) ex2_24 (ls' := [(2, .int x2_24), (0, .ref (gad 50 0)), (1, .int x1), (3, .int x3), (4, .int x4)]) rfl ?_
    refine r_goto (pc := 166) (tgt := 32) C dX11_perform_166 rfl ?_
    refine r_sub C [1, 2, 0] (ls' := [(0, .ref (gad 50 0)), (1, .int x1), (2, .int x2_24)]) rfl ?_
    exact hn (x2_24, M_23) (gSome hr)
  · replace hr := (if_pos c_21).symm.trans hr
    refine r_aload_n (pc := 145) C dX11_perform_145 rfl 0 rfl ?_
    refine g50_12 (pc := 146) C dX11_perform_146 q1412 (e50 nf) ?_
    refine r_iload_n (pc := 149) C dX11_perform_149 rfl 3 rfl ?_
    refine r_iconst (pc := 150) C dX11_perform_150 ki1 ?_
    refine r_iadd (pc := 151) C dX11_perform_151 ?_
    obtain ⟨g_25, hr⟩ := gG_some hr
    refine r_ialdN (pc := 152) C dX11_perform_152 rfl (e52 (nf := nf) (by decide)) g_25 rfl ?_
    refine r_goto (pc := 153) (tgt := 160) C dX11_perform_153 rfl ?_
    obtain ⟨M_27, hc_26, hr⟩ := gBind_some hr
    refine c_X11_tells (pc := 160) C dX11_perform_160 q1769 ⟨Nat.le_of_ble_eq_true rfl, Nat.le_of_ble_eq_true rfl⟩ hc_26 (Nat.le_of_ble_eq_true rfl) ?_
    obtain ⟨x2_28, ex2_28, hr⟩ := gLet_some hr
    refine r_iinc (pc := 163) C dX11_perform_163 2 rfl rfl (by decide) ex2_28 (ls' := [(2, .int x2_28), (0, .ref (gad 50 0)), (1, .int x1), (3, .int x3), (4, .int x4)]) rfl ?_
    refine r_goto (pc := 166) (tgt := 32) C dX11_perform_166 rfl ?_
    refine r_sub C [1, 2, 0] (ls' := [(0, .ref (gad 50 0)), (1, .int x1), (2, .int x2_28)]) rfl ?_
    exact hn (x2_28, M_27) (gSome hr)
noncomputable def X11_perform_L32 (x1 : Int32) (x2 : Int32) (M : gM) : Option ((Int32 × gM) ⊕ (Int32 × gM)) := gG (gin x1 5) ((if (M.1 52 6 (Int32.toNatClampNeg x1)) ≤ x2 then some (.inr (x2, M)) else (X11_stopsStep 8 (5 * ((12 * x1) + x2)) M).bind (gU2 (fun r_9 M_10 => (if r_9 = (-1) then gLet ((5 * ((12 * x1) + x2))) (fun x3_12 => gG (gin x3_12 300) (gLet ((M_10.1 52 5 (Int32.toNatClampNeg x3_12))) (fun x4_14 => (X11_remember M_10).bind (fun M_16 => (X11_doesStep 8 x3_12 M_16).bind (fun M_18 => (if 4 ≤ x4_14 then (if x4_14 = 8 then X11_perform_J138 x1 x2 x3_12 x4_14 5 M_18 else X11_perform_J138 x1 x2 x3_12 x4_14 4 M_18) else (if 2 ≤ x4_14 then (X11_tells x4_14 0 M_18).bind (fun M_31 => gLet (x2 + 1) (fun x2_32 => some (.inl (x2_32, M_31)))) else gG (gin (x3_12 + 1) 300) ((X11_tells x4_14 (M_18.1 52 5 (Int32.toNatClampNeg (x3_12 + 1))) M_18).bind (fun M_35 => gLet (x2 + 1) (fun x2_36 => some (.inl (x2_36, M_35)))))))))))) else some (.inr (x2, M_10)))))))
theorem t_X11_perform_L32 {Ψ : gM → Nat → List (Nat × Value) → List Value → Prop} {G : gG5} {nf : Nat} {M : gM} {v0 : Option Value} {M0 : gM} {x1 : Int32} {x2 : Int32} {w : ((Int32 × gM) ⊕ (Int32 × gM))} (C : gC Ψ G (gXn nf) cX11_perform RX11 5 (some .int) 9 232 v0 M0) (hr : X11_perform_L32 x1 x2 M = some w) (hn : ∀ s, w = .inl s → Ψ s.2 32 [(0, .ref (gad 50 0)), (1, .int x1), (2, .int (s.1))] []) (hx : ∀ e, w = .inr e → (fun e => Ψ e.2 169 [(2, .int (e.1))] []) e) : Ψ M 32 [(0, .ref (gad 50 0)), (1, .int x1), (2, .int x2)] [] := by
  refine r_iload_n (pc := 32) C dX11_perform_32 rfl 2 rfl ?_
  refine r_aload_n (pc := 33) C dX11_perform_33 rfl 0 rfl ?_
  refine g50_13 (pc := 34) C dX11_perform_34 q1413 (e50 nf) ?_
  refine r_iload_n (pc := 37) C dX11_perform_37 rfl 1 rfl ?_
  obtain ⟨g_6, hr⟩ := gG_some hr
  refine r_ialdN (pc := 38) C dX11_perform_38 rfl (e52 (nf := nf) (by decide)) g_6 rfl ?_
  refine r_icmp_ge (pc := 39) (tgt := 169) C dX11_perform_39 rfl (fun c_7 => ?_) (fun c_7 => ?_)
  · replace hr := (if_pos c_7).symm.trans hr
    refine r_sub C [2] (ls' := [(2, .int x2)]) rfl ?_
    exact hx (x2, M) (gSome hr)
  · replace hr := (if_neg c_7).symm.trans hr
    refine r_aload_n (pc := 42) C dX11_perform_42 rfl 0 rfl ?_
    refine r_aload_n (pc := 43) C dX11_perform_43 rfl 0 rfl ?_
    refine g50_18 (pc := 44) C dX11_perform_44 q1418 (e50 nf) ?_
    refine r_iconst (pc := 47) C dX11_perform_47 ki5 ?_
    refine r_bipush (pc := 48) C dX11_perform_48 kb12 ?_
    refine r_iload_n (pc := 50) C dX11_perform_50 rfl 1 rfl ?_
    refine r_imul (pc := 51) C dX11_perform_51 ?_
    refine r_iload_n (pc := 52) C dX11_perform_52 rfl 2 rfl ?_
    refine r_iadd (pc := 53) C dX11_perform_53 ?_
    refine r_imul (pc := 54) C dX11_perform_54 ?_
    obtain ⟨⟨r_9, M_10⟩, hc_8, hr⟩ := gBind_some hr
    replace hr := gU2_some hr
    refine c_X11_stopsStep (pc := 55) C dX11_perform_55 q1976 ⟨Nat.le_of_ble_eq_true rfl, Nat.le_of_ble_eq_true rfl⟩ (by decide) hc_8 (Nat.le_of_ble_eq_true rfl) ?_
    refine r_iconst (pc := 58) C dX11_perform_58 kim1 ?_
    refine r_icmp_ne (pc := 59) (tgt := 169) C dX11_perform_59 rfl (fun c_11 => ?_) (fun c_11 => ?_)
    · replace hr := (if_neg c_11).symm.trans hr
      refine r_sub C [2] (ls' := [(2, .int x2)]) rfl ?_
      exact hx (x2, M_10) (gSome hr)
    · replace hr := (if_pos c_11).symm.trans hr
      refine r_iconst (pc := 62) C dX11_perform_62 ki5 ?_
      refine r_bipush (pc := 63) C dX11_perform_63 kb12 ?_
      refine r_iload_n (pc := 65) C dX11_perform_65 rfl 1 rfl ?_
      refine r_imul (pc := 66) C dX11_perform_66 ?_
      refine r_iload_n (pc := 67) C dX11_perform_67 rfl 2 rfl ?_
      refine r_iadd (pc := 68) C dX11_perform_68 ?_
      refine r_imul (pc := 69) C dX11_perform_69 ?_
      obtain ⟨x3_12, ex3_12, hr⟩ := gLet_some hr
      refine r_istore_n (pc := 70) C dX11_perform_70 rfl (by decide) ex3_12 (ls' := [(3, .int x3_12), (0, .ref (gad 50 0)), (1, .int x1), (2, .int x2)]) rfl ?_
      refine r_aload_n (pc := 71) C dX11_perform_71 rfl 1 rfl ?_
      refine g50_12 (pc := 72) C dX11_perform_72 q1412 (e50 nf) ?_
      refine r_iload_n (pc := 75) C dX11_perform_75 rfl 0 rfl ?_
      obtain ⟨g_13, hr⟩ := gG_some hr
      refine r_ialdN (pc := 76) C dX11_perform_76 rfl (e52 (nf := nf) (by decide)) g_13 rfl ?_
      obtain ⟨x4_14, ex4_14, hr⟩ := gLet_some hr
      refine r_istore (pc := 77) C dX11_perform_77 (by decide) ex4_14 (ls' := [(4, .int x4_14), (3, .int x3_12), (0, .ref (gad 50 0)), (1, .int x1), (2, .int x2)]) rfl ?_
      refine r_aload_n (pc := 79) C dX11_perform_79 rfl 2 rfl ?_
      obtain ⟨M_16, hc_15, hr⟩ := gBind_some hr
      refine c_X11_remember (pc := 80) C dX11_perform_80 q1698 ⟨Nat.le_of_ble_eq_true rfl, Nat.le_of_ble_eq_true rfl⟩ hc_15 (Nat.le_of_ble_eq_true rfl) ?_
      refine r_aload_n (pc := 83) C dX11_perform_83 rfl 2 rfl ?_
      refine r_aload_n (pc := 84) C dX11_perform_84 rfl 2 rfl ?_
      refine g50_18 (pc := 85) C dX11_perform_85 q1418 (e50 nf) ?_
      refine r_iload_n (pc := 88) C dX11_perform_88 rfl 1 rfl ?_
      obtain ⟨M_18, hc_17, hr⟩ := gBind_some hr
      refine c_X11_doesStep (pc := 89) C dX11_perform_89 q1980 ⟨Nat.le_of_ble_eq_true rfl, Nat.le_of_ble_eq_true rfl⟩ (by decide) hc_17 (Nat.le_of_ble_eq_true rfl) ?_
      refine r_iload (pc := 92) C dX11_perform_92 0 rfl ?_
      refine r_iconst (pc := 94) C dX11_perform_94 ki4 ?_
      refine r_icmp_ge (pc := 95) (tgt := 125) C dX11_perform_95 rfl (fun c_19 => ?_) (fun c_19 => ?_)
      · replace hr := (if_pos c_19).symm.trans hr
        refine r_aload_n (pc := 125) C dX11_perform_125 rfl 2 rfl ?_
        refine r_iload (pc := 126) C dX11_perform_126 0 rfl ?_
        refine r_bipush (pc := 128) C dX11_perform_128 kb8 ?_
        refine r_icmp_ne (pc := 130) (tgt := 137) C dX11_perform_130 rfl (fun c_20 => ?_) (fun c_20 => ?_)
        · replace hr := (if_neg c_20).symm.trans hr
          refine r_iconst (pc := 137) C dX11_perform_137 ki4 ?_
          refine r_sub C [2, 3, 4, 1, 0] (ls' := [(0, .ref (gad 50 0)), (1, .int x1), (2, .int x2), (3, .int x3_12), (4, .int x4_14)]) rfl ?_
          exact t_X11_perform_J138 C  hr hn hx
        · replace hr := (if_pos c_20).symm.trans hr
          refine r_iconst (pc := 133) C dX11_perform_133 ki5 ?_
          refine r_goto (pc := 134) (tgt := 138) C dX11_perform_134 rfl ?_
          refine r_sub C [2, 3, 4, 1, 0] (ls' := [(0, .ref (gad 50 0)), (1, .int x1), (2, .int x2), (3, .int x3_12), (4, .int x4_14)]) rfl ?_
          exact t_X11_perform_J138 C  hr hn hx
      · replace hr := (if_neg c_19).symm.trans hr
        refine r_aload_n (pc := 98) C dX11_perform_98 rfl 2 rfl ?_
        refine r_iload (pc := 99) C dX11_perform_99 0 rfl ?_
        refine r_iload (pc := 101) C dX11_perform_101 0 rfl ?_
        refine r_iconst (pc := 103) C dX11_perform_103 ki2 ?_
        refine r_icmp_ge (pc := 104) (tgt := 118) C dX11_perform_104 rfl (fun c_29 => ?_) (fun c_29 => ?_)
        · replace hr := (if_pos c_29).symm.trans hr
          refine r_iconst (pc := 118) C dX11_perform_118 ki0 ?_
          obtain ⟨M_31, hc_30, hr⟩ := gBind_some hr
          refine c_X11_tells (pc := 119) C dX11_perform_119 q1769 ⟨Nat.le_of_ble_eq_true rfl, Nat.le_of_ble_eq_true rfl⟩ hc_30 (Nat.le_of_ble_eq_true rfl) ?_
          refine r_goto (pc := 122) (tgt := 163) C dX11_perform_122 rfl ?_
          obtain ⟨x2_32, ex2_32, hr⟩ := gLet_some hr
          refine r_iinc (pc := 163) C dX11_perform_163 4 rfl rfl (by decide) ex2_32 (ls' := [(2, .int x2_32), (4, .int x4_14), (3, .int x3_12), (0, .ref (gad 50 0)), (1, .int x1)]) rfl ?_
          refine r_goto (pc := 166) (tgt := 32) C dX11_perform_166 rfl ?_
          refine r_sub C [3, 4, 0] (ls' := [(0, .ref (gad 50 0)), (1, .int x1), (2, .int x2_32)]) rfl ?_
          exact hn (x2_32, M_31) (gSome hr)
        · replace hr := (if_neg c_29).symm.trans hr
          refine r_aload_n (pc := 107) C dX11_perform_107 rfl 2 rfl ?_
          refine g50_12 (pc := 108) C dX11_perform_108 q1412 (e50 nf) ?_
          refine r_iload_n (pc := 111) C dX11_perform_111 rfl 1 rfl ?_
          refine r_iconst (pc := 112) C dX11_perform_112 ki1 ?_
          refine r_iadd (pc := 113) C dX11_perform_113 ?_
          obtain ⟨g_33, hr⟩ := gG_some hr
          refine r_ialdN (pc := 114) C dX11_perform_114 rfl (e52 (nf := nf) (by decide)) g_33 rfl ?_
          refine r_goto (pc := 115) (tgt := 119) C dX11_perform_115 rfl ?_
          obtain ⟨M_35, hc_34, hr⟩ := gBind_some hr
          refine c_X11_tells (pc := 119) C dX11_perform_119 q1769 ⟨Nat.le_of_ble_eq_true rfl, Nat.le_of_ble_eq_true rfl⟩ hc_34 (Nat.le_of_ble_eq_true rfl) ?_
          refine r_goto (pc := 122) (tgt := 163) C dX11_perform_122 rfl ?_
          obtain ⟨x2_36, ex2_36, hr⟩ := gLet_some hr
          refine r_iinc (pc := 163) C dX11_perform_163 4 rfl rfl (by decide) ex2_36 (ls' := [(2, .int x2_36), (4, .int x4_14), (3, .int x3_12), (0, .ref (gad 50 0)), (1, .int x1)]) rfl ?_
          refine r_goto (pc := 166) (tgt := 32) C dX11_perform_166 rfl ?_
          refine r_sub C [3, 4, 0] (ls' := [(0, .ref (gad 50 0)), (1, .int x1), (2, .int x2_36)]) rfl ?_
          exact hn (x2_36, M_35) (gSome hr)
noncomputable def X11_perform (p1 : Int32) (M : gM) : Option (Int32 × gM) := gLet (wI M 50 0 0 0) (fun M_1 => (X11_isIn (Int32.toInt64 p1) 0 (Int32.toInt64 ((M_1.1 50 0 17) - 1)) M_1).bind (fun r_3 => (if r_3 = 0 then some ((-1), M_1) else (if (M_1.1 50 0 16) = 0 then some ((-1), M_1) else (gIter (fun s => X11_perform_L32 p1 s.1 s.2) FU (0, M_1)).bind (gU2 (fun x2_37 M_38 => some (x2_37, M_38)))))))
theorem k_X11_perform {G : gG5} {nf : Nat} {M : gM} {p1 : Int32} {r : Int32} {M1 : gM} (hr : X11_perform p1 M = some (r, M1)) : gMet G (gXn nf) yX11_perform cX11_perform 5 (some .int) 9 232 M [.ref (gad 50 0), .int p1] (some (.int r)) M1 := by
  refine gMet_of pl_X11 rfl (Nat.le_of_ble_eq_true rfl) (fun Ψ C CR => ?_)
  show Ψ M 0 [(0, .ref (gad 50 0)), (1, .int p1)] []
  refine r_aload_n (pc := 0) C dX11_perform_0 rfl 0 rfl ?_
  refine r_iconst (pc := 1) C dX11_perform_1 ki0 ?_
  obtain ⟨M_1, eM_1, hr⟩ := gLet_some hr
  refine p50_0 (pc := 2) C dX11_perform_2 q1400 (e50 nf) eM_1 ?_
  refine r_iload_n (pc := 5) C dX11_perform_5 rfl 1 rfl ?_
  refine r_i2l (pc := 6) C dX11_perform_6 ?_
  refine r_lconst (pc := 7) (v := 0) C dX11_perform_7 rfl ?_
  refine r_aload_n (pc := 8) C dX11_perform_8 rfl 0 rfl ?_
  refine g50_17 (pc := 9) C dX11_perform_9 q1417 (e50 nf) ?_
  refine r_iconst (pc := 12) C dX11_perform_12 ki1 ?_
  refine r_isub (pc := 13) C dX11_perform_13 ?_
  refine r_i2l (pc := 14) C dX11_perform_14 ?_
  obtain ⟨r_3, hc_2, hr⟩ := gBind_some hr
  refine c_X11_isIn (pc := 15) C dX11_perform_15 q1538 ⟨Nat.le_of_ble_eq_true rfl, Nat.le_of_ble_eq_true rfl⟩ hc_2 (Nat.le_of_ble_eq_true rfl) ?_
  refine r_if_eq (pc := 18) (tgt := 28) C dX11_perform_18 rfl (fun c_4 => ?_) (fun c_4 => ?_)
  · replace hr := (if_pos c_4).symm.trans hr
    refine r_iconst (pc := 28) C dX11_perform_28 kim1 ?_
    exact r_iret (pc := 29) CR dX11_perform_29 (congrArg (fun z => some (Value.int z)) (Prod.mk.inj (gSome hr)).1) (Prod.mk.inj (gSome hr)).2
  · replace hr := (if_neg c_4).symm.trans hr
    refine r_aload_n (pc := 21) C dX11_perform_21 rfl 0 rfl ?_
    refine g50_16 (pc := 22) C dX11_perform_22 q1416 (e50 nf) ?_
    refine r_if_ne (pc := 25) (tgt := 30) C dX11_perform_25 rfl (fun c_5 => ?_) (fun c_5 => ?_)
    · replace hr := (if_neg c_5).symm.trans hr
      refine r_iconst (pc := 30) C dX11_perform_30 ki0 ?_
      refine r_istore_n (pc := 31) C dX11_perform_31 rfl (by decide) rfl (ls' := [(2, .int 0), (0, .ref (gad 50 0)), (1, .int p1)]) rfl ?_
      refine r_sub C [1, 2, 0] (ls' := [(0, .ref (gad 50 0)), (1, .int p1), (2, .int 0)]) rfl ?_
      obtain ⟨ev, hit, hr⟩ := gBind_some hr
      refine gIter_V (step := fun s => X11_perform_L32 p1 s.1 s.2) (P := fun s => Ψ s.2 32 [(0, .ref (gad 50 0)), (1, .int p1), (2, .int (s.1))] []) (K := (fun e => Ψ e.2 169 [(2, .int (e.1))] [])) (fun s w hs hn hx => t_X11_perform_L32 C  hs hn hx) FU (0, M_1) ev hit ?_
      obtain ⟨x2_37, M_38⟩ := ev
      replace hr := gU2_some hr
      show Ψ M_38 169 [(2, .int x2_37)] []
      refine r_iload_n (pc := 169) C dX11_perform_169 rfl 0 rfl ?_
      exact r_iret (pc := 170) CR dX11_perform_170 (congrArg (fun z => some (Value.int z)) (Prod.mk.inj (gSome hr)).1) (Prod.mk.inj (gSome hr)).2
    · replace hr := (if_pos c_5).symm.trans hr
      refine r_iconst (pc := 28) C dX11_perform_28 kim1 ?_
      exact r_iret (pc := 29) CR dX11_perform_29 (congrArg (fun z => some (Value.int z)) (Prod.mk.inj (gSome hr)).1) (Prod.mk.inj (gSome hr)).2
theorem c_X11_perform {Ψ : gM → Nat → List (Nat × Value) → List Value → Prop} {G : gG5} {nf : Nat} {cc : ByteArray} {own : String} {nL : Nat} {ret : Option FieldType} {fr lo : Nat} {v0 : Option Value} {M0 M : gM} {pc index : Nat} {ls : List (Nat × Value)} {st : List Value} (C : gC Ψ G (gXn nf) cc own nL ret fr lo v0 M0) (d : decode cc pc = .ok (.invokevirtual index, 3)) (hl : Cond.methodLink own index yX11_perform ∈ gws) (hR : 10 ≤ fr ∧ 256 ≤ lo) {p1 : Int32} {r : Int32} {M1 : gM} (hr : X11_perform p1 M = some (r, M1)) (hcat : (st.map fun v => v.category).sum ≤ 8) (k : Ψ M1 (pc + 3) ls (.int r :: st)) : Ψ M pc ls (.int p1 :: .ref (gad 50 0) :: st) := r_callV C [.int p1] st d (k_X11_perform hr) hl q1985 q1986 q127 q1987 hd_X11_perform hR rfl (by decide) (e50 nf) rfl hcat k
