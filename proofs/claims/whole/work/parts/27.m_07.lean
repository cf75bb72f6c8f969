theorem hd_X11_isWellOfScript : yX11_isWellOfScript.cls ≠ "java/lang/invoke/MethodHandle" ∧ yX11_isWellOfScript.cls ≠ "java/lang/invoke/VarHandle" ∧ (parseMethodDescriptor yX11_isWellOfScript.desc).map (fun d => d.parameters.length) = some 3 := by decide +kernel
noncomputable def X11_isWellOfScript (p0 : Int32) (p1 : Int32) (p2 : Int32) (M : gM) : Option Int32 := (if p0 = 0 then (X11_isIn (Int32.toInt64 p2) 0 9 M).bind (fun r_3 => gG (gb r_3) (some r_3)) else if p0 = 1 then (X11_isIn (Int32.toInt64 p2) 0 15 M).bind (fun r_6 => gG (gb r_6) (some r_6)) else if p0 = 2 then (X11_isIn (Int32.toInt64 p2) 0 1 M).bind (fun r_9 => gG (gb r_9) (some r_9)) else if p0 = 3 then (X11_isIn (Int32.toInt64 p2) 0 1 M).bind (fun r_12 => gG (gb r_12) (some r_12)) else if p0 = 4 then (X11_isIn (Int32.toInt64 p2) 0 2 M).bind (fun r_15 => gG (gb r_15) (some r_15)) else if p0 = 5 then (X11_isIn (Int32.toInt64 p2) 0 1 M).bind (fun r_18 => gG (gb r_18) (some r_18)) else if p0 = 6 then (X11_isIn (Int32.toInt64 p2) 0 1 M).bind (fun r_21 => gG (gb r_21) (some r_21)) else if p0 = 7 then (X11_isIn (Int32.toInt64 p2) 1 10 M).bind (fun r_24 => gG (gb r_24) (some r_24)) else if p0 = 8 then (if p1 = 0 then (X11_isIn (Int32.toInt64 p2) 0 9 M).bind (fun r_35 => gG (gb r_35) (some r_35)) else (if p1 = 1 then (X11_isIn (Int32.toInt64 p2) 0 2 M).bind (fun r_32 => gG (gb r_32) (some r_32)) else (X11_isIn (Int32.toInt64 p2) (-20) 20 M).bind (fun r_29 => gG (gb r_29) (some r_29)))) else (X11_isIn (Int32.toInt64 p2) 0 1 M).bind (fun r_38 => gG (gb r_38) (some r_38)))
theorem k_X11_isWellOfScript {G : gG5} {nf : Nat} {M : gM} {p0 : Int32} {p1 : Int32} {p2 : Int32} {r : Int32} (hr : X11_isWellOfScript p0 p1 p2 M = some r) : gMet G (gXn nf) yX11_isWellOfScript cX11_isWellOfScript 3 (some .boolean) 1 25 M [.int p0, .int p1, .int p2] (some (.int r)) M := by
  refine gMet_of pl_X11 rfl (Nat.le_of_ble_eq_true rfl) (fun Ψ C CR => ?_)
  show Ψ M 0 [(0, .int p0), (1, .int p1), (2, .int p2)] []
  refine r_iload_n (pc := 0) C dX11_isWellOfScript_0 rfl 0 rfl ?_
  by_cases c_1_0 : p0 = 0
  · replace hr := (if_pos c_1_0).symm.trans hr
    refine r_tableIn (pc := 1) (tgt := 52) (off := 51) C dX11_isWellOfScript_1 0 c_1_0 (by decide) rfl ?_
    refine r_iload_n (pc := 52) C dX11_isWellOfScript_52 rfl 2 rfl ?_
    refine r_i2l (pc := 53) C dX11_isWellOfScript_53 ?_
    refine r_lconst (pc := 54) (v := 0) C dX11_isWellOfScript_54 rfl ?_
    refine r_ldc2 (pc := 55) C dX11_isWellOfScript_55 q1613 ?_
    obtain ⟨r_3, hc_2, hr⟩ := gBind_some hr
    refine c_X11_isIn (pc := 58) C dX11_isWellOfScript_58 q1538 ⟨Nat.le_of_ble_eq_true rfl, Nat.le_of_ble_eq_true rfl⟩ hc_2 (Nat.le_of_ble_eq_true rfl) ?_
    obtain ⟨g_4, hr⟩ := gG_some hr
    exact r_zret (pc := 61) CR dX11_isWellOfScript_61 (gb_nar g_4) (congrArg (fun z => some (Value.int z)) (gSome hr)) rfl
  replace hr := (if_neg c_1_0).symm.trans hr
  by_cases c_1_1 : p0 = 1
  · replace hr := (if_pos c_1_1).symm.trans hr
    refine r_tableIn (pc := 1) (tgt := 62) (off := 61) C dX11_isWellOfScript_1 1 c_1_1 (by decide) rfl ?_
    refine r_iload_n (pc := 62) C dX11_isWellOfScript_62 rfl 2 rfl ?_
    refine r_i2l (pc := 63) C dX11_isWellOfScript_63 ?_
    refine r_lconst (pc := 64) (v := 0) C dX11_isWellOfScript_64 rfl ?_
    refine r_ldc2 (pc := 65) C dX11_isWellOfScript_65 q1614 ?_
    obtain ⟨r_6, hc_5, hr⟩ := gBind_some hr
    refine c_X11_isIn (pc := 68) C dX11_isWellOfScript_68 q1538 ⟨Nat.le_of_ble_eq_true rfl, Nat.le_of_ble_eq_true rfl⟩ hc_5 (Nat.le_of_ble_eq_true rfl) ?_
    obtain ⟨g_7, hr⟩ := gG_some hr
    exact r_zret (pc := 71) CR dX11_isWellOfScript_71 (gb_nar g_7) (congrArg (fun z => some (Value.int z)) (gSome hr)) rfl
  replace hr := (if_neg c_1_1).symm.trans hr
  by_cases c_1_2 : p0 = 2
  · replace hr := (if_pos c_1_2).symm.trans hr
    refine r_tableIn (pc := 1) (tgt := 137) (off := 136) C dX11_isWellOfScript_1 2 c_1_2 (by decide) rfl ?_
    refine r_iload_n (pc := 137) C dX11_isWellOfScript_137 rfl 2 rfl ?_
    refine r_i2l (pc := 138) C dX11_isWellOfScript_138 ?_
    refine r_lconst (pc := 139) (v := 0) C dX11_isWellOfScript_139 rfl ?_
    refine r_lconst (pc := 140) (v := 1) C dX11_isWellOfScript_140 rfl ?_
    obtain ⟨r_9, hc_8, hr⟩ := gBind_some hr
    refine c_X11_isIn (pc := 141) C dX11_isWellOfScript_141 q1538 ⟨Nat.le_of_ble_eq_true rfl, Nat.le_of_ble_eq_true rfl⟩ hc_8 (Nat.le_of_ble_eq_true rfl) ?_
    obtain ⟨g_10, hr⟩ := gG_some hr
    exact r_zret (pc := 144) CR dX11_isWellOfScript_144 (gb_nar g_10) (congrArg (fun z => some (Value.int z)) (gSome hr)) rfl
  replace hr := (if_neg c_1_2).symm.trans hr
  by_cases c_1_3 : p0 = 3
  · replace hr := (if_pos c_1_3).symm.trans hr
    refine r_tableIn (pc := 1) (tgt := 137) (off := 136) C dX11_isWellOfScript_1 3 c_1_3 (by decide) rfl ?_
    refine r_iload_n (pc := 137) C dX11_isWellOfScript_137 rfl 2 rfl ?_
    refine r_i2l (pc := 138) C dX11_isWellOfScript_138 ?_
    refine r_lconst (pc := 139) (v := 0) C dX11_isWellOfScript_139 rfl ?_
    refine r_lconst (pc := 140) (v := 1) C dX11_isWellOfScript_140 rfl ?_
    obtain ⟨r_12, hc_11, hr⟩ := gBind_some hr
    refine c_X11_isIn (pc := 141) C dX11_isWellOfScript_141 q1538 ⟨Nat.le_of_ble_eq_true rfl, Nat.le_of_ble_eq_true rfl⟩ hc_11 (Nat.le_of_ble_eq_true rfl) ?_
    obtain ⟨g_13, hr⟩ := gG_some hr
    exact r_zret (pc := 144) CR dX11_isWellOfScript_144 (gb_nar g_13) (congrArg (fun z => some (Value.int z)) (gSome hr)) rfl
  replace hr := (if_neg c_1_3).symm.trans hr
  by_cases c_1_4 : p0 = 4
  · replace hr := (if_pos c_1_4).symm.trans hr
    refine r_tableIn (pc := 1) (tgt := 72) (off := 71) C dX11_isWellOfScript_1 4 c_1_4 (by decide) rfl ?_
    refine r_iload_n (pc := 72) C dX11_isWellOfScript_72 rfl 2 rfl ?_
    refine r_i2l (pc := 73) C dX11_isWellOfScript_73 ?_
    refine r_lconst (pc := 74) (v := 0) C dX11_isWellOfScript_74 rfl ?_
    refine r_ldc2 (pc := 75) C dX11_isWellOfScript_75 q1607 ?_
    obtain ⟨r_15, hc_14, hr⟩ := gBind_some hr
    refine c_X11_isIn (pc := 78) C dX11_isWellOfScript_78 q1538 ⟨Nat.le_of_ble_eq_true rfl, Nat.le_of_ble_eq_true rfl⟩ hc_14 (Nat.le_of_ble_eq_true rfl) ?_
    obtain ⟨g_16, hr⟩ := gG_some hr
    exact r_zret (pc := 81) CR dX11_isWellOfScript_81 (gb_nar g_16) (congrArg (fun z => some (Value.int z)) (gSome hr)) rfl
  replace hr := (if_neg c_1_4).symm.trans hr
  by_cases c_1_5 : p0 = 5
  · replace hr := (if_pos c_1_5).symm.trans hr
    refine r_tableIn (pc := 1) (tgt := 137) (off := 136) C dX11_isWellOfScript_1 5 c_1_5 (by decide) rfl ?_
    refine r_iload_n (pc := 137) C dX11_isWellOfScript_137 rfl 2 rfl ?_
    refine r_i2l (pc := 138) C dX11_isWellOfScript_138 ?_
    refine r_lconst (pc := 139) (v := 0) C dX11_isWellOfScript_139 rfl ?_
    refine r_lconst (pc := 140) (v := 1) C dX11_isWellOfScript_140 rfl ?_
    obtain ⟨r_18, hc_17, hr⟩ := gBind_some hr
    refine c_X11_isIn (pc := 141) C dX11_isWellOfScript_141 q1538 ⟨Nat.le_of_ble_eq_true rfl, Nat.le_of_ble_eq_true rfl⟩ hc_17 (Nat.le_of_ble_eq_true rfl) ?_
    obtain ⟨g_19, hr⟩ := gG_some hr
    exact r_zret (pc := 144) CR dX11_isWellOfScript_144 (gb_nar g_19) (congrArg (fun z => some (Value.int z)) (gSome hr)) rfl
  replace hr := (if_neg c_1_5).symm.trans hr
  by_cases c_1_6 : p0 = 6
  · replace hr := (if_pos c_1_6).symm.trans hr
    refine r_tableIn (pc := 1) (tgt := 137) (off := 136) C dX11_isWellOfScript_1 6 c_1_6 (by decide) rfl ?_
    refine r_iload_n (pc := 137) C dX11_isWellOfScript_137 rfl 2 rfl ?_
    refine r_i2l (pc := 138) C dX11_isWellOfScript_138 ?_
    refine r_lconst (pc := 139) (v := 0) C dX11_isWellOfScript_139 rfl ?_
    refine r_lconst (pc := 140) (v := 1) C dX11_isWellOfScript_140 rfl ?_
    obtain ⟨r_21, hc_20, hr⟩ := gBind_some hr
    refine c_X11_isIn (pc := 141) C dX11_isWellOfScript_141 q1538 ⟨Nat.le_of_ble_eq_true rfl, Nat.le_of_ble_eq_true rfl⟩ hc_20 (Nat.le_of_ble_eq_true rfl) ?_
    obtain ⟨g_22, hr⟩ := gG_some hr
    exact r_zret (pc := 144) CR dX11_isWellOfScript_144 (gb_nar g_22) (congrArg (fun z => some (Value.int z)) (gSome hr)) rfl
  replace hr := (if_neg c_1_6).symm.trans hr
  by_cases c_1_7 : p0 = 7
  · replace hr := (if_pos c_1_7).symm.trans hr
    refine r_tableIn (pc := 1) (tgt := 82) (off := 81) C dX11_isWellOfScript_1 7 c_1_7 (by decide) rfl ?_
    refine r_iload_n (pc := 82) C dX11_isWellOfScript_82 rfl 2 rfl ?_
    refine r_i2l (pc := 83) C dX11_isWellOfScript_83 ?_
    refine r_lconst (pc := 84) (v := 1) C dX11_isWellOfScript_84 rfl ?_
    refine r_ldc2 (pc := 85) C dX11_isWellOfScript_85 q1609 ?_
    obtain ⟨r_24, hc_23, hr⟩ := gBind_some hr
    refine c_X11_isIn (pc := 88) C dX11_isWellOfScript_88 q1538 ⟨Nat.le_of_ble_eq_true rfl, Nat.le_of_ble_eq_true rfl⟩ hc_23 (Nat.le_of_ble_eq_true rfl) ?_
    obtain ⟨g_25, hr⟩ := gG_some hr
    exact r_zret (pc := 91) CR dX11_isWellOfScript_91 (gb_nar g_25) (congrArg (fun z => some (Value.int z)) (gSome hr)) rfl
  replace hr := (if_neg c_1_7).symm.trans hr
  by_cases c_1_8 : p0 = 8
  · replace hr := (if_pos c_1_8).symm.trans hr
    refine r_tableIn (pc := 1) (tgt := 92) (off := 91) C dX11_isWellOfScript_1 8 c_1_8 (by decide) rfl ?_
    refine r_iload_n (pc := 92) C dX11_isWellOfScript_92 rfl 1 rfl ?_
    refine r_if_ne (pc := 93) (tgt := 108) C dX11_isWellOfScript_93 rfl (fun c_26 => ?_) (fun c_26 => ?_)
    · replace hr := (if_neg c_26).symm.trans hr
      refine r_iload_n (pc := 108) C dX11_isWellOfScript_108 rfl 1 rfl ?_
      refine r_iconst (pc := 109) C dX11_isWellOfScript_109 ki1 ?_
      refine r_icmp_ne (pc := 110) (tgt := 125) C dX11_isWellOfScript_110 rfl (fun c_27 => ?_) (fun c_27 => ?_)
      · replace hr := (if_neg c_27).symm.trans hr
        refine r_iload_n (pc := 125) C dX11_isWellOfScript_125 rfl 2 rfl ?_
        refine r_i2l (pc := 126) C dX11_isWellOfScript_126 ?_
        refine r_ldc2 (pc := 127) C dX11_isWellOfScript_127 q1615 ?_
        refine r_ldc2 (pc := 130) C dX11_isWellOfScript_130 q1616 ?_
        obtain ⟨r_29, hc_28, hr⟩ := gBind_some hr
        refine c_X11_isIn (pc := 133) C dX11_isWellOfScript_133 q1538 ⟨Nat.le_of_ble_eq_true rfl, Nat.le_of_ble_eq_true rfl⟩ hc_28 (Nat.le_of_ble_eq_true rfl) ?_
        obtain ⟨g_30, hr⟩ := gG_some hr
        exact r_zret (pc := 136) CR dX11_isWellOfScript_136 (gb_nar g_30) (congrArg (fun z => some (Value.int z)) (gSome hr)) rfl
      · replace hr := (if_pos c_27).symm.trans hr
        refine r_iload_n (pc := 113) C dX11_isWellOfScript_113 rfl 2 rfl ?_
        refine r_i2l (pc := 114) C dX11_isWellOfScript_114 ?_
        refine r_lconst (pc := 115) (v := 0) C dX11_isWellOfScript_115 rfl ?_
        refine r_ldc2 (pc := 116) C dX11_isWellOfScript_116 q1607 ?_
        obtain ⟨r_32, hc_31, hr⟩ := gBind_some hr
        refine c_X11_isIn (pc := 119) C dX11_isWellOfScript_119 q1538 ⟨Nat.le_of_ble_eq_true rfl, Nat.le_of_ble_eq_true rfl⟩ hc_31 (Nat.le_of_ble_eq_true rfl) ?_
        refine r_goto (pc := 122) (tgt := 136) C dX11_isWellOfScript_122 rfl ?_
        obtain ⟨g_33, hr⟩ := gG_some hr
        exact r_zret (pc := 136) CR dX11_isWellOfScript_136 (gb_nar g_33) (congrArg (fun z => some (Value.int z)) (gSome hr)) rfl
    · replace hr := (if_pos c_26).symm.trans hr
      refine r_iload_n (pc := 96) C dX11_isWellOfScript_96 rfl 2 rfl ?_
      refine r_i2l (pc := 97) C dX11_isWellOfScript_97 ?_
      refine r_lconst (pc := 98) (v := 0) C dX11_isWellOfScript_98 rfl ?_
      refine r_ldc2 (pc := 99) C dX11_isWellOfScript_99 q1613 ?_
      obtain ⟨r_35, hc_34, hr⟩ := gBind_some hr
      refine c_X11_isIn (pc := 102) C dX11_isWellOfScript_102 q1538 ⟨Nat.le_of_ble_eq_true rfl, Nat.le_of_ble_eq_true rfl⟩ hc_34 (Nat.le_of_ble_eq_true rfl) ?_
      refine r_goto (pc := 105) (tgt := 136) C dX11_isWellOfScript_105 rfl ?_
      obtain ⟨g_36, hr⟩ := gG_some hr
      exact r_zret (pc := 136) CR dX11_isWellOfScript_136 (gb_nar g_36) (congrArg (fun z => some (Value.int z)) (gSome hr)) rfl
  replace hr := (if_neg c_1_8).symm.trans hr
  refine r_tableOut (pc := 1) (tgt := 137) C dX11_isWellOfScript_1 (fun k h1 h2 => ?_) rfl ?_
  · rcases (show k = 0 ∨ k = 1 ∨ k = 2 ∨ k = 3 ∨ k = 4 ∨ k = 5 ∨ k = 6 ∨ k = 7 ∨ k = 8 by omega) with rfl | rfl | rfl | rfl | rfl | rfl | rfl | rfl | rfl
    all_goals assumption
  · refine r_iload_n (pc := 137) C dX11_isWellOfScript_137 rfl 2 rfl ?_
    refine r_i2l (pc := 138) C dX11_isWellOfScript_138 ?_
    refine r_lconst (pc := 139) (v := 0) C dX11_isWellOfScript_139 rfl ?_
    refine r_lconst (pc := 140) (v := 1) C dX11_isWellOfScript_140 rfl ?_
    obtain ⟨r_38, hc_37, hr⟩ := gBind_some hr
    refine c_X11_isIn (pc := 141) C dX11_isWellOfScript_141 q1538 ⟨Nat.le_of_ble_eq_true rfl, Nat.le_of_ble_eq_true rfl⟩ hc_37 (Nat.le_of_ble_eq_true rfl) ?_
    obtain ⟨g_39, hr⟩ := gG_some hr
    exact r_zret (pc := 144) CR dX11_isWellOfScript_144 (gb_nar g_39) (congrArg (fun z => some (Value.int z)) (gSome hr)) rfl
theorem c_X11_isWellOfScript {Ψ : gM → Nat → List (Nat × Value) → List Value → Prop} {G : gG5} {nf : Nat} {cc : ByteArray} {own : String} {nL : Nat} {ret : Option FieldType} {fr lo : Nat} {v0 : Option Value} {M0 M : gM} {pc index : Nat} {ls : List (Nat × Value)} {st : List Value} (C : gC Ψ G (gXn nf) cc own nL ret fr lo v0 M0) (d : decode cc pc = .ok (.invokestatic index, 3)) (hl : Cond.methodLink own index yX11_isWellOfScript ∈ gws) (hR : 2 ≤ fr ∧ 47 ≤ lo) {p0 : Int32} {p1 : Int32} {p2 : Int32} {r : Int32} (hr : X11_isWellOfScript p0 p1 p2 M = some r) (hcat : (st.map fun v => v.category).sum ≤ 8) (k : Ψ M (pc + 3) ls (.int r :: st)) : Ψ M pc ls (.int p2 :: .int p1 :: .int p0 :: st) := r_callS C [.int p0, .int p1, .int p2] st d (k_X11_isWellOfScript hr) hl q1611 q127 q1612 hd_X11_isWellOfScript hR rfl hcat k
theorem hd_X11_isWell : yX11_isWell.cls ≠ "java/lang/invoke/MethodHandle" ∧ yX11_isWell.cls ≠ "java/lang/invoke/VarHandle" ∧ (parseMethodDescriptor yX11_isWell.desc).map (fun d => d.parameters.length) = some 4 := by decide +kernel
noncomputable def X11_isWell (p0 : Int32) (p1 : Int32) (p2 : Int32) (p3 : Int32) (M : gM) : Option Int32 := (if p0 = 0 then (X11_isWellOfScript p1 p2 p3 M).bind (fun r_3 => gG (gb r_3) (some r_3)) else (X11_isWellOfScene p1 p2 p3 M).bind (fun r_6 => gG (gb r_6) (some r_6)))
theorem k_X11_isWell {G : gG5} {nf : Nat} {M : gM} {p0 : Int32} {p1 : Int32} {p2 : Int32} {p3 : Int32} {r : Int32} (hr : X11_isWell p0 p1 p2 p3 M = some r) : gMet G (gXn nf) yX11_isWell cX11_isWell 4 (some .boolean) 2 47 M [.int p0, .int p1, .int p2, .int p3] (some (.int r)) M := by
  refine gMet_of pl_X11 rfl (Nat.le_of_ble_eq_true rfl) (fun Ψ C CR => ?_)
  show Ψ M 0 [(0, .int p0), (1, .int p1), (2, .int p2), (3, .int p3)] []
  refine r_iload_n (pc := 0) C dX11_isWell_0 rfl 0 rfl ?_
  refine r_if_eq (pc := 1) (tgt := 13) C dX11_isWell_1 rfl (fun c_1 => ?_) (fun c_1 => ?_)
  · replace hr := (if_pos c_1).symm.trans hr
    refine r_iload_n (pc := 13) C dX11_isWell_13 rfl 1 rfl ?_
    refine r_iload_n (pc := 14) C dX11_isWell_14 rfl 2 rfl ?_
    refine r_iload_n (pc := 15) C dX11_isWell_15 rfl 3 rfl ?_
    obtain ⟨r_3, hc_2, hr⟩ := gBind_some hr
    refine c_X11_isWellOfScript (pc := 16) C dX11_isWell_16 q1610 ⟨Nat.le_of_ble_eq_true rfl, Nat.le_of_ble_eq_true rfl⟩ hc_2 (Nat.le_of_ble_eq_true rfl) ?_
    obtain ⟨g_4, hr⟩ := gG_some hr
    exact r_zret (pc := 19) CR dX11_isWell_19 (gb_nar g_4) (congrArg (fun z => some (Value.int z)) (gSome hr)) rfl
  · replace hr := (if_neg c_1).symm.trans hr
    refine r_iload_n (pc := 4) C dX11_isWell_4 rfl 1 rfl ?_
    refine r_iload_n (pc := 5) C dX11_isWell_5 rfl 2 rfl ?_
    refine r_iload_n (pc := 6) C dX11_isWell_6 rfl 3 rfl ?_
    obtain ⟨r_6, hc_5, hr⟩ := gBind_some hr
    refine c_X11_isWellOfScene (pc := 7) C dX11_isWell_7 q1599 ⟨Nat.le_of_ble_eq_true rfl, Nat.le_of_ble_eq_true rfl⟩ hc_5 (Nat.le_of_ble_eq_true rfl) ?_
    refine r_goto (pc := 10) (tgt := 19) C dX11_isWell_10 rfl ?_
    obtain ⟨g_7, hr⟩ := gG_some hr
    exact r_zret (pc := 19) CR dX11_isWell_19 (gb_nar g_7) (congrArg (fun z => some (Value.int z)) (gSome hr)) rfl
theorem c_X11_isWell {Ψ : gM → Nat → List (Nat × Value) → List Value → Prop} {G : gG5} {nf : Nat} {cc : ByteArray} {own : String} {nL : Nat} {ret : Option FieldType} {fr lo : Nat} {v0 : Option Value} {M0 M : gM} {pc index : Nat} {ls : List (Nat × Value)} {st : List Value} (C : gC Ψ G (gXn nf) cc own nL ret fr lo v0 M0) (d : decode cc pc = .ok (.invokestatic index, 3)) (hl : Cond.methodLink own index yX11_isWell ∈ gws) (hR : 3 ≤ fr ∧ 70 ≤ lo) {p0 : Int32} {p1 : Int32} {p2 : Int32} {p3 : Int32} {r : Int32} (hr : X11_isWell p0 p1 p2 p3 M = some r) (hcat : (st.map fun v => v.category).sum ≤ 8) (k : Ψ M (pc + 3) ls (.int r :: st)) : Ψ M pc ls (.int p3 :: .int p2 :: .int p1 :: .int p0 :: st) := r_callS C [.int p0, .int p1, .int p2, .int p3] st d (k_X11_isWell hr) hl q1597 q127 q1598 hd_X11_isWell hR rfl hcat k
theorem hd_X11_readNumbers : yX11_readNumbers.cls ≠ "java/lang/invoke/MethodHandle" ∧ yX11_readNumbers.cls ≠ "java/lang/invoke/VarHandle" ∧ (parseMethodDescriptor yX11_readNumbers.desc).map (fun d => d.parameters.length) = some 3 := by decide +kernel
noncomputable def X11_readNumbers_J50 (x1 : Int32) (x2 : Int32) (x3 : Int32) (x4 : Int32) (M : gM) : Option ((Int32 × gM) ⊕ (gM ⊕ gM)) := (X11_number M).bind (gU2 (fun r_5 M_6 => gG (gin x4 11) (gLet (wI M_6 52 0 (Int32.toNatClampNeg x4) r_5) (fun M_8 => (if (M_8.1 50 0 4) = (-1) then gG (gin x4 11) ((X11_isWell x2 x3 x4 (M_8.1 52 0 (Int32.toNatClampNeg x4)) M_8).bind (fun r_13 => (if r_13 = 0 then (X11_fails (M_8.1 50 0 7) M_8).bind (fun M_17 => gLet (x4 + 1) (fun x4_18 => some (.inl (x4_18, M_17)))) else gLet (x4 + 1) (fun x4_15 => some (.inl (x4_15, M_8)))))) else gLet (x4 + 1) (fun x4_10 => some (.inl (x4_10, M_8))))))))
theorem t_X11_readNumbers_J50 {Ψ : gM → Nat → List (Nat × Value) → List Value → Prop} {G : gG5} {nf : Nat} {M : gM} {v0 : Option Value} {M0 : gM} {x1 : Int32} {x2 : Int32} {x3 : Int32} {x4 : Int32} {w : ((Int32 × gM) ⊕ (gM ⊕ gM))} (C : gC Ψ G (gXn nf) cX11_readNumbers RX11 5 none 3 70 v0 M0) (hr : X11_readNumbers_J50 x1 x2 x3 x4 M = some w) (hn : ∀ s, w = .inl s → Ψ s.2 3 [(0, .ref (gad 50 0)), (1, .int x1), (2, .int x2), (3, .int x3), (4, .int (s.1))] []) (hx : ∀ e, w = .inr e → (gSP (fun e => Ψ e 31 [(0, .ref (gad 50 0))] []) (fun e => Ψ e 100 [] [])) e) : Ψ M 50 [(0, .ref (gad 50 0)), (1, .int x1), (2, .int x2), (3, .int x3), (4, .int x4)] [] := by
  refine r_aload_n (pc := 50) C dX11_readNumbers_50 rfl 0 rfl ?_
  refine g50_6 (pc := 51) C dX11_readNumbers_51 q1406 (e50 nf) ?_
  refine r_iload (pc := 54) C dX11_readNumbers_54 4 rfl ?_
  refine r_aload_n (pc := 56) C dX11_readNumbers_56 rfl 0 rfl ?_
  obtain ⟨⟨r_5, M_6⟩, hc_4, hr⟩ := gBind_some hr
  replace hr := gU2_some hr
  refine c_X11_number (pc := 57) C dX11_readNumbers_57 q1587 ⟨Nat.le_of_ble_eq_true rfl, Nat.le_of_ble_eq_true rfl⟩ hc_4 (Nat.le_of_ble_eq_true rfl) ?_
  obtain ⟨g_7, hr⟩ := gG_some hr
  obtain ⟨M_8, eM_8, hr⟩ := gLet_some hr
  refine r_iastN (pc := 60) C dX11_readNumbers_60 rfl (e52 (nf := nf) (by decide)) g_7 rfl eM_8 ?_
  refine r_aload_n (pc := 61) C dX11_readNumbers_61 rfl 0 rfl ?_
  refine g50_4 (pc := 62) C dX11_readNumbers_62 q1404 (e50 nf) ?_
  refine r_iconst (pc := 65) C dX11_readNumbers_65 kim1 ?_
  refine r_icmp_ne (pc := 66) (tgt := 94) C dX11_readNumbers_66 rfl (fun c_9 => ?_) (fun c_9 => ?_)
  · replace hr := (if_neg c_9).symm.trans hr
    obtain ⟨x4_10, ex4_10, hr⟩ := gLet_some hr
    refine r_iinc (pc := 94) C dX11_readNumbers_94 4 rfl rfl (by decide) ex4_10 (ls' := [(4, .int x4_10), (0, .ref (gad 50 0)), (1, .int x1), (2, .int x2), (3, .int x3)]) rfl ?_
    refine r_goto (pc := 97) (tgt := 3) C dX11_readNumbers_97 rfl ?_
    refine r_sub C [1, 2, 3, 4, 0] (ls' := [(0, .ref (gad 50 0)), (1, .int x1), (2, .int x2), (3, .int x3), (4, .int x4_10)]) rfl ?_
    exact hn (x4_10, M_8) (gSome hr)
  · replace hr := (if_pos c_9).symm.trans hr
    refine r_iload_n (pc := 69) C dX11_readNumbers_69 rfl 2 rfl ?_
    refine r_iload_n (pc := 70) C dX11_readNumbers_70 rfl 3 rfl ?_
    refine r_iload (pc := 71) C dX11_readNumbers_71 4 rfl ?_
    refine r_aload_n (pc := 73) C dX11_readNumbers_73 rfl 0 rfl ?_
    refine g50_6 (pc := 74) C dX11_readNumbers_74 q1406 (e50 nf) ?_
    refine r_iload (pc := 77) C dX11_readNumbers_77 4 rfl ?_
    obtain ⟨g_11, hr⟩ := gG_some hr
    refine r_ialdN (pc := 79) C dX11_readNumbers_79 rfl (e52 (nf := nf) (by decide)) g_11 rfl ?_
    obtain ⟨r_13, hc_12, hr⟩ := gBind_some hr
    refine c_X11_isWell (pc := 80) C dX11_readNumbers_80 q1596 ⟨Nat.le_of_ble_eq_true rfl, Nat.le_of_ble_eq_true rfl⟩ hc_12 (Nat.le_of_ble_eq_true rfl) ?_
    refine r_if_ne (pc := 83) (tgt := 94) C dX11_readNumbers_83 rfl (fun c_14 => ?_) (fun c_14 => ?_)
    · replace hr := (if_neg c_14).symm.trans hr
      obtain ⟨x4_15, ex4_15, hr⟩ := gLet_some hr
      refine r_iinc (pc := 94) C dX11_readNumbers_94 4 rfl rfl (by decide) ex4_15 (ls' := [(4, .int x4_15), (0, .ref (gad 50 0)), (1, .int x1), (2, .int x2), (3, .int x3)]) rfl ?_
      refine r_goto (pc := 97) (tgt := 3) C dX11_readNumbers_97 rfl ?_
      refine r_sub C [1, 2, 3, 4, 0] (ls' := [(0, .ref (gad 50 0)), (1, .int x1), (2, .int x2), (3, .int x3), (4, .int x4_15)]) rfl ?_
      exact hn (x4_15, M_8) (gSome hr)
    · replace hr := (if_pos c_14).symm.trans hr
      refine r_aload_n (pc := 86) C dX11_readNumbers_86 rfl 0 rfl ?_
      refine r_aload_n (pc := 87) C dX11_readNumbers_87 rfl 0 rfl ?_
      refine g50_7 (pc := 88) C dX11_readNumbers_88 q1407 (e50 nf) ?_
      obtain ⟨M_17, hc_16, hr⟩ := gBind_some hr
      refine c_X11_fails (pc := 91) C dX11_readNumbers_91 q1579 ⟨Nat.le_of_ble_eq_true rfl, Nat.le_of_ble_eq_true rfl⟩ hc_16 (Nat.le_of_ble_eq_true rfl) ?_
      obtain ⟨x4_18, ex4_18, hr⟩ := gLet_some hr
      refine r_iinc (pc := 94) C dX11_readNumbers_94 4 rfl rfl (by decide) ex4_18 (ls' := [(4, .int x4_18), (0, .ref (gad 50 0)), (1, .int x1), (2, .int x2), (3, .int x3)]) rfl ?_
      refine r_goto (pc := 97) (tgt := 3) C dX11_readNumbers_97 rfl ?_
      refine r_sub C [1, 2, 3, 4, 0] (ls' := [(0, .ref (gad 50 0)), (1, .int x1), (2, .int x2), (3, .int x3), (4, .int x4_18)]) rfl ?_
      exact hn (x4_18, M_17) (gSome hr)
noncomputable def X11_readNumbers_L3 (x1 : Int32) (x2 : Int32) (x3 : Int32) (x4 : Int32) (M : gM) : Option ((Int32 × gM) ⊕ (gM ⊕ gM)) := (if x1 ≤ x4 then some (.inr (.inr M)) else (if (M.1 50 0 4) = (-1) then (if x4 ≤ 0 then X11_readNumbers_J50 x1 x2 x3 x4 M else (X11_look M).bind (gU2 (fun r_20 M_21 => (if r_20 = 44 then gLet (wI M_21 50 0 3 ((M_21.1 50 0 3) + 1)) (fun M_23 => X11_readNumbers_J50 x1 x2 x3 x4 M_23) else some (.inr (.inl M_21)))))) else some (.inr (.inr M))))
theorem t_X11_readNumbers_L3 {Ψ : gM → Nat → List (Nat × Value) → List Value → Prop} {G : gG5} {nf : Nat} {M : gM} {v0 : Option Value} {M0 : gM} {x1 : Int32} {x2 : Int32} {x3 : Int32} {x4 : Int32} {w : ((Int32 × gM) ⊕ (gM ⊕ gM))} (C : gC Ψ G (gXn nf) cX11_readNumbers RX11 5 none 3 70 v0 M0) (hr : X11_readNumbers_L3 x1 x2 x3 x4 M = some w) (hn : ∀ s, w = .inl s → Ψ s.2 3 [(0, .ref (gad 50 0)), (1, .int x1), (2, .int x2), (3, .int x3), (4, .int (s.1))] []) (hx : ∀ e, w = .inr e → (gSP (fun e => Ψ e 31 [(0, .ref (gad 50 0))] []) (fun e => Ψ e 100 [] [])) e) : Ψ M 3 [(0, .ref (gad 50 0)), (1, .int x1), (2, .int x2), (3, .int x3), (4, .int x4)] [] := by
  refine r_iload (pc := 3) C dX11_readNumbers_3 4 rfl ?_
  refine r_iload_n (pc := 5) C dX11_readNumbers_5 rfl 1 rfl ?_
  refine r_icmp_ge (pc := 6) (tgt := 100) C dX11_readNumbers_6 rfl (fun c_1 => ?_) (fun c_1 => ?_)
  · replace hr := (if_pos c_1).symm.trans hr
    refine r_sub C [] (ls' := []) rfl ?_
    exact hx (.inr M) (gSome hr)
  · replace hr := (if_neg c_1).symm.trans hr
    refine r_aload_n (pc := 9) C dX11_readNumbers_9 rfl 0 rfl ?_
    refine g50_4 (pc := 10) C dX11_readNumbers_10 q1404 (e50 nf) ?_
    refine r_iconst (pc := 13) C dX11_readNumbers_13 kim1 ?_
    refine r_icmp_ne (pc := 14) (tgt := 100) C dX11_readNumbers_14 rfl (fun c_2 => ?_) (fun c_2 => ?_)
    · replace hr := (if_neg c_2).symm.trans hr
      refine r_sub C [] (ls' := []) rfl ?_
      exact hx (.inr M) (gSome hr)
    · replace hr := (if_pos c_2).symm.trans hr
      refine r_iload (pc := 17) C dX11_readNumbers_17 4 rfl ?_
      refine r_if_le (pc := 19) (tgt := 50) C dX11_readNumbers_19 rfl (fun c_3 => ?_) (fun c_3 => ?_)
      · replace hr := (if_pos c_3).symm.trans hr
        exact t_X11_readNumbers_J50 C  hr hn hx
      · replace hr := (if_neg c_3).symm.trans hr
        refine r_aload_n (pc := 22) C dX11_readNumbers_22 rfl 0 rfl ?_
        obtain ⟨⟨r_20, M_21⟩, hc_19, hr⟩ := gBind_some hr
        replace hr := gU2_some hr
        refine c_X11_look (pc := 23) C dX11_readNumbers_23 q1558 ⟨Nat.le_of_ble_eq_true rfl, Nat.le_of_ble_eq_true rfl⟩ hc_19 (Nat.le_of_ble_eq_true rfl) ?_
        refine r_bipush (pc := 26) C dX11_readNumbers_26 kb44 ?_
        refine r_icmp_eq (pc := 28) (tgt := 40) C dX11_readNumbers_28 rfl (fun c_22 => ?_) (fun c_22 => ?_)
        · replace hr := (if_pos c_22).symm.trans hr
          refine r_aload_n (pc := 40) C dX11_readNumbers_40 rfl 0 rfl ?_
          refine r_dup (pc := 41) C dX11_readNumbers_41 rfl ?_
          refine g50_3 (pc := 42) C dX11_readNumbers_42 q1403 (e50 nf) ?_
          refine r_iconst (pc := 45) C dX11_readNumbers_45 ki1 ?_
          refine r_iadd (pc := 46) C dX11_readNumbers_46 ?_
          obtain ⟨M_23, eM_23, hr⟩ := gLet_some hr
          refine p50_3 (pc := 47) C dX11_readNumbers_47 q1403 (e50 nf) eM_23 ?_
          exact t_X11_readNumbers_J50 C  hr hn hx
        · replace hr := (if_neg c_22).symm.trans hr
          refine r_sub C [0] (ls' := [(0, .ref (gad 50 0))]) rfl ?_
          exact hx (.inl M_21) (gSome hr)
noncomputable def X11_readNumbers (p1 : Int32) (p2 : Int32) (p3 : Int32) (M : gM) : Option gM := (gIter (fun s => X11_readNumbers_L3 p1 p2 p3 s.1 s.2) FU (0, M)).bind (gS2 (fun M_24 => (X11_fails (M_24.1 50 0 3) M_24).bind (fun M_26 => some M_26)) (fun M_27 => some M_27))
theorem k_X11_readNumbers {G : gG5} {nf : Nat} {M : gM} {p1 : Int32} {p2 : Int32} {p3 : Int32} {M1 : gM} (hr : X11_readNumbers p1 p2 p3 M = some M1) : gMet G (gXn nf) yX11_readNumbers cX11_readNumbers 5 none 3 70 M [.ref (gad 50 0), .int p1, .int p2, .int p3] none M1 := by
  refine gMet_of pl_X11 rfl (Nat.le_of_ble_eq_true rfl) (fun Ψ C CR => ?_)
  show Ψ M 0 [(0, .ref (gad 50 0)), (1, .int p1), (2, .int p2), (3, .int p3)] []
  refine r_iconst (pc := 0) C dX11_readNumbers_0 ki0 ?_
  refine r_istore (pc := 1) C dX11_readNumbers_1 (by decide) rfl (ls' := [(4, .int 0), (0, .ref (gad 50 0)), (1, .int p1), (2, .int p2), (3, .int p3)]) rfl ?_
  refine r_sub C [1, 2, 3, 4, 0] (ls' := [(0, .ref (gad 50 0)), (1, .int p1), (2, .int p2), (3, .int p3), (4, .int 0)]) rfl ?_
  obtain ⟨ev, hit, hr⟩ := gBind_some hr
  refine gIter_V (step := fun s => X11_readNumbers_L3 p1 p2 p3 s.1 s.2) (P := fun s => Ψ s.2 3 [(0, .ref (gad 50 0)), (1, .int p1), (2, .int p2), (3, .int p3), (4, .int (s.1))] []) (K := (gSP (fun e => Ψ e 31 [(0, .ref (gad 50 0))] []) (fun e => Ψ e 100 [] []))) (fun s w hs hn hx => t_X11_readNumbers_L3 C  hs hn hx) FU (0, M) ev hit ?_
  rcases ev with M_24 | M_27
  · replace hr := gS2_l hr
    show Ψ M_24 31 [(0, .ref (gad 50 0))] []
    refine r_aload_n (pc := 31) C dX11_readNumbers_31 rfl 0 rfl ?_
    refine r_aload_n (pc := 32) C dX11_readNumbers_32 rfl 0 rfl ?_
    refine g50_3 (pc := 33) C dX11_readNumbers_33 q1403 (e50 nf) ?_
    obtain ⟨M_26, hc_25, hr⟩ := gBind_some hr
    refine c_X11_fails (pc := 36) C dX11_readNumbers_36 q1579 ⟨Nat.le_of_ble_eq_true rfl, Nat.le_of_ble_eq_true rfl⟩ hc_25 (Nat.le_of_ble_eq_true rfl) ?_
    exact r_vret (pc := 39) CR dX11_readNumbers_39 rfl (gSome hr)
  · replace hr := gS2_r hr
    show Ψ M_27 100 [] []
    exact r_vret (pc := 100) CR dX11_readNumbers_100 rfl (gSome hr)
theorem c_X11_readNumbers {Ψ : gM → Nat → List (Nat × Value) → List Value → Prop} {G : gG5} {nf : Nat} {cc : ByteArray} {own : String} {nL : Nat} {ret : Option FieldType} {fr lo : Nat} {v0 : Option Value} {M0 M : gM} {pc index : Nat} {ls : List (Nat × Value)} {st : List Value} (C : gC Ψ G (gXn nf) cc own nL ret fr lo v0 M0) (d : decode cc pc = .ok (.invokevirtual index, 3)) (hl : Cond.methodLink own index yX11_readNumbers ∈ gws) (hR : 4 ≤ fr ∧ 94 ≤ lo) {p1 : Int32} {p2 : Int32} {p3 : Int32} {M1 : gM} (hr : X11_readNumbers p1 p2 p3 M = some M1) (hcat : (st.map fun v => v.category).sum ≤ 8) (k : Ψ M1 (pc + 3) ls (st)) : Ψ M pc ls (.int p3 :: .int p2 :: .int p1 :: .ref (gad 50 0) :: st) := r_callV C [.int p1, .int p2, .int p3] st d (k_X11_readNumbers hr) hl q1585 q47 q127 q1586 hd_X11_readNumbers hR rfl (by decide) (e50 nf) rfl hcat k
theorem hd_X11_usualRules : yX11_usualRules.cls ≠ "java/lang/invoke/MethodHandle" ∧ yX11_usualRules.cls ≠ "java/lang/invoke/VarHandle" ∧ (parseMethodDescriptor yX11_usualRules.desc).map (fun d => d.parameters.length) = some 0 := by decide +kernel
noncomputable def X11_usualRules (M : gM) : Option gM := gLet (wI M 52 1 0 8) (fun M_1 => gLet (wI M_1 52 1 1 8) (fun M_2 => gLet (wI M_2 52 1 2 4) (fun M_3 => gLet (wI M_3 52 1 3 1) (fun M_4 => gLet (wI M_4 52 1 4 0) (fun M_5 => gLet (wI M_5 52 1 5 0) (fun M_6 => gLet (wI M_6 52 1 6 0) (fun M_7 => gLet (wI M_7 52 1 7 1) (fun M_8 => gLet (wI M_8 52 1 8 10) (fun M_9 => some M_9)))))))))
theorem k_X11_usualRules {G : gG5} {nf : Nat} {M : gM} {M1 : gM} (hr : X11_usualRules M = some M1) : gMet G (gXn nf) yX11_usualRules cX11_usualRules 1 none 0 0 M [.ref (gad 50 0)] none M1 := by
  refine gMet_of pl_X11 rfl (Nat.le_of_ble_eq_true rfl) (fun Ψ C CR => ?_)
  show Ψ M 0 [(0, .ref (gad 50 0))] []
  refine r_aload_n (pc := 0) C dX11_usualRules_0 rfl 0 rfl ?_
  refine g50_8 (pc := 1) C dX11_usualRules_1 q1408 (e50 nf) ?_
  refine r_iconst (pc := 4) C dX11_usualRules_4 ki0 ?_
  refine r_bipush (pc := 5) C dX11_usualRules_5 kb8 ?_
  obtain ⟨M_1, eM_1, hr⟩ := gLet_some hr
  refine r_iastN (pc := 7) C dX11_usualRules_7 rfl (e52 (nf := nf) (by decide)) (by decide : gin 0 9 = true) kc0 eM_1 ?_
  refine r_aload_n (pc := 8) C dX11_usualRules_8 rfl 0 rfl ?_
  refine g50_8 (pc := 9) C dX11_usualRules_9 q1408 (e50 nf) ?_
  refine r_iconst (pc := 12) C dX11_usualRules_12 ki1 ?_
  refine r_bipush (pc := 13) C dX11_usualRules_13 kb8 ?_
  obtain ⟨M_2, eM_2, hr⟩ := gLet_some hr
  refine r_iastN (pc := 15) C dX11_usualRules_15 rfl (e52 (nf := nf) (by decide)) (by decide : gin 1 9 = true) kc1 eM_2 ?_
  refine r_aload_n (pc := 16) C dX11_usualRules_16 rfl 0 rfl ?_
  refine g50_8 (pc := 17) C dX11_usualRules_17 q1408 (e50 nf) ?_
  refine r_iconst (pc := 20) C dX11_usualRules_20 ki2 ?_
  refine r_iconst (pc := 21) C dX11_usualRules_21 ki4 ?_
  obtain ⟨M_3, eM_3, hr⟩ := gLet_some hr
  refine r_iastN (pc := 22) C dX11_usualRules_22 rfl (e52 (nf := nf) (by decide)) (by decide : gin 2 9 = true) kc2 eM_3 ?_
  refine r_aload_n (pc := 23) C dX11_usualRules_23 rfl 0 rfl ?_
  refine g50_8 (pc := 24) C dX11_usualRules_24 q1408 (e50 nf) ?_
  refine r_iconst (pc := 27) C dX11_usualRules_27 ki3 ?_
  refine r_iconst (pc := 28) C dX11_usualRules_28 ki1 ?_
  obtain ⟨M_4, eM_4, hr⟩ := gLet_some hr
  refine r_iastN (pc := 29) C dX11_usualRules_29 rfl (e52 (nf := nf) (by decide)) (by decide : gin 3 9 = true) kc3 eM_4 ?_
  refine r_aload_n (pc := 30) C dX11_usualRules_30 rfl 0 rfl ?_
  refine g50_8 (pc := 31) C dX11_usualRules_31 q1408 (e50 nf) ?_
  refine r_iconst (pc := 34) C dX11_usualRules_34 ki4 ?_
  refine r_iconst (pc := 35) C dX11_usualRules_35 ki0 ?_
  obtain ⟨M_5, eM_5, hr⟩ := gLet_some hr
  refine r_iastN (pc := 36) C dX11_usualRules_36 rfl (e52 (nf := nf) (by decide)) (by decide : gin 4 9 = true) kc4 eM_5 ?_
  refine r_aload_n (pc := 37) C dX11_usualRules_37 rfl 0 rfl ?_
  refine g50_8 (pc := 38) C dX11_usualRules_38 q1408 (e50 nf) ?_
  refine r_iconst (pc := 41) C dX11_usualRules_41 ki5 ?_
  refine r_iconst (pc := 42) C dX11_usualRules_42 ki0 ?_
  obtain ⟨M_6, eM_6, hr⟩ := gLet_some hr
  refine r_iastN (pc := 43) C dX11_usualRules_43 rfl (e52 (nf := nf) (by decide)) (by decide : gin 5 9 = true) kc5 eM_6 ?_
  refine r_aload_n (pc := 44) C dX11_usualRules_44 rfl 0 rfl ?_
  refine g50_8 (pc := 45) C dX11_usualRules_45 q1408 (e50 nf) ?_
  refine r_bipush (pc := 48) C dX11_usualRules_48 kb6 ?_
  refine r_iconst (pc := 50) C dX11_usualRules_50 ki0 ?_
  obtain ⟨M_7, eM_7, hr⟩ := gLet_some hr
  refine r_iastN (pc := 51) C dX11_usualRules_51 rfl (e52 (nf := nf) (by decide)) (by decide : gin 6 9 = true) kc6 eM_7 ?_
  refine r_aload_n (pc := 52) C dX11_usualRules_52 rfl 0 rfl ?_
  refine g50_8 (pc := 53) C dX11_usualRules_53 q1408 (e50 nf) ?_
  refine r_bipush (pc := 56) C dX11_usualRules_56 kb7 ?_
  refine r_iconst (pc := 58) C dX11_usualRules_58 ki1 ?_
  obtain ⟨M_8, eM_8, hr⟩ := gLet_some hr
  refine r_iastN (pc := 59) C dX11_usualRules_59 rfl (e52 (nf := nf) (by decide)) (by decide : gin 7 9 = true) kc7 eM_8 ?_
  refine r_aload_n (pc := 60) C dX11_usualRules_60 rfl 0 rfl ?_
  refine g50_8 (pc := 61) C dX11_usualRules_61 q1408 (e50 nf) ?_
  refine r_bipush (pc := 64) C dX11_usualRules_64 kb8 ?_
  refine r_bipush (pc := 66) C dX11_usualRules_66 kb10 ?_
  obtain ⟨M_9, eM_9, hr⟩ := gLet_some hr
  refine r_iastN (pc := 68) C dX11_usualRules_68 rfl (e52 (nf := nf) (by decide)) (by decide : gin 8 9 = true) kc8 eM_9 ?_
  exact r_vret (pc := 69) CR dX11_usualRules_69 rfl (gSome hr)
theorem c_X11_usualRules {Ψ : gM → Nat → List (Nat × Value) → List Value → Prop} {G : gG5} {nf : Nat} {cc : ByteArray} {own : String} {nL : Nat} {ret : Option FieldType} {fr lo : Nat} {v0 : Option Value} {M0 M : gM} {pc index : Nat} {ls : List (Nat × Value)} {st : List Value} (C : gC Ψ G (gXn nf) cc own nL ret fr lo v0 M0) (d : decode cc pc = .ok (.invokevirtual index, 3)) (hl : Cond.methodLink own index yX11_usualRules ∈ gws) (hR : 1 ≤ fr ∧ 20 ≤ lo) {M1 : gM} (hr : X11_usualRules M = some M1) (hcat : (st.map fun v => v.category).sum ≤ 8) (k : Ψ M1 (pc + 3) ls (st)) : Ψ M pc ls (.ref (gad 50 0) :: st) := r_callV C [] st d (k_X11_usualRules hr) hl q1547 q39 q127 q1548 hd_X11_usualRules hR rfl (by decide) (e50 nf) rfl hcat k
theorem hd_X11_readClause : yX11_readClause.cls ≠ "java/lang/invoke/MethodHandle" ∧ yX11_readClause.cls ≠ "java/lang/invoke/VarHandle" ∧ (parseMethodDescriptor yX11_readClause.desc).map (fun d => d.parameters.length) = some 1 := by decide +kernel
noncomputable def X11_readClause_J173 (x1 : Int32) (x2 : Int32) (xs0 : Int32) (M : gM) : Option (Int32 × gM) := gG (gin xs0 9) (gLet (wI M 52 1 (Int32.toNatClampNeg xs0) (M.1 52 0 0)) (fun M_17 => (if x2 = 0 then gLet (wI M_17 52 1 1 (M_17.1 52 0 1)) (fun M_19 => some ((x1 ||| (1 <<< (x2 &&& 31))), M_19)) else some ((x1 ||| (1 <<< (x2 &&& 31))), M_17))))
theorem t_X11_readClause_J173 {Ψ : gM → Nat → List (Nat × Value) → List Value → Prop} {G : gG5} {nf : Nat} {M : gM} {x1 : Int32} {x2 : Int32} {xs0 : Int32} {r : Int32} {M1 : gM} (C : gC Ψ G (gXn nf) cX11_readClause RX11 4 (some .int) 8 191 (some (.int r)) M1) (CR : gR Ψ cX11_readClause (some .int) (some (.int r)) M1) (hr : X11_readClause_J173 x1 x2 xs0 M = some (r, M1)) : Ψ M 173 [(0, .ref (gad 50 0)), (1, .int x1), (2, .int x2)] [.int xs0, .ref (gad 52 1)] := by
  refine r_aload_n (pc := 173) C dX11_readClause_173 rfl 0 rfl ?_
  refine g50_6 (pc := 174) C dX11_readClause_174 q1406 (e50 nf) ?_
  refine r_iconst (pc := 177) C dX11_readClause_177 ki0 ?_
  refine r_ialdN (pc := 178) C dX11_readClause_178 rfl (e52 (nf := nf) (by decide)) (by decide : gin 0 11 = true) kc0 ?_
  obtain ⟨g_16, hr⟩ := gG_some hr
  obtain ⟨M_17, eM_17, hr⟩ := gLet_some hr
  refine r_iastN (pc := 179) C dX11_readClause_179 rfl (e52 (nf := nf) (by decide)) g_16 rfl eM_17 ?_
  refine r_iload_n (pc := 180) C dX11_readClause_180 rfl 2 rfl ?_
  refine r_if_ne (pc := 181) (tgt := 196) C dX11_readClause_181 rfl (fun c_18 => ?_) (fun c_18 => ?_)
  · replace hr := (if_neg c_18).symm.trans hr
    refine r_iload_n (pc := 196) C dX11_readClause_196 rfl 1 rfl ?_
    refine r_iconst (pc := 197) C dX11_readClause_197 ki1 ?_
    refine r_iload_n (pc := 198) C dX11_readClause_198 rfl 2 rfl ?_
    refine r_ishl (pc := 199) C dX11_readClause_199 ?_
    refine r_ior (pc := 200) C dX11_readClause_200 ?_
    exact r_iret (pc := 201) CR dX11_readClause_201 (congrArg (fun z => some (Value.int z)) (Prod.mk.inj (gSome hr)).1) (Prod.mk.inj (gSome hr)).2
  · replace hr := (if_pos c_18).symm.trans hr
    refine r_aload_n (pc := 184) C dX11_readClause_184 rfl 0 rfl ?_
    refine g50_8 (pc := 185) C dX11_readClause_185 q1408 (e50 nf) ?_
    refine r_iconst (pc := 188) C dX11_readClause_188 ki1 ?_
    refine r_aload_n (pc := 189) C dX11_readClause_189 rfl 0 rfl ?_
    refine g50_6 (pc := 190) C dX11_readClause_190 q1406 (e50 nf) ?_
    refine r_iconst (pc := 193) C dX11_readClause_193 ki1 ?_
    refine r_ialdN (pc := 194) C dX11_readClause_194 rfl (e52 (nf := nf) (by decide)) (by decide : gin 1 11 = true) kc1 ?_
    obtain ⟨M_19, eM_19, hr⟩ := gLet_some hr
    refine r_iastN (pc := 195) C dX11_readClause_195 rfl (e52 (nf := nf) (by decide)) (by decide : gin 1 9 = true) kc1 eM_19 ?_
    refine r_iload_n (pc := 196) C dX11_readClause_196 rfl 1 rfl ?_
    refine r_iconst (pc := 197) C dX11_readClause_197 ki1 ?_
    refine r_iload_n (pc := 198) C dX11_readClause_198 rfl 2 rfl ?_
    refine r_ishl (pc := 199) C dX11_readClause_199 ?_
    refine r_ior (pc := 200) C dX11_readClause_200 ?_
    exact r_iret (pc := 201) CR dX11_readClause_201 (congrArg (fun z => some (Value.int z)) (Prod.mk.inj (gSome hr)).1) (Prod.mk.inj (gSome hr)).2
noncomputable def X11_readClause_L95 (x1 : Int32) (x2 : Int32) (x3 : Int32) (M : gM) : Option ((Int32 × gM) ⊕ gM) := (if 11 ≤ x3 then some (.inr M) else gG (gin x3 11) (gG (gin ((12 * (M.1 50 0 15)) + x3) 120) (gLet (wI M 52 3 (Int32.toNatClampNeg ((12 * (M.1 50 0 15)) + x3)) (M.1 52 0 (Int32.toNatClampNeg x3))) (fun M_23 => gLet (x3 + 1) (fun x3_24 => some (.inl (x3_24, M_23)))))))
theorem t_X11_readClause_L95 {Ψ : gM → Nat → List (Nat × Value) → List Value → Prop} {G : gG5} {nf : Nat} {M : gM} {v0 : Option Value} {M0 : gM} {x1 : Int32} {x2 : Int32} {x3 : Int32} {w : ((Int32 × gM) ⊕ gM)} (C : gC Ψ G (gXn nf) cX11_readClause RX11 4 (some .int) 8 191 v0 M0) (hr : X11_readClause_L95 x1 x2 x3 M = some w) (hn : ∀ s, w = .inl s → Ψ s.2 95 [(0, .ref (gad 50 0)), (1, .int x1), (2, .int x2), (3, .int (s.1))] []) (hx : ∀ e, w = .inr e → (fun e => Ψ e 127 [(0, .ref (gad 50 0)), (1, .int x1), (2, .int x2)] []) e) : Ψ M 95 [(0, .ref (gad 50 0)), (1, .int x1), (2, .int x2), (3, .int x3)] [] := by
  refine r_iload_n (pc := 95) C dX11_readClause_95 rfl 3 rfl ?_
  refine r_bipush (pc := 96) C dX11_readClause_96 kb11 ?_
  refine r_icmp_ge (pc := 98) (tgt := 127) C dX11_readClause_98 rfl (fun c_20 => ?_) (fun c_20 => ?_)
  · replace hr := (if_pos c_20).symm.trans hr
    refine r_sub C [0, 1, 2] (ls' := [(0, .ref (gad 50 0)), (1, .int x1), (2, .int x2)]) rfl ?_
    exact hx M (gSome hr)
  · replace hr := (if_neg c_20).symm.trans hr
    refine r_aload_n (pc := 101) C dX11_readClause_101 rfl 0 rfl ?_
    refine g50_10 (pc := 102) C dX11_readClause_102 q1410 (e50 nf) ?_
    refine r_bipush (pc := 105) C dX11_readClause_105 kb12 ?_
    refine r_aload_n (pc := 107) C dX11_readClause_107 rfl 0 rfl ?_
    refine g50_15 (pc := 108) C dX11_readClause_108 q1415 (e50 nf) ?_
    refine r_imul (pc := 111) C dX11_readClause_111 ?_
    refine r_iload_n (pc := 112) C dX11_readClause_112 rfl 3 rfl ?_
    refine r_iadd (pc := 113) C dX11_readClause_113 ?_
    refine r_aload_n (pc := 114) C dX11_readClause_114 rfl 0 rfl ?_
    refine g50_6 (pc := 115) C dX11_readClause_115 q1406 (e50 nf) ?_
    refine r_iload_n (pc := 118) C dX11_readClause_118 rfl 3 rfl ?_
    obtain ⟨g_21, hr⟩ := gG_some hr
    refine r_ialdN (pc := 119) C dX11_readClause_119 rfl (e52 (nf := nf) (by decide)) g_21 rfl ?_
    obtain ⟨g_22, hr⟩ := gG_some hr
    obtain ⟨M_23, eM_23, hr⟩ := gLet_some hr
    refine r_iastN (pc := 120) C dX11_readClause_120 rfl (e52 (nf := nf) (by decide)) g_22 rfl eM_23 ?_
    obtain ⟨x3_24, ex3_24, hr⟩ := gLet_some hr
    refine r_iinc (pc := 121) C dX11_readClause_121 3 rfl rfl (by decide) ex3_24 (ls' := [(3, .int x3_24), (0, .ref (gad 50 0)), (1, .int x1), (2, .int x2)]) rfl ?_
    refine r_goto (pc := 124) (tgt := 95) C dX11_readClause_124 rfl ?_
    refine r_sub C [1, 2, 3, 0] (ls' := [(0, .ref (gad 50 0)), (1, .int x1), (2, .int x2), (3, .int x3_24)]) rfl ?_
    exact hn (x3_24, M_23) (gSome hr)
noncomputable def X11_readClause_J72 (x1 : Int32) (x2 : Int32) (xs0 : Int32) (M : gM) : Option (Int32 × gM) := (X11_readNumbers xs0 1 x2 M).bind (fun M_12 => (if (M_12.1 50 0 4) = (-1) then (if x2 < 8 then (if x2 = 0 then X11_readClause_J173 x1 x2 0 M_12 else X11_readClause_J173 x1 x2 (x2 + 1) M_12) else (gIter (fun s => X11_readClause_L95 x1 x2 s.1 s.2) FU (0, M_12)).bind (fun M_25 => gG (gin ((12 * (M_25.1 50 0 15)) + 11) 120) (gLet (wI M_25 52 3 (Int32.toNatClampNeg ((12 * (M_25.1 50 0 15)) + 11)) (x2 - 8)) (fun M_27 => gLet (wI M_27 50 0 15 ((M_27.1 50 0 15) + 1)) (fun M_28 => some (x1, M_28)))))) else some (x1, M_12)))
theorem t_X11_readClause_J72 {Ψ : gM → Nat → List (Nat × Value) → List Value → Prop} {G : gG5} {nf : Nat} {M : gM} {x1 : Int32} {x2 : Int32} {xs0 : Int32} {r : Int32} {M1 : gM} (C : gC Ψ G (gXn nf) cX11_readClause RX11 4 (some .int) 8 191 (some (.int r)) M1) (CR : gR Ψ cX11_readClause (some .int) (some (.int r)) M1) (hr : X11_readClause_J72 x1 x2 xs0 M = some (r, M1)) : Ψ M 72 [(0, .ref (gad 50 0)), (1, .int x1), (2, .int x2)] [.int xs0, .ref (gad 50 0)] := by
  refine r_iconst (pc := 72) C dX11_readClause_72 ki1 ?_
  refine r_iload_n (pc := 73) C dX11_readClause_73 rfl 2 rfl ?_
  obtain ⟨M_12, hc_11, hr⟩ := gBind_some hr
  refine c_X11_readNumbers (pc := 74) C dX11_readClause_74 q1583 ⟨Nat.le_of_ble_eq_true rfl, Nat.le_of_ble_eq_true rfl⟩ hc_11 (Nat.le_of_ble_eq_true rfl) ?_
  refine r_aload_n (pc := 77) C dX11_readClause_77 rfl 0 rfl ?_
  refine g50_4 (pc := 78) C dX11_readClause_78 q1404 (e50 nf) ?_
  refine r_iconst (pc := 81) C dX11_readClause_81 kim1 ?_
  refine r_icmp_eq (pc := 82) (tgt := 87) C dX11_readClause_82 rfl (fun c_13 => ?_) (fun c_13 => ?_)
  · replace hr := (if_pos c_13).symm.trans hr
    refine r_iload_n (pc := 87) C dX11_readClause_87 rfl 2 rfl ?_
    refine r_bipush (pc := 88) C dX11_readClause_88 kb8 ?_
    refine r_icmp_lt (pc := 90) (tgt := 158) C dX11_readClause_90 rfl (fun c_14 => ?_) (fun c_14 => ?_)
    · replace hr := (if_pos c_14).symm.trans hr
      refine r_aload_n (pc := 158) C dX11_readClause_158 rfl 0 rfl ?_
      refine g50_8 (pc := 159) C dX11_readClause_159 q1408 (e50 nf) ?_
      refine r_iload_n (pc := 162) C dX11_readClause_162 rfl 2 rfl ?_
      refine r_if_ne (pc := 163) (tgt := 170) C dX11_readClause_163 rfl (fun c_15 => ?_) (fun c_15 => ?_)
      · replace hr := (if_neg c_15).symm.trans hr
        refine r_iload_n (pc := 170) C dX11_readClause_170 rfl 2 rfl ?_
        refine r_iconst (pc := 171) C dX11_readClause_171 ki1 ?_
        refine r_iadd (pc := 172) C dX11_readClause_172 ?_
        exact t_X11_readClause_J173 C CR  hr
      · replace hr := (if_pos c_15).symm.trans hr
        refine r_iconst (pc := 166) C dX11_readClause_166 ki0 ?_
        refine r_goto (pc := 167) (tgt := 173) C dX11_readClause_167 rfl ?_
        exact t_X11_readClause_J173 C CR  hr
    · replace hr := (if_neg c_14).symm.trans hr
      refine r_iconst (pc := 93) C dX11_readClause_93 ki0 ?_
      refine r_istore_n (pc := 94) C dX11_readClause_94 rfl (by decide) rfl (ls' := [(3, .int 0), (0, .ref (gad 50 0)), (1, .int x1), (2, .int x2)]) rfl ?_
      refine r_sub C [1, 2, 3, 0] (ls' := [(0, .ref (gad 50 0)), (1, .int x1), (2, .int x2), (3, .int 0)]) rfl ?_
      obtain ⟨ev, hit, hr⟩ := gBind_some hr
      refine gIter_V (step := fun s => X11_readClause_L95 x1 x2 s.1 s.2) (P := fun s => Ψ s.2 95 [(0, .ref (gad 50 0)), (1, .int x1), (2, .int x2), (3, .int (s.1))] []) (K := (fun e => Ψ e 127 [(0, .ref (gad 50 0)), (1, .int x1), (2, .int x2)] [])) (fun s w hs hn hx => t_X11_readClause_L95 C  hs hn hx) FU (0, M_12) ev hit ?_
      obtain ⟨M_25, rfl⟩ : ∃ z, z = ev := ⟨_, rfl⟩
      show Ψ M_25 127 [(0, .ref (gad 50 0)), (1, .int x1), (2, .int x2)] []
      refine r_aload_n (pc := 127) C dX11_readClause_127 rfl 0 rfl ?_
      refine g50_10 (pc := 128) C dX11_readClause_128 q1410 (e50 nf) ?_
      refine r_bipush (pc := 131) C dX11_readClause_131 kb12 ?_
      refine r_aload_n (pc := 133) C dX11_readClause_133 rfl 0 rfl ?_
      refine g50_15 (pc := 134) C dX11_readClause_134 q1415 (e50 nf) ?_
      refine r_imul (pc := 137) C dX11_readClause_137 ?_
      refine r_bipush (pc := 138) C dX11_readClause_138 kb11 ?_
      refine r_iadd (pc := 140) C dX11_readClause_140 ?_
      refine r_iload_n (pc := 141) C dX11_readClause_141 rfl 2 rfl ?_
      refine r_bipush (pc := 142) C dX11_readClause_142 kb8 ?_
      refine r_isub (pc := 144) C dX11_readClause_144 ?_
      obtain ⟨g_26, hr⟩ := gG_some hr
      obtain ⟨M_27, eM_27, hr⟩ := gLet_some hr
      refine r_iastN (pc := 145) C dX11_readClause_145 rfl (e52 (nf := nf) (by decide)) g_26 rfl eM_27 ?_
      refine r_aload_n (pc := 146) C dX11_readClause_146 rfl 0 rfl ?_
      refine r_dup (pc := 147) C dX11_readClause_147 rfl ?_
      refine g50_15 (pc := 148) C dX11_readClause_148 q1415 (e50 nf) ?_
      refine r_iconst (pc := 151) C dX11_readClause_151 ki1 ?_
      refine r_iadd (pc := 152) C dX11_readClause_152 ?_
      obtain ⟨M_28, eM_28, hr⟩ := gLet_some hr
      refine p50_15 (pc := 153) C dX11_readClause_153 q1415 (e50 nf) eM_28 ?_
      refine r_iload_n (pc := 156) C dX11_readClause_156 rfl 1 rfl ?_
      exact r_iret (pc := 157) CR dX11_readClause_157 (congrArg (fun z => some (Value.int z)) (Prod.mk.inj (gSome hr)).1) (Prod.mk.inj (gSome hr)).2
  · replace hr := (if_neg c_13).symm.trans hr
    refine r_iload_n (pc := 85) C dX11_readClause_85 rfl 1 rfl ?_
    exact r_iret (pc := 86) CR dX11_readClause_86 (congrArg (fun z => some (Value.int z)) (Prod.mk.inj (gSome hr)).1) (Prod.mk.inj (gSome hr)).2
noncomputable def X11_readClause_J51 (x1 : Int32) (x2 : Int32) (M : gM) : Option (Int32 × gM) := (if x2 < 8 then (if x2 = 0 then X11_readClause_J72 x1 x2 2 M else X11_readClause_J72 x1 x2 1 M) else X11_readClause_J72 x1 x2 11 M)
theorem t_X11_readClause_J51 {Ψ : gM → Nat → List (Nat × Value) → List Value → Prop} {G : gG5} {nf : Nat} {M : gM} {x1 : Int32} {x2 : Int32} {r : Int32} {M1 : gM} (C : gC Ψ G (gXn nf) cX11_readClause RX11 4 (some .int) 8 191 (some (.int r)) M1) (CR : gR Ψ cX11_readClause (some .int) (some (.int r)) M1) (hr : X11_readClause_J51 x1 x2 M = some (r, M1)) : Ψ M 51 [(0, .ref (gad 50 0)), (1, .int x1), (2, .int x2)] [] := by
  refine r_aload_n (pc := 51) C dX11_readClause_51 rfl 0 rfl ?_
  refine r_iload_n (pc := 52) C dX11_readClause_52 rfl 2 rfl ?_
  refine r_bipush (pc := 53) C dX11_readClause_53 kb8 ?_
  refine r_icmp_lt (pc := 55) (tgt := 63) C dX11_readClause_55 rfl (fun c_9 => ?_) (fun c_9 => ?_)
  · replace hr := (if_pos c_9).symm.trans hr
    refine r_iload_n (pc := 63) C dX11_readClause_63 rfl 2 rfl ?_
    refine r_if_ne (pc := 64) (tgt := 71) C dX11_readClause_64 rfl (fun c_10 => ?_) (fun c_10 => ?_)
    · replace hr := (if_neg c_10).symm.trans hr
      refine r_iconst (pc := 71) C dX11_readClause_71 ki1 ?_
      exact t_X11_readClause_J72 C CR  hr
    · replace hr := (if_pos c_10).symm.trans hr
      refine r_iconst (pc := 67) C dX11_readClause_67 ki2 ?_
      refine r_goto (pc := 68) (tgt := 72) C dX11_readClause_68 rfl ?_
      exact t_X11_readClause_J72 C CR  hr
  · replace hr := (if_neg c_9).symm.trans hr
    refine r_bipush (pc := 58) C dX11_readClause_58 kb11 ?_
    refine r_goto (pc := 60) (tgt := 72) C dX11_readClause_60 rfl ?_
    exact t_X11_readClause_J72 C CR  hr
noncomputable def X11_readClause_J26 (x1 : Int32) (x2 : Int32) (M : gM) : Option (Int32 × gM) := (if x2 < 8 then X11_readClause_J51 x1 x2 M else (if (M.1 50 0 15) = 10 then (X11_fails (M.1 50 0 5) M).bind (fun M_31 => some (x1, M_31)) else X11_readClause_J51 x1 x2 M))
theorem t_X11_readClause_J26 {Ψ : gM → Nat → List (Nat × Value) → List Value → Prop} {G : gG5} {nf : Nat} {M : gM} {x1 : Int32} {x2 : Int32} {r : Int32} {M1 : gM} (C : gC Ψ G (gXn nf) cX11_readClause RX11 4 (some .int) 8 191 (some (.int r)) M1) (CR : gR Ψ cX11_readClause (some .int) (some (.int r)) M1) (hr : X11_readClause_J26 x1 x2 M = some (r, M1)) : Ψ M 26 [(0, .ref (gad 50 0)), (1, .int x1), (2, .int x2)] [] := by
  refine r_iload_n (pc := 26) C dX11_readClause_26 rfl 2 rfl ?_
  refine r_bipush (pc := 27) C dX11_readClause_27 kb8 ?_
  refine r_icmp_lt (pc := 29) (tgt := 51) C dX11_readClause_29 rfl (fun c_8 => ?_) (fun c_8 => ?_)
  · replace hr := (if_pos c_8).symm.trans hr
    exact t_X11_readClause_J51 C CR  hr
  · replace hr := (if_neg c_8).symm.trans hr
    refine r_aload_n (pc := 32) C dX11_readClause_32 rfl 0 rfl ?_
    refine g50_15 (pc := 33) C dX11_readClause_33 q1415 (e50 nf) ?_
    refine r_bipush (pc := 36) C dX11_readClause_36 kb10 ?_
    refine r_icmp_ne (pc := 38) (tgt := 51) C dX11_readClause_38 rfl (fun c_29 => ?_) (fun c_29 => ?_)
    · replace hr := (if_neg c_29).symm.trans hr
      exact t_X11_readClause_J51 C CR  hr
    · replace hr := (if_pos c_29).symm.trans hr
      refine r_aload_n (pc := 41) C dX11_readClause_41 rfl 0 rfl ?_
      refine r_aload_n (pc := 42) C dX11_readClause_42 rfl 0 rfl ?_
      refine g50_5 (pc := 43) C dX11_readClause_43 q1405 (e50 nf) ?_
      obtain ⟨M_31, hc_30, hr⟩ := gBind_some hr
      refine c_X11_fails (pc := 46) C dX11_readClause_46 q1579 ⟨Nat.le_of_ble_eq_true rfl, Nat.le_of_ble_eq_true rfl⟩ hc_30 (Nat.le_of_ble_eq_true rfl) ?_
      refine r_iload_n (pc := 49) C dX11_readClause_49 rfl 1 rfl ?_
      exact r_iret (pc := 50) CR dX11_readClause_50 (congrArg (fun z => some (Value.int z)) (Prod.mk.inj (gSome hr)).1) (Prod.mk.inj (gSome hr)).2
noncomputable def X11_readClause (p1 : Int32) (M : gM) : Option (Int32 × gM) := (X11_word 0 M).bind (gU2 (fun r_2 M_3 => (if r_2 = (-1) then (X11_fails (M_3.1 50 0 5) M_3).bind (fun M_6 => some (p1, M_6)) else (if 8 ≤ r_2 then X11_readClause_J26 p1 r_2 M_3 else (X11_has p1 r_2 M_3).bind (fun r_33 => (if r_33 = 0 then X11_readClause_J26 p1 r_2 M_3 else (X11_fails (M_3.1 50 0 5) M_3).bind (fun M_36 => some (p1, M_36))))))))
theorem k_X11_readClause {G : gG5} {nf : Nat} {M : gM} {p1 : Int32} {r : Int32} {M1 : gM} (hr : X11_readClause p1 M = some (r, M1)) : gMet G (gXn nf) yX11_readClause cX11_readClause 4 (some .int) 8 191 M [.ref (gad 50 0), .int p1] (some (.int r)) M1 := by
  refine gMet_of pl_X11 rfl (Nat.le_of_ble_eq_true rfl) (fun Ψ C CR => ?_)
  show Ψ M 0 [(0, .ref (gad 50 0)), (1, .int p1)] []
  refine r_aload_n (pc := 0) C dX11_readClause_0 rfl 0 rfl ?_
  refine r_ldcS (pc := 1) C dX11_readClause_1 2 (by decide) rfl rfl ?_
  obtain ⟨⟨r_2, M_3⟩, hc_1, hr⟩ := gBind_some hr
  replace hr := gU2_some hr
  refine c_X11_word (pc := 3) C dX11_readClause_3 q1554 ⟨Nat.le_of_ble_eq_true rfl, Nat.le_of_ble_eq_true rfl⟩ (by decide) hc_1 (Nat.le_of_ble_eq_true rfl) ?_
  refine r_istore_n (pc := 6) C dX11_readClause_6 rfl (by decide) rfl (ls' := [(2, .int r_2), (0, .ref (gad 50 0)), (1, .int p1)]) rfl ?_
  refine r_iload_n (pc := 7) C dX11_readClause_7 rfl 0 rfl ?_
  refine r_iconst (pc := 8) C dX11_readClause_8 kim1 ?_
  refine r_icmp_eq (pc := 9) (tgt := 41) C dX11_readClause_9 rfl (fun c_4 => ?_) (fun c_4 => ?_)
  · replace hr := (if_pos c_4).symm.trans hr
    refine r_aload_n (pc := 41) C dX11_readClause_41 rfl 1 rfl ?_
    refine r_aload_n (pc := 42) C dX11_readClause_42 rfl 1 rfl ?_
    refine g50_5 (pc := 43) C dX11_readClause_43 q1405 (e50 nf) ?_
    obtain ⟨M_6, hc_5, hr⟩ := gBind_some hr
    refine c_X11_fails (pc := 46) C dX11_readClause_46 q1579 ⟨Nat.le_of_ble_eq_true rfl, Nat.le_of_ble_eq_true rfl⟩ hc_5 (Nat.le_of_ble_eq_true rfl) ?_
    refine r_iload_n (pc := 49) C dX11_readClause_49 rfl 2 rfl ?_
    exact r_iret (pc := 50) CR dX11_readClause_50 (congrArg (fun z => some (Value.int z)) (Prod.mk.inj (gSome hr)).1) (Prod.mk.inj (gSome hr)).2
  · replace hr := (if_neg c_4).symm.trans hr
    refine r_iload_n (pc := 12) C dX11_readClause_12 rfl 0 rfl ?_
    refine r_bipush (pc := 13) C dX11_readClause_13 kb8 ?_
    refine r_icmp_ge (pc := 15) (tgt := 26) C dX11_readClause_15 rfl (fun c_7 => ?_) (fun c_7 => ?_)
    · replace hr := (if_pos c_7).symm.trans hr
      refine r_sub C [1, 2, 0] (ls' := [(0, .ref (gad 50 0)), (1, .int p1), (2, .int r_2)]) rfl ?_
      exact t_X11_readClause_J26 C CR  hr
    · replace hr := (if_neg c_7).symm.trans hr
      refine r_iload_n (pc := 18) C dX11_readClause_18 rfl 2 rfl ?_
      refine r_iload_n (pc := 19) C dX11_readClause_19 rfl 0 rfl ?_
      obtain ⟨r_33, hc_32, hr⟩ := gBind_some hr
      refine c_X11_has (pc := 20) C dX11_readClause_20 q1576 ⟨Nat.le_of_ble_eq_true rfl, Nat.le_of_ble_eq_true rfl⟩ hc_32 (Nat.le_of_ble_eq_true rfl) ?_
      refine r_if_ne (pc := 23) (tgt := 41) C dX11_readClause_23 rfl (fun c_34 => ?_) (fun c_34 => ?_)
      · replace hr := (if_neg c_34).symm.trans hr
        refine r_aload_n (pc := 41) C dX11_readClause_41 rfl 1 rfl ?_
        refine r_aload_n (pc := 42) C dX11_readClause_42 rfl 1 rfl ?_
        refine g50_5 (pc := 43) C dX11_readClause_43 q1405 (e50 nf) ?_
        obtain ⟨M_36, hc_35, hr⟩ := gBind_some hr
        refine c_X11_fails (pc := 46) C dX11_readClause_46 q1579 ⟨Nat.le_of_ble_eq_true rfl, Nat.le_of_ble_eq_true rfl⟩ hc_35 (Nat.le_of_ble_eq_true rfl) ?_
        refine r_iload_n (pc := 49) C dX11_readClause_49 rfl 2 rfl ?_
        exact r_iret (pc := 50) CR dX11_readClause_50 (congrArg (fun z => some (Value.int z)) (Prod.mk.inj (gSome hr)).1) (Prod.mk.inj (gSome hr)).2
      · replace hr := (if_pos c_34).symm.trans hr
        refine r_sub C [1, 2, 0] (ls' := [(0, .ref (gad 50 0)), (1, .int p1), (2, .int r_2)]) rfl ?_
        exact t_X11_readClause_J26 C CR  hr
theorem c_X11_readClause {Ψ : gM → Nat → List (Nat × Value) → List Value → Prop} {G : gG5} {nf : Nat} {cc : ByteArray} {own : String} {nL : Nat} {ret : Option FieldType} {fr lo : Nat} {v0 : Option Value} {M0 M : gM} {pc index : Nat} {ls : List (Nat × Value)} {st : List Value} (C : gC Ψ G (gXn nf) cc own nL ret fr lo v0 M0) (d : decode cc pc = .ok (.invokevirtual index, 3)) (hl : Cond.methodLink own index yX11_readClause ∈ gws) (hR : 9 ≤ fr ∧ 214 ≤ lo) {p1 : Int32} {r : Int32} {M1 : gM} (hr : X11_readClause p1 M = some (r, M1)) (hcat : (st.map fun v => v.category).sum ≤ 8) (k : Ψ M1 (pc + 3) ls (.int r :: st)) : Ψ M pc ls (.int p1 :: .ref (gad 50 0) :: st) := r_callV C [.int p1] st d (k_X11_readClause hr) hl q1551 q40 q127 q1552 hd_X11_readClause hR rfl (by decide) (e50 nf) rfl hcat k
theorem hd_X11_goesOn : yX11_goesOn.cls ≠ "java/lang/invoke/MethodHandle" ∧ yX11_goesOn.cls ≠ "java/lang/invoke/VarHandle" ∧ (parseMethodDescriptor yX11_goesOn.desc).map (fun d => d.parameters.length) = some 0 := by decide +kernel
noncomputable def X11_goesOn (M : gM) : Option (Int32 × gM) := (X11_look M).bind (gU2 (fun r_2 M_3 => (if (M_3.1 50 0 4) = (-1) then (if r_2 = (-1) then (if (M_3.1 50 0 4) = (-1) then (if r_2 = 59 then some (1, M_3) else some (0, M_3)) else some (0, M_3)) else (if r_2 = 59 then (if (M_3.1 50 0 4) = (-1) then (if r_2 = 59 then some (1, M_3) else some (0, M_3)) else some (0, M_3)) else (X11_fails (M_3.1 50 0 3) M_3).bind (fun M_14 => (if (M_14.1 50 0 4) = (-1) then (if r_2 = 59 then some (1, M_14) else some (0, M_14)) else some (0, M_14))))) else (if (M_3.1 50 0 4) = (-1) then (if r_2 = 59 then some (1, M_3) else some (0, M_3)) else some (0, M_3)))))
theorem k_X11_goesOn {G : gG5} {nf : Nat} {M : gM} {r : Int32} {M1 : gM} (hr : X11_goesOn M = some (r, M1)) : gMet G (gXn nf) yX11_goesOn cX11_goesOn 2 (some .boolean) 2 40 M [.ref (gad 50 0)] (some (.int r)) M1 := by
  refine gMet_of pl_X11 rfl (Nat.le_of_ble_eq_true rfl) (fun Ψ C CR => ?_)
  show Ψ M 0 [(0, .ref (gad 50 0))] []
  refine r_aload_n (pc := 0) C dX11_goesOn_0 rfl 0 rfl ?_
  obtain ⟨⟨r_2, M_3⟩, hc_1, hr⟩ := gBind_some hr
  replace hr := gU2_some hr
  refine c_X11_look (pc := 1) C dX11_goesOn_1 q1558 ⟨Nat.le_of_ble_eq_true rfl, Nat.le_of_ble_eq_true rfl⟩ hc_1 (Nat.le_of_ble_eq_true rfl) ?_
  refine r_istore_n (pc := 4) C dX11_goesOn_4 rfl (by decide) rfl (ls' := [(1, .int r_2), (0, .ref (gad 50 0))]) rfl ?_
  refine r_aload_n (pc := 5) C dX11_goesOn_5 rfl 1 rfl ?_
  refine g50_4 (pc := 6) C dX11_goesOn_6 q1404 (e50 nf) ?_
  refine r_iconst (pc := 9) C dX11_goesOn_9 kim1 ?_
  refine r_icmp_ne (pc := 10) (tgt := 32) C dX11_goesOn_10 rfl (fun c_4 => ?_) (fun c_4 => ?_)
  · replace hr := (if_neg c_4).symm.trans hr
    refine r_aload_n (pc := 32) C dX11_goesOn_32 rfl 1 rfl ?_
    refine g50_4 (pc := 33) C dX11_goesOn_33 q1404 (e50 nf) ?_
    refine r_iconst (pc := 36) C dX11_goesOn_36 kim1 ?_
    refine r_icmp_ne (pc := 37) (tgt := 50) C dX11_goesOn_37 rfl (fun c_5 => ?_) (fun c_5 => ?_)
    · replace hr := (if_neg c_5).symm.trans hr
      refine r_iconst (pc := 50) C dX11_goesOn_50 ki0 ?_
      exact r_zret (pc := 51) CR dX11_goesOn_51 rfl (congrArg (fun z => some (Value.int z)) (Prod.mk.inj (gSome hr)).1) (Prod.mk.inj (gSome hr)).2
    · replace hr := (if_pos c_5).symm.trans hr
      refine r_iload_n (pc := 40) C dX11_goesOn_40 rfl 0 rfl ?_
      refine r_bipush (pc := 41) C dX11_goesOn_41 kb59 ?_
      refine r_icmp_ne (pc := 43) (tgt := 50) C dX11_goesOn_43 rfl (fun c_6 => ?_) (fun c_6 => ?_)
      · replace hr := (if_neg c_6).symm.trans hr
        refine r_iconst (pc := 50) C dX11_goesOn_50 ki0 ?_
        exact r_zret (pc := 51) CR dX11_goesOn_51 rfl (congrArg (fun z => some (Value.int z)) (Prod.mk.inj (gSome hr)).1) (Prod.mk.inj (gSome hr)).2
      · replace hr := (if_pos c_6).symm.trans hr
        refine r_iconst (pc := 46) C dX11_goesOn_46 ki1 ?_
        refine r_goto (pc := 47) (tgt := 51) C dX11_goesOn_47 rfl ?_
        exact r_zret (pc := 51) CR dX11_goesOn_51 rfl (congrArg (fun z => some (Value.int z)) (Prod.mk.inj (gSome hr)).1) (Prod.mk.inj (gSome hr)).2
  · replace hr := (if_pos c_4).symm.trans hr
    refine r_iload_n (pc := 13) C dX11_goesOn_13 rfl 0 rfl ?_
    refine r_iconst (pc := 14) C dX11_goesOn_14 kim1 ?_
    refine r_icmp_eq (pc := 15) (tgt := 32) C dX11_goesOn_15 rfl (fun c_7 => ?_) (fun c_7 => ?_)
    · replace hr := (if_pos c_7).symm.trans hr
      refine r_aload_n (pc := 32) C dX11_goesOn_32 rfl 1 rfl ?_
      refine g50_4 (pc := 33) C dX11_goesOn_33 q1404 (e50 nf) ?_
      refine r_iconst (pc := 36) C dX11_goesOn_36 kim1 ?_
      refine r_icmp_ne (pc := 37) (tgt := 50) C dX11_goesOn_37 rfl (fun c_8 => ?_) (fun c_8 => ?_)
      · replace hr := (if_neg c_8).symm.trans hr
        refine r_iconst (pc := 50) C dX11_goesOn_50 ki0 ?_
        exact r_zret (pc := 51) CR dX11_goesOn_51 rfl (congrArg (fun z => some (Value.int z)) (Prod.mk.inj (gSome hr)).1) (Prod.mk.inj (gSome hr)).2
      · replace hr := (if_pos c_8).symm.trans hr
        refine r_iload_n (pc := 40) C dX11_goesOn_40 rfl 0 rfl ?_
        refine r_bipush (pc := 41) C dX11_goesOn_41 kb59 ?_
        refine r_icmp_ne (pc := 43) (tgt := 50) C dX11_goesOn_43 rfl (fun c_9 => ?_) (fun c_9 => ?_)
        · replace hr := (if_neg c_9).symm.trans hr
          refine r_iconst (pc := 50) C dX11_goesOn_50 ki0 ?_
          exact r_zret (pc := 51) CR dX11_goesOn_51 rfl (congrArg (fun z => some (Value.int z)) (Prod.mk.inj (gSome hr)).1) (Prod.mk.inj (gSome hr)).2
        · replace hr := (if_pos c_9).symm.trans hr
          refine r_iconst (pc := 46) C dX11_goesOn_46 ki1 ?_
          refine r_goto (pc := 47) (tgt := 51) C dX11_goesOn_47 rfl ?_
          exact r_zret (pc := 51) CR dX11_goesOn_51 rfl (congrArg (fun z => some (Value.int z)) (Prod.mk.inj (gSome hr)).1) (Prod.mk.inj (gSome hr)).2
    · replace hr := (if_neg c_7).symm.trans hr
      refine r_iload_n (pc := 18) C dX11_goesOn_18 rfl 0 rfl ?_
      refine r_bipush (pc := 19) C dX11_goesOn_19 kb59 ?_
      refine r_icmp_eq (pc := 21) (tgt := 32) C dX11_goesOn_21 rfl (fun c_10 => ?_) (fun c_10 => ?_)
      · replace hr := (if_pos c_10).symm.trans hr
        refine r_aload_n (pc := 32) C dX11_goesOn_32 rfl 1 rfl ?_
        refine g50_4 (pc := 33) C dX11_goesOn_33 q1404 (e50 nf) ?_
        refine r_iconst (pc := 36) C dX11_goesOn_36 kim1 ?_
        refine r_icmp_ne (pc := 37) (tgt := 50) C dX11_goesOn_37 rfl (fun c_11 => ?_) (fun c_11 => ?_)
        · replace hr := (if_neg c_11).symm.trans hr
          refine r_iconst (pc := 50) C dX11_goesOn_50 ki0 ?_
          exact r_zret (pc := 51) CR dX11_goesOn_51 rfl (congrArg (fun z => some (Value.int z)) (Prod.mk.inj (gSome hr)).1) (Prod.mk.inj (gSome hr)).2
        · replace hr := (if_pos c_11).symm.trans hr
          refine r_iload_n (pc := 40) C dX11_goesOn_40 rfl 0 rfl ?_
          refine r_bipush (pc := 41) C dX11_goesOn_41 kb59 ?_
          refine r_icmp_ne (pc := 43) (tgt := 50) C dX11_goesOn_43 rfl (fun c_12 => ?_) (fun c_12 => ?_)
          · replace hr := (if_neg c_12).symm.trans hr
            refine r_iconst (pc := 50) C dX11_goesOn_50 ki0 ?_
            exact r_zret (pc := 51) CR dX11_goesOn_51 rfl (congrArg (fun z => some (Value.int z)) (Prod.mk.inj (gSome hr)).1) (Prod.mk.inj (gSome hr)).2
          · replace hr := (if_pos c_12).symm.trans hr
            refine r_iconst (pc := 46) C dX11_goesOn_46 ki1 ?_
            refine r_goto (pc := 47) (tgt := 51) C dX11_goesOn_47 rfl ?_
            exact r_zret (pc := 51) CR dX11_goesOn_51 rfl (congrArg (fun z => some (Value.int z)) (Prod.mk.inj (gSome hr)).1) (Prod.mk.inj (gSome hr)).2
      · replace hr := (if_neg c_10).symm.trans hr
        refine r_aload_n (pc := 24) C dX11_goesOn_24 rfl 1 rfl ?_
        refine r_aload_n (pc := 25) C dX11_goesOn_25 rfl 1 rfl ?_
        refine g50_3 (pc := 26) C dX11_goesOn_26 q1403 (e50 nf) ?_
        obtain ⟨M_14, hc_13, hr⟩ := gBind_some hr
        refine c_X11_fails (pc := 29) C dX11_goesOn_29 q1579 ⟨Nat.le_of_ble_eq_true rfl, Nat.le_of_ble_eq_true rfl⟩ hc_13 (Nat.le_of_ble_eq_true rfl) ?_
        refine r_aload_n (pc := 32) C dX11_goesOn_32 rfl 1 rfl ?_
        refine g50_4 (pc := 33) C dX11_goesOn_33 q1404 (e50 nf) ?_
        refine r_iconst (pc := 36) C dX11_goesOn_36 kim1 ?_
        refine r_icmp_ne (pc := 37) (tgt := 50) C dX11_goesOn_37 rfl (fun c_15 => ?_) (fun c_15 => ?_)
        · replace hr := (if_neg c_15).symm.trans hr
          refine r_iconst (pc := 50) C dX11_goesOn_50 ki0 ?_
          exact r_zret (pc := 51) CR dX11_goesOn_51 rfl (congrArg (fun z => some (Value.int z)) (Prod.mk.inj (gSome hr)).1) (Prod.mk.inj (gSome hr)).2
        · replace hr := (if_pos c_15).symm.trans hr
          refine r_iload_n (pc := 40) C dX11_goesOn_40 rfl 0 rfl ?_
          refine r_bipush (pc := 41) C dX11_goesOn_41 kb59 ?_
          refine r_icmp_ne (pc := 43) (tgt := 50) C dX11_goesOn_43 rfl (fun c_16 => ?_) (fun c_16 => ?_)
          · replace hr := (if_neg c_16).symm.trans hr
            refine r_iconst (pc := 50) C dX11_goesOn_50 ki0 ?_
            exact r_zret (pc := 51) CR dX11_goesOn_51 rfl (congrArg (fun z => some (Value.int z)) (Prod.mk.inj (gSome hr)).1) (Prod.mk.inj (gSome hr)).2
          · replace hr := (if_pos c_16).symm.trans hr
            refine r_iconst (pc := 46) C dX11_goesOn_46 ki1 ?_
            refine r_goto (pc := 47) (tgt := 51) C dX11_goesOn_47 rfl ?_
            exact r_zret (pc := 51) CR dX11_goesOn_51 rfl (congrArg (fun z => some (Value.int z)) (Prod.mk.inj (gSome hr)).1) (Prod.mk.inj (gSome hr)).2
theorem c_X11_goesOn {Ψ : gM → Nat → List (Nat × Value) → List Value → Prop} {G : gG5} {nf : Nat} {cc : ByteArray} {own : String} {nL : Nat} {ret : Option FieldType} {fr lo : Nat} {v0 : Option Value} {M0 M : gM} {pc index : Nat} {ls : List (Nat × Value)} {st : List Value} (C : gC Ψ G (gXn nf) cc own nL ret fr lo v0 M0) (d : decode cc pc = .ok (.invokevirtual index, 3)) (hl : Cond.methodLink own index yX11_goesOn ∈ gws) (hR : 3 ≤ fr ∧ 61 ≤ lo) {r : Int32} {M1 : gM} (hr : X11_goesOn M = some (r, M1)) (hcat : (st.map fun v => v.category).sum ≤ 8) (k : Ψ M1 (pc + 3) ls (.int r :: st)) : Ψ M pc ls (.ref (gad 50 0) :: st) := r_callV C [] st d (k_X11_goesOn hr) hl q1619 q50 q127 q1620 hd_X11_goesOn hR rfl (by decide) (e50 nf) rfl hcat k
theorem hd_X11_readScene : yX11_readScene.cls ≠ "java/lang/invoke/MethodHandle" ∧ yX11_readScene.cls ≠ "java/lang/invoke/VarHandle" ∧ (parseMethodDescriptor yX11_readScene.desc).map (fun d => d.parameters.length) = some 0 := by decide +kernel
noncomputable def X11_readScene_L13 (x1 : Int32) (x2 : Int32) (M : gM) : Option ((Int32 × Int32 × gM) ⊕ gM) := (if x2 = 0 then some (.inr M) else (X11_readClause x1 M).bind (gU2 (fun r_6 M_7 => (X11_goesOn M_7).bind (gU2 (fun r_9 M_10 => (if r_9 = 0 then some (.inl (r_6, r_9, M_10)) else gLet (wI M_10 50 0 3 ((M_10.1 50 0 3) + 1)) (fun M_12 => some (.inl (r_6, r_9, M_12)))))))))
theorem t_X11_readScene_L13 {Ψ : gM → Nat → List (Nat × Value) → List Value → Prop} {G : gG5} {nf : Nat} {M : gM} {v0 : Option Value} {M0 : gM} {x1 : Int32} {x2 : Int32} {w : ((Int32 × Int32 × gM) ⊕ gM)} (C : gC Ψ G (gXn nf) cX11_readScene RX11 3 none 9 214 v0 M0) (hr : X11_readScene_L13 x1 x2 M = some w) (hn : ∀ s, w = .inl s → Ψ s.2.2 13 [(0, .ref (gad 50 0)), (1, .int (s.1)), (2, .int (s.2.1))] []) (hx : ∀ e, w = .inr e → (fun e => Ψ e 45 [(0, .ref (gad 50 0))] []) e) : Ψ M 13 [(0, .ref (gad 50 0)), (1, .int x1), (2, .int x2)] [] := by
  refine r_iload_n (pc := 13) C dX11_readScene_13 rfl 2 rfl ?_
  refine r_if_eq (pc := 14) (tgt := 45) C dX11_readScene_14 rfl (fun c_4 => ?_) (fun c_4 => ?_)
  · replace hr := (if_pos c_4).symm.trans hr
    refine r_sub C [0] (ls' := [(0, .ref (gad 50 0))]) rfl ?_
    exact hx M (gSome hr)
  · replace hr := (if_neg c_4).symm.trans hr
    refine r_aload_n (pc := 17) C dX11_readScene_17 rfl 0 rfl ?_
    refine r_iload_n (pc := 18) C dX11_readScene_18 rfl 1 rfl ?_
    obtain ⟨⟨r_6, M_7⟩, hc_5, hr⟩ := gBind_some hr
    replace hr := gU2_some hr
    refine c_X11_readClause (pc := 19) C dX11_readScene_19 q1549 ⟨Nat.le_of_ble_eq_true rfl, Nat.le_of_ble_eq_true rfl⟩ hc_5 (Nat.le_of_ble_eq_true rfl) ?_
    refine r_istore_n (pc := 22) C dX11_readScene_22 rfl (by decide) rfl (ls' := [(1, .int r_6), (0, .ref (gad 50 0)), (2, .int x2)]) rfl ?_
    refine r_aload_n (pc := 23) C dX11_readScene_23 rfl 1 rfl ?_
    obtain ⟨⟨r_9, M_10⟩, hc_8, hr⟩ := gBind_some hr
    replace hr := gU2_some hr
    refine c_X11_goesOn (pc := 24) C dX11_readScene_24 q1617 ⟨Nat.le_of_ble_eq_true rfl, Nat.le_of_ble_eq_true rfl⟩ hc_8 (Nat.le_of_ble_eq_true rfl) ?_
    refine r_istore_n (pc := 27) C dX11_readScene_27 rfl (by decide) rfl (ls' := [(2, .int r_9), (1, .int r_6), (0, .ref (gad 50 0))]) rfl ?_
    refine r_iload_n (pc := 28) C dX11_readScene_28 rfl 0 rfl ?_
    refine r_if_eq (pc := 29) (tgt := 13) C dX11_readScene_29 rfl (fun c_11 => ?_) (fun c_11 => ?_)
    · replace hr := (if_pos c_11).symm.trans hr
      refine r_sub C [2, 1, 0] (ls' := [(0, .ref (gad 50 0)), (1, .int r_6), (2, .int r_9)]) rfl ?_
      exact hn (r_6, r_9, M_10) (gSome hr)
    · replace hr := (if_neg c_11).symm.trans hr
      refine r_aload_n (pc := 32) C dX11_readScene_32 rfl 2 rfl ?_
      refine r_dup (pc := 33) C dX11_readScene_33 rfl ?_
      refine g50_3 (pc := 34) C dX11_readScene_34 q1403 (e50 nf) ?_
      refine r_iconst (pc := 37) C dX11_readScene_37 ki1 ?_
      refine r_iadd (pc := 38) C dX11_readScene_38 ?_
      obtain ⟨M_12, eM_12, hr⟩ := gLet_some hr
      refine p50_3 (pc := 39) C dX11_readScene_39 q1403 (e50 nf) eM_12 ?_
      refine r_goto (pc := 42) (tgt := 13) C dX11_readScene_42 rfl ?_
      refine r_sub C [2, 1, 0] (ls' := [(0, .ref (gad 50 0)), (1, .int r_6), (2, .int r_9)]) rfl ?_
      exact hn (r_6, r_9, M_12) (gSome hr)
noncomputable def X11_readScene (M : gM) : Option gM := (X11_usualRules M).bind (fun M_2 => gLet (wI M_2 50 0 15 0) (fun M_3 => (gIter (fun s => X11_readScene_L13 s.1 s.2.1 s.2.2) FU (0, 1, M_3)).bind (fun M_13 => (if (M_13.1 50 0 4) = (-1) then (if (M_13.1 50 0 15) = 0 then (X11_fails (M_13.1 50 0 3) M_13).bind (fun M_17 => some M_17) else some M_13) else some M_13))))
theorem k_X11_readScene {G : gG5} {nf : Nat} {M : gM} {M1 : gM} (hr : X11_readScene M = some M1) : gMet G (gXn nf) yX11_readScene cX11_readScene 3 none 9 214 M [.ref (gad 50 0)] none M1 := by
  refine gMet_of pl_X11 rfl (Nat.le_of_ble_eq_true rfl) (fun Ψ C CR => ?_)
  show Ψ M 0 [(0, .ref (gad 50 0))] []
  refine r_aload_n (pc := 0) C dX11_readScene_0 rfl 0 rfl ?_
  obtain ⟨M_2, hc_1, hr⟩ := gBind_some hr
  refine c_X11_usualRules (pc := 1) C dX11_readScene_1 q1545 ⟨Nat.le_of_ble_eq_true rfl, Nat.le_of_ble_eq_true rfl⟩ hc_1 (Nat.le_of_ble_eq_true rfl) ?_
  refine r_aload_n (pc := 4) C dX11_readScene_4 rfl 0 rfl ?_
  refine r_iconst (pc := 5) C dX11_readScene_5 ki0 ?_
  obtain ⟨M_3, eM_3, hr⟩ := gLet_some hr
  refine p50_15 (pc := 6) C dX11_readScene_6 q1415 (e50 nf) eM_3 ?_
  refine r_iconst (pc := 9) C dX11_readScene_9 ki0 ?_
  refine r_istore_n (pc := 10) C dX11_readScene_10 rfl (by decide) rfl (ls' := [(1, .int 0), (0, .ref (gad 50 0))]) rfl ?_
  refine r_iconst (pc := 11) C dX11_readScene_11 ki1 ?_
  refine r_istore_n (pc := 12) C dX11_readScene_12 rfl (by decide) rfl (ls' := [(2, .int 1), (1, .int 0), (0, .ref (gad 50 0))]) rfl ?_
  refine r_sub C [2, 1, 0] (ls' := [(0, .ref (gad 50 0)), (1, .int 0), (2, .int 1)]) rfl ?_
  obtain ⟨ev, hit, hr⟩ := gBind_some hr
  refine gIter_V (step := fun s => X11_readScene_L13 s.1 s.2.1 s.2.2) (P := fun s => Ψ s.2.2 13 [(0, .ref (gad 50 0)), (1, .int (s.1)), (2, .int (s.2.1))] []) (K := (fun e => Ψ e 45 [(0, .ref (gad 50 0))] [])) (fun s w hs hn hx => t_X11_readScene_L13 C  hs hn hx) FU (0, 1, M_3) ev hit ?_
  obtain ⟨M_13, rfl⟩ : ∃ z, z = ev := ⟨_, rfl⟩
  show Ψ M_13 45 [(0, .ref (gad 50 0))] []
  refine r_aload_n (pc := 45) C dX11_readScene_45 rfl 0 rfl ?_
  refine g50_4 (pc := 46) C dX11_readScene_46 q1404 (e50 nf) ?_
  refine r_iconst (pc := 49) C dX11_readScene_49 kim1 ?_
  refine r_icmp_ne (pc := 50) (tgt := 68) C dX11_readScene_50 rfl (fun c_14 => ?_) (fun c_14 => ?_)
  · replace hr := (if_neg c_14).symm.trans hr
    exact r_vret (pc := 68) CR dX11_readScene_68 rfl (gSome hr)
  · replace hr := (if_pos c_14).symm.trans hr
    refine r_aload_n (pc := 53) C dX11_readScene_53 rfl 0 rfl ?_
    refine g50_15 (pc := 54) C dX11_readScene_54 q1415 (e50 nf) ?_
    refine r_if_ne (pc := 57) (tgt := 68) C dX11_readScene_57 rfl (fun c_15 => ?_) (fun c_15 => ?_)
    · replace hr := (if_neg c_15).symm.trans hr
      exact r_vret (pc := 68) CR dX11_readScene_68 rfl (gSome hr)
    · replace hr := (if_pos c_15).symm.trans hr
      refine r_aload_n (pc := 60) C dX11_readScene_60 rfl 0 rfl ?_
      refine r_aload_n (pc := 61) C dX11_readScene_61 rfl 0 rfl ?_
      refine g50_3 (pc := 62) C dX11_readScene_62 q1403 (e50 nf) ?_
      obtain ⟨M_17, hc_16, hr⟩ := gBind_some hr
      refine c_X11_fails (pc := 65) C dX11_readScene_65 q1579 ⟨Nat.le_of_ble_eq_true rfl, Nat.le_of_ble_eq_true rfl⟩ hc_16 (Nat.le_of_ble_eq_true rfl) ?_
      exact r_vret (pc := 68) CR dX11_readScene_68 rfl (gSome hr)
theorem c_X11_readScene {Ψ : gM → Nat → List (Nat × Value) → List Value → Prop} {G : gG5} {nf : Nat} {cc : ByteArray} {own : String} {nL : Nat} {ret : Option FieldType} {fr lo : Nat} {v0 : Option Value} {M0 M : gM} {pc index : Nat} {ls : List (Nat × Value)} {st : List Value} (C : gC Ψ G (gXn nf) cc own nL ret fr lo v0 M0) (d : decode cc pc = .ok (.invokevirtual index, 3)) (hl : Cond.methodLink own index yX11_readScene ∈ gws) (hR : 10 ≤ fr ∧ 236 ≤ lo) {M1 : gM} (hr : X11_readScene M = some M1) (hcat : (st.map fun v => v.category).sum ≤ 8) (k : Ψ M1 (pc + 3) ls (st)) : Ψ M pc ls (.ref (gad 50 0) :: st) := r_callV C [] st d (k_X11_readScene hr) hl q1543 q38 q127 q1544 hd_X11_readScene hR rfl (by decide) (e50 nf) rfl hcat k
theorem hd_X11_readScript : yX11_readScript.cls ≠ "java/lang/invoke/MethodHandle" ∧ yX11_readScript.cls ≠ "java/lang/invoke/VarHandle" ∧ (parseMethodDescriptor yX11_readScript.desc).map (fun d => d.parameters.length) = some 0 := by decide +kernel
noncomputable def X11_readScript_L88 (x1 : Int32) (x3 : Int32) (x5 : Int32) (x6 : Int32) (M : gM) : Option ((Int32 × gM) ⊕ gM) := (if 4 ≤ x6 then some (.inr M) else (if x5 ≤ x6 then gG (gin ((x3 + 1) + x6) 300) (gLet (wI M 52 5 (Int32.toNatClampNeg ((x3 + 1) + x6)) (-1000000000)) (fun M_15 => gLet (x6 + 1) (fun x6_16 => some (.inl (x6_16, M_15))))) else gG (gin x6 11) (gG (gin ((x3 + 1) + x6) 300) (gLet (wI M 52 5 (Int32.toNatClampNeg ((x3 + 1) + x6)) (M.1 52 0 (Int32.toNatClampNeg x6))) (fun M_19 => gLet (x6 + 1) (fun x6_20 => some (.inl (x6_20, M_19))))))))
theorem t_X11_readScript_L88 {Ψ : gM → Nat → List (Nat × Value) → List Value → Prop} {G : gG5} {nf : Nat} {M : gM} {v0 : Option Value} {M0 : gM} {x1 : Int32} {x3 : Int32} {x5 : Int32} {x6 : Int32} {w : ((Int32 × gM) ⊕ gM)} (C : gC Ψ G (gXn nf) cX11_readScript RX11 7 none 8 191 v0 M0) (hr : X11_readScript_L88 x1 x3 x5 x6 M = some w) (hn : ∀ s, w = .inl s → Ψ s.2 88 [(0, .ref (gad 50 0)), (1, .int x1), (3, .int x3), (5, .int x5), (6, .int (s.1))] []) (hx : ∀ e, w = .inr e → (fun e => Ψ e 130 [(0, .ref (gad 50 0)), (1, .int x1)] []) e) : Ψ M 88 [(0, .ref (gad 50 0)), (1, .int x1), (3, .int x3), (5, .int x5), (6, .int x6)] [] := by
  refine r_iload (pc := 88) C dX11_readScript_88 4 rfl ?_
  refine r_iconst (pc := 90) C dX11_readScript_90 ki4 ?_
  refine r_icmp_ge (pc := 91) (tgt := 130) C dX11_readScript_91 rfl (fun c_12 => ?_) (fun c_12 => ?_)
  · replace hr := (if_pos c_12).symm.trans hr
    refine r_sub C [0, 1] (ls' := [(0, .ref (gad 50 0)), (1, .int x1)]) rfl ?_
    exact hx M (gSome hr)
  · replace hr := (if_neg c_12).symm.trans hr
    refine r_aload_n (pc := 94) C dX11_readScript_94 rfl 0 rfl ?_
    refine g50_12 (pc := 95) C dX11_readScript_95 q1412 (e50 nf) ?_
    refine r_iload_n (pc := 98) C dX11_readScript_98 rfl 2 rfl ?_
    refine r_iconst (pc := 99) C dX11_readScript_99 ki1 ?_
    refine r_iadd (pc := 100) C dX11_readScript_100 ?_
    refine r_iload (pc := 101) C dX11_readScript_101 4 rfl ?_
    refine r_iadd (pc := 103) C dX11_readScript_103 ?_
    refine r_iload (pc := 104) C dX11_readScript_104 4 rfl ?_
    refine r_iload (pc := 106) C dX11_readScript_106 3 rfl ?_
    refine r_icmp_ge (pc := 108) (tgt := 121) C dX11_readScript_108 rfl (fun c_13 => ?_) (fun c_13 => ?_)
    · replace hr := (if_pos c_13).symm.trans hr
      refine r_ldc (pc := 121) C dX11_readScript_121 q1626 ?_
      obtain ⟨g_14, hr⟩ := gG_some hr
      obtain ⟨M_15, eM_15, hr⟩ := gLet_some hr
      refine r_iastN (pc := 123) C dX11_readScript_123 rfl (e52 (nf := nf) (by decide)) g_14 rfl eM_15 ?_
      obtain ⟨x6_16, ex6_16, hr⟩ := gLet_some hr
      refine r_iinc (pc := 124) C dX11_readScript_124 4 rfl rfl (by decide) ex6_16 (ls' := [(6, .int x6_16), (0, .ref (gad 50 0)), (1, .int x1), (3, .int x3), (5, .int x5)]) rfl ?_
      refine r_goto (pc := 127) (tgt := 88) C dX11_readScript_127 rfl ?_
      refine r_sub C [1, 2, 3, 4, 0] (ls' := [(0, .ref (gad 50 0)), (1, .int x1), (3, .int x3), (5, .int x5), (6, .int x6_16)]) rfl ?_
      exact hn (x6_16, M_15) (gSome hr)
    · replace hr := (if_neg c_13).symm.trans hr
      refine r_aload_n (pc := 111) C dX11_readScript_111 rfl 0 rfl ?_
      refine g50_6 (pc := 112) C dX11_readScript_112 q1406 (e50 nf) ?_
      refine r_iload (pc := 115) C dX11_readScript_115 4 rfl ?_
      obtain ⟨g_17, hr⟩ := gG_some hr
      refine r_ialdN (pc := 117) C dX11_readScript_117 rfl (e52 (nf := nf) (by decide)) g_17 rfl ?_
      refine r_goto (pc := 118) (tgt := 123) C dX11_readScript_118 rfl ?_
      obtain ⟨g_18, hr⟩ := gG_some hr
      obtain ⟨M_19, eM_19, hr⟩ := gLet_some hr
      refine r_iastN (pc := 123) C dX11_readScript_123 rfl (e52 (nf := nf) (by decide)) g_18 rfl eM_19 ?_
      obtain ⟨x6_20, ex6_20, hr⟩ := gLet_some hr
      refine r_iinc (pc := 124) C dX11_readScript_124 4 rfl rfl (by decide) ex6_20 (ls' := [(6, .int x6_20), (0, .ref (gad 50 0)), (1, .int x1), (3, .int x3), (5, .int x5)]) rfl ?_
      refine r_goto (pc := 127) (tgt := 88) C dX11_readScript_127 rfl ?_
      refine r_sub C [1, 2, 3, 4, 0] (ls' := [(0, .ref (gad 50 0)), (1, .int x1), (3, .int x3), (5, .int x5), (6, .int x6_20)]) rfl ?_
      exact hn (x6_20, M_19) (gSome hr)
noncomputable def X11_readScript_J66 (x1 : Int32) (x3 : Int32) (x4 : Int32) (xs0 : Int32) (M : gM) : Option ((Int32 × Int32 × gM) ⊕ (gM ⊕ (gM ⊕ (Int32 × gM)))) := (X11_readNumbers xs0 0 x4 M).bind (fun M_9 => gG (gin x3 300) (gLet (wI M_9 52 5 (Int32.toNatClampNeg x3) x4) (fun M_11 => (gIter (fun s => X11_readScript_L88 x1 x3 xs0 s.1 s.2) FU (0, M_11)).bind (fun M_21 => gLet (x1 + 1) (fun x1_22 => (X11_goesOn M_21).bind (gU2 (fun r_24 M_25 => (if r_24 = 0 then (if r_24 = 0 then some (.inl (x1_22, r_24, M_25)) else gLet (wI M_25 50 0 3 ((M_25.1 50 0 3) + 1)) (fun M_28 => some (.inl (x1_22, r_24, M_28)))) else (if x1_22 = 12 then some (.inr (.inr (.inl M_25))) else (if r_24 = 0 then some (.inl (x1_22, r_24, M_25)) else gLet (wI M_25 50 0 3 ((M_25.1 50 0 3) + 1)) (fun M_31 => some (.inl (x1_22, r_24, M_31)))))))))))))
theorem t_X11_readScript_J66 {Ψ : gM → Nat → List (Nat × Value) → List Value → Prop} {G : gG5} {nf : Nat} {M : gM} {v0 : Option Value} {M0 : gM} {x1 : Int32} {x3 : Int32} {x4 : Int32} {xs0 : Int32} {w : ((Int32 × Int32 × gM) ⊕ (gM ⊕ (gM ⊕ (Int32 × gM))))} (C : gC Ψ G (gXn nf) cX11_readScript RX11 7 none 8 191 v0 M0) (hr : X11_readScript_J66 x1 x3 x4 xs0 M = some w) (hn : ∀ s, w = .inl s → Ψ s.2.2 4 [(0, .ref (gad 50 0)), (1, .int (s.1)), (2, .int (s.2.1))] []) (hx : ∀ e, w = .inr e → (gSP (fun e => Ψ e 29 [(0, .ref (gad 50 0))] []) (gSP (fun e => Ψ e 148 [(0, .ref (gad 50 0))] []) (fun e => Ψ e.2 174 [(0, .ref (gad 50 0)), (1, .int (e.1))] []))) e) : Ψ M 66 [(0, .ref (gad 50 0)), (1, .int x1), (3, .int x3), (4, .int x4)] [.int xs0] := by
  refine r_istore (pc := 66) C dX11_readScript_66 (by decide) rfl (ls' := [(5, .int xs0), (0, .ref (gad 50 0)), (1, .int x1), (3, .int x3), (4, .int x4)]) rfl ?_
  refine r_aload_n (pc := 68) C dX11_readScript_68 rfl 1 rfl ?_
  refine r_iload (pc := 69) C dX11_readScript_69 0 rfl ?_
  refine r_iconst (pc := 71) C dX11_readScript_71 ki0 ?_
  refine r_iload (pc := 72) C dX11_readScript_72 4 rfl ?_
  obtain ⟨M_9, hc_8, hr⟩ := gBind_some hr
  refine c_X11_readNumbers (pc := 74) C dX11_readScript_74 q1583 ⟨Nat.le_of_ble_eq_true rfl, Nat.le_of_ble_eq_true rfl⟩ hc_8 (Nat.le_of_ble_eq_true rfl) ?_
  refine r_aload_n (pc := 77) C dX11_readScript_77 rfl 1 rfl ?_
  refine g50_12 (pc := 78) C dX11_readScript_78 q1412 (e50 nf) ?_
  refine r_iload_n (pc := 81) C dX11_readScript_81 rfl 3 rfl ?_
  refine r_iload (pc := 82) C dX11_readScript_82 4 rfl ?_
  obtain ⟨g_10, hr⟩ := gG_some hr
  obtain ⟨M_11, eM_11, hr⟩ := gLet_some hr
  refine r_iastN (pc := 84) C dX11_readScript_84 rfl (e52 (nf := nf) (by decide)) g_10 rfl eM_11 ?_
  refine r_iconst (pc := 85) C dX11_readScript_85 ki0 ?_
  refine r_istore (pc := 86) C dX11_readScript_86 (by decide) rfl (ls' := [(6, .int 0), (5, .int xs0), (0, .ref (gad 50 0)), (1, .int x1), (3, .int x3), (4, .int x4)]) rfl ?_
  refine r_sub C [2, 3, 4, 1, 0] (ls' := [(0, .ref (gad 50 0)), (1, .int x1), (3, .int x3), (5, .int xs0), (6, .int 0)]) rfl ?_
  obtain ⟨ev, hit, hr⟩ := gBind_some hr
  refine gIter_V (step := fun s => X11_readScript_L88 x1 x3 xs0 s.1 s.2) (P := fun s => Ψ s.2 88 [(0, .ref (gad 50 0)), (1, .int x1), (3, .int x3), (5, .int xs0), (6, .int (s.1))] []) (K := (fun e => Ψ e 130 [(0, .ref (gad 50 0)), (1, .int x1)] [])) (fun s w hs hn hx => t_X11_readScript_L88 C  hs hn hx) FU (0, M_11) ev hit ?_
  obtain ⟨M_21, rfl⟩ : ∃ z, z = ev := ⟨_, rfl⟩
  show Ψ M_21 130 [(0, .ref (gad 50 0)), (1, .int x1)] []
  obtain ⟨x1_22, ex1_22, hr⟩ := gLet_some hr
  refine r_iinc (pc := 130) C dX11_readScript_130 1 rfl rfl (by decide) ex1_22 (ls' := [(1, .int x1_22), (0, .ref (gad 50 0))]) rfl ?_
  refine r_aload_n (pc := 133) C dX11_readScript_133 rfl 1 rfl ?_
  obtain ⟨⟨r_24, M_25⟩, hc_23, hr⟩ := gBind_some hr
  replace hr := gU2_some hr
  refine c_X11_goesOn (pc := 134) C dX11_readScript_134 q1617 ⟨Nat.le_of_ble_eq_true rfl, Nat.le_of_ble_eq_true rfl⟩ hc_23 (Nat.le_of_ble_eq_true rfl) ?_
  refine r_istore_n (pc := 137) C dX11_readScript_137 rfl (by decide) rfl (ls' := [(2, .int r_24), (1, .int x1_22), (0, .ref (gad 50 0))]) rfl ?_
  refine r_iload_n (pc := 138) C dX11_readScript_138 rfl 0 rfl ?_
  refine r_if_eq (pc := 139) (tgt := 157) C dX11_readScript_139 rfl (fun c_26 => ?_) (fun c_26 => ?_)
  · replace hr := (if_pos c_26).symm.trans hr
    refine r_iload_n (pc := 157) C dX11_readScript_157 rfl 0 rfl ?_
    refine r_if_eq (pc := 158) (tgt := 171) C dX11_readScript_158 rfl (fun c_27 => ?_) (fun c_27 => ?_)
    · replace hr := (if_pos c_27).symm.trans hr
      refine r_goto (pc := 171) (tgt := 4) C dX11_readScript_171 rfl ?_
      refine r_sub C [2, 1, 0] (ls' := [(0, .ref (gad 50 0)), (1, .int x1_22), (2, .int r_24)]) rfl ?_
      exact hn (x1_22, r_24, M_25) (gSome hr)
    · replace hr := (if_neg c_27).symm.trans hr
      refine r_aload_n (pc := 161) C dX11_readScript_161 rfl 2 rfl ?_
      refine r_dup (pc := 162) C dX11_readScript_162 rfl ?_
      refine g50_3 (pc := 163) C dX11_readScript_163 q1403 (e50 nf) ?_
      refine r_iconst (pc := 166) C dX11_readScript_166 ki1 ?_
      refine r_iadd (pc := 167) C dX11_readScript_167 ?_
      obtain ⟨M_28, eM_28, hr⟩ := gLet_some hr
      refine p50_3 (pc := 168) C dX11_readScript_168 q1403 (e50 nf) eM_28 ?_
      refine r_goto (pc := 171) (tgt := 4) C dX11_readScript_171 rfl ?_
      refine r_sub C [2, 1, 0] (ls' := [(0, .ref (gad 50 0)), (1, .int x1_22), (2, .int r_24)]) rfl ?_
      exact hn (x1_22, r_24, M_28) (gSome hr)
  · replace hr := (if_neg c_26).symm.trans hr
    refine r_iload_n (pc := 142) C dX11_readScript_142 rfl 1 rfl ?_
    refine r_bipush (pc := 143) C dX11_readScript_143 kb12 ?_
    refine r_icmp_ne (pc := 145) (tgt := 157) C dX11_readScript_145 rfl (fun c_29 => ?_) (fun c_29 => ?_)
    · replace hr := (if_neg c_29).symm.trans hr
      refine r_iload_n (pc := 157) C dX11_readScript_157 rfl 0 rfl ?_
      refine r_if_eq (pc := 158) (tgt := 171) C dX11_readScript_158 rfl (fun c_30 => ?_) (fun c_30 => ?_)
      · replace hr := (if_pos c_30).symm.trans hr
        refine r_goto (pc := 171) (tgt := 4) C dX11_readScript_171 rfl ?_
        refine r_sub C [2, 1, 0] (ls' := [(0, .ref (gad 50 0)), (1, .int x1_22), (2, .int r_24)]) rfl ?_
        exact hn (x1_22, r_24, M_25) (gSome hr)
      · replace hr := (if_neg c_30).symm.trans hr
        refine r_aload_n (pc := 161) C dX11_readScript_161 rfl 2 rfl ?_
        refine r_dup (pc := 162) C dX11_readScript_162 rfl ?_
        refine g50_3 (pc := 163) C dX11_readScript_163 q1403 (e50 nf) ?_
        refine r_iconst (pc := 166) C dX11_readScript_166 ki1 ?_
        refine r_iadd (pc := 167) C dX11_readScript_167 ?_
        obtain ⟨M_31, eM_31, hr⟩ := gLet_some hr
        refine p50_3 (pc := 168) C dX11_readScript_168 q1403 (e50 nf) eM_31 ?_
        refine r_goto (pc := 171) (tgt := 4) C dX11_readScript_171 rfl ?_
        refine r_sub C [2, 1, 0] (ls' := [(0, .ref (gad 50 0)), (1, .int x1_22), (2, .int r_24)]) rfl ?_
        exact hn (x1_22, r_24, M_31) (gSome hr)
    · replace hr := (if_pos c_29).symm.trans hr
      refine r_sub C [2] (ls' := [(0, .ref (gad 50 0))]) rfl ?_
      exact hx (.inr (.inl M_25)) (gSome hr)
noncomputable def X11_readScript_J50 (x1 : Int32) (x3 : Int32) (x4 : Int32) (M : gM) : Option ((Int32 × Int32 × gM) ⊕ (gM ⊕ (gM ⊕ (Int32 × gM)))) := X11_readScript_J66 x1 x3 x4 0 M
theorem t_X11_readScript_J50 {Ψ : gM → Nat → List (Nat × Value) → List Value → Prop} {G : gG5} {nf : Nat} {M : gM} {v0 : Option Value} {M0 : gM} {x1 : Int32} {x3 : Int32} {x4 : Int32} {w : ((Int32 × Int32 × gM) ⊕ (gM ⊕ (gM ⊕ (Int32 × gM))))} (C : gC Ψ G (gXn nf) cX11_readScript RX11 7 none 8 191 v0 M0) (hr : X11_readScript_J50 x1 x3 x4 M = some w) (hn : ∀ s, w = .inl s → Ψ s.2.2 4 [(0, .ref (gad 50 0)), (1, .int (s.1)), (2, .int (s.2.1))] []) (hx : ∀ e, w = .inr e → (gSP (fun e => Ψ e 29 [(0, .ref (gad 50 0))] []) (gSP (fun e => Ψ e 148 [(0, .ref (gad 50 0))] []) (fun e => Ψ e.2 174 [(0, .ref (gad 50 0)), (1, .int (e.1))] []))) e) : Ψ M 50 [(0, .ref (gad 50 0)), (1, .int x1), (3, .int x3), (4, .int x4)] [] := by
  refine r_iconst (pc := 50) C dX11_readScript_50 ki0 ?_
  refine r_goto (pc := 51) (tgt := 66) C dX11_readScript_51 rfl ?_
  exact t_X11_readScript_J66 C  hr hn hx
noncomputable def X11_readScript_L4 (x1 : Int32) (x2 : Int32) (M : gM) : Option ((Int32 × Int32 × gM) ⊕ (gM ⊕ (gM ⊕ (Int32 × gM)))) := (if x2 = 0 then some (.inr (.inr (.inr (x1, M)))) else gLet ((5 * (48 + x1))) (fun x3_2 => (X11_word 1 M).bind (gU2 (fun r_4 M_5 => (if r_4 = (-1) then some (.inr (.inl M_5)) else (if r_4 = 2 then X11_readScript_J50 x1 x3_2 r_4 M_5 else (if r_4 = 3 then X11_readScript_J50 x1 x3_2 r_4 M_5 else (if r_4 = 8 then X11_readScript_J66 x1 x3_2 r_4 4 M_5 else X11_readScript_J66 x1 x3_2 r_4 1 M_5))))))))
theorem t_X11_readScript_L4 {Ψ : gM → Nat → List (Nat × Value) → List Value → Prop} {G : gG5} {nf : Nat} {M : gM} {v0 : Option Value} {M0 : gM} {x1 : Int32} {x2 : Int32} {w : ((Int32 × Int32 × gM) ⊕ (gM ⊕ (gM ⊕ (Int32 × gM))))} (C : gC Ψ G (gXn nf) cX11_readScript RX11 7 none 8 191 v0 M0) (hr : X11_readScript_L4 x1 x2 M = some w) (hn : ∀ s, w = .inl s → Ψ s.2.2 4 [(0, .ref (gad 50 0)), (1, .int (s.1)), (2, .int (s.2.1))] []) (hx : ∀ e, w = .inr e → (gSP (fun e => Ψ e 29 [(0, .ref (gad 50 0))] []) (gSP (fun e => Ψ e 148 [(0, .ref (gad 50 0))] []) (fun e => Ψ e.2 174 [(0, .ref (gad 50 0)), (1, .int (e.1))] []))) e) : Ψ M 4 [(0, .ref (gad 50 0)), (1, .int x1), (2, .int x2)] [] := by
  refine r_iload_n (pc := 4) C dX11_readScript_4 rfl 2 rfl ?_
  refine r_if_eq (pc := 5) (tgt := 174) C dX11_readScript_5 rfl (fun c_1 => ?_) (fun c_1 => ?_)
  · replace hr := (if_pos c_1).symm.trans hr
    refine r_sub C [0, 1] (ls' := [(0, .ref (gad 50 0)), (1, .int x1)]) rfl ?_
    exact hx (.inr (.inr (x1, M))) (gSome hr)
  · replace hr := (if_neg c_1).symm.trans hr
    refine r_iconst (pc := 8) C dX11_readScript_8 ki5 ?_
    refine r_bipush (pc := 9) C dX11_readScript_9 kb48 ?_
    refine r_iload_n (pc := 11) C dX11_readScript_11 rfl 1 rfl ?_
    refine r_iadd (pc := 12) C dX11_readScript_12 ?_
    refine r_imul (pc := 13) C dX11_readScript_13 ?_
    obtain ⟨x3_2, ex3_2, hr⟩ := gLet_some hr
    refine r_istore_n (pc := 14) C dX11_readScript_14 rfl (by decide) ex3_2 (ls' := [(3, .int x3_2), (0, .ref (gad 50 0)), (1, .int x1), (2, .int x2)]) rfl ?_
    refine r_aload_n (pc := 15) C dX11_readScript_15 rfl 1 rfl ?_
    refine r_ldcS (pc := 16) C dX11_readScript_16 3 (by decide) rfl rfl ?_
    obtain ⟨⟨r_4, M_5⟩, hc_3, hr⟩ := gBind_some hr
    replace hr := gU2_some hr
    refine c_X11_word (pc := 18) C dX11_readScript_18 q1554 ⟨Nat.le_of_ble_eq_true rfl, Nat.le_of_ble_eq_true rfl⟩ (by decide) hc_3 (Nat.le_of_ble_eq_true rfl) ?_
    refine r_istore (pc := 21) C dX11_readScript_21 (by decide) rfl (ls' := [(4, .int r_4), (3, .int x3_2), (0, .ref (gad 50 0)), (1, .int x1), (2, .int x2)]) rfl ?_
    refine r_iload (pc := 23) C dX11_readScript_23 0 rfl ?_
    refine r_iconst (pc := 25) C dX11_readScript_25 kim1 ?_
    refine r_icmp_ne (pc := 26) (tgt := 38) C dX11_readScript_26 rfl (fun c_6 => ?_) (fun c_6 => ?_)
    · replace hr := (if_neg c_6).symm.trans hr
      refine r_iload (pc := 38) C dX11_readScript_38 0 rfl ?_
      refine r_iconst (pc := 40) C dX11_readScript_40 ki2 ?_
      refine r_icmp_eq (pc := 41) (tgt := 50) C dX11_readScript_41 rfl (fun c_7 => ?_) (fun c_7 => ?_)
      · replace hr := (if_pos c_7).symm.trans hr
        refine r_sub C [2, 3, 1, 0] (ls' := [(0, .ref (gad 50 0)), (1, .int x1), (3, .int x3_2), (4, .int r_4)]) rfl ?_
        exact t_X11_readScript_J50 C  hr hn hx
      · replace hr := (if_neg c_7).symm.trans hr
        refine r_iload (pc := 44) C dX11_readScript_44 0 rfl ?_
        refine r_iconst (pc := 46) C dX11_readScript_46 ki3 ?_
        refine r_icmp_ne (pc := 47) (tgt := 54) C dX11_readScript_47 rfl (fun c_32 => ?_) (fun c_32 => ?_)
        · replace hr := (if_neg c_32).symm.trans hr
          refine r_iload (pc := 54) C dX11_readScript_54 0 rfl ?_
          refine r_bipush (pc := 56) C dX11_readScript_56 kb8 ?_
          refine r_icmp_ne (pc := 58) (tgt := 65) C dX11_readScript_58 rfl (fun c_33 => ?_) (fun c_33 => ?_)
          · replace hr := (if_neg c_33).symm.trans hr
            refine r_iconst (pc := 65) C dX11_readScript_65 ki1 ?_
            refine r_sub C [2, 3, 1, 0] (ls' := [(0, .ref (gad 50 0)), (1, .int x1), (3, .int x3_2), (4, .int r_4)]) rfl ?_
            exact t_X11_readScript_J66 C  hr hn hx
          · replace hr := (if_pos c_33).symm.trans hr
            refine r_iconst (pc := 61) C dX11_readScript_61 ki4 ?_
            refine r_goto (pc := 62) (tgt := 66) C dX11_readScript_62 rfl ?_
            refine r_sub C [2, 3, 1, 0] (ls' := [(0, .ref (gad 50 0)), (1, .int x1), (3, .int x3_2), (4, .int r_4)]) rfl ?_
            exact t_X11_readScript_J66 C  hr hn hx
        · replace hr := (if_pos c_32).symm.trans hr
          refine r_sub C [2, 3, 1, 0] (ls' := [(0, .ref (gad 50 0)), (1, .int x1), (3, .int x3_2), (4, .int r_4)]) rfl ?_
          exact t_X11_readScript_J50 C  hr hn hx
    · replace hr := (if_pos c_6).symm.trans hr
      refine r_sub C [2] (ls' := [(0, .ref (gad 50 0))]) rfl ?_
      exact hx (.inl M_5) (gSome hr)
noncomputable def X11_readScript (M : gM) : Option gM := (gIter (fun s => X11_readScript_L4 s.1 s.2.1 s.2.2) FU (0, 1, M)).bind (gS2 (fun M_34 => (X11_fails (M_34.1 50 0 5) M_34).bind (fun M_36 => some M_36)) (gS2 (fun M_37 => (X11_fails (M_37.1 50 0 3) M_37).bind (fun M_39 => some M_39)) (gU2 (fun x1_40 M_41 => gLet (wI M_41 52 6 4 x1_40) (fun M_42 => some M_42)))))
theorem k_X11_readScript {G : gG5} {nf : Nat} {M : gM} {M1 : gM} (hr : X11_readScript M = some M1) : gMet G (gXn nf) yX11_readScript cX11_readScript 7 none 8 191 M [.ref (gad 50 0)] none M1 := by
  refine gMet_of pl_X11 rfl (Nat.le_of_ble_eq_true rfl) (fun Ψ C CR => ?_)
  show Ψ M 0 [(0, .ref (gad 50 0))] []
  refine r_iconst (pc := 0) C dX11_readScript_0 ki0 ?_
  refine r_istore_n (pc := 1) C dX11_readScript_1 rfl (by decide) rfl (ls' := [(1, .int 0), (0, .ref (gad 50 0))]) rfl ?_
  refine r_iconst (pc := 2) C dX11_readScript_2 ki1 ?_
  refine r_istore_n (pc := 3) C dX11_readScript_3 rfl (by decide) rfl (ls' := [(2, .int 1), (1, .int 0), (0, .ref (gad 50 0))]) rfl ?_
  refine r_sub C [2, 1, 0] (ls' := [(0, .ref (gad 50 0)), (1, .int 0), (2, .int 1)]) rfl ?_
  obtain ⟨ev, hit, hr⟩ := gBind_some hr
  refine gIter_V (step := fun s => X11_readScript_L4 s.1 s.2.1 s.2.2) (P := fun s => Ψ s.2.2 4 [(0, .ref (gad 50 0)), (1, .int (s.1)), (2, .int (s.2.1))] []) (K := (gSP (fun e => Ψ e 29 [(0, .ref (gad 50 0))] []) (gSP (fun e => Ψ e 148 [(0, .ref (gad 50 0))] []) (fun e => Ψ e.2 174 [(0, .ref (gad 50 0)), (1, .int (e.1))] [])))) (fun s w hs hn hx => t_X11_readScript_L4 C  hs hn hx) FU (0, 1, M) ev hit ?_
  rcases ev with M_34 | M_37 | ⟨x1_40, M_41⟩
  · replace hr := gS2_l hr
    show Ψ M_34 29 [(0, .ref (gad 50 0))] []
    refine r_aload_n (pc := 29) C dX11_readScript_29 rfl 0 rfl ?_
    refine r_aload_n (pc := 30) C dX11_readScript_30 rfl 0 rfl ?_
    refine g50_5 (pc := 31) C dX11_readScript_31 q1405 (e50 nf) ?_
    obtain ⟨M_36, hc_35, hr⟩ := gBind_some hr
    refine c_X11_fails (pc := 34) C dX11_readScript_34 q1579 ⟨Nat.le_of_ble_eq_true rfl, Nat.le_of_ble_eq_true rfl⟩ hc_35 (Nat.le_of_ble_eq_true rfl) ?_
    exact r_vret (pc := 37) CR dX11_readScript_37 rfl (gSome hr)
  · replace hr := gS2_r hr
    replace hr := gS2_l hr
    show Ψ M_37 148 [(0, .ref (gad 50 0))] []
    refine r_aload_n (pc := 148) C dX11_readScript_148 rfl 0 rfl ?_
    refine r_aload_n (pc := 149) C dX11_readScript_149 rfl 0 rfl ?_
    refine g50_3 (pc := 150) C dX11_readScript_150 q1403 (e50 nf) ?_
    obtain ⟨M_39, hc_38, hr⟩ := gBind_some hr
    refine c_X11_fails (pc := 153) C dX11_readScript_153 q1579 ⟨Nat.le_of_ble_eq_true rfl, Nat.le_of_ble_eq_true rfl⟩ hc_38 (Nat.le_of_ble_eq_true rfl) ?_
    exact r_vret (pc := 156) CR dX11_readScript_156 rfl (gSome hr)
  · replace hr := gS2_r hr
    replace hr := gS2_r hr
    replace hr := gU2_some hr
    show Ψ M_41 174 [(0, .ref (gad 50 0)), (1, .int x1_40)] []
    refine r_aload_n (pc := 174) C dX11_readScript_174 rfl 0 rfl ?_
    refine g50_13 (pc := 175) C dX11_readScript_175 q1413 (e50 nf) ?_
    refine r_iconst (pc := 178) C dX11_readScript_178 ki4 ?_
    refine r_iload_n (pc := 179) C dX11_readScript_179 rfl 1 rfl ?_
    obtain ⟨M_42, eM_42, hr⟩ := gLet_some hr
    refine r_iastN (pc := 180) C dX11_readScript_180 rfl (e52 (nf := nf) (by decide)) (by decide : gin 4 5 = true) kc4 eM_42 ?_
    exact r_vret (pc := 181) CR dX11_readScript_181 rfl (gSome hr)
theorem c_X11_readScript {Ψ : gM → Nat → List (Nat × Value) → List Value → Prop} {G : gG5} {nf : Nat} {cc : ByteArray} {own : String} {nL : Nat} {ret : Option FieldType} {fr lo : Nat} {v0 : Option Value} {M0 M : gM} {pc index : Nat} {ls : List (Nat × Value)} {st : List Value} (C : gC Ψ G (gXn nf) cc own nL ret fr lo v0 M0) (d : decode cc pc = .ok (.invokevirtual index, 3)) (hl : Cond.methodLink own index yX11_readScript ∈ gws) (hR : 9 ≤ fr ∧ 217 ≤ lo) {M1 : gM} (hr : X11_readScript M = some M1) (hcat : (st.map fun v => v.category).sum ≤ 8) (k : Ψ M1 (pc + 3) ls (st)) : Ψ M pc ls (.ref (gad 50 0) :: st) := r_callV C [] st d (k_X11_readScript hr) hl q1623 q51 q127 q1624 hd_X11_readScript hR rfl (by decide) (e50 nf) rfl hcat k
theorem hd_X11_fault : yX11_fault.cls ≠ "java/lang/invoke/MethodHandle" ∧ yX11_fault.cls ≠ "java/lang/invoke/VarHandle" ∧ (parseMethodDescriptor yX11_fault.desc).map (fun d => d.parameters.length) = some 1 := by decide +kernel
noncomputable def X11_fault (p1 : Int32) (M : gM) : Option (Int32 × gM) := gLet (wI M 50 0 0 0) (fun M_1 => (X11_isIn (Int32.toInt64 p1) 0 1 M_1).bind (fun r_3 => (if r_3 = 0 then some ((-2), M_1) else gLet (wI M_1 50 0 3 0) (fun M_5 => gLet (wI M_5 50 0 4 (-1)) (fun M_6 => (if p1 = 0 then (X11_readScene M_6).bind (fun M_11 => some ((M_11.1 50 0 4), M_11)) else (X11_readScript M_6).bind (fun M_9 => some ((M_9.1 50 0 4), M_9))))))))
theorem k_X11_fault {G : gG5} {nf : Nat} {M : gM} {p1 : Int32} {r : Int32} {M1 : gM} (hr : X11_fault p1 M = some (r, M1)) : gMet G (gXn nf) yX11_fault cX11_fault 2 (some .int) 10 236 M [.ref (gad 50 0), .int p1] (some (.int r)) M1 := by
  refine gMet_of pl_X11 rfl (Nat.le_of_ble_eq_true rfl) (fun Ψ C CR => ?_)
  show Ψ M 0 [(0, .ref (gad 50 0)), (1, .int p1)] []
  refine r_aload_n (pc := 0) C dX11_fault_0 rfl 0 rfl ?_
  refine r_iconst (pc := 1) C dX11_fault_1 ki0 ?_
  obtain ⟨M_1, eM_1, hr⟩ := gLet_some hr
  refine p50_0 (pc := 2) C dX11_fault_2 q1400 (e50 nf) eM_1 ?_
  refine r_iload_n (pc := 5) C dX11_fault_5 rfl 1 rfl ?_
  refine r_i2l (pc := 6) C dX11_fault_6 ?_
  refine r_lconst (pc := 7) (v := 0) C dX11_fault_7 rfl ?_
  refine r_lconst (pc := 8) (v := 1) C dX11_fault_8 rfl ?_
  obtain ⟨r_3, hc_2, hr⟩ := gBind_some hr
  refine c_X11_isIn (pc := 9) C dX11_fault_9 q1538 ⟨Nat.le_of_ble_eq_true rfl, Nat.le_of_ble_eq_true rfl⟩ hc_2 (Nat.le_of_ble_eq_true rfl) ?_
  refine r_if_ne (pc := 12) (tgt := 18) C dX11_fault_12 rfl (fun c_4 => ?_) (fun c_4 => ?_)
  · replace hr := (if_neg c_4).symm.trans hr
    refine r_aload_n (pc := 18) C dX11_fault_18 rfl 0 rfl ?_
    refine r_iconst (pc := 19) C dX11_fault_19 ki0 ?_
    obtain ⟨M_5, eM_5, hr⟩ := gLet_some hr
    refine p50_3 (pc := 20) C dX11_fault_20 q1403 (e50 nf) eM_5 ?_
    refine r_aload_n (pc := 23) C dX11_fault_23 rfl 0 rfl ?_
    refine r_iconst (pc := 24) C dX11_fault_24 kim1 ?_
    obtain ⟨M_6, eM_6, hr⟩ := gLet_some hr
    refine p50_4 (pc := 25) C dX11_fault_25 q1404 (e50 nf) eM_6 ?_
    refine r_iload_n (pc := 28) C dX11_fault_28 rfl 1 rfl ?_
    refine r_if_ne (pc := 29) (tgt := 39) C dX11_fault_29 rfl (fun c_7 => ?_) (fun c_7 => ?_)
    · replace hr := (if_neg c_7).symm.trans hr
      refine r_aload_n (pc := 39) C dX11_fault_39 rfl 0 rfl ?_
      obtain ⟨M_9, hc_8, hr⟩ := gBind_some hr
      refine c_X11_readScript (pc := 40) C dX11_fault_40 q1621 ⟨Nat.le_of_ble_eq_true rfl, Nat.le_of_ble_eq_true rfl⟩ hc_8 (Nat.le_of_ble_eq_true rfl) ?_
      refine r_aload_n (pc := 43) C dX11_fault_43 rfl 0 rfl ?_
      refine g50_4 (pc := 44) C dX11_fault_44 q1404 (e50 nf) ?_
      exact r_iret (pc := 47) CR dX11_fault_47 (congrArg (fun z => some (Value.int z)) (Prod.mk.inj (gSome hr)).1) (Prod.mk.inj (gSome hr)).2
    · replace hr := (if_pos c_7).symm.trans hr
      refine r_aload_n (pc := 32) C dX11_fault_32 rfl 0 rfl ?_
      obtain ⟨M_11, hc_10, hr⟩ := gBind_some hr
      refine c_X11_readScene (pc := 33) C dX11_fault_33 q1541 ⟨Nat.le_of_ble_eq_true rfl, Nat.le_of_ble_eq_true rfl⟩ hc_10 (Nat.le_of_ble_eq_true rfl) ?_
      refine r_goto (pc := 36) (tgt := 43) C dX11_fault_36 rfl ?_
      refine r_aload_n (pc := 43) C dX11_fault_43 rfl 0 rfl ?_
      refine g50_4 (pc := 44) C dX11_fault_44 q1404 (e50 nf) ?_
      exact r_iret (pc := 47) CR dX11_fault_47 (congrArg (fun z => some (Value.int z)) (Prod.mk.inj (gSome hr)).1) (Prod.mk.inj (gSome hr)).2
  · replace hr := (if_pos c_4).symm.trans hr
    refine r_bipush (pc := 15) C dX11_fault_15 kbm2 ?_
    exact r_iret (pc := 17) CR dX11_fault_17 (congrArg (fun z => some (Value.int z)) (Prod.mk.inj (gSome hr)).1) (Prod.mk.inj (gSome hr)).2
theorem c_X11_fault {Ψ : gM → Nat → List (Nat × Value) → List Value → Prop} {G : gG5} {nf : Nat} {cc : ByteArray} {own : String} {nL : Nat} {ret : Option FieldType} {fr lo : Nat} {v0 : Option Value} {M0 M : gM} {pc index : Nat} {ls : List (Nat × Value)} {st : List Value} (C : gC Ψ G (gXn nf) cc own nL ret fr lo v0 M0) (d : decode cc pc = .ok (.invokevirtual index, 3)) (hl : Cond.methodLink own index yX11_fault ∈ gws) (hR : 11 ≤ fr ∧ 257 ≤ lo) {p1 : Int32} {r : Int32} {M1 : gM} (hr : X11_fault p1 M = some (r, M1)) (hcat : (st.map fun v => v.category).sum ≤ 8) (k : Ψ M1 (pc + 3) ls (.int r :: st)) : Ψ M pc ls (.int p1 :: .ref (gad 50 0) :: st) := r_callV C [.int p1] st d (k_X11_fault hr) hl q1535 q1536 q127 q1537 hd_X11_fault hR rfl (by decide) (e50 nf) rfl hcat k
theorem hd_X11_clears : yX11_clears.cls ≠ "java/lang/invoke/MethodHandle" ∧ yX11_clears.cls ≠ "java/lang/invoke/VarHandle" ∧ (parseMethodDescriptor yX11_clears.desc).map (fun d => d.parameters.length) = some 1 := by decide +kernel
noncomputable def X11_clears_L2 (i1 : Nat) (x2 : Int32) (M : gM) : Option ((Int32 × gM) ⊕ gM) := (if 256 ≤ x2 then some (.inr M) else gG (gin (0 + x2) (gLen 52 i1)) (gLet (wI M 52 i1 (Int32.toNatClampNeg (0 + x2)) 1000) (fun M_3 => gG (gin (256 + x2) (gLen 52 i1)) (gLet (wI M_3 52 i1 (Int32.toNatClampNeg (256 + x2)) (M_3.1 52 2 4)) (fun M_5 => gG (gin (512 + x2) (gLen 52 i1)) (gLet (wI M_5 52 i1 (Int32.toNatClampNeg (512 + x2)) (-1)) (fun M_7 => gLet (x2 + 1) (fun x2_8 => some (.inl (x2_8, M_7))))))))))
theorem t_X11_clears_L2 {Ψ : gM → Nat → List (Nat × Value) → List Value → Prop} {G : gG5} {nf : Nat} {M : gM} {v0 : Option Value} {M0 : gM} {i1 : Nat} {x2 : Int32} {w : ((Int32 × gM) ⊕ gM)} (C : gC Ψ G (gXn nf) cX11_clears RX11 3 none 0 0 v0 M0) (h1 : i1 < 20) (hr : X11_clears_L2 i1 x2 M = some w) (hn : ∀ s, w = .inl s → Ψ s.2 2 [(0, .ref (gad 50 0)), (1, .ref (gad 52 i1)), (2, .int (s.1))] []) (hx : ∀ e, w = .inr e → (fun e => Ψ e 44 [(1, .ref (gad 52 i1))] []) e) : Ψ M 2 [(0, .ref (gad 50 0)), (1, .ref (gad 52 i1)), (2, .int x2)] [] := by
  refine r_iload_n (pc := 2) C dX11_clears_2 rfl 2 rfl ?_
  refine r_sipush (pc := 3) C dX11_clears_3 ks256 ?_
  refine r_icmp_ge (pc := 6) (tgt := 44) C dX11_clears_6 rfl (fun c_1 => ?_) (fun c_1 => ?_)
  · replace hr := (if_pos c_1).symm.trans hr
    refine r_sub C [1] (ls' := [(1, .ref (gad 52 i1))]) rfl ?_
    exact hx M (gSome hr)
  · replace hr := (if_neg c_1).symm.trans hr
    refine r_aload_n (pc := 9) C dX11_clears_9 rfl 1 rfl ?_
    refine r_iconst (pc := 10) C dX11_clears_10 ki0 ?_
    refine r_iload_n (pc := 11) C dX11_clears_11 rfl 2 rfl ?_
    refine r_iadd (pc := 12) C dX11_clears_12 ?_
    refine r_sipush (pc := 13) C dX11_clears_13 ks1000 ?_
    obtain ⟨g_2, hr⟩ := gG_some hr
    obtain ⟨M_3, eM_3, hr⟩ := gLet_some hr
    refine r_iastN (pc := 16) C dX11_clears_16 rfl (e52 (nf := nf) h1) g_2 rfl eM_3 ?_
    refine r_aload_n (pc := 17) C dX11_clears_17 rfl 1 rfl ?_
    refine r_sipush (pc := 18) C dX11_clears_18 ks256 ?_
    refine r_iload_n (pc := 21) C dX11_clears_21 rfl 2 rfl ?_
    refine r_iadd (pc := 22) C dX11_clears_22 ?_
    refine r_aload_n (pc := 23) C dX11_clears_23 rfl 0 rfl ?_
    refine g50_9 (pc := 24) C dX11_clears_24 q1409 (e50 nf) ?_
    refine r_iconst (pc := 27) C dX11_clears_27 ki4 ?_
    refine r_ialdN (pc := 28) C dX11_clears_28 rfl (e52 (nf := nf) (by decide)) (by decide : gin 4 9 = true) kc4 ?_
    obtain ⟨g_4, hr⟩ := gG_some hr
    obtain ⟨M_5, eM_5, hr⟩ := gLet_some hr
    refine r_iastN (pc := 29) C dX11_clears_29 rfl (e52 (nf := nf) h1) g_4 rfl eM_5 ?_
    refine r_aload_n (pc := 30) C dX11_clears_30 rfl 1 rfl ?_
    refine r_sipush (pc := 31) C dX11_clears_31 ks512 ?_
    refine r_iload_n (pc := 34) C dX11_clears_34 rfl 2 rfl ?_
    refine r_iadd (pc := 35) C dX11_clears_35 ?_
    refine r_iconst (pc := 36) C dX11_clears_36 kim1 ?_
    obtain ⟨g_6, hr⟩ := gG_some hr
    obtain ⟨M_7, eM_7, hr⟩ := gLet_some hr
    refine r_iastN (pc := 37) C dX11_clears_37 rfl (e52 (nf := nf) h1) g_6 rfl eM_7 ?_
    obtain ⟨x2_8, ex2_8, hr⟩ := gLet_some hr
    refine r_iinc (pc := 38) C dX11_clears_38 2 rfl rfl (by decide) ex2_8 (ls' := [(2, .int x2_8), (0, .ref (gad 50 0)), (1, .ref (gad 52 i1))]) rfl ?_
    refine r_goto (pc := 41) (tgt := 2) C dX11_clears_41 rfl ?_
    refine r_sub C [1, 2, 0] (ls' := [(0, .ref (gad 50 0)), (1, .ref (gad 52 i1)), (2, .int x2_8)]) rfl ?_
    exact hn (x2_8, M_7) (gSome hr)
noncomputable def X11_clears_L46 (i1 : Nat) (x2 : Int32) (M : gM) : Option ((Int32 × gM) ⊕ gM) := (if 16 ≤ x2 then some (.inr M) else gG (gin (768 + (11 * x2)) (gLen 52 i1)) (gLet (wI M 52 i1 (Int32.toNatClampNeg (768 + (11 * x2))) 0) (fun M_12 => gLet (x2 + 1) (fun x2_13 => some (.inl (x2_13, M_12))))))
theorem t_X11_clears_L46 {Ψ : gM → Nat → List (Nat × Value) → List Value → Prop} {G : gG5} {nf : Nat} {M : gM} {v0 : Option Value} {M0 : gM} {i1 : Nat} {x2 : Int32} {w : ((Int32 × gM) ⊕ gM)} (C : gC Ψ G (gXn nf) cX11_clears RX11 3 none 0 0 v0 M0) (h1 : i1 < 20) (hr : X11_clears_L46 i1 x2 M = some w) (hn : ∀ s, w = .inl s → Ψ s.2 46 [(1, .ref (gad 52 i1)), (2, .int (s.1))] []) (hx : ∀ e, w = .inr e → (fun e => Ψ e 69 [(1, .ref (gad 52 i1))] []) e) : Ψ M 46 [(1, .ref (gad 52 i1)), (2, .int x2)] [] := by
  refine r_iload_n (pc := 46) C dX11_clears_46 rfl 1 rfl ?_
  refine r_bipush (pc := 47) C dX11_clears_47 kb16 ?_
  refine r_icmp_ge (pc := 49) (tgt := 69) C dX11_clears_49 rfl (fun c_10 => ?_) (fun c_10 => ?_)
  · replace hr := (if_pos c_10).symm.trans hr
    refine r_sub C [0] (ls' := [(1, .ref (gad 52 i1))]) rfl ?_
    exact hx M (gSome hr)
  · replace hr := (if_neg c_10).symm.trans hr
    refine r_aload_n (pc := 52) C dX11_clears_52 rfl 0 rfl ?_
    refine r_sipush (pc := 53) C dX11_clears_53 ks768 ?_
    refine r_bipush (pc := 56) C dX11_clears_56 kb11 ?_
    refine r_iload_n (pc := 58) C dX11_clears_58 rfl 1 rfl ?_
    refine r_imul (pc := 59) C dX11_clears_59 ?_
    refine r_iadd (pc := 60) C dX11_clears_60 ?_
    refine r_iconst (pc := 61) C dX11_clears_61 ki0 ?_
    obtain ⟨g_11, hr⟩ := gG_some hr
    obtain ⟨M_12, eM_12, hr⟩ := gLet_some hr
    refine r_iastN (pc := 62) C dX11_clears_62 rfl (e52 (nf := nf) h1) g_11 rfl eM_12 ?_
    obtain ⟨x2_13, ex2_13, hr⟩ := gLet_some hr
    refine r_iinc (pc := 63) C dX11_clears_63 1 rfl rfl (by decide) ex2_13 (ls' := [(2, .int x2_13), (1, .ref (gad 52 i1))]) rfl ?_
    refine r_goto (pc := 66) (tgt := 46) C dX11_clears_66 rfl ?_
    refine r_sub C [1, 0] (ls' := [(1, .ref (gad 52 i1)), (2, .int x2_13)]) rfl ?_
    exact hn (x2_13, M_12) (gSome hr)
noncomputable def X11_clears_L73 (i1 : Nat) (x2 : Int32) (M : gM) : Option ((Int32 × gM) ⊕ gM) := (if 1057 ≤ x2 then some (.inr M) else gG (gin x2 (gLen 52 i1)) (gLet (wI M 52 i1 (Int32.toNatClampNeg x2) 0) (fun M_17 => gLet (x2 + 1) (fun x2_18 => some (.inl (x2_18, M_17))))))
theorem t_X11_clears_L73 {Ψ : gM → Nat → List (Nat × Value) → List Value → Prop} {G : gG5} {nf : Nat} {M : gM} {v0 : Option Value} {M0 : gM} {i1 : Nat} {x2 : Int32} {w : ((Int32 × gM) ⊕ gM)} (C : gC Ψ G (gXn nf) cX11_clears RX11 3 none 0 0 v0 M0) (h1 : i1 < 20) (hr : X11_clears_L73 i1 x2 M = some w) (hn : ∀ s, w = .inl s → Ψ s.2 73 [(1, .ref (gad 52 i1)), (2, .int (s.1))] []) (hx : ∀ e, w = .inr e → (fun e => Ψ e 90 [] []) e) : Ψ M 73 [(1, .ref (gad 52 i1)), (2, .int x2)] [] := by
  refine r_iload_n (pc := 73) C dX11_clears_73 rfl 1 rfl ?_
  refine r_sipush (pc := 74) C dX11_clears_74 ks1057 ?_
  refine r_icmp_ge (pc := 77) (tgt := 90) C dX11_clears_77 rfl (fun c_15 => ?_) (fun c_15 => ?_)
  · replace hr := (if_pos c_15).symm.trans hr
    refine r_sub C [] (ls' := []) rfl ?_
    exact hx M (gSome hr)
  · replace hr := (if_neg c_15).symm.trans hr
    refine r_aload_n (pc := 80) C dX11_clears_80 rfl 0 rfl ?_
    refine r_iload_n (pc := 81) C dX11_clears_81 rfl 1 rfl ?_
    refine r_iconst (pc := 82) C dX11_clears_82 ki0 ?_
    obtain ⟨g_16, hr⟩ := gG_some hr
    obtain ⟨M_17, eM_17, hr⟩ := gLet_some hr
    refine r_iastN (pc := 83) C dX11_clears_83 rfl (e52 (nf := nf) h1) g_16 rfl eM_17 ?_
    obtain ⟨x2_18, ex2_18, hr⟩ := gLet_some hr
    refine r_iinc (pc := 84) C dX11_clears_84 1 rfl rfl (by decide) ex2_18 (ls' := [(2, .int x2_18), (1, .ref (gad 52 i1))]) rfl ?_
    refine r_goto (pc := 87) (tgt := 73) C dX11_clears_87 rfl ?_
    refine r_sub C [1, 0] (ls' := [(1, .ref (gad 52 i1)), (2, .int x2_18)]) rfl ?_
    exact hn (x2_18, M_17) (gSome hr)
noncomputable def X11_clears (i1 : Nat) (M : gM) : Option gM := (gIter (fun s => X11_clears_L2 i1 s.1 s.2) FU (0, M)).bind (fun M_9 => (gIter (fun s => X11_clears_L46 i1 s.1 s.2) FU (0, M_9)).bind (fun M_14 => (gIter (fun s => X11_clears_L73 i1 s.1 s.2) FU (1034, M_14)).bind (fun M_19 => some M_19)))
theorem k_X11_clears {G : gG5} {nf : Nat} {M : gM} {i1 : Nat} (h1 : i1 < 20) {M1 : gM} (hr : X11_clears i1 M = some M1) : gMet G (gXn nf) yX11_clears cX11_clears 3 none 0 0 M [.ref (gad 50 0), .ref (gad 52 i1)] none M1 := by
  refine gMet_of pl_X11 rfl (Nat.le_of_ble_eq_true rfl) (fun Ψ C CR => ?_)
  show Ψ M 0 [(0, .ref (gad 50 0)), (1, .ref (gad 52 i1))] []
  refine r_iconst (pc := 0) C dX11_clears_0 ki0 ?_
  refine r_istore_n (pc := 1) C dX11_clears_1 rfl (by decide) rfl (ls' := [(2, .int 0), (0, .ref (gad 50 0)), (1, .ref (gad 52 i1))]) rfl ?_
  refine r_sub C [1, 2, 0] (ls' := [(0, .ref (gad 50 0)), (1, .ref (gad 52 i1)), (2, .int 0)]) rfl ?_
  obtain ⟨ev, hit, hr⟩ := gBind_some hr
  refine gIter_V (step := fun s => X11_clears_L2 i1 s.1 s.2) (P := fun s => Ψ s.2 2 [(0, .ref (gad 50 0)), (1, .ref (gad 52 i1)), (2, .int (s.1))] []) (K := (fun e => Ψ e 44 [(1, .ref (gad 52 i1))] [])) (fun s w hs hn hx => t_X11_clears_L2 C h1 hs hn hx) FU (0, M) ev hit ?_
  obtain ⟨M_9, rfl⟩ : ∃ z, z = ev := ⟨_, rfl⟩
  show Ψ M_9 44 [(1, .ref (gad 52 i1))] []
  refine r_iconst (pc := 44) C dX11_clears_44 ki0 ?_
  refine r_istore_n (pc := 45) C dX11_clears_45 rfl (by decide) rfl (ls' := [(2, .int 0), (1, .ref (gad 52 i1))]) rfl ?_
  refine r_sub C [1, 0] (ls' := [(1, .ref (gad 52 i1)), (2, .int 0)]) rfl ?_
  obtain ⟨ev, hit, hr⟩ := gBind_some hr
  refine gIter_V (step := fun s => X11_clears_L46 i1 s.1 s.2) (P := fun s => Ψ s.2 46 [(1, .ref (gad 52 i1)), (2, .int (s.1))] []) (K := (fun e => Ψ e 69 [(1, .ref (gad 52 i1))] [])) (fun s w hs hn hx => t_X11_clears_L46 C h1 hs hn hx) FU (0, M_9) ev hit ?_
  obtain ⟨M_14, rfl⟩ : ∃ z, z = ev := ⟨_, rfl⟩
  show Ψ M_14 69 [(1, .ref (gad 52 i1))] []
  refine r_sipush (pc := 69) C dX11_clears_69 ks1034 ?_
  refine r_istore_n (pc := 72) C dX11_clears_72 rfl (by decide) rfl (ls' := [(2, .int 1034), (1, .ref (gad 52 i1))]) rfl ?_
  refine r_sub C [1, 0] (ls' := [(1, .ref (gad 52 i1)), (2, .int 1034)]) rfl ?_
  obtain ⟨ev, hit, hr⟩ := gBind_some hr
  refine gIter_V (step := fun s => X11_clears_L73 i1 s.1 s.2) (P := fun s => Ψ s.2 73 [(1, .ref (gad 52 i1)), (2, .int (s.1))] []) (K := (fun e => Ψ e 90 [] [])) (fun s w hs hn hx => t_X11_clears_L73 C h1 hs hn hx) FU (1034, M_14) ev hit ?_
  obtain ⟨M_19, rfl⟩ : ∃ z, z = ev := ⟨_, rfl⟩
  show Ψ M_19 90 [] []
  exact r_vret (pc := 90) CR dX11_clears_90 rfl (gSome hr)
theorem c_X11_clears {Ψ : gM → Nat → List (Nat × Value) → List Value → Prop} {G : gG5} {nf : Nat} {cc : ByteArray} {own : String} {nL : Nat} {ret : Option FieldType} {fr lo : Nat} {v0 : Option Value} {M0 M : gM} {pc index : Nat} {ls : List (Nat × Value)} {st : List Value} (C : gC Ψ G (gXn nf) cc own nL ret fr lo v0 M0) (d : decode cc pc = .ok (.invokevirtual index, 3)) (hl : Cond.methodLink own index yX11_clears ∈ gws) (hR : 1 ≤ fr ∧ 22 ≤ lo) {i1 : Nat} (h1 : i1 < 20) {M1 : gM} (hr : X11_clears i1 M = some M1) (hcat : (st.map fun v => v.category).sum ≤ 8) (k : Ψ M1 (pc + 3) ls (st)) : Ψ M pc ls (.ref (gad 52 i1) :: .ref (gad 50 0) :: st) := r_callV C [.ref (gad 52 i1)] st d (k_X11_clears h1 hr) hl q1634 q52 q127 q1635 hd_X11_clears hR rfl (by decide) (e50 nf) rfl hcat k
theorem hd_X11_text : yX11_text.cls ≠ "java/lang/invoke/MethodHandle" ∧ yX11_text.cls ≠ "java/lang/invoke/VarHandle" ∧ (parseMethodDescriptor yX11_text.desc).map (fun d => d.parameters.length) = some 1 := by decide +kernel
noncomputable def X11_text_L129 (x2 : Int32) (M : gM) : Option ((Int32 × gM) ⊕ gM) := (if 9 ≤ x2 then some (.inr M) else gG (gin x2 9) (gG (gin x2 9) (gLet (wI M 52 2 (Int32.toNatClampNeg x2) (M.1 52 1 (Int32.toNatClampNeg x2))) (fun M_16 => gLet (x2 + 1) (fun x2_17 => some (.inl (x2_17, M_16)))))))
theorem t_X11_text_L129 {Ψ : gM → Nat → List (Nat × Value) → List Value → Prop} {G : gG5} {nf : Nat} {M : gM} {v0 : Option Value} {M0 : gM} {x2 : Int32} {w : ((Int32 × gM) ⊕ gM)} (C : gC Ψ G (gXn nf) cX11_text RX11 4 (some .int) 11 257 v0 M0) (hr : X11_text_L129 x2 M = some w) (hn : ∀ s, w = .inl s → Ψ s.2 129 [(0, .ref (gad 50 0)), (2, .int (s.1))] []) (hx : ∀ e, w = .inr e → (fun e => Ψ e 153 [(0, .ref (gad 50 0))] []) e) : Ψ M 129 [(0, .ref (gad 50 0)), (2, .int x2)] [] := by
  refine r_iload_n (pc := 129) C dX11_text_129 rfl 1 rfl ?_
  refine r_bipush (pc := 130) C dX11_text_130 kb9 ?_
  refine r_icmp_ge (pc := 132) (tgt := 153) C dX11_text_132 rfl (fun c_13 => ?_) (fun c_13 => ?_)
  · replace hr := (if_pos c_13).symm.trans hr
    refine r_sub C [0] (ls' := [(0, .ref (gad 50 0))]) rfl ?_
    exact hx M (gSome hr)
  · replace hr := (if_neg c_13).symm.trans hr
    refine r_aload_n (pc := 135) C dX11_text_135 rfl 0 rfl ?_
    refine g50_9 (pc := 136) C dX11_text_136 q1409 (e50 nf) ?_
    refine r_iload_n (pc := 139) C dX11_text_139 rfl 1 rfl ?_
    refine r_aload_n (pc := 140) C dX11_text_140 rfl 0 rfl ?_
    refine g50_8 (pc := 141) C dX11_text_141 q1408 (e50 nf) ?_
    refine r_iload_n (pc := 144) C dX11_text_144 rfl 1 rfl ?_
    obtain ⟨g_14, hr⟩ := gG_some hr
    refine r_ialdN (pc := 145) C dX11_text_145 rfl (e52 (nf := nf) (by decide)) g_14 rfl ?_
    obtain ⟨g_15, hr⟩ := gG_some hr
    obtain ⟨M_16, eM_16, hr⟩ := gLet_some hr
    refine r_iastN (pc := 146) C dX11_text_146 rfl (e52 (nf := nf) (by decide)) g_15 rfl eM_16 ?_
    obtain ⟨x2_17, ex2_17, hr⟩ := gLet_some hr
    refine r_iinc (pc := 147) C dX11_text_147 1 rfl rfl (by decide) ex2_17 (ls' := [(2, .int x2_17), (0, .ref (gad 50 0))]) rfl ?_
    refine r_goto (pc := 150) (tgt := 129) C dX11_text_150 rfl ?_
    refine r_sub C [1, 0] (ls' := [(0, .ref (gad 50 0)), (2, .int x2_17)]) rfl ?_
    exact hn (x2_17, M_16) (gSome hr)
noncomputable def X11_text_L155 (x2 : Int32) (M : gM) : Option ((Int32 × gM) ⊕ gM) := (if 120 ≤ x2 then some (.inr M) else gG (gin x2 120) (gG (gin x2 120) (gLet (wI M 52 4 (Int32.toNatClampNeg x2) (M.1 52 3 (Int32.toNatClampNeg x2))) (fun M_22 => gLet (x2 + 1) (fun x2_23 => some (.inl (x2_23, M_22)))))))
theorem t_X11_text_L155 {Ψ : gM → Nat → List (Nat × Value) → List Value → Prop} {G : gG5} {nf : Nat} {M : gM} {v0 : Option Value} {M0 : gM} {x2 : Int32} {w : ((Int32 × gM) ⊕ gM)} (C : gC Ψ G (gXn nf) cX11_text RX11 4 (some .int) 11 257 v0 M0) (hr : X11_text_L155 x2 M = some w) (hn : ∀ s, w = .inl s → Ψ s.2 155 [(0, .ref (gad 50 0)), (2, .int (s.1))] []) (hx : ∀ e, w = .inr e → (fun e => Ψ e 179 [(0, .ref (gad 50 0))] []) e) : Ψ M 155 [(0, .ref (gad 50 0)), (2, .int x2)] [] := by
  refine r_iload_n (pc := 155) C dX11_text_155 rfl 1 rfl ?_
  refine r_bipush (pc := 156) C dX11_text_156 kb120 ?_
  refine r_icmp_ge (pc := 158) (tgt := 179) C dX11_text_158 rfl (fun c_19 => ?_) (fun c_19 => ?_)
  · replace hr := (if_pos c_19).symm.trans hr
    refine r_sub C [0] (ls' := [(0, .ref (gad 50 0))]) rfl ?_
    exact hx M (gSome hr)
  · replace hr := (if_neg c_19).symm.trans hr
    refine r_aload_n (pc := 161) C dX11_text_161 rfl 0 rfl ?_
    refine g50_11 (pc := 162) C dX11_text_162 q1411 (e50 nf) ?_
    refine r_iload_n (pc := 165) C dX11_text_165 rfl 1 rfl ?_
    refine r_aload_n (pc := 166) C dX11_text_166 rfl 0 rfl ?_
    refine g50_10 (pc := 167) C dX11_text_167 q1410 (e50 nf) ?_
    refine r_iload_n (pc := 170) C dX11_text_170 rfl 1 rfl ?_
    obtain ⟨g_20, hr⟩ := gG_some hr
    refine r_ialdN (pc := 171) C dX11_text_171 rfl (e52 (nf := nf) (by decide)) g_20 rfl ?_
    obtain ⟨g_21, hr⟩ := gG_some hr
    obtain ⟨M_22, eM_22, hr⟩ := gLet_some hr
    refine r_iastN (pc := 172) C dX11_text_172 rfl (e52 (nf := nf) (by decide)) g_21 rfl eM_22 ?_
    obtain ⟨x2_23, ex2_23, hr⟩ := gLet_some hr
    refine r_iinc (pc := 173) C dX11_text_173 1 rfl rfl (by decide) ex2_23 (ls' := [(2, .int x2_23), (0, .ref (gad 50 0))]) rfl ?_
    refine r_goto (pc := 176) (tgt := 155) C dX11_text_176 rfl ?_
    refine r_sub C [1, 0] (ls' := [(0, .ref (gad 50 0)), (2, .int x2_23)]) rfl ?_
    exact hn (x2_23, M_22) (gSome hr)
noncomputable def X11_text_L181 (x2 : Int32) (M : gM) : Option ((Int32 × gM) ⊕ gM) := (if 1242 ≤ x2 then some (.inr M) else gG (gin x2 1242) (gLet (wI M 52 8 (Int32.toNatClampNeg x2) 0) (fun M_27 => gLet (x2 + 1) (fun x2_28 => some (.inl (x2_28, M_27))))))
theorem t_X11_text_L181 {Ψ : gM → Nat → List (Nat × Value) → List Value → Prop} {G : gG5} {nf : Nat} {M : gM} {v0 : Option Value} {M0 : gM} {x2 : Int32} {w : ((Int32 × gM) ⊕ gM)} (C : gC Ψ G (gXn nf) cX11_text RX11 4 (some .int) 11 257 v0 M0) (hr : X11_text_L181 x2 M = some w) (hn : ∀ s, w = .inl s → Ψ s.2 181 [(0, .ref (gad 50 0)), (2, .int (s.1))] []) (hx : ∀ e, w = .inr e → (fun e => Ψ e 201 [(0, .ref (gad 50 0))] []) e) : Ψ M 181 [(0, .ref (gad 50 0)), (2, .int x2)] [] := by
  refine r_iload_n (pc := 181) C dX11_text_181 rfl 1 rfl ?_
  refine r_sipush (pc := 182) C dX11_text_182 ks1242 ?_
  refine r_icmp_ge (pc := 185) (tgt := 201) C dX11_text_185 rfl (fun c_25 => ?_) (fun c_25 => ?_)
  · replace hr := (if_pos c_25).symm.trans hr
    refine r_sub C [0] (ls' := [(0, .ref (gad 50 0))]) rfl ?_
    exact hx M (gSome hr)
  · replace hr := (if_neg c_25).symm.trans hr
    refine r_aload_n (pc := 188) C dX11_text_188 rfl 0 rfl ?_
    refine g50_18 (pc := 189) C dX11_text_189 q1418 (e50 nf) ?_
    refine r_iload_n (pc := 192) C dX11_text_192 rfl 1 rfl ?_
    refine r_iconst (pc := 193) C dX11_text_193 ki0 ?_
    obtain ⟨g_26, hr⟩ := gG_some hr
    obtain ⟨M_27, eM_27, hr⟩ := gLet_some hr
    refine r_iastN (pc := 194) C dX11_text_194 rfl (e52 (nf := nf) (by decide)) g_26 rfl eM_27 ?_
    obtain ⟨x2_28, ex2_28, hr⟩ := gLet_some hr
    refine r_iinc (pc := 195) C dX11_text_195 1 rfl rfl (by decide) ex2_28 (ls' := [(2, .int x2_28), (0, .ref (gad 50 0))]) rfl ?_
    refine r_goto (pc := 198) (tgt := 181) C dX11_text_198 rfl ?_
    refine r_sub C [1, 0] (ls' := [(0, .ref (gad 50 0)), (2, .int x2_28)]) rfl ?_
    exact hn (x2_28, M_27) (gSome hr)
noncomputable def X11_text_L213 (x2 : Int32) (x3 : Int32) (M : gM) : Option ((Int32 × gM) ⊕ gM) := (if 9 ≤ x3 then some (.inr M) else gG (gin ((12 * x2) + x3) 120) (gG (gin ((944 + (9 * x2)) + x3) 1242) (gLet (wI M 52 8 (Int32.toNatClampNeg ((944 + (9 * x2)) + x3)) (M.1 52 4 (Int32.toNatClampNeg ((12 * x2) + x3)))) (fun M_34 => gLet (x3 + 1) (fun x3_35 => some (.inl (x3_35, M_34)))))))
theorem t_X11_text_L213 {Ψ : gM → Nat → List (Nat × Value) → List Value → Prop} {G : gG5} {nf : Nat} {M : gM} {v0 : Option Value} {M0 : gM} {x2 : Int32} {x3 : Int32} {w : ((Int32 × gM) ⊕ gM)} (C : gC Ψ G (gXn nf) cX11_text RX11 4 (some .int) 11 257 v0 M0) (hr : X11_text_L213 x2 x3 M = some w) (hn : ∀ s, w = .inl s → Ψ s.2 213 [(0, .ref (gad 50 0)), (2, .int x2), (3, .int (s.1))] []) (hx : ∀ e, w = .inr e → (fun e => Ψ e 251 [(0, .ref (gad 50 0)), (2, .int x2)] []) e) : Ψ M 213 [(0, .ref (gad 50 0)), (2, .int x2), (3, .int x3)] [] := by
  refine r_iload_n (pc := 213) C dX11_text_213 rfl 2 rfl ?_
  refine r_bipush (pc := 214) C dX11_text_214 kb9 ?_
  refine r_icmp_ge (pc := 216) (tgt := 251) C dX11_text_216 rfl (fun c_31 => ?_) (fun c_31 => ?_)
  · replace hr := (if_pos c_31).symm.trans hr
    refine r_sub C [0, 1] (ls' := [(0, .ref (gad 50 0)), (2, .int x2)]) rfl ?_
    exact hx M (gSome hr)
  · replace hr := (if_neg c_31).symm.trans hr
    refine r_aload_n (pc := 219) C dX11_text_219 rfl 0 rfl ?_
    refine g50_18 (pc := 220) C dX11_text_220 q1418 (e50 nf) ?_
    refine r_sipush (pc := 223) C dX11_text_223 ks944 ?_
    refine r_bipush (pc := 226) C dX11_text_226 kb9 ?_
    refine r_iload_n (pc := 228) C dX11_text_228 rfl 1 rfl ?_
    refine r_imul (pc := 229) C dX11_text_229 ?_
    refine r_iadd (pc := 230) C dX11_text_230 ?_
    refine r_iload_n (pc := 231) C dX11_text_231 rfl 2 rfl ?_
    refine r_iadd (pc := 232) C dX11_text_232 ?_
    refine r_aload_n (pc := 233) C dX11_text_233 rfl 0 rfl ?_
    refine g50_11 (pc := 234) C dX11_text_234 q1411 (e50 nf) ?_
    refine r_bipush (pc := 237) C dX11_text_237 kb12 ?_
    refine r_iload_n (pc := 239) C dX11_text_239 rfl 1 rfl ?_
    refine r_imul (pc := 240) C dX11_text_240 ?_
    refine r_iload_n (pc := 241) C dX11_text_241 rfl 2 rfl ?_
    refine r_iadd (pc := 242) C dX11_text_242 ?_
    obtain ⟨g_32, hr⟩ := gG_some hr
    refine r_ialdN (pc := 243) C dX11_text_243 rfl (e52 (nf := nf) (by decide)) g_32 rfl ?_
    obtain ⟨g_33, hr⟩ := gG_some hr
    obtain ⟨M_34, eM_34, hr⟩ := gLet_some hr
    refine r_iastN (pc := 244) C dX11_text_244 rfl (e52 (nf := nf) (by decide)) g_33 rfl eM_34 ?_
    obtain ⟨x3_35, ex3_35, hr⟩ := gLet_some hr
    refine r_iinc (pc := 245) C dX11_text_245 2 rfl rfl (by decide) ex3_35 (ls' := [(3, .int x3_35), (0, .ref (gad 50 0)), (2, .int x2)]) rfl ?_
    refine r_goto (pc := 248) (tgt := 213) C dX11_text_248 rfl ?_
    refine r_sub C [1, 2, 0] (ls' := [(0, .ref (gad 50 0)), (2, .int x2), (3, .int x3_35)]) rfl ?_
    exact hn (x3_35, M_34) (gSome hr)
noncomputable def X11_text_L203 (x2 : Int32) (M : gM) : Option ((Int32 × gM) ⊕ gM) := (if (M.1 50 0 16) ≤ x2 then some (.inr M) else (gIter (fun s => X11_text_L213 x2 s.1 s.2) FU (0, M)).bind (fun M_36 => gLet (x2 + 1) (fun x2_37 => some (.inl (x2_37, M_36)))))
theorem t_X11_text_L203 {Ψ : gM → Nat → List (Nat × Value) → List Value → Prop} {G : gG5} {nf : Nat} {M : gM} {v0 : Option Value} {M0 : gM} {x2 : Int32} {w : ((Int32 × gM) ⊕ gM)} (C : gC Ψ G (gXn nf) cX11_text RX11 4 (some .int) 11 257 v0 M0) (hr : X11_text_L203 x2 M = some w) (hn : ∀ s, w = .inl s → Ψ s.2 203 [(0, .ref (gad 50 0)), (2, .int (s.1))] []) (hx : ∀ e, w = .inr e → (fun e => Ψ e 257 [(0, .ref (gad 50 0))] []) e) : Ψ M 203 [(0, .ref (gad 50 0)), (2, .int x2)] [] := by
  refine r_iload_n (pc := 203) C dX11_text_203 rfl 1 rfl ?_
  refine r_aload_n (pc := 204) C dX11_text_204 rfl 0 rfl ?_
  refine g50_16 (pc := 205) C dX11_text_205 q1416 (e50 nf) ?_
  refine r_icmp_ge (pc := 208) (tgt := 257) C dX11_text_208 rfl (fun c_30 => ?_) (fun c_30 => ?_)
  · replace hr := (if_pos c_30).symm.trans hr
    refine r_sub C [0] (ls' := [(0, .ref (gad 50 0))]) rfl ?_
    exact hx M (gSome hr)
  · replace hr := (if_neg c_30).symm.trans hr
    refine r_iconst (pc := 211) C dX11_text_211 ki0 ?_
    refine r_istore_n (pc := 212) C dX11_text_212 rfl (by decide) rfl (ls' := [(3, .int 0), (0, .ref (gad 50 0)), (2, .int x2)]) rfl ?_
    refine r_sub C [1, 2, 0] (ls' := [(0, .ref (gad 50 0)), (2, .int x2), (3, .int 0)]) rfl ?_
    obtain ⟨ev, hit, hr⟩ := gBind_some hr
    refine gIter_V (step := fun s => X11_text_L213 x2 s.1 s.2) (P := fun s => Ψ s.2 213 [(0, .ref (gad 50 0)), (2, .int x2), (3, .int (s.1))] []) (K := (fun e => Ψ e 251 [(0, .ref (gad 50 0)), (2, .int x2)] [])) (fun s w hs hn hx => t_X11_text_L213 C  hs hn hx) FU (0, M) ev hit ?_
    obtain ⟨M_36, rfl⟩ : ∃ z, z = ev := ⟨_, rfl⟩
    show Ψ M_36 251 [(0, .ref (gad 50 0)), (2, .int x2)] []
    obtain ⟨x2_37, ex2_37, hr⟩ := gLet_some hr
    refine r_iinc (pc := 251) C dX11_text_251 1 rfl rfl (by decide) ex2_37 (ls' := [(2, .int x2_37), (0, .ref (gad 50 0))]) rfl ?_
    refine r_goto (pc := 254) (tgt := 203) C dX11_text_254 rfl ?_
    refine r_sub C [1, 0] (ls' := [(0, .ref (gad 50 0)), (2, .int x2_37)]) rfl ?_
    exact hn (x2_37, M_36) (gSome hr)
noncomputable def X11_text_L259 (x2 : Int32) (M : gM) : Option ((Int32 × gM) ⊕ gM) := (if 4 ≤ x2 then some (.inr M) else gG (gin (5 + x2) 9) (gG (gin (1057 + x2) 1242) (gLet (wI M 52 8 (Int32.toNatClampNeg (1057 + x2)) (M.1 52 2 (Int32.toNatClampNeg (5 + x2)))) (fun M_42 => gLet (x2 + 1) (fun x2_43 => some (.inl (x2_43, M_42)))))))
theorem t_X11_text_L259 {Ψ : gM → Nat → List (Nat × Value) → List Value → Prop} {G : gG5} {nf : Nat} {M : gM} {v0 : Option Value} {M0 : gM} {x2 : Int32} {w : ((Int32 × gM) ⊕ gM)} (C : gC Ψ G (gXn nf) cX11_text RX11 4 (some .int) 11 257 v0 M0) (hr : X11_text_L259 x2 M = some w) (hn : ∀ s, w = .inl s → Ψ s.2 259 [(0, .ref (gad 50 0)), (2, .int (s.1))] []) (hx : ∀ e, w = .inr e → (fun e => Ψ e 288 [(0, .ref (gad 50 0))] []) e) : Ψ M 259 [(0, .ref (gad 50 0)), (2, .int x2)] [] := by
  refine r_iload_n (pc := 259) C dX11_text_259 rfl 1 rfl ?_
  refine r_iconst (pc := 260) C dX11_text_260 ki4 ?_
  refine r_icmp_ge (pc := 261) (tgt := 288) C dX11_text_261 rfl (fun c_39 => ?_) (fun c_39 => ?_)
  · replace hr := (if_pos c_39).symm.trans hr
    refine r_sub C [0] (ls' := [(0, .ref (gad 50 0))]) rfl ?_
    exact hx M (gSome hr)
  · replace hr := (if_neg c_39).symm.trans hr
    refine r_aload_n (pc := 264) C dX11_text_264 rfl 0 rfl ?_
    refine g50_18 (pc := 265) C dX11_text_265 q1418 (e50 nf) ?_
    refine r_sipush (pc := 268) C dX11_text_268 ks1057 ?_
    refine r_iload_n (pc := 271) C dX11_text_271 rfl 1 rfl ?_
    refine r_iadd (pc := 272) C dX11_text_272 ?_
    refine r_aload_n (pc := 273) C dX11_text_273 rfl 0 rfl ?_
    refine g50_9 (pc := 274) C dX11_text_274 q1409 (e50 nf) ?_
    refine r_iconst (pc := 277) C dX11_text_277 ki5 ?_
    refine r_iload_n (pc := 278) C dX11_text_278 rfl 1 rfl ?_
    refine r_iadd (pc := 279) C dX11_text_279 ?_
    obtain ⟨g_40, hr⟩ := gG_some hr
    refine r_ialdN (pc := 280) C dX11_text_280 rfl (e52 (nf := nf) (by decide)) g_40 rfl ?_
    obtain ⟨g_41, hr⟩ := gG_some hr
    obtain ⟨M_42, eM_42, hr⟩ := gLet_some hr
    refine r_iastN (pc := 281) C dX11_text_281 rfl (e52 (nf := nf) (by decide)) g_41 rfl eM_42 ?_
    obtain ⟨x2_43, ex2_43, hr⟩ := gLet_some hr
    refine r_iinc (pc := 282) C dX11_text_282 1 rfl rfl (by decide) ex2_43 (ls' := [(2, .int x2_43), (0, .ref (gad 50 0))]) rfl ?_
    refine r_goto (pc := 285) (tgt := 259) C dX11_text_285 rfl ?_
    refine r_sub C [1, 0] (ls' := [(0, .ref (gad 50 0)), (2, .int x2_43)]) rfl ?_
    exact hn (x2_43, M_42) (gSome hr)
noncomputable def X11_text_L51 (x2 : Int32) (M : gM) : Option ((Int32 × gM) ⊕ gM) := (if 60 ≤ x2 then some (.inr M) else gG (gin (240 + x2) 300) (gG (gin ((60 * (M.1 50 0 17)) + x2) 300) (gLet (wI M 52 5 (Int32.toNatClampNeg ((60 * (M.1 50 0 17)) + x2)) (M.1 52 5 (Int32.toNatClampNeg (240 + x2)))) (fun M_52 => gLet (x2 + 1) (fun x2_53 => some (.inl (x2_53, M_52)))))))
theorem t_X11_text_L51 {Ψ : gM → Nat → List (Nat × Value) → List Value → Prop} {G : gG5} {nf : Nat} {M : gM} {v0 : Option Value} {M0 : gM} {x2 : Int32} {w : ((Int32 × gM) ⊕ gM)} (C : gC Ψ G (gXn nf) cX11_text RX11 4 (some .int) 11 257 v0 M0) (hr : X11_text_L51 x2 M = some w) (hn : ∀ s, w = .inl s → Ψ s.2 51 [(0, .ref (gad 50 0)), (2, .int (s.1))] []) (hx : ∀ e, w = .inr e → (fun e => Ψ e 87 [(0, .ref (gad 50 0))] []) e) : Ψ M 51 [(0, .ref (gad 50 0)), (2, .int x2)] [] := by
  refine r_iload_n (pc := 51) C dX11_text_51 rfl 1 rfl ?_
  refine r_bipush (pc := 52) C dX11_text_52 kb60 ?_
  refine r_icmp_ge (pc := 54) (tgt := 87) C dX11_text_54 rfl (fun c_49 => ?_) (fun c_49 => ?_)
  · replace hr := (if_pos c_49).symm.trans hr
    refine r_sub C [0] (ls' := [(0, .ref (gad 50 0))]) rfl ?_
    exact hx M (gSome hr)
  · replace hr := (if_neg c_49).symm.trans hr
    refine r_aload_n (pc := 57) C dX11_text_57 rfl 0 rfl ?_
    refine g50_12 (pc := 58) C dX11_text_58 q1412 (e50 nf) ?_
    refine r_bipush (pc := 61) C dX11_text_61 kb60 ?_
    refine r_aload_n (pc := 63) C dX11_text_63 rfl 0 rfl ?_
    refine g50_17 (pc := 64) C dX11_text_64 q1417 (e50 nf) ?_
    refine r_imul (pc := 67) C dX11_text_67 ?_
    refine r_iload_n (pc := 68) C dX11_text_68 rfl 1 rfl ?_
    refine r_iadd (pc := 69) C dX11_text_69 ?_
    refine r_aload_n (pc := 70) C dX11_text_70 rfl 0 rfl ?_
    refine g50_12 (pc := 71) C dX11_text_71 q1412 (e50 nf) ?_
    refine r_sipush (pc := 74) C dX11_text_74 ks240 ?_
    refine r_iload_n (pc := 77) C dX11_text_77 rfl 1 rfl ?_
    refine r_iadd (pc := 78) C dX11_text_78 ?_
    obtain ⟨g_50, hr⟩ := gG_some hr
    refine r_ialdN (pc := 79) C dX11_text_79 rfl (e52 (nf := nf) (by decide)) g_50 rfl ?_
    obtain ⟨g_51, hr⟩ := gG_some hr
    obtain ⟨M_52, eM_52, hr⟩ := gLet_some hr
    refine r_iastN (pc := 80) C dX11_text_80 rfl (e52 (nf := nf) (by decide)) g_51 rfl eM_52 ?_
    obtain ⟨x2_53, ex2_53, hr⟩ := gLet_some hr
    refine r_iinc (pc := 81) C dX11_text_81 1 rfl rfl (by decide) ex2_53 (ls' := [(2, .int x2_53), (0, .ref (gad 50 0))]) rfl ?_
    refine r_goto (pc := 84) (tgt := 51) C dX11_text_84 rfl ?_
    refine r_sub C [1, 0] (ls' := [(0, .ref (gad 50 0)), (2, .int x2_53)]) rfl ?_
    exact hn (x2_53, M_52) (gSome hr)
noncomputable def X11_text_J28 (x1 : Int32) (M : gM) : Option (Int32 × gM) := (X11_fault x1 M).bind (gU2 (fun r_7 M_8 => (if r_7 = (-1) then gLet (wI M_8 50 0 2 0) (fun M_10 => (if x1 = 1 then (gIter (fun s => X11_text_L51 s.1 s.2) FU (0, M_10)).bind (fun M_54 => gG (gin (M_54.1 50 0 17) 5) (gLet (wI M_54 52 6 (Int32.toNatClampNeg (M_54.1 50 0 17)) (M_54.1 52 6 4)) (fun M_56 => gLet (wI M_56 50 0 17 ((M_56.1 50 0 17) + 1)) (fun M_57 => some (((M_57.1 50 0 17) - 1), M_57))))) else gLet (wI M_10 50 0 16 (M_10.1 50 0 15)) (fun M_12 => (gIter (fun s => X11_text_L129 s.1 s.2) FU (0, M_12)).bind (fun M_18 => (gIter (fun s => X11_text_L155 s.1 s.2) FU (0, M_18)).bind (fun M_24 => (gIter (fun s => X11_text_L181 s.1 s.2) FU (0, M_24)).bind (fun M_29 => (gIter (fun s => X11_text_L203 s.1 s.2) FU (0, M_29)).bind (fun M_38 => (gIter (fun s => X11_text_L259 s.1 s.2) FU (0, M_38)).bind (fun M_44 => (X11_clears 8 M_44).bind (fun M_46 => gLet (wI M_46 50 0 23 0) (fun M_47 => gLet (wI M_47 50 0 24 0) (fun M_48 => some ((M_48.1 50 0 16), M_48)))))))))))) else some ((-1), M_8))))
theorem t_X11_text_J28 {Ψ : gM → Nat → List (Nat × Value) → List Value → Prop} {G : gG5} {nf : Nat} {M : gM} {x1 : Int32} {r : Int32} {M1 : gM} (C : gC Ψ G (gXn nf) cX11_text RX11 4 (some .int) 11 257 (some (.int r)) M1) (CR : gR Ψ cX11_text (some .int) (some (.int r)) M1) (hr : X11_text_J28 x1 M = some (r, M1)) : Ψ M 28 [(0, .ref (gad 50 0)), (1, .int x1)] [] := by
  refine r_aload_n (pc := 28) C dX11_text_28 rfl 0 rfl ?_
  refine r_iload_n (pc := 29) C dX11_text_29 rfl 1 rfl ?_
  obtain ⟨⟨r_7, M_8⟩, hc_6, hr⟩ := gBind_some hr
  replace hr := gU2_some hr
  refine c_X11_fault (pc := 30) C dX11_text_30 q1631 ⟨Nat.le_of_ble_eq_true rfl, Nat.le_of_ble_eq_true rfl⟩ hc_6 (Nat.le_of_ble_eq_true rfl) ?_
  refine r_iconst (pc := 33) C dX11_text_33 kim1 ?_
  refine r_icmp_eq (pc := 34) (tgt := 39) C dX11_text_34 rfl (fun c_9 => ?_) (fun c_9 => ?_)
  · replace hr := (if_pos c_9).symm.trans hr
    refine r_aload_n (pc := 39) C dX11_text_39 rfl 0 rfl ?_
    refine r_iconst (pc := 40) C dX11_text_40 ki0 ?_
    obtain ⟨M_10, eM_10, hr⟩ := gLet_some hr
    refine p50_2 (pc := 41) C dX11_text_41 q1402 (e50 nf) eM_10 ?_
    refine r_iload_n (pc := 44) C dX11_text_44 rfl 1 rfl ?_
    refine r_iconst (pc := 45) C dX11_text_45 ki1 ?_
    refine r_icmp_ne (pc := 46) (tgt := 119) C dX11_text_46 rfl (fun c_11 => ?_) (fun c_11 => ?_)
    · replace hr := (if_neg c_11).symm.trans hr
      refine r_aload_n (pc := 119) C dX11_text_119 rfl 0 rfl ?_
      refine r_aload_n (pc := 120) C dX11_text_120 rfl 0 rfl ?_
      refine g50_15 (pc := 121) C dX11_text_121 q1415 (e50 nf) ?_
      obtain ⟨M_12, eM_12, hr⟩ := gLet_some hr
      refine p50_16 (pc := 124) C dX11_text_124 q1416 (e50 nf) eM_12 ?_
      refine r_iconst (pc := 127) C dX11_text_127 ki0 ?_
      refine r_istore_n (pc := 128) C dX11_text_128 rfl (by decide) rfl (ls' := [(2, .int 0), (0, .ref (gad 50 0)), (1, .int x1)]) rfl ?_
      refine r_sub C [1, 0] (ls' := [(0, .ref (gad 50 0)), (2, .int 0)]) rfl ?_
      obtain ⟨ev, hit, hr⟩ := gBind_some hr
      refine gIter_V (step := fun s => X11_text_L129 s.1 s.2) (P := fun s => Ψ s.2 129 [(0, .ref (gad 50 0)), (2, .int (s.1))] []) (K := (fun e => Ψ e 153 [(0, .ref (gad 50 0))] [])) (fun s w hs hn hx => t_X11_text_L129 C  hs hn hx) FU (0, M_12) ev hit ?_
      obtain ⟨M_18, rfl⟩ : ∃ z, z = ev := ⟨_, rfl⟩
      show Ψ M_18 153 [(0, .ref (gad 50 0))] []
      refine r_iconst (pc := 153) C dX11_text_153 ki0 ?_
      refine r_istore_n (pc := 154) C dX11_text_154 rfl (by decide) rfl (ls' := [(2, .int 0), (0, .ref (gad 50 0))]) rfl ?_
      refine r_sub C [1, 0] (ls' := [(0, .ref (gad 50 0)), (2, .int 0)]) rfl ?_
      obtain ⟨ev, hit, hr⟩ := gBind_some hr
      refine gIter_V (step := fun s => X11_text_L155 s.1 s.2) (P := fun s => Ψ s.2 155 [(0, .ref (gad 50 0)), (2, .int (s.1))] []) (K := (fun e => Ψ e 179 [(0, .ref (gad 50 0))] [])) (fun s w hs hn hx => t_X11_text_L155 C  hs hn hx) FU (0, M_18) ev hit ?_
      obtain ⟨M_24, rfl⟩ : ∃ z, z = ev := ⟨_, rfl⟩
      show Ψ M_24 179 [(0, .ref (gad 50 0))] []
      refine r_iconst (pc := 179) C dX11_text_179 ki0 ?_
      refine r_istore_n (pc := 180) C dX11_text_180 rfl (by decide) rfl (ls' := [(2, .int 0), (0, .ref (gad 50 0))]) rfl ?_
      refine r_sub C [1, 0] (ls' := [(0, .ref (gad 50 0)), (2, .int 0)]) rfl ?_
      obtain ⟨ev, hit, hr⟩ := gBind_some hr
      refine gIter_V (step := fun s => X11_text_L181 s.1 s.2) (P := fun s => Ψ s.2 181 [(0, .ref (gad 50 0)), (2, .int (s.1))] []) (K := (fun e => Ψ e 201 [(0, .ref (gad 50 0))] [])) (fun s w hs hn hx => t_X11_text_L181 C  hs hn hx) FU (0, M_24) ev hit ?_
      obtain ⟨M_29, rfl⟩ : ∃ z, z = ev := ⟨_, rfl⟩
      show Ψ M_29 201 [(0, .ref (gad 50 0))] []
      refine r_iconst (pc := 201) C dX11_text_201 ki0 ?_
      refine r_istore_n (pc := 202) C dX11_text_202 rfl (by decide) rfl (ls' := [(2, .int 0), (0, .ref (gad 50 0))]) rfl ?_
      refine r_sub C [1, 0] (ls' := [(0, .ref (gad 50 0)), (2, .int 0)]) rfl ?_
      obtain ⟨ev, hit, hr⟩ := gBind_some hr
      refine gIter_V (step := fun s => X11_text_L203 s.1 s.2) (P := fun s => Ψ s.2 203 [(0, .ref (gad 50 0)), (2, .int (s.1))] []) (K := (fun e => Ψ e 257 [(0, .ref (gad 50 0))] [])) (fun s w hs hn hx => t_X11_text_L203 C  hs hn hx) FU (0, M_29) ev hit ?_
      obtain ⟨M_38, rfl⟩ : ∃ z, z = ev := ⟨_, rfl⟩
      show Ψ M_38 257 [(0, .ref (gad 50 0))] []
      refine r_iconst (pc := 257) C dX11_text_257 ki0 ?_
      refine r_istore_n (pc := 258) C dX11_text_258 rfl (by decide) rfl (ls' := [(2, .int 0), (0, .ref (gad 50 0))]) rfl ?_
      refine r_sub C [1, 0] (ls' := [(0, .ref (gad 50 0)), (2, .int 0)]) rfl ?_
      obtain ⟨ev, hit, hr⟩ := gBind_some hr
      refine gIter_V (step := fun s => X11_text_L259 s.1 s.2) (P := fun s => Ψ s.2 259 [(0, .ref (gad 50 0)), (2, .int (s.1))] []) (K := (fun e => Ψ e 288 [(0, .ref (gad 50 0))] [])) (fun s w hs hn hx => t_X11_text_L259 C  hs hn hx) FU (0, M_38) ev hit ?_
      obtain ⟨M_44, rfl⟩ : ∃ z, z = ev := ⟨_, rfl⟩
      show Ψ M_44 288 [(0, .ref (gad 50 0))] []
      refine r_aload_n (pc := 288) C dX11_text_288 rfl 0 rfl ?_
      refine r_aload_n (pc := 289) C dX11_text_289 rfl 0 rfl ?_
      refine g50_18 (pc := 290) C dX11_text_290 q1418 (e50 nf) ?_
      obtain ⟨M_46, hc_45, hr⟩ := gBind_some hr
      refine c_X11_clears (pc := 293) C dX11_text_293 q1632 ⟨Nat.le_of_ble_eq_true rfl, Nat.le_of_ble_eq_true rfl⟩ (by decide) hc_45 (Nat.le_of_ble_eq_true rfl) ?_
      refine r_aload_n (pc := 296) C dX11_text_296 rfl 0 rfl ?_
      refine r_iconst (pc := 297) C dX11_text_297 ki0 ?_
      obtain ⟨M_47, eM_47, hr⟩ := gLet_some hr
      refine p50_23 (pc := 298) C dX11_text_298 q1423 (e50 nf) eM_47 ?_
      refine r_aload_n (pc := 301) C dX11_text_301 rfl 0 rfl ?_
      refine r_iconst (pc := 302) C dX11_text_302 ki0 ?_
      obtain ⟨M_48, eM_48, hr⟩ := gLet_some hr
      refine p50_24 (pc := 303) C dX11_text_303 q1424 (e50 nf) rfl eM_48 ?_
      refine r_aload_n (pc := 306) C dX11_text_306 rfl 0 rfl ?_
      refine g50_16 (pc := 307) C dX11_text_307 q1416 (e50 nf) ?_
      exact r_iret (pc := 310) CR dX11_text_310 (congrArg (fun z => some (Value.int z)) (Prod.mk.inj (gSome hr)).1) (Prod.mk.inj (gSome hr)).2
    · replace hr := (if_pos c_11).symm.trans hr
      refine r_iconst (pc := 49) C dX11_text_49 ki0 ?_
      refine r_istore_n (pc := 50) C dX11_text_50 rfl (by decide) rfl (ls' := [(2, .int 0), (0, .ref (gad 50 0)), (1, .int x1)]) rfl ?_
      refine r_sub C [1, 0] (ls' := [(0, .ref (gad 50 0)), (2, .int 0)]) rfl ?_
      obtain ⟨ev, hit, hr⟩ := gBind_some hr
      refine gIter_V (step := fun s => X11_text_L51 s.1 s.2) (P := fun s => Ψ s.2 51 [(0, .ref (gad 50 0)), (2, .int (s.1))] []) (K := (fun e => Ψ e 87 [(0, .ref (gad 50 0))] [])) (fun s w hs hn hx => t_X11_text_L51 C  hs hn hx) FU (0, M_10) ev hit ?_
      obtain ⟨M_54, rfl⟩ : ∃ z, z = ev := ⟨_, rfl⟩
      show Ψ M_54 87 [(0, .ref (gad 50 0))] []
      refine r_aload_n (pc := 87) C dX11_text_87 rfl 0 rfl ?_
      refine g50_13 (pc := 88) C dX11_text_88 q1413 (e50 nf) ?_
      refine r_aload_n (pc := 91) C dX11_text_91 rfl 0 rfl ?_
      refine g50_17 (pc := 92) C dX11_text_92 q1417 (e50 nf) ?_
      refine r_aload_n (pc := 95) C dX11_text_95 rfl 0 rfl ?_
      refine g50_13 (pc := 96) C dX11_text_96 q1413 (e50 nf) ?_
      refine r_iconst (pc := 99) C dX11_text_99 ki4 ?_
      refine r_ialdN (pc := 100) C dX11_text_100 rfl (e52 (nf := nf) (by decide)) (by decide : gin 4 5 = true) kc4 ?_
      obtain ⟨g_55, hr⟩ := gG_some hr
      obtain ⟨M_56, eM_56, hr⟩ := gLet_some hr
      refine r_iastN (pc := 101) C dX11_text_101 rfl (e52 (nf := nf) (by decide)) g_55 rfl eM_56 ?_
      refine r_aload_n (pc := 102) C dX11_text_102 rfl 0 rfl ?_
      refine r_dup (pc := 103) C dX11_text_103 rfl ?_
      refine g50_17 (pc := 104) C dX11_text_104 q1417 (e50 nf) ?_
      refine r_iconst (pc := 107) C dX11_text_107 ki1 ?_
      refine r_iadd (pc := 108) C dX11_text_108 ?_
      obtain ⟨M_57, eM_57, hr⟩ := gLet_some hr
      refine p50_17 (pc := 109) C dX11_text_109 q1417 (e50 nf) eM_57 ?_
      refine r_aload_n (pc := 112) C dX11_text_112 rfl 0 rfl ?_
      refine g50_17 (pc := 113) C dX11_text_113 q1417 (e50 nf) ?_
      refine r_iconst (pc := 116) C dX11_text_116 ki1 ?_
      refine r_isub (pc := 117) C dX11_text_117 ?_
      exact r_iret (pc := 118) CR dX11_text_118 (congrArg (fun z => some (Value.int z)) (Prod.mk.inj (gSome hr)).1) (Prod.mk.inj (gSome hr)).2
  · replace hr := (if_neg c_9).symm.trans hr
    refine r_iconst (pc := 37) C dX11_text_37 kim1 ?_
    exact r_iret (pc := 38) CR dX11_text_38 (congrArg (fun z => some (Value.int z)) (Prod.mk.inj (gSome hr)).1) (Prod.mk.inj (gSome hr)).2
noncomputable def X11_text (p1 : Int32) (M : gM) : Option (Int32 × gM) := gLet (wI M 50 0 0 0) (fun M_1 => (X11_isIn (Int32.toInt64 p1) 0 1 M_1).bind (fun r_3 => (if r_3 = 0 then some ((-1), M_1) else (if p1 = 1 then (if (M_1.1 50 0 17) = 4 then some ((-1), M_1) else X11_text_J28 p1 M_1) else X11_text_J28 p1 M_1))))
theorem k_X11_text {G : gG5} {nf : Nat} {M : gM} {p1 : Int32} {r : Int32} {M1 : gM} (hr : X11_text p1 M = some (r, M1)) : gMet G (gXn nf) yX11_text cX11_text 4 (some .int) 11 257 M [.ref (gad 50 0), .int p1] (some (.int r)) M1 := by
  refine gMet_of pl_X11 rfl (Nat.le_of_ble_eq_true rfl) (fun Ψ C CR => ?_)
  show Ψ M 0 [(0, .ref (gad 50 0)), (1, .int p1)] []
  refine r_aload_n (pc := 0) C dX11_text_0 rfl 0 rfl ?_
  refine r_iconst (pc := 1) C dX11_text_1 ki0 ?_
  obtain ⟨M_1, eM_1, hr⟩ := gLet_some hr
  refine p50_0 (pc := 2) C dX11_text_2 q1400 (e50 nf) eM_1 ?_
  refine r_iload_n (pc := 5) C dX11_text_5 rfl 1 rfl ?_
  refine r_i2l (pc := 6) C dX11_text_6 ?_
  refine r_lconst (pc := 7) (v := 0) C dX11_text_7 rfl ?_
  refine r_lconst (pc := 8) (v := 1) C dX11_text_8 rfl ?_
  obtain ⟨r_3, hc_2, hr⟩ := gBind_some hr
  refine c_X11_isIn (pc := 9) C dX11_text_9 q1538 ⟨Nat.le_of_ble_eq_true rfl, Nat.le_of_ble_eq_true rfl⟩ hc_2 (Nat.le_of_ble_eq_true rfl) ?_
  refine r_if_eq (pc := 12) (tgt := 37) C dX11_text_12 rfl (fun c_4 => ?_) (fun c_4 => ?_)
  · replace hr := (if_pos c_4).symm.trans hr
    refine r_iconst (pc := 37) C dX11_text_37 kim1 ?_
    exact r_iret (pc := 38) CR dX11_text_38 (congrArg (fun z => some (Value.int z)) (Prod.mk.inj (gSome hr)).1) (Prod.mk.inj (gSome hr)).2
  · replace hr := (if_neg c_4).symm.trans hr
    refine r_iload_n (pc := 15) C dX11_text_15 rfl 1 rfl ?_
    refine r_iconst (pc := 16) C dX11_text_16 ki1 ?_
    refine r_icmp_ne (pc := 17) (tgt := 28) C dX11_text_17 rfl (fun c_5 => ?_) (fun c_5 => ?_)
    · replace hr := (if_neg c_5).symm.trans hr
      exact t_X11_text_J28 C CR  hr
    · replace hr := (if_pos c_5).symm.trans hr
      refine r_aload_n (pc := 20) C dX11_text_20 rfl 0 rfl ?_
      refine g50_17 (pc := 21) C dX11_text_21 q1417 (e50 nf) ?_
      refine r_iconst (pc := 24) C dX11_text_24 ki4 ?_
      refine r_icmp_eq (pc := 25) (tgt := 37) C dX11_text_25 rfl (fun c_58 => ?_) (fun c_58 => ?_)
      · replace hr := (if_pos c_58).symm.trans hr
        refine r_iconst (pc := 37) C dX11_text_37 kim1 ?_
        exact r_iret (pc := 38) CR dX11_text_38 (congrArg (fun z => some (Value.int z)) (Prod.mk.inj (gSome hr)).1) (Prod.mk.inj (gSome hr)).2
      · replace hr := (if_neg c_58).symm.trans hr
        exact t_X11_text_J28 C CR  hr
theorem c_X11_text {Ψ : gM → Nat → List (Nat × Value) → List Value → Prop} {G : gG5} {nf : Nat} {cc : ByteArray} {own : String} {nL : Nat} {ret : Option FieldType} {fr lo : Nat} {v0 : Option Value} {M0 M : gM} {pc index : Nat} {ls : List (Nat × Value)} {st : List Value} (C : gC Ψ G (gXn nf) cc own nL ret fr lo v0 M0) (d : decode cc pc = .ok (.invokevirtual index, 3)) (hl : Cond.methodLink own index yX11_text ∈ gws) (hR : 12 ≤ fr ∧ 280 ≤ lo) {p1 : Int32} {r : Int32} {M1 : gM} (hr : X11_text p1 M = some (r, M1)) (hcat : (st.map fun v => v.category).sum ≤ 8) (k : Ψ M1 (pc + 3) ls (.int r :: st)) : Ψ M pc ls (.int p1 :: .ref (gad 50 0) :: st) := r_callV C [.int p1] st d (k_X11_text hr) hl q1628 q1629 q127 q1630 hd_X11_text hR rfl (by decide) (e50 nf) rfl hcat k
theorem hd_X11_copyRow : yX11_copyRow.cls ≠ "java/lang/invoke/MethodHandle" ∧ yX11_copyRow.cls ≠ "java/lang/invoke/VarHandle" ∧ (parseMethodDescriptor yX11_copyRow.desc).map (fun d => d.parameters.length) = some 4 := by decide +kernel
noncomputable def X11_copyRow_L3 (i0 : Nat) (x1 : Int32) (i2 : Nat) (x3 : Int32) (x4 : Int32) (M : gM) : Option ((Int32 × gM) ⊕ gM) := (if 1242 ≤ x4 then some (.inr M) else gG (gin (x1 + x4) (gLen 52 i0)) (gG (gin (x3 + x4) (gLen 52 i2)) (gLet (wI M 52 i2 (Int32.toNatClampNeg (x3 + x4)) (M.1 52 i0 (Int32.toNatClampNeg (x1 + x4)))) (fun M_4 => gLet (x4 + 1) (fun x4_5 => some (.inl (x4_5, M_4)))))))
theorem t_X11_copyRow_L3 {Ψ : gM → Nat → List (Nat × Value) → List Value → Prop} {G : gG5} {nf : Nat} {M : gM} {v0 : Option Value} {M0 : gM} {i0 : Nat} {x1 : Int32} {i2 : Nat} {x3 : Int32} {x4 : Int32} {w : ((Int32 × gM) ⊕ gM)} (C : gC Ψ G (gXn nf) cX11_copyRow RX11 5 none 0 0 v0 M0) (h0 : i0 < 20) (h2 : i2 < 20) (hr : X11_copyRow_L3 i0 x1 i2 x3 x4 M = some w) (hn : ∀ s, w = .inl s → Ψ s.2 3 [(0, .ref (gad 52 i0)), (1, .int x1), (2, .ref (gad 52 i2)), (3, .int x3), (4, .int (s.1))] []) (hx : ∀ e, w = .inr e → (fun e => Ψ e 29 [] []) e) : Ψ M 3 [(0, .ref (gad 52 i0)), (1, .int x1), (2, .ref (gad 52 i2)), (3, .int x3), (4, .int x4)] [] := by
  refine r_iload (pc := 3) C dX11_copyRow_3 4 rfl ?_
  refine r_sipush (pc := 5) C dX11_copyRow_5 ks1242 ?_
  refine r_icmp_ge (pc := 8) (tgt := 29) C dX11_copyRow_8 rfl (fun c_1 => ?_) (fun c_1 => ?_)
  · replace hr := (if_pos c_1).symm.trans hr
    refine r_sub C [] (ls' := []) rfl ?_
    exact hx M (gSome hr)
  · replace hr := (if_neg c_1).symm.trans hr
    refine r_aload_n (pc := 11) C dX11_copyRow_11 rfl 2 rfl ?_
    refine r_iload_n (pc := 12) C dX11_copyRow_12 rfl 3 rfl ?_
    refine r_iload (pc := 13) C dX11_copyRow_13 4 rfl ?_
    refine r_iadd (pc := 15) C dX11_copyRow_15 ?_
    refine r_aload_n (pc := 16) C dX11_copyRow_16 rfl 0 rfl ?_
    refine r_iload_n (pc := 17) C dX11_copyRow_17 rfl 1 rfl ?_
    refine r_iload (pc := 18) C dX11_copyRow_18 4 rfl ?_
    refine r_iadd (pc := 20) C dX11_copyRow_20 ?_
    obtain ⟨g_2, hr⟩ := gG_some hr
    refine r_ialdN (pc := 21) C dX11_copyRow_21 rfl (e52 (nf := nf) h0) g_2 rfl ?_
    obtain ⟨g_3, hr⟩ := gG_some hr
    obtain ⟨M_4, eM_4, hr⟩ := gLet_some hr
    refine r_iastN (pc := 22) C dX11_copyRow_22 rfl (e52 (nf := nf) h2) g_3 rfl eM_4 ?_
    obtain ⟨x4_5, ex4_5, hr⟩ := gLet_some hr
    refine r_iinc (pc := 23) C dX11_copyRow_23 4 rfl rfl (by decide) ex4_5 (ls' := [(4, .int x4_5), (0, .ref (gad 52 i0)), (1, .int x1), (2, .ref (gad 52 i2)), (3, .int x3)]) rfl ?_
    refine r_goto (pc := 26) (tgt := 3) C dX11_copyRow_26 rfl ?_
    refine r_sub C [1, 2, 3, 4, 0] (ls' := [(0, .ref (gad 52 i0)), (1, .int x1), (2, .ref (gad 52 i2)), (3, .int x3), (4, .int x4_5)]) rfl ?_
    exact hn (x4_5, M_4) (gSome hr)
noncomputable def X11_copyRow (i0 : Nat) (p1 : Int32) (i2 : Nat) (p3 : Int32) (M : gM) : Option gM := (gIter (fun s => X11_copyRow_L3 i0 p1 i2 p3 s.1 s.2) FU (0, M)).bind (fun M_6 => some M_6)
theorem k_X11_copyRow {G : gG5} {nf : Nat} {M : gM} {i0 : Nat} {p1 : Int32} {i2 : Nat} {p3 : Int32} (h0 : i0 < 20) (h2 : i2 < 20) {M1 : gM} (hr : X11_copyRow i0 p1 i2 p3 M = some M1) : gMet G (gXn nf) yX11_copyRow cX11_copyRow 5 none 0 0 M [.ref (gad 52 i0), .int p1, .ref (gad 52 i2), .int p3] none M1 := by
  refine gMet_of pl_X11 rfl (Nat.le_of_ble_eq_true rfl) (fun Ψ C CR => ?_)
  show Ψ M 0 [(0, .ref (gad 52 i0)), (1, .int p1), (2, .ref (gad 52 i2)), (3, .int p3)] []
  refine r_iconst (pc := 0) C dX11_copyRow_0 ki0 ?_
  refine r_istore (pc := 1) C dX11_copyRow_1 (by decide) rfl (ls' := [(4, .int 0), (0, .ref (gad 52 i0)), (1, .int p1), (2, .ref (gad 52 i2)), (3, .int p3)]) rfl ?_
  refine r_sub C [1, 2, 3, 4, 0] (ls' := [(0, .ref (gad 52 i0)), (1, .int p1), (2, .ref (gad 52 i2)), (3, .int p3), (4, .int 0)]) rfl ?_
  obtain ⟨ev, hit, hr⟩ := gBind_some hr
  refine gIter_V (step := fun s => X11_copyRow_L3 i0 p1 i2 p3 s.1 s.2) (P := fun s => Ψ s.2 3 [(0, .ref (gad 52 i0)), (1, .int p1), (2, .ref (gad 52 i2)), (3, .int p3), (4, .int (s.1))] []) (K := (fun e => Ψ e 29 [] [])) (fun s w hs hn hx => t_X11_copyRow_L3 C h0 h2 hs hn hx) FU (0, M) ev hit ?_
  obtain ⟨M_6, rfl⟩ : ∃ z, z = ev := ⟨_, rfl⟩
  show Ψ M_6 29 [] []
  exact r_vret (pc := 29) CR dX11_copyRow_29 rfl (gSome hr)
theorem c_X11_copyRow {Ψ : gM → Nat → List (Nat × Value) → List Value → Prop} {G : gG5} {nf : Nat} {cc : ByteArray} {own : String} {nL : Nat} {ret : Option FieldType} {fr lo : Nat} {v0 : Option Value} {M0 M : gM} {pc index : Nat} {ls : List (Nat × Value)} {st : List Value} (C : gC Ψ G (gXn nf) cc own nL ret fr lo v0 M0) (d : decode cc pc = .ok (.invokestatic index, 3)) (hl : Cond.methodLink own index yX11_copyRow ∈ gws) (hR : 1 ≤ fr ∧ 24 ≤ lo) {i0 : Nat} {p1 : Int32} {i2 : Nat} {p3 : Int32} (h0 : i0 < 20) (h2 : i2 < 20) {M1 : gM} (hr : X11_copyRow i0 p1 i2 p3 M = some M1) (hcat : (st.map fun v => v.category).sum ≤ 8) (k : Ψ M1 (pc + 3) ls (st)) : Ψ M pc ls (.int p3 :: .ref (gad 52 i2) :: .int p1 :: .ref (gad 52 i0) :: st) := r_callS C [.ref (gad 52 i0), .int p1, .ref (gad 52 i2), .int p3] st d (k_X11_copyRow h0 h2 hr) hl q1703 q127 q1704 hd_X11_copyRow hR rfl hcat k
theorem hd_X11_sampleX : yX11_sampleX.cls ≠ "java/lang/invoke/MethodHandle" ∧ yX11_sampleX.cls ≠ "java/lang/invoke/VarHandle" ∧ (parseMethodDescriptor yX11_sampleX.desc).map (fun d => d.parameters.length) = some 1 := by decide +kernel
noncomputable def X11_sampleX (p1 : Int32) (M : gM) : Option Int32 := (if (M.1 52 2 3) = 1 then some 4 else (if (M.1 52 2 3) = 2 then (if p1 = 0 then some 2 else some 6) else (if p1 = 0 then some 3 else (if p1 = 1 then some 7 else (if p1 = 2 then some 1 else some 5)))))
theorem k_X11_sampleX {G : gG5} {nf : Nat} {M : gM} {p1 : Int32} {r : Int32} (hr : X11_sampleX p1 M = some r) : gMet G (gXn nf) yX11_sampleX cX11_sampleX 2 (some .int) 0 0 M [.ref (gad 50 0), .int p1] (some (.int r)) M := by
  refine gMet_of pl_X11 rfl (Nat.le_of_ble_eq_true rfl) (fun Ψ C CR => ?_)
  show Ψ M 0 [(0, .ref (gad 50 0)), (1, .int p1)] []
  refine r_aload_n (pc := 0) C dX11_sampleX_0 rfl 0 rfl ?_
  refine g50_9 (pc := 1) C dX11_sampleX_1 q1409 (e50 nf) ?_
  refine r_iconst (pc := 4) C dX11_sampleX_4 ki3 ?_
  refine r_ialdN (pc := 5) C dX11_sampleX_5 rfl (e52 (nf := nf) (by decide)) (by decide : gin 3 9 = true) kc3 ?_
  refine r_iconst (pc := 6) C dX11_sampleX_6 ki1 ?_
  refine r_icmp_ne (pc := 7) (tgt := 12) C dX11_sampleX_7 rfl (fun c_1 => ?_) (fun c_1 => ?_)
  · replace hr := (if_neg c_1).symm.trans hr
    refine r_aload_n (pc := 12) C dX11_sampleX_12 rfl 0 rfl ?_
    refine g50_9 (pc := 13) C dX11_sampleX_13 q1409 (e50 nf) ?_
    refine r_iconst (pc := 16) C dX11_sampleX_16 ki3 ?_
    refine r_ialdN (pc := 17) C dX11_sampleX_17 rfl (e52 (nf := nf) (by decide)) (by decide : gin 3 9 = true) kc3 ?_
    refine r_iconst (pc := 18) C dX11_sampleX_18 ki2 ?_
    refine r_icmp_ne (pc := 19) (tgt := 33) C dX11_sampleX_19 rfl (fun c_2 => ?_) (fun c_2 => ?_)
    · replace hr := (if_neg c_2).symm.trans hr
      refine r_iload_n (pc := 33) C dX11_sampleX_33 rfl 1 rfl ?_
      refine r_if_ne (pc := 34) (tgt := 41) C dX11_sampleX_34 rfl (fun c_3 => ?_) (fun c_3 => ?_)
      · replace hr := (if_neg c_3).symm.trans hr
        refine r_iload_n (pc := 41) C dX11_sampleX_41 rfl 1 rfl ?_
        refine r_iconst (pc := 42) C dX11_sampleX_42 ki1 ?_
        refine r_icmp_ne (pc := 43) (tgt := 51) C dX11_sampleX_43 rfl (fun c_4 => ?_) (fun c_4 => ?_)
        · replace hr := (if_neg c_4).symm.trans hr
          refine r_iload_n (pc := 51) C dX11_sampleX_51 rfl 1 rfl ?_
          refine r_iconst (pc := 52) C dX11_sampleX_52 ki2 ?_
          refine r_icmp_ne (pc := 53) (tgt := 60) C dX11_sampleX_53 rfl (fun c_5 => ?_) (fun c_5 => ?_)
          · replace hr := (if_neg c_5).symm.trans hr
            refine r_iconst (pc := 60) C dX11_sampleX_60 ki5 ?_
            exact r_iret (pc := 61) CR dX11_sampleX_61 (congrArg (fun z => some (Value.int z)) (gSome hr)) rfl
          · replace hr := (if_pos c_5).symm.trans hr
            refine r_iconst (pc := 56) C dX11_sampleX_56 ki1 ?_
            refine r_goto (pc := 57) (tgt := 61) C dX11_sampleX_57 rfl ?_
            exact r_iret (pc := 61) CR dX11_sampleX_61 (congrArg (fun z => some (Value.int z)) (gSome hr)) rfl
        · replace hr := (if_pos c_4).symm.trans hr
          refine r_bipush (pc := 46) C dX11_sampleX_46 kb7 ?_
          refine r_goto (pc := 48) (tgt := 61) C dX11_sampleX_48 rfl ?_
          exact r_iret (pc := 61) CR dX11_sampleX_61 (congrArg (fun z => some (Value.int z)) (gSome hr)) rfl
      · replace hr := (if_pos c_3).symm.trans hr
        refine r_iconst (pc := 37) C dX11_sampleX_37 ki3 ?_
        refine r_goto (pc := 38) (tgt := 61) C dX11_sampleX_38 rfl ?_
        exact r_iret (pc := 61) CR dX11_sampleX_61 (congrArg (fun z => some (Value.int z)) (gSome hr)) rfl
    · replace hr := (if_pos c_2).symm.trans hr
      refine r_iload_n (pc := 22) C dX11_sampleX_22 rfl 1 rfl ?_
      refine r_if_ne (pc := 23) (tgt := 30) C dX11_sampleX_23 rfl (fun c_6 => ?_) (fun c_6 => ?_)
      · replace hr := (if_neg c_6).symm.trans hr
        refine r_bipush (pc := 30) C dX11_sampleX_30 kb6 ?_
        exact r_iret (pc := 32) CR dX11_sampleX_32 (congrArg (fun z => some (Value.int z)) (gSome hr)) rfl
      · replace hr := (if_pos c_6).symm.trans hr
        refine r_iconst (pc := 26) C dX11_sampleX_26 ki2 ?_
        refine r_goto (pc := 27) (tgt := 32) C dX11_sampleX_27 rfl ?_
        exact r_iret (pc := 32) CR dX11_sampleX_32 (congrArg (fun z => some (Value.int z)) (gSome hr)) rfl
  · replace hr := (if_pos c_1).symm.trans hr
    refine r_iconst (pc := 10) C dX11_sampleX_10 ki4 ?_
    exact r_iret (pc := 11) CR dX11_sampleX_11 (congrArg (fun z => some (Value.int z)) (gSome hr)) rfl
theorem c_X11_sampleX {Ψ : gM → Nat → List (Nat × Value) → List Value → Prop} {G : gG5} {nf : Nat} {cc : ByteArray} {own : String} {nL : Nat} {ret : Option FieldType} {fr lo : Nat} {v0 : Option Value} {M0 M : gM} {pc index : Nat} {ls : List (Nat × Value)} {st : List Value} (C : gC Ψ G (gXn nf) cc own nL ret fr lo v0 M0) (d : decode cc pc = .ok (.invokevirtual index, 3)) (hl : Cond.methodLink own index yX11_sampleX ∈ gws) (hR : 1 ≤ fr ∧ 21 ≤ lo) {p1 : Int32} {r : Int32} (hr : X11_sampleX p1 M = some r) (hcat : (st.map fun v => v.category).sum ≤ 8) (k : Ψ M (pc + 3) ls (.int r :: st)) : Ψ M pc ls (.int p1 :: .ref (gad 50 0) :: st) := r_callV C [.int p1] st d (k_X11_sampleX hr) hl q1737 q73 q127 q1738 hd_X11_sampleX hR rfl (by decide) (e50 nf) rfl hcat k
theorem hd_X11_sampleY : yX11_sampleY.cls ≠ "java/lang/invoke/MethodHandle" ∧ yX11_sampleY.cls ≠ "java/lang/invoke/VarHandle" ∧ (parseMethodDescriptor yX11_sampleY.desc).map (fun d => d.parameters.length) = some 1 := by decide +kernel
noncomputable def X11_sampleY (p1 : Int32) (M : gM) : Option Int32 := (if (M.1 52 2 3) = 1 then some 4 else (if (M.1 52 2 3) = 2 then (if p1 = 0 then some 2 else some 6) else some ((2 * p1) + 1)))
theorem k_X11_sampleY {G : gG5} {nf : Nat} {M : gM} {p1 : Int32} {r : Int32} (hr : X11_sampleY p1 M = some r) : gMet G (gXn nf) yX11_sampleY cX11_sampleY 2 (some .int) 0 0 M [.ref (gad 50 0), .int p1] (some (.int r)) M := by
  refine gMet_of pl_X11 rfl (Nat.le_of_ble_eq_true rfl) (fun Ψ C CR => ?_)
  show Ψ M 0 [(0, .ref (gad 50 0)), (1, .int p1)] []
  refine r_aload_n (pc := 0) C dX11_sampleY_0 rfl 0 rfl ?_
  refine g50_9 (pc := 1) C dX11_sampleY_1 q1409 (e50 nf) ?_
  refine r_iconst (pc := 4) C dX11_sampleY_4 ki3 ?_
  refine r_ialdN (pc := 5) C dX11_sampleY_5 rfl (e52 (nf := nf) (by decide)) (by decide : gin 3 9 = true) kc3 ?_
  refine r_iconst (pc := 6) C dX11_sampleY_6 ki1 ?_
  refine r_icmp_ne (pc := 7) (tgt := 12) C dX11_sampleY_7 rfl (fun c_1 => ?_) (fun c_1 => ?_)
  · replace hr := (if_neg c_1).symm.trans hr
    refine r_aload_n (pc := 12) C dX11_sampleY_12 rfl 0 rfl ?_
    refine g50_9 (pc := 13) C dX11_sampleY_13 q1409 (e50 nf) ?_
    refine r_iconst (pc := 16) C dX11_sampleY_16 ki3 ?_
    refine r_ialdN (pc := 17) C dX11_sampleY_17 rfl (e52 (nf := nf) (by decide)) (by decide : gin 3 9 = true) kc3 ?_
    refine r_iconst (pc := 18) C dX11_sampleY_18 ki2 ?_
    refine r_icmp_ne (pc := 19) (tgt := 33) C dX11_sampleY_19 rfl (fun c_2 => ?_) (fun c_2 => ?_)
    · replace hr := (if_neg c_2).symm.trans hr
      refine r_iconst (pc := 33) C dX11_sampleY_33 ki2 ?_
      refine r_iload_n (pc := 34) C dX11_sampleY_34 rfl 1 rfl ?_
      refine r_imul (pc := 35) C dX11_sampleY_35 ?_
      refine r_iconst (pc := 36) C dX11_sampleY_36 ki1 ?_
      refine r_iadd (pc := 37) C dX11_sampleY_37 ?_
      exact r_iret (pc := 38) CR dX11_sampleY_38 (congrArg (fun z => some (Value.int z)) (gSome hr)) rfl
    · replace hr := (if_pos c_2).symm.trans hr
      refine r_iload_n (pc := 22) C dX11_sampleY_22 rfl 1 rfl ?_
      refine r_if_ne (pc := 23) (tgt := 30) C dX11_sampleY_23 rfl (fun c_3 => ?_) (fun c_3 => ?_)
      · replace hr := (if_neg c_3).symm.trans hr
        refine r_bipush (pc := 30) C dX11_sampleY_30 kb6 ?_
        exact r_iret (pc := 32) CR dX11_sampleY_32 (congrArg (fun z => some (Value.int z)) (gSome hr)) rfl
      · replace hr := (if_pos c_3).symm.trans hr
        refine r_iconst (pc := 26) C dX11_sampleY_26 ki2 ?_
        refine r_goto (pc := 27) (tgt := 32) C dX11_sampleY_27 rfl ?_
        exact r_iret (pc := 32) CR dX11_sampleY_32 (congrArg (fun z => some (Value.int z)) (gSome hr)) rfl
  · replace hr := (if_pos c_1).symm.trans hr
    refine r_iconst (pc := 10) C dX11_sampleY_10 ki4 ?_
    exact r_iret (pc := 11) CR dX11_sampleY_11 (congrArg (fun z => some (Value.int z)) (gSome hr)) rfl
theorem c_X11_sampleY {Ψ : gM → Nat → List (Nat × Value) → List Value → Prop} {G : gG5} {nf : Nat} {cc : ByteArray} {own : String} {nL : Nat} {ret : Option FieldType} {fr lo : Nat} {v0 : Option Value} {M0 M : gM} {pc index : Nat} {ls : List (Nat × Value)} {st : List Value} (C : gC Ψ G (gXn nf) cc own nL ret fr lo v0 M0) (d : decode cc pc = .ok (.invokevirtual index, 3)) (hl : Cond.methodLink own index yX11_sampleY ∈ gws) (hR : 1 ≤ fr ∧ 21 ≤ lo) {p1 : Int32} {r : Int32} (hr : X11_sampleY p1 M = some r) (hcat : (st.map fun v => v.category).sum ≤ 8) (k : Ψ M (pc + 3) ls (.int r :: st)) : Ψ M pc ls (.int p1 :: .ref (gad 50 0) :: st) := r_callV C [.int p1] st d (k_X11_sampleY hr) hl q1741 q74 q127 q1742 hd_X11_sampleY hR rfl (by decide) (e50 nf) rfl hcat k
