theorem hd_X10_fault : yX10_fault.cls ≠ "java/lang/invoke/MethodHandle" ∧ yX10_fault.cls ≠ "java/lang/invoke/VarHandle" ∧ (parseMethodDescriptor yX10_fault.desc).map (fun d => d.parameters.length) = some 1 := by decide +kernel
noncomputable def X10_fault (p1 : Int32) (M : gM) : Option (Int32 × gM) := (if p1 = 0 then (X3_readScene 0 M).bind (gU2 (fun r_8 M_9 => some (r_8, M_9))) else (if p1 = 1 then gG (gin (M.1 0 0 13) 5) ((X3_readScript (Int32.toNatClampNeg (M.1 0 0 13)) M).bind (gU2 (fun r_5 M_6 => some (r_5, M_6)))) else some ((-2), M)))
theorem k_X10_fault {G : gG5} {nf : Nat} {M : gM} {p1 : Int32} {r : Int32} {M1 : gM} (hr : X10_fault p1 M = some (r, M1)) : gMet G (gXn nf) yX10_fault cX10_fault 2 (some .int) 9 213 M [.ref (gad 0 0), .int p1] (some (.int r)) M1 := by
  refine gMet_of pl_X10 rfl (Nat.le_of_ble_eq_true rfl) (fun Ψ C CR => ?_)
  show Ψ M 0 [(0, .ref (gad 0 0)), (1, .int p1)] []
  refine r_iload_n (pc := 0) C dX10_fault_0 rfl 1 rfl ?_
  refine r_if_ne (pc := 1) (tgt := 16) C dX10_fault_1 rfl (fun c_1 => ?_) (fun c_1 => ?_)
  · replace hr := (if_neg c_1).symm.trans hr
    refine r_iload_n (pc := 16) C dX10_fault_16 rfl 1 rfl ?_
    refine r_iconst (pc := 17) C dX10_fault_17 ki1 ?_
    refine r_icmp_ne (pc := 18) (tgt := 38) C dX10_fault_18 rfl (fun c_2 => ?_) (fun c_2 => ?_)
    · replace hr := (if_neg c_2).symm.trans hr
      refine r_bipush (pc := 38) C dX10_fault_38 kbm2 ?_
      exact r_iret (pc := 40) CR dX10_fault_40 (congrArg (fun z => some (Value.int z)) (Prod.mk.inj (gSome hr)).1) (Prod.mk.inj (gSome hr)).2
    · replace hr := (if_pos c_2).symm.trans hr
      refine r_aload_n (pc := 21) C dX10_fault_21 rfl 0 rfl ?_
      refine g0_1 (pc := 22) C dX10_fault_22 q535 (e0 nf) ?_
      refine r_aload_n (pc := 25) C dX10_fault_25 rfl 0 rfl ?_
      refine g0_10 (pc := 26) C dX10_fault_26 q544 (e0 nf) ?_
      refine r_aload_n (pc := 29) C dX10_fault_29 rfl 0 rfl ?_
      refine g0_13 (pc := 30) C dX10_fault_30 q547 (e0 nf) ?_
      obtain ⟨g_3, hr⟩ := gG_some hr
      refine a45 (pc := 33) C dX10_fault_33 g_3 ?_
      obtain ⟨⟨r_5, M_6⟩, hc_4, hr⟩ := gBind_some hr
      replace hr := gU2_some hr
      refine c_X3_readScript (pc := 34) C dX10_fault_34 q705 ⟨Nat.le_of_ble_eq_true rfl, Nat.le_of_ble_eq_true rfl⟩ (gin_lt g_3) hc_4 (Nat.le_of_ble_eq_true rfl) ?_
      exact r_iret (pc := 37) CR dX10_fault_37 (congrArg (fun z => some (Value.int z)) (Prod.mk.inj (gSome hr)).1) (Prod.mk.inj (gSome hr)).2
  · replace hr := (if_pos c_1).symm.trans hr
    refine r_aload_n (pc := 4) C dX10_fault_4 rfl 0 rfl ?_
    refine g0_1 (pc := 5) C dX10_fault_5 q535 (e0 nf) ?_
    refine r_aload_n (pc := 8) C dX10_fault_8 rfl 0 rfl ?_
    refine g0_2 (pc := 9) C dX10_fault_9 q536 (e0 nf) ?_
    obtain ⟨⟨r_8, M_9⟩, hc_7, hr⟩ := gBind_some hr
    replace hr := gU2_some hr
    refine c_X3_readScene (pc := 12) C dX10_fault_12 q602 ⟨Nat.le_of_ble_eq_true rfl, Nat.le_of_ble_eq_true rfl⟩ (by decide) hc_7 (Nat.le_of_ble_eq_true rfl) ?_
    exact r_iret (pc := 15) CR dX10_fault_15 (congrArg (fun z => some (Value.int z)) (Prod.mk.inj (gSome hr)).1) (Prod.mk.inj (gSome hr)).2
theorem c_X10_fault {Ψ : gM → Nat → List (Nat × Value) → List Value → Prop} {G : gG5} {nf : Nat} {cc : ByteArray} {own : String} {nL : Nat} {ret : Option FieldType} {fr lo : Nat} {v0 : Option Value} {M0 M : gM} {pc index : Nat} {ls : List (Nat × Value)} {st : List Value} (C : gC Ψ G (gXn nf) cc own nL ret fr lo v0 M0) (d : decode cc pc = .ok (.invokevirtual index, 3)) (hl : Cond.methodLink own index yX10_fault ∈ gws) (hR : 10 ≤ fr ∧ 234 ≤ lo) {p1 : Int32} {r : Int32} {M1 : gM} (hr : X10_fault p1 M = some (r, M1)) (hcat : (st.map fun v => v.category).sum ≤ 8) (k : Ψ M1 (pc + 3) ls (.int r :: st)) : Ψ M pc ls (.int p1 :: .ref (gad 0 0) :: st) := r_callV C [.int p1] st d (k_X10_fault hr) hl q599 q600 q116 q601 hd_X10_fault hR rfl (by decide) (e0 nf) rfl hcat k
theorem hd_X4_copyFrom : yX4_copyFrom.cls ≠ "java/lang/invoke/MethodHandle" ∧ yX4_copyFrom.cls ≠ "java/lang/invoke/VarHandle" ∧ (parseMethodDescriptor yX4_copyFrom.desc).map (fun d => d.parameters.length) = some 1 := by decide +kernel
noncomputable def X4_copyFrom (i0 : Nat) (i1 : Nat) (M : gM) : Option gM := gLet (wI M 5 i0 0 (M.1 5 i1 0)) (fun M_1 => gLet (wI M_1 5 i0 1 (M_1.1 5 i1 1)) (fun M_2 => gLet (wI M_2 5 i0 2 (M_2.1 5 i1 2)) (fun M_3 => gLet (wI M_3 5 i0 3 (M_3.1 5 i1 3)) (fun M_4 => gLet (wI M_4 5 i0 4 (M_4.1 5 i1 4)) (fun M_5 => gLet (wI M_5 5 i0 5 (M_5.1 5 i1 5)) (fun M_6 => gLet (cpI M_6 6 i1 6 i0 4) (fun M_7 => gLet (cpI M_7 7 i1 7 i0 10) (fun M_8 => gLet (cpI M_8 8 i1 8 i0 10) (fun M_9 => gLet (cpI M_9 9 i1 9 i0 10) (fun M_10 => gLet (cpI M_10 10 i1 10 i0 30) (fun M_11 => gLet (cpI M_11 11 i1 11 i0 60) (fun M_12 => some M_12))))))))))))
theorem k_X4_copyFrom {G : gG5} {nf : Nat} {M : gM} {i0 : Nat} {i1 : Nat} (h0 : i0 < 2) (h1 : i1 < 2) {M1 : gM} (hr : X4_copyFrom i0 i1 M = some M1) : gMet G (gXn nf) yX4_copyFrom cX4_copyFrom 2 none 2 64 M [.ref (gad 5 i0), .ref (gad 5 i1)] none M1 := by
  refine gMet_of pl_X4 rfl (Nat.le_of_ble_eq_true rfl) (fun Ψ C CR => ?_)
  show Ψ M 0 [(0, .ref (gad 5 i0)), (1, .ref (gad 5 i1))] []
  refine r_aload_n (pc := 0) C dX4_copyFrom_0 rfl 0 rfl ?_
  refine r_aload_n (pc := 1) C dX4_copyFrom_1 rfl 1 rfl ?_
  refine g5_0 (pc := 2) C dX4_copyFrom_2 q195 (e5 (nf := nf) h1) ?_
  obtain ⟨M_1, eM_1, hr⟩ := gLet_some hr
  refine p5_0 (pc := 5) C dX4_copyFrom_5 q195 (e5 (nf := nf) h0) eM_1 ?_
  refine r_aload_n (pc := 8) C dX4_copyFrom_8 rfl 0 rfl ?_
  refine r_aload_n (pc := 9) C dX4_copyFrom_9 rfl 1 rfl ?_
  refine g5_1 (pc := 10) C dX4_copyFrom_10 q198 (e5 (nf := nf) h1) ?_
  obtain ⟨M_2, eM_2, hr⟩ := gLet_some hr
  refine p5_1 (pc := 13) C dX4_copyFrom_13 q198 (e5 (nf := nf) h0) eM_2 ?_
  refine r_aload_n (pc := 16) C dX4_copyFrom_16 rfl 0 rfl ?_
  refine r_aload_n (pc := 17) C dX4_copyFrom_17 rfl 1 rfl ?_
  refine g5_2 (pc := 18) C dX4_copyFrom_18 q201 (e5 (nf := nf) h1) ?_
  obtain ⟨M_3, eM_3, hr⟩ := gLet_some hr
  refine p5_2 (pc := 21) C dX4_copyFrom_21 q201 (e5 (nf := nf) h0) eM_3 ?_
  refine r_aload_n (pc := 24) C dX4_copyFrom_24 rfl 0 rfl ?_
  refine r_aload_n (pc := 25) C dX4_copyFrom_25 rfl 1 rfl ?_
  refine g5_3 (pc := 26) C dX4_copyFrom_26 q204 (e5 (nf := nf) h1) ?_
  obtain ⟨M_4, eM_4, hr⟩ := gLet_some hr
  refine p5_3 (pc := 29) C dX4_copyFrom_29 q204 (e5 (nf := nf) h0) eM_4 ?_
  refine r_aload_n (pc := 32) C dX4_copyFrom_32 rfl 0 rfl ?_
  refine r_aload_n (pc := 33) C dX4_copyFrom_33 rfl 1 rfl ?_
  refine g5_4 (pc := 34) C dX4_copyFrom_34 q208 (e5 (nf := nf) h1) ?_
  obtain ⟨M_5, eM_5, hr⟩ := gLet_some hr
  refine p5_4 (pc := 37) C dX4_copyFrom_37 q208 (e5 (nf := nf) h0) eM_5 ?_
  refine r_aload_n (pc := 40) C dX4_copyFrom_40 rfl 0 rfl ?_
  refine r_aload_n (pc := 41) C dX4_copyFrom_41 rfl 1 rfl ?_
  refine g5_5 (pc := 42) C dX4_copyFrom_42 q212 (e5 (nf := nf) h1) ?_
  obtain ⟨M_6, eM_6, hr⟩ := gLet_some hr
  refine p5_5 (pc := 45) C dX4_copyFrom_45 q212 (e5 (nf := nf) h0) eM_6 ?_
  refine r_aload_n (pc := 48) C dX4_copyFrom_48 rfl 1 rfl ?_
  refine g5_6 (pc := 49) C dX4_copyFrom_49 q217 (e5 (nf := nf) h1) ?_
  refine r_iconst (pc := 52) C dX4_copyFrom_52 ki0 ?_
  refine r_aload_n (pc := 53) C dX4_copyFrom_53 rfl 0 rfl ?_
  refine g5_6 (pc := 54) C dX4_copyFrom_54 q217 (e5 (nf := nf) h0) ?_
  refine r_iconst (pc := 57) C dX4_copyFrom_57 ki0 ?_
  refine r_aload_n (pc := 58) C dX4_copyFrom_58 rfl 0 rfl ?_
  refine g5_6 (pc := 59) C dX4_copyFrom_59 q217 (e5 (nf := nf) h0) ?_
  refine r_alen (pc := 62) (n := 4) C dX4_copyFrom_62 (by decide) (e6 (nf := nf) h0) rfl ?_
  obtain ⟨M_7, eM_7, hr⟩ := gLet_some hr
  refine r_copyI (pc := 63) (n := 4) C dX4_copyFrom_63 q733 rfl rfl (e6 (nf := nf) h1) (e6 (nf := nf) h0) ⟨rfl, rfl, by decide, by decide⟩ ⟨Nat.le_of_ble_eq_true rfl, Nat.le_of_ble_eq_true rfl⟩ eM_7 (by decide) (Nat.le_of_ble_eq_true rfl) ?_
  refine r_aload_n (pc := 66) C dX4_copyFrom_66 rfl 1 rfl ?_
  refine g5_7 (pc := 67) C dX4_copyFrom_67 q219 (e5 (nf := nf) h1) ?_
  refine r_iconst (pc := 70) C dX4_copyFrom_70 ki0 ?_
  refine r_aload_n (pc := 71) C dX4_copyFrom_71 rfl 0 rfl ?_
  refine g5_7 (pc := 72) C dX4_copyFrom_72 q219 (e5 (nf := nf) h0) ?_
  refine r_iconst (pc := 75) C dX4_copyFrom_75 ki0 ?_
  refine r_aload_n (pc := 76) C dX4_copyFrom_76 rfl 0 rfl ?_
  refine g5_7 (pc := 77) C dX4_copyFrom_77 q219 (e5 (nf := nf) h0) ?_
  refine r_alen (pc := 80) (n := 10) C dX4_copyFrom_80 (by decide) (e7 (nf := nf) h0) rfl ?_
  obtain ⟨M_8, eM_8, hr⟩ := gLet_some hr
  refine r_copyI (pc := 81) (n := 10) C dX4_copyFrom_81 q733 rfl rfl (e7 (nf := nf) h1) (e7 (nf := nf) h0) ⟨rfl, rfl, by decide, by decide⟩ ⟨Nat.le_of_ble_eq_true rfl, Nat.le_of_ble_eq_true rfl⟩ eM_8 (by decide) (Nat.le_of_ble_eq_true rfl) ?_
  refine r_aload_n (pc := 84) C dX4_copyFrom_84 rfl 1 rfl ?_
  refine g5_8 (pc := 85) C dX4_copyFrom_85 q222 (e5 (nf := nf) h1) ?_
  refine r_iconst (pc := 88) C dX4_copyFrom_88 ki0 ?_
  refine r_aload_n (pc := 89) C dX4_copyFrom_89 rfl 0 rfl ?_
  refine g5_8 (pc := 90) C dX4_copyFrom_90 q222 (e5 (nf := nf) h0) ?_
  refine r_iconst (pc := 93) C dX4_copyFrom_93 ki0 ?_
  refine r_aload_n (pc := 94) C dX4_copyFrom_94 rfl 0 rfl ?_
  refine g5_8 (pc := 95) C dX4_copyFrom_95 q222 (e5 (nf := nf) h0) ?_
  refine r_alen (pc := 98) (n := 10) C dX4_copyFrom_98 (by decide) (e8 (nf := nf) h0) rfl ?_
  obtain ⟨M_9, eM_9, hr⟩ := gLet_some hr
  refine r_copyI (pc := 99) (n := 10) C dX4_copyFrom_99 q733 rfl rfl (e8 (nf := nf) h1) (e8 (nf := nf) h0) ⟨rfl, rfl, by decide, by decide⟩ ⟨Nat.le_of_ble_eq_true rfl, Nat.le_of_ble_eq_true rfl⟩ eM_9 (by decide) (Nat.le_of_ble_eq_true rfl) ?_
  refine r_aload_n (pc := 102) C dX4_copyFrom_102 rfl 1 rfl ?_
  refine g5_9 (pc := 103) C dX4_copyFrom_103 q225 (e5 (nf := nf) h1) ?_
  refine r_iconst (pc := 106) C dX4_copyFrom_106 ki0 ?_
  refine r_aload_n (pc := 107) C dX4_copyFrom_107 rfl 0 rfl ?_
  refine g5_9 (pc := 108) C dX4_copyFrom_108 q225 (e5 (nf := nf) h0) ?_
  refine r_iconst (pc := 111) C dX4_copyFrom_111 ki0 ?_
  refine r_aload_n (pc := 112) C dX4_copyFrom_112 rfl 0 rfl ?_
  refine g5_9 (pc := 113) C dX4_copyFrom_113 q225 (e5 (nf := nf) h0) ?_
  refine r_alen (pc := 116) (n := 10) C dX4_copyFrom_116 (by decide) (e9 (nf := nf) h0) rfl ?_
  obtain ⟨M_10, eM_10, hr⟩ := gLet_some hr
  refine r_copyI (pc := 117) (n := 10) C dX4_copyFrom_117 q733 rfl rfl (e9 (nf := nf) h1) (e9 (nf := nf) h0) ⟨rfl, rfl, by decide, by decide⟩ ⟨Nat.le_of_ble_eq_true rfl, Nat.le_of_ble_eq_true rfl⟩ eM_10 (by decide) (Nat.le_of_ble_eq_true rfl) ?_
  refine r_aload_n (pc := 120) C dX4_copyFrom_120 rfl 1 rfl ?_
  refine g5_10 (pc := 121) C dX4_copyFrom_121 q229 (e5 (nf := nf) h1) ?_
  refine r_iconst (pc := 124) C dX4_copyFrom_124 ki0 ?_
  refine r_aload_n (pc := 125) C dX4_copyFrom_125 rfl 0 rfl ?_
  refine g5_10 (pc := 126) C dX4_copyFrom_126 q229 (e5 (nf := nf) h0) ?_
  refine r_iconst (pc := 129) C dX4_copyFrom_129 ki0 ?_
  refine r_aload_n (pc := 130) C dX4_copyFrom_130 rfl 0 rfl ?_
  refine g5_10 (pc := 131) C dX4_copyFrom_131 q229 (e5 (nf := nf) h0) ?_
  refine r_alen (pc := 134) (n := 30) C dX4_copyFrom_134 (by decide) (e10 (nf := nf) h0) rfl ?_
  obtain ⟨M_11, eM_11, hr⟩ := gLet_some hr
  refine r_copyI (pc := 135) (n := 30) C dX4_copyFrom_135 q733 rfl rfl (e10 (nf := nf) h1) (e10 (nf := nf) h0) ⟨rfl, rfl, by decide, by decide⟩ ⟨Nat.le_of_ble_eq_true rfl, Nat.le_of_ble_eq_true rfl⟩ eM_11 (by decide) (Nat.le_of_ble_eq_true rfl) ?_
  refine r_aload_n (pc := 138) C dX4_copyFrom_138 rfl 1 rfl ?_
  refine g5_11 (pc := 139) C dX4_copyFrom_139 q232 (e5 (nf := nf) h1) ?_
  refine r_iconst (pc := 142) C dX4_copyFrom_142 ki0 ?_
  refine r_aload_n (pc := 143) C dX4_copyFrom_143 rfl 0 rfl ?_
  refine g5_11 (pc := 144) C dX4_copyFrom_144 q232 (e5 (nf := nf) h0) ?_
  refine r_iconst (pc := 147) C dX4_copyFrom_147 ki0 ?_
  refine r_aload_n (pc := 148) C dX4_copyFrom_148 rfl 0 rfl ?_
  refine g5_11 (pc := 149) C dX4_copyFrom_149 q232 (e5 (nf := nf) h0) ?_
  refine r_alen (pc := 152) (n := 60) C dX4_copyFrom_152 (by decide) (e11 (nf := nf) h0) rfl ?_
  obtain ⟨M_12, eM_12, hr⟩ := gLet_some hr
  refine r_copyI (pc := 153) (n := 60) C dX4_copyFrom_153 q733 rfl rfl (e11 (nf := nf) h1) (e11 (nf := nf) h0) ⟨rfl, rfl, by decide, by decide⟩ ⟨Nat.le_of_ble_eq_true rfl, Nat.le_of_ble_eq_true rfl⟩ eM_12 (by decide) (Nat.le_of_ble_eq_true rfl) ?_
  exact r_vret (pc := 156) CR dX4_copyFrom_156 rfl (gSome hr)
theorem c_X4_copyFrom {Ψ : gM → Nat → List (Nat × Value) → List Value → Prop} {G : gG5} {nf : Nat} {cc : ByteArray} {own : String} {nL : Nat} {ret : Option FieldType} {fr lo : Nat} {v0 : Option Value} {M0 M : gM} {pc index : Nat} {ls : List (Nat × Value)} {st : List Value} (C : gC Ψ G (gXn nf) cc own nL ret fr lo v0 M0) (d : decode cc pc = .ok (.invokevirtual index, 3)) (hl : Cond.methodLink own index yX4_copyFrom ∈ gws) (hR : 3 ≤ fr ∧ 85 ≤ lo) {i0 : Nat} {i1 : Nat} (h0 : i0 < 2) (h1 : i1 < 2) {M1 : gM} (hr : X4_copyFrom i0 i1 M = some M1) (hcat : (st.map fun v => v.category).sum ≤ 8) (k : Ψ M1 (pc + 3) ls (st)) : Ψ M pc ls (.ref (gad 5 i1) :: .ref (gad 5 i0) :: st) := r_callV C [.ref (gad 5 i1)] st d (k_X4_copyFrom h0 h1 hr) hl q730 q731 q119 q732 hd_X4_copyFrom hR rfl (by decide) (e5 (nf := nf) h0) rfl hcat k
theorem hd_X1_topOf : yX1_topOf.cls ≠ "java/lang/invoke/MethodHandle" ∧ yX1_topOf.cls ≠ "java/lang/invoke/VarHandle" ∧ (parseMethodDescriptor yX1_topOf.desc).map (fun d => d.parameters.length) = some 1 := by decide +kernel
noncomputable def X1_topOf (p1 : Int32) (M : gM) : Option Int32 := (if (M.1 12 0 4) ≤ 0 then some 0 else gG (decide (¬ (M.1 12 0 4) = 0)) (some ((p1 / (M.1 12 0 4)) * (M.1 12 0 2))))
theorem k_X1_topOf {G : gG5} {nf : Nat} {M : gM} {p1 : Int32} {r : Int32} (hr : X1_topOf p1 M = some r) : gMet G (gXn nf) yX1_topOf cX1_topOf 2 (some .int) 0 0 M [.ref (gad 12 0), .int p1] (some (.int r)) M := by
  refine gMet_of pl_X1 rfl (Nat.le_of_ble_eq_true rfl) (fun Ψ C CR => ?_)
  show Ψ M 0 [(0, .ref (gad 12 0)), (1, .int p1)] []
  refine r_aload_n (pc := 0) C dX1_topOf_0 rfl 0 rfl ?_
  refine g12_4 (pc := 1) C dX1_topOf_1 q270 (e12 nf) ?_
  refine r_if_le (pc := 4) (tgt := 21) C dX1_topOf_4 rfl (fun c_1 => ?_) (fun c_1 => ?_)
  · replace hr := (if_pos c_1).symm.trans hr
    refine r_iconst (pc := 21) C dX1_topOf_21 ki0 ?_
    exact r_iret (pc := 22) CR dX1_topOf_22 (congrArg (fun z => some (Value.int z)) (gSome hr)) rfl
  · replace hr := (if_neg c_1).symm.trans hr
    refine r_iload_n (pc := 7) C dX1_topOf_7 rfl 1 rfl ?_
    refine r_aload_n (pc := 8) C dX1_topOf_8 rfl 0 rfl ?_
    refine g12_4 (pc := 9) C dX1_topOf_9 q270 (e12 nf) ?_
    obtain ⟨g_2, hr⟩ := gG_some hr
    refine r_idiv (pc := 12) C dX1_topOf_12 (of_decide_eq_true g_2) ?_
    refine r_aload_n (pc := 13) C dX1_topOf_13 rfl 0 rfl ?_
    refine g12_2 (pc := 14) C dX1_topOf_14 q267 (e12 nf) ?_
    refine r_imul (pc := 17) C dX1_topOf_17 ?_
    refine r_goto (pc := 18) (tgt := 22) C dX1_topOf_18 rfl ?_
    exact r_iret (pc := 22) CR dX1_topOf_22 (congrArg (fun z => some (Value.int z)) (gSome hr)) rfl
theorem c_X1_topOf {Ψ : gM → Nat → List (Nat × Value) → List Value → Prop} {G : gG5} {nf : Nat} {cc : ByteArray} {own : String} {nL : Nat} {ret : Option FieldType} {fr lo : Nat} {v0 : Option Value} {M0 M : gM} {pc index : Nat} {ls : List (Nat × Value)} {st : List Value} (C : gC Ψ G (gXn nf) cc own nL ret fr lo v0 M0) (d : decode cc pc = .ok (.invokevirtual index, 3)) (hl : Cond.methodLink own index yX1_topOf ∈ gws) (hR : 1 ≤ fr ∧ 21 ≤ lo) {p1 : Int32} {r : Int32} (hr : X1_topOf p1 M = some r) (hcat : (st.map fun v => v.category).sum ≤ 8) (k : Ψ M (pc + 3) ls (.int r :: st)) : Ψ M pc ls (.int p1 :: .ref (gad 12 0) :: st) := r_callV C [.int p1] st d (k_X1_topOf hr) hl q744 q745 q120 q746 hd_X1_topOf hR rfl (by decide) (e12 nf) rfl hcat k
theorem hd_X1_bottomOf : yX1_bottomOf.cls ≠ "java/lang/invoke/MethodHandle" ∧ yX1_bottomOf.cls ≠ "java/lang/invoke/VarHandle" ∧ (parseMethodDescriptor yX1_bottomOf.desc).map (fun d => d.parameters.length) = some 1 := by decide +kernel
noncomputable def X1_bottomOf (p1 : Int32) (M : gM) : Option Int32 := (X1_topOf p1 M).bind (fun r_2 => some (gmin (r_2 + (M.1 12 0 2)) (M.1 12 0 1)))
theorem k_X1_bottomOf {G : gG5} {nf : Nat} {M : gM} {p1 : Int32} {r : Int32} (hr : X1_bottomOf p1 M = some r) : gMet G (gXn nf) yX1_bottomOf cX1_bottomOf 2 (some .int) 1 21 M [.ref (gad 12 0), .int p1] (some (.int r)) M := by
  refine gMet_of pl_X1 rfl (Nat.le_of_ble_eq_true rfl) (fun Ψ C CR => ?_)
  show Ψ M 0 [(0, .ref (gad 12 0)), (1, .int p1)] []
  refine r_aload_n (pc := 0) C dX1_bottomOf_0 rfl 0 rfl ?_
  refine r_iload_n (pc := 1) C dX1_bottomOf_1 rfl 1 rfl ?_
  obtain ⟨r_2, hc_1, hr⟩ := gBind_some hr
  refine c_X1_topOf (pc := 2) C dX1_bottomOf_2 q743 ⟨Nat.le_of_ble_eq_true rfl, Nat.le_of_ble_eq_true rfl⟩ hc_1 (Nat.le_of_ble_eq_true rfl) ?_
  refine r_aload_n (pc := 5) C dX1_bottomOf_5 rfl 0 rfl ?_
  refine g12_2 (pc := 6) C dX1_bottomOf_6 q267 (e12 nf) ?_
  refine r_iadd (pc := 9) C dX1_bottomOf_9 ?_
  refine r_aload_n (pc := 10) C dX1_bottomOf_10 rfl 0 rfl ?_
  refine g12_1 (pc := 11) C dX1_bottomOf_11 q266 (e12 nf) ?_
  refine r_min (pc := 14) C dX1_bottomOf_14 q751 (by decide) (Nat.le_of_ble_eq_true rfl) ?_
  exact r_iret (pc := 17) CR dX1_bottomOf_17 (congrArg (fun z => some (Value.int z)) (gSome hr)) rfl
theorem c_X1_bottomOf {Ψ : gM → Nat → List (Nat × Value) → List Value → Prop} {G : gG5} {nf : Nat} {cc : ByteArray} {own : String} {nL : Nat} {ret : Option FieldType} {fr lo : Nat} {v0 : Option Value} {M0 M : gM} {pc index : Nat} {ls : List (Nat × Value)} {st : List Value} (C : gC Ψ G (gXn nf) cc own nL ret fr lo v0 M0) (d : decode cc pc = .ok (.invokevirtual index, 3)) (hl : Cond.methodLink own index yX1_bottomOf ∈ gws) (hR : 2 ≤ fr ∧ 42 ≤ lo) {p1 : Int32} {r : Int32} (hr : X1_bottomOf p1 M = some r) (hcat : (st.map fun v => v.category).sum ≤ 8) (k : Ψ M (pc + 3) ls (.int r :: st)) : Ψ M pc ls (.int p1 :: .ref (gad 12 0) :: st) := r_callV C [.int p1] st d (k_X1_bottomOf hr) hl q748 q749 q120 q750 hd_X1_bottomOf hR rfl (by decide) (e12 nf) rfl hcat k
theorem hd_X1_leftOf : yX1_leftOf.cls ≠ "java/lang/invoke/MethodHandle" ∧ yX1_leftOf.cls ≠ "java/lang/invoke/VarHandle" ∧ (parseMethodDescriptor yX1_leftOf.desc).map (fun d => d.parameters.length) = some 1 := by decide +kernel
noncomputable def X1_leftOf (p1 : Int32) (M : gM) : Option Int32 := (if (M.1 12 0 4) ≤ 0 then some 0 else gG (decide (¬ (M.1 12 0 4) = 0)) (some ((gRem p1 (M.1 12 0 4)) * (M.1 12 0 2))))
theorem k_X1_leftOf {G : gG5} {nf : Nat} {M : gM} {p1 : Int32} {r : Int32} (hr : X1_leftOf p1 M = some r) : gMet G (gXn nf) yX1_leftOf cX1_leftOf 2 (some .int) 0 0 M [.ref (gad 12 0), .int p1] (some (.int r)) M := by
  refine gMet_of pl_X1 rfl (Nat.le_of_ble_eq_true rfl) (fun Ψ C CR => ?_)
  show Ψ M 0 [(0, .ref (gad 12 0)), (1, .int p1)] []
  refine r_aload_n (pc := 0) C dX1_leftOf_0 rfl 0 rfl ?_
  refine g12_4 (pc := 1) C dX1_leftOf_1 q270 (e12 nf) ?_
  refine r_if_le (pc := 4) (tgt := 21) C dX1_leftOf_4 rfl (fun c_1 => ?_) (fun c_1 => ?_)
  · replace hr := (if_pos c_1).symm.trans hr
    refine r_iconst (pc := 21) C dX1_leftOf_21 ki0 ?_
    exact r_iret (pc := 22) CR dX1_leftOf_22 (congrArg (fun z => some (Value.int z)) (gSome hr)) rfl
  · replace hr := (if_neg c_1).symm.trans hr
    refine r_iload_n (pc := 7) C dX1_leftOf_7 rfl 1 rfl ?_
    refine r_aload_n (pc := 8) C dX1_leftOf_8 rfl 0 rfl ?_
    refine g12_4 (pc := 9) C dX1_leftOf_9 q270 (e12 nf) ?_
    obtain ⟨g_2, hr⟩ := gG_some hr
    refine r_irem (pc := 12) C dX1_leftOf_12 (of_decide_eq_true g_2) ?_
    refine r_aload_n (pc := 13) C dX1_leftOf_13 rfl 0 rfl ?_
    refine g12_2 (pc := 14) C dX1_leftOf_14 q267 (e12 nf) ?_
    refine r_imul (pc := 17) C dX1_leftOf_17 ?_
    refine r_goto (pc := 18) (tgt := 22) C dX1_leftOf_18 rfl ?_
    exact r_iret (pc := 22) CR dX1_leftOf_22 (congrArg (fun z => some (Value.int z)) (gSome hr)) rfl
theorem c_X1_leftOf {Ψ : gM → Nat → List (Nat × Value) → List Value → Prop} {G : gG5} {nf : Nat} {cc : ByteArray} {own : String} {nL : Nat} {ret : Option FieldType} {fr lo : Nat} {v0 : Option Value} {M0 M : gM} {pc index : Nat} {ls : List (Nat × Value)} {st : List Value} (C : gC Ψ G (gXn nf) cc own nL ret fr lo v0 M0) (d : decode cc pc = .ok (.invokevirtual index, 3)) (hl : Cond.methodLink own index yX1_leftOf ∈ gws) (hR : 1 ≤ fr ∧ 21 ≤ lo) {p1 : Int32} {r : Int32} (hr : X1_leftOf p1 M = some r) (hcat : (st.map fun v => v.category).sum ≤ 8) (k : Ψ M (pc + 3) ls (.int r :: st)) : Ψ M pc ls (.int p1 :: .ref (gad 12 0) :: st) := r_callV C [.int p1] st d (k_X1_leftOf hr) hl q753 q754 q120 q755 hd_X1_leftOf hR rfl (by decide) (e12 nf) rfl hcat k
theorem hd_X1_rightOf : yX1_rightOf.cls ≠ "java/lang/invoke/MethodHandle" ∧ yX1_rightOf.cls ≠ "java/lang/invoke/VarHandle" ∧ (parseMethodDescriptor yX1_rightOf.desc).map (fun d => d.parameters.length) = some 1 := by decide +kernel
noncomputable def X1_rightOf (p1 : Int32) (M : gM) : Option Int32 := (X1_leftOf p1 M).bind (fun r_2 => some (gmin (r_2 + (M.1 12 0 2)) (M.1 12 0 0)))
theorem k_X1_rightOf {G : gG5} {nf : Nat} {M : gM} {p1 : Int32} {r : Int32} (hr : X1_rightOf p1 M = some r) : gMet G (gXn nf) yX1_rightOf cX1_rightOf 2 (some .int) 1 21 M [.ref (gad 12 0), .int p1] (some (.int r)) M := by
  refine gMet_of pl_X1 rfl (Nat.le_of_ble_eq_true rfl) (fun Ψ C CR => ?_)
  show Ψ M 0 [(0, .ref (gad 12 0)), (1, .int p1)] []
  refine r_aload_n (pc := 0) C dX1_rightOf_0 rfl 0 rfl ?_
  refine r_iload_n (pc := 1) C dX1_rightOf_1 rfl 1 rfl ?_
  obtain ⟨r_2, hc_1, hr⟩ := gBind_some hr
  refine c_X1_leftOf (pc := 2) C dX1_rightOf_2 q752 ⟨Nat.le_of_ble_eq_true rfl, Nat.le_of_ble_eq_true rfl⟩ hc_1 (Nat.le_of_ble_eq_true rfl) ?_
  refine r_aload_n (pc := 5) C dX1_rightOf_5 rfl 0 rfl ?_
  refine g12_2 (pc := 6) C dX1_rightOf_6 q267 (e12 nf) ?_
  refine r_iadd (pc := 9) C dX1_rightOf_9 ?_
  refine r_aload_n (pc := 10) C dX1_rightOf_10 rfl 0 rfl ?_
  refine g12_0 (pc := 11) C dX1_rightOf_11 q265 (e12 nf) ?_
  refine r_min (pc := 14) C dX1_rightOf_14 q751 (by decide) (Nat.le_of_ble_eq_true rfl) ?_
  exact r_iret (pc := 17) CR dX1_rightOf_17 (congrArg (fun z => some (Value.int z)) (gSome hr)) rfl
theorem c_X1_rightOf {Ψ : gM → Nat → List (Nat × Value) → List Value → Prop} {G : gG5} {nf : Nat} {cc : ByteArray} {own : String} {nL : Nat} {ret : Option FieldType} {fr lo : Nat} {v0 : Option Value} {M0 M : gM} {pc index : Nat} {ls : List (Nat × Value)} {st : List Value} (C : gC Ψ G (gXn nf) cc own nL ret fr lo v0 M0) (d : decode cc pc = .ok (.invokevirtual index, 3)) (hl : Cond.methodLink own index yX1_rightOf ∈ gws) (hR : 2 ≤ fr ∧ 42 ≤ lo) {p1 : Int32} {r : Int32} (hr : X1_rightOf p1 M = some r) (hcat : (st.map fun v => v.category).sum ≤ 8) (k : Ψ M (pc + 3) ls (.int r :: st)) : Ψ M pc ls (.int p1 :: .ref (gad 12 0) :: st) := r_callV C [.int p1] st d (k_X1_rightOf hr) hl q757 q758 q120 q759 hd_X1_rightOf hR rfl (by decide) (e12 nf) rfl hcat k
theorem hd_X1_placeOf : yX1_placeOf.cls ≠ "java/lang/invoke/MethodHandle" ∧ yX1_placeOf.cls ≠ "java/lang/invoke/VarHandle" ∧ (parseMethodDescriptor yX1_placeOf.desc).map (fun d => d.parameters.length) = some 2 := by decide +kernel
noncomputable def X1_placeOf (p0 : Int32) (p1 : Int32) (M : gM) : Option Int32 := some (((p1 * 8) + p0) * 4)
theorem k_X1_placeOf {G : gG5} {nf : Nat} {M : gM} {p0 : Int32} {p1 : Int32} {r : Int32} (hr : X1_placeOf p0 p1 M = some r) : gMet G (gXn nf) yX1_placeOf cX1_placeOf 2 (some .int) 0 0 M [.int p0, .int p1] (some (.int r)) M := by
  refine gMet_of pl_X1 rfl (Nat.le_of_ble_eq_true rfl) (fun Ψ C CR => ?_)
  show Ψ M 0 [(0, .int p0), (1, .int p1)] []
  refine r_iload_n (pc := 0) C dX1_placeOf_0 rfl 1 rfl ?_
  refine r_bipush (pc := 1) C dX1_placeOf_1 kb8 ?_
  refine r_imul (pc := 3) C dX1_placeOf_3 ?_
  refine r_iload_n (pc := 4) C dX1_placeOf_4 rfl 0 rfl ?_
  refine r_iadd (pc := 5) C dX1_placeOf_5 ?_
  refine r_iconst (pc := 6) C dX1_placeOf_6 ki4 ?_
  refine r_imul (pc := 7) C dX1_placeOf_7 ?_
  exact r_iret (pc := 8) CR dX1_placeOf_8 (congrArg (fun z => some (Value.int z)) (gSome hr)) rfl
theorem c_X1_placeOf {Ψ : gM → Nat → List (Nat × Value) → List Value → Prop} {G : gG5} {nf : Nat} {cc : ByteArray} {own : String} {nL : Nat} {ret : Option FieldType} {fr lo : Nat} {v0 : Option Value} {M0 M : gM} {pc index : Nat} {ls : List (Nat × Value)} {st : List Value} (C : gC Ψ G (gXn nf) cc own nL ret fr lo v0 M0) (d : decode cc pc = .ok (.invokestatic index, 3)) (hl : Cond.methodLink own index yX1_placeOf ∈ gws) (hR : 1 ≤ fr ∧ 21 ≤ lo) {p0 : Int32} {p1 : Int32} {r : Int32} (hr : X1_placeOf p0 p1 M = some r) (hcat : (st.map fun v => v.category).sum ≤ 8) (k : Ψ M (pc + 3) ls (.int r :: st)) : Ψ M pc ls (.int p1 :: .int p0 :: st) := r_callS C [.int p0, .int p1] st d (k_X1_placeOf hr) hl q765 q120 q766 hd_X1_placeOf hR rfl hcat k
theorem hd_X1_layOutPixel : yX1_layOutPixel.cls ≠ "java/lang/invoke/MethodHandle" ∧ yX1_layOutPixel.cls ≠ "java/lang/invoke/VarHandle" ∧ (parseMethodDescriptor yX1_layOutPixel.desc).map (fun d => d.parameters.length) = some 2 := by decide +kernel
noncomputable def X1_layOutPixel_L2 (x1 : Int32) (x2 : Int32) (x3 : Int32) (M : gM) : Option ((Int32 × gM) ⊕ gM) := (if (M.1 12 0 3) ≤ x3 then some (.inr M) else (if 256 ≤ (M.1 12 0 6) then some (.inr M) else (X1_placeOf x1 x2 M).bind (fun r_4 => gLet ((r_4 + x3)) (fun x4_5 => gG (gin (M.1 12 0 6) 256) (gLet (wI M 13 0 (Int32.toNatClampNeg (M.1 12 0 6)) x4_5) (fun M_7 => gG (gin (((M_7.1 12 0 3) - 1) + x3) 7) (gG (gin x4_5 256) (gLet (wI M_7 15 0 (Int32.toNatClampNeg x4_5) ((x1 * 8) + (gSv 6 (Int32.toNatClampNeg (((M_7.1 12 0 3) - 1) + x3))))) (fun M_10 => gG (gin (((M_10.1 12 0 3) - 1) + x3) 7) (gG (gin x4_5 256) (gLet (wI M_10 16 0 (Int32.toNatClampNeg x4_5) ((x2 * 8) + (gSv 7 (Int32.toNatClampNeg (((M_10.1 12 0 3) - 1) + x3))))) (fun M_13 => gLet (wI M_13 12 0 6 ((M_13.1 12 0 6) + 1)) (fun M_14 => gLet (x3 + 1) (fun x3_15 => some (.inl (x3_15, M_14))))))))))))))))
theorem t_X1_layOutPixel_L2 {Ψ : gM → Nat → List (Nat × Value) → List Value → Prop} {G : gG5} {nf : Nat} {M : gM} {v0 : Option Value} {M0 : gM} {x1 : Int32} {x2 : Int32} {x3 : Int32} {w : ((Int32 × gM) ⊕ gM)} (C : gC Ψ G (gXn nf) cX1_layOutPixel RX1 5 none 1 21 v0 M0) (hr : X1_layOutPixel_L2 x1 x2 x3 M = some w) (hn : ∀ s, w = .inl s → Ψ s.2 2 [(0, .ref (gad 12 0)), (1, .int x1), (2, .int x2), (3, .int (s.1))] []) (hx : ∀ e, w = .inr e → (fun e => Ψ e 104 [] []) e) : Ψ M 2 [(0, .ref (gad 12 0)), (1, .int x1), (2, .int x2), (3, .int x3)] [] := by
  refine r_iload_n (pc := 2) C dX1_layOutPixel_2 rfl 3 rfl ?_
  refine r_aload_n (pc := 3) C dX1_layOutPixel_3 rfl 0 rfl ?_
  refine g12_3 (pc := 4) C dX1_layOutPixel_4 q268 (e12 nf) ?_
  refine r_icmp_ge (pc := 7) (tgt := 104) C dX1_layOutPixel_7 rfl (fun c_1 => ?_) (fun c_1 => ?_)
  · replace hr := (if_pos c_1).symm.trans hr
    refine r_sub C [] (ls' := []) rfl ?_
    exact hx M (gSome hr)
  · replace hr := (if_neg c_1).symm.trans hr
    refine r_aload_n (pc := 10) C dX1_layOutPixel_10 rfl 0 rfl ?_
    refine g12_6 (pc := 11) C dX1_layOutPixel_11 q276 (e12 nf) ?_
    refine r_sipush (pc := 14) C dX1_layOutPixel_14 ks256 ?_
    refine r_icmp_ge (pc := 17) (tgt := 104) C dX1_layOutPixel_17 rfl (fun c_2 => ?_) (fun c_2 => ?_)
    · replace hr := (if_pos c_2).symm.trans hr
      refine r_sub C [] (ls' := []) rfl ?_
      exact hx M (gSome hr)
    · replace hr := (if_neg c_2).symm.trans hr
      refine r_iload_n (pc := 20) C dX1_layOutPixel_20 rfl 1 rfl ?_
      refine r_iload_n (pc := 21) C dX1_layOutPixel_21 rfl 2 rfl ?_
      obtain ⟨r_4, hc_3, hr⟩ := gBind_some hr
      refine c_X1_placeOf (pc := 22) C dX1_layOutPixel_22 q764 ⟨Nat.le_of_ble_eq_true rfl, Nat.le_of_ble_eq_true rfl⟩ hc_3 (Nat.le_of_ble_eq_true rfl) ?_
      refine r_iload_n (pc := 25) C dX1_layOutPixel_25 rfl 3 rfl ?_
      refine r_iadd (pc := 26) C dX1_layOutPixel_26 ?_
      obtain ⟨x4_5, ex4_5, hr⟩ := gLet_some hr
      refine r_istore (pc := 27) C dX1_layOutPixel_27 (by decide) ex4_5 (ls' := [(4, .int x4_5), (0, .ref (gad 12 0)), (1, .int x1), (2, .int x2), (3, .int x3)]) rfl ?_
      refine r_aload_n (pc := 29) C dX1_layOutPixel_29 rfl 1 rfl ?_
      refine g12_7 (pc := 30) C dX1_layOutPixel_30 q279 (e12 nf) ?_
      refine r_aload_n (pc := 33) C dX1_layOutPixel_33 rfl 1 rfl ?_
      refine g12_6 (pc := 34) C dX1_layOutPixel_34 q276 (e12 nf) ?_
      refine r_iload (pc := 37) C dX1_layOutPixel_37 0 rfl ?_
      obtain ⟨g_6, hr⟩ := gG_some hr
      obtain ⟨M_7, eM_7, hr⟩ := gLet_some hr
      refine r_iastN (pc := 39) C dX1_layOutPixel_39 rfl (e13 nf) g_6 rfl eM_7 ?_
      refine r_aload_n (pc := 40) C dX1_layOutPixel_40 rfl 1 rfl ?_
      refine g12_9 (pc := 41) C dX1_layOutPixel_41 q285 (e12 nf) ?_
      refine r_iload (pc := 44) C dX1_layOutPixel_44 0 rfl ?_
      refine r_iload_n (pc := 46) C dX1_layOutPixel_46 rfl 2 rfl ?_
      refine r_bipush (pc := 47) C dX1_layOutPixel_47 kb8 ?_
      refine r_imul (pc := 49) C dX1_layOutPixel_49 ?_
      refine r_gets (pc := 50) (j := 6) C dX1_layOutPixel_50 (by decide) q767 ?_
      refine r_aload_n (pc := 53) C dX1_layOutPixel_53 rfl 1 rfl ?_
      refine g12_3 (pc := 54) C dX1_layOutPixel_54 q268 (e12 nf) ?_
      refine r_iconst (pc := 57) C dX1_layOutPixel_57 ki1 ?_
      refine r_isub (pc := 58) C dX1_layOutPixel_58 ?_
      refine r_iload_n (pc := 59) C dX1_layOutPixel_59 rfl 4 rfl ?_
      refine r_iadd (pc := 60) C dX1_layOutPixel_60 ?_
      obtain ⟨g_8, hr⟩ := gG_some hr
      refine r_saldN (pc := 61) C dX1_layOutPixel_61 (by decide) g_8 rfl ?_
      refine r_iadd (pc := 62) C dX1_layOutPixel_62 ?_
      obtain ⟨g_9, hr⟩ := gG_some hr
      obtain ⟨M_10, eM_10, hr⟩ := gLet_some hr
      refine r_iastN (pc := 63) C dX1_layOutPixel_63 rfl (e15 nf) g_9 rfl eM_10 ?_
      refine r_aload_n (pc := 64) C dX1_layOutPixel_64 rfl 1 rfl ?_
      refine g12_10 (pc := 65) C dX1_layOutPixel_65 q288 (e12 nf) ?_
      refine r_iload (pc := 68) C dX1_layOutPixel_68 0 rfl ?_
      refine r_iload_n (pc := 70) C dX1_layOutPixel_70 rfl 3 rfl ?_
      refine r_bipush (pc := 71) C dX1_layOutPixel_71 kb8 ?_
      refine r_imul (pc := 73) C dX1_layOutPixel_73 ?_
      refine r_gets (pc := 74) (j := 7) C dX1_layOutPixel_74 (by decide) q769 ?_
      refine r_aload_n (pc := 77) C dX1_layOutPixel_77 rfl 1 rfl ?_
      refine g12_3 (pc := 78) C dX1_layOutPixel_78 q268 (e12 nf) ?_
      refine r_iconst (pc := 81) C dX1_layOutPixel_81 ki1 ?_
      refine r_isub (pc := 82) C dX1_layOutPixel_82 ?_
      refine r_iload_n (pc := 83) C dX1_layOutPixel_83 rfl 4 rfl ?_
      refine r_iadd (pc := 84) C dX1_layOutPixel_84 ?_
      obtain ⟨g_11, hr⟩ := gG_some hr
      refine r_saldN (pc := 85) C dX1_layOutPixel_85 (by decide) g_11 rfl ?_
      refine r_iadd (pc := 86) C dX1_layOutPixel_86 ?_
      obtain ⟨g_12, hr⟩ := gG_some hr
      obtain ⟨M_13, eM_13, hr⟩ := gLet_some hr
      refine r_iastN (pc := 87) C dX1_layOutPixel_87 rfl (e16 nf) g_12 rfl eM_13 ?_
      refine r_aload_n (pc := 88) C dX1_layOutPixel_88 rfl 1 rfl ?_
      refine r_dup (pc := 89) C dX1_layOutPixel_89 rfl ?_
      refine g12_6 (pc := 90) C dX1_layOutPixel_90 q276 (e12 nf) ?_
      refine r_iconst (pc := 93) C dX1_layOutPixel_93 ki1 ?_
      refine r_iadd (pc := 94) C dX1_layOutPixel_94 ?_
      obtain ⟨M_14, eM_14, hr⟩ := gLet_some hr
      refine p12_6 (pc := 95) C dX1_layOutPixel_95 q276 (e12 nf) eM_14 ?_
      obtain ⟨x3_15, ex3_15, hr⟩ := gLet_some hr
      refine r_iinc (pc := 98) C dX1_layOutPixel_98 4 rfl rfl (by decide) ex3_15 (ls' := [(3, .int x3_15), (4, .int x4_5), (0, .ref (gad 12 0)), (1, .int x1), (2, .int x2)]) rfl ?_
      refine r_goto (pc := 101) (tgt := 2) C dX1_layOutPixel_101 rfl ?_
      refine r_sub C [2, 3, 4, 0] (ls' := [(0, .ref (gad 12 0)), (1, .int x1), (2, .int x2), (3, .int x3_15)]) rfl ?_
      exact hn (x3_15, M_14) (gSome hr)
noncomputable def X1_layOutPixel (p1 : Int32) (p2 : Int32) (M : gM) : Option gM := (gIter (fun s => X1_layOutPixel_L2 p1 p2 s.1 s.2) FU (0, M)).bind (fun M_16 => some M_16)
theorem k_X1_layOutPixel {G : gG5} {nf : Nat} {M : gM} {p1 : Int32} {p2 : Int32} {M1 : gM} (hr : X1_layOutPixel p1 p2 M = some M1) : gMet G (gXn nf) yX1_layOutPixel cX1_layOutPixel 5 none 1 21 M [.ref (gad 12 0), .int p1, .int p2] none M1 := by
  refine gMet_of pl_X1 rfl (Nat.le_of_ble_eq_true rfl) (fun Ψ C CR => ?_)
  show Ψ M 0 [(0, .ref (gad 12 0)), (1, .int p1), (2, .int p2)] []
  refine r_iconst (pc := 0) C dX1_layOutPixel_0 ki0 ?_
  refine r_istore_n (pc := 1) C dX1_layOutPixel_1 rfl (by decide) rfl (ls' := [(3, .int 0), (0, .ref (gad 12 0)), (1, .int p1), (2, .int p2)]) rfl ?_
  refine r_sub C [1, 2, 3, 0] (ls' := [(0, .ref (gad 12 0)), (1, .int p1), (2, .int p2), (3, .int 0)]) rfl ?_
  obtain ⟨ev, hit, hr⟩ := gBind_some hr
  refine gIter_V (step := fun s => X1_layOutPixel_L2 p1 p2 s.1 s.2) (P := fun s => Ψ s.2 2 [(0, .ref (gad 12 0)), (1, .int p1), (2, .int p2), (3, .int (s.1))] []) (K := (fun e => Ψ e 104 [] [])) (fun s w hs hn hx => t_X1_layOutPixel_L2 C  hs hn hx) FU (0, M) ev hit ?_
  obtain ⟨M_16, rfl⟩ : ∃ z, z = ev := ⟨_, rfl⟩
  show Ψ M_16 104 [] []
  exact r_vret (pc := 104) CR dX1_layOutPixel_104 rfl (gSome hr)
theorem c_X1_layOutPixel {Ψ : gM → Nat → List (Nat × Value) → List Value → Prop} {G : gG5} {nf : Nat} {cc : ByteArray} {own : String} {nL : Nat} {ret : Option FieldType} {fr lo : Nat} {v0 : Option Value} {M0 M : gM} {pc index : Nat} {ls : List (Nat × Value)} {st : List Value} (C : gC Ψ G (gXn nf) cc own nL ret fr lo v0 M0) (d : decode cc pc = .ok (.invokevirtual index, 3)) (hl : Cond.methodLink own index yX1_layOutPixel ∈ gws) (hR : 2 ≤ fr ∧ 45 ≤ lo) {p1 : Int32} {p2 : Int32} {M1 : gM} (hr : X1_layOutPixel p1 p2 M = some M1) (hcat : (st.map fun v => v.category).sum ≤ 8) (k : Ψ M1 (pc + 3) ls (st)) : Ψ M pc ls (.int p2 :: .int p1 :: .ref (gad 12 0) :: st) := r_callV C [.int p1, .int p2] st d (k_X1_layOutPixel hr) hl q762 q9 q120 q763 hd_X1_layOutPixel hR rfl (by decide) (e12 nf) rfl hcat k
theorem hd_X1_layOut : yX1_layOut.cls ≠ "java/lang/invoke/MethodHandle" ∧ yX1_layOut.cls ≠ "java/lang/invoke/VarHandle" ∧ (parseMethodDescriptor yX1_layOut.desc).map (fun d => d.parameters.length) = some 1 := by decide +kernel
noncomputable def X1_layOut_L128 (x2 : Int32) (x3 : Int32) (x4 : Int32) (M : gM) : Option ((Int32 × gM) ⊕ gM) := (X1_rightOf x2 M).bind (fun r_21 => (if r_21 ≤ x4 then some (.inr M) else (X1_layOutPixel x4 x3 M).bind (fun M_24 => gLet (x4 + 1) (fun x4_25 => some (.inl (x4_25, M_24))))))
theorem t_X1_layOut_L128 {Ψ : gM → Nat → List (Nat × Value) → List Value → Prop} {G : gG5} {nf : Nat} {M : gM} {v0 : Option Value} {M0 : gM} {x2 : Int32} {x3 : Int32} {x4 : Int32} {w : ((Int32 × gM) ⊕ gM)} (C : gC Ψ G (gXn nf) cX1_layOut RX1 5 none 2 45 v0 M0) (hr : X1_layOut_L128 x2 x3 x4 M = some w) (hn : ∀ s, w = .inl s → Ψ s.2 128 [(0, .ref (gad 12 0)), (2, .int x2), (3, .int x3), (4, .int (s.1))] []) (hx : ∀ e, w = .inr e → (fun e => Ψ e 151 [(0, .ref (gad 12 0)), (2, .int x2), (3, .int x3)] []) e) : Ψ M 128 [(0, .ref (gad 12 0)), (2, .int x2), (3, .int x3), (4, .int x4)] [] := by
  refine r_iload (pc := 128) C dX1_layOut_128 3 rfl ?_
  refine r_aload_n (pc := 130) C dX1_layOut_130 rfl 0 rfl ?_
  refine r_iload_n (pc := 131) C dX1_layOut_131 rfl 1 rfl ?_
  obtain ⟨r_21, hc_20, hr⟩ := gBind_some hr
  refine c_X1_rightOf (pc := 132) C dX1_layOut_132 q756 ⟨Nat.le_of_ble_eq_true rfl, Nat.le_of_ble_eq_true rfl⟩ hc_20 (Nat.le_of_ble_eq_true rfl) ?_
  refine r_icmp_ge (pc := 135) (tgt := 151) C dX1_layOut_135 rfl (fun c_22 => ?_) (fun c_22 => ?_)
  · replace hr := (if_pos c_22).symm.trans hr
    refine r_sub C [0, 1, 2] (ls' := [(0, .ref (gad 12 0)), (2, .int x2), (3, .int x3)]) rfl ?_
    exact hx M (gSome hr)
  · replace hr := (if_neg c_22).symm.trans hr
    refine r_aload_n (pc := 138) C dX1_layOut_138 rfl 0 rfl ?_
    refine r_iload (pc := 139) C dX1_layOut_139 3 rfl ?_
    refine r_iload_n (pc := 141) C dX1_layOut_141 rfl 2 rfl ?_
    obtain ⟨M_24, hc_23, hr⟩ := gBind_some hr
    refine c_X1_layOutPixel (pc := 142) C dX1_layOut_142 q760 ⟨Nat.le_of_ble_eq_true rfl, Nat.le_of_ble_eq_true rfl⟩ hc_23 (Nat.le_of_ble_eq_true rfl) ?_
    obtain ⟨x4_25, ex4_25, hr⟩ := gLet_some hr
    refine r_iinc (pc := 145) C dX1_layOut_145 3 rfl rfl (by decide) ex4_25 (ls' := [(4, .int x4_25), (0, .ref (gad 12 0)), (2, .int x2), (3, .int x3)]) rfl ?_
    refine r_goto (pc := 148) (tgt := 128) C dX1_layOut_148 rfl ?_
    refine r_sub C [1, 2, 3, 0] (ls' := [(0, .ref (gad 12 0)), (2, .int x2), (3, .int x3), (4, .int x4_25)]) rfl ?_
    exact hn (x4_25, M_24) (gSome hr)
noncomputable def X1_layOut_L112 (x2 : Int32) (x3 : Int32) (M : gM) : Option ((Int32 × gM) ⊕ gM) := (X1_bottomOf x2 M).bind (fun r_16 => (if r_16 ≤ x3 then some (.inr M) else (X1_leftOf x2 M).bind (fun r_19 => (gIter (fun s => X1_layOut_L128 x2 x3 s.1 s.2) FU (r_19, M)).bind (fun M_26 => gLet (x3 + 1) (fun x3_27 => some (.inl (x3_27, M_26)))))))
theorem t_X1_layOut_L112 {Ψ : gM → Nat → List (Nat × Value) → List Value → Prop} {G : gG5} {nf : Nat} {M : gM} {v0 : Option Value} {M0 : gM} {x2 : Int32} {x3 : Int32} {w : ((Int32 × gM) ⊕ gM)} (C : gC Ψ G (gXn nf) cX1_layOut RX1 5 none 2 45 v0 M0) (hr : X1_layOut_L112 x2 x3 M = some w) (hn : ∀ s, w = .inl s → Ψ s.2 112 [(0, .ref (gad 12 0)), (2, .int x2), (3, .int (s.1))] []) (hx : ∀ e, w = .inr e → (fun e => Ψ e 157 [(0, .ref (gad 12 0)), (2, .int x2)] []) e) : Ψ M 112 [(0, .ref (gad 12 0)), (2, .int x2), (3, .int x3)] [] := by
  refine r_iload_n (pc := 112) C dX1_layOut_112 rfl 2 rfl ?_
  refine r_aload_n (pc := 113) C dX1_layOut_113 rfl 0 rfl ?_
  refine r_iload_n (pc := 114) C dX1_layOut_114 rfl 1 rfl ?_
  obtain ⟨r_16, hc_15, hr⟩ := gBind_some hr
  refine c_X1_bottomOf (pc := 115) C dX1_layOut_115 q747 ⟨Nat.le_of_ble_eq_true rfl, Nat.le_of_ble_eq_true rfl⟩ hc_15 (Nat.le_of_ble_eq_true rfl) ?_
  refine r_icmp_ge (pc := 118) (tgt := 157) C dX1_layOut_118 rfl (fun c_17 => ?_) (fun c_17 => ?_)
  · replace hr := (if_pos c_17).symm.trans hr
    refine r_sub C [0, 1] (ls' := [(0, .ref (gad 12 0)), (2, .int x2)]) rfl ?_
    exact hx M (gSome hr)
  · replace hr := (if_neg c_17).symm.trans hr
    refine r_aload_n (pc := 121) C dX1_layOut_121 rfl 0 rfl ?_
    refine r_iload_n (pc := 122) C dX1_layOut_122 rfl 1 rfl ?_
    obtain ⟨r_19, hc_18, hr⟩ := gBind_some hr
    refine c_X1_leftOf (pc := 123) C dX1_layOut_123 q752 ⟨Nat.le_of_ble_eq_true rfl, Nat.le_of_ble_eq_true rfl⟩ hc_18 (Nat.le_of_ble_eq_true rfl) ?_
    refine r_istore (pc := 126) C dX1_layOut_126 (by decide) rfl (ls' := [(4, .int r_19), (0, .ref (gad 12 0)), (2, .int x2), (3, .int x3)]) rfl ?_
    refine r_sub C [1, 2, 3, 0] (ls' := [(0, .ref (gad 12 0)), (2, .int x2), (3, .int x3), (4, .int r_19)]) rfl ?_
    obtain ⟨ev, hit, hr⟩ := gBind_some hr
    refine gIter_V (step := fun s => X1_layOut_L128 x2 x3 s.1 s.2) (P := fun s => Ψ s.2 128 [(0, .ref (gad 12 0)), (2, .int x2), (3, .int x3), (4, .int (s.1))] []) (K := (fun e => Ψ e 151 [(0, .ref (gad 12 0)), (2, .int x2), (3, .int x3)] [])) (fun s w hs hn hx => t_X1_layOut_L128 C  hs hn hx) FU (r_19, M) ev hit ?_
    obtain ⟨M_26, rfl⟩ : ∃ z, z = ev := ⟨_, rfl⟩
    show Ψ M_26 151 [(0, .ref (gad 12 0)), (2, .int x2), (3, .int x3)] []
    obtain ⟨x3_27, ex3_27, hr⟩ := gLet_some hr
    refine r_iinc (pc := 151) C dX1_layOut_151 2 rfl rfl (by decide) ex3_27 (ls' := [(3, .int x3_27), (0, .ref (gad 12 0)), (2, .int x2)]) rfl ?_
    refine r_goto (pc := 154) (tgt := 112) C dX1_layOut_154 rfl ?_
    refine r_sub C [1, 2, 0] (ls' := [(0, .ref (gad 12 0)), (2, .int x2), (3, .int x3_27)]) rfl ?_
    exact hn (x3_27, M_26) (gSome hr)
noncomputable def X1_layOut_L88 (x2 : Int32) (M : gM) : Option ((Int32 × gM) ⊕ gM) := (if (M.1 12 0 5) ≤ x2 then some (.inr M) else gG (gin x2 17) (gLet (wI M 14 0 (Int32.toNatClampNeg x2) (M.1 12 0 6)) (fun M_12 => (X1_topOf x2 M_12).bind (fun r_14 => (gIter (fun s => X1_layOut_L112 x2 s.1 s.2) FU (r_14, M_12)).bind (fun M_28 => gLet (x2 + 1) (fun x2_29 => some (.inl (x2_29, M_28))))))))
theorem t_X1_layOut_L88 {Ψ : gM → Nat → List (Nat × Value) → List Value → Prop} {G : gG5} {nf : Nat} {M : gM} {v0 : Option Value} {M0 : gM} {x2 : Int32} {w : ((Int32 × gM) ⊕ gM)} (C : gC Ψ G (gXn nf) cX1_layOut RX1 5 none 2 45 v0 M0) (hr : X1_layOut_L88 x2 M = some w) (hn : ∀ s, w = .inl s → Ψ s.2 88 [(0, .ref (gad 12 0)), (2, .int (s.1))] []) (hx : ∀ e, w = .inr e → (fun e => Ψ e 163 [(0, .ref (gad 12 0))] []) e) : Ψ M 88 [(0, .ref (gad 12 0)), (2, .int x2)] [] := by
  refine r_iload_n (pc := 88) C dX1_layOut_88 rfl 1 rfl ?_
  refine r_aload_n (pc := 89) C dX1_layOut_89 rfl 0 rfl ?_
  refine g12_5 (pc := 90) C dX1_layOut_90 q271 (e12 nf) ?_
  refine r_icmp_ge (pc := 93) (tgt := 163) C dX1_layOut_93 rfl (fun c_10 => ?_) (fun c_10 => ?_)
  · replace hr := (if_pos c_10).symm.trans hr
    refine r_sub C [0] (ls' := [(0, .ref (gad 12 0))]) rfl ?_
    exact hx M (gSome hr)
  · replace hr := (if_neg c_10).symm.trans hr
    refine r_aload_n (pc := 96) C dX1_layOut_96 rfl 0 rfl ?_
    refine g12_8 (pc := 97) C dX1_layOut_97 q283 (e12 nf) ?_
    refine r_iload_n (pc := 100) C dX1_layOut_100 rfl 1 rfl ?_
    refine r_aload_n (pc := 101) C dX1_layOut_101 rfl 0 rfl ?_
    refine g12_6 (pc := 102) C dX1_layOut_102 q276 (e12 nf) ?_
    obtain ⟨g_11, hr⟩ := gG_some hr
    obtain ⟨M_12, eM_12, hr⟩ := gLet_some hr
    refine r_iastN (pc := 105) C dX1_layOut_105 rfl (e14 nf) g_11 rfl eM_12 ?_
    refine r_aload_n (pc := 106) C dX1_layOut_106 rfl 0 rfl ?_
    refine r_iload_n (pc := 107) C dX1_layOut_107 rfl 1 rfl ?_
    obtain ⟨r_14, hc_13, hr⟩ := gBind_some hr
    refine c_X1_topOf (pc := 108) C dX1_layOut_108 q743 ⟨Nat.le_of_ble_eq_true rfl, Nat.le_of_ble_eq_true rfl⟩ hc_13 (Nat.le_of_ble_eq_true rfl) ?_
    refine r_istore_n (pc := 111) C dX1_layOut_111 rfl (by decide) rfl (ls' := [(3, .int r_14), (0, .ref (gad 12 0)), (2, .int x2)]) rfl ?_
    refine r_sub C [1, 2, 0] (ls' := [(0, .ref (gad 12 0)), (2, .int x2), (3, .int r_14)]) rfl ?_
    obtain ⟨ev, hit, hr⟩ := gBind_some hr
    refine gIter_V (step := fun s => X1_layOut_L112 x2 s.1 s.2) (P := fun s => Ψ s.2 112 [(0, .ref (gad 12 0)), (2, .int x2), (3, .int (s.1))] []) (K := (fun e => Ψ e 157 [(0, .ref (gad 12 0)), (2, .int x2)] [])) (fun s w hs hn hx => t_X1_layOut_L112 C  hs hn hx) FU (r_14, M_12) ev hit ?_
    obtain ⟨M_28, rfl⟩ : ∃ z, z = ev := ⟨_, rfl⟩
    show Ψ M_28 157 [(0, .ref (gad 12 0)), (2, .int x2)] []
    obtain ⟨x2_29, ex2_29, hr⟩ := gLet_some hr
    refine r_iinc (pc := 157) C dX1_layOut_157 1 rfl rfl (by decide) ex2_29 (ls' := [(2, .int x2_29), (0, .ref (gad 12 0))]) rfl ?_
    refine r_goto (pc := 160) (tgt := 88) C dX1_layOut_160 rfl ?_
    refine r_sub C [1, 0] (ls' := [(0, .ref (gad 12 0)), (2, .int x2_29)]) rfl ?_
    exact hn (x2_29, M_28) (gSome hr)
noncomputable def X1_layOut (i1 : Nat) (M : gM) : Option gM := gLet (wI M 12 0 0 (M.1 5 i1 0)) (fun M_1 => gLet (wI M_1 12 0 1 (M_1.1 5 i1 1)) (fun M_2 => gLet (wI M_2 12 0 2 (gmax (M_2.1 5 i1 2) 2)) (fun M_3 => gLet (wI M_3 12 0 3 (M_3.1 5 i1 3)) (fun M_4 => gG (decide (¬ (M_4.1 12 0 2) = 0)) (gLet (wI M_4 12 0 4 ((((M_4.1 12 0 0) + (M_4.1 12 0 2)) - 1) / (M_4.1 12 0 2))) (fun M_6 => gG (decide (¬ (M_6.1 12 0 2) = 0)) (gLet (wI M_6 12 0 5 ((M_6.1 12 0 4) * ((((M_6.1 12 0 1) + (M_6.1 12 0 2)) - 1) / (M_6.1 12 0 2)))) (fun M_8 => gLet (wI M_8 12 0 6 0) (fun M_9 => (gIter (fun s => X1_layOut_L88 s.1 s.2) FU (0, M_9)).bind (fun M_30 => gG (gin (M_30.1 12 0 5) 17) (gLet (wI M_30 14 0 (Int32.toNatClampNeg (M_30.1 12 0 5)) (M_30.1 12 0 6)) (fun M_32 => some M_32))))))))))))
theorem k_X1_layOut {G : gG5} {nf : Nat} {M : gM} {i1 : Nat} (h1 : i1 < 2) {M1 : gM} (hr : X1_layOut i1 M = some M1) : gMet G (gXn nf) yX1_layOut cX1_layOut 5 none 2 45 M [.ref (gad 12 0), .ref (gad 5 i1)] none M1 := by
  refine gMet_of pl_X1 rfl (Nat.le_of_ble_eq_true rfl) (fun Ψ C CR => ?_)
  show Ψ M 0 [(0, .ref (gad 12 0)), (1, .ref (gad 5 i1))] []
  refine r_aload_n (pc := 0) C dX1_layOut_0 rfl 0 rfl ?_
  refine r_aload_n (pc := 1) C dX1_layOut_1 rfl 1 rfl ?_
  refine g5_0 (pc := 2) C dX1_layOut_2 q196 (e5 (nf := nf) h1) ?_
  obtain ⟨M_1, eM_1, hr⟩ := gLet_some hr
  refine p12_0 (pc := 5) C dX1_layOut_5 q265 (e12 nf) eM_1 ?_
  refine r_aload_n (pc := 8) C dX1_layOut_8 rfl 0 rfl ?_
  refine r_aload_n (pc := 9) C dX1_layOut_9 rfl 1 rfl ?_
  refine g5_1 (pc := 10) C dX1_layOut_10 q199 (e5 (nf := nf) h1) ?_
  obtain ⟨M_2, eM_2, hr⟩ := gLet_some hr
  refine p12_1 (pc := 13) C dX1_layOut_13 q266 (e12 nf) eM_2 ?_
  refine r_aload_n (pc := 16) C dX1_layOut_16 rfl 0 rfl ?_
  refine r_aload_n (pc := 17) C dX1_layOut_17 rfl 1 rfl ?_
  refine g5_2 (pc := 18) C dX1_layOut_18 q202 (e5 (nf := nf) h1) ?_
  refine r_iconst (pc := 21) C dX1_layOut_21 ki2 ?_
  refine r_max (pc := 22) C dX1_layOut_22 q740 (by decide) (Nat.le_of_ble_eq_true rfl) ?_
  obtain ⟨M_3, eM_3, hr⟩ := gLet_some hr
  refine p12_2 (pc := 25) C dX1_layOut_25 q267 (e12 nf) eM_3 ?_
  refine r_aload_n (pc := 28) C dX1_layOut_28 rfl 0 rfl ?_
  refine r_aload_n (pc := 29) C dX1_layOut_29 rfl 1 rfl ?_
  refine g5_3 (pc := 30) C dX1_layOut_30 q205 (e5 (nf := nf) h1) ?_
  obtain ⟨M_4, eM_4, hr⟩ := gLet_some hr
  refine p12_3 (pc := 33) C dX1_layOut_33 q268 (e12 nf) eM_4 ?_
  refine r_aload_n (pc := 36) C dX1_layOut_36 rfl 0 rfl ?_
  refine r_aload_n (pc := 37) C dX1_layOut_37 rfl 0 rfl ?_
  refine g12_0 (pc := 38) C dX1_layOut_38 q265 (e12 nf) ?_
  refine r_aload_n (pc := 41) C dX1_layOut_41 rfl 0 rfl ?_
  refine g12_2 (pc := 42) C dX1_layOut_42 q267 (e12 nf) ?_
  refine r_iadd (pc := 45) C dX1_layOut_45 ?_
  refine r_iconst (pc := 46) C dX1_layOut_46 ki1 ?_
  refine r_isub (pc := 47) C dX1_layOut_47 ?_
  refine r_aload_n (pc := 48) C dX1_layOut_48 rfl 0 rfl ?_
  refine g12_2 (pc := 49) C dX1_layOut_49 q267 (e12 nf) ?_
  obtain ⟨g_5, hr⟩ := gG_some hr
  refine r_idiv (pc := 52) C dX1_layOut_52 (of_decide_eq_true g_5) ?_
  obtain ⟨M_6, eM_6, hr⟩ := gLet_some hr
  refine p12_4 (pc := 53) C dX1_layOut_53 q270 (e12 nf) eM_6 ?_
  refine r_aload_n (pc := 56) C dX1_layOut_56 rfl 0 rfl ?_
  refine r_aload_n (pc := 57) C dX1_layOut_57 rfl 0 rfl ?_
  refine g12_4 (pc := 58) C dX1_layOut_58 q270 (e12 nf) ?_
  refine r_aload_n (pc := 61) C dX1_layOut_61 rfl 0 rfl ?_
  refine g12_1 (pc := 62) C dX1_layOut_62 q266 (e12 nf) ?_
  refine r_aload_n (pc := 65) C dX1_layOut_65 rfl 0 rfl ?_
  refine g12_2 (pc := 66) C dX1_layOut_66 q267 (e12 nf) ?_
  refine r_iadd (pc := 69) C dX1_layOut_69 ?_
  refine r_iconst (pc := 70) C dX1_layOut_70 ki1 ?_
  refine r_isub (pc := 71) C dX1_layOut_71 ?_
  refine r_aload_n (pc := 72) C dX1_layOut_72 rfl 0 rfl ?_
  refine g12_2 (pc := 73) C dX1_layOut_73 q267 (e12 nf) ?_
  obtain ⟨g_7, hr⟩ := gG_some hr
  refine r_idiv (pc := 76) C dX1_layOut_76 (of_decide_eq_true g_7) ?_
  refine r_imul (pc := 77) C dX1_layOut_77 ?_
  obtain ⟨M_8, eM_8, hr⟩ := gLet_some hr
  refine p12_5 (pc := 78) C dX1_layOut_78 q271 (e12 nf) eM_8 ?_
  refine r_aload_n (pc := 81) C dX1_layOut_81 rfl 0 rfl ?_
  refine r_iconst (pc := 82) C dX1_layOut_82 ki0 ?_
  obtain ⟨M_9, eM_9, hr⟩ := gLet_some hr
  refine p12_6 (pc := 83) C dX1_layOut_83 q276 (e12 nf) eM_9 ?_
  refine r_iconst (pc := 86) C dX1_layOut_86 ki0 ?_
  refine r_istore_n (pc := 87) C dX1_layOut_87 rfl (by decide) rfl (ls' := [(2, .int 0), (0, .ref (gad 12 0)), (1, .ref (gad 5 i1))]) rfl ?_
  refine r_sub C [1, 0] (ls' := [(0, .ref (gad 12 0)), (2, .int 0)]) rfl ?_
  obtain ⟨ev, hit, hr⟩ := gBind_some hr
  refine gIter_V (step := fun s => X1_layOut_L88 s.1 s.2) (P := fun s => Ψ s.2 88 [(0, .ref (gad 12 0)), (2, .int (s.1))] []) (K := (fun e => Ψ e 163 [(0, .ref (gad 12 0))] [])) (fun s w hs hn hx => t_X1_layOut_L88 C  hs hn hx) FU (0, M_9) ev hit ?_
  obtain ⟨M_30, rfl⟩ : ∃ z, z = ev := ⟨_, rfl⟩
  show Ψ M_30 163 [(0, .ref (gad 12 0))] []
  refine r_aload_n (pc := 163) C dX1_layOut_163 rfl 0 rfl ?_
  refine g12_8 (pc := 164) C dX1_layOut_164 q283 (e12 nf) ?_
  refine r_aload_n (pc := 167) C dX1_layOut_167 rfl 0 rfl ?_
  refine g12_5 (pc := 168) C dX1_layOut_168 q271 (e12 nf) ?_
  refine r_aload_n (pc := 171) C dX1_layOut_171 rfl 0 rfl ?_
  refine g12_6 (pc := 172) C dX1_layOut_172 q276 (e12 nf) ?_
  obtain ⟨g_31, hr⟩ := gG_some hr
  obtain ⟨M_32, eM_32, hr⟩ := gLet_some hr
  refine r_iastN (pc := 175) C dX1_layOut_175 rfl (e14 nf) g_31 rfl eM_32 ?_
  exact r_vret (pc := 176) CR dX1_layOut_176 rfl (gSome hr)
theorem c_X1_layOut {Ψ : gM → Nat → List (Nat × Value) → List Value → Prop} {G : gG5} {nf : Nat} {cc : ByteArray} {own : String} {nL : Nat} {ret : Option FieldType} {fr lo : Nat} {v0 : Option Value} {M0 M : gM} {pc index : Nat} {ls : List (Nat × Value)} {st : List Value} (C : gC Ψ G (gXn nf) cc own nL ret fr lo v0 M0) (d : decode cc pc = .ok (.invokevirtual index, 3)) (hl : Cond.methodLink own index yX1_layOut ∈ gws) (hR : 3 ≤ fr ∧ 69 ≤ lo) {i1 : Nat} (h1 : i1 < 2) {M1 : gM} (hr : X1_layOut i1 M = some M1) (hcat : (st.map fun v => v.category).sum ≤ 8) (k : Ψ M1 (pc + 3) ls (st)) : Ψ M pc ls (.ref (gad 5 i1) :: .ref (gad 12 0) :: st) := r_callV C [.ref (gad 5 i1)] st d (k_X1_layOut h1 hr) hl q737 q738 q120 q739 hd_X1_layOut hR rfl (by decide) (e12 nf) rfl hcat k
theorem hd_X0_wipe : yX0_wipe.cls ≠ "java/lang/invoke/MethodHandle" ∧ yX0_wipe.cls ≠ "java/lang/invoke/VarHandle" ∧ (parseMethodDescriptor yX0_wipe.desc).map (fun d => d.parameters.length) = some 1 := by decide +kernel
noncomputable def X0_wipe_L4 (i0 : Nat) (x1 : Int32) (x2 : Int32) (x3 : Int32) (M : gM) : Option ((Int32 × Int32) ⊕ Int32) := (if 16 ≤ x3 then some (.inr x2) else gG (gin x3 16) (gLet ((x2 + (M.1 38 i0 (Int32.toNatClampNeg x3)))) (fun x2_3 => gLet (x3 + 1) (fun x3_4 => some (.inl (x2_3, x3_4))))))
theorem t_X0_wipe_L4 {Ψ : gM → Nat → List (Nat × Value) → List Value → Prop} {G : gG5} {nf : Nat} {M : gM} {v0 : Option Value} {M0 : gM} {i0 : Nat} {x1 : Int32} {x2 : Int32} {x3 : Int32} {w : ((Int32 × Int32) ⊕ Int32)} (C : gC Ψ G (gXn nf) cX0_wipe RX0 4 (some .int) 1 25 v0 M0) (h0 : i0 < nf + 3) (hr : X0_wipe_L4 i0 x1 x2 x3 M = some w) (hn : ∀ s, w = .inl s → Ψ M 4 [(0, .ref (gad 33 i0)), (1, .int x1), (2, .int (s.1)), (3, .int (s.2))] []) (hx : ∀ e, w = .inr e → (fun e => Ψ M 25 [(0, .ref (gad 33 i0)), (1, .int x1), (2, .int e)] []) e) : Ψ M 4 [(0, .ref (gad 33 i0)), (1, .int x1), (2, .int x2), (3, .int x3)] [] := by
  refine r_iload_n (pc := 4) C dX0_wipe_4 rfl 3 rfl ?_
  refine r_bipush (pc := 5) C dX0_wipe_5 kb16 ?_
  refine r_icmp_ge (pc := 7) (tgt := 25) C dX0_wipe_7 rfl (fun c_1 => ?_) (fun c_1 => ?_)
  · replace hr := (if_pos c_1).symm.trans hr
    refine r_sub C [0, 1, 2] (ls' := [(0, .ref (gad 33 i0)), (1, .int x1), (2, .int x2)]) rfl ?_
    exact hx x2 (gSome hr)
  · replace hr := (if_neg c_1).symm.trans hr
    refine r_iload_n (pc := 10) C dX0_wipe_10 rfl 2 rfl ?_
    refine r_aload_n (pc := 11) C dX0_wipe_11 rfl 0 rfl ?_
    refine g33_4 (pc := 12) C dX0_wipe_12 q415 (e33 (nf := nf) h0) ?_
    refine r_iload_n (pc := 15) C dX0_wipe_15 rfl 3 rfl ?_
    obtain ⟨g_2, hr⟩ := gG_some hr
    refine r_ialdN (pc := 16) C dX0_wipe_16 rfl (e38 (nf := nf) h0) g_2 rfl ?_
    refine r_iadd (pc := 17) C dX0_wipe_17 ?_
    obtain ⟨x2_3, ex2_3, hr⟩ := gLet_some hr
    refine r_istore_n (pc := 18) C dX0_wipe_18 rfl (by decide) ex2_3 (ls' := [(2, .int x2_3), (0, .ref (gad 33 i0)), (1, .int x1), (3, .int x3)]) rfl ?_
    obtain ⟨x3_4, ex3_4, hr⟩ := gLet_some hr
    refine r_iinc (pc := 19) C dX0_wipe_19 3 rfl rfl (by decide) ex3_4 (ls' := [(3, .int x3_4), (2, .int x2_3), (0, .ref (gad 33 i0)), (1, .int x1)]) rfl ?_
    refine r_goto (pc := 22) (tgt := 4) C dX0_wipe_22 rfl ?_
    refine r_sub C [2, 3, 1, 0] (ls' := [(0, .ref (gad 33 i0)), (1, .int x1), (2, .int x2_3), (3, .int x3_4)]) rfl ?_
    exact hn (x2_3, x3_4) (gSome hr)
noncomputable def X0_wipe (i0 : Nat) (p1 : Int32) (M : gM) : Option (Int32 × gM) := (gIter (fun s => X0_wipe_L4 i0 p1 s.1 s.2 M) FU (0, 0)).bind (fun x2_5 => gLet (flI M 34 i0 1000 256) (fun M_6 => gLet (flI M_6 35 i0 p1 256) (fun M_7 => gLet (flI M_7 36 i0 (-1) 256) (fun M_8 => gLet (flI M_8 38 i0 0 16) (fun M_9 => gLet (flL M_9 41 i0 0 10) (fun M_10 => gLet (wI M_10 33 i0 10 0) (fun M_11 => gLet (wI M_11 33 i0 11 0) (fun M_12 => gLet (wI M_12 33 i0 12 0) (fun M_13 => some (x2_5, M_13))))))))))
theorem k_X0_wipe {G : gG5} {nf : Nat} {M : gM} {i0 : Nat} {p1 : Int32} (h0 : i0 < nf + 3) {r : Int32} {M1 : gM} (hr : X0_wipe i0 p1 M = some (r, M1)) : gMet G (gXn nf) yX0_wipe cX0_wipe 4 (some .int) 1 25 M [.ref (gad 33 i0), .int p1] (some (.int r)) M1 := by
  refine gMet_of pl_X0 rfl (Nat.le_of_ble_eq_true rfl) (fun Ψ C CR => ?_)
  show Ψ M 0 [(0, .ref (gad 33 i0)), (1, .int p1)] []
  refine r_iconst (pc := 0) C dX0_wipe_0 ki0 ?_
  refine r_istore_n (pc := 1) C dX0_wipe_1 rfl (by decide) rfl (ls' := [(2, .int 0), (0, .ref (gad 33 i0)), (1, .int p1)]) rfl ?_
  refine r_iconst (pc := 2) C dX0_wipe_2 ki0 ?_
  refine r_istore_n (pc := 3) C dX0_wipe_3 rfl (by decide) rfl (ls' := [(3, .int 0), (2, .int 0), (0, .ref (gad 33 i0)), (1, .int p1)]) rfl ?_
  refine r_sub C [2, 3, 1, 0] (ls' := [(0, .ref (gad 33 i0)), (1, .int p1), (2, .int 0), (3, .int 0)]) rfl ?_
  obtain ⟨ev, hit, hr⟩ := gBind_some hr
  refine gIter_V (step := fun s => X0_wipe_L4 i0 p1 s.1 s.2 M) (P := fun s => Ψ M 4 [(0, .ref (gad 33 i0)), (1, .int p1), (2, .int (s.1)), (3, .int (s.2))] []) (K := (fun e => Ψ M 25 [(0, .ref (gad 33 i0)), (1, .int p1), (2, .int e)] [])) (fun s w hs hn hx => t_X0_wipe_L4 C h0 hs hn hx) FU (0, 0) ev hit ?_
  obtain ⟨x2_5, rfl⟩ : ∃ z, z = ev := ⟨_, rfl⟩
  show Ψ M 25 [(0, .ref (gad 33 i0)), (1, .int p1), (2, .int x2_5)] []
  refine r_aload_n (pc := 25) C dX0_wipe_25 rfl 0 rfl ?_
  refine g33_0 (pc := 26) C dX0_wipe_26 q400 (e33 (nf := nf) h0) ?_
  refine r_sipush (pc := 29) C dX0_wipe_29 ks1000 ?_
  obtain ⟨M_6, eM_6, hr⟩ := gLet_some hr
  refine r_fillI (pc := 32) (n := 256) C dX0_wipe_32 q779 rfl (e34 (nf := nf) h0) ⟨rfl, by decide⟩ eM_6 (by decide) (Nat.le_of_ble_eq_true rfl) ?_
  refine r_aload_n (pc := 35) C dX0_wipe_35 rfl 0 rfl ?_
  refine g33_1 (pc := 36) C dX0_wipe_36 q404 (e33 (nf := nf) h0) ?_
  refine r_iload_n (pc := 39) C dX0_wipe_39 rfl 1 rfl ?_
  obtain ⟨M_7, eM_7, hr⟩ := gLet_some hr
  refine r_fillI (pc := 40) (n := 256) C dX0_wipe_40 q779 rfl (e35 (nf := nf) h0) ⟨rfl, by decide⟩ eM_7 (by decide) (Nat.le_of_ble_eq_true rfl) ?_
  refine r_aload_n (pc := 43) C dX0_wipe_43 rfl 0 rfl ?_
  refine g33_2 (pc := 44) C dX0_wipe_44 q408 (e33 (nf := nf) h0) ?_
  refine r_iconst (pc := 47) C dX0_wipe_47 kim1 ?_
  obtain ⟨M_8, eM_8, hr⟩ := gLet_some hr
  refine r_fillI (pc := 48) (n := 256) C dX0_wipe_48 q779 rfl (e36 (nf := nf) h0) ⟨rfl, by decide⟩ eM_8 (by decide) (Nat.le_of_ble_eq_true rfl) ?_
  refine r_aload_n (pc := 51) C dX0_wipe_51 rfl 0 rfl ?_
  refine g33_4 (pc := 52) C dX0_wipe_52 q415 (e33 (nf := nf) h0) ?_
  refine r_iconst (pc := 55) C dX0_wipe_55 ki0 ?_
  obtain ⟨M_9, eM_9, hr⟩ := gLet_some hr
  refine r_fillI (pc := 56) (n := 16) C dX0_wipe_56 q779 rfl (e38 (nf := nf) h0) ⟨rfl, by decide⟩ eM_9 (by decide) (Nat.le_of_ble_eq_true rfl) ?_
  refine r_aload_n (pc := 59) C dX0_wipe_59 rfl 0 rfl ?_
  refine g33_7 (pc := 60) C dX0_wipe_60 q425 (e33 (nf := nf) h0) ?_
  refine r_lconst (pc := 63) (v := 0) C dX0_wipe_63 rfl ?_
  obtain ⟨M_10, eM_10, hr⟩ := gLet_some hr
  refine r_fillL (pc := 64) (n := 10) C dX0_wipe_64 q782 rfl (e41 (nf := nf) h0) ⟨rfl, by decide⟩ eM_10 (by decide) (Nat.le_of_ble_eq_true rfl) ?_
  refine r_aload_n (pc := 67) C dX0_wipe_67 rfl 0 rfl ?_
  refine r_iconst (pc := 68) C dX0_wipe_68 ki0 ?_
  obtain ⟨M_11, eM_11, hr⟩ := gLet_some hr
  refine p33_10 (pc := 69) C dX0_wipe_69 q431 (e33 (nf := nf) h0) eM_11 ?_
  refine r_aload_n (pc := 72) C dX0_wipe_72 rfl 0 rfl ?_
  refine r_iconst (pc := 73) C dX0_wipe_73 ki0 ?_
  obtain ⟨M_12, eM_12, hr⟩ := gLet_some hr
  refine p33_11 (pc := 74) C dX0_wipe_74 q434 (e33 (nf := nf) h0) eM_12 ?_
  refine r_aload_n (pc := 77) C dX0_wipe_77 rfl 0 rfl ?_
  refine r_iconst (pc := 78) C dX0_wipe_78 ki0 ?_
  obtain ⟨M_13, eM_13, hr⟩ := gLet_some hr
  refine p33_12 (pc := 79) C dX0_wipe_79 q437 (e33 (nf := nf) h0) eM_13 ?_
  refine r_iload_n (pc := 82) C dX0_wipe_82 rfl 2 rfl ?_
  exact r_iret (pc := 83) CR dX0_wipe_83 (congrArg (fun z => some (Value.int z)) (Prod.mk.inj (gSome hr)).1) (Prod.mk.inj (gSome hr)).2
theorem c_X0_wipe {Ψ : gM → Nat → List (Nat × Value) → List Value → Prop} {G : gG5} {nf : Nat} {cc : ByteArray} {own : String} {nL : Nat} {ret : Option FieldType} {fr lo : Nat} {v0 : Option Value} {M0 M : gM} {pc index : Nat} {ls : List (Nat × Value)} {st : List Value} (C : gC Ψ G (gXn nf) cc own nL ret fr lo v0 M0) (d : decode cc pc = .ok (.invokevirtual index, 3)) (hl : Cond.methodLink own index yX0_wipe ∈ gws) (hR : 2 ≤ fr ∧ 48 ≤ lo) {i0 : Nat} {p1 : Int32} (h0 : i0 < nf + 3) {r : Int32} {M1 : gM} (hr : X0_wipe i0 p1 M = some (r, M1)) (hcat : (st.map fun v => v.category).sum ≤ 8) (k : Ψ M1 (pc + 3) ls (.int r :: st)) : Ψ M pc ls (.int p1 :: .ref (gad 33 i0) :: st) := r_callV C [.int p1] st d (k_X0_wipe h0 hr) hl q776 q777 q124 q778 hd_X0_wipe hR rfl (by decide) (e33 (nf := nf) h0) rfl hcat k
theorem hd_X0_beginWith : yX0_beginWith.cls ≠ "java/lang/invoke/MethodHandle" ∧ yX0_beginWith.cls ≠ "java/lang/invoke/VarHandle" ∧ (parseMethodDescriptor yX0_beginWith.desc).map (fun d => d.parameters.length) = some 1 := by decide +kernel
noncomputable def X0_beginWith (i0 : Nat) (i1 : Nat) (M : gM) : Option gM := (X0_wipe i0 (M.1 5 i1 4) M).bind (gU2 (fun r_2 M_3 => gLet (cpI M_3 11 i1 39 i0 60) (fun M_4 => gLet (cpI M_4 6 i1 40 i0 4) (fun M_5 => gLet (wI M_5 33 i0 9 0) (fun M_6 => some M_6)))))
theorem k_X0_beginWith {G : gG5} {nf : Nat} {M : gM} {i0 : Nat} {i1 : Nat} (h0 : i0 < nf + 3) (h1 : i1 < 2) {M1 : gM} (hr : X0_beginWith i0 i1 M = some M1) : gMet G (gXn nf) yX0_beginWith cX0_beginWith 2 none 2 64 M [.ref (gad 33 i0), .ref (gad 5 i1)] none M1 := by
  refine gMet_of pl_X0 rfl (Nat.le_of_ble_eq_true rfl) (fun Ψ C CR => ?_)
  show Ψ M 0 [(0, .ref (gad 33 i0)), (1, .ref (gad 5 i1))] []
  refine r_aload_n (pc := 0) C dX0_beginWith_0 rfl 0 rfl ?_
  refine r_aload_n (pc := 1) C dX0_beginWith_1 rfl 1 rfl ?_
  refine g5_4 (pc := 2) C dX0_beginWith_2 q207 (e5 (nf := nf) h1) ?_
  obtain ⟨⟨r_2, M_3⟩, hc_1, hr⟩ := gBind_some hr
  replace hr := gU2_some hr
  refine c_X0_wipe (pc := 5) C dX0_beginWith_5 q775 ⟨Nat.le_of_ble_eq_true rfl, Nat.le_of_ble_eq_true rfl⟩ h0 hc_1 (Nat.le_of_ble_eq_true rfl) ?_
  refine r_pop (pc := 8) C dX0_beginWith_8 rfl ?_
  refine r_aload_n (pc := 9) C dX0_beginWith_9 rfl 1 rfl ?_
  refine g5_11 (pc := 10) C dX0_beginWith_10 q233 (e5 (nf := nf) h1) ?_
  refine r_iconst (pc := 13) C dX0_beginWith_13 ki0 ?_
  refine r_aload_n (pc := 14) C dX0_beginWith_14 rfl 0 rfl ?_
  refine g33_5 (pc := 15) C dX0_beginWith_15 q418 (e33 (nf := nf) h0) ?_
  refine r_iconst (pc := 18) C dX0_beginWith_18 ki0 ?_
  refine r_aload_n (pc := 19) C dX0_beginWith_19 rfl 0 rfl ?_
  refine g33_5 (pc := 20) C dX0_beginWith_20 q418 (e33 (nf := nf) h0) ?_
  refine r_alen (pc := 23) (n := 60) C dX0_beginWith_23 (by decide) (e39 (nf := nf) h0) rfl ?_
  obtain ⟨M_4, eM_4, hr⟩ := gLet_some hr
  refine r_copyI (pc := 24) (n := 60) C dX0_beginWith_24 q785 rfl rfl (e11 (nf := nf) h1) (e39 (nf := nf) h0) ⟨rfl, rfl, by decide, by decide⟩ ⟨Nat.le_of_ble_eq_true rfl, Nat.le_of_ble_eq_true rfl⟩ eM_4 (by decide) (Nat.le_of_ble_eq_true rfl) ?_
  refine r_aload_n (pc := 27) C dX0_beginWith_27 rfl 1 rfl ?_
  refine g5_6 (pc := 28) C dX0_beginWith_28 q218 (e5 (nf := nf) h1) ?_
  refine r_iconst (pc := 31) C dX0_beginWith_31 ki0 ?_
  refine r_aload_n (pc := 32) C dX0_beginWith_32 rfl 0 rfl ?_
  refine g33_6 (pc := 33) C dX0_beginWith_33 q421 (e33 (nf := nf) h0) ?_
  refine r_iconst (pc := 36) C dX0_beginWith_36 ki0 ?_
  refine r_aload_n (pc := 37) C dX0_beginWith_37 rfl 0 rfl ?_
  refine g33_6 (pc := 38) C dX0_beginWith_38 q421 (e33 (nf := nf) h0) ?_
  refine r_alen (pc := 41) (n := 4) C dX0_beginWith_41 (by decide) (e40 (nf := nf) h0) rfl ?_
  obtain ⟨M_5, eM_5, hr⟩ := gLet_some hr
  refine r_copyI (pc := 42) (n := 4) C dX0_beginWith_42 q785 rfl rfl (e6 (nf := nf) h1) (e40 (nf := nf) h0) ⟨rfl, rfl, by decide, by decide⟩ ⟨Nat.le_of_ble_eq_true rfl, Nat.le_of_ble_eq_true rfl⟩ eM_5 (by decide) (Nat.le_of_ble_eq_true rfl) ?_
  refine r_aload_n (pc := 45) C dX0_beginWith_45 rfl 0 rfl ?_
  refine r_iconst (pc := 46) C dX0_beginWith_46 ki0 ?_
  obtain ⟨M_6, eM_6, hr⟩ := gLet_some hr
  refine p33_9 (pc := 47) C dX0_beginWith_47 q430 (e33 (nf := nf) h0) eM_6 ?_
  exact r_vret (pc := 50) CR dX0_beginWith_50 rfl (gSome hr)
theorem c_X0_beginWith {Ψ : gM → Nat → List (Nat × Value) → List Value → Prop} {G : gG5} {nf : Nat} {cc : ByteArray} {own : String} {nL : Nat} {ret : Option FieldType} {fr lo : Nat} {v0 : Option Value} {M0 M : gM} {pc index : Nat} {ls : List (Nat × Value)} {st : List Value} (C : gC Ψ G (gXn nf) cc own nL ret fr lo v0 M0) (d : decode cc pc = .ok (.invokevirtual index, 3)) (hl : Cond.methodLink own index yX0_beginWith ∈ gws) (hR : 3 ≤ fr ∧ 85 ≤ lo) {i0 : Nat} {i1 : Nat} (h0 : i0 < nf + 3) (h1 : i1 < 2) {M1 : gM} (hr : X0_beginWith i0 i1 M = some M1) (hcat : (st.map fun v => v.category).sum ≤ 8) (k : Ψ M1 (pc + 3) ls (st)) : Ψ M pc ls (.ref (gad 5 i1) :: .ref (gad 33 i0) :: st) := r_callV C [.ref (gad 5 i1)] st d (k_X0_beginWith h0 h1 hr) hl q772 q773 q124 q774 hd_X0_beginWith hR rfl (by decide) (e33 (nf := nf) h0) rfl hcat k
theorem hd_X6_forget : yX6_forget.cls ≠ "java/lang/invoke/MethodHandle" ∧ yX6_forget.cls ≠ "java/lang/invoke/VarHandle" ∧ (parseMethodDescriptor yX6_forget.desc).map (fun d => d.parameters.length) = some 0 := by decide +kernel
noncomputable def X6_forget (i0 : Nat) (M : gM) : Option gM := gLet (wI M 19 i0 1 0) (fun M_1 => some M_1)
theorem k_X6_forget {G : gG5} {nf : Nat} {M : gM} {i0 : Nat} (h0 : i0 < 10) {M1 : gM} (hr : X6_forget i0 M = some M1) : gMet G (gXn nf) yX6_forget cX6_forget 1 none 0 0 M [.ref (gad 19 i0)] none M1 := by
  refine gMet_of pl_X6 rfl (Nat.le_of_ble_eq_true rfl) (fun Ψ C CR => ?_)
  show Ψ M 0 [(0, .ref (gad 19 i0))] []
  refine r_aload_n (pc := 0) C dX6_forget_0 rfl 0 rfl ?_
  refine r_iconst (pc := 1) C dX6_forget_1 ki0 ?_
  obtain ⟨M_1, eM_1, hr⟩ := gLet_some hr
  refine p19_1 (pc := 2) C dX6_forget_2 q328 (e19 (nf := nf) h0) rfl eM_1 ?_
  exact r_vret (pc := 5) CR dX6_forget_5 rfl (gSome hr)
theorem c_X6_forget {Ψ : gM → Nat → List (Nat × Value) → List Value → Prop} {G : gG5} {nf : Nat} {cc : ByteArray} {own : String} {nL : Nat} {ret : Option FieldType} {fr lo : Nat} {v0 : Option Value} {M0 M : gM} {pc index : Nat} {ls : List (Nat × Value)} {st : List Value} (C : gC Ψ G (gXn nf) cc own nL ret fr lo v0 M0) (d : decode cc pc = .ok (.invokevirtual index, 3)) (hl : Cond.methodLink own index yX6_forget ∈ gws) (hR : 1 ≤ fr ∧ 20 ≤ lo) {i0 : Nat} (h0 : i0 < 10) {M1 : gM} (hr : X6_forget i0 M = some M1) (hcat : (st.map fun v => v.category).sum ≤ 8) (k : Ψ M1 (pc + 3) ls (st)) : Ψ M pc ls (.ref (gad 19 i0) :: st) := r_callV C [] st d (k_X6_forget h0 hr) hl q791 q792 q122 q793 hd_X6_forget hR rfl (by decide) (e19 (nf := nf) h0) rfl hcat k
theorem hd_X9_forgetShapes : yX9_forgetShapes.cls ≠ "java/lang/invoke/MethodHandle" ∧ yX9_forgetShapes.cls ≠ "java/lang/invoke/VarHandle" ∧ (parseMethodDescriptor yX9_forgetShapes.desc).map (fun d => d.parameters.length) = some 0 := by decide +kernel
noncomputable def X9_forgetShapes_L2 (x1 : Int32) (M : gM) : Option ((Int32 × gM) ⊕ gM) := (if 10 ≤ x1 then some (.inr M) else gG (gin x1 10) ((X6_forget (Int32.toNatClampNeg x1) M).bind (fun M_4 => gLet (x1 + 1) (fun x1_5 => some (.inl (x1_5, M_4))))))
theorem t_X9_forgetShapes_L2 {Ψ : gM → Nat → List (Nat × Value) → List Value → Prop} {G : gG5} {nf : Nat} {M : gM} {v0 : Option Value} {M0 : gM} {x1 : Int32} {w : ((Int32 × gM) ⊕ gM)} (C : gC Ψ G (gXn nf) cX9_forgetShapes RX9 2 none 1 20 v0 M0) (hr : X9_forgetShapes_L2 x1 M = some w) (hn : ∀ s, w = .inl s → Ψ s.2 2 [(0, .ref (gad 17 0)), (1, .int (s.1))] []) (hx : ∀ e, w = .inr e → (fun e => Ψ e 23 [] []) e) : Ψ M 2 [(0, .ref (gad 17 0)), (1, .int x1)] [] := by
  refine r_iload_n (pc := 2) C dX9_forgetShapes_2 rfl 1 rfl ?_
  refine r_bipush (pc := 3) C dX9_forgetShapes_3 kb10 ?_
  refine r_icmp_ge (pc := 5) (tgt := 23) C dX9_forgetShapes_5 rfl (fun c_1 => ?_) (fun c_1 => ?_)
  · replace hr := (if_pos c_1).symm.trans hr
    refine r_sub C [] (ls' := []) rfl ?_
    exact hx M (gSome hr)
  · replace hr := (if_neg c_1).symm.trans hr
    refine r_aload_n (pc := 8) C dX9_forgetShapes_8 rfl 0 rfl ?_
    refine g17_2 (pc := 9) C dX9_forgetShapes_9 q378 (e17 nf) ?_
    refine r_iload_n (pc := 12) C dX9_forgetShapes_12 rfl 1 rfl ?_
    obtain ⟨g_2, hr⟩ := gG_some hr
    refine a18 (pc := 13) C dX9_forgetShapes_13 g_2 ?_
    obtain ⟨M_4, hc_3, hr⟩ := gBind_some hr
    refine c_X6_forget (pc := 14) C dX9_forgetShapes_14 q790 ⟨Nat.le_of_ble_eq_true rfl, Nat.le_of_ble_eq_true rfl⟩ (gin_lt g_2) hc_3 (Nat.le_of_ble_eq_true rfl) ?_
    obtain ⟨x1_5, ex1_5, hr⟩ := gLet_some hr
    refine r_iinc (pc := 17) C dX9_forgetShapes_17 1 rfl rfl (by decide) ex1_5 (ls' := [(1, .int x1_5), (0, .ref (gad 17 0))]) rfl ?_
    refine r_goto (pc := 20) (tgt := 2) C dX9_forgetShapes_20 rfl ?_
    refine r_sub C [1, 0] (ls' := [(0, .ref (gad 17 0)), (1, .int x1_5)]) rfl ?_
    exact hn (x1_5, M_4) (gSome hr)
noncomputable def X9_forgetShapes (M : gM) : Option gM := (gIter (fun s => X9_forgetShapes_L2 s.1 s.2) FU (0, M)).bind (fun M_6 => some M_6)
theorem k_X9_forgetShapes {G : gG5} {nf : Nat} {M : gM} {M1 : gM} (hr : X9_forgetShapes M = some M1) : gMet G (gXn nf) yX9_forgetShapes cX9_forgetShapes 2 none 1 20 M [.ref (gad 17 0)] none M1 := by
  refine gMet_of pl_X9 rfl (Nat.le_of_ble_eq_true rfl) (fun Ψ C CR => ?_)
  show Ψ M 0 [(0, .ref (gad 17 0))] []
  refine r_iconst (pc := 0) C dX9_forgetShapes_0 ki0 ?_
  refine r_istore_n (pc := 1) C dX9_forgetShapes_1 rfl (by decide) rfl (ls' := [(1, .int 0), (0, .ref (gad 17 0))]) rfl ?_
  refine r_sub C [1, 0] (ls' := [(0, .ref (gad 17 0)), (1, .int 0)]) rfl ?_
  obtain ⟨ev, hit, hr⟩ := gBind_some hr
  refine gIter_V (step := fun s => X9_forgetShapes_L2 s.1 s.2) (P := fun s => Ψ s.2 2 [(0, .ref (gad 17 0)), (1, .int (s.1))] []) (K := (fun e => Ψ e 23 [] [])) (fun s w hs hn hx => t_X9_forgetShapes_L2 C  hs hn hx) FU (0, M) ev hit ?_
  obtain ⟨M_6, rfl⟩ : ∃ z, z = ev := ⟨_, rfl⟩
  show Ψ M_6 23 [] []
  exact r_vret (pc := 23) CR dX9_forgetShapes_23 rfl (gSome hr)
theorem c_X9_forgetShapes {Ψ : gM → Nat → List (Nat × Value) → List Value → Prop} {G : gG5} {nf : Nat} {cc : ByteArray} {own : String} {nL : Nat} {ret : Option FieldType} {fr lo : Nat} {v0 : Option Value} {M0 M : gM} {pc index : Nat} {ls : List (Nat × Value)} {st : List Value} (C : gC Ψ G (gXn nf) cc own nL ret fr lo v0 M0) (d : decode cc pc = .ok (.invokevirtual index, 3)) (hl : Cond.methodLink own index yX9_forgetShapes ∈ gws) (hR : 2 ≤ fr ∧ 41 ≤ lo) {M1 : gM} (hr : X9_forgetShapes M = some M1) (hcat : (st.map fun v => v.category).sum ≤ 8) (k : Ψ M1 (pc + 3) ls (st)) : Ψ M pc ls (.ref (gad 17 0) :: st) := r_callV C [] st d (k_X9_forgetShapes hr) hl q787 q788 q121 q789 hd_X9_forgetShapes hR rfl (by decide) (e17 nf) rfl hcat k
theorem hd_X6_layEdge : yX6_layEdge.cls ≠ "java/lang/invoke/MethodHandle" ∧ yX6_layEdge.cls ≠ "java/lang/invoke/VarHandle" ∧ (parseMethodDescriptor yX6_layEdge.desc).map (fun d => d.parameters.length) = some 3 := by decide +kernel
noncomputable def X6_layEdge_J103 (i0 : Nat) (x1 : Int32) (x5 : Int32) (x7 : Int32) (M : gM) : Option gM := (if x5 ≤ x7 then gG (gin x1 3) (gLet (wI M 24 i0 (Int32.toNatClampNeg x1) 1) (fun M_18 => some M_18)) else gG (gin x1 3) (gLet (wI M 24 i0 (Int32.toNatClampNeg x1) 0) (fun M_20 => some M_20)))
theorem t_X6_layEdge_J103 {Ψ : gM → Nat → List (Nat × Value) → List Value → Prop} {G : gG5} {nf : Nat} {M : gM} {i0 : Nat} {x1 : Int32} {x5 : Int32} {x7 : Int32} {M1 : gM} (C : gC Ψ G (gXn nf) cX6_layEdge RX6 9 none 0 0 none M1) (CR : gR Ψ cX6_layEdge none none M1) (h0 : i0 < 10) (hr : X6_layEdge_J103 i0 x1 x5 x7 M = some M1) : Ψ M 103 [(0, .ref (gad 19 i0)), (1, .int x1), (5, .int x5), (7, .int x7)] [] := by
  refine r_iload (pc := 103) C dX6_layEdge_103 3 rfl ?_
  refine r_iload (pc := 105) C dX6_layEdge_105 2 rfl ?_
  refine r_icmp_ge (pc := 107) (tgt := 114) C dX6_layEdge_107 rfl (fun c_16 => ?_) (fun c_16 => ?_)
  · replace hr := (if_pos c_16).symm.trans hr
    refine r_iconst (pc := 114) C dX6_layEdge_114 ki0 ?_
    refine r_istore (pc := 115) C dX6_layEdge_115 (by decide) rfl (ls' := [(8, .int 0), (0, .ref (gad 19 i0)), (1, .int x1), (5, .int x5), (7, .int x7)]) rfl ?_
    refine r_aload_n (pc := 117) C dX6_layEdge_117 rfl 1 rfl ?_
    refine g19_9 (pc := 118) C dX6_layEdge_118 q342 (e19 (nf := nf) h0) ?_
    refine r_iload_n (pc := 121) C dX6_layEdge_121 rfl 2 rfl ?_
    refine r_iload (pc := 122) C dX6_layEdge_122 0 rfl ?_
    refine r_if_eq (pc := 124) (tgt := 131) C dX6_layEdge_124 rfl (fun c => ?_) (fun c => absurd c (by decide))
    refine r_iconst (pc := 131) C dX6_layEdge_131 ki1 ?_
    obtain ⟨g_17, hr⟩ := gG_some hr
    obtain ⟨M_18, eM_18, hr⟩ := gLet_some hr
    refine r_iastN (pc := 132) C dX6_layEdge_132 rfl (e24 (nf := nf) h0) g_17 rfl eM_18 ?_
    exact r_vret (pc := 133) CR dX6_layEdge_133 rfl (gSome hr)
  · replace hr := (if_neg c_16).symm.trans hr
    refine r_iconst (pc := 110) C dX6_layEdge_110 ki1 ?_
    refine r_goto (pc := 111) (tgt := 115) C dX6_layEdge_111 rfl ?_
    refine r_istore (pc := 115) C dX6_layEdge_115 (by decide) rfl (ls' := [(8, .int 1), (0, .ref (gad 19 i0)), (1, .int x1), (5, .int x5), (7, .int x7)]) rfl ?_
    refine r_aload_n (pc := 117) C dX6_layEdge_117 rfl 1 rfl ?_
    refine g19_9 (pc := 118) C dX6_layEdge_118 q342 (e19 (nf := nf) h0) ?_
    refine r_iload_n (pc := 121) C dX6_layEdge_121 rfl 2 rfl ?_
    refine r_iload (pc := 122) C dX6_layEdge_122 0 rfl ?_
    refine r_if_eq (pc := 124) (tgt := 131) C dX6_layEdge_124 rfl (fun c => absurd c (by decide)) (fun c => ?_)
    refine r_iconst (pc := 127) C dX6_layEdge_127 ki0 ?_
    refine r_goto (pc := 128) (tgt := 132) C dX6_layEdge_128 rfl ?_
    obtain ⟨g_19, hr⟩ := gG_some hr
    obtain ⟨M_20, eM_20, hr⟩ := gLet_some hr
    refine r_iastN (pc := 132) C dX6_layEdge_132 rfl (e24 (nf := nf) h0) g_19 rfl eM_20 ?_
    exact r_vret (pc := 133) CR dX6_layEdge_133 rfl (gSome hr)
noncomputable def X6_layEdge (i0 : Nat) (p1 : Int32) (p2 : Int32) (p3 : Int32) (M : gM) : Option gM := gG (gin (p2 * 2) 6) (gLet ((M.1 20 i0 (Int32.toNatClampNeg (p2 * 2)))) (fun x4_2 => gG (gin ((p2 * 2) + 1) 6) (gLet ((M.1 20 i0 (Int32.toNatClampNeg ((p2 * 2) + 1)))) (fun x5_4 => gG (gin (p3 * 2) 6) (gLet ((M.1 20 i0 (Int32.toNatClampNeg (p3 * 2)))) (fun x6_6 => gG (gin ((p3 * 2) + 1) 6) (gLet ((M.1 20 i0 (Int32.toNatClampNeg ((p3 * 2) + 1)))) (fun x7_8 => gG (gin p1 3) (gLet (wI M 21 i0 (Int32.toNatClampNeg p1) (x5_4 - x7_8)) (fun M_10 => gG (gin p1 3) (gLet (wI M_10 22 i0 (Int32.toNatClampNeg p1) (x6_6 - x4_2)) (fun M_12 => gG (gin p1 3) (gLet (wI M_12 23 i0 (Int32.toNatClampNeg p1) (((x7_8 - x5_4) * x4_2) - ((x6_6 - x4_2) * x5_4))) (fun M_14 => (if x5_4 = x7_8 then (if x4_2 < x6_6 then gG (gin p1 3) (gLet (wI M_14 24 i0 (Int32.toNatClampNeg p1) 0) (fun M_23 => some M_23)) else X6_layEdge_J103 i0 p1 x5_4 x7_8 M_14) else X6_layEdge_J103 i0 p1 x5_4 x7_8 M_14)))))))))))))))
theorem k_X6_layEdge {G : gG5} {nf : Nat} {M : gM} {i0 : Nat} {p1 : Int32} {p2 : Int32} {p3 : Int32} (h0 : i0 < 10) {M1 : gM} (hr : X6_layEdge i0 p1 p2 p3 M = some M1) : gMet G (gXn nf) yX6_layEdge cX6_layEdge 9 none 0 0 M [.ref (gad 19 i0), .int p1, .int p2, .int p3] none M1 := by
  refine gMet_of pl_X6 rfl (Nat.le_of_ble_eq_true rfl) (fun Ψ C CR => ?_)
  show Ψ M 0 [(0, .ref (gad 19 i0)), (1, .int p1), (2, .int p2), (3, .int p3)] []
  refine r_aload_n (pc := 0) C dX6_layEdge_0 rfl 0 rfl ?_
  refine g19_0 (pc := 1) C dX6_layEdge_1 q327 (e19 (nf := nf) h0) ?_
  refine r_iload_n (pc := 4) C dX6_layEdge_4 rfl 2 rfl ?_
  refine r_iconst (pc := 5) C dX6_layEdge_5 ki2 ?_
  refine r_imul (pc := 6) C dX6_layEdge_6 ?_
  obtain ⟨g_1, hr⟩ := gG_some hr
  refine r_ialdN (pc := 7) C dX6_layEdge_7 rfl (e20 (nf := nf) h0) g_1 rfl ?_
  obtain ⟨x4_2, ex4_2, hr⟩ := gLet_some hr
  refine r_istore (pc := 8) C dX6_layEdge_8 (by decide) ex4_2 (ls' := [(4, .int x4_2), (0, .ref (gad 19 i0)), (1, .int p1), (2, .int p2), (3, .int p3)]) rfl ?_
  refine r_aload_n (pc := 10) C dX6_layEdge_10 rfl 1 rfl ?_
  refine g19_0 (pc := 11) C dX6_layEdge_11 q327 (e19 (nf := nf) h0) ?_
  refine r_iload_n (pc := 14) C dX6_layEdge_14 rfl 3 rfl ?_
  refine r_iconst (pc := 15) C dX6_layEdge_15 ki2 ?_
  refine r_imul (pc := 16) C dX6_layEdge_16 ?_
  refine r_iconst (pc := 17) C dX6_layEdge_17 ki1 ?_
  refine r_iadd (pc := 18) C dX6_layEdge_18 ?_
  obtain ⟨g_3, hr⟩ := gG_some hr
  refine r_ialdN (pc := 19) C dX6_layEdge_19 rfl (e20 (nf := nf) h0) g_3 rfl ?_
  obtain ⟨x5_4, ex5_4, hr⟩ := gLet_some hr
  refine r_istore (pc := 20) C dX6_layEdge_20 (by decide) ex5_4 (ls' := [(5, .int x5_4), (4, .int x4_2), (0, .ref (gad 19 i0)), (1, .int p1), (2, .int p2), (3, .int p3)]) rfl ?_
  refine r_aload_n (pc := 22) C dX6_layEdge_22 rfl 2 rfl ?_
  refine g19_0 (pc := 23) C dX6_layEdge_23 q327 (e19 (nf := nf) h0) ?_
  refine r_iload_n (pc := 26) C dX6_layEdge_26 rfl 5 rfl ?_
  refine r_iconst (pc := 27) C dX6_layEdge_27 ki2 ?_
  refine r_imul (pc := 28) C dX6_layEdge_28 ?_
  obtain ⟨g_5, hr⟩ := gG_some hr
  refine r_ialdN (pc := 29) C dX6_layEdge_29 rfl (e20 (nf := nf) h0) g_5 rfl ?_
  obtain ⟨x6_6, ex6_6, hr⟩ := gLet_some hr
  refine r_istore (pc := 30) C dX6_layEdge_30 (by decide) ex6_6 (ls' := [(6, .int x6_6), (5, .int x5_4), (4, .int x4_2), (0, .ref (gad 19 i0)), (1, .int p1), (2, .int p2), (3, .int p3)]) rfl ?_
  refine r_aload_n (pc := 32) C dX6_layEdge_32 rfl 3 rfl ?_
  refine g19_0 (pc := 33) C dX6_layEdge_33 q327 (e19 (nf := nf) h0) ?_
  refine r_iload_n (pc := 36) C dX6_layEdge_36 rfl 6 rfl ?_
  refine r_iconst (pc := 37) C dX6_layEdge_37 ki2 ?_
  refine r_imul (pc := 38) C dX6_layEdge_38 ?_
  refine r_iconst (pc := 39) C dX6_layEdge_39 ki1 ?_
  refine r_iadd (pc := 40) C dX6_layEdge_40 ?_
  obtain ⟨g_7, hr⟩ := gG_some hr
  refine r_ialdN (pc := 41) C dX6_layEdge_41 rfl (e20 (nf := nf) h0) g_7 rfl ?_
  obtain ⟨x7_8, ex7_8, hr⟩ := gLet_some hr
  refine r_istore (pc := 42) C dX6_layEdge_42 (by decide) ex7_8 (ls' := [(7, .int x7_8), (6, .int x6_6), (5, .int x5_4), (4, .int x4_2), (0, .ref (gad 19 i0)), (1, .int p1), (2, .int p2), (3, .int p3)]) rfl ?_
  refine r_aload_n (pc := 44) C dX6_layEdge_44 rfl 4 rfl ?_
  refine g19_6 (pc := 45) C dX6_layEdge_45 q339 (e19 (nf := nf) h0) ?_
  refine r_iload_n (pc := 48) C dX6_layEdge_48 rfl 5 rfl ?_
  refine r_iload (pc := 49) C dX6_layEdge_49 2 rfl ?_
  refine r_iload (pc := 51) C dX6_layEdge_51 0 rfl ?_
  refine r_isub (pc := 53) C dX6_layEdge_53 ?_
  obtain ⟨g_9, hr⟩ := gG_some hr
  obtain ⟨M_10, eM_10, hr⟩ := gLet_some hr
  refine r_iastN (pc := 54) C dX6_layEdge_54 rfl (e21 (nf := nf) h0) g_9 rfl eM_10 ?_
  refine r_aload_n (pc := 55) C dX6_layEdge_55 rfl 4 rfl ?_
  refine g19_7 (pc := 56) C dX6_layEdge_56 q340 (e19 (nf := nf) h0) ?_
  refine r_iload_n (pc := 59) C dX6_layEdge_59 rfl 5 rfl ?_
  refine r_iload (pc := 60) C dX6_layEdge_60 1 rfl ?_
  refine r_iload (pc := 62) C dX6_layEdge_62 3 rfl ?_
  refine r_isub (pc := 64) C dX6_layEdge_64 ?_
  obtain ⟨g_11, hr⟩ := gG_some hr
  obtain ⟨M_12, eM_12, hr⟩ := gLet_some hr
  refine r_iastN (pc := 65) C dX6_layEdge_65 rfl (e22 (nf := nf) h0) g_11 rfl eM_12 ?_
  refine r_aload_n (pc := 66) C dX6_layEdge_66 rfl 4 rfl ?_
  refine g19_8 (pc := 67) C dX6_layEdge_67 q341 (e19 (nf := nf) h0) ?_
  refine r_iload_n (pc := 70) C dX6_layEdge_70 rfl 5 rfl ?_
  refine r_iload (pc := 71) C dX6_layEdge_71 0 rfl ?_
  refine r_iload (pc := 73) C dX6_layEdge_73 2 rfl ?_
  refine r_isub (pc := 75) C dX6_layEdge_75 ?_
  refine r_iload (pc := 76) C dX6_layEdge_76 3 rfl ?_
  refine r_imul (pc := 78) C dX6_layEdge_78 ?_
  refine r_iload (pc := 79) C dX6_layEdge_79 1 rfl ?_
  refine r_iload (pc := 81) C dX6_layEdge_81 3 rfl ?_
  refine r_isub (pc := 83) C dX6_layEdge_83 ?_
  refine r_iload (pc := 84) C dX6_layEdge_84 2 rfl ?_
  refine r_imul (pc := 86) C dX6_layEdge_86 ?_
  refine r_isub (pc := 87) C dX6_layEdge_87 ?_
  obtain ⟨g_13, hr⟩ := gG_some hr
  obtain ⟨M_14, eM_14, hr⟩ := gLet_some hr
  refine r_iastN (pc := 88) C dX6_layEdge_88 rfl (e23 (nf := nf) h0) g_13 rfl eM_14 ?_
  refine r_iload (pc := 89) C dX6_layEdge_89 2 rfl ?_
  refine r_iload (pc := 91) C dX6_layEdge_91 0 rfl ?_
  refine r_icmp_ne (pc := 93) (tgt := 103) C dX6_layEdge_93 rfl (fun c_15 => ?_) (fun c_15 => ?_)
  · replace hr := (if_neg c_15).symm.trans hr
    refine r_sub C [4, 5, 2, 0] (ls' := [(0, .ref (gad 19 i0)), (1, .int p1), (5, .int x5_4), (7, .int x7_8)]) rfl ?_
    exact t_X6_layEdge_J103 C CR h0 hr
  · replace hr := (if_pos c_15).symm.trans hr
    refine r_iload (pc := 96) C dX6_layEdge_96 1 rfl ?_
    refine r_iload (pc := 98) C dX6_layEdge_98 3 rfl ?_
    refine r_icmp_gt (pc := 100) (tgt := 110) C dX6_layEdge_100 rfl (fun c_21 => ?_) (fun c_21 => ?_)
    · replace hr := (if_pos c_21).symm.trans hr
      refine r_iconst (pc := 110) C dX6_layEdge_110 ki1 ?_
      refine r_goto (pc := 111) (tgt := 115) C dX6_layEdge_111 rfl ?_
      refine r_istore (pc := 115) C dX6_layEdge_115 (by decide) rfl (ls' := [(8, .int 1), (7, .int x7_8), (6, .int x6_6), (5, .int x5_4), (4, .int x4_2), (0, .ref (gad 19 i0)), (1, .int p1), (2, .int p2), (3, .int p3)]) rfl ?_
      refine r_aload_n (pc := 117) C dX6_layEdge_117 rfl 5 rfl ?_
      refine g19_9 (pc := 118) C dX6_layEdge_118 q342 (e19 (nf := nf) h0) ?_
      refine r_iload_n (pc := 121) C dX6_layEdge_121 rfl 6 rfl ?_
      refine r_iload (pc := 122) C dX6_layEdge_122 0 rfl ?_
      refine r_if_eq (pc := 124) (tgt := 131) C dX6_layEdge_124 rfl (fun c => absurd c (by decide)) (fun c => ?_)
      refine r_iconst (pc := 127) C dX6_layEdge_127 ki0 ?_
      refine r_goto (pc := 128) (tgt := 132) C dX6_layEdge_128 rfl ?_
      obtain ⟨g_22, hr⟩ := gG_some hr
      obtain ⟨M_23, eM_23, hr⟩ := gLet_some hr
      refine r_iastN (pc := 132) C dX6_layEdge_132 rfl (e24 (nf := nf) h0) g_22 rfl eM_23 ?_
      exact r_vret (pc := 133) CR dX6_layEdge_133 rfl (gSome hr)
    · replace hr := (if_neg c_21).symm.trans hr
      refine r_sub C [4, 5, 2, 0] (ls' := [(0, .ref (gad 19 i0)), (1, .int p1), (5, .int x5_4), (7, .int x7_8)]) rfl ?_
      exact t_X6_layEdge_J103 C CR h0 hr
theorem c_X6_layEdge {Ψ : gM → Nat → List (Nat × Value) → List Value → Prop} {G : gG5} {nf : Nat} {cc : ByteArray} {own : String} {nL : Nat} {ret : Option FieldType} {fr lo : Nat} {v0 : Option Value} {M0 M : gM} {pc index : Nat} {ls : List (Nat × Value)} {st : List Value} (C : gC Ψ G (gXn nf) cc own nL ret fr lo v0 M0) (d : decode cc pc = .ok (.invokevirtual index, 3)) (hl : Cond.methodLink own index yX6_layEdge ∈ gws) (hR : 1 ≤ fr ∧ 28 ≤ lo) {i0 : Nat} {p1 : Int32} {p2 : Int32} {p3 : Int32} (h0 : i0 < 10) {M1 : gM} (hr : X6_layEdge i0 p1 p2 p3 M = some M1) (hcat : (st.map fun v => v.category).sum ≤ 8) (k : Ψ M1 (pc + 3) ls (st)) : Ψ M pc ls (.int p3 :: .int p2 :: .int p1 :: .ref (gad 19 i0) :: st) := r_callV C [.int p1, .int p2, .int p3] st d (k_X6_layEdge h0 hr) hl q804 q10 q122 q805 hd_X6_layEdge hR rfl (by decide) (e19 (nf := nf) h0) rfl hcat k
theorem hd_X6_laySlope : yX6_laySlope.cls ≠ "java/lang/invoke/MethodHandle" ∧ yX6_laySlope.cls ≠ "java/lang/invoke/VarHandle" ∧ (parseMethodDescriptor yX6_laySlope.desc).map (fun d => d.parameters.length) = some 3 := by decide +kernel
noncomputable def X6_laySlope (i0 : Nat) (p1 : Int32) (p2 : Int32) (p3 : Int32) (M : gM) : Option gM := gLet (wI M 25 i0 0 (((p1 * (M.1 21 i0 1)) + (p2 * (M.1 21 i0 2))) + (p3 * (M.1 21 i0 0)))) (fun M_1 => gLet (wI M_1 25 i0 1 (((p1 * (M_1.1 22 i0 1)) + (p2 * (M_1.1 22 i0 2))) + (p3 * (M_1.1 22 i0 0)))) (fun M_2 => gLet (wI M_2 25 i0 2 (((p1 * (M_2.1 23 i0 1)) + (p2 * (M_2.1 23 i0 2))) + (p3 * (M_2.1 23 i0 0)))) (fun M_3 => gLet (wI M_3 19 i0 3 (gmin p1 (gmin p2 p3))) (fun M_4 => gLet (wI M_4 19 i0 4 (gmax p1 (gmax p2 p3))) (fun M_5 => some M_5)))))
theorem k_X6_laySlope {G : gG5} {nf : Nat} {M : gM} {i0 : Nat} {p1 : Int32} {p2 : Int32} {p3 : Int32} (h0 : i0 < 10) {M1 : gM} (hr : X6_laySlope i0 p1 p2 p3 M = some M1) : gMet G (gXn nf) yX6_laySlope cX6_laySlope 4 none 1 21 M [.ref (gad 19 i0), .int p1, .int p2, .int p3] none M1 := by
  refine gMet_of pl_X6 rfl (Nat.le_of_ble_eq_true rfl) (fun Ψ C CR => ?_)
  show Ψ M 0 [(0, .ref (gad 19 i0)), (1, .int p1), (2, .int p2), (3, .int p3)] []
  refine r_aload_n (pc := 0) C dX6_laySlope_0 rfl 0 rfl ?_
  refine g19_10 (pc := 1) C dX6_laySlope_1 q343 (e19 (nf := nf) h0) ?_
  refine r_iconst (pc := 4) C dX6_laySlope_4 ki0 ?_
  refine r_iload_n (pc := 5) C dX6_laySlope_5 rfl 1 rfl ?_
  refine r_aload_n (pc := 6) C dX6_laySlope_6 rfl 0 rfl ?_
  refine g19_6 (pc := 7) C dX6_laySlope_7 q339 (e19 (nf := nf) h0) ?_
  refine r_iconst (pc := 10) C dX6_laySlope_10 ki1 ?_
  refine r_ialdN (pc := 11) C dX6_laySlope_11 rfl (e21 (nf := nf) h0) (by decide : gin 1 3 = true) kc1 ?_
  refine r_imul (pc := 12) C dX6_laySlope_12 ?_
  refine r_iload_n (pc := 13) C dX6_laySlope_13 rfl 2 rfl ?_
  refine r_aload_n (pc := 14) C dX6_laySlope_14 rfl 0 rfl ?_
  refine g19_6 (pc := 15) C dX6_laySlope_15 q339 (e19 (nf := nf) h0) ?_
  refine r_iconst (pc := 18) C dX6_laySlope_18 ki2 ?_
  refine r_ialdN (pc := 19) C dX6_laySlope_19 rfl (e21 (nf := nf) h0) (by decide : gin 2 3 = true) kc2 ?_
  refine r_imul (pc := 20) C dX6_laySlope_20 ?_
  refine r_iadd (pc := 21) C dX6_laySlope_21 ?_
  refine r_iload_n (pc := 22) C dX6_laySlope_22 rfl 3 rfl ?_
  refine r_aload_n (pc := 23) C dX6_laySlope_23 rfl 0 rfl ?_
  refine g19_6 (pc := 24) C dX6_laySlope_24 q339 (e19 (nf := nf) h0) ?_
  refine r_iconst (pc := 27) C dX6_laySlope_27 ki0 ?_
  refine r_ialdN (pc := 28) C dX6_laySlope_28 rfl (e21 (nf := nf) h0) (by decide : gin 0 3 = true) kc0 ?_
  refine r_imul (pc := 29) C dX6_laySlope_29 ?_
  refine r_iadd (pc := 30) C dX6_laySlope_30 ?_
  obtain ⟨M_1, eM_1, hr⟩ := gLet_some hr
  refine r_iastN (pc := 31) C dX6_laySlope_31 rfl (e25 (nf := nf) h0) (by decide : gin 0 3 = true) kc0 eM_1 ?_
  refine r_aload_n (pc := 32) C dX6_laySlope_32 rfl 0 rfl ?_
  refine g19_10 (pc := 33) C dX6_laySlope_33 q343 (e19 (nf := nf) h0) ?_
  refine r_iconst (pc := 36) C dX6_laySlope_36 ki1 ?_
  refine r_iload_n (pc := 37) C dX6_laySlope_37 rfl 1 rfl ?_
  refine r_aload_n (pc := 38) C dX6_laySlope_38 rfl 0 rfl ?_
  refine g19_7 (pc := 39) C dX6_laySlope_39 q340 (e19 (nf := nf) h0) ?_
  refine r_iconst (pc := 42) C dX6_laySlope_42 ki1 ?_
  refine r_ialdN (pc := 43) C dX6_laySlope_43 rfl (e22 (nf := nf) h0) (by decide : gin 1 3 = true) kc1 ?_
  refine r_imul (pc := 44) C dX6_laySlope_44 ?_
  refine r_iload_n (pc := 45) C dX6_laySlope_45 rfl 2 rfl ?_
  refine r_aload_n (pc := 46) C dX6_laySlope_46 rfl 0 rfl ?_
  refine g19_7 (pc := 47) C dX6_laySlope_47 q340 (e19 (nf := nf) h0) ?_
  refine r_iconst (pc := 50) C dX6_laySlope_50 ki2 ?_
  refine r_ialdN (pc := 51) C dX6_laySlope_51 rfl (e22 (nf := nf) h0) (by decide : gin 2 3 = true) kc2 ?_
  refine r_imul (pc := 52) C dX6_laySlope_52 ?_
  refine r_iadd (pc := 53) C dX6_laySlope_53 ?_
  refine r_iload_n (pc := 54) C dX6_laySlope_54 rfl 3 rfl ?_
  refine r_aload_n (pc := 55) C dX6_laySlope_55 rfl 0 rfl ?_
  refine g19_7 (pc := 56) C dX6_laySlope_56 q340 (e19 (nf := nf) h0) ?_
  refine r_iconst (pc := 59) C dX6_laySlope_59 ki0 ?_
  refine r_ialdN (pc := 60) C dX6_laySlope_60 rfl (e22 (nf := nf) h0) (by decide : gin 0 3 = true) kc0 ?_
  refine r_imul (pc := 61) C dX6_laySlope_61 ?_
  refine r_iadd (pc := 62) C dX6_laySlope_62 ?_
  obtain ⟨M_2, eM_2, hr⟩ := gLet_some hr
  refine r_iastN (pc := 63) C dX6_laySlope_63 rfl (e25 (nf := nf) h0) (by decide : gin 1 3 = true) kc1 eM_2 ?_
  refine r_aload_n (pc := 64) C dX6_laySlope_64 rfl 0 rfl ?_
  refine g19_10 (pc := 65) C dX6_laySlope_65 q343 (e19 (nf := nf) h0) ?_
  refine r_iconst (pc := 68) C dX6_laySlope_68 ki2 ?_
  refine r_iload_n (pc := 69) C dX6_laySlope_69 rfl 1 rfl ?_
  refine r_aload_n (pc := 70) C dX6_laySlope_70 rfl 0 rfl ?_
  refine g19_8 (pc := 71) C dX6_laySlope_71 q341 (e19 (nf := nf) h0) ?_
  refine r_iconst (pc := 74) C dX6_laySlope_74 ki1 ?_
  refine r_ialdN (pc := 75) C dX6_laySlope_75 rfl (e23 (nf := nf) h0) (by decide : gin 1 3 = true) kc1 ?_
  refine r_imul (pc := 76) C dX6_laySlope_76 ?_
  refine r_iload_n (pc := 77) C dX6_laySlope_77 rfl 2 rfl ?_
  refine r_aload_n (pc := 78) C dX6_laySlope_78 rfl 0 rfl ?_
  refine g19_8 (pc := 79) C dX6_laySlope_79 q341 (e19 (nf := nf) h0) ?_
  refine r_iconst (pc := 82) C dX6_laySlope_82 ki2 ?_
  refine r_ialdN (pc := 83) C dX6_laySlope_83 rfl (e23 (nf := nf) h0) (by decide : gin 2 3 = true) kc2 ?_
  refine r_imul (pc := 84) C dX6_laySlope_84 ?_
  refine r_iadd (pc := 85) C dX6_laySlope_85 ?_
  refine r_iload_n (pc := 86) C dX6_laySlope_86 rfl 3 rfl ?_
  refine r_aload_n (pc := 87) C dX6_laySlope_87 rfl 0 rfl ?_
  refine g19_8 (pc := 88) C dX6_laySlope_88 q341 (e19 (nf := nf) h0) ?_
  refine r_iconst (pc := 91) C dX6_laySlope_91 ki0 ?_
  refine r_ialdN (pc := 92) C dX6_laySlope_92 rfl (e23 (nf := nf) h0) (by decide : gin 0 3 = true) kc0 ?_
  refine r_imul (pc := 93) C dX6_laySlope_93 ?_
  refine r_iadd (pc := 94) C dX6_laySlope_94 ?_
  obtain ⟨M_3, eM_3, hr⟩ := gLet_some hr
  refine r_iastN (pc := 95) C dX6_laySlope_95 rfl (e25 (nf := nf) h0) (by decide : gin 2 3 = true) kc2 eM_3 ?_
  refine r_aload_n (pc := 96) C dX6_laySlope_96 rfl 0 rfl ?_
  refine r_iload_n (pc := 97) C dX6_laySlope_97 rfl 1 rfl ?_
  refine r_iload_n (pc := 98) C dX6_laySlope_98 rfl 2 rfl ?_
  refine r_iload_n (pc := 99) C dX6_laySlope_99 rfl 3 rfl ?_
  refine r_min (pc := 100) C dX6_laySlope_100 q810 (by decide) (Nat.le_of_ble_eq_true rfl) ?_
  refine r_min (pc := 103) C dX6_laySlope_103 q810 (by decide) (Nat.le_of_ble_eq_true rfl) ?_
  obtain ⟨M_4, eM_4, hr⟩ := gLet_some hr
  refine p19_3 (pc := 106) C dX6_laySlope_106 q332 (e19 (nf := nf) h0) eM_4 ?_
  refine r_aload_n (pc := 109) C dX6_laySlope_109 rfl 0 rfl ?_
  refine r_iload_n (pc := 110) C dX6_laySlope_110 rfl 1 rfl ?_
  refine r_iload_n (pc := 111) C dX6_laySlope_111 rfl 2 rfl ?_
  refine r_iload_n (pc := 112) C dX6_laySlope_112 rfl 3 rfl ?_
  refine r_max (pc := 113) C dX6_laySlope_113 q811 (by decide) (Nat.le_of_ble_eq_true rfl) ?_
  refine r_max (pc := 116) C dX6_laySlope_116 q811 (by decide) (Nat.le_of_ble_eq_true rfl) ?_
  obtain ⟨M_5, eM_5, hr⟩ := gLet_some hr
  refine p19_4 (pc := 119) C dX6_laySlope_119 q335 (e19 (nf := nf) h0) eM_5 ?_
  exact r_vret (pc := 122) CR dX6_laySlope_122 rfl (gSome hr)
theorem c_X6_laySlope {Ψ : gM → Nat → List (Nat × Value) → List Value → Prop} {G : gG5} {nf : Nat} {cc : ByteArray} {own : String} {nL : Nat} {ret : Option FieldType} {fr lo : Nat} {v0 : Option Value} {M0 M : gM} {pc index : Nat} {ls : List (Nat × Value)} {st : List Value} (C : gC Ψ G (gXn nf) cc own nL ret fr lo v0 M0) (d : decode cc pc = .ok (.invokevirtual index, 3)) (hl : Cond.methodLink own index yX6_laySlope ∈ gws) (hR : 2 ≤ fr ∧ 44 ≤ lo) {i0 : Nat} {p1 : Int32} {p2 : Int32} {p3 : Int32} (h0 : i0 < 10) {M1 : gM} (hr : X6_laySlope i0 p1 p2 p3 M = some M1) (hcat : (st.map fun v => v.category).sum ≤ 8) (k : Ψ M1 (pc + 3) ls (st)) : Ψ M pc ls (.int p3 :: .int p2 :: .int p1 :: .ref (gad 19 i0) :: st) := r_callV C [.int p1, .int p2, .int p3] st d (k_X6_laySlope h0 hr) hl q808 q11 q122 q809 hd_X6_laySlope hR rfl (by decide) (e19 (nf := nf) h0) rfl hcat k
theorem hd_X6_covers : yX6_covers.cls ≠ "java/lang/invoke/MethodHandle" ∧ yX6_covers.cls ≠ "java/lang/invoke/VarHandle" ∧ (parseMethodDescriptor yX6_covers.desc).map (fun d => d.parameters.length) = some 2 := by decide +kernel
noncomputable def X6_covers_L11 (i0 : Nat) (x1 : Int32) (x2 : Int32) (x3 : Int32) (M : gM) : Option (Int32 ⊕ (Unit ⊕ Unit)) := (if 3 ≤ x3 then some (.inr (.inr ())) else gG (gin x3 3) (gG (gin x3 3) (gG (gin x3 3) (gG (gin x3 3) ((if (M.1 24 i0 (Int32.toNatClampNeg x3)) ≤ ((((M.1 21 i0 (Int32.toNatClampNeg x3)) * x1) + ((M.1 22 i0 (Int32.toNatClampNeg x3)) * x2)) + (M.1 23 i0 (Int32.toNatClampNeg x3))) then gLet (x3 + 1) (fun x3_8 => some (.inl x3_8)) else some (.inr (.inl ()))))))))
theorem t_X6_covers_L11 {Ψ : gM → Nat → List (Nat × Value) → List Value → Prop} {G : gG5} {nf : Nat} {M : gM} {v0 : Option Value} {M0 : gM} {i0 : Nat} {x1 : Int32} {x2 : Int32} {x3 : Int32} {w : (Int32 ⊕ (Unit ⊕ Unit))} (C : gC Ψ G (gXn nf) cX6_covers RX6 4 (some .boolean) 0 0 v0 M0) (h0 : i0 < 10) (hr : X6_covers_L11 i0 x1 x2 x3 M = some w) (hn : ∀ s, w = .inl s → Ψ M 11 [(0, .ref (gad 19 i0)), (1, .int x1), (2, .int x2), (3, .int s)] []) (hx : ∀ e, w = .inr e → (gSP (fun e => Ψ M 49 [] []) (fun e => Ψ M 57 [] [])) e) : Ψ M 11 [(0, .ref (gad 19 i0)), (1, .int x1), (2, .int x2), (3, .int x3)] [] := by
  refine r_iload_n (pc := 11) C dX6_covers_11 rfl 3 rfl ?_
  refine r_iconst (pc := 12) C dX6_covers_12 ki3 ?_
  refine r_icmp_ge (pc := 13) (tgt := 57) C dX6_covers_13 rfl (fun c_2 => ?_) (fun c_2 => ?_)
  · replace hr := (if_pos c_2).symm.trans hr
    refine r_sub C [] (ls' := []) rfl ?_
    exact hx (.inr ()) (gSome hr)
  · replace hr := (if_neg c_2).symm.trans hr
    refine r_aload_n (pc := 16) C dX6_covers_16 rfl 0 rfl ?_
    refine g19_6 (pc := 17) C dX6_covers_17 q339 (e19 (nf := nf) h0) ?_
    refine r_iload_n (pc := 20) C dX6_covers_20 rfl 3 rfl ?_
    obtain ⟨g_3, hr⟩ := gG_some hr
    refine r_ialdN (pc := 21) C dX6_covers_21 rfl (e21 (nf := nf) h0) g_3 rfl ?_
    refine r_iload_n (pc := 22) C dX6_covers_22 rfl 1 rfl ?_
    refine r_imul (pc := 23) C dX6_covers_23 ?_
    refine r_aload_n (pc := 24) C dX6_covers_24 rfl 0 rfl ?_
    refine g19_7 (pc := 25) C dX6_covers_25 q340 (e19 (nf := nf) h0) ?_
    refine r_iload_n (pc := 28) C dX6_covers_28 rfl 3 rfl ?_
    obtain ⟨g_4, hr⟩ := gG_some hr
    refine r_ialdN (pc := 29) C dX6_covers_29 rfl (e22 (nf := nf) h0) g_4 rfl ?_
    refine r_iload_n (pc := 30) C dX6_covers_30 rfl 2 rfl ?_
    refine r_imul (pc := 31) C dX6_covers_31 ?_
    refine r_iadd (pc := 32) C dX6_covers_32 ?_
    refine r_aload_n (pc := 33) C dX6_covers_33 rfl 0 rfl ?_
    refine g19_8 (pc := 34) C dX6_covers_34 q341 (e19 (nf := nf) h0) ?_
    refine r_iload_n (pc := 37) C dX6_covers_37 rfl 3 rfl ?_
    obtain ⟨g_5, hr⟩ := gG_some hr
    refine r_ialdN (pc := 38) C dX6_covers_38 rfl (e23 (nf := nf) h0) g_5 rfl ?_
    refine r_iadd (pc := 39) C dX6_covers_39 ?_
    refine r_aload_n (pc := 40) C dX6_covers_40 rfl 0 rfl ?_
    refine g19_9 (pc := 41) C dX6_covers_41 q342 (e19 (nf := nf) h0) ?_
    refine r_iload_n (pc := 44) C dX6_covers_44 rfl 3 rfl ?_
    obtain ⟨g_6, hr⟩ := gG_some hr
    refine r_ialdN (pc := 45) C dX6_covers_45 rfl (e24 (nf := nf) h0) g_6 rfl ?_
    refine r_icmp_ge (pc := 46) (tgt := 51) C dX6_covers_46 rfl (fun c_7 => ?_) (fun c_7 => ?_)
    · replace hr := (if_pos c_7).symm.trans hr
      obtain ⟨x3_8, ex3_8, hr⟩ := gLet_some hr
      refine r_iinc (pc := 51) C dX6_covers_51 3 rfl rfl (by decide) ex3_8 (ls' := [(3, .int x3_8), (0, .ref (gad 19 i0)), (1, .int x1), (2, .int x2)]) rfl ?_
      refine r_goto (pc := 54) (tgt := 11) C dX6_covers_54 rfl ?_
      refine r_sub C [1, 2, 3, 0] (ls' := [(0, .ref (gad 19 i0)), (1, .int x1), (2, .int x2), (3, .int x3_8)]) rfl ?_
      exact hn x3_8 (gSome hr)
    · replace hr := (if_neg c_7).symm.trans hr
      refine r_sub C [] (ls' := []) rfl ?_
      exact hx (.inl ()) (gSome hr)
noncomputable def X6_covers (i0 : Nat) (p1 : Int32) (p2 : Int32) (M : gM) : Option Int32 := (if (M.1 19 i0 2) = 0 then some 0 else (gIter (fun s => X6_covers_L11 i0 p1 p2 s M) FU 0).bind (gS2 (fun _ => some 0) (fun _ => some 1)))
theorem k_X6_covers {G : gG5} {nf : Nat} {M : gM} {i0 : Nat} {p1 : Int32} {p2 : Int32} (h0 : i0 < 10) {r : Int32} (hr : X6_covers i0 p1 p2 M = some r) : gMet G (gXn nf) yX6_covers cX6_covers 4 (some .boolean) 0 0 M [.ref (gad 19 i0), .int p1, .int p2] (some (.int r)) M := by
  refine gMet_of pl_X6 rfl (Nat.le_of_ble_eq_true rfl) (fun Ψ C CR => ?_)
  show Ψ M 0 [(0, .ref (gad 19 i0)), (1, .int p1), (2, .int p2)] []
  refine r_aload_n (pc := 0) C dX6_covers_0 rfl 0 rfl ?_
  refine g19_2 (pc := 1) C dX6_covers_1 q329 (e19 (nf := nf) h0) ?_
  refine r_if_ne (pc := 4) (tgt := 9) C dX6_covers_4 rfl (fun c_1 => ?_) (fun c_1 => ?_)
  · replace hr := (if_neg c_1).symm.trans hr
    refine r_iconst (pc := 9) C dX6_covers_9 ki0 ?_
    refine r_istore_n (pc := 10) C dX6_covers_10 rfl (by decide) rfl (ls' := [(3, .int 0), (0, .ref (gad 19 i0)), (1, .int p1), (2, .int p2)]) rfl ?_
    refine r_sub C [1, 2, 3, 0] (ls' := [(0, .ref (gad 19 i0)), (1, .int p1), (2, .int p2), (3, .int 0)]) rfl ?_
    obtain ⟨ev, hit, hr⟩ := gBind_some hr
    refine gIter_V (step := fun s => X6_covers_L11 i0 p1 p2 s M) (P := fun s => Ψ M 11 [(0, .ref (gad 19 i0)), (1, .int p1), (2, .int p2), (3, .int s)] []) (K := (gSP (fun e => Ψ M 49 [] []) (fun e => Ψ M 57 [] []))) (fun s w hs hn hx => t_X6_covers_L11 C h0 hs hn hx) FU 0 ev hit ?_
    rcases ev with _ | _
    · replace hr := gS2_l hr
      show Ψ M 49 [] []
      refine r_iconst (pc := 49) C dX6_covers_49 ki0 ?_
      exact r_zret (pc := 50) CR dX6_covers_50 rfl (congrArg (fun z => some (Value.int z)) (gSome hr)) rfl
    · replace hr := gS2_r hr
      show Ψ M 57 [] []
      refine r_iconst (pc := 57) C dX6_covers_57 ki1 ?_
      exact r_zret (pc := 58) CR dX6_covers_58 rfl (congrArg (fun z => some (Value.int z)) (gSome hr)) rfl
  · replace hr := (if_pos c_1).symm.trans hr
    refine r_iconst (pc := 7) C dX6_covers_7 ki0 ?_
    exact r_zret (pc := 8) CR dX6_covers_8 rfl (congrArg (fun z => some (Value.int z)) (gSome hr)) rfl
theorem c_X6_covers {Ψ : gM → Nat → List (Nat × Value) → List Value → Prop} {G : gG5} {nf : Nat} {cc : ByteArray} {own : String} {nL : Nat} {ret : Option FieldType} {fr lo : Nat} {v0 : Option Value} {M0 M : gM} {pc index : Nat} {ls : List (Nat × Value)} {st : List Value} (C : gC Ψ G (gXn nf) cc own nL ret fr lo v0 M0) (d : decode cc pc = .ok (.invokevirtual index, 3)) (hl : Cond.methodLink own index yX6_covers ∈ gws) (hR : 1 ≤ fr ∧ 23 ≤ lo) {i0 : Nat} {p1 : Int32} {p2 : Int32} (h0 : i0 < 10) {r : Int32} (hr : X6_covers i0 p1 p2 M = some r) (hcat : (st.map fun v => v.category).sum ≤ 8) (k : Ψ M (pc + 3) ls (.int r :: st)) : Ψ M pc ls (.int p2 :: .int p1 :: .ref (gad 19 i0) :: st) := r_callV C [.int p1, .int p2] st d (k_X6_covers h0 hr) hl q817 q818 q122 q819 hd_X6_covers hR rfl (by decide) (e19 (nf := nf) h0) rfl hcat k
theorem hd_X6_depthAt : yX6_depthAt.cls ≠ "java/lang/invoke/MethodHandle" ∧ yX6_depthAt.cls ≠ "java/lang/invoke/VarHandle" ∧ (parseMethodDescriptor yX6_depthAt.desc).map (fun d => d.parameters.length) = some 2 := by decide +kernel
noncomputable def X6_depthAt_J19 (i0 : Nat) (x1 : Int32) (x2 : Int32) (xs0 : Int32) (M : gM) : Option Int32 := (if xs0 = 0 then some 0 else (J9_floorDiv_7cf53 ((((M.1 25 i0 0) * x1) + ((M.1 25 i0 1) * x2)) + (M.1 25 i0 2)) xs0 M).bind (fun r_4 => some r_4))
theorem t_X6_depthAt_J19 {Ψ : gM → Nat → List (Nat × Value) → List Value → Prop} {G : gG5} {nf : Nat} {M : gM} {i0 : Nat} {x1 : Int32} {x2 : Int32} {xs0 : Int32} {r : Int32} (C : gC Ψ G (gXn nf) cX6_depthAt RX6 4 (some .int) 1 22 (some (.int r)) M) (CR : gR Ψ cX6_depthAt (some .int) (some (.int r)) M) (h0 : i0 < 10) (hr : X6_depthAt_J19 i0 x1 x2 xs0 M = some r) : Ψ M 19 [(0, .ref (gad 19 i0)), (1, .int x1), (2, .int x2)] [.int xs0] := by
  refine r_istore_n (pc := 19) C dX6_depthAt_19 rfl (by decide) rfl (ls' := [(3, .int xs0), (0, .ref (gad 19 i0)), (1, .int x1), (2, .int x2)]) rfl ?_
  refine r_iload_n (pc := 20) C dX6_depthAt_20 rfl 0 rfl ?_
  refine r_if_ne (pc := 21) (tgt := 28) C dX6_depthAt_21 rfl (fun c_2 => ?_) (fun c_2 => ?_)
  · replace hr := (if_neg c_2).symm.trans hr
    refine r_aload_n (pc := 28) C dX6_depthAt_28 rfl 1 rfl ?_
    refine g19_10 (pc := 29) C dX6_depthAt_29 q343 (e19 (nf := nf) h0) ?_
    refine r_iconst (pc := 32) C dX6_depthAt_32 ki0 ?_
    refine r_ialdN (pc := 33) C dX6_depthAt_33 rfl (e25 (nf := nf) h0) (by decide : gin 0 3 = true) kc0 ?_
    refine r_iload_n (pc := 34) C dX6_depthAt_34 rfl 2 rfl ?_
    refine r_imul (pc := 35) C dX6_depthAt_35 ?_
    refine r_aload_n (pc := 36) C dX6_depthAt_36 rfl 1 rfl ?_
    refine g19_10 (pc := 37) C dX6_depthAt_37 q343 (e19 (nf := nf) h0) ?_
    refine r_iconst (pc := 40) C dX6_depthAt_40 ki1 ?_
    refine r_ialdN (pc := 41) C dX6_depthAt_41 rfl (e25 (nf := nf) h0) (by decide : gin 1 3 = true) kc1 ?_
    refine r_iload_n (pc := 42) C dX6_depthAt_42 rfl 3 rfl ?_
    refine r_imul (pc := 43) C dX6_depthAt_43 ?_
    refine r_iadd (pc := 44) C dX6_depthAt_44 ?_
    refine r_aload_n (pc := 45) C dX6_depthAt_45 rfl 1 rfl ?_
    refine g19_10 (pc := 46) C dX6_depthAt_46 q343 (e19 (nf := nf) h0) ?_
    refine r_iconst (pc := 49) C dX6_depthAt_49 ki2 ?_
    refine r_ialdN (pc := 50) C dX6_depthAt_50 rfl (e25 (nf := nf) h0) (by decide : gin 2 3 = true) kc2 ?_
    refine r_iadd (pc := 51) C dX6_depthAt_51 ?_
    refine r_iload_n (pc := 52) C dX6_depthAt_52 rfl 0 rfl ?_
    obtain ⟨r_4, hc_3, hr⟩ := gBind_some hr
    refine c_J9_floorDiv_7cf53 (pc := 53) C dX6_depthAt_53 q824 ⟨Nat.le_of_ble_eq_true rfl, Nat.le_of_ble_eq_true rfl⟩ hc_3 (Nat.le_of_ble_eq_true rfl) ?_
    exact r_iret (pc := 56) CR dX6_depthAt_56 (congrArg (fun z => some (Value.int z)) (gSome hr)) rfl
  · replace hr := (if_pos c_2).symm.trans hr
    refine r_iconst (pc := 24) C dX6_depthAt_24 ki0 ?_
    refine r_goto (pc := 25) (tgt := 56) C dX6_depthAt_25 rfl ?_
    exact r_iret (pc := 56) CR dX6_depthAt_56 (congrArg (fun z => some (Value.int z)) (gSome hr)) rfl
noncomputable def X6_depthAt (i0 : Nat) (p1 : Int32) (p2 : Int32) (M : gM) : Option Int32 := (if 0 ≤ (M.1 19 i0 2) then X6_depthAt_J19 i0 p1 p2 (M.1 19 i0 2) M else X6_depthAt_J19 i0 p1 p2 (-(M.1 19 i0 2)) M)
theorem k_X6_depthAt {G : gG5} {nf : Nat} {M : gM} {i0 : Nat} {p1 : Int32} {p2 : Int32} (h0 : i0 < 10) {r : Int32} (hr : X6_depthAt i0 p1 p2 M = some r) : gMet G (gXn nf) yX6_depthAt cX6_depthAt 4 (some .int) 1 22 M [.ref (gad 19 i0), .int p1, .int p2] (some (.int r)) M := by
  refine gMet_of pl_X6 rfl (Nat.le_of_ble_eq_true rfl) (fun Ψ C CR => ?_)
  show Ψ M 0 [(0, .ref (gad 19 i0)), (1, .int p1), (2, .int p2)] []
  refine r_aload_n (pc := 0) C dX6_depthAt_0 rfl 0 rfl ?_
  refine g19_2 (pc := 1) C dX6_depthAt_1 q329 (e19 (nf := nf) h0) ?_
  refine r_if_ge (pc := 4) (tgt := 15) C dX6_depthAt_4 rfl (fun c_1 => ?_) (fun c_1 => ?_)
  · replace hr := (if_pos c_1).symm.trans hr
    refine r_aload_n (pc := 15) C dX6_depthAt_15 rfl 0 rfl ?_
    refine g19_2 (pc := 16) C dX6_depthAt_16 q329 (e19 (nf := nf) h0) ?_
    exact t_X6_depthAt_J19 C CR h0 hr
  · replace hr := (if_neg c_1).symm.trans hr
    refine r_aload_n (pc := 7) C dX6_depthAt_7 rfl 0 rfl ?_
    refine g19_2 (pc := 8) C dX6_depthAt_8 q329 (e19 (nf := nf) h0) ?_
    refine r_ineg (pc := 11) C dX6_depthAt_11 ?_
    refine r_goto (pc := 12) (tgt := 19) C dX6_depthAt_12 rfl ?_
    exact t_X6_depthAt_J19 C CR h0 hr
theorem c_X6_depthAt {Ψ : gM → Nat → List (Nat × Value) → List Value → Prop} {G : gG5} {nf : Nat} {cc : ByteArray} {own : String} {nL : Nat} {ret : Option FieldType} {fr lo : Nat} {v0 : Option Value} {M0 M : gM} {pc index : Nat} {ls : List (Nat × Value)} {st : List Value} (C : gC Ψ G (gXn nf) cc own nL ret fr lo v0 M0) (d : decode cc pc = .ok (.invokevirtual index, 3)) (hl : Cond.methodLink own index yX6_depthAt ∈ gws) (hR : 2 ≤ fr ∧ 45 ≤ lo) {i0 : Nat} {p1 : Int32} {p2 : Int32} (h0 : i0 < 10) {r : Int32} (hr : X6_depthAt i0 p1 p2 M = some r) (hcat : (st.map fun v => v.category).sum ≤ 8) (k : Ψ M (pc + 3) ls (.int r :: st)) : Ψ M pc ls (.int p2 :: .int p1 :: .ref (gad 19 i0) :: st) := r_callV C [.int p1, .int p2] st d (k_X6_depthAt h0 hr) hl q822 q13 q122 q823 hd_X6_depthAt hR rfl (by decide) (e19 (nf := nf) h0) rfl hcat k
theorem hd_X6_fillDepths : yX6_fillDepths.cls ≠ "java/lang/invoke/MethodHandle" ∧ yX6_fillDepths.cls ≠ "java/lang/invoke/VarHandle" ∧ (parseMethodDescriptor yX6_fillDepths.desc).map (fun d => d.parameters.length) = some 1 := by decide +kernel
noncomputable def X6_fillDepths_L2 (i0 : Nat) (x2 : Int32) (M : gM) : Option ((Int32 × gM) ⊕ gM) := (if (M.1 12 0 6) ≤ x2 then some (.inr M) else gG (gin x2 256) (gLet ((M.1 13 0 (Int32.toNatClampNeg x2))) (fun x3_3 => gG (gin x3_3 256) (gLet ((M.1 15 0 (Int32.toNatClampNeg x3_3))) (fun x4_5 => gG (gin x3_3 256) (gLet ((M.1 16 0 (Int32.toNatClampNeg x3_3))) (fun x5_7 => (X6_covers i0 x4_5 x5_7 M).bind (fun r_9 => (if r_9 = 0 then gG (gin x3_3 256) (gLet (wI M 26 i0 (Int32.toNatClampNeg x3_3) (-1)) (fun M_12 => gLet (x2 + 1) (fun x2_13 => some (.inl (x2_13, M_12))))) else (X6_depthAt i0 x4_5 x5_7 M).bind (fun r_15 => gG (gin x3_3 256) (gLet (wI M 26 i0 (Int32.toNatClampNeg x3_3) r_15) (fun M_17 => gLet (x2 + 1) (fun x2_18 => some (.inl (x2_18, M_17)))))))))))))))
theorem t_X6_fillDepths_L2 {Ψ : gM → Nat → List (Nat × Value) → List Value → Prop} {G : gG5} {nf : Nat} {M : gM} {v0 : Option Value} {M0 : gM} {i0 : Nat} {x2 : Int32} {w : ((Int32 × gM) ⊕ gM)} (C : gC Ψ G (gXn nf) cX6_fillDepths RX6 6 none 2 45 v0 M0) (h0 : i0 < 10) (hr : X6_fillDepths_L2 i0 x2 M = some w) (hn : ∀ s, w = .inl s → Ψ s.2 2 [(0, .ref (gad 19 i0)), (1, .ref (gad 12 0)), (2, .int (s.1))] []) (hx : ∀ e, w = .inr e → (fun e => Ψ e 68 [] []) e) : Ψ M 2 [(0, .ref (gad 19 i0)), (1, .ref (gad 12 0)), (2, .int x2)] [] := by
  refine r_iload_n (pc := 2) C dX6_fillDepths_2 rfl 2 rfl ?_
  refine r_aload_n (pc := 3) C dX6_fillDepths_3 rfl 1 rfl ?_
  refine g12_6 (pc := 4) C dX6_fillDepths_4 q275 (e12 nf) ?_
  refine r_icmp_ge (pc := 7) (tgt := 68) C dX6_fillDepths_7 rfl (fun c_1 => ?_) (fun c_1 => ?_)
  · replace hr := (if_pos c_1).symm.trans hr
    refine r_sub C [] (ls' := []) rfl ?_
    exact hx M (gSome hr)
  · replace hr := (if_neg c_1).symm.trans hr
    refine r_aload_n (pc := 10) C dX6_fillDepths_10 rfl 1 rfl ?_
    refine g12_7 (pc := 11) C dX6_fillDepths_11 q280 (e12 nf) ?_
    refine r_iload_n (pc := 14) C dX6_fillDepths_14 rfl 2 rfl ?_
    obtain ⟨g_2, hr⟩ := gG_some hr
    refine r_ialdN (pc := 15) C dX6_fillDepths_15 rfl (e13 nf) g_2 rfl ?_
    obtain ⟨x3_3, ex3_3, hr⟩ := gLet_some hr
    refine r_istore_n (pc := 16) C dX6_fillDepths_16 rfl (by decide) ex3_3 (ls' := [(3, .int x3_3), (0, .ref (gad 19 i0)), (1, .ref (gad 12 0)), (2, .int x2)]) rfl ?_
    refine r_aload_n (pc := 17) C dX6_fillDepths_17 rfl 2 rfl ?_
    refine g12_9 (pc := 18) C dX6_fillDepths_18 q286 (e12 nf) ?_
    refine r_iload_n (pc := 21) C dX6_fillDepths_21 rfl 0 rfl ?_
    obtain ⟨g_4, hr⟩ := gG_some hr
    refine r_ialdN (pc := 22) C dX6_fillDepths_22 rfl (e15 nf) g_4 rfl ?_
    obtain ⟨x4_5, ex4_5, hr⟩ := gLet_some hr
    refine r_istore (pc := 23) C dX6_fillDepths_23 (by decide) ex4_5 (ls' := [(4, .int x4_5), (3, .int x3_3), (0, .ref (gad 19 i0)), (1, .ref (gad 12 0)), (2, .int x2)]) rfl ?_
    refine r_aload_n (pc := 25) C dX6_fillDepths_25 rfl 3 rfl ?_
    refine g12_10 (pc := 26) C dX6_fillDepths_26 q289 (e12 nf) ?_
    refine r_iload_n (pc := 29) C dX6_fillDepths_29 rfl 1 rfl ?_
    obtain ⟨g_6, hr⟩ := gG_some hr
    refine r_ialdN (pc := 30) C dX6_fillDepths_30 rfl (e16 nf) g_6 rfl ?_
    obtain ⟨x5_7, ex5_7, hr⟩ := gLet_some hr
    refine r_istore (pc := 31) C dX6_fillDepths_31 (by decide) ex5_7 (ls' := [(5, .int x5_7), (4, .int x4_5), (3, .int x3_3), (0, .ref (gad 19 i0)), (1, .ref (gad 12 0)), (2, .int x2)]) rfl ?_
    refine r_aload_n (pc := 33) C dX6_fillDepths_33 rfl 3 rfl ?_
    refine g19_11 (pc := 34) C dX6_fillDepths_34 q344 (e19 (nf := nf) h0) ?_
    refine r_iload_n (pc := 37) C dX6_fillDepths_37 rfl 2 rfl ?_
    refine r_aload_n (pc := 38) C dX6_fillDepths_38 rfl 3 rfl ?_
    refine r_iload (pc := 39) C dX6_fillDepths_39 1 rfl ?_
    refine r_iload (pc := 41) C dX6_fillDepths_41 0 rfl ?_
    obtain ⟨r_9, hc_8, hr⟩ := gBind_some hr
    refine c_X6_covers (pc := 43) C dX6_fillDepths_43 q816 ⟨Nat.le_of_ble_eq_true rfl, Nat.le_of_ble_eq_true rfl⟩ h0 hc_8 (Nat.le_of_ble_eq_true rfl) ?_
    refine r_if_eq (pc := 46) (tgt := 60) C dX6_fillDepths_46 rfl (fun c_10 => ?_) (fun c_10 => ?_)
    · replace hr := (if_pos c_10).symm.trans hr
      refine r_iconst (pc := 60) C dX6_fillDepths_60 kim1 ?_
      obtain ⟨g_11, hr⟩ := gG_some hr
      obtain ⟨M_12, eM_12, hr⟩ := gLet_some hr
      refine r_iastN (pc := 61) C dX6_fillDepths_61 rfl (e26 (nf := nf) h0) g_11 rfl eM_12 ?_
      obtain ⟨x2_13, ex2_13, hr⟩ := gLet_some hr
      refine r_iinc (pc := 62) C dX6_fillDepths_62 5 rfl rfl (by decide) ex2_13 (ls' := [(2, .int x2_13), (5, .int x5_7), (4, .int x4_5), (3, .int x3_3), (0, .ref (gad 19 i0)), (1, .ref (gad 12 0))]) rfl ?_
      refine r_goto (pc := 65) (tgt := 2) C dX6_fillDepths_65 rfl ?_
      refine r_sub C [4, 5, 0] (ls' := [(0, .ref (gad 19 i0)), (1, .ref (gad 12 0)), (2, .int x2_13)]) rfl ?_
      exact hn (x2_13, M_12) (gSome hr)
    · replace hr := (if_neg c_10).symm.trans hr
      refine r_aload_n (pc := 49) C dX6_fillDepths_49 rfl 3 rfl ?_
      refine r_iload (pc := 50) C dX6_fillDepths_50 1 rfl ?_
      refine r_iload (pc := 52) C dX6_fillDepths_52 0 rfl ?_
      obtain ⟨r_15, hc_14, hr⟩ := gBind_some hr
      refine c_X6_depthAt (pc := 54) C dX6_fillDepths_54 q820 ⟨Nat.le_of_ble_eq_true rfl, Nat.le_of_ble_eq_true rfl⟩ h0 hc_14 (Nat.le_of_ble_eq_true rfl) ?_
      refine r_goto (pc := 57) (tgt := 61) C dX6_fillDepths_57 rfl ?_
      obtain ⟨g_16, hr⟩ := gG_some hr
      obtain ⟨M_17, eM_17, hr⟩ := gLet_some hr
      refine r_iastN (pc := 61) C dX6_fillDepths_61 rfl (e26 (nf := nf) h0) g_16 rfl eM_17 ?_
      obtain ⟨x2_18, ex2_18, hr⟩ := gLet_some hr
      refine r_iinc (pc := 62) C dX6_fillDepths_62 5 rfl rfl (by decide) ex2_18 (ls' := [(2, .int x2_18), (5, .int x5_7), (4, .int x4_5), (3, .int x3_3), (0, .ref (gad 19 i0)), (1, .ref (gad 12 0))]) rfl ?_
      refine r_goto (pc := 65) (tgt := 2) C dX6_fillDepths_65 rfl ?_
      refine r_sub C [4, 5, 0] (ls' := [(0, .ref (gad 19 i0)), (1, .ref (gad 12 0)), (2, .int x2_18)]) rfl ?_
      exact hn (x2_18, M_17) (gSome hr)
noncomputable def X6_fillDepths (i0 : Nat) (M : gM) : Option gM := (gIter (fun s => X6_fillDepths_L2 i0 s.1 s.2) FU (0, M)).bind (fun M_19 => some M_19)
theorem k_X6_fillDepths {G : gG5} {nf : Nat} {M : gM} {i0 : Nat} (h0 : i0 < 10) {M1 : gM} (hr : X6_fillDepths i0 M = some M1) : gMet G (gXn nf) yX6_fillDepths cX6_fillDepths 6 none 2 45 M [.ref (gad 19 i0), .ref (gad 12 0)] none M1 := by
  refine gMet_of pl_X6 rfl (Nat.le_of_ble_eq_true rfl) (fun Ψ C CR => ?_)
  show Ψ M 0 [(0, .ref (gad 19 i0)), (1, .ref (gad 12 0))] []
  refine r_iconst (pc := 0) C dX6_fillDepths_0 ki0 ?_
  refine r_istore_n (pc := 1) C dX6_fillDepths_1 rfl (by decide) rfl (ls' := [(2, .int 0), (0, .ref (gad 19 i0)), (1, .ref (gad 12 0))]) rfl ?_
  refine r_sub C [1, 2, 0] (ls' := [(0, .ref (gad 19 i0)), (1, .ref (gad 12 0)), (2, .int 0)]) rfl ?_
  obtain ⟨ev, hit, hr⟩ := gBind_some hr
  refine gIter_V (step := fun s => X6_fillDepths_L2 i0 s.1 s.2) (P := fun s => Ψ s.2 2 [(0, .ref (gad 19 i0)), (1, .ref (gad 12 0)), (2, .int (s.1))] []) (K := (fun e => Ψ e 68 [] [])) (fun s w hs hn hx => t_X6_fillDepths_L2 C h0 hs hn hx) FU (0, M) ev hit ?_
  obtain ⟨M_19, rfl⟩ : ∃ z, z = ev := ⟨_, rfl⟩
  show Ψ M_19 68 [] []
  exact r_vret (pc := 68) CR dX6_fillDepths_68 rfl (gSome hr)
theorem c_X6_fillDepths {Ψ : gM → Nat → List (Nat × Value) → List Value → Prop} {G : gG5} {nf : Nat} {cc : ByteArray} {own : String} {nL : Nat} {ret : Option FieldType} {fr lo : Nat} {v0 : Option Value} {M0 M : gM} {pc index : Nat} {ls : List (Nat × Value)} {st : List Value} (C : gC Ψ G (gXn nf) cc own nL ret fr lo v0 M0) (d : decode cc pc = .ok (.invokevirtual index, 3)) (hl : Cond.methodLink own index yX6_fillDepths ∈ gws) (hR : 3 ≤ fr ∧ 70 ≤ lo) {i0 : Nat} (h0 : i0 < 10) {M1 : gM} (hr : X6_fillDepths i0 M = some M1) (hcat : (st.map fun v => v.category).sum ≤ 8) (k : Ψ M1 (pc + 3) ls (st)) : Ψ M pc ls (.ref (gad 12 0) :: .ref (gad 19 i0) :: st) := r_callV C [.ref (gad 12 0)] st d (k_X6_fillDepths h0 hr) hl q814 q12 q122 q815 hd_X6_fillDepths hR rfl (by decide) (e19 (nf := nf) h0) rfl hcat k
theorem hd_X6_fillShades : yX6_fillShades.cls ≠ "java/lang/invoke/MethodHandle" ∧ yX6_fillShades.cls ≠ "java/lang/invoke/VarHandle" ∧ (parseMethodDescriptor yX6_fillShades.desc).map (fun d => d.parameters.length) = some 2 := by decide +kernel
noncomputable def X6_fillShades_J99 (i0 : Nat) (x1 : Int32) (x2 : Int32) (x3 : Int32) (x6 : Int32) (M : gM) : Option ((Int32 × gM) ⊕ gM) := gG (gin x3 64) (gLet (wI M 27 i0 (Int32.toNatClampNeg x3) (gmax 0 (gmin 255 x6))) (fun M_8 => gLet (x3 + 1) (fun x3_9 => some (.inl (x3_9, M_8)))))
theorem t_X6_fillShades_J99 {Ψ : gM → Nat → List (Nat × Value) → List Value → Prop} {G : gG5} {nf : Nat} {M : gM} {v0 : Option Value} {M0 : gM} {i0 : Nat} {x1 : Int32} {x2 : Int32} {x3 : Int32} {x6 : Int32} {w : ((Int32 × gM) ⊕ gM)} (C : gC Ψ G (gXn nf) cX6_fillShades RX6 7 none 2 45 v0 M0) (h0 : i0 < 10) (hr : X6_fillShades_J99 i0 x1 x2 x3 x6 M = some w) (hn : ∀ s, w = .inl s → Ψ s.2 2 [(0, .ref (gad 19 i0)), (1, .int x1), (2, .int x2), (3, .int (s.1))] []) (hx : ∀ e, w = .inr e → (fun e => Ψ e 123 [] []) e) : Ψ M 99 [(0, .ref (gad 19 i0)), (1, .int x1), (2, .int x2), (3, .int x3), (6, .int x6)] [] := by
  refine r_aload_n (pc := 99) C dX6_fillShades_99 rfl 0 rfl ?_
  refine g19_12 (pc := 100) C dX6_fillShades_100 q346 (e19 (nf := nf) h0) ?_
  refine r_iload_n (pc := 103) C dX6_fillShades_103 rfl 3 rfl ?_
  refine r_iconst (pc := 104) C dX6_fillShades_104 ki0 ?_
  refine r_sipush (pc := 105) C dX6_fillShades_105 ks255 ?_
  refine r_iload (pc := 108) C dX6_fillShades_108 4 rfl ?_
  refine r_min (pc := 110) C dX6_fillShades_110 q810 (by decide) (Nat.le_of_ble_eq_true rfl) ?_
  refine r_max (pc := 113) C dX6_fillShades_113 q811 (by decide) (Nat.le_of_ble_eq_true rfl) ?_
  obtain ⟨g_7, hr⟩ := gG_some hr
  obtain ⟨M_8, eM_8, hr⟩ := gLet_some hr
  refine r_iastN (pc := 116) C dX6_fillShades_116 rfl (e27 (nf := nf) h0) g_7 rfl eM_8 ?_
  obtain ⟨x3_9, ex3_9, hr⟩ := gLet_some hr
  refine r_iinc (pc := 117) C dX6_fillShades_117 3 rfl rfl (by decide) ex3_9 (ls' := [(3, .int x3_9), (0, .ref (gad 19 i0)), (1, .int x1), (2, .int x2), (6, .int x6)]) rfl ?_
  refine r_goto (pc := 120) (tgt := 2) C dX6_fillShades_120 rfl ?_
  refine r_sub C [1, 2, 3, 0] (ls' := [(0, .ref (gad 19 i0)), (1, .int x1), (2, .int x2), (3, .int x3_9)]) rfl ?_
  exact hn (x3_9, M_8) (gSome hr)
noncomputable def X6_fillShades_J68 (i0 : Nat) (x1 : Int32) (x2 : Int32) (x3 : Int32) (x4 : Int32) (x5 : Int32) (x6 : Int32) (M : gM) : Option ((Int32 × gM) ⊕ gM) := (if x1 = 3 then (X6_depthAt i0 ((x4 * 8) + 4) ((x5 * 8) + 4) M).bind (fun r_11 => (J9_floorDiv_7cf53 r_11 4 M).bind (fun r_13 => gLet ((x2 - r_13)) (fun x6_14 => X6_fillShades_J99 i0 x1 x2 x3 x6_14 M))) else X6_fillShades_J99 i0 x1 x2 x3 x6 M)
theorem t_X6_fillShades_J68 {Ψ : gM → Nat → List (Nat × Value) → List Value → Prop} {G : gG5} {nf : Nat} {M : gM} {v0 : Option Value} {M0 : gM} {i0 : Nat} {x1 : Int32} {x2 : Int32} {x3 : Int32} {x4 : Int32} {x5 : Int32} {x6 : Int32} {w : ((Int32 × gM) ⊕ gM)} (C : gC Ψ G (gXn nf) cX6_fillShades RX6 7 none 2 45 v0 M0) (h0 : i0 < 10) (hr : X6_fillShades_J68 i0 x1 x2 x3 x4 x5 x6 M = some w) (hn : ∀ s, w = .inl s → Ψ s.2 2 [(0, .ref (gad 19 i0)), (1, .int x1), (2, .int x2), (3, .int (s.1))] []) (hx : ∀ e, w = .inr e → (fun e => Ψ e 123 [] []) e) : Ψ M 68 [(0, .ref (gad 19 i0)), (1, .int x1), (2, .int x2), (3, .int x3), (4, .int x4), (5, .int x5), (6, .int x6)] [] := by
  refine r_iload_n (pc := 68) C dX6_fillShades_68 rfl 1 rfl ?_
  refine r_iconst (pc := 69) C dX6_fillShades_69 ki3 ?_
  refine r_icmp_ne (pc := 70) (tgt := 99) C dX6_fillShades_70 rfl (fun c_6 => ?_) (fun c_6 => ?_)
  · replace hr := (if_neg c_6).symm.trans hr
    refine r_sub C [0, 1, 2, 3, 6] (ls' := [(0, .ref (gad 19 i0)), (1, .int x1), (2, .int x2), (3, .int x3), (6, .int x6)]) rfl ?_
    exact t_X6_fillShades_J99 C h0 hr hn hx
  · replace hr := (if_pos c_6).symm.trans hr
    refine r_iload_n (pc := 73) C dX6_fillShades_73 rfl 2 rfl ?_
    refine r_aload_n (pc := 74) C dX6_fillShades_74 rfl 0 rfl ?_
    refine r_iload (pc := 75) C dX6_fillShades_75 4 rfl ?_
    refine r_bipush (pc := 77) C dX6_fillShades_77 kb8 ?_
    refine r_imul (pc := 79) C dX6_fillShades_79 ?_
    refine r_iconst (pc := 80) C dX6_fillShades_80 ki4 ?_
    refine r_iadd (pc := 81) C dX6_fillShades_81 ?_
    refine r_iload (pc := 82) C dX6_fillShades_82 5 rfl ?_
    refine r_bipush (pc := 84) C dX6_fillShades_84 kb8 ?_
    refine r_imul (pc := 86) C dX6_fillShades_86 ?_
    refine r_iconst (pc := 87) C dX6_fillShades_87 ki4 ?_
    refine r_iadd (pc := 88) C dX6_fillShades_88 ?_
    obtain ⟨r_11, hc_10, hr⟩ := gBind_some hr
    refine c_X6_depthAt (pc := 89) C dX6_fillShades_89 q820 ⟨Nat.le_of_ble_eq_true rfl, Nat.le_of_ble_eq_true rfl⟩ h0 hc_10 (Nat.le_of_ble_eq_true rfl) ?_
    refine r_iconst (pc := 92) C dX6_fillShades_92 ki4 ?_
    obtain ⟨r_13, hc_12, hr⟩ := gBind_some hr
    refine c_J9_floorDiv_7cf53 (pc := 93) C dX6_fillShades_93 q824 ⟨Nat.le_of_ble_eq_true rfl, Nat.le_of_ble_eq_true rfl⟩ hc_12 (Nat.le_of_ble_eq_true rfl) ?_
    refine r_isub (pc := 96) C dX6_fillShades_96 ?_
    obtain ⟨x6_14, ex6_14, hr⟩ := gLet_some hr
    refine r_istore (pc := 97) C dX6_fillShades_97 (by decide) ex6_14 (ls' := [(6, .int x6_14), (0, .ref (gad 19 i0)), (1, .int x1), (2, .int x2), (3, .int x3), (4, .int x4), (5, .int x5)]) rfl ?_
    refine r_sub C [1, 2, 3, 4, 0] (ls' := [(0, .ref (gad 19 i0)), (1, .int x1), (2, .int x2), (3, .int x3), (6, .int x6_14)]) rfl ?_
    exact t_X6_fillShades_J99 C h0 hr hn hx
noncomputable def X6_fillShades_J48 (i0 : Nat) (x1 : Int32) (x2 : Int32) (x3 : Int32) (x4 : Int32) (x5 : Int32) (x6 : Int32) (M : gM) : Option ((Int32 × gM) ⊕ gM) := (if x1 = 2 then (if (gRem x5 2) = 0 then X6_fillShades_J68 i0 x1 x2 x3 x4 x5 x6 M else gLet ((x2 / 2)) (fun x6_16 => X6_fillShades_J99 i0 x1 x2 x3 x6_16 M)) else X6_fillShades_J68 i0 x1 x2 x3 x4 x5 x6 M)
theorem t_X6_fillShades_J48 {Ψ : gM → Nat → List (Nat × Value) → List Value → Prop} {G : gG5} {nf : Nat} {M : gM} {v0 : Option Value} {M0 : gM} {i0 : Nat} {x1 : Int32} {x2 : Int32} {x3 : Int32} {x4 : Int32} {x5 : Int32} {x6 : Int32} {w : ((Int32 × gM) ⊕ gM)} (C : gC Ψ G (gXn nf) cX6_fillShades RX6 7 none 2 45 v0 M0) (h0 : i0 < 10) (hr : X6_fillShades_J48 i0 x1 x2 x3 x4 x5 x6 M = some w) (hn : ∀ s, w = .inl s → Ψ s.2 2 [(0, .ref (gad 19 i0)), (1, .int x1), (2, .int x2), (3, .int (s.1))] []) (hx : ∀ e, w = .inr e → (fun e => Ψ e 123 [] []) e) : Ψ M 48 [(0, .ref (gad 19 i0)), (1, .int x1), (2, .int x2), (3, .int x3), (4, .int x4), (5, .int x5), (6, .int x6)] [] := by
  refine r_iload_n (pc := 48) C dX6_fillShades_48 rfl 1 rfl ?_
  refine r_iconst (pc := 49) C dX6_fillShades_49 ki2 ?_
  refine r_icmp_ne (pc := 50) (tgt := 68) C dX6_fillShades_50 rfl (fun c_5 => ?_) (fun c_5 => ?_)
  · replace hr := (if_neg c_5).symm.trans hr
    exact t_X6_fillShades_J68 C h0 hr hn hx
  · replace hr := (if_pos c_5).symm.trans hr
    refine r_iload (pc := 53) C dX6_fillShades_53 5 rfl ?_
    refine r_iconst (pc := 55) C dX6_fillShades_55 ki2 ?_
    refine r_irem (pc := 56) C dX6_fillShades_56 (by decide) ?_
    refine r_if_eq (pc := 57) (tgt := 68) C dX6_fillShades_57 rfl (fun c_15 => ?_) (fun c_15 => ?_)
    · replace hr := (if_pos c_15).symm.trans hr
      exact t_X6_fillShades_J68 C h0 hr hn hx
    · replace hr := (if_neg c_15).symm.trans hr
      refine r_iload_n (pc := 60) C dX6_fillShades_60 rfl 2 rfl ?_
      refine r_iconst (pc := 61) C dX6_fillShades_61 ki2 ?_
      refine r_idiv (pc := 62) C dX6_fillShades_62 (by decide) ?_
      obtain ⟨x6_16, ex6_16, hr⟩ := gLet_some hr
      refine r_istore (pc := 63) C dX6_fillShades_63 (by decide) ex6_16 (ls' := [(6, .int x6_16), (0, .ref (gad 19 i0)), (1, .int x1), (2, .int x2), (3, .int x3), (4, .int x4), (5, .int x5)]) rfl ?_
      refine r_goto (pc := 65) (tgt := 99) C dX6_fillShades_65 rfl ?_
      refine r_sub C [1, 2, 3, 4, 0] (ls' := [(0, .ref (gad 19 i0)), (1, .int x1), (2, .int x2), (3, .int x3), (6, .int x6_16)]) rfl ?_
      exact t_X6_fillShades_J99 C h0 hr hn hx
noncomputable def X6_fillShades_L2 (i0 : Nat) (x1 : Int32) (x2 : Int32) (x3 : Int32) (M : gM) : Option ((Int32 × gM) ⊕ gM) := (if 64 ≤ x3 then some (.inr M) else gLet ((gRem x3 8)) (fun x4_2 => gLet ((x3 / 8)) (fun x5_3 => (if x1 = 1 then (if (gRem (x4_2 + x5_3) 2) = 0 then X6_fillShades_J48 i0 x1 x2 x3 x4_2 x5_3 x2 M else gLet ((255 - x2)) (fun x6_18 => X6_fillShades_J99 i0 x1 x2 x3 x6_18 M)) else X6_fillShades_J48 i0 x1 x2 x3 x4_2 x5_3 x2 M))))
theorem t_X6_fillShades_L2 {Ψ : gM → Nat → List (Nat × Value) → List Value → Prop} {G : gG5} {nf : Nat} {M : gM} {v0 : Option Value} {M0 : gM} {i0 : Nat} {x1 : Int32} {x2 : Int32} {x3 : Int32} {w : ((Int32 × gM) ⊕ gM)} (C : gC Ψ G (gXn nf) cX6_fillShades RX6 7 none 2 45 v0 M0) (h0 : i0 < 10) (hr : X6_fillShades_L2 i0 x1 x2 x3 M = some w) (hn : ∀ s, w = .inl s → Ψ s.2 2 [(0, .ref (gad 19 i0)), (1, .int x1), (2, .int x2), (3, .int (s.1))] []) (hx : ∀ e, w = .inr e → (fun e => Ψ e 123 [] []) e) : Ψ M 2 [(0, .ref (gad 19 i0)), (1, .int x1), (2, .int x2), (3, .int x3)] [] := by
  refine r_iload_n (pc := 2) C dX6_fillShades_2 rfl 3 rfl ?_
  refine r_bipush (pc := 3) C dX6_fillShades_3 kb64 ?_
  refine r_icmp_ge (pc := 5) (tgt := 123) C dX6_fillShades_5 rfl (fun c_1 => ?_) (fun c_1 => ?_)
  · replace hr := (if_pos c_1).symm.trans hr
    refine r_sub C [] (ls' := []) rfl ?_
    exact hx M (gSome hr)
  · replace hr := (if_neg c_1).symm.trans hr
    refine r_iload_n (pc := 8) C dX6_fillShades_8 rfl 3 rfl ?_
    refine r_bipush (pc := 9) C dX6_fillShades_9 kb8 ?_
    refine r_irem (pc := 11) C dX6_fillShades_11 (by decide) ?_
    obtain ⟨x4_2, ex4_2, hr⟩ := gLet_some hr
    refine r_istore (pc := 12) C dX6_fillShades_12 (by decide) ex4_2 (ls' := [(4, .int x4_2), (0, .ref (gad 19 i0)), (1, .int x1), (2, .int x2), (3, .int x3)]) rfl ?_
    refine r_iload_n (pc := 14) C dX6_fillShades_14 rfl 4 rfl ?_
    refine r_bipush (pc := 15) C dX6_fillShades_15 kb8 ?_
    refine r_idiv (pc := 17) C dX6_fillShades_17 (by decide) ?_
    obtain ⟨x5_3, ex5_3, hr⟩ := gLet_some hr
    refine r_istore (pc := 18) C dX6_fillShades_18 (by decide) ex5_3 (ls' := [(5, .int x5_3), (4, .int x4_2), (0, .ref (gad 19 i0)), (1, .int x1), (2, .int x2), (3, .int x3)]) rfl ?_
    refine r_iload_n (pc := 20) C dX6_fillShades_20 rfl 4 rfl ?_
    refine r_istore (pc := 21) C dX6_fillShades_21 (by decide) rfl (ls' := [(6, .int x2), (5, .int x5_3), (4, .int x4_2), (0, .ref (gad 19 i0)), (1, .int x1), (2, .int x2), (3, .int x3)]) rfl ?_
    refine r_iload_n (pc := 23) C dX6_fillShades_23 rfl 4 rfl ?_
    refine r_iconst (pc := 24) C dX6_fillShades_24 ki1 ?_
    refine r_icmp_ne (pc := 25) (tgt := 48) C dX6_fillShades_25 rfl (fun c_4 => ?_) (fun c_4 => ?_)
    · replace hr := (if_neg c_4).symm.trans hr
      refine r_sub C [3, 4, 5, 6, 2, 1, 0] (ls' := [(0, .ref (gad 19 i0)), (1, .int x1), (2, .int x2), (3, .int x3), (4, .int x4_2), (5, .int x5_3), (6, .int x2)]) rfl ?_
      exact t_X6_fillShades_J48 C h0 hr hn hx
    · replace hr := (if_pos c_4).symm.trans hr
      refine r_iload (pc := 28) C dX6_fillShades_28 2 rfl ?_
      refine r_iload (pc := 30) C dX6_fillShades_30 1 rfl ?_
      refine r_iadd (pc := 32) C dX6_fillShades_32 ?_
      refine r_iconst (pc := 33) C dX6_fillShades_33 ki2 ?_
      refine r_irem (pc := 34) C dX6_fillShades_34 (by decide) ?_
      refine r_if_eq (pc := 35) (tgt := 48) C dX6_fillShades_35 rfl (fun c_17 => ?_) (fun c_17 => ?_)
      · replace hr := (if_pos c_17).symm.trans hr
        refine r_sub C [3, 4, 5, 6, 2, 1, 0] (ls' := [(0, .ref (gad 19 i0)), (1, .int x1), (2, .int x2), (3, .int x3), (4, .int x4_2), (5, .int x5_3), (6, .int x2)]) rfl ?_
        exact t_X6_fillShades_J48 C h0 hr hn hx
      · replace hr := (if_neg c_17).symm.trans hr
        refine r_sipush (pc := 38) C dX6_fillShades_38 ks255 ?_
        refine r_iload_n (pc := 41) C dX6_fillShades_41 rfl 5 rfl ?_
        refine r_isub (pc := 42) C dX6_fillShades_42 ?_
        obtain ⟨x6_18, ex6_18, hr⟩ := gLet_some hr
        refine r_istore (pc := 43) C dX6_fillShades_43 (by decide) ex6_18 (ls' := [(6, .int x6_18), (5, .int x5_3), (4, .int x4_2), (0, .ref (gad 19 i0)), (1, .int x1), (2, .int x2), (3, .int x3)]) rfl ?_
        refine r_goto (pc := 45) (tgt := 99) C dX6_fillShades_45 rfl ?_
        refine r_sub C [3, 4, 5, 6, 0] (ls' := [(0, .ref (gad 19 i0)), (1, .int x1), (2, .int x2), (3, .int x3), (6, .int x6_18)]) rfl ?_
        exact t_X6_fillShades_J99 C h0 hr hn hx
noncomputable def X6_fillShades (i0 : Nat) (p1 : Int32) (p2 : Int32) (M : gM) : Option gM := (gIter (fun s => X6_fillShades_L2 i0 p1 p2 s.1 s.2) FU (0, M)).bind (fun M_19 => some M_19)
theorem k_X6_fillShades {G : gG5} {nf : Nat} {M : gM} {i0 : Nat} {p1 : Int32} {p2 : Int32} (h0 : i0 < 10) {M1 : gM} (hr : X6_fillShades i0 p1 p2 M = some M1) : gMet G (gXn nf) yX6_fillShades cX6_fillShades 7 none 2 45 M [.ref (gad 19 i0), .int p1, .int p2] none M1 := by
  refine gMet_of pl_X6 rfl (Nat.le_of_ble_eq_true rfl) (fun Ψ C CR => ?_)
  show Ψ M 0 [(0, .ref (gad 19 i0)), (1, .int p1), (2, .int p2)] []
  refine r_iconst (pc := 0) C dX6_fillShades_0 ki0 ?_
  refine r_istore_n (pc := 1) C dX6_fillShades_1 rfl (by decide) rfl (ls' := [(3, .int 0), (0, .ref (gad 19 i0)), (1, .int p1), (2, .int p2)]) rfl ?_
  refine r_sub C [1, 2, 3, 0] (ls' := [(0, .ref (gad 19 i0)), (1, .int p1), (2, .int p2), (3, .int 0)]) rfl ?_
  obtain ⟨ev, hit, hr⟩ := gBind_some hr
  refine gIter_V (step := fun s => X6_fillShades_L2 i0 p1 p2 s.1 s.2) (P := fun s => Ψ s.2 2 [(0, .ref (gad 19 i0)), (1, .int p1), (2, .int p2), (3, .int (s.1))] []) (K := (fun e => Ψ e 123 [] [])) (fun s w hs hn hx => t_X6_fillShades_L2 C h0 hs hn hx) FU (0, M) ev hit ?_
  obtain ⟨M_19, rfl⟩ : ∃ z, z = ev := ⟨_, rfl⟩
  show Ψ M_19 123 [] []
  exact r_vret (pc := 123) CR dX6_fillShades_123 rfl (gSome hr)
theorem c_X6_fillShades {Ψ : gM → Nat → List (Nat × Value) → List Value → Prop} {G : gG5} {nf : Nat} {cc : ByteArray} {own : String} {nL : Nat} {ret : Option FieldType} {fr lo : Nat} {v0 : Option Value} {M0 M : gM} {pc index : Nat} {ls : List (Nat × Value)} {st : List Value} (C : gC Ψ G (gXn nf) cc own nL ret fr lo v0 M0) (d : decode cc pc = .ok (.invokevirtual index, 3)) (hl : Cond.methodLink own index yX6_fillShades ∈ gws) (hR : 3 ≤ fr ∧ 71 ≤ lo) {i0 : Nat} {p1 : Int32} {p2 : Int32} (h0 : i0 < 10) {M1 : gM} (hr : X6_fillShades i0 p1 p2 M = some M1) (hcat : (st.map fun v => v.category).sum ≤ 8) (k : Ψ M1 (pc + 3) ls (st)) : Ψ M pc ls (.int p2 :: .int p1 :: .ref (gad 19 i0) :: st) := r_callV C [.int p1, .int p2] st d (k_X6_fillShades h0 hr) hl q829 q14 q122 q830 hd_X6_fillShades hR rfl (by decide) (e19 (nf := nf) h0) rfl hcat k
theorem hd_X6_isBeside : yX6_isBeside.cls ≠ "java/lang/invoke/MethodHandle" ∧ yX6_isBeside.cls ≠ "java/lang/invoke/VarHandle" ∧ (parseMethodDescriptor yX6_isBeside.desc).map (fun d => d.parameters.length) = some 3 := by decide +kernel
noncomputable def X6_isBeside (i0 : Nat) (p1 : Int32) (p2 : Int32) (p3 : Int32) (M : gM) : Option Int32 := gG (gin p1 6) (gG (gin (2 + p1) 6) (gG (gin (4 + p1) 6) (gLet ((gmin (M.1 20 i0 (Int32.toNatClampNeg p1)) (gmin (M.1 20 i0 (Int32.toNatClampNeg (2 + p1))) (M.1 20 i0 (Int32.toNatClampNeg (4 + p1)))))) (fun x4_4 => gG (gin p1 6) (gG (gin (2 + p1) 6) (gG (gin (4 + p1) 6) (gLet ((gmax (M.1 20 i0 (Int32.toNatClampNeg p1)) (gmax (M.1 20 i0 (Int32.toNatClampNeg (2 + p1))) (M.1 20 i0 (Int32.toNatClampNeg (4 + p1)))))) (fun x5_8 => (if x5_8 < p2 then some 1 else (if x4_4 ≤ p3 then some 0 else some 1))))))))))
theorem k_X6_isBeside {G : gG5} {nf : Nat} {M : gM} {i0 : Nat} {p1 : Int32} {p2 : Int32} {p3 : Int32} (h0 : i0 < 10) {r : Int32} (hr : X6_isBeside i0 p1 p2 p3 M = some r) : gMet G (gXn nf) yX6_isBeside cX6_isBeside 6 (some .boolean) 1 21 M [.ref (gad 19 i0), .int p1, .int p2, .int p3] (some (.int r)) M := by
  refine gMet_of pl_X6 rfl (Nat.le_of_ble_eq_true rfl) (fun Ψ C CR => ?_)
  show Ψ M 0 [(0, .ref (gad 19 i0)), (1, .int p1), (2, .int p2), (3, .int p3)] []
  refine r_aload_n (pc := 0) C dX6_isBeside_0 rfl 0 rfl ?_
  refine g19_0 (pc := 1) C dX6_isBeside_1 q327 (e19 (nf := nf) h0) ?_
  refine r_iload_n (pc := 4) C dX6_isBeside_4 rfl 1 rfl ?_
  obtain ⟨g_1, hr⟩ := gG_some hr
  refine r_ialdN (pc := 5) C dX6_isBeside_5 rfl (e20 (nf := nf) h0) g_1 rfl ?_
  refine r_aload_n (pc := 6) C dX6_isBeside_6 rfl 0 rfl ?_
  refine g19_0 (pc := 7) C dX6_isBeside_7 q327 (e19 (nf := nf) h0) ?_
  refine r_iconst (pc := 10) C dX6_isBeside_10 ki2 ?_
  refine r_iload_n (pc := 11) C dX6_isBeside_11 rfl 1 rfl ?_
  refine r_iadd (pc := 12) C dX6_isBeside_12 ?_
  obtain ⟨g_2, hr⟩ := gG_some hr
  refine r_ialdN (pc := 13) C dX6_isBeside_13 rfl (e20 (nf := nf) h0) g_2 rfl ?_
  refine r_aload_n (pc := 14) C dX6_isBeside_14 rfl 0 rfl ?_
  refine g19_0 (pc := 15) C dX6_isBeside_15 q327 (e19 (nf := nf) h0) ?_
  refine r_iconst (pc := 18) C dX6_isBeside_18 ki4 ?_
  refine r_iload_n (pc := 19) C dX6_isBeside_19 rfl 1 rfl ?_
  refine r_iadd (pc := 20) C dX6_isBeside_20 ?_
  obtain ⟨g_3, hr⟩ := gG_some hr
  refine r_ialdN (pc := 21) C dX6_isBeside_21 rfl (e20 (nf := nf) h0) g_3 rfl ?_
  refine r_min (pc := 22) C dX6_isBeside_22 q810 (by decide) (Nat.le_of_ble_eq_true rfl) ?_
  refine r_min (pc := 25) C dX6_isBeside_25 q810 (by decide) (Nat.le_of_ble_eq_true rfl) ?_
  obtain ⟨x4_4, ex4_4, hr⟩ := gLet_some hr
  refine r_istore (pc := 28) C dX6_isBeside_28 (by decide) ex4_4 (ls' := [(4, .int x4_4), (0, .ref (gad 19 i0)), (1, .int p1), (2, .int p2), (3, .int p3)]) rfl ?_
  refine r_aload_n (pc := 30) C dX6_isBeside_30 rfl 1 rfl ?_
  refine g19_0 (pc := 31) C dX6_isBeside_31 q327 (e19 (nf := nf) h0) ?_
  refine r_iload_n (pc := 34) C dX6_isBeside_34 rfl 2 rfl ?_
  obtain ⟨g_5, hr⟩ := gG_some hr
  refine r_ialdN (pc := 35) C dX6_isBeside_35 rfl (e20 (nf := nf) h0) g_5 rfl ?_
  refine r_aload_n (pc := 36) C dX6_isBeside_36 rfl 1 rfl ?_
  refine g19_0 (pc := 37) C dX6_isBeside_37 q327 (e19 (nf := nf) h0) ?_
  refine r_iconst (pc := 40) C dX6_isBeside_40 ki2 ?_
  refine r_iload_n (pc := 41) C dX6_isBeside_41 rfl 2 rfl ?_
  refine r_iadd (pc := 42) C dX6_isBeside_42 ?_
  obtain ⟨g_6, hr⟩ := gG_some hr
  refine r_ialdN (pc := 43) C dX6_isBeside_43 rfl (e20 (nf := nf) h0) g_6 rfl ?_
  refine r_aload_n (pc := 44) C dX6_isBeside_44 rfl 1 rfl ?_
  refine g19_0 (pc := 45) C dX6_isBeside_45 q327 (e19 (nf := nf) h0) ?_
  refine r_iconst (pc := 48) C dX6_isBeside_48 ki4 ?_
  refine r_iload_n (pc := 49) C dX6_isBeside_49 rfl 2 rfl ?_
  refine r_iadd (pc := 50) C dX6_isBeside_50 ?_
  obtain ⟨g_7, hr⟩ := gG_some hr
  refine r_ialdN (pc := 51) C dX6_isBeside_51 rfl (e20 (nf := nf) h0) g_7 rfl ?_
  refine r_max (pc := 52) C dX6_isBeside_52 q811 (by decide) (Nat.le_of_ble_eq_true rfl) ?_
  refine r_max (pc := 55) C dX6_isBeside_55 q811 (by decide) (Nat.le_of_ble_eq_true rfl) ?_
  obtain ⟨x5_8, ex5_8, hr⟩ := gLet_some hr
  refine r_istore (pc := 58) C dX6_isBeside_58 (by decide) ex5_8 (ls' := [(5, .int x5_8), (4, .int x4_4), (0, .ref (gad 19 i0)), (1, .int p1), (2, .int p2), (3, .int p3)]) rfl ?_
  refine r_iload (pc := 60) C dX6_isBeside_60 0 rfl ?_
  refine r_iload_n (pc := 62) C dX6_isBeside_62 rfl 4 rfl ?_
  refine r_icmp_lt (pc := 63) (tgt := 72) C dX6_isBeside_63 rfl (fun c_9 => ?_) (fun c_9 => ?_)
  · replace hr := (if_pos c_9).symm.trans hr
    refine r_iconst (pc := 72) C dX6_isBeside_72 ki1 ?_
    refine r_goto (pc := 73) (tgt := 77) C dX6_isBeside_73 rfl ?_
    exact r_zret (pc := 77) CR dX6_isBeside_77 rfl (congrArg (fun z => some (Value.int z)) (gSome hr)) rfl
  · replace hr := (if_neg c_9).symm.trans hr
    refine r_iload (pc := 66) C dX6_isBeside_66 1 rfl ?_
    refine r_iload_n (pc := 68) C dX6_isBeside_68 rfl 5 rfl ?_
    refine r_icmp_le (pc := 69) (tgt := 76) C dX6_isBeside_69 rfl (fun c_10 => ?_) (fun c_10 => ?_)
    · replace hr := (if_pos c_10).symm.trans hr
      refine r_iconst (pc := 76) C dX6_isBeside_76 ki0 ?_
      exact r_zret (pc := 77) CR dX6_isBeside_77 rfl (congrArg (fun z => some (Value.int z)) (gSome hr)) rfl
    · replace hr := (if_neg c_10).symm.trans hr
      refine r_iconst (pc := 72) C dX6_isBeside_72 ki1 ?_
      refine r_goto (pc := 73) (tgt := 77) C dX6_isBeside_73 rfl ?_
      exact r_zret (pc := 77) CR dX6_isBeside_77 rfl (congrArg (fun z => some (Value.int z)) (gSome hr)) rfl
theorem c_X6_isBeside {Ψ : gM → Nat → List (Nat × Value) → List Value → Prop} {G : gG5} {nf : Nat} {cc : ByteArray} {own : String} {nL : Nat} {ret : Option FieldType} {fr lo : Nat} {v0 : Option Value} {M0 M : gM} {pc index : Nat} {ls : List (Nat × Value)} {st : List Value} (C : gC Ψ G (gXn nf) cc own nL ret fr lo v0 M0) (d : decode cc pc = .ok (.invokevirtual index, 3)) (hl : Cond.methodLink own index yX6_isBeside ∈ gws) (hR : 2 ≤ fr ∧ 46 ≤ lo) {i0 : Nat} {p1 : Int32} {p2 : Int32} {p3 : Int32} (h0 : i0 < 10) {r : Int32} (hr : X6_isBeside i0 p1 p2 p3 M = some r) (hcat : (st.map fun v => v.category).sum ≤ 8) (k : Ψ M (pc + 3) ls (.int r :: st)) : Ψ M pc ls (.int p3 :: .int p2 :: .int p1 :: .ref (gad 19 i0) :: st) := r_callV C [.int p1, .int p2, .int p3] st d (k_X6_isBeside h0 hr) hl q841 q16 q122 q842 hd_X6_isBeside hR rfl (by decide) (e19 (nf := nf) h0) rfl hcat k
theorem hd_X6_sumAt : yX6_sumAt.cls ≠ "java/lang/invoke/MethodHandle" ∧ yX6_sumAt.cls ≠ "java/lang/invoke/VarHandle" ∧ (parseMethodDescriptor yX6_sumAt.desc).map (fun d => d.parameters.length) = some 3 := by decide +kernel
noncomputable def X6_sumAt (i0 : Nat) (p1 : Int32) (p2 : Int32) (p3 : Int32) (M : gM) : Option Int32 := gG (gin p1 3) (gG (gin p1 3) (gG (gin p1 3) (some ((((M.1 21 i0 (Int32.toNatClampNeg p1)) * p2) + ((M.1 22 i0 (Int32.toNatClampNeg p1)) * p3)) + (M.1 23 i0 (Int32.toNatClampNeg p1))))))
theorem k_X6_sumAt {G : gG5} {nf : Nat} {M : gM} {i0 : Nat} {p1 : Int32} {p2 : Int32} {p3 : Int32} (h0 : i0 < 10) {r : Int32} (hr : X6_sumAt i0 p1 p2 p3 M = some r) : gMet G (gXn nf) yX6_sumAt cX6_sumAt 4 (some .int) 0 0 M [.ref (gad 19 i0), .int p1, .int p2, .int p3] (some (.int r)) M := by
  refine gMet_of pl_X6 rfl (Nat.le_of_ble_eq_true rfl) (fun Ψ C CR => ?_)
  show Ψ M 0 [(0, .ref (gad 19 i0)), (1, .int p1), (2, .int p2), (3, .int p3)] []
  refine r_aload_n (pc := 0) C dX6_sumAt_0 rfl 0 rfl ?_
  refine g19_6 (pc := 1) C dX6_sumAt_1 q339 (e19 (nf := nf) h0) ?_
  refine r_iload_n (pc := 4) C dX6_sumAt_4 rfl 1 rfl ?_
  obtain ⟨g_1, hr⟩ := gG_some hr
  refine r_ialdN (pc := 5) C dX6_sumAt_5 rfl (e21 (nf := nf) h0) g_1 rfl ?_
  refine r_iload_n (pc := 6) C dX6_sumAt_6 rfl 2 rfl ?_
  refine r_imul (pc := 7) C dX6_sumAt_7 ?_
  refine r_aload_n (pc := 8) C dX6_sumAt_8 rfl 0 rfl ?_
  refine g19_7 (pc := 9) C dX6_sumAt_9 q340 (e19 (nf := nf) h0) ?_
  refine r_iload_n (pc := 12) C dX6_sumAt_12 rfl 1 rfl ?_
  obtain ⟨g_2, hr⟩ := gG_some hr
  refine r_ialdN (pc := 13) C dX6_sumAt_13 rfl (e22 (nf := nf) h0) g_2 rfl ?_
  refine r_iload_n (pc := 14) C dX6_sumAt_14 rfl 3 rfl ?_
  refine r_imul (pc := 15) C dX6_sumAt_15 ?_
  refine r_iadd (pc := 16) C dX6_sumAt_16 ?_
  refine r_aload_n (pc := 17) C dX6_sumAt_17 rfl 0 rfl ?_
  refine g19_8 (pc := 18) C dX6_sumAt_18 q341 (e19 (nf := nf) h0) ?_
  refine r_iload_n (pc := 21) C dX6_sumAt_21 rfl 1 rfl ?_
  obtain ⟨g_3, hr⟩ := gG_some hr
  refine r_ialdN (pc := 22) C dX6_sumAt_22 rfl (e23 (nf := nf) h0) g_3 rfl ?_
  refine r_iadd (pc := 23) C dX6_sumAt_23 ?_
  exact r_iret (pc := 24) CR dX6_sumAt_24 (congrArg (fun z => some (Value.int z)) (gSome hr)) rfl
theorem c_X6_sumAt {Ψ : gM → Nat → List (Nat × Value) → List Value → Prop} {G : gG5} {nf : Nat} {cc : ByteArray} {own : String} {nL : Nat} {ret : Option FieldType} {fr lo : Nat} {v0 : Option Value} {M0 M : gM} {pc index : Nat} {ls : List (Nat × Value)} {st : List Value} (C : gC Ψ G (gXn nf) cc own nL ret fr lo v0 M0) (d : decode cc pc = .ok (.invokevirtual index, 3)) (hl : Cond.methodLink own index yX6_sumAt ∈ gws) (hR : 1 ≤ fr ∧ 23 ≤ lo) {i0 : Nat} {p1 : Int32} {p2 : Int32} {p3 : Int32} (h0 : i0 < 10) {r : Int32} (hr : X6_sumAt i0 p1 p2 p3 M = some r) (hcat : (st.map fun v => v.category).sum ≤ 8) (k : Ψ M (pc + 3) ls (.int r :: st)) : Ψ M pc ls (.int p3 :: .int p2 :: .int p1 :: .ref (gad 19 i0) :: st) := r_callV C [.int p1, .int p2, .int p3] st d (k_X6_sumAt h0 hr) hl q848 q849 q122 q850 hd_X6_sumAt hR rfl (by decide) (e19 (nf := nf) h0) rfl hcat k
theorem hd_X6_isOutside : yX6_isOutside.cls ≠ "java/lang/invoke/MethodHandle" ∧ yX6_isOutside.cls ≠ "java/lang/invoke/VarHandle" ∧ (parseMethodDescriptor yX6_isOutside.desc).map (fun d => d.parameters.length) = some 4 := by decide +kernel
noncomputable def X6_isOutside_L3 (i0 : Nat) (x1 : Int32) (x2 : Int32) (x3 : Int32) (x4 : Int32) (x5 : Int32) (M : gM) : Option (Int32 ⊕ (Unit ⊕ Unit)) := (if 3 ≤ x5 then some (.inr (.inr ())) else (X6_sumAt i0 x5 x1 x3 M).bind (fun r_3 => (X6_sumAt i0 x5 x2 x3 M).bind (fun r_5 => gLet ((gmax r_3 r_5)) (fun x6_6 => (X6_sumAt i0 x5 x1 x4 M).bind (fun r_8 => (X6_sumAt i0 x5 x2 x4 M).bind (fun r_10 => gLet ((gmax r_8 r_10)) (fun x7_11 => (if 0 ≤ x6_6 then gLet (x5 + 1) (fun x5_13 => some (.inl x5_13)) else (if 0 ≤ x7_11 then gLet (x5 + 1) (fun x5_15 => some (.inl x5_15)) else some (.inr (.inl ())))))))))))
theorem t_X6_isOutside_L3 {Ψ : gM → Nat → List (Nat × Value) → List Value → Prop} {G : gG5} {nf : Nat} {M : gM} {v0 : Option Value} {M0 : gM} {i0 : Nat} {x1 : Int32} {x2 : Int32} {x3 : Int32} {x4 : Int32} {x5 : Int32} {w : (Int32 ⊕ (Unit ⊕ Unit))} (C : gC Ψ G (gXn nf) cX6_isOutside RX6 8 (some .boolean) 1 23 v0 M0) (h0 : i0 < 10) (hr : X6_isOutside_L3 i0 x1 x2 x3 x4 x5 M = some w) (hn : ∀ s, w = .inl s → Ψ M 3 [(0, .ref (gad 19 i0)), (1, .int x1), (2, .int x2), (3, .int x3), (4, .int x4), (5, .int s)] []) (hx : ∀ e, w = .inr e → (gSP (fun e => Ψ M 63 [] []) (fun e => Ψ M 71 [] [])) e) : Ψ M 3 [(0, .ref (gad 19 i0)), (1, .int x1), (2, .int x2), (3, .int x3), (4, .int x4), (5, .int x5)] [] := by
  refine r_iload (pc := 3) C dX6_isOutside_3 5 rfl ?_
  refine r_iconst (pc := 5) C dX6_isOutside_5 ki3 ?_
  refine r_icmp_ge (pc := 6) (tgt := 71) C dX6_isOutside_6 rfl (fun c_1 => ?_) (fun c_1 => ?_)
  · replace hr := (if_pos c_1).symm.trans hr
    refine r_sub C [] (ls' := []) rfl ?_
    exact hx (.inr ()) (gSome hr)
  · replace hr := (if_neg c_1).symm.trans hr
    refine r_aload_n (pc := 9) C dX6_isOutside_9 rfl 0 rfl ?_
    refine r_iload (pc := 10) C dX6_isOutside_10 5 rfl ?_
    refine r_iload_n (pc := 12) C dX6_isOutside_12 rfl 1 rfl ?_
    refine r_iload_n (pc := 13) C dX6_isOutside_13 rfl 3 rfl ?_
    obtain ⟨r_3, hc_2, hr⟩ := gBind_some hr
    refine c_X6_sumAt (pc := 14) C dX6_isOutside_14 q847 ⟨Nat.le_of_ble_eq_true rfl, Nat.le_of_ble_eq_true rfl⟩ h0 hc_2 (Nat.le_of_ble_eq_true rfl) ?_
    refine r_aload_n (pc := 17) C dX6_isOutside_17 rfl 0 rfl ?_
    refine r_iload (pc := 18) C dX6_isOutside_18 5 rfl ?_
    refine r_iload_n (pc := 20) C dX6_isOutside_20 rfl 2 rfl ?_
    refine r_iload_n (pc := 21) C dX6_isOutside_21 rfl 3 rfl ?_
    obtain ⟨r_5, hc_4, hr⟩ := gBind_some hr
    refine c_X6_sumAt (pc := 22) C dX6_isOutside_22 q847 ⟨Nat.le_of_ble_eq_true rfl, Nat.le_of_ble_eq_true rfl⟩ h0 hc_4 (Nat.le_of_ble_eq_true rfl) ?_
    refine r_max (pc := 25) C dX6_isOutside_25 q811 (by decide) (Nat.le_of_ble_eq_true rfl) ?_
    obtain ⟨x6_6, ex6_6, hr⟩ := gLet_some hr
    refine r_istore (pc := 28) C dX6_isOutside_28 (by decide) ex6_6 (ls' := [(6, .int x6_6), (0, .ref (gad 19 i0)), (1, .int x1), (2, .int x2), (3, .int x3), (4, .int x4), (5, .int x5)]) rfl ?_
    refine r_aload_n (pc := 30) C dX6_isOutside_30 rfl 1 rfl ?_
    refine r_iload (pc := 31) C dX6_isOutside_31 6 rfl ?_
    refine r_iload_n (pc := 33) C dX6_isOutside_33 rfl 2 rfl ?_
    refine r_iload (pc := 34) C dX6_isOutside_34 5 rfl ?_
    obtain ⟨r_8, hc_7, hr⟩ := gBind_some hr
    refine c_X6_sumAt (pc := 36) C dX6_isOutside_36 q847 ⟨Nat.le_of_ble_eq_true rfl, Nat.le_of_ble_eq_true rfl⟩ h0 hc_7 (Nat.le_of_ble_eq_true rfl) ?_
    refine r_aload_n (pc := 39) C dX6_isOutside_39 rfl 1 rfl ?_
    refine r_iload (pc := 40) C dX6_isOutside_40 6 rfl ?_
    refine r_iload_n (pc := 42) C dX6_isOutside_42 rfl 3 rfl ?_
    refine r_iload (pc := 43) C dX6_isOutside_43 5 rfl ?_
    obtain ⟨r_10, hc_9, hr⟩ := gBind_some hr
    refine c_X6_sumAt (pc := 45) C dX6_isOutside_45 q847 ⟨Nat.le_of_ble_eq_true rfl, Nat.le_of_ble_eq_true rfl⟩ h0 hc_9 (Nat.le_of_ble_eq_true rfl) ?_
    refine r_max (pc := 48) C dX6_isOutside_48 q811 (by decide) (Nat.le_of_ble_eq_true rfl) ?_
    obtain ⟨x7_11, ex7_11, hr⟩ := gLet_some hr
    refine r_istore (pc := 51) C dX6_isOutside_51 (by decide) ex7_11 (ls' := [(7, .int x7_11), (6, .int x6_6), (0, .ref (gad 19 i0)), (1, .int x1), (2, .int x2), (3, .int x3), (4, .int x4), (5, .int x5)]) rfl ?_
    refine r_iload (pc := 53) C dX6_isOutside_53 1 rfl ?_
    refine r_if_ge (pc := 55) (tgt := 65) C dX6_isOutside_55 rfl (fun c_12 => ?_) (fun c_12 => ?_)
    · replace hr := (if_pos c_12).symm.trans hr
      obtain ⟨x5_13, ex5_13, hr⟩ := gLet_some hr
      refine r_iinc (pc := 65) C dX6_isOutside_65 7 rfl rfl (by decide) ex5_13 (ls' := [(5, .int x5_13), (7, .int x7_11), (6, .int x6_6), (0, .ref (gad 19 i0)), (1, .int x1), (2, .int x2), (3, .int x3), (4, .int x4)]) rfl ?_
      refine r_goto (pc := 68) (tgt := 3) C dX6_isOutside_68 rfl ?_
      refine r_sub C [3, 4, 5, 6, 7, 0] (ls' := [(0, .ref (gad 19 i0)), (1, .int x1), (2, .int x2), (3, .int x3), (4, .int x4), (5, .int x5_13)]) rfl ?_
      exact hn x5_13 (gSome hr)
    · replace hr := (if_neg c_12).symm.trans hr
      refine r_iload (pc := 58) C dX6_isOutside_58 0 rfl ?_
      refine r_if_ge (pc := 60) (tgt := 65) C dX6_isOutside_60 rfl (fun c_14 => ?_) (fun c_14 => ?_)
      · replace hr := (if_pos c_14).symm.trans hr
        obtain ⟨x5_15, ex5_15, hr⟩ := gLet_some hr
        refine r_iinc (pc := 65) C dX6_isOutside_65 7 rfl rfl (by decide) ex5_15 (ls' := [(5, .int x5_15), (7, .int x7_11), (6, .int x6_6), (0, .ref (gad 19 i0)), (1, .int x1), (2, .int x2), (3, .int x3), (4, .int x4)]) rfl ?_
        refine r_goto (pc := 68) (tgt := 3) C dX6_isOutside_68 rfl ?_
        refine r_sub C [3, 4, 5, 6, 7, 0] (ls' := [(0, .ref (gad 19 i0)), (1, .int x1), (2, .int x2), (3, .int x3), (4, .int x4), (5, .int x5_15)]) rfl ?_
        exact hn x5_15 (gSome hr)
      · replace hr := (if_neg c_14).symm.trans hr
        refine r_sub C [] (ls' := []) rfl ?_
        exact hx (.inl ()) (gSome hr)
noncomputable def X6_isOutside (i0 : Nat) (p1 : Int32) (p2 : Int32) (p3 : Int32) (p4 : Int32) (M : gM) : Option Int32 := (gIter (fun s => X6_isOutside_L3 i0 p1 p2 p3 p4 s M) FU 0).bind (gS2 (fun _ => some 1) (fun _ => some 0))
theorem k_X6_isOutside {G : gG5} {nf : Nat} {M : gM} {i0 : Nat} {p1 : Int32} {p2 : Int32} {p3 : Int32} {p4 : Int32} (h0 : i0 < 10) {r : Int32} (hr : X6_isOutside i0 p1 p2 p3 p4 M = some r) : gMet G (gXn nf) yX6_isOutside cX6_isOutside 8 (some .boolean) 1 23 M [.ref (gad 19 i0), .int p1, .int p2, .int p3, .int p4] (some (.int r)) M := by
  refine gMet_of pl_X6 rfl (Nat.le_of_ble_eq_true rfl) (fun Ψ C CR => ?_)
  show Ψ M 0 [(0, .ref (gad 19 i0)), (1, .int p1), (2, .int p2), (3, .int p3), (4, .int p4)] []
  refine r_iconst (pc := 0) C dX6_isOutside_0 ki0 ?_
  refine r_istore (pc := 1) C dX6_isOutside_1 (by decide) rfl (ls' := [(5, .int 0), (0, .ref (gad 19 i0)), (1, .int p1), (2, .int p2), (3, .int p3), (4, .int p4)]) rfl ?_
  refine r_sub C [1, 2, 3, 4, 5, 0] (ls' := [(0, .ref (gad 19 i0)), (1, .int p1), (2, .int p2), (3, .int p3), (4, .int p4), (5, .int 0)]) rfl ?_
  obtain ⟨ev, hit, hr⟩ := gBind_some hr
  refine gIter_V (step := fun s => X6_isOutside_L3 i0 p1 p2 p3 p4 s M) (P := fun s => Ψ M 3 [(0, .ref (gad 19 i0)), (1, .int p1), (2, .int p2), (3, .int p3), (4, .int p4), (5, .int s)] []) (K := (gSP (fun e => Ψ M 63 [] []) (fun e => Ψ M 71 [] []))) (fun s w hs hn hx => t_X6_isOutside_L3 C h0 hs hn hx) FU 0 ev hit ?_
  rcases ev with _ | _
  · replace hr := gS2_l hr
    show Ψ M 63 [] []
    refine r_iconst (pc := 63) C dX6_isOutside_63 ki1 ?_
    exact r_zret (pc := 64) CR dX6_isOutside_64 rfl (congrArg (fun z => some (Value.int z)) (gSome hr)) rfl
  · replace hr := gS2_r hr
    show Ψ M 71 [] []
    refine r_iconst (pc := 71) C dX6_isOutside_71 ki0 ?_
    exact r_zret (pc := 72) CR dX6_isOutside_72 rfl (congrArg (fun z => some (Value.int z)) (gSome hr)) rfl
theorem c_X6_isOutside {Ψ : gM → Nat → List (Nat × Value) → List Value → Prop} {G : gG5} {nf : Nat} {cc : ByteArray} {own : String} {nL : Nat} {ret : Option FieldType} {fr lo : Nat} {v0 : Option Value} {M0 M : gM} {pc index : Nat} {ls : List (Nat × Value)} {st : List Value} (C : gC Ψ G (gXn nf) cc own nL ret fr lo v0 M0) (d : decode cc pc = .ok (.invokevirtual index, 3)) (hl : Cond.methodLink own index yX6_isOutside ∈ gws) (hR : 2 ≤ fr ∧ 50 ≤ lo) {i0 : Nat} {p1 : Int32} {p2 : Int32} {p3 : Int32} {p4 : Int32} (h0 : i0 < 10) {r : Int32} (hr : X6_isOutside i0 p1 p2 p3 p4 M = some r) (hcat : (st.map fun v => v.category).sum ≤ 8) (k : Ψ M (pc + 3) ls (.int r :: st)) : Ψ M pc ls (.int p4 :: .int p3 :: .int p2 :: .int p1 :: .ref (gad 19 i0) :: st) := r_callV C [.int p1, .int p2, .int p3, .int p4] st d (k_X6_isOutside h0 hr) hl q845 q17 q122 q846 hd_X6_isOutside hR rfl (by decide) (e19 (nf := nf) h0) rfl hcat k
theorem hd_X6_fillTouched : yX6_fillTouched.cls ≠ "java/lang/invoke/MethodHandle" ∧ yX6_fillTouched.cls ≠ "java/lang/invoke/VarHandle" ∧ (parseMethodDescriptor yX6_fillTouched.desc).map (fun d => d.parameters.length) = some 1 := by decide +kernel
noncomputable def X6_fillTouched_J82 (i0 : Nat) (x2 : Int32) (x3 : Int32) (x4 : Int32) (x5 : Int32) (x6 : Int32) (xs0 : Int32) (M : gM) : Option ((Int32 × gM) ⊕ gM) := (if (M.1 19 i0 2) = 0 then gLet (x2 + 1) (fun x2_19 => some (.inl (x2_19, M))) else (if xs0 = 0 then (X6_isOutside i0 x3 x4 x5 x6 M).bind (fun r_23 => (if r_23 = 0 then gLet (wI M 19 i0 5 ((M.1 19 i0 5) ||| (1 <<< (x2 &&& 31)))) (fun M_26 => gLet (x2 + 1) (fun x2_27 => some (.inl (x2_27, M_26)))) else gLet (x2 + 1) (fun x2_25 => some (.inl (x2_25, M))))) else gLet (x2 + 1) (fun x2_21 => some (.inl (x2_21, M)))))
theorem t_X6_fillTouched_J82 {Ψ : gM → Nat → List (Nat × Value) → List Value → Prop} {G : gG5} {nf : Nat} {M : gM} {v0 : Option Value} {M0 : gM} {i0 : Nat} {x2 : Int32} {x3 : Int32} {x4 : Int32} {x5 : Int32} {x6 : Int32} {xs0 : Int32} {w : ((Int32 × gM) ⊕ gM)} (C : gC Ψ G (gXn nf) cX6_fillTouched RX6 8 none 2 50 v0 M0) (h0 : i0 < 10) (hr : X6_fillTouched_J82 i0 x2 x3 x4 x5 x6 xs0 M = some w) (hn : ∀ s, w = .inl s → Ψ s.2 7 [(0, .ref (gad 19 i0)), (1, .ref (gad 12 0)), (2, .int (s.1))] []) (hx : ∀ e, w = .inr e → (fun e => Ψ e 128 [] []) e) : Ψ M 82 [(0, .ref (gad 19 i0)), (1, .ref (gad 12 0)), (2, .int x2), (3, .int x3), (4, .int x4), (5, .int x5), (6, .int x6)] [.int xs0] := by
  refine r_istore (pc := 82) C dX6_fillTouched_82 (by decide) rfl (ls' := [(7, .int xs0), (0, .ref (gad 19 i0)), (1, .ref (gad 12 0)), (2, .int x2), (3, .int x3), (4, .int x4), (5, .int x5), (6, .int x6)]) rfl ?_
  refine r_aload_n (pc := 84) C dX6_fillTouched_84 rfl 1 rfl ?_
  refine g19_2 (pc := 85) C dX6_fillTouched_85 q329 (e19 (nf := nf) h0) ?_
  refine r_if_eq (pc := 88) (tgt := 122) C dX6_fillTouched_88 rfl (fun c_18 => ?_) (fun c_18 => ?_)
  · replace hr := (if_pos c_18).symm.trans hr
    obtain ⟨x2_19, ex2_19, hr⟩ := gLet_some hr
    refine r_iinc (pc := 122) C dX6_fillTouched_122 3 rfl rfl (by decide) ex2_19 (ls' := [(2, .int x2_19), (7, .int xs0), (0, .ref (gad 19 i0)), (1, .ref (gad 12 0)), (3, .int x3), (4, .int x4), (5, .int x5), (6, .int x6)]) rfl ?_
    refine r_goto (pc := 125) (tgt := 7) C dX6_fillTouched_125 rfl ?_
    refine r_sub C [2, 3, 0] (ls' := [(0, .ref (gad 19 i0)), (1, .ref (gad 12 0)), (2, .int x2_19)]) rfl ?_
    exact hn (x2_19, M) (gSome hr)
  · replace hr := (if_neg c_18).symm.trans hr
    refine r_iload (pc := 91) C dX6_fillTouched_91 0 rfl ?_
    refine r_if_ne (pc := 93) (tgt := 122) C dX6_fillTouched_93 rfl (fun c_20 => ?_) (fun c_20 => ?_)
    · replace hr := (if_neg c_20).symm.trans hr
      obtain ⟨x2_21, ex2_21, hr⟩ := gLet_some hr
      refine r_iinc (pc := 122) C dX6_fillTouched_122 3 rfl rfl (by decide) ex2_21 (ls' := [(2, .int x2_21), (7, .int xs0), (0, .ref (gad 19 i0)), (1, .ref (gad 12 0)), (3, .int x3), (4, .int x4), (5, .int x5), (6, .int x6)]) rfl ?_
      refine r_goto (pc := 125) (tgt := 7) C dX6_fillTouched_125 rfl ?_
      refine r_sub C [2, 3, 0] (ls' := [(0, .ref (gad 19 i0)), (1, .ref (gad 12 0)), (2, .int x2_21)]) rfl ?_
      exact hn (x2_21, M) (gSome hr)
    · replace hr := (if_pos c_20).symm.trans hr
      refine r_aload_n (pc := 96) C dX6_fillTouched_96 rfl 1 rfl ?_
      refine r_iload_n (pc := 97) C dX6_fillTouched_97 rfl 4 rfl ?_
      refine r_iload (pc := 98) C dX6_fillTouched_98 5 rfl ?_
      refine r_iload (pc := 100) C dX6_fillTouched_100 6 rfl ?_
      refine r_iload (pc := 102) C dX6_fillTouched_102 7 rfl ?_
      obtain ⟨r_23, hc_22, hr⟩ := gBind_some hr
      refine c_X6_isOutside (pc := 104) C dX6_fillTouched_104 q843 ⟨Nat.le_of_ble_eq_true rfl, Nat.le_of_ble_eq_true rfl⟩ h0 hc_22 (Nat.le_of_ble_eq_true rfl) ?_
      refine r_if_ne (pc := 107) (tgt := 122) C dX6_fillTouched_107 rfl (fun c_24 => ?_) (fun c_24 => ?_)
      · replace hr := (if_neg c_24).symm.trans hr
        obtain ⟨x2_25, ex2_25, hr⟩ := gLet_some hr
        refine r_iinc (pc := 122) C dX6_fillTouched_122 3 rfl rfl (by decide) ex2_25 (ls' := [(2, .int x2_25), (7, .int xs0), (0, .ref (gad 19 i0)), (1, .ref (gad 12 0)), (3, .int x3), (4, .int x4), (5, .int x5), (6, .int x6)]) rfl ?_
        refine r_goto (pc := 125) (tgt := 7) C dX6_fillTouched_125 rfl ?_
        refine r_sub C [2, 3, 0] (ls' := [(0, .ref (gad 19 i0)), (1, .ref (gad 12 0)), (2, .int x2_25)]) rfl ?_
        exact hn (x2_25, M) (gSome hr)
      · replace hr := (if_pos c_24).symm.trans hr
        refine r_aload_n (pc := 110) C dX6_fillTouched_110 rfl 1 rfl ?_
        refine r_dup (pc := 111) C dX6_fillTouched_111 rfl ?_
        refine g19_5 (pc := 112) C dX6_fillTouched_112 q338 (e19 (nf := nf) h0) ?_
        refine r_iconst (pc := 115) C dX6_fillTouched_115 ki1 ?_
        refine r_iload_n (pc := 116) C dX6_fillTouched_116 rfl 3 rfl ?_
        refine r_ishl (pc := 117) C dX6_fillTouched_117 ?_
        refine r_ior (pc := 118) C dX6_fillTouched_118 ?_
        obtain ⟨M_26, eM_26, hr⟩ := gLet_some hr
        refine p19_5 (pc := 119) C dX6_fillTouched_119 q338 (e19 (nf := nf) h0) eM_26 ?_
        obtain ⟨x2_27, ex2_27, hr⟩ := gLet_some hr
        refine r_iinc (pc := 122) C dX6_fillTouched_122 3 rfl rfl (by decide) ex2_27 (ls' := [(2, .int x2_27), (7, .int xs0), (0, .ref (gad 19 i0)), (1, .ref (gad 12 0)), (3, .int x3), (4, .int x4), (5, .int x5), (6, .int x6)]) rfl ?_
        refine r_goto (pc := 125) (tgt := 7) C dX6_fillTouched_125 rfl ?_
        refine r_sub C [2, 3, 0] (ls' := [(0, .ref (gad 19 i0)), (1, .ref (gad 12 0)), (2, .int x2_27)]) rfl ?_
        exact hn (x2_27, M_26) (gSome hr)
noncomputable def X6_fillTouched_J77 (i0 : Nat) (x2 : Int32) (x3 : Int32) (x4 : Int32) (x5 : Int32) (x6 : Int32) (M : gM) : Option ((Int32 × gM) ⊕ gM) := X6_fillTouched_J82 i0 x2 x3 x4 x5 x6 1 M
theorem t_X6_fillTouched_J77 {Ψ : gM → Nat → List (Nat × Value) → List Value → Prop} {G : gG5} {nf : Nat} {M : gM} {v0 : Option Value} {M0 : gM} {i0 : Nat} {x2 : Int32} {x3 : Int32} {x4 : Int32} {x5 : Int32} {x6 : Int32} {w : ((Int32 × gM) ⊕ gM)} (C : gC Ψ G (gXn nf) cX6_fillTouched RX6 8 none 2 50 v0 M0) (h0 : i0 < 10) (hr : X6_fillTouched_J77 i0 x2 x3 x4 x5 x6 M = some w) (hn : ∀ s, w = .inl s → Ψ s.2 7 [(0, .ref (gad 19 i0)), (1, .ref (gad 12 0)), (2, .int (s.1))] []) (hx : ∀ e, w = .inr e → (fun e => Ψ e 128 [] []) e) : Ψ M 77 [(0, .ref (gad 19 i0)), (1, .ref (gad 12 0)), (2, .int x2), (3, .int x3), (4, .int x4), (5, .int x5), (6, .int x6)] [] := by
  refine r_iconst (pc := 77) C dX6_fillTouched_77 ki1 ?_
  refine r_goto (pc := 78) (tgt := 82) C dX6_fillTouched_78 rfl ?_
  exact t_X6_fillTouched_J82 C h0 hr hn hx
noncomputable def X6_fillTouched_L7 (i0 : Nat) (x2 : Int32) (M : gM) : Option ((Int32 × gM) ⊕ gM) := (if (M.1 12 0 5) ≤ x2 then some (.inr M) else (X1_leftOf x2 M).bind (fun r_4 => gLet ((r_4 * 8)) (fun x3_5 => (X1_rightOf x2 M).bind (fun r_7 => gLet ((r_7 * 8)) (fun x4_8 => (X1_topOf x2 M).bind (fun r_10 => gLet ((r_10 * 8)) (fun x5_11 => (X1_bottomOf x2 M).bind (fun r_13 => gLet ((r_13 * 8)) (fun x6_14 => (X6_isBeside i0 0 x3_5 x4_8 M).bind (fun r_16 => (if r_16 = 0 then (X6_isBeside i0 1 x5_11 x6_14 M).bind (fun r_29 => (if r_29 = 0 then X6_fillTouched_J82 i0 x2 x3_5 x4_8 x5_11 x6_14 0 M else X6_fillTouched_J77 i0 x2 x3_5 x4_8 x5_11 x6_14 M)) else X6_fillTouched_J77 i0 x2 x3_5 x4_8 x5_11 x6_14 M)))))))))))
theorem t_X6_fillTouched_L7 {Ψ : gM → Nat → List (Nat × Value) → List Value → Prop} {G : gG5} {nf : Nat} {M : gM} {v0 : Option Value} {M0 : gM} {i0 : Nat} {x2 : Int32} {w : ((Int32 × gM) ⊕ gM)} (C : gC Ψ G (gXn nf) cX6_fillTouched RX6 8 none 2 50 v0 M0) (h0 : i0 < 10) (hr : X6_fillTouched_L7 i0 x2 M = some w) (hn : ∀ s, w = .inl s → Ψ s.2 7 [(0, .ref (gad 19 i0)), (1, .ref (gad 12 0)), (2, .int (s.1))] []) (hx : ∀ e, w = .inr e → (fun e => Ψ e 128 [] []) e) : Ψ M 7 [(0, .ref (gad 19 i0)), (1, .ref (gad 12 0)), (2, .int x2)] [] := by
  refine r_iload_n (pc := 7) C dX6_fillTouched_7 rfl 2 rfl ?_
  refine r_aload_n (pc := 8) C dX6_fillTouched_8 rfl 1 rfl ?_
  refine g12_5 (pc := 9) C dX6_fillTouched_9 q273 (e12 nf) ?_
  refine r_icmp_ge (pc := 12) (tgt := 128) C dX6_fillTouched_12 rfl (fun c_2 => ?_) (fun c_2 => ?_)
  · replace hr := (if_pos c_2).symm.trans hr
    refine r_sub C [] (ls' := []) rfl ?_
    exact hx M (gSome hr)
  · replace hr := (if_neg c_2).symm.trans hr
    refine r_aload_n (pc := 15) C dX6_fillTouched_15 rfl 1 rfl ?_
    refine r_iload_n (pc := 16) C dX6_fillTouched_16 rfl 2 rfl ?_
    obtain ⟨r_4, hc_3, hr⟩ := gBind_some hr
    refine c_X1_leftOf (pc := 17) C dX6_fillTouched_17 q835 ⟨Nat.le_of_ble_eq_true rfl, Nat.le_of_ble_eq_true rfl⟩ hc_3 (Nat.le_of_ble_eq_true rfl) ?_
    refine r_bipush (pc := 20) C dX6_fillTouched_20 kb8 ?_
    refine r_imul (pc := 22) C dX6_fillTouched_22 ?_
    obtain ⟨x3_5, ex3_5, hr⟩ := gLet_some hr
    refine r_istore_n (pc := 23) C dX6_fillTouched_23 rfl (by decide) ex3_5 (ls' := [(3, .int x3_5), (0, .ref (gad 19 i0)), (1, .ref (gad 12 0)), (2, .int x2)]) rfl ?_
    refine r_aload_n (pc := 24) C dX6_fillTouched_24 rfl 2 rfl ?_
    refine r_iload_n (pc := 25) C dX6_fillTouched_25 rfl 3 rfl ?_
    obtain ⟨r_7, hc_6, hr⟩ := gBind_some hr
    refine c_X1_rightOf (pc := 26) C dX6_fillTouched_26 q836 ⟨Nat.le_of_ble_eq_true rfl, Nat.le_of_ble_eq_true rfl⟩ hc_6 (Nat.le_of_ble_eq_true rfl) ?_
    refine r_bipush (pc := 29) C dX6_fillTouched_29 kb8 ?_
    refine r_imul (pc := 31) C dX6_fillTouched_31 ?_
    obtain ⟨x4_8, ex4_8, hr⟩ := gLet_some hr
    refine r_istore (pc := 32) C dX6_fillTouched_32 (by decide) ex4_8 (ls' := [(4, .int x4_8), (3, .int x3_5), (0, .ref (gad 19 i0)), (1, .ref (gad 12 0)), (2, .int x2)]) rfl ?_
    refine r_aload_n (pc := 34) C dX6_fillTouched_34 rfl 3 rfl ?_
    refine r_iload_n (pc := 35) C dX6_fillTouched_35 rfl 4 rfl ?_
    obtain ⟨r_10, hc_9, hr⟩ := gBind_some hr
    refine c_X1_topOf (pc := 36) C dX6_fillTouched_36 q837 ⟨Nat.le_of_ble_eq_true rfl, Nat.le_of_ble_eq_true rfl⟩ hc_9 (Nat.le_of_ble_eq_true rfl) ?_
    refine r_bipush (pc := 39) C dX6_fillTouched_39 kb8 ?_
    refine r_imul (pc := 41) C dX6_fillTouched_41 ?_
    obtain ⟨x5_11, ex5_11, hr⟩ := gLet_some hr
    refine r_istore (pc := 42) C dX6_fillTouched_42 (by decide) ex5_11 (ls' := [(5, .int x5_11), (4, .int x4_8), (3, .int x3_5), (0, .ref (gad 19 i0)), (1, .ref (gad 12 0)), (2, .int x2)]) rfl ?_
    refine r_aload_n (pc := 44) C dX6_fillTouched_44 rfl 4 rfl ?_
    refine r_iload_n (pc := 45) C dX6_fillTouched_45 rfl 5 rfl ?_
    obtain ⟨r_13, hc_12, hr⟩ := gBind_some hr
    refine c_X1_bottomOf (pc := 46) C dX6_fillTouched_46 q838 ⟨Nat.le_of_ble_eq_true rfl, Nat.le_of_ble_eq_true rfl⟩ hc_12 (Nat.le_of_ble_eq_true rfl) ?_
    refine r_bipush (pc := 49) C dX6_fillTouched_49 kb8 ?_
    refine r_imul (pc := 51) C dX6_fillTouched_51 ?_
    obtain ⟨x6_14, ex6_14, hr⟩ := gLet_some hr
    refine r_istore (pc := 52) C dX6_fillTouched_52 (by decide) ex6_14 (ls' := [(6, .int x6_14), (5, .int x5_11), (4, .int x4_8), (3, .int x3_5), (0, .ref (gad 19 i0)), (1, .ref (gad 12 0)), (2, .int x2)]) rfl ?_
    refine r_aload_n (pc := 54) C dX6_fillTouched_54 rfl 4 rfl ?_
    refine r_iconst (pc := 55) C dX6_fillTouched_55 ki0 ?_
    refine r_iload_n (pc := 56) C dX6_fillTouched_56 rfl 3 rfl ?_
    refine r_iload (pc := 57) C dX6_fillTouched_57 2 rfl ?_
    obtain ⟨r_16, hc_15, hr⟩ := gBind_some hr
    refine c_X6_isBeside (pc := 59) C dX6_fillTouched_59 q839 ⟨Nat.le_of_ble_eq_true rfl, Nat.le_of_ble_eq_true rfl⟩ h0 hc_15 (Nat.le_of_ble_eq_true rfl) ?_
    refine r_if_ne (pc := 62) (tgt := 77) C dX6_fillTouched_62 rfl (fun c_17 => ?_) (fun c_17 => ?_)
    · replace hr := (if_neg c_17).symm.trans hr
      refine r_sub C [4, 5, 6, 3, 2, 1, 0] (ls' := [(0, .ref (gad 19 i0)), (1, .ref (gad 12 0)), (2, .int x2), (3, .int x3_5), (4, .int x4_8), (5, .int x5_11), (6, .int x6_14)]) rfl ?_
      exact t_X6_fillTouched_J77 C h0 hr hn hx
    · replace hr := (if_pos c_17).symm.trans hr
      refine r_aload_n (pc := 65) C dX6_fillTouched_65 rfl 4 rfl ?_
      refine r_iconst (pc := 66) C dX6_fillTouched_66 ki1 ?_
      refine r_iload (pc := 67) C dX6_fillTouched_67 1 rfl ?_
      refine r_iload (pc := 69) C dX6_fillTouched_69 0 rfl ?_
      obtain ⟨r_29, hc_28, hr⟩ := gBind_some hr
      refine c_X6_isBeside (pc := 71) C dX6_fillTouched_71 q839 ⟨Nat.le_of_ble_eq_true rfl, Nat.le_of_ble_eq_true rfl⟩ h0 hc_28 (Nat.le_of_ble_eq_true rfl) ?_
      refine r_if_eq (pc := 74) (tgt := 81) C dX6_fillTouched_74 rfl (fun c_30 => ?_) (fun c_30 => ?_)
      · replace hr := (if_pos c_30).symm.trans hr
        refine r_iconst (pc := 81) C dX6_fillTouched_81 ki0 ?_
        refine r_sub C [4, 5, 6, 3, 2, 1, 0] (ls' := [(0, .ref (gad 19 i0)), (1, .ref (gad 12 0)), (2, .int x2), (3, .int x3_5), (4, .int x4_8), (5, .int x5_11), (6, .int x6_14)]) rfl ?_
        exact t_X6_fillTouched_J82 C h0 hr hn hx
      · replace hr := (if_neg c_30).symm.trans hr
        refine r_sub C [4, 5, 6, 3, 2, 1, 0] (ls' := [(0, .ref (gad 19 i0)), (1, .ref (gad 12 0)), (2, .int x2), (3, .int x3_5), (4, .int x4_8), (5, .int x5_11), (6, .int x6_14)]) rfl ?_
        exact t_X6_fillTouched_J77 C h0 hr hn hx
noncomputable def X6_fillTouched (i0 : Nat) (M : gM) : Option gM := gLet (wI M 19 i0 5 0) (fun M_1 => (gIter (fun s => X6_fillTouched_L7 i0 s.1 s.2) FU (0, M_1)).bind (fun M_31 => some M_31))
theorem k_X6_fillTouched {G : gG5} {nf : Nat} {M : gM} {i0 : Nat} (h0 : i0 < 10) {M1 : gM} (hr : X6_fillTouched i0 M = some M1) : gMet G (gXn nf) yX6_fillTouched cX6_fillTouched 8 none 2 50 M [.ref (gad 19 i0), .ref (gad 12 0)] none M1 := by
  refine gMet_of pl_X6 rfl (Nat.le_of_ble_eq_true rfl) (fun Ψ C CR => ?_)
  show Ψ M 0 [(0, .ref (gad 19 i0)), (1, .ref (gad 12 0))] []
  refine r_aload_n (pc := 0) C dX6_fillTouched_0 rfl 0 rfl ?_
  refine r_iconst (pc := 1) C dX6_fillTouched_1 ki0 ?_
  obtain ⟨M_1, eM_1, hr⟩ := gLet_some hr
  refine p19_5 (pc := 2) C dX6_fillTouched_2 q338 (e19 (nf := nf) h0) eM_1 ?_
  refine r_iconst (pc := 5) C dX6_fillTouched_5 ki0 ?_
  refine r_istore_n (pc := 6) C dX6_fillTouched_6 rfl (by decide) rfl (ls' := [(2, .int 0), (0, .ref (gad 19 i0)), (1, .ref (gad 12 0))]) rfl ?_
  refine r_sub C [1, 2, 0] (ls' := [(0, .ref (gad 19 i0)), (1, .ref (gad 12 0)), (2, .int 0)]) rfl ?_
  obtain ⟨ev, hit, hr⟩ := gBind_some hr
  refine gIter_V (step := fun s => X6_fillTouched_L7 i0 s.1 s.2) (P := fun s => Ψ s.2 7 [(0, .ref (gad 19 i0)), (1, .ref (gad 12 0)), (2, .int (s.1))] []) (K := (fun e => Ψ e 128 [] [])) (fun s w hs hn hx => t_X6_fillTouched_L7 C h0 hs hn hx) FU (0, M_1) ev hit ?_
  obtain ⟨M_31, rfl⟩ : ∃ z, z = ev := ⟨_, rfl⟩
  show Ψ M_31 128 [] []
  exact r_vret (pc := 128) CR dX6_fillTouched_128 rfl (gSome hr)
theorem c_X6_fillTouched {Ψ : gM → Nat → List (Nat × Value) → List Value → Prop} {G : gG5} {nf : Nat} {cc : ByteArray} {own : String} {nL : Nat} {ret : Option FieldType} {fr lo : Nat} {v0 : Option Value} {M0 M : gM} {pc index : Nat} {ls : List (Nat × Value)} {st : List Value} (C : gC Ψ G (gXn nf) cc own nL ret fr lo v0 M0) (d : decode cc pc = .ok (.invokevirtual index, 3)) (hl : Cond.methodLink own index yX6_fillTouched ∈ gws) (hR : 3 ≤ fr ∧ 77 ≤ lo) {i0 : Nat} (h0 : i0 < 10) {M1 : gM} (hr : X6_fillTouched i0 M = some M1) (hcat : (st.map fun v => v.category).sum ≤ 8) (k : Ψ M1 (pc + 3) ls (st)) : Ψ M pc ls (.ref (gad 12 0) :: .ref (gad 19 i0) :: st) := r_callV C [.ref (gad 12 0)] st d (k_X6_fillTouched h0 hr) hl q833 q15 q122 q834 hd_X6_fillTouched hR rfl (by decide) (e19 (nf := nf) h0) rfl hcat k
