theorem hd_J9_floorDiv_7cf53 : yJ9_floorDiv_7cf53.cls ≠ "java/lang/invoke/MethodHandle" ∧ yJ9_floorDiv_7cf53.cls ≠ "java/lang/invoke/VarHandle" ∧ (parseMethodDescriptor yJ9_floorDiv_7cf53.desc).map (fun d => d.parameters.length) = some 2 := by decide +kernel
noncomputable def J9_floorDiv_7cf53 (p0 : Int32) (p1 : Int32) (M : gM) : Option Int32 := gG (decide (¬ p1 = 0)) (gLet ((p0 / p1)) (fun x2_2 => (if 0 ≤ (p0 ^^^ p1) then some x2_2 else (if (x2_2 * p1) = p0 then some x2_2 else some (x2_2 - 1)))))
theorem k_J9_floorDiv_7cf53 {G : gG5} {nf : Nat} {M : gM} {p0 : Int32} {p1 : Int32} {r : Int32} (hr : J9_floorDiv_7cf53 p0 p1 M = some r) : gMet G (gXn nf) yJ9_floorDiv_7cf53 cJ9_floorDiv_7cf53 3 (some .int) 0 0 M [.int p0, .int p1] (some (.int r)) M := by
  refine gMet_ofF (by decide +kernel) rfl (Nat.le_of_ble_eq_true rfl) (fun Ψ C CR => ?_)
  show Ψ M 0 [(0, .int p0), (1, .int p1)] []
  refine r_iload_n (pc := 0) C dJ9_floorDiv_7cf53_0 rfl 0 rfl ?_
  refine r_iload_n (pc := 1) C dJ9_floorDiv_7cf53_1 rfl 1 rfl ?_
  obtain ⟨g_1, hr⟩ := gG_some hr
  refine r_idiv (pc := 2) C dJ9_floorDiv_7cf53_2 (of_decide_eq_true g_1) ?_
  obtain ⟨x2_2, ex2_2, hr⟩ := gLet_some hr
  refine r_istore_n (pc := 3) C dJ9_floorDiv_7cf53_3 rfl (by decide) ex2_2 (ls' := [(2, .int x2_2), (0, .int p0), (1, .int p1)]) rfl ?_
  refine r_iload_n (pc := 4) C dJ9_floorDiv_7cf53_4 rfl 1 rfl ?_
  refine r_iload_n (pc := 5) C dJ9_floorDiv_7cf53_5 rfl 2 rfl ?_
  refine r_ixor (pc := 6) C dJ9_floorDiv_7cf53_6 ?_
  refine r_if_ge (pc := 7) (tgt := 21) C dJ9_floorDiv_7cf53_7 rfl (fun c_3 => ?_) (fun c_3 => ?_)
  · replace hr := (if_pos c_3).symm.trans hr
    refine r_iload_n (pc := 21) C dJ9_floorDiv_7cf53_21 rfl 0 rfl ?_
    exact r_iret (pc := 22) CR dJ9_floorDiv_7cf53_22 (congrArg (fun z => some (Value.int z)) (gSome hr)) rfl
  · replace hr := (if_neg c_3).symm.trans hr
    refine r_iload_n (pc := 10) C dJ9_floorDiv_7cf53_10 rfl 0 rfl ?_
    refine r_iload_n (pc := 11) C dJ9_floorDiv_7cf53_11 rfl 2 rfl ?_
    refine r_imul (pc := 12) C dJ9_floorDiv_7cf53_12 ?_
    refine r_iload_n (pc := 13) C dJ9_floorDiv_7cf53_13 rfl 1 rfl ?_
    refine r_icmp_eq (pc := 14) (tgt := 21) C dJ9_floorDiv_7cf53_14 rfl (fun c_4 => ?_) (fun c_4 => ?_)
    · replace hr := (if_pos c_4).symm.trans hr
      refine r_iload_n (pc := 21) C dJ9_floorDiv_7cf53_21 rfl 0 rfl ?_
      exact r_iret (pc := 22) CR dJ9_floorDiv_7cf53_22 (congrArg (fun z => some (Value.int z)) (gSome hr)) rfl
    · replace hr := (if_neg c_4).symm.trans hr
      refine r_iload_n (pc := 17) C dJ9_floorDiv_7cf53_17 rfl 0 rfl ?_
      refine r_iconst (pc := 18) C dJ9_floorDiv_7cf53_18 ki1 ?_
      refine r_isub (pc := 19) C dJ9_floorDiv_7cf53_19 ?_
      exact r_iret (pc := 20) CR dJ9_floorDiv_7cf53_20 (congrArg (fun z => some (Value.int z)) (gSome hr)) rfl
theorem c_J9_floorDiv_7cf53 {Ψ : gM → Nat → List (Nat × Value) → List Value → Prop} {G : gG5} {nf : Nat} {cc : ByteArray} {own : String} {nL : Nat} {ret : Option FieldType} {fr lo : Nat} {v0 : Option Value} {M0 M : gM} {pc index : Nat} {ls : List (Nat × Value)} {st : List Value} (C : gC Ψ G (gXn nf) cc own nL ret fr lo v0 M0) (d : decode cc pc = .ok (.invokestatic index, 3)) (hl : Cond.methodLink own index yJ9_floorDiv_7cf53 ∈ gws) (hR : 1 ≤ fr ∧ 22 ≤ lo) {p0 : Int32} {p1 : Int32} {r : Int32} (hr : J9_floorDiv_7cf53 p0 p1 M = some r) (hcat : (st.map fun v => v.category).sum ≤ 8) (k : Ψ M (pc + 3) ls (.int r :: st)) : Ψ M pc ls (.int p1 :: .int p0 :: st) := r_callS C [.int p0, .int p1] st d (k_J9_floorDiv_7cf53 hr) hl q825 q132 q826 hd_J9_floorDiv_7cf53 hR rfl hcat k
theorem hd_J13_bitCount_95d88 : yJ13_bitCount_95d88.cls ≠ "java/lang/invoke/MethodHandle" ∧ yJ13_bitCount_95d88.cls ≠ "java/lang/invoke/VarHandle" ∧ (parseMethodDescriptor yJ13_bitCount_95d88.desc).map (fun d => d.parameters.length) = some 1 := by decide +kernel
noncomputable def J13_bitCount_95d88 (p0 : Int64) (M : gM) : Option Int32 := gLet ((p0 - (((Int64.toUInt64 p0 >>> ((Int32.toInt64 1).toUInt64 &&& Int64.toUInt64 63)).toInt64) &&& 6148914691236517205))) (fun x0_1 => gLet (((x0_1 &&& 3689348814741910323) + (((Int64.toUInt64 x0_1 >>> ((Int32.toInt64 2).toUInt64 &&& Int64.toUInt64 63)).toInt64) &&& 3689348814741910323))) (fun x0_2 => gLet (((x0_2 + ((Int64.toUInt64 x0_2 >>> ((Int32.toInt64 4).toUInt64 &&& Int64.toUInt64 63)).toInt64)) &&& 1085102592571150095)) (fun x0_3 => gLet ((x0_3 + ((Int64.toUInt64 x0_3 >>> ((Int32.toInt64 8).toUInt64 &&& Int64.toUInt64 63)).toInt64))) (fun x0_4 => gLet ((x0_4 + ((Int64.toUInt64 x0_4 >>> ((Int32.toInt64 16).toUInt64 &&& Int64.toUInt64 63)).toInt64))) (fun x0_5 => gLet ((x0_5 + ((Int64.toUInt64 x0_5 >>> ((Int32.toInt64 32).toUInt64 &&& Int64.toUInt64 63)).toInt64))) (fun x0_6 => some ((Int64.toInt32 x0_6) &&& 127)))))))
theorem k_J13_bitCount_95d88 {G : gG5} {nf : Nat} {M : gM} {p0 : Int64} {r : Int32} (hr : J13_bitCount_95d88 p0 M = some r) : gMet G (gXn nf) yJ13_bitCount_95d88 cJ13_bitCount_95d88 2 (some .int) 0 0 M [.long p0] (some (.int r)) M := by
  refine gMet_ofF (by decide +kernel) rfl (Nat.le_of_ble_eq_true rfl) (fun Ψ C CR => ?_)
  show Ψ M 0 [(0, .long p0)] []
  refine r_lload_n (pc := 0) C dJ13_bitCount_95d88_0 rfl 0 rfl ?_
  refine r_lload_n (pc := 1) C dJ13_bitCount_95d88_1 rfl 0 rfl ?_
  refine r_iconst (pc := 2) C dJ13_bitCount_95d88_2 ki1 ?_
  refine r_lushr (pc := 3) C dJ13_bitCount_95d88_3 ?_
  refine r_ldc2 (pc := 4) C dJ13_bitCount_95d88_4 q1071 ?_
  refine r_land (pc := 7) C dJ13_bitCount_95d88_7 ?_
  refine r_lsub (pc := 8) C dJ13_bitCount_95d88_8 ?_
  obtain ⟨x0_1, ex0_1, hr⟩ := gLet_some hr
  refine r_lstore_n (pc := 9) C dJ13_bitCount_95d88_9 rfl (by decide) ex0_1 (ls' := [(0, .long x0_1)]) rfl ?_
  refine r_lload_n (pc := 10) C dJ13_bitCount_95d88_10 rfl 0 rfl ?_
  refine r_ldc2 (pc := 11) C dJ13_bitCount_95d88_11 q1072 ?_
  refine r_land (pc := 14) C dJ13_bitCount_95d88_14 ?_
  refine r_lload_n (pc := 15) C dJ13_bitCount_95d88_15 rfl 0 rfl ?_
  refine r_iconst (pc := 16) C dJ13_bitCount_95d88_16 ki2 ?_
  refine r_lushr (pc := 17) C dJ13_bitCount_95d88_17 ?_
  refine r_ldc2 (pc := 18) C dJ13_bitCount_95d88_18 q1072 ?_
  refine r_land (pc := 21) C dJ13_bitCount_95d88_21 ?_
  refine r_ladd (pc := 22) C dJ13_bitCount_95d88_22 ?_
  obtain ⟨x0_2, ex0_2, hr⟩ := gLet_some hr
  refine r_lstore_n (pc := 23) C dJ13_bitCount_95d88_23 rfl (by decide) ex0_2 (ls' := [(0, .long x0_2)]) rfl ?_
  refine r_lload_n (pc := 24) C dJ13_bitCount_95d88_24 rfl 0 rfl ?_
  refine r_lload_n (pc := 25) C dJ13_bitCount_95d88_25 rfl 0 rfl ?_
  refine r_iconst (pc := 26) C dJ13_bitCount_95d88_26 ki4 ?_
  refine r_lushr (pc := 27) C dJ13_bitCount_95d88_27 ?_
  refine r_ladd (pc := 28) C dJ13_bitCount_95d88_28 ?_
  refine r_ldc2 (pc := 29) C dJ13_bitCount_95d88_29 q1073 ?_
  refine r_land (pc := 32) C dJ13_bitCount_95d88_32 ?_
  obtain ⟨x0_3, ex0_3, hr⟩ := gLet_some hr
  refine r_lstore_n (pc := 33) C dJ13_bitCount_95d88_33 rfl (by decide) ex0_3 (ls' := [(0, .long x0_3)]) rfl ?_
  refine r_lload_n (pc := 34) C dJ13_bitCount_95d88_34 rfl 0 rfl ?_
  refine r_lload_n (pc := 35) C dJ13_bitCount_95d88_35 rfl 0 rfl ?_
  refine r_bipush (pc := 36) C dJ13_bitCount_95d88_36 kb8 ?_
  refine r_lushr (pc := 38) C dJ13_bitCount_95d88_38 ?_
  refine r_ladd (pc := 39) C dJ13_bitCount_95d88_39 ?_
  obtain ⟨x0_4, ex0_4, hr⟩ := gLet_some hr
  refine r_lstore_n (pc := 40) C dJ13_bitCount_95d88_40 rfl (by decide) ex0_4 (ls' := [(0, .long x0_4)]) rfl ?_
  refine r_lload_n (pc := 41) C dJ13_bitCount_95d88_41 rfl 0 rfl ?_
  refine r_lload_n (pc := 42) C dJ13_bitCount_95d88_42 rfl 0 rfl ?_
  refine r_bipush (pc := 43) C dJ13_bitCount_95d88_43 kb16 ?_
  refine r_lushr (pc := 45) C dJ13_bitCount_95d88_45 ?_
  refine r_ladd (pc := 46) C dJ13_bitCount_95d88_46 ?_
  obtain ⟨x0_5, ex0_5, hr⟩ := gLet_some hr
  refine r_lstore_n (pc := 47) C dJ13_bitCount_95d88_47 rfl (by decide) ex0_5 (ls' := [(0, .long x0_5)]) rfl ?_
  refine r_lload_n (pc := 48) C dJ13_bitCount_95d88_48 rfl 0 rfl ?_
  refine r_lload_n (pc := 49) C dJ13_bitCount_95d88_49 rfl 0 rfl ?_
  refine r_bipush (pc := 50) C dJ13_bitCount_95d88_50 kb32 ?_
  refine r_lushr (pc := 52) C dJ13_bitCount_95d88_52 ?_
  refine r_ladd (pc := 53) C dJ13_bitCount_95d88_53 ?_
  obtain ⟨x0_6, ex0_6, hr⟩ := gLet_some hr
  refine r_lstore_n (pc := 54) C dJ13_bitCount_95d88_54 rfl (by decide) ex0_6 (ls' := [(0, .long x0_6)]) rfl ?_
  refine r_lload_n (pc := 55) C dJ13_bitCount_95d88_55 rfl 0 rfl ?_
  refine r_l2i (pc := 56) C dJ13_bitCount_95d88_56 ?_
  refine r_bipush (pc := 57) C dJ13_bitCount_95d88_57 kb127 ?_
  refine r_iand (pc := 59) C dJ13_bitCount_95d88_59 ?_
  exact r_iret (pc := 60) CR dJ13_bitCount_95d88_60 (congrArg (fun z => some (Value.int z)) (gSome hr)) rfl
theorem c_J13_bitCount_95d88 {Ψ : gM → Nat → List (Nat × Value) → List Value → Prop} {G : gG5} {nf : Nat} {cc : ByteArray} {own : String} {nL : Nat} {ret : Option FieldType} {fr lo : Nat} {v0 : Option Value} {M0 M : gM} {pc index : Nat} {ls : List (Nat × Value)} {st : List Value} (C : gC Ψ G (gXn nf) cc own nL ret fr lo v0 M0) (d : decode cc pc = .ok (.invokestatic index, 3)) (hl : Cond.methodLink own index yJ13_bitCount_95d88 ∈ gws) (hR : 1 ≤ fr ∧ 21 ≤ lo) {p0 : Int64} {r : Int32} (hr : J13_bitCount_95d88 p0 M = some r) (hcat : (st.map fun v => v.category).sum ≤ 8) (k : Ψ M (pc + 3) ls (.int r :: st)) : Ψ M pc ls (.long p0 :: st) := r_callS C [.long p0] st d (k_J13_bitCount_95d88 hr) hl q1069 q139 q1070 hd_J13_bitCount_95d88 hR rfl hcat k
theorem hd_J9_floorMod_7cf53 : yJ9_floorMod_7cf53.cls ≠ "java/lang/invoke/MethodHandle" ∧ yJ9_floorMod_7cf53.cls ≠ "java/lang/invoke/VarHandle" ∧ (parseMethodDescriptor yJ9_floorMod_7cf53.desc).map (fun d => d.parameters.length) = some 2 := by decide +kernel
noncomputable def J9_floorMod_7cf53 (p0 : Int32) (p1 : Int32) (M : gM) : Option Int32 := gG (decide (¬ p1 = 0)) (gLet ((gRem p0 p1)) (fun x2_2 => (if 0 ≤ (p0 ^^^ p1) then some x2_2 else (if x2_2 = 0 then some x2_2 else some (x2_2 + p1)))))
theorem k_J9_floorMod_7cf53 {G : gG5} {nf : Nat} {M : gM} {p0 : Int32} {p1 : Int32} {r : Int32} (hr : J9_floorMod_7cf53 p0 p1 M = some r) : gMet G (gXn nf) yJ9_floorMod_7cf53 cJ9_floorMod_7cf53 3 (some .int) 0 0 M [.int p0, .int p1] (some (.int r)) M := by
  refine gMet_ofF (by decide +kernel) rfl (Nat.le_of_ble_eq_true rfl) (fun Ψ C CR => ?_)
  show Ψ M 0 [(0, .int p0), (1, .int p1)] []
  refine r_iload_n (pc := 0) C dJ9_floorMod_7cf53_0 rfl 0 rfl ?_
  refine r_iload_n (pc := 1) C dJ9_floorMod_7cf53_1 rfl 1 rfl ?_
  obtain ⟨g_1, hr⟩ := gG_some hr
  refine r_irem (pc := 2) C dJ9_floorMod_7cf53_2 (of_decide_eq_true g_1) ?_
  obtain ⟨x2_2, ex2_2, hr⟩ := gLet_some hr
  refine r_istore_n (pc := 3) C dJ9_floorMod_7cf53_3 rfl (by decide) ex2_2 (ls' := [(2, .int x2_2), (0, .int p0), (1, .int p1)]) rfl ?_
  refine r_iload_n (pc := 4) C dJ9_floorMod_7cf53_4 rfl 1 rfl ?_
  refine r_iload_n (pc := 5) C dJ9_floorMod_7cf53_5 rfl 2 rfl ?_
  refine r_ixor (pc := 6) C dJ9_floorMod_7cf53_6 ?_
  refine r_if_ge (pc := 7) (tgt := 18) C dJ9_floorMod_7cf53_7 rfl (fun c_3 => ?_) (fun c_3 => ?_)
  · replace hr := (if_pos c_3).symm.trans hr
    refine r_iload_n (pc := 18) C dJ9_floorMod_7cf53_18 rfl 0 rfl ?_
    exact r_iret (pc := 19) CR dJ9_floorMod_7cf53_19 (congrArg (fun z => some (Value.int z)) (gSome hr)) rfl
  · replace hr := (if_neg c_3).symm.trans hr
    refine r_iload_n (pc := 10) C dJ9_floorMod_7cf53_10 rfl 0 rfl ?_
    refine r_if_eq (pc := 11) (tgt := 18) C dJ9_floorMod_7cf53_11 rfl (fun c_4 => ?_) (fun c_4 => ?_)
    · replace hr := (if_pos c_4).symm.trans hr
      refine r_iload_n (pc := 18) C dJ9_floorMod_7cf53_18 rfl 0 rfl ?_
      exact r_iret (pc := 19) CR dJ9_floorMod_7cf53_19 (congrArg (fun z => some (Value.int z)) (gSome hr)) rfl
    · replace hr := (if_neg c_4).symm.trans hr
      refine r_iload_n (pc := 14) C dJ9_floorMod_7cf53_14 rfl 0 rfl ?_
      refine r_iload_n (pc := 15) C dJ9_floorMod_7cf53_15 rfl 2 rfl ?_
      refine r_iadd (pc := 16) C dJ9_floorMod_7cf53_16 ?_
      exact r_iret (pc := 17) CR dJ9_floorMod_7cf53_17 (congrArg (fun z => some (Value.int z)) (gSome hr)) rfl
theorem c_J9_floorMod_7cf53 {Ψ : gM → Nat → List (Nat × Value) → List Value → Prop} {G : gG5} {nf : Nat} {cc : ByteArray} {own : String} {nL : Nat} {ret : Option FieldType} {fr lo : Nat} {v0 : Option Value} {M0 M : gM} {pc index : Nat} {ls : List (Nat × Value)} {st : List Value} (C : gC Ψ G (gXn nf) cc own nL ret fr lo v0 M0) (d : decode cc pc = .ok (.invokestatic index, 3)) (hl : Cond.methodLink own index yJ9_floorMod_7cf53 ∈ gws) (hR : 1 ≤ fr ∧ 22 ≤ lo) {p0 : Int32} {p1 : Int32} {r : Int32} (hr : J9_floorMod_7cf53 p0 p1 M = some r) (hcat : (st.map fun v => v.category).sum ≤ 8) (k : Ψ M (pc + 3) ls (.int r :: st)) : Ψ M pc ls (.int p1 :: .int p0 :: st) := r_callS C [.int p0, .int p1] st d (k_J9_floorMod_7cf53 hr) hl q1062 q132 q1063 hd_J9_floorMod_7cf53 hR rfl hcat k
theorem hd_J9_max_7cf53 : yJ9_max_7cf53.cls ≠ "java/lang/invoke/MethodHandle" ∧ yJ9_max_7cf53.cls ≠ "java/lang/invoke/VarHandle" ∧ (parseMethodDescriptor yJ9_max_7cf53.desc).map (fun d => d.parameters.length) = some 2 := by decide +kernel
noncomputable def J9_max_7cf53 (p0 : Int32) (p1 : Int32) (M : gM) : Option Int32 := (if p0 < p1 then some p1 else some p0)
theorem k_J9_max_7cf53 {G : gG5} {nf : Nat} {M : gM} {p0 : Int32} {p1 : Int32} {r : Int32} (hr : J9_max_7cf53 p0 p1 M = some r) : gMet G (gXn nf) yJ9_max_7cf53 cJ9_max_7cf53 2 (some .int) 0 0 M [.int p0, .int p1] (some (.int r)) M := by
  refine gMet_ofF (by decide +kernel) rfl (Nat.le_of_ble_eq_true rfl) (fun Ψ C CR => ?_)
  show Ψ M 0 [(0, .int p0), (1, .int p1)] []
  refine r_iload_n (pc := 0) C dJ9_max_7cf53_0 rfl 0 rfl ?_
  refine r_iload_n (pc := 1) C dJ9_max_7cf53_1 rfl 1 rfl ?_
  refine r_icmp_lt (pc := 2) (tgt := 9) C dJ9_max_7cf53_2 rfl (fun c_1 => ?_) (fun c_1 => ?_)
  · replace hr := (if_pos c_1).symm.trans hr
    refine r_iload_n (pc := 9) C dJ9_max_7cf53_9 rfl 1 rfl ?_
    exact r_iret (pc := 10) CR dJ9_max_7cf53_10 (congrArg (fun z => some (Value.int z)) (gSome hr)) rfl
  · replace hr := (if_neg c_1).symm.trans hr
    refine r_iload_n (pc := 5) C dJ9_max_7cf53_5 rfl 0 rfl ?_
    refine r_goto (pc := 6) (tgt := 10) C dJ9_max_7cf53_6 rfl ?_
    exact r_iret (pc := 10) CR dJ9_max_7cf53_10 (congrArg (fun z => some (Value.int z)) (gSome hr)) rfl
theorem c_J9_max_7cf53 {Ψ : gM → Nat → List (Nat × Value) → List Value → Prop} {G : gG5} {nf : Nat} {cc : ByteArray} {own : String} {nL : Nat} {ret : Option FieldType} {fr lo : Nat} {v0 : Option Value} {M0 M : gM} {pc index : Nat} {ls : List (Nat × Value)} {st : List Value} (C : gC Ψ G (gXn nf) cc own nL ret fr lo v0 M0) (d : decode cc pc = .ok (.invokestatic index, 3)) (hl : Cond.methodLink own index yJ9_max_7cf53 ∈ gws) (hR : 1 ≤ fr ∧ 21 ≤ lo) {p0 : Int32} {p1 : Int32} {r : Int32} (hr : J9_max_7cf53 p0 p1 M = some r) (hcat : (st.map fun v => v.category).sum ≤ 8) (k : Ψ M (pc + 3) ls (.int r :: st)) : Ψ M pc ls (.int p1 :: .int p0 :: st) := r_callS C [.int p0, .int p1] st d (k_J9_max_7cf53 hr) hl q741 q132 q742 hd_J9_max_7cf53 hR rfl hcat k
theorem hd_J9_min_7cf53 : yJ9_min_7cf53.cls ≠ "java/lang/invoke/MethodHandle" ∧ yJ9_min_7cf53.cls ≠ "java/lang/invoke/VarHandle" ∧ (parseMethodDescriptor yJ9_min_7cf53.desc).map (fun d => d.parameters.length) = some 2 := by decide +kernel
noncomputable def J9_min_7cf53 (p0 : Int32) (p1 : Int32) (M : gM) : Option Int32 := (if p1 < p0 then some p1 else some p0)
theorem k_J9_min_7cf53 {G : gG5} {nf : Nat} {M : gM} {p0 : Int32} {p1 : Int32} {r : Int32} (hr : J9_min_7cf53 p0 p1 M = some r) : gMet G (gXn nf) yJ9_min_7cf53 cJ9_min_7cf53 2 (some .int) 0 0 M [.int p0, .int p1] (some (.int r)) M := by
  refine gMet_ofF (by decide +kernel) rfl (Nat.le_of_ble_eq_true rfl) (fun Ψ C CR => ?_)
  show Ψ M 0 [(0, .int p0), (1, .int p1)] []
  refine r_iload_n (pc := 0) C dJ9_min_7cf53_0 rfl 0 rfl ?_
  refine r_iload_n (pc := 1) C dJ9_min_7cf53_1 rfl 1 rfl ?_
  refine r_icmp_gt (pc := 2) (tgt := 9) C dJ9_min_7cf53_2 rfl (fun c_1 => ?_) (fun c_1 => ?_)
  · replace hr := (if_pos c_1).symm.trans hr
    refine r_iload_n (pc := 9) C dJ9_min_7cf53_9 rfl 1 rfl ?_
    exact r_iret (pc := 10) CR dJ9_min_7cf53_10 (congrArg (fun z => some (Value.int z)) (gSome hr)) rfl
  · replace hr := (if_neg c_1).symm.trans hr
    refine r_iload_n (pc := 5) C dJ9_min_7cf53_5 rfl 0 rfl ?_
    refine r_goto (pc := 6) (tgt := 10) C dJ9_min_7cf53_6 rfl ?_
    exact r_iret (pc := 10) CR dJ9_min_7cf53_10 (congrArg (fun z => some (Value.int z)) (gSome hr)) rfl
theorem c_J9_min_7cf53 {Ψ : gM → Nat → List (Nat × Value) → List Value → Prop} {G : gG5} {nf : Nat} {cc : ByteArray} {own : String} {nL : Nat} {ret : Option FieldType} {fr lo : Nat} {v0 : Option Value} {M0 M : gM} {pc index : Nat} {ls : List (Nat × Value)} {st : List Value} (C : gC Ψ G (gXn nf) cc own nL ret fr lo v0 M0) (d : decode cc pc = .ok (.invokestatic index, 3)) (hl : Cond.methodLink own index yJ9_min_7cf53 ∈ gws) (hR : 1 ≤ fr ∧ 21 ≤ lo) {p0 : Int32} {p1 : Int32} {r : Int32} (hr : J9_min_7cf53 p0 p1 M = some r) (hcat : (st.map fun v => v.category).sum ≤ 8) (k : Ψ M (pc + 3) ls (.int r :: st)) : Ψ M pc ls (.int p1 :: .int p0 :: st) := r_callS C [.int p0, .int p1] st d (k_J9_min_7cf53 hr) hl q691 q132 q692 hd_J9_min_7cf53 hR rfl hcat k
