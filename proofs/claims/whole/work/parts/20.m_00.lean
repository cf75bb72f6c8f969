theorem hd_X4_reset : yX4_reset.cls ≠ "java/lang/invoke/MethodHandle" ∧ yX4_reset.cls ≠ "java/lang/invoke/VarHandle" ∧ (parseMethodDescriptor yX4_reset.desc).map (fun d => d.parameters.length) = some 0 := by decide +kernel
noncomputable def X4_reset (i0 : Nat) (M : gM) : Option gM := gLet (wI M 5 i0 0 8) (fun M_1 => gLet (wI M_1 5 i0 1 8) (fun M_2 => gLet (wI M_2 5 i0 2 4) (fun M_3 => gLet (wI M_3 5 i0 3 1) (fun M_4 => gLet (wI M_4 5 i0 4 0) (fun M_5 => gLet (wI M_5 5 i0 5 0) (fun M_6 => gLet (wI M_6 6 i0 0 0) (fun M_7 => gLet (wI M_7 6 i0 1 0) (fun M_8 => gLet (wI M_8 6 i0 2 1) (fun M_9 => gLet (wI M_9 6 i0 3 10) (fun M_10 => some M_10))))))))))
theorem k_X4_reset {G : gG5} {nf : Nat} {M : gM} {i0 : Nat} (h0 : i0 < 2) {M1 : gM} (hr : X4_reset i0 M = some M1) : gMet G (gXn nf) yX4_reset cX4_reset 1 none 0 0 M [.ref (gad 5 i0)] none M1 := by
  refine gMet_of pl_X4 rfl (Nat.le_of_ble_eq_true rfl) (fun Ψ C CR => ?_)
  show Ψ M 0 [(0, .ref (gad 5 i0))] []
  refine r_aload_n (pc := 0) C dX4_reset_0 rfl 0 rfl ?_
  refine r_bipush (pc := 1) C dX4_reset_1 kb8 ?_
  obtain ⟨M_1, eM_1, hr⟩ := gLet_some hr
  refine p5_0 (pc := 3) C dX4_reset_3 q195 (e5 (nf := nf) h0) eM_1 ?_
  refine r_aload_n (pc := 6) C dX4_reset_6 rfl 0 rfl ?_
  refine r_bipush (pc := 7) C dX4_reset_7 kb8 ?_
  obtain ⟨M_2, eM_2, hr⟩ := gLet_some hr
  refine p5_1 (pc := 9) C dX4_reset_9 q198 (e5 (nf := nf) h0) eM_2 ?_
  refine r_aload_n (pc := 12) C dX4_reset_12 rfl 0 rfl ?_
  refine r_iconst (pc := 13) C dX4_reset_13 ki4 ?_
  obtain ⟨M_3, eM_3, hr⟩ := gLet_some hr
  refine p5_2 (pc := 14) C dX4_reset_14 q201 (e5 (nf := nf) h0) eM_3 ?_
  refine r_aload_n (pc := 17) C dX4_reset_17 rfl 0 rfl ?_
  refine r_iconst (pc := 18) C dX4_reset_18 ki1 ?_
  obtain ⟨M_4, eM_4, hr⟩ := gLet_some hr
  refine p5_3 (pc := 19) C dX4_reset_19 q204 (e5 (nf := nf) h0) eM_4 ?_
  refine r_aload_n (pc := 22) C dX4_reset_22 rfl 0 rfl ?_
  refine r_iconst (pc := 23) C dX4_reset_23 ki0 ?_
  obtain ⟨M_5, eM_5, hr⟩ := gLet_some hr
  refine p5_4 (pc := 24) C dX4_reset_24 q208 (e5 (nf := nf) h0) eM_5 ?_
  refine r_aload_n (pc := 27) C dX4_reset_27 rfl 0 rfl ?_
  refine r_iconst (pc := 28) C dX4_reset_28 ki0 ?_
  obtain ⟨M_6, eM_6, hr⟩ := gLet_some hr
  refine p5_5 (pc := 29) C dX4_reset_29 q212 (e5 (nf := nf) h0) eM_6 ?_
  refine r_aload_n (pc := 32) C dX4_reset_32 rfl 0 rfl ?_
  refine g5_6 (pc := 33) C dX4_reset_33 q217 (e5 (nf := nf) h0) ?_
  refine r_iconst (pc := 36) C dX4_reset_36 ki0 ?_
  refine r_iconst (pc := 37) C dX4_reset_37 ki0 ?_
  obtain ⟨M_7, eM_7, hr⟩ := gLet_some hr
  refine r_iastN (pc := 38) C dX4_reset_38 rfl (e6 (nf := nf) h0) (by decide : gin 0 4 = true) kc0 eM_7 ?_
  refine r_aload_n (pc := 39) C dX4_reset_39 rfl 0 rfl ?_
  refine g5_6 (pc := 40) C dX4_reset_40 q217 (e5 (nf := nf) h0) ?_
  refine r_iconst (pc := 43) C dX4_reset_43 ki1 ?_
  refine r_iconst (pc := 44) C dX4_reset_44 ki0 ?_
  obtain ⟨M_8, eM_8, hr⟩ := gLet_some hr
  refine r_iastN (pc := 45) C dX4_reset_45 rfl (e6 (nf := nf) h0) (by decide : gin 1 4 = true) kc1 eM_8 ?_
  refine r_aload_n (pc := 46) C dX4_reset_46 rfl 0 rfl ?_
  refine g5_6 (pc := 47) C dX4_reset_47 q217 (e5 (nf := nf) h0) ?_
  refine r_iconst (pc := 50) C dX4_reset_50 ki2 ?_
  refine r_iconst (pc := 51) C dX4_reset_51 ki1 ?_
  obtain ⟨M_9, eM_9, hr⟩ := gLet_some hr
  refine r_iastN (pc := 52) C dX4_reset_52 rfl (e6 (nf := nf) h0) (by decide : gin 2 4 = true) kc2 eM_9 ?_
  refine r_aload_n (pc := 53) C dX4_reset_53 rfl 0 rfl ?_
  refine g5_6 (pc := 54) C dX4_reset_54 q217 (e5 (nf := nf) h0) ?_
  refine r_iconst (pc := 57) C dX4_reset_57 ki3 ?_
  refine r_bipush (pc := 58) C dX4_reset_58 kb10 ?_
  obtain ⟨M_10, eM_10, hr⟩ := gLet_some hr
  refine r_iastN (pc := 60) C dX4_reset_60 rfl (e6 (nf := nf) h0) (by decide : gin 3 4 = true) kc3 eM_10 ?_
  exact r_vret (pc := 61) CR dX4_reset_61 rfl (gSome hr)
theorem c_X4_reset {Ψ : gM → Nat → List (Nat × Value) → List Value → Prop} {G : gG5} {nf : Nat} {cc : ByteArray} {own : String} {nL : Nat} {ret : Option FieldType} {fr lo : Nat} {v0 : Option Value} {M0 M : gM} {pc index : Nat} {ls : List (Nat × Value)} {st : List Value} (C : gC Ψ G (gXn nf) cc own nL ret fr lo v0 M0) (d : decode cc pc = .ok (.invokevirtual index, 3)) (hl : Cond.methodLink own index yX4_reset ∈ gws) (hR : 1 ≤ fr ∧ 20 ≤ lo) {i0 : Nat} (h0 : i0 < 2) {M1 : gM} (hr : X4_reset i0 M = some M1) (hcat : (st.map fun v => v.category).sum ≤ 8) (k : Ψ M1 (pc + 3) ls (st)) : Ψ M pc ls (.ref (gad 5 i0) :: st) := r_callV C [] st d (k_X4_reset h0 hr) hl q192 q193 q119 q194 hd_X4_reset hR rfl (by decide) (e5 (nf := nf) h0) rfl hcat k
theorem hd_X8_bytesIn : yX8_bytesIn.cls ≠ "java/lang/invoke/MethodHandle" ∧ yX8_bytesIn.cls ≠ "java/lang/invoke/VarHandle" ∧ (parseMethodDescriptor yX8_bytesIn.desc).map (fun d => d.parameters.length) = some 1 := by decide +kernel
noncomputable def X8_bytesIn_L5 (x0 : Int32) (x1 : Int32) (x2 : Int32) (M : gM) : Option ((Int32 × Int32) ⊕ Int32) := (if x2 < 0 then some (.inr x1) else (if (((Int32.toUInt32 x0 >>> (Int32.toUInt32 x2 &&& Int32.toUInt32 31)).toInt32) &&& 255) = 0 then gLet (x2 + (-8)) (fun x2_3 => some (.inl (x1, x2_3))) else gLet (x1 + 1) (fun x1_4 => gLet (x2 + (-8)) (fun x2_5 => some (.inl (x1_4, x2_5))))))
theorem t_X8_bytesIn_L5 {Ψ : gM → Nat → List (Nat × Value) → List Value → Prop} {G : gG5} {nf : Nat} {M : gM} {v0 : Option Value} {M0 : gM} {x0 : Int32} {x1 : Int32} {x2 : Int32} {w : ((Int32 × Int32) ⊕ Int32)} (C : gC Ψ G (gXn nf) cX8_bytesIn RX8 3 (some .int) 0 0 v0 M0) (hr : X8_bytesIn_L5 x0 x1 x2 M = some w) (hn : ∀ s, w = .inl s → Ψ M 5 [(0, .int x0), (1, .int (s.1)), (2, .int (s.2))] []) (hx : ∀ e, w = .inr e → (fun e => Ψ M 28 [(1, .int e)] []) e) : Ψ M 5 [(0, .int x0), (1, .int x1), (2, .int x2)] [] := by
  refine r_iload_n (pc := 5) C dX8_bytesIn_5 rfl 2 rfl ?_
  refine r_if_lt (pc := 6) (tgt := 28) C dX8_bytesIn_6 rfl (fun c_1 => ?_) (fun c_1 => ?_)
  · replace hr := (if_pos c_1).symm.trans hr
    refine r_sub C [1] (ls' := [(1, .int x1)]) rfl ?_
    exact hx x1 (gSome hr)
  · replace hr := (if_neg c_1).symm.trans hr
    refine r_iload_n (pc := 9) C dX8_bytesIn_9 rfl 0 rfl ?_
    refine r_iload_n (pc := 10) C dX8_bytesIn_10 rfl 2 rfl ?_
    refine r_iushr (pc := 11) C dX8_bytesIn_11 ?_
    refine r_sipush (pc := 12) C dX8_bytesIn_12 ks255 ?_
    refine r_iand (pc := 15) C dX8_bytesIn_15 ?_
    refine r_if_eq (pc := 16) (tgt := 22) C dX8_bytesIn_16 rfl (fun c_2 => ?_) (fun c_2 => ?_)
    · replace hr := (if_pos c_2).symm.trans hr
      obtain ⟨x2_3, ex2_3, hr⟩ := gLet_some hr
      refine r_iinc (pc := 22) C dX8_bytesIn_22 2 rfl rfl (by decide) ex2_3 (ls' := [(2, .int x2_3), (0, .int x0), (1, .int x1)]) rfl ?_
      refine r_goto (pc := 25) (tgt := 5) C dX8_bytesIn_25 rfl ?_
      refine r_sub C [1, 2, 0] (ls' := [(0, .int x0), (1, .int x1), (2, .int x2_3)]) rfl ?_
      exact hn (x1, x2_3) (gSome hr)
    · replace hr := (if_neg c_2).symm.trans hr
      obtain ⟨x1_4, ex1_4, hr⟩ := gLet_some hr
      refine r_iinc (pc := 19) C dX8_bytesIn_19 1 rfl rfl (by decide) ex1_4 (ls' := [(1, .int x1_4), (0, .int x0), (2, .int x2)]) rfl ?_
      obtain ⟨x2_5, ex2_5, hr⟩ := gLet_some hr
      refine r_iinc (pc := 22) C dX8_bytesIn_22 2 rfl rfl (by decide) ex2_5 (ls' := [(2, .int x2_5), (1, .int x1_4), (0, .int x0)]) rfl ?_
      refine r_goto (pc := 25) (tgt := 5) C dX8_bytesIn_25 rfl ?_
      refine r_sub C [2, 1, 0] (ls' := [(0, .int x0), (1, .int x1_4), (2, .int x2_5)]) rfl ?_
      exact hn (x1_4, x2_5) (gSome hr)
noncomputable def X8_bytesIn (p0 : Int32) (M : gM) : Option Int32 := (gIter (fun s => X8_bytesIn_L5 p0 s.1 s.2 M) FU (0, 24)).bind (fun x1_6 => some x1_6)
theorem k_X8_bytesIn {G : gG5} {nf : Nat} {M : gM} {p0 : Int32} {r : Int32} (hr : X8_bytesIn p0 M = some r) : gMet G (gXn nf) yX8_bytesIn cX8_bytesIn 3 (some .int) 0 0 M [.int p0] (some (.int r)) M := by
  refine gMet_of pl_X8 rfl (Nat.le_of_ble_eq_true rfl) (fun Ψ C CR => ?_)
  show Ψ M 0 [(0, .int p0)] []
  refine r_iconst (pc := 0) C dX8_bytesIn_0 ki0 ?_
  refine r_istore_n (pc := 1) C dX8_bytesIn_1 rfl (by decide) rfl (ls' := [(1, .int 0), (0, .int p0)]) rfl ?_
  refine r_bipush (pc := 2) C dX8_bytesIn_2 kb24 ?_
  refine r_istore_n (pc := 4) C dX8_bytesIn_4 rfl (by decide) rfl (ls' := [(2, .int 24), (1, .int 0), (0, .int p0)]) rfl ?_
  refine r_sub C [2, 1, 0] (ls' := [(0, .int p0), (1, .int 0), (2, .int 24)]) rfl ?_
  obtain ⟨ev, hit, hr⟩ := gBind_some hr
  refine gIter_V (step := fun s => X8_bytesIn_L5 p0 s.1 s.2 M) (P := fun s => Ψ M 5 [(0, .int p0), (1, .int (s.1)), (2, .int (s.2))] []) (K := (fun e => Ψ M 28 [(1, .int e)] [])) (fun s w hs hn hx => t_X8_bytesIn_L5 C  hs hn hx) FU (0, 24) ev hit ?_
  obtain ⟨x1_6, rfl⟩ : ∃ z, z = ev := ⟨_, rfl⟩
  show Ψ M 28 [(1, .int x1_6)] []
  refine r_iload_n (pc := 28) C dX8_bytesIn_28 rfl 0 rfl ?_
  exact r_iret (pc := 29) CR dX8_bytesIn_29 (congrArg (fun z => some (Value.int z)) (gSome hr)) rfl
theorem c_X8_bytesIn {Ψ : gM → Nat → List (Nat × Value) → List Value → Prop} {G : gG5} {nf : Nat} {cc : ByteArray} {own : String} {nL : Nat} {ret : Option FieldType} {fr lo : Nat} {v0 : Option Value} {M0 M : gM} {pc index : Nat} {ls : List (Nat × Value)} {st : List Value} (C : gC Ψ G (gXn nf) cc own nL ret fr lo v0 M0) (d : decode cc pc = .ok (.invokestatic index, 3)) (hl : Cond.methodLink own index yX8_bytesIn ∈ gws) (hR : 1 ≤ fr ∧ 22 ≤ lo) {p0 : Int32} {r : Int32} (hr : X8_bytesIn p0 M = some r) (hcat : (st.map fun v => v.category).sum ≤ 8) (k : Ψ M (pc + 3) ls (.int r :: st)) : Ψ M pc ls (.int p0 :: st) := r_callS C [.int p0] st d (k_X8_bytesIn hr) hl q588 q117 q589 hd_X8_bytesIn hR rfl hcat k
theorem hd_X8_append : yX8_append.cls ≠ "java/lang/invoke/MethodHandle" ∧ yX8_append.cls ≠ "java/lang/invoke/VarHandle" ∧ (parseMethodDescriptor yX8_append.desc).map (fun d => d.parameters.length) = some 1 := by decide +kernel
noncomputable def X8_append_L3 (x1 : Int32) (x2 : Int32) (M : gM) : Option ((Int32 × gM) ⊕ gM) := (if x2 < 0 then some (.inr M) else gLet ((((Int32.toUInt32 x1 >>> (Int32.toUInt32 x2 &&& Int32.toUInt32 31)).toInt32) &&& 255)) (fun x3_2 => (if x3_2 = 0 then gLet (x2 + (-8)) (fun x2_4 => some (.inl (x2_4, M))) else (if 480 ≤ (M.1 1 0 1) then gLet (x2 + (-8)) (fun x2_6 => some (.inl (x2_6, M))) else gG (gin (M.1 1 0 1) 480) (gLet (wI M 2 0 (Int32.toNatClampNeg (M.1 1 0 1)) (vp_nar .char (((Int32.toUInt32 x3_2) % 65536).toInt32))) (fun M_8 => gLet (wI M_8 1 0 1 ((M_8.1 1 0 1) + 1)) (fun M_9 => gLet (x2 + (-8)) (fun x2_10 => some (.inl (x2_10, M_9))))))))))
theorem t_X8_append_L3 {Ψ : gM → Nat → List (Nat × Value) → List Value → Prop} {G : gG5} {nf : Nat} {M : gM} {v0 : Option Value} {M0 : gM} {x1 : Int32} {x2 : Int32} {w : ((Int32 × gM) ⊕ gM)} (C : gC Ψ G (gXn nf) cX8_append RX8 4 none 0 0 v0 M0) (hr : X8_append_L3 x1 x2 M = some w) (hn : ∀ s, w = .inl s → Ψ s.2 3 [(0, .ref (gad 1 0)), (1, .int x1), (2, .int (s.1))] []) (hx : ∀ e, w = .inr e → (fun e => Ψ e 56 [] []) e) : Ψ M 3 [(0, .ref (gad 1 0)), (1, .int x1), (2, .int x2)] [] := by
  refine r_iload_n (pc := 3) C dX8_append_3 rfl 2 rfl ?_
  refine r_if_lt (pc := 4) (tgt := 56) C dX8_append_4 rfl (fun c_1 => ?_) (fun c_1 => ?_)
  · replace hr := (if_pos c_1).symm.trans hr
    refine r_sub C [] (ls' := []) rfl ?_
    exact hx M (gSome hr)
  · replace hr := (if_neg c_1).symm.trans hr
    refine r_iload_n (pc := 7) C dX8_append_7 rfl 1 rfl ?_
    refine r_iload_n (pc := 8) C dX8_append_8 rfl 2 rfl ?_
    refine r_iushr (pc := 9) C dX8_append_9 ?_
    refine r_sipush (pc := 10) C dX8_append_10 ks255 ?_
    refine r_iand (pc := 13) C dX8_append_13 ?_
    obtain ⟨x3_2, ex3_2, hr⟩ := gLet_some hr
    refine r_istore_n (pc := 14) C dX8_append_14 rfl (by decide) ex3_2 (ls' := [(3, .int x3_2), (0, .ref (gad 1 0)), (1, .int x1), (2, .int x2)]) rfl ?_
    refine r_iload_n (pc := 15) C dX8_append_15 rfl 0 rfl ?_
    refine r_if_eq (pc := 16) (tgt := 50) C dX8_append_16 rfl (fun c_3 => ?_) (fun c_3 => ?_)
    · replace hr := (if_pos c_3).symm.trans hr
      obtain ⟨x2_4, ex2_4, hr⟩ := gLet_some hr
      refine r_iinc (pc := 50) C dX8_append_50 3 rfl rfl (by decide) ex2_4 (ls' := [(2, .int x2_4), (3, .int x3_2), (0, .ref (gad 1 0)), (1, .int x1)]) rfl ?_
      refine r_goto (pc := 53) (tgt := 3) C dX8_append_53 rfl ?_
      refine r_sub C [2, 3, 0] (ls' := [(0, .ref (gad 1 0)), (1, .int x1), (2, .int x2_4)]) rfl ?_
      exact hn (x2_4, M) (gSome hr)
    · replace hr := (if_neg c_3).symm.trans hr
      refine r_aload_n (pc := 19) C dX8_append_19 rfl 1 rfl ?_
      refine g1_1 (pc := 20) C dX8_append_20 q156 (e1 nf) ?_
      refine r_sipush (pc := 23) C dX8_append_23 ks480 ?_
      refine r_icmp_ge (pc := 26) (tgt := 50) C dX8_append_26 rfl (fun c_5 => ?_) (fun c_5 => ?_)
      · replace hr := (if_pos c_5).symm.trans hr
        obtain ⟨x2_6, ex2_6, hr⟩ := gLet_some hr
        refine r_iinc (pc := 50) C dX8_append_50 3 rfl rfl (by decide) ex2_6 (ls' := [(2, .int x2_6), (3, .int x3_2), (0, .ref (gad 1 0)), (1, .int x1)]) rfl ?_
        refine r_goto (pc := 53) (tgt := 3) C dX8_append_53 rfl ?_
        refine r_sub C [2, 3, 0] (ls' := [(0, .ref (gad 1 0)), (1, .int x1), (2, .int x2_6)]) rfl ?_
        exact hn (x2_6, M) (gSome hr)
      · replace hr := (if_neg c_5).symm.trans hr
        refine r_aload_n (pc := 29) C dX8_append_29 rfl 1 rfl ?_
        refine g1_0 (pc := 30) C dX8_append_30 q154 (e1 nf) ?_
        refine r_aload_n (pc := 33) C dX8_append_33 rfl 1 rfl ?_
        refine g1_1 (pc := 34) C dX8_append_34 q156 (e1 nf) ?_
        refine r_iload_n (pc := 37) C dX8_append_37 rfl 0 rfl ?_
        refine r_i2c (pc := 38) C dX8_append_38 ?_
        obtain ⟨g_7, hr⟩ := gG_some hr
        obtain ⟨M_8, eM_8, hr⟩ := gLet_some hr
        refine r_castN (pc := 39) C dX8_append_39 rfl (e2 nf) g_7 rfl eM_8 ?_
        refine r_aload_n (pc := 40) C dX8_append_40 rfl 1 rfl ?_
        refine r_dup (pc := 41) C dX8_append_41 rfl ?_
        refine g1_1 (pc := 42) C dX8_append_42 q156 (e1 nf) ?_
        refine r_iconst (pc := 45) C dX8_append_45 ki1 ?_
        refine r_iadd (pc := 46) C dX8_append_46 ?_
        obtain ⟨M_9, eM_9, hr⟩ := gLet_some hr
        refine p1_1 (pc := 47) C dX8_append_47 q156 (e1 nf) eM_9 ?_
        obtain ⟨x2_10, ex2_10, hr⟩ := gLet_some hr
        refine r_iinc (pc := 50) C dX8_append_50 3 rfl rfl (by decide) ex2_10 (ls' := [(2, .int x2_10), (3, .int x3_2), (0, .ref (gad 1 0)), (1, .int x1)]) rfl ?_
        refine r_goto (pc := 53) (tgt := 3) C dX8_append_53 rfl ?_
        refine r_sub C [2, 3, 0] (ls' := [(0, .ref (gad 1 0)), (1, .int x1), (2, .int x2_10)]) rfl ?_
        exact hn (x2_10, M_9) (gSome hr)
noncomputable def X8_append (p1 : Int32) (M : gM) : Option gM := (gIter (fun s => X8_append_L3 p1 s.1 s.2) FU (24, M)).bind (fun M_11 => some M_11)
theorem k_X8_append {G : gG5} {nf : Nat} {M : gM} {p1 : Int32} {M1 : gM} (hr : X8_append p1 M = some M1) : gMet G (gXn nf) yX8_append cX8_append 4 none 0 0 M [.ref (gad 1 0), .int p1] none M1 := by
  refine gMet_of pl_X8 rfl (Nat.le_of_ble_eq_true rfl) (fun Ψ C CR => ?_)
  show Ψ M 0 [(0, .ref (gad 1 0)), (1, .int p1)] []
  refine r_bipush (pc := 0) C dX8_append_0 kb24 ?_
  refine r_istore_n (pc := 2) C dX8_append_2 rfl (by decide) rfl (ls' := [(2, .int 24), (0, .ref (gad 1 0)), (1, .int p1)]) rfl ?_
  refine r_sub C [1, 2, 0] (ls' := [(0, .ref (gad 1 0)), (1, .int p1), (2, .int 24)]) rfl ?_
  obtain ⟨ev, hit, hr⟩ := gBind_some hr
  refine gIter_V (step := fun s => X8_append_L3 p1 s.1 s.2) (P := fun s => Ψ s.2 3 [(0, .ref (gad 1 0)), (1, .int p1), (2, .int (s.1))] []) (K := (fun e => Ψ e 56 [] [])) (fun s w hs hn hx => t_X8_append_L3 C  hs hn hx) FU (24, M) ev hit ?_
  obtain ⟨M_11, rfl⟩ : ∃ z, z = ev := ⟨_, rfl⟩
  show Ψ M_11 56 [] []
  exact r_vret (pc := 56) CR dX8_append_56 rfl (gSome hr)
theorem c_X8_append {Ψ : gM → Nat → List (Nat × Value) → List Value → Prop} {G : gG5} {nf : Nat} {cc : ByteArray} {own : String} {nL : Nat} {ret : Option FieldType} {fr lo : Nat} {v0 : Option Value} {M0 M : gM} {pc index : Nat} {ls : List (Nat × Value)} {st : List Value} (C : gC Ψ G (gXn nf) cc own nL ret fr lo v0 M0) (d : decode cc pc = .ok (.invokevirtual index, 3)) (hl : Cond.methodLink own index yX8_append ∈ gws) (hR : 1 ≤ fr ∧ 23 ≤ lo) {p1 : Int32} {M1 : gM} (hr : X8_append p1 M = some M1) (hcat : (st.map fun v => v.category).sum ≤ 8) (k : Ψ M1 (pc + 3) ls (st)) : Ψ M pc ls (.int p1 :: .ref (gad 1 0) :: st) := r_callV C [.int p1] st d (k_X8_append hr) hl q591 q592 q117 q593 hd_X8_append hR rfl (by decide) (e1 nf) rfl hcat k
theorem hd_X10_feed : yX10_feed.cls ≠ "java/lang/invoke/MethodHandle" ∧ yX10_feed.cls ≠ "java/lang/invoke/VarHandle" ∧ (parseMethodDescriptor yX10_feed.desc).map (fun d => d.parameters.length) = some 5 := by decide +kernel
noncomputable def X10_feed (p1 : Int32) (p2 : Int32) (p3 : Int32) (p4 : Int32) (p5 : Int32) (M : gM) : Option (Int32 × gM) := (X8_bytesIn p1 M).bind (fun r_2 => (X8_bytesIn p2 M).bind (fun r_4 => (X8_bytesIn p3 M).bind (fun r_6 => (X8_bytesIn p4 M).bind (fun r_8 => (X8_bytesIn p5 M).bind (fun r_10 => gLet (((((r_2 + r_4) + r_6) + r_8) + r_10)) (fun x6_11 => (if ((M.1 1 0 1) + x6_11) ≤ 480 then (X8_append p1 M).bind (fun M_14 => (X8_append p2 M_14).bind (fun M_16 => (X8_append p3 M_16).bind (fun M_18 => (X8_append p4 M_18).bind (fun M_20 => (X8_append p5 M_20).bind (fun M_22 => some ((M_22.1 1 0 1), M_22)))))) else some ((-1), M))))))))
theorem k_X10_feed {G : gG5} {nf : Nat} {M : gM} {p1 : Int32} {p2 : Int32} {p3 : Int32} {p4 : Int32} {p5 : Int32} {r : Int32} {M1 : gM} (hr : X10_feed p1 p2 p3 p4 p5 M = some (r, M1)) : gMet G (gXn nf) yX10_feed cX10_feed 7 (some .int) 1 23 M [.ref (gad 0 0), .int p1, .int p2, .int p3, .int p4, .int p5] (some (.int r)) M1 := by
  refine gMet_of pl_X10 rfl (Nat.le_of_ble_eq_true rfl) (fun Ψ C CR => ?_)
  show Ψ M 0 [(0, .ref (gad 0 0)), (1, .int p1), (2, .int p2), (3, .int p3), (4, .int p4), (5, .int p5)] []
  refine r_iload_n (pc := 0) C dX10_feed_0 rfl 1 rfl ?_
  obtain ⟨r_2, hc_1, hr⟩ := gBind_some hr
  refine c_X8_bytesIn (pc := 1) C dX10_feed_1 q587 ⟨Nat.le_of_ble_eq_true rfl, Nat.le_of_ble_eq_true rfl⟩ hc_1 (Nat.le_of_ble_eq_true rfl) ?_
  refine r_iload_n (pc := 4) C dX10_feed_4 rfl 2 rfl ?_
  obtain ⟨r_4, hc_3, hr⟩ := gBind_some hr
  refine c_X8_bytesIn (pc := 5) C dX10_feed_5 q587 ⟨Nat.le_of_ble_eq_true rfl, Nat.le_of_ble_eq_true rfl⟩ hc_3 (Nat.le_of_ble_eq_true rfl) ?_
  refine r_iadd (pc := 8) C dX10_feed_8 ?_
  refine r_iload_n (pc := 9) C dX10_feed_9 rfl 3 rfl ?_
  obtain ⟨r_6, hc_5, hr⟩ := gBind_some hr
  refine c_X8_bytesIn (pc := 10) C dX10_feed_10 q587 ⟨Nat.le_of_ble_eq_true rfl, Nat.le_of_ble_eq_true rfl⟩ hc_5 (Nat.le_of_ble_eq_true rfl) ?_
  refine r_iadd (pc := 13) C dX10_feed_13 ?_
  refine r_iload (pc := 14) C dX10_feed_14 4 rfl ?_
  obtain ⟨r_8, hc_7, hr⟩ := gBind_some hr
  refine c_X8_bytesIn (pc := 16) C dX10_feed_16 q587 ⟨Nat.le_of_ble_eq_true rfl, Nat.le_of_ble_eq_true rfl⟩ hc_7 (Nat.le_of_ble_eq_true rfl) ?_
  refine r_iadd (pc := 19) C dX10_feed_19 ?_
  refine r_iload (pc := 20) C dX10_feed_20 5 rfl ?_
  obtain ⟨r_10, hc_9, hr⟩ := gBind_some hr
  refine c_X8_bytesIn (pc := 22) C dX10_feed_22 q587 ⟨Nat.le_of_ble_eq_true rfl, Nat.le_of_ble_eq_true rfl⟩ hc_9 (Nat.le_of_ble_eq_true rfl) ?_
  refine r_iadd (pc := 25) C dX10_feed_25 ?_
  obtain ⟨x6_11, ex6_11, hr⟩ := gLet_some hr
  refine r_istore (pc := 26) C dX10_feed_26 (by decide) ex6_11 (ls' := [(6, .int x6_11), (0, .ref (gad 0 0)), (1, .int p1), (2, .int p2), (3, .int p3), (4, .int p4), (5, .int p5)]) rfl ?_
  refine r_aload_n (pc := 28) C dX10_feed_28 rfl 1 rfl ?_
  refine g0_0 (pc := 29) C dX10_feed_29 q534 (e0 nf) ?_
  refine g1_1 (pc := 32) C dX10_feed_32 q157 (e1 nf) ?_
  refine r_iload (pc := 35) C dX10_feed_35 0 rfl ?_
  refine r_iadd (pc := 37) C dX10_feed_37 ?_
  refine r_sipush (pc := 38) C dX10_feed_38 ks480 ?_
  refine r_icmp_le (pc := 41) (tgt := 46) C dX10_feed_41 rfl (fun c_12 => ?_) (fun c_12 => ?_)
  · replace hr := (if_pos c_12).symm.trans hr
    refine r_aload_n (pc := 46) C dX10_feed_46 rfl 1 rfl ?_
    refine g0_0 (pc := 47) C dX10_feed_47 q534 (e0 nf) ?_
    refine r_iload_n (pc := 50) C dX10_feed_50 rfl 2 rfl ?_
    obtain ⟨M_14, hc_13, hr⟩ := gBind_some hr
    refine c_X8_append (pc := 51) C dX10_feed_51 q590 ⟨Nat.le_of_ble_eq_true rfl, Nat.le_of_ble_eq_true rfl⟩ hc_13 (Nat.le_of_ble_eq_true rfl) ?_
    refine r_aload_n (pc := 54) C dX10_feed_54 rfl 1 rfl ?_
    refine g0_0 (pc := 55) C dX10_feed_55 q534 (e0 nf) ?_
    refine r_iload_n (pc := 58) C dX10_feed_58 rfl 3 rfl ?_
    obtain ⟨M_16, hc_15, hr⟩ := gBind_some hr
    refine c_X8_append (pc := 59) C dX10_feed_59 q590 ⟨Nat.le_of_ble_eq_true rfl, Nat.le_of_ble_eq_true rfl⟩ hc_15 (Nat.le_of_ble_eq_true rfl) ?_
    refine r_aload_n (pc := 62) C dX10_feed_62 rfl 1 rfl ?_
    refine g0_0 (pc := 63) C dX10_feed_63 q534 (e0 nf) ?_
    refine r_iload_n (pc := 66) C dX10_feed_66 rfl 4 rfl ?_
    obtain ⟨M_18, hc_17, hr⟩ := gBind_some hr
    refine c_X8_append (pc := 67) C dX10_feed_67 q590 ⟨Nat.le_of_ble_eq_true rfl, Nat.le_of_ble_eq_true rfl⟩ hc_17 (Nat.le_of_ble_eq_true rfl) ?_
    refine r_aload_n (pc := 70) C dX10_feed_70 rfl 1 rfl ?_
    refine g0_0 (pc := 71) C dX10_feed_71 q534 (e0 nf) ?_
    refine r_iload (pc := 74) C dX10_feed_74 5 rfl ?_
    obtain ⟨M_20, hc_19, hr⟩ := gBind_some hr
    refine c_X8_append (pc := 76) C dX10_feed_76 q590 ⟨Nat.le_of_ble_eq_true rfl, Nat.le_of_ble_eq_true rfl⟩ hc_19 (Nat.le_of_ble_eq_true rfl) ?_
    refine r_aload_n (pc := 79) C dX10_feed_79 rfl 1 rfl ?_
    refine g0_0 (pc := 80) C dX10_feed_80 q534 (e0 nf) ?_
    refine r_iload (pc := 83) C dX10_feed_83 6 rfl ?_
    obtain ⟨M_22, hc_21, hr⟩ := gBind_some hr
    refine c_X8_append (pc := 85) C dX10_feed_85 q590 ⟨Nat.le_of_ble_eq_true rfl, Nat.le_of_ble_eq_true rfl⟩ hc_21 (Nat.le_of_ble_eq_true rfl) ?_
    refine r_aload_n (pc := 88) C dX10_feed_88 rfl 1 rfl ?_
    refine g0_0 (pc := 89) C dX10_feed_89 q534 (e0 nf) ?_
    refine g1_1 (pc := 92) C dX10_feed_92 q157 (e1 nf) ?_
    exact r_iret (pc := 95) CR dX10_feed_95 (congrArg (fun z => some (Value.int z)) (Prod.mk.inj (gSome hr)).1) (Prod.mk.inj (gSome hr)).2
  · replace hr := (if_neg c_12).symm.trans hr
    refine r_iconst (pc := 44) C dX10_feed_44 kim1 ?_
    exact r_iret (pc := 45) CR dX10_feed_45 (congrArg (fun z => some (Value.int z)) (Prod.mk.inj (gSome hr)).1) (Prod.mk.inj (gSome hr)).2
theorem c_X10_feed {Ψ : gM → Nat → List (Nat × Value) → List Value → Prop} {G : gG5} {nf : Nat} {cc : ByteArray} {own : String} {nL : Nat} {ret : Option FieldType} {fr lo : Nat} {v0 : Option Value} {M0 M : gM} {pc index : Nat} {ls : List (Nat × Value)} {st : List Value} (C : gC Ψ G (gXn nf) cc own nL ret fr lo v0 M0) (d : decode cc pc = .ok (.invokevirtual index, 3)) (hl : Cond.methodLink own index yX10_feed ∈ gws) (hR : 2 ≤ fr ∧ 49 ≤ lo) {p1 : Int32} {p2 : Int32} {p3 : Int32} {p4 : Int32} {p5 : Int32} {r : Int32} {M1 : gM} (hr : X10_feed p1 p2 p3 p4 p5 M = some (r, M1)) (hcat : (st.map fun v => v.category).sum ≤ 8) (k : Ψ M1 (pc + 3) ls (.int r :: st)) : Ψ M pc ls (.int p5 :: .int p4 :: .int p3 :: .int p2 :: .int p1 :: .ref (gad 0 0) :: st) := r_callV C [.int p1, .int p2, .int p3, .int p4, .int p5] st d (k_X10_feed hr) hl q584 q585 q116 q586 hd_X10_feed hR rfl (by decide) (e0 nf) rfl hcat k
theorem hd_X10_end : yX10_end.cls ≠ "java/lang/invoke/MethodHandle" ∧ yX10_end.cls ≠ "java/lang/invoke/VarHandle" ∧ (parseMethodDescriptor yX10_end.desc).map (fun d => d.parameters.length) = some 1 := by decide +kernel
noncomputable def X10_end (p1 : Int32) (M : gM) : Option (Int32 × gM) := (if p1 < 0 then some (0, M) else (if p1 ≤ (M.1 1 0 1) then gLet (wI M 1 0 1 p1) (fun M_3 => some (1, M_3)) else some (0, M)))
theorem k_X10_end {G : gG5} {nf : Nat} {M : gM} {p1 : Int32} {r : Int32} {M1 : gM} (hr : X10_end p1 M = some (r, M1)) : gMet G (gXn nf) yX10_end cX10_end 2 (some .boolean) 0 0 M [.ref (gad 0 0), .int p1] (some (.int r)) M1 := by
  refine gMet_of pl_X10 rfl (Nat.le_of_ble_eq_true rfl) (fun Ψ C CR => ?_)
  show Ψ M 0 [(0, .ref (gad 0 0)), (1, .int p1)] []
  refine r_iload_n (pc := 0) C dX10_end_0 rfl 1 rfl ?_
  refine r_if_lt (pc := 1) (tgt := 15) C dX10_end_1 rfl (fun c_1 => ?_) (fun c_1 => ?_)
  · replace hr := (if_pos c_1).symm.trans hr
    refine r_iconst (pc := 15) C dX10_end_15 ki0 ?_
    exact r_zret (pc := 16) CR dX10_end_16 rfl (congrArg (fun z => some (Value.int z)) (Prod.mk.inj (gSome hr)).1) (Prod.mk.inj (gSome hr)).2
  · replace hr := (if_neg c_1).symm.trans hr
    refine r_iload_n (pc := 4) C dX10_end_4 rfl 1 rfl ?_
    refine r_aload_n (pc := 5) C dX10_end_5 rfl 0 rfl ?_
    refine g0_0 (pc := 6) C dX10_end_6 q534 (e0 nf) ?_
    refine g1_1 (pc := 9) C dX10_end_9 q157 (e1 nf) ?_
    refine r_icmp_le (pc := 12) (tgt := 17) C dX10_end_12 rfl (fun c_2 => ?_) (fun c_2 => ?_)
    · replace hr := (if_pos c_2).symm.trans hr
      refine r_aload_n (pc := 17) C dX10_end_17 rfl 0 rfl ?_
      refine g0_0 (pc := 18) C dX10_end_18 q534 (e0 nf) ?_
      refine r_iload_n (pc := 21) C dX10_end_21 rfl 1 rfl ?_
      obtain ⟨M_3, eM_3, hr⟩ := gLet_some hr
      refine p1_1 (pc := 22) C dX10_end_22 q157 (e1 nf) eM_3 ?_
      refine r_iconst (pc := 25) C dX10_end_25 ki1 ?_
      exact r_zret (pc := 26) CR dX10_end_26 rfl (congrArg (fun z => some (Value.int z)) (Prod.mk.inj (gSome hr)).1) (Prod.mk.inj (gSome hr)).2
    · replace hr := (if_neg c_2).symm.trans hr
      refine r_iconst (pc := 15) C dX10_end_15 ki0 ?_
      exact r_zret (pc := 16) CR dX10_end_16 rfl (congrArg (fun z => some (Value.int z)) (Prod.mk.inj (gSome hr)).1) (Prod.mk.inj (gSome hr)).2
theorem c_X10_end {Ψ : gM → Nat → List (Nat × Value) → List Value → Prop} {G : gG5} {nf : Nat} {cc : ByteArray} {own : String} {nL : Nat} {ret : Option FieldType} {fr lo : Nat} {v0 : Option Value} {M0 M : gM} {pc index : Nat} {ls : List (Nat × Value)} {st : List Value} (C : gC Ψ G (gXn nf) cc own nL ret fr lo v0 M0) (d : decode cc pc = .ok (.invokevirtual index, 3)) (hl : Cond.methodLink own index yX10_end ∈ gws) (hR : 1 ≤ fr ∧ 21 ≤ lo) {p1 : Int32} {r : Int32} {M1 : gM} (hr : X10_end p1 M = some (r, M1)) (hcat : (st.map fun v => v.category).sum ≤ 8) (k : Ψ M1 (pc + 3) ls (.int r :: st)) : Ψ M pc ls (.int p1 :: .ref (gad 0 0) :: st) := r_callV C [.int p1] st d (k_X10_end hr) hl q595 q596 q116 q597 hd_X10_end hR rfl (by decide) (e0 nf) rfl hcat k
theorem hd_X3_skipBlanks : yX3_skipBlanks.cls ≠ "java/lang/invoke/MethodHandle" ∧ yX3_skipBlanks.cls ≠ "java/lang/invoke/VarHandle" ∧ (parseMethodDescriptor yX3_skipBlanks.desc).map (fun d => d.parameters.length) = some 0 := by decide +kernel
noncomputable def X3_skipBlanks_L0 (M : gM) : Option (gM ⊕ gM) := (if (M.1 1 0 1) ≤ (M.1 3 0 2) then some (.inr M) else gG (gin (M.1 3 0 2) 480) ((if (M.1 2 0 (Int32.toNatClampNeg (M.1 3 0 2))) = 32 then gLet (wI M 3 0 2 ((M.1 3 0 2) + 1)) (fun M_10 => some (.inl M_10)) else some (.inr M))))
theorem t_X3_skipBlanks_L0 {Ψ : gM → Nat → List (Nat × Value) → List Value → Prop} {G : gG5} {nf : Nat} {M : gM} {v0 : Option Value} {M0 : gM} {w : (gM ⊕ gM)} (C : gC Ψ G (gXn nf) cX3_skipBlanks RX3 1 none 0 0 v0 M0) (hr : X3_skipBlanks_L0 M = some w) (hn : ∀ s, w = .inl s → Ψ s 0 [(0, .ref (gad 3 0))] []) (hx : ∀ e, w = .inr e → (fun e => Ψ e 44 [(0, .ref (gad 3 0))] []) e) : Ψ M 0 [(0, .ref (gad 3 0))] [] := by
  refine r_aload_n (pc := 0) C dX3_skipBlanks_0 rfl 0 rfl ?_
  refine g3_2 (pc := 1) C dX3_skipBlanks_1 q173 (e3 nf) ?_
  refine r_aload_n (pc := 4) C dX3_skipBlanks_4 rfl 0 rfl ?_
  refine g3_0 (pc := 5) C dX3_skipBlanks_5 q171 (e3 nf) ?_
  refine g1_1 (pc := 8) C dX3_skipBlanks_8 q158 (e1 nf) ?_
  refine r_icmp_ge (pc := 11) (tgt := 44) C dX3_skipBlanks_11 rfl (fun c_7 => ?_) (fun c_7 => ?_)
  · replace hr := (if_pos c_7).symm.trans hr
    exact hx M (gSome hr)
  · replace hr := (if_neg c_7).symm.trans hr
    refine r_aload_n (pc := 14) C dX3_skipBlanks_14 rfl 0 rfl ?_
    refine g3_0 (pc := 15) C dX3_skipBlanks_15 q171 (e3 nf) ?_
    refine g1_0 (pc := 18) C dX3_skipBlanks_18 q155 (e1 nf) ?_
    refine r_aload_n (pc := 21) C dX3_skipBlanks_21 rfl 0 rfl ?_
    refine g3_2 (pc := 22) C dX3_skipBlanks_22 q173 (e3 nf) ?_
    obtain ⟨g_8, hr⟩ := gG_some hr
    refine r_caldN (pc := 25) C dX3_skipBlanks_25 rfl (e2 nf) g_8 rfl ?_
    refine r_bipush (pc := 26) C dX3_skipBlanks_26 kb32 ?_
    refine r_icmp_ne (pc := 28) (tgt := 44) C dX3_skipBlanks_28 rfl (fun c_9 => ?_) (fun c_9 => ?_)
    · replace hr := (if_neg c_9).symm.trans hr
      exact hx M (gSome hr)
    · replace hr := (if_pos c_9).symm.trans hr
      refine r_aload_n (pc := 31) C dX3_skipBlanks_31 rfl 0 rfl ?_
      refine r_dup (pc := 32) C dX3_skipBlanks_32 rfl ?_
      refine g3_2 (pc := 33) C dX3_skipBlanks_33 q173 (e3 nf) ?_
      refine r_iconst (pc := 36) C dX3_skipBlanks_36 ki1 ?_
      refine r_iadd (pc := 37) C dX3_skipBlanks_37 ?_
      obtain ⟨M_10, eM_10, hr⟩ := gLet_some hr
      refine p3_2 (pc := 38) C dX3_skipBlanks_38 q173 (e3 nf) eM_10 ?_
      refine r_goto (pc := 41) (tgt := 0) C dX3_skipBlanks_41 rfl ?_
      exact hn M_10 (gSome hr)
noncomputable def X3_skipBlanks (M : gM) : Option gM := (if (M.1 1 0 1) ≤ (M.1 3 0 2) then gLet (wI M 3 0 3 (M.1 3 0 2)) (fun M_2 => some M_2) else gG (gin (M.1 3 0 2) 480) ((if (M.1 2 0 (Int32.toNatClampNeg (M.1 3 0 2))) = 32 then gLet (wI M 3 0 2 ((M.1 3 0 2) + 1)) (fun M_6 => (gIter (fun s => X3_skipBlanks_L0 s) FU M_6).bind (fun M_11 => gLet (wI M_11 3 0 3 (M_11.1 3 0 2)) (fun M_12 => some M_12))) else gLet (wI M 3 0 3 (M.1 3 0 2)) (fun M_5 => some M_5))))
theorem k_X3_skipBlanks {G : gG5} {nf : Nat} {M : gM} {M1 : gM} (hr : X3_skipBlanks M = some M1) : gMet G (gXn nf) yX3_skipBlanks cX3_skipBlanks 1 none 0 0 M [.ref (gad 3 0)] none M1 := by
  refine gMet_of pl_X3 rfl (Nat.le_of_ble_eq_true rfl) (fun Ψ C CR => ?_)
  show Ψ M 0 [(0, .ref (gad 3 0))] []
  refine r_aload_n (pc := 0) C dX3_skipBlanks_0 rfl 0 rfl ?_
  refine g3_2 (pc := 1) C dX3_skipBlanks_1 q173 (e3 nf) ?_
  refine r_aload_n (pc := 4) C dX3_skipBlanks_4 rfl 0 rfl ?_
  refine g3_0 (pc := 5) C dX3_skipBlanks_5 q171 (e3 nf) ?_
  refine g1_1 (pc := 8) C dX3_skipBlanks_8 q158 (e1 nf) ?_
  refine r_icmp_ge (pc := 11) (tgt := 44) C dX3_skipBlanks_11 rfl (fun c_1 => ?_) (fun c_1 => ?_)
  · replace hr := (if_pos c_1).symm.trans hr
    refine r_aload_n (pc := 44) C dX3_skipBlanks_44 rfl 0 rfl ?_
    refine r_aload_n (pc := 45) C dX3_skipBlanks_45 rfl 0 rfl ?_
    refine g3_2 (pc := 46) C dX3_skipBlanks_46 q173 (e3 nf) ?_
    obtain ⟨M_2, eM_2, hr⟩ := gLet_some hr
    refine p3_3 (pc := 49) C dX3_skipBlanks_49 q174 (e3 nf) eM_2 ?_
    exact r_vret (pc := 52) CR dX3_skipBlanks_52 rfl (gSome hr)
  · replace hr := (if_neg c_1).symm.trans hr
    refine r_aload_n (pc := 14) C dX3_skipBlanks_14 rfl 0 rfl ?_
    refine g3_0 (pc := 15) C dX3_skipBlanks_15 q171 (e3 nf) ?_
    refine g1_0 (pc := 18) C dX3_skipBlanks_18 q155 (e1 nf) ?_
    refine r_aload_n (pc := 21) C dX3_skipBlanks_21 rfl 0 rfl ?_
    refine g3_2 (pc := 22) C dX3_skipBlanks_22 q173 (e3 nf) ?_
    obtain ⟨g_3, hr⟩ := gG_some hr
    refine r_caldN (pc := 25) C dX3_skipBlanks_25 rfl (e2 nf) g_3 rfl ?_
    refine r_bipush (pc := 26) C dX3_skipBlanks_26 kb32 ?_
    refine r_icmp_ne (pc := 28) (tgt := 44) C dX3_skipBlanks_28 rfl (fun c_4 => ?_) (fun c_4 => ?_)
    · replace hr := (if_neg c_4).symm.trans hr
      refine r_aload_n (pc := 44) C dX3_skipBlanks_44 rfl 0 rfl ?_
      refine r_aload_n (pc := 45) C dX3_skipBlanks_45 rfl 0 rfl ?_
      refine g3_2 (pc := 46) C dX3_skipBlanks_46 q173 (e3 nf) ?_
      obtain ⟨M_5, eM_5, hr⟩ := gLet_some hr
      refine p3_3 (pc := 49) C dX3_skipBlanks_49 q174 (e3 nf) eM_5 ?_
      exact r_vret (pc := 52) CR dX3_skipBlanks_52 rfl (gSome hr)
    · replace hr := (if_pos c_4).symm.trans hr
      refine r_aload_n (pc := 31) C dX3_skipBlanks_31 rfl 0 rfl ?_
      refine r_dup (pc := 32) C dX3_skipBlanks_32 rfl ?_
      refine g3_2 (pc := 33) C dX3_skipBlanks_33 q173 (e3 nf) ?_
      refine r_iconst (pc := 36) C dX3_skipBlanks_36 ki1 ?_
      refine r_iadd (pc := 37) C dX3_skipBlanks_37 ?_
      obtain ⟨M_6, eM_6, hr⟩ := gLet_some hr
      refine p3_2 (pc := 38) C dX3_skipBlanks_38 q173 (e3 nf) eM_6 ?_
      refine r_goto (pc := 41) (tgt := 0) C dX3_skipBlanks_41 rfl ?_
      obtain ⟨ev, hit, hr⟩ := gBind_some hr
      refine gIter_V (step := fun s => X3_skipBlanks_L0 s) (P := fun s => Ψ s 0 [(0, .ref (gad 3 0))] []) (K := (fun e => Ψ e 44 [(0, .ref (gad 3 0))] [])) (fun s w hs hn hx => t_X3_skipBlanks_L0 C  hs hn hx) FU M_6 ev hit ?_
      obtain ⟨M_11, rfl⟩ : ∃ z, z = ev := ⟨_, rfl⟩
      show Ψ M_11 44 [(0, .ref (gad 3 0))] []
      refine r_aload_n (pc := 44) C dX3_skipBlanks_44 rfl 0 rfl ?_
      refine r_aload_n (pc := 45) C dX3_skipBlanks_45 rfl 0 rfl ?_
      refine g3_2 (pc := 46) C dX3_skipBlanks_46 q173 (e3 nf) ?_
      obtain ⟨M_12, eM_12, hr⟩ := gLet_some hr
      refine p3_3 (pc := 49) C dX3_skipBlanks_49 q174 (e3 nf) eM_12 ?_
      exact r_vret (pc := 52) CR dX3_skipBlanks_52 rfl (gSome hr)
theorem c_X3_skipBlanks {Ψ : gM → Nat → List (Nat × Value) → List Value → Prop} {G : gG5} {nf : Nat} {cc : ByteArray} {own : String} {nL : Nat} {ret : Option FieldType} {fr lo : Nat} {v0 : Option Value} {M0 M : gM} {pc index : Nat} {ls : List (Nat × Value)} {st : List Value} (C : gC Ψ G (gXn nf) cc own nL ret fr lo v0 M0) (d : decode cc pc = .ok (.invokevirtual index, 3)) (hl : Cond.methodLink own index yX3_skipBlanks ∈ gws) (hR : 1 ≤ fr ∧ 20 ≤ lo) {M1 : gM} (hr : X3_skipBlanks M = some M1) (hcat : (st.map fun v => v.category).sum ≤ 8) (k : Ψ M1 (pc + 3) ls (st)) : Ψ M pc ls (.ref (gad 3 0) :: st) := r_callV C [] st d (k_X3_skipBlanks hr) hl q614 q1 q118 q615 hd_X3_skipBlanks hR rfl (by decide) (e3 nf) rfl hcat k
theorem hd_X3_isWord : yX3_isWord.cls ≠ "java/lang/invoke/MethodHandle" ∧ yX3_isWord.cls ≠ "java/lang/invoke/VarHandle" ∧ (parseMethodDescriptor yX3_isWord.desc).map (fun d => d.parameters.length) = some 3 := by decide +kernel
noncomputable def X3_isWord_L20 (i1 : Nat) (x2 : Int32) (x3 : Int32) (x4 : Int32) (M : gM) : Option (Int32 ⊕ (Unit ⊕ Unit)) := (if x3 ≤ x4 then some (.inr (.inr ())) else gG (gin x4 (gTx i1).length) (gG (gin (((M.1 3 0 3) + x4) - x2) 480) ((if (gTc i1 (Int32.toNatClampNeg x4)) = (M.1 2 0 (Int32.toNatClampNeg (((M.1 3 0 3) + x4) - x2))) then gLet (x4 + 1) (fun x4_6 => some (.inl x4_6)) else some (.inr (.inl ()))))))
theorem t_X3_isWord_L20 {Ψ : gM → Nat → List (Nat × Value) → List Value → Prop} {G : gG5} {nf : Nat} {M : gM} {v0 : Option Value} {M0 : gM} {i1 : Nat} {x2 : Int32} {x3 : Int32} {x4 : Int32} {w : (Int32 ⊕ (Unit ⊕ Unit))} (C : gC Ψ G (gXn nf) cX3_isWord RX3 5 (some .boolean) 6 141 v0 M0) (h1 : i1 < 2) (hr : X3_isWord_L20 i1 x2 x3 x4 M = some w) (hn : ∀ s, w = .inl s → Ψ M 20 [(0, .ref (gad 3 0)), (1, .ref (gad 62 i1)), (2, .int x2), (3, .int x3), (4, .int s)] []) (hx : ∀ e, w = .inr e → (gSP (fun e => Ψ M 52 [] []) (fun e => Ψ M 60 [] [])) e) : Ψ M 20 [(0, .ref (gad 3 0)), (1, .ref (gad 62 i1)), (2, .int x2), (3, .int x3), (4, .int x4)] [] := by
  refine r_iload (pc := 20) C dX3_isWord_20 4 rfl ?_
  refine r_iload_n (pc := 22) C dX3_isWord_22 rfl 3 rfl ?_
  refine r_icmp_ge (pc := 23) (tgt := 60) C dX3_isWord_23 rfl (fun c_2 => ?_) (fun c_2 => ?_)
  · replace hr := (if_pos c_2).symm.trans hr
    refine r_sub C [] (ls' := []) rfl ?_
    exact hx (.inr ()) (gSome hr)
  · replace hr := (if_neg c_2).symm.trans hr
    refine r_aload_n (pc := 26) C dX3_isWord_26 rfl 1 rfl ?_
    refine r_iload (pc := 27) C dX3_isWord_27 4 rfl ?_
    obtain ⟨g_3, hr⟩ := gG_some hr
    refine r_charAt (pc := 29) C dX3_isWord_29 q626 h1 g_3 (by decide) (Nat.le_of_ble_eq_true rfl) ?_
    refine r_aload_n (pc := 32) C dX3_isWord_32 rfl 0 rfl ?_
    refine g3_0 (pc := 33) C dX3_isWord_33 q171 (e3 nf) ?_
    refine g1_0 (pc := 36) C dX3_isWord_36 q155 (e1 nf) ?_
    refine r_aload_n (pc := 39) C dX3_isWord_39 rfl 0 rfl ?_
    refine g3_3 (pc := 40) C dX3_isWord_40 q174 (e3 nf) ?_
    refine r_iload (pc := 43) C dX3_isWord_43 4 rfl ?_
    refine r_iadd (pc := 45) C dX3_isWord_45 ?_
    refine r_iload_n (pc := 46) C dX3_isWord_46 rfl 2 rfl ?_
    refine r_isub (pc := 47) C dX3_isWord_47 ?_
    obtain ⟨g_4, hr⟩ := gG_some hr
    refine r_caldN (pc := 48) C dX3_isWord_48 rfl (e2 nf) g_4 rfl ?_
    refine r_icmp_eq (pc := 49) (tgt := 54) C dX3_isWord_49 rfl (fun c_5 => ?_) (fun c_5 => ?_)
    · replace hr := (if_pos c_5).symm.trans hr
      obtain ⟨x4_6, ex4_6, hr⟩ := gLet_some hr
      refine r_iinc (pc := 54) C dX3_isWord_54 4 rfl rfl (by decide) ex4_6 (ls' := [(4, .int x4_6), (0, .ref (gad 3 0)), (1, .ref (gad 62 i1)), (2, .int x2), (3, .int x3)]) rfl ?_
      refine r_goto (pc := 57) (tgt := 20) C dX3_isWord_57 rfl ?_
      refine r_sub C [1, 2, 3, 4, 0] (ls' := [(0, .ref (gad 3 0)), (1, .ref (gad 62 i1)), (2, .int x2), (3, .int x3), (4, .int x4_6)]) rfl ?_
      exact hn x4_6 (gSome hr)
    · replace hr := (if_neg c_5).symm.trans hr
      refine r_sub C [] (ls' := []) rfl ?_
      exact hx (.inl ()) (gSome hr)
noncomputable def X3_isWord (i1 : Nat) (p2 : Int32) (p3 : Int32) (M : gM) : Option Int32 := (if (p3 - p2) = ((M.1 3 0 2) - (M.1 3 0 3)) then (gIter (fun s => X3_isWord_L20 i1 p2 p3 s M) FU p2).bind (gS2 (fun _ => some 0) (fun _ => some 1)) else some 0)
theorem k_X3_isWord {G : gG5} {nf : Nat} {M : gM} {i1 : Nat} {p2 : Int32} {p3 : Int32} (h1 : i1 < 2) {r : Int32} (hr : X3_isWord i1 p2 p3 M = some r) : gMet G (gXn nf) yX3_isWord cX3_isWord 5 (some .boolean) 6 141 M [.ref (gad 3 0), .ref (gad 62 i1), .int p2, .int p3] (some (.int r)) M := by
  refine gMet_of pl_X3 rfl (Nat.le_of_ble_eq_true rfl) (fun Ψ C CR => ?_)
  show Ψ M 0 [(0, .ref (gad 3 0)), (1, .ref (gad 62 i1)), (2, .int p2), (3, .int p3)] []
  refine r_iload_n (pc := 0) C dX3_isWord_0 rfl 3 rfl ?_
  refine r_iload_n (pc := 1) C dX3_isWord_1 rfl 2 rfl ?_
  refine r_isub (pc := 2) C dX3_isWord_2 ?_
  refine r_aload_n (pc := 3) C dX3_isWord_3 rfl 0 rfl ?_
  refine g3_2 (pc := 4) C dX3_isWord_4 q173 (e3 nf) ?_
  refine r_aload_n (pc := 7) C dX3_isWord_7 rfl 0 rfl ?_
  refine g3_3 (pc := 8) C dX3_isWord_8 q174 (e3 nf) ?_
  refine r_isub (pc := 11) C dX3_isWord_11 ?_
  refine r_icmp_eq (pc := 12) (tgt := 17) C dX3_isWord_12 rfl (fun c_1 => ?_) (fun c_1 => ?_)
  · replace hr := (if_pos c_1).symm.trans hr
    refine r_iload_n (pc := 17) C dX3_isWord_17 rfl 2 rfl ?_
    refine r_istore (pc := 18) C dX3_isWord_18 (by decide) rfl (ls' := [(4, .int p2), (0, .ref (gad 3 0)), (1, .ref (gad 62 i1)), (2, .int p2), (3, .int p3)]) rfl ?_
    refine r_sub C [1, 2, 3, 4, 0] (ls' := [(0, .ref (gad 3 0)), (1, .ref (gad 62 i1)), (2, .int p2), (3, .int p3), (4, .int p2)]) rfl ?_
    obtain ⟨ev, hit, hr⟩ := gBind_some hr
    refine gIter_V (step := fun s => X3_isWord_L20 i1 p2 p3 s M) (P := fun s => Ψ M 20 [(0, .ref (gad 3 0)), (1, .ref (gad 62 i1)), (2, .int p2), (3, .int p3), (4, .int s)] []) (K := (gSP (fun e => Ψ M 52 [] []) (fun e => Ψ M 60 [] []))) (fun s w hs hn hx => t_X3_isWord_L20 C h1 hs hn hx) FU p2 ev hit ?_
    rcases ev with _ | _
    · replace hr := gS2_l hr
      show Ψ M 52 [] []
      refine r_iconst (pc := 52) C dX3_isWord_52 ki0 ?_
      exact r_zret (pc := 53) CR dX3_isWord_53 rfl (congrArg (fun z => some (Value.int z)) (gSome hr)) rfl
    · replace hr := gS2_r hr
      show Ψ M 60 [] []
      refine r_iconst (pc := 60) C dX3_isWord_60 ki1 ?_
      exact r_zret (pc := 61) CR dX3_isWord_61 rfl (congrArg (fun z => some (Value.int z)) (gSome hr)) rfl
  · replace hr := (if_neg c_1).symm.trans hr
    refine r_iconst (pc := 15) C dX3_isWord_15 ki0 ?_
    exact r_zret (pc := 16) CR dX3_isWord_16 rfl (congrArg (fun z => some (Value.int z)) (gSome hr)) rfl
theorem c_X3_isWord {Ψ : gM → Nat → List (Nat × Value) → List Value → Prop} {G : gG5} {nf : Nat} {cc : ByteArray} {own : String} {nL : Nat} {ret : Option FieldType} {fr lo : Nat} {v0 : Option Value} {M0 M : gM} {pc index : Nat} {ls : List (Nat × Value)} {st : List Value} (C : gC Ψ G (gXn nf) cc own nL ret fr lo v0 M0) (d : decode cc pc = .ok (.invokevirtual index, 3)) (hl : Cond.methodLink own index yX3_isWord ∈ gws) (hR : 7 ≤ fr ∧ 165 ≤ lo) {i1 : Nat} {p2 : Int32} {p3 : Int32} (h1 : i1 < 2) {r : Int32} (hr : X3_isWord i1 p2 p3 M = some r) (hcat : (st.map fun v => v.category).sum ≤ 8) (k : Ψ M (pc + 3) ls (.int r :: st)) : Ψ M pc ls (.int p3 :: .int p2 :: .ref (gad 62 i1) :: .ref (gad 3 0) :: st) := r_callV C [.ref (gad 62 i1), .int p2, .int p3] st d (k_X3_isWord h1 hr) hl q666 q2 q118 q667 hd_X3_isWord hR rfl (by decide) (e3 nf) rfl hcat k
theorem hd_X3_readWord : yX3_readWord.cls ≠ "java/lang/invoke/MethodHandle" ∧ yX3_readWord.cls ≠ "java/lang/invoke/VarHandle" ∧ (parseMethodDescriptor yX3_readWord.desc).map (fun d => d.parameters.length) = some 1 := by decide +kernel
noncomputable def X3_readWord_L4 (i1 : Nat) (M : gM) : Option (gM ⊕ gM) := (if (M.1 1 0 1) ≤ (M.1 3 0 2) then some (.inr M) else gG (gin (M.1 3 0 2) 480) ((if (M.1 2 0 (Int32.toNatClampNeg (M.1 3 0 2))) < 97 then some (.inr M) else gG (gin (M.1 3 0 2) 480) ((if 122 < (M.1 2 0 (Int32.toNatClampNeg (M.1 3 0 2))) then some (.inr M) else gLet (wI M 3 0 2 ((M.1 3 0 2) + 1)) (fun M_8 => some (.inl M_8)))))))
theorem t_X3_readWord_L4 {Ψ : gM → Nat → List (Nat × Value) → List Value → Prop} {G : gG5} {nf : Nat} {M : gM} {v0 : Option Value} {M0 : gM} {i1 : Nat} {w : (gM ⊕ gM)} (C : gC Ψ G (gXn nf) cX3_readWord RX3 5 (some .int) 7 165 v0 M0) (h1 : i1 < 2) (hr : X3_readWord_L4 i1 M = some w) (hn : ∀ s, w = .inl s → Ψ s 4 [(0, .ref (gad 3 0)), (1, .ref (gad 62 i1))] []) (hx : ∀ e, w = .inr e → (fun e => Ψ e 65 [(0, .ref (gad 3 0)), (1, .ref (gad 62 i1))] []) e) : Ψ M 4 [(0, .ref (gad 3 0)), (1, .ref (gad 62 i1))] [] := by
  refine r_aload_n (pc := 4) C dX3_readWord_4 rfl 0 rfl ?_
  refine g3_2 (pc := 5) C dX3_readWord_5 q173 (e3 nf) ?_
  refine r_aload_n (pc := 8) C dX3_readWord_8 rfl 0 rfl ?_
  refine g3_0 (pc := 9) C dX3_readWord_9 q171 (e3 nf) ?_
  refine g1_1 (pc := 12) C dX3_readWord_12 q158 (e1 nf) ?_
  refine r_icmp_ge (pc := 15) (tgt := 65) C dX3_readWord_15 rfl (fun c_3 => ?_) (fun c_3 => ?_)
  · replace hr := (if_pos c_3).symm.trans hr
    exact hx M (gSome hr)
  · replace hr := (if_neg c_3).symm.trans hr
    refine r_aload_n (pc := 18) C dX3_readWord_18 rfl 0 rfl ?_
    refine g3_0 (pc := 19) C dX3_readWord_19 q171 (e3 nf) ?_
    refine g1_0 (pc := 22) C dX3_readWord_22 q155 (e1 nf) ?_
    refine r_aload_n (pc := 25) C dX3_readWord_25 rfl 0 rfl ?_
    refine g3_2 (pc := 26) C dX3_readWord_26 q173 (e3 nf) ?_
    obtain ⟨g_4, hr⟩ := gG_some hr
    refine r_caldN (pc := 29) C dX3_readWord_29 rfl (e2 nf) g_4 rfl ?_
    refine r_bipush (pc := 30) C dX3_readWord_30 kb97 ?_
    refine r_icmp_lt (pc := 32) (tgt := 65) C dX3_readWord_32 rfl (fun c_5 => ?_) (fun c_5 => ?_)
    · replace hr := (if_pos c_5).symm.trans hr
      exact hx M (gSome hr)
    · replace hr := (if_neg c_5).symm.trans hr
      refine r_aload_n (pc := 35) C dX3_readWord_35 rfl 0 rfl ?_
      refine g3_0 (pc := 36) C dX3_readWord_36 q171 (e3 nf) ?_
      refine g1_0 (pc := 39) C dX3_readWord_39 q155 (e1 nf) ?_
      refine r_aload_n (pc := 42) C dX3_readWord_42 rfl 0 rfl ?_
      refine g3_2 (pc := 43) C dX3_readWord_43 q173 (e3 nf) ?_
      obtain ⟨g_6, hr⟩ := gG_some hr
      refine r_caldN (pc := 46) C dX3_readWord_46 rfl (e2 nf) g_6 rfl ?_
      refine r_bipush (pc := 47) C dX3_readWord_47 kb122 ?_
      refine r_icmp_gt (pc := 49) (tgt := 65) C dX3_readWord_49 rfl (fun c_7 => ?_) (fun c_7 => ?_)
      · replace hr := (if_pos c_7).symm.trans hr
        exact hx M (gSome hr)
      · replace hr := (if_neg c_7).symm.trans hr
        refine r_aload_n (pc := 52) C dX3_readWord_52 rfl 0 rfl ?_
        refine r_dup (pc := 53) C dX3_readWord_53 rfl ?_
        refine g3_2 (pc := 54) C dX3_readWord_54 q173 (e3 nf) ?_
        refine r_iconst (pc := 57) C dX3_readWord_57 ki1 ?_
        refine r_iadd (pc := 58) C dX3_readWord_58 ?_
        obtain ⟨M_8, eM_8, hr⟩ := gLet_some hr
        refine p3_2 (pc := 59) C dX3_readWord_59 q173 (e3 nf) eM_8 ?_
        refine r_goto (pc := 62) (tgt := 4) C dX3_readWord_62 rfl ?_
        exact hn M_8 (gSome hr)
noncomputable def X3_readWord_L72 (i1 : Nat) (x2 : Int32) (x3 : Int32) (x4 : Int32) (M : gM) : Option ((Int32 × Int32 × Int32) ⊕ (Int32 ⊕ Unit)) := (if (gTl i1) ≤ x4 then some (.inr (.inr ())) else gG (gin x4 (gTx i1).length) ((if (gTc i1 (Int32.toNatClampNeg x4)) = 32 then (X3_isWord i1 x3 x4 M).bind (fun r_15 => (if r_15 = 0 then gLet (x2 + 1) (fun x2_17 => gLet ((x4 + 1)) (fun x3_18 => gLet (x4 + 1) (fun x4_19 => some (.inl (x2_17, x3_18, x4_19))))) else some (.inr (.inl x2)))) else gLet (x4 + 1) (fun x4_13 => some (.inl (x2, x3, x4_13))))))
theorem t_X3_readWord_L72 {Ψ : gM → Nat → List (Nat × Value) → List Value → Prop} {G : gG5} {nf : Nat} {M : gM} {v0 : Option Value} {M0 : gM} {i1 : Nat} {x2 : Int32} {x3 : Int32} {x4 : Int32} {w : ((Int32 × Int32 × Int32) ⊕ (Int32 ⊕ Unit))} (C : gC Ψ G (gXn nf) cX3_readWord RX3 5 (some .int) 7 165 v0 M0) (h1 : i1 < 2) (hr : X3_readWord_L72 i1 x2 x3 x4 M = some w) (hn : ∀ s, w = .inl s → Ψ M 72 [(0, .ref (gad 3 0)), (1, .ref (gad 62 i1)), (2, .int (s.1)), (3, .int (s.2.1)), (4, .int (s.2.2))] []) (hx : ∀ e, w = .inr e → (gSP (fun e => Ψ M 103 [(2, .int e)] []) (fun e => Ψ M 119 [] [])) e) : Ψ M 72 [(0, .ref (gad 3 0)), (1, .ref (gad 62 i1)), (2, .int x2), (3, .int x3), (4, .int x4)] [] := by
  refine r_iload (pc := 72) C dX3_readWord_72 4 rfl ?_
  refine r_aload_n (pc := 74) C dX3_readWord_74 rfl 1 rfl ?_
  refine r_strlen (pc := 75) C dX3_readWord_75 q616 h1 (by decide) (Nat.le_of_ble_eq_true rfl) ?_
  refine r_icmp_ge (pc := 78) (tgt := 119) C dX3_readWord_78 rfl (fun c_10 => ?_) (fun c_10 => ?_)
  · replace hr := (if_pos c_10).symm.trans hr
    refine r_sub C [] (ls' := []) rfl ?_
    exact hx (.inr ()) (gSome hr)
  · replace hr := (if_neg c_10).symm.trans hr
    refine r_aload_n (pc := 81) C dX3_readWord_81 rfl 1 rfl ?_
    refine r_iload (pc := 82) C dX3_readWord_82 4 rfl ?_
    obtain ⟨g_11, hr⟩ := gG_some hr
    refine r_charAt (pc := 84) C dX3_readWord_84 q626 h1 g_11 (by decide) (Nat.le_of_ble_eq_true rfl) ?_
    refine r_bipush (pc := 87) C dX3_readWord_87 kb32 ?_
    refine r_icmp_ne (pc := 89) (tgt := 113) C dX3_readWord_89 rfl (fun c_12 => ?_) (fun c_12 => ?_)
    · replace hr := (if_neg c_12).symm.trans hr
      obtain ⟨x4_13, ex4_13, hr⟩ := gLet_some hr
      refine r_iinc (pc := 113) C dX3_readWord_113 4 rfl rfl (by decide) ex4_13 (ls' := [(4, .int x4_13), (0, .ref (gad 3 0)), (1, .ref (gad 62 i1)), (2, .int x2), (3, .int x3)]) rfl ?_
      refine r_goto (pc := 116) (tgt := 72) C dX3_readWord_116 rfl ?_
      refine r_sub C [1, 2, 3, 4, 0] (ls' := [(0, .ref (gad 3 0)), (1, .ref (gad 62 i1)), (2, .int x2), (3, .int x3), (4, .int x4_13)]) rfl ?_
      exact hn (x2, x3, x4_13) (gSome hr)
    · replace hr := (if_pos c_12).symm.trans hr
      refine r_aload_n (pc := 92) C dX3_readWord_92 rfl 0 rfl ?_
      refine r_aload_n (pc := 93) C dX3_readWord_93 rfl 1 rfl ?_
      refine r_iload_n (pc := 94) C dX3_readWord_94 rfl 3 rfl ?_
      refine r_iload (pc := 95) C dX3_readWord_95 4 rfl ?_
      obtain ⟨r_15, hc_14, hr⟩ := gBind_some hr
      refine c_X3_isWord (pc := 97) C dX3_readWord_97 q664 ⟨Nat.le_of_ble_eq_true rfl, Nat.le_of_ble_eq_true rfl⟩ h1 hc_14 (Nat.le_of_ble_eq_true rfl) ?_
      refine r_if_eq (pc := 100) (tgt := 105) C dX3_readWord_100 rfl (fun c_16 => ?_) (fun c_16 => ?_)
      · replace hr := (if_pos c_16).symm.trans hr
        obtain ⟨x2_17, ex2_17, hr⟩ := gLet_some hr
        refine r_iinc (pc := 105) C dX3_readWord_105 2 rfl rfl (by decide) ex2_17 (ls' := [(2, .int x2_17), (0, .ref (gad 3 0)), (1, .ref (gad 62 i1)), (3, .int x3), (4, .int x4)]) rfl ?_
        refine r_iload (pc := 108) C dX3_readWord_108 4 rfl ?_
        refine r_iconst (pc := 110) C dX3_readWord_110 ki1 ?_
        refine r_iadd (pc := 111) C dX3_readWord_111 ?_
        obtain ⟨x3_18, ex3_18, hr⟩ := gLet_some hr
        refine r_istore_n (pc := 112) C dX3_readWord_112 rfl (by decide) ex3_18 (ls' := [(3, .int x3_18), (2, .int x2_17), (0, .ref (gad 3 0)), (1, .ref (gad 62 i1)), (4, .int x4)]) rfl ?_
        obtain ⟨x4_19, ex4_19, hr⟩ := gLet_some hr
        refine r_iinc (pc := 113) C dX3_readWord_113 4 rfl rfl (by decide) ex4_19 (ls' := [(4, .int x4_19), (3, .int x3_18), (2, .int x2_17), (0, .ref (gad 3 0)), (1, .ref (gad 62 i1))]) rfl ?_
        refine r_goto (pc := 116) (tgt := 72) C dX3_readWord_116 rfl ?_
        refine r_sub C [3, 4, 2, 1, 0] (ls' := [(0, .ref (gad 3 0)), (1, .ref (gad 62 i1)), (2, .int x2_17), (3, .int x3_18), (4, .int x4_19)]) rfl ?_
        exact hn (x2_17, x3_18, x4_19) (gSome hr)
      · replace hr := (if_neg c_16).symm.trans hr
        refine r_sub C [2] (ls' := [(2, .int x2)]) rfl ?_
        exact hx (.inl x2) (gSome hr)
noncomputable def X3_readWord (i1 : Nat) (M : gM) : Option (Int32 × gM) := (X3_skipBlanks M).bind (fun M_2 => (gIter (fun s => X3_readWord_L4 i1 s) FU M_2).bind (fun M_9 => (gIter (fun s => X3_readWord_L72 i1 s.1 s.2.1 s.2.2 M_9) FU (0, 0, 0)).bind (gS2 (fun x2_20 => some (x2_20, M_9)) (fun _ => some ((-1), M_9)))))
theorem k_X3_readWord {G : gG5} {nf : Nat} {M : gM} {i1 : Nat} (h1 : i1 < 2) {r : Int32} {M1 : gM} (hr : X3_readWord i1 M = some (r, M1)) : gMet G (gXn nf) yX3_readWord cX3_readWord 5 (some .int) 7 165 M [.ref (gad 3 0), .ref (gad 62 i1)] (some (.int r)) M1 := by
  refine gMet_of pl_X3 rfl (Nat.le_of_ble_eq_true rfl) (fun Ψ C CR => ?_)
  show Ψ M 0 [(0, .ref (gad 3 0)), (1, .ref (gad 62 i1))] []
  refine r_aload_n (pc := 0) C dX3_readWord_0 rfl 0 rfl ?_
  obtain ⟨M_2, hc_1, hr⟩ := gBind_some hr
  refine c_X3_skipBlanks (pc := 1) C dX3_readWord_1 q612 ⟨Nat.le_of_ble_eq_true rfl, Nat.le_of_ble_eq_true rfl⟩ hc_1 (Nat.le_of_ble_eq_true rfl) ?_
  obtain ⟨ev, hit, hr⟩ := gBind_some hr
  refine gIter_V (step := fun s => X3_readWord_L4 i1 s) (P := fun s => Ψ s 4 [(0, .ref (gad 3 0)), (1, .ref (gad 62 i1))] []) (K := (fun e => Ψ e 65 [(0, .ref (gad 3 0)), (1, .ref (gad 62 i1))] [])) (fun s w hs hn hx => t_X3_readWord_L4 C h1 hs hn hx) FU M_2 ev hit ?_
  obtain ⟨M_9, rfl⟩ : ∃ z, z = ev := ⟨_, rfl⟩
  show Ψ M_9 65 [(0, .ref (gad 3 0)), (1, .ref (gad 62 i1))] []
  refine r_iconst (pc := 65) C dX3_readWord_65 ki0 ?_
  refine r_istore_n (pc := 66) C dX3_readWord_66 rfl (by decide) rfl (ls' := [(2, .int 0), (0, .ref (gad 3 0)), (1, .ref (gad 62 i1))]) rfl ?_
  refine r_iconst (pc := 67) C dX3_readWord_67 ki0 ?_
  refine r_istore_n (pc := 68) C dX3_readWord_68 rfl (by decide) rfl (ls' := [(3, .int 0), (2, .int 0), (0, .ref (gad 3 0)), (1, .ref (gad 62 i1))]) rfl ?_
  refine r_iconst (pc := 69) C dX3_readWord_69 ki0 ?_
  refine r_istore (pc := 70) C dX3_readWord_70 (by decide) rfl (ls' := [(4, .int 0), (3, .int 0), (2, .int 0), (0, .ref (gad 3 0)), (1, .ref (gad 62 i1))]) rfl ?_
  refine r_sub C [3, 4, 2, 1, 0] (ls' := [(0, .ref (gad 3 0)), (1, .ref (gad 62 i1)), (2, .int 0), (3, .int 0), (4, .int 0)]) rfl ?_
  obtain ⟨ev, hit, hr⟩ := gBind_some hr
  refine gIter_V (step := fun s => X3_readWord_L72 i1 s.1 s.2.1 s.2.2 M_9) (P := fun s => Ψ M_9 72 [(0, .ref (gad 3 0)), (1, .ref (gad 62 i1)), (2, .int (s.1)), (3, .int (s.2.1)), (4, .int (s.2.2))] []) (K := (gSP (fun e => Ψ M_9 103 [(2, .int e)] []) (fun e => Ψ M_9 119 [] []))) (fun s w hs hn hx => t_X3_readWord_L72 C h1 hs hn hx) FU (0, 0, 0) ev hit ?_
  rcases ev with x2_20 | _
  · replace hr := gS2_l hr
    show Ψ M_9 103 [(2, .int x2_20)] []
    refine r_iload_n (pc := 103) C dX3_readWord_103 rfl 0 rfl ?_
    exact r_iret (pc := 104) CR dX3_readWord_104 (congrArg (fun z => some (Value.int z)) (Prod.mk.inj (gSome hr)).1) (Prod.mk.inj (gSome hr)).2
  · replace hr := gS2_r hr
    show Ψ M_9 119 [] []
    refine r_iconst (pc := 119) C dX3_readWord_119 kim1 ?_
    exact r_iret (pc := 120) CR dX3_readWord_120 (congrArg (fun z => some (Value.int z)) (Prod.mk.inj (gSome hr)).1) (Prod.mk.inj (gSome hr)).2
theorem c_X3_readWord {Ψ : gM → Nat → List (Nat × Value) → List Value → Prop} {G : gG5} {nf : Nat} {cc : ByteArray} {own : String} {nL : Nat} {ret : Option FieldType} {fr lo : Nat} {v0 : Option Value} {M0 M : gM} {pc index : Nat} {ls : List (Nat × Value)} {st : List Value} (C : gC Ψ G (gXn nf) cc own nL ret fr lo v0 M0) (d : decode cc pc = .ok (.invokevirtual index, 3)) (hl : Cond.methodLink own index yX3_readWord ∈ gws) (hR : 8 ≤ fr ∧ 189 ≤ lo) {i1 : Nat} (h1 : i1 < 2) {r : Int32} {M1 : gM} (hr : X3_readWord i1 M = some (r, M1)) (hcat : (st.map fun v => v.category).sum ≤ 8) (k : Ψ M1 (pc + 3) ls (.int r :: st)) : Ψ M pc ls (.ref (gad 62 i1) :: .ref (gad 3 0) :: st) := r_callV C [.ref (gad 62 i1)] st d (k_X3_readWord h1 hr) hl q610 q0 q118 q611 hd_X3_readWord hR rfl (by decide) (e3 nf) rfl hcat k
theorem hd_X3_mayNotBeAgain : yX3_mayNotBeAgain.cls ≠ "java/lang/invoke/MethodHandle" ∧ yX3_mayNotBeAgain.cls ≠ "java/lang/invoke/VarHandle" ∧ (parseMethodDescriptor yX3_mayNotBeAgain.desc).map (fun d => d.parameters.length) = some 3 := by decide +kernel
noncomputable def X3_mayNotBeAgain (i0 : Nat) (p1 : Int32) (p2 : Int32) (M : gM) : Option Int32 := (if p1 < 8 then (if ((p2 >>> (p1 &&& 31)) &&& 1) = 0 then some 0 else some 1) else (if (M.1 5 i0 5) < 10 then some 0 else some 1))
theorem k_X3_mayNotBeAgain {G : gG5} {nf : Nat} {M : gM} {i0 : Nat} {p1 : Int32} {p2 : Int32} (h0 : i0 < 2) {r : Int32} (hr : X3_mayNotBeAgain i0 p1 p2 M = some r) : gMet G (gXn nf) yX3_mayNotBeAgain cX3_mayNotBeAgain 3 (some .boolean) 0 0 M [.ref (gad 5 i0), .int p1, .int p2] (some (.int r)) M := by
  refine gMet_of pl_X3 rfl (Nat.le_of_ble_eq_true rfl) (fun Ψ C CR => ?_)
  show Ψ M 0 [(0, .ref (gad 5 i0)), (1, .int p1), (2, .int p2)] []
  refine r_iload_n (pc := 0) C dX3_mayNotBeAgain_0 rfl 1 rfl ?_
  refine r_bipush (pc := 1) C dX3_mayNotBeAgain_1 kb8 ?_
  refine r_icmp_lt (pc := 3) (tgt := 21) C dX3_mayNotBeAgain_3 rfl (fun c_1 => ?_) (fun c_1 => ?_)
  · replace hr := (if_pos c_1).symm.trans hr
    refine r_iload_n (pc := 21) C dX3_mayNotBeAgain_21 rfl 2 rfl ?_
    refine r_iload_n (pc := 22) C dX3_mayNotBeAgain_22 rfl 1 rfl ?_
    refine r_ishr (pc := 23) C dX3_mayNotBeAgain_23 ?_
    refine r_iconst (pc := 24) C dX3_mayNotBeAgain_24 ki1 ?_
    refine r_iand (pc := 25) C dX3_mayNotBeAgain_25 ?_
    refine r_if_eq (pc := 26) (tgt := 33) C dX3_mayNotBeAgain_26 rfl (fun c_2 => ?_) (fun c_2 => ?_)
    · replace hr := (if_pos c_2).symm.trans hr
      refine r_iconst (pc := 33) C dX3_mayNotBeAgain_33 ki0 ?_
      exact r_zret (pc := 34) CR dX3_mayNotBeAgain_34 rfl (congrArg (fun z => some (Value.int z)) (gSome hr)) rfl
    · replace hr := (if_neg c_2).symm.trans hr
      refine r_iconst (pc := 29) C dX3_mayNotBeAgain_29 ki1 ?_
      refine r_goto (pc := 30) (tgt := 34) C dX3_mayNotBeAgain_30 rfl ?_
      exact r_zret (pc := 34) CR dX3_mayNotBeAgain_34 rfl (congrArg (fun z => some (Value.int z)) (gSome hr)) rfl
  · replace hr := (if_neg c_1).symm.trans hr
    refine r_aload_n (pc := 6) C dX3_mayNotBeAgain_6 rfl 0 rfl ?_
    refine g5_5 (pc := 7) C dX3_mayNotBeAgain_7 q215 (e5 (nf := nf) h0) ?_
    refine r_bipush (pc := 10) C dX3_mayNotBeAgain_10 kb10 ?_
    refine r_icmp_lt (pc := 12) (tgt := 19) C dX3_mayNotBeAgain_12 rfl (fun c_3 => ?_) (fun c_3 => ?_)
    · replace hr := (if_pos c_3).symm.trans hr
      refine r_iconst (pc := 19) C dX3_mayNotBeAgain_19 ki0 ?_
      exact r_zret (pc := 20) CR dX3_mayNotBeAgain_20 rfl (congrArg (fun z => some (Value.int z)) (gSome hr)) rfl
    · replace hr := (if_neg c_3).symm.trans hr
      refine r_iconst (pc := 15) C dX3_mayNotBeAgain_15 ki1 ?_
      refine r_goto (pc := 16) (tgt := 20) C dX3_mayNotBeAgain_16 rfl ?_
      exact r_zret (pc := 20) CR dX3_mayNotBeAgain_20 rfl (congrArg (fun z => some (Value.int z)) (gSome hr)) rfl
theorem c_X3_mayNotBeAgain {Ψ : gM → Nat → List (Nat × Value) → List Value → Prop} {G : gG5} {nf : Nat} {cc : ByteArray} {own : String} {nL : Nat} {ret : Option FieldType} {fr lo : Nat} {v0 : Option Value} {M0 M : gM} {pc index : Nat} {ls : List (Nat × Value)} {st : List Value} (C : gC Ψ G (gXn nf) cc own nL ret fr lo v0 M0) (d : decode cc pc = .ok (.invokestatic index, 3)) (hl : Cond.methodLink own index yX3_mayNotBeAgain ∈ gws) (hR : 1 ≤ fr ∧ 22 ≤ lo) {i0 : Nat} {p1 : Int32} {p2 : Int32} (h0 : i0 < 2) {r : Int32} (hr : X3_mayNotBeAgain i0 p1 p2 M = some r) (hcat : (st.map fun v => v.category).sum ≤ 8) (k : Ψ M (pc + 3) ls (.int r :: st)) : Ψ M pc ls (.int p2 :: .int p1 :: .ref (gad 5 i0) :: st) := r_callS C [.ref (gad 5 i0), .int p1, .int p2] st d (k_X3_mayNotBeAgain h0 hr) hl q671 q118 q672 hd_X3_mayNotBeAgain hR rfl hcat k
theorem hd_X3_readSign : yX3_readSign.cls ≠ "java/lang/invoke/MethodHandle" ∧ yX3_readSign.cls ≠ "java/lang/invoke/VarHandle" ∧ (parseMethodDescriptor yX3_readSign.desc).map (fun d => d.parameters.length) = some 1 := by decide +kernel
noncomputable def X3_readSign (p1 : Int32) (M : gM) : Option (Int32 × gM) := (X3_skipBlanks M).bind (fun M_2 => (if (M_2.1 1 0 1) ≤ (M_2.1 3 0 2) then some (0, M_2) else gG (gin (M_2.1 3 0 2) 480) ((if (M_2.1 2 0 (Int32.toNatClampNeg (M_2.1 3 0 2))) = p1 then gLet (wI M_2 3 0 2 ((M_2.1 3 0 2) + 1)) (fun M_6 => some (1, M_6)) else some (0, M_2)))))
theorem k_X3_readSign {G : gG5} {nf : Nat} {M : gM} {p1 : Int32} {r : Int32} {M1 : gM} (hr : X3_readSign p1 M = some (r, M1)) : gMet G (gXn nf) yX3_readSign cX3_readSign 2 (some .boolean) 1 20 M [.ref (gad 3 0), .int p1] (some (.int r)) M1 := by
  refine gMet_of pl_X3 rfl (Nat.le_of_ble_eq_true rfl) (fun Ψ C CR => ?_)
  show Ψ M 0 [(0, .ref (gad 3 0)), (1, .int p1)] []
  refine r_aload_n (pc := 0) C dX3_readSign_0 rfl 0 rfl ?_
  obtain ⟨M_2, hc_1, hr⟩ := gBind_some hr
  refine c_X3_skipBlanks (pc := 1) C dX3_readSign_1 q612 ⟨Nat.le_of_ble_eq_true rfl, Nat.le_of_ble_eq_true rfl⟩ hc_1 (Nat.le_of_ble_eq_true rfl) ?_
  refine r_aload_n (pc := 4) C dX3_readSign_4 rfl 0 rfl ?_
  refine g3_2 (pc := 5) C dX3_readSign_5 q173 (e3 nf) ?_
  refine r_aload_n (pc := 8) C dX3_readSign_8 rfl 0 rfl ?_
  refine g3_0 (pc := 9) C dX3_readSign_9 q171 (e3 nf) ?_
  refine g1_1 (pc := 12) C dX3_readSign_12 q158 (e1 nf) ?_
  refine r_icmp_ge (pc := 15) (tgt := 34) C dX3_readSign_15 rfl (fun c_3 => ?_) (fun c_3 => ?_)
  · replace hr := (if_pos c_3).symm.trans hr
    refine r_iconst (pc := 34) C dX3_readSign_34 ki0 ?_
    exact r_zret (pc := 35) CR dX3_readSign_35 rfl (congrArg (fun z => some (Value.int z)) (Prod.mk.inj (gSome hr)).1) (Prod.mk.inj (gSome hr)).2
  · replace hr := (if_neg c_3).symm.trans hr
    refine r_aload_n (pc := 18) C dX3_readSign_18 rfl 0 rfl ?_
    refine g3_0 (pc := 19) C dX3_readSign_19 q171 (e3 nf) ?_
    refine g1_0 (pc := 22) C dX3_readSign_22 q155 (e1 nf) ?_
    refine r_aload_n (pc := 25) C dX3_readSign_25 rfl 0 rfl ?_
    refine g3_2 (pc := 26) C dX3_readSign_26 q173 (e3 nf) ?_
    obtain ⟨g_4, hr⟩ := gG_some hr
    refine r_caldN (pc := 29) C dX3_readSign_29 rfl (e2 nf) g_4 rfl ?_
    refine r_iload_n (pc := 30) C dX3_readSign_30 rfl 1 rfl ?_
    refine r_icmp_eq (pc := 31) (tgt := 36) C dX3_readSign_31 rfl (fun c_5 => ?_) (fun c_5 => ?_)
    · replace hr := (if_pos c_5).symm.trans hr
      refine r_aload_n (pc := 36) C dX3_readSign_36 rfl 0 rfl ?_
      refine r_dup (pc := 37) C dX3_readSign_37 rfl ?_
      refine g3_2 (pc := 38) C dX3_readSign_38 q173 (e3 nf) ?_
      refine r_iconst (pc := 41) C dX3_readSign_41 ki1 ?_
      refine r_iadd (pc := 42) C dX3_readSign_42 ?_
      obtain ⟨M_6, eM_6, hr⟩ := gLet_some hr
      refine p3_2 (pc := 43) C dX3_readSign_43 q173 (e3 nf) eM_6 ?_
      refine r_iconst (pc := 46) C dX3_readSign_46 ki1 ?_
      exact r_zret (pc := 47) CR dX3_readSign_47 rfl (congrArg (fun z => some (Value.int z)) (Prod.mk.inj (gSome hr)).1) (Prod.mk.inj (gSome hr)).2
    · replace hr := (if_neg c_5).symm.trans hr
      refine r_iconst (pc := 34) C dX3_readSign_34 ki0 ?_
      exact r_zret (pc := 35) CR dX3_readSign_35 rfl (congrArg (fun z => some (Value.int z)) (Prod.mk.inj (gSome hr)).1) (Prod.mk.inj (gSome hr)).2
theorem c_X3_readSign {Ψ : gM → Nat → List (Nat × Value) → List Value → Prop} {G : gG5} {nf : Nat} {cc : ByteArray} {own : String} {nL : Nat} {ret : Option FieldType} {fr lo : Nat} {v0 : Option Value} {M0 M : gM} {pc index : Nat} {ls : List (Nat × Value)} {st : List Value} (C : gC Ψ G (gXn nf) cc own nL ret fr lo v0 M0) (d : decode cc pc = .ok (.invokevirtual index, 3)) (hl : Cond.methodLink own index yX3_readSign ∈ gws) (hR : 2 ≤ fr ∧ 41 ≤ lo) {p1 : Int32} {r : Int32} {M1 : gM} (hr : X3_readSign p1 M = some (r, M1)) (hcat : (st.map fun v => v.category).sum ≤ 8) (k : Ψ M1 (pc + 3) ls (.int r :: st)) : Ψ M pc ls (.int p1 :: .ref (gad 3 0) :: st) := r_callV C [.int p1] st d (k_X3_readSign hr) hl q683 q4 q118 q684 hd_X3_readSign hR rfl (by decide) (e3 nf) rfl hcat k
theorem hd_X3_readNumber : yX3_readNumber.cls ≠ "java/lang/invoke/MethodHandle" ∧ yX3_readNumber.cls ≠ "java/lang/invoke/VarHandle" ∧ (parseMethodDescriptor yX3_readNumber.desc).map (fun d => d.parameters.length) = some 3 := by decide +kernel
noncomputable def X3_readNumber_L66 (x1 : Int32) (x2 : Int32) (x3 : Int32) (x4 : Int32) (x5 : Int32) (x6 : Int32) (M : gM) : Option ((Int32 × gM) ⊕ (Int32 × gM)) := (if (M.1 1 0 1) ≤ (M.1 3 0 2) then some (.inr (x6, M)) else gG (gin (M.1 3 0 2) 480) ((if (M.1 2 0 (Int32.toNatClampNeg (M.1 3 0 2))) < 48 then some (.inr (x6, M)) else gG (gin (M.1 3 0 2) 480) ((if 57 < (M.1 2 0 (Int32.toNatClampNeg (M.1 3 0 2))) then some (.inr (x6, M)) else gG (gin (M.1 3 0 2) 480) (gLet ((gmin ((x6 * 10) + ((M.1 2 0 (Int32.toNatClampNeg (M.1 3 0 2))) - 48)) 100000)) (fun x6_11 => gLet (wI M 3 0 2 ((M.1 3 0 2) + 1)) (fun M_12 => some (.inl (x6_11, M_12))))))))))
theorem t_X3_readNumber_L66 {Ψ : gM → Nat → List (Nat × Value) → List Value → Prop} {G : gG5} {nf : Nat} {M : gM} {v0 : Option Value} {M0 : gM} {x1 : Int32} {x2 : Int32} {x3 : Int32} {x4 : Int32} {x5 : Int32} {x6 : Int32} {w : ((Int32 × gM) ⊕ (Int32 × gM))} (C : gC Ψ G (gXn nf) cX3_readNumber RX3 7 (some .boolean) 1 21 v0 M0) (hr : X3_readNumber_L66 x1 x2 x3 x4 x5 x6 M = some w) (hn : ∀ s, w = .inl s → Ψ s.2 66 [(0, .ref (gad 3 0)), (1, .int x1), (2, .int x2), (3, .int x3), (4, .int x4), (5, .int x5), (6, .int (s.1))] []) (hx : ∀ e, w = .inr e → (fun e => Ψ e.2 155 [(0, .ref (gad 3 0)), (1, .int x1), (2, .int x2), (3, .int x3), (4, .int x4), (5, .int x5), (6, .int (e.1))] []) e) : Ψ M 66 [(0, .ref (gad 3 0)), (1, .int x1), (2, .int x2), (3, .int x3), (4, .int x4), (5, .int x5), (6, .int x6)] [] := by
  refine r_aload_n (pc := 66) C dX3_readNumber_66 rfl 0 rfl ?_
  refine g3_2 (pc := 67) C dX3_readNumber_67 q173 (e3 nf) ?_
  refine r_aload_n (pc := 70) C dX3_readNumber_70 rfl 0 rfl ?_
  refine g3_0 (pc := 71) C dX3_readNumber_71 q171 (e3 nf) ?_
  refine g1_1 (pc := 74) C dX3_readNumber_74 q158 (e1 nf) ?_
  refine r_icmp_ge (pc := 77) (tgt := 155) C dX3_readNumber_77 rfl (fun c_5 => ?_) (fun c_5 => ?_)
  · replace hr := (if_pos c_5).symm.trans hr
    exact hx (x6, M) (gSome hr)
  · replace hr := (if_neg c_5).symm.trans hr
    refine r_aload_n (pc := 80) C dX3_readNumber_80 rfl 0 rfl ?_
    refine g3_0 (pc := 81) C dX3_readNumber_81 q171 (e3 nf) ?_
    refine g1_0 (pc := 84) C dX3_readNumber_84 q155 (e1 nf) ?_
    refine r_aload_n (pc := 87) C dX3_readNumber_87 rfl 0 rfl ?_
    refine g3_2 (pc := 88) C dX3_readNumber_88 q173 (e3 nf) ?_
    obtain ⟨g_6, hr⟩ := gG_some hr
    refine r_caldN (pc := 91) C dX3_readNumber_91 rfl (e2 nf) g_6 rfl ?_
    refine r_bipush (pc := 92) C dX3_readNumber_92 kb48 ?_
    refine r_icmp_lt (pc := 94) (tgt := 155) C dX3_readNumber_94 rfl (fun c_7 => ?_) (fun c_7 => ?_)
    · replace hr := (if_pos c_7).symm.trans hr
      exact hx (x6, M) (gSome hr)
    · replace hr := (if_neg c_7).symm.trans hr
      refine r_aload_n (pc := 97) C dX3_readNumber_97 rfl 0 rfl ?_
      refine g3_0 (pc := 98) C dX3_readNumber_98 q171 (e3 nf) ?_
      refine g1_0 (pc := 101) C dX3_readNumber_101 q155 (e1 nf) ?_
      refine r_aload_n (pc := 104) C dX3_readNumber_104 rfl 0 rfl ?_
      refine g3_2 (pc := 105) C dX3_readNumber_105 q173 (e3 nf) ?_
      obtain ⟨g_8, hr⟩ := gG_some hr
      refine r_caldN (pc := 108) C dX3_readNumber_108 rfl (e2 nf) g_8 rfl ?_
      refine r_bipush (pc := 109) C dX3_readNumber_109 kb57 ?_
      refine r_icmp_gt (pc := 111) (tgt := 155) C dX3_readNumber_111 rfl (fun c_9 => ?_) (fun c_9 => ?_)
      · replace hr := (if_pos c_9).symm.trans hr
        exact hx (x6, M) (gSome hr)
      · replace hr := (if_neg c_9).symm.trans hr
        refine r_iload (pc := 114) C dX3_readNumber_114 6 rfl ?_
        refine r_bipush (pc := 116) C dX3_readNumber_116 kb10 ?_
        refine r_imul (pc := 118) C dX3_readNumber_118 ?_
        refine r_aload_n (pc := 119) C dX3_readNumber_119 rfl 0 rfl ?_
        refine g3_0 (pc := 120) C dX3_readNumber_120 q171 (e3 nf) ?_
        refine g1_0 (pc := 123) C dX3_readNumber_123 q155 (e1 nf) ?_
        refine r_aload_n (pc := 126) C dX3_readNumber_126 rfl 0 rfl ?_
        refine g3_2 (pc := 127) C dX3_readNumber_127 q173 (e3 nf) ?_
        obtain ⟨g_10, hr⟩ := gG_some hr
        refine r_caldN (pc := 130) C dX3_readNumber_130 rfl (e2 nf) g_10 rfl ?_
        refine r_bipush (pc := 131) C dX3_readNumber_131 kb48 ?_
        refine r_isub (pc := 133) C dX3_readNumber_133 ?_
        refine r_iadd (pc := 134) C dX3_readNumber_134 ?_
        refine r_ldc (pc := 135) C dX3_readNumber_135 q689 ?_
        refine r_min (pc := 137) C dX3_readNumber_137 q690 (by decide) (Nat.le_of_ble_eq_true rfl) ?_
        obtain ⟨x6_11, ex6_11, hr⟩ := gLet_some hr
        refine r_istore (pc := 140) C dX3_readNumber_140 (by decide) ex6_11 (ls' := [(6, .int x6_11), (0, .ref (gad 3 0)), (1, .int x1), (2, .int x2), (3, .int x3), (4, .int x4), (5, .int x5)]) rfl ?_
        refine r_aload_n (pc := 142) C dX3_readNumber_142 rfl 1 rfl ?_
        refine r_dup (pc := 143) C dX3_readNumber_143 rfl ?_
        refine g3_2 (pc := 144) C dX3_readNumber_144 q173 (e3 nf) ?_
        refine r_iconst (pc := 147) C dX3_readNumber_147 ki1 ?_
        refine r_iadd (pc := 148) C dX3_readNumber_148 ?_
        obtain ⟨M_12, eM_12, hr⟩ := gLet_some hr
        refine p3_2 (pc := 149) C dX3_readNumber_149 q173 (e3 nf) eM_12 ?_
        refine r_goto (pc := 152) (tgt := 66) C dX3_readNumber_152 rfl ?_
        refine r_sub C [1, 2, 3, 4, 5, 6, 0] (ls' := [(0, .ref (gad 3 0)), (1, .int x1), (2, .int x2), (3, .int x3), (4, .int x4), (5, .int x5), (6, .int x6_11)]) rfl ?_
        exact hn (x6_11, M_12) (gSome hr)
noncomputable def X3_readNumber_J173 (x1 : Int32) (x2 : Int32) (x3 : Int32) (x5 : Int32) (xs0 : Int32) (xs1 : Int32) (M : gM) : Option (Int32 × gM) := gG (gin xs1 11) (gLet (wI M 4 0 (Int32.toNatClampNeg xs1) xs0) (fun M_17 => (if (M_17.1 3 0 2) ≤ x5 then some (0, M_17) else gG (gin x1 11) ((if (M_17.1 4 0 (Int32.toNatClampNeg x1)) < x2 then some (0, M_17) else gG (gin x1 11) ((if x3 < (M_17.1 4 0 (Int32.toNatClampNeg x1)) then some (0, M_17) else some (1, M_17))))))))
theorem t_X3_readNumber_J173 {Ψ : gM → Nat → List (Nat × Value) → List Value → Prop} {G : gG5} {nf : Nat} {M : gM} {x1 : Int32} {x2 : Int32} {x3 : Int32} {x5 : Int32} {xs0 : Int32} {xs1 : Int32} {r : Int32} {M1 : gM} (C : gC Ψ G (gXn nf) cX3_readNumber RX3 7 (some .boolean) 1 21 (some (.int r)) M1) (CR : gR Ψ cX3_readNumber (some .boolean) (some (.int r)) M1) (hr : X3_readNumber_J173 x1 x2 x3 x5 xs0 xs1 M = some (r, M1)) : Ψ M 173 [(0, .ref (gad 3 0)), (1, .int x1), (2, .int x2), (3, .int x3), (5, .int x5)] [.int xs0, .int xs1, .ref (gad 4 0)] := by
  obtain ⟨g_16, hr⟩ := gG_some hr
  obtain ⟨M_17, eM_17, hr⟩ := gLet_some hr
  refine r_iastN (pc := 173) C dX3_readNumber_173 rfl (e4 nf) g_16 rfl eM_17 ?_
  refine r_aload_n (pc := 174) C dX3_readNumber_174 rfl 0 rfl ?_
  refine g3_2 (pc := 175) C dX3_readNumber_175 q173 (e3 nf) ?_
  refine r_iload (pc := 178) C dX3_readNumber_178 4 rfl ?_
  refine r_icmp_le (pc := 180) (tgt := 207) C dX3_readNumber_180 rfl (fun c_18 => ?_) (fun c_18 => ?_)
  · replace hr := (if_pos c_18).symm.trans hr
    refine r_iconst (pc := 207) C dX3_readNumber_207 ki0 ?_
    exact r_zret (pc := 208) CR dX3_readNumber_208 rfl (congrArg (fun z => some (Value.int z)) (Prod.mk.inj (gSome hr)).1) (Prod.mk.inj (gSome hr)).2
  · replace hr := (if_neg c_18).symm.trans hr
    refine r_aload_n (pc := 183) C dX3_readNumber_183 rfl 0 rfl ?_
    refine g3_1 (pc := 184) C dX3_readNumber_184 q172 (e3 nf) ?_
    refine r_iload_n (pc := 187) C dX3_readNumber_187 rfl 1 rfl ?_
    obtain ⟨g_19, hr⟩ := gG_some hr
    refine r_ialdN (pc := 188) C dX3_readNumber_188 rfl (e4 nf) g_19 rfl ?_
    refine r_iload_n (pc := 189) C dX3_readNumber_189 rfl 2 rfl ?_
    refine r_icmp_lt (pc := 190) (tgt := 207) C dX3_readNumber_190 rfl (fun c_20 => ?_) (fun c_20 => ?_)
    · replace hr := (if_pos c_20).symm.trans hr
      refine r_iconst (pc := 207) C dX3_readNumber_207 ki0 ?_
      exact r_zret (pc := 208) CR dX3_readNumber_208 rfl (congrArg (fun z => some (Value.int z)) (Prod.mk.inj (gSome hr)).1) (Prod.mk.inj (gSome hr)).2
    · replace hr := (if_neg c_20).symm.trans hr
      refine r_aload_n (pc := 193) C dX3_readNumber_193 rfl 0 rfl ?_
      refine g3_1 (pc := 194) C dX3_readNumber_194 q172 (e3 nf) ?_
      refine r_iload_n (pc := 197) C dX3_readNumber_197 rfl 1 rfl ?_
      obtain ⟨g_21, hr⟩ := gG_some hr
      refine r_ialdN (pc := 198) C dX3_readNumber_198 rfl (e4 nf) g_21 rfl ?_
      refine r_iload_n (pc := 199) C dX3_readNumber_199 rfl 3 rfl ?_
      refine r_icmp_gt (pc := 200) (tgt := 207) C dX3_readNumber_200 rfl (fun c_22 => ?_) (fun c_22 => ?_)
      · replace hr := (if_pos c_22).symm.trans hr
        refine r_iconst (pc := 207) C dX3_readNumber_207 ki0 ?_
        exact r_zret (pc := 208) CR dX3_readNumber_208 rfl (congrArg (fun z => some (Value.int z)) (Prod.mk.inj (gSome hr)).1) (Prod.mk.inj (gSome hr)).2
      · replace hr := (if_neg c_22).symm.trans hr
        refine r_iconst (pc := 203) C dX3_readNumber_203 ki1 ?_
        refine r_goto (pc := 204) (tgt := 208) C dX3_readNumber_204 rfl ?_
        exact r_zret (pc := 208) CR dX3_readNumber_208 rfl (congrArg (fun z => some (Value.int z)) (Prod.mk.inj (gSome hr)).1) (Prod.mk.inj (gSome hr)).2
noncomputable def X3_readNumber_J155 (x1 : Int32) (x2 : Int32) (x3 : Int32) (x4 : Int32) (x5 : Int32) (x6 : Int32) (M : gM) : Option (Int32 × gM) := (if x4 = 0 then X3_readNumber_J173 x1 x2 x3 x5 x6 x1 M else X3_readNumber_J173 x1 x2 x3 x5 (-x6) x1 M)
theorem t_X3_readNumber_J155 {Ψ : gM → Nat → List (Nat × Value) → List Value → Prop} {G : gG5} {nf : Nat} {M : gM} {x1 : Int32} {x2 : Int32} {x3 : Int32} {x4 : Int32} {x5 : Int32} {x6 : Int32} {r : Int32} {M1 : gM} (C : gC Ψ G (gXn nf) cX3_readNumber RX3 7 (some .boolean) 1 21 (some (.int r)) M1) (CR : gR Ψ cX3_readNumber (some .boolean) (some (.int r)) M1) (hr : X3_readNumber_J155 x1 x2 x3 x4 x5 x6 M = some (r, M1)) : Ψ M 155 [(0, .ref (gad 3 0)), (1, .int x1), (2, .int x2), (3, .int x3), (4, .int x4), (5, .int x5), (6, .int x6)] [] := by
  refine r_aload_n (pc := 155) C dX3_readNumber_155 rfl 0 rfl ?_
  refine g3_1 (pc := 156) C dX3_readNumber_156 q172 (e3 nf) ?_
  refine r_iload_n (pc := 159) C dX3_readNumber_159 rfl 1 rfl ?_
  refine r_iload (pc := 160) C dX3_readNumber_160 4 rfl ?_
  refine r_if_eq (pc := 162) (tgt := 171) C dX3_readNumber_162 rfl (fun c_15 => ?_) (fun c_15 => ?_)
  · replace hr := (if_pos c_15).symm.trans hr
    refine r_iload (pc := 171) C dX3_readNumber_171 6 rfl ?_
    refine r_sub C [0, 1, 2, 3, 5] (ls' := [(0, .ref (gad 3 0)), (1, .int x1), (2, .int x2), (3, .int x3), (5, .int x5)]) rfl ?_
    exact t_X3_readNumber_J173 C CR  hr
  · replace hr := (if_neg c_15).symm.trans hr
    refine r_iload (pc := 165) C dX3_readNumber_165 6 rfl ?_
    refine r_ineg (pc := 167) C dX3_readNumber_167 ?_
    refine r_goto (pc := 168) (tgt := 173) C dX3_readNumber_168 rfl ?_
    refine r_sub C [0, 1, 2, 3, 5] (ls' := [(0, .ref (gad 3 0)), (1, .int x1), (2, .int x2), (3, .int x3), (5, .int x5)]) rfl ?_
    exact t_X3_readNumber_J173 C CR  hr
noncomputable def X3_readNumber_J39 (x1 : Int32) (x2 : Int32) (x3 : Int32) (M : gM) : Option (Int32 × gM) := gLet ((M.1 3 0 2)) (fun x5_4 => (gIter (fun s => X3_readNumber_L66 x1 x2 x3 0 x5_4 s.1 s.2) FU (0, M)).bind (gU2 (fun x6_13 M_14 => X3_readNumber_J155 x1 x2 x3 0 x5_4 x6_13 M_14)))
theorem t_X3_readNumber_J39 {Ψ : gM → Nat → List (Nat × Value) → List Value → Prop} {G : gG5} {nf : Nat} {M : gM} {x1 : Int32} {x2 : Int32} {x3 : Int32} {r : Int32} {M1 : gM} (C : gC Ψ G (gXn nf) cX3_readNumber RX3 7 (some .boolean) 1 21 (some (.int r)) M1) (CR : gR Ψ cX3_readNumber (some .boolean) (some (.int r)) M1) (hr : X3_readNumber_J39 x1 x2 x3 M = some (r, M1)) : Ψ M 39 [(0, .ref (gad 3 0)), (1, .int x1), (2, .int x2), (3, .int x3)] [] := by
  refine r_iconst (pc := 39) C dX3_readNumber_39 ki0 ?_
  refine r_istore (pc := 40) C dX3_readNumber_40 (by decide) rfl (ls' := [(4, .int 0), (0, .ref (gad 3 0)), (1, .int x1), (2, .int x2), (3, .int x3)]) rfl ?_
  refine r_iload (pc := 42) C dX3_readNumber_42 0 rfl ?_
  refine r_if_eq (pc := 44) (tgt := 57) C dX3_readNumber_44 rfl (fun c => ?_) (fun c => absurd c (by decide))
  refine r_aload_n (pc := 57) C dX3_readNumber_57 rfl 1 rfl ?_
  refine g3_2 (pc := 58) C dX3_readNumber_58 q173 (e3 nf) ?_
  obtain ⟨x5_4, ex5_4, hr⟩ := gLet_some hr
  refine r_istore (pc := 61) C dX3_readNumber_61 (by decide) ex5_4 (ls' := [(5, .int x5_4), (4, .int 0), (0, .ref (gad 3 0)), (1, .int x1), (2, .int x2), (3, .int x3)]) rfl ?_
  refine r_iconst (pc := 63) C dX3_readNumber_63 ki0 ?_
  refine r_istore (pc := 64) C dX3_readNumber_64 (by decide) rfl (ls' := [(6, .int 0), (5, .int x5_4), (4, .int 0), (0, .ref (gad 3 0)), (1, .int x1), (2, .int x2), (3, .int x3)]) rfl ?_
  refine r_sub C [3, 4, 5, 6, 2, 1, 0] (ls' := [(0, .ref (gad 3 0)), (1, .int x1), (2, .int x2), (3, .int x3), (4, .int 0), (5, .int x5_4), (6, .int 0)]) rfl ?_
  obtain ⟨ev, hit, hr⟩ := gBind_some hr
  refine gIter_V (step := fun s => X3_readNumber_L66 x1 x2 x3 0 x5_4 s.1 s.2) (P := fun s => Ψ s.2 66 [(0, .ref (gad 3 0)), (1, .int x1), (2, .int x2), (3, .int x3), (4, .int 0), (5, .int x5_4), (6, .int (s.1))] []) (K := (fun e => Ψ e.2 155 [(0, .ref (gad 3 0)), (1, .int x1), (2, .int x2), (3, .int x3), (4, .int 0), (5, .int x5_4), (6, .int (e.1))] [])) (fun s w hs hn hx => t_X3_readNumber_L66 C  hs hn hx) FU (0, M) ev hit ?_
  obtain ⟨x6_13, M_14⟩ := ev
  replace hr := gU2_some hr
  show Ψ M_14 155 [(0, .ref (gad 3 0)), (1, .int x1), (2, .int x2), (3, .int x3), (4, .int 0), (5, .int x5_4), (6, .int x6_13)] []
  exact t_X3_readNumber_J155 C CR  hr
noncomputable def X3_readNumber (p1 : Int32) (p2 : Int32) (p3 : Int32) (M : gM) : Option (Int32 × gM) := (X3_skipBlanks M).bind (fun M_2 => (if (M_2.1 1 0 1) ≤ (M_2.1 3 0 2) then X3_readNumber_J39 p1 p2 p3 M_2 else gG (gin (M_2.1 3 0 2) 480) ((if (M_2.1 2 0 (Int32.toNatClampNeg (M_2.1 3 0 2))) = 45 then gLet (wI M_2 3 0 2 ((M_2.1 3 0 2) + 1)) (fun M_25 => gLet ((M_25.1 3 0 2)) (fun x5_26 => (gIter (fun s => X3_readNumber_L66 p1 p2 p3 1 x5_26 s.1 s.2) FU (0, M_25)).bind (gU2 (fun x6_27 M_28 => X3_readNumber_J155 p1 p2 p3 1 x5_26 x6_27 M_28)))) else X3_readNumber_J39 p1 p2 p3 M_2))))
theorem k_X3_readNumber {G : gG5} {nf : Nat} {M : gM} {p1 : Int32} {p2 : Int32} {p3 : Int32} {r : Int32} {M1 : gM} (hr : X3_readNumber p1 p2 p3 M = some (r, M1)) : gMet G (gXn nf) yX3_readNumber cX3_readNumber 7 (some .boolean) 1 21 M [.ref (gad 3 0), .int p1, .int p2, .int p3] (some (.int r)) M1 := by
  refine gMet_of pl_X3 rfl (Nat.le_of_ble_eq_true rfl) (fun Ψ C CR => ?_)
  show Ψ M 0 [(0, .ref (gad 3 0)), (1, .int p1), (2, .int p2), (3, .int p3)] []
  refine r_aload_n (pc := 0) C dX3_readNumber_0 rfl 0 rfl ?_
  obtain ⟨M_2, hc_1, hr⟩ := gBind_some hr
  refine c_X3_skipBlanks (pc := 1) C dX3_readNumber_1 q612 ⟨Nat.le_of_ble_eq_true rfl, Nat.le_of_ble_eq_true rfl⟩ hc_1 (Nat.le_of_ble_eq_true rfl) ?_
  refine r_aload_n (pc := 4) C dX3_readNumber_4 rfl 0 rfl ?_
  refine g3_2 (pc := 5) C dX3_readNumber_5 q173 (e3 nf) ?_
  refine r_aload_n (pc := 8) C dX3_readNumber_8 rfl 0 rfl ?_
  refine g3_0 (pc := 9) C dX3_readNumber_9 q171 (e3 nf) ?_
  refine g1_1 (pc := 12) C dX3_readNumber_12 q158 (e1 nf) ?_
  refine r_icmp_ge (pc := 15) (tgt := 39) C dX3_readNumber_15 rfl (fun c_3 => ?_) (fun c_3 => ?_)
  · replace hr := (if_pos c_3).symm.trans hr
    exact t_X3_readNumber_J39 C CR  hr
  · replace hr := (if_neg c_3).symm.trans hr
    refine r_aload_n (pc := 18) C dX3_readNumber_18 rfl 0 rfl ?_
    refine g3_0 (pc := 19) C dX3_readNumber_19 q171 (e3 nf) ?_
    refine g1_0 (pc := 22) C dX3_readNumber_22 q155 (e1 nf) ?_
    refine r_aload_n (pc := 25) C dX3_readNumber_25 rfl 0 rfl ?_
    refine g3_2 (pc := 26) C dX3_readNumber_26 q173 (e3 nf) ?_
    obtain ⟨g_23, hr⟩ := gG_some hr
    refine r_caldN (pc := 29) C dX3_readNumber_29 rfl (e2 nf) g_23 rfl ?_
    refine r_bipush (pc := 30) C dX3_readNumber_30 kb45 ?_
    refine r_icmp_ne (pc := 32) (tgt := 39) C dX3_readNumber_32 rfl (fun c_24 => ?_) (fun c_24 => ?_)
    · replace hr := (if_neg c_24).symm.trans hr
      exact t_X3_readNumber_J39 C CR  hr
    · replace hr := (if_pos c_24).symm.trans hr
      refine r_iconst (pc := 35) C dX3_readNumber_35 ki1 ?_
      refine r_goto (pc := 36) (tgt := 40) C dX3_readNumber_36 rfl ?_
      refine r_istore (pc := 40) C dX3_readNumber_40 (by decide) rfl (ls' := [(4, .int 1), (0, .ref (gad 3 0)), (1, .int p1), (2, .int p2), (3, .int p3)]) rfl ?_
      refine r_iload (pc := 42) C dX3_readNumber_42 0 rfl ?_
      refine r_if_eq (pc := 44) (tgt := 57) C dX3_readNumber_44 rfl (fun c => absurd c (by decide)) (fun c => ?_)
      refine r_aload_n (pc := 47) C dX3_readNumber_47 rfl 1 rfl ?_
      refine r_dup (pc := 48) C dX3_readNumber_48 rfl ?_
      refine g3_2 (pc := 49) C dX3_readNumber_49 q173 (e3 nf) ?_
      refine r_iconst (pc := 52) C dX3_readNumber_52 ki1 ?_
      refine r_iadd (pc := 53) C dX3_readNumber_53 ?_
      obtain ⟨M_25, eM_25, hr⟩ := gLet_some hr
      refine p3_2 (pc := 54) C dX3_readNumber_54 q173 (e3 nf) eM_25 ?_
      refine r_aload_n (pc := 57) C dX3_readNumber_57 rfl 1 rfl ?_
      refine g3_2 (pc := 58) C dX3_readNumber_58 q173 (e3 nf) ?_
      obtain ⟨x5_26, ex5_26, hr⟩ := gLet_some hr
      refine r_istore (pc := 61) C dX3_readNumber_61 (by decide) ex5_26 (ls' := [(5, .int x5_26), (4, .int 1), (0, .ref (gad 3 0)), (1, .int p1), (2, .int p2), (3, .int p3)]) rfl ?_
      refine r_iconst (pc := 63) C dX3_readNumber_63 ki0 ?_
      refine r_istore (pc := 64) C dX3_readNumber_64 (by decide) rfl (ls' := [(6, .int 0), (5, .int x5_26), (4, .int 1), (0, .ref (gad 3 0)), (1, .int p1), (2, .int p2), (3, .int p3)]) rfl ?_
      refine r_sub C [3, 4, 5, 6, 2, 1, 0] (ls' := [(0, .ref (gad 3 0)), (1, .int p1), (2, .int p2), (3, .int p3), (4, .int 1), (5, .int x5_26), (6, .int 0)]) rfl ?_
      obtain ⟨ev, hit, hr⟩ := gBind_some hr
      refine gIter_V (step := fun s => X3_readNumber_L66 p1 p2 p3 1 x5_26 s.1 s.2) (P := fun s => Ψ s.2 66 [(0, .ref (gad 3 0)), (1, .int p1), (2, .int p2), (3, .int p3), (4, .int 1), (5, .int x5_26), (6, .int (s.1))] []) (K := (fun e => Ψ e.2 155 [(0, .ref (gad 3 0)), (1, .int p1), (2, .int p2), (3, .int p3), (4, .int 1), (5, .int x5_26), (6, .int (e.1))] [])) (fun s w hs hn hx => t_X3_readNumber_L66 C  hs hn hx) FU (0, M_25) ev hit ?_
      obtain ⟨x6_27, M_28⟩ := ev
      replace hr := gU2_some hr
      show Ψ M_28 155 [(0, .ref (gad 3 0)), (1, .int p1), (2, .int p2), (3, .int p3), (4, .int 1), (5, .int x5_26), (6, .int x6_27)] []
      exact t_X3_readNumber_J155 C CR  hr
theorem c_X3_readNumber {Ψ : gM → Nat → List (Nat × Value) → List Value → Prop} {G : gG5} {nf : Nat} {cc : ByteArray} {own : String} {nL : Nat} {ret : Option FieldType} {fr lo : Nat} {v0 : Option Value} {M0 M : gM} {pc index : Nat} {ls : List (Nat × Value)} {st : List Value} (C : gC Ψ G (gXn nf) cc own nL ret fr lo v0 M0) (d : decode cc pc = .ok (.invokevirtual index, 3)) (hl : Cond.methodLink own index yX3_readNumber ∈ gws) (hR : 2 ≤ fr ∧ 47 ≤ lo) {p1 : Int32} {p2 : Int32} {p3 : Int32} {r : Int32} {M1 : gM} (hr : X3_readNumber p1 p2 p3 M = some (r, M1)) (hcat : (st.map fun v => v.category).sum ≤ 8) (k : Ψ M1 (pc + 3) ls (.int r :: st)) : Ψ M pc ls (.int p3 :: .int p2 :: .int p1 :: .ref (gad 3 0) :: st) := r_callV C [.int p1, .int p2, .int p3] st d (k_X3_readNumber hr) hl q687 q5 q118 q688 hd_X3_readNumber hR rfl (by decide) (e3 nf) rfl hcat k
theorem hd_X3_readNumbers : yX3_readNumbers.cls ≠ "java/lang/invoke/MethodHandle" ∧ yX3_readNumbers.cls ≠ "java/lang/invoke/VarHandle" ∧ (parseMethodDescriptor yX3_readNumbers.desc).map (fun d => d.parameters.length) = some 3 := by decide +kernel
noncomputable def X3_readNumbers_J32 (i1 : Nat) (x2 : Int32) (x3 : Int32) (x4 : Int32) (M : gM) : Option ((Int32 × gM) ⊕ (gM ⊕ (gM ⊕ gM))) := gLet (((x2 + x4) * 2)) (fun x5_4 => (if (Int32.ofNat (gSt i1).length) ≤ (x5_4 + 1) then some (.inr (.inr (.inl M))) else gG (gin x5_4 (gSt i1).length) (gG (gin (x5_4 + 1) (gSt i1).length) ((X3_readNumber x4 (gSv i1 (Int32.toNatClampNeg x5_4)) (gSv i1 (Int32.toNatClampNeg (x5_4 + 1))) M).bind (gU2 (fun r_9 M_10 => (if r_9 = 0 then some (.inr (.inr (.inl M_10))) else gLet (x4 + 1) (fun x4_12 => some (.inl (x4_12, M_10))))))))))
theorem t_X3_readNumbers_J32 {Ψ : gM → Nat → List (Nat × Value) → List Value → Prop} {G : gG5} {nf : Nat} {M : gM} {v0 : Option Value} {M0 : gM} {i1 : Nat} {x2 : Int32} {x3 : Int32} {x4 : Int32} {w : ((Int32 × gM) ⊕ (gM ⊕ (gM ⊕ gM)))} (C : gC Ψ G (gXn nf) cX3_readNumbers RX3 6 (some .boolean) 2 47 v0 M0) (h1 : i1 < 10) (hr : X3_readNumbers_J32 i1 x2 x3 x4 M = some w) (hn : ∀ s, w = .inl s → Ψ s.2 3 [(0, .ref (gad 3 0)), (1, .ref (gad 63 i1)), (2, .int x2), (3, .int x3), (4, .int (s.1))] []) (hx : ∀ e, w = .inr e → (gSP (fun e => Ψ e 30 [] []) (gSP (fun e => Ψ e 68 [] []) (fun e => Ψ e 76 [] []))) e) : Ψ M 32 [(0, .ref (gad 3 0)), (1, .ref (gad 63 i1)), (2, .int x2), (3, .int x3), (4, .int x4)] [] := by
  refine r_iload_n (pc := 32) C dX3_readNumbers_32 rfl 2 rfl ?_
  refine r_iload (pc := 33) C dX3_readNumbers_33 4 rfl ?_
  refine r_iadd (pc := 35) C dX3_readNumbers_35 ?_
  refine r_iconst (pc := 36) C dX3_readNumbers_36 ki2 ?_
  refine r_imul (pc := 37) C dX3_readNumbers_37 ?_
  obtain ⟨x5_4, ex5_4, hr⟩ := gLet_some hr
  refine r_istore (pc := 38) C dX3_readNumbers_38 (by decide) ex5_4 (ls' := [(5, .int x5_4), (0, .ref (gad 3 0)), (1, .ref (gad 63 i1)), (2, .int x2), (3, .int x3), (4, .int x4)]) rfl ?_
  refine r_iload (pc := 40) C dX3_readNumbers_40 0 rfl ?_
  refine r_iconst (pc := 42) C dX3_readNumbers_42 ki1 ?_
  refine r_iadd (pc := 43) C dX3_readNumbers_43 ?_
  refine r_aload_n (pc := 44) C dX3_readNumbers_44 rfl 2 rfl ?_
  refine r_salen (pc := 45) (n := (Int32.ofNat (gSt i1).length)) C dX3_readNumbers_45 h1 rfl ?_
  refine r_icmp_ge (pc := 46) (tgt := 68) C dX3_readNumbers_46 rfl (fun c_5 => ?_) (fun c_5 => ?_)
  · replace hr := (if_pos c_5).symm.trans hr
    refine r_sub C [] (ls' := []) rfl ?_
    exact hx (.inr (.inl M)) (gSome hr)
  · replace hr := (if_neg c_5).symm.trans hr
    refine r_aload_n (pc := 49) C dX3_readNumbers_49 rfl 1 rfl ?_
    refine r_iload (pc := 50) C dX3_readNumbers_50 5 rfl ?_
    refine r_aload_n (pc := 52) C dX3_readNumbers_52 rfl 2 rfl ?_
    refine r_iload (pc := 53) C dX3_readNumbers_53 0 rfl ?_
    obtain ⟨g_6, hr⟩ := gG_some hr
    refine r_saldN (pc := 55) C dX3_readNumbers_55 h1 g_6 rfl ?_
    refine r_aload_n (pc := 56) C dX3_readNumbers_56 rfl 2 rfl ?_
    refine r_iload (pc := 57) C dX3_readNumbers_57 0 rfl ?_
    refine r_iconst (pc := 59) C dX3_readNumbers_59 ki1 ?_
    refine r_iadd (pc := 60) C dX3_readNumbers_60 ?_
    obtain ⟨g_7, hr⟩ := gG_some hr
    refine r_saldN (pc := 61) C dX3_readNumbers_61 h1 g_7 rfl ?_
    obtain ⟨⟨r_9, M_10⟩, hc_8, hr⟩ := gBind_some hr
    replace hr := gU2_some hr
    refine c_X3_readNumber (pc := 62) C dX3_readNumbers_62 q685 ⟨Nat.le_of_ble_eq_true rfl, Nat.le_of_ble_eq_true rfl⟩ hc_8 (Nat.le_of_ble_eq_true rfl) ?_
    refine r_if_ne (pc := 65) (tgt := 70) C dX3_readNumbers_65 rfl (fun c_11 => ?_) (fun c_11 => ?_)
    · replace hr := (if_neg c_11).symm.trans hr
      obtain ⟨x4_12, ex4_12, hr⟩ := gLet_some hr
      refine r_iinc (pc := 70) C dX3_readNumbers_70 5 rfl rfl (by decide) ex4_12 (ls' := [(4, .int x4_12), (5, .int x5_4), (0, .ref (gad 3 0)), (1, .ref (gad 63 i1)), (2, .int x2), (3, .int x3)]) rfl ?_
      refine r_goto (pc := 73) (tgt := 3) C dX3_readNumbers_73 rfl ?_
      refine r_sub C [2, 3, 4, 5, 0] (ls' := [(0, .ref (gad 3 0)), (1, .ref (gad 63 i1)), (2, .int x2), (3, .int x3), (4, .int x4_12)]) rfl ?_
      exact hn (x4_12, M_10) (gSome hr)
    · replace hr := (if_pos c_11).symm.trans hr
      refine r_sub C [] (ls' := []) rfl ?_
      exact hx (.inr (.inl M_10)) (gSome hr)
noncomputable def X3_readNumbers_L3 (i1 : Nat) (x2 : Int32) (x3 : Int32) (x4 : Int32) (M : gM) : Option ((Int32 × gM) ⊕ (gM ⊕ (gM ⊕ gM))) := (if x3 ≤ x4 then some (.inr (.inr (.inr M))) else (if 11 ≤ x4 then some (.inr (.inr (.inr M))) else (if x4 ≤ 0 then X3_readNumbers_J32 i1 x2 x3 x4 M else (X3_readSign 44 M).bind (gU2 (fun r_14 M_15 => (if r_14 = 0 then some (.inr (.inl M_15)) else X3_readNumbers_J32 i1 x2 x3 x4 M_15))))))
theorem t_X3_readNumbers_L3 {Ψ : gM → Nat → List (Nat × Value) → List Value → Prop} {G : gG5} {nf : Nat} {M : gM} {v0 : Option Value} {M0 : gM} {i1 : Nat} {x2 : Int32} {x3 : Int32} {x4 : Int32} {w : ((Int32 × gM) ⊕ (gM ⊕ (gM ⊕ gM)))} (C : gC Ψ G (gXn nf) cX3_readNumbers RX3 6 (some .boolean) 2 47 v0 M0) (h1 : i1 < 10) (hr : X3_readNumbers_L3 i1 x2 x3 x4 M = some w) (hn : ∀ s, w = .inl s → Ψ s.2 3 [(0, .ref (gad 3 0)), (1, .ref (gad 63 i1)), (2, .int x2), (3, .int x3), (4, .int (s.1))] []) (hx : ∀ e, w = .inr e → (gSP (fun e => Ψ e 30 [] []) (gSP (fun e => Ψ e 68 [] []) (fun e => Ψ e 76 [] []))) e) : Ψ M 3 [(0, .ref (gad 3 0)), (1, .ref (gad 63 i1)), (2, .int x2), (3, .int x3), (4, .int x4)] [] := by
  refine r_iload (pc := 3) C dX3_readNumbers_3 4 rfl ?_
  refine r_iload_n (pc := 5) C dX3_readNumbers_5 rfl 3 rfl ?_
  refine r_icmp_ge (pc := 6) (tgt := 76) C dX3_readNumbers_6 rfl (fun c_1 => ?_) (fun c_1 => ?_)
  · replace hr := (if_pos c_1).symm.trans hr
    refine r_sub C [] (ls' := []) rfl ?_
    exact hx (.inr (.inr M)) (gSome hr)
  · replace hr := (if_neg c_1).symm.trans hr
    refine r_iload (pc := 9) C dX3_readNumbers_9 4 rfl ?_
    refine r_bipush (pc := 11) C dX3_readNumbers_11 kb11 ?_
    refine r_icmp_ge (pc := 13) (tgt := 76) C dX3_readNumbers_13 rfl (fun c_2 => ?_) (fun c_2 => ?_)
    · replace hr := (if_pos c_2).symm.trans hr
      refine r_sub C [] (ls' := []) rfl ?_
      exact hx (.inr (.inr M)) (gSome hr)
    · replace hr := (if_neg c_2).symm.trans hr
      refine r_iload (pc := 16) C dX3_readNumbers_16 4 rfl ?_
      refine r_if_le (pc := 18) (tgt := 32) C dX3_readNumbers_18 rfl (fun c_3 => ?_) (fun c_3 => ?_)
      · replace hr := (if_pos c_3).symm.trans hr
        exact t_X3_readNumbers_J32 C h1 hr hn hx
      · replace hr := (if_neg c_3).symm.trans hr
        refine r_aload_n (pc := 21) C dX3_readNumbers_21 rfl 0 rfl ?_
        refine r_bipush (pc := 22) C dX3_readNumbers_22 kb44 ?_
        obtain ⟨⟨r_14, M_15⟩, hc_13, hr⟩ := gBind_some hr
        replace hr := gU2_some hr
        refine c_X3_readSign (pc := 24) C dX3_readNumbers_24 q681 ⟨Nat.le_of_ble_eq_true rfl, Nat.le_of_ble_eq_true rfl⟩ hc_13 (Nat.le_of_ble_eq_true rfl) ?_
        refine r_if_ne (pc := 27) (tgt := 32) C dX3_readNumbers_27 rfl (fun c_16 => ?_) (fun c_16 => ?_)
        · replace hr := (if_neg c_16).symm.trans hr
          exact t_X3_readNumbers_J32 C h1 hr hn hx
        · replace hr := (if_pos c_16).symm.trans hr
          refine r_sub C [] (ls' := []) rfl ?_
          exact hx (.inl M_15) (gSome hr)
noncomputable def X3_readNumbers (i1 : Nat) (p2 : Int32) (p3 : Int32) (M : gM) : Option (Int32 × gM) := (gIter (fun s => X3_readNumbers_L3 i1 p2 p3 s.1 s.2) FU (0, M)).bind (gS2 (fun M_17 => some (0, M_17)) (gS2 (fun M_18 => some (0, M_18)) (fun M_19 => some (1, M_19))))
theorem k_X3_readNumbers {G : gG5} {nf : Nat} {M : gM} {i1 : Nat} {p2 : Int32} {p3 : Int32} (h1 : i1 < 10) {r : Int32} {M1 : gM} (hr : X3_readNumbers i1 p2 p3 M = some (r, M1)) : gMet G (gXn nf) yX3_readNumbers cX3_readNumbers 6 (some .boolean) 2 47 M [.ref (gad 3 0), .ref (gad 63 i1), .int p2, .int p3] (some (.int r)) M1 := by
  refine gMet_of pl_X3 rfl (Nat.le_of_ble_eq_true rfl) (fun Ψ C CR => ?_)
  show Ψ M 0 [(0, .ref (gad 3 0)), (1, .ref (gad 63 i1)), (2, .int p2), (3, .int p3)] []
  refine r_iconst (pc := 0) C dX3_readNumbers_0 ki0 ?_
  refine r_istore (pc := 1) C dX3_readNumbers_1 (by decide) rfl (ls' := [(4, .int 0), (0, .ref (gad 3 0)), (1, .ref (gad 63 i1)), (2, .int p2), (3, .int p3)]) rfl ?_
  refine r_sub C [1, 2, 3, 4, 0] (ls' := [(0, .ref (gad 3 0)), (1, .ref (gad 63 i1)), (2, .int p2), (3, .int p3), (4, .int 0)]) rfl ?_
  obtain ⟨ev, hit, hr⟩ := gBind_some hr
  refine gIter_V (step := fun s => X3_readNumbers_L3 i1 p2 p3 s.1 s.2) (P := fun s => Ψ s.2 3 [(0, .ref (gad 3 0)), (1, .ref (gad 63 i1)), (2, .int p2), (3, .int p3), (4, .int (s.1))] []) (K := (gSP (fun e => Ψ e 30 [] []) (gSP (fun e => Ψ e 68 [] []) (fun e => Ψ e 76 [] [])))) (fun s w hs hn hx => t_X3_readNumbers_L3 C h1 hs hn hx) FU (0, M) ev hit ?_
  rcases ev with M_17 | M_18 | M_19
  · replace hr := gS2_l hr
    show Ψ M_17 30 [] []
    refine r_iconst (pc := 30) C dX3_readNumbers_30 ki0 ?_
    exact r_zret (pc := 31) CR dX3_readNumbers_31 rfl (congrArg (fun z => some (Value.int z)) (Prod.mk.inj (gSome hr)).1) (Prod.mk.inj (gSome hr)).2
  · replace hr := gS2_r hr
    replace hr := gS2_l hr
    show Ψ M_18 68 [] []
    refine r_iconst (pc := 68) C dX3_readNumbers_68 ki0 ?_
    exact r_zret (pc := 69) CR dX3_readNumbers_69 rfl (congrArg (fun z => some (Value.int z)) (Prod.mk.inj (gSome hr)).1) (Prod.mk.inj (gSome hr)).2
  · replace hr := gS2_r hr
    replace hr := gS2_r hr
    show Ψ M_19 76 [] []
    refine r_iconst (pc := 76) C dX3_readNumbers_76 ki1 ?_
    exact r_zret (pc := 77) CR dX3_readNumbers_77 rfl (congrArg (fun z => some (Value.int z)) (Prod.mk.inj (gSome hr)).1) (Prod.mk.inj (gSome hr)).2
theorem c_X3_readNumbers {Ψ : gM → Nat → List (Nat × Value) → List Value → Prop} {G : gG5} {nf : Nat} {cc : ByteArray} {own : String} {nL : Nat} {ret : Option FieldType} {fr lo : Nat} {v0 : Option Value} {M0 M : gM} {pc index : Nat} {ls : List (Nat × Value)} {st : List Value} (C : gC Ψ G (gXn nf) cc own nL ret fr lo v0 M0) (d : decode cc pc = .ok (.invokevirtual index, 3)) (hl : Cond.methodLink own index yX3_readNumbers ∈ gws) (hR : 3 ≤ fr ∧ 72 ≤ lo) {i1 : Nat} {p2 : Int32} {p3 : Int32} (h1 : i1 < 10) {r : Int32} {M1 : gM} (hr : X3_readNumbers i1 p2 p3 M = some (r, M1)) (hcat : (st.map fun v => v.category).sum ≤ 8) (k : Ψ M1 (pc + 3) ls (.int r :: st)) : Ψ M pc ls (.int p3 :: .int p2 :: .ref (gad 63 i1) :: .ref (gad 3 0) :: st) := r_callV C [.ref (gad 63 i1), .int p2, .int p3] st d (k_X3_readNumbers h1 hr) hl q679 q3 q118 q680 hd_X3_readNumbers hR rfl (by decide) (e3 nf) rfl hcat k
theorem hd_X4_takeTriangle : yX4_takeTriangle.cls ≠ "java/lang/invoke/MethodHandle" ∧ yX4_takeTriangle.cls ≠ "java/lang/invoke/VarHandle" ∧ (parseMethodDescriptor yX4_takeTriangle.desc).map (fun d => d.parameters.length) = some 2 := by decide +kernel
noncomputable def X4_takeTriangle_L12 (i0 : Nat) (x1 : Int32) (x3 : Int32) (M : gM) : Option ((Int32 × gM) ⊕ gM) := (if 3 ≤ x3 then some (.inr M) else gG (gin (x3 * 3) 11) (gG (gin (((M.1 5 i0 5) * 6) + (x3 * 2)) 60) (gLet (wI M 11 i0 (Int32.toNatClampNeg (((M.1 5 i0 5) * 6) + (x3 * 2))) (M.1 4 0 (Int32.toNatClampNeg (x3 * 3)))) (fun M_5 => gG (gin ((x3 * 3) + 1) 11) (gG (gin ((((M_5.1 5 i0 5) * 6) + (x3 * 2)) + 1) 60) (gLet (wI M_5 11 i0 (Int32.toNatClampNeg ((((M_5.1 5 i0 5) * 6) + (x3 * 2)) + 1)) (M_5.1 4 0 (Int32.toNatClampNeg ((x3 * 3) + 1)))) (fun M_8 => gG (gin ((x3 * 3) + 2) 11) (gG (gin (((M_8.1 5 i0 5) * 3) + x3) 30) (gLet (wI M_8 10 i0 (Int32.toNatClampNeg (((M_8.1 5 i0 5) * 3) + x3)) (M_8.1 4 0 (Int32.toNatClampNeg ((x3 * 3) + 2)))) (fun M_11 => gLet (x3 + 1) (fun x3_12 => some (.inl (x3_12, M_11)))))))))))))
theorem t_X4_takeTriangle_L12 {Ψ : gM → Nat → List (Nat × Value) → List Value → Prop} {G : gG5} {nf : Nat} {M : gM} {v0 : Option Value} {M0 : gM} {i0 : Nat} {x1 : Int32} {x3 : Int32} {w : ((Int32 × gM) ⊕ gM)} (C : gC Ψ G (gXn nf) cX4_takeTriangle RX4 4 none 0 0 v0 M0) (h0 : i0 < 2) (hr : X4_takeTriangle_L12 i0 x1 x3 M = some w) (hn : ∀ s, w = .inl s → Ψ s.2 12 [(0, .ref (gad 5 i0)), (1, .int x1), (2, .ref (gad 4 0)), (3, .int (s.1))] []) (hx : ∀ e, w = .inr e → (fun e => Ψ e 89 [(0, .ref (gad 5 i0)), (1, .int x1), (2, .ref (gad 4 0))] []) e) : Ψ M 12 [(0, .ref (gad 5 i0)), (1, .int x1), (2, .ref (gad 4 0)), (3, .int x3)] [] := by
  refine r_iload_n (pc := 12) C dX4_takeTriangle_12 rfl 3 rfl ?_
  refine r_iconst (pc := 13) C dX4_takeTriangle_13 ki3 ?_
  refine r_icmp_ge (pc := 14) (tgt := 89) C dX4_takeTriangle_14 rfl (fun c_2 => ?_) (fun c_2 => ?_)
  · replace hr := (if_pos c_2).symm.trans hr
    refine r_sub C [0, 1, 2] (ls' := [(0, .ref (gad 5 i0)), (1, .int x1), (2, .ref (gad 4 0))]) rfl ?_
    exact hx M (gSome hr)
  · replace hr := (if_neg c_2).symm.trans hr
    refine r_aload_n (pc := 17) C dX4_takeTriangle_17 rfl 0 rfl ?_
    refine g5_11 (pc := 18) C dX4_takeTriangle_18 q232 (e5 (nf := nf) h0) ?_
    refine r_aload_n (pc := 21) C dX4_takeTriangle_21 rfl 0 rfl ?_
    refine g5_5 (pc := 22) C dX4_takeTriangle_22 q212 (e5 (nf := nf) h0) ?_
    refine r_bipush (pc := 25) C dX4_takeTriangle_25 kb6 ?_
    refine r_imul (pc := 27) C dX4_takeTriangle_27 ?_
    refine r_iload_n (pc := 28) C dX4_takeTriangle_28 rfl 3 rfl ?_
    refine r_iconst (pc := 29) C dX4_takeTriangle_29 ki2 ?_
    refine r_imul (pc := 30) C dX4_takeTriangle_30 ?_
    refine r_iadd (pc := 31) C dX4_takeTriangle_31 ?_
    refine r_aload_n (pc := 32) C dX4_takeTriangle_32 rfl 2 rfl ?_
    refine r_iload_n (pc := 33) C dX4_takeTriangle_33 rfl 3 rfl ?_
    refine r_iconst (pc := 34) C dX4_takeTriangle_34 ki3 ?_
    refine r_imul (pc := 35) C dX4_takeTriangle_35 ?_
    obtain ⟨g_3, hr⟩ := gG_some hr
    refine r_ialdN (pc := 36) C dX4_takeTriangle_36 rfl (e4 nf) g_3 rfl ?_
    obtain ⟨g_4, hr⟩ := gG_some hr
    obtain ⟨M_5, eM_5, hr⟩ := gLet_some hr
    refine r_iastN (pc := 37) C dX4_takeTriangle_37 rfl (e11 (nf := nf) h0) g_4 rfl eM_5 ?_
    refine r_aload_n (pc := 38) C dX4_takeTriangle_38 rfl 0 rfl ?_
    refine g5_11 (pc := 39) C dX4_takeTriangle_39 q232 (e5 (nf := nf) h0) ?_
    refine r_aload_n (pc := 42) C dX4_takeTriangle_42 rfl 0 rfl ?_
    refine g5_5 (pc := 43) C dX4_takeTriangle_43 q212 (e5 (nf := nf) h0) ?_
    refine r_bipush (pc := 46) C dX4_takeTriangle_46 kb6 ?_
    refine r_imul (pc := 48) C dX4_takeTriangle_48 ?_
    refine r_iload_n (pc := 49) C dX4_takeTriangle_49 rfl 3 rfl ?_
    refine r_iconst (pc := 50) C dX4_takeTriangle_50 ki2 ?_
    refine r_imul (pc := 51) C dX4_takeTriangle_51 ?_
    refine r_iadd (pc := 52) C dX4_takeTriangle_52 ?_
    refine r_iconst (pc := 53) C dX4_takeTriangle_53 ki1 ?_
    refine r_iadd (pc := 54) C dX4_takeTriangle_54 ?_
    refine r_aload_n (pc := 55) C dX4_takeTriangle_55 rfl 2 rfl ?_
    refine r_iload_n (pc := 56) C dX4_takeTriangle_56 rfl 3 rfl ?_
    refine r_iconst (pc := 57) C dX4_takeTriangle_57 ki3 ?_
    refine r_imul (pc := 58) C dX4_takeTriangle_58 ?_
    refine r_iconst (pc := 59) C dX4_takeTriangle_59 ki1 ?_
    refine r_iadd (pc := 60) C dX4_takeTriangle_60 ?_
    obtain ⟨g_6, hr⟩ := gG_some hr
    refine r_ialdN (pc := 61) C dX4_takeTriangle_61 rfl (e4 nf) g_6 rfl ?_
    obtain ⟨g_7, hr⟩ := gG_some hr
    obtain ⟨M_8, eM_8, hr⟩ := gLet_some hr
    refine r_iastN (pc := 62) C dX4_takeTriangle_62 rfl (e11 (nf := nf) h0) g_7 rfl eM_8 ?_
    refine r_aload_n (pc := 63) C dX4_takeTriangle_63 rfl 0 rfl ?_
    refine g5_10 (pc := 64) C dX4_takeTriangle_64 q229 (e5 (nf := nf) h0) ?_
    refine r_aload_n (pc := 67) C dX4_takeTriangle_67 rfl 0 rfl ?_
    refine g5_5 (pc := 68) C dX4_takeTriangle_68 q212 (e5 (nf := nf) h0) ?_
    refine r_iconst (pc := 71) C dX4_takeTriangle_71 ki3 ?_
    refine r_imul (pc := 72) C dX4_takeTriangle_72 ?_
    refine r_iload_n (pc := 73) C dX4_takeTriangle_73 rfl 3 rfl ?_
    refine r_iadd (pc := 74) C dX4_takeTriangle_74 ?_
    refine r_aload_n (pc := 75) C dX4_takeTriangle_75 rfl 2 rfl ?_
    refine r_iload_n (pc := 76) C dX4_takeTriangle_76 rfl 3 rfl ?_
    refine r_iconst (pc := 77) C dX4_takeTriangle_77 ki3 ?_
    refine r_imul (pc := 78) C dX4_takeTriangle_78 ?_
    refine r_iconst (pc := 79) C dX4_takeTriangle_79 ki2 ?_
    refine r_iadd (pc := 80) C dX4_takeTriangle_80 ?_
    obtain ⟨g_9, hr⟩ := gG_some hr
    refine r_ialdN (pc := 81) C dX4_takeTriangle_81 rfl (e4 nf) g_9 rfl ?_
    obtain ⟨g_10, hr⟩ := gG_some hr
    obtain ⟨M_11, eM_11, hr⟩ := gLet_some hr
    refine r_iastN (pc := 82) C dX4_takeTriangle_82 rfl (e10 (nf := nf) h0) g_10 rfl eM_11 ?_
    obtain ⟨x3_12, ex3_12, hr⟩ := gLet_some hr
    refine r_iinc (pc := 83) C dX4_takeTriangle_83 3 rfl rfl (by decide) ex3_12 (ls' := [(3, .int x3_12), (0, .ref (gad 5 i0)), (1, .int x1), (2, .ref (gad 4 0))]) rfl ?_
    refine r_goto (pc := 86) (tgt := 12) C dX4_takeTriangle_86 rfl ?_
    refine r_sub C [1, 2, 3, 0] (ls' := [(0, .ref (gad 5 i0)), (1, .int x1), (2, .ref (gad 4 0)), (3, .int x3_12)]) rfl ?_
    exact hn (x3_12, M_11) (gSome hr)
noncomputable def X4_takeTriangle (i0 : Nat) (p1 : Int32) (M : gM) : Option gM := (if (M.1 5 i0 5) < 10 then (gIter (fun s => X4_takeTriangle_L12 i0 p1 s.1 s.2) FU (0, M)).bind (fun M_13 => gG (gin (M_13.1 5 i0 5) 10) (gLet (wI M_13 7 i0 (Int32.toNatClampNeg (M_13.1 5 i0 5)) p1) (fun M_15 => gG (gin (M_15.1 5 i0 5) 10) (gLet (wI M_15 8 i0 (Int32.toNatClampNeg (M_15.1 5 i0 5)) (M_15.1 4 0 9)) (fun M_17 => gG (gin (M_17.1 5 i0 5) 10) (gLet (wI M_17 9 i0 (Int32.toNatClampNeg (M_17.1 5 i0 5)) (M_17.1 4 0 10)) (fun M_19 => gLet (wI M_19 5 i0 5 ((M_19.1 5 i0 5) + 1)) (fun M_20 => some M_20)))))))) else some M)
theorem k_X4_takeTriangle {G : gG5} {nf : Nat} {M : gM} {i0 : Nat} {p1 : Int32} (h0 : i0 < 2) {M1 : gM} (hr : X4_takeTriangle i0 p1 M = some M1) : gMet G (gXn nf) yX4_takeTriangle cX4_takeTriangle 4 none 0 0 M [.ref (gad 5 i0), .int p1, .ref (gad 4 0)] none M1 := by
  refine gMet_of pl_X4 rfl (Nat.le_of_ble_eq_true rfl) (fun Ψ C CR => ?_)
  show Ψ M 0 [(0, .ref (gad 5 i0)), (1, .int p1), (2, .ref (gad 4 0))] []
  refine r_aload_n (pc := 0) C dX4_takeTriangle_0 rfl 0 rfl ?_
  refine g5_5 (pc := 1) C dX4_takeTriangle_1 q212 (e5 (nf := nf) h0) ?_
  refine r_bipush (pc := 4) C dX4_takeTriangle_4 kb10 ?_
  refine r_icmp_lt (pc := 6) (tgt := 10) C dX4_takeTriangle_6 rfl (fun c_1 => ?_) (fun c_1 => ?_)
  · replace hr := (if_pos c_1).symm.trans hr
    refine r_iconst (pc := 10) C dX4_takeTriangle_10 ki0 ?_
    refine r_istore_n (pc := 11) C dX4_takeTriangle_11 rfl (by decide) rfl (ls' := [(3, .int 0), (0, .ref (gad 5 i0)), (1, .int p1), (2, .ref (gad 4 0))]) rfl ?_
    refine r_sub C [1, 2, 3, 0] (ls' := [(0, .ref (gad 5 i0)), (1, .int p1), (2, .ref (gad 4 0)), (3, .int 0)]) rfl ?_
    obtain ⟨ev, hit, hr⟩ := gBind_some hr
    refine gIter_V (step := fun s => X4_takeTriangle_L12 i0 p1 s.1 s.2) (P := fun s => Ψ s.2 12 [(0, .ref (gad 5 i0)), (1, .int p1), (2, .ref (gad 4 0)), (3, .int (s.1))] []) (K := (fun e => Ψ e 89 [(0, .ref (gad 5 i0)), (1, .int p1), (2, .ref (gad 4 0))] [])) (fun s w hs hn hx => t_X4_takeTriangle_L12 C h0 hs hn hx) FU (0, M) ev hit ?_
    obtain ⟨M_13, rfl⟩ : ∃ z, z = ev := ⟨_, rfl⟩
    show Ψ M_13 89 [(0, .ref (gad 5 i0)), (1, .int p1), (2, .ref (gad 4 0))] []
    refine r_aload_n (pc := 89) C dX4_takeTriangle_89 rfl 0 rfl ?_
    refine g5_7 (pc := 90) C dX4_takeTriangle_90 q219 (e5 (nf := nf) h0) ?_
    refine r_aload_n (pc := 93) C dX4_takeTriangle_93 rfl 0 rfl ?_
    refine g5_5 (pc := 94) C dX4_takeTriangle_94 q212 (e5 (nf := nf) h0) ?_
    refine r_iload_n (pc := 97) C dX4_takeTriangle_97 rfl 1 rfl ?_
    obtain ⟨g_14, hr⟩ := gG_some hr
    obtain ⟨M_15, eM_15, hr⟩ := gLet_some hr
    refine r_iastN (pc := 98) C dX4_takeTriangle_98 rfl (e7 (nf := nf) h0) g_14 rfl eM_15 ?_
    refine r_aload_n (pc := 99) C dX4_takeTriangle_99 rfl 0 rfl ?_
    refine g5_8 (pc := 100) C dX4_takeTriangle_100 q222 (e5 (nf := nf) h0) ?_
    refine r_aload_n (pc := 103) C dX4_takeTriangle_103 rfl 0 rfl ?_
    refine g5_5 (pc := 104) C dX4_takeTriangle_104 q212 (e5 (nf := nf) h0) ?_
    refine r_aload_n (pc := 107) C dX4_takeTriangle_107 rfl 2 rfl ?_
    refine r_bipush (pc := 108) C dX4_takeTriangle_108 kb9 ?_
    refine r_ialdN (pc := 110) C dX4_takeTriangle_110 rfl (e4 nf) (by decide : gin 9 11 = true) kc9 ?_
    obtain ⟨g_16, hr⟩ := gG_some hr
    obtain ⟨M_17, eM_17, hr⟩ := gLet_some hr
    refine r_iastN (pc := 111) C dX4_takeTriangle_111 rfl (e8 (nf := nf) h0) g_16 rfl eM_17 ?_
    refine r_aload_n (pc := 112) C dX4_takeTriangle_112 rfl 0 rfl ?_
    refine g5_9 (pc := 113) C dX4_takeTriangle_113 q225 (e5 (nf := nf) h0) ?_
    refine r_aload_n (pc := 116) C dX4_takeTriangle_116 rfl 0 rfl ?_
    refine g5_5 (pc := 117) C dX4_takeTriangle_117 q212 (e5 (nf := nf) h0) ?_
    refine r_aload_n (pc := 120) C dX4_takeTriangle_120 rfl 2 rfl ?_
    refine r_bipush (pc := 121) C dX4_takeTriangle_121 kb10 ?_
    refine r_ialdN (pc := 123) C dX4_takeTriangle_123 rfl (e4 nf) (by decide : gin 10 11 = true) kc10 ?_
    obtain ⟨g_18, hr⟩ := gG_some hr
    obtain ⟨M_19, eM_19, hr⟩ := gLet_some hr
    refine r_iastN (pc := 124) C dX4_takeTriangle_124 rfl (e9 (nf := nf) h0) g_18 rfl eM_19 ?_
    refine r_aload_n (pc := 125) C dX4_takeTriangle_125 rfl 0 rfl ?_
    refine r_dup (pc := 126) C dX4_takeTriangle_126 rfl ?_
    refine g5_5 (pc := 127) C dX4_takeTriangle_127 q212 (e5 (nf := nf) h0) ?_
    refine r_iconst (pc := 130) C dX4_takeTriangle_130 ki1 ?_
    refine r_iadd (pc := 131) C dX4_takeTriangle_131 ?_
    obtain ⟨M_20, eM_20, hr⟩ := gLet_some hr
    refine p5_5 (pc := 132) C dX4_takeTriangle_132 q212 (e5 (nf := nf) h0) eM_20 ?_
    exact r_vret (pc := 135) CR dX4_takeTriangle_135 rfl (gSome hr)
  · replace hr := (if_neg c_1).symm.trans hr
    exact r_vret (pc := 9) CR dX4_takeTriangle_9 rfl (gSome hr)
theorem c_X4_takeTriangle {Ψ : gM → Nat → List (Nat × Value) → List Value → Prop} {G : gG5} {nf : Nat} {cc : ByteArray} {own : String} {nL : Nat} {ret : Option FieldType} {fr lo : Nat} {v0 : Option Value} {M0 M : gM} {pc index : Nat} {ls : List (Nat × Value)} {st : List Value} (C : gC Ψ G (gXn nf) cc own nL ret fr lo v0 M0) (d : decode cc pc = .ok (.invokevirtual index, 3)) (hl : Cond.methodLink own index yX4_takeTriangle ∈ gws) (hR : 1 ≤ fr ∧ 23 ≤ lo) {i0 : Nat} {p1 : Int32} (h0 : i0 < 2) {M1 : gM} (hr : X4_takeTriangle i0 p1 M = some M1) (hcat : (st.map fun v => v.category).sum ≤ 8) (k : Ψ M1 (pc + 3) ls (st)) : Ψ M pc ls (.ref (gad 4 0) :: .int p1 :: .ref (gad 5 i0) :: st) := r_callV C [.int p1, .ref (gad 4 0)] st d (k_X4_takeTriangle h0 hr) hl q699 q6 q119 q700 hd_X4_takeTriangle hR rfl (by decide) (e5 (nf := nf) h0) rfl hcat k
theorem hd_X4_take : yX4_take.cls ≠ "java/lang/invoke/MethodHandle" ∧ yX4_take.cls ≠ "java/lang/invoke/VarHandle" ∧ (parseMethodDescriptor yX4_take.desc).map (fun d => d.parameters.length) = some 3 := by decide +kernel
noncomputable def X4_take (i0 : Nat) (p1 : Int32) (p2 : Int32) (M : gM) : Option gM := (if p1 = 0 then gLet (wI M 5 i0 0 (M.1 4 0 0)) (fun M_2 => gLet (wI M_2 5 i0 1 (M_2.1 4 0 1)) (fun M_3 => some M_3)) else if p1 = 1 then gLet (wI M 5 i0 2 (M.1 4 0 0)) (fun M_4 => some M_4) else if p1 = 2 then gLet (wI M 5 i0 3 (M.1 4 0 0)) (fun M_5 => some M_5) else if p1 = 3 then gLet (wI M 5 i0 4 (M.1 4 0 0)) (fun M_6 => some M_6) else if p1 = 4 then gLet (wI M 6 i0 0 (M.1 4 0 0)) (fun M_7 => some M_7) else if p1 = 5 then gLet (wI M 6 i0 1 (M.1 4 0 0)) (fun M_8 => some M_8) else if p1 = 6 then gLet (wI M 6 i0 2 (M.1 4 0 0)) (fun M_9 => some M_9) else if p1 = 7 then gLet (wI M 6 i0 3 (M.1 4 0 0)) (fun M_10 => some M_10) else (X4_takeTriangle i0 p2 M).bind (fun M_12 => some M_12))
theorem k_X4_take {G : gG5} {nf : Nat} {M : gM} {i0 : Nat} {p1 : Int32} {p2 : Int32} (h0 : i0 < 2) {M1 : gM} (hr : X4_take i0 p1 p2 M = some M1) : gMet G (gXn nf) yX4_take cX4_take 4 none 1 23 M [.ref (gad 5 i0), .int p1, .int p2, .ref (gad 4 0)] none M1 := by
  refine gMet_of pl_X4 rfl (Nat.le_of_ble_eq_true rfl) (fun Ψ C CR => ?_)
  show Ψ M 0 [(0, .ref (gad 5 i0)), (1, .int p1), (2, .int p2), (3, .ref (gad 4 0))] []
  refine r_iload_n (pc := 0) C dX4_take_0 rfl 1 rfl ?_
  by_cases c_1_0 : p1 = 0
  · replace hr := (if_pos c_1_0).symm.trans hr
    refine r_tableIn (pc := 1) (tgt := 48) (off := 47) C dX4_take_1 0 c_1_0 (by decide) rfl ?_
    refine r_aload_n (pc := 48) C dX4_take_48 rfl 0 rfl ?_
    refine r_aload_n (pc := 49) C dX4_take_49 rfl 3 rfl ?_
    refine r_iconst (pc := 50) C dX4_take_50 ki0 ?_
    refine r_ialdN (pc := 51) C dX4_take_51 rfl (e4 nf) (by decide : gin 0 11 = true) kc0 ?_
    obtain ⟨M_2, eM_2, hr⟩ := gLet_some hr
    refine p5_0 (pc := 52) C dX4_take_52 q195 (e5 (nf := nf) h0) eM_2 ?_
    refine r_aload_n (pc := 55) C dX4_take_55 rfl 0 rfl ?_
    refine r_aload_n (pc := 56) C dX4_take_56 rfl 3 rfl ?_
    refine r_iconst (pc := 57) C dX4_take_57 ki1 ?_
    refine r_ialdN (pc := 58) C dX4_take_58 rfl (e4 nf) (by decide : gin 1 11 = true) kc1 ?_
    obtain ⟨M_3, eM_3, hr⟩ := gLet_some hr
    refine p5_1 (pc := 59) C dX4_take_59 q198 (e5 (nf := nf) h0) eM_3 ?_
    refine r_goto (pc := 62) (tgt := 149) C dX4_take_62 rfl ?_
    exact r_vret (pc := 149) CR dX4_take_149 rfl (gSome hr)
  replace hr := (if_neg c_1_0).symm.trans hr
  by_cases c_1_1 : p1 = 1
  · replace hr := (if_pos c_1_1).symm.trans hr
    refine r_tableIn (pc := 1) (tgt := 65) (off := 64) C dX4_take_1 1 c_1_1 (by decide) rfl ?_
    refine r_aload_n (pc := 65) C dX4_take_65 rfl 0 rfl ?_
    refine r_aload_n (pc := 66) C dX4_take_66 rfl 3 rfl ?_
    refine r_iconst (pc := 67) C dX4_take_67 ki0 ?_
    refine r_ialdN (pc := 68) C dX4_take_68 rfl (e4 nf) (by decide : gin 0 11 = true) kc0 ?_
    obtain ⟨M_4, eM_4, hr⟩ := gLet_some hr
    refine p5_2 (pc := 69) C dX4_take_69 q201 (e5 (nf := nf) h0) eM_4 ?_
    refine r_goto (pc := 72) (tgt := 149) C dX4_take_72 rfl ?_
    exact r_vret (pc := 149) CR dX4_take_149 rfl (gSome hr)
  replace hr := (if_neg c_1_1).symm.trans hr
  by_cases c_1_2 : p1 = 2
  · replace hr := (if_pos c_1_2).symm.trans hr
    refine r_tableIn (pc := 1) (tgt := 75) (off := 74) C dX4_take_1 2 c_1_2 (by decide) rfl ?_
    refine r_aload_n (pc := 75) C dX4_take_75 rfl 0 rfl ?_
    refine r_aload_n (pc := 76) C dX4_take_76 rfl 3 rfl ?_
    refine r_iconst (pc := 77) C dX4_take_77 ki0 ?_
    refine r_ialdN (pc := 78) C dX4_take_78 rfl (e4 nf) (by decide : gin 0 11 = true) kc0 ?_
    obtain ⟨M_5, eM_5, hr⟩ := gLet_some hr
    refine p5_3 (pc := 79) C dX4_take_79 q204 (e5 (nf := nf) h0) eM_5 ?_
    refine r_goto (pc := 82) (tgt := 149) C dX4_take_82 rfl ?_
    exact r_vret (pc := 149) CR dX4_take_149 rfl (gSome hr)
  replace hr := (if_neg c_1_2).symm.trans hr
  by_cases c_1_3 : p1 = 3
  · replace hr := (if_pos c_1_3).symm.trans hr
    refine r_tableIn (pc := 1) (tgt := 85) (off := 84) C dX4_take_1 3 c_1_3 (by decide) rfl ?_
    refine r_aload_n (pc := 85) C dX4_take_85 rfl 0 rfl ?_
    refine r_aload_n (pc := 86) C dX4_take_86 rfl 3 rfl ?_
    refine r_iconst (pc := 87) C dX4_take_87 ki0 ?_
    refine r_ialdN (pc := 88) C dX4_take_88 rfl (e4 nf) (by decide : gin 0 11 = true) kc0 ?_
    obtain ⟨M_6, eM_6, hr⟩ := gLet_some hr
    refine p5_4 (pc := 89) C dX4_take_89 q208 (e5 (nf := nf) h0) eM_6 ?_
    refine r_goto (pc := 92) (tgt := 149) C dX4_take_92 rfl ?_
    exact r_vret (pc := 149) CR dX4_take_149 rfl (gSome hr)
  replace hr := (if_neg c_1_3).symm.trans hr
  by_cases c_1_4 : p1 = 4
  · replace hr := (if_pos c_1_4).symm.trans hr
    refine r_tableIn (pc := 1) (tgt := 95) (off := 94) C dX4_take_1 4 c_1_4 (by decide) rfl ?_
    refine r_aload_n (pc := 95) C dX4_take_95 rfl 0 rfl ?_
    refine g5_6 (pc := 96) C dX4_take_96 q217 (e5 (nf := nf) h0) ?_
    refine r_iconst (pc := 99) C dX4_take_99 ki0 ?_
    refine r_aload_n (pc := 100) C dX4_take_100 rfl 3 rfl ?_
    refine r_iconst (pc := 101) C dX4_take_101 ki0 ?_
    refine r_ialdN (pc := 102) C dX4_take_102 rfl (e4 nf) (by decide : gin 0 11 = true) kc0 ?_
    obtain ⟨M_7, eM_7, hr⟩ := gLet_some hr
    refine r_iastN (pc := 103) C dX4_take_103 rfl (e6 (nf := nf) h0) (by decide : gin 0 4 = true) kc0 eM_7 ?_
    refine r_goto (pc := 104) (tgt := 149) C dX4_take_104 rfl ?_
    exact r_vret (pc := 149) CR dX4_take_149 rfl (gSome hr)
  replace hr := (if_neg c_1_4).symm.trans hr
  by_cases c_1_5 : p1 = 5
  · replace hr := (if_pos c_1_5).symm.trans hr
    refine r_tableIn (pc := 1) (tgt := 107) (off := 106) C dX4_take_1 5 c_1_5 (by decide) rfl ?_
    refine r_aload_n (pc := 107) C dX4_take_107 rfl 0 rfl ?_
    refine g5_6 (pc := 108) C dX4_take_108 q217 (e5 (nf := nf) h0) ?_
    refine r_iconst (pc := 111) C dX4_take_111 ki1 ?_
    refine r_aload_n (pc := 112) C dX4_take_112 rfl 3 rfl ?_
    refine r_iconst (pc := 113) C dX4_take_113 ki0 ?_
    refine r_ialdN (pc := 114) C dX4_take_114 rfl (e4 nf) (by decide : gin 0 11 = true) kc0 ?_
    obtain ⟨M_8, eM_8, hr⟩ := gLet_some hr
    refine r_iastN (pc := 115) C dX4_take_115 rfl (e6 (nf := nf) h0) (by decide : gin 1 4 = true) kc1 eM_8 ?_
    refine r_goto (pc := 116) (tgt := 149) C dX4_take_116 rfl ?_
    exact r_vret (pc := 149) CR dX4_take_149 rfl (gSome hr)
  replace hr := (if_neg c_1_5).symm.trans hr
  by_cases c_1_6 : p1 = 6
  · replace hr := (if_pos c_1_6).symm.trans hr
    refine r_tableIn (pc := 1) (tgt := 119) (off := 118) C dX4_take_1 6 c_1_6 (by decide) rfl ?_
    refine r_aload_n (pc := 119) C dX4_take_119 rfl 0 rfl ?_
    refine g5_6 (pc := 120) C dX4_take_120 q217 (e5 (nf := nf) h0) ?_
    refine r_iconst (pc := 123) C dX4_take_123 ki2 ?_
    refine r_aload_n (pc := 124) C dX4_take_124 rfl 3 rfl ?_
    refine r_iconst (pc := 125) C dX4_take_125 ki0 ?_
    refine r_ialdN (pc := 126) C dX4_take_126 rfl (e4 nf) (by decide : gin 0 11 = true) kc0 ?_
    obtain ⟨M_9, eM_9, hr⟩ := gLet_some hr
    refine r_iastN (pc := 127) C dX4_take_127 rfl (e6 (nf := nf) h0) (by decide : gin 2 4 = true) kc2 eM_9 ?_
    refine r_goto (pc := 128) (tgt := 149) C dX4_take_128 rfl ?_
    exact r_vret (pc := 149) CR dX4_take_149 rfl (gSome hr)
  replace hr := (if_neg c_1_6).symm.trans hr
  by_cases c_1_7 : p1 = 7
  · replace hr := (if_pos c_1_7).symm.trans hr
    refine r_tableIn (pc := 1) (tgt := 131) (off := 130) C dX4_take_1 7 c_1_7 (by decide) rfl ?_
    refine r_aload_n (pc := 131) C dX4_take_131 rfl 0 rfl ?_
    refine g5_6 (pc := 132) C dX4_take_132 q217 (e5 (nf := nf) h0) ?_
    refine r_iconst (pc := 135) C dX4_take_135 ki3 ?_
    refine r_aload_n (pc := 136) C dX4_take_136 rfl 3 rfl ?_
    refine r_iconst (pc := 137) C dX4_take_137 ki0 ?_
    refine r_ialdN (pc := 138) C dX4_take_138 rfl (e4 nf) (by decide : gin 0 11 = true) kc0 ?_
    obtain ⟨M_10, eM_10, hr⟩ := gLet_some hr
    refine r_iastN (pc := 139) C dX4_take_139 rfl (e6 (nf := nf) h0) (by decide : gin 3 4 = true) kc3 eM_10 ?_
    refine r_goto (pc := 140) (tgt := 149) C dX4_take_140 rfl ?_
    exact r_vret (pc := 149) CR dX4_take_149 rfl (gSome hr)
  replace hr := (if_neg c_1_7).symm.trans hr
  refine r_tableOut (pc := 1) (tgt := 143) C dX4_take_1 (fun k h1 h2 => ?_) rfl ?_
  · rcases (show k = 0 ∨ k = 1 ∨ k = 2 ∨ k = 3 ∨ k = 4 ∨ k = 5 ∨ k = 6 ∨ k = 7 by omega) with rfl | rfl | rfl | rfl | rfl | rfl | rfl | rfl
    all_goals assumption
  · refine r_aload_n (pc := 143) C dX4_take_143 rfl 0 rfl ?_
    refine r_iload_n (pc := 144) C dX4_take_144 rfl 2 rfl ?_
    refine r_aload_n (pc := 145) C dX4_take_145 rfl 3 rfl ?_
    obtain ⟨M_12, hc_11, hr⟩ := gBind_some hr
    refine c_X4_takeTriangle (pc := 146) C dX4_take_146 q697 ⟨Nat.le_of_ble_eq_true rfl, Nat.le_of_ble_eq_true rfl⟩ h0 hc_11 (Nat.le_of_ble_eq_true rfl) ?_
    exact r_vret (pc := 149) CR dX4_take_149 rfl (gSome hr)
theorem c_X4_take {Ψ : gM → Nat → List (Nat × Value) → List Value → Prop} {G : gG5} {nf : Nat} {cc : ByteArray} {own : String} {nL : Nat} {ret : Option FieldType} {fr lo : Nat} {v0 : Option Value} {M0 M : gM} {pc index : Nat} {ls : List (Nat × Value)} {st : List Value} (C : gC Ψ G (gXn nf) cc own nL ret fr lo v0 M0) (d : decode cc pc = .ok (.invokevirtual index, 3)) (hl : Cond.methodLink own index yX4_take ∈ gws) (hR : 2 ≤ fr ∧ 46 ≤ lo) {i0 : Nat} {p1 : Int32} {p2 : Int32} (h0 : i0 < 2) {M1 : gM} (hr : X4_take i0 p1 p2 M = some M1) (hcat : (st.map fun v => v.category).sum ≤ 8) (k : Ψ M1 (pc + 3) ls (st)) : Ψ M pc ls (.ref (gad 4 0) :: .int p2 :: .int p1 :: .ref (gad 5 i0) :: st) := r_callV C [.int p1, .int p2, .ref (gad 4 0)] st d (k_X4_take h0 hr) hl q694 q695 q119 q696 hd_X4_take hR rfl (by decide) (e5 (nf := nf) h0) rfl hcat k
theorem hd_X3_isAtEnd : yX3_isAtEnd.cls ≠ "java/lang/invoke/MethodHandle" ∧ yX3_isAtEnd.cls ≠ "java/lang/invoke/VarHandle" ∧ (parseMethodDescriptor yX3_isAtEnd.desc).map (fun d => d.parameters.length) = some 0 := by decide +kernel
noncomputable def X3_isAtEnd (M : gM) : Option (Int32 × gM) := (X3_skipBlanks M).bind (fun M_2 => (if (M_2.1 3 0 2) < (M_2.1 1 0 1) then some (0, M_2) else some (1, M_2)))
theorem k_X3_isAtEnd {G : gG5} {nf : Nat} {M : gM} {r : Int32} {M1 : gM} (hr : X3_isAtEnd M = some (r, M1)) : gMet G (gXn nf) yX3_isAtEnd cX3_isAtEnd 1 (some .boolean) 1 20 M [.ref (gad 3 0)] (some (.int r)) M1 := by
  refine gMet_of pl_X3 rfl (Nat.le_of_ble_eq_true rfl) (fun Ψ C CR => ?_)
  show Ψ M 0 [(0, .ref (gad 3 0))] []
  refine r_aload_n (pc := 0) C dX3_isAtEnd_0 rfl 0 rfl ?_
  obtain ⟨M_2, hc_1, hr⟩ := gBind_some hr
  refine c_X3_skipBlanks (pc := 1) C dX3_isAtEnd_1 q612 ⟨Nat.le_of_ble_eq_true rfl, Nat.le_of_ble_eq_true rfl⟩ hc_1 (Nat.le_of_ble_eq_true rfl) ?_
  refine r_aload_n (pc := 4) C dX3_isAtEnd_4 rfl 0 rfl ?_
  refine g3_2 (pc := 5) C dX3_isAtEnd_5 q173 (e3 nf) ?_
  refine r_aload_n (pc := 8) C dX3_isAtEnd_8 rfl 0 rfl ?_
  refine g3_0 (pc := 9) C dX3_isAtEnd_9 q171 (e3 nf) ?_
  refine g1_1 (pc := 12) C dX3_isAtEnd_12 q158 (e1 nf) ?_
  refine r_icmp_lt (pc := 15) (tgt := 22) C dX3_isAtEnd_15 rfl (fun c_3 => ?_) (fun c_3 => ?_)
  · replace hr := (if_pos c_3).symm.trans hr
    refine r_iconst (pc := 22) C dX3_isAtEnd_22 ki0 ?_
    exact r_zret (pc := 23) CR dX3_isAtEnd_23 rfl (congrArg (fun z => some (Value.int z)) (Prod.mk.inj (gSome hr)).1) (Prod.mk.inj (gSome hr)).2
  · replace hr := (if_neg c_3).symm.trans hr
    refine r_iconst (pc := 18) C dX3_isAtEnd_18 ki1 ?_
    refine r_goto (pc := 19) (tgt := 23) C dX3_isAtEnd_19 rfl ?_
    exact r_zret (pc := 23) CR dX3_isAtEnd_23 rfl (congrArg (fun z => some (Value.int z)) (Prod.mk.inj (gSome hr)).1) (Prod.mk.inj (gSome hr)).2
theorem c_X3_isAtEnd {Ψ : gM → Nat → List (Nat × Value) → List Value → Prop} {G : gG5} {nf : Nat} {cc : ByteArray} {own : String} {nL : Nat} {ret : Option FieldType} {fr lo : Nat} {v0 : Option Value} {M0 M : gM} {pc index : Nat} {ls : List (Nat × Value)} {st : List Value} (C : gC Ψ G (gXn nf) cc own nL ret fr lo v0 M0) (d : decode cc pc = .ok (.invokevirtual index, 3)) (hl : Cond.methodLink own index yX3_isAtEnd ∈ gws) (hR : 2 ≤ fr ∧ 40 ≤ lo) {r : Int32} {M1 : gM} (hr : X3_isAtEnd M = some (r, M1)) (hcat : (st.map fun v => v.category).sum ≤ 8) (k : Ψ M1 (pc + 3) ls (.int r :: st)) : Ψ M pc ls (.ref (gad 3 0) :: st) := r_callV C [] st d (k_X3_isAtEnd hr) hl q703 q7 q118 q704 hd_X3_isAtEnd hR rfl (by decide) (e3 nf) rfl hcat k
theorem hd_X3_readScene : yX3_readScene.cls ≠ "java/lang/invoke/MethodHandle" ∧ yX3_readScene.cls ≠ "java/lang/invoke/VarHandle" ∧ (parseMethodDescriptor yX3_readScene.desc).map (fun d => d.parameters.length) = some 1 := by decide +kernel
noncomputable def X3_readScene_J112 (i1 : Nat) (x2 : Int32) (x3 : Int32) (x4 : Int32) (M : gM) : Option ((Int32 × Int32 × gM) ⊕ (gM ⊕ (gM ⊕ (gM ⊕ (gM ⊕ (gM ⊕ gM)))))) := (X4_take i1 x4 (x4 - 8) M).bind (fun M_22 => (X3_isAtEnd M_22).bind (gU2 (fun r_24 M_25 => (if r_24 = 0 then (X3_readSign 59 M_25).bind (gU2 (fun r_28 M_29 => (if r_28 = 0 then some (.inr (.inr (.inr (.inr (.inr (.inl M_29)))))) else gLet (x3 + 1) (fun x3_31 => some (.inl (x2, x3_31, M_29)))))) else some (.inr (.inr (.inr (.inr (.inl M_25)))))))))
theorem t_X3_readScene_J112 {Ψ : gM → Nat → List (Nat × Value) → List Value → Prop} {G : gG5} {nf : Nat} {M : gM} {v0 : Option Value} {M0 : gM} {i1 : Nat} {x2 : Int32} {x3 : Int32} {x4 : Int32} {w : ((Int32 × Int32 × gM) ⊕ (gM ⊕ (gM ⊕ (gM ⊕ (gM ⊕ (gM ⊕ gM))))))} (C : gC Ψ G (gXn nf) cX3_readScene RX3 5 (some .int) 8 189 v0 M0) (h1 : i1 < 2) (hr : X3_readScene_J112 i1 x2 x3 x4 M = some w) (hn : ∀ s, w = .inl s → Ψ s.2.2 13 [(0, .ref (gad 3 0)), (1, .ref (gad 5 i1)), (2, .int (s.1)), (3, .int (s.2.1))] []) (hx : ∀ e, w = .inr e → (gSP (fun e => Ψ e 52 [(0, .ref (gad 3 0))] []) (gSP (fun e => Ψ e 86 [(0, .ref (gad 3 0))] []) (gSP (fun e => Ψ e 107 [(0, .ref (gad 3 0))] []) (gSP (fun e => Ψ e 134 [(0, .ref (gad 3 0)), (1, .ref (gad 5 i1))] []) (gSP (fun e => Ψ e 162 [(0, .ref (gad 3 0))] []) (fun e => Ψ e 173 [(0, .ref (gad 3 0))] [])))))) e) : Ψ M 112 [(0, .ref (gad 3 0)), (1, .ref (gad 5 i1)), (2, .int x2), (3, .int x3), (4, .int x4)] [] := by
  refine r_aload_n (pc := 112) C dX3_readScene_112 rfl 1 rfl ?_
  refine r_iload (pc := 113) C dX3_readScene_113 4 rfl ?_
  refine r_iload (pc := 115) C dX3_readScene_115 4 rfl ?_
  refine r_bipush (pc := 117) C dX3_readScene_117 kb8 ?_
  refine r_isub (pc := 119) C dX3_readScene_119 ?_
  refine r_aload_n (pc := 120) C dX3_readScene_120 rfl 0 rfl ?_
  refine g3_1 (pc := 121) C dX3_readScene_121 q172 (e3 nf) ?_
  obtain ⟨M_22, hc_21, hr⟩ := gBind_some hr
  refine c_X4_take (pc := 124) C dX3_readScene_124 q693 ⟨Nat.le_of_ble_eq_true rfl, Nat.le_of_ble_eq_true rfl⟩ h1 hc_21 (Nat.le_of_ble_eq_true rfl) ?_
  refine r_aload_n (pc := 127) C dX3_readScene_127 rfl 0 rfl ?_
  obtain ⟨⟨r_24, M_25⟩, hc_23, hr⟩ := gBind_some hr
  replace hr := gU2_some hr
  refine c_X3_isAtEnd (pc := 128) C dX3_readScene_128 q701 ⟨Nat.le_of_ble_eq_true rfl, Nat.le_of_ble_eq_true rfl⟩ hc_23 (Nat.le_of_ble_eq_true rfl) ?_
  refine r_if_eq (pc := 131) (tgt := 153) C dX3_readScene_131 rfl (fun c_26 => ?_) (fun c_26 => ?_)
  · replace hr := (if_pos c_26).symm.trans hr
    refine r_aload_n (pc := 153) C dX3_readScene_153 rfl 0 rfl ?_
    refine r_bipush (pc := 154) C dX3_readScene_154 kb59 ?_
    obtain ⟨⟨r_28, M_29⟩, hc_27, hr⟩ := gBind_some hr
    replace hr := gU2_some hr
    refine c_X3_readSign (pc := 156) C dX3_readScene_156 q681 ⟨Nat.le_of_ble_eq_true rfl, Nat.le_of_ble_eq_true rfl⟩ hc_27 (Nat.le_of_ble_eq_true rfl) ?_
    refine r_if_ne (pc := 159) (tgt := 167) C dX3_readScene_159 rfl (fun c_30 => ?_) (fun c_30 => ?_)
    · replace hr := (if_neg c_30).symm.trans hr
      obtain ⟨x3_31, ex3_31, hr⟩ := gLet_some hr
      refine r_iinc (pc := 167) C dX3_readScene_167 3 rfl rfl (by decide) ex3_31 (ls' := [(3, .int x3_31), (0, .ref (gad 3 0)), (1, .ref (gad 5 i1)), (2, .int x2), (4, .int x4)]) rfl ?_
      refine r_goto (pc := 170) (tgt := 13) C dX3_readScene_170 rfl ?_
      refine r_sub C [1, 2, 3, 0] (ls' := [(0, .ref (gad 3 0)), (1, .ref (gad 5 i1)), (2, .int x2), (3, .int x3_31)]) rfl ?_
      exact hn (x2, x3_31, M_29) (gSome hr)
    · replace hr := (if_pos c_30).symm.trans hr
      refine r_sub C [0] (ls' := [(0, .ref (gad 3 0))]) rfl ?_
      exact hx (.inr (.inr (.inr (.inr (.inl M_29))))) (gSome hr)
  · replace hr := (if_neg c_26).symm.trans hr
    refine r_sub C [0, 1] (ls' := [(0, .ref (gad 3 0)), (1, .ref (gad 5 i1))]) rfl ?_
    exact hx (.inr (.inr (.inr (.inl M_25)))) (gSome hr)
noncomputable def X3_readScene_L13 (i1 : Nat) (x2 : Int32) (x3 : Int32) (M : gM) : Option ((Int32 × Int32 × gM) ⊕ (gM ⊕ (gM ⊕ (gM ⊕ (gM ⊕ (gM ⊕ gM)))))) := (if 480 < x3 then some (.inr (.inr (.inr (.inr (.inr (.inr M)))))) else (X3_readWord 0 M).bind (gU2 (fun r_6 M_7 => (if r_6 < 0 then some (.inr (.inl M_7)) else (if 12 ≤ r_6 then some (.inr (.inl M_7)) else (X3_mayNotBeAgain i1 r_6 x2 M_7).bind (fun r_11 => (if r_11 = 0 then gLet ((x2 ||| (1 <<< (r_6 &&& 31)))) (fun x2_13 => gG (gin r_6 12) (gG (gin r_6 12) ((X3_readNumbers 2 (gSv 1 (Int32.toNatClampNeg r_6)) (gSv 0 (Int32.toNatClampNeg r_6)) M_7).bind (gU2 (fun r_17 M_18 => (if r_17 = 0 then some (.inr (.inr (.inl M_18))) else (if r_6 = 2 then (if (M_18.1 4 0 0) = 3 then some (.inr (.inr (.inr (.inl M_18)))) else X3_readScene_J112 i1 x2_13 x3 r_6 M_18) else X3_readScene_J112 i1 x2_13 x3 r_6 M_18))))))) else some (.inr (.inl M_7)))))))))
theorem t_X3_readScene_L13 {Ψ : gM → Nat → List (Nat × Value) → List Value → Prop} {G : gG5} {nf : Nat} {M : gM} {v0 : Option Value} {M0 : gM} {i1 : Nat} {x2 : Int32} {x3 : Int32} {w : ((Int32 × Int32 × gM) ⊕ (gM ⊕ (gM ⊕ (gM ⊕ (gM ⊕ (gM ⊕ gM))))))} (C : gC Ψ G (gXn nf) cX3_readScene RX3 5 (some .int) 8 189 v0 M0) (h1 : i1 < 2) (hr : X3_readScene_L13 i1 x2 x3 M = some w) (hn : ∀ s, w = .inl s → Ψ s.2.2 13 [(0, .ref (gad 3 0)), (1, .ref (gad 5 i1)), (2, .int (s.1)), (3, .int (s.2.1))] []) (hx : ∀ e, w = .inr e → (gSP (fun e => Ψ e 52 [(0, .ref (gad 3 0))] []) (gSP (fun e => Ψ e 86 [(0, .ref (gad 3 0))] []) (gSP (fun e => Ψ e 107 [(0, .ref (gad 3 0))] []) (gSP (fun e => Ψ e 134 [(0, .ref (gad 3 0)), (1, .ref (gad 5 i1))] []) (gSP (fun e => Ψ e 162 [(0, .ref (gad 3 0))] []) (fun e => Ψ e 173 [(0, .ref (gad 3 0))] [])))))) e) : Ψ M 13 [(0, .ref (gad 3 0)), (1, .ref (gad 5 i1)), (2, .int x2), (3, .int x3)] [] := by
  refine r_iload_n (pc := 13) C dX3_readScene_13 rfl 3 rfl ?_
  refine r_sipush (pc := 14) C dX3_readScene_14 ks480 ?_
  refine r_icmp_gt (pc := 17) (tgt := 173) C dX3_readScene_17 rfl (fun c_4 => ?_) (fun c_4 => ?_)
  · replace hr := (if_pos c_4).symm.trans hr
    refine r_sub C [0] (ls' := [(0, .ref (gad 3 0))]) rfl ?_
    exact hx (.inr (.inr (.inr (.inr (.inr M))))) (gSome hr)
  · replace hr := (if_neg c_4).symm.trans hr
    refine r_aload_n (pc := 20) C dX3_readScene_20 rfl 0 rfl ?_
    refine r_ldcS (pc := 21) C dX3_readScene_21 0 (by decide) rfl rfl ?_
    obtain ⟨⟨r_6, M_7⟩, hc_5, hr⟩ := gBind_some hr
    replace hr := gU2_some hr
    refine c_X3_readWord (pc := 23) C dX3_readScene_23 q608 ⟨Nat.le_of_ble_eq_true rfl, Nat.le_of_ble_eq_true rfl⟩ (by decide) hc_5 (Nat.le_of_ble_eq_true rfl) ?_
    refine r_istore (pc := 26) C dX3_readScene_26 (by decide) rfl (ls' := [(4, .int r_6), (0, .ref (gad 3 0)), (1, .ref (gad 5 i1)), (2, .int x2), (3, .int x3)]) rfl ?_
    refine r_iload (pc := 28) C dX3_readScene_28 0 rfl ?_
    refine r_if_lt (pc := 30) (tgt := 52) C dX3_readScene_30 rfl (fun c_8 => ?_) (fun c_8 => ?_)
    · replace hr := (if_pos c_8).symm.trans hr
      refine r_sub C [1] (ls' := [(0, .ref (gad 3 0))]) rfl ?_
      exact hx (.inl M_7) (gSome hr)
    · replace hr := (if_neg c_8).symm.trans hr
      refine r_iload (pc := 33) C dX3_readScene_33 0 rfl ?_
      refine r_gets (pc := 35) (j := 0) C dX3_readScene_35 (by decide) q668 ?_
      refine r_salen (pc := 38) (n := 12) C dX3_readScene_38 (by decide) rfl ?_
      refine r_icmp_ge (pc := 39) (tgt := 52) C dX3_readScene_39 rfl (fun c_9 => ?_) (fun c_9 => ?_)
      · replace hr := (if_pos c_9).symm.trans hr
        refine r_sub C [1] (ls' := [(0, .ref (gad 3 0))]) rfl ?_
        exact hx (.inl M_7) (gSome hr)
      · replace hr := (if_neg c_9).symm.trans hr
        refine r_aload_n (pc := 42) C dX3_readScene_42 rfl 2 rfl ?_
        refine r_iload (pc := 43) C dX3_readScene_43 0 rfl ?_
        refine r_iload_n (pc := 45) C dX3_readScene_45 rfl 3 rfl ?_
        obtain ⟨r_11, hc_10, hr⟩ := gBind_some hr
        refine c_X3_mayNotBeAgain (pc := 46) C dX3_readScene_46 q670 ⟨Nat.le_of_ble_eq_true rfl, Nat.le_of_ble_eq_true rfl⟩ h1 hc_10 (Nat.le_of_ble_eq_true rfl) ?_
        refine r_if_eq (pc := 49) (tgt := 57) C dX3_readScene_49 rfl (fun c_12 => ?_) (fun c_12 => ?_)
        · replace hr := (if_pos c_12).symm.trans hr
          refine r_iload_n (pc := 57) C dX3_readScene_57 rfl 3 rfl ?_
          refine r_iconst (pc := 58) C dX3_readScene_58 ki1 ?_
          refine r_iload (pc := 59) C dX3_readScene_59 0 rfl ?_
          refine r_ishl (pc := 61) C dX3_readScene_61 ?_
          refine r_ior (pc := 62) C dX3_readScene_62 ?_
          obtain ⟨x2_13, ex2_13, hr⟩ := gLet_some hr
          refine r_istore_n (pc := 63) C dX3_readScene_63 rfl (by decide) ex2_13 (ls' := [(2, .int x2_13), (4, .int r_6), (0, .ref (gad 3 0)), (1, .ref (gad 5 i1)), (3, .int x3)]) rfl ?_
          refine r_aload_n (pc := 64) C dX3_readScene_64 rfl 2 rfl ?_
          refine r_gets (pc := 65) (j := 2) C dX3_readScene_65 (by decide) q673 ?_
          refine r_gets (pc := 68) (j := 1) C dX3_readScene_68 (by decide) q675 ?_
          refine r_iload (pc := 71) C dX3_readScene_71 1 rfl ?_
          obtain ⟨g_14, hr⟩ := gG_some hr
          refine r_saldN (pc := 73) C dX3_readScene_73 (by decide) g_14 rfl ?_
          refine r_gets (pc := 74) (j := 0) C dX3_readScene_74 (by decide) q668 ?_
          refine r_iload (pc := 77) C dX3_readScene_77 1 rfl ?_
          obtain ⟨g_15, hr⟩ := gG_some hr
          refine r_saldN (pc := 79) C dX3_readScene_79 (by decide) g_15 rfl ?_
          obtain ⟨⟨r_17, M_18⟩, hc_16, hr⟩ := gBind_some hr
          replace hr := gU2_some hr
          refine c_X3_readNumbers (pc := 80) C dX3_readScene_80 q677 ⟨Nat.le_of_ble_eq_true rfl, Nat.le_of_ble_eq_true rfl⟩ (by decide) hc_16 (Nat.le_of_ble_eq_true rfl) ?_
          refine r_if_ne (pc := 83) (tgt := 91) C dX3_readScene_83 rfl (fun c_19 => ?_) (fun c_19 => ?_)
          · replace hr := (if_neg c_19).symm.trans hr
            refine r_iload (pc := 91) C dX3_readScene_91 1 rfl ?_
            refine r_iconst (pc := 93) C dX3_readScene_93 ki2 ?_
            refine r_icmp_ne (pc := 94) (tgt := 112) C dX3_readScene_94 rfl (fun c_20 => ?_) (fun c_20 => ?_)
            · replace hr := (if_neg c_20).symm.trans hr
              refine r_sub C [2, 3, 0, 4, 1] (ls' := [(0, .ref (gad 3 0)), (1, .ref (gad 5 i1)), (2, .int x2_13), (3, .int x3), (4, .int r_6)]) rfl ?_
              exact t_X3_readScene_J112 C h1 hr hn hx
            · replace hr := (if_pos c_20).symm.trans hr
              refine r_aload_n (pc := 97) C dX3_readScene_97 rfl 2 rfl ?_
              refine g3_1 (pc := 98) C dX3_readScene_98 q172 (e3 nf) ?_
              refine r_iconst (pc := 101) C dX3_readScene_101 ki0 ?_
              refine r_ialdN (pc := 102) C dX3_readScene_102 rfl (e4 nf) (by decide : gin 0 11 = true) kc0 ?_
              refine r_iconst (pc := 103) C dX3_readScene_103 ki3 ?_
              refine r_icmp_ne (pc := 104) (tgt := 112) C dX3_readScene_104 rfl (fun c_32 => ?_) (fun c_32 => ?_)
              · replace hr := (if_neg c_32).symm.trans hr
                refine r_sub C [2, 3, 0, 4, 1] (ls' := [(0, .ref (gad 3 0)), (1, .ref (gad 5 i1)), (2, .int x2_13), (3, .int x3), (4, .int r_6)]) rfl ?_
                exact t_X3_readScene_J112 C h1 hr hn hx
              · replace hr := (if_pos c_32).symm.trans hr
                refine r_sub C [2] (ls' := [(0, .ref (gad 3 0))]) rfl ?_
                exact hx (.inr (.inr (.inl M_18))) (gSome hr)
          · replace hr := (if_pos c_19).symm.trans hr
            refine r_sub C [2] (ls' := [(0, .ref (gad 3 0))]) rfl ?_
            exact hx (.inr (.inl M_18)) (gSome hr)
        · replace hr := (if_neg c_12).symm.trans hr
          refine r_sub C [1] (ls' := [(0, .ref (gad 3 0))]) rfl ?_
          exact hx (.inl M_7) (gSome hr)
noncomputable def X3_readScene (i1 : Nat) (M : gM) : Option (Int32 × gM) := (X4_reset i1 M).bind (fun M_2 => gLet (wI M_2 3 0 2 0) (fun M_3 => (gIter (fun s => X3_readScene_L13 i1 s.1 s.2.1 s.2.2) FU (0, 0, M_3)).bind (gS2 (fun M_33 => some ((M_33.1 3 0 3), M_33)) (gS2 (fun M_34 => some ((M_34.1 3 0 3), M_34)) (gS2 (fun M_35 => some ((M_35.1 3 0 3), M_35)) (gS2 (fun M_36 => (if (M_36.1 5 i1 5) = 0 then some ((M_36.1 1 0 1), M_36) else some ((-1), M_36))) (gS2 (fun M_38 => some ((M_38.1 3 0 3), M_38)) (fun M_39 => some ((M_39.1 3 0 3), M_39)))))))))
theorem k_X3_readScene {G : gG5} {nf : Nat} {M : gM} {i1 : Nat} (h1 : i1 < 2) {r : Int32} {M1 : gM} (hr : X3_readScene i1 M = some (r, M1)) : gMet G (gXn nf) yX3_readScene cX3_readScene 5 (some .int) 8 189 M [.ref (gad 3 0), .ref (gad 5 i1)] (some (.int r)) M1 := by
  refine gMet_of pl_X3 rfl (Nat.le_of_ble_eq_true rfl) (fun Ψ C CR => ?_)
  show Ψ M 0 [(0, .ref (gad 3 0)), (1, .ref (gad 5 i1))] []
  refine r_aload_n (pc := 0) C dX3_readScene_0 rfl 1 rfl ?_
  obtain ⟨M_2, hc_1, hr⟩ := gBind_some hr
  refine c_X4_reset (pc := 1) C dX3_readScene_1 q606 ⟨Nat.le_of_ble_eq_true rfl, Nat.le_of_ble_eq_true rfl⟩ h1 hc_1 (Nat.le_of_ble_eq_true rfl) ?_
  refine r_aload_n (pc := 4) C dX3_readScene_4 rfl 0 rfl ?_
  refine r_iconst (pc := 5) C dX3_readScene_5 ki0 ?_
  obtain ⟨M_3, eM_3, hr⟩ := gLet_some hr
  refine p3_2 (pc := 6) C dX3_readScene_6 q173 (e3 nf) eM_3 ?_
  refine r_iconst (pc := 9) C dX3_readScene_9 ki0 ?_
  refine r_istore_n (pc := 10) C dX3_readScene_10 rfl (by decide) rfl (ls' := [(2, .int 0), (0, .ref (gad 3 0)), (1, .ref (gad 5 i1))]) rfl ?_
  refine r_iconst (pc := 11) C dX3_readScene_11 ki0 ?_
  refine r_istore_n (pc := 12) C dX3_readScene_12 rfl (by decide) rfl (ls' := [(3, .int 0), (2, .int 0), (0, .ref (gad 3 0)), (1, .ref (gad 5 i1))]) rfl ?_
  refine r_sub C [2, 3, 1, 0] (ls' := [(0, .ref (gad 3 0)), (1, .ref (gad 5 i1)), (2, .int 0), (3, .int 0)]) rfl ?_
  obtain ⟨ev, hit, hr⟩ := gBind_some hr
  refine gIter_V (step := fun s => X3_readScene_L13 i1 s.1 s.2.1 s.2.2) (P := fun s => Ψ s.2.2 13 [(0, .ref (gad 3 0)), (1, .ref (gad 5 i1)), (2, .int (s.1)), (3, .int (s.2.1))] []) (K := (gSP (fun e => Ψ e 52 [(0, .ref (gad 3 0))] []) (gSP (fun e => Ψ e 86 [(0, .ref (gad 3 0))] []) (gSP (fun e => Ψ e 107 [(0, .ref (gad 3 0))] []) (gSP (fun e => Ψ e 134 [(0, .ref (gad 3 0)), (1, .ref (gad 5 i1))] []) (gSP (fun e => Ψ e 162 [(0, .ref (gad 3 0))] []) (fun e => Ψ e 173 [(0, .ref (gad 3 0))] []))))))) (fun s w hs hn hx => t_X3_readScene_L13 C h1 hs hn hx) FU (0, 0, M_3) ev hit ?_
  rcases ev with M_33 | M_34 | M_35 | M_36 | M_38 | M_39
  · replace hr := gS2_l hr
    show Ψ M_33 52 [(0, .ref (gad 3 0))] []
    refine r_aload_n (pc := 52) C dX3_readScene_52 rfl 0 rfl ?_
    refine g3_3 (pc := 53) C dX3_readScene_53 q174 (e3 nf) ?_
    exact r_iret (pc := 56) CR dX3_readScene_56 (congrArg (fun z => some (Value.int z)) (Prod.mk.inj (gSome hr)).1) (Prod.mk.inj (gSome hr)).2
  · replace hr := gS2_r hr
    replace hr := gS2_l hr
    show Ψ M_34 86 [(0, .ref (gad 3 0))] []
    refine r_aload_n (pc := 86) C dX3_readScene_86 rfl 0 rfl ?_
    refine g3_3 (pc := 87) C dX3_readScene_87 q174 (e3 nf) ?_
    exact r_iret (pc := 90) CR dX3_readScene_90 (congrArg (fun z => some (Value.int z)) (Prod.mk.inj (gSome hr)).1) (Prod.mk.inj (gSome hr)).2
  · replace hr := gS2_r hr
    replace hr := gS2_r hr
    replace hr := gS2_l hr
    show Ψ M_35 107 [(0, .ref (gad 3 0))] []
    refine r_aload_n (pc := 107) C dX3_readScene_107 rfl 0 rfl ?_
    refine g3_3 (pc := 108) C dX3_readScene_108 q174 (e3 nf) ?_
    exact r_iret (pc := 111) CR dX3_readScene_111 (congrArg (fun z => some (Value.int z)) (Prod.mk.inj (gSome hr)).1) (Prod.mk.inj (gSome hr)).2
  · replace hr := gS2_r hr
    replace hr := gS2_r hr
    replace hr := gS2_r hr
    replace hr := gS2_l hr
    show Ψ M_36 134 [(0, .ref (gad 3 0)), (1, .ref (gad 5 i1))] []
    refine r_aload_n (pc := 134) C dX3_readScene_134 rfl 1 rfl ?_
    refine g5_5 (pc := 135) C dX3_readScene_135 q215 (e5 (nf := nf) h1) ?_
    refine r_if_ne (pc := 138) (tgt := 151) C dX3_readScene_138 rfl (fun c_37 => ?_) (fun c_37 => ?_)
    · replace hr := (if_neg c_37).symm.trans hr
      refine r_iconst (pc := 151) C dX3_readScene_151 kim1 ?_
      exact r_iret (pc := 152) CR dX3_readScene_152 (congrArg (fun z => some (Value.int z)) (Prod.mk.inj (gSome hr)).1) (Prod.mk.inj (gSome hr)).2
    · replace hr := (if_pos c_37).symm.trans hr
      refine r_aload_n (pc := 141) C dX3_readScene_141 rfl 0 rfl ?_
      refine g3_0 (pc := 142) C dX3_readScene_142 q171 (e3 nf) ?_
      refine g1_1 (pc := 145) C dX3_readScene_145 q158 (e1 nf) ?_
      refine r_goto (pc := 148) (tgt := 152) C dX3_readScene_148 rfl ?_
      exact r_iret (pc := 152) CR dX3_readScene_152 (congrArg (fun z => some (Value.int z)) (Prod.mk.inj (gSome hr)).1) (Prod.mk.inj (gSome hr)).2
  · replace hr := gS2_r hr
    replace hr := gS2_r hr
    replace hr := gS2_r hr
    replace hr := gS2_r hr
    replace hr := gS2_l hr
    show Ψ M_38 162 [(0, .ref (gad 3 0))] []
    refine r_aload_n (pc := 162) C dX3_readScene_162 rfl 0 rfl ?_
    refine g3_3 (pc := 163) C dX3_readScene_163 q174 (e3 nf) ?_
    exact r_iret (pc := 166) CR dX3_readScene_166 (congrArg (fun z => some (Value.int z)) (Prod.mk.inj (gSome hr)).1) (Prod.mk.inj (gSome hr)).2
  · replace hr := gS2_r hr
    replace hr := gS2_r hr
    replace hr := gS2_r hr
    replace hr := gS2_r hr
    replace hr := gS2_r hr
    show Ψ M_39 173 [(0, .ref (gad 3 0))] []
    refine r_aload_n (pc := 173) C dX3_readScene_173 rfl 0 rfl ?_
    refine g3_3 (pc := 174) C dX3_readScene_174 q174 (e3 nf) ?_
    exact r_iret (pc := 177) CR dX3_readScene_177 (congrArg (fun z => some (Value.int z)) (Prod.mk.inj (gSome hr)).1) (Prod.mk.inj (gSome hr)).2
theorem c_X3_readScene {Ψ : gM → Nat → List (Nat × Value) → List Value → Prop} {G : gG5} {nf : Nat} {cc : ByteArray} {own : String} {nL : Nat} {ret : Option FieldType} {fr lo : Nat} {v0 : Option Value} {M0 M : gM} {pc index : Nat} {ls : List (Nat × Value)} {st : List Value} (C : gC Ψ G (gXn nf) cc own nL ret fr lo v0 M0) (d : decode cc pc = .ok (.invokevirtual index, 3)) (hl : Cond.methodLink own index yX3_readScene ∈ gws) (hR : 9 ≤ fr ∧ 213 ≤ lo) {i1 : Nat} (h1 : i1 < 2) {r : Int32} {M1 : gM} (hr : X3_readScene i1 M = some (r, M1)) (hcat : (st.map fun v => v.category).sum ≤ 8) (k : Ψ M1 (pc + 3) ls (.int r :: st)) : Ψ M pc ls (.ref (gad 5 i1) :: .ref (gad 3 0) :: st) := r_callV C [.ref (gad 5 i1)] st d (k_X3_readScene h1 hr) hl q603 q604 q118 q605 hd_X3_readScene hR rfl (by decide) (e3 nf) rfl hcat k
theorem hd_X5_take : yX5_take.cls ≠ "java/lang/invoke/MethodHandle" ∧ yX5_take.cls ≠ "java/lang/invoke/VarHandle" ∧ (parseMethodDescriptor yX5_take.desc).map (fun d => d.parameters.length) = some 3 := by decide +kernel
noncomputable def X5_take_L25 (i0 : Nat) (x3 : Int32) (x4 : Int32) (M : gM) : Option ((Int32 × gM) ⊕ gM) := (if 5 ≤ x4 then some (.inr M) else (if x3 < x4 then gG (gin (((M.1 46 i0 1) * 5) + x4) 60) (gLet (wI M 47 i0 (Int32.toNatClampNeg (((M.1 46 i0 1) * 5) + x4)) 0) (fun M_7 => gLet (x4 + 1) (fun x4_8 => some (.inl (x4_8, M_7))))) else gG (gin (x4 - 1) 11) (gG (gin (((M.1 46 i0 1) * 5) + x4) 60) (gLet (wI M 47 i0 (Int32.toNatClampNeg (((M.1 46 i0 1) * 5) + x4)) (M.1 4 0 (Int32.toNatClampNeg (x4 - 1)))) (fun M_11 => gLet (x4 + 1) (fun x4_12 => some (.inl (x4_12, M_11))))))))
theorem t_X5_take_L25 {Ψ : gM → Nat → List (Nat × Value) → List Value → Prop} {G : gG5} {nf : Nat} {M : gM} {v0 : Option Value} {M0 : gM} {i0 : Nat} {x3 : Int32} {x4 : Int32} {w : ((Int32 × gM) ⊕ gM)} (C : gC Ψ G (gXn nf) cX5_take RX5 5 none 0 0 v0 M0) (h0 : i0 < 5) (hr : X5_take_L25 i0 x3 x4 M = some w) (hn : ∀ s, w = .inl s → Ψ s.2 25 [(0, .ref (gad 46 i0)), (2, .ref (gad 4 0)), (3, .int x3), (4, .int (s.1))] []) (hx : ∀ e, w = .inr e → (fun e => Ψ e 67 [(0, .ref (gad 46 i0))] []) e) : Ψ M 25 [(0, .ref (gad 46 i0)), (2, .ref (gad 4 0)), (3, .int x3), (4, .int x4)] [] := by
  refine r_iload (pc := 25) C dX5_take_25 3 rfl ?_
  refine r_iconst (pc := 27) C dX5_take_27 ki5 ?_
  refine r_icmp_ge (pc := 28) (tgt := 67) C dX5_take_28 rfl (fun c_4 => ?_) (fun c_4 => ?_)
  · replace hr := (if_pos c_4).symm.trans hr
    refine r_sub C [0] (ls' := [(0, .ref (gad 46 i0))]) rfl ?_
    exact hx M (gSome hr)
  · replace hr := (if_neg c_4).symm.trans hr
    refine r_aload_n (pc := 31) C dX5_take_31 rfl 0 rfl ?_
    refine g46_0 (pc := 32) C dX5_take_32 q523 (e46 (nf := nf) h0) ?_
    refine r_aload_n (pc := 35) C dX5_take_35 rfl 0 rfl ?_
    refine g46_1 (pc := 36) C dX5_take_36 q525 (e46 (nf := nf) h0) ?_
    refine r_iconst (pc := 39) C dX5_take_39 ki5 ?_
    refine r_imul (pc := 40) C dX5_take_40 ?_
    refine r_iload (pc := 41) C dX5_take_41 3 rfl ?_
    refine r_iadd (pc := 43) C dX5_take_43 ?_
    refine r_iload (pc := 44) C dX5_take_44 3 rfl ?_
    refine r_iload_n (pc := 46) C dX5_take_46 rfl 2 rfl ?_
    refine r_icmp_gt (pc := 47) (tgt := 59) C dX5_take_47 rfl (fun c_5 => ?_) (fun c_5 => ?_)
    · replace hr := (if_pos c_5).symm.trans hr
      refine r_iconst (pc := 59) C dX5_take_59 ki0 ?_
      obtain ⟨g_6, hr⟩ := gG_some hr
      obtain ⟨M_7, eM_7, hr⟩ := gLet_some hr
      refine r_iastN (pc := 60) C dX5_take_60 rfl (e47 (nf := nf) h0) g_6 rfl eM_7 ?_
      obtain ⟨x4_8, ex4_8, hr⟩ := gLet_some hr
      refine r_iinc (pc := 61) C dX5_take_61 3 rfl rfl (by decide) ex4_8 (ls' := [(4, .int x4_8), (0, .ref (gad 46 i0)), (2, .ref (gad 4 0)), (3, .int x3)]) rfl ?_
      refine r_goto (pc := 64) (tgt := 25) C dX5_take_64 rfl ?_
      refine r_sub C [1, 2, 3, 0] (ls' := [(0, .ref (gad 46 i0)), (2, .ref (gad 4 0)), (3, .int x3), (4, .int x4_8)]) rfl ?_
      exact hn (x4_8, M_7) (gSome hr)
    · replace hr := (if_neg c_5).symm.trans hr
      refine r_aload_n (pc := 50) C dX5_take_50 rfl 1 rfl ?_
      refine r_iload (pc := 51) C dX5_take_51 3 rfl ?_
      refine r_iconst (pc := 53) C dX5_take_53 ki1 ?_
      refine r_isub (pc := 54) C dX5_take_54 ?_
      obtain ⟨g_9, hr⟩ := gG_some hr
      refine r_ialdN (pc := 55) C dX5_take_55 rfl (e4 nf) g_9 rfl ?_
      refine r_goto (pc := 56) (tgt := 60) C dX5_take_56 rfl ?_
      obtain ⟨g_10, hr⟩ := gG_some hr
      obtain ⟨M_11, eM_11, hr⟩ := gLet_some hr
      refine r_iastN (pc := 60) C dX5_take_60 rfl (e47 (nf := nf) h0) g_10 rfl eM_11 ?_
      obtain ⟨x4_12, ex4_12, hr⟩ := gLet_some hr
      refine r_iinc (pc := 61) C dX5_take_61 3 rfl rfl (by decide) ex4_12 (ls' := [(4, .int x4_12), (0, .ref (gad 46 i0)), (2, .ref (gad 4 0)), (3, .int x3)]) rfl ?_
      refine r_goto (pc := 64) (tgt := 25) C dX5_take_64 rfl ?_
      refine r_sub C [1, 2, 3, 0] (ls' := [(0, .ref (gad 46 i0)), (2, .ref (gad 4 0)), (3, .int x3), (4, .int x4_12)]) rfl ?_
      exact hn (x4_12, M_11) (gSome hr)
noncomputable def X5_take (i0 : Nat) (p1 : Int32) (p3 : Int32) (M : gM) : Option gM := (if (M.1 46 i0 1) < 12 then gG (gin ((M.1 46 i0 1) * 5) 60) (gLet (wI M 47 i0 (Int32.toNatClampNeg ((M.1 46 i0 1) * 5)) p1) (fun M_3 => (gIter (fun s => X5_take_L25 i0 p3 s.1 s.2) FU (1, M_3)).bind (fun M_13 => gLet (wI M_13 46 i0 1 ((M_13.1 46 i0 1) + 1)) (fun M_14 => some M_14)))) else some M)
theorem k_X5_take {G : gG5} {nf : Nat} {M : gM} {i0 : Nat} {p1 : Int32} {p3 : Int32} (h0 : i0 < 5) {M1 : gM} (hr : X5_take i0 p1 p3 M = some M1) : gMet G (gXn nf) yX5_take cX5_take 5 none 0 0 M [.ref (gad 46 i0), .int p1, .ref (gad 4 0), .int p3] none M1 := by
  refine gMet_of pl_X5 rfl (Nat.le_of_ble_eq_true rfl) (fun Ψ C CR => ?_)
  show Ψ M 0 [(0, .ref (gad 46 i0)), (1, .int p1), (2, .ref (gad 4 0)), (3, .int p3)] []
  refine r_aload_n (pc := 0) C dX5_take_0 rfl 0 rfl ?_
  refine g46_1 (pc := 1) C dX5_take_1 q525 (e46 (nf := nf) h0) ?_
  refine r_bipush (pc := 4) C dX5_take_4 kb12 ?_
  refine r_icmp_lt (pc := 6) (tgt := 10) C dX5_take_6 rfl (fun c_1 => ?_) (fun c_1 => ?_)
  · replace hr := (if_pos c_1).symm.trans hr
    refine r_aload_n (pc := 10) C dX5_take_10 rfl 0 rfl ?_
    refine g46_0 (pc := 11) C dX5_take_11 q523 (e46 (nf := nf) h0) ?_
    refine r_aload_n (pc := 14) C dX5_take_14 rfl 0 rfl ?_
    refine g46_1 (pc := 15) C dX5_take_15 q525 (e46 (nf := nf) h0) ?_
    refine r_iconst (pc := 18) C dX5_take_18 ki5 ?_
    refine r_imul (pc := 19) C dX5_take_19 ?_
    refine r_iload_n (pc := 20) C dX5_take_20 rfl 1 rfl ?_
    obtain ⟨g_2, hr⟩ := gG_some hr
    obtain ⟨M_3, eM_3, hr⟩ := gLet_some hr
    refine r_iastN (pc := 21) C dX5_take_21 rfl (e47 (nf := nf) h0) g_2 rfl eM_3 ?_
    refine r_iconst (pc := 22) C dX5_take_22 ki1 ?_
    refine r_istore (pc := 23) C dX5_take_23 (by decide) rfl (ls' := [(4, .int 1), (0, .ref (gad 46 i0)), (1, .int p1), (2, .ref (gad 4 0)), (3, .int p3)]) rfl ?_
    refine r_sub C [1, 3, 4, 0] (ls' := [(0, .ref (gad 46 i0)), (2, .ref (gad 4 0)), (3, .int p3), (4, .int 1)]) rfl ?_
    obtain ⟨ev, hit, hr⟩ := gBind_some hr
    refine gIter_V (step := fun s => X5_take_L25 i0 p3 s.1 s.2) (P := fun s => Ψ s.2 25 [(0, .ref (gad 46 i0)), (2, .ref (gad 4 0)), (3, .int p3), (4, .int (s.1))] []) (K := (fun e => Ψ e 67 [(0, .ref (gad 46 i0))] [])) (fun s w hs hn hx => t_X5_take_L25 C h0 hs hn hx) FU (1, M_3) ev hit ?_
    obtain ⟨M_13, rfl⟩ : ∃ z, z = ev := ⟨_, rfl⟩
    show Ψ M_13 67 [(0, .ref (gad 46 i0))] []
    refine r_aload_n (pc := 67) C dX5_take_67 rfl 0 rfl ?_
    refine r_dup (pc := 68) C dX5_take_68 rfl ?_
    refine g46_1 (pc := 69) C dX5_take_69 q525 (e46 (nf := nf) h0) ?_
    refine r_iconst (pc := 72) C dX5_take_72 ki1 ?_
    refine r_iadd (pc := 73) C dX5_take_73 ?_
    obtain ⟨M_14, eM_14, hr⟩ := gLet_some hr
    refine p46_1 (pc := 74) C dX5_take_74 q525 (e46 (nf := nf) h0) eM_14 ?_
    exact r_vret (pc := 77) CR dX5_take_77 rfl (gSome hr)
  · replace hr := (if_neg c_1).symm.trans hr
    exact r_vret (pc := 9) CR dX5_take_9 rfl (gSome hr)
theorem c_X5_take {Ψ : gM → Nat → List (Nat × Value) → List Value → Prop} {G : gG5} {nf : Nat} {cc : ByteArray} {own : String} {nL : Nat} {ret : Option FieldType} {fr lo : Nat} {v0 : Option Value} {M0 M : gM} {pc index : Nat} {ls : List (Nat × Value)} {st : List Value} (C : gC Ψ G (gXn nf) cc own nL ret fr lo v0 M0) (d : decode cc pc = .ok (.invokevirtual index, 3)) (hl : Cond.methodLink own index yX5_take ∈ gws) (hR : 1 ≤ fr ∧ 24 ≤ lo) {i0 : Nat} {p1 : Int32} {p3 : Int32} (h0 : i0 < 5) {M1 : gM} (hr : X5_take i0 p1 p3 M = some M1) (hcat : (st.map fun v => v.category).sum ≤ 8) (k : Ψ M1 (pc + 3) ls (st)) : Ψ M pc ls (.int p3 :: .ref (gad 4 0) :: .int p1 :: .ref (gad 46 i0) :: st) := r_callV C [.int p1, .ref (gad 4 0), .int p3] st d (k_X5_take h0 hr) hl q717 q718 q126 q719 hd_X5_take hR rfl (by decide) (e46 (nf := nf) h0) rfl hcat k
theorem hd_X3_readScript : yX3_readScript.cls ≠ "java/lang/invoke/MethodHandle" ∧ yX3_readScript.cls ≠ "java/lang/invoke/VarHandle" ∧ (parseMethodDescriptor yX3_readScript.desc).map (fun d => d.parameters.length) = some 1 := by decide +kernel
noncomputable def X3_readScript_L12 (i1 : Nat) (x2 : Int32) (M : gM) : Option ((Int32 × gM) ⊕ (gM ⊕ (gM ⊕ (gM ⊕ (gM ⊕ gM))))) := (if 12 ≤ x2 then some (.inr (.inr (.inr (.inr (.inr M))))) else (X3_readWord 1 M).bind (gU2 (fun r_5 M_6 => (if r_5 < 0 then some (.inr (.inl M_6)) else (if r_5 < 9 then gG (gin r_5 9) (gG (gin r_5 9) ((X3_readNumbers 5 (gSv 4 (Int32.toNatClampNeg r_5)) (gSv 3 (Int32.toNatClampNeg r_5)) M_6).bind (gU2 (fun r_12 M_13 => (if r_12 = 0 then some (.inr (.inr (.inl M_13))) else gG (gin r_5 9) ((X5_take i1 r_5 (gSv 3 (Int32.toNatClampNeg r_5)) M_13).bind (fun M_17 => (X3_isAtEnd M_17).bind (gU2 (fun r_19 M_20 => (if r_19 = 0 then (X3_readSign 59 M_20).bind (gU2 (fun r_23 M_24 => (if r_23 = 0 then some (.inr (.inr (.inr (.inr (.inl M_24))))) else gLet (x2 + 1) (fun x2_26 => some (.inl (x2_26, M_24)))))) else some (.inr (.inr (.inr (.inl M_20)))))))))))))) else some (.inr (.inl M_6)))))))
theorem t_X3_readScript_L12 {Ψ : gM → Nat → List (Nat × Value) → List Value → Prop} {G : gG5} {nf : Nat} {M : gM} {v0 : Option Value} {M0 : gM} {i1 : Nat} {x2 : Int32} {w : ((Int32 × gM) ⊕ (gM ⊕ (gM ⊕ (gM ⊕ (gM ⊕ gM)))))} (C : gC Ψ G (gXn nf) cX3_readScript RX3 4 (some .int) 8 189 v0 M0) (h1 : i1 < 5) (hr : X3_readScript_L12 i1 x2 M = some w) (hn : ∀ s, w = .inl s → Ψ s.2 12 [(0, .ref (gad 3 0)), (1, .ref (gad 46 i1)), (2, .int (s.1))] []) (hx : ∀ e, w = .inr e → (gSP (fun e => Ψ e 37 [(0, .ref (gad 3 0))] []) (gSP (fun e => Ψ e 62 [(0, .ref (gad 3 0))] []) (gSP (fun e => Ψ e 88 [] []) (gSP (fun e => Ψ e 99 [(0, .ref (gad 3 0))] []) (fun e => Ψ e 110 [(0, .ref (gad 3 0))] []))))) e) : Ψ M 12 [(0, .ref (gad 3 0)), (1, .ref (gad 46 i1)), (2, .int x2)] [] := by
  refine r_iload_n (pc := 12) C dX3_readScript_12 rfl 2 rfl ?_
  refine r_bipush (pc := 13) C dX3_readScript_13 kb12 ?_
  refine r_icmp_ge (pc := 15) (tgt := 110) C dX3_readScript_15 rfl (fun c_3 => ?_) (fun c_3 => ?_)
  · replace hr := (if_pos c_3).symm.trans hr
    refine r_sub C [0] (ls' := [(0, .ref (gad 3 0))]) rfl ?_
    exact hx (.inr (.inr (.inr (.inr M)))) (gSome hr)
  · replace hr := (if_neg c_3).symm.trans hr
    refine r_aload_n (pc := 18) C dX3_readScript_18 rfl 0 rfl ?_
    refine r_ldcS (pc := 19) C dX3_readScript_19 1 (by decide) rfl rfl ?_
    obtain ⟨⟨r_5, M_6⟩, hc_4, hr⟩ := gBind_some hr
    replace hr := gU2_some hr
    refine c_X3_readWord (pc := 21) C dX3_readScript_21 q608 ⟨Nat.le_of_ble_eq_true rfl, Nat.le_of_ble_eq_true rfl⟩ (by decide) hc_4 (Nat.le_of_ble_eq_true rfl) ?_
    refine r_istore_n (pc := 24) C dX3_readScript_24 rfl (by decide) rfl (ls' := [(3, .int r_5), (0, .ref (gad 3 0)), (1, .ref (gad 46 i1)), (2, .int x2)]) rfl ?_
    refine r_iload_n (pc := 25) C dX3_readScript_25 rfl 0 rfl ?_
    refine r_if_lt (pc := 26) (tgt := 37) C dX3_readScript_26 rfl (fun c_7 => ?_) (fun c_7 => ?_)
    · replace hr := (if_pos c_7).symm.trans hr
      refine r_sub C [1] (ls' := [(0, .ref (gad 3 0))]) rfl ?_
      exact hx (.inl M_6) (gSome hr)
    · replace hr := (if_neg c_7).symm.trans hr
      refine r_iload_n (pc := 29) C dX3_readScript_29 rfl 0 rfl ?_
      refine r_gets (pc := 30) (j := 3) C dX3_readScript_30 (by decide) q710 ?_
      refine r_salen (pc := 33) (n := 9) C dX3_readScript_33 (by decide) rfl ?_
      refine r_icmp_lt (pc := 34) (tgt := 42) C dX3_readScript_34 rfl (fun c_8 => ?_) (fun c_8 => ?_)
      · replace hr := (if_pos c_8).symm.trans hr
        refine r_aload_n (pc := 42) C dX3_readScript_42 rfl 1 rfl ?_
        refine r_gets (pc := 43) (j := 5) C dX3_readScript_43 (by decide) q712 ?_
        refine r_gets (pc := 46) (j := 4) C dX3_readScript_46 (by decide) q714 ?_
        refine r_iload_n (pc := 49) C dX3_readScript_49 rfl 0 rfl ?_
        obtain ⟨g_9, hr⟩ := gG_some hr
        refine r_saldN (pc := 50) C dX3_readScript_50 (by decide) g_9 rfl ?_
        refine r_gets (pc := 51) (j := 3) C dX3_readScript_51 (by decide) q710 ?_
        refine r_iload_n (pc := 54) C dX3_readScript_54 rfl 0 rfl ?_
        obtain ⟨g_10, hr⟩ := gG_some hr
        refine r_saldN (pc := 55) C dX3_readScript_55 (by decide) g_10 rfl ?_
        obtain ⟨⟨r_12, M_13⟩, hc_11, hr⟩ := gBind_some hr
        replace hr := gU2_some hr
        refine c_X3_readNumbers (pc := 56) C dX3_readScript_56 q677 ⟨Nat.le_of_ble_eq_true rfl, Nat.le_of_ble_eq_true rfl⟩ (by decide) hc_11 (Nat.le_of_ble_eq_true rfl) ?_
        refine r_if_ne (pc := 59) (tgt := 67) C dX3_readScript_59 rfl (fun c_14 => ?_) (fun c_14 => ?_)
        · replace hr := (if_neg c_14).symm.trans hr
          refine r_aload_n (pc := 67) C dX3_readScript_67 rfl 2 rfl ?_
          refine r_iload_n (pc := 68) C dX3_readScript_68 rfl 0 rfl ?_
          refine r_aload_n (pc := 69) C dX3_readScript_69 rfl 1 rfl ?_
          refine g3_1 (pc := 70) C dX3_readScript_70 q172 (e3 nf) ?_
          refine r_gets (pc := 73) (j := 3) C dX3_readScript_73 (by decide) q710 ?_
          refine r_iload_n (pc := 76) C dX3_readScript_76 rfl 0 rfl ?_
          obtain ⟨g_15, hr⟩ := gG_some hr
          refine r_saldN (pc := 77) C dX3_readScript_77 (by decide) g_15 rfl ?_
          obtain ⟨M_17, hc_16, hr⟩ := gBind_some hr
          refine c_X5_take (pc := 78) C dX3_readScript_78 q716 ⟨Nat.le_of_ble_eq_true rfl, Nat.le_of_ble_eq_true rfl⟩ h1 hc_16 (Nat.le_of_ble_eq_true rfl) ?_
          refine r_aload_n (pc := 81) C dX3_readScript_81 rfl 1 rfl ?_
          obtain ⟨⟨r_19, M_20⟩, hc_18, hr⟩ := gBind_some hr
          replace hr := gU2_some hr
          refine c_X3_isAtEnd (pc := 82) C dX3_readScript_82 q701 ⟨Nat.le_of_ble_eq_true rfl, Nat.le_of_ble_eq_true rfl⟩ hc_18 (Nat.le_of_ble_eq_true rfl) ?_
          refine r_if_eq (pc := 85) (tgt := 90) C dX3_readScript_85 rfl (fun c_21 => ?_) (fun c_21 => ?_)
          · replace hr := (if_pos c_21).symm.trans hr
            refine r_aload_n (pc := 90) C dX3_readScript_90 rfl 1 rfl ?_
            refine r_bipush (pc := 91) C dX3_readScript_91 kb59 ?_
            obtain ⟨⟨r_23, M_24⟩, hc_22, hr⟩ := gBind_some hr
            replace hr := gU2_some hr
            refine c_X3_readSign (pc := 93) C dX3_readScript_93 q681 ⟨Nat.le_of_ble_eq_true rfl, Nat.le_of_ble_eq_true rfl⟩ hc_22 (Nat.le_of_ble_eq_true rfl) ?_
            refine r_if_ne (pc := 96) (tgt := 104) C dX3_readScript_96 rfl (fun c_25 => ?_) (fun c_25 => ?_)
            · replace hr := (if_neg c_25).symm.trans hr
              obtain ⟨x2_26, ex2_26, hr⟩ := gLet_some hr
              refine r_iinc (pc := 104) C dX3_readScript_104 3 rfl rfl (by decide) ex2_26 (ls' := [(2, .int x2_26), (3, .int r_5), (0, .ref (gad 3 0)), (1, .ref (gad 46 i1))]) rfl ?_
              refine r_goto (pc := 107) (tgt := 12) C dX3_readScript_107 rfl ?_
              refine r_sub C [2, 3, 0] (ls' := [(0, .ref (gad 3 0)), (1, .ref (gad 46 i1)), (2, .int x2_26)]) rfl ?_
              exact hn (x2_26, M_24) (gSome hr)
            · replace hr := (if_pos c_25).symm.trans hr
              refine r_sub C [1] (ls' := [(0, .ref (gad 3 0))]) rfl ?_
              exact hx (.inr (.inr (.inr (.inl M_24)))) (gSome hr)
          · replace hr := (if_neg c_21).symm.trans hr
            refine r_sub C [] (ls' := []) rfl ?_
            exact hx (.inr (.inr (.inl M_20))) (gSome hr)
        · replace hr := (if_pos c_14).symm.trans hr
          refine r_sub C [1] (ls' := [(0, .ref (gad 3 0))]) rfl ?_
          exact hx (.inr (.inl M_13)) (gSome hr)
      · replace hr := (if_neg c_8).symm.trans hr
        refine r_sub C [1] (ls' := [(0, .ref (gad 3 0))]) rfl ?_
        exact hx (.inl M_6) (gSome hr)
noncomputable def X3_readScript (i1 : Nat) (M : gM) : Option (Int32 × gM) := gLet (wI M 46 i1 1 0) (fun M_1 => gLet (wI M_1 3 0 2 0) (fun M_2 => (gIter (fun s => X3_readScript_L12 i1 s.1 s.2) FU (0, M_2)).bind (gS2 (fun M_27 => some ((M_27.1 3 0 3), M_27)) (gS2 (fun M_28 => some ((M_28.1 3 0 3), M_28)) (gS2 (fun M_29 => some ((-1), M_29)) (gS2 (fun M_30 => some ((M_30.1 3 0 3), M_30)) (fun M_31 => some ((M_31.1 3 0 3), M_31))))))))
theorem k_X3_readScript {G : gG5} {nf : Nat} {M : gM} {i1 : Nat} (h1 : i1 < 5) {r : Int32} {M1 : gM} (hr : X3_readScript i1 M = some (r, M1)) : gMet G (gXn nf) yX3_readScript cX3_readScript 4 (some .int) 8 189 M [.ref (gad 3 0), .ref (gad 46 i1)] (some (.int r)) M1 := by
  refine gMet_of pl_X3 rfl (Nat.le_of_ble_eq_true rfl) (fun Ψ C CR => ?_)
  show Ψ M 0 [(0, .ref (gad 3 0)), (1, .ref (gad 46 i1))] []
  refine r_aload_n (pc := 0) C dX3_readScript_0 rfl 1 rfl ?_
  refine r_iconst (pc := 1) C dX3_readScript_1 ki0 ?_
  obtain ⟨M_1, eM_1, hr⟩ := gLet_some hr
  refine p46_1 (pc := 2) C dX3_readScript_2 q526 (e46 (nf := nf) h1) eM_1 ?_
  refine r_aload_n (pc := 5) C dX3_readScript_5 rfl 0 rfl ?_
  refine r_iconst (pc := 6) C dX3_readScript_6 ki0 ?_
  obtain ⟨M_2, eM_2, hr⟩ := gLet_some hr
  refine p3_2 (pc := 7) C dX3_readScript_7 q173 (e3 nf) eM_2 ?_
  refine r_iconst (pc := 10) C dX3_readScript_10 ki0 ?_
  refine r_istore_n (pc := 11) C dX3_readScript_11 rfl (by decide) rfl (ls' := [(2, .int 0), (0, .ref (gad 3 0)), (1, .ref (gad 46 i1))]) rfl ?_
  refine r_sub C [1, 2, 0] (ls' := [(0, .ref (gad 3 0)), (1, .ref (gad 46 i1)), (2, .int 0)]) rfl ?_
  obtain ⟨ev, hit, hr⟩ := gBind_some hr
  refine gIter_V (step := fun s => X3_readScript_L12 i1 s.1 s.2) (P := fun s => Ψ s.2 12 [(0, .ref (gad 3 0)), (1, .ref (gad 46 i1)), (2, .int (s.1))] []) (K := (gSP (fun e => Ψ e 37 [(0, .ref (gad 3 0))] []) (gSP (fun e => Ψ e 62 [(0, .ref (gad 3 0))] []) (gSP (fun e => Ψ e 88 [] []) (gSP (fun e => Ψ e 99 [(0, .ref (gad 3 0))] []) (fun e => Ψ e 110 [(0, .ref (gad 3 0))] [])))))) (fun s w hs hn hx => t_X3_readScript_L12 C h1 hs hn hx) FU (0, M_2) ev hit ?_
  rcases ev with M_27 | M_28 | M_29 | M_30 | M_31
  · replace hr := gS2_l hr
    show Ψ M_27 37 [(0, .ref (gad 3 0))] []
    refine r_aload_n (pc := 37) C dX3_readScript_37 rfl 0 rfl ?_
    refine g3_3 (pc := 38) C dX3_readScript_38 q174 (e3 nf) ?_
    exact r_iret (pc := 41) CR dX3_readScript_41 (congrArg (fun z => some (Value.int z)) (Prod.mk.inj (gSome hr)).1) (Prod.mk.inj (gSome hr)).2
  · replace hr := gS2_r hr
    replace hr := gS2_l hr
    show Ψ M_28 62 [(0, .ref (gad 3 0))] []
    refine r_aload_n (pc := 62) C dX3_readScript_62 rfl 0 rfl ?_
    refine g3_3 (pc := 63) C dX3_readScript_63 q174 (e3 nf) ?_
    exact r_iret (pc := 66) CR dX3_readScript_66 (congrArg (fun z => some (Value.int z)) (Prod.mk.inj (gSome hr)).1) (Prod.mk.inj (gSome hr)).2
  · replace hr := gS2_r hr
    replace hr := gS2_r hr
    replace hr := gS2_l hr
    show Ψ M_29 88 [] []
    refine r_iconst (pc := 88) C dX3_readScript_88 kim1 ?_
    exact r_iret (pc := 89) CR dX3_readScript_89 (congrArg (fun z => some (Value.int z)) (Prod.mk.inj (gSome hr)).1) (Prod.mk.inj (gSome hr)).2
  · replace hr := gS2_r hr
    replace hr := gS2_r hr
    replace hr := gS2_r hr
    replace hr := gS2_l hr
    show Ψ M_30 99 [(0, .ref (gad 3 0))] []
    refine r_aload_n (pc := 99) C dX3_readScript_99 rfl 0 rfl ?_
    refine g3_3 (pc := 100) C dX3_readScript_100 q174 (e3 nf) ?_
    exact r_iret (pc := 103) CR dX3_readScript_103 (congrArg (fun z => some (Value.int z)) (Prod.mk.inj (gSome hr)).1) (Prod.mk.inj (gSome hr)).2
  · replace hr := gS2_r hr
    replace hr := gS2_r hr
    replace hr := gS2_r hr
    replace hr := gS2_r hr
    show Ψ M_31 110 [(0, .ref (gad 3 0))] []
    refine r_aload_n (pc := 110) C dX3_readScript_110 rfl 0 rfl ?_
    refine g3_3 (pc := 111) C dX3_readScript_111 q174 (e3 nf) ?_
    exact r_iret (pc := 114) CR dX3_readScript_114 (congrArg (fun z => some (Value.int z)) (Prod.mk.inj (gSome hr)).1) (Prod.mk.inj (gSome hr)).2
theorem c_X3_readScript {Ψ : gM → Nat → List (Nat × Value) → List Value → Prop} {G : gG5} {nf : Nat} {cc : ByteArray} {own : String} {nL : Nat} {ret : Option FieldType} {fr lo : Nat} {v0 : Option Value} {M0 M : gM} {pc index : Nat} {ls : List (Nat × Value)} {st : List Value} (C : gC Ψ G (gXn nf) cc own nL ret fr lo v0 M0) (d : decode cc pc = .ok (.invokevirtual index, 3)) (hl : Cond.methodLink own index yX3_readScript ∈ gws) (hR : 9 ≤ fr ∧ 212 ≤ lo) {i1 : Nat} (h1 : i1 < 5) {r : Int32} {M1 : gM} (hr : X3_readScript i1 M = some (r, M1)) (hcat : (st.map fun v => v.category).sum ≤ 8) (k : Ψ M1 (pc + 3) ls (.int r :: st)) : Ψ M pc ls (.ref (gad 46 i1) :: .ref (gad 3 0) :: st) := r_callV C [.ref (gad 46 i1)] st d (k_X3_readScript h1 hr) hl q706 q707 q118 q708 hd_X3_readScript hR rfl (by decide) (e3 nf) rfl hcat k
