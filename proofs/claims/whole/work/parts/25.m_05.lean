theorem hd_X7_coveringAt : yX7_coveringAt.cls ≠ "java/lang/invoke/MethodHandle" ∧ yX7_coveringAt.cls ≠ "java/lang/invoke/VarHandle" ∧ (parseMethodDescriptor yX7_coveringAt.desc).map (fun d => d.parameters.length) = some 4 := by decide +kernel
noncomputable def X7_coveringAt_J19 (i1 : Nat) (x3 : Int32) (x4 : Int32) (xs0 : Int32) (M : gM) : Option Int32 := (X9_depthIn i1 x3 x4 M).bind (fun r_5 => (if r_5 < 0 then some (xs0 + 0) else some (xs0 + 1)))
theorem t_X7_coveringAt_J19 {Ψ : gM → Nat → List (Nat × Value) → List Value → Prop} {G : gG5} {nf : Nat} {M : gM} {i1 : Nat} {x3 : Int32} {x4 : Int32} {xs0 : Int32} {r : Int32} (C : gC Ψ G (gXn nf) cX7_coveringAt RX7 7 (some .int) 2 47 (some (.int r)) M) (CR : gR Ψ cX7_coveringAt (some .int) (some (.int r)) M) (h1 : i1 < nf + 3) (hr : X7_coveringAt_J19 i1 x3 x4 xs0 M = some r) : Ψ M 19 [(0, .ref (gad 28 0)), (1, .ref (gad 33 i1)), (3, .int x3), (4, .int x4)] [.int xs0] := by
  refine r_istore (pc := 19) C dX7_coveringAt_19 (by decide) rfl (ls' := [(5, .int xs0), (0, .ref (gad 28 0)), (1, .ref (gad 33 i1)), (3, .int x3), (4, .int x4)]) rfl ?_
  refine r_aload_n (pc := 21) C dX7_coveringAt_21 rfl 1 rfl ?_
  refine g28_2 (pc := 22) C dX7_coveringAt_22 q470 (e28 nf) ?_
  refine r_aload_n (pc := 25) C dX7_coveringAt_25 rfl 2 rfl ?_
  refine r_iload_n (pc := 26) C dX7_coveringAt_26 rfl 3 rfl ?_
  refine r_iload (pc := 27) C dX7_coveringAt_27 4 rfl ?_
  obtain ⟨r_5, hc_4, hr⟩ := gBind_some hr
  refine c_X9_depthIn (pc := 29) C dX7_coveringAt_29 q1210 ⟨Nat.le_of_ble_eq_true rfl, Nat.le_of_ble_eq_true rfl⟩ h1 hc_4 (Nat.le_of_ble_eq_true rfl) ?_
  refine r_if_lt (pc := 32) (tgt := 39) C dX7_coveringAt_32 rfl (fun c_6 => ?_) (fun c_6 => ?_)
  · replace hr := (if_pos c_6).symm.trans hr
    refine r_iconst (pc := 39) C dX7_coveringAt_39 ki0 ?_
    refine r_istore (pc := 40) C dX7_coveringAt_40 (by decide) rfl (ls' := [(6, .int 0), (5, .int xs0), (0, .ref (gad 28 0)), (1, .ref (gad 33 i1)), (3, .int x3), (4, .int x4)]) rfl ?_
    refine r_iload (pc := 42) C dX7_coveringAt_42 1 rfl ?_
    refine r_iload (pc := 44) C dX7_coveringAt_44 0 rfl ?_
    refine r_iadd (pc := 46) C dX7_coveringAt_46 ?_
    exact r_iret (pc := 47) CR dX7_coveringAt_47 (congrArg (fun z => some (Value.int z)) (gSome hr)) rfl
  · replace hr := (if_neg c_6).symm.trans hr
    refine r_iconst (pc := 35) C dX7_coveringAt_35 ki1 ?_
    refine r_goto (pc := 36) (tgt := 40) C dX7_coveringAt_36 rfl ?_
    refine r_istore (pc := 40) C dX7_coveringAt_40 (by decide) rfl (ls' := [(6, .int 1), (5, .int xs0), (0, .ref (gad 28 0)), (1, .ref (gad 33 i1)), (3, .int x3), (4, .int x4)]) rfl ?_
    refine r_iload (pc := 42) C dX7_coveringAt_42 1 rfl ?_
    refine r_iload (pc := 44) C dX7_coveringAt_44 0 rfl ?_
    refine r_iadd (pc := 46) C dX7_coveringAt_46 ?_
    exact r_iret (pc := 47) CR dX7_coveringAt_47 (congrArg (fun z => some (Value.int z)) (gSome hr)) rfl
noncomputable def X7_coveringAt (i1 : Nat) (p2 : Int32) (p3 : Int32) (p4 : Int32) (M : gM) : Option Int32 := (X9_depthIn i1 p2 p4 M).bind (fun r_2 => (if r_2 < 0 then X7_coveringAt_J19 i1 p3 p4 0 M else X7_coveringAt_J19 i1 p3 p4 1 M))
theorem k_X7_coveringAt {G : gG5} {nf : Nat} {M : gM} {i1 : Nat} {p2 : Int32} {p3 : Int32} {p4 : Int32} (h1 : i1 < nf + 3) {r : Int32} (hr : X7_coveringAt i1 p2 p3 p4 M = some r) : gMet G (gXn nf) yX7_coveringAt cX7_coveringAt 7 (some .int) 2 47 M [.ref (gad 28 0), .ref (gad 33 i1), .int p2, .int p3, .int p4] (some (.int r)) M := by
  refine gMet_of pl_X7 rfl (Nat.le_of_ble_eq_true rfl) (fun Ψ C CR => ?_)
  show Ψ M 0 [(0, .ref (gad 28 0)), (1, .ref (gad 33 i1)), (2, .int p2), (3, .int p3), (4, .int p4)] []
  refine r_aload_n (pc := 0) C dX7_coveringAt_0 rfl 0 rfl ?_
  refine g28_2 (pc := 1) C dX7_coveringAt_1 q470 (e28 nf) ?_
  refine r_aload_n (pc := 4) C dX7_coveringAt_4 rfl 1 rfl ?_
  refine r_iload_n (pc := 5) C dX7_coveringAt_5 rfl 2 rfl ?_
  refine r_iload (pc := 6) C dX7_coveringAt_6 4 rfl ?_
  obtain ⟨r_2, hc_1, hr⟩ := gBind_some hr
  refine c_X9_depthIn (pc := 8) C dX7_coveringAt_8 q1210 ⟨Nat.le_of_ble_eq_true rfl, Nat.le_of_ble_eq_true rfl⟩ h1 hc_1 (Nat.le_of_ble_eq_true rfl) ?_
  refine r_if_lt (pc := 11) (tgt := 18) C dX7_coveringAt_11 rfl (fun c_3 => ?_) (fun c_3 => ?_)
  · replace hr := (if_pos c_3).symm.trans hr
    refine r_iconst (pc := 18) C dX7_coveringAt_18 ki0 ?_
    refine r_sub C [0, 1, 3, 4] (ls' := [(0, .ref (gad 28 0)), (1, .ref (gad 33 i1)), (3, .int p3), (4, .int p4)]) rfl ?_
    exact t_X7_coveringAt_J19 C CR h1 hr
  · replace hr := (if_neg c_3).symm.trans hr
    refine r_iconst (pc := 14) C dX7_coveringAt_14 ki1 ?_
    refine r_goto (pc := 15) (tgt := 19) C dX7_coveringAt_15 rfl ?_
    refine r_sub C [0, 1, 3, 4] (ls' := [(0, .ref (gad 28 0)), (1, .ref (gad 33 i1)), (3, .int p3), (4, .int p4)]) rfl ?_
    exact t_X7_coveringAt_J19 C CR h1 hr
theorem c_X7_coveringAt {Ψ : gM → Nat → List (Nat × Value) → List Value → Prop} {G : gG5} {nf : Nat} {cc : ByteArray} {own : String} {nL : Nat} {ret : Option FieldType} {fr lo : Nat} {v0 : Option Value} {M0 M : gM} {pc index : Nat} {ls : List (Nat × Value)} {st : List Value} (C : gC Ψ G (gXn nf) cc own nL ret fr lo v0 M0) (d : decode cc pc = .ok (.invokevirtual index, 3)) (hl : Cond.methodLink own index yX7_coveringAt ∈ gws) (hR : 3 ≤ fr ∧ 73 ≤ lo) {i1 : Nat} {p2 : Int32} {p3 : Int32} {p4 : Int32} (h1 : i1 < nf + 3) {r : Int32} (hr : X7_coveringAt i1 p2 p3 p4 M = some r) (hcat : (st.map fun v => v.category).sum ≤ 8) (k : Ψ M (pc + 3) ls (.int r :: st)) : Ψ M pc ls (.int p4 :: .int p3 :: .int p2 :: .ref (gad 33 i1) :: .ref (gad 28 0) :: st) := r_callV C [.ref (gad 33 i1), .int p2, .int p3, .int p4] st d (k_X7_coveringAt h1 hr) hl q1208 q32 q123 q1209 hd_X7_coveringAt hR rfl (by decide) (e28 nf) rfl hcat k
theorem hd_X7_sharedBy : yX7_sharedBy.cls ≠ "java/lang/invoke/MethodHandle" ∧ yX7_sharedBy.cls ≠ "java/lang/invoke/VarHandle" ∧ (parseMethodDescriptor yX7_sharedBy.desc).map (fun d => d.parameters.length) = some 4 := by decide +kernel
noncomputable def X7_sharedBy_L6 (i1 : Nat) (x2 : Int32) (x3 : Int32) (x4 : Int32) (x5 : Int32) (x6 : Int32) (M : gM) : Option ((Int32 × Int32) ⊕ Int32) := (if (M.1 12 0 6) ≤ x6 then some (.inr x5) else gG (gin x6 256) ((X7_coveringAt i1 x2 x3 (M.1 13 0 (Int32.toNatClampNeg x6)) M).bind (fun r_4 => (if r_4 = x4 then gLet (x5 + 1) (fun x5_7 => gLet (x6 + 1) (fun x6_8 => some (.inl (x5_7, x6_8)))) else gLet (x6 + 1) (fun x6_6 => some (.inl (x5, x6_6)))))))
theorem t_X7_sharedBy_L6 {Ψ : gM → Nat → List (Nat × Value) → List Value → Prop} {G : gG5} {nf : Nat} {M : gM} {v0 : Option Value} {M0 : gM} {i1 : Nat} {x2 : Int32} {x3 : Int32} {x4 : Int32} {x5 : Int32} {x6 : Int32} {w : ((Int32 × Int32) ⊕ Int32)} (C : gC Ψ G (gXn nf) cX7_sharedBy RX7 7 (some .int) 3 73 v0 M0) (h1 : i1 < nf + 3) (hr : X7_sharedBy_L6 i1 x2 x3 x4 x5 x6 M = some w) (hn : ∀ s, w = .inl s → Ψ M 6 [(0, .ref (gad 28 0)), (1, .ref (gad 33 i1)), (2, .int x2), (3, .int x3), (4, .int x4), (5, .int (s.1)), (6, .int (s.2))] []) (hx : ∀ e, w = .inr e → (fun e => Ψ M 49 [(5, .int e)] []) e) : Ψ M 6 [(0, .ref (gad 28 0)), (1, .ref (gad 33 i1)), (2, .int x2), (3, .int x3), (4, .int x4), (5, .int x5), (6, .int x6)] [] := by
  refine r_iload (pc := 6) C dX7_sharedBy_6 6 rfl ?_
  refine r_aload_n (pc := 8) C dX7_sharedBy_8 rfl 0 rfl ?_
  refine g28_1 (pc := 9) C dX7_sharedBy_9 q469 (e28 nf) ?_
  refine g12_6 (pc := 12) C dX7_sharedBy_12 q277 (e12 nf) ?_
  refine r_icmp_ge (pc := 15) (tgt := 49) C dX7_sharedBy_15 rfl (fun c_1 => ?_) (fun c_1 => ?_)
  · replace hr := (if_pos c_1).symm.trans hr
    refine r_sub C [5] (ls' := [(5, .int x5)]) rfl ?_
    exact hx x5 (gSome hr)
  · replace hr := (if_neg c_1).symm.trans hr
    refine r_aload_n (pc := 18) C dX7_sharedBy_18 rfl 0 rfl ?_
    refine r_aload_n (pc := 19) C dX7_sharedBy_19 rfl 1 rfl ?_
    refine r_iload_n (pc := 20) C dX7_sharedBy_20 rfl 2 rfl ?_
    refine r_iload_n (pc := 21) C dX7_sharedBy_21 rfl 3 rfl ?_
    refine r_aload_n (pc := 22) C dX7_sharedBy_22 rfl 0 rfl ?_
    refine g28_1 (pc := 23) C dX7_sharedBy_23 q469 (e28 nf) ?_
    refine g12_7 (pc := 26) C dX7_sharedBy_26 q281 (e12 nf) ?_
    refine r_iload (pc := 29) C dX7_sharedBy_29 6 rfl ?_
    obtain ⟨g_2, hr⟩ := gG_some hr
    refine r_ialdN (pc := 31) C dX7_sharedBy_31 rfl (e13 nf) g_2 rfl ?_
    obtain ⟨r_4, hc_3, hr⟩ := gBind_some hr
    refine c_X7_coveringAt (pc := 32) C dX7_sharedBy_32 q1206 ⟨Nat.le_of_ble_eq_true rfl, Nat.le_of_ble_eq_true rfl⟩ h1 hc_3 (Nat.le_of_ble_eq_true rfl) ?_
    refine r_iload (pc := 35) C dX7_sharedBy_35 4 rfl ?_
    refine r_icmp_ne (pc := 37) (tgt := 43) C dX7_sharedBy_37 rfl (fun c_5 => ?_) (fun c_5 => ?_)
    · replace hr := (if_neg c_5).symm.trans hr
      obtain ⟨x6_6, ex6_6, hr⟩ := gLet_some hr
      refine r_iinc (pc := 43) C dX7_sharedBy_43 6 rfl rfl (by decide) ex6_6 (ls' := [(6, .int x6_6), (0, .ref (gad 28 0)), (1, .ref (gad 33 i1)), (2, .int x2), (3, .int x3), (4, .int x4), (5, .int x5)]) rfl ?_
      refine r_goto (pc := 46) (tgt := 6) C dX7_sharedBy_46 rfl ?_
      refine r_sub C [1, 2, 3, 4, 5, 6, 0] (ls' := [(0, .ref (gad 28 0)), (1, .ref (gad 33 i1)), (2, .int x2), (3, .int x3), (4, .int x4), (5, .int x5), (6, .int x6_6)]) rfl ?_
      exact hn (x5, x6_6) (gSome hr)
    · replace hr := (if_pos c_5).symm.trans hr
      obtain ⟨x5_7, ex5_7, hr⟩ := gLet_some hr
      refine r_iinc (pc := 40) C dX7_sharedBy_40 5 rfl rfl (by decide) ex5_7 (ls' := [(5, .int x5_7), (0, .ref (gad 28 0)), (1, .ref (gad 33 i1)), (2, .int x2), (3, .int x3), (4, .int x4), (6, .int x6)]) rfl ?_
      obtain ⟨x6_8, ex6_8, hr⟩ := gLet_some hr
      refine r_iinc (pc := 43) C dX7_sharedBy_43 6 rfl rfl (by decide) ex6_8 (ls' := [(6, .int x6_8), (5, .int x5_7), (0, .ref (gad 28 0)), (1, .ref (gad 33 i1)), (2, .int x2), (3, .int x3), (4, .int x4)]) rfl ?_
      refine r_goto (pc := 46) (tgt := 6) C dX7_sharedBy_46 rfl ?_
      refine r_sub C [2, 3, 4, 5, 6, 1, 0] (ls' := [(0, .ref (gad 28 0)), (1, .ref (gad 33 i1)), (2, .int x2), (3, .int x3), (4, .int x4), (5, .int x5_7), (6, .int x6_8)]) rfl ?_
      exact hn (x5_7, x6_8) (gSome hr)
noncomputable def X7_sharedBy (i1 : Nat) (p2 : Int32) (p3 : Int32) (p4 : Int32) (M : gM) : Option Int32 := (gIter (fun s => X7_sharedBy_L6 i1 p2 p3 p4 s.1 s.2 M) FU (0, 0)).bind (fun x5_9 => some x5_9)
theorem k_X7_sharedBy {G : gG5} {nf : Nat} {M : gM} {i1 : Nat} {p2 : Int32} {p3 : Int32} {p4 : Int32} (h1 : i1 < nf + 3) {r : Int32} (hr : X7_sharedBy i1 p2 p3 p4 M = some r) : gMet G (gXn nf) yX7_sharedBy cX7_sharedBy 7 (some .int) 3 73 M [.ref (gad 28 0), .ref (gad 33 i1), .int p2, .int p3, .int p4] (some (.int r)) M := by
  refine gMet_of pl_X7 rfl (Nat.le_of_ble_eq_true rfl) (fun Ψ C CR => ?_)
  show Ψ M 0 [(0, .ref (gad 28 0)), (1, .ref (gad 33 i1)), (2, .int p2), (3, .int p3), (4, .int p4)] []
  refine r_iconst (pc := 0) C dX7_sharedBy_0 ki0 ?_
  refine r_istore (pc := 1) C dX7_sharedBy_1 (by decide) rfl (ls' := [(5, .int 0), (0, .ref (gad 28 0)), (1, .ref (gad 33 i1)), (2, .int p2), (3, .int p3), (4, .int p4)]) rfl ?_
  refine r_iconst (pc := 3) C dX7_sharedBy_3 ki0 ?_
  refine r_istore (pc := 4) C dX7_sharedBy_4 (by decide) rfl (ls' := [(6, .int 0), (5, .int 0), (0, .ref (gad 28 0)), (1, .ref (gad 33 i1)), (2, .int p2), (3, .int p3), (4, .int p4)]) rfl ?_
  refine r_sub C [2, 3, 4, 5, 6, 1, 0] (ls' := [(0, .ref (gad 28 0)), (1, .ref (gad 33 i1)), (2, .int p2), (3, .int p3), (4, .int p4), (5, .int 0), (6, .int 0)]) rfl ?_
  obtain ⟨ev, hit, hr⟩ := gBind_some hr
  refine gIter_V (step := fun s => X7_sharedBy_L6 i1 p2 p3 p4 s.1 s.2 M) (P := fun s => Ψ M 6 [(0, .ref (gad 28 0)), (1, .ref (gad 33 i1)), (2, .int p2), (3, .int p3), (4, .int p4), (5, .int (s.1)), (6, .int (s.2))] []) (K := (fun e => Ψ M 49 [(5, .int e)] [])) (fun s w hs hn hx => t_X7_sharedBy_L6 C h1 hs hn hx) FU (0, 0) ev hit ?_
  obtain ⟨x5_9, rfl⟩ : ∃ z, z = ev := ⟨_, rfl⟩
  show Ψ M 49 [(5, .int x5_9)] []
  refine r_iload (pc := 49) C dX7_sharedBy_49 0 rfl ?_
  exact r_iret (pc := 51) CR dX7_sharedBy_51 (congrArg (fun z => some (Value.int z)) (gSome hr)) rfl
theorem c_X7_sharedBy {Ψ : gM → Nat → List (Nat × Value) → List Value → Prop} {G : gG5} {nf : Nat} {cc : ByteArray} {own : String} {nL : Nat} {ret : Option FieldType} {fr lo : Nat} {v0 : Option Value} {M0 M : gM} {pc index : Nat} {ls : List (Nat × Value)} {st : List Value} (C : gC Ψ G (gXn nf) cc own nL ret fr lo v0 M0) (d : decode cc pc = .ok (.invokevirtual index, 3)) (hl : Cond.methodLink own index yX7_sharedBy ∈ gws) (hR : 4 ≤ fr ∧ 99 ≤ lo) {i1 : Nat} {p2 : Int32} {p3 : Int32} {p4 : Int32} (h1 : i1 < nf + 3) {r : Int32} (hr : X7_sharedBy i1 p2 p3 p4 M = some r) (hcat : (st.map fun v => v.category).sum ≤ 8) (k : Ψ M (pc + 3) ls (.int r :: st)) : Ψ M pc ls (.int p4 :: .int p3 :: .int p2 :: .ref (gad 33 i1) :: .ref (gad 28 0) :: st) := r_callV C [.ref (gad 33 i1), .int p2, .int p3, .int p4] st d (k_X7_sharedBy h1 hr) hl q1203 q1204 q123 q1205 hd_X7_sharedBy hR rfl (by decide) (e28 nf) rfl hcat k
theorem hd_X10_shared : yX10_shared.cls ≠ "java/lang/invoke/MethodHandle" ∧ yX10_shared.cls ≠ "java/lang/invoke/VarHandle" ∧ (parseMethodDescriptor yX10_shared.desc).map (fun d => d.parameters.length) = some 3 := by decide +kernel
noncomputable def X10_shared (p1 : Int32) (p2 : Int32) (p3 : Int32) (M : gM) : Option Int32 := (X4_has 1 p1 M).bind (fun r_2 => (if r_2 = 0 then some (-1) else (X4_has 1 p2 M).bind (fun r_5 => (if r_5 = 0 then some (-1) else (if p3 < 0 then some (-1) else (if p3 ≤ 1 then (X7_sharedBy 0 p1 p2 (2 - p3) M).bind (fun r_10 => some r_10) else some (-1)))))))
theorem k_X10_shared {G : gG5} {nf : Nat} {M : gM} {p1 : Int32} {p2 : Int32} {p3 : Int32} {r : Int32} (hr : X10_shared p1 p2 p3 M = some r) : gMet G (gXn nf) yX10_shared cX10_shared 4 (some .int) 4 99 M [.ref (gad 0 0), .int p1, .int p2, .int p3] (some (.int r)) M := by
  refine gMet_of pl_X10 rfl (Nat.le_of_ble_eq_true rfl) (fun Ψ C CR => ?_)
  show Ψ M 0 [(0, .ref (gad 0 0)), (1, .int p1), (2, .int p2), (3, .int p3)] []
  refine r_aload_n (pc := 0) C dX10_shared_0 rfl 0 rfl ?_
  refine g0_3 (pc := 1) C dX10_shared_1 q537 (e0 nf) ?_
  refine r_iload_n (pc := 4) C dX10_shared_4 rfl 1 rfl ?_
  obtain ⟨r_2, hc_1, hr⟩ := gBind_some hr
  refine c_X4_has (pc := 5) C dX10_shared_5 q867 ⟨Nat.le_of_ble_eq_true rfl, Nat.le_of_ble_eq_true rfl⟩ (by decide) hc_1 (Nat.le_of_ble_eq_true rfl) ?_
  refine r_if_eq (pc := 8) (tgt := 31) C dX10_shared_8 rfl (fun c_3 => ?_) (fun c_3 => ?_)
  · replace hr := (if_pos c_3).symm.trans hr
    refine r_iconst (pc := 31) C dX10_shared_31 kim1 ?_
    exact r_iret (pc := 32) CR dX10_shared_32 (congrArg (fun z => some (Value.int z)) (gSome hr)) rfl
  · replace hr := (if_neg c_3).symm.trans hr
    refine r_aload_n (pc := 11) C dX10_shared_11 rfl 0 rfl ?_
    refine g0_3 (pc := 12) C dX10_shared_12 q537 (e0 nf) ?_
    refine r_iload_n (pc := 15) C dX10_shared_15 rfl 2 rfl ?_
    obtain ⟨r_5, hc_4, hr⟩ := gBind_some hr
    refine c_X4_has (pc := 16) C dX10_shared_16 q867 ⟨Nat.le_of_ble_eq_true rfl, Nat.le_of_ble_eq_true rfl⟩ (by decide) hc_4 (Nat.le_of_ble_eq_true rfl) ?_
    refine r_if_eq (pc := 19) (tgt := 31) C dX10_shared_19 rfl (fun c_6 => ?_) (fun c_6 => ?_)
    · replace hr := (if_pos c_6).symm.trans hr
      refine r_iconst (pc := 31) C dX10_shared_31 kim1 ?_
      exact r_iret (pc := 32) CR dX10_shared_32 (congrArg (fun z => some (Value.int z)) (gSome hr)) rfl
    · replace hr := (if_neg c_6).symm.trans hr
      refine r_iload_n (pc := 22) C dX10_shared_22 rfl 3 rfl ?_
      refine r_if_lt (pc := 23) (tgt := 31) C dX10_shared_23 rfl (fun c_7 => ?_) (fun c_7 => ?_)
      · replace hr := (if_pos c_7).symm.trans hr
        refine r_iconst (pc := 31) C dX10_shared_31 kim1 ?_
        exact r_iret (pc := 32) CR dX10_shared_32 (congrArg (fun z => some (Value.int z)) (gSome hr)) rfl
      · replace hr := (if_neg c_7).symm.trans hr
        refine r_iload_n (pc := 26) C dX10_shared_26 rfl 3 rfl ?_
        refine r_iconst (pc := 27) C dX10_shared_27 ki1 ?_
        refine r_icmp_le (pc := 28) (tgt := 33) C dX10_shared_28 rfl (fun c_8 => ?_) (fun c_8 => ?_)
        · replace hr := (if_pos c_8).symm.trans hr
          refine r_aload_n (pc := 33) C dX10_shared_33 rfl 0 rfl ?_
          refine g0_6 (pc := 34) C dX10_shared_34 q540 (e0 nf) ?_
          refine r_aload_n (pc := 37) C dX10_shared_37 rfl 0 rfl ?_
          refine g0_7 (pc := 38) C dX10_shared_38 q541 (e0 nf) ?_
          refine r_iload_n (pc := 41) C dX10_shared_41 rfl 1 rfl ?_
          refine r_iload_n (pc := 42) C dX10_shared_42 rfl 2 rfl ?_
          refine r_iconst (pc := 43) C dX10_shared_43 ki2 ?_
          refine r_iload_n (pc := 44) C dX10_shared_44 rfl 3 rfl ?_
          refine r_isub (pc := 45) C dX10_shared_45 ?_
          obtain ⟨r_10, hc_9, hr⟩ := gBind_some hr
          refine c_X7_sharedBy (pc := 46) C dX10_shared_46 q1202 ⟨Nat.le_of_ble_eq_true rfl, Nat.le_of_ble_eq_true rfl⟩ (gf0 nf) hc_9 (Nat.le_of_ble_eq_true rfl) ?_
          exact r_iret (pc := 49) CR dX10_shared_49 (congrArg (fun z => some (Value.int z)) (gSome hr)) rfl
        · replace hr := (if_neg c_8).symm.trans hr
          refine r_iconst (pc := 31) C dX10_shared_31 kim1 ?_
          exact r_iret (pc := 32) CR dX10_shared_32 (congrArg (fun z => some (Value.int z)) (gSome hr)) rfl
theorem c_X10_shared {Ψ : gM → Nat → List (Nat × Value) → List Value → Prop} {G : gG5} {nf : Nat} {cc : ByteArray} {own : String} {nL : Nat} {ret : Option FieldType} {fr lo : Nat} {v0 : Option Value} {M0 M : gM} {pc index : Nat} {ls : List (Nat × Value)} {st : List Value} (C : gC Ψ G (gXn nf) cc own nL ret fr lo v0 M0) (d : decode cc pc = .ok (.invokevirtual index, 3)) (hl : Cond.methodLink own index yX10_shared ∈ gws) (hR : 5 ≤ fr ∧ 122 ≤ lo) {p1 : Int32} {p2 : Int32} {p3 : Int32} {r : Int32} (hr : X10_shared p1 p2 p3 M = some r) (hcat : (st.map fun v => v.category).sum ≤ 8) (k : Ψ M (pc + 3) ls (.int r :: st)) : Ψ M pc ls (.int p3 :: .int p2 :: .int p1 :: .ref (gad 0 0) :: st) := r_callV C [.int p1, .int p2, .int p3] st d (k_X10_shared hr) hl q1199 q1200 q116 q1201 hd_X10_shared hR rfl (by decide) (e0 nf) rfl hcat k
theorem hd_X6_isOnEdge : yX6_isOnEdge.cls ≠ "java/lang/invoke/MethodHandle" ∧ yX6_isOnEdge.cls ≠ "java/lang/invoke/VarHandle" ∧ (parseMethodDescriptor yX6_isOnEdge.desc).map (fun d => d.parameters.length) = some 2 := by decide +kernel
noncomputable def X6_isOnEdge_L5 (i0 : Nat) (x1 : Int32) (x2 : Int32) (x3 : Int32) (x4 : Int32) (M : gM) : Option ((Int32 × Int32) ⊕ (Unit ⊕ Int32)) := (if 3 ≤ x4 then some (.inr (.inr x3)) else (X6_sumAt i0 x4 x1 x2 M).bind (fun r_3 => (if 0 ≤ r_3 then (if x3 = 0 then (if r_3 = 0 then gLet (x4 + 1) (fun x4_9 => some (.inl (1, x4_9))) else gLet (x4 + 1) (fun x4_8 => some (.inl (0, x4_8)))) else gLet (x4 + 1) (fun x4_6 => some (.inl (1, x4_6)))) else some (.inr (.inl ())))))
theorem t_X6_isOnEdge_L5 {Ψ : gM → Nat → List (Nat × Value) → List Value → Prop} {G : gG5} {nf : Nat} {M : gM} {v0 : Option Value} {M0 : gM} {i0 : Nat} {x1 : Int32} {x2 : Int32} {x3 : Int32} {x4 : Int32} {w : ((Int32 × Int32) ⊕ (Unit ⊕ Int32))} (C : gC Ψ G (gXn nf) cX6_isOnEdge RX6 6 (some .boolean) 1 23 v0 M0) (h0 : i0 < 10) (hr : X6_isOnEdge_L5 i0 x1 x2 x3 x4 M = some w) (hn : ∀ s, w = .inl s → Ψ M 5 [(0, .ref (gad 19 i0)), (1, .int x1), (2, .int x2), (3, .int (s.1)), (4, .int (s.2))] []) (hx : ∀ e, w = .inr e → (gSP (fun e => Ψ M 26 [] []) (fun e => Ψ M 49 [(3, .int e)] [])) e) : Ψ M 5 [(0, .ref (gad 19 i0)), (1, .int x1), (2, .int x2), (3, .int x3), (4, .int x4)] [] := by
  refine r_iload (pc := 5) C dX6_isOnEdge_5 4 rfl ?_
  refine r_iconst (pc := 7) C dX6_isOnEdge_7 ki3 ?_
  refine r_icmp_ge (pc := 8) (tgt := 49) C dX6_isOnEdge_8 rfl (fun c_1 => ?_) (fun c_1 => ?_)
  · replace hr := (if_pos c_1).symm.trans hr
    refine r_sub C [3] (ls' := [(3, .int x3)]) rfl ?_
    exact hx (.inr x3) (gSome hr)
  · replace hr := (if_neg c_1).symm.trans hr
    refine r_aload_n (pc := 11) C dX6_isOnEdge_11 rfl 0 rfl ?_
    refine r_iload (pc := 12) C dX6_isOnEdge_12 4 rfl ?_
    refine r_iload_n (pc := 14) C dX6_isOnEdge_14 rfl 1 rfl ?_
    refine r_iload_n (pc := 15) C dX6_isOnEdge_15 rfl 2 rfl ?_
    obtain ⟨r_3, hc_2, hr⟩ := gBind_some hr
    refine c_X6_sumAt (pc := 16) C dX6_isOnEdge_16 q847 ⟨Nat.le_of_ble_eq_true rfl, Nat.le_of_ble_eq_true rfl⟩ h0 hc_2 (Nat.le_of_ble_eq_true rfl) ?_
    refine r_istore (pc := 19) C dX6_isOnEdge_19 (by decide) rfl (ls' := [(5, .int r_3), (0, .ref (gad 19 i0)), (1, .int x1), (2, .int x2), (3, .int x3), (4, .int x4)]) rfl ?_
    refine r_iload (pc := 21) C dX6_isOnEdge_21 0 rfl ?_
    refine r_if_ge (pc := 23) (tgt := 28) C dX6_isOnEdge_23 rfl (fun c_4 => ?_) (fun c_4 => ?_)
    · replace hr := (if_pos c_4).symm.trans hr
      refine r_iload_n (pc := 28) C dX6_isOnEdge_28 rfl 4 rfl ?_
      refine r_if_ne (pc := 29) (tgt := 37) C dX6_isOnEdge_29 rfl (fun c_5 => ?_) (fun c_5 => ?_)
      · replace hr := (if_neg c_5).symm.trans hr
        refine r_iconst (pc := 37) C dX6_isOnEdge_37 ki1 ?_
        refine r_goto (pc := 38) (tgt := 42) C dX6_isOnEdge_38 rfl ?_
        refine r_istore_n (pc := 42) C dX6_isOnEdge_42 rfl (by decide) rfl (ls' := [(3, .int 1), (5, .int r_3), (0, .ref (gad 19 i0)), (1, .int x1), (2, .int x2), (4, .int x4)]) rfl ?_
        obtain ⟨x4_6, ex4_6, hr⟩ := gLet_some hr
        refine r_iinc (pc := 43) C dX6_isOnEdge_43 5 rfl rfl (by decide) ex4_6 (ls' := [(4, .int x4_6), (3, .int 1), (5, .int r_3), (0, .ref (gad 19 i0)), (1, .int x1), (2, .int x2)]) rfl ?_
        refine r_goto (pc := 46) (tgt := 5) C dX6_isOnEdge_46 rfl ?_
        refine r_sub C [3, 4, 5, 1, 0] (ls' := [(0, .ref (gad 19 i0)), (1, .int x1), (2, .int x2), (3, .int 1), (4, .int x4_6)]) rfl ?_
        exact hn (1, x4_6) (gSome hr)
      · replace hr := (if_pos c_5).symm.trans hr
        refine r_iload (pc := 32) C dX6_isOnEdge_32 0 rfl ?_
        refine r_if_ne (pc := 34) (tgt := 41) C dX6_isOnEdge_34 rfl (fun c_7 => ?_) (fun c_7 => ?_)
        · replace hr := (if_neg c_7).symm.trans hr
          refine r_iconst (pc := 41) C dX6_isOnEdge_41 ki0 ?_
          refine r_istore_n (pc := 42) C dX6_isOnEdge_42 rfl (by decide) rfl (ls' := [(3, .int 0), (5, .int r_3), (0, .ref (gad 19 i0)), (1, .int x1), (2, .int x2), (4, .int x4)]) rfl ?_
          obtain ⟨x4_8, ex4_8, hr⟩ := gLet_some hr
          refine r_iinc (pc := 43) C dX6_isOnEdge_43 5 rfl rfl (by decide) ex4_8 (ls' := [(4, .int x4_8), (3, .int 0), (5, .int r_3), (0, .ref (gad 19 i0)), (1, .int x1), (2, .int x2)]) rfl ?_
          refine r_goto (pc := 46) (tgt := 5) C dX6_isOnEdge_46 rfl ?_
          refine r_sub C [3, 4, 5, 1, 0] (ls' := [(0, .ref (gad 19 i0)), (1, .int x1), (2, .int x2), (3, .int 0), (4, .int x4_8)]) rfl ?_
          exact hn (0, x4_8) (gSome hr)
        · replace hr := (if_pos c_7).symm.trans hr
          refine r_iconst (pc := 37) C dX6_isOnEdge_37 ki1 ?_
          refine r_goto (pc := 38) (tgt := 42) C dX6_isOnEdge_38 rfl ?_
          refine r_istore_n (pc := 42) C dX6_isOnEdge_42 rfl (by decide) rfl (ls' := [(3, .int 1), (5, .int r_3), (0, .ref (gad 19 i0)), (1, .int x1), (2, .int x2), (4, .int x4)]) rfl ?_
          obtain ⟨x4_9, ex4_9, hr⟩ := gLet_some hr
          refine r_iinc (pc := 43) C dX6_isOnEdge_43 5 rfl rfl (by decide) ex4_9 (ls' := [(4, .int x4_9), (3, .int 1), (5, .int r_3), (0, .ref (gad 19 i0)), (1, .int x1), (2, .int x2)]) rfl ?_
          refine r_goto (pc := 46) (tgt := 5) C dX6_isOnEdge_46 rfl ?_
          refine r_sub C [3, 4, 5, 1, 0] (ls' := [(0, .ref (gad 19 i0)), (1, .int x1), (2, .int x2), (3, .int 1), (4, .int x4_9)]) rfl ?_
          exact hn (1, x4_9) (gSome hr)
    · replace hr := (if_neg c_4).symm.trans hr
      refine r_sub C [] (ls' := []) rfl ?_
      exact hx (.inl ()) (gSome hr)
noncomputable def X6_isOnEdge (i0 : Nat) (p1 : Int32) (p2 : Int32) (M : gM) : Option Int32 := (gIter (fun s => X6_isOnEdge_L5 i0 p1 p2 s.1 s.2 M) FU (0, 0)).bind (gS2 (fun _ => some 0) (fun x3_10 => gG (gb x3_10) (some x3_10)))
theorem k_X6_isOnEdge {G : gG5} {nf : Nat} {M : gM} {i0 : Nat} {p1 : Int32} {p2 : Int32} (h0 : i0 < 10) {r : Int32} (hr : X6_isOnEdge i0 p1 p2 M = some r) : gMet G (gXn nf) yX6_isOnEdge cX6_isOnEdge 6 (some .boolean) 1 23 M [.ref (gad 19 i0), .int p1, .int p2] (some (.int r)) M := by
  refine gMet_of pl_X6 rfl (Nat.le_of_ble_eq_true rfl) (fun Ψ C CR => ?_)
  show Ψ M 0 [(0, .ref (gad 19 i0)), (1, .int p1), (2, .int p2)] []
  refine r_iconst (pc := 0) C dX6_isOnEdge_0 ki0 ?_
  refine r_istore_n (pc := 1) C dX6_isOnEdge_1 rfl (by decide) rfl (ls' := [(3, .int 0), (0, .ref (gad 19 i0)), (1, .int p1), (2, .int p2)]) rfl ?_
  refine r_iconst (pc := 2) C dX6_isOnEdge_2 ki0 ?_
  refine r_istore (pc := 3) C dX6_isOnEdge_3 (by decide) rfl (ls' := [(4, .int 0), (3, .int 0), (0, .ref (gad 19 i0)), (1, .int p1), (2, .int p2)]) rfl ?_
  refine r_sub C [2, 3, 4, 1, 0] (ls' := [(0, .ref (gad 19 i0)), (1, .int p1), (2, .int p2), (3, .int 0), (4, .int 0)]) rfl ?_
  obtain ⟨ev, hit, hr⟩ := gBind_some hr
  refine gIter_V (step := fun s => X6_isOnEdge_L5 i0 p1 p2 s.1 s.2 M) (P := fun s => Ψ M 5 [(0, .ref (gad 19 i0)), (1, .int p1), (2, .int p2), (3, .int (s.1)), (4, .int (s.2))] []) (K := (gSP (fun e => Ψ M 26 [] []) (fun e => Ψ M 49 [(3, .int e)] []))) (fun s w hs hn hx => t_X6_isOnEdge_L5 C h0 hs hn hx) FU (0, 0) ev hit ?_
  rcases ev with _ | x3_10
  · replace hr := gS2_l hr
    show Ψ M 26 [] []
    refine r_iconst (pc := 26) C dX6_isOnEdge_26 ki0 ?_
    exact r_zret (pc := 27) CR dX6_isOnEdge_27 rfl (congrArg (fun z => some (Value.int z)) (gSome hr)) rfl
  · replace hr := gS2_r hr
    show Ψ M 49 [(3, .int x3_10)] []
    refine r_iload_n (pc := 49) C dX6_isOnEdge_49 rfl 0 rfl ?_
    obtain ⟨g_11, hr⟩ := gG_some hr
    exact r_zret (pc := 50) CR dX6_isOnEdge_50 (gb_nar g_11) (congrArg (fun z => some (Value.int z)) (gSome hr)) rfl
theorem c_X6_isOnEdge {Ψ : gM → Nat → List (Nat × Value) → List Value → Prop} {G : gG5} {nf : Nat} {cc : ByteArray} {own : String} {nL : Nat} {ret : Option FieldType} {fr lo : Nat} {v0 : Option Value} {M0 M : gM} {pc index : Nat} {ls : List (Nat × Value)} {st : List Value} (C : gC Ψ G (gXn nf) cc own nL ret fr lo v0 M0) (d : decode cc pc = .ok (.invokevirtual index, 3)) (hl : Cond.methodLink own index yX6_isOnEdge ∈ gws) (hR : 2 ≤ fr ∧ 48 ≤ lo) {i0 : Nat} {p1 : Int32} {p2 : Int32} (h0 : i0 < 10) {r : Int32} (hr : X6_isOnEdge i0 p1 p2 M = some r) (hcat : (st.map fun v => v.category).sum ≤ 8) (k : Ψ M (pc + 3) ls (.int r :: st)) : Ψ M pc ls (.int p2 :: .int p1 :: .ref (gad 19 i0) :: st) := r_callV C [.int p1, .int p2] st d (k_X6_isOnEdge h0 hr) hl q1221 q1222 q122 q1223 hd_X6_isOnEdge hR rfl (by decide) (e19 (nf := nf) h0) rfl hcat k
theorem hd_X7_onBorder : yX7_onBorder.cls ≠ "java/lang/invoke/MethodHandle" ∧ yX7_onBorder.cls ≠ "java/lang/invoke/VarHandle" ∧ (parseMethodDescriptor yX7_onBorder.desc).map (fun d => d.parameters.length) = some 4 := by decide +kernel
noncomputable def X7_onBorder_J123 (i1 : Nat) (x2 : Int32) (x3 : Int32) (x4 : Int32) (x5 : Int32) (x6 : Int32) (x7 : Int32) (xs0 : Int32) (M : gM) : Option ((Int32 × Int32) ⊕ Int32) := (if xs0 = 0 then gLet (x6 + 1) (fun x6_19 => some (.inl (x5, x6_19))) else (if x4 = 0 then gLet (x5 + 1) (fun x5_21 => gLet (x6 + 1) (fun x6_22 => some (.inl (x5_21, x6_22)))) else (X7_coveringAt i1 x2 x3 x7 M).bind (fun r_24 => (if r_24 = x4 then gLet (x5 + 1) (fun x5_27 => gLet (x6 + 1) (fun x6_28 => some (.inl (x5_27, x6_28)))) else gLet (x6 + 1) (fun x6_26 => some (.inl (x5, x6_26)))))))
theorem t_X7_onBorder_J123 {Ψ : gM → Nat → List (Nat × Value) → List Value → Prop} {G : gG5} {nf : Nat} {M : gM} {v0 : Option Value} {M0 : gM} {i1 : Nat} {x2 : Int32} {x3 : Int32} {x4 : Int32} {x5 : Int32} {x6 : Int32} {x7 : Int32} {xs0 : Int32} {w : ((Int32 × Int32) ⊕ Int32)} (C : gC Ψ G (gXn nf) cX7_onBorder RX7 11 (some .int) 3 73 v0 M0) (h1 : i1 < nf + 3) (hr : X7_onBorder_J123 i1 x2 x3 x4 x5 x6 x7 xs0 M = some w) (hn : ∀ s, w = .inl s → Ψ M 32 [(0, .ref (gad 28 0)), (1, .ref (gad 33 i1)), (2, .int x2), (3, .int x3), (4, .int x4), (5, .int (s.1)), (6, .int (s.2))] []) (hx : ∀ e, w = .inr e → (fun e => Ψ M 158 [(5, .int e)] []) e) : Ψ M 123 [(0, .ref (gad 28 0)), (1, .ref (gad 33 i1)), (2, .int x2), (3, .int x3), (4, .int x4), (5, .int x5), (6, .int x6), (7, .int x7)] [.int xs0] := by
  refine r_istore (pc := 123) C dX7_onBorder_123 (by decide) rfl (ls' := [(10, .int xs0), (0, .ref (gad 28 0)), (1, .ref (gad 33 i1)), (2, .int x2), (3, .int x3), (4, .int x4), (5, .int x5), (6, .int x6), (7, .int x7)]) rfl ?_
  refine r_iload (pc := 125) C dX7_onBorder_125 0 rfl ?_
  refine r_if_eq (pc := 127) (tgt := 152) C dX7_onBorder_127 rfl (fun c_18 => ?_) (fun c_18 => ?_)
  · replace hr := (if_pos c_18).symm.trans hr
    obtain ⟨x6_19, ex6_19, hr⟩ := gLet_some hr
    refine r_iinc (pc := 152) C dX7_onBorder_152 7 rfl rfl (by decide) ex6_19 (ls' := [(6, .int x6_19), (10, .int xs0), (0, .ref (gad 28 0)), (1, .ref (gad 33 i1)), (2, .int x2), (3, .int x3), (4, .int x4), (5, .int x5), (7, .int x7)]) rfl ?_
    refine r_goto (pc := 155) (tgt := 32) C dX7_onBorder_155 rfl ?_
    refine r_sub C [2, 3, 4, 5, 6, 7, 0] (ls' := [(0, .ref (gad 28 0)), (1, .ref (gad 33 i1)), (2, .int x2), (3, .int x3), (4, .int x4), (5, .int x5), (6, .int x6_19)]) rfl ?_
    exact hn (x5, x6_19) (gSome hr)
  · replace hr := (if_neg c_18).symm.trans hr
    refine r_iload (pc := 130) C dX7_onBorder_130 5 rfl ?_
    refine r_if_eq (pc := 132) (tgt := 149) C dX7_onBorder_132 rfl (fun c_20 => ?_) (fun c_20 => ?_)
    · replace hr := (if_pos c_20).symm.trans hr
      obtain ⟨x5_21, ex5_21, hr⟩ := gLet_some hr
      refine r_iinc (pc := 149) C dX7_onBorder_149 6 rfl rfl (by decide) ex5_21 (ls' := [(5, .int x5_21), (10, .int xs0), (0, .ref (gad 28 0)), (1, .ref (gad 33 i1)), (2, .int x2), (3, .int x3), (4, .int x4), (6, .int x6), (7, .int x7)]) rfl ?_
      obtain ⟨x6_22, ex6_22, hr⟩ := gLet_some hr
      refine r_iinc (pc := 152) C dX7_onBorder_152 7 rfl rfl (by decide) ex6_22 (ls' := [(6, .int x6_22), (5, .int x5_21), (10, .int xs0), (0, .ref (gad 28 0)), (1, .ref (gad 33 i1)), (2, .int x2), (3, .int x3), (4, .int x4), (7, .int x7)]) rfl ?_
      refine r_goto (pc := 155) (tgt := 32) C dX7_onBorder_155 rfl ?_
      refine r_sub C [3, 4, 5, 6, 7, 1, 0] (ls' := [(0, .ref (gad 28 0)), (1, .ref (gad 33 i1)), (2, .int x2), (3, .int x3), (4, .int x4), (5, .int x5_21), (6, .int x6_22)]) rfl ?_
      exact hn (x5_21, x6_22) (gSome hr)
    · replace hr := (if_neg c_20).symm.trans hr
      refine r_aload_n (pc := 135) C dX7_onBorder_135 rfl 1 rfl ?_
      refine r_aload_n (pc := 136) C dX7_onBorder_136 rfl 2 rfl ?_
      refine r_iload_n (pc := 137) C dX7_onBorder_137 rfl 3 rfl ?_
      refine r_iload_n (pc := 138) C dX7_onBorder_138 rfl 4 rfl ?_
      refine r_iload (pc := 139) C dX7_onBorder_139 8 rfl ?_
      obtain ⟨r_24, hc_23, hr⟩ := gBind_some hr
      refine c_X7_coveringAt (pc := 141) C dX7_onBorder_141 q1206 ⟨Nat.le_of_ble_eq_true rfl, Nat.le_of_ble_eq_true rfl⟩ h1 hc_23 (Nat.le_of_ble_eq_true rfl) ?_
      refine r_iload (pc := 144) C dX7_onBorder_144 5 rfl ?_
      refine r_icmp_ne (pc := 146) (tgt := 152) C dX7_onBorder_146 rfl (fun c_25 => ?_) (fun c_25 => ?_)
      · replace hr := (if_neg c_25).symm.trans hr
        obtain ⟨x6_26, ex6_26, hr⟩ := gLet_some hr
        refine r_iinc (pc := 152) C dX7_onBorder_152 7 rfl rfl (by decide) ex6_26 (ls' := [(6, .int x6_26), (10, .int xs0), (0, .ref (gad 28 0)), (1, .ref (gad 33 i1)), (2, .int x2), (3, .int x3), (4, .int x4), (5, .int x5), (7, .int x7)]) rfl ?_
        refine r_goto (pc := 155) (tgt := 32) C dX7_onBorder_155 rfl ?_
        refine r_sub C [2, 3, 4, 5, 6, 7, 0] (ls' := [(0, .ref (gad 28 0)), (1, .ref (gad 33 i1)), (2, .int x2), (3, .int x3), (4, .int x4), (5, .int x5), (6, .int x6_26)]) rfl ?_
        exact hn (x5, x6_26) (gSome hr)
      · replace hr := (if_pos c_25).symm.trans hr
        obtain ⟨x5_27, ex5_27, hr⟩ := gLet_some hr
        refine r_iinc (pc := 149) C dX7_onBorder_149 6 rfl rfl (by decide) ex5_27 (ls' := [(5, .int x5_27), (10, .int xs0), (0, .ref (gad 28 0)), (1, .ref (gad 33 i1)), (2, .int x2), (3, .int x3), (4, .int x4), (6, .int x6), (7, .int x7)]) rfl ?_
        obtain ⟨x6_28, ex6_28, hr⟩ := gLet_some hr
        refine r_iinc (pc := 152) C dX7_onBorder_152 7 rfl rfl (by decide) ex6_28 (ls' := [(6, .int x6_28), (5, .int x5_27), (10, .int xs0), (0, .ref (gad 28 0)), (1, .ref (gad 33 i1)), (2, .int x2), (3, .int x3), (4, .int x4), (7, .int x7)]) rfl ?_
        refine r_goto (pc := 155) (tgt := 32) C dX7_onBorder_155 rfl ?_
        refine r_sub C [3, 4, 5, 6, 7, 1, 0] (ls' := [(0, .ref (gad 28 0)), (1, .ref (gad 33 i1)), (2, .int x2), (3, .int x3), (4, .int x4), (5, .int x5_27), (6, .int x6_28)]) rfl ?_
        exact hn (x5_27, x6_28) (gSome hr)
noncomputable def X7_onBorder_J122 (i1 : Nat) (x2 : Int32) (x3 : Int32) (x4 : Int32) (x5 : Int32) (x6 : Int32) (x7 : Int32) (M : gM) : Option ((Int32 × Int32) ⊕ Int32) := X7_onBorder_J123 i1 x2 x3 x4 x5 x6 x7 0 M
theorem t_X7_onBorder_J122 {Ψ : gM → Nat → List (Nat × Value) → List Value → Prop} {G : gG5} {nf : Nat} {M : gM} {v0 : Option Value} {M0 : gM} {i1 : Nat} {x2 : Int32} {x3 : Int32} {x4 : Int32} {x5 : Int32} {x6 : Int32} {x7 : Int32} {w : ((Int32 × Int32) ⊕ Int32)} (C : gC Ψ G (gXn nf) cX7_onBorder RX7 11 (some .int) 3 73 v0 M0) (h1 : i1 < nf + 3) (hr : X7_onBorder_J122 i1 x2 x3 x4 x5 x6 x7 M = some w) (hn : ∀ s, w = .inl s → Ψ M 32 [(0, .ref (gad 28 0)), (1, .ref (gad 33 i1)), (2, .int x2), (3, .int x3), (4, .int x4), (5, .int (s.1)), (6, .int (s.2))] []) (hx : ∀ e, w = .inr e → (fun e => Ψ M 158 [(5, .int e)] []) e) : Ψ M 122 [(0, .ref (gad 28 0)), (1, .ref (gad 33 i1)), (2, .int x2), (3, .int x3), (4, .int x4), (5, .int x5), (6, .int x6), (7, .int x7)] [] := by
  refine r_iconst (pc := 122) C dX7_onBorder_122 ki0 ?_
  exact t_X7_onBorder_J123 C h1 hr hn hx
noncomputable def X7_onBorder_L32 (i1 : Nat) (x2 : Int32) (x3 : Int32) (x4 : Int32) (x5 : Int32) (x6 : Int32) (M : gM) : Option ((Int32 × Int32) ⊕ Int32) := (if (M.1 12 0 6) ≤ x6 then some (.inr x5) else gG (gin x6 256) (gLet ((M.1 13 0 (Int32.toNatClampNeg x6))) (fun x7_9 => gG (gin x7_9 256) (gLet ((M.1 15 0 (Int32.toNatClampNeg x7_9))) (fun x8_11 => gG (gin x7_9 256) (gLet ((M.1 16 0 (Int32.toNatClampNeg x7_9))) (fun x9_13 => gG (gin x2 10) ((X6_isOnEdge (Int32.toNatClampNeg x2) x8_11 x9_13 M).bind (fun r_16 => (if r_16 = 0 then X7_onBorder_J122 i1 x2 x3 x4 x5 x6 x7_9 M else gG (gin x3 10) ((X6_isOnEdge (Int32.toNatClampNeg x3) x8_11 x9_13 M).bind (fun r_31 => (if r_31 = 0 then X7_onBorder_J122 i1 x2 x3 x4 x5 x6 x7_9 M else X7_onBorder_J123 i1 x2 x3 x4 x5 x6 x7_9 1 M)))))))))))))
theorem t_X7_onBorder_L32 {Ψ : gM → Nat → List (Nat × Value) → List Value → Prop} {G : gG5} {nf : Nat} {M : gM} {v0 : Option Value} {M0 : gM} {i1 : Nat} {x2 : Int32} {x3 : Int32} {x4 : Int32} {x5 : Int32} {x6 : Int32} {w : ((Int32 × Int32) ⊕ Int32)} (C : gC Ψ G (gXn nf) cX7_onBorder RX7 11 (some .int) 3 73 v0 M0) (h1 : i1 < nf + 3) (hr : X7_onBorder_L32 i1 x2 x3 x4 x5 x6 M = some w) (hn : ∀ s, w = .inl s → Ψ M 32 [(0, .ref (gad 28 0)), (1, .ref (gad 33 i1)), (2, .int x2), (3, .int x3), (4, .int x4), (5, .int (s.1)), (6, .int (s.2))] []) (hx : ∀ e, w = .inr e → (fun e => Ψ M 158 [(5, .int e)] []) e) : Ψ M 32 [(0, .ref (gad 28 0)), (1, .ref (gad 33 i1)), (2, .int x2), (3, .int x3), (4, .int x4), (5, .int x5), (6, .int x6)] [] := by
  refine r_iload (pc := 32) C dX7_onBorder_32 6 rfl ?_
  refine r_aload_n (pc := 34) C dX7_onBorder_34 rfl 0 rfl ?_
  refine g28_1 (pc := 35) C dX7_onBorder_35 q469 (e28 nf) ?_
  refine g12_6 (pc := 38) C dX7_onBorder_38 q277 (e12 nf) ?_
  refine r_icmp_ge (pc := 41) (tgt := 158) C dX7_onBorder_41 rfl (fun c_7 => ?_) (fun c_7 => ?_)
  · replace hr := (if_pos c_7).symm.trans hr
    refine r_sub C [5] (ls' := [(5, .int x5)]) rfl ?_
    exact hx x5 (gSome hr)
  · replace hr := (if_neg c_7).symm.trans hr
    refine r_aload_n (pc := 44) C dX7_onBorder_44 rfl 0 rfl ?_
    refine g28_1 (pc := 45) C dX7_onBorder_45 q469 (e28 nf) ?_
    refine g12_7 (pc := 48) C dX7_onBorder_48 q281 (e12 nf) ?_
    refine r_iload (pc := 51) C dX7_onBorder_51 6 rfl ?_
    obtain ⟨g_8, hr⟩ := gG_some hr
    refine r_ialdN (pc := 53) C dX7_onBorder_53 rfl (e13 nf) g_8 rfl ?_
    obtain ⟨x7_9, ex7_9, hr⟩ := gLet_some hr
    refine r_istore (pc := 54) C dX7_onBorder_54 (by decide) ex7_9 (ls' := [(7, .int x7_9), (0, .ref (gad 28 0)), (1, .ref (gad 33 i1)), (2, .int x2), (3, .int x3), (4, .int x4), (5, .int x5), (6, .int x6)]) rfl ?_
    refine r_aload_n (pc := 56) C dX7_onBorder_56 rfl 1 rfl ?_
    refine g28_1 (pc := 57) C dX7_onBorder_57 q469 (e28 nf) ?_
    refine g12_9 (pc := 60) C dX7_onBorder_60 q287 (e12 nf) ?_
    refine r_iload (pc := 63) C dX7_onBorder_63 0 rfl ?_
    obtain ⟨g_10, hr⟩ := gG_some hr
    refine r_ialdN (pc := 65) C dX7_onBorder_65 rfl (e15 nf) g_10 rfl ?_
    obtain ⟨x8_11, ex8_11, hr⟩ := gLet_some hr
    refine r_istore (pc := 66) C dX7_onBorder_66 (by decide) ex8_11 (ls' := [(8, .int x8_11), (7, .int x7_9), (0, .ref (gad 28 0)), (1, .ref (gad 33 i1)), (2, .int x2), (3, .int x3), (4, .int x4), (5, .int x5), (6, .int x6)]) rfl ?_
    refine r_aload_n (pc := 68) C dX7_onBorder_68 rfl 2 rfl ?_
    refine g28_1 (pc := 69) C dX7_onBorder_69 q469 (e28 nf) ?_
    refine g12_10 (pc := 72) C dX7_onBorder_72 q290 (e12 nf) ?_
    refine r_iload (pc := 75) C dX7_onBorder_75 1 rfl ?_
    obtain ⟨g_12, hr⟩ := gG_some hr
    refine r_ialdN (pc := 77) C dX7_onBorder_77 rfl (e16 nf) g_12 rfl ?_
    obtain ⟨x9_13, ex9_13, hr⟩ := gLet_some hr
    refine r_istore (pc := 78) C dX7_onBorder_78 (by decide) ex9_13 (ls' := [(9, .int x9_13), (8, .int x8_11), (7, .int x7_9), (0, .ref (gad 28 0)), (1, .ref (gad 33 i1)), (2, .int x2), (3, .int x3), (4, .int x4), (5, .int x5), (6, .int x6)]) rfl ?_
    refine r_aload_n (pc := 80) C dX7_onBorder_80 rfl 3 rfl ?_
    refine g28_2 (pc := 81) C dX7_onBorder_81 q470 (e28 nf) ?_
    refine g17_2 (pc := 84) C dX7_onBorder_84 q380 (e17 nf) ?_
    refine r_iload_n (pc := 87) C dX7_onBorder_87 rfl 5 rfl ?_
    obtain ⟨g_14, hr⟩ := gG_some hr
    refine a18 (pc := 88) C dX7_onBorder_88 g_14 ?_
    refine r_iload (pc := 89) C dX7_onBorder_89 1 rfl ?_
    refine r_iload (pc := 91) C dX7_onBorder_91 0 rfl ?_
    obtain ⟨r_16, hc_15, hr⟩ := gBind_some hr
    refine c_X6_isOnEdge (pc := 93) C dX7_onBorder_93 q1220 ⟨Nat.le_of_ble_eq_true rfl, Nat.le_of_ble_eq_true rfl⟩ (gin_lt g_14) hc_15 (Nat.le_of_ble_eq_true rfl) ?_
    refine r_if_eq (pc := 96) (tgt := 122) C dX7_onBorder_96 rfl (fun c_17 => ?_) (fun c_17 => ?_)
    · replace hr := (if_pos c_17).symm.trans hr
      refine r_sub C [3, 4, 5, 6, 7, 8, 9, 2] (ls' := [(0, .ref (gad 28 0)), (1, .ref (gad 33 i1)), (2, .int x2), (3, .int x3), (4, .int x4), (5, .int x5), (6, .int x6), (7, .int x7_9)]) rfl ?_
      exact t_X7_onBorder_J122 C h1 hr hn hx
    · replace hr := (if_neg c_17).symm.trans hr
      refine r_aload_n (pc := 99) C dX7_onBorder_99 rfl 3 rfl ?_
      refine g28_2 (pc := 100) C dX7_onBorder_100 q470 (e28 nf) ?_
      refine g17_2 (pc := 103) C dX7_onBorder_103 q380 (e17 nf) ?_
      refine r_iload_n (pc := 106) C dX7_onBorder_106 rfl 6 rfl ?_
      obtain ⟨g_29, hr⟩ := gG_some hr
      refine a18 (pc := 107) C dX7_onBorder_107 g_29 ?_
      refine r_iload (pc := 108) C dX7_onBorder_108 1 rfl ?_
      refine r_iload (pc := 110) C dX7_onBorder_110 0 rfl ?_
      obtain ⟨r_31, hc_30, hr⟩ := gBind_some hr
      refine c_X6_isOnEdge (pc := 112) C dX7_onBorder_112 q1220 ⟨Nat.le_of_ble_eq_true rfl, Nat.le_of_ble_eq_true rfl⟩ (gin_lt g_29) hc_30 (Nat.le_of_ble_eq_true rfl) ?_
      refine r_if_eq (pc := 115) (tgt := 122) C dX7_onBorder_115 rfl (fun c_32 => ?_) (fun c_32 => ?_)
      · replace hr := (if_pos c_32).symm.trans hr
        refine r_sub C [3, 4, 5, 6, 7, 8, 9, 2] (ls' := [(0, .ref (gad 28 0)), (1, .ref (gad 33 i1)), (2, .int x2), (3, .int x3), (4, .int x4), (5, .int x5), (6, .int x6), (7, .int x7_9)]) rfl ?_
        exact t_X7_onBorder_J122 C h1 hr hn hx
      · replace hr := (if_neg c_32).symm.trans hr
        refine r_iconst (pc := 118) C dX7_onBorder_118 ki1 ?_
        refine r_goto (pc := 119) (tgt := 123) C dX7_onBorder_119 rfl ?_
        refine r_sub C [3, 4, 5, 6, 7, 8, 9, 2] (ls' := [(0, .ref (gad 28 0)), (1, .ref (gad 33 i1)), (2, .int x2), (3, .int x3), (4, .int x4), (5, .int x5), (6, .int x6), (7, .int x7_9)]) rfl ?_
        exact t_X7_onBorder_J123 C h1 hr hn hx
noncomputable def X7_onBorder (i1 : Nat) (p2 : Int32) (p3 : Int32) (p4 : Int32) (M : gM) : Option Int32 := (X9_isCulled i1 p2 M).bind (fun r_2 => (if r_2 = 0 then (X9_isCulled i1 p3 M).bind (fun r_5 => (if r_5 = 0 then (gIter (fun s => X7_onBorder_L32 i1 p2 p3 p4 s.1 s.2 M) FU (0, 0)).bind (fun x5_33 => some x5_33) else some 0)) else some 0))
theorem k_X7_onBorder {G : gG5} {nf : Nat} {M : gM} {i1 : Nat} {p2 : Int32} {p3 : Int32} {p4 : Int32} (h1 : i1 < nf + 3) {r : Int32} (hr : X7_onBorder i1 p2 p3 p4 M = some r) : gMet G (gXn nf) yX7_onBorder cX7_onBorder 11 (some .int) 3 73 M [.ref (gad 28 0), .ref (gad 33 i1), .int p2, .int p3, .int p4] (some (.int r)) M := by
  refine gMet_of pl_X7 rfl (Nat.le_of_ble_eq_true rfl) (fun Ψ C CR => ?_)
  show Ψ M 0 [(0, .ref (gad 28 0)), (1, .ref (gad 33 i1)), (2, .int p2), (3, .int p3), (4, .int p4)] []
  refine r_aload_n (pc := 0) C dX7_onBorder_0 rfl 0 rfl ?_
  refine g28_2 (pc := 1) C dX7_onBorder_1 q470 (e28 nf) ?_
  refine r_aload_n (pc := 4) C dX7_onBorder_4 rfl 1 rfl ?_
  refine r_iload_n (pc := 5) C dX7_onBorder_5 rfl 2 rfl ?_
  obtain ⟨r_2, hc_1, hr⟩ := gBind_some hr
  refine c_X9_isCulled (pc := 6) C dX7_onBorder_6 q1219 ⟨Nat.le_of_ble_eq_true rfl, Nat.le_of_ble_eq_true rfl⟩ h1 hc_1 (Nat.le_of_ble_eq_true rfl) ?_
  refine r_if_ne (pc := 9) (tgt := 24) C dX7_onBorder_9 rfl (fun c_3 => ?_) (fun c_3 => ?_)
  · replace hr := (if_neg c_3).symm.trans hr
    refine r_iconst (pc := 24) C dX7_onBorder_24 ki0 ?_
    exact r_iret (pc := 25) CR dX7_onBorder_25 (congrArg (fun z => some (Value.int z)) (gSome hr)) rfl
  · replace hr := (if_pos c_3).symm.trans hr
    refine r_aload_n (pc := 12) C dX7_onBorder_12 rfl 0 rfl ?_
    refine g28_2 (pc := 13) C dX7_onBorder_13 q470 (e28 nf) ?_
    refine r_aload_n (pc := 16) C dX7_onBorder_16 rfl 1 rfl ?_
    refine r_iload_n (pc := 17) C dX7_onBorder_17 rfl 3 rfl ?_
    obtain ⟨r_5, hc_4, hr⟩ := gBind_some hr
    refine c_X9_isCulled (pc := 18) C dX7_onBorder_18 q1219 ⟨Nat.le_of_ble_eq_true rfl, Nat.le_of_ble_eq_true rfl⟩ h1 hc_4 (Nat.le_of_ble_eq_true rfl) ?_
    refine r_if_eq (pc := 21) (tgt := 26) C dX7_onBorder_21 rfl (fun c_6 => ?_) (fun c_6 => ?_)
    · replace hr := (if_pos c_6).symm.trans hr
      refine r_iconst (pc := 26) C dX7_onBorder_26 ki0 ?_
      refine r_istore (pc := 27) C dX7_onBorder_27 (by decide) rfl (ls' := [(5, .int 0), (0, .ref (gad 28 0)), (1, .ref (gad 33 i1)), (2, .int p2), (3, .int p3), (4, .int p4)]) rfl ?_
      refine r_iconst (pc := 29) C dX7_onBorder_29 ki0 ?_
      refine r_istore (pc := 30) C dX7_onBorder_30 (by decide) rfl (ls' := [(6, .int 0), (5, .int 0), (0, .ref (gad 28 0)), (1, .ref (gad 33 i1)), (2, .int p2), (3, .int p3), (4, .int p4)]) rfl ?_
      refine r_sub C [2, 3, 4, 5, 6, 1, 0] (ls' := [(0, .ref (gad 28 0)), (1, .ref (gad 33 i1)), (2, .int p2), (3, .int p3), (4, .int p4), (5, .int 0), (6, .int 0)]) rfl ?_
      obtain ⟨ev, hit, hr⟩ := gBind_some hr
      refine gIter_V (step := fun s => X7_onBorder_L32 i1 p2 p3 p4 s.1 s.2 M) (P := fun s => Ψ M 32 [(0, .ref (gad 28 0)), (1, .ref (gad 33 i1)), (2, .int p2), (3, .int p3), (4, .int p4), (5, .int (s.1)), (6, .int (s.2))] []) (K := (fun e => Ψ M 158 [(5, .int e)] [])) (fun s w hs hn hx => t_X7_onBorder_L32 C h1 hs hn hx) FU (0, 0) ev hit ?_
      obtain ⟨x5_33, rfl⟩ : ∃ z, z = ev := ⟨_, rfl⟩
      show Ψ M 158 [(5, .int x5_33)] []
      refine r_iload (pc := 158) C dX7_onBorder_158 0 rfl ?_
      exact r_iret (pc := 160) CR dX7_onBorder_160 (congrArg (fun z => some (Value.int z)) (gSome hr)) rfl
    · replace hr := (if_neg c_6).symm.trans hr
      refine r_iconst (pc := 24) C dX7_onBorder_24 ki0 ?_
      exact r_iret (pc := 25) CR dX7_onBorder_25 (congrArg (fun z => some (Value.int z)) (gSome hr)) rfl
theorem c_X7_onBorder {Ψ : gM → Nat → List (Nat × Value) → List Value → Prop} {G : gG5} {nf : Nat} {cc : ByteArray} {own : String} {nL : Nat} {ret : Option FieldType} {fr lo : Nat} {v0 : Option Value} {M0 M : gM} {pc index : Nat} {ls : List (Nat × Value)} {st : List Value} (C : gC Ψ G (gXn nf) cc own nL ret fr lo v0 M0) (d : decode cc pc = .ok (.invokevirtual index, 3)) (hl : Cond.methodLink own index yX7_onBorder ∈ gws) (hR : 4 ≤ fr ∧ 103 ≤ lo) {i1 : Nat} {p2 : Int32} {p3 : Int32} {p4 : Int32} (h1 : i1 < nf + 3) {r : Int32} (hr : X7_onBorder i1 p2 p3 p4 M = some r) (hcat : (st.map fun v => v.category).sum ≤ 8) (k : Ψ M (pc + 3) ls (.int r :: st)) : Ψ M pc ls (.int p4 :: .int p3 :: .int p2 :: .ref (gad 33 i1) :: .ref (gad 28 0) :: st) := r_callV C [.ref (gad 33 i1), .int p2, .int p3, .int p4] st d (k_X7_onBorder h1 hr) hl q1216 q1217 q123 q1218 hd_X7_onBorder hR rfl (by decide) (e28 nf) rfl hcat k
theorem hd_X10_border : yX10_border.cls ≠ "java/lang/invoke/MethodHandle" ∧ yX10_border.cls ≠ "java/lang/invoke/VarHandle" ∧ (parseMethodDescriptor yX10_border.desc).map (fun d => d.parameters.length) = some 3 := by decide +kernel
noncomputable def X10_border (p1 : Int32) (p2 : Int32) (p3 : Int32) (M : gM) : Option Int32 := (X4_has 1 p1 M).bind (fun r_2 => (if r_2 = 0 then some (-1) else (X4_has 1 p2 M).bind (fun r_5 => (if r_5 = 0 then some (-1) else (if p3 < 0 then some (-1) else (if p3 ≤ 2 then (X7_onBorder 0 p1 p2 p3 M).bind (fun r_10 => some r_10) else some (-1)))))))
theorem k_X10_border {G : gG5} {nf : Nat} {M : gM} {p1 : Int32} {p2 : Int32} {p3 : Int32} {r : Int32} (hr : X10_border p1 p2 p3 M = some r) : gMet G (gXn nf) yX10_border cX10_border 4 (some .int) 4 103 M [.ref (gad 0 0), .int p1, .int p2, .int p3] (some (.int r)) M := by
  refine gMet_of pl_X10 rfl (Nat.le_of_ble_eq_true rfl) (fun Ψ C CR => ?_)
  show Ψ M 0 [(0, .ref (gad 0 0)), (1, .int p1), (2, .int p2), (3, .int p3)] []
  refine r_aload_n (pc := 0) C dX10_border_0 rfl 0 rfl ?_
  refine g0_3 (pc := 1) C dX10_border_1 q537 (e0 nf) ?_
  refine r_iload_n (pc := 4) C dX10_border_4 rfl 1 rfl ?_
  obtain ⟨r_2, hc_1, hr⟩ := gBind_some hr
  refine c_X4_has (pc := 5) C dX10_border_5 q867 ⟨Nat.le_of_ble_eq_true rfl, Nat.le_of_ble_eq_true rfl⟩ (by decide) hc_1 (Nat.le_of_ble_eq_true rfl) ?_
  refine r_if_eq (pc := 8) (tgt := 31) C dX10_border_8 rfl (fun c_3 => ?_) (fun c_3 => ?_)
  · replace hr := (if_pos c_3).symm.trans hr
    refine r_iconst (pc := 31) C dX10_border_31 kim1 ?_
    exact r_iret (pc := 32) CR dX10_border_32 (congrArg (fun z => some (Value.int z)) (gSome hr)) rfl
  · replace hr := (if_neg c_3).symm.trans hr
    refine r_aload_n (pc := 11) C dX10_border_11 rfl 0 rfl ?_
    refine g0_3 (pc := 12) C dX10_border_12 q537 (e0 nf) ?_
    refine r_iload_n (pc := 15) C dX10_border_15 rfl 2 rfl ?_
    obtain ⟨r_5, hc_4, hr⟩ := gBind_some hr
    refine c_X4_has (pc := 16) C dX10_border_16 q867 ⟨Nat.le_of_ble_eq_true rfl, Nat.le_of_ble_eq_true rfl⟩ (by decide) hc_4 (Nat.le_of_ble_eq_true rfl) ?_
    refine r_if_eq (pc := 19) (tgt := 31) C dX10_border_19 rfl (fun c_6 => ?_) (fun c_6 => ?_)
    · replace hr := (if_pos c_6).symm.trans hr
      refine r_iconst (pc := 31) C dX10_border_31 kim1 ?_
      exact r_iret (pc := 32) CR dX10_border_32 (congrArg (fun z => some (Value.int z)) (gSome hr)) rfl
    · replace hr := (if_neg c_6).symm.trans hr
      refine r_iload_n (pc := 22) C dX10_border_22 rfl 3 rfl ?_
      refine r_if_lt (pc := 23) (tgt := 31) C dX10_border_23 rfl (fun c_7 => ?_) (fun c_7 => ?_)
      · replace hr := (if_pos c_7).symm.trans hr
        refine r_iconst (pc := 31) C dX10_border_31 kim1 ?_
        exact r_iret (pc := 32) CR dX10_border_32 (congrArg (fun z => some (Value.int z)) (gSome hr)) rfl
      · replace hr := (if_neg c_7).symm.trans hr
        refine r_iload_n (pc := 26) C dX10_border_26 rfl 3 rfl ?_
        refine r_iconst (pc := 27) C dX10_border_27 ki2 ?_
        refine r_icmp_le (pc := 28) (tgt := 33) C dX10_border_28 rfl (fun c_8 => ?_) (fun c_8 => ?_)
        · replace hr := (if_pos c_8).symm.trans hr
          refine r_aload_n (pc := 33) C dX10_border_33 rfl 0 rfl ?_
          refine g0_6 (pc := 34) C dX10_border_34 q540 (e0 nf) ?_
          refine r_aload_n (pc := 37) C dX10_border_37 rfl 0 rfl ?_
          refine g0_7 (pc := 38) C dX10_border_38 q541 (e0 nf) ?_
          refine r_iload_n (pc := 41) C dX10_border_41 rfl 1 rfl ?_
          refine r_iload_n (pc := 42) C dX10_border_42 rfl 2 rfl ?_
          refine r_iload_n (pc := 43) C dX10_border_43 rfl 3 rfl ?_
          obtain ⟨r_10, hc_9, hr⟩ := gBind_some hr
          refine c_X7_onBorder (pc := 44) C dX10_border_44 q1215 ⟨Nat.le_of_ble_eq_true rfl, Nat.le_of_ble_eq_true rfl⟩ (gf0 nf) hc_9 (Nat.le_of_ble_eq_true rfl) ?_
          exact r_iret (pc := 47) CR dX10_border_47 (congrArg (fun z => some (Value.int z)) (gSome hr)) rfl
        · replace hr := (if_neg c_8).symm.trans hr
          refine r_iconst (pc := 31) C dX10_border_31 kim1 ?_
          exact r_iret (pc := 32) CR dX10_border_32 (congrArg (fun z => some (Value.int z)) (gSome hr)) rfl
theorem c_X10_border {Ψ : gM → Nat → List (Nat × Value) → List Value → Prop} {G : gG5} {nf : Nat} {cc : ByteArray} {own : String} {nL : Nat} {ret : Option FieldType} {fr lo : Nat} {v0 : Option Value} {M0 M : gM} {pc index : Nat} {ls : List (Nat × Value)} {st : List Value} (C : gC Ψ G (gXn nf) cc own nL ret fr lo v0 M0) (d : decode cc pc = .ok (.invokevirtual index, 3)) (hl : Cond.methodLink own index yX10_border ∈ gws) (hR : 5 ≤ fr ∧ 126 ≤ lo) {p1 : Int32} {p2 : Int32} {p3 : Int32} {r : Int32} (hr : X10_border p1 p2 p3 M = some r) (hcat : (st.map fun v => v.category).sum ≤ 8) (k : Ψ M (pc + 3) ls (.int r :: st)) : Ψ M pc ls (.int p3 :: .int p2 :: .int p1 :: .ref (gad 0 0) :: st) := r_callV C [.int p1, .int p2, .int p3] st d (k_X10_border hr) hl q1212 q1213 q116 q1214 hd_X10_border hR rfl (by decide) (e0 nf) rfl hcat k
theorem hd_X7_leftOf : yX7_leftOf.cls ≠ "java/lang/invoke/MethodHandle" ∧ yX7_leftOf.cls ≠ "java/lang/invoke/VarHandle" ∧ (parseMethodDescriptor yX7_leftOf.desc).map (fun d => d.parameters.length) = some 2 := by decide +kernel
noncomputable def X7_leftOf_L14 (i1 : Nat) (x2 : Int32) (x3 : Int32) (M : gM) : Option ((Int32 × gM) ⊕ gM) := (if 64 ≤ x3 then some (.inr M) else (X1_resolved 2 x3 M).bind (fun r_5 => gG (gin x3 64) (gLet (wI M 29 0 (Int32.toNatClampNeg x3) r_5) (fun M_7 => gLet (x3 + 1) (fun x3_8 => some (.inl (x3_8, M_7)))))))
theorem t_X7_leftOf_L14 {Ψ : gM → Nat → List (Nat × Value) → List Value → Prop} {G : gG5} {nf : Nat} {M : gM} {v0 : Option Value} {M0 : gM} {i1 : Nat} {x2 : Int32} {x3 : Int32} {w : ((Int32 × gM) ⊕ gM)} (C : gC Ψ G (gXn nf) cX7_leftOf RX7 5 (some .int) 5 127 v0 M0) (h1 : i1 < nf + 3) (hr : X7_leftOf_L14 i1 x2 x3 M = some w) (hn : ∀ s, w = .inl s → Ψ s.2 14 [(0, .ref (gad 28 0)), (1, .ref (gad 33 i1)), (2, .int x2), (3, .int (s.1))] []) (hx : ∀ e, w = .inr e → (fun e => Ψ e 44 [(0, .ref (gad 28 0)), (1, .ref (gad 33 i1)), (2, .int x2)] []) e) : Ψ M 14 [(0, .ref (gad 28 0)), (1, .ref (gad 33 i1)), (2, .int x2), (3, .int x3)] [] := by
  refine r_iload_n (pc := 14) C dX7_leftOf_14 rfl 3 rfl ?_
  refine r_bipush (pc := 15) C dX7_leftOf_15 kb64 ?_
  refine r_icmp_ge (pc := 17) (tgt := 44) C dX7_leftOf_17 rfl (fun c_3 => ?_) (fun c_3 => ?_)
  · replace hr := (if_pos c_3).symm.trans hr
    refine r_sub C [0, 1, 2] (ls' := [(0, .ref (gad 28 0)), (1, .ref (gad 33 i1)), (2, .int x2)]) rfl ?_
    exact hx M (gSome hr)
  · replace hr := (if_neg c_3).symm.trans hr
    refine r_aload_n (pc := 20) C dX7_leftOf_20 rfl 0 rfl ?_
    refine g28_3 (pc := 21) C dX7_leftOf_21 q471 (e28 nf) ?_
    refine r_iload_n (pc := 24) C dX7_leftOf_24 rfl 3 rfl ?_
    refine r_aload_n (pc := 25) C dX7_leftOf_25 rfl 0 rfl ?_
    refine g28_1 (pc := 26) C dX7_leftOf_26 q469 (e28 nf) ?_
    refine r_aload_n (pc := 29) C dX7_leftOf_29 rfl 0 rfl ?_
    refine g28_6 (pc := 30) C dX7_leftOf_30 q474 (e28 nf) ?_
    refine r_iload_n (pc := 33) C dX7_leftOf_33 rfl 3 rfl ?_
    obtain ⟨r_5, hc_4, hr⟩ := gBind_some hr
    refine c_X1_resolved (pc := 34) C dX7_leftOf_34 q1233 ⟨Nat.le_of_ble_eq_true rfl, Nat.le_of_ble_eq_true rfl⟩ (gf2 nf) hc_4 (Nat.le_of_ble_eq_true rfl) ?_
    obtain ⟨g_6, hr⟩ := gG_some hr
    obtain ⟨M_7, eM_7, hr⟩ := gLet_some hr
    refine r_iastN (pc := 37) C dX7_leftOf_37 rfl (e29 nf) g_6 rfl eM_7 ?_
    obtain ⟨x3_8, ex3_8, hr⟩ := gLet_some hr
    refine r_iinc (pc := 38) C dX7_leftOf_38 3 rfl rfl (by decide) ex3_8 (ls' := [(3, .int x3_8), (0, .ref (gad 28 0)), (1, .ref (gad 33 i1)), (2, .int x2)]) rfl ?_
    refine r_goto (pc := 41) (tgt := 14) C dX7_leftOf_41 rfl ?_
    refine r_sub C [1, 2, 3, 0] (ls' := [(0, .ref (gad 28 0)), (1, .ref (gad 33 i1)), (2, .int x2), (3, .int x3_8)]) rfl ?_
    exact hn (x3_8, M_7) (gSome hr)
noncomputable def X7_leftOf_L61 (x3 : Int32) (x4 : Int32) (M : gM) : Option ((Int32 × Int32) ⊕ Int32) := (if 64 ≤ x4 then some (.inr x3) else gG (gin x4 64) ((X1_resolved 2 x4 M).bind (fun r_15 => (if (M.1 29 0 (Int32.toNatClampNeg x4)) = r_15 then gLet (x4 + 1) (fun x4_17 => some (.inl (x3, x4_17))) else gLet (x3 + 1) (fun x3_18 => gLet (x4 + 1) (fun x4_19 => some (.inl (x3_18, x4_19))))))))
theorem t_X7_leftOf_L61 {Ψ : gM → Nat → List (Nat × Value) → List Value → Prop} {G : gG5} {nf : Nat} {M : gM} {v0 : Option Value} {M0 : gM} {x3 : Int32} {x4 : Int32} {w : ((Int32 × Int32) ⊕ Int32)} (C : gC Ψ G (gXn nf) cX7_leftOf RX7 5 (some .int) 5 127 v0 M0) (hr : X7_leftOf_L61 x3 x4 M = some w) (hn : ∀ s, w = .inl s → Ψ M 61 [(0, .ref (gad 28 0)), (3, .int (s.1)), (4, .int (s.2))] []) (hx : ∀ e, w = .inr e → (fun e => Ψ M 100 [(3, .int e)] []) e) : Ψ M 61 [(0, .ref (gad 28 0)), (3, .int x3), (4, .int x4)] [] := by
  refine r_iload (pc := 61) C dX7_leftOf_61 2 rfl ?_
  refine r_bipush (pc := 63) C dX7_leftOf_63 kb64 ?_
  refine r_icmp_ge (pc := 65) (tgt := 100) C dX7_leftOf_65 rfl (fun c_12 => ?_) (fun c_12 => ?_)
  · replace hr := (if_pos c_12).symm.trans hr
    refine r_sub C [1] (ls' := [(3, .int x3)]) rfl ?_
    exact hx x3 (gSome hr)
  · replace hr := (if_neg c_12).symm.trans hr
    refine r_aload_n (pc := 68) C dX7_leftOf_68 rfl 0 rfl ?_
    refine g28_3 (pc := 69) C dX7_leftOf_69 q471 (e28 nf) ?_
    refine r_iload (pc := 72) C dX7_leftOf_72 2 rfl ?_
    obtain ⟨g_13, hr⟩ := gG_some hr
    refine r_ialdN (pc := 74) C dX7_leftOf_74 rfl (e29 nf) g_13 rfl ?_
    refine r_aload_n (pc := 75) C dX7_leftOf_75 rfl 0 rfl ?_
    refine g28_1 (pc := 76) C dX7_leftOf_76 q469 (e28 nf) ?_
    refine r_aload_n (pc := 79) C dX7_leftOf_79 rfl 0 rfl ?_
    refine g28_6 (pc := 80) C dX7_leftOf_80 q474 (e28 nf) ?_
    refine r_iload (pc := 83) C dX7_leftOf_83 2 rfl ?_
    obtain ⟨r_15, hc_14, hr⟩ := gBind_some hr
    refine c_X1_resolved (pc := 85) C dX7_leftOf_85 q1233 ⟨Nat.le_of_ble_eq_true rfl, Nat.le_of_ble_eq_true rfl⟩ (gf2 nf) hc_14 (Nat.le_of_ble_eq_true rfl) ?_
    refine r_icmp_eq (pc := 88) (tgt := 94) C dX7_leftOf_88 rfl (fun c_16 => ?_) (fun c_16 => ?_)
    · replace hr := (if_pos c_16).symm.trans hr
      obtain ⟨x4_17, ex4_17, hr⟩ := gLet_some hr
      refine r_iinc (pc := 94) C dX7_leftOf_94 2 rfl rfl (by decide) ex4_17 (ls' := [(4, .int x4_17), (0, .ref (gad 28 0)), (3, .int x3)]) rfl ?_
      refine r_goto (pc := 97) (tgt := 61) C dX7_leftOf_97 rfl ?_
      refine r_sub C [1, 2, 0] (ls' := [(0, .ref (gad 28 0)), (3, .int x3), (4, .int x4_17)]) rfl ?_
      exact hn (x3, x4_17) (gSome hr)
    · replace hr := (if_neg c_16).symm.trans hr
      obtain ⟨x3_18, ex3_18, hr⟩ := gLet_some hr
      refine r_iinc (pc := 91) C dX7_leftOf_91 1 rfl rfl (by decide) ex3_18 (ls' := [(3, .int x3_18), (0, .ref (gad 28 0)), (4, .int x4)]) rfl ?_
      obtain ⟨x4_19, ex4_19, hr⟩ := gLet_some hr
      refine r_iinc (pc := 94) C dX7_leftOf_94 2 rfl rfl (by decide) ex4_19 (ls' := [(4, .int x4_19), (3, .int x3_18), (0, .ref (gad 28 0))]) rfl ?_
      refine r_goto (pc := 97) (tgt := 61) C dX7_leftOf_97 rfl ?_
      refine r_sub C [2, 1, 0] (ls' := [(0, .ref (gad 28 0)), (3, .int x3_18), (4, .int x4_19)]) rfl ?_
      exact hn (x3_18, x4_19) (gSome hr)
noncomputable def X7_leftOf (i1 : Nat) (p2 : Int32) (M : gM) : Option (Int32 × gM) := (X7_drawWhole i1 (M.1 40 i1 2) (-1) M).bind (fun M_2 => (gIter (fun s => X7_leftOf_L14 i1 p2 s.1 s.2) FU (0, M_2)).bind (fun M_9 => (X7_drawWhole i1 (M_9.1 40 i1 2) p2 M_9).bind (fun M_11 => (gIter (fun s => X7_leftOf_L61 s.1 s.2 M_11) FU (0, 0)).bind (fun x3_20 => some (x3_20, M_11)))))
theorem k_X7_leftOf {G : gG5} {nf : Nat} {M : gM} {i1 : Nat} {p2 : Int32} (h1 : i1 < nf + 3) {r : Int32} {M1 : gM} (hr : X7_leftOf i1 p2 M = some (r, M1)) : gMet G (gXn nf) yX7_leftOf cX7_leftOf 5 (some .int) 5 127 M [.ref (gad 28 0), .ref (gad 33 i1), .int p2] (some (.int r)) M1 := by
  refine gMet_of pl_X7 rfl (Nat.le_of_ble_eq_true rfl) (fun Ψ C CR => ?_)
  show Ψ M 0 [(0, .ref (gad 28 0)), (1, .ref (gad 33 i1)), (2, .int p2)] []
  refine r_aload_n (pc := 0) C dX7_leftOf_0 rfl 0 rfl ?_
  refine r_aload_n (pc := 1) C dX7_leftOf_1 rfl 1 rfl ?_
  refine r_aload_n (pc := 2) C dX7_leftOf_2 rfl 1 rfl ?_
  refine g33_6 (pc := 3) C dX7_leftOf_3 q422 (e33 (nf := nf) h1) ?_
  refine r_iconst (pc := 6) C dX7_leftOf_6 ki2 ?_
  refine r_ialdN (pc := 7) C dX7_leftOf_7 rfl (e40 (nf := nf) h1) (by decide : gin 2 4 = true) kc2 ?_
  refine r_iconst (pc := 8) C dX7_leftOf_8 kim1 ?_
  obtain ⟨M_2, hc_1, hr⟩ := gBind_some hr
  refine c_X7_drawWhole (pc := 9) C dX7_leftOf_9 q1232 ⟨Nat.le_of_ble_eq_true rfl, Nat.le_of_ble_eq_true rfl⟩ h1 hc_1 (Nat.le_of_ble_eq_true rfl) ?_
  refine r_iconst (pc := 12) C dX7_leftOf_12 ki0 ?_
  refine r_istore_n (pc := 13) C dX7_leftOf_13 rfl (by decide) rfl (ls' := [(3, .int 0), (0, .ref (gad 28 0)), (1, .ref (gad 33 i1)), (2, .int p2)]) rfl ?_
  refine r_sub C [1, 2, 3, 0] (ls' := [(0, .ref (gad 28 0)), (1, .ref (gad 33 i1)), (2, .int p2), (3, .int 0)]) rfl ?_
  obtain ⟨ev, hit, hr⟩ := gBind_some hr
  refine gIter_V (step := fun s => X7_leftOf_L14 i1 p2 s.1 s.2) (P := fun s => Ψ s.2 14 [(0, .ref (gad 28 0)), (1, .ref (gad 33 i1)), (2, .int p2), (3, .int (s.1))] []) (K := (fun e => Ψ e 44 [(0, .ref (gad 28 0)), (1, .ref (gad 33 i1)), (2, .int p2)] [])) (fun s w hs hn hx => t_X7_leftOf_L14 C h1 hs hn hx) FU (0, M_2) ev hit ?_
  obtain ⟨M_9, rfl⟩ : ∃ z, z = ev := ⟨_, rfl⟩
  show Ψ M_9 44 [(0, .ref (gad 28 0)), (1, .ref (gad 33 i1)), (2, .int p2)] []
  refine r_aload_n (pc := 44) C dX7_leftOf_44 rfl 0 rfl ?_
  refine r_aload_n (pc := 45) C dX7_leftOf_45 rfl 1 rfl ?_
  refine r_aload_n (pc := 46) C dX7_leftOf_46 rfl 1 rfl ?_
  refine g33_6 (pc := 47) C dX7_leftOf_47 q422 (e33 (nf := nf) h1) ?_
  refine r_iconst (pc := 50) C dX7_leftOf_50 ki2 ?_
  refine r_ialdN (pc := 51) C dX7_leftOf_51 rfl (e40 (nf := nf) h1) (by decide : gin 2 4 = true) kc2 ?_
  refine r_iload_n (pc := 52) C dX7_leftOf_52 rfl 2 rfl ?_
  obtain ⟨M_11, hc_10, hr⟩ := gBind_some hr
  refine c_X7_drawWhole (pc := 53) C dX7_leftOf_53 q1232 ⟨Nat.le_of_ble_eq_true rfl, Nat.le_of_ble_eq_true rfl⟩ h1 hc_10 (Nat.le_of_ble_eq_true rfl) ?_
  refine r_iconst (pc := 56) C dX7_leftOf_56 ki0 ?_
  refine r_istore_n (pc := 57) C dX7_leftOf_57 rfl (by decide) rfl (ls' := [(3, .int 0), (0, .ref (gad 28 0)), (1, .ref (gad 33 i1)), (2, .int p2)]) rfl ?_
  refine r_iconst (pc := 58) C dX7_leftOf_58 ki0 ?_
  refine r_istore (pc := 59) C dX7_leftOf_59 (by decide) rfl (ls' := [(4, .int 0), (3, .int 0), (0, .ref (gad 28 0)), (1, .ref (gad 33 i1)), (2, .int p2)]) rfl ?_
  refine r_sub C [2, 1, 0] (ls' := [(0, .ref (gad 28 0)), (3, .int 0), (4, .int 0)]) rfl ?_
  obtain ⟨ev, hit, hr⟩ := gBind_some hr
  refine gIter_V (step := fun s => X7_leftOf_L61 s.1 s.2 M_11) (P := fun s => Ψ M_11 61 [(0, .ref (gad 28 0)), (3, .int (s.1)), (4, .int (s.2))] []) (K := (fun e => Ψ M_11 100 [(3, .int e)] [])) (fun s w hs hn hx => t_X7_leftOf_L61 C  hs hn hx) FU (0, 0) ev hit ?_
  obtain ⟨x3_20, rfl⟩ : ∃ z, z = ev := ⟨_, rfl⟩
  show Ψ M_11 100 [(3, .int x3_20)] []
  refine r_iload_n (pc := 100) C dX7_leftOf_100 rfl 0 rfl ?_
  exact r_iret (pc := 101) CR dX7_leftOf_101 (congrArg (fun z => some (Value.int z)) (Prod.mk.inj (gSome hr)).1) (Prod.mk.inj (gSome hr)).2
theorem c_X7_leftOf {Ψ : gM → Nat → List (Nat × Value) → List Value → Prop} {G : gG5} {nf : Nat} {cc : ByteArray} {own : String} {nL : Nat} {ret : Option FieldType} {fr lo : Nat} {v0 : Option Value} {M0 M : gM} {pc index : Nat} {ls : List (Nat × Value)} {st : List Value} (C : gC Ψ G (gXn nf) cc own nL ret fr lo v0 M0) (d : decode cc pc = .ok (.invokevirtual index, 3)) (hl : Cond.methodLink own index yX7_leftOf ∈ gws) (hR : 6 ≤ fr ∧ 151 ≤ lo) {i1 : Nat} {p2 : Int32} (h1 : i1 < nf + 3) {r : Int32} {M1 : gM} (hr : X7_leftOf i1 p2 M = some (r, M1)) (hcat : (st.map fun v => v.category).sum ≤ 8) (k : Ψ M1 (pc + 3) ls (.int r :: st)) : Ψ M pc ls (.int p2 :: .ref (gad 33 i1) :: .ref (gad 28 0) :: st) := r_callV C [.ref (gad 33 i1), .int p2] st d (k_X7_leftOf h1 hr) hl q1229 q1230 q123 q1231 hd_X7_leftOf hR rfl (by decide) (e28 nf) rfl hcat k
theorem hd_X10_left : yX10_left.cls ≠ "java/lang/invoke/MethodHandle" ∧ yX10_left.cls ≠ "java/lang/invoke/VarHandle" ∧ (parseMethodDescriptor yX10_left.desc).map (fun d => d.parameters.length) = some 1 := by decide +kernel
noncomputable def X10_left (p1 : Int32) (M : gM) : Option (Int32 × gM) := (X4_has 1 p1 M).bind (fun r_2 => (if r_2 = 0 then some ((-1), M) else (X7_leftOf 0 p1 M).bind (gU2 (fun r_5 M_6 => some (r_5, M_6)))))
theorem k_X10_left {G : gG5} {nf : Nat} {M : gM} {p1 : Int32} {r : Int32} {M1 : gM} (hr : X10_left p1 M = some (r, M1)) : gMet G (gXn nf) yX10_left cX10_left 2 (some .int) 6 151 M [.ref (gad 0 0), .int p1] (some (.int r)) M1 := by
  refine gMet_of pl_X10 rfl (Nat.le_of_ble_eq_true rfl) (fun Ψ C CR => ?_)
  show Ψ M 0 [(0, .ref (gad 0 0)), (1, .int p1)] []
  refine r_aload_n (pc := 0) C dX10_left_0 rfl 0 rfl ?_
  refine g0_3 (pc := 1) C dX10_left_1 q537 (e0 nf) ?_
  refine r_iload_n (pc := 4) C dX10_left_4 rfl 1 rfl ?_
  obtain ⟨r_2, hc_1, hr⟩ := gBind_some hr
  refine c_X4_has (pc := 5) C dX10_left_5 q867 ⟨Nat.le_of_ble_eq_true rfl, Nat.le_of_ble_eq_true rfl⟩ (by decide) hc_1 (Nat.le_of_ble_eq_true rfl) ?_
  refine r_if_eq (pc := 8) (tgt := 26) C dX10_left_8 rfl (fun c_3 => ?_) (fun c_3 => ?_)
  · replace hr := (if_pos c_3).symm.trans hr
    refine r_iconst (pc := 26) C dX10_left_26 kim1 ?_
    exact r_iret (pc := 27) CR dX10_left_27 (congrArg (fun z => some (Value.int z)) (Prod.mk.inj (gSome hr)).1) (Prod.mk.inj (gSome hr)).2
  · replace hr := (if_neg c_3).symm.trans hr
    refine r_aload_n (pc := 11) C dX10_left_11 rfl 0 rfl ?_
    refine g0_6 (pc := 12) C dX10_left_12 q540 (e0 nf) ?_
    refine r_aload_n (pc := 15) C dX10_left_15 rfl 0 rfl ?_
    refine g0_7 (pc := 16) C dX10_left_16 q541 (e0 nf) ?_
    refine r_iload_n (pc := 19) C dX10_left_19 rfl 1 rfl ?_
    obtain ⟨⟨r_5, M_6⟩, hc_4, hr⟩ := gBind_some hr
    replace hr := gU2_some hr
    refine c_X7_leftOf (pc := 20) C dX10_left_20 q1228 ⟨Nat.le_of_ble_eq_true rfl, Nat.le_of_ble_eq_true rfl⟩ (gf0 nf) hc_4 (Nat.le_of_ble_eq_true rfl) ?_
    refine r_goto (pc := 23) (tgt := 27) C dX10_left_23 rfl ?_
    exact r_iret (pc := 27) CR dX10_left_27 (congrArg (fun z => some (Value.int z)) (Prod.mk.inj (gSome hr)).1) (Prod.mk.inj (gSome hr)).2
theorem c_X10_left {Ψ : gM → Nat → List (Nat × Value) → List Value → Prop} {G : gG5} {nf : Nat} {cc : ByteArray} {own : String} {nL : Nat} {ret : Option FieldType} {fr lo : Nat} {v0 : Option Value} {M0 M : gM} {pc index : Nat} {ls : List (Nat × Value)} {st : List Value} (C : gC Ψ G (gXn nf) cc own nL ret fr lo v0 M0) (d : decode cc pc = .ok (.invokevirtual index, 3)) (hl : Cond.methodLink own index yX10_left ∈ gws) (hR : 7 ≤ fr ∧ 172 ≤ lo) {p1 : Int32} {r : Int32} {M1 : gM} (hr : X10_left p1 M = some (r, M1)) (hcat : (st.map fun v => v.category).sum ≤ 8) (k : Ψ M1 (pc + 3) ls (.int r :: st)) : Ψ M pc ls (.int p1 :: .ref (gad 0 0) :: st) := r_callV C [.int p1] st d (k_X10_left hr) hl q1225 q1226 q116 q1227 hd_X10_left hR rfl (by decide) (e0 nf) rfl hcat k
theorem hd_X7_chooseOpaque : yX7_chooseOpaque.cls ≠ "java/lang/invoke/MethodHandle" ∧ yX7_chooseOpaque.cls ≠ "java/lang/invoke/VarHandle" ∧ (parseMethodDescriptor yX7_chooseOpaque.desc).map (fun d => d.parameters.length) = some 1 := by decide +kernel
noncomputable def X7_chooseOpaque_L4 (i1 : Nat) (x2 : Int32) (x3 : Int32) (M : gM) : Option ((Int32 × Int32 × gM) ⊕ (Int32 × gM)) := (if (M.1 5 1 5) ≤ x3 then some (.inr (x2, M)) else (if 4 ≤ x2 then some (.inr (x2, M)) else gG (gin x3 10) ((if (M.1 9 1 (Int32.toNatClampNeg x3)) = 8 then (X9_isCulled i1 x3 M).bind (fun r_7 => (if r_7 = 0 then gG (gin x2 4) (gLet (wI M 30 0 (Int32.toNatClampNeg x2) x3) (fun M_11 => gLet (x2 + 1) (fun x2_12 => gLet (x3 + 1) (fun x3_13 => some (.inl (x2_12, x3_13, M_11)))))) else gLet (x3 + 1) (fun x3_9 => some (.inl (x2, x3_9, M))))) else gLet (x3 + 1) (fun x3_5 => some (.inl (x2, x3_5, M)))))))
theorem t_X7_chooseOpaque_L4 {Ψ : gM → Nat → List (Nat × Value) → List Value → Prop} {G : gG5} {nf : Nat} {M : gM} {v0 : Option Value} {M0 : gM} {i1 : Nat} {x2 : Int32} {x3 : Int32} {w : ((Int32 × Int32 × gM) ⊕ (Int32 × gM))} (C : gC Ψ G (gXn nf) cX7_chooseOpaque RX7 4 (some .int) 1 24 v0 M0) (h1 : i1 < nf + 3) (hr : X7_chooseOpaque_L4 i1 x2 x3 M = some w) (hn : ∀ s, w = .inl s → Ψ s.2.2 4 [(0, .ref (gad 28 0)), (1, .ref (gad 33 i1)), (2, .int (s.1)), (3, .int (s.2.1))] []) (hx : ∀ e, w = .inr e → (fun e => Ψ e.2 62 [(2, .int (e.1))] []) e) : Ψ M 4 [(0, .ref (gad 28 0)), (1, .ref (gad 33 i1)), (2, .int x2), (3, .int x3)] [] := by
  refine r_iload_n (pc := 4) C dX7_chooseOpaque_4 rfl 3 rfl ?_
  refine r_aload_n (pc := 5) C dX7_chooseOpaque_5 rfl 0 rfl ?_
  refine g28_0 (pc := 6) C dX7_chooseOpaque_6 q468 (e28 nf) ?_
  refine g5_5 (pc := 9) C dX7_chooseOpaque_9 q214 (e5 (nf := nf) (by decide)) ?_
  refine r_icmp_ge (pc := 12) (tgt := 62) C dX7_chooseOpaque_12 rfl (fun c_1 => ?_) (fun c_1 => ?_)
  · replace hr := (if_pos c_1).symm.trans hr
    refine r_sub C [2] (ls' := [(2, .int x2)]) rfl ?_
    exact hx (x2, M) (gSome hr)
  · replace hr := (if_neg c_1).symm.trans hr
    refine r_iload_n (pc := 15) C dX7_chooseOpaque_15 rfl 2 rfl ?_
    refine r_iconst (pc := 16) C dX7_chooseOpaque_16 ki4 ?_
    refine r_icmp_ge (pc := 17) (tgt := 62) C dX7_chooseOpaque_17 rfl (fun c_2 => ?_) (fun c_2 => ?_)
    · replace hr := (if_pos c_2).symm.trans hr
      refine r_sub C [2] (ls' := [(2, .int x2)]) rfl ?_
      exact hx (x2, M) (gSome hr)
    · replace hr := (if_neg c_2).symm.trans hr
      refine r_aload_n (pc := 20) C dX7_chooseOpaque_20 rfl 0 rfl ?_
      refine g28_0 (pc := 21) C dX7_chooseOpaque_21 q468 (e28 nf) ?_
      refine g5_9 (pc := 24) C dX7_chooseOpaque_24 q227 (e5 (nf := nf) (by decide)) ?_
      refine r_iload_n (pc := 27) C dX7_chooseOpaque_27 rfl 3 rfl ?_
      obtain ⟨g_3, hr⟩ := gG_some hr
      refine r_ialdN (pc := 28) C dX7_chooseOpaque_28 rfl (e9 (nf := nf) (by decide)) g_3 rfl ?_
      refine r_bipush (pc := 29) C dX7_chooseOpaque_29 kb8 ?_
      refine r_icmp_ne (pc := 31) (tgt := 56) C dX7_chooseOpaque_31 rfl (fun c_4 => ?_) (fun c_4 => ?_)
      · replace hr := (if_neg c_4).symm.trans hr
        obtain ⟨x3_5, ex3_5, hr⟩ := gLet_some hr
        refine r_iinc (pc := 56) C dX7_chooseOpaque_56 3 rfl rfl (by decide) ex3_5 (ls' := [(3, .int x3_5), (0, .ref (gad 28 0)), (1, .ref (gad 33 i1)), (2, .int x2)]) rfl ?_
        refine r_goto (pc := 59) (tgt := 4) C dX7_chooseOpaque_59 rfl ?_
        refine r_sub C [1, 2, 3, 0] (ls' := [(0, .ref (gad 28 0)), (1, .ref (gad 33 i1)), (2, .int x2), (3, .int x3_5)]) rfl ?_
        exact hn (x2, x3_5, M) (gSome hr)
      · replace hr := (if_pos c_4).symm.trans hr
        refine r_aload_n (pc := 34) C dX7_chooseOpaque_34 rfl 0 rfl ?_
        refine g28_2 (pc := 35) C dX7_chooseOpaque_35 q470 (e28 nf) ?_
        refine r_aload_n (pc := 38) C dX7_chooseOpaque_38 rfl 1 rfl ?_
        refine r_iload_n (pc := 39) C dX7_chooseOpaque_39 rfl 3 rfl ?_
        obtain ⟨r_7, hc_6, hr⟩ := gBind_some hr
        refine c_X9_isCulled (pc := 40) C dX7_chooseOpaque_40 q1219 ⟨Nat.le_of_ble_eq_true rfl, Nat.le_of_ble_eq_true rfl⟩ h1 hc_6 (Nat.le_of_ble_eq_true rfl) ?_
        refine r_if_ne (pc := 43) (tgt := 56) C dX7_chooseOpaque_43 rfl (fun c_8 => ?_) (fun c_8 => ?_)
        · replace hr := (if_neg c_8).symm.trans hr
          obtain ⟨x3_9, ex3_9, hr⟩ := gLet_some hr
          refine r_iinc (pc := 56) C dX7_chooseOpaque_56 3 rfl rfl (by decide) ex3_9 (ls' := [(3, .int x3_9), (0, .ref (gad 28 0)), (1, .ref (gad 33 i1)), (2, .int x2)]) rfl ?_
          refine r_goto (pc := 59) (tgt := 4) C dX7_chooseOpaque_59 rfl ?_
          refine r_sub C [1, 2, 3, 0] (ls' := [(0, .ref (gad 28 0)), (1, .ref (gad 33 i1)), (2, .int x2), (3, .int x3_9)]) rfl ?_
          exact hn (x2, x3_9, M) (gSome hr)
        · replace hr := (if_pos c_8).symm.trans hr
          refine r_aload_n (pc := 46) C dX7_chooseOpaque_46 rfl 0 rfl ?_
          refine g28_4 (pc := 47) C dX7_chooseOpaque_47 q472 (e28 nf) ?_
          refine r_iload_n (pc := 50) C dX7_chooseOpaque_50 rfl 2 rfl ?_
          refine r_iload_n (pc := 51) C dX7_chooseOpaque_51 rfl 3 rfl ?_
          obtain ⟨g_10, hr⟩ := gG_some hr
          obtain ⟨M_11, eM_11, hr⟩ := gLet_some hr
          refine r_iastN (pc := 52) C dX7_chooseOpaque_52 rfl (e30 nf) g_10 rfl eM_11 ?_
          obtain ⟨x2_12, ex2_12, hr⟩ := gLet_some hr
          refine r_iinc (pc := 53) C dX7_chooseOpaque_53 2 rfl rfl (by decide) ex2_12 (ls' := [(2, .int x2_12), (0, .ref (gad 28 0)), (1, .ref (gad 33 i1)), (3, .int x3)]) rfl ?_
          obtain ⟨x3_13, ex3_13, hr⟩ := gLet_some hr
          refine r_iinc (pc := 56) C dX7_chooseOpaque_56 3 rfl rfl (by decide) ex3_13 (ls' := [(3, .int x3_13), (2, .int x2_12), (0, .ref (gad 28 0)), (1, .ref (gad 33 i1))]) rfl ?_
          refine r_goto (pc := 59) (tgt := 4) C dX7_chooseOpaque_59 rfl ?_
          refine r_sub C [2, 3, 1, 0] (ls' := [(0, .ref (gad 28 0)), (1, .ref (gad 33 i1)), (2, .int x2_12), (3, .int x3_13)]) rfl ?_
          exact hn (x2_12, x3_13, M_11) (gSome hr)
noncomputable def X7_chooseOpaque (i1 : Nat) (M : gM) : Option (Int32 × gM) := (gIter (fun s => X7_chooseOpaque_L4 i1 s.1 s.2.1 s.2.2) FU (0, 0, M)).bind (gU2 (fun x2_14 M_15 => some (x2_14, M_15)))
theorem k_X7_chooseOpaque {G : gG5} {nf : Nat} {M : gM} {i1 : Nat} (h1 : i1 < nf + 3) {r : Int32} {M1 : gM} (hr : X7_chooseOpaque i1 M = some (r, M1)) : gMet G (gXn nf) yX7_chooseOpaque cX7_chooseOpaque 4 (some .int) 1 24 M [.ref (gad 28 0), .ref (gad 33 i1)] (some (.int r)) M1 := by
  refine gMet_of pl_X7 rfl (Nat.le_of_ble_eq_true rfl) (fun Ψ C CR => ?_)
  show Ψ M 0 [(0, .ref (gad 28 0)), (1, .ref (gad 33 i1))] []
  refine r_iconst (pc := 0) C dX7_chooseOpaque_0 ki0 ?_
  refine r_istore_n (pc := 1) C dX7_chooseOpaque_1 rfl (by decide) rfl (ls' := [(2, .int 0), (0, .ref (gad 28 0)), (1, .ref (gad 33 i1))]) rfl ?_
  refine r_iconst (pc := 2) C dX7_chooseOpaque_2 ki0 ?_
  refine r_istore_n (pc := 3) C dX7_chooseOpaque_3 rfl (by decide) rfl (ls' := [(3, .int 0), (2, .int 0), (0, .ref (gad 28 0)), (1, .ref (gad 33 i1))]) rfl ?_
  refine r_sub C [2, 3, 1, 0] (ls' := [(0, .ref (gad 28 0)), (1, .ref (gad 33 i1)), (2, .int 0), (3, .int 0)]) rfl ?_
  obtain ⟨ev, hit, hr⟩ := gBind_some hr
  refine gIter_V (step := fun s => X7_chooseOpaque_L4 i1 s.1 s.2.1 s.2.2) (P := fun s => Ψ s.2.2 4 [(0, .ref (gad 28 0)), (1, .ref (gad 33 i1)), (2, .int (s.1)), (3, .int (s.2.1))] []) (K := (fun e => Ψ e.2 62 [(2, .int (e.1))] [])) (fun s w hs hn hx => t_X7_chooseOpaque_L4 C h1 hs hn hx) FU (0, 0, M) ev hit ?_
  obtain ⟨x2_14, M_15⟩ := ev
  replace hr := gU2_some hr
  show Ψ M_15 62 [(2, .int x2_14)] []
  refine r_iload_n (pc := 62) C dX7_chooseOpaque_62 rfl 0 rfl ?_
  exact r_iret (pc := 63) CR dX7_chooseOpaque_63 (congrArg (fun z => some (Value.int z)) (Prod.mk.inj (gSome hr)).1) (Prod.mk.inj (gSome hr)).2
theorem c_X7_chooseOpaque {Ψ : gM → Nat → List (Nat × Value) → List Value → Prop} {G : gG5} {nf : Nat} {cc : ByteArray} {own : String} {nL : Nat} {ret : Option FieldType} {fr lo : Nat} {v0 : Option Value} {M0 M : gM} {pc index : Nat} {ls : List (Nat × Value)} {st : List Value} (C : gC Ψ G (gXn nf) cc own nL ret fr lo v0 M0) (d : decode cc pc = .ok (.invokevirtual index, 3)) (hl : Cond.methodLink own index yX7_chooseOpaque ∈ gws) (hR : 2 ≤ fr ∧ 47 ≤ lo) {i1 : Nat} (h1 : i1 < nf + 3) {r : Int32} {M1 : gM} (hr : X7_chooseOpaque i1 M = some (r, M1)) (hcat : (st.map fun v => v.category).sum ≤ 8) (k : Ψ M1 (pc + 3) ls (.int r :: st)) : Ψ M pc ls (.ref (gad 33 i1) :: .ref (gad 28 0) :: st) := r_callV C [.ref (gad 33 i1)] st d (k_X7_chooseOpaque h1 hr) hl q1245 q33 q123 q1246 hd_X7_chooseOpaque hR rfl (by decide) (e28 nf) rfl hcat k
theorem hd_X7_ordersOf : yX7_ordersOf.cls ≠ "java/lang/invoke/MethodHandle" ∧ yX7_ordersOf.cls ≠ "java/lang/invoke/VarHandle" ∧ (parseMethodDescriptor yX7_ordersOf.desc).map (fun d => d.parameters.length) = some 1 := by decide +kernel
noncomputable def X7_ordersOf_L4 (x0 : Int32) (x1 : Int32) (x2 : Int32) (M : gM) : Option ((Int32 × Int32) ⊕ Int32) := (if x0 < x2 then some (.inr x1) else gLet ((x1 * x2)) (fun x1_2 => gLet (x2 + 1) (fun x2_3 => some (.inl (x1_2, x2_3)))))
theorem t_X7_ordersOf_L4 {Ψ : gM → Nat → List (Nat × Value) → List Value → Prop} {G : gG5} {nf : Nat} {M : gM} {v0 : Option Value} {M0 : gM} {x0 : Int32} {x1 : Int32} {x2 : Int32} {w : ((Int32 × Int32) ⊕ Int32)} (C : gC Ψ G (gXn nf) cX7_ordersOf RX7 3 (some .int) 0 0 v0 M0) (hr : X7_ordersOf_L4 x0 x1 x2 M = some w) (hn : ∀ s, w = .inl s → Ψ M 4 [(0, .int x0), (1, .int (s.1)), (2, .int (s.2))] []) (hx : ∀ e, w = .inr e → (fun e => Ψ M 19 [(1, .int e)] []) e) : Ψ M 4 [(0, .int x0), (1, .int x1), (2, .int x2)] [] := by
  refine r_iload_n (pc := 4) C dX7_ordersOf_4 rfl 2 rfl ?_
  refine r_iload_n (pc := 5) C dX7_ordersOf_5 rfl 0 rfl ?_
  refine r_icmp_gt (pc := 6) (tgt := 19) C dX7_ordersOf_6 rfl (fun c_1 => ?_) (fun c_1 => ?_)
  · replace hr := (if_pos c_1).symm.trans hr
    refine r_sub C [1] (ls' := [(1, .int x1)]) rfl ?_
    exact hx x1 (gSome hr)
  · replace hr := (if_neg c_1).symm.trans hr
    refine r_iload_n (pc := 9) C dX7_ordersOf_9 rfl 1 rfl ?_
    refine r_iload_n (pc := 10) C dX7_ordersOf_10 rfl 2 rfl ?_
    refine r_imul (pc := 11) C dX7_ordersOf_11 ?_
    obtain ⟨x1_2, ex1_2, hr⟩ := gLet_some hr
    refine r_istore_n (pc := 12) C dX7_ordersOf_12 rfl (by decide) ex1_2 (ls' := [(1, .int x1_2), (0, .int x0), (2, .int x2)]) rfl ?_
    obtain ⟨x2_3, ex2_3, hr⟩ := gLet_some hr
    refine r_iinc (pc := 13) C dX7_ordersOf_13 2 rfl rfl (by decide) ex2_3 (ls' := [(2, .int x2_3), (1, .int x1_2), (0, .int x0)]) rfl ?_
    refine r_goto (pc := 16) (tgt := 4) C dX7_ordersOf_16 rfl ?_
    refine r_sub C [2, 1, 0] (ls' := [(0, .int x0), (1, .int x1_2), (2, .int x2_3)]) rfl ?_
    exact hn (x1_2, x2_3) (gSome hr)
noncomputable def X7_ordersOf (p0 : Int32) (M : gM) : Option Int32 := (gIter (fun s => X7_ordersOf_L4 p0 s.1 s.2 M) FU (1, 2)).bind (fun x1_4 => some x1_4)
theorem k_X7_ordersOf {G : gG5} {nf : Nat} {M : gM} {p0 : Int32} {r : Int32} (hr : X7_ordersOf p0 M = some r) : gMet G (gXn nf) yX7_ordersOf cX7_ordersOf 3 (some .int) 0 0 M [.int p0] (some (.int r)) M := by
  refine gMet_of pl_X7 rfl (Nat.le_of_ble_eq_true rfl) (fun Ψ C CR => ?_)
  show Ψ M 0 [(0, .int p0)] []
  refine r_iconst (pc := 0) C dX7_ordersOf_0 ki1 ?_
  refine r_istore_n (pc := 1) C dX7_ordersOf_1 rfl (by decide) rfl (ls' := [(1, .int 1), (0, .int p0)]) rfl ?_
  refine r_iconst (pc := 2) C dX7_ordersOf_2 ki2 ?_
  refine r_istore_n (pc := 3) C dX7_ordersOf_3 rfl (by decide) rfl (ls' := [(2, .int 2), (1, .int 1), (0, .int p0)]) rfl ?_
  refine r_sub C [2, 1, 0] (ls' := [(0, .int p0), (1, .int 1), (2, .int 2)]) rfl ?_
  obtain ⟨ev, hit, hr⟩ := gBind_some hr
  refine gIter_V (step := fun s => X7_ordersOf_L4 p0 s.1 s.2 M) (P := fun s => Ψ M 4 [(0, .int p0), (1, .int (s.1)), (2, .int (s.2))] []) (K := (fun e => Ψ M 19 [(1, .int e)] [])) (fun s w hs hn hx => t_X7_ordersOf_L4 C  hs hn hx) FU (1, 2) ev hit ?_
  obtain ⟨x1_4, rfl⟩ : ∃ z, z = ev := ⟨_, rfl⟩
  show Ψ M 19 [(1, .int x1_4)] []
  refine r_iload_n (pc := 19) C dX7_ordersOf_19 rfl 0 rfl ?_
  exact r_iret (pc := 20) CR dX7_ordersOf_20 (congrArg (fun z => some (Value.int z)) (gSome hr)) rfl
theorem c_X7_ordersOf {Ψ : gM → Nat → List (Nat × Value) → List Value → Prop} {G : gG5} {nf : Nat} {cc : ByteArray} {own : String} {nL : Nat} {ret : Option FieldType} {fr lo : Nat} {v0 : Option Value} {M0 M : gM} {pc index : Nat} {ls : List (Nat × Value)} {st : List Value} (C : gC Ψ G (gXn nf) cc own nL ret fr lo v0 M0) (d : decode cc pc = .ok (.invokestatic index, 3)) (hl : Cond.methodLink own index yX7_ordersOf ∈ gws) (hR : 1 ≤ fr ∧ 22 ≤ lo) {p0 : Int32} {r : Int32} (hr : X7_ordersOf p0 M = some r) (hcat : (st.map fun v => v.category).sum ≤ 8) (k : Ψ M (pc + 3) ls (.int r :: st)) : Ψ M pc ls (.int p0 :: st) := r_callS C [.int p0] st d (k_X7_ordersOf hr) hl q1248 q123 q1249 hd_X7_ordersOf hR rfl hcat k
theorem hd_X7_drawInOrder : yX7_drawInOrder.cls ≠ "java/lang/invoke/MethodHandle" ∧ yX7_drawInOrder.cls ≠ "java/lang/invoke/VarHandle" ∧ (parseMethodDescriptor yX7_drawInOrder.desc).map (fun d => d.parameters.length) = some 2 := by decide +kernel
noncomputable def X7_drawInOrder_L106 (x3 : Int32) (x4 : Int32) (x7 : Int32) (M : gM) : Option ((Int32 × gM) ⊕ gM) := (if 4 ≤ (x7 + 1) then some (.inr M) else gG (gin (x7 + 1) 4) (gG (gin x7 4) (gLet (wI M 31 0 (Int32.toNatClampNeg x7) (M.1 31 0 (Int32.toNatClampNeg (x7 + 1)))) (fun M_19 => gLet (x7 + 1) (fun x7_20 => some (.inl (x7_20, M_19)))))))
theorem t_X7_drawInOrder_L106 {Ψ : gM → Nat → List (Nat × Value) → List Value → Prop} {G : gG5} {nf : Nat} {M : gM} {v0 : Option Value} {M0 : gM} {x3 : Int32} {x4 : Int32} {x7 : Int32} {w : ((Int32 × gM) ⊕ gM)} (C : gC Ψ G (gXn nf) cX7_drawInOrder RX7 8 none 4 103 v0 M0) (hr : X7_drawInOrder_L106 x3 x4 x7 M = some w) (hn : ∀ s, w = .inl s → Ψ s.2 106 [(0, .ref (gad 28 0)), (3, .int x3), (4, .int x4), (7, .int (s.1))] []) (hx : ∀ e, w = .inr e → (fun e => Ψ e 136 [(0, .ref (gad 28 0)), (3, .int x3), (4, .int x4)] []) e) : Ψ M 106 [(0, .ref (gad 28 0)), (3, .int x3), (4, .int x4), (7, .int x7)] [] := by
  refine r_iload (pc := 106) C dX7_drawInOrder_106 3 rfl ?_
  refine r_iconst (pc := 108) C dX7_drawInOrder_108 ki1 ?_
  refine r_iadd (pc := 109) C dX7_drawInOrder_109 ?_
  refine r_iconst (pc := 110) C dX7_drawInOrder_110 ki4 ?_
  refine r_icmp_ge (pc := 111) (tgt := 136) C dX7_drawInOrder_111 rfl (fun c_16 => ?_) (fun c_16 => ?_)
  · replace hr := (if_pos c_16).symm.trans hr
    refine r_sub C [0, 1, 2] (ls' := [(0, .ref (gad 28 0)), (3, .int x3), (4, .int x4)]) rfl ?_
    exact hx M (gSome hr)
  · replace hr := (if_neg c_16).symm.trans hr
    refine r_aload_n (pc := 114) C dX7_drawInOrder_114 rfl 0 rfl ?_
    refine g28_5 (pc := 115) C dX7_drawInOrder_115 q473 (e28 nf) ?_
    refine r_iload (pc := 118) C dX7_drawInOrder_118 3 rfl ?_
    refine r_aload_n (pc := 120) C dX7_drawInOrder_120 rfl 0 rfl ?_
    refine g28_5 (pc := 121) C dX7_drawInOrder_121 q473 (e28 nf) ?_
    refine r_iload (pc := 124) C dX7_drawInOrder_124 3 rfl ?_
    refine r_iconst (pc := 126) C dX7_drawInOrder_126 ki1 ?_
    refine r_iadd (pc := 127) C dX7_drawInOrder_127 ?_
    obtain ⟨g_17, hr⟩ := gG_some hr
    refine r_ialdN (pc := 128) C dX7_drawInOrder_128 rfl (e31 nf) g_17 rfl ?_
    obtain ⟨g_18, hr⟩ := gG_some hr
    obtain ⟨M_19, eM_19, hr⟩ := gLet_some hr
    refine r_iastN (pc := 129) C dX7_drawInOrder_129 rfl (e31 nf) g_18 rfl eM_19 ?_
    obtain ⟨x7_20, ex7_20, hr⟩ := gLet_some hr
    refine r_iinc (pc := 130) C dX7_drawInOrder_130 3 rfl rfl (by decide) ex7_20 (ls' := [(7, .int x7_20), (0, .ref (gad 28 0)), (3, .int x3), (4, .int x4)]) rfl ?_
    refine r_goto (pc := 133) (tgt := 106) C dX7_drawInOrder_133 rfl ?_
    refine r_sub C [1, 2, 3, 0] (ls' := [(0, .ref (gad 28 0)), (3, .int x3), (4, .int x4), (7, .int x7_20)]) rfl ?_
    exact hn (x7_20, M_19) (gSome hr)
noncomputable def X7_drawInOrder_J61 (x3 : Int32) (x4 : Int32) (x5 : Int32) (xs0 : Int32) (M : gM) : Option ((Int32 × Int32 × gM) ⊕ (gM ⊕ gM)) := gLet ((x3 - (xs0 * x5))) (fun x3_9 => (if xs0 < 0 then some (.inr (.inl M)) else (if xs0 < 4 then gG (gin xs0 4) ((X9_drawOne 2 (M.1 31 0 (Int32.toNatClampNeg xs0)) M).bind (gU2 (fun r_14 M_15 => (gIter (fun s => X7_drawInOrder_L106 x3_9 x4 s.1 s.2) FU (xs0, M_15)).bind (fun M_21 => gLet (x4 + (-1)) (fun x4_22 => some (.inl (x3_9, x4_22, M_21))))))) else some (.inr (.inl M)))))
theorem t_X7_drawInOrder_J61 {Ψ : gM → Nat → List (Nat × Value) → List Value → Prop} {G : gG5} {nf : Nat} {M : gM} {v0 : Option Value} {M0 : gM} {x3 : Int32} {x4 : Int32} {x5 : Int32} {xs0 : Int32} {w : ((Int32 × Int32 × gM) ⊕ (gM ⊕ gM))} (C : gC Ψ G (gXn nf) cX7_drawInOrder RX7 8 none 4 103 v0 M0) (hr : X7_drawInOrder_J61 x3 x4 x5 xs0 M = some w) (hn : ∀ s, w = .inl s → Ψ s.2.2 34 [(0, .ref (gad 28 0)), (3, .int (s.1)), (4, .int (s.2.1))] []) (hx : ∀ e, w = .inr e → (gSP (fun e => Ψ e 82 [] []) (fun e => Ψ e 142 [(0, .ref (gad 28 0))] [])) e) : Ψ M 61 [(0, .ref (gad 28 0)), (3, .int x3), (4, .int x4), (5, .int x5)] [.int xs0] := by
  refine r_istore (pc := 61) C dX7_drawInOrder_61 (by decide) rfl (ls' := [(6, .int xs0), (0, .ref (gad 28 0)), (3, .int x3), (4, .int x4), (5, .int x5)]) rfl ?_
  refine r_iload_n (pc := 63) C dX7_drawInOrder_63 rfl 2 rfl ?_
  refine r_iload (pc := 64) C dX7_drawInOrder_64 0 rfl ?_
  refine r_iload (pc := 66) C dX7_drawInOrder_66 4 rfl ?_
  refine r_imul (pc := 68) C dX7_drawInOrder_68 ?_
  refine r_isub (pc := 69) C dX7_drawInOrder_69 ?_
  obtain ⟨x3_9, ex3_9, hr⟩ := gLet_some hr
  refine r_istore_n (pc := 70) C dX7_drawInOrder_70 rfl (by decide) ex3_9 (ls' := [(3, .int x3_9), (6, .int xs0), (0, .ref (gad 28 0)), (4, .int x4), (5, .int x5)]) rfl ?_
  refine r_iload (pc := 71) C dX7_drawInOrder_71 1 rfl ?_
  refine r_if_lt (pc := 73) (tgt := 82) C dX7_drawInOrder_73 rfl (fun c_10 => ?_) (fun c_10 => ?_)
  · replace hr := (if_pos c_10).symm.trans hr
    refine r_sub C [] (ls' := []) rfl ?_
    exact hx (.inl M) (gSome hr)
  · replace hr := (if_neg c_10).symm.trans hr
    refine r_iload (pc := 76) C dX7_drawInOrder_76 1 rfl ?_
    refine r_iconst (pc := 78) C dX7_drawInOrder_78 ki4 ?_
    refine r_icmp_lt (pc := 79) (tgt := 83) C dX7_drawInOrder_79 rfl (fun c_11 => ?_) (fun c_11 => ?_)
    · replace hr := (if_pos c_11).symm.trans hr
      refine r_aload_n (pc := 83) C dX7_drawInOrder_83 rfl 2 rfl ?_
      refine g28_2 (pc := 84) C dX7_drawInOrder_84 q470 (e28 nf) ?_
      refine r_aload_n (pc := 87) C dX7_drawInOrder_87 rfl 2 rfl ?_
      refine g28_6 (pc := 88) C dX7_drawInOrder_88 q474 (e28 nf) ?_
      refine r_aload_n (pc := 91) C dX7_drawInOrder_91 rfl 2 rfl ?_
      refine g28_5 (pc := 92) C dX7_drawInOrder_92 q473 (e28 nf) ?_
      refine r_iload (pc := 95) C dX7_drawInOrder_95 1 rfl ?_
      obtain ⟨g_12, hr⟩ := gG_some hr
      refine r_ialdN (pc := 97) C dX7_drawInOrder_97 rfl (e31 nf) g_12 rfl ?_
      obtain ⟨⟨r_14, M_15⟩, hc_13, hr⟩ := gBind_some hr
      replace hr := gU2_some hr
      refine c_X9_drawOne (pc := 98) C dX7_drawInOrder_98 q1197 ⟨Nat.le_of_ble_eq_true rfl, Nat.le_of_ble_eq_true rfl⟩ (gf2 nf) hc_13 (Nat.le_of_ble_eq_true rfl) ?_
      refine r_pop (pc := 101) C dX7_drawInOrder_101 rfl ?_
      refine r_iload (pc := 102) C dX7_drawInOrder_102 1 rfl ?_
      refine r_istore (pc := 104) C dX7_drawInOrder_104 (by decide) rfl (ls' := [(7, .int xs0), (3, .int x3_9), (6, .int xs0), (0, .ref (gad 28 0)), (4, .int x4), (5, .int x5)]) rfl ?_
      refine r_sub C [3, 1, 4, 0] (ls' := [(0, .ref (gad 28 0)), (3, .int x3_9), (4, .int x4), (7, .int xs0)]) rfl ?_
      obtain ⟨ev, hit, hr⟩ := gBind_some hr
      refine gIter_V (step := fun s => X7_drawInOrder_L106 x3_9 x4 s.1 s.2) (P := fun s => Ψ s.2 106 [(0, .ref (gad 28 0)), (3, .int x3_9), (4, .int x4), (7, .int (s.1))] []) (K := (fun e => Ψ e 136 [(0, .ref (gad 28 0)), (3, .int x3_9), (4, .int x4)] [])) (fun s w hs hn hx => t_X7_drawInOrder_L106 C  hs hn hx) FU (xs0, M_15) ev hit ?_
      obtain ⟨M_21, rfl⟩ : ∃ z, z = ev := ⟨_, rfl⟩
      show Ψ M_21 136 [(0, .ref (gad 28 0)), (3, .int x3_9), (4, .int x4)] []
      obtain ⟨x4_22, ex4_22, hr⟩ := gLet_some hr
      refine r_iinc (pc := 136) C dX7_drawInOrder_136 2 rfl rfl (by decide) ex4_22 (ls' := [(4, .int x4_22), (0, .ref (gad 28 0)), (3, .int x3_9)]) rfl ?_
      refine r_goto (pc := 139) (tgt := 34) C dX7_drawInOrder_139 rfl ?_
      refine r_sub C [1, 2, 0] (ls' := [(0, .ref (gad 28 0)), (3, .int x3_9), (4, .int x4_22)]) rfl ?_
      exact hn (x3_9, x4_22, M_21) (gSome hr)
    · replace hr := (if_neg c_11).symm.trans hr
      refine r_sub C [] (ls' := []) rfl ?_
      exact hx (.inl M) (gSome hr)
noncomputable def X7_drawInOrder_L34 (x3 : Int32) (x4 : Int32) (M : gM) : Option ((Int32 × Int32 × gM) ⊕ (gM ⊕ gM)) := (if x4 ≤ 0 then some (.inr (.inr M)) else (X7_ordersOf (x4 - 1) M).bind (fun r_7 => (if r_7 ≤ 0 then X7_drawInOrder_J61 x3 x4 r_7 0 M else gG (decide (¬ r_7 = 0)) (X7_drawInOrder_J61 x3 x4 r_7 (x3 / r_7) M))))
theorem t_X7_drawInOrder_L34 {Ψ : gM → Nat → List (Nat × Value) → List Value → Prop} {G : gG5} {nf : Nat} {M : gM} {v0 : Option Value} {M0 : gM} {x3 : Int32} {x4 : Int32} {w : ((Int32 × Int32 × gM) ⊕ (gM ⊕ gM))} (C : gC Ψ G (gXn nf) cX7_drawInOrder RX7 8 none 4 103 v0 M0) (hr : X7_drawInOrder_L34 x3 x4 M = some w) (hn : ∀ s, w = .inl s → Ψ s.2.2 34 [(0, .ref (gad 28 0)), (3, .int (s.1)), (4, .int (s.2.1))] []) (hx : ∀ e, w = .inr e → (gSP (fun e => Ψ e 82 [] []) (fun e => Ψ e 142 [(0, .ref (gad 28 0))] [])) e) : Ψ M 34 [(0, .ref (gad 28 0)), (3, .int x3), (4, .int x4)] [] := by
  refine r_iload (pc := 34) C dX7_drawInOrder_34 2 rfl ?_
  refine r_if_le (pc := 36) (tgt := 142) C dX7_drawInOrder_36 rfl (fun c_5 => ?_) (fun c_5 => ?_)
  · replace hr := (if_pos c_5).symm.trans hr
    refine r_sub C [0] (ls' := [(0, .ref (gad 28 0))]) rfl ?_
    exact hx (.inr M) (gSome hr)
  · replace hr := (if_neg c_5).symm.trans hr
    refine r_iload (pc := 39) C dX7_drawInOrder_39 2 rfl ?_
    refine r_iconst (pc := 41) C dX7_drawInOrder_41 ki1 ?_
    refine r_isub (pc := 42) C dX7_drawInOrder_42 ?_
    obtain ⟨r_7, hc_6, hr⟩ := gBind_some hr
    refine c_X7_ordersOf (pc := 43) C dX7_drawInOrder_43 q1247 ⟨Nat.le_of_ble_eq_true rfl, Nat.le_of_ble_eq_true rfl⟩ hc_6 (Nat.le_of_ble_eq_true rfl) ?_
    refine r_istore (pc := 46) C dX7_drawInOrder_46 (by decide) rfl (ls' := [(5, .int r_7), (0, .ref (gad 28 0)), (3, .int x3), (4, .int x4)]) rfl ?_
    refine r_iload (pc := 48) C dX7_drawInOrder_48 0 rfl ?_
    refine r_if_le (pc := 50) (tgt := 60) C dX7_drawInOrder_50 rfl (fun c_8 => ?_) (fun c_8 => ?_)
    · replace hr := (if_pos c_8).symm.trans hr
      refine r_iconst (pc := 60) C dX7_drawInOrder_60 ki0 ?_
      refine r_sub C [1, 2, 3, 0] (ls' := [(0, .ref (gad 28 0)), (3, .int x3), (4, .int x4), (5, .int r_7)]) rfl ?_
      exact t_X7_drawInOrder_J61 C  hr hn hx
    · replace hr := (if_neg c_8).symm.trans hr
      refine r_iload_n (pc := 53) C dX7_drawInOrder_53 rfl 2 rfl ?_
      refine r_iload (pc := 54) C dX7_drawInOrder_54 0 rfl ?_
      obtain ⟨g_23, hr⟩ := gG_some hr
      refine r_idiv (pc := 56) C dX7_drawInOrder_56 (of_decide_eq_true g_23) ?_
      refine r_goto (pc := 57) (tgt := 61) C dX7_drawInOrder_57 rfl ?_
      refine r_sub C [1, 2, 3, 0] (ls' := [(0, .ref (gad 28 0)), (3, .int x3), (4, .int x4), (5, .int r_7)]) rfl ?_
      exact t_X7_drawInOrder_J61 C  hr hn hx
noncomputable def X7_drawInOrder (p1 : Int32) (p2 : Int32) (M : gM) : Option gM := gLet (cpI M 30 0 31 0 4) (fun M_1 => (X0_wipe 2 (M_1.1 5 1 4) M_1).bind (gU2 (fun r_3 M_4 => (gIter (fun s => X7_drawInOrder_L34 s.1 s.2.1 s.2.2) FU (p1, p2, M_4)).bind (gS2 (fun M_24 => some M_24) (fun M_25 => (X9_flushAll 2 M_25).bind (gU2 (fun r_27 M_28 => some M_28)))))))
theorem k_X7_drawInOrder {G : gG5} {nf : Nat} {M : gM} {p1 : Int32} {p2 : Int32} {M1 : gM} (hr : X7_drawInOrder p1 p2 M = some M1) : gMet G (gXn nf) yX7_drawInOrder cX7_drawInOrder 8 none 4 103 M [.ref (gad 28 0), .int p1, .int p2] none M1 := by
  refine gMet_of pl_X7 rfl (Nat.le_of_ble_eq_true rfl) (fun Ψ C CR => ?_)
  show Ψ M 0 [(0, .ref (gad 28 0)), (1, .int p1), (2, .int p2)] []
  refine r_aload_n (pc := 0) C dX7_drawInOrder_0 rfl 0 rfl ?_
  refine g28_4 (pc := 1) C dX7_drawInOrder_1 q472 (e28 nf) ?_
  refine r_iconst (pc := 4) C dX7_drawInOrder_4 ki0 ?_
  refine r_aload_n (pc := 5) C dX7_drawInOrder_5 rfl 0 rfl ?_
  refine g28_5 (pc := 6) C dX7_drawInOrder_6 q473 (e28 nf) ?_
  refine r_iconst (pc := 9) C dX7_drawInOrder_9 ki0 ?_
  refine r_iconst (pc := 10) C dX7_drawInOrder_10 ki4 ?_
  obtain ⟨M_1, eM_1, hr⟩ := gLet_some hr
  refine r_copyI (pc := 11) (n := 4) C dX7_drawInOrder_11 q1254 rfl rfl (e30 nf) (e31 nf) ⟨rfl, rfl, by decide, by decide⟩ ⟨Nat.le_of_ble_eq_true rfl, Nat.le_of_ble_eq_true rfl⟩ eM_1 (by decide) (Nat.le_of_ble_eq_true rfl) ?_
  refine r_aload_n (pc := 14) C dX7_drawInOrder_14 rfl 0 rfl ?_
  refine g28_6 (pc := 15) C dX7_drawInOrder_15 q474 (e28 nf) ?_
  refine r_aload_n (pc := 18) C dX7_drawInOrder_18 rfl 0 rfl ?_
  refine g28_0 (pc := 19) C dX7_drawInOrder_19 q468 (e28 nf) ?_
  refine g5_4 (pc := 22) C dX7_drawInOrder_22 q209 (e5 (nf := nf) (by decide)) ?_
  obtain ⟨⟨r_3, M_4⟩, hc_2, hr⟩ := gBind_some hr
  replace hr := gU2_some hr
  refine c_X0_wipe (pc := 25) C dX7_drawInOrder_25 q1196 ⟨Nat.le_of_ble_eq_true rfl, Nat.le_of_ble_eq_true rfl⟩ (gf2 nf) hc_2 (Nat.le_of_ble_eq_true rfl) ?_
  refine r_pop (pc := 28) C dX7_drawInOrder_28 rfl ?_
  refine r_iload_n (pc := 29) C dX7_drawInOrder_29 rfl 1 rfl ?_
  refine r_istore_n (pc := 30) C dX7_drawInOrder_30 rfl (by decide) rfl (ls' := [(3, .int p1), (0, .ref (gad 28 0)), (1, .int p1), (2, .int p2)]) rfl ?_
  refine r_iload_n (pc := 31) C dX7_drawInOrder_31 rfl 3 rfl ?_
  refine r_istore (pc := 32) C dX7_drawInOrder_32 (by decide) rfl (ls' := [(4, .int p2), (3, .int p1), (0, .ref (gad 28 0)), (1, .int p1), (2, .int p2)]) rfl ?_
  refine r_sub C [2, 1, 0] (ls' := [(0, .ref (gad 28 0)), (3, .int p1), (4, .int p2)]) rfl ?_
  obtain ⟨ev, hit, hr⟩ := gBind_some hr
  refine gIter_V (step := fun s => X7_drawInOrder_L34 s.1 s.2.1 s.2.2) (P := fun s => Ψ s.2.2 34 [(0, .ref (gad 28 0)), (3, .int (s.1)), (4, .int (s.2.1))] []) (K := (gSP (fun e => Ψ e 82 [] []) (fun e => Ψ e 142 [(0, .ref (gad 28 0))] []))) (fun s w hs hn hx => t_X7_drawInOrder_L34 C  hs hn hx) FU (p1, p2, M_4) ev hit ?_
  rcases ev with M_24 | M_25
  · replace hr := gS2_l hr
    show Ψ M_24 82 [] []
    exact r_vret (pc := 82) CR dX7_drawInOrder_82 rfl (gSome hr)
  · replace hr := gS2_r hr
    show Ψ M_25 142 [(0, .ref (gad 28 0))] []
    refine r_aload_n (pc := 142) C dX7_drawInOrder_142 rfl 0 rfl ?_
    refine g28_2 (pc := 143) C dX7_drawInOrder_143 q470 (e28 nf) ?_
    refine r_aload_n (pc := 146) C dX7_drawInOrder_146 rfl 0 rfl ?_
    refine g28_6 (pc := 147) C dX7_drawInOrder_147 q474 (e28 nf) ?_
    obtain ⟨⟨r_27, M_28⟩, hc_26, hr⟩ := gBind_some hr
    replace hr := gU2_some hr
    refine c_X9_flushAll (pc := 150) C dX7_drawInOrder_150 q1187 ⟨Nat.le_of_ble_eq_true rfl, Nat.le_of_ble_eq_true rfl⟩ (gf2 nf) hc_26 (Nat.le_of_ble_eq_true rfl) ?_
    refine r_pop (pc := 153) C dX7_drawInOrder_153 rfl ?_
    exact r_vret (pc := 154) CR dX7_drawInOrder_154 rfl (gSome hr)
theorem c_X7_drawInOrder {Ψ : gM → Nat → List (Nat × Value) → List Value → Prop} {G : gG5} {nf : Nat} {cc : ByteArray} {own : String} {nL : Nat} {ret : Option FieldType} {fr lo : Nat} {v0 : Option Value} {M0 M : gM} {pc index : Nat} {ls : List (Nat × Value)} {st : List Value} (C : gC Ψ G (gXn nf) cc own nL ret fr lo v0 M0) (d : decode cc pc = .ok (.invokevirtual index, 3)) (hl : Cond.methodLink own index yX7_drawInOrder ∈ gws) (hR : 5 ≤ fr ∧ 130 ≤ lo) {p1 : Int32} {p2 : Int32} {M1 : gM} (hr : X7_drawInOrder p1 p2 M = some M1) (hcat : (st.map fun v => v.category).sum ≤ 8) (k : Ψ M1 (pc + 3) ls (st)) : Ψ M pc ls (.int p2 :: .int p1 :: .ref (gad 28 0) :: st) := r_callV C [.int p1, .int p2] st d (k_X7_drawInOrder hr) hl q1252 q34 q123 q1253 hd_X7_drawInOrder hR rfl (by decide) (e28 nf) rfl hcat k
theorem hd_X7_tryOrders : yX7_tryOrders.cls ≠ "java/lang/invoke/MethodHandle" ∧ yX7_tryOrders.cls ≠ "java/lang/invoke/VarHandle" ∧ (parseMethodDescriptor yX7_tryOrders.desc).map (fun d => d.parameters.length) = some 1 := by decide +kernel
noncomputable def X7_tryOrders_J98 (x2 : Int32) (x3 : Int32) (x4 : Int32) (x5 : Int32) (M : gM) : Option ((Int32 × gM) ⊕ gM) := gLet (wI M 32 0 2 (gmax (M.1 32 0 2) x5)) (fun M_19 => gLet (x4 + 1) (fun x4_20 => some (.inl (x4_20, M_19))))
theorem t_X7_tryOrders_J98 {Ψ : gM → Nat → List (Nat × Value) → List Value → Prop} {G : gG5} {nf : Nat} {M : gM} {v0 : Option Value} {M0 : gM} {x2 : Int32} {x3 : Int32} {x4 : Int32} {x5 : Int32} {w : ((Int32 × gM) ⊕ gM)} (C : gC Ψ G (gXn nf) cX7_tryOrders RX7 6 none 5 130 v0 M0) (hr : X7_tryOrders_J98 x2 x3 x4 x5 M = some w) (hn : ∀ s, w = .inl s → Ψ s.2 40 [(0, .ref (gad 28 0)), (2, .int x2), (3, .int x3), (4, .int (s.1))] []) (hx : ∀ e, w = .inr e → (fun e => Ψ e 121 [] []) e) : Ψ M 98 [(0, .ref (gad 28 0)), (2, .int x2), (3, .int x3), (4, .int x4), (5, .int x5)] [] := by
  refine r_aload_n (pc := 98) C dX7_tryOrders_98 rfl 0 rfl ?_
  refine g28_7 (pc := 99) C dX7_tryOrders_99 q476 (e28 nf) ?_
  refine r_iconst (pc := 102) C dX7_tryOrders_102 ki2 ?_
  refine r_aload_n (pc := 103) C dX7_tryOrders_103 rfl 0 rfl ?_
  refine g28_7 (pc := 104) C dX7_tryOrders_104 q476 (e28 nf) ?_
  refine r_iconst (pc := 107) C dX7_tryOrders_107 ki2 ?_
  refine r_ialdN (pc := 108) C dX7_tryOrders_108 rfl (e32 nf) (by decide : gin 2 3 = true) kc2 ?_
  refine r_iload (pc := 109) C dX7_tryOrders_109 4 rfl ?_
  refine r_max (pc := 111) C dX7_tryOrders_111 q1256 (by decide) (Nat.le_of_ble_eq_true rfl) ?_
  obtain ⟨M_19, eM_19, hr⟩ := gLet_some hr
  refine r_iastN (pc := 114) C dX7_tryOrders_114 rfl (e32 nf) (by decide : gin 2 3 = true) kc2 eM_19 ?_
  obtain ⟨x4_20, ex4_20, hr⟩ := gLet_some hr
  refine r_iinc (pc := 115) C dX7_tryOrders_115 3 rfl rfl (by decide) ex4_20 (ls' := [(4, .int x4_20), (0, .ref (gad 28 0)), (2, .int x2), (3, .int x3), (5, .int x5)]) rfl ?_
  refine r_goto (pc := 118) (tgt := 40) C dX7_tryOrders_118 rfl ?_
  refine r_sub C [1, 2, 3, 0] (ls' := [(0, .ref (gad 28 0)), (2, .int x2), (3, .int x3), (4, .int x4_20)]) rfl ?_
  exact hn (x4_20, M_19) (gSome hr)
noncomputable def X7_tryOrders_J82 (x2 : Int32) (x3 : Int32) (x4 : Int32) (x5 : Int32) (M : gM) : Option ((Int32 × gM) ⊕ gM) := gLet (wI M 32 0 0 x5) (fun M_17 => gLet (wI M_17 32 0 1 x4) (fun M_18 => X7_tryOrders_J98 x2 x3 x4 x5 M_18))
theorem t_X7_tryOrders_J82 {Ψ : gM → Nat → List (Nat × Value) → List Value → Prop} {G : gG5} {nf : Nat} {M : gM} {v0 : Option Value} {M0 : gM} {x2 : Int32} {x3 : Int32} {x4 : Int32} {x5 : Int32} {w : ((Int32 × gM) ⊕ gM)} (C : gC Ψ G (gXn nf) cX7_tryOrders RX7 6 none 5 130 v0 M0) (hr : X7_tryOrders_J82 x2 x3 x4 x5 M = some w) (hn : ∀ s, w = .inl s → Ψ s.2 40 [(0, .ref (gad 28 0)), (2, .int x2), (3, .int x3), (4, .int (s.1))] []) (hx : ∀ e, w = .inr e → (fun e => Ψ e 121 [] []) e) : Ψ M 82 [(0, .ref (gad 28 0)), (2, .int x2), (3, .int x3), (4, .int x4), (5, .int x5)] [] := by
  refine r_aload_n (pc := 82) C dX7_tryOrders_82 rfl 0 rfl ?_
  refine g28_7 (pc := 83) C dX7_tryOrders_83 q476 (e28 nf) ?_
  refine r_iconst (pc := 86) C dX7_tryOrders_86 ki0 ?_
  refine r_iload (pc := 87) C dX7_tryOrders_87 4 rfl ?_
  obtain ⟨M_17, eM_17, hr⟩ := gLet_some hr
  refine r_iastN (pc := 89) C dX7_tryOrders_89 rfl (e32 nf) (by decide : gin 0 3 = true) kc0 eM_17 ?_
  refine r_aload_n (pc := 90) C dX7_tryOrders_90 rfl 0 rfl ?_
  refine g28_7 (pc := 91) C dX7_tryOrders_91 q476 (e28 nf) ?_
  refine r_iconst (pc := 94) C dX7_tryOrders_94 ki1 ?_
  refine r_iload (pc := 95) C dX7_tryOrders_95 3 rfl ?_
  obtain ⟨M_18, eM_18, hr⟩ := gLet_some hr
  refine r_iastN (pc := 97) C dX7_tryOrders_97 rfl (e32 nf) (by decide : gin 1 3 = true) kc1 eM_18 ?_
  exact t_X7_tryOrders_J98 C  hr hn hx
noncomputable def X7_tryOrders_L40 (x2 : Int32) (x3 : Int32) (x4 : Int32) (M : gM) : Option ((Int32 × gM) ⊕ gM) := (if x3 ≤ x4 then some (.inr M) else (if x2 ≤ 0 then some (.inr M) else (X7_drawInOrder x4 x2 M).bind (fun M_13 => (X0_pairs 2 M_13).bind (fun r_15 => (if x4 = 0 then X7_tryOrders_J82 x2 x3 x4 r_15 M_13 else (if (M_13.1 32 0 0) ≤ r_15 then X7_tryOrders_J98 x2 x3 x4 r_15 M_13 else X7_tryOrders_J82 x2 x3 x4 r_15 M_13))))))
theorem t_X7_tryOrders_L40 {Ψ : gM → Nat → List (Nat × Value) → List Value → Prop} {G : gG5} {nf : Nat} {M : gM} {v0 : Option Value} {M0 : gM} {x2 : Int32} {x3 : Int32} {x4 : Int32} {w : ((Int32 × gM) ⊕ gM)} (C : gC Ψ G (gXn nf) cX7_tryOrders RX7 6 none 5 130 v0 M0) (hr : X7_tryOrders_L40 x2 x3 x4 M = some w) (hn : ∀ s, w = .inl s → Ψ s.2 40 [(0, .ref (gad 28 0)), (2, .int x2), (3, .int x3), (4, .int (s.1))] []) (hx : ∀ e, w = .inr e → (fun e => Ψ e 121 [] []) e) : Ψ M 40 [(0, .ref (gad 28 0)), (2, .int x2), (3, .int x3), (4, .int x4)] [] := by
  refine r_iload (pc := 40) C dX7_tryOrders_40 3 rfl ?_
  refine r_iload_n (pc := 42) C dX7_tryOrders_42 rfl 2 rfl ?_
  refine r_icmp_ge (pc := 43) (tgt := 121) C dX7_tryOrders_43 rfl (fun c_10 => ?_) (fun c_10 => ?_)
  · replace hr := (if_pos c_10).symm.trans hr
    refine r_sub C [] (ls' := []) rfl ?_
    exact hx M (gSome hr)
  · replace hr := (if_neg c_10).symm.trans hr
    refine r_iload_n (pc := 46) C dX7_tryOrders_46 rfl 1 rfl ?_
    refine r_if_le (pc := 47) (tgt := 121) C dX7_tryOrders_47 rfl (fun c_11 => ?_) (fun c_11 => ?_)
    · replace hr := (if_pos c_11).symm.trans hr
      refine r_sub C [] (ls' := []) rfl ?_
      exact hx M (gSome hr)
    · replace hr := (if_neg c_11).symm.trans hr
      refine r_aload_n (pc := 50) C dX7_tryOrders_50 rfl 0 rfl ?_
      refine r_iload (pc := 51) C dX7_tryOrders_51 3 rfl ?_
      refine r_iload_n (pc := 53) C dX7_tryOrders_53 rfl 1 rfl ?_
      obtain ⟨M_13, hc_12, hr⟩ := gBind_some hr
      refine c_X7_drawInOrder (pc := 54) C dX7_tryOrders_54 q1250 ⟨Nat.le_of_ble_eq_true rfl, Nat.le_of_ble_eq_true rfl⟩ hc_12 (Nat.le_of_ble_eq_true rfl) ?_
      refine r_aload_n (pc := 57) C dX7_tryOrders_57 rfl 0 rfl ?_
      refine g28_6 (pc := 58) C dX7_tryOrders_58 q474 (e28 nf) ?_
      obtain ⟨r_15, hc_14, hr⟩ := gBind_some hr
      refine c_X0_pairs (pc := 61) C dX7_tryOrders_61 q1255 ⟨Nat.le_of_ble_eq_true rfl, Nat.le_of_ble_eq_true rfl⟩ (gf2 nf) hc_14 (Nat.le_of_ble_eq_true rfl) ?_
      refine r_istore (pc := 64) C dX7_tryOrders_64 (by decide) rfl (ls' := [(5, .int r_15), (0, .ref (gad 28 0)), (2, .int x2), (3, .int x3), (4, .int x4)]) rfl ?_
      refine r_iload (pc := 66) C dX7_tryOrders_66 4 rfl ?_
      refine r_if_eq (pc := 68) (tgt := 82) C dX7_tryOrders_68 rfl (fun c_16 => ?_) (fun c_16 => ?_)
      · replace hr := (if_pos c_16).symm.trans hr
        refine r_sub C [1, 2, 3, 4, 0] (ls' := [(0, .ref (gad 28 0)), (2, .int x2), (3, .int x3), (4, .int x4), (5, .int r_15)]) rfl ?_
        exact t_X7_tryOrders_J82 C  hr hn hx
      · replace hr := (if_neg c_16).symm.trans hr
        refine r_iload (pc := 71) C dX7_tryOrders_71 0 rfl ?_
        refine r_aload_n (pc := 73) C dX7_tryOrders_73 rfl 1 rfl ?_
        refine g28_7 (pc := 74) C dX7_tryOrders_74 q476 (e28 nf) ?_
        refine r_iconst (pc := 77) C dX7_tryOrders_77 ki0 ?_
        refine r_ialdN (pc := 78) C dX7_tryOrders_78 rfl (e32 nf) (by decide : gin 0 3 = true) kc0 ?_
        refine r_icmp_ge (pc := 79) (tgt := 98) C dX7_tryOrders_79 rfl (fun c_21 => ?_) (fun c_21 => ?_)
        · replace hr := (if_pos c_21).symm.trans hr
          refine r_sub C [1, 2, 3, 4, 0] (ls' := [(0, .ref (gad 28 0)), (2, .int x2), (3, .int x3), (4, .int x4), (5, .int r_15)]) rfl ?_
          exact t_X7_tryOrders_J98 C  hr hn hx
        · replace hr := (if_neg c_21).symm.trans hr
          refine r_sub C [1, 2, 3, 4, 0] (ls' := [(0, .ref (gad 28 0)), (2, .int x2), (3, .int x3), (4, .int x4), (5, .int r_15)]) rfl ?_
          exact t_X7_tryOrders_J82 C  hr hn hx
noncomputable def X7_tryOrders (i1 : Nat) (M : gM) : Option gM := gLet (flI M 32 0 0 3) (fun M_1 => (X0_copyFrom 2 i1 M_1).bind (fun M_3 => gLet (wI M_3 40 2 2 0) (fun M_4 => (X7_chooseOpaque i1 M_4).bind (gU2 (fun r_6 M_7 => (X7_ordersOf r_6 M_7).bind (fun r_9 => (gIter (fun s => X7_tryOrders_L40 r_6 r_9 s.1 s.2) FU (0, M_7)).bind (fun M_22 => some M_22)))))))
theorem k_X7_tryOrders {G : gG5} {nf : Nat} {M : gM} {i1 : Nat} (h1 : i1 < nf + 3) {M1 : gM} (hr : X7_tryOrders i1 M = some M1) : gMet G (gXn nf) yX7_tryOrders cX7_tryOrders 6 none 5 130 M [.ref (gad 28 0), .ref (gad 33 i1)] none M1 := by
  refine gMet_of pl_X7 rfl (Nat.le_of_ble_eq_true rfl) (fun Ψ C CR => ?_)
  show Ψ M 0 [(0, .ref (gad 28 0)), (1, .ref (gad 33 i1))] []
  refine r_aload_n (pc := 0) C dX7_tryOrders_0 rfl 0 rfl ?_
  refine g28_7 (pc := 1) C dX7_tryOrders_1 q476 (e28 nf) ?_
  refine r_iconst (pc := 4) C dX7_tryOrders_4 ki0 ?_
  obtain ⟨M_1, eM_1, hr⟩ := gLet_some hr
  refine r_fillI (pc := 5) (n := 3) C dX7_tryOrders_5 q1242 rfl (e32 nf) ⟨rfl, by decide⟩ eM_1 (by decide) (Nat.le_of_ble_eq_true rfl) ?_
  refine r_aload_n (pc := 8) C dX7_tryOrders_8 rfl 0 rfl ?_
  refine g28_6 (pc := 9) C dX7_tryOrders_9 q474 (e28 nf) ?_
  refine r_aload_n (pc := 12) C dX7_tryOrders_12 rfl 1 rfl ?_
  obtain ⟨M_3, hc_2, hr⟩ := gBind_some hr
  refine c_X0_copyFrom (pc := 13) C dX7_tryOrders_13 q1157 ⟨Nat.le_of_ble_eq_true rfl, Nat.le_of_ble_eq_true rfl⟩ (gf2 nf) h1 hc_2 (Nat.le_of_ble_eq_true rfl) ?_
  refine r_aload_n (pc := 16) C dX7_tryOrders_16 rfl 0 rfl ?_
  refine g28_6 (pc := 17) C dX7_tryOrders_17 q474 (e28 nf) ?_
  refine g33_6 (pc := 20) C dX7_tryOrders_20 q422 (e33 (nf := nf) (gf2 nf)) ?_
  refine r_iconst (pc := 23) C dX7_tryOrders_23 ki2 ?_
  refine r_iconst (pc := 24) C dX7_tryOrders_24 ki0 ?_
  obtain ⟨M_4, eM_4, hr⟩ := gLet_some hr
  refine r_iastN (pc := 25) C dX7_tryOrders_25 rfl (e40 (nf := nf) (gf2 nf)) (by decide : gin 2 4 = true) kc2 eM_4 ?_
  refine r_aload_n (pc := 26) C dX7_tryOrders_26 rfl 0 rfl ?_
  refine r_aload_n (pc := 27) C dX7_tryOrders_27 rfl 1 rfl ?_
  obtain ⟨⟨r_6, M_7⟩, hc_5, hr⟩ := gBind_some hr
  replace hr := gU2_some hr
  refine c_X7_chooseOpaque (pc := 28) C dX7_tryOrders_28 q1243 ⟨Nat.le_of_ble_eq_true rfl, Nat.le_of_ble_eq_true rfl⟩ h1 hc_5 (Nat.le_of_ble_eq_true rfl) ?_
  refine r_istore_n (pc := 31) C dX7_tryOrders_31 rfl (by decide) rfl (ls' := [(2, .int r_6), (0, .ref (gad 28 0)), (1, .ref (gad 33 i1))]) rfl ?_
  refine r_iload_n (pc := 32) C dX7_tryOrders_32 rfl 0 rfl ?_
  obtain ⟨r_9, hc_8, hr⟩ := gBind_some hr
  refine c_X7_ordersOf (pc := 33) C dX7_tryOrders_33 q1247 ⟨Nat.le_of_ble_eq_true rfl, Nat.le_of_ble_eq_true rfl⟩ hc_8 (Nat.le_of_ble_eq_true rfl) ?_
  refine r_istore_n (pc := 36) C dX7_tryOrders_36 rfl (by decide) rfl (ls' := [(3, .int r_9), (2, .int r_6), (0, .ref (gad 28 0)), (1, .ref (gad 33 i1))]) rfl ?_
  refine r_iconst (pc := 37) C dX7_tryOrders_37 ki0 ?_
  refine r_istore (pc := 38) C dX7_tryOrders_38 (by decide) rfl (ls' := [(4, .int 0), (3, .int r_9), (2, .int r_6), (0, .ref (gad 28 0)), (1, .ref (gad 33 i1))]) rfl ?_
  refine r_sub C [3, 2, 1, 0] (ls' := [(0, .ref (gad 28 0)), (2, .int r_6), (3, .int r_9), (4, .int 0)]) rfl ?_
  obtain ⟨ev, hit, hr⟩ := gBind_some hr
  refine gIter_V (step := fun s => X7_tryOrders_L40 r_6 r_9 s.1 s.2) (P := fun s => Ψ s.2 40 [(0, .ref (gad 28 0)), (2, .int r_6), (3, .int r_9), (4, .int (s.1))] []) (K := (fun e => Ψ e 121 [] [])) (fun s w hs hn hx => t_X7_tryOrders_L40 C  hs hn hx) FU (0, M_7) ev hit ?_
  obtain ⟨M_22, rfl⟩ : ∃ z, z = ev := ⟨_, rfl⟩
  show Ψ M_22 121 [] []
  exact r_vret (pc := 121) CR dX7_tryOrders_121 rfl (gSome hr)
theorem c_X7_tryOrders {Ψ : gM → Nat → List (Nat × Value) → List Value → Prop} {G : gG5} {nf : Nat} {cc : ByteArray} {own : String} {nL : Nat} {ret : Option FieldType} {fr lo : Nat} {v0 : Option Value} {M0 M : gM} {pc index : Nat} {ls : List (Nat × Value)} {st : List Value} (C : gC Ψ G (gXn nf) cc own nL ret fr lo v0 M0) (d : decode cc pc = .ok (.invokevirtual index, 3)) (hl : Cond.methodLink own index yX7_tryOrders ∈ gws) (hR : 6 ≤ fr ∧ 155 ≤ lo) {i1 : Nat} (h1 : i1 < nf + 3) {M1 : gM} (hr : X7_tryOrders i1 M = some M1) (hcat : (st.map fun v => v.category).sum ≤ 8) (k : Ψ M1 (pc + 3) ls (st)) : Ψ M pc ls (.ref (gad 33 i1) :: .ref (gad 28 0) :: st) := r_callV C [.ref (gad 33 i1)] st d (k_X7_tryOrders h1 hr) hl q1239 q1240 q123 q1241 hd_X7_tryOrders hR rfl (by decide) (e28 nf) rfl hcat k
theorem hd_X10_orders : yX10_orders.cls ≠ "java/lang/invoke/MethodHandle" ∧ yX10_orders.cls ≠ "java/lang/invoke/VarHandle" ∧ (parseMethodDescriptor yX10_orders.desc).map (fun d => d.parameters.length) = some 1 := by decide +kernel
noncomputable def X10_orders (p1 : Int32) (M : gM) : Option (Int32 × gM) := (X10_hasScene M).bind (fun r_2 => (if r_2 = 0 then some ((-1), M) else (if p1 < 0 then some ((-1), M) else (if p1 ≤ 2 then (X7_tryOrders 0 M).bind (fun M_7 => gG (gin p1 3) (some ((M_7.1 32 0 (Int32.toNatClampNeg p1)), M_7))) else some ((-1), M)))))
theorem k_X10_orders {G : gG5} {nf : Nat} {M : gM} {p1 : Int32} {r : Int32} {M1 : gM} (hr : X10_orders p1 M = some (r, M1)) : gMet G (gXn nf) yX10_orders cX10_orders 2 (some .int) 6 155 M [.ref (gad 0 0), .int p1] (some (.int r)) M1 := by
  refine gMet_of pl_X10 rfl (Nat.le_of_ble_eq_true rfl) (fun Ψ C CR => ?_)
  show Ψ M 0 [(0, .ref (gad 0 0)), (1, .int p1)] []
  refine r_aload_n (pc := 0) C dX10_orders_0 rfl 0 rfl ?_
  obtain ⟨r_2, hc_1, hr⟩ := gBind_some hr
  refine c_X10_hasScene (pc := 1) C dX10_orders_1 q859 ⟨Nat.le_of_ble_eq_true rfl, Nat.le_of_ble_eq_true rfl⟩ hc_1 (Nat.le_of_ble_eq_true rfl) ?_
  refine r_if_eq (pc := 4) (tgt := 16) C dX10_orders_4 rfl (fun c_3 => ?_) (fun c_3 => ?_)
  · replace hr := (if_pos c_3).symm.trans hr
    refine r_iconst (pc := 16) C dX10_orders_16 kim1 ?_
    exact r_iret (pc := 17) CR dX10_orders_17 (congrArg (fun z => some (Value.int z)) (Prod.mk.inj (gSome hr)).1) (Prod.mk.inj (gSome hr)).2
  · replace hr := (if_neg c_3).symm.trans hr
    refine r_iload_n (pc := 7) C dX10_orders_7 rfl 1 rfl ?_
    refine r_if_lt (pc := 8) (tgt := 16) C dX10_orders_8 rfl (fun c_4 => ?_) (fun c_4 => ?_)
    · replace hr := (if_pos c_4).symm.trans hr
      refine r_iconst (pc := 16) C dX10_orders_16 kim1 ?_
      exact r_iret (pc := 17) CR dX10_orders_17 (congrArg (fun z => some (Value.int z)) (Prod.mk.inj (gSome hr)).1) (Prod.mk.inj (gSome hr)).2
    · replace hr := (if_neg c_4).symm.trans hr
      refine r_iload_n (pc := 11) C dX10_orders_11 rfl 1 rfl ?_
      refine r_iconst (pc := 12) C dX10_orders_12 ki2 ?_
      refine r_icmp_le (pc := 13) (tgt := 18) C dX10_orders_13 rfl (fun c_5 => ?_) (fun c_5 => ?_)
      · replace hr := (if_pos c_5).symm.trans hr
        refine r_aload_n (pc := 18) C dX10_orders_18 rfl 0 rfl ?_
        refine g0_6 (pc := 19) C dX10_orders_19 q540 (e0 nf) ?_
        refine r_aload_n (pc := 22) C dX10_orders_22 rfl 0 rfl ?_
        refine g0_7 (pc := 23) C dX10_orders_23 q541 (e0 nf) ?_
        obtain ⟨M_7, hc_6, hr⟩ := gBind_some hr
        refine c_X7_tryOrders (pc := 26) C dX10_orders_26 q1238 ⟨Nat.le_of_ble_eq_true rfl, Nat.le_of_ble_eq_true rfl⟩ (gf0 nf) hc_6 (Nat.le_of_ble_eq_true rfl) ?_
        refine r_aload_n (pc := 29) C dX10_orders_29 rfl 0 rfl ?_
        refine g0_6 (pc := 30) C dX10_orders_30 q540 (e0 nf) ?_
        refine g28_7 (pc := 33) C dX10_orders_33 q477 (e28 nf) ?_
        refine r_iload_n (pc := 36) C dX10_orders_36 rfl 1 rfl ?_
        obtain ⟨g_8, hr⟩ := gG_some hr
        refine r_ialdN (pc := 37) C dX10_orders_37 rfl (e32 nf) g_8 rfl ?_
        exact r_iret (pc := 38) CR dX10_orders_38 (congrArg (fun z => some (Value.int z)) (Prod.mk.inj (gSome hr)).1) (Prod.mk.inj (gSome hr)).2
      · replace hr := (if_neg c_5).symm.trans hr
        refine r_iconst (pc := 16) C dX10_orders_16 kim1 ?_
        exact r_iret (pc := 17) CR dX10_orders_17 (congrArg (fun z => some (Value.int z)) (Prod.mk.inj (gSome hr)).1) (Prod.mk.inj (gSome hr)).2
theorem c_X10_orders {Ψ : gM → Nat → List (Nat × Value) → List Value → Prop} {G : gG5} {nf : Nat} {cc : ByteArray} {own : String} {nL : Nat} {ret : Option FieldType} {fr lo : Nat} {v0 : Option Value} {M0 M : gM} {pc index : Nat} {ls : List (Nat × Value)} {st : List Value} (C : gC Ψ G (gXn nf) cc own nL ret fr lo v0 M0) (d : decode cc pc = .ok (.invokevirtual index, 3)) (hl : Cond.methodLink own index yX10_orders ∈ gws) (hR : 7 ≤ fr ∧ 176 ≤ lo) {p1 : Int32} {r : Int32} {M1 : gM} (hr : X10_orders p1 M = some (r, M1)) (hcat : (st.map fun v => v.category).sum ≤ 8) (k : Ψ M1 (pc + 3) ls (.int r :: st)) : Ψ M pc ls (.int p1 :: .ref (gad 0 0) :: st) := r_callV C [.int p1] st d (k_X10_orders hr) hl q1235 q1236 q116 q1237 hd_X10_orders hR rfl (by decide) (e0 nf) rfl hcat k
theorem hd_X7_coveredShifted : yX7_coveredShifted.cls ≠ "java/lang/invoke/MethodHandle" ∧ yX7_coveredShifted.cls ≠ "java/lang/invoke/VarHandle" ∧ (parseMethodDescriptor yX7_coveredShifted.desc).map (fun d => d.parameters.length) = some 3 := by decide +kernel
noncomputable def X7_coveredShifted_L17 (x2 : Int32) (x3 : Int32) (i4 : Nat) (x5 : Int32) (x6 : Int32) (M : gM) : Option ((Int32 × Int32) ⊕ Int32) := (if (M.1 12 0 6) ≤ x6 then some (.inr x5) else gG (gin x6 256) (gLet ((M.1 13 0 (Int32.toNatClampNeg x6))) (fun x7_4 => gG (gin x7_4 256) (gG (gin x7_4 256) ((X6_covers i4 ((M.1 15 0 (Int32.toNatClampNeg x7_4)) - x2) ((M.1 16 0 (Int32.toNatClampNeg x7_4)) - x3) M).bind (fun r_8 => (if r_8 = 0 then gLet (x6 + 1) (fun x6_10 => some (.inl (x5, x6_10))) else gLet (x5 + 1) (fun x5_11 => gLet (x6 + 1) (fun x6_12 => some (.inl (x5_11, x6_12)))))))))))
theorem t_X7_coveredShifted_L17 {Ψ : gM → Nat → List (Nat × Value) → List Value → Prop} {G : gG5} {nf : Nat} {M : gM} {v0 : Option Value} {M0 : gM} {x2 : Int32} {x3 : Int32} {i4 : Nat} {x5 : Int32} {x6 : Int32} {w : ((Int32 × Int32) ⊕ Int32)} (C : gC Ψ G (gXn nf) cX7_coveredShifted RX7 8 (some .int) 1 23 v0 M0) (h4 : i4 < 10) (hr : X7_coveredShifted_L17 x2 x3 i4 x5 x6 M = some w) (hn : ∀ s, w = .inl s → Ψ M 17 [(0, .ref (gad 28 0)), (2, .int x2), (3, .int x3), (4, .ref (gad 19 i4)), (5, .int (s.1)), (6, .int (s.2))] []) (hx : ∀ e, w = .inr e → (fun e => Ψ M 82 [(5, .int e)] []) e) : Ψ M 17 [(0, .ref (gad 28 0)), (2, .int x2), (3, .int x3), (4, .ref (gad 19 i4)), (5, .int x5), (6, .int x6)] [] := by
  refine r_iload (pc := 17) C dX7_coveredShifted_17 5 rfl ?_
  refine r_aload_n (pc := 19) C dX7_coveredShifted_19 rfl 0 rfl ?_
  refine g28_1 (pc := 20) C dX7_coveredShifted_20 q469 (e28 nf) ?_
  refine g12_6 (pc := 23) C dX7_coveredShifted_23 q277 (e12 nf) ?_
  refine r_icmp_ge (pc := 26) (tgt := 82) C dX7_coveredShifted_26 rfl (fun c_2 => ?_) (fun c_2 => ?_)
  · replace hr := (if_pos c_2).symm.trans hr
    refine r_sub C [4] (ls' := [(5, .int x5)]) rfl ?_
    exact hx x5 (gSome hr)
  · replace hr := (if_neg c_2).symm.trans hr
    refine r_aload_n (pc := 29) C dX7_coveredShifted_29 rfl 0 rfl ?_
    refine g28_1 (pc := 30) C dX7_coveredShifted_30 q469 (e28 nf) ?_
    refine g12_7 (pc := 33) C dX7_coveredShifted_33 q281 (e12 nf) ?_
    refine r_iload (pc := 36) C dX7_coveredShifted_36 5 rfl ?_
    obtain ⟨g_3, hr⟩ := gG_some hr
    refine r_ialdN (pc := 38) C dX7_coveredShifted_38 rfl (e13 nf) g_3 rfl ?_
    obtain ⟨x7_4, ex7_4, hr⟩ := gLet_some hr
    refine r_istore (pc := 39) C dX7_coveredShifted_39 (by decide) ex7_4 (ls' := [(7, .int x7_4), (0, .ref (gad 28 0)), (2, .int x2), (3, .int x3), (4, .ref (gad 19 i4)), (5, .int x5), (6, .int x6)]) rfl ?_
    refine r_aload (pc := 41) C dX7_coveredShifted_41 4 rfl ?_
    refine r_aload_n (pc := 43) C dX7_coveredShifted_43 rfl 1 rfl ?_
    refine g28_1 (pc := 44) C dX7_coveredShifted_44 q469 (e28 nf) ?_
    refine g12_9 (pc := 47) C dX7_coveredShifted_47 q287 (e12 nf) ?_
    refine r_iload (pc := 50) C dX7_coveredShifted_50 0 rfl ?_
    obtain ⟨g_5, hr⟩ := gG_some hr
    refine r_ialdN (pc := 52) C dX7_coveredShifted_52 rfl (e15 nf) g_5 rfl ?_
    refine r_iload_n (pc := 53) C dX7_coveredShifted_53 rfl 2 rfl ?_
    refine r_isub (pc := 54) C dX7_coveredShifted_54 ?_
    refine r_aload_n (pc := 55) C dX7_coveredShifted_55 rfl 1 rfl ?_
    refine g28_1 (pc := 56) C dX7_coveredShifted_56 q469 (e28 nf) ?_
    refine g12_10 (pc := 59) C dX7_coveredShifted_59 q290 (e12 nf) ?_
    refine r_iload (pc := 62) C dX7_coveredShifted_62 0 rfl ?_
    obtain ⟨g_6, hr⟩ := gG_some hr
    refine r_ialdN (pc := 64) C dX7_coveredShifted_64 rfl (e16 nf) g_6 rfl ?_
    refine r_iload_n (pc := 65) C dX7_coveredShifted_65 rfl 3 rfl ?_
    refine r_isub (pc := 66) C dX7_coveredShifted_66 ?_
    obtain ⟨r_8, hc_7, hr⟩ := gBind_some hr
    refine c_X6_covers (pc := 67) C dX7_coveredShifted_67 q1273 ⟨Nat.le_of_ble_eq_true rfl, Nat.le_of_ble_eq_true rfl⟩ h4 hc_7 (Nat.le_of_ble_eq_true rfl) ?_
    refine r_if_eq (pc := 70) (tgt := 76) C dX7_coveredShifted_70 rfl (fun c_9 => ?_) (fun c_9 => ?_)
    · replace hr := (if_pos c_9).symm.trans hr
      obtain ⟨x6_10, ex6_10, hr⟩ := gLet_some hr
      refine r_iinc (pc := 76) C dX7_coveredShifted_76 6 rfl rfl (by decide) ex6_10 (ls' := [(6, .int x6_10), (7, .int x7_4), (0, .ref (gad 28 0)), (2, .int x2), (3, .int x3), (4, .ref (gad 19 i4)), (5, .int x5)]) rfl ?_
      refine r_goto (pc := 79) (tgt := 17) C dX7_coveredShifted_79 rfl ?_
      refine r_sub C [2, 3, 4, 5, 6, 0] (ls' := [(0, .ref (gad 28 0)), (2, .int x2), (3, .int x3), (4, .ref (gad 19 i4)), (5, .int x5), (6, .int x6_10)]) rfl ?_
      exact hn (x5, x6_10) (gSome hr)
    · replace hr := (if_neg c_9).symm.trans hr
      obtain ⟨x5_11, ex5_11, hr⟩ := gLet_some hr
      refine r_iinc (pc := 73) C dX7_coveredShifted_73 5 rfl rfl (by decide) ex5_11 (ls' := [(5, .int x5_11), (7, .int x7_4), (0, .ref (gad 28 0)), (2, .int x2), (3, .int x3), (4, .ref (gad 19 i4)), (6, .int x6)]) rfl ?_
      obtain ⟨x6_12, ex6_12, hr⟩ := gLet_some hr
      refine r_iinc (pc := 76) C dX7_coveredShifted_76 6 rfl rfl (by decide) ex6_12 (ls' := [(6, .int x6_12), (5, .int x5_11), (7, .int x7_4), (0, .ref (gad 28 0)), (2, .int x2), (3, .int x3), (4, .ref (gad 19 i4))]) rfl ?_
      refine r_goto (pc := 79) (tgt := 17) C dX7_coveredShifted_79 rfl ?_
      refine r_sub C [3, 4, 5, 6, 1, 0] (ls' := [(0, .ref (gad 28 0)), (2, .int x2), (3, .int x3), (4, .ref (gad 19 i4)), (5, .int x5_11), (6, .int x6_12)]) rfl ?_
      exact hn (x5_11, x6_12) (gSome hr)
noncomputable def X7_coveredShifted (p1 : Int32) (p2 : Int32) (p3 : Int32) (M : gM) : Option Int32 := gG (gin p1 10) ((gIter (fun s => X7_coveredShifted_L17 p2 p3 (Int32.toNatClampNeg p1) s.1 s.2 M) FU (0, 0)).bind (fun x5_13 => some x5_13))
theorem k_X7_coveredShifted {G : gG5} {nf : Nat} {M : gM} {p1 : Int32} {p2 : Int32} {p3 : Int32} {r : Int32} (hr : X7_coveredShifted p1 p2 p3 M = some r) : gMet G (gXn nf) yX7_coveredShifted cX7_coveredShifted 8 (some .int) 1 23 M [.ref (gad 28 0), .int p1, .int p2, .int p3] (some (.int r)) M := by
  refine gMet_of pl_X7 rfl (Nat.le_of_ble_eq_true rfl) (fun Ψ C CR => ?_)
  show Ψ M 0 [(0, .ref (gad 28 0)), (1, .int p1), (2, .int p2), (3, .int p3)] []
  refine r_aload_n (pc := 0) C dX7_coveredShifted_0 rfl 0 rfl ?_
  refine g28_2 (pc := 1) C dX7_coveredShifted_1 q470 (e28 nf) ?_
  refine g17_2 (pc := 4) C dX7_coveredShifted_4 q380 (e17 nf) ?_
  refine r_iload_n (pc := 7) C dX7_coveredShifted_7 rfl 1 rfl ?_
  obtain ⟨g_1, hr⟩ := gG_some hr
  refine a18 (pc := 8) C dX7_coveredShifted_8 g_1 ?_
  refine r_astore (pc := 9) C dX7_coveredShifted_9 (by decide) rfl (ls' := [(4, .ref (gad 19 (Int32.toNatClampNeg p1))), (0, .ref (gad 28 0)), (1, .int p1), (2, .int p2), (3, .int p3)]) rfl ?_
  refine r_iconst (pc := 11) C dX7_coveredShifted_11 ki0 ?_
  refine r_istore (pc := 12) C dX7_coveredShifted_12 (by decide) rfl (ls' := [(5, .int 0), (4, .ref (gad 19 (Int32.toNatClampNeg p1))), (0, .ref (gad 28 0)), (1, .int p1), (2, .int p2), (3, .int p3)]) rfl ?_
  refine r_iconst (pc := 14) C dX7_coveredShifted_14 ki0 ?_
  refine r_istore (pc := 15) C dX7_coveredShifted_15 (by decide) rfl (ls' := [(6, .int 0), (5, .int 0), (4, .ref (gad 19 (Int32.toNatClampNeg p1))), (0, .ref (gad 28 0)), (1, .int p1), (2, .int p2), (3, .int p3)]) rfl ?_
  refine r_sub C [3, 5, 6, 2, 1, 0] (ls' := [(0, .ref (gad 28 0)), (2, .int p2), (3, .int p3), (4, .ref (gad 19 (Int32.toNatClampNeg p1))), (5, .int 0), (6, .int 0)]) rfl ?_
  obtain ⟨ev, hit, hr⟩ := gBind_some hr
  refine gIter_V (step := fun s => X7_coveredShifted_L17 p2 p3 (Int32.toNatClampNeg p1) s.1 s.2 M) (P := fun s => Ψ M 17 [(0, .ref (gad 28 0)), (2, .int p2), (3, .int p3), (4, .ref (gad 19 (Int32.toNatClampNeg p1))), (5, .int (s.1)), (6, .int (s.2))] []) (K := (fun e => Ψ M 82 [(5, .int e)] [])) (fun s w hs hn hx => t_X7_coveredShifted_L17 C (gin_lt g_1) hs hn hx) FU (0, 0) ev hit ?_
  obtain ⟨x5_13, rfl⟩ : ∃ z, z = ev := ⟨_, rfl⟩
  show Ψ M 82 [(5, .int x5_13)] []
  refine r_iload (pc := 82) C dX7_coveredShifted_82 0 rfl ?_
  exact r_iret (pc := 84) CR dX7_coveredShifted_84 (congrArg (fun z => some (Value.int z)) (gSome hr)) rfl
theorem c_X7_coveredShifted {Ψ : gM → Nat → List (Nat × Value) → List Value → Prop} {G : gG5} {nf : Nat} {cc : ByteArray} {own : String} {nL : Nat} {ret : Option FieldType} {fr lo : Nat} {v0 : Option Value} {M0 M : gM} {pc index : Nat} {ls : List (Nat × Value)} {st : List Value} (C : gC Ψ G (gXn nf) cc own nL ret fr lo v0 M0) (d : decode cc pc = .ok (.invokevirtual index, 3)) (hl : Cond.methodLink own index yX7_coveredShifted ∈ gws) (hR : 2 ≤ fr ∧ 50 ≤ lo) {p1 : Int32} {p2 : Int32} {p3 : Int32} {r : Int32} (hr : X7_coveredShifted p1 p2 p3 M = some r) (hcat : (st.map fun v => v.category).sum ≤ 8) (k : Ψ M (pc + 3) ls (.int r :: st)) : Ψ M pc ls (.int p3 :: .int p2 :: .int p1 :: .ref (gad 28 0) :: st) := r_callV C [.int p1, .int p2, .int p3] st d (k_X7_coveredShifted hr) hl q1271 q35 q123 q1272 hd_X7_coveredShifted hR rfl (by decide) (e28 nf) rfl hcat k
theorem hd_X7_tryShifts : yX7_tryShifts.cls ≠ "java/lang/invoke/MethodHandle" ∧ yX7_tryShifts.cls ≠ "java/lang/invoke/VarHandle" ∧ (parseMethodDescriptor yX7_tryShifts.desc).map (fun d => d.parameters.length) = some 3 := by decide +kernel
noncomputable def X7_tryShifts_J71 (x2 : Int32) (x3 : Int32) (x4 : Int32) (x5 : Int32) (x6 : Int32) (x7 : Int32) (x8 : Int32) (xs0 : Int32) (M : gM) : Option ((Int32 × Int32 × gM) ⊕ (Int32 × gM)) := (if xs0 ≤ (M.1 32 0 0) then (if xs0 = x4 then gLet (wI M 32 0 2 ((M.1 32 0 2) + 1)) (fun M_17 => gLet (x6 + 1) (fun x6_18 => gLet (x8 + 1) (fun x8_19 => some (.inl (x6_18, x8_19, M_17))))) else gLet (x6 + 1) (fun x6_15 => gLet (x8 + 1) (fun x8_16 => some (.inl (x6_15, x8_16, M))))) else gLet (wI M 32 0 0 xs0) (fun M_20 => gLet (wI M_20 32 0 1 x6) (fun M_21 => (if xs0 = x4 then gLet (wI M_21 32 0 2 ((M_21.1 32 0 2) + 1)) (fun M_25 => gLet (x6 + 1) (fun x6_26 => gLet (x8 + 1) (fun x8_27 => some (.inl (x6_26, x8_27, M_25))))) else gLet (x6 + 1) (fun x6_23 => gLet (x8 + 1) (fun x8_24 => some (.inl (x6_23, x8_24, M_21))))))))
theorem t_X7_tryShifts_J71 {Ψ : gM → Nat → List (Nat × Value) → List Value → Prop} {G : gG5} {nf : Nat} {M : gM} {v0 : Option Value} {M0 : gM} {x2 : Int32} {x3 : Int32} {x4 : Int32} {x5 : Int32} {x6 : Int32} {x7 : Int32} {x8 : Int32} {xs0 : Int32} {w : ((Int32 × Int32 × gM) ⊕ (Int32 × gM))} (C : gC Ψ G (gXn nf) cX7_tryShifts RX7 10 none 3 71 v0 M0) (hr : X7_tryShifts_J71 x2 x3 x4 x5 x6 x7 x8 xs0 M = some w) (hn : ∀ s, w = .inl s → Ψ s.2.2 47 [(0, .ref (gad 28 0)), (2, .int x2), (3, .int x3), (4, .int x4), (5, .int x5), (6, .int (s.1)), (7, .int x7), (8, .int (s.2.1))] []) (hx : ∀ e, w = .inr e → (fun e => Ψ e.2 126 [(0, .ref (gad 28 0)), (2, .int x2), (3, .int x3), (4, .int x4), (5, .int x5), (6, .int (e.1)), (7, .int x7)] []) e) : Ψ M 71 [(0, .ref (gad 28 0)), (2, .int x2), (3, .int x3), (4, .int x4), (5, .int x5), (6, .int x6), (7, .int x7), (8, .int x8)] [.int xs0] := by
  refine r_istore (pc := 71) C dX7_tryShifts_71 (by decide) rfl (ls' := [(9, .int xs0), (0, .ref (gad 28 0)), (2, .int x2), (3, .int x3), (4, .int x4), (5, .int x5), (6, .int x6), (7, .int x7), (8, .int x8)]) rfl ?_
  refine r_iload (pc := 73) C dX7_tryShifts_73 0 rfl ?_
  refine r_aload_n (pc := 75) C dX7_tryShifts_75 rfl 1 rfl ?_
  refine g28_7 (pc := 76) C dX7_tryShifts_76 q476 (e28 nf) ?_
  refine r_iconst (pc := 79) C dX7_tryShifts_79 ki0 ?_
  refine r_ialdN (pc := 80) C dX7_tryShifts_80 rfl (e32 nf) (by decide : gin 0 3 = true) kc0 ?_
  refine r_icmp_le (pc := 81) (tgt := 100) C dX7_tryShifts_81 rfl (fun c_13 => ?_) (fun c_13 => ?_)
  · replace hr := (if_pos c_13).symm.trans hr
    refine r_iload (pc := 100) C dX7_tryShifts_100 0 rfl ?_
    refine r_iload (pc := 102) C dX7_tryShifts_102 4 rfl ?_
    refine r_icmp_ne (pc := 104) (tgt := 117) C dX7_tryShifts_104 rfl (fun c_14 => ?_) (fun c_14 => ?_)
    · replace hr := (if_neg c_14).symm.trans hr
      obtain ⟨x6_15, ex6_15, hr⟩ := gLet_some hr
      refine r_iinc (pc := 117) C dX7_tryShifts_117 6 rfl rfl (by decide) ex6_15 (ls' := [(6, .int x6_15), (9, .int xs0), (0, .ref (gad 28 0)), (2, .int x2), (3, .int x3), (4, .int x4), (5, .int x5), (7, .int x7), (8, .int x8)]) rfl ?_
      obtain ⟨x8_16, ex8_16, hr⟩ := gLet_some hr
      refine r_iinc (pc := 120) C dX7_tryShifts_120 8 rfl rfl (by decide) ex8_16 (ls' := [(8, .int x8_16), (6, .int x6_15), (9, .int xs0), (0, .ref (gad 28 0)), (2, .int x2), (3, .int x3), (4, .int x4), (5, .int x5), (7, .int x7)]) rfl ?_
      refine r_goto (pc := 123) (tgt := 47) C dX7_tryShifts_123 rfl ?_
      refine r_sub C [3, 4, 5, 6, 7, 1, 8, 0] (ls' := [(0, .ref (gad 28 0)), (2, .int x2), (3, .int x3), (4, .int x4), (5, .int x5), (6, .int x6_15), (7, .int x7), (8, .int x8_16)]) rfl ?_
      exact hn (x6_15, x8_16, M) (gSome hr)
    · replace hr := (if_pos c_14).symm.trans hr
      refine r_aload_n (pc := 107) C dX7_tryShifts_107 rfl 1 rfl ?_
      refine g28_7 (pc := 108) C dX7_tryShifts_108 q476 (e28 nf) ?_
      refine r_iconst (pc := 111) C dX7_tryShifts_111 ki2 ?_
      refine r_dup2 (pc := 112) C dX7_tryShifts_112 rfl rfl ?_
      refine r_ialdN (pc := 113) C dX7_tryShifts_113 rfl (e32 nf) (by decide : gin 2 3 = true) kc2 ?_
      refine r_iconst (pc := 114) C dX7_tryShifts_114 ki1 ?_
      refine r_iadd (pc := 115) C dX7_tryShifts_115 ?_
      obtain ⟨M_17, eM_17, hr⟩ := gLet_some hr
      refine r_iastN (pc := 116) C dX7_tryShifts_116 rfl (e32 nf) (by decide : gin 2 3 = true) kc2 eM_17 ?_
      obtain ⟨x6_18, ex6_18, hr⟩ := gLet_some hr
      refine r_iinc (pc := 117) C dX7_tryShifts_117 6 rfl rfl (by decide) ex6_18 (ls' := [(6, .int x6_18), (9, .int xs0), (0, .ref (gad 28 0)), (2, .int x2), (3, .int x3), (4, .int x4), (5, .int x5), (7, .int x7), (8, .int x8)]) rfl ?_
      obtain ⟨x8_19, ex8_19, hr⟩ := gLet_some hr
      refine r_iinc (pc := 120) C dX7_tryShifts_120 8 rfl rfl (by decide) ex8_19 (ls' := [(8, .int x8_19), (6, .int x6_18), (9, .int xs0), (0, .ref (gad 28 0)), (2, .int x2), (3, .int x3), (4, .int x4), (5, .int x5), (7, .int x7)]) rfl ?_
      refine r_goto (pc := 123) (tgt := 47) C dX7_tryShifts_123 rfl ?_
      refine r_sub C [3, 4, 5, 6, 7, 1, 8, 0] (ls' := [(0, .ref (gad 28 0)), (2, .int x2), (3, .int x3), (4, .int x4), (5, .int x5), (6, .int x6_18), (7, .int x7), (8, .int x8_19)]) rfl ?_
      exact hn (x6_18, x8_19, M_17) (gSome hr)
  · replace hr := (if_neg c_13).symm.trans hr
    refine r_aload_n (pc := 84) C dX7_tryShifts_84 rfl 1 rfl ?_
    refine g28_7 (pc := 85) C dX7_tryShifts_85 q476 (e28 nf) ?_
    refine r_iconst (pc := 88) C dX7_tryShifts_88 ki0 ?_
    refine r_iload (pc := 89) C dX7_tryShifts_89 0 rfl ?_
    obtain ⟨M_20, eM_20, hr⟩ := gLet_some hr
    refine r_iastN (pc := 91) C dX7_tryShifts_91 rfl (e32 nf) (by decide : gin 0 3 = true) kc0 eM_20 ?_
    refine r_aload_n (pc := 92) C dX7_tryShifts_92 rfl 1 rfl ?_
    refine g28_7 (pc := 93) C dX7_tryShifts_93 q476 (e28 nf) ?_
    refine r_iconst (pc := 96) C dX7_tryShifts_96 ki1 ?_
    refine r_iload (pc := 97) C dX7_tryShifts_97 6 rfl ?_
    obtain ⟨M_21, eM_21, hr⟩ := gLet_some hr
    refine r_iastN (pc := 99) C dX7_tryShifts_99 rfl (e32 nf) (by decide : gin 1 3 = true) kc1 eM_21 ?_
    refine r_iload (pc := 100) C dX7_tryShifts_100 0 rfl ?_
    refine r_iload (pc := 102) C dX7_tryShifts_102 4 rfl ?_
    refine r_icmp_ne (pc := 104) (tgt := 117) C dX7_tryShifts_104 rfl (fun c_22 => ?_) (fun c_22 => ?_)
    · replace hr := (if_neg c_22).symm.trans hr
      obtain ⟨x6_23, ex6_23, hr⟩ := gLet_some hr
      refine r_iinc (pc := 117) C dX7_tryShifts_117 6 rfl rfl (by decide) ex6_23 (ls' := [(6, .int x6_23), (9, .int xs0), (0, .ref (gad 28 0)), (2, .int x2), (3, .int x3), (4, .int x4), (5, .int x5), (7, .int x7), (8, .int x8)]) rfl ?_
      obtain ⟨x8_24, ex8_24, hr⟩ := gLet_some hr
      refine r_iinc (pc := 120) C dX7_tryShifts_120 8 rfl rfl (by decide) ex8_24 (ls' := [(8, .int x8_24), (6, .int x6_23), (9, .int xs0), (0, .ref (gad 28 0)), (2, .int x2), (3, .int x3), (4, .int x4), (5, .int x5), (7, .int x7)]) rfl ?_
      refine r_goto (pc := 123) (tgt := 47) C dX7_tryShifts_123 rfl ?_
      refine r_sub C [3, 4, 5, 6, 7, 1, 8, 0] (ls' := [(0, .ref (gad 28 0)), (2, .int x2), (3, .int x3), (4, .int x4), (5, .int x5), (6, .int x6_23), (7, .int x7), (8, .int x8_24)]) rfl ?_
      exact hn (x6_23, x8_24, M_21) (gSome hr)
    · replace hr := (if_pos c_22).symm.trans hr
      refine r_aload_n (pc := 107) C dX7_tryShifts_107 rfl 1 rfl ?_
      refine g28_7 (pc := 108) C dX7_tryShifts_108 q476 (e28 nf) ?_
      refine r_iconst (pc := 111) C dX7_tryShifts_111 ki2 ?_
      refine r_dup2 (pc := 112) C dX7_tryShifts_112 rfl rfl ?_
      refine r_ialdN (pc := 113) C dX7_tryShifts_113 rfl (e32 nf) (by decide : gin 2 3 = true) kc2 ?_
      refine r_iconst (pc := 114) C dX7_tryShifts_114 ki1 ?_
      refine r_iadd (pc := 115) C dX7_tryShifts_115 ?_
      obtain ⟨M_25, eM_25, hr⟩ := gLet_some hr
      refine r_iastN (pc := 116) C dX7_tryShifts_116 rfl (e32 nf) (by decide : gin 2 3 = true) kc2 eM_25 ?_
      obtain ⟨x6_26, ex6_26, hr⟩ := gLet_some hr
      refine r_iinc (pc := 117) C dX7_tryShifts_117 6 rfl rfl (by decide) ex6_26 (ls' := [(6, .int x6_26), (9, .int xs0), (0, .ref (gad 28 0)), (2, .int x2), (3, .int x3), (4, .int x4), (5, .int x5), (7, .int x7), (8, .int x8)]) rfl ?_
      obtain ⟨x8_27, ex8_27, hr⟩ := gLet_some hr
      refine r_iinc (pc := 120) C dX7_tryShifts_120 8 rfl rfl (by decide) ex8_27 (ls' := [(8, .int x8_27), (6, .int x6_26), (9, .int xs0), (0, .ref (gad 28 0)), (2, .int x2), (3, .int x3), (4, .int x4), (5, .int x5), (7, .int x7)]) rfl ?_
      refine r_goto (pc := 123) (tgt := 47) C dX7_tryShifts_123 rfl ?_
      refine r_sub C [3, 4, 5, 6, 7, 1, 8, 0] (ls' := [(0, .ref (gad 28 0)), (2, .int x2), (3, .int x3), (4, .int x4), (5, .int x5), (6, .int x6_26), (7, .int x7), (8, .int x8_27)]) rfl ?_
      exact hn (x6_26, x8_27, M_25) (gSome hr)
noncomputable def X7_tryShifts_L47 (x2 : Int32) (x3 : Int32) (x4 : Int32) (x5 : Int32) (x7 : Int32) (x6 : Int32) (x8 : Int32) (M : gM) : Option ((Int32 × Int32 × gM) ⊕ (Int32 × gM)) := (if x3 < x8 then some (.inr (x6, M)) else (if x5 = 0 then (X7_coveredShifted x2 x8 x7 M).bind (fun r_12 => X7_tryShifts_J71 x2 x3 x4 x5 x6 x7 x8 r_12 M) else X7_tryShifts_J71 x2 x3 x4 x5 x6 x7 x8 0 M))
theorem t_X7_tryShifts_L47 {Ψ : gM → Nat → List (Nat × Value) → List Value → Prop} {G : gG5} {nf : Nat} {M : gM} {v0 : Option Value} {M0 : gM} {x2 : Int32} {x3 : Int32} {x4 : Int32} {x5 : Int32} {x7 : Int32} {x6 : Int32} {x8 : Int32} {w : ((Int32 × Int32 × gM) ⊕ (Int32 × gM))} (C : gC Ψ G (gXn nf) cX7_tryShifts RX7 10 none 3 71 v0 M0) (hr : X7_tryShifts_L47 x2 x3 x4 x5 x7 x6 x8 M = some w) (hn : ∀ s, w = .inl s → Ψ s.2.2 47 [(0, .ref (gad 28 0)), (2, .int x2), (3, .int x3), (4, .int x4), (5, .int x5), (6, .int (s.1)), (7, .int x7), (8, .int (s.2.1))] []) (hx : ∀ e, w = .inr e → (fun e => Ψ e.2 126 [(0, .ref (gad 28 0)), (2, .int x2), (3, .int x3), (4, .int x4), (5, .int x5), (6, .int (e.1)), (7, .int x7)] []) e) : Ψ M 47 [(0, .ref (gad 28 0)), (2, .int x2), (3, .int x3), (4, .int x4), (5, .int x5), (6, .int x6), (7, .int x7), (8, .int x8)] [] := by
  refine r_iload (pc := 47) C dX7_tryShifts_47 7 rfl ?_
  refine r_iload_n (pc := 49) C dX7_tryShifts_49 rfl 2 rfl ?_
  refine r_icmp_gt (pc := 50) (tgt := 126) C dX7_tryShifts_50 rfl (fun c_9 => ?_) (fun c_9 => ?_)
  · replace hr := (if_pos c_9).symm.trans hr
    refine r_sub C [0, 1, 2, 3, 4, 5, 6] (ls' := [(0, .ref (gad 28 0)), (2, .int x2), (3, .int x3), (4, .int x4), (5, .int x5), (6, .int x6), (7, .int x7)]) rfl ?_
    exact hx (x6, M) (gSome hr)
  · replace hr := (if_neg c_9).symm.trans hr
    refine r_iload (pc := 53) C dX7_tryShifts_53 4 rfl ?_
    refine r_if_eq (pc := 55) (tgt := 62) C dX7_tryShifts_55 rfl (fun c_10 => ?_) (fun c_10 => ?_)
    · replace hr := (if_pos c_10).symm.trans hr
      refine r_aload_n (pc := 62) C dX7_tryShifts_62 rfl 0 rfl ?_
      refine r_iload_n (pc := 63) C dX7_tryShifts_63 rfl 1 rfl ?_
      refine r_iload (pc := 64) C dX7_tryShifts_64 7 rfl ?_
      refine r_iload (pc := 66) C dX7_tryShifts_66 6 rfl ?_
      obtain ⟨r_12, hc_11, hr⟩ := gBind_some hr
      refine c_X7_coveredShifted (pc := 68) C dX7_tryShifts_68 q1269 ⟨Nat.le_of_ble_eq_true rfl, Nat.le_of_ble_eq_true rfl⟩ hc_11 (Nat.le_of_ble_eq_true rfl) ?_
      exact t_X7_tryShifts_J71 C  hr hn hx
    · replace hr := (if_neg c_10).symm.trans hr
      refine r_iconst (pc := 58) C dX7_tryShifts_58 ki0 ?_
      refine r_goto (pc := 59) (tgt := 71) C dX7_tryShifts_59 rfl ?_
      exact t_X7_tryShifts_J71 C  hr hn hx
noncomputable def X7_tryShifts_L37 (x2 : Int32) (x3 : Int32) (x4 : Int32) (x5 : Int32) (x6 : Int32) (x7 : Int32) (M : gM) : Option ((Int32 × Int32 × gM) ⊕ gM) := (if x3 < x7 then some (.inr M) else gLet ((-x3)) (fun x8_8 => (gIter (fun s => X7_tryShifts_L47 x2 x3 x4 x5 x7 s.1 s.2.1 s.2.2) FU (x6, x8_8, M)).bind (gU2 (fun x6_28 M_29 => gLet (x7 + 1) (fun x7_30 => some (.inl (x6_28, x7_30, M_29)))))))
theorem t_X7_tryShifts_L37 {Ψ : gM → Nat → List (Nat × Value) → List Value → Prop} {G : gG5} {nf : Nat} {M : gM} {v0 : Option Value} {M0 : gM} {x2 : Int32} {x3 : Int32} {x4 : Int32} {x5 : Int32} {x6 : Int32} {x7 : Int32} {w : ((Int32 × Int32 × gM) ⊕ gM)} (C : gC Ψ G (gXn nf) cX7_tryShifts RX7 10 none 3 71 v0 M0) (hr : X7_tryShifts_L37 x2 x3 x4 x5 x6 x7 M = some w) (hn : ∀ s, w = .inl s → Ψ s.2.2 37 [(0, .ref (gad 28 0)), (2, .int x2), (3, .int x3), (4, .int x4), (5, .int x5), (6, .int (s.1)), (7, .int (s.2.1))] []) (hx : ∀ e, w = .inr e → (fun e => Ψ e 132 [] []) e) : Ψ M 37 [(0, .ref (gad 28 0)), (2, .int x2), (3, .int x3), (4, .int x4), (5, .int x5), (6, .int x6), (7, .int x7)] [] := by
  refine r_iload (pc := 37) C dX7_tryShifts_37 6 rfl ?_
  refine r_iload_n (pc := 39) C dX7_tryShifts_39 rfl 2 rfl ?_
  refine r_icmp_gt (pc := 40) (tgt := 132) C dX7_tryShifts_40 rfl (fun c_7 => ?_) (fun c_7 => ?_)
  · replace hr := (if_pos c_7).symm.trans hr
    refine r_sub C [] (ls' := []) rfl ?_
    exact hx M (gSome hr)
  · replace hr := (if_neg c_7).symm.trans hr
    refine r_iload_n (pc := 43) C dX7_tryShifts_43 rfl 2 rfl ?_
    refine r_ineg (pc := 44) C dX7_tryShifts_44 ?_
    obtain ⟨x8_8, ex8_8, hr⟩ := gLet_some hr
    refine r_istore (pc := 45) C dX7_tryShifts_45 (by decide) ex8_8 (ls' := [(8, .int x8_8), (0, .ref (gad 28 0)), (2, .int x2), (3, .int x3), (4, .int x4), (5, .int x5), (6, .int x6), (7, .int x7)]) rfl ?_
    refine r_sub C [1, 2, 3, 4, 5, 6, 7, 0] (ls' := [(0, .ref (gad 28 0)), (2, .int x2), (3, .int x3), (4, .int x4), (5, .int x5), (6, .int x6), (7, .int x7), (8, .int x8_8)]) rfl ?_
    obtain ⟨ev, hit, hr⟩ := gBind_some hr
    refine gIter_V (step := fun s => X7_tryShifts_L47 x2 x3 x4 x5 x7 s.1 s.2.1 s.2.2) (P := fun s => Ψ s.2.2 47 [(0, .ref (gad 28 0)), (2, .int x2), (3, .int x3), (4, .int x4), (5, .int x5), (6, .int (s.1)), (7, .int x7), (8, .int (s.2.1))] []) (K := (fun e => Ψ e.2 126 [(0, .ref (gad 28 0)), (2, .int x2), (3, .int x3), (4, .int x4), (5, .int x5), (6, .int (e.1)), (7, .int x7)] [])) (fun s w hs hn hx => t_X7_tryShifts_L47 C  hs hn hx) FU (x6, x8_8, M) ev hit ?_
    obtain ⟨x6_28, M_29⟩ := ev
    replace hr := gU2_some hr
    show Ψ M_29 126 [(0, .ref (gad 28 0)), (2, .int x2), (3, .int x3), (4, .int x4), (5, .int x5), (6, .int x6_28), (7, .int x7)] []
    obtain ⟨x7_30, ex7_30, hr⟩ := gLet_some hr
    refine r_iinc (pc := 126) C dX7_tryShifts_126 6 rfl rfl (by decide) ex7_30 (ls' := [(7, .int x7_30), (0, .ref (gad 28 0)), (2, .int x2), (3, .int x3), (4, .int x4), (5, .int x5), (6, .int x6_28)]) rfl ?_
    refine r_goto (pc := 129) (tgt := 37) C dX7_tryShifts_129 rfl ?_
    refine r_sub C [1, 2, 3, 4, 5, 6, 0] (ls' := [(0, .ref (gad 28 0)), (2, .int x2), (3, .int x3), (4, .int x4), (5, .int x5), (6, .int x6_28), (7, .int x7_30)]) rfl ?_
    exact hn (x6_28, x7_30, M_29) (gSome hr)
noncomputable def X7_tryShifts (i1 : Nat) (p2 : Int32) (p3 : Int32) (M : gM) : Option gM := gLet (flI M 32 0 0 3) (fun M_1 => (X9_coveredBy i1 p2 M_1).bind (fun r_3 => (X9_isCulled i1 p2 M_1).bind (fun r_5 => gLet ((-p3)) (fun x7_6 => (gIter (fun s => X7_tryShifts_L37 p2 p3 r_3 r_5 s.1 s.2.1 s.2.2) FU (0, x7_6, M_1)).bind (fun M_31 => some M_31)))))
theorem k_X7_tryShifts {G : gG5} {nf : Nat} {M : gM} {i1 : Nat} {p2 : Int32} {p3 : Int32} (h1 : i1 < nf + 3) {M1 : gM} (hr : X7_tryShifts i1 p2 p3 M = some M1) : gMet G (gXn nf) yX7_tryShifts cX7_tryShifts 10 none 3 71 M [.ref (gad 28 0), .ref (gad 33 i1), .int p2, .int p3] none M1 := by
  refine gMet_of pl_X7 rfl (Nat.le_of_ble_eq_true rfl) (fun Ψ C CR => ?_)
  show Ψ M 0 [(0, .ref (gad 28 0)), (1, .ref (gad 33 i1)), (2, .int p2), (3, .int p3)] []
  refine r_aload_n (pc := 0) C dX7_tryShifts_0 rfl 0 rfl ?_
  refine g28_7 (pc := 1) C dX7_tryShifts_1 q476 (e28 nf) ?_
  refine r_iconst (pc := 4) C dX7_tryShifts_4 ki0 ?_
  obtain ⟨M_1, eM_1, hr⟩ := gLet_some hr
  refine r_fillI (pc := 5) (n := 3) C dX7_tryShifts_5 q1242 rfl (e32 nf) ⟨rfl, by decide⟩ eM_1 (by decide) (Nat.le_of_ble_eq_true rfl) ?_
  refine r_aload_n (pc := 8) C dX7_tryShifts_8 rfl 0 rfl ?_
  refine g28_2 (pc := 9) C dX7_tryShifts_9 q470 (e28 nf) ?_
  refine r_aload_n (pc := 12) C dX7_tryShifts_12 rfl 1 rfl ?_
  refine r_iload_n (pc := 13) C dX7_tryShifts_13 rfl 2 rfl ?_
  obtain ⟨r_3, hc_2, hr⟩ := gBind_some hr
  refine c_X9_coveredBy (pc := 14) C dX7_tryShifts_14 q1265 ⟨Nat.le_of_ble_eq_true rfl, Nat.le_of_ble_eq_true rfl⟩ h1 hc_2 (Nat.le_of_ble_eq_true rfl) ?_
  refine r_istore (pc := 17) C dX7_tryShifts_17 (by decide) rfl (ls' := [(4, .int r_3), (0, .ref (gad 28 0)), (1, .ref (gad 33 i1)), (2, .int p2), (3, .int p3)]) rfl ?_
  refine r_aload_n (pc := 19) C dX7_tryShifts_19 rfl 1 rfl ?_
  refine g28_2 (pc := 20) C dX7_tryShifts_20 q470 (e28 nf) ?_
  refine r_aload_n (pc := 23) C dX7_tryShifts_23 rfl 2 rfl ?_
  refine r_iload_n (pc := 24) C dX7_tryShifts_24 rfl 3 rfl ?_
  obtain ⟨r_5, hc_4, hr⟩ := gBind_some hr
  refine c_X9_isCulled (pc := 25) C dX7_tryShifts_25 q1219 ⟨Nat.le_of_ble_eq_true rfl, Nat.le_of_ble_eq_true rfl⟩ h1 hc_4 (Nat.le_of_ble_eq_true rfl) ?_
  refine r_istore (pc := 28) C dX7_tryShifts_28 (by decide) rfl (ls' := [(5, .int r_5), (4, .int r_3), (0, .ref (gad 28 0)), (1, .ref (gad 33 i1)), (2, .int p2), (3, .int p3)]) rfl ?_
  refine r_iconst (pc := 30) C dX7_tryShifts_30 ki0 ?_
  refine r_istore (pc := 31) C dX7_tryShifts_31 (by decide) rfl (ls' := [(6, .int 0), (5, .int r_5), (4, .int r_3), (0, .ref (gad 28 0)), (1, .ref (gad 33 i1)), (2, .int p2), (3, .int p3)]) rfl ?_
  refine r_iload_n (pc := 33) C dX7_tryShifts_33 rfl 6 rfl ?_
  refine r_ineg (pc := 34) C dX7_tryShifts_34 ?_
  obtain ⟨x7_6, ex7_6, hr⟩ := gLet_some hr
  refine r_istore (pc := 35) C dX7_tryShifts_35 (by decide) ex7_6 (ls' := [(7, .int x7_6), (6, .int 0), (5, .int r_5), (4, .int r_3), (0, .ref (gad 28 0)), (1, .ref (gad 33 i1)), (2, .int p2), (3, .int p3)]) rfl ?_
  refine r_sub C [4, 6, 7, 3, 2, 1, 0] (ls' := [(0, .ref (gad 28 0)), (2, .int p2), (3, .int p3), (4, .int r_3), (5, .int r_5), (6, .int 0), (7, .int x7_6)]) rfl ?_
  obtain ⟨ev, hit, hr⟩ := gBind_some hr
  refine gIter_V (step := fun s => X7_tryShifts_L37 p2 p3 r_3 r_5 s.1 s.2.1 s.2.2) (P := fun s => Ψ s.2.2 37 [(0, .ref (gad 28 0)), (2, .int p2), (3, .int p3), (4, .int r_3), (5, .int r_5), (6, .int (s.1)), (7, .int (s.2.1))] []) (K := (fun e => Ψ e 132 [] [])) (fun s w hs hn hx => t_X7_tryShifts_L37 C  hs hn hx) FU (0, x7_6, M_1) ev hit ?_
  obtain ⟨M_31, rfl⟩ : ∃ z, z = ev := ⟨_, rfl⟩
  show Ψ M_31 132 [] []
  exact r_vret (pc := 132) CR dX7_tryShifts_132 rfl (gSome hr)
theorem c_X7_tryShifts {Ψ : gM → Nat → List (Nat × Value) → List Value → Prop} {G : gG5} {nf : Nat} {cc : ByteArray} {own : String} {nL : Nat} {ret : Option FieldType} {fr lo : Nat} {v0 : Option Value} {M0 M : gM} {pc index : Nat} {ls : List (Nat × Value)} {st : List Value} (C : gC Ψ G (gXn nf) cc own nL ret fr lo v0 M0) (d : decode cc pc = .ok (.invokevirtual index, 3)) (hl : Cond.methodLink own index yX7_tryShifts ∈ gws) (hR : 4 ≤ fr ∧ 100 ≤ lo) {i1 : Nat} {p2 : Int32} {p3 : Int32} (h1 : i1 < nf + 3) {M1 : gM} (hr : X7_tryShifts i1 p2 p3 M = some M1) (hcat : (st.map fun v => v.category).sum ≤ 8) (k : Ψ M1 (pc + 3) ls (st)) : Ψ M pc ls (.int p3 :: .int p2 :: .ref (gad 33 i1) :: .ref (gad 28 0) :: st) := r_callV C [.ref (gad 33 i1), .int p2, .int p3] st d (k_X7_tryShifts h1 hr) hl q1262 q1263 q123 q1264 hd_X7_tryShifts hR rfl (by decide) (e28 nf) rfl hcat k
theorem hd_X10_shifts : yX10_shifts.cls ≠ "java/lang/invoke/MethodHandle" ∧ yX10_shifts.cls ≠ "java/lang/invoke/VarHandle" ∧ (parseMethodDescriptor yX10_shifts.desc).map (fun d => d.parameters.length) = some 3 := by decide +kernel
noncomputable def X10_shifts (p1 : Int32) (p2 : Int32) (p3 : Int32) (M : gM) : Option (Int32 × gM) := (X4_has 1 p1 M).bind (fun r_2 => (if r_2 = 0 then some ((-1), M) else (if p2 < 1 then some ((-1), M) else (if 3 < p2 then some ((-1), M) else (if p3 < 0 then some ((-1), M) else (if p3 ≤ 2 then (X7_tryShifts 0 p1 p2 M).bind (fun M_9 => gG (gin p3 3) (some ((M_9.1 32 0 (Int32.toNatClampNeg p3)), M_9))) else some ((-1), M)))))))
theorem k_X10_shifts {G : gG5} {nf : Nat} {M : gM} {p1 : Int32} {p2 : Int32} {p3 : Int32} {r : Int32} {M1 : gM} (hr : X10_shifts p1 p2 p3 M = some (r, M1)) : gMet G (gXn nf) yX10_shifts cX10_shifts 4 (some .int) 4 100 M [.ref (gad 0 0), .int p1, .int p2, .int p3] (some (.int r)) M1 := by
  refine gMet_of pl_X10 rfl (Nat.le_of_ble_eq_true rfl) (fun Ψ C CR => ?_)
  show Ψ M 0 [(0, .ref (gad 0 0)), (1, .int p1), (2, .int p2), (3, .int p3)] []
  refine r_aload_n (pc := 0) C dX10_shifts_0 rfl 0 rfl ?_
  refine g0_3 (pc := 1) C dX10_shifts_1 q537 (e0 nf) ?_
  refine r_iload_n (pc := 4) C dX10_shifts_4 rfl 1 rfl ?_
  obtain ⟨r_2, hc_1, hr⟩ := gBind_some hr
  refine c_X4_has (pc := 5) C dX10_shifts_5 q867 ⟨Nat.le_of_ble_eq_true rfl, Nat.le_of_ble_eq_true rfl⟩ (by decide) hc_1 (Nat.le_of_ble_eq_true rfl) ?_
  refine r_if_eq (pc := 8) (tgt := 30) C dX10_shifts_8 rfl (fun c_3 => ?_) (fun c_3 => ?_)
  · replace hr := (if_pos c_3).symm.trans hr
    refine r_iconst (pc := 30) C dX10_shifts_30 kim1 ?_
    exact r_iret (pc := 31) CR dX10_shifts_31 (congrArg (fun z => some (Value.int z)) (Prod.mk.inj (gSome hr)).1) (Prod.mk.inj (gSome hr)).2
  · replace hr := (if_neg c_3).symm.trans hr
    refine r_iload_n (pc := 11) C dX10_shifts_11 rfl 2 rfl ?_
    refine r_iconst (pc := 12) C dX10_shifts_12 ki1 ?_
    refine r_icmp_lt (pc := 13) (tgt := 30) C dX10_shifts_13 rfl (fun c_4 => ?_) (fun c_4 => ?_)
    · replace hr := (if_pos c_4).symm.trans hr
      refine r_iconst (pc := 30) C dX10_shifts_30 kim1 ?_
      exact r_iret (pc := 31) CR dX10_shifts_31 (congrArg (fun z => some (Value.int z)) (Prod.mk.inj (gSome hr)).1) (Prod.mk.inj (gSome hr)).2
    · replace hr := (if_neg c_4).symm.trans hr
      refine r_iload_n (pc := 16) C dX10_shifts_16 rfl 2 rfl ?_
      refine r_iconst (pc := 17) C dX10_shifts_17 ki3 ?_
      refine r_icmp_gt (pc := 18) (tgt := 30) C dX10_shifts_18 rfl (fun c_5 => ?_) (fun c_5 => ?_)
      · replace hr := (if_pos c_5).symm.trans hr
        refine r_iconst (pc := 30) C dX10_shifts_30 kim1 ?_
        exact r_iret (pc := 31) CR dX10_shifts_31 (congrArg (fun z => some (Value.int z)) (Prod.mk.inj (gSome hr)).1) (Prod.mk.inj (gSome hr)).2
      · replace hr := (if_neg c_5).symm.trans hr
        refine r_iload_n (pc := 21) C dX10_shifts_21 rfl 3 rfl ?_
        refine r_if_lt (pc := 22) (tgt := 30) C dX10_shifts_22 rfl (fun c_6 => ?_) (fun c_6 => ?_)
        · replace hr := (if_pos c_6).symm.trans hr
          refine r_iconst (pc := 30) C dX10_shifts_30 kim1 ?_
          exact r_iret (pc := 31) CR dX10_shifts_31 (congrArg (fun z => some (Value.int z)) (Prod.mk.inj (gSome hr)).1) (Prod.mk.inj (gSome hr)).2
        · replace hr := (if_neg c_6).symm.trans hr
          refine r_iload_n (pc := 25) C dX10_shifts_25 rfl 3 rfl ?_
          refine r_iconst (pc := 26) C dX10_shifts_26 ki2 ?_
          refine r_icmp_le (pc := 27) (tgt := 32) C dX10_shifts_27 rfl (fun c_7 => ?_) (fun c_7 => ?_)
          · replace hr := (if_pos c_7).symm.trans hr
            refine r_aload_n (pc := 32) C dX10_shifts_32 rfl 0 rfl ?_
            refine g0_6 (pc := 33) C dX10_shifts_33 q540 (e0 nf) ?_
            refine r_aload_n (pc := 36) C dX10_shifts_36 rfl 0 rfl ?_
            refine g0_7 (pc := 37) C dX10_shifts_37 q541 (e0 nf) ?_
            refine r_iload_n (pc := 40) C dX10_shifts_40 rfl 1 rfl ?_
            refine r_iload_n (pc := 41) C dX10_shifts_41 rfl 2 rfl ?_
            obtain ⟨M_9, hc_8, hr⟩ := gBind_some hr
            refine c_X7_tryShifts (pc := 42) C dX10_shifts_42 q1261 ⟨Nat.le_of_ble_eq_true rfl, Nat.le_of_ble_eq_true rfl⟩ (gf0 nf) hc_8 (Nat.le_of_ble_eq_true rfl) ?_
            refine r_aload_n (pc := 45) C dX10_shifts_45 rfl 0 rfl ?_
            refine g0_6 (pc := 46) C dX10_shifts_46 q540 (e0 nf) ?_
            refine g28_7 (pc := 49) C dX10_shifts_49 q477 (e28 nf) ?_
            refine r_iload_n (pc := 52) C dX10_shifts_52 rfl 3 rfl ?_
            obtain ⟨g_10, hr⟩ := gG_some hr
            refine r_ialdN (pc := 53) C dX10_shifts_53 rfl (e32 nf) g_10 rfl ?_
            exact r_iret (pc := 54) CR dX10_shifts_54 (congrArg (fun z => some (Value.int z)) (Prod.mk.inj (gSome hr)).1) (Prod.mk.inj (gSome hr)).2
          · replace hr := (if_neg c_7).symm.trans hr
            refine r_iconst (pc := 30) C dX10_shifts_30 kim1 ?_
            exact r_iret (pc := 31) CR dX10_shifts_31 (congrArg (fun z => some (Value.int z)) (Prod.mk.inj (gSome hr)).1) (Prod.mk.inj (gSome hr)).2
theorem c_X10_shifts {Ψ : gM → Nat → List (Nat × Value) → List Value → Prop} {G : gG5} {nf : Nat} {cc : ByteArray} {own : String} {nL : Nat} {ret : Option FieldType} {fr lo : Nat} {v0 : Option Value} {M0 M : gM} {pc index : Nat} {ls : List (Nat × Value)} {st : List Value} (C : gC Ψ G (gXn nf) cc own nL ret fr lo v0 M0) (d : decode cc pc = .ok (.invokevirtual index, 3)) (hl : Cond.methodLink own index yX10_shifts ∈ gws) (hR : 5 ≤ fr ∧ 123 ≤ lo) {p1 : Int32} {p2 : Int32} {p3 : Int32} {r : Int32} {M1 : gM} (hr : X10_shifts p1 p2 p3 M = some (r, M1)) (hcat : (st.map fun v => v.category).sum ≤ 8) (k : Ψ M1 (pc + 3) ls (.int r :: st)) : Ψ M pc ls (.int p3 :: .int p2 :: .int p1 :: .ref (gad 0 0) :: st) := r_callV C [.int p1, .int p2, .int p3] st d (k_X10_shifts hr) hl q1258 q1259 q116 q1260 hd_X10_shifts hR rfl (by decide) (e0 nf) rfl hcat k
theorem hd_X9_pendingInAll : yX9_pendingInAll.cls ≠ "java/lang/invoke/MethodHandle" ∧ yX9_pendingInAll.cls ≠ "java/lang/invoke/VarHandle" ∧ (parseMethodDescriptor yX9_pendingInAll.desc).map (fun d => d.parameters.length) = some 1 := by decide +kernel
noncomputable def X9_pendingInAll_L4 (i1 : Nat) (x2 : Int32) (x3 : Int32) (M : gM) : Option ((Int32 × Int32) ⊕ Int32) := (if (M.1 12 0 5) ≤ x3 then some (.inr x2) else (X1_pendingIn i1 x3 M).bind (fun r_3 => gLet ((x2 + r_3)) (fun x2_4 => gLet (x3 + 1) (fun x3_5 => some (.inl (x2_4, x3_5))))))
theorem t_X9_pendingInAll_L4 {Ψ : gM → Nat → List (Nat × Value) → List Value → Prop} {G : gG5} {nf : Nat} {M : gM} {v0 : Option Value} {M0 : gM} {i1 : Nat} {x2 : Int32} {x3 : Int32} {w : ((Int32 × Int32) ⊕ Int32)} (C : gC Ψ G (gXn nf) cX9_pendingInAll RX9 4 (some .int) 1 24 v0 M0) (h1 : i1 < nf + 3) (hr : X9_pendingInAll_L4 i1 x2 x3 M = some w) (hn : ∀ s, w = .inl s → Ψ M 4 [(0, .ref (gad 17 0)), (1, .ref (gad 33 i1)), (2, .int (s.1)), (3, .int (s.2))] []) (hx : ∀ e, w = .inr e → (fun e => Ψ M 33 [(2, .int e)] []) e) : Ψ M 4 [(0, .ref (gad 17 0)), (1, .ref (gad 33 i1)), (2, .int x2), (3, .int x3)] [] := by
  refine r_iload_n (pc := 4) C dX9_pendingInAll_4 rfl 3 rfl ?_
  refine r_aload_n (pc := 5) C dX9_pendingInAll_5 rfl 0 rfl ?_
  refine g17_1 (pc := 6) C dX9_pendingInAll_6 q377 (e17 nf) ?_
  refine g12_5 (pc := 9) C dX9_pendingInAll_9 q272 (e12 nf) ?_
  refine r_icmp_ge (pc := 12) (tgt := 33) C dX9_pendingInAll_12 rfl (fun c_1 => ?_) (fun c_1 => ?_)
  · replace hr := (if_pos c_1).symm.trans hr
    refine r_sub C [2] (ls' := [(2, .int x2)]) rfl ?_
    exact hx x2 (gSome hr)
  · replace hr := (if_neg c_1).symm.trans hr
    refine r_iload_n (pc := 15) C dX9_pendingInAll_15 rfl 2 rfl ?_
    refine r_aload_n (pc := 16) C dX9_pendingInAll_16 rfl 0 rfl ?_
    refine g17_1 (pc := 17) C dX9_pendingInAll_17 q377 (e17 nf) ?_
    refine r_aload_n (pc := 20) C dX9_pendingInAll_20 rfl 1 rfl ?_
    refine r_iload_n (pc := 21) C dX9_pendingInAll_21 rfl 3 rfl ?_
    obtain ⟨r_3, hc_2, hr⟩ := gBind_some hr
    refine c_X1_pendingIn (pc := 22) C dX9_pendingInAll_22 q972 ⟨Nat.le_of_ble_eq_true rfl, Nat.le_of_ble_eq_true rfl⟩ h1 hc_2 (Nat.le_of_ble_eq_true rfl) ?_
    refine r_iadd (pc := 25) C dX9_pendingInAll_25 ?_
    obtain ⟨x2_4, ex2_4, hr⟩ := gLet_some hr
    refine r_istore_n (pc := 26) C dX9_pendingInAll_26 rfl (by decide) ex2_4 (ls' := [(2, .int x2_4), (0, .ref (gad 17 0)), (1, .ref (gad 33 i1)), (3, .int x3)]) rfl ?_
    obtain ⟨x3_5, ex3_5, hr⟩ := gLet_some hr
    refine r_iinc (pc := 27) C dX9_pendingInAll_27 3 rfl rfl (by decide) ex3_5 (ls' := [(3, .int x3_5), (2, .int x2_4), (0, .ref (gad 17 0)), (1, .ref (gad 33 i1))]) rfl ?_
    refine r_goto (pc := 30) (tgt := 4) C dX9_pendingInAll_30 rfl ?_
    refine r_sub C [2, 3, 1, 0] (ls' := [(0, .ref (gad 17 0)), (1, .ref (gad 33 i1)), (2, .int x2_4), (3, .int x3_5)]) rfl ?_
    exact hn (x2_4, x3_5) (gSome hr)
noncomputable def X9_pendingInAll (i1 : Nat) (M : gM) : Option Int32 := (gIter (fun s => X9_pendingInAll_L4 i1 s.1 s.2 M) FU (0, 0)).bind (fun x2_6 => some x2_6)
theorem k_X9_pendingInAll {G : gG5} {nf : Nat} {M : gM} {i1 : Nat} (h1 : i1 < nf + 3) {r : Int32} (hr : X9_pendingInAll i1 M = some r) : gMet G (gXn nf) yX9_pendingInAll cX9_pendingInAll 4 (some .int) 1 24 M [.ref (gad 17 0), .ref (gad 33 i1)] (some (.int r)) M := by
  refine gMet_of pl_X9 rfl (Nat.le_of_ble_eq_true rfl) (fun Ψ C CR => ?_)
  show Ψ M 0 [(0, .ref (gad 17 0)), (1, .ref (gad 33 i1))] []
  refine r_iconst (pc := 0) C dX9_pendingInAll_0 ki0 ?_
  refine r_istore_n (pc := 1) C dX9_pendingInAll_1 rfl (by decide) rfl (ls' := [(2, .int 0), (0, .ref (gad 17 0)), (1, .ref (gad 33 i1))]) rfl ?_
  refine r_iconst (pc := 2) C dX9_pendingInAll_2 ki0 ?_
  refine r_istore_n (pc := 3) C dX9_pendingInAll_3 rfl (by decide) rfl (ls' := [(3, .int 0), (2, .int 0), (0, .ref (gad 17 0)), (1, .ref (gad 33 i1))]) rfl ?_
  refine r_sub C [2, 3, 1, 0] (ls' := [(0, .ref (gad 17 0)), (1, .ref (gad 33 i1)), (2, .int 0), (3, .int 0)]) rfl ?_
  obtain ⟨ev, hit, hr⟩ := gBind_some hr
  refine gIter_V (step := fun s => X9_pendingInAll_L4 i1 s.1 s.2 M) (P := fun s => Ψ M 4 [(0, .ref (gad 17 0)), (1, .ref (gad 33 i1)), (2, .int (s.1)), (3, .int (s.2))] []) (K := (fun e => Ψ M 33 [(2, .int e)] [])) (fun s w hs hn hx => t_X9_pendingInAll_L4 C h1 hs hn hx) FU (0, 0) ev hit ?_
  obtain ⟨x2_6, rfl⟩ : ∃ z, z = ev := ⟨_, rfl⟩
  show Ψ M 33 [(2, .int x2_6)] []
  refine r_iload_n (pc := 33) C dX9_pendingInAll_33 rfl 0 rfl ?_
  exact r_iret (pc := 34) CR dX9_pendingInAll_34 (congrArg (fun z => some (Value.int z)) (gSome hr)) rfl
theorem c_X9_pendingInAll {Ψ : gM → Nat → List (Nat × Value) → List Value → Prop} {G : gG5} {nf : Nat} {cc : ByteArray} {own : String} {nL : Nat} {ret : Option FieldType} {fr lo : Nat} {v0 : Option Value} {M0 M : gM} {pc index : Nat} {ls : List (Nat × Value)} {st : List Value} (C : gC Ψ G (gXn nf) cc own nL ret fr lo v0 M0) (d : decode cc pc = .ok (.invokevirtual index, 3)) (hl : Cond.methodLink own index yX9_pendingInAll ∈ gws) (hR : 2 ≤ fr ∧ 47 ≤ lo) {i1 : Nat} (h1 : i1 < nf + 3) {r : Int32} (hr : X9_pendingInAll i1 M = some r) (hcat : (st.map fun v => v.category).sum ≤ 8) (k : Ψ M (pc + 3) ls (.int r :: st)) : Ψ M pc ls (.ref (gad 33 i1) :: .ref (gad 17 0) :: st) := r_callV C [.ref (gad 33 i1)] st d (k_X9_pendingInAll h1 hr) hl q1279 q1280 q121 q1281 hd_X9_pendingInAll hR rfl (by decide) (e17 nf) rfl hcat k
theorem hd_X7_hidesOf : yX7_hidesOf.cls ≠ "java/lang/invoke/MethodHandle" ∧ yX7_hidesOf.cls ≠ "java/lang/invoke/VarHandle" ∧ (parseMethodDescriptor yX7_hidesOf.desc).map (fun d => d.parameters.length) = some 1 := by decide +kernel
noncomputable def X7_hidesOf_L16 (x2 : Int32) (x3 : Int32) (M : gM) : Option ((Int32 × Int32) ⊕ Int32) := (if (M.1 5 1 5) ≤ x3 then some (.inr x2) else gG (gin x3 10) ((if (lg_cmp (M.2 41 2 (Int32.toNatClampNeg x3)) 0) = 0 then gLet ((x2 ||| (1 <<< (x3 &&& 31)))) (fun x2_7 => gLet (x3 + 1) (fun x3_8 => some (.inl (x2_7, x3_8)))) else gLet (x3 + 1) (fun x3_6 => some (.inl (x2, x3_6))))))
theorem t_X7_hidesOf_L16 {Ψ : gM → Nat → List (Nat × Value) → List Value → Prop} {G : gG5} {nf : Nat} {M : gM} {v0 : Option Value} {M0 : gM} {x2 : Int32} {x3 : Int32} {w : ((Int32 × Int32) ⊕ Int32)} (C : gC Ψ G (gXn nf) cX7_hidesOf RX7 4 (some .int) 5 127 v0 M0) (hr : X7_hidesOf_L16 x2 x3 M = some w) (hn : ∀ s, w = .inl s → Ψ M 16 [(0, .ref (gad 28 0)), (2, .int (s.1)), (3, .int (s.2))] []) (hx : ∀ e, w = .inr e → (fun e => Ψ M 53 [(2, .int e)] []) e) : Ψ M 16 [(0, .ref (gad 28 0)), (2, .int x2), (3, .int x3)] [] := by
  refine r_iload_n (pc := 16) C dX7_hidesOf_16 rfl 2 rfl ?_
  refine r_aload_n (pc := 17) C dX7_hidesOf_17 rfl 0 rfl ?_
  refine g28_0 (pc := 18) C dX7_hidesOf_18 q468 (e28 nf) ?_
  refine g5_5 (pc := 21) C dX7_hidesOf_21 q214 (e5 (nf := nf) (by decide)) ?_
  refine r_icmp_ge (pc := 24) (tgt := 53) C dX7_hidesOf_24 rfl (fun c_3 => ?_) (fun c_3 => ?_)
  · replace hr := (if_pos c_3).symm.trans hr
    refine r_sub C [1] (ls' := [(2, .int x2)]) rfl ?_
    exact hx x2 (gSome hr)
  · replace hr := (if_neg c_3).symm.trans hr
    refine r_aload_n (pc := 27) C dX7_hidesOf_27 rfl 0 rfl ?_
    refine g28_6 (pc := 28) C dX7_hidesOf_28 q474 (e28 nf) ?_
    refine g33_7 (pc := 31) C dX7_hidesOf_31 q426 (e33 (nf := nf) (gf2 nf)) ?_
    refine r_iload_n (pc := 34) C dX7_hidesOf_34 rfl 2 rfl ?_
    obtain ⟨g_4, hr⟩ := gG_some hr
    refine r_laldN (pc := 35) C dX7_hidesOf_35 rfl (e41 (nf := nf) (gf2 nf)) g_4 rfl ?_
    refine r_lconst (pc := 36) (v := 0) C dX7_hidesOf_36 rfl ?_
    refine r_lcmp (pc := 37) C dX7_hidesOf_37 ?_
    refine r_if_ne (pc := 38) (tgt := 47) C dX7_hidesOf_38 rfl (fun c_5 => ?_) (fun c_5 => ?_)
    · replace hr := (if_neg c_5).symm.trans hr
      obtain ⟨x3_6, ex3_6, hr⟩ := gLet_some hr
      refine r_iinc (pc := 47) C dX7_hidesOf_47 2 rfl rfl (by decide) ex3_6 (ls' := [(3, .int x3_6), (0, .ref (gad 28 0)), (2, .int x2)]) rfl ?_
      refine r_goto (pc := 50) (tgt := 16) C dX7_hidesOf_50 rfl ?_
      refine r_sub C [1, 2, 0] (ls' := [(0, .ref (gad 28 0)), (2, .int x2), (3, .int x3_6)]) rfl ?_
      exact hn (x2, x3_6) (gSome hr)
    · replace hr := (if_pos c_5).symm.trans hr
      refine r_iload_n (pc := 41) C dX7_hidesOf_41 rfl 1 rfl ?_
      refine r_iconst (pc := 42) C dX7_hidesOf_42 ki1 ?_
      refine r_iload_n (pc := 43) C dX7_hidesOf_43 rfl 2 rfl ?_
      refine r_ishl (pc := 44) C dX7_hidesOf_44 ?_
      refine r_ior (pc := 45) C dX7_hidesOf_45 ?_
      obtain ⟨x2_7, ex2_7, hr⟩ := gLet_some hr
      refine r_istore_n (pc := 46) C dX7_hidesOf_46 rfl (by decide) ex2_7 (ls' := [(2, .int x2_7), (0, .ref (gad 28 0)), (3, .int x3)]) rfl ?_
      obtain ⟨x3_8, ex3_8, hr⟩ := gLet_some hr
      refine r_iinc (pc := 47) C dX7_hidesOf_47 2 rfl rfl (by decide) ex3_8 (ls' := [(3, .int x3_8), (2, .int x2_7), (0, .ref (gad 28 0))]) rfl ?_
      refine r_goto (pc := 50) (tgt := 16) C dX7_hidesOf_50 rfl ?_
      refine r_sub C [2, 1, 0] (ls' := [(0, .ref (gad 28 0)), (2, .int x2_7), (3, .int x3_8)]) rfl ?_
      exact hn (x2_7, x3_8) (gSome hr)
noncomputable def X7_hidesOf (i1 : Nat) (M : gM) : Option (Int32 × gM) := (X7_drawWhole i1 (M.1 40 i1 2) (-1) M).bind (fun M_2 => (gIter (fun s => X7_hidesOf_L16 s.1 s.2 M_2) FU (0, 0)).bind (fun x2_9 => some (x2_9, M_2)))
theorem k_X7_hidesOf {G : gG5} {nf : Nat} {M : gM} {i1 : Nat} (h1 : i1 < nf + 3) {r : Int32} {M1 : gM} (hr : X7_hidesOf i1 M = some (r, M1)) : gMet G (gXn nf) yX7_hidesOf cX7_hidesOf 4 (some .int) 5 127 M [.ref (gad 28 0), .ref (gad 33 i1)] (some (.int r)) M1 := by
  refine gMet_of pl_X7 rfl (Nat.le_of_ble_eq_true rfl) (fun Ψ C CR => ?_)
  show Ψ M 0 [(0, .ref (gad 28 0)), (1, .ref (gad 33 i1))] []
  refine r_aload_n (pc := 0) C dX7_hidesOf_0 rfl 0 rfl ?_
  refine r_aload_n (pc := 1) C dX7_hidesOf_1 rfl 1 rfl ?_
  refine r_aload_n (pc := 2) C dX7_hidesOf_2 rfl 1 rfl ?_
  refine g33_6 (pc := 3) C dX7_hidesOf_3 q422 (e33 (nf := nf) h1) ?_
  refine r_iconst (pc := 6) C dX7_hidesOf_6 ki2 ?_
  refine r_ialdN (pc := 7) C dX7_hidesOf_7 rfl (e40 (nf := nf) h1) (by decide : gin 2 4 = true) kc2 ?_
  refine r_iconst (pc := 8) C dX7_hidesOf_8 kim1 ?_
  obtain ⟨M_2, hc_1, hr⟩ := gBind_some hr
  refine c_X7_drawWhole (pc := 9) C dX7_hidesOf_9 q1232 ⟨Nat.le_of_ble_eq_true rfl, Nat.le_of_ble_eq_true rfl⟩ h1 hc_1 (Nat.le_of_ble_eq_true rfl) ?_
  refine r_iconst (pc := 12) C dX7_hidesOf_12 ki0 ?_
  refine r_istore_n (pc := 13) C dX7_hidesOf_13 rfl (by decide) rfl (ls' := [(2, .int 0), (0, .ref (gad 28 0)), (1, .ref (gad 33 i1))]) rfl ?_
  refine r_iconst (pc := 14) C dX7_hidesOf_14 ki0 ?_
  refine r_istore_n (pc := 15) C dX7_hidesOf_15 rfl (by decide) rfl (ls' := [(3, .int 0), (2, .int 0), (0, .ref (gad 28 0)), (1, .ref (gad 33 i1))]) rfl ?_
  refine r_sub C [2, 1, 0] (ls' := [(0, .ref (gad 28 0)), (2, .int 0), (3, .int 0)]) rfl ?_
  obtain ⟨ev, hit, hr⟩ := gBind_some hr
  refine gIter_V (step := fun s => X7_hidesOf_L16 s.1 s.2 M_2) (P := fun s => Ψ M_2 16 [(0, .ref (gad 28 0)), (2, .int (s.1)), (3, .int (s.2))] []) (K := (fun e => Ψ M_2 53 [(2, .int e)] [])) (fun s w hs hn hx => t_X7_hidesOf_L16 C  hs hn hx) FU (0, 0) ev hit ?_
  obtain ⟨x2_9, rfl⟩ : ∃ z, z = ev := ⟨_, rfl⟩
  show Ψ M_2 53 [(2, .int x2_9)] []
  refine r_iload_n (pc := 53) C dX7_hidesOf_53 rfl 0 rfl ?_
  exact r_iret (pc := 54) CR dX7_hidesOf_54 (congrArg (fun z => some (Value.int z)) (Prod.mk.inj (gSome hr)).1) (Prod.mk.inj (gSome hr)).2
theorem c_X7_hidesOf {Ψ : gM → Nat → List (Nat × Value) → List Value → Prop} {G : gG5} {nf : Nat} {cc : ByteArray} {own : String} {nL : Nat} {ret : Option FieldType} {fr lo : Nat} {v0 : Option Value} {M0 M : gM} {pc index : Nat} {ls : List (Nat × Value)} {st : List Value} (C : gC Ψ G (gXn nf) cc own nL ret fr lo v0 M0) (d : decode cc pc = .ok (.invokevirtual index, 3)) (hl : Cond.methodLink own index yX7_hidesOf ∈ gws) (hR : 6 ≤ fr ∧ 150 ≤ lo) {i1 : Nat} (h1 : i1 < nf + 3) {r : Int32} {M1 : gM} (hr : X7_hidesOf i1 M = some (r, M1)) (hcat : (st.map fun v => v.category).sum ≤ 8) (k : Ψ M1 (pc + 3) ls (.int r :: st)) : Ψ M pc ls (.ref (gad 33 i1) :: .ref (gad 28 0) :: st) := r_callV C [.ref (gad 33 i1)] st d (k_X7_hidesOf h1 hr) hl q1283 q1284 q123 q1285 hd_X7_hidesOf hR rfl (by decide) (e28 nf) rfl hcat k
