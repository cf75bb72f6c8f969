theorem hd_X7_savedOf : yX7_savedOf.cls ≠ "java/lang/invoke/MethodHandle" ∧ yX7_savedOf.cls ≠ "java/lang/invoke/VarHandle" ∧ (parseMethodDescriptor yX7_savedOf.desc).map (fun d => d.parameters.length) = some 1 := by decide +kernel
noncomputable def X7_savedOf (i1 : Nat) (M : gM) : Option (Int32 × gM) := (X7_drawWhole i1 0 (-1) M).bind (fun M_2 => (X0_pairs 2 M_2).bind (fun r_4 => (X7_drawWhole i1 1 (-1) M_2).bind (fun M_6 => (X0_pairs 2 M_6).bind (fun r_8 => some ((r_4 - r_8), M_6)))))
theorem k_X7_savedOf {G : gG5} {nf : Nat} {M : gM} {i1 : Nat} (h1 : i1 < nf + 3) {r : Int32} {M1 : gM} (hr : X7_savedOf i1 M = some (r, M1)) : gMet G (gXn nf) yX7_savedOf cX7_savedOf 3 (some .int) 5 127 M [.ref (gad 28 0), .ref (gad 33 i1)] (some (.int r)) M1 := by
  refine gMet_of pl_X7 rfl (Nat.le_of_ble_eq_true rfl) (fun Ψ C CR => ?_)
  show Ψ M 0 [(0, .ref (gad 28 0)), (1, .ref (gad 33 i1))] []
  refine r_aload_n (pc := 0) C dX7_savedOf_0 rfl 0 rfl ?_
  refine r_aload_n (pc := 1) C dX7_savedOf_1 rfl 1 rfl ?_
  refine r_iconst (pc := 2) C dX7_savedOf_2 ki0 ?_
  refine r_iconst (pc := 3) C dX7_savedOf_3 kim1 ?_
  obtain ⟨M_2, hc_1, hr⟩ := gBind_some hr
  refine c_X7_drawWhole (pc := 4) C dX7_savedOf_4 q1232 ⟨Nat.le_of_ble_eq_true rfl, Nat.le_of_ble_eq_true rfl⟩ h1 hc_1 (Nat.le_of_ble_eq_true rfl) ?_
  refine r_aload_n (pc := 7) C dX7_savedOf_7 rfl 0 rfl ?_
  refine g28_6 (pc := 8) C dX7_savedOf_8 q474 (e28 nf) ?_
  obtain ⟨r_4, hc_3, hr⟩ := gBind_some hr
  refine c_X0_pairs (pc := 11) C dX7_savedOf_11 q1255 ⟨Nat.le_of_ble_eq_true rfl, Nat.le_of_ble_eq_true rfl⟩ (gf2 nf) hc_3 (Nat.le_of_ble_eq_true rfl) ?_
  refine r_istore_n (pc := 14) C dX7_savedOf_14 rfl (by decide) rfl (ls' := [(2, .int r_4), (0, .ref (gad 28 0)), (1, .ref (gad 33 i1))]) rfl ?_
  refine r_aload_n (pc := 15) C dX7_savedOf_15 rfl 1 rfl ?_
  refine r_aload_n (pc := 16) C dX7_savedOf_16 rfl 2 rfl ?_
  refine r_iconst (pc := 17) C dX7_savedOf_17 ki1 ?_
  refine r_iconst (pc := 18) C dX7_savedOf_18 kim1 ?_
  obtain ⟨M_6, hc_5, hr⟩ := gBind_some hr
  refine c_X7_drawWhole (pc := 19) C dX7_savedOf_19 q1232 ⟨Nat.le_of_ble_eq_true rfl, Nat.le_of_ble_eq_true rfl⟩ h1 hc_5 (Nat.le_of_ble_eq_true rfl) ?_
  refine r_iload_n (pc := 22) C dX7_savedOf_22 rfl 0 rfl ?_
  refine r_aload_n (pc := 23) C dX7_savedOf_23 rfl 1 rfl ?_
  refine g28_6 (pc := 24) C dX7_savedOf_24 q474 (e28 nf) ?_
  obtain ⟨r_8, hc_7, hr⟩ := gBind_some hr
  refine c_X0_pairs (pc := 27) C dX7_savedOf_27 q1255 ⟨Nat.le_of_ble_eq_true rfl, Nat.le_of_ble_eq_true rfl⟩ (gf2 nf) hc_7 (Nat.le_of_ble_eq_true rfl) ?_
  refine r_isub (pc := 30) C dX7_savedOf_30 ?_
  exact r_iret (pc := 31) CR dX7_savedOf_31 (congrArg (fun z => some (Value.int z)) (Prod.mk.inj (gSome hr)).1) (Prod.mk.inj (gSome hr)).2
theorem c_X7_savedOf {Ψ : gM → Nat → List (Nat × Value) → List Value → Prop} {G : gG5} {nf : Nat} {cc : ByteArray} {own : String} {nL : Nat} {ret : Option FieldType} {fr lo : Nat} {v0 : Option Value} {M0 M : gM} {pc index : Nat} {ls : List (Nat × Value)} {st : List Value} (C : gC Ψ G (gXn nf) cc own nL ret fr lo v0 M0) (d : decode cc pc = .ok (.invokevirtual index, 3)) (hl : Cond.methodLink own index yX7_savedOf ∈ gws) (hR : 6 ≤ fr ∧ 149 ≤ lo) {i1 : Nat} (h1 : i1 < nf + 3) {r : Int32} {M1 : gM} (hr : X7_savedOf i1 M = some (r, M1)) (hcat : (st.map fun v => v.category).sum ≤ 8) (k : Ψ M1 (pc + 3) ls (.int r :: st)) : Ψ M pc ls (.ref (gad 33 i1) :: .ref (gad 28 0) :: st) := r_callV C [.ref (gad 33 i1)] st d (k_X7_savedOf h1 hr) hl q1287 q1288 q123 q1289 hd_X7_savedOf hR rfl (by decide) (e28 nf) rfl hcat k
theorem hd_X9_culledOnes : yX9_culledOnes.cls ≠ "java/lang/invoke/MethodHandle" ∧ yX9_culledOnes.cls ≠ "java/lang/invoke/VarHandle" ∧ (parseMethodDescriptor yX9_culledOnes.desc).map (fun d => d.parameters.length) = some 1 := by decide +kernel
noncomputable def X9_culledOnes_L4 (i1 : Nat) (x2 : Int32) (x3 : Int32) (M : gM) : Option ((Int32 × Int32) ⊕ Int32) := (if (M.1 5 1 5) ≤ x3 then some (.inr x2) else (X9_isCulled i1 x3 M).bind (fun r_3 => (if r_3 = 0 then gLet (x3 + 1) (fun x3_5 => some (.inl (x2, x3_5))) else gLet ((x2 ||| (1 <<< (x3 &&& 31)))) (fun x2_6 => gLet (x3 + 1) (fun x3_7 => some (.inl (x2_6, x3_7)))))))
theorem t_X9_culledOnes_L4 {Ψ : gM → Nat → List (Nat × Value) → List Value → Prop} {G : gG5} {nf : Nat} {M : gM} {v0 : Option Value} {M0 : gM} {i1 : Nat} {x2 : Int32} {x3 : Int32} {w : ((Int32 × Int32) ⊕ Int32)} (C : gC Ψ G (gXn nf) cX9_culledOnes RX9 4 (some .int) 1 24 v0 M0) (h1 : i1 < nf + 3) (hr : X9_culledOnes_L4 i1 x2 x3 M = some w) (hn : ∀ s, w = .inl s → Ψ M 4 [(0, .ref (gad 17 0)), (1, .ref (gad 33 i1)), (2, .int (s.1)), (3, .int (s.2))] []) (hx : ∀ e, w = .inr e → (fun e => Ψ M 36 [(2, .int e)] []) e) : Ψ M 4 [(0, .ref (gad 17 0)), (1, .ref (gad 33 i1)), (2, .int x2), (3, .int x3)] [] := by
  refine r_iload_n (pc := 4) C dX9_culledOnes_4 rfl 3 rfl ?_
  refine r_aload_n (pc := 5) C dX9_culledOnes_5 rfl 0 rfl ?_
  refine g17_0 (pc := 6) C dX9_culledOnes_6 q376 (e17 nf) ?_
  refine g5_5 (pc := 9) C dX9_culledOnes_9 q213 (e5 (nf := nf) (by decide)) ?_
  refine r_icmp_ge (pc := 12) (tgt := 36) C dX9_culledOnes_12 rfl (fun c_1 => ?_) (fun c_1 => ?_)
  · replace hr := (if_pos c_1).symm.trans hr
    refine r_sub C [2] (ls' := [(2, .int x2)]) rfl ?_
    exact hx x2 (gSome hr)
  · replace hr := (if_neg c_1).symm.trans hr
    refine r_aload_n (pc := 15) C dX9_culledOnes_15 rfl 0 rfl ?_
    refine r_aload_n (pc := 16) C dX9_culledOnes_16 rfl 1 rfl ?_
    refine r_iload_n (pc := 17) C dX9_culledOnes_17 rfl 3 rfl ?_
    obtain ⟨r_3, hc_2, hr⟩ := gBind_some hr
    refine c_X9_isCulled (pc := 18) C dX9_culledOnes_18 q893 ⟨Nat.le_of_ble_eq_true rfl, Nat.le_of_ble_eq_true rfl⟩ h1 hc_2 (Nat.le_of_ble_eq_true rfl) ?_
    refine r_if_eq (pc := 21) (tgt := 30) C dX9_culledOnes_21 rfl (fun c_4 => ?_) (fun c_4 => ?_)
    · replace hr := (if_pos c_4).symm.trans hr
      obtain ⟨x3_5, ex3_5, hr⟩ := gLet_some hr
      refine r_iinc (pc := 30) C dX9_culledOnes_30 3 rfl rfl (by decide) ex3_5 (ls' := [(3, .int x3_5), (0, .ref (gad 17 0)), (1, .ref (gad 33 i1)), (2, .int x2)]) rfl ?_
      refine r_goto (pc := 33) (tgt := 4) C dX9_culledOnes_33 rfl ?_
      refine r_sub C [1, 2, 3, 0] (ls' := [(0, .ref (gad 17 0)), (1, .ref (gad 33 i1)), (2, .int x2), (3, .int x3_5)]) rfl ?_
      exact hn (x2, x3_5) (gSome hr)
    · replace hr := (if_neg c_4).symm.trans hr
      refine r_iload_n (pc := 24) C dX9_culledOnes_24 rfl 2 rfl ?_
      refine r_iconst (pc := 25) C dX9_culledOnes_25 ki1 ?_
      refine r_iload_n (pc := 26) C dX9_culledOnes_26 rfl 3 rfl ?_
      refine r_ishl (pc := 27) C dX9_culledOnes_27 ?_
      refine r_ior (pc := 28) C dX9_culledOnes_28 ?_
      obtain ⟨x2_6, ex2_6, hr⟩ := gLet_some hr
      refine r_istore_n (pc := 29) C dX9_culledOnes_29 rfl (by decide) ex2_6 (ls' := [(2, .int x2_6), (0, .ref (gad 17 0)), (1, .ref (gad 33 i1)), (3, .int x3)]) rfl ?_
      obtain ⟨x3_7, ex3_7, hr⟩ := gLet_some hr
      refine r_iinc (pc := 30) C dX9_culledOnes_30 3 rfl rfl (by decide) ex3_7 (ls' := [(3, .int x3_7), (2, .int x2_6), (0, .ref (gad 17 0)), (1, .ref (gad 33 i1))]) rfl ?_
      refine r_goto (pc := 33) (tgt := 4) C dX9_culledOnes_33 rfl ?_
      refine r_sub C [2, 3, 1, 0] (ls' := [(0, .ref (gad 17 0)), (1, .ref (gad 33 i1)), (2, .int x2_6), (3, .int x3_7)]) rfl ?_
      exact hn (x2_6, x3_7) (gSome hr)
noncomputable def X9_culledOnes (i1 : Nat) (M : gM) : Option Int32 := (gIter (fun s => X9_culledOnes_L4 i1 s.1 s.2 M) FU (0, 0)).bind (fun x2_8 => some x2_8)
theorem k_X9_culledOnes {G : gG5} {nf : Nat} {M : gM} {i1 : Nat} (h1 : i1 < nf + 3) {r : Int32} (hr : X9_culledOnes i1 M = some r) : gMet G (gXn nf) yX9_culledOnes cX9_culledOnes 4 (some .int) 1 24 M [.ref (gad 17 0), .ref (gad 33 i1)] (some (.int r)) M := by
  refine gMet_of pl_X9 rfl (Nat.le_of_ble_eq_true rfl) (fun Ψ C CR => ?_)
  show Ψ M 0 [(0, .ref (gad 17 0)), (1, .ref (gad 33 i1))] []
  refine r_iconst (pc := 0) C dX9_culledOnes_0 ki0 ?_
  refine r_istore_n (pc := 1) C dX9_culledOnes_1 rfl (by decide) rfl (ls' := [(2, .int 0), (0, .ref (gad 17 0)), (1, .ref (gad 33 i1))]) rfl ?_
  refine r_iconst (pc := 2) C dX9_culledOnes_2 ki0 ?_
  refine r_istore_n (pc := 3) C dX9_culledOnes_3 rfl (by decide) rfl (ls' := [(3, .int 0), (2, .int 0), (0, .ref (gad 17 0)), (1, .ref (gad 33 i1))]) rfl ?_
  refine r_sub C [2, 3, 1, 0] (ls' := [(0, .ref (gad 17 0)), (1, .ref (gad 33 i1)), (2, .int 0), (3, .int 0)]) rfl ?_
  obtain ⟨ev, hit, hr⟩ := gBind_some hr
  refine gIter_V (step := fun s => X9_culledOnes_L4 i1 s.1 s.2 M) (P := fun s => Ψ M 4 [(0, .ref (gad 17 0)), (1, .ref (gad 33 i1)), (2, .int (s.1)), (3, .int (s.2))] []) (K := (fun e => Ψ M 36 [(2, .int e)] [])) (fun s w hs hn hx => t_X9_culledOnes_L4 C h1 hs hn hx) FU (0, 0) ev hit ?_
  obtain ⟨x2_8, rfl⟩ : ∃ z, z = ev := ⟨_, rfl⟩
  show Ψ M 36 [(2, .int x2_8)] []
  refine r_iload_n (pc := 36) C dX9_culledOnes_36 rfl 0 rfl ?_
  exact r_iret (pc := 37) CR dX9_culledOnes_37 (congrArg (fun z => some (Value.int z)) (gSome hr)) rfl
theorem c_X9_culledOnes {Ψ : gM → Nat → List (Nat × Value) → List Value → Prop} {G : gG5} {nf : Nat} {cc : ByteArray} {own : String} {nL : Nat} {ret : Option FieldType} {fr lo : Nat} {v0 : Option Value} {M0 M : gM} {pc index : Nat} {ls : List (Nat × Value)} {st : List Value} (C : gC Ψ G (gXn nf) cc own nL ret fr lo v0 M0) (d : decode cc pc = .ok (.invokevirtual index, 3)) (hl : Cond.methodLink own index yX9_culledOnes ∈ gws) (hR : 2 ≤ fr ∧ 47 ≤ lo) {i1 : Nat} (h1 : i1 < nf + 3) {r : Int32} (hr : X9_culledOnes i1 M = some r) (hcat : (st.map fun v => v.category).sum ≤ 8) (k : Ψ M (pc + 3) ls (.int r :: st)) : Ψ M pc ls (.ref (gad 33 i1) :: .ref (gad 17 0) :: st) := r_callV C [.ref (gad 33 i1)] st d (k_X9_culledOnes h1 hr) hl q1291 q1292 q121 q1293 hd_X9_culledOnes hR rfl (by decide) (e17 nf) rfl hcat k
theorem hd_X9_fullestTile : yX9_fullestTile.cls ≠ "java/lang/invoke/MethodHandle" ∧ yX9_fullestTile.cls ≠ "java/lang/invoke/VarHandle" ∧ (parseMethodDescriptor yX9_fullestTile.desc).map (fun d => d.parameters.length) = some 1 := by decide +kernel
noncomputable def X9_fullestTile_L4 (i1 : Nat) (x2 : Int32) (x3 : Int32) (M : gM) : Option ((Int32 × Int32) ⊕ Int32) := (if (M.1 12 0 5) ≤ x3 then some (.inr x2) else gG (gin x3 16) (gG (gin x2 16) ((if (M.1 38 i1 (Int32.toNatClampNeg x3)) ≤ (M.1 38 i1 (Int32.toNatClampNeg x2)) then gLet (x3 + 1) (fun x3_5 => some (.inl (x2, x3_5))) else gLet (x3 + 1) (fun x3_6 => some (.inl (x3, x3_6)))))))
theorem t_X9_fullestTile_L4 {Ψ : gM → Nat → List (Nat × Value) → List Value → Prop} {G : gG5} {nf : Nat} {M : gM} {v0 : Option Value} {M0 : gM} {i1 : Nat} {x2 : Int32} {x3 : Int32} {w : ((Int32 × Int32) ⊕ Int32)} (C : gC Ψ G (gXn nf) cX9_fullestTile RX9 4 (some .int) 0 0 v0 M0) (h1 : i1 < nf + 3) (hr : X9_fullestTile_L4 i1 x2 x3 M = some w) (hn : ∀ s, w = .inl s → Ψ M 4 [(0, .ref (gad 17 0)), (1, .ref (gad 33 i1)), (2, .int (s.1)), (3, .int (s.2))] []) (hx : ∀ e, w = .inr e → (fun e => Ψ M 38 [(2, .int e)] []) e) : Ψ M 4 [(0, .ref (gad 17 0)), (1, .ref (gad 33 i1)), (2, .int x2), (3, .int x3)] [] := by
  refine r_iload_n (pc := 4) C dX9_fullestTile_4 rfl 3 rfl ?_
  refine r_aload_n (pc := 5) C dX9_fullestTile_5 rfl 0 rfl ?_
  refine g17_1 (pc := 6) C dX9_fullestTile_6 q377 (e17 nf) ?_
  refine g12_5 (pc := 9) C dX9_fullestTile_9 q272 (e12 nf) ?_
  refine r_icmp_ge (pc := 12) (tgt := 38) C dX9_fullestTile_12 rfl (fun c_1 => ?_) (fun c_1 => ?_)
  · replace hr := (if_pos c_1).symm.trans hr
    refine r_sub C [2] (ls' := [(2, .int x2)]) rfl ?_
    exact hx x2 (gSome hr)
  · replace hr := (if_neg c_1).symm.trans hr
    refine r_aload_n (pc := 15) C dX9_fullestTile_15 rfl 1 rfl ?_
    refine g33_4 (pc := 16) C dX9_fullestTile_16 q416 (e33 (nf := nf) h1) ?_
    refine r_iload_n (pc := 19) C dX9_fullestTile_19 rfl 3 rfl ?_
    obtain ⟨g_2, hr⟩ := gG_some hr
    refine r_ialdN (pc := 20) C dX9_fullestTile_20 rfl (e38 (nf := nf) h1) g_2 rfl ?_
    refine r_aload_n (pc := 21) C dX9_fullestTile_21 rfl 1 rfl ?_
    refine g33_4 (pc := 22) C dX9_fullestTile_22 q416 (e33 (nf := nf) h1) ?_
    refine r_iload_n (pc := 25) C dX9_fullestTile_25 rfl 2 rfl ?_
    obtain ⟨g_3, hr⟩ := gG_some hr
    refine r_ialdN (pc := 26) C dX9_fullestTile_26 rfl (e38 (nf := nf) h1) g_3 rfl ?_
    refine r_icmp_le (pc := 27) (tgt := 32) C dX9_fullestTile_27 rfl (fun c_4 => ?_) (fun c_4 => ?_)
    · replace hr := (if_pos c_4).symm.trans hr
      obtain ⟨x3_5, ex3_5, hr⟩ := gLet_some hr
      refine r_iinc (pc := 32) C dX9_fullestTile_32 3 rfl rfl (by decide) ex3_5 (ls' := [(3, .int x3_5), (0, .ref (gad 17 0)), (1, .ref (gad 33 i1)), (2, .int x2)]) rfl ?_
      refine r_goto (pc := 35) (tgt := 4) C dX9_fullestTile_35 rfl ?_
      refine r_sub C [1, 2, 3, 0] (ls' := [(0, .ref (gad 17 0)), (1, .ref (gad 33 i1)), (2, .int x2), (3, .int x3_5)]) rfl ?_
      exact hn (x2, x3_5) (gSome hr)
    · replace hr := (if_neg c_4).symm.trans hr
      refine r_iload_n (pc := 30) C dX9_fullestTile_30 rfl 3 rfl ?_
      refine r_istore_n (pc := 31) C dX9_fullestTile_31 rfl (by decide) rfl (ls' := [(2, .int x3), (0, .ref (gad 17 0)), (1, .ref (gad 33 i1)), (3, .int x3)]) rfl ?_
      obtain ⟨x3_6, ex3_6, hr⟩ := gLet_some hr
      refine r_iinc (pc := 32) C dX9_fullestTile_32 3 rfl rfl (by decide) ex3_6 (ls' := [(3, .int x3_6), (2, .int x3), (0, .ref (gad 17 0)), (1, .ref (gad 33 i1))]) rfl ?_
      refine r_goto (pc := 35) (tgt := 4) C dX9_fullestTile_35 rfl ?_
      refine r_sub C [2, 3, 1, 0] (ls' := [(0, .ref (gad 17 0)), (1, .ref (gad 33 i1)), (2, .int x3), (3, .int x3_6)]) rfl ?_
      exact hn (x3, x3_6) (gSome hr)
noncomputable def X9_fullestTile (i1 : Nat) (M : gM) : Option Int32 := (gIter (fun s => X9_fullestTile_L4 i1 s.1 s.2 M) FU (0, 1)).bind (fun x2_7 => some x2_7)
theorem k_X9_fullestTile {G : gG5} {nf : Nat} {M : gM} {i1 : Nat} (h1 : i1 < nf + 3) {r : Int32} (hr : X9_fullestTile i1 M = some r) : gMet G (gXn nf) yX9_fullestTile cX9_fullestTile 4 (some .int) 0 0 M [.ref (gad 17 0), .ref (gad 33 i1)] (some (.int r)) M := by
  refine gMet_of pl_X9 rfl (Nat.le_of_ble_eq_true rfl) (fun Ψ C CR => ?_)
  show Ψ M 0 [(0, .ref (gad 17 0)), (1, .ref (gad 33 i1))] []
  refine r_iconst (pc := 0) C dX9_fullestTile_0 ki0 ?_
  refine r_istore_n (pc := 1) C dX9_fullestTile_1 rfl (by decide) rfl (ls' := [(2, .int 0), (0, .ref (gad 17 0)), (1, .ref (gad 33 i1))]) rfl ?_
  refine r_iconst (pc := 2) C dX9_fullestTile_2 ki1 ?_
  refine r_istore_n (pc := 3) C dX9_fullestTile_3 rfl (by decide) rfl (ls' := [(3, .int 1), (2, .int 0), (0, .ref (gad 17 0)), (1, .ref (gad 33 i1))]) rfl ?_
  refine r_sub C [2, 3, 1, 0] (ls' := [(0, .ref (gad 17 0)), (1, .ref (gad 33 i1)), (2, .int 0), (3, .int 1)]) rfl ?_
  obtain ⟨ev, hit, hr⟩ := gBind_some hr
  refine gIter_V (step := fun s => X9_fullestTile_L4 i1 s.1 s.2 M) (P := fun s => Ψ M 4 [(0, .ref (gad 17 0)), (1, .ref (gad 33 i1)), (2, .int (s.1)), (3, .int (s.2))] []) (K := (fun e => Ψ M 38 [(2, .int e)] [])) (fun s w hs hn hx => t_X9_fullestTile_L4 C h1 hs hn hx) FU (0, 1) ev hit ?_
  obtain ⟨x2_7, rfl⟩ : ∃ z, z = ev := ⟨_, rfl⟩
  show Ψ M 38 [(2, .int x2_7)] []
  refine r_iload_n (pc := 38) C dX9_fullestTile_38 rfl 0 rfl ?_
  exact r_iret (pc := 39) CR dX9_fullestTile_39 (congrArg (fun z => some (Value.int z)) (gSome hr)) rfl
theorem c_X9_fullestTile {Ψ : gM → Nat → List (Nat × Value) → List Value → Prop} {G : gG5} {nf : Nat} {cc : ByteArray} {own : String} {nL : Nat} {ret : Option FieldType} {fr lo : Nat} {v0 : Option Value} {M0 M : gM} {pc index : Nat} {ls : List (Nat × Value)} {st : List Value} (C : gC Ψ G (gXn nf) cc own nL ret fr lo v0 M0) (d : decode cc pc = .ok (.invokevirtual index, 3)) (hl : Cond.methodLink own index yX9_fullestTile ∈ gws) (hR : 1 ≤ fr ∧ 23 ≤ lo) {i1 : Nat} (h1 : i1 < nf + 3) {r : Int32} (hr : X9_fullestTile i1 M = some r) (hcat : (st.map fun v => v.category).sum ≤ 8) (k : Ψ M (pc + 3) ls (.int r :: st)) : Ψ M pc ls (.ref (gad 33 i1) :: .ref (gad 17 0) :: st) := r_callV C [.ref (gad 33 i1)] st d (k_X9_fullestTile h1 hr) hl q1295 q1296 q121 q1297 hd_X9_fullestTile hR rfl (by decide) (e17 nf) rfl hcat k
theorem hd_X9_binnedOnes : yX9_binnedOnes.cls ≠ "java/lang/invoke/MethodHandle" ∧ yX9_binnedOnes.cls ≠ "java/lang/invoke/VarHandle" ∧ (parseMethodDescriptor yX9_binnedOnes.desc).map (fun d => d.parameters.length) = some 1 := by decide +kernel
noncomputable def X9_binnedOnes_L4 (i1 : Nat) (x2 : Int32) (x3 : Int32) (M : gM) : Option ((Int32 × Int32) ⊕ Int32) := (if (M.1 5 1 5) ≤ x3 then some (.inr x2) else (X9_timesInBins i1 x3 M).bind (fun r_3 => (if r_3 ≤ 0 then gLet (x3 + 1) (fun x3_5 => some (.inl (x2, x3_5))) else gLet ((x2 ||| (1 <<< (x3 &&& 31)))) (fun x2_6 => gLet (x3 + 1) (fun x3_7 => some (.inl (x2_6, x3_7)))))))
theorem t_X9_binnedOnes_L4 {Ψ : gM → Nat → List (Nat × Value) → List Value → Prop} {G : gG5} {nf : Nat} {M : gM} {v0 : Option Value} {M0 : gM} {i1 : Nat} {x2 : Int32} {x3 : Int32} {w : ((Int32 × Int32) ⊕ Int32)} (C : gC Ψ G (gXn nf) cX9_binnedOnes RX9 4 (some .int) 1 25 v0 M0) (h1 : i1 < nf + 3) (hr : X9_binnedOnes_L4 i1 x2 x3 M = some w) (hn : ∀ s, w = .inl s → Ψ M 4 [(0, .ref (gad 17 0)), (1, .ref (gad 33 i1)), (2, .int (s.1)), (3, .int (s.2))] []) (hx : ∀ e, w = .inr e → (fun e => Ψ M 36 [(2, .int e)] []) e) : Ψ M 4 [(0, .ref (gad 17 0)), (1, .ref (gad 33 i1)), (2, .int x2), (3, .int x3)] [] := by
  refine r_iload_n (pc := 4) C dX9_binnedOnes_4 rfl 3 rfl ?_
  refine r_aload_n (pc := 5) C dX9_binnedOnes_5 rfl 0 rfl ?_
  refine g17_0 (pc := 6) C dX9_binnedOnes_6 q376 (e17 nf) ?_
  refine g5_5 (pc := 9) C dX9_binnedOnes_9 q213 (e5 (nf := nf) (by decide)) ?_
  refine r_icmp_ge (pc := 12) (tgt := 36) C dX9_binnedOnes_12 rfl (fun c_1 => ?_) (fun c_1 => ?_)
  · replace hr := (if_pos c_1).symm.trans hr
    refine r_sub C [2] (ls' := [(2, .int x2)]) rfl ?_
    exact hx x2 (gSome hr)
  · replace hr := (if_neg c_1).symm.trans hr
    refine r_aload_n (pc := 15) C dX9_binnedOnes_15 rfl 0 rfl ?_
    refine r_aload_n (pc := 16) C dX9_binnedOnes_16 rfl 1 rfl ?_
    refine r_iload_n (pc := 17) C dX9_binnedOnes_17 rfl 3 rfl ?_
    obtain ⟨r_3, hc_2, hr⟩ := gBind_some hr
    refine c_X9_timesInBins (pc := 18) C dX9_binnedOnes_18 q981 ⟨Nat.le_of_ble_eq_true rfl, Nat.le_of_ble_eq_true rfl⟩ h1 hc_2 (Nat.le_of_ble_eq_true rfl) ?_
    refine r_if_le (pc := 21) (tgt := 30) C dX9_binnedOnes_21 rfl (fun c_4 => ?_) (fun c_4 => ?_)
    · replace hr := (if_pos c_4).symm.trans hr
      obtain ⟨x3_5, ex3_5, hr⟩ := gLet_some hr
      refine r_iinc (pc := 30) C dX9_binnedOnes_30 3 rfl rfl (by decide) ex3_5 (ls' := [(3, .int x3_5), (0, .ref (gad 17 0)), (1, .ref (gad 33 i1)), (2, .int x2)]) rfl ?_
      refine r_goto (pc := 33) (tgt := 4) C dX9_binnedOnes_33 rfl ?_
      refine r_sub C [1, 2, 3, 0] (ls' := [(0, .ref (gad 17 0)), (1, .ref (gad 33 i1)), (2, .int x2), (3, .int x3_5)]) rfl ?_
      exact hn (x2, x3_5) (gSome hr)
    · replace hr := (if_neg c_4).symm.trans hr
      refine r_iload_n (pc := 24) C dX9_binnedOnes_24 rfl 2 rfl ?_
      refine r_iconst (pc := 25) C dX9_binnedOnes_25 ki1 ?_
      refine r_iload_n (pc := 26) C dX9_binnedOnes_26 rfl 3 rfl ?_
      refine r_ishl (pc := 27) C dX9_binnedOnes_27 ?_
      refine r_ior (pc := 28) C dX9_binnedOnes_28 ?_
      obtain ⟨x2_6, ex2_6, hr⟩ := gLet_some hr
      refine r_istore_n (pc := 29) C dX9_binnedOnes_29 rfl (by decide) ex2_6 (ls' := [(2, .int x2_6), (0, .ref (gad 17 0)), (1, .ref (gad 33 i1)), (3, .int x3)]) rfl ?_
      obtain ⟨x3_7, ex3_7, hr⟩ := gLet_some hr
      refine r_iinc (pc := 30) C dX9_binnedOnes_30 3 rfl rfl (by decide) ex3_7 (ls' := [(3, .int x3_7), (2, .int x2_6), (0, .ref (gad 17 0)), (1, .ref (gad 33 i1))]) rfl ?_
      refine r_goto (pc := 33) (tgt := 4) C dX9_binnedOnes_33 rfl ?_
      refine r_sub C [2, 3, 1, 0] (ls' := [(0, .ref (gad 17 0)), (1, .ref (gad 33 i1)), (2, .int x2_6), (3, .int x3_7)]) rfl ?_
      exact hn (x2_6, x3_7) (gSome hr)
noncomputable def X9_binnedOnes (i1 : Nat) (M : gM) : Option Int32 := (gIter (fun s => X9_binnedOnes_L4 i1 s.1 s.2 M) FU (0, 0)).bind (fun x2_8 => some x2_8)
theorem k_X9_binnedOnes {G : gG5} {nf : Nat} {M : gM} {i1 : Nat} (h1 : i1 < nf + 3) {r : Int32} (hr : X9_binnedOnes i1 M = some r) : gMet G (gXn nf) yX9_binnedOnes cX9_binnedOnes 4 (some .int) 1 25 M [.ref (gad 17 0), .ref (gad 33 i1)] (some (.int r)) M := by
  refine gMet_of pl_X9 rfl (Nat.le_of_ble_eq_true rfl) (fun Ψ C CR => ?_)
  show Ψ M 0 [(0, .ref (gad 17 0)), (1, .ref (gad 33 i1))] []
  refine r_iconst (pc := 0) C dX9_binnedOnes_0 ki0 ?_
  refine r_istore_n (pc := 1) C dX9_binnedOnes_1 rfl (by decide) rfl (ls' := [(2, .int 0), (0, .ref (gad 17 0)), (1, .ref (gad 33 i1))]) rfl ?_
  refine r_iconst (pc := 2) C dX9_binnedOnes_2 ki0 ?_
  refine r_istore_n (pc := 3) C dX9_binnedOnes_3 rfl (by decide) rfl (ls' := [(3, .int 0), (2, .int 0), (0, .ref (gad 17 0)), (1, .ref (gad 33 i1))]) rfl ?_
  refine r_sub C [2, 3, 1, 0] (ls' := [(0, .ref (gad 17 0)), (1, .ref (gad 33 i1)), (2, .int 0), (3, .int 0)]) rfl ?_
  obtain ⟨ev, hit, hr⟩ := gBind_some hr
  refine gIter_V (step := fun s => X9_binnedOnes_L4 i1 s.1 s.2 M) (P := fun s => Ψ M 4 [(0, .ref (gad 17 0)), (1, .ref (gad 33 i1)), (2, .int (s.1)), (3, .int (s.2))] []) (K := (fun e => Ψ M 36 [(2, .int e)] [])) (fun s w hs hn hx => t_X9_binnedOnes_L4 C h1 hs hn hx) FU (0, 0) ev hit ?_
  obtain ⟨x2_8, rfl⟩ : ∃ z, z = ev := ⟨_, rfl⟩
  show Ψ M 36 [(2, .int x2_8)] []
  refine r_iload_n (pc := 36) C dX9_binnedOnes_36 rfl 0 rfl ?_
  exact r_iret (pc := 37) CR dX9_binnedOnes_37 (congrArg (fun z => some (Value.int z)) (gSome hr)) rfl
theorem c_X9_binnedOnes {Ψ : gM → Nat → List (Nat × Value) → List Value → Prop} {G : gG5} {nf : Nat} {cc : ByteArray} {own : String} {nL : Nat} {ret : Option FieldType} {fr lo : Nat} {v0 : Option Value} {M0 M : gM} {pc index : Nat} {ls : List (Nat × Value)} {st : List Value} (C : gC Ψ G (gXn nf) cc own nL ret fr lo v0 M0) (d : decode cc pc = .ok (.invokevirtual index, 3)) (hl : Cond.methodLink own index yX9_binnedOnes ∈ gws) (hR : 2 ≤ fr ∧ 48 ≤ lo) {i1 : Nat} (h1 : i1 < nf + 3) {r : Int32} (hr : X9_binnedOnes i1 M = some r) (hcat : (st.map fun v => v.category).sum ≤ 8) (k : Ψ M (pc + 3) ls (.int r :: st)) : Ψ M pc ls (.ref (gad 33 i1) :: .ref (gad 17 0) :: st) := r_callV C [.ref (gad 33 i1)] st d (k_X9_binnedOnes h1 hr) hl q1299 q1300 q121 q1301 hd_X9_binnedOnes hR rfl (by decide) (e17 nf) rfl hcat k
theorem hd_X10_most : yX10_most.cls ≠ "java/lang/invoke/MethodHandle" ∧ yX10_most.cls ≠ "java/lang/invoke/VarHandle" ∧ (parseMethodDescriptor yX10_most.desc).map (fun d => d.parameters.length) = some 1 := by decide +kernel
noncomputable def X10_most (p1 : Int32) (M : gM) : Option (Int32 × gM) := (X10_hasScene M).bind (fun r_2 => (if r_2 = 0 then some ((-1000000000), M) else (if p1 = 0 then (X0_pairs 0 M).bind (fun r_6 => some (r_6, M)) else if p1 = 1 then some ((M.1 33 0 10), M) else if p1 = 2 then some ((M.1 33 0 11), M) else if p1 = 3 then some ((M.1 33 0 12), M) else if p1 = 4 then (X9_pendingInAll 0 M).bind (fun r_8 => some (r_8, M)) else if p1 = 5 then (X7_hidesOf 0 M).bind (gU2 (fun r_10 M_11 => some (r_10, M_11))) else if p1 = 6 then (X7_savedOf 0 M).bind (gU2 (fun r_13 M_14 => some (r_13, M_14))) else if p1 = 7 then (X9_culledOnes 0 M).bind (fun r_16 => some (r_16, M)) else if p1 = 8 then (X9_fullestTile 0 M).bind (fun r_18 => some (r_18, M)) else if p1 = 9 then (X9_binnedOnes 0 M).bind (fun r_20 => some (r_20, M)) else some ((-1000000000), M))))
theorem k_X10_most {G : gG5} {nf : Nat} {M : gM} {p1 : Int32} {r : Int32} {M1 : gM} (hr : X10_most p1 M = some (r, M1)) : gMet G (gXn nf) yX10_most cX10_most 2 (some .int) 6 150 M [.ref (gad 0 0), .int p1] (some (.int r)) M1 := by
  refine gMet_of pl_X10 rfl (Nat.le_of_ble_eq_true rfl) (fun Ψ C CR => ?_)
  show Ψ M 0 [(0, .ref (gad 0 0)), (1, .int p1)] []
  refine r_aload_n (pc := 0) C dX10_most_0 rfl 0 rfl ?_
  obtain ⟨r_2, hc_1, hr⟩ := gBind_some hr
  refine c_X10_hasScene (pc := 1) C dX10_most_1 q859 ⟨Nat.le_of_ble_eq_true rfl, Nat.le_of_ble_eq_true rfl⟩ hc_1 (Nat.le_of_ble_eq_true rfl) ?_
  refine r_if_ne (pc := 4) (tgt := 10) C dX10_most_4 rfl (fun c_3 => ?_) (fun c_3 => ?_)
  · replace hr := (if_neg c_3).symm.trans hr
    refine r_iload_n (pc := 10) C dX10_most_10 rfl 1 rfl ?_
    by_cases c_4_0 : p1 = 0
    · replace hr := (if_pos c_4_0).symm.trans hr
      refine r_tableIn (pc := 11) (tgt := 64) (off := 53) C dX10_most_11 0 c_4_0 (by decide) rfl ?_
      refine r_aload_n (pc := 64) C dX10_most_64 rfl 0 rfl ?_
      refine g0_7 (pc := 65) C dX10_most_65 q541 (e0 nf) ?_
      obtain ⟨r_6, hc_5, hr⟩ := gBind_some hr
      refine c_X0_pairs (pc := 68) C dX10_most_68 q1108 ⟨Nat.le_of_ble_eq_true rfl, Nat.le_of_ble_eq_true rfl⟩ (gf0 nf) hc_5 (Nat.le_of_ble_eq_true rfl) ?_
      exact r_iret (pc := 71) CR dX10_most_71 (congrArg (fun z => some (Value.int z)) (Prod.mk.inj (gSome hr)).1) (Prod.mk.inj (gSome hr)).2
    replace hr := (if_neg c_4_0).symm.trans hr
    by_cases c_4_1 : p1 = 1
    · replace hr := (if_pos c_4_1).symm.trans hr
      refine r_tableIn (pc := 11) (tgt := 72) (off := 61) C dX10_most_11 1 c_4_1 (by decide) rfl ?_
      refine r_aload_n (pc := 72) C dX10_most_72 rfl 0 rfl ?_
      refine g0_7 (pc := 73) C dX10_most_73 q541 (e0 nf) ?_
      refine g33_10 (pc := 76) C dX10_most_76 q433 (e33 (nf := nf) (gf0 nf)) ?_
      exact r_iret (pc := 79) CR dX10_most_79 (congrArg (fun z => some (Value.int z)) (Prod.mk.inj (gSome hr)).1) (Prod.mk.inj (gSome hr)).2
    replace hr := (if_neg c_4_1).symm.trans hr
    by_cases c_4_2 : p1 = 2
    · replace hr := (if_pos c_4_2).symm.trans hr
      refine r_tableIn (pc := 11) (tgt := 80) (off := 69) C dX10_most_11 2 c_4_2 (by decide) rfl ?_
      refine r_aload_n (pc := 80) C dX10_most_80 rfl 0 rfl ?_
      refine g0_7 (pc := 81) C dX10_most_81 q541 (e0 nf) ?_
      refine g33_11 (pc := 84) C dX10_most_84 q436 (e33 (nf := nf) (gf0 nf)) ?_
      exact r_iret (pc := 87) CR dX10_most_87 (congrArg (fun z => some (Value.int z)) (Prod.mk.inj (gSome hr)).1) (Prod.mk.inj (gSome hr)).2
    replace hr := (if_neg c_4_2).symm.trans hr
    by_cases c_4_3 : p1 = 3
    · replace hr := (if_pos c_4_3).symm.trans hr
      refine r_tableIn (pc := 11) (tgt := 88) (off := 77) C dX10_most_11 3 c_4_3 (by decide) rfl ?_
      refine r_aload_n (pc := 88) C dX10_most_88 rfl 0 rfl ?_
      refine g0_7 (pc := 89) C dX10_most_89 q541 (e0 nf) ?_
      refine g33_12 (pc := 92) C dX10_most_92 q439 (e33 (nf := nf) (gf0 nf)) ?_
      exact r_iret (pc := 95) CR dX10_most_95 (congrArg (fun z => some (Value.int z)) (Prod.mk.inj (gSome hr)).1) (Prod.mk.inj (gSome hr)).2
    replace hr := (if_neg c_4_3).symm.trans hr
    by_cases c_4_4 : p1 = 4
    · replace hr := (if_pos c_4_4).symm.trans hr
      refine r_tableIn (pc := 11) (tgt := 96) (off := 85) C dX10_most_11 4 c_4_4 (by decide) rfl ?_
      refine r_aload_n (pc := 96) C dX10_most_96 rfl 0 rfl ?_
      refine g0_5 (pc := 97) C dX10_most_97 q539 (e0 nf) ?_
      refine r_aload_n (pc := 100) C dX10_most_100 rfl 0 rfl ?_
      refine g0_7 (pc := 101) C dX10_most_101 q541 (e0 nf) ?_
      obtain ⟨r_8, hc_7, hr⟩ := gBind_some hr
      refine c_X9_pendingInAll (pc := 104) C dX10_most_104 q1278 ⟨Nat.le_of_ble_eq_true rfl, Nat.le_of_ble_eq_true rfl⟩ (gf0 nf) hc_7 (Nat.le_of_ble_eq_true rfl) ?_
      exact r_iret (pc := 107) CR dX10_most_107 (congrArg (fun z => some (Value.int z)) (Prod.mk.inj (gSome hr)).1) (Prod.mk.inj (gSome hr)).2
    replace hr := (if_neg c_4_4).symm.trans hr
    by_cases c_4_5 : p1 = 5
    · replace hr := (if_pos c_4_5).symm.trans hr
      refine r_tableIn (pc := 11) (tgt := 108) (off := 97) C dX10_most_11 5 c_4_5 (by decide) rfl ?_
      refine r_aload_n (pc := 108) C dX10_most_108 rfl 0 rfl ?_
      refine g0_6 (pc := 109) C dX10_most_109 q540 (e0 nf) ?_
      refine r_aload_n (pc := 112) C dX10_most_112 rfl 0 rfl ?_
      refine g0_7 (pc := 113) C dX10_most_113 q541 (e0 nf) ?_
      obtain ⟨⟨r_10, M_11⟩, hc_9, hr⟩ := gBind_some hr
      replace hr := gU2_some hr
      refine c_X7_hidesOf (pc := 116) C dX10_most_116 q1282 ⟨Nat.le_of_ble_eq_true rfl, Nat.le_of_ble_eq_true rfl⟩ (gf0 nf) hc_9 (Nat.le_of_ble_eq_true rfl) ?_
      exact r_iret (pc := 119) CR dX10_most_119 (congrArg (fun z => some (Value.int z)) (Prod.mk.inj (gSome hr)).1) (Prod.mk.inj (gSome hr)).2
    replace hr := (if_neg c_4_5).symm.trans hr
    by_cases c_4_6 : p1 = 6
    · replace hr := (if_pos c_4_6).symm.trans hr
      refine r_tableIn (pc := 11) (tgt := 120) (off := 109) C dX10_most_11 6 c_4_6 (by decide) rfl ?_
      refine r_aload_n (pc := 120) C dX10_most_120 rfl 0 rfl ?_
      refine g0_6 (pc := 121) C dX10_most_121 q540 (e0 nf) ?_
      refine r_aload_n (pc := 124) C dX10_most_124 rfl 0 rfl ?_
      refine g0_7 (pc := 125) C dX10_most_125 q541 (e0 nf) ?_
      obtain ⟨⟨r_13, M_14⟩, hc_12, hr⟩ := gBind_some hr
      replace hr := gU2_some hr
      refine c_X7_savedOf (pc := 128) C dX10_most_128 q1286 ⟨Nat.le_of_ble_eq_true rfl, Nat.le_of_ble_eq_true rfl⟩ (gf0 nf) hc_12 (Nat.le_of_ble_eq_true rfl) ?_
      exact r_iret (pc := 131) CR dX10_most_131 (congrArg (fun z => some (Value.int z)) (Prod.mk.inj (gSome hr)).1) (Prod.mk.inj (gSome hr)).2
    replace hr := (if_neg c_4_6).symm.trans hr
    by_cases c_4_7 : p1 = 7
    · replace hr := (if_pos c_4_7).symm.trans hr
      refine r_tableIn (pc := 11) (tgt := 132) (off := 121) C dX10_most_11 7 c_4_7 (by decide) rfl ?_
      refine r_aload_n (pc := 132) C dX10_most_132 rfl 0 rfl ?_
      refine g0_5 (pc := 133) C dX10_most_133 q539 (e0 nf) ?_
      refine r_aload_n (pc := 136) C dX10_most_136 rfl 0 rfl ?_
      refine g0_7 (pc := 137) C dX10_most_137 q541 (e0 nf) ?_
      obtain ⟨r_16, hc_15, hr⟩ := gBind_some hr
      refine c_X9_culledOnes (pc := 140) C dX10_most_140 q1290 ⟨Nat.le_of_ble_eq_true rfl, Nat.le_of_ble_eq_true rfl⟩ (gf0 nf) hc_15 (Nat.le_of_ble_eq_true rfl) ?_
      exact r_iret (pc := 143) CR dX10_most_143 (congrArg (fun z => some (Value.int z)) (Prod.mk.inj (gSome hr)).1) (Prod.mk.inj (gSome hr)).2
    replace hr := (if_neg c_4_7).symm.trans hr
    by_cases c_4_8 : p1 = 8
    · replace hr := (if_pos c_4_8).symm.trans hr
      refine r_tableIn (pc := 11) (tgt := 144) (off := 133) C dX10_most_11 8 c_4_8 (by decide) rfl ?_
      refine r_aload_n (pc := 144) C dX10_most_144 rfl 0 rfl ?_
      refine g0_5 (pc := 145) C dX10_most_145 q539 (e0 nf) ?_
      refine r_aload_n (pc := 148) C dX10_most_148 rfl 0 rfl ?_
      refine g0_7 (pc := 149) C dX10_most_149 q541 (e0 nf) ?_
      obtain ⟨r_18, hc_17, hr⟩ := gBind_some hr
      refine c_X9_fullestTile (pc := 152) C dX10_most_152 q1294 ⟨Nat.le_of_ble_eq_true rfl, Nat.le_of_ble_eq_true rfl⟩ (gf0 nf) hc_17 (Nat.le_of_ble_eq_true rfl) ?_
      exact r_iret (pc := 155) CR dX10_most_155 (congrArg (fun z => some (Value.int z)) (Prod.mk.inj (gSome hr)).1) (Prod.mk.inj (gSome hr)).2
    replace hr := (if_neg c_4_8).symm.trans hr
    by_cases c_4_9 : p1 = 9
    · replace hr := (if_pos c_4_9).symm.trans hr
      refine r_tableIn (pc := 11) (tgt := 156) (off := 145) C dX10_most_11 9 c_4_9 (by decide) rfl ?_
      refine r_aload_n (pc := 156) C dX10_most_156 rfl 0 rfl ?_
      refine g0_5 (pc := 157) C dX10_most_157 q539 (e0 nf) ?_
      refine r_aload_n (pc := 160) C dX10_most_160 rfl 0 rfl ?_
      refine g0_7 (pc := 161) C dX10_most_161 q541 (e0 nf) ?_
      obtain ⟨r_20, hc_19, hr⟩ := gBind_some hr
      refine c_X9_binnedOnes (pc := 164) C dX10_most_164 q1298 ⟨Nat.le_of_ble_eq_true rfl, Nat.le_of_ble_eq_true rfl⟩ (gf0 nf) hc_19 (Nat.le_of_ble_eq_true rfl) ?_
      exact r_iret (pc := 167) CR dX10_most_167 (congrArg (fun z => some (Value.int z)) (Prod.mk.inj (gSome hr)).1) (Prod.mk.inj (gSome hr)).2
    replace hr := (if_neg c_4_9).symm.trans hr
    refine r_tableOut (pc := 11) (tgt := 168) C dX10_most_11 (fun k h1 h2 => ?_) rfl ?_
    · rcases (show k = 0 ∨ k = 1 ∨ k = 2 ∨ k = 3 ∨ k = 4 ∨ k = 5 ∨ k = 6 ∨ k = 7 ∨ k = 8 ∨ k = 9 by omega) with rfl | rfl | rfl | rfl | rfl | rfl | rfl | rfl | rfl | rfl
      all_goals assumption
    · refine r_ldc (pc := 168) C dX10_most_168 q871 ?_
      exact r_iret (pc := 170) CR dX10_most_170 (congrArg (fun z => some (Value.int z)) (Prod.mk.inj (gSome hr)).1) (Prod.mk.inj (gSome hr)).2
  · replace hr := (if_pos c_3).symm.trans hr
    refine r_ldc (pc := 7) C dX10_most_7 q871 ?_
    exact r_iret (pc := 9) CR dX10_most_9 (congrArg (fun z => some (Value.int z)) (Prod.mk.inj (gSome hr)).1) (Prod.mk.inj (gSome hr)).2
theorem c_X10_most {Ψ : gM → Nat → List (Nat × Value) → List Value → Prop} {G : gG5} {nf : Nat} {cc : ByteArray} {own : String} {nL : Nat} {ret : Option FieldType} {fr lo : Nat} {v0 : Option Value} {M0 M : gM} {pc index : Nat} {ls : List (Nat × Value)} {st : List Value} (C : gC Ψ G (gXn nf) cc own nL ret fr lo v0 M0) (d : decode cc pc = .ok (.invokevirtual index, 3)) (hl : Cond.methodLink own index yX10_most ∈ gws) (hR : 7 ≤ fr ∧ 171 ≤ lo) {p1 : Int32} {r : Int32} {M1 : gM} (hr : X10_most p1 M = some (r, M1)) (hcat : (st.map fun v => v.category).sum ≤ 8) (k : Ψ M1 (pc + 3) ls (.int r :: st)) : Ψ M pc ls (.int p1 :: .ref (gad 0 0) :: st) := r_callV C [.int p1] st d (k_X10_most hr) hl q1275 q1276 q116 q1277 hd_X10_most hR rfl (by decide) (e0 nf) rfl hcat k
theorem hd_X10_image : yX10_image.cls ≠ "java/lang/invoke/MethodHandle" ∧ yX10_image.cls ≠ "java/lang/invoke/VarHandle" ∧ (parseMethodDescriptor yX10_image.desc).map (fun d => d.parameters.length) = some 0 := by decide +kernel
noncomputable def X10_image (M : gM) : Option (Int32 × gM) := (X10_hasScene M).bind (fun r_2 => (if r_2 = 0 then some ((-1), M) else (X0_copyFrom 1 0 M).bind (fun M_5 => gLet (wI M_5 0 0 14 1) (fun M_6 => (X0_pairs 0 M_6).bind (fun r_8 => some (r_8, M_6))))))
theorem k_X10_image {G : gG5} {nf : Nat} {M : gM} {r : Int32} {M1 : gM} (hr : X10_image M = some (r, M1)) : gMet G (gXn nf) yX10_image cX10_image 1 (some .int) 3 85 M [.ref (gad 0 0)] (some (.int r)) M1 := by
  refine gMet_of pl_X10 rfl (Nat.le_of_ble_eq_true rfl) (fun Ψ C CR => ?_)
  show Ψ M 0 [(0, .ref (gad 0 0))] []
  refine r_aload_n (pc := 0) C dX10_image_0 rfl 0 rfl ?_
  obtain ⟨r_2, hc_1, hr⟩ := gBind_some hr
  refine c_X10_hasScene (pc := 1) C dX10_image_1 q859 ⟨Nat.le_of_ble_eq_true rfl, Nat.le_of_ble_eq_true rfl⟩ hc_1 (Nat.le_of_ble_eq_true rfl) ?_
  refine r_if_ne (pc := 4) (tgt := 9) C dX10_image_4 rfl (fun c_3 => ?_) (fun c_3 => ?_)
  · replace hr := (if_neg c_3).symm.trans hr
    refine r_aload_n (pc := 9) C dX10_image_9 rfl 0 rfl ?_
    refine g0_8 (pc := 10) C dX10_image_10 q542 (e0 nf) ?_
    refine r_aload_n (pc := 13) C dX10_image_13 rfl 0 rfl ?_
    refine g0_7 (pc := 14) C dX10_image_14 q541 (e0 nf) ?_
    obtain ⟨M_5, hc_4, hr⟩ := gBind_some hr
    refine c_X0_copyFrom (pc := 17) C dX10_image_17 q1306 ⟨Nat.le_of_ble_eq_true rfl, Nat.le_of_ble_eq_true rfl⟩ (gf1 nf) (gf0 nf) hc_4 (Nat.le_of_ble_eq_true rfl) ?_
    refine r_aload_n (pc := 20) C dX10_image_20 rfl 0 rfl ?_
    refine r_iconst (pc := 21) C dX10_image_21 ki1 ?_
    obtain ⟨M_6, eM_6, hr⟩ := gLet_some hr
    refine p0_14 (pc := 22) C dX10_image_22 q548 (e0 nf) rfl eM_6 ?_
    refine r_aload_n (pc := 25) C dX10_image_25 rfl 0 rfl ?_
    refine g0_7 (pc := 26) C dX10_image_26 q541 (e0 nf) ?_
    obtain ⟨r_8, hc_7, hr⟩ := gBind_some hr
    refine c_X0_pairs (pc := 29) C dX10_image_29 q1108 ⟨Nat.le_of_ble_eq_true rfl, Nat.le_of_ble_eq_true rfl⟩ (gf0 nf) hc_7 (Nat.le_of_ble_eq_true rfl) ?_
    exact r_iret (pc := 32) CR dX10_image_32 (congrArg (fun z => some (Value.int z)) (Prod.mk.inj (gSome hr)).1) (Prod.mk.inj (gSome hr)).2
  · replace hr := (if_pos c_3).symm.trans hr
    refine r_iconst (pc := 7) C dX10_image_7 kim1 ?_
    exact r_iret (pc := 8) CR dX10_image_8 (congrArg (fun z => some (Value.int z)) (Prod.mk.inj (gSome hr)).1) (Prod.mk.inj (gSome hr)).2
theorem c_X10_image {Ψ : gM → Nat → List (Nat × Value) → List Value → Prop} {G : gG5} {nf : Nat} {cc : ByteArray} {own : String} {nL : Nat} {ret : Option FieldType} {fr lo : Nat} {v0 : Option Value} {M0 M : gM} {pc index : Nat} {ls : List (Nat × Value)} {st : List Value} (C : gC Ψ G (gXn nf) cc own nL ret fr lo v0 M0) (d : decode cc pc = .ok (.invokevirtual index, 3)) (hl : Cond.methodLink own index yX10_image ∈ gws) (hR : 4 ≤ fr ∧ 105 ≤ lo) {r : Int32} {M1 : gM} (hr : X10_image M = some (r, M1)) (hcat : (st.map fun v => v.category).sum ≤ 8) (k : Ψ M1 (pc + 3) ls (.int r :: st)) : Ψ M pc ls (.ref (gad 0 0) :: st) := r_callV C [] st d (k_X10_image hr) hl q1303 q1304 q116 q1305 hd_X10_image hR rfl (by decide) (e0 nf) rfl hcat k
theorem hd_X10_back : yX10_back.cls ≠ "java/lang/invoke/MethodHandle" ∧ yX10_back.cls ≠ "java/lang/invoke/VarHandle" ∧ (parseMethodDescriptor yX10_back.desc).map (fun d => d.parameters.length) = some 0 := by decide +kernel
noncomputable def X10_back (M : gM) : Option (Int32 × gM) := (if (M.1 0 0 14) = 0 then some ((-1), M) else (X0_copyFrom 0 1 M).bind (fun M_3 => (X9_fit 0 M_3).bind (fun M_5 => (X2_forget M_5).bind (fun M_7 => (X0_pairs 0 M_7).bind (fun r_9 => some (r_9, M_7))))))
theorem k_X10_back {G : gG5} {nf : Nat} {M : gM} {r : Int32} {M1 : gM} (hr : X10_back M = some (r, M1)) : gMet G (gXn nf) yX10_back cX10_back 1 (some .int) 5 127 M [.ref (gad 0 0)] (some (.int r)) M1 := by
  refine gMet_of pl_X10 rfl (Nat.le_of_ble_eq_true rfl) (fun Ψ C CR => ?_)
  show Ψ M 0 [(0, .ref (gad 0 0))] []
  refine r_aload_n (pc := 0) C dX10_back_0 rfl 0 rfl ?_
  refine g0_14 (pc := 1) C dX10_back_1 q548 (e0 nf) ?_
  refine r_if_ne (pc := 4) (tgt := 9) C dX10_back_4 rfl (fun c_1 => ?_) (fun c_1 => ?_)
  · replace hr := (if_neg c_1).symm.trans hr
    refine r_aload_n (pc := 9) C dX10_back_9 rfl 0 rfl ?_
    refine g0_7 (pc := 10) C dX10_back_10 q541 (e0 nf) ?_
    refine r_aload_n (pc := 13) C dX10_back_13 rfl 0 rfl ?_
    refine g0_8 (pc := 14) C dX10_back_14 q542 (e0 nf) ?_
    obtain ⟨M_3, hc_2, hr⟩ := gBind_some hr
    refine c_X0_copyFrom (pc := 17) C dX10_back_17 q1306 ⟨Nat.le_of_ble_eq_true rfl, Nat.le_of_ble_eq_true rfl⟩ (gf0 nf) (gf1 nf) hc_2 (Nat.le_of_ble_eq_true rfl) ?_
    refine r_aload_n (pc := 20) C dX10_back_20 rfl 0 rfl ?_
    refine g0_5 (pc := 21) C dX10_back_21 q539 (e0 nf) ?_
    refine r_aload_n (pc := 24) C dX10_back_24 rfl 0 rfl ?_
    refine g0_7 (pc := 25) C dX10_back_25 q541 (e0 nf) ?_
    obtain ⟨M_5, hc_4, hr⟩ := gBind_some hr
    refine c_X9_fit (pc := 28) C dX10_back_28 q794 ⟨Nat.le_of_ble_eq_true rfl, Nat.le_of_ble_eq_true rfl⟩ (gf0 nf) hc_4 (Nat.le_of_ble_eq_true rfl) ?_
    refine r_aload_n (pc := 31) C dX10_back_31 rfl 0 rfl ?_
    refine g0_9 (pc := 32) C dX10_back_32 q543 (e0 nf) ?_
    obtain ⟨M_7, hc_6, hr⟩ := gBind_some hr
    refine c_X2_forget (pc := 35) C dX10_back_35 q851 ⟨Nat.le_of_ble_eq_true rfl, Nat.le_of_ble_eq_true rfl⟩ hc_6 (Nat.le_of_ble_eq_true rfl) ?_
    refine r_aload_n (pc := 38) C dX10_back_38 rfl 0 rfl ?_
    refine g0_7 (pc := 39) C dX10_back_39 q541 (e0 nf) ?_
    obtain ⟨r_9, hc_8, hr⟩ := gBind_some hr
    refine c_X0_pairs (pc := 42) C dX10_back_42 q1108 ⟨Nat.le_of_ble_eq_true rfl, Nat.le_of_ble_eq_true rfl⟩ (gf0 nf) hc_8 (Nat.le_of_ble_eq_true rfl) ?_
    exact r_iret (pc := 45) CR dX10_back_45 (congrArg (fun z => some (Value.int z)) (Prod.mk.inj (gSome hr)).1) (Prod.mk.inj (gSome hr)).2
  · replace hr := (if_pos c_1).symm.trans hr
    refine r_iconst (pc := 7) C dX10_back_7 kim1 ?_
    exact r_iret (pc := 8) CR dX10_back_8 (congrArg (fun z => some (Value.int z)) (Prod.mk.inj (gSome hr)).1) (Prod.mk.inj (gSome hr)).2
theorem c_X10_back {Ψ : gM → Nat → List (Nat × Value) → List Value → Prop} {G : gG5} {nf : Nat} {cc : ByteArray} {own : String} {nL : Nat} {ret : Option FieldType} {fr lo : Nat} {v0 : Option Value} {M0 M : gM} {pc index : Nat} {ls : List (Nat × Value)} {st : List Value} (C : gC Ψ G (gXn nf) cc own nL ret fr lo v0 M0) (d : decode cc pc = .ok (.invokevirtual index, 3)) (hl : Cond.methodLink own index yX10_back ∈ gws) (hR : 6 ≤ fr ∧ 147 ≤ lo) {r : Int32} {M1 : gM} (hr : X10_back M = some (r, M1)) (hcat : (st.map fun v => v.category).sum ≤ 8) (k : Ψ M1 (pc + 3) ls (.int r :: st)) : Ψ M pc ls (.ref (gad 0 0) :: st) := r_callV C [] st d (k_X10_back hr) hl q1308 q1309 q116 q1310 hd_X10_back hR rfl (by decide) (e0 nf) rfl hcat k
theorem hd_X10_count : yX10_count.cls ≠ "java/lang/invoke/MethodHandle" ∧ yX10_count.cls ≠ "java/lang/invoke/VarHandle" ∧ (parseMethodDescriptor yX10_count.desc).map (fun d => d.parameters.length) = some 1 := by decide +kernel
noncomputable def X10_count (p1 : Int32) (M : gM) : Option Int32 := (if p1 = 0 then some (M.1 5 1 5) else if p1 = 1 then some (M.1 0 0 13) else if p1 = 2 then some (M.1 1 0 1) else if p1 = 3 then some (M.1 12 0 5) else if p1 = 4 then (X0_logLength 0 M).bind (fun r_3 => some r_3) else if p1 = 5 then some (M.1 43 0 2) else some (-1000000000))
theorem k_X10_count {G : gG5} {nf : Nat} {M : gM} {p1 : Int32} {r : Int32} (hr : X10_count p1 M = some r) : gMet G (gXn nf) yX10_count cX10_count 2 (some .int) 2 41 M [.ref (gad 0 0), .int p1] (some (.int r)) M := by
  refine gMet_of pl_X10 rfl (Nat.le_of_ble_eq_true rfl) (fun Ψ C CR => ?_)
  show Ψ M 0 [(0, .ref (gad 0 0)), (1, .int p1)] []
  refine r_iload_n (pc := 0) C dX10_count_0 rfl 1 rfl ?_
  by_cases c_1_0 : p1 = 0
  · replace hr := (if_pos c_1_0).symm.trans hr
    refine r_tableIn (pc := 1) (tgt := 40) (off := 39) C dX10_count_1 0 c_1_0 (by decide) rfl ?_
    refine r_aload_n (pc := 40) C dX10_count_40 rfl 0 rfl ?_
    refine g0_3 (pc := 41) C dX10_count_41 q537 (e0 nf) ?_
    refine g5_5 (pc := 44) C dX10_count_44 q216 (e5 (nf := nf) (by decide)) ?_
    exact r_iret (pc := 47) CR dX10_count_47 (congrArg (fun z => some (Value.int z)) (gSome hr)) rfl
  replace hr := (if_neg c_1_0).symm.trans hr
  by_cases c_1_1 : p1 = 1
  · replace hr := (if_pos c_1_1).symm.trans hr
    refine r_tableIn (pc := 1) (tgt := 48) (off := 47) C dX10_count_1 1 c_1_1 (by decide) rfl ?_
    refine r_aload_n (pc := 48) C dX10_count_48 rfl 0 rfl ?_
    refine g0_13 (pc := 49) C dX10_count_49 q547 (e0 nf) ?_
    exact r_iret (pc := 52) CR dX10_count_52 (congrArg (fun z => some (Value.int z)) (gSome hr)) rfl
  replace hr := (if_neg c_1_1).symm.trans hr
  by_cases c_1_2 : p1 = 2
  · replace hr := (if_pos c_1_2).symm.trans hr
    refine r_tableIn (pc := 1) (tgt := 53) (off := 52) C dX10_count_1 2 c_1_2 (by decide) rfl ?_
    refine r_aload_n (pc := 53) C dX10_count_53 rfl 0 rfl ?_
    refine g0_0 (pc := 54) C dX10_count_54 q534 (e0 nf) ?_
    refine g1_1 (pc := 57) C dX10_count_57 q157 (e1 nf) ?_
    exact r_iret (pc := 60) CR dX10_count_60 (congrArg (fun z => some (Value.int z)) (gSome hr)) rfl
  replace hr := (if_neg c_1_2).symm.trans hr
  by_cases c_1_3 : p1 = 3
  · replace hr := (if_pos c_1_3).symm.trans hr
    refine r_tableIn (pc := 1) (tgt := 61) (off := 60) C dX10_count_1 3 c_1_3 (by decide) rfl ?_
    refine r_aload_n (pc := 61) C dX10_count_61 rfl 0 rfl ?_
    refine g0_4 (pc := 62) C dX10_count_62 q538 (e0 nf) ?_
    refine g12_5 (pc := 65) C dX10_count_65 q274 (e12 nf) ?_
    exact r_iret (pc := 68) CR dX10_count_68 (congrArg (fun z => some (Value.int z)) (gSome hr)) rfl
  replace hr := (if_neg c_1_3).symm.trans hr
  by_cases c_1_4 : p1 = 4
  · replace hr := (if_pos c_1_4).symm.trans hr
    refine r_tableIn (pc := 1) (tgt := 69) (off := 68) C dX10_count_1 4 c_1_4 (by decide) rfl ?_
    refine r_aload_n (pc := 69) C dX10_count_69 rfl 0 rfl ?_
    refine g0_7 (pc := 70) C dX10_count_70 q541 (e0 nf) ?_
    obtain ⟨r_3, hc_2, hr⟩ := gBind_some hr
    refine c_X0_logLength (pc := 73) C dX10_count_73 q1125 ⟨Nat.le_of_ble_eq_true rfl, Nat.le_of_ble_eq_true rfl⟩ (gf0 nf) hc_2 (Nat.le_of_ble_eq_true rfl) ?_
    exact r_iret (pc := 76) CR dX10_count_76 (congrArg (fun z => some (Value.int z)) (gSome hr)) rfl
  replace hr := (if_neg c_1_4).symm.trans hr
  by_cases c_1_5 : p1 = 5
  · replace hr := (if_pos c_1_5).symm.trans hr
    refine r_tableIn (pc := 1) (tgt := 77) (off := 76) C dX10_count_1 5 c_1_5 (by decide) rfl ?_
    refine r_aload_n (pc := 77) C dX10_count_77 rfl 0 rfl ?_
    refine g0_9 (pc := 78) C dX10_count_78 q543 (e0 nf) ?_
    refine g43_2 (pc := 81) C dX10_count_81 q508 (e43 nf) ?_
    exact r_iret (pc := 84) CR dX10_count_84 (congrArg (fun z => some (Value.int z)) (gSome hr)) rfl
  replace hr := (if_neg c_1_5).symm.trans hr
  refine r_tableOut (pc := 1) (tgt := 85) C dX10_count_1 (fun k h1 h2 => ?_) rfl ?_
  · rcases (show k = 0 ∨ k = 1 ∨ k = 2 ∨ k = 3 ∨ k = 4 ∨ k = 5 by omega) with rfl | rfl | rfl | rfl | rfl | rfl
    all_goals assumption
  · refine r_ldc (pc := 85) C dX10_count_85 q871 ?_
    exact r_iret (pc := 87) CR dX10_count_87 (congrArg (fun z => some (Value.int z)) (gSome hr)) rfl
theorem c_X10_count {Ψ : gM → Nat → List (Nat × Value) → List Value → Prop} {G : gG5} {nf : Nat} {cc : ByteArray} {own : String} {nL : Nat} {ret : Option FieldType} {fr lo : Nat} {v0 : Option Value} {M0 M : gM} {pc index : Nat} {ls : List (Nat × Value)} {st : List Value} (C : gC Ψ G (gXn nf) cc own nL ret fr lo v0 M0) (d : decode cc pc = .ok (.invokevirtual index, 3)) (hl : Cond.methodLink own index yX10_count ∈ gws) (hR : 3 ≤ fr ∧ 62 ≤ lo) {p1 : Int32} {r : Int32} (hr : X10_count p1 M = some r) (hcat : (st.map fun v => v.category).sum ≤ 8) (k : Ψ M (pc + 3) ls (.int r :: st)) : Ψ M pc ls (.int p1 :: .ref (gad 0 0) :: st) := r_callV C [.int p1] st d (k_X10_count hr) hl q1312 q1313 q116 q1314 hd_X10_count hR rfl (by decide) (e0 nf) rfl hcat k
theorem hd_X11_thrown : yX11_thrown.cls ≠ "java/lang/invoke/MethodHandle" ∧ yX11_thrown.cls ≠ "java/lang/invoke/VarHandle" ∧ (parseMethodDescriptor yX11_thrown.desc).map (fun d => d.parameters.length) = some 0 := by decide +kernel
noncomputable def X11_thrown (M : gM) : Option Int32 := some (M.1 50 0 0)
theorem k_X11_thrown {G : gG5} {nf : Nat} {M : gM} {r : Int32} (hr : X11_thrown M = some r) : gMet G (gXn nf) yX11_thrown cX11_thrown 1 (some .int) 0 0 M [.ref (gad 50 0)] (some (.int r)) M := by
  refine gMet_of pl_X11 rfl (Nat.le_of_ble_eq_true rfl) (fun Ψ C CR => ?_)
  show Ψ M 0 [(0, .ref (gad 50 0))] []
  refine r_aload_n (pc := 0) C dX11_thrown_0 rfl 0 rfl ?_
  refine g50_0 (pc := 1) C dX11_thrown_1 q1400 (e50 nf) ?_
  exact r_iret (pc := 4) CR dX11_thrown_4 (congrArg (fun z => some (Value.int z)) (gSome hr)) rfl
theorem c_X11_thrown {Ψ : gM → Nat → List (Nat × Value) → List Value → Prop} {G : gG5} {nf : Nat} {cc : ByteArray} {own : String} {nL : Nat} {ret : Option FieldType} {fr lo : Nat} {v0 : Option Value} {M0 M : gM} {pc index : Nat} {ls : List (Nat × Value)} {st : List Value} (C : gC Ψ G (gXn nf) cc own nL ret fr lo v0 M0) (d : decode cc pc = .ok (.invokevirtual index, 3)) (hl : Cond.methodLink own index yX11_thrown ∈ gws) (hR : 1 ≤ fr ∧ 20 ≤ lo) {r : Int32} (hr : X11_thrown M = some r) (hcat : (st.map fun v => v.category).sum ≤ 8) (k : Ψ M (pc + 3) ls (.int r :: st)) : Ψ M pc ls (.ref (gad 50 0) :: st) := r_callV C [] st d (k_X11_thrown hr) hl q1516 q1517 q127 q1518 hd_X11_thrown hR rfl (by decide) (e50 nf) rfl hcat k
theorem hd_X11_isIn : yX11_isIn.cls ≠ "java/lang/invoke/MethodHandle" ∧ yX11_isIn.cls ≠ "java/lang/invoke/VarHandle" ∧ (parseMethodDescriptor yX11_isIn.desc).map (fun d => d.parameters.length) = some 3 := by decide +kernel
noncomputable def X11_isIn (p0 : Int64) (p2 : Int64) (p4 : Int64) (M : gM) : Option Int32 := (if (lg_cmp p0 p2) < 0 then some 0 else (if 0 < (lg_cmp p0 p4) then some 0 else some 1))
theorem k_X11_isIn {G : gG5} {nf : Nat} {M : gM} {p0 : Int64} {p2 : Int64} {p4 : Int64} {r : Int32} (hr : X11_isIn p0 p2 p4 M = some r) : gMet G (gXn nf) yX11_isIn cX11_isIn 6 (some .boolean) 0 0 M [.long p0, .long p2, .long p4] (some (.int r)) M := by
  refine gMet_of pl_X11 rfl (Nat.le_of_ble_eq_true rfl) (fun Ψ C CR => ?_)
  show Ψ M 0 [(0, .long p0), (2, .long p2), (4, .long p4)] []
  refine r_lload_n (pc := 0) C dX11_isIn_0 rfl 0 rfl ?_
  refine r_lload_n (pc := 1) C dX11_isIn_1 rfl 1 rfl ?_
  refine r_lcmp (pc := 2) C dX11_isIn_2 ?_
  refine r_if_lt (pc := 3) (tgt := 17) C dX11_isIn_3 rfl (fun c_1 => ?_) (fun c_1 => ?_)
  · replace hr := (if_pos c_1).symm.trans hr
    refine r_iconst (pc := 17) C dX11_isIn_17 ki0 ?_
    exact r_zret (pc := 18) CR dX11_isIn_18 rfl (congrArg (fun z => some (Value.int z)) (gSome hr)) rfl
  · replace hr := (if_neg c_1).symm.trans hr
    refine r_lload_n (pc := 6) C dX11_isIn_6 rfl 0 rfl ?_
    refine r_lload (pc := 7) C dX11_isIn_7 2 rfl ?_
    refine r_lcmp (pc := 9) C dX11_isIn_9 ?_
    refine r_if_gt (pc := 10) (tgt := 17) C dX11_isIn_10 rfl (fun c_2 => ?_) (fun c_2 => ?_)
    · replace hr := (if_pos c_2).symm.trans hr
      refine r_iconst (pc := 17) C dX11_isIn_17 ki0 ?_
      exact r_zret (pc := 18) CR dX11_isIn_18 rfl (congrArg (fun z => some (Value.int z)) (gSome hr)) rfl
    · replace hr := (if_neg c_2).symm.trans hr
      refine r_iconst (pc := 13) C dX11_isIn_13 ki1 ?_
      refine r_goto (pc := 14) (tgt := 18) C dX11_isIn_14 rfl ?_
      exact r_zret (pc := 18) CR dX11_isIn_18 rfl (congrArg (fun z => some (Value.int z)) (gSome hr)) rfl
theorem c_X11_isIn {Ψ : gM → Nat → List (Nat × Value) → List Value → Prop} {G : gG5} {nf : Nat} {cc : ByteArray} {own : String} {nL : Nat} {ret : Option FieldType} {fr lo : Nat} {v0 : Option Value} {M0 M : gM} {pc index : Nat} {ls : List (Nat × Value)} {st : List Value} (C : gC Ψ G (gXn nf) cc own nL ret fr lo v0 M0) (d : decode cc pc = .ok (.invokestatic index, 3)) (hl : Cond.methodLink own index yX11_isIn ∈ gws) (hR : 1 ≤ fr ∧ 25 ≤ lo) {p0 : Int64} {p2 : Int64} {p4 : Int64} {r : Int32} (hr : X11_isIn p0 p2 p4 M = some r) (hcat : (st.map fun v => v.category).sum ≤ 8) (k : Ψ M (pc + 3) ls (.int r :: st)) : Ψ M pc ls (.long p4 :: .long p2 :: .long p0 :: st) := r_callS C [.long p0, .long p2, .long p4] st d (k_X11_isIn hr) hl q1539 q127 q1540 hd_X11_isIn hR rfl hcat k
theorem hd_X11_has : yX11_has.cls ≠ "java/lang/invoke/MethodHandle" ∧ yX11_has.cls ≠ "java/lang/invoke/VarHandle" ∧ (parseMethodDescriptor yX11_has.desc).map (fun d => d.parameters.length) = some 2 := by decide +kernel
noncomputable def X11_has (p0 : Int32) (p1 : Int32) (M : gM) : Option Int32 := (if ((p0 >>> (p1 &&& 31)) &&& 1) = 1 then some 1 else some 0)
theorem k_X11_has {G : gG5} {nf : Nat} {M : gM} {p0 : Int32} {p1 : Int32} {r : Int32} (hr : X11_has p0 p1 M = some r) : gMet G (gXn nf) yX11_has cX11_has 2 (some .boolean) 0 0 M [.int p0, .int p1] (some (.int r)) M := by
  refine gMet_of pl_X11 rfl (Nat.le_of_ble_eq_true rfl) (fun Ψ C CR => ?_)
  show Ψ M 0 [(0, .int p0), (1, .int p1)] []
  refine r_iload_n (pc := 0) C dX11_has_0 rfl 0 rfl ?_
  refine r_iload_n (pc := 1) C dX11_has_1 rfl 1 rfl ?_
  refine r_ishr (pc := 2) C dX11_has_2 ?_
  refine r_iconst (pc := 3) C dX11_has_3 ki1 ?_
  refine r_iand (pc := 4) C dX11_has_4 ?_
  refine r_iconst (pc := 5) C dX11_has_5 ki1 ?_
  refine r_icmp_ne (pc := 6) (tgt := 13) C dX11_has_6 rfl (fun c_1 => ?_) (fun c_1 => ?_)
  · replace hr := (if_neg c_1).symm.trans hr
    refine r_iconst (pc := 13) C dX11_has_13 ki0 ?_
    exact r_zret (pc := 14) CR dX11_has_14 rfl (congrArg (fun z => some (Value.int z)) (gSome hr)) rfl
  · replace hr := (if_pos c_1).symm.trans hr
    refine r_iconst (pc := 9) C dX11_has_9 ki1 ?_
    refine r_goto (pc := 10) (tgt := 14) C dX11_has_10 rfl ?_
    exact r_zret (pc := 14) CR dX11_has_14 rfl (congrArg (fun z => some (Value.int z)) (gSome hr)) rfl
theorem c_X11_has {Ψ : gM → Nat → List (Nat × Value) → List Value → Prop} {G : gG5} {nf : Nat} {cc : ByteArray} {own : String} {nL : Nat} {ret : Option FieldType} {fr lo : Nat} {v0 : Option Value} {M0 M : gM} {pc index : Nat} {ls : List (Nat × Value)} {st : List Value} (C : gC Ψ G (gXn nf) cc own nL ret fr lo v0 M0) (d : decode cc pc = .ok (.invokestatic index, 3)) (hl : Cond.methodLink own index yX11_has ∈ gws) (hR : 1 ≤ fr ∧ 21 ≤ lo) {p0 : Int32} {p1 : Int32} {r : Int32} (hr : X11_has p0 p1 M = some r) (hcat : (st.map fun v => v.category).sum ≤ 8) (k : Ψ M (pc + 3) ls (.int r :: st)) : Ψ M pc ls (.int p1 :: .int p0 :: st) := r_callS C [.int p0, .int p1] st d (k_X11_has hr) hl q1577 q127 q1578 hd_X11_has hR rfl hcat k
theorem hd_X11_down : yX11_down.cls ≠ "java/lang/invoke/MethodHandle" ∧ yX11_down.cls ≠ "java/lang/invoke/VarHandle" ∧ (parseMethodDescriptor yX11_down.desc).map (fun d => d.parameters.length) = some 2 := by decide +kernel
noncomputable def X11_down (p0 : Int64) (p2 : Int64) (M : gM) : Option Int32 := gG (decide (¬ p2 = 0)) (gLet ((p0 / p2)) (fun x4_2 => gG (decide (¬ p2 = 0)) ((if 0 ≤ (lg_cmp (gRemL p0 p2) 0) then some (Int64.toInt32 x4_2) else some (Int64.toInt32 (x4_2 - 1))))))
theorem k_X11_down {G : gG5} {nf : Nat} {M : gM} {p0 : Int64} {p2 : Int64} {r : Int32} (hr : X11_down p0 p2 M = some r) : gMet G (gXn nf) yX11_down cX11_down 6 (some .int) 0 0 M [.long p0, .long p2] (some (.int r)) M := by
  refine gMet_of pl_X11 rfl (Nat.le_of_ble_eq_true rfl) (fun Ψ C CR => ?_)
  show Ψ M 0 [(0, .long p0), (2, .long p2)] []
  refine r_lload_n (pc := 0) C dX11_down_0 rfl 0 rfl ?_
  refine r_lload_n (pc := 1) C dX11_down_1 rfl 1 rfl ?_
  obtain ⟨g_1, hr⟩ := gG_some hr
  refine r_ldiv (pc := 2) C dX11_down_2 (of_decide_eq_true g_1) ?_
  obtain ⟨x4_2, ex4_2, hr⟩ := gLet_some hr
  refine r_lstore (pc := 3) C dX11_down_3 (by decide) ex4_2 (ls' := [(4, .long x4_2), (0, .long p0), (2, .long p2)]) rfl ?_
  refine r_lload_n (pc := 5) C dX11_down_5 rfl 1 rfl ?_
  refine r_lload_n (pc := 6) C dX11_down_6 rfl 2 rfl ?_
  obtain ⟨g_3, hr⟩ := gG_some hr
  refine r_lrem (pc := 7) C dX11_down_7 (of_decide_eq_true g_3) ?_
  refine r_lconst (pc := 8) (v := 0) C dX11_down_8 rfl ?_
  refine r_lcmp (pc := 9) C dX11_down_9 ?_
  refine r_if_ge (pc := 10) (tgt := 20) C dX11_down_10 rfl (fun c_4 => ?_) (fun c_4 => ?_)
  · replace hr := (if_pos c_4).symm.trans hr
    refine r_lload (pc := 20) C dX11_down_20 0 rfl ?_
    refine r_l2i (pc := 22) C dX11_down_22 ?_
    exact r_iret (pc := 23) CR dX11_down_23 (congrArg (fun z => some (Value.int z)) (gSome hr)) rfl
  · replace hr := (if_neg c_4).symm.trans hr
    refine r_lload (pc := 13) C dX11_down_13 0 rfl ?_
    refine r_lconst (pc := 15) (v := 1) C dX11_down_15 rfl ?_
    refine r_lsub (pc := 16) C dX11_down_16 ?_
    refine r_goto (pc := 17) (tgt := 22) C dX11_down_17 rfl ?_
    refine r_l2i (pc := 22) C dX11_down_22 ?_
    exact r_iret (pc := 23) CR dX11_down_23 (congrArg (fun z => some (Value.int z)) (gSome hr)) rfl
theorem c_X11_down {Ψ : gM → Nat → List (Nat × Value) → List Value → Prop} {G : gG5} {nf : Nat} {cc : ByteArray} {own : String} {nL : Nat} {ret : Option FieldType} {fr lo : Nat} {v0 : Option Value} {M0 M : gM} {pc index : Nat} {ls : List (Nat × Value)} {st : List Value} (C : gC Ψ G (gXn nf) cc own nL ret fr lo v0 M0) (d : decode cc pc = .ok (.invokestatic index, 3)) (hl : Cond.methodLink own index yX11_down ∈ gws) (hR : 1 ≤ fr ∧ 25 ≤ lo) {p0 : Int64} {p2 : Int64} {r : Int32} (hr : X11_down p0 p2 M = some r) (hcat : (st.map fun v => v.category).sum ≤ 8) (k : Ψ M (pc + 3) ls (.int r :: st)) : Ψ M pc ls (.long p2 :: .long p0 :: st) := r_callS C [.long p0, .long p2] st d (k_X11_down hr) hl q1756 q127 q1757 hd_X11_down hR rfl hcat k
theorem hd_X11_bytesOf : yX11_bytesOf.cls ≠ "java/lang/invoke/MethodHandle" ∧ yX11_bytesOf.cls ≠ "java/lang/invoke/VarHandle" ∧ (parseMethodDescriptor yX11_bytesOf.desc).map (fun d => d.parameters.length) = some 1 := by decide +kernel
noncomputable def X11_bytesOf_L4 (x0 : Int32) (x1 : Int32) (x2 : Int32) (M : gM) : Option ((Int32 × Int32) ⊕ Int32) := (if 4 ≤ x2 then some (.inr x1) else (if ((x0 >>> ((8 * x2) &&& 31)) &&& 255) = 0 then gLet ((x1 + 0)) (fun x1_5 => gLet (x2 + 1) (fun x2_6 => some (.inl (x1_5, x2_6)))) else gLet ((x1 + 1)) (fun x1_3 => gLet (x2 + 1) (fun x2_4 => some (.inl (x1_3, x2_4))))))
theorem t_X11_bytesOf_L4 {Ψ : gM → Nat → List (Nat × Value) → List Value → Prop} {G : gG5} {nf : Nat} {M : gM} {v0 : Option Value} {M0 : gM} {x0 : Int32} {x1 : Int32} {x2 : Int32} {w : ((Int32 × Int32) ⊕ Int32)} (C : gC Ψ G (gXn nf) cX11_bytesOf RX11 3 (some .int) 0 0 v0 M0) (hr : X11_bytesOf_L4 x0 x1 x2 M = some w) (hn : ∀ s, w = .inl s → Ψ M 4 [(0, .int x0), (1, .int (s.1)), (2, .int (s.2))] []) (hx : ∀ e, w = .inr e → (fun e => Ψ M 36 [(1, .int e)] []) e) : Ψ M 4 [(0, .int x0), (1, .int x1), (2, .int x2)] [] := by
  refine r_iload_n (pc := 4) C dX11_bytesOf_4 rfl 2 rfl ?_
  refine r_iconst (pc := 5) C dX11_bytesOf_5 ki4 ?_
  refine r_icmp_ge (pc := 6) (tgt := 36) C dX11_bytesOf_6 rfl (fun c_1 => ?_) (fun c_1 => ?_)
  · replace hr := (if_pos c_1).symm.trans hr
    refine r_sub C [1] (ls' := [(1, .int x1)]) rfl ?_
    exact hx x1 (gSome hr)
  · replace hr := (if_neg c_1).symm.trans hr
    refine r_iload_n (pc := 9) C dX11_bytesOf_9 rfl 1 rfl ?_
    refine r_iload_n (pc := 10) C dX11_bytesOf_10 rfl 0 rfl ?_
    refine r_bipush (pc := 11) C dX11_bytesOf_11 kb8 ?_
    refine r_iload_n (pc := 13) C dX11_bytesOf_13 rfl 2 rfl ?_
    refine r_imul (pc := 14) C dX11_bytesOf_14 ?_
    refine r_ishr (pc := 15) C dX11_bytesOf_15 ?_
    refine r_sipush (pc := 16) C dX11_bytesOf_16 ks255 ?_
    refine r_iand (pc := 19) C dX11_bytesOf_19 ?_
    refine r_if_ne (pc := 20) (tgt := 27) C dX11_bytesOf_20 rfl (fun c_2 => ?_) (fun c_2 => ?_)
    · replace hr := (if_neg c_2).symm.trans hr
      refine r_iconst (pc := 27) C dX11_bytesOf_27 ki1 ?_
      refine r_iadd (pc := 28) C dX11_bytesOf_28 ?_
      obtain ⟨x1_3, ex1_3, hr⟩ := gLet_some hr
      refine r_istore_n (pc := 29) C dX11_bytesOf_29 rfl (by decide) ex1_3 (ls' := [(1, .int x1_3), (0, .int x0), (2, .int x2)]) rfl ?_
      obtain ⟨x2_4, ex2_4, hr⟩ := gLet_some hr
      refine r_iinc (pc := 30) C dX11_bytesOf_30 2 rfl rfl (by decide) ex2_4 (ls' := [(2, .int x2_4), (1, .int x1_3), (0, .int x0)]) rfl ?_
      refine r_goto (pc := 33) (tgt := 4) C dX11_bytesOf_33 rfl ?_
      refine r_sub C [2, 1, 0] (ls' := [(0, .int x0), (1, .int x1_3), (2, .int x2_4)]) rfl ?_
      exact hn (x1_3, x2_4) (gSome hr)
    · replace hr := (if_pos c_2).symm.trans hr
      refine r_iconst (pc := 23) C dX11_bytesOf_23 ki0 ?_
      refine r_goto (pc := 24) (tgt := 28) C dX11_bytesOf_24 rfl ?_
      refine r_iadd (pc := 28) C dX11_bytesOf_28 ?_
      obtain ⟨x1_5, ex1_5, hr⟩ := gLet_some hr
      refine r_istore_n (pc := 29) C dX11_bytesOf_29 rfl (by decide) ex1_5 (ls' := [(1, .int x1_5), (0, .int x0), (2, .int x2)]) rfl ?_
      obtain ⟨x2_6, ex2_6, hr⟩ := gLet_some hr
      refine r_iinc (pc := 30) C dX11_bytesOf_30 2 rfl rfl (by decide) ex2_6 (ls' := [(2, .int x2_6), (1, .int x1_5), (0, .int x0)]) rfl ?_
      refine r_goto (pc := 33) (tgt := 4) C dX11_bytesOf_33 rfl ?_
      refine r_sub C [2, 1, 0] (ls' := [(0, .int x0), (1, .int x1_5), (2, .int x2_6)]) rfl ?_
      exact hn (x1_5, x2_6) (gSome hr)
noncomputable def X11_bytesOf (p0 : Int32) (M : gM) : Option Int32 := (gIter (fun s => X11_bytesOf_L4 p0 s.1 s.2 M) FU (0, 0)).bind (fun x1_7 => some x1_7)
theorem k_X11_bytesOf {G : gG5} {nf : Nat} {M : gM} {p0 : Int32} {r : Int32} (hr : X11_bytesOf p0 M = some r) : gMet G (gXn nf) yX11_bytesOf cX11_bytesOf 3 (some .int) 0 0 M [.int p0] (some (.int r)) M := by
  refine gMet_of pl_X11 rfl (Nat.le_of_ble_eq_true rfl) (fun Ψ C CR => ?_)
  show Ψ M 0 [(0, .int p0)] []
  refine r_iconst (pc := 0) C dX11_bytesOf_0 ki0 ?_
  refine r_istore_n (pc := 1) C dX11_bytesOf_1 rfl (by decide) rfl (ls' := [(1, .int 0), (0, .int p0)]) rfl ?_
  refine r_iconst (pc := 2) C dX11_bytesOf_2 ki0 ?_
  refine r_istore_n (pc := 3) C dX11_bytesOf_3 rfl (by decide) rfl (ls' := [(2, .int 0), (1, .int 0), (0, .int p0)]) rfl ?_
  refine r_sub C [2, 1, 0] (ls' := [(0, .int p0), (1, .int 0), (2, .int 0)]) rfl ?_
  obtain ⟨ev, hit, hr⟩ := gBind_some hr
  refine gIter_V (step := fun s => X11_bytesOf_L4 p0 s.1 s.2 M) (P := fun s => Ψ M 4 [(0, .int p0), (1, .int (s.1)), (2, .int (s.2))] []) (K := (fun e => Ψ M 36 [(1, .int e)] [])) (fun s w hs hn hx => t_X11_bytesOf_L4 C  hs hn hx) FU (0, 0) ev hit ?_
  obtain ⟨x1_7, rfl⟩ : ∃ z, z = ev := ⟨_, rfl⟩
  show Ψ M 36 [(1, .int x1_7)] []
  refine r_iload_n (pc := 36) C dX11_bytesOf_36 rfl 0 rfl ?_
  exact r_iret (pc := 37) CR dX11_bytesOf_37 (congrArg (fun z => some (Value.int z)) (gSome hr)) rfl
theorem c_X11_bytesOf {Ψ : gM → Nat → List (Nat × Value) → List Value → Prop} {G : gG5} {nf : Nat} {cc : ByteArray} {own : String} {nL : Nat} {ret : Option FieldType} {fr lo : Nat} {v0 : Option Value} {M0 M : gM} {pc index : Nat} {ls : List (Nat × Value)} {st : List Value} (C : gC Ψ G (gXn nf) cc own nL ret fr lo v0 M0) (d : decode cc pc = .ok (.invokestatic index, 3)) (hl : Cond.methodLink own index yX11_bytesOf ∈ gws) (hR : 1 ≤ fr ∧ 22 ≤ lo) {p0 : Int32} {r : Int32} (hr : X11_bytesOf p0 M = some r) (hcat : (st.map fun v => v.category).sum ≤ 8) (k : Ψ M (pc + 3) ls (.int r :: st)) : Ψ M pc ls (.int p0 :: st) := r_callS C [.int p0] st d (k_X11_bytesOf hr) hl q1524 q127 q1525 hd_X11_bytesOf hR rfl hcat k
theorem hd_X11_brings : yX11_brings.cls ≠ "java/lang/invoke/MethodHandle" ∧ yX11_brings.cls ≠ "java/lang/invoke/VarHandle" ∧ (parseMethodDescriptor yX11_brings.desc).map (fun d => d.parameters.length) = some 1 := by decide +kernel
noncomputable def X11_brings_L3 (x1 : Int32) (x2 : Int32) (M : gM) : Option ((Int32 × gM) ⊕ gM) := (if x2 < 0 then some (.inr M) else gLet (((x1 >>> (x2 &&& 31)) &&& 255)) (fun x3_2 => (if x3_2 = 0 then gLet (x2 + (-8)) (fun x2_8 => some (.inl (x2_8, M))) else gG (gin (M.1 50 0 2) 480) (gLet (wI M 51 0 (Int32.toNatClampNeg (M.1 50 0 2)) (vp_nar .byte ((Int32.toInt8 x3_2).toInt32))) (fun M_5 => gLet (wI M_5 50 0 2 ((M_5.1 50 0 2) + 1)) (fun M_6 => gLet (x2 + (-8)) (fun x2_7 => some (.inl (x2_7, M_6)))))))))
theorem t_X11_brings_L3 {Ψ : gM → Nat → List (Nat × Value) → List Value → Prop} {G : gG5} {nf : Nat} {M : gM} {v0 : Option Value} {M0 : gM} {x1 : Int32} {x2 : Int32} {w : ((Int32 × gM) ⊕ gM)} (C : gC Ψ G (gXn nf) cX11_brings RX11 4 none 0 0 v0 M0) (hr : X11_brings_L3 x1 x2 M = some w) (hn : ∀ s, w = .inl s → Ψ s.2 3 [(0, .ref (gad 50 0)), (1, .int x1), (2, .int (s.1))] []) (hx : ∀ e, w = .inr e → (fun e => Ψ e 49 [] []) e) : Ψ M 3 [(0, .ref (gad 50 0)), (1, .int x1), (2, .int x2)] [] := by
  refine r_iload_n (pc := 3) C dX11_brings_3 rfl 2 rfl ?_
  refine r_if_lt (pc := 4) (tgt := 49) C dX11_brings_4 rfl (fun c_1 => ?_) (fun c_1 => ?_)
  · replace hr := (if_pos c_1).symm.trans hr
    refine r_sub C [] (ls' := []) rfl ?_
    exact hx M (gSome hr)
  · replace hr := (if_neg c_1).symm.trans hr
    refine r_iload_n (pc := 7) C dX11_brings_7 rfl 1 rfl ?_
    refine r_iload_n (pc := 8) C dX11_brings_8 rfl 2 rfl ?_
    refine r_ishr (pc := 9) C dX11_brings_9 ?_
    refine r_sipush (pc := 10) C dX11_brings_10 ks255 ?_
    refine r_iand (pc := 13) C dX11_brings_13 ?_
    obtain ⟨x3_2, ex3_2, hr⟩ := gLet_some hr
    refine r_istore_n (pc := 14) C dX11_brings_14 rfl (by decide) ex3_2 (ls' := [(3, .int x3_2), (0, .ref (gad 50 0)), (1, .int x1), (2, .int x2)]) rfl ?_
    refine r_iload_n (pc := 15) C dX11_brings_15 rfl 0 rfl ?_
    refine r_if_ne (pc := 16) (tgt := 22) C dX11_brings_16 rfl (fun c_3 => ?_) (fun c_3 => ?_)
    · replace hr := (if_neg c_3).symm.trans hr
      refine r_aload_n (pc := 22) C dX11_brings_22 rfl 1 rfl ?_
      refine g50_1 (pc := 23) C dX11_brings_23 q1401 (e50 nf) ?_
      refine r_aload_n (pc := 26) C dX11_brings_26 rfl 1 rfl ?_
      refine g50_2 (pc := 27) C dX11_brings_27 q1402 (e50 nf) ?_
      refine r_iload_n (pc := 30) C dX11_brings_30 rfl 0 rfl ?_
      refine r_i2b (pc := 31) C dX11_brings_31 ?_
      obtain ⟨g_4, hr⟩ := gG_some hr
      obtain ⟨M_5, eM_5, hr⟩ := gLet_some hr
      refine r_bastN (pc := 32) C dX11_brings_32 rfl (e51 nf) g_4 rfl eM_5 ?_
      refine r_aload_n (pc := 33) C dX11_brings_33 rfl 1 rfl ?_
      refine r_dup (pc := 34) C dX11_brings_34 rfl ?_
      refine g50_2 (pc := 35) C dX11_brings_35 q1402 (e50 nf) ?_
      refine r_iconst (pc := 38) C dX11_brings_38 ki1 ?_
      refine r_iadd (pc := 39) C dX11_brings_39 ?_
      obtain ⟨M_6, eM_6, hr⟩ := gLet_some hr
      refine p50_2 (pc := 40) C dX11_brings_40 q1402 (e50 nf) eM_6 ?_
      obtain ⟨x2_7, ex2_7, hr⟩ := gLet_some hr
      refine r_iinc (pc := 43) C dX11_brings_43 3 rfl rfl (by decide) ex2_7 (ls' := [(2, .int x2_7), (3, .int x3_2), (0, .ref (gad 50 0)), (1, .int x1)]) rfl ?_
      refine r_goto (pc := 46) (tgt := 3) C dX11_brings_46 rfl ?_
      refine r_sub C [2, 3, 0] (ls' := [(0, .ref (gad 50 0)), (1, .int x1), (2, .int x2_7)]) rfl ?_
      exact hn (x2_7, M_6) (gSome hr)
    · replace hr := (if_pos c_3).symm.trans hr
      refine r_goto (pc := 19) (tgt := 43) C dX11_brings_19 rfl ?_
      obtain ⟨x2_8, ex2_8, hr⟩ := gLet_some hr
      refine r_iinc (pc := 43) C dX11_brings_43 3 rfl rfl (by decide) ex2_8 (ls' := [(2, .int x2_8), (3, .int x3_2), (0, .ref (gad 50 0)), (1, .int x1)]) rfl ?_
      refine r_goto (pc := 46) (tgt := 3) C dX11_brings_46 rfl ?_
      refine r_sub C [2, 3, 0] (ls' := [(0, .ref (gad 50 0)), (1, .int x1), (2, .int x2_8)]) rfl ?_
      exact hn (x2_8, M) (gSome hr)
noncomputable def X11_brings (p1 : Int32) (M : gM) : Option gM := (gIter (fun s => X11_brings_L3 p1 s.1 s.2) FU (24, M)).bind (fun M_9 => some M_9)
theorem k_X11_brings {G : gG5} {nf : Nat} {M : gM} {p1 : Int32} {M1 : gM} (hr : X11_brings p1 M = some M1) : gMet G (gXn nf) yX11_brings cX11_brings 4 none 0 0 M [.ref (gad 50 0), .int p1] none M1 := by
  refine gMet_of pl_X11 rfl (Nat.le_of_ble_eq_true rfl) (fun Ψ C CR => ?_)
  show Ψ M 0 [(0, .ref (gad 50 0)), (1, .int p1)] []
  refine r_bipush (pc := 0) C dX11_brings_0 kb24 ?_
  refine r_istore_n (pc := 2) C dX11_brings_2 rfl (by decide) rfl (ls' := [(2, .int 24), (0, .ref (gad 50 0)), (1, .int p1)]) rfl ?_
  refine r_sub C [1, 2, 0] (ls' := [(0, .ref (gad 50 0)), (1, .int p1), (2, .int 24)]) rfl ?_
  obtain ⟨ev, hit, hr⟩ := gBind_some hr
  refine gIter_V (step := fun s => X11_brings_L3 p1 s.1 s.2) (P := fun s => Ψ s.2 3 [(0, .ref (gad 50 0)), (1, .int p1), (2, .int (s.1))] []) (K := (fun e => Ψ e 49 [] [])) (fun s w hs hn hx => t_X11_brings_L3 C  hs hn hx) FU (24, M) ev hit ?_
  obtain ⟨M_9, rfl⟩ : ∃ z, z = ev := ⟨_, rfl⟩
  show Ψ M_9 49 [] []
  exact r_vret (pc := 49) CR dX11_brings_49 rfl (gSome hr)
theorem c_X11_brings {Ψ : gM → Nat → List (Nat × Value) → List Value → Prop} {G : gG5} {nf : Nat} {cc : ByteArray} {own : String} {nL : Nat} {ret : Option FieldType} {fr lo : Nat} {v0 : Option Value} {M0 M : gM} {pc index : Nat} {ls : List (Nat × Value)} {st : List Value} (C : gC Ψ G (gXn nf) cc own nL ret fr lo v0 M0) (d : decode cc pc = .ok (.invokevirtual index, 3)) (hl : Cond.methodLink own index yX11_brings ∈ gws) (hR : 1 ≤ fr ∧ 23 ≤ lo) {p1 : Int32} {M1 : gM} (hr : X11_brings p1 M = some M1) (hcat : (st.map fun v => v.category).sum ≤ 8) (k : Ψ M1 (pc + 3) ls (st)) : Ψ M pc ls (.int p1 :: .ref (gad 50 0) :: st) := r_callV C [.int p1] st d (k_X11_brings hr) hl q1528 q37 q127 q1529 hd_X11_brings hR rfl (by decide) (e50 nf) rfl hcat k
theorem hd_X11_feed : yX11_feed.cls ≠ "java/lang/invoke/MethodHandle" ∧ yX11_feed.cls ≠ "java/lang/invoke/VarHandle" ∧ (parseMethodDescriptor yX11_feed.desc).map (fun d => d.parameters.length) = some 5 := by decide +kernel
noncomputable def X11_feed (p1 : Int32) (p2 : Int32) (p3 : Int32) (p4 : Int32) (p5 : Int32) (M : gM) : Option (Int32 × gM) := gLet (wI M 50 0 0 0) (fun M_1 => (X11_bytesOf p1 M_1).bind (fun r_3 => (X11_bytesOf p2 M_1).bind (fun r_5 => (X11_bytesOf p3 M_1).bind (fun r_7 => (X11_bytesOf p4 M_1).bind (fun r_9 => (X11_bytesOf p5 M_1).bind (fun r_11 => (if ((((((M_1.1 50 0 2) + r_3) + r_5) + r_7) + r_9) + r_11) ≤ 480 then (X11_brings p1 M_1).bind (fun M_14 => (X11_brings p2 M_14).bind (fun M_16 => (X11_brings p3 M_16).bind (fun M_18 => (X11_brings p4 M_18).bind (fun M_20 => (X11_brings p5 M_20).bind (fun M_22 => some ((M_22.1 50 0 2), M_22)))))) else some ((-1), M_1))))))))
theorem k_X11_feed {G : gG5} {nf : Nat} {M : gM} {p1 : Int32} {p2 : Int32} {p3 : Int32} {p4 : Int32} {p5 : Int32} {r : Int32} {M1 : gM} (hr : X11_feed p1 p2 p3 p4 p5 M = some (r, M1)) : gMet G (gXn nf) yX11_feed cX11_feed 6 (some .int) 1 23 M [.ref (gad 50 0), .int p1, .int p2, .int p3, .int p4, .int p5] (some (.int r)) M1 := by
  refine gMet_of pl_X11 rfl (Nat.le_of_ble_eq_true rfl) (fun Ψ C CR => ?_)
  show Ψ M 0 [(0, .ref (gad 50 0)), (1, .int p1), (2, .int p2), (3, .int p3), (4, .int p4), (5, .int p5)] []
  refine r_aload_n (pc := 0) C dX11_feed_0 rfl 0 rfl ?_
  refine r_iconst (pc := 1) C dX11_feed_1 ki0 ?_
  obtain ⟨M_1, eM_1, hr⟩ := gLet_some hr
  refine p50_0 (pc := 2) C dX11_feed_2 q1400 (e50 nf) eM_1 ?_
  refine r_aload_n (pc := 5) C dX11_feed_5 rfl 0 rfl ?_
  refine g50_2 (pc := 6) C dX11_feed_6 q1402 (e50 nf) ?_
  refine r_iload_n (pc := 9) C dX11_feed_9 rfl 1 rfl ?_
  obtain ⟨r_3, hc_2, hr⟩ := gBind_some hr
  refine c_X11_bytesOf (pc := 10) C dX11_feed_10 q1523 ⟨Nat.le_of_ble_eq_true rfl, Nat.le_of_ble_eq_true rfl⟩ hc_2 (Nat.le_of_ble_eq_true rfl) ?_
  refine r_iadd (pc := 13) C dX11_feed_13 ?_
  refine r_iload_n (pc := 14) C dX11_feed_14 rfl 2 rfl ?_
  obtain ⟨r_5, hc_4, hr⟩ := gBind_some hr
  refine c_X11_bytesOf (pc := 15) C dX11_feed_15 q1523 ⟨Nat.le_of_ble_eq_true rfl, Nat.le_of_ble_eq_true rfl⟩ hc_4 (Nat.le_of_ble_eq_true rfl) ?_
  refine r_iadd (pc := 18) C dX11_feed_18 ?_
  refine r_iload_n (pc := 19) C dX11_feed_19 rfl 3 rfl ?_
  obtain ⟨r_7, hc_6, hr⟩ := gBind_some hr
  refine c_X11_bytesOf (pc := 20) C dX11_feed_20 q1523 ⟨Nat.le_of_ble_eq_true rfl, Nat.le_of_ble_eq_true rfl⟩ hc_6 (Nat.le_of_ble_eq_true rfl) ?_
  refine r_iadd (pc := 23) C dX11_feed_23 ?_
  refine r_iload (pc := 24) C dX11_feed_24 4 rfl ?_
  obtain ⟨r_9, hc_8, hr⟩ := gBind_some hr
  refine c_X11_bytesOf (pc := 26) C dX11_feed_26 q1523 ⟨Nat.le_of_ble_eq_true rfl, Nat.le_of_ble_eq_true rfl⟩ hc_8 (Nat.le_of_ble_eq_true rfl) ?_
  refine r_iadd (pc := 29) C dX11_feed_29 ?_
  refine r_iload (pc := 30) C dX11_feed_30 5 rfl ?_
  obtain ⟨r_11, hc_10, hr⟩ := gBind_some hr
  refine c_X11_bytesOf (pc := 32) C dX11_feed_32 q1523 ⟨Nat.le_of_ble_eq_true rfl, Nat.le_of_ble_eq_true rfl⟩ hc_10 (Nat.le_of_ble_eq_true rfl) ?_
  refine r_iadd (pc := 35) C dX11_feed_35 ?_
  refine r_sipush (pc := 36) C dX11_feed_36 ks480 ?_
  refine r_icmp_le (pc := 39) (tgt := 44) C dX11_feed_39 rfl (fun c_12 => ?_) (fun c_12 => ?_)
  · replace hr := (if_pos c_12).symm.trans hr
    refine r_aload_n (pc := 44) C dX11_feed_44 rfl 0 rfl ?_
    refine r_iload_n (pc := 45) C dX11_feed_45 rfl 1 rfl ?_
    obtain ⟨M_14, hc_13, hr⟩ := gBind_some hr
    refine c_X11_brings (pc := 46) C dX11_feed_46 q1526 ⟨Nat.le_of_ble_eq_true rfl, Nat.le_of_ble_eq_true rfl⟩ hc_13 (Nat.le_of_ble_eq_true rfl) ?_
    refine r_aload_n (pc := 49) C dX11_feed_49 rfl 0 rfl ?_
    refine r_iload_n (pc := 50) C dX11_feed_50 rfl 2 rfl ?_
    obtain ⟨M_16, hc_15, hr⟩ := gBind_some hr
    refine c_X11_brings (pc := 51) C dX11_feed_51 q1526 ⟨Nat.le_of_ble_eq_true rfl, Nat.le_of_ble_eq_true rfl⟩ hc_15 (Nat.le_of_ble_eq_true rfl) ?_
    refine r_aload_n (pc := 54) C dX11_feed_54 rfl 0 rfl ?_
    refine r_iload_n (pc := 55) C dX11_feed_55 rfl 3 rfl ?_
    obtain ⟨M_18, hc_17, hr⟩ := gBind_some hr
    refine c_X11_brings (pc := 56) C dX11_feed_56 q1526 ⟨Nat.le_of_ble_eq_true rfl, Nat.le_of_ble_eq_true rfl⟩ hc_17 (Nat.le_of_ble_eq_true rfl) ?_
    refine r_aload_n (pc := 59) C dX11_feed_59 rfl 0 rfl ?_
    refine r_iload (pc := 60) C dX11_feed_60 4 rfl ?_
    obtain ⟨M_20, hc_19, hr⟩ := gBind_some hr
    refine c_X11_brings (pc := 62) C dX11_feed_62 q1526 ⟨Nat.le_of_ble_eq_true rfl, Nat.le_of_ble_eq_true rfl⟩ hc_19 (Nat.le_of_ble_eq_true rfl) ?_
    refine r_aload_n (pc := 65) C dX11_feed_65 rfl 0 rfl ?_
    refine r_iload (pc := 66) C dX11_feed_66 5 rfl ?_
    obtain ⟨M_22, hc_21, hr⟩ := gBind_some hr
    refine c_X11_brings (pc := 68) C dX11_feed_68 q1526 ⟨Nat.le_of_ble_eq_true rfl, Nat.le_of_ble_eq_true rfl⟩ hc_21 (Nat.le_of_ble_eq_true rfl) ?_
    refine r_aload_n (pc := 71) C dX11_feed_71 rfl 0 rfl ?_
    refine g50_2 (pc := 72) C dX11_feed_72 q1402 (e50 nf) ?_
    exact r_iret (pc := 75) CR dX11_feed_75 (congrArg (fun z => some (Value.int z)) (Prod.mk.inj (gSome hr)).1) (Prod.mk.inj (gSome hr)).2
  · replace hr := (if_neg c_12).symm.trans hr
    refine r_iconst (pc := 42) C dX11_feed_42 kim1 ?_
    exact r_iret (pc := 43) CR dX11_feed_43 (congrArg (fun z => some (Value.int z)) (Prod.mk.inj (gSome hr)).1) (Prod.mk.inj (gSome hr)).2
theorem c_X11_feed {Ψ : gM → Nat → List (Nat × Value) → List Value → Prop} {G : gG5} {nf : Nat} {cc : ByteArray} {own : String} {nL : Nat} {ret : Option FieldType} {fr lo : Nat} {v0 : Option Value} {M0 M : gM} {pc index : Nat} {ls : List (Nat × Value)} {st : List Value} (C : gC Ψ G (gXn nf) cc own nL ret fr lo v0 M0) (d : decode cc pc = .ok (.invokevirtual index, 3)) (hl : Cond.methodLink own index yX11_feed ∈ gws) (hR : 2 ≤ fr ∧ 48 ≤ lo) {p1 : Int32} {p2 : Int32} {p3 : Int32} {p4 : Int32} {p5 : Int32} {r : Int32} {M1 : gM} (hr : X11_feed p1 p2 p3 p4 p5 M = some (r, M1)) (hcat : (st.map fun v => v.category).sum ≤ 8) (k : Ψ M1 (pc + 3) ls (.int r :: st)) : Ψ M pc ls (.int p5 :: .int p4 :: .int p3 :: .int p2 :: .int p1 :: .ref (gad 50 0) :: st) := r_callV C [.int p1, .int p2, .int p3, .int p4, .int p5] st d (k_X11_feed hr) hl q1520 q1521 q127 q1522 hd_X11_feed hR rfl (by decide) (e50 nf) rfl hcat k
theorem hd_X11_end : yX11_end.cls ≠ "java/lang/invoke/MethodHandle" ∧ yX11_end.cls ≠ "java/lang/invoke/VarHandle" ∧ (parseMethodDescriptor yX11_end.desc).map (fun d => d.parameters.length) = some 1 := by decide +kernel
noncomputable def X11_end (p1 : Int32) (M : gM) : Option (Int32 × gM) := gLet (wI M 50 0 0 0) (fun M_1 => (if p1 < 0 then some (0, M_1) else (if p1 ≤ (M_1.1 50 0 2) then gLet (wI M_1 50 0 2 p1) (fun M_4 => some (1, M_4)) else some (0, M_1))))
theorem k_X11_end {G : gG5} {nf : Nat} {M : gM} {p1 : Int32} {r : Int32} {M1 : gM} (hr : X11_end p1 M = some (r, M1)) : gMet G (gXn nf) yX11_end cX11_end 2 (some .boolean) 0 0 M [.ref (gad 50 0), .int p1] (some (.int r)) M1 := by
  refine gMet_of pl_X11 rfl (Nat.le_of_ble_eq_true rfl) (fun Ψ C CR => ?_)
  show Ψ M 0 [(0, .ref (gad 50 0)), (1, .int p1)] []
  refine r_aload_n (pc := 0) C dX11_end_0 rfl 0 rfl ?_
  refine r_iconst (pc := 1) C dX11_end_1 ki0 ?_
  obtain ⟨M_1, eM_1, hr⟩ := gLet_some hr
  refine p50_0 (pc := 2) C dX11_end_2 q1400 (e50 nf) eM_1 ?_
  refine r_iload_n (pc := 5) C dX11_end_5 rfl 1 rfl ?_
  refine r_if_lt (pc := 6) (tgt := 17) C dX11_end_6 rfl (fun c_2 => ?_) (fun c_2 => ?_)
  · replace hr := (if_pos c_2).symm.trans hr
    refine r_iconst (pc := 17) C dX11_end_17 ki0 ?_
    exact r_zret (pc := 18) CR dX11_end_18 rfl (congrArg (fun z => some (Value.int z)) (Prod.mk.inj (gSome hr)).1) (Prod.mk.inj (gSome hr)).2
  · replace hr := (if_neg c_2).symm.trans hr
    refine r_iload_n (pc := 9) C dX11_end_9 rfl 1 rfl ?_
    refine r_aload_n (pc := 10) C dX11_end_10 rfl 0 rfl ?_
    refine g50_2 (pc := 11) C dX11_end_11 q1402 (e50 nf) ?_
    refine r_icmp_le (pc := 14) (tgt := 19) C dX11_end_14 rfl (fun c_3 => ?_) (fun c_3 => ?_)
    · replace hr := (if_pos c_3).symm.trans hr
      refine r_aload_n (pc := 19) C dX11_end_19 rfl 0 rfl ?_
      refine r_iload_n (pc := 20) C dX11_end_20 rfl 1 rfl ?_
      obtain ⟨M_4, eM_4, hr⟩ := gLet_some hr
      refine p50_2 (pc := 21) C dX11_end_21 q1402 (e50 nf) eM_4 ?_
      refine r_iconst (pc := 24) C dX11_end_24 ki1 ?_
      exact r_zret (pc := 25) CR dX11_end_25 rfl (congrArg (fun z => some (Value.int z)) (Prod.mk.inj (gSome hr)).1) (Prod.mk.inj (gSome hr)).2
    · replace hr := (if_neg c_3).symm.trans hr
      refine r_iconst (pc := 17) C dX11_end_17 ki0 ?_
      exact r_zret (pc := 18) CR dX11_end_18 rfl (congrArg (fun z => some (Value.int z)) (Prod.mk.inj (gSome hr)).1) (Prod.mk.inj (gSome hr)).2
theorem c_X11_end {Ψ : gM → Nat → List (Nat × Value) → List Value → Prop} {G : gG5} {nf : Nat} {cc : ByteArray} {own : String} {nL : Nat} {ret : Option FieldType} {fr lo : Nat} {v0 : Option Value} {M0 M : gM} {pc index : Nat} {ls : List (Nat × Value)} {st : List Value} (C : gC Ψ G (gXn nf) cc own nL ret fr lo v0 M0) (d : decode cc pc = .ok (.invokevirtual index, 3)) (hl : Cond.methodLink own index yX11_end ∈ gws) (hR : 1 ≤ fr ∧ 21 ≤ lo) {p1 : Int32} {r : Int32} {M1 : gM} (hr : X11_end p1 M = some (r, M1)) (hcat : (st.map fun v => v.category).sum ≤ 8) (k : Ψ M1 (pc + 3) ls (.int r :: st)) : Ψ M pc ls (.int p1 :: .ref (gad 50 0) :: st) := r_callV C [.int p1] st d (k_X11_end hr) hl q1531 q1532 q127 q1533 hd_X11_end hR rfl (by decide) (e50 nf) rfl hcat k
theorem hd_X11_here : yX11_here.cls ≠ "java/lang/invoke/MethodHandle" ∧ yX11_here.cls ≠ "java/lang/invoke/VarHandle" ∧ (parseMethodDescriptor yX11_here.desc).map (fun d => d.parameters.length) = some 0 := by decide +kernel
noncomputable def X11_here (M : gM) : Option Int32 := (if (M.1 50 0 2) ≤ (M.1 50 0 3) then some (-1) else gG (gin (M.1 50 0 3) 480) (some ((M.1 51 0 (Int32.toNatClampNeg (M.1 50 0 3))) &&& 255)))
theorem k_X11_here {G : gG5} {nf : Nat} {M : gM} {r : Int32} (hr : X11_here M = some r) : gMet G (gXn nf) yX11_here cX11_here 1 (some .int) 0 0 M [.ref (gad 50 0)] (some (.int r)) M := by
  refine gMet_of pl_X11 rfl (Nat.le_of_ble_eq_true rfl) (fun Ψ C CR => ?_)
  show Ψ M 0 [(0, .ref (gad 50 0))] []
  refine r_aload_n (pc := 0) C dX11_here_0 rfl 0 rfl ?_
  refine g50_3 (pc := 1) C dX11_here_1 q1403 (e50 nf) ?_
  refine r_aload_n (pc := 4) C dX11_here_4 rfl 0 rfl ?_
  refine g50_2 (pc := 5) C dX11_here_5 q1402 (e50 nf) ?_
  refine r_icmp_ge (pc := 8) (tgt := 27) C dX11_here_8 rfl (fun c_1 => ?_) (fun c_1 => ?_)
  · replace hr := (if_pos c_1).symm.trans hr
    refine r_iconst (pc := 27) C dX11_here_27 kim1 ?_
    exact r_iret (pc := 28) CR dX11_here_28 (congrArg (fun z => some (Value.int z)) (gSome hr)) rfl
  · replace hr := (if_neg c_1).symm.trans hr
    refine r_aload_n (pc := 11) C dX11_here_11 rfl 0 rfl ?_
    refine g50_1 (pc := 12) C dX11_here_12 q1401 (e50 nf) ?_
    refine r_aload_n (pc := 15) C dX11_here_15 rfl 0 rfl ?_
    refine g50_3 (pc := 16) C dX11_here_16 q1403 (e50 nf) ?_
    obtain ⟨g_2, hr⟩ := gG_some hr
    refine r_baldN (pc := 19) C dX11_here_19 rfl (e51 nf) g_2 rfl ?_
    refine r_sipush (pc := 20) C dX11_here_20 ks255 ?_
    refine r_iand (pc := 23) C dX11_here_23 ?_
    refine r_goto (pc := 24) (tgt := 28) C dX11_here_24 rfl ?_
    exact r_iret (pc := 28) CR dX11_here_28 (congrArg (fun z => some (Value.int z)) (gSome hr)) rfl
theorem c_X11_here {Ψ : gM → Nat → List (Nat × Value) → List Value → Prop} {G : gG5} {nf : Nat} {cc : ByteArray} {own : String} {nL : Nat} {ret : Option FieldType} {fr lo : Nat} {v0 : Option Value} {M0 M : gM} {pc index : Nat} {ls : List (Nat × Value)} {st : List Value} (C : gC Ψ G (gXn nf) cc own nL ret fr lo v0 M0) (d : decode cc pc = .ok (.invokevirtual index, 3)) (hl : Cond.methodLink own index yX11_here ∈ gws) (hR : 1 ≤ fr ∧ 20 ≤ lo) {r : Int32} (hr : X11_here M = some r) (hcat : (st.map fun v => v.category).sum ≤ 8) (k : Ψ M (pc + 3) ls (.int r :: st)) : Ψ M pc ls (.ref (gad 50 0) :: st) := r_callV C [] st d (k_X11_here hr) hl q1564 q43 q127 q1565 hd_X11_here hR rfl (by decide) (e50 nf) rfl hcat k
theorem hd_X11_look : yX11_look.cls ≠ "java/lang/invoke/MethodHandle" ∧ yX11_look.cls ≠ "java/lang/invoke/VarHandle" ∧ (parseMethodDescriptor yX11_look.desc).map (fun d => d.parameters.length) = some 0 := by decide +kernel
noncomputable def X11_look_L0 (M : gM) : Option (gM ⊕ gM) := (X11_here M).bind (fun r_8 => (if r_8 = 32 then gLet (wI M 50 0 3 ((M.1 50 0 3) + 1)) (fun M_10 => some (.inl M_10)) else some (.inr M)))
theorem t_X11_look_L0 {Ψ : gM → Nat → List (Nat × Value) → List Value → Prop} {G : gG5} {nf : Nat} {M : gM} {v0 : Option Value} {M0 : gM} {w : (gM ⊕ gM)} (C : gC Ψ G (gXn nf) cX11_look RX11 1 (some .int) 1 20 v0 M0) (hr : X11_look_L0 M = some w) (hn : ∀ s, w = .inl s → Ψ s 0 [(0, .ref (gad 50 0))] []) (hx : ∀ e, w = .inr e → (fun e => Ψ e 22 [(0, .ref (gad 50 0))] []) e) : Ψ M 0 [(0, .ref (gad 50 0))] [] := by
  refine r_aload_n (pc := 0) C dX11_look_0 rfl 0 rfl ?_
  obtain ⟨r_8, hc_7, hr⟩ := gBind_some hr
  refine c_X11_here (pc := 1) C dX11_look_1 q1562 ⟨Nat.le_of_ble_eq_true rfl, Nat.le_of_ble_eq_true rfl⟩ hc_7 (Nat.le_of_ble_eq_true rfl) ?_
  refine r_bipush (pc := 4) C dX11_look_4 kb32 ?_
  refine r_icmp_ne (pc := 6) (tgt := 22) C dX11_look_6 rfl (fun c_9 => ?_) (fun c_9 => ?_)
  · replace hr := (if_neg c_9).symm.trans hr
    exact hx M (gSome hr)
  · replace hr := (if_pos c_9).symm.trans hr
    refine r_aload_n (pc := 9) C dX11_look_9 rfl 0 rfl ?_
    refine r_dup (pc := 10) C dX11_look_10 rfl ?_
    refine g50_3 (pc := 11) C dX11_look_11 q1403 (e50 nf) ?_
    refine r_iconst (pc := 14) C dX11_look_14 ki1 ?_
    refine r_iadd (pc := 15) C dX11_look_15 ?_
    obtain ⟨M_10, eM_10, hr⟩ := gLet_some hr
    refine p50_3 (pc := 16) C dX11_look_16 q1403 (e50 nf) eM_10 ?_
    refine r_goto (pc := 19) (tgt := 0) C dX11_look_19 rfl ?_
    exact hn M_10 (gSome hr)
noncomputable def X11_look (M : gM) : Option (Int32 × gM) := (X11_here M).bind (fun r_2 => (if r_2 = 32 then gLet (wI M 50 0 3 ((M.1 50 0 3) + 1)) (fun M_6 => (gIter (fun s => X11_look_L0 s) FU M_6).bind (fun M_11 => (X11_here M_11).bind (fun r_13 => some (r_13, M_11)))) else (X11_here M).bind (fun r_5 => some (r_5, M))))
theorem k_X11_look {G : gG5} {nf : Nat} {M : gM} {r : Int32} {M1 : gM} (hr : X11_look M = some (r, M1)) : gMet G (gXn nf) yX11_look cX11_look 1 (some .int) 1 20 M [.ref (gad 50 0)] (some (.int r)) M1 := by
  refine gMet_of pl_X11 rfl (Nat.le_of_ble_eq_true rfl) (fun Ψ C CR => ?_)
  show Ψ M 0 [(0, .ref (gad 50 0))] []
  refine r_aload_n (pc := 0) C dX11_look_0 rfl 0 rfl ?_
  obtain ⟨r_2, hc_1, hr⟩ := gBind_some hr
  refine c_X11_here (pc := 1) C dX11_look_1 q1562 ⟨Nat.le_of_ble_eq_true rfl, Nat.le_of_ble_eq_true rfl⟩ hc_1 (Nat.le_of_ble_eq_true rfl) ?_
  refine r_bipush (pc := 4) C dX11_look_4 kb32 ?_
  refine r_icmp_ne (pc := 6) (tgt := 22) C dX11_look_6 rfl (fun c_3 => ?_) (fun c_3 => ?_)
  · replace hr := (if_neg c_3).symm.trans hr
    refine r_aload_n (pc := 22) C dX11_look_22 rfl 0 rfl ?_
    obtain ⟨r_5, hc_4, hr⟩ := gBind_some hr
    refine c_X11_here (pc := 23) C dX11_look_23 q1562 ⟨Nat.le_of_ble_eq_true rfl, Nat.le_of_ble_eq_true rfl⟩ hc_4 (Nat.le_of_ble_eq_true rfl) ?_
    exact r_iret (pc := 26) CR dX11_look_26 (congrArg (fun z => some (Value.int z)) (Prod.mk.inj (gSome hr)).1) (Prod.mk.inj (gSome hr)).2
  · replace hr := (if_pos c_3).symm.trans hr
    refine r_aload_n (pc := 9) C dX11_look_9 rfl 0 rfl ?_
    refine r_dup (pc := 10) C dX11_look_10 rfl ?_
    refine g50_3 (pc := 11) C dX11_look_11 q1403 (e50 nf) ?_
    refine r_iconst (pc := 14) C dX11_look_14 ki1 ?_
    refine r_iadd (pc := 15) C dX11_look_15 ?_
    obtain ⟨M_6, eM_6, hr⟩ := gLet_some hr
    refine p50_3 (pc := 16) C dX11_look_16 q1403 (e50 nf) eM_6 ?_
    refine r_goto (pc := 19) (tgt := 0) C dX11_look_19 rfl ?_
    obtain ⟨ev, hit, hr⟩ := gBind_some hr
    refine gIter_V (step := fun s => X11_look_L0 s) (P := fun s => Ψ s 0 [(0, .ref (gad 50 0))] []) (K := (fun e => Ψ e 22 [(0, .ref (gad 50 0))] [])) (fun s w hs hn hx => t_X11_look_L0 C  hs hn hx) FU M_6 ev hit ?_
    obtain ⟨M_11, rfl⟩ : ∃ z, z = ev := ⟨_, rfl⟩
    show Ψ M_11 22 [(0, .ref (gad 50 0))] []
    refine r_aload_n (pc := 22) C dX11_look_22 rfl 0 rfl ?_
    obtain ⟨r_13, hc_12, hr⟩ := gBind_some hr
    refine c_X11_here (pc := 23) C dX11_look_23 q1562 ⟨Nat.le_of_ble_eq_true rfl, Nat.le_of_ble_eq_true rfl⟩ hc_12 (Nat.le_of_ble_eq_true rfl) ?_
    exact r_iret (pc := 26) CR dX11_look_26 (congrArg (fun z => some (Value.int z)) (Prod.mk.inj (gSome hr)).1) (Prod.mk.inj (gSome hr)).2
theorem c_X11_look {Ψ : gM → Nat → List (Nat × Value) → List Value → Prop} {G : gG5} {nf : Nat} {cc : ByteArray} {own : String} {nL : Nat} {ret : Option FieldType} {fr lo : Nat} {v0 : Option Value} {M0 M : gM} {pc index : Nat} {ls : List (Nat × Value)} {st : List Value} (C : gC Ψ G (gXn nf) cc own nL ret fr lo v0 M0) (d : decode cc pc = .ok (.invokevirtual index, 3)) (hl : Cond.methodLink own index yX11_look ∈ gws) (hR : 2 ≤ fr ∧ 40 ≤ lo) {r : Int32} {M1 : gM} (hr : X11_look M = some (r, M1)) (hcat : (st.map fun v => v.category).sum ≤ 8) (k : Ψ M1 (pc + 3) ls (.int r :: st)) : Ψ M pc ls (.ref (gad 50 0) :: st) := r_callV C [] st d (k_X11_look hr) hl q1560 q42 q127 q1561 hd_X11_look hR rfl (by decide) (e50 nf) rfl hcat k
theorem hd_X11_fails : yX11_fails.cls ≠ "java/lang/invoke/MethodHandle" ∧ yX11_fails.cls ≠ "java/lang/invoke/VarHandle" ∧ (parseMethodDescriptor yX11_fails.desc).map (fun d => d.parameters.length) = some 1 := by decide +kernel
noncomputable def X11_fails (p1 : Int32) (M : gM) : Option gM := (if (M.1 50 0 4) = (-1) then gLet (wI M 50 0 4 p1) (fun M_2 => some M_2) else some M)
theorem k_X11_fails {G : gG5} {nf : Nat} {M : gM} {p1 : Int32} {M1 : gM} (hr : X11_fails p1 M = some M1) : gMet G (gXn nf) yX11_fails cX11_fails 2 none 0 0 M [.ref (gad 50 0), .int p1] none M1 := by
  refine gMet_of pl_X11 rfl (Nat.le_of_ble_eq_true rfl) (fun Ψ C CR => ?_)
  show Ψ M 0 [(0, .ref (gad 50 0)), (1, .int p1)] []
  refine r_aload_n (pc := 0) C dX11_fails_0 rfl 0 rfl ?_
  refine g50_4 (pc := 1) C dX11_fails_1 q1404 (e50 nf) ?_
  refine r_iconst (pc := 4) C dX11_fails_4 kim1 ?_
  refine r_icmp_ne (pc := 5) (tgt := 13) C dX11_fails_5 rfl (fun c_1 => ?_) (fun c_1 => ?_)
  · replace hr := (if_neg c_1).symm.trans hr
    exact r_vret (pc := 13) CR dX11_fails_13 rfl (gSome hr)
  · replace hr := (if_pos c_1).symm.trans hr
    refine r_aload_n (pc := 8) C dX11_fails_8 rfl 0 rfl ?_
    refine r_iload_n (pc := 9) C dX11_fails_9 rfl 1 rfl ?_
    obtain ⟨M_2, eM_2, hr⟩ := gLet_some hr
    refine p50_4 (pc := 10) C dX11_fails_10 q1404 (e50 nf) eM_2 ?_
    exact r_vret (pc := 13) CR dX11_fails_13 rfl (gSome hr)
theorem c_X11_fails {Ψ : gM → Nat → List (Nat × Value) → List Value → Prop} {G : gG5} {nf : Nat} {cc : ByteArray} {own : String} {nL : Nat} {ret : Option FieldType} {fr lo : Nat} {v0 : Option Value} {M0 M : gM} {pc index : Nat} {ls : List (Nat × Value)} {st : List Value} (C : gC Ψ G (gXn nf) cc own nL ret fr lo v0 M0) (d : decode cc pc = .ok (.invokevirtual index, 3)) (hl : Cond.methodLink own index yX11_fails ∈ gws) (hR : 1 ≤ fr ∧ 21 ≤ lo) {p1 : Int32} {M1 : gM} (hr : X11_fails p1 M = some M1) (hcat : (st.map fun v => v.category).sum ≤ 8) (k : Ψ M1 (pc + 3) ls (st)) : Ψ M pc ls (.int p1 :: .ref (gad 50 0) :: st) := r_callV C [.int p1] st d (k_X11_fails hr) hl q1581 q46 q127 q1582 hd_X11_fails hR rfl (by decide) (e50 nf) rfl hcat k
theorem hd_X11_isLetter : yX11_isLetter.cls ≠ "java/lang/invoke/MethodHandle" ∧ yX11_isLetter.cls ≠ "java/lang/invoke/VarHandle" ∧ (parseMethodDescriptor yX11_isLetter.desc).map (fun d => d.parameters.length) = some 0 := by decide +kernel
noncomputable def X11_isLetter (M : gM) : Option Int32 := (X11_here M).bind (fun r_2 => (if r_2 < 97 then some 0 else (X11_here M).bind (fun r_5 => (if 122 < r_5 then some 0 else some 1))))
theorem k_X11_isLetter {G : gG5} {nf : Nat} {M : gM} {r : Int32} (hr : X11_isLetter M = some r) : gMet G (gXn nf) yX11_isLetter cX11_isLetter 1 (some .boolean) 1 20 M [.ref (gad 50 0)] (some (.int r)) M := by
  refine gMet_of pl_X11 rfl (Nat.le_of_ble_eq_true rfl) (fun Ψ C CR => ?_)
  show Ψ M 0 [(0, .ref (gad 50 0))] []
  refine r_aload_n (pc := 0) C dX11_isLetter_0 rfl 0 rfl ?_
  obtain ⟨r_2, hc_1, hr⟩ := gBind_some hr
  refine c_X11_here (pc := 1) C dX11_isLetter_1 q1562 ⟨Nat.le_of_ble_eq_true rfl, Nat.le_of_ble_eq_true rfl⟩ hc_1 (Nat.le_of_ble_eq_true rfl) ?_
  refine r_bipush (pc := 4) C dX11_isLetter_4 kb97 ?_
  refine r_icmp_lt (pc := 6) (tgt := 22) C dX11_isLetter_6 rfl (fun c_3 => ?_) (fun c_3 => ?_)
  · replace hr := (if_pos c_3).symm.trans hr
    refine r_iconst (pc := 22) C dX11_isLetter_22 ki0 ?_
    exact r_zret (pc := 23) CR dX11_isLetter_23 rfl (congrArg (fun z => some (Value.int z)) (gSome hr)) rfl
  · replace hr := (if_neg c_3).symm.trans hr
    refine r_aload_n (pc := 9) C dX11_isLetter_9 rfl 0 rfl ?_
    obtain ⟨r_5, hc_4, hr⟩ := gBind_some hr
    refine c_X11_here (pc := 10) C dX11_isLetter_10 q1562 ⟨Nat.le_of_ble_eq_true rfl, Nat.le_of_ble_eq_true rfl⟩ hc_4 (Nat.le_of_ble_eq_true rfl) ?_
    refine r_bipush (pc := 13) C dX11_isLetter_13 kb122 ?_
    refine r_icmp_gt (pc := 15) (tgt := 22) C dX11_isLetter_15 rfl (fun c_6 => ?_) (fun c_6 => ?_)
    · replace hr := (if_pos c_6).symm.trans hr
      refine r_iconst (pc := 22) C dX11_isLetter_22 ki0 ?_
      exact r_zret (pc := 23) CR dX11_isLetter_23 rfl (congrArg (fun z => some (Value.int z)) (gSome hr)) rfl
    · replace hr := (if_neg c_6).symm.trans hr
      refine r_iconst (pc := 18) C dX11_isLetter_18 ki1 ?_
      refine r_goto (pc := 19) (tgt := 23) C dX11_isLetter_19 rfl ?_
      exact r_zret (pc := 23) CR dX11_isLetter_23 rfl (congrArg (fun z => some (Value.int z)) (gSome hr)) rfl
theorem c_X11_isLetter {Ψ : gM → Nat → List (Nat × Value) → List Value → Prop} {G : gG5} {nf : Nat} {cc : ByteArray} {own : String} {nL : Nat} {ret : Option FieldType} {fr lo : Nat} {v0 : Option Value} {M0 M : gM} {pc index : Nat} {ls : List (Nat × Value)} {st : List Value} (C : gC Ψ G (gXn nf) cc own nL ret fr lo v0 M0) (d : decode cc pc = .ok (.invokevirtual index, 3)) (hl : Cond.methodLink own index yX11_isLetter ∈ gws) (hR : 2 ≤ fr ∧ 40 ≤ lo) {r : Int32} (hr : X11_isLetter M = some r) (hcat : (st.map fun v => v.category).sum ≤ 8) (k : Ψ M (pc + 3) ls (.int r :: st)) : Ψ M pc ls (.ref (gad 50 0) :: st) := r_callV C [] st d (k_X11_isLetter hr) hl q1568 q44 q127 q1569 hd_X11_isLetter hR rfl (by decide) (e50 nf) rfl hcat k
theorem hd_X11_isDigit : yX11_isDigit.cls ≠ "java/lang/invoke/MethodHandle" ∧ yX11_isDigit.cls ≠ "java/lang/invoke/VarHandle" ∧ (parseMethodDescriptor yX11_isDigit.desc).map (fun d => d.parameters.length) = some 0 := by decide +kernel
noncomputable def X11_isDigit (M : gM) : Option Int32 := (X11_here M).bind (fun r_2 => (if r_2 < 48 then some 0 else (X11_here M).bind (fun r_5 => (if 57 < r_5 then some 0 else some 1))))
theorem k_X11_isDigit {G : gG5} {nf : Nat} {M : gM} {r : Int32} (hr : X11_isDigit M = some r) : gMet G (gXn nf) yX11_isDigit cX11_isDigit 1 (some .boolean) 1 20 M [.ref (gad 50 0)] (some (.int r)) M := by
  refine gMet_of pl_X11 rfl (Nat.le_of_ble_eq_true rfl) (fun Ψ C CR => ?_)
  show Ψ M 0 [(0, .ref (gad 50 0))] []
  refine r_aload_n (pc := 0) C dX11_isDigit_0 rfl 0 rfl ?_
  obtain ⟨r_2, hc_1, hr⟩ := gBind_some hr
  refine c_X11_here (pc := 1) C dX11_isDigit_1 q1562 ⟨Nat.le_of_ble_eq_true rfl, Nat.le_of_ble_eq_true rfl⟩ hc_1 (Nat.le_of_ble_eq_true rfl) ?_
  refine r_bipush (pc := 4) C dX11_isDigit_4 kb48 ?_
  refine r_icmp_lt (pc := 6) (tgt := 22) C dX11_isDigit_6 rfl (fun c_3 => ?_) (fun c_3 => ?_)
  · replace hr := (if_pos c_3).symm.trans hr
    refine r_iconst (pc := 22) C dX11_isDigit_22 ki0 ?_
    exact r_zret (pc := 23) CR dX11_isDigit_23 rfl (congrArg (fun z => some (Value.int z)) (gSome hr)) rfl
  · replace hr := (if_neg c_3).symm.trans hr
    refine r_aload_n (pc := 9) C dX11_isDigit_9 rfl 0 rfl ?_
    obtain ⟨r_5, hc_4, hr⟩ := gBind_some hr
    refine c_X11_here (pc := 10) C dX11_isDigit_10 q1562 ⟨Nat.le_of_ble_eq_true rfl, Nat.le_of_ble_eq_true rfl⟩ hc_4 (Nat.le_of_ble_eq_true rfl) ?_
    refine r_bipush (pc := 13) C dX11_isDigit_13 kb57 ?_
    refine r_icmp_gt (pc := 15) (tgt := 22) C dX11_isDigit_15 rfl (fun c_6 => ?_) (fun c_6 => ?_)
    · replace hr := (if_pos c_6).symm.trans hr
      refine r_iconst (pc := 22) C dX11_isDigit_22 ki0 ?_
      exact r_zret (pc := 23) CR dX11_isDigit_23 rfl (congrArg (fun z => some (Value.int z)) (gSome hr)) rfl
    · replace hr := (if_neg c_6).symm.trans hr
      refine r_iconst (pc := 18) C dX11_isDigit_18 ki1 ?_
      refine r_goto (pc := 19) (tgt := 23) C dX11_isDigit_19 rfl ?_
      exact r_zret (pc := 23) CR dX11_isDigit_23 rfl (congrArg (fun z => some (Value.int z)) (gSome hr)) rfl
theorem c_X11_isDigit {Ψ : gM → Nat → List (Nat × Value) → List Value → Prop} {G : gG5} {nf : Nat} {cc : ByteArray} {own : String} {nL : Nat} {ret : Option FieldType} {fr lo : Nat} {v0 : Option Value} {M0 M : gM} {pc index : Nat} {ls : List (Nat × Value)} {st : List Value} (C : gC Ψ G (gXn nf) cc own nL ret fr lo v0 M0) (d : decode cc pc = .ok (.invokevirtual index, 3)) (hl : Cond.methodLink own index yX11_isDigit ∈ gws) (hR : 2 ≤ fr ∧ 40 ≤ lo) {r : Int32} (hr : X11_isDigit M = some r) (hcat : (st.map fun v => v.category).sum ≤ 8) (k : Ψ M (pc + 3) ls (.int r :: st)) : Ψ M pc ls (.ref (gad 50 0) :: st) := r_callV C [] st d (k_X11_isDigit hr) hl q1593 q49 q127 q1594 hd_X11_isDigit hR rfl (by decide) (e50 nf) rfl hcat k
theorem hd_X11_wordAmong : yX11_wordAmong.cls ≠ "java/lang/invoke/MethodHandle" ∧ yX11_wordAmong.cls ≠ "java/lang/invoke/VarHandle" ∧ (parseMethodDescriptor yX11_wordAmong.desc).map (fun d => d.parameters.length) = some 3 := by decide +kernel
noncomputable def X11_wordAmong_L18 (i1 : Nat) (x2 : Int32) (x3 : Int32) (x4 : Int32) (x5 : Int32) (x6 : Int32) (M : gM) : Option (Int32 ⊕ Int32) := gG (gin (x5 + x6) (gTx i1).length) ((if (gTc i1 (Int32.toNatClampNeg (x5 + x6))) = 32 then some (.inr x6) else gLet (x6 + 1) (fun x6_4 => some (.inl x6_4))))
theorem t_X11_wordAmong_L18 {Ψ : gM → Nat → List (Nat × Value) → List Value → Prop} {G : gG5} {nf : Nat} {M : gM} {v0 : Option Value} {M0 : gM} {i1 : Nat} {x2 : Int32} {x3 : Int32} {x4 : Int32} {x5 : Int32} {x6 : Int32} {w : (Int32 ⊕ Int32)} (C : gC Ψ G (gXn nf) cX11_wordAmong RX11 9 (some .int) 6 141 v0 M0) (h1 : i1 < 2) (hr : X11_wordAmong_L18 i1 x2 x3 x4 x5 x6 M = some w) (hn : ∀ s, w = .inl s → Ψ M 18 [(0, .ref (gad 50 0)), (1, .ref (gad 62 i1)), (2, .int x2), (3, .int x3), (4, .int x4), (5, .int x5), (6, .int s)] []) (hx : ∀ e, w = .inr e → (fun e => Ψ M 38 [(0, .ref (gad 50 0)), (1, .ref (gad 62 i1)), (2, .int x2), (3, .int x3), (4, .int x4), (5, .int x5), (6, .int e)] []) e) : Ψ M 18 [(0, .ref (gad 50 0)), (1, .ref (gad 62 i1)), (2, .int x2), (3, .int x3), (4, .int x4), (5, .int x5), (6, .int x6)] [] := by
  refine r_aload_n (pc := 18) C dX11_wordAmong_18 rfl 1 rfl ?_
  refine r_iload (pc := 19) C dX11_wordAmong_19 5 rfl ?_
  refine r_iload (pc := 21) C dX11_wordAmong_21 6 rfl ?_
  refine r_iadd (pc := 23) C dX11_wordAmong_23 ?_
  obtain ⟨g_2, hr⟩ := gG_some hr
  refine r_charAt (pc := 24) C dX11_wordAmong_24 q1575 h1 g_2 (by decide) (Nat.le_of_ble_eq_true rfl) ?_
  refine r_bipush (pc := 27) C dX11_wordAmong_27 kb32 ?_
  refine r_icmp_eq (pc := 29) (tgt := 38) C dX11_wordAmong_29 rfl (fun c_3 => ?_) (fun c_3 => ?_)
  · replace hr := (if_pos c_3).symm.trans hr
    exact hx x6 (gSome hr)
  · replace hr := (if_neg c_3).symm.trans hr
    obtain ⟨x6_4, ex6_4, hr⟩ := gLet_some hr
    refine r_iinc (pc := 32) C dX11_wordAmong_32 6 rfl rfl (by decide) ex6_4 (ls' := [(6, .int x6_4), (0, .ref (gad 50 0)), (1, .ref (gad 62 i1)), (2, .int x2), (3, .int x3), (4, .int x4), (5, .int x5)]) rfl ?_
    refine r_goto (pc := 35) (tgt := 18) C dX11_wordAmong_35 rfl ?_
    refine r_sub C [1, 2, 3, 4, 5, 6, 0] (ls' := [(0, .ref (gad 50 0)), (1, .ref (gad 62 i1)), (2, .int x2), (3, .int x3), (4, .int x4), (5, .int x5), (6, .int x6_4)]) rfl ?_
    exact hn x6_4 (gSome hr)
noncomputable def X11_wordAmong_L56 (i1 : Nat) (x2 : Int32) (x3 : Int32) (x4 : Int32) (x5 : Int32) (x6 : Int32) (x7 : Int32) (x8 : Int32) (M : gM) : Option ((Int32 × Int32) ⊕ Int32) := (if x6 ≤ x8 then some (.inr x7) else (if x7 = 0 then some (.inr x7) else gG (gin (x5 + x8) (gTx i1).length) (gG (gin (x2 + x8) 480) ((if (gTc i1 (Int32.toNatClampNeg (x5 + x8))) = (M.1 51 0 (Int32.toNatClampNeg (x2 + x8))) then gLet (x8 + 1) (fun x8_13 => some (.inl (1, x8_13))) else gLet (x8 + 1) (fun x8_12 => some (.inl (0, x8_12))))))))
theorem t_X11_wordAmong_L56 {Ψ : gM → Nat → List (Nat × Value) → List Value → Prop} {G : gG5} {nf : Nat} {M : gM} {v0 : Option Value} {M0 : gM} {i1 : Nat} {x2 : Int32} {x3 : Int32} {x4 : Int32} {x5 : Int32} {x6 : Int32} {x7 : Int32} {x8 : Int32} {w : ((Int32 × Int32) ⊕ Int32)} (C : gC Ψ G (gXn nf) cX11_wordAmong RX11 9 (some .int) 6 141 v0 M0) (h1 : i1 < 2) (hr : X11_wordAmong_L56 i1 x2 x3 x4 x5 x6 x7 x8 M = some w) (hn : ∀ s, w = .inl s → Ψ M 56 [(0, .ref (gad 50 0)), (1, .ref (gad 62 i1)), (2, .int x2), (3, .int x3), (4, .int x4), (5, .int x5), (6, .int x6), (7, .int (s.1)), (8, .int (s.2))] []) (hx : ∀ e, w = .inr e → (fun e => Ψ M 102 [(0, .ref (gad 50 0)), (1, .ref (gad 62 i1)), (2, .int x2), (3, .int x3), (4, .int x4), (5, .int x5), (6, .int x6), (7, .int e)] []) e) : Ψ M 56 [(0, .ref (gad 50 0)), (1, .ref (gad 62 i1)), (2, .int x2), (3, .int x3), (4, .int x4), (5, .int x5), (6, .int x6), (7, .int x7), (8, .int x8)] [] := by
  refine r_iload (pc := 56) C dX11_wordAmong_56 8 rfl ?_
  refine r_iload (pc := 58) C dX11_wordAmong_58 6 rfl ?_
  refine r_icmp_ge (pc := 60) (tgt := 102) C dX11_wordAmong_60 rfl (fun c_7 => ?_) (fun c_7 => ?_)
  · replace hr := (if_pos c_7).symm.trans hr
    refine r_sub C [0, 1, 2, 3, 4, 5, 6, 7] (ls' := [(0, .ref (gad 50 0)), (1, .ref (gad 62 i1)), (2, .int x2), (3, .int x3), (4, .int x4), (5, .int x5), (6, .int x6), (7, .int x7)]) rfl ?_
    exact hx x7 (gSome hr)
  · replace hr := (if_neg c_7).symm.trans hr
    refine r_iload (pc := 63) C dX11_wordAmong_63 7 rfl ?_
    refine r_if_eq (pc := 65) (tgt := 102) C dX11_wordAmong_65 rfl (fun c_8 => ?_) (fun c_8 => ?_)
    · replace hr := (if_pos c_8).symm.trans hr
      refine r_sub C [0, 1, 2, 3, 4, 5, 6, 7] (ls' := [(0, .ref (gad 50 0)), (1, .ref (gad 62 i1)), (2, .int x2), (3, .int x3), (4, .int x4), (5, .int x5), (6, .int x6), (7, .int x7)]) rfl ?_
      exact hx x7 (gSome hr)
    · replace hr := (if_neg c_8).symm.trans hr
      refine r_aload_n (pc := 68) C dX11_wordAmong_68 rfl 1 rfl ?_
      refine r_iload (pc := 69) C dX11_wordAmong_69 5 rfl ?_
      refine r_iload (pc := 71) C dX11_wordAmong_71 8 rfl ?_
      refine r_iadd (pc := 73) C dX11_wordAmong_73 ?_
      obtain ⟨g_9, hr⟩ := gG_some hr
      refine r_charAt (pc := 74) C dX11_wordAmong_74 q1575 h1 g_9 (by decide) (Nat.le_of_ble_eq_true rfl) ?_
      refine r_aload_n (pc := 77) C dX11_wordAmong_77 rfl 0 rfl ?_
      refine g50_1 (pc := 78) C dX11_wordAmong_78 q1401 (e50 nf) ?_
      refine r_iload_n (pc := 81) C dX11_wordAmong_81 rfl 2 rfl ?_
      refine r_iload (pc := 82) C dX11_wordAmong_82 8 rfl ?_
      refine r_iadd (pc := 84) C dX11_wordAmong_84 ?_
      obtain ⟨g_10, hr⟩ := gG_some hr
      refine r_baldN (pc := 85) C dX11_wordAmong_85 rfl (e51 nf) g_10 rfl ?_
      refine r_icmp_ne (pc := 86) (tgt := 93) C dX11_wordAmong_86 rfl (fun c_11 => ?_) (fun c_11 => ?_)
      · replace hr := (if_neg c_11).symm.trans hr
        refine r_iconst (pc := 93) C dX11_wordAmong_93 ki0 ?_
        refine r_istore (pc := 94) C dX11_wordAmong_94 (by decide) rfl (ls' := [(7, .int 0), (0, .ref (gad 50 0)), (1, .ref (gad 62 i1)), (2, .int x2), (3, .int x3), (4, .int x4), (5, .int x5), (6, .int x6), (8, .int x8)]) rfl ?_
        obtain ⟨x8_12, ex8_12, hr⟩ := gLet_some hr
        refine r_iinc (pc := 96) C dX11_wordAmong_96 8 rfl rfl (by decide) ex8_12 (ls' := [(8, .int x8_12), (7, .int 0), (0, .ref (gad 50 0)), (1, .ref (gad 62 i1)), (2, .int x2), (3, .int x3), (4, .int x4), (5, .int x5), (6, .int x6)]) rfl ?_
        refine r_goto (pc := 99) (tgt := 56) C dX11_wordAmong_99 rfl ?_
        refine r_sub C [2, 3, 4, 5, 6, 7, 8, 1, 0] (ls' := [(0, .ref (gad 50 0)), (1, .ref (gad 62 i1)), (2, .int x2), (3, .int x3), (4, .int x4), (5, .int x5), (6, .int x6), (7, .int 0), (8, .int x8_12)]) rfl ?_
        exact hn (0, x8_12) (gSome hr)
      · replace hr := (if_pos c_11).symm.trans hr
        refine r_iconst (pc := 89) C dX11_wordAmong_89 ki1 ?_
        refine r_goto (pc := 90) (tgt := 94) C dX11_wordAmong_90 rfl ?_
        refine r_istore (pc := 94) C dX11_wordAmong_94 (by decide) rfl (ls' := [(7, .int 1), (0, .ref (gad 50 0)), (1, .ref (gad 62 i1)), (2, .int x2), (3, .int x3), (4, .int x4), (5, .int x5), (6, .int x6), (8, .int x8)]) rfl ?_
        obtain ⟨x8_13, ex8_13, hr⟩ := gLet_some hr
        refine r_iinc (pc := 96) C dX11_wordAmong_96 8 rfl rfl (by decide) ex8_13 (ls' := [(8, .int x8_13), (7, .int 1), (0, .ref (gad 50 0)), (1, .ref (gad 62 i1)), (2, .int x2), (3, .int x3), (4, .int x4), (5, .int x5), (6, .int x6)]) rfl ?_
        refine r_goto (pc := 99) (tgt := 56) C dX11_wordAmong_99 rfl ?_
        refine r_sub C [2, 3, 4, 5, 6, 7, 8, 1, 0] (ls' := [(0, .ref (gad 50 0)), (1, .ref (gad 62 i1)), (2, .int x2), (3, .int x3), (4, .int x4), (5, .int x5), (6, .int x6), (7, .int 1), (8, .int x8_13)]) rfl ?_
        exact hn (1, x8_13) (gSome hr)
noncomputable def X11_wordAmong_L6 (i1 : Nat) (x2 : Int32) (x3 : Int32) (x4 : Int32) (x5 : Int32) (M : gM) : Option ((Int32 × Int32) ⊕ (Int32 ⊕ Unit)) := (if (gTl i1) ≤ x5 then some (.inr (.inr ())) else (gIter (fun s => X11_wordAmong_L18 i1 x2 x3 x4 x5 s M) FU 0).bind (fun x6_5 => (if x6_5 = (x3 - x2) then (gIter (fun s => X11_wordAmong_L56 i1 x2 x3 x4 x5 x6_5 s.1 s.2 M) FU (1, 0)).bind (fun x7_18 => (if x7_18 = 0 then gLet (x4 + 1) (fun x4_20 => gLet ((x5 + (x6_5 + 1))) (fun x5_21 => some (.inl (x4_20, x5_21)))) else some (.inr (.inl x4)))) else (gIter (fun s => X11_wordAmong_L56 i1 x2 x3 x4 x5 x6_5 s.1 s.2 M) FU (0, 0)).bind (fun x7_14 => (if x7_14 = 0 then gLet (x4 + 1) (fun x4_16 => gLet ((x5 + (x6_5 + 1))) (fun x5_17 => some (.inl (x4_16, x5_17)))) else some (.inr (.inl x4)))))))
theorem t_X11_wordAmong_L6 {Ψ : gM → Nat → List (Nat × Value) → List Value → Prop} {G : gG5} {nf : Nat} {M : gM} {v0 : Option Value} {M0 : gM} {i1 : Nat} {x2 : Int32} {x3 : Int32} {x4 : Int32} {x5 : Int32} {w : ((Int32 × Int32) ⊕ (Int32 ⊕ Unit))} (C : gC Ψ G (gXn nf) cX11_wordAmong RX11 9 (some .int) 6 141 v0 M0) (h1 : i1 < 2) (hr : X11_wordAmong_L6 i1 x2 x3 x4 x5 M = some w) (hn : ∀ s, w = .inl s → Ψ M 6 [(0, .ref (gad 50 0)), (1, .ref (gad 62 i1)), (2, .int x2), (3, .int x3), (4, .int (s.1)), (5, .int (s.2))] []) (hx : ∀ e, w = .inr e → (gSP (fun e => Ψ M 107 [(4, .int e)] []) (fun e => Ψ M 125 [] [])) e) : Ψ M 6 [(0, .ref (gad 50 0)), (1, .ref (gad 62 i1)), (2, .int x2), (3, .int x3), (4, .int x4), (5, .int x5)] [] := by
  refine r_iload (pc := 6) C dX11_wordAmong_6 5 rfl ?_
  refine r_aload_n (pc := 8) C dX11_wordAmong_8 rfl 1 rfl ?_
  refine r_strlen (pc := 9) C dX11_wordAmong_9 q1574 h1 (by decide) (Nat.le_of_ble_eq_true rfl) ?_
  refine r_icmp_ge (pc := 12) (tgt := 125) C dX11_wordAmong_12 rfl (fun c_1 => ?_) (fun c_1 => ?_)
  · replace hr := (if_pos c_1).symm.trans hr
    refine r_sub C [] (ls' := []) rfl ?_
    exact hx (.inr ()) (gSome hr)
  · replace hr := (if_neg c_1).symm.trans hr
    refine r_iconst (pc := 15) C dX11_wordAmong_15 ki0 ?_
    refine r_istore (pc := 16) C dX11_wordAmong_16 (by decide) rfl (ls' := [(6, .int 0), (0, .ref (gad 50 0)), (1, .ref (gad 62 i1)), (2, .int x2), (3, .int x3), (4, .int x4), (5, .int x5)]) rfl ?_
    refine r_sub C [1, 2, 3, 4, 5, 6, 0] (ls' := [(0, .ref (gad 50 0)), (1, .ref (gad 62 i1)), (2, .int x2), (3, .int x3), (4, .int x4), (5, .int x5), (6, .int 0)]) rfl ?_
    obtain ⟨ev, hit, hr⟩ := gBind_some hr
    refine gIter_V (step := fun s => X11_wordAmong_L18 i1 x2 x3 x4 x5 s M) (P := fun s => Ψ M 18 [(0, .ref (gad 50 0)), (1, .ref (gad 62 i1)), (2, .int x2), (3, .int x3), (4, .int x4), (5, .int x5), (6, .int s)] []) (K := (fun e => Ψ M 38 [(0, .ref (gad 50 0)), (1, .ref (gad 62 i1)), (2, .int x2), (3, .int x3), (4, .int x4), (5, .int x5), (6, .int e)] [])) (fun s w hs hn hx => t_X11_wordAmong_L18 C h1 hs hn hx) FU 0 ev hit ?_
    obtain ⟨x6_5, rfl⟩ : ∃ z, z = ev := ⟨_, rfl⟩
    show Ψ M 38 [(0, .ref (gad 50 0)), (1, .ref (gad 62 i1)), (2, .int x2), (3, .int x3), (4, .int x4), (5, .int x5), (6, .int x6_5)] []
    refine r_iload (pc := 38) C dX11_wordAmong_38 6 rfl ?_
    refine r_iload_n (pc := 40) C dX11_wordAmong_40 rfl 3 rfl ?_
    refine r_iload_n (pc := 41) C dX11_wordAmong_41 rfl 2 rfl ?_
    refine r_isub (pc := 42) C dX11_wordAmong_42 ?_
    refine r_icmp_ne (pc := 43) (tgt := 50) C dX11_wordAmong_43 rfl (fun c_6 => ?_) (fun c_6 => ?_)
    · replace hr := (if_neg c_6).symm.trans hr
      refine r_iconst (pc := 50) C dX11_wordAmong_50 ki0 ?_
      refine r_istore (pc := 51) C dX11_wordAmong_51 (by decide) rfl (ls' := [(7, .int 0), (0, .ref (gad 50 0)), (1, .ref (gad 62 i1)), (2, .int x2), (3, .int x3), (4, .int x4), (5, .int x5), (6, .int x6_5)]) rfl ?_
      refine r_iconst (pc := 53) C dX11_wordAmong_53 ki0 ?_
      refine r_istore (pc := 54) C dX11_wordAmong_54 (by decide) rfl (ls' := [(8, .int 0), (7, .int 0), (0, .ref (gad 50 0)), (1, .ref (gad 62 i1)), (2, .int x2), (3, .int x3), (4, .int x4), (5, .int x5), (6, .int x6_5)]) rfl ?_
      refine r_sub C [2, 3, 4, 5, 6, 7, 8, 1, 0] (ls' := [(0, .ref (gad 50 0)), (1, .ref (gad 62 i1)), (2, .int x2), (3, .int x3), (4, .int x4), (5, .int x5), (6, .int x6_5), (7, .int 0), (8, .int 0)]) rfl ?_
      obtain ⟨ev, hit, hr⟩ := gBind_some hr
      refine gIter_V (step := fun s => X11_wordAmong_L56 i1 x2 x3 x4 x5 x6_5 s.1 s.2 M) (P := fun s => Ψ M 56 [(0, .ref (gad 50 0)), (1, .ref (gad 62 i1)), (2, .int x2), (3, .int x3), (4, .int x4), (5, .int x5), (6, .int x6_5), (7, .int (s.1)), (8, .int (s.2))] []) (K := (fun e => Ψ M 102 [(0, .ref (gad 50 0)), (1, .ref (gad 62 i1)), (2, .int x2), (3, .int x3), (4, .int x4), (5, .int x5), (6, .int x6_5), (7, .int e)] [])) (fun s w hs hn hx => t_X11_wordAmong_L56 C h1 hs hn hx) FU (0, 0) ev hit ?_
      obtain ⟨x7_14, rfl⟩ : ∃ z, z = ev := ⟨_, rfl⟩
      show Ψ M 102 [(0, .ref (gad 50 0)), (1, .ref (gad 62 i1)), (2, .int x2), (3, .int x3), (4, .int x4), (5, .int x5), (6, .int x6_5), (7, .int x7_14)] []
      refine r_iload (pc := 102) C dX11_wordAmong_102 7 rfl ?_
      refine r_if_eq (pc := 104) (tgt := 110) C dX11_wordAmong_104 rfl (fun c_15 => ?_) (fun c_15 => ?_)
      · replace hr := (if_pos c_15).symm.trans hr
        obtain ⟨x4_16, ex4_16, hr⟩ := gLet_some hr
        refine r_iinc (pc := 110) C dX11_wordAmong_110 4 rfl rfl (by decide) ex4_16 (ls' := [(4, .int x4_16), (0, .ref (gad 50 0)), (1, .ref (gad 62 i1)), (2, .int x2), (3, .int x3), (5, .int x5), (6, .int x6_5), (7, .int x7_14)]) rfl ?_
        refine r_iload (pc := 113) C dX11_wordAmong_113 5 rfl ?_
        refine r_iload (pc := 115) C dX11_wordAmong_115 6 rfl ?_
        refine r_iconst (pc := 117) C dX11_wordAmong_117 ki1 ?_
        refine r_iadd (pc := 118) C dX11_wordAmong_118 ?_
        refine r_iadd (pc := 119) C dX11_wordAmong_119 ?_
        obtain ⟨x5_17, ex5_17, hr⟩ := gLet_some hr
        refine r_istore (pc := 120) C dX11_wordAmong_120 (by decide) ex5_17 (ls' := [(5, .int x5_17), (4, .int x4_16), (0, .ref (gad 50 0)), (1, .ref (gad 62 i1)), (2, .int x2), (3, .int x3), (6, .int x6_5), (7, .int x7_14)]) rfl ?_
        refine r_goto (pc := 122) (tgt := 6) C dX11_wordAmong_122 rfl ?_
        refine r_sub C [2, 3, 4, 5, 1, 0] (ls' := [(0, .ref (gad 50 0)), (1, .ref (gad 62 i1)), (2, .int x2), (3, .int x3), (4, .int x4_16), (5, .int x5_17)]) rfl ?_
        exact hn (x4_16, x5_17) (gSome hr)
      · replace hr := (if_neg c_15).symm.trans hr
        refine r_sub C [4] (ls' := [(4, .int x4)]) rfl ?_
        exact hx (.inl x4) (gSome hr)
    · replace hr := (if_pos c_6).symm.trans hr
      refine r_iconst (pc := 46) C dX11_wordAmong_46 ki1 ?_
      refine r_goto (pc := 47) (tgt := 51) C dX11_wordAmong_47 rfl ?_
      refine r_istore (pc := 51) C dX11_wordAmong_51 (by decide) rfl (ls' := [(7, .int 1), (0, .ref (gad 50 0)), (1, .ref (gad 62 i1)), (2, .int x2), (3, .int x3), (4, .int x4), (5, .int x5), (6, .int x6_5)]) rfl ?_
      refine r_iconst (pc := 53) C dX11_wordAmong_53 ki0 ?_
      refine r_istore (pc := 54) C dX11_wordAmong_54 (by decide) rfl (ls' := [(8, .int 0), (7, .int 1), (0, .ref (gad 50 0)), (1, .ref (gad 62 i1)), (2, .int x2), (3, .int x3), (4, .int x4), (5, .int x5), (6, .int x6_5)]) rfl ?_
      refine r_sub C [2, 3, 4, 5, 6, 7, 8, 1, 0] (ls' := [(0, .ref (gad 50 0)), (1, .ref (gad 62 i1)), (2, .int x2), (3, .int x3), (4, .int x4), (5, .int x5), (6, .int x6_5), (7, .int 1), (8, .int 0)]) rfl ?_
      obtain ⟨ev, hit, hr⟩ := gBind_some hr
      refine gIter_V (step := fun s => X11_wordAmong_L56 i1 x2 x3 x4 x5 x6_5 s.1 s.2 M) (P := fun s => Ψ M 56 [(0, .ref (gad 50 0)), (1, .ref (gad 62 i1)), (2, .int x2), (3, .int x3), (4, .int x4), (5, .int x5), (6, .int x6_5), (7, .int (s.1)), (8, .int (s.2))] []) (K := (fun e => Ψ M 102 [(0, .ref (gad 50 0)), (1, .ref (gad 62 i1)), (2, .int x2), (3, .int x3), (4, .int x4), (5, .int x5), (6, .int x6_5), (7, .int e)] [])) (fun s w hs hn hx => t_X11_wordAmong_L56 C h1 hs hn hx) FU (1, 0) ev hit ?_
      obtain ⟨x7_18, rfl⟩ : ∃ z, z = ev := ⟨_, rfl⟩
      show Ψ M 102 [(0, .ref (gad 50 0)), (1, .ref (gad 62 i1)), (2, .int x2), (3, .int x3), (4, .int x4), (5, .int x5), (6, .int x6_5), (7, .int x7_18)] []
      refine r_iload (pc := 102) C dX11_wordAmong_102 7 rfl ?_
      refine r_if_eq (pc := 104) (tgt := 110) C dX11_wordAmong_104 rfl (fun c_19 => ?_) (fun c_19 => ?_)
      · replace hr := (if_pos c_19).symm.trans hr
        obtain ⟨x4_20, ex4_20, hr⟩ := gLet_some hr
        refine r_iinc (pc := 110) C dX11_wordAmong_110 4 rfl rfl (by decide) ex4_20 (ls' := [(4, .int x4_20), (0, .ref (gad 50 0)), (1, .ref (gad 62 i1)), (2, .int x2), (3, .int x3), (5, .int x5), (6, .int x6_5), (7, .int x7_18)]) rfl ?_
        refine r_iload (pc := 113) C dX11_wordAmong_113 5 rfl ?_
        refine r_iload (pc := 115) C dX11_wordAmong_115 6 rfl ?_
        refine r_iconst (pc := 117) C dX11_wordAmong_117 ki1 ?_
        refine r_iadd (pc := 118) C dX11_wordAmong_118 ?_
        refine r_iadd (pc := 119) C dX11_wordAmong_119 ?_
        obtain ⟨x5_21, ex5_21, hr⟩ := gLet_some hr
        refine r_istore (pc := 120) C dX11_wordAmong_120 (by decide) ex5_21 (ls' := [(5, .int x5_21), (4, .int x4_20), (0, .ref (gad 50 0)), (1, .ref (gad 62 i1)), (2, .int x2), (3, .int x3), (6, .int x6_5), (7, .int x7_18)]) rfl ?_
        refine r_goto (pc := 122) (tgt := 6) C dX11_wordAmong_122 rfl ?_
        refine r_sub C [2, 3, 4, 5, 1, 0] (ls' := [(0, .ref (gad 50 0)), (1, .ref (gad 62 i1)), (2, .int x2), (3, .int x3), (4, .int x4_20), (5, .int x5_21)]) rfl ?_
        exact hn (x4_20, x5_21) (gSome hr)
      · replace hr := (if_neg c_19).symm.trans hr
        refine r_sub C [4] (ls' := [(4, .int x4)]) rfl ?_
        exact hx (.inl x4) (gSome hr)
noncomputable def X11_wordAmong (i1 : Nat) (p2 : Int32) (p3 : Int32) (M : gM) : Option Int32 := (gIter (fun s => X11_wordAmong_L6 i1 p2 p3 s.1 s.2 M) FU (0, 0)).bind (gS2 (fun x4_22 => some x4_22) (fun _ => some (-1)))
theorem k_X11_wordAmong {G : gG5} {nf : Nat} {M : gM} {i1 : Nat} {p2 : Int32} {p3 : Int32} (h1 : i1 < 2) {r : Int32} (hr : X11_wordAmong i1 p2 p3 M = some r) : gMet G (gXn nf) yX11_wordAmong cX11_wordAmong 9 (some .int) 6 141 M [.ref (gad 50 0), .ref (gad 62 i1), .int p2, .int p3] (some (.int r)) M := by
  refine gMet_of pl_X11 rfl (Nat.le_of_ble_eq_true rfl) (fun Ψ C CR => ?_)
  show Ψ M 0 [(0, .ref (gad 50 0)), (1, .ref (gad 62 i1)), (2, .int p2), (3, .int p3)] []
  refine r_iconst (pc := 0) C dX11_wordAmong_0 ki0 ?_
  refine r_istore (pc := 1) C dX11_wordAmong_1 (by decide) rfl (ls' := [(4, .int 0), (0, .ref (gad 50 0)), (1, .ref (gad 62 i1)), (2, .int p2), (3, .int p3)]) rfl ?_
  refine r_iconst (pc := 3) C dX11_wordAmong_3 ki0 ?_
  refine r_istore (pc := 4) C dX11_wordAmong_4 (by decide) rfl (ls' := [(5, .int 0), (4, .int 0), (0, .ref (gad 50 0)), (1, .ref (gad 62 i1)), (2, .int p2), (3, .int p3)]) rfl ?_
  refine r_sub C [2, 3, 4, 5, 1, 0] (ls' := [(0, .ref (gad 50 0)), (1, .ref (gad 62 i1)), (2, .int p2), (3, .int p3), (4, .int 0), (5, .int 0)]) rfl ?_
  obtain ⟨ev, hit, hr⟩ := gBind_some hr
  refine gIter_V (step := fun s => X11_wordAmong_L6 i1 p2 p3 s.1 s.2 M) (P := fun s => Ψ M 6 [(0, .ref (gad 50 0)), (1, .ref (gad 62 i1)), (2, .int p2), (3, .int p3), (4, .int (s.1)), (5, .int (s.2))] []) (K := (gSP (fun e => Ψ M 107 [(4, .int e)] []) (fun e => Ψ M 125 [] []))) (fun s w hs hn hx => t_X11_wordAmong_L6 C h1 hs hn hx) FU (0, 0) ev hit ?_
  rcases ev with x4_22 | _
  · replace hr := gS2_l hr
    show Ψ M 107 [(4, .int x4_22)] []
    refine r_iload (pc := 107) C dX11_wordAmong_107 0 rfl ?_
    exact r_iret (pc := 109) CR dX11_wordAmong_109 (congrArg (fun z => some (Value.int z)) (gSome hr)) rfl
  · replace hr := gS2_r hr
    show Ψ M 125 [] []
    refine r_iconst (pc := 125) C dX11_wordAmong_125 kim1 ?_
    exact r_iret (pc := 126) CR dX11_wordAmong_126 (congrArg (fun z => some (Value.int z)) (gSome hr)) rfl
theorem c_X11_wordAmong {Ψ : gM → Nat → List (Nat × Value) → List Value → Prop} {G : gG5} {nf : Nat} {cc : ByteArray} {own : String} {nL : Nat} {ret : Option FieldType} {fr lo : Nat} {v0 : Option Value} {M0 M : gM} {pc index : Nat} {ls : List (Nat × Value)} {st : List Value} (C : gC Ψ G (gXn nf) cc own nL ret fr lo v0 M0) (d : decode cc pc = .ok (.invokevirtual index, 3)) (hl : Cond.methodLink own index yX11_wordAmong ∈ gws) (hR : 7 ≤ fr ∧ 169 ≤ lo) {i1 : Nat} {p2 : Int32} {p3 : Int32} (h1 : i1 < 2) {r : Int32} (hr : X11_wordAmong i1 p2 p3 M = some r) (hcat : (st.map fun v => v.category).sum ≤ 8) (k : Ψ M (pc + 3) ls (.int r :: st)) : Ψ M pc ls (.int p3 :: .int p2 :: .ref (gad 62 i1) :: .ref (gad 50 0) :: st) := r_callV C [.ref (gad 62 i1), .int p2, .int p3] st d (k_X11_wordAmong h1 hr) hl q1572 q45 q127 q1573 hd_X11_wordAmong hR rfl (by decide) (e50 nf) rfl hcat k
theorem hd_X11_word : yX11_word.cls ≠ "java/lang/invoke/MethodHandle" ∧ yX11_word.cls ≠ "java/lang/invoke/VarHandle" ∧ (parseMethodDescriptor yX11_word.desc).map (fun d => d.parameters.length) = some 1 := by decide +kernel
noncomputable def X11_word_L13 (i1 : Nat) (M : gM) : Option (gM ⊕ gM) := (X11_isLetter M).bind (fun r_6 => (if r_6 = 0 then some (.inr M) else gLet (wI M 50 0 3 ((M.1 50 0 3) + 1)) (fun M_8 => some (.inl M_8))))
theorem t_X11_word_L13 {Ψ : gM → Nat → List (Nat × Value) → List Value → Prop} {G : gG5} {nf : Nat} {M : gM} {v0 : Option Value} {M0 : gM} {i1 : Nat} {w : (gM ⊕ gM)} (C : gC Ψ G (gXn nf) cX11_word RX11 3 (some .int) 7 169 v0 M0) (h1 : i1 < 2) (hr : X11_word_L13 i1 M = some w) (hn : ∀ s, w = .inl s → Ψ s 13 [(0, .ref (gad 50 0)), (1, .ref (gad 62 i1))] []) (hx : ∀ e, w = .inr e → (fun e => Ψ e 33 [(0, .ref (gad 50 0)), (1, .ref (gad 62 i1))] []) e) : Ψ M 13 [(0, .ref (gad 50 0)), (1, .ref (gad 62 i1))] [] := by
  refine r_aload_n (pc := 13) C dX11_word_13 rfl 0 rfl ?_
  obtain ⟨r_6, hc_5, hr⟩ := gBind_some hr
  refine c_X11_isLetter (pc := 14) C dX11_word_14 q1566 ⟨Nat.le_of_ble_eq_true rfl, Nat.le_of_ble_eq_true rfl⟩ hc_5 (Nat.le_of_ble_eq_true rfl) ?_
  refine r_if_eq (pc := 17) (tgt := 33) C dX11_word_17 rfl (fun c_7 => ?_) (fun c_7 => ?_)
  · replace hr := (if_pos c_7).symm.trans hr
    exact hx M (gSome hr)
  · replace hr := (if_neg c_7).symm.trans hr
    refine r_aload_n (pc := 20) C dX11_word_20 rfl 0 rfl ?_
    refine r_dup (pc := 21) C dX11_word_21 rfl ?_
    refine g50_3 (pc := 22) C dX11_word_22 q1403 (e50 nf) ?_
    refine r_iconst (pc := 25) C dX11_word_25 ki1 ?_
    refine r_iadd (pc := 26) C dX11_word_26 ?_
    obtain ⟨M_8, eM_8, hr⟩ := gLet_some hr
    refine p50_3 (pc := 27) C dX11_word_27 q1403 (e50 nf) eM_8 ?_
    refine r_goto (pc := 30) (tgt := 13) C dX11_word_30 rfl ?_
    exact hn M_8 (gSome hr)
noncomputable def X11_word (i1 : Nat) (M : gM) : Option (Int32 × gM) := (X11_look M).bind (gU2 (fun r_2 M_3 => gLet (wI M_3 50 0 5 (M_3.1 50 0 3)) (fun M_4 => (gIter (fun s => X11_word_L13 i1 s) FU M_4).bind (fun M_9 => (X11_wordAmong i1 (M_9.1 50 0 5) (M_9.1 50 0 3) M_9).bind (fun r_11 => some (r_11, M_9))))))
theorem k_X11_word {G : gG5} {nf : Nat} {M : gM} {i1 : Nat} (h1 : i1 < 2) {r : Int32} {M1 : gM} (hr : X11_word i1 M = some (r, M1)) : gMet G (gXn nf) yX11_word cX11_word 3 (some .int) 7 169 M [.ref (gad 50 0), .ref (gad 62 i1)] (some (.int r)) M1 := by
  refine gMet_of pl_X11 rfl (Nat.le_of_ble_eq_true rfl) (fun Ψ C CR => ?_)
  show Ψ M 0 [(0, .ref (gad 50 0)), (1, .ref (gad 62 i1))] []
  refine r_aload_n (pc := 0) C dX11_word_0 rfl 0 rfl ?_
  obtain ⟨⟨r_2, M_3⟩, hc_1, hr⟩ := gBind_some hr
  replace hr := gU2_some hr
  refine c_X11_look (pc := 1) C dX11_word_1 q1558 ⟨Nat.le_of_ble_eq_true rfl, Nat.le_of_ble_eq_true rfl⟩ hc_1 (Nat.le_of_ble_eq_true rfl) ?_
  refine r_istore_n (pc := 4) C dX11_word_4 rfl (by decide) rfl (ls' := [(2, .int r_2), (0, .ref (gad 50 0)), (1, .ref (gad 62 i1))]) rfl ?_
  refine r_aload_n (pc := 5) C dX11_word_5 rfl 1 rfl ?_
  refine r_aload_n (pc := 6) C dX11_word_6 rfl 1 rfl ?_
  refine g50_3 (pc := 7) C dX11_word_7 q1403 (e50 nf) ?_
  obtain ⟨M_4, eM_4, hr⟩ := gLet_some hr
  refine p50_5 (pc := 10) C dX11_word_10 q1405 (e50 nf) eM_4 ?_
  refine r_sub C [1, 2] (ls' := [(0, .ref (gad 50 0)), (1, .ref (gad 62 i1))]) rfl ?_
  obtain ⟨ev, hit, hr⟩ := gBind_some hr
  refine gIter_V (step := fun s => X11_word_L13 i1 s) (P := fun s => Ψ s 13 [(0, .ref (gad 50 0)), (1, .ref (gad 62 i1))] []) (K := (fun e => Ψ e 33 [(0, .ref (gad 50 0)), (1, .ref (gad 62 i1))] [])) (fun s w hs hn hx => t_X11_word_L13 C h1 hs hn hx) FU M_4 ev hit ?_
  obtain ⟨M_9, rfl⟩ : ∃ z, z = ev := ⟨_, rfl⟩
  show Ψ M_9 33 [(0, .ref (gad 50 0)), (1, .ref (gad 62 i1))] []
  refine r_aload_n (pc := 33) C dX11_word_33 rfl 0 rfl ?_
  refine r_aload_n (pc := 34) C dX11_word_34 rfl 1 rfl ?_
  refine r_aload_n (pc := 35) C dX11_word_35 rfl 0 rfl ?_
  refine g50_5 (pc := 36) C dX11_word_36 q1405 (e50 nf) ?_
  refine r_aload_n (pc := 39) C dX11_word_39 rfl 0 rfl ?_
  refine g50_3 (pc := 40) C dX11_word_40 q1403 (e50 nf) ?_
  obtain ⟨r_11, hc_10, hr⟩ := gBind_some hr
  refine c_X11_wordAmong (pc := 43) C dX11_word_43 q1570 ⟨Nat.le_of_ble_eq_true rfl, Nat.le_of_ble_eq_true rfl⟩ h1 hc_10 (Nat.le_of_ble_eq_true rfl) ?_
  exact r_iret (pc := 46) CR dX11_word_46 (congrArg (fun z => some (Value.int z)) (Prod.mk.inj (gSome hr)).1) (Prod.mk.inj (gSome hr)).2
theorem c_X11_word {Ψ : gM → Nat → List (Nat × Value) → List Value → Prop} {G : gG5} {nf : Nat} {cc : ByteArray} {own : String} {nL : Nat} {ret : Option FieldType} {fr lo : Nat} {v0 : Option Value} {M0 M : gM} {pc index : Nat} {ls : List (Nat × Value)} {st : List Value} (C : gC Ψ G (gXn nf) cc own nL ret fr lo v0 M0) (d : decode cc pc = .ok (.invokevirtual index, 3)) (hl : Cond.methodLink own index yX11_word ∈ gws) (hR : 8 ≤ fr ∧ 191 ≤ lo) {i1 : Nat} (h1 : i1 < 2) {r : Int32} {M1 : gM} (hr : X11_word i1 M = some (r, M1)) (hcat : (st.map fun v => v.category).sum ≤ 8) (k : Ψ M1 (pc + 3) ls (.int r :: st)) : Ψ M pc ls (.ref (gad 62 i1) :: .ref (gad 50 0) :: st) := r_callV C [.ref (gad 62 i1)] st d (k_X11_word h1 hr) hl q1556 q41 q127 q1557 hd_X11_word hR rfl (by decide) (e50 nf) rfl hcat k
theorem hd_X11_number : yX11_number.cls ≠ "java/lang/invoke/MethodHandle" ∧ yX11_number.cls ≠ "java/lang/invoke/VarHandle" ∧ (parseMethodDescriptor yX11_number.desc).map (fun d => d.parameters.length) = some 0 := by decide +kernel
noncomputable def X11_number_L58 (x2 : Int32) (x3 : Int32) (M : gM) : Option ((Int32 × gM) ⊕ (Int32 × gM)) := (X11_isDigit M).bind (fun r_11 => (if r_11 = 0 then some (.inr (x3, M)) else (if x3 ≤ 99999 then (X11_here M).bind (fun r_15 => gLet ((((10 * x3) + r_15) - 48)) (fun x3_16 => gLet (wI M 50 0 3 ((M.1 50 0 3) + 1)) (fun M_17 => some (.inl (x3_16, M_17))))) else gLet (wI M 50 0 3 ((M.1 50 0 3) + 1)) (fun M_18 => some (.inl (x3, M_18))))))
theorem t_X11_number_L58 {Ψ : gM → Nat → List (Nat × Value) → List Value → Prop} {G : gG5} {nf : Nat} {M : gM} {v0 : Option Value} {M0 : gM} {x2 : Int32} {x3 : Int32} {w : ((Int32 × gM) ⊕ (Int32 × gM))} (C : gC Ψ G (gXn nf) cX11_number RX11 4 (some .int) 2 40 v0 M0) (hr : X11_number_L58 x2 x3 M = some w) (hn : ∀ s, w = .inl s → Ψ s.2 58 [(0, .ref (gad 50 0)), (2, .int x2), (3, .int (s.1))] []) (hx : ∀ e, w = .inr e → (fun e => Ψ e.2 101 [(2, .int x2), (3, .int (e.1))] []) e) : Ψ M 58 [(0, .ref (gad 50 0)), (2, .int x2), (3, .int x3)] [] := by
  refine r_aload_n (pc := 58) C dX11_number_58 rfl 0 rfl ?_
  obtain ⟨r_11, hc_10, hr⟩ := gBind_some hr
  refine c_X11_isDigit (pc := 59) C dX11_number_59 q1591 ⟨Nat.le_of_ble_eq_true rfl, Nat.le_of_ble_eq_true rfl⟩ hc_10 (Nat.le_of_ble_eq_true rfl) ?_
  refine r_if_eq (pc := 62) (tgt := 101) C dX11_number_62 rfl (fun c_12 => ?_) (fun c_12 => ?_)
  · replace hr := (if_pos c_12).symm.trans hr
    refine r_sub C [1, 2] (ls' := [(2, .int x2), (3, .int x3)]) rfl ?_
    exact hx (x3, M) (gSome hr)
  · replace hr := (if_neg c_12).symm.trans hr
    refine r_iload_n (pc := 65) C dX11_number_65 rfl 2 rfl ?_
    refine r_ldc (pc := 66) C dX11_number_66 q1595 ?_
    refine r_icmp_le (pc := 68) (tgt := 75) C dX11_number_68 rfl (fun c_13 => ?_) (fun c_13 => ?_)
    · replace hr := (if_pos c_13).symm.trans hr
      refine r_bipush (pc := 75) C dX11_number_75 kb10 ?_
      refine r_iload_n (pc := 77) C dX11_number_77 rfl 2 rfl ?_
      refine r_imul (pc := 78) C dX11_number_78 ?_
      refine r_aload_n (pc := 79) C dX11_number_79 rfl 0 rfl ?_
      obtain ⟨r_15, hc_14, hr⟩ := gBind_some hr
      refine c_X11_here (pc := 80) C dX11_number_80 q1562 ⟨Nat.le_of_ble_eq_true rfl, Nat.le_of_ble_eq_true rfl⟩ hc_14 (Nat.le_of_ble_eq_true rfl) ?_
      refine r_iadd (pc := 83) C dX11_number_83 ?_
      refine r_bipush (pc := 84) C dX11_number_84 kb48 ?_
      refine r_isub (pc := 86) C dX11_number_86 ?_
      obtain ⟨x3_16, ex3_16, hr⟩ := gLet_some hr
      refine r_istore_n (pc := 87) C dX11_number_87 rfl (by decide) ex3_16 (ls' := [(3, .int x3_16), (0, .ref (gad 50 0)), (2, .int x2)]) rfl ?_
      refine r_aload_n (pc := 88) C dX11_number_88 rfl 1 rfl ?_
      refine r_dup (pc := 89) C dX11_number_89 rfl ?_
      refine g50_3 (pc := 90) C dX11_number_90 q1403 (e50 nf) ?_
      refine r_iconst (pc := 93) C dX11_number_93 ki1 ?_
      refine r_iadd (pc := 94) C dX11_number_94 ?_
      obtain ⟨M_17, eM_17, hr⟩ := gLet_some hr
      refine p50_3 (pc := 95) C dX11_number_95 q1403 (e50 nf) eM_17 ?_
      refine r_goto (pc := 98) (tgt := 58) C dX11_number_98 rfl ?_
      refine r_sub C [1, 2, 0] (ls' := [(0, .ref (gad 50 0)), (2, .int x2), (3, .int x3_16)]) rfl ?_
      exact hn (x3_16, M_17) (gSome hr)
    · replace hr := (if_neg c_13).symm.trans hr
      refine r_iload_n (pc := 71) C dX11_number_71 rfl 2 rfl ?_
      refine r_goto (pc := 72) (tgt := 87) C dX11_number_72 rfl ?_
      refine r_istore_n (pc := 87) C dX11_number_87 rfl (by decide) rfl (ls' := [(3, .int x3), (0, .ref (gad 50 0)), (2, .int x2)]) rfl ?_
      refine r_aload_n (pc := 88) C dX11_number_88 rfl 1 rfl ?_
      refine r_dup (pc := 89) C dX11_number_89 rfl ?_
      refine g50_3 (pc := 90) C dX11_number_90 q1403 (e50 nf) ?_
      refine r_iconst (pc := 93) C dX11_number_93 ki1 ?_
      refine r_iadd (pc := 94) C dX11_number_94 ?_
      obtain ⟨M_18, eM_18, hr⟩ := gLet_some hr
      refine p50_3 (pc := 95) C dX11_number_95 q1403 (e50 nf) eM_18 ?_
      refine r_goto (pc := 98) (tgt := 58) C dX11_number_98 rfl ?_
      refine r_sub C [1, 2, 0] (ls' := [(0, .ref (gad 50 0)), (2, .int x2), (3, .int x3)]) rfl ?_
      exact hn (x3, M_18) (gSome hr)
noncomputable def X11_number_J39 (x2 : Int32) (M : gM) : Option (Int32 × gM) := (X11_isDigit M).bind (fun r_8 => (if r_8 = 0 then (X11_fails (M.1 50 0 7) M).bind (fun M_23 => some (0, M_23)) else (gIter (fun s => X11_number_L58 x2 s.1 s.2) FU (0, M)).bind (gU2 (fun x3_19 M_20 => (if x2 = 0 then some (x3_19, M_20) else some ((-x3_19), M_20))))))
theorem t_X11_number_J39 {Ψ : gM → Nat → List (Nat × Value) → List Value → Prop} {G : gG5} {nf : Nat} {M : gM} {x2 : Int32} {r : Int32} {M1 : gM} (C : gC Ψ G (gXn nf) cX11_number RX11 4 (some .int) 2 40 (some (.int r)) M1) (CR : gR Ψ cX11_number (some .int) (some (.int r)) M1) (hr : X11_number_J39 x2 M = some (r, M1)) : Ψ M 39 [(0, .ref (gad 50 0)), (2, .int x2)] [] := by
  refine r_aload_n (pc := 39) C dX11_number_39 rfl 0 rfl ?_
  obtain ⟨r_8, hc_7, hr⟩ := gBind_some hr
  refine c_X11_isDigit (pc := 40) C dX11_number_40 q1591 ⟨Nat.le_of_ble_eq_true rfl, Nat.le_of_ble_eq_true rfl⟩ hc_7 (Nat.le_of_ble_eq_true rfl) ?_
  refine r_if_ne (pc := 43) (tgt := 56) C dX11_number_43 rfl (fun c_9 => ?_) (fun c_9 => ?_)
  · replace hr := (if_neg c_9).symm.trans hr
    refine r_iconst (pc := 56) C dX11_number_56 ki0 ?_
    refine r_istore_n (pc := 57) C dX11_number_57 rfl (by decide) rfl (ls' := [(3, .int 0), (0, .ref (gad 50 0)), (2, .int x2)]) rfl ?_
    refine r_sub C [1, 2, 0] (ls' := [(0, .ref (gad 50 0)), (2, .int x2), (3, .int 0)]) rfl ?_
    obtain ⟨ev, hit, hr⟩ := gBind_some hr
    refine gIter_V (step := fun s => X11_number_L58 x2 s.1 s.2) (P := fun s => Ψ s.2 58 [(0, .ref (gad 50 0)), (2, .int x2), (3, .int (s.1))] []) (K := (fun e => Ψ e.2 101 [(2, .int x2), (3, .int (e.1))] [])) (fun s w hs hn hx => t_X11_number_L58 C  hs hn hx) FU (0, M) ev hit ?_
    obtain ⟨x3_19, M_20⟩ := ev
    replace hr := gU2_some hr
    show Ψ M_20 101 [(2, .int x2), (3, .int x3_19)] []
    refine r_iload_n (pc := 101) C dX11_number_101 rfl 0 rfl ?_
    refine r_if_eq (pc := 102) (tgt := 110) C dX11_number_102 rfl (fun c_21 => ?_) (fun c_21 => ?_)
    · replace hr := (if_pos c_21).symm.trans hr
      refine r_iload_n (pc := 110) C dX11_number_110 rfl 1 rfl ?_
      exact r_iret (pc := 111) CR dX11_number_111 (congrArg (fun z => some (Value.int z)) (Prod.mk.inj (gSome hr)).1) (Prod.mk.inj (gSome hr)).2
    · replace hr := (if_neg c_21).symm.trans hr
      refine r_iload_n (pc := 105) C dX11_number_105 rfl 1 rfl ?_
      refine r_ineg (pc := 106) C dX11_number_106 ?_
      refine r_goto (pc := 107) (tgt := 111) C dX11_number_107 rfl ?_
      exact r_iret (pc := 111) CR dX11_number_111 (congrArg (fun z => some (Value.int z)) (Prod.mk.inj (gSome hr)).1) (Prod.mk.inj (gSome hr)).2
  · replace hr := (if_pos c_9).symm.trans hr
    refine r_aload_n (pc := 46) C dX11_number_46 rfl 0 rfl ?_
    refine r_aload_n (pc := 47) C dX11_number_47 rfl 0 rfl ?_
    refine g50_7 (pc := 48) C dX11_number_48 q1407 (e50 nf) ?_
    obtain ⟨M_23, hc_22, hr⟩ := gBind_some hr
    refine c_X11_fails (pc := 51) C dX11_number_51 q1579 ⟨Nat.le_of_ble_eq_true rfl, Nat.le_of_ble_eq_true rfl⟩ hc_22 (Nat.le_of_ble_eq_true rfl) ?_
    refine r_iconst (pc := 54) C dX11_number_54 ki0 ?_
    exact r_iret (pc := 55) CR dX11_number_55 (congrArg (fun z => some (Value.int z)) (Prod.mk.inj (gSome hr)).1) (Prod.mk.inj (gSome hr)).2
noncomputable def X11_number_J24 (xs0 : Int32) (M : gM) : Option (Int32 × gM) := (if xs0 = 0 then X11_number_J39 xs0 M else gLet (wI M 50 0 3 ((M.1 50 0 3) + 1)) (fun M_24 => X11_number_J39 xs0 M_24))
theorem t_X11_number_J24 {Ψ : gM → Nat → List (Nat × Value) → List Value → Prop} {G : gG5} {nf : Nat} {M : gM} {xs0 : Int32} {r : Int32} {M1 : gM} (C : gC Ψ G (gXn nf) cX11_number RX11 4 (some .int) 2 40 (some (.int r)) M1) (CR : gR Ψ cX11_number (some .int) (some (.int r)) M1) (hr : X11_number_J24 xs0 M = some (r, M1)) : Ψ M 24 [(0, .ref (gad 50 0))] [.int xs0] := by
  refine r_istore_n (pc := 24) C dX11_number_24 rfl (by decide) rfl (ls' := [(2, .int xs0), (0, .ref (gad 50 0))]) rfl ?_
  refine r_iload_n (pc := 25) C dX11_number_25 rfl 0 rfl ?_
  refine r_if_eq (pc := 26) (tgt := 39) C dX11_number_26 rfl (fun c_6 => ?_) (fun c_6 => ?_)
  · replace hr := (if_pos c_6).symm.trans hr
    refine r_sub C [1, 0] (ls' := [(0, .ref (gad 50 0)), (2, .int xs0)]) rfl ?_
    exact t_X11_number_J39 C CR  hr
  · replace hr := (if_neg c_6).symm.trans hr
    refine r_aload_n (pc := 29) C dX11_number_29 rfl 1 rfl ?_
    refine r_dup (pc := 30) C dX11_number_30 rfl ?_
    refine g50_3 (pc := 31) C dX11_number_31 q1403 (e50 nf) ?_
    refine r_iconst (pc := 34) C dX11_number_34 ki1 ?_
    refine r_iadd (pc := 35) C dX11_number_35 ?_
    obtain ⟨M_24, eM_24, hr⟩ := gLet_some hr
    refine p50_3 (pc := 36) C dX11_number_36 q1403 (e50 nf) eM_24 ?_
    refine r_sub C [1, 0] (ls' := [(0, .ref (gad 50 0)), (2, .int xs0)]) rfl ?_
    exact t_X11_number_J39 C CR  hr
noncomputable def X11_number (M : gM) : Option (Int32 × gM) := (X11_look M).bind (gU2 (fun r_2 M_3 => gLet (wI M_3 50 0 7 (M_3.1 50 0 3)) (fun M_4 => (if r_2 = 45 then X11_number_J24 1 M_4 else X11_number_J24 0 M_4))))
theorem k_X11_number {G : gG5} {nf : Nat} {M : gM} {r : Int32} {M1 : gM} (hr : X11_number M = some (r, M1)) : gMet G (gXn nf) yX11_number cX11_number 4 (some .int) 2 40 M [.ref (gad 50 0)] (some (.int r)) M1 := by
  refine gMet_of pl_X11 rfl (Nat.le_of_ble_eq_true rfl) (fun Ψ C CR => ?_)
  show Ψ M 0 [(0, .ref (gad 50 0))] []
  refine r_aload_n (pc := 0) C dX11_number_0 rfl 0 rfl ?_
  obtain ⟨⟨r_2, M_3⟩, hc_1, hr⟩ := gBind_some hr
  replace hr := gU2_some hr
  refine c_X11_look (pc := 1) C dX11_number_1 q1558 ⟨Nat.le_of_ble_eq_true rfl, Nat.le_of_ble_eq_true rfl⟩ hc_1 (Nat.le_of_ble_eq_true rfl) ?_
  refine r_istore_n (pc := 4) C dX11_number_4 rfl (by decide) rfl (ls' := [(1, .int r_2), (0, .ref (gad 50 0))]) rfl ?_
  refine r_aload_n (pc := 5) C dX11_number_5 rfl 1 rfl ?_
  refine r_aload_n (pc := 6) C dX11_number_6 rfl 1 rfl ?_
  refine g50_3 (pc := 7) C dX11_number_7 q1403 (e50 nf) ?_
  obtain ⟨M_4, eM_4, hr⟩ := gLet_some hr
  refine p50_7 (pc := 10) C dX11_number_10 q1407 (e50 nf) eM_4 ?_
  refine r_iload_n (pc := 13) C dX11_number_13 rfl 0 rfl ?_
  refine r_bipush (pc := 14) C dX11_number_14 kb45 ?_
  refine r_icmp_ne (pc := 16) (tgt := 23) C dX11_number_16 rfl (fun c_5 => ?_) (fun c_5 => ?_)
  · replace hr := (if_neg c_5).symm.trans hr
    refine r_iconst (pc := 23) C dX11_number_23 ki0 ?_
    refine r_sub C [1] (ls' := [(0, .ref (gad 50 0))]) rfl ?_
    exact t_X11_number_J24 C CR  hr
  · replace hr := (if_pos c_5).symm.trans hr
    refine r_iconst (pc := 19) C dX11_number_19 ki1 ?_
    refine r_goto (pc := 20) (tgt := 24) C dX11_number_20 rfl ?_
    refine r_sub C [1] (ls' := [(0, .ref (gad 50 0))]) rfl ?_
    exact t_X11_number_J24 C CR  hr
theorem c_X11_number {Ψ : gM → Nat → List (Nat × Value) → List Value → Prop} {G : gG5} {nf : Nat} {cc : ByteArray} {own : String} {nL : Nat} {ret : Option FieldType} {fr lo : Nat} {v0 : Option Value} {M0 M : gM} {pc index : Nat} {ls : List (Nat × Value)} {st : List Value} (C : gC Ψ G (gXn nf) cc own nL ret fr lo v0 M0) (d : decode cc pc = .ok (.invokevirtual index, 3)) (hl : Cond.methodLink own index yX11_number ∈ gws) (hR : 3 ≤ fr ∧ 63 ≤ lo) {r : Int32} {M1 : gM} (hr : X11_number M = some (r, M1)) (hcat : (st.map fun v => v.category).sum ≤ 8) (k : Ψ M1 (pc + 3) ls (.int r :: st)) : Ψ M pc ls (.ref (gad 50 0) :: st) := r_callV C [] st d (k_X11_number hr) hl q1589 q48 q127 q1590 hd_X11_number hR rfl (by decide) (e50 nf) rfl hcat k
theorem hd_X11_isWellOfScene : yX11_isWellOfScene.cls ≠ "java/lang/invoke/MethodHandle" ∧ yX11_isWellOfScene.cls ≠ "java/lang/invoke/VarHandle" ∧ (parseMethodDescriptor yX11_isWellOfScene.desc).map (fun d => d.parameters.length) = some 3 := by decide +kernel
noncomputable def X11_isWellOfScene (p0 : Int32) (p1 : Int32) (p2 : Int32) (M : gM) : Option Int32 := (if p0 < 8 then (if p0 = 0 then (X11_isIn (Int32.toInt64 p2) 1 8 M).bind (fun r_4 => gG (gb r_4) (some r_4)) else if p0 = 1 then (X11_isIn (Int32.toInt64 p2) 2 4 M).bind (fun r_7 => gG (gb r_7) (some r_7)) else if p0 = 2 then (if p2 = 1 then some 1 else (if p2 = 2 then some 1 else (if p2 = 4 then some 1 else some 0))) else if p0 = 3 then (X11_isIn (Int32.toInt64 p2) 0 255 M).bind (fun r_13 => gG (gb r_13) (some r_13)) else if p0 = 4 then (X11_isIn (Int32.toInt64 p2) 0 2 M).bind (fun r_16 => gG (gb r_16) (some r_16)) else if p0 = 5 then (X11_isIn (Int32.toInt64 p2) 0 1 M).bind (fun r_19 => gG (gb r_19) (some r_19)) else if p0 = 6 then (X11_isIn (Int32.toInt64 p2) 0 1 M).bind (fun r_22 => gG (gb r_22) (some r_22)) else if p0 = 7 then (X11_isIn (Int32.toInt64 p2) 1 10 M).bind (fun r_25 => gG (gb r_25) (some r_25)) else (X11_isIn (Int32.toInt64 p2) 0 1 M).bind (fun r_28 => gG (gb r_28) (some r_28))) else (if p1 = 10 then (X11_isIn (Int32.toInt64 p2) 1 8 M).bind (fun r_43 => gG (gb r_43) (some r_43)) else (if p1 = 9 then (X11_isIn (Int32.toInt64 p2) 0 255 M).bind (fun r_40 => gG (gb r_40) (some r_40)) else (if (gRem p1 3) = 2 then (X11_isIn (Int32.toInt64 p2) 0 999 M).bind (fun r_37 => gG (gb r_37) (some r_37)) else (X11_isIn (Int32.toInt64 p2) (-99) 160 M).bind (fun r_34 => gG (gb r_34) (some r_34))))))
theorem k_X11_isWellOfScene {G : gG5} {nf : Nat} {M : gM} {p0 : Int32} {p1 : Int32} {p2 : Int32} {r : Int32} (hr : X11_isWellOfScene p0 p1 p2 M = some r) : gMet G (gXn nf) yX11_isWellOfScene cX11_isWellOfScene 3 (some .boolean) 1 25 M [.int p0, .int p1, .int p2] (some (.int r)) M := by
  refine gMet_of pl_X11 rfl (Nat.le_of_ble_eq_true rfl) (fun Ψ C CR => ?_)
  show Ψ M 0 [(0, .int p0), (1, .int p1), (2, .int p2)] []
  refine r_iload_n (pc := 0) C dX11_isWellOfScene_0 rfl 0 rfl ?_
  refine r_bipush (pc := 1) C dX11_isWellOfScene_1 kb8 ?_
  refine r_icmp_lt (pc := 3) (tgt := 73) C dX11_isWellOfScene_3 rfl (fun c_1 => ?_) (fun c_1 => ?_)
  · replace hr := (if_pos c_1).symm.trans hr
    refine r_iload_n (pc := 73) C dX11_isWellOfScene_73 rfl 0 rfl ?_
    by_cases c_2_0 : p0 = 0
    · replace hr := (if_pos c_2_0).symm.trans hr
      refine r_tableIn (pc := 74) (tgt := 120) (off := 46) C dX11_isWellOfScene_74 0 c_2_0 (by decide) rfl ?_
      refine r_iload_n (pc := 120) C dX11_isWellOfScene_120 rfl 2 rfl ?_
      refine r_i2l (pc := 121) C dX11_isWellOfScene_121 ?_
      refine r_lconst (pc := 122) (v := 1) C dX11_isWellOfScene_122 rfl ?_
      refine r_ldc2 (pc := 123) C dX11_isWellOfScene_123 q1602 ?_
      obtain ⟨r_4, hc_3, hr⟩ := gBind_some hr
      refine c_X11_isIn (pc := 126) C dX11_isWellOfScene_126 q1538 ⟨Nat.le_of_ble_eq_true rfl, Nat.le_of_ble_eq_true rfl⟩ hc_3 (Nat.le_of_ble_eq_true rfl) ?_
      obtain ⟨g_5, hr⟩ := gG_some hr
      exact r_zret (pc := 129) CR dX11_isWellOfScene_129 (gb_nar g_5) (congrArg (fun z => some (Value.int z)) (gSome hr)) rfl
    replace hr := (if_neg c_2_0).symm.trans hr
    by_cases c_2_1 : p0 = 1
    · replace hr := (if_pos c_2_1).symm.trans hr
      refine r_tableIn (pc := 74) (tgt := 130) (off := 56) C dX11_isWellOfScene_74 1 c_2_1 (by decide) rfl ?_
      refine r_iload_n (pc := 130) C dX11_isWellOfScene_130 rfl 2 rfl ?_
      refine r_i2l (pc := 131) C dX11_isWellOfScene_131 ?_
      refine r_ldc2 (pc := 132) C dX11_isWellOfScene_132 q1607 ?_
      refine r_ldc2 (pc := 135) C dX11_isWellOfScene_135 q1608 ?_
      obtain ⟨r_7, hc_6, hr⟩ := gBind_some hr
      refine c_X11_isIn (pc := 138) C dX11_isWellOfScene_138 q1538 ⟨Nat.le_of_ble_eq_true rfl, Nat.le_of_ble_eq_true rfl⟩ hc_6 (Nat.le_of_ble_eq_true rfl) ?_
      obtain ⟨g_8, hr⟩ := gG_some hr
      exact r_zret (pc := 141) CR dX11_isWellOfScene_141 (gb_nar g_8) (congrArg (fun z => some (Value.int z)) (gSome hr)) rfl
    replace hr := (if_neg c_2_1).symm.trans hr
    by_cases c_2_2 : p0 = 2
    · replace hr := (if_pos c_2_2).symm.trans hr
      refine r_tableIn (pc := 74) (tgt := 142) (off := 68) C dX11_isWellOfScene_74 2 c_2_2 (by decide) rfl ?_
      refine r_iload_n (pc := 142) C dX11_isWellOfScene_142 rfl 2 rfl ?_
      refine r_iconst (pc := 143) C dX11_isWellOfScene_143 ki1 ?_
      refine r_icmp_eq (pc := 144) (tgt := 157) C dX11_isWellOfScene_144 rfl (fun c_9 => ?_) (fun c_9 => ?_)
      · replace hr := (if_pos c_9).symm.trans hr
        refine r_iconst (pc := 157) C dX11_isWellOfScene_157 ki1 ?_
        refine r_goto (pc := 158) (tgt := 162) C dX11_isWellOfScene_158 rfl ?_
        exact r_zret (pc := 162) CR dX11_isWellOfScene_162 rfl (congrArg (fun z => some (Value.int z)) (gSome hr)) rfl
      · replace hr := (if_neg c_9).symm.trans hr
        refine r_iload_n (pc := 147) C dX11_isWellOfScene_147 rfl 2 rfl ?_
        refine r_iconst (pc := 148) C dX11_isWellOfScene_148 ki2 ?_
        refine r_icmp_eq (pc := 149) (tgt := 157) C dX11_isWellOfScene_149 rfl (fun c_10 => ?_) (fun c_10 => ?_)
        · replace hr := (if_pos c_10).symm.trans hr
          refine r_iconst (pc := 157) C dX11_isWellOfScene_157 ki1 ?_
          refine r_goto (pc := 158) (tgt := 162) C dX11_isWellOfScene_158 rfl ?_
          exact r_zret (pc := 162) CR dX11_isWellOfScene_162 rfl (congrArg (fun z => some (Value.int z)) (gSome hr)) rfl
        · replace hr := (if_neg c_10).symm.trans hr
          refine r_iload_n (pc := 152) C dX11_isWellOfScene_152 rfl 2 rfl ?_
          refine r_iconst (pc := 153) C dX11_isWellOfScene_153 ki4 ?_
          refine r_icmp_ne (pc := 154) (tgt := 161) C dX11_isWellOfScene_154 rfl (fun c_11 => ?_) (fun c_11 => ?_)
          · replace hr := (if_neg c_11).symm.trans hr
            refine r_iconst (pc := 161) C dX11_isWellOfScene_161 ki0 ?_
            exact r_zret (pc := 162) CR dX11_isWellOfScene_162 rfl (congrArg (fun z => some (Value.int z)) (gSome hr)) rfl
          · replace hr := (if_pos c_11).symm.trans hr
            refine r_iconst (pc := 157) C dX11_isWellOfScene_157 ki1 ?_
            refine r_goto (pc := 158) (tgt := 162) C dX11_isWellOfScene_158 rfl ?_
            exact r_zret (pc := 162) CR dX11_isWellOfScene_162 rfl (congrArg (fun z => some (Value.int z)) (gSome hr)) rfl
    replace hr := (if_neg c_2_2).symm.trans hr
    by_cases c_2_3 : p0 = 3
    · replace hr := (if_pos c_2_3).symm.trans hr
      refine r_tableIn (pc := 74) (tgt := 163) (off := 89) C dX11_isWellOfScene_74 3 c_2_3 (by decide) rfl ?_
      refine r_iload_n (pc := 163) C dX11_isWellOfScene_163 rfl 2 rfl ?_
      refine r_i2l (pc := 164) C dX11_isWellOfScene_164 ?_
      refine r_lconst (pc := 165) (v := 0) C dX11_isWellOfScene_165 rfl ?_
      refine r_ldc2 (pc := 166) C dX11_isWellOfScene_166 q1603 ?_
      obtain ⟨r_13, hc_12, hr⟩ := gBind_some hr
      refine c_X11_isIn (pc := 169) C dX11_isWellOfScene_169 q1538 ⟨Nat.le_of_ble_eq_true rfl, Nat.le_of_ble_eq_true rfl⟩ hc_12 (Nat.le_of_ble_eq_true rfl) ?_
      obtain ⟨g_14, hr⟩ := gG_some hr
      exact r_zret (pc := 172) CR dX11_isWellOfScene_172 (gb_nar g_14) (congrArg (fun z => some (Value.int z)) (gSome hr)) rfl
    replace hr := (if_neg c_2_3).symm.trans hr
    by_cases c_2_4 : p0 = 4
    · replace hr := (if_pos c_2_4).symm.trans hr
      refine r_tableIn (pc := 74) (tgt := 173) (off := 99) C dX11_isWellOfScene_74 4 c_2_4 (by decide) rfl ?_
      refine r_iload_n (pc := 173) C dX11_isWellOfScene_173 rfl 2 rfl ?_
      refine r_i2l (pc := 174) C dX11_isWellOfScene_174 ?_
      refine r_lconst (pc := 175) (v := 0) C dX11_isWellOfScene_175 rfl ?_
      refine r_ldc2 (pc := 176) C dX11_isWellOfScene_176 q1607 ?_
      obtain ⟨r_16, hc_15, hr⟩ := gBind_some hr
      refine c_X11_isIn (pc := 179) C dX11_isWellOfScene_179 q1538 ⟨Nat.le_of_ble_eq_true rfl, Nat.le_of_ble_eq_true rfl⟩ hc_15 (Nat.le_of_ble_eq_true rfl) ?_
      obtain ⟨g_17, hr⟩ := gG_some hr
      exact r_zret (pc := 182) CR dX11_isWellOfScene_182 (gb_nar g_17) (congrArg (fun z => some (Value.int z)) (gSome hr)) rfl
    replace hr := (if_neg c_2_4).symm.trans hr
    by_cases c_2_5 : p0 = 5
    · replace hr := (if_pos c_2_5).symm.trans hr
      refine r_tableIn (pc := 74) (tgt := 193) (off := 119) C dX11_isWellOfScene_74 5 c_2_5 (by decide) rfl ?_
      refine r_iload_n (pc := 193) C dX11_isWellOfScene_193 rfl 2 rfl ?_
      refine r_i2l (pc := 194) C dX11_isWellOfScene_194 ?_
      refine r_lconst (pc := 195) (v := 0) C dX11_isWellOfScene_195 rfl ?_
      refine r_lconst (pc := 196) (v := 1) C dX11_isWellOfScene_196 rfl ?_
      obtain ⟨r_19, hc_18, hr⟩ := gBind_some hr
      refine c_X11_isIn (pc := 197) C dX11_isWellOfScene_197 q1538 ⟨Nat.le_of_ble_eq_true rfl, Nat.le_of_ble_eq_true rfl⟩ hc_18 (Nat.le_of_ble_eq_true rfl) ?_
      obtain ⟨g_20, hr⟩ := gG_some hr
      exact r_zret (pc := 200) CR dX11_isWellOfScene_200 (gb_nar g_20) (congrArg (fun z => some (Value.int z)) (gSome hr)) rfl
    replace hr := (if_neg c_2_5).symm.trans hr
    by_cases c_2_6 : p0 = 6
    · replace hr := (if_pos c_2_6).symm.trans hr
      refine r_tableIn (pc := 74) (tgt := 193) (off := 119) C dX11_isWellOfScene_74 6 c_2_6 (by decide) rfl ?_
      refine r_iload_n (pc := 193) C dX11_isWellOfScene_193 rfl 2 rfl ?_
      refine r_i2l (pc := 194) C dX11_isWellOfScene_194 ?_
      refine r_lconst (pc := 195) (v := 0) C dX11_isWellOfScene_195 rfl ?_
      refine r_lconst (pc := 196) (v := 1) C dX11_isWellOfScene_196 rfl ?_
      obtain ⟨r_22, hc_21, hr⟩ := gBind_some hr
      refine c_X11_isIn (pc := 197) C dX11_isWellOfScene_197 q1538 ⟨Nat.le_of_ble_eq_true rfl, Nat.le_of_ble_eq_true rfl⟩ hc_21 (Nat.le_of_ble_eq_true rfl) ?_
      obtain ⟨g_23, hr⟩ := gG_some hr
      exact r_zret (pc := 200) CR dX11_isWellOfScene_200 (gb_nar g_23) (congrArg (fun z => some (Value.int z)) (gSome hr)) rfl
    replace hr := (if_neg c_2_6).symm.trans hr
    by_cases c_2_7 : p0 = 7
    · replace hr := (if_pos c_2_7).symm.trans hr
      refine r_tableIn (pc := 74) (tgt := 183) (off := 109) C dX11_isWellOfScene_74 7 c_2_7 (by decide) rfl ?_
      refine r_iload_n (pc := 183) C dX11_isWellOfScene_183 rfl 2 rfl ?_
      refine r_i2l (pc := 184) C dX11_isWellOfScene_184 ?_
      refine r_lconst (pc := 185) (v := 1) C dX11_isWellOfScene_185 rfl ?_
      refine r_ldc2 (pc := 186) C dX11_isWellOfScene_186 q1609 ?_
      obtain ⟨r_25, hc_24, hr⟩ := gBind_some hr
      refine c_X11_isIn (pc := 189) C dX11_isWellOfScene_189 q1538 ⟨Nat.le_of_ble_eq_true rfl, Nat.le_of_ble_eq_true rfl⟩ hc_24 (Nat.le_of_ble_eq_true rfl) ?_
      obtain ⟨g_26, hr⟩ := gG_some hr
      exact r_zret (pc := 192) CR dX11_isWellOfScene_192 (gb_nar g_26) (congrArg (fun z => some (Value.int z)) (gSome hr)) rfl
    replace hr := (if_neg c_2_7).symm.trans hr
    refine r_tableOut (pc := 74) (tgt := 193) C dX11_isWellOfScene_74 (fun k h1 h2 => ?_) rfl ?_
    · rcases (show k = 0 ∨ k = 1 ∨ k = 2 ∨ k = 3 ∨ k = 4 ∨ k = 5 ∨ k = 6 ∨ k = 7 by omega) with rfl | rfl | rfl | rfl | rfl | rfl | rfl | rfl
      all_goals assumption
    · refine r_iload_n (pc := 193) C dX11_isWellOfScene_193 rfl 2 rfl ?_
      refine r_i2l (pc := 194) C dX11_isWellOfScene_194 ?_
      refine r_lconst (pc := 195) (v := 0) C dX11_isWellOfScene_195 rfl ?_
      refine r_lconst (pc := 196) (v := 1) C dX11_isWellOfScene_196 rfl ?_
      obtain ⟨r_28, hc_27, hr⟩ := gBind_some hr
      refine c_X11_isIn (pc := 197) C dX11_isWellOfScene_197 q1538 ⟨Nat.le_of_ble_eq_true rfl, Nat.le_of_ble_eq_true rfl⟩ hc_27 (Nat.le_of_ble_eq_true rfl) ?_
      obtain ⟨g_29, hr⟩ := gG_some hr
      exact r_zret (pc := 200) CR dX11_isWellOfScene_200 (gb_nar g_29) (congrArg (fun z => some (Value.int z)) (gSome hr)) rfl
  · replace hr := (if_neg c_1).symm.trans hr
    refine r_iload_n (pc := 6) C dX11_isWellOfScene_6 rfl 1 rfl ?_
    refine r_bipush (pc := 7) C dX11_isWellOfScene_7 kb10 ?_
    refine r_icmp_ne (pc := 9) (tgt := 24) C dX11_isWellOfScene_9 rfl (fun c_30 => ?_) (fun c_30 => ?_)
    · replace hr := (if_neg c_30).symm.trans hr
      refine r_iload_n (pc := 24) C dX11_isWellOfScene_24 rfl 1 rfl ?_
      refine r_bipush (pc := 25) C dX11_isWellOfScene_25 kb9 ?_
      refine r_icmp_ne (pc := 27) (tgt := 42) C dX11_isWellOfScene_27 rfl (fun c_31 => ?_) (fun c_31 => ?_)
      · replace hr := (if_neg c_31).symm.trans hr
        refine r_iload_n (pc := 42) C dX11_isWellOfScene_42 rfl 1 rfl ?_
        refine r_iconst (pc := 43) C dX11_isWellOfScene_43 ki3 ?_
        refine r_irem (pc := 44) C dX11_isWellOfScene_44 (by decide) ?_
        refine r_iconst (pc := 45) C dX11_isWellOfScene_45 ki2 ?_
        refine r_icmp_ne (pc := 46) (tgt := 61) C dX11_isWellOfScene_46 rfl (fun c_32 => ?_) (fun c_32 => ?_)
        · replace hr := (if_neg c_32).symm.trans hr
          refine r_iload_n (pc := 61) C dX11_isWellOfScene_61 rfl 2 rfl ?_
          refine r_i2l (pc := 62) C dX11_isWellOfScene_62 ?_
          refine r_ldc2 (pc := 63) C dX11_isWellOfScene_63 q1605 ?_
          refine r_ldc2 (pc := 66) C dX11_isWellOfScene_66 q1606 ?_
          obtain ⟨r_34, hc_33, hr⟩ := gBind_some hr
          refine c_X11_isIn (pc := 69) C dX11_isWellOfScene_69 q1538 ⟨Nat.le_of_ble_eq_true rfl, Nat.le_of_ble_eq_true rfl⟩ hc_33 (Nat.le_of_ble_eq_true rfl) ?_
          obtain ⟨g_35, hr⟩ := gG_some hr
          exact r_zret (pc := 72) CR dX11_isWellOfScene_72 (gb_nar g_35) (congrArg (fun z => some (Value.int z)) (gSome hr)) rfl
        · replace hr := (if_pos c_32).symm.trans hr
          refine r_iload_n (pc := 49) C dX11_isWellOfScene_49 rfl 2 rfl ?_
          refine r_i2l (pc := 50) C dX11_isWellOfScene_50 ?_
          refine r_lconst (pc := 51) (v := 0) C dX11_isWellOfScene_51 rfl ?_
          refine r_ldc2 (pc := 52) C dX11_isWellOfScene_52 q1604 ?_
          obtain ⟨r_37, hc_36, hr⟩ := gBind_some hr
          refine c_X11_isIn (pc := 55) C dX11_isWellOfScene_55 q1538 ⟨Nat.le_of_ble_eq_true rfl, Nat.le_of_ble_eq_true rfl⟩ hc_36 (Nat.le_of_ble_eq_true rfl) ?_
          refine r_goto (pc := 58) (tgt := 72) C dX11_isWellOfScene_58 rfl ?_
          obtain ⟨g_38, hr⟩ := gG_some hr
          exact r_zret (pc := 72) CR dX11_isWellOfScene_72 (gb_nar g_38) (congrArg (fun z => some (Value.int z)) (gSome hr)) rfl
      · replace hr := (if_pos c_31).symm.trans hr
        refine r_iload_n (pc := 30) C dX11_isWellOfScene_30 rfl 2 rfl ?_
        refine r_i2l (pc := 31) C dX11_isWellOfScene_31 ?_
        refine r_lconst (pc := 32) (v := 0) C dX11_isWellOfScene_32 rfl ?_
        refine r_ldc2 (pc := 33) C dX11_isWellOfScene_33 q1603 ?_
        obtain ⟨r_40, hc_39, hr⟩ := gBind_some hr
        refine c_X11_isIn (pc := 36) C dX11_isWellOfScene_36 q1538 ⟨Nat.le_of_ble_eq_true rfl, Nat.le_of_ble_eq_true rfl⟩ hc_39 (Nat.le_of_ble_eq_true rfl) ?_
        refine r_goto (pc := 39) (tgt := 72) C dX11_isWellOfScene_39 rfl ?_
        obtain ⟨g_41, hr⟩ := gG_some hr
        exact r_zret (pc := 72) CR dX11_isWellOfScene_72 (gb_nar g_41) (congrArg (fun z => some (Value.int z)) (gSome hr)) rfl
    · replace hr := (if_pos c_30).symm.trans hr
      refine r_iload_n (pc := 12) C dX11_isWellOfScene_12 rfl 2 rfl ?_
      refine r_i2l (pc := 13) C dX11_isWellOfScene_13 ?_
      refine r_lconst (pc := 14) (v := 1) C dX11_isWellOfScene_14 rfl ?_
      refine r_ldc2 (pc := 15) C dX11_isWellOfScene_15 q1602 ?_
      obtain ⟨r_43, hc_42, hr⟩ := gBind_some hr
      refine c_X11_isIn (pc := 18) C dX11_isWellOfScene_18 q1538 ⟨Nat.le_of_ble_eq_true rfl, Nat.le_of_ble_eq_true rfl⟩ hc_42 (Nat.le_of_ble_eq_true rfl) ?_
      refine r_goto (pc := 21) (tgt := 72) C dX11_isWellOfScene_21 rfl ?_
      obtain ⟨g_44, hr⟩ := gG_some hr
      exact r_zret (pc := 72) CR dX11_isWellOfScene_72 (gb_nar g_44) (congrArg (fun z => some (Value.int z)) (gSome hr)) rfl
theorem c_X11_isWellOfScene {Ψ : gM → Nat → List (Nat × Value) → List Value → Prop} {G : gG5} {nf : Nat} {cc : ByteArray} {own : String} {nL : Nat} {ret : Option FieldType} {fr lo : Nat} {v0 : Option Value} {M0 M : gM} {pc index : Nat} {ls : List (Nat × Value)} {st : List Value} (C : gC Ψ G (gXn nf) cc own nL ret fr lo v0 M0) (d : decode cc pc = .ok (.invokestatic index, 3)) (hl : Cond.methodLink own index yX11_isWellOfScene ∈ gws) (hR : 2 ≤ fr ∧ 47 ≤ lo) {p0 : Int32} {p1 : Int32} {p2 : Int32} {r : Int32} (hr : X11_isWellOfScene p0 p1 p2 M = some r) (hcat : (st.map fun v => v.category).sum ≤ 8) (k : Ψ M (pc + 3) ls (.int r :: st)) : Ψ M pc ls (.int p2 :: .int p1 :: .int p0 :: st) := r_callS C [.int p0, .int p1, .int p2] st d (k_X11_isWellOfScene hr) hl q1600 q127 q1601 hd_X11_isWellOfScene hR rfl hcat k
