theorem hd_X11_orders : yX11_orders.cls ≠ "java/lang/invoke/MethodHandle" ∧ yX11_orders.cls ≠ "java/lang/invoke/VarHandle" ∧ (parseMethodDescriptor yX11_orders.desc).map (fun d => d.parameters.length) = some 1 := by decide +kernel
noncomputable def X11_orders_L30 (x1 : Int32) (x2 : Int32) (x3 : Int32) (M : gM) : Option ((Int32 × Int32 × gM) ⊕ (Int32 × gM)) := (if (M.1 50 0 16) ≤ x3 then some (.inr (x2, M)) else (if 4 ≤ x2 then some (.inr (x2, M)) else (X11_asks 8 x3 M).bind (fun M_9 => (if (M_9.1 50 0 31) = 0 then gG (gin ((12 * x3) + 10) 120) ((if 8 ≤ (M_9.1 52 4 (Int32.toNatClampNeg ((12 * x3) + 10))) then gG (gin x2 4) (gLet (wI M_9 52 19 (Int32.toNatClampNeg x2) x3) (fun M_15 => gLet (x2 + 1) (fun x2_16 => gLet (x3 + 1) (fun x3_17 => some (.inl (x2_16, x3_17, M_15)))))) else gLet (x3 + 1) (fun x3_18 => some (.inl (x2, x3_18, M_9))))) else gLet (x3 + 1) (fun x3_11 => some (.inl (x2, x3_11, M_9)))))))
theorem t_X11_orders_L30 {Ψ : gM → Nat → List (Nat × Value) → List Value → Prop} {G : gG5} {nf : Nat} {M : gM} {v0 : Option Value} {M0 : gM} {x1 : Int32} {x2 : Int32} {x3 : Int32} {w : ((Int32 × Int32 × gM) ⊕ (Int32 × gM))} (C : gC Ψ G (gXn nf) cX11_orders RX11 9 (some .int) 8 209 v0 M0) (hr : X11_orders_L30 x1 x2 x3 M = some w) (hn : ∀ s, w = .inl s → Ψ s.2.2 30 [(0, .ref (gad 50 0)), (1, .int x1), (2, .int (s.1)), (3, .int (s.2.1))] []) (hx : ∀ e, w = .inr e → (fun e => Ψ e.2 95 [(0, .ref (gad 50 0)), (1, .int x1), (2, .int (e.1))] []) e) : Ψ M 30 [(0, .ref (gad 50 0)), (1, .int x1), (2, .int x2), (3, .int x3)] [] := by
  refine r_iload_n (pc := 30) C dX11_orders_30 rfl 3 rfl ?_
  refine r_aload_n (pc := 31) C dX11_orders_31 rfl 0 rfl ?_
  refine g50_16 (pc := 32) C dX11_orders_32 q1416 (e50 nf) ?_
  refine r_icmp_ge (pc := 35) (tgt := 95) C dX11_orders_35 rfl (fun c_6 => ?_) (fun c_6 => ?_)
  · replace hr := (if_pos c_6).symm.trans hr
    refine r_sub C [0, 1, 2] (ls' := [(0, .ref (gad 50 0)), (1, .int x1), (2, .int x2)]) rfl ?_
    exact hx (x2, M) (gSome hr)
  · replace hr := (if_neg c_6).symm.trans hr
    refine r_iload_n (pc := 38) C dX11_orders_38 rfl 2 rfl ?_
    refine r_iconst (pc := 39) C dX11_orders_39 ki4 ?_
    refine r_icmp_ge (pc := 40) (tgt := 95) C dX11_orders_40 rfl (fun c_7 => ?_) (fun c_7 => ?_)
    · replace hr := (if_pos c_7).symm.trans hr
      refine r_sub C [0, 1, 2] (ls' := [(0, .ref (gad 50 0)), (1, .int x1), (2, .int x2)]) rfl ?_
      exact hx (x2, M) (gSome hr)
    · replace hr := (if_neg c_7).symm.trans hr
      refine r_aload_n (pc := 43) C dX11_orders_43 rfl 0 rfl ?_
      refine r_aload_n (pc := 44) C dX11_orders_44 rfl 0 rfl ?_
      refine g50_18 (pc := 45) C dX11_orders_45 q1418 (e50 nf) ?_
      refine r_iload_n (pc := 48) C dX11_orders_48 rfl 3 rfl ?_
      obtain ⟨M_9, hc_8, hr⟩ := gBind_some hr
      refine c_X11_asks (pc := 49) C dX11_orders_49 q1652 ⟨Nat.le_of_ble_eq_true rfl, Nat.le_of_ble_eq_true rfl⟩ (by decide) hc_8 (Nat.le_of_ble_eq_true rfl) ?_
      refine r_aload_n (pc := 52) C dX11_orders_52 rfl 0 rfl ?_
      refine g50_31 (pc := 53) C dX11_orders_53 q1431 (e50 nf) ?_
      refine r_if_ne (pc := 56) (tgt := 89) C dX11_orders_56 rfl (fun c_10 => ?_) (fun c_10 => ?_)
      · replace hr := (if_neg c_10).symm.trans hr
        obtain ⟨x3_11, ex3_11, hr⟩ := gLet_some hr
        refine r_iinc (pc := 89) C dX11_orders_89 3 rfl rfl (by decide) ex3_11 (ls' := [(3, .int x3_11), (0, .ref (gad 50 0)), (1, .int x1), (2, .int x2)]) rfl ?_
        refine r_goto (pc := 92) (tgt := 30) C dX11_orders_92 rfl ?_
        refine r_sub C [1, 2, 3, 0] (ls' := [(0, .ref (gad 50 0)), (1, .int x1), (2, .int x2), (3, .int x3_11)]) rfl ?_
        exact hn (x2, x3_11, M_9) (gSome hr)
      · replace hr := (if_pos c_10).symm.trans hr
        refine r_aload_n (pc := 59) C dX11_orders_59 rfl 0 rfl ?_
        refine g50_11 (pc := 60) C dX11_orders_60 q1411 (e50 nf) ?_
        refine r_bipush (pc := 63) C dX11_orders_63 kb12 ?_
        refine r_iload_n (pc := 65) C dX11_orders_65 rfl 3 rfl ?_
        refine r_imul (pc := 66) C dX11_orders_66 ?_
        refine r_bipush (pc := 67) C dX11_orders_67 kb10 ?_
        refine r_iadd (pc := 69) C dX11_orders_69 ?_
        obtain ⟨g_12, hr⟩ := gG_some hr
        refine r_ialdN (pc := 70) C dX11_orders_70 rfl (e52 (nf := nf) (by decide)) g_12 rfl ?_
        refine r_bipush (pc := 71) C dX11_orders_71 kb8 ?_
        refine r_icmp_ge (pc := 73) (tgt := 79) C dX11_orders_73 rfl (fun c_13 => ?_) (fun c_13 => ?_)
        · replace hr := (if_pos c_13).symm.trans hr
          refine r_aload_n (pc := 79) C dX11_orders_79 rfl 0 rfl ?_
          refine g50_37 (pc := 80) C dX11_orders_80 q1437 (e50 nf) ?_
          refine r_iload_n (pc := 83) C dX11_orders_83 rfl 2 rfl ?_
          refine r_iload_n (pc := 84) C dX11_orders_84 rfl 3 rfl ?_
          obtain ⟨g_14, hr⟩ := gG_some hr
          obtain ⟨M_15, eM_15, hr⟩ := gLet_some hr
          refine r_iastN (pc := 85) C dX11_orders_85 rfl (e52 (nf := nf) (by decide)) g_14 rfl eM_15 ?_
          obtain ⟨x2_16, ex2_16, hr⟩ := gLet_some hr
          refine r_iinc (pc := 86) C dX11_orders_86 2 rfl rfl (by decide) ex2_16 (ls' := [(2, .int x2_16), (0, .ref (gad 50 0)), (1, .int x1), (3, .int x3)]) rfl ?_
          obtain ⟨x3_17, ex3_17, hr⟩ := gLet_some hr
          refine r_iinc (pc := 89) C dX11_orders_89 3 rfl rfl (by decide) ex3_17 (ls' := [(3, .int x3_17), (2, .int x2_16), (0, .ref (gad 50 0)), (1, .int x1)]) rfl ?_
          refine r_goto (pc := 92) (tgt := 30) C dX11_orders_92 rfl ?_
          refine r_sub C [2, 3, 1, 0] (ls' := [(0, .ref (gad 50 0)), (1, .int x1), (2, .int x2_16), (3, .int x3_17)]) rfl ?_
          exact hn (x2_16, x3_17, M_15) (gSome hr)
        · replace hr := (if_neg c_13).symm.trans hr
          refine r_goto (pc := 76) (tgt := 89) C dX11_orders_76 rfl ?_
          obtain ⟨x3_18, ex3_18, hr⟩ := gLet_some hr
          refine r_iinc (pc := 89) C dX11_orders_89 3 rfl rfl (by decide) ex3_18 (ls' := [(3, .int x3_18), (0, .ref (gad 50 0)), (1, .int x1), (2, .int x2)]) rfl ?_
          refine r_goto (pc := 92) (tgt := 30) C dX11_orders_92 rfl ?_
          refine r_sub C [1, 2, 3, 0] (ls' := [(0, .ref (gad 50 0)), (1, .int x1), (2, .int x2), (3, .int x3_18)]) rfl ?_
          exact hn (x2, x3_18, M_9) (gSome hr)
noncomputable def X11_orders_L174 (x1 : Int32) (x2 : Int32) (x3 : Int32) (x4 : Int32) (x5 : Int32) (x6 : Int32) (x7 : Int32) (x8 : Int32) (M : gM) : Option ((Int32 × gM) ⊕ gM) := (if x2 ≤ x8 then some (.inr M) else (X11_inOrder x7 x2 x8 M).bind (fun r_32 => gG (gin r_32 4) ((X11_draws 9 (M.1 52 19 (Int32.toNatClampNeg r_32)) M).bind (gU2 (fun r_35 M_36 => gLet (x8 + 1) (fun x8_37 => some (.inl (x8_37, M_36))))))))
theorem t_X11_orders_L174 {Ψ : gM → Nat → List (Nat × Value) → List Value → Prop} {G : gG5} {nf : Nat} {M : gM} {v0 : Option Value} {M0 : gM} {x1 : Int32} {x2 : Int32} {x3 : Int32} {x4 : Int32} {x5 : Int32} {x6 : Int32} {x7 : Int32} {x8 : Int32} {w : ((Int32 × gM) ⊕ gM)} (C : gC Ψ G (gXn nf) cX11_orders RX11 9 (some .int) 8 209 v0 M0) (hr : X11_orders_L174 x1 x2 x3 x4 x5 x6 x7 x8 M = some w) (hn : ∀ s, w = .inl s → Ψ s.2 174 [(0, .ref (gad 50 0)), (1, .int x1), (2, .int x2), (3, .int x3), (4, .int x4), (5, .int x5), (6, .int x6), (7, .int x7), (8, .int (s.1))] []) (hx : ∀ e, w = .inr e → (fun e => Ψ e 209 [(0, .ref (gad 50 0)), (1, .int x1), (2, .int x2), (3, .int x3), (4, .int x4), (5, .int x5), (6, .int x6), (7, .int x7)] []) e) : Ψ M 174 [(0, .ref (gad 50 0)), (1, .int x1), (2, .int x2), (3, .int x3), (4, .int x4), (5, .int x5), (6, .int x6), (7, .int x7), (8, .int x8)] [] := by
  refine r_iload (pc := 174) C dX11_orders_174 8 rfl ?_
  refine r_iload_n (pc := 176) C dX11_orders_176 rfl 2 rfl ?_
  refine r_icmp_ge (pc := 177) (tgt := 209) C dX11_orders_177 rfl (fun c_30 => ?_) (fun c_30 => ?_)
  · replace hr := (if_pos c_30).symm.trans hr
    refine r_sub C [0, 1, 2, 3, 4, 5, 6, 7] (ls' := [(0, .ref (gad 50 0)), (1, .int x1), (2, .int x2), (3, .int x3), (4, .int x4), (5, .int x5), (6, .int x6), (7, .int x7)]) rfl ?_
    exact hx M (gSome hr)
  · replace hr := (if_neg c_30).symm.trans hr
    refine r_aload_n (pc := 180) C dX11_orders_180 rfl 0 rfl ?_
    refine r_aload_n (pc := 181) C dX11_orders_181 rfl 0 rfl ?_
    refine g50_19 (pc := 182) C dX11_orders_182 q1419 (e50 nf) ?_
    refine r_aload_n (pc := 185) C dX11_orders_185 rfl 0 rfl ?_
    refine g50_37 (pc := 186) C dX11_orders_186 q1437 (e50 nf) ?_
    refine r_aload_n (pc := 189) C dX11_orders_189 rfl 0 rfl ?_
    refine r_iload (pc := 190) C dX11_orders_190 7 rfl ?_
    refine r_iload_n (pc := 192) C dX11_orders_192 rfl 2 rfl ?_
    refine r_iload (pc := 193) C dX11_orders_193 8 rfl ?_
    obtain ⟨r_32, hc_31, hr⟩ := gBind_some hr
    refine c_X11_inOrder (pc := 195) C dX11_orders_195 q2028 ⟨Nat.le_of_ble_eq_true rfl, Nat.le_of_ble_eq_true rfl⟩ hc_31 (Nat.le_of_ble_eq_true rfl) ?_
    obtain ⟨g_33, hr⟩ := gG_some hr
    refine r_ialdN (pc := 198) C dX11_orders_198 rfl (e52 (nf := nf) (by decide)) g_33 rfl ?_
    obtain ⟨⟨r_35, M_36⟩, hc_34, hr⟩ := gBind_some hr
    replace hr := gU2_some hr
    refine c_X11_draws (pc := 199) C dX11_orders_199 q1705 ⟨Nat.le_of_ble_eq_true rfl, Nat.le_of_ble_eq_true rfl⟩ (by decide) hc_34 (Nat.le_of_ble_eq_true rfl) ?_
    refine r_pop (pc := 202) C dX11_orders_202 rfl ?_
    obtain ⟨x8_37, ex8_37, hr⟩ := gLet_some hr
    refine r_iinc (pc := 203) C dX11_orders_203 8 rfl rfl (by decide) ex8_37 (ls' := [(8, .int x8_37), (0, .ref (gad 50 0)), (1, .int x1), (2, .int x2), (3, .int x3), (4, .int x4), (5, .int x5), (6, .int x6), (7, .int x7)]) rfl ?_
    refine r_goto (pc := 206) (tgt := 174) C dX11_orders_206 rfl ?_
    refine r_sub C [1, 2, 3, 4, 5, 6, 7, 8, 0] (ls' := [(0, .ref (gad 50 0)), (1, .int x1), (2, .int x2), (3, .int x3), (4, .int x4), (5, .int x5), (6, .int x6), (7, .int x7), (8, .int x8_37)]) rfl ?_
    exact hn (x8_37, M_36) (gSome hr)
noncomputable def X11_orders_L135 (x1 : Int32) (x2 : Int32) (x3 : Int32) (x4 : Int32) (x5 : Int32) (x6 : Int32) (x7 : Int32) (M : gM) : Option ((Int32 × Int32 × Int32 × Int32 × gM) ⊕ (Int32 × Int32 × Int32 × gM)) := (if x3 ≤ x7 then some (.inr (x4, x5, x6, M)) else (X11_copyRow 8 0 9 0 M).bind (fun M_26 => (X11_clears 9 M_26).bind (fun M_28 => gLet (wI M_28 52 9 1059 0) (fun M_29 => (gIter (fun s => X11_orders_L174 x1 x2 x3 x4 x5 x6 x7 s.1 s.2) FU (0, M_29)).bind (fun M_38 => (X11_flushesAll 9 M_38).bind (fun M_40 => (X11_pairs 9 M_40).bind (fun r_42 => (if x4 = (-1) then (if r_42 ≤ x6 then gLet (x7 + 1) (fun x7_45 => some (.inl (x7, r_42, x6, x7_45, M_40))) else gLet (x7 + 1) (fun x7_46 => some (.inl (x7, r_42, r_42, x7_46, M_40)))) else (if x5 ≤ r_42 then (if r_42 ≤ x6 then gLet (x7 + 1) (fun x7_49 => some (.inl (x4, x5, x6, x7_49, M_40))) else gLet (x7 + 1) (fun x7_50 => some (.inl (x4, x5, r_42, x7_50, M_40)))) else (if r_42 ≤ x6 then gLet (x7 + 1) (fun x7_52 => some (.inl (x7, r_42, x6, x7_52, M_40))) else gLet (x7 + 1) (fun x7_53 => some (.inl (x7, r_42, r_42, x7_53, M_40)))))))))))))
theorem t_X11_orders_L135 {Ψ : gM → Nat → List (Nat × Value) → List Value → Prop} {G : gG5} {nf : Nat} {M : gM} {v0 : Option Value} {M0 : gM} {x1 : Int32} {x2 : Int32} {x3 : Int32} {x4 : Int32} {x5 : Int32} {x6 : Int32} {x7 : Int32} {w : ((Int32 × Int32 × Int32 × Int32 × gM) ⊕ (Int32 × Int32 × Int32 × gM))} (C : gC Ψ G (gXn nf) cX11_orders RX11 9 (some .int) 8 209 v0 M0) (hr : X11_orders_L135 x1 x2 x3 x4 x5 x6 x7 M = some w) (hn : ∀ s, w = .inl s → Ψ s.2.2.2.2 135 [(0, .ref (gad 50 0)), (1, .int x1), (2, .int x2), (3, .int x3), (4, .int (s.1)), (5, .int (s.2.1)), (6, .int (s.2.2.1)), (7, .int (s.2.2.2.1))] []) (hx : ∀ e, w = .inr e → (fun e => Ψ e.2.2.2 270 [(1, .int x1), (4, .int (e.1)), (5, .int (e.2.1)), (6, .int (e.2.2.1))] []) e) : Ψ M 135 [(0, .ref (gad 50 0)), (1, .int x1), (2, .int x2), (3, .int x3), (4, .int x4), (5, .int x5), (6, .int x6), (7, .int x7)] [] := by
  refine r_iload (pc := 135) C dX11_orders_135 7 rfl ?_
  refine r_iload_n (pc := 137) C dX11_orders_137 rfl 3 rfl ?_
  refine r_icmp_ge (pc := 138) (tgt := 270) C dX11_orders_138 rfl (fun c_24 => ?_) (fun c_24 => ?_)
  · replace hr := (if_pos c_24).symm.trans hr
    refine r_sub C [1, 4, 5, 6] (ls' := [(1, .int x1), (4, .int x4), (5, .int x5), (6, .int x6)]) rfl ?_
    exact hx (x4, x5, x6, M) (gSome hr)
  · replace hr := (if_neg c_24).symm.trans hr
    refine r_aload_n (pc := 141) C dX11_orders_141 rfl 0 rfl ?_
    refine g50_18 (pc := 142) C dX11_orders_142 q1418 (e50 nf) ?_
    refine r_iconst (pc := 145) C dX11_orders_145 ki0 ?_
    refine r_aload_n (pc := 146) C dX11_orders_146 rfl 0 rfl ?_
    refine g50_19 (pc := 147) C dX11_orders_147 q1419 (e50 nf) ?_
    refine r_iconst (pc := 150) C dX11_orders_150 ki0 ?_
    obtain ⟨M_26, hc_25, hr⟩ := gBind_some hr
    refine c_X11_copyRow (pc := 151) C dX11_orders_151 q1702 ⟨Nat.le_of_ble_eq_true rfl, Nat.le_of_ble_eq_true rfl⟩ (by decide) (by decide) hc_25 (Nat.le_of_ble_eq_true rfl) ?_
    refine r_aload_n (pc := 154) C dX11_orders_154 rfl 0 rfl ?_
    refine r_aload_n (pc := 155) C dX11_orders_155 rfl 0 rfl ?_
    refine g50_19 (pc := 156) C dX11_orders_156 q1419 (e50 nf) ?_
    obtain ⟨M_28, hc_27, hr⟩ := gBind_some hr
    refine c_X11_clears (pc := 159) C dX11_orders_159 q1632 ⟨Nat.le_of_ble_eq_true rfl, Nat.le_of_ble_eq_true rfl⟩ (by decide) hc_27 (Nat.le_of_ble_eq_true rfl) ?_
    refine r_aload_n (pc := 162) C dX11_orders_162 rfl 0 rfl ?_
    refine g50_19 (pc := 163) C dX11_orders_163 q1419 (e50 nf) ?_
    refine r_sipush (pc := 166) C dX11_orders_166 ks1059 ?_
    refine r_iconst (pc := 169) C dX11_orders_169 ki0 ?_
    obtain ⟨M_29, eM_29, hr⟩ := gLet_some hr
    refine r_iastN (pc := 170) C dX11_orders_170 rfl (e52 (nf := nf) (by decide)) (by decide : gin 1059 1242 = true) kc1059 eM_29 ?_
    refine r_iconst (pc := 171) C dX11_orders_171 ki0 ?_
    refine r_istore (pc := 172) C dX11_orders_172 (by decide) rfl (ls' := [(8, .int 0), (0, .ref (gad 50 0)), (1, .int x1), (2, .int x2), (3, .int x3), (4, .int x4), (5, .int x5), (6, .int x6), (7, .int x7)]) rfl ?_
    refine r_sub C [1, 2, 3, 4, 5, 6, 7, 8, 0] (ls' := [(0, .ref (gad 50 0)), (1, .int x1), (2, .int x2), (3, .int x3), (4, .int x4), (5, .int x5), (6, .int x6), (7, .int x7), (8, .int 0)]) rfl ?_
    obtain ⟨ev, hit, hr⟩ := gBind_some hr
    refine gIter_V (step := fun s => X11_orders_L174 x1 x2 x3 x4 x5 x6 x7 s.1 s.2) (P := fun s => Ψ s.2 174 [(0, .ref (gad 50 0)), (1, .int x1), (2, .int x2), (3, .int x3), (4, .int x4), (5, .int x5), (6, .int x6), (7, .int x7), (8, .int (s.1))] []) (K := (fun e => Ψ e 209 [(0, .ref (gad 50 0)), (1, .int x1), (2, .int x2), (3, .int x3), (4, .int x4), (5, .int x5), (6, .int x6), (7, .int x7)] [])) (fun s w hs hn hx => t_X11_orders_L174 C  hs hn hx) FU (0, M_29) ev hit ?_
    obtain ⟨M_38, rfl⟩ : ∃ z, z = ev := ⟨_, rfl⟩
    show Ψ M_38 209 [(0, .ref (gad 50 0)), (1, .int x1), (2, .int x2), (3, .int x3), (4, .int x4), (5, .int x5), (6, .int x6), (7, .int x7)] []
    refine r_aload_n (pc := 209) C dX11_orders_209 rfl 0 rfl ?_
    refine r_aload_n (pc := 210) C dX11_orders_210 rfl 0 rfl ?_
    refine g50_19 (pc := 211) C dX11_orders_211 q1419 (e50 nf) ?_
    obtain ⟨M_40, hc_39, hr⟩ := gBind_some hr
    refine c_X11_flushesAll (pc := 214) C dX11_orders_214 q1803 ⟨Nat.le_of_ble_eq_true rfl, Nat.le_of_ble_eq_true rfl⟩ (by decide) hc_39 (Nat.le_of_ble_eq_true rfl) ?_
    refine r_aload_n (pc := 217) C dX11_orders_217 rfl 0 rfl ?_
    refine r_aload_n (pc := 218) C dX11_orders_218 rfl 0 rfl ?_
    refine g50_19 (pc := 219) C dX11_orders_219 q1419 (e50 nf) ?_
    obtain ⟨r_42, hc_41, hr⟩ := gBind_some hr
    refine c_X11_pairs (pc := 222) C dX11_orders_222 q1773 ⟨Nat.le_of_ble_eq_true rfl, Nat.le_of_ble_eq_true rfl⟩ (by decide) hc_41 (Nat.le_of_ble_eq_true rfl) ?_
    refine r_istore (pc := 225) C dX11_orders_225 (by decide) rfl (ls' := [(8, .int r_42), (0, .ref (gad 50 0)), (1, .int x1), (2, .int x2), (3, .int x3), (4, .int x4), (5, .int x5), (6, .int x6), (7, .int x7)]) rfl ?_
    refine r_iload (pc := 227) C dX11_orders_227 5 rfl ?_
    refine r_iconst (pc := 229) C dX11_orders_229 kim1 ?_
    refine r_icmp_eq (pc := 230) (tgt := 240) C dX11_orders_230 rfl (fun c_43 => ?_) (fun c_43 => ?_)
    · replace hr := (if_pos c_43).symm.trans hr
      refine r_iload (pc := 240) C dX11_orders_240 8 rfl ?_
      refine r_istore (pc := 242) C dX11_orders_242 (by decide) rfl (ls' := [(4, .int x7), (8, .int r_42), (0, .ref (gad 50 0)), (1, .int x1), (2, .int x2), (3, .int x3), (5, .int x5), (6, .int x6), (7, .int x7)]) rfl ?_
      refine r_iload (pc := 244) C dX11_orders_244 1 rfl ?_
      refine r_istore (pc := 246) C dX11_orders_246 (by decide) rfl (ls' := [(5, .int r_42), (4, .int x7), (8, .int r_42), (0, .ref (gad 50 0)), (1, .int x1), (2, .int x2), (3, .int x3), (6, .int x6), (7, .int x7)]) rfl ?_
      refine r_iload (pc := 248) C dX11_orders_248 2 rfl ?_
      refine r_iload (pc := 250) C dX11_orders_250 7 rfl ?_
      refine r_icmp_le (pc := 252) (tgt := 260) C dX11_orders_252 rfl (fun c_44 => ?_) (fun c_44 => ?_)
      · replace hr := (if_pos c_44).symm.trans hr
        refine r_iload (pc := 260) C dX11_orders_260 7 rfl ?_
        refine r_istore (pc := 262) C dX11_orders_262 (by decide) rfl (ls' := [(6, .int x6), (5, .int r_42), (4, .int x7), (8, .int r_42), (0, .ref (gad 50 0)), (1, .int x1), (2, .int x2), (3, .int x3), (7, .int x7)]) rfl ?_
        obtain ⟨x7_45, ex7_45, hr⟩ := gLet_some hr
        refine r_iinc (pc := 264) C dX11_orders_264 8 rfl rfl (by decide) ex7_45 (ls' := [(7, .int x7_45), (6, .int x6), (5, .int r_42), (4, .int x7), (8, .int r_42), (0, .ref (gad 50 0)), (1, .int x1), (2, .int x2), (3, .int x3)]) rfl ?_
        refine r_goto (pc := 267) (tgt := 135) C dX11_orders_267 rfl ?_
        refine r_sub C [5, 6, 7, 8, 3, 2, 1, 0] (ls' := [(0, .ref (gad 50 0)), (1, .int x1), (2, .int x2), (3, .int x3), (4, .int x7), (5, .int r_42), (6, .int x6), (7, .int x7_45)]) rfl ?_
        exact hn (x7, r_42, x6, x7_45, M_40) (gSome hr)
      · replace hr := (if_neg c_44).symm.trans hr
        refine r_iload (pc := 255) C dX11_orders_255 2 rfl ?_
        refine r_goto (pc := 257) (tgt := 262) C dX11_orders_257 rfl ?_
        refine r_istore (pc := 262) C dX11_orders_262 (by decide) rfl (ls' := [(6, .int r_42), (5, .int r_42), (4, .int x7), (8, .int r_42), (0, .ref (gad 50 0)), (1, .int x1), (2, .int x2), (3, .int x3), (7, .int x7)]) rfl ?_
        obtain ⟨x7_46, ex7_46, hr⟩ := gLet_some hr
        refine r_iinc (pc := 264) C dX11_orders_264 8 rfl rfl (by decide) ex7_46 (ls' := [(7, .int x7_46), (6, .int r_42), (5, .int r_42), (4, .int x7), (8, .int r_42), (0, .ref (gad 50 0)), (1, .int x1), (2, .int x2), (3, .int x3)]) rfl ?_
        refine r_goto (pc := 267) (tgt := 135) C dX11_orders_267 rfl ?_
        refine r_sub C [5, 6, 7, 8, 3, 2, 1, 0] (ls' := [(0, .ref (gad 50 0)), (1, .int x1), (2, .int x2), (3, .int x3), (4, .int x7), (5, .int r_42), (6, .int r_42), (7, .int x7_46)]) rfl ?_
        exact hn (x7, r_42, r_42, x7_46, M_40) (gSome hr)
    · replace hr := (if_neg c_43).symm.trans hr
      refine r_iload (pc := 233) C dX11_orders_233 0 rfl ?_
      refine r_iload (pc := 235) C dX11_orders_235 6 rfl ?_
      refine r_icmp_ge (pc := 237) (tgt := 248) C dX11_orders_237 rfl (fun c_47 => ?_) (fun c_47 => ?_)
      · replace hr := (if_pos c_47).symm.trans hr
        refine r_iload (pc := 248) C dX11_orders_248 0 rfl ?_
        refine r_iload (pc := 250) C dX11_orders_250 7 rfl ?_
        refine r_icmp_le (pc := 252) (tgt := 260) C dX11_orders_252 rfl (fun c_48 => ?_) (fun c_48 => ?_)
        · replace hr := (if_pos c_48).symm.trans hr
          refine r_iload (pc := 260) C dX11_orders_260 7 rfl ?_
          refine r_istore (pc := 262) C dX11_orders_262 (by decide) rfl (ls' := [(6, .int x6), (8, .int r_42), (0, .ref (gad 50 0)), (1, .int x1), (2, .int x2), (3, .int x3), (4, .int x4), (5, .int x5), (7, .int x7)]) rfl ?_
          obtain ⟨x7_49, ex7_49, hr⟩ := gLet_some hr
          refine r_iinc (pc := 264) C dX11_orders_264 8 rfl rfl (by decide) ex7_49 (ls' := [(7, .int x7_49), (6, .int x6), (8, .int r_42), (0, .ref (gad 50 0)), (1, .int x1), (2, .int x2), (3, .int x3), (4, .int x4), (5, .int x5)]) rfl ?_
          refine r_goto (pc := 267) (tgt := 135) C dX11_orders_267 rfl ?_
          refine r_sub C [3, 4, 5, 6, 7, 8, 1, 0] (ls' := [(0, .ref (gad 50 0)), (1, .int x1), (2, .int x2), (3, .int x3), (4, .int x4), (5, .int x5), (6, .int x6), (7, .int x7_49)]) rfl ?_
          exact hn (x4, x5, x6, x7_49, M_40) (gSome hr)
        · replace hr := (if_neg c_48).symm.trans hr
          refine r_iload (pc := 255) C dX11_orders_255 0 rfl ?_
          refine r_goto (pc := 257) (tgt := 262) C dX11_orders_257 rfl ?_
          refine r_istore (pc := 262) C dX11_orders_262 (by decide) rfl (ls' := [(6, .int r_42), (8, .int r_42), (0, .ref (gad 50 0)), (1, .int x1), (2, .int x2), (3, .int x3), (4, .int x4), (5, .int x5), (7, .int x7)]) rfl ?_
          obtain ⟨x7_50, ex7_50, hr⟩ := gLet_some hr
          refine r_iinc (pc := 264) C dX11_orders_264 8 rfl rfl (by decide) ex7_50 (ls' := [(7, .int x7_50), (6, .int r_42), (8, .int r_42), (0, .ref (gad 50 0)), (1, .int x1), (2, .int x2), (3, .int x3), (4, .int x4), (5, .int x5)]) rfl ?_
          refine r_goto (pc := 267) (tgt := 135) C dX11_orders_267 rfl ?_
          refine r_sub C [3, 4, 5, 6, 7, 8, 1, 0] (ls' := [(0, .ref (gad 50 0)), (1, .int x1), (2, .int x2), (3, .int x3), (4, .int x4), (5, .int x5), (6, .int r_42), (7, .int x7_50)]) rfl ?_
          exact hn (x4, x5, r_42, x7_50, M_40) (gSome hr)
      · replace hr := (if_neg c_47).symm.trans hr
        refine r_iload (pc := 240) C dX11_orders_240 8 rfl ?_
        refine r_istore (pc := 242) C dX11_orders_242 (by decide) rfl (ls' := [(4, .int x7), (8, .int r_42), (0, .ref (gad 50 0)), (1, .int x1), (2, .int x2), (3, .int x3), (5, .int x5), (6, .int x6), (7, .int x7)]) rfl ?_
        refine r_iload (pc := 244) C dX11_orders_244 1 rfl ?_
        refine r_istore (pc := 246) C dX11_orders_246 (by decide) rfl (ls' := [(5, .int r_42), (4, .int x7), (8, .int r_42), (0, .ref (gad 50 0)), (1, .int x1), (2, .int x2), (3, .int x3), (6, .int x6), (7, .int x7)]) rfl ?_
        refine r_iload (pc := 248) C dX11_orders_248 2 rfl ?_
        refine r_iload (pc := 250) C dX11_orders_250 7 rfl ?_
        refine r_icmp_le (pc := 252) (tgt := 260) C dX11_orders_252 rfl (fun c_51 => ?_) (fun c_51 => ?_)
        · replace hr := (if_pos c_51).symm.trans hr
          refine r_iload (pc := 260) C dX11_orders_260 7 rfl ?_
          refine r_istore (pc := 262) C dX11_orders_262 (by decide) rfl (ls' := [(6, .int x6), (5, .int r_42), (4, .int x7), (8, .int r_42), (0, .ref (gad 50 0)), (1, .int x1), (2, .int x2), (3, .int x3), (7, .int x7)]) rfl ?_
          obtain ⟨x7_52, ex7_52, hr⟩ := gLet_some hr
          refine r_iinc (pc := 264) C dX11_orders_264 8 rfl rfl (by decide) ex7_52 (ls' := [(7, .int x7_52), (6, .int x6), (5, .int r_42), (4, .int x7), (8, .int r_42), (0, .ref (gad 50 0)), (1, .int x1), (2, .int x2), (3, .int x3)]) rfl ?_
          refine r_goto (pc := 267) (tgt := 135) C dX11_orders_267 rfl ?_
          refine r_sub C [5, 6, 7, 8, 3, 2, 1, 0] (ls' := [(0, .ref (gad 50 0)), (1, .int x1), (2, .int x2), (3, .int x3), (4, .int x7), (5, .int r_42), (6, .int x6), (7, .int x7_52)]) rfl ?_
          exact hn (x7, r_42, x6, x7_52, M_40) (gSome hr)
        · replace hr := (if_neg c_51).symm.trans hr
          refine r_iload (pc := 255) C dX11_orders_255 2 rfl ?_
          refine r_goto (pc := 257) (tgt := 262) C dX11_orders_257 rfl ?_
          refine r_istore (pc := 262) C dX11_orders_262 (by decide) rfl (ls' := [(6, .int r_42), (5, .int r_42), (4, .int x7), (8, .int r_42), (0, .ref (gad 50 0)), (1, .int x1), (2, .int x2), (3, .int x3), (7, .int x7)]) rfl ?_
          obtain ⟨x7_53, ex7_53, hr⟩ := gLet_some hr
          refine r_iinc (pc := 264) C dX11_orders_264 8 rfl rfl (by decide) ex7_53 (ls' := [(7, .int x7_53), (6, .int r_42), (5, .int r_42), (4, .int x7), (8, .int r_42), (0, .ref (gad 50 0)), (1, .int x1), (2, .int x2), (3, .int x3)]) rfl ?_
          refine r_goto (pc := 267) (tgt := 135) C dX11_orders_267 rfl ?_
          refine r_sub C [5, 6, 7, 8, 3, 2, 1, 0] (ls' := [(0, .ref (gad 50 0)), (1, .int x1), (2, .int x2), (3, .int x3), (4, .int x7), (5, .int r_42), (6, .int r_42), (7, .int x7_53)]) rfl ?_
          exact hn (x7, r_42, r_42, x7_53, M_40) (gSome hr)
noncomputable def X11_orders_J95 (x1 : Int32) (x2 : Int32) (M : gM) : Option (Int32 × gM) := (if x2 = 0 then some (0, M) else (if x2 = 4 then (gIter (fun s => X11_orders_L135 x1 x2 24 s.1 s.2.1 s.2.2.1 s.2.2.2.1 s.2.2.2.2) FU ((-1), 0, 0, 0, M)).bind (gU2 (fun x4_66 => (gU2 (fun x5_67 => (gU2 (fun x6_68 M_69 => (if x1 = 0 then some (x5_67, M_69) else (if x1 = 1 then some (x4_66, M_69) else some (x6_68, M_69))))))))) else (if x2 = 3 then (gIter (fun s => X11_orders_L135 x1 x2 6 s.1 s.2.1 s.2.2.1 s.2.2.2.1 s.2.2.2.2) FU ((-1), 0, 0, 0, M)).bind (gU2 (fun x4_60 => (gU2 (fun x5_61 => (gU2 (fun x6_62 M_63 => (if x1 = 0 then some (x5_61, M_63) else (if x1 = 1 then some (x4_60, M_63) else some (x6_62, M_63))))))))) else (gIter (fun s => X11_orders_L135 x1 x2 x2 s.1 s.2.1 s.2.2.1 s.2.2.2.1 s.2.2.2.2) FU ((-1), 0, 0, 0, M)).bind (gU2 (fun x4_54 => (gU2 (fun x5_55 => (gU2 (fun x6_56 M_57 => (if x1 = 0 then some (x5_55, M_57) else (if x1 = 1 then some (x4_54, M_57) else some (x6_56, M_57))))))))))))
theorem t_X11_orders_J95 {Ψ : gM → Nat → List (Nat × Value) → List Value → Prop} {G : gG5} {nf : Nat} {M : gM} {x1 : Int32} {x2 : Int32} {r : Int32} {M1 : gM} (C : gC Ψ G (gXn nf) cX11_orders RX11 9 (some .int) 8 209 (some (.int r)) M1) (CR : gR Ψ cX11_orders (some .int) (some (.int r)) M1) (hr : X11_orders_J95 x1 x2 M = some (r, M1)) : Ψ M 95 [(0, .ref (gad 50 0)), (1, .int x1), (2, .int x2)] [] := by
  refine r_iload_n (pc := 95) C dX11_orders_95 rfl 2 rfl ?_
  refine r_if_ne (pc := 96) (tgt := 101) C dX11_orders_96 rfl (fun c_21 => ?_) (fun c_21 => ?_)
  · replace hr := (if_neg c_21).symm.trans hr
    refine r_iload_n (pc := 101) C dX11_orders_101 rfl 2 rfl ?_
    refine r_iconst (pc := 102) C dX11_orders_102 ki4 ?_
    refine r_icmp_ne (pc := 103) (tgt := 111) C dX11_orders_103 rfl (fun c_22 => ?_) (fun c_22 => ?_)
    · replace hr := (if_neg c_22).symm.trans hr
      refine r_iload_n (pc := 111) C dX11_orders_111 rfl 2 rfl ?_
      refine r_iconst (pc := 112) C dX11_orders_112 ki3 ?_
      refine r_icmp_ne (pc := 113) (tgt := 121) C dX11_orders_113 rfl (fun c_23 => ?_) (fun c_23 => ?_)
      · replace hr := (if_neg c_23).symm.trans hr
        refine r_iload_n (pc := 121) C dX11_orders_121 rfl 2 rfl ?_
        refine r_istore_n (pc := 122) C dX11_orders_122 rfl (by decide) rfl (ls' := [(3, .int x2), (0, .ref (gad 50 0)), (1, .int x1), (2, .int x2)]) rfl ?_
        refine r_iconst (pc := 123) C dX11_orders_123 kim1 ?_
        refine r_istore (pc := 124) C dX11_orders_124 (by decide) rfl (ls' := [(4, .int (-1)), (3, .int x2), (0, .ref (gad 50 0)), (1, .int x1), (2, .int x2)]) rfl ?_
        refine r_iconst (pc := 126) C dX11_orders_126 ki0 ?_
        refine r_istore (pc := 127) C dX11_orders_127 (by decide) rfl (ls' := [(5, .int 0), (4, .int (-1)), (3, .int x2), (0, .ref (gad 50 0)), (1, .int x1), (2, .int x2)]) rfl ?_
        refine r_iconst (pc := 129) C dX11_orders_129 ki0 ?_
        refine r_istore (pc := 130) C dX11_orders_130 (by decide) rfl (ls' := [(6, .int 0), (5, .int 0), (4, .int (-1)), (3, .int x2), (0, .ref (gad 50 0)), (1, .int x1), (2, .int x2)]) rfl ?_
        refine r_iconst (pc := 132) C dX11_orders_132 ki0 ?_
        refine r_istore (pc := 133) C dX11_orders_133 (by decide) rfl (ls' := [(7, .int 0), (6, .int 0), (5, .int 0), (4, .int (-1)), (3, .int x2), (0, .ref (gad 50 0)), (1, .int x1), (2, .int x2)]) rfl ?_
        refine r_sub C [5, 6, 7, 4, 3, 2, 1, 0] (ls' := [(0, .ref (gad 50 0)), (1, .int x1), (2, .int x2), (3, .int x2), (4, .int (-1)), (5, .int 0), (6, .int 0), (7, .int 0)]) rfl ?_
        obtain ⟨ev, hit, hr⟩ := gBind_some hr
        refine gIter_V (step := fun s => X11_orders_L135 x1 x2 x2 s.1 s.2.1 s.2.2.1 s.2.2.2.1 s.2.2.2.2) (P := fun s => Ψ s.2.2.2.2 135 [(0, .ref (gad 50 0)), (1, .int x1), (2, .int x2), (3, .int x2), (4, .int (s.1)), (5, .int (s.2.1)), (6, .int (s.2.2.1)), (7, .int (s.2.2.2.1))] []) (K := (fun e => Ψ e.2.2.2 270 [(1, .int x1), (4, .int (e.1)), (5, .int (e.2.1)), (6, .int (e.2.2.1))] [])) (fun s w hs hn hx => t_X11_orders_L135 C  hs hn hx) FU ((-1), 0, 0, 0, M) ev hit ?_
        obtain ⟨x4_54, x5_55, x6_56, M_57⟩ := ev
        replace hr := gU2_some hr
        replace hr := gU2_some hr
        replace hr := gU2_some hr
        show Ψ M_57 270 [(1, .int x1), (4, .int x4_54), (5, .int x5_55), (6, .int x6_56)] []
        refine r_iload_n (pc := 270) C dX11_orders_270 rfl 0 rfl ?_
        refine r_if_ne (pc := 271) (tgt := 279) C dX11_orders_271 rfl (fun c_58 => ?_) (fun c_58 => ?_)
        · replace hr := (if_neg c_58).symm.trans hr
          refine r_iload_n (pc := 279) C dX11_orders_279 rfl 0 rfl ?_
          refine r_iconst (pc := 280) C dX11_orders_280 ki1 ?_
          refine r_icmp_ne (pc := 281) (tgt := 289) C dX11_orders_281 rfl (fun c_59 => ?_) (fun c_59 => ?_)
          · replace hr := (if_neg c_59).symm.trans hr
            refine r_iload (pc := 289) C dX11_orders_289 3 rfl ?_
            exact r_iret (pc := 291) CR dX11_orders_291 (congrArg (fun z => some (Value.int z)) (Prod.mk.inj (gSome hr)).1) (Prod.mk.inj (gSome hr)).2
          · replace hr := (if_pos c_59).symm.trans hr
            refine r_iload (pc := 284) C dX11_orders_284 1 rfl ?_
            refine r_goto (pc := 286) (tgt := 291) C dX11_orders_286 rfl ?_
            exact r_iret (pc := 291) CR dX11_orders_291 (congrArg (fun z => some (Value.int z)) (Prod.mk.inj (gSome hr)).1) (Prod.mk.inj (gSome hr)).2
        · replace hr := (if_pos c_58).symm.trans hr
          refine r_iload (pc := 274) C dX11_orders_274 2 rfl ?_
          refine r_goto (pc := 276) (tgt := 291) C dX11_orders_276 rfl ?_
          exact r_iret (pc := 291) CR dX11_orders_291 (congrArg (fun z => some (Value.int z)) (Prod.mk.inj (gSome hr)).1) (Prod.mk.inj (gSome hr)).2
      · replace hr := (if_pos c_23).symm.trans hr
        refine r_bipush (pc := 116) C dX11_orders_116 kb6 ?_
        refine r_goto (pc := 118) (tgt := 122) C dX11_orders_118 rfl ?_
        refine r_istore_n (pc := 122) C dX11_orders_122 rfl (by decide) rfl (ls' := [(3, .int 6), (0, .ref (gad 50 0)), (1, .int x1), (2, .int x2)]) rfl ?_
        refine r_iconst (pc := 123) C dX11_orders_123 kim1 ?_
        refine r_istore (pc := 124) C dX11_orders_124 (by decide) rfl (ls' := [(4, .int (-1)), (3, .int 6), (0, .ref (gad 50 0)), (1, .int x1), (2, .int x2)]) rfl ?_
        refine r_iconst (pc := 126) C dX11_orders_126 ki0 ?_
        refine r_istore (pc := 127) C dX11_orders_127 (by decide) rfl (ls' := [(5, .int 0), (4, .int (-1)), (3, .int 6), (0, .ref (gad 50 0)), (1, .int x1), (2, .int x2)]) rfl ?_
        refine r_iconst (pc := 129) C dX11_orders_129 ki0 ?_
        refine r_istore (pc := 130) C dX11_orders_130 (by decide) rfl (ls' := [(6, .int 0), (5, .int 0), (4, .int (-1)), (3, .int 6), (0, .ref (gad 50 0)), (1, .int x1), (2, .int x2)]) rfl ?_
        refine r_iconst (pc := 132) C dX11_orders_132 ki0 ?_
        refine r_istore (pc := 133) C dX11_orders_133 (by decide) rfl (ls' := [(7, .int 0), (6, .int 0), (5, .int 0), (4, .int (-1)), (3, .int 6), (0, .ref (gad 50 0)), (1, .int x1), (2, .int x2)]) rfl ?_
        refine r_sub C [5, 6, 7, 4, 3, 2, 1, 0] (ls' := [(0, .ref (gad 50 0)), (1, .int x1), (2, .int x2), (3, .int 6), (4, .int (-1)), (5, .int 0), (6, .int 0), (7, .int 0)]) rfl ?_
        obtain ⟨ev, hit, hr⟩ := gBind_some hr
        refine gIter_V (step := fun s => X11_orders_L135 x1 x2 6 s.1 s.2.1 s.2.2.1 s.2.2.2.1 s.2.2.2.2) (P := fun s => Ψ s.2.2.2.2 135 [(0, .ref (gad 50 0)), (1, .int x1), (2, .int x2), (3, .int 6), (4, .int (s.1)), (5, .int (s.2.1)), (6, .int (s.2.2.1)), (7, .int (s.2.2.2.1))] []) (K := (fun e => Ψ e.2.2.2 270 [(1, .int x1), (4, .int (e.1)), (5, .int (e.2.1)), (6, .int (e.2.2.1))] [])) (fun s w hs hn hx => t_X11_orders_L135 C  hs hn hx) FU ((-1), 0, 0, 0, M) ev hit ?_
        obtain ⟨x4_60, x5_61, x6_62, M_63⟩ := ev
        replace hr := gU2_some hr
        replace hr := gU2_some hr
        replace hr := gU2_some hr
        show Ψ M_63 270 [(1, .int x1), (4, .int x4_60), (5, .int x5_61), (6, .int x6_62)] []
        refine r_iload_n (pc := 270) C dX11_orders_270 rfl 0 rfl ?_
        refine r_if_ne (pc := 271) (tgt := 279) C dX11_orders_271 rfl (fun c_64 => ?_) (fun c_64 => ?_)
        · replace hr := (if_neg c_64).symm.trans hr
          refine r_iload_n (pc := 279) C dX11_orders_279 rfl 0 rfl ?_
          refine r_iconst (pc := 280) C dX11_orders_280 ki1 ?_
          refine r_icmp_ne (pc := 281) (tgt := 289) C dX11_orders_281 rfl (fun c_65 => ?_) (fun c_65 => ?_)
          · replace hr := (if_neg c_65).symm.trans hr
            refine r_iload (pc := 289) C dX11_orders_289 3 rfl ?_
            exact r_iret (pc := 291) CR dX11_orders_291 (congrArg (fun z => some (Value.int z)) (Prod.mk.inj (gSome hr)).1) (Prod.mk.inj (gSome hr)).2
          · replace hr := (if_pos c_65).symm.trans hr
            refine r_iload (pc := 284) C dX11_orders_284 1 rfl ?_
            refine r_goto (pc := 286) (tgt := 291) C dX11_orders_286 rfl ?_
            exact r_iret (pc := 291) CR dX11_orders_291 (congrArg (fun z => some (Value.int z)) (Prod.mk.inj (gSome hr)).1) (Prod.mk.inj (gSome hr)).2
        · replace hr := (if_pos c_64).symm.trans hr
          refine r_iload (pc := 274) C dX11_orders_274 2 rfl ?_
          refine r_goto (pc := 276) (tgt := 291) C dX11_orders_276 rfl ?_
          exact r_iret (pc := 291) CR dX11_orders_291 (congrArg (fun z => some (Value.int z)) (Prod.mk.inj (gSome hr)).1) (Prod.mk.inj (gSome hr)).2
    · replace hr := (if_pos c_22).symm.trans hr
      refine r_bipush (pc := 106) C dX11_orders_106 kb24 ?_
      refine r_goto (pc := 108) (tgt := 122) C dX11_orders_108 rfl ?_
      refine r_istore_n (pc := 122) C dX11_orders_122 rfl (by decide) rfl (ls' := [(3, .int 24), (0, .ref (gad 50 0)), (1, .int x1), (2, .int x2)]) rfl ?_
      refine r_iconst (pc := 123) C dX11_orders_123 kim1 ?_
      refine r_istore (pc := 124) C dX11_orders_124 (by decide) rfl (ls' := [(4, .int (-1)), (3, .int 24), (0, .ref (gad 50 0)), (1, .int x1), (2, .int x2)]) rfl ?_
      refine r_iconst (pc := 126) C dX11_orders_126 ki0 ?_
      refine r_istore (pc := 127) C dX11_orders_127 (by decide) rfl (ls' := [(5, .int 0), (4, .int (-1)), (3, .int 24), (0, .ref (gad 50 0)), (1, .int x1), (2, .int x2)]) rfl ?_
      refine r_iconst (pc := 129) C dX11_orders_129 ki0 ?_
      refine r_istore (pc := 130) C dX11_orders_130 (by decide) rfl (ls' := [(6, .int 0), (5, .int 0), (4, .int (-1)), (3, .int 24), (0, .ref (gad 50 0)), (1, .int x1), (2, .int x2)]) rfl ?_
      refine r_iconst (pc := 132) C dX11_orders_132 ki0 ?_
      refine r_istore (pc := 133) C dX11_orders_133 (by decide) rfl (ls' := [(7, .int 0), (6, .int 0), (5, .int 0), (4, .int (-1)), (3, .int 24), (0, .ref (gad 50 0)), (1, .int x1), (2, .int x2)]) rfl ?_
      refine r_sub C [5, 6, 7, 4, 3, 2, 1, 0] (ls' := [(0, .ref (gad 50 0)), (1, .int x1), (2, .int x2), (3, .int 24), (4, .int (-1)), (5, .int 0), (6, .int 0), (7, .int 0)]) rfl ?_
      obtain ⟨ev, hit, hr⟩ := gBind_some hr
      refine gIter_V (step := fun s => X11_orders_L135 x1 x2 24 s.1 s.2.1 s.2.2.1 s.2.2.2.1 s.2.2.2.2) (P := fun s => Ψ s.2.2.2.2 135 [(0, .ref (gad 50 0)), (1, .int x1), (2, .int x2), (3, .int 24), (4, .int (s.1)), (5, .int (s.2.1)), (6, .int (s.2.2.1)), (7, .int (s.2.2.2.1))] []) (K := (fun e => Ψ e.2.2.2 270 [(1, .int x1), (4, .int (e.1)), (5, .int (e.2.1)), (6, .int (e.2.2.1))] [])) (fun s w hs hn hx => t_X11_orders_L135 C  hs hn hx) FU ((-1), 0, 0, 0, M) ev hit ?_
      obtain ⟨x4_66, x5_67, x6_68, M_69⟩ := ev
      replace hr := gU2_some hr
      replace hr := gU2_some hr
      replace hr := gU2_some hr
      show Ψ M_69 270 [(1, .int x1), (4, .int x4_66), (5, .int x5_67), (6, .int x6_68)] []
      refine r_iload_n (pc := 270) C dX11_orders_270 rfl 0 rfl ?_
      refine r_if_ne (pc := 271) (tgt := 279) C dX11_orders_271 rfl (fun c_70 => ?_) (fun c_70 => ?_)
      · replace hr := (if_neg c_70).symm.trans hr
        refine r_iload_n (pc := 279) C dX11_orders_279 rfl 0 rfl ?_
        refine r_iconst (pc := 280) C dX11_orders_280 ki1 ?_
        refine r_icmp_ne (pc := 281) (tgt := 289) C dX11_orders_281 rfl (fun c_71 => ?_) (fun c_71 => ?_)
        · replace hr := (if_neg c_71).symm.trans hr
          refine r_iload (pc := 289) C dX11_orders_289 3 rfl ?_
          exact r_iret (pc := 291) CR dX11_orders_291 (congrArg (fun z => some (Value.int z)) (Prod.mk.inj (gSome hr)).1) (Prod.mk.inj (gSome hr)).2
        · replace hr := (if_pos c_71).symm.trans hr
          refine r_iload (pc := 284) C dX11_orders_284 1 rfl ?_
          refine r_goto (pc := 286) (tgt := 291) C dX11_orders_286 rfl ?_
          exact r_iret (pc := 291) CR dX11_orders_291 (congrArg (fun z => some (Value.int z)) (Prod.mk.inj (gSome hr)).1) (Prod.mk.inj (gSome hr)).2
      · replace hr := (if_pos c_70).symm.trans hr
        refine r_iload (pc := 274) C dX11_orders_274 2 rfl ?_
        refine r_goto (pc := 276) (tgt := 291) C dX11_orders_276 rfl ?_
        exact r_iret (pc := 291) CR dX11_orders_291 (congrArg (fun z => some (Value.int z)) (Prod.mk.inj (gSome hr)).1) (Prod.mk.inj (gSome hr)).2
  · replace hr := (if_pos c_21).symm.trans hr
    refine r_iconst (pc := 99) C dX11_orders_99 ki0 ?_
    exact r_iret (pc := 100) CR dX11_orders_100 (congrArg (fun z => some (Value.int z)) (Prod.mk.inj (gSome hr)).1) (Prod.mk.inj (gSome hr)).2
noncomputable def X11_orders (p1 : Int32) (M : gM) : Option (Int32 × gM) := gLet (wI M 50 0 0 0) (fun M_1 => (if (M_1.1 50 0 16) = 0 then some ((-1), M_1) else (X11_isIn (Int32.toInt64 p1) 0 2 M_1).bind (fun r_4 => (if r_4 = 0 then some ((-1), M_1) else (gIter (fun s => X11_orders_L30 p1 s.1 s.2.1 s.2.2) FU (0, 0, M_1)).bind (gU2 (fun x2_19 M_20 => X11_orders_J95 p1 x2_19 M_20))))))
theorem k_X11_orders {G : gG5} {nf : Nat} {M : gM} {p1 : Int32} {r : Int32} {M1 : gM} (hr : X11_orders p1 M = some (r, M1)) : gMet G (gXn nf) yX11_orders cX11_orders 9 (some .int) 8 209 M [.ref (gad 50 0), .int p1] (some (.int r)) M1 := by
  refine gMet_of pl_X11 rfl (Nat.le_of_ble_eq_true rfl) (fun Ψ C CR => ?_)
  show Ψ M 0 [(0, .ref (gad 50 0)), (1, .int p1)] []
  refine r_aload_n (pc := 0) C dX11_orders_0 rfl 0 rfl ?_
  refine r_iconst (pc := 1) C dX11_orders_1 ki0 ?_
  obtain ⟨M_1, eM_1, hr⟩ := gLet_some hr
  refine p50_0 (pc := 2) C dX11_orders_2 q1400 (e50 nf) eM_1 ?_
  refine r_aload_n (pc := 5) C dX11_orders_5 rfl 0 rfl ?_
  refine g50_16 (pc := 6) C dX11_orders_6 q1416 (e50 nf) ?_
  refine r_if_eq (pc := 9) (tgt := 24) C dX11_orders_9 rfl (fun c_2 => ?_) (fun c_2 => ?_)
  · replace hr := (if_pos c_2).symm.trans hr
    refine r_iconst (pc := 24) C dX11_orders_24 kim1 ?_
    exact r_iret (pc := 25) CR dX11_orders_25 (congrArg (fun z => some (Value.int z)) (Prod.mk.inj (gSome hr)).1) (Prod.mk.inj (gSome hr)).2
  · replace hr := (if_neg c_2).symm.trans hr
    refine r_iload_n (pc := 12) C dX11_orders_12 rfl 1 rfl ?_
    refine r_i2l (pc := 13) C dX11_orders_13 ?_
    refine r_lconst (pc := 14) (v := 0) C dX11_orders_14 rfl ?_
    refine r_ldc2 (pc := 15) C dX11_orders_15 q1607 ?_
    obtain ⟨r_4, hc_3, hr⟩ := gBind_some hr
    refine c_X11_isIn (pc := 18) C dX11_orders_18 q1538 ⟨Nat.le_of_ble_eq_true rfl, Nat.le_of_ble_eq_true rfl⟩ hc_3 (Nat.le_of_ble_eq_true rfl) ?_
    refine r_if_ne (pc := 21) (tgt := 26) C dX11_orders_21 rfl (fun c_5 => ?_) (fun c_5 => ?_)
    · replace hr := (if_neg c_5).symm.trans hr
      refine r_iconst (pc := 26) C dX11_orders_26 ki0 ?_
      refine r_istore_n (pc := 27) C dX11_orders_27 rfl (by decide) rfl (ls' := [(2, .int 0), (0, .ref (gad 50 0)), (1, .int p1)]) rfl ?_
      refine r_iconst (pc := 28) C dX11_orders_28 ki0 ?_
      refine r_istore_n (pc := 29) C dX11_orders_29 rfl (by decide) rfl (ls' := [(3, .int 0), (2, .int 0), (0, .ref (gad 50 0)), (1, .int p1)]) rfl ?_
      refine r_sub C [2, 3, 1, 0] (ls' := [(0, .ref (gad 50 0)), (1, .int p1), (2, .int 0), (3, .int 0)]) rfl ?_
      obtain ⟨ev, hit, hr⟩ := gBind_some hr
      refine gIter_V (step := fun s => X11_orders_L30 p1 s.1 s.2.1 s.2.2) (P := fun s => Ψ s.2.2 30 [(0, .ref (gad 50 0)), (1, .int p1), (2, .int (s.1)), (3, .int (s.2.1))] []) (K := (fun e => Ψ e.2 95 [(0, .ref (gad 50 0)), (1, .int p1), (2, .int (e.1))] [])) (fun s w hs hn hx => t_X11_orders_L30 C  hs hn hx) FU (0, 0, M_1) ev hit ?_
      obtain ⟨x2_19, M_20⟩ := ev
      replace hr := gU2_some hr
      show Ψ M_20 95 [(0, .ref (gad 50 0)), (1, .int p1), (2, .int x2_19)] []
      exact t_X11_orders_J95 C CR  hr
    · replace hr := (if_pos c_5).symm.trans hr
      refine r_iconst (pc := 24) C dX11_orders_24 kim1 ?_
      exact r_iret (pc := 25) CR dX11_orders_25 (congrArg (fun z => some (Value.int z)) (Prod.mk.inj (gSome hr)).1) (Prod.mk.inj (gSome hr)).2
theorem c_X11_orders {Ψ : gM → Nat → List (Nat × Value) → List Value → Prop} {G : gG5} {nf : Nat} {cc : ByteArray} {own : String} {nL : Nat} {ret : Option FieldType} {fr lo : Nat} {v0 : Option Value} {M0 M : gM} {pc index : Nat} {ls : List (Nat × Value)} {st : List Value} (C : gC Ψ G (gXn nf) cc own nL ret fr lo v0 M0) (d : decode cc pc = .ok (.invokevirtual index, 3)) (hl : Cond.methodLink own index yX11_orders ∈ gws) (hR : 9 ≤ fr ∧ 237 ≤ lo) {p1 : Int32} {r : Int32} {M1 : gM} (hr : X11_orders p1 M = some (r, M1)) (hcat : (st.map fun v => v.category).sum ≤ 8) (k : Ψ M1 (pc + 3) ls (.int r :: st)) : Ψ M pc ls (.int p1 :: .ref (gad 50 0) :: st) := r_callV C [.int p1] st d (k_X11_orders hr) hl q2025 q2026 q127 q2027 hd_X11_orders hR rfl (by decide) (e50 nf) rfl hcat k
theorem hd_X11_shifts : yX11_shifts.cls ≠ "java/lang/invoke/MethodHandle" ∧ yX11_shifts.cls ≠ "java/lang/invoke/VarHandle" ∧ (parseMethodDescriptor yX11_shifts.desc).map (fun d => d.parameters.length) = some 3 := by decide +kernel
noncomputable def X11_shifts_L73 (x1 : Int32) (x2 : Int32) (x3 : Int32) (x4 : Int32) (x8 : Int32) (x5 : Int32) (x6 : Int32) (x7 : Int32) (x9 : Int32) (M : gM) : Option ((Int32 × Int32 × Int32 × Int32 × gM) ⊕ (Int32 × Int32 × Int32 × gM)) := (if (x8 * x8) ≤ x9 then some (.inr (x5, x6, x7, M)) else gG (decide (¬ x8 = 0)) (gLet (wI M 50 0 29 ((gRem x9 x8) - x2)) (fun M_18 => gG (decide (¬ x8 = 0)) (gLet (wI M_18 50 0 30 ((x9 / x8) - x2)) (fun M_20 => (X11_asks 8 x1 M_20).bind (fun M_22 => (X11_covered M_22).bind (fun r_24 => (if r_24 = x4 then gLet ((x7 + 1)) (fun x7_30 => (if x6 < r_24 then gLet (x9 + 1) (fun x9_32 => some (.inl (x9, r_24, x7_30, x9_32, M_22))) else gLet (x9 + 1) (fun x9_33 => some (.inl (x5, x6, x7_30, x9_33, M_22))))) else gLet ((x7 + 0)) (fun x7_26 => (if x6 < r_24 then gLet (x9 + 1) (fun x9_28 => some (.inl (x9, r_24, x7_26, x9_28, M_22))) else gLet (x9 + 1) (fun x9_29 => some (.inl (x5, x6, x7_26, x9_29, M_22)))))))))))))
theorem t_X11_shifts_L73 {Ψ : gM → Nat → List (Nat × Value) → List Value → Prop} {G : gG5} {nf : Nat} {M : gM} {v0 : Option Value} {M0 : gM} {x1 : Int32} {x2 : Int32} {x3 : Int32} {x4 : Int32} {x8 : Int32} {x5 : Int32} {x6 : Int32} {x7 : Int32} {x9 : Int32} {w : ((Int32 × Int32 × Int32 × Int32 × gM) ⊕ (Int32 × Int32 × Int32 × gM))} (C : gC Ψ G (gXn nf) cX11_shifts RX11 11 (some .int) 5 120 v0 M0) (hr : X11_shifts_L73 x1 x2 x3 x4 x8 x5 x6 x7 x9 M = some w) (hn : ∀ s, w = .inl s → Ψ s.2.2.2.2 73 [(0, .ref (gad 50 0)), (1, .int x1), (2, .int x2), (3, .int x3), (4, .int x4), (5, .int (s.1)), (6, .int (s.2.1)), (7, .int (s.2.2.1)), (8, .int x8), (9, .int (s.2.2.2.1))] []) (hx : ∀ e, w = .inr e → (fun e => Ψ e.2.2.2 161 [(0, .ref (gad 50 0)), (3, .int x3), (5, .int (e.1)), (6, .int (e.2.1)), (7, .int (e.2.2.1))] []) e) : Ψ M 73 [(0, .ref (gad 50 0)), (1, .int x1), (2, .int x2), (3, .int x3), (4, .int x4), (5, .int x5), (6, .int x6), (7, .int x7), (8, .int x8), (9, .int x9)] [] := by
  refine r_iload (pc := 73) C dX11_shifts_73 9 rfl ?_
  refine r_iload (pc := 75) C dX11_shifts_75 8 rfl ?_
  refine r_iload (pc := 77) C dX11_shifts_77 8 rfl ?_
  refine r_imul (pc := 79) C dX11_shifts_79 ?_
  refine r_icmp_ge (pc := 80) (tgt := 161) C dX11_shifts_80 rfl (fun c_16 => ?_) (fun c_16 => ?_)
  · replace hr := (if_pos c_16).symm.trans hr
    refine r_sub C [0, 3, 5, 6, 7] (ls' := [(0, .ref (gad 50 0)), (3, .int x3), (5, .int x5), (6, .int x6), (7, .int x7)]) rfl ?_
    exact hx (x5, x6, x7, M) (gSome hr)
  · replace hr := (if_neg c_16).symm.trans hr
    refine r_aload_n (pc := 83) C dX11_shifts_83 rfl 0 rfl ?_
    refine r_iload (pc := 84) C dX11_shifts_84 9 rfl ?_
    refine r_iload (pc := 86) C dX11_shifts_86 8 rfl ?_
    obtain ⟨g_17, hr⟩ := gG_some hr
    refine r_irem (pc := 88) C dX11_shifts_88 (of_decide_eq_true g_17) ?_
    refine r_iload_n (pc := 89) C dX11_shifts_89 rfl 2 rfl ?_
    refine r_isub (pc := 90) C dX11_shifts_90 ?_
    obtain ⟨M_18, eM_18, hr⟩ := gLet_some hr
    refine p50_29 (pc := 91) C dX11_shifts_91 q1429 (e50 nf) eM_18 ?_
    refine r_aload_n (pc := 94) C dX11_shifts_94 rfl 0 rfl ?_
    refine r_iload (pc := 95) C dX11_shifts_95 9 rfl ?_
    refine r_iload (pc := 97) C dX11_shifts_97 8 rfl ?_
    obtain ⟨g_19, hr⟩ := gG_some hr
    refine r_idiv (pc := 99) C dX11_shifts_99 (of_decide_eq_true g_19) ?_
    refine r_iload_n (pc := 100) C dX11_shifts_100 rfl 2 rfl ?_
    refine r_isub (pc := 101) C dX11_shifts_101 ?_
    obtain ⟨M_20, eM_20, hr⟩ := gLet_some hr
    refine p50_30 (pc := 102) C dX11_shifts_102 q1430 (e50 nf) eM_20 ?_
    refine r_aload_n (pc := 105) C dX11_shifts_105 rfl 0 rfl ?_
    refine r_aload_n (pc := 106) C dX11_shifts_106 rfl 0 rfl ?_
    refine g50_18 (pc := 107) C dX11_shifts_107 q1418 (e50 nf) ?_
    refine r_iload_n (pc := 110) C dX11_shifts_110 rfl 1 rfl ?_
    obtain ⟨M_22, hc_21, hr⟩ := gBind_some hr
    refine c_X11_asks (pc := 111) C dX11_shifts_111 q1652 ⟨Nat.le_of_ble_eq_true rfl, Nat.le_of_ble_eq_true rfl⟩ (by decide) hc_21 (Nat.le_of_ble_eq_true rfl) ?_
    refine r_aload_n (pc := 114) C dX11_shifts_114 rfl 0 rfl ?_
    obtain ⟨r_24, hc_23, hr⟩ := gBind_some hr
    refine c_X11_covered (pc := 115) C dX11_shifts_115 q1911 ⟨Nat.le_of_ble_eq_true rfl, Nat.le_of_ble_eq_true rfl⟩ hc_23 (Nat.le_of_ble_eq_true rfl) ?_
    refine r_istore (pc := 118) C dX11_shifts_118 (by decide) rfl (ls' := [(10, .int r_24), (0, .ref (gad 50 0)), (1, .int x1), (2, .int x2), (3, .int x3), (4, .int x4), (5, .int x5), (6, .int x6), (7, .int x7), (8, .int x8), (9, .int x9)]) rfl ?_
    refine r_iload (pc := 120) C dX11_shifts_120 8 rfl ?_
    refine r_iload (pc := 122) C dX11_shifts_122 0 rfl ?_
    refine r_iload (pc := 124) C dX11_shifts_124 5 rfl ?_
    refine r_icmp_ne (pc := 126) (tgt := 133) C dX11_shifts_126 rfl (fun c_25 => ?_) (fun c_25 => ?_)
    · replace hr := (if_neg c_25).symm.trans hr
      refine r_iconst (pc := 133) C dX11_shifts_133 ki0 ?_
      refine r_iadd (pc := 134) C dX11_shifts_134 ?_
      obtain ⟨x7_26, ex7_26, hr⟩ := gLet_some hr
      refine r_istore (pc := 135) C dX11_shifts_135 (by decide) ex7_26 (ls' := [(7, .int x7_26), (10, .int r_24), (0, .ref (gad 50 0)), (1, .int x1), (2, .int x2), (3, .int x3), (4, .int x4), (5, .int x5), (6, .int x6), (8, .int x8), (9, .int x9)]) rfl ?_
      refine r_iload (pc := 137) C dX11_shifts_137 1 rfl ?_
      refine r_iload (pc := 139) C dX11_shifts_139 8 rfl ?_
      refine r_icmp_gt (pc := 141) (tgt := 147) C dX11_shifts_141 rfl (fun c_27 => ?_) (fun c_27 => ?_)
      · replace hr := (if_pos c_27).symm.trans hr
        refine r_iload (pc := 147) C dX11_shifts_147 10 rfl ?_
        refine r_istore (pc := 149) C dX11_shifts_149 (by decide) rfl (ls' := [(5, .int x9), (7, .int x7_26), (10, .int r_24), (0, .ref (gad 50 0)), (1, .int x1), (2, .int x2), (3, .int x3), (4, .int x4), (6, .int x6), (8, .int x8), (9, .int x9)]) rfl ?_
        refine r_iload (pc := 151) C dX11_shifts_151 2 rfl ?_
        refine r_istore (pc := 153) C dX11_shifts_153 (by decide) rfl (ls' := [(6, .int r_24), (5, .int x9), (7, .int x7_26), (10, .int r_24), (0, .ref (gad 50 0)), (1, .int x1), (2, .int x2), (3, .int x3), (4, .int x4), (8, .int x8), (9, .int x9)]) rfl ?_
        obtain ⟨x9_28, ex9_28, hr⟩ := gLet_some hr
        refine r_iinc (pc := 155) C dX11_shifts_155 10 rfl rfl (by decide) ex9_28 (ls' := [(9, .int x9_28), (6, .int r_24), (5, .int x9), (7, .int x7_26), (10, .int r_24), (0, .ref (gad 50 0)), (1, .int x1), (2, .int x2), (3, .int x3), (4, .int x4), (8, .int x8)]) rfl ?_
        refine r_goto (pc := 158) (tgt := 73) C dX11_shifts_158 rfl ?_
        refine r_sub C [5, 6, 7, 8, 9, 2, 1, 3, 10, 0] (ls' := [(0, .ref (gad 50 0)), (1, .int x1), (2, .int x2), (3, .int x3), (4, .int x4), (5, .int x9), (6, .int r_24), (7, .int x7_26), (8, .int x8), (9, .int x9_28)]) rfl ?_
        exact hn (x9, r_24, x7_26, x9_28, M_22) (gSome hr)
      · replace hr := (if_neg c_27).symm.trans hr
        refine r_goto (pc := 144) (tgt := 155) C dX11_shifts_144 rfl ?_
        obtain ⟨x9_29, ex9_29, hr⟩ := gLet_some hr
        refine r_iinc (pc := 155) C dX11_shifts_155 10 rfl rfl (by decide) ex9_29 (ls' := [(9, .int x9_29), (7, .int x7_26), (10, .int r_24), (0, .ref (gad 50 0)), (1, .int x1), (2, .int x2), (3, .int x3), (4, .int x4), (5, .int x5), (6, .int x6), (8, .int x8)]) rfl ?_
        refine r_goto (pc := 158) (tgt := 73) C dX11_shifts_158 rfl ?_
        refine r_sub C [3, 4, 5, 6, 7, 8, 9, 1, 10, 0] (ls' := [(0, .ref (gad 50 0)), (1, .int x1), (2, .int x2), (3, .int x3), (4, .int x4), (5, .int x5), (6, .int x6), (7, .int x7_26), (8, .int x8), (9, .int x9_29)]) rfl ?_
        exact hn (x5, x6, x7_26, x9_29, M_22) (gSome hr)
    · replace hr := (if_pos c_25).symm.trans hr
      refine r_iconst (pc := 129) C dX11_shifts_129 ki1 ?_
      refine r_goto (pc := 130) (tgt := 134) C dX11_shifts_130 rfl ?_
      refine r_iadd (pc := 134) C dX11_shifts_134 ?_
      obtain ⟨x7_30, ex7_30, hr⟩ := gLet_some hr
      refine r_istore (pc := 135) C dX11_shifts_135 (by decide) ex7_30 (ls' := [(7, .int x7_30), (10, .int r_24), (0, .ref (gad 50 0)), (1, .int x1), (2, .int x2), (3, .int x3), (4, .int x4), (5, .int x5), (6, .int x6), (8, .int x8), (9, .int x9)]) rfl ?_
      refine r_iload (pc := 137) C dX11_shifts_137 1 rfl ?_
      refine r_iload (pc := 139) C dX11_shifts_139 8 rfl ?_
      refine r_icmp_gt (pc := 141) (tgt := 147) C dX11_shifts_141 rfl (fun c_31 => ?_) (fun c_31 => ?_)
      · replace hr := (if_pos c_31).symm.trans hr
        refine r_iload (pc := 147) C dX11_shifts_147 10 rfl ?_
        refine r_istore (pc := 149) C dX11_shifts_149 (by decide) rfl (ls' := [(5, .int x9), (7, .int x7_30), (10, .int r_24), (0, .ref (gad 50 0)), (1, .int x1), (2, .int x2), (3, .int x3), (4, .int x4), (6, .int x6), (8, .int x8), (9, .int x9)]) rfl ?_
        refine r_iload (pc := 151) C dX11_shifts_151 2 rfl ?_
        refine r_istore (pc := 153) C dX11_shifts_153 (by decide) rfl (ls' := [(6, .int r_24), (5, .int x9), (7, .int x7_30), (10, .int r_24), (0, .ref (gad 50 0)), (1, .int x1), (2, .int x2), (3, .int x3), (4, .int x4), (8, .int x8), (9, .int x9)]) rfl ?_
        obtain ⟨x9_32, ex9_32, hr⟩ := gLet_some hr
        refine r_iinc (pc := 155) C dX11_shifts_155 10 rfl rfl (by decide) ex9_32 (ls' := [(9, .int x9_32), (6, .int r_24), (5, .int x9), (7, .int x7_30), (10, .int r_24), (0, .ref (gad 50 0)), (1, .int x1), (2, .int x2), (3, .int x3), (4, .int x4), (8, .int x8)]) rfl ?_
        refine r_goto (pc := 158) (tgt := 73) C dX11_shifts_158 rfl ?_
        refine r_sub C [5, 6, 7, 8, 9, 2, 1, 3, 10, 0] (ls' := [(0, .ref (gad 50 0)), (1, .int x1), (2, .int x2), (3, .int x3), (4, .int x4), (5, .int x9), (6, .int r_24), (7, .int x7_30), (8, .int x8), (9, .int x9_32)]) rfl ?_
        exact hn (x9, r_24, x7_30, x9_32, M_22) (gSome hr)
      · replace hr := (if_neg c_31).symm.trans hr
        refine r_goto (pc := 144) (tgt := 155) C dX11_shifts_144 rfl ?_
        obtain ⟨x9_33, ex9_33, hr⟩ := gLet_some hr
        refine r_iinc (pc := 155) C dX11_shifts_155 10 rfl rfl (by decide) ex9_33 (ls' := [(9, .int x9_33), (7, .int x7_30), (10, .int r_24), (0, .ref (gad 50 0)), (1, .int x1), (2, .int x2), (3, .int x3), (4, .int x4), (5, .int x5), (6, .int x6), (8, .int x8)]) rfl ?_
        refine r_goto (pc := 158) (tgt := 73) C dX11_shifts_158 rfl ?_
        refine r_sub C [3, 4, 5, 6, 7, 8, 9, 1, 10, 0] (ls' := [(0, .ref (gad 50 0)), (1, .int x1), (2, .int x2), (3, .int x3), (4, .int x4), (5, .int x5), (6, .int x6), (7, .int x7_30), (8, .int x8), (9, .int x9_33)]) rfl ?_
        exact hn (x5, x6, x7_30, x9_33, M_22) (gSome hr)
noncomputable def X11_shifts (p1 : Int32) (p2 : Int32) (p3 : Int32) (M : gM) : Option (Int32 × gM) := gLet (wI M 50 0 0 0) (fun M_1 => (X11_isTri p1 M_1).bind (fun r_3 => (if r_3 = 0 then some ((-1), M_1) else (X11_isIn (Int32.toInt64 p2) 1 3 M_1).bind (fun r_6 => (if r_6 = 0 then some ((-1), M_1) else (X11_isIn (Int32.toInt64 p3) 0 2 M_1).bind (fun r_9 => (if r_9 = 0 then some ((-1), M_1) else (X11_asks 8 p1 M_1).bind (fun M_12 => (X11_covered M_12).bind (fun r_14 => gLet (((2 * p2) + 1)) (fun x8_15 => (gIter (fun s => X11_shifts_L73 p1 p2 p3 r_14 x8_15 s.1 s.2.1 s.2.2.1 s.2.2.2.1 s.2.2.2.2) FU (0, (-1), 0, 0, M_12)).bind (gU2 (fun x5_34 => (gU2 (fun x6_35 => (gU2 (fun x7_36 M_37 => gLet (wI M_37 50 0 29 0) (fun M_38 => gLet (wI M_38 50 0 30 0) (fun M_39 => (if p3 = 0 then some (x6_35, M_39) else (if p3 = 1 then some (x5_34, M_39) else some (x7_36, M_39)))))))))))))))))))))
theorem k_X11_shifts {G : gG5} {nf : Nat} {M : gM} {p1 : Int32} {p2 : Int32} {p3 : Int32} {r : Int32} {M1 : gM} (hr : X11_shifts p1 p2 p3 M = some (r, M1)) : gMet G (gXn nf) yX11_shifts cX11_shifts 11 (some .int) 5 120 M [.ref (gad 50 0), .int p1, .int p2, .int p3] (some (.int r)) M1 := by
  refine gMet_of pl_X11 rfl (Nat.le_of_ble_eq_true rfl) (fun Ψ C CR => ?_)
  show Ψ M 0 [(0, .ref (gad 50 0)), (1, .int p1), (2, .int p2), (3, .int p3)] []
  refine r_aload_n (pc := 0) C dX11_shifts_0 rfl 0 rfl ?_
  refine r_iconst (pc := 1) C dX11_shifts_1 ki0 ?_
  obtain ⟨M_1, eM_1, hr⟩ := gLet_some hr
  refine p50_0 (pc := 2) C dX11_shifts_2 q1400 (e50 nf) eM_1 ?_
  refine r_aload_n (pc := 5) C dX11_shifts_5 rfl 0 rfl ?_
  refine r_iload_n (pc := 6) C dX11_shifts_6 rfl 1 rfl ?_
  obtain ⟨r_3, hc_2, hr⟩ := gBind_some hr
  refine c_X11_isTri (pc := 7) C dX11_shifts_7 q1644 ⟨Nat.le_of_ble_eq_true rfl, Nat.le_of_ble_eq_true rfl⟩ hc_2 (Nat.le_of_ble_eq_true rfl) ?_
  refine r_if_eq (pc := 10) (tgt := 37) C dX11_shifts_10 rfl (fun c_4 => ?_) (fun c_4 => ?_)
  · replace hr := (if_pos c_4).symm.trans hr
    refine r_iconst (pc := 37) C dX11_shifts_37 kim1 ?_
    exact r_iret (pc := 38) CR dX11_shifts_38 (congrArg (fun z => some (Value.int z)) (Prod.mk.inj (gSome hr)).1) (Prod.mk.inj (gSome hr)).2
  · replace hr := (if_neg c_4).symm.trans hr
    refine r_iload_n (pc := 13) C dX11_shifts_13 rfl 2 rfl ?_
    refine r_i2l (pc := 14) C dX11_shifts_14 ?_
    refine r_lconst (pc := 15) (v := 1) C dX11_shifts_15 rfl ?_
    refine r_ldc2 (pc := 16) C dX11_shifts_16 q1823 ?_
    obtain ⟨r_6, hc_5, hr⟩ := gBind_some hr
    refine c_X11_isIn (pc := 19) C dX11_shifts_19 q1538 ⟨Nat.le_of_ble_eq_true rfl, Nat.le_of_ble_eq_true rfl⟩ hc_5 (Nat.le_of_ble_eq_true rfl) ?_
    refine r_if_eq (pc := 22) (tgt := 37) C dX11_shifts_22 rfl (fun c_7 => ?_) (fun c_7 => ?_)
    · replace hr := (if_pos c_7).symm.trans hr
      refine r_iconst (pc := 37) C dX11_shifts_37 kim1 ?_
      exact r_iret (pc := 38) CR dX11_shifts_38 (congrArg (fun z => some (Value.int z)) (Prod.mk.inj (gSome hr)).1) (Prod.mk.inj (gSome hr)).2
    · replace hr := (if_neg c_7).symm.trans hr
      refine r_iload_n (pc := 25) C dX11_shifts_25 rfl 3 rfl ?_
      refine r_i2l (pc := 26) C dX11_shifts_26 ?_
      refine r_lconst (pc := 27) (v := 0) C dX11_shifts_27 rfl ?_
      refine r_ldc2 (pc := 28) C dX11_shifts_28 q1607 ?_
      obtain ⟨r_9, hc_8, hr⟩ := gBind_some hr
      refine c_X11_isIn (pc := 31) C dX11_shifts_31 q1538 ⟨Nat.le_of_ble_eq_true rfl, Nat.le_of_ble_eq_true rfl⟩ hc_8 (Nat.le_of_ble_eq_true rfl) ?_
      refine r_if_ne (pc := 34) (tgt := 39) C dX11_shifts_34 rfl (fun c_10 => ?_) (fun c_10 => ?_)
      · replace hr := (if_neg c_10).symm.trans hr
        refine r_aload_n (pc := 39) C dX11_shifts_39 rfl 0 rfl ?_
        refine r_aload_n (pc := 40) C dX11_shifts_40 rfl 0 rfl ?_
        refine g50_18 (pc := 41) C dX11_shifts_41 q1418 (e50 nf) ?_
        refine r_iload_n (pc := 44) C dX11_shifts_44 rfl 1 rfl ?_
        obtain ⟨M_12, hc_11, hr⟩ := gBind_some hr
        refine c_X11_asks (pc := 45) C dX11_shifts_45 q1652 ⟨Nat.le_of_ble_eq_true rfl, Nat.le_of_ble_eq_true rfl⟩ (by decide) hc_11 (Nat.le_of_ble_eq_true rfl) ?_
        refine r_aload_n (pc := 48) C dX11_shifts_48 rfl 0 rfl ?_
        obtain ⟨r_14, hc_13, hr⟩ := gBind_some hr
        refine c_X11_covered (pc := 49) C dX11_shifts_49 q1911 ⟨Nat.le_of_ble_eq_true rfl, Nat.le_of_ble_eq_true rfl⟩ hc_13 (Nat.le_of_ble_eq_true rfl) ?_
        refine r_istore (pc := 52) C dX11_shifts_52 (by decide) rfl (ls' := [(4, .int r_14), (0, .ref (gad 50 0)), (1, .int p1), (2, .int p2), (3, .int p3)]) rfl ?_
        refine r_iconst (pc := 54) C dX11_shifts_54 ki0 ?_
        refine r_istore (pc := 55) C dX11_shifts_55 (by decide) rfl (ls' := [(5, .int 0), (4, .int r_14), (0, .ref (gad 50 0)), (1, .int p1), (2, .int p2), (3, .int p3)]) rfl ?_
        refine r_iconst (pc := 57) C dX11_shifts_57 kim1 ?_
        refine r_istore (pc := 58) C dX11_shifts_58 (by decide) rfl (ls' := [(6, .int (-1)), (5, .int 0), (4, .int r_14), (0, .ref (gad 50 0)), (1, .int p1), (2, .int p2), (3, .int p3)]) rfl ?_
        refine r_iconst (pc := 60) C dX11_shifts_60 ki0 ?_
        refine r_istore (pc := 61) C dX11_shifts_61 (by decide) rfl (ls' := [(7, .int 0), (6, .int (-1)), (5, .int 0), (4, .int r_14), (0, .ref (gad 50 0)), (1, .int p1), (2, .int p2), (3, .int p3)]) rfl ?_
        refine r_iconst (pc := 63) C dX11_shifts_63 ki2 ?_
        refine r_iload_n (pc := 64) C dX11_shifts_64 rfl 6 rfl ?_
        refine r_imul (pc := 65) C dX11_shifts_65 ?_
        refine r_iconst (pc := 66) C dX11_shifts_66 ki1 ?_
        refine r_iadd (pc := 67) C dX11_shifts_67 ?_
        obtain ⟨x8_15, ex8_15, hr⟩ := gLet_some hr
        refine r_istore (pc := 68) C dX11_shifts_68 (by decide) ex8_15 (ls' := [(8, .int x8_15), (7, .int 0), (6, .int (-1)), (5, .int 0), (4, .int r_14), (0, .ref (gad 50 0)), (1, .int p1), (2, .int p2), (3, .int p3)]) rfl ?_
        refine r_iconst (pc := 70) C dX11_shifts_70 ki0 ?_
        refine r_istore (pc := 71) C dX11_shifts_71 (by decide) rfl (ls' := [(9, .int 0), (8, .int x8_15), (7, .int 0), (6, .int (-1)), (5, .int 0), (4, .int r_14), (0, .ref (gad 50 0)), (1, .int p1), (2, .int p2), (3, .int p3)]) rfl ?_
        refine r_sub C [6, 7, 8, 9, 5, 4, 3, 2, 1, 0] (ls' := [(0, .ref (gad 50 0)), (1, .int p1), (2, .int p2), (3, .int p3), (4, .int r_14), (5, .int 0), (6, .int (-1)), (7, .int 0), (8, .int x8_15), (9, .int 0)]) rfl ?_
        obtain ⟨ev, hit, hr⟩ := gBind_some hr
        refine gIter_V (step := fun s => X11_shifts_L73 p1 p2 p3 r_14 x8_15 s.1 s.2.1 s.2.2.1 s.2.2.2.1 s.2.2.2.2) (P := fun s => Ψ s.2.2.2.2 73 [(0, .ref (gad 50 0)), (1, .int p1), (2, .int p2), (3, .int p3), (4, .int r_14), (5, .int (s.1)), (6, .int (s.2.1)), (7, .int (s.2.2.1)), (8, .int x8_15), (9, .int (s.2.2.2.1))] []) (K := (fun e => Ψ e.2.2.2 161 [(0, .ref (gad 50 0)), (3, .int p3), (5, .int (e.1)), (6, .int (e.2.1)), (7, .int (e.2.2.1))] [])) (fun s w hs hn hx => t_X11_shifts_L73 C  hs hn hx) FU (0, (-1), 0, 0, M_12) ev hit ?_
        obtain ⟨x5_34, x6_35, x7_36, M_37⟩ := ev
        replace hr := gU2_some hr
        replace hr := gU2_some hr
        replace hr := gU2_some hr
        show Ψ M_37 161 [(0, .ref (gad 50 0)), (3, .int p3), (5, .int x5_34), (6, .int x6_35), (7, .int x7_36)] []
        refine r_aload_n (pc := 161) C dX11_shifts_161 rfl 0 rfl ?_
        refine r_iconst (pc := 162) C dX11_shifts_162 ki0 ?_
        obtain ⟨M_38, eM_38, hr⟩ := gLet_some hr
        refine p50_29 (pc := 163) C dX11_shifts_163 q1429 (e50 nf) eM_38 ?_
        refine r_aload_n (pc := 166) C dX11_shifts_166 rfl 0 rfl ?_
        refine r_iconst (pc := 167) C dX11_shifts_167 ki0 ?_
        obtain ⟨M_39, eM_39, hr⟩ := gLet_some hr
        refine p50_30 (pc := 168) C dX11_shifts_168 q1430 (e50 nf) eM_39 ?_
        refine r_iload_n (pc := 171) C dX11_shifts_171 rfl 1 rfl ?_
        refine r_if_ne (pc := 172) (tgt := 180) C dX11_shifts_172 rfl (fun c_40 => ?_) (fun c_40 => ?_)
        · replace hr := (if_neg c_40).symm.trans hr
          refine r_iload_n (pc := 180) C dX11_shifts_180 rfl 1 rfl ?_
          refine r_iconst (pc := 181) C dX11_shifts_181 ki1 ?_
          refine r_icmp_ne (pc := 182) (tgt := 190) C dX11_shifts_182 rfl (fun c_41 => ?_) (fun c_41 => ?_)
          · replace hr := (if_neg c_41).symm.trans hr
            refine r_iload (pc := 190) C dX11_shifts_190 4 rfl ?_
            exact r_iret (pc := 192) CR dX11_shifts_192 (congrArg (fun z => some (Value.int z)) (Prod.mk.inj (gSome hr)).1) (Prod.mk.inj (gSome hr)).2
          · replace hr := (if_pos c_41).symm.trans hr
            refine r_iload (pc := 185) C dX11_shifts_185 2 rfl ?_
            refine r_goto (pc := 187) (tgt := 192) C dX11_shifts_187 rfl ?_
            exact r_iret (pc := 192) CR dX11_shifts_192 (congrArg (fun z => some (Value.int z)) (Prod.mk.inj (gSome hr)).1) (Prod.mk.inj (gSome hr)).2
        · replace hr := (if_pos c_40).symm.trans hr
          refine r_iload (pc := 175) C dX11_shifts_175 3 rfl ?_
          refine r_goto (pc := 177) (tgt := 192) C dX11_shifts_177 rfl ?_
          exact r_iret (pc := 192) CR dX11_shifts_192 (congrArg (fun z => some (Value.int z)) (Prod.mk.inj (gSome hr)).1) (Prod.mk.inj (gSome hr)).2
      · replace hr := (if_pos c_10).symm.trans hr
        refine r_iconst (pc := 37) C dX11_shifts_37 kim1 ?_
        exact r_iret (pc := 38) CR dX11_shifts_38 (congrArg (fun z => some (Value.int z)) (Prod.mk.inj (gSome hr)).1) (Prod.mk.inj (gSome hr)).2
theorem c_X11_shifts {Ψ : gM → Nat → List (Nat × Value) → List Value → Prop} {G : gG5} {nf : Nat} {cc : ByteArray} {own : String} {nL : Nat} {ret : Option FieldType} {fr lo : Nat} {v0 : Option Value} {M0 M : gM} {pc index : Nat} {ls : List (Nat × Value)} {st : List Value} (C : gC Ψ G (gXn nf) cc own nL ret fr lo v0 M0) (d : decode cc pc = .ok (.invokevirtual index, 3)) (hl : Cond.methodLink own index yX11_shifts ∈ gws) (hR : 6 ≤ fr ∧ 150 ≤ lo) {p1 : Int32} {p2 : Int32} {p3 : Int32} {r : Int32} {M1 : gM} (hr : X11_shifts p1 p2 p3 M = some (r, M1)) (hcat : (st.map fun v => v.category).sum ≤ 8) (k : Ψ M1 (pc + 3) ls (.int r :: st)) : Ψ M pc ls (.int p3 :: .int p2 :: .int p1 :: .ref (gad 50 0) :: st) := r_callV C [.int p1, .int p2, .int p3] st d (k_X11_shifts hr) hl q2033 q2034 q127 q2035 hd_X11_shifts hR rfl (by decide) (e50 nf) rfl hcat k
theorem hd_X11_pendingAll : yX11_pendingAll.cls ≠ "java/lang/invoke/MethodHandle" ∧ yX11_pendingAll.cls ≠ "java/lang/invoke/VarHandle" ∧ (parseMethodDescriptor yX11_pendingAll.desc).map (fun d => d.parameters.length) = some 0 := by decide +kernel
noncomputable def X11_pendingAll_L4 (x1 : Int32) (x2 : Int32) (M : gM) : Option ((Int32 × Int32) ⊕ Int32) := (X11_tilesAll M).bind (fun r_2 => (if r_2 ≤ x2 then some (.inr x1) else (X11_pendingIn 8 x2 M).bind (fun r_5 => gLet ((x1 + r_5)) (fun x1_6 => gLet (x2 + 1) (fun x2_7 => some (.inl (x1_6, x2_7)))))))
theorem t_X11_pendingAll_L4 {Ψ : gM → Nat → List (Nat × Value) → List Value → Prop} {G : gG5} {nf : Nat} {M : gM} {v0 : Option Value} {M0 : gM} {x1 : Int32} {x2 : Int32} {w : ((Int32 × Int32) ⊕ Int32)} (C : gC Ψ G (gXn nf) cX11_pendingAll RX11 3 (some .int) 4 89 v0 M0) (hr : X11_pendingAll_L4 x1 x2 M = some w) (hn : ∀ s, w = .inl s → Ψ M 4 [(0, .ref (gad 50 0)), (1, .int (s.1)), (2, .int (s.2))] []) (hx : ∀ e, w = .inr e → (fun e => Ψ M 30 [(1, .int e)] []) e) : Ψ M 4 [(0, .ref (gad 50 0)), (1, .int x1), (2, .int x2)] [] := by
  refine r_iload_n (pc := 4) C dX11_pendingAll_4 rfl 2 rfl ?_
  refine r_aload_n (pc := 5) C dX11_pendingAll_5 rfl 0 rfl ?_
  obtain ⟨r_2, hc_1, hr⟩ := gBind_some hr
  refine c_X11_tilesAll (pc := 6) C dX11_pendingAll_6 q1663 ⟨Nat.le_of_ble_eq_true rfl, Nat.le_of_ble_eq_true rfl⟩ hc_1 (Nat.le_of_ble_eq_true rfl) ?_
  refine r_icmp_ge (pc := 9) (tgt := 30) C dX11_pendingAll_9 rfl (fun c_3 => ?_) (fun c_3 => ?_)
  · replace hr := (if_pos c_3).symm.trans hr
    refine r_sub C [1] (ls' := [(1, .int x1)]) rfl ?_
    exact hx x1 (gSome hr)
  · replace hr := (if_neg c_3).symm.trans hr
    refine r_iload_n (pc := 12) C dX11_pendingAll_12 rfl 1 rfl ?_
    refine r_aload_n (pc := 13) C dX11_pendingAll_13 rfl 0 rfl ?_
    refine r_aload_n (pc := 14) C dX11_pendingAll_14 rfl 0 rfl ?_
    refine g50_18 (pc := 15) C dX11_pendingAll_15 q1418 (e50 nf) ?_
    refine r_iload_n (pc := 18) C dX11_pendingAll_18 rfl 2 rfl ?_
    obtain ⟨r_5, hc_4, hr⟩ := gBind_some hr
    refine c_X11_pendingIn (pc := 19) C dX11_pendingAll_19 q1795 ⟨Nat.le_of_ble_eq_true rfl, Nat.le_of_ble_eq_true rfl⟩ (by decide) hc_4 (Nat.le_of_ble_eq_true rfl) ?_
    refine r_iadd (pc := 22) C dX11_pendingAll_22 ?_
    obtain ⟨x1_6, ex1_6, hr⟩ := gLet_some hr
    refine r_istore_n (pc := 23) C dX11_pendingAll_23 rfl (by decide) ex1_6 (ls' := [(1, .int x1_6), (0, .ref (gad 50 0)), (2, .int x2)]) rfl ?_
    obtain ⟨x2_7, ex2_7, hr⟩ := gLet_some hr
    refine r_iinc (pc := 24) C dX11_pendingAll_24 2 rfl rfl (by decide) ex2_7 (ls' := [(2, .int x2_7), (1, .int x1_6), (0, .ref (gad 50 0))]) rfl ?_
    refine r_goto (pc := 27) (tgt := 4) C dX11_pendingAll_27 rfl ?_
    refine r_sub C [2, 1, 0] (ls' := [(0, .ref (gad 50 0)), (1, .int x1_6), (2, .int x2_7)]) rfl ?_
    exact hn (x1_6, x2_7) (gSome hr)
noncomputable def X11_pendingAll (M : gM) : Option Int32 := (gIter (fun s => X11_pendingAll_L4 s.1 s.2 M) FU (0, 0)).bind (fun x1_8 => some x1_8)
theorem k_X11_pendingAll {G : gG5} {nf : Nat} {M : gM} {r : Int32} (hr : X11_pendingAll M = some r) : gMet G (gXn nf) yX11_pendingAll cX11_pendingAll 3 (some .int) 4 89 M [.ref (gad 50 0)] (some (.int r)) M := by
  refine gMet_of pl_X11 rfl (Nat.le_of_ble_eq_true rfl) (fun Ψ C CR => ?_)
  show Ψ M 0 [(0, .ref (gad 50 0))] []
  refine r_iconst (pc := 0) C dX11_pendingAll_0 ki0 ?_
  refine r_istore_n (pc := 1) C dX11_pendingAll_1 rfl (by decide) rfl (ls' := [(1, .int 0), (0, .ref (gad 50 0))]) rfl ?_
  refine r_iconst (pc := 2) C dX11_pendingAll_2 ki0 ?_
  refine r_istore_n (pc := 3) C dX11_pendingAll_3 rfl (by decide) rfl (ls' := [(2, .int 0), (1, .int 0), (0, .ref (gad 50 0))]) rfl ?_
  refine r_sub C [2, 1, 0] (ls' := [(0, .ref (gad 50 0)), (1, .int 0), (2, .int 0)]) rfl ?_
  obtain ⟨ev, hit, hr⟩ := gBind_some hr
  refine gIter_V (step := fun s => X11_pendingAll_L4 s.1 s.2 M) (P := fun s => Ψ M 4 [(0, .ref (gad 50 0)), (1, .int (s.1)), (2, .int (s.2))] []) (K := (fun e => Ψ M 30 [(1, .int e)] [])) (fun s w hs hn hx => t_X11_pendingAll_L4 C  hs hn hx) FU (0, 0) ev hit ?_
  obtain ⟨x1_8, rfl⟩ : ∃ z, z = ev := ⟨_, rfl⟩
  show Ψ M 30 [(1, .int x1_8)] []
  refine r_iload_n (pc := 30) C dX11_pendingAll_30 rfl 0 rfl ?_
  exact r_iret (pc := 31) CR dX11_pendingAll_31 (congrArg (fun z => some (Value.int z)) (gSome hr)) rfl
theorem c_X11_pendingAll {Ψ : gM → Nat → List (Nat × Value) → List Value → Prop} {G : gG5} {nf : Nat} {cc : ByteArray} {own : String} {nL : Nat} {ret : Option FieldType} {fr lo : Nat} {v0 : Option Value} {M0 M : gM} {pc index : Nat} {ls : List (Nat × Value)} {st : List Value} (C : gC Ψ G (gXn nf) cc own nL ret fr lo v0 M0) (d : decode cc pc = .ok (.invokevirtual index, 3)) (hl : Cond.methodLink own index yX11_pendingAll ∈ gws) (hR : 5 ≤ fr ∧ 111 ≤ lo) {r : Int32} (hr : X11_pendingAll M = some r) (hcat : (st.map fun v => v.category).sum ≤ 8) (k : Ψ M (pc + 3) ls (.int r :: st)) : Ψ M pc ls (.ref (gad 50 0) :: st) := r_callV C [] st d (k_X11_pendingAll hr) hl q2042 q109 q127 q2043 hd_X11_pendingAll hR rfl (by decide) (e50 nf) rfl hcat k
theorem hd_X11_hides : yX11_hides.cls ≠ "java/lang/invoke/MethodHandle" ∧ yX11_hides.cls ≠ "java/lang/invoke/VarHandle" ∧ (parseMethodDescriptor yX11_hides.desc).map (fun d => d.parameters.length) = some 0 := by decide +kernel
noncomputable def X11_hides_L17 (x1 : Int32) (x2 : Int32) (M : gM) : Option ((Int32 × Int32) ⊕ Int32) := (if (M.1 50 0 16) ≤ x2 then some (.inr x1) else (X11_lit 9 x2 M).bind (fun r_5 => (if r_5 = 0 then gLet ((x1 ||| (1 <<< (x2 &&& 31)))) (fun x1_9 => gLet (x2 + 1) (fun x2_10 => some (.inl (x1_9, x2_10)))) else gLet ((x1 ||| 0)) (fun x1_7 => gLet (x2 + 1) (fun x2_8 => some (.inl (x1_7, x2_8)))))))
theorem t_X11_hides_L17 {Ψ : gM → Nat → List (Nat × Value) → List Value → Prop} {G : gG5} {nf : Nat} {M : gM} {v0 : Option Value} {M0 : gM} {x1 : Int32} {x2 : Int32} {w : ((Int32 × Int32) ⊕ Int32)} (C : gC Ψ G (gXn nf) cX11_hides RX11 3 (some .int) 9 232 v0 M0) (hr : X11_hides_L17 x1 x2 M = some w) (hn : ∀ s, w = .inl s → Ψ M 17 [(0, .ref (gad 50 0)), (1, .int (s.1)), (2, .int (s.2))] []) (hx : ∀ e, w = .inr e → (fun e => Ψ M 52 [(1, .int e)] []) e) : Ψ M 17 [(0, .ref (gad 50 0)), (1, .int x1), (2, .int x2)] [] := by
  refine r_iload_n (pc := 17) C dX11_hides_17 rfl 2 rfl ?_
  refine r_aload_n (pc := 18) C dX11_hides_18 rfl 0 rfl ?_
  refine g50_16 (pc := 19) C dX11_hides_19 q1416 (e50 nf) ?_
  refine r_icmp_ge (pc := 22) (tgt := 52) C dX11_hides_22 rfl (fun c_3 => ?_) (fun c_3 => ?_)
  · replace hr := (if_pos c_3).symm.trans hr
    refine r_sub C [1] (ls' := [(1, .int x1)]) rfl ?_
    exact hx x1 (gSome hr)
  · replace hr := (if_neg c_3).symm.trans hr
    refine r_iload_n (pc := 25) C dX11_hides_25 rfl 1 rfl ?_
    refine r_aload_n (pc := 26) C dX11_hides_26 rfl 0 rfl ?_
    refine g50_19 (pc := 27) C dX11_hides_27 q1419 (e50 nf) ?_
    refine r_iload_n (pc := 30) C dX11_hides_30 rfl 2 rfl ?_
    obtain ⟨r_5, hc_4, hr⟩ := gBind_some hr
    refine c_X11_lit (pc := 31) C dX11_hides_31 q1777 ⟨Nat.le_of_ble_eq_true rfl, Nat.le_of_ble_eq_true rfl⟩ (by decide) hc_4 (Nat.le_of_ble_eq_true rfl) ?_
    refine r_if_ne (pc := 34) (tgt := 43) C dX11_hides_34 rfl (fun c_6 => ?_) (fun c_6 => ?_)
    · replace hr := (if_neg c_6).symm.trans hr
      refine r_iconst (pc := 43) C dX11_hides_43 ki0 ?_
      refine r_ior (pc := 44) C dX11_hides_44 ?_
      obtain ⟨x1_7, ex1_7, hr⟩ := gLet_some hr
      refine r_istore_n (pc := 45) C dX11_hides_45 rfl (by decide) ex1_7 (ls' := [(1, .int x1_7), (0, .ref (gad 50 0)), (2, .int x2)]) rfl ?_
      obtain ⟨x2_8, ex2_8, hr⟩ := gLet_some hr
      refine r_iinc (pc := 46) C dX11_hides_46 2 rfl rfl (by decide) ex2_8 (ls' := [(2, .int x2_8), (1, .int x1_7), (0, .ref (gad 50 0))]) rfl ?_
      refine r_goto (pc := 49) (tgt := 17) C dX11_hides_49 rfl ?_
      refine r_sub C [2, 1, 0] (ls' := [(0, .ref (gad 50 0)), (1, .int x1_7), (2, .int x2_8)]) rfl ?_
      exact hn (x1_7, x2_8) (gSome hr)
    · replace hr := (if_pos c_6).symm.trans hr
      refine r_iconst (pc := 37) C dX11_hides_37 ki1 ?_
      refine r_iload_n (pc := 38) C dX11_hides_38 rfl 2 rfl ?_
      refine r_ishl (pc := 39) C dX11_hides_39 ?_
      refine r_goto (pc := 40) (tgt := 44) C dX11_hides_40 rfl ?_
      refine r_ior (pc := 44) C dX11_hides_44 ?_
      obtain ⟨x1_9, ex1_9, hr⟩ := gLet_some hr
      refine r_istore_n (pc := 45) C dX11_hides_45 rfl (by decide) ex1_9 (ls' := [(1, .int x1_9), (0, .ref (gad 50 0)), (2, .int x2)]) rfl ?_
      obtain ⟨x2_10, ex2_10, hr⟩ := gLet_some hr
      refine r_iinc (pc := 46) C dX11_hides_46 2 rfl rfl (by decide) ex2_10 (ls' := [(2, .int x2_10), (1, .int x1_9), (0, .ref (gad 50 0))]) rfl ?_
      refine r_goto (pc := 49) (tgt := 17) C dX11_hides_49 rfl ?_
      refine r_sub C [2, 1, 0] (ls' := [(0, .ref (gad 50 0)), (1, .int x1_9), (2, .int x2_10)]) rfl ?_
      exact hn (x1_9, x2_10) (gSome hr)
noncomputable def X11_hides (M : gM) : Option (Int32 × gM) := (X11_frames (-1) (M.1 52 8 1059) M).bind (fun M_2 => (gIter (fun s => X11_hides_L17 s.1 s.2 M_2) FU (0, 0)).bind (fun x1_11 => some (x1_11, M_2)))
theorem k_X11_hides {G : gG5} {nf : Nat} {M : gM} {r : Int32} {M1 : gM} (hr : X11_hides M = some (r, M1)) : gMet G (gXn nf) yX11_hides cX11_hides 3 (some .int) 9 232 M [.ref (gad 50 0)] (some (.int r)) M1 := by
  refine gMet_of pl_X11 rfl (Nat.le_of_ble_eq_true rfl) (fun Ψ C CR => ?_)
  show Ψ M 0 [(0, .ref (gad 50 0))] []
  refine r_aload_n (pc := 0) C dX11_hides_0 rfl 0 rfl ?_
  refine r_iconst (pc := 1) C dX11_hides_1 kim1 ?_
  refine r_aload_n (pc := 2) C dX11_hides_2 rfl 0 rfl ?_
  refine g50_18 (pc := 3) C dX11_hides_3 q1418 (e50 nf) ?_
  refine r_sipush (pc := 6) C dX11_hides_6 ks1059 ?_
  refine r_ialdN (pc := 9) C dX11_hides_9 rfl (e52 (nf := nf) (by decide)) (by decide : gin 1059 1242 = true) kc1059 ?_
  obtain ⟨M_2, hc_1, hr⟩ := gBind_some hr
  refine c_X11_frames (pc := 10) C dX11_hides_10 q2000 ⟨Nat.le_of_ble_eq_true rfl, Nat.le_of_ble_eq_true rfl⟩ hc_1 (Nat.le_of_ble_eq_true rfl) ?_
  refine r_iconst (pc := 13) C dX11_hides_13 ki0 ?_
  refine r_istore_n (pc := 14) C dX11_hides_14 rfl (by decide) rfl (ls' := [(1, .int 0), (0, .ref (gad 50 0))]) rfl ?_
  refine r_iconst (pc := 15) C dX11_hides_15 ki0 ?_
  refine r_istore_n (pc := 16) C dX11_hides_16 rfl (by decide) rfl (ls' := [(2, .int 0), (1, .int 0), (0, .ref (gad 50 0))]) rfl ?_
  refine r_sub C [2, 1, 0] (ls' := [(0, .ref (gad 50 0)), (1, .int 0), (2, .int 0)]) rfl ?_
  obtain ⟨ev, hit, hr⟩ := gBind_some hr
  refine gIter_V (step := fun s => X11_hides_L17 s.1 s.2 M_2) (P := fun s => Ψ M_2 17 [(0, .ref (gad 50 0)), (1, .int (s.1)), (2, .int (s.2))] []) (K := (fun e => Ψ M_2 52 [(1, .int e)] [])) (fun s w hs hn hx => t_X11_hides_L17 C  hs hn hx) FU (0, 0) ev hit ?_
  obtain ⟨x1_11, rfl⟩ : ∃ z, z = ev := ⟨_, rfl⟩
  show Ψ M_2 52 [(1, .int x1_11)] []
  refine r_iload_n (pc := 52) C dX11_hides_52 rfl 0 rfl ?_
  exact r_iret (pc := 53) CR dX11_hides_53 (congrArg (fun z => some (Value.int z)) (Prod.mk.inj (gSome hr)).1) (Prod.mk.inj (gSome hr)).2
theorem c_X11_hides {Ψ : gM → Nat → List (Nat × Value) → List Value → Prop} {G : gG5} {nf : Nat} {cc : ByteArray} {own : String} {nL : Nat} {ret : Option FieldType} {fr lo : Nat} {v0 : Option Value} {M0 M : gM} {pc index : Nat} {ls : List (Nat × Value)} {st : List Value} (C : gC Ψ G (gXn nf) cc own nL ret fr lo v0 M0) (d : decode cc pc = .ok (.invokevirtual index, 3)) (hl : Cond.methodLink own index yX11_hides ∈ gws) (hR : 10 ≤ fr ∧ 254 ≤ lo) {r : Int32} {M1 : gM} (hr : X11_hides M = some (r, M1)) (hcat : (st.map fun v => v.category).sum ≤ 8) (k : Ψ M1 (pc + 3) ls (.int r :: st)) : Ψ M pc ls (.ref (gad 50 0) :: st) := r_callV C [] st d (k_X11_hides hr) hl q2046 q110 q127 q2047 hd_X11_hides hR rfl (by decide) (e50 nf) rfl hcat k
theorem hd_X11_saved : yX11_saved.cls ≠ "java/lang/invoke/MethodHandle" ∧ yX11_saved.cls ≠ "java/lang/invoke/VarHandle" ∧ (parseMethodDescriptor yX11_saved.desc).map (fun d => d.parameters.length) = some 0 := by decide +kernel
noncomputable def X11_saved (M : gM) : Option (Int32 × gM) := (X11_frames (-1) 0 M).bind (fun M_2 => (X11_pairs 9 M_2).bind (fun r_4 => (X11_frames (-1) 1 M_2).bind (fun M_6 => (X11_pairs 9 M_6).bind (fun r_8 => some ((r_4 - r_8), M_6)))))
theorem k_X11_saved {G : gG5} {nf : Nat} {M : gM} {r : Int32} {M1 : gM} (hr : X11_saved M = some (r, M1)) : gMet G (gXn nf) yX11_saved cX11_saved 2 (some .int) 9 232 M [.ref (gad 50 0)] (some (.int r)) M1 := by
  refine gMet_of pl_X11 rfl (Nat.le_of_ble_eq_true rfl) (fun Ψ C CR => ?_)
  show Ψ M 0 [(0, .ref (gad 50 0))] []
  refine r_aload_n (pc := 0) C dX11_saved_0 rfl 0 rfl ?_
  refine r_iconst (pc := 1) C dX11_saved_1 kim1 ?_
  refine r_iconst (pc := 2) C dX11_saved_2 ki0 ?_
  obtain ⟨M_2, hc_1, hr⟩ := gBind_some hr
  refine c_X11_frames (pc := 3) C dX11_saved_3 q2000 ⟨Nat.le_of_ble_eq_true rfl, Nat.le_of_ble_eq_true rfl⟩ hc_1 (Nat.le_of_ble_eq_true rfl) ?_
  refine r_aload_n (pc := 6) C dX11_saved_6 rfl 0 rfl ?_
  refine r_aload_n (pc := 7) C dX11_saved_7 rfl 0 rfl ?_
  refine g50_19 (pc := 8) C dX11_saved_8 q1419 (e50 nf) ?_
  obtain ⟨r_4, hc_3, hr⟩ := gBind_some hr
  refine c_X11_pairs (pc := 11) C dX11_saved_11 q1773 ⟨Nat.le_of_ble_eq_true rfl, Nat.le_of_ble_eq_true rfl⟩ (by decide) hc_3 (Nat.le_of_ble_eq_true rfl) ?_
  refine r_istore_n (pc := 14) C dX11_saved_14 rfl (by decide) rfl (ls' := [(1, .int r_4), (0, .ref (gad 50 0))]) rfl ?_
  refine r_aload_n (pc := 15) C dX11_saved_15 rfl 1 rfl ?_
  refine r_iconst (pc := 16) C dX11_saved_16 kim1 ?_
  refine r_iconst (pc := 17) C dX11_saved_17 ki1 ?_
  obtain ⟨M_6, hc_5, hr⟩ := gBind_some hr
  refine c_X11_frames (pc := 18) C dX11_saved_18 q2000 ⟨Nat.le_of_ble_eq_true rfl, Nat.le_of_ble_eq_true rfl⟩ hc_5 (Nat.le_of_ble_eq_true rfl) ?_
  refine r_iload_n (pc := 21) C dX11_saved_21 rfl 0 rfl ?_
  refine r_aload_n (pc := 22) C dX11_saved_22 rfl 1 rfl ?_
  refine r_aload_n (pc := 23) C dX11_saved_23 rfl 1 rfl ?_
  refine g50_19 (pc := 24) C dX11_saved_24 q1419 (e50 nf) ?_
  obtain ⟨r_8, hc_7, hr⟩ := gBind_some hr
  refine c_X11_pairs (pc := 27) C dX11_saved_27 q1773 ⟨Nat.le_of_ble_eq_true rfl, Nat.le_of_ble_eq_true rfl⟩ (by decide) hc_7 (Nat.le_of_ble_eq_true rfl) ?_
  refine r_isub (pc := 30) C dX11_saved_30 ?_
  exact r_iret (pc := 31) CR dX11_saved_31 (congrArg (fun z => some (Value.int z)) (Prod.mk.inj (gSome hr)).1) (Prod.mk.inj (gSome hr)).2
theorem c_X11_saved {Ψ : gM → Nat → List (Nat × Value) → List Value → Prop} {G : gG5} {nf : Nat} {cc : ByteArray} {own : String} {nL : Nat} {ret : Option FieldType} {fr lo : Nat} {v0 : Option Value} {M0 M : gM} {pc index : Nat} {ls : List (Nat × Value)} {st : List Value} (C : gC Ψ G (gXn nf) cc own nL ret fr lo v0 M0) (d : decode cc pc = .ok (.invokevirtual index, 3)) (hl : Cond.methodLink own index yX11_saved ∈ gws) (hR : 10 ≤ fr ∧ 253 ≤ lo) {r : Int32} {M1 : gM} (hr : X11_saved M = some (r, M1)) (hcat : (st.map fun v => v.category).sum ≤ 8) (k : Ψ M1 (pc + 3) ls (.int r :: st)) : Ψ M pc ls (.ref (gad 50 0) :: st) := r_callV C [] st d (k_X11_saved hr) hl q2050 q111 q127 q2051 hd_X11_saved hR rfl (by decide) (e50 nf) rfl hcat k
theorem hd_X11_culledOnes : yX11_culledOnes.cls ≠ "java/lang/invoke/MethodHandle" ∧ yX11_culledOnes.cls ≠ "java/lang/invoke/VarHandle" ∧ (parseMethodDescriptor yX11_culledOnes.desc).map (fun d => d.parameters.length) = some 0 := by decide +kernel
noncomputable def X11_culledOnes_L4 (x1 : Int32) (x2 : Int32) (M : gM) : Option ((Int32 × Int32 × gM) ⊕ (Int32 × gM)) := (if (M.1 50 0 16) ≤ x2 then some (.inr (x1, M)) else (X11_asks 8 x2 M).bind (fun M_3 => (if (M_3.1 50 0 31) = 0 then gLet ((x1 ||| 0)) (fun x1_5 => gLet (x2 + 1) (fun x2_6 => some (.inl (x1_5, x2_6, M_3)))) else gLet ((x1 ||| (1 <<< (x2 &&& 31)))) (fun x1_7 => gLet (x2 + 1) (fun x2_8 => some (.inl (x1_7, x2_8, M_3)))))))
theorem t_X11_culledOnes_L4 {Ψ : gM → Nat → List (Nat × Value) → List Value → Prop} {G : gG5} {nf : Nat} {M : gM} {v0 : Option Value} {M0 : gM} {x1 : Int32} {x2 : Int32} {w : ((Int32 × Int32 × gM) ⊕ (Int32 × gM))} (C : gC Ψ G (gXn nf) cX11_culledOnes RX11 3 (some .int) 2 49 v0 M0) (hr : X11_culledOnes_L4 x1 x2 M = some w) (hn : ∀ s, w = .inl s → Ψ s.2.2 4 [(0, .ref (gad 50 0)), (1, .int (s.1)), (2, .int (s.2.1))] []) (hx : ∀ e, w = .inr e → (fun e => Ψ e.2 44 [(1, .int (e.1))] []) e) : Ψ M 4 [(0, .ref (gad 50 0)), (1, .int x1), (2, .int x2)] [] := by
  refine r_iload_n (pc := 4) C dX11_culledOnes_4 rfl 2 rfl ?_
  refine r_aload_n (pc := 5) C dX11_culledOnes_5 rfl 0 rfl ?_
  refine g50_16 (pc := 6) C dX11_culledOnes_6 q1416 (e50 nf) ?_
  refine r_icmp_ge (pc := 9) (tgt := 44) C dX11_culledOnes_9 rfl (fun c_1 => ?_) (fun c_1 => ?_)
  · replace hr := (if_pos c_1).symm.trans hr
    refine r_sub C [1] (ls' := [(1, .int x1)]) rfl ?_
    exact hx (x1, M) (gSome hr)
  · replace hr := (if_neg c_1).symm.trans hr
    refine r_aload_n (pc := 12) C dX11_culledOnes_12 rfl 0 rfl ?_
    refine r_aload_n (pc := 13) C dX11_culledOnes_13 rfl 0 rfl ?_
    refine g50_18 (pc := 14) C dX11_culledOnes_14 q1418 (e50 nf) ?_
    refine r_iload_n (pc := 17) C dX11_culledOnes_17 rfl 2 rfl ?_
    obtain ⟨M_3, hc_2, hr⟩ := gBind_some hr
    refine c_X11_asks (pc := 18) C dX11_culledOnes_18 q1652 ⟨Nat.le_of_ble_eq_true rfl, Nat.le_of_ble_eq_true rfl⟩ (by decide) hc_2 (Nat.le_of_ble_eq_true rfl) ?_
    refine r_iload_n (pc := 21) C dX11_culledOnes_21 rfl 1 rfl ?_
    refine r_aload_n (pc := 22) C dX11_culledOnes_22 rfl 0 rfl ?_
    refine g50_31 (pc := 23) C dX11_culledOnes_23 q1431 (e50 nf) ?_
    refine r_if_eq (pc := 26) (tgt := 35) C dX11_culledOnes_26 rfl (fun c_4 => ?_) (fun c_4 => ?_)
    · replace hr := (if_pos c_4).symm.trans hr
      refine r_iconst (pc := 35) C dX11_culledOnes_35 ki0 ?_
      refine r_ior (pc := 36) C dX11_culledOnes_36 ?_
      obtain ⟨x1_5, ex1_5, hr⟩ := gLet_some hr
      refine r_istore_n (pc := 37) C dX11_culledOnes_37 rfl (by decide) ex1_5 (ls' := [(1, .int x1_5), (0, .ref (gad 50 0)), (2, .int x2)]) rfl ?_
      obtain ⟨x2_6, ex2_6, hr⟩ := gLet_some hr
      refine r_iinc (pc := 38) C dX11_culledOnes_38 2 rfl rfl (by decide) ex2_6 (ls' := [(2, .int x2_6), (1, .int x1_5), (0, .ref (gad 50 0))]) rfl ?_
      refine r_goto (pc := 41) (tgt := 4) C dX11_culledOnes_41 rfl ?_
      refine r_sub C [2, 1, 0] (ls' := [(0, .ref (gad 50 0)), (1, .int x1_5), (2, .int x2_6)]) rfl ?_
      exact hn (x1_5, x2_6, M_3) (gSome hr)
    · replace hr := (if_neg c_4).symm.trans hr
      refine r_iconst (pc := 29) C dX11_culledOnes_29 ki1 ?_
      refine r_iload_n (pc := 30) C dX11_culledOnes_30 rfl 2 rfl ?_
      refine r_ishl (pc := 31) C dX11_culledOnes_31 ?_
      refine r_goto (pc := 32) (tgt := 36) C dX11_culledOnes_32 rfl ?_
      refine r_ior (pc := 36) C dX11_culledOnes_36 ?_
      obtain ⟨x1_7, ex1_7, hr⟩ := gLet_some hr
      refine r_istore_n (pc := 37) C dX11_culledOnes_37 rfl (by decide) ex1_7 (ls' := [(1, .int x1_7), (0, .ref (gad 50 0)), (2, .int x2)]) rfl ?_
      obtain ⟨x2_8, ex2_8, hr⟩ := gLet_some hr
      refine r_iinc (pc := 38) C dX11_culledOnes_38 2 rfl rfl (by decide) ex2_8 (ls' := [(2, .int x2_8), (1, .int x1_7), (0, .ref (gad 50 0))]) rfl ?_
      refine r_goto (pc := 41) (tgt := 4) C dX11_culledOnes_41 rfl ?_
      refine r_sub C [2, 1, 0] (ls' := [(0, .ref (gad 50 0)), (1, .int x1_7), (2, .int x2_8)]) rfl ?_
      exact hn (x1_7, x2_8, M_3) (gSome hr)
noncomputable def X11_culledOnes (M : gM) : Option (Int32 × gM) := (gIter (fun s => X11_culledOnes_L4 s.1 s.2.1 s.2.2) FU (0, 0, M)).bind (gU2 (fun x1_9 M_10 => some (x1_9, M_10)))
theorem k_X11_culledOnes {G : gG5} {nf : Nat} {M : gM} {r : Int32} {M1 : gM} (hr : X11_culledOnes M = some (r, M1)) : gMet G (gXn nf) yX11_culledOnes cX11_culledOnes 3 (some .int) 2 49 M [.ref (gad 50 0)] (some (.int r)) M1 := by
  refine gMet_of pl_X11 rfl (Nat.le_of_ble_eq_true rfl) (fun Ψ C CR => ?_)
  show Ψ M 0 [(0, .ref (gad 50 0))] []
  refine r_iconst (pc := 0) C dX11_culledOnes_0 ki0 ?_
  refine r_istore_n (pc := 1) C dX11_culledOnes_1 rfl (by decide) rfl (ls' := [(1, .int 0), (0, .ref (gad 50 0))]) rfl ?_
  refine r_iconst (pc := 2) C dX11_culledOnes_2 ki0 ?_
  refine r_istore_n (pc := 3) C dX11_culledOnes_3 rfl (by decide) rfl (ls' := [(2, .int 0), (1, .int 0), (0, .ref (gad 50 0))]) rfl ?_
  refine r_sub C [2, 1, 0] (ls' := [(0, .ref (gad 50 0)), (1, .int 0), (2, .int 0)]) rfl ?_
  obtain ⟨ev, hit, hr⟩ := gBind_some hr
  refine gIter_V (step := fun s => X11_culledOnes_L4 s.1 s.2.1 s.2.2) (P := fun s => Ψ s.2.2 4 [(0, .ref (gad 50 0)), (1, .int (s.1)), (2, .int (s.2.1))] []) (K := (fun e => Ψ e.2 44 [(1, .int (e.1))] [])) (fun s w hs hn hx => t_X11_culledOnes_L4 C  hs hn hx) FU (0, 0, M) ev hit ?_
  obtain ⟨x1_9, M_10⟩ := ev
  replace hr := gU2_some hr
  show Ψ M_10 44 [(1, .int x1_9)] []
  refine r_iload_n (pc := 44) C dX11_culledOnes_44 rfl 0 rfl ?_
  exact r_iret (pc := 45) CR dX11_culledOnes_45 (congrArg (fun z => some (Value.int z)) (Prod.mk.inj (gSome hr)).1) (Prod.mk.inj (gSome hr)).2
theorem c_X11_culledOnes {Ψ : gM → Nat → List (Nat × Value) → List Value → Prop} {G : gG5} {nf : Nat} {cc : ByteArray} {own : String} {nL : Nat} {ret : Option FieldType} {fr lo : Nat} {v0 : Option Value} {M0 M : gM} {pc index : Nat} {ls : List (Nat × Value)} {st : List Value} (C : gC Ψ G (gXn nf) cc own nL ret fr lo v0 M0) (d : decode cc pc = .ok (.invokevirtual index, 3)) (hl : Cond.methodLink own index yX11_culledOnes ∈ gws) (hR : 3 ≤ fr ∧ 71 ≤ lo) {r : Int32} {M1 : gM} (hr : X11_culledOnes M = some (r, M1)) (hcat : (st.map fun v => v.category).sum ≤ 8) (k : Ψ M1 (pc + 3) ls (.int r :: st)) : Ψ M pc ls (.ref (gad 50 0) :: st) := r_callV C [] st d (k_X11_culledOnes hr) hl q2054 q112 q127 q2055 hd_X11_culledOnes hR rfl (by decide) (e50 nf) rfl hcat k
theorem hd_X11_fullest : yX11_fullest.cls ≠ "java/lang/invoke/MethodHandle" ∧ yX11_fullest.cls ≠ "java/lang/invoke/VarHandle" ∧ (parseMethodDescriptor yX11_fullest.desc).map (fun d => d.parameters.length) = some 0 := by decide +kernel
noncomputable def X11_fullest_L4 (x1 : Int32) (x2 : Int32) (M : gM) : Option ((Int32 × Int32) ⊕ Int32) := (X11_tilesAll M).bind (fun r_2 => (if r_2 ≤ x2 then some (.inr x1) else gG (gin (768 + (11 * x2)) 1242) (gG (gin (768 + (11 * x1)) 1242) ((if (M.1 52 8 (Int32.toNatClampNeg (768 + (11 * x2)))) ≤ (M.1 52 8 (Int32.toNatClampNeg (768 + (11 * x1)))) then gLet (x2 + 1) (fun x2_7 => some (.inl (x1, x2_7))) else gLet (x2 + 1) (fun x2_8 => some (.inl (x2, x2_8))))))))
theorem t_X11_fullest_L4 {Ψ : gM → Nat → List (Nat × Value) → List Value → Prop} {G : gG5} {nf : Nat} {M : gM} {v0 : Option Value} {M0 : gM} {x1 : Int32} {x2 : Int32} {w : ((Int32 × Int32) ⊕ Int32)} (C : gC Ψ G (gXn nf) cX11_fullest RX11 3 (some .int) 2 40 v0 M0) (hr : X11_fullest_L4 x1 x2 M = some w) (hn : ∀ s, w = .inl s → Ψ M 4 [(0, .ref (gad 50 0)), (1, .int (s.1)), (2, .int (s.2))] []) (hx : ∀ e, w = .inr e → (fun e => Ψ M 49 [(1, .int e)] []) e) : Ψ M 4 [(0, .ref (gad 50 0)), (1, .int x1), (2, .int x2)] [] := by
  refine r_iload_n (pc := 4) C dX11_fullest_4 rfl 2 rfl ?_
  refine r_aload_n (pc := 5) C dX11_fullest_5 rfl 0 rfl ?_
  obtain ⟨r_2, hc_1, hr⟩ := gBind_some hr
  refine c_X11_tilesAll (pc := 6) C dX11_fullest_6 q1663 ⟨Nat.le_of_ble_eq_true rfl, Nat.le_of_ble_eq_true rfl⟩ hc_1 (Nat.le_of_ble_eq_true rfl) ?_
  refine r_icmp_ge (pc := 9) (tgt := 49) C dX11_fullest_9 rfl (fun c_3 => ?_) (fun c_3 => ?_)
  · replace hr := (if_pos c_3).symm.trans hr
    refine r_sub C [1] (ls' := [(1, .int x1)]) rfl ?_
    exact hx x1 (gSome hr)
  · replace hr := (if_neg c_3).symm.trans hr
    refine r_aload_n (pc := 12) C dX11_fullest_12 rfl 0 rfl ?_
    refine g50_18 (pc := 13) C dX11_fullest_13 q1418 (e50 nf) ?_
    refine r_sipush (pc := 16) C dX11_fullest_16 ks768 ?_
    refine r_bipush (pc := 19) C dX11_fullest_19 kb11 ?_
    refine r_iload_n (pc := 21) C dX11_fullest_21 rfl 2 rfl ?_
    refine r_imul (pc := 22) C dX11_fullest_22 ?_
    refine r_iadd (pc := 23) C dX11_fullest_23 ?_
    obtain ⟨g_4, hr⟩ := gG_some hr
    refine r_ialdN (pc := 24) C dX11_fullest_24 rfl (e52 (nf := nf) (by decide)) g_4 rfl ?_
    refine r_aload_n (pc := 25) C dX11_fullest_25 rfl 0 rfl ?_
    refine g50_18 (pc := 26) C dX11_fullest_26 q1418 (e50 nf) ?_
    refine r_sipush (pc := 29) C dX11_fullest_29 ks768 ?_
    refine r_bipush (pc := 32) C dX11_fullest_32 kb11 ?_
    refine r_iload_n (pc := 34) C dX11_fullest_34 rfl 1 rfl ?_
    refine r_imul (pc := 35) C dX11_fullest_35 ?_
    refine r_iadd (pc := 36) C dX11_fullest_36 ?_
    obtain ⟨g_5, hr⟩ := gG_some hr
    refine r_ialdN (pc := 37) C dX11_fullest_37 rfl (e52 (nf := nf) (by decide)) g_5 rfl ?_
    refine r_icmp_le (pc := 38) (tgt := 43) C dX11_fullest_38 rfl (fun c_6 => ?_) (fun c_6 => ?_)
    · replace hr := (if_pos c_6).symm.trans hr
      obtain ⟨x2_7, ex2_7, hr⟩ := gLet_some hr
      refine r_iinc (pc := 43) C dX11_fullest_43 2 rfl rfl (by decide) ex2_7 (ls' := [(2, .int x2_7), (0, .ref (gad 50 0)), (1, .int x1)]) rfl ?_
      refine r_goto (pc := 46) (tgt := 4) C dX11_fullest_46 rfl ?_
      refine r_sub C [1, 2, 0] (ls' := [(0, .ref (gad 50 0)), (1, .int x1), (2, .int x2_7)]) rfl ?_
      exact hn (x1, x2_7) (gSome hr)
    · replace hr := (if_neg c_6).symm.trans hr
      refine r_iload_n (pc := 41) C dX11_fullest_41 rfl 2 rfl ?_
      refine r_istore_n (pc := 42) C dX11_fullest_42 rfl (by decide) rfl (ls' := [(1, .int x2), (0, .ref (gad 50 0)), (2, .int x2)]) rfl ?_
      obtain ⟨x2_8, ex2_8, hr⟩ := gLet_some hr
      refine r_iinc (pc := 43) C dX11_fullest_43 2 rfl rfl (by decide) ex2_8 (ls' := [(2, .int x2_8), (1, .int x2), (0, .ref (gad 50 0))]) rfl ?_
      refine r_goto (pc := 46) (tgt := 4) C dX11_fullest_46 rfl ?_
      refine r_sub C [2, 1, 0] (ls' := [(0, .ref (gad 50 0)), (1, .int x2), (2, .int x2_8)]) rfl ?_
      exact hn (x2, x2_8) (gSome hr)
noncomputable def X11_fullest (M : gM) : Option Int32 := (gIter (fun s => X11_fullest_L4 s.1 s.2 M) FU (0, 1)).bind (fun x1_9 => some x1_9)
theorem k_X11_fullest {G : gG5} {nf : Nat} {M : gM} {r : Int32} (hr : X11_fullest M = some r) : gMet G (gXn nf) yX11_fullest cX11_fullest 3 (some .int) 2 40 M [.ref (gad 50 0)] (some (.int r)) M := by
  refine gMet_of pl_X11 rfl (Nat.le_of_ble_eq_true rfl) (fun Ψ C CR => ?_)
  show Ψ M 0 [(0, .ref (gad 50 0))] []
  refine r_iconst (pc := 0) C dX11_fullest_0 ki0 ?_
  refine r_istore_n (pc := 1) C dX11_fullest_1 rfl (by decide) rfl (ls' := [(1, .int 0), (0, .ref (gad 50 0))]) rfl ?_
  refine r_iconst (pc := 2) C dX11_fullest_2 ki1 ?_
  refine r_istore_n (pc := 3) C dX11_fullest_3 rfl (by decide) rfl (ls' := [(2, .int 1), (1, .int 0), (0, .ref (gad 50 0))]) rfl ?_
  refine r_sub C [2, 1, 0] (ls' := [(0, .ref (gad 50 0)), (1, .int 0), (2, .int 1)]) rfl ?_
  obtain ⟨ev, hit, hr⟩ := gBind_some hr
  refine gIter_V (step := fun s => X11_fullest_L4 s.1 s.2 M) (P := fun s => Ψ M 4 [(0, .ref (gad 50 0)), (1, .int (s.1)), (2, .int (s.2))] []) (K := (fun e => Ψ M 49 [(1, .int e)] [])) (fun s w hs hn hx => t_X11_fullest_L4 C  hs hn hx) FU (0, 1) ev hit ?_
  obtain ⟨x1_9, rfl⟩ : ∃ z, z = ev := ⟨_, rfl⟩
  show Ψ M 49 [(1, .int x1_9)] []
  refine r_iload_n (pc := 49) C dX11_fullest_49 rfl 0 rfl ?_
  exact r_iret (pc := 50) CR dX11_fullest_50 (congrArg (fun z => some (Value.int z)) (gSome hr)) rfl
theorem c_X11_fullest {Ψ : gM → Nat → List (Nat × Value) → List Value → Prop} {G : gG5} {nf : Nat} {cc : ByteArray} {own : String} {nL : Nat} {ret : Option FieldType} {fr lo : Nat} {v0 : Option Value} {M0 M : gM} {pc index : Nat} {ls : List (Nat × Value)} {st : List Value} (C : gC Ψ G (gXn nf) cc own nL ret fr lo v0 M0) (d : decode cc pc = .ok (.invokevirtual index, 3)) (hl : Cond.methodLink own index yX11_fullest ∈ gws) (hR : 3 ≤ fr ∧ 62 ≤ lo) {r : Int32} (hr : X11_fullest M = some r) (hcat : (st.map fun v => v.category).sum ≤ 8) (k : Ψ M (pc + 3) ls (.int r :: st)) : Ψ M pc ls (.ref (gad 50 0) :: st) := r_callV C [] st d (k_X11_fullest hr) hl q2058 q113 q127 q2059 hd_X11_fullest hR rfl (by decide) (e50 nf) rfl hcat k
theorem hd_X11_binnedOnes : yX11_binnedOnes.cls ≠ "java/lang/invoke/MethodHandle" ∧ yX11_binnedOnes.cls ≠ "java/lang/invoke/VarHandle" ∧ (parseMethodDescriptor yX11_binnedOnes.desc).map (fun d => d.parameters.length) = some 0 := by decide +kernel
noncomputable def X11_binnedOnes_L4 (x1 : Int32) (x2 : Int32) (M : gM) : Option ((Int32 × Int32) ⊕ Int32) := (if (M.1 50 0 16) ≤ x2 then some (.inr x1) else (X11_isBinned 8 x2 M).bind (fun r_3 => (if r_3 = 0 then gLet ((x1 ||| 0)) (fun x1_5 => gLet (x2 + 1) (fun x2_6 => some (.inl (x1_5, x2_6)))) else gLet ((x1 ||| (1 <<< (x2 &&& 31)))) (fun x1_7 => gLet (x2 + 1) (fun x2_8 => some (.inl (x1_7, x2_8)))))))
theorem t_X11_binnedOnes_L4 {Ψ : gM → Nat → List (Nat × Value) → List Value → Prop} {G : gG5} {nf : Nat} {M : gM} {v0 : Option Value} {M0 : gM} {x1 : Int32} {x2 : Int32} {w : ((Int32 × Int32) ⊕ Int32)} (C : gC Ψ G (gXn nf) cX11_binnedOnes RX11 3 (some .int) 4 87 v0 M0) (hr : X11_binnedOnes_L4 x1 x2 M = some w) (hn : ∀ s, w = .inl s → Ψ M 4 [(0, .ref (gad 50 0)), (1, .int (s.1)), (2, .int (s.2))] []) (hx : ∀ e, w = .inr e → (fun e => Ψ M 40 [(1, .int e)] []) e) : Ψ M 4 [(0, .ref (gad 50 0)), (1, .int x1), (2, .int x2)] [] := by
  refine r_iload_n (pc := 4) C dX11_binnedOnes_4 rfl 2 rfl ?_
  refine r_aload_n (pc := 5) C dX11_binnedOnes_5 rfl 0 rfl ?_
  refine g50_16 (pc := 6) C dX11_binnedOnes_6 q1416 (e50 nf) ?_
  refine r_icmp_ge (pc := 9) (tgt := 40) C dX11_binnedOnes_9 rfl (fun c_1 => ?_) (fun c_1 => ?_)
  · replace hr := (if_pos c_1).symm.trans hr
    refine r_sub C [1] (ls' := [(1, .int x1)]) rfl ?_
    exact hx x1 (gSome hr)
  · replace hr := (if_neg c_1).symm.trans hr
    refine r_iload_n (pc := 12) C dX11_binnedOnes_12 rfl 1 rfl ?_
    refine r_aload_n (pc := 13) C dX11_binnedOnes_13 rfl 0 rfl ?_
    refine r_aload_n (pc := 14) C dX11_binnedOnes_14 rfl 0 rfl ?_
    refine g50_18 (pc := 15) C dX11_binnedOnes_15 q1418 (e50 nf) ?_
    refine r_iload_n (pc := 18) C dX11_binnedOnes_18 rfl 2 rfl ?_
    obtain ⟨r_3, hc_2, hr⟩ := gBind_some hr
    refine c_X11_isBinned (pc := 19) C dX11_binnedOnes_19 q1832 ⟨Nat.le_of_ble_eq_true rfl, Nat.le_of_ble_eq_true rfl⟩ (by decide) hc_2 (Nat.le_of_ble_eq_true rfl) ?_
    refine r_if_eq (pc := 22) (tgt := 31) C dX11_binnedOnes_22 rfl (fun c_4 => ?_) (fun c_4 => ?_)
    · replace hr := (if_pos c_4).symm.trans hr
      refine r_iconst (pc := 31) C dX11_binnedOnes_31 ki0 ?_
      refine r_ior (pc := 32) C dX11_binnedOnes_32 ?_
      obtain ⟨x1_5, ex1_5, hr⟩ := gLet_some hr
      refine r_istore_n (pc := 33) C dX11_binnedOnes_33 rfl (by decide) ex1_5 (ls' := [(1, .int x1_5), (0, .ref (gad 50 0)), (2, .int x2)]) rfl ?_
      obtain ⟨x2_6, ex2_6, hr⟩ := gLet_some hr
      refine r_iinc (pc := 34) C dX11_binnedOnes_34 2 rfl rfl (by decide) ex2_6 (ls' := [(2, .int x2_6), (1, .int x1_5), (0, .ref (gad 50 0))]) rfl ?_
      refine r_goto (pc := 37) (tgt := 4) C dX11_binnedOnes_37 rfl ?_
      refine r_sub C [2, 1, 0] (ls' := [(0, .ref (gad 50 0)), (1, .int x1_5), (2, .int x2_6)]) rfl ?_
      exact hn (x1_5, x2_6) (gSome hr)
    · replace hr := (if_neg c_4).symm.trans hr
      refine r_iconst (pc := 25) C dX11_binnedOnes_25 ki1 ?_
      refine r_iload_n (pc := 26) C dX11_binnedOnes_26 rfl 2 rfl ?_
      refine r_ishl (pc := 27) C dX11_binnedOnes_27 ?_
      refine r_goto (pc := 28) (tgt := 32) C dX11_binnedOnes_28 rfl ?_
      refine r_ior (pc := 32) C dX11_binnedOnes_32 ?_
      obtain ⟨x1_7, ex1_7, hr⟩ := gLet_some hr
      refine r_istore_n (pc := 33) C dX11_binnedOnes_33 rfl (by decide) ex1_7 (ls' := [(1, .int x1_7), (0, .ref (gad 50 0)), (2, .int x2)]) rfl ?_
      obtain ⟨x2_8, ex2_8, hr⟩ := gLet_some hr
      refine r_iinc (pc := 34) C dX11_binnedOnes_34 2 rfl rfl (by decide) ex2_8 (ls' := [(2, .int x2_8), (1, .int x1_7), (0, .ref (gad 50 0))]) rfl ?_
      refine r_goto (pc := 37) (tgt := 4) C dX11_binnedOnes_37 rfl ?_
      refine r_sub C [2, 1, 0] (ls' := [(0, .ref (gad 50 0)), (1, .int x1_7), (2, .int x2_8)]) rfl ?_
      exact hn (x1_7, x2_8) (gSome hr)
noncomputable def X11_binnedOnes (M : gM) : Option Int32 := (gIter (fun s => X11_binnedOnes_L4 s.1 s.2 M) FU (0, 0)).bind (fun x1_9 => some x1_9)
theorem k_X11_binnedOnes {G : gG5} {nf : Nat} {M : gM} {r : Int32} (hr : X11_binnedOnes M = some r) : gMet G (gXn nf) yX11_binnedOnes cX11_binnedOnes 3 (some .int) 4 87 M [.ref (gad 50 0)] (some (.int r)) M := by
  refine gMet_of pl_X11 rfl (Nat.le_of_ble_eq_true rfl) (fun Ψ C CR => ?_)
  show Ψ M 0 [(0, .ref (gad 50 0))] []
  refine r_iconst (pc := 0) C dX11_binnedOnes_0 ki0 ?_
  refine r_istore_n (pc := 1) C dX11_binnedOnes_1 rfl (by decide) rfl (ls' := [(1, .int 0), (0, .ref (gad 50 0))]) rfl ?_
  refine r_iconst (pc := 2) C dX11_binnedOnes_2 ki0 ?_
  refine r_istore_n (pc := 3) C dX11_binnedOnes_3 rfl (by decide) rfl (ls' := [(2, .int 0), (1, .int 0), (0, .ref (gad 50 0))]) rfl ?_
  refine r_sub C [2, 1, 0] (ls' := [(0, .ref (gad 50 0)), (1, .int 0), (2, .int 0)]) rfl ?_
  obtain ⟨ev, hit, hr⟩ := gBind_some hr
  refine gIter_V (step := fun s => X11_binnedOnes_L4 s.1 s.2 M) (P := fun s => Ψ M 4 [(0, .ref (gad 50 0)), (1, .int (s.1)), (2, .int (s.2))] []) (K := (fun e => Ψ M 40 [(1, .int e)] [])) (fun s w hs hn hx => t_X11_binnedOnes_L4 C  hs hn hx) FU (0, 0) ev hit ?_
  obtain ⟨x1_9, rfl⟩ : ∃ z, z = ev := ⟨_, rfl⟩
  show Ψ M 40 [(1, .int x1_9)] []
  refine r_iload_n (pc := 40) C dX11_binnedOnes_40 rfl 0 rfl ?_
  exact r_iret (pc := 41) CR dX11_binnedOnes_41 (congrArg (fun z => some (Value.int z)) (gSome hr)) rfl
theorem c_X11_binnedOnes {Ψ : gM → Nat → List (Nat × Value) → List Value → Prop} {G : gG5} {nf : Nat} {cc : ByteArray} {own : String} {nL : Nat} {ret : Option FieldType} {fr lo : Nat} {v0 : Option Value} {M0 M : gM} {pc index : Nat} {ls : List (Nat × Value)} {st : List Value} (C : gC Ψ G (gXn nf) cc own nL ret fr lo v0 M0) (d : decode cc pc = .ok (.invokevirtual index, 3)) (hl : Cond.methodLink own index yX11_binnedOnes ∈ gws) (hR : 5 ≤ fr ∧ 109 ≤ lo) {r : Int32} (hr : X11_binnedOnes M = some r) (hcat : (st.map fun v => v.category).sum ≤ 8) (k : Ψ M (pc + 3) ls (.int r :: st)) : Ψ M pc ls (.ref (gad 50 0) :: st) := r_callV C [] st d (k_X11_binnedOnes hr) hl q2062 q114 q127 q2063 hd_X11_binnedOnes hR rfl (by decide) (e50 nf) rfl hcat k
theorem hd_X11_most : yX11_most.cls ≠ "java/lang/invoke/MethodHandle" ∧ yX11_most.cls ≠ "java/lang/invoke/VarHandle" ∧ (parseMethodDescriptor yX11_most.desc).map (fun d => d.parameters.length) = some 1 := by decide +kernel
noncomputable def X11_most (p1 : Int32) (M : gM) : Option (Int32 × gM) := gLet (wI M 50 0 0 0) (fun M_1 => (if (M_1.1 50 0 16) = 0 then some ((-1000000000), M_1) else (if p1 = 0 then (X11_pairs 8 M_1).bind (fun r_5 => some (r_5, M_1)) else if p1 = 1 then some ((M_1.1 52 8 1054), M_1) else if p1 = 2 then some ((M_1.1 52 8 1055), M_1) else if p1 = 3 then some ((M_1.1 52 8 1056), M_1) else if p1 = 4 then (X11_pendingAll M_1).bind (fun r_7 => some (r_7, M_1)) else if p1 = 5 then (X11_hides M_1).bind (gU2 (fun r_9 M_10 => some (r_9, M_10))) else if p1 = 6 then (X11_saved M_1).bind (gU2 (fun r_12 M_13 => some (r_12, M_13))) else if p1 = 7 then (X11_culledOnes M_1).bind (gU2 (fun r_15 M_16 => some (r_15, M_16))) else if p1 = 8 then (X11_fullest M_1).bind (fun r_18 => some (r_18, M_1)) else if p1 = 9 then (X11_binnedOnes M_1).bind (fun r_20 => some (r_20, M_1)) else some ((-1000000000), M_1))))
theorem k_X11_most {G : gG5} {nf : Nat} {M : gM} {p1 : Int32} {r : Int32} {M1 : gM} (hr : X11_most p1 M = some (r, M1)) : gMet G (gXn nf) yX11_most cX11_most 2 (some .int) 10 254 M [.ref (gad 50 0), .int p1] (some (.int r)) M1 := by
  refine gMet_of pl_X11 rfl (Nat.le_of_ble_eq_true rfl) (fun Ψ C CR => ?_)
  show Ψ M 0 [(0, .ref (gad 50 0)), (1, .int p1)] []
  refine r_aload_n (pc := 0) C dX11_most_0 rfl 0 rfl ?_
  refine r_iconst (pc := 1) C dX11_most_1 ki0 ?_
  obtain ⟨M_1, eM_1, hr⟩ := gLet_some hr
  refine p50_0 (pc := 2) C dX11_most_2 q1400 (e50 nf) eM_1 ?_
  refine r_aload_n (pc := 5) C dX11_most_5 rfl 0 rfl ?_
  refine g50_16 (pc := 6) C dX11_most_6 q1416 (e50 nf) ?_
  refine r_if_ne (pc := 9) (tgt := 15) C dX11_most_9 rfl (fun c_2 => ?_) (fun c_2 => ?_)
  · replace hr := (if_neg c_2).symm.trans hr
    refine r_iload_n (pc := 15) C dX11_most_15 rfl 1 rfl ?_
    by_cases c_3_0 : p1 = 0
    · replace hr := (if_pos c_3_0).symm.trans hr
      refine r_tableIn (pc := 16) (tgt := 72) (off := 56) C dX11_most_16 0 c_3_0 (by decide) rfl ?_
      refine r_aload_n (pc := 72) C dX11_most_72 rfl 0 rfl ?_
      refine r_aload_n (pc := 73) C dX11_most_73 rfl 0 rfl ?_
      refine g50_18 (pc := 74) C dX11_most_74 q1418 (e50 nf) ?_
      obtain ⟨r_5, hc_4, hr⟩ := gBind_some hr
      refine c_X11_pairs (pc := 77) C dX11_most_77 q1773 ⟨Nat.le_of_ble_eq_true rfl, Nat.le_of_ble_eq_true rfl⟩ (by decide) hc_4 (Nat.le_of_ble_eq_true rfl) ?_
      exact r_iret (pc := 80) CR dX11_most_80 (congrArg (fun z => some (Value.int z)) (Prod.mk.inj (gSome hr)).1) (Prod.mk.inj (gSome hr)).2
    replace hr := (if_neg c_3_0).symm.trans hr
    by_cases c_3_1 : p1 = 1
    · replace hr := (if_pos c_3_1).symm.trans hr
      refine r_tableIn (pc := 16) (tgt := 81) (off := 65) C dX11_most_16 1 c_3_1 (by decide) rfl ?_
      refine r_aload_n (pc := 81) C dX11_most_81 rfl 0 rfl ?_
      refine g50_18 (pc := 82) C dX11_most_82 q1418 (e50 nf) ?_
      refine r_sipush (pc := 85) C dX11_most_85 ks1054 ?_
      refine r_ialdN (pc := 88) C dX11_most_88 rfl (e52 (nf := nf) (by decide)) (by decide : gin 1054 1242 = true) kc1054 ?_
      exact r_iret (pc := 89) CR dX11_most_89 (congrArg (fun z => some (Value.int z)) (Prod.mk.inj (gSome hr)).1) (Prod.mk.inj (gSome hr)).2
    replace hr := (if_neg c_3_1).symm.trans hr
    by_cases c_3_2 : p1 = 2
    · replace hr := (if_pos c_3_2).symm.trans hr
      refine r_tableIn (pc := 16) (tgt := 90) (off := 74) C dX11_most_16 2 c_3_2 (by decide) rfl ?_
      refine r_aload_n (pc := 90) C dX11_most_90 rfl 0 rfl ?_
      refine g50_18 (pc := 91) C dX11_most_91 q1418 (e50 nf) ?_
      refine r_sipush (pc := 94) C dX11_most_94 ks1055 ?_
      refine r_ialdN (pc := 97) C dX11_most_97 rfl (e52 (nf := nf) (by decide)) (by decide : gin 1055 1242 = true) kc1055 ?_
      exact r_iret (pc := 98) CR dX11_most_98 (congrArg (fun z => some (Value.int z)) (Prod.mk.inj (gSome hr)).1) (Prod.mk.inj (gSome hr)).2
    replace hr := (if_neg c_3_2).symm.trans hr
    by_cases c_3_3 : p1 = 3
    · replace hr := (if_pos c_3_3).symm.trans hr
      refine r_tableIn (pc := 16) (tgt := 99) (off := 83) C dX11_most_16 3 c_3_3 (by decide) rfl ?_
      refine r_aload_n (pc := 99) C dX11_most_99 rfl 0 rfl ?_
      refine g50_18 (pc := 100) C dX11_most_100 q1418 (e50 nf) ?_
      refine r_sipush (pc := 103) C dX11_most_103 ks1056 ?_
      refine r_ialdN (pc := 106) C dX11_most_106 rfl (e52 (nf := nf) (by decide)) (by decide : gin 1056 1242 = true) kc1056 ?_
      exact r_iret (pc := 107) CR dX11_most_107 (congrArg (fun z => some (Value.int z)) (Prod.mk.inj (gSome hr)).1) (Prod.mk.inj (gSome hr)).2
    replace hr := (if_neg c_3_3).symm.trans hr
    by_cases c_3_4 : p1 = 4
    · replace hr := (if_pos c_3_4).symm.trans hr
      refine r_tableIn (pc := 16) (tgt := 108) (off := 92) C dX11_most_16 4 c_3_4 (by decide) rfl ?_
      refine r_aload_n (pc := 108) C dX11_most_108 rfl 0 rfl ?_
      obtain ⟨r_7, hc_6, hr⟩ := gBind_some hr
      refine c_X11_pendingAll (pc := 109) C dX11_most_109 q2040 ⟨Nat.le_of_ble_eq_true rfl, Nat.le_of_ble_eq_true rfl⟩ hc_6 (Nat.le_of_ble_eq_true rfl) ?_
      exact r_iret (pc := 112) CR dX11_most_112 (congrArg (fun z => some (Value.int z)) (Prod.mk.inj (gSome hr)).1) (Prod.mk.inj (gSome hr)).2
    replace hr := (if_neg c_3_4).symm.trans hr
    by_cases c_3_5 : p1 = 5
    · replace hr := (if_pos c_3_5).symm.trans hr
      refine r_tableIn (pc := 16) (tgt := 113) (off := 97) C dX11_most_16 5 c_3_5 (by decide) rfl ?_
      refine r_aload_n (pc := 113) C dX11_most_113 rfl 0 rfl ?_
      obtain ⟨⟨r_9, M_10⟩, hc_8, hr⟩ := gBind_some hr
      replace hr := gU2_some hr
      refine c_X11_hides (pc := 114) C dX11_most_114 q2044 ⟨Nat.le_of_ble_eq_true rfl, Nat.le_of_ble_eq_true rfl⟩ hc_8 (Nat.le_of_ble_eq_true rfl) ?_
      exact r_iret (pc := 117) CR dX11_most_117 (congrArg (fun z => some (Value.int z)) (Prod.mk.inj (gSome hr)).1) (Prod.mk.inj (gSome hr)).2
    replace hr := (if_neg c_3_5).symm.trans hr
    by_cases c_3_6 : p1 = 6
    · replace hr := (if_pos c_3_6).symm.trans hr
      refine r_tableIn (pc := 16) (tgt := 118) (off := 102) C dX11_most_16 6 c_3_6 (by decide) rfl ?_
      refine r_aload_n (pc := 118) C dX11_most_118 rfl 0 rfl ?_
      obtain ⟨⟨r_12, M_13⟩, hc_11, hr⟩ := gBind_some hr
      replace hr := gU2_some hr
      refine c_X11_saved (pc := 119) C dX11_most_119 q2048 ⟨Nat.le_of_ble_eq_true rfl, Nat.le_of_ble_eq_true rfl⟩ hc_11 (Nat.le_of_ble_eq_true rfl) ?_
      exact r_iret (pc := 122) CR dX11_most_122 (congrArg (fun z => some (Value.int z)) (Prod.mk.inj (gSome hr)).1) (Prod.mk.inj (gSome hr)).2
    replace hr := (if_neg c_3_6).symm.trans hr
    by_cases c_3_7 : p1 = 7
    · replace hr := (if_pos c_3_7).symm.trans hr
      refine r_tableIn (pc := 16) (tgt := 123) (off := 107) C dX11_most_16 7 c_3_7 (by decide) rfl ?_
      refine r_aload_n (pc := 123) C dX11_most_123 rfl 0 rfl ?_
      obtain ⟨⟨r_15, M_16⟩, hc_14, hr⟩ := gBind_some hr
      replace hr := gU2_some hr
      refine c_X11_culledOnes (pc := 124) C dX11_most_124 q2052 ⟨Nat.le_of_ble_eq_true rfl, Nat.le_of_ble_eq_true rfl⟩ hc_14 (Nat.le_of_ble_eq_true rfl) ?_
      exact r_iret (pc := 127) CR dX11_most_127 (congrArg (fun z => some (Value.int z)) (Prod.mk.inj (gSome hr)).1) (Prod.mk.inj (gSome hr)).2
    replace hr := (if_neg c_3_7).symm.trans hr
    by_cases c_3_8 : p1 = 8
    · replace hr := (if_pos c_3_8).symm.trans hr
      refine r_tableIn (pc := 16) (tgt := 128) (off := 112) C dX11_most_16 8 c_3_8 (by decide) rfl ?_
      refine r_aload_n (pc := 128) C dX11_most_128 rfl 0 rfl ?_
      obtain ⟨r_18, hc_17, hr⟩ := gBind_some hr
      refine c_X11_fullest (pc := 129) C dX11_most_129 q2056 ⟨Nat.le_of_ble_eq_true rfl, Nat.le_of_ble_eq_true rfl⟩ hc_17 (Nat.le_of_ble_eq_true rfl) ?_
      exact r_iret (pc := 132) CR dX11_most_132 (congrArg (fun z => some (Value.int z)) (Prod.mk.inj (gSome hr)).1) (Prod.mk.inj (gSome hr)).2
    replace hr := (if_neg c_3_8).symm.trans hr
    by_cases c_3_9 : p1 = 9
    · replace hr := (if_pos c_3_9).symm.trans hr
      refine r_tableIn (pc := 16) (tgt := 133) (off := 117) C dX11_most_16 9 c_3_9 (by decide) rfl ?_
      refine r_aload_n (pc := 133) C dX11_most_133 rfl 0 rfl ?_
      obtain ⟨r_20, hc_19, hr⟩ := gBind_some hr
      refine c_X11_binnedOnes (pc := 134) C dX11_most_134 q2060 ⟨Nat.le_of_ble_eq_true rfl, Nat.le_of_ble_eq_true rfl⟩ hc_19 (Nat.le_of_ble_eq_true rfl) ?_
      exact r_iret (pc := 137) CR dX11_most_137 (congrArg (fun z => some (Value.int z)) (Prod.mk.inj (gSome hr)).1) (Prod.mk.inj (gSome hr)).2
    replace hr := (if_neg c_3_9).symm.trans hr
    refine r_tableOut (pc := 16) (tgt := 138) C dX11_most_16 (fun k h1 h2 => ?_) rfl ?_
    · rcases (show k = 0 ∨ k = 1 ∨ k = 2 ∨ k = 3 ∨ k = 4 ∨ k = 5 ∨ k = 6 ∨ k = 7 ∨ k = 8 ∨ k = 9 by omega) with rfl | rfl | rfl | rfl | rfl | rfl | rfl | rfl | rfl | rfl
      all_goals assumption
    · refine r_ldc (pc := 138) C dX11_most_138 q1626 ?_
      exact r_iret (pc := 140) CR dX11_most_140 (congrArg (fun z => some (Value.int z)) (Prod.mk.inj (gSome hr)).1) (Prod.mk.inj (gSome hr)).2
  · replace hr := (if_pos c_2).symm.trans hr
    refine r_ldc (pc := 12) C dX11_most_12 q1626 ?_
    exact r_iret (pc := 14) CR dX11_most_14 (congrArg (fun z => some (Value.int z)) (Prod.mk.inj (gSome hr)).1) (Prod.mk.inj (gSome hr)).2
theorem c_X11_most {Ψ : gM → Nat → List (Nat × Value) → List Value → Prop} {G : gG5} {nf : Nat} {cc : ByteArray} {own : String} {nL : Nat} {ret : Option FieldType} {fr lo : Nat} {v0 : Option Value} {M0 M : gM} {pc index : Nat} {ls : List (Nat × Value)} {st : List Value} (C : gC Ψ G (gXn nf) cc own nL ret fr lo v0 M0) (d : decode cc pc = .ok (.invokevirtual index, 3)) (hl : Cond.methodLink own index yX11_most ∈ gws) (hR : 11 ≤ fr ∧ 275 ≤ lo) {p1 : Int32} {r : Int32} {M1 : gM} (hr : X11_most p1 M = some (r, M1)) (hcat : (st.map fun v => v.category).sum ≤ 8) (k : Ψ M1 (pc + 3) ls (.int r :: st)) : Ψ M pc ls (.int p1 :: .ref (gad 50 0) :: st) := r_callV C [.int p1] st d (k_X11_most hr) hl q2037 q2038 q127 q2039 hd_X11_most hR rfl (by decide) (e50 nf) rfl hcat k
theorem hd_X11_count : yX11_count.cls ≠ "java/lang/invoke/MethodHandle" ∧ yX11_count.cls ≠ "java/lang/invoke/VarHandle" ∧ (parseMethodDescriptor yX11_count.desc).map (fun d => d.parameters.length) = some 1 := by decide +kernel
noncomputable def X11_count (p1 : Int32) (M : gM) : Option (Int32 × gM) := gLet (wI M 50 0 0 0) (fun M_1 => (if p1 = 0 then some ((M_1.1 50 0 16), M_1) else if p1 = 1 then some ((M_1.1 50 0 17), M_1) else if p1 = 2 then some ((M_1.1 50 0 2), M_1) else if p1 = 3 then (if (M_1.1 50 0 16) = 0 then some (0, M_1) else (X11_tilesAll M_1).bind (fun r_5 => some (r_5, M_1))) else if p1 = 4 then some ((M_1.1 52 8 1061), M_1) else if p1 = 5 then some ((M_1.1 50 0 23), M_1) else some ((-1000000000), M_1)))
theorem k_X11_count {G : gG5} {nf : Nat} {M : gM} {p1 : Int32} {r : Int32} {M1 : gM} (hr : X11_count p1 M = some (r, M1)) : gMet G (gXn nf) yX11_count cX11_count 2 (some .int) 2 40 M [.ref (gad 50 0), .int p1] (some (.int r)) M1 := by
  refine gMet_of pl_X11 rfl (Nat.le_of_ble_eq_true rfl) (fun Ψ C CR => ?_)
  show Ψ M 0 [(0, .ref (gad 50 0)), (1, .int p1)] []
  refine r_aload_n (pc := 0) C dX11_count_0 rfl 0 rfl ?_
  refine r_iconst (pc := 1) C dX11_count_1 ki0 ?_
  obtain ⟨M_1, eM_1, hr⟩ := gLet_some hr
  refine p50_0 (pc := 2) C dX11_count_2 q1400 (e50 nf) eM_1 ?_
  refine r_iload_n (pc := 5) C dX11_count_5 rfl 1 rfl ?_
  by_cases c_2_0 : p1 = 0
  · replace hr := (if_pos c_2_0).symm.trans hr
    refine r_tableIn (pc := 6) (tgt := 44) (off := 38) C dX11_count_6 0 c_2_0 (by decide) rfl ?_
    refine r_aload_n (pc := 44) C dX11_count_44 rfl 0 rfl ?_
    refine g50_16 (pc := 45) C dX11_count_45 q1416 (e50 nf) ?_
    exact r_iret (pc := 48) CR dX11_count_48 (congrArg (fun z => some (Value.int z)) (Prod.mk.inj (gSome hr)).1) (Prod.mk.inj (gSome hr)).2
  replace hr := (if_neg c_2_0).symm.trans hr
  by_cases c_2_1 : p1 = 1
  · replace hr := (if_pos c_2_1).symm.trans hr
    refine r_tableIn (pc := 6) (tgt := 49) (off := 43) C dX11_count_6 1 c_2_1 (by decide) rfl ?_
    refine r_aload_n (pc := 49) C dX11_count_49 rfl 0 rfl ?_
    refine g50_17 (pc := 50) C dX11_count_50 q1417 (e50 nf) ?_
    exact r_iret (pc := 53) CR dX11_count_53 (congrArg (fun z => some (Value.int z)) (Prod.mk.inj (gSome hr)).1) (Prod.mk.inj (gSome hr)).2
  replace hr := (if_neg c_2_1).symm.trans hr
  by_cases c_2_2 : p1 = 2
  · replace hr := (if_pos c_2_2).symm.trans hr
    refine r_tableIn (pc := 6) (tgt := 54) (off := 48) C dX11_count_6 2 c_2_2 (by decide) rfl ?_
    refine r_aload_n (pc := 54) C dX11_count_54 rfl 0 rfl ?_
    refine g50_2 (pc := 55) C dX11_count_55 q1402 (e50 nf) ?_
    exact r_iret (pc := 58) CR dX11_count_58 (congrArg (fun z => some (Value.int z)) (Prod.mk.inj (gSome hr)).1) (Prod.mk.inj (gSome hr)).2
  replace hr := (if_neg c_2_2).symm.trans hr
  by_cases c_2_3 : p1 = 3
  · replace hr := (if_pos c_2_3).symm.trans hr
    refine r_tableIn (pc := 6) (tgt := 59) (off := 53) C dX11_count_6 3 c_2_3 (by decide) rfl ?_
    refine r_aload_n (pc := 59) C dX11_count_59 rfl 0 rfl ?_
    refine g50_16 (pc := 60) C dX11_count_60 q1416 (e50 nf) ?_
    refine r_if_ne (pc := 63) (tgt := 70) C dX11_count_63 rfl (fun c_3 => ?_) (fun c_3 => ?_)
    · replace hr := (if_neg c_3).symm.trans hr
      refine r_aload_n (pc := 70) C dX11_count_70 rfl 0 rfl ?_
      obtain ⟨r_5, hc_4, hr⟩ := gBind_some hr
      refine c_X11_tilesAll (pc := 71) C dX11_count_71 q1663 ⟨Nat.le_of_ble_eq_true rfl, Nat.le_of_ble_eq_true rfl⟩ hc_4 (Nat.le_of_ble_eq_true rfl) ?_
      exact r_iret (pc := 74) CR dX11_count_74 (congrArg (fun z => some (Value.int z)) (Prod.mk.inj (gSome hr)).1) (Prod.mk.inj (gSome hr)).2
    · replace hr := (if_pos c_3).symm.trans hr
      refine r_iconst (pc := 66) C dX11_count_66 ki0 ?_
      refine r_goto (pc := 67) (tgt := 74) C dX11_count_67 rfl ?_
      exact r_iret (pc := 74) CR dX11_count_74 (congrArg (fun z => some (Value.int z)) (Prod.mk.inj (gSome hr)).1) (Prod.mk.inj (gSome hr)).2
  replace hr := (if_neg c_2_3).symm.trans hr
  by_cases c_2_4 : p1 = 4
  · replace hr := (if_pos c_2_4).symm.trans hr
    refine r_tableIn (pc := 6) (tgt := 75) (off := 69) C dX11_count_6 4 c_2_4 (by decide) rfl ?_
    refine r_aload_n (pc := 75) C dX11_count_75 rfl 0 rfl ?_
    refine g50_18 (pc := 76) C dX11_count_76 q1418 (e50 nf) ?_
    refine r_sipush (pc := 79) C dX11_count_79 ks1061 ?_
    refine r_ialdN (pc := 82) C dX11_count_82 rfl (e52 (nf := nf) (by decide)) (by decide : gin 1061 1242 = true) kc1061 ?_
    exact r_iret (pc := 83) CR dX11_count_83 (congrArg (fun z => some (Value.int z)) (Prod.mk.inj (gSome hr)).1) (Prod.mk.inj (gSome hr)).2
  replace hr := (if_neg c_2_4).symm.trans hr
  by_cases c_2_5 : p1 = 5
  · replace hr := (if_pos c_2_5).symm.trans hr
    refine r_tableIn (pc := 6) (tgt := 84) (off := 78) C dX11_count_6 5 c_2_5 (by decide) rfl ?_
    refine r_aload_n (pc := 84) C dX11_count_84 rfl 0 rfl ?_
    refine g50_23 (pc := 85) C dX11_count_85 q1423 (e50 nf) ?_
    exact r_iret (pc := 88) CR dX11_count_88 (congrArg (fun z => some (Value.int z)) (Prod.mk.inj (gSome hr)).1) (Prod.mk.inj (gSome hr)).2
  replace hr := (if_neg c_2_5).symm.trans hr
  refine r_tableOut (pc := 6) (tgt := 89) C dX11_count_6 (fun k h1 h2 => ?_) rfl ?_
  · rcases (show k = 0 ∨ k = 1 ∨ k = 2 ∨ k = 3 ∨ k = 4 ∨ k = 5 by omega) with rfl | rfl | rfl | rfl | rfl | rfl
    all_goals assumption
  · refine r_ldc (pc := 89) C dX11_count_89 q1626 ?_
    exact r_iret (pc := 91) CR dX11_count_91 (congrArg (fun z => some (Value.int z)) (Prod.mk.inj (gSome hr)).1) (Prod.mk.inj (gSome hr)).2
theorem c_X11_count {Ψ : gM → Nat → List (Nat × Value) → List Value → Prop} {G : gG5} {nf : Nat} {cc : ByteArray} {own : String} {nL : Nat} {ret : Option FieldType} {fr lo : Nat} {v0 : Option Value} {M0 M : gM} {pc index : Nat} {ls : List (Nat × Value)} {st : List Value} (C : gC Ψ G (gXn nf) cc own nL ret fr lo v0 M0) (d : decode cc pc = .ok (.invokevirtual index, 3)) (hl : Cond.methodLink own index yX11_count ∈ gws) (hR : 3 ≤ fr ∧ 61 ≤ lo) {p1 : Int32} {r : Int32} {M1 : gM} (hr : X11_count p1 M = some (r, M1)) (hcat : (st.map fun v => v.category).sum ≤ 8) (k : Ψ M1 (pc + 3) ls (.int r :: st)) : Ψ M pc ls (.int p1 :: .ref (gad 50 0) :: st) := r_callV C [.int p1] st d (k_X11_count hr) hl q2065 q2066 q127 q2067 hd_X11_count hR rfl (by decide) (e50 nf) rfl hcat k
