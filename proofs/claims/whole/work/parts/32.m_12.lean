theorem hd_X11_layer : yX11_layer.cls ≠ "java/lang/invoke/MethodHandle" ∧ yX11_layer.cls ≠ "java/lang/invoke/VarHandle" ∧ (parseMethodDescriptor yX11_layer.desc).map (fun d => d.parameters.length) = some 4 := by decide +kernel
noncomputable def X11_layer_L25 (x1 : Int32) (x2 : Int32) (x3 : Int32) (x4 : Int32) (x5 : Int32) (M : gM) : Option ((Int32 × gM) ⊕ gM) := (if (M.1 50 0 16) ≤ x5 then some (.inr M) else (X11_asks 8 x5 M).bind (fun M_8 => (X11_coversSample x1 x2 x3 M_8).bind (fun r_10 => (if r_10 = 0 then gG (gin x5 10) (gLet (wI M_8 52 15 (Int32.toNatClampNeg x5) (-1)) (fun M_13 => gLet (x5 + 1) (fun x5_14 => some (.inl (x5_14, M_13))))) else (X11_sampleX x3 M_8).bind (fun r_16 => (X11_sampleY x3 M_8).bind (fun r_18 => (X11_depthAt ((8 * x1) + r_16) ((8 * x2) + r_18) M_8).bind (fun r_20 => gG (gin x5 10) (gLet (wI M_8 52 15 (Int32.toNatClampNeg x5) r_20) (fun M_22 => gLet (x5 + 1) (fun x5_23 => some (.inl (x5_23, M_22))))))))))))
theorem t_X11_layer_L25 {Ψ : gM → Nat → List (Nat × Value) → List Value → Prop} {G : gG5} {nf : Nat} {M : gM} {v0 : Option Value} {M0 : gM} {x1 : Int32} {x2 : Int32} {x3 : Int32} {x4 : Int32} {x5 : Int32} {w : ((Int32 × gM) ⊕ gM)} (C : gC Ψ G (gXn nf) cX11_layer RX11 8 (some .int) 3 73 v0 M0) (hr : X11_layer_L25 x1 x2 x3 x4 x5 M = some w) (hn : ∀ s, w = .inl s → Ψ s.2 25 [(0, .ref (gad 50 0)), (1, .int x1), (2, .int x2), (3, .int x3), (4, .int x4), (5, .int (s.1))] []) (hx : ∀ e, w = .inr e → (fun e => Ψ e 95 [(0, .ref (gad 50 0)), (4, .int x4)] []) e) : Ψ M 25 [(0, .ref (gad 50 0)), (1, .int x1), (2, .int x2), (3, .int x3), (4, .int x4), (5, .int x5)] [] := by
  refine r_iload (pc := 25) C dX11_layer_25 5 rfl ?_
  refine r_aload_n (pc := 27) C dX11_layer_27 rfl 0 rfl ?_
  refine g50_16 (pc := 28) C dX11_layer_28 q1416 (e50 nf) ?_
  refine r_icmp_ge (pc := 31) (tgt := 95) C dX11_layer_31 rfl (fun c_6 => ?_) (fun c_6 => ?_)
  · replace hr := (if_pos c_6).symm.trans hr
    refine r_sub C [0, 4] (ls' := [(0, .ref (gad 50 0)), (4, .int x4)]) rfl ?_
    exact hx M (gSome hr)
  · replace hr := (if_neg c_6).symm.trans hr
    refine r_aload_n (pc := 34) C dX11_layer_34 rfl 0 rfl ?_
    refine r_aload_n (pc := 35) C dX11_layer_35 rfl 0 rfl ?_
    refine g50_18 (pc := 36) C dX11_layer_36 q1418 (e50 nf) ?_
    refine r_iload (pc := 39) C dX11_layer_39 5 rfl ?_
    obtain ⟨M_8, hc_7, hr⟩ := gBind_some hr
    refine c_X11_asks (pc := 41) C dX11_layer_41 q1652 ⟨Nat.le_of_ble_eq_true rfl, Nat.le_of_ble_eq_true rfl⟩ (by decide) hc_7 (Nat.le_of_ble_eq_true rfl) ?_
    refine r_aload_n (pc := 44) C dX11_layer_44 rfl 0 rfl ?_
    refine g50_33 (pc := 45) C dX11_layer_45 q1433 (e50 nf) ?_
    refine r_iload (pc := 48) C dX11_layer_48 5 rfl ?_
    refine r_aload_n (pc := 50) C dX11_layer_50 rfl 0 rfl ?_
    refine r_iload_n (pc := 51) C dX11_layer_51 rfl 1 rfl ?_
    refine r_iload_n (pc := 52) C dX11_layer_52 rfl 2 rfl ?_
    refine r_iload_n (pc := 53) C dX11_layer_53 rfl 3 rfl ?_
    obtain ⟨r_10, hc_9, hr⟩ := gBind_some hr
    refine c_X11_coversSample (pc := 54) C dX11_layer_54 q1907 ⟨Nat.le_of_ble_eq_true rfl, Nat.le_of_ble_eq_true rfl⟩ hc_9 (Nat.le_of_ble_eq_true rfl) ?_
    refine r_if_eq (pc := 57) (tgt := 87) C dX11_layer_57 rfl (fun c_11 => ?_) (fun c_11 => ?_)
    · replace hr := (if_pos c_11).symm.trans hr
      refine r_iconst (pc := 87) C dX11_layer_87 kim1 ?_
      obtain ⟨g_12, hr⟩ := gG_some hr
      obtain ⟨M_13, eM_13, hr⟩ := gLet_some hr
      refine r_iastN (pc := 88) C dX11_layer_88 rfl (e52 (nf := nf) (by decide)) g_12 rfl eM_13 ?_
      obtain ⟨x5_14, ex5_14, hr⟩ := gLet_some hr
      refine r_iinc (pc := 89) C dX11_layer_89 5 rfl rfl (by decide) ex5_14 (ls' := [(5, .int x5_14), (0, .ref (gad 50 0)), (1, .int x1), (2, .int x2), (3, .int x3), (4, .int x4)]) rfl ?_
      refine r_goto (pc := 92) (tgt := 25) C dX11_layer_92 rfl ?_
      refine r_sub C [1, 2, 3, 4, 5, 0] (ls' := [(0, .ref (gad 50 0)), (1, .int x1), (2, .int x2), (3, .int x3), (4, .int x4), (5, .int x5_14)]) rfl ?_
      exact hn (x5_14, M_13) (gSome hr)
    · replace hr := (if_neg c_11).symm.trans hr
      refine r_aload_n (pc := 60) C dX11_layer_60 rfl 0 rfl ?_
      refine r_bipush (pc := 61) C dX11_layer_61 kb8 ?_
      refine r_iload_n (pc := 63) C dX11_layer_63 rfl 1 rfl ?_
      refine r_imul (pc := 64) C dX11_layer_64 ?_
      refine r_aload_n (pc := 65) C dX11_layer_65 rfl 0 rfl ?_
      refine r_iload_n (pc := 66) C dX11_layer_66 rfl 3 rfl ?_
      obtain ⟨r_16, hc_15, hr⟩ := gBind_some hr
      refine c_X11_sampleX (pc := 67) C dX11_layer_67 q1735 ⟨Nat.le_of_ble_eq_true rfl, Nat.le_of_ble_eq_true rfl⟩ hc_15 (Nat.le_of_ble_eq_true rfl) ?_
      refine r_iadd (pc := 70) C dX11_layer_70 ?_
      refine r_bipush (pc := 71) C dX11_layer_71 kb8 ?_
      refine r_iload_n (pc := 73) C dX11_layer_73 rfl 2 rfl ?_
      refine r_imul (pc := 74) C dX11_layer_74 ?_
      refine r_aload_n (pc := 75) C dX11_layer_75 rfl 0 rfl ?_
      refine r_iload_n (pc := 76) C dX11_layer_76 rfl 3 rfl ?_
      obtain ⟨r_18, hc_17, hr⟩ := gBind_some hr
      refine c_X11_sampleY (pc := 77) C dX11_layer_77 q1739 ⟨Nat.le_of_ble_eq_true rfl, Nat.le_of_ble_eq_true rfl⟩ hc_17 (Nat.le_of_ble_eq_true rfl) ?_
      refine r_iadd (pc := 80) C dX11_layer_80 ?_
      obtain ⟨r_20, hc_19, hr⟩ := gBind_some hr
      refine c_X11_depthAt (pc := 81) C dX11_layer_81 q1751 ⟨Nat.le_of_ble_eq_true rfl, Nat.le_of_ble_eq_true rfl⟩ hc_19 (Nat.le_of_ble_eq_true rfl) ?_
      refine r_goto (pc := 84) (tgt := 88) C dX11_layer_84 rfl ?_
      obtain ⟨g_21, hr⟩ := gG_some hr
      obtain ⟨M_22, eM_22, hr⟩ := gLet_some hr
      refine r_iastN (pc := 88) C dX11_layer_88 rfl (e52 (nf := nf) (by decide)) g_21 rfl eM_22 ?_
      obtain ⟨x5_23, ex5_23, hr⟩ := gLet_some hr
      refine r_iinc (pc := 89) C dX11_layer_89 5 rfl rfl (by decide) ex5_23 (ls' := [(5, .int x5_23), (0, .ref (gad 50 0)), (1, .int x1), (2, .int x2), (3, .int x3), (4, .int x4)]) rfl ?_
      refine r_goto (pc := 92) (tgt := 25) C dX11_layer_92 rfl ?_
      refine r_sub C [1, 2, 3, 4, 5, 0] (ls' := [(0, .ref (gad 50 0)), (1, .int x1), (2, .int x2), (3, .int x3), (4, .int x4), (5, .int x5_23)]) rfl ?_
      exact hn (x5_23, M_22) (gSome hr)
noncomputable def X11_layer_L127 (x4 : Int32) (x5 : Int32) (x6 : Int32) (x7 : Int32) (M : gM) : Option ((Int32 × Int32) ⊕ Int32) := (if (M.1 50 0 16) ≤ x7 then some (.inr x6) else gG (gin x7 10) ((if (M.1 52 15 (Int32.toNatClampNeg x7)) = (-1) then gLet ((x6 + 0)) (fun x6_31 => gLet (x7 + 1) (fun x7_32 => some (.inl (x6_31, x7_32)))) else gG (gin x7 10) (gG (gin x5 10) ((if (M.1 52 15 (Int32.toNatClampNeg x7)) < (M.1 52 15 (Int32.toNatClampNeg x5)) then gLet ((x6 + 1)) (fun x6_36 => gLet (x7 + 1) (fun x7_37 => some (.inl (x6_36, x7_37)))) else gG (gin x7 10) (gG (gin x5 10) ((if (M.1 52 15 (Int32.toNatClampNeg x7)) = (M.1 52 15 (Int32.toNatClampNeg x5)) then (if x5 ≤ x7 then gLet ((x6 + 0)) (fun x6_44 => gLet (x7 + 1) (fun x7_45 => some (.inl (x6_44, x7_45)))) else gLet ((x6 + 1)) (fun x6_46 => gLet (x7 + 1) (fun x7_47 => some (.inl (x6_46, x7_47))))) else gLet ((x6 + 0)) (fun x6_41 => gLet (x7 + 1) (fun x7_42 => some (.inl (x6_41, x7_42)))))))))))))
theorem t_X11_layer_L127 {Ψ : gM → Nat → List (Nat × Value) → List Value → Prop} {G : gG5} {nf : Nat} {M : gM} {v0 : Option Value} {M0 : gM} {x4 : Int32} {x5 : Int32} {x6 : Int32} {x7 : Int32} {w : ((Int32 × Int32) ⊕ Int32)} (C : gC Ψ G (gXn nf) cX11_layer RX11 8 (some .int) 3 73 v0 M0) (hr : X11_layer_L127 x4 x5 x6 x7 M = some w) (hn : ∀ s, w = .inl s → Ψ M 127 [(0, .ref (gad 50 0)), (4, .int x4), (5, .int x5), (6, .int (s.1)), (7, .int (s.2))] []) (hx : ∀ e, w = .inr e → (fun e => Ψ M 204 [(0, .ref (gad 50 0)), (4, .int x4), (5, .int x5), (6, .int e)] []) e) : Ψ M 127 [(0, .ref (gad 50 0)), (4, .int x4), (5, .int x5), (6, .int x6), (7, .int x7)] [] := by
  refine r_iload (pc := 127) C dX11_layer_127 4 rfl ?_
  refine r_aload_n (pc := 129) C dX11_layer_129 rfl 0 rfl ?_
  refine g50_16 (pc := 130) C dX11_layer_130 q1416 (e50 nf) ?_
  refine r_icmp_ge (pc := 133) (tgt := 204) C dX11_layer_133 rfl (fun c_28 => ?_) (fun c_28 => ?_)
  · replace hr := (if_pos c_28).symm.trans hr
    refine r_sub C [0, 1, 2, 3] (ls' := [(0, .ref (gad 50 0)), (4, .int x4), (5, .int x5), (6, .int x6)]) rfl ?_
    exact hx x6 (gSome hr)
  · replace hr := (if_neg c_28).symm.trans hr
    refine r_iload (pc := 136) C dX11_layer_136 3 rfl ?_
    refine r_aload_n (pc := 138) C dX11_layer_138 rfl 0 rfl ?_
    refine g50_33 (pc := 139) C dX11_layer_139 q1433 (e50 nf) ?_
    refine r_iload (pc := 142) C dX11_layer_142 4 rfl ?_
    obtain ⟨g_29, hr⟩ := gG_some hr
    refine r_ialdN (pc := 144) C dX11_layer_144 rfl (e52 (nf := nf) (by decide)) g_29 rfl ?_
    refine r_iconst (pc := 145) C dX11_layer_145 kim1 ?_
    refine r_icmp_eq (pc := 146) (tgt := 194) C dX11_layer_146 rfl (fun c_30 => ?_) (fun c_30 => ?_)
    · replace hr := (if_pos c_30).symm.trans hr
      refine r_iconst (pc := 194) C dX11_layer_194 ki0 ?_
      refine r_iadd (pc := 195) C dX11_layer_195 ?_
      obtain ⟨x6_31, ex6_31, hr⟩ := gLet_some hr
      refine r_istore (pc := 196) C dX11_layer_196 (by decide) ex6_31 (ls' := [(6, .int x6_31), (0, .ref (gad 50 0)), (4, .int x4), (5, .int x5), (7, .int x7)]) rfl ?_
      obtain ⟨x7_32, ex7_32, hr⟩ := gLet_some hr
      refine r_iinc (pc := 198) C dX11_layer_198 4 rfl rfl (by decide) ex7_32 (ls' := [(7, .int x7_32), (6, .int x6_31), (0, .ref (gad 50 0)), (4, .int x4), (5, .int x5)]) rfl ?_
      refine r_goto (pc := 201) (tgt := 127) C dX11_layer_201 rfl ?_
      refine r_sub C [2, 3, 4, 1, 0] (ls' := [(0, .ref (gad 50 0)), (4, .int x4), (5, .int x5), (6, .int x6_31), (7, .int x7_32)]) rfl ?_
      exact hn (x6_31, x7_32) (gSome hr)
    · replace hr := (if_neg c_30).symm.trans hr
      refine r_aload_n (pc := 149) C dX11_layer_149 rfl 0 rfl ?_
      refine g50_33 (pc := 150) C dX11_layer_150 q1433 (e50 nf) ?_
      refine r_iload (pc := 153) C dX11_layer_153 4 rfl ?_
      obtain ⟨g_33, hr⟩ := gG_some hr
      refine r_ialdN (pc := 155) C dX11_layer_155 rfl (e52 (nf := nf) (by decide)) g_33 rfl ?_
      refine r_aload_n (pc := 156) C dX11_layer_156 rfl 0 rfl ?_
      refine g50_33 (pc := 157) C dX11_layer_157 q1433 (e50 nf) ?_
      refine r_iload (pc := 160) C dX11_layer_160 2 rfl ?_
      obtain ⟨g_34, hr⟩ := gG_some hr
      refine r_ialdN (pc := 162) C dX11_layer_162 rfl (e52 (nf := nf) (by decide)) g_34 rfl ?_
      refine r_icmp_lt (pc := 163) (tgt := 190) C dX11_layer_163 rfl (fun c_35 => ?_) (fun c_35 => ?_)
      · replace hr := (if_pos c_35).symm.trans hr
        refine r_iconst (pc := 190) C dX11_layer_190 ki1 ?_
        refine r_goto (pc := 191) (tgt := 195) C dX11_layer_191 rfl ?_
        refine r_iadd (pc := 195) C dX11_layer_195 ?_
        obtain ⟨x6_36, ex6_36, hr⟩ := gLet_some hr
        refine r_istore (pc := 196) C dX11_layer_196 (by decide) ex6_36 (ls' := [(6, .int x6_36), (0, .ref (gad 50 0)), (4, .int x4), (5, .int x5), (7, .int x7)]) rfl ?_
        obtain ⟨x7_37, ex7_37, hr⟩ := gLet_some hr
        refine r_iinc (pc := 198) C dX11_layer_198 4 rfl rfl (by decide) ex7_37 (ls' := [(7, .int x7_37), (6, .int x6_36), (0, .ref (gad 50 0)), (4, .int x4), (5, .int x5)]) rfl ?_
        refine r_goto (pc := 201) (tgt := 127) C dX11_layer_201 rfl ?_
        refine r_sub C [2, 3, 4, 1, 0] (ls' := [(0, .ref (gad 50 0)), (4, .int x4), (5, .int x5), (6, .int x6_36), (7, .int x7_37)]) rfl ?_
        exact hn (x6_36, x7_37) (gSome hr)
      · replace hr := (if_neg c_35).symm.trans hr
        refine r_aload_n (pc := 166) C dX11_layer_166 rfl 0 rfl ?_
        refine g50_33 (pc := 167) C dX11_layer_167 q1433 (e50 nf) ?_
        refine r_iload (pc := 170) C dX11_layer_170 4 rfl ?_
        obtain ⟨g_38, hr⟩ := gG_some hr
        refine r_ialdN (pc := 172) C dX11_layer_172 rfl (e52 (nf := nf) (by decide)) g_38 rfl ?_
        refine r_aload_n (pc := 173) C dX11_layer_173 rfl 0 rfl ?_
        refine g50_33 (pc := 174) C dX11_layer_174 q1433 (e50 nf) ?_
        refine r_iload (pc := 177) C dX11_layer_177 2 rfl ?_
        obtain ⟨g_39, hr⟩ := gG_some hr
        refine r_ialdN (pc := 179) C dX11_layer_179 rfl (e52 (nf := nf) (by decide)) g_39 rfl ?_
        refine r_icmp_ne (pc := 180) (tgt := 194) C dX11_layer_180 rfl (fun c_40 => ?_) (fun c_40 => ?_)
        · replace hr := (if_neg c_40).symm.trans hr
          refine r_iconst (pc := 194) C dX11_layer_194 ki0 ?_
          refine r_iadd (pc := 195) C dX11_layer_195 ?_
          obtain ⟨x6_41, ex6_41, hr⟩ := gLet_some hr
          refine r_istore (pc := 196) C dX11_layer_196 (by decide) ex6_41 (ls' := [(6, .int x6_41), (0, .ref (gad 50 0)), (4, .int x4), (5, .int x5), (7, .int x7)]) rfl ?_
          obtain ⟨x7_42, ex7_42, hr⟩ := gLet_some hr
          refine r_iinc (pc := 198) C dX11_layer_198 4 rfl rfl (by decide) ex7_42 (ls' := [(7, .int x7_42), (6, .int x6_41), (0, .ref (gad 50 0)), (4, .int x4), (5, .int x5)]) rfl ?_
          refine r_goto (pc := 201) (tgt := 127) C dX11_layer_201 rfl ?_
          refine r_sub C [2, 3, 4, 1, 0] (ls' := [(0, .ref (gad 50 0)), (4, .int x4), (5, .int x5), (6, .int x6_41), (7, .int x7_42)]) rfl ?_
          exact hn (x6_41, x7_42) (gSome hr)
        · replace hr := (if_pos c_40).symm.trans hr
          refine r_iload (pc := 183) C dX11_layer_183 4 rfl ?_
          refine r_iload (pc := 185) C dX11_layer_185 2 rfl ?_
          refine r_icmp_ge (pc := 187) (tgt := 194) C dX11_layer_187 rfl (fun c_43 => ?_) (fun c_43 => ?_)
          · replace hr := (if_pos c_43).symm.trans hr
            refine r_iconst (pc := 194) C dX11_layer_194 ki0 ?_
            refine r_iadd (pc := 195) C dX11_layer_195 ?_
            obtain ⟨x6_44, ex6_44, hr⟩ := gLet_some hr
            refine r_istore (pc := 196) C dX11_layer_196 (by decide) ex6_44 (ls' := [(6, .int x6_44), (0, .ref (gad 50 0)), (4, .int x4), (5, .int x5), (7, .int x7)]) rfl ?_
            obtain ⟨x7_45, ex7_45, hr⟩ := gLet_some hr
            refine r_iinc (pc := 198) C dX11_layer_198 4 rfl rfl (by decide) ex7_45 (ls' := [(7, .int x7_45), (6, .int x6_44), (0, .ref (gad 50 0)), (4, .int x4), (5, .int x5)]) rfl ?_
            refine r_goto (pc := 201) (tgt := 127) C dX11_layer_201 rfl ?_
            refine r_sub C [2, 3, 4, 1, 0] (ls' := [(0, .ref (gad 50 0)), (4, .int x4), (5, .int x5), (6, .int x6_44), (7, .int x7_45)]) rfl ?_
            exact hn (x6_44, x7_45) (gSome hr)
          · replace hr := (if_neg c_43).symm.trans hr
            refine r_iconst (pc := 190) C dX11_layer_190 ki1 ?_
            refine r_goto (pc := 191) (tgt := 195) C dX11_layer_191 rfl ?_
            refine r_iadd (pc := 195) C dX11_layer_195 ?_
            obtain ⟨x6_46, ex6_46, hr⟩ := gLet_some hr
            refine r_istore (pc := 196) C dX11_layer_196 (by decide) ex6_46 (ls' := [(6, .int x6_46), (0, .ref (gad 50 0)), (4, .int x4), (5, .int x5), (7, .int x7)]) rfl ?_
            obtain ⟨x7_47, ex7_47, hr⟩ := gLet_some hr
            refine r_iinc (pc := 198) C dX11_layer_198 4 rfl rfl (by decide) ex7_47 (ls' := [(7, .int x7_47), (6, .int x6_46), (0, .ref (gad 50 0)), (4, .int x4), (5, .int x5)]) rfl ?_
            refine r_goto (pc := 201) (tgt := 127) C dX11_layer_201 rfl ?_
            refine r_sub C [2, 3, 4, 1, 0] (ls' := [(0, .ref (gad 50 0)), (4, .int x4), (5, .int x5), (6, .int x6_46), (7, .int x7_47)]) rfl ?_
            exact hn (x6_46, x7_47) (gSome hr)
noncomputable def X11_layer_L98 (x4 : Int32) (x5 : Int32) (M : gM) : Option (Int32 ⊕ (Int32 ⊕ Unit)) := (if (M.1 50 0 16) ≤ x5 then some (.inr (.inr ())) else gG (gin x5 10) ((if (M.1 52 15 (Int32.toNatClampNeg x5)) = (-1) then gLet (x5 + 1) (fun x5_51 => some (.inl x5_51)) else (gIter (fun s => X11_layer_L127 x4 x5 s.1 s.2 M) FU (0, 0)).bind (fun x6_48 => (if x6_48 = x4 then some (.inr (.inl x5)) else gLet (x5 + 1) (fun x5_50 => some (.inl x5_50)))))))
theorem t_X11_layer_L98 {Ψ : gM → Nat → List (Nat × Value) → List Value → Prop} {G : gG5} {nf : Nat} {M : gM} {v0 : Option Value} {M0 : gM} {x4 : Int32} {x5 : Int32} {w : (Int32 ⊕ (Int32 ⊕ Unit))} (C : gC Ψ G (gXn nf) cX11_layer RX11 8 (some .int) 3 73 v0 M0) (hr : X11_layer_L98 x4 x5 M = some w) (hn : ∀ s, w = .inl s → Ψ M 98 [(0, .ref (gad 50 0)), (4, .int x4), (5, .int s)] []) (hx : ∀ e, w = .inr e → (gSP (fun e => Ψ M 211 [(5, .int e)] []) (fun e => Ψ M 220 [] [])) e) : Ψ M 98 [(0, .ref (gad 50 0)), (4, .int x4), (5, .int x5)] [] := by
  refine r_iload (pc := 98) C dX11_layer_98 2 rfl ?_
  refine r_aload_n (pc := 100) C dX11_layer_100 rfl 0 rfl ?_
  refine g50_16 (pc := 101) C dX11_layer_101 q1416 (e50 nf) ?_
  refine r_icmp_ge (pc := 104) (tgt := 220) C dX11_layer_104 rfl (fun c_25 => ?_) (fun c_25 => ?_)
  · replace hr := (if_pos c_25).symm.trans hr
    refine r_sub C [] (ls' := []) rfl ?_
    exact hx (.inr ()) (gSome hr)
  · replace hr := (if_neg c_25).symm.trans hr
    refine r_aload_n (pc := 107) C dX11_layer_107 rfl 0 rfl ?_
    refine g50_33 (pc := 108) C dX11_layer_108 q1433 (e50 nf) ?_
    refine r_iload (pc := 111) C dX11_layer_111 2 rfl ?_
    obtain ⟨g_26, hr⟩ := gG_some hr
    refine r_ialdN (pc := 113) C dX11_layer_113 rfl (e52 (nf := nf) (by decide)) g_26 rfl ?_
    refine r_iconst (pc := 114) C dX11_layer_114 kim1 ?_
    refine r_icmp_ne (pc := 115) (tgt := 121) C dX11_layer_115 rfl (fun c_27 => ?_) (fun c_27 => ?_)
    · replace hr := (if_neg c_27).symm.trans hr
      refine r_iconst (pc := 121) C dX11_layer_121 ki0 ?_
      refine r_istore (pc := 122) C dX11_layer_122 (by decide) rfl (ls' := [(6, .int 0), (0, .ref (gad 50 0)), (4, .int x4), (5, .int x5)]) rfl ?_
      refine r_iconst (pc := 124) C dX11_layer_124 ki0 ?_
      refine r_istore (pc := 125) C dX11_layer_125 (by decide) rfl (ls' := [(7, .int 0), (6, .int 0), (0, .ref (gad 50 0)), (4, .int x4), (5, .int x5)]) rfl ?_
      refine r_sub C [2, 3, 4, 1, 0] (ls' := [(0, .ref (gad 50 0)), (4, .int x4), (5, .int x5), (6, .int 0), (7, .int 0)]) rfl ?_
      obtain ⟨ev, hit, hr⟩ := gBind_some hr
      refine gIter_V (step := fun s => X11_layer_L127 x4 x5 s.1 s.2 M) (P := fun s => Ψ M 127 [(0, .ref (gad 50 0)), (4, .int x4), (5, .int x5), (6, .int (s.1)), (7, .int (s.2))] []) (K := (fun e => Ψ M 204 [(0, .ref (gad 50 0)), (4, .int x4), (5, .int x5), (6, .int e)] [])) (fun s w hs hn hx => t_X11_layer_L127 C  hs hn hx) FU (0, 0) ev hit ?_
      obtain ⟨x6_48, rfl⟩ : ∃ z, z = ev := ⟨_, rfl⟩
      show Ψ M 204 [(0, .ref (gad 50 0)), (4, .int x4), (5, .int x5), (6, .int x6_48)] []
      refine r_iload (pc := 204) C dX11_layer_204 3 rfl ?_
      refine r_iload (pc := 206) C dX11_layer_206 1 rfl ?_
      refine r_icmp_ne (pc := 208) (tgt := 214) C dX11_layer_208 rfl (fun c_49 => ?_) (fun c_49 => ?_)
      · replace hr := (if_neg c_49).symm.trans hr
        obtain ⟨x5_50, ex5_50, hr⟩ := gLet_some hr
        refine r_iinc (pc := 214) C dX11_layer_214 2 rfl rfl (by decide) ex5_50 (ls' := [(5, .int x5_50), (0, .ref (gad 50 0)), (4, .int x4), (6, .int x6_48)]) rfl ?_
        refine r_goto (pc := 217) (tgt := 98) C dX11_layer_217 rfl ?_
        refine r_sub C [1, 2, 0] (ls' := [(0, .ref (gad 50 0)), (4, .int x4), (5, .int x5_50)]) rfl ?_
        exact hn x5_50 (gSome hr)
      · replace hr := (if_pos c_49).symm.trans hr
        refine r_sub C [2] (ls' := [(5, .int x5)]) rfl ?_
        exact hx (.inl x5) (gSome hr)
    · replace hr := (if_pos c_27).symm.trans hr
      refine r_goto (pc := 118) (tgt := 214) C dX11_layer_118 rfl ?_
      obtain ⟨x5_51, ex5_51, hr⟩ := gLet_some hr
      refine r_iinc (pc := 214) C dX11_layer_214 2 rfl rfl (by decide) ex5_51 (ls' := [(5, .int x5_51), (0, .ref (gad 50 0)), (4, .int x4)]) rfl ?_
      refine r_goto (pc := 217) (tgt := 98) C dX11_layer_217 rfl ?_
      refine r_sub C [1, 2, 0] (ls' := [(0, .ref (gad 50 0)), (4, .int x4), (5, .int x5_51)]) rfl ?_
      exact hn x5_51 (gSome hr)
noncomputable def X11_layer (p1 : Int32) (p2 : Int32) (p3 : Int32) (p4 : Int32) (M : gM) : Option (Int32 × gM) := gLet (wI M 50 0 0 0) (fun M_1 => (X11_isSample p1 p2 p3 M_1).bind (fun r_3 => (if r_3 = 0 then some ((-1), M_1) else (if 0 ≤ p4 then (gIter (fun s => X11_layer_L25 p1 p2 p3 p4 s.1 s.2) FU (0, M_1)).bind (fun M_24 => (gIter (fun s => X11_layer_L98 p4 s M_24) FU 0).bind (gS2 (fun x5_52 => some (x5_52, M_24)) (fun _ => some ((-1), M_24)))) else some ((-1), M_1)))))
theorem k_X11_layer {G : gG5} {nf : Nat} {M : gM} {p1 : Int32} {p2 : Int32} {p3 : Int32} {p4 : Int32} {r : Int32} {M1 : gM} (hr : X11_layer p1 p2 p3 p4 M = some (r, M1)) : gMet G (gXn nf) yX11_layer cX11_layer 8 (some .int) 3 73 M [.ref (gad 50 0), .int p1, .int p2, .int p3, .int p4] (some (.int r)) M1 := by
  refine gMet_of pl_X11 rfl (Nat.le_of_ble_eq_true rfl) (fun Ψ C CR => ?_)
  show Ψ M 0 [(0, .ref (gad 50 0)), (1, .int p1), (2, .int p2), (3, .int p3), (4, .int p4)] []
  refine r_aload_n (pc := 0) C dX11_layer_0 rfl 0 rfl ?_
  refine r_iconst (pc := 1) C dX11_layer_1 ki0 ?_
  obtain ⟨M_1, eM_1, hr⟩ := gLet_some hr
  refine p50_0 (pc := 2) C dX11_layer_2 q1400 (e50 nf) eM_1 ?_
  refine r_aload_n (pc := 5) C dX11_layer_5 rfl 0 rfl ?_
  refine r_iload_n (pc := 6) C dX11_layer_6 rfl 1 rfl ?_
  refine r_iload_n (pc := 7) C dX11_layer_7 rfl 2 rfl ?_
  refine r_iload_n (pc := 8) C dX11_layer_8 rfl 3 rfl ?_
  obtain ⟨r_3, hc_2, hr⟩ := gBind_some hr
  refine c_X11_isSample (pc := 9) C dX11_layer_9 q1935 ⟨Nat.le_of_ble_eq_true rfl, Nat.le_of_ble_eq_true rfl⟩ hc_2 (Nat.le_of_ble_eq_true rfl) ?_
  refine r_if_eq (pc := 12) (tgt := 20) C dX11_layer_12 rfl (fun c_4 => ?_) (fun c_4 => ?_)
  · replace hr := (if_pos c_4).symm.trans hr
    refine r_iconst (pc := 20) C dX11_layer_20 kim1 ?_
    exact r_iret (pc := 21) CR dX11_layer_21 (congrArg (fun z => some (Value.int z)) (Prod.mk.inj (gSome hr)).1) (Prod.mk.inj (gSome hr)).2
  · replace hr := (if_neg c_4).symm.trans hr
    refine r_iload (pc := 15) C dX11_layer_15 4 rfl ?_
    refine r_if_ge (pc := 17) (tgt := 22) C dX11_layer_17 rfl (fun c_5 => ?_) (fun c_5 => ?_)
    · replace hr := (if_pos c_5).symm.trans hr
      refine r_iconst (pc := 22) C dX11_layer_22 ki0 ?_
      refine r_istore (pc := 23) C dX11_layer_23 (by decide) rfl (ls' := [(5, .int 0), (0, .ref (gad 50 0)), (1, .int p1), (2, .int p2), (3, .int p3), (4, .int p4)]) rfl ?_
      refine r_sub C [1, 2, 3, 4, 5, 0] (ls' := [(0, .ref (gad 50 0)), (1, .int p1), (2, .int p2), (3, .int p3), (4, .int p4), (5, .int 0)]) rfl ?_
      obtain ⟨ev, hit, hr⟩ := gBind_some hr
      refine gIter_V (step := fun s => X11_layer_L25 p1 p2 p3 p4 s.1 s.2) (P := fun s => Ψ s.2 25 [(0, .ref (gad 50 0)), (1, .int p1), (2, .int p2), (3, .int p3), (4, .int p4), (5, .int (s.1))] []) (K := (fun e => Ψ e 95 [(0, .ref (gad 50 0)), (4, .int p4)] [])) (fun s w hs hn hx => t_X11_layer_L25 C  hs hn hx) FU (0, M_1) ev hit ?_
      obtain ⟨M_24, rfl⟩ : ∃ z, z = ev := ⟨_, rfl⟩
      show Ψ M_24 95 [(0, .ref (gad 50 0)), (4, .int p4)] []
      refine r_iconst (pc := 95) C dX11_layer_95 ki0 ?_
      refine r_istore (pc := 96) C dX11_layer_96 (by decide) rfl (ls' := [(5, .int 0), (0, .ref (gad 50 0)), (4, .int p4)]) rfl ?_
      refine r_sub C [1, 2, 0] (ls' := [(0, .ref (gad 50 0)), (4, .int p4), (5, .int 0)]) rfl ?_
      obtain ⟨ev, hit, hr⟩ := gBind_some hr
      refine gIter_V (step := fun s => X11_layer_L98 p4 s M_24) (P := fun s => Ψ M_24 98 [(0, .ref (gad 50 0)), (4, .int p4), (5, .int s)] []) (K := (gSP (fun e => Ψ M_24 211 [(5, .int e)] []) (fun e => Ψ M_24 220 [] []))) (fun s w hs hn hx => t_X11_layer_L98 C  hs hn hx) FU 0 ev hit ?_
      rcases ev with x5_52 | _
      · replace hr := gS2_l hr
        show Ψ M_24 211 [(5, .int x5_52)] []
        refine r_iload (pc := 211) C dX11_layer_211 0 rfl ?_
        exact r_iret (pc := 213) CR dX11_layer_213 (congrArg (fun z => some (Value.int z)) (Prod.mk.inj (gSome hr)).1) (Prod.mk.inj (gSome hr)).2
      · replace hr := gS2_r hr
        show Ψ M_24 220 [] []
        refine r_iconst (pc := 220) C dX11_layer_220 kim1 ?_
        exact r_iret (pc := 221) CR dX11_layer_221 (congrArg (fun z => some (Value.int z)) (Prod.mk.inj (gSome hr)).1) (Prod.mk.inj (gSome hr)).2
    · replace hr := (if_neg c_5).symm.trans hr
      refine r_iconst (pc := 20) C dX11_layer_20 kim1 ?_
      exact r_iret (pc := 21) CR dX11_layer_21 (congrArg (fun z => some (Value.int z)) (Prod.mk.inj (gSome hr)).1) (Prod.mk.inj (gSome hr)).2
theorem c_X11_layer {Ψ : gM → Nat → List (Nat × Value) → List Value → Prop} {G : gG5} {nf : Nat} {cc : ByteArray} {own : String} {nL : Nat} {ret : Option FieldType} {fr lo : Nat} {v0 : Option Value} {M0 M : gM} {pc index : Nat} {ls : List (Nat × Value)} {st : List Value} (C : gC Ψ G (gXn nf) cc own nL ret fr lo v0 M0) (d : decode cc pc = .ok (.invokevirtual index, 3)) (hl : Cond.methodLink own index yX11_layer ∈ gws) (hR : 4 ≤ fr ∧ 100 ≤ lo) {p1 : Int32} {p2 : Int32} {p3 : Int32} {p4 : Int32} {r : Int32} {M1 : gM} (hr : X11_layer p1 p2 p3 p4 M = some (r, M1)) (hcat : (st.map fun v => v.category).sum ≤ 8) (k : Ψ M1 (pc + 3) ls (.int r :: st)) : Ψ M pc ls (.int p4 :: .int p3 :: .int p2 :: .int p1 :: .ref (gad 50 0) :: st) := r_callV C [.int p1, .int p2, .int p3, .int p4] st d (k_X11_layer hr) hl q1989 q1990 q127 q1991 hd_X11_layer hR rfl (by decide) (e50 nf) rfl hcat k
theorem hd_X11_shown : yX11_shown.cls ≠ "java/lang/invoke/MethodHandle" ∧ yX11_shown.cls ≠ "java/lang/invoke/VarHandle" ∧ (parseMethodDescriptor yX11_shown.desc).map (fun d => d.parameters.length) = some 2 := by decide +kernel
noncomputable def X11_shown (p1 : Int32) (p2 : Int32) (M : gM) : Option (Int32 × gM) := gLet (wI M 50 0 0 0) (fun M_1 => (X11_isPixel p1 p2 M_1).bind (fun r_3 => (if r_3 = 0 then some ((-1), M_1) else (X11_copyRow 8 0 9 0 M_1).bind (fun M_6 => (X11_flushesAll 9 M_6).bind (fun M_8 => (X11_resolved 9 p1 p2 M_8).bind (fun r_10 => some (r_10, M_8)))))))
theorem k_X11_shown {G : gG5} {nf : Nat} {M : gM} {p1 : Int32} {p2 : Int32} {r : Int32} {M1 : gM} (hr : X11_shown p1 p2 M = some (r, M1)) : gMet G (gXn nf) yX11_shown cX11_shown 3 (some .int) 8 205 M [.ref (gad 50 0), .int p1, .int p2] (some (.int r)) M1 := by
  refine gMet_of pl_X11 rfl (Nat.le_of_ble_eq_true rfl) (fun Ψ C CR => ?_)
  show Ψ M 0 [(0, .ref (gad 50 0)), (1, .int p1), (2, .int p2)] []
  refine r_aload_n (pc := 0) C dX11_shown_0 rfl 0 rfl ?_
  refine r_iconst (pc := 1) C dX11_shown_1 ki0 ?_
  obtain ⟨M_1, eM_1, hr⟩ := gLet_some hr
  refine p50_0 (pc := 2) C dX11_shown_2 q1400 (e50 nf) eM_1 ?_
  refine r_aload_n (pc := 5) C dX11_shown_5 rfl 0 rfl ?_
  refine r_iload_n (pc := 6) C dX11_shown_6 rfl 1 rfl ?_
  refine r_iload_n (pc := 7) C dX11_shown_7 rfl 2 rfl ?_
  obtain ⟨r_3, hc_2, hr⟩ := gBind_some hr
  refine c_X11_isPixel (pc := 8) C dX11_shown_8 q1927 ⟨Nat.le_of_ble_eq_true rfl, Nat.le_of_ble_eq_true rfl⟩ hc_2 (Nat.le_of_ble_eq_true rfl) ?_
  refine r_if_ne (pc := 11) (tgt := 16) C dX11_shown_11 rfl (fun c_4 => ?_) (fun c_4 => ?_)
  · replace hr := (if_neg c_4).symm.trans hr
    refine r_aload_n (pc := 16) C dX11_shown_16 rfl 0 rfl ?_
    refine g50_18 (pc := 17) C dX11_shown_17 q1418 (e50 nf) ?_
    refine r_iconst (pc := 20) C dX11_shown_20 ki0 ?_
    refine r_aload_n (pc := 21) C dX11_shown_21 rfl 0 rfl ?_
    refine g50_19 (pc := 22) C dX11_shown_22 q1419 (e50 nf) ?_
    refine r_iconst (pc := 25) C dX11_shown_25 ki0 ?_
    obtain ⟨M_6, hc_5, hr⟩ := gBind_some hr
    refine c_X11_copyRow (pc := 26) C dX11_shown_26 q1702 ⟨Nat.le_of_ble_eq_true rfl, Nat.le_of_ble_eq_true rfl⟩ (by decide) (by decide) hc_5 (Nat.le_of_ble_eq_true rfl) ?_
    refine r_aload_n (pc := 29) C dX11_shown_29 rfl 0 rfl ?_
    refine r_aload_n (pc := 30) C dX11_shown_30 rfl 0 rfl ?_
    refine g50_19 (pc := 31) C dX11_shown_31 q1419 (e50 nf) ?_
    obtain ⟨M_8, hc_7, hr⟩ := gBind_some hr
    refine c_X11_flushesAll (pc := 34) C dX11_shown_34 q1803 ⟨Nat.le_of_ble_eq_true rfl, Nat.le_of_ble_eq_true rfl⟩ (by decide) hc_7 (Nat.le_of_ble_eq_true rfl) ?_
    refine r_aload_n (pc := 37) C dX11_shown_37 rfl 0 rfl ?_
    refine r_aload_n (pc := 38) C dX11_shown_38 rfl 0 rfl ?_
    refine g50_19 (pc := 39) C dX11_shown_39 q1419 (e50 nf) ?_
    refine r_iload_n (pc := 42) C dX11_shown_42 rfl 1 rfl ?_
    refine r_iload_n (pc := 43) C dX11_shown_43 rfl 2 rfl ?_
    obtain ⟨r_10, hc_9, hr⟩ := gBind_some hr
    refine c_X11_resolved (pc := 44) C dX11_shown_44 q1951 ⟨Nat.le_of_ble_eq_true rfl, Nat.le_of_ble_eq_true rfl⟩ (by decide) hc_9 (Nat.le_of_ble_eq_true rfl) ?_
    exact r_iret (pc := 47) CR dX11_shown_47 (congrArg (fun z => some (Value.int z)) (Prod.mk.inj (gSome hr)).1) (Prod.mk.inj (gSome hr)).2
  · replace hr := (if_pos c_4).symm.trans hr
    refine r_iconst (pc := 14) C dX11_shown_14 kim1 ?_
    exact r_iret (pc := 15) CR dX11_shown_15 (congrArg (fun z => some (Value.int z)) (Prod.mk.inj (gSome hr)).1) (Prod.mk.inj (gSome hr)).2
theorem c_X11_shown {Ψ : gM → Nat → List (Nat × Value) → List Value → Prop} {G : gG5} {nf : Nat} {cc : ByteArray} {own : String} {nL : Nat} {ret : Option FieldType} {fr lo : Nat} {v0 : Option Value} {M0 M : gM} {pc index : Nat} {ls : List (Nat × Value)} {st : List Value} (C : gC Ψ G (gXn nf) cc own nL ret fr lo v0 M0) (d : decode cc pc = .ok (.invokevirtual index, 3)) (hl : Cond.methodLink own index yX11_shown ∈ gws) (hR : 9 ≤ fr ∧ 227 ≤ lo) {p1 : Int32} {p2 : Int32} {r : Int32} {M1 : gM} (hr : X11_shown p1 p2 M = some (r, M1)) (hcat : (st.map fun v => v.category).sum ≤ 8) (k : Ψ M1 (pc + 3) ls (.int r :: st)) : Ψ M pc ls (.int p2 :: .int p1 :: .ref (gad 50 0) :: st) := r_callV C [.int p1, .int p2] st d (k_X11_shown hr) hl q1993 q1994 q127 q1995 hd_X11_shown hR rfl (by decide) (e50 nf) rfl hcat k
theorem hd_X11_frames : yX11_frames.cls ≠ "java/lang/invoke/MethodHandle" ∧ yX11_frames.cls ≠ "java/lang/invoke/VarHandle" ∧ (parseMethodDescriptor yX11_frames.desc).map (fun d => d.parameters.length) = some 2 := by decide +kernel
noncomputable def X11_frames_L32 (x1 : Int32) (x3 : Int32) (M : gM) : Option ((Int32 × gM) ⊕ gM) := (if (M.1 50 0 16) ≤ x3 then some (.inr M) else (if x3 = x1 then gLet (x3 + 1) (fun x3_8 => some (.inl (x3_8, M))) else (X11_draws 9 x3 M).bind (gU2 (fun r_10 M_11 => gLet (x3 + 1) (fun x3_12 => some (.inl (x3_12, M_11)))))))
theorem t_X11_frames_L32 {Ψ : gM → Nat → List (Nat × Value) → List Value → Prop} {G : gG5} {nf : Nat} {M : gM} {v0 : Option Value} {M0 : gM} {x1 : Int32} {x3 : Int32} {w : ((Int32 × gM) ⊕ gM)} (C : gC Ψ G (gXn nf) cX11_frames RX11 4 none 8 209 v0 M0) (hr : X11_frames_L32 x1 x3 M = some w) (hn : ∀ s, w = .inl s → Ψ s.2 32 [(0, .ref (gad 50 0)), (1, .int x1), (3, .int (s.1))] []) (hx : ∀ e, w = .inr e → (fun e => Ψ e 61 [(0, .ref (gad 50 0))] []) e) : Ψ M 32 [(0, .ref (gad 50 0)), (1, .int x1), (3, .int x3)] [] := by
  refine r_iload_n (pc := 32) C dX11_frames_32 rfl 2 rfl ?_
  refine r_aload_n (pc := 33) C dX11_frames_33 rfl 0 rfl ?_
  refine g50_16 (pc := 34) C dX11_frames_34 q1416 (e50 nf) ?_
  refine r_icmp_ge (pc := 37) (tgt := 61) C dX11_frames_37 rfl (fun c_6 => ?_) (fun c_6 => ?_)
  · replace hr := (if_pos c_6).symm.trans hr
    refine r_sub C [0] (ls' := [(0, .ref (gad 50 0))]) rfl ?_
    exact hx M (gSome hr)
  · replace hr := (if_neg c_6).symm.trans hr
    refine r_iload_n (pc := 40) C dX11_frames_40 rfl 2 rfl ?_
    refine r_iload_n (pc := 41) C dX11_frames_41 rfl 1 rfl ?_
    refine r_icmp_eq (pc := 42) (tgt := 55) C dX11_frames_42 rfl (fun c_7 => ?_) (fun c_7 => ?_)
    · replace hr := (if_pos c_7).symm.trans hr
      obtain ⟨x3_8, ex3_8, hr⟩ := gLet_some hr
      refine r_iinc (pc := 55) C dX11_frames_55 2 rfl rfl (by decide) ex3_8 (ls' := [(3, .int x3_8), (0, .ref (gad 50 0)), (1, .int x1)]) rfl ?_
      refine r_goto (pc := 58) (tgt := 32) C dX11_frames_58 rfl ?_
      refine r_sub C [1, 2, 0] (ls' := [(0, .ref (gad 50 0)), (1, .int x1), (3, .int x3_8)]) rfl ?_
      exact hn (x3_8, M) (gSome hr)
    · replace hr := (if_neg c_7).symm.trans hr
      refine r_aload_n (pc := 45) C dX11_frames_45 rfl 0 rfl ?_
      refine r_aload_n (pc := 46) C dX11_frames_46 rfl 0 rfl ?_
      refine g50_19 (pc := 47) C dX11_frames_47 q1419 (e50 nf) ?_
      refine r_iload_n (pc := 50) C dX11_frames_50 rfl 2 rfl ?_
      obtain ⟨⟨r_10, M_11⟩, hc_9, hr⟩ := gBind_some hr
      replace hr := gU2_some hr
      refine c_X11_draws (pc := 51) C dX11_frames_51 q1705 ⟨Nat.le_of_ble_eq_true rfl, Nat.le_of_ble_eq_true rfl⟩ (by decide) hc_9 (Nat.le_of_ble_eq_true rfl) ?_
      refine r_pop (pc := 54) C dX11_frames_54 rfl ?_
      obtain ⟨x3_12, ex3_12, hr⟩ := gLet_some hr
      refine r_iinc (pc := 55) C dX11_frames_55 2 rfl rfl (by decide) ex3_12 (ls' := [(3, .int x3_12), (0, .ref (gad 50 0)), (1, .int x1)]) rfl ?_
      refine r_goto (pc := 58) (tgt := 32) C dX11_frames_58 rfl ?_
      refine r_sub C [1, 2, 0] (ls' := [(0, .ref (gad 50 0)), (1, .int x1), (3, .int x3_12)]) rfl ?_
      exact hn (x3_12, M_11) (gSome hr)
noncomputable def X11_frames (p1 : Int32) (p2 : Int32) (M : gM) : Option gM := (X11_copyRow 8 0 9 0 M).bind (fun M_2 => (X11_clears 9 M_2).bind (fun M_4 => gLet (wI M_4 52 9 1059 p2) (fun M_5 => (gIter (fun s => X11_frames_L32 p1 s.1 s.2) FU (0, M_5)).bind (fun M_13 => (X11_flushesAll 9 M_13).bind (fun M_15 => some M_15)))))
theorem k_X11_frames {G : gG5} {nf : Nat} {M : gM} {p1 : Int32} {p2 : Int32} {M1 : gM} (hr : X11_frames p1 p2 M = some M1) : gMet G (gXn nf) yX11_frames cX11_frames 4 none 8 209 M [.ref (gad 50 0), .int p1, .int p2] none M1 := by
  refine gMet_of pl_X11 rfl (Nat.le_of_ble_eq_true rfl) (fun Ψ C CR => ?_)
  show Ψ M 0 [(0, .ref (gad 50 0)), (1, .int p1), (2, .int p2)] []
  refine r_aload_n (pc := 0) C dX11_frames_0 rfl 0 rfl ?_
  refine g50_18 (pc := 1) C dX11_frames_1 q1418 (e50 nf) ?_
  refine r_iconst (pc := 4) C dX11_frames_4 ki0 ?_
  refine r_aload_n (pc := 5) C dX11_frames_5 rfl 0 rfl ?_
  refine g50_19 (pc := 6) C dX11_frames_6 q1419 (e50 nf) ?_
  refine r_iconst (pc := 9) C dX11_frames_9 ki0 ?_
  obtain ⟨M_2, hc_1, hr⟩ := gBind_some hr
  refine c_X11_copyRow (pc := 10) C dX11_frames_10 q1702 ⟨Nat.le_of_ble_eq_true rfl, Nat.le_of_ble_eq_true rfl⟩ (by decide) (by decide) hc_1 (Nat.le_of_ble_eq_true rfl) ?_
  refine r_aload_n (pc := 13) C dX11_frames_13 rfl 0 rfl ?_
  refine r_aload_n (pc := 14) C dX11_frames_14 rfl 0 rfl ?_
  refine g50_19 (pc := 15) C dX11_frames_15 q1419 (e50 nf) ?_
  obtain ⟨M_4, hc_3, hr⟩ := gBind_some hr
  refine c_X11_clears (pc := 18) C dX11_frames_18 q1632 ⟨Nat.le_of_ble_eq_true rfl, Nat.le_of_ble_eq_true rfl⟩ (by decide) hc_3 (Nat.le_of_ble_eq_true rfl) ?_
  refine r_aload_n (pc := 21) C dX11_frames_21 rfl 0 rfl ?_
  refine g50_19 (pc := 22) C dX11_frames_22 q1419 (e50 nf) ?_
  refine r_sipush (pc := 25) C dX11_frames_25 ks1059 ?_
  refine r_iload_n (pc := 28) C dX11_frames_28 rfl 2 rfl ?_
  obtain ⟨M_5, eM_5, hr⟩ := gLet_some hr
  refine r_iastN (pc := 29) C dX11_frames_29 rfl (e52 (nf := nf) (by decide)) (by decide : gin 1059 1242 = true) kc1059 eM_5 ?_
  refine r_iconst (pc := 30) C dX11_frames_30 ki0 ?_
  refine r_istore_n (pc := 31) C dX11_frames_31 rfl (by decide) rfl (ls' := [(3, .int 0), (0, .ref (gad 50 0)), (1, .int p1), (2, .int p2)]) rfl ?_
  refine r_sub C [1, 2, 0] (ls' := [(0, .ref (gad 50 0)), (1, .int p1), (3, .int 0)]) rfl ?_
  obtain ⟨ev, hit, hr⟩ := gBind_some hr
  refine gIter_V (step := fun s => X11_frames_L32 p1 s.1 s.2) (P := fun s => Ψ s.2 32 [(0, .ref (gad 50 0)), (1, .int p1), (3, .int (s.1))] []) (K := (fun e => Ψ e 61 [(0, .ref (gad 50 0))] [])) (fun s w hs hn hx => t_X11_frames_L32 C  hs hn hx) FU (0, M_5) ev hit ?_
  obtain ⟨M_13, rfl⟩ : ∃ z, z = ev := ⟨_, rfl⟩
  show Ψ M_13 61 [(0, .ref (gad 50 0))] []
  refine r_aload_n (pc := 61) C dX11_frames_61 rfl 0 rfl ?_
  refine r_aload_n (pc := 62) C dX11_frames_62 rfl 0 rfl ?_
  refine g50_19 (pc := 63) C dX11_frames_63 q1419 (e50 nf) ?_
  obtain ⟨M_15, hc_14, hr⟩ := gBind_some hr
  refine c_X11_flushesAll (pc := 66) C dX11_frames_66 q1803 ⟨Nat.le_of_ble_eq_true rfl, Nat.le_of_ble_eq_true rfl⟩ (by decide) hc_14 (Nat.le_of_ble_eq_true rfl) ?_
  exact r_vret (pc := 69) CR dX11_frames_69 rfl (gSome hr)
theorem c_X11_frames {Ψ : gM → Nat → List (Nat × Value) → List Value → Prop} {G : gG5} {nf : Nat} {cc : ByteArray} {own : String} {nL : Nat} {ret : Option FieldType} {fr lo : Nat} {v0 : Option Value} {M0 M : gM} {pc index : Nat} {ls : List (Nat × Value)} {st : List Value} (C : gC Ψ G (gXn nf) cc own nL ret fr lo v0 M0) (d : decode cc pc = .ok (.invokevirtual index, 3)) (hl : Cond.methodLink own index yX11_frames ∈ gws) (hR : 9 ≤ fr ∧ 232 ≤ lo) {p1 : Int32} {p2 : Int32} {M1 : gM} (hr : X11_frames p1 p2 M = some M1) (hcat : (st.map fun v => v.category).sum ≤ 8) (k : Ψ M1 (pc + 3) ls (st)) : Ψ M pc ls (.int p2 :: .int p1 :: .ref (gad 50 0) :: st) := r_callV C [.int p1, .int p2] st d (k_X11_frames hr) hl q2002 q105 q127 q2003 hd_X11_frames hR rfl (by decide) (e50 nf) rfl hcat k
theorem hd_X11_whole : yX11_whole.cls ≠ "java/lang/invoke/MethodHandle" ∧ yX11_whole.cls ≠ "java/lang/invoke/VarHandle" ∧ (parseMethodDescriptor yX11_whole.desc).map (fun d => d.parameters.length) = some 2 := by decide +kernel
noncomputable def X11_whole (p1 : Int32) (p2 : Int32) (M : gM) : Option (Int32 × gM) := gLet (wI M 50 0 0 0) (fun M_1 => (X11_isPixel p1 p2 M_1).bind (fun r_3 => (if r_3 = 0 then some ((-1), M_1) else (X11_frames (-1) (M_1.1 52 8 1059) M_1).bind (fun M_6 => (X11_resolved 9 p1 p2 M_6).bind (fun r_8 => some (r_8, M_6))))))
theorem k_X11_whole {G : gG5} {nf : Nat} {M : gM} {p1 : Int32} {p2 : Int32} {r : Int32} {M1 : gM} (hr : X11_whole p1 p2 M = some (r, M1)) : gMet G (gXn nf) yX11_whole cX11_whole 3 (some .int) 9 232 M [.ref (gad 50 0), .int p1, .int p2] (some (.int r)) M1 := by
  refine gMet_of pl_X11 rfl (Nat.le_of_ble_eq_true rfl) (fun Ψ C CR => ?_)
  show Ψ M 0 [(0, .ref (gad 50 0)), (1, .int p1), (2, .int p2)] []
  refine r_aload_n (pc := 0) C dX11_whole_0 rfl 0 rfl ?_
  refine r_iconst (pc := 1) C dX11_whole_1 ki0 ?_
  obtain ⟨M_1, eM_1, hr⟩ := gLet_some hr
  refine p50_0 (pc := 2) C dX11_whole_2 q1400 (e50 nf) eM_1 ?_
  refine r_aload_n (pc := 5) C dX11_whole_5 rfl 0 rfl ?_
  refine r_iload_n (pc := 6) C dX11_whole_6 rfl 1 rfl ?_
  refine r_iload_n (pc := 7) C dX11_whole_7 rfl 2 rfl ?_
  obtain ⟨r_3, hc_2, hr⟩ := gBind_some hr
  refine c_X11_isPixel (pc := 8) C dX11_whole_8 q1927 ⟨Nat.le_of_ble_eq_true rfl, Nat.le_of_ble_eq_true rfl⟩ hc_2 (Nat.le_of_ble_eq_true rfl) ?_
  refine r_if_ne (pc := 11) (tgt := 16) C dX11_whole_11 rfl (fun c_4 => ?_) (fun c_4 => ?_)
  · replace hr := (if_neg c_4).symm.trans hr
    refine r_aload_n (pc := 16) C dX11_whole_16 rfl 0 rfl ?_
    refine r_iconst (pc := 17) C dX11_whole_17 kim1 ?_
    refine r_aload_n (pc := 18) C dX11_whole_18 rfl 0 rfl ?_
    refine g50_18 (pc := 19) C dX11_whole_19 q1418 (e50 nf) ?_
    refine r_sipush (pc := 22) C dX11_whole_22 ks1059 ?_
    refine r_ialdN (pc := 25) C dX11_whole_25 rfl (e52 (nf := nf) (by decide)) (by decide : gin 1059 1242 = true) kc1059 ?_
    obtain ⟨M_6, hc_5, hr⟩ := gBind_some hr
    refine c_X11_frames (pc := 26) C dX11_whole_26 q2000 ⟨Nat.le_of_ble_eq_true rfl, Nat.le_of_ble_eq_true rfl⟩ hc_5 (Nat.le_of_ble_eq_true rfl) ?_
    refine r_aload_n (pc := 29) C dX11_whole_29 rfl 0 rfl ?_
    refine r_aload_n (pc := 30) C dX11_whole_30 rfl 0 rfl ?_
    refine g50_19 (pc := 31) C dX11_whole_31 q1419 (e50 nf) ?_
    refine r_iload_n (pc := 34) C dX11_whole_34 rfl 1 rfl ?_
    refine r_iload_n (pc := 35) C dX11_whole_35 rfl 2 rfl ?_
    obtain ⟨r_8, hc_7, hr⟩ := gBind_some hr
    refine c_X11_resolved (pc := 36) C dX11_whole_36 q1951 ⟨Nat.le_of_ble_eq_true rfl, Nat.le_of_ble_eq_true rfl⟩ (by decide) hc_7 (Nat.le_of_ble_eq_true rfl) ?_
    exact r_iret (pc := 39) CR dX11_whole_39 (congrArg (fun z => some (Value.int z)) (Prod.mk.inj (gSome hr)).1) (Prod.mk.inj (gSome hr)).2
  · replace hr := (if_pos c_4).symm.trans hr
    refine r_iconst (pc := 14) C dX11_whole_14 kim1 ?_
    exact r_iret (pc := 15) CR dX11_whole_15 (congrArg (fun z => some (Value.int z)) (Prod.mk.inj (gSome hr)).1) (Prod.mk.inj (gSome hr)).2
theorem c_X11_whole {Ψ : gM → Nat → List (Nat × Value) → List Value → Prop} {G : gG5} {nf : Nat} {cc : ByteArray} {own : String} {nL : Nat} {ret : Option FieldType} {fr lo : Nat} {v0 : Option Value} {M0 M : gM} {pc index : Nat} {ls : List (Nat × Value)} {st : List Value} (C : gC Ψ G (gXn nf) cc own nL ret fr lo v0 M0) (d : decode cc pc = .ok (.invokevirtual index, 3)) (hl : Cond.methodLink own index yX11_whole ∈ gws) (hR : 10 ≤ fr ∧ 254 ≤ lo) {p1 : Int32} {p2 : Int32} {r : Int32} {M1 : gM} (hr : X11_whole p1 p2 M = some (r, M1)) (hcat : (st.map fun v => v.category).sum ≤ 8) (k : Ψ M1 (pc + 3) ls (.int r :: st)) : Ψ M pc ls (.int p2 :: .int p1 :: .ref (gad 50 0) :: st) := r_callV C [.int p1, .int p2] st d (k_X11_whole hr) hl q1997 q1998 q127 q1999 hd_X11_whole hR rfl (by decide) (e50 nf) rfl hcat k
theorem hd_X11_left : yX11_left.cls ≠ "java/lang/invoke/MethodHandle" ∧ yX11_left.cls ≠ "java/lang/invoke/VarHandle" ∧ (parseMethodDescriptor yX11_left.desc).map (fun d => d.parameters.length) = some 1 := by decide +kernel
noncomputable def X11_left_L42 (x1 : Int32) (x2 : Int32) (x3 : Int32) (M : gM) : Option ((Int32 × gM) ⊕ gM) := (if (M.1 52 2 0) ≤ x3 then some (.inr M) else (X11_resolved 9 x3 x2 M).bind (fun r_10 => gG (gin ((8 * x2) + x3) 64) (gLet (wI M 52 16 (Int32.toNatClampNeg ((8 * x2) + x3)) r_10) (fun M_12 => gLet (x3 + 1) (fun x3_13 => some (.inl (x3_13, M_12)))))))
theorem t_X11_left_L42 {Ψ : gM → Nat → List (Nat × Value) → List Value → Prop} {G : gG5} {nf : Nat} {M : gM} {v0 : Option Value} {M0 : gM} {x1 : Int32} {x2 : Int32} {x3 : Int32} {w : ((Int32 × gM) ⊕ gM)} (C : gC Ψ G (gXn nf) cX11_left RX11 5 (some .int) 9 232 v0 M0) (hr : X11_left_L42 x1 x2 x3 M = some w) (hn : ∀ s, w = .inl s → Ψ s.2 42 [(0, .ref (gad 50 0)), (1, .int x1), (2, .int x2), (3, .int (s.1))] []) (hx : ∀ e, w = .inr e → (fun e => Ψ e 79 [(0, .ref (gad 50 0)), (1, .int x1), (2, .int x2)] []) e) : Ψ M 42 [(0, .ref (gad 50 0)), (1, .int x1), (2, .int x2), (3, .int x3)] [] := by
  refine r_iload_n (pc := 42) C dX11_left_42 rfl 3 rfl ?_
  refine r_aload_n (pc := 43) C dX11_left_43 rfl 0 rfl ?_
  refine g50_9 (pc := 44) C dX11_left_44 q1409 (e50 nf) ?_
  refine r_iconst (pc := 47) C dX11_left_47 ki0 ?_
  refine r_ialdN (pc := 48) C dX11_left_48 rfl (e52 (nf := nf) (by decide)) (by decide : gin 0 9 = true) kc0 ?_
  refine r_icmp_ge (pc := 49) (tgt := 79) C dX11_left_49 rfl (fun c_8 => ?_) (fun c_8 => ?_)
  · replace hr := (if_pos c_8).symm.trans hr
    refine r_sub C [0, 1, 2] (ls' := [(0, .ref (gad 50 0)), (1, .int x1), (2, .int x2)]) rfl ?_
    exact hx M (gSome hr)
  · replace hr := (if_neg c_8).symm.trans hr
    refine r_aload_n (pc := 52) C dX11_left_52 rfl 0 rfl ?_
    refine g50_34 (pc := 53) C dX11_left_53 q1434 (e50 nf) ?_
    refine r_bipush (pc := 56) C dX11_left_56 kb8 ?_
    refine r_iload_n (pc := 58) C dX11_left_58 rfl 2 rfl ?_
    refine r_imul (pc := 59) C dX11_left_59 ?_
    refine r_iload_n (pc := 60) C dX11_left_60 rfl 3 rfl ?_
    refine r_iadd (pc := 61) C dX11_left_61 ?_
    refine r_aload_n (pc := 62) C dX11_left_62 rfl 0 rfl ?_
    refine r_aload_n (pc := 63) C dX11_left_63 rfl 0 rfl ?_
    refine g50_19 (pc := 64) C dX11_left_64 q1419 (e50 nf) ?_
    refine r_iload_n (pc := 67) C dX11_left_67 rfl 3 rfl ?_
    refine r_iload_n (pc := 68) C dX11_left_68 rfl 2 rfl ?_
    obtain ⟨r_10, hc_9, hr⟩ := gBind_some hr
    refine c_X11_resolved (pc := 69) C dX11_left_69 q1951 ⟨Nat.le_of_ble_eq_true rfl, Nat.le_of_ble_eq_true rfl⟩ (by decide) hc_9 (Nat.le_of_ble_eq_true rfl) ?_
    obtain ⟨g_11, hr⟩ := gG_some hr
    obtain ⟨M_12, eM_12, hr⟩ := gLet_some hr
    refine r_iastN (pc := 72) C dX11_left_72 rfl (e52 (nf := nf) (by decide)) g_11 rfl eM_12 ?_
    obtain ⟨x3_13, ex3_13, hr⟩ := gLet_some hr
    refine r_iinc (pc := 73) C dX11_left_73 3 rfl rfl (by decide) ex3_13 (ls' := [(3, .int x3_13), (0, .ref (gad 50 0)), (1, .int x1), (2, .int x2)]) rfl ?_
    refine r_goto (pc := 76) (tgt := 42) C dX11_left_76 rfl ?_
    refine r_sub C [1, 2, 3, 0] (ls' := [(0, .ref (gad 50 0)), (1, .int x1), (2, .int x2), (3, .int x3_13)]) rfl ?_
    exact hn (x3_13, M_12) (gSome hr)
noncomputable def X11_left_L30 (x1 : Int32) (x2 : Int32) (M : gM) : Option ((Int32 × gM) ⊕ gM) := (if (M.1 52 2 1) ≤ x2 then some (.inr M) else (gIter (fun s => X11_left_L42 x1 x2 s.1 s.2) FU (0, M)).bind (fun M_14 => gLet (x2 + 1) (fun x2_15 => some (.inl (x2_15, M_14)))))
theorem t_X11_left_L30 {Ψ : gM → Nat → List (Nat × Value) → List Value → Prop} {G : gG5} {nf : Nat} {M : gM} {v0 : Option Value} {M0 : gM} {x1 : Int32} {x2 : Int32} {w : ((Int32 × gM) ⊕ gM)} (C : gC Ψ G (gXn nf) cX11_left RX11 5 (some .int) 9 232 v0 M0) (hr : X11_left_L30 x1 x2 M = some w) (hn : ∀ s, w = .inl s → Ψ s.2 30 [(0, .ref (gad 50 0)), (1, .int x1), (2, .int (s.1))] []) (hx : ∀ e, w = .inr e → (fun e => Ψ e 85 [(0, .ref (gad 50 0)), (1, .int x1)] []) e) : Ψ M 30 [(0, .ref (gad 50 0)), (1, .int x1), (2, .int x2)] [] := by
  refine r_iload_n (pc := 30) C dX11_left_30 rfl 2 rfl ?_
  refine r_aload_n (pc := 31) C dX11_left_31 rfl 0 rfl ?_
  refine g50_9 (pc := 32) C dX11_left_32 q1409 (e50 nf) ?_
  refine r_iconst (pc := 35) C dX11_left_35 ki1 ?_
  refine r_ialdN (pc := 36) C dX11_left_36 rfl (e52 (nf := nf) (by decide)) (by decide : gin 1 9 = true) kc1 ?_
  refine r_icmp_ge (pc := 37) (tgt := 85) C dX11_left_37 rfl (fun c_7 => ?_) (fun c_7 => ?_)
  · replace hr := (if_pos c_7).symm.trans hr
    refine r_sub C [0, 1] (ls' := [(0, .ref (gad 50 0)), (1, .int x1)]) rfl ?_
    exact hx M (gSome hr)
  · replace hr := (if_neg c_7).symm.trans hr
    refine r_iconst (pc := 40) C dX11_left_40 ki0 ?_
    refine r_istore_n (pc := 41) C dX11_left_41 rfl (by decide) rfl (ls' := [(3, .int 0), (0, .ref (gad 50 0)), (1, .int x1), (2, .int x2)]) rfl ?_
    refine r_sub C [1, 2, 3, 0] (ls' := [(0, .ref (gad 50 0)), (1, .int x1), (2, .int x2), (3, .int 0)]) rfl ?_
    obtain ⟨ev, hit, hr⟩ := gBind_some hr
    refine gIter_V (step := fun s => X11_left_L42 x1 x2 s.1 s.2) (P := fun s => Ψ s.2 42 [(0, .ref (gad 50 0)), (1, .int x1), (2, .int x2), (3, .int (s.1))] []) (K := (fun e => Ψ e 79 [(0, .ref (gad 50 0)), (1, .int x1), (2, .int x2)] [])) (fun s w hs hn hx => t_X11_left_L42 C  hs hn hx) FU (0, M) ev hit ?_
    obtain ⟨M_14, rfl⟩ : ∃ z, z = ev := ⟨_, rfl⟩
    show Ψ M_14 79 [(0, .ref (gad 50 0)), (1, .int x1), (2, .int x2)] []
    obtain ⟨x2_15, ex2_15, hr⟩ := gLet_some hr
    refine r_iinc (pc := 79) C dX11_left_79 2 rfl rfl (by decide) ex2_15 (ls' := [(2, .int x2_15), (0, .ref (gad 50 0)), (1, .int x1)]) rfl ?_
    refine r_goto (pc := 82) (tgt := 30) C dX11_left_82 rfl ?_
    refine r_sub C [1, 2, 0] (ls' := [(0, .ref (gad 50 0)), (1, .int x1), (2, .int x2_15)]) rfl ?_
    exact hn (x2_15, M_14) (gSome hr)
noncomputable def X11_left_L115 (x3 : Int32) (x2 : Int32) (x4 : Int32) (M : gM) : Option ((Int32 × Int32) ⊕ Int32) := (if (M.1 52 2 0) ≤ x4 then some (.inr x2) else gG (gin ((8 * x3) + x4) 64) ((X11_resolved 9 x4 x3 M).bind (fun r_23 => (if (M.1 52 16 (Int32.toNatClampNeg ((8 * x3) + x4))) = r_23 then gLet ((x2 + 0)) (fun x2_27 => gLet (x4 + 1) (fun x4_28 => some (.inl (x2_27, x4_28)))) else gLet ((x2 + 1)) (fun x2_25 => gLet (x4 + 1) (fun x4_26 => some (.inl (x2_25, x4_26))))))))
theorem t_X11_left_L115 {Ψ : gM → Nat → List (Nat × Value) → List Value → Prop} {G : gG5} {nf : Nat} {M : gM} {v0 : Option Value} {M0 : gM} {x3 : Int32} {x2 : Int32} {x4 : Int32} {w : ((Int32 × Int32) ⊕ Int32)} (C : gC Ψ G (gXn nf) cX11_left RX11 5 (some .int) 9 232 v0 M0) (hr : X11_left_L115 x3 x2 x4 M = some w) (hn : ∀ s, w = .inl s → Ψ M 115 [(0, .ref (gad 50 0)), (2, .int (s.1)), (3, .int x3), (4, .int (s.2))] []) (hx : ∀ e, w = .inr e → (fun e => Ψ M 166 [(0, .ref (gad 50 0)), (2, .int e), (3, .int x3)] []) e) : Ψ M 115 [(0, .ref (gad 50 0)), (2, .int x2), (3, .int x3), (4, .int x4)] [] := by
  refine r_iload (pc := 115) C dX11_left_115 3 rfl ?_
  refine r_aload_n (pc := 117) C dX11_left_117 rfl 0 rfl ?_
  refine g50_9 (pc := 118) C dX11_left_118 q1409 (e50 nf) ?_
  refine r_iconst (pc := 121) C dX11_left_121 ki0 ?_
  refine r_ialdN (pc := 122) C dX11_left_122 rfl (e52 (nf := nf) (by decide)) (by decide : gin 0 9 = true) kc0 ?_
  refine r_icmp_ge (pc := 123) (tgt := 166) C dX11_left_123 rfl (fun c_20 => ?_) (fun c_20 => ?_)
  · replace hr := (if_pos c_20).symm.trans hr
    refine r_sub C [0, 1, 2] (ls' := [(0, .ref (gad 50 0)), (2, .int x2), (3, .int x3)]) rfl ?_
    exact hx x2 (gSome hr)
  · replace hr := (if_neg c_20).symm.trans hr
    refine r_iload_n (pc := 126) C dX11_left_126 rfl 1 rfl ?_
    refine r_aload_n (pc := 127) C dX11_left_127 rfl 0 rfl ?_
    refine g50_34 (pc := 128) C dX11_left_128 q1434 (e50 nf) ?_
    refine r_bipush (pc := 131) C dX11_left_131 kb8 ?_
    refine r_iload_n (pc := 133) C dX11_left_133 rfl 2 rfl ?_
    refine r_imul (pc := 134) C dX11_left_134 ?_
    refine r_iload (pc := 135) C dX11_left_135 3 rfl ?_
    refine r_iadd (pc := 137) C dX11_left_137 ?_
    obtain ⟨g_21, hr⟩ := gG_some hr
    refine r_ialdN (pc := 138) C dX11_left_138 rfl (e52 (nf := nf) (by decide)) g_21 rfl ?_
    refine r_aload_n (pc := 139) C dX11_left_139 rfl 0 rfl ?_
    refine r_aload_n (pc := 140) C dX11_left_140 rfl 0 rfl ?_
    refine g50_19 (pc := 141) C dX11_left_141 q1419 (e50 nf) ?_
    refine r_iload (pc := 144) C dX11_left_144 3 rfl ?_
    refine r_iload_n (pc := 146) C dX11_left_146 rfl 2 rfl ?_
    obtain ⟨r_23, hc_22, hr⟩ := gBind_some hr
    refine c_X11_resolved (pc := 147) C dX11_left_147 q1951 ⟨Nat.le_of_ble_eq_true rfl, Nat.le_of_ble_eq_true rfl⟩ (by decide) hc_22 (Nat.le_of_ble_eq_true rfl) ?_
    refine r_icmp_ne (pc := 150) (tgt := 157) C dX11_left_150 rfl (fun c_24 => ?_) (fun c_24 => ?_)
    · replace hr := (if_neg c_24).symm.trans hr
      refine r_iconst (pc := 157) C dX11_left_157 ki1 ?_
      refine r_iadd (pc := 158) C dX11_left_158 ?_
      obtain ⟨x2_25, ex2_25, hr⟩ := gLet_some hr
      refine r_istore_n (pc := 159) C dX11_left_159 rfl (by decide) ex2_25 (ls' := [(2, .int x2_25), (0, .ref (gad 50 0)), (3, .int x3), (4, .int x4)]) rfl ?_
      obtain ⟨x4_26, ex4_26, hr⟩ := gLet_some hr
      refine r_iinc (pc := 160) C dX11_left_160 3 rfl rfl (by decide) ex4_26 (ls' := [(4, .int x4_26), (2, .int x2_25), (0, .ref (gad 50 0)), (3, .int x3)]) rfl ?_
      refine r_goto (pc := 163) (tgt := 115) C dX11_left_163 rfl ?_
      refine r_sub C [2, 1, 3, 0] (ls' := [(0, .ref (gad 50 0)), (2, .int x2_25), (3, .int x3), (4, .int x4_26)]) rfl ?_
      exact hn (x2_25, x4_26) (gSome hr)
    · replace hr := (if_pos c_24).symm.trans hr
      refine r_iconst (pc := 153) C dX11_left_153 ki0 ?_
      refine r_goto (pc := 154) (tgt := 158) C dX11_left_154 rfl ?_
      refine r_iadd (pc := 158) C dX11_left_158 ?_
      obtain ⟨x2_27, ex2_27, hr⟩ := gLet_some hr
      refine r_istore_n (pc := 159) C dX11_left_159 rfl (by decide) ex2_27 (ls' := [(2, .int x2_27), (0, .ref (gad 50 0)), (3, .int x3), (4, .int x4)]) rfl ?_
      obtain ⟨x4_28, ex4_28, hr⟩ := gLet_some hr
      refine r_iinc (pc := 160) C dX11_left_160 3 rfl rfl (by decide) ex4_28 (ls' := [(4, .int x4_28), (2, .int x2_27), (0, .ref (gad 50 0)), (3, .int x3)]) rfl ?_
      refine r_goto (pc := 163) (tgt := 115) C dX11_left_163 rfl ?_
      refine r_sub C [2, 1, 3, 0] (ls' := [(0, .ref (gad 50 0)), (2, .int x2_27), (3, .int x3), (4, .int x4_28)]) rfl ?_
      exact hn (x2_27, x4_28) (gSome hr)
noncomputable def X11_left_L102 (x2 : Int32) (x3 : Int32) (M : gM) : Option ((Int32 × Int32) ⊕ Int32) := (if (M.1 52 2 1) ≤ x3 then some (.inr x2) else (gIter (fun s => X11_left_L115 x3 s.1 s.2 M) FU (x2, 0)).bind (fun x2_29 => gLet (x3 + 1) (fun x3_30 => some (.inl (x2_29, x3_30)))))
theorem t_X11_left_L102 {Ψ : gM → Nat → List (Nat × Value) → List Value → Prop} {G : gG5} {nf : Nat} {M : gM} {v0 : Option Value} {M0 : gM} {x2 : Int32} {x3 : Int32} {w : ((Int32 × Int32) ⊕ Int32)} (C : gC Ψ G (gXn nf) cX11_left RX11 5 (some .int) 9 232 v0 M0) (hr : X11_left_L102 x2 x3 M = some w) (hn : ∀ s, w = .inl s → Ψ M 102 [(0, .ref (gad 50 0)), (2, .int (s.1)), (3, .int (s.2))] []) (hx : ∀ e, w = .inr e → (fun e => Ψ M 172 [(2, .int e)] []) e) : Ψ M 102 [(0, .ref (gad 50 0)), (2, .int x2), (3, .int x3)] [] := by
  refine r_iload_n (pc := 102) C dX11_left_102 rfl 2 rfl ?_
  refine r_aload_n (pc := 103) C dX11_left_103 rfl 0 rfl ?_
  refine g50_9 (pc := 104) C dX11_left_104 q1409 (e50 nf) ?_
  refine r_iconst (pc := 107) C dX11_left_107 ki1 ?_
  refine r_ialdN (pc := 108) C dX11_left_108 rfl (e52 (nf := nf) (by decide)) (by decide : gin 1 9 = true) kc1 ?_
  refine r_icmp_ge (pc := 109) (tgt := 172) C dX11_left_109 rfl (fun c_19 => ?_) (fun c_19 => ?_)
  · replace hr := (if_pos c_19).symm.trans hr
    refine r_sub C [1] (ls' := [(2, .int x2)]) rfl ?_
    exact hx x2 (gSome hr)
  · replace hr := (if_neg c_19).symm.trans hr
    refine r_iconst (pc := 112) C dX11_left_112 ki0 ?_
    refine r_istore (pc := 113) C dX11_left_113 (by decide) rfl (ls' := [(4, .int 0), (0, .ref (gad 50 0)), (2, .int x2), (3, .int x3)]) rfl ?_
    refine r_sub C [1, 2, 3, 0] (ls' := [(0, .ref (gad 50 0)), (2, .int x2), (3, .int x3), (4, .int 0)]) rfl ?_
    obtain ⟨ev, hit, hr⟩ := gBind_some hr
    refine gIter_V (step := fun s => X11_left_L115 x3 s.1 s.2 M) (P := fun s => Ψ M 115 [(0, .ref (gad 50 0)), (2, .int (s.1)), (3, .int x3), (4, .int (s.2))] []) (K := (fun e => Ψ M 166 [(0, .ref (gad 50 0)), (2, .int e), (3, .int x3)] [])) (fun s w hs hn hx => t_X11_left_L115 C  hs hn hx) FU (x2, 0) ev hit ?_
    obtain ⟨x2_29, rfl⟩ : ∃ z, z = ev := ⟨_, rfl⟩
    show Ψ M 166 [(0, .ref (gad 50 0)), (2, .int x2_29), (3, .int x3)] []
    obtain ⟨x3_30, ex3_30, hr⟩ := gLet_some hr
    refine r_iinc (pc := 166) C dX11_left_166 2 rfl rfl (by decide) ex3_30 (ls' := [(3, .int x3_30), (0, .ref (gad 50 0)), (2, .int x2_29)]) rfl ?_
    refine r_goto (pc := 169) (tgt := 102) C dX11_left_169 rfl ?_
    refine r_sub C [1, 2, 0] (ls' := [(0, .ref (gad 50 0)), (2, .int x2_29), (3, .int x3_30)]) rfl ?_
    exact hn (x2_29, x3_30) (gSome hr)
noncomputable def X11_left (p1 : Int32) (M : gM) : Option (Int32 × gM) := gLet (wI M 50 0 0 0) (fun M_1 => (X11_isTri p1 M_1).bind (fun r_3 => (if r_3 = 0 then some ((-1), M_1) else (X11_frames (-1) (M_1.1 52 8 1059) M_1).bind (fun M_6 => (gIter (fun s => X11_left_L30 p1 s.1 s.2) FU (0, M_6)).bind (fun M_16 => (X11_frames p1 (M_16.1 52 8 1059) M_16).bind (fun M_18 => (gIter (fun s => X11_left_L102 s.1 s.2 M_18) FU (0, 0)).bind (fun x2_31 => some (x2_31, M_18))))))))
theorem k_X11_left {G : gG5} {nf : Nat} {M : gM} {p1 : Int32} {r : Int32} {M1 : gM} (hr : X11_left p1 M = some (r, M1)) : gMet G (gXn nf) yX11_left cX11_left 5 (some .int) 9 232 M [.ref (gad 50 0), .int p1] (some (.int r)) M1 := by
  refine gMet_of pl_X11 rfl (Nat.le_of_ble_eq_true rfl) (fun Ψ C CR => ?_)
  show Ψ M 0 [(0, .ref (gad 50 0)), (1, .int p1)] []
  refine r_aload_n (pc := 0) C dX11_left_0 rfl 0 rfl ?_
  refine r_iconst (pc := 1) C dX11_left_1 ki0 ?_
  obtain ⟨M_1, eM_1, hr⟩ := gLet_some hr
  refine p50_0 (pc := 2) C dX11_left_2 q1400 (e50 nf) eM_1 ?_
  refine r_aload_n (pc := 5) C dX11_left_5 rfl 0 rfl ?_
  refine r_iload_n (pc := 6) C dX11_left_6 rfl 1 rfl ?_
  obtain ⟨r_3, hc_2, hr⟩ := gBind_some hr
  refine c_X11_isTri (pc := 7) C dX11_left_7 q1644 ⟨Nat.le_of_ble_eq_true rfl, Nat.le_of_ble_eq_true rfl⟩ hc_2 (Nat.le_of_ble_eq_true rfl) ?_
  refine r_if_ne (pc := 10) (tgt := 15) C dX11_left_10 rfl (fun c_4 => ?_) (fun c_4 => ?_)
  · replace hr := (if_neg c_4).symm.trans hr
    refine r_aload_n (pc := 15) C dX11_left_15 rfl 0 rfl ?_
    refine r_iconst (pc := 16) C dX11_left_16 kim1 ?_
    refine r_aload_n (pc := 17) C dX11_left_17 rfl 0 rfl ?_
    refine g50_18 (pc := 18) C dX11_left_18 q1418 (e50 nf) ?_
    refine r_sipush (pc := 21) C dX11_left_21 ks1059 ?_
    refine r_ialdN (pc := 24) C dX11_left_24 rfl (e52 (nf := nf) (by decide)) (by decide : gin 1059 1242 = true) kc1059 ?_
    obtain ⟨M_6, hc_5, hr⟩ := gBind_some hr
    refine c_X11_frames (pc := 25) C dX11_left_25 q2000 ⟨Nat.le_of_ble_eq_true rfl, Nat.le_of_ble_eq_true rfl⟩ hc_5 (Nat.le_of_ble_eq_true rfl) ?_
    refine r_iconst (pc := 28) C dX11_left_28 ki0 ?_
    refine r_istore_n (pc := 29) C dX11_left_29 rfl (by decide) rfl (ls' := [(2, .int 0), (0, .ref (gad 50 0)), (1, .int p1)]) rfl ?_
    refine r_sub C [1, 2, 0] (ls' := [(0, .ref (gad 50 0)), (1, .int p1), (2, .int 0)]) rfl ?_
    obtain ⟨ev, hit, hr⟩ := gBind_some hr
    refine gIter_V (step := fun s => X11_left_L30 p1 s.1 s.2) (P := fun s => Ψ s.2 30 [(0, .ref (gad 50 0)), (1, .int p1), (2, .int (s.1))] []) (K := (fun e => Ψ e 85 [(0, .ref (gad 50 0)), (1, .int p1)] [])) (fun s w hs hn hx => t_X11_left_L30 C  hs hn hx) FU (0, M_6) ev hit ?_
    obtain ⟨M_16, rfl⟩ : ∃ z, z = ev := ⟨_, rfl⟩
    show Ψ M_16 85 [(0, .ref (gad 50 0)), (1, .int p1)] []
    refine r_aload_n (pc := 85) C dX11_left_85 rfl 0 rfl ?_
    refine r_iload_n (pc := 86) C dX11_left_86 rfl 1 rfl ?_
    refine r_aload_n (pc := 87) C dX11_left_87 rfl 0 rfl ?_
    refine g50_18 (pc := 88) C dX11_left_88 q1418 (e50 nf) ?_
    refine r_sipush (pc := 91) C dX11_left_91 ks1059 ?_
    refine r_ialdN (pc := 94) C dX11_left_94 rfl (e52 (nf := nf) (by decide)) (by decide : gin 1059 1242 = true) kc1059 ?_
    obtain ⟨M_18, hc_17, hr⟩ := gBind_some hr
    refine c_X11_frames (pc := 95) C dX11_left_95 q2000 ⟨Nat.le_of_ble_eq_true rfl, Nat.le_of_ble_eq_true rfl⟩ hc_17 (Nat.le_of_ble_eq_true rfl) ?_
    refine r_iconst (pc := 98) C dX11_left_98 ki0 ?_
    refine r_istore_n (pc := 99) C dX11_left_99 rfl (by decide) rfl (ls' := [(2, .int 0), (0, .ref (gad 50 0)), (1, .int p1)]) rfl ?_
    refine r_iconst (pc := 100) C dX11_left_100 ki0 ?_
    refine r_istore_n (pc := 101) C dX11_left_101 rfl (by decide) rfl (ls' := [(3, .int 0), (2, .int 0), (0, .ref (gad 50 0)), (1, .int p1)]) rfl ?_
    refine r_sub C [2, 1, 0] (ls' := [(0, .ref (gad 50 0)), (2, .int 0), (3, .int 0)]) rfl ?_
    obtain ⟨ev, hit, hr⟩ := gBind_some hr
    refine gIter_V (step := fun s => X11_left_L102 s.1 s.2 M_18) (P := fun s => Ψ M_18 102 [(0, .ref (gad 50 0)), (2, .int (s.1)), (3, .int (s.2))] []) (K := (fun e => Ψ M_18 172 [(2, .int e)] [])) (fun s w hs hn hx => t_X11_left_L102 C  hs hn hx) FU (0, 0) ev hit ?_
    obtain ⟨x2_31, rfl⟩ : ∃ z, z = ev := ⟨_, rfl⟩
    show Ψ M_18 172 [(2, .int x2_31)] []
    refine r_iload_n (pc := 172) C dX11_left_172 rfl 0 rfl ?_
    exact r_iret (pc := 173) CR dX11_left_173 (congrArg (fun z => some (Value.int z)) (Prod.mk.inj (gSome hr)).1) (Prod.mk.inj (gSome hr)).2
  · replace hr := (if_pos c_4).symm.trans hr
    refine r_iconst (pc := 13) C dX11_left_13 kim1 ?_
    exact r_iret (pc := 14) CR dX11_left_14 (congrArg (fun z => some (Value.int z)) (Prod.mk.inj (gSome hr)).1) (Prod.mk.inj (gSome hr)).2
theorem c_X11_left {Ψ : gM → Nat → List (Nat × Value) → List Value → Prop} {G : gG5} {nf : Nat} {cc : ByteArray} {own : String} {nL : Nat} {ret : Option FieldType} {fr lo : Nat} {v0 : Option Value} {M0 M : gM} {pc index : Nat} {ls : List (Nat × Value)} {st : List Value} (C : gC Ψ G (gXn nf) cc own nL ret fr lo v0 M0) (d : decode cc pc = .ok (.invokevirtual index, 3)) (hl : Cond.methodLink own index yX11_left ∈ gws) (hR : 10 ≤ fr ∧ 256 ≤ lo) {p1 : Int32} {r : Int32} {M1 : gM} (hr : X11_left p1 M = some (r, M1)) (hcat : (st.map fun v => v.category).sum ≤ 8) (k : Ψ M1 (pc + 3) ls (.int r :: st)) : Ψ M pc ls (.int p1 :: .ref (gad 50 0) :: st) := r_callV C [.int p1] st d (k_X11_left hr) hl q2005 q2006 q127 q2007 hd_X11_left hR rfl (by decide) (e50 nf) rfl hcat k
theorem hd_X11_borderIn : yX11_borderIn.cls ≠ "java/lang/invoke/MethodHandle" ∧ yX11_borderIn.cls ≠ "java/lang/invoke/VarHandle" ∧ (parseMethodDescriptor yX11_borderIn.desc).map (fun d => d.parameters.length) = some 2 := by decide +kernel
noncomputable def X11_borderIn_L22 (x1 : Int32) (x2 : Int32) (x3 : Int32) (x4 : Int32) (x5 : Int32) (x6 : Int32) (M : gM) : Option ((Int32 × Int32) ⊕ Int32) := (if 3 ≤ x6 then some (.inr x5) else (X11_sampleX x4 M).bind (fun r_4 => (X11_sampleY x4 M).bind (fun r_6 => (X11_sum x6 ((8 * x1) + r_4) ((8 * x2) + r_6) M).bind (fun r_8 => (if x5 ≤ r_8 then gLet (x6 + 1) (fun x6_10 => some (.inl (x5, x6_10))) else gLet (x6 + 1) (fun x6_11 => some (.inl (r_8, x6_11))))))))
theorem t_X11_borderIn_L22 {Ψ : gM → Nat → List (Nat × Value) → List Value → Prop} {G : gG5} {nf : Nat} {M : gM} {v0 : Option Value} {M0 : gM} {x1 : Int32} {x2 : Int32} {x3 : Int32} {x4 : Int32} {x5 : Int32} {x6 : Int32} {w : ((Int32 × Int32) ⊕ Int32)} (C : gC Ψ G (gXn nf) cX11_borderIn RX11 8 (some .int) 1 25 v0 M0) (hr : X11_borderIn_L22 x1 x2 x3 x4 x5 x6 M = some w) (hn : ∀ s, w = .inl s → Ψ M 22 [(0, .ref (gad 50 0)), (1, .int x1), (2, .int x2), (3, .int x3), (4, .int x4), (5, .int (s.1)), (6, .int (s.2))] []) (hx : ∀ e, w = .inr e → (fun e => Ψ M 80 [(0, .ref (gad 50 0)), (1, .int x1), (2, .int x2), (3, .int x3), (4, .int x4), (5, .int e)] []) e) : Ψ M 22 [(0, .ref (gad 50 0)), (1, .int x1), (2, .int x2), (3, .int x3), (4, .int x4), (5, .int x5), (6, .int x6)] [] := by
  refine r_iload (pc := 22) C dX11_borderIn_22 6 rfl ?_
  refine r_iconst (pc := 24) C dX11_borderIn_24 ki3 ?_
  refine r_icmp_ge (pc := 25) (tgt := 80) C dX11_borderIn_25 rfl (fun c_2 => ?_) (fun c_2 => ?_)
  · replace hr := (if_pos c_2).symm.trans hr
    refine r_sub C [0, 1, 2, 3, 4, 5] (ls' := [(0, .ref (gad 50 0)), (1, .int x1), (2, .int x2), (3, .int x3), (4, .int x4), (5, .int x5)]) rfl ?_
    exact hx x5 (gSome hr)
  · replace hr := (if_neg c_2).symm.trans hr
    refine r_aload_n (pc := 28) C dX11_borderIn_28 rfl 0 rfl ?_
    refine r_iload (pc := 29) C dX11_borderIn_29 6 rfl ?_
    refine r_bipush (pc := 31) C dX11_borderIn_31 kb8 ?_
    refine r_iload_n (pc := 33) C dX11_borderIn_33 rfl 1 rfl ?_
    refine r_imul (pc := 34) C dX11_borderIn_34 ?_
    refine r_aload_n (pc := 35) C dX11_borderIn_35 rfl 0 rfl ?_
    refine r_iload (pc := 36) C dX11_borderIn_36 4 rfl ?_
    obtain ⟨r_4, hc_3, hr⟩ := gBind_some hr
    refine c_X11_sampleX (pc := 38) C dX11_borderIn_38 q1735 ⟨Nat.le_of_ble_eq_true rfl, Nat.le_of_ble_eq_true rfl⟩ hc_3 (Nat.le_of_ble_eq_true rfl) ?_
    refine r_iadd (pc := 41) C dX11_borderIn_41 ?_
    refine r_bipush (pc := 42) C dX11_borderIn_42 kb8 ?_
    refine r_iload_n (pc := 44) C dX11_borderIn_44 rfl 2 rfl ?_
    refine r_imul (pc := 45) C dX11_borderIn_45 ?_
    refine r_aload_n (pc := 46) C dX11_borderIn_46 rfl 0 rfl ?_
    refine r_iload (pc := 47) C dX11_borderIn_47 4 rfl ?_
    obtain ⟨r_6, hc_5, hr⟩ := gBind_some hr
    refine c_X11_sampleY (pc := 49) C dX11_borderIn_49 q1739 ⟨Nat.le_of_ble_eq_true rfl, Nat.le_of_ble_eq_true rfl⟩ hc_5 (Nat.le_of_ble_eq_true rfl) ?_
    refine r_iadd (pc := 52) C dX11_borderIn_52 ?_
    obtain ⟨r_8, hc_7, hr⟩ := gBind_some hr
    refine c_X11_sum (pc := 53) C dX11_borderIn_53 q1656 ⟨Nat.le_of_ble_eq_true rfl, Nat.le_of_ble_eq_true rfl⟩ hc_7 (Nat.le_of_ble_eq_true rfl) ?_
    refine r_istore (pc := 56) C dX11_borderIn_56 (by decide) rfl (ls' := [(7, .int r_8), (0, .ref (gad 50 0)), (1, .int x1), (2, .int x2), (3, .int x3), (4, .int x4), (5, .int x5), (6, .int x6)]) rfl ?_
    refine r_iload (pc := 58) C dX11_borderIn_58 0 rfl ?_
    refine r_iload (pc := 60) C dX11_borderIn_60 6 rfl ?_
    refine r_icmp_ge (pc := 62) (tgt := 70) C dX11_borderIn_62 rfl (fun c_9 => ?_) (fun c_9 => ?_)
    · replace hr := (if_pos c_9).symm.trans hr
      refine r_iload (pc := 70) C dX11_borderIn_70 6 rfl ?_
      refine r_istore (pc := 72) C dX11_borderIn_72 (by decide) rfl (ls' := [(5, .int x5), (7, .int r_8), (0, .ref (gad 50 0)), (1, .int x1), (2, .int x2), (3, .int x3), (4, .int x4), (6, .int x6)]) rfl ?_
      obtain ⟨x6_10, ex6_10, hr⟩ := gLet_some hr
      refine r_iinc (pc := 74) C dX11_borderIn_74 7 rfl rfl (by decide) ex6_10 (ls' := [(6, .int x6_10), (5, .int x5), (7, .int r_8), (0, .ref (gad 50 0)), (1, .int x1), (2, .int x2), (3, .int x3), (4, .int x4)]) rfl ?_
      refine r_goto (pc := 77) (tgt := 22) C dX11_borderIn_77 rfl ?_
      refine r_sub C [3, 4, 5, 6, 7, 1, 0] (ls' := [(0, .ref (gad 50 0)), (1, .int x1), (2, .int x2), (3, .int x3), (4, .int x4), (5, .int x5), (6, .int x6_10)]) rfl ?_
      exact hn (x5, x6_10) (gSome hr)
    · replace hr := (if_neg c_9).symm.trans hr
      refine r_iload (pc := 65) C dX11_borderIn_65 0 rfl ?_
      refine r_goto (pc := 67) (tgt := 72) C dX11_borderIn_67 rfl ?_
      refine r_istore (pc := 72) C dX11_borderIn_72 (by decide) rfl (ls' := [(5, .int r_8), (7, .int r_8), (0, .ref (gad 50 0)), (1, .int x1), (2, .int x2), (3, .int x3), (4, .int x4), (6, .int x6)]) rfl ?_
      obtain ⟨x6_11, ex6_11, hr⟩ := gLet_some hr
      refine r_iinc (pc := 74) C dX11_borderIn_74 7 rfl rfl (by decide) ex6_11 (ls' := [(6, .int x6_11), (5, .int r_8), (7, .int r_8), (0, .ref (gad 50 0)), (1, .int x1), (2, .int x2), (3, .int x3), (4, .int x4)]) rfl ?_
      refine r_goto (pc := 77) (tgt := 22) C dX11_borderIn_77 rfl ?_
      refine r_sub C [3, 4, 5, 6, 7, 1, 0] (ls' := [(0, .ref (gad 50 0)), (1, .int x1), (2, .int x2), (3, .int x3), (4, .int x4), (5, .int r_8), (6, .int x6_11)]) rfl ?_
      exact hn (r_8, x6_11) (gSome hr)
noncomputable def X11_borderIn_L5 (x1 : Int32) (x2 : Int32) (x3 : Int32) (x4 : Int32) (M : gM) : Option ((Int32 × Int32) ⊕ Int32) := (if (M.1 52 2 3) ≤ x4 then some (.inr x3) else (gIter (fun s => X11_borderIn_L22 x1 x2 x3 x4 s.1 s.2 M) FU (1, 0)).bind (fun x5_12 => (if x5_12 = 0 then (if (M.1 50 0 31) = 0 then gLet ((x3 ||| (1 <<< (x4 &&& 31)))) (fun x3_19 => gLet (x4 + 1) (fun x4_20 => some (.inl (x3_19, x4_20)))) else gLet ((x3 ||| 0)) (fun x3_17 => gLet (x4 + 1) (fun x4_18 => some (.inl (x3_17, x4_18))))) else gLet ((x3 ||| 0)) (fun x3_14 => gLet (x4 + 1) (fun x4_15 => some (.inl (x3_14, x4_15)))))))
theorem t_X11_borderIn_L5 {Ψ : gM → Nat → List (Nat × Value) → List Value → Prop} {G : gG5} {nf : Nat} {M : gM} {v0 : Option Value} {M0 : gM} {x1 : Int32} {x2 : Int32} {x3 : Int32} {x4 : Int32} {w : ((Int32 × Int32) ⊕ Int32)} (C : gC Ψ G (gXn nf) cX11_borderIn RX11 8 (some .int) 1 25 v0 M0) (hr : X11_borderIn_L5 x1 x2 x3 x4 M = some w) (hn : ∀ s, w = .inl s → Ψ M 5 [(0, .ref (gad 50 0)), (1, .int x1), (2, .int x2), (3, .int (s.1)), (4, .int (s.2))] []) (hx : ∀ e, w = .inr e → (fun e => Ψ M 109 [(3, .int e)] []) e) : Ψ M 5 [(0, .ref (gad 50 0)), (1, .int x1), (2, .int x2), (3, .int x3), (4, .int x4)] [] := by
  refine r_iload (pc := 5) C dX11_borderIn_5 4 rfl ?_
  refine r_aload_n (pc := 7) C dX11_borderIn_7 rfl 0 rfl ?_
  refine g50_9 (pc := 8) C dX11_borderIn_8 q1409 (e50 nf) ?_
  refine r_iconst (pc := 11) C dX11_borderIn_11 ki3 ?_
  refine r_ialdN (pc := 12) C dX11_borderIn_12 rfl (e52 (nf := nf) (by decide)) (by decide : gin 3 9 = true) kc3 ?_
  refine r_icmp_ge (pc := 13) (tgt := 109) C dX11_borderIn_13 rfl (fun c_1 => ?_) (fun c_1 => ?_)
  · replace hr := (if_pos c_1).symm.trans hr
    refine r_sub C [3] (ls' := [(3, .int x3)]) rfl ?_
    exact hx x3 (gSome hr)
  · replace hr := (if_neg c_1).symm.trans hr
    refine r_iconst (pc := 16) C dX11_borderIn_16 ki1 ?_
    refine r_istore (pc := 17) C dX11_borderIn_17 (by decide) rfl (ls' := [(5, .int 1), (0, .ref (gad 50 0)), (1, .int x1), (2, .int x2), (3, .int x3), (4, .int x4)]) rfl ?_
    refine r_iconst (pc := 19) C dX11_borderIn_19 ki0 ?_
    refine r_istore (pc := 20) C dX11_borderIn_20 (by decide) rfl (ls' := [(6, .int 0), (5, .int 1), (0, .ref (gad 50 0)), (1, .int x1), (2, .int x2), (3, .int x3), (4, .int x4)]) rfl ?_
    refine r_sub C [2, 3, 4, 5, 6, 1, 0] (ls' := [(0, .ref (gad 50 0)), (1, .int x1), (2, .int x2), (3, .int x3), (4, .int x4), (5, .int 1), (6, .int 0)]) rfl ?_
    obtain ⟨ev, hit, hr⟩ := gBind_some hr
    refine gIter_V (step := fun s => X11_borderIn_L22 x1 x2 x3 x4 s.1 s.2 M) (P := fun s => Ψ M 22 [(0, .ref (gad 50 0)), (1, .int x1), (2, .int x2), (3, .int x3), (4, .int x4), (5, .int (s.1)), (6, .int (s.2))] []) (K := (fun e => Ψ M 80 [(0, .ref (gad 50 0)), (1, .int x1), (2, .int x2), (3, .int x3), (4, .int x4), (5, .int e)] [])) (fun s w hs hn hx => t_X11_borderIn_L22 C  hs hn hx) FU (1, 0) ev hit ?_
    obtain ⟨x5_12, rfl⟩ : ∃ z, z = ev := ⟨_, rfl⟩
    show Ψ M 80 [(0, .ref (gad 50 0)), (1, .int x1), (2, .int x2), (3, .int x3), (4, .int x4), (5, .int x5_12)] []
    refine r_iload_n (pc := 80) C dX11_borderIn_80 rfl 3 rfl ?_
    refine r_iload (pc := 81) C dX11_borderIn_81 5 rfl ?_
    refine r_if_ne (pc := 83) (tgt := 100) C dX11_borderIn_83 rfl (fun c_13 => ?_) (fun c_13 => ?_)
    · replace hr := (if_neg c_13).symm.trans hr
      refine r_iconst (pc := 100) C dX11_borderIn_100 ki0 ?_
      refine r_ior (pc := 101) C dX11_borderIn_101 ?_
      obtain ⟨x3_14, ex3_14, hr⟩ := gLet_some hr
      refine r_istore_n (pc := 102) C dX11_borderIn_102 rfl (by decide) ex3_14 (ls' := [(3, .int x3_14), (0, .ref (gad 50 0)), (1, .int x1), (2, .int x2), (4, .int x4), (5, .int x5_12)]) rfl ?_
      obtain ⟨x4_15, ex4_15, hr⟩ := gLet_some hr
      refine r_iinc (pc := 103) C dX11_borderIn_103 4 rfl rfl (by decide) ex4_15 (ls' := [(4, .int x4_15), (3, .int x3_14), (0, .ref (gad 50 0)), (1, .int x1), (2, .int x2), (5, .int x5_12)]) rfl ?_
      refine r_goto (pc := 106) (tgt := 5) C dX11_borderIn_106 rfl ?_
      refine r_sub C [2, 3, 4, 1, 0] (ls' := [(0, .ref (gad 50 0)), (1, .int x1), (2, .int x2), (3, .int x3_14), (4, .int x4_15)]) rfl ?_
      exact hn (x3_14, x4_15) (gSome hr)
    · replace hr := (if_pos c_13).symm.trans hr
      refine r_aload_n (pc := 86) C dX11_borderIn_86 rfl 0 rfl ?_
      refine g50_31 (pc := 87) C dX11_borderIn_87 q1431 (e50 nf) ?_
      refine r_if_ne (pc := 90) (tgt := 100) C dX11_borderIn_90 rfl (fun c_16 => ?_) (fun c_16 => ?_)
      · replace hr := (if_neg c_16).symm.trans hr
        refine r_iconst (pc := 100) C dX11_borderIn_100 ki0 ?_
        refine r_ior (pc := 101) C dX11_borderIn_101 ?_
        obtain ⟨x3_17, ex3_17, hr⟩ := gLet_some hr
        refine r_istore_n (pc := 102) C dX11_borderIn_102 rfl (by decide) ex3_17 (ls' := [(3, .int x3_17), (0, .ref (gad 50 0)), (1, .int x1), (2, .int x2), (4, .int x4), (5, .int x5_12)]) rfl ?_
        obtain ⟨x4_18, ex4_18, hr⟩ := gLet_some hr
        refine r_iinc (pc := 103) C dX11_borderIn_103 4 rfl rfl (by decide) ex4_18 (ls' := [(4, .int x4_18), (3, .int x3_17), (0, .ref (gad 50 0)), (1, .int x1), (2, .int x2), (5, .int x5_12)]) rfl ?_
        refine r_goto (pc := 106) (tgt := 5) C dX11_borderIn_106 rfl ?_
        refine r_sub C [2, 3, 4, 1, 0] (ls' := [(0, .ref (gad 50 0)), (1, .int x1), (2, .int x2), (3, .int x3_17), (4, .int x4_18)]) rfl ?_
        exact hn (x3_17, x4_18) (gSome hr)
      · replace hr := (if_pos c_16).symm.trans hr
        refine r_iconst (pc := 93) C dX11_borderIn_93 ki1 ?_
        refine r_iload (pc := 94) C dX11_borderIn_94 4 rfl ?_
        refine r_ishl (pc := 96) C dX11_borderIn_96 ?_
        refine r_goto (pc := 97) (tgt := 101) C dX11_borderIn_97 rfl ?_
        refine r_ior (pc := 101) C dX11_borderIn_101 ?_
        obtain ⟨x3_19, ex3_19, hr⟩ := gLet_some hr
        refine r_istore_n (pc := 102) C dX11_borderIn_102 rfl (by decide) ex3_19 (ls' := [(3, .int x3_19), (0, .ref (gad 50 0)), (1, .int x1), (2, .int x2), (4, .int x4), (5, .int x5_12)]) rfl ?_
        obtain ⟨x4_20, ex4_20, hr⟩ := gLet_some hr
        refine r_iinc (pc := 103) C dX11_borderIn_103 4 rfl rfl (by decide) ex4_20 (ls' := [(4, .int x4_20), (3, .int x3_19), (0, .ref (gad 50 0)), (1, .int x1), (2, .int x2), (5, .int x5_12)]) rfl ?_
        refine r_goto (pc := 106) (tgt := 5) C dX11_borderIn_106 rfl ?_
        refine r_sub C [2, 3, 4, 1, 0] (ls' := [(0, .ref (gad 50 0)), (1, .int x1), (2, .int x2), (3, .int x3_19), (4, .int x4_20)]) rfl ?_
        exact hn (x3_19, x4_20) (gSome hr)
noncomputable def X11_borderIn (p1 : Int32) (p2 : Int32) (M : gM) : Option Int32 := (gIter (fun s => X11_borderIn_L5 p1 p2 s.1 s.2 M) FU (0, 0)).bind (fun x3_21 => some x3_21)
theorem k_X11_borderIn {G : gG5} {nf : Nat} {M : gM} {p1 : Int32} {p2 : Int32} {r : Int32} (hr : X11_borderIn p1 p2 M = some r) : gMet G (gXn nf) yX11_borderIn cX11_borderIn 8 (some .int) 1 25 M [.ref (gad 50 0), .int p1, .int p2] (some (.int r)) M := by
  refine gMet_of pl_X11 rfl (Nat.le_of_ble_eq_true rfl) (fun Ψ C CR => ?_)
  show Ψ M 0 [(0, .ref (gad 50 0)), (1, .int p1), (2, .int p2)] []
  refine r_iconst (pc := 0) C dX11_borderIn_0 ki0 ?_
  refine r_istore_n (pc := 1) C dX11_borderIn_1 rfl (by decide) rfl (ls' := [(3, .int 0), (0, .ref (gad 50 0)), (1, .int p1), (2, .int p2)]) rfl ?_
  refine r_iconst (pc := 2) C dX11_borderIn_2 ki0 ?_
  refine r_istore (pc := 3) C dX11_borderIn_3 (by decide) rfl (ls' := [(4, .int 0), (3, .int 0), (0, .ref (gad 50 0)), (1, .int p1), (2, .int p2)]) rfl ?_
  refine r_sub C [2, 3, 4, 1, 0] (ls' := [(0, .ref (gad 50 0)), (1, .int p1), (2, .int p2), (3, .int 0), (4, .int 0)]) rfl ?_
  obtain ⟨ev, hit, hr⟩ := gBind_some hr
  refine gIter_V (step := fun s => X11_borderIn_L5 p1 p2 s.1 s.2 M) (P := fun s => Ψ M 5 [(0, .ref (gad 50 0)), (1, .int p1), (2, .int p2), (3, .int (s.1)), (4, .int (s.2))] []) (K := (fun e => Ψ M 109 [(3, .int e)] [])) (fun s w hs hn hx => t_X11_borderIn_L5 C  hs hn hx) FU (0, 0) ev hit ?_
  obtain ⟨x3_21, rfl⟩ : ∃ z, z = ev := ⟨_, rfl⟩
  show Ψ M 109 [(3, .int x3_21)] []
  refine r_iload_n (pc := 109) C dX11_borderIn_109 rfl 0 rfl ?_
  exact r_iret (pc := 110) CR dX11_borderIn_110 (congrArg (fun z => some (Value.int z)) (gSome hr)) rfl
theorem c_X11_borderIn {Ψ : gM → Nat → List (Nat × Value) → List Value → Prop} {G : gG5} {nf : Nat} {cc : ByteArray} {own : String} {nL : Nat} {ret : Option FieldType} {fr lo : Nat} {v0 : Option Value} {M0 M : gM} {pc index : Nat} {ls : List (Nat × Value)} {st : List Value} (C : gC Ψ G (gXn nf) cc own nL ret fr lo v0 M0) (d : decode cc pc = .ok (.invokevirtual index, 3)) (hl : Cond.methodLink own index yX11_borderIn ∈ gws) (hR : 2 ≤ fr ∧ 52 ≤ lo) {p1 : Int32} {p2 : Int32} {r : Int32} (hr : X11_borderIn p1 p2 M = some r) (hcat : (st.map fun v => v.category).sum ≤ 8) (k : Ψ M (pc + 3) ls (.int r :: st)) : Ψ M pc ls (.int p2 :: .int p1 :: .ref (gad 50 0) :: st) := r_callV C [.int p1, .int p2] st d (k_X11_borderIn hr) hl q2018 q107 q127 q2019 hd_X11_borderIn hR rfl (by decide) (e50 nf) rfl hcat k
theorem hd_X11_laysMasks : yX11_laysMasks.cls ≠ "java/lang/invoke/MethodHandle" ∧ yX11_laysMasks.cls ≠ "java/lang/invoke/VarHandle" ∧ (parseMethodDescriptor yX11_laysMasks.desc).map (fun d => d.parameters.length) = some 1 := by decide +kernel
noncomputable def X11_laysMasks_L23 (x2 : Int32) (x3 : Int32) (M : gM) : Option ((Int32 × gM) ⊕ gM) := (if (M.1 52 2 0) ≤ x3 then some (.inr M) else (X11_maskOf x3 x2 M).bind (fun r_6 => gG (gin ((8 * x2) + x3) 64) (gLet (wI M 52 17 (Int32.toNatClampNeg ((8 * x2) + x3)) r_6) (fun M_8 => (X11_borderIn x3 x2 M_8).bind (fun r_10 => gG (gin ((8 * x2) + x3) 64) (gLet (wI M_8 52 18 (Int32.toNatClampNeg ((8 * x2) + x3)) r_10) (fun M_12 => gLet (x3 + 1) (fun x3_13 => some (.inl (x3_13, M_12))))))))))
theorem t_X11_laysMasks_L23 {Ψ : gM → Nat → List (Nat × Value) → List Value → Prop} {G : gG5} {nf : Nat} {M : gM} {v0 : Option Value} {M0 : gM} {x2 : Int32} {x3 : Int32} {w : ((Int32 × gM) ⊕ gM)} (C : gC Ψ G (gXn nf) cX11_laysMasks RX11 4 none 4 97 v0 M0) (hr : X11_laysMasks_L23 x2 x3 M = some w) (hn : ∀ s, w = .inl s → Ψ s.2 23 [(0, .ref (gad 50 0)), (2, .int x2), (3, .int (s.1))] []) (hx : ∀ e, w = .inr e → (fun e => Ψ e 73 [(0, .ref (gad 50 0)), (2, .int x2)] []) e) : Ψ M 23 [(0, .ref (gad 50 0)), (2, .int x2), (3, .int x3)] [] := by
  refine r_iload_n (pc := 23) C dX11_laysMasks_23 rfl 2 rfl ?_
  refine r_aload_n (pc := 24) C dX11_laysMasks_24 rfl 0 rfl ?_
  refine g50_9 (pc := 25) C dX11_laysMasks_25 q1409 (e50 nf) ?_
  refine r_iconst (pc := 28) C dX11_laysMasks_28 ki0 ?_
  refine r_ialdN (pc := 29) C dX11_laysMasks_29 rfl (e52 (nf := nf) (by decide)) (by decide : gin 0 9 = true) kc0 ?_
  refine r_icmp_ge (pc := 30) (tgt := 73) C dX11_laysMasks_30 rfl (fun c_4 => ?_) (fun c_4 => ?_)
  · replace hr := (if_pos c_4).symm.trans hr
    refine r_sub C [0, 1] (ls' := [(0, .ref (gad 50 0)), (2, .int x2)]) rfl ?_
    exact hx M (gSome hr)
  · replace hr := (if_neg c_4).symm.trans hr
    refine r_aload_n (pc := 33) C dX11_laysMasks_33 rfl 0 rfl ?_
    refine g50_35 (pc := 34) C dX11_laysMasks_34 q1435 (e50 nf) ?_
    refine r_bipush (pc := 37) C dX11_laysMasks_37 kb8 ?_
    refine r_iload_n (pc := 39) C dX11_laysMasks_39 rfl 1 rfl ?_
    refine r_imul (pc := 40) C dX11_laysMasks_40 ?_
    refine r_iload_n (pc := 41) C dX11_laysMasks_41 rfl 2 rfl ?_
    refine r_iadd (pc := 42) C dX11_laysMasks_42 ?_
    refine r_aload_n (pc := 43) C dX11_laysMasks_43 rfl 0 rfl ?_
    refine r_iload_n (pc := 44) C dX11_laysMasks_44 rfl 2 rfl ?_
    refine r_iload_n (pc := 45) C dX11_laysMasks_45 rfl 1 rfl ?_
    obtain ⟨r_6, hc_5, hr⟩ := gBind_some hr
    refine c_X11_maskOf (pc := 46) C dX11_laysMasks_46 q1903 ⟨Nat.le_of_ble_eq_true rfl, Nat.le_of_ble_eq_true rfl⟩ hc_5 (Nat.le_of_ble_eq_true rfl) ?_
    obtain ⟨g_7, hr⟩ := gG_some hr
    obtain ⟨M_8, eM_8, hr⟩ := gLet_some hr
    refine r_iastN (pc := 49) C dX11_laysMasks_49 rfl (e52 (nf := nf) (by decide)) g_7 rfl eM_8 ?_
    refine r_aload_n (pc := 50) C dX11_laysMasks_50 rfl 0 rfl ?_
    refine g50_36 (pc := 51) C dX11_laysMasks_51 q1436 (e50 nf) ?_
    refine r_bipush (pc := 54) C dX11_laysMasks_54 kb8 ?_
    refine r_iload_n (pc := 56) C dX11_laysMasks_56 rfl 1 rfl ?_
    refine r_imul (pc := 57) C dX11_laysMasks_57 ?_
    refine r_iload_n (pc := 58) C dX11_laysMasks_58 rfl 2 rfl ?_
    refine r_iadd (pc := 59) C dX11_laysMasks_59 ?_
    refine r_aload_n (pc := 60) C dX11_laysMasks_60 rfl 0 rfl ?_
    refine r_iload_n (pc := 61) C dX11_laysMasks_61 rfl 2 rfl ?_
    refine r_iload_n (pc := 62) C dX11_laysMasks_62 rfl 1 rfl ?_
    obtain ⟨r_10, hc_9, hr⟩ := gBind_some hr
    refine c_X11_borderIn (pc := 63) C dX11_laysMasks_63 q2016 ⟨Nat.le_of_ble_eq_true rfl, Nat.le_of_ble_eq_true rfl⟩ hc_9 (Nat.le_of_ble_eq_true rfl) ?_
    obtain ⟨g_11, hr⟩ := gG_some hr
    obtain ⟨M_12, eM_12, hr⟩ := gLet_some hr
    refine r_iastN (pc := 66) C dX11_laysMasks_66 rfl (e52 (nf := nf) (by decide)) g_11 rfl eM_12 ?_
    obtain ⟨x3_13, ex3_13, hr⟩ := gLet_some hr
    refine r_iinc (pc := 67) C dX11_laysMasks_67 2 rfl rfl (by decide) ex3_13 (ls' := [(3, .int x3_13), (0, .ref (gad 50 0)), (2, .int x2)]) rfl ?_
    refine r_goto (pc := 70) (tgt := 23) C dX11_laysMasks_70 rfl ?_
    refine r_sub C [1, 2, 0] (ls' := [(0, .ref (gad 50 0)), (2, .int x2), (3, .int x3_13)]) rfl ?_
    exact hn (x3_13, M_12) (gSome hr)
noncomputable def X11_laysMasks_L11 (x2 : Int32) (M : gM) : Option ((Int32 × gM) ⊕ gM) := (if (M.1 52 2 1) ≤ x2 then some (.inr M) else (gIter (fun s => X11_laysMasks_L23 x2 s.1 s.2) FU (0, M)).bind (fun M_14 => gLet (x2 + 1) (fun x2_15 => some (.inl (x2_15, M_14)))))
theorem t_X11_laysMasks_L11 {Ψ : gM → Nat → List (Nat × Value) → List Value → Prop} {G : gG5} {nf : Nat} {M : gM} {v0 : Option Value} {M0 : gM} {x2 : Int32} {w : ((Int32 × gM) ⊕ gM)} (C : gC Ψ G (gXn nf) cX11_laysMasks RX11 4 none 4 97 v0 M0) (hr : X11_laysMasks_L11 x2 M = some w) (hn : ∀ s, w = .inl s → Ψ s.2 11 [(0, .ref (gad 50 0)), (2, .int (s.1))] []) (hx : ∀ e, w = .inr e → (fun e => Ψ e 79 [] []) e) : Ψ M 11 [(0, .ref (gad 50 0)), (2, .int x2)] [] := by
  refine r_iload_n (pc := 11) C dX11_laysMasks_11 rfl 1 rfl ?_
  refine r_aload_n (pc := 12) C dX11_laysMasks_12 rfl 0 rfl ?_
  refine g50_9 (pc := 13) C dX11_laysMasks_13 q1409 (e50 nf) ?_
  refine r_iconst (pc := 16) C dX11_laysMasks_16 ki1 ?_
  refine r_ialdN (pc := 17) C dX11_laysMasks_17 rfl (e52 (nf := nf) (by decide)) (by decide : gin 1 9 = true) kc1 ?_
  refine r_icmp_ge (pc := 18) (tgt := 79) C dX11_laysMasks_18 rfl (fun c_3 => ?_) (fun c_3 => ?_)
  · replace hr := (if_pos c_3).symm.trans hr
    refine r_sub C [] (ls' := []) rfl ?_
    exact hx M (gSome hr)
  · replace hr := (if_neg c_3).symm.trans hr
    refine r_iconst (pc := 21) C dX11_laysMasks_21 ki0 ?_
    refine r_istore_n (pc := 22) C dX11_laysMasks_22 rfl (by decide) rfl (ls' := [(3, .int 0), (0, .ref (gad 50 0)), (2, .int x2)]) rfl ?_
    refine r_sub C [1, 2, 0] (ls' := [(0, .ref (gad 50 0)), (2, .int x2), (3, .int 0)]) rfl ?_
    obtain ⟨ev, hit, hr⟩ := gBind_some hr
    refine gIter_V (step := fun s => X11_laysMasks_L23 x2 s.1 s.2) (P := fun s => Ψ s.2 23 [(0, .ref (gad 50 0)), (2, .int x2), (3, .int (s.1))] []) (K := (fun e => Ψ e 73 [(0, .ref (gad 50 0)), (2, .int x2)] [])) (fun s w hs hn hx => t_X11_laysMasks_L23 C  hs hn hx) FU (0, M) ev hit ?_
    obtain ⟨M_14, rfl⟩ : ∃ z, z = ev := ⟨_, rfl⟩
    show Ψ M_14 73 [(0, .ref (gad 50 0)), (2, .int x2)] []
    obtain ⟨x2_15, ex2_15, hr⟩ := gLet_some hr
    refine r_iinc (pc := 73) C dX11_laysMasks_73 1 rfl rfl (by decide) ex2_15 (ls' := [(2, .int x2_15), (0, .ref (gad 50 0))]) rfl ?_
    refine r_goto (pc := 76) (tgt := 11) C dX11_laysMasks_76 rfl ?_
    refine r_sub C [1, 0] (ls' := [(0, .ref (gad 50 0)), (2, .int x2_15)]) rfl ?_
    exact hn (x2_15, M_14) (gSome hr)
noncomputable def X11_laysMasks (p1 : Int32) (M : gM) : Option gM := (X11_asks 8 p1 M).bind (fun M_2 => (gIter (fun s => X11_laysMasks_L11 s.1 s.2) FU (0, M_2)).bind (fun M_16 => some M_16))
theorem k_X11_laysMasks {G : gG5} {nf : Nat} {M : gM} {p1 : Int32} {M1 : gM} (hr : X11_laysMasks p1 M = some M1) : gMet G (gXn nf) yX11_laysMasks cX11_laysMasks 4 none 4 97 M [.ref (gad 50 0), .int p1] none M1 := by
  refine gMet_of pl_X11 rfl (Nat.le_of_ble_eq_true rfl) (fun Ψ C CR => ?_)
  show Ψ M 0 [(0, .ref (gad 50 0)), (1, .int p1)] []
  refine r_aload_n (pc := 0) C dX11_laysMasks_0 rfl 0 rfl ?_
  refine r_aload_n (pc := 1) C dX11_laysMasks_1 rfl 0 rfl ?_
  refine g50_18 (pc := 2) C dX11_laysMasks_2 q1418 (e50 nf) ?_
  refine r_iload_n (pc := 5) C dX11_laysMasks_5 rfl 1 rfl ?_
  obtain ⟨M_2, hc_1, hr⟩ := gBind_some hr
  refine c_X11_asks (pc := 6) C dX11_laysMasks_6 q1652 ⟨Nat.le_of_ble_eq_true rfl, Nat.le_of_ble_eq_true rfl⟩ (by decide) hc_1 (Nat.le_of_ble_eq_true rfl) ?_
  refine r_iconst (pc := 9) C dX11_laysMasks_9 ki0 ?_
  refine r_istore_n (pc := 10) C dX11_laysMasks_10 rfl (by decide) rfl (ls' := [(2, .int 0), (0, .ref (gad 50 0)), (1, .int p1)]) rfl ?_
  refine r_sub C [1, 0] (ls' := [(0, .ref (gad 50 0)), (2, .int 0)]) rfl ?_
  obtain ⟨ev, hit, hr⟩ := gBind_some hr
  refine gIter_V (step := fun s => X11_laysMasks_L11 s.1 s.2) (P := fun s => Ψ s.2 11 [(0, .ref (gad 50 0)), (2, .int (s.1))] []) (K := (fun e => Ψ e 79 [] [])) (fun s w hs hn hx => t_X11_laysMasks_L11 C  hs hn hx) FU (0, M_2) ev hit ?_
  obtain ⟨M_16, rfl⟩ : ∃ z, z = ev := ⟨_, rfl⟩
  show Ψ M_16 79 [] []
  exact r_vret (pc := 79) CR dX11_laysMasks_79 rfl (gSome hr)
theorem c_X11_laysMasks {Ψ : gM → Nat → List (Nat × Value) → List Value → Prop} {G : gG5} {nf : Nat} {cc : ByteArray} {own : String} {nL : Nat} {ret : Option FieldType} {fr lo : Nat} {v0 : Option Value} {M0 M : gM} {pc index : Nat} {ls : List (Nat × Value)} {st : List Value} (C : gC Ψ G (gXn nf) cc own nL ret fr lo v0 M0) (d : decode cc pc = .ok (.invokevirtual index, 3)) (hl : Cond.methodLink own index yX11_laysMasks ∈ gws) (hR : 5 ≤ fr ∧ 120 ≤ lo) {p1 : Int32} {M1 : gM} (hr : X11_laysMasks p1 M = some M1) (hcat : (st.map fun v => v.category).sum ≤ 8) (k : Ψ M1 (pc + 3) ls (st)) : Ψ M pc ls (.int p1 :: .ref (gad 50 0) :: st) := r_callV C [.int p1] st d (k_X11_laysMasks hr) hl q2014 q106 q127 q2015 hd_X11_laysMasks hR rfl (by decide) (e50 nf) rfl hcat k
theorem hd_X11_shared : yX11_shared.cls ≠ "java/lang/invoke/MethodHandle" ∧ yX11_shared.cls ≠ "java/lang/invoke/VarHandle" ∧ (parseMethodDescriptor yX11_shared.desc).map (fun d => d.parameters.length) = some 3 := by decide +kernel
noncomputable def X11_shared_L67 (x3 : Int32) (x5 : Int32) (x4 : Int32) (x6 : Int32) (M : gM) : Option ((Int32 × Int32) ⊕ Int32) := (if (M.1 52 2 0) ≤ x6 then some (.inr x4) else gG (gin ((8 * x5) + x6) 64) (gLet ((M.1 52 17 (Int32.toNatClampNeg ((8 * x5) + x6)))) (fun x7_18 => (X11_maskOf x6 x5 M).bind (fun r_20 => (if x3 = 0 then (X11_size (x7_18 &&& r_20) M).bind (fun r_27 => gLet ((x4 + r_27)) (fun x4_28 => gLet (x6 + 1) (fun x6_29 => some (.inl (x4_28, x6_29))))) else (X11_size (x7_18 ^^^ r_20) M).bind (fun r_23 => gLet ((x4 + r_23)) (fun x4_24 => gLet (x6 + 1) (fun x6_25 => some (.inl (x4_24, x6_25))))))))))
theorem t_X11_shared_L67 {Ψ : gM → Nat → List (Nat × Value) → List Value → Prop} {G : gG5} {nf : Nat} {M : gM} {v0 : Option Value} {M0 : gM} {x3 : Int32} {x5 : Int32} {x4 : Int32} {x6 : Int32} {w : ((Int32 × Int32) ⊕ Int32)} (C : gC Ψ G (gXn nf) cX11_shared RX11 9 (some .int) 5 120 v0 M0) (hr : X11_shared_L67 x3 x5 x4 x6 M = some w) (hn : ∀ s, w = .inl s → Ψ M 67 [(0, .ref (gad 50 0)), (3, .int x3), (4, .int (s.1)), (5, .int x5), (6, .int (s.2))] []) (hx : ∀ e, w = .inr e → (fun e => Ψ M 134 [(0, .ref (gad 50 0)), (3, .int x3), (4, .int e), (5, .int x5)] []) e) : Ψ M 67 [(0, .ref (gad 50 0)), (3, .int x3), (4, .int x4), (5, .int x5), (6, .int x6)] [] := by
  refine r_iload (pc := 67) C dX11_shared_67 4 rfl ?_
  refine r_aload_n (pc := 69) C dX11_shared_69 rfl 0 rfl ?_
  refine g50_9 (pc := 70) C dX11_shared_70 q1409 (e50 nf) ?_
  refine r_iconst (pc := 73) C dX11_shared_73 ki0 ?_
  refine r_ialdN (pc := 74) C dX11_shared_74 rfl (e52 (nf := nf) (by decide)) (by decide : gin 0 9 = true) kc0 ?_
  refine r_icmp_ge (pc := 75) (tgt := 134) C dX11_shared_75 rfl (fun c_16 => ?_) (fun c_16 => ?_)
  · replace hr := (if_pos c_16).symm.trans hr
    refine r_sub C [0, 1, 2, 3] (ls' := [(0, .ref (gad 50 0)), (3, .int x3), (4, .int x4), (5, .int x5)]) rfl ?_
    exact hx x4 (gSome hr)
  · replace hr := (if_neg c_16).symm.trans hr
    refine r_aload_n (pc := 78) C dX11_shared_78 rfl 0 rfl ?_
    refine g50_35 (pc := 79) C dX11_shared_79 q1435 (e50 nf) ?_
    refine r_bipush (pc := 82) C dX11_shared_82 kb8 ?_
    refine r_iload (pc := 84) C dX11_shared_84 3 rfl ?_
    refine r_imul (pc := 86) C dX11_shared_86 ?_
    refine r_iload (pc := 87) C dX11_shared_87 4 rfl ?_
    refine r_iadd (pc := 89) C dX11_shared_89 ?_
    obtain ⟨g_17, hr⟩ := gG_some hr
    refine r_ialdN (pc := 90) C dX11_shared_90 rfl (e52 (nf := nf) (by decide)) g_17 rfl ?_
    obtain ⟨x7_18, ex7_18, hr⟩ := gLet_some hr
    refine r_istore (pc := 91) C dX11_shared_91 (by decide) ex7_18 (ls' := [(7, .int x7_18), (0, .ref (gad 50 0)), (3, .int x3), (4, .int x4), (5, .int x5), (6, .int x6)]) rfl ?_
    refine r_aload_n (pc := 93) C dX11_shared_93 rfl 1 rfl ?_
    refine r_iload (pc := 94) C dX11_shared_94 5 rfl ?_
    refine r_iload (pc := 96) C dX11_shared_96 4 rfl ?_
    obtain ⟨r_20, hc_19, hr⟩ := gBind_some hr
    refine c_X11_maskOf (pc := 98) C dX11_shared_98 q1903 ⟨Nat.le_of_ble_eq_true rfl, Nat.le_of_ble_eq_true rfl⟩ hc_19 (Nat.le_of_ble_eq_true rfl) ?_
    refine r_istore (pc := 101) C dX11_shared_101 (by decide) rfl (ls' := [(8, .int r_20), (7, .int x7_18), (0, .ref (gad 50 0)), (3, .int x3), (4, .int x4), (5, .int x5), (6, .int x6)]) rfl ?_
    refine r_iload (pc := 103) C dX11_shared_103 4 rfl ?_
    refine r_iload_n (pc := 105) C dX11_shared_105 rfl 3 rfl ?_
    refine r_if_ne (pc := 106) (tgt := 117) C dX11_shared_106 rfl (fun c_21 => ?_) (fun c_21 => ?_)
    · replace hr := (if_neg c_21).symm.trans hr
      refine r_iload (pc := 117) C dX11_shared_117 1 rfl ?_
      refine r_iload (pc := 119) C dX11_shared_119 0 rfl ?_
      refine r_ixor (pc := 121) C dX11_shared_121 ?_
      obtain ⟨r_23, hc_22, hr⟩ := gBind_some hr
      refine c_X11_size (pc := 122) C dX11_shared_122 q1780 ⟨Nat.le_of_ble_eq_true rfl, Nat.le_of_ble_eq_true rfl⟩ hc_22 (Nat.le_of_ble_eq_true rfl) ?_
      refine r_iadd (pc := 125) C dX11_shared_125 ?_
      obtain ⟨x4_24, ex4_24, hr⟩ := gLet_some hr
      refine r_istore (pc := 126) C dX11_shared_126 (by decide) ex4_24 (ls' := [(4, .int x4_24), (8, .int r_20), (7, .int x7_18), (0, .ref (gad 50 0)), (3, .int x3), (5, .int x5), (6, .int x6)]) rfl ?_
      obtain ⟨x6_25, ex6_25, hr⟩ := gLet_some hr
      refine r_iinc (pc := 128) C dX11_shared_128 6 rfl rfl (by decide) ex6_25 (ls' := [(6, .int x6_25), (4, .int x4_24), (8, .int r_20), (7, .int x7_18), (0, .ref (gad 50 0)), (3, .int x3), (5, .int x5)]) rfl ?_
      refine r_goto (pc := 131) (tgt := 67) C dX11_shared_131 rfl ?_
      refine r_sub C [4, 5, 1, 6, 0] (ls' := [(0, .ref (gad 50 0)), (3, .int x3), (4, .int x4_24), (5, .int x5), (6, .int x6_25)]) rfl ?_
      exact hn (x4_24, x6_25) (gSome hr)
    · replace hr := (if_pos c_21).symm.trans hr
      refine r_iload (pc := 109) C dX11_shared_109 1 rfl ?_
      refine r_iload (pc := 111) C dX11_shared_111 0 rfl ?_
      refine r_iand (pc := 113) C dX11_shared_113 ?_
      refine r_goto (pc := 114) (tgt := 122) C dX11_shared_114 rfl ?_
      obtain ⟨r_27, hc_26, hr⟩ := gBind_some hr
      refine c_X11_size (pc := 122) C dX11_shared_122 q1780 ⟨Nat.le_of_ble_eq_true rfl, Nat.le_of_ble_eq_true rfl⟩ hc_26 (Nat.le_of_ble_eq_true rfl) ?_
      refine r_iadd (pc := 125) C dX11_shared_125 ?_
      obtain ⟨x4_28, ex4_28, hr⟩ := gLet_some hr
      refine r_istore (pc := 126) C dX11_shared_126 (by decide) ex4_28 (ls' := [(4, .int x4_28), (8, .int r_20), (7, .int x7_18), (0, .ref (gad 50 0)), (3, .int x3), (5, .int x5), (6, .int x6)]) rfl ?_
      obtain ⟨x6_29, ex6_29, hr⟩ := gLet_some hr
      refine r_iinc (pc := 128) C dX11_shared_128 6 rfl rfl (by decide) ex6_29 (ls' := [(6, .int x6_29), (4, .int x4_28), (8, .int r_20), (7, .int x7_18), (0, .ref (gad 50 0)), (3, .int x3), (5, .int x5)]) rfl ?_
      refine r_goto (pc := 131) (tgt := 67) C dX11_shared_131 rfl ?_
      refine r_sub C [4, 5, 1, 6, 0] (ls' := [(0, .ref (gad 50 0)), (3, .int x3), (4, .int x4_28), (5, .int x5), (6, .int x6_29)]) rfl ?_
      exact hn (x4_28, x6_29) (gSome hr)
noncomputable def X11_shared_L53 (x3 : Int32) (x4 : Int32) (x5 : Int32) (M : gM) : Option ((Int32 × Int32) ⊕ Int32) := (if (M.1 52 2 1) ≤ x5 then some (.inr x4) else (gIter (fun s => X11_shared_L67 x3 x5 s.1 s.2 M) FU (x4, 0)).bind (fun x4_30 => gLet (x5 + 1) (fun x5_31 => some (.inl (x4_30, x5_31)))))
theorem t_X11_shared_L53 {Ψ : gM → Nat → List (Nat × Value) → List Value → Prop} {G : gG5} {nf : Nat} {M : gM} {v0 : Option Value} {M0 : gM} {x3 : Int32} {x4 : Int32} {x5 : Int32} {w : ((Int32 × Int32) ⊕ Int32)} (C : gC Ψ G (gXn nf) cX11_shared RX11 9 (some .int) 5 120 v0 M0) (hr : X11_shared_L53 x3 x4 x5 M = some w) (hn : ∀ s, w = .inl s → Ψ M 53 [(0, .ref (gad 50 0)), (3, .int x3), (4, .int (s.1)), (5, .int (s.2))] []) (hx : ∀ e, w = .inr e → (fun e => Ψ M 140 [(4, .int e)] []) e) : Ψ M 53 [(0, .ref (gad 50 0)), (3, .int x3), (4, .int x4), (5, .int x5)] [] := by
  refine r_iload (pc := 53) C dX11_shared_53 3 rfl ?_
  refine r_aload_n (pc := 55) C dX11_shared_55 rfl 0 rfl ?_
  refine g50_9 (pc := 56) C dX11_shared_56 q1409 (e50 nf) ?_
  refine r_iconst (pc := 59) C dX11_shared_59 ki1 ?_
  refine r_ialdN (pc := 60) C dX11_shared_60 rfl (e52 (nf := nf) (by decide)) (by decide : gin 1 9 = true) kc1 ?_
  refine r_icmp_ge (pc := 61) (tgt := 140) C dX11_shared_61 rfl (fun c_15 => ?_) (fun c_15 => ?_)
  · replace hr := (if_pos c_15).symm.trans hr
    refine r_sub C [2] (ls' := [(4, .int x4)]) rfl ?_
    exact hx x4 (gSome hr)
  · replace hr := (if_neg c_15).symm.trans hr
    refine r_iconst (pc := 64) C dX11_shared_64 ki0 ?_
    refine r_istore (pc := 65) C dX11_shared_65 (by decide) rfl (ls' := [(6, .int 0), (0, .ref (gad 50 0)), (3, .int x3), (4, .int x4), (5, .int x5)]) rfl ?_
    refine r_sub C [1, 2, 3, 4, 0] (ls' := [(0, .ref (gad 50 0)), (3, .int x3), (4, .int x4), (5, .int x5), (6, .int 0)]) rfl ?_
    obtain ⟨ev, hit, hr⟩ := gBind_some hr
    refine gIter_V (step := fun s => X11_shared_L67 x3 x5 s.1 s.2 M) (P := fun s => Ψ M 67 [(0, .ref (gad 50 0)), (3, .int x3), (4, .int (s.1)), (5, .int x5), (6, .int (s.2))] []) (K := (fun e => Ψ M 134 [(0, .ref (gad 50 0)), (3, .int x3), (4, .int e), (5, .int x5)] [])) (fun s w hs hn hx => t_X11_shared_L67 C  hs hn hx) FU (x4, 0) ev hit ?_
    obtain ⟨x4_30, rfl⟩ : ∃ z, z = ev := ⟨_, rfl⟩
    show Ψ M 134 [(0, .ref (gad 50 0)), (3, .int x3), (4, .int x4_30), (5, .int x5)] []
    obtain ⟨x5_31, ex5_31, hr⟩ := gLet_some hr
    refine r_iinc (pc := 134) C dX11_shared_134 3 rfl rfl (by decide) ex5_31 (ls' := [(5, .int x5_31), (0, .ref (gad 50 0)), (3, .int x3), (4, .int x4_30)]) rfl ?_
    refine r_goto (pc := 137) (tgt := 53) C dX11_shared_137 rfl ?_
    refine r_sub C [1, 2, 3, 0] (ls' := [(0, .ref (gad 50 0)), (3, .int x3), (4, .int x4_30), (5, .int x5_31)]) rfl ?_
    exact hn (x4_30, x5_31) (gSome hr)
noncomputable def X11_shared (p1 : Int32) (p2 : Int32) (p3 : Int32) (M : gM) : Option (Int32 × gM) := gLet (wI M 50 0 0 0) (fun M_1 => (X11_isTri p1 M_1).bind (fun r_3 => (if r_3 = 0 then some ((-1), M_1) else (X11_isTri p2 M_1).bind (fun r_6 => (if r_6 = 0 then some ((-1), M_1) else (X11_isIn (Int32.toInt64 p3) 0 1 M_1).bind (fun r_9 => (if r_9 = 0 then some ((-1), M_1) else (X11_laysMasks p1 M_1).bind (fun M_12 => (X11_asks 8 p2 M_12).bind (fun M_14 => (gIter (fun s => X11_shared_L53 p3 s.1 s.2 M_14) FU (0, 0)).bind (fun x4_32 => some (x4_32, M_14)))))))))))
theorem k_X11_shared {G : gG5} {nf : Nat} {M : gM} {p1 : Int32} {p2 : Int32} {p3 : Int32} {r : Int32} {M1 : gM} (hr : X11_shared p1 p2 p3 M = some (r, M1)) : gMet G (gXn nf) yX11_shared cX11_shared 9 (some .int) 5 120 M [.ref (gad 50 0), .int p1, .int p2, .int p3] (some (.int r)) M1 := by
  refine gMet_of pl_X11 rfl (Nat.le_of_ble_eq_true rfl) (fun Ψ C CR => ?_)
  show Ψ M 0 [(0, .ref (gad 50 0)), (1, .int p1), (2, .int p2), (3, .int p3)] []
  refine r_aload_n (pc := 0) C dX11_shared_0 rfl 0 rfl ?_
  refine r_iconst (pc := 1) C dX11_shared_1 ki0 ?_
  obtain ⟨M_1, eM_1, hr⟩ := gLet_some hr
  refine p50_0 (pc := 2) C dX11_shared_2 q1400 (e50 nf) eM_1 ?_
  refine r_aload_n (pc := 5) C dX11_shared_5 rfl 0 rfl ?_
  refine r_iload_n (pc := 6) C dX11_shared_6 rfl 1 rfl ?_
  obtain ⟨r_3, hc_2, hr⟩ := gBind_some hr
  refine c_X11_isTri (pc := 7) C dX11_shared_7 q1644 ⟨Nat.le_of_ble_eq_true rfl, Nat.le_of_ble_eq_true rfl⟩ hc_2 (Nat.le_of_ble_eq_true rfl) ?_
  refine r_if_eq (pc := 10) (tgt := 31) C dX11_shared_10 rfl (fun c_4 => ?_) (fun c_4 => ?_)
  · replace hr := (if_pos c_4).symm.trans hr
    refine r_iconst (pc := 31) C dX11_shared_31 kim1 ?_
    exact r_iret (pc := 32) CR dX11_shared_32 (congrArg (fun z => some (Value.int z)) (Prod.mk.inj (gSome hr)).1) (Prod.mk.inj (gSome hr)).2
  · replace hr := (if_neg c_4).symm.trans hr
    refine r_aload_n (pc := 13) C dX11_shared_13 rfl 0 rfl ?_
    refine r_iload_n (pc := 14) C dX11_shared_14 rfl 2 rfl ?_
    obtain ⟨r_6, hc_5, hr⟩ := gBind_some hr
    refine c_X11_isTri (pc := 15) C dX11_shared_15 q1644 ⟨Nat.le_of_ble_eq_true rfl, Nat.le_of_ble_eq_true rfl⟩ hc_5 (Nat.le_of_ble_eq_true rfl) ?_
    refine r_if_eq (pc := 18) (tgt := 31) C dX11_shared_18 rfl (fun c_7 => ?_) (fun c_7 => ?_)
    · replace hr := (if_pos c_7).symm.trans hr
      refine r_iconst (pc := 31) C dX11_shared_31 kim1 ?_
      exact r_iret (pc := 32) CR dX11_shared_32 (congrArg (fun z => some (Value.int z)) (Prod.mk.inj (gSome hr)).1) (Prod.mk.inj (gSome hr)).2
    · replace hr := (if_neg c_7).symm.trans hr
      refine r_iload_n (pc := 21) C dX11_shared_21 rfl 3 rfl ?_
      refine r_i2l (pc := 22) C dX11_shared_22 ?_
      refine r_lconst (pc := 23) (v := 0) C dX11_shared_23 rfl ?_
      refine r_lconst (pc := 24) (v := 1) C dX11_shared_24 rfl ?_
      obtain ⟨r_9, hc_8, hr⟩ := gBind_some hr
      refine c_X11_isIn (pc := 25) C dX11_shared_25 q1538 ⟨Nat.le_of_ble_eq_true rfl, Nat.le_of_ble_eq_true rfl⟩ hc_8 (Nat.le_of_ble_eq_true rfl) ?_
      refine r_if_ne (pc := 28) (tgt := 33) C dX11_shared_28 rfl (fun c_10 => ?_) (fun c_10 => ?_)
      · replace hr := (if_neg c_10).symm.trans hr
        refine r_aload_n (pc := 33) C dX11_shared_33 rfl 0 rfl ?_
        refine r_iload_n (pc := 34) C dX11_shared_34 rfl 1 rfl ?_
        obtain ⟨M_12, hc_11, hr⟩ := gBind_some hr
        refine c_X11_laysMasks (pc := 35) C dX11_shared_35 q2012 ⟨Nat.le_of_ble_eq_true rfl, Nat.le_of_ble_eq_true rfl⟩ hc_11 (Nat.le_of_ble_eq_true rfl) ?_
        refine r_aload_n (pc := 38) C dX11_shared_38 rfl 0 rfl ?_
        refine r_aload_n (pc := 39) C dX11_shared_39 rfl 0 rfl ?_
        refine g50_18 (pc := 40) C dX11_shared_40 q1418 (e50 nf) ?_
        refine r_iload_n (pc := 43) C dX11_shared_43 rfl 2 rfl ?_
        obtain ⟨M_14, hc_13, hr⟩ := gBind_some hr
        refine c_X11_asks (pc := 44) C dX11_shared_44 q1652 ⟨Nat.le_of_ble_eq_true rfl, Nat.le_of_ble_eq_true rfl⟩ (by decide) hc_13 (Nat.le_of_ble_eq_true rfl) ?_
        refine r_iconst (pc := 47) C dX11_shared_47 ki0 ?_
        refine r_istore (pc := 48) C dX11_shared_48 (by decide) rfl (ls' := [(4, .int 0), (0, .ref (gad 50 0)), (1, .int p1), (2, .int p2), (3, .int p3)]) rfl ?_
        refine r_iconst (pc := 50) C dX11_shared_50 ki0 ?_
        refine r_istore (pc := 51) C dX11_shared_51 (by decide) rfl (ls' := [(5, .int 0), (4, .int 0), (0, .ref (gad 50 0)), (1, .int p1), (2, .int p2), (3, .int p3)]) rfl ?_
        refine r_sub C [2, 5, 1, 0] (ls' := [(0, .ref (gad 50 0)), (3, .int p3), (4, .int 0), (5, .int 0)]) rfl ?_
        obtain ⟨ev, hit, hr⟩ := gBind_some hr
        refine gIter_V (step := fun s => X11_shared_L53 p3 s.1 s.2 M_14) (P := fun s => Ψ M_14 53 [(0, .ref (gad 50 0)), (3, .int p3), (4, .int (s.1)), (5, .int (s.2))] []) (K := (fun e => Ψ M_14 140 [(4, .int e)] [])) (fun s w hs hn hx => t_X11_shared_L53 C  hs hn hx) FU (0, 0) ev hit ?_
        obtain ⟨x4_32, rfl⟩ : ∃ z, z = ev := ⟨_, rfl⟩
        show Ψ M_14 140 [(4, .int x4_32)] []
        refine r_iload (pc := 140) C dX11_shared_140 0 rfl ?_
        exact r_iret (pc := 142) CR dX11_shared_142 (congrArg (fun z => some (Value.int z)) (Prod.mk.inj (gSome hr)).1) (Prod.mk.inj (gSome hr)).2
      · replace hr := (if_pos c_10).symm.trans hr
        refine r_iconst (pc := 31) C dX11_shared_31 kim1 ?_
        exact r_iret (pc := 32) CR dX11_shared_32 (congrArg (fun z => some (Value.int z)) (Prod.mk.inj (gSome hr)).1) (Prod.mk.inj (gSome hr)).2
theorem c_X11_shared {Ψ : gM → Nat → List (Nat × Value) → List Value → Prop} {G : gG5} {nf : Nat} {cc : ByteArray} {own : String} {nL : Nat} {ret : Option FieldType} {fr lo : Nat} {v0 : Option Value} {M0 M : gM} {pc index : Nat} {ls : List (Nat × Value)} {st : List Value} (C : gC Ψ G (gXn nf) cc own nL ret fr lo v0 M0) (d : decode cc pc = .ok (.invokevirtual index, 3)) (hl : Cond.methodLink own index yX11_shared ∈ gws) (hR : 6 ≤ fr ∧ 148 ≤ lo) {p1 : Int32} {p2 : Int32} {p3 : Int32} {r : Int32} {M1 : gM} (hr : X11_shared p1 p2 p3 M = some (r, M1)) (hcat : (st.map fun v => v.category).sum ≤ 8) (k : Ψ M1 (pc + 3) ls (.int r :: st)) : Ψ M pc ls (.int p3 :: .int p2 :: .int p1 :: .ref (gad 50 0) :: st) := r_callV C [.int p1, .int p2, .int p3] st d (k_X11_shared hr) hl q2009 q2010 q127 q2011 hd_X11_shared hR rfl (by decide) (e50 nf) rfl hcat k
theorem hd_X11_border : yX11_border.cls ≠ "java/lang/invoke/MethodHandle" ∧ yX11_border.cls ≠ "java/lang/invoke/VarHandle" ∧ (parseMethodDescriptor yX11_border.desc).map (fun d => d.parameters.length) = some 3 := by decide +kernel
noncomputable def X11_border_L69 (x3 : Int32) (x5 : Int32) (x4 : Int32) (x6 : Int32) (M : gM) : Option ((Int32 × Int32) ⊕ Int32) := (if (M.1 52 2 0) ≤ x6 then some (.inr x4) else gG (gin ((8 * x5) + x6) 64) ((X11_borderIn x6 x5 M).bind (fun r_19 => gLet (((M.1 52 18 (Int32.toNatClampNeg ((8 * x5) + x6))) &&& r_19)) (fun x7_20 => gG (gin ((8 * x5) + x6) 64) (gLet ((M.1 52 17 (Int32.toNatClampNeg ((8 * x5) + x6)))) (fun x8_22 => (X11_maskOf x6 x5 M).bind (fun r_24 => (if x3 = 0 then (X11_size x7_20 M).bind (fun r_36 => gLet ((x4 + r_36)) (fun x4_37 => gLet (x6 + 1) (fun x6_38 => some (.inl (x4_37, x6_38))))) else (if x3 = 1 then (X11_size (x7_20 &&& (x8_22 ^^^ r_24)) M).bind (fun r_32 => gLet ((x4 + r_32)) (fun x4_33 => gLet (x6 + 1) (fun x6_34 => some (.inl (x4_33, x6_34))))) else (X11_size ((x7_20 &&& x8_22) &&& r_24) M).bind (fun r_28 => gLet ((x4 + r_28)) (fun x4_29 => gLet (x6 + 1) (fun x6_30 => some (.inl (x4_29, x6_30))))))))))))))
theorem t_X11_border_L69 {Ψ : gM → Nat → List (Nat × Value) → List Value → Prop} {G : gG5} {nf : Nat} {M : gM} {v0 : Option Value} {M0 : gM} {x3 : Int32} {x5 : Int32} {x4 : Int32} {x6 : Int32} {w : ((Int32 × Int32) ⊕ Int32)} (C : gC Ψ G (gXn nf) cX11_border RX11 10 (some .int) 5 120 v0 M0) (hr : X11_border_L69 x3 x5 x4 x6 M = some w) (hn : ∀ s, w = .inl s → Ψ M 69 [(0, .ref (gad 50 0)), (3, .int x3), (4, .int (s.1)), (5, .int x5), (6, .int (s.2))] []) (hx : ∀ e, w = .inr e → (fun e => Ψ M 176 [(0, .ref (gad 50 0)), (3, .int x3), (4, .int e), (5, .int x5)] []) e) : Ψ M 69 [(0, .ref (gad 50 0)), (3, .int x3), (4, .int x4), (5, .int x5), (6, .int x6)] [] := by
  refine r_iload (pc := 69) C dX11_border_69 4 rfl ?_
  refine r_aload_n (pc := 71) C dX11_border_71 rfl 0 rfl ?_
  refine g50_9 (pc := 72) C dX11_border_72 q1409 (e50 nf) ?_
  refine r_iconst (pc := 75) C dX11_border_75 ki0 ?_
  refine r_ialdN (pc := 76) C dX11_border_76 rfl (e52 (nf := nf) (by decide)) (by decide : gin 0 9 = true) kc0 ?_
  refine r_icmp_ge (pc := 77) (tgt := 176) C dX11_border_77 rfl (fun c_16 => ?_) (fun c_16 => ?_)
  · replace hr := (if_pos c_16).symm.trans hr
    refine r_sub C [0, 1, 2, 3] (ls' := [(0, .ref (gad 50 0)), (3, .int x3), (4, .int x4), (5, .int x5)]) rfl ?_
    exact hx x4 (gSome hr)
  · replace hr := (if_neg c_16).symm.trans hr
    refine r_aload_n (pc := 80) C dX11_border_80 rfl 0 rfl ?_
    refine g50_36 (pc := 81) C dX11_border_81 q1436 (e50 nf) ?_
    refine r_bipush (pc := 84) C dX11_border_84 kb8 ?_
    refine r_iload (pc := 86) C dX11_border_86 3 rfl ?_
    refine r_imul (pc := 88) C dX11_border_88 ?_
    refine r_iload (pc := 89) C dX11_border_89 4 rfl ?_
    refine r_iadd (pc := 91) C dX11_border_91 ?_
    obtain ⟨g_17, hr⟩ := gG_some hr
    refine r_ialdN (pc := 92) C dX11_border_92 rfl (e52 (nf := nf) (by decide)) g_17 rfl ?_
    refine r_aload_n (pc := 93) C dX11_border_93 rfl 0 rfl ?_
    refine r_iload (pc := 94) C dX11_border_94 4 rfl ?_
    refine r_iload (pc := 96) C dX11_border_96 3 rfl ?_
    obtain ⟨r_19, hc_18, hr⟩ := gBind_some hr
    refine c_X11_borderIn (pc := 98) C dX11_border_98 q2016 ⟨Nat.le_of_ble_eq_true rfl, Nat.le_of_ble_eq_true rfl⟩ hc_18 (Nat.le_of_ble_eq_true rfl) ?_
    refine r_iand (pc := 101) C dX11_border_101 ?_
    obtain ⟨x7_20, ex7_20, hr⟩ := gLet_some hr
    refine r_istore (pc := 102) C dX11_border_102 (by decide) ex7_20 (ls' := [(7, .int x7_20), (0, .ref (gad 50 0)), (3, .int x3), (4, .int x4), (5, .int x5), (6, .int x6)]) rfl ?_
    refine r_aload_n (pc := 104) C dX11_border_104 rfl 1 rfl ?_
    refine g50_35 (pc := 105) C dX11_border_105 q1435 (e50 nf) ?_
    refine r_bipush (pc := 108) C dX11_border_108 kb8 ?_
    refine r_iload (pc := 110) C dX11_border_110 4 rfl ?_
    refine r_imul (pc := 112) C dX11_border_112 ?_
    refine r_iload (pc := 113) C dX11_border_113 5 rfl ?_
    refine r_iadd (pc := 115) C dX11_border_115 ?_
    obtain ⟨g_21, hr⟩ := gG_some hr
    refine r_ialdN (pc := 116) C dX11_border_116 rfl (e52 (nf := nf) (by decide)) g_21 rfl ?_
    obtain ⟨x8_22, ex8_22, hr⟩ := gLet_some hr
    refine r_istore (pc := 117) C dX11_border_117 (by decide) ex8_22 (ls' := [(8, .int x8_22), (7, .int x7_20), (0, .ref (gad 50 0)), (3, .int x3), (4, .int x4), (5, .int x5), (6, .int x6)]) rfl ?_
    refine r_aload_n (pc := 119) C dX11_border_119 rfl 2 rfl ?_
    refine r_iload (pc := 120) C dX11_border_120 6 rfl ?_
    refine r_iload (pc := 122) C dX11_border_122 5 rfl ?_
    obtain ⟨r_24, hc_23, hr⟩ := gBind_some hr
    refine c_X11_maskOf (pc := 124) C dX11_border_124 q1903 ⟨Nat.le_of_ble_eq_true rfl, Nat.le_of_ble_eq_true rfl⟩ hc_23 (Nat.le_of_ble_eq_true rfl) ?_
    refine r_istore (pc := 127) C dX11_border_127 (by decide) rfl (ls' := [(9, .int r_24), (8, .int x8_22), (7, .int x7_20), (0, .ref (gad 50 0)), (3, .int x3), (4, .int x4), (5, .int x5), (6, .int x6)]) rfl ?_
    refine r_iload (pc := 129) C dX11_border_129 5 rfl ?_
    refine r_iload_n (pc := 131) C dX11_border_131 rfl 4 rfl ?_
    refine r_if_ne (pc := 132) (tgt := 140) C dX11_border_132 rfl (fun c_25 => ?_) (fun c_25 => ?_)
    · replace hr := (if_neg c_25).symm.trans hr
      refine r_iload_n (pc := 140) C dX11_border_140 rfl 4 rfl ?_
      refine r_iconst (pc := 141) C dX11_border_141 ki1 ?_
      refine r_icmp_ne (pc := 142) (tgt := 156) C dX11_border_142 rfl (fun c_26 => ?_) (fun c_26 => ?_)
      · replace hr := (if_neg c_26).symm.trans hr
        refine r_iload (pc := 156) C dX11_border_156 2 rfl ?_
        refine r_iload (pc := 158) C dX11_border_158 1 rfl ?_
        refine r_iand (pc := 160) C dX11_border_160 ?_
        refine r_iload (pc := 161) C dX11_border_161 0 rfl ?_
        refine r_iand (pc := 163) C dX11_border_163 ?_
        obtain ⟨r_28, hc_27, hr⟩ := gBind_some hr
        refine c_X11_size (pc := 164) C dX11_border_164 q1780 ⟨Nat.le_of_ble_eq_true rfl, Nat.le_of_ble_eq_true rfl⟩ hc_27 (Nat.le_of_ble_eq_true rfl) ?_
        refine r_iadd (pc := 167) C dX11_border_167 ?_
        obtain ⟨x4_29, ex4_29, hr⟩ := gLet_some hr
        refine r_istore (pc := 168) C dX11_border_168 (by decide) ex4_29 (ls' := [(4, .int x4_29), (9, .int r_24), (8, .int x8_22), (7, .int x7_20), (0, .ref (gad 50 0)), (3, .int x3), (5, .int x5), (6, .int x6)]) rfl ?_
        obtain ⟨x6_30, ex6_30, hr⟩ := gLet_some hr
        refine r_iinc (pc := 170) C dX11_border_170 7 rfl rfl (by decide) ex6_30 (ls' := [(6, .int x6_30), (4, .int x4_29), (9, .int r_24), (8, .int x8_22), (7, .int x7_20), (0, .ref (gad 50 0)), (3, .int x3), (5, .int x5)]) rfl ?_
        refine r_goto (pc := 173) (tgt := 69) C dX11_border_173 rfl ?_
        refine r_sub C [5, 6, 1, 7, 0] (ls' := [(0, .ref (gad 50 0)), (3, .int x3), (4, .int x4_29), (5, .int x5), (6, .int x6_30)]) rfl ?_
        exact hn (x4_29, x6_30) (gSome hr)
      · replace hr := (if_pos c_26).symm.trans hr
        refine r_iload (pc := 145) C dX11_border_145 2 rfl ?_
        refine r_iload (pc := 147) C dX11_border_147 1 rfl ?_
        refine r_iload (pc := 149) C dX11_border_149 0 rfl ?_
        refine r_ixor (pc := 151) C dX11_border_151 ?_
        refine r_iand (pc := 152) C dX11_border_152 ?_
        refine r_goto (pc := 153) (tgt := 164) C dX11_border_153 rfl ?_
        obtain ⟨r_32, hc_31, hr⟩ := gBind_some hr
        refine c_X11_size (pc := 164) C dX11_border_164 q1780 ⟨Nat.le_of_ble_eq_true rfl, Nat.le_of_ble_eq_true rfl⟩ hc_31 (Nat.le_of_ble_eq_true rfl) ?_
        refine r_iadd (pc := 167) C dX11_border_167 ?_
        obtain ⟨x4_33, ex4_33, hr⟩ := gLet_some hr
        refine r_istore (pc := 168) C dX11_border_168 (by decide) ex4_33 (ls' := [(4, .int x4_33), (9, .int r_24), (8, .int x8_22), (7, .int x7_20), (0, .ref (gad 50 0)), (3, .int x3), (5, .int x5), (6, .int x6)]) rfl ?_
        obtain ⟨x6_34, ex6_34, hr⟩ := gLet_some hr
        refine r_iinc (pc := 170) C dX11_border_170 7 rfl rfl (by decide) ex6_34 (ls' := [(6, .int x6_34), (4, .int x4_33), (9, .int r_24), (8, .int x8_22), (7, .int x7_20), (0, .ref (gad 50 0)), (3, .int x3), (5, .int x5)]) rfl ?_
        refine r_goto (pc := 173) (tgt := 69) C dX11_border_173 rfl ?_
        refine r_sub C [5, 6, 1, 7, 0] (ls' := [(0, .ref (gad 50 0)), (3, .int x3), (4, .int x4_33), (5, .int x5), (6, .int x6_34)]) rfl ?_
        exact hn (x4_33, x6_34) (gSome hr)
    · replace hr := (if_pos c_25).symm.trans hr
      refine r_iload (pc := 135) C dX11_border_135 2 rfl ?_
      refine r_goto (pc := 137) (tgt := 164) C dX11_border_137 rfl ?_
      obtain ⟨r_36, hc_35, hr⟩ := gBind_some hr
      refine c_X11_size (pc := 164) C dX11_border_164 q1780 ⟨Nat.le_of_ble_eq_true rfl, Nat.le_of_ble_eq_true rfl⟩ hc_35 (Nat.le_of_ble_eq_true rfl) ?_
      refine r_iadd (pc := 167) C dX11_border_167 ?_
      obtain ⟨x4_37, ex4_37, hr⟩ := gLet_some hr
      refine r_istore (pc := 168) C dX11_border_168 (by decide) ex4_37 (ls' := [(4, .int x4_37), (9, .int r_24), (8, .int x8_22), (7, .int x7_20), (0, .ref (gad 50 0)), (3, .int x3), (5, .int x5), (6, .int x6)]) rfl ?_
      obtain ⟨x6_38, ex6_38, hr⟩ := gLet_some hr
      refine r_iinc (pc := 170) C dX11_border_170 7 rfl rfl (by decide) ex6_38 (ls' := [(6, .int x6_38), (4, .int x4_37), (9, .int r_24), (8, .int x8_22), (7, .int x7_20), (0, .ref (gad 50 0)), (3, .int x3), (5, .int x5)]) rfl ?_
      refine r_goto (pc := 173) (tgt := 69) C dX11_border_173 rfl ?_
      refine r_sub C [5, 6, 1, 7, 0] (ls' := [(0, .ref (gad 50 0)), (3, .int x3), (4, .int x4_37), (5, .int x5), (6, .int x6_38)]) rfl ?_
      exact hn (x4_37, x6_38) (gSome hr)
noncomputable def X11_border_L55 (x3 : Int32) (x4 : Int32) (x5 : Int32) (M : gM) : Option ((Int32 × Int32) ⊕ Int32) := (if (M.1 52 2 1) ≤ x5 then some (.inr x4) else (gIter (fun s => X11_border_L69 x3 x5 s.1 s.2 M) FU (x4, 0)).bind (fun x4_39 => gLet (x5 + 1) (fun x5_40 => some (.inl (x4_39, x5_40)))))
theorem t_X11_border_L55 {Ψ : gM → Nat → List (Nat × Value) → List Value → Prop} {G : gG5} {nf : Nat} {M : gM} {v0 : Option Value} {M0 : gM} {x3 : Int32} {x4 : Int32} {x5 : Int32} {w : ((Int32 × Int32) ⊕ Int32)} (C : gC Ψ G (gXn nf) cX11_border RX11 10 (some .int) 5 120 v0 M0) (hr : X11_border_L55 x3 x4 x5 M = some w) (hn : ∀ s, w = .inl s → Ψ M 55 [(0, .ref (gad 50 0)), (3, .int x3), (4, .int (s.1)), (5, .int (s.2))] []) (hx : ∀ e, w = .inr e → (fun e => Ψ M 182 [(4, .int e)] []) e) : Ψ M 55 [(0, .ref (gad 50 0)), (3, .int x3), (4, .int x4), (5, .int x5)] [] := by
  refine r_iload (pc := 55) C dX11_border_55 3 rfl ?_
  refine r_aload_n (pc := 57) C dX11_border_57 rfl 0 rfl ?_
  refine g50_9 (pc := 58) C dX11_border_58 q1409 (e50 nf) ?_
  refine r_iconst (pc := 61) C dX11_border_61 ki1 ?_
  refine r_ialdN (pc := 62) C dX11_border_62 rfl (e52 (nf := nf) (by decide)) (by decide : gin 1 9 = true) kc1 ?_
  refine r_icmp_ge (pc := 63) (tgt := 182) C dX11_border_63 rfl (fun c_15 => ?_) (fun c_15 => ?_)
  · replace hr := (if_pos c_15).symm.trans hr
    refine r_sub C [2] (ls' := [(4, .int x4)]) rfl ?_
    exact hx x4 (gSome hr)
  · replace hr := (if_neg c_15).symm.trans hr
    refine r_iconst (pc := 66) C dX11_border_66 ki0 ?_
    refine r_istore (pc := 67) C dX11_border_67 (by decide) rfl (ls' := [(6, .int 0), (0, .ref (gad 50 0)), (3, .int x3), (4, .int x4), (5, .int x5)]) rfl ?_
    refine r_sub C [1, 2, 3, 4, 0] (ls' := [(0, .ref (gad 50 0)), (3, .int x3), (4, .int x4), (5, .int x5), (6, .int 0)]) rfl ?_
    obtain ⟨ev, hit, hr⟩ := gBind_some hr
    refine gIter_V (step := fun s => X11_border_L69 x3 x5 s.1 s.2 M) (P := fun s => Ψ M 69 [(0, .ref (gad 50 0)), (3, .int x3), (4, .int (s.1)), (5, .int x5), (6, .int (s.2))] []) (K := (fun e => Ψ M 176 [(0, .ref (gad 50 0)), (3, .int x3), (4, .int e), (5, .int x5)] [])) (fun s w hs hn hx => t_X11_border_L69 C  hs hn hx) FU (x4, 0) ev hit ?_
    obtain ⟨x4_39, rfl⟩ : ∃ z, z = ev := ⟨_, rfl⟩
    show Ψ M 176 [(0, .ref (gad 50 0)), (3, .int x3), (4, .int x4_39), (5, .int x5)] []
    obtain ⟨x5_40, ex5_40, hr⟩ := gLet_some hr
    refine r_iinc (pc := 176) C dX11_border_176 3 rfl rfl (by decide) ex5_40 (ls' := [(5, .int x5_40), (0, .ref (gad 50 0)), (3, .int x3), (4, .int x4_39)]) rfl ?_
    refine r_goto (pc := 179) (tgt := 55) C dX11_border_179 rfl ?_
    refine r_sub C [1, 2, 3, 0] (ls' := [(0, .ref (gad 50 0)), (3, .int x3), (4, .int x4_39), (5, .int x5_40)]) rfl ?_
    exact hn (x4_39, x5_40) (gSome hr)
noncomputable def X11_border (p1 : Int32) (p2 : Int32) (p3 : Int32) (M : gM) : Option (Int32 × gM) := gLet (wI M 50 0 0 0) (fun M_1 => (X11_isTri p1 M_1).bind (fun r_3 => (if r_3 = 0 then some ((-1), M_1) else (X11_isTri p2 M_1).bind (fun r_6 => (if r_6 = 0 then some ((-1), M_1) else (X11_isIn (Int32.toInt64 p3) 0 2 M_1).bind (fun r_9 => (if r_9 = 0 then some ((-1), M_1) else (X11_laysMasks p1 M_1).bind (fun M_12 => (X11_asks 8 p2 M_12).bind (fun M_14 => (gIter (fun s => X11_border_L55 p3 s.1 s.2 M_14) FU (0, 0)).bind (fun x4_41 => some (x4_41, M_14)))))))))))
theorem k_X11_border {G : gG5} {nf : Nat} {M : gM} {p1 : Int32} {p2 : Int32} {p3 : Int32} {r : Int32} {M1 : gM} (hr : X11_border p1 p2 p3 M = some (r, M1)) : gMet G (gXn nf) yX11_border cX11_border 10 (some .int) 5 120 M [.ref (gad 50 0), .int p1, .int p2, .int p3] (some (.int r)) M1 := by
  refine gMet_of pl_X11 rfl (Nat.le_of_ble_eq_true rfl) (fun Ψ C CR => ?_)
  show Ψ M 0 [(0, .ref (gad 50 0)), (1, .int p1), (2, .int p2), (3, .int p3)] []
  refine r_aload_n (pc := 0) C dX11_border_0 rfl 0 rfl ?_
  refine r_iconst (pc := 1) C dX11_border_1 ki0 ?_
  obtain ⟨M_1, eM_1, hr⟩ := gLet_some hr
  refine p50_0 (pc := 2) C dX11_border_2 q1400 (e50 nf) eM_1 ?_
  refine r_aload_n (pc := 5) C dX11_border_5 rfl 0 rfl ?_
  refine r_iload_n (pc := 6) C dX11_border_6 rfl 1 rfl ?_
  obtain ⟨r_3, hc_2, hr⟩ := gBind_some hr
  refine c_X11_isTri (pc := 7) C dX11_border_7 q1644 ⟨Nat.le_of_ble_eq_true rfl, Nat.le_of_ble_eq_true rfl⟩ hc_2 (Nat.le_of_ble_eq_true rfl) ?_
  refine r_if_eq (pc := 10) (tgt := 33) C dX11_border_10 rfl (fun c_4 => ?_) (fun c_4 => ?_)
  · replace hr := (if_pos c_4).symm.trans hr
    refine r_iconst (pc := 33) C dX11_border_33 kim1 ?_
    exact r_iret (pc := 34) CR dX11_border_34 (congrArg (fun z => some (Value.int z)) (Prod.mk.inj (gSome hr)).1) (Prod.mk.inj (gSome hr)).2
  · replace hr := (if_neg c_4).symm.trans hr
    refine r_aload_n (pc := 13) C dX11_border_13 rfl 0 rfl ?_
    refine r_iload_n (pc := 14) C dX11_border_14 rfl 2 rfl ?_
    obtain ⟨r_6, hc_5, hr⟩ := gBind_some hr
    refine c_X11_isTri (pc := 15) C dX11_border_15 q1644 ⟨Nat.le_of_ble_eq_true rfl, Nat.le_of_ble_eq_true rfl⟩ hc_5 (Nat.le_of_ble_eq_true rfl) ?_
    refine r_if_eq (pc := 18) (tgt := 33) C dX11_border_18 rfl (fun c_7 => ?_) (fun c_7 => ?_)
    · replace hr := (if_pos c_7).symm.trans hr
      refine r_iconst (pc := 33) C dX11_border_33 kim1 ?_
      exact r_iret (pc := 34) CR dX11_border_34 (congrArg (fun z => some (Value.int z)) (Prod.mk.inj (gSome hr)).1) (Prod.mk.inj (gSome hr)).2
    · replace hr := (if_neg c_7).symm.trans hr
      refine r_iload_n (pc := 21) C dX11_border_21 rfl 3 rfl ?_
      refine r_i2l (pc := 22) C dX11_border_22 ?_
      refine r_lconst (pc := 23) (v := 0) C dX11_border_23 rfl ?_
      refine r_ldc2 (pc := 24) C dX11_border_24 q1607 ?_
      obtain ⟨r_9, hc_8, hr⟩ := gBind_some hr
      refine c_X11_isIn (pc := 27) C dX11_border_27 q1538 ⟨Nat.le_of_ble_eq_true rfl, Nat.le_of_ble_eq_true rfl⟩ hc_8 (Nat.le_of_ble_eq_true rfl) ?_
      refine r_if_ne (pc := 30) (tgt := 35) C dX11_border_30 rfl (fun c_10 => ?_) (fun c_10 => ?_)
      · replace hr := (if_neg c_10).symm.trans hr
        refine r_aload_n (pc := 35) C dX11_border_35 rfl 0 rfl ?_
        refine r_iload_n (pc := 36) C dX11_border_36 rfl 1 rfl ?_
        obtain ⟨M_12, hc_11, hr⟩ := gBind_some hr
        refine c_X11_laysMasks (pc := 37) C dX11_border_37 q2012 ⟨Nat.le_of_ble_eq_true rfl, Nat.le_of_ble_eq_true rfl⟩ hc_11 (Nat.le_of_ble_eq_true rfl) ?_
        refine r_aload_n (pc := 40) C dX11_border_40 rfl 0 rfl ?_
        refine r_aload_n (pc := 41) C dX11_border_41 rfl 0 rfl ?_
        refine g50_18 (pc := 42) C dX11_border_42 q1418 (e50 nf) ?_
        refine r_iload_n (pc := 45) C dX11_border_45 rfl 2 rfl ?_
        obtain ⟨M_14, hc_13, hr⟩ := gBind_some hr
        refine c_X11_asks (pc := 46) C dX11_border_46 q1652 ⟨Nat.le_of_ble_eq_true rfl, Nat.le_of_ble_eq_true rfl⟩ (by decide) hc_13 (Nat.le_of_ble_eq_true rfl) ?_
        refine r_iconst (pc := 49) C dX11_border_49 ki0 ?_
        refine r_istore (pc := 50) C dX11_border_50 (by decide) rfl (ls' := [(4, .int 0), (0, .ref (gad 50 0)), (1, .int p1), (2, .int p2), (3, .int p3)]) rfl ?_
        refine r_iconst (pc := 52) C dX11_border_52 ki0 ?_
        refine r_istore (pc := 53) C dX11_border_53 (by decide) rfl (ls' := [(5, .int 0), (4, .int 0), (0, .ref (gad 50 0)), (1, .int p1), (2, .int p2), (3, .int p3)]) rfl ?_
        refine r_sub C [2, 5, 1, 0] (ls' := [(0, .ref (gad 50 0)), (3, .int p3), (4, .int 0), (5, .int 0)]) rfl ?_
        obtain ⟨ev, hit, hr⟩ := gBind_some hr
        refine gIter_V (step := fun s => X11_border_L55 p3 s.1 s.2 M_14) (P := fun s => Ψ M_14 55 [(0, .ref (gad 50 0)), (3, .int p3), (4, .int (s.1)), (5, .int (s.2))] []) (K := (fun e => Ψ M_14 182 [(4, .int e)] [])) (fun s w hs hn hx => t_X11_border_L55 C  hs hn hx) FU (0, 0) ev hit ?_
        obtain ⟨x4_41, rfl⟩ : ∃ z, z = ev := ⟨_, rfl⟩
        show Ψ M_14 182 [(4, .int x4_41)] []
        refine r_iload (pc := 182) C dX11_border_182 0 rfl ?_
        exact r_iret (pc := 184) CR dX11_border_184 (congrArg (fun z => some (Value.int z)) (Prod.mk.inj (gSome hr)).1) (Prod.mk.inj (gSome hr)).2
      · replace hr := (if_pos c_10).symm.trans hr
        refine r_iconst (pc := 33) C dX11_border_33 kim1 ?_
        exact r_iret (pc := 34) CR dX11_border_34 (congrArg (fun z => some (Value.int z)) (Prod.mk.inj (gSome hr)).1) (Prod.mk.inj (gSome hr)).2
theorem c_X11_border {Ψ : gM → Nat → List (Nat × Value) → List Value → Prop} {G : gG5} {nf : Nat} {cc : ByteArray} {own : String} {nL : Nat} {ret : Option FieldType} {fr lo : Nat} {v0 : Option Value} {M0 M : gM} {pc index : Nat} {ls : List (Nat × Value)} {st : List Value} (C : gC Ψ G (gXn nf) cc own nL ret fr lo v0 M0) (d : decode cc pc = .ok (.invokevirtual index, 3)) (hl : Cond.methodLink own index yX11_border ∈ gws) (hR : 6 ≤ fr ∧ 149 ≤ lo) {p1 : Int32} {p2 : Int32} {p3 : Int32} {r : Int32} {M1 : gM} (hr : X11_border p1 p2 p3 M = some (r, M1)) (hcat : (st.map fun v => v.category).sum ≤ 8) (k : Ψ M1 (pc + 3) ls (.int r :: st)) : Ψ M pc ls (.int p3 :: .int p2 :: .int p1 :: .ref (gad 50 0) :: st) := r_callV C [.int p1, .int p2, .int p3] st d (k_X11_border hr) hl q2021 q2022 q127 q2023 hd_X11_border hR rfl (by decide) (e50 nf) rfl hcat k
theorem hd_X11_inOrder : yX11_inOrder.cls ≠ "java/lang/invoke/MethodHandle" ∧ yX11_inOrder.cls ≠ "java/lang/invoke/VarHandle" ∧ (parseMethodDescriptor yX11_inOrder.desc).map (fun d => d.parameters.length) = some 3 := by decide +kernel
noncomputable def X11_inOrder_L12 (x2 : Int32) (x3 : Int32) (x4 : Int32) (x5 : Int32) (x6 : Int32) (x7 : Int32) (M : gM) : Option ((Int32 × Int32) ⊕ Int32) := (if x2 ≤ x7 then some (.inr x6) else gLet ((x6 * x7)) (fun x6_2 => gLet (x7 + 1) (fun x7_3 => some (.inl (x6_2, x7_3)))))
theorem t_X11_inOrder_L12 {Ψ : gM → Nat → List (Nat × Value) → List Value → Prop} {G : gG5} {nf : Nat} {M : gM} {v0 : Option Value} {M0 : gM} {x2 : Int32} {x3 : Int32} {x4 : Int32} {x5 : Int32} {x6 : Int32} {x7 : Int32} {w : ((Int32 × Int32) ⊕ Int32)} (C : gC Ψ G (gXn nf) cX11_inOrder RX11 10 (some .int) 1 21 v0 M0) (hr : X11_inOrder_L12 x2 x3 x4 x5 x6 x7 M = some w) (hn : ∀ s, w = .inl s → Ψ M 12 [(2, .int x2), (3, .int x3), (4, .int x4), (5, .int x5), (6, .int (s.1)), (7, .int (s.2))] []) (hx : ∀ e, w = .inr e → (fun e => Ψ M 31 [(2, .int x2), (3, .int x3), (4, .int x4), (5, .int x5), (6, .int e)] []) e) : Ψ M 12 [(2, .int x2), (3, .int x3), (4, .int x4), (5, .int x5), (6, .int x6), (7, .int x7)] [] := by
  refine r_iload (pc := 12) C dX11_inOrder_12 5 rfl ?_
  refine r_iload_n (pc := 14) C dX11_inOrder_14 rfl 0 rfl ?_
  refine r_icmp_ge (pc := 15) (tgt := 31) C dX11_inOrder_15 rfl (fun c_1 => ?_) (fun c_1 => ?_)
  · replace hr := (if_pos c_1).symm.trans hr
    refine r_sub C [0, 1, 2, 3, 4] (ls' := [(2, .int x2), (3, .int x3), (4, .int x4), (5, .int x5), (6, .int x6)]) rfl ?_
    exact hx x6 (gSome hr)
  · replace hr := (if_neg c_1).symm.trans hr
    refine r_iload (pc := 18) C dX11_inOrder_18 4 rfl ?_
    refine r_iload (pc := 20) C dX11_inOrder_20 5 rfl ?_
    refine r_imul (pc := 22) C dX11_inOrder_22 ?_
    obtain ⟨x6_2, ex6_2, hr⟩ := gLet_some hr
    refine r_istore (pc := 23) C dX11_inOrder_23 (by decide) ex6_2 (ls' := [(6, .int x6_2), (2, .int x2), (3, .int x3), (4, .int x4), (5, .int x5), (7, .int x7)]) rfl ?_
    obtain ⟨x7_3, ex7_3, hr⟩ := gLet_some hr
    refine r_iinc (pc := 25) C dX11_inOrder_25 5 rfl rfl (by decide) ex7_3 (ls' := [(7, .int x7_3), (6, .int x6_2), (2, .int x2), (3, .int x3), (4, .int x4), (5, .int x5)]) rfl ?_
    refine r_goto (pc := 28) (tgt := 12) C dX11_inOrder_28 rfl ?_
    refine r_sub C [2, 3, 4, 5, 1, 0] (ls' := [(2, .int x2), (3, .int x3), (4, .int x4), (5, .int x5), (6, .int x6_2), (7, .int x7_3)]) rfl ?_
    exact hn (x6_2, x7_3) (gSome hr)
noncomputable def X11_inOrder_J75 (x2 : Int32) (x3 : Int32) (x4 : Int32) (x5 : Int32) (x6 : Int32) (x7 : Int32) (x8 : Int32) (x9 : Int32) (M : gM) : Option ((Int32 × Int32) ⊕ Int32) := (X11_has x4 x7 M).bind (fun r_14 => (if r_14 = 0 then gLet ((x9 - 1)) (fun x9_16 => gLet (x7 + 1) (fun x7_17 => some (.inl (x7_17, x9_16)))) else gLet ((x9 - 0)) (fun x9_18 => gLet (x7 + 1) (fun x7_19 => some (.inl (x7_19, x9_18))))))
theorem t_X11_inOrder_J75 {Ψ : gM → Nat → List (Nat × Value) → List Value → Prop} {G : gG5} {nf : Nat} {M : gM} {v0 : Option Value} {M0 : gM} {x2 : Int32} {x3 : Int32} {x4 : Int32} {x5 : Int32} {x6 : Int32} {x7 : Int32} {x8 : Int32} {x9 : Int32} {w : ((Int32 × Int32) ⊕ Int32)} (C : gC Ψ G (gXn nf) cX11_inOrder RX11 10 (some .int) 1 21 v0 M0) (hr : X11_inOrder_J75 x2 x3 x4 x5 x6 x7 x8 x9 M = some w) (hn : ∀ s, w = .inl s → Ψ M 60 [(2, .int x2), (3, .int x3), (4, .int x4), (5, .int x5), (6, .int x6), (7, .int (s.1)), (8, .int x8), (9, .int (s.2))] []) (hx : ∀ e, w = .inr e → (fun e => Ψ M 101 [(2, .int x2), (3, .int x3), (4, .int x4), (5, .int x5), (6, .int x6), (7, .int e), (8, .int x8)] []) e) : Ψ M 75 [(2, .int x2), (3, .int x3), (4, .int x4), (5, .int x5), (6, .int x6), (7, .int x7), (8, .int x8), (9, .int x9)] [] := by
  refine r_iload (pc := 75) C dX11_inOrder_75 7 rfl ?_
  refine r_iload (pc := 77) C dX11_inOrder_77 2 rfl ?_
  refine r_iload (pc := 79) C dX11_inOrder_79 5 rfl ?_
  obtain ⟨r_14, hc_13, hr⟩ := gBind_some hr
  refine c_X11_has (pc := 81) C dX11_inOrder_81 q1576 ⟨Nat.le_of_ble_eq_true rfl, Nat.le_of_ble_eq_true rfl⟩ hc_13 (Nat.le_of_ble_eq_true rfl) ?_
  refine r_if_eq (pc := 84) (tgt := 91) C dX11_inOrder_84 rfl (fun c_15 => ?_) (fun c_15 => ?_)
  · replace hr := (if_pos c_15).symm.trans hr
    refine r_iconst (pc := 91) C dX11_inOrder_91 ki1 ?_
    refine r_isub (pc := 92) C dX11_inOrder_92 ?_
    obtain ⟨x9_16, ex9_16, hr⟩ := gLet_some hr
    refine r_istore (pc := 93) C dX11_inOrder_93 (by decide) ex9_16 (ls' := [(9, .int x9_16), (2, .int x2), (3, .int x3), (4, .int x4), (5, .int x5), (6, .int x6), (7, .int x7), (8, .int x8)]) rfl ?_
    obtain ⟨x7_17, ex7_17, hr⟩ := gLet_some hr
    refine r_iinc (pc := 95) C dX11_inOrder_95 6 rfl rfl (by decide) ex7_17 (ls' := [(7, .int x7_17), (9, .int x9_16), (2, .int x2), (3, .int x3), (4, .int x4), (5, .int x5), (6, .int x6), (8, .int x8)]) rfl ?_
    refine r_goto (pc := 98) (tgt := 60) C dX11_inOrder_98 rfl ?_
    refine r_sub C [2, 3, 4, 5, 6, 0, 7, 1] (ls' := [(2, .int x2), (3, .int x3), (4, .int x4), (5, .int x5), (6, .int x6), (7, .int x7_17), (8, .int x8), (9, .int x9_16)]) rfl ?_
    exact hn (x7_17, x9_16) (gSome hr)
  · replace hr := (if_neg c_15).symm.trans hr
    refine r_iconst (pc := 87) C dX11_inOrder_87 ki0 ?_
    refine r_goto (pc := 88) (tgt := 92) C dX11_inOrder_88 rfl ?_
    refine r_isub (pc := 92) C dX11_inOrder_92 ?_
    obtain ⟨x9_18, ex9_18, hr⟩ := gLet_some hr
    refine r_istore (pc := 93) C dX11_inOrder_93 (by decide) ex9_18 (ls' := [(9, .int x9_18), (2, .int x2), (3, .int x3), (4, .int x4), (5, .int x5), (6, .int x6), (7, .int x7), (8, .int x8)]) rfl ?_
    obtain ⟨x7_19, ex7_19, hr⟩ := gLet_some hr
    refine r_iinc (pc := 95) C dX11_inOrder_95 6 rfl rfl (by decide) ex7_19 (ls' := [(7, .int x7_19), (9, .int x9_18), (2, .int x2), (3, .int x3), (4, .int x4), (5, .int x5), (6, .int x6), (8, .int x8)]) rfl ?_
    refine r_goto (pc := 98) (tgt := 60) C dX11_inOrder_98 rfl ?_
    refine r_sub C [2, 3, 4, 5, 6, 0, 7, 1] (ls' := [(2, .int x2), (3, .int x3), (4, .int x4), (5, .int x5), (6, .int x6), (7, .int x7_19), (8, .int x8), (9, .int x9_18)]) rfl ?_
    exact hn (x7_19, x9_18) (gSome hr)
noncomputable def X11_inOrder_L60 (x2 : Int32) (x3 : Int32) (x4 : Int32) (x5 : Int32) (x6 : Int32) (x8 : Int32) (x7 : Int32) (x9 : Int32) (M : gM) : Option ((Int32 × Int32) ⊕ Int32) := (X11_has x4 x7 M).bind (fun r_11 => (if r_11 = 0 then (if x9 ≤ 0 then some (.inr x7) else X11_inOrder_J75 x2 x3 x4 x5 x6 x7 x8 x9 M) else X11_inOrder_J75 x2 x3 x4 x5 x6 x7 x8 x9 M))
theorem t_X11_inOrder_L60 {Ψ : gM → Nat → List (Nat × Value) → List Value → Prop} {G : gG5} {nf : Nat} {M : gM} {v0 : Option Value} {M0 : gM} {x2 : Int32} {x3 : Int32} {x4 : Int32} {x5 : Int32} {x6 : Int32} {x8 : Int32} {x7 : Int32} {x9 : Int32} {w : ((Int32 × Int32) ⊕ Int32)} (C : gC Ψ G (gXn nf) cX11_inOrder RX11 10 (some .int) 1 21 v0 M0) (hr : X11_inOrder_L60 x2 x3 x4 x5 x6 x8 x7 x9 M = some w) (hn : ∀ s, w = .inl s → Ψ M 60 [(2, .int x2), (3, .int x3), (4, .int x4), (5, .int x5), (6, .int x6), (7, .int (s.1)), (8, .int x8), (9, .int (s.2))] []) (hx : ∀ e, w = .inr e → (fun e => Ψ M 101 [(2, .int x2), (3, .int x3), (4, .int x4), (5, .int x5), (6, .int x6), (7, .int e), (8, .int x8)] []) e) : Ψ M 60 [(2, .int x2), (3, .int x3), (4, .int x4), (5, .int x5), (6, .int x6), (7, .int x7), (8, .int x8), (9, .int x9)] [] := by
  refine r_iload (pc := 60) C dX11_inOrder_60 2 rfl ?_
  refine r_iload (pc := 62) C dX11_inOrder_62 5 rfl ?_
  obtain ⟨r_11, hc_10, hr⟩ := gBind_some hr
  refine c_X11_has (pc := 64) C dX11_inOrder_64 q1576 ⟨Nat.le_of_ble_eq_true rfl, Nat.le_of_ble_eq_true rfl⟩ hc_10 (Nat.le_of_ble_eq_true rfl) ?_
  refine r_if_ne (pc := 67) (tgt := 75) C dX11_inOrder_67 rfl (fun c_12 => ?_) (fun c_12 => ?_)
  · replace hr := (if_neg c_12).symm.trans hr
    exact t_X11_inOrder_J75 C  hr hn hx
  · replace hr := (if_pos c_12).symm.trans hr
    refine r_iload (pc := 70) C dX11_inOrder_70 7 rfl ?_
    refine r_if_le (pc := 72) (tgt := 101) C dX11_inOrder_72 rfl (fun c_20 => ?_) (fun c_20 => ?_)
    · replace hr := (if_pos c_20).symm.trans hr
      refine r_sub C [0, 1, 2, 3, 4, 5, 6] (ls' := [(2, .int x2), (3, .int x3), (4, .int x4), (5, .int x5), (6, .int x6), (7, .int x7), (8, .int x8)]) rfl ?_
      exact hx x7 (gSome hr)
    · replace hr := (if_neg c_20).symm.trans hr
      exact t_X11_inOrder_J75 C  hr hn hx
noncomputable def X11_inOrder_L37 (x2 : Int32) (x3 : Int32) (x4 : Int32) (x5 : Int32) (x6 : Int32) (x7 : Int32) (x8 : Int32) (M : gM) : Option ((Int32 × Int32 × Int32 × Int32 × Int32) ⊕ Int32) := (if x3 < x8 then some (.inr x7) else gG (decide (¬ x6 = 0)) (gLet ((x5 / x6)) (fun x9_7 => gG (decide (¬ x6 = 0)) (gLet ((gRem x5 x6)) (fun x5_9 => (gIter (fun s => X11_inOrder_L60 x2 x3 x4 x5_9 x6 x8 s.1 s.2 M) FU (0, x9_7)).bind (fun x7_21 => gLet ((x4 ||| (1 <<< (x7_21 &&& 31)))) (fun x4_22 => (if ((x2 - 1) - x8) ≤ 1 then gLet (x8 + 1) (fun x8_24 => some (.inl (x4_22, x5_9, 1, x7_21, x8_24))) else gG (decide (¬ ((x2 - 1) - x8) = 0)) (gLet ((x6 / ((x2 - 1) - x8))) (fun x6_26 => gLet (x8 + 1) (fun x8_27 => some (.inl (x4_22, x5_9, x6_26, x7_21, x8_27)))))))))))))
theorem t_X11_inOrder_L37 {Ψ : gM → Nat → List (Nat × Value) → List Value → Prop} {G : gG5} {nf : Nat} {M : gM} {v0 : Option Value} {M0 : gM} {x2 : Int32} {x3 : Int32} {x4 : Int32} {x5 : Int32} {x6 : Int32} {x7 : Int32} {x8 : Int32} {w : ((Int32 × Int32 × Int32 × Int32 × Int32) ⊕ Int32)} (C : gC Ψ G (gXn nf) cX11_inOrder RX11 10 (some .int) 1 21 v0 M0) (hr : X11_inOrder_L37 x2 x3 x4 x5 x6 x7 x8 M = some w) (hn : ∀ s, w = .inl s → Ψ M 37 [(2, .int x2), (3, .int x3), (4, .int (s.1)), (5, .int (s.2.1)), (6, .int (s.2.2.1)), (7, .int (s.2.2.2.1)), (8, .int (s.2.2.2.2))] []) (hx : ∀ e, w = .inr e → (fun e => Ψ M 141 [(7, .int e)] []) e) : Ψ M 37 [(2, .int x2), (3, .int x3), (4, .int x4), (5, .int x5), (6, .int x6), (7, .int x7), (8, .int x8)] [] := by
  refine r_iload (pc := 37) C dX11_inOrder_37 6 rfl ?_
  refine r_iload_n (pc := 39) C dX11_inOrder_39 rfl 1 rfl ?_
  refine r_icmp_gt (pc := 40) (tgt := 141) C dX11_inOrder_40 rfl (fun c_5 => ?_) (fun c_5 => ?_)
  · replace hr := (if_pos c_5).symm.trans hr
    refine r_sub C [5] (ls' := [(7, .int x7)]) rfl ?_
    exact hx x7 (gSome hr)
  · replace hr := (if_neg c_5).symm.trans hr
    refine r_iload (pc := 43) C dX11_inOrder_43 3 rfl ?_
    refine r_iload (pc := 45) C dX11_inOrder_45 4 rfl ?_
    obtain ⟨g_6, hr⟩ := gG_some hr
    refine r_idiv (pc := 47) C dX11_inOrder_47 (of_decide_eq_true g_6) ?_
    obtain ⟨x9_7, ex9_7, hr⟩ := gLet_some hr
    refine r_istore (pc := 48) C dX11_inOrder_48 (by decide) ex9_7 (ls' := [(9, .int x9_7), (2, .int x2), (3, .int x3), (4, .int x4), (5, .int x5), (6, .int x6), (7, .int x7), (8, .int x8)]) rfl ?_
    refine r_iload (pc := 50) C dX11_inOrder_50 4 rfl ?_
    refine r_iload (pc := 52) C dX11_inOrder_52 5 rfl ?_
    obtain ⟨g_8, hr⟩ := gG_some hr
    refine r_irem (pc := 54) C dX11_inOrder_54 (of_decide_eq_true g_8) ?_
    obtain ⟨x5_9, ex5_9, hr⟩ := gLet_some hr
    refine r_istore (pc := 55) C dX11_inOrder_55 (by decide) ex5_9 (ls' := [(5, .int x5_9), (9, .int x9_7), (2, .int x2), (3, .int x3), (4, .int x4), (6, .int x6), (7, .int x7), (8, .int x8)]) rfl ?_
    refine r_iconst (pc := 57) C dX11_inOrder_57 ki0 ?_
    refine r_istore (pc := 58) C dX11_inOrder_58 (by decide) rfl (ls' := [(7, .int 0), (5, .int x5_9), (9, .int x9_7), (2, .int x2), (3, .int x3), (4, .int x4), (6, .int x6), (8, .int x8)]) rfl ?_
    refine r_sub C [3, 4, 5, 1, 6, 0, 7, 2] (ls' := [(2, .int x2), (3, .int x3), (4, .int x4), (5, .int x5_9), (6, .int x6), (7, .int 0), (8, .int x8), (9, .int x9_7)]) rfl ?_
    obtain ⟨ev, hit, hr⟩ := gBind_some hr
    refine gIter_V (step := fun s => X11_inOrder_L60 x2 x3 x4 x5_9 x6 x8 s.1 s.2 M) (P := fun s => Ψ M 60 [(2, .int x2), (3, .int x3), (4, .int x4), (5, .int x5_9), (6, .int x6), (7, .int (s.1)), (8, .int x8), (9, .int (s.2))] []) (K := (fun e => Ψ M 101 [(2, .int x2), (3, .int x3), (4, .int x4), (5, .int x5_9), (6, .int x6), (7, .int e), (8, .int x8)] [])) (fun s w hs hn hx => t_X11_inOrder_L60 C  hs hn hx) FU (0, x9_7) ev hit ?_
    obtain ⟨x7_21, rfl⟩ : ∃ z, z = ev := ⟨_, rfl⟩
    show Ψ M 101 [(2, .int x2), (3, .int x3), (4, .int x4), (5, .int x5_9), (6, .int x6), (7, .int x7_21), (8, .int x8)] []
    refine r_iload (pc := 101) C dX11_inOrder_101 2 rfl ?_
    refine r_iconst (pc := 103) C dX11_inOrder_103 ki1 ?_
    refine r_iload (pc := 104) C dX11_inOrder_104 5 rfl ?_
    refine r_ishl (pc := 106) C dX11_inOrder_106 ?_
    refine r_ior (pc := 107) C dX11_inOrder_107 ?_
    obtain ⟨x4_22, ex4_22, hr⟩ := gLet_some hr
    refine r_istore (pc := 108) C dX11_inOrder_108 (by decide) ex4_22 (ls' := [(4, .int x4_22), (2, .int x2), (3, .int x3), (5, .int x5_9), (6, .int x6), (7, .int x7_21), (8, .int x8)]) rfl ?_
    refine r_iload_n (pc := 110) C dX11_inOrder_110 rfl 1 rfl ?_
    refine r_iconst (pc := 111) C dX11_inOrder_111 ki1 ?_
    refine r_isub (pc := 112) C dX11_inOrder_112 ?_
    refine r_iload (pc := 113) C dX11_inOrder_113 6 rfl ?_
    refine r_isub (pc := 115) C dX11_inOrder_115 ?_
    refine r_iconst (pc := 116) C dX11_inOrder_116 ki1 ?_
    refine r_icmp_le (pc := 117) (tgt := 132) C dX11_inOrder_117 rfl (fun c_23 => ?_) (fun c_23 => ?_)
    · replace hr := (if_pos c_23).symm.trans hr
      refine r_iconst (pc := 132) C dX11_inOrder_132 ki1 ?_
      refine r_istore (pc := 133) C dX11_inOrder_133 (by decide) rfl (ls' := [(6, .int 1), (4, .int x4_22), (2, .int x2), (3, .int x3), (5, .int x5_9), (7, .int x7_21), (8, .int x8)]) rfl ?_
      obtain ⟨x8_24, ex8_24, hr⟩ := gLet_some hr
      refine r_iinc (pc := 135) C dX11_inOrder_135 6 rfl rfl (by decide) ex8_24 (ls' := [(8, .int x8_24), (6, .int 1), (4, .int x4_22), (2, .int x2), (3, .int x3), (5, .int x5_9), (7, .int x7_21)]) rfl ?_
      refine r_goto (pc := 138) (tgt := 37) C dX11_inOrder_138 rfl ?_
      refine r_sub C [3, 4, 2, 5, 1, 6, 0] (ls' := [(2, .int x2), (3, .int x3), (4, .int x4_22), (5, .int x5_9), (6, .int 1), (7, .int x7_21), (8, .int x8_24)]) rfl ?_
      exact hn (x4_22, x5_9, 1, x7_21, x8_24) (gSome hr)
    · replace hr := (if_neg c_23).symm.trans hr
      refine r_iload (pc := 120) C dX11_inOrder_120 4 rfl ?_
      refine r_iload_n (pc := 122) C dX11_inOrder_122 rfl 1 rfl ?_
      refine r_iconst (pc := 123) C dX11_inOrder_123 ki1 ?_
      refine r_isub (pc := 124) C dX11_inOrder_124 ?_
      refine r_iload (pc := 125) C dX11_inOrder_125 6 rfl ?_
      refine r_isub (pc := 127) C dX11_inOrder_127 ?_
      obtain ⟨g_25, hr⟩ := gG_some hr
      refine r_idiv (pc := 128) C dX11_inOrder_128 (of_decide_eq_true g_25) ?_
      refine r_goto (pc := 129) (tgt := 133) C dX11_inOrder_129 rfl ?_
      obtain ⟨x6_26, ex6_26, hr⟩ := gLet_some hr
      refine r_istore (pc := 133) C dX11_inOrder_133 (by decide) ex6_26 (ls' := [(6, .int x6_26), (4, .int x4_22), (2, .int x2), (3, .int x3), (5, .int x5_9), (7, .int x7_21), (8, .int x8)]) rfl ?_
      obtain ⟨x8_27, ex8_27, hr⟩ := gLet_some hr
      refine r_iinc (pc := 135) C dX11_inOrder_135 6 rfl rfl (by decide) ex8_27 (ls' := [(8, .int x8_27), (6, .int x6_26), (4, .int x4_22), (2, .int x2), (3, .int x3), (5, .int x5_9), (7, .int x7_21)]) rfl ?_
      refine r_goto (pc := 138) (tgt := 37) C dX11_inOrder_138 rfl ?_
      refine r_sub C [3, 4, 2, 5, 1, 6, 0] (ls' := [(2, .int x2), (3, .int x3), (4, .int x4_22), (5, .int x5_9), (6, .int x6_26), (7, .int x7_21), (8, .int x8_27)]) rfl ?_
      exact hn (x4_22, x5_9, x6_26, x7_21, x8_27) (gSome hr)
noncomputable def X11_inOrder (p1 : Int32) (p2 : Int32) (p3 : Int32) (M : gM) : Option Int32 := (gIter (fun s => X11_inOrder_L12 p2 p3 0 p1 s.1 s.2 M) FU (1, 2)).bind (fun x6_4 => (gIter (fun s => X11_inOrder_L37 p2 p3 s.1 s.2.1 s.2.2.1 s.2.2.2.1 s.2.2.2.2 M) FU (0, p1, x6_4, 0, 0)).bind (fun x7_28 => some x7_28))
theorem k_X11_inOrder {G : gG5} {nf : Nat} {M : gM} {p1 : Int32} {p2 : Int32} {p3 : Int32} {r : Int32} (hr : X11_inOrder p1 p2 p3 M = some r) : gMet G (gXn nf) yX11_inOrder cX11_inOrder 10 (some .int) 1 21 M [.ref (gad 50 0), .int p1, .int p2, .int p3] (some (.int r)) M := by
  refine gMet_of pl_X11 rfl (Nat.le_of_ble_eq_true rfl) (fun Ψ C CR => ?_)
  show Ψ M 0 [(0, .ref (gad 50 0)), (1, .int p1), (2, .int p2), (3, .int p3)] []
  refine r_iconst (pc := 0) C dX11_inOrder_0 ki0 ?_
  refine r_istore (pc := 1) C dX11_inOrder_1 (by decide) rfl (ls' := [(4, .int 0), (0, .ref (gad 50 0)), (1, .int p1), (2, .int p2), (3, .int p3)]) rfl ?_
  refine r_iload_n (pc := 3) C dX11_inOrder_3 rfl 2 rfl ?_
  refine r_istore (pc := 4) C dX11_inOrder_4 (by decide) rfl (ls' := [(5, .int p1), (4, .int 0), (0, .ref (gad 50 0)), (1, .int p1), (2, .int p2), (3, .int p3)]) rfl ?_
  refine r_iconst (pc := 6) C dX11_inOrder_6 ki1 ?_
  refine r_istore (pc := 7) C dX11_inOrder_7 (by decide) rfl (ls' := [(6, .int 1), (5, .int p1), (4, .int 0), (0, .ref (gad 50 0)), (1, .int p1), (2, .int p2), (3, .int p3)]) rfl ?_
  refine r_iconst (pc := 9) C dX11_inOrder_9 ki2 ?_
  refine r_istore (pc := 10) C dX11_inOrder_10 (by decide) rfl (ls' := [(7, .int 2), (6, .int 1), (5, .int p1), (4, .int 0), (0, .ref (gad 50 0)), (1, .int p1), (2, .int p2), (3, .int p3)]) rfl ?_
  refine r_sub C [6, 7, 3, 2, 1, 0] (ls' := [(2, .int p2), (3, .int p3), (4, .int 0), (5, .int p1), (6, .int 1), (7, .int 2)]) rfl ?_
  obtain ⟨ev, hit, hr⟩ := gBind_some hr
  refine gIter_V (step := fun s => X11_inOrder_L12 p2 p3 0 p1 s.1 s.2 M) (P := fun s => Ψ M 12 [(2, .int p2), (3, .int p3), (4, .int 0), (5, .int p1), (6, .int (s.1)), (7, .int (s.2))] []) (K := (fun e => Ψ M 31 [(2, .int p2), (3, .int p3), (4, .int 0), (5, .int p1), (6, .int e)] [])) (fun s w hs hn hx => t_X11_inOrder_L12 C  hs hn hx) FU (1, 2) ev hit ?_
  obtain ⟨x6_4, rfl⟩ : ∃ z, z = ev := ⟨_, rfl⟩
  show Ψ M 31 [(2, .int p2), (3, .int p3), (4, .int 0), (5, .int p1), (6, .int x6_4)] []
  refine r_iconst (pc := 31) C dX11_inOrder_31 ki0 ?_
  refine r_istore (pc := 32) C dX11_inOrder_32 (by decide) rfl (ls' := [(7, .int 0), (2, .int p2), (3, .int p3), (4, .int 0), (5, .int p1), (6, .int x6_4)]) rfl ?_
  refine r_iconst (pc := 34) C dX11_inOrder_34 ki0 ?_
  refine r_istore (pc := 35) C dX11_inOrder_35 (by decide) rfl (ls' := [(8, .int 0), (7, .int 0), (2, .int p2), (3, .int p3), (4, .int 0), (5, .int p1), (6, .int x6_4)]) rfl ?_
  refine r_sub C [2, 3, 4, 5, 6, 1, 0] (ls' := [(2, .int p2), (3, .int p3), (4, .int 0), (5, .int p1), (6, .int x6_4), (7, .int 0), (8, .int 0)]) rfl ?_
  obtain ⟨ev, hit, hr⟩ := gBind_some hr
  refine gIter_V (step := fun s => X11_inOrder_L37 p2 p3 s.1 s.2.1 s.2.2.1 s.2.2.2.1 s.2.2.2.2 M) (P := fun s => Ψ M 37 [(2, .int p2), (3, .int p3), (4, .int (s.1)), (5, .int (s.2.1)), (6, .int (s.2.2.1)), (7, .int (s.2.2.2.1)), (8, .int (s.2.2.2.2))] []) (K := (fun e => Ψ M 141 [(7, .int e)] [])) (fun s w hs hn hx => t_X11_inOrder_L37 C  hs hn hx) FU (0, p1, x6_4, 0, 0) ev hit ?_
  obtain ⟨x7_28, rfl⟩ : ∃ z, z = ev := ⟨_, rfl⟩
  show Ψ M 141 [(7, .int x7_28)] []
  refine r_iload (pc := 141) C dX11_inOrder_141 0 rfl ?_
  exact r_iret (pc := 143) CR dX11_inOrder_143 (congrArg (fun z => some (Value.int z)) (gSome hr)) rfl
theorem c_X11_inOrder {Ψ : gM → Nat → List (Nat × Value) → List Value → Prop} {G : gG5} {nf : Nat} {cc : ByteArray} {own : String} {nL : Nat} {ret : Option FieldType} {fr lo : Nat} {v0 : Option Value} {M0 M : gM} {pc index : Nat} {ls : List (Nat × Value)} {st : List Value} (C : gC Ψ G (gXn nf) cc own nL ret fr lo v0 M0) (d : decode cc pc = .ok (.invokevirtual index, 3)) (hl : Cond.methodLink own index yX11_inOrder ∈ gws) (hR : 2 ≤ fr ∧ 50 ≤ lo) {p1 : Int32} {p2 : Int32} {p3 : Int32} {r : Int32} (hr : X11_inOrder p1 p2 p3 M = some r) (hcat : (st.map fun v => v.category).sum ≤ 8) (k : Ψ M (pc + 3) ls (.int r :: st)) : Ψ M pc ls (.int p3 :: .int p2 :: .int p1 :: .ref (gad 50 0) :: st) := r_callV C [.int p1, .int p2, .int p3] st d (k_X11_inOrder hr) hl q2030 q108 q127 q2031 hd_X11_inOrder hR rfl (by decide) (e50 nf) rfl hcat k
