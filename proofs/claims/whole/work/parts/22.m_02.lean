theorem hd_X6_fitTo : yX6_fitTo.cls ≠ "java/lang/invoke/MethodHandle" ∧ yX6_fitTo.cls ≠ "java/lang/invoke/VarHandle" ∧ (parseMethodDescriptor yX6_fitTo.desc).map (fun d => d.parameters.length) = some 4 := by decide +kernel
noncomputable def X6_fitTo_L9 (i0 : Nat) (i1 : Nat) (x3 : Int32) (i4 : Nat) (x5 : Int32) (x6 : Int32) (M : gM) : Option ((Int32 × Int32 × gM) ⊕ (Int32 × gM)) := (if 6 ≤ x6 then some (.inr (x5, M)) else gG (gin ((x3 * 6) + x6) 60) (gLet ((M.1 39 i4 (Int32.toNatClampNeg ((x3 * 6) + x6)))) (fun x7_4 => (if x5 = 0 then gG (gin x6 6) (gLet (wI M 20 i0 (Int32.toNatClampNeg x6) x7_4) (fun M_7 => gLet (x6 + 1) (fun x6_8 => some (.inl (0, x6_8, M_7))))) else gG (gin x6 6) ((if (M.1 20 i0 (Int32.toNatClampNeg x6)) = x7_4 then gG (gin x6 6) (gLet (wI M 20 i0 (Int32.toNatClampNeg x6) x7_4) (fun M_15 => gLet (x6 + 1) (fun x6_16 => some (.inl (1, x6_16, M_15))))) else gG (gin x6 6) (gLet (wI M 20 i0 (Int32.toNatClampNeg x6) x7_4) (fun M_12 => gLet (x6 + 1) (fun x6_13 => some (.inl (0, x6_13, M_12)))))))))))
theorem t_X6_fitTo_L9 {Ψ : gM → Nat → List (Nat × Value) → List Value → Prop} {G : gG5} {nf : Nat} {M : gM} {v0 : Option Value} {M0 : gM} {i0 : Nat} {i1 : Nat} {x3 : Int32} {i4 : Nat} {x5 : Int32} {x6 : Int32} {w : ((Int32 × Int32 × gM) ⊕ (Int32 × gM))} (C : gC Ψ G (gXn nf) cX6_fitTo RX6 9 none 3 77 v0 M0) (h0 : i0 < 10) (h1 : i1 < 2) (h4 : i4 < nf + 3) (hr : X6_fitTo_L9 i0 i1 x3 i4 x5 x6 M = some w) (hn : ∀ s, w = .inl s → Ψ s.2.2 9 [(0, .ref (gad 19 i0)), (1, .ref (gad 5 i1)), (2, .ref (gad 12 0)), (3, .int x3), (4, .ref (gad 39 i4)), (5, .int (s.1)), (6, .int (s.2.1))] []) (hx : ∀ e, w = .inr e → (fun e => Ψ e.2 67 [(0, .ref (gad 19 i0)), (1, .ref (gad 5 i1)), (2, .ref (gad 12 0)), (3, .int x3), (5, .int (e.1))] []) e) : Ψ M 9 [(0, .ref (gad 19 i0)), (1, .ref (gad 5 i1)), (2, .ref (gad 12 0)), (3, .int x3), (4, .ref (gad 39 i4)), (5, .int x5), (6, .int x6)] [] := by
  refine r_iload (pc := 9) C dX6_fitTo_9 6 rfl ?_
  refine r_bipush (pc := 11) C dX6_fitTo_11 kb6 ?_
  refine r_icmp_ge (pc := 13) (tgt := 67) C dX6_fitTo_13 rfl (fun c_2 => ?_) (fun c_2 => ?_)
  · replace hr := (if_pos c_2).symm.trans hr
    refine r_sub C [0, 1, 2, 3, 5] (ls' := [(0, .ref (gad 19 i0)), (1, .ref (gad 5 i1)), (2, .ref (gad 12 0)), (3, .int x3), (5, .int x5)]) rfl ?_
    exact hx (x5, M) (gSome hr)
  · replace hr := (if_neg c_2).symm.trans hr
    refine r_aload (pc := 16) C dX6_fitTo_16 4 rfl ?_
    refine r_iload_n (pc := 18) C dX6_fitTo_18 rfl 3 rfl ?_
    refine r_bipush (pc := 19) C dX6_fitTo_19 kb6 ?_
    refine r_imul (pc := 21) C dX6_fitTo_21 ?_
    refine r_iload (pc := 22) C dX6_fitTo_22 6 rfl ?_
    refine r_iadd (pc := 24) C dX6_fitTo_24 ?_
    obtain ⟨g_3, hr⟩ := gG_some hr
    refine r_ialdN (pc := 25) C dX6_fitTo_25 rfl (e39 (nf := nf) h4) g_3 rfl ?_
    obtain ⟨x7_4, ex7_4, hr⟩ := gLet_some hr
    refine r_istore (pc := 26) C dX6_fitTo_26 (by decide) ex7_4 (ls' := [(7, .int x7_4), (0, .ref (gad 19 i0)), (1, .ref (gad 5 i1)), (2, .ref (gad 12 0)), (3, .int x3), (4, .ref (gad 39 i4)), (5, .int x5), (6, .int x6)]) rfl ?_
    refine r_iload (pc := 28) C dX6_fitTo_28 6 rfl ?_
    refine r_if_eq (pc := 30) (tgt := 49) C dX6_fitTo_30 rfl (fun c_5 => ?_) (fun c_5 => ?_)
    · replace hr := (if_pos c_5).symm.trans hr
      refine r_iconst (pc := 49) C dX6_fitTo_49 ki0 ?_
      refine r_istore (pc := 50) C dX6_fitTo_50 (by decide) rfl (ls' := [(5, .int 0), (7, .int x7_4), (0, .ref (gad 19 i0)), (1, .ref (gad 5 i1)), (2, .ref (gad 12 0)), (3, .int x3), (4, .ref (gad 39 i4)), (6, .int x6)]) rfl ?_
      refine r_aload_n (pc := 52) C dX6_fitTo_52 rfl 2 rfl ?_
      refine g19_0 (pc := 53) C dX6_fitTo_53 q327 (e19 (nf := nf) h0) ?_
      refine r_iload (pc := 56) C dX6_fitTo_56 7 rfl ?_
      refine r_iload (pc := 58) C dX6_fitTo_58 1 rfl ?_
      obtain ⟨g_6, hr⟩ := gG_some hr
      obtain ⟨M_7, eM_7, hr⟩ := gLet_some hr
      refine r_iastN (pc := 60) C dX6_fitTo_60 rfl (e20 (nf := nf) h0) g_6 rfl eM_7 ?_
      obtain ⟨x6_8, ex6_8, hr⟩ := gLet_some hr
      refine r_iinc (pc := 61) C dX6_fitTo_61 7 rfl rfl (by decide) ex6_8 (ls' := [(6, .int x6_8), (5, .int 0), (7, .int x7_4), (0, .ref (gad 19 i0)), (1, .ref (gad 5 i1)), (2, .ref (gad 12 0)), (3, .int x3), (4, .ref (gad 39 i4))]) rfl ?_
      refine r_goto (pc := 64) (tgt := 9) C dX6_fitTo_64 rfl ?_
      refine r_sub C [3, 4, 5, 6, 7, 1, 0] (ls' := [(0, .ref (gad 19 i0)), (1, .ref (gad 5 i1)), (2, .ref (gad 12 0)), (3, .int x3), (4, .ref (gad 39 i4)), (5, .int 0), (6, .int x6_8)]) rfl ?_
      exact hn (0, x6_8, M_7) (gSome hr)
    · replace hr := (if_neg c_5).symm.trans hr
      refine r_aload_n (pc := 33) C dX6_fitTo_33 rfl 1 rfl ?_
      refine g19_0 (pc := 34) C dX6_fitTo_34 q327 (e19 (nf := nf) h0) ?_
      refine r_iload (pc := 37) C dX6_fitTo_37 7 rfl ?_
      obtain ⟨g_9, hr⟩ := gG_some hr
      refine r_ialdN (pc := 39) C dX6_fitTo_39 rfl (e20 (nf := nf) h0) g_9 rfl ?_
      refine r_iload (pc := 40) C dX6_fitTo_40 0 rfl ?_
      refine r_icmp_ne (pc := 42) (tgt := 49) C dX6_fitTo_42 rfl (fun c_10 => ?_) (fun c_10 => ?_)
      · replace hr := (if_neg c_10).symm.trans hr
        refine r_iconst (pc := 49) C dX6_fitTo_49 ki0 ?_
        refine r_istore (pc := 50) C dX6_fitTo_50 (by decide) rfl (ls' := [(5, .int 0), (7, .int x7_4), (0, .ref (gad 19 i0)), (1, .ref (gad 5 i1)), (2, .ref (gad 12 0)), (3, .int x3), (4, .ref (gad 39 i4)), (6, .int x6)]) rfl ?_
        refine r_aload_n (pc := 52) C dX6_fitTo_52 rfl 2 rfl ?_
        refine g19_0 (pc := 53) C dX6_fitTo_53 q327 (e19 (nf := nf) h0) ?_
        refine r_iload (pc := 56) C dX6_fitTo_56 7 rfl ?_
        refine r_iload (pc := 58) C dX6_fitTo_58 1 rfl ?_
        obtain ⟨g_11, hr⟩ := gG_some hr
        obtain ⟨M_12, eM_12, hr⟩ := gLet_some hr
        refine r_iastN (pc := 60) C dX6_fitTo_60 rfl (e20 (nf := nf) h0) g_11 rfl eM_12 ?_
        obtain ⟨x6_13, ex6_13, hr⟩ := gLet_some hr
        refine r_iinc (pc := 61) C dX6_fitTo_61 7 rfl rfl (by decide) ex6_13 (ls' := [(6, .int x6_13), (5, .int 0), (7, .int x7_4), (0, .ref (gad 19 i0)), (1, .ref (gad 5 i1)), (2, .ref (gad 12 0)), (3, .int x3), (4, .ref (gad 39 i4))]) rfl ?_
        refine r_goto (pc := 64) (tgt := 9) C dX6_fitTo_64 rfl ?_
        refine r_sub C [3, 4, 5, 6, 7, 1, 0] (ls' := [(0, .ref (gad 19 i0)), (1, .ref (gad 5 i1)), (2, .ref (gad 12 0)), (3, .int x3), (4, .ref (gad 39 i4)), (5, .int 0), (6, .int x6_13)]) rfl ?_
        exact hn (0, x6_13, M_12) (gSome hr)
      · replace hr := (if_pos c_10).symm.trans hr
        refine r_iconst (pc := 45) C dX6_fitTo_45 ki1 ?_
        refine r_goto (pc := 46) (tgt := 50) C dX6_fitTo_46 rfl ?_
        refine r_istore (pc := 50) C dX6_fitTo_50 (by decide) rfl (ls' := [(5, .int 1), (7, .int x7_4), (0, .ref (gad 19 i0)), (1, .ref (gad 5 i1)), (2, .ref (gad 12 0)), (3, .int x3), (4, .ref (gad 39 i4)), (6, .int x6)]) rfl ?_
        refine r_aload_n (pc := 52) C dX6_fitTo_52 rfl 2 rfl ?_
        refine g19_0 (pc := 53) C dX6_fitTo_53 q327 (e19 (nf := nf) h0) ?_
        refine r_iload (pc := 56) C dX6_fitTo_56 7 rfl ?_
        refine r_iload (pc := 58) C dX6_fitTo_58 1 rfl ?_
        obtain ⟨g_14, hr⟩ := gG_some hr
        obtain ⟨M_15, eM_15, hr⟩ := gLet_some hr
        refine r_iastN (pc := 60) C dX6_fitTo_60 rfl (e20 (nf := nf) h0) g_14 rfl eM_15 ?_
        obtain ⟨x6_16, ex6_16, hr⟩ := gLet_some hr
        refine r_iinc (pc := 61) C dX6_fitTo_61 7 rfl rfl (by decide) ex6_16 (ls' := [(6, .int x6_16), (5, .int 1), (7, .int x7_4), (0, .ref (gad 19 i0)), (1, .ref (gad 5 i1)), (2, .ref (gad 12 0)), (3, .int x3), (4, .ref (gad 39 i4))]) rfl ?_
        refine r_goto (pc := 64) (tgt := 9) C dX6_fitTo_64 rfl ?_
        refine r_sub C [3, 4, 5, 6, 7, 1, 0] (ls' := [(0, .ref (gad 19 i0)), (1, .ref (gad 5 i1)), (2, .ref (gad 12 0)), (3, .int x3), (4, .ref (gad 39 i4)), (5, .int 1), (6, .int x6_16)]) rfl ?_
        exact hn (1, x6_16, M_15) (gSome hr)
noncomputable def X6_fitTo_J149 (i0 : Nat) (i1 : Nat) (x3 : Int32) (xs0 : Int32) (M : gM) : Option gM := gLet ((3 - xs0)) (fun x7_23 => (X6_layEdge i0 0 0 xs0 M).bind (fun M_25 => (X6_layEdge i0 1 xs0 x7_23 M_25).bind (fun M_27 => (X6_layEdge i0 2 x7_23 0 M_27).bind (fun M_29 => gLet ((x3 * 3)) (fun x8_30 => gG (gin x8_30 30) (gG (gin (x8_30 + xs0) 30) (gG (gin (x8_30 + x7_23) 30) ((X6_laySlope i0 (M_29.1 10 i1 (Int32.toNatClampNeg x8_30)) (M_29.1 10 i1 (Int32.toNatClampNeg (x8_30 + xs0))) (M_29.1 10 i1 (Int32.toNatClampNeg (x8_30 + x7_23))) M_29).bind (fun M_35 => (X6_fillDepths i0 M_35).bind (fun M_37 => gG (gin x3 10) (gG (gin x3 10) ((X6_fillShades i0 (M_37.1 7 i1 (Int32.toNatClampNeg x3)) (M_37.1 8 i1 (Int32.toNatClampNeg x3)) M_37).bind (fun M_41 => (X6_fillTouched i0 M_41).bind (fun M_43 => some M_43))))))))))))))
theorem t_X6_fitTo_J149 {Ψ : gM → Nat → List (Nat × Value) → List Value → Prop} {G : gG5} {nf : Nat} {M : gM} {i0 : Nat} {i1 : Nat} {x3 : Int32} {xs0 : Int32} {M1 : gM} (C : gC Ψ G (gXn nf) cX6_fitTo RX6 9 none 3 77 none M1) (CR : gR Ψ cX6_fitTo none none M1) (h0 : i0 < 10) (h1 : i1 < 2) (hr : X6_fitTo_J149 i0 i1 x3 xs0 M = some M1) : Ψ M 149 [(0, .ref (gad 19 i0)), (1, .ref (gad 5 i1)), (2, .ref (gad 12 0)), (3, .int x3)] [.int xs0] := by
  refine r_istore (pc := 149) C dX6_fitTo_149 (by decide) rfl (ls' := [(6, .int xs0), (0, .ref (gad 19 i0)), (1, .ref (gad 5 i1)), (2, .ref (gad 12 0)), (3, .int x3)]) rfl ?_
  refine r_iconst (pc := 151) C dX6_fitTo_151 ki3 ?_
  refine r_iload (pc := 152) C dX6_fitTo_152 0 rfl ?_
  refine r_isub (pc := 154) C dX6_fitTo_154 ?_
  obtain ⟨x7_23, ex7_23, hr⟩ := gLet_some hr
  refine r_istore (pc := 155) C dX6_fitTo_155 (by decide) ex7_23 (ls' := [(7, .int x7_23), (6, .int xs0), (0, .ref (gad 19 i0)), (1, .ref (gad 5 i1)), (2, .ref (gad 12 0)), (3, .int x3)]) rfl ?_
  refine r_aload_n (pc := 157) C dX6_fitTo_157 rfl 2 rfl ?_
  refine r_iconst (pc := 158) C dX6_fitTo_158 ki0 ?_
  refine r_iconst (pc := 159) C dX6_fitTo_159 ki0 ?_
  refine r_iload (pc := 160) C dX6_fitTo_160 1 rfl ?_
  obtain ⟨M_25, hc_24, hr⟩ := gBind_some hr
  refine c_X6_layEdge (pc := 162) C dX6_fitTo_162 q802 ⟨Nat.le_of_ble_eq_true rfl, Nat.le_of_ble_eq_true rfl⟩ h0 hc_24 (Nat.le_of_ble_eq_true rfl) ?_
  refine r_aload_n (pc := 165) C dX6_fitTo_165 rfl 2 rfl ?_
  refine r_iconst (pc := 166) C dX6_fitTo_166 ki1 ?_
  refine r_iload (pc := 167) C dX6_fitTo_167 1 rfl ?_
  refine r_iload (pc := 169) C dX6_fitTo_169 0 rfl ?_
  obtain ⟨M_27, hc_26, hr⟩ := gBind_some hr
  refine c_X6_layEdge (pc := 171) C dX6_fitTo_171 q802 ⟨Nat.le_of_ble_eq_true rfl, Nat.le_of_ble_eq_true rfl⟩ h0 hc_26 (Nat.le_of_ble_eq_true rfl) ?_
  refine r_aload_n (pc := 174) C dX6_fitTo_174 rfl 2 rfl ?_
  refine r_iconst (pc := 175) C dX6_fitTo_175 ki2 ?_
  refine r_iload (pc := 176) C dX6_fitTo_176 0 rfl ?_
  refine r_iconst (pc := 178) C dX6_fitTo_178 ki0 ?_
  obtain ⟨M_29, hc_28, hr⟩ := gBind_some hr
  refine c_X6_layEdge (pc := 179) C dX6_fitTo_179 q802 ⟨Nat.le_of_ble_eq_true rfl, Nat.le_of_ble_eq_true rfl⟩ h0 hc_28 (Nat.le_of_ble_eq_true rfl) ?_
  refine r_iload_n (pc := 182) C dX6_fitTo_182 rfl 5 rfl ?_
  refine r_iconst (pc := 183) C dX6_fitTo_183 ki3 ?_
  refine r_imul (pc := 184) C dX6_fitTo_184 ?_
  obtain ⟨x8_30, ex8_30, hr⟩ := gLet_some hr
  refine r_istore (pc := 185) C dX6_fitTo_185 (by decide) ex8_30 (ls' := [(8, .int x8_30), (7, .int x7_23), (6, .int xs0), (0, .ref (gad 19 i0)), (1, .ref (gad 5 i1)), (2, .ref (gad 12 0)), (3, .int x3)]) rfl ?_
  refine r_aload_n (pc := 187) C dX6_fitTo_187 rfl 3 rfl ?_
  refine r_aload_n (pc := 188) C dX6_fitTo_188 rfl 4 rfl ?_
  refine g5_10 (pc := 189) C dX6_fitTo_189 q230 (e5 (nf := nf) h1) ?_
  refine r_iload (pc := 192) C dX6_fitTo_192 0 rfl ?_
  obtain ⟨g_31, hr⟩ := gG_some hr
  refine r_ialdN (pc := 194) C dX6_fitTo_194 rfl (e10 (nf := nf) h1) g_31 rfl ?_
  refine r_aload_n (pc := 195) C dX6_fitTo_195 rfl 4 rfl ?_
  refine g5_10 (pc := 196) C dX6_fitTo_196 q230 (e5 (nf := nf) h1) ?_
  refine r_iload (pc := 199) C dX6_fitTo_199 0 rfl ?_
  refine r_iload (pc := 201) C dX6_fitTo_201 2 rfl ?_
  refine r_iadd (pc := 203) C dX6_fitTo_203 ?_
  obtain ⟨g_32, hr⟩ := gG_some hr
  refine r_ialdN (pc := 204) C dX6_fitTo_204 rfl (e10 (nf := nf) h1) g_32 rfl ?_
  refine r_aload_n (pc := 205) C dX6_fitTo_205 rfl 4 rfl ?_
  refine g5_10 (pc := 206) C dX6_fitTo_206 q230 (e5 (nf := nf) h1) ?_
  refine r_iload (pc := 209) C dX6_fitTo_209 0 rfl ?_
  refine r_iload (pc := 211) C dX6_fitTo_211 1 rfl ?_
  refine r_iadd (pc := 213) C dX6_fitTo_213 ?_
  obtain ⟨g_33, hr⟩ := gG_some hr
  refine r_ialdN (pc := 214) C dX6_fitTo_214 rfl (e10 (nf := nf) h1) g_33 rfl ?_
  obtain ⟨M_35, hc_34, hr⟩ := gBind_some hr
  refine c_X6_laySlope (pc := 215) C dX6_fitTo_215 q806 ⟨Nat.le_of_ble_eq_true rfl, Nat.le_of_ble_eq_true rfl⟩ h0 hc_34 (Nat.le_of_ble_eq_true rfl) ?_
  refine r_aload_n (pc := 218) C dX6_fitTo_218 rfl 3 rfl ?_
  refine r_aload_n (pc := 219) C dX6_fitTo_219 rfl 5 rfl ?_
  obtain ⟨M_37, hc_36, hr⟩ := gBind_some hr
  refine c_X6_fillDepths (pc := 220) C dX6_fitTo_220 q812 ⟨Nat.le_of_ble_eq_true rfl, Nat.le_of_ble_eq_true rfl⟩ h0 hc_36 (Nat.le_of_ble_eq_true rfl) ?_
  refine r_aload_n (pc := 223) C dX6_fitTo_223 rfl 3 rfl ?_
  refine r_aload_n (pc := 224) C dX6_fitTo_224 rfl 4 rfl ?_
  refine g5_7 (pc := 225) C dX6_fitTo_225 q220 (e5 (nf := nf) h1) ?_
  refine r_iload_n (pc := 228) C dX6_fitTo_228 rfl 6 rfl ?_
  obtain ⟨g_38, hr⟩ := gG_some hr
  refine r_ialdN (pc := 229) C dX6_fitTo_229 rfl (e7 (nf := nf) h1) g_38 rfl ?_
  refine r_aload_n (pc := 230) C dX6_fitTo_230 rfl 4 rfl ?_
  refine g5_8 (pc := 231) C dX6_fitTo_231 q223 (e5 (nf := nf) h1) ?_
  refine r_iload_n (pc := 234) C dX6_fitTo_234 rfl 6 rfl ?_
  obtain ⟨g_39, hr⟩ := gG_some hr
  refine r_ialdN (pc := 235) C dX6_fitTo_235 rfl (e8 (nf := nf) h1) g_39 rfl ?_
  obtain ⟨M_41, hc_40, hr⟩ := gBind_some hr
  refine c_X6_fillShades (pc := 236) C dX6_fitTo_236 q827 ⟨Nat.le_of_ble_eq_true rfl, Nat.le_of_ble_eq_true rfl⟩ h0 hc_40 (Nat.le_of_ble_eq_true rfl) ?_
  refine r_aload_n (pc := 239) C dX6_fitTo_239 rfl 3 rfl ?_
  refine r_aload_n (pc := 240) C dX6_fitTo_240 rfl 5 rfl ?_
  obtain ⟨M_43, hc_42, hr⟩ := gBind_some hr
  refine c_X6_fillTouched (pc := 241) C dX6_fitTo_241 q831 ⟨Nat.le_of_ble_eq_true rfl, Nat.le_of_ble_eq_true rfl⟩ h0 hc_42 (Nat.le_of_ble_eq_true rfl) ?_
  exact r_vret (pc := 244) CR dX6_fitTo_244 rfl (gSome hr)
noncomputable def X6_fitTo (i0 : Nat) (i1 : Nat) (p3 : Int32) (i4 : Nat) (M : gM) : Option gM := gLet ((M.1 19 i0 1)) (fun x5_1 => (gIter (fun s => X6_fitTo_L9 i0 i1 p3 i4 s.1 s.2.1 s.2.2) FU (x5_1, 0, M)).bind (gU2 (fun x5_17 M_18 => (if x5_17 = 0 then gLet (wI M_18 19 i0 1 1) (fun M_20 => gLet (wI M_20 19 i0 2 ((((M_20.1 20 i0 2) - (M_20.1 20 i0 0)) * ((M_20.1 20 i0 5) - (M_20.1 20 i0 1))) - (((M_20.1 20 i0 3) - (M_20.1 20 i0 1)) * ((M_20.1 20 i0 4) - (M_20.1 20 i0 0))))) (fun M_21 => (if 0 ≤ (M_21.1 19 i0 2) then X6_fitTo_J149 i0 i1 p3 1 M_21 else X6_fitTo_J149 i0 i1 p3 2 M_21))) else some M_18))))
theorem k_X6_fitTo {G : gG5} {nf : Nat} {M : gM} {i0 : Nat} {i1 : Nat} {p3 : Int32} {i4 : Nat} (h0 : i0 < 10) (h1 : i1 < 2) (h4 : i4 < nf + 3) {M1 : gM} (hr : X6_fitTo i0 i1 p3 i4 M = some M1) : gMet G (gXn nf) yX6_fitTo cX6_fitTo 9 none 3 77 M [.ref (gad 19 i0), .ref (gad 5 i1), .ref (gad 12 0), .int p3, .ref (gad 39 i4)] none M1 := by
  refine gMet_of pl_X6 rfl (Nat.le_of_ble_eq_true rfl) (fun Ψ C CR => ?_)
  show Ψ M 0 [(0, .ref (gad 19 i0)), (1, .ref (gad 5 i1)), (2, .ref (gad 12 0)), (3, .int p3), (4, .ref (gad 39 i4))] []
  refine r_aload_n (pc := 0) C dX6_fitTo_0 rfl 0 rfl ?_
  refine g19_1 (pc := 1) C dX6_fitTo_1 q328 (e19 (nf := nf) h0) ?_
  obtain ⟨x5_1, ex5_1, hr⟩ := gLet_some hr
  refine r_istore (pc := 4) C dX6_fitTo_4 (by decide) ex5_1 (ls' := [(5, .int x5_1), (0, .ref (gad 19 i0)), (1, .ref (gad 5 i1)), (2, .ref (gad 12 0)), (3, .int p3), (4, .ref (gad 39 i4))]) rfl ?_
  refine r_iconst (pc := 6) C dX6_fitTo_6 ki0 ?_
  refine r_istore (pc := 7) C dX6_fitTo_7 (by decide) rfl (ls' := [(6, .int 0), (5, .int x5_1), (0, .ref (gad 19 i0)), (1, .ref (gad 5 i1)), (2, .ref (gad 12 0)), (3, .int p3), (4, .ref (gad 39 i4))]) rfl ?_
  refine r_sub C [2, 3, 4, 5, 6, 1, 0] (ls' := [(0, .ref (gad 19 i0)), (1, .ref (gad 5 i1)), (2, .ref (gad 12 0)), (3, .int p3), (4, .ref (gad 39 i4)), (5, .int x5_1), (6, .int 0)]) rfl ?_
  obtain ⟨ev, hit, hr⟩ := gBind_some hr
  refine gIter_V (step := fun s => X6_fitTo_L9 i0 i1 p3 i4 s.1 s.2.1 s.2.2) (P := fun s => Ψ s.2.2 9 [(0, .ref (gad 19 i0)), (1, .ref (gad 5 i1)), (2, .ref (gad 12 0)), (3, .int p3), (4, .ref (gad 39 i4)), (5, .int (s.1)), (6, .int (s.2.1))] []) (K := (fun e => Ψ e.2 67 [(0, .ref (gad 19 i0)), (1, .ref (gad 5 i1)), (2, .ref (gad 12 0)), (3, .int p3), (5, .int (e.1))] [])) (fun s w hs hn hx => t_X6_fitTo_L9 C h0 h1 h4 hs hn hx) FU (x5_1, 0, M) ev hit ?_
  obtain ⟨x5_17, M_18⟩ := ev
  replace hr := gU2_some hr
  show Ψ M_18 67 [(0, .ref (gad 19 i0)), (1, .ref (gad 5 i1)), (2, .ref (gad 12 0)), (3, .int p3), (5, .int x5_17)] []
  refine r_iload (pc := 67) C dX6_fitTo_67 4 rfl ?_
  refine r_if_eq (pc := 69) (tgt := 73) C dX6_fitTo_69 rfl (fun c_19 => ?_) (fun c_19 => ?_)
  · replace hr := (if_pos c_19).symm.trans hr
    refine r_aload_n (pc := 73) C dX6_fitTo_73 rfl 0 rfl ?_
    refine r_iconst (pc := 74) C dX6_fitTo_74 ki1 ?_
    obtain ⟨M_20, eM_20, hr⟩ := gLet_some hr
    refine p19_1 (pc := 75) C dX6_fitTo_75 q328 (e19 (nf := nf) h0) rfl eM_20 ?_
    refine r_aload_n (pc := 78) C dX6_fitTo_78 rfl 0 rfl ?_
    refine r_aload_n (pc := 79) C dX6_fitTo_79 rfl 0 rfl ?_
    refine g19_0 (pc := 80) C dX6_fitTo_80 q327 (e19 (nf := nf) h0) ?_
    refine r_iconst (pc := 83) C dX6_fitTo_83 ki2 ?_
    refine r_ialdN (pc := 84) C dX6_fitTo_84 rfl (e20 (nf := nf) h0) (by decide : gin 2 6 = true) kc2 ?_
    refine r_aload_n (pc := 85) C dX6_fitTo_85 rfl 0 rfl ?_
    refine g19_0 (pc := 86) C dX6_fitTo_86 q327 (e19 (nf := nf) h0) ?_
    refine r_iconst (pc := 89) C dX6_fitTo_89 ki0 ?_
    refine r_ialdN (pc := 90) C dX6_fitTo_90 rfl (e20 (nf := nf) h0) (by decide : gin 0 6 = true) kc0 ?_
    refine r_isub (pc := 91) C dX6_fitTo_91 ?_
    refine r_aload_n (pc := 92) C dX6_fitTo_92 rfl 0 rfl ?_
    refine g19_0 (pc := 93) C dX6_fitTo_93 q327 (e19 (nf := nf) h0) ?_
    refine r_iconst (pc := 96) C dX6_fitTo_96 ki5 ?_
    refine r_ialdN (pc := 97) C dX6_fitTo_97 rfl (e20 (nf := nf) h0) (by decide : gin 5 6 = true) kc5 ?_
    refine r_aload_n (pc := 98) C dX6_fitTo_98 rfl 0 rfl ?_
    refine g19_0 (pc := 99) C dX6_fitTo_99 q327 (e19 (nf := nf) h0) ?_
    refine r_iconst (pc := 102) C dX6_fitTo_102 ki1 ?_
    refine r_ialdN (pc := 103) C dX6_fitTo_103 rfl (e20 (nf := nf) h0) (by decide : gin 1 6 = true) kc1 ?_
    refine r_isub (pc := 104) C dX6_fitTo_104 ?_
    refine r_imul (pc := 105) C dX6_fitTo_105 ?_
    refine r_aload_n (pc := 106) C dX6_fitTo_106 rfl 0 rfl ?_
    refine g19_0 (pc := 107) C dX6_fitTo_107 q327 (e19 (nf := nf) h0) ?_
    refine r_iconst (pc := 110) C dX6_fitTo_110 ki3 ?_
    refine r_ialdN (pc := 111) C dX6_fitTo_111 rfl (e20 (nf := nf) h0) (by decide : gin 3 6 = true) kc3 ?_
    refine r_aload_n (pc := 112) C dX6_fitTo_112 rfl 0 rfl ?_
    refine g19_0 (pc := 113) C dX6_fitTo_113 q327 (e19 (nf := nf) h0) ?_
    refine r_iconst (pc := 116) C dX6_fitTo_116 ki1 ?_
    refine r_ialdN (pc := 117) C dX6_fitTo_117 rfl (e20 (nf := nf) h0) (by decide : gin 1 6 = true) kc1 ?_
    refine r_isub (pc := 118) C dX6_fitTo_118 ?_
    refine r_aload_n (pc := 119) C dX6_fitTo_119 rfl 0 rfl ?_
    refine g19_0 (pc := 120) C dX6_fitTo_120 q327 (e19 (nf := nf) h0) ?_
    refine r_iconst (pc := 123) C dX6_fitTo_123 ki4 ?_
    refine r_ialdN (pc := 124) C dX6_fitTo_124 rfl (e20 (nf := nf) h0) (by decide : gin 4 6 = true) kc4 ?_
    refine r_aload_n (pc := 125) C dX6_fitTo_125 rfl 0 rfl ?_
    refine g19_0 (pc := 126) C dX6_fitTo_126 q327 (e19 (nf := nf) h0) ?_
    refine r_iconst (pc := 129) C dX6_fitTo_129 ki0 ?_
    refine r_ialdN (pc := 130) C dX6_fitTo_130 rfl (e20 (nf := nf) h0) (by decide : gin 0 6 = true) kc0 ?_
    refine r_isub (pc := 131) C dX6_fitTo_131 ?_
    refine r_imul (pc := 132) C dX6_fitTo_132 ?_
    refine r_isub (pc := 133) C dX6_fitTo_133 ?_
    obtain ⟨M_21, eM_21, hr⟩ := gLet_some hr
    refine p19_2 (pc := 134) C dX6_fitTo_134 q329 (e19 (nf := nf) h0) eM_21 ?_
    refine r_aload_n (pc := 137) C dX6_fitTo_137 rfl 0 rfl ?_
    refine g19_2 (pc := 138) C dX6_fitTo_138 q329 (e19 (nf := nf) h0) ?_
    refine r_if_ge (pc := 141) (tgt := 148) C dX6_fitTo_141 rfl (fun c_22 => ?_) (fun c_22 => ?_)
    · replace hr := (if_pos c_22).symm.trans hr
      refine r_iconst (pc := 148) C dX6_fitTo_148 ki1 ?_
      refine r_sub C [0, 1, 2, 3] (ls' := [(0, .ref (gad 19 i0)), (1, .ref (gad 5 i1)), (2, .ref (gad 12 0)), (3, .int p3)]) rfl ?_
      exact t_X6_fitTo_J149 C CR h0 h1 hr
    · replace hr := (if_neg c_22).symm.trans hr
      refine r_iconst (pc := 144) C dX6_fitTo_144 ki2 ?_
      refine r_goto (pc := 145) (tgt := 149) C dX6_fitTo_145 rfl ?_
      refine r_sub C [0, 1, 2, 3] (ls' := [(0, .ref (gad 19 i0)), (1, .ref (gad 5 i1)), (2, .ref (gad 12 0)), (3, .int p3)]) rfl ?_
      exact t_X6_fitTo_J149 C CR h0 h1 hr
  · replace hr := (if_neg c_19).symm.trans hr
    exact r_vret (pc := 72) CR dX6_fitTo_72 rfl (gSome hr)
theorem c_X6_fitTo {Ψ : gM → Nat → List (Nat × Value) → List Value → Prop} {G : gG5} {nf : Nat} {cc : ByteArray} {own : String} {nL : Nat} {ret : Option FieldType} {fr lo : Nat} {v0 : Option Value} {M0 M : gM} {pc index : Nat} {ls : List (Nat × Value)} {st : List Value} (C : gC Ψ G (gXn nf) cc own nL ret fr lo v0 M0) (d : decode cc pc = .ok (.invokevirtual index, 3)) (hl : Cond.methodLink own index yX6_fitTo ∈ gws) (hR : 4 ≤ fr ∧ 105 ≤ lo) {i0 : Nat} {i1 : Nat} {p3 : Int32} {i4 : Nat} (h0 : i0 < 10) (h1 : i1 < 2) (h4 : i4 < nf + 3) {M1 : gM} (hr : X6_fitTo i0 i1 p3 i4 M = some M1) (hcat : (st.map fun v => v.category).sum ≤ 8) (k : Ψ M1 (pc + 3) ls (st)) : Ψ M pc ls (.ref (gad 39 i4) :: .int p3 :: .ref (gad 12 0) :: .ref (gad 5 i1) :: .ref (gad 19 i0) :: st) := r_callV C [.ref (gad 5 i1), .ref (gad 12 0), .int p3, .ref (gad 39 i4)] st d (k_X6_fitTo h0 h1 h4 hr) hl q799 q800 q122 q801 hd_X6_fitTo hR rfl (by decide) (e19 (nf := nf) h0) rfl hcat k
theorem hd_X9_fit : yX9_fit.cls ≠ "java/lang/invoke/MethodHandle" ∧ yX9_fit.cls ≠ "java/lang/invoke/VarHandle" ∧ (parseMethodDescriptor yX9_fit.desc).map (fun d => d.parameters.length) = some 1 := by decide +kernel
noncomputable def X9_fit_L2 (i1 : Nat) (x2 : Int32) (M : gM) : Option ((Int32 × gM) ⊕ gM) := (if (M.1 5 1 5) ≤ x2 then some (.inr M) else gG (gin x2 10) ((X6_fitTo (Int32.toNatClampNeg x2) 1 x2 i1 M).bind (fun M_4 => gLet (x2 + 1) (fun x2_5 => some (.inl (x2_5, M_4))))))
theorem t_X9_fit_L2 {Ψ : gM → Nat → List (Nat × Value) → List Value → Prop} {G : gG5} {nf : Nat} {M : gM} {v0 : Option Value} {M0 : gM} {i1 : Nat} {x2 : Int32} {w : ((Int32 × gM) ⊕ gM)} (C : gC Ψ G (gXn nf) cX9_fit RX9 3 none 4 105 v0 M0) (h1 : i1 < nf + 3) (hr : X9_fit_L2 i1 x2 M = some w) (hn : ∀ s, w = .inl s → Ψ s.2 2 [(0, .ref (gad 17 0)), (1, .ref (gad 33 i1)), (2, .int (s.1))] []) (hx : ∀ e, w = .inr e → (fun e => Ψ e 41 [] []) e) : Ψ M 2 [(0, .ref (gad 17 0)), (1, .ref (gad 33 i1)), (2, .int x2)] [] := by
  refine r_iload_n (pc := 2) C dX9_fit_2 rfl 2 rfl ?_
  refine r_aload_n (pc := 3) C dX9_fit_3 rfl 0 rfl ?_
  refine g17_0 (pc := 4) C dX9_fit_4 q376 (e17 nf) ?_
  refine g5_5 (pc := 7) C dX9_fit_7 q213 (e5 (nf := nf) (by decide)) ?_
  refine r_icmp_ge (pc := 10) (tgt := 41) C dX9_fit_10 rfl (fun c_1 => ?_) (fun c_1 => ?_)
  · replace hr := (if_pos c_1).symm.trans hr
    refine r_sub C [] (ls' := []) rfl ?_
    exact hx M (gSome hr)
  · replace hr := (if_neg c_1).symm.trans hr
    refine r_aload_n (pc := 13) C dX9_fit_13 rfl 0 rfl ?_
    refine g17_2 (pc := 14) C dX9_fit_14 q378 (e17 nf) ?_
    refine r_iload_n (pc := 17) C dX9_fit_17 rfl 2 rfl ?_
    obtain ⟨g_2, hr⟩ := gG_some hr
    refine a18 (pc := 18) C dX9_fit_18 g_2 ?_
    refine r_aload_n (pc := 19) C dX9_fit_19 rfl 0 rfl ?_
    refine g17_0 (pc := 20) C dX9_fit_20 q376 (e17 nf) ?_
    refine r_aload_n (pc := 23) C dX9_fit_23 rfl 0 rfl ?_
    refine g17_1 (pc := 24) C dX9_fit_24 q377 (e17 nf) ?_
    refine r_iload_n (pc := 27) C dX9_fit_27 rfl 2 rfl ?_
    refine r_aload_n (pc := 28) C dX9_fit_28 rfl 1 rfl ?_
    refine g33_5 (pc := 29) C dX9_fit_29 q419 (e33 (nf := nf) h1) ?_
    obtain ⟨M_4, hc_3, hr⟩ := gBind_some hr
    refine c_X6_fitTo (pc := 32) C dX9_fit_32 q798 ⟨Nat.le_of_ble_eq_true rfl, Nat.le_of_ble_eq_true rfl⟩ (gin_lt g_2) (by decide) h1 hc_3 (Nat.le_of_ble_eq_true rfl) ?_
    obtain ⟨x2_5, ex2_5, hr⟩ := gLet_some hr
    refine r_iinc (pc := 35) C dX9_fit_35 2 rfl rfl (by decide) ex2_5 (ls' := [(2, .int x2_5), (0, .ref (gad 17 0)), (1, .ref (gad 33 i1))]) rfl ?_
    refine r_goto (pc := 38) (tgt := 2) C dX9_fit_38 rfl ?_
    refine r_sub C [1, 2, 0] (ls' := [(0, .ref (gad 17 0)), (1, .ref (gad 33 i1)), (2, .int x2_5)]) rfl ?_
    exact hn (x2_5, M_4) (gSome hr)
noncomputable def X9_fit (i1 : Nat) (M : gM) : Option gM := (gIter (fun s => X9_fit_L2 i1 s.1 s.2) FU (0, M)).bind (fun M_6 => some M_6)
theorem k_X9_fit {G : gG5} {nf : Nat} {M : gM} {i1 : Nat} (h1 : i1 < nf + 3) {M1 : gM} (hr : X9_fit i1 M = some M1) : gMet G (gXn nf) yX9_fit cX9_fit 3 none 4 105 M [.ref (gad 17 0), .ref (gad 33 i1)] none M1 := by
  refine gMet_of pl_X9 rfl (Nat.le_of_ble_eq_true rfl) (fun Ψ C CR => ?_)
  show Ψ M 0 [(0, .ref (gad 17 0)), (1, .ref (gad 33 i1))] []
  refine r_iconst (pc := 0) C dX9_fit_0 ki0 ?_
  refine r_istore_n (pc := 1) C dX9_fit_1 rfl (by decide) rfl (ls' := [(2, .int 0), (0, .ref (gad 17 0)), (1, .ref (gad 33 i1))]) rfl ?_
  refine r_sub C [1, 2, 0] (ls' := [(0, .ref (gad 17 0)), (1, .ref (gad 33 i1)), (2, .int 0)]) rfl ?_
  obtain ⟨ev, hit, hr⟩ := gBind_some hr
  refine gIter_V (step := fun s => X9_fit_L2 i1 s.1 s.2) (P := fun s => Ψ s.2 2 [(0, .ref (gad 17 0)), (1, .ref (gad 33 i1)), (2, .int (s.1))] []) (K := (fun e => Ψ e 41 [] [])) (fun s w hs hn hx => t_X9_fit_L2 C h1 hs hn hx) FU (0, M) ev hit ?_
  obtain ⟨M_6, rfl⟩ : ∃ z, z = ev := ⟨_, rfl⟩
  show Ψ M_6 41 [] []
  exact r_vret (pc := 41) CR dX9_fit_41 rfl (gSome hr)
theorem c_X9_fit {Ψ : gM → Nat → List (Nat × Value) → List Value → Prop} {G : gG5} {nf : Nat} {cc : ByteArray} {own : String} {nL : Nat} {ret : Option FieldType} {fr lo : Nat} {v0 : Option Value} {M0 M : gM} {pc index : Nat} {ls : List (Nat × Value)} {st : List Value} (C : gC Ψ G (gXn nf) cc own nL ret fr lo v0 M0) (d : decode cc pc = .ok (.invokevirtual index, 3)) (hl : Cond.methodLink own index yX9_fit ∈ gws) (hR : 5 ≤ fr ∧ 127 ≤ lo) {i1 : Nat} (h1 : i1 < nf + 3) {M1 : gM} (hr : X9_fit i1 M = some M1) (hcat : (st.map fun v => v.category).sum ≤ 8) (k : Ψ M1 (pc + 3) ls (st)) : Ψ M pc ls (.ref (gad 33 i1) :: .ref (gad 17 0) :: st) := r_callV C [.ref (gad 33 i1)] st d (k_X9_fit h1 hr) hl q795 q796 q121 q797 hd_X9_fit hR rfl (by decide) (e17 nf) rfl hcat k
theorem hd_X2_forget : yX2_forget.cls ≠ "java/lang/invoke/MethodHandle" ∧ yX2_forget.cls ≠ "java/lang/invoke/VarHandle" ∧ (parseMethodDescriptor yX2_forget.desc).map (fun d => d.parameters.length) = some 0 := by decide +kernel
noncomputable def X2_forget (M : gM) : Option gM := gLet (wI M 43 0 1 0) (fun M_1 => gLet (wI M_1 43 0 2 0) (fun M_2 => some M_2))
theorem k_X2_forget {G : gG5} {nf : Nat} {M : gM} {M1 : gM} (hr : X2_forget M = some M1) : gMet G (gXn nf) yX2_forget cX2_forget 1 none 0 0 M [.ref (gad 43 0)] none M1 := by
  refine gMet_of pl_X2 rfl (Nat.le_of_ble_eq_true rfl) (fun Ψ C CR => ?_)
  show Ψ M 0 [(0, .ref (gad 43 0))] []
  refine r_aload_n (pc := 0) C dX2_forget_0 rfl 0 rfl ?_
  refine r_iconst (pc := 1) C dX2_forget_1 ki0 ?_
  obtain ⟨M_1, eM_1, hr⟩ := gLet_some hr
  refine p43_1 (pc := 2) C dX2_forget_2 q506 (e43 nf) eM_1 ?_
  refine r_aload_n (pc := 5) C dX2_forget_5 rfl 0 rfl ?_
  refine r_iconst (pc := 6) C dX2_forget_6 ki0 ?_
  obtain ⟨M_2, eM_2, hr⟩ := gLet_some hr
  refine p43_2 (pc := 7) C dX2_forget_7 q507 (e43 nf) eM_2 ?_
  exact r_vret (pc := 10) CR dX2_forget_10 rfl (gSome hr)
theorem c_X2_forget {Ψ : gM → Nat → List (Nat × Value) → List Value → Prop} {G : gG5} {nf : Nat} {cc : ByteArray} {own : String} {nL : Nat} {ret : Option FieldType} {fr lo : Nat} {v0 : Option Value} {M0 M : gM} {pc index : Nat} {ls : List (Nat × Value)} {st : List Value} (C : gC Ψ G (gXn nf) cc own nL ret fr lo v0 M0) (d : decode cc pc = .ok (.invokevirtual index, 3)) (hl : Cond.methodLink own index yX2_forget ∈ gws) (hR : 1 ≤ fr ∧ 20 ≤ lo) {M1 : gM} (hr : X2_forget M = some M1) (hcat : (st.map fun v => v.category).sum ≤ 8) (k : Ψ M1 (pc + 3) ls (st)) : Ψ M pc ls (.ref (gad 43 0) :: st) := r_callV C [] st d (k_X2_forget hr) hl q852 q853 q125 q854 hd_X2_forget hR rfl (by decide) (e43 nf) rfl hcat k
theorem hd_X10_begin : yX10_begin.cls ≠ "java/lang/invoke/MethodHandle" ∧ yX10_begin.cls ≠ "java/lang/invoke/VarHandle" ∧ (parseMethodDescriptor yX10_begin.desc).map (fun d => d.parameters.length) = some 0 := by decide +kernel
noncomputable def X10_begin (M : gM) : Option gM := (X4_copyFrom 1 0 M).bind (fun M_2 => (X1_layOut 1 M_2).bind (fun M_4 => (X0_beginWith 0 1 M_4).bind (fun M_6 => (X9_forgetShapes M_6).bind (fun M_8 => (X9_fit 0 M_8).bind (fun M_10 => (X2_forget M_10).bind (fun M_12 => gLet (wI M_12 0 0 14 0) (fun M_13 => some M_13)))))))
theorem k_X10_begin {G : gG5} {nf : Nat} {M : gM} {M1 : gM} (hr : X10_begin M = some M1) : gMet G (gXn nf) yX10_begin cX10_begin 1 none 5 127 M [.ref (gad 0 0)] none M1 := by
  refine gMet_of pl_X10 rfl (Nat.le_of_ble_eq_true rfl) (fun Ψ C CR => ?_)
  show Ψ M 0 [(0, .ref (gad 0 0))] []
  refine r_aload_n (pc := 0) C dX10_begin_0 rfl 0 rfl ?_
  refine g0_3 (pc := 1) C dX10_begin_1 q537 (e0 nf) ?_
  refine r_aload_n (pc := 4) C dX10_begin_4 rfl 0 rfl ?_
  refine g0_2 (pc := 5) C dX10_begin_5 q536 (e0 nf) ?_
  obtain ⟨M_2, hc_1, hr⟩ := gBind_some hr
  refine c_X4_copyFrom (pc := 8) C dX10_begin_8 q729 ⟨Nat.le_of_ble_eq_true rfl, Nat.le_of_ble_eq_true rfl⟩ (by decide) (by decide) hc_1 (Nat.le_of_ble_eq_true rfl) ?_
  refine r_aload_n (pc := 11) C dX10_begin_11 rfl 0 rfl ?_
  refine g0_4 (pc := 12) C dX10_begin_12 q538 (e0 nf) ?_
  refine r_aload_n (pc := 15) C dX10_begin_15 rfl 0 rfl ?_
  refine g0_3 (pc := 16) C dX10_begin_16 q537 (e0 nf) ?_
  obtain ⟨M_4, hc_3, hr⟩ := gBind_some hr
  refine c_X1_layOut (pc := 19) C dX10_begin_19 q736 ⟨Nat.le_of_ble_eq_true rfl, Nat.le_of_ble_eq_true rfl⟩ (by decide) hc_3 (Nat.le_of_ble_eq_true rfl) ?_
  refine r_aload_n (pc := 22) C dX10_begin_22 rfl 0 rfl ?_
  refine g0_7 (pc := 23) C dX10_begin_23 q541 (e0 nf) ?_
  refine r_aload_n (pc := 26) C dX10_begin_26 rfl 0 rfl ?_
  refine g0_3 (pc := 27) C dX10_begin_27 q537 (e0 nf) ?_
  obtain ⟨M_6, hc_5, hr⟩ := gBind_some hr
  refine c_X0_beginWith (pc := 30) C dX10_begin_30 q771 ⟨Nat.le_of_ble_eq_true rfl, Nat.le_of_ble_eq_true rfl⟩ (gf0 nf) (by decide) hc_5 (Nat.le_of_ble_eq_true rfl) ?_
  refine r_aload_n (pc := 33) C dX10_begin_33 rfl 0 rfl ?_
  refine g0_5 (pc := 34) C dX10_begin_34 q539 (e0 nf) ?_
  obtain ⟨M_8, hc_7, hr⟩ := gBind_some hr
  refine c_X9_forgetShapes (pc := 37) C dX10_begin_37 q786 ⟨Nat.le_of_ble_eq_true rfl, Nat.le_of_ble_eq_true rfl⟩ hc_7 (Nat.le_of_ble_eq_true rfl) ?_
  refine r_aload_n (pc := 40) C dX10_begin_40 rfl 0 rfl ?_
  refine g0_5 (pc := 41) C dX10_begin_41 q539 (e0 nf) ?_
  refine r_aload_n (pc := 44) C dX10_begin_44 rfl 0 rfl ?_
  refine g0_7 (pc := 45) C dX10_begin_45 q541 (e0 nf) ?_
  obtain ⟨M_10, hc_9, hr⟩ := gBind_some hr
  refine c_X9_fit (pc := 48) C dX10_begin_48 q794 ⟨Nat.le_of_ble_eq_true rfl, Nat.le_of_ble_eq_true rfl⟩ (gf0 nf) hc_9 (Nat.le_of_ble_eq_true rfl) ?_
  refine r_aload_n (pc := 51) C dX10_begin_51 rfl 0 rfl ?_
  refine g0_9 (pc := 52) C dX10_begin_52 q543 (e0 nf) ?_
  obtain ⟨M_12, hc_11, hr⟩ := gBind_some hr
  refine c_X2_forget (pc := 55) C dX10_begin_55 q851 ⟨Nat.le_of_ble_eq_true rfl, Nat.le_of_ble_eq_true rfl⟩ hc_11 (Nat.le_of_ble_eq_true rfl) ?_
  refine r_aload_n (pc := 58) C dX10_begin_58 rfl 0 rfl ?_
  refine r_iconst (pc := 59) C dX10_begin_59 ki0 ?_
  obtain ⟨M_13, eM_13, hr⟩ := gLet_some hr
  refine p0_14 (pc := 60) C dX10_begin_60 q548 (e0 nf) rfl eM_13 ?_
  exact r_vret (pc := 63) CR dX10_begin_63 rfl (gSome hr)
theorem c_X10_begin {Ψ : gM → Nat → List (Nat × Value) → List Value → Prop} {G : gG5} {nf : Nat} {cc : ByteArray} {own : String} {nL : Nat} {ret : Option FieldType} {fr lo : Nat} {v0 : Option Value} {M0 M : gM} {pc index : Nat} {ls : List (Nat × Value)} {st : List Value} (C : gC Ψ G (gXn nf) cc own nL ret fr lo v0 M0) (d : decode cc pc = .ok (.invokevirtual index, 3)) (hl : Cond.methodLink own index yX10_begin ∈ gws) (hR : 6 ≤ fr ∧ 147 ≤ lo) {M1 : gM} (hr : X10_begin M = some M1) (hcat : (st.map fun v => v.category).sum ≤ 8) (k : Ψ M1 (pc + 3) ls (st)) : Ψ M pc ls (.ref (gad 0 0) :: st) := r_callV C [] st d (k_X10_begin hr) hl q727 q8 q116 q728 hd_X10_begin hR rfl (by decide) (e0 nf) rfl hcat k
theorem hd_X10_text : yX10_text.cls ≠ "java/lang/invoke/MethodHandle" ∧ yX10_text.cls ≠ "java/lang/invoke/VarHandle" ∧ (parseMethodDescriptor yX10_text.desc).map (fun d => d.parameters.length) = some 1 := by decide +kernel
noncomputable def X10_text_J39 (x1 : Int32) (M : gM) : Option (Int32 × gM) := (if x1 = 1 then (if 4 ≤ (M.1 0 0 13) then some ((-1), M) else gG (gin (M.1 0 0 13) 5) ((X3_readScript (Int32.toNatClampNeg (M.1 0 0 13)) M).bind (gU2 (fun r_6 M_7 => (if r_6 = (-1) then gLet (wI M_7 1 0 1 0) (fun M_9 => gLet (wI M_9 0 0 13 ((M_9.1 0 0 13) + 1)) (fun M_10 => some (((M_10.1 0 0 13) - 1), M_10))) else some ((-1), M_7)))))) else some ((-1), M))
theorem t_X10_text_J39 {Ψ : gM → Nat → List (Nat × Value) → List Value → Prop} {G : gG5} {nf : Nat} {M : gM} {x1 : Int32} {r : Int32} {M1 : gM} (C : gC Ψ G (gXn nf) cX10_text RX10 2 (some .int) 9 213 (some (.int r)) M1) (CR : gR Ψ cX10_text (some .int) (some (.int r)) M1) (hr : X10_text_J39 x1 M = some (r, M1)) : Ψ M 39 [(0, .ref (gad 0 0)), (1, .int x1)] [] := by
  refine r_iload_n (pc := 39) C dX10_text_39 rfl 1 rfl ?_
  refine r_iconst (pc := 40) C dX10_text_40 ki1 ?_
  refine r_icmp_ne (pc := 41) (tgt := 97) C dX10_text_41 rfl (fun c_2 => ?_) (fun c_2 => ?_)
  · replace hr := (if_neg c_2).symm.trans hr
    refine r_iconst (pc := 97) C dX10_text_97 kim1 ?_
    exact r_iret (pc := 98) CR dX10_text_98 (congrArg (fun z => some (Value.int z)) (Prod.mk.inj (gSome hr)).1) (Prod.mk.inj (gSome hr)).2
  · replace hr := (if_pos c_2).symm.trans hr
    refine r_aload_n (pc := 44) C dX10_text_44 rfl 0 rfl ?_
    refine g0_13 (pc := 45) C dX10_text_45 q547 (e0 nf) ?_
    refine r_iconst (pc := 48) C dX10_text_48 ki4 ?_
    refine r_icmp_ge (pc := 49) (tgt := 97) C dX10_text_49 rfl (fun c_3 => ?_) (fun c_3 => ?_)
    · replace hr := (if_pos c_3).symm.trans hr
      refine r_iconst (pc := 97) C dX10_text_97 kim1 ?_
      exact r_iret (pc := 98) CR dX10_text_98 (congrArg (fun z => some (Value.int z)) (Prod.mk.inj (gSome hr)).1) (Prod.mk.inj (gSome hr)).2
    · replace hr := (if_neg c_3).symm.trans hr
      refine r_aload_n (pc := 52) C dX10_text_52 rfl 0 rfl ?_
      refine g0_1 (pc := 53) C dX10_text_53 q535 (e0 nf) ?_
      refine r_aload_n (pc := 56) C dX10_text_56 rfl 0 rfl ?_
      refine g0_10 (pc := 57) C dX10_text_57 q544 (e0 nf) ?_
      refine r_aload_n (pc := 60) C dX10_text_60 rfl 0 rfl ?_
      refine g0_13 (pc := 61) C dX10_text_61 q547 (e0 nf) ?_
      obtain ⟨g_4, hr⟩ := gG_some hr
      refine a45 (pc := 64) C dX10_text_64 g_4 ?_
      obtain ⟨⟨r_6, M_7⟩, hc_5, hr⟩ := gBind_some hr
      replace hr := gU2_some hr
      refine c_X3_readScript (pc := 65) C dX10_text_65 q705 ⟨Nat.le_of_ble_eq_true rfl, Nat.le_of_ble_eq_true rfl⟩ (gin_lt g_4) hc_5 (Nat.le_of_ble_eq_true rfl) ?_
      refine r_iconst (pc := 68) C dX10_text_68 kim1 ?_
      refine r_icmp_ne (pc := 69) (tgt := 97) C dX10_text_69 rfl (fun c_8 => ?_) (fun c_8 => ?_)
      · replace hr := (if_neg c_8).symm.trans hr
        refine r_iconst (pc := 97) C dX10_text_97 kim1 ?_
        exact r_iret (pc := 98) CR dX10_text_98 (congrArg (fun z => some (Value.int z)) (Prod.mk.inj (gSome hr)).1) (Prod.mk.inj (gSome hr)).2
      · replace hr := (if_pos c_8).symm.trans hr
        refine r_aload_n (pc := 72) C dX10_text_72 rfl 0 rfl ?_
        refine g0_0 (pc := 73) C dX10_text_73 q534 (e0 nf) ?_
        refine r_iconst (pc := 76) C dX10_text_76 ki0 ?_
        obtain ⟨M_9, eM_9, hr⟩ := gLet_some hr
        refine p1_1 (pc := 77) C dX10_text_77 q157 (e1 nf) eM_9 ?_
        refine r_aload_n (pc := 80) C dX10_text_80 rfl 0 rfl ?_
        refine r_dup (pc := 81) C dX10_text_81 rfl ?_
        refine g0_13 (pc := 82) C dX10_text_82 q547 (e0 nf) ?_
        refine r_iconst (pc := 85) C dX10_text_85 ki1 ?_
        refine r_iadd (pc := 86) C dX10_text_86 ?_
        obtain ⟨M_10, eM_10, hr⟩ := gLet_some hr
        refine p0_13 (pc := 87) C dX10_text_87 q547 (e0 nf) eM_10 ?_
        refine r_aload_n (pc := 90) C dX10_text_90 rfl 0 rfl ?_
        refine g0_13 (pc := 91) C dX10_text_91 q547 (e0 nf) ?_
        refine r_iconst (pc := 94) C dX10_text_94 ki1 ?_
        refine r_isub (pc := 95) C dX10_text_95 ?_
        exact r_iret (pc := 96) CR dX10_text_96 (congrArg (fun z => some (Value.int z)) (Prod.mk.inj (gSome hr)).1) (Prod.mk.inj (gSome hr)).2
noncomputable def X10_text (p1 : Int32) (M : gM) : Option (Int32 × gM) := (if p1 = 0 then (X3_readScene 0 M).bind (gU2 (fun r_12 M_13 => (if r_12 = (-1) then gLet (wI M_13 1 0 1 0) (fun M_15 => (X10_begin M_15).bind (fun M_17 => some ((M_17.1 5 1 5), M_17))) else X10_text_J39 p1 M_13))) else X10_text_J39 p1 M)
theorem k_X10_text {G : gG5} {nf : Nat} {M : gM} {p1 : Int32} {r : Int32} {M1 : gM} (hr : X10_text p1 M = some (r, M1)) : gMet G (gXn nf) yX10_text cX10_text 2 (some .int) 9 213 M [.ref (gad 0 0), .int p1] (some (.int r)) M1 := by
  refine gMet_of pl_X10 rfl (Nat.le_of_ble_eq_true rfl) (fun Ψ C CR => ?_)
  show Ψ M 0 [(0, .ref (gad 0 0)), (1, .int p1)] []
  refine r_iload_n (pc := 0) C dX10_text_0 rfl 1 rfl ?_
  refine r_if_ne (pc := 1) (tgt := 39) C dX10_text_1 rfl (fun c_1 => ?_) (fun c_1 => ?_)
  · replace hr := (if_neg c_1).symm.trans hr
    exact t_X10_text_J39 C CR  hr
  · replace hr := (if_pos c_1).symm.trans hr
    refine r_aload_n (pc := 4) C dX10_text_4 rfl 0 rfl ?_
    refine g0_1 (pc := 5) C dX10_text_5 q535 (e0 nf) ?_
    refine r_aload_n (pc := 8) C dX10_text_8 rfl 0 rfl ?_
    refine g0_2 (pc := 9) C dX10_text_9 q536 (e0 nf) ?_
    obtain ⟨⟨r_12, M_13⟩, hc_11, hr⟩ := gBind_some hr
    replace hr := gU2_some hr
    refine c_X3_readScene (pc := 12) C dX10_text_12 q602 ⟨Nat.le_of_ble_eq_true rfl, Nat.le_of_ble_eq_true rfl⟩ (by decide) hc_11 (Nat.le_of_ble_eq_true rfl) ?_
    refine r_iconst (pc := 15) C dX10_text_15 kim1 ?_
    refine r_icmp_ne (pc := 16) (tgt := 39) C dX10_text_16 rfl (fun c_14 => ?_) (fun c_14 => ?_)
    · replace hr := (if_neg c_14).symm.trans hr
      exact t_X10_text_J39 C CR  hr
    · replace hr := (if_pos c_14).symm.trans hr
      refine r_aload_n (pc := 19) C dX10_text_19 rfl 0 rfl ?_
      refine g0_0 (pc := 20) C dX10_text_20 q534 (e0 nf) ?_
      refine r_iconst (pc := 23) C dX10_text_23 ki0 ?_
      obtain ⟨M_15, eM_15, hr⟩ := gLet_some hr
      refine p1_1 (pc := 24) C dX10_text_24 q157 (e1 nf) eM_15 ?_
      refine r_aload_n (pc := 27) C dX10_text_27 rfl 0 rfl ?_
      obtain ⟨M_17, hc_16, hr⟩ := gBind_some hr
      refine c_X10_begin (pc := 28) C dX10_text_28 q725 ⟨Nat.le_of_ble_eq_true rfl, Nat.le_of_ble_eq_true rfl⟩ hc_16 (Nat.le_of_ble_eq_true rfl) ?_
      refine r_aload_n (pc := 31) C dX10_text_31 rfl 0 rfl ?_
      refine g0_3 (pc := 32) C dX10_text_32 q537 (e0 nf) ?_
      refine g5_5 (pc := 35) C dX10_text_35 q216 (e5 (nf := nf) (by decide)) ?_
      exact r_iret (pc := 38) CR dX10_text_38 (congrArg (fun z => some (Value.int z)) (Prod.mk.inj (gSome hr)).1) (Prod.mk.inj (gSome hr)).2
theorem c_X10_text {Ψ : gM → Nat → List (Nat × Value) → List Value → Prop} {G : gG5} {nf : Nat} {cc : ByteArray} {own : String} {nL : Nat} {ret : Option FieldType} {fr lo : Nat} {v0 : Option Value} {M0 M : gM} {pc index : Nat} {ls : List (Nat × Value)} {st : List Value} (C : gC Ψ G (gXn nf) cc own nL ret fr lo v0 M0) (d : decode cc pc = .ok (.invokevirtual index, 3)) (hl : Cond.methodLink own index yX10_text ∈ gws) (hR : 10 ≤ fr ∧ 234 ≤ lo) {p1 : Int32} {r : Int32} {M1 : gM} (hr : X10_text p1 M = some (r, M1)) (hcat : (st.map fun v => v.category).sum ≤ 8) (k : Ψ M1 (pc + 3) ls (.int r :: st)) : Ψ M pc ls (.int p1 :: .ref (gad 0 0) :: st) := r_callV C [.int p1] st d (k_X10_text hr) hl q722 q723 q116 q724 hd_X10_text hR rfl (by decide) (e0 nf) rfl hcat k
theorem hd_X10_hasScene : yX10_hasScene.cls ≠ "java/lang/invoke/MethodHandle" ∧ yX10_hasScene.cls ≠ "java/lang/invoke/VarHandle" ∧ (parseMethodDescriptor yX10_hasScene.desc).map (fun d => d.parameters.length) = some 0 := by decide +kernel
noncomputable def X10_hasScene (M : gM) : Option Int32 := (if (M.1 5 1 5) ≤ 0 then some 0 else some 1)
theorem k_X10_hasScene {G : gG5} {nf : Nat} {M : gM} {r : Int32} (hr : X10_hasScene M = some r) : gMet G (gXn nf) yX10_hasScene cX10_hasScene 1 (some .boolean) 0 0 M [.ref (gad 0 0)] (some (.int r)) M := by
  refine gMet_of pl_X10 rfl (Nat.le_of_ble_eq_true rfl) (fun Ψ C CR => ?_)
  show Ψ M 0 [(0, .ref (gad 0 0))] []
  refine r_aload_n (pc := 0) C dX10_hasScene_0 rfl 0 rfl ?_
  refine g0_3 (pc := 1) C dX10_hasScene_1 q537 (e0 nf) ?_
  refine g5_5 (pc := 4) C dX10_hasScene_4 q216 (e5 (nf := nf) (by decide)) ?_
  refine r_if_le (pc := 7) (tgt := 14) C dX10_hasScene_7 rfl (fun c_1 => ?_) (fun c_1 => ?_)
  · replace hr := (if_pos c_1).symm.trans hr
    refine r_iconst (pc := 14) C dX10_hasScene_14 ki0 ?_
    exact r_zret (pc := 15) CR dX10_hasScene_15 rfl (congrArg (fun z => some (Value.int z)) (gSome hr)) rfl
  · replace hr := (if_neg c_1).symm.trans hr
    refine r_iconst (pc := 10) C dX10_hasScene_10 ki1 ?_
    refine r_goto (pc := 11) (tgt := 15) C dX10_hasScene_11 rfl ?_
    exact r_zret (pc := 15) CR dX10_hasScene_15 rfl (congrArg (fun z => some (Value.int z)) (gSome hr)) rfl
theorem c_X10_hasScene {Ψ : gM → Nat → List (Nat × Value) → List Value → Prop} {G : gG5} {nf : Nat} {cc : ByteArray} {own : String} {nL : Nat} {ret : Option FieldType} {fr lo : Nat} {v0 : Option Value} {M0 M : gM} {pc index : Nat} {ls : List (Nat × Value)} {st : List Value} (C : gC Ψ G (gXn nf) cc own nL ret fr lo v0 M0) (d : decode cc pc = .ok (.invokevirtual index, 3)) (hl : Cond.methodLink own index yX10_hasScene ∈ gws) (hR : 1 ≤ fr ∧ 20 ≤ lo) {r : Int32} (hr : X10_hasScene M = some r) (hcat : (st.map fun v => v.category).sum ≤ 8) (k : Ψ M (pc + 3) ls (.int r :: st)) : Ψ M pc ls (.ref (gad 0 0) :: st) := r_callV C [] st d (k_X10_hasScene hr) hl q861 q18 q116 q862 hd_X10_hasScene hR rfl (by decide) (e0 nf) rfl hcat k
theorem hd_X10_rule : yX10_rule.cls ≠ "java/lang/invoke/MethodHandle" ∧ yX10_rule.cls ≠ "java/lang/invoke/VarHandle" ∧ (parseMethodDescriptor yX10_rule.desc).map (fun d => d.parameters.length) = some 1 := by decide +kernel
noncomputable def X10_rule (p1 : Int32) (M : gM) : Option Int32 := (X10_hasScene M).bind (fun r_2 => (if r_2 = 0 then some (-1) else (if p1 = 0 then some (M.1 5 1 0) else if p1 = 1 then some (M.1 5 1 1) else if p1 = 2 then some (M.1 5 1 2) else if p1 = 3 then some (M.1 5 1 3) else if p1 = 4 then some (M.1 5 1 4) else if p1 = 5 then some (M.1 40 0 0) else if p1 = 6 then some (M.1 40 0 1) else if p1 = 7 then some (M.1 40 0 2) else if p1 = 8 then some (M.1 40 0 3) else if p1 = 9 then some (M.1 12 0 5) else some (-1))))
theorem k_X10_rule {G : gG5} {nf : Nat} {M : gM} {p1 : Int32} {r : Int32} (hr : X10_rule p1 M = some r) : gMet G (gXn nf) yX10_rule cX10_rule 2 (some .int) 1 20 M [.ref (gad 0 0), .int p1] (some (.int r)) M := by
  refine gMet_of pl_X10 rfl (Nat.le_of_ble_eq_true rfl) (fun Ψ C CR => ?_)
  show Ψ M 0 [(0, .ref (gad 0 0)), (1, .int p1)] []
  refine r_aload_n (pc := 0) C dX10_rule_0 rfl 0 rfl ?_
  obtain ⟨r_2, hc_1, hr⟩ := gBind_some hr
  refine c_X10_hasScene (pc := 1) C dX10_rule_1 q859 ⟨Nat.le_of_ble_eq_true rfl, Nat.le_of_ble_eq_true rfl⟩ hc_1 (Nat.le_of_ble_eq_true rfl) ?_
  refine r_if_ne (pc := 4) (tgt := 9) C dX10_rule_4 rfl (fun c_3 => ?_) (fun c_3 => ?_)
  · replace hr := (if_neg c_3).symm.trans hr
    refine r_iload_n (pc := 9) C dX10_rule_9 rfl 1 rfl ?_
    by_cases c_4_0 : p1 = 0
    · replace hr := (if_pos c_4_0).symm.trans hr
      refine r_tableIn (pc := 10) (tgt := 64) (off := 54) C dX10_rule_10 0 c_4_0 (by decide) rfl ?_
      refine r_aload_n (pc := 64) C dX10_rule_64 rfl 0 rfl ?_
      refine g0_3 (pc := 65) C dX10_rule_65 q537 (e0 nf) ?_
      refine g5_0 (pc := 68) C dX10_rule_68 q197 (e5 (nf := nf) (by decide)) ?_
      exact r_iret (pc := 71) CR dX10_rule_71 (congrArg (fun z => some (Value.int z)) (gSome hr)) rfl
    replace hr := (if_neg c_4_0).symm.trans hr
    by_cases c_4_1 : p1 = 1
    · replace hr := (if_pos c_4_1).symm.trans hr
      refine r_tableIn (pc := 10) (tgt := 72) (off := 62) C dX10_rule_10 1 c_4_1 (by decide) rfl ?_
      refine r_aload_n (pc := 72) C dX10_rule_72 rfl 0 rfl ?_
      refine g0_3 (pc := 73) C dX10_rule_73 q537 (e0 nf) ?_
      refine g5_1 (pc := 76) C dX10_rule_76 q200 (e5 (nf := nf) (by decide)) ?_
      exact r_iret (pc := 79) CR dX10_rule_79 (congrArg (fun z => some (Value.int z)) (gSome hr)) rfl
    replace hr := (if_neg c_4_1).symm.trans hr
    by_cases c_4_2 : p1 = 2
    · replace hr := (if_pos c_4_2).symm.trans hr
      refine r_tableIn (pc := 10) (tgt := 80) (off := 70) C dX10_rule_10 2 c_4_2 (by decide) rfl ?_
      refine r_aload_n (pc := 80) C dX10_rule_80 rfl 0 rfl ?_
      refine g0_3 (pc := 81) C dX10_rule_81 q537 (e0 nf) ?_
      refine g5_2 (pc := 84) C dX10_rule_84 q203 (e5 (nf := nf) (by decide)) ?_
      exact r_iret (pc := 87) CR dX10_rule_87 (congrArg (fun z => some (Value.int z)) (gSome hr)) rfl
    replace hr := (if_neg c_4_2).symm.trans hr
    by_cases c_4_3 : p1 = 3
    · replace hr := (if_pos c_4_3).symm.trans hr
      refine r_tableIn (pc := 10) (tgt := 88) (off := 78) C dX10_rule_10 3 c_4_3 (by decide) rfl ?_
      refine r_aload_n (pc := 88) C dX10_rule_88 rfl 0 rfl ?_
      refine g0_3 (pc := 89) C dX10_rule_89 q537 (e0 nf) ?_
      refine g5_3 (pc := 92) C dX10_rule_92 q206 (e5 (nf := nf) (by decide)) ?_
      exact r_iret (pc := 95) CR dX10_rule_95 (congrArg (fun z => some (Value.int z)) (gSome hr)) rfl
    replace hr := (if_neg c_4_3).symm.trans hr
    by_cases c_4_4 : p1 = 4
    · replace hr := (if_pos c_4_4).symm.trans hr
      refine r_tableIn (pc := 10) (tgt := 96) (off := 86) C dX10_rule_10 4 c_4_4 (by decide) rfl ?_
      refine r_aload_n (pc := 96) C dX10_rule_96 rfl 0 rfl ?_
      refine g0_3 (pc := 97) C dX10_rule_97 q537 (e0 nf) ?_
      refine g5_4 (pc := 100) C dX10_rule_100 q210 (e5 (nf := nf) (by decide)) ?_
      exact r_iret (pc := 103) CR dX10_rule_103 (congrArg (fun z => some (Value.int z)) (gSome hr)) rfl
    replace hr := (if_neg c_4_4).symm.trans hr
    by_cases c_4_5 : p1 = 5
    · replace hr := (if_pos c_4_5).symm.trans hr
      refine r_tableIn (pc := 10) (tgt := 104) (off := 94) C dX10_rule_10 5 c_4_5 (by decide) rfl ?_
      refine r_aload_n (pc := 104) C dX10_rule_104 rfl 0 rfl ?_
      refine g0_7 (pc := 105) C dX10_rule_105 q541 (e0 nf) ?_
      refine g33_6 (pc := 108) C dX10_rule_108 q424 (e33 (nf := nf) (gf0 nf)) ?_
      refine r_iconst (pc := 111) C dX10_rule_111 ki0 ?_
      refine r_ialdN (pc := 112) C dX10_rule_112 rfl (e40 (nf := nf) (gf0 nf)) (by decide : gin 0 4 = true) kc0 ?_
      exact r_iret (pc := 113) CR dX10_rule_113 (congrArg (fun z => some (Value.int z)) (gSome hr)) rfl
    replace hr := (if_neg c_4_5).symm.trans hr
    by_cases c_4_6 : p1 = 6
    · replace hr := (if_pos c_4_6).symm.trans hr
      refine r_tableIn (pc := 10) (tgt := 114) (off := 104) C dX10_rule_10 6 c_4_6 (by decide) rfl ?_
      refine r_aload_n (pc := 114) C dX10_rule_114 rfl 0 rfl ?_
      refine g0_7 (pc := 115) C dX10_rule_115 q541 (e0 nf) ?_
      refine g33_6 (pc := 118) C dX10_rule_118 q424 (e33 (nf := nf) (gf0 nf)) ?_
      refine r_iconst (pc := 121) C dX10_rule_121 ki1 ?_
      refine r_ialdN (pc := 122) C dX10_rule_122 rfl (e40 (nf := nf) (gf0 nf)) (by decide : gin 1 4 = true) kc1 ?_
      exact r_iret (pc := 123) CR dX10_rule_123 (congrArg (fun z => some (Value.int z)) (gSome hr)) rfl
    replace hr := (if_neg c_4_6).symm.trans hr
    by_cases c_4_7 : p1 = 7
    · replace hr := (if_pos c_4_7).symm.trans hr
      refine r_tableIn (pc := 10) (tgt := 124) (off := 114) C dX10_rule_10 7 c_4_7 (by decide) rfl ?_
      refine r_aload_n (pc := 124) C dX10_rule_124 rfl 0 rfl ?_
      refine g0_7 (pc := 125) C dX10_rule_125 q541 (e0 nf) ?_
      refine g33_6 (pc := 128) C dX10_rule_128 q424 (e33 (nf := nf) (gf0 nf)) ?_
      refine r_iconst (pc := 131) C dX10_rule_131 ki2 ?_
      refine r_ialdN (pc := 132) C dX10_rule_132 rfl (e40 (nf := nf) (gf0 nf)) (by decide : gin 2 4 = true) kc2 ?_
      exact r_iret (pc := 133) CR dX10_rule_133 (congrArg (fun z => some (Value.int z)) (gSome hr)) rfl
    replace hr := (if_neg c_4_7).symm.trans hr
    by_cases c_4_8 : p1 = 8
    · replace hr := (if_pos c_4_8).symm.trans hr
      refine r_tableIn (pc := 10) (tgt := 134) (off := 124) C dX10_rule_10 8 c_4_8 (by decide) rfl ?_
      refine r_aload_n (pc := 134) C dX10_rule_134 rfl 0 rfl ?_
      refine g0_7 (pc := 135) C dX10_rule_135 q541 (e0 nf) ?_
      refine g33_6 (pc := 138) C dX10_rule_138 q424 (e33 (nf := nf) (gf0 nf)) ?_
      refine r_iconst (pc := 141) C dX10_rule_141 ki3 ?_
      refine r_ialdN (pc := 142) C dX10_rule_142 rfl (e40 (nf := nf) (gf0 nf)) (by decide : gin 3 4 = true) kc3 ?_
      exact r_iret (pc := 143) CR dX10_rule_143 (congrArg (fun z => some (Value.int z)) (gSome hr)) rfl
    replace hr := (if_neg c_4_8).symm.trans hr
    by_cases c_4_9 : p1 = 9
    · replace hr := (if_pos c_4_9).symm.trans hr
      refine r_tableIn (pc := 10) (tgt := 144) (off := 134) C dX10_rule_10 9 c_4_9 (by decide) rfl ?_
      refine r_aload_n (pc := 144) C dX10_rule_144 rfl 0 rfl ?_
      refine g0_4 (pc := 145) C dX10_rule_145 q538 (e0 nf) ?_
      refine g12_5 (pc := 148) C dX10_rule_148 q274 (e12 nf) ?_
      exact r_iret (pc := 151) CR dX10_rule_151 (congrArg (fun z => some (Value.int z)) (gSome hr)) rfl
    replace hr := (if_neg c_4_9).symm.trans hr
    refine r_tableOut (pc := 10) (tgt := 152) C dX10_rule_10 (fun k h1 h2 => ?_) rfl ?_
    · rcases (show k = 0 ∨ k = 1 ∨ k = 2 ∨ k = 3 ∨ k = 4 ∨ k = 5 ∨ k = 6 ∨ k = 7 ∨ k = 8 ∨ k = 9 by omega) with rfl | rfl | rfl | rfl | rfl | rfl | rfl | rfl | rfl | rfl
      all_goals assumption
    · refine r_iconst (pc := 152) C dX10_rule_152 kim1 ?_
      exact r_iret (pc := 153) CR dX10_rule_153 (congrArg (fun z => some (Value.int z)) (gSome hr)) rfl
  · replace hr := (if_pos c_3).symm.trans hr
    refine r_iconst (pc := 7) C dX10_rule_7 kim1 ?_
    exact r_iret (pc := 8) CR dX10_rule_8 (congrArg (fun z => some (Value.int z)) (gSome hr)) rfl
theorem c_X10_rule {Ψ : gM → Nat → List (Nat × Value) → List Value → Prop} {G : gG5} {nf : Nat} {cc : ByteArray} {own : String} {nL : Nat} {ret : Option FieldType} {fr lo : Nat} {v0 : Option Value} {M0 M : gM} {pc index : Nat} {ls : List (Nat × Value)} {st : List Value} (C : gC Ψ G (gXn nf) cc own nL ret fr lo v0 M0) (d : decode cc pc = .ok (.invokevirtual index, 3)) (hl : Cond.methodLink own index yX10_rule ∈ gws) (hR : 2 ≤ fr ∧ 41 ≤ lo) {p1 : Int32} {r : Int32} (hr : X10_rule p1 M = some r) (hcat : (st.map fun v => v.category).sum ≤ 8) (k : Ψ M (pc + 3) ls (.int r :: st)) : Ψ M pc ls (.int p1 :: .ref (gad 0 0) :: st) := r_callV C [.int p1] st d (k_X10_rule hr) hl q856 q857 q116 q858 hd_X10_rule hR rfl (by decide) (e0 nf) rfl hcat k
theorem hd_X4_has : yX4_has.cls ≠ "java/lang/invoke/MethodHandle" ∧ yX4_has.cls ≠ "java/lang/invoke/VarHandle" ∧ (parseMethodDescriptor yX4_has.desc).map (fun d => d.parameters.length) = some 1 := by decide +kernel
noncomputable def X4_has (i0 : Nat) (p1 : Int32) (M : gM) : Option Int32 := (if p1 < 0 then some 0 else (if (M.1 5 i0 5) ≤ p1 then some 0 else some 1))
theorem k_X4_has {G : gG5} {nf : Nat} {M : gM} {i0 : Nat} {p1 : Int32} (h0 : i0 < 2) {r : Int32} (hr : X4_has i0 p1 M = some r) : gMet G (gXn nf) yX4_has cX4_has 2 (some .boolean) 0 0 M [.ref (gad 5 i0), .int p1] (some (.int r)) M := by
  refine gMet_of pl_X4 rfl (Nat.le_of_ble_eq_true rfl) (fun Ψ C CR => ?_)
  show Ψ M 0 [(0, .ref (gad 5 i0)), (1, .int p1)] []
  refine r_iload_n (pc := 0) C dX4_has_0 rfl 1 rfl ?_
  refine r_if_lt (pc := 1) (tgt := 16) C dX4_has_1 rfl (fun c_1 => ?_) (fun c_1 => ?_)
  · replace hr := (if_pos c_1).symm.trans hr
    refine r_iconst (pc := 16) C dX4_has_16 ki0 ?_
    exact r_zret (pc := 17) CR dX4_has_17 rfl (congrArg (fun z => some (Value.int z)) (gSome hr)) rfl
  · replace hr := (if_neg c_1).symm.trans hr
    refine r_iload_n (pc := 4) C dX4_has_4 rfl 1 rfl ?_
    refine r_aload_n (pc := 5) C dX4_has_5 rfl 0 rfl ?_
    refine g5_5 (pc := 6) C dX4_has_6 q212 (e5 (nf := nf) h0) ?_
    refine r_icmp_ge (pc := 9) (tgt := 16) C dX4_has_9 rfl (fun c_2 => ?_) (fun c_2 => ?_)
    · replace hr := (if_pos c_2).symm.trans hr
      refine r_iconst (pc := 16) C dX4_has_16 ki0 ?_
      exact r_zret (pc := 17) CR dX4_has_17 rfl (congrArg (fun z => some (Value.int z)) (gSome hr)) rfl
    · replace hr := (if_neg c_2).symm.trans hr
      refine r_iconst (pc := 12) C dX4_has_12 ki1 ?_
      refine r_goto (pc := 13) (tgt := 17) C dX4_has_13 rfl ?_
      exact r_zret (pc := 17) CR dX4_has_17 rfl (congrArg (fun z => some (Value.int z)) (gSome hr)) rfl
theorem c_X4_has {Ψ : gM → Nat → List (Nat × Value) → List Value → Prop} {G : gG5} {nf : Nat} {cc : ByteArray} {own : String} {nL : Nat} {ret : Option FieldType} {fr lo : Nat} {v0 : Option Value} {M0 M : gM} {pc index : Nat} {ls : List (Nat × Value)} {st : List Value} (C : gC Ψ G (gXn nf) cc own nL ret fr lo v0 M0) (d : decode cc pc = .ok (.invokevirtual index, 3)) (hl : Cond.methodLink own index yX4_has ∈ gws) (hR : 1 ≤ fr ∧ 21 ≤ lo) {i0 : Nat} {p1 : Int32} (h0 : i0 < 2) {r : Int32} (hr : X4_has i0 p1 M = some r) (hcat : (st.map fun v => v.category).sum ≤ 8) (k : Ψ M (pc + 3) ls (.int r :: st)) : Ψ M pc ls (.int p1 :: .ref (gad 5 i0) :: st) := r_callV C [.int p1] st d (k_X4_has h0 hr) hl q868 q869 q119 q870 hd_X4_has hR rfl (by decide) (e5 (nf := nf) h0) rfl hcat k
theorem hd_X9_isCulled : yX9_isCulled.cls ≠ "java/lang/invoke/MethodHandle" ∧ yX9_isCulled.cls ≠ "java/lang/invoke/VarHandle" ∧ (parseMethodDescriptor yX9_isCulled.desc).map (fun d => d.parameters.length) = some 2 := by decide +kernel
noncomputable def X9_isCulled (i1 : Nat) (p2 : Int32) (M : gM) : Option Int32 := gG (gin p2 10) (gLet ((M.1 19 (Int32.toNatClampNeg p2) 2)) (fun x3_2 => gLet ((M.1 40 i1 0)) (fun x4_3 => (if x3_2 = 0 then some 1 else (if x4_3 = 1 then (if x3_2 < 0 then some 1 else (if x4_3 = 2 then (if x3_2 ≤ 0 then some 0 else some 1) else some 0)) else (if x4_3 = 2 then (if x3_2 ≤ 0 then some 0 else some 1) else some 0))))))
theorem k_X9_isCulled {G : gG5} {nf : Nat} {M : gM} {i1 : Nat} {p2 : Int32} (h1 : i1 < nf + 3) {r : Int32} (hr : X9_isCulled i1 p2 M = some r) : gMet G (gXn nf) yX9_isCulled cX9_isCulled 5 (some .boolean) 0 0 M [.ref (gad 17 0), .ref (gad 33 i1), .int p2] (some (.int r)) M := by
  refine gMet_of pl_X9 rfl (Nat.le_of_ble_eq_true rfl) (fun Ψ C CR => ?_)
  show Ψ M 0 [(0, .ref (gad 17 0)), (1, .ref (gad 33 i1)), (2, .int p2)] []
  refine r_aload_n (pc := 0) C dX9_isCulled_0 rfl 0 rfl ?_
  refine g17_2 (pc := 1) C dX9_isCulled_1 q378 (e17 nf) ?_
  refine r_iload_n (pc := 4) C dX9_isCulled_4 rfl 2 rfl ?_
  obtain ⟨g_1, hr⟩ := gG_some hr
  refine a18 (pc := 5) C dX9_isCulled_5 g_1 ?_
  refine g19_2 (pc := 6) C dX9_isCulled_6 q330 (e19 (nf := nf) (gin_lt g_1)) ?_
  obtain ⟨x3_2, ex3_2, hr⟩ := gLet_some hr
  refine r_istore_n (pc := 9) C dX9_isCulled_9 rfl (by decide) ex3_2 (ls' := [(3, .int x3_2), (0, .ref (gad 17 0)), (1, .ref (gad 33 i1)), (2, .int p2)]) rfl ?_
  refine r_aload_n (pc := 10) C dX9_isCulled_10 rfl 2 rfl ?_
  refine g33_6 (pc := 11) C dX9_isCulled_11 q423 (e33 (nf := nf) h1) ?_
  refine r_iconst (pc := 14) C dX9_isCulled_14 ki0 ?_
  refine r_ialdN (pc := 15) C dX9_isCulled_15 rfl (e40 (nf := nf) h1) (by decide : gin 0 4 = true) kc0 ?_
  obtain ⟨x4_3, ex4_3, hr⟩ := gLet_some hr
  refine r_istore (pc := 16) C dX9_isCulled_16 (by decide) ex4_3 (ls' := [(4, .int x4_3), (3, .int x3_2), (0, .ref (gad 17 0)), (1, .ref (gad 33 i1)), (2, .int p2)]) rfl ?_
  refine r_iload_n (pc := 18) C dX9_isCulled_18 rfl 1 rfl ?_
  refine r_if_eq (pc := 19) (tgt := 42) C dX9_isCulled_19 rfl (fun c_4 => ?_) (fun c_4 => ?_)
  · replace hr := (if_pos c_4).symm.trans hr
    refine r_iconst (pc := 42) C dX9_isCulled_42 ki1 ?_
    refine r_goto (pc := 43) (tgt := 47) C dX9_isCulled_43 rfl ?_
    exact r_zret (pc := 47) CR dX9_isCulled_47 rfl (congrArg (fun z => some (Value.int z)) (gSome hr)) rfl
  · replace hr := (if_neg c_4).symm.trans hr
    refine r_iload (pc := 22) C dX9_isCulled_22 0 rfl ?_
    refine r_iconst (pc := 24) C dX9_isCulled_24 ki1 ?_
    refine r_icmp_ne (pc := 25) (tgt := 32) C dX9_isCulled_25 rfl (fun c_5 => ?_) (fun c_5 => ?_)
    · replace hr := (if_neg c_5).symm.trans hr
      refine r_iload (pc := 32) C dX9_isCulled_32 0 rfl ?_
      refine r_iconst (pc := 34) C dX9_isCulled_34 ki2 ?_
      refine r_icmp_ne (pc := 35) (tgt := 46) C dX9_isCulled_35 rfl (fun c_6 => ?_) (fun c_6 => ?_)
      · replace hr := (if_neg c_6).symm.trans hr
        refine r_iconst (pc := 46) C dX9_isCulled_46 ki0 ?_
        exact r_zret (pc := 47) CR dX9_isCulled_47 rfl (congrArg (fun z => some (Value.int z)) (gSome hr)) rfl
      · replace hr := (if_pos c_6).symm.trans hr
        refine r_iload_n (pc := 38) C dX9_isCulled_38 rfl 1 rfl ?_
        refine r_if_le (pc := 39) (tgt := 46) C dX9_isCulled_39 rfl (fun c_7 => ?_) (fun c_7 => ?_)
        · replace hr := (if_pos c_7).symm.trans hr
          refine r_iconst (pc := 46) C dX9_isCulled_46 ki0 ?_
          exact r_zret (pc := 47) CR dX9_isCulled_47 rfl (congrArg (fun z => some (Value.int z)) (gSome hr)) rfl
        · replace hr := (if_neg c_7).symm.trans hr
          refine r_iconst (pc := 42) C dX9_isCulled_42 ki1 ?_
          refine r_goto (pc := 43) (tgt := 47) C dX9_isCulled_43 rfl ?_
          exact r_zret (pc := 47) CR dX9_isCulled_47 rfl (congrArg (fun z => some (Value.int z)) (gSome hr)) rfl
    · replace hr := (if_pos c_5).symm.trans hr
      refine r_iload_n (pc := 28) C dX9_isCulled_28 rfl 1 rfl ?_
      refine r_if_lt (pc := 29) (tgt := 42) C dX9_isCulled_29 rfl (fun c_8 => ?_) (fun c_8 => ?_)
      · replace hr := (if_pos c_8).symm.trans hr
        refine r_iconst (pc := 42) C dX9_isCulled_42 ki1 ?_
        refine r_goto (pc := 43) (tgt := 47) C dX9_isCulled_43 rfl ?_
        exact r_zret (pc := 47) CR dX9_isCulled_47 rfl (congrArg (fun z => some (Value.int z)) (gSome hr)) rfl
      · replace hr := (if_neg c_8).symm.trans hr
        refine r_iload (pc := 32) C dX9_isCulled_32 0 rfl ?_
        refine r_iconst (pc := 34) C dX9_isCulled_34 ki2 ?_
        refine r_icmp_ne (pc := 35) (tgt := 46) C dX9_isCulled_35 rfl (fun c_9 => ?_) (fun c_9 => ?_)
        · replace hr := (if_neg c_9).symm.trans hr
          refine r_iconst (pc := 46) C dX9_isCulled_46 ki0 ?_
          exact r_zret (pc := 47) CR dX9_isCulled_47 rfl (congrArg (fun z => some (Value.int z)) (gSome hr)) rfl
        · replace hr := (if_pos c_9).symm.trans hr
          refine r_iload_n (pc := 38) C dX9_isCulled_38 rfl 1 rfl ?_
          refine r_if_le (pc := 39) (tgt := 46) C dX9_isCulled_39 rfl (fun c_10 => ?_) (fun c_10 => ?_)
          · replace hr := (if_pos c_10).symm.trans hr
            refine r_iconst (pc := 46) C dX9_isCulled_46 ki0 ?_
            exact r_zret (pc := 47) CR dX9_isCulled_47 rfl (congrArg (fun z => some (Value.int z)) (gSome hr)) rfl
          · replace hr := (if_neg c_10).symm.trans hr
            refine r_iconst (pc := 42) C dX9_isCulled_42 ki1 ?_
            refine r_goto (pc := 43) (tgt := 47) C dX9_isCulled_43 rfl ?_
            exact r_zret (pc := 47) CR dX9_isCulled_47 rfl (congrArg (fun z => some (Value.int z)) (gSome hr)) rfl
theorem c_X9_isCulled {Ψ : gM → Nat → List (Nat × Value) → List Value → Prop} {G : gG5} {nf : Nat} {cc : ByteArray} {own : String} {nL : Nat} {ret : Option FieldType} {fr lo : Nat} {v0 : Option Value} {M0 M : gM} {pc index : Nat} {ls : List (Nat × Value)} {st : List Value} (C : gC Ψ G (gXn nf) cc own nL ret fr lo v0 M0) (d : decode cc pc = .ok (.invokevirtual index, 3)) (hl : Cond.methodLink own index yX9_isCulled ∈ gws) (hR : 1 ≤ fr ∧ 24 ≤ lo) {i1 : Nat} {p2 : Int32} (h1 : i1 < nf + 3) {r : Int32} (hr : X9_isCulled i1 p2 M = some r) (hcat : (st.map fun v => v.category).sum ≤ 8) (k : Ψ M (pc + 3) ls (.int r :: st)) : Ψ M pc ls (.int p2 :: .ref (gad 33 i1) :: .ref (gad 17 0) :: st) := r_callV C [.ref (gad 33 i1), .int p2] st d (k_X9_isCulled h1 hr) hl q894 q895 q121 q896 hd_X9_isCulled hR rfl (by decide) (e17 nf) rfl hcat k
theorem hd_X9_touchedBy : yX9_touchedBy.cls ≠ "java/lang/invoke/MethodHandle" ∧ yX9_touchedBy.cls ≠ "java/lang/invoke/VarHandle" ∧ (parseMethodDescriptor yX9_touchedBy.desc).map (fun d => d.parameters.length) = some 2 := by decide +kernel
noncomputable def X9_touchedBy (i1 : Nat) (p2 : Int32) (M : gM) : Option Int32 := (X9_isCulled i1 p2 M).bind (fun r_2 => (if r_2 = 0 then gG (gin p2 10) (some (M.1 19 (Int32.toNatClampNeg p2) 5)) else some 0))
theorem k_X9_touchedBy {G : gG5} {nf : Nat} {M : gM} {i1 : Nat} {p2 : Int32} (h1 : i1 < nf + 3) {r : Int32} (hr : X9_touchedBy i1 p2 M = some r) : gMet G (gXn nf) yX9_touchedBy cX9_touchedBy 3 (some .int) 1 24 M [.ref (gad 17 0), .ref (gad 33 i1), .int p2] (some (.int r)) M := by
  refine gMet_of pl_X9 rfl (Nat.le_of_ble_eq_true rfl) (fun Ψ C CR => ?_)
  show Ψ M 0 [(0, .ref (gad 17 0)), (1, .ref (gad 33 i1)), (2, .int p2)] []
  refine r_aload_n (pc := 0) C dX9_touchedBy_0 rfl 0 rfl ?_
  refine r_aload_n (pc := 1) C dX9_touchedBy_1 rfl 1 rfl ?_
  refine r_iload_n (pc := 2) C dX9_touchedBy_2 rfl 2 rfl ?_
  obtain ⟨r_2, hc_1, hr⟩ := gBind_some hr
  refine c_X9_isCulled (pc := 3) C dX9_touchedBy_3 q893 ⟨Nat.le_of_ble_eq_true rfl, Nat.le_of_ble_eq_true rfl⟩ h1 hc_1 (Nat.le_of_ble_eq_true rfl) ?_
  refine r_if_eq (pc := 6) (tgt := 13) C dX9_touchedBy_6 rfl (fun c_3 => ?_) (fun c_3 => ?_)
  · replace hr := (if_pos c_3).symm.trans hr
    refine r_aload_n (pc := 13) C dX9_touchedBy_13 rfl 0 rfl ?_
    refine g17_2 (pc := 14) C dX9_touchedBy_14 q378 (e17 nf) ?_
    refine r_iload_n (pc := 17) C dX9_touchedBy_17 rfl 2 rfl ?_
    obtain ⟨g_4, hr⟩ := gG_some hr
    refine a18 (pc := 18) C dX9_touchedBy_18 g_4 ?_
    refine g19_5 (pc := 19) C dX9_touchedBy_19 q337 (e19 (nf := nf) (gin_lt g_4)) ?_
    exact r_iret (pc := 22) CR dX9_touchedBy_22 (congrArg (fun z => some (Value.int z)) (gSome hr)) rfl
  · replace hr := (if_neg c_3).symm.trans hr
    refine r_iconst (pc := 9) C dX9_touchedBy_9 ki0 ?_
    refine r_goto (pc := 10) (tgt := 22) C dX9_touchedBy_10 rfl ?_
    exact r_iret (pc := 22) CR dX9_touchedBy_22 (congrArg (fun z => some (Value.int z)) (gSome hr)) rfl
theorem c_X9_touchedBy {Ψ : gM → Nat → List (Nat × Value) → List Value → Prop} {G : gG5} {nf : Nat} {cc : ByteArray} {own : String} {nL : Nat} {ret : Option FieldType} {fr lo : Nat} {v0 : Option Value} {M0 M : gM} {pc index : Nat} {ls : List (Nat × Value)} {st : List Value} (C : gC Ψ G (gXn nf) cc own nL ret fr lo v0 M0) (d : decode cc pc = .ok (.invokevirtual index, 3)) (hl : Cond.methodLink own index yX9_touchedBy ∈ gws) (hR : 2 ≤ fr ∧ 46 ≤ lo) {i1 : Nat} {p2 : Int32} (h1 : i1 < nf + 3) {r : Int32} (hr : X9_touchedBy i1 p2 M = some r) (hcat : (st.map fun v => v.category).sum ≤ 8) (k : Ψ M (pc + 3) ls (.int r :: st)) : Ψ M pc ls (.int p2 :: .ref (gad 33 i1) :: .ref (gad 17 0) :: st) := r_callV C [.ref (gad 33 i1), .int p2] st d (k_X9_touchedBy h1 hr) hl q968 q969 q121 q970 hd_X9_touchedBy hR rfl (by decide) (e17 nf) rfl hcat k
theorem hd_X9_touchedInVain : yX9_touchedInVain.cls ≠ "java/lang/invoke/MethodHandle" ∧ yX9_touchedInVain.cls ≠ "java/lang/invoke/VarHandle" ∧ (parseMethodDescriptor yX9_touchedInVain.desc).map (fun d => d.parameters.length) = some 2 := by decide +kernel
noncomputable def X9_touchedInVain_L34 (x2 : Int32) (x4 : Int32) (x3 : Int32) (x5 : Int32) (M : gM) : Option ((Int32 × Int32) ⊕ Int32) := gG (gin (x4 + 1) 17) ((if (M.1 14 0 (Int32.toNatClampNeg (x4 + 1))) ≤ x5 then some (.inr x3) else gG (gin x2 10) (gG (gin x5 256) (gG (gin (M.1 13 0 (Int32.toNatClampNeg x5)) 256) ((if (M.1 26 (Int32.toNatClampNeg x2) (Int32.toNatClampNeg (M.1 13 0 (Int32.toNatClampNeg x5)))) < 0 then gLet (x5 + 1) (fun x5_12 => some (.inl (x3, x5_12))) else gLet ((x3 &&& ((1 <<< (x4 &&& 31)) ^^^ (-1)))) (fun x3_13 => gLet (x5 + 1) (fun x5_14 => some (.inl (x3_13, x5_14))))))))))
theorem t_X9_touchedInVain_L34 {Ψ : gM → Nat → List (Nat × Value) → List Value → Prop} {G : gG5} {nf : Nat} {M : gM} {v0 : Option Value} {M0 : gM} {x2 : Int32} {x4 : Int32} {x3 : Int32} {x5 : Int32} {w : ((Int32 × Int32) ⊕ Int32)} (C : gC Ψ G (gXn nf) cX9_touchedInVain RX9 6 (some .int) 2 46 v0 M0) (hr : X9_touchedInVain_L34 x2 x4 x3 x5 M = some w) (hn : ∀ s, w = .inl s → Ψ M 34 [(0, .ref (gad 17 0)), (2, .int x2), (3, .int (s.1)), (4, .int x4), (5, .int (s.2))] []) (hx : ∀ e, w = .inr e → (fun e => Ψ M 89 [(0, .ref (gad 17 0)), (2, .int x2), (3, .int e), (4, .int x4)] []) e) : Ψ M 34 [(0, .ref (gad 17 0)), (2, .int x2), (3, .int x3), (4, .int x4), (5, .int x5)] [] := by
  refine r_iload (pc := 34) C dX9_touchedInVain_34 4 rfl ?_
  refine r_aload_n (pc := 36) C dX9_touchedInVain_36 rfl 0 rfl ?_
  refine g17_1 (pc := 37) C dX9_touchedInVain_37 q377 (e17 nf) ?_
  refine g12_8 (pc := 40) C dX9_touchedInVain_40 q284 (e12 nf) ?_
  refine r_iload (pc := 43) C dX9_touchedInVain_43 3 rfl ?_
  refine r_iconst (pc := 45) C dX9_touchedInVain_45 ki1 ?_
  refine r_iadd (pc := 46) C dX9_touchedInVain_46 ?_
  obtain ⟨g_6, hr⟩ := gG_some hr
  refine r_ialdN (pc := 47) C dX9_touchedInVain_47 rfl (e14 nf) g_6 rfl ?_
  refine r_icmp_ge (pc := 48) (tgt := 89) C dX9_touchedInVain_48 rfl (fun c_7 => ?_) (fun c_7 => ?_)
  · replace hr := (if_pos c_7).symm.trans hr
    refine r_sub C [0, 1, 2, 3] (ls' := [(0, .ref (gad 17 0)), (2, .int x2), (3, .int x3), (4, .int x4)]) rfl ?_
    exact hx x3 (gSome hr)
  · replace hr := (if_neg c_7).symm.trans hr
    refine r_aload_n (pc := 51) C dX9_touchedInVain_51 rfl 0 rfl ?_
    refine g17_2 (pc := 52) C dX9_touchedInVain_52 q378 (e17 nf) ?_
    refine r_iload_n (pc := 55) C dX9_touchedInVain_55 rfl 1 rfl ?_
    obtain ⟨g_8, hr⟩ := gG_some hr
    refine a18 (pc := 56) C dX9_touchedInVain_56 g_8 ?_
    refine g19_11 (pc := 57) C dX9_touchedInVain_57 q345 (e19 (nf := nf) (gin_lt g_8)) ?_
    refine r_aload_n (pc := 60) C dX9_touchedInVain_60 rfl 0 rfl ?_
    refine g17_1 (pc := 61) C dX9_touchedInVain_61 q377 (e17 nf) ?_
    refine g12_7 (pc := 64) C dX9_touchedInVain_64 q282 (e12 nf) ?_
    refine r_iload (pc := 67) C dX9_touchedInVain_67 4 rfl ?_
    obtain ⟨g_9, hr⟩ := gG_some hr
    refine r_ialdN (pc := 69) C dX9_touchedInVain_69 rfl (e13 nf) g_9 rfl ?_
    obtain ⟨g_10, hr⟩ := gG_some hr
    refine r_ialdN (pc := 70) C dX9_touchedInVain_70 rfl (e26 (nf := nf) (gin_lt g_8)) g_10 rfl ?_
    refine r_if_lt (pc := 71) (tgt := 83) C dX9_touchedInVain_71 rfl (fun c_11 => ?_) (fun c_11 => ?_)
    · replace hr := (if_pos c_11).symm.trans hr
      obtain ⟨x5_12, ex5_12, hr⟩ := gLet_some hr
      refine r_iinc (pc := 83) C dX9_touchedInVain_83 4 rfl rfl (by decide) ex5_12 (ls' := [(5, .int x5_12), (0, .ref (gad 17 0)), (2, .int x2), (3, .int x3), (4, .int x4)]) rfl ?_
      refine r_goto (pc := 86) (tgt := 34) C dX9_touchedInVain_86 rfl ?_
      refine r_sub C [1, 2, 3, 4, 0] (ls' := [(0, .ref (gad 17 0)), (2, .int x2), (3, .int x3), (4, .int x4), (5, .int x5_12)]) rfl ?_
      exact hn (x3, x5_12) (gSome hr)
    · replace hr := (if_neg c_11).symm.trans hr
      refine r_iload_n (pc := 74) C dX9_touchedInVain_74 rfl 2 rfl ?_
      refine r_iconst (pc := 75) C dX9_touchedInVain_75 ki1 ?_
      refine r_iload (pc := 76) C dX9_touchedInVain_76 3 rfl ?_
      refine r_ishl (pc := 78) C dX9_touchedInVain_78 ?_
      refine r_iconst (pc := 79) C dX9_touchedInVain_79 kim1 ?_
      refine r_ixor (pc := 80) C dX9_touchedInVain_80 ?_
      refine r_iand (pc := 81) C dX9_touchedInVain_81 ?_
      obtain ⟨x3_13, ex3_13, hr⟩ := gLet_some hr
      refine r_istore_n (pc := 82) C dX9_touchedInVain_82 rfl (by decide) ex3_13 (ls' := [(3, .int x3_13), (0, .ref (gad 17 0)), (2, .int x2), (4, .int x4), (5, .int x5)]) rfl ?_
      obtain ⟨x5_14, ex5_14, hr⟩ := gLet_some hr
      refine r_iinc (pc := 83) C dX9_touchedInVain_83 4 rfl rfl (by decide) ex5_14 (ls' := [(5, .int x5_14), (3, .int x3_13), (0, .ref (gad 17 0)), (2, .int x2), (4, .int x4)]) rfl ?_
      refine r_goto (pc := 86) (tgt := 34) C dX9_touchedInVain_86 rfl ?_
      refine r_sub C [2, 3, 1, 4, 0] (ls' := [(0, .ref (gad 17 0)), (2, .int x2), (3, .int x3_13), (4, .int x4), (5, .int x5_14)]) rfl ?_
      exact hn (x3_13, x5_14) (gSome hr)
noncomputable def X9_touchedInVain_L10 (x2 : Int32) (x3 : Int32) (x4 : Int32) (M : gM) : Option ((Int32 × Int32) ⊕ Int32) := (if (M.1 12 0 5) ≤ x4 then some (.inr x3) else gG (gin x4 17) (gLet ((M.1 14 0 (Int32.toNatClampNeg x4))) (fun x5_5 => (gIter (fun s => X9_touchedInVain_L34 x2 x4 s.1 s.2 M) FU (x3, x5_5)).bind (fun x3_15 => gLet (x4 + 1) (fun x4_16 => some (.inl (x3_15, x4_16)))))))
theorem t_X9_touchedInVain_L10 {Ψ : gM → Nat → List (Nat × Value) → List Value → Prop} {G : gG5} {nf : Nat} {M : gM} {v0 : Option Value} {M0 : gM} {x2 : Int32} {x3 : Int32} {x4 : Int32} {w : ((Int32 × Int32) ⊕ Int32)} (C : gC Ψ G (gXn nf) cX9_touchedInVain RX9 6 (some .int) 2 46 v0 M0) (hr : X9_touchedInVain_L10 x2 x3 x4 M = some w) (hn : ∀ s, w = .inl s → Ψ M 10 [(0, .ref (gad 17 0)), (2, .int x2), (3, .int (s.1)), (4, .int (s.2))] []) (hx : ∀ e, w = .inr e → (fun e => Ψ M 95 [(3, .int e)] []) e) : Ψ M 10 [(0, .ref (gad 17 0)), (2, .int x2), (3, .int x3), (4, .int x4)] [] := by
  refine r_iload (pc := 10) C dX9_touchedInVain_10 3 rfl ?_
  refine r_aload_n (pc := 12) C dX9_touchedInVain_12 rfl 0 rfl ?_
  refine g17_1 (pc := 13) C dX9_touchedInVain_13 q377 (e17 nf) ?_
  refine g12_5 (pc := 16) C dX9_touchedInVain_16 q272 (e12 nf) ?_
  refine r_icmp_ge (pc := 19) (tgt := 95) C dX9_touchedInVain_19 rfl (fun c_3 => ?_) (fun c_3 => ?_)
  · replace hr := (if_pos c_3).symm.trans hr
    refine r_sub C [2] (ls' := [(3, .int x3)]) rfl ?_
    exact hx x3 (gSome hr)
  · replace hr := (if_neg c_3).symm.trans hr
    refine r_aload_n (pc := 22) C dX9_touchedInVain_22 rfl 0 rfl ?_
    refine g17_1 (pc := 23) C dX9_touchedInVain_23 q377 (e17 nf) ?_
    refine g12_8 (pc := 26) C dX9_touchedInVain_26 q284 (e12 nf) ?_
    refine r_iload (pc := 29) C dX9_touchedInVain_29 3 rfl ?_
    obtain ⟨g_4, hr⟩ := gG_some hr
    refine r_ialdN (pc := 31) C dX9_touchedInVain_31 rfl (e14 nf) g_4 rfl ?_
    obtain ⟨x5_5, ex5_5, hr⟩ := gLet_some hr
    refine r_istore (pc := 32) C dX9_touchedInVain_32 (by decide) ex5_5 (ls' := [(5, .int x5_5), (0, .ref (gad 17 0)), (2, .int x2), (3, .int x3), (4, .int x4)]) rfl ?_
    refine r_sub C [1, 2, 3, 4, 0] (ls' := [(0, .ref (gad 17 0)), (2, .int x2), (3, .int x3), (4, .int x4), (5, .int x5_5)]) rfl ?_
    obtain ⟨ev, hit, hr⟩ := gBind_some hr
    refine gIter_V (step := fun s => X9_touchedInVain_L34 x2 x4 s.1 s.2 M) (P := fun s => Ψ M 34 [(0, .ref (gad 17 0)), (2, .int x2), (3, .int (s.1)), (4, .int x4), (5, .int (s.2))] []) (K := (fun e => Ψ M 89 [(0, .ref (gad 17 0)), (2, .int x2), (3, .int e), (4, .int x4)] [])) (fun s w hs hn hx => t_X9_touchedInVain_L34 C  hs hn hx) FU (x3, x5_5) ev hit ?_
    obtain ⟨x3_15, rfl⟩ : ∃ z, z = ev := ⟨_, rfl⟩
    show Ψ M 89 [(0, .ref (gad 17 0)), (2, .int x2), (3, .int x3_15), (4, .int x4)] []
    obtain ⟨x4_16, ex4_16, hr⟩ := gLet_some hr
    refine r_iinc (pc := 89) C dX9_touchedInVain_89 3 rfl rfl (by decide) ex4_16 (ls' := [(4, .int x4_16), (0, .ref (gad 17 0)), (2, .int x2), (3, .int x3_15)]) rfl ?_
    refine r_goto (pc := 92) (tgt := 10) C dX9_touchedInVain_92 rfl ?_
    refine r_sub C [1, 2, 3, 0] (ls' := [(0, .ref (gad 17 0)), (2, .int x2), (3, .int x3_15), (4, .int x4_16)]) rfl ?_
    exact hn (x3_15, x4_16) (gSome hr)
noncomputable def X9_touchedInVain (i1 : Nat) (p2 : Int32) (M : gM) : Option Int32 := (X9_touchedBy i1 p2 M).bind (fun r_2 => (gIter (fun s => X9_touchedInVain_L10 p2 s.1 s.2 M) FU (r_2, 0)).bind (fun x3_17 => some x3_17))
theorem k_X9_touchedInVain {G : gG5} {nf : Nat} {M : gM} {i1 : Nat} {p2 : Int32} (h1 : i1 < nf + 3) {r : Int32} (hr : X9_touchedInVain i1 p2 M = some r) : gMet G (gXn nf) yX9_touchedInVain cX9_touchedInVain 6 (some .int) 2 46 M [.ref (gad 17 0), .ref (gad 33 i1), .int p2] (some (.int r)) M := by
  refine gMet_of pl_X9 rfl (Nat.le_of_ble_eq_true rfl) (fun Ψ C CR => ?_)
  show Ψ M 0 [(0, .ref (gad 17 0)), (1, .ref (gad 33 i1)), (2, .int p2)] []
  refine r_aload_n (pc := 0) C dX9_touchedInVain_0 rfl 0 rfl ?_
  refine r_aload_n (pc := 1) C dX9_touchedInVain_1 rfl 1 rfl ?_
  refine r_iload_n (pc := 2) C dX9_touchedInVain_2 rfl 2 rfl ?_
  obtain ⟨r_2, hc_1, hr⟩ := gBind_some hr
  refine c_X9_touchedBy (pc := 3) C dX9_touchedInVain_3 q967 ⟨Nat.le_of_ble_eq_true rfl, Nat.le_of_ble_eq_true rfl⟩ h1 hc_1 (Nat.le_of_ble_eq_true rfl) ?_
  refine r_istore_n (pc := 6) C dX9_touchedInVain_6 rfl (by decide) rfl (ls' := [(3, .int r_2), (0, .ref (gad 17 0)), (1, .ref (gad 33 i1)), (2, .int p2)]) rfl ?_
  refine r_iconst (pc := 7) C dX9_touchedInVain_7 ki0 ?_
  refine r_istore (pc := 8) C dX9_touchedInVain_8 (by decide) rfl (ls' := [(4, .int 0), (3, .int r_2), (0, .ref (gad 17 0)), (1, .ref (gad 33 i1)), (2, .int p2)]) rfl ?_
  refine r_sub C [2, 4, 1, 0] (ls' := [(0, .ref (gad 17 0)), (2, .int p2), (3, .int r_2), (4, .int 0)]) rfl ?_
  obtain ⟨ev, hit, hr⟩ := gBind_some hr
  refine gIter_V (step := fun s => X9_touchedInVain_L10 p2 s.1 s.2 M) (P := fun s => Ψ M 10 [(0, .ref (gad 17 0)), (2, .int p2), (3, .int (s.1)), (4, .int (s.2))] []) (K := (fun e => Ψ M 95 [(3, .int e)] [])) (fun s w hs hn hx => t_X9_touchedInVain_L10 C  hs hn hx) FU (r_2, 0) ev hit ?_
  obtain ⟨x3_17, rfl⟩ : ∃ z, z = ev := ⟨_, rfl⟩
  show Ψ M 95 [(3, .int x3_17)] []
  refine r_iload_n (pc := 95) C dX9_touchedInVain_95 rfl 0 rfl ?_
  exact r_iret (pc := 96) CR dX9_touchedInVain_96 (congrArg (fun z => some (Value.int z)) (gSome hr)) rfl
theorem c_X9_touchedInVain {Ψ : gM → Nat → List (Nat × Value) → List Value → Prop} {G : gG5} {nf : Nat} {cc : ByteArray} {own : String} {nL : Nat} {ret : Option FieldType} {fr lo : Nat} {v0 : Option Value} {M0 M : gM} {pc index : Nat} {ls : List (Nat × Value)} {st : List Value} (C : gC Ψ G (gXn nf) cc own nL ret fr lo v0 M0) (d : decode cc pc = .ok (.invokevirtual index, 3)) (hl : Cond.methodLink own index yX9_touchedInVain ∈ gws) (hR : 3 ≤ fr ∧ 71 ≤ lo) {i1 : Nat} {p2 : Int32} (h1 : i1 < nf + 3) {r : Int32} (hr : X9_touchedInVain i1 p2 M = some r) (hcat : (st.map fun v => v.category).sum ≤ 8) (k : Ψ M (pc + 3) ls (.int r :: st)) : Ψ M pc ls (.int p2 :: .ref (gad 33 i1) :: .ref (gad 17 0) :: st) := r_callV C [.ref (gad 33 i1), .int p2] st d (k_X9_touchedInVain h1 hr) hl q1387 q1388 q121 q1389 hd_X9_touchedInVain hR rfl (by decide) (e17 nf) rfl hcat k
theorem hd_X9_depthIn : yX9_depthIn.cls ≠ "java/lang/invoke/MethodHandle" ∧ yX9_depthIn.cls ≠ "java/lang/invoke/VarHandle" ∧ (parseMethodDescriptor yX9_depthIn.desc).map (fun d => d.parameters.length) = some 3 := by decide +kernel
noncomputable def X9_depthIn (i1 : Nat) (p2 : Int32) (p3 : Int32) (M : gM) : Option Int32 := (X9_isCulled i1 p2 M).bind (fun r_2 => (if r_2 = 0 then gG (gin p2 10) (gG (gin p3 256) (some (M.1 26 (Int32.toNatClampNeg p2) (Int32.toNatClampNeg p3)))) else some (-1)))
theorem k_X9_depthIn {G : gG5} {nf : Nat} {M : gM} {i1 : Nat} {p2 : Int32} {p3 : Int32} (h1 : i1 < nf + 3) {r : Int32} (hr : X9_depthIn i1 p2 p3 M = some r) : gMet G (gXn nf) yX9_depthIn cX9_depthIn 4 (some .int) 1 24 M [.ref (gad 17 0), .ref (gad 33 i1), .int p2, .int p3] (some (.int r)) M := by
  refine gMet_of pl_X9 rfl (Nat.le_of_ble_eq_true rfl) (fun Ψ C CR => ?_)
  show Ψ M 0 [(0, .ref (gad 17 0)), (1, .ref (gad 33 i1)), (2, .int p2), (3, .int p3)] []
  refine r_aload_n (pc := 0) C dX9_depthIn_0 rfl 0 rfl ?_
  refine r_aload_n (pc := 1) C dX9_depthIn_1 rfl 1 rfl ?_
  refine r_iload_n (pc := 2) C dX9_depthIn_2 rfl 2 rfl ?_
  obtain ⟨r_2, hc_1, hr⟩ := gBind_some hr
  refine c_X9_isCulled (pc := 3) C dX9_depthIn_3 q893 ⟨Nat.le_of_ble_eq_true rfl, Nat.le_of_ble_eq_true rfl⟩ h1 hc_1 (Nat.le_of_ble_eq_true rfl) ?_
  refine r_if_eq (pc := 6) (tgt := 13) C dX9_depthIn_6 rfl (fun c_3 => ?_) (fun c_3 => ?_)
  · replace hr := (if_pos c_3).symm.trans hr
    refine r_aload_n (pc := 13) C dX9_depthIn_13 rfl 0 rfl ?_
    refine g17_2 (pc := 14) C dX9_depthIn_14 q378 (e17 nf) ?_
    refine r_iload_n (pc := 17) C dX9_depthIn_17 rfl 2 rfl ?_
    obtain ⟨g_4, hr⟩ := gG_some hr
    refine a18 (pc := 18) C dX9_depthIn_18 g_4 ?_
    refine g19_11 (pc := 19) C dX9_depthIn_19 q345 (e19 (nf := nf) (gin_lt g_4)) ?_
    refine r_iload_n (pc := 22) C dX9_depthIn_22 rfl 3 rfl ?_
    obtain ⟨g_5, hr⟩ := gG_some hr
    refine r_ialdN (pc := 23) C dX9_depthIn_23 rfl (e26 (nf := nf) (gin_lt g_4)) g_5 rfl ?_
    exact r_iret (pc := 24) CR dX9_depthIn_24 (congrArg (fun z => some (Value.int z)) (gSome hr)) rfl
  · replace hr := (if_neg c_3).symm.trans hr
    refine r_iconst (pc := 9) C dX9_depthIn_9 kim1 ?_
    refine r_goto (pc := 10) (tgt := 24) C dX9_depthIn_10 rfl ?_
    exact r_iret (pc := 24) CR dX9_depthIn_24 (congrArg (fun z => some (Value.int z)) (gSome hr)) rfl
theorem c_X9_depthIn {Ψ : gM → Nat → List (Nat × Value) → List Value → Prop} {G : gG5} {nf : Nat} {cc : ByteArray} {own : String} {nL : Nat} {ret : Option FieldType} {fr lo : Nat} {v0 : Option Value} {M0 M : gM} {pc index : Nat} {ls : List (Nat × Value)} {st : List Value} (C : gC Ψ G (gXn nf) cc own nL ret fr lo v0 M0) (d : decode cc pc = .ok (.invokevirtual index, 3)) (hl : Cond.methodLink own index yX9_depthIn ∈ gws) (hR : 2 ≤ fr ∧ 47 ≤ lo) {i1 : Nat} {p2 : Int32} {p3 : Int32} (h1 : i1 < nf + 3) {r : Int32} (hr : X9_depthIn i1 p2 p3 M = some r) (hcat : (st.map fun v => v.category).sum ≤ 8) (k : Ψ M (pc + 3) ls (.int r :: st)) : Ψ M pc ls (.int p3 :: .int p2 :: .ref (gad 33 i1) :: .ref (gad 17 0) :: st) := r_callV C [.ref (gad 33 i1), .int p2, .int p3] st d (k_X9_depthIn h1 hr) hl q890 q891 q121 q892 hd_X9_depthIn hR rfl (by decide) (e17 nf) rfl hcat k
theorem hd_X9_coveredBy : yX9_coveredBy.cls ≠ "java/lang/invoke/MethodHandle" ∧ yX9_coveredBy.cls ≠ "java/lang/invoke/VarHandle" ∧ (parseMethodDescriptor yX9_coveredBy.desc).map (fun d => d.parameters.length) = some 2 := by decide +kernel
noncomputable def X9_coveredBy_L5 (i1 : Nat) (x2 : Int32) (x3 : Int32) (x4 : Int32) (M : gM) : Option ((Int32 × Int32) ⊕ Int32) := (if (M.1 12 0 6) ≤ x4 then some (.inr x3) else gG (gin x4 256) ((X9_depthIn i1 x2 (M.1 13 0 (Int32.toNatClampNeg x4)) M).bind (fun r_4 => (if r_4 < 0 then gLet (x4 + 1) (fun x4_6 => some (.inl (x3, x4_6))) else gLet (x3 + 1) (fun x3_7 => gLet (x4 + 1) (fun x4_8 => some (.inl (x3_7, x4_8))))))))
theorem t_X9_coveredBy_L5 {Ψ : gM → Nat → List (Nat × Value) → List Value → Prop} {G : gG5} {nf : Nat} {M : gM} {v0 : Option Value} {M0 : gM} {i1 : Nat} {x2 : Int32} {x3 : Int32} {x4 : Int32} {w : ((Int32 × Int32) ⊕ Int32)} (C : gC Ψ G (gXn nf) cX9_coveredBy RX9 5 (some .int) 2 47 v0 M0) (h1 : i1 < nf + 3) (hr : X9_coveredBy_L5 i1 x2 x3 x4 M = some w) (hn : ∀ s, w = .inl s → Ψ M 5 [(0, .ref (gad 17 0)), (1, .ref (gad 33 i1)), (2, .int x2), (3, .int (s.1)), (4, .int (s.2))] []) (hx : ∀ e, w = .inr e → (fun e => Ψ M 45 [(3, .int e)] []) e) : Ψ M 5 [(0, .ref (gad 17 0)), (1, .ref (gad 33 i1)), (2, .int x2), (3, .int x3), (4, .int x4)] [] := by
  refine r_iload (pc := 5) C dX9_coveredBy_5 4 rfl ?_
  refine r_aload_n (pc := 7) C dX9_coveredBy_7 rfl 0 rfl ?_
  refine g17_1 (pc := 8) C dX9_coveredBy_8 q377 (e17 nf) ?_
  refine g12_6 (pc := 11) C dX9_coveredBy_11 q278 (e12 nf) ?_
  refine r_icmp_ge (pc := 14) (tgt := 45) C dX9_coveredBy_14 rfl (fun c_1 => ?_) (fun c_1 => ?_)
  · replace hr := (if_pos c_1).symm.trans hr
    refine r_sub C [3] (ls' := [(3, .int x3)]) rfl ?_
    exact hx x3 (gSome hr)
  · replace hr := (if_neg c_1).symm.trans hr
    refine r_aload_n (pc := 17) C dX9_coveredBy_17 rfl 0 rfl ?_
    refine r_aload_n (pc := 18) C dX9_coveredBy_18 rfl 1 rfl ?_
    refine r_iload_n (pc := 19) C dX9_coveredBy_19 rfl 2 rfl ?_
    refine r_aload_n (pc := 20) C dX9_coveredBy_20 rfl 0 rfl ?_
    refine g17_1 (pc := 21) C dX9_coveredBy_21 q377 (e17 nf) ?_
    refine g12_7 (pc := 24) C dX9_coveredBy_24 q282 (e12 nf) ?_
    refine r_iload (pc := 27) C dX9_coveredBy_27 4 rfl ?_
    obtain ⟨g_2, hr⟩ := gG_some hr
    refine r_ialdN (pc := 29) C dX9_coveredBy_29 rfl (e13 nf) g_2 rfl ?_
    obtain ⟨r_4, hc_3, hr⟩ := gBind_some hr
    refine c_X9_depthIn (pc := 30) C dX9_coveredBy_30 q1178 ⟨Nat.le_of_ble_eq_true rfl, Nat.le_of_ble_eq_true rfl⟩ h1 hc_3 (Nat.le_of_ble_eq_true rfl) ?_
    refine r_if_lt (pc := 33) (tgt := 39) C dX9_coveredBy_33 rfl (fun c_5 => ?_) (fun c_5 => ?_)
    · replace hr := (if_pos c_5).symm.trans hr
      obtain ⟨x4_6, ex4_6, hr⟩ := gLet_some hr
      refine r_iinc (pc := 39) C dX9_coveredBy_39 4 rfl rfl (by decide) ex4_6 (ls' := [(4, .int x4_6), (0, .ref (gad 17 0)), (1, .ref (gad 33 i1)), (2, .int x2), (3, .int x3)]) rfl ?_
      refine r_goto (pc := 42) (tgt := 5) C dX9_coveredBy_42 rfl ?_
      refine r_sub C [1, 2, 3, 4, 0] (ls' := [(0, .ref (gad 17 0)), (1, .ref (gad 33 i1)), (2, .int x2), (3, .int x3), (4, .int x4_6)]) rfl ?_
      exact hn (x3, x4_6) (gSome hr)
    · replace hr := (if_neg c_5).symm.trans hr
      obtain ⟨x3_7, ex3_7, hr⟩ := gLet_some hr
      refine r_iinc (pc := 36) C dX9_coveredBy_36 3 rfl rfl (by decide) ex3_7 (ls' := [(3, .int x3_7), (0, .ref (gad 17 0)), (1, .ref (gad 33 i1)), (2, .int x2), (4, .int x4)]) rfl ?_
      obtain ⟨x4_8, ex4_8, hr⟩ := gLet_some hr
      refine r_iinc (pc := 39) C dX9_coveredBy_39 4 rfl rfl (by decide) ex4_8 (ls' := [(4, .int x4_8), (3, .int x3_7), (0, .ref (gad 17 0)), (1, .ref (gad 33 i1)), (2, .int x2)]) rfl ?_
      refine r_goto (pc := 42) (tgt := 5) C dX9_coveredBy_42 rfl ?_
      refine r_sub C [2, 3, 4, 1, 0] (ls' := [(0, .ref (gad 17 0)), (1, .ref (gad 33 i1)), (2, .int x2), (3, .int x3_7), (4, .int x4_8)]) rfl ?_
      exact hn (x3_7, x4_8) (gSome hr)
noncomputable def X9_coveredBy (i1 : Nat) (p2 : Int32) (M : gM) : Option Int32 := (gIter (fun s => X9_coveredBy_L5 i1 p2 s.1 s.2 M) FU (0, 0)).bind (fun x3_9 => some x3_9)
theorem k_X9_coveredBy {G : gG5} {nf : Nat} {M : gM} {i1 : Nat} {p2 : Int32} (h1 : i1 < nf + 3) {r : Int32} (hr : X9_coveredBy i1 p2 M = some r) : gMet G (gXn nf) yX9_coveredBy cX9_coveredBy 5 (some .int) 2 47 M [.ref (gad 17 0), .ref (gad 33 i1), .int p2] (some (.int r)) M := by
  refine gMet_of pl_X9 rfl (Nat.le_of_ble_eq_true rfl) (fun Ψ C CR => ?_)
  show Ψ M 0 [(0, .ref (gad 17 0)), (1, .ref (gad 33 i1)), (2, .int p2)] []
  refine r_iconst (pc := 0) C dX9_coveredBy_0 ki0 ?_
  refine r_istore_n (pc := 1) C dX9_coveredBy_1 rfl (by decide) rfl (ls' := [(3, .int 0), (0, .ref (gad 17 0)), (1, .ref (gad 33 i1)), (2, .int p2)]) rfl ?_
  refine r_iconst (pc := 2) C dX9_coveredBy_2 ki0 ?_
  refine r_istore (pc := 3) C dX9_coveredBy_3 (by decide) rfl (ls' := [(4, .int 0), (3, .int 0), (0, .ref (gad 17 0)), (1, .ref (gad 33 i1)), (2, .int p2)]) rfl ?_
  refine r_sub C [2, 3, 4, 1, 0] (ls' := [(0, .ref (gad 17 0)), (1, .ref (gad 33 i1)), (2, .int p2), (3, .int 0), (4, .int 0)]) rfl ?_
  obtain ⟨ev, hit, hr⟩ := gBind_some hr
  refine gIter_V (step := fun s => X9_coveredBy_L5 i1 p2 s.1 s.2 M) (P := fun s => Ψ M 5 [(0, .ref (gad 17 0)), (1, .ref (gad 33 i1)), (2, .int p2), (3, .int (s.1)), (4, .int (s.2))] []) (K := (fun e => Ψ M 45 [(3, .int e)] [])) (fun s w hs hn hx => t_X9_coveredBy_L5 C h1 hs hn hx) FU (0, 0) ev hit ?_
  obtain ⟨x3_9, rfl⟩ : ∃ z, z = ev := ⟨_, rfl⟩
  show Ψ M 45 [(3, .int x3_9)] []
  refine r_iload_n (pc := 45) C dX9_coveredBy_45 rfl 0 rfl ?_
  exact r_iret (pc := 46) CR dX9_coveredBy_46 (congrArg (fun z => some (Value.int z)) (gSome hr)) rfl
theorem c_X9_coveredBy {Ψ : gM → Nat → List (Nat × Value) → List Value → Prop} {G : gG5} {nf : Nat} {cc : ByteArray} {own : String} {nL : Nat} {ret : Option FieldType} {fr lo : Nat} {v0 : Option Value} {M0 M : gM} {pc index : Nat} {ls : List (Nat × Value)} {st : List Value} (C : gC Ψ G (gXn nf) cc own nL ret fr lo v0 M0) (d : decode cc pc = .ok (.invokevirtual index, 3)) (hl : Cond.methodLink own index yX9_coveredBy ∈ gws) (hR : 3 ≤ fr ∧ 71 ≤ lo) {i1 : Nat} {p2 : Int32} (h1 : i1 < nf + 3) {r : Int32} (hr : X9_coveredBy i1 p2 M = some r) (hcat : (st.map fun v => v.category).sum ≤ 8) (k : Ψ M (pc + 3) ls (.int r :: st)) : Ψ M pc ls (.int p2 :: .ref (gad 33 i1) :: .ref (gad 17 0) :: st) := r_callV C [.ref (gad 33 i1), .int p2] st d (k_X9_coveredBy h1 hr) hl q1266 q1267 q121 q1268 hd_X9_coveredBy hR rfl (by decide) (e17 nf) rfl hcat k
theorem hd_X9_timesInBins : yX9_timesInBins.cls ≠ "java/lang/invoke/MethodHandle" ∧ yX9_timesInBins.cls ≠ "java/lang/invoke/VarHandle" ∧ (parseMethodDescriptor yX9_timesInBins.desc).map (fun d => d.parameters.length) = some 2 := by decide +kernel
noncomputable def X9_timesInBins_L20 (i1 : Nat) (x2 : Int32) (x4 : Int32) (x3 : Int32) (x5 : Int32) (M : gM) : Option ((Int32 × Int32) ⊕ Int32) := gG (gin x4 16) ((if (M.1 38 i1 (Int32.toNatClampNeg x4)) ≤ x5 then some (.inr x3) else (if 10 ≤ x5 then some (.inr x3) else gG (gin ((x4 * 10) + x5) 160) ((if (M.1 37 i1 (Int32.toNatClampNeg ((x4 * 10) + x5))) = x2 then gLet (x3 + 1) (fun x3_8 => gLet (x5 + 1) (fun x5_9 => some (.inl (x3_8, x5_9)))) else gLet (x5 + 1) (fun x5_7 => some (.inl (x3, x5_7))))))))
theorem t_X9_timesInBins_L20 {Ψ : gM → Nat → List (Nat × Value) → List Value → Prop} {G : gG5} {nf : Nat} {M : gM} {v0 : Option Value} {M0 : gM} {i1 : Nat} {x2 : Int32} {x4 : Int32} {x3 : Int32} {x5 : Int32} {w : ((Int32 × Int32) ⊕ Int32)} (C : gC Ψ G (gXn nf) cX9_timesInBins RX9 6 (some .int) 0 0 v0 M0) (h1 : i1 < nf + 3) (hr : X9_timesInBins_L20 i1 x2 x4 x3 x5 M = some w) (hn : ∀ s, w = .inl s → Ψ M 20 [(0, .ref (gad 17 0)), (1, .ref (gad 33 i1)), (2, .int x2), (3, .int (s.1)), (4, .int x4), (5, .int (s.2))] []) (hx : ∀ e, w = .inr e → (fun e => Ψ M 65 [(0, .ref (gad 17 0)), (1, .ref (gad 33 i1)), (2, .int x2), (3, .int e), (4, .int x4)] []) e) : Ψ M 20 [(0, .ref (gad 17 0)), (1, .ref (gad 33 i1)), (2, .int x2), (3, .int x3), (4, .int x4), (5, .int x5)] [] := by
  refine r_iload (pc := 20) C dX9_timesInBins_20 5 rfl ?_
  refine r_aload_n (pc := 22) C dX9_timesInBins_22 rfl 1 rfl ?_
  refine g33_4 (pc := 23) C dX9_timesInBins_23 q416 (e33 (nf := nf) h1) ?_
  refine r_iload (pc := 26) C dX9_timesInBins_26 4 rfl ?_
  obtain ⟨g_2, hr⟩ := gG_some hr
  refine r_ialdN (pc := 28) C dX9_timesInBins_28 rfl (e38 (nf := nf) h1) g_2 rfl ?_
  refine r_icmp_ge (pc := 29) (tgt := 65) C dX9_timesInBins_29 rfl (fun c_3 => ?_) (fun c_3 => ?_)
  · replace hr := (if_pos c_3).symm.trans hr
    refine r_sub C [0, 1, 2, 3, 4] (ls' := [(0, .ref (gad 17 0)), (1, .ref (gad 33 i1)), (2, .int x2), (3, .int x3), (4, .int x4)]) rfl ?_
    exact hx x3 (gSome hr)
  · replace hr := (if_neg c_3).symm.trans hr
    refine r_iload (pc := 32) C dX9_timesInBins_32 5 rfl ?_
    refine r_bipush (pc := 34) C dX9_timesInBins_34 kb10 ?_
    refine r_icmp_ge (pc := 36) (tgt := 65) C dX9_timesInBins_36 rfl (fun c_4 => ?_) (fun c_4 => ?_)
    · replace hr := (if_pos c_4).symm.trans hr
      refine r_sub C [0, 1, 2, 3, 4] (ls' := [(0, .ref (gad 17 0)), (1, .ref (gad 33 i1)), (2, .int x2), (3, .int x3), (4, .int x4)]) rfl ?_
      exact hx x3 (gSome hr)
    · replace hr := (if_neg c_4).symm.trans hr
      refine r_aload_n (pc := 39) C dX9_timesInBins_39 rfl 1 rfl ?_
      refine g33_3 (pc := 40) C dX9_timesInBins_40 q413 (e33 (nf := nf) h1) ?_
      refine r_iload (pc := 43) C dX9_timesInBins_43 4 rfl ?_
      refine r_bipush (pc := 45) C dX9_timesInBins_45 kb10 ?_
      refine r_imul (pc := 47) C dX9_timesInBins_47 ?_
      refine r_iload (pc := 48) C dX9_timesInBins_48 5 rfl ?_
      refine r_iadd (pc := 50) C dX9_timesInBins_50 ?_
      obtain ⟨g_5, hr⟩ := gG_some hr
      refine r_ialdN (pc := 51) C dX9_timesInBins_51 rfl (e37 (nf := nf) h1) g_5 rfl ?_
      refine r_iload_n (pc := 52) C dX9_timesInBins_52 rfl 2 rfl ?_
      refine r_icmp_ne (pc := 53) (tgt := 59) C dX9_timesInBins_53 rfl (fun c_6 => ?_) (fun c_6 => ?_)
      · replace hr := (if_neg c_6).symm.trans hr
        obtain ⟨x5_7, ex5_7, hr⟩ := gLet_some hr
        refine r_iinc (pc := 59) C dX9_timesInBins_59 5 rfl rfl (by decide) ex5_7 (ls' := [(5, .int x5_7), (0, .ref (gad 17 0)), (1, .ref (gad 33 i1)), (2, .int x2), (3, .int x3), (4, .int x4)]) rfl ?_
        refine r_goto (pc := 62) (tgt := 20) C dX9_timesInBins_62 rfl ?_
        refine r_sub C [1, 2, 3, 4, 5, 0] (ls' := [(0, .ref (gad 17 0)), (1, .ref (gad 33 i1)), (2, .int x2), (3, .int x3), (4, .int x4), (5, .int x5_7)]) rfl ?_
        exact hn (x3, x5_7) (gSome hr)
      · replace hr := (if_pos c_6).symm.trans hr
        obtain ⟨x3_8, ex3_8, hr⟩ := gLet_some hr
        refine r_iinc (pc := 56) C dX9_timesInBins_56 3 rfl rfl (by decide) ex3_8 (ls' := [(3, .int x3_8), (0, .ref (gad 17 0)), (1, .ref (gad 33 i1)), (2, .int x2), (4, .int x4), (5, .int x5)]) rfl ?_
        obtain ⟨x5_9, ex5_9, hr⟩ := gLet_some hr
        refine r_iinc (pc := 59) C dX9_timesInBins_59 5 rfl rfl (by decide) ex5_9 (ls' := [(5, .int x5_9), (3, .int x3_8), (0, .ref (gad 17 0)), (1, .ref (gad 33 i1)), (2, .int x2), (4, .int x4)]) rfl ?_
        refine r_goto (pc := 62) (tgt := 20) C dX9_timesInBins_62 rfl ?_
        refine r_sub C [2, 3, 4, 1, 5, 0] (ls' := [(0, .ref (gad 17 0)), (1, .ref (gad 33 i1)), (2, .int x2), (3, .int x3_8), (4, .int x4), (5, .int x5_9)]) rfl ?_
        exact hn (x3_8, x5_9) (gSome hr)
noncomputable def X9_timesInBins_L5 (i1 : Nat) (x2 : Int32) (x3 : Int32) (x4 : Int32) (M : gM) : Option ((Int32 × Int32) ⊕ Int32) := (if (M.1 12 0 5) ≤ x4 then some (.inr x3) else (gIter (fun s => X9_timesInBins_L20 i1 x2 x4 s.1 s.2 M) FU (x3, 0)).bind (fun x3_10 => gLet (x4 + 1) (fun x4_11 => some (.inl (x3_10, x4_11)))))
theorem t_X9_timesInBins_L5 {Ψ : gM → Nat → List (Nat × Value) → List Value → Prop} {G : gG5} {nf : Nat} {M : gM} {v0 : Option Value} {M0 : gM} {i1 : Nat} {x2 : Int32} {x3 : Int32} {x4 : Int32} {w : ((Int32 × Int32) ⊕ Int32)} (C : gC Ψ G (gXn nf) cX9_timesInBins RX9 6 (some .int) 0 0 v0 M0) (h1 : i1 < nf + 3) (hr : X9_timesInBins_L5 i1 x2 x3 x4 M = some w) (hn : ∀ s, w = .inl s → Ψ M 5 [(0, .ref (gad 17 0)), (1, .ref (gad 33 i1)), (2, .int x2), (3, .int (s.1)), (4, .int (s.2))] []) (hx : ∀ e, w = .inr e → (fun e => Ψ M 71 [(3, .int e)] []) e) : Ψ M 5 [(0, .ref (gad 17 0)), (1, .ref (gad 33 i1)), (2, .int x2), (3, .int x3), (4, .int x4)] [] := by
  refine r_iload (pc := 5) C dX9_timesInBins_5 4 rfl ?_
  refine r_aload_n (pc := 7) C dX9_timesInBins_7 rfl 0 rfl ?_
  refine g17_1 (pc := 8) C dX9_timesInBins_8 q377 (e17 nf) ?_
  refine g12_5 (pc := 11) C dX9_timesInBins_11 q272 (e12 nf) ?_
  refine r_icmp_ge (pc := 14) (tgt := 71) C dX9_timesInBins_14 rfl (fun c_1 => ?_) (fun c_1 => ?_)
  · replace hr := (if_pos c_1).symm.trans hr
    refine r_sub C [3] (ls' := [(3, .int x3)]) rfl ?_
    exact hx x3 (gSome hr)
  · replace hr := (if_neg c_1).symm.trans hr
    refine r_iconst (pc := 17) C dX9_timesInBins_17 ki0 ?_
    refine r_istore (pc := 18) C dX9_timesInBins_18 (by decide) rfl (ls' := [(5, .int 0), (0, .ref (gad 17 0)), (1, .ref (gad 33 i1)), (2, .int x2), (3, .int x3), (4, .int x4)]) rfl ?_
    refine r_sub C [1, 2, 3, 4, 5, 0] (ls' := [(0, .ref (gad 17 0)), (1, .ref (gad 33 i1)), (2, .int x2), (3, .int x3), (4, .int x4), (5, .int 0)]) rfl ?_
    obtain ⟨ev, hit, hr⟩ := gBind_some hr
    refine gIter_V (step := fun s => X9_timesInBins_L20 i1 x2 x4 s.1 s.2 M) (P := fun s => Ψ M 20 [(0, .ref (gad 17 0)), (1, .ref (gad 33 i1)), (2, .int x2), (3, .int (s.1)), (4, .int x4), (5, .int (s.2))] []) (K := (fun e => Ψ M 65 [(0, .ref (gad 17 0)), (1, .ref (gad 33 i1)), (2, .int x2), (3, .int e), (4, .int x4)] [])) (fun s w hs hn hx => t_X9_timesInBins_L20 C h1 hs hn hx) FU (x3, 0) ev hit ?_
    obtain ⟨x3_10, rfl⟩ : ∃ z, z = ev := ⟨_, rfl⟩
    show Ψ M 65 [(0, .ref (gad 17 0)), (1, .ref (gad 33 i1)), (2, .int x2), (3, .int x3_10), (4, .int x4)] []
    obtain ⟨x4_11, ex4_11, hr⟩ := gLet_some hr
    refine r_iinc (pc := 65) C dX9_timesInBins_65 4 rfl rfl (by decide) ex4_11 (ls' := [(4, .int x4_11), (0, .ref (gad 17 0)), (1, .ref (gad 33 i1)), (2, .int x2), (3, .int x3_10)]) rfl ?_
    refine r_goto (pc := 68) (tgt := 5) C dX9_timesInBins_68 rfl ?_
    refine r_sub C [1, 2, 3, 4, 0] (ls' := [(0, .ref (gad 17 0)), (1, .ref (gad 33 i1)), (2, .int x2), (3, .int x3_10), (4, .int x4_11)]) rfl ?_
    exact hn (x3_10, x4_11) (gSome hr)
noncomputable def X9_timesInBins (i1 : Nat) (p2 : Int32) (M : gM) : Option Int32 := (gIter (fun s => X9_timesInBins_L5 i1 p2 s.1 s.2 M) FU (0, 0)).bind (fun x3_12 => some x3_12)
theorem k_X9_timesInBins {G : gG5} {nf : Nat} {M : gM} {i1 : Nat} {p2 : Int32} (h1 : i1 < nf + 3) {r : Int32} (hr : X9_timesInBins i1 p2 M = some r) : gMet G (gXn nf) yX9_timesInBins cX9_timesInBins 6 (some .int) 0 0 M [.ref (gad 17 0), .ref (gad 33 i1), .int p2] (some (.int r)) M := by
  refine gMet_of pl_X9 rfl (Nat.le_of_ble_eq_true rfl) (fun Ψ C CR => ?_)
  show Ψ M 0 [(0, .ref (gad 17 0)), (1, .ref (gad 33 i1)), (2, .int p2)] []
  refine r_iconst (pc := 0) C dX9_timesInBins_0 ki0 ?_
  refine r_istore_n (pc := 1) C dX9_timesInBins_1 rfl (by decide) rfl (ls' := [(3, .int 0), (0, .ref (gad 17 0)), (1, .ref (gad 33 i1)), (2, .int p2)]) rfl ?_
  refine r_iconst (pc := 2) C dX9_timesInBins_2 ki0 ?_
  refine r_istore (pc := 3) C dX9_timesInBins_3 (by decide) rfl (ls' := [(4, .int 0), (3, .int 0), (0, .ref (gad 17 0)), (1, .ref (gad 33 i1)), (2, .int p2)]) rfl ?_
  refine r_sub C [2, 3, 4, 1, 0] (ls' := [(0, .ref (gad 17 0)), (1, .ref (gad 33 i1)), (2, .int p2), (3, .int 0), (4, .int 0)]) rfl ?_
  obtain ⟨ev, hit, hr⟩ := gBind_some hr
  refine gIter_V (step := fun s => X9_timesInBins_L5 i1 p2 s.1 s.2 M) (P := fun s => Ψ M 5 [(0, .ref (gad 17 0)), (1, .ref (gad 33 i1)), (2, .int p2), (3, .int (s.1)), (4, .int (s.2))] []) (K := (fun e => Ψ M 71 [(3, .int e)] [])) (fun s w hs hn hx => t_X9_timesInBins_L5 C h1 hs hn hx) FU (0, 0) ev hit ?_
  obtain ⟨x3_12, rfl⟩ : ∃ z, z = ev := ⟨_, rfl⟩
  show Ψ M 71 [(3, .int x3_12)] []
  refine r_iload_n (pc := 71) C dX9_timesInBins_71 rfl 0 rfl ?_
  exact r_iret (pc := 72) CR dX9_timesInBins_72 (congrArg (fun z => some (Value.int z)) (gSome hr)) rfl
theorem c_X9_timesInBins {Ψ : gM → Nat → List (Nat × Value) → List Value → Prop} {G : gG5} {nf : Nat} {cc : ByteArray} {own : String} {nL : Nat} {ret : Option FieldType} {fr lo : Nat} {v0 : Option Value} {M0 M : gM} {pc index : Nat} {ls : List (Nat × Value)} {st : List Value} (C : gC Ψ G (gXn nf) cc own nL ret fr lo v0 M0) (d : decode cc pc = .ok (.invokevirtual index, 3)) (hl : Cond.methodLink own index yX9_timesInBins ∈ gws) (hR : 1 ≤ fr ∧ 25 ≤ lo) {i1 : Nat} {p2 : Int32} (h1 : i1 < nf + 3) {r : Int32} (hr : X9_timesInBins i1 p2 M = some r) (hcat : (st.map fun v => v.category).sum ≤ 8) (k : Ψ M (pc + 3) ls (.int r :: st)) : Ψ M pc ls (.int p2 :: .ref (gad 33 i1) :: .ref (gad 17 0) :: st) := r_callV C [.ref (gad 33 i1), .int p2] st d (k_X9_timesInBins h1 hr) hl q982 q983 q121 q984 hd_X9_timesInBins hR rfl (by decide) (e17 nf) rfl hcat k
theorem hd_X10_corner : yX10_corner.cls ≠ "java/lang/invoke/MethodHandle" ∧ yX10_corner.cls ≠ "java/lang/invoke/VarHandle" ∧ (parseMethodDescriptor yX10_corner.desc).map (fun d => d.parameters.length) = some 3 := by decide +kernel
noncomputable def X10_corner (p1 : Int32) (p2 : Int32) (p3 : Int32) (M : gM) : Option Int32 := (X4_has 1 p1 M).bind (fun r_2 => (if r_2 = 0 then some (-1000000000) else (if p2 < 0 then some (-1000000000) else (if 2 < p2 then some (-1000000000) else (if p3 < 0 then some (-1000000000) else (if p3 ≤ 2 then (if p3 = 2 then gG (gin ((p1 * 3) + p2) 30) (some (M.1 10 1 (Int32.toNatClampNeg ((p1 * 3) + p2)))) else gG (gin (((p1 * 6) + (p2 * 2)) + p3) 60) (some (M.1 39 0 (Int32.toNatClampNeg (((p1 * 6) + (p2 * 2)) + p3))))) else some (-1000000000)))))))
theorem k_X10_corner {G : gG5} {nf : Nat} {M : gM} {p1 : Int32} {p2 : Int32} {p3 : Int32} {r : Int32} (hr : X10_corner p1 p2 p3 M = some r) : gMet G (gXn nf) yX10_corner cX10_corner 4 (some .int) 1 21 M [.ref (gad 0 0), .int p1, .int p2, .int p3] (some (.int r)) M := by
  refine gMet_of pl_X10 rfl (Nat.le_of_ble_eq_true rfl) (fun Ψ C CR => ?_)
  show Ψ M 0 [(0, .ref (gad 0 0)), (1, .int p1), (2, .int p2), (3, .int p3)] []
  refine r_aload_n (pc := 0) C dX10_corner_0 rfl 0 rfl ?_
  refine g0_3 (pc := 1) C dX10_corner_1 q537 (e0 nf) ?_
  refine r_iload_n (pc := 4) C dX10_corner_4 rfl 1 rfl ?_
  obtain ⟨r_2, hc_1, hr⟩ := gBind_some hr
  refine c_X4_has (pc := 5) C dX10_corner_5 q867 ⟨Nat.le_of_ble_eq_true rfl, Nat.le_of_ble_eq_true rfl⟩ (by decide) hc_1 (Nat.le_of_ble_eq_true rfl) ?_
  refine r_if_eq (pc := 8) (tgt := 29) C dX10_corner_8 rfl (fun c_3 => ?_) (fun c_3 => ?_)
  · replace hr := (if_pos c_3).symm.trans hr
    refine r_ldc (pc := 29) C dX10_corner_29 q871 ?_
    exact r_iret (pc := 31) CR dX10_corner_31 (congrArg (fun z => some (Value.int z)) (gSome hr)) rfl
  · replace hr := (if_neg c_3).symm.trans hr
    refine r_iload_n (pc := 11) C dX10_corner_11 rfl 2 rfl ?_
    refine r_if_lt (pc := 12) (tgt := 29) C dX10_corner_12 rfl (fun c_4 => ?_) (fun c_4 => ?_)
    · replace hr := (if_pos c_4).symm.trans hr
      refine r_ldc (pc := 29) C dX10_corner_29 q871 ?_
      exact r_iret (pc := 31) CR dX10_corner_31 (congrArg (fun z => some (Value.int z)) (gSome hr)) rfl
    · replace hr := (if_neg c_4).symm.trans hr
      refine r_iload_n (pc := 15) C dX10_corner_15 rfl 2 rfl ?_
      refine r_iconst (pc := 16) C dX10_corner_16 ki2 ?_
      refine r_icmp_gt (pc := 17) (tgt := 29) C dX10_corner_17 rfl (fun c_5 => ?_) (fun c_5 => ?_)
      · replace hr := (if_pos c_5).symm.trans hr
        refine r_ldc (pc := 29) C dX10_corner_29 q871 ?_
        exact r_iret (pc := 31) CR dX10_corner_31 (congrArg (fun z => some (Value.int z)) (gSome hr)) rfl
      · replace hr := (if_neg c_5).symm.trans hr
        refine r_iload_n (pc := 20) C dX10_corner_20 rfl 3 rfl ?_
        refine r_if_lt (pc := 21) (tgt := 29) C dX10_corner_21 rfl (fun c_6 => ?_) (fun c_6 => ?_)
        · replace hr := (if_pos c_6).symm.trans hr
          refine r_ldc (pc := 29) C dX10_corner_29 q871 ?_
          exact r_iret (pc := 31) CR dX10_corner_31 (congrArg (fun z => some (Value.int z)) (gSome hr)) rfl
        · replace hr := (if_neg c_6).symm.trans hr
          refine r_iload_n (pc := 24) C dX10_corner_24 rfl 3 rfl ?_
          refine r_iconst (pc := 25) C dX10_corner_25 ki2 ?_
          refine r_icmp_le (pc := 26) (tgt := 32) C dX10_corner_26 rfl (fun c_7 => ?_) (fun c_7 => ?_)
          · replace hr := (if_pos c_7).symm.trans hr
            refine r_iload_n (pc := 32) C dX10_corner_32 rfl 3 rfl ?_
            refine r_iconst (pc := 33) C dX10_corner_33 ki2 ?_
            refine r_icmp_ne (pc := 34) (tgt := 51) C dX10_corner_34 rfl (fun c_8 => ?_) (fun c_8 => ?_)
            · replace hr := (if_neg c_8).symm.trans hr
              refine r_aload_n (pc := 51) C dX10_corner_51 rfl 0 rfl ?_
              refine g0_7 (pc := 52) C dX10_corner_52 q541 (e0 nf) ?_
              refine g33_5 (pc := 55) C dX10_corner_55 q420 (e33 (nf := nf) (gf0 nf)) ?_
              refine r_iload_n (pc := 58) C dX10_corner_58 rfl 1 rfl ?_
              refine r_bipush (pc := 59) C dX10_corner_59 kb6 ?_
              refine r_imul (pc := 61) C dX10_corner_61 ?_
              refine r_iload_n (pc := 62) C dX10_corner_62 rfl 2 rfl ?_
              refine r_iconst (pc := 63) C dX10_corner_63 ki2 ?_
              refine r_imul (pc := 64) C dX10_corner_64 ?_
              refine r_iadd (pc := 65) C dX10_corner_65 ?_
              refine r_iload_n (pc := 66) C dX10_corner_66 rfl 3 rfl ?_
              refine r_iadd (pc := 67) C dX10_corner_67 ?_
              obtain ⟨g_9, hr⟩ := gG_some hr
              refine r_ialdN (pc := 68) C dX10_corner_68 rfl (e39 (nf := nf) (gf0 nf)) g_9 rfl ?_
              exact r_iret (pc := 69) CR dX10_corner_69 (congrArg (fun z => some (Value.int z)) (gSome hr)) rfl
            · replace hr := (if_pos c_8).symm.trans hr
              refine r_aload_n (pc := 37) C dX10_corner_37 rfl 0 rfl ?_
              refine g0_3 (pc := 38) C dX10_corner_38 q537 (e0 nf) ?_
              refine g5_10 (pc := 41) C dX10_corner_41 q231 (e5 (nf := nf) (by decide)) ?_
              refine r_iload_n (pc := 44) C dX10_corner_44 rfl 1 rfl ?_
              refine r_iconst (pc := 45) C dX10_corner_45 ki3 ?_
              refine r_imul (pc := 46) C dX10_corner_46 ?_
              refine r_iload_n (pc := 47) C dX10_corner_47 rfl 2 rfl ?_
              refine r_iadd (pc := 48) C dX10_corner_48 ?_
              obtain ⟨g_10, hr⟩ := gG_some hr
              refine r_ialdN (pc := 49) C dX10_corner_49 rfl (e10 (nf := nf) (by decide)) g_10 rfl ?_
              exact r_iret (pc := 50) CR dX10_corner_50 (congrArg (fun z => some (Value.int z)) (gSome hr)) rfl
          · replace hr := (if_neg c_7).symm.trans hr
            refine r_ldc (pc := 29) C dX10_corner_29 q871 ?_
            exact r_iret (pc := 31) CR dX10_corner_31 (congrArg (fun z => some (Value.int z)) (gSome hr)) rfl
theorem c_X10_corner {Ψ : gM → Nat → List (Nat × Value) → List Value → Prop} {G : gG5} {nf : Nat} {cc : ByteArray} {own : String} {nL : Nat} {ret : Option FieldType} {fr lo : Nat} {v0 : Option Value} {M0 M : gM} {pc index : Nat} {ls : List (Nat × Value)} {st : List Value} (C : gC Ψ G (gXn nf) cc own nL ret fr lo v0 M0) (d : decode cc pc = .ok (.invokevirtual index, 3)) (hl : Cond.methodLink own index yX10_corner ∈ gws) (hR : 2 ≤ fr ∧ 44 ≤ lo) {p1 : Int32} {p2 : Int32} {p3 : Int32} {r : Int32} (hr : X10_corner p1 p2 p3 M = some r) (hcat : (st.map fun v => v.category).sum ≤ 8) (k : Ψ M (pc + 3) ls (.int r :: st)) : Ψ M pc ls (.int p3 :: .int p2 :: .int p1 :: .ref (gad 0 0) :: st) := r_callV C [.int p1, .int p2, .int p3] st d (k_X10_corner hr) hl q864 q865 q116 q866 hd_X10_corner hR rfl (by decide) (e0 nf) rfl hcat k
theorem hd_X10_isPoint : yX10_isPoint.cls ≠ "java/lang/invoke/MethodHandle" ∧ yX10_isPoint.cls ≠ "java/lang/invoke/VarHandle" ∧ (parseMethodDescriptor yX10_isPoint.desc).map (fun d => d.parameters.length) = some 1 := by decide +kernel
noncomputable def X10_isPoint (p0 : Int32) (M : gM) : Option Int32 := (if p0 < (-99) then some 0 else (if 160 < p0 then some 0 else some 1))
theorem k_X10_isPoint {G : gG5} {nf : Nat} {M : gM} {p0 : Int32} {r : Int32} (hr : X10_isPoint p0 M = some r) : gMet G (gXn nf) yX10_isPoint cX10_isPoint 1 (some .boolean) 0 0 M [.int p0] (some (.int r)) M := by
  refine gMet_of pl_X10 rfl (Nat.le_of_ble_eq_true rfl) (fun Ψ C CR => ?_)
  show Ψ M 0 [(0, .int p0)] []
  refine r_iload_n (pc := 0) C dX10_isPoint_0 rfl 0 rfl ?_
  refine r_bipush (pc := 1) C dX10_isPoint_1 kbm99 ?_
  refine r_icmp_lt (pc := 3) (tgt := 17) C dX10_isPoint_3 rfl (fun c_1 => ?_) (fun c_1 => ?_)
  · replace hr := (if_pos c_1).symm.trans hr
    refine r_iconst (pc := 17) C dX10_isPoint_17 ki0 ?_
    exact r_zret (pc := 18) CR dX10_isPoint_18 rfl (congrArg (fun z => some (Value.int z)) (gSome hr)) rfl
  · replace hr := (if_neg c_1).symm.trans hr
    refine r_iload_n (pc := 6) C dX10_isPoint_6 rfl 0 rfl ?_
    refine r_sipush (pc := 7) C dX10_isPoint_7 ks160 ?_
    refine r_icmp_gt (pc := 10) (tgt := 17) C dX10_isPoint_10 rfl (fun c_2 => ?_) (fun c_2 => ?_)
    · replace hr := (if_pos c_2).symm.trans hr
      refine r_iconst (pc := 17) C dX10_isPoint_17 ki0 ?_
      exact r_zret (pc := 18) CR dX10_isPoint_18 rfl (congrArg (fun z => some (Value.int z)) (gSome hr)) rfl
    · replace hr := (if_neg c_2).symm.trans hr
      refine r_iconst (pc := 13) C dX10_isPoint_13 ki1 ?_
      refine r_goto (pc := 14) (tgt := 18) C dX10_isPoint_14 rfl ?_
      exact r_zret (pc := 18) CR dX10_isPoint_18 rfl (congrArg (fun z => some (Value.int z)) (gSome hr)) rfl
theorem c_X10_isPoint {Ψ : gM → Nat → List (Nat × Value) → List Value → Prop} {G : gG5} {nf : Nat} {cc : ByteArray} {own : String} {nL : Nat} {ret : Option FieldType} {fr lo : Nat} {v0 : Option Value} {M0 M : gM} {pc index : Nat} {ls : List (Nat × Value)} {st : List Value} (C : gC Ψ G (gXn nf) cc own nL ret fr lo v0 M0) (d : decode cc pc = .ok (.invokestatic index, 3)) (hl : Cond.methodLink own index yX10_isPoint ∈ gws) (hR : 1 ≤ fr ∧ 20 ≤ lo) {p0 : Int32} {r : Int32} (hr : X10_isPoint p0 M = some r) (hcat : (st.map fun v => v.category).sum ≤ 8) (k : Ψ M (pc + 3) ls (.int r :: st)) : Ψ M pc ls (.int p0 :: st) := r_callS C [.int p0] st d (k_X10_isPoint hr) hl q877 q116 q878 hd_X10_isPoint hR rfl hcat k
theorem cn_X10_isPoint {Ψ : gM → Nat → List (Nat × Value) → List Value → Prop} {G : gG5} {nf : Nat} {cc : ByteArray} {nL : Nat} {ret : Option FieldType} {fr lo : Nat} {v0 : Option Value} {M0 M : gM} {pc : Nat} {ls : List (Nat × Value)} {st : List Value} (C : gC Ψ G (gXn nf) cc RX9 nL ret fr lo v0 M0) (d : decode cc pc = .ok (.invokestatic 118, 3)) (hR : 1 ≤ fr ∧ 20 ≤ lo) {p0 : Int32} {r : Int32} (hr : X10_isPoint p0 M = some r) (hcat : (st.map fun v => v.category).sum ≤ 8) (k : Ψ M (pc + 3) ls (.int r :: st)) : Ψ M pc ls (.int p0 :: st) := r_callSN C [.int p0] st d (k_X10_isPoint hr) q877 q116 q878 hd_X10_isPoint hR rfl hcat k
theorem hd_X10_edge : yX10_edge.cls ≠ "java/lang/invoke/MethodHandle" ∧ yX10_edge.cls ≠ "java/lang/invoke/VarHandle" ∧ (parseMethodDescriptor yX10_edge.desc).map (fun d => d.parameters.length) = some 4 := by decide +kernel
noncomputable def X10_edge (p1 : Int32) (p2 : Int32) (p3 : Int32) (p4 : Int32) (M : gM) : Option Int32 := (X4_has 1 p1 M).bind (fun r_2 => (if r_2 = 0 then some (-1000000000) else (if p2 < 0 then some (-1000000000) else (if 2 < p2 then some (-1000000000) else (X10_isPoint p3 M).bind (fun r_7 => (if r_7 = 0 then some (-1000000000) else (X10_isPoint p4 M).bind (fun r_10 => (if r_10 = 0 then some (-1000000000) else gG (gin p1 10) ((X6_sumAt (Int32.toNatClampNeg p1) p2 p3 p4 M).bind (fun r_14 => some r_14))))))))))
theorem k_X10_edge {G : gG5} {nf : Nat} {M : gM} {p1 : Int32} {p2 : Int32} {p3 : Int32} {p4 : Int32} {r : Int32} (hr : X10_edge p1 p2 p3 p4 M = some r) : gMet G (gXn nf) yX10_edge cX10_edge 5 (some .int) 1 23 M [.ref (gad 0 0), .int p1, .int p2, .int p3, .int p4] (some (.int r)) M := by
  refine gMet_of pl_X10 rfl (Nat.le_of_ble_eq_true rfl) (fun Ψ C CR => ?_)
  show Ψ M 0 [(0, .ref (gad 0 0)), (1, .int p1), (2, .int p2), (3, .int p3), (4, .int p4)] []
  refine r_aload_n (pc := 0) C dX10_edge_0 rfl 0 rfl ?_
  refine g0_3 (pc := 1) C dX10_edge_1 q537 (e0 nf) ?_
  refine r_iload_n (pc := 4) C dX10_edge_4 rfl 1 rfl ?_
  obtain ⟨r_2, hc_1, hr⟩ := gBind_some hr
  refine c_X4_has (pc := 5) C dX10_edge_5 q867 ⟨Nat.le_of_ble_eq_true rfl, Nat.le_of_ble_eq_true rfl⟩ (by decide) hc_1 (Nat.le_of_ble_eq_true rfl) ?_
  refine r_if_eq (pc := 8) (tgt := 35) C dX10_edge_8 rfl (fun c_3 => ?_) (fun c_3 => ?_)
  · replace hr := (if_pos c_3).symm.trans hr
    refine r_ldc (pc := 35) C dX10_edge_35 q871 ?_
    exact r_iret (pc := 37) CR dX10_edge_37 (congrArg (fun z => some (Value.int z)) (gSome hr)) rfl
  · replace hr := (if_neg c_3).symm.trans hr
    refine r_iload_n (pc := 11) C dX10_edge_11 rfl 2 rfl ?_
    refine r_if_lt (pc := 12) (tgt := 35) C dX10_edge_12 rfl (fun c_4 => ?_) (fun c_4 => ?_)
    · replace hr := (if_pos c_4).symm.trans hr
      refine r_ldc (pc := 35) C dX10_edge_35 q871 ?_
      exact r_iret (pc := 37) CR dX10_edge_37 (congrArg (fun z => some (Value.int z)) (gSome hr)) rfl
    · replace hr := (if_neg c_4).symm.trans hr
      refine r_iload_n (pc := 15) C dX10_edge_15 rfl 2 rfl ?_
      refine r_iconst (pc := 16) C dX10_edge_16 ki2 ?_
      refine r_icmp_gt (pc := 17) (tgt := 35) C dX10_edge_17 rfl (fun c_5 => ?_) (fun c_5 => ?_)
      · replace hr := (if_pos c_5).symm.trans hr
        refine r_ldc (pc := 35) C dX10_edge_35 q871 ?_
        exact r_iret (pc := 37) CR dX10_edge_37 (congrArg (fun z => some (Value.int z)) (gSome hr)) rfl
      · replace hr := (if_neg c_5).symm.trans hr
        refine r_iload_n (pc := 20) C dX10_edge_20 rfl 3 rfl ?_
        obtain ⟨r_7, hc_6, hr⟩ := gBind_some hr
        refine c_X10_isPoint (pc := 21) C dX10_edge_21 q876 ⟨Nat.le_of_ble_eq_true rfl, Nat.le_of_ble_eq_true rfl⟩ hc_6 (Nat.le_of_ble_eq_true rfl) ?_
        refine r_if_eq (pc := 24) (tgt := 35) C dX10_edge_24 rfl (fun c_8 => ?_) (fun c_8 => ?_)
        · replace hr := (if_pos c_8).symm.trans hr
          refine r_ldc (pc := 35) C dX10_edge_35 q871 ?_
          exact r_iret (pc := 37) CR dX10_edge_37 (congrArg (fun z => some (Value.int z)) (gSome hr)) rfl
        · replace hr := (if_neg c_8).symm.trans hr
          refine r_iload (pc := 27) C dX10_edge_27 4 rfl ?_
          obtain ⟨r_10, hc_9, hr⟩ := gBind_some hr
          refine c_X10_isPoint (pc := 29) C dX10_edge_29 q876 ⟨Nat.le_of_ble_eq_true rfl, Nat.le_of_ble_eq_true rfl⟩ hc_9 (Nat.le_of_ble_eq_true rfl) ?_
          refine r_if_ne (pc := 32) (tgt := 38) C dX10_edge_32 rfl (fun c_11 => ?_) (fun c_11 => ?_)
          · replace hr := (if_neg c_11).symm.trans hr
            refine r_aload_n (pc := 38) C dX10_edge_38 rfl 0 rfl ?_
            refine g0_5 (pc := 39) C dX10_edge_39 q539 (e0 nf) ?_
            refine g17_2 (pc := 42) C dX10_edge_42 q379 (e17 nf) ?_
            refine r_iload_n (pc := 45) C dX10_edge_45 rfl 1 rfl ?_
            obtain ⟨g_12, hr⟩ := gG_some hr
            refine a18 (pc := 46) C dX10_edge_46 g_12 ?_
            refine r_iload_n (pc := 47) C dX10_edge_47 rfl 2 rfl ?_
            refine r_iload_n (pc := 48) C dX10_edge_48 rfl 3 rfl ?_
            refine r_iload (pc := 49) C dX10_edge_49 4 rfl ?_
            obtain ⟨r_14, hc_13, hr⟩ := gBind_some hr
            refine c_X6_sumAt (pc := 51) C dX10_edge_51 q879 ⟨Nat.le_of_ble_eq_true rfl, Nat.le_of_ble_eq_true rfl⟩ (gin_lt g_12) hc_13 (Nat.le_of_ble_eq_true rfl) ?_
            exact r_iret (pc := 54) CR dX10_edge_54 (congrArg (fun z => some (Value.int z)) (gSome hr)) rfl
          · replace hr := (if_pos c_11).symm.trans hr
            refine r_ldc (pc := 35) C dX10_edge_35 q871 ?_
            exact r_iret (pc := 37) CR dX10_edge_37 (congrArg (fun z => some (Value.int z)) (gSome hr)) rfl
theorem c_X10_edge {Ψ : gM → Nat → List (Nat × Value) → List Value → Prop} {G : gG5} {nf : Nat} {cc : ByteArray} {own : String} {nL : Nat} {ret : Option FieldType} {fr lo : Nat} {v0 : Option Value} {M0 M : gM} {pc index : Nat} {ls : List (Nat × Value)} {st : List Value} (C : gC Ψ G (gXn nf) cc own nL ret fr lo v0 M0) (d : decode cc pc = .ok (.invokevirtual index, 3)) (hl : Cond.methodLink own index yX10_edge ∈ gws) (hR : 2 ≤ fr ∧ 47 ≤ lo) {p1 : Int32} {p2 : Int32} {p3 : Int32} {p4 : Int32} {r : Int32} (hr : X10_edge p1 p2 p3 p4 M = some r) (hcat : (st.map fun v => v.category).sum ≤ 8) (k : Ψ M (pc + 3) ls (.int r :: st)) : Ψ M pc ls (.int p4 :: .int p3 :: .int p2 :: .int p1 :: .ref (gad 0 0) :: st) := r_callV C [.int p1, .int p2, .int p3, .int p4] st d (k_X10_edge hr) hl q873 q874 q116 q875 hd_X10_edge hR rfl (by decide) (e0 nf) rfl hcat k
theorem hd_X1_hasPixel : yX1_hasPixel.cls ≠ "java/lang/invoke/MethodHandle" ∧ yX1_hasPixel.cls ≠ "java/lang/invoke/VarHandle" ∧ (parseMethodDescriptor yX1_hasPixel.desc).map (fun d => d.parameters.length) = some 2 := by decide +kernel
noncomputable def X1_hasPixel (p1 : Int32) (p2 : Int32) (M : gM) : Option Int32 := (if p1 < 0 then some 0 else (if (M.1 12 0 0) ≤ p1 then some 0 else (if p2 < 0 then some 0 else (if (M.1 12 0 1) ≤ p2 then some 0 else some 1))))
theorem k_X1_hasPixel {G : gG5} {nf : Nat} {M : gM} {p1 : Int32} {p2 : Int32} {r : Int32} (hr : X1_hasPixel p1 p2 M = some r) : gMet G (gXn nf) yX1_hasPixel cX1_hasPixel 3 (some .boolean) 0 0 M [.ref (gad 12 0), .int p1, .int p2] (some (.int r)) M := by
  refine gMet_of pl_X1 rfl (Nat.le_of_ble_eq_true rfl) (fun Ψ C CR => ?_)
  show Ψ M 0 [(0, .ref (gad 12 0)), (1, .int p1), (2, .int p2)] []
  refine r_iload_n (pc := 0) C dX1_hasPixel_0 rfl 1 rfl ?_
  refine r_if_lt (pc := 1) (tgt := 28) C dX1_hasPixel_1 rfl (fun c_1 => ?_) (fun c_1 => ?_)
  · replace hr := (if_pos c_1).symm.trans hr
    refine r_iconst (pc := 28) C dX1_hasPixel_28 ki0 ?_
    exact r_zret (pc := 29) CR dX1_hasPixel_29 rfl (congrArg (fun z => some (Value.int z)) (gSome hr)) rfl
  · replace hr := (if_neg c_1).symm.trans hr
    refine r_iload_n (pc := 4) C dX1_hasPixel_4 rfl 1 rfl ?_
    refine r_aload_n (pc := 5) C dX1_hasPixel_5 rfl 0 rfl ?_
    refine g12_0 (pc := 6) C dX1_hasPixel_6 q265 (e12 nf) ?_
    refine r_icmp_ge (pc := 9) (tgt := 28) C dX1_hasPixel_9 rfl (fun c_2 => ?_) (fun c_2 => ?_)
    · replace hr := (if_pos c_2).symm.trans hr
      refine r_iconst (pc := 28) C dX1_hasPixel_28 ki0 ?_
      exact r_zret (pc := 29) CR dX1_hasPixel_29 rfl (congrArg (fun z => some (Value.int z)) (gSome hr)) rfl
    · replace hr := (if_neg c_2).symm.trans hr
      refine r_iload_n (pc := 12) C dX1_hasPixel_12 rfl 2 rfl ?_
      refine r_if_lt (pc := 13) (tgt := 28) C dX1_hasPixel_13 rfl (fun c_3 => ?_) (fun c_3 => ?_)
      · replace hr := (if_pos c_3).symm.trans hr
        refine r_iconst (pc := 28) C dX1_hasPixel_28 ki0 ?_
        exact r_zret (pc := 29) CR dX1_hasPixel_29 rfl (congrArg (fun z => some (Value.int z)) (gSome hr)) rfl
      · replace hr := (if_neg c_3).symm.trans hr
        refine r_iload_n (pc := 16) C dX1_hasPixel_16 rfl 2 rfl ?_
        refine r_aload_n (pc := 17) C dX1_hasPixel_17 rfl 0 rfl ?_
        refine g12_1 (pc := 18) C dX1_hasPixel_18 q266 (e12 nf) ?_
        refine r_icmp_ge (pc := 21) (tgt := 28) C dX1_hasPixel_21 rfl (fun c_4 => ?_) (fun c_4 => ?_)
        · replace hr := (if_pos c_4).symm.trans hr
          refine r_iconst (pc := 28) C dX1_hasPixel_28 ki0 ?_
          exact r_zret (pc := 29) CR dX1_hasPixel_29 rfl (congrArg (fun z => some (Value.int z)) (gSome hr)) rfl
        · replace hr := (if_neg c_4).symm.trans hr
          refine r_iconst (pc := 24) C dX1_hasPixel_24 ki1 ?_
          refine r_goto (pc := 25) (tgt := 29) C dX1_hasPixel_25 rfl ?_
          exact r_zret (pc := 29) CR dX1_hasPixel_29 rfl (congrArg (fun z => some (Value.int z)) (gSome hr)) rfl
theorem c_X1_hasPixel {Ψ : gM → Nat → List (Nat × Value) → List Value → Prop} {G : gG5} {nf : Nat} {cc : ByteArray} {own : String} {nL : Nat} {ret : Option FieldType} {fr lo : Nat} {v0 : Option Value} {M0 M : gM} {pc index : Nat} {ls : List (Nat × Value)} {st : List Value} (C : gC Ψ G (gXn nf) cc own nL ret fr lo v0 M0) (d : decode cc pc = .ok (.invokevirtual index, 3)) (hl : Cond.methodLink own index yX1_hasPixel ∈ gws) (hR : 1 ≤ fr ∧ 22 ≤ lo) {p1 : Int32} {p2 : Int32} {r : Int32} (hr : X1_hasPixel p1 p2 M = some r) (hcat : (st.map fun v => v.category).sum ≤ 8) (k : Ψ M (pc + 3) ls (.int r :: st)) : Ψ M pc ls (.int p2 :: .int p1 :: .ref (gad 12 0) :: st) := r_callV C [.int p1, .int p2] st d (k_X1_hasPixel hr) hl q885 q886 q120 q887 hd_X1_hasPixel hR rfl (by decide) (e12 nf) rfl hcat k
theorem hd_X10_mask : yX10_mask.cls ≠ "java/lang/invoke/MethodHandle" ∧ yX10_mask.cls ≠ "java/lang/invoke/VarHandle" ∧ (parseMethodDescriptor yX10_mask.desc).map (fun d => d.parameters.length) = some 3 := by decide +kernel
noncomputable def X10_mask_L31 (x1 : Int32) (x2 : Int32) (x3 : Int32) (x4 : Int32) (x5 : Int32) (M : gM) : Option ((Int32 × Int32) ⊕ Int32) := (if (M.1 12 0 3) ≤ x5 then some (.inr x4) else (X1_placeOf x2 x3 M).bind (fun r_9 => (X9_depthIn 0 x1 (r_9 + x5) M).bind (fun r_11 => (if r_11 < 0 then gLet (x5 + 1) (fun x5_13 => some (.inl (x4, x5_13))) else gLet ((x4 ||| (1 <<< (x5 &&& 31)))) (fun x4_14 => gLet (x5 + 1) (fun x5_15 => some (.inl (x4_14, x5_15))))))))
theorem t_X10_mask_L31 {Ψ : gM → Nat → List (Nat × Value) → List Value → Prop} {G : gG5} {nf : Nat} {M : gM} {v0 : Option Value} {M0 : gM} {x1 : Int32} {x2 : Int32} {x3 : Int32} {x4 : Int32} {x5 : Int32} {w : ((Int32 × Int32) ⊕ Int32)} (C : gC Ψ G (gXn nf) cX10_mask RX10 6 (some .int) 2 47 v0 M0) (hr : X10_mask_L31 x1 x2 x3 x4 x5 M = some w) (hn : ∀ s, w = .inl s → Ψ M 31 [(0, .ref (gad 0 0)), (1, .int x1), (2, .int x2), (3, .int x3), (4, .int (s.1)), (5, .int (s.2))] []) (hx : ∀ e, w = .inr e → (fun e => Ψ M 81 [(4, .int e)] []) e) : Ψ M 31 [(0, .ref (gad 0 0)), (1, .int x1), (2, .int x2), (3, .int x3), (4, .int x4), (5, .int x5)] [] := by
  refine r_iload (pc := 31) C dX10_mask_31 5 rfl ?_
  refine r_aload_n (pc := 33) C dX10_mask_33 rfl 0 rfl ?_
  refine g0_4 (pc := 34) C dX10_mask_34 q538 (e0 nf) ?_
  refine g12_3 (pc := 37) C dX10_mask_37 q269 (e12 nf) ?_
  refine r_icmp_ge (pc := 40) (tgt := 81) C dX10_mask_40 rfl (fun c_7 => ?_) (fun c_7 => ?_)
  · replace hr := (if_pos c_7).symm.trans hr
    refine r_sub C [4] (ls' := [(4, .int x4)]) rfl ?_
    exact hx x4 (gSome hr)
  · replace hr := (if_neg c_7).symm.trans hr
    refine r_aload_n (pc := 43) C dX10_mask_43 rfl 0 rfl ?_
    refine g0_5 (pc := 44) C dX10_mask_44 q539 (e0 nf) ?_
    refine r_aload_n (pc := 47) C dX10_mask_47 rfl 0 rfl ?_
    refine g0_7 (pc := 48) C dX10_mask_48 q541 (e0 nf) ?_
    refine r_iload_n (pc := 51) C dX10_mask_51 rfl 1 rfl ?_
    refine r_iload_n (pc := 52) C dX10_mask_52 rfl 2 rfl ?_
    refine r_iload_n (pc := 53) C dX10_mask_53 rfl 3 rfl ?_
    obtain ⟨r_9, hc_8, hr⟩ := gBind_some hr
    refine c_X1_placeOf (pc := 54) C dX10_mask_54 q888 ⟨Nat.le_of_ble_eq_true rfl, Nat.le_of_ble_eq_true rfl⟩ hc_8 (Nat.le_of_ble_eq_true rfl) ?_
    refine r_iload (pc := 57) C dX10_mask_57 5 rfl ?_
    refine r_iadd (pc := 59) C dX10_mask_59 ?_
    obtain ⟨r_11, hc_10, hr⟩ := gBind_some hr
    refine c_X9_depthIn (pc := 60) C dX10_mask_60 q889 ⟨Nat.le_of_ble_eq_true rfl, Nat.le_of_ble_eq_true rfl⟩ (gf0 nf) hc_10 (Nat.le_of_ble_eq_true rfl) ?_
    refine r_if_lt (pc := 63) (tgt := 75) C dX10_mask_63 rfl (fun c_12 => ?_) (fun c_12 => ?_)
    · replace hr := (if_pos c_12).symm.trans hr
      obtain ⟨x5_13, ex5_13, hr⟩ := gLet_some hr
      refine r_iinc (pc := 75) C dX10_mask_75 5 rfl rfl (by decide) ex5_13 (ls' := [(5, .int x5_13), (0, .ref (gad 0 0)), (1, .int x1), (2, .int x2), (3, .int x3), (4, .int x4)]) rfl ?_
      refine r_goto (pc := 78) (tgt := 31) C dX10_mask_78 rfl ?_
      refine r_sub C [1, 2, 3, 4, 5, 0] (ls' := [(0, .ref (gad 0 0)), (1, .int x1), (2, .int x2), (3, .int x3), (4, .int x4), (5, .int x5_13)]) rfl ?_
      exact hn (x4, x5_13) (gSome hr)
    · replace hr := (if_neg c_12).symm.trans hr
      refine r_iload (pc := 66) C dX10_mask_66 4 rfl ?_
      refine r_iconst (pc := 68) C dX10_mask_68 ki1 ?_
      refine r_iload (pc := 69) C dX10_mask_69 5 rfl ?_
      refine r_ishl (pc := 71) C dX10_mask_71 ?_
      refine r_ior (pc := 72) C dX10_mask_72 ?_
      obtain ⟨x4_14, ex4_14, hr⟩ := gLet_some hr
      refine r_istore (pc := 73) C dX10_mask_73 (by decide) ex4_14 (ls' := [(4, .int x4_14), (0, .ref (gad 0 0)), (1, .int x1), (2, .int x2), (3, .int x3), (5, .int x5)]) rfl ?_
      obtain ⟨x5_15, ex5_15, hr⟩ := gLet_some hr
      refine r_iinc (pc := 75) C dX10_mask_75 5 rfl rfl (by decide) ex5_15 (ls' := [(5, .int x5_15), (4, .int x4_14), (0, .ref (gad 0 0)), (1, .int x1), (2, .int x2), (3, .int x3)]) rfl ?_
      refine r_goto (pc := 78) (tgt := 31) C dX10_mask_78 rfl ?_
      refine r_sub C [2, 3, 4, 5, 1, 0] (ls' := [(0, .ref (gad 0 0)), (1, .int x1), (2, .int x2), (3, .int x3), (4, .int x4_14), (5, .int x5_15)]) rfl ?_
      exact hn (x4_14, x5_15) (gSome hr)
noncomputable def X10_mask (p1 : Int32) (p2 : Int32) (p3 : Int32) (M : gM) : Option Int32 := (X4_has 1 p1 M).bind (fun r_2 => (if r_2 = 0 then some (-1) else (X1_hasPixel p2 p3 M).bind (fun r_5 => (if r_5 = 0 then some (-1) else (gIter (fun s => X10_mask_L31 p1 p2 p3 s.1 s.2 M) FU (0, 0)).bind (fun x4_16 => some x4_16)))))
theorem k_X10_mask {G : gG5} {nf : Nat} {M : gM} {p1 : Int32} {p2 : Int32} {p3 : Int32} {r : Int32} (hr : X10_mask p1 p2 p3 M = some r) : gMet G (gXn nf) yX10_mask cX10_mask 6 (some .int) 2 47 M [.ref (gad 0 0), .int p1, .int p2, .int p3] (some (.int r)) M := by
  refine gMet_of pl_X10 rfl (Nat.le_of_ble_eq_true rfl) (fun Ψ C CR => ?_)
  show Ψ M 0 [(0, .ref (gad 0 0)), (1, .int p1), (2, .int p2), (3, .int p3)] []
  refine r_aload_n (pc := 0) C dX10_mask_0 rfl 0 rfl ?_
  refine g0_3 (pc := 1) C dX10_mask_1 q537 (e0 nf) ?_
  refine r_iload_n (pc := 4) C dX10_mask_4 rfl 1 rfl ?_
  obtain ⟨r_2, hc_1, hr⟩ := gBind_some hr
  refine c_X4_has (pc := 5) C dX10_mask_5 q867 ⟨Nat.le_of_ble_eq_true rfl, Nat.le_of_ble_eq_true rfl⟩ (by decide) hc_1 (Nat.le_of_ble_eq_true rfl) ?_
  refine r_if_eq (pc := 8) (tgt := 23) C dX10_mask_8 rfl (fun c_3 => ?_) (fun c_3 => ?_)
  · replace hr := (if_pos c_3).symm.trans hr
    refine r_iconst (pc := 23) C dX10_mask_23 kim1 ?_
    exact r_iret (pc := 24) CR dX10_mask_24 (congrArg (fun z => some (Value.int z)) (gSome hr)) rfl
  · replace hr := (if_neg c_3).symm.trans hr
    refine r_aload_n (pc := 11) C dX10_mask_11 rfl 0 rfl ?_
    refine g0_4 (pc := 12) C dX10_mask_12 q538 (e0 nf) ?_
    refine r_iload_n (pc := 15) C dX10_mask_15 rfl 2 rfl ?_
    refine r_iload_n (pc := 16) C dX10_mask_16 rfl 3 rfl ?_
    obtain ⟨r_5, hc_4, hr⟩ := gBind_some hr
    refine c_X1_hasPixel (pc := 17) C dX10_mask_17 q884 ⟨Nat.le_of_ble_eq_true rfl, Nat.le_of_ble_eq_true rfl⟩ hc_4 (Nat.le_of_ble_eq_true rfl) ?_
    refine r_if_ne (pc := 20) (tgt := 25) C dX10_mask_20 rfl (fun c_6 => ?_) (fun c_6 => ?_)
    · replace hr := (if_neg c_6).symm.trans hr
      refine r_iconst (pc := 25) C dX10_mask_25 ki0 ?_
      refine r_istore (pc := 26) C dX10_mask_26 (by decide) rfl (ls' := [(4, .int 0), (0, .ref (gad 0 0)), (1, .int p1), (2, .int p2), (3, .int p3)]) rfl ?_
      refine r_iconst (pc := 28) C dX10_mask_28 ki0 ?_
      refine r_istore (pc := 29) C dX10_mask_29 (by decide) rfl (ls' := [(5, .int 0), (4, .int 0), (0, .ref (gad 0 0)), (1, .int p1), (2, .int p2), (3, .int p3)]) rfl ?_
      refine r_sub C [2, 3, 4, 5, 1, 0] (ls' := [(0, .ref (gad 0 0)), (1, .int p1), (2, .int p2), (3, .int p3), (4, .int 0), (5, .int 0)]) rfl ?_
      obtain ⟨ev, hit, hr⟩ := gBind_some hr
      refine gIter_V (step := fun s => X10_mask_L31 p1 p2 p3 s.1 s.2 M) (P := fun s => Ψ M 31 [(0, .ref (gad 0 0)), (1, .int p1), (2, .int p2), (3, .int p3), (4, .int (s.1)), (5, .int (s.2))] []) (K := (fun e => Ψ M 81 [(4, .int e)] [])) (fun s w hs hn hx => t_X10_mask_L31 C  hs hn hx) FU (0, 0) ev hit ?_
      obtain ⟨x4_16, rfl⟩ : ∃ z, z = ev := ⟨_, rfl⟩
      show Ψ M 81 [(4, .int x4_16)] []
      refine r_iload (pc := 81) C dX10_mask_81 0 rfl ?_
      exact r_iret (pc := 83) CR dX10_mask_83 (congrArg (fun z => some (Value.int z)) (gSome hr)) rfl
    · replace hr := (if_pos c_6).symm.trans hr
      refine r_iconst (pc := 23) C dX10_mask_23 kim1 ?_
      exact r_iret (pc := 24) CR dX10_mask_24 (congrArg (fun z => some (Value.int z)) (gSome hr)) rfl
theorem c_X10_mask {Ψ : gM → Nat → List (Nat × Value) → List Value → Prop} {G : gG5} {nf : Nat} {cc : ByteArray} {own : String} {nL : Nat} {ret : Option FieldType} {fr lo : Nat} {v0 : Option Value} {M0 M : gM} {pc index : Nat} {ls : List (Nat × Value)} {st : List Value} (C : gC Ψ G (gXn nf) cc own nL ret fr lo v0 M0) (d : decode cc pc = .ok (.invokevirtual index, 3)) (hl : Cond.methodLink own index yX10_mask ∈ gws) (hR : 3 ≤ fr ∧ 72 ≤ lo) {p1 : Int32} {p2 : Int32} {p3 : Int32} {r : Int32} (hr : X10_mask p1 p2 p3 M = some r) (hcat : (st.map fun v => v.category).sum ≤ 8) (k : Ψ M (pc + 3) ls (.int r :: st)) : Ψ M pc ls (.int p3 :: .int p2 :: .int p1 :: .ref (gad 0 0) :: st) := r_callV C [.int p1, .int p2, .int p3] st d (k_X10_mask hr) hl q881 q882 q116 q883 hd_X10_mask hR rfl (by decide) (e0 nf) rfl hcat k
theorem hd_X1_hasSample : yX1_hasSample.cls ≠ "java/lang/invoke/MethodHandle" ∧ yX1_hasSample.cls ≠ "java/lang/invoke/VarHandle" ∧ (parseMethodDescriptor yX1_hasSample.desc).map (fun d => d.parameters.length) = some 3 := by decide +kernel
noncomputable def X1_hasSample (p1 : Int32) (p2 : Int32) (p3 : Int32) (M : gM) : Option Int32 := (X1_hasPixel p1 p2 M).bind (fun r_2 => (if r_2 = 0 then some 0 else (if p3 < 0 then some 0 else (if (M.1 12 0 3) ≤ p3 then some 0 else some 1))))
theorem k_X1_hasSample {G : gG5} {nf : Nat} {M : gM} {p1 : Int32} {p2 : Int32} {p3 : Int32} {r : Int32} (hr : X1_hasSample p1 p2 p3 M = some r) : gMet G (gXn nf) yX1_hasSample cX1_hasSample 4 (some .boolean) 1 22 M [.ref (gad 12 0), .int p1, .int p2, .int p3] (some (.int r)) M := by
  refine gMet_of pl_X1 rfl (Nat.le_of_ble_eq_true rfl) (fun Ψ C CR => ?_)
  show Ψ M 0 [(0, .ref (gad 12 0)), (1, .int p1), (2, .int p2), (3, .int p3)] []
  refine r_aload_n (pc := 0) C dX1_hasSample_0 rfl 0 rfl ?_
  refine r_iload_n (pc := 1) C dX1_hasSample_1 rfl 1 rfl ?_
  refine r_iload_n (pc := 2) C dX1_hasSample_2 rfl 2 rfl ?_
  obtain ⟨r_2, hc_1, hr⟩ := gBind_some hr
  refine c_X1_hasPixel (pc := 3) C dX1_hasSample_3 q905 ⟨Nat.le_of_ble_eq_true rfl, Nat.le_of_ble_eq_true rfl⟩ hc_1 (Nat.le_of_ble_eq_true rfl) ?_
  refine r_if_eq (pc := 6) (tgt := 25) C dX1_hasSample_6 rfl (fun c_3 => ?_) (fun c_3 => ?_)
  · replace hr := (if_pos c_3).symm.trans hr
    refine r_iconst (pc := 25) C dX1_hasSample_25 ki0 ?_
    exact r_zret (pc := 26) CR dX1_hasSample_26 rfl (congrArg (fun z => some (Value.int z)) (gSome hr)) rfl
  · replace hr := (if_neg c_3).symm.trans hr
    refine r_iload_n (pc := 9) C dX1_hasSample_9 rfl 3 rfl ?_
    refine r_if_lt (pc := 10) (tgt := 25) C dX1_hasSample_10 rfl (fun c_4 => ?_) (fun c_4 => ?_)
    · replace hr := (if_pos c_4).symm.trans hr
      refine r_iconst (pc := 25) C dX1_hasSample_25 ki0 ?_
      exact r_zret (pc := 26) CR dX1_hasSample_26 rfl (congrArg (fun z => some (Value.int z)) (gSome hr)) rfl
    · replace hr := (if_neg c_4).symm.trans hr
      refine r_iload_n (pc := 13) C dX1_hasSample_13 rfl 3 rfl ?_
      refine r_aload_n (pc := 14) C dX1_hasSample_14 rfl 0 rfl ?_
      refine g12_3 (pc := 15) C dX1_hasSample_15 q268 (e12 nf) ?_
      refine r_icmp_ge (pc := 18) (tgt := 25) C dX1_hasSample_18 rfl (fun c_5 => ?_) (fun c_5 => ?_)
      · replace hr := (if_pos c_5).symm.trans hr
        refine r_iconst (pc := 25) C dX1_hasSample_25 ki0 ?_
        exact r_zret (pc := 26) CR dX1_hasSample_26 rfl (congrArg (fun z => some (Value.int z)) (gSome hr)) rfl
      · replace hr := (if_neg c_5).symm.trans hr
        refine r_iconst (pc := 21) C dX1_hasSample_21 ki1 ?_
        refine r_goto (pc := 22) (tgt := 26) C dX1_hasSample_22 rfl ?_
        exact r_zret (pc := 26) CR dX1_hasSample_26 rfl (congrArg (fun z => some (Value.int z)) (gSome hr)) rfl
theorem c_X1_hasSample {Ψ : gM → Nat → List (Nat × Value) → List Value → Prop} {G : gG5} {nf : Nat} {cc : ByteArray} {own : String} {nL : Nat} {ret : Option FieldType} {fr lo : Nat} {v0 : Option Value} {M0 M : gM} {pc index : Nat} {ls : List (Nat × Value)} {st : List Value} (C : gC Ψ G (gXn nf) cc own nL ret fr lo v0 M0) (d : decode cc pc = .ok (.invokevirtual index, 3)) (hl : Cond.methodLink own index yX1_hasSample ∈ gws) (hR : 2 ≤ fr ∧ 45 ≤ lo) {p1 : Int32} {p2 : Int32} {p3 : Int32} {r : Int32} (hr : X1_hasSample p1 p2 p3 M = some r) (hcat : (st.map fun v => v.category).sum ≤ 8) (k : Ψ M (pc + 3) ls (.int r :: st)) : Ψ M pc ls (.int p3 :: .int p2 :: .int p1 :: .ref (gad 12 0) :: st) := r_callV C [.int p1, .int p2, .int p3] st d (k_X1_hasSample hr) hl q902 q903 q120 q904 hd_X1_hasSample hR rfl (by decide) (e12 nf) rfl hcat k
theorem hd_X10_depth : yX10_depth.cls ≠ "java/lang/invoke/MethodHandle" ∧ yX10_depth.cls ≠ "java/lang/invoke/VarHandle" ∧ (parseMethodDescriptor yX10_depth.desc).map (fun d => d.parameters.length) = some 4 := by decide +kernel
noncomputable def X10_depth (p1 : Int32) (p2 : Int32) (p3 : Int32) (p4 : Int32) (M : gM) : Option Int32 := (X4_has 1 p1 M).bind (fun r_2 => (if r_2 = 0 then some (-1) else (X1_hasSample p2 p3 p4 M).bind (fun r_5 => (if r_5 = 0 then some (-1) else (X1_placeOf p2 p3 M).bind (fun r_8 => (X9_depthIn 0 p1 (r_8 + p4) M).bind (fun r_10 => some r_10))))))
theorem k_X10_depth {G : gG5} {nf : Nat} {M : gM} {p1 : Int32} {p2 : Int32} {p3 : Int32} {p4 : Int32} {r : Int32} (hr : X10_depth p1 p2 p3 p4 M = some r) : gMet G (gXn nf) yX10_depth cX10_depth 5 (some .int) 2 47 M [.ref (gad 0 0), .int p1, .int p2, .int p3, .int p4] (some (.int r)) M := by
  refine gMet_of pl_X10 rfl (Nat.le_of_ble_eq_true rfl) (fun Ψ C CR => ?_)
  show Ψ M 0 [(0, .ref (gad 0 0)), (1, .int p1), (2, .int p2), (3, .int p3), (4, .int p4)] []
  refine r_aload_n (pc := 0) C dX10_depth_0 rfl 0 rfl ?_
  refine g0_3 (pc := 1) C dX10_depth_1 q537 (e0 nf) ?_
  refine r_iload_n (pc := 4) C dX10_depth_4 rfl 1 rfl ?_
  obtain ⟨r_2, hc_1, hr⟩ := gBind_some hr
  refine c_X4_has (pc := 5) C dX10_depth_5 q867 ⟨Nat.le_of_ble_eq_true rfl, Nat.le_of_ble_eq_true rfl⟩ (by decide) hc_1 (Nat.le_of_ble_eq_true rfl) ?_
  refine r_if_eq (pc := 8) (tgt := 25) C dX10_depth_8 rfl (fun c_3 => ?_) (fun c_3 => ?_)
  · replace hr := (if_pos c_3).symm.trans hr
    refine r_iconst (pc := 25) C dX10_depth_25 kim1 ?_
    exact r_iret (pc := 26) CR dX10_depth_26 (congrArg (fun z => some (Value.int z)) (gSome hr)) rfl
  · replace hr := (if_neg c_3).symm.trans hr
    refine r_aload_n (pc := 11) C dX10_depth_11 rfl 0 rfl ?_
    refine g0_4 (pc := 12) C dX10_depth_12 q538 (e0 nf) ?_
    refine r_iload_n (pc := 15) C dX10_depth_15 rfl 2 rfl ?_
    refine r_iload_n (pc := 16) C dX10_depth_16 rfl 3 rfl ?_
    refine r_iload (pc := 17) C dX10_depth_17 4 rfl ?_
    obtain ⟨r_5, hc_4, hr⟩ := gBind_some hr
    refine c_X1_hasSample (pc := 19) C dX10_depth_19 q901 ⟨Nat.le_of_ble_eq_true rfl, Nat.le_of_ble_eq_true rfl⟩ hc_4 (Nat.le_of_ble_eq_true rfl) ?_
    refine r_if_ne (pc := 22) (tgt := 27) C dX10_depth_22 rfl (fun c_6 => ?_) (fun c_6 => ?_)
    · replace hr := (if_neg c_6).symm.trans hr
      refine r_aload_n (pc := 27) C dX10_depth_27 rfl 0 rfl ?_
      refine g0_5 (pc := 28) C dX10_depth_28 q539 (e0 nf) ?_
      refine r_aload_n (pc := 31) C dX10_depth_31 rfl 0 rfl ?_
      refine g0_7 (pc := 32) C dX10_depth_32 q541 (e0 nf) ?_
      refine r_iload_n (pc := 35) C dX10_depth_35 rfl 1 rfl ?_
      refine r_iload_n (pc := 36) C dX10_depth_36 rfl 2 rfl ?_
      refine r_iload_n (pc := 37) C dX10_depth_37 rfl 3 rfl ?_
      obtain ⟨r_8, hc_7, hr⟩ := gBind_some hr
      refine c_X1_placeOf (pc := 38) C dX10_depth_38 q888 ⟨Nat.le_of_ble_eq_true rfl, Nat.le_of_ble_eq_true rfl⟩ hc_7 (Nat.le_of_ble_eq_true rfl) ?_
      refine r_iload (pc := 41) C dX10_depth_41 4 rfl ?_
      refine r_iadd (pc := 43) C dX10_depth_43 ?_
      obtain ⟨r_10, hc_9, hr⟩ := gBind_some hr
      refine c_X9_depthIn (pc := 44) C dX10_depth_44 q889 ⟨Nat.le_of_ble_eq_true rfl, Nat.le_of_ble_eq_true rfl⟩ (gf0 nf) hc_9 (Nat.le_of_ble_eq_true rfl) ?_
      exact r_iret (pc := 47) CR dX10_depth_47 (congrArg (fun z => some (Value.int z)) (gSome hr)) rfl
    · replace hr := (if_pos c_6).symm.trans hr
      refine r_iconst (pc := 25) C dX10_depth_25 kim1 ?_
      exact r_iret (pc := 26) CR dX10_depth_26 (congrArg (fun z => some (Value.int z)) (gSome hr)) rfl
theorem c_X10_depth {Ψ : gM → Nat → List (Nat × Value) → List Value → Prop} {G : gG5} {nf : Nat} {cc : ByteArray} {own : String} {nL : Nat} {ret : Option FieldType} {fr lo : Nat} {v0 : Option Value} {M0 M : gM} {pc index : Nat} {ls : List (Nat × Value)} {st : List Value} (C : gC Ψ G (gXn nf) cc own nL ret fr lo v0 M0) (d : decode cc pc = .ok (.invokevirtual index, 3)) (hl : Cond.methodLink own index yX10_depth ∈ gws) (hR : 3 ≤ fr ∧ 71 ≤ lo) {p1 : Int32} {p2 : Int32} {p3 : Int32} {p4 : Int32} {r : Int32} (hr : X10_depth p1 p2 p3 p4 M = some r) (hcat : (st.map fun v => v.category).sum ≤ 8) (k : Ψ M (pc + 3) ls (.int r :: st)) : Ψ M pc ls (.int p4 :: .int p3 :: .int p2 :: .int p1 :: .ref (gad 0 0) :: st) := r_callV C [.int p1, .int p2, .int p3, .int p4] st d (k_X10_depth hr) hl q898 q899 q116 q900 hd_X10_depth hR rfl (by decide) (e0 nf) rfl hcat k
theorem hd_X10_shade : yX10_shade.cls ≠ "java/lang/invoke/MethodHandle" ∧ yX10_shade.cls ≠ "java/lang/invoke/VarHandle" ∧ (parseMethodDescriptor yX10_shade.desc).map (fun d => d.parameters.length) = some 3 := by decide +kernel
noncomputable def X10_shade (p1 : Int32) (p2 : Int32) (p3 : Int32) (M : gM) : Option Int32 := (X4_has 1 p1 M).bind (fun r_2 => (if r_2 = 0 then some (-1) else (X1_hasPixel p2 p3 M).bind (fun r_5 => (if r_5 = 0 then some (-1) else gG (gin p1 10) ((if (M.1 19 (Int32.toNatClampNeg p1) 2) = 0 then some (-1) else gG (gin p1 10) (gG (gin ((p3 * 8) + p2) 64) (some (M.1 27 (Int32.toNatClampNeg p1) (Int32.toNatClampNeg ((p3 * 8) + p2)))))))))))
theorem k_X10_shade {G : gG5} {nf : Nat} {M : gM} {p1 : Int32} {p2 : Int32} {p3 : Int32} {r : Int32} (hr : X10_shade p1 p2 p3 M = some r) : gMet G (gXn nf) yX10_shade cX10_shade 4 (some .int) 1 22 M [.ref (gad 0 0), .int p1, .int p2, .int p3] (some (.int r)) M := by
  refine gMet_of pl_X10 rfl (Nat.le_of_ble_eq_true rfl) (fun Ψ C CR => ?_)
  show Ψ M 0 [(0, .ref (gad 0 0)), (1, .int p1), (2, .int p2), (3, .int p3)] []
  refine r_aload_n (pc := 0) C dX10_shade_0 rfl 0 rfl ?_
  refine g0_3 (pc := 1) C dX10_shade_1 q537 (e0 nf) ?_
  refine r_iload_n (pc := 4) C dX10_shade_4 rfl 1 rfl ?_
  obtain ⟨r_2, hc_1, hr⟩ := gBind_some hr
  refine c_X4_has (pc := 5) C dX10_shade_5 q867 ⟨Nat.le_of_ble_eq_true rfl, Nat.le_of_ble_eq_true rfl⟩ (by decide) hc_1 (Nat.le_of_ble_eq_true rfl) ?_
  refine r_if_eq (pc := 8) (tgt := 38) C dX10_shade_8 rfl (fun c_3 => ?_) (fun c_3 => ?_)
  · replace hr := (if_pos c_3).symm.trans hr
    refine r_iconst (pc := 38) C dX10_shade_38 kim1 ?_
    exact r_iret (pc := 39) CR dX10_shade_39 (congrArg (fun z => some (Value.int z)) (gSome hr)) rfl
  · replace hr := (if_neg c_3).symm.trans hr
    refine r_aload_n (pc := 11) C dX10_shade_11 rfl 0 rfl ?_
    refine g0_4 (pc := 12) C dX10_shade_12 q538 (e0 nf) ?_
    refine r_iload_n (pc := 15) C dX10_shade_15 rfl 2 rfl ?_
    refine r_iload_n (pc := 16) C dX10_shade_16 rfl 3 rfl ?_
    obtain ⟨r_5, hc_4, hr⟩ := gBind_some hr
    refine c_X1_hasPixel (pc := 17) C dX10_shade_17 q884 ⟨Nat.le_of_ble_eq_true rfl, Nat.le_of_ble_eq_true rfl⟩ hc_4 (Nat.le_of_ble_eq_true rfl) ?_
    refine r_if_eq (pc := 20) (tgt := 38) C dX10_shade_20 rfl (fun c_6 => ?_) (fun c_6 => ?_)
    · replace hr := (if_pos c_6).symm.trans hr
      refine r_iconst (pc := 38) C dX10_shade_38 kim1 ?_
      exact r_iret (pc := 39) CR dX10_shade_39 (congrArg (fun z => some (Value.int z)) (gSome hr)) rfl
    · replace hr := (if_neg c_6).symm.trans hr
      refine r_aload_n (pc := 23) C dX10_shade_23 rfl 0 rfl ?_
      refine g0_5 (pc := 24) C dX10_shade_24 q539 (e0 nf) ?_
      refine g17_2 (pc := 27) C dX10_shade_27 q379 (e17 nf) ?_
      refine r_iload_n (pc := 30) C dX10_shade_30 rfl 1 rfl ?_
      obtain ⟨g_7, hr⟩ := gG_some hr
      refine a18 (pc := 31) C dX10_shade_31 g_7 ?_
      refine g19_2 (pc := 32) C dX10_shade_32 q331 (e19 (nf := nf) (gin_lt g_7)) ?_
      refine r_if_ne (pc := 35) (tgt := 40) C dX10_shade_35 rfl (fun c_8 => ?_) (fun c_8 => ?_)
      · replace hr := (if_neg c_8).symm.trans hr
        refine r_aload_n (pc := 40) C dX10_shade_40 rfl 0 rfl ?_
        refine g0_5 (pc := 41) C dX10_shade_41 q539 (e0 nf) ?_
        refine g17_2 (pc := 44) C dX10_shade_44 q379 (e17 nf) ?_
        refine r_iload_n (pc := 47) C dX10_shade_47 rfl 1 rfl ?_
        obtain ⟨g_9, hr⟩ := gG_some hr
        refine a18 (pc := 48) C dX10_shade_48 g_9 ?_
        refine g19_12 (pc := 49) C dX10_shade_49 q347 (e19 (nf := nf) (gin_lt g_9)) ?_
        refine r_iload_n (pc := 52) C dX10_shade_52 rfl 3 rfl ?_
        refine r_bipush (pc := 53) C dX10_shade_53 kb8 ?_
        refine r_imul (pc := 55) C dX10_shade_55 ?_
        refine r_iload_n (pc := 56) C dX10_shade_56 rfl 2 rfl ?_
        refine r_iadd (pc := 57) C dX10_shade_57 ?_
        obtain ⟨g_10, hr⟩ := gG_some hr
        refine r_ialdN (pc := 58) C dX10_shade_58 rfl (e27 (nf := nf) (gin_lt g_9)) g_10 rfl ?_
        exact r_iret (pc := 59) CR dX10_shade_59 (congrArg (fun z => some (Value.int z)) (gSome hr)) rfl
      · replace hr := (if_pos c_8).symm.trans hr
        refine r_iconst (pc := 38) C dX10_shade_38 kim1 ?_
        exact r_iret (pc := 39) CR dX10_shade_39 (congrArg (fun z => some (Value.int z)) (gSome hr)) rfl
theorem c_X10_shade {Ψ : gM → Nat → List (Nat × Value) → List Value → Prop} {G : gG5} {nf : Nat} {cc : ByteArray} {own : String} {nL : Nat} {ret : Option FieldType} {fr lo : Nat} {v0 : Option Value} {M0 M : gM} {pc index : Nat} {ls : List (Nat × Value)} {st : List Value} (C : gC Ψ G (gXn nf) cc own nL ret fr lo v0 M0) (d : decode cc pc = .ok (.invokevirtual index, 3)) (hl : Cond.methodLink own index yX10_shade ∈ gws) (hR : 2 ≤ fr ∧ 45 ≤ lo) {p1 : Int32} {p2 : Int32} {p3 : Int32} {r : Int32} (hr : X10_shade p1 p2 p3 M = some r) (hcat : (st.map fun v => v.category).sum ≤ 8) (k : Ψ M (pc + 3) ls (.int r :: st)) : Ψ M pc ls (.int p3 :: .int p2 :: .int p1 :: .ref (gad 0 0) :: st) := r_callV C [.int p1, .int p2, .int p3] st d (k_X10_shade hr) hl q907 q908 q116 q909 hd_X10_shade hR rfl (by decide) (e0 nf) rfl hcat k
theorem hd_X10_sample : yX10_sample.cls ≠ "java/lang/invoke/MethodHandle" ∧ yX10_sample.cls ≠ "java/lang/invoke/VarHandle" ∧ (parseMethodDescriptor yX10_sample.desc).map (fun d => d.parameters.length) = some 4 := by decide +kernel
noncomputable def X10_sample (p1 : Int32) (p2 : Int32) (p3 : Int32) (p4 : Int32) (M : gM) : Option Int32 := (X1_hasSample p1 p2 p3 M).bind (fun r_2 => (if r_2 = 0 then some (-1000000000) else (X1_placeOf p1 p2 M).bind (fun r_5 => gLet ((r_5 + p3)) (fun x5_6 => (if p4 = 0 then gG (gin x5_6 256) (some (M.1 34 0 (Int32.toNatClampNeg x5_6))) else if p4 = 1 then gG (gin x5_6 256) (some (M.1 35 0 (Int32.toNatClampNeg x5_6))) else if p4 = 2 then gG (gin x5_6 256) (some (M.1 36 0 (Int32.toNatClampNeg x5_6))) else some (-1000000000))))))
theorem k_X10_sample {G : gG5} {nf : Nat} {M : gM} {p1 : Int32} {p2 : Int32} {p3 : Int32} {p4 : Int32} {r : Int32} (hr : X10_sample p1 p2 p3 p4 M = some r) : gMet G (gXn nf) yX10_sample cX10_sample 6 (some .int) 2 45 M [.ref (gad 0 0), .int p1, .int p2, .int p3, .int p4] (some (.int r)) M := by
  refine gMet_of pl_X10 rfl (Nat.le_of_ble_eq_true rfl) (fun Ψ C CR => ?_)
  show Ψ M 0 [(0, .ref (gad 0 0)), (1, .int p1), (2, .int p2), (3, .int p3), (4, .int p4)] []
  refine r_aload_n (pc := 0) C dX10_sample_0 rfl 0 rfl ?_
  refine g0_4 (pc := 1) C dX10_sample_1 q538 (e0 nf) ?_
  refine r_iload_n (pc := 4) C dX10_sample_4 rfl 1 rfl ?_
  refine r_iload_n (pc := 5) C dX10_sample_5 rfl 2 rfl ?_
  refine r_iload_n (pc := 6) C dX10_sample_6 rfl 3 rfl ?_
  obtain ⟨r_2, hc_1, hr⟩ := gBind_some hr
  refine c_X1_hasSample (pc := 7) C dX10_sample_7 q901 ⟨Nat.le_of_ble_eq_true rfl, Nat.le_of_ble_eq_true rfl⟩ hc_1 (Nat.le_of_ble_eq_true rfl) ?_
  refine r_if_ne (pc := 10) (tgt := 16) C dX10_sample_10 rfl (fun c_3 => ?_) (fun c_3 => ?_)
  · replace hr := (if_neg c_3).symm.trans hr
    refine r_iload_n (pc := 16) C dX10_sample_16 rfl 1 rfl ?_
    refine r_iload_n (pc := 17) C dX10_sample_17 rfl 2 rfl ?_
    obtain ⟨r_5, hc_4, hr⟩ := gBind_some hr
    refine c_X1_placeOf (pc := 18) C dX10_sample_18 q888 ⟨Nat.le_of_ble_eq_true rfl, Nat.le_of_ble_eq_true rfl⟩ hc_4 (Nat.le_of_ble_eq_true rfl) ?_
    refine r_iload_n (pc := 21) C dX10_sample_21 rfl 3 rfl ?_
    refine r_iadd (pc := 22) C dX10_sample_22 ?_
    obtain ⟨x5_6, ex5_6, hr⟩ := gLet_some hr
    refine r_istore (pc := 23) C dX10_sample_23 (by decide) ex5_6 (ls' := [(5, .int x5_6), (0, .ref (gad 0 0)), (1, .int p1), (2, .int p2), (3, .int p3), (4, .int p4)]) rfl ?_
    refine r_iload (pc := 25) C dX10_sample_25 5 rfl ?_
    by_cases c_7_0 : p4 = 0
    · replace hr := (if_pos c_7_0).symm.trans hr
      refine r_tableIn (pc := 27) (tgt := 52) (off := 25) C dX10_sample_27 0 c_7_0 (by decide) rfl ?_
      refine r_aload_n (pc := 52) C dX10_sample_52 rfl 1 rfl ?_
      refine g0_7 (pc := 53) C dX10_sample_53 q541 (e0 nf) ?_
      refine g33_0 (pc := 56) C dX10_sample_56 q402 (e33 (nf := nf) (gf0 nf)) ?_
      refine r_iload (pc := 59) C dX10_sample_59 0 rfl ?_
      obtain ⟨g_8, hr⟩ := gG_some hr
      refine r_ialdN (pc := 61) C dX10_sample_61 rfl (e34 (nf := nf) (gf0 nf)) g_8 rfl ?_
      exact r_iret (pc := 62) CR dX10_sample_62 (congrArg (fun z => some (Value.int z)) (gSome hr)) rfl
    replace hr := (if_neg c_7_0).symm.trans hr
    by_cases c_7_1 : p4 = 1
    · replace hr := (if_pos c_7_1).symm.trans hr
      refine r_tableIn (pc := 27) (tgt := 63) (off := 36) C dX10_sample_27 1 c_7_1 (by decide) rfl ?_
      refine r_aload_n (pc := 63) C dX10_sample_63 rfl 1 rfl ?_
      refine g0_7 (pc := 64) C dX10_sample_64 q541 (e0 nf) ?_
      refine g33_1 (pc := 67) C dX10_sample_67 q406 (e33 (nf := nf) (gf0 nf)) ?_
      refine r_iload (pc := 70) C dX10_sample_70 0 rfl ?_
      obtain ⟨g_9, hr⟩ := gG_some hr
      refine r_ialdN (pc := 72) C dX10_sample_72 rfl (e35 (nf := nf) (gf0 nf)) g_9 rfl ?_
      exact r_iret (pc := 73) CR dX10_sample_73 (congrArg (fun z => some (Value.int z)) (gSome hr)) rfl
    replace hr := (if_neg c_7_1).symm.trans hr
    by_cases c_7_2 : p4 = 2
    · replace hr := (if_pos c_7_2).symm.trans hr
      refine r_tableIn (pc := 27) (tgt := 74) (off := 47) C dX10_sample_27 2 c_7_2 (by decide) rfl ?_
      refine r_aload_n (pc := 74) C dX10_sample_74 rfl 1 rfl ?_
      refine g0_7 (pc := 75) C dX10_sample_75 q541 (e0 nf) ?_
      refine g33_2 (pc := 78) C dX10_sample_78 q410 (e33 (nf := nf) (gf0 nf)) ?_
      refine r_iload (pc := 81) C dX10_sample_81 0 rfl ?_
      obtain ⟨g_10, hr⟩ := gG_some hr
      refine r_ialdN (pc := 83) C dX10_sample_83 rfl (e36 (nf := nf) (gf0 nf)) g_10 rfl ?_
      exact r_iret (pc := 84) CR dX10_sample_84 (congrArg (fun z => some (Value.int z)) (gSome hr)) rfl
    replace hr := (if_neg c_7_2).symm.trans hr
    refine r_tableOut (pc := 27) (tgt := 85) C dX10_sample_27 (fun k h1 h2 => ?_) rfl ?_
    · rcases (show k = 0 ∨ k = 1 ∨ k = 2 by omega) with rfl | rfl | rfl
      all_goals assumption
    · refine r_ldc (pc := 85) C dX10_sample_85 q871 ?_
      exact r_iret (pc := 87) CR dX10_sample_87 (congrArg (fun z => some (Value.int z)) (gSome hr)) rfl
  · replace hr := (if_pos c_3).symm.trans hr
    refine r_ldc (pc := 13) C dX10_sample_13 q871 ?_
    exact r_iret (pc := 15) CR dX10_sample_15 (congrArg (fun z => some (Value.int z)) (gSome hr)) rfl
theorem c_X10_sample {Ψ : gM → Nat → List (Nat × Value) → List Value → Prop} {G : gG5} {nf : Nat} {cc : ByteArray} {own : String} {nL : Nat} {ret : Option FieldType} {fr lo : Nat} {v0 : Option Value} {M0 M : gM} {pc index : Nat} {ls : List (Nat × Value)} {st : List Value} (C : gC Ψ G (gXn nf) cc own nL ret fr lo v0 M0) (d : decode cc pc = .ok (.invokevirtual index, 3)) (hl : Cond.methodLink own index yX10_sample ∈ gws) (hR : 3 ≤ fr ∧ 70 ≤ lo) {p1 : Int32} {p2 : Int32} {p3 : Int32} {p4 : Int32} {r : Int32} (hr : X10_sample p1 p2 p3 p4 M = some r) (hcat : (st.map fun v => v.category).sum ≤ 8) (k : Ψ M (pc + 3) ls (.int r :: st)) : Ψ M pc ls (.int p4 :: .int p3 :: .int p2 :: .int p1 :: .ref (gad 0 0) :: st) := r_callV C [.int p1, .int p2, .int p3, .int p4] st d (k_X10_sample hr) hl q911 q912 q116 q913 hd_X10_sample hR rfl (by decide) (e0 nf) rfl hcat k
theorem hd_X1_resolved : yX1_resolved.cls ≠ "java/lang/invoke/MethodHandle" ∧ yX1_resolved.cls ≠ "java/lang/invoke/VarHandle" ∧ (parseMethodDescriptor yX1_resolved.desc).map (fun d => d.parameters.length) = some 2 := by decide +kernel
noncomputable def X1_resolved_L5 (i1 : Nat) (x2 : Int32) (x3 : Int32) (x4 : Int32) (M : gM) : Option ((Int32 × Int32) ⊕ Int32) := (if (M.1 12 0 3) ≤ x4 then some (.inr x3) else gG (gin ((x2 * 4) + x4) 256) (gLet ((x3 + (M.1 35 i1 (Int32.toNatClampNeg ((x2 * 4) + x4))))) (fun x3_3 => gLet (x4 + 1) (fun x4_4 => some (.inl (x3_3, x4_4))))))
theorem t_X1_resolved_L5 {Ψ : gM → Nat → List (Nat × Value) → List Value → Prop} {G : gG5} {nf : Nat} {M : gM} {v0 : Option Value} {M0 : gM} {i1 : Nat} {x2 : Int32} {x3 : Int32} {x4 : Int32} {w : ((Int32 × Int32) ⊕ Int32)} (C : gC Ψ G (gXn nf) cX1_resolved RX1 5 (some .int) 0 0 v0 M0) (h1 : i1 < nf + 3) (hr : X1_resolved_L5 i1 x2 x3 x4 M = some w) (hn : ∀ s, w = .inl s → Ψ M 5 [(0, .ref (gad 12 0)), (1, .ref (gad 33 i1)), (2, .int x2), (3, .int (s.1)), (4, .int (s.2))] []) (hx : ∀ e, w = .inr e → (fun e => Ψ M 34 [(0, .ref (gad 12 0)), (3, .int e)] []) e) : Ψ M 5 [(0, .ref (gad 12 0)), (1, .ref (gad 33 i1)), (2, .int x2), (3, .int x3), (4, .int x4)] [] := by
  refine r_iload (pc := 5) C dX1_resolved_5 4 rfl ?_
  refine r_aload_n (pc := 7) C dX1_resolved_7 rfl 0 rfl ?_
  refine g12_3 (pc := 8) C dX1_resolved_8 q268 (e12 nf) ?_
  refine r_icmp_ge (pc := 11) (tgt := 34) C dX1_resolved_11 rfl (fun c_1 => ?_) (fun c_1 => ?_)
  · replace hr := (if_pos c_1).symm.trans hr
    refine r_sub C [0, 3] (ls' := [(0, .ref (gad 12 0)), (3, .int x3)]) rfl ?_
    exact hx x3 (gSome hr)
  · replace hr := (if_neg c_1).symm.trans hr
    refine r_iload_n (pc := 14) C dX1_resolved_14 rfl 3 rfl ?_
    refine r_aload_n (pc := 15) C dX1_resolved_15 rfl 1 rfl ?_
    refine g33_1 (pc := 16) C dX1_resolved_16 q405 (e33 (nf := nf) h1) ?_
    refine r_iload_n (pc := 19) C dX1_resolved_19 rfl 2 rfl ?_
    refine r_iconst (pc := 20) C dX1_resolved_20 ki4 ?_
    refine r_imul (pc := 21) C dX1_resolved_21 ?_
    refine r_iload (pc := 22) C dX1_resolved_22 4 rfl ?_
    refine r_iadd (pc := 24) C dX1_resolved_24 ?_
    obtain ⟨g_2, hr⟩ := gG_some hr
    refine r_ialdN (pc := 25) C dX1_resolved_25 rfl (e35 (nf := nf) h1) g_2 rfl ?_
    refine r_iadd (pc := 26) C dX1_resolved_26 ?_
    obtain ⟨x3_3, ex3_3, hr⟩ := gLet_some hr
    refine r_istore_n (pc := 27) C dX1_resolved_27 rfl (by decide) ex3_3 (ls' := [(3, .int x3_3), (0, .ref (gad 12 0)), (1, .ref (gad 33 i1)), (2, .int x2), (4, .int x4)]) rfl ?_
    obtain ⟨x4_4, ex4_4, hr⟩ := gLet_some hr
    refine r_iinc (pc := 28) C dX1_resolved_28 4 rfl rfl (by decide) ex4_4 (ls' := [(4, .int x4_4), (3, .int x3_3), (0, .ref (gad 12 0)), (1, .ref (gad 33 i1)), (2, .int x2)]) rfl ?_
    refine r_goto (pc := 31) (tgt := 5) C dX1_resolved_31 rfl ?_
    refine r_sub C [2, 3, 4, 1, 0] (ls' := [(0, .ref (gad 12 0)), (1, .ref (gad 33 i1)), (2, .int x2), (3, .int x3_3), (4, .int x4_4)]) rfl ?_
    exact hn (x3_3, x4_4) (gSome hr)
noncomputable def X1_resolved (i1 : Nat) (p2 : Int32) (M : gM) : Option Int32 := (gIter (fun s => X1_resolved_L5 i1 p2 s.1 s.2 M) FU (0, 0)).bind (fun x3_5 => (if (M.1 12 0 3) ≤ 0 then some 0 else gG (decide (¬ (M.1 12 0 3) = 0)) (some (x3_5 / (M.1 12 0 3)))))
theorem k_X1_resolved {G : gG5} {nf : Nat} {M : gM} {i1 : Nat} {p2 : Int32} (h1 : i1 < nf + 3) {r : Int32} (hr : X1_resolved i1 p2 M = some r) : gMet G (gXn nf) yX1_resolved cX1_resolved 5 (some .int) 0 0 M [.ref (gad 12 0), .ref (gad 33 i1), .int p2] (some (.int r)) M := by
  refine gMet_of pl_X1 rfl (Nat.le_of_ble_eq_true rfl) (fun Ψ C CR => ?_)
  show Ψ M 0 [(0, .ref (gad 12 0)), (1, .ref (gad 33 i1)), (2, .int p2)] []
  refine r_iconst (pc := 0) C dX1_resolved_0 ki0 ?_
  refine r_istore_n (pc := 1) C dX1_resolved_1 rfl (by decide) rfl (ls' := [(3, .int 0), (0, .ref (gad 12 0)), (1, .ref (gad 33 i1)), (2, .int p2)]) rfl ?_
  refine r_iconst (pc := 2) C dX1_resolved_2 ki0 ?_
  refine r_istore (pc := 3) C dX1_resolved_3 (by decide) rfl (ls' := [(4, .int 0), (3, .int 0), (0, .ref (gad 12 0)), (1, .ref (gad 33 i1)), (2, .int p2)]) rfl ?_
  refine r_sub C [2, 3, 4, 1, 0] (ls' := [(0, .ref (gad 12 0)), (1, .ref (gad 33 i1)), (2, .int p2), (3, .int 0), (4, .int 0)]) rfl ?_
  obtain ⟨ev, hit, hr⟩ := gBind_some hr
  refine gIter_V (step := fun s => X1_resolved_L5 i1 p2 s.1 s.2 M) (P := fun s => Ψ M 5 [(0, .ref (gad 12 0)), (1, .ref (gad 33 i1)), (2, .int p2), (3, .int (s.1)), (4, .int (s.2))] []) (K := (fun e => Ψ M 34 [(0, .ref (gad 12 0)), (3, .int e)] [])) (fun s w hs hn hx => t_X1_resolved_L5 C h1 hs hn hx) FU (0, 0) ev hit ?_
  obtain ⟨x3_5, rfl⟩ : ∃ z, z = ev := ⟨_, rfl⟩
  show Ψ M 34 [(0, .ref (gad 12 0)), (3, .int x3_5)] []
  refine r_aload_n (pc := 34) C dX1_resolved_34 rfl 0 rfl ?_
  refine g12_3 (pc := 35) C dX1_resolved_35 q268 (e12 nf) ?_
  refine r_if_le (pc := 38) (tgt := 50) C dX1_resolved_38 rfl (fun c_6 => ?_) (fun c_6 => ?_)
  · replace hr := (if_pos c_6).symm.trans hr
    refine r_iconst (pc := 50) C dX1_resolved_50 ki0 ?_
    exact r_iret (pc := 51) CR dX1_resolved_51 (congrArg (fun z => some (Value.int z)) (gSome hr)) rfl
  · replace hr := (if_neg c_6).symm.trans hr
    refine r_iload_n (pc := 41) C dX1_resolved_41 rfl 1 rfl ?_
    refine r_aload_n (pc := 42) C dX1_resolved_42 rfl 0 rfl ?_
    refine g12_3 (pc := 43) C dX1_resolved_43 q268 (e12 nf) ?_
    obtain ⟨g_7, hr⟩ := gG_some hr
    refine r_idiv (pc := 46) C dX1_resolved_46 (of_decide_eq_true g_7) ?_
    refine r_goto (pc := 47) (tgt := 51) C dX1_resolved_47 rfl ?_
    exact r_iret (pc := 51) CR dX1_resolved_51 (congrArg (fun z => some (Value.int z)) (gSome hr)) rfl
theorem c_X1_resolved {Ψ : gM → Nat → List (Nat × Value) → List Value → Prop} {G : gG5} {nf : Nat} {cc : ByteArray} {own : String} {nL : Nat} {ret : Option FieldType} {fr lo : Nat} {v0 : Option Value} {M0 M : gM} {pc index : Nat} {ls : List (Nat × Value)} {st : List Value} (C : gC Ψ G (gXn nf) cc own nL ret fr lo v0 M0) (d : decode cc pc = .ok (.invokevirtual index, 3)) (hl : Cond.methodLink own index yX1_resolved ∈ gws) (hR : 1 ≤ fr ∧ 24 ≤ lo) {i1 : Nat} {p2 : Int32} (h1 : i1 < nf + 3) {r : Int32} (hr : X1_resolved i1 p2 M = some r) (hcat : (st.map fun v => v.category).sum ≤ 8) (k : Ψ M (pc + 3) ls (.int r :: st)) : Ψ M pc ls (.int p2 :: .ref (gad 33 i1) :: .ref (gad 12 0) :: st) := r_callV C [.ref (gad 33 i1), .int p2] st d (k_X1_resolved h1 hr) hl q919 q920 q120 q921 hd_X1_resolved hR rfl (by decide) (e12 nf) rfl hcat k
theorem hd_X10_pixel : yX10_pixel.cls ≠ "java/lang/invoke/MethodHandle" ∧ yX10_pixel.cls ≠ "java/lang/invoke/VarHandle" ∧ (parseMethodDescriptor yX10_pixel.desc).map (fun d => d.parameters.length) = some 2 := by decide +kernel
noncomputable def X10_pixel (p1 : Int32) (p2 : Int32) (M : gM) : Option Int32 := (X1_hasPixel p1 p2 M).bind (fun r_2 => (if r_2 = 0 then some (-1) else (X1_resolved 0 ((p2 * 8) + p1) M).bind (fun r_5 => some r_5)))
theorem k_X10_pixel {G : gG5} {nf : Nat} {M : gM} {p1 : Int32} {p2 : Int32} {r : Int32} (hr : X10_pixel p1 p2 M = some r) : gMet G (gXn nf) yX10_pixel cX10_pixel 3 (some .int) 1 24 M [.ref (gad 0 0), .int p1, .int p2] (some (.int r)) M := by
  refine gMet_of pl_X10 rfl (Nat.le_of_ble_eq_true rfl) (fun Ψ C CR => ?_)
  show Ψ M 0 [(0, .ref (gad 0 0)), (1, .int p1), (2, .int p2)] []
  refine r_aload_n (pc := 0) C dX10_pixel_0 rfl 0 rfl ?_
  refine g0_4 (pc := 1) C dX10_pixel_1 q538 (e0 nf) ?_
  refine r_iload_n (pc := 4) C dX10_pixel_4 rfl 1 rfl ?_
  refine r_iload_n (pc := 5) C dX10_pixel_5 rfl 2 rfl ?_
  obtain ⟨r_2, hc_1, hr⟩ := gBind_some hr
  refine c_X1_hasPixel (pc := 6) C dX10_pixel_6 q884 ⟨Nat.le_of_ble_eq_true rfl, Nat.le_of_ble_eq_true rfl⟩ hc_1 (Nat.le_of_ble_eq_true rfl) ?_
  refine r_if_eq (pc := 9) (tgt := 32) C dX10_pixel_9 rfl (fun c_3 => ?_) (fun c_3 => ?_)
  · replace hr := (if_pos c_3).symm.trans hr
    refine r_iconst (pc := 32) C dX10_pixel_32 kim1 ?_
    exact r_iret (pc := 33) CR dX10_pixel_33 (congrArg (fun z => some (Value.int z)) (gSome hr)) rfl
  · replace hr := (if_neg c_3).symm.trans hr
    refine r_aload_n (pc := 12) C dX10_pixel_12 rfl 0 rfl ?_
    refine g0_4 (pc := 13) C dX10_pixel_13 q538 (e0 nf) ?_
    refine r_aload_n (pc := 16) C dX10_pixel_16 rfl 0 rfl ?_
    refine g0_7 (pc := 17) C dX10_pixel_17 q541 (e0 nf) ?_
    refine r_iload_n (pc := 20) C dX10_pixel_20 rfl 2 rfl ?_
    refine r_bipush (pc := 21) C dX10_pixel_21 kb8 ?_
    refine r_imul (pc := 23) C dX10_pixel_23 ?_
    refine r_iload_n (pc := 24) C dX10_pixel_24 rfl 1 rfl ?_
    refine r_iadd (pc := 25) C dX10_pixel_25 ?_
    obtain ⟨r_5, hc_4, hr⟩ := gBind_some hr
    refine c_X1_resolved (pc := 26) C dX10_pixel_26 q918 ⟨Nat.le_of_ble_eq_true rfl, Nat.le_of_ble_eq_true rfl⟩ (gf0 nf) hc_4 (Nat.le_of_ble_eq_true rfl) ?_
    refine r_goto (pc := 29) (tgt := 33) C dX10_pixel_29 rfl ?_
    exact r_iret (pc := 33) CR dX10_pixel_33 (congrArg (fun z => some (Value.int z)) (gSome hr)) rfl
theorem c_X10_pixel {Ψ : gM → Nat → List (Nat × Value) → List Value → Prop} {G : gG5} {nf : Nat} {cc : ByteArray} {own : String} {nL : Nat} {ret : Option FieldType} {fr lo : Nat} {v0 : Option Value} {M0 M : gM} {pc index : Nat} {ls : List (Nat × Value)} {st : List Value} (C : gC Ψ G (gXn nf) cc own nL ret fr lo v0 M0) (d : decode cc pc = .ok (.invokevirtual index, 3)) (hl : Cond.methodLink own index yX10_pixel ∈ gws) (hR : 2 ≤ fr ∧ 46 ≤ lo) {p1 : Int32} {p2 : Int32} {r : Int32} (hr : X10_pixel p1 p2 M = some r) (hcat : (st.map fun v => v.category).sum ≤ 8) (k : Ψ M (pc + 3) ls (.int r :: st)) : Ψ M pc ls (.int p2 :: .int p1 :: .ref (gad 0 0) :: st) := r_callV C [.int p1, .int p2] st d (k_X10_pixel hr) hl q915 q916 q116 q917 hd_X10_pixel hR rfl (by decide) (e0 nf) rfl hcat k
theorem hd_X1_hasTile : yX1_hasTile.cls ≠ "java/lang/invoke/MethodHandle" ∧ yX1_hasTile.cls ≠ "java/lang/invoke/VarHandle" ∧ (parseMethodDescriptor yX1_hasTile.desc).map (fun d => d.parameters.length) = some 1 := by decide +kernel
noncomputable def X1_hasTile (p1 : Int32) (M : gM) : Option Int32 := (if p1 < 0 then some 0 else (if (M.1 12 0 5) ≤ p1 then some 0 else some 1))
theorem k_X1_hasTile {G : gG5} {nf : Nat} {M : gM} {p1 : Int32} {r : Int32} (hr : X1_hasTile p1 M = some r) : gMet G (gXn nf) yX1_hasTile cX1_hasTile 2 (some .boolean) 0 0 M [.ref (gad 12 0), .int p1] (some (.int r)) M := by
  refine gMet_of pl_X1 rfl (Nat.le_of_ble_eq_true rfl) (fun Ψ C CR => ?_)
  show Ψ M 0 [(0, .ref (gad 12 0)), (1, .int p1)] []
  refine r_iload_n (pc := 0) C dX1_hasTile_0 rfl 1 rfl ?_
  refine r_if_lt (pc := 1) (tgt := 16) C dX1_hasTile_1 rfl (fun c_1 => ?_) (fun c_1 => ?_)
  · replace hr := (if_pos c_1).symm.trans hr
    refine r_iconst (pc := 16) C dX1_hasTile_16 ki0 ?_
    exact r_zret (pc := 17) CR dX1_hasTile_17 rfl (congrArg (fun z => some (Value.int z)) (gSome hr)) rfl
  · replace hr := (if_neg c_1).symm.trans hr
    refine r_iload_n (pc := 4) C dX1_hasTile_4 rfl 1 rfl ?_
    refine r_aload_n (pc := 5) C dX1_hasTile_5 rfl 0 rfl ?_
    refine g12_5 (pc := 6) C dX1_hasTile_6 q271 (e12 nf) ?_
    refine r_icmp_ge (pc := 9) (tgt := 16) C dX1_hasTile_9 rfl (fun c_2 => ?_) (fun c_2 => ?_)
    · replace hr := (if_pos c_2).symm.trans hr
      refine r_iconst (pc := 16) C dX1_hasTile_16 ki0 ?_
      exact r_zret (pc := 17) CR dX1_hasTile_17 rfl (congrArg (fun z => some (Value.int z)) (gSome hr)) rfl
    · replace hr := (if_neg c_2).symm.trans hr
      refine r_iconst (pc := 12) C dX1_hasTile_12 ki1 ?_
      refine r_goto (pc := 13) (tgt := 17) C dX1_hasTile_13 rfl ?_
      exact r_zret (pc := 17) CR dX1_hasTile_17 rfl (congrArg (fun z => some (Value.int z)) (gSome hr)) rfl
theorem c_X1_hasTile {Ψ : gM → Nat → List (Nat × Value) → List Value → Prop} {G : gG5} {nf : Nat} {cc : ByteArray} {own : String} {nL : Nat} {ret : Option FieldType} {fr lo : Nat} {v0 : Option Value} {M0 M : gM} {pc index : Nat} {ls : List (Nat × Value)} {st : List Value} (C : gC Ψ G (gXn nf) cc own nL ret fr lo v0 M0) (d : decode cc pc = .ok (.invokevirtual index, 3)) (hl : Cond.methodLink own index yX1_hasTile ∈ gws) (hR : 1 ≤ fr ∧ 21 ≤ lo) {p1 : Int32} {r : Int32} (hr : X1_hasTile p1 M = some r) (hcat : (st.map fun v => v.category).sum ≤ 8) (k : Ψ M (pc + 3) ls (.int r :: st)) : Ψ M pc ls (.int p1 :: .ref (gad 12 0) :: st) := r_callV C [.int p1] st d (k_X1_hasTile hr) hl q927 q928 q120 q929 hd_X1_hasTile hR rfl (by decide) (e12 nf) rfl hcat k
