/-! a triangle asked: it answers or throws -/
noncomputable def X10_triangleT (x1 : Int32) (x2 : Int32) (M : gM) : Option Int32 := gG (gin x1 10) ((if x2 = 0 then some (M.1 19 (Int32.toNatClampNeg x1) 2) else if x2 = 1 then gG (gin x1 10) (some (M.1 9 1 (Int32.toNatClampNeg x1))) else if x2 = 2 then gG (gin x1 10) (some (M.1 8 1 (Int32.toNatClampNeg x1))) else if x2 = 3 then gG (gin x1 10) (some (M.1 7 1 (Int32.toNatClampNeg x1))) else if x2 = 4 then (X9_isCulled 0 x1 M).bind (fun r_7 => (if r_7 = 0 then some 0 else some 1)) else if x2 = 5 then some (M.1 19 (Int32.toNatClampNeg x1) 3) else if x2 = 6 then some (M.1 19 (Int32.toNatClampNeg x1) 4) else if x2 = 7 then (X9_touchedBy 0 x1 M).bind (fun r_10 => some r_10) else if x2 = 8 then (X9_touchedInVain 0 x1 M).bind (fun r_12 => some r_12) else if x2 = 9 then (X9_coveredBy 0 x1 M).bind (fun r_14 => some r_14) else if x2 = 10 then gG (gin x1 10) ((J13_bitCount_95d88 (M.2 41 0 (Int32.toNatClampNeg x1)) M).bind (fun r_17 => some r_17)) else (X9_timesInBins 0 x1 M).bind (fun r_19 => some r_19)))
theorem t_X10_triangleT {Ψ : gM → Nat → List (Nat × Value) → List Value → Prop} {G : gG5} {nf : Nat} {M : gM} {x1 : Int32} {x2 : Int32} {r : Int32} (C : gC Ψ G (gXn nf) cX10_triangle RX10 4 (some .int) 6 100 (some (.int r)) M) (CR : gR Ψ cX10_triangle (some .int) (some (.int r)) M) (hr : X10_triangleT x1 x2 M = some r) : Ψ M 29 [(0, .ref (gad 0 0)), (1, .int x1), (2, .int x2)] [] := by
  refine r_aload_n (pc := 29) C dX10_triangle_29 rfl 0 rfl ?_
  refine g0_5 (pc := 30) C dX10_triangle_30 q539 (e0 nf) ?_
  refine g17_2 (pc := 33) C dX10_triangle_33 q379 (e17 nf) ?_
  refine r_iload_n (pc := 36) C dX10_triangle_36 rfl 1 rfl ?_
  obtain ⟨g_1, hr⟩ := gG_some hr
  refine a18 (pc := 37) C dX10_triangle_37 g_1 ?_
  refine r_astore_n (pc := 38) C dX10_triangle_38 rfl (by decide) rfl (ls' := [(3, .ref (gad 19 (Int32.toNatClampNeg x1))), (0, .ref (gad 0 0)), (1, .int x1), (2, .int x2)]) rfl ?_
  refine r_iload_n (pc := 39) C dX10_triangle_39 rfl 3 rfl ?_
  by_cases c_2_0 : x2 = 0
  · replace hr := (if_pos c_2_0).symm.trans hr
    refine r_tableIn (pc := 40) (tgt := 100) (off := 60) C dX10_triangle_40 0 c_2_0 (by decide) rfl ?_
    refine r_aload_n (pc := 100) C dX10_triangle_100 rfl 0 rfl ?_
    refine g19_2 (pc := 101) C dX10_triangle_101 q331 (e19 (nf := nf) (gin_lt g_1)) ?_
    exact r_iret (pc := 104) CR dX10_triangle_104 (congrArg (fun z => some (Value.int z)) (gSome hr)) rfl
  replace hr := (if_neg c_2_0).symm.trans hr
  by_cases c_2_1 : x2 = 1
  · replace hr := (if_pos c_2_1).symm.trans hr
    refine r_tableIn (pc := 40) (tgt := 105) (off := 65) C dX10_triangle_40 1 c_2_1 (by decide) rfl ?_
    refine r_aload_n (pc := 105) C dX10_triangle_105 rfl 1 rfl ?_
    refine g0_3 (pc := 106) C dX10_triangle_106 q537 (e0 nf) ?_
    refine g5_9 (pc := 109) C dX10_triangle_109 q226 (e5 (nf := nf) (by decide)) ?_
    refine r_iload_n (pc := 112) C dX10_triangle_112 rfl 2 rfl ?_
    obtain ⟨g_3, hr⟩ := gG_some hr
    refine r_ialdN (pc := 113) C dX10_triangle_113 rfl (e9 (nf := nf) (by decide)) g_3 rfl ?_
    exact r_iret (pc := 114) CR dX10_triangle_114 (congrArg (fun z => some (Value.int z)) (gSome hr)) rfl
  replace hr := (if_neg c_2_1).symm.trans hr
  by_cases c_2_2 : x2 = 2
  · replace hr := (if_pos c_2_2).symm.trans hr
    refine r_tableIn (pc := 40) (tgt := 115) (off := 75) C dX10_triangle_40 2 c_2_2 (by decide) rfl ?_
    refine r_aload_n (pc := 115) C dX10_triangle_115 rfl 1 rfl ?_
    refine g0_3 (pc := 116) C dX10_triangle_116 q537 (e0 nf) ?_
    refine g5_8 (pc := 119) C dX10_triangle_119 q224 (e5 (nf := nf) (by decide)) ?_
    refine r_iload_n (pc := 122) C dX10_triangle_122 rfl 2 rfl ?_
    obtain ⟨g_4, hr⟩ := gG_some hr
    refine r_ialdN (pc := 123) C dX10_triangle_123 rfl (e8 (nf := nf) (by decide)) g_4 rfl ?_
    exact r_iret (pc := 124) CR dX10_triangle_124 (congrArg (fun z => some (Value.int z)) (gSome hr)) rfl
  replace hr := (if_neg c_2_2).symm.trans hr
  by_cases c_2_3 : x2 = 3
  · replace hr := (if_pos c_2_3).symm.trans hr
    refine r_tableIn (pc := 40) (tgt := 125) (off := 85) C dX10_triangle_40 3 c_2_3 (by decide) rfl ?_
    refine r_aload_n (pc := 125) C dX10_triangle_125 rfl 1 rfl ?_
    refine g0_3 (pc := 126) C dX10_triangle_126 q537 (e0 nf) ?_
    refine g5_7 (pc := 129) C dX10_triangle_129 q221 (e5 (nf := nf) (by decide)) ?_
    refine r_iload_n (pc := 132) C dX10_triangle_132 rfl 2 rfl ?_
    obtain ⟨g_5, hr⟩ := gG_some hr
    refine r_ialdN (pc := 133) C dX10_triangle_133 rfl (e7 (nf := nf) (by decide)) g_5 rfl ?_
    exact r_iret (pc := 134) CR dX10_triangle_134 (congrArg (fun z => some (Value.int z)) (gSome hr)) rfl
  replace hr := (if_neg c_2_3).symm.trans hr
  by_cases c_2_4 : x2 = 4
  · replace hr := (if_pos c_2_4).symm.trans hr
    refine r_tableIn (pc := 40) (tgt := 135) (off := 95) C dX10_triangle_40 4 c_2_4 (by decide) rfl ?_
    refine r_aload_n (pc := 135) C dX10_triangle_135 rfl 1 rfl ?_
    refine g0_5 (pc := 136) C dX10_triangle_136 q539 (e0 nf) ?_
    refine r_aload_n (pc := 139) C dX10_triangle_139 rfl 1 rfl ?_
    refine g0_7 (pc := 140) C dX10_triangle_140 q541 (e0 nf) ?_
    refine r_iload_n (pc := 143) C dX10_triangle_143 rfl 2 rfl ?_
    obtain ⟨r_7, hc_6, hr⟩ := gBind_some hr
    refine c_X9_isCulled (pc := 144) C dX10_triangle_144 q1384 ⟨Nat.le_of_ble_eq_true rfl, Nat.le_of_ble_eq_true rfl⟩ (gf0 nf) hc_6 (Nat.le_of_ble_eq_true rfl) ?_
    refine r_if_eq (pc := 147) (tgt := 154) C dX10_triangle_147 rfl (fun c_8 => ?_) (fun c_8 => ?_)
    · replace hr := (if_pos c_8).symm.trans hr
      refine r_iconst (pc := 154) C dX10_triangle_154 ki0 ?_
      exact r_iret (pc := 155) CR dX10_triangle_155 (congrArg (fun z => some (Value.int z)) (gSome hr)) rfl
    · replace hr := (if_neg c_8).symm.trans hr
      refine r_iconst (pc := 150) C dX10_triangle_150 ki1 ?_
      refine r_goto (pc := 151) (tgt := 155) C dX10_triangle_151 rfl ?_
      exact r_iret (pc := 155) CR dX10_triangle_155 (congrArg (fun z => some (Value.int z)) (gSome hr)) rfl
  replace hr := (if_neg c_2_4).symm.trans hr
  by_cases c_2_5 : x2 = 5
  · replace hr := (if_pos c_2_5).symm.trans hr
    refine r_tableIn (pc := 40) (tgt := 156) (off := 116) C dX10_triangle_40 5 c_2_5 (by decide) rfl ?_
    refine r_aload_n (pc := 156) C dX10_triangle_156 rfl 0 rfl ?_
    refine g19_3 (pc := 157) C dX10_triangle_157 q333 (e19 (nf := nf) (gin_lt g_1)) ?_
    exact r_iret (pc := 160) CR dX10_triangle_160 (congrArg (fun z => some (Value.int z)) (gSome hr)) rfl
  replace hr := (if_neg c_2_5).symm.trans hr
  by_cases c_2_6 : x2 = 6
  · replace hr := (if_pos c_2_6).symm.trans hr
    refine r_tableIn (pc := 40) (tgt := 161) (off := 121) C dX10_triangle_40 6 c_2_6 (by decide) rfl ?_
    refine r_aload_n (pc := 161) C dX10_triangle_161 rfl 0 rfl ?_
    refine g19_4 (pc := 162) C dX10_triangle_162 q336 (e19 (nf := nf) (gin_lt g_1)) ?_
    exact r_iret (pc := 165) CR dX10_triangle_165 (congrArg (fun z => some (Value.int z)) (gSome hr)) rfl
  replace hr := (if_neg c_2_6).symm.trans hr
  by_cases c_2_7 : x2 = 7
  · replace hr := (if_pos c_2_7).symm.trans hr
    refine r_tableIn (pc := 40) (tgt := 166) (off := 126) C dX10_triangle_40 7 c_2_7 (by decide) rfl ?_
    refine r_aload_n (pc := 166) C dX10_triangle_166 rfl 1 rfl ?_
    refine g0_5 (pc := 167) C dX10_triangle_167 q539 (e0 nf) ?_
    refine r_aload_n (pc := 170) C dX10_triangle_170 rfl 1 rfl ?_
    refine g0_7 (pc := 171) C dX10_triangle_171 q541 (e0 nf) ?_
    refine r_iload_n (pc := 174) C dX10_triangle_174 rfl 2 rfl ?_
    obtain ⟨r_10, hc_9, hr⟩ := gBind_some hr
    refine c_X9_touchedBy (pc := 175) C dX10_triangle_175 q1385 ⟨Nat.le_of_ble_eq_true rfl, Nat.le_of_ble_eq_true rfl⟩ (gf0 nf) hc_9 (Nat.le_of_ble_eq_true rfl) ?_
    exact r_iret (pc := 178) CR dX10_triangle_178 (congrArg (fun z => some (Value.int z)) (gSome hr)) rfl
  replace hr := (if_neg c_2_7).symm.trans hr
  by_cases c_2_8 : x2 = 8
  · replace hr := (if_pos c_2_8).symm.trans hr
    refine r_tableIn (pc := 40) (tgt := 179) (off := 139) C dX10_triangle_40 8 c_2_8 (by decide) rfl ?_
    refine r_aload_n (pc := 179) C dX10_triangle_179 rfl 1 rfl ?_
    refine g0_5 (pc := 180) C dX10_triangle_180 q539 (e0 nf) ?_
    refine r_aload_n (pc := 183) C dX10_triangle_183 rfl 1 rfl ?_
    refine g0_7 (pc := 184) C dX10_triangle_184 q541 (e0 nf) ?_
    refine r_iload_n (pc := 187) C dX10_triangle_187 rfl 2 rfl ?_
    obtain ⟨r_12, hc_11, hr⟩ := gBind_some hr
    refine c_X9_touchedInVain (pc := 188) C dX10_triangle_188 q1386 ⟨Nat.le_of_ble_eq_true rfl, Nat.le_of_ble_eq_true rfl⟩ (gf0 nf) hc_11 (Nat.le_of_ble_eq_true rfl) ?_
    exact r_iret (pc := 191) CR dX10_triangle_191 (congrArg (fun z => some (Value.int z)) (gSome hr)) rfl
  replace hr := (if_neg c_2_8).symm.trans hr
  by_cases c_2_9 : x2 = 9
  · replace hr := (if_pos c_2_9).symm.trans hr
    refine r_tableIn (pc := 40) (tgt := 192) (off := 152) C dX10_triangle_40 9 c_2_9 (by decide) rfl ?_
    refine r_aload_n (pc := 192) C dX10_triangle_192 rfl 1 rfl ?_
    refine g0_5 (pc := 193) C dX10_triangle_193 q539 (e0 nf) ?_
    refine r_aload_n (pc := 196) C dX10_triangle_196 rfl 1 rfl ?_
    refine g0_7 (pc := 197) C dX10_triangle_197 q541 (e0 nf) ?_
    refine r_iload_n (pc := 200) C dX10_triangle_200 rfl 2 rfl ?_
    obtain ⟨r_14, hc_13, hr⟩ := gBind_some hr
    refine c_X9_coveredBy (pc := 201) C dX10_triangle_201 q1390 ⟨Nat.le_of_ble_eq_true rfl, Nat.le_of_ble_eq_true rfl⟩ (gf0 nf) hc_13 (Nat.le_of_ble_eq_true rfl) ?_
    exact r_iret (pc := 204) CR dX10_triangle_204 (congrArg (fun z => some (Value.int z)) (gSome hr)) rfl
  replace hr := (if_neg c_2_9).symm.trans hr
  by_cases c_2_10 : x2 = 10
  · replace hr := (if_pos c_2_10).symm.trans hr
    refine r_tableIn (pc := 40) (tgt := 205) (off := 165) C dX10_triangle_40 10 c_2_10 (by decide) rfl ?_
    refine r_aload_n (pc := 205) C dX10_triangle_205 rfl 1 rfl ?_
    refine g0_7 (pc := 206) C dX10_triangle_206 q541 (e0 nf) ?_
    refine g33_7 (pc := 209) C dX10_triangle_209 q427 (e33 (nf := nf) (gf0 nf)) ?_
    refine r_iload_n (pc := 212) C dX10_triangle_212 rfl 2 rfl ?_
    obtain ⟨g_15, hr⟩ := gG_some hr
    refine r_laldN (pc := 213) C dX10_triangle_213 rfl (e41 (nf := nf) (gf0 nf)) g_15 rfl ?_
    obtain ⟨r_17, hc_16, hr⟩ := gBind_some hr
    refine c_J13_bitCount_95d88 (pc := 214) C dX10_triangle_214 q1391 ⟨Nat.le_of_ble_eq_true rfl, Nat.le_of_ble_eq_true rfl⟩ hc_16 (Nat.le_of_ble_eq_true rfl) ?_
    exact r_iret (pc := 217) CR dX10_triangle_217 (congrArg (fun z => some (Value.int z)) (gSome hr)) rfl
  replace hr := (if_neg c_2_10).symm.trans hr
  refine r_tableOut (pc := 40) (tgt := 218) C dX10_triangle_40 (fun k h1 h2 => ?_) rfl ?_
  · rcases (show k = 0 ∨ k = 1 ∨ k = 2 ∨ k = 3 ∨ k = 4 ∨ k = 5 ∨ k = 6 ∨ k = 7 ∨ k = 8 ∨ k = 9 ∨ k = 10 by omega) with rfl | rfl | rfl | rfl | rfl | rfl | rfl | rfl | rfl | rfl | rfl
    all_goals assumption
  · refine r_aload_n (pc := 218) C dX10_triangle_218 rfl 1 rfl ?_
    refine g0_5 (pc := 219) C dX10_triangle_219 q539 (e0 nf) ?_
    refine r_aload_n (pc := 222) C dX10_triangle_222 rfl 1 rfl ?_
    refine g0_7 (pc := 223) C dX10_triangle_223 q541 (e0 nf) ?_
    refine r_iload_n (pc := 226) C dX10_triangle_226 rfl 2 rfl ?_
    obtain ⟨r_19, hc_18, hr⟩ := gBind_some hr
    refine c_X9_timesInBins (pc := 227) C dX10_triangle_227 q1392 ⟨Nat.le_of_ble_eq_true rfl, Nat.le_of_ble_eq_true rfl⟩ (gf0 nf) hc_18 (Nat.le_of_ble_eq_true rfl) ?_
    exact r_iret (pc := 230) CR dX10_triangle_230 (congrArg (fun z => some (Value.int z)) (gSome hr)) rfl
def RE : String := "java/util/NoSuchElementException"
abbrev nmE : List String := ["java/lang/RuntimeException", "java/lang/Exception"]
theorem q1317 : (Cond.codeWith yL_triangle cL_triangle 5 (some .int) [(0, 10, 13, 13)]) ∈ gws := gmc wi6_0 2 rfl rfl
def gTwords : List Cond := [Cond.castable RE RE, Cond.declares (Bundle.init0 "java/lang/RuntimeException"), Cond.declares (Bundle.init0 "java/lang/Exception"), Cond.declares (Bundle.init0 Bundle.tN)]
def gT4 (U : State) : Prop := va_Nw (.castable RE RE) U ∧ va_Nw (.declares (Bundle.init0 "java/lang/RuntimeException")) U ∧ va_Nw (.declares (Bundle.init0 "java/lang/Exception")) U ∧ va_Nw (.declares (Bundle.init0 Bundle.tN)) U
theorem gT4.warm {u U : State} (hW : u.WarmedH U.vm) (h : gT4 u) : gT4 U := ⟨h.1.warmC hW, h.2.1.warmD hW, h.2.2.1.warmD hW, h.2.2.2.warmD hW⟩
theorem gT4.same {u U : State} (hv : U.vm = u.vm) (h : gT4 u) : gT4 U := ⟨h.1.same rfl hv.symm, h.2.1.same rfl hv.symm, h.2.2.1.same rfl hv.symm, h.2.2.2.same rfl hv.symm⟩
theorem gT4.all {U : State} {args : Array Value} (h : gT4 U) : ∀ w ∈ gTwords, w.before args U = true := vx_c (va_Nw.use rfl h.1) (vx_c (va_Nw.use rfl h.2.1) (vx_c (va_Nw.use rfl h.2.2.1) (vx_c (va_Nw.use rfl h.2.2.2) vx_n)))
def gT (base : Nat) (U : State) (H : Heap) : Prop := gT4 U ∧ vx_Zq Bundle.tN "UNASSIGNED_STACK" Bundle.steD (gA base) U H ∧ vx_Zq Bundle.tN "SUPPRESSED_SENTINEL" Bundle.listD (gA base) U H
theorem gT.warm {base : Nat} {u U : State} {H : Heap} (hW : u.WarmedH U.vm) (h : gT base u H) : gT base U H := ⟨h.1.warm hW, h.2.1.moved hW.alike, h.2.2.moved hW.alike⟩
theorem gT.same {base : Nat} {u U : State} {H : Heap} (hv : U.vm = u.vm) (h : gT base u H) : gT base U H := ⟨h.1.same hv, h.2.1.moved (by rw [hv]; exact Vm.Alike.refl _), h.2.2.moved (by rw [hv]; exact Vm.Alike.refl _)⟩
theorem gT.kept {base : Nat} {U : State} {H H1 : Heap} (h : gT base U H) (hq : ∀ a : Nat, a < H.size → ¬ base ≤ a → H1[a]? = H[a]?) : gT base U H1 := ⟨h.1, h.2.1.kept hq, h.2.2.kept hq⟩
theorem atE_in : ∀ w ∈ (vx_at0 RX10 179 RE nmE).filter goodWord, w ∈ lw_tbl := by decide +kernel
theorem atE_no : ∀ w ∈ (vx_at0 RX10 179 RE nmE).filter (fun w => !goodWord w), w ∈ gTwords := by decide +kernel
theorem atE_ot : ∀ w ∈ Cond.classLink RX10 177 RE :: Cond.initialized RE :: vx_at0 RX10 179 RE nmE, vx_ot w = true := by decide +kernel
theorem atE_gws : ∀ w ∈ (vx_at0 RX10 179 RE nmE).filter goodWord, w ∈ gws := fun w h => List.mem_filter.mpr ⟨atE_in w h, (List.mem_filter.mp h).2⟩
/-- a heap that has only grown: the world stands -/
theorem gWd.grow {D : va_G} {base : Nat} {ad : Nat → Nat} {cA : Nat → ClassId} {X : gX} {M : gM} {U : State} {H H1 : Heap} (h : gWd D base ad cA X M U H) (hz : H.size ≤ H1.size) (ho : ∀ q : Nat, q < H.size → H1[q]? = H[q]?) : gWd D base ad cA X M U H1 := by
  obtain ⟨h1, h2, h3, h4, h5, h6, h7⟩ := h
  refine ⟨Nat.le_trans h1 hz, fun r i hx => ?_, h3, h4, h5, h6.kept (fun a ha _ => ho a ha), h7.kept (fun a ha _ => ho a ha)⟩
  have hg := h2 r i hx
  have hq := ho _ (gAt_lt hg)
  unfold gAt at hg ⊢
  split
  · next hs => rw [if_pos hs] at hg; exact hg.kept hq
  · next hs => rw [if_neg hs] at hg; rw [hq]; exact hg
theorem gR_mono {Ψ Ψ' : gM → Nat → List (Nat × Value) → List Value → Prop} {cc : ByteArray} {ret : Option FieldType} {v0 : Option Value} {M0 : gM} (f : ∀ M pc ls st, Ψ M pc ls st → Ψ' M pc ls st) (h : gR Ψ cc ret v0 M0) : gR Ψ' cc ret v0 M0 := ⟨fun pc ls x ty a b c d => f _ _ _ _ (h.1 pc ls x ty a b c d), fun pc ls x a b c => f _ _ _ _ (h.2.1 pc ls x a b c), fun pc ls a b c => f _ _ _ _ (h.2.2 pc ls a b c)⟩
noncomputable def X10_tri (p1 p2 : Int32) (M : gM) : Option (Option Int32) := (X4_has 1 p1 M).bind (fun r_2 => if r_2 = 0 then some none else (if p2 < 0 then some none else (if p2 ≤ 11 then (X10_triangleT p1 p2 M).bind (fun r => some (some r)) else some none)))
def gPreT (G : gG5) (X : gX) (M : gM) (av : List Value) : Array Value → State → Prop := fun a U => gPre G X M av a U ∧ gT G.2.2.1 U U.heap
theorem gPreT_blind (G : gG5) (X : gX) (M : gM) (av : List Value) : FrameBlind (gPreT G X M av) := fun a U g mk h => ⟨gPre_blind G X M av a U g mk h.1, gT.same (u := U) (U := U.calling g mk a) rfl h.2⟩
def gXT (G : gG5) (X : gX) (M : gM) (o : Option Int32) : String → State → State → Prop := fun E st t => o = none ∧ E = RE ∧ gWd G.2.1 G.2.2.1 G.2.2.2.1 G.2.2.2.2 X M t t.heap ∧ va_F (gA G.2.2.1) st t
def gPostT (G : gG5) (X : gX) (M : gM) (o : Option Int32) : Array Value → State → Outcome → State → Prop := fun a st o' t => ∃ r, o = some r ∧ gPost G X (some (.int r)) M a st o' t
theorem gargs (ad : Nat → Nat) : ∀ (i : Nat) (av : List Value), lv_args i (av.map (gv ad)) = gls ad (lv_args i av) := by
  intro i av
  induction av generalizing i with
  | nil => rfl
  | cons a t ih =>
    simp only [List.map_cons, lv_args, gls, gv_cat] at ih ⊢
    rw [ih]
theorem gsl (ad : Nat → Nat) (av : List Value) : (lg_sl (av.map (gv ad))).length = (lg_sl av).length := by
  induction av with
  | nil => rfl
  | cons a t ih =>
    simp only [lg_sl, List.map_cons, List.flatMap_cons, List.length_append, gv_cat] at ih ⊢
    rw [ih]
    split <;> rfl
theorem x_X10_triangle {G : gG5} {nf : Nat} {M : gM} {p1 p2 : Int32} {o : Option Int32} (hl : G.1.stackTraces = false) (hr : X10_tri p1 p2 M = some o) :
    vx_Met G.1 yX10_triangle (gwm yX10_triangle cX10_triangle 4 (some .int)) { frames := 6, cells := 1, slots := 6, locals := 100 } (gPreT G (gXn nf) M [.ref (gad 0 0), .int p1, .int p2]) (gPostT G (gXn nf) M o) (gXT G (gXn nf) M o) 1 6 (gA G.2.2.1) := by
  refine vx_ofW (cc := cX10_triangle) (maxL := 4) (ret := some .int) pl_X10 rfl ?_
  intro p e s m args below meth c s₁ B hml ht hv
  obtain ⟨⟨rfl, hK, hW⟩, hT⟩ := hv
  have hts := atoms_spec (ws := gwm yX10_triangle cX10_triangle 4 (some .int)) B.pre
  have hle2 : (lg_sl ([Value.ref (gad 0 0), .int p1, .int p2].map (gv G.2.2.2.1))).length ≤ 4 := by
    rw [gsl]
    exact Nat.le_of_ble_eq_true rfl
  have hen := lv_entry ([Value.ref (gad 0 0), .int p1, .int p2].map (gv G.2.2.2.1)) (n := 4) hle2
  rw [lg_entry_eq]
  rw [gargs] at hen
  have hgw : ∀ w ∈ gws, w.before (List.map (gv G.2.2.2.1) [Value.ref (gad 0 0), .int p1, .int p2]).toArray s = true := fun w hw => hts w (List.mem_cons_of_mem _ hw)
  have hown : s.vm.findClass RX10 = some m.cls := findClass_of_methodNamed B.named
  have key : ∀ Ψ0 Ψ1 : gM → Nat → List (Nat × Value) → List Value → Prop, gC Ψ0 G (gXn nf) cX10_triangle RX10 4 (some .int) 6 100 none M → gC Ψ1 G (gXn nf) cX10_triangle RX10 4 (some .int) 6 100 none M → (∀ M pc ls st, Ψ1 M pc ls st → Ψ0 M pc ls st) → (∀ r, o = some r → gR Ψ1 cX10_triangle (some .int) (some (.int r)) M) → (o = none → ∀ ls, Ψ0 M 21 ls []) → Ψ0 M 0 [(0, .ref (gad 0 0)), (1, .int p1), (2, .int p2)] [] := by
    intro Ψ0 Ψ1 C C1 wd CR th
    refine r_aload_n (pc := 0) C dX10_triangle_0 rfl 0 rfl ?_
    refine g0_3 (pc := 1) C dX10_triangle_1 q537 (e0 nf) ?_
    refine r_iload_n (pc := 4) C dX10_triangle_4 rfl 1 rfl ?_
    obtain ⟨r_2, hc_1, hr⟩ := gBind_some hr
    refine c_X4_has (pc := 5) C dX10_triangle_5 q867 ⟨Nat.le_of_ble_eq_true rfl, Nat.le_of_ble_eq_true rfl⟩ (by decide) hc_1 (Nat.le_of_ble_eq_true rfl) ?_
    refine r_if_eq (pc := 8) (tgt := 21) C dX10_triangle_8 rfl (fun c_3 => ?_) (fun c_3 => ?_)
    · replace hr := (if_pos c_3).symm.trans hr
      exact th (gSome hr) _
    · replace hr := (if_neg c_3).symm.trans hr
      refine r_iload_n (pc := 11) C dX10_triangle_11 rfl 2 rfl ?_
      refine r_if_lt (pc := 12) (tgt := 21) C dX10_triangle_12 rfl (fun c_4 => ?_) (fun c_4 => ?_)
      · replace hr := (if_pos c_4).symm.trans hr
        exact th (gSome hr) _
      · replace hr := (if_neg c_4).symm.trans hr
        refine r_iload_n (pc := 15) C dX10_triangle_15 rfl 2 rfl ?_
        refine r_bipush (pc := 16) C dX10_triangle_16 kb11 ?_
        refine r_icmp_le (pc := 18) (tgt := 29) C dX10_triangle_18 rfl (fun c_5 => ?_) (fun c_5 => ?_)
        · replace hr := (if_pos c_5).symm.trans hr
          obtain ⟨r, hc_6, hr⟩ := gBind_some hr
          exact wd _ _ _ _ (t_X10_triangleT C1 (CR r (gSome hr)) hc_6)
        · replace hr := (if_neg c_5).symm.trans hr
          exact th (gSome hr) _
  exact key (fun M pc ls st => ∀ (H : Heap) (locs : List Loc) (lsA : Array Slot), lv_has lsA 4 (gls G.2.2.2.1 ls) → gWd G.2.1 G.2.2.1 G.2.2.2.1 G.2.2.2.2 (gXn nf) M s H → va_S (gA G.2.2.1) s.heap H locs →
      W p G.1 e _ s m _ below meth c H locs 0 0 (vx_MQ below (gPostT G (gXn nf) _ o) (gXT G (gXn nf) _ o) _ s 1 6 (gA G.2.2.1)) (F0 m pc lsA (st.map (gv G.2.2.2.1))))
    (fun M pc ls st => ∀ (H : Heap) (locs : List Loc) (lsA : Array Slot), lv_has lsA 4 (gls G.2.2.2.1 ls) → gWd G.2.1 G.2.2.1 G.2.2.2.1 G.2.2.2.2 (gXn nf) M s H → va_S (gA G.2.2.1) s.heap H locs →
      W p G.1 e _ s m _ below meth c H locs 1 6 (vx_MQ below (gPostT G (gXn nf) _ o) (gXT G (gXn nf) _ o) _ s 1 6 (gA G.2.2.1)) (F0 m pc lsA (st.map (gv G.2.2.2.1))))
    ⟨p, e, s, m, _, below, meth, c, _, _, 0, 0, rfl, B.exec, B.bytes, hml, hown, hgw, hK, rfl, rfl, Nat.zero_le _, Nat.zero_le _⟩
    ⟨p, e, s, m, _, below, meth, c, _, _, 1, 6, rfl, B.exec, B.bytes, hml, hown, hgw, hK, rfl, rfl, Nat.le_refl _, Nat.le_refl _⟩
    (fun M pc ls st h H locs lsA h1 h2 h3 => fun T hT X => h H locs lsA h1 h2 h3 T hT (stand_widen X (by decide) (by decide)))
    (fun r ho => gR_mono (fun M pc ls st h H locs lsA h1 h2 h3 => vx_ret (h H locs lsA h1 h2 h3)) (gR_of (G := G) (X := gXn nf) (Qc := gPostT G (gXn nf) M o) (cells := 1) (slots := 6) B.exec B.bytes B.returns B.notSynchronized (fun t hq hF _ => ⟨r, ho, rfl, hq, hF⟩)))
    (fun ho ls H locs lsA h1 h2 h3 => vx_throw0 (names := nmE) (A := gA G.2.2.1) (rest := []) B.exec B.bytes hl hown (by decide +kernel) (by decide +kernel) (hgw _ q1323) (hgw _ q138) (vx_hat (fun w hw => hgw w (atE_gws w hw)) atE_no hT.1.all) atE_ot hT.2.1 hT.2.2 h3 (h1.1.trans hml.symm) dX10_triangle_21 dX10_triangle_24 dX10_triangle_25 dX10_triangle_28 (fun x hx => absurd (ht x hx) id) (by decide) (by decide) (by decide) (by decide) B.notSynchronized
      (fun t hal hz hq => ⟨ho, rfl, (h2.moved hal).grow hz hq, Nat.le_trans h3.1 hz, fun q a b => by rw [hq q (Nat.lt_of_lt_of_le a h3.1)]; exact h3.2.1 q a b⟩) h3.2.2 (by decide) (by decide))
    s.heap [] _ hen hW va_S.rf
