/-! the methods by which a frame may be made -/
noncomputable def X2_keep (nf : Nat) (M : gM) : Option (Nat × gM) := gG (gin (M.1 43 0 1) 40) (if (M.1 43 0 1).toNatClampNeg < nf then (X2_keepT 0 ((M.1 43 0 1).toNatClampNeg + 3) M).bind (fun M_1 => some (nf, M_1)) else gG (decide ((M.1 43 0 1).toNatClampNeg = nf)) ((X2_keepT 0 (nf + 3) (mX0 (gZero M 33 (nf + 3)) (nf + 3))).bind (fun M_1 => some (nf + 1, M_1))))
theorem n_X2_keep {l : Launch} {D : va_G} {base : Nat} {ad : Nat → Nat} {cA : Nat → ClassId} {nf nf1 : Nat} {M M1 : gM} (hr : X2_keep nf M = some (nf1, M1)) : gMetD l D base yX2_keep cX2_keep 3 none 3 85 (10 * (nf1 - nf)) (1211 * (nf1 - nf)) ad cA (gXn nf) M [.ref (gad 43 0), .ref (gad 33 0)] none (gXn nf1) M1 := by
  unfold X2_keep at hr
  obtain ⟨hg, hr⟩ := gG_some hr
  split at hr
  · next hj =>
    obtain ⟨M_1, hc, hr⟩ := gBind_some hr
    obtain ⟨rfl, rfl⟩ := Prod.mk.inj (gSome hr)
    rw [Nat.sub_self]
    exact n_keep_old hg hj hc
  · obtain ⟨hj, hr⟩ := gG_some hr
    obtain ⟨M_1, hc, hr⟩ := gBind_some hr
    obtain ⟨rfl, rfl⟩ := Prod.mk.inj (gSome hr)
    rw [Nat.add_sub_cancel_left]
    exact n_keep_new hg (of_decide_eq_true hj) hc
theorem mo_X2_keep {nf nf1 : Nat} {M M1 : gM} (hr : X2_keep nf M = some (nf1, M1)) : nf ≤ nf1 ∧ nf1 ≤ nf + 1 ∧ (nf ≤ 40 → nf1 ≤ 40) := by
  unfold X2_keep at hr
  obtain ⟨hg, hr⟩ := gG_some hr
  split at hr
  · obtain ⟨M_1, hc, hr⟩ := gBind_some hr
    obtain ⟨rfl, rfl⟩ := Prod.mk.inj (gSome hr)
    exact ⟨Nat.le_refl _, by omega, id⟩
  · obtain ⟨hj, hr⟩ := gG_some hr
    obtain ⟨M_1, hc, hr⟩ := gBind_some hr
    obtain ⟨rfl, rfl⟩ := Prod.mk.inj (gSome hr)
    have h1 := gin_lt hg
    have h2 := of_decide_eq_true hj
    exact ⟨by omega, Nat.le_refl _, by omega⟩
theorem hd_X2_keep : yX2_keep.cls ≠ "java/lang/invoke/MethodHandle" ∧ yX2_keep.cls ≠ "java/lang/invoke/VarHandle" ∧ (parseMethodDescriptor yX2_keep.desc).map (fun d => d.parameters.length) = some 1 := by decide +kernel
theorem gIter_mono {σ ε : Type} {step : σ → Option (σ ⊕ ε)} {f : σ → Nat} {g : ε → Nat} (h1 : ∀ s s', step s = some (.inl s') → f s ≤ f s') (h2 : ∀ s e, step s = some (.inr e) → f s ≤ g e) : ∀ n s e, gIter step n s = some e → f s ≤ g e := by
  intro n
  induction n with
  | zero => intro s e h; cases h
  | succ n ih =>
    intro s e h
    unfold gIter at h
    split at h
    · cases h
    · next s' hs => exact Nat.le_trans (h1 s s' hs) (ih _ _ h)
    · next e' hs => cases h; exact h2 s _ hs
theorem gIter_VB {σ ε : Type} {step : σ → Option (σ ⊕ ε)} {P : σ → Prop} {K : ε → Prop} {f : σ → Nat} {g : ε → Nat} {B : Nat} (h1 : ∀ s s', step s = some (.inl s') → f s ≤ f s') (h2 : ∀ s e, step s = some (.inr e) → f s ≤ g e) (h : ∀ s r, step s = some r → (∀ s', r = .inl s' → f s' ≤ B ∧ P s') → (∀ e, r = .inr e → K e) → P s) : ∀ n s e, gIter step n s = some e → g e ≤ B → K e → P s := by
  intro n
  induction n with
  | zero => intro s e h1 _ _; cases h1
  | succ n ih =>
    intro s e hi hb hk
    unfold gIter at hi
    split at hi
    · cases hi
    · next s' hs => exact h s _ hs (fun z hz => by cases hz; exact ⟨Nat.le_trans (gIter_mono h1 h2 _ _ _ hi) hb, ih _ _ hi hb hk⟩) (fun z hz => by cases hz)
    · next e' hs => exact h s _ hs (fun z hz => by cases hz) (fun z hz => by cases hz; cases hi; exact hk)
theorem hd_X10_act : yX10_act.cls ≠ "java/lang/invoke/MethodHandle" ∧ yX10_act.cls ≠ "java/lang/invoke/VarHandle" ∧ (parseMethodDescriptor yX10_act.desc).map (fun d => d.parameters.length) = some 6 := by decide +kernel
noncomputable def X10_act_J45 (nf : Nat) (x1 : Int32) (x2 : Int32) (x3 : Int32) (x4 : Int32) (x5 : Int32) (M : gM) : Option (Int32 × Nat × gM) := (X2_keep nf M).bind (gU2 (fun nf M_5 => (X9_carryOut 0 x1 x2 x3 x4 x5 M_5).bind (gU2 (fun r_7 M_8 => (X10_sortOf x1 M_8).bind (fun r_10 => (X10_numberOf x1 x2 M_8).bind (fun r_12 => (X0_note 0 r_10 r_12 M_8).bind (fun M_14 => some (r_7, nf, M_14))))))))
theorem t_X10_act_J45 {Φ : gF} {l : Launch} {D : va_G} {base : Nat} {mc ms : Nat} {mn : String} {ad : Nat → Nat} {cA : Nat → ClassId} {nf nf1 : Nat} {M : gM} {x1 : Int32} {x2 : Int32} {x3 : Int32} {x4 : Int32} {x5 : Int32} {r : Int32} {M1 : gM} (Z : gD Φ l D base ad cX10_act RX10 9 6 156 mc ms mn) (hmc : mc = 10 * (nf1 - nf)) (hms : ms = 1211 * (nf1 - nf)) (CR : ∀ ad' cA', gAgr (gXn nf) ad ad' → gR (Φ mc ms ad' cA' (gXn nf1)) cX10_act (some .int) (some (.int r)) M1) (hr : X10_act_J45 nf x1 x2 x3 x4 x5 M = some (r, nf1, M1)) : Φ 0 0 ad cA (gXn nf) M 45 [(0, .ref (gad 0 0)), (1, .int x1), (2, .int x2), (3, .int x3), (4, .int x4), (5, .int x5)] [] := by
  have C := Z.C (cells := 0) (slots := 0) (Nat.zero_le _) (Nat.zero_le _) cA (gXn nf) (fun k _ => rfl) (some .int) (some (.int r)) M1
  refine r_aload_n (pc := 45) C dX10_act_45 rfl 0 rfl ?_
  refine g0_9 (pc := 46) C dX10_act_46 q543 (e0 nf) ?_
  refine r_aload_n (pc := 49) C dX10_act_49 rfl 0 rfl ?_
  refine g0_7 (pc := 50) C dX10_act_50 q541 (e0 nf) ?_
  obtain ⟨⟨nf2, M_5⟩, hc_4, hr⟩ := gBind_some hr
  replace hr := gU2_some hr
  obtain ⟨⟨r_7, M_8⟩, hc_6, hr⟩ := gBind_some hr
  replace hr := gU2_some hr
  obtain ⟨r_10, hc_9, hr⟩ := gBind_some hr
  obtain ⟨r_12, hc_11, hr⟩ := gBind_some hr
  obtain ⟨M_14, hc_13, hr⟩ := gBind_some hr
  have e1 : r = r_7 := congrArg (fun z => z.1) (gSome hr)
  have e2 : nf1 = nf2 := congrArg (fun z => z.2.1) (gSome hr)
  have e3 : M1 = M_14 := congrArg (fun z => z.2.2) (gSome hr)
  rw [e2] at hmc hms
  have CR : ∀ ad' cA', gAgr (gXn nf) ad ad' → gR (Φ mc ms ad' cA' (gXn nf2)) cX10_act (some .int) (some (.int r_7)) M_14 := by
    rw [← e1, ← e2, ← e3]
    exact CR
  refine d_callV (pc := 53) Z [.ref (gad 33 0)] [] dX10_act_53 (n_X2_keep hc_4) (fun k _ => rfl) (fun w h => nomatch h) q993 q994 q995 q125 q996 hd_X2_keep ⟨Nat.le_of_ble_eq_true rfl, Nat.le_of_ble_eq_true rfl⟩ ⟨by omega, by omega⟩ rfl (by decide) (e43 nf) rfl (Nat.le_of_ble_eq_true rfl) (List.forall_mem_cons.mpr ⟨gEv_r (e0 nf), (List.forall_mem_cons.mpr ⟨gEv_i _ _, (List.forall_mem_cons.mpr ⟨gEv_i _ _, (List.forall_mem_cons.mpr ⟨gEv_i _ _, (List.forall_mem_cons.mpr ⟨gEv_i _ _, (List.forall_mem_cons.mpr ⟨gEv_i _ _, (fun _ z => nomatch z)⟩)⟩)⟩)⟩)⟩)⟩) (fun _ z => nomatch z) (fun ad1 cA1 g1 => ?_)
  rw [Nat.zero_add, Nat.zero_add, ← hmc, ← hms]
  have CR := CR ad1 cA1 g1
  have C := Z.C (cells := mc) (slots := ms) (Nat.le_refl _) (Nat.le_refl _) cA1 (gXn nf2) (fun k hk => g1.str k hk) (some .int) (some (.int r_7)) M_14
  refine r_aload_n (pc := 56) C dX10_act_56 rfl 0 rfl ?_
  refine g0_5 (pc := 57) C dX10_act_57 q539 (e0 nf2) ?_
  refine r_aload_n (pc := 60) C dX10_act_60 rfl 0 rfl ?_
  refine g0_7 (pc := 61) C dX10_act_61 q541 (e0 nf2) ?_
  refine r_iload_n (pc := 64) C dX10_act_64 rfl 1 rfl ?_
  refine r_iload_n (pc := 65) C dX10_act_65 rfl 2 rfl ?_
  refine r_iload_n (pc := 66) C dX10_act_66 rfl 3 rfl ?_
  refine r_iload (pc := 67) C dX10_act_67 4 rfl ?_
  refine r_iload (pc := 69) C dX10_act_69 5 rfl ?_
  refine c_X9_carryOut (pc := 71) C dX10_act_71 q1003 ⟨Nat.le_of_ble_eq_true rfl, Nat.le_of_ble_eq_true rfl⟩ (gf0 nf2) hc_6 (Nat.le_of_ble_eq_true rfl) ?_
  refine r_istore (pc := 74) C dX10_act_74 (by decide) rfl (ls' := [(8, .int r_7), (0, .ref (gad 0 0)), (1, .int x1), (2, .int x2), (3, .int x3), (4, .int x4), (5, .int x5)]) rfl ?_
  refine r_aload_n (pc := 76) C dX10_act_76 rfl 1 rfl ?_
  refine g0_7 (pc := 77) C dX10_act_77 q541 (e0 nf2) ?_
  refine r_iload_n (pc := 80) C dX10_act_80 rfl 2 rfl ?_
  refine c_X10_sortOf (pc := 81) C dX10_act_81 q1051 ⟨Nat.le_of_ble_eq_true rfl, Nat.le_of_ble_eq_true rfl⟩ hc_9 (Nat.le_of_ble_eq_true rfl) ?_
  refine r_iload_n (pc := 84) C dX10_act_84 rfl 2 rfl ?_
  refine r_iload_n (pc := 85) C dX10_act_85 rfl 3 rfl ?_
  refine c_X10_numberOf (pc := 86) C dX10_act_86 q1054 ⟨Nat.le_of_ble_eq_true rfl, Nat.le_of_ble_eq_true rfl⟩ hc_11 (Nat.le_of_ble_eq_true rfl) ?_
  refine c_X0_note (pc := 89) C dX10_act_89 q1057 ⟨Nat.le_of_ble_eq_true rfl, Nat.le_of_ble_eq_true rfl⟩ (gf0 nf2) hc_13 (Nat.le_of_ble_eq_true rfl) ?_
  refine r_iload (pc := 92) C dX10_act_92 0 rfl ?_
  exact r_iret (pc := 94) CR dX10_act_94 rfl rfl
noncomputable def X10_act (nf : Nat) (p1 : Int32) (p2 : Int32) (p3 : Int32) (p4 : Int32) (p5 : Int32) (p6 : Int32) (M : gM) : Option (Int32 × Nat × gM) := (X9_refusal 0 p1 p2 p3 p4 p5 M).bind (fun r_2 => (if r_2 < 0 then X10_act_J45 nf p1 p2 p3 p4 p5 M else (if 4 ≤ r_2 then X10_act_J45 nf p1 p2 p3 p4 p5 M else gG (gin r_2 4) (gG (gin r_2 4) (gLet (wI M 48 0 (Int32.toNatClampNeg r_2) ((M.1 48 0 (Int32.toNatClampNeg r_2)) + 1)) (fun M_18 => some (p6, nf, M_18)))))))
theorem n_X10_act {l : Launch} {D : va_G} {base : Nat} {ad : Nat → Nat} {cA : Nat → ClassId} {nf nf1 : Nat} {M : gM} {p1 p2 p3 p4 p5 p6 : Int32} {r : Int32} {M1 : gM} (hr : X10_act nf p1 p2 p3 p4 p5 p6 M = some (r, nf1, M1)) : gMetD l D base yX10_act cX10_act 9 (some .int) 6 156 (10 * (nf1 - nf)) (1211 * (nf1 - nf)) ad cA (gXn nf) M [.ref (gad 0 0), .int p1, .int p2, .int p3, .int p4, .int p5, .int p6] (some (.int r)) (gXn nf1) M1 := by
  refine gMetD_of pl_X10 rfl (Nat.le_of_ble_eq_true rfl) (fun w h => ⟨r, (Option.some.inj h).symm⟩) (fun Φ Z CR => ?_)
  show Φ 0 0 ad cA (gXn nf) M 0 [(0, .ref (gad 0 0)), (1, .int p1), (2, .int p2), (3, .int p3), (4, .int p4), (5, .int p5), (6, .int p6)] []
  have C := Z.C (cells := 0) (slots := 0) (Nat.zero_le _) (Nat.zero_le _) cA (gXn nf) (fun k _ => rfl) (some .int) (some (.int r)) M1
  refine r_aload_n (pc := 0) C dX10_act_0 rfl 0 rfl ?_
  refine g0_5 (pc := 1) C dX10_act_1 q539 (e0 nf) ?_
  refine r_aload_n (pc := 4) C dX10_act_4 rfl 0 rfl ?_
  refine g0_7 (pc := 5) C dX10_act_5 q541 (e0 nf) ?_
  refine r_iload_n (pc := 8) C dX10_act_8 rfl 1 rfl ?_
  refine r_iload_n (pc := 9) C dX10_act_9 rfl 2 rfl ?_
  refine r_iload_n (pc := 10) C dX10_act_10 rfl 3 rfl ?_
  refine r_iload (pc := 11) C dX10_act_11 4 rfl ?_
  refine r_iload (pc := 13) C dX10_act_13 5 rfl ?_
  obtain ⟨r_2, hc_1, hr⟩ := gBind_some hr
  refine c_X9_refusal (pc := 15) C dX10_act_15 q962 ⟨Nat.le_of_ble_eq_true rfl, Nat.le_of_ble_eq_true rfl⟩ (gf0 nf) hc_1 (Nat.le_of_ble_eq_true rfl) ?_
  refine r_istore (pc := 18) C dX10_act_18 (by decide) rfl (ls' := [(7, .int r_2), (0, .ref (gad 0 0)), (1, .int p1), (2, .int p2), (3, .int p3), (4, .int p4), (5, .int p5), (6, .int p6)]) rfl ?_
  refine r_iload (pc := 20) C dX10_act_20 0 rfl ?_
  refine r_if_lt (pc := 22) (tgt := 45) C dX10_act_22 rfl (fun c_3 => ?_) (fun c_3 => ?_)
  · replace hr := (if_pos c_3).symm.trans hr
    refine r_sub C [1, 2, 3, 4, 5, 6] (ls' := [(0, .ref (gad 0 0)), (1, .int p1), (2, .int p2), (3, .int p3), (4, .int p4), (5, .int p5)]) rfl ?_
    exact t_X10_act_J45 Z rfl rfl CR hr
  · replace hr := (if_neg c_3).symm.trans hr
    refine r_iload (pc := 25) C dX10_act_25 0 rfl ?_
    refine r_iconst (pc := 27) C dX10_act_27 ki4 ?_
    refine r_icmp_ge (pc := 28) (tgt := 45) C dX10_act_28 rfl (fun c_15 => ?_) (fun c_15 => ?_)
    · replace hr := (if_pos c_15).symm.trans hr
      refine r_sub C [1, 2, 3, 4, 5, 6] (ls' := [(0, .ref (gad 0 0)), (1, .int p1), (2, .int p2), (3, .int p3), (4, .int p4), (5, .int p5)]) rfl ?_
      exact t_X10_act_J45 Z rfl rfl CR hr
    · replace hr := (if_neg c_15).symm.trans hr
      refine r_aload_n (pc := 31) C dX10_act_31 rfl 1 rfl ?_
      refine g0_11 (pc := 32) C dX10_act_32 q545 (e0 nf) ?_
      refine r_iload (pc := 35) C dX10_act_35 0 rfl ?_
      refine r_dup2 (pc := 37) C dX10_act_37 rfl rfl ?_
      obtain ⟨g_16, hr⟩ := gG_some hr
      refine r_ialdN (pc := 38) C dX10_act_38 rfl (e48 nf) g_16 rfl ?_
      refine r_iconst (pc := 39) C dX10_act_39 ki1 ?_
      refine r_iadd (pc := 40) C dX10_act_40 ?_
      obtain ⟨g_17, hr⟩ := gG_some hr
      obtain ⟨M_18, eM_18, hr⟩ := gLet_some hr
      refine r_iastN (pc := 41) C dX10_act_41 rfl (e48 nf) g_17 rfl eM_18 ?_
      refine r_iload (pc := 42) C dX10_act_42 7 rfl ?_
      obtain ⟨rfl, rfl, rfl⟩ := (show r = p6 ∧ nf1 = nf ∧ M1 = M_18 from ⟨congrArg (fun z => z.1) (gSome hr), congrArg (fun z => z.2.1) (gSome hr), congrArg (fun z => z.2.2) (gSome hr)⟩)
      have CR := CR ad cA gAgr.rf
      rw [Nat.sub_self] at CR
      exact r_iret (pc := 44) CR dX10_act_44 rfl rfl
theorem mo_X10_act {nf nf1 : Nat} {M M1 : gM} {p1 p2 p3 p4 p5 p6 r : Int32} (hr : X10_act nf p1 p2 p3 p4 p5 p6 M = some (r, nf1, M1)) : nf ≤ nf1 ∧ nf1 ≤ nf + 1 ∧ (nf ≤ 40 → nf1 ≤ 40) := by
  have key : ∀ {r : Int32}, X10_act_J45 nf p1 p2 p3 p4 p5 M = some (r, nf1, M1) → nf ≤ nf1 ∧ nf1 ≤ nf + 1 ∧ (nf ≤ 40 → nf1 ≤ 40) := by
    intro r hr
    obtain ⟨⟨nf2, M_5⟩, hc, hr⟩ := gBind_some hr
    replace hr := gU2_some hr
    obtain ⟨⟨r_7, M_8⟩, -, hr⟩ := gBind_some hr
    replace hr := gU2_some hr
    obtain ⟨r_10, -, hr⟩ := gBind_some hr
    obtain ⟨r_12, -, hr⟩ := gBind_some hr
    obtain ⟨M_14, -, hr⟩ := gBind_some hr
    have e : nf1 = nf2 := congrArg (fun z => z.2.1) (gSome hr)
    rw [e]
    exact mo_X2_keep hc
  obtain ⟨r_2, -, hr⟩ := gBind_some hr
  split at hr
  · exact key hr
  · split at hr
    · exact key hr
    · obtain ⟨-, hr⟩ := gG_some hr
      obtain ⟨-, hr⟩ := gG_some hr
      obtain ⟨M_18, -, hr⟩ := gLet_some hr
      have e : nf1 = nf := congrArg (fun z => z.2.1) (gSome hr)
      rw [e]
      exact ⟨Nat.le_refl _, by omega, id⟩
theorem hd_X10_draw : yX10_draw.cls ≠ "java/lang/invoke/MethodHandle" ∧ yX10_draw.cls ≠ "java/lang/invoke/VarHandle" ∧ (parseMethodDescriptor yX10_draw.desc).map (fun d => d.parameters.length) = some 1 := by decide +kernel
noncomputable def X10_draw (nf : Nat) (p1 : Int32) (M : gM) : Option (Int32 × Nat × gM) := X10_act nf 0 p1 0 0 0 (-1) M
theorem n_X10_draw {l : Launch} {D : va_G} {base : Nat} {ad : Nat → Nat} {cA : Nat → ClassId} {nf nf1 : Nat} {M : gM} {p1 : Int32} {r : Int32} {M1 : gM} (hr : X10_draw nf p1 M = some (r, nf1, M1)) : gMetD l D base yX10_draw cX10_draw 2 (some .int) 7 184 (10 * (nf1 - nf)) (1211 * (nf1 - nf)) ad cA (gXn nf) M [.ref (gad 0 0), .int p1] (some (.int r)) (gXn nf1) M1 := by
  refine gMetD_of pl_X10 rfl (Nat.le_of_ble_eq_true rfl) (fun w h => ⟨r, (Option.some.inj h).symm⟩) (fun Φ Z CR => ?_)
  show Φ 0 0 ad cA (gXn nf) M 0 [(0, .ref (gad 0 0)), (1, .int p1)] []
  have C := Z.C (cells := 0) (slots := 0) (Nat.zero_le _) (Nat.zero_le _) cA (gXn nf) (fun k _ => rfl) (some .int) (some (.int r)) M1
  refine r_aload_n (pc := 0) C dX10_draw_0 rfl 0 rfl ?_
  refine r_iconst (pc := 1) C dX10_draw_1 ki0 ?_
  refine r_iload_n (pc := 2) C dX10_draw_2 rfl 1 rfl ?_
  refine r_iconst (pc := 3) C dX10_draw_3 ki0 ?_
  refine r_iconst (pc := 4) C dX10_draw_4 ki0 ?_
  refine r_iconst (pc := 5) C dX10_draw_5 ki0 ?_
  refine r_iconst (pc := 6) C dX10_draw_6 kim1 ?_
  refine d_callV (pc := 7) Z [.int 0, .int p1, .int 0, .int 0, .int 0, .int (-1)] [] dX10_draw_7 (n_X10_act hr) (fun k _ => rfl) (fun w h => ⟨_, (Option.some.inj h).symm⟩) q958 q960 q19 q116 q961 hd_X10_act ⟨Nat.le_of_ble_eq_true rfl, Nat.le_of_ble_eq_true rfl⟩ ⟨by omega, by omega⟩ rfl (by decide) (e0 nf) rfl (Nat.le_of_ble_eq_true rfl) (List.forall_mem_cons.mpr ⟨gEv_r (e0 nf), (List.forall_mem_cons.mpr ⟨gEv_i _ _, (fun _ z => nomatch z)⟩)⟩) (fun _ z => nomatch z) (fun ad1 cA1 g1 => ?_)
  rw [Nat.zero_add, Nat.zero_add]
  exact r_iret (pc := 10) (CR ad1 cA1 g1) dX10_draw_10 rfl rfl
theorem hd_X10_flush : yX10_flush.cls ≠ "java/lang/invoke/MethodHandle" ∧ yX10_flush.cls ≠ "java/lang/invoke/VarHandle" ∧ (parseMethodDescriptor yX10_flush.desc).map (fun d => d.parameters.length) = some 1 := by decide +kernel
noncomputable def X10_flush (nf : Nat) (p1 : Int32) (M : gM) : Option (Int32 × Nat × gM) := X10_act nf 1 p1 0 0 0 (-1) M
theorem n_X10_flush {l : Launch} {D : va_G} {base : Nat} {ad : Nat → Nat} {cA : Nat → ClassId} {nf nf1 : Nat} {M : gM} {p1 : Int32} {r : Int32} {M1 : gM} (hr : X10_flush nf p1 M = some (r, nf1, M1)) : gMetD l D base yX10_flush cX10_flush 2 (some .int) 7 184 (10 * (nf1 - nf)) (1211 * (nf1 - nf)) ad cA (gXn nf) M [.ref (gad 0 0), .int p1] (some (.int r)) (gXn nf1) M1 := by
  refine gMetD_of pl_X10 rfl (Nat.le_of_ble_eq_true rfl) (fun w h => ⟨r, (Option.some.inj h).symm⟩) (fun Φ Z CR => ?_)
  show Φ 0 0 ad cA (gXn nf) M 0 [(0, .ref (gad 0 0)), (1, .int p1)] []
  have C := Z.C (cells := 0) (slots := 0) (Nat.zero_le _) (Nat.zero_le _) cA (gXn nf) (fun k _ => rfl) (some .int) (some (.int r)) M1
  refine r_aload_n (pc := 0) C dX10_flush_0 rfl 0 rfl ?_
  refine r_iconst (pc := 1) C dX10_flush_1 ki1 ?_
  refine r_iload_n (pc := 2) C dX10_flush_2 rfl 1 rfl ?_
  refine r_iconst (pc := 3) C dX10_flush_3 ki0 ?_
  refine r_iconst (pc := 4) C dX10_flush_4 ki0 ?_
  refine r_iconst (pc := 5) C dX10_flush_5 ki0 ?_
  refine r_iconst (pc := 6) C dX10_flush_6 kim1 ?_
  refine d_callV (pc := 7) Z [.int 1, .int p1, .int 0, .int 0, .int 0, .int (-1)] [] dX10_flush_7 (n_X10_act hr) (fun k _ => rfl) (fun w h => ⟨_, (Option.some.inj h).symm⟩) q958 q960 q19 q116 q961 hd_X10_act ⟨Nat.le_of_ble_eq_true rfl, Nat.le_of_ble_eq_true rfl⟩ ⟨by omega, by omega⟩ rfl (by decide) (e0 nf) rfl (Nat.le_of_ble_eq_true rfl) (List.forall_mem_cons.mpr ⟨gEv_r (e0 nf), (List.forall_mem_cons.mpr ⟨gEv_i _ _, (fun _ z => nomatch z)⟩)⟩) (fun _ z => nomatch z) (fun ad1 cA1 g1 => ?_)
  rw [Nat.zero_add, Nat.zero_add]
  exact r_iret (pc := 10) (CR ad1 cA1 g1) dX10_flush_10 rfl rfl
theorem hd_X10_all : yX10_all.cls ≠ "java/lang/invoke/MethodHandle" ∧ yX10_all.cls ≠ "java/lang/invoke/VarHandle" ∧ (parseMethodDescriptor yX10_all.desc).map (fun d => d.parameters.length) = some 0 := by decide +kernel
noncomputable def X10_all (nf : Nat) (M : gM) : Option (Int32 × Nat × gM) := X10_act nf 2 0 0 0 0 (-1) M
theorem n_X10_all {l : Launch} {D : va_G} {base : Nat} {ad : Nat → Nat} {cA : Nat → ClassId} {nf nf1 : Nat} {M : gM} {r : Int32} {M1 : gM} (hr : X10_all nf M = some (r, nf1, M1)) : gMetD l D base yX10_all cX10_all 1 (some .int) 7 184 (10 * (nf1 - nf)) (1211 * (nf1 - nf)) ad cA (gXn nf) M [.ref (gad 0 0)] (some (.int r)) (gXn nf1) M1 := by
  refine gMetD_of pl_X10 rfl (Nat.le_of_ble_eq_true rfl) (fun w h => ⟨r, (Option.some.inj h).symm⟩) (fun Φ Z CR => ?_)
  show Φ 0 0 ad cA (gXn nf) M 0 [(0, .ref (gad 0 0))] []
  have C := Z.C (cells := 0) (slots := 0) (Nat.zero_le _) (Nat.zero_le _) cA (gXn nf) (fun k _ => rfl) (some .int) (some (.int r)) M1
  refine r_aload_n (pc := 0) C dX10_all_0 rfl 0 rfl ?_
  refine r_iconst (pc := 1) C dX10_all_1 ki2 ?_
  refine r_iconst (pc := 2) C dX10_all_2 ki0 ?_
  refine r_iconst (pc := 3) C dX10_all_3 ki0 ?_
  refine r_iconst (pc := 4) C dX10_all_4 ki0 ?_
  refine r_iconst (pc := 5) C dX10_all_5 ki0 ?_
  refine r_iconst (pc := 6) C dX10_all_6 kim1 ?_
  refine d_callV (pc := 7) Z [.int 2, .int 0, .int 0, .int 0, .int 0, .int (-1)] [] dX10_all_7 (n_X10_act hr) (fun k _ => rfl) (fun w h => ⟨_, (Option.some.inj h).symm⟩) q958 q960 q19 q116 q961 hd_X10_act ⟨Nat.le_of_ble_eq_true rfl, Nat.le_of_ble_eq_true rfl⟩ ⟨by omega, by omega⟩ rfl (by decide) (e0 nf) rfl (Nat.le_of_ble_eq_true rfl) (List.forall_mem_cons.mpr ⟨gEv_r (e0 nf), (fun _ z => nomatch z)⟩) (fun _ z => nomatch z) (fun ad1 cA1 g1 => ?_)
  rw [Nat.zero_add, Nat.zero_add]
  exact r_iret (pc := 10) (CR ad1 cA1 g1) dX10_all_10 rfl rfl
theorem hd_X10_clear : yX10_clear.cls ≠ "java/lang/invoke/MethodHandle" ∧ yX10_clear.cls ≠ "java/lang/invoke/VarHandle" ∧ (parseMethodDescriptor yX10_clear.desc).map (fun d => d.parameters.length) = some 0 := by decide +kernel
noncomputable def X10_clear (nf : Nat) (M : gM) : Option (Int32 × Nat × gM) := X10_act nf 3 0 0 0 0 (-1) M
theorem n_X10_clear {l : Launch} {D : va_G} {base : Nat} {ad : Nat → Nat} {cA : Nat → ClassId} {nf nf1 : Nat} {M : gM} {r : Int32} {M1 : gM} (hr : X10_clear nf M = some (r, nf1, M1)) : gMetD l D base yX10_clear cX10_clear 1 (some .int) 7 184 (10 * (nf1 - nf)) (1211 * (nf1 - nf)) ad cA (gXn nf) M [.ref (gad 0 0)] (some (.int r)) (gXn nf1) M1 := by
  refine gMetD_of pl_X10 rfl (Nat.le_of_ble_eq_true rfl) (fun w h => ⟨r, (Option.some.inj h).symm⟩) (fun Φ Z CR => ?_)
  show Φ 0 0 ad cA (gXn nf) M 0 [(0, .ref (gad 0 0))] []
  have C := Z.C (cells := 0) (slots := 0) (Nat.zero_le _) (Nat.zero_le _) cA (gXn nf) (fun k _ => rfl) (some .int) (some (.int r)) M1
  refine r_aload_n (pc := 0) C dX10_clear_0 rfl 0 rfl ?_
  refine r_iconst (pc := 1) C dX10_clear_1 ki3 ?_
  refine r_iconst (pc := 2) C dX10_clear_2 ki0 ?_
  refine r_iconst (pc := 3) C dX10_clear_3 ki0 ?_
  refine r_iconst (pc := 4) C dX10_clear_4 ki0 ?_
  refine r_iconst (pc := 5) C dX10_clear_5 ki0 ?_
  refine r_iconst (pc := 6) C dX10_clear_6 kim1 ?_
  refine d_callV (pc := 7) Z [.int 3, .int 0, .int 0, .int 0, .int 0, .int (-1)] [] dX10_clear_7 (n_X10_act hr) (fun k _ => rfl) (fun w h => ⟨_, (Option.some.inj h).symm⟩) q958 q960 q19 q116 q961 hd_X10_act ⟨Nat.le_of_ble_eq_true rfl, Nat.le_of_ble_eq_true rfl⟩ ⟨by omega, by omega⟩ rfl (by decide) (e0 nf) rfl (Nat.le_of_ble_eq_true rfl) (List.forall_mem_cons.mpr ⟨gEv_r (e0 nf), (fun _ z => nomatch z)⟩) (fun _ z => nomatch z) (fun ad1 cA1 g1 => ?_)
  rw [Nat.zero_add, Nat.zero_add]
  exact r_iret (pc := 10) (CR ad1 cA1 g1) dX10_clear_10 rfl rfl
theorem hd_X10_move : yX10_move.cls ≠ "java/lang/invoke/MethodHandle" ∧ yX10_move.cls ≠ "java/lang/invoke/VarHandle" ∧ (parseMethodDescriptor yX10_move.desc).map (fun d => d.parameters.length) = some 4 := by decide +kernel
noncomputable def X10_move (nf : Nat) (p1 : Int32) (p2 : Int32) (p3 : Int32) (p4 : Int32) (M : gM) : Option (Int32 × Nat × gM) := X10_act nf 8 p1 p2 p3 p4 (-1000000000) M
theorem n_X10_move {l : Launch} {D : va_G} {base : Nat} {ad : Nat → Nat} {cA : Nat → ClassId} {nf nf1 : Nat} {M : gM} {p1 : Int32} {p2 : Int32} {p3 : Int32} {p4 : Int32} {r : Int32} {M1 : gM} (hr : X10_move nf p1 p2 p3 p4 M = some (r, nf1, M1)) : gMetD l D base yX10_move cX10_move 5 (some .int) 7 184 (10 * (nf1 - nf)) (1211 * (nf1 - nf)) ad cA (gXn nf) M [.ref (gad 0 0), .int p1, .int p2, .int p3, .int p4] (some (.int r)) (gXn nf1) M1 := by
  refine gMetD_of pl_X10 rfl (Nat.le_of_ble_eq_true rfl) (fun w h => ⟨r, (Option.some.inj h).symm⟩) (fun Φ Z CR => ?_)
  show Φ 0 0 ad cA (gXn nf) M 0 [(0, .ref (gad 0 0)), (1, .int p1), (2, .int p2), (3, .int p3), (4, .int p4)] []
  have C := Z.C (cells := 0) (slots := 0) (Nat.zero_le _) (Nat.zero_le _) cA (gXn nf) (fun k _ => rfl) (some .int) (some (.int r)) M1
  refine r_aload_n (pc := 0) C dX10_move_0 rfl 0 rfl ?_
  refine r_bipush (pc := 1) C dX10_move_1 kb8 ?_
  refine r_iload_n (pc := 3) C dX10_move_3 rfl 1 rfl ?_
  refine r_iload_n (pc := 4) C dX10_move_4 rfl 2 rfl ?_
  refine r_iload_n (pc := 5) C dX10_move_5 rfl 3 rfl ?_
  refine r_iload (pc := 6) C dX10_move_6 4 rfl ?_
  refine r_ldc (pc := 8) C dX10_move_8 q871 ?_
  refine d_callV (pc := 10) Z [.int 8, .int p1, .int p2, .int p3, .int p4, .int (-1000000000)] [] dX10_move_10 (n_X10_act hr) (fun k _ => rfl) (fun w h => ⟨_, (Option.some.inj h).symm⟩) q958 q960 q19 q116 q961 hd_X10_act ⟨Nat.le_of_ble_eq_true rfl, Nat.le_of_ble_eq_true rfl⟩ ⟨by omega, by omega⟩ rfl (by decide) (e0 nf) rfl (Nat.le_of_ble_eq_true rfl) (List.forall_mem_cons.mpr ⟨gEv_r (e0 nf), (List.forall_mem_cons.mpr ⟨gEv_i _ _, (List.forall_mem_cons.mpr ⟨gEv_i _ _, (List.forall_mem_cons.mpr ⟨gEv_i _ _, (List.forall_mem_cons.mpr ⟨gEv_i _ _, (fun _ z => nomatch z)⟩)⟩)⟩)⟩)⟩) (fun _ z => nomatch z) (fun ad1 cA1 g1 => ?_)
  rw [Nat.zero_add, Nat.zero_add]
  exact r_iret (pc := 13) (CR ad1 cA1 g1) dX10_move_13 rfl rfl
theorem hd_X10_set : yX10_set.cls ≠ "java/lang/invoke/MethodHandle" ∧ yX10_set.cls ≠ "java/lang/invoke/VarHandle" ∧ (parseMethodDescriptor yX10_set.desc).map (fun d => d.parameters.length) = some 2 := by decide +kernel
noncomputable def X10_set_J17 (nf : Nat) (x2 : Int32) (xs0 : Int32) (M : gM) : Option (Int32 × Nat × gM) := X10_act nf xs0 x2 0 0 0 (-1) M
theorem t_X10_set_J17 {Φ : gF} {l : Launch} {D : va_G} {base : Nat} {mc ms : Nat} {mn : String} {ad : Nat → Nat} {cA : Nat → ClassId} {nf nf1 : Nat} {M : gM} {x2 : Int32} {xs0 : Int32} {r : Int32} {M1 : gM} (Z : gD Φ l D base ad cX10_set RX10 4 7 184 mc ms mn) (hmc : mc = 10 * (nf1 - nf)) (hms : ms = 1211 * (nf1 - nf)) (CR : ∀ ad' cA', gAgr (gXn nf) ad ad' → gR (Φ mc ms ad' cA' (gXn nf1)) cX10_set (some .int) (some (.int r)) M1) (hr : X10_set_J17 nf x2 xs0 M = some (r, nf1, M1)) : Φ 0 0 ad cA (gXn nf) M 17 [(0, .ref (gad 0 0)), (2, .int x2)] [.int xs0] := by
  have C := Z.C (cells := 0) (slots := 0) (Nat.zero_le _) (Nat.zero_le _) cA (gXn nf) (fun k _ => rfl) (some .int) (some (.int r)) M1
  refine r_istore_n (pc := 17) C dX10_set_17 rfl (by decide) rfl (ls' := [(3, .int xs0), (0, .ref (gad 0 0)), (2, .int x2)]) rfl ?_
  refine r_aload_n (pc := 18) C dX10_set_18 rfl 1 rfl ?_
  refine r_iload_n (pc := 19) C dX10_set_19 rfl 0 rfl ?_
  refine r_iload_n (pc := 20) C dX10_set_20 rfl 2 rfl ?_
  refine r_iconst (pc := 21) C dX10_set_21 ki0 ?_
  refine r_iconst (pc := 22) C dX10_set_22 ki0 ?_
  refine r_iconst (pc := 23) C dX10_set_23 ki0 ?_
  refine r_iconst (pc := 24) C dX10_set_24 kim1 ?_
  refine d_callV (pc := 25) Z [.int xs0, .int x2, .int 0, .int 0, .int 0, .int (-1)] [] dX10_set_25 (n_X10_act hr) (fun k _ => rfl) (fun w h => ⟨_, (Option.some.inj h).symm⟩) q958 q960 q19 q116 q961 hd_X10_act ⟨Nat.le_of_ble_eq_true rfl, Nat.le_of_ble_eq_true rfl⟩ ⟨by omega, by omega⟩ rfl (by decide) (e0 nf) rfl (Nat.le_of_ble_eq_true rfl) (List.forall_mem_cons.mpr ⟨gEv_i _ _, (List.forall_mem_cons.mpr ⟨gEv_r (e0 nf), (List.forall_mem_cons.mpr ⟨gEv_i _ _, (fun _ z => nomatch z)⟩)⟩)⟩) (fun _ z => nomatch z) (fun ad1 cA1 g1 => ?_)
  rw [Nat.zero_add, Nat.zero_add, ← hmc, ← hms]
  exact r_iret (pc := 28) (CR ad1 cA1 g1) dX10_set_28 rfl rfl
noncomputable def X10_set_J15 (nf : Nat) (x2 : Int32) (M : gM) : Option (Int32 × Nat × gM) := X10_set_J17 nf x2 9 M
theorem t_X10_set_J15 {Φ : gF} {l : Launch} {D : va_G} {base : Nat} {mc ms : Nat} {mn : String} {ad : Nat → Nat} {cA : Nat → ClassId} {nf nf1 : Nat} {M : gM} {x2 : Int32} {r : Int32} {M1 : gM} (Z : gD Φ l D base ad cX10_set RX10 4 7 184 mc ms mn) (hmc : mc = 10 * (nf1 - nf)) (hms : ms = 1211 * (nf1 - nf)) (CR : ∀ ad' cA', gAgr (gXn nf) ad ad' → gR (Φ mc ms ad' cA' (gXn nf1)) cX10_set (some .int) (some (.int r)) M1) (hr : X10_set_J15 nf x2 M = some (r, nf1, M1)) : Φ 0 0 ad cA (gXn nf) M 15 [(0, .ref (gad 0 0)), (2, .int x2)] [] := by
  have C := Z.C (cells := 0) (slots := 0) (Nat.zero_le _) (Nat.zero_le _) cA (gXn nf) (fun k _ => rfl) (some .int) (some (.int r)) M1
  refine r_bipush (pc := 15) C dX10_set_15 kb9 ?_
  exact t_X10_set_J17 Z hmc hms CR hr
noncomputable def X10_set (nf : Nat) (p1 : Int32) (p2 : Int32) (M : gM) : Option (Int32 × Nat × gM) := (if p1 < 0 then X10_set_J15 nf p2 M else (if 4 ≤ p1 then X10_set_J15 nf p2 M else X10_set_J17 nf p2 (4 + p1) M))
theorem n_X10_set {l : Launch} {D : va_G} {base : Nat} {ad : Nat → Nat} {cA : Nat → ClassId} {nf nf1 : Nat} {M : gM} {p1 : Int32} {p2 : Int32} {r : Int32} {M1 : gM} (hr : X10_set nf p1 p2 M = some (r, nf1, M1)) : gMetD l D base yX10_set cX10_set 4 (some .int) 7 184 (10 * (nf1 - nf)) (1211 * (nf1 - nf)) ad cA (gXn nf) M [.ref (gad 0 0), .int p1, .int p2] (some (.int r)) (gXn nf1) M1 := by
  refine gMetD_of pl_X10 rfl (Nat.le_of_ble_eq_true rfl) (fun w h => ⟨r, (Option.some.inj h).symm⟩) (fun Φ Z CR => ?_)
  show Φ 0 0 ad cA (gXn nf) M 0 [(0, .ref (gad 0 0)), (1, .int p1), (2, .int p2)] []
  have C := Z.C (cells := 0) (slots := 0) (Nat.zero_le _) (Nat.zero_le _) cA (gXn nf) (fun k _ => rfl) (some .int) (some (.int r)) M1
  refine r_iload_n (pc := 0) C dX10_set_0 rfl 1 rfl ?_
  refine r_if_lt (pc := 1) (tgt := 15) C dX10_set_1 rfl (fun c_1 => ?_) (fun c_1 => ?_)
  · replace hr := (if_pos c_1).symm.trans hr
    refine r_sub C [0, 2] (ls' := [(0, .ref (gad 0 0)), (2, .int p2)]) rfl ?_
    exact t_X10_set_J15 Z rfl rfl CR hr
  · replace hr := (if_neg c_1).symm.trans hr
    refine r_iload_n (pc := 4) C dX10_set_4 rfl 1 rfl ?_
    refine r_iconst (pc := 5) C dX10_set_5 ki4 ?_
    refine r_icmp_ge (pc := 6) (tgt := 15) C dX10_set_6 rfl (fun c_5 => ?_) (fun c_5 => ?_)
    · replace hr := (if_pos c_5).symm.trans hr
      refine r_sub C [0, 2] (ls' := [(0, .ref (gad 0 0)), (2, .int p2)]) rfl ?_
      exact t_X10_set_J15 Z rfl rfl CR hr
    · replace hr := (if_neg c_5).symm.trans hr
      refine r_iconst (pc := 9) C dX10_set_9 ki4 ?_
      refine r_iload_n (pc := 10) C dX10_set_10 rfl 1 rfl ?_
      refine r_iadd (pc := 11) C dX10_set_11 ?_
      refine r_goto (pc := 12) (tgt := 17) C dX10_set_12 rfl ?_
      refine r_sub C [0, 2] (ls' := [(0, .ref (gad 0 0)), (2, .int p2)]) rfl ?_
      exact t_X10_set_J17 Z rfl rfl CR hr
