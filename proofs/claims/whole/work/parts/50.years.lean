theorem gXn_le {nf nf1 : Nat} (h : nf ≤ nf1) : ∀ r i, (gXn nf).1 r i = true → (gXn nf1).1 r i = true := by
  intro r i hx
  have hi := gXn_iff.mp hx
  refine gXn_iff.mpr ?_
  unfold gCnt at hi ⊢
  split at hi
  · next hc => rw [if_pos hc]; omega
  · next hc => rw [if_neg hc]; exact hi
theorem hd_X10_years : yX10_years.cls ≠ "java/lang/invoke/MethodHandle" ∧ yX10_years.cls ≠ "java/lang/invoke/VarHandle" ∧ (parseMethodDescriptor yX10_years.desc).map (fun d => d.parameters.length) = some 2 := by decide +kernel
noncomputable def X10_years_L28 (x1 : Int32) (x4 : Int32) (nf : Nat) (M : gM) : Option ((Int32 × Nat × gM) ⊕ (Nat × gM)) := (if x1 ≤ x4 then some (.inr (nf, M)) else (X10_chooseAct M).bind (fun M_9 => (X9_refusal 0 (M_9.1 49 0 0) (M_9.1 49 0 1) (M_9.1 49 0 2) (M_9.1 49 0 3) (M_9.1 49 0 4) M_9).bind (fun r_11 => (if r_11 = (-1) then (X10_act nf (M_9.1 49 0 0) (M_9.1 49 0 1) (M_9.1 49 0 2) (M_9.1 49 0 3) (M_9.1 49 0 4) (-1) M_9).bind (gU2 (fun r_15 => gU2 (fun nf M_16 => gLet (x4 + 1) (fun x4_17 => some (.inl (x4_17, nf, M_16)))))) else gLet (x4 + 1) (fun x4_13 => some (.inl (x4_13, nf, M_9)))))))
theorem mo_X10_years_L28 {x : Int32} {s s' : Int32 × Nat × gM} (h : X10_years_L28 x s.1 s.2.1 s.2.2 = some (.inl s')) : s.2.1 ≤ s'.2.1 := by
  unfold X10_years_L28 at h
  split at h
  · cases h
  · obtain ⟨M_9, -, h⟩ := gBind_some h
    obtain ⟨r_11, -, h⟩ := gBind_some h
    split at h
    · obtain ⟨⟨r_15, nf2, M_16⟩, hc, h⟩ := gBind_some h
      replace h := gU2_some (gU2_some h)
      have e := Sum.inl.inj (Option.some.inj h)
      rw [← e]
      exact (mo_X10_act hc).1
    · have e := Sum.inl.inj (Option.some.inj h)
      rw [← e]
      exact Nat.le_refl _
theorem mx_X10_years_L28 {x : Int32} {s : Int32 × Nat × gM} {e : Nat × gM} (h : X10_years_L28 x s.1 s.2.1 s.2.2 = some (.inr e)) : s.2.1 ≤ (fun e : Nat × gM => e.1) e := by
  unfold X10_years_L28 at h
  split at h
  · have e := Sum.inr.inj (Option.some.inj h)
    rw [← e]
    exact Nat.le_refl _
  · obtain ⟨M_9, -, h⟩ := gBind_some h
    obtain ⟨r_11, -, h⟩ := gBind_some h
    split at h
    · obtain ⟨⟨r_15, nf2, M_16⟩, hc, h⟩ := gBind_some h
      replace h := gU2_some (gU2_some h)
      cases h
    · cases h
theorem t_X10_years_L28 {Φ : gF} {l : Launch} {D : va_G} {base : Nat} {mc ms : Nat} {mn : String} {ad0 ad : Nat → Nat} {cA : Nat → ClassId} {nf0 nf nfB : Nat} {M : gM} {x1 : Int32} {x4 : Int32} {w : ((Int32 × Nat × gM) ⊕ (Nat × gM))} (Z : gD Φ l D base ad0 cX10_years RX10 5 7 184 mc ms mn) (hmc : mc = 10 * (nfB - nf0)) (hms : ms = 1211 * (nfB - nf0)) (h0 : nf0 ≤ nf) (hB : nf ≤ nfB) (hag : gAgr (gXn nf0) ad0 ad) (hr : X10_years_L28 x1 x4 nf M = some w) (hn : ∀ s, w = .inl s → s.2.1 ≤ nfB ∧ (nf0 ≤ s.2.1 → ∀ ad cA, gAgr (gXn nf0) ad0 ad → Φ (10 * (s.2.1 - nf0)) (1211 * (s.2.1 - nf0)) ad cA (gXn s.2.1) s.2.2 28 [(0, .ref (gad 0 0)), (1, .int x1), (4, .int (s.1))] [])) (hx : ∀ e, w = .inr e → (fun e => ∀ ad cA, gAgr (gXn nf0) ad0 ad → Φ (10 * (e.1 - nf0)) (1211 * (e.1 - nf0)) ad cA (gXn e.1) e.2 125 [(0, .ref (gad 0 0))] []) e) : Φ (10 * (nf - nf0)) (1211 * (nf - nf0)) ad cA (gXn nf) M 28 [(0, .ref (gad 0 0)), (1, .int x1), (4, .int x4)] [] := by
  have C := Z.C (cells := 10 * (nf - nf0)) (slots := 1211 * (nf - nf0)) (by omega) (by omega) cA (gXn nf) (fun k hk => hag.str k hk) (some .int) none M
  refine r_iload (pc := 28) C dX10_years_28 2 rfl ?_
  refine r_iload_n (pc := 30) C dX10_years_30 rfl 1 rfl ?_
  refine r_icmp_ge (pc := 31) (tgt := 125) C dX10_years_31 rfl (fun c_7 => ?_) (fun c_7 => ?_)
  · replace hr := (if_pos c_7).symm.trans hr
    refine r_sub C [0] (ls' := [(0, .ref (gad 0 0))]) rfl ?_
    exact hx (nf, M) (gSome hr) ad cA hag
  · replace hr := (if_neg c_7).symm.trans hr
    refine r_aload_n (pc := 34) C dX10_years_34 rfl 0 rfl ?_
    obtain ⟨M_9, hc_8, hr⟩ := gBind_some hr
    refine c_X10_chooseAct (pc := 35) C dX10_years_35 q1098 ⟨Nat.le_of_ble_eq_true rfl, Nat.le_of_ble_eq_true rfl⟩ hc_8 (Nat.le_of_ble_eq_true rfl) ?_
    refine r_aload_n (pc := 38) C dX10_years_38 rfl 0 rfl ?_
    refine g0_5 (pc := 39) C dX10_years_39 q539 (e0 nf) ?_
    refine r_aload_n (pc := 42) C dX10_years_42 rfl 0 rfl ?_
    refine g0_7 (pc := 43) C dX10_years_43 q541 (e0 nf) ?_
    refine r_aload_n (pc := 46) C dX10_years_46 rfl 0 rfl ?_
    refine g0_12 (pc := 47) C dX10_years_47 q546 (e0 nf) ?_
    refine r_iconst (pc := 50) C dX10_years_50 ki0 ?_
    refine r_ialdN (pc := 51) C dX10_years_51 rfl (e49 nf) (by decide : gin 0 5 = true) kc0 ?_
    refine r_aload_n (pc := 52) C dX10_years_52 rfl 0 rfl ?_
    refine g0_12 (pc := 53) C dX10_years_53 q546 (e0 nf) ?_
    refine r_iconst (pc := 56) C dX10_years_56 ki1 ?_
    refine r_ialdN (pc := 57) C dX10_years_57 rfl (e49 nf) (by decide : gin 1 5 = true) kc1 ?_
    refine r_aload_n (pc := 58) C dX10_years_58 rfl 0 rfl ?_
    refine g0_12 (pc := 59) C dX10_years_59 q546 (e0 nf) ?_
    refine r_iconst (pc := 62) C dX10_years_62 ki2 ?_
    refine r_ialdN (pc := 63) C dX10_years_63 rfl (e49 nf) (by decide : gin 2 5 = true) kc2 ?_
    refine r_aload_n (pc := 64) C dX10_years_64 rfl 0 rfl ?_
    refine g0_12 (pc := 65) C dX10_years_65 q546 (e0 nf) ?_
    refine r_iconst (pc := 68) C dX10_years_68 ki3 ?_
    refine r_ialdN (pc := 69) C dX10_years_69 rfl (e49 nf) (by decide : gin 3 5 = true) kc3 ?_
    refine r_aload_n (pc := 70) C dX10_years_70 rfl 0 rfl ?_
    refine g0_12 (pc := 71) C dX10_years_71 q546 (e0 nf) ?_
    refine r_iconst (pc := 74) C dX10_years_74 ki4 ?_
    refine r_ialdN (pc := 75) C dX10_years_75 rfl (e49 nf) (by decide : gin 4 5 = true) kc4 ?_
    obtain ⟨r_11, hc_10, hr⟩ := gBind_some hr
    refine c_X9_refusal (pc := 76) C dX10_years_76 q962 ⟨Nat.le_of_ble_eq_true rfl, Nat.le_of_ble_eq_true rfl⟩ (gf0 nf) hc_10 (Nat.le_of_ble_eq_true rfl) ?_
    refine r_iconst (pc := 79) C dX10_years_79 kim1 ?_
    refine r_icmp_ne (pc := 80) (tgt := 119) C dX10_years_80 rfl (fun c_12 => ?_) (fun c_12 => ?_)
    · replace hr := (if_neg c_12).symm.trans hr
      obtain ⟨x4_13, ex4_13, hr⟩ := gLet_some hr
      refine r_iinc (pc := 119) C dX10_years_119 2 rfl rfl (by decide) ex4_13 (ls' := [(4, .int x4_13), (0, .ref (gad 0 0)), (1, .int x1)]) rfl ?_
      refine r_goto (pc := 122) (tgt := 28) C dX10_years_122 rfl ?_
      refine r_sub C [1, 2, 0] (ls' := [(0, .ref (gad 0 0)), (1, .int x1), (4, .int x4_13)]) rfl ?_
      exact (hn (x4_13, nf, M_9) (gSome hr)).2 h0 ad cA hag
    · replace hr := (if_pos c_12).symm.trans hr
      refine r_aload_n (pc := 83) C dX10_years_83 rfl 0 rfl ?_
      refine r_aload_n (pc := 84) C dX10_years_84 rfl 0 rfl ?_
      refine g0_12 (pc := 85) C dX10_years_85 q546 (e0 nf) ?_
      refine r_iconst (pc := 88) C dX10_years_88 ki0 ?_
      refine r_ialdN (pc := 89) C dX10_years_89 rfl (e49 nf) (by decide : gin 0 5 = true) kc0 ?_
      refine r_aload_n (pc := 90) C dX10_years_90 rfl 0 rfl ?_
      refine g0_12 (pc := 91) C dX10_years_91 q546 (e0 nf) ?_
      refine r_iconst (pc := 94) C dX10_years_94 ki1 ?_
      refine r_ialdN (pc := 95) C dX10_years_95 rfl (e49 nf) (by decide : gin 1 5 = true) kc1 ?_
      refine r_aload_n (pc := 96) C dX10_years_96 rfl 0 rfl ?_
      refine g0_12 (pc := 97) C dX10_years_97 q546 (e0 nf) ?_
      refine r_iconst (pc := 100) C dX10_years_100 ki2 ?_
      refine r_ialdN (pc := 101) C dX10_years_101 rfl (e49 nf) (by decide : gin 2 5 = true) kc2 ?_
      refine r_aload_n (pc := 102) C dX10_years_102 rfl 0 rfl ?_
      refine g0_12 (pc := 103) C dX10_years_103 q546 (e0 nf) ?_
      refine r_iconst (pc := 106) C dX10_years_106 ki3 ?_
      refine r_ialdN (pc := 107) C dX10_years_107 rfl (e49 nf) (by decide : gin 3 5 = true) kc3 ?_
      refine r_aload_n (pc := 108) C dX10_years_108 rfl 0 rfl ?_
      refine g0_12 (pc := 109) C dX10_years_109 q546 (e0 nf) ?_
      refine r_iconst (pc := 112) C dX10_years_112 ki4 ?_
      refine r_ialdN (pc := 113) C dX10_years_113 rfl (e49 nf) (by decide : gin 4 5 = true) kc4 ?_
      refine r_iconst (pc := 114) C dX10_years_114 kim1 ?_
      obtain ⟨⟨r_15, nf2, M_16⟩, hc_14, hr⟩ := gBind_some hr
      replace hr := gU2_some hr
      replace hr := gU2_some hr
      have hmo := mo_X10_act hc_14
      have hle : nf2 ≤ nfB := (hn _ (gSome hr)).1
      refine d_callV (pc := 115) Z [.int (M_9.1 49 0 0), .int (M_9.1 49 0 1), .int (M_9.1 49 0 2), .int (M_9.1 49 0 3), .int (M_9.1 49 0 4), .int (-1)] [] dX10_years_115 (n_X10_act hc_14) (fun k hk => hag.str k hk) (fun w h => ⟨_, (Option.some.inj h).symm⟩) q958 q960 q19 q116 q961 hd_X10_act ⟨Nat.le_of_ble_eq_true rfl, Nat.le_of_ble_eq_true rfl⟩ ⟨by omega, by omega⟩ rfl (by decide) (e0 nf) rfl (Nat.le_of_ble_eq_true rfl) (List.forall_mem_cons.mpr ⟨gEv_r (e0 nf), (List.forall_mem_cons.mpr ⟨gEv_i _ _, (List.forall_mem_cons.mpr ⟨gEv_i _ _, (fun _ z => nomatch z)⟩)⟩)⟩) (fun _ z => nomatch z) (fun ad1 cA1 g1 => ?_)
      rw [show 10 * (nf - nf0) + 10 * (nf2 - nf) = 10 * (nf2 - nf0) by omega, show 1211 * (nf - nf0) + 1211 * (nf2 - nf) = 1211 * (nf2 - nf0) by omega]
      have hag1 : gAgr (gXn nf0) ad0 ad1 := hag.trans g1 (gXn_le h0)
      have C := Z.C (cells := 10 * (nf2 - nf0)) (slots := 1211 * (nf2 - nf0)) (by omega) (by omega) cA1 (gXn nf2) (fun k hk => hag1.str k hk) (some .int) none M
      refine r_pop (pc := 118) C dX10_years_118 rfl ?_
      obtain ⟨x4_17, ex4_17, hr⟩ := gLet_some hr
      refine r_iinc (pc := 119) C dX10_years_119 2 rfl rfl (by decide) ex4_17 (ls' := [(4, .int x4_17), (0, .ref (gad 0 0)), (1, .int x1)]) rfl ?_
      refine r_goto (pc := 122) (tgt := 28) C dX10_years_122 rfl ?_
      refine r_sub C [1, 2, 0] (ls' := [(0, .ref (gad 0 0)), (1, .int x1), (4, .int x4_17)]) rfl ?_
      exact (hn (x4_17, nf2, M_16) (gSome hr)).2 (by show nf0 ≤ nf2; omega) ad1 cA1 hag1
noncomputable def X10_years (nf : Nat) (p1 : Int32) (p2 : Int64) (M : gM) : Option (Int32 × Nat × gM) := (X10_hasScene M).bind (fun r_2 => (if r_2 = 0 then some ((-1), nf, M) else (if p1 < 1 then some ((-1), nf, M) else (if p1 ≤ 40 then gLet (wL M 0 0 15 p2) (fun M_6 => (gIter (fun s => X10_years_L28 p1 s.1 s.2.1 s.2.2) FU (0, nf, M_6)).bind (gU2 (fun nf M_18 => (X0_pairs 0 M_18).bind (fun r_20 => some (r_20, nf, M_18))))) else some ((-1), nf, M)))))
theorem n_X10_years {l : Launch} {D : va_G} {base : Nat} {ad : Nat → Nat} {cA : Nat → ClassId} {nf nf1 : Nat} {M : gM} {p1 : Int32} {p2 : Int64} {r : Int32} {M1 : gM} (hr : X10_years nf p1 p2 M = some (r, nf1, M1)) : gMetD l D base yX10_years cX10_years 5 (some .int) 7 184 (10 * (nf1 - nf)) (1211 * (nf1 - nf)) ad cA (gXn nf) M [.ref (gad 0 0), .int p1, .long p2] (some (.int r)) (gXn nf1) M1 := by
  refine gMetD_of pl_X10 rfl (Nat.le_of_ble_eq_true rfl) (fun w h => ⟨r, (Option.some.inj h).symm⟩) (fun Φ Z CR => ?_)
  show Φ 0 0 ad cA (gXn nf) M 0 [(0, .ref (gad 0 0)), (1, .int p1), (2, .long p2)] []
  have C := Z.C (cells := 0) (slots := 0) (Nat.zero_le _) (Nat.zero_le _) cA (gXn nf) (fun k _ => rfl) (some .int) (some (.int r)) M1
  refine r_aload_n (pc := 0) C dX10_years_0 rfl 0 rfl ?_
  obtain ⟨r_2, hc_1, hr⟩ := gBind_some hr
  refine c_X10_hasScene (pc := 1) C dX10_years_1 q859 ⟨Nat.le_of_ble_eq_true rfl, Nat.le_of_ble_eq_true rfl⟩ hc_1 (Nat.le_of_ble_eq_true rfl) ?_
  refine r_if_eq (pc := 4) (tgt := 18) C dX10_years_4 rfl (fun c_3 => ?_) (fun c_3 => ?_)
  · replace hr := (if_pos c_3).symm.trans hr
    refine r_iconst (pc := 18) C dX10_years_18 kim1 ?_
    obtain ⟨e1, e2, e3⟩ := (show r = -1 ∧ nf1 = nf ∧ M1 = M from ⟨congrArg (fun z => z.1) (gSome hr), congrArg (fun z => z.2.1) (gSome hr), congrArg (fun z => z.2.2) (gSome hr)⟩)
    have CR := CR ad cA gAgr.rf
    rw [e1, e2, e3, Nat.sub_self] at CR
    exact r_iret (pc := 19) CR dX10_years_19 rfl rfl
  · replace hr := (if_neg c_3).symm.trans hr
    refine r_iload_n (pc := 7) C dX10_years_7 rfl 1 rfl ?_
    refine r_iconst (pc := 8) C dX10_years_8 ki1 ?_
    refine r_icmp_lt (pc := 9) (tgt := 18) C dX10_years_9 rfl (fun c_4 => ?_) (fun c_4 => ?_)
    · replace hr := (if_pos c_4).symm.trans hr
      refine r_iconst (pc := 18) C dX10_years_18 kim1 ?_
      obtain ⟨e1, e2, e3⟩ := (show r = -1 ∧ nf1 = nf ∧ M1 = M from ⟨congrArg (fun z => z.1) (gSome hr), congrArg (fun z => z.2.1) (gSome hr), congrArg (fun z => z.2.2) (gSome hr)⟩)
      have CR := CR ad cA gAgr.rf
      rw [e1, e2, e3, Nat.sub_self] at CR
      exact r_iret (pc := 19) CR dX10_years_19 rfl rfl
    · replace hr := (if_neg c_4).symm.trans hr
      refine r_iload_n (pc := 12) C dX10_years_12 rfl 1 rfl ?_
      refine r_bipush (pc := 13) C dX10_years_13 kb40 ?_
      refine r_icmp_le (pc := 15) (tgt := 20) C dX10_years_15 rfl (fun c_5 => ?_) (fun c_5 => ?_)
      · replace hr := (if_pos c_5).symm.trans hr
        refine r_aload_n (pc := 20) C dX10_years_20 rfl 0 rfl ?_
        refine r_lload_n (pc := 21) C dX10_years_21 rfl 2 rfl ?_
        obtain ⟨M_6, eM_6, hr⟩ := gLet_some hr
        refine p0_15 (pc := 22) C dX10_years_22 q549 (e0 nf) eM_6 ?_
        refine r_iconst (pc := 25) C dX10_years_25 ki0 ?_
        refine r_istore (pc := 26) C dX10_years_26 (by decide) rfl (ls' := [(4, .int 0), (0, .ref (gad 0 0)), (1, .int p1), (2, .long p2)]) rfl ?_
        refine r_sub C [1, 2, 0] (ls' := [(0, .ref (gad 0 0)), (1, .int p1), (4, .int 0)]) rfl ?_
        obtain ⟨ev, hit, hr⟩ := gBind_some hr
        have hnB : (fun e : Nat × gM => e.1) ev ≤ nf1 := by
          obtain ⟨nf2, M_18⟩ := ev
          replace hr := gU2_some hr
          obtain ⟨r_20, -, hr⟩ := gBind_some hr
          exact Nat.le_of_eq (congrArg (fun z => z.2.1) (gSome hr)).symm
        have hlo : nf ≤ (fun e : Nat × gM => e.1) ev := gIter_mono (f := fun s => s.2.1) (g := fun e : Nat × gM => e.1) (fun s s' h => mo_X10_years_L28 h) (fun s e h => mx_X10_years_L28 h) FU _ ev hit
        suffices hs : Φ (10 * (nf - nf)) (1211 * (nf - nf)) ad cA (gXn nf) M_6 28 [(0, .ref (gad 0 0)), (1, .int p1), (4, .int 0)] [] by
          rw [Nat.sub_self] at hs
          exact hs
        refine gIter_VB (step := fun s => X10_years_L28 p1 s.1 s.2.1 s.2.2) (P := fun s => nf ≤ s.2.1 → s.2.1 ≤ nf1 → ∀ ad1 cA1, gAgr (gXn nf) ad ad1 → Φ (10 * (s.2.1 - nf)) (1211 * (s.2.1 - nf)) ad1 cA1 (gXn s.2.1) s.2.2 28 [(0, .ref (gad 0 0)), (1, .int p1), (4, .int (s.1))] []) (K := (fun e => ∀ ad1 cA1, gAgr (gXn nf) ad ad1 → Φ (10 * (e.1 - nf)) (1211 * (e.1 - nf)) ad1 cA1 (gXn e.1) e.2 125 [(0, .ref (gad 0 0))] [])) (f := fun s => s.2.1) (g := fun e : Nat × gM => e.1) (B := nf1) (fun s s' h => mo_X10_years_L28 h) (fun s e h => mx_X10_years_L28 h) (fun s w hs hn hx h0 hB ad1 cA1 hag => t_X10_years_L28 Z rfl rfl h0 hB hag hs (fun s' e => ⟨(hn s' e).1, fun h => (hn s' e).2 h (hn s' e).1⟩) hx) FU (0, nf, M_6) ev hit hnB ?_ (Nat.le_refl _) (Nat.le_trans hlo hnB) ad cA gAgr.rf
        obtain ⟨nf2, M_18⟩ := ev
        replace hr := gU2_some hr
        obtain ⟨r_20, hc_19, hr⟩ := gBind_some hr
        have e1 : r = r_20 := congrArg (fun z => z.1) (gSome hr)
        have e2 : nf1 = nf2 := congrArg (fun z => z.2.1) (gSome hr)
        have e3 : M1 = M_18 := congrArg (fun z => z.2.2) (gSome hr)
        intro ad1 cA1 hag
        have CR := CR ad1 cA1 hag
        rw [e1, e2, e3] at CR
        show Φ (10 * (nf2 - nf)) (1211 * (nf2 - nf)) ad1 cA1 (gXn nf2) M_18 125 [(0, .ref (gad 0 0))] []
        have C := Z.C (cells := 10 * (nf2 - nf)) (slots := 1211 * (nf2 - nf)) (by rw [e2]; exact Nat.le_refl _) (by rw [e2]; exact Nat.le_refl _) cA1 (gXn nf2) (fun k hk => hag.str k hk) (some .int) none M
        refine r_aload_n (pc := 125) C dX10_years_125 rfl 0 rfl ?_
        refine g0_7 (pc := 126) C dX10_years_126 q541 (e0 nf2) ?_
        refine c_X0_pairs (pc := 129) C dX10_years_129 q1108 ⟨Nat.le_of_ble_eq_true rfl, Nat.le_of_ble_eq_true rfl⟩ (gf0 nf2) hc_19 (Nat.le_of_ble_eq_true rfl) ?_
        exact r_iret (pc := 132) CR dX10_years_132 rfl rfl
      · replace hr := (if_neg c_5).symm.trans hr
        refine r_iconst (pc := 18) C dX10_years_18 kim1 ?_
        obtain ⟨e1, e2, e3⟩ := (show r = -1 ∧ nf1 = nf ∧ M1 = M from ⟨congrArg (fun z => z.1) (gSome hr), congrArg (fun z => z.2.1) (gSome hr), congrArg (fun z => z.2.2) (gSome hr)⟩)
        have CR := CR ad cA gAgr.rf
        rw [e1, e2, e3, Nat.sub_self] at CR
        exact r_iret (pc := 19) CR dX10_years_19 rfl rfl
theorem hd_X10_perform : yX10_perform.cls ≠ "java/lang/invoke/MethodHandle" ∧ yX10_perform.cls ≠ "java/lang/invoke/VarHandle" ∧ (parseMethodDescriptor yX10_perform.desc).map (fun d => d.parameters.length) = some 1 := by decide +kernel
noncomputable def X10_perform_L26 (i2 : Nat) (x3 : Int32) (nf : Nat) (M : gM) : Option ((Int32 × Nat × gM) ⊕ ((Int32 × Nat × gM) ⊕ (Int32 × Nat × gM))) := (if (M.1 46 i2 1) ≤ x3 then some (.inr (.inr (x3, nf, M))) else (X5_kindOf i2 x3 M).bind (fun r_10 => (X5_number i2 x3 1 M).bind (fun r_12 => (X5_number i2 x3 2 M).bind (fun r_14 => (X5_number i2 x3 3 M).bind (fun r_16 => (X5_number i2 x3 4 M).bind (fun r_18 => (X9_refusal 0 r_10 r_12 r_14 r_16 r_18 M).bind (fun r_20 => (if r_20 = (-1) then (X10_act nf r_10 r_12 r_14 r_16 r_18 (-1) M).bind (gU2 (fun r_23 => gU2 (fun nf M_24 => gLet (x3 + 1) (fun x3_25 => some (.inl (x3_25, nf, M_24)))))) else some (.inr (.inl (x3, nf, M)))))))))))
theorem mo_X10_perform_L26 {x : Nat} {s s' : Int32 × Nat × gM} (h : X10_perform_L26 x s.1 s.2.1 s.2.2 = some (.inl s')) : s.2.1 ≤ s'.2.1 := by
  unfold X10_perform_L26 at h
  split at h
  · cases h
  · obtain ⟨r_10, -, h⟩ := gBind_some h
    obtain ⟨r_12, -, h⟩ := gBind_some h
    obtain ⟨r_14, -, h⟩ := gBind_some h
    obtain ⟨r_16, -, h⟩ := gBind_some h
    obtain ⟨r_18, -, h⟩ := gBind_some h
    obtain ⟨r_20, -, h⟩ := gBind_some h
    split at h
    · obtain ⟨⟨r_23, nf2, M_24⟩, hc, h⟩ := gBind_some h
      replace h := gU2_some (gU2_some h)
      have e := Sum.inl.inj (Option.some.inj h)
      rw [← e]
      exact (mo_X10_act hc).1
    · cases h
theorem mx_X10_perform_L26 {x : Nat} {s : Int32 × Nat × gM} {e : (Int32 × Nat × gM) ⊕ (Int32 × Nat × gM)} (h : X10_perform_L26 x s.1 s.2.1 s.2.2 = some (.inr e)) : s.2.1 ≤ (fun e : (Int32 × Nat × gM) ⊕ (Int32 × Nat × gM) => Sum.elim (fun q => q.2.1) (fun q => q.2.1) e) e := by
  unfold X10_perform_L26 at h
  split at h
  · have e := Sum.inr.inj (Option.some.inj h)
    rw [← e]
    exact Nat.le_refl _
  · obtain ⟨r_10, -, h⟩ := gBind_some h
    obtain ⟨r_12, -, h⟩ := gBind_some h
    obtain ⟨r_14, -, h⟩ := gBind_some h
    obtain ⟨r_16, -, h⟩ := gBind_some h
    obtain ⟨r_18, -, h⟩ := gBind_some h
    obtain ⟨r_20, -, h⟩ := gBind_some h
    split at h
    · obtain ⟨⟨r_23, nf2, M_24⟩, hc, h⟩ := gBind_some h
      replace h := gU2_some (gU2_some h)
      cases h
    · have e := Sum.inr.inj (Option.some.inj h)
      rw [← e]
      exact Nat.le_refl _
theorem t_X10_perform_L26 {Φ : gF} {l : Launch} {D : va_G} {base : Nat} {mc ms : Nat} {mn : String} {ad0 ad : Nat → Nat} {cA : Nat → ClassId} {nf0 nf nfB : Nat} {M : gM} {i2 : Nat} {x3 : Int32} {w : ((Int32 × Nat × gM) ⊕ ((Int32 × Nat × gM) ⊕ (Int32 × Nat × gM)))} (Z : gD Φ l D base ad0 cX10_perform RX10 9 7 184 mc ms mn) (hmc : mc = 10 * (nfB - nf0)) (hms : ms = 1211 * (nfB - nf0)) (h0 : nf0 ≤ nf) (hB : nf ≤ nfB) (hag : gAgr (gXn nf0) ad0 ad) (h2 : i2 < 5) (hr : X10_perform_L26 i2 x3 nf M = some w) (hn : ∀ s, w = .inl s → s.2.1 ≤ nfB ∧ (nf0 ≤ s.2.1 → ∀ ad cA, gAgr (gXn nf0) ad0 ad → Φ (10 * (s.2.1 - nf0)) (1211 * (s.2.1 - nf0)) ad cA (gXn s.2.1) s.2.2 26 [(0, .ref (gad 0 0)), (2, .ref (gad 46 i2)), (3, .int (s.1))] [])) (hx : ∀ e, w = .inr e → (gSP (fun e => ∀ ad cA, gAgr (gXn nf0) ad0 ad → Φ (10 * (e.2.1 - nf0)) (1211 * (e.2.1 - nf0)) ad cA (gXn e.2.1) e.2.2 98 [(3, .int (e.1))] []) (fun e => ∀ ad cA, gAgr (gXn nf0) ad0 ad → Φ (10 * (e.2.1 - nf0)) (1211 * (e.2.1 - nf0)) ad cA (gXn e.2.1) e.2.2 123 [(3, .int (e.1))] [])) e) : Φ (10 * (nf - nf0)) (1211 * (nf - nf0)) ad cA (gXn nf) M 26 [(0, .ref (gad 0 0)), (2, .ref (gad 46 i2)), (3, .int x3)] [] := by
  have C := Z.C (cells := 10 * (nf - nf0)) (slots := 1211 * (nf - nf0)) (by omega) (by omega) cA (gXn nf) (fun k hk => hag.str k hk) (some .int) none M
  refine r_iload_n (pc := 26) C dX10_perform_26 rfl 2 rfl ?_
  refine r_aload_n (pc := 27) C dX10_perform_27 rfl 1 rfl ?_
  refine g46_1 (pc := 28) C dX10_perform_28 q528 (e46 (nf := nf) h2) ?_
  refine r_icmp_ge (pc := 31) (tgt := 123) C dX10_perform_31 rfl (fun c_8 => ?_) (fun c_8 => ?_)
  · replace hr := (if_pos c_8).symm.trans hr
    refine r_sub C [2] (ls' := [(3, .int x3)]) rfl ?_
    exact hx (.inr (x3, nf, M)) (gSome hr) ad cA hag
  · replace hr := (if_neg c_8).symm.trans hr
    refine r_aload_n (pc := 34) C dX10_perform_34 rfl 1 rfl ?_
    refine r_iload_n (pc := 35) C dX10_perform_35 rfl 2 rfl ?_
    obtain ⟨r_10, hc_9, hr⟩ := gBind_some hr
    refine c_X5_kindOf (pc := 36) C dX10_perform_36 q1142 ⟨Nat.le_of_ble_eq_true rfl, Nat.le_of_ble_eq_true rfl⟩ h2 hc_9 (Nat.le_of_ble_eq_true rfl) ?_
    refine r_istore (pc := 39) C dX10_perform_39 (by decide) rfl (ls' := [(4, .int r_10), (0, .ref (gad 0 0)), (2, .ref (gad 46 i2)), (3, .int x3)]) rfl ?_
    refine r_aload_n (pc := 41) C dX10_perform_41 rfl 2 rfl ?_
    refine r_iload_n (pc := 42) C dX10_perform_42 rfl 3 rfl ?_
    refine r_iconst (pc := 43) C dX10_perform_43 ki1 ?_
    obtain ⟨r_12, hc_11, hr⟩ := gBind_some hr
    refine c_X5_number (pc := 44) C dX10_perform_44 q1169 ⟨Nat.le_of_ble_eq_true rfl, Nat.le_of_ble_eq_true rfl⟩ h2 hc_11 (Nat.le_of_ble_eq_true rfl) ?_
    refine r_istore (pc := 47) C dX10_perform_47 (by decide) rfl (ls' := [(5, .int r_12), (4, .int r_10), (0, .ref (gad 0 0)), (2, .ref (gad 46 i2)), (3, .int x3)]) rfl ?_
    refine r_aload_n (pc := 49) C dX10_perform_49 rfl 3 rfl ?_
    refine r_iload_n (pc := 50) C dX10_perform_50 rfl 4 rfl ?_
    refine r_iconst (pc := 51) C dX10_perform_51 ki2 ?_
    obtain ⟨r_14, hc_13, hr⟩ := gBind_some hr
    refine c_X5_number (pc := 52) C dX10_perform_52 q1169 ⟨Nat.le_of_ble_eq_true rfl, Nat.le_of_ble_eq_true rfl⟩ h2 hc_13 (Nat.le_of_ble_eq_true rfl) ?_
    refine r_istore (pc := 55) C dX10_perform_55 (by decide) rfl (ls' := [(6, .int r_14), (5, .int r_12), (4, .int r_10), (0, .ref (gad 0 0)), (2, .ref (gad 46 i2)), (3, .int x3)]) rfl ?_
    refine r_aload_n (pc := 57) C dX10_perform_57 rfl 4 rfl ?_
    refine r_iload_n (pc := 58) C dX10_perform_58 rfl 5 rfl ?_
    refine r_iconst (pc := 59) C dX10_perform_59 ki3 ?_
    obtain ⟨r_16, hc_15, hr⟩ := gBind_some hr
    refine c_X5_number (pc := 60) C dX10_perform_60 q1169 ⟨Nat.le_of_ble_eq_true rfl, Nat.le_of_ble_eq_true rfl⟩ h2 hc_15 (Nat.le_of_ble_eq_true rfl) ?_
    refine r_istore (pc := 63) C dX10_perform_63 (by decide) rfl (ls' := [(7, .int r_16), (6, .int r_14), (5, .int r_12), (4, .int r_10), (0, .ref (gad 0 0)), (2, .ref (gad 46 i2)), (3, .int x3)]) rfl ?_
    refine r_aload_n (pc := 65) C dX10_perform_65 rfl 5 rfl ?_
    refine r_iload_n (pc := 66) C dX10_perform_66 rfl 6 rfl ?_
    refine r_iconst (pc := 67) C dX10_perform_67 ki4 ?_
    obtain ⟨r_18, hc_17, hr⟩ := gBind_some hr
    refine c_X5_number (pc := 68) C dX10_perform_68 q1169 ⟨Nat.le_of_ble_eq_true rfl, Nat.le_of_ble_eq_true rfl⟩ h2 hc_17 (Nat.le_of_ble_eq_true rfl) ?_
    refine r_istore (pc := 71) C dX10_perform_71 (by decide) rfl (ls' := [(8, .int r_18), (7, .int r_16), (6, .int r_14), (5, .int r_12), (4, .int r_10), (0, .ref (gad 0 0)), (2, .ref (gad 46 i2)), (3, .int x3)]) rfl ?_
    refine r_aload_n (pc := 73) C dX10_perform_73 rfl 5 rfl ?_
    refine g0_5 (pc := 74) C dX10_perform_74 q539 (e0 nf) ?_
    refine r_aload_n (pc := 77) C dX10_perform_77 rfl 5 rfl ?_
    refine g0_7 (pc := 78) C dX10_perform_78 q541 (e0 nf) ?_
    refine r_iload (pc := 81) C dX10_perform_81 4 rfl ?_
    refine r_iload (pc := 83) C dX10_perform_83 3 rfl ?_
    refine r_iload (pc := 85) C dX10_perform_85 2 rfl ?_
    refine r_iload (pc := 87) C dX10_perform_87 1 rfl ?_
    refine r_iload (pc := 89) C dX10_perform_89 0 rfl ?_
    obtain ⟨r_20, hc_19, hr⟩ := gBind_some hr
    refine c_X9_refusal (pc := 91) C dX10_perform_91 q962 ⟨Nat.le_of_ble_eq_true rfl, Nat.le_of_ble_eq_true rfl⟩ (gf0 nf) hc_19 (Nat.le_of_ble_eq_true rfl) ?_
    refine r_iconst (pc := 94) C dX10_perform_94 kim1 ?_
    refine r_icmp_eq (pc := 95) (tgt := 101) C dX10_perform_95 rfl (fun c_21 => ?_) (fun c_21 => ?_)
    · replace hr := (if_pos c_21).symm.trans hr
      refine r_aload_n (pc := 101) C dX10_perform_101 rfl 5 rfl ?_
      refine r_iload (pc := 102) C dX10_perform_102 4 rfl ?_
      refine r_iload (pc := 104) C dX10_perform_104 3 rfl ?_
      refine r_iload (pc := 106) C dX10_perform_106 2 rfl ?_
      refine r_iload (pc := 108) C dX10_perform_108 1 rfl ?_
      refine r_iload (pc := 110) C dX10_perform_110 0 rfl ?_
      refine r_iconst (pc := 112) C dX10_perform_112 kim1 ?_
      obtain ⟨⟨r_23, nf2, M_24⟩, hc_22, hr⟩ := gBind_some hr
      replace hr := gU2_some hr
      replace hr := gU2_some hr
      have hmo := mo_X10_act hc_22
      have hle : nf2 ≤ nfB := (hn _ (gSome hr)).1
      refine d_callV (pc := 113) Z [.int r_10, .int r_12, .int r_14, .int r_16, .int r_18, .int (-1)] [] dX10_perform_113 (n_X10_act hc_22) (fun k hk => hag.str k hk) (fun w h => ⟨_, (Option.some.inj h).symm⟩) q958 q960 q19 q116 q961 hd_X10_act ⟨Nat.le_of_ble_eq_true rfl, Nat.le_of_ble_eq_true rfl⟩ ⟨by omega, by omega⟩ rfl (by decide) (e0 nf) rfl (Nat.le_of_ble_eq_true rfl) (List.forall_mem_cons.mpr ⟨gEv_i _ _, (List.forall_mem_cons.mpr ⟨gEv_i _ _, (List.forall_mem_cons.mpr ⟨gEv_i _ _, (List.forall_mem_cons.mpr ⟨gEv_i _ _, (List.forall_mem_cons.mpr ⟨gEv_i _ _, (List.forall_mem_cons.mpr ⟨gEv_r (e0 nf), (List.forall_mem_cons.mpr ⟨gEv_r (e46 h2), (List.forall_mem_cons.mpr ⟨gEv_i _ _, (fun _ z => nomatch z)⟩)⟩)⟩)⟩)⟩)⟩)⟩)⟩) (fun _ z => nomatch z) (fun ad1 cA1 g1 => ?_)
      rw [show 10 * (nf - nf0) + 10 * (nf2 - nf) = 10 * (nf2 - nf0) by omega, show 1211 * (nf - nf0) + 1211 * (nf2 - nf) = 1211 * (nf2 - nf0) by omega]
      have hag1 : gAgr (gXn nf0) ad0 ad1 := hag.trans g1 (gXn_le h0)
      have C := Z.C (cells := 10 * (nf2 - nf0)) (slots := 1211 * (nf2 - nf0)) (by omega) (by omega) cA1 (gXn nf2) (fun k hk => hag1.str k hk) (some .int) none M
      refine r_pop (pc := 116) C dX10_perform_116 rfl ?_
      obtain ⟨x3_25, ex3_25, hr⟩ := gLet_some hr
      refine r_iinc (pc := 117) C dX10_perform_117 7 rfl rfl (by decide) ex3_25 (ls' := [(3, .int x3_25), (8, .int r_18), (7, .int r_16), (6, .int r_14), (5, .int r_12), (4, .int r_10), (0, .ref (gad 0 0)), (2, .ref (gad 46 i2))]) rfl ?_
      refine r_goto (pc := 120) (tgt := 26) C dX10_perform_120 rfl ?_
      refine r_sub C [6, 7, 0] (ls' := [(0, .ref (gad 0 0)), (2, .ref (gad 46 i2)), (3, .int x3_25)]) rfl ?_
      exact (hn (x3_25, nf2, M_24) (gSome hr)).2 (by show nf0 ≤ nf2; omega) ad1 cA1 hag1
    · replace hr := (if_neg c_21).symm.trans hr
      refine r_sub C [7] (ls' := [(3, .int x3)]) rfl ?_
      exact hx (.inl (x3, nf, M)) (gSome hr) ad cA hag
noncomputable def X10_perform (nf : Nat) (p1 : Int32) (M : gM) : Option (Int32 × Nat × gM) := (X10_hasScene M).bind (fun r_2 => (if r_2 = 0 then some ((-1), nf, M) else (X10_hasScript p1 M).bind (fun r_5 => (if r_5 = 0 then some ((-1), nf, M) else gG (gin p1 5) ((gIter (fun s => X10_perform_L26 (Int32.toNatClampNeg p1) s.1 s.2.1 s.2.2) FU (0, nf, M)).bind (gS2 (fun q => some q) (fun q => some q)))))))
theorem n_X10_perform {l : Launch} {D : va_G} {base : Nat} {ad : Nat → Nat} {cA : Nat → ClassId} {nf nf1 : Nat} {M : gM} {p1 : Int32} {r : Int32} {M1 : gM} (hr : X10_perform nf p1 M = some (r, nf1, M1)) : gMetD l D base yX10_perform cX10_perform 9 (some .int) 7 184 (10 * (nf1 - nf)) (1211 * (nf1 - nf)) ad cA (gXn nf) M [.ref (gad 0 0), .int p1] (some (.int r)) (gXn nf1) M1 := by
  refine gMetD_of pl_X10 rfl (Nat.le_of_ble_eq_true rfl) (fun w h => ⟨r, (Option.some.inj h).symm⟩) (fun Φ Z CR => ?_)
  show Φ 0 0 ad cA (gXn nf) M 0 [(0, .ref (gad 0 0)), (1, .int p1)] []
  have C := Z.C (cells := 0) (slots := 0) (Nat.zero_le _) (Nat.zero_le _) cA (gXn nf) (fun k _ => rfl) (some .int) (some (.int r)) M1
  refine r_aload_n (pc := 0) C dX10_perform_0 rfl 0 rfl ?_
  obtain ⟨r_2, hc_1, hr⟩ := gBind_some hr
  refine c_X10_hasScene (pc := 1) C dX10_perform_1 q859 ⟨Nat.le_of_ble_eq_true rfl, Nat.le_of_ble_eq_true rfl⟩ hc_1 (Nat.le_of_ble_eq_true rfl) ?_
  refine r_if_eq (pc := 4) (tgt := 15) C dX10_perform_4 rfl (fun c_3 => ?_) (fun c_3 => ?_)
  · replace hr := (if_pos c_3).symm.trans hr
    refine r_iconst (pc := 15) C dX10_perform_15 kim1 ?_
    obtain ⟨e1, e2, e3⟩ := (show r = -1 ∧ nf1 = nf ∧ M1 = M from ⟨congrArg (fun z => z.1) (gSome hr), congrArg (fun z => z.2.1) (gSome hr), congrArg (fun z => z.2.2) (gSome hr)⟩)
    have CR := CR ad cA gAgr.rf
    rw [e1, e2, e3, Nat.sub_self] at CR
    exact r_iret (pc := 16) CR dX10_perform_16 rfl rfl
  · replace hr := (if_neg c_3).symm.trans hr
    refine r_aload_n (pc := 7) C dX10_perform_7 rfl 0 rfl ?_
    refine r_iload_n (pc := 8) C dX10_perform_8 rfl 1 rfl ?_
    obtain ⟨r_5, hc_4, hr⟩ := gBind_some hr
    refine c_X10_hasScript (pc := 9) C dX10_perform_9 q1138 ⟨Nat.le_of_ble_eq_true rfl, Nat.le_of_ble_eq_true rfl⟩ hc_4 (Nat.le_of_ble_eq_true rfl) ?_
    refine r_if_ne (pc := 12) (tgt := 17) C dX10_perform_12 rfl (fun c_6 => ?_) (fun c_6 => ?_)
    · replace hr := (if_neg c_6).symm.trans hr
      refine r_aload_n (pc := 17) C dX10_perform_17 rfl 0 rfl ?_
      refine g0_10 (pc := 18) C dX10_perform_18 q544 (e0 nf) ?_
      refine r_iload_n (pc := 21) C dX10_perform_21 rfl 1 rfl ?_
      obtain ⟨g_7, hr⟩ := gG_some hr
      refine a45 (pc := 22) C dX10_perform_22 g_7 ?_
      refine r_astore_n (pc := 23) C dX10_perform_23 rfl (by decide) rfl (ls' := [(2, .ref (gad 46 (Int32.toNatClampNeg p1))), (0, .ref (gad 0 0)), (1, .int p1)]) rfl ?_
      refine r_iconst (pc := 24) C dX10_perform_24 ki0 ?_
      refine r_istore_n (pc := 25) C dX10_perform_25 rfl (by decide) rfl (ls' := [(3, .int 0), (2, .ref (gad 46 (Int32.toNatClampNeg p1))), (0, .ref (gad 0 0)), (1, .int p1)]) rfl ?_
      refine r_sub C [2, 1, 0] (ls' := [(0, .ref (gad 0 0)), (2, .ref (gad 46 (Int32.toNatClampNeg p1))), (3, .int 0)]) rfl ?_
      obtain ⟨ev, hit, hr⟩ := gBind_some hr
      have hnB : (fun e : (Int32 × Nat × gM) ⊕ (Int32 × Nat × gM) => Sum.elim (fun q => q.2.1) (fun q => q.2.1) e) ev ≤ nf1 := by
        rcases ev with q | q
        · replace hr := gS2_l hr
          exact Nat.le_of_eq (congrArg (fun z => z.2.1) (gSome hr)).symm
        · replace hr := gS2_r hr
          exact Nat.le_of_eq (congrArg (fun z => z.2.1) (gSome hr)).symm
      have hlo : nf ≤ (fun e : (Int32 × Nat × gM) ⊕ (Int32 × Nat × gM) => Sum.elim (fun q => q.2.1) (fun q => q.2.1) e) ev := gIter_mono (f := fun s => s.2.1) (g := fun e : (Int32 × Nat × gM) ⊕ (Int32 × Nat × gM) => Sum.elim (fun q => q.2.1) (fun q => q.2.1) e) (fun s s' h => mo_X10_perform_L26 h) (fun s e h => mx_X10_perform_L26 h) FU _ ev hit
      suffices hs : Φ (10 * (nf - nf)) (1211 * (nf - nf)) ad cA (gXn nf) M 26 [(0, .ref (gad 0 0)), (2, .ref (gad 46 (Int32.toNatClampNeg p1))), (3, .int 0)] [] by
        rw [Nat.sub_self] at hs
        exact hs
      refine gIter_VB (step := fun s => X10_perform_L26 (Int32.toNatClampNeg p1) s.1 s.2.1 s.2.2) (P := fun s => nf ≤ s.2.1 → s.2.1 ≤ nf1 → ∀ ad1 cA1, gAgr (gXn nf) ad ad1 → Φ (10 * (s.2.1 - nf)) (1211 * (s.2.1 - nf)) ad1 cA1 (gXn s.2.1) s.2.2 26 [(0, .ref (gad 0 0)), (2, .ref (gad 46 (Int32.toNatClampNeg p1))), (3, .int (s.1))] []) (K := (gSP (fun e => ∀ ad1 cA1, gAgr (gXn nf) ad ad1 → Φ (10 * (e.2.1 - nf)) (1211 * (e.2.1 - nf)) ad1 cA1 (gXn e.2.1) e.2.2 98 [(3, .int (e.1))] []) (fun e => ∀ ad1 cA1, gAgr (gXn nf) ad ad1 → Φ (10 * (e.2.1 - nf)) (1211 * (e.2.1 - nf)) ad1 cA1 (gXn e.2.1) e.2.2 123 [(3, .int (e.1))] []))) (f := fun s => s.2.1) (g := fun e : (Int32 × Nat × gM) ⊕ (Int32 × Nat × gM) => Sum.elim (fun q => q.2.1) (fun q => q.2.1) e) (B := nf1) (fun s s' h => mo_X10_perform_L26 h) (fun s e h => mx_X10_perform_L26 h) (fun s w hs hn hx h0 hB ad1 cA1 hag => t_X10_perform_L26 Z rfl rfl h0 hB hag (gin_lt g_7) hs (fun s' e => ⟨(hn s' e).1, fun h => (hn s' e).2 h (hn s' e).1⟩) hx) FU (0, nf, M) ev hit hnB ?_ (Nat.le_refl _) (Nat.le_trans hlo hnB) ad cA gAgr.rf
      rcases ev with q | q
      · replace hr := gS2_l hr
        obtain ⟨x3_26, nf2, M_27⟩ := q
        have e1 : r = x3_26 := congrArg (fun z => z.1) (gSome hr)
        have e2 : nf1 = nf2 := congrArg (fun z => z.2.1) (gSome hr)
        have e3 : M1 = M_27 := congrArg (fun z => z.2.2) (gSome hr)
        intro ad1 cA1 hag
        have CR := CR ad1 cA1 hag
        rw [e1, e2, e3] at CR
        show Φ (10 * (nf2 - nf)) (1211 * (nf2 - nf)) ad1 cA1 (gXn nf2) M_27 98 [(3, .int x3_26)] []
        have C := Z.C (cells := 10 * (nf2 - nf)) (slots := 1211 * (nf2 - nf)) (by rw [e2]; exact Nat.le_refl _) (by rw [e2]; exact Nat.le_refl _) cA1 (gXn nf2) (fun k hk => hag.str k hk) (some .int) none M
        refine r_goto (pc := 98) (tgt := 123) C dX10_perform_98 rfl ?_
        refine r_iload_n (pc := 123) C dX10_perform_123 rfl 0 rfl ?_
        exact r_iret (pc := 124) CR dX10_perform_124 rfl rfl
      · replace hr := gS2_r hr
        obtain ⟨x3_26, nf2, M_27⟩ := q
        have e1 : r = x3_26 := congrArg (fun z => z.1) (gSome hr)
        have e2 : nf1 = nf2 := congrArg (fun z => z.2.1) (gSome hr)
        have e3 : M1 = M_27 := congrArg (fun z => z.2.2) (gSome hr)
        intro ad1 cA1 hag
        have CR := CR ad1 cA1 hag
        rw [e1, e2, e3] at CR
        show Φ (10 * (nf2 - nf)) (1211 * (nf2 - nf)) ad1 cA1 (gXn nf2) M_27 123 [(3, .int x3_26)] []
        have C := Z.C (cells := 10 * (nf2 - nf)) (slots := 1211 * (nf2 - nf)) (by rw [e2]; exact Nat.le_refl _) (by rw [e2]; exact Nat.le_refl _) cA1 (gXn nf2) (fun k hk => hag.str k hk) (some .int) none M
        refine r_iload_n (pc := 123) C dX10_perform_123 rfl 0 rfl ?_
        exact r_iret (pc := 124) CR dX10_perform_124 rfl rfl
    · replace hr := (if_pos c_6).symm.trans hr
      refine r_iconst (pc := 15) C dX10_perform_15 kim1 ?_
      obtain ⟨e1, e2, e3⟩ := (show r = -1 ∧ nf1 = nf ∧ M1 = M from ⟨congrArg (fun z => z.1) (gSome hr), congrArg (fun z => z.2.1) (gSome hr), congrArg (fun z => z.2.2) (gSome hr)⟩)
      have CR := CR ad cA gAgr.rf
      rw [e1, e2, e3, Nat.sub_self] at CR
      exact r_iret (pc := 16) CR dX10_perform_16 rfl rfl
