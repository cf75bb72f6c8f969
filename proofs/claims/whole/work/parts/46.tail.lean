noncomputable def X2_keep_J59 (xs0 : Int32) (M : gM) : Option gM := gLet (wI M 43 0 1 xs0) (fun M_4 => gLet (wI M_4 43 0 2 (gmin ((M_4.1 43 0 2) + 1) 40)) (fun M_5 => some M_5))
theorem t_X2_keep_J59 {Ψ : gM → Nat → List (Nat × Value) → List Value → Prop} {G : gG5} {nf : Nat} {M : gM} {xs0 : Int32} {M1 : gM} (C : gC Ψ G (gXn nf) cX2_keep RX2 3 none 3 85 none M1) (CR : gR Ψ cX2_keep none none M1) (hr : X2_keep_J59 xs0 M = some M1) : Ψ M 59 [(0, .ref (gad 43 0))] [.int xs0, .ref (gad 43 0)] := by
  obtain ⟨M_4, eM_4, hr⟩ := gLet_some hr
  refine p43_1 (pc := 59) C dX2_keep_59 q506 (e43 nf) eM_4 ?_
  refine r_aload_n (pc := 62) C dX2_keep_62 rfl 0 rfl ?_
  refine r_aload_n (pc := 63) C dX2_keep_63 rfl 0 rfl ?_
  refine g43_2 (pc := 64) C dX2_keep_64 q507 (e43 nf) ?_
  refine r_iconst (pc := 67) C dX2_keep_67 ki1 ?_
  refine r_iadd (pc := 68) C dX2_keep_68 ?_
  refine r_bipush (pc := 69) C dX2_keep_69 kb40 ?_
  refine r_min (pc := 71) C dX2_keep_71 q1002 (by decide) (Nat.le_of_ble_eq_true rfl) ?_
  obtain ⟨M_5, eM_5, hr⟩ := gLet_some hr
  refine p43_2 (pc := 74) C dX2_keep_74 q507 (e43 nf) eM_5 ?_
  exact r_vret (pc := 77) CR dX2_keep_77 rfl (gSome hr)
noncomputable def X2_keepT (i1 : Nat) (i2 : Nat) (M : gM) : Option gM := (X0_copyFrom i2 i1 M).bind (fun M_2 => (if 40 ≤ ((M_2.1 43 0 1) + 1) then X2_keep_J59 0 M_2 else X2_keep_J59 ((M_2.1 43 0 1) + 1) M_2))
theorem t_X2_keepT {Ψ : gM → Nat → List (Nat × Value) → List Value → Prop} {G : gG5} {nf : Nat} {M : gM} {i1 : Nat} {i2 : Nat} {M1 : gM} (C : gC Ψ G (gXn nf) cX2_keep RX2 3 none 3 85 none M1) (CR : gR Ψ cX2_keep none none M1) (h1 : i1 < nf + 3) (h2 : i2 < nf + 3) (hr : X2_keepT i1 i2 M = some M1) : Ψ M 32 [(0, .ref (gad 43 0)), (1, .ref (gad 33 i1)), (2, .ref (gad 33 i2))] [] := by
  refine r_aload_n (pc := 32) C dX2_keep_32 rfl 2 rfl ?_
  refine r_aload_n (pc := 33) C dX2_keep_33 rfl 1 rfl ?_
  obtain ⟨M_2, hc_1, hr⟩ := gBind_some hr
  refine c_X0_copyFrom (pc := 34) C dX2_keep_34 q998 ⟨Nat.le_of_ble_eq_true rfl, Nat.le_of_ble_eq_true rfl⟩ h2 h1 hc_1 (Nat.le_of_ble_eq_true rfl) ?_
  refine r_aload_n (pc := 37) C dX2_keep_37 rfl 0 rfl ?_
  refine r_aload_n (pc := 38) C dX2_keep_38 rfl 0 rfl ?_
  refine g43_1 (pc := 39) C dX2_keep_39 q506 (e43 nf) ?_
  refine r_iconst (pc := 42) C dX2_keep_42 ki1 ?_
  refine r_iadd (pc := 43) C dX2_keep_43 ?_
  refine r_bipush (pc := 44) C dX2_keep_44 kb40 ?_
  refine r_icmp_ge (pc := 46) (tgt := 58) C dX2_keep_46 rfl (fun c_3 => ?_) (fun c_3 => ?_)
  · replace hr := (if_pos c_3).symm.trans hr
    refine r_iconst (pc := 58) C dX2_keep_58 ki0 ?_
    refine r_sub C [0] (ls' := [(0, .ref (gad 43 0))]) rfl ?_
    exact t_X2_keep_J59 C CR  hr
  · replace hr := (if_neg c_3).symm.trans hr
    refine r_aload_n (pc := 49) C dX2_keep_49 rfl 0 rfl ?_
    refine g43_1 (pc := 50) C dX2_keep_50 q506 (e43 nf) ?_
    refine r_iconst (pc := 53) C dX2_keep_53 ki1 ?_
    refine r_iadd (pc := 54) C dX2_keep_54 ?_
    refine r_goto (pc := 55) (tgt := 59) C dX2_keep_55 rfl ?_
    refine r_sub C [0] (ls' := [(0, .ref (gad 43 0))]) rfl ?_
    exact t_X2_keep_J59 C CR  hr
