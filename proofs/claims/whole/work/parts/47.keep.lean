/-! History.keep: the frame is there already -/
theorem n_keep_old {l : Launch} {D : va_G} {base : Nat} {ad : Nat → Nat} {cA : Nat → ClassId} {nf : Nat} {M M1 : gM} (hg : gin (M.1 43 0 1) 40 = true) (hj : (M.1 43 0 1).toNatClampNeg < nf) (hr : X2_keepT 0 ((M.1 43 0 1).toNatClampNeg + 3) M = some M1) :
    gMetD l D base yX2_keep cX2_keep 3 none 3 85 0 0 ad cA (gXn nf) M [.ref (gad 43 0), .ref (gad 33 0)] none (gXn nf) M1 := by
  refine gMetD_of pl_X2 rfl (Nat.le_of_ble_eq_true rfl) (fun w h => nomatch h) (fun Φ Z CR => ?_)
  show Φ 0 0 ad cA (gXn nf) M 0 [(0, .ref (gad 43 0)), (1, .ref (gad 33 0))] []
  have C := Z.C (cells := 0) (slots := 0) (by decide) (by decide) cA (gXn nf) (fun k _ => rfl) none none M1
  refine r_aload_n (pc := 0) C dX2_keep_0 rfl 0 rfl ?_
  refine g43_0 (pc := 1) C dX2_keep_1 q505 (e43 nf) ?_
  refine r_aload_n (pc := 4) C dX2_keep_4 rfl 0 rfl ?_
  refine g43_1 (pc := 5) C dX2_keep_5 q506 (e43 nf) ?_
  refine a44 (pc := 8) C dX2_keep_8 hg hj ?_
  refine r_astore_n (pc := 9) C dX2_keep_9 rfl (by decide) rfl (ls' := [(2, .ref (gad 33 ((M.1 43 0 1).toNatClampNeg + 3))), (0, .ref (gad 43 0)), (1, .ref (gad 33 0))]) rfl ?_
  refine r_aload_n (pc := 10) C dX2_keep_10 rfl 0 rfl ?_
  refine r_ifnonnullR (pc := 11) (tgt := 32) C dX2_keep_11 rfl ?_
  refine r_sub C [1, 2, 0] (ls' := [(0, .ref (gad 43 0)), (1, .ref (gad 33 0)), (2, .ref (gad 33 ((M.1 43 0 1).toNatClampNeg + 3)))]) rfl ?_
  exact t_X2_keepT C (CR ad cA gAgr.rf) (gf0 nf) (Nat.add_lt_add_right hj 3) hr
