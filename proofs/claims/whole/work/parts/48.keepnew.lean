/-! History.keep: a frame is made -/
theorem gXn_not {nf r i : Nat} (h : ¬ i < gCnt nf r) : (gXn nf).1 r i = false := decide_eq_false h
theorem gEv_n (X : gX) : gEv X .null := fun _ h => by cases h
def xKp (nf : Nat) : gX := gXref (xX0 (gXadd (gXn nf) 33 (nf + 3)) (nf + 3)) 44 0 nf (gad 33 (nf + 3))
theorem gKn1 {nf : Nat} : ∀ r i, (gXn (nf + 1)).1 r i = true → (xKp nf).1 r i = true := by
  intro r i h
  have hi := gXn_iff.mp h
  show (xX0 (gXadd (gXn nf) 33 (nf + 3)) (nf + 3)).1 r i = true
  by_cases hf : 33 ≤ r ∧ r < 43
  · rw [gCnt_fr hf.1 hf.2] at hi
    by_cases hn : i < nf + 3
    · exact oX0 (gXadd_old (gXn_iff.mpr (by rw [gCnt_fr hf.1 hf.2]; exact hn)))
    · have e : i = nf + 3 := by omega
      subst e
      rcases (show r = 33 ∨ r = 34 ∨ r = 35 ∨ r = 36 ∨ r = 37 ∨ r = 38 ∨ r = 39 ∨ r = 40 ∨ r = 41 ∨ r = 42 by omega) with rfl | rfl | rfl | rfl | rfl | rfl | rfl | rfl | rfl | rfl
      · exact oX0 gXadd_new
      all_goals simp [xX0, gXref, gXadd]
  · have e : gCnt (nf + 1) r = gCnt nf r := by unfold gCnt; rw [if_neg hf, if_neg hf]
    exact oX0 (gXadd_old (gXn_iff.mpr (by rw [← e]; exact hi)))
theorem gRf_nf {nf nf' r i j : Nat} (h : r ≠ 44) : gRf nf r i j = gRf nf' r i j := by
  unfold gRf
  simp only [if_neg h]
theorem xX0_far {X : gX} {n r i j : Nat} (h : ¬ (33 ≤ r ∧ r < 43 ∧ i = n)) : (xX0 X n).2 r i j = X.2 r i j := by
  simp only [xX0, gXref, gXadd]
  repeat rw [if_neg (by omega)]
theorem xX0_33 {X : gX} {n j : Nat} : (xX0 X n).2 33 n j = if j < 9 then some (gad (34 + j) n) else X.2 33 n j := by
  simp only [xX0, gXref, gXadd]
  by_cases hj : j < 9
  · rcases (show j = 0 ∨ j = 1 ∨ j = 2 ∨ j = 3 ∨ j = 4 ∨ j = 5 ∨ j = 6 ∨ j = 7 ∨ j = 8 by omega) with rfl | rfl | rfl | rfl | rfl | rfl | rfl | rfl | rfl <;> simp
  · rw [if_neg hj]
    repeat rw [if_neg (by omega)]
theorem xX0_arr {X : gX} {n r j : Nat} (h1 : 34 ≤ r) (h2 : r < 43) : (xX0 X n).2 r n j = none := by
  rcases (show r = 34 ∨ r = 35 ∨ r = 36 ∨ r = 37 ∨ r = 38 ∨ r = 39 ∨ r = 40 ∨ r = 41 ∨ r = 42 by omega) with rfl | rfl | rfl | rfl | rfl | rfl | rfl | rfl | rfl <;> simp [xX0, gXref, gXadd]
theorem gKn2 {nf : Nat} : ∀ r i j, (gXn (nf + 1)).1 r i = true → (gXn (nf + 1)).2 r i j = (xKp nf).2 r i j := by
  intro r i j h
  have hi := gXn_iff.mp h
  show gRf (nf + 1) r i j = if r = 44 ∧ i = 0 ∧ j = nf then some (gad 33 (nf + 3)) else (xX0 (gXadd (gXn nf) 33 (nf + 3)) (nf + 3)).2 r i j
  by_cases h44 : r = 44
  · subst h44
    have hi0 : i < 1 := hi
    have e : i = 0 := by omega
    subst e
    rw [xX0_far (by omega)]
    show (if j < nf + 1 then some (gad 33 (j + 3)) else none) = if 44 = 44 ∧ 0 = 0 ∧ j = nf then some (gad 33 (nf + 3)) else (if 44 = 33 ∧ 0 = nf + 3 then none else if j < nf then some (gad 33 (j + 3)) else none)
    rcases Nat.lt_trichotomy j nf with hj | hj | hj
    · rw [if_pos (by omega), if_neg (by omega), if_neg (by omega), if_pos hj]
    · subst hj
      rw [if_pos (by omega), if_pos ⟨rfl, rfl, rfl⟩]
    · rw [if_neg (by omega), if_neg (by omega), if_neg (by omega), if_neg (by omega)]
  · rw [if_neg (by omega)]
    by_cases hn : 33 ≤ r ∧ r < 43 ∧ i = nf + 3
    · obtain ⟨a, b, rfl⟩ := hn
      by_cases h33 : r = 33
      · subst h33
        rw [xX0_33]
        show (if j < 9 then some (gad (34 + j) (nf + 3)) else none) = if j < 9 then some (gad (34 + j) (nf + 3)) else (if 33 = 33 ∧ nf + 3 = nf + 3 then none else _)
        rw [if_pos (show 33 = 33 ∧ nf + 3 = nf + 3 from ⟨rfl, rfl⟩)]
      · rw [xX0_arr (by omega) b]
        unfold gRf
        rw [if_neg h33, if_neg (by omega), if_neg (by omega), if_neg (by omega), if_neg (by omega), if_neg (by omega), if_neg (by omega), if_neg (by omega), if_neg (by omega), if_neg (by omega), if_neg (by omega), if_neg (by omega), if_neg (by omega), if_neg (by omega), if_neg (by omega)]
    · rw [xX0_far hn]
      show _ = if r = 33 ∧ i = nf + 3 then none else gRf nf r i j
      rw [if_neg (by omega)]
      exact gRf_nf h44
theorem gKf {nf r : Nat} (h1 : 33 ≤ r) (h2 : r < 43) : (gXn nf).1 r (nf + 3) = false := gXn_not (by rw [gCnt_fr h1 h2]; omega)
theorem n_keep_new {l : Launch} {D : va_G} {base : Nat} {ad : Nat → Nat} {cA : Nat → ClassId} {nf : Nat} {M M1 : gM} (hg : gin (M.1 43 0 1) 40 = true) (hj : (M.1 43 0 1).toNatClampNeg = nf) (hr : X2_keepT 0 (nf + 3) (mX0 (gZero M 33 (nf + 3)) (nf + 3)) = some M1) :
    gMetD l D base yX2_keep cX2_keep 3 none 3 85 10 1211 ad cA (gXn nf) M [.ref (gad 43 0), .ref (gad 33 0)] none (gXn (nf + 1)) M1 := by
  refine gMetD_of pl_X2 rfl (Nat.le_of_ble_eq_true rfl) (fun w h => nomatch h) (fun Φ Z CR => ?_)
  show Φ 0 0 ad cA (gXn nf) M 0 [(0, .ref (gad 43 0)), (1, .ref (gad 33 0))] []
  have C := Z.C (cells := 0) (slots := 0) (by decide) (by decide) cA (gXn nf) (fun k _ => rfl) none none M1
  refine r_aload_n (pc := 0) C dX2_keep_0 rfl 0 rfl ?_
  refine g43_0 (pc := 1) C dX2_keep_1 q505 (e43 nf) ?_
  refine r_aload_n (pc := 4) C dX2_keep_4 rfl 0 rfl ?_
  refine g43_1 (pc := 5) C dX2_keep_5 q506 (e43 nf) ?_
  refine r_aaldN (pc := 8) (Cn := RX0) C dX2_keep_8 (by decide) rfl rfl (e44 nf) hg (by rw [hj]; show (if nf < nf then _ else none) = none; rw [if_neg (Nat.lt_irrefl nf)]) ?_
  refine r_astoreN (pc := 9) C dX2_keep_9 rfl (by decide) (ls' := [(2, .null), (0, .ref (gad 43 0)), (1, .ref (gad 33 0))]) rfl ?_
  refine r_aloadN (pc := 10) C dX2_keep_10 rfl 0 rfl ?_
  refine r_ifnonnullN (pc := 11) C dX2_keep_11 ?_
  refine d_new (pc := 14) (r := 33) (i := nf + 3) (N := 13) Z dX2_keep_14 (fun k _ => rfl) (by decide) rfl rfl (by decide) gn0 tyX0 tyX0_ok (by decide) q503 q395 q124 ((gWF_n nf).fr (by decide) (gKf (by decide) (by decide))) (by decide) (List.forall_mem_cons.mpr ⟨gEv_n _, List.forall_mem_cons.mpr ⟨gEv_r (e43 nf), List.forall_mem_cons.mpr ⟨gEv_r (e33 (gf0 nf)), (fun _ z => nomatch z)⟩⟩⟩) (fun _ z => nomatch z) (fun ad1 g1 => ?_)
  have C1 := Z.C (cells := 1) (slots := 13) (by decide) (by decide) cA (gXadd (gXn nf) 33 (nf + 3)) (fun k hk => g1.str k hk) none none M1
  refine r_dup (pc := 17) C1 dX2_keep_17 rfl ?_
  refine d_callI (pc := 18) Z [] [.ref (gad 33 (nf + 3))] dX2_keep_18 (n_X0_init (i := nf + 3) ((gWF_n nf).add (by decide)) gXadd_new (gXadd_ne (by omega) (gKf (by decide) (by decide))) (gXadd_ne (by omega) (gKf (by decide) (by decide))) (gXadd_ne (by omega) (gKf (by decide) (by decide))) (gXadd_ne (by omega) (gKf (by decide) (by decide))) (gXadd_ne (by omega) (gKf (by decide) (by decide))) (gXadd_ne (by omega) (gKf (by decide) (by decide))) (gXadd_ne (by omega) (gKf (by decide) (by decide))) (gXadd_ne (by omega) (gKf (by decide) (by decide))) (gXadd_ne (by omega) (gKf (by decide) (by decide)))) (fun k hk => g1.str k hk) q997 q397 q124 q398 rfl hd_X0_init ⟨by decide, by decide⟩ (by decide) rfl (Nat.le_of_ble_eq_true rfl) (List.forall_mem_cons.mpr ⟨gEv_n _, List.forall_mem_cons.mpr ⟨gEv_r (gXadd_old (e43 nf)), List.forall_mem_cons.mpr ⟨gEv_r (gXadd_old (e33 (gf0 nf))), (fun _ z => nomatch z)⟩⟩⟩) (List.forall_mem_cons.mpr ⟨gEv_r gXadd_new, (fun _ z => nomatch z)⟩) (fun ad2 cA2 g2 => ?_)
  have had2 : ∀ k, k < 2 → ad2 (gad 62 k) = ad (gad 62 k) := fun k hk => (g2.str k hk).trans (g1.str k hk)
  have C2 := Z.C (cells := 10) (slots := 1211) (by decide) (by decide) cA2 (xX0 (gXadd (gXn nf) 33 (nf + 3)) (nf + 3)) had2 none none M1
  refine r_astore_n (pc := 21) C2 dX2_keep_21 rfl (by decide) rfl (ls' := [(2, .ref (gad 33 (nf + 3))), (0, .ref (gad 43 0)), (1, .ref (gad 33 0))]) rfl ?_
  have hz : ∀ j, (xX0 (gXadd (gXn nf) 33 (nf + 3)) (nf + 3)).2 43 0 j = (gXn nf).2 43 0 j := by
    intro j
    rw [xX0_far (by omega)]
    show (if 43 = 33 ∧ 0 = nf + 3 then none else (gXn nf).2 43 0 j) = _
    rw [if_neg (by omega)]
  have hM : ∀ j, (mX0 (gZero M 33 (nf + 3)) (nf + 3)).1 43 0 j = M.1 43 0 j := by
    intro j
    unfold mX0 gZero
    simp
  refine r_aload_n (pc := 22) C2 dX2_keep_22 rfl 1 rfl ?_
  refine r_getR (pc := 23) (r := 43) (j := 0) (a := gad 44 0) (N := 3) C2 dX2_keep_23 rfl rfl (by decide) (by decide) gn2 rfl q505 (oX0 (gXadd_old (e43 nf))) rfl (by rw [hz]; rfl) ?_
  refine r_aload_n (pc := 26) C2 dX2_keep_26 rfl 1 rfl ?_
  refine r_get (pc := 27) (r := 43) (j := 1) (N := 3) C2 dX2_keep_27 rfl rfl (by decide) (by decide) gn2 rfl q506 (oX0 (gXadd_old (e43 nf))) ?_
  change Φ 10 1211 ad2 cA2 (xX0 (gXadd (gXn nf) 33 (nf + 3)) (nf + 3)) (mX0 (gZero M 33 (nf + 3)) (nf + 3)) 30 [(2, .ref (gad 33 (nf + 3))), (0, .ref (gad 43 0)), (1, .ref (gad 33 0))] [.int ((mX0 (gZero M 33 (nf + 3)) (nf + 3)).1 43 0 1), .ref (gad 44 0)]
  refine r_aload_n (pc := 30) C2 dX2_keep_30 rfl 0 rfl ?_
  rw [hM]
  refine d_aast (pc := 31) Z dX2_keep_31 (by decide) rfl rfl (oX0 (gXadd_old (e44 nf))) hg (by decide) rfl (oX0 gXadd_new) ?_
  rw [hj]
  show Φ 10 1211 ad2 cA2 (xKp nf) _ 32 _ _
  refine d_conv Z gKn1 gKn2 ?_
  have C3 := Z.C (cells := 10) (slots := 1211) (by decide) (by decide) cA2 (gXn (nf + 1)) had2 none none M1
  refine r_sub C3 [1, 2, 0] (ls' := [(0, .ref (gad 43 0)), (1, .ref (gad 33 0)), (2, .ref (gad 33 (nf + 3)))]) rfl ?_
  exact t_X2_keepT C3 (CR ad2 cA2 (g1.trans g2 (fun _ _ z => gXadd_old z))) (gf0 (nf + 1)) (by omega) hr
