/-! what is left: the pure obligations, one a call; the law's loop over them -/
def O_0 (I : Nat → Nat → gM → Prop) : Prop := ∀ (q nf : Nat) (M : gM) (a1 a2 a3 a4 a5 : Int32), q < 512 → I q nf M → ∃ (r : Int32) (M1 : gM) (M2 : gM), X10_feed a1 a2 a3 a4 a5 M = some (r, M1) ∧ X11_feed a1 a2 a3 a4 a5 M1 = some (r, M2) ∧ I (q + 1) nf M2
def O_1 (I : Nat → Nat → gM → Prop) : Prop := ∀ (q nf : Nat) (M : gM) (a1 : Int32), q < 512 → I q nf M → ∃ (r : Int32) (M1 : gM) (M2 : gM), X10_end a1 M = some (r, M1) ∧ X11_end a1 M1 = some (r, M2) ∧ I (q + 1) nf M2
def O_2 (I : Nat → Nat → gM → Prop) : Prop := ∀ (q nf : Nat) (M : gM) (a1 : Int32), q < 512 → I q nf M → ∃ (r : Int32) (M1 : gM) (M2 : gM), X10_fault a1 M = some (r, M1) ∧ X11_fault a1 M1 = some (r, M2) ∧ I (q + 1) nf M2
def O_3 (I : Nat → Nat → gM → Prop) : Prop := ∀ (q nf : Nat) (M : gM) (a1 : Int32), q < 512 → I q nf M → ∃ (r : Int32) (M1 : gM) (M2 : gM), X10_text a1 M = some (r, M1) ∧ X11_text a1 M1 = some (r, M2) ∧ I (q + 1) nf M2
def O_4 (I : Nat → Nat → gM → Prop) : Prop := ∀ (q nf : Nat) (M : gM) (a1 : Int32), q < 512 → I q nf M → ∃ (r : Int32) (M2 : gM), X10_rule a1 M = some r ∧ X11_rule a1 M = some (r, M2) ∧ I (q + 1) nf M2
def O_5 (I : Nat → Nat → gM → Prop) : Prop := ∀ (q nf : Nat) (M : gM) (a1 a2 : Int32), q < 512 → I q nf M → ∃ (r : Int32) (kk : Int32) (M1 : gM) (M2 : gM), L_tri a1 a2 M = some (kk, M1) ∧ X11_triangle a1 a2 M1 = some (r, M2) ∧ X11_thrown M2 = some kk ∧ (kk = 0 → M2.2 53 0 0 = Int32.toInt64 r) ∧ I (q + 1) nf M2
def O_6 (I : Nat → Nat → gM → Prop) : Prop := ∀ (q nf : Nat) (M : gM) (a1 a2 a3 : Int32), q < 512 → I q nf M → ∃ (r : Int32) (M2 : gM), X10_corner a1 a2 a3 M = some r ∧ X11_corner a1 a2 a3 M = some (r, M2) ∧ I (q + 1) nf M2
def O_7 (I : Nat → Nat → gM → Prop) : Prop := ∀ (q nf : Nat) (M : gM) (a1 a2 a3 a4 : Int32), q < 512 → I q nf M → ∃ (r : Int32) (M2 : gM), X10_edge a1 a2 a3 a4 M = some r ∧ X11_edge a1 a2 a3 a4 M = some (r, M2) ∧ I (q + 1) nf M2
def O_8 (I : Nat → Nat → gM → Prop) : Prop := ∀ (q nf : Nat) (M : gM) (a1 a2 a3 : Int32), q < 512 → I q nf M → ∃ (r : Int32) (M2 : gM), X10_mask a1 a2 a3 M = some r ∧ X11_mask a1 a2 a3 M = some (r, M2) ∧ I (q + 1) nf M2
def O_9 (I : Nat → Nat → gM → Prop) : Prop := ∀ (q nf : Nat) (M : gM) (a1 a2 a3 a4 : Int32), q < 512 → I q nf M → ∃ (r : Int32) (M2 : gM), X10_depth a1 a2 a3 a4 M = some r ∧ X11_depth a1 a2 a3 a4 M = some (r, M2) ∧ I (q + 1) nf M2
def O_10 (I : Nat → Nat → gM → Prop) : Prop := ∀ (q nf : Nat) (M : gM) (a1 a2 a3 : Int32), q < 512 → I q nf M → ∃ (r : Int32) (M2 : gM), X10_shade a1 a2 a3 M = some r ∧ X11_shade a1 a2 a3 M = some (r, M2) ∧ I (q + 1) nf M2
def O_11 (I : Nat → Nat → gM → Prop) : Prop := ∀ (q nf : Nat) (M : gM) (a1 a2 a3 a4 : Int32), q < 512 → I q nf M → ∃ (r : Int32) (M2 : gM), X10_sample a1 a2 a3 a4 M = some r ∧ X11_sample a1 a2 a3 a4 M = some (r, M2) ∧ I (q + 1) nf M2
def O_12 (I : Nat → Nat → gM → Prop) : Prop := ∀ (q nf : Nat) (M : gM) (a1 a2 : Int32), q < 512 → I q nf M → ∃ (r : Int32) (M2 : gM), X10_pixel a1 a2 M = some r ∧ X11_pixel a1 a2 M = some (r, M2) ∧ I (q + 1) nf M2
def O_13 (I : Nat → Nat → gM → Prop) : Prop := ∀ (q nf : Nat) (M : gM) (a1 a2 : Int32), q < 512 → I q nf M → ∃ (r : Int32) (M2 : gM), X10_tile a1 a2 M = some r ∧ X11_tile a1 a2 M = some (r, M2) ∧ I (q + 1) nf M2
def O_14 (I : Nat → Nat → gM → Prop) : Prop := ∀ (q nf : Nat) (M : gM) (a1 a2 : Int32), q < 512 → I q nf M → ∃ (r : Int32) (M2 : gM), X10_bin a1 a2 M = some r ∧ X11_bin a1 a2 M = some (r, M2) ∧ I (q + 1) nf M2
def O_15 (I : Nat → Nat → gM → Prop) : Prop := ∀ (q nf : Nat) (M : gM) (a1 : Int32), q < 512 → I q nf M → ∃ (r : Int64) (M2 : gM), X10_shaded a1 M = some r ∧ X11_shaded a1 M = some (r, M2) ∧ I (q + 1) nf M2
def O_16 (I : Nat → Nat → gM → Prop) : Prop := ∀ (q nf : Nat) (M : gM) (a1 : Int32), q < 512 → I q nf M → ∃ (r : Int32) (nf1 : Nat) (M1 : gM) (M2 : gM), X10_draw nf a1 M = some (r, nf1, M1) ∧ X11_draw a1 M1 = some (r, M2) ∧ nf ≤ nf1 ∧ nf1 ≤ 40 ∧ I (q + 1) nf1 M2
def O_17 (I : Nat → Nat → gM → Prop) : Prop := ∀ (q nf : Nat) (M : gM) (a1 : Int32), q < 512 → I q nf M → ∃ (r : Int32) (nf1 : Nat) (M1 : gM) (M2 : gM), X10_flush nf a1 M = some (r, nf1, M1) ∧ X11_flush a1 M1 = some (r, M2) ∧ nf ≤ nf1 ∧ nf1 ≤ 40 ∧ I (q + 1) nf1 M2
def O_18 (I : Nat → Nat → gM → Prop) : Prop := ∀ (q nf : Nat) (M : gM), q < 512 → I q nf M → ∃ (r : Int32) (nf1 : Nat) (M1 : gM) (M2 : gM), X10_all nf M = some (r, nf1, M1) ∧ X11_all M1 = some (r, M2) ∧ nf ≤ nf1 ∧ nf1 ≤ 40 ∧ I (q + 1) nf1 M2
def O_19 (I : Nat → Nat → gM → Prop) : Prop := ∀ (q nf : Nat) (M : gM), q < 512 → I q nf M → ∃ (r : Int32) (nf1 : Nat) (M1 : gM) (M2 : gM), X10_clear nf M = some (r, nf1, M1) ∧ X11_clear M1 = some (r, M2) ∧ nf ≤ nf1 ∧ nf1 ≤ 40 ∧ I (q + 1) nf1 M2
def O_20 (I : Nat → Nat → gM → Prop) : Prop := ∀ (q nf : Nat) (M : gM) (a1 a2 : Int32), q < 512 → I q nf M → ∃ (r : Int32) (nf1 : Nat) (M1 : gM) (M2 : gM), X10_set nf a1 a2 M = some (r, nf1, M1) ∧ X11_set a1 a2 M1 = some (r, M2) ∧ nf ≤ nf1 ∧ nf1 ≤ 40 ∧ I (q + 1) nf1 M2
def O_21 (I : Nat → Nat → gM → Prop) : Prop := ∀ (q nf : Nat) (M : gM) (a1 a2 a3 a4 : Int32), q < 512 → I q nf M → ∃ (r : Int32) (nf1 : Nat) (M1 : gM) (M2 : gM), X10_move nf a1 a2 a3 a4 M = some (r, nf1, M1) ∧ X11_move a1 a2 a3 a4 M1 = some (r, M2) ∧ nf ≤ nf1 ∧ nf1 ≤ 40 ∧ I (q + 1) nf1 M2
def O_22 (I : Nat → Nat → gM → Prop) : Prop := ∀ (q nf : Nat) (M : gM) (a1 a2 a3 : Int32), q < 512 → I q nf M → ∃ (r : Int32) (nf1 : Nat) (M1 : gM) (M2 : gM), X10_years nf a1 (((Int32.toInt64 a2) <<< (Int32.toInt64 32 &&& 63)) ||| ((Int32.toInt64 a3) &&& 4294967295)) M = some (r, nf1, M1) ∧ X11_years a1 (((Int32.toInt64 a2) <<< (Int32.toInt64 32 &&& 63)) ||| ((Int32.toInt64 a3) &&& 4294967295)) M1 = some (r, M2) ∧ nf ≤ nf1 ∧ nf1 ≤ 40 ∧ I (q + 1) nf1 M2
def O_23 (I : Nat → Nat → gM → Prop) : Prop := ∀ (q nf : Nat) (M : gM) (a1 : Int32), q < 512 → I q nf M → ∃ (r : Int32) (M2 : gM), X10_status a1 M = some r ∧ X11_status a1 M = some (r, M2) ∧ I (q + 1) nf M2
def O_24 (I : Nat → Nat → gM → Prop) : Prop := ∀ (q nf : Nat) (M : gM), q < 512 → I q nf M → ∃ (r : Int32) (M1 : gM) (M2 : gM), X10_undo nf M = some (r, M1) ∧ X11_undo M1 = some (r, M2) ∧ I (q + 1) nf M2
def O_25 (I : Nat → Nat → gM → Prop) : Prop := ∀ (q nf : Nat) (M : gM) (a1 a2 : Int32), q < 512 → I q nf M → ∃ (r : Int32) (M2 : gM), X10_log a1 a2 M = some r ∧ X11_log a1 a2 M = some (r, M2) ∧ I (q + 1) nf M2
def O_26 (I : Nat → Nat → gM → Prop) : Prop := ∀ (q nf : Nat) (M : gM) (a1 a2 a3 : Int32), q < 512 → I q nf M → ∃ (r : Int32) (M2 : gM), X10_step a1 a2 a3 M = some r ∧ X11_step a1 a2 a3 M = some (r, M2) ∧ I (q + 1) nf M2
def O_27 (I : Nat → Nat → gM → Prop) : Prop := ∀ (q nf : Nat) (M : gM) (a1 a2 : Int32), q < 512 → I q nf M → ∃ (r : Int32) (M1 : gM) (M2 : gM), X10_run a1 a2 M = some (r, M1) ∧ X11_run a1 a2 M1 = some (r, M2) ∧ I (q + 1) nf M2
def O_28 (I : Nat → Nat → gM → Prop) : Prop := ∀ (q nf : Nat) (M : gM) (a1 : Int32), q < 512 → I q nf M → ∃ (r : Int32) (nf1 : Nat) (M1 : gM) (M2 : gM), X10_perform nf a1 M = some (r, nf1, M1) ∧ X11_perform a1 M1 = some (r, M2) ∧ nf ≤ nf1 ∧ nf1 ≤ 40 ∧ I (q + 1) nf1 M2
def O_29 (I : Nat → Nat → gM → Prop) : Prop := ∀ (q nf : Nat) (M : gM) (a1 a2 a3 a4 : Int32), q < 512 → I q nf M → ∃ (r : Int32) (M2 : gM), X10_layer a1 a2 a3 a4 M = some r ∧ X11_layer a1 a2 a3 a4 M = some (r, M2) ∧ I (q + 1) nf M2
def O_30 (I : Nat → Nat → gM → Prop) : Prop := ∀ (q nf : Nat) (M : gM) (a1 a2 : Int32), q < 512 → I q nf M → ∃ (r : Int32) (M1 : gM) (M2 : gM), X10_shown a1 a2 M = some (r, M1) ∧ X11_shown a1 a2 M1 = some (r, M2) ∧ I (q + 1) nf M2
def O_31 (I : Nat → Nat → gM → Prop) : Prop := ∀ (q nf : Nat) (M : gM) (a1 a2 : Int32), q < 512 → I q nf M → ∃ (r : Int32) (M1 : gM) (M2 : gM), X10_whole a1 a2 M = some (r, M1) ∧ X11_whole a1 a2 M1 = some (r, M2) ∧ I (q + 1) nf M2
def O_32 (I : Nat → Nat → gM → Prop) : Prop := ∀ (q nf : Nat) (M : gM) (a1 a2 a3 : Int32), q < 512 → I q nf M → ∃ (r : Int32) (M2 : gM), X10_shared a1 a2 a3 M = some r ∧ X11_shared a1 a2 a3 M = some (r, M2) ∧ I (q + 1) nf M2
def O_33 (I : Nat → Nat → gM → Prop) : Prop := ∀ (q nf : Nat) (M : gM) (a1 a2 a3 : Int32), q < 512 → I q nf M → ∃ (r : Int32) (M2 : gM), X10_border a1 a2 a3 M = some r ∧ X11_border a1 a2 a3 M = some (r, M2) ∧ I (q + 1) nf M2
def O_34 (I : Nat → Nat → gM → Prop) : Prop := ∀ (q nf : Nat) (M : gM) (a1 : Int32), q < 512 → I q nf M → ∃ (r : Int32) (M1 : gM) (M2 : gM), X10_left a1 M = some (r, M1) ∧ X11_left a1 M1 = some (r, M2) ∧ I (q + 1) nf M2
def O_35 (I : Nat → Nat → gM → Prop) : Prop := ∀ (q nf : Nat) (M : gM) (a1 : Int32), q < 512 → I q nf M → ∃ (r : Int32) (M1 : gM) (M2 : gM), X10_orders a1 M = some (r, M1) ∧ X11_orders a1 M1 = some (r, M2) ∧ I (q + 1) nf M2
def O_36 (I : Nat → Nat → gM → Prop) : Prop := ∀ (q nf : Nat) (M : gM) (a1 a2 a3 : Int32), q < 512 → I q nf M → ∃ (r : Int32) (M1 : gM) (M2 : gM), X10_shifts a1 a2 a3 M = some (r, M1) ∧ X11_shifts a1 a2 a3 M1 = some (r, M2) ∧ I (q + 1) nf M2
def O_37 (I : Nat → Nat → gM → Prop) : Prop := ∀ (q nf : Nat) (M : gM) (a1 : Int32), q < 512 → I q nf M → ∃ (r : Int32) (M1 : gM) (M2 : gM), X10_most a1 M = some (r, M1) ∧ X11_most a1 M1 = some (r, M2) ∧ I (q + 1) nf M2
def O_38 (I : Nat → Nat → gM → Prop) : Prop := ∀ (q nf : Nat) (M : gM), q < 512 → I q nf M → ∃ (r : Int32) (M1 : gM) (M2 : gM), X10_image M = some (r, M1) ∧ X11_image M1 = some (r, M2) ∧ I (q + 1) nf M2
def O_39 (I : Nat → Nat → gM → Prop) : Prop := ∀ (q nf : Nat) (M : gM), q < 512 → I q nf M → ∃ (r : Int32) (M1 : gM) (M2 : gM), X10_back M = some (r, M1) ∧ X11_back M1 = some (r, M2) ∧ I (q + 1) nf M2
def O_40 (I : Nat → Nat → gM → Prop) : Prop := ∀ (q nf : Nat) (M : gM) (a1 : Int32), q < 512 → I q nf M → ∃ (r : Int32) (M2 : gM), X10_count a1 M = some r ∧ X11_count a1 M = some (r, M2) ∧ I (q + 1) nf M2
def O_all (I : Nat → Nat → gM → Prop) : Prop := O_0 I ∧ O_1 I ∧ O_2 I ∧ O_3 I ∧ O_4 I ∧ O_5 I ∧ O_6 I ∧ O_7 I ∧ O_8 I ∧ O_9 I ∧ O_10 I ∧ O_11 I ∧ O_12 I ∧ O_13 I ∧ O_14 I ∧ O_15 I ∧ O_16 I ∧ O_17 I ∧ O_18 I ∧ O_19 I ∧ O_20 I ∧ O_21 I ∧ O_22 I ∧ O_23 I ∧ O_24 I ∧ O_25 I ∧ O_26 I ∧ O_27 I ∧ O_28 I ∧ O_29 I ∧ O_30 I ∧ O_31 I ∧ O_32 I ∧ O_33 I ∧ O_34 I ∧ O_35 I ∧ O_36 I ∧ O_37 I ∧ O_38 I ∧ O_39 I ∧ O_40 I
theorem kb63 : (Int8.ofInt (63)).toInt32 = 63 := by decide
theorem lw_gt {n L : Nat} (hn : n ≤ 3072) (hL : L ≤ 3072) : Int32.ofNat L - 6 < Int32.ofNat n ↔ L < n + 6 := by
  have e6 : (6 : Int32).toInt = 6 := by decide
  have eL : (Int32.ofNat L).toInt = (L : Int) := nI_toInt (n := L) (by omega)
  have en : (Int32.ofNat n).toInt = (n : Int) := nI_toInt (n := n) (by omega)
  have h1 : (Int32.ofNat L - 6).toInt = (L : Int) - 6 := by
    rw [Int32.toInt_sub, eL, e6]
    apply Int.bmod_eq_of_le <;> omega
  rw [Int32.lt_iff_toInt_lt, h1, en]
  omega
section GLL
variable {Φ : gF} {l : Launch} {D : va_G} {base : Nat} {ad0 : Nat → Nat} {b L : Nat} {xs : Nat → Int32} {I : Nat → Nat → gM → Prop}
theorem l_next (Z : gLD Φ l D base ad0 b L xs) {cells slots q nf : Nat} {ad : Nat → Nat} {cA : Nat → ClassId} {M : gM} (h1 : cells ≤ 601024) (h2 : slots ≤ 7293033) (had : ∀ k, k < 2 → ad (gad 62 k) = ad0 (gad 62 k)) (k : Φ cells slots ad cA (gXn nf) M 23 [(0, .ref (gad 60 1)), (1, .ref (gad 0 0)), (2, .ref (gad 50 0)), (3, .ref (gad 53 0)), (4, .int (Int32.ofNat (6 * (q + 1))))] []) : Φ cells slots ad cA (gXn nf) M 1765 [(0, .ref (gad 60 1)), (1, .ref (gad 0 0)), (2, .ref (gad 50 0)), (3, .ref (gad 53 0)), (4, .int (Int32.ofNat (6 * q)))] [] := by
  have C := Z.D.elim fun _ Z => Z.C (cells := cells) (slots := slots) h1 h2 cA (gXn nf) had none none M
  refine r_iinc (pc := 1765) C dL_law_1765 4 rfl rfl (by decide) (y := Int32.ofNat (6 * (q + 1))) ?_ (ls' := [(4, .int (Int32.ofNat (6 * (q + 1)))), (0, .ref (gad 60 1)), (1, .ref (gad 0 0)), (2, .ref (gad 50 0)), (3, .ref (gad 53 0))]) rfl ?_
  · rw [Nat.mul_add, Int32.ofNat_add]
    rfl
  refine r_goto (pc := 1768) (tgt := 23) C dL_law_1768 rfl ?_
  exact r_sub C [1, 2, 3, 4, 0] rfl k
theorem l_loop (Z : gLD Φ l D base ad0 b L xs) (hst : l.stackTraces = false) (hL : L ≤ 3072) (hO : O_all I) (hmo : ∀ q nf M, I q nf M → I (q + 1) nf M)
    (hend : ∀ cells slots ad cA nf M ls, cells ≤ 601024 → slots ≤ 7293033 → Φ cells slots ad cA (gXn nf) M 1772 ls [.int 1]) :
    ∀ (j q nf : Nat) (ad : Nat → Nat) (cA : Nat → ClassId) (M : gM), L < 6 * (q + j) + 6 → nf ≤ 40 → q ≤ 512 → ad (gad 60 1) = b → (∀ k, k < 2 → ad (gad 62 k) = ad0 (gad 62 k)) → I q nf M → Φ (189 + 10 * nf + q) (63935 + 1211 * nf + 6 * q) ad cA (gXn nf) M 23 [(0, .ref (gad 60 1)), (1, .ref (gad 0 0)), (2, .ref (gad 50 0)), (3, .ref (gad 53 0)), (4, .int (Int32.ofNat (6 * q)))] [] := by
  intro j
  induction j with
  | zero =>
    intro q nf ad cA M hj hnf hq hb had hI
    have C := Z.D.elim fun _ Z => Z.C (cells := 189 + 10 * nf + q) (slots := 63935 + 1211 * nf + 6 * q) (by omega) (by omega) cA (gXn nf) had none none M
    refine r_iload (pc := 23) C dL_law_23 4 rfl ?_
    refine r_aload_n (pc := 25) C dL_law_25 rfl 0 rfl ?_
    refine l_slen (pc := 26) Z hb dL_law_26 ?_
    refine r_bipush (pc := 27) C dL_law_27 kb6 ?_
    refine r_isub (pc := 29) C dL_law_29 ?_
    refine r_icmp_gt (pc := 30) (tgt := 1771) C dL_law_30 rfl (fun c => ?_) (fun c => ?_)
    · refine r_iconst (pc := 1771) C dL_law_1771 ki1 ?_
      exact hend _ _ _ _ _ _ _ (by omega) (by omega)
    · exact absurd ((lw_gt (by omega) hL).mpr (by omega)) c
  | succ j ih =>
    intro q nf ad cA M hj hnf hq hb had hI
    have C := Z.D.elim fun _ Z => Z.C (cells := 189 + 10 * nf + q) (slots := 63935 + 1211 * nf + 6 * q) (by omega) (by omega) cA (gXn nf) had none none M
    refine r_iload (pc := 23) C dL_law_23 4 rfl ?_
    refine r_aload_n (pc := 25) C dL_law_25 rfl 0 rfl ?_
    refine l_slen (pc := 26) Z hb dL_law_26 ?_
    refine r_bipush (pc := 27) C dL_law_27 kb6 ?_
    refine r_isub (pc := 29) C dL_law_29 ?_
    refine r_icmp_gt (pc := 30) (tgt := 1771) C dL_law_30 rfl (fun c => ?_) (fun c => ?_)
    · refine r_iconst (pc := 1771) C dL_law_1771 ki1 ?_
      exact hend _ _ _ _ _ _ _ (by omega) (by omega)
    have hn : 6 * q + 6 ≤ L := Nat.not_lt.mp (fun z => c ((lw_gt (by omega) hL).mpr z))
    have hq5 : q < 512 := by omega
    have go : ∀ (nf1 : Nat) (ad1 : Nat → Nat) (cA1 : Nat → ClassId) (M2 : gM), nf1 ≤ 40 → ad1 (gad 60 1) = b → (∀ k, k < 2 → ad1 (gad 62 k) = ad0 (gad 62 k)) → I (q + 1) nf1 M2 → Φ (189 + 10 * nf1 + (q + 1)) (63935 + 1211 * nf1 + 6 * (q + 1)) ad1 cA1 (gXn nf1) M2 1765 [(0, .ref (gad 60 1)), (1, .ref (gad 0 0)), (2, .ref (gad 50 0)), (3, .ref (gad 53 0)), (4, .int (Int32.ofNat (6 * q)))] [] :=
      fun nf1 ad1 cA1 M2 h1 h2 h3 h4 => l_next Z (by omega) (by omega) h3 (ih (q + 1) nf1 ad1 cA1 M2 (by omega) h1 (by omega) h2 h3 h4)
    have go0 : ∀ (M2 : gM), I (q + 1) nf M2 → Φ (189 + 10 * nf + q + 1) (63935 + 1211 * nf + 6 * q + 6) ad cA (gXn nf) M2 1765 [(0, .ref (gad 60 1)), (1, .ref (gad 0 0)), (2, .ref (gad 50 0)), (3, .ref (gad 53 0)), (4, .int (Int32.ofNat (6 * q)))] [] := fun M2 h4 => go nf ad cA M2 hnf hb had h4
    have go1 : ∀ (nf1 : Nat) (M2 : gM), nf ≤ nf1 → nf1 ≤ 40 → I (q + 1) nf1 M2 → ∀ ad1 cA1, gAgr (gXn nf) ad ad1 → Φ (189 + 10 * nf + q + 10 * (nf1 - nf) + 1) (63935 + 1211 * nf + 6 * q + 1211 * (nf1 - nf) + 6) ad1 cA1 (gXn nf1) M2 1765 [(0, .ref (gad 60 1)), (1, .ref (gad 0 0)), (2, .ref (gad 50 0)), (3, .ref (gad 53 0)), (4, .int (Int32.ofNat (6 * q)))] [] := by
      intro nf1 M2 hlo hhi h4 ad1 cA1 g1
      have key := go nf1 ad1 cA1 M2 hhi ((g1.2 60 1 (by decide) (by decide)).trans hb) (fun k hk => (g1.str k hk).trans (had k hk)) h4
      rw [show 189 + 10 * nf1 + (q + 1) = 189 + 10 * nf + q + 10 * (nf1 - nf) + 1 by omega, show 63935 + 1211 * nf1 + 6 * (q + 1) = 63935 + 1211 * nf + 6 * q + 1211 * (nf1 - nf) + 6 by omega] at key
      exact key
    refine r_aload_n (pc := 33) C dL_law_33 rfl 0 rfl ?_
    refine r_iload (pc := 34) C dL_law_34 4 rfl ?_
    refine l_sld (pc := 36) Z hb dL_law_36 (j := 6 * q) (by have := lix (n := 6 * q) (j := 0) hn hL (by decide); exact this) ?_
    refine r_bipush (pc := 37) C dL_law_37 kb63 ?_
    refine r_iand (pc := 39) C dL_law_39 ?_
    obtain ⟨o0, o1, o2, o3, o4, o5, o6, o7, o8, o9, o10, o11, o12, o13, o14, o15, o16, o17, o18, o19, o20, o21, o22, o23, o24, o25, o26, o27, o28, o29, o30, o31, o32, o33, o34, o35, o36, o37, o38, o39, o40⟩ := hO
    by_cases c0 : (xs (6 * q) &&& 63) = 0
    · refine r_tableIn (pc := 40) (tgt := 220) (off := 180) C dL_law_40 0 c0 (by decide) rfl ?_
      obtain ⟨r, M1, M2, h1, h2, hI2⟩ := o0 q nf M (xs (6 * q + 1)) (xs (6 * q + 2)) (xs (6 * q + 3)) (xs (6 * q + 4)) (xs (6 * q + 5)) hq5 hI
      exact lc_0 Z hst hb had hn hL h1 h2 ⟨by omega, by omega⟩ (go0 M2 hI2)
    by_cases c1 : (xs (6 * q) &&& 63) = 1
    · refine r_tableIn (pc := 40) (tgt := 293) (off := 253) C dL_law_40 1 c1 (by decide) rfl ?_
      obtain ⟨r, M1, M2, h1, h2, hI2⟩ := o1 q nf M (xs (6 * q + 1)) hq5 hI
      exact lc_1 Z hst hb had hn hL h1 h2 ⟨by omega, by omega⟩ (go0 M2 hI2)
    by_cases c2 : (xs (6 * q) &&& 63) = 2
    · refine r_tableIn (pc := 40) (tgt := 318) (off := 278) C dL_law_40 2 c2 (by decide) rfl ?_
      obtain ⟨r, M1, M2, h1, h2, hI2⟩ := o2 q nf M (xs (6 * q + 1)) hq5 hI
      exact lc_2 Z hst hb had hn hL h1 h2 ⟨by omega, by omega⟩ (go0 M2 hI2)
    by_cases c3 : (xs (6 * q) &&& 63) = 3
    · refine r_tableIn (pc := 40) (tgt := 343) (off := 303) C dL_law_40 3 c3 (by decide) rfl ?_
      obtain ⟨r, M1, M2, h1, h2, hI2⟩ := o3 q nf M (xs (6 * q + 1)) hq5 hI
      exact lc_3 Z hst hb had hn hL h1 h2 ⟨by omega, by omega⟩ (go0 M2 hI2)
    by_cases c4 : (xs (6 * q) &&& 63) = 4
    · refine r_tableIn (pc := 40) (tgt := 368) (off := 328) C dL_law_40 4 c4 (by decide) rfl ?_
      obtain ⟨r, M2, h1, h2, hI2⟩ := o4 q nf M (xs (6 * q + 1)) hq5 hI
      exact lc_4 Z hst hb had hn hL h1 h2 ⟨by omega, by omega⟩ (go0 M2 hI2)
    by_cases c5 : (xs (6 * q) &&& 63) = 5
    · refine r_tableIn (pc := 40) (tgt := 393) (off := 353) C dL_law_40 5 c5 (by decide) rfl ?_
      obtain ⟨r, kk, M1, M2, h1, h2, h3, h4, hI2⟩ := o5 q nf M (xs (6 * q + 1)) (xs (6 * q + 2)) hq5 hI
      exact lc_5 Z hst hb had hn hL h1 h2 h3 h4 ⟨by omega, by omega⟩ (go0 M2 hI2)
    by_cases c6 : (xs (6 * q) &&& 63) = 6
    · refine r_tableIn (pc := 40) (tgt := 461) (off := 421) C dL_law_40 6 c6 (by decide) rfl ?_
      obtain ⟨r, M2, h1, h2, hI2⟩ := o6 q nf M (xs (6 * q + 1)) (xs (6 * q + 2)) (xs (6 * q + 3)) hq5 hI
      exact lc_6 Z hst hb had hn hL h1 h2 ⟨by omega, by omega⟩ (go0 M2 hI2)
    by_cases c7 : (xs (6 * q) &&& 63) = 7
    · refine r_tableIn (pc := 40) (tgt := 510) (off := 470) C dL_law_40 7 c7 (by decide) rfl ?_
      obtain ⟨r, M2, h1, h2, hI2⟩ := o7 q nf M (xs (6 * q + 1)) (xs (6 * q + 2)) (xs (6 * q + 3)) (xs (6 * q + 4)) hq5 hI
      exact lc_7 Z hst hb had hn hL h1 h2 ⟨by omega, by omega⟩ (go0 M2 hI2)
    by_cases c8 : (xs (6 * q) &&& 63) = 8
    · refine r_tableIn (pc := 40) (tgt := 571) (off := 531) C dL_law_40 8 c8 (by decide) rfl ?_
      obtain ⟨r, M2, h1, h2, hI2⟩ := o8 q nf M (xs (6 * q + 1)) (xs (6 * q + 2)) (xs (6 * q + 3)) hq5 hI
      exact lc_8 Z hst hb had hn hL h1 h2 ⟨by omega, by omega⟩ (go0 M2 hI2)
    by_cases c9 : (xs (6 * q) &&& 63) = 9
    · refine r_tableIn (pc := 40) (tgt := 620) (off := 580) C dL_law_40 9 c9 (by decide) rfl ?_
      obtain ⟨r, M2, h1, h2, hI2⟩ := o9 q nf M (xs (6 * q + 1)) (xs (6 * q + 2)) (xs (6 * q + 3)) (xs (6 * q + 4)) hq5 hI
      exact lc_9 Z hst hb had hn hL h1 h2 ⟨by omega, by omega⟩ (go0 M2 hI2)
    by_cases c10 : (xs (6 * q) &&& 63) = 10
    · refine r_tableIn (pc := 40) (tgt := 681) (off := 641) C dL_law_40 10 c10 (by decide) rfl ?_
      obtain ⟨r, M2, h1, h2, hI2⟩ := o10 q nf M (xs (6 * q + 1)) (xs (6 * q + 2)) (xs (6 * q + 3)) hq5 hI
      exact lc_10 Z hst hb had hn hL h1 h2 ⟨by omega, by omega⟩ (go0 M2 hI2)
    by_cases c11 : (xs (6 * q) &&& 63) = 11
    · refine r_tableIn (pc := 40) (tgt := 730) (off := 690) C dL_law_40 11 c11 (by decide) rfl ?_
      obtain ⟨r, M2, h1, h2, hI2⟩ := o11 q nf M (xs (6 * q + 1)) (xs (6 * q + 2)) (xs (6 * q + 3)) (xs (6 * q + 4)) hq5 hI
      exact lc_11 Z hst hb had hn hL h1 h2 ⟨by omega, by omega⟩ (go0 M2 hI2)
    by_cases c12 : (xs (6 * q) &&& 63) = 12
    · refine r_tableIn (pc := 40) (tgt := 791) (off := 751) C dL_law_40 12 c12 (by decide) rfl ?_
      obtain ⟨r, M2, h1, h2, hI2⟩ := o12 q nf M (xs (6 * q + 1)) (xs (6 * q + 2)) hq5 hI
      exact lc_12 Z hst hb had hn hL h1 h2 ⟨by omega, by omega⟩ (go0 M2 hI2)
    by_cases c13 : (xs (6 * q) &&& 63) = 13
    · refine r_tableIn (pc := 40) (tgt := 828) (off := 788) C dL_law_40 13 c13 (by decide) rfl ?_
      obtain ⟨r, M2, h1, h2, hI2⟩ := o13 q nf M (xs (6 * q + 1)) (xs (6 * q + 2)) hq5 hI
      exact lc_13 Z hst hb had hn hL h1 h2 ⟨by omega, by omega⟩ (go0 M2 hI2)
    by_cases c14 : (xs (6 * q) &&& 63) = 14
    · refine r_tableIn (pc := 40) (tgt := 865) (off := 825) C dL_law_40 14 c14 (by decide) rfl ?_
      obtain ⟨r, M2, h1, h2, hI2⟩ := o14 q nf M (xs (6 * q + 1)) (xs (6 * q + 2)) hq5 hI
      exact lc_14 Z hst hb had hn hL h1 h2 ⟨by omega, by omega⟩ (go0 M2 hI2)
    by_cases c15 : (xs (6 * q) &&& 63) = 15
    · refine r_tableIn (pc := 40) (tgt := 902) (off := 862) C dL_law_40 15 c15 (by decide) rfl ?_
      obtain ⟨r, M2, h1, h2, hI2⟩ := o15 q nf M (xs (6 * q + 1)) hq5 hI
      exact lc_15 Z hst hb had hn hL h1 h2 ⟨by omega, by omega⟩ (go0 M2 hI2)
    by_cases c16 : (xs (6 * q) &&& 63) = 16
    · refine r_tableIn (pc := 40) (tgt := 928) (off := 888) C dL_law_40 16 c16 (by decide) rfl ?_
      obtain ⟨r, nf1, M1, M2, h1, h2, hlo, hhi, hI2⟩ := o16 q nf M (xs (6 * q + 1)) hq5 hI
      exact lc_16 Z hst hb had hn hL h1 h2 ⟨by omega, by omega⟩ (go1 nf1 M2 hlo hhi hI2)
    by_cases c17 : (xs (6 * q) &&& 63) = 17
    · refine r_tableIn (pc := 40) (tgt := 953) (off := 913) C dL_law_40 17 c17 (by decide) rfl ?_
      obtain ⟨r, nf1, M1, M2, h1, h2, hlo, hhi, hI2⟩ := o17 q nf M (xs (6 * q + 1)) hq5 hI
      exact lc_17 Z hst hb had hn hL h1 h2 ⟨by omega, by omega⟩ (go1 nf1 M2 hlo hhi hI2)
    by_cases c18 : (xs (6 * q) &&& 63) = 18
    · refine r_tableIn (pc := 40) (tgt := 978) (off := 938) C dL_law_40 18 c18 (by decide) rfl ?_
      obtain ⟨r, nf1, M1, M2, h1, h2, hlo, hhi, hI2⟩ := o18 q nf M hq5 hI
      exact lc_18 Z hst hb had hn hL h1 h2 ⟨by omega, by omega⟩ (go1 nf1 M2 hlo hhi hI2)
    by_cases c19 : (xs (6 * q) &&& 63) = 19
    · refine r_tableIn (pc := 40) (tgt := 991) (off := 951) C dL_law_40 19 c19 (by decide) rfl ?_
      obtain ⟨r, nf1, M1, M2, h1, h2, hlo, hhi, hI2⟩ := o19 q nf M hq5 hI
      exact lc_19 Z hst hb had hn hL h1 h2 ⟨by omega, by omega⟩ (go1 nf1 M2 hlo hhi hI2)
    by_cases c20 : (xs (6 * q) &&& 63) = 20
    · refine r_tableIn (pc := 40) (tgt := 1004) (off := 964) C dL_law_40 20 c20 (by decide) rfl ?_
      obtain ⟨r, nf1, M1, M2, h1, h2, hlo, hhi, hI2⟩ := o20 q nf M (xs (6 * q + 1)) (xs (6 * q + 2)) hq5 hI
      exact lc_20 Z hst hb had hn hL h1 h2 ⟨by omega, by omega⟩ (go1 nf1 M2 hlo hhi hI2)
    by_cases c21 : (xs (6 * q) &&& 63) = 21
    · refine r_tableIn (pc := 40) (tgt := 1041) (off := 1001) C dL_law_40 21 c21 (by decide) rfl ?_
      obtain ⟨r, nf1, M1, M2, h1, h2, hlo, hhi, hI2⟩ := o21 q nf M (xs (6 * q + 1)) (xs (6 * q + 2)) (xs (6 * q + 3)) (xs (6 * q + 4)) hq5 hI
      exact lc_21 Z hst hb had hn hL h1 h2 ⟨by omega, by omega⟩ (go1 nf1 M2 hlo hhi hI2)
    by_cases c22 : (xs (6 * q) &&& 63) = 22
    · refine r_tableIn (pc := 40) (tgt := 1102) (off := 1062) C dL_law_40 22 c22 (by decide) rfl ?_
      obtain ⟨r, nf1, M1, M2, h1, h2, hlo, hhi, hI2⟩ := o22 q nf M (xs (6 * q + 1)) (xs (6 * q + 2)) (xs (6 * q + 3)) hq5 hI
      exact lc_22 Z hst hb had hn hL h1 h2 ⟨by omega, by omega⟩ (go1 nf1 M2 hlo hhi hI2)
    by_cases c23 : (xs (6 * q) &&& 63) = 23
    · refine r_tableIn (pc := 40) (tgt := 1171) (off := 1131) C dL_law_40 23 c23 (by decide) rfl ?_
      obtain ⟨r, M2, h1, h2, hI2⟩ := o23 q nf M (xs (6 * q + 1)) hq5 hI
      exact lc_23 Z hst hb had hn hL h1 h2 ⟨by omega, by omega⟩ (go0 M2 hI2)
    by_cases c24 : (xs (6 * q) &&& 63) = 24
    · refine r_tableIn (pc := 40) (tgt := 1196) (off := 1156) C dL_law_40 24 c24 (by decide) rfl ?_
      obtain ⟨r, M1, M2, h1, h2, hI2⟩ := o24 q nf M hq5 hI
      exact lc_24 Z hst hb had hn hL h1 h2 ⟨by omega, by omega⟩ (go0 M2 hI2)
    by_cases c25 : (xs (6 * q) &&& 63) = 25
    · refine r_tableIn (pc := 40) (tgt := 1209) (off := 1169) C dL_law_40 25 c25 (by decide) rfl ?_
      obtain ⟨r, M2, h1, h2, hI2⟩ := o25 q nf M (xs (6 * q + 1)) (xs (6 * q + 2)) hq5 hI
      exact lc_25 Z hst hb had hn hL h1 h2 ⟨by omega, by omega⟩ (go0 M2 hI2)
    by_cases c26 : (xs (6 * q) &&& 63) = 26
    · refine r_tableIn (pc := 40) (tgt := 1246) (off := 1206) C dL_law_40 26 c26 (by decide) rfl ?_
      obtain ⟨r, M2, h1, h2, hI2⟩ := o26 q nf M (xs (6 * q + 1)) (xs (6 * q + 2)) (xs (6 * q + 3)) hq5 hI
      exact lc_26 Z hst hb had hn hL h1 h2 ⟨by omega, by omega⟩ (go0 M2 hI2)
    by_cases c27 : (xs (6 * q) &&& 63) = 27
    · refine r_tableIn (pc := 40) (tgt := 1295) (off := 1255) C dL_law_40 27 c27 (by decide) rfl ?_
      obtain ⟨r, M1, M2, h1, h2, hI2⟩ := o27 q nf M (xs (6 * q + 1)) (xs (6 * q + 2)) hq5 hI
      exact lc_27 Z hst hb had hn hL h1 h2 ⟨by omega, by omega⟩ (go0 M2 hI2)
    by_cases c28 : (xs (6 * q) &&& 63) = 28
    · refine r_tableIn (pc := 40) (tgt := 1332) (off := 1292) C dL_law_40 28 c28 (by decide) rfl ?_
      obtain ⟨r, nf1, M1, M2, h1, h2, hlo, hhi, hI2⟩ := o28 q nf M (xs (6 * q + 1)) hq5 hI
      exact lc_28 Z hst hb had hn hL h1 h2 ⟨by omega, by omega⟩ (go1 nf1 M2 hlo hhi hI2)
    by_cases c29 : (xs (6 * q) &&& 63) = 29
    · refine r_tableIn (pc := 40) (tgt := 1357) (off := 1317) C dL_law_40 29 c29 (by decide) rfl ?_
      obtain ⟨r, M2, h1, h2, hI2⟩ := o29 q nf M (xs (6 * q + 1)) (xs (6 * q + 2)) (xs (6 * q + 3)) (xs (6 * q + 4)) hq5 hI
      exact lc_29 Z hst hb had hn hL h1 h2 ⟨by omega, by omega⟩ (go0 M2 hI2)
    by_cases c30 : (xs (6 * q) &&& 63) = 30
    · refine r_tableIn (pc := 40) (tgt := 1418) (off := 1378) C dL_law_40 30 c30 (by decide) rfl ?_
      obtain ⟨r, M1, M2, h1, h2, hI2⟩ := o30 q nf M (xs (6 * q + 1)) (xs (6 * q + 2)) hq5 hI
      exact lc_30 Z hst hb had hn hL h1 h2 ⟨by omega, by omega⟩ (go0 M2 hI2)
    by_cases c31 : (xs (6 * q) &&& 63) = 31
    · refine r_tableIn (pc := 40) (tgt := 1455) (off := 1415) C dL_law_40 31 c31 (by decide) rfl ?_
      obtain ⟨r, M1, M2, h1, h2, hI2⟩ := o31 q nf M (xs (6 * q + 1)) (xs (6 * q + 2)) hq5 hI
      exact lc_31 Z hst hb had hn hL h1 h2 ⟨by omega, by omega⟩ (go0 M2 hI2)
    by_cases c32 : (xs (6 * q) &&& 63) = 32
    · refine r_tableIn (pc := 40) (tgt := 1492) (off := 1452) C dL_law_40 32 c32 (by decide) rfl ?_
      obtain ⟨r, M2, h1, h2, hI2⟩ := o32 q nf M (xs (6 * q + 1)) (xs (6 * q + 2)) (xs (6 * q + 3)) hq5 hI
      exact lc_32 Z hst hb had hn hL h1 h2 ⟨by omega, by omega⟩ (go0 M2 hI2)
    by_cases c33 : (xs (6 * q) &&& 63) = 33
    · refine r_tableIn (pc := 40) (tgt := 1541) (off := 1501) C dL_law_40 33 c33 (by decide) rfl ?_
      obtain ⟨r, M2, h1, h2, hI2⟩ := o33 q nf M (xs (6 * q + 1)) (xs (6 * q + 2)) (xs (6 * q + 3)) hq5 hI
      exact lc_33 Z hst hb had hn hL h1 h2 ⟨by omega, by omega⟩ (go0 M2 hI2)
    by_cases c34 : (xs (6 * q) &&& 63) = 34
    · refine r_tableIn (pc := 40) (tgt := 1590) (off := 1550) C dL_law_40 34 c34 (by decide) rfl ?_
      obtain ⟨r, M1, M2, h1, h2, hI2⟩ := o34 q nf M (xs (6 * q + 1)) hq5 hI
      exact lc_34 Z hst hb had hn hL h1 h2 ⟨by omega, by omega⟩ (go0 M2 hI2)
    by_cases c35 : (xs (6 * q) &&& 63) = 35
    · refine r_tableIn (pc := 40) (tgt := 1615) (off := 1575) C dL_law_40 35 c35 (by decide) rfl ?_
      obtain ⟨r, M1, M2, h1, h2, hI2⟩ := o35 q nf M (xs (6 * q + 1)) hq5 hI
      exact lc_35 Z hst hb had hn hL h1 h2 ⟨by omega, by omega⟩ (go0 M2 hI2)
    by_cases c36 : (xs (6 * q) &&& 63) = 36
    · refine r_tableIn (pc := 40) (tgt := 1640) (off := 1600) C dL_law_40 36 c36 (by decide) rfl ?_
      obtain ⟨r, M1, M2, h1, h2, hI2⟩ := o36 q nf M (xs (6 * q + 1)) (xs (6 * q + 2)) (xs (6 * q + 3)) hq5 hI
      exact lc_36 Z hst hb had hn hL h1 h2 ⟨by omega, by omega⟩ (go0 M2 hI2)
    by_cases c37 : (xs (6 * q) &&& 63) = 37
    · refine r_tableIn (pc := 40) (tgt := 1689) (off := 1649) C dL_law_40 37 c37 (by decide) rfl ?_
      obtain ⟨r, M1, M2, h1, h2, hI2⟩ := o37 q nf M (xs (6 * q + 1)) hq5 hI
      exact lc_37 Z hst hb had hn hL h1 h2 ⟨by omega, by omega⟩ (go0 M2 hI2)
    by_cases c38 : (xs (6 * q) &&& 63) = 38
    · refine r_tableIn (pc := 40) (tgt := 1714) (off := 1674) C dL_law_40 38 c38 (by decide) rfl ?_
      obtain ⟨r, M1, M2, h1, h2, hI2⟩ := o38 q nf M hq5 hI
      exact lc_38 Z hst hb had hn hL h1 h2 ⟨by omega, by omega⟩ (go0 M2 hI2)
    by_cases c39 : (xs (6 * q) &&& 63) = 39
    · refine r_tableIn (pc := 40) (tgt := 1727) (off := 1687) C dL_law_40 39 c39 (by decide) rfl ?_
      obtain ⟨r, M1, M2, h1, h2, hI2⟩ := o39 q nf M hq5 hI
      exact lc_39 Z hst hb had hn hL h1 h2 ⟨by omega, by omega⟩ (go0 M2 hI2)
    by_cases c40 : (xs (6 * q) &&& 63) = 40
    · refine r_tableIn (pc := 40) (tgt := 1740) (off := 1700) C dL_law_40 40 c40 (by decide) rfl ?_
      obtain ⟨r, M2, h1, h2, hI2⟩ := o40 q nf M (xs (6 * q + 1)) hq5 hI
      exact lc_40 Z hst hb had hn hL h1 h2 ⟨by omega, by omega⟩ (go0 M2 hI2)
    refine r_tableOut (pc := 40) (tgt := 1765) C dL_law_40 (fun k h1 h2 => ?_) rfl ?_
    · rcases (show k = 0 ∨ k = 1 ∨ k = 2 ∨ k = 3 ∨ k = 4 ∨ k = 5 ∨ k = 6 ∨ k = 7 ∨ k = 8 ∨ k = 9 ∨ k = 10 ∨ k = 11 ∨ k = 12 ∨ k = 13 ∨ k = 14 ∨ k = 15 ∨ k = 16 ∨ k = 17 ∨ k = 18 ∨ k = 19 ∨ k = 20 ∨ k = 21 ∨ k = 22 ∨ k = 23 ∨ k = 24 ∨ k = 25 ∨ k = 26 ∨ k = 27 ∨ k = 28 ∨ k = 29 ∨ k = 30 ∨ k = 31 ∨ k = 32 ∨ k = 33 ∨ k = 34 ∨ k = 35 ∨ k = 36 ∨ k = 37 ∨ k = 38 ∨ k = 39 ∨ k = 40 by omega) with rfl | rfl | rfl | rfl | rfl | rfl | rfl | rfl | rfl | rfl | rfl | rfl | rfl | rfl | rfl | rfl | rfl | rfl | rfl | rfl | rfl | rfl | rfl | rfl | rfl | rfl | rfl | rfl | rfl | rfl | rfl | rfl | rfl | rfl | rfl | rfl | rfl | rfl | rfl | rfl | rfl
      all_goals assumption
    · exact l_widen Z (by omega) (by omega) (go0 M (hmo q nf M hI))
end GLL
