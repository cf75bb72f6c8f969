/-! the tape: feed, end; step -/
def bck255 (i : Nat) : Bool := decide ((255 : Int32).toBitVec.getLsbD i = decide (i < 8))
theorem bck255_all : ((List.range 32).all bck255) = true := by decide +kernel
def ush (k : Nat) : Bool := decide (((Int32.toUInt32 (nI k) &&& Int32.toUInt32 31).toBitVec % 32).toNat = k)
theorem ush_all : ((List.range 32).all ush) = true := by decide +kernel
def nar1 (b : Nat) : Bool := decide (vp_nar .char (((Int32.toUInt32 (nI b)) % 65536).toInt32) = nI b) && (decide (vp_nar .byte ((Int32.toInt8 (nI b)).toInt32) &&& 255 = nI b) && decide (b < 128 → vp_nar .byte ((Int32.toInt8 (nI b)).toInt32) = nI b))
theorem nar1_all : ((List.range 256).all nar1) = true := by decide +kernel
/-- a byte of a word -/
def byt (x : Int32) (k : Nat) : Int32 := (x >>> (nI k &&& 31)) &&& 255
def zz (x : Int32) (k : Nat) : Nat := if byt x k = 0 then 0 else 1
def zs (x : Int32) : Nat := zz x 24 + zz x 16 + zz x 8 + zz x 0
section TQ
variable {n W H T K i j k t m nf nf' q q' L : Nat} {M M' Mx Mm Mx' Mm' X Y Y' : gM} {p x v r : Int32}
theorem byt_u (x : Int32) {k : Nat} (hk : k ≤ 24) : ((Int32.toUInt32 x >>> (Int32.toUInt32 (nI k) &&& Int32.toUInt32 31)).toInt32) &&& 255 = byt x k := by
  unfold byt
  have hs := of_decide_eq_true (List.all_eq_true.mp shk_all k (List.mem_range.mpr (by omega)))
  have hu := of_decide_eq_true (List.all_eq_true.mp ush_all k (List.mem_range.mpr (by omega)))
  apply Int32.toBitVec_inj.1
  apply BitVec.eq_of_getLsbD_eq
  intro i hi
  have h255 := of_decide_eq_true (List.all_eq_true.mp bck255_all i (List.mem_range.mpr hi))
  rw [Int32.toBitVec_and, Int32.toBitVec_and, BitVec.getLsbD_and, BitVec.getLsbD_and, h255]
  by_cases h8 : i < 8
  · congr 1
    rw [Int32.toBitVec_shiftRight, BitVec.sshiftRight_eq', BitVec.getLsbD_sshiftRight, hs]
    show (Int32.toUInt32 x >>> (Int32.toUInt32 (nI k) &&& Int32.toUInt32 31)).toBitVec.getLsbD i = _
    rw [UInt32.toBitVec_shiftRight, BitVec.ushiftRight_eq', BitVec.getLsbD_ushiftRight, hu]
    have e : (decide (32 ≤ i)) = false := decide_eq_false (by omega)
    rw [e, Bool.not_false, Bool.true_and, if_pos (by omega)]
    rfl
  · rw [decide_eq_false h8, Bool.and_false, Bool.and_false]
theorem byt_b (x : Int32) (k : Nat) : ∃ b, b < 256 ∧ byt x k = nI b := by
  refine ⟨(byt x k).toBitVec.toNat, ?_, ?_⟩
  · unfold byt
    rw [Int32.toBitVec_and, BitVec.toNat_and]
    have h : (255 : Int32).toBitVec.toNat = 255 := rfl
    rw [h]
    exact Nat.lt_of_le_of_lt Nat.and_le_right (by decide)
  · apply Int32.toBitVec_inj.1
    show _ = BitVec.ofNat 32 _
    rw [BitVec.ofNat_toNat, BitVec.setWidth_eq]
theorem zz_le (x : Int32) (k : Nat) : zz x k ≤ 1 := by
  unfold zz
  split <;> omega
theorem x8_b1 (a : Nat) {k : Nat} (hk : k ≤ 24) : X8_bytesIn_L5 x (nI a) (nI k) M = some (.inl (nI (a + zz x k), nI k + (-8))) := by
  unfold X8_bytesIn_L5 zz
  rw [if_neg (nI_neg (by omega)), byt_u x hk]
  by_cases h : byt x k = 0
  · rw [if_pos h, if_pos h, gLet_e]
    rfl
  · rw [if_neg h, if_neg h, gLet_e, gLet_e, nI_1]
theorem x8_bytes (x : Int32) (M : gM) : X8_bytesIn x M = some (nI (zs x)) := by
  have h : gIter (fun s => X8_bytesIn_L5 x s.1 s.2 M) FU (0, 24) = some (nI (zs x)) := by
    apply FU5
    refine gIt_s (s' := (nI (0 + zz x 24), 16)) (x8_b1 0 (k := 24) (by omega)) ?_
    refine gIt_s (s' := (nI (0 + zz x 24 + zz x 16), 8)) (x8_b1 _ (k := 16) (by omega)) ?_
    refine gIt_s (s' := (nI (0 + zz x 24 + zz x 16 + zz x 8), 0)) (x8_b1 _ (k := 8) (by omega)) ?_
    refine gIt_s (s' := (nI (0 + zz x 24 + zz x 16 + zz x 8 + zz x 0), -8)) (x8_b1 _ (k := 0) (by omega)) ?_
    refine gIt_x ?_
    show X8_bytesIn_L5 x _ (-8) M = _
    unfold X8_bytesIn_L5
    rw [if_pos (by decide), Nat.zero_add]
    rfl
  unfold X8_bytesIn
  rw [h]
  rfl
theorem x11_b1 (a : Nat) {k : Nat} (hk : k < 4) : X11_bytesOf_L4 x (nI a) (nI k) M = some (.inl (nI (a + zz x (8 * k)), nI (k + 1))) := by
  unfold X11_bytesOf_L4 zz
  have e : (8 * nI k : Int32) = nI (8 * k) := by rw [nlit 8, nI_mul]
  rw [if_neg (show ¬ (4 : Int32) ≤ nI k from nI_ge (a := k) (b := 4) hk (by decide)), e]
  show (if byt x (8 * k) = 0 then _ else _) = _
  by_cases h : byt x (8 * k) = 0
  · rw [if_pos h, if_pos h, gLet_e, gLet_e, nI_1, Int32.add_zero]
    rfl
  · rw [if_neg h, if_neg h, gLet_e, gLet_e, nI_1, nI_1]
theorem x11_bytes (x : Int32) (M : gM) : X11_bytesOf x M = some (nI (zs x)) := by
  have h : gIter (fun s => X11_bytesOf_L4 x s.1 s.2 M) FU (0, 0) = some (nI (zs x)) := by
    apply FU5
    refine gIt_s (s' := (nI (0 + zz x (8 * 0)), nI (0 + 1))) (x11_b1 0 (k := 0) (by omega)) ?_
    refine gIt_s (s' := (nI (0 + zz x (8 * 0) + zz x (8 * 1)), nI (1 + 1))) (x11_b1 _ (k := 1) (by omega)) ?_
    refine gIt_s (s' := (nI (0 + zz x (8 * 0) + zz x (8 * 1) + zz x (8 * 2)), nI (2 + 1))) (x11_b1 _ (k := 2) (by omega)) ?_
    refine gIt_s (s' := (nI (0 + zz x (8 * 0) + zz x (8 * 1) + zz x (8 * 2) + zz x (8 * 3)), nI (3 + 1))) (x11_b1 _ (k := 3) (by omega)) ?_
    refine gIt_x ?_
    show X11_bytesOf_L4 x _ (nI 4) M = _
    unfold X11_bytesOf_L4
    have e : 0 + zz x (8 * 0) + zz x (8 * 1) + zz x (8 * 2) + zz x (8 * 3) = zs x := by
      show 0 + zz x 0 + zz x 8 + zz x 16 + zz x 24 = _
      unfold zs
      omega
    rw [if_pos (by decide), e]
  unfold X11_bytesOf
  rw [h]
  rfl
/-- the tape of both sides while it grows -/
def TX (Mx Mm : gM) (L : Nat) (X Y : gM) : Prop := (X.1 1 0 1 = nI L ∧ Y.1 50 0 2 = nI L ∧ ∀ c, c < L → X.1 2 0 c = Y.1 51 0 c &&& 255 ∧ ∃ b, b < 256 ∧ X.1 2 0 c = nI b ∧ (b < 128 → Y.1 51 0 c = nI b)) ∧ (X.2 = Mx.2 ∧ ∀ a b c, a ≠ 1 → a ≠ 2 → X.1 a b c = Mx.1 a b c) ∧ (Y.2 = Mm.2 ∧ ∀ a b c, a ≠ 51 → ¬ (a = 50 ∧ b = 0 ∧ c = 2) → Y.1 a b c = Mm.1 a b c)
theorem j_b1 (h : TX Mx Mm L X Y) (hk : k ≤ 24) (hL : L + zz x k ≤ 480) : ∃ X' Y', X8_append_L3 x (nI k) X = some (.inl (nI k + (-8), X')) ∧ X11_brings_L3 x (nI k) Y = some (.inl (nI k + (-8), Y')) ∧ TX Mx Mm (L + zz x k) X' Y' := by
  obtain ⟨⟨h1, h2, h3⟩, ⟨h4, h5⟩, ⟨h6, h7⟩⟩ := h
  unfold X8_append_L3 X11_brings_L3
  rw [if_neg (nI_neg (by omega)), if_neg (nI_neg (by omega)), byt_u x hk, gLet_e (byt x k)]
  show ∃ X' Y', _ ∧ (gLet (byt x k) _ = _) ∧ _
  rw [gLet_e (byt x k)]
  unfold zz at hL ⊢
  by_cases h0 : byt x k = 0
  · rw [if_pos h0, if_pos h0, if_pos h0, gLet_e, gLet_e]
    exact ⟨X, Y, rfl, rfl, ⟨h1, h2, h3⟩, ⟨h4, h5⟩, ⟨h6, h7⟩⟩
  · rw [if_neg h0] at hL
    rw [if_neg h0, if_neg h0, if_neg h0, h1, if_neg (show ¬ (480 : Int32) ≤ nI L from nI_ge (a := L) (b := 480) (by omega) (by decide)), h2, gG_t (gin_n (k := L) (n := 480) (by omega) (by decide)), gG_t (gin_n (k := L) (n := 480) (by omega) (by decide)), nI_clamp (by omega)]
    obtain ⟨b, hb, eb⟩ := byt_b x k
    have hn := (Bool.and_eq_true _ _).mp (List.all_eq_true.mp nar1_all b (List.mem_range.mpr hb))
    have n1 := of_decide_eq_true hn.1
    have hn2 := (Bool.and_eq_true _ _).mp hn.2
    have n2 := of_decide_eq_true hn2.1
    have n3 := of_decide_eq_true hn2.2
    rw [eb, n1]
    refine ⟨wI (wI X 2 0 L (nI b)) 1 0 1 (nI (L + 1)), wI (wI Y 51 0 L (vp_nar .byte ((Int32.toInt8 (nI b)).toInt32))) 50 0 2 (nI (L + 1)), ?_, ?_, ⟨w_e, w_e, fun c hc => ?_⟩, ⟨h4, fun a b c g1 g2 => ?_⟩, ⟨h6, fun a b c g1 g2 => ?_⟩⟩
    · rw [gLet_e, gLet_e, gLet_e, w_n (by omega), h1, nI_1]
    · rw [gLet_e, gLet_e, gLet_e, w_n (by omega), h2, nI_1]
    · by_cases e : c = L
      · rw [e, w_n (by omega), w_e, w_n (by omega), w_e, n2]
        exact ⟨rfl, b, hb, rfl, n3⟩
      · rw [w_n (by omega), w_n (by omega), w_n (by omega), w_n (by omega)]
        exact h3 c (by omega)
    · rw [w_n (by omega), w_n (by omega)]
      exact h5 a b c g1 g2
    · rw [w_n (by omega), w_n (by omega)]
      exact h7 a b c g1 g2
theorem j_word (h : TX Mx Mm L X Y) (hL : L + zs x ≤ 480) : ∃ X' Y', X8_append x X = some X' ∧ X11_brings x Y = some Y' ∧ TX Mx Mm (L + zs x) X' Y' := by
  unfold zs at hL ⊢
  have z1 := zz_le x 24
  obtain ⟨X1, Y1, a1, b1, h1⟩ := j_b1 (x := x) (k := 24) h (by omega) (by omega)
  obtain ⟨X2, Y2, a2, b2, h2⟩ := j_b1 (x := x) (k := 16) h1 (by omega) (by omega)
  obtain ⟨X3, Y3, a3, b3, h3⟩ := j_b1 (x := x) (k := 8) h2 (by omega) (by omega)
  obtain ⟨X4, Y4, a4, b4, h4⟩ := j_b1 (x := x) (k := 0) h3 (by omega) (by omega)
  have g : gIter (fun s => X8_append_L3 x s.1 s.2) FU (24, X) = some X4 := by
    apply FU5
    refine gIt_s (s' := (16, X1)) a1 ?_
    refine gIt_s (s' := (8, X2)) a2 ?_
    refine gIt_s (s' := (0, X3)) a3 ?_
    refine gIt_s (s' := (-8, X4)) a4 ?_
    refine gIt_x ?_
    show X8_append_L3 x (-8) X4 = _
    unfold X8_append_L3
    rw [if_pos (by decide)]
  have g' : gIter (fun s => X11_brings_L3 x s.1 s.2) FU (24, Y) = some Y4 := by
    apply FU5
    refine gIt_s (s' := (16, Y1)) b1 ?_
    refine gIt_s (s' := (8, Y2)) b2 ?_
    refine gIt_s (s' := (0, Y3)) b3 ?_
    refine gIt_s (s' := (-8, Y4)) b4 ?_
    refine gIt_x ?_
    show X11_brings_L3 x (-8) Y4 = _
    unfold X11_brings_L3
    rw [if_pos (by decide)]
  refine ⟨X4, Y4, ?_, ?_, ?_⟩
  · unfold X8_append
    rw [g]
    rfl
  · unfold X11_brings
    rw [g']
    rfl
  · rw [show L + (zz x 24 + zz x 16 + zz x 8 + zz x 0) = L + zz x 24 + zz x 16 + zz x 8 + zz x 0 by omega]
    exact h4
theorem J.tp (h : J q nf Mx Mm) (tp : TP Mx' Mm') (gl : Mx'.2 = Mx.2) (gx : ∀ a b c, a ≠ 1 → a ≠ 2 → Mx'.1 a b c = Mx.1 a b c) (gm : ∀ a b c, a ≠ 51 → ¬ (a = 50 ∧ b = 0 ∧ c = 2) → Mm'.1 a b c = Mm.1 a b c) : J q nf Mx' Mm' := by
  obtain ⟨h1, h2, h3, h4, h5⟩ := h
  refine ⟨h1, tp, h3.same (fun a b c hc => gx a b c (by omega) (by omega)) (fun a b c hc => gm a b c (by omega) (by omega)), fun k hk => ?_, ?_⟩
  · rw [gx 48 0 k (by omega) (by omega), gm 52 7 k (by omega) (by omega)]
    exact h4 k hk
  · rcases h5 with h5 | ⟨n, W, H, T, K, h5⟩
    · exact Or.inl (h5.same (fun a b c hc => gx a b c (by unfold relX at hc; omega) (by unfold relX at hc; omega)) (fun a b c hc => gm a b c (by unfold relM at hc; omega) (by unfold relM at hc; omega)))
    · exact Or.inr ⟨n, W, H, T, K, h5.same (fun a b c hc => gx a b c (by unfold relX at hc; omega) (by unfold relX at hc; omega)) (fun b c _ => by rw [gl]) (fun a b c hc => gm a b c (by unfold relM at hc; omega) (by unfold relM at hc; omega))⟩
theorem O1 : O_1 Iv := fun q nf M a1 hq hI => by
  refine glue1 (F := fun M => X10_end a1 M) (G := fun M => X11_end a1 M) (fun Mx Mm h => ?_) hI
  have h0 := h.t0 (v := 0)
  show ∃ r Mx' Mm', X10_end a1 Mx = some (r, Mx') ∧ X11_end a1 Mm = some (r, Mm') ∧ _
  unfold X10_end X11_end
  obtain ⟨L, l1, l2, l3, l4⟩ := h0.2.1
  rw [gLet_e (wI Mm 50 0 0 0), l2, l3]
  by_cases c0 : a1 < 0
  · rw [if_pos c0, if_pos c0]
    exact ⟨_, _, _, rfl, rfl, h0.mono (by omega), GX.rf, GM.t0⟩
  · rw [if_neg c0, if_neg c0]
    by_cases c1 : a1 ≤ nI L
    · rw [if_pos c1, if_pos c1, gLet_e, gLet_e]
      obtain ⟨l, hl, rfl⟩ := arg (n := L + 1) c0 (fun z => by
        have z1 := Int32.le_iff_toInt_le.mp z
        have z2 := Int32.le_iff_toInt_le.mp c1
        rw [nI_toInt (by omega)] at z1
        rw [nI_toInt (by omega)] at z2
        omega) (by omega)
      refine ⟨_, _, _, rfl, rfl, (h0.mono (Nat.le_succ q)).tp ⟨l, by omega, w_e, w_e, fun c hc => ?_⟩ rfl (fun a b c g1 g2 => w_n (by omega)) (fun a b c g1 g2 => w_n (by omega)), fun a b c hc => ⟨w_n (by omega), rfl⟩, fun a b c hc => ⟨by rw [w_n (by omega), w_n (by omega)], rfl⟩⟩
      rw [w_n (by omega), w_n (by omega)]
      exact l4 c (by omega)
    · rw [if_neg c1, if_neg c1]
      exact ⟨_, _, _, rfl, rfl, h0.mono (by omega), GX.rf, GM.t0⟩
theorem O0 : O_0 Iv := fun q nf M a1 a2 a3 a4 a5 hq hI => by
  refine glue1 (F := fun M => X10_feed a1 a2 a3 a4 a5 M) (G := fun M => X11_feed a1 a2 a3 a4 a5 M) (fun Mx Mm h => ?_) hI
  have h0 := h.t0 (v := 0)
  show ∃ r Mx' Mm', X10_feed a1 a2 a3 a4 a5 Mx = some (r, Mx') ∧ X11_feed a1 a2 a3 a4 a5 Mm = some (r, Mm') ∧ _
  unfold X10_feed X11_feed
  obtain ⟨L, l1, l2, l3, l4⟩ := h0.2.1
  rw [gLet_e (wI Mm 50 0 0 0), l2, l3, x8_bytes, bind_e, x8_bytes, bind_e, x8_bytes, bind_e, x8_bytes, bind_e, x8_bytes, bind_e, x11_bytes, bind_e, x11_bytes, bind_e, x11_bytes, bind_e, x11_bytes, bind_e, x11_bytes, bind_e, gLet_e]
  simp only [nI_add]
  have zb : ∀ x, zs x ≤ 4 := fun x => by
    have h1 := zz_le x 24
    have h2 := zz_le x 16
    have h3 := zz_le x 8
    have h4 := zz_le x 0
    unfold zs
    omega
  have z1 := zb a1
  have z2 := zb a2
  have z3 := zb a3
  have z4 := zb a4
  have z5 := zb a5
  have ee : L + (zs a1 + zs a2 + zs a3 + zs a4 + zs a5) = L + zs a1 + zs a2 + zs a3 + zs a4 + zs a5 := by omega
  rw [ee]
  by_cases c : nI (L + zs a1 + zs a2 + zs a3 + zs a4 + zs a5) ≤ (480 : Int32)
  · have c' : L + zs a1 + zs a2 + zs a3 + zs a4 + zs a5 ≤ 480 := by
      have := Int32.le_iff_toInt_le.mp c
      rw [nI_toInt (by omega)] at this
      have a480 : (480 : Int32).toInt = 480 := rfl
      omega
    rw [if_pos c, if_pos c]
    have t0 : TX Mx (wI Mm 50 0 0 0) L Mx (wI Mm 50 0 0 0) := ⟨⟨l2, l3, l4⟩, ⟨rfl, fun _ _ _ _ _ => rfl⟩, ⟨rfl, fun _ _ _ _ _ => rfl⟩⟩
    obtain ⟨X1, Y1, p1, q1, t1⟩ := j_word (x := a1) t0 (by omega)
    obtain ⟨X2, Y2, p2, q2, t2⟩ := j_word (x := a2) t1 (by omega)
    obtain ⟨X3, Y3, p3, q3, t3⟩ := j_word (x := a3) t2 (by omega)
    obtain ⟨X4, Y4, p4, q4, t4⟩ := j_word (x := a4) t3 (by omega)
    obtain ⟨X5, Y5, p5, q5, t5⟩ := j_word (x := a5) t4 (by omega)
    rw [p1, bind_e, p2, bind_e, p3, bind_e, p4, bind_e, p5, bind_e, q1, bind_e, q2, bind_e, q3, bind_e, q4, bind_e, q5, bind_e, t5.1.1, t5.1.2.1]
    refine ⟨_, X5, Y5, rfl, rfl, (h0.mono (Nat.le_succ q)).tp ⟨_, c', t5.1.1, t5.1.2.1, t5.1.2.2⟩ t5.2.1.1 t5.2.1.2 t5.2.2.2, fun a b c hc => ⟨t5.2.1.2 a b c (by omega) (by omega), by rw [t5.2.1.1]⟩, fun a b c hc => ⟨by rw [t5.2.2.2 a b c (by omega) (by omega), w_n (by omega)], by rw [t5.2.2.1]; rfl⟩⟩
  · rw [if_neg c, if_neg c]
    exact ⟨_, _, _, rfl, rfl, h0.mono (by omega), GX.rf, GM.t0⟩
end TQ
