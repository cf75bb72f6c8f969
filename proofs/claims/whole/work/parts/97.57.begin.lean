/-! the class begins with the scene -/
/-- what the wiped frame holds -/
def WPd (v : Int32) (M : gM) : Prop := (∀ c, c < 256 → M.1 34 0 c = 1000 ∧ M.1 35 0 c = v ∧ M.1 36 0 c = -1) ∧ (∀ c, c < 16 → M.1 38 0 c = 0) ∧ (∀ c, c < 10 → M.2 41 0 c = 0) ∧ (∀ c, 10 ≤ c → c ≤ 12 → M.1 33 0 c = 0)
section BG
variable {n W H T K i j k t : Nat} {M M' : gM} {v : Int32} {w : Nat → Int32}
theorem x4_copy : ∃ M', X4_copyFrom 1 0 M = some M' ∧ (∀ c, c < 6 → M'.1 5 1 c = M.1 5 0 c) ∧ (∀ c, c < 4 → M'.1 6 1 c = M.1 6 0 c) ∧ (∀ a c, 7 ≤ a → a ≤ 9 → c < 10 → M'.1 a 1 c = M.1 a 0 c) ∧ (∀ c, c < 30 → M'.1 10 1 c = M.1 10 0 c) ∧ (∀ c, c < 60 → M'.1 11 1 c = M.1 11 0 c) ∧ OQ (fun a b _ => 5 ≤ a ∧ a ≤ 11 ∧ b = 1) M M' := by
  refine ⟨_, by
    unfold X4_copyFrom
    rfl, fun c hc => ?_, fun c hc => ?_, fun a c h1 h2 hc => ?_, fun c hc => ?_, fun c hc => ?_, ⟨?_, fun a b c hq => ?_⟩⟩
  · rcases (show c = 0 ∨ c = 1 ∨ c = 2 ∨ c = 3 ∨ c = 4 ∨ c = 5 by omega) with rfl | rfl | rfl | rfl | rfl | rfl <;> simp [r1_cpI, r1_wI]
  · simp [r1_cpI, r1_wI, hc]
  · rcases (show a = 7 ∨ a = 8 ∨ a = 9 by omega) with rfl | rfl | rfl <;> simp [r1_cpI, r1_wI, hc]
  · simp [r1_cpI, r1_wI, hc]
  · simp [r1_cpI, r1_wI, hc]
  · rfl
  · simp only [r1_cpI, r1_wI]
    repeat rw [if_neg (by omega)]
theorem x0_wipe0 : ∃ r M', X0_wipe 0 v M = some (r, M') ∧ WPd v M' ∧ OXB 0 M M' := by
  obtain ⟨e, h1, -⟩ := gI1_FU (step := fun s => X0_wipe_L4 0 v s.1 s.2 M) (fun k (z : Int32) => (z, nI k)) (fun _ _ => True) (fun _ => True) 0 16 (by omega) (by omega)
    (fun k z hk _ => by
      refine ⟨z + M.1 38 0 k, ?_, trivial⟩
      show X0_wipe_L4 0 v z (nI k) M = _
      unfold X0_wipe_L4
      rw [nlit 16, if_neg (nI_ge hk (by decide)), gG_t (gin_n hk (by decide)), nI_clamp (by omega), gLet_e, gLet_e, nI_1])
    (fun z _ => ⟨z, by
      show X0_wipe_L4 0 v z (nI 16) M = _
      unfold X0_wipe_L4
      rw [nlit 16, if_pos (nI_le (Nat.le_refl _) (by decide))], trivial⟩) 0 trivial
  have h1 : gIter (fun s => X0_wipe_L4 0 v s.1 s.2 M) FU (0, 0) = some e := h1
  refine ⟨e, _, by
    unfold X0_wipe
    rw [h1]
    rfl, ⟨fun c hc => ⟨?_, ?_, ?_⟩, fun c hc => ?_, fun c hc => ?_, fun c h1 h2 => ?_⟩, ⟨fun a b c hn => ?_, fun a b c hn => ?_⟩⟩
  · simp [r1_wI, r1_flI, r1_flL, hc]
  · simp [r1_wI, r1_flI, r1_flL, hc]
  · simp [r1_wI, r1_flI, r1_flL, hc]
  · simp [r1_wI, r1_flI, r1_flL, hc]
  · show (flL _ 41 0 0 10).2 41 0 c = 0
    rw [r2_flL, if_pos ⟨rfl, rfl, hc⟩]
  · rcases (show c = 10 ∨ c = 11 ∨ c = 12 by omega) with rfl | rfl | rfl <;> simp [r1_wI, r1_flI, r1_flL]
  · unfold xB at hn
    simp only [r1_wI, r1_flI, r1_flL]
    repeat rw [if_neg (by omega)]
  · show (flL _ 41 0 0 10).2 a b c = _
    rw [r2_flL, if_neg (by omega)]
    rfl
theorem WPd.of (h : WPd v M) (gx : ∀ a c, (34 ≤ a ∧ a ≤ 38) ∨ (a = 33 ∧ 10 ≤ c ∧ c ≤ 12) → M'.1 a 0 c = M.1 a 0 c) (gl : ∀ c, M'.2 41 0 c = M.2 41 0 c) : WPd v M' := by
  refine ⟨fun c hc => ?_, fun c hc => ?_, fun c hc => ?_, fun c h1 h2 => ?_⟩
  · rw [gx 34 c (by omega), gx 35 c (by omega), gx 36 c (by omega)]
    exact h.1 c hc
  · rw [gx 38 c (by omega)]
    exact h.2.1 c hc
  · rw [gl c]
    exact h.2.2.1 c hc
  · rw [gx 33 c (by omega)]
    exact h.2.2.2 c h1 h2
theorem x0_begin : ∃ M', X0_beginWith 0 1 M = some M' ∧ WPd (M.1 5 1 4) M' ∧ (∀ c, c < 60 → M'.1 39 0 c = M.1 11 1 c) ∧ (∀ c, c < 4 → M'.1 40 0 c = M.1 6 1 c) ∧ M'.1 33 0 9 = 0 ∧ (∀ a b c, ¬ (33 ≤ a ∧ a ≤ 40 ∧ b = 0) → M'.1 a b c = M.1 a b c) ∧ ∀ a b c, ¬ (a = 41 ∧ b = 0) → M'.2 a b c = M.2 a b c := by
  obtain ⟨r, Z, z1, z2, z3, z4⟩ := x0_wipe0 (M := M) (v := M.1 5 1 4)
  have z3 : ∀ a b c, ¬ ((34 ≤ a ∧ a ≤ 38 ∧ b = 0) ∨ (a = 33 ∧ b = 0 ∧ 10 ≤ c ∧ c ≤ 12)) → Z.1 a b c = M.1 a b c := z3
  refine ⟨wI (cpI (cpI Z 11 1 39 0 60) 6 1 40 0 4) 33 0 9 0, ?_, z2.of (fun a c hc => ?_) (fun c => rfl), fun c hc => ?_, fun c hc => ?_, w_e, fun a b c hq => ?_, fun a b c hq => z4 a b c hq⟩
  · unfold X0_beginWith
    rw [z1, bind_e, gU2_e, gLet_e, gLet_e, gLet_e]
  · rw [w_n (by omega), r1_cpI, if_neg (by omega), r1_cpI, if_neg (by omega)]
  · rw [w_n (by omega), r1_cpI, if_neg (by omega), r1_cpI, if_pos (by omega)]
    exact z3 11 1 c (by omega)
  · rw [w_n (by omega), r1_cpI, if_pos (by omega), r1_cpI, if_neg (by omega)]
    exact z3 6 1 c (by omega)
  · rw [w_n (by omega), r1_cpI, if_neg (by omega), r1_cpI, if_neg (by omega)]
    exact z3 a b c (by omega)
theorem x9_fog : ∃ M', X9_forgetShapes M = some M' ∧ (∀ t, t < 10 → M'.1 19 t 1 = 0) ∧ OQ (fun a _ c => a = 19 ∧ c = 1) M M' := by
  obtain ⟨M', e1, e2, e3⟩ := gI1_FU (step := fun s => X9_forgetShapes_L2 s.1 s.2) (fun k (x : gM) => (nI k, x)) (fun k x => (∀ t, t < k → x.1 19 t 1 = 0) ∧ OQ (fun a _ c => a = 19 ∧ c = 1) M x) (fun x => (∀ t, t < 10 → x.1 19 t 1 = 0) ∧ OQ (fun a _ c => a = 19 ∧ c = 1) M x) 0 10 (by omega) (by omega)
    (fun k x hk hx => by
      refine ⟨wI x 19 k 1 0, ?_, fun t ht => ?_, hx.2.w ⟨rfl, rfl⟩⟩
      · show X9_forgetShapes_L2 (nI k) x = _
        unfold X9_forgetShapes_L2 X6_forget
        rw [nlit 10, if_neg (nI_ge hk (by decide)), gG_t (gin_n hk (by decide)), nI_clamp (by omega), gLet_e, bind_e, gLet_e, nI_1]
      · by_cases e : t = k
        · rw [e, w_e]
        · rw [w_n (by omega)]
          exact hx.1 t (by omega))
    (fun x hx => ⟨x, by
      show X9_forgetShapes_L2 (nI 10) x = _
      unfold X9_forgetShapes_L2
      rw [nlit 10, if_pos (nI_le (Nat.le_refl _) (by decide))], hx⟩) M ⟨fun t ht => absurd ht (by omega), OQ.rf _ M⟩
  have e1 : gIter (fun s => X9_forgetShapes_L2 s.1 s.2) FU (0, M) = some M' := e1
  refine ⟨M', ?_, e2, e3⟩
  unfold X9_forgetShapes
  rw [e1, bind_e]
/-- corners of the draft, as the reference's frame has them -/
def FD (n : Nat) (w : Nat → Int32) (M : gM) : Prop := ∀ t, t < n → (∀ k, k < 6 → w (944 + 9 * t + 3 * (k / 2) + k % 2) = M.1 11 0 (6 * t + k) ∧ -99 ≤ (M.1 11 0 (6 * t + k)).toInt ∧ (M.1 11 0 (6 * t + k)).toInt ≤ 160) ∧ ∀ k, k < 3 → w (944 + 9 * t + 3 * k + 2) = M.1 10 0 (3 * t + k)
theorem x10_beg (hd : dOk W H T K) (hn : 1 ≤ n ∧ n ≤ 10) (e5 : M.1 5 0 0 = nI W ∧ M.1 5 0 1 = nI H ∧ M.1 5 0 2 = nI T ∧ M.1 5 0 3 = nI K ∧ M.1 5 0 5 = nI n) (hp : ∀ t, t < n → (M.1 7 0 t = 0 ∨ M.1 7 0 t = 1 ∨ M.1 7 0 t = 2 ∨ M.1 7 0 t = 3) ∧ (∀ k, k < 3 → 0 ≤ (M.1 10 0 (3 * t + k)).toInt ∧ (M.1 10 0 (3 * t + k)).toInt ≤ 999) ∧ ∃ a, 1 ≤ a ∧ a ≤ 8 ∧ M.1 9 0 t = nI a) (hw : FD n w M) :
    ∃ M', X10_begin M = some M' ∧ SCx n W H T K M' ∧ SHi n W H T K 0 M' ∧ FC n 0 w M' ∧ M'.1 5 1 4 = M.1 5 0 4 ∧ (∀ a t, 7 ≤ a → a ≤ 9 → t < 10 → M'.1 a 1 t = M.1 a 0 t) ∧ (∀ k, k < 4 → M'.1 40 0 k = M.1 6 0 k) ∧ WPd (M.1 5 0 4) M' ∧ M'.1 33 0 9 = 0 ∧ M'.1 43 0 1 = 0 ∧ M'.1 43 0 2 = 0 ∧ M'.1 0 0 14 = 0 ∧ (∀ a b c, ¬ ((5 ≤ a ∧ a ≤ 11 ∧ b = 1) ∨ (12 ≤ a ∧ a ≤ 16 ∧ b = 0) ∨ (19 ≤ a ∧ a ≤ 27) ∨ (33 ≤ a ∧ a ≤ 40 ∧ b = 0) ∨ (a = 43 ∧ b = 0 ∧ (c = 1 ∨ c = 2)) ∨ (a = 0 ∧ b = 0 ∧ c = 14)) → M'.1 a b c = M.1 a b c) ∧ ∀ a b c, ¬ (a = 41 ∧ b = 0) → M'.2 a b c = M.2 a b c := by
  obtain ⟨A, a1, a2, a3, a4, a5, a6, a7⟩ := x4_copy (M := M)
  have aq : ∀ a b c, ¬ (5 ≤ a ∧ a ≤ 11 ∧ b = 1) → A.1 a b c = M.1 a b c := a7.2
  obtain ⟨B, b1, b2, b3, b4, b5⟩ := x1_lay (M := A) hd ⟨by rw [a2 0 (by omega)]; exact e5.1, by rw [a2 1 (by omega)]; exact e5.2.1, by rw [a2 2 (by omega)]; exact e5.2.2.1, by rw [a2 3 (by omega)]; exact e5.2.2.2.1⟩
  have bq : ∀ a b c, ¬ (12 ≤ a ∧ a ≤ 16 ∧ b = 0) → B.1 a b c = A.1 a b c := b5.2
  obtain ⟨C, c1, c2, c3, c4, c5, c6, c7⟩ := x0_begin (M := B)
  obtain ⟨D, d1, d2, d3⟩ := x9_fog (M := C)
  have dq : ∀ a b c, ¬ (a = 19 ∧ c = 1) → D.1 a b c = C.1 a b c := d3.2
  have sB : SCx n W H T K B := by
    refine ⟨hd, hn, ⟨?_, ?_, ?_, ?_, ?_⟩, b2, b3, b4, fun t ht => ?_⟩
    · rw [bq 5 1 0 (by omega), a2 0 (by omega)]; exact e5.1
    · rw [bq 5 1 1 (by omega), a2 1 (by omega)]; exact e5.2.1
    · rw [bq 5 1 2 (by omega), a2 2 (by omega)]; exact e5.2.2.1
    · rw [bq 5 1 3 (by omega), a2 3 (by omega)]; exact e5.2.2.2.1
    · rw [bq 5 1 5 (by omega), a2 5 (by omega)]; exact e5.2.2.2.2
    · obtain ⟨p1, p2, p3⟩ := hp t ht
      rw [bq 7 1 t (by omega), a4 7 t (by omega) (by omega) (by omega), bq 9 1 t (by omega), a4 9 t (by omega) (by omega) (by omega)]
      refine ⟨p1, fun k hk => ?_, p3⟩
      unfold zt
      rw [if_pos hk, bq 10 1 _ (by omega), a5 _ (by omega)]
      exact p2 k hk
  have sD : SCx n W H T K D := sB.of fun a b c hh => by rw [dq a b c (by omega), c6 a b c (by omega)]
  have fD : FC n 0 w D := fun t ht => by
    refine ⟨fun k hk => ?_, fun k hk => ?_⟩
    · rw [dq 39 0 _ (by omega), c3 _ (by omega), bq 11 1 _ (by omega), a6 _ (by omega)]
      exact (hw t ht).1 k hk
    · rw [dq 10 1 _ (by omega), c6 10 1 _ (by omega), bq 10 1 _ (by omega), a5 _ (by omega)]
      exact (hw t ht).2 k hk
  obtain ⟨E, f1, f2, f3⟩ := x9_fit sD fD (fun t ht => Or.inl (d2 t (by omega)))
  have eq : ∀ a b c, ¬ (19 ≤ a ∧ a ≤ 27) → E.1 a b c = D.1 a b c := f2.2
  have ge : ∀ a b c, ¬ ((19 ≤ a ∧ a ≤ 27) ∨ (a = 43 ∧ b = 0 ∧ (c = 1 ∨ c = 2)) ∨ (a = 0 ∧ b = 0 ∧ c = 14)) → (wI (wI (wI E 43 0 1 0) 43 0 2 0) 0 0 14 0).1 a b c = C.1 a b c := fun a b c hq => by rw [w_n (by omega), w_n (by omega), w_n (by omega), eq a b c (by omega), dq a b c (by omega)]
  have gw : ∀ a b c, ¬ ((a = 43 ∧ b = 0 ∧ (c = 1 ∨ c = 2)) ∨ (a = 0 ∧ b = 0 ∧ c = 14)) → (wI (wI (wI E 43 0 1 0) 43 0 2 0) 0 0 14 0).1 a b c = E.1 a b c := fun a b c hq => by rw [w_n (by omega), w_n (by omega), w_n (by omega)]
  refine ⟨wI (wI (wI E 43 0 1 0) 43 0 2 0) 0 0 14 0, ?_, sD.of (fun a b c hh => by rw [gw a b c (by omega), eq a b c (by omega)]), fun t ht => ?_, fun t ht => ?_, ?_, fun a t h1 h2 ht => ?_, fun k hk => ?_, ?_, ?_, ?_, ?_, w_e, fun a b c hq => ?_, fun a b c hq => ?_⟩
  · unfold X10_begin X2_forget
    rw [a1, bind_e, b1, bind_e, c1, bind_e, d1, bind_e, f1, bind_e, gLet_e, gLet_e, bind_e, gLet_e]
  · rw [ct_of (fun c => gw 39 0 c (by omega)), zt_of (fun c => gw 10 1 c (by omega)), gw 7 1 t (by omega), gw 8 1 t (by omega)]
    exact (f3 t ht).keep (fun a c g1 g2 => gw a t c (by omega))
  · refine ⟨fun k hk => ?_, fun k hk => ?_⟩
    · rw [gw 39 0 _ (by omega), eq 39 0 _ (by omega)]
      exact (fD t ht).1 k hk
    · rw [gw 10 1 _ (by omega), eq 10 1 _ (by omega)]
      exact (fD t ht).2 k hk
  · rw [ge 5 1 4 (by omega), c6 5 1 4 (by omega), bq 5 1 4 (by omega), a2 4 (by omega)]
  · rw [ge a 1 t (by omega), c6 a 1 t (by omega), bq a 1 t (by omega), a4 a t h1 h2 ht]
  · rw [ge 40 0 k (by omega), c4 k hk, bq 6 1 k (by omega), a3 k hk]
  · rw [bq 5 1 4 (by omega), a2 4 (by omega)] at c2
    exact c2.of (fun a c hc => ge a 0 c (by omega)) (fun c => by show E.2 41 0 c = C.2 41 0 c; rw [f2.1, d3.1])
  · rw [ge 33 0 9 (by omega), c5]
  · rw [w_n (by omega), w_n (by omega), w_e]
  · rw [w_n (by omega), w_e]
  · rw [ge a b c (by omega), c6 a b c (by omega), bq a b c (by omega), aq a b c (by omega)]
  · show E.2 a b c = M.2 a b c
    rw [f2.1, d3.1, c7 a b c hq, b5.1, a7.1]
end BG
