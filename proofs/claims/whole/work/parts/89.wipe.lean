/-! wiping a frame -/
section WP
variable {n W H T K i j k t : Nat} {M M' Mx Mm Mx' Mm' : gM} {v : Int32}
theorem x0_wsum (hb : ∀ t, t < 16 → ∃ b, b ≤ 10 ∧ M.1 38 i t = nI b) : gIter (fun s => X0_wipe_L4 i v s.1 s.2 M) FU (0, 0) = some (nI (spc (bnn i M) 16)) := by
  obtain ⟨e, h1, h2⟩ := gI1_FU (step := fun s => X0_wipe_L4 i v s.1 s.2 M) (fun k (z : Int32) => (z, nI k)) (fun k z => z = nI (spc (bnn i M) k)) (fun z => z = nI (spc (bnn i M) 16)) 0 16 (by omega) (by omega)
    (fun k z hk hz => by
      obtain ⟨b, b1, b2⟩ := hb k hk
      refine ⟨nI (spc (bnn i M) (k + 1)), ?_, rfl⟩
      show X0_wipe_L4 i v z (nI k) M = _
      unfold X0_wipe_L4
      rw [nlit 16, if_neg (nI_ge hk (by decide)), gG_t (gin_n hk (by decide)), nI_clamp (by omega), b2, hz, nI_add, gLet_e, gLet_e, nI_1]
      show _ = some (Sum.inl (nI (spc (bnn i M) k + bnn i M k), nI (k + 1)))
      rw [bnn_e b2 b1])
    (fun z hz => ⟨z, by
      show X0_wipe_L4 i v z (nI 16) M = _
      unfold X0_wipe_L4
      rw [nlit 16, if_pos (nI_le (Nat.le_refl _) (by decide))], hz⟩) 0 rfl
  show gIter (fun s => X0_wipe_L4 i v s.1 s.2 M) FU (0, nI 0) = _
  rw [h1, h2]
theorem x0_wipe (hb : ∀ t, t < 16 → ∃ b, b ≤ 10 ∧ M.1 38 i t = nI b) : ∃ M', X0_wipe i v M = some (nI (spc (bnn i M) 16), M') ∧ (∀ c, c < 256 → M'.1 34 i c = 1000 ∧ M'.1 35 i c = v ∧ M'.1 36 i c = -1) ∧ (∀ c, c < 16 → M'.1 38 i c = 0) ∧ (∀ c, c < 10 → M'.2 41 i c = 0) ∧ (∀ c, 10 ≤ c → c ≤ 12 → M'.1 33 i c = 0) ∧ OXB i M M' ∧ ∀ c, 256 ≤ c → M'.1 36 i c = M.1 36 i c := by
  refine ⟨_, by
    unfold X0_wipe
    rw [x0_wsum hb]
    rfl, fun c hc => ⟨?_, ?_, ?_⟩, fun c hc => ?_, fun c hc => ?_, fun c h1 h2 => ?_, ⟨fun a b c hn => ?_, fun a b c hn => ?_⟩, fun c hc => ?_⟩
  · simp [r1_wI, r1_flI, r1_flL, hc]
  · simp [r1_wI, r1_flI, r1_flL, hc]
  · simp [r1_wI, r1_flI, r1_flL, hc]
  · simp [r1_wI, r1_flI, r1_flL, hc]
  · show (flL _ 41 i 0 10).2 41 i c = 0
    rw [r2_flL, if_pos ⟨rfl, rfl, hc⟩]
  · rcases (show c = 10 ∨ c = 11 ∨ c = 12 by omega) with rfl | rfl | rfl <;> simp [r1_wI, r1_flI, r1_flL]
  · unfold xB at hn
    simp only [r1_wI, r1_flI, r1_flL]
    repeat rw [if_neg (by omega)]
  · show (flL _ 41 i 0 10).2 a b c = _
    rw [r2_flL, if_neg (by omega)]
    rfl
  · simp [r1_wI, r1_flI, r1_flL, show ¬ c < 256 by omega]
/-! the reference -/
def clr (w : Nat → Int32) (bg : Int32) (c : Nat) : Int32 := if c < 256 then 1000 else if c < 512 then bg else if c < 768 then -1 else if c < 944 then (if (c - 768) % 11 = 0 then 0 else w c) else if 1034 ≤ c ∧ c < 1057 then 0 else w c
theorem x11_clears (hj : j = 8 ∨ j = 9) : ∃ M', X11_clears j M = some M' ∧ M'.2 = M.2 ∧ (∀ c, M'.1 52 j c = clr (M.1 52 j) (M.1 52 2 4) c) ∧ ∀ r e c, ¬ (r = 52 ∧ e = j) → M'.1 r e c = M.1 r e c := by
  obtain ⟨A, a1, a2, a3, a4⟩ := gI1_FU (step := fun s => X11_clears_L2 j s.1 s.2) (fun k (x : gM) => (nI k, x)) (fun k x => x.2 = M.2 ∧ (∀ c, x.1 52 j c = if c < k then 1000 else if 256 ≤ c ∧ c < 256 + k then M.1 52 2 4 else if 512 ≤ c ∧ c < 512 + k then -1 else M.1 52 j c) ∧ ∀ r e c, ¬ (r = 52 ∧ e = j) → x.1 r e c = M.1 r e c)
    (fun x => x.2 = M.2 ∧ (∀ c, x.1 52 j c = if c < 256 then 1000 else if 256 ≤ c ∧ c < 256 + 256 then M.1 52 2 4 else if 512 ≤ c ∧ c < 512 + 256 then -1 else M.1 52 j c) ∧ ∀ r e c, ¬ (r = 52 ∧ e = j) → x.1 r e c = M.1 r e c) 0 256 (by omega) (by omega)
    (fun k x hk hx => by
      refine ⟨wI (wI (wI x 52 j k 1000) 52 j (256 + k) (M.1 52 2 4)) 52 j (512 + k) (-1), ?_, hx.1, fun c => ?_, fun r e c hn => ?_⟩
      · show X11_clears_L2 j (nI k) x = _
        unfold X11_clears_L2
        have e2 : (256 : Int32) + nI k = nI (256 + k) := by rw [nlit 256, nI_add]
        have e5 : (512 : Int32) + nI k = nI (512 + k) := by rw [nlit 512, nI_add]
        rw [if_neg (show ¬ (256 : Int32) ≤ nI k from nI_ge (a := k) (b := 256) hk (by decide)), Int32.zero_add, e2, e5, gLen8 hj, gG_t (gin_n (k := k) (n := 1242) (by omega) (by decide)), gLet_e, gG_t (gin_n (k := 256 + k) (by omega) (by decide)), gLet_e, gG_t (gin_n (k := 512 + k) (by omega) (by decide)), gLet_e, gLet_e, nI_1, nI_clamp (n := k) (by omega), nI_clamp (n := 256 + k) (by omega), nI_clamp (n := 512 + k) (by omega), w_n (a := 52) (b := 2) (by omega), hx.2.2 52 2 4 (by omega)]
      · by_cases h1 : c = 512 + k
        · rw [w_ee h1, if_neg (by omega), if_neg (by omega), if_pos (by omega)]
        · rw [w_n (by omega)]
          by_cases h2 : c = 256 + k
          · rw [w_ee h2, if_neg (by omega), if_pos (by omega)]
          · rw [w_n (by omega)]
            by_cases h3 : c = k
            · rw [w_ee h3, if_pos (by omega)]
            · rw [w_n (by omega), hx.2.1 c]
              by_cases h4 : c < k
              · rw [if_pos h4, if_pos (by omega)]
              · rw [if_neg h4, if_neg (show ¬ c < k + 1 by omega)]
                by_cases h5 : 256 ≤ c ∧ c < 256 + k
                · rw [if_pos h5, if_pos (by omega)]
                · rw [if_neg h5, if_neg (show ¬ (256 ≤ c ∧ c < 256 + (k + 1)) by omega)]
                  by_cases h6 : 512 ≤ c ∧ c < 512 + k
                  · rw [if_pos h6, if_pos (by omega)]
                  · rw [if_neg h6, if_neg (by omega)]
      · rw [w_n (by omega), w_n (by omega), w_n (by omega)]
        exact hx.2.2 r e c hn)
    (fun x hx => ⟨x, by
      show X11_clears_L2 j (nI 256) x = _
      unfold X11_clears_L2
      rw [if_pos (show (256 : Int32) ≤ nI 256 by decide)], hx⟩) M ⟨rfl, fun c => by rw [if_neg (by omega), if_neg (by omega), if_neg (by omega)], fun _ _ _ _ => rfl⟩
  obtain ⟨B, b1, b2, b3, b4⟩ := gI1_FU (step := fun s => X11_clears_L46 j s.1 s.2) (fun k (x : gM) => (nI k, x)) (fun k x => x.2 = M.2 ∧ (∀ c, x.1 52 j c = if 768 ≤ c ∧ c < 768 + 11 * k ∧ (c - 768) % 11 = 0 then 0 else A.1 52 j c) ∧ ∀ r e c, ¬ (r = 52 ∧ e = j) → x.1 r e c = M.1 r e c)
    (fun x => x.2 = M.2 ∧ (∀ c, x.1 52 j c = if 768 ≤ c ∧ c < 768 + 11 * 16 ∧ (c - 768) % 11 = 0 then 0 else A.1 52 j c) ∧ ∀ r e c, ¬ (r = 52 ∧ e = j) → x.1 r e c = M.1 r e c) 0 16 (by omega) (by omega)
    (fun k x hk hx => by
      refine ⟨wI x 52 j (768 + 11 * k) 0, ?_, hx.1, fun c => ?_, fun r e c hn => ?_⟩
      · show X11_clears_L46 j (nI k) x = _
        unfold X11_clears_L46
        have e7 : (768 : Int32) + (11 * nI k) = nI (768 + 11 * k) := by rw [nlit 11, nI_mul, nlit 768, nI_add]
        rw [if_neg (show ¬ (16 : Int32) ≤ nI k from nI_ge (a := k) (b := 16) hk (by decide)), e7, gLen8 hj, gG_t (gin_n (k := 768 + 11 * k) (by omega) (by decide)), gLet_e, gLet_e, nI_1, nI_clamp (n := 768 + 11 * k) (by omega)]
      · by_cases h1 : c = 768 + 11 * k
        · rw [w_ee h1, if_pos (by omega)]
        · rw [w_n (by omega), hx.2.1 c]
          by_cases h2 : 768 ≤ c ∧ c < 768 + 11 * k ∧ (c - 768) % 11 = 0
          · rw [if_pos h2, if_pos (by omega)]
          · rw [if_neg h2, if_neg (by omega)]
      · rw [w_n (by omega)]
        exact hx.2.2 r e c hn)
    (fun x hx => ⟨x, by
      show X11_clears_L46 j (nI 16) x = _
      unfold X11_clears_L46
      rw [if_pos (show (16 : Int32) ≤ nI 16 by decide)], hx⟩) A ⟨a2, fun c => by rw [if_neg (by omega)], a4⟩
  obtain ⟨C, c1, c2, c3, c4⟩ := gI1_FU (step := fun s => X11_clears_L73 j s.1 s.2) (fun k (x : gM) => (nI k, x)) (fun k x => 1034 ≤ k ∧ x.2 = M.2 ∧ (∀ c, x.1 52 j c = if 1034 ≤ c ∧ c < k then 0 else B.1 52 j c) ∧ ∀ r e c, ¬ (r = 52 ∧ e = j) → x.1 r e c = M.1 r e c)
    (fun x => x.2 = M.2 ∧ (∀ c, x.1 52 j c = if 1034 ≤ c ∧ c < 1057 then 0 else B.1 52 j c) ∧ ∀ r e c, ¬ (r = 52 ∧ e = j) → x.1 r e c = M.1 r e c) 1034 1057 (by omega) (by omega)
    (fun k x hk hx => by
      obtain ⟨h0, hx⟩ := hx
      refine ⟨wI x 52 j k 0, ?_, by omega, hx.1, fun c => ?_, fun r e c hn => ?_⟩
      · show X11_clears_L73 j (nI k) x = _
        unfold X11_clears_L73
        rw [if_neg (show ¬ (1057 : Int32) ≤ nI k from nI_ge (a := k) (b := 1057) hk (by decide)), gLen8 hj, gG_t (gin_n (k := k) (n := 1242) (by omega) (by decide)), gLet_e, gLet_e, nI_1, nI_clamp (n := k) (by omega)]
      · by_cases h1 : c = k
        · rw [w_ee h1, if_pos (by omega)]
        · rw [w_n (by omega), hx.2.1 c]
          by_cases h2 : 1034 ≤ c ∧ c < k
          · rw [if_pos h2, if_pos (by omega)]
          · rw [if_neg h2, if_neg (by omega)]
      · rw [w_n (by omega)]
        exact hx.2.2 r e c hn)
    (fun x hx => ⟨x, by
      show X11_clears_L73 j (nI 1057) x = _
      unfold X11_clears_L73
      rw [if_pos (show (1057 : Int32) ≤ nI 1057 by decide)], hx.2⟩) B ⟨by omega, b2, fun c => by rw [if_neg (by omega)], b4⟩
  refine ⟨C, ?_, c2, fun c => ?_, c4⟩
  · unfold X11_clears
    show ((gIter (fun s => X11_clears_L2 j s.1 s.2) FU (nI 0, M)).bind fun M_9 => (gIter (fun s => X11_clears_L46 j s.1 s.2) FU (nI 0, M_9)).bind fun M_14 => (gIter (fun s => X11_clears_L73 j s.1 s.2) FU (nI 1034, M_14)).bind fun M_19 => some M_19) = _
    rw [a1, bind_e, b1, bind_e, c1]
    rfl
  · rw [c3, b3, a3]
    unfold clr
    by_cases h1 : c < 256
    · rw [if_neg (by omega), if_neg (by omega), if_pos h1, if_pos h1]
    · by_cases h2 : c < 512
      · rw [if_neg (by omega), if_neg (by omega), if_neg h1, if_pos (by omega), if_neg h1, if_pos h2]
      · by_cases h3 : c < 768
        · rw [if_neg (by omega), if_neg (by omega), if_neg h1, if_neg (by omega), if_pos (by omega), if_neg h1, if_neg h2, if_pos h3]
        · rw [if_neg h1, if_neg (show ¬ (256 ≤ c ∧ c < 256 + 256) by omega), if_neg (show ¬ (512 ≤ c ∧ c < 512 + 256) by omega), if_neg h1, if_neg h2, if_neg h3]
          by_cases h4 : c < 944
          · rw [if_neg (show ¬ (1034 ≤ c ∧ c < 1057) by omega), if_pos h4]
            by_cases h5 : (c - 768) % 11 = 0
            · rw [if_pos (by omega), if_pos h5]
            · rw [if_neg (by omega), if_neg h5]
          · rw [if_neg (show ¬ (768 ≤ c ∧ c < 768 + 11 * 16 ∧ (c - 768) % 11 = 0) by omega), if_neg h4]
/-- both wiped -/
theorem j_wipe (hj : j = 8 ∨ j = 9) (h : RJ n W H T K i j Mx Mm) : ∃ Mx' Mm', X0_wipe i (Mx.1 5 1 4) Mx = some (nI (spc (bnn i Mx) 16), Mx') ∧ X11_clears j Mm = some Mm' ∧ JD n W H T K i j Mx Mm Mx' Mm' ∧ (∀ t, t < 16 → Mx'.1 38 i t = 0) ∧ PN i Mx' := by
  have hn := h.1.2.1
  have fb := h.2.2.2.2.2.2.1
  obtain ⟨X, x1, x2, x3, x4, x5, x6, x7⟩ := x0_wipe (M := Mx) (i := i) (v := Mx.1 5 1 4) (fun t ht => by obtain ⟨b, h1, h2, -⟩ := fb t ht; exact ⟨b, h1, h2⟩)
  obtain ⟨Y, y1, y2, y3, y4⟩ := x11_clears (M := Mm) hj
  have om : OMB j Mm Y := ⟨y2, fun a b c hq => by
    by_cases e : a = 52 ∧ b = j
    · unfold mB at hq
      rw [e.1, e.2, y3]
      unfold clr
      rw [if_neg (by omega), if_neg (by omega), if_neg (by omega), if_neg (by omega), if_neg (by omega)]
    · exact y4 a b c e⟩
  refine ⟨X, Y, x1, y1, ⟨h.of hj x6 om (fun c hc => ?_) (fun t ht => ?_) ⟨fun t ht => ?_, fun t h1 h2 => x4 t h2, ?_⟩, x6, om, fun q hq => ?_⟩, x3, fun c hc => (x2 c hc).2.2⟩
  · rw [(x2 c hc).1, (x2 c hc).2.1, (x2 c hc).2.2, y3, y3, y3]
    unfold clr
    rw [if_pos hc, if_neg (show ¬ 256 + c < 256 by omega), if_pos (show 256 + c < 512 by omega), if_neg (show ¬ 512 + c < 256 by omega), if_neg (show ¬ 512 + c < 512 by omega), if_pos (show 512 + c < 768 by omega)]
    exact ⟨⟨rfl, by decide, by decide⟩, h.2.1.2.1.symm, rfl, Or.inl rfl⟩
  · refine ⟨0, by omega, x3 t ht, ?_, fun _ => rfl, fun k hk => absurd hk (by omega)⟩
    rw [y3]
    unfold clr
    rw [if_neg (by omega), if_neg (by omega), if_neg (by omega), if_pos (by omega), if_pos (by omega)]
    rfl
  · rw [x4 t (by omega), y3, y3]
    unfold clr
    rw [if_neg (by omega), if_neg (by omega), if_neg (by omega), if_neg (by omega), if_pos (by omega), if_neg (by omega), if_neg (by omega), if_neg (by omega), if_neg (by omega), if_pos (by omega)]
    decide
  · rw [x5 10 (by omega) (by omega), x5 11 (by omega) (by omega), x5 12 (by omega) (by omega), y3, y3, y3]
    exact ⟨rfl, rfl, rfl⟩
  · by_cases hc : q < 256
    · exact (x2 q hc).2.2
    · rw [x7 q (by omega)]; exact hq
end WP
