/-! the reference takes the scene -/
section TD
variable {n k t : Nat} {M M' Y Y' : gM} {v : Int32}
theorem lp_w {step : Int32 × gM → Option ((Int32 × gM) ⊕ gM)} (r i off N : Nat) (val : Nat → Int32) (hN : N < 5000)
    (hs : ∀ k x, k < N → OQ (fun a b c => a = r ∧ b = i ∧ off ≤ c ∧ c < off + N) M x → step (nI k, x) = some (.inl (nI (k + 1), wI x r i (off + k) (val k))))
    (he : ∀ x, step (nI N, x) = some (.inr x)) : ∃ M', gIter step FU (0, M) = some M' ∧ (∀ k, k < N → M'.1 r i (off + k) = val k) ∧ OQ (fun a b c => a = r ∧ b = i ∧ off ≤ c ∧ c < off + N) M M' := by
  obtain ⟨M', e1, e2, e3⟩ := gI1_FU (step := step) (fun k (x : gM) => (nI k, x)) (fun k x => (∀ j, j < k → x.1 r i (off + j) = val j) ∧ OQ (fun a b c => a = r ∧ b = i ∧ off ≤ c ∧ c < off + N) M x) (fun x => (∀ j, j < N → x.1 r i (off + j) = val j) ∧ OQ (fun a b c => a = r ∧ b = i ∧ off ≤ c ∧ c < off + N) M x) 0 N (by omega) hN
    (fun k x hk hx => ⟨wI x r i (off + k) (val k), hs k x hk hx.2, fun j hj => by
      by_cases e : j = k
      · rw [e, w_e]
      · rw [w_n (by omega)]
        exact hx.1 j (by omega), hx.2.w ⟨rfl, rfl, by omega, by omega⟩⟩)
    (fun x hx => ⟨x, he x, hx⟩) M ⟨fun j hj => absurd hj (by omega), OQ.rf _ M⟩
  exact ⟨M', e1, e2, e3⟩
noncomputable def tl0 (M_10 : gM) : Option (Int32 × gM) := gLet (wI M_10 50 0 16 (M_10.1 50 0 15)) (fun M_12 => (gIter (fun s => X11_text_L129 s.1 s.2) FU (0, M_12)).bind (fun M_18 => (gIter (fun s => X11_text_L155 s.1 s.2) FU (0, M_18)).bind (fun M_24 => (gIter (fun s => X11_text_L181 s.1 s.2) FU (0, M_24)).bind (fun M_29 => (gIter (fun s => X11_text_L203 s.1 s.2) FU (0, M_29)).bind (fun M_38 => (gIter (fun s => X11_text_L259 s.1 s.2) FU (0, M_38)).bind (fun M_44 => (X11_clears 8 M_44).bind (fun M_46 => gLet (wI M_46 50 0 23 0) (fun M_47 => gLet (wI M_47 50 0 24 0) (fun M_48 => some ((M_48.1 50 0 16), M_48))))))))))
theorem x11_213 (ht : t < 10) : ∃ M', gIter (fun s => X11_text_L213 (nI t) s.1 s.2) FU (0, M) = some M' ∧ (∀ k, k < 9 → M'.1 52 8 (944 + 9 * t + k) = M.1 52 4 (12 * t + k)) ∧ OQ (fun a b c => a = 52 ∧ b = 8 ∧ 944 + 9 * t ≤ c ∧ c < 944 + 9 * t + 9) M M' :=
  lp_w (step := fun s => X11_text_L213 (nI t) s.1 s.2) 52 8 (944 + 9 * t) 9 (fun k => M.1 52 4 (12 * t + k)) (by omega)
    (fun k x hk hx => by
      have i1 : 12 * nI t + nI k = nI (12 * t + k) := by rw [nlit 12, nI_mul, nI_add]
      have i2 : 944 + 9 * nI t + nI k = nI (944 + 9 * t + k) := by rw [nlit 9, nI_mul, nlit 944, nI_add, nI_add]
      have gx : ∀ a b c, ¬ (a = 52 ∧ b = 8 ∧ 944 + 9 * t ≤ c ∧ c < 944 + 9 * t + 9) → x.1 a b c = M.1 a b c := hx.2
      show X11_text_L213 (nI t) (nI k) x = _
      unfold X11_text_L213
      rw [nlit 9, if_neg (nI_ge hk (by decide)), ← nlit 9, i1, i2, gG_t (gin_n (k := 12 * t + k) (by omega) (by decide)), gG_t (gin_n (k := 944 + 9 * t + k) (by omega) (by decide)), nI_clamp (n := 944 + 9 * t + k) (by omega), nI_clamp (n := 12 * t + k) (by omega), gLet_e, gLet_e, nI_1, gx 52 4 _ (by omega)])
    (fun x => by
      show X11_text_L213 (nI t) (nI 9) x = _
      unfold X11_text_L213
      rw [if_pos (by decide)])
theorem x11_203 (hn : n ≤ 10) (e16 : M.1 50 0 16 = nI n) : ∃ M', gIter (fun s => X11_text_L203 s.1 s.2) FU (0, M) = some M' ∧ (∀ t, t < n → ∀ k, k < 9 → M'.1 52 8 (944 + 9 * t + k) = M.1 52 4 (12 * t + k)) ∧ OQ (fun a b c => a = 52 ∧ b = 8 ∧ 944 ≤ c ∧ c < 1034) M M' := by
  obtain ⟨M', e1, e2, e3⟩ := gI1_FU (step := fun s => X11_text_L203 s.1 s.2) (fun k (x : gM) => (nI k, x)) (fun u x => (∀ t, t < u → ∀ k, k < 9 → x.1 52 8 (944 + 9 * t + k) = M.1 52 4 (12 * t + k)) ∧ OQ (fun a b c => a = 52 ∧ b = 8 ∧ 944 ≤ c ∧ c < 1034) M x) (fun x => (∀ t, t < n → ∀ k, k < 9 → x.1 52 8 (944 + 9 * t + k) = M.1 52 4 (12 * t + k)) ∧ OQ (fun a b c => a = 52 ∧ b = 8 ∧ 944 ≤ c ∧ c < 1034) M x) 0 n (by omega) (by omega)
    (fun u x hu hx => by
      have gx : ∀ a b c, ¬ (a = 52 ∧ b = 8 ∧ 944 ≤ c ∧ c < 1034) → x.1 a b c = M.1 a b c := hx.2.2
      obtain ⟨Z, z1, z2, z3⟩ := x11_213 (M := x) (t := u) (by omega)
      have gz : ∀ a b c, ¬ (a = 52 ∧ b = 8 ∧ 944 + 9 * u ≤ c ∧ c < 944 + 9 * u + 9) → Z.1 a b c = x.1 a b c := z3.2
      refine ⟨Z, ?_, fun t ht k hk => ?_, hx.2.tr (z3.mono fun a b c q => ⟨q.1, q.2.1, by omega, by omega⟩)⟩
      · show X11_text_L203 (nI u) x = _
        unfold X11_text_L203
        rw [gx 50 0 16 (by omega), e16, if_neg (nI_ge hu (by omega)), z1, bind_e, gLet_e, nI_1]
      · by_cases e : t = u
        · rw [e, z2 k hk, gx 52 4 _ (by omega)]
        · rw [gz 52 8 _ (by omega)]
          exact hx.1 t (by omega) k hk)
    (fun x hx => ⟨x, by
      have gx : ∀ a b c, ¬ (a = 52 ∧ b = 8 ∧ 944 ≤ c ∧ c < 1034) → x.1 a b c = M.1 a b c := hx.2.2
      show X11_text_L203 (nI n) x = _
      unfold X11_text_L203
      rw [gx 50 0 16 (by omega), e16, if_pos (nI_le (Nat.le_refl _) (by omega))], hx⟩) M ⟨fun t ht => absurd ht (by omega), OQ.rf _ M⟩
  exact ⟨M', e1, e2, e3⟩
/-- what the reference holds of the scene -/
def TLD (n : Nat) (Y Y' : gM) : Prop := Y'.1 50 0 16 = nI n ∧ (∀ c, c < 9 → Y'.1 52 2 c = Y.1 52 1 c) ∧ (∀ c, c < 120 → Y'.1 52 4 c = Y.1 52 3 c) ∧ (∀ t, t < n → ∀ c, c < 9 → Y'.1 52 8 (944 + 9 * t + c) = Y.1 52 3 (12 * t + c)) ∧ (∀ k, k < 4 → Y'.1 52 8 (1057 + k) = Y.1 52 1 (5 + k)) ∧ (∀ c, c < 256 → Y'.1 52 8 c = 1000 ∧ Y'.1 52 8 (256 + c) = Y.1 52 1 4 ∧ Y'.1 52 8 (512 + c) = -1) ∧ (∀ t, t < 16 → Y'.1 52 8 (768 + 11 * t) = 0) ∧ (∀ c, 1034 ≤ c → c < 1057 → Y'.1 52 8 c = 0) ∧ Y'.1 52 8 1061 = 0 ∧ Y'.1 50 0 23 = 0 ∧ Y'.1 50 0 24 = 0 ∧ OQ (fun a b c => (a = 52 ∧ (b = 2 ∨ b = 4 ∨ b = 8)) ∨ (a = 50 ∧ b = 0 ∧ (c = 16 ∨ c = 23 ∨ c = 24))) Y Y'
theorem x11_told (hn : n ≤ 10) (e15 : Y.1 50 0 15 = nI n) : ∃ Y', tl0 Y = some (nI n, Y') ∧ TLD n Y Y' := by
  obtain ⟨Ya, eYa⟩ : ∃ Ya, Ya = wI Y 50 0 16 (nI n) := ⟨_, rfl⟩
  have ga : ∀ a b c, ¬ (a = 50 ∧ b = 0 ∧ c = 16) → Ya.1 a b c = Y.1 a b c := fun a b c hq => by rw [eYa, w_n hq]
  have a16 : Ya.1 50 0 16 = nI n := by rw [eYa, w_e]
  obtain ⟨Yb, b1, b2, b3⟩ := lp_w (M := Ya) (step := fun s => X11_text_L129 s.1 s.2) 52 2 0 9 (fun k => Ya.1 52 1 k) (by omega)
    (fun k x hk hx => by
      show X11_text_L129 (nI k) x = _
      unfold X11_text_L129
      rw [nlit 9, if_neg (nI_ge hk (by decide)), gG_t (gin_n hk (by decide)), gG_t (gin_n hk (by decide)), nI_clamp (n := k) (by omega), gLet_e, gLet_e, nI_1, hx.2 52 1 k (by omega), Nat.zero_add])
    (fun x => by
      show X11_text_L129 (nI 9) x = _
      unfold X11_text_L129
      rw [if_pos (by decide)])
  obtain ⟨Yc, c1, c2, c3⟩ := lp_w (M := Yb) (step := fun s => X11_text_L155 s.1 s.2) 52 4 0 120 (fun k => Yb.1 52 3 k) (by omega)
    (fun k x hk hx => by
      show X11_text_L155 (nI k) x = _
      unfold X11_text_L155
      rw [nlit 120, if_neg (nI_ge hk (by decide)), gG_t (gin_n hk (by decide)), gG_t (gin_n hk (by decide)), nI_clamp (n := k) (by omega), gLet_e, gLet_e, nI_1, hx.2 52 3 k (by omega), Nat.zero_add])
    (fun x => by
      show X11_text_L155 (nI 120) x = _
      unfold X11_text_L155
      rw [if_pos (by decide)])
  obtain ⟨Yd, d1, d2, d3⟩ := lp_w (M := Yc) (step := fun s => X11_text_L181 s.1 s.2) 52 8 0 1242 (fun _ => 0) (by omega)
    (fun k x hk hx => by
      show X11_text_L181 (nI k) x = _
      unfold X11_text_L181
      rw [nlit 1242, if_neg (nI_ge hk (by decide)), gG_t (gin_n hk (by decide)), nI_clamp (n := k) (by omega), gLet_e, gLet_e, nI_1, Nat.zero_add])
    (fun x => by
      show X11_text_L181 (nI 1242) x = _
      unfold X11_text_L181
      rw [if_pos (by decide)])
  have gb : ∀ a b c, ¬ (a = 52 ∧ b = 2) → Yb.1 a b c = Ya.1 a b c := fun a b c hq => b3.2 a b c (by omega)
  have gc : ∀ a b c, ¬ (a = 52 ∧ b = 4) → Yc.1 a b c = Yb.1 a b c := fun a b c hq => c3.2 a b c (by omega)
  have gd : ∀ a b c, ¬ (a = 52 ∧ b = 8) → Yd.1 a b c = Yc.1 a b c := fun a b c hq => d3.2 a b c (by omega)
  obtain ⟨Ye, e1, e2, e3⟩ := x11_203 (M := Yd) hn (by rw [gd 50 0 16 (by omega), gc 50 0 16 (by omega), gb 50 0 16 (by omega)]; exact a16)
  have ge : ∀ a b c, ¬ (a = 52 ∧ b = 8 ∧ 944 ≤ c ∧ c < 1034) → Ye.1 a b c = Yd.1 a b c := e3.2
  obtain ⟨Yf, f1, f2, f3⟩ := lp_w (M := Ye) (step := fun s => X11_text_L259 s.1 s.2) 52 8 1057 4 (fun k => Ye.1 52 2 (5 + k)) (by omega)
    (fun k x hk hx => by
      have i1 : 5 + nI k = nI (5 + k) := by rw [nlit 5, nI_add]
      have i2 : 1057 + nI k = nI (1057 + k) := by rw [nlit 1057, nI_add]
      show X11_text_L259 (nI k) x = _
      unfold X11_text_L259
      rw [nlit 4, if_neg (nI_ge hk (by decide)), i1, i2, gG_t (gin_n (k := 5 + k) (by omega) (by decide)), gG_t (gin_n (k := 1057 + k) (by omega) (by decide)), nI_clamp (n := 1057 + k) (by omega), nI_clamp (n := 5 + k) (by omega), gLet_e, gLet_e, nI_1, hx.2 52 2 _ (by omega)])
    (fun x => by
      show X11_text_L259 (nI 4) x = _
      unfold X11_text_L259
      rw [if_pos (by decide)])
  have gf : ∀ a b c, ¬ (a = 52 ∧ b = 8 ∧ 1057 ≤ c ∧ c < 1061) → Yf.1 a b c = Ye.1 a b c := fun a b c hq => f3.2 a b c (by omega)
  obtain ⟨Yg, g1, g2, g3, g4⟩ := x11_clears (M := Yf) (j := 8) (Or.inl rfl)
  have v2 : ∀ c, c < 9 → Ye.1 52 2 c = Y.1 52 1 c := fun c hc => by
    have := b2 c hc
    rw [Nat.zero_add] at this
    rw [ge 52 2 c (by omega), gd 52 2 c (by omega), gc 52 2 c (by omega), this, ga 52 1 c (by omega)]
  have v4 : ∀ c, c < 120 → Yd.1 52 4 c = Y.1 52 3 c := fun c hc => by
    have := c2 c hc
    rw [Nat.zero_add] at this
    rw [gd 52 4 c (by omega), this, gb 52 3 c (by omega), ga 52 3 c (by omega)]
  have v8 : ∀ c, c < 1242 → ¬ (944 ≤ c ∧ c < 1034) → ¬ (1057 ≤ c ∧ c < 1061) → Yf.1 52 8 c = 0 := fun c hc h1 h2 => by
    have := d2 c hc
    rw [Nat.zero_add] at this
    rw [gf 52 8 c (by omega), ge 52 8 c (by omega), this]
  have f24 : Yf.1 52 2 4 = Y.1 52 1 4 := by rw [gf 52 2 4 (by omega), v2 4 (by omega)]
  have all : ∀ a b c, ¬ ((a = 52 ∧ (b = 2 ∨ b = 4 ∨ b = 8)) ∨ (a = 50 ∧ b = 0 ∧ c = 16)) → Yg.1 a b c = Y.1 a b c := fun a b c hq => by
    rw [g4 a b c (by omega), gf a b c (by omega), ge a b c (by omega), gd a b c (by omega), gc a b c (by omega), gb a b c (by omega), ga a b c (by omega)]
  have h16 : Yg.1 50 0 16 = nI n := by rw [g4 50 0 16 (by omega), gf 50 0 16 (by omega), ge 50 0 16 (by omega), gd 50 0 16 (by omega), gc 50 0 16 (by omega), gb 50 0 16 (by omega), a16]
  have wz : ∀ a b c, ¬ (a = 50 ∧ b = 0 ∧ (c = 23 ∨ c = 24)) → (wI (wI Yg 50 0 23 0) 50 0 24 0).1 a b c = Yg.1 a b c := fun a b c hq => by rw [w_n (by omega), w_n (by omega)]
  have cl : ∀ c, (wI (wI Yg 50 0 23 0) 50 0 24 0).1 52 8 c = clr (Yf.1 52 8) (Y.1 52 1 4) c := fun c => by rw [wz 52 8 c (by omega), g3 c, f24]
  refine ⟨wI (wI Yg 50 0 23 0) 50 0 24 0, ?_, ?_, fun c hc => ?_, fun c hc => ?_, fun t ht c hc => ?_, fun k hk => ?_, fun c hc => ⟨?_, ?_, ?_⟩, fun t ht => ?_, fun c h1 h2 => ?_, ?_, ?_, w_e, ?_, fun a b c hq => ?_⟩
  · unfold tl0
    rw [e15, gLet_e, ← eYa, b1, bind_e, c1, bind_e, d1, bind_e, e1, bind_e, f1, bind_e, g1, bind_e, gLet_e, gLet_e, wz 50 0 16 (by omega), h16]
  · rw [wz 50 0 16 (by omega)]
    exact h16
  · rw [wz 52 2 c (by omega), g4 52 2 c (by omega), gf 52 2 c (by omega)]
    exact v2 c hc
  · rw [wz 52 4 c (by omega), g4 52 4 c (by omega), gf 52 4 c (by omega), ge 52 4 c (by omega)]
    exact v4 c hc
  · rw [cl]
    unfold clr
    rw [if_neg (by omega), if_neg (by omega), if_neg (by omega), if_neg (by omega), if_neg (by omega), gf 52 8 _ (by omega), e2 t ht c hc, v4 _ (by omega)]
  · rw [cl]
    unfold clr
    rw [if_neg (by omega), if_neg (by omega), if_neg (by omega), if_neg (by omega), if_neg (by omega), f2 k hk, v2 _ (by omega)]
  · rw [cl]
    unfold clr
    rw [if_pos hc]
  · rw [cl]
    unfold clr
    rw [if_neg (by omega), if_pos (by omega)]
  · rw [cl]
    unfold clr
    rw [if_neg (by omega), if_neg (by omega), if_pos (by omega)]
  · rw [cl]
    unfold clr
    rw [if_neg (by omega), if_neg (by omega), if_neg (by omega), if_pos (by omega), if_pos (by omega)]
  · rw [cl]
    unfold clr
    rw [if_neg (by omega), if_neg (by omega), if_neg (by omega), if_neg (by omega), if_pos (by omega)]
  · rw [cl]
    unfold clr
    rw [if_neg (by omega), if_neg (by omega), if_neg (by omega), if_neg (by omega), if_neg (by omega)]
    exact v8 1061 (by omega) (by omega) (by omega)
  · rw [w_n (by omega), w_e]
  · show Yg.2 = Y.2
    rw [g2, f3.1, e3.1, d3.1, c3.1, b3.1, eYa]
    rfl
  · rw [wz a b c (by omega)]
    exact all a b c (by omega)
end TD
