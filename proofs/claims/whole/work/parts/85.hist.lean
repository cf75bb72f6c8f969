/-! history: keep, remember -/
def HS (q n NT nf : Nat) (Mx Mm : gM) : Prop := ∃ p h f, p < 40 ∧ p ≤ nf ∧ h ≤ 40 ∧ f < 40 ∧ (h ≤ p ∨ nf = 40) ∧ Mx.1 43 0 1 = nI p ∧ Mx.1 43 0 2 = nI h ∧ Mm.1 50 0 22 = nI f ∧ Mm.1 50 0 23 = nI h ∧ ∀ k, k < h → FX q n NT (3 + (p + 40 - h + k) % 40) (fun c => Mm.1 52 11 (1242 * ((f + k) % 40) + c)) Mx
section HI
variable {n q NT nf p h f : Nat} {M M' Mx Mm Mx' Mm' Z : gM}
theorem z_new (k : Nat) : ∀ a b c, ¬ (33 ≤ a ∧ a ≤ 42 ∧ b = k) → (mX0 (gZero M 33 k) k).1 a b c = M.1 a b c ∧ (mX0 (gZero M 33 k) k).2 a b c = M.2 a b c := by
  intro a b c hn
  have e : ∀ (N : gM) r, 33 ≤ r → r ≤ 42 → (gZero N r k).1 a b c = N.1 a b c ∧ (gZero N r k).2 a b c = N.2 a b c := fun N r h1 h2 => by
    refine ⟨?_, ?_⟩
    · show (if a = r ∧ b = k then 0 else N.1 a b c) = _
      rw [if_neg (by omega)]
    · show (if a = r ∧ b = k then 0 else N.2 a b c) = _
      rw [if_neg (by omega)]
  unfold mX0
  refine ⟨?_, ?_⟩
  · rw [(e _ 42 (by omega) (by omega)).1, (e _ 41 (by omega) (by omega)).1, (e _ 40 (by omega) (by omega)).1, (e _ 39 (by omega) (by omega)).1, (e _ 38 (by omega) (by omega)).1, (e _ 37 (by omega) (by omega)).1, (e _ 36 (by omega) (by omega)).1, (e _ 35 (by omega) (by omega)).1, (e _ 34 (by omega) (by omega)).1, (e _ 33 (by omega) (by omega)).1]
  · rw [(e _ 42 (by omega) (by omega)).2, (e _ 41 (by omega) (by omega)).2, (e _ 40 (by omega) (by omega)).2, (e _ 39 (by omega) (by omega)).2, (e _ 38 (by omega) (by omega)).2, (e _ 37 (by omega) (by omega)).2, (e _ 36 (by omega) (by omega)).2, (e _ 35 (by omega) (by omega)).2, (e _ 34 (by omega) (by omega)).2, (e _ 33 (by omega) (by omega)).2]
theorem x2_keepT (hp : p < 40) (hh : h ≤ 40) (e1 : Mx.1 43 0 1 = nI p) (e2 : Mx.1 43 0 2 = nI h) (hz : ∀ a b c, ¬ (33 ≤ a ∧ a ≤ 42 ∧ b = p + 3) → Z.1 a b c = Mx.1 a b c ∧ Z.2 a b c = Mx.2 a b c) :
    ∃ Mx', X2_keepT 0 (p + 3) Z = some Mx' ∧ cpx 0 (p + 3) Mx Mx' ∧ Mx'.1 43 0 1 = nI ((p + 1) % 40) ∧ Mx'.1 43 0 2 = nI (min (h + 1) 40) ∧ (∀ a b c, ¬ ((33 ≤ a ∧ a ≤ 42 ∧ b = p + 3) ∨ a = 43) → Mx'.1 a b c = Mx.1 a b c) ∧ ∀ a b c, ¬ (33 ≤ a ∧ a ≤ 42 ∧ b = p + 3) → Mx'.2 a b c = Mx.2 a b c := by
  obtain ⟨Z1, c1, c2, c3, c4⟩ := x0_copy (M := Z) (i0 := p + 3) (i1 := 0) (by omega)
  have z1 : Z1.1 43 0 1 = nI p := by rw [c3 43 0 1 (by omega), (hz 43 0 1 (by omega)).1, e1]
  have z2 : Z1.1 43 0 2 = nI h := by rw [c3 43 0 2 (by omega), (hz 43 0 2 (by omega)).1, e2]
  have g : ∀ v, X2_keep_J59 v Z1 = some (wI (wI Z1 43 0 1 v) 43 0 2 (nI (min (h + 1) 40))) := fun v => by
    unfold X2_keep_J59
    rw [gLet_e, gLet_e, w_n (by omega), z2, nI_1, nlit 40, nI_min (by omega) (by omega)]
  have fin : ∀ v, cpx 0 (p + 3) Mx (wI (wI Z1 43 0 1 v) 43 0 2 (nI (min (h + 1) 40))) ∧ (wI (wI Z1 43 0 1 v) 43 0 2 (nI (min (h + 1) 40))).1 43 0 1 = v ∧ (wI (wI Z1 43 0 1 v) 43 0 2 (nI (min (h + 1) 40))).1 43 0 2 = nI (min (h + 1) 40) ∧ (∀ a b c, ¬ ((33 ≤ a ∧ a ≤ 42 ∧ b = p + 3) ∨ a = 43) → (wI (wI Z1 43 0 1 v) 43 0 2 (nI (min (h + 1) 40))).1 a b c = Mx.1 a b c) ∧ ∀ a b c, ¬ (33 ≤ a ∧ a ≤ 42 ∧ b = p + 3) → (wI (wI Z1 43 0 1 v) 43 0 2 (nI (min (h + 1) 40))).2 a b c = Mx.2 a b c := fun v => by
    refine ⟨⟨fun a c hc => ?_, fun c hc => ?_⟩, ?_, w_e, fun a b c hn => ?_, fun a b c hn => ?_⟩
    · rw [w_n (by omega), w_n (by omega), c2.1 a c hc, (hz a 0 c (by omega)).1]
    · rw [r2_wI, r2_wI, c2.2 c hc, (hz 41 0 c (by omega)).2]
    · rw [w_n (by omega), w_e]
    · rw [w_n (by omega), w_n (by omega), c3 a b c (by omega), (hz a b c (by omega)).1]
    · rw [r2_wI, r2_wI, c4 a b c (by omega), (hz a b c (by omega)).2]
  unfold X2_keepT
  rw [c1, bind_e, z1, nI_1, nlit 40]
  by_cases hc : 40 ≤ p + 1
  · rw [if_pos ((nI_leI (by omega) (by omega)).mpr hc), g]
    have f0 := fin 0
    refine ⟨_, rfl, f0.1, ?_, f0.2.2⟩
    rw [f0.2.1, show (p + 1) % 40 = 0 by omega]
    rfl
  · rw [if_neg (fun z => hc ((nI_leI (by omega) (by omega)).mp z)), g]
    have f0 := fin (nI (p + 1))
    refine ⟨_, rfl, f0.1, ?_, f0.2.2⟩
    rw [f0.2.1, Nat.mod_eq_of_lt (by omega)]
theorem x2_keep (hp : p < 40) (hpn : p ≤ nf) (hnf : nf ≤ 40) (hh : h ≤ 40) (e1 : Mx.1 43 0 1 = nI p) (e2 : Mx.1 43 0 2 = nI h) :
    ∃ Mx', X2_keep nf Mx = some (if p < nf then nf else nf + 1, Mx') ∧ cpx 0 (p + 3) Mx Mx' ∧ Mx'.1 43 0 1 = nI ((p + 1) % 40) ∧ Mx'.1 43 0 2 = nI (min (h + 1) 40) ∧ (∀ a b c, ¬ ((33 ≤ a ∧ a ≤ 42 ∧ b = p + 3) ∨ a = 43) → Mx'.1 a b c = Mx.1 a b c) ∧ ∀ a b c, ¬ (33 ≤ a ∧ a ≤ 42 ∧ b = p + 3) → Mx'.2 a b c = Mx.2 a b c := by
  unfold X2_keep
  rw [e1, gG_t (gin_n hp (by decide)), nI_clamp (by omega)]
  by_cases hc : p < nf
  · obtain ⟨X, x1, x2⟩ := x2_keepT (Z := Mx) hp hh e1 e2 (fun _ _ _ _ => ⟨rfl, rfl⟩)
    rw [if_pos hc, if_pos hc, x1]
    exact ⟨X, rfl, x2⟩
  · have he : p = nf := by omega
    subst he
    obtain ⟨X, x1, x2⟩ := x2_keepT (Z := mX0 (gZero Mx 33 (p + 3)) (p + 3)) hp hh e1 e2 (z_new (p + 3))
    rw [if_neg hc, if_neg hc, gG_t (decide_eq_true rfl), x1]
    exact ⟨X, rfl, x2⟩
theorem x11_remJ {B : Nat} (hf : f < 40) (hh : 1 ≤ h ∧ h ≤ 40) (e1 : M.1 50 0 22 = nI f) (e2 : M.1 50 0 23 = nI h) (eB : B = (f + h - 1) % 40) :
    ∃ M', X11_remember_J35 M = some M' ∧ M'.2 = M.2 ∧ ∀ r i c, M'.1 r i c = if r = 52 ∧ i = 11 ∧ 1242 * B ≤ c ∧ c < 1242 * B + 1242 then M.1 52 8 (c - 1242 * B) else M.1 r i c := by
  have hB : B < 40 := by rw [eB]; exact Nat.mod_lt _ (by decide)
  obtain ⟨M', c1, c2, c3⟩ := x11_copy (M := M) (i0 := 8) (i2 := 11) (a := 0) (b := 1242 * B) (by decide) (by decide) (by show 1242 * B + 1242 ≤ 49680; omega) (by decide)
  refine ⟨M', ?_, c2, fun r i c => ?_⟩
  · unfold X11_remember_J35
    rw [e1, e2, nI_add, nlit 1, nI_sub (by omega), nlit 40, nI_rem (by omega) (by decide), nlit 1242, nI_mul, ← eB]
    show ((X11_copyRow 8 (nI 0) 11 (nI (1242 * B)) M).bind _) = _
    rw [c1]
    rfl
  · rw [c3 r i c, Nat.zero_add]
theorem x11_rem (hf : f < 40) (hh : h ≤ 40) (e1 : Mm.1 50 0 22 = nI f) (e2 : Mm.1 50 0 23 = nI h) :
    ∃ Mm', X11_remember Mm = some Mm' ∧ Mm'.2 = Mm.2 ∧ Mm'.1 50 0 22 = nI (if h = 40 then (f + 1) % 40 else f) ∧ Mm'.1 50 0 23 = nI (min (h + 1) 40) ∧ (∀ c, c < 1242 → Mm'.1 52 11 (1242 * ((f + h) % 40) + c) = Mm.1 52 8 c) ∧ (∀ B c, B ≠ (f + h) % 40 → c < 1242 → Mm'.1 52 11 (1242 * B + c) = Mm.1 52 11 (1242 * B + c)) ∧ ∀ a b c, ¬ ((a = 52 ∧ b = 11) ∨ (a = 50 ∧ b = 0 ∧ (c = 22 ∨ c = 23))) → Mm'.1 a b c = Mm.1 a b c := by
  unfold X11_remember
  by_cases hc : h = 40
  · have e40 : Mm.1 50 0 23 = 40 := by rw [e2, hc]; rfl
    obtain ⟨M', c1, c2, c3⟩ := x11_remJ (M := wI Mm 50 0 22 (nI ((f + 1) % 40))) (B := (f + h) % 40) (f := (f + 1) % 40) (h := 40) (Nat.mod_lt _ (by decide)) (by decide) w_e (by rw [w_n (by omega)]; exact e40) (by omega)
    rw [if_pos e40, e1, nI_1, nlit 40, nI_rem (by omega) (by decide), gLet_e, c1]
    refine ⟨M', rfl, c2, ?_, ?_, fun c hc' => ?_, fun B c hB hc' => ?_, fun a b c hn => ?_⟩
    · rw [c3, if_neg (by omega), w_e, if_pos hc]
    · rw [c3, if_neg (by omega), w_n (by omega), e40, show min (h + 1) 40 = 40 by omega]
      rfl
    · rw [c3, if_pos (by omega), w_n (by omega), Nat.add_sub_cancel_left]
    · rw [c3, if_neg (by omega), w_n (by omega)]
    · rw [c3, if_neg (by omega), w_n (by omega)]
  · have e40 : ¬ Mm.1 50 0 23 = 40 := fun z => hc (nI_inj (by omega) (by decide) (e2.symm.trans z))
    obtain ⟨M', c1, c2, c3⟩ := x11_remJ (M := wI Mm 50 0 23 (nI (h + 1))) (B := (f + h) % 40) (f := f) (h := h + 1) hf (by omega) (by rw [w_n (by omega)]; exact e1) w_e (by rw [show f + (h + 1) - 1 = f + h by omega])
    rw [if_neg e40, e2, nI_1, gLet_e, c1]
    refine ⟨M', rfl, c2, ?_, ?_, fun c hc' => ?_, fun B c hB hc' => ?_, fun a b c hn => ?_⟩
    · rw [c3, if_neg (by omega), w_n (by omega), e1, if_neg hc]
    · rw [c3, if_neg (by omega), w_e, show min (h + 1) 40 = h + 1 by omega]
    · rw [c3, if_pos (by omega), w_n (by omega), Nat.add_sub_cancel_left]
    · rw [c3, if_neg (by omega), w_n (by omega)]
    · rw [c3, if_neg (by omega), w_n (by omega)]
theorem j_keep (hn : n ≤ 10) (hnf : nf ≤ 40) (hf : FX q n NT 0 (Mm.1 52 8) Mx) (hh : HS q n NT nf Mx Mm) :
    ∃ nf' Mx' Mm', X2_keep nf Mx = some (nf', Mx') ∧ X11_remember Mm = some Mm' ∧ nf ≤ nf' ∧ nf' ≤ 40 ∧ HS q n NT nf' Mx' Mm' ∧ (∀ a b c, ¬ ((33 ≤ a ∧ a ≤ 42 ∧ 3 ≤ b) ∨ a = 43) → Mx'.1 a b c = Mx.1 a b c) ∧ (∀ a b c, ¬ (33 ≤ a ∧ a ≤ 42 ∧ 3 ≤ b) → Mx'.2 a b c = Mx.2 a b c) ∧ (∀ a b c, ¬ ((a = 52 ∧ b = 11) ∨ (a = 50 ∧ b = 0 ∧ (c = 22 ∨ c = 23))) → Mm'.1 a b c = Mm.1 a b c) ∧ Mm'.2 = Mm.2 := by
  obtain ⟨p, h, f, h1, h2, h3, h4, h5, h6, h7, h8, h9, h10⟩ := hh
  obtain ⟨X, x1, x2, x3, x4, x5, x6⟩ := x2_keep (nf := nf) h1 h2 hnf h3 h6 h7
  obtain ⟨Y, y1, y2, y3, y4, y5, y6, y7⟩ := x11_rem h4 h3 h8 h9
  have hle : (if p < nf then nf else nf + 1) ≤ 40 := by split <;> omega
  refine ⟨_, X, Y, x1, y1, by split <;> omega, hle, ⟨(p + 1) % 40, min (h + 1) 40, if h = 40 then (f + 1) % 40 else f, Nat.mod_lt _ (by decide), ?_, by omega, ?_, ?_, x3, x4, y3, y4, fun k hk => ?_⟩, fun a b c hn => x5 a b c (by omega), fun a b c hn => x6 a b c (by omega), y7, y2⟩
  · split <;> omega
  · split
    · exact Nat.mod_lt _ (by decide)
    · exact h4
  · split <;> omega
  · have old : ∀ k0, k0 < h → (p + 40 - h + k0) % 40 ≠ p → (f + k0) % 40 ≠ (f + h) % 40 → FX q n NT (3 + (p + 40 - h + k0) % 40) (fun c => Y.1 52 11 (1242 * ((f + k0) % 40) + c)) X := fun k0 hk0 n1 n2 =>
      FX.cp hn (h10 k0 hk0) (cpx_of (fun a c _ _ => x5 a _ c (by omega)) (fun c => x6 41 _ c (by omega))) (fun c => x5 10 1 c (by omega)) (fun c hc => y6 _ c n2 hc)
    have new : FX q n NT (p + 3) (fun c => Y.1 52 11 (1242 * ((f + h) % 40) + c)) X := FX.cp hn hf x2 (fun c => x5 10 1 c (by omega)) (fun c hc => y5 c hc)
    by_cases hc : h = 40
    · rw [if_pos hc]
      by_cases hk2 : k = 39
      · rw [show 3 + ((p + 1) % 40 + 40 - min (h + 1) 40 + k) % 40 = p + 3 by omega, show ((f + 1) % 40 + k) % 40 = (f + h) % 40 by omega]
        exact new
      · rw [show 3 + ((p + 1) % 40 + 40 - min (h + 1) 40 + k) % 40 = 3 + (p + 40 - h + (k + 1)) % 40 by omega, show ((f + 1) % 40 + k) % 40 = (f + (k + 1)) % 40 by omega]
        exact old (k + 1) (by omega) (by omega) (by omega)
    · rw [if_neg hc]
      by_cases hk2 : k = h
      · rw [show 3 + ((p + 1) % 40 + 40 - min (h + 1) 40 + k) % 40 = p + 3 by omega, hk2]
        exact new
      · rw [show 3 + ((p + 1) % 40 + 40 - min (h + 1) 40 + k) % 40 = 3 + (p + 40 - h + k) % 40 by omega]
        exact old k (by omega) (by omega) (by omega)
end HI
