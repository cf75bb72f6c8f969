/-! the log: note, tells -/
theorem fl_mod {a : Nat} (ha : a < 1000000) (M : gM) : J9_floorMod_7cf53 (nI a) 60 M = some (nI (a % 60)) := by
  unfold J9_floorMod_7cf53
  have h0 : (0 : Int32) ≤ (nI a ^^^ 60) := (xor_neg (nI a) 60 (by decide)).mpr (by rw [nI_toInt (by omega)]; omega)
  rw [gG_t (by decide), gLet_e, if_pos h0, nlit 60, nI_rem (by omega) (by decide)]
theorem w_ee {M : gM} {r i k c : Nat} {v : Int32} (h : c = k) : (wI M r i k v).1 r i c = v := if_pos ⟨rfl, rfl, h⟩
def trio (a b p : Int32) (c : Nat) : Int32 := if c = 0 then a else if c = 1 then b else p
section NT
variable {n W H T K i j k t m : Nat} {w w' : Nat → Int32} {M M' Mx Mm Mx' Mm' : gM} {v u a b P : Int32}
theorem x11_shift : ∃ M', gIter (fun s => X11_tells_L15 v u s.1 s.2) FU (nI 1, M) = some M' ∧ M'.2 = M.2 ∧ ∀ r i c, M'.1 r i c = if r = 52 ∧ i = 8 ∧ 1062 ≤ c ∧ c < 1239 then M.1 52 8 (c + 3) else M.1 r i c := by
  obtain ⟨M', h1, h2⟩ := gI1_FU (step := fun s => X11_tells_L15 v u s.1 s.2) (fun k (x : gM) => (nI k, x)) (fun k x => 1 ≤ k ∧ x.2 = M.2 ∧ ∀ r i c, x.1 r i c = if r = 52 ∧ i = 8 ∧ 1062 ≤ c ∧ c < 1061 + k then M.1 52 8 (c + 3) else M.1 r i c)
    (fun x => x.2 = M.2 ∧ ∀ r i c, x.1 r i c = if r = 52 ∧ i = 8 ∧ 1062 ≤ c ∧ c < 1239 then M.1 52 8 (c + 3) else M.1 r i c) 1 178 (by omega) (by omega)
    (fun k x hk hx => by
      obtain ⟨h0, hx⟩ := hx
      refine ⟨wI x 52 8 (1061 + k) (M.1 52 8 (1061 + k + 3)), ?_, by omega, hx.1, fun r i c => ?_⟩
      · show X11_tells_L15 v u (nI k) x = _
        unfold X11_tells_L15
        rw [nlit 177, if_neg (fun z => absurd ((nI_ltI (by omega) (by omega)).mp z) (by omega)), nlit 1061, nI_add, nlit 3, nI_add, gG_t (gin_n (k := 1061 + k + 3) (by omega) (by decide)), gG_t (gin_n (k := 1061 + k) (by omega) (by decide)), gLet_e, gLet_e, nI_1, nI_clamp (n := 1061 + k + 3) (by omega), nI_clamp (n := 1061 + k) (by omega), hx.2 52 8 (1061 + k + 3), if_neg (by omega)]
      · rw [r1_wI, hx.2 r i c]
        by_cases e : r = 52 ∧ i = 8 ∧ c = 1061 + k
        · rw [if_pos e, if_pos (by omega), e.2.2]
        · rw [if_neg e]
          by_cases e2 : r = 52 ∧ i = 8 ∧ 1062 ≤ c ∧ c < 1061 + k
          · rw [if_pos e2, if_pos (by omega)]
          · rw [if_neg e2, if_neg (by omega)])
    (fun x hx => ⟨x, by
      show X11_tells_L15 v u (nI 178) x = _
      unfold X11_tells_L15
      rw [nlit 177, if_pos ((nI_ltI (by decide) (by decide)).mpr (by decide))], hx.2⟩) M ⟨by omega, rfl, fun r i c => by rw [if_neg (by omega)]⟩
  exact ⟨M', h1, h2⟩
theorem x11_tJ {c0 : Nat} (hc : M.1 52 8 1061 = nI c0) (h0 : c0 ≤ 59) (hp : ∀ M', M'.2 = M.2 → (∀ r e c, ¬ (r = 52 ∧ e = 8 ∧ 1061 ≤ c) → M'.1 r e c = M.1 r e c) → X11_pairs 8 M' = some P) :
    X11_tells_J62 a b M = some (wI (wI (wI (wI M 52 8 (1062 + 3 * c0) a) 52 8 (1062 + 3 * c0 + 1) b) 52 8 (1062 + 3 * c0 + 2) P) 52 8 1061 (nI (c0 + 1))) := by
  unfold X11_tells_J62
  have e : (1062 : Int32) + (3 * nI c0) = nI (1062 + 3 * c0) := by rw [nlit 3, nI_mul, nlit 1062, nI_add]
  rw [hc, e, gLet_e, nI_1, gG_t (gin_n (k := 1062 + 3 * c0) (by omega) (by decide)), gLet_e, gG_t (gin_n (k := 1062 + 3 * c0 + 1) (by omega) (by decide)), gLet_e, nI_clamp (n := 1062 + 3 * c0) (by omega), nI_clamp (n := 1062 + 3 * c0 + 1) (by omega), hp (wI (wI M 52 8 (1062 + 3 * c0) a) 52 8 (1062 + 3 * c0 + 1) b) rfl (fun r e c hn => by rw [w_n (by omega), w_n (by omega)]), bind_e, nlit 2, nI_add, gG_t (gin_n (k := 1062 + 3 * c0 + 2) (by omega) (by decide)), gLet_e, gLet_e, nI_clamp (n := 1062 + 3 * c0 + 2) (by omega), w_n (by omega), w_n (by omega), w_n (by omega), hc, nI_1]
theorem x11_tells {cn : Nat} (hc : Mm.1 52 8 1061 = nI cn) (hcn : cn ≤ 60) (hp : ∀ M', M'.2 = Mm.2 → (∀ r e c, ¬ (r = 52 ∧ e = 8 ∧ 1061 ≤ c) → M'.1 r e c = Mm.1 r e c) → X11_pairs 8 M' = some P) :
    ∃ Mm', X11_tells a b Mm = some Mm' ∧ Mm'.2 = Mm.2 ∧ Mm'.1 52 8 1061 = nI (min (cn + 1) 60) ∧ (∀ c, c < 3 → Mm'.1 52 8 (1062 + 3 * (min (cn + 1) 60 - 1) + c) = trio a b P c) ∧ (∀ c, c < 3 * (min (cn + 1) 60 - 1) → Mm'.1 52 8 (1062 + c) = Mm.1 52 8 (1062 + c + if cn = 60 then 3 else 0)) ∧ ∀ r e c, ¬ (r = 52 ∧ e = 8 ∧ 1061 ≤ c) → Mm'.1 r e c = Mm.1 r e c := by
  unfold X11_tells
  by_cases h60 : cn = 60
  · have e60 : Mm.1 52 8 1061 = 60 := by rw [hc, h60]; rfl
    obtain ⟨Y, y1, y2, y3⟩ := x11_shift (M := Mm) (v := a) (u := b)
    rw [if_pos e60]
    show ∃ Mm', ((gIter (fun s => X11_tells_L15 a b s.1 s.2) FU (nI 1, Mm)).bind _) = _ ∧ _
    have yc : Y.1 52 8 1061 - 1 = nI 59 := by rw [y3, if_neg (by omega), e60]; rfl
    rw [y1, bind_e, gLet_e, yc, x11_tJ (c0 := 59) (P := P) w_e (by omega) (fun M' m1 m2 => hp M' (by rw [m1]; exact y2) (fun r e c hn => by rw [m2 r e c hn, w_n (by omega), y3, if_neg (by omega)]))]
    refine ⟨_, rfl, y2, ?_, fun c h3 => ?_, fun c h3 => ?_, fun r e c hn => ?_⟩
    · rw [w_e, h60]; rfl
    · rw [h60]
      rcases (show c = 0 ∨ c = 1 ∨ c = 2 by omega) with rfl | rfl | rfl
      · rw [w_n (by omega), w_n (by omega), w_n (by omega), w_ee (by omega)]; rfl
      · rw [w_n (by omega), w_n (by omega), w_ee (by omega)]; rfl
      · rw [w_n (by omega), w_ee (by omega)]; rfl
    · rw [w_n (by omega), w_n (by omega), w_n (by omega), w_n (by omega), w_n (by omega), y3, if_pos (by omega), if_pos h60]
    · rw [w_n (by omega), w_n (by omega), w_n (by omega), w_n (by omega), w_n (by omega), y3, if_neg (by omega)]
  · have e60 : ¬ Mm.1 52 8 1061 = 60 := fun z => h60 (nI_inj (by omega) (by decide) (hc.symm.trans z))
    rw [if_neg e60, x11_tJ (P := P) hc (by omega) hp]
    refine ⟨_, rfl, rfl, ?_, fun c h3 => ?_, fun c h3 => ?_, fun r e c hn => ?_⟩
    · rw [w_e, show min (cn + 1) 60 = cn + 1 by omega]
    · rw [show min (cn + 1) 60 - 1 = cn by omega]
      rcases (show c = 0 ∨ c = 1 ∨ c = 2 by omega) with rfl | rfl | rfl
      · rw [w_n (by omega), w_n (by omega), w_n (by omega), w_ee (by omega)]; rfl
      · rw [w_n (by omega), w_n (by omega), w_ee (by omega)]; rfl
      · rw [w_n (by omega), w_ee (by omega)]; rfl
    · rw [w_n (by omega), w_n (by omega), w_n (by omega), w_n (by omega), if_neg h60, Nat.add_zero]
    · rw [w_n (by omega), w_n (by omega), w_n (by omega), w_n (by omega)]
theorem x0_note {lg : Nat} (h9 : Mx.1 33 i 9 = nI lg) (hl : lg < 1000000) :
    ∃ Mx', X0_note i a b Mx = some Mx' ∧ Mx'.2 = Mx.2 ∧ Mx'.1 33 i 9 = nI (lg + 1) ∧ (∀ c, c < 3 → Mx'.1 42 i (3 * (lg % 60) + c) = trio a b (nI (spc (lt1 i Mx) 10)) c) ∧ ∀ r e c, ¬ (r = 42 ∧ e = i ∧ 3 * (lg % 60) ≤ c ∧ c < 3 * (lg % 60) + 3) → ¬ (r = 33 ∧ e = i ∧ c = 9) → Mx'.1 r e c = Mx.1 r e c := by
  have hm : lg % 60 < 60 := Nat.mod_lt _ (by decide)
  have e3 : nI (lg % 60) * 3 = nI (3 * (lg % 60)) := by rw [nlit 3, nI_mul, Nat.mul_comm]
  refine ⟨wI (wI (wI (wI Mx 42 i (3 * (lg % 60)) a) 42 i (3 * (lg % 60) + 1) b) 42 i (3 * (lg % 60) + 2) (nI (spc (lt1 i Mx) 10))) 33 i 9 (nI (lg + 1)), ?_, rfl, w_e, fun c hc => ?_, fun r e c h1 h2 => ?_⟩
  · unfold X0_note
    rw [h9, fl_mod hl, bind_e, e3, gLet_e, nI_1, gG_t (gin_n (k := 3 * (lg % 60)) (by omega) (by decide)), gLet_e, gG_t (gin_n (k := 3 * (lg % 60) + 1) (by omega) (by decide)), gLet_e, nI_clamp (n := 3 * (lg % 60)) (by omega), nI_clamp (n := 3 * (lg % 60) + 1) (by omega), x0_pairs, bind_e, nlit 2, nI_add, gG_t (gin_n (k := 3 * (lg % 60) + 2) (by omega) (by decide)), gLet_e, gLet_e, nI_clamp (n := 3 * (lg % 60) + 2) (by omega), w_n (by omega), w_n (by omega), w_n (by omega), h9, nI_1]
    rfl
  · rcases (show c = 0 ∨ c = 1 ∨ c = 2 by omega) with rfl | rfl | rfl
    · rw [w_n (by omega), w_n (by omega), w_n (by omega), w_ee (by omega)]; rfl
    · rw [w_n (by omega), w_n (by omega), w_ee (by omega)]; rfl
    · rw [w_n (by omega), w_ee (by omega)]; rfl
  · rw [w_n (by omega), w_n (by omega), w_n (by omega), w_n (by omega)]
/-- both logs go on -/
theorem j_note (hn : n ≤ 10) (hm : m < 100000) (h16 : Mm.1 50 0 16 = nI n) (fl : FL n i (Mm.1 52 8) Mx) (hl : LGR m i (Mm.1 52 8) Mx) :
    ∃ Mx' Mm', X0_note i a b Mx = some Mx' ∧ X11_tells a b Mm = some Mm' ∧ LGR (m + 1) i (Mm'.1 52 8) Mx' ∧ Mx'.2 = Mx.2 ∧ Mm'.2 = Mm.2 ∧ (∀ r e c, ¬ (r = 42 ∧ e = i) → ¬ (r = 33 ∧ e = i ∧ c = 9) → Mx'.1 r e c = Mx.1 r e c) ∧ ∀ r e c, ¬ (r = 52 ∧ e = 8 ∧ 1061 ≤ c) → Mm'.1 r e c = Mm.1 r e c := by
  obtain ⟨lg, l1, l2, l3, l4⟩ := hl
  have hp : ∀ M', M'.2 = Mm.2 → (∀ r e c, ¬ (r = 52 ∧ e = 8 ∧ 1061 ≤ c) → M'.1 r e c = Mm.1 r e c) → X11_pairs 8 M' = some (nI (spc (lt1 i Mx) 10)) := fun M' m1 m2 => by
    refine (j_pairs (n := n) (Or.inl rfl) hn (by rw [m2 50 0 16 (by omega)]; exact h16) ?_).2
    exact FL.of hn fl (fun c => rfl) (fun c _ _ => rfl) (fun c h1 h2 => m2 52 8 c (by omega))
  obtain ⟨X, x1, x2, x3, x4, x5⟩ := x0_note (a := a) (b := b) l1 (by omega)
  obtain ⟨Y, y1, y2, y3, y4, y5, y6⟩ := x11_tells (a := a) (b := b) l3 (by omega) hp
  refine ⟨X, Y, x1, y1, ⟨lg + 1, x3, by omega, ?_, fun e he c hc => ?_⟩, x2, y2, fun r e c h1 h2 => x5 r e c (by omega) h2, y6⟩
  · rw [y3]
    congr 1
    omega
  · by_cases e0 : e = 0
    · subst e0
      rw [show (lg + 1 - 1 - 0) % 60 = lg % 60 by omega, x4 c hc, show min (lg + 1) 60 - 1 - 0 = min (min lg 60 + 1) 60 - 1 by omega, y4 c hc]
    · obtain ⟨d, rfl⟩ : ∃ d, e = d + 1 := ⟨e - 1, by omega⟩
      rw [show lg + 1 - 1 - (d + 1) = lg - 1 - d by omega, x5 42 i _ (by omega) (by omega), l4 d (by omega) c hc]
      rw [show 1062 + 3 * (min (lg + 1) 60 - 1 - (d + 1)) + c = 1062 + (3 * (min (lg + 1) 60 - 1 - (d + 1)) + c) by omega, y5 _ (by omega)]
      by_cases h60 : min lg 60 = 60
      · rw [if_pos h60]
        exact congrArg (Mm.1 52 8) (by omega)
      · rw [if_neg h60]
        exact congrArg (Mm.1 52 8) (by omega)
end NT
