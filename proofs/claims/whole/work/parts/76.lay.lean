/-! one sample: shading what is pending, laying -/
section JL
variable {n W H T K i j k t x y s : Nat} {M M' Mx Mm Mx' Mm' : gM}
theorem AK.w {τ ζ : Nat → Int32} {cu v : Int32} (hj : j = 8 ∨ j = 9) (h : AK τ ζ cu M) : AK τ ζ cu (wI M 52 j k v) := by
  refine ⟨fun e he => ?_, ?_, ?_⟩
  · rw [w_n (by omega), w_n (by omega), w_n (by omega)]
    exact h.1 e he
  · rw [w_n (by omega)]
    exact h.2.1
  · rw [w_n (by omega)]
    exact h.2.2
theorem pl_e (x y s : Nat) : (4 * ((8 * nI y) + nI x)) + nI s = nI (plc x y s) := by
  rw [nlit 8, nI_mul, nI_add, nlit 4, nI_mul, nI_add]
  rfl
theorem nI_neg {a : Nat} (h : a < 2 ^ 31) : ¬ nI a < 0 := fun z => absurd ((nI_ltI h (by decide)).mp (show nI a < nI 0 from z)) (by omega)
theorem nI_m1 {a : Nat} (h : a < 2 ^ 31) : ¬ nI a = -1 := fun z => nI_neg h (by rw [z]; decide)
theorem pl_d4 (hx : x < 8) (hs : s < 4) (hy : y < 8) : nI (plc x y s) / 4 = nI (8 * y + x) := by
  have e : plc x y s = 4 * (8 * y + x) + s := rfl
  rw [nlit 4, nI_div (by omega) (by omega)]
  congr 1
  omega
theorem x11_lights (hj : j = 8 ∨ j = 9) (ht : t < 10) (hx : x < 8) (hy : y < 8) : X11_lights j (nI t) (nI x) (nI y) M = some (wI M 52 j (1034 + 2 * t + y / 4) (M.1 52 j (1034 + 2 * t + y / 4) ||| lq x y)) := by
  unfold X11_lights
  have e : (1034 + (2 * nI t)) + (nI y / 4) = nI (1034 + 2 * t + y / 4) := by
    rw [nlit 2, nI_mul, nlit 1034, nI_add, nlit 4, nI_div (by omega) (by omega), nI_add]
  have e2 : (8 * (gRem (nI y) 4)) + nI x = nI (8 * (y % 4) + x) := by
    rw [nlit 4, nI_rem (by omega) (by omega), nlit 8, nI_mul, nI_add]
  rw [e, e2, gLen8 hj, gG_t (gin_n (by omega) (by decide)), gG_t (gin_n (by omega) (by decide)), gLet_e, nI_clamp (by omega)]
  rfl
theorem x9_blend {a : Nat} (ht : t < 10) (hx : x < 8) (hy : y < 8) (hs : s < 4) : X9_blend i (nI t) (nI (plc x y s)) M = some (wL (wI M 35 i (plc x y s) (((M.1 27 t (8 * y + x)) * (M.1 9 1 t) + (M.1 35 i (plc x y s)) * (8 - M.1 9 1 t)) / 8)) 41 i t (M.2 41 i t ||| lqL (8 * y + x))) := by
  have hp : plc x y s < 256 := by unfold plc; omega
  unfold X9_blend
  rw [pl_d4 hx hs hy, gG_t (gin_n ht (by decide)), gLet_e, gG_t (gin_n ht (by decide)), gG_t (gin_n (by omega) (by decide)), gLet_e, gG_t (gin_n hp (by decide)), gG_t (gin_n hp (by decide)), gLet_e, gG_t (gin_n ht (by decide)), gG_t (gin_n ht (by decide)), gLet_e, nI_clamp (n := t) (by omega), nI_clamp (n := plc x y s) (by omega), nI_clamp (n := 8 * y + x) (by omega)]
  rfl
/-- what is known behind a step -/
def JS (n W H T K i j k : Nat) (Mx Mm Mx' Mm' : gM) : Prop := RJ n W H T K i j Mx' Mm' ∧ OX i Mx Mx' ∧ OM j Mm Mm' ∧ ∀ c, c ≠ k → Mx'.1 36 i c = Mx.1 36 i c
theorem j_shade (hj : j = 8 ∨ j = 9) (h : RJ n W H T K i j Mx Mm) (hx : x < W) (hy : y < H) (hs : s < K) : ∃ Mx' Mm', X9_shadePending i (nI (plc x y s)) Mx = some Mx' ∧ X11_shadesPending j (nI x) (nI y) (nI s) Mm = some Mm' ∧ JS n W H T K i j (plc x y s) Mx Mm Mx' Mm' ∧ Mx'.1 36 i (plc x y s) = -1 ∧
    ∀ t, t < n → AK (ct Mx i t) (zt Mx t) (Mx.1 40 i 0) Mm → (Mx.1 36 i (plc x y s) = -1 ∨ Mx.1 36 i (plc x y s) = nI t) → AK (ct Mx i t) (zt Mx t) (Mx.1 40 i 0) Mm' := by
  have hd := h.1.1
  have hn := h.1.2.1
  have hp := plc_lt hd hx hy hs
  have hW := hd.1
  have hH := hd.2.1
  have hK := hd.2.2.2
  have f := h.2.2.2.2.2.1 (plc x y s) hp
  have e5 : (512 : Int32) + nI (plc x y s) = nI (512 + plc x y s) := by rw [nlit 512, nI_add]
  have e2 : (256 : Int32) + nI (plc x y s) = nI (256 + plc x y s) := by rw [nlit 256, nI_add]
  unfold X9_shadePending X11_shadesPending X11_place
  rw [bind_e, pl_e, e5, e2, pl_d4 (by omega) (by omega) (by omega), gLen8 hj, gG_t (gin_n (n := 1242) (k := 512 + plc x y s) (by omega) (by decide)), gLet_e, gG_t (gin_n hp (by decide)), gLet_e, nI_clamp (n := plc x y s) (by omega), nI_clamp (n := 512 + plc x y s) (by omega), ← f.2.2.1]
  rcases f.2.2.2 with e | ⟨u, hu, e, hA⟩
  · refine ⟨Mx, Mm, ?_, ?_, ⟨h, OX.rf i Mx, OM.rf j Mm, fun _ _ => rfl⟩, e, fun t _ a _ => a⟩
    · rw [e, if_pos (by decide), gG_t (gin_n hp (by decide)), w_same e]
    · rw [e, gLet_e, if_pos rfl]
  · obtain ⟨M7, e7, a7, s7⟩ := x11_asksR h.2.1 (by omega) h.2.2.2.1 h.2.2.2.2.1 hj hu
    have h7 := h.ask hj s7
    have sc7 := h7.2.1
    have e8 := x11_shade (t := u) (x := x) (y := y) (ct_cb h.2.2.2.1 hu) (h.1.2.2.2.2.2.2 u hu).2.1 a7 hA (by omega) (by omega) (by omega) ((sc7.2.2.2 u hu).1) ((sc7.2.2.2 u hu).2.2) (h.1.2.2.2.2.2.2 u hu).1
    have e27 := (h.2.2.1 u hu).2.2.2.2.2.2.2.2 x y (by omega) (by omega)
    have r1 := (h7.col hj (v := trB (ct Mx i u) (zt Mx u) (Mx.1 7 1 u) (Mx.1 8 1 u) x y) hp)
    have r2 := r1.pen hj (v := -1) hp (Or.inl rfl)
    have r3 := r2.lit hj hu (x := x) (y := y) (by omega) (by omega)
    refine ⟨_, _, ?_, ?_, ⟨r3, ?_, ?_, ?_⟩, ?_, ?_⟩
    · rw [e, if_neg (nI_neg (by omega)), nlit 10, if_neg (nI_ge (by omega) (by decide)), gG_t (gin_n (by omega) (by decide)), gG_t (gin_n (by omega) (by decide)), gG_t (gin_n hp (by decide)), gLet_e, gG_t (gin_n (by omega) (by decide)), gG_t (gin_n (by omega) (by decide)), gLet_e, gG_t (gin_n hp (by decide)), gLet_e, nI_clamp (n := u) (by omega), nI_clamp (n := 8 * y + x) (by omega), e27]
      rfl
    · rw [e, gLet_e, if_neg (nI_m1 (a := u) (by omega)), e7, bind_e, e8, bind_e, gG_t (gin_n (by omega) (by decide)), gLet_e, nI_clamp (n := 256 + plc x y s) (by omega), gG_t (gin_n (by omega) (by decide)), gLet_e, x11_lights hj (by omega) (by omega) (by omega), bind_e]
    · exact ((OX.w (by unfold xQ; omega)).tr (OX.w (by unfold xQ; omega))).tr OX.wl
    · exact (((OM.ask s7).tr (OM.w (by omega))).tr (OM.w (by omega))).tr (OM.w (by omega))
    · intro c hc
      show (wI (wI Mx 35 i (plc x y s) _) 36 i (plc x y s) (-1)).1 36 i c = _
      rw [w_n (by omega), w_n (by omega)]
    · exact w_e
    · intro t ht _ hor
      rcases hor with z | z
      · exact absurd (e.symm.trans z) (nI_m1 (by omega))
      · have eu : u = t := nI_inj (by omega) (by omega) (e.symm.trans z)
        subst eu
        exact ((a7.w hj).w hj).w hj
end JL
