/-! one sample: laying -/
section JL
variable {n W H T K i j k t x y s : Nat} {M M' Mx Mm Mx' Mm' : gM}
theorem le_z1 {z d : Int32} (h0 : 0 ≤ z.toInt) (h1 : z.toInt ≤ 1000) : z + 1 ≤ d ↔ z < d := by
  have e : (z + 1).toInt = z.toInt + 1 := add32 (by have : (1 : Int32).toInt = 1 := rfl; omega) (by have : (1 : Int32).toInt = 1 := rfl; omega)
  rw [Int32.le_iff_toInt_le, Int32.lt_iff_toInt_lt, e]
  omega
theorem x11_pass {d z : Int32} (hj : j = 8 ∨ j = 9) (hr : M.1 52 j 1058 = 0 ∨ M.1 52 j 1058 = 1) (h0 : 0 ≤ z.toInt) (h1 : z.toInt ≤ 1000) : X11_passes j d z M = some (if z + M.1 52 j 1058 ≤ d then 0 else 1) := by
  unfold X11_passes
  rw [nlit 1058, gLen8 hj, gG_t (gin_n (by decide) (by decide)), nI_clamp (by decide)]
  rcases hr with e | e <;> rw [e]
  · rw [if_neg (show ¬ (0 : Int32) = 1 by decide), Int32.add_zero]
    by_cases c : d < z
    · rw [if_pos c, if_neg (Int32.not_le.mpr c)]
    · rw [if_neg c, if_pos (Int32.not_lt.mp c)]
  · rw [if_pos rfl]
    by_cases c : d < z
    · rw [if_pos c, if_neg (fun q => Int32.lt_irrefl (Int32.lt_trans c ((le_z1 h0 h1).mp q)))]
    · rw [if_neg c]
      by_cases c2 : d = z
      · rw [if_pos c2, if_neg (fun q => Int32.lt_irrefl (a := z) (by have := (le_z1 h0 h1).mp q; rw [c2] at this; exact this))]
      · rw [if_neg c2, if_pos ((le_z1 h0 h1).mpr (Int32.lt_of_le_of_ne (Int32.not_lt.mp c) (fun q => c2 q.symm)))]
theorem x9_pass {d : Int32} (hk : k < 256) : X9_passes i d (nI k) M = if 0 ≤ d then some (if M.1 34 i k + M.1 40 i 1 ≤ d then 0 else 1, wI M 33 i 11 (M.1 33 i 11 + 1)) else some (0, M) := by
  unfold X9_passes
  rw [gLet_e, gG_t (gin_n hk (by decide)), nI_clamp (by omega), w_n (by omega), w_n (by omega)]
  by_cases c : 0 ≤ d
  · rw [if_pos c, if_pos c]
    split <;> rfl
  · rw [if_neg c, if_neg c]
/-- what the class does at one sample -/
noncomputable def layB (i t : Nat) (x2 x5 x6 x8 : Int32) (M : gM) : Option gM := gG (gin x8 256) ((X9_passes i (M.1 26 t (Int32.toNatClampNeg x8)) x8 M).bind (gU2 (fun r M1 => if r = 0 then some M1 else (if 8 ≤ x5 then gG (gin x8 256) (gG (gin x8 256) (gLet (wI M1 34 i (Int32.toNatClampNeg x8) (M1.1 26 t (Int32.toNatClampNeg x8))) (fun M2 => gG (gin x8 256) (gLet (wI M2 36 i (Int32.toNatClampNeg x8) x2) (fun M3 => if x6 = 0 then X9_shadePending i x8 M3 else some M3))))) else (X9_shadePending i x8 M1).bind (fun M2 => X9_blend i x2 x8 M2)))))
theorem layB_e {i t : Nat} {x2 x3 x5 x6 x7 : Int32} {M : gM} {q v : Int32} (h1 : gin (x3 + 1) 17 = true) (h2 : ¬ M.1 14 0 (Int32.toNatClampNeg (x3 + 1)) ≤ x7) (h3 : gin x7 256 = true) (h4 : M.1 13 0 (Int32.toNatClampNeg x7) = v) : X9_layOne_L50 i x2 x3 t x5 x6 x7 M = (layB i t x2 x5 x6 v M).bind (fun M' => some (.inl (x7 + 1, M'))) := by
  unfold X9_layOne_L50 layB
  rw [gG_t h1, if_neg h2, gG_t h3, h4, gLet_e]
  cases hg : gin v 256 with
  | false => rfl
  | true =>
    rw [gG_t rfl, gG_t rfl]
    cases X9_passes i (M.1 26 t (Int32.toNatClampNeg v)) v M with
    | none => rfl
    | some p =>
      obtain ⟨r, M1⟩ := p
      rw [bind_e, bind_e, gU2_e, gU2_e]
      by_cases hr : r = 0
      · rw [if_pos hr, if_pos hr]
        rfl
      · rw [if_neg hr, if_neg hr]
        by_cases h8 : 8 ≤ x5
        · rw [if_pos h8, if_pos h8]
          by_cases h6 : x6 = 0
          · simp only [gG_t (rfl : true = true), gLet_e, if_pos h6]
          · simp only [gG_t (rfl : true = true), gLet_e, if_neg h6, bind_e]
        · rw [if_neg h8, if_neg h8]
          cases X9_shadePending i v M1 with
          | none => rfl
          | some M2 => rfl
theorem cul_A {a c : Int32} (h : cul a c = false) : ¬ a = 0 := fun z => by
  unfold cul at h
  rw [decide_eq_true z] at h
  exact absurd h (by simp)
theorem dvl_t {τ ζ : Nat → Int32} (h : trC τ (qx K x s) (qy K y s) = true) : dvl τ ζ K x y s = trD τ ζ (qx K x s) (qy K y s) := if_pos h
theorem dvl_f {τ ζ : Nat → Int32} (h : trC τ (qx K x s) (qy K y s) = false) : dvl τ ζ K x y s = -1 := if_neg (by rw [h]; decide)
def akO (i t : Nat) (Mx M : gM) : Prop := AK (ct Mx i t) (zt Mx t) (Mx.1 40 i 0) M
theorem JS.tr {Mx'' Mm'' : gM} (h : JS n W H T K i j k Mx Mm Mx' Mm') (h' : JS n W H T K i j k Mx' Mm' Mx'' Mm'') : JS n W H T K i j k Mx Mm Mx'' Mm'' := ⟨h'.1, h.2.1.tr h'.2.1, h.2.2.1.tr h'.2.2.1, fun c hc => (h'.2.2.2 c hc).trans (h.2.2.2 c hc)⟩
theorem akO_of (o : OX i Mx Mx') (h : akO i t Mx M) : akO i t Mx' M := by
  unfold akO
  rw [o.ct, o.zt, o.1 40 i 0 (by unfold xQ; omega)]
  exact h
/-- behind the count of a test -/
theorem j_lay2 {x5 x6 d : Int32} (hj : j = 8 ∨ j = 9) (h : RJ n W H T K i j Mx Mm) (ht : t < n) (hA : ¬ trA (ct Mx i t) = 0) (ak : akO i t Mx Mm) (h5 : x5 = Mx.1 9 1 t) (h6 : x6 = if Mx.1 40 i 2 = 1 then 1 else 0) (hx : x < W) (hy : y < H) (hs : s < K) (e26 : Mx.1 26 t (plc x y s) = d) (bd : 0 ≤ d.toInt ∧ d.toInt ≤ 999) :
    ∃ Mx' Mm', (if (if Mx.1 34 i (plc x y s) + Mx.1 40 i 1 ≤ d then (0 : Int32) else 1) = 0 then some Mx else (if 8 ≤ x5 then gG (gin (nI (plc x y s)) 256) (gG (gin (nI (plc x y s)) 256) (gLet (wI Mx 34 i (plc x y s) (Mx.1 26 t (plc x y s))) (fun M2 => gG (gin (nI (plc x y s)) 256) (gLet (wI M2 36 i (plc x y s) (nI t)) (fun M3 => if x6 = 0 then X9_shadePending i (nI (plc x y s)) M3 else some M3))))) else (X9_shadePending i (nI (plc x y s)) Mx).bind (fun M2 => X9_blend i (nI t) (nI (plc x y s)) M2))) = some Mx' ∧
      gG (gin (0 + nI (plc x y s)) 1242) ((X11_passes j d (Mm.1 52 j (Int32.toNatClampNeg (0 + nI (plc x y s)))) Mm).bind (fun r_19 => (if r_19 = 0 then some Mm else gG (gin ((12 * nI t) + 10) 120) (gLet ((Mm.1 52 4 (Int32.toNatClampNeg ((12 * nI t) + 10)))) (fun x10_22 => (if 8 ≤ x10_22 then gG (gin (0 + nI (plc x y s)) 1242) (gLet (wI Mm 52 j (Int32.toNatClampNeg (0 + nI (plc x y s))) d) (fun M_25 => gG (gin (512 + nI (plc x y s)) 1242) (gLet (wI M_25 52 j (Int32.toNatClampNeg (512 + nI (plc x y s))) (nI t)) (fun M_27 => gG (gin 1059 1242) ((if (M_27.1 52 j (Int32.toNatClampNeg 1059)) = 0 then (X11_shadesPending j (nI x) (nI y) (nI s) M_27).bind (fun M_31 => some M_31) else some M_27)))))) else (X11_shadesPending j (nI x) (nI y) (nI s) Mm).bind (fun M_33 => (X11_asks j (nI t) M_33).bind (fun M_35 => (X11_shadeOf (nI t) (nI x) (nI y) M_35).bind (fun r_37 => gG (gin (256 + nI (plc x y s)) 1242) (gG (gin (256 + nI (plc x y s)) 1242) (gLet (wI M_35 52 j (Int32.toNatClampNeg (256 + nI (plc x y s))) (((r_37 * x10_22) + ((M_35.1 52 j (Int32.toNatClampNeg (256 + nI (plc x y s)))) * (8 - x10_22))) / 8)) (fun M_40 => (X11_lights j (nI t) (nI x) (nI y) M_40).bind (fun M_42 => some M_42))))))))))))) = some Mm' ∧ JS n W H T K i j (plc x y s) Mx Mm Mx' Mm' ∧ akO i t Mx' Mm' := by
  have hd := h.1.1
  have hn := h.1.2.1
  have hp := plc_lt hd hx hy hs
  have hW := hd.1
  have hH := hd.2.1
  have hK := hd.2.2.2
  have f := h.2.2.2.2.2.1 (plc x y s) hp
  have ru := h.2.2.2.2.1
  have c58 : Mm.1 52 j 1058 = Mx.1 40 i 1 := ru.1 1 (by decide)
  have c59 : Mm.1 52 j 1059 = Mx.1 40 i 2 := ru.1 2 (by decide)
  have pz := x11_pass (M := Mm) (d := d) (z := Mm.1 52 j (plc x y s)) hj (by rw [c58]; exact ru.2.2.1) (by rw [← f.1.1]; exact f.1.2.1) (by rw [← f.1.1]; exact f.1.2.2)
  have ea : Mm.1 52 4 (12 * t + 10) = x5 := by rw [h5]; exact (h.2.1.2.2.2 t ht).2.1
  have e12 : (12 * nI t) + 10 = nI (12 * t + 10) := by rw [nlit 12, nI_mul, nlit 10, nI_add]
  have e5 : (512 : Int32) + nI (plc x y s) = nI (512 + plc x y s) := by rw [nlit 512, nI_add]
  have e2 : (256 : Int32) + nI (plc x y s) = nI (256 + plc x y s) := by rw [nlit 256, nI_add]
  rw [Int32.zero_add, e12, e5, e2, nlit 1059, gG_t (gin_n (k := plc x y s) (n := 1242) (by omega) (by decide)), nI_clamp (n := plc x y s) (by omega), nI_clamp (n := 12 * t + 10) (by omega), nI_clamp (n := 512 + plc x y s) (by omega), nI_clamp (n := 256 + plc x y s) (by omega), nI_clamp (n := 1059) (by omega), pz, bind_e, c58, ← f.1.1, ea, gLet_e]
  by_cases c : Mx.1 34 i (plc x y s) + Mx.1 40 i 1 ≤ d
  · rw [if_pos c, if_pos rfl, if_pos rfl]
    exact ⟨Mx, Mm, rfl, rfl, ⟨h, OX.rf i Mx, OM.rf j Mm, fun _ _ => rfl⟩, ak⟩
  · rw [if_neg c, if_neg (show ¬ (1 : Int32) = 0 by decide), if_neg (show ¬ (1 : Int32) = 0 by decide), gG_t (gin_n (k := 12 * t + 10) (by omega) (by decide))]
    by_cases h8 : 8 ≤ x5
    · rw [if_pos h8, gLet_e x5, if_pos h8]
      have r2 := h.dep hj hp bd.1 (by omega)
      have r3 := r2.pen hj (v := nI t) hp (Or.inr ⟨t, ht, rfl, by rw [ct_of (fun c => w_n (by omega))]; exact hA⟩)
      have o3 : OX i Mx (wI (wI Mx 34 i (plc x y s) d) 36 i (plc x y s) (nI t)) := (OX.w (by unfold xQ; omega)).tr (OX.w (by unfold xQ; omega))
      have m3 : OM j Mm (wI (wI Mm 52 j (plc x y s) d) 52 j (512 + plc x y s) (nI t)) := (OM.w (by omega)).tr (OM.w (by omega))
      have j3 : JS n W H T K i j (plc x y s) Mx Mm (wI (wI Mx 34 i (plc x y s) d) 36 i (plc x y s) (nI t)) (wI (wI Mm 52 j (plc x y s) d) 52 j (512 + plc x y s) (nI t)) := ⟨r3, o3, m3, fun c hc => by rw [w_n (by omega), w_n (by omega)]⟩
      have k3 : akO i t (wI (wI Mx 34 i (plc x y s) d) 36 i (plc x y s) (nI t)) (wI (wI Mm 52 j (plc x y s) d) 52 j (512 + plc x y s) (nI t)) := akO_of o3 ((AK.w hj ak).w hj)
      have w59 : (wI (wI Mm 52 j (plc x y s) d) 52 j (512 + plc x y s) (nI t)).1 52 j 1059 = Mx.1 40 i 2 := by rw [w_n (by omega), w_n (by omega)]; exact c59
      have w36 : (wI (wI Mx 34 i (plc x y s) d) 36 i (plc x y s) (nI t)).1 36 i (plc x y s) = nI t := w_e
      rw [e26]
      simp only [gLet_e]
      rw [gG_t (gin_n hp (by decide)), gG_t (gin_n hp (by decide)), gG_t (gin_n hp (by decide)), gG_t (gin_n (k := plc x y s) (n := 1242) (by omega) (by decide)), gG_t (gin_n (k := 512 + plc x y s) (by omega) (by decide)), gG_t (gin_n (k := 1059) (by omega) (by decide)), w59]
      generalize wI (wI Mx 34 i (plc x y s) d) 36 i (plc x y s) (nI t) = X at *
      generalize wI (wI Mm 52 j (plc x y s) d) 52 j (512 + plc x y s) (nI t) = Y at *
      by_cases h2 : Mx.1 40 i 2 = 1
      · rw [h6, if_pos h2, if_neg (by decide), h2, if_neg (by decide)]
        exact ⟨X, Y, rfl, rfl, j3, k3⟩
      · have h20 : Mx.1 40 i 2 = 0 := ru.2.2.2.1.resolve_right h2
        rw [h6, if_neg h2, if_pos rfl, h20, if_pos rfl]
        obtain ⟨X', Y', g1, g2, g3, g4, g5⟩ := j_shade hj r3 hx hy hs
        refine ⟨X', Y', g1, ?_, j3.tr g3, akO_of g3.2.1 (g5 t ht k3 (Or.inr w36))⟩
        rw [g2]
        rfl
    · rw [if_neg h8, gLet_e x5, if_neg h8]
      obtain ⟨X, Y, g1, g2, g3, g4, g5⟩ := j_shade hj h hx hy hs
      have r1 := g3.1
      obtain ⟨M7, e7, a7, s7⟩ := x11_asksR r1.2.1 (by omega) r1.2.2.2.1 r1.2.2.2.2.1 hj ht
      have h7 := r1.ask hj s7
      have hA' : ¬ trA (ct X i t) = 0 := by rw [g3.2.1.ct]; exact hA
      have e8 := x11_shade (t := t) (x := x) (y := y) (ct_cb r1.2.2.2.1 ht) (r1.1.2.2.2.2.2.2 t ht).2.1 a7 hA' (by omega) (by omega) (by omega) ((h7.2.1.2.2.2 t ht).1) ((h7.2.1.2.2.2 t ht).2.2) (r1.1.2.2.2.2.2.2 t ht).1
      have e27 := (r1.2.2.1 t ht).2.2.2.2.2.2.2.2 x y (by omega) (by omega)
      have x59 : X.1 9 1 t = x5 := by rw [g3.2.1.1 9 1 t (by unfold xQ; omega), h5]
      have ec : X.1 35 i (plc x y s) = M7.1 52 j (256 + plc x y s) := (h7.2.2.2.2.2.1 (plc x y s) hp).2.1
      have r2 := h7.col hj (v := ((trB (ct X i t) (zt X t) (X.1 7 1 t) (X.1 8 1 t) x y) * x5 + (M7.1 52 j (256 + plc x y s)) * (8 - x5)) / 8) hp
      have r3 := r2.lit hj ht (x := x) (y := y) (by omega) (by omega)
      rw [g1, g2, bind_e, bind_e, x9_blend (a := 0) (by omega) (by omega) (by omega) (by omega), e7, bind_e, e8, bind_e, gG_t (gin_n (k := 256 + plc x y s) (by omega) (by decide)), gG_t (gin_n (k := 256 + plc x y s) (by omega) (by decide)), gLet_e, x11_lights hj (by omega) (by omega) (by omega), bind_e, e27, x59, ec]
      have j3 : JS n W H T K i j (plc x y s) X Y _ _ := ⟨r3, (OX.w (by unfold xQ; omega)).tr OX.wl, ((OM.ask s7).tr (OM.w (by omega))).tr (OM.w (by omega)), fun c hc => by rw [r1_wL, w_n (by omega)]⟩
      exact ⟨_, _, rfl, rfl, g3.tr j3, akO_of j3.2.1 ((AK.w hj a7).w hj)⟩
theorem j_lay {x5 x6 : Int32} (hj : j = 8 ∨ j = 9) (h : RJ n W H T K i j Mx Mm) (ht : t < n) (hc : cul (trA (ct Mx i t)) (Mx.1 40 i 0) = false) (ak : akO i t Mx Mm) (h5 : x5 = Mx.1 9 1 t) (h6 : x6 = if Mx.1 40 i 2 = 1 then 1 else 0) (hx : x < W) (hy : y < H) (hs : s < K) :
    ∃ Mx' Mm', layB i t (nI t) x5 x6 (nI (plc x y s)) Mx = some Mx' ∧ X11_laysAt j (nI t) (nI x) (nI y) (nI s) Mm = some Mm' ∧ JS n W H T K i j (plc x y s) Mx Mm Mx' Mm' ∧ akO i t Mx' Mm' := by
  have hd := h.1.1
  have hn := h.1.2.1
  have hp := plc_lt hd hx hy hs
  have hW := hd.1
  have hH := hd.2.1
  have hK := hd.2.2.2
  have hA := cul_A hc
  have f := h.2.2.2.2.2.1 (plc x y s) hp
  have ru := h.2.2.2.2.1
  have e26 := (h.2.2.1 t ht).2.2.2.2.2.2.2.1 x y s hx hy hs
  have eqx : nI (8 * x + sX K s) = qx K x s := rfl
  have eqy : nI (8 * y + sY K s) = qy K y s := rfl
  have sx := x11_sX h.2.1.1 hd hs
  unfold layB X11_laysAt X11_place
  rw [gG_t (gin_n hp (by decide)), nI_clamp (n := plc x y s) (by omega), e26, sx.1, bind_e, gLet_e, sx.2, bind_e, gLet_e, nlit 8, nI_mul, nI_mul, nI_add, nI_add, eqx, eqy, x11_cov ak, bind_e, hc, Bool.not_false, Bool.true_and]
  cases hb : trC (ct Mx i t) (qx K x s) (qy K y s) with
  | false =>
    refine ⟨Mx, Mm, ?_, ?_, ⟨h, OX.rf i Mx, OM.rf j Mm, fun _ _ => rfl⟩, ak⟩
    · rw [dvl_f hb, x9_pass hp, if_neg (by decide), bind_e, gU2_e, if_pos rfl]
    · rw [if_pos (by decide)]
  | true =>
    have bd := trD_k (s := s) h.1 h.2.2.2.1 ht hx hy hb
    have e0 : (0 : Int32) ≤ trD (ct Mx i t) (zt Mx t) (qx K x s) (qy K y s) := Int32.le_iff_toInt_le.mpr bd.1
    have ed := x11_depth (ct_cb h.2.2.2.1 ht) (h.1.2.2.2.2.2.2 t ht).2.1 ak hA (pb_q (K := K) (s := s) (x := x) (by omega)).1 (pb_q (K := K) (s := s) (x := y) (by omega)).2
    have e8 : nI 8 * nI y = nI (8 * y) := nI_mul 8 y
    have ep : nI 4 * (nI (8 * y) + nI x) + nI s = nI (plc x y s) := by rw [nI_add, nI_mul, nI_add]; rfl
    have r1 := h.cnt hj (k := 11) (by omega)
    have o1 : OX i Mx (wI Mx 33 i 11 (Mx.1 33 i 11 + 1)) := OX.w (by unfold xQ; omega)
    have m1 : OM j Mm (wI Mm 52 j (1044 + 11) (Mm.1 52 j (1044 + 11) + 1)) := OM.w (by omega)
    have j1 : JS n W H T K i j (plc x y s) Mx Mm (wI Mx 33 i 11 (Mx.1 33 i 11 + 1)) (wI Mm 52 j (1044 + 11) (Mm.1 52 j (1044 + 11) + 1)) := ⟨r1, o1, m1, fun c _ => w_n (by omega)⟩
    have k1 : akO i t (wI Mx 33 i 11 (Mx.1 33 i 11 + 1)) (wI Mm 52 j (1044 + 11) (Mm.1 52 j (1044 + 11) + 1)) := akO_of o1 (AK.w hj ak)
    rw [dvl_t hb, x9_pass hp, if_pos e0, bind_e, gU2_e, if_neg (show ¬ ((if true = true then (1 : Int32) else 0) = 0) by decide), bind_e, nlit 4, ep, ed, bind_e, gLen8 hj, nlit 1055, gG_t (gin_n (k := 1055) (by decide) (by decide)), gG_t (gin_n (k := 1055) (by decide) (by decide)), gLet_e, nI_clamp (n := 1055) (by decide)]
    show ∃ Mx' Mm', _ ∧ gG (gin (0 + nI (plc x y s)) 1242) ((X11_passes j (trD (ct Mx i t) (zt Mx t) (qx K x s) (qy K y s)) ((wI Mm 52 j (1044 + 11) (Mm.1 52 j (1044 + 11) + 1)).1 52 j (Int32.toNatClampNeg (0 + nI (plc x y s)))) (wI Mm 52 j (1044 + 11) (Mm.1 52 j (1044 + 11) + 1))).bind _) = _ ∧ _
    have q34 : (wI Mx 33 i 11 (Mx.1 33 i 11 + 1)).1 34 i (plc x y s) = Mx.1 34 i (plc x y s) := w_n (by omega)
    have q40 : (wI Mx 33 i 11 (Mx.1 33 i 11 + 1)).1 40 i 1 = Mx.1 40 i 1 := w_n (by omega)
    have q42 : (wI Mx 33 i 11 (Mx.1 33 i 11 + 1)).1 40 i 2 = Mx.1 40 i 2 := w_n (by omega)
    have q9 : (wI Mx 33 i 11 (Mx.1 33 i 11 + 1)).1 9 1 t = Mx.1 9 1 t := w_n (by omega)
    have q26 : (wI Mx 33 i 11 (Mx.1 33 i 11 + 1)).1 26 t (plc x y s) = trD (ct Mx i t) (zt Mx t) (qx K x s) (qy K y s) := by rw [w_n (by omega), e26, dvl_t hb]
    have qct : ct (wI Mx 33 i 11 (Mx.1 33 i 11 + 1)) i t = ct Mx i t := o1.ct
    have qzt : zt (wI Mx 33 i 11 (Mx.1 33 i 11 + 1)) t = zt Mx t := o1.zt
    rw [← q34, ← q40, ← qct, ← qzt]
    rw [← qct, ← qzt] at q26 bd
    rw [← qct] at hA
    rw [← q9] at h5
    rw [← q42] at h6
    generalize wI Mx 33 i 11 (Mx.1 33 i 11 + 1) = X at *
    generalize wI Mm 52 j (1044 + 11) (Mm.1 52 j (1044 + 11) + 1) = Y at *
    obtain ⟨X', Y', g1, g2, g3, g4⟩ := j_lay2 (x5 := x5) (x6 := x6) hj r1 ht hA k1 h5 h6 hx hy hs q26 bd
    exact ⟨X', Y', g1, g2, j1.tr g3, g4⟩
end JL
