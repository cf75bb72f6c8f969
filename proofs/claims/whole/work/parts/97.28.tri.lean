/-! triangle -/
section TR
variable {n W H T K i j k t tl m nf q x y s : Nat} {M Mx Mm Z : gM} {a1 a2 : Int32}
theorem gminI (x y : Int32) : (gmin x y).toInt = min x.toInt y.toInt := by
  unfold gmin
  by_cases h : y < x
  · have := Int32.lt_iff_toInt_lt.mp h
    rw [if_pos h]
    omega
  · have := Int32.le_iff_toInt_le.mp (Int32.not_lt.mp h)
    rw [if_neg h]
    omega
theorem gmaxI (x y : Int32) : (gmax x y).toInt = max x.toInt y.toInt := by
  unfold gmax
  by_cases h : x < y
  · have := Int32.lt_iff_toInt_lt.mp h
    rw [if_pos h]
    omega
  · have := Int32.le_iff_toInt_le.mp (Int32.not_lt.mp h)
    rw [if_neg h]
    omega
theorem lz3 (a b c : Int32) : (if b ≤ a then (if b ≤ c then some b else some c) else (if a ≤ c then some a else some c)) = some (gmin a (gmin b c)) := by
  simp only [Int32.le_iff_toInt_le]
  split <;> split <;> (congr 1; apply Int32.toInt_inj.mp; rw [gminI, gminI]; omega)
theorem hz3 (a b c : Int32) : (if a ≤ b then (if c ≤ b then some b else some c) else (if c ≤ a then some a else some c)) = some (gmax a (gmax b c)) := by
  simp only [Int32.le_iff_toInt_le]
  split <;> split <;> (congr 1; apply Int32.toInt_inj.mp; rw [gmaxI, gmaxI]; omega)
theorem j_triT (hS : SN m nf n W H T K Mx Mm) (ht : t < n) (hk : k ≤ 11) (z1 : X11_asks 8 (nI t) Mm = some Z) (z2 : AK (ct Mx 0 t) (zt Mx t) (Mx.1 40 0 0) Z) (z3 : SameA Mm Z) :
    ∃ r Y, X10_triangleT (nI t) (nI k) Mx = some r ∧ (if nI k = 0 then some ((Z.1 50 0 28), Z) else if nI k = 1 then gG (gin ((12 * nI t) + 10) 120) (some ((Z.1 52 4 (Int32.toNatClampNeg ((12 * nI t) + 10))), Z)) else if nI k = 2 then gG (gin ((12 * nI t) + 9) 120) (some ((Z.1 52 4 (Int32.toNatClampNeg ((12 * nI t) + 9))), Z)) else if nI k = 3 then gG (gin ((12 * nI t) + 11) 120) (some ((Z.1 52 4 (Int32.toNatClampNeg ((12 * nI t) + 11))), Z)) else if nI k = 4 then (if (Z.1 50 0 31) = 0 then some (0, Z) else some (1, Z)) else if nI k = 5 then (X11_leastZ Z).bind (fun r_17 => some (r_17, Z)) else if nI k = 6 then (X11_mostZ Z).bind (fun r_19 => some (r_19, Z)) else if nI k = 7 then (X11_touched 8 (nI t) Z).bind (gU2 (fun r_21 M_22 => some (r_21, M_22))) else if nI k = 8 then (X11_vain (nI t) Z).bind (gU2 (fun r_24 M_25 => some (r_24, M_25))) else if nI k = 9 then (X11_covered Z).bind (fun r_27 => some (r_27, Z)) else if nI k = 10 then (X11_lit 8 (nI t) Z).bind (fun r_29 => some (r_29, Z)) else (X11_timesIn 8 (nI t) Z).bind (fun r_31 => some (r_31, Z))) = some (r, Y) ∧ SameA Mm Y := by
  have hn := hS.1.1.2.1
  have hd := hS.1.1.1
  have sh := hS.1.2.2.1 t ht
  have hSZ := hS.ask z3
  have sc := hSZ.1.2.1.2.2.2 t ht
  have md := hSZ.1.2.1.1
  unfold X10_triangleT
  rw [gG_t (gin_n (k := t) (by omega) (by decide)), nI_clamp (n := t) (by omega)]
  have e12 : ∀ c, (12 * nI t : Int32) + nI c = nI (12 * t + c) := fun c => by rw [nlit 12, nI_mul, nI_add]
  have e10 : (12 * nI t : Int32) + 10 = nI (12 * t + 10) := e12 10
  have e9 : (12 * nI t : Int32) + 9 = nI (12 * t + 9) := e12 9
  have e11 : (12 * nI t : Int32) + 11 = nI (12 * t + 11) := e12 11
  rcases (show k = 0 ∨ k = 1 ∨ k = 2 ∨ k = 3 ∨ k = 4 ∨ k = 5 ∨ k = 6 ∨ k = 7 ∨ k = 8 ∨ k = 9 ∨ k = 10 ∨ k = 11 by omega) with rfl | rfl | rfl | rfl | rfl | rfl | rfl | rfl | rfl | rfl | rfl | rfl
  · rw [if_pos (show nI 0 = (0 : Int32) from rfl), if_pos (show nI 0 = (0 : Int32) from rfl), sh.2.2.1, z2.2.1]
    exact ⟨_, Z, rfl, rfl, z3⟩
  · rw [if_neg (show ¬ nI 1 = (0 : Int32) by decide), if_pos (show nI 1 = (1 : Int32) from rfl), if_neg (show ¬ nI 1 = (0 : Int32) by decide), if_pos (show nI 1 = (1 : Int32) from rfl), gG_t (gin_n (k := t) (by omega) (by decide)), e10, gG_t (gin_n (k := 12 * t + 10) (by omega) (by decide)), nI_clamp (n := 12 * t + 10) (by omega), sc.2.1]
    exact ⟨_, Z, rfl, rfl, z3⟩
  · rw [if_neg (show ¬ nI 2 = (0 : Int32) by decide), if_neg (show ¬ nI 2 = (1 : Int32) by decide), if_pos (show nI 2 = (2 : Int32) from rfl), if_neg (show ¬ nI 2 = (0 : Int32) by decide), if_neg (show ¬ nI 2 = (1 : Int32) by decide), if_pos (show nI 2 = (2 : Int32) from rfl), gG_t (gin_n (k := t) (by omega) (by decide)), e9, gG_t (gin_n (k := 12 * t + 9) (by omega) (by decide)), nI_clamp (n := 12 * t + 9) (by omega), sc.1]
    exact ⟨_, Z, rfl, rfl, z3⟩
  · rw [if_neg (show ¬ nI 3 = (0 : Int32) by decide), if_neg (show ¬ nI 3 = (1 : Int32) by decide), if_neg (show ¬ nI 3 = (2 : Int32) by decide), if_pos (show nI 3 = (3 : Int32) from rfl), if_neg (show ¬ nI 3 = (0 : Int32) by decide), if_neg (show ¬ nI 3 = (1 : Int32) by decide), if_neg (show ¬ nI 3 = (2 : Int32) by decide), if_pos (show nI 3 = (3 : Int32) from rfl), gG_t (gin_n (k := t) (by omega) (by decide)), e11, gG_t (gin_n (k := 12 * t + 11) (by omega) (by decide)), nI_clamp (n := 12 * t + 11) (by omega), sc.2.2]
    exact ⟨_, Z, rfl, rfl, z3⟩
  · rw [if_neg (show ¬ nI 4 = (0 : Int32) by decide), if_neg (show ¬ nI 4 = (1 : Int32) by decide), if_neg (show ¬ nI 4 = (2 : Int32) by decide), if_neg (show ¬ nI 4 = (3 : Int32) by decide), if_pos (show nI 4 = (4 : Int32) from rfl), if_neg (show ¬ nI 4 = (0 : Int32) by decide), if_neg (show ¬ nI 4 = (1 : Int32) by decide), if_neg (show ¬ nI 4 = (2 : Int32) by decide), if_neg (show ¬ nI 4 = (3 : Int32) by decide), if_pos (show nI 4 = (4 : Int32) from rfl), x9_cull hS.1.1 hS.1.2.2.1 ht 0, bind_e, z2.2.2]
    cases cul (trA (ct Mx 0 t)) (Mx.1 40 0 0) with
    | true => exact ⟨1, Z, rfl, rfl, z3⟩
    | false => exact ⟨0, Z, rfl, rfl, z3⟩
  · have e : X11_leastZ Z = some (gmin (zt Mx t (trP (ct Mx 0 t) 0)) (gmin (zt Mx t (trP (ct Mx 0 t) 1)) (zt Mx t (trP (ct Mx 0 t) 2)))) := by
      unfold X11_leastZ
      rw [gLet_e, gLet_e, (z2.1 0 (by omega)).2.2, (z2.1 1 (by omega)).2.2, (z2.1 2 (by omega)).2.2]
      exact lz3 _ _ _
    rw [if_neg (show ¬ nI 5 = (0 : Int32) by decide), if_neg (show ¬ nI 5 = (1 : Int32) by decide), if_neg (show ¬ nI 5 = (2 : Int32) by decide), if_neg (show ¬ nI 5 = (3 : Int32) by decide), if_neg (show ¬ nI 5 = (4 : Int32) by decide), if_pos (show nI 5 = (5 : Int32) from rfl), if_neg (show ¬ nI 5 = (0 : Int32) by decide), if_neg (show ¬ nI 5 = (1 : Int32) by decide), if_neg (show ¬ nI 5 = (2 : Int32) by decide), if_neg (show ¬ nI 5 = (3 : Int32) by decide), if_neg (show ¬ nI 5 = (4 : Int32) by decide), if_pos (show nI 5 = (5 : Int32) from rfl), sh.2.2.2.1, e, bind_e]
    exact ⟨_, Z, rfl, rfl, z3⟩
  · have e : X11_mostZ Z = some (gmax (zt Mx t (trP (ct Mx 0 t) 0)) (gmax (zt Mx t (trP (ct Mx 0 t) 1)) (zt Mx t (trP (ct Mx 0 t) 2)))) := by
      unfold X11_mostZ
      rw [gLet_e, gLet_e, (z2.1 0 (by omega)).2.2, (z2.1 1 (by omega)).2.2, (z2.1 2 (by omega)).2.2]
      exact hz3 _ _ _
    rw [if_neg (show ¬ nI 6 = (0 : Int32) by decide), if_neg (show ¬ nI 6 = (1 : Int32) by decide), if_neg (show ¬ nI 6 = (2 : Int32) by decide), if_neg (show ¬ nI 6 = (3 : Int32) by decide), if_neg (show ¬ nI 6 = (4 : Int32) by decide), if_neg (show ¬ nI 6 = (5 : Int32) by decide), if_pos (show nI 6 = (6 : Int32) from rfl), if_neg (show ¬ nI 6 = (0 : Int32) by decide), if_neg (show ¬ nI 6 = (1 : Int32) by decide), if_neg (show ¬ nI 6 = (2 : Int32) by decide), if_neg (show ¬ nI 6 = (3 : Int32) by decide), if_neg (show ¬ nI 6 = (4 : Int32) by decide), if_neg (show ¬ nI 6 = (5 : Int32) by decide), if_pos (show nI 6 = (6 : Int32) from rfl), sh.2.2.2.2.1, e, bind_e]
    exact ⟨_, Z, rfl, rfl, z3⟩
  · obtain ⟨z, Y, t1, t2, s7, -⟩ := j_touched (Or.inl rfl) hSZ.1 ht
    rw [if_neg (show ¬ nI 7 = (0 : Int32) by decide), if_neg (show ¬ nI 7 = (1 : Int32) by decide), if_neg (show ¬ nI 7 = (2 : Int32) by decide), if_neg (show ¬ nI 7 = (3 : Int32) by decide), if_neg (show ¬ nI 7 = (4 : Int32) by decide), if_neg (show ¬ nI 7 = (5 : Int32) by decide), if_neg (show ¬ nI 7 = (6 : Int32) by decide), if_pos (show nI 7 = (7 : Int32) from rfl), if_neg (show ¬ nI 7 = (0 : Int32) by decide), if_neg (show ¬ nI 7 = (1 : Int32) by decide), if_neg (show ¬ nI 7 = (2 : Int32) by decide), if_neg (show ¬ nI 7 = (3 : Int32) by decide), if_neg (show ¬ nI 7 = (4 : Int32) by decide), if_neg (show ¬ nI 7 = (5 : Int32) by decide), if_neg (show ¬ nI 7 = (6 : Int32) by decide), if_pos (show nI 7 = (7 : Int32) from rfl), t1, bind_e, t2, bind_e, gU2_e]
    exact ⟨_, Y, rfl, rfl, z3.tr s7⟩
  · obtain ⟨v, Y, t1, t2, s7⟩ := j_vain hSZ ht
    rw [if_neg (show ¬ nI 8 = (0 : Int32) by decide), if_neg (show ¬ nI 8 = (1 : Int32) by decide), if_neg (show ¬ nI 8 = (2 : Int32) by decide), if_neg (show ¬ nI 8 = (3 : Int32) by decide), if_neg (show ¬ nI 8 = (4 : Int32) by decide), if_neg (show ¬ nI 8 = (5 : Int32) by decide), if_neg (show ¬ nI 8 = (6 : Int32) by decide), if_neg (show ¬ nI 8 = (7 : Int32) by decide), if_pos (show nI 8 = (8 : Int32) from rfl), if_neg (show ¬ nI 8 = (0 : Int32) by decide), if_neg (show ¬ nI 8 = (1 : Int32) by decide), if_neg (show ¬ nI 8 = (2 : Int32) by decide), if_neg (show ¬ nI 8 = (3 : Int32) by decide), if_neg (show ¬ nI 8 = (4 : Int32) by decide), if_neg (show ¬ nI 8 = (5 : Int32) by decide), if_neg (show ¬ nI 8 = (6 : Int32) by decide), if_neg (show ¬ nI 8 = (7 : Int32) by decide), if_pos (show nI 8 = (8 : Int32) from rfl), t1, bind_e, t2, bind_e, gU2_e]
    exact ⟨_, Y, rfl, rfl, z3.tr s7⟩
  · rw [if_neg (show ¬ nI 9 = (0 : Int32) by decide), if_neg (show ¬ nI 9 = (1 : Int32) by decide), if_neg (show ¬ nI 9 = (2 : Int32) by decide), if_neg (show ¬ nI 9 = (3 : Int32) by decide), if_neg (show ¬ nI 9 = (4 : Int32) by decide), if_neg (show ¬ nI 9 = (5 : Int32) by decide), if_neg (show ¬ nI 9 = (6 : Int32) by decide), if_neg (show ¬ nI 9 = (7 : Int32) by decide), if_neg (show ¬ nI 9 = (8 : Int32) by decide), if_pos (show nI 9 = (9 : Int32) from rfl), if_neg (show ¬ nI 9 = (0 : Int32) by decide), if_neg (show ¬ nI 9 = (1 : Int32) by decide), if_neg (show ¬ nI 9 = (2 : Int32) by decide), if_neg (show ¬ nI 9 = (3 : Int32) by decide), if_neg (show ¬ nI 9 = (4 : Int32) by decide), if_neg (show ¬ nI 9 = (5 : Int32) by decide), if_neg (show ¬ nI 9 = (6 : Int32) by decide), if_neg (show ¬ nI 9 = (7 : Int32) by decide), if_neg (show ¬ nI 9 = (8 : Int32) by decide), if_pos (show nI 9 = (9 : Int32) from rfl), x9_covB hS ht, bind_e, x11_coverd hd md z2, bind_e]
    exact ⟨_, Z, rfl, rfl, z3⟩
  · rw [if_neg (show ¬ nI 10 = (0 : Int32) by decide), if_neg (show ¬ nI 10 = (1 : Int32) by decide), if_neg (show ¬ nI 10 = (2 : Int32) by decide), if_neg (show ¬ nI 10 = (3 : Int32) by decide), if_neg (show ¬ nI 10 = (4 : Int32) by decide), if_neg (show ¬ nI 10 = (5 : Int32) by decide), if_neg (show ¬ nI 10 = (6 : Int32) by decide), if_neg (show ¬ nI 10 = (7 : Int32) by decide), if_neg (show ¬ nI 10 = (8 : Int32) by decide), if_neg (show ¬ nI 10 = (9 : Int32) by decide), if_pos (show nI 10 = (10 : Int32) from rfl), if_neg (show ¬ nI 10 = (0 : Int32) by decide), if_neg (show ¬ nI 10 = (1 : Int32) by decide), if_neg (show ¬ nI 10 = (2 : Int32) by decide), if_neg (show ¬ nI 10 = (3 : Int32) by decide), if_neg (show ¬ nI 10 = (4 : Int32) by decide), if_neg (show ¬ nI 10 = (5 : Int32) by decide), if_neg (show ¬ nI 10 = (6 : Int32) by decide), if_neg (show ¬ nI 10 = (7 : Int32) by decide), if_neg (show ¬ nI 10 = (8 : Int32) by decide), if_neg (show ¬ nI 10 = (9 : Int32) by decide), if_pos (show nI 10 = (10 : Int32) from rfl), gG_t (gin_n (k := t) (by omega) (by decide)), bitc, bind_e, x11_lit (Or.inl rfl) (by omega), bind_e, ← hSZ.1.2.2.2.2.2.2.2.1 t ht]
    exact ⟨_, Z, rfl, rfl, z3⟩
  · obtain ⟨z, t1, t2⟩ := j_times (Or.inl rfl) hSZ.1 (nI t)
    rw [if_neg (show ¬ nI 11 = (0 : Int32) by decide), if_neg (show ¬ nI 11 = (1 : Int32) by decide), if_neg (show ¬ nI 11 = (2 : Int32) by decide), if_neg (show ¬ nI 11 = (3 : Int32) by decide), if_neg (show ¬ nI 11 = (4 : Int32) by decide), if_neg (show ¬ nI 11 = (5 : Int32) by decide), if_neg (show ¬ nI 11 = (6 : Int32) by decide), if_neg (show ¬ nI 11 = (7 : Int32) by decide), if_neg (show ¬ nI 11 = (8 : Int32) by decide), if_neg (show ¬ nI 11 = (9 : Int32) by decide), if_neg (show ¬ nI 11 = (10 : Int32) by decide), if_neg (show ¬ nI 11 = (0 : Int32) by decide), if_neg (show ¬ nI 11 = (1 : Int32) by decide), if_neg (show ¬ nI 11 = (2 : Int32) by decide), if_neg (show ¬ nI 11 = (3 : Int32) by decide), if_neg (show ¬ nI 11 = (4 : Int32) by decide), if_neg (show ¬ nI 11 = (5 : Int32) by decide), if_neg (show ¬ nI 11 = (6 : Int32) by decide), if_neg (show ¬ nI 11 = (7 : Int32) by decide), if_neg (show ¬ nI 11 = (8 : Int32) by decide), if_neg (show ¬ nI 11 = (9 : Int32) by decide), if_neg (show ¬ nI 11 = (10 : Int32) by decide), t1, bind_e, t2, bind_e]
    exact ⟨_, Z, rfl, rfl, z3⟩
theorem tri_L (h : J q nf Mx Mm) : (X10_tri a1 a2 Mx = some none ∧ X11_triangle a1 a2 Mm = some (0, wI (wI Mm 50 0 0 0) 50 0 0 1)) ∨ (∃ r Y, X10_tri a1 a2 Mx = some (some r) ∧ X11_triangle a1 a2 Mm = some (r, Y) ∧ SameA (wI Mm 50 0 0 0) Y) := by
  have h0 := h.t0 (v := 0)
  unfold X11_triangle
  rw [gLet_e (wI Mm 50 0 0 0)]
  revert h0
  generalize wI Mm 50 0 0 0 = Y
  intro h0
  unfold X10_tri
  rcases h0.tri a1 with ⟨e1, e2⟩ | ⟨n, W, H, T, K, t, hS, ht, rfl, e1, e2⟩
  · rw [e1, e2, bind_e, bind_e, if_pos rfl, if_pos rfl, gLet_e]
    exact Or.inl ⟨rfl, rfl⟩
  · rw [e1, e2, bind_e, bind_e, if_neg (show ¬ (1 : Int32) = 0 by decide), if_neg (show ¬ (1 : Int32) = 0 by decide)]
    rcases rng (n := 12) (hi := 11) (by omega) (by omega) rfl a2 Y with ⟨o, e⟩ | ⟨e, o1, -, -, o2, k, hk, rfl⟩
    · rw [e, bind_e, if_pos rfl, gLet_e]
      rcases o with o | o
      · rw [if_pos o]; exact Or.inl ⟨rfl, rfl⟩
      · rw [if_neg o.1, if_neg (show ¬ a2 ≤ (11 : Int32) from o.2.2.2)]; exact Or.inl ⟨rfl, rfl⟩
    · obtain ⟨Z, z1, z2, z3⟩ := hS.asks ht
      obtain ⟨r, Y', f1, f2, f3⟩ := j_triT (k := k) hS ht (by omega) z1 z2 z3
      rw [e, bind_e, if_neg (show ¬ (1 : Int32) = 0 by decide), if_neg o1, if_pos (show nI k ≤ (11 : Int32) from o2), z1, bind_e, f1, bind_e, f2]
      exact Or.inr ⟨r, Y', rfl, rfl, f3⟩
theorem O5 : O_5 Iv := fun q nf M a1 a2 hq hI => by
  have hI : J q nf M M := hI
  rcases tri_L (a1 := a1) (a2 := a2) hI with ⟨e1, e2⟩ | ⟨r, Y, e1, -, -⟩
  · refine ⟨0, 1, M, _, ?_, e2, ?_, fun z => absurd z (by decide), ?_⟩
    · unfold L_tri
      rw [e1]
      rfl
    · unfold X11_thrown
      rw [w_e]
    · exact (hI.mono (Nat.le_succ q)).same (fun a b c hc => by rw [w_n (by unfold rX relX at hc; omega), w_n (by unfold rX relX at hc; omega)]) (fun _ _ _ => rfl) (fun a b c hc => by rw [w_n (by unfold rM relM at hc; omega), w_n (by unfold rM relM at hc; omega)])
  · have h1 : J q nf M (wL M 53 0 0 (Int32.toInt64 r)) := hI.same (fun _ _ _ _ => rfl) (fun _ _ _ => rfl) (fun _ _ _ _ => rfl)
    rcases tri_L (a1 := a1) (a2 := a2) h1 with ⟨f1, f2⟩ | ⟨r', Y', f1, f2, f3⟩
    · rw [e1] at f1
      exact absurd (Option.some.inj f1) (by simp)
    · rw [e1] at f1
      have er : r = r' := Option.some.inj (Option.some.inj f1)
      subst er
      refine ⟨r, 0, wL M 53 0 0 (Int32.toInt64 r), Y', ?_, f2, ?_, fun _ => ?_, ?_⟩
      · unfold L_tri
        rw [e1]
        rfl
      · unfold X11_thrown
        rw [f3.2 50 0 0 (by omega), w_e]
      · rw [f3.1]
        show (wL M 53 0 0 (Int32.toInt64 r)).2 53 0 0 = _
        rw [wL_e]
      · exact (hI.mono (Nat.le_succ q)).same (fun a b c hc => by
          rw [f3.2 a b c (by unfold rX relX at hc; omega), w_n (by unfold rX relX at hc; omega)]
          rfl) (fun b c _ => by
          rw [f3.1]
          show (wL M 53 0 0 (Int32.toInt64 r)).2 41 b c = _
          rw [r2_wL, if_neg (by omega)]) (fun a b c hc => by
          rw [f3.2 a b c (by unfold rM relM at hc; omega), w_n (by unfold rM relM at hc; omega)]
          rfl)
end TR
