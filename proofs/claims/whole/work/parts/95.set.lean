/-! set as a call -/
def rlo (k : Nat) : Int := if k = 3 then 1 else 0
def rhi (k : Nat) : Int := if k = 3 then 10 else if k = 0 then 2 else 1
section ST5
variable {n W H T K i j k t m nf nf' : Nat} {M M' Mx Mm Mx' Mm' : gM} {p v r : Int32}
theorem gsv (hk : k < 4) : (gSv 8 k).toInt = rlo k ∧ (gSv 9 k).toInt = rhi k := by
  rcases (show k = 0 ∨ k = 1 ∨ k = 2 ∨ k = 3 by omega) with rfl | rfl | rfl | rfl <;> exact ⟨by decide, by decide⟩
theorem rvl_of (hk : k < 4) (h : rlo k ≤ p.toInt ∧ p.toInt ≤ rhi k) : rvl k p := by
  have e : ∀ q : Nat, q < 100 → p.toInt = (q : Int) → p = nI q := fun q hq hp => Int32.toInt_inj.mp (by rw [nI_toInt (by omega)]; exact hp)
  unfold rlo rhi at h
  refine ⟨fun h0 => ?_, fun h0 => ?_, fun h0 => ?_⟩
  · rw [if_neg (by omega), if_neg (by omega), if_pos h0] at h
    rcases (show p.toInt = 0 ∨ p.toInt = 1 ∨ p.toInt = 2 by omega) with g | g | g
    · exact Or.inl (e 0 (by omega) g)
    · exact Or.inr (Or.inl (e 1 (by omega) g))
    · exact Or.inr (Or.inr (e 2 (by omega) g))
  · rw [if_neg (by omega), if_neg (by omega), if_neg (by omega)] at h
    rcases (show p.toInt = 0 ∨ p.toInt = 1 by omega) with g | g
    · exact Or.inl (e 0 (by omega) g)
    · exact Or.inr (e 1 (by omega) g)
  · rw [if_pos h0, if_pos h0] at h
    exact ⟨p.toInt.toNat, by omega, by omega, e _ (by omega) (by omega)⟩
/-- both sides' answer to a rule's change -/
def rans (k : Nat) (p cur : Int32) : Int32 := if rlo k ≤ p.toInt ∧ p.toInt ≤ rhi k then (if cur = p then 2 else -1) else 1
theorem x9_refR (hk : k < 4) : X9_refusalOfRule 0 (nI k) p Mx = some (rans k p (Mx.1 40 0 k)) := by
  have g := gsv hk
  unfold X9_refusalOfRule rans
  rw [if_neg (nI_neg (by omega)), if_neg (show ¬ (4 : Int32) ≤ nI k from nI_ge (a := k) (b := 4) hk (by decide)), gG_t (gin_n hk (by decide)), gG_t (gin_n hk (by decide)), gG_t (gin_n hk (by decide)), nI_clamp (by omega)]
  by_cases h1 : p < gSv 8 k
  · have := Int32.lt_iff_toInt_lt.mp h1
    rw [if_pos h1, if_neg (by omega)]
  · have h1' := Int32.le_iff_toInt_le.mp (Int32.not_lt.mp h1)
    rw [if_neg h1]
    by_cases h2 : p ≤ gSv 9 k
    · have := Int32.le_iff_toInt_le.mp h2
      rw [if_pos h2, if_pos (show rlo k ≤ p.toInt ∧ p.toInt ≤ rhi k by omega)]
      split <;> rfl
    · have := Int32.lt_iff_toInt_lt.mp (Int32.not_le.mp h2)
      rw [if_neg h2, if_neg (by omega)]
theorem x11_refR (hk : k < 4) (n0 : ¬ Mm.1 50 0 16 = 0) : X11_stopsRule 8 (nI k) p Mm = some (rans k p (Mm.1 52 8 (1057 + k))) := by
  have e57 : (1057 : Int32) + nI k = nI (1057 + k) := by rw [nlit 1057, nI_add]
  have J : ∀ lo hi : Int64, lo.toInt = rlo k → hi.toInt = rhi k → X11_stopsRule_J55 8 (nI k) p hi lo p.toInt64 Mm = some (rans k p (Mm.1 52 8 (1057 + k))) := fun lo hi h1 h2 => by
    unfold X11_stopsRule_J55 rans
    rw [x11_isIn, bind_e, h1, h2, e57, show gLen 52 8 = 1242 from rfl, gG_t (gin_n (k := 1057 + k) (by omega) (by decide)), nI_clamp (n := 1057 + k) (by omega)]
    by_cases h3 : rlo k ≤ p.toInt ∧ p.toInt ≤ rhi k
    · rw [if_pos h3, if_pos h3, if_neg (show ¬ (1 : Int32) = 0 by decide)]
      split <;> rfl
    · rw [if_neg h3, if_neg h3, if_pos rfl]
  have hin : X11_isIn (nI k).toInt64 0 3 Mm = some 1 := by
    rw [x11_isIn, nI_toInt (by omega), if_pos]
    have a0 : (0 : Int64).toInt = 0 := rfl
    have a3 : (3 : Int64).toInt = 3 := rfl
    rw [a0, a3]
    omega
  unfold X11_stopsRule
  rw [if_neg n0, hin, bind_e, if_neg (show ¬ (1 : Int32) = 0 by decide)]
  rcases (show k = 0 ∨ k = 1 ∨ k = 2 ∨ k = 3 by omega) with rfl | rfl | rfl | rfl
  · rw [if_neg (show ¬ nI 0 = (3 : Int32) by decide)]
    unfold X11_stopsRule_J33
    rw [if_neg (show ¬ nI 0 = (3 : Int32) by decide), if_pos (show nI 0 = (0 : Int32) by decide)]
    exact J 0 2 (by decide) (by decide)
  · rw [if_neg (show ¬ nI 1 = (3 : Int32) by decide)]
    unfold X11_stopsRule_J33
    rw [if_neg (show ¬ nI 1 = (3 : Int32) by decide), if_neg (show ¬ nI 1 = (0 : Int32) by decide)]
    exact J 0 1 (by decide) (by decide)
  · rw [if_neg (show ¬ nI 2 = (3 : Int32) by decide)]
    unfold X11_stopsRule_J33
    rw [if_neg (show ¬ nI 2 = (3 : Int32) by decide), if_neg (show ¬ nI 2 = (0 : Int32) by decide)]
    exact J 0 1 (by decide) (by decide)
  · rw [if_pos (show nI 3 = (3 : Int32) by decide)]
    unfold X11_stopsRule_J33
    rw [if_pos (show nI 3 = (3 : Int32) by decide)]
    exact J 1 10 (by decide) (by decide)
theorem bind_id {α : Type} (o : Option α) : o.bind (fun x => some x) = o := by cases o <;> rfl
theorem bind_u2 (o : Option (Int32 × gM)) : o.bind (gU2 (fun x y => some (x, y))) = o := by cases o <;> rfl
theorem x9_ref4 (hk : k < 4) (n0 : ¬ Mx.1 5 1 5 = 0) : X9_refusal 0 (nI (4 + k)) p 0 0 0 Mx = X9_refusalOfRule 0 (nI k) p Mx := by
  unfold X9_refusal
  rw [if_neg n0]
  simp only [bind_id]
  rcases (show k = 0 ∨ k = 1 ∨ k = 2 ∨ k = 3 by omega) with rfl | rfl | rfl | rfl <;> rfl
theorem x9_co4 (hk : k < 4) : X9_carryOut 0 (nI (4 + k)) p 0 0 0 M = X9_changeRule 0 (nI k) p M := by
  unfold X9_carryOut
  simp only [bind_u2]
  rcases (show k = 0 ∨ k = 1 ∨ k = 2 ∨ k = 3 by omega) with rfl | rfl | rfl | rfl <;> rfl
noncomputable def seM (p1 p2 : Int32) (Y : gM) : Option (Int32 × gM) := gG (gin (1057 + p1) 1242) (gLet ((Y.1 52 8 (Int32.toNatClampNeg (1057 + p1)))) (fun x4 => gG (gin (1057 + p1) 1242) (gLet (wI Y 52 8 (Int32.toNatClampNeg (1057 + p1)) p2) (fun M_10 => some (x4, M_10)))))
theorem j_setC (hm : m + 1 < 100000) (hnf : nf ≤ 40) (h : SN m nf n W H T K Mx Mm) (hs : ST Mx Mm) (hk : k < 4) (v : Int32) :
    (∃ l, l < 4 ∧ X9_refusal 0 (nI (4 + k)) p 0 0 0 Mx = some (nI l) ∧ X11_stopsRule 8 (nI k) p Mm = some (nI l)) ∨
    (X9_refusal 0 (nI (4 + k)) p 0 0 0 Mx = some (-1) ∧ X11_stopsRule 8 (nI k) p Mm = some (-1) ∧ ∃ r nf' Mx' Y1 Y2 Y3, X10_act nf (nI (4 + k)) p 0 0 0 v Mx = some (r, nf', Mx') ∧ X11_remember Mm = some Y1 ∧ seM (nI k) p Y1 = some (r, Y2) ∧ X11_tells 4 (nI k) Y2 = some Y3 ∧ nf ≤ nf' ∧ nf' ≤ 40 ∧ SN (m + 1) nf' n W H T K Mx' Y3 ∧ ST Mx' Y3 ∧ CX Mx Mx' ∧ CM Mm Y3) := by
  have hr := h.1
  have hn := hr.1.2.1
  have n0 : ¬ Mx.1 5 1 5 = 0 := by
    rw [hr.1.2.2.1.2.2.2.2]
    exact nI_ne0 (by omega) (by omega)
  have n1 : ¬ Mm.1 50 0 16 = 0 := by
    rw [hr.2.1.1.1]
    exact nI_ne0 (by omega) (by omega)
  have e57 : (1057 : Int32) + nI k = nI (1057 + k) := by rw [nlit 1057, nI_add]
  rw [x9_ref4 hk n0, x9_refR hk, x11_refR hk n1, hr.2.2.2.2.1.1 k hk]
  have rf : X9_refusal 0 (nI (4 + k)) p 0 0 0 Mx = some (rans k p (Mx.1 40 0 k)) := by rw [x9_ref4 hk n0, x9_refR hk]
  unfold rans at *
  by_cases h1 : rlo k ≤ p.toInt ∧ p.toInt ≤ rhi k
  · rw [if_pos h1] at *
    by_cases h2 : Mx.1 40 0 k = p
    · rw [if_pos h2]
      exact Or.inl ⟨2, by omega, rfl, rfl⟩
    · rw [if_neg h2] at *
      refine Or.inr ⟨rfl, rfl, ?_⟩
      obtain ⟨nf', r, X1, X2, X3, Y1, Y2, Y3, k1, k2, k3, k4, k5, k6, k7, k8, k9, k10, k11⟩ := j_act (a := 4) (b := nI k) (opc := fun X => X9_carryOut 0 (nI (4 + k)) p 0 0 0 X) (opm := fun Y => seM (nI k) p Y) hm hnf h
        (fun X Y g1 g2 _ _ => by
          obtain ⟨d1, d2⟩ := j_rule (Or.inl rfl) g1 hk (rvl_of hk h1)
          refine ⟨X.1 40 0 k, wI X 40 0 k p, wI Y 52 8 (1057 + k) p, ?_, ?_, d2, g2.same fun c => w_n (by omega), ⟨fun a b c hq => w_n (by unfold opX at hq; omega), fun _ _ _ _ => rfl⟩, ⟨rfl, fun a b c hq => w_n (by unfold opM at hq; omega)⟩⟩
          · show X9_carryOut 0 (nI (4 + k)) p 0 0 0 X = _
            rw [x9_co4 hk, d1]
          · show seM (nI k) p Y = _
            unfold seM
            rw [e57, gG_t (gin_n (k := 1057 + k) (by omega) (by decide)), gLet_e, gG_t (gin_n (k := 1057 + k) (by omega) (by decide)), gLet_e, nI_clamp (n := 1057 + k) (by omega), g1.2.2.2.2.1.1 k hk])
      refine ⟨r, nf', X3, Y1, Y2, Y3, ?_, k4, k5, k6, k7, k8, k9, hs.c k10 k11, k10.c, k11.c⟩
      rw [x10_go rf]
      refine x10_done k1 k2 k3 ?_ ?_
      · rcases (show k = 0 ∨ k = 1 ∨ k = 2 ∨ k = 3 by omega) with rfl | rfl | rfl | rfl <;> rfl
      · rcases (show k = 0 ∨ k = 1 ∨ k = 2 ∨ k = 3 by omega) with rfl | rfl | rfl | rfl <;> rfl
  · rw [if_neg h1]
    exact Or.inl ⟨1, by omega, rfl, rfl⟩
end ST5
