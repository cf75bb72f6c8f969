/-! border -/
section BD
variable {n W H T K i j k t t1 t2 m nf q x y s : Nat} {M Mx Mm Z : gM} {τ ζ : Nat → Int32} {cu p px py : Int32}
theorem mnI (a b : Int32) : (mn a b).toInt = min a.toInt b.toInt := by
  unfold mn
  by_cases h : a ≤ b
  · have := Int32.le_iff_toInt_le.mp h
    rw [if_pos h]
    omega
  · have := Int32.lt_iff_toInt_lt.mp (Int32.not_le.mp h)
    rw [if_neg h]
    omega
theorem i0_le (x : Int32) : 0 ≤ x ↔ 0 ≤ x.toInt := by
  have a0 : (0 : Int32).toInt = 0 := rfl
  rw [Int32.le_iff_toInt_le, a0]
theorem bmn0 : bmn τ px py = 0 ↔ (0 ≤ trS τ 0 px py ∧ 0 ≤ trS τ 1 px py ∧ 0 ≤ trS τ 2 px py ∧ (trS τ 0 px py = 0 ∨ trS τ 1 px py = 0 ∨ trS τ 2 px py = 0)) := by
  have a1 : (1 : Int32).toInt = 1 := rfl
  rw [i32_nz, i0_le, i0_le, i0_le, i32_nz, i32_nz, i32_nz]
  unfold bmn
  rw [mnI, mnI, mnI, a1]
  omega
theorem x6_onE (h : SHe t τ M) (px py : Int32) : X6_isOnEdge t px py M = some (if bmn τ px py = 0 then 1 else 0) := by
  have st : ∀ e v, e < 3 → X6_isOnEdge_L5 t px py v (nI e) M = if 0 ≤ trS τ e px py then some (.inl ((if v = 0 then (if trS τ e px py = 0 then 1 else 0) else 1), nI (e + 1))) else some (.inr (.inl ())) := fun e v he => by
    unfold X6_isOnEdge_L5
    rw [if_neg (show ¬ (3 : Int32) ≤ nI e from nI_ge (a := e) (b := 3) he (by decide)), x6_sum h he, bind_e]
    split
    · split
      · split <;> rw [gLet_e, nI_1]
      · rw [gLet_e, nI_1]
    · rfl
  have bad : ¬ bmn τ px py = 0 → gIter (fun s => X6_isOnEdge_L5 t px py s.1 s.2 M) FU (0, 0) = some (.inl ()) → X6_isOnEdge t px py M = some (if bmn τ px py = 0 then 1 else 0) := fun hb hg => by
    unfold X6_isOnEdge
    rw [hg, if_neg hb]
    rfl
  by_cases h0 : 0 ≤ trS τ 0 px py
  · by_cases h1 : 0 ≤ trS τ 1 px py
    · by_cases h2 : 0 ≤ trS τ 2 px py
      · have s0 := st 0 0 (by omega)
        rw [if_pos h0, if_pos rfl] at s0
        have s1 := st 1 (if trS τ 0 px py = 0 then 1 else 0) (by omega)
        rw [if_pos h1] at s1
        have s2 := st 2 (if (if trS τ 0 px py = 0 then (1 : Int32) else 0) = 0 then (if trS τ 1 px py = 0 then 1 else 0) else 1) (by omega)
        rw [if_pos h2] at s2
        have hg : gIter (fun s => X6_isOnEdge_L5 t px py s.1 s.2 M) FU (0, 0) = some (.inr (if (if (if trS τ 0 px py = 0 then (1 : Int32) else 0) = 0 then (if trS τ 1 px py = 0 then (1 : Int32) else 0) else 1) = 0 then (if trS τ 2 px py = 0 then 1 else 0) else 1)) := by
          apply FU5
          refine gIt_s s0 ?_
          refine gIt_s s1 ?_
          refine gIt_s s2 ?_
          refine gIt_x ?_
          show X6_isOnEdge_L5 t px py _ (nI 3) M = _
          unfold X6_isOnEdge_L5
          rw [if_pos (by decide)]
        unfold X6_isOnEdge
        rw [hg, bind_e]
        by_cases e0 : trS τ 0 px py = 0
        · rw [if_pos e0, if_neg (show ¬ (1 : Int32) = 0 by decide), if_neg (show ¬ (1 : Int32) = 0 by decide), if_pos (bmn0.mpr ⟨h0, h1, h2, Or.inl e0⟩)]
          rfl
        · rw [if_neg e0, if_pos rfl]
          by_cases e1 : trS τ 1 px py = 0
          · rw [if_pos e1, if_neg (show ¬ (1 : Int32) = 0 by decide), if_pos (bmn0.mpr ⟨h0, h1, h2, Or.inr (Or.inl e1)⟩)]
            rfl
          · rw [if_neg e1, if_pos rfl]
            by_cases e2 : trS τ 2 px py = 0
            · rw [if_pos e2, if_pos (bmn0.mpr ⟨h0, h1, h2, Or.inr (Or.inr e2)⟩)]
              rfl
            · rw [if_neg e2, if_neg (fun z => by
                rcases (bmn0.mp z).2.2.2 with g | g | g
                · exact e0 g
                · exact e1 g
                · exact e2 g)]
              rfl
      · have s0 := st 0 0 (by omega)
        rw [if_pos h0] at s0
        have s1 := st 1 (if (0 : Int32) = 0 then (if trS τ 0 px py = 0 then 1 else 0) else 1) (by omega)
        rw [if_pos h1] at s1
        refine bad (fun z => h2 (bmn0.mp z).2.2.1) ?_
        apply FU5
        refine gIt_s s0 ?_
        refine gIt_s s1 ?_
        refine gIt_x ?_
        have s2 := st 2 (if (if (0 : Int32) = 0 then (if trS τ 0 px py = 0 then (1 : Int32) else 0) else 1) = 0 then (if trS τ 1 px py = 0 then 1 else 0) else 1) (by omega)
        rw [if_neg h2] at s2
        exact s2
    · have s0 := st 0 0 (by omega)
      rw [if_pos h0] at s0
      refine bad (fun z => h1 (bmn0.mp z).2.1) ?_
      apply FU5
      refine gIt_s s0 ?_
      refine gIt_x ?_
      have s1 := st 1 (if (0 : Int32) = 0 then (if trS τ 0 px py = 0 then 1 else 0) else 1) (by omega)
      rw [if_neg h1] at s1
      exact s1
  · refine bad (fun z => h0 (bmn0.mp z).1) ?_
    apply FU5
    refine gIt_x ?_
    have s0 := st 0 0 (by omega)
    rw [if_neg h0] at s0
    exact s0
/-- on both borders, and covered by so many -/
def boB (d : Nat) (b1 b2 c1 c2 : Bool) : Bool := (b1 && b2) && (if d = 0 then true else if d = 1 then Bool.xor c1 c2 else c1 && c2)
def boA (Mx : gM) (K d t1 t2 : Nat) (a : Nat × Nat × Nat) : Bool := boB d (bdS (ct Mx 0 t1) (Mx.1 40 0 0) K a.1 a.2.1 a.2.2) (bdS (ct Mx 0 t2) (Mx.1 40 0 0) K a.1 a.2.1 a.2.2) (cvS (ct Mx 0 t1) (Mx.1 40 0 0) K a.1 a.2.1 a.2.2) (cvS (ct Mx 0 t2) (Mx.1 40 0 0) K a.1 a.2.1 a.2.2)
theorem x7_bor {d : Nat} (hd2 : d < 3) (hS : SN m nf n W H T K Mx Mm) (h1 : t1 < n) (h2 : t2 < n) : X7_onBorder 0 (nI t1) (nI t2) (nI d) Mx = some (nI ((tA W H T K (tN W H T)).countP (boA Mx K d t1 t2))) := by
  have hd := hS.1.1.1
  have hn := hS.1.1.2.1
  have hw := whk_le hd
  have e6 : Mx.1 12 0 6 = nI (W * H * K) := hS.1.1.2.2.2.1.2.2.2.2.2.2
  have none : (∀ a, boA Mx K d t1 t2 a = false) → nI ((tA W H T K (tN W H T)).countP (boA Mx K d t1 t2)) = 0 := fun hz => by
    rw [List.countP_eq_zero.mpr fun a _ => by rw [hz a]; decide]
    rfl
  unfold X7_onBorder
  rw [x9_cull hS.1.1 hS.1.2.2.1 h1 0, bind_e]
  cases hu1 : cul (trA (ct Mx 0 t1)) (Mx.1 40 0 0) with
  | true =>
    rw [if_neg (by decide), none fun a => by unfold boA boB bdS; rw [hu1]; rfl]
  | false =>
    rw [if_pos (by decide), x9_cull hS.1.1 hS.1.2.2.1 h2 0, bind_e]
    cases hu2 : cul (trA (ct Mx 0 t2)) (Mx.1 40 0 0) with
    | true =>
      rw [if_neg (by decide), none fun a => by unfold boA boB bdS; rw [hu2]; simp]
    | false =>
      rw [if_pos (by decide)]
      have hc := c_cnt (sc := fun s => X7_onBorder_L32 0 (nI t1) (nI t2) (nI d) s.1 s.2 Mx) hd (boA Mx K d t1 t2)
        (fun k a hk => by
          obtain ⟨p, hp, hb, e13⟩ := go_k hS hk
          have hpl := plc_lt hd hb.1 hb.2.1 hb.2.2
          have gp := hS.1.1.2.2.2.2.2.1 p.1 p.2.1 p.2.2 hb.1 hb.2.1 hb.2.2
          have hcv := x7_cov hS h1 h2 hb.1 hb.2.1 hb.2.2
          have b1 : bdS (ct Mx 0 t1) (Mx.1 40 0 0) K p.1 p.2.1 p.2.2 = decide (bmn (ct Mx 0 t1) (qx K p.1 p.2.2) (qy K p.2.1 p.2.2) = 0) := by unfold bdS; rw [hu1]; rfl
          have b2 : bdS (ct Mx 0 t2) (Mx.1 40 0 0) K p.1 p.2.1 p.2.2 = decide (bmn (ct Mx 0 t2) (qx K p.1 p.2.2) (qy K p.2.1 p.2.2) = 0) := by unfold bdS; rw [hu2]; rfl
          have z0 : a + nI 0 = a := Int32.add_zero a
          show X7_onBorder_L32 0 (nI t1) (nI t2) (nI d) a (nI k) Mx = _
          unfold X7_onBorder_L32
          rw [e6, if_neg (nI_ge hk (by omega)), gG_t (gin_n (k := k) (by omega) (by decide)), nI_clamp (n := k) (by omega), e13, gLet_e, gG_t (gin_n hpl (by decide)), nI_clamp (n := plc p.1 p.2.1 p.2.2) (by omega), gp.1, gp.2, gLet_e, gG_t (gin_n hpl (by decide)), gLet_e, gG_t (gin_n (k := t1) (by omega) (by decide)), nI_clamp (n := t1) (by omega), x6_onE (hS.1.2.2.1 t1 h1).2.2.2.2.2.2.1, bind_e, hp]
          unfold X7_onBorder_J122 X7_onBorder_J123
          show _ = some (Sum.inl (a + nI (if boA Mx K d t1 t2 p = true then 1 else 0), nI (k + 1)))
          unfold boA boB
          rw [b1, b2]
          by_cases g1 : bmn (ct Mx 0 t1) (qx K p.1 p.2.2) (qy K p.2.1 p.2.2) = 0
          · rw [if_pos g1, if_neg (show ¬ (1 : Int32) = 0 by decide), gG_t (gin_n (k := t2) (by omega) (by decide)), nI_clamp (n := t2) (by omega), x6_onE (hS.1.2.2.1 t2 h2).2.2.2.2.2.2.1, bind_e, decide_eq_true g1]
            by_cases g2 : bmn (ct Mx 0 t2) (qx K p.1 p.2.2) (qy K p.2.1 p.2.2) = 0
            · rw [if_pos g2, if_neg (show ¬ (1 : Int32) = 0 by decide), if_neg (show ¬ (1 : Int32) = 0 by decide), decide_eq_true g2, hcv, bind_e]
              rcases (show d = 0 ∨ d = 1 ∨ d = 2 by omega) with rfl | rfl | rfl
              · rw [if_pos (show nI 0 = (0 : Int32) from rfl), gLet_e, gLet_e, nI_1]
                rfl
              · rw [if_neg (show ¬ nI 1 = (0 : Int32) by decide)]
                cases cvS (ct Mx 0 t1) (Mx.1 40 0 0) K p.1 p.2.1 p.2.2 <;> cases cvS (ct Mx 0 t2) (Mx.1 40 0 0) K p.1 p.2.1 p.2.2 <;> first
                  | (rw [if_pos (by decide), gLet_e, gLet_e, nI_1]; rfl)
                  | (rw [if_neg (by decide), gLet_e, nI_1]; show _ = some (Sum.inl (a + nI 0, nI (k + 1))); rw [z0])
              · rw [if_neg (show ¬ nI 2 = (0 : Int32) by decide)]
                cases cvS (ct Mx 0 t1) (Mx.1 40 0 0) K p.1 p.2.1 p.2.2 <;> cases cvS (ct Mx 0 t2) (Mx.1 40 0 0) K p.1 p.2.1 p.2.2 <;> first
                  | (rw [if_pos (by decide), gLet_e, gLet_e, nI_1]; rfl)
                  | (rw [if_neg (by decide), gLet_e, nI_1]; show _ = some (Sum.inl (a + nI 0, nI (k + 1))); rw [z0])
            · rw [if_neg g2, if_pos rfl, if_pos rfl, decide_eq_false g2, gLet_e, nI_1]
              show _ = some (Sum.inl (a + nI 0, nI (k + 1)))
              rw [z0]
          · rw [if_neg g1, if_pos rfl, if_pos rfl, decide_eq_false g1, gLet_e, nI_1]
            show _ = some (Sum.inl (a + nI 0, nI (k + 1)))
            rw [z0])
        (fun a => by
          show X7_onBorder_L32 0 (nI t1) (nI t2) (nI d) a (nI (W * H * K)) Mx = _
          unfold X7_onBorder_L32
          rw [e6, if_pos (nI_le (Nat.le_refl _) (by omega))])
      rw [hc]
      rfl
theorem O33 : O_33 Iv := fun q nf M a1 a2 a3 hq hI => by
  refine qs (F := fun M => X10_border a1 a2 a3 M) (G := fun M => X11_border a1 a2 a3 M) (fun Mx Mm h => ?_) hI
  have h0 := h.t0 (v := 0)
  show ∃ r Mm', X10_border a1 a2 a3 Mx = some r ∧ X11_border a1 a2 a3 Mm = some (r, Mm') ∧ SM (wI Mm 50 0 0 0) Mm'
  unfold X11_border
  rw [gLet_e]
  revert h0
  generalize wI Mm 50 0 0 0 = Y
  intro h0
  unfold X10_border
  rcases h0.tri a1 with ⟨e1, e2⟩ | ⟨n, W, H, T, K, t1, hS, h1, rfl, e1, e2⟩
  · rw [e1, e2, bind_e, bind_e, if_pos rfl, if_pos rfl]; exact ⟨_, Y, rfl, rfl, SM.rf⟩
  · rw [e1, e2, bind_e, bind_e, if_neg (show ¬ (1 : Int32) = 0 by decide), if_neg (show ¬ (1 : Int32) = 0 by decide)]
    rcases j_has (p := a2) hS.1.1 hS.1.2.1.1 with ⟨e1, e2⟩ | ⟨e1, e2, t2, h2, rfl⟩
    · rw [e1, e2, bind_e, bind_e, if_pos rfl, if_pos rfl]; exact ⟨_, Y, rfl, rfl, SM.rf⟩
    · rw [e1, e2, bind_e, bind_e, if_neg (show ¬ (1 : Int32) = 0 by decide), if_neg (show ¬ (1 : Int32) = 0 by decide)]
      rcases rng (n := 3) (hi := 2) (by omega) (by omega) rfl a3 Y with ⟨o, e⟩ | ⟨e, o1, -, -, o2, d, hd2, rfl⟩
      · rw [e, bind_e, if_pos rfl]
        rcases o with o | o
        · rw [if_pos o]; exact ⟨_, Y, rfl, rfl, SM.rf⟩
        · rw [if_neg o.1, if_neg (show ¬ a3 ≤ (2 : Int32) from o.2.2.2)]; exact ⟨_, Y, rfl, rfl, SM.rf⟩
      · have hd := hS.1.1.1
        have hW := hd.1
        have hH := hd.2.1
        have hK : K ≤ 16 := by have := hd.2.2.2; omega
        obtain ⟨Y1, Z, y1, y2, y3, md, y4, y5⟩ := j_two hS h1 h2
        have hm := m_cnt (W := W) (H := H) (so := fun s => X11_border_L55 (nI d) s.1 s.2 Z) (si := fun y s => X11_border_L69 (nI d) y s.1 s.2 Z) (by omega) (by omega) (fun x y => cnK (fun s => boA Mx K d t1 t2 (x, y, s)) K)
          (fun y x a hy hx => by
            have exy : (8 * nI y : Int32) + nI x = nI (8 * y + x) := by rw [nlit 8, nI_mul, nI_add]
            show X11_border_L69 (nI d) (nI y) a (nI x) Z = _
            unfold X11_border_L69
            rw [md.2.1, if_neg (nI_ge hx (by omega)), exy, gG_t (gin_n (k := 8 * y + x) (by omega) (by decide)), nI_clamp (n := 8 * y + x) (by omega), x11_bord hd md y4, bind_e, (y5 x y hx hy).2, gLet_e, gG_t (gin_n (k := 8 * y + x) (by omega) (by decide)), (y5 x y hx hy).1, gLet_e, x11_maskB hd md y4, bind_e, bts_and hK, bts_xor hK, bts_and hK, bts_and hK, bts_and hK]
            rcases (show d = 0 ∨ d = 1 ∨ d = 2 by omega) with rfl | rfl | rfl
            · rw [if_pos (by decide), x11_szb hd.2.2.2, bind_e, gLet_e, gLet_e, nI_1]
              have e : (fun s => bdS (ct Mx 0 t1) (Mx.1 40 0 0) K x y s && bdS (ct Mx 0 t2) (Mx.1 40 0 0) K x y s) = (fun s => boA Mx K 0 t1 t2 (x, y, s)) := funext fun s => by
                unfold boA boB
                rw [if_pos rfl, Bool.and_true]
              rw [e]
            · rw [if_neg (by decide), if_pos (by decide), x11_szb hd.2.2.2, bind_e, gLet_e, gLet_e, nI_1]
              rfl
            · rw [if_neg (by decide), if_neg (by decide), x11_szb hd.2.2.2, bind_e, gLet_e, gLet_e, nI_1]
              have e : (fun s => ((bdS (ct Mx 0 t1) (Mx.1 40 0 0) K x y s && bdS (ct Mx 0 t2) (Mx.1 40 0 0) K x y s) && cvS (ct Mx 0 t1) (Mx.1 40 0 0) K x y s) && cvS (ct Mx 0 t2) (Mx.1 40 0 0) K x y s) = (fun s => boA Mx K 2 t1 t2 (x, y, s)) := funext fun s => by
                unfold boA boB
                rw [Bool.and_assoc]
                rfl
              rw [e])
          (fun y a => by
            show X11_border_L69 (nI d) (nI y) a (nI W) Z = _
            unfold X11_border_L69
            rw [md.2.1, if_pos (nI_le (Nat.le_refl _) (by omega))])
          (fun y a hy => by
            show X11_border_L55 (nI d) a (nI y) Z = _
            unfold X11_border_L55
            rw [md.2.2.1, if_neg (nI_ge hy (by omega)), nI_1]
            rfl)
          (fun a => by
            show X11_border_L55 (nI d) a (nI H) Z = _
            unfold X11_border_L55
            rw [md.2.2.1, if_pos (nI_le (Nat.le_refl _) (by omega))])
        rw [e, bind_e, if_neg (show ¬ (1 : Int32) = 0 by decide), if_neg o1, if_pos (show nI d ≤ (2 : Int32) from o2), x7_bor hd2 hS h1 h2, bind_e, y1, bind_e, y2, bind_e, hm, bind_e, cnt_tA hd]
        exact ⟨_, Z, rfl, rfl, y3⟩
end BD
