/-! shared, border -/
def mn (a s : Int32) : Int32 := if a ≤ s then a else s
def bmn (τ : Nat → Int32) (px py : Int32) : Int32 := mn (mn (mn 1 (trS τ 0 px py)) (trS τ 1 px py)) (trS τ 2 px py)
/-- the sample lies on the border -/
def bdS (τ : Nat → Int32) (cu : Int32) (K x y s : Nat) : Bool := !cul (trA τ) cu && decide (bmn τ (qx K x s) (qy K y s) = 0)
theorem bts_and {f g : Nat → Bool} {K : Nat} (hK : K ≤ 16) : bts f K &&& bts g K = bts (fun s => f s && g s) K := bi_ext fun i hi => by
  rw [bi_and, bi_bts f hK hi, bi_bts g hK hi, bi_bts _ hK hi]
  cases decide (i < K) <;> cases f i <;> cases g i <;> rfl
theorem bts_xor {f g : Nat → Bool} {K : Nat} (hK : K ≤ 16) : bts f K ^^^ bts g K = bts (fun s => Bool.xor (f s) (g s)) K := bi_ext fun i hi => by
  rw [bi_xor, bi_bts f hK hi, bi_bts g hK hi, bi_bts _ hK hi]
  cases decide (i < K) <;> cases f i <;> cases g i <;> rfl
section SB
variable {n W H T K i j k t t1 t2 m nf q x y s : Nat} {M Mx Mm Z : gM} {τ ζ : Nat → Int32} {cu p a1 a2 : Int32}
theorem x11_bord (hd : dOk W H T K) (md : MD n W H T K Z) (z2 : AK τ ζ cu Z) (x y : Nat) : X11_borderIn (nI x) (nI y) Z = some (bts (bdS τ cu K x y) K) := by
  have hK := hd.2.2.2
  obtain ⟨e, h1, h2⟩ := gI1_FU (step := fun s : Int32 × Int32 => X11_borderIn_L5 (nI x) (nI y) s.1 s.2 Z) (fun k (u : Int32) => (u, nI k)) (fun k u => u = bts (bdS τ cu K x y) k) (fun u => u = bts (bdS τ cu K x y) K) 0 K (by omega) (by omega)
    (fun k u hk hu => by
      have hsx := x11_sX md hd hk
      have ex : (8 * nI x : Int32) + nI (sX K k) = qx K x k := by rw [nlit 8, nI_mul, nI_add]; rfl
      have ey : (8 * nI y : Int32) + nI (sY K k) = qy K y k := by rw [nlit 8, nI_mul, nI_add]; rfl
      have st : ∀ e v, e < 3 → X11_borderIn_L22 (nI x) (nI y) u (nI k) v (nI e) Z = some (.inl (mn v (trS τ e (qx K x k) (qy K y k)), nI (e + 1))) := fun e v he => by
        unfold X11_borderIn_L22 mn
        rw [if_neg (show ¬ (3 : Int32) ≤ nI e from nI_ge (a := e) (b := 3) he (by decide)), hsx.1, bind_e, hsx.2, bind_e, ex, ey, x11_sum (ζ := ζ) (cu := cu) (fun k hk => ⟨(z2.1 k hk).1, (z2.1 k hk).2.1⟩) he, bind_e]
        split <;> rw [gLet_e, nI_1]
      have inner : gIter (fun s => X11_borderIn_L22 (nI x) (nI y) u (nI k) s.1 s.2 Z) FU (1, 0) = some (bmn τ (qx K x k) (qy K y k)) := by
        apply FU5
        refine gIt_s (s' := (mn 1 (trS τ 0 (qx K x k) (qy K y k)), nI 1)) (st 0 1 (by omega)) ?_
        refine gIt_s (s' := (mn (mn 1 (trS τ 0 (qx K x k) (qy K y k))) (trS τ 1 (qx K x k) (qy K y k)), nI 2)) (st 1 _ (by omega)) ?_
        refine gIt_s (s' := (bmn τ (qx K x k) (qy K y k), nI 3)) (st 2 _ (by omega)) ?_
        refine gIt_x ?_
        show X11_borderIn_L22 (nI x) (nI y) u (nI k) _ (nI 3) Z = _
        unfold X11_borderIn_L22
        rw [if_pos (by decide)]
      refine ⟨bts (bdS τ cu K x y) (k + 1), ?_, rfl⟩
      show X11_borderIn_L5 (nI x) (nI y) u (nI k) Z = some (.inl (if bdS τ cu K x y k = true then bts (bdS τ cu K x y) k ||| ((1 : Int32) <<< (nI k &&& 31)) else bts (bdS τ cu K x y) k, nI (k + 1)))
      unfold X11_borderIn_L5
      rw [md.2.2.2.2, if_neg (nI_ge hk (by omega)), inner, bind_e, z2.2.2, ← hu]
      unfold bdS
      by_cases hb : bmn τ (qx K x k) (qy K y k) = 0
      · rw [if_pos hb, decide_eq_true hb]
        cases cul (trA τ) cu with
        | true => rw [if_neg (by decide), gLet_e, gLet_e, nI_1, Int32.or_zero, if_neg (by decide)]
        | false => rw [if_pos (by decide), gLet_e, gLet_e, nI_1, if_pos (by decide)]
      · rw [if_neg hb, decide_eq_false hb, Bool.and_false, gLet_e, gLet_e, nI_1, Int32.or_zero, if_neg (by decide)])
    (fun u hu => ⟨u, by
      show X11_borderIn_L5 (nI x) (nI y) u (nI K) Z = _
      unfold X11_borderIn_L5
      rw [md.2.2.2.2, if_pos (nI_le (Nat.le_refl _) (by omega))], hu⟩) 0 rfl
  have h1 : gIter (fun s => X11_borderIn_L5 (nI x) (nI y) s.1 s.2 Z) FU (0, 0) = some e := h1
  unfold X11_borderIn
  rw [h1, h2]
  rfl
/-- masks are laid -/
def ML7 (τ : Nat → Int32) (cu : Int32) (K x y : Nat) (u : gM) : Prop := u.1 52 17 (8 * y + x) = bts (cvS τ cu K x y) K ∧ u.1 52 18 (8 * y + x) = bts (bdS τ cu K x y) K
def O78 (Z u : gM) : Prop := u.2 = Z.2 ∧ ∀ a b c, ¬ (a = 52 ∧ (b = 17 ∨ b = 18)) → u.1 a b c = Z.1 a b c
theorem O78.ak {u : gM} (h : O78 Z u) (z : AK τ ζ cu Z) : AK τ ζ cu u := by
  refine ⟨fun k hk => ?_, ?_, ?_⟩
  · rw [h.2 52 12 k (by omega), h.2 52 13 k (by omega), h.2 52 14 k (by omega)]
    exact z.1 k hk
  · rw [h.2 50 0 28 (by omega)]
    exact z.2.1
  · rw [h.2 50 0 31 (by omega)]
    exact z.2.2
theorem O78.md {u : gM} (h : O78 Z u) (g : MD n W H T K Z) : MD n W H T K u := by
  unfold MD
  rw [h.2 50 0 16 (by omega), h.2 52 2 0 (by omega), h.2 52 2 1 (by omega), h.2 52 2 2 (by omega), h.2 52 2 3 (by omega)]
  exact g
theorem x11_lays (hd : dOk W H T K) (md : MD n W H T K Z) (z2 : AK τ ζ cu Z) : ∃ u, gIter (fun s => X11_laysMasks_L11 s.1 s.2) FU (0, Z) = some u ∧ O78 Z u ∧ ∀ x y, x < W → y < H → ML7 τ cu K x y u := by
  have hW := hd.1
  have hH := hd.2.1
  obtain ⟨u, e1, e2, e3⟩ := gI1_FU (step := fun s : Int32 × gM => X11_laysMasks_L11 s.1 s.2) (fun k (u : gM) => (nI k, u)) (fun k u => O78 Z u ∧ ∀ x y, x < W → y < k → ML7 τ cu K x y u) (fun u => O78 Z u ∧ ∀ x y, x < W → y < H → ML7 τ cu K x y u) 0 H (by omega) (by omega)
    (fun k u hk hp => by
      obtain ⟨o, hp⟩ := hp
      obtain ⟨v, f1, f2, f3, f4⟩ := gI1_FU (step := fun s : Int32 × gM => X11_laysMasks_L23 (nI k) s.1 s.2) (fun l (u : gM) => (nI l, u)) (fun l v => O78 Z v ∧ (∀ x y, x < W → y < k → ML7 τ cu K x y v) ∧ ∀ x, x < l → ML7 τ cu K x k v) (fun v => O78 Z v ∧ (∀ x y, x < W → y < k → ML7 τ cu K x y v) ∧ ∀ x, x < W → ML7 τ cu K x k v) 0 W (by omega) (by omega)
        (fun l v hl hv => by
          obtain ⟨o1, h1, h2⟩ := hv
          have exy : (8 * nI k : Int32) + nI l = nI (8 * k + l) := by rw [nlit 8, nI_mul, nI_add]
          have o2 : O78 Z (wI v 52 17 (8 * k + l) (bts (cvS τ cu K l k) K)) := ⟨o1.1, fun a b c hq => by rw [w_n (by omega)]; exact o1.2 a b c hq⟩
          refine ⟨wI (wI v 52 17 (8 * k + l) (bts (cvS τ cu K l k) K)) 52 18 (8 * k + l) (bts (bdS τ cu K l k) K), ?_, ⟨o1.1, fun a b c hq => by rw [w_n (by omega), w_n (by omega)]; exact o1.2 a b c hq⟩, fun x y hx hy => ?_, fun x hx => ?_⟩
          · show X11_laysMasks_L23 (nI k) (nI l) v = _
            unfold X11_laysMasks_L23
            rw [(o1.md md).2.1, if_neg (nI_ge hl (by omega)), x11_maskB hd (o1.md md) (o1.ak z2), bind_e, exy, gG_t (gin_n (k := 8 * k + l) (by omega) (by decide)), nI_clamp (n := 8 * k + l) (by omega), gLet_e, x11_bord hd (o2.md md) (o2.ak z2), bind_e, gG_t (gin_n (k := 8 * k + l) (by omega) (by decide)), gLet_e, gLet_e, nI_1]
          · have := h1 x y hx hy
            unfold ML7
            rw [w_n (by omega), w_n (by omega), w_n (by omega), w_n (by omega)]
            exact this
          · unfold ML7
            by_cases e : x = l
            · subst e
              rw [w_n (by omega), w_e, w_e]
              exact ⟨rfl, rfl⟩
            · have := h2 x (by omega)
              rw [w_n (by omega), w_n (by omega), w_n (by omega), w_n (by omega)]
              exact this)
        (fun v hv => ⟨v, by
          show X11_laysMasks_L23 (nI k) (nI W) v = _
          unfold X11_laysMasks_L23
          rw [(hv.1.md md).2.1, if_pos (nI_le (Nat.le_refl _) (by omega))], hv⟩) u ⟨o, hp, fun _ h => absurd h (by omega)⟩
      have f1 : gIter (fun s : Int32 × gM => X11_laysMasks_L23 (nI k) s.1 s.2) FU (0, u) = some v := f1
      refine ⟨v, ?_, f2, fun x y hx hy => ?_⟩
      · show X11_laysMasks_L11 (nI k) u = _
        unfold X11_laysMasks_L11
        rw [(o.md md).2.2.1, if_neg (nI_ge hk (by omega)), f1, bind_e, gLet_e, nI_1]
      · by_cases e : y = k
        · rw [e]
          exact f4 x hx
        · exact f3 x y hx (by omega))
    (fun u hp => ⟨u, by
      show X11_laysMasks_L11 (nI H) u = _
      unfold X11_laysMasks_L11
      rw [(hp.1.md md).2.2.1, if_pos (nI_le (Nat.le_refl _) (by omega))], hp⟩) Z ⟨⟨rfl, fun _ _ _ _ => rfl⟩, fun _ _ _ h => absurd h (by omega)⟩
  exact ⟨u, e1, e2, e3⟩
/-- both are asked: the first's masks laid, the second's asked -/
theorem j_two (hS : SN m nf n W H T K Mx Mm) (h1 : t1 < n) (h2 : t2 < n) : ∃ Y1 Y, X11_laysMasks (nI t1) Mm = some Y1 ∧ X11_asks 8 (nI t2) Y1 = some Y ∧ SM Mm Y ∧ MD n W H T K Y ∧ AK (ct Mx 0 t2) (zt Mx t2) (Mx.1 40 0 0) Y ∧ ∀ x y, x < W → y < H → ML7 (ct Mx 0 t1) (Mx.1 40 0 0) K x y Y := by
  have hd := hS.1.1.1
  obtain ⟨Z, z1, z2, z3⟩ := hS.asks h1
  obtain ⟨u, e1, e2, e3⟩ := x11_lays hd (z3.md hS.1.2.1.1) z2
  have sm : SM Mm u := z3.sm.tr ⟨fun a b c hq => e2.2 a b c (by omega), e2.1⟩
  have hS1 := hS.sm sm
  obtain ⟨Y, y1, y2, y3⟩ := hS1.asks h2
  refine ⟨u, Y, ?_, y1, sm.tr y3.sm, y3.md hS1.1.2.1.1, y2, fun x y hx hy => ?_⟩
  · unfold X11_laysMasks
    rw [z1, bind_e, e1]
    rfl
  · have := e3 x y hx hy
    unfold ML7
    rw [y3.2 52 17 _ (by omega), y3.2 52 18 _ (by omega)]
    exact this
theorem x7_cov (hS : SN m nf n W H T K Mx Mm) (h1 : t1 < n) (h2 : t2 < n) (hx : x < W) (hy : y < H) (hs : s < K) : X7_coveringAt 0 (nI t1) (nI t2) (nI (plc x y s)) Mx = some (nI ((if cvS (ct Mx 0 t1) (Mx.1 40 0 0) K x y s = true then 1 else 0) + (if cvS (ct Mx 0 t2) (Mx.1 40 0 0) K x y s = true then 1 else 0))) := by
  obtain ⟨d1, d2, d3⟩ := dq_c hS h1 hx hy hs
  obtain ⟨e1, e2, e3⟩ := dq_c hS h2 hx hy hs
  unfold X7_coveringAt X7_coveringAt_J19
  rw [d1, bind_e, e1, bind_e]
  cases hc1 : cvS (ct Mx 0 t1) (Mx.1 40 0 0) K x y s with
  | true =>
    rw [if_neg (d2 hc1)]
    cases hc2 : cvS (ct Mx 0 t2) (Mx.1 40 0 0) K x y s with
    | true => rw [bind_e, if_neg (e2 hc2)]; rfl
    | false => rw [bind_e, if_pos (e3 hc2)]; rfl
  | false =>
    rw [if_pos (d3 hc1)]
    cases hc2 : cvS (ct Mx 0 t2) (Mx.1 40 0 0) K x y s with
    | true => rw [if_neg (e2 hc2)]; rfl
    | false => rw [if_pos (e3 hc2)]; rfl
/-- both cover, or one alone -/
def shB (d : Nat) (a b : Bool) : Bool := if d = 0 then a && b else Bool.xor a b
theorem j_shr {d : Nat} (hd2 : d < 2) (hS : SN m nf n W H T K Mx Mm) (h1 : t1 < n) (h2 : t2 < n) : ∃ v Y1 Y, X7_sharedBy 0 (nI t1) (nI t2) (2 - nI d) Mx = some v ∧ X11_laysMasks (nI t1) Mm = some Y1 ∧ X11_asks 8 (nI t2) Y1 = some Y ∧ gIter (fun s => X11_shared_L53 (nI d) s.1 s.2 Y) FU (0, 0) = some v ∧ SM Mm Y := by
  have hd := hS.1.1.1
  have hW := hd.1
  have hH := hd.2.1
  have hw := whk_le hd
  have hK : K ≤ 16 := by have := hd.2.2.2; omega
  have e6 : Mx.1 12 0 6 = nI (W * H * K) := hS.1.1.2.2.2.1.2.2.2.2.2.2
  obtain ⟨Y1, Y, y1, y2, y3, md, y4, y5⟩ := j_two hS h1 h2
  have hc := c_cnt (sc := fun s => X7_sharedBy_L6 0 (nI t1) (nI t2) (2 - nI d) s.1 s.2 Mx) hd (fun a => shB d (cvS (ct Mx 0 t1) (Mx.1 40 0 0) K a.1 a.2.1 a.2.2) (cvS (ct Mx 0 t2) (Mx.1 40 0 0) K a.1 a.2.1 a.2.2))
    (fun k a hk => by
      obtain ⟨p, hp, hb, e13⟩ := go_k hS hk
      have hcv := x7_cov hS h1 h2 hb.1 hb.2.1 hb.2.2
      show X7_sharedBy_L6 0 (nI t1) (nI t2) (2 - nI d) a (nI k) Mx = _
      unfold X7_sharedBy_L6
      rw [e6, if_neg (nI_ge hk (by omega)), gG_t (gin_n (k := k) (by omega) (by decide)), nI_clamp (by omega), e13, hcv, bind_e, hp]
      show _ = some (Sum.inl (a + nI (if shB d (cvS (ct Mx 0 t1) (Mx.1 40 0 0) K p.1 p.2.1 p.2.2) (cvS (ct Mx 0 t2) (Mx.1 40 0 0) K p.1 p.2.1 p.2.2) = true then 1 else 0), nI (k + 1)))
      have z0 : a + nI 0 = a := Int32.add_zero a
      rcases (show d = 0 ∨ d = 1 by omega) with rfl | rfl <;> cases cvS (ct Mx 0 t1) (Mx.1 40 0 0) K p.1 p.2.1 p.2.2 <;> cases cvS (ct Mx 0 t2) (Mx.1 40 0 0) K p.1 p.2.1 p.2.2 <;> first
        | (rw [if_pos (by decide), gLet_e, gLet_e, nI_1]; rfl)
        | (rw [if_neg (by decide), gLet_e, nI_1]; show _ = some (Sum.inl (a + nI 0, nI (k + 1))); rw [z0]))
    (fun a => by
      show X7_sharedBy_L6 0 (nI t1) (nI t2) (2 - nI d) a (nI (W * H * K)) Mx = _
      unfold X7_sharedBy_L6
      rw [e6, if_pos (nI_le (Nat.le_refl _) (by omega))])
  have hm := m_cnt (W := W) (H := H) (so := fun s => X11_shared_L53 (nI d) s.1 s.2 Y) (si := fun y s => X11_shared_L67 (nI d) y s.1 s.2 Y) (by omega) (by omega) (fun x y => cnK (fun s => shB d (cvS (ct Mx 0 t1) (Mx.1 40 0 0) K x y s) (cvS (ct Mx 0 t2) (Mx.1 40 0 0) K x y s)) K)
    (fun y x a hy hx => by
      have exy : (8 * nI y : Int32) + nI x = nI (8 * y + x) := by rw [nlit 8, nI_mul, nI_add]
      show X11_shared_L67 (nI d) (nI y) a (nI x) Y = _
      unfold X11_shared_L67
      rw [md.2.1, if_neg (nI_ge hx (by omega)), exy, gG_t (gin_n (k := 8 * y + x) (by omega) (by decide)), nI_clamp (n := 8 * y + x) (by omega), (y5 x y hx hy).1, gLet_e, x11_maskB hd md y4, bind_e, bts_and hK, bts_xor hK]
      rcases (show d = 0 ∨ d = 1 by omega) with rfl | rfl
      · rw [if_pos (by decide), x11_szb hd.2.2.2, bind_e, gLet_e, gLet_e, nI_1]; rfl
      · rw [if_neg (by decide), x11_szb hd.2.2.2, bind_e, gLet_e, gLet_e, nI_1]; rfl)
    (fun y a => by
      show X11_shared_L67 (nI d) (nI y) a (nI W) Y = _
      unfold X11_shared_L67
      rw [md.2.1, if_pos (nI_le (Nat.le_refl _) (by omega))])
    (fun y a hy => by
      show X11_shared_L53 (nI d) a (nI y) Y = _
      unfold X11_shared_L53
      rw [md.2.2.1, if_neg (nI_ge hy (by omega)), nI_1]
      rfl)
    (fun a => by
      show X11_shared_L53 (nI d) a (nI H) Y = _
      unfold X11_shared_L53
      rw [md.2.2.1, if_pos (nI_le (Nat.le_refl _) (by omega))])
  rw [cnt_tA hd] at hc
  refine ⟨_, Y1, Y, ?_, y1, y2, hm, y3⟩
  unfold X7_sharedBy
  rw [hc]
  rfl
theorem O32 : O_32 Iv := fun q nf M a1 a2 a3 hq hI => by
  refine qs (F := fun M => X10_shared a1 a2 a3 M) (G := fun M => X11_shared a1 a2 a3 M) (fun Mx Mm h => ?_) hI
  have h0 := h.t0 (v := 0)
  show ∃ r Mm', X10_shared a1 a2 a3 Mx = some r ∧ X11_shared a1 a2 a3 Mm = some (r, Mm') ∧ SM (wI Mm 50 0 0 0) Mm'
  unfold X11_shared
  rw [gLet_e]
  revert h0
  generalize wI Mm 50 0 0 0 = Y
  intro h0
  unfold X10_shared
  rcases h0.tri a1 with ⟨e1, e2⟩ | ⟨n, W, H, T, K, t, hS, ht, rfl, e1, e2⟩
  · rw [e1, e2, bind_e, bind_e, if_pos rfl, if_pos rfl]; exact ⟨_, Y, rfl, rfl, SM.rf⟩
  · rw [e1, e2, bind_e, bind_e, if_neg (show ¬ (1 : Int32) = 0 by decide), if_neg (show ¬ (1 : Int32) = 0 by decide)]
    rcases j_has (p := a2) hS.1.1 hS.1.2.1.1 with ⟨e1, e2⟩ | ⟨e1, e2, t2, ht2, rfl⟩
    · rw [e1, e2, bind_e, bind_e, if_pos rfl, if_pos rfl]; exact ⟨_, Y, rfl, rfl, SM.rf⟩
    · rw [e1, e2, bind_e, bind_e, if_neg (show ¬ (1 : Int32) = 0 by decide), if_neg (show ¬ (1 : Int32) = 0 by decide)]
      rcases rng (n := 2) (hi := 1) (by omega) (by omega) rfl a3 Y with ⟨o, e⟩ | ⟨e, o1, -, -, o2, d, hd, rfl⟩
      · rw [e, bind_e, if_pos rfl]
        rcases o with o | o
        · rw [if_pos o]; exact ⟨_, Y, rfl, rfl, SM.rf⟩
        · rw [if_neg o.1, if_neg (show ¬ a3 ≤ (1 : Int32) from o.2.2.2)]; exact ⟨_, Y, rfl, rfl, SM.rf⟩
      · obtain ⟨v, Y1, Y2, f1, f2, f3, f4, f5⟩ := j_shr hd hS ht ht2
        rw [e, bind_e, if_neg (show ¬ (1 : Int32) = 0 by decide), if_neg o1, if_pos (show nI d ≤ (1 : Int32) from o2), f1, bind_e, f2, bind_e, f3, bind_e, f4, bind_e]
        exact ⟨_, Y2, rfl, rfl, f5⟩
end SB
