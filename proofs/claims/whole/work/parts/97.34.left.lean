/-! left -/
section LF
variable {n W H T K i j k t m nf nf' q q' L s l : Nat} {M M' Mx Mm Mx' Mm' X Y X' Y' : gM} {p p1 p2 p3 v r : Int32}
theorem SN.apart2 (h : SN m nf n W H T K Mx Mm) : ∃ X Y, X0_copyFrom 2 0 Mx = some X ∧ X11_copyRow 8 0 9 0 Mm = some Y ∧ RJ n W H T K 2 9 X Y ∧ PN 2 X ∧ SX Mx X ∧ SM Mm Y ∧ (∀ a b c, ¬ (33 ≤ a ∧ a ≤ 42 ∧ b = 2) → X.1 a b c = Mx.1 a b c) ∧ (∀ c, c < 256 → X.1 36 2 c = Mx.1 36 0 c) ∧ ∀ a b c, ¬ (a = 52 ∧ b = 9) → Y.1 a b c = Mm.1 a b c := by
  obtain ⟨X, Y, h1, h2, h3, h4, h5, h6, h7, h8⟩ := h.apart
  obtain ⟨Y', c1, c2, c3⟩ := x11_copy (M := Mm) (i0 := 8) (i2 := 9) (a := 0) (b := 0) (by decide) (by decide) (by decide) (by decide)
  have c1 : X11_copyRow 8 0 9 0 Mm = some Y' := c1
  rw [h2] at c1
  cases c1
  exact ⟨X, Y, h1, h2, h3, h4, h5, h6, h7, h8, fun a b c hq => by rw [c3, if_neg (by omega)]⟩
/-- the same, and what stays -/
theorem j_frames2 {u : Int32} (h : SN m nf n W H T K Mx Mm) (hv : v = 0 ∨ v = 1) : ∃ X Y, X7_drawWhole 0 v u Mx = some X ∧ X11_frames u v Mm = some Y ∧ RJ n W H T K 2 9 X Y ∧ PN 2 X ∧ SX Mx X ∧ SM Mm Y ∧ (∀ a b c, 19 ≤ a → a ≤ 32 → X.1 a b c = Mx.1 a b c) ∧ (∀ b c, 15 ≤ b → b ≤ 19 → Y.1 52 b c = Mm.1 52 b c) ∧ (∀ c, c < 256 → ¬ SWc W H K c → X.1 35 2 c = Mx.1 5 1 4) := by
  have hn := h.1.1.2.1
  obtain ⟨A, B, c1, c2, c3, c4, c5, c6, c7, -, c8⟩ := h.apart2
  have rv : rvl 2 v := ⟨fun z => absurd z (by omega), fun _ => hv, fun z => absurd z (by omega)⟩
  obtain ⟨-, d2⟩ := j_rule (k := 2) (v := v) (Or.inr rfl) c3 (by omega) rv
  obtain ⟨X1, Y1, w1, w2, w3, -, w5⟩ := j_wipe (Or.inr rfl) d2
  obtain ⟨B1, b1, b2, b3, b4⟩ := x11_clears (M := B) (j := 9) (Or.inr rfl)
  obtain ⟨B2, e1, e2, e3, e4⟩ := x11_clears (M := wI B 52 9 (1057 + 2) v) (j := 9) (Or.inr rfl)
  have eY : Y1 = B2 := Option.some.inj (w2.symm.trans e1)
  subst eY
  have same : ∀ a b c, (wI B1 52 9 1059 v).1 a b c = Y1.1 a b c := fun a b c => by
    by_cases hc : a = 52 ∧ b = 9
    · obtain ⟨rfl, rfl⟩ := hc
      rw [e3 c]
      by_cases h9 : c = 1059
      · subst h9
        rw [w_e]
        unfold clr
        rw [if_neg (by omega), if_neg (by omega), if_neg (by omega), if_neg (by omega), if_neg (by omega), w_e]
      · rw [w_n (by omega), b3 c, w_n (by omega)]
        unfold clr
        rw [w_n (by omega)]
    · rw [w_n (by omega), b4 a b c hc, e4 a b c hc, w_n (by omega)]
  have r1 : RJ n W H T K 2 9 X1 (wI B1 52 9 1059 v) := w3.1.same (fun _ _ _ _ => rfl) (fun _ => rfl) (fun a b c _ => same a b c)
  have sx1 : SX Mx X1 := (c5.tr ⟨fun a b c hq => w_n (by omega), fun _ _ _ _ => rfl⟩).tr w3.sx.1
  have sm1 : SM Mm (wI B1 52 9 1059 v) := c6.tr ⟨fun a b c hq => by rw [w_n (by omega), b4 a b c (by omega)], b2⟩
  have sh1 : ∀ a b c, 19 ≤ a → a ≤ 32 → X1.1 a b c = Mx.1 a b c := fun a b c h1 h2 => by rw [w3.2.1.1 a b c (by unfold xB; omega), w_n (by omega), c7 a b c (by omega)]
  have sm5 : ∀ b c, 15 ≤ b → b ≤ 19 → (wI B1 52 9 1059 v).1 52 b c = Mm.1 52 b c := fun b c h1 h2 => by rw [w_n (by omega), b4 52 b c (by omega), c8 52 b c (by omega)]
  have e54 : (wI A 40 2 2 v).1 5 1 4 = Mx.1 5 1 4 := by rw [w_n (by omega), c7 5 1 4 (by omega)]
  have bg1 : ∀ c, c < 256 → ¬ SWc W H K c → X1.1 35 2 c = Mx.1 5 1 4 := fun c hc _ => by
    obtain ⟨X', x1, x2, -⟩ := x0_wipe (M := wI A 40 2 2 v) (i := 2) (v := (wI A 40 2 2 v).1 5 1 4) (fun t ht => by obtain ⟨b, h1, h2, -⟩ := d2.2.2.2.2.2.2.1 t ht; exact ⟨b, h1, h2⟩)
    rw [w1] at x1
    cases x1
    rw [(x2 c hc).2.1, e54]
  have gk : ∀ {x y : gM}, RJ n W H T K 2 9 x y → GK W H T K x := fun r => ⟨r.1.1, r.1.2.2.2.1, r.1.2.2.2.2.1⟩
  obtain ⟨X2, Y2, f1, f2, f3, f4, f5, f6, f7, f8, f9⟩ := gI2_FU (s1 := fun z : Int32 × gM => X7_drawWhole_L36 u z.1 z.2) (s2 := fun z : Int32 × gM => X11_frames_L32 u z.1 z.2) (fun k (x : gM) => (nI k, x)) (fun k (x : gM) => (nI k, x)) (fun _ x y => RJ n W H T K 2 9 x y ∧ PN 2 x ∧ SX Mx x ∧ SM Mm y ∧ (∀ a b c, 19 ≤ a → a ≤ 32 → x.1 a b c = Mx.1 a b c) ∧ (∀ b c, 15 ≤ b → b ≤ 19 → y.1 52 b c = Mm.1 52 b c) ∧ (∀ c, c < 256 → ¬ SWc W H K c → x.1 35 2 c = Mx.1 5 1 4)) (fun x y => RJ n W H T K 2 9 x y ∧ PN 2 x ∧ SX Mx x ∧ SM Mm y ∧ (∀ a b c, 19 ≤ a → a ≤ 32 → x.1 a b c = Mx.1 a b c) ∧ (∀ b c, 15 ≤ b → b ≤ 19 → y.1 52 b c = Mm.1 52 b c) ∧ (∀ c, c < 256 → ¬ SWc W H K c → x.1 35 2 c = Mx.1 5 1 4)) 0 n (by omega) (by omega)
    (fun k x y hk hR => by
      obtain ⟨r1, r2, r3, r4, r5, r6, r7⟩ := hR
      by_cases hu : nI k = u
      · refine ⟨x, y, ?_, ?_, r1, r2, r3, r4, r5, r6, r7⟩
        · show X7_drawWhole_L36 u (nI k) x = _
          unfold X7_drawWhole_L36
          rw [r1.1.2.2.1.2.2.2.2, if_neg (nI_ge hk (by omega)), if_pos hu, gLet_e, nI_1]
        · show X11_frames_L32 u (nI k) y = _
          unfold X11_frames_L32
          rw [r1.2.1.1.1, if_neg (nI_ge hk (by omega)), if_pos hu, gLet_e, nI_1]
      · obtain ⟨r, X', Y', d1, d2, d3⟩ := j_draw (Or.inr rfl) r1 hk
        refine ⟨X', Y', ?_, ?_, d3.1, d3.pn r2, r3.tr d3.sx.1, r4.tr d3.sx.2, fun a b c h1 h2 => by rw [d3.2.1.1 a b c (by unfold xB; omega)]; exact r5 a b c h1 h2, fun b c h1 h2 => by rw [d3.2.2.1.2 52 b c (by unfold mB; omega)]; exact r6 b c h1 h2, fun c hc hw => by rw [(pv_draw (gk r1) d1).2 c hw]; exact r7 c hc hw⟩
        · show X7_drawWhole_L36 u (nI k) x = _
          unfold X7_drawWhole_L36
          rw [r1.1.2.2.1.2.2.2.2, if_neg (nI_ge hk (by omega)), if_neg hu, d1, bind_e, gU2_e, gLet_e, nI_1]
        · show X11_frames_L32 u (nI k) y = _
          unfold X11_frames_L32
          rw [r1.2.1.1.1, if_neg (nI_ge hk (by omega)), if_neg hu, d2, bind_e, gU2_e, gLet_e, nI_1])
    (fun x y hR => by
      refine ⟨x, y, ?_, ?_, hR⟩
      · show X7_drawWhole_L36 u (nI n) x = _
        unfold X7_drawWhole_L36
        rw [hR.1.1.2.2.1.2.2.2.2, if_pos (nI_le (Nat.le_refl _) (by omega))]
      · show X11_frames_L32 u (nI n) y = _
        unfold X11_frames_L32
        rw [hR.1.2.1.1.1, if_pos (nI_le (Nat.le_refl _) (by omega))])
    X1 (wI B1 52 9 1059 v) ⟨r1, w5, sx1, sm1, sh1, sm5, bg1⟩
  have f1 : gIter (fun z : Int32 × gM => X7_drawWhole_L36 u z.1 z.2) FU (0, X1) = some X2 := f1
  have f2 : gIter (fun z : Int32 × gM => X11_frames_L32 u z.1 z.2) FU (0, wI B1 52 9 1059 v) = some Y2 := f2
  obtain ⟨X3, Y3, g1, g2, g3⟩ := j_all (Or.inr rfl) f3
  refine ⟨X3, Y3, ?_, ?_, g3.1, g3.pn f4, f5.tr g3.sx.1, f6.tr g3.sx.2, fun a b c h1 h2 => by rw [g3.2.1.1 a b c (by unfold xB; omega)]; exact f7 a b c h1 h2, fun b c h1 h2 => by rw [g3.2.2.1.2 52 b c (by unfold mB; omega)]; exact f8 b c h1 h2, fun c hc hw => by rw [(pv_all (gk f3) g1).2 c hw]; exact f9 c hc hw⟩
  · unfold X7_drawWhole
    rw [c1, bind_e, gLet_e, w1, bind_e, gU2_e, f1, bind_e, g1]
    rfl
  · unfold X11_frames
    rw [c2, bind_e, b1, bind_e, gLet_e, f2, bind_e, g2]
    rfl
/-- the mean of a pixel's samples -/
def smp4 (M : gM) (c : Nat) : Nat → Int32
  | 0 => 0
  | k + 1 => smp4 M c k + M.1 35 2 (4 * c + k)
def rsv (M : gM) (K c : Nat) : Int32 := smp4 M c K / nI K
theorem x1_rs (hd : dOk W H T K) (e12 : M.1 12 0 3 = nI K) {c : Nat} (hc : c < 64) : X1_resolved 2 (nI c) M = some (rsv M K c) := by
  have hK := hd.2.2.2
  obtain ⟨e, h1, h2⟩ := gI1_FU (step := fun s : Int32 × Int32 => X1_resolved_L5 2 (nI c) s.1 s.2 M) (fun k (u : Int32) => (u, nI k)) (fun k u => u = smp4 M c k) (fun u => u = smp4 M c K) 0 K (by omega) (by omega)
    (fun k u hk hu => ⟨smp4 M c (k + 1), by
      show X1_resolved_L5 2 (nI c) u (nI k) M = _
      unfold X1_resolved_L5
      have ep : nI c * 4 + nI k = nI (4 * c + k) := by rw [nlit 4, nI_mul, nI_add, Nat.mul_comm]
      rw [e12, if_neg (nI_ge hk (by omega)), ep, gG_t (gin_n (k := 4 * c + k) (by omega) (by decide)), nI_clamp (n := 4 * c + k) (by omega), gLet_e, gLet_e, nI_1, hu]
      rfl, rfl⟩)
    (fun u hu => ⟨u, by
      show X1_resolved_L5 2 (nI c) u (nI K) M = _
      unfold X1_resolved_L5
      rw [e12, if_pos (nI_le (Nat.le_refl _) (by omega))], hu⟩) 0 rfl
  have h1 : gIter (fun s : Int32 × Int32 => X1_resolved_L5 2 (nI c) s.1 s.2 M) FU (0, 0) = some e := h1
  unfold X1_resolved
  rw [h1, bind_e, e12, if_neg (gd_gt (n := K) (by omega) (by omega)), gG_t (decide_eq_true (nI_ne0 (by omega) (by omega))), h2]
  rfl
theorem smp4_of {c : Nat} (h : ∀ k, k < l → M'.1 35 2 (4 * c + k) = M.1 35 2 (4 * c + k)) : smp4 M' c l = smp4 M c l := by
  induction l with
  | zero => rfl
  | succ l ih =>
    show smp4 M' c l + M'.1 35 2 (4 * c + l) = smp4 M c l + M.1 35 2 (4 * c + l)
    rw [ih fun k hk => h k (by omega), h l (by omega)]
/-- outside the picture the pixels are as they were -/
theorem rs_out (hd : dOk W H T K) {b : Int32} (h1 : ∀ c, c < 256 → ¬ SWc W H K c → M.1 35 2 c = b) (h2 : ∀ c, c < 256 → ¬ SWc W H K c → M'.1 35 2 c = b) {x y : Nat} (hx : x < 8) (hy : y < 8) (ho : ¬ (x < W ∧ y < H)) : rsv M' K (8 * y + x) = rsv M K (8 * y + x) := by
  have hK := hd.2.2.2
  unfold rsv
  rw [smp4_of fun k hk => ?_]
  have ho' : ¬ SWc W H K (4 * (8 * y + x) + k) := by
    rintro ⟨x', y', s', a1, a2, a3, a4⟩
    have e : plc x y k = plc x' y' s' := a4
    have hW := hd.1
    have := plc_inj e hx (by omega) (by omega) (by omega)
    exact ho ⟨by omega, by omega⟩
  rw [h1 _ (by omega) ho', h2 _ (by omega) ho']
theorem j_rs2 (h : RJ n W H T K 2 9 X Y) {x y : Nat} (hx : x < W) (hy : y < H) : X11_resolved 9 (nI x) (nI y) Y = some (rsv X K (8 * y + x)) := by
  have hd := h.1.1
  have hW := hd.1
  have hH := hd.2.1
  obtain ⟨v, v1, v2⟩ := j_res (Or.inr rfl) h hx hy
  rw [x1_rs hd h.1.2.2.2.1.2.2.2.1 (by omega)] at v1
  cases v1
  exact v2
theorem x7_l14 (hd : dOk W H T K) (e12 : X.1 12 0 3 = nI K) : ∃ X', gIter (fun s => X7_leftOf_L14 0 p s.1 s.2) FU (0, X) = some X' ∧ (∀ c, c < 64 → X'.1 29 0 c = rsv X K c) ∧ X'.2 = X.2 ∧ ∀ a b c, a ≠ 29 → X'.1 a b c = X.1 a b c := by
  obtain ⟨X', e1, e2, e3, e4⟩ := gI1_FU (step := fun s : Int32 × gM => X7_leftOf_L14 0 p s.1 s.2) (fun k (u : gM) => (nI k, u)) (fun k u => (∀ c, c < k → u.1 29 0 c = rsv X K c) ∧ u.2 = X.2 ∧ ∀ a b c, a ≠ 29 → u.1 a b c = X.1 a b c) (fun u => (∀ c, c < 64 → u.1 29 0 c = rsv X K c) ∧ u.2 = X.2 ∧ ∀ a b c, a ≠ 29 → u.1 a b c = X.1 a b c) 0 64 (by omega) (by omega)
    (fun k u hk hu => by
      obtain ⟨u1, u2, u3⟩ := hu
      have er : rsv u K k = rsv X K k := by
        unfold rsv
        rw [smp4_of fun l _ => u3 35 2 _ (by omega)]
      refine ⟨wI u 29 0 k (rsv X K k), ?_, fun c hc => ?_, u2, fun a b c ha => by rw [w_n (by omega)]; exact u3 a b c ha⟩
      · show X7_leftOf_L14 0 p (nI k) u = _
        unfold X7_leftOf_L14
        rw [if_neg (show ¬ (64 : Int32) ≤ nI k from nI_ge (a := k) (b := 64) hk (by decide)), x1_rs hd (by rw [u3 12 0 3 (by omega)]; exact e12) hk, bind_e, gG_t (gin_n hk (by decide)), nI_clamp (by omega), gLet_e, gLet_e, nI_1, er]
      · by_cases e : c = k
        · rw [e, w_e]
        · rw [w_n (by omega)]
          exact u1 c (by omega))
    (fun u hu => ⟨u, by
      show X7_leftOf_L14 0 p (nI 64) u = _
      unfold X7_leftOf_L14
      rw [if_pos (by decide)], hu⟩) X ⟨fun _ h => absurd h (by omega), rfl, fun _ _ _ _ => rfl⟩
  exact ⟨X', e1, e2, e3, e4⟩
/-- how many pixels differ -/
def dfp (P : Nat → Int32) (X : gM) (K c : Nat) : Nat := if P c = rsv X K c then 0 else 1
theorem x7_l61 (hd : dOk W H T K) (e12 : X.1 12 0 3 = nI K) : gIter (fun s => X7_leftOf_L61 s.1 s.2 X) FU (0, 0) = some (nI (spc (dfp (X.1 29 0) X K) 64)) := by
  obtain ⟨e, h1, h2⟩ := gI1_FU (step := fun s : Int32 × Int32 => X7_leftOf_L61 s.1 s.2 X) (fun k (u : Int32) => (u, nI k)) (fun k u => u = nI (spc (dfp (X.1 29 0) X K) k)) (fun u => u = nI (spc (dfp (X.1 29 0) X K) 64)) 0 64 (by omega) (by omega)
    (fun k u hk hu => ⟨nI (spc (dfp (X.1 29 0) X K) (k + 1)), by
      show X7_leftOf_L61 u (nI k) X = some (.inl (nI (spc (dfp (X.1 29 0) X K) k + dfp (X.1 29 0) X K k), nI (k + 1)))
      unfold X7_leftOf_L61
      rw [if_neg (show ¬ (64 : Int32) ≤ nI k from nI_ge (a := k) (b := 64) hk (by decide)), gG_t (gin_n hk (by decide)), nI_clamp (by omega), x1_rs hd e12 hk, bind_e, hu]
      have ed : dfp (X.1 29 0) X K k = if X.1 29 0 k = rsv X K k then 0 else 1 := rfl
      rw [ed]
      by_cases hz : X.1 29 0 k = rsv X K k
      · rw [if_pos hz, if_pos hz, gLet_e, nI_1]; rfl
      · rw [if_neg hz, if_neg hz, gLet_e, gLet_e, nI_1, nI_1], rfl⟩)
    (fun u hu => ⟨u, by
      show X7_leftOf_L61 u (nI 64) X = _
      unfold X7_leftOf_L61
      rw [if_pos (by decide)], hu⟩) 0 rfl
  rw [h2] at h1
  exact h1
theorem spc_add (f : Nat → Nat) (a b : Nat) : spc f (a + b) = spc f a + spc (fun k => f (a + k)) b := by
  induction b with
  | zero => rfl
  | succ b ih =>
    show spc f (a + b) + f (a + b) = spc f a + (spc (fun k => f (a + k)) b + f (a + b))
    rw [ih, Nat.add_assoc]
theorem spc_nest (f : Nat → Nat) (h : Nat) : spc f (8 * h) = spc (fun y => spc (fun x => f (8 * y + x)) 8) h := by
  induction h with
  | zero => rfl
  | succ h ih =>
    rw [Nat.mul_succ, spc_add, ih]
    rfl
theorem x11_l30 (h : RJ n W H T K 2 9 X Y) : ∃ Y', gIter (fun s => X11_left_L30 p s.1 s.2) FU (0, Y) = some Y' ∧ (∀ x y, x < W → y < H → Y'.1 52 16 (8 * y + x) = rsv X K (8 * y + x)) ∧ Y'.2 = Y.2 ∧ ∀ a b c, ¬ (a = 52 ∧ b = 16) → Y'.1 a b c = Y.1 a b c := by
  have hd := h.1.1
  have hW := hd.1
  have hH := hd.2.1
  have md := h.2.1.1
  obtain ⟨u, e1, e2, e3, e4⟩ := gI1_FU (step := fun s : Int32 × gM => X11_left_L30 p s.1 s.2) (fun k (u : gM) => (nI k, u)) (fun k u => (∀ x y, x < W → y < k → u.1 52 16 (8 * y + x) = rsv X K (8 * y + x)) ∧ u.2 = Y.2 ∧ ∀ a b c, ¬ (a = 52 ∧ b = 16) → u.1 a b c = Y.1 a b c) (fun u => (∀ x y, x < W → y < H → u.1 52 16 (8 * y + x) = rsv X K (8 * y + x)) ∧ u.2 = Y.2 ∧ ∀ a b c, ¬ (a = 52 ∧ b = 16) → u.1 a b c = Y.1 a b c) 0 H (by omega) (by omega)
    (fun k u hk hp => by
      obtain ⟨v, f1, f2, f3, f4, f5⟩ := gI1_FU (step := fun s : Int32 × gM => X11_left_L42 p (nI k) s.1 s.2) (fun l (u : gM) => (nI l, u)) (fun l v => (∀ x y, x < W → y < k → v.1 52 16 (8 * y + x) = rsv X K (8 * y + x)) ∧ (∀ x, x < l → v.1 52 16 (8 * k + x) = rsv X K (8 * k + x)) ∧ v.2 = Y.2 ∧ ∀ a b c, ¬ (a = 52 ∧ b = 16) → v.1 a b c = Y.1 a b c) (fun v => (∀ x y, x < W → y < k → v.1 52 16 (8 * y + x) = rsv X K (8 * y + x)) ∧ (∀ x, x < W → v.1 52 16 (8 * k + x) = rsv X K (8 * k + x)) ∧ v.2 = Y.2 ∧ ∀ a b c, ¬ (a = 52 ∧ b = 16) → v.1 a b c = Y.1 a b c) 0 W (by omega) (by omega)
        (fun l v hl hv => by
          obtain ⟨h1, h2, h3, h4⟩ := hv
          have exy : (8 * nI k : Int32) + nI l = nI (8 * k + l) := by rw [nlit 8, nI_mul, nI_add]
          have hv2 : RJ n W H T K 2 9 X v := h.same (fun _ _ _ _ => rfl) (fun _ => rfl) (fun a b c hc => h4 a b c (by omega))
          refine ⟨wI v 52 16 (8 * k + l) (rsv X K (8 * k + l)), ?_, fun x y hx hy => ?_, fun x hx => ?_, h3, fun a b c hq => by rw [w_n (by omega)]; exact h4 a b c hq⟩
          · show X11_left_L42 p (nI k) (nI l) v = _
            unfold X11_left_L42
            rw [hv2.2.1.1.2.1, if_neg (nI_ge hl (by omega)), j_rs2 hv2 hl hk, bind_e, exy, gG_t (gin_n (k := 8 * k + l) (by omega) (by decide)), nI_clamp (n := 8 * k + l) (by omega), gLet_e, gLet_e, nI_1]
          · rw [w_n (by omega)]
            exact h1 x y hx hy
          · by_cases e : x = l
            · rw [e, w_e]
            · rw [w_n (by omega)]
              exact h2 x (by omega))
        (fun v hv => ⟨v, by
          show X11_left_L42 p (nI k) (nI W) v = _
          unfold X11_left_L42
          rw [hv.2.2.2 52 2 0 (by omega), md.2.1, if_pos (nI_le (Nat.le_refl _) (by omega))], hv⟩) u ⟨hp.1, fun _ h => absurd h (by omega), hp.2.1, hp.2.2⟩
      have f1 : gIter (fun s : Int32 × gM => X11_left_L42 p (nI k) s.1 s.2) FU (0, u) = some v := f1
      refine ⟨v, ?_, fun x y hx hy => ?_, f4, f5⟩
      · show X11_left_L30 p (nI k) u = _
        unfold X11_left_L30
        rw [hp.2.2 52 2 1 (by omega), md.2.2.1, if_neg (nI_ge hk (by omega)), f1, bind_e, gLet_e, nI_1]
      · by_cases e : y = k
        · rw [e]
          exact f3 x hx
        · exact f2 x y hx (by omega))
    (fun u hp => ⟨u, by
      show X11_left_L30 p (nI H) u = _
      unfold X11_left_L30
      rw [hp.2.2 52 2 1 (by omega), md.2.2.1, if_pos (nI_le (Nat.le_refl _) (by omega))], hp⟩) Y ⟨fun _ _ _ h => absurd h (by omega), rfl, fun _ _ _ _ => rfl⟩
  exact ⟨u, e1, e2, e3, e4⟩
theorem x11_l102 (h : RJ n W H T K 2 9 X Y) {P : Nat → Int32} (hP : ∀ x y, x < W → y < H → Y.1 52 16 (8 * y + x) = P (8 * y + x)) : gIter (fun s => X11_left_L102 s.1 s.2 Y) FU (0, 0) = some (nI (spc (fun y => spc (fun x => dfp P X K (8 * y + x)) W) H)) := by
  have hd := h.1.1
  have hW := hd.1
  have hH := hd.2.1
  have md := h.2.1.1
  exact m_cnt (W := W) (H := H) (so := fun s => X11_left_L102 s.1 s.2 Y) (si := fun y s => X11_left_L115 y s.1 s.2 Y) (by omega) (by omega) (fun x y => dfp P X K (8 * y + x))
    (fun y x a hy hx => by
      have exy : (8 * nI y : Int32) + nI x = nI (8 * y + x) := by rw [nlit 8, nI_mul, nI_add]
      show X11_left_L115 (nI y) a (nI x) Y = _
      unfold X11_left_L115
      rw [md.2.1, if_neg (nI_ge hx (by omega)), exy, gG_t (gin_n (k := 8 * y + x) (by omega) (by decide)), nI_clamp (n := 8 * y + x) (by omega), j_rs2 h hx hy, bind_e, hP x y hx hy]
      unfold dfp
      split
      · rw [gLet_e, gLet_e, nI_1]
        rfl
      · rw [gLet_e, gLet_e, nI_1]
        rfl)
    (fun y a => by
      show X11_left_L115 (nI y) a (nI W) Y = _
      unfold X11_left_L115
      rw [md.2.1, if_pos (nI_le (Nat.le_refl _) (by omega))])
    (fun y a hy => by
      show X11_left_L102 a (nI y) Y = _
      unfold X11_left_L102
      rw [md.2.2.1, if_neg (nI_ge hy (by omega)), nI_1]
      rfl)
    (fun a => by
      show X11_left_L102 a (nI H) Y = _
      unfold X11_left_L102
      rw [md.2.2.1, if_pos (nI_le (Nat.le_refl _) (by omega))])
theorem O34 : O_34 Iv := fun q nf M a1 hq hI => by
  refine glue1 (F := fun M => X10_left a1 M) (G := fun M => X11_left a1 M) (fun Mx Mm h => ?_) hI
  have h0 := h.t0 (v := 0)
  show ∃ r Mx' Mm', X10_left a1 Mx = some (r, Mx') ∧ X11_left a1 Mm = some (r, Mm') ∧ J (q + 1) nf Mx' Mm' ∧ GX Mx Mx' ∧ GM Mm Mm'
  have hG : GM Mm (wI Mm 50 0 0 0) := GM.t0
  unfold X11_left
  rw [gLet_e]
  revert h0 hG
  generalize wI Mm 50 0 0 0 = Y
  intro h0 hG
  unfold X10_left
  rcases h0.tri a1 with ⟨e1, e2⟩ | ⟨n, W, H, T, K, t, hS, ht, rfl, e1, e2⟩
  · rw [e1, e2, bind_e, bind_e, if_pos rfl, if_pos rfl]
    exact ⟨_, _, _, rfl, rfl, h0.mono (by omega), GX.rf, hG⟩
  · have hd := hS.1.1.1
    have hW := hd.1
    have hH := hd.2.1
    have er : Y.1 52 8 1059 = Mx.1 40 0 2 := hS.1.2.2.2.2.1.1 2 (by omega)
    obtain ⟨A, B, c1, c2, c3, c4, c5, c6, c7, c8, c9⟩ := j_frames2 (u := -1) hS hS.1.2.2.2.2.1.2.2.2.1
    obtain ⟨X1, x1, x2, x3, x4⟩ := x7_l14 (p := nI t) hd c3.1.2.2.2.1.2.2.2.1
    obtain ⟨Y1, y1, y2, y3, y4⟩ := x11_l30 (p := nI t) c3
    have sx1 : SX Mx X1 := c5.tr ⟨fun a b c hq => x4 a b c (by omega), fun a b c _ => by rw [x3]⟩
    have sm1 : SM Y Y1 := c6.tr ⟨fun a b c hq => y4 a b c (by omega), y3⟩
    have hS1 : SN (40 * q) nf n W H T K X1 Y1 := hS.over0 sx1 sm1 fun a b c g1 g2 => by rw [x4 a b c (by omega)]; exact c7 a b c g1 (by omega)
    have er1 : Y1.1 52 8 1059 = X1.1 40 0 2 := hS1.1.2.2.2.2.1.1 2 (by omega)
    obtain ⟨A2, B2, d1, d2, d3, d4, d5, d6, d7, d8, d9⟩ := j_frames2 (u := nI t) hS1 hS1.1.2.2.2.2.1.2.2.2.1
    have cm := x11_l102 (P := rsv A K) d3 (fun x y hx hy => by rw [d8 16 _ (by omega) (by omega), y2 x y hx hy])
    have cx := x7_l61 (X := A2) hd d3.1.2.2.2.1.2.2.2.1
    have e54 : X1.1 5 1 4 = Mx.1 5 1 4 := sx1.1 5 1 4 (by omega)
    have eP : ∀ c, c < 64 → A2.1 29 0 c = rsv A K c := fun c hc => by rw [d7 29 0 c (by omega) (by omega), x2 c hc]
    have eq : spc (dfp (A2.1 29 0) A2 K) 64 = spc (fun y => spc (fun x => dfp (rsv A K) A2 K (8 * y + x)) W) H := by
      have ez : ∀ x y, x < 8 → y < 8 → dfp (A2.1 29 0) A2 K (8 * y + x) = if x < W ∧ y < H then dfp (rsv A K) A2 K (8 * y + x) else 0 := fun x y hx hy => by
        unfold dfp
        rw [eP (8 * y + x) (by omega)]
        by_cases ho : x < W ∧ y < H
        · rw [if_pos ho]
        · rw [if_neg ho, rs_out (M := A) (M' := A2) (b := Mx.1 5 1 4) hd c9 (fun c hc hw => by rw [d9 c hc hw, e54]) hx hy ho, if_pos rfl]
      have cong : ∀ (f g : Nat → Nat) (m : Nat), (∀ k, k < m → f k = g k) → spc f m = spc g m := fun f g m hfg => by
        induction m with
        | zero => rfl
        | succ m ih =>
          show spc f m + f m = spc g m + g m
          rw [ih fun k hk => hfg k (by omega), hfg m (by omega)]
      rw [show (64 : Nat) = 8 * 8 from rfl, spc_nest, spc_0 (n := H) (m := 8) (by omega) (fun y g1 g2 => by
        have : spc (fun x => dfp (A2.1 29 0) A2 K (8 * y + x)) 8 = spc (fun _ => 0) 8 := cong _ _ 8 fun x hx => by rw [ez x y hx g2, if_neg (by omega)]
        rw [this]
        rfl)]
      refine cong _ _ H fun y hy => ?_
      rw [spc_0 (n := W) (m := 8) (by omega) (fun x g1 g2 => by rw [ez x y g2 (by omega), if_neg (by omega)])]
      exact cong _ _ W fun x hx => by rw [ez x y (by omega) (by omega), if_pos ⟨hx, hy⟩]
    unfold X7_leftOf
    rw [e1, e2, bind_e, bind_e, if_neg (show ¬ (1 : Int32) = 0 by decide), if_neg (show ¬ (1 : Int32) = 0 by decide), c1, bind_e, x1, bind_e, d1, bind_e, cx, bind_e, bind_e, gU2_e, er, c2, bind_e, y1, bind_e, er1, d2, bind_e, cm, bind_e, eq]
    exact ⟨_, _, _, rfl, rfl, (h0.study (hS1.over0 d5 d6 fun a b c g1 g2 => d7 a b c g1 (by omega)) (sx1.tr d5) (sm1.tr d6)).mono (by omega), (sx1.tr d5).g, hG.tr (sm1.tr d6).g⟩
end LF
