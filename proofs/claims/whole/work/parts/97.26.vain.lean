/-! covered, touched in vain -/
def ob1 (k i : Nat) : Bool := decide (((1 : Int32) <<< (nI k &&& 31)).toBitVec.getLsbD i = decide (i = k))
theorem ob1_all : ((List.range 16).all fun k => (List.range 32).all fun i => ob1 k i) = true := by decide +kernel
theorem ob1_e {k i : Nat} (hk : k < 16) (hi : i < 32) : ((1 : Int32) <<< (nI k &&& 31)).toBitVec.getLsbD i = decide (i = k) :=
  of_decide_eq_true (List.all_eq_true.mp (List.all_eq_true.mp ob1_all k (List.mem_range.mpr hk)) i (List.mem_range.mpr hi))
def om1 (i : Nat) : Bool := decide ((-1 : Int32).toBitVec.getLsbD i = true)
theorem om1_all : ((List.range 32).all om1) = true := by decide +kernel
theorem om1_e {i : Nat} (hi : i < 32) : (-1 : Int32).toBitVec.getLsbD i = true := of_decide_eq_true (List.all_eq_true.mp om1_all i (List.mem_range.mpr hi))
/-- the bit i -/
def bi (x : Int32) (i : Nat) : Bool := x.toBitVec.getLsbD i
theorem bi_ext {x y : Int32} (h : ∀ i, i < 32 → bi x i = bi y i) : x = y := by
  apply Int32.toBitVec_inj.1
  apply BitVec.eq_of_getLsbD_eq
  exact h
theorem bi_or (x y : Int32) (i : Nat) : bi (x ||| y) i = (bi x i || bi y i) := by
  unfold bi
  rw [Int32.toBitVec_or, BitVec.getLsbD_or]
theorem bi_and (x y : Int32) (i : Nat) : bi (x &&& y) i = (bi x i && bi y i) := by
  unfold bi
  rw [Int32.toBitVec_and, BitVec.getLsbD_and]
theorem bi_xor (x y : Int32) (i : Nat) : bi (x ^^^ y) i = Bool.xor (bi x i) (bi y i) := by
  unfold bi
  rw [Int32.toBitVec_xor, BitVec.getLsbD_xor]
theorem bi_1 {k i : Nat} (hk : k < 16) (hi : i < 32) : bi ((1 : Int32) <<< (nI k &&& 31)) i = decide (i = k) := ob1_e hk hi
theorem bi_0 (i : Nat) : bi 0 i = false := by
  unfold bi
  show (0 : BitVec 32).getLsbD i = false
  exact BitVec.getLsbD_zero
theorem bi_clr (x : Int32) {k i : Nat} (hk : k < 16) (hi : i < 32) : bi (x &&& ((1 <<< (nI k &&& 31)) ^^^ (-1))) i = (bi x i && !decide (i = k)) := by
  rw [bi_and, bi_xor, bi_1 hk hi, show bi (-1) i = true from om1_e hi, Bool.xor_true]
theorem bi_bts (f : Nat → Bool) {m i : Nat} (hm : m ≤ 16) (hi : i < 32) : bi (bts f m) i = (decide (i < m) && f i) := by
  induction m with
  | zero => rw [show bts f 0 = 0 from rfl, bi_0]; simp
  | succ m ih =>
    show bi (if f m = true then bts f m ||| ((1 : Int32) <<< (nI m &&& 31)) else bts f m) i = _
    have ih := ih (by omega)
    by_cases e : i = m
    · subst e
      cases hf : f i with
      | true => rw [if_pos rfl, bi_or, ih, bi_1 (by omega) hi]; simp
      | false => rw [if_neg (by decide), ih, hf]; simp
    · have e1 : decide (i < m + 1) = decide (i < m) := by
        by_cases g : i < m
        · rw [decide_eq_true g, decide_eq_true (by omega)]
        · rw [decide_eq_false g, decide_eq_false (by omega)]
      rw [e1]
      cases hf : f m with
      | true => rw [if_pos rfl, bi_or, ih, bi_1 (by omega) hi, decide_eq_false e, Bool.or_false]
      | false => rw [if_neg (by decide), ih]
theorem x11_hasB (x : Int32) {k : Nat} (hk : k < 32) (M : gM) : X11_has x (nI k) M = some (if bi x k = true then 1 else 0) := by
  have hs := of_decide_eq_true (List.all_eq_true.mp shk_all k (List.mem_range.mpr hk))
  have e : (x >>> (nI k &&& 31)).toBitVec.getLsbD 0 = x.toBitVec.getLsbD k := by
    rw [Int32.toBitVec_shiftRight, BitVec.sshiftRight_eq', BitVec.getLsbD_sshiftRight, hs, Nat.add_zero, if_pos hk]
    rfl
  rw [x11_hasb, and1b, e]
  unfold bi
  cases x.toBitVec.getLsbD k <;> rfl
section VN
variable {n W H T K i j k t tl m nf x y s : Nat} {M Mx Mm Z : gM}
theorem dq_c (hS : SN m nf n W H T K Mx Mm) (ht : t < n) (hx : x < W) (hy : y < H) (hs : s < K) : X9_depthIn 0 (nI t) (nI (plc x y s)) Mx = some (dq Mx K t x y s) ∧ (cvS (ct Mx 0 t) (Mx.1 40 0 0) K x y s = true → ¬ dq Mx K t x y s < 0) ∧ (cvS (ct Mx 0 t) (Mx.1 40 0 0) K x y s = false → dq Mx K t x y s < 0) := by
  obtain ⟨Z, z1, z2, z3⟩ := hS.asks ht
  obtain ⟨d1, d2⟩ := j_dq hS ht z2 z3 hx hy hs
  have hc := x11_covS (x := x) (y := y) (z3.md hS.1.2.1.1) hS.1.1.1 z2 hs
  have hc : X11_coversSample (nI x) (nI y) (nI s) Z = some (if cvS (ct Mx 0 t) (Mx.1 40 0 0) K x y s = true then 1 else 0) := hc
  refine ⟨d1, fun h => ?_, fun h => ?_⟩
  · rw [h, if_pos rfl] at hc
    rcases d2 with ⟨-, d3⟩ | ⟨-, d3, -⟩
    · rw [hc] at d3
      exact absurd (Option.some.inj d3) (by decide)
    · exact d3
  · rw [h, if_neg (by decide)] at hc
    rcases d2 with ⟨d2, -⟩ | ⟨-, -, d3, -⟩
    · rw [d2]
      decide
    · rw [hc] at d3
      exact absurd (Option.some.inj d3) (by decide)
theorem go_k (hS : SN m nf n W H T K Mx Mm) (hk : k < W * H * K) : ∃ a : Nat × Nat × Nat, (tA W H T K (tN W H T)).getD k (0, 0, 0) = a ∧ (a.1 < W ∧ a.2.1 < H ∧ a.2.2 < K) ∧ Mx.1 13 0 k = nI (plc a.1 a.2.1 a.2.2) := by
  have hd := hS.1.1.1
  exact ⟨_, rfl, tA_mem hd (Nat.le_refl _) (tA_getD hd hk), hS.1.1.2.2.2.2.1.2 k hk⟩
theorem x9_covB (hS : SN m nf n W H T K Mx Mm) (ht : t < n) : X9_coveredBy 0 (nI t) Mx = some (nI ((tA W H T K (tN W H T)).countP fun a => cvS (ct Mx 0 t) (Mx.1 40 0 0) K a.1 a.2.1 a.2.2)) := by
  have hd := hS.1.1.1
  have hw := whk_le hd
  have e6 : Mx.1 12 0 6 = nI (W * H * K) := hS.1.1.2.2.2.1.2.2.2.2.2.2
  have h := c_cnt (sc := fun s => X9_coveredBy_L5 0 (nI t) s.1 s.2 Mx) hd (fun a => cvS (ct Mx 0 t) (Mx.1 40 0 0) K a.1 a.2.1 a.2.2)
    (fun k a hk => by
      obtain ⟨p, hp, hb, e13⟩ := go_k hS hk
      obtain ⟨d1, d2, d3⟩ := dq_c hS ht hb.1 hb.2.1 hb.2.2
      show X9_coveredBy_L5 0 (nI t) a (nI k) Mx = _
      unfold X9_coveredBy_L5
      rw [e6, if_neg (nI_ge hk (by omega)), gG_t (gin_n (k := k) (by omega) (by decide)), nI_clamp (by omega), e13, d1, bind_e, hp]
      show _ = some (Sum.inl (a + nI (if cvS (ct Mx 0 t) (Mx.1 40 0 0) K p.1 p.2.1 p.2.2 = true then 1 else 0), nI (k + 1)))
      cases hc : cvS (ct Mx 0 t) (Mx.1 40 0 0) K p.1 p.2.1 p.2.2 with
      | true => rw [if_neg (d2 hc), gLet_e, gLet_e, nI_1, if_pos rfl]; rfl
      | false =>
        rw [if_pos (d3 hc), gLet_e, nI_1, if_neg (by decide)]
        show _ = some (Sum.inl (a + 0, nI (k + 1)))
        rw [Int32.add_zero])
    (fun a => by
      show X9_coveredBy_L5 0 (nI t) a (nI (W * H * K)) Mx = _
      unfold X9_coveredBy_L5
      rw [e6, if_pos (nI_le (Nat.le_refl _) (by omega))])
  unfold X9_coveredBy
  rw [h]
  rfl
/-- samples of a tile, counted -/
theorem cnt_fm' {α : Type} (B : α → Bool) (f : Nat → List α) (a m : Nat) : ((List.range' a m).flatMap f).countP B = spc (fun y => (f (a + y)).countP B) m := by
  rw [List.range'_eq_map_range, List.flatMap_map, cnt_fm]
theorem cnt_tS (B : Nat × Nat × Nat → Bool) : (tS W H T K tl).countP B = spc (fun y => spc (fun x => cnK (fun s => B (tL W T tl + x, tU W T tl + y, s)) K) (tR W T tl - tL W T tl)) (tD W H T tl - tU W T tl) := by
  unfold tS tX
  rw [cnt_fm']
  congr 1
  funext y
  rw [cnt_fm']
  congr 1
  funext x
  rw [List.countP_map, ← List.range_eq_range']
  rfl
theorem m_cntO {so : Int32 × Int32 → Option ((Int32 × Int32) ⊕ Int32)} {si : Int32 → Int32 × Int32 → Option ((Int32 × Int32) ⊕ Int32)} {x0 w y0 h : Nat} (hW : w ≤ 8) (hH : h ≤ 8) (g : Nat → Nat → Nat)
    (h1 : ∀ y x a, y < h → x < w → si (nI (y0 + y)) (a, nI (x0 + x)) = some (.inl (a + nI (g x y), nI (x0 + x + 1)))) (h2 : ∀ y a, si (nI y) (a, nI (x0 + w)) = some (.inr a))
    (h3 : ∀ y a, y < h → so (a, nI (y0 + y)) = (gIter (si (nI (y0 + y))) FU (a, nI x0)).bind fun a' => some (.inl (a', nI (y0 + y + 1)))) (h4 : ∀ a, so (a, nI (y0 + h)) = some (.inr a)) :
    gIter so FU (0, nI y0) = some (nI (spc (fun y => spc (fun x => g x y) w) h)) := by
  have inner : ∀ y c, y < h → gIter (si (nI (y0 + y))) FU (nI c, nI x0) = some (nI (c + spc (fun x => g x y) w)) := fun y c hy => by
    obtain ⟨e, e1, e2⟩ := gI1_FU (step := si (nI (y0 + y))) (fun k (u : Int32) => (u, nI (x0 + k))) (fun k u => u = nI (c + spc (fun x => g x y) k)) (fun u => u = nI (c + spc (fun x => g x y) w)) 0 w (by omega) (by omega)
      (fun k u hk hu => ⟨_, h1 y k u hy hk, by rw [hu, nI_add, Nat.add_assoc]; rfl⟩)
      (fun u hu => ⟨u, h2 _ u, hu⟩) (nI c) (by rfl)
    rw [e2] at e1
    exact e1
  obtain ⟨e, e1, e2⟩ := gI1_FU (step := so) (fun k (u : Int32) => (u, nI (y0 + k))) (fun k u => u = nI (spc (fun y => spc (fun x => g x y) w) k)) (fun u => u = nI (spc (fun y => spc (fun x => g x y) w) h)) 0 h (by omega) (by omega)
    (fun k u hk hu => ⟨nI (spc (fun y => spc (fun x => g x y) w) (k + 1)), by
      show so (u, nI (y0 + k)) = _
      rw [h3 k u hk, hu, inner k _ hk]
      rfl, rfl⟩)
    (fun u hu => ⟨u, h4 u, hu⟩) 0 rfl
  rw [e2] at e1
  exact e1
theorem x11_covIn {τ ζ : Nat → Int32} {cu : Int32} (hd : dOk W H T K) (md : MD n W H T K Z) (z2 : AK τ ζ cu Z) (htl : tl < tN W H T) : X11_coveredIn (nI tl) Z = some (nI ((tS W H T K tl).countP fun a => cvS τ cu K a.1 a.2.1 a.2.2)) := by
  have hW := hd.1
  have hH := hd.2.1
  have hf := hd.t htl
  have hN := hd.N
  rw [cnt_tS]
  have h := m_cntO (x0 := tL W T tl) (w := tR W T tl - tL W T tl) (y0 := tU W T tl) (h := tD W H T tl - tU W T tl) (so := fun s => X11_coveredIn_L8 (nI tl) s.1 s.2 Z) (si := fun y s => X11_coveredIn_L24 (nI tl) y s.1 s.2 Z) (by omega) (by omega) (fun x y => cnK (cvS τ cu K (tL W T tl + x) (tU W T tl + y)) K)
    (fun y x a hy hx => by
      show X11_coveredIn_L24 (nI tl) (nI (tU W T tl + y)) a (nI (tL W T tl + x)) Z = _
      unfold X11_coveredIn_L24
      rw [x11_right hd md (by omega), bind_e, if_neg (nI_ge (by omega) (by omega)), x11_maskB hd md z2, bind_e, x11_szb hd.2.2.2, bind_e, gLet_e, gLet_e, nI_1])
    (fun y a => by
      show X11_coveredIn_L24 (nI tl) (nI y) a (nI (tL W T tl + (tR W T tl - tL W T tl))) Z = _
      unfold X11_coveredIn_L24
      rw [x11_right hd md (by omega), bind_e, if_pos (nI_le (by omega) (by omega))])
    (fun y a hy => by
      show X11_coveredIn_L8 (nI tl) a (nI (tU W T tl + y)) Z = _
      unfold X11_coveredIn_L8
      rw [x11_low hd md (by omega), bind_e, if_neg (nI_ge (by omega) (by omega)), x11_left hd md (by omega), bind_e, nI_1]
      rfl)
    (fun a => by
      show X11_coveredIn_L8 (nI tl) a (nI (tU W T tl + (tD W H T tl - tU W T tl))) Z = _
      unfold X11_coveredIn_L8
      rw [x11_low hd md (by omega), bind_e, if_pos (nI_le (by omega) (by omega))])
  unfold X11_coveredIn
  rw [x11_top hd md (by omega), bind_e, h]
  rfl
end VN
