/-! counting samples: tile by tile, row by row -/
def pxT (W H T : Nat) : List (Nat × Nat) := (List.range (tN W H T)).flatMap fun t => (List.range' (tU W T t) (tD W H T t - tU W T t)).flatMap fun y => (List.range' (tL W T t) (tR W T t - tL W T t)).map fun x => (x, y)
def pxR (W H : Nat) : List (Nat × Nat) := (List.range H).flatMap fun y => (List.range W).map fun x => (x, y)
def rA (W H K : Nat) : List (Nat × Nat × Nat) := (List.range H).flatMap fun y => (List.range W).flatMap fun x => (List.range K).map fun s => (x, y, s)
def pck (W H T : Nat) : Bool := (pxT W H T).isPerm (pxR W H)
theorem pck_all : ((List.range 8).all fun W => (List.range 8).all fun H => (List.range 3).all fun T => pck (W + 1) (H + 1) (T + 2)) = true := by decide +kernel
section CN
variable {n W H T K i j k t m nf : Nat} {M Mx Mm Z : gM}
theorem px_perm (h : dOk W H T K) : List.Perm (pxT W H T) (pxR W H) := by
  obtain ⟨⟨h1, h2⟩, ⟨h3, h4⟩, ⟨h5, h6⟩, hK⟩ := h
  obtain ⟨W, rfl⟩ : ∃ j, W = j + 1 := ⟨W - 1, by omega⟩
  obtain ⟨H, rfl⟩ : ∃ j, H = j + 1 := ⟨H - 1, by omega⟩
  obtain ⟨T, rfl⟩ : ∃ j, T = j + 2 := ⟨T - 2, by omega⟩
  have h := List.all_eq_true.mp (List.all_eq_true.mp (List.all_eq_true.mp pck_all W (List.mem_range.mpr (by omega))) H (List.mem_range.mpr (by omega))) T (List.mem_range.mpr (by omega))
  exact List.isPerm_iff.mp h
theorem tA_px : tA W H T K (tN W H T) = (pxT W H T).flatMap fun p => (List.range K).map fun s => (p.1, p.2, s) := by
  unfold tA tS tX pxT
  simp only [List.flatMap_assoc, List.flatMap_map, List.range_eq_range']
theorem rA_px : rA W H K = (pxR W H).flatMap fun p => (List.range K).map fun s => (p.1, p.2, s) := by
  unfold rA pxR
  simp only [List.flatMap_assoc, List.flatMap_map]
theorem tA_rA (h : dOk W H T K) : List.Perm (tA W H T K (tN W H T)) (rA W H K) := by
  rw [tA_px, rA_px]
  exact (px_perm h).flatMap_right _
theorem cnt_fm {α : Type} (B : α → Bool) (f : Nat → List α) (m : Nat) : ((List.range m).flatMap f).countP B = spc (fun y => (f y).countP B) m := by
  induction m with
  | zero => rfl
  | succ m ih =>
    rw [List.range_succ, List.flatMap_append, List.countP_append, ih, List.flatMap_cons, List.flatMap_nil, List.append_nil]
    rfl
/-- how many of K samples -/
def cnK (f : Nat → Bool) (K : Nat) : Nat := (List.range K).countP f
theorem cnt_rA (B : Nat × Nat × Nat → Bool) : (rA W H K).countP B = spc (fun y => spc (fun x => cnK (fun s => B (x, y, s)) K) W) H := by
  unfold rA
  rw [cnt_fm]
  congr 1
  funext y
  rw [cnt_fm]
  congr 1
  funext x
  rw [List.countP_map]
  rfl
theorem cnt_tA (h : dOk W H T K) (B : Nat × Nat × Nat → Bool) : (tA W H T K (tN W H T)).countP B = spc (fun y => spc (fun x => cnK (fun s => B (x, y, s)) K) W) H := by
  rw [(tA_rA h).countP_eq, cnt_rA]
theorem cnt_take {α : Type} (B : α → Bool) (l : List α) (d : α) {k : Nat} (hk : k < l.length) : (l.take (k + 1)).countP B = (l.take k).countP B + if B (l.getD k d) = true then 1 else 0 := by
  rw [List.take_succ, List.countP_append, List.getD_eq_getElem?_getD, List.getElem?_eq_getElem hk, Option.getD_some]
  congr 1
  show List.countP B [l[k]] = _
  rw [List.countP_singleton]
/-- the class's loop over all samples -/
theorem c_cnt {sc : Int32 × Int32 → Option ((Int32 × Int32) ⊕ Int32)} (hd : dOk W H T K) (B : Nat × Nat × Nat → Bool)
    (hs : ∀ k a, k < W * H * K → sc (a, nI k) = some (.inl (a + nI (if B ((tA W H T K (tN W H T)).getD k (0, 0, 0)) = true then 1 else 0), nI (k + 1)))) (he : ∀ a, sc (a, nI (W * H * K)) = some (.inr a)) :
    gIter sc FU (0, 0) = some (nI ((tA W H T K (tN W H T)).countP B)) := by
  have hl := tA_len hd
  have hw := whk_le hd
  obtain ⟨e, h1, h2⟩ := gI1_FU (step := sc) (fun k (u : Int32) => (u, nI k)) (fun k u => u = nI (((tA W H T K (tN W H T)).take k).countP B)) (fun u => u = nI ((tA W H T K (tN W H T)).countP B)) 0 (W * H * K) (by omega) (by omega)
    (fun k u hk hu => ⟨_, hs k u hk, by rw [hu, cnt_take B _ (0, 0, 0) (by omega), nI_add]⟩)
    (fun u hu => ⟨u, he u, by rw [hu, ← hl, List.take_length]⟩) 0 rfl
  rw [h2] at h1
  exact h1
/-- the reference's loops over rows -/
theorem m_cnt {so : Int32 × Int32 → Option ((Int32 × Int32) ⊕ Int32)} {si : Int32 → Int32 × Int32 → Option ((Int32 × Int32) ⊕ Int32)} (hW : W ≤ 8) (hH : H ≤ 8) (g : Nat → Nat → Nat)
    (h1 : ∀ y x a, y < H → x < W → si (nI y) (a, nI x) = some (.inl (a + nI (g x y), nI (x + 1)))) (h2 : ∀ y a, si (nI y) (a, nI W) = some (.inr a))
    (h3 : ∀ y a, y < H → so (a, nI y) = (gIter (si (nI y)) FU (a, 0)).bind fun a' => some (.inl (a', nI (y + 1)))) (h4 : ∀ a, so (a, nI H) = some (.inr a)) :
    gIter so FU (0, 0) = some (nI (spc (fun y => spc (fun x => g x y) W) H)) := by
  have inner : ∀ y c, y < H → gIter (si (nI y)) FU (nI c, 0) = some (nI (c + spc (fun x => g x y) W)) := fun y c hy => by
    obtain ⟨e, e1, e2⟩ := gI1_FU (step := si (nI y)) (fun k (u : Int32) => (u, nI k)) (fun k u => u = nI (c + spc (fun x => g x y) k)) (fun u => u = nI (c + spc (fun x => g x y) W)) 0 W (by omega) (by omega)
      (fun k u hk hu => ⟨_, h1 y k u hy hk, by rw [hu, nI_add, Nat.add_assoc]; rfl⟩)
      (fun u hu => ⟨u, h2 y u, hu⟩) (nI c) (by rfl)
    rw [e2] at e1
    exact e1
  obtain ⟨e, e1, e2⟩ := gI1_FU (step := so) (fun k (u : Int32) => (u, nI k)) (fun k u => u = nI (spc (fun y => spc (fun x => g x y) W) k)) (fun u => u = nI (spc (fun y => spc (fun x => g x y) W) H)) 0 H (by omega) (by omega)
    (fun k u hk hu => ⟨nI (spc (fun y => spc (fun x => g x y) W) (k + 1)), by
      show so (u, nI k) = _
      rw [h3 k u hk, hu, inner k _ hk]
      rfl, rfl⟩)
    (fun u hu => ⟨u, h4 u, hu⟩) 0 rfl
  rw [e2] at e1
  exact e1
/-! masks as sets -/
def bck4 (a b c d : Bool) : Bool := decide (pc 32 (u32 (bts (fun s => if s = 0 then a else if s = 1 then b else if s = 2 then c else d) 4)) = (if a then 1 else 0) + (if b then 1 else 0) + (if c then 1 else 0) + (if d then 1 else 0)) && (decide (pc 32 (u32 (bts (fun s => if s = 0 then a else b) 2)) = (if a then 1 else 0) + (if b then 1 else 0)) && decide (pc 32 (u32 (bts (fun _ => a) 1)) = (if a then 1 else 0)))
theorem bck4_all (a b c d : Bool) : bck4 a b c d = true := by
  cases a <;> cases b <;> cases c <;> cases d <;> decide +kernel
theorem bts_cong {f g : Nat → Bool} (h : ∀ k, k < m → f k = g k) : bts f m = bts g m := by
  induction m with
  | zero => rfl
  | succ m ih =>
    show (if f m = true then bts f m ||| _ else bts f m) = (if g m = true then bts g m ||| _ else bts g m)
    rw [h m (by omega), ih fun k hk => h k (by omega)]
theorem cnK_spc (f : Nat → Bool) (K : Nat) : cnK f K = spc (fun s => if f s = true then 1 else 0) K := by
  unfold cnK
  induction K with
  | zero => rfl
  | succ K ih =>
    rw [List.range_succ, List.countP_append, ih, List.countP_singleton]
    rfl
theorem x11_szb (hK : K = 1 ∨ K = 2 ∨ K = 4) (f : Nat → Bool) (M : gM) : X11_size (bts f K) M = some (nI (cnK f K)) := by
  rw [x11_size]
  have hb := (Bool.and_eq_true _ _).mp (bck4_all (f 0) (f 1) (f 2) (f 3))
  have h4 := of_decide_eq_true hb.1
  have hb2 := (Bool.and_eq_true _ _).mp hb.2
  have h2 := of_decide_eq_true hb2.1
  have h1 := of_decide_eq_true hb2.2
  rw [cnK_spc]
  rcases hK with rfl | rfl | rfl
  · have e : bts f 1 = bts (fun _ => f 0) 1 := bts_cong fun k hk => by rw [show k = 0 by omega]
    rw [e, h1]
    show _ = some (nI (0 + (if f 0 = true then 1 else 0)))
    rw [Nat.zero_add]
  · have e : bts f 2 = bts (fun s => if s = 0 then f 0 else f 1) 2 := bts_cong fun k hk => by
      rcases (show k = 0 ∨ k = 1 by omega) with rfl | rfl <;> rfl
    rw [e, h2]
    show _ = some (nI (0 + (if f 0 = true then 1 else 0) + (if f 1 = true then 1 else 0)))
    rw [Nat.zero_add]
  · have e : bts f 4 = bts (fun s => if s = 0 then f 0 else if s = 1 then f 1 else if s = 2 then f 2 else f 3) 4 := bts_cong fun k hk => by
      rcases (show k = 0 ∨ k = 1 ∨ k = 2 ∨ k = 3 by omega) with rfl | rfl | rfl | rfl <;> rfl
    rw [e, h4]
    show _ = some (nI (0 + (if f 0 = true then 1 else 0) + (if f 1 = true then 1 else 0) + (if f 2 = true then 1 else 0) + (if f 3 = true then 1 else 0)))
    rw [Nat.zero_add]
/-- does the reference's triangle cover the sample -/
def cvS (τ : Nat → Int32) (cu : Int32) (K x y s : Nat) : Bool := !cul (trA τ) cu && trC τ (qx K x s) (qy K y s)
theorem x11_maskB {τ ζ : Nat → Int32} {cu : Int32} (hd : dOk W H T K) (md : MD n W H T K Z) (z2 : AK τ ζ cu Z) (x y : Nat) : X11_maskOf (nI x) (nI y) Z = some (bts (cvS τ cu K x y) K) := by
  have hK := hd.2.2.2
  obtain ⟨e, h1, h2⟩ := gI1_FU (step := fun s : Int32 × Int32 => X11_maskOf_L5 (nI x) (nI y) s.1 s.2 Z) (fun k (u : Int32) => (u, nI k)) (fun k u => u = bts (cvS τ cu K x y) k) (fun u => u = bts (cvS τ cu K x y) K) 0 K (by omega) (by omega)
    (fun k u hk hu => by
      refine ⟨bts (cvS τ cu K x y) (k + 1), ?_, rfl⟩
      show X11_maskOf_L5 (nI x) (nI y) u (nI k) Z = some (.inl (if cvS τ cu K x y k = true then bts (cvS τ cu K x y) k ||| ((1 : Int32) <<< (nI k &&& 31)) else bts (cvS τ cu K x y) k, nI (k + 1)))
      unfold X11_maskOf_L5
      rw [md.2.2.2.2, if_neg (nI_ge hk (by omega)), x11_covS md hd z2 hk, bind_e, hu]
      show (if (if cvS τ cu K x y k = true then (1 : Int32) else 0) = 0 then _ else _) = _
      cases cvS τ cu K x y k with
      | true => rw [if_neg (by decide), gLet_e, gLet_e, nI_1, if_pos rfl]
      | false => rw [if_pos (by decide), gLet_e, gLet_e, nI_1, Int32.or_zero, if_neg (by decide)])
    (fun u hu => ⟨u, by
      show X11_maskOf_L5 (nI x) (nI y) u (nI K) Z = _
      unfold X11_maskOf_L5
      rw [md.2.2.2.2, if_pos (nI_le (Nat.le_refl _) (by omega))], hu⟩) 0 rfl
  have h1 : gIter (fun s => X11_maskOf_L5 (nI x) (nI y) s.1 s.2 Z) FU (0, 0) = some e := h1
  unfold X11_maskOf
  rw [h1, h2]
  rfl
theorem x11_coverd {τ ζ : Nat → Int32} {cu : Int32} (hd : dOk W H T K) (md : MD n W H T K Z) (z2 : AK τ ζ cu Z) : X11_covered Z = some (nI ((tA W H T K (tN W H T)).countP fun a => cvS τ cu K a.1 a.2.1 a.2.2)) := by
  have hW := hd.1
  have hH := hd.2.1
  rw [cnt_tA hd]
  have h := m_cnt (W := W) (H := H) (so := fun s => X11_covered_L4 s.1 s.2 Z) (si := fun y s => X11_covered_L16 y s.1 s.2 Z) (by omega) (by omega) (fun x y => cnK (cvS τ cu K x y) K)
    (fun y x a hy hx => by
      show X11_covered_L16 (nI y) a (nI x) Z = _
      unfold X11_covered_L16
      rw [md.2.1, if_neg (nI_ge hx (by omega)), x11_maskB hd md z2, bind_e, x11_szb hd.2.2.2, bind_e, gLet_e, gLet_e, nI_1])
    (fun y a => by
      show X11_covered_L16 (nI y) a (nI W) Z = _
      unfold X11_covered_L16
      rw [md.2.1, if_pos (nI_le (Nat.le_refl _) (by omega))])
    (fun y a hy => by
      show X11_covered_L4 a (nI y) Z = _
      unfold X11_covered_L4
      rw [md.2.2.1, if_neg (nI_ge hy (by omega)), nI_1]
      rfl)
    (fun a => by
      show X11_covered_L4 a (nI H) Z = _
      unfold X11_covered_L4
      rw [md.2.2.1, if_pos (nI_le (Nat.le_refl _) (by omega))])
  unfold X11_covered
  rw [h]
  rfl
end CN
