/-! depth of a covered sample; sets of pixels; the joint relation and its writes -/
theorem sI_sum {τ : Nat → Int32} (h : cb τ) (px py : Int32) : sI τ 0 px py + sI τ 1 px py + sI τ 2 px py = (trZ τ).toInt := by
  have hA := trA_ex h
  have e := (eS_ex (ax := τ 0) (ay := τ 1) (bx := τ 2) (by' := τ 3) (px := τ 4) (py := τ 5) (h 0 (by decide)) (h 1 (by decide)) (h 2 (by decide)) (h 3 (by decide)) (h 4 (by decide)) (h 5 (by decide))).1
  have e' : (trA τ).toInt = eI (τ 0).toInt (τ 1).toInt (τ 2).toInt (τ 3).toInt (τ 4).toInt (τ 5).toInt := e
  have n0 : nx 0 = 1 := rfl
  have n1 : nx 1 = 2 := rfl
  have n2 : nx 2 = 0 := rfl
  have h0 : (0 : Int32).toInt = 0 := rfl
  unfold sI trZ tx ty
  rw [n0, n1, n2]
  by_cases hc : trA τ < 0
  · have p0 : trP τ 0 = 0 := by unfold trP; rw [if_pos hc]; rfl
    have p1 : trP τ 1 = 2 := by unfold trP; rw [if_pos hc]; rfl
    have p2 : trP τ 2 = 1 := by unfold trP; rw [if_pos hc]; rfl
    rw [p0, p1, p2, if_neg (Int32.not_le.mpr hc), neg32 (by omega) (by omega), e']
    unfold eI
    grind
  · have p0 : trP τ 0 = 0 := by unfold trP; rw [if_neg hc]
    have p1 : trP τ 1 = 1 := by unfold trP; rw [if_neg hc]
    have p2 : trP τ 2 = 2 := by unfold trP; rw [if_neg hc]
    rw [p0, p1, p2, if_pos (Int32.not_lt.mp hc), e']
    unfold eI
    grind
theorem trE_nn {τ : Nat → Int32} {e : Nat} {px py : Int32} (h : trE τ e px py = true) : 0 ≤ (trS τ e px py).toInt := by
  unfold trE at h
  have h0 : (0 : Int32).toInt = 0 := rfl
  rcases (Bool.or_eq_true _ _).mp h with h1 | h1
  · have := Int32.lt_iff_toInt_lt.mp (of_decide_eq_true h1)
    omega
  · have := of_decide_eq_true ((Bool.and_eq_true _ _).mp h1).1
    rw [this]
    decide
theorem trD_bd {τ ζ : Nat → Int32} (hc : cb τ) (hz : zb ζ) {px py : Int32} (hx : pb px) (hy : pb py) (h : trC τ px py = true) : 0 ≤ (trD τ ζ px py).toInt ∧ (trD τ ζ px py).toInt ≤ 999 := by
  unfold trC at h
  have h1 := (Bool.and_eq_true _ _).mp h
  have hA := of_decide_eq_true h1.1
  have h2 := (Bool.and_eq_true _ _).mp h1.2
  have h3 := (Bool.and_eq_true _ _).mp h2.2
  have s0 := trE_nn h2.1
  have s1 := trE_nn h3.1
  have s2 := trE_nn h3.2
  rw [(trS_ex hc (by decide) hx hy).1] at s0 s1 s2
  have hs := sI_sum hc px py
  have hZ := trZ_ex hc hA
  have hV := trV_ex hc hz hx hy
  have z0 := hz (trP τ 0) (trP_lt (by decide))
  have z1 := hz (trP τ 1) (trP_lt (by decide))
  have z2 := hz (trP τ 2) (trP_lt (by decide))
  have m0 := Int.mul_le_mul_of_nonneg_right z0.2 s1
  have m1 := Int.mul_le_mul_of_nonneg_right z1.2 s2
  have m2 := Int.mul_le_mul_of_nonneg_right z2.2 s0
  have k0 := Int.mul_nonneg z0.1 s1
  have k1 := Int.mul_nonneg z1.1 s2
  have k2 := Int.mul_nonneg z2.1 s0
  have v1 : 0 ≤ vI τ ζ px py := by unfold vI; omega
  have v2 : vI τ ζ px py ≤ 999 * (trZ τ).toInt := by
    rw [← hs]
    unfold vI
    omega
  unfold trD
  rw [if_neg hZ.2.2]
  unfold fdv
  rw [hV.1]
  have d1 : 0 ≤ vI τ ζ px py / (trZ τ).toInt := Int.ediv_nonneg v1 (by omega)
  have d2 : vI τ ζ px py / (trZ τ).toInt ≤ 999 := by
    have := Int.ediv_le_ediv hZ.1 v2
    rw [Int.mul_ediv_cancel _ (by omega)] at this
    exact this
  rw [Int32.toInt_ofInt_of_le (by omega) (by omega)]
  exact ⟨d1, d2⟩
theorem trD_k {n W H T K i t x y s : Nat} {M : gM} {w : Nat → Int32} (hs : SCx n W H T K M) (hf : FC n i w M) (ht : t < n) (hx : x < W) (hy : y < H) (h : trC (ct M i t) (qx K x s) (qy K y s) = true) : 0 ≤ (trD (ct M i t) (zt M t) (qx K x s) (qy K y s)).toInt ∧ (trD (ct M i t) (zt M t) (qx K x s) (qy K y s)).toInt ≤ 999 := by
  have h1 := hs.1.1
  have h2 := hs.1.2.1
  exact trD_bd (ct_cb hf ht) (hs.2.2.2.2.2.2 t ht).2.1 (pb_q (by omega)).1 (pb_q (by omega)).2 h
/-! sets of pixels -/
theorem and_or64 (a b c : Int64) : (a ||| b) &&& c = (a &&& c) ||| (b &&& c) := by
  apply Int64.toBitVec_inj.1
  simp only [Int64.toBitVec_or, Int64.toBitVec_and]
  apply BitVec.eq_of_getLsbD_eq
  intro k _
  simp only [BitVec.getLsbD_or, BitVec.getLsbD_and, Bool.and_or_distrib_right]
def lck (m : Nat) : Bool := decide ((1 <<< (Int32.toInt64 (nI m) &&& 63) : Int64) = (Int32.toInt64 (1 <<< (nI m &&& 31))) &&& 4294967295) && decide ((1 <<< (Int32.toInt64 (nI (m + 32)) &&& 63) : Int64) = (Int32.toInt64 (1 <<< (nI m &&& 31))) <<< 32)
theorem lck_all : ((List.range 32).all lck) = true := by decide +kernel
theorem lit_lo {m : Nat} (hm : m < 32) (hi lo : Int32) : j64 hi lo ||| (1 <<< (Int32.toInt64 (nI m) &&& 63)) = j64 hi (lo ||| (1 <<< (nI m &&& 31))) := by
  have h := (Bool.and_eq_true _ _).mp (List.all_eq_true.mp lck_all m (List.mem_range.mpr hm))
  unfold j64
  rw [Int32.toInt64_or, and_or64, ← of_decide_eq_true h.1, Int64.or_assoc]
theorem lit_hi {m : Nat} (hm : m < 32) (hi lo : Int32) : j64 hi lo ||| (1 <<< (Int32.toInt64 (nI (m + 32)) &&& 63)) = j64 (hi ||| (1 <<< (nI m &&& 31))) lo := by
  have h := (Bool.and_eq_true _ _).mp (List.all_eq_true.mp lck_all m (List.mem_range.mpr hm))
  unfold j64
  rw [Int32.toInt64_or, Int64.shiftLeft_or, of_decide_eq_true h.2, Int64.or_assoc, Int64.or_assoc, Int64.or_comm (Int32.toInt64 lo &&& 4294967295)]
/-! rows -/
def up (w : Nat → Int32) (k : Nat) (v : Int32) : Nat → Int32 := fun c => if c = k then v else w c
theorem up_w (M : gM) (j k : Nat) (v : Int32) : (wI M 52 j k v).1 52 j = up (M.1 52 j) k v := by
  funext c
  rw [r1_wI]
  unfold up
  by_cases h : c = k
  · rw [if_pos ⟨rfl, rfl, h⟩, if_pos h]
  · rw [if_neg (fun z => h z.2.2), if_neg h]
theorem up_n {w : Nat → Int32} {k c : Nat} {v : Int32} (h : c ≠ k) : up w k v c = w c := if_neg h
theorem up_e {w : Nat → Int32} {k c : Nat} {v : Int32} (h : c = k) : up w k v c = v := if_pos h
theorem w_n {M : gM} {r i k a b c : Nat} {v : Int32} (h : ¬ (a = r ∧ b = i ∧ c = k)) : (wI M r i k v).1 a b c = M.1 a b c := if_neg h
theorem w_e {M : gM} {r i k : Nat} {v : Int32} : (wI M r i k v).1 r i k = v := if_pos ⟨rfl, rfl, rfl⟩
theorem w_same {M : gM} {r i k : Nat} {v : Int32} (h : M.1 r i k = v) : wI M r i k v = M := by
  apply Prod.ext
  · funext a b c
    show (wI M r i k v).1 a b c = _
    rw [r1_wI]
    split
    · next hz =>
      rw [hz.1, hz.2.1, hz.2.2, h]
    · rfl
  · rfl
/-! what a flush may write -/
def xQ (i a b c : Nat) : Prop := (34 ≤ a ∧ a ≤ 36 ∧ b = i) ∨ (a = 33 ∧ b = i ∧ 10 ≤ c ∧ c ≤ 12)
def xB (i a b c : Nat) : Prop := (34 ≤ a ∧ a ≤ 38 ∧ b = i) ∨ (a = 33 ∧ b = i ∧ 10 ≤ c ∧ c ≤ 12)
def OX (i : Nat) (M M' : gM) : Prop := (∀ a b c, ¬ xQ i a b c → M'.1 a b c = M.1 a b c) ∧ ∀ a b c, ¬ (a = 41 ∧ b = i) → M'.2 a b c = M.2 a b c
def OXB (i : Nat) (M M' : gM) : Prop := (∀ a b c, ¬ xB i a b c → M'.1 a b c = M.1 a b c) ∧ ∀ a b c, ¬ (a = 41 ∧ b = i) → M'.2 a b c = M.2 a b c
def mB (j a b c : Nat) : Prop := (a = 52 ∧ b = j ∧ (c < 944 ∨ (1034 ≤ c ∧ c < 1057))) ∨ (a = 52 ∧ (b = 12 ∨ b = 13 ∨ b = 14)) ∨ (a = 50 ∧ b = 0 ∧ (c = 28 ∨ c = 31))
def OMB (j : Nat) (M M' : gM) : Prop := OQ (mB j) M M'
def mQ (j a b c : Nat) : Prop := (a = 52 ∧ b = j ∧ (c < 768 ∨ (1034 ≤ c ∧ c < 1057))) ∨ (a = 52 ∧ (b = 12 ∨ b = 13 ∨ b = 14)) ∨ (a = 50 ∧ b = 0 ∧ (c = 28 ∨ c = 31))
def OM (j : Nat) (M M' : gM) : Prop := OQ (mQ j) M M'
theorem OX.rf (i : Nat) (M : gM) : OX i M M := ⟨fun _ _ _ _ => rfl, fun _ _ _ _ => rfl⟩
theorem OX.tr {i : Nat} {M M' M'' : gM} (h : OX i M M') (h' : OX i M' M'') : OX i M M'' := ⟨fun a b c hn => (h'.1 a b c hn).trans (h.1 a b c hn), fun a b c hn => (h'.2 a b c hn).trans (h.2 a b c hn)⟩
theorem OX.w {i r k : Nat} {M : gM} {v : Int32} (h : xQ i r i k) : OX i M (wI M r i k v) := ⟨fun a b c hn => w_n (fun z => hn (by rw [z.1, z.2.1, z.2.2]; exact h)), fun _ _ _ _ => rfl⟩
theorem OX.wl {i k : Nat} {M : gM} {v : Int64} : OX i M (wL M 41 i k v) := ⟨fun _ _ _ _ => rfl, fun a b c hn => by rw [r2_wL, if_neg (fun z => hn ⟨z.1, z.2.1⟩)]⟩
theorem OM.rf (j : Nat) (M : gM) : OM j M M := OQ.rf _ M
theorem OM.tr {j : Nat} {M M' M'' : gM} (h : OM j M M') (h' : OM j M' M'') : OM j M M'' := OQ.tr h h'
theorem OM.w {j k : Nat} {M : gM} {v : Int32} (h : k < 768 ∨ (1034 ≤ k ∧ k < 1057)) : OM j M (wI M 52 j k v) := OQ.w (OQ.rf _ M) (Or.inl ⟨rfl, rfl, h⟩)
theorem OM.ask {j : Nat} {M M' : gM} (h : SameA M M') : OM j M M' := ⟨h.1, fun a b c hn => h.2 a b c (fun z => hn (by
  rcases z with z | z
  · exact Or.inr (Or.inl z)
  · exact Or.inr (Or.inr z)))⟩
theorem OX.b {i : Nat} {M M' : gM} (h : OX i M M') : OXB i M M' := ⟨fun a b c hn => h.1 a b c (by unfold xQ; unfold xB at hn; omega), h.2⟩
theorem OM.b {j : Nat} {M M' : gM} (h : OM j M M') : OMB j M M' := ⟨h.1, fun a b c hn => h.2 a b c (by unfold mQ; unfold mB at hn; omega)⟩
theorem OXB.rf (i : Nat) (M : gM) : OXB i M M := (OX.rf i M).b
theorem OXB.tr {i : Nat} {M M' M'' : gM} (h : OXB i M M') (h' : OXB i M' M'') : OXB i M M'' := ⟨fun a b c hn => (h'.1 a b c hn).trans (h.1 a b c hn), fun a b c hn => (h'.2 a b c hn).trans (h.2 a b c hn)⟩
theorem OXB.w {i r k : Nat} {M : gM} {v : Int32} (h : xB i r i k) : OXB i M (wI M r i k v) := ⟨fun a b c hn => w_n (fun z => hn (by rw [z.1, z.2.1, z.2.2]; exact h)), fun _ _ _ _ => rfl⟩
theorem OMB.rf (j : Nat) (M : gM) : OMB j M M := OQ.rf _ M
theorem OMB.tr {j : Nat} {M M' M'' : gM} (h : OMB j M M') (h' : OMB j M' M'') : OMB j M M'' := OQ.tr h h'
theorem OMB.w {j k : Nat} {M : gM} {v : Int32} (h : k < 944 ∨ (1034 ≤ k ∧ k < 1057)) : OMB j M (wI M 52 j k v) := OQ.w (OQ.rf _ M) (Or.inl ⟨rfl, rfl, h⟩)
section JT
variable {n W H T K i j k t : Nat} {w w' : Nat → Int32} {M M' Mx Mm Mx' Mm' : gM}
theorem ct_of (h : ∀ c, M'.1 39 i c = M.1 39 i c) : ct M' i t = ct M i t := by
  funext k
  unfold ct
  rw [h]
theorem zt_of (h : ∀ c, M'.1 10 1 c = M.1 10 1 c) : zt M' t = zt M t := by
  funext k
  unfold zt
  rw [h]
theorem OX.ct (o : OX i M M') : ct M' i t = ct M i t := ct_of fun c => o.1 39 i c (by unfold xQ; omega)
theorem OX.zt (o : OX i M M') : zt M' t = zt M t := zt_of fun c => o.1 10 1 c (by unfold xQ; omega)
theorem SCx.of (h : SCx n W H T K M) (g : ∀ a b c, (a = 5 ∨ a = 7 ∨ a = 9 ∨ a = 10) ∧ b = 1 ∨ (12 ≤ a ∧ a ≤ 16) → M'.1 a b c = M.1 a b c) : SCx n W H T K M' := by
  obtain ⟨h1, h2, h3, h4, h5, h6, h7⟩ := h
  refine ⟨h1, h2, ?_, gD_of h4 (fun c => g 12 0 c (by omega)), gO_of h5 (fun c => g 13 0 c (by omega)) (fun c => g 14 0 c (by omega)), gP_of h6 (fun c => g 15 0 c (by omega)) (fun c => g 16 0 c (by omega)), fun t ht => ?_⟩
  · rw [g 5 1 0 (by omega), g 5 1 1 (by omega), g 5 1 2 (by omega), g 5 1 3 (by omega), g 5 1 5 (by omega)]
    exact h3
  · rw [g 7 1 t (by omega), g 9 1 t (by omega), zt_of (fun c => g 10 1 c (by omega))]
    exact h7 t ht
theorem SCm.of (h : SCm n W H T K Mx Mm) (g : ∀ c t, (c = 4 → Mx'.1 5 1 c = Mx.1 5 1 c) ∧ Mx'.1 8 1 t = Mx.1 8 1 t ∧ Mx'.1 9 1 t = Mx.1 9 1 t ∧ Mx'.1 7 1 t = Mx.1 7 1 t) (g2 : ∀ b c, b = 2 ∨ b = 4 → Mm'.1 52 b c = Mm.1 52 b c) (g3 : Mm'.1 50 0 16 = Mm.1 50 0 16 ∧ Mm'.1 50 0 29 = Mm.1 50 0 29 ∧ Mm'.1 50 0 30 = Mm.1 50 0 30) : SCm n W H T K Mx' Mm' := by
  obtain ⟨h1, h2, h3, h4⟩ := h
  refine ⟨?_, ?_, ?_, fun t ht => ?_⟩
  · unfold MD
    rw [g3.1, g2 2 0 (by omega), g2 2 1 (by omega), g2 2 2 (by omega), g2 2 3 (by omega)]
    exact h1
  · rw [g2 2 4 (by omega), (g 4 0).1 rfl]
    exact h2
  · rw [g3.2.1, g3.2.2]
    exact h3
  · rw [g2 4 _ (by omega), g2 4 _ (by omega), g2 4 _ (by omega), (g 0 t).2.1, (g 0 t).2.2.1, (g 0 t).2.2.2]
    exact h4 t ht
theorem SHi.of (h : SHi n W H T K i M) (g : ∀ a b c, (7 ≤ a ∧ a ≤ 10) ∨ (19 ≤ a ∧ a ≤ 27) ∨ (a = 39 ∧ b = i) → M'.1 a b c = M.1 a b c) : SHi n W H T K i M' := by
  intro t ht
  rw [ct_of (fun c => g 39 i c (by omega)), zt_of (fun c => g 10 1 c (by omega)), g 7 1 t (by omega), g 8 1 t (by omega)]
  exact (h t ht).keep (fun a c h1 h2 => g a t c (by omega))
theorem FC.of (h : FC n i w M) (g : ∀ c, M'.1 39 i c = M.1 39 i c) (g2 : ∀ c, M'.1 10 1 c = M.1 10 1 c) (g3 : ∀ c, 944 ≤ c → c < 944 + 9 * n → w' c = w c) : FC n i w' M' := by
  intro t ht
  refine ⟨fun k hk => ?_, fun k hk => ?_⟩
  · rw [g, g3 _ (by omega) (by omega)]
    exact (h t ht).1 k hk
  · rw [g2, g3 _ (by omega) (by omega)]
    exact (h t ht).2 k hk
theorem FRu.of (h : FRu i w M) (g : ∀ c, M'.1 40 i c = M.1 40 i c) (g3 : ∀ c, 1057 ≤ c → c < 1061 → w' c = w c) : FRu i w' M' := by
  unfold FRu
  rw [g, g, g, g]
  refine ⟨fun k hk => ?_, h.2⟩
  rw [g, g3 _ (by omega) (by omega)]
  exact h.1 k hk
theorem FS.of (h : FS n i w M) (g : ∀ a c, 34 ≤ a ∧ a ≤ 36 ∨ a = 39 → M'.1 a i c = M.1 a i c) (g3 : ∀ c, c < 768 → w' c = w c) : FS n i w' M' := by
  intro k hk
  have e := h k hk
  rw [g 34 k (by omega), g 35 k (by omega), g 36 k (by omega), g3 k (by omega), g3 (256 + k) (by omega), g3 (512 + k) (by omega)]
  refine ⟨e.1, e.2.1, e.2.2.1, e.2.2.2.imp id fun ⟨t, h1, h2, h3⟩ => ⟨t, h1, h2, ?_⟩⟩
  rw [ct_of (fun c => g 39 c (by omega))]
  exact h3
theorem FB.of {NT : Nat} (h : FB n NT i w M) (g : ∀ a c, a = 37 ∨ a = 38 → M'.1 a i c = M.1 a i c) (g3 : ∀ c, 768 ≤ c → c < 944 → w' c = w c) : FB n NT i w' M' := by
  intro t ht
  obtain ⟨b, h1, h2, h3, h4, h5⟩ := h t ht
  refine ⟨b, h1, ?_, ?_, h4, fun k hk => ?_⟩
  · rw [g 38 t (by omega)]; exact h2
  · rw [g3 _ (by omega) (by omega)]; exact h3
  · rw [g 37 _ (by omega), g3 _ (by omega) (by omega)]; exact h5 k hk
theorem FL.of (hn : n ≤ 10) (h : FL n i w M) (g : ∀ c, M'.2 41 i c = M.2 41 i c) (g2 : ∀ c, 10 ≤ c → c ≤ 12 → M'.1 33 i c = M.1 33 i c) (g3 : ∀ c, 1034 ≤ c → c < 1057 → w' c = w c) : FL n i w' M' := by
  unfold FL
  rw [g2 10 (by omega) (by omega), g2 11 (by omega) (by omega), g2 12 (by omega) (by omega), g3 1054 (by omega) (by omega), g3 1055 (by omega) (by omega), g3 1056 (by omega) (by omega)]
  refine ⟨fun t ht => ?_, fun t h1 h2 => ?_, h.2.2⟩
  · rw [g, g3 _ (by omega) (by omega), g3 _ (by omega) (by omega)]
    exact h.1 t ht
  · rw [g]
    exact h.2.1 t h1 h2
/-- the joint relation of a frame and a row -/
def RJ (n W H T K i j : Nat) (Mx Mm : gM) : Prop := SCx n W H T K Mx ∧ SCm n W H T K Mx Mm ∧ SHi n W H T K i Mx ∧ FR n (tN W H T) i (Mm.1 52 j) Mx
theorem RJ.of (hj : j = 8 ∨ j = 9) (h : RJ n W H T K i j Mx Mm) (ox : OXB i Mx Mx') (om : OMB j Mm Mm') (fs : FS n i (Mm'.1 52 j) Mx') (fb : FB n (tN W H T) i (Mm'.1 52 j) Mx') (fl : FL n i (Mm'.1 52 j) Mx') : RJ n W H T K i j Mx' Mm' := by
  obtain ⟨h1, h2, h3, h4, h5, h6⟩ := h
  have hn := h1.2.1
  refine ⟨h1.of fun a b c hh => ox.1 a b c (by unfold xB; omega), h2.of (fun c t => ⟨fun _ => ox.1 5 1 c (by unfold xB; omega), ox.1 8 1 t (by unfold xB; omega), ox.1 9 1 t (by unfold xB; omega), ox.1 7 1 t (by unfold xB; omega)⟩) (fun b c hb => om.2 52 b c (by unfold mB; omega)) ⟨om.2 50 0 16 (by unfold mB; omega), om.2 50 0 29 (by unfold mB; omega), om.2 50 0 30 (by unfold mB; omega)⟩,
    h3.of fun a b c hh => ox.1 a b c (by unfold xB; omega), h4.of (fun c => ox.1 39 i c (by unfold xB; omega)) (fun c => ox.1 10 1 c (by unfold xB; omega)) (fun c h1 h2 => om.2 52 j c (by unfold mB; omega)), h5.of (fun c => ox.1 40 i c (by unfold xB; omega)) (fun c h1 h2 => om.2 52 j c (by unfold mB; omega)), fs, fb, fl⟩
theorem OXB.ct (o : OXB i M M') : ct M' i t = ct M i t := ct_of fun c => o.1 39 i c (by unfold xB; omega)
theorem OXB.zt (o : OXB i M M') : zt M' t = zt M t := zt_of fun c => o.1 10 1 c (by unfold xB; omega)
end JT
