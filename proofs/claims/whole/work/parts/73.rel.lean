/-! the two sides side by side: Mx the class's memory, Mm the reference's -/
def ct (M : gM) (i t k : Nat) : Int32 := if k < 6 then M.1 39 i (6 * t + k) else 0
def zt (M : gM) (t k : Nat) : Int32 := if k < 3 then M.1 10 1 (3 * t + k) else 0
/-- the class's scene and grid -/
def SCx (n W H T K : Nat) (M : gM) : Prop := dOk W H T K ∧ (1 ≤ n ∧ n ≤ 10) ∧ (M.1 5 1 0 = nI W ∧ M.1 5 1 1 = nI H ∧ M.1 5 1 2 = nI T ∧ M.1 5 1 3 = nI K ∧ M.1 5 1 5 = nI n) ∧ GD W H T K M ∧ GO W H T K M ∧ GP W H K M ∧
  ∀ t, t < n → (M.1 7 1 t = 0 ∨ M.1 7 1 t = 1 ∨ M.1 7 1 t = 2 ∨ M.1 7 1 t = 3) ∧ zb (zt M t) ∧ ∃ a, 1 ≤ a ∧ a ≤ 8 ∧ M.1 9 1 t = nI a
/-- the reference's scene -/
def SCm (n W H T K : Nat) (Mx M : gM) : Prop := MD n W H T K M ∧ M.1 52 2 4 = Mx.1 5 1 4 ∧ (M.1 50 0 29 = 0 ∧ M.1 50 0 30 = 0) ∧ ∀ t, t < n → M.1 52 4 (12 * t + 9) = Mx.1 8 1 t ∧ M.1 52 4 (12 * t + 10) = Mx.1 9 1 t ∧ M.1 52 4 (12 * t + 11) = Mx.1 7 1 t
/-- shapes as the frame i has its corners -/
def SHi (n W H T K i : Nat) (M : gM) : Prop := ∀ t, t < n → SH W H T K t (ct M i t) (zt M t) (M.1 7 1 t) (M.1 8 1 t) M
/-- 64 bits out of two halves -/
def j64 (hi lo : Int32) : Int64 := (hi.toInt64 <<< 32) ||| (lo.toInt64 &&& 4294967295)
/-- corners, the same on both sides and within bounds -/
def FC (n i : Nat) (w : Nat → Int32) (M : gM) : Prop := ∀ t, t < n → (∀ k, k < 6 → w (944 + 9 * t + 3 * (k / 2) + k % 2) = M.1 39 i (6 * t + k) ∧ -99 ≤ (M.1 39 i (6 * t + k)).toInt ∧ (M.1 39 i (6 * t + k)).toInt ≤ 160) ∧ ∀ k, k < 3 → w (944 + 9 * t + 3 * k + 2) = M.1 10 1 (3 * t + k)
/-- rules -/
def FRu (i : Nat) (w : Nat → Int32) (M : gM) : Prop := (∀ k, k < 4 → w (1057 + k) = M.1 40 i k) ∧ (M.1 40 i 0 = 0 ∨ M.1 40 i 0 = 1 ∨ M.1 40 i 0 = 2) ∧ (M.1 40 i 1 = 0 ∨ M.1 40 i 1 = 1) ∧ (M.1 40 i 2 = 0 ∨ M.1 40 i 2 = 1) ∧ ∃ r, 1 ≤ r ∧ r ≤ 10 ∧ M.1 40 i 3 = nI r
/-- samples -/
def FS (n i : Nat) (w : Nat → Int32) (M : gM) : Prop := ∀ k, k < 256 → (M.1 34 i k = w k ∧ 0 ≤ (M.1 34 i k).toInt ∧ (M.1 34 i k).toInt ≤ 1000) ∧ M.1 35 i k = w (256 + k) ∧ M.1 36 i k = w (512 + k) ∧ (M.1 36 i k = -1 ∨ ∃ t, t < n ∧ M.1 36 i k = nI t ∧ ¬ trA (ct M i t) = 0)
/-- bins -/
def FB (n NT i : Nat) (w : Nat → Int32) (M : gM) : Prop := ∀ t, t < 16 → ∃ b, b ≤ 10 ∧ M.1 38 i t = nI b ∧ w (768 + 11 * t) = nI b ∧ (NT ≤ t → b = 0) ∧ ∀ k, k < b → ∃ u, u < n ∧ M.1 37 i (10 * t + k) = nI u ∧ w (768 + 11 * t + 1 + k) = nI u
/-- sets of pixels, counts -/
def FL (n i : Nat) (w : Nat → Int32) (M : gM) : Prop := (∀ t, t < n → M.2 41 i t = j64 (w (1034 + 2 * t + 1)) (w (1034 + 2 * t))) ∧ (∀ t, n ≤ t → t < 10 → M.2 41 i t = 0) ∧ M.1 33 i 10 = w 1054 ∧ M.1 33 i 11 = w 1055 ∧ M.1 33 i 12 = w 1056
def FR (n NT i : Nat) (w : Nat → Int32) (M : gM) : Prop := FC n i w M ∧ FRu i w M ∧ FS n i w M ∧ FB n NT i w M ∧ FL n i w M
theorem ct_cb {n i t : Nat} {w : Nat → Int32} {M : gM} (h : FC n i w M) (ht : t < n) : cb (ct M i t) := by
  intro k hk
  unfold ct
  rw [if_pos hk]
  have := ((h t ht).1 k hk).2
  omega
theorem tau_ct {n W H T K i j t : Nat} {Mx Mm : gM} (hc : SCm n W H T K Mx Mm) (h : FC n i (Mm.1 52 j) Mx) (ht : t < n) : tau Mm j t = ct Mx i t ∧ zet Mm j t = zt Mx t := by
  constructor
  · funext k
    unfold tau ct
    by_cases hk : k < 6
    · rw [if_pos hk, if_pos hk, hc.2.2.1.1, hc.2.2.1.2, ((h t ht).1 k hk).1, ite_self, Int32.add_zero]
    · rw [if_neg hk, if_neg hk]
  · funext k
    unfold zet zt
    by_cases hk : k < 3
    · rw [if_pos hk, if_pos hk, (h t ht).2 k hk]
    · rw [if_neg hk, if_neg hk]
section RL
variable {n W H T K i j t : Nat} {Mx Mm M : gM}
theorem x9_cull (hs : SCx n W H T K M) (h : SHi n W H T K i M) (ht : t < n) (f : Nat) : X9_isCulled f (nI t) M = some (if cul (trA (ct M i t)) (M.1 40 f 0) = true then 1 else 0) := by
  have hn := hs.2.1
  unfold X9_isCulled
  rw [gG_t (gin_n (by omega) (by decide)), gLet_e, nI_clamp (by omega), gLet_e, (h t ht).2.2.1]
  generalize trA (ct M i t) = A
  generalize M.1 40 f 0 = c
  unfold cul
  by_cases h0 : A = 0
  · rw [if_pos h0, decide_eq_true h0]
    rfl
  · rw [if_neg h0, decide_eq_false h0, Bool.false_or]
    by_cases h2 : c = 2
    · rw [if_neg (fun z => absurd (h2.symm.trans z) (by decide)), if_pos h2, decide_eq_false (fun z => absurd (h2.symm.trans z) (by decide)), Bool.false_and, Bool.false_or, decide_eq_true h2, Bool.true_and]
      by_cases h3 : A ≤ 0
      · rw [if_pos h3, if_neg (by simpa using Int32.not_lt.mpr h3)]
      · rw [if_neg h3, if_pos (by simpa using Int32.not_le.mp h3)]
    · rw [if_neg h2, decide_eq_false h2, Bool.false_and, Bool.or_false]
      by_cases h1 : c = 1
      · rw [if_pos h1, decide_eq_true h1, Bool.true_and]
        by_cases h3 : A < 0
        · rw [if_pos h3, decide_eq_true h3]
          rfl
        · rw [if_neg h3, decide_eq_false h3]
          rfl
      · rw [if_neg h1, decide_eq_false h1, Bool.false_and]
        rfl
theorem x9_touched (hs : SCx n W H T K M) (h : SHi n W H T K i M) (ht : t < n) (f : Nat) : X9_touchedBy f (nI t) M = some (if cul (trA (ct M i t)) (M.1 40 f 0) = true then 0 else bts (trT W H T (ct M i t)) (tN W H T)) := by
  have hn := hs.2.1
  unfold X9_touchedBy
  rw [x9_cull hs h ht, bind_e, gG_t (gin_n (by omega) (by decide)), nI_clamp (by omega), (h t ht).2.2.2.2.2.1]
  cases cul (trA (ct M i t)) (M.1 40 f 0)
  · rw [if_pos (by decide), if_neg (by decide)]
  · rw [if_neg (by decide), if_pos rfl]
theorem x9_depthIn (hs : SCx n W H T K M) (h : SHi n W H T K i M) (ht : t < n) (f : Nat) {x y s : Nat} (hx : x < W) (hy : y < H) (hk : s < K) : X9_depthIn f (nI t) (nI (plc x y s)) M = some (if cul (trA (ct M i t)) (M.1 40 f 0) = true then -1 else dvl (ct M i t) (zt M t) K x y s) := by
  have hn := hs.2.1
  have hp := plc_lt hs.1 hx hy hk
  unfold X9_depthIn
  rw [x9_cull hs h ht, bind_e, gG_t (gin_n (by omega) (by decide)), gG_t (gin_n hp (by decide)), nI_clamp (n := t) (by omega), nI_clamp (n := plc x y s) (by omega), (h t ht).2.2.2.2.2.2.2.1 x y s hx hy hk]
  cases cul (trA (ct M i t)) (M.1 40 f 0)
  · rw [if_pos (by decide), if_neg (by decide)]
  · rw [if_neg (by decide), if_pos rfl]
/-! the reference -/
theorem x11_asksR (hc : SCm n W H T K Mx Mm) (hn : n ≤ 10) (h : FC n i (Mm.1 52 j) Mx) (hu : FRu i (Mm.1 52 j) Mx) (hj : j = 8 ∨ j = 9) (ht : t < n) : ∃ M', X11_asks j (nI t) Mm = some M' ∧ AK (ct Mx i t) (zt Mx t) (Mx.1 40 i 0) M' ∧ SameA Mm M' := by
  obtain ⟨M', e, a, s⟩ := x11_asks (M := Mm) (t := t) hj (by omega)
  rw [(tau_ct hc h ht).1, (tau_ct hc h ht).2, hu.1 0 (by decide)] at a
  exact ⟨M', e, a, s⟩
theorem SameA.md (h : SameA Mm M) (g : MD n W H T K Mm) : MD n W H T K M := by
  unfold MD
  rw [h.2 50 0 16 (by omega), h.2 52 2 0 (by omega), h.2 52 2 1 (by omega), h.2 52 2 2 (by omega), h.2 52 2 3 (by omega)]
  exact g
theorem SameA.sc (h : SameA Mm M) (g : SCm n W H T K Mx Mm) : SCm n W H T K Mx M := by
  refine ⟨h.md g.1, ?_, ?_, fun t ht => ?_⟩
  · rw [h.2 52 2 4 (by omega)]; exact g.2.1
  · rw [h.2 50 0 29 (by omega), h.2 50 0 30 (by omega)]; exact g.2.2.1
  · rw [h.2 52 4 _ (by omega), h.2 52 4 _ (by omega), h.2 52 4 _ (by omega)]; exact g.2.2.2 t ht
theorem SameA.row (h : SameA Mm M) (hj : j = 8 ∨ j = 9 ∨ j = 10 ∨ j = 11) : M.1 52 j = Mm.1 52 j := by
  funext k
  exact h.2 52 j k (by omega)
theorem x11_sX (g : MD n W H T K M) (hd : dOk W H T K) {s : Nat} (hs : s < K) : X11_sampleX (nI s) M = some (nI (sX K s)) ∧ X11_sampleY (nI s) M = some (nI (sY K s)) := by
  unfold X11_sampleX X11_sampleY
  rw [g.2.2.2.2]
  rcases hd.2.2.2 with rfl | rfl | rfl
  · have : s = 0 := by omega
    subst this
    exact ⟨rfl, rfl⟩
  · rcases (show s = 0 ∨ s = 1 by omega) with rfl | rfl <;> exact ⟨rfl, rfl⟩
  · rcases (show s = 0 ∨ s = 1 ∨ s = 2 ∨ s = 3 by omega) with rfl | rfl | rfl | rfl <;> exact ⟨rfl, rfl⟩
theorem x11_covS {τ ζ : Nat → Int32} {cu : Int32} (g : MD n W H T K M) (hd : dOk W H T K) (ha : AK τ ζ cu M) {x y s : Nat} (hs : s < K) : X11_coversSample (nI x) (nI y) (nI s) M = some (if (!cul (trA τ) cu && trC τ (qx K x s) (qy K y s)) = true then 1 else 0) := by
  unfold X11_coversSample
  rw [(x11_sX g hd hs).1, bind_e, (x11_sX g hd hs).2, bind_e, nlit 8, nI_mul, nI_mul, nI_add, nI_add, x11_cov ha, bind_e, gG_t]
  · rfl
  · split <;> decide
end RL
