/-! edges, covering and depth: the class's shape, the reference's triangle that is asked -/
theorem gIt_s {σ ε : Type} {step : σ → Option (σ ⊕ ε)} {n : Nat} {s s' : σ} {e : ε} (h : step s = some (.inl s')) (k : gIter step n s' = some e) : gIter step (n + 1) s = some e := by
  unfold gIter
  rw [h]
  exact k
theorem gIt_x {σ ε : Type} {step : σ → Option (σ ⊕ ε)} {n : Nat} {s : σ} {e : ε} (h : step s = some (.inr e)) : gIter step (n + 1) s = some e := by
  unfold gIter
  rw [h]
theorem FU5 {σ ε : Type} {step : σ → Option (σ ⊕ ε)} {s : σ} {e : ε} (h : gIter step (4995 + 1 + 1 + 1 + 1 + 1) s = some e) : gIter step FU s = some e := by
  rw [FU_eq]
  exact h
def SHe (i : Nat) (τ : Nat → Int32) (M : gM) : Prop := ∀ e, e < 3 → M.1 21 i e = ty τ e - ty τ (nx e) ∧ M.1 22 i e = tx τ (nx e) - tx τ e ∧ M.1 23 i e = ((ty τ (nx e) - ty τ e) * tx τ e) - ((tx τ (nx e) - tx τ e) * ty τ e) ∧ M.1 24 i e = if trH τ e = true then 0 else 1
theorem x6_sum {i e : Nat} {τ : Nat → Int32} {M : gM} (h : SHe i τ M) (he : e < 3) (px py : Int32) : X6_sumAt i (nI e) px py M = some (trS τ e px py) := by
  obtain ⟨h1, h2, h3, -⟩ := h e he
  unfold X6_sumAt
  rw [gG_t (gin_n he (by decide)), gG_t (gin_n he (by decide)), gG_t (gin_n he (by decide)), nI_clamp (by omega), h1, h2, h3, i32_ring]
  rfl
theorem i32_1 (x : Int32) : (1 ≤ x) ↔ 0 < x := by
  rw [Int32.le_iff_toInt_le, Int32.lt_iff_toInt_lt]
  have h1 : (1 : Int32).toInt = 1 := rfl
  have h0 : (0 : Int32).toInt = 0 := rfl
  omega
theorem i32_0 (x : Int32) : (0 ≤ x) ↔ (0 < x ∨ x = 0) := by
  rw [Int32.le_iff_toInt_le, Int32.lt_iff_toInt_lt, ← Int32.toInt_inj]
  have h0 : (0 : Int32).toInt = 0 := rfl
  omega
theorem x6_cov1 {i e : Nat} {τ : Nat → Int32} {M : gM} (h : SHe i τ M) (he : e < 3) (px py : Int32) : X6_covers_L11 i px py (nI e) M = if trE τ e px py = true then some (.inl (nI (e + 1))) else some (.inr (.inl ())) := by
  obtain ⟨h1, h2, h3, h4⟩ := h e he
  unfold X6_covers_L11
  rw [nlit 3, if_neg (nI_ge he (by decide)), gG_t (gin_n he (by decide)), gG_t (gin_n he (by decide)), gG_t (gin_n he (by decide)), gG_t (gin_n he (by decide)), nI_clamp (by omega), h1, h2, h3, h4, i32_ring, gLet_e, nI_1]
  show (if (if trH τ e = true then (0 : Int32) else 1) ≤ trS τ e px py then _ else _) = _
  congr 1
  unfold trE
  cases hh : trH τ e with
  | true =>
    rw [if_pos rfl]
    simp only [Bool.or_eq_true, decide_eq_true_eq, Bool.and_true]
    exact propext (i32_0 _)
  | false =>
    rw [if_neg (by decide)]
    simp only [Bool.or_eq_true, decide_eq_true_eq, Bool.and_false, Bool.or_false]
    exact propext (i32_1 _)
theorem x6_cov {i : Nat} {τ : Nat → Int32} {M : gM} (h : SHe i τ M) (ha : M.1 19 i 2 = trA τ) (px py : Int32) : X6_covers i px py M = some (if trC τ px py = true then 1 else 0) := by
  unfold X6_covers trC
  rw [ha]
  by_cases hz : trA τ = 0
  · rw [if_pos hz]
    simp [hz]
  · rw [if_neg hz, decide_eq_true hz, Bool.true_and]
    have s3 : X6_covers_L11 i px py (nI 3) M = some (.inr (.inr ())) := by
      unfold X6_covers_L11
      rw [nlit 3, if_pos (nI_le (Nat.le_refl 3) (by decide))]
    have s0 := x6_cov1 h (e := 0) (by decide) px py
    have s1 := x6_cov1 h (e := 1) (by decide) px py
    have s2 := x6_cov1 h (e := 2) (by decide) px py
    rw [← nI_0]
    cases h0 : trE τ 0 px py with
    | false =>
      rw [h0, if_neg (by decide)] at s0
      rw [FU5 (gIt_x (step := fun s => X6_covers_L11 i px py s M) s0)]
      rfl
    | true =>
      rw [h0, if_pos rfl] at s0
      cases h1 : trE τ 1 px py with
      | false =>
        rw [h1, if_neg (by decide)] at s1
        rw [FU5 (gIt_s (step := fun s => X6_covers_L11 i px py s M) s0 (gIt_x s1))]
        rfl
      | true =>
        rw [h1, if_pos rfl] at s1
        cases h2 : trE τ 2 px py with
        | false =>
          rw [h2, if_neg (by decide)] at s2
          rw [FU5 (gIt_s (step := fun s => X6_covers_L11 i px py s M) s0 (gIt_s s1 (gIt_x s2)))]
          rfl
        | true =>
          rw [h2, if_pos rfl] at s2
          rw [FU5 (gIt_s (step := fun s => X6_covers_L11 i px py s M) s0 (gIt_s s1 (gIt_s s2 (gIt_x s3))))]
          rfl
/-! the reference: the triangle that is asked -/
def cul (a c : Int32) : Bool := decide (a = 0) || ((decide (c = 1) && decide (a < 0)) || (decide (c = 2) && decide (0 < a)))
def AK (τ ζ : Nat → Int32) (cu : Int32) (M : gM) : Prop := (∀ k, k < 3 → M.1 52 12 k = tx τ k ∧ M.1 52 13 k = ty τ k ∧ M.1 52 14 k = ζ (trP τ k)) ∧ M.1 50 0 28 = trA τ ∧ M.1 50 0 31 = if cul (trA τ) cu = true then 1 else 0
theorem x11_sum {e : Nat} {τ ζ : Nat → Int32} {cu : Int32} {M : gM} (h : ∀ k, k < 3 → M.1 52 12 k = tx τ k ∧ M.1 52 13 k = ty τ k) (he : e < 3) (px py : Int32) : X11_sum (nI e) px py M = some (trS τ e px py) := by
  have hn := nx_lt e
  unfold X11_sum
  rw [nI_1, nlit 3, nI_rem (by omega) (by decide), gLet_e]
  rw [show (e + 1) % 3 = nx e from rfl]
  rw [gG_t (gin_n hn (by decide)), gG_t (gin_n he (by decide)), gG_t (gin_n he (by decide)), gG_t (gin_n hn (by decide)), gG_t (gin_n he (by decide)), gG_t (gin_n he (by decide))]
  show some ((((M.1 52 12 (nI (nx e)).toNatClampNeg) - (M.1 52 12 (nI e).toNatClampNeg)) * (py - (M.1 52 13 (nI e).toNatClampNeg))) - (((M.1 52 13 (nI (nx e)).toNatClampNeg) - (M.1 52 13 (nI e).toNatClampNeg)) * (px - (M.1 52 12 (nI e).toNatClampNeg)))) = _
  rw [nI_clamp (by omega), nI_clamp (by omega), (h e he).1, (h e he).2, (h _ hn).1, (h _ hn).2]
  rfl
theorem x11_high {e : Nat} {τ : Nat → Int32} {M : gM} (h : ∀ k, k < 3 → M.1 52 12 k = tx τ k ∧ M.1 52 13 k = ty τ k) (he : e < 3) : X11_isHigh (nI e) M = some (if trH τ e = true then 1 else 0) := by
  have hn := nx_lt e
  unfold X11_isHigh
  rw [nI_1, nlit 3, nI_rem (by omega) (by decide), gLet_e]
  show gG (gin (nI e) 3) (gG (gin (nI (nx e)) 3) (if M.1 52 13 (nI e).toNatClampNeg = M.1 52 13 (nI (nx e)).toNatClampNeg then gG (gin (nI (nx e)) 3) (gG (gin (nI e) 3) (if M.1 52 12 (nI (nx e)).toNatClampNeg ≤ M.1 52 12 (nI e).toNatClampNeg then some 0 else some 1)) else gG (gin (nI (nx e)) 3) (gG (gin (nI e) 3) (if M.1 52 13 (nI e).toNatClampNeg ≤ M.1 52 13 (nI (nx e)).toNatClampNeg then some 0 else some 1)))) = _
  rw [gG_t (gin_n he (by decide)), gG_t (gin_n hn (by decide)), gG_t (gin_n hn (by decide)), gG_t (gin_n he (by decide)), gG_t (gin_n hn (by decide)), gG_t (gin_n he (by decide)), nI_clamp (by omega), nI_clamp (by omega), (h e he).1, (h e he).2, (h _ hn).1, (h _ hn).2]
  unfold trH
  by_cases h1 : ty τ e = ty τ (nx e)
  · rw [if_pos h1, if_pos h1]
    by_cases h2 : tx τ (nx e) ≤ tx τ e
    · rw [if_pos h2, if_neg (by simpa using Int32.not_lt.mpr h2)]
    · rw [if_neg h2, if_pos (by simpa using Int32.not_le.mp h2)]
  · rw [if_neg h1, if_neg h1]
    by_cases h2 : ty τ e ≤ ty τ (nx e)
    · rw [if_pos h2, if_neg (by simpa using Int32.not_lt.mpr h2)]
    · rw [if_neg h2, if_pos (by simpa using Int32.not_le.mp h2)]
theorem x11_cov1 {e : Nat} {τ : Nat → Int32} {M : gM} (h : ∀ k, k < 3 → M.1 52 12 k = tx τ k ∧ M.1 52 13 k = ty τ k) (he : e < 3) (px py : Int32) : X11_covers_L16 px py 1 (nI e) M = some (.inl (if trE τ e px py = true then 1 else 0, nI (e + 1))) := by
  unfold X11_covers_L16
  rw [nlit 3, if_neg (nI_ge he (by decide)), if_neg (by decide), x11_sum (ζ := fun _ => 0) (cu := 0) h he, bind_e]
  unfold trE
  by_cases h1 : 0 < trS τ e px py
  · rw [if_pos h1, gLet_e, nI_1, decide_eq_true h1]
    rfl
  · rw [if_neg h1, decide_eq_false h1, Bool.false_or]
    by_cases h2 : trS τ e px py = 0
    · rw [if_pos h2, x11_high h he, bind_e, decide_eq_true h2, Bool.true_and]
      cases trH τ e
      · rw [if_pos (by decide), gLet_e, nI_1]
        rfl
      · rw [if_neg (by decide), gLet_e, nI_1]
        rfl
    · rw [if_neg h2, gLet_e, nI_1, decide_eq_false h2, Bool.false_and]
      rfl
theorem x11_cov0 {τ : Nat → Int32} {M : gM} {e : Nat} (he : e ≤ 3) (px py : Int32) : X11_covers_L16 px py 0 (nI e) M = some (.inr 0) := by
  unfold X11_covers_L16
  rw [if_pos rfl]
  split <;> rfl
theorem x11_cov {τ ζ : Nat → Int32} {cu : Int32} {M : gM} (h : AK τ ζ cu M) (px py : Int32) : X11_covers px py M = some (if (!cul (trA τ) cu && trC τ px py) = true then 1 else 0) := by
  have hk : ∀ k, k < 3 → M.1 52 12 k = tx τ k ∧ M.1 52 13 k = ty τ k := fun k hk => ⟨(h.1 k hk).1, (h.1 k hk).2.1⟩
  unfold X11_covers
  rw [h.2.2]
  cases hc : cul (trA τ) cu with
  | true =>
    rw [if_neg (by decide), ← nI_0, FU5 (gIt_x (step := fun s => X11_covers_L16 px py s.1 s.2 M) (s := (nI 0, nI 0)) (e := 0) (x11_cov0 (τ := τ) (e := 0) (by decide) px py))]
    rfl
  | false =>
    have hz : ¬ trA τ = 0 := fun z => by
      unfold cul at hc
      rw [decide_eq_true z] at hc
      cases hc
    rw [if_pos (by decide)]
    unfold trC
    rw [decide_eq_true hz, Bool.true_and, Bool.not_false, Bool.true_and]
    have s3 : X11_covers_L16 px py 1 (nI 3) M = some (.inr 1) := by
      unfold X11_covers_L16
      rw [nlit 3, if_pos (nI_le (Nat.le_refl 3) (by decide))]
    have s0 := x11_cov1 hk (e := 0) (by decide) px py
    have s1 := x11_cov1 hk (e := 1) (by decide) px py
    have s2 := x11_cov1 hk (e := 2) (by decide) px py
    rw [← nI_0]
    cases h0 : trE τ 0 px py with
    | false =>
      rw [h0, if_neg (by decide)] at s0
      rw [FU5 (gIt_s (step := fun s => X11_covers_L16 px py s.1 s.2 M) (s := (1, nI 0)) (s' := (0, nI 1)) (e := 0) s0 (gIt_x (x11_cov0 (τ := τ) (e := 1) (by decide) px py)))]
      rfl
    | true =>
      rw [h0, if_pos rfl] at s0
      cases h1 : trE τ 1 px py with
      | false =>
        rw [h1, if_neg (by decide)] at s1
        rw [FU5 (gIt_s (step := fun s => X11_covers_L16 px py s.1 s.2 M) (s := (1, nI 0)) (s' := (1, nI 1)) (e := 0) s0 (gIt_s (s' := (0, nI 2)) s1 (gIt_x (x11_cov0 (τ := τ) (e := 2) (by decide) px py))))]
        rfl
      | true =>
        rw [h1, if_pos rfl] at s1
        cases h2 : trE τ 2 px py with
        | false =>
          rw [h2, if_neg (by decide)] at s2
          rw [FU5 (gIt_s (step := fun s => X11_covers_L16 px py s.1 s.2 M) (s := (1, nI 0)) (s' := (1, nI 1)) (e := 0) s0 (gIt_s (s' := (1, nI 2)) s1 (gIt_s (s' := (0, nI 3)) s2 (gIt_x (x11_cov0 (τ := τ) (e := 3) (by decide) px py)))))]
          rfl
        | true =>
          rw [h2, if_pos rfl] at s2
          rw [FU5 (gIt_s (step := fun s => X11_covers_L16 px py s.1 s.2 M) (s := (1, nI 0)) (s' := (1, nI 1)) (e := 1) s0 (gIt_s (s' := (1, nI 2)) s1 (gIt_s (s' := (1, nI 3)) s2 (gIt_x s3))))]
          rfl
