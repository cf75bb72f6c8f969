/-! numbers, whole -/
def XC (X X' : gM) : Prop := X'.2 = X.2 ∧ ∀ a b c, ¬ (a = 3 ∨ a = 4) → X'.1 a b c = X.1 a b c
def YC (Y Y' : gM) : Prop := Y'.2 = Y.2 ∧ ∀ a b c, ¬ (a = 50 ∧ b = 0 ∧ (c = 3 ∨ c = 4 ∨ c = 5 ∨ c = 7)) → Y'.1 a b c = Y.1 a b c
section NC
variable {L p q k i w st s : Nat} {X Y X' Y' X'' Y'' M : gM} {lo hi sg : Int32} {S : Nat → Prop}
theorem XC.rf : XC X X := ⟨rfl, fun _ _ _ _ => rfl⟩
theorem YC.rf : YC Y Y := ⟨rfl, fun _ _ _ _ => rfl⟩
theorem XC.tr (h : XC X X') (h' : XC X' X'') : XC X X'' := ⟨h'.1.trans h.1, fun a b c hq => (h'.2 a b c hq).trans (h.2 a b c hq)⟩
theorem YC.tr (h : YC Y Y') (h' : YC Y' Y'') : YC Y Y'' := ⟨h'.1.trans h.1, fun a b c hq => (h'.2 a b c hq).trans (h.2 a b c hq)⟩
theorem XO.c (h : XO S X X') : XC X X' := ⟨h.1, fun a b c hq => h.2 a b c (fun z => hq (Or.inl z.1))⟩
theorem YO.c (h : YO S Y Y') (hs : ∀ c, S c → c = 3 ∨ c = 4 ∨ c = 5 ∨ c = 7) : YC Y Y' := ⟨h.1, fun a b c hq => h.2 a b c (fun z => hq ⟨z.1, z.2.1, hs c z.2.2⟩)⟩
theorem XO.n4 (h : XO S X X') (j : Nat) : X'.1 4 0 j = X.1 4 0 j := h.2 4 0 j (by omega)
/-- how a number came out on both sides -/
def NO (L s : Nat) (lo hi : Int32) (X Y : gM) (k : Nat) (ok v : Int32) (q : Nat) (X' Y' : gM) : Prop := RP L q X' Y' ∧ X'.1 3 0 3 = nI s ∧ Y'.1 50 0 7 = nI s ∧ (∀ c, by8 X' c = by8 X c) ∧ XC X X' ∧ (∀ j, j ≠ k → X'.1 4 0 j = X.1 4 0 j) ∧ YC Y Y' ∧ ((ok = 0 ∧ Y'.1 50 0 4 = nI s) ∨ (Y'.1 50 0 4 = -1 ∧ NR v (X'.1 4 0 k) ∧ ok = if lo ≤ X'.1 4 0 k ∧ X'.1 4 0 k ≤ hi then 1 else 0))
theorem n_fin {c x5 : Int32} (hk : k < 11) : X3_readNumber_J173 (nI k) lo hi x5 c (nI k) X = (if X.1 3 0 2 ≤ x5 then some (0, wI X 4 0 k c) else some ((if lo ≤ c ∧ c ≤ hi then 1 else 0), wI X 4 0 k c)) := by
  unfold X3_readNumber_J173
  rw [gG_t (gin_n hk (by decide)), nI_clamp (by omega), gLet_e, w_n (by omega), w_e, gG_t (gin_n hk (by decide)), gG_t (gin_n hk (by decide))]
  by_cases h : X.1 3 0 2 ≤ x5
  · rw [if_pos h, if_pos h]
  · rw [if_neg h, if_neg h]
    by_cases h1 : c < lo
    · rw [if_pos h1, if_neg (fun z => Int32.not_lt.mpr z.1 h1)]
    · rw [if_neg h1]
      by_cases h2 : hi < c
      · rw [if_pos h2, if_neg (fun z => Int32.not_lt.mpr z.2 h2)]
      · rw [if_neg h2, if_pos ⟨Int32.not_lt.mp h1, Int32.not_lt.mp h2⟩]
theorem nr_of {n : Nat} (hn : n ≤ 999999) (hs : sg = 0 ∨ sg = 1) : NR (if sg = 0 then nI n else -nI n) (if sg = 0 then nI (min n 100000) else -nI (min n 100000)) := by
  have e1 : (nI n).toInt = (n : Int) := nI_toInt (by omega)
  have e2 : (nI (min n 100000)).toInt = ((min n 100000 : Nat) : Int) := nI_toInt (by omega)
  have e3 : (-nI n).toInt = -(n : Int) := by rw [neg32 (by omega) (by omega), e1]
  have e4 : (-nI (min n 100000)).toInt = -((min n 100000 : Nat) : Int) := by rw [neg32 (by omega) (by omega), e2]
  by_cases h : n ≤ 100000
  · rw [show min n 100000 = n by omega]
    left
    refine ⟨rfl, ?_, ?_⟩ <;> split <;> omega
  · right
    rcases hs with rfl | rfl
    · rw [if_pos rfl, if_pos rfl]
      left
      omega
    · rw [if_neg (by decide), if_neg (by decide)]
      right
      omega
theorem j_tail (hs : sg = 0 ∨ sg = 1) (hk : k < 11) (h : RP L st X Y) (x3 : X.1 3 0 3 = nI s) (y7 : Y.1 50 0 7 = nI s) (y4 : Y.1 50 0 4 = -1) :
    ∃ ok v q X' Y', (gIter (fun z : Int32 × gM => X3_readNumber_L66 (nI k) lo hi sg (nI st) z.1 z.2) FU (0, X)).bind (gU2 (fun x6 M => X3_readNumber_J155 (nI k) lo hi sg (nI st) x6 M)) = some (ok, X') ∧ X11_number_J39 sg Y = some (v, Y') ∧ st ≤ q ∧ NO L s lo hi X Y k ok v q X' Y' := by
  have hL := h.1.1
  have hst := h.2.2.2
  by_cases dg : st < L ∧ isD (by8 X st)
  · obtain ⟨n, q, X1, Y1, a1, a2, a3, a4, a5, a6, a7, a8⟩ := j_digits (k := k) (lo := lo) (hi := hi) (sg := sg) (x5 := nI st) h y4 dg
    have hbk := h.1.b dg.1
    have es : see L st X = nI (by8 X st) := if_pos dg.1
    have dig : X11_isDigit Y = some 1 := by
      unfold X11_isDigit
      rw [x11_here h, bind_e, es, bind_e]
      have d1 := dg.2.1
      have d2 := dg.2.2
      rw [if_neg (show ¬ nI (by8 X st) < (48 : Int32) from fun z => by have := (nI_ltI (a := by8 X st) (b := 48) (by omega) (by decide)).mp z; omega), if_neg (show ¬ (57 : Int32) < nI (by8 X st) from fun z => by have := (nI_ltI (a := 57) (b := by8 X st) (by decide) (by omega)).mp z; omega)]
    have nle : ¬ X1.1 3 0 2 ≤ nI st := by
      rw [a5.2.1]
      exact nI_ge a1 (by have := a5.2.2.2; omega)
    refine ⟨(if lo ≤ (if sg = 0 then nI (min n 100000) else -nI (min n 100000)) ∧ (if sg = 0 then nI (min n 100000) else -nI (min n 100000)) ≤ hi then 1 else 0), (if sg = 0 then nI n else -nI n), q, wI X1 4 0 k (if sg = 0 then nI (min n 100000) else -nI (min n 100000)), Y1, ?_, ?_, by omega, ⟨a5.1.of (fun a b c hc => w_n (by omega)) (fun _ _ _ _ => rfl), by rw [w_n (by omega)]; exact a5.2.1, a5.2.2⟩, by rw [w_n (by omega), a7.2 3 0 3 (by omega)]; exact x3, by rw [a8.2 50 0 7 (by omega)]; exact y7, fun c => ?_, a7.c.tr ⟨rfl, fun a b c hq => w_n (by omega)⟩, fun j hj => by rw [w_n (by omega), a7.n4 j], a8.c (fun c hc => Or.inl hc), Or.inr ⟨by rw [a8.2 50 0 4 (by omega)]; exact y4, ?_, ?_⟩⟩
    · rw [a3, bind_e, gU2_e]
      unfold X3_readNumber_J155
      rcases hs with rfl | rfl
      · rw [if_pos rfl, n_fin hk, if_neg nle, if_pos rfl]
      · rw [if_neg (show ¬ (1 : Int32) = 0 by decide), n_fin hk, if_neg nle, if_neg (show ¬ (1 : Int32) = 0 by decide)]
    · unfold X11_number_J39
      rw [dig, bind_e, if_neg (show ¬ (1 : Int32) = 0 by decide), a4, bind_e, gU2_e]
      split <;> rfl
    · have := a6 c
      unfold by8 at this ⊢
      rw [w_n (by omega)]
      exact this
    · rw [w_e]
      exact nr_of a2 hs
    · rw [w_e]
  · have un1 : gIter (fun z : Int32 × gM => X3_readNumber_L66 (nI k) lo hi sg (nI st) z.1 z.2) FU (0, X) = some (0, X) := by
      apply FU5
      refine gIt_x ?_
      show X3_readNumber_L66 (nI k) lo hi sg (nI st) 0 X = _
      unfold X3_readNumber_L66
      rw [h.1.2.1, h.2.1]
      by_cases hp : st < L
      · have hbk := h.1.b hp
        rw [if_neg (nI_ge hp (by omega)), gG_t (gin_n (k := st) (by omega) (by decide)), gG_t (gin_n (k := st) (by omega) (by decide)), nI_clamp (by omega), hbk.1]
        by_cases c1 : by8 X st < 48
        · rw [if_pos (show nI (by8 X st) < (48 : Int32) from (nI_ltI (a := by8 X st) (b := 48) (by omega) (by decide)).mpr c1)]
        · rw [if_neg (show ¬ nI (by8 X st) < (48 : Int32) from fun z => c1 ((nI_ltI (a := by8 X st) (b := 48) (by omega) (by decide)).mp z)), if_pos (show (57 : Int32) < nI (by8 X st) from (nI_ltI (a := 57) (b := by8 X st) (by decide) (by omega)).mpr (by
            rcases Nat.lt_or_ge 57 (by8 X st) with z | z
            · exact z
            · exact absurd ⟨hp, by unfold isD; omega⟩ dg))]
      · rw [if_pos (nI_le (by omega) (by omega))]
    have dig : X11_isDigit Y = some 0 := by
      unfold X11_isDigit
      rw [x11_here h, bind_e, bind_e]
      by_cases hp : st < L
      · have hbk := h.1.b hp
        rw [show see L st X = nI (by8 X st) from if_pos hp]
        by_cases c1 : by8 X st < 48
        · rw [if_pos (show nI (by8 X st) < (48 : Int32) from (nI_ltI (a := by8 X st) (b := 48) (by omega) (by decide)).mpr c1)]
        · rw [if_neg (show ¬ nI (by8 X st) < (48 : Int32) from fun z => c1 ((nI_ltI (a := by8 X st) (b := 48) (by omega) (by decide)).mp z)), if_pos (show (57 : Int32) < nI (by8 X st) from (nI_ltI (a := 57) (b := by8 X st) (by decide) (by omega)).mpr (by
            rcases Nat.lt_or_ge 57 (by8 X st) with z | z
            · exact z
            · exact absurd ⟨hp, by unfold isD; omega⟩ dg))]
      · rw [show see L st X = -1 from if_neg hp, if_pos (by decide)]
    have cls : (gIter (fun z : Int32 × gM => X3_readNumber_L66 (nI k) lo hi sg (nI st) z.1 z.2) FU (0, X)).bind (gU2 (fun x6 M => X3_readNumber_J155 (nI k) lo hi sg (nI st) x6 M)) = some (0, wI X 4 0 k 0) := by
      rw [un1, bind_e, gU2_e]
      unfold X3_readNumber_J155
      rcases hs with rfl | rfl
      · rw [if_pos rfl, n_fin hk, if_pos (by rw [h.2.1]; exact Int32.le_refl _)]
      · rw [if_neg (by decide), n_fin hk, if_pos (by rw [h.2.1]; exact Int32.le_refl _)]
        rfl
    refine ⟨0, 0, st, wI X 4 0 k 0, wI Y 50 0 4 (nI s), cls, ?_, Nat.le_refl _, ⟨h.1.of (fun a b c hc => w_n (by omega)) (fun a b c hc => w_n (by omega)), by rw [w_n (by omega)]; exact h.2.1, by rw [w_n (by omega)]; exact h.2.2.1, hst⟩, by rw [w_n (by omega)]; exact x3, by rw [w_n (by omega)]; exact y7, fun c => by unfold by8; rw [w_n (by omega)], ⟨rfl, fun a b c hq => w_n (by omega)⟩, fun j hj => w_n (by omega), ⟨rfl, fun a b c hq => w_n (by omega)⟩, Or.inl ⟨rfl, w_e⟩⟩
    unfold X11_number_J39 X11_fails
    rw [dig, bind_e, if_pos rfl, if_pos y4, y7, gLet_e]
    rfl
theorem j_num (hk : k < 11) (h : RP L p X Y) (y4 : Y.1 50 0 4 = -1) : ∃ s ok v q X' Y', X3_readNumber (nI k) lo hi X = some (ok, X') ∧ X11_number Y = some (v, Y') ∧ p ≤ s ∧ s ≤ q ∧ NO L s lo hi X Y k ok v q X' Y' := by
  have hL := h.1.1
  obtain ⟨s, X1, Y1, a1, a2, a3, a4, a5, a6, a7, a8, a9⟩ := j_skip h
  have hs := a4.2.2.2
  have r1 : RP L s X1 (wI Y1 50 0 7 (nI s)) := ⟨a4.1.of (fun _ _ _ _ => rfl) (fun a b c hc => w_n (by omega)), a4.2.1, by rw [w_n (by omega)]; exact a4.2.2.1, hs⟩
  have y41 : (wI Y1 50 0 7 (nI s)).1 50 0 4 = -1 := by rw [w_n (by omega), a8.2 50 0 4 (by omega)]; exact y4
  have yc1 : YC Y (wI Y1 50 0 7 (nI s)) := (a8.c fun c hc => Or.inl hc).tr ⟨rfl, fun a b c hq => w_n (by omega)⟩
  have lift : ∀ {st ok v q X' Y' X2 Y2}, NO L st lo hi X2 Y2 k ok v q X' Y' → (∀ c, by8 X2 c = by8 X c) → XC X X2 → (∀ j, X2.1 4 0 j = X.1 4 0 j) → YC Y Y2 → NO L st lo hi X Y k ok v q X' Y' := fun {st ok v q X' Y' X2 Y2} g b1 b2 b3 b4 => ⟨g.1, g.2.1, g.2.2.1, fun c => by rw [g.2.2.2.1 c, b1 c], b2.tr g.2.2.2.2.1, fun j hj => by rw [g.2.2.2.2.2.1 j hj, b3 j], b4.tr g.2.2.2.2.2.2.1, g.2.2.2.2.2.2.2⟩
  unfold X3_readNumber X11_number
  rw [a2, bind_e, a3, bind_e, gU2_e, gLet_e (wI Y1 50 0 7 (Y1.1 50 0 3)), a4.2.2.1, a4.1.2.1, a4.2.1]
  by_cases mi : s < L ∧ by8 X s = 45
  · have hb1 := a4.1.b mi.1
    have e45 : by8 X1 s = 45 := by rw [a6 s]; exact mi.2
    have es : see L s X = 45 := by unfold see; rw [if_pos mi.1, mi.2]; rfl
    rw [if_neg (nI_ge mi.1 (by omega)), gG_t (gin_n (k := s) (by omega) (by decide)), nI_clamp (by omega), hb1.1, e45, if_pos (show nI 45 = (45 : Int32) from rfl), es, if_pos rfl, nI_1]
    obtain ⟨ok, v, q, X', Y', t1, t2, t3, t4⟩ := j_tail (k := k) (lo := lo) (hi := hi) (sg := 1) (s := s) (Or.inr rfl) hk (r1.go mi.1) (by rw [w_n (by omega)]; exact a5) (by rw [w_n (by omega), w_e]) (by rw [w_n (by omega)]; exact y41)
    refine ⟨s, ok, v, q, X', Y', ?_, ?_, a1, by omega, lift t4 (fun c => ?_) (a7.c.tr ⟨rfl, fun a b c hq => w_n (by omega)⟩) (fun j => by rw [w_n (by omega), a7.n4 j]) (yc1.tr ⟨rfl, fun a b c hq => w_n (by omega)⟩)⟩
    · rw [gLet_e, w_e, gLet_e]
      exact t1
    · unfold X11_number_J24
      rw [if_neg (show ¬ (1 : Int32) = 0 by decide), r1.2.2.1, nI_1, gLet_e]
      exact t2
    · have := a6 c
      unfold by8 at this ⊢
      rw [w_n (by omega)]
      exact this
  · have es : ¬ see L s X = 45 := by
      unfold see
      by_cases hp : s < L
      · have hb1 := a4.1.b hp
        rw [if_pos hp]
        exact fun z => mi ⟨hp, (nI_lit (by rw [← a6 s]; exact hb1.2) 45 (by omega)).mp z⟩
      · rw [if_neg hp]
        decide
    obtain ⟨ok, v, q, X', Y', t1, t2, t3, t4⟩ := j_tail (k := k) (lo := lo) (hi := hi) (sg := 0) (s := s) (Or.inl rfl) hk r1 a5 w_e y41
    have j39 : X3_readNumber_J39 (nI k) lo hi X1 = some (ok, X') := by
      unfold X3_readNumber_J39
      rw [gLet_e, a4.2.1]
      exact t1
    refine ⟨s, ok, v, q, X', Y', ?_, ?_, a1, t3, lift t4 a6 a7.c (fun j => a7.n4 j) yc1⟩
    · by_cases hp : s < L
      · have hb1 := a4.1.b hp
        rw [if_neg (nI_ge hp (by omega)), gG_t (gin_n (k := s) (by omega) (by decide)), nI_clamp (by omega), hb1.1, if_neg (fun z => mi ⟨hp, by rw [← a6 s]; exact (nI_lit hb1.2 45 (by omega)).mp z⟩)]
        exact j39
      · rw [if_pos (nI_le (by omega) (by omega))]
        exact j39
    · rw [if_neg es]
      unfold X11_number_J24
      rw [if_pos rfl]
      exact t2
end NC
