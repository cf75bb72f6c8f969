/-! a step is taken -/
section SP
variable {L p q k i w st s cnt off : Nat} {X Y X' Y' X'' Y'' M : gM} {r : Int32}
theorem x5_take (hk : k < 12) (hc : cnt ≤ 4) (e46 : X.1 46 i 1 = nI k) : ∃ X', X5_take i r (nI cnt) X = some X' ∧ X'.1 46 i 1 = nI (k + 1) ∧ X'.1 47 i (5 * k) = r ∧ (∀ c, 1 ≤ c → c < 5 → X'.1 47 i (5 * k + c) = if cnt < c then 0 else X.1 4 0 (c - 1)) ∧ X'.2 = X.2 ∧ ∀ a b c, ¬ ((a = 46 ∧ b = i) ∨ (a = 47 ∧ b = i ∧ 5 * k ≤ c ∧ c < 5 * k + 5)) → X'.1 a b c = X.1 a b c := by
  have e5 : nI k * 5 = nI (5 * k) := by rw [nlit 5, nI_mul, Nat.mul_comm]
  obtain ⟨X1, f1, f2, f3, f4⟩ := gI1_FU (step := fun z : Int32 × gM => X5_take_L25 i (nI cnt) z.1 z.2) (fun l (u : gM) => (nI l, u)) (fun l u => 1 ≤ l ∧ (∀ c, 1 ≤ c → c < l → u.1 47 i (5 * k + c) = if cnt < c then 0 else X.1 4 0 (c - 1)) ∧ u.1 47 i (5 * k) = r ∧ u.2 = X.2 ∧ ∀ a b c, ¬ (a = 47 ∧ b = i ∧ 5 * k ≤ c ∧ c < 5 * k + 5) → u.1 a b c = X.1 a b c) (fun u => (∀ c, 1 ≤ c → c < 5 → u.1 47 i (5 * k + c) = if cnt < c then 0 else X.1 4 0 (c - 1)) ∧ u.1 47 i (5 * k) = r ∧ u.2 = X.2 ∧ ∀ a b c, ¬ (a = 47 ∧ b = i ∧ 5 * k ≤ c ∧ c < 5 * k + 5) → u.1 a b c = X.1 a b c) 1 5 (by omega) (by omega)
    (fun l u hl hu => by
      obtain ⟨u0, u1, u2, u3, u4⟩ := hu
      have e4 : u.1 46 i 1 = nI k := by rw [u4 46 i 1 (by omega)]; exact e46
      have ei : nI k * 5 + nI l = nI (5 * k + l) := by rw [e5, nI_add]
      have em : nI l - 1 = nI (l - 1) := by rw [nlit 1, nI_sub u0]
      refine ⟨wI u 47 i (5 * k + l) (if cnt < l then 0 else X.1 4 0 (l - 1)), ?_, by omega, fun c h1 h2 => ?_, by rw [w_n (by omega)]; exact u2, u3, fun a b c hq => by rw [w_n (by omega)]; exact u4 a b c hq⟩
      · show X5_take_L25 i (nI cnt) (nI l) u = _
        unfold X5_take_L25
        rw [if_neg (show ¬ (5 : Int32) ≤ nI l from nI_ge (a := l) (b := 5) hl (by decide)), e4, ei, em, gG_t (gin_n (k := 5 * k + l) (by omega) (by decide)), nI_clamp (n := 5 * k + l) (by omega), gG_t (gin_n (k := l - 1) (by omega) (by decide)), gG_t (gin_n (k := 5 * k + l) (by omega) (by decide)), nI_clamp (n := l - 1) (by omega), nI_1, u4 4 0 (l - 1) (by omega)]
        by_cases z : cnt < l
        · rw [if_pos ((nI_ltI (by omega) (by omega)).mpr z), if_pos z, gLet_e, gLet_e]
        · rw [if_neg (fun y => z ((nI_ltI (by omega) (by omega)).mp y)), if_neg z, gLet_e, gLet_e]
      · by_cases e : c = l
        · rw [e, w_e]
        · rw [w_n (by omega)]
          exact u1 c h1 (by omega))
    (fun u hu => ⟨u, by
      show X5_take_L25 i (nI cnt) (nI 5) u = _
      unfold X5_take_L25
      rw [if_pos (by decide)], hu.2⟩) (wI X 47 i (5 * k) r) ⟨by omega, fun c h1 h2 => absurd h2 (by omega), w_e, rfl, fun a b c hq => w_n (by omega)⟩
  have f1' : gIter (fun z : Int32 × gM => X5_take_L25 i (nI cnt) z.1 z.2) FU (1, wI X 47 i (5 * k) r) = some X1 := f1
  refine ⟨wI X1 46 i 1 (nI (k + 1)), ?_, w_e, by rw [w_n (by omega)]; exact f3, fun c h1 h2 => by rw [w_n (by omega)]; exact f2 c h1 h2, f4.1, fun a b c hq => by rw [w_n (by omega)]; exact f4.2 a b c (by omega)⟩
  unfold X5_take
  rw [e46, if_pos (show nI k < (12 : Int32) from (nI_ltI (a := k) (b := 12) (by omega) (by decide)).mpr hk), e5, gG_t (gin_n (k := 5 * k) (by omega) (by decide)), nI_clamp (n := 5 * k) (by omega), gLet_e, f1', bind_e, gLet_e, f4.2 46 i 1 (by omega), e46, nI_1]
theorem x11_88 (hk : k < 12) (hc : cnt ≤ 4) (x1 : Int32) : ∃ Y', gIter (fun z : Int32 × gM => X11_readScript_L88 x1 (nI (5 * (48 + k))) (nI cnt) z.1 z.2) FU (0, Y) = some Y' ∧ (∀ c, 1 ≤ c → c < 5 → Y'.1 52 5 (5 * (48 + k) + c) = if cnt < c then -1000000000 else Y.1 52 0 (c - 1)) ∧ Y'.2 = Y.2 ∧ ∀ a b c, ¬ (a = 52 ∧ b = 5 ∧ 5 * (48 + k) + 1 ≤ c ∧ c < 5 * (48 + k) + 5) → Y'.1 a b c = Y.1 a b c := by
  obtain ⟨Y1, f1, f2, f3, f4⟩ := gI1_FU (step := fun z : Int32 × gM => X11_readScript_L88 x1 (nI (5 * (48 + k))) (nI cnt) z.1 z.2) (fun l (u : gM) => (nI l, u)) (fun l u => (∀ c, 1 ≤ c → c < l + 1 → u.1 52 5 (5 * (48 + k) + c) = if cnt < c then -1000000000 else Y.1 52 0 (c - 1)) ∧ u.2 = Y.2 ∧ ∀ a b c, ¬ (a = 52 ∧ b = 5 ∧ 5 * (48 + k) + 1 ≤ c ∧ c < 5 * (48 + k) + 5) → u.1 a b c = Y.1 a b c) (fun u => (∀ c, 1 ≤ c → c < 5 → u.1 52 5 (5 * (48 + k) + c) = if cnt < c then -1000000000 else Y.1 52 0 (c - 1)) ∧ u.2 = Y.2 ∧ ∀ a b c, ¬ (a = 52 ∧ b = 5 ∧ 5 * (48 + k) + 1 ≤ c ∧ c < 5 * (48 + k) + 5) → u.1 a b c = Y.1 a b c) 0 4 (by omega) (by omega)
    (fun l u hl hu => by
      obtain ⟨u1, u2, u3⟩ := hu
      have ei : (nI (5 * (48 + k)) + 1) + nI l = nI (5 * (48 + k) + (l + 1)) := by rw [nI_1, nI_add]; congr 1; omega
      refine ⟨wI u 52 5 (5 * (48 + k) + (l + 1)) (if cnt < l + 1 then -1000000000 else Y.1 52 0 l), ?_, fun c h1 h2 => ?_, u2, fun a b c hq => by rw [w_n (by omega)]; exact u3 a b c hq⟩
      · show X11_readScript_L88 x1 (nI (5 * (48 + k))) (nI cnt) (nI l) u = _
        unfold X11_readScript_L88
        rw [if_neg (show ¬ (4 : Int32) ≤ nI l from nI_ge (a := l) (b := 4) hl (by decide)), ei, gG_t (gin_n (k := 5 * (48 + k) + (l + 1)) (by omega) (by decide)), nI_clamp (n := 5 * (48 + k) + (l + 1)) (by omega), gG_t (gin_n (k := l) (by omega) (by decide)), gG_t (gin_n (k := 5 * (48 + k) + (l + 1)) (by omega) (by decide)), nI_clamp (n := l) (by omega), nI_1, u3 52 0 l (by omega)]
        by_cases z : cnt < l + 1
        · rw [if_pos (nI_le (by omega) (by omega)), if_pos z, gLet_e, gLet_e]
        · rw [if_neg (nI_ge (by omega) (by omega)), if_neg z, gLet_e, gLet_e]
      · by_cases e : c = l + 1
        · rw [e, w_e, Nat.add_sub_cancel]
        · rw [w_n (by omega)]
          exact u1 c h1 (by omega))
    (fun u hu => ⟨u, by
      show X11_readScript_L88 x1 (nI (5 * (48 + k))) (nI cnt) (nI 4) u = _
      unfold X11_readScript_L88
      rw [if_pos (by decide)], hu⟩) Y ⟨fun c h1 h2 => absurd h2 (by omega), rfl, fun _ _ _ _ => rfl⟩
  exact ⟨Y1, f1, f2, f3, f4⟩
/-- both at the end, or a sign that goes on, or a fault -/
theorem j_on (h : RP L p X Y) (y4 : Y.1 50 0 4 = -1) : ∃ s X' Y', p ≤ s ∧ RP L s X' Y' ∧ X'.1 3 0 3 = nI s ∧ (∀ c, by8 X' c = by8 X c) ∧ XO S23 X X' ∧ YO (fun c => c = 3) Y Y' ∧ ((X3_isAtEnd X = some (1, X') ∧ X11_goesOn Y = some (0, Y')) ∨ (X3_isAtEnd X = some (0, X') ∧ s < L ∧ X3_readSign 59 X' = some (1, wI X' 3 0 2 (nI (s + 1))) ∧ X11_goesOn Y = some (1, Y')) ∨ (X3_isAtEnd X = some (0, X') ∧ X3_readSign 59 X' = some (0, X') ∧ X11_goesOn Y = some (0, wI Y' 50 0 4 (nI s)))) := by
  have hL := h.1.1
  obtain ⟨s, X1, Y1, a1, a2, a3, a4, a5, a6, a7, a8, a9⟩ := j_skip h
  have hsL := a4.2.2.2
  have y41 : Y1.1 50 0 4 = -1 := by rw [a8.2 50 0 4 (by omega)]; exact y4
  refine ⟨s, X1, Y1, a1, a4, a5, a6, a7, a8, ?_⟩
  unfold X3_isAtEnd X11_goesOn
  rw [a2, bind_e, a3, bind_e, gU2_e, if_pos y41, a4.1.2.1, a4.2.1]
  by_cases hs : s < L
  · have hb := a4.1.b hs
    have h32 : ¬ by8 X1 s = 32 := by rw [a6 s]; exact a9 hs
    have es : see L s X = nI (by8 X1 s) := by unfold see; rw [if_pos hs, a6 s]
    have n1 : ¬ nI (by8 X1 s) = -1 := nI_m1 (by omega)
    have skip : X3_skipBlanks X1 = some (wI X1 3 0 3 (nI s)) := by
      unfold X3_skipBlanks
      rw [a4.1.2.1, a4.2.1, if_neg (nI_ge hs (by omega)), gG_t (gin_n (k := s) (by omega) (by decide)), nI_clamp (by omega), hb.1, if_neg (show ¬ nI (by8 X1 s) = (32 : Int32) from fun z => h32 ((nI_lit hb.2 32 (by omega)).mp z)), gLet_e]
    have same : wI X1 3 0 3 (nI s) = X1 := by
      apply Prod.ext
      · funext a b c
        rw [r1_wI]
        split
        · next z => rw [z.1, z.2.1, z.2.2, a5]
        · rfl
      · rfl
    rw [if_pos (show nI s < nI L from (nI_ltI (by omega) (by omega)).mpr hs), es, if_neg n1]
    have sgn : X3_readSign 59 X1 = if nI (by8 X1 s) = 59 then some (1, wI X1 3 0 2 (nI (s + 1))) else some (0, X1) := by
      unfold X3_readSign
      rw [skip, bind_e, same, a4.1.2.1, a4.2.1, if_neg (nI_ge hs (by omega)), gG_t (gin_n (k := s) (by omega) (by decide)), nI_clamp (by omega), hb.1, nI_1]
      rfl
    by_cases e59 : nI (by8 X1 s) = 59
    · right; left
      rw [sgn, if_pos e59, if_pos e59, if_pos y41]
      exact ⟨rfl, hs, rfl, by rw [if_pos e59]⟩
    · right; right
      rw [sgn, if_neg e59, if_neg e59]
      refine ⟨rfl, rfl, ?_⟩
      unfold X11_fails
      rw [if_pos y41, gLet_e, bind_e, a4.2.2.1, if_neg (by rw [w_e]; exact nI_m1 (by omega))]
  · left
    rw [if_neg (show ¬ nI s < nI L from fun z => hs ((nI_ltI (by omega) (by omega)).mp z)), show see L s X = -1 from if_neg hs, if_pos rfl, if_pos y41, if_neg (by decide)]
    exact ⟨rfl, rfl⟩
end SP
