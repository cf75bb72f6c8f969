/-! words, the reference's side; both -/
section WE
variable {L p q k i w : Nat} {X Y X' Y' M : gM}
theorem x11_l18 (hi : i = 0 ∨ i = 1) (hw : w < wnum i) (x2 x3 x4 : Int32) : gIter (fun s => X11_wordAmong_L18 i x2 x3 x4 (nI (wst i w)) s Y) FU 0 = some (nI (wst i (w + 1) - 1 - wst i w)) := by
  have hl := w_l hi
  obtain ⟨h1, h2, h3, h4⟩ := w_w hi hw
  obtain ⟨e, g1, g2⟩ := gI1_FU (step := fun s => X11_wordAmong_L18 i x2 x3 x4 (nI (wst i w)) s Y) (fun k (_ : Unit) => nI k) (fun _ _ => True) (fun e => e = nI (wst i (w + 1) - 1 - wst i w)) 0 (wst i (w + 1) - 1 - wst i w) (by omega) (by omega)
    (fun k _ hk _ => ⟨(), by
      show X11_wordAmong_L18 i x2 x3 x4 (nI (wst i w)) (nI k) Y = _
      unfold X11_wordAmong_L18
      rw [nI_add, hl.1, gG_t (gin_n (k := wst i w + k) (by omega) (by omega)), nI_clamp (n := wst i w + k) (by omega), if_neg (h4 k hk), gLet_e, nI_1], trivial⟩)
    (fun _ _ => ⟨_, by
      show X11_wordAmong_L18 i x2 x3 x4 (nI (wst i w)) (nI (wst i (w + 1) - 1 - wst i w)) Y = some (.inr (nI (wst i (w + 1) - 1 - wst i w)))
      unfold X11_wordAmong_L18
      rw [nI_add, hl.1, show wst i w + (wst i (w + 1) - 1 - wst i w) = wst i (w + 1) - 1 by omega, gG_t (gin_n (k := wst i (w + 1) - 1) (by omega) (by omega)), nI_clamp (n := wst i (w + 1) - 1) (by omega), if_pos h3], rfl⟩) () trivial
  rw [g2] at g1
  exact g1
theorem x11_l56 (hi : i = 0 ∨ i = 1) (hw : w < wnum i) (hpq : p ≤ q) (hq : q ≤ 480) (hm : ∀ c, p ≤ c → c < q → Y.1 51 0 c = X.1 2 0 c) (hlen : wst i (w + 1) - 1 - wst i w = q - p) (x3 x4 : Int32) : (gIter (fun s => X11_wordAmong_L56 i (nI p) x3 x4 (nI (wst i w)) (nI (q - p)) s.1 s.2 Y) FU (1, 0) = some 1 ∧ isW X p q i (wst i w) (wst i (w + 1) - 1)) ∨ (gIter (fun s => X11_wordAmong_L56 i (nI p) x3 x4 (nI (wst i w)) (nI (q - p)) s.1 s.2 Y) FU (1, 0) = some 0 ∧ ¬ isW X p q i (wst i w) (wst i (w + 1) - 1)) := by
  have hl := w_l hi
  obtain ⟨h1, h2, h3, h4⟩ := w_w hi hw
  obtain ⟨e, g1, g2⟩ := gI1x_FU (step := fun s : Int32 × Int32 => X11_wordAmong_L56 i (nI p) x3 x4 (nI (wst i w)) (nI (q - p)) s.1 s.2 Y) (fun k (u : Int32) => (u, nI k)) (fun k u => (u = 1 ∧ ∀ j, j < k → gTc i (wst i w + j) = X.1 2 0 (p + j)) ∨ (u = 0 ∧ ¬ isW X p q i (wst i w) (wst i (w + 1) - 1))) (fun e => (e = 1 ∧ isW X p q i (wst i w) (wst i (w + 1) - 1)) ∨ (e = 0 ∧ ¬ isW X p q i (wst i w) (wst i (w + 1) - 1))) 0 (q - p) (by omega) (by omega)
    (fun k u hk hp => by
      rcases hp with ⟨rfl, hp⟩ | ⟨rfl, hp⟩
      · have un : X11_wordAmong_L56 i (nI p) x3 x4 (nI (wst i w)) (nI (q - p)) 1 (nI k) Y = if gTc i (wst i w + k) = X.1 2 0 (p + k) then some (.inl (1, nI (k + 1))) else some (.inl (0, nI (k + 1))) := by
          unfold X11_wordAmong_L56
          rw [if_neg (nI_ge hk (by omega)), if_neg (show ¬ (1 : Int32) = 0 by decide), nI_add, nI_add, hl.1, gG_t (gin_n (k := wst i w + k) (by omega) (by omega)), gG_t (gin_n (k := p + k) (by omega) (by decide)), nI_clamp (n := wst i w + k) (by omega), nI_clamp (n := p + k) (by omega), hm (p + k) (by omega) (by omega)]
          simp only [gLet_e, nI_1]
        by_cases c : gTc i (wst i w + k) = X.1 2 0 (p + k)
        · refine Or.inl ⟨1, ?_, Or.inl ⟨rfl, fun j hj => ?_⟩⟩
          · show X11_wordAmong_L56 i (nI p) x3 x4 (nI (wst i w)) (nI (q - p)) 1 (nI k) Y = _
            rw [un, if_pos c]
          · by_cases e : j = k
            · rw [e]
              exact c
            · exact hp j (by omega)
        · refine Or.inl ⟨0, ?_, Or.inr ⟨rfl, fun z => c (z.2 k hk)⟩⟩
          show X11_wordAmong_L56 i (nI p) x3 x4 (nI (wst i w)) (nI (q - p)) 1 (nI k) Y = _
          rw [un, if_neg c]
      · refine Or.inr ⟨0, ?_, Or.inr ⟨rfl, hp⟩⟩
        show X11_wordAmong_L56 i (nI p) x3 x4 (nI (wst i w)) (nI (q - p)) 0 (nI k) Y = _
        unfold X11_wordAmong_L56
        rw [if_neg (nI_ge hk (by omega)), if_pos rfl])
    (fun u hp => ⟨u, by
      show X11_wordAmong_L56 i (nI p) x3 x4 (nI (wst i w)) (nI (q - p)) u (nI (q - p)) Y = _
      unfold X11_wordAmong_L56
      rw [if_pos (nI_le (Nat.le_refl _) (by omega))], by
      rcases hp with ⟨rfl, hp⟩ | ⟨rfl, hp⟩
      · exact Or.inl ⟨rfl, by omega, hp⟩
      · exact Or.inr ⟨rfl, hp⟩⟩) 1 (Or.inl ⟨rfl, fun j hj => absurd hj (by omega)⟩)
  have g1 : gIter (fun s => X11_wordAmong_L56 i (nI p) x3 x4 (nI (wst i w)) (nI (q - p)) s.1 s.2 Y) FU (1, 0) = some e := g1
  rcases g2 with ⟨rfl, g2⟩ | ⟨rfl, g2⟩
  · exact Or.inl ⟨g1, g2⟩
  · exact Or.inr ⟨g1, g2⟩
theorem x11_find (hi : i = 0 ∨ i = 1) (hpq : p ≤ q) (hq : q ≤ 480) (hm : ∀ c, p ≤ c → c < q → Y.1 51 0 c = X.1 2 0 c) : ∃ r, X11_wordAmong i (nI p) (nI q) Y = some r ∧ FW X p q i r := by
  have hl := w_l hi
  obtain ⟨r, g1, z, z1, z2⟩ := gI1x_FU (step := fun s : Int32 × Int32 => X11_wordAmong_L6 i (nI p) (nI q) s.1 s.2 Y) (fun w (_ : Unit) => (nI w, nI (wst i w))) (fun w _ => ∀ v, v < w → ¬ isW X p q i (wst i v) (wst i (v + 1) - 1)) (fun r => ∃ z, FW X p q i z ∧ (r = .inl z ∨ (r = .inr () ∧ z = -1))) 0 (wnum i) (by omega) (by omega)
    (fun w _ hw hp => by
      obtain ⟨h1, h2, h3, h4⟩ := w_w hi hw
      have head : ∀ o, X11_wordAmong_L6 i (nI p) (nI q) (nI w) (nI (wst i w)) Y = o ↔ (if nI (wst i (w + 1) - 1 - wst i w) = (nI q - nI p) then (gIter (fun s => X11_wordAmong_L56 i (nI p) (nI q) (nI w) (nI (wst i w)) (nI (wst i (w + 1) - 1 - wst i w)) s.1 s.2 Y) FU (1, 0)).bind (fun x7_18 => (if x7_18 = 0 then some (.inl (nI (w + 1), nI (wst i (w + 1)))) else some (.inr (.inl (nI w))))) else (gIter (fun s => X11_wordAmong_L56 i (nI p) (nI q) (nI w) (nI (wst i w)) (nI (wst i (w + 1) - 1 - wst i w)) s.1 s.2 Y) FU (0, 0)).bind (fun x7_14 => (if x7_14 = 0 then some (.inl (nI (w + 1), nI (wst i (w + 1)))) else some (.inr (.inl (nI w)))))) = o := fun o => by
        unfold X11_wordAmong_L6
        rw [hl.2.1, if_neg (nI_ge (by omega) (by omega)), x11_l18 hi hw, bind_e]
        simp only [gLet_e, nI_1, nI_add]
        rw [show wst i w + (wst i (w + 1) - 1 - wst i w + 1) = wst i (w + 1) by omega]
      by_cases hlen : wst i (w + 1) - 1 - wst i w = q - p
      · have cnd : nI (wst i (w + 1) - 1 - wst i w) = (nI q - nI p) := by rw [hlen, nI_sub hpq]
        rcases x11_l56 (X := X) hi hw hpq hq hm hlen (nI q) (nI w) with ⟨y1, y2⟩ | ⟨y1, y2⟩
        · refine Or.inr ⟨.inl (nI w), ?_, nI w, Or.inl ⟨w, hw, rfl, y2, hp⟩, Or.inl rfl⟩
          refine (head _).mpr ?_
          rw [if_pos cnd, hlen, y1, bind_e, if_neg (show ¬ (1 : Int32) = 0 by decide)]
        · refine Or.inl ⟨(), (head _).mpr ?_, fun v hv => ?_⟩
          · rw [if_pos cnd, hlen, y1, bind_e, if_pos rfl]
          · by_cases e : v = w
            · rw [e]
              exact y2
            · exact hp v (by omega)
      · have cnd : ¬ nI (wst i (w + 1) - 1 - wst i w) = (nI q - nI p) := by
          rw [nI_sub hpq]
          exact fun z => hlen (nI_inj (by omega) (by omega) z)
        have y1 : gIter (fun s => X11_wordAmong_L56 i (nI p) (nI q) (nI w) (nI (wst i w)) (nI (wst i (w + 1) - 1 - wst i w)) s.1 s.2 Y) FU (0, 0) = some 0 := by
          apply FU5
          refine gIt_x ?_
          show X11_wordAmong_L56 i (nI p) (nI q) (nI w) (nI (wst i w)) (nI (wst i (w + 1) - 1 - wst i w)) 0 (nI 0) Y = _
          unfold X11_wordAmong_L56
          rw [if_neg (nI_ge (by omega) (by omega)), if_pos rfl]
        refine Or.inl ⟨(), (head _).mpr ?_, fun v hv => ?_⟩
        · rw [if_neg cnd, y1, bind_e, if_pos rfl]
        · by_cases e : v = w
          · rw [e]
            exact fun z => hlen z.1
          · exact hp v (by omega))
    (fun _ hp => ⟨.inr (), by
      show X11_wordAmong_L6 i (nI p) (nI q) (nI (wnum i)) (nI (wst i (wnum i))) Y = _
      unfold X11_wordAmong_L6
      rw [hl.2.1, hl.2.2.2.2.2.2.2, if_pos (nI_le (Nat.le_refl _) (by omega))], -1, Or.inr ⟨rfl, hp⟩, Or.inr ⟨rfl, rfl⟩⟩) () (fun v hv => absurd hv (by omega))
  have g1 : gIter (fun s : Int32 × Int32 => X11_wordAmong_L6 i (nI p) (nI q) s.1 s.2 Y) FU (nI 0, nI (wst i 0)) = some r := g1
  rw [hl.2.2.2.2.2.2.1] at g1
  have g1 : gIter (fun s : Int32 × Int32 => X11_wordAmong_L6 i (nI p) (nI q) s.1 s.2 Y) FU (0, 0) = some r := g1
  refine ⟨z, ?_, z1⟩
  unfold X11_wordAmong
  rw [g1, bind_e]
  rcases z2 with rfl | ⟨rfl, rfl⟩ <;> rfl
theorem FW.b {r : Int32} (h : FW X p q i r) : r = -1 ∨ ∃ w, w < wnum i ∧ r = nI w := by
  rcases h with ⟨w, h1, h2, -⟩ | ⟨h1, -⟩
  · exact Or.inr ⟨w, h1, h2⟩
  · exact Or.inl h1
/-- a word is read on both sides -/
theorem j_wordR (hi : i = 0 ∨ i = 1) (h : RP L p X Y) : ∃ r s q X' Y', X3_readWord i X = some (r, X') ∧ X11_word i Y = some (r, Y') ∧ p ≤ s ∧ s ≤ q ∧ RP L q X' Y' ∧ X'.1 3 0 3 = nI s ∧ Y'.1 50 0 5 = nI s ∧ (r = -1 ∨ ∃ w, w < wnum i ∧ r = nI w) ∧ (∀ c, by8 X' c = by8 X c) ∧ XO S23 X X' ∧ YO (fun c => c = 3 ∨ c = 5) Y Y' := by
  have hL := h.1.1
  obtain ⟨s, X1, Y1, a1, a2, a3, a4, a5, a6, a7, a8, a9⟩ := j_skip h
  have hr1 : RP L s X1 (wI Y1 50 0 5 (nI s)) := ⟨a4.1.of (fun _ _ _ _ => rfl) (fun a b c hc => w_n (by omega)), a4.2.1, by rw [w_n (by omega)]; exact a4.2.2.1, a4.2.2.2⟩
  obtain ⟨q, X2, Y2, b1, b2, b3, b4, b5, b6, b7, b8, b9⟩ := j_while (s1 := fun s => X3_readWord_L4 i s) (s2 := fun s => X11_word_L13 i s) (fun b => 97 ≤ b ∧ b ≤ 122) hr1
    (fun k x y hk hr hbx _ _ => by
      have hbk := hr.1.b hk
      have es : see L k x = nI (by8 x k) := if_pos hk
      have lt : ∀ c : Nat, c < 256 → (nI (by8 x k) < nI c ↔ by8 x k < c) := fun c hc => nI_ltI (by omega) (by omega)
      have gt : ∀ c : Nat, c < 256 → (nI c < nI (by8 x k) ↔ c < by8 x k) := fun c hc => nI_ltI (by omega) (by omega)
      have l97 := lt 97 (by omega)
      have g122 := gt 122 (by omega)
      have un1 : X3_readWord_L4 i x = if nI (by8 x k) < nI 97 then some (.inr x) else if nI 122 < nI (by8 x k) then some (.inr x) else some (.inl (wI x 3 0 2 (nI (k + 1)))) := by
        unfold X3_readWord_L4
        rw [hr.1.2.1, hr.2.1, if_neg (nI_ge hk (by omega)), gG_t (gin_n (k := k) (by omega) (by decide)), gG_t (gin_n (k := k) (by omega) (by decide)), nI_clamp (by omega), hbk.1, nI_1]
        rfl
      have un2 : X11_word_L13 i y = if nI (by8 x k) < nI 97 then some (.inr y) else if nI 122 < nI (by8 x k) then some (.inr y) else some (.inl (wI y 50 0 3 (nI (k + 1)))) := by
        unfold X11_word_L13 X11_isLetter
        rw [x11_here hr, bind_e, es, bind_e, hr.2.2.1, nI_1]
        show ((if nI (by8 x k) < nI 97 then some 0 else if nI 122 < nI (by8 x k) then some 0 else some 1).bind _) = _
        by_cases c1 : nI (by8 x k) < nI 97
        · rw [if_pos c1, if_pos c1, bind_e, if_pos rfl]
        · rw [if_neg c1, if_neg c1]
          by_cases c2 : nI 122 < nI (by8 x k)
          · rw [if_pos c2, if_pos c2, bind_e, if_pos rfl]
          · rw [if_neg c2, if_neg c2, bind_e, if_neg (show ¬ (1 : Int32) = 0 by decide), gLet_e]
      show (_ ∧ X3_readWord_L4 i x = _ ∧ X11_word_L13 i y = _) ∨ (_ ∧ X3_readWord_L4 i x = _ ∧ X11_word_L13 i y = _)
      rw [un1, un2, ← hbx k]
      by_cases c1 : nI (by8 x k) < nI 97
      · exact Or.inr ⟨fun z => by have := l97.mp c1; omega, by rw [if_pos c1], by rw [if_pos c1]⟩
      · by_cases c2 : nI 122 < nI (by8 x k)
        · exact Or.inr ⟨fun z => by have := g122.mp c2; omega, by rw [if_neg c1, if_pos c2], by rw [if_neg c1, if_pos c2]⟩
        · refine Or.inl ⟨⟨?_, ?_⟩, by rw [if_neg c1, if_neg c2], by rw [if_neg c1, if_neg c2]⟩
          · rcases Nat.lt_or_ge (by8 x k) 97 with z | z
            · exact absurd (l97.mpr z) c1
            · exact z
          · rcases Nat.lt_or_ge 122 (by8 x k) with z | z
            · exact absurd (g122.mpr z) c2
            · exact z)
    (fun x y hr => by
      have es : see L L x = -1 := if_neg (by omega)
      constructor
      · show X3_readWord_L4 i x = _
        unfold X3_readWord_L4
        rw [hr.1.2.1, hr.2.1, if_pos (nI_le (Nat.le_refl _) (by omega))]
      · show X11_word_L13 i y = _
        unfold X11_word_L13 X11_isLetter
        rw [x11_here hr, bind_e, es, if_pos (by decide), bind_e, if_pos rfl])
  have x3 : X2.1 3 0 3 = nI s := by rw [b6.2 3 0 3 (by omega)]; exact a5
  have y5 : Y2.1 50 0 5 = nI s := by rw [b7.2 50 0 5 (by omega), w_e]
  have hqL := b4.2.2.2
  have hb21 : ∀ c, by8 X2 c = by8 X1 c := b5
  obtain ⟨r, f1, f2⟩ := x3_find (X := X2) hi b1 (by omega) b4.2.1 x3
  obtain ⟨r', g1, g2⟩ := x11_find (X := X2) (Y := Y2) hi b1 (by omega) (fun c c1 c2 => by
    have hc := b8 c c1 c2
    rw [(b4.1.b (show c < L by omega)).1]
    exact b4.1.m (by omega) (by rw [hb21 c]; omega))
  have er := FW.u f2 g2
  subst er
  refine ⟨r, s, q, X2, Y2, ?_, ?_, a1, b1, b4, x3, y5, f2.b, fun c => by rw [hb21 c, a6 c], a7.tr (b6.mono fun c hc => Or.inl hc), ((a8.mono (S' := fun c => c = 3 ∨ c = 5) fun c hc => Or.inl hc).tr (YO.w (Or.inr rfl))).tr (b7.mono fun c hc => Or.inl hc)⟩
  · unfold X3_readWord
    rw [a2, bind_e, b2, bind_e, f1]
  · unfold X11_word
    rw [a3, bind_e, gU2_e, gLet_e, a4.2.2.1, b3, bind_e, y5, b4.2.2.1, g1]
    rfl
end WE
