/-! words -/
theorem gI1x_FU {σ ε β : Type} {step : σ → Option (σ ⊕ ε)} (mk : Nat → β → σ) (P : Nat → β → Prop) (K : ε → Prop) (a b : Nat) (hab : a ≤ b) (hb : b < 5000)
    (hs : ∀ k x, k < b → P k x → (∃ x', step (mk k x) = some (.inl (mk (k + 1) x')) ∧ P (k + 1) x') ∨ ∃ e, step (mk k x) = some (.inr e) ∧ K e) (he : ∀ x, P b x → ∃ e, step (mk b x) = some (.inr e) ∧ K e) (x : β) (hp : P a x) : ∃ e, gIter step FU (mk a x) = some e ∧ K e := by
  obtain ⟨e, d, h1, h2, rfl, h4⟩ := gI2x_FU (s1 := step) (s2 := step) mk mk (fun k x y => x = y ∧ P k x) (fun e d => e = d ∧ K e) a b hab hb
    (fun k x y hk hR => by
      obtain ⟨rfl, hp⟩ := hR
      rcases hs k x hk hp with ⟨x', g1, g2⟩ | ⟨e, g1, g2⟩
      · exact Or.inl ⟨x', x', g1, g1, rfl, g2⟩
      · exact Or.inr ⟨e, e, g1, g1, rfl, g2⟩)
    (fun x y hR => by
      obtain ⟨rfl, hp⟩ := hR
      obtain ⟨e, g1, g2⟩ := he x hp
      exact ⟨e, e, g1, g1, rfl, g2⟩) x x ⟨rfl, hp⟩
  exact ⟨e, h1, h4⟩
def wnum (i : Nat) : Nat := if i = 0 then 12 else 9
def wlen (i : Nat) : Nat := if i = 0 then 61 else 46
def wst (i w : Nat) : Nat := if i = 0 then [0, 5, 10, 15, 20, 25, 30, 35, 40, 45, 51, 56, 61].getD w 0 else [0, 5, 11, 15, 21, 26, 31, 36, 41, 46].getD w 0
/-- which word a place belongs to -/
def win (i k : Nat) : Nat := ((List.range k).filter fun j => decide (gTc i j = 32)).length
def wck (i k : Nat) : Bool := if gTc i k = 32 then decide (wst i (win i k + 1) = k + 1) && (decide (win i (k + 1) = win i k + 1) && decide (wst i (win i k) ≤ k)) else decide (win i (k + 1) = win i k)
def wck2 (i w : Nat) : Bool := decide (wst i w + 1 < wst i (w + 1)) && (decide (wst i (w + 1) ≤ wlen i) && (decide (gTc i (wst i (w + 1) - 1) = 32) && (List.range (wst i (w + 1) - 1 - wst i w)).all fun j => decide (¬ gTc i (wst i w + j) = 32)))
theorem wck_0 : ((List.range 61).all fun k => wck 0 k) = true := by decide +kernel
theorem wck_1 : ((List.range 46).all fun k => wck 1 k) = true := by decide +kernel
theorem wck2_0 : ((List.range 12).all fun w => wck2 0 w) = true := by decide +kernel
theorem wck2_1 : ((List.range 9).all fun w => wck2 1 w) = true := by decide +kernel
theorem win_e : win 0 61 = 12 ∧ win 1 46 = 9 := by decide +kernel
section WD
variable {L p q k i w : Nat} {X Y X' Y' M : gM}
theorem w_k (hi : i = 0 ∨ i = 1) (hk : k < wlen i) : (gTc i k = 32 → wst i (win i k + 1) = k + 1 ∧ win i (k + 1) = win i k + 1 ∧ wst i (win i k) ≤ k) ∧ (¬ gTc i k = 32 → win i (k + 1) = win i k) := by
  have h : wck i k = true := by
    rcases hi with rfl | rfl
    · exact List.all_eq_true.mp wck_0 k (List.mem_range.mpr hk)
    · exact List.all_eq_true.mp wck_1 k (List.mem_range.mpr hk)
  unfold wck at h
  refine ⟨fun e => ?_, fun e => ?_⟩
  · rw [if_pos e] at h
    have h1 := (Bool.and_eq_true _ _).mp h
    have h2 := (Bool.and_eq_true _ _).mp h1.2
    exact ⟨of_decide_eq_true h1.1, of_decide_eq_true h2.1, of_decide_eq_true h2.2⟩
  · rw [if_neg e] at h
    exact of_decide_eq_true h
theorem w_w (hi : i = 0 ∨ i = 1) (hw : w < wnum i) : wst i w + 1 < wst i (w + 1) ∧ wst i (w + 1) ≤ wlen i ∧ gTc i (wst i (w + 1) - 1) = 32 ∧ ∀ j, j < wst i (w + 1) - 1 - wst i w → ¬ gTc i (wst i w + j) = 32 := by
  have h : wck2 i w = true := by
    rcases hi with rfl | rfl
    · exact List.all_eq_true.mp wck2_0 w (List.mem_range.mpr hw)
    · exact List.all_eq_true.mp wck2_1 w (List.mem_range.mpr hw)
  have h1 := (Bool.and_eq_true _ _).mp h
  have h2 := (Bool.and_eq_true _ _).mp h1.2
  have h3 := (Bool.and_eq_true _ _).mp h2.2
  exact ⟨of_decide_eq_true h1.1, of_decide_eq_true h2.1, of_decide_eq_true h3.1, fun j hj => of_decide_eq_true (List.all_eq_true.mp h3.2 j (List.mem_range.mpr hj))⟩
theorem w_l (hi : i = 0 ∨ i = 1) : (gTx i).length = wlen i ∧ gTl i = nI (wlen i) ∧ win i (wlen i) = wnum i ∧ wlen i ≤ 61 ∧ wnum i ≤ 12 ∧ win i 0 = 0 ∧ wst i 0 = 0 ∧ wst i (wnum i) = wlen i := by
  rcases hi with rfl | rfl
  · exact ⟨rfl, rfl, win_e.1, by decide, by decide, rfl, rfl, rfl⟩
  · exact ⟨rfl, rfl, win_e.2, by decide, by decide, rfl, rfl, rfl⟩
/-- the token from p to q is the word of the text from s to e -/
def isW (X : gM) (p q i s e : Nat) : Prop := e - s = q - p ∧ ∀ j, j < q - p → gTc i (s + j) = X.1 2 0 (p + j)
/-- the class compares -/
theorem x3_isW (hi : i = 0 ∨ i = 1) {s e : Nat} (hse : s ≤ e) (he : e ≤ wlen i) (hpq : p ≤ q) (hq : q ≤ 480) (e2 : X.1 3 0 2 = nI q) (e3 : X.1 3 0 3 = nI p) : (X3_isWord i (nI s) (nI e) X = some 1 ∧ isW X p q i s e) ∨ (X3_isWord i (nI s) (nI e) X = some 0 ∧ ¬ isW X p q i s e) := by
  have hl := w_l hi
  unfold X3_isWord
  rw [e2, e3, nI_sub hse, nI_sub hpq]
  by_cases hlen : e - s = q - p
  · rw [if_pos (by rw [hlen])]
    obtain ⟨r, g1, g2⟩ := gI1x_FU (step := fun z => X3_isWord_L20 i (nI s) (nI e) z X) (fun k (_ : Unit) => nI k) (fun k _ => s ≤ k ∧ ∀ j, j < k - s → gTc i (s + j) = X.1 2 0 (p + j)) (fun r => (r = .inl () ∧ ¬ isW X p q i s e) ∨ (r = .inr () ∧ isW X p q i s e)) s e hse (by omega)
      (fun k _ hk hp => by
        have ep : (nI p + nI k) - nI s = nI (p + (k - s)) := by rw [nI_add, nI_sub (by omega), show p + k - s = p + (k - s) by omega]
        have un : X3_isWord_L20 i (nI s) (nI e) (nI k) X = if gTc i k = X.1 2 0 (p + (k - s)) then some (.inl (nI (k + 1))) else some (.inr (.inl ())) := by
          unfold X3_isWord_L20
          rw [if_neg (nI_ge hk (by omega)), hl.1, gG_t (gin_n (k := k) (by omega) (by omega)), e3, ep, gG_t (gin_n (k := p + (k - s)) (by omega) (by decide)), nI_clamp (n := k) (by omega), nI_clamp (n := p + (k - s)) (by omega)]
          simp only [gLet_e, nI_1]
        by_cases c : gTc i k = X.1 2 0 (p + (k - s))
        · refine Or.inl ⟨(), ?_, by omega, fun j hj => ?_⟩
          · show X3_isWord_L20 i (nI s) (nI e) (nI k) X = _
            rw [un, if_pos c]
          · by_cases ej : j = k - s
            · rw [ej, show s + (k - s) = k by omega]
              exact c
            · exact hp.2 j (by omega)
        · refine Or.inr ⟨.inl (), ?_, Or.inl ⟨rfl, fun z => c ?_⟩⟩
          · show X3_isWord_L20 i (nI s) (nI e) (nI k) X = _
            rw [un, if_neg c]
          · have := z.2 (k - s) (by omega)
            rw [show s + (k - s) = k by omega] at this
            exact this)
      (fun _ hp => ⟨.inr (), by
        show X3_isWord_L20 i (nI s) (nI e) (nI e) X = _
        unfold X3_isWord_L20
        rw [if_pos (nI_le (Nat.le_refl _) (by omega))], Or.inr ⟨rfl, hlen, fun j hj => hp.2 j (by omega)⟩⟩) () ⟨Nat.le_refl _, fun j hj => absurd hj (by omega)⟩
    have g1 : gIter (fun z => X3_isWord_L20 i (nI s) (nI e) z X) FU (nI s) = some r := g1
    rw [g1, bind_e]
    rcases g2 with ⟨rfl, g2⟩ | ⟨rfl, g2⟩
    · exact Or.inr ⟨rfl, g2⟩
    · exact Or.inl ⟨rfl, g2⟩
  · rw [if_neg (fun z => hlen (nI_inj (by omega) (by omega) z))]
    exact Or.inr ⟨rfl, fun z => hlen z.1⟩
/-- the word found: the first that is the token -/
def FW (X : gM) (p q i : Nat) (r : Int32) : Prop := (∃ w, w < wnum i ∧ r = nI w ∧ isW X p q i (wst i w) (wst i (w + 1) - 1) ∧ ∀ v, v < w → ¬ isW X p q i (wst i v) (wst i (v + 1) - 1)) ∨ (r = -1 ∧ ∀ v, v < wnum i → ¬ isW X p q i (wst i v) (wst i (v + 1) - 1))
theorem FW.u {r r' : Int32} (h : FW X p q i r) (h' : FW X p q i r') : r = r' := by
  rcases h with ⟨w, h1, h2, h3, h4⟩ | ⟨h1, h2⟩
  · rcases h' with ⟨w', g1, g2, g3, g4⟩ | ⟨g1, g2⟩
    · have e : w = w' := by
        rcases Nat.lt_trichotomy w w' with z | z | z
        · exact absurd h3 (g4 w z)
        · exact z
        · exact absurd g3 (h4 w' z)
      rw [h2, g2, e]
    · exact absurd h3 (g2 w h1)
  · rcases h' with ⟨w', g1, g2, g3, g4⟩ | ⟨g1, g2⟩
    · exact absurd g3 (h2 w' g1)
    · rw [h1, g1]
theorem x3_find (hi : i = 0 ∨ i = 1) (hpq : p ≤ q) (hq : q ≤ 480) (e2 : X.1 3 0 2 = nI q) (e3 : X.1 3 0 3 = nI p) : ∃ r, (gIter (fun s => X3_readWord_L72 i s.1 s.2.1 s.2.2 X) FU (0, 0, 0)).bind (gS2 (fun x2_20 => some (x2_20, X)) (fun _ => some ((-1), X))) = some (r, X) ∧ FW X p q i r := by
  have hl := w_l hi
  obtain ⟨r, g1, g2⟩ := gI1x_FU (step := fun s : Int32 × Int32 × Int32 => X3_readWord_L72 i s.1 s.2.1 s.2.2 X) (fun k (_ : Unit) => (nI (win i k), nI (wst i (win i k)), nI k)) (fun k _ => win i k ≤ wnum i ∧ wst i (win i k) ≤ k ∧ ∀ v, v < win i k → ¬ isW X p q i (wst i v) (wst i (v + 1) - 1)) (fun r => ∃ z, FW X p q i z ∧ (r = .inl z ∨ (r = .inr () ∧ z = -1))) 0 (wlen i) (by omega) (by omega)
    (fun k _ hk hp => by
      obtain ⟨p1, p2, p3⟩ := hp
      have wk := w_k hi hk
      by_cases c : gTc i k = 32
      · obtain ⟨c1, c2, c3⟩ := wk.1 c
        have hwn : win i k < wnum i := by
          rcases Nat.lt_or_ge (win i k) (wnum i) with z | z
          · exact z
          · have e : win i k = wnum i := by omega
            rw [e, hl.2.2.2.2.2.2.2] at c3
            omega
        rcases x3_isW (s := wst i (win i k)) (e := k) hi c3 (by omega) hpq hq e2 e3 with ⟨y1, y2⟩ | ⟨y1, y2⟩
        · refine Or.inr ⟨.inl (nI (win i k)), ?_, nI (win i k), Or.inl ⟨win i k, hwn, rfl, by rw [c1]; exact y2, p3⟩, Or.inl rfl⟩
          show X3_readWord_L72 i (nI (win i k)) (nI (wst i (win i k))) (nI k) X = _
          unfold X3_readWord_L72
          rw [hl.2.1, if_neg (nI_ge hk (by omega)), hl.1, gG_t (gin_n (k := k) (by omega) (by omega)), nI_clamp (n := k) (by omega), if_pos c, y1, bind_e, if_neg (show ¬ (1 : Int32) = 0 by decide)]
        · refine Or.inl ⟨(), ?_, by omega, by rw [c2, c1]; omega, fun v hv => ?_⟩
          · show X3_readWord_L72 i (nI (win i k)) (nI (wst i (win i k))) (nI k) X = some (.inl (nI (win i (k + 1)), nI (wst i (win i (k + 1))), nI (k + 1)))
            unfold X3_readWord_L72
            rw [hl.2.1, if_neg (nI_ge hk (by omega)), hl.1, gG_t (gin_n (k := k) (by omega) (by omega)), nI_clamp (n := k) (by omega), if_pos c, y1, bind_e, if_pos rfl, gLet_e, gLet_e, gLet_e, nI_1, nI_1, c2, c1]
          · rw [c2] at hv
            by_cases e : v = win i k
            · rw [e, c1]
              exact y2
            · exact p3 v (by omega)
      · have c2 := wk.2 c
        refine Or.inl ⟨(), ?_, by rw [c2]; exact p1, by rw [c2]; omega, fun v hv => p3 v (by rw [c2] at hv; exact hv)⟩
        show X3_readWord_L72 i (nI (win i k)) (nI (wst i (win i k))) (nI k) X = some (.inl (nI (win i (k + 1)), nI (wst i (win i (k + 1))), nI (k + 1)))
        unfold X3_readWord_L72
        rw [hl.2.1, if_neg (nI_ge hk (by omega)), hl.1, gG_t (gin_n (k := k) (by omega) (by omega)), nI_clamp (n := k) (by omega), if_neg c, gLet_e, nI_1, c2])
    (fun _ hp => ⟨.inr (), by
      show X3_readWord_L72 i (nI (win i (wlen i))) (nI (wst i (win i (wlen i)))) (nI (wlen i)) X = _
      unfold X3_readWord_L72
      rw [hl.2.1, if_pos (nI_le (Nat.le_refl _) (by omega))], -1, Or.inr ⟨rfl, fun v hv => hp.2.2 v (by rw [hl.2.2.1]; exact hv)⟩, Or.inr ⟨rfl, rfl⟩⟩) () ⟨by omega, by rw [hl.2.2.2.2.2.1, hl.2.2.2.2.2.2.1]; exact Nat.le_refl _, fun v hv => by rw [hl.2.2.2.2.2.1] at hv; exact absurd hv (by omega)⟩
  have g1 : gIter (fun s : Int32 × Int32 × Int32 => X3_readWord_L72 i s.1 s.2.1 s.2.2 X) FU (nI (win i 0), nI (wst i (win i 0)), nI 0) = some r := g1
  rw [hl.2.2.2.2.2.1, hl.2.2.2.2.2.2.1] at g1
  have g1 : gIter (fun s : Int32 × Int32 × Int32 => X3_readWord_L72 i s.1 s.2.1 s.2.2 X) FU (0, 0, 0) = some r := g1
  obtain ⟨z, z1, z2⟩ := g2
  refine ⟨z, ?_, z1⟩
  rw [g1, bind_e]
  rcases z2 with rfl | ⟨rfl, rfl⟩ <;> rfl
end WD
