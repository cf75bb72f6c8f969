/-! the scene's draft -/
def RG (a b : Nat) (v : Int32) : Prop := ∃ k, a ≤ k ∧ k ≤ b ∧ v = nI k
def cx (j : Nat) (X : gM) : Int32 := if j < 5 then X.1 5 0 j else X.1 6 0 (j - 5)
noncomputable def wX (j : Nat) (v : Int32) (X : gM) : gM := if j < 5 then wI X 5 0 j v else wI X 6 0 (j - 5) v
def okr (j : Nat) (v : Int32) : Prop := (j < 2 → RG 1 8 v) ∧ (j = 2 → RG 2 4 v) ∧ (j = 3 → v = 1 ∨ v = 2 ∨ v = 4) ∧ (5 ≤ j → rvl (j - 5) v)
/-- rules, on both sides -/
def DRr (X Y : gM) : Prop := ∀ j, j < 9 → cx j X = Y.1 52 1 j ∧ okr j (cx j X)
/-- a triangle, on both sides -/
def TRd (t : Nat) (X Y : gM) : Prop := (∀ c, c < 3 → (X.1 11 0 (6 * t + 2 * c) = Y.1 52 3 (12 * t + 3 * c) ∧ -99 ≤ (X.1 11 0 (6 * t + 2 * c)).toInt ∧ (X.1 11 0 (6 * t + 2 * c)).toInt ≤ 160) ∧ (X.1 11 0 (6 * t + 2 * c + 1) = Y.1 52 3 (12 * t + 3 * c + 1) ∧ -99 ≤ (X.1 11 0 (6 * t + 2 * c + 1)).toInt ∧ (X.1 11 0 (6 * t + 2 * c + 1)).toInt ≤ 160) ∧ (X.1 10 0 (3 * t + c) = Y.1 52 3 (12 * t + 3 * c + 2) ∧ 0 ≤ (X.1 10 0 (3 * t + c)).toInt ∧ (X.1 10 0 (3 * t + c)).toInt ≤ 999)) ∧ X.1 8 0 t = Y.1 52 3 (12 * t + 9) ∧ (X.1 9 0 t = Y.1 52 3 (12 * t + 10) ∧ RG 1 8 (X.1 9 0 t)) ∧ (X.1 7 0 t = Y.1 52 3 (12 * t + 11) ∧ RG 0 3 (X.1 7 0 t))
def DRt (n : Nat) (X Y : gM) : Prop := n ≤ 10 ∧ X.1 5 0 5 = nI n ∧ Y.1 50 0 15 = nI n ∧ ∀ t, t < n → TRd t X Y
section DF
variable {n j j' w t : Nat} {X Y X' Y' : gM} {v : Int32}
theorem RG.of {a b : Nat} (hb : b < 1000) (h1 : (a : Int) ≤ v.toInt) (h2 : v.toInt ≤ (b : Int)) : RG a b v := ⟨v.toInt.toNat, by omega, by omega, Int32.toInt_inj.mp (by rw [nI_toInt (by omega)]; omega)⟩
theorem cx_w (hj : j < 9) (hj' : j' < 9) : cx j' (wX j v X) = if j' = j then v else cx j' X := by
  unfold cx wX
  by_cases h1 : j < 5
  · rw [if_pos h1]
    by_cases h2 : j' < 5
    · rw [if_pos h2, if_pos h2]
      by_cases e : j' = j
      · rw [if_pos e, e, w_e]
      · rw [if_neg e, w_n (by omega)]
    · rw [if_neg h2, if_neg h2, w_n (by omega), if_neg (by omega)]
  · rw [if_neg h1]
    by_cases h2 : j' < 5
    · rw [if_pos h2, if_pos h2, w_n (by omega), if_neg (by omega)]
    · rw [if_neg h2, if_neg h2]
      by_cases e : j' = j
      · rw [if_pos e, e, w_e]
      · rw [if_neg e, w_n (by omega)]
theorem wX_n (hj : j < 9) {a b c : Nat} (h : ¬ (a = 5 ∧ b = 0 ∧ c < 5) ∧ ¬ (a = 6 ∧ b = 0)) : (wX j v X).1 a b c = X.1 a b c := by
  unfold wX
  by_cases h1 : j < 5
  · rw [if_pos h1, w_n (by omega)]
  · rw [if_neg h1, w_n (by omega)]
theorem wX_2 : (wX j v X).2 = X.2 := by
  unfold wX
  split <;> rfl
theorem DRr.up (h : DRr X Y) (hj : j < 9) (ho : okr j v) : DRr (wX j v X) (wI Y 52 1 j v) := fun j' hj' => by
  rw [cx_w hj hj']
  by_cases e : j' = j
  · rw [if_pos e, e, w_e]
    exact ⟨rfl, ho⟩
  · rw [if_neg e, w_n (by omega)]
    exact h j' hj'
theorem DRr.of (h : DRr X Y) (gx : ∀ a b c, a = 5 ∧ c < 5 ∨ a = 6 → X'.1 a b c = X.1 a b c) (gy : ∀ c, Y'.1 52 1 c = Y.1 52 1 c) : DRr X' Y' := fun j hj => by
  have e : cx j X' = cx j X := by
    unfold cx
    split
    · exact gx 5 0 j (by omega)
    · exact gx 6 0 _ (by omega)
  rw [e, gy]
  exact h j hj
theorem TRd.of (h : TRd t X Y) (gx : ∀ a b c, 7 ≤ a ∧ a ≤ 11 → X'.1 a b c = X.1 a b c) (gy : ∀ c, Y'.1 52 3 c = Y.1 52 3 c) : TRd t X' Y' := by
  unfold TRd
  simp only [gy, gx 7 0 _ (by omega), gx 8 0 _ (by omega), gx 9 0 _ (by omega), gx 10 0 _ (by omega), gx 11 0 _ (by omega)]
  exact h
theorem DRt.of (h : DRt n X Y) (gx : ∀ a b c, (7 ≤ a ∧ a ≤ 11) ∨ (a = 5 ∧ b = 0 ∧ c = 5) → X'.1 a b c = X.1 a b c) (gy : ∀ a b c, (a = 52 ∧ b = 3) ∨ (a = 50 ∧ b = 0 ∧ c = 15) → Y'.1 a b c = Y.1 a b c) : DRt n X' Y' :=
  ⟨h.1, by rw [gx 5 0 5 (by omega)]; exact h.2.1, by rw [gy 50 0 15 (by omega)]; exact h.2.2.1, fun t ht => (h.2.2.2 t ht).of (fun a b c hc => gx a b c (by omega)) (fun c => gy 52 3 c (by omega))⟩
theorem x4_take1 (hw : 1 ≤ w ∧ w ≤ 7) (p2 : Int32) : X4_take 0 (nI w) p2 X = some (wX (w + 1) (X.1 4 0 0) X) := by
  unfold X4_take
  rcases (show w = 1 ∨ w = 2 ∨ w = 3 ∨ w = 4 ∨ w = 5 ∨ w = 6 ∨ w = 7 by omega) with rfl | rfl | rfl | rfl | rfl | rfl | rfl
  · rw [if_neg (by decide), if_pos (by decide)]; rfl
  · rw [if_neg (by decide), if_neg (by decide), if_pos (by decide)]; rfl
  · rw [if_neg (by decide), if_neg (by decide), if_neg (by decide), if_pos (by decide)]; rfl
  · rw [if_neg (by decide), if_neg (by decide), if_neg (by decide), if_neg (by decide), if_pos (by decide)]; rfl
  · rw [if_neg (by decide), if_neg (by decide), if_neg (by decide), if_neg (by decide), if_neg (by decide), if_pos (by decide)]; rfl
  · rw [if_neg (by decide), if_neg (by decide), if_neg (by decide), if_neg (by decide), if_neg (by decide), if_neg (by decide), if_pos (by decide)]; rfl
  · rw [if_neg (by decide), if_neg (by decide), if_neg (by decide), if_neg (by decide), if_neg (by decide), if_neg (by decide), if_neg (by decide), if_pos (by decide)]; rfl
theorem x4_take0 (p2 : Int32) : X4_take 0 (nI 0) p2 X = some (wX 1 (X.1 4 0 1) (wX 0 (X.1 4 0 0) X)) := by
  unfold X4_take
  rw [if_pos (by decide), gLet_e, gLet_e, w_n (by omega)]
  rfl
theorem ok_w (hw : 1 ≤ w ∧ w ≤ 7) (h2 : w ≠ 2) (h : rlo2 2 (offS w) 0 ≤ v ∧ v ≤ rhi2 2 (offS w) 0) : okr (w + 1) v := by
  have g1 := Int32.le_iff_toInt_le.mp h.1
  have g2 := Int32.le_iff_toInt_le.mp h.2
  unfold okr
  rcases (show w = 1 ∨ w = 3 ∨ w = 4 ∨ w = 5 ∨ w = 6 ∨ w = 7 by omega) with rfl | rfl | rfl | rfl | rfl | rfl
  · exact ⟨fun z => absurd z (by omega), fun _ => RG.of (by omega) g1 g2, fun z => absurd z (by omega), fun z => absurd z (by omega)⟩
  · exact ⟨fun z => absurd z (by omega), fun z => absurd z (by omega), fun z => absurd z (by omega), fun z => absurd z (by omega)⟩
  · exact ⟨fun z => absurd z (by omega), fun z => absurd z (by omega), fun z => absurd z (by omega), fun _ => rvl_of (by omega) ⟨g1, g2⟩⟩
  · exact ⟨fun z => absurd z (by omega), fun z => absurd z (by omega), fun z => absurd z (by omega), fun _ => rvl_of (by omega) ⟨g1, g2⟩⟩
  · exact ⟨fun z => absurd z (by omega), fun z => absurd z (by omega), fun z => absurd z (by omega), fun _ => rvl_of (by omega) ⟨g1, g2⟩⟩
  · exact ⟨fun z => absurd z (by omega), fun z => absurd z (by omega), fun z => absurd z (by omega), fun _ => rvl_of (by omega) ⟨g1, g2⟩⟩
end DF
