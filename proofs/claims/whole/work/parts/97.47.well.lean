/-! which numbers are well -/
def cntS (r : Nat) : Nat := [2, 1, 1, 1, 1, 1, 1, 1, 11, 11, 11, 11].getD r 0
def offS (r : Nat) : Nat := [0, 2, 3, 4, 5, 6, 7, 8, 9, 9, 9, 9].getD r 0
def offT (r : Nat) : Nat := [0, 1, 2, 2, 2, 3, 4, 5, 6].getD r 0
section WL
variable {v : Int32} {M : gM} {k : Nat}
theorem inw {lo hi : Int64} {l h : Int32} (e1 : lo.toInt = l.toInt) (e2 : hi.toInt = h.toInt) (v : Int32) (M : gM) : (X11_isIn v.toInt64 lo hi M).bind (fun r => gG (gb r) (some r)) = some (if l ≤ v ∧ v ≤ h then 1 else 0) := by
  rw [x11_isIn, bind_e, e1, e2]
  by_cases c : l.toInt ≤ v.toInt ∧ v.toInt ≤ h.toInt
  · rw [if_pos c, if_pos ⟨Int32.le_iff_toInt_le.mpr c.1, Int32.le_iff_toInt_le.mpr c.2⟩]
    rfl
  · rw [if_neg c, if_neg (fun z => c ⟨Int32.le_iff_toInt_le.mp z.1, Int32.le_iff_toInt_le.mp z.2⟩)]
    rfl
theorem inw2 {lo hi : Int64} {l h : Int32} (e1 : lo.toInt = l.toInt) (e2 : hi.toInt = h.toInt) (v : Int32) (M : gM) : ((X11_isIn v.toInt64 lo hi M).bind (fun r => gG (gb r) (some r))).bind (fun r => gG (gb r) (some r)) = some (if l ≤ v ∧ v ≤ h then 1 else 0) := by
  rw [inw e1 e2, bind_e]
  split <;> rfl
/-- the scene's words, but the third -/
theorem wellS {r : Nat} (hr : r < 12) (h2 : r ≠ 2) (hk : k < cntS r) (v : Int32) (M : gM) : X11_isWell 1 (nI r) (nI k) v M = some (if rlo2 2 (offS r) k ≤ v ∧ v ≤ rhi2 2 (offS r) k then 1 else 0) := by
  unfold X11_isWell X11_isWellOfScene
  rw [if_neg (show ¬ (1 : Int32) = 0 by decide)]
  rcases (show r = 0 ∨ r = 1 ∨ r = 3 ∨ r = 4 ∨ r = 5 ∨ r = 6 ∨ r = 7 ∨ (8 ≤ r ∧ r ≤ 11) by omega) with rfl | rfl | rfl | rfl | rfl | rfl | rfl | ⟨h8, h11⟩
  · rw [if_pos (show nI 0 < (8 : Int32) by decide), if_pos (show nI 0 = (0 : Int32) from rfl)]
    rcases (show k = 0 ∨ k = 1 by have : cntS 0 = 2 := rfl; omega) with rfl | rfl <;> exact inw2 rfl rfl v M
  · have : k = 0 := by have : cntS 1 = 1 := rfl; omega
    subst this
    rw [if_pos (show nI 1 < (8 : Int32) by decide), if_neg (show ¬ nI 1 = (0 : Int32) by decide), if_pos (show nI 1 = (1 : Int32) from rfl)]
    exact inw2 rfl rfl v M
  · have : k = 0 := by have : cntS 3 = 1 := rfl; omega
    subst this
    rw [if_pos (show nI 3 < (8 : Int32) by decide), if_neg (show ¬ nI 3 = (0 : Int32) by decide), if_neg (show ¬ nI 3 = (1 : Int32) by decide), if_neg (show ¬ nI 3 = (2 : Int32) by decide), if_pos (show nI 3 = (3 : Int32) from rfl)]
    exact inw2 rfl rfl v M
  · have : k = 0 := by have : cntS 4 = 1 := rfl; omega
    subst this
    rw [if_pos (show nI 4 < (8 : Int32) by decide), if_neg (show ¬ nI 4 = (0 : Int32) by decide), if_neg (show ¬ nI 4 = (1 : Int32) by decide), if_neg (show ¬ nI 4 = (2 : Int32) by decide), if_neg (show ¬ nI 4 = (3 : Int32) by decide), if_pos (show nI 4 = (4 : Int32) from rfl)]
    exact inw2 rfl rfl v M
  · have : k = 0 := by have : cntS 5 = 1 := rfl; omega
    subst this
    rw [if_pos (show nI 5 < (8 : Int32) by decide), if_neg (show ¬ nI 5 = (0 : Int32) by decide), if_neg (show ¬ nI 5 = (1 : Int32) by decide), if_neg (show ¬ nI 5 = (2 : Int32) by decide), if_neg (show ¬ nI 5 = (3 : Int32) by decide), if_neg (show ¬ nI 5 = (4 : Int32) by decide), if_pos (show nI 5 = (5 : Int32) from rfl)]
    exact inw2 rfl rfl v M
  · have : k = 0 := by have : cntS 6 = 1 := rfl; omega
    subst this
    rw [if_pos (show nI 6 < (8 : Int32) by decide), if_neg (show ¬ nI 6 = (0 : Int32) by decide), if_neg (show ¬ nI 6 = (1 : Int32) by decide), if_neg (show ¬ nI 6 = (2 : Int32) by decide), if_neg (show ¬ nI 6 = (3 : Int32) by decide), if_neg (show ¬ nI 6 = (4 : Int32) by decide), if_neg (show ¬ nI 6 = (5 : Int32) by decide), if_pos (show nI 6 = (6 : Int32) from rfl)]
    exact inw2 rfl rfl v M
  · have : k = 0 := by have : cntS 7 = 1 := rfl; omega
    subst this
    rw [if_pos (show nI 7 < (8 : Int32) by decide), if_neg (show ¬ nI 7 = (0 : Int32) by decide), if_neg (show ¬ nI 7 = (1 : Int32) by decide), if_neg (show ¬ nI 7 = (2 : Int32) by decide), if_neg (show ¬ nI 7 = (3 : Int32) by decide), if_neg (show ¬ nI 7 = (4 : Int32) by decide), if_neg (show ¬ nI 7 = (5 : Int32) by decide), if_neg (show ¬ nI 7 = (6 : Int32) by decide), if_pos (show nI 7 = (7 : Int32) from rfl)]
    exact inw2 rfl rfl v M
  · have hc : cntS r = 11 ∧ offS r = 9 := by
      rcases (show r = 8 ∨ r = 9 ∨ r = 10 ∨ r = 11 by omega) with rfl | rfl | rfl | rfl <;> exact ⟨rfl, rfl⟩
    rw [hc.2, if_neg (show ¬ nI r < (8 : Int32) from fun z => by have := (nI_ltI (a := r) (b := 8) (by omega) (by decide)).mp z; omega)]
    rcases (show k = 0 ∨ k = 1 ∨ k = 2 ∨ k = 3 ∨ k = 4 ∨ k = 5 ∨ k = 6 ∨ k = 7 ∨ k = 8 ∨ k = 9 ∨ k = 10 by omega) with rfl | rfl | rfl | rfl | rfl | rfl | rfl | rfl | rfl | rfl | rfl
    · rw [if_neg (show ¬ nI 0 = (10 : Int32) by decide), if_neg (show ¬ nI 0 = (9 : Int32) by decide), if_neg (show ¬ gRem (nI 0) 3 = 2 by decide)]
      exact inw2 (by decide) (by decide) v M
    · rw [if_neg (show ¬ nI 1 = (10 : Int32) by decide), if_neg (show ¬ nI 1 = (9 : Int32) by decide), if_neg (show ¬ gRem (nI 1) 3 = 2 by decide)]
      exact inw2 (by decide) (by decide) v M
    · rw [if_neg (show ¬ nI 2 = (10 : Int32) by decide), if_neg (show ¬ nI 2 = (9 : Int32) by decide), if_pos (show gRem (nI 2) 3 = 2 by decide)]
      exact inw2 (by decide) (by decide) v M
    · rw [if_neg (show ¬ nI 3 = (10 : Int32) by decide), if_neg (show ¬ nI 3 = (9 : Int32) by decide), if_neg (show ¬ gRem (nI 3) 3 = 2 by decide)]
      exact inw2 (by decide) (by decide) v M
    · rw [if_neg (show ¬ nI 4 = (10 : Int32) by decide), if_neg (show ¬ nI 4 = (9 : Int32) by decide), if_neg (show ¬ gRem (nI 4) 3 = 2 by decide)]
      exact inw2 (by decide) (by decide) v M
    · rw [if_neg (show ¬ nI 5 = (10 : Int32) by decide), if_neg (show ¬ nI 5 = (9 : Int32) by decide), if_pos (show gRem (nI 5) 3 = 2 by decide)]
      exact inw2 (by decide) (by decide) v M
    · rw [if_neg (show ¬ nI 6 = (10 : Int32) by decide), if_neg (show ¬ nI 6 = (9 : Int32) by decide), if_neg (show ¬ gRem (nI 6) 3 = 2 by decide)]
      exact inw2 (by decide) (by decide) v M
    · rw [if_neg (show ¬ nI 7 = (10 : Int32) by decide), if_neg (show ¬ nI 7 = (9 : Int32) by decide), if_neg (show ¬ gRem (nI 7) 3 = 2 by decide)]
      exact inw2 (by decide) (by decide) v M
    · rw [if_neg (show ¬ nI 8 = (10 : Int32) by decide), if_neg (show ¬ nI 8 = (9 : Int32) by decide), if_pos (show gRem (nI 8) 3 = 2 by decide)]
      exact inw2 (by decide) (by decide) v M
    · rw [if_neg (show ¬ nI 9 = (10 : Int32) by decide), if_pos (show nI 9 = (9 : Int32) from rfl)]
      exact inw2 (by decide) (by decide) v M
    · rw [if_pos (show nI 10 = (10 : Int32) from rfl)]
      exact inw2 (by decide) (by decide) v M
/-- the scripts' words -/
theorem wellT {r : Nat} (hr : r < 9) (hk : k < nst r) (v : Int32) (M : gM) : X11_isWell 0 (nI r) (nI k) v M = some (if rlo2 5 (offT r) k ≤ v ∧ v ≤ rhi2 5 (offT r) k then 1 else 0) := by
  unfold X11_isWell X11_isWellOfScript
  rw [if_pos (show (0 : Int32) = 0 from rfl)]
  rcases (show r = 0 ∨ r = 1 ∨ r = 2 ∨ r = 3 ∨ r = 4 ∨ r = 5 ∨ r = 6 ∨ r = 7 ∨ r = 8 by omega) with rfl | rfl | rfl | rfl | rfl | rfl | rfl | rfl | rfl
  · have : k = 0 := by have : nst 0 = 1 := rfl; omega
    subst this
    rw [if_pos (show nI 0 = (0 : Int32) from rfl)]
    exact inw2 (by decide) (by decide) v M
  · have : k = 0 := by have : nst 1 = 1 := rfl; omega
    subst this
    rw [if_neg (show ¬ nI 1 = (0 : Int32) by decide), if_pos (show nI 1 = (1 : Int32) from rfl)]
    exact inw2 (by decide) (by decide) v M
  · exact absurd hk (by have : nst 2 = 0 := rfl; omega)
  · exact absurd hk (by have : nst 3 = 0 := rfl; omega)
  · have : k = 0 := by have : nst 4 = 1 := rfl; omega
    subst this
    rw [if_neg (show ¬ nI 4 = (0 : Int32) by decide), if_neg (show ¬ nI 4 = (1 : Int32) by decide), if_neg (show ¬ nI 4 = (2 : Int32) by decide), if_neg (show ¬ nI 4 = (3 : Int32) by decide), if_pos (show nI 4 = (4 : Int32) from rfl)]
    exact inw2 (by decide) (by decide) v M
  · have : k = 0 := by have : nst 5 = 1 := rfl; omega
    subst this
    rw [if_neg (show ¬ nI 5 = (0 : Int32) by decide), if_neg (show ¬ nI 5 = (1 : Int32) by decide), if_neg (show ¬ nI 5 = (2 : Int32) by decide), if_neg (show ¬ nI 5 = (3 : Int32) by decide), if_neg (show ¬ nI 5 = (4 : Int32) by decide), if_pos (show nI 5 = (5 : Int32) from rfl)]
    exact inw2 (by decide) (by decide) v M
  · have : k = 0 := by have : nst 6 = 1 := rfl; omega
    subst this
    rw [if_neg (show ¬ nI 6 = (0 : Int32) by decide), if_neg (show ¬ nI 6 = (1 : Int32) by decide), if_neg (show ¬ nI 6 = (2 : Int32) by decide), if_neg (show ¬ nI 6 = (3 : Int32) by decide), if_neg (show ¬ nI 6 = (4 : Int32) by decide), if_neg (show ¬ nI 6 = (5 : Int32) by decide), if_pos (show nI 6 = (6 : Int32) from rfl)]
    exact inw2 (by decide) (by decide) v M
  · have : k = 0 := by have : nst 7 = 1 := rfl; omega
    subst this
    rw [if_neg (show ¬ nI 7 = (0 : Int32) by decide), if_neg (show ¬ nI 7 = (1 : Int32) by decide), if_neg (show ¬ nI 7 = (2 : Int32) by decide), if_neg (show ¬ nI 7 = (3 : Int32) by decide), if_neg (show ¬ nI 7 = (4 : Int32) by decide), if_neg (show ¬ nI 7 = (5 : Int32) by decide), if_neg (show ¬ nI 7 = (6 : Int32) by decide), if_pos (show nI 7 = (7 : Int32) from rfl)]
    exact inw2 (by decide) (by decide) v M
  · rw [if_neg (show ¬ nI 8 = (0 : Int32) by decide), if_neg (show ¬ nI 8 = (1 : Int32) by decide), if_neg (show ¬ nI 8 = (2 : Int32) by decide), if_neg (show ¬ nI 8 = (3 : Int32) by decide), if_neg (show ¬ nI 8 = (4 : Int32) by decide), if_neg (show ¬ nI 8 = (5 : Int32) by decide), if_neg (show ¬ nI 8 = (6 : Int32) by decide), if_neg (show ¬ nI 8 = (7 : Int32) by decide), if_pos (show nI 8 = (8 : Int32) from rfl)]
    rcases (show k = 0 ∨ k = 1 ∨ k = 2 ∨ k = 3 by have : nst 8 = 4 := rfl; omega) with rfl | rfl | rfl | rfl
    · rw [if_pos (show nI 0 = (0 : Int32) from rfl)]
      exact inw2 (by decide) (by decide) v M
    · rw [if_neg (show ¬ nI 1 = (0 : Int32) by decide), if_pos (show nI 1 = (1 : Int32) from rfl)]
      exact inw2 (by decide) (by decide) v M
    · rw [if_neg (show ¬ nI 2 = (0 : Int32) by decide), if_neg (show ¬ nI 2 = (1 : Int32) by decide)]
      exact inw2 (by decide) (by decide) v M
    · rw [if_neg (show ¬ nI 3 = (0 : Int32) by decide), if_neg (show ¬ nI 3 = (1 : Int32) by decide)]
      exact inw2 (by decide) (by decide) v M
end WL
