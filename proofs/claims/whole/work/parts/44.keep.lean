theorem gCnt_out {nf r : Nat} (h : 54 ≤ r) : gCnt nf r = 0 := by
  unfold gCnt
  rw [if_neg (by omega)]
  rw [List.getD_eq_getElem?_getD, List.getElem?_eq_none (by simpa using h)]
  rfl
theorem gXn_iff {nf r i : Nat} : (gXn nf).1 r i = true ↔ i < gCnt nf r := by simp [gXn]
theorem gCnt_fr {nf r : Nat} (h1 : 33 ≤ r) (h2 : r < 43) : gCnt nf r = nf + 3 := if_pos ⟨h1, h2⟩
theorem gWF_n (nf : Nat) : gWF (gXn nf) := by
  refine ⟨fun r i j a hx e => ?_, fun r i hx => ?_⟩
  rotate_left
  · have hi := gXn_iff.mp hx
    rcases Nat.lt_or_ge r 54 with h | h
    · omega
    · rw [gCnt_out h] at hi
      omega
  have hi := gXn_iff.mp hx
  by_cases r33 : r = 33
  · subst r33
    rw [gCnt_fr (by decide) (by decide)] at hi
    have e' : (if j < 9 then some (gad (34 + j) i) else none) = some a := e
    split at e'
    · next hj => cases e'; exact ⟨_, _, rfl, gXn_iff.mpr (by rw [gCnt_fr (by omega) (by omega)]; exact hi)⟩
    · cases e'
  by_cases r19 : r = 19
  · subst r19
    have hi : i < 10 := hi
    have e' : (if j = 0 then some (gad 20 i) else if 6 ≤ j ∧ j < 13 then some (gad (15 + j) i) else none) = some a := e
    split at e'
    · cases e'; exact ⟨_, _, rfl, e20 hi⟩
    · split at e'
      · next hj =>
        cases e'
        refine ⟨_, _, rfl, ?_⟩
        rcases (show j = 6 ∨ j = 7 ∨ j = 8 ∨ j = 9 ∨ j = 10 ∨ j = 11 ∨ j = 12 by omega) with rfl | rfl | rfl | rfl | rfl | rfl | rfl
        · exact e21 hi
        · exact e22 hi
        · exact e23 hi
        · exact e24 hi
        · exact e25 hi
        · exact e26 hi
        · exact e27 hi
      · cases e'
  by_cases r5 : r = 5
  · subst r5
    have hi : i < 2 := hi
    have e' : (if 6 ≤ j ∧ j < 12 then some (gad j i) else none) = some a := e
    split at e'
    · next hj =>
      cases e'
      refine ⟨_, _, rfl, ?_⟩
      rcases (show j = 6 ∨ j = 7 ∨ j = 8 ∨ j = 9 ∨ j = 10 ∨ j = 11 by omega) with rfl | rfl | rfl | rfl | rfl | rfl
      · exact e6 hi
      · exact e7 hi
      · exact e8 hi
      · exact e9 hi
      · exact e10 hi
      · exact e11 hi
    · cases e'
  by_cases r0 : r = 0
  · subst r0
    have e' : gRt j = some a := e
    unfold gRt at e'
    split at e'
    · cases e'; exact ⟨_, _, rfl, e1 nf⟩
    · cases e'; exact ⟨_, _, rfl, e3 nf⟩
    · cases e'; exact ⟨_, _, rfl, e5 (by decide : 0 < 2)⟩
    · cases e'; exact ⟨_, _, rfl, e5 (by decide : 1 < 2)⟩
    · cases e'; exact ⟨_, _, rfl, e12 nf⟩
    · cases e'; exact ⟨_, _, rfl, e17 nf⟩
    · cases e'; exact ⟨_, _, rfl, e28 nf⟩
    · cases e'; exact ⟨33, 0, rfl, e33 (gf0 nf)⟩
    · cases e'; exact ⟨33, 1, rfl, e33 (gf1 nf)⟩
    · cases e'; exact ⟨_, _, rfl, e43 nf⟩
    · cases e'; exact ⟨_, _, rfl, e45 nf⟩
    · cases e'; exact ⟨_, _, rfl, e48 nf⟩
    · cases e'; exact ⟨_, _, rfl, e49 nf⟩
    · cases e'
  by_cases r50 : r = 50
  · subst r50
    have e' : gRm j = some a := e
    unfold gRm at e'
    split at e'
    · cases e'; exact ⟨_, _, rfl, e51 nf⟩
    · cases e'; exact ⟨52, 0, rfl, e52 (by decide)⟩
    · cases e'; exact ⟨52, 1, rfl, e52 (by decide)⟩
    · cases e'; exact ⟨52, 2, rfl, e52 (by decide)⟩
    · cases e'; exact ⟨52, 3, rfl, e52 (by decide)⟩
    · cases e'; exact ⟨52, 4, rfl, e52 (by decide)⟩
    · cases e'; exact ⟨52, 5, rfl, e52 (by decide)⟩
    · cases e'; exact ⟨52, 6, rfl, e52 (by decide)⟩
    · cases e'; exact ⟨52, 7, rfl, e52 (by decide)⟩
    · cases e'; exact ⟨52, 8, rfl, e52 (by decide)⟩
    · cases e'; exact ⟨52, 9, rfl, e52 (by decide)⟩
    · cases e'; exact ⟨52, 10, rfl, e52 (by decide)⟩
    · cases e'; exact ⟨52, 11, rfl, e52 (by decide)⟩
    · cases e'; exact ⟨52, 12, rfl, e52 (by decide)⟩
    · cases e'; exact ⟨52, 13, rfl, e52 (by decide)⟩
    · cases e'; exact ⟨52, 14, rfl, e52 (by decide)⟩
    · cases e'; exact ⟨52, 15, rfl, e52 (by decide)⟩
    · cases e'; exact ⟨52, 16, rfl, e52 (by decide)⟩
    · cases e'; exact ⟨52, 17, rfl, e52 (by decide)⟩
    · cases e'; exact ⟨52, 18, rfl, e52 (by decide)⟩
    · cases e'; exact ⟨52, 19, rfl, e52 (by decide)⟩
    · cases e'
  by_cases r1 : r = 1
  · subst r1
    have e' : (if j = 0 then some (gad 2 0) else none) = some a := e
    split at e'
    · next hj => cases e'; exact ⟨_, _, rfl, e2 nf⟩
    · cases e'
  by_cases r3 : r = 3
  · subst r3
    have e' : (if j = 0 then some (gad 1 0) else if j = 1 then some (gad 4 0) else none) = some a := e
    split at e'
    · cases e'; exact ⟨_, _, rfl, e1 nf⟩
    · split at e'
      · cases e'; exact ⟨_, _, rfl, e4 nf⟩
      · cases e'
  by_cases r12 : r = 12
  · subst r12
    have e' : (if 7 ≤ j ∧ j < 11 then some (gad (6 + j) 0) else none) = some a := e
    split at e'
    · next hj =>
      cases e'
      refine ⟨_, _, rfl, ?_⟩
      rcases (show j = 7 ∨ j = 8 ∨ j = 9 ∨ j = 10 by omega) with rfl | rfl | rfl | rfl
      · exact e13 nf
      · exact e14 nf
      · exact e15 nf
      · exact e16 nf
    · cases e'
  by_cases r17 : r = 17
  · subst r17
    have e' : (if j = 0 then some (gad 5 1) else if j = 1 then some (gad 12 0) else if j = 2 then some (gad 18 0) else none) = some a := e
    split at e'
    · cases e'; exact ⟨5, 1, rfl, e5 (by decide)⟩
    · split at e'
      · cases e'; exact ⟨_, _, rfl, e12 nf⟩
      · split at e'
        · cases e'; exact ⟨_, _, rfl, e18 nf⟩
        · cases e'
  by_cases r18 : r = 18
  · subst r18
    have e' : (if j < 10 then some (gad 19 j) else none) = some a := e
    split at e'
    · next hj => cases e'; exact ⟨_, _, rfl, e19 hj⟩
    · cases e'
  by_cases r28 : r = 28
  · subst r28
    have e' : gRs j = some a := e
    unfold gRs at e'
    split at e'
    · cases e'; exact ⟨5, 1, rfl, e5 (by decide)⟩
    · cases e'; exact ⟨_, _, rfl, e12 nf⟩
    · cases e'; exact ⟨_, _, rfl, e17 nf⟩
    · cases e'; exact ⟨_, _, rfl, e29 nf⟩
    · cases e'; exact ⟨_, _, rfl, e30 nf⟩
    · cases e'; exact ⟨_, _, rfl, e31 nf⟩
    · cases e'; exact ⟨33, 2, rfl, e33 (gf2 nf)⟩
    · cases e'; exact ⟨_, _, rfl, e32 nf⟩
    · cases e'
  by_cases r43 : r = 43
  · subst r43
    have e' : (if j = 0 then some (gad 44 0) else none) = some a := e
    split at e'
    · next hj => cases e'; exact ⟨_, _, rfl, e44 nf⟩
    · cases e'
  by_cases r44 : r = 44
  · subst r44
    have e' : (if j < nf then some (gad 33 (j + 3)) else none) = some a := e
    split at e'
    · next hj => cases e'; exact ⟨_, _, rfl, e33 (by omega)⟩
    · cases e'
  by_cases r45 : r = 45
  · subst r45
    have e' : (if j < 5 then some (gad 46 j) else none) = some a := e
    split at e'
    · next hj => cases e'; exact ⟨_, _, rfl, e46 hj⟩
    · cases e'
  by_cases r46 : r = 46
  · subst r46
    have hi : i < 5 := hi
    have e' : (if j = 0 then some (gad 47 i) else none) = some a := e
    split at e'
    · next hj => cases e'; exact ⟨_, _, rfl, e47 hi⟩
    · cases e'
  have e' : gRf nf r i j = some a := e
  unfold gRf at e'
  rw [if_neg r33, if_neg r19, if_neg r5, if_neg r0, if_neg r50, if_neg r1, if_neg r3, if_neg r12, if_neg r17, if_neg r18, if_neg r28, if_neg r43, if_neg r44, if_neg r45, if_neg r46] at e'
  cases e'
theorem gWd.congr {D : va_G} {base : Nat} {ad : Nat → Nat} {cA : Nat → ClassId} {X X' : gX} {M : gM} {U : State} {H : Heap} (h : gWd D base ad cA X M U H) (h1 : ∀ r i, X'.1 r i = true → X.1 r i = true) (h2 : ∀ r i j, X'.1 r i = true → X'.2 r i j = X.2 r i j) : gWd D base ad cA X' M U H := by
  obtain ⟨g1, g2, g3, g4, g5, g6, g7⟩ := h
  refine ⟨g1, fun r i hx => ?_, fun r i r' i' hx hx' => g3 r i r' i' (h1 r i hx) (h1 r' i' hx'), fun r i hx => g4 r i (h1 r i hx), fun r i hx => g5 r i (h1 r i hx), g6, g7⟩
  have hg := g2 r i (h1 r i hx)
  have hfv : ∀ t k, gfv ad X' M r i t k = gfv ad X M r i t k := by
    intro t k
    unfold gfv
    rw [h2 r i k hx]
  unfold gAt at hg ⊢
  simp only [hfv]
  exact hg
theorem d_conv {Φ : gF} {l : Launch} {D : va_G} {base : Nat} {ad0 : Nat → Nat} {cc : ByteArray} {own : String} {nL fr lo mc ms : Nat} {mn : String} {cells slots : Nat} {ad : Nat → Nat} {cA : Nat → ClassId} {X X' : gX} {M : gM} {pc : Nat} {ls : List (Nat × Value)} {st : List Value} (Z : gD Φ l D base ad0 cc own nL fr lo mc ms mn) (h1 : ∀ r i, X'.1 r i = true → X.1 r i = true) (h2 : ∀ r i j, X'.1 r i = true → X'.2 r i j = X.2 r i j)
    (k : Φ cells slots ad cA X' M pc ls st) : Φ cells slots ad cA X M pc ls st := by
  obtain ⟨p, e, s, m, args, below, meth, c, Q, R, rfl, hx, hb, hml, hown, hts, hK, rfl, rfl, rfl, rfl, hmn⟩ := Z
  intro H locs lsA g1 g2 g3
  exact k H locs lsA g1 (g2.congr h1 h2) g3
