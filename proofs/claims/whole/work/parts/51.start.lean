/-! behind the three constructors of the law the world is gXn 0 -/
def gSm (X : gX) : Prop := ∀ r i j, 40 ≤ j → X.2 r i j = none
theorem gSm.add {X : gX} {r i : Nat} (h : gSm X) : gSm (gXadd X r i) := fun r' i' j hj => by
  show (if r' = r ∧ i' = i then none else X.2 r' i' j) = none
  split
  · rfl
  · exact h r' i' j hj
theorem gSm.ref {X : gX} {r i j a : Nat} (h : gSm X) (hj : j < 40) : gSm (gXref X r i j a) := fun r' i' j' hj' => by
  show (if r' = r ∧ i' = i ∧ j' = j then some a else X.2 r' i' j') = none
  rw [if_neg (by omega)]
  exact h r' i' j' hj'
theorem gSm_e : gSm gXe := fun _ _ _ _ => rfl
theorem sm_xX8 {X : gX} (h : gSm X) : gSm (xX8 X) := (gSm.ref (gSm.add h) (by decide))
theorem sm_xX3 {X : gX} (h : gSm X) : gSm (xX3 X) := (gSm.ref (gSm.add (gSm.ref h (by decide))) (by decide))
theorem sm_xX5 {X : gX} {i : Nat} (h : gSm X) : gSm (xX5 X i) := (gSm.ref (gSm.add h) (by decide))
theorem sm_xX1 {X : gX} (h : gSm X) : gSm (xX1 X) := (gSm.ref (gSm.add (gSm.ref (gSm.add (gSm.ref (gSm.add (gSm.ref (gSm.add h) (by decide))) (by decide))) (by decide))) (by decide))
theorem sm_xX2 {X : gX} (h : gSm X) : gSm (xX2 X) := (gSm.ref (gSm.add h) (by decide))
theorem sm_xX6 {X : gX} {i : Nat} (h : gSm X) : gSm (xX6 X i) := (gSm.ref (gSm.add (gSm.ref (gSm.add (gSm.ref (gSm.add (gSm.ref (gSm.add (gSm.ref (gSm.add (gSm.ref (gSm.add (gSm.ref (gSm.add (gSm.ref (gSm.add h) (by decide))) (by decide))) (by decide))) (by decide))) (by decide))) (by decide))) (by decide))) (by decide))
theorem sm_xX0 {X : gX} {i : Nat} (h : gSm X) : gSm (xX0 X i) := (gSm.ref (gSm.add (gSm.ref (gSm.add (gSm.ref (gSm.add (gSm.ref (gSm.add (gSm.ref (gSm.add (gSm.ref (gSm.add (gSm.ref (gSm.add (gSm.ref (gSm.add (gSm.ref (gSm.add h) (by decide))) (by decide))) (by decide))) (by decide))) (by decide))) (by decide))) (by decide))) (by decide))) (by decide))
theorem sm_xX4 {X : gX} {i : Nat} (h : gSm X) : gSm (xX4 X i) := (gSm.ref (gSm.add (gSm.ref (gSm.add (gSm.ref (gSm.add (gSm.ref (gSm.add (gSm.ref (gSm.add (gSm.ref (gSm.add h) (by decide))) (by decide))) (by decide))) (by decide))) (by decide))) (by decide))
theorem sm_xX11 {X : gX} (h : gSm X) : gSm (xX11 X) := (gSm.ref (gSm.add (gSm.ref (gSm.add (gSm.ref (gSm.add (gSm.ref (gSm.add (gSm.ref (gSm.add (gSm.ref (gSm.add (gSm.ref (gSm.add (gSm.ref (gSm.add (gSm.ref (gSm.add (gSm.ref (gSm.add (gSm.ref (gSm.add (gSm.ref (gSm.add (gSm.ref (gSm.add (gSm.ref (gSm.add (gSm.ref (gSm.add (gSm.ref (gSm.add (gSm.ref (gSm.add (gSm.ref (gSm.add (gSm.ref (gSm.add (gSm.ref (gSm.add (gSm.ref (gSm.add h) (by decide))) (by decide))) (by decide))) (by decide))) (by decide))) (by decide))) (by decide))) (by decide))) (by decide))) (by decide))) (by decide))) (by decide))) (by decide))) (by decide))) (by decide))) (by decide))) (by decide))) (by decide))) (by decide))) (by decide))) (by decide))
theorem sm0 : gSm cx0 := (gSm.add gSm_e)
theorem sm1 : gSm cx1 := (gSm.add sm0)
theorem sm2 : gSm cx2 := (sm_xX8 sm1)
theorem sm3 : gSm cx3 := (gSm.ref sm2 (by decide))
theorem sm4 : gSm cx4 := (gSm.add sm3)
theorem sm5 : gSm cx5 := (sm_xX3 sm4)
theorem sm6 : gSm cx6 := (gSm.ref sm5 (by decide))
theorem sm7 : gSm cx7 := (gSm.add sm6)
theorem sm8 : gSm cx8 := (sm_xX4 sm7)
theorem sm9 : gSm cx9 := (gSm.ref sm8 (by decide))
theorem sm10 : gSm cx10 := (gSm.add sm9)
theorem sm11 : gSm cx11 := (sm_xX4 sm10)
theorem sm12 : gSm cx12 := (gSm.ref sm11 (by decide))
theorem sm13 : gSm cx13 := (gSm.add sm12)
theorem sm14 : gSm cx14 := (sm_xX1 sm13)
theorem sm15 : gSm cx15 := (gSm.ref sm14 (by decide))
theorem sm16 : gSm cx16 := (gSm.add sm15)
theorem sm17 : gSm cx17 := (gSm.ref sm16 (by decide))
theorem sm18 : gSm cx18 := (gSm.ref sm17 (by decide))
theorem sm19 : gSm cx19 := (gSm.add sm18)
theorem sm20 : gSm cx20 := (gSm.ref sm19 (by decide))
theorem sm21 : gSm cx21 := (gSm.add sm20)
theorem sm22 : gSm cx22 := (sm_xX6 sm21)
theorem sm23 : gSm cx23 := (gSm.ref sm22 (by decide))
theorem sm24 : gSm cx24 := (gSm.add sm23)
theorem sm25 : gSm cx25 := (sm_xX6 sm24)
theorem sm26 : gSm cx26 := (gSm.ref sm25 (by decide))
theorem sm27 : gSm cx27 := (gSm.add sm26)
theorem sm28 : gSm cx28 := (sm_xX6 sm27)
theorem sm29 : gSm cx29 := (gSm.ref sm28 (by decide))
theorem sm30 : gSm cx30 := (gSm.add sm29)
theorem sm31 : gSm cx31 := (sm_xX6 sm30)
theorem sm32 : gSm cx32 := (gSm.ref sm31 (by decide))
theorem sm33 : gSm cx33 := (gSm.add sm32)
theorem sm34 : gSm cx34 := (sm_xX6 sm33)
theorem sm35 : gSm cx35 := (gSm.ref sm34 (by decide))
theorem sm36 : gSm cx36 := (gSm.add sm35)
theorem sm37 : gSm cx37 := (sm_xX6 sm36)
theorem sm38 : gSm cx38 := (gSm.ref sm37 (by decide))
theorem sm39 : gSm cx39 := (gSm.add sm38)
theorem sm40 : gSm cx40 := (sm_xX6 sm39)
theorem sm41 : gSm cx41 := (gSm.ref sm40 (by decide))
theorem sm42 : gSm cx42 := (gSm.add sm41)
theorem sm43 : gSm cx43 := (sm_xX6 sm42)
theorem sm44 : gSm cx44 := (gSm.ref sm43 (by decide))
theorem sm45 : gSm cx45 := (gSm.add sm44)
theorem sm46 : gSm cx46 := (sm_xX6 sm45)
theorem sm47 : gSm cx47 := (gSm.ref sm46 (by decide))
theorem sm48 : gSm cx48 := (gSm.add sm47)
theorem sm49 : gSm cx49 := (sm_xX6 sm48)
theorem sm50 : gSm cx50 := (gSm.ref sm49 (by decide))
theorem sm51 : gSm cx51 := (gSm.ref sm50 (by decide))
theorem sm52 : gSm cx52 := (gSm.add sm51)
theorem sm53 : gSm cx53 := (gSm.ref sm52 (by decide))
theorem sm54 : gSm cx54 := (gSm.ref sm53 (by decide))
theorem sm55 : gSm cx55 := (gSm.ref sm54 (by decide))
theorem sm56 : gSm cx56 := (gSm.add sm55)
theorem sm57 : gSm cx57 := (gSm.ref sm56 (by decide))
theorem sm58 : gSm cx58 := (gSm.add sm57)
theorem sm59 : gSm cx59 := (gSm.ref sm58 (by decide))
theorem sm60 : gSm cx60 := (gSm.add sm59)
theorem sm61 : gSm cx61 := (gSm.ref sm60 (by decide))
theorem sm62 : gSm cx62 := (gSm.add sm61)
theorem sm63 : gSm cx63 := (sm_xX0 sm62)
theorem sm64 : gSm cx64 := (gSm.ref sm63 (by decide))
theorem sm65 : gSm cx65 := (gSm.add sm64)
theorem sm66 : gSm cx66 := (gSm.ref sm65 (by decide))
theorem sm67 : gSm cx67 := (gSm.ref sm66 (by decide))
theorem sm68 : gSm cx68 := (gSm.add sm67)
theorem sm69 : gSm cx69 := (sm_xX0 sm68)
theorem sm70 : gSm cx70 := (gSm.ref sm69 (by decide))
theorem sm71 : gSm cx71 := (gSm.add sm70)
theorem sm72 : gSm cx72 := (sm_xX0 sm71)
theorem sm73 : gSm cx73 := (gSm.ref sm72 (by decide))
theorem sm74 : gSm cx74 := (gSm.add sm73)
theorem sm75 : gSm cx75 := (sm_xX2 sm74)
theorem sm76 : gSm cx76 := (gSm.ref sm75 (by decide))
theorem sm77 : gSm cx77 := (gSm.add sm76)
theorem sm78 : gSm cx78 := (gSm.ref sm77 (by decide))
theorem sm79 : gSm cx79 := (gSm.add sm78)
theorem sm80 : gSm cx80 := (sm_xX5 sm79)
theorem sm81 : gSm cx81 := (gSm.ref sm80 (by decide))
theorem sm82 : gSm cx82 := (gSm.add sm81)
theorem sm83 : gSm cx83 := (sm_xX5 sm82)
theorem sm84 : gSm cx84 := (gSm.ref sm83 (by decide))
theorem sm85 : gSm cx85 := (gSm.add sm84)
theorem sm86 : gSm cx86 := (sm_xX5 sm85)
theorem sm87 : gSm cx87 := (gSm.ref sm86 (by decide))
theorem sm88 : gSm cx88 := (gSm.add sm87)
theorem sm89 : gSm cx89 := (sm_xX5 sm88)
theorem sm90 : gSm cx90 := (gSm.ref sm89 (by decide))
theorem sm91 : gSm cx91 := (gSm.add sm90)
theorem sm92 : gSm cx92 := (sm_xX5 sm91)
theorem sm93 : gSm cx93 := (gSm.ref sm92 (by decide))
theorem sm94 : gSm cx94 := (gSm.add sm93)
theorem sm95 : gSm cx95 := (gSm.ref sm94 (by decide))
theorem sm96 : gSm cx96 := (gSm.add sm95)
theorem sm97 : gSm cx97 := (gSm.ref sm96 (by decide))
def xL : gX := gXadd (xX11 (gXadd cx97 50 0)) 53 0
theorem smL : gSm xL := (sm_xX11 sm97.add).add
theorem xL_there : ∀ r, r < 54 → ∀ i, i < gCnt 0 r → xL.1 r i = true := by decide +kernel
theorem xL1 : ∀ r i, (gXn 0).1 r i = true → xL.1 r i = true := by
  intro r i h
  have hi := gXn_iff.mp h
  rcases Nat.lt_or_ge r 54 with hr | hr
  · exact xL_there r hr i hi
  · rw [gCnt_out hr] at hi
    omega
theorem gRf_big {r i j : Nat} (h : 40 ≤ j) : gRf 0 r i j = none := by
  unfold gRf
  have e1 : gRt j = none := by unfold gRt; split <;> first | omega | rfl
  have e2 : gRm j = none := by unfold gRm; split <;> first | omega | rfl
  have e3 : gRs j = none := by unfold gRs; split <;> first | omega | rfl
  have n9 : ¬ j < 9 := by omega
  have n0 : ¬ j = 0 := by omega
  have n1 : ¬ j = 1 := by omega
  have n2 : ¬ j = 2 := by omega
  have n10 : ¬ j < 10 := by omega
  have n5 : ¬ j < 5 := by omega
  have n00 : ¬ j < 0 := by omega
  have n13 : ¬ (6 ≤ j ∧ j < 13) := by omega
  have n12 : ¬ (6 ≤ j ∧ j < 12) := by omega
  have n11 : ¬ (7 ≤ j ∧ j < 11) := by omega
  simp only [e1, e2, e3, if_neg n9, if_neg n0, if_neg n1, if_neg n2, if_neg n10, if_neg n5, if_neg n00, if_neg n13, if_neg n12, if_neg n11, ite_self]
theorem xL_ref0 : ∀ r, r < 6 → 0 ≤ r → ∀ i, i < gCnt 0 r → ∀ j, j < 40 → gRf 0 r i j = xL.2 r i j := by decide +kernel
theorem xL_ref6 : ∀ r, r < 12 → 6 ≤ r → ∀ i, i < gCnt 0 r → ∀ j, j < 40 → gRf 0 r i j = xL.2 r i j := by decide +kernel
theorem xL_ref12 : ∀ r, r < 18 → 12 ≤ r → ∀ i, i < gCnt 0 r → ∀ j, j < 40 → gRf 0 r i j = xL.2 r i j := by decide +kernel
theorem xL_ref18 : ∀ r, r < 24 → 18 ≤ r → ∀ i, i < gCnt 0 r → ∀ j, j < 40 → gRf 0 r i j = xL.2 r i j := by decide +kernel
theorem xL_ref24 : ∀ r, r < 30 → 24 ≤ r → ∀ i, i < gCnt 0 r → ∀ j, j < 40 → gRf 0 r i j = xL.2 r i j := by decide +kernel
theorem xL_ref30 : ∀ r, r < 36 → 30 ≤ r → ∀ i, i < gCnt 0 r → ∀ j, j < 40 → gRf 0 r i j = xL.2 r i j := by decide +kernel
theorem xL_ref36 : ∀ r, r < 42 → 36 ≤ r → ∀ i, i < gCnt 0 r → ∀ j, j < 40 → gRf 0 r i j = xL.2 r i j := by decide +kernel
theorem xL_ref42 : ∀ r, r < 48 → 42 ≤ r → ∀ i, i < gCnt 0 r → ∀ j, j < 40 → gRf 0 r i j = xL.2 r i j := by decide +kernel
theorem xL_ref48 : ∀ r, r < 54 → 48 ≤ r → ∀ i, i < gCnt 0 r → ∀ j, j < 40 → gRf 0 r i j = xL.2 r i j := by decide +kernel
theorem xL2 : ∀ r i j, (gXn 0).1 r i = true → (gXn 0).2 r i j = xL.2 r i j := by
  intro r i j h
  have hi := gXn_iff.mp h
  show gRf 0 r i j = _
  rcases Nat.lt_or_ge j 40 with hj | hj
  · rcases Nat.lt_or_ge r 54 with hr | hr
    · rcases (show (r < 6 ∧ 0 ≤ r) ∨ (r < 12 ∧ 6 ≤ r) ∨ (r < 18 ∧ 12 ≤ r) ∨ (r < 24 ∧ 18 ≤ r) ∨ (r < 30 ∧ 24 ≤ r) ∨ (r < 36 ∧ 30 ≤ r) ∨ (r < 42 ∧ 36 ≤ r) ∨ (r < 48 ∧ 42 ≤ r) ∨ (r < 54 ∧ 48 ≤ r) by omega) with ⟨a, b⟩ | ⟨a, b⟩ | ⟨a, b⟩ | ⟨a, b⟩ | ⟨a, b⟩ | ⟨a, b⟩ | ⟨a, b⟩ | ⟨a, b⟩ | ⟨a, b⟩
      · exact xL_ref0 r a b i hi j hj
      · exact xL_ref6 r a b i hi j hj
      · exact xL_ref12 r a b i hi j hj
      · exact xL_ref18 r a b i hi j hj
      · exact xL_ref24 r a b i hi j hj
      · exact xL_ref30 r a b i hi j hj
      · exact xL_ref36 r a b i hi j hj
      · exact xL_ref42 r a b i hi j hj
      · exact xL_ref48 r a b i hi j hj
    · rw [gCnt_out hr] at hi
      omega
  · rw [gRf_big hj, smL r i j hj]
