/-! what the Statement gives at the start: the tables, the texts, the classes -/
def fl1 : List Cond := flatC (Jvm.Cond.and given_1 narrow_1)
theorem fx0 : ∀ j, j < (gSt 0).length → fl1[12 + j]? = some (Cond.eq (.elem (.static (gSn 0).1 (gSn 0).2.1 (gSn 0).2.2) (.int (Int32.ofNat j))) (.int (gSv 0 j))) := by decide +kernel
theorem fa0 : (Cond.arrayOf (.static (gSn 0).1 (gSn 0).2.1 (gSn 0).2.2) .int) ∈ fl1 ∧ (Cond.eq (.length (.static (gSn 0).1 (gSn 0).2.1 (gSn 0).2.2)) (.int (Int32.ofNat (gSt 0).length))) ∈ fl1 ∧ ∀ j, j < (gSt 0).length → (Cond.eq (.elem (.static (gSn 0).1 (gSn 0).2.1 (gSn 0).2.2) (.int (Int32.ofNat j))) (.int (gSv 0 j))) ∈ fl1 := ⟨List.mem_of_getElem? (i := 10) (by decide +kernel), List.mem_of_getElem? (i := 11) (by decide +kernel), fun j hj => List.mem_of_getElem? (fx0 j hj)⟩
theorem fs0 : (Cond.laysStatic (gSn 0).1 (gSn 0).2.1 (gSn 0).2.2) ∈ lw_tbl ∧ (Cond.initialized (gSn 0).1) ∈ lw_tbl := by decide +kernel
theorem fx1 : ∀ j, j < (gSt 1).length → fl1[70 + j]? = some (Cond.eq (.elem (.static (gSn 1).1 (gSn 1).2.1 (gSn 1).2.2) (.int (Int32.ofNat j))) (.int (gSv 1 j))) := by decide +kernel
theorem fa1 : (Cond.arrayOf (.static (gSn 1).1 (gSn 1).2.1 (gSn 1).2.2) .int) ∈ fl1 ∧ (Cond.eq (.length (.static (gSn 1).1 (gSn 1).2.1 (gSn 1).2.2)) (.int (Int32.ofNat (gSt 1).length))) ∈ fl1 ∧ ∀ j, j < (gSt 1).length → (Cond.eq (.elem (.static (gSn 1).1 (gSn 1).2.1 (gSn 1).2.2) (.int (Int32.ofNat j))) (.int (gSv 1 j))) ∈ fl1 := ⟨List.mem_of_getElem? (i := 68) (by decide +kernel), List.mem_of_getElem? (i := 69) (by decide +kernel), fun j hj => List.mem_of_getElem? (fx1 j hj)⟩
theorem fs1 : (Cond.laysStatic (gSn 1).1 (gSn 1).2.1 (gSn 1).2.2) ∈ lw_tbl ∧ (Cond.initialized (gSn 1).1) ∈ lw_tbl := by decide +kernel
theorem fx2 : ∀ j, j < (gSt 2).length → fl1[27 + j]? = some (Cond.eq (.elem (.static (gSn 2).1 (gSn 2).2.1 (gSn 2).2.2) (.int (Int32.ofNat j))) (.int (gSv 2 j))) := by decide +kernel
theorem fa2 : (Cond.arrayOf (.static (gSn 2).1 (gSn 2).2.1 (gSn 2).2.2) .int) ∈ fl1 ∧ (Cond.eq (.length (.static (gSn 2).1 (gSn 2).2.1 (gSn 2).2.2)) (.int (Int32.ofNat (gSt 2).length))) ∈ fl1 ∧ ∀ j, j < (gSt 2).length → (Cond.eq (.elem (.static (gSn 2).1 (gSn 2).2.1 (gSn 2).2.2) (.int (Int32.ofNat j))) (.int (gSv 2 j))) ∈ fl1 := ⟨List.mem_of_getElem? (i := 25) (by decide +kernel), List.mem_of_getElem? (i := 26) (by decide +kernel), fun j hj => List.mem_of_getElem? (fx2 j hj)⟩
theorem fs2 : (Cond.laysStatic (gSn 2).1 (gSn 2).2.1 (gSn 2).2.2) ∈ lw_tbl ∧ (Cond.initialized (gSn 2).1) ∈ lw_tbl := by decide +kernel
theorem fx3 : ∀ j, j < (gSt 3).length → fl1[85 + j]? = some (Cond.eq (.elem (.static (gSn 3).1 (gSn 3).2.1 (gSn 3).2.2) (.int (Int32.ofNat j))) (.int (gSv 3 j))) := by decide +kernel
theorem fa3 : (Cond.arrayOf (.static (gSn 3).1 (gSn 3).2.1 (gSn 3).2.2) .int) ∈ fl1 ∧ (Cond.eq (.length (.static (gSn 3).1 (gSn 3).2.1 (gSn 3).2.2)) (.int (Int32.ofNat (gSt 3).length))) ∈ fl1 ∧ ∀ j, j < (gSt 3).length → (Cond.eq (.elem (.static (gSn 3).1 (gSn 3).2.1 (gSn 3).2.2) (.int (Int32.ofNat j))) (.int (gSv 3 j))) ∈ fl1 := ⟨List.mem_of_getElem? (i := 83) (by decide +kernel), List.mem_of_getElem? (i := 84) (by decide +kernel), fun j hj => List.mem_of_getElem? (fx3 j hj)⟩
theorem fs3 : (Cond.laysStatic (gSn 3).1 (gSn 3).2.1 (gSn 3).2.2) ∈ lw_tbl ∧ (Cond.initialized (gSn 3).1) ∈ lw_tbl := by decide +kernel
theorem fx4 : ∀ j, j < (gSt 4).length → fl1[120 + j]? = some (Cond.eq (.elem (.static (gSn 4).1 (gSn 4).2.1 (gSn 4).2.2) (.int (Int32.ofNat j))) (.int (gSv 4 j))) := by decide +kernel
theorem fa4 : (Cond.arrayOf (.static (gSn 4).1 (gSn 4).2.1 (gSn 4).2.2) .int) ∈ fl1 ∧ (Cond.eq (.length (.static (gSn 4).1 (gSn 4).2.1 (gSn 4).2.2)) (.int (Int32.ofNat (gSt 4).length))) ∈ fl1 ∧ ∀ j, j < (gSt 4).length → (Cond.eq (.elem (.static (gSn 4).1 (gSn 4).2.1 (gSn 4).2.2) (.int (Int32.ofNat j))) (.int (gSv 4 j))) ∈ fl1 := ⟨List.mem_of_getElem? (i := 118) (by decide +kernel), List.mem_of_getElem? (i := 119) (by decide +kernel), fun j hj => List.mem_of_getElem? (fx4 j hj)⟩
theorem fs4 : (Cond.laysStatic (gSn 4).1 (gSn 4).2.1 (gSn 4).2.2) ∈ lw_tbl ∧ (Cond.initialized (gSn 4).1) ∈ lw_tbl := by decide +kernel
theorem fx5 : ∀ j, j < (gSt 5).length → fl1[97 + j]? = some (Cond.eq (.elem (.static (gSn 5).1 (gSn 5).2.1 (gSn 5).2.2) (.int (Int32.ofNat j))) (.int (gSv 5 j))) := by decide +kernel
theorem fa5 : (Cond.arrayOf (.static (gSn 5).1 (gSn 5).2.1 (gSn 5).2.2) .int) ∈ fl1 ∧ (Cond.eq (.length (.static (gSn 5).1 (gSn 5).2.1 (gSn 5).2.2)) (.int (Int32.ofNat (gSt 5).length))) ∈ fl1 ∧ ∀ j, j < (gSt 5).length → (Cond.eq (.elem (.static (gSn 5).1 (gSn 5).2.1 (gSn 5).2.2) (.int (Int32.ofNat j))) (.int (gSv 5 j))) ∈ fl1 := ⟨List.mem_of_getElem? (i := 95) (by decide +kernel), List.mem_of_getElem? (i := 96) (by decide +kernel), fun j hj => List.mem_of_getElem? (fx5 j hj)⟩
theorem fs5 : (Cond.laysStatic (gSn 5).1 (gSn 5).2.1 (gSn 5).2.2) ∈ lw_tbl ∧ (Cond.initialized (gSn 5).1) ∈ lw_tbl := by decide +kernel
theorem fx6 : ∀ j, j < (gSt 6).length → fl1[132 + j]? = some (Cond.eq (.elem (.static (gSn 6).1 (gSn 6).2.1 (gSn 6).2.2) (.int (Int32.ofNat j))) (.int (gSv 6 j))) := by decide +kernel
theorem fa6 : (Cond.arrayOf (.static (gSn 6).1 (gSn 6).2.1 (gSn 6).2.2) .int) ∈ fl1 ∧ (Cond.eq (.length (.static (gSn 6).1 (gSn 6).2.1 (gSn 6).2.2)) (.int (Int32.ofNat (gSt 6).length))) ∈ fl1 ∧ ∀ j, j < (gSt 6).length → (Cond.eq (.elem (.static (gSn 6).1 (gSn 6).2.1 (gSn 6).2.2) (.int (Int32.ofNat j))) (.int (gSv 6 j))) ∈ fl1 := ⟨List.mem_of_getElem? (i := 130) (by decide +kernel), List.mem_of_getElem? (i := 131) (by decide +kernel), fun j hj => List.mem_of_getElem? (fx6 j hj)⟩
theorem fs6 : (Cond.laysStatic (gSn 6).1 (gSn 6).2.1 (gSn 6).2.2) ∈ lw_tbl ∧ (Cond.initialized (gSn 6).1) ∈ lw_tbl := by decide +kernel
theorem fx7 : ∀ j, j < (gSt 7).length → fl1[142 + j]? = some (Cond.eq (.elem (.static (gSn 7).1 (gSn 7).2.1 (gSn 7).2.2) (.int (Int32.ofNat j))) (.int (gSv 7 j))) := by decide +kernel
theorem fa7 : (Cond.arrayOf (.static (gSn 7).1 (gSn 7).2.1 (gSn 7).2.2) .int) ∈ fl1 ∧ (Cond.eq (.length (.static (gSn 7).1 (gSn 7).2.1 (gSn 7).2.2)) (.int (Int32.ofNat (gSt 7).length))) ∈ fl1 ∧ ∀ j, j < (gSt 7).length → (Cond.eq (.elem (.static (gSn 7).1 (gSn 7).2.1 (gSn 7).2.2) (.int (Int32.ofNat j))) (.int (gSv 7 j))) ∈ fl1 := ⟨List.mem_of_getElem? (i := 140) (by decide +kernel), List.mem_of_getElem? (i := 141) (by decide +kernel), fun j hj => List.mem_of_getElem? (fx7 j hj)⟩
theorem fs7 : (Cond.laysStatic (gSn 7).1 (gSn 7).2.1 (gSn 7).2.2) ∈ lw_tbl ∧ (Cond.initialized (gSn 7).1) ∈ lw_tbl := by decide +kernel
theorem fx8 : ∀ j, j < (gSt 8).length → fl1[152 + j]? = some (Cond.eq (.elem (.static (gSn 8).1 (gSn 8).2.1 (gSn 8).2.2) (.int (Int32.ofNat j))) (.int (gSv 8 j))) := by decide +kernel
theorem fa8 : (Cond.arrayOf (.static (gSn 8).1 (gSn 8).2.1 (gSn 8).2.2) .int) ∈ fl1 ∧ (Cond.eq (.length (.static (gSn 8).1 (gSn 8).2.1 (gSn 8).2.2)) (.int (Int32.ofNat (gSt 8).length))) ∈ fl1 ∧ ∀ j, j < (gSt 8).length → (Cond.eq (.elem (.static (gSn 8).1 (gSn 8).2.1 (gSn 8).2.2) (.int (Int32.ofNat j))) (.int (gSv 8 j))) ∈ fl1 := ⟨List.mem_of_getElem? (i := 150) (by decide +kernel), List.mem_of_getElem? (i := 151) (by decide +kernel), fun j hj => List.mem_of_getElem? (fx8 j hj)⟩
theorem fs8 : (Cond.laysStatic (gSn 8).1 (gSn 8).2.1 (gSn 8).2.2) ∈ lw_tbl ∧ (Cond.initialized (gSn 8).1) ∈ lw_tbl := by decide +kernel
theorem fx9 : ∀ j, j < (gSt 9).length → fl1[159 + j]? = some (Cond.eq (.elem (.static (gSn 9).1 (gSn 9).2.1 (gSn 9).2.2) (.int (Int32.ofNat j))) (.int (gSv 9 j))) := by decide +kernel
theorem fa9 : (Cond.arrayOf (.static (gSn 9).1 (gSn 9).2.1 (gSn 9).2.2) .int) ∈ fl1 ∧ (Cond.eq (.length (.static (gSn 9).1 (gSn 9).2.1 (gSn 9).2.2)) (.int (Int32.ofNat (gSt 9).length))) ∈ fl1 ∧ ∀ j, j < (gSt 9).length → (Cond.eq (.elem (.static (gSn 9).1 (gSn 9).2.1 (gSn 9).2.2) (.int (Int32.ofNat j))) (.int (gSv 9 j))) ∈ fl1 := ⟨List.mem_of_getElem? (i := 157) (by decide +kernel), List.mem_of_getElem? (i := 158) (by decide +kernel), fun j hj => List.mem_of_getElem? (fx9 j hj)⟩
theorem fs9 : (Cond.laysStatic (gSn 9).1 (gSn 9).2.1 (gSn 9).2.2) ∈ lw_tbl ∧ (Cond.initialized (gSn 9).1) ∈ lw_tbl := by decide +kernel
theorem fy0 : ∀ j, j < (gTx 0).length → fl1[339 + j]? = some (Cond.eq (.elem (.field (Term.string "TileLightsModel" 174) "java/lang/String" "value" "[B") (.int (Int32.ofNat j))) (.int ((gTx 0).getD j 0))) := by decide +kernel
theorem ft0 : (Cond.exactly (Term.string "TileLightsModel" 174) "java/lang/String") ∈ fl1 ∧ (Cond.eq (.field (Term.string "TileLightsModel" 174) "java/lang/String" "coder" "B") (.int 0)) ∈ fl1 ∧ (Cond.arrayOf (.field (Term.string "TileLightsModel" 174) "java/lang/String" "value" "[B") .byte) ∈ fl1 ∧ (Cond.eq (.length (.field (Term.string "TileLightsModel" 174) "java/lang/String" "value" "[B")) (.int (Int32.ofNat (gTx 0).length))) ∈ fl1 ∧ ∀ j, j < (gTx 0).length → (Cond.eq (.elem (.field (Term.string "TileLightsModel" 174) "java/lang/String" "value" "[B") (.int (Int32.ofNat j))) (.int ((gTx 0).getD j 0))) ∈ fl1 := ⟨List.mem_of_getElem? (i := 335) (by decide +kernel), List.mem_of_getElem? (i := 336) (by decide +kernel), List.mem_of_getElem? (i := 337) (by decide +kernel), List.mem_of_getElem? (i := 338) (by decide +kernel), fun j hj => List.mem_of_getElem? (fy0 j hj)⟩
theorem fy1 : ∀ j, j < (gTx 1).length → fl1[406 + j]? = some (Cond.eq (.elem (.field (Term.string "TileLightsModel" 200) "java/lang/String" "value" "[B") (.int (Int32.ofNat j))) (.int ((gTx 1).getD j 0))) := by decide +kernel
theorem ft1 : (Cond.exactly (Term.string "TileLightsModel" 200) "java/lang/String") ∈ fl1 ∧ (Cond.eq (.field (Term.string "TileLightsModel" 200) "java/lang/String" "coder" "B") (.int 0)) ∈ fl1 ∧ (Cond.arrayOf (.field (Term.string "TileLightsModel" 200) "java/lang/String" "value" "[B") .byte) ∈ fl1 ∧ (Cond.eq (.length (.field (Term.string "TileLightsModel" 200) "java/lang/String" "value" "[B")) (.int (Int32.ofNat (gTx 1).length))) ∈ fl1 ∧ ∀ j, j < (gTx 1).length → (Cond.eq (.elem (.field (Term.string "TileLightsModel" 200) "java/lang/String" "value" "[B") (.int (Int32.ofNat j))) (.int ((gTx 1).getD j 0))) ∈ fl1 := ⟨List.mem_of_getElem? (i := 402) (by decide +kernel), List.mem_of_getElem? (i := 403) (by decide +kernel), List.mem_of_getElem? (i := 404) (by decide +kernel), List.mem_of_getElem? (i := 405) (by decide +kernel), fun j hj => List.mem_of_getElem? (fy1 j hj)⟩
theorem fe0 : (Cond.eq (Term.string "TileLights$Reader" 34) (Term.string "TileLightsModel" 174)) ∈ fl1 ∧ (Cond.eq (Term.string "TileLights$Reader" 80) (Term.string "TileLightsModel" 200)) ∈ fl1 ∧ (Cond.eq (.static "java/lang/String" "COMPACT_STRINGS" "Z") (.int 1)) ∈ fl1 ∧ (Cond.isRef (.static "jdk/internal/util/Preconditions" "SIOOBE_FORMATTER" "Ljava/util/function/BiFunction;")) ∈ fl1 ∧ (Cond.isRef (.static Bundle.tN "UNASSIGNED_STACK" Bundle.steD)) ∈ fl1 ∧ (Cond.isRef (.static Bundle.tN "SUPPRESSED_SENTINEL" Bundle.listD)) ∈ fl1 := ⟨List.mem_of_getElem? (i := 400) (by decide +kernel), List.mem_of_getElem? (i := 453) (by decide +kernel), List.mem_of_getElem? (i := 4) (by decide +kernel), List.mem_of_getElem? (i := 5) (by decide +kernel), List.mem_of_getElem? (i := 163) (by decide +kernel), List.mem_of_getElem? (i := 164) (by decide +kernel)⟩
theorem fe1 : ∀ k, k < 4 → (Cond.stringRef (gTw k).1 (gTw k).2.1 (gTw k).2.2.1) ∈ lw_tbl := by decide +kernel
theorem fe2 : (Cond.laysStatic "java/lang/String" "COMPACT_STRINGS" "Z") ∈ lw_tbl ∧ (Cond.initialized "java/lang/String") ∈ lw_tbl ∧ (Cond.laysStatic "jdk/internal/util/Preconditions" "SIOOBE_FORMATTER" "Ljava/util/function/BiFunction;") ∈ lw_tbl ∧ (Cond.initialized "jdk/internal/util/Preconditions") ∈ lw_tbl ∧ (Cond.laysStatic Bundle.tN "UNASSIGNED_STACK" Bundle.steD) ∈ lw_tbl ∧ (Cond.laysStatic Bundle.tN "SUPPRESSED_SENTINEL" Bundle.listD) ∈ lw_tbl ∧ (Cond.initialized Bundle.tN) ∈ lw_tbl := by decide +kernel
theorem fe3 : (Cond.methodLinkNest RX9 118 yX10_isPoint RX10) ∈ lw_tbl ∧ (Cond.arrayOver (.object RX0)) ∈ lw_tbl ∧ (Cond.arrayOver (.object RX5)) ∈ lw_tbl ∧ (Cond.arrayOver (.object RX6)) ∈ lw_tbl := by decide +kernel
theorem fe4 : ∀ w ∈ gTwords, w ∈ lw_tbl := by decide +kernel
theorem gst_of {args : Array Value} {s : State} {base : Nat} (hb : base = s.heap.size) (hfl : ∀ w ∈ fl1, w.before args s = true) (hts : ∀ w ∈ lw_tbl, w.before args s = true) : ∃ tt : Nat → Nat, ∀ k, k < 10 → va_Z (gSn k).1 (gSn k).2.1 (gSn k).2.2 (.ref (tt k)) (gA base) s s.heap ∧ va_T .int (tt k) (gSt k).length (fun j => .int (gSv k j)) (gA base) s s.heap := by
  have hA : ∀ a : Nat, a < s.heap.size → ¬ gA base a := fun a ha hq => by
    have : base ≤ a := hq
    omega
  have one : ∀ k, (Cond.arrayOf (.static (gSn k).1 (gSn k).2.1 (gSn k).2.2) .int) ∈ fl1 ∧ (Cond.eq (.length (.static (gSn k).1 (gSn k).2.1 (gSn k).2.2)) (.int (Int32.ofNat (gSt k).length))) ∈ fl1 ∧ (∀ j, j < (gSt k).length → (Cond.eq (.elem (.static (gSn k).1 (gSn k).2.1 (gSn k).2.2) (.int (Int32.ofNat j))) (.int (gSv k j))) ∈ fl1) → ((Cond.laysStatic (gSn k).1 (gSn k).2.1 (gSn k).2.2) ∈ lw_tbl ∧ (Cond.initialized (gSn k).1) ∈ lw_tbl) → (gSt k).length < 2 ^ 31 →
      ∃ t : Nat, va_Z (gSn k).1 (gSn k).2.1 (gSn k).2.2 (.ref t) (gA base) s s.heap ∧ va_T .int t (gSt k).length (fun j => .int (gSv k j)) (gA base) s s.heap := by
    intro k h1 h2 h3
    obtain ⟨t, ht, hT⟩ := va_Tof (f := fun j => .int (gSv k j)) (A := gA base) h3 (hfl _ h1.1) (va_eqt (hfl _ h1.2.1)) (fun j hj => va_eqt (hfl _ (h1.2.2 j hj))) hA
    exact ⟨t, va_Zof (hts _ h2.1) (hts _ h2.2) ht hA, hT⟩
  obtain ⟨t0, z0⟩ := one 0 fa0 fs0 (by decide)
  obtain ⟨t1, z1⟩ := one 1 fa1 fs1 (by decide)
  obtain ⟨t2, z2⟩ := one 2 fa2 fs2 (by decide)
  obtain ⟨t3, z3⟩ := one 3 fa3 fs3 (by decide)
  obtain ⟨t4, z4⟩ := one 4 fa4 fs4 (by decide)
  obtain ⟨t5, z5⟩ := one 5 fa5 fs5 (by decide)
  obtain ⟨t6, z6⟩ := one 6 fa6 fs6 (by decide)
  obtain ⟨t7, z7⟩ := one 7 fa7 fs7 (by decide)
  obtain ⟨t8, z8⟩ := one 8 fa8 fs8 (by decide)
  obtain ⟨t9, z9⟩ := one 9 fa9 fs9 (by decide)
  refine ⟨fun k => [t0, t1, t2, t3, t4, t5, t6, t7, t8, t9].getD k 0, fun k hk => ?_⟩
  rcases (show k = 0 ∨ k = 1 ∨ k = 2 ∨ k = 3 ∨ k = 4 ∨ k = 5 ∨ k = 6 ∨ k = 7 ∨ k = 8 ∨ k = 9 by omega) with rfl | rfl | rfl | rfl | rfl | rfl | rfl | rfl | rfl | rfl
  · exact z0
  · exact z1
  · exact z2
  · exact z3
  · exact z4
  · exact z5
  · exact z6
  · exact z7
  · exact z8
  · exact z9
theorem gtx_of {args : Array Value} {s : State} {base : Nat} (hb : base = s.heap.size) (hfl : ∀ w ∈ fl1, w.before args s = true) : ∃ kk vv : Nat → Nat, (∀ k, k < 2 → va_O "java/lang/String" (kk k) (gA base) s s.heap ∧ va_OF "java/lang/String" "coder" "B" (.int 0) (kk k) (gA base) s s.heap ∧ va_OF "java/lang/String" "value" "[B" (.ref (vv k)) (kk k) (gA base) s s.heap ∧ va_T .byte (vv k) (gTx k).length (fun j => .int (gTc k j)) (gA base) s s.heap) ∧ (Term.string "TileLightsModel" 174).eval args s none [] s = some (.ref (kk 0)) ∧ (Term.string "TileLightsModel" 200).eval args s none [] s = some (.ref (kk 1)) := by
  have hA : ∀ a : Nat, a < s.heap.size → ¬ gA base a := fun a ha hq => by
    have : base ≤ a := hq
    omega
  have z0 : ∀ i : Nat, i < 1 → i = 0 := fun i hi => by omega
  obtain ⟨k0, v0, h0, e0⟩ := vk_Sof (args := args) (s := s) (N := 1) (tm := fun _ => Term.string "TileLightsModel" 174) (len := [(gTx 0).length]) (byt := [gTx 0]) (A := gA base) (fun i hi => by rw [z0 i hi]; decide) (fun _ _ => hfl _ ft0.1) (fun _ _ => hfl _ ft0.2.1) (fun _ _ => hfl _ ft0.2.2.1) (fun i hi => by rw [z0 i hi]; exact hfl _ ft0.2.2.2.1) (fun i hi j hj => by rw [z0 i hi] at hj ⊢; exact hfl _ (ft0.2.2.2.2 j hj)) (fun i j hi hj hn => absurd ((z0 i hi).trans (z0 j hj).symm) hn) hA
  have z1 : ∀ i : Nat, i < 1 → i = 0 := fun i hi => by omega
  obtain ⟨k1, v1, h1, e1⟩ := vk_Sof (args := args) (s := s) (N := 1) (tm := fun _ => Term.string "TileLightsModel" 200) (len := [(gTx 1).length]) (byt := [gTx 1]) (A := gA base) (fun i hi => by rw [z1 i hi]; decide) (fun _ _ => hfl _ ft1.1) (fun _ _ => hfl _ ft1.2.1) (fun _ _ => hfl _ ft1.2.2.1) (fun i hi => by rw [z1 i hi]; exact hfl _ ft1.2.2.2.1) (fun i hi j hj => by rw [z1 i hi] at hj ⊢; exact hfl _ (ft1.2.2.2.2 j hj)) (fun i j hi hj hn => absurd ((z1 i hi).trans (z1 j hj).symm) hn) hA
  refine ⟨fun k => if k = 0 then k0 0 else k1 0, fun k => if k = 0 then v0 0 else v1 0, fun k hk => ?_, e0 0 (by decide), e1 0 (by decide)⟩
  rcases (show k = 0 ∨ k = 1 by omega) with rfl | rfl
  · exact h0.1 0 (by decide)
  · exact h1.1 0 (by decide)
theorem gkn_of {args : Array Value} {s : State} (hgw : ∀ w ∈ gws, w.before args s = true) : ∃ D : va_G, ∀ (c : Nat) (q : vw_C), vwCl[c]? = some q → u_Kn s q.1 q.2.1 q.2.2 (D.1 c) (D.2 c) := by
  obtain ⟨c0, i0, u0⟩ := u_known (ws := gws) (C := RX0) (T := TX0) (N := 13) hgw gn0 (hgw _ q395)
  obtain ⟨c1, i1, u1⟩ := u_known (ws := gws) (C := RX1) (T := TX1) (N := 11) hgw gn1 (hgw _ q260)
  obtain ⟨c2, i2, u2⟩ := u_known (ws := gws) (C := RX2) (T := TX2) (N := 3) hgw gn2 (hgw _ q498)
  obtain ⟨c3, i3, u3⟩ := u_known (ws := gws) (C := RX3) (T := TX3) (N := 4) hgw gn3 (hgw _ q166)
  obtain ⟨c4, i4, u4⟩ := u_known (ws := gws) (C := RX4) (T := TX4) (N := 12) hgw gn4 (hgw _ q186)
  obtain ⟨c5, i5, u5⟩ := u_known (ws := gws) (C := RX5) (T := TX5) (N := 2) hgw gn5 (hgw _ q518)
  obtain ⟨c6, i6, u6⟩ := u_known (ws := gws) (C := RX6) (T := TX6) (N := 13) hgw gn6 (hgw _ q322)
  obtain ⟨c7, i7, u7⟩ := u_known (ws := gws) (C := RX7) (T := TX7) (N := 8) hgw gn7 (hgw _ q389)
  obtain ⟨c8, i8, u8⟩ := u_known (ws := gws) (C := RX8) (T := TX8) (N := 2) hgw gn8 (hgw _ q149)
  obtain ⟨c9, i9, u9⟩ := u_known (ws := gws) (C := RX9) (T := TX9) (N := 3) hgw gn9 (hgw _ q315)
  obtain ⟨c10, i10, u10⟩ := u_known (ws := gws) (C := RX10) (T := TX10) (N := 16) hgw gn10 (hgw _ q141)
  obtain ⟨c11, i11, u11⟩ := u_known (ws := gws) (C := RX11) (T := TX11) (N := 38) hgw gn11 (hgw _ q1394)
  refine ⟨(fun c => [c0, c1, c2, c3, c4, c5, c6, c7, c8, c9, c10, c11].getD c 0, fun c => [i0, i1, i2, i3, i4, i5, i6, i7, i8, i9, i10, i11].getD c (fun _ => 0)), fun c q hq => ?_⟩
  have hc : c < 12 := by
    have := (List.getElem?_eq_some_iff.mp hq).1
    exact this
  rcases (show c = 0 ∨ c = 1 ∨ c = 2 ∨ c = 3 ∨ c = 4 ∨ c = 5 ∨ c = 6 ∨ c = 7 ∨ c = 8 ∨ c = 9 ∨ c = 10 ∨ c = 11 by omega) with rfl | rfl | rfl | rfl | rfl | rfl | rfl | rfl | rfl | rfl | rfl | rfl
  · cases hq; exact u0
  · cases hq; exact u1
  · cases hq; exact u2
  · cases hq; exact u3
  · cases hq; exact u4
  · cases hq; exact u5
  · cases hq; exact u6
  · cases hq; exact u7
  · cases hq; exact u8
  · cases hq; exact u9
  · cases hq; exact u10
  · cases hq; exact u11
