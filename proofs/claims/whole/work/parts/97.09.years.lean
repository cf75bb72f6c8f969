/-! years -/
def CHS (Mx X : gM) : Prop := (∀ a b c, a ≠ 49 → X.1 a b c = Mx.1 a b c) ∧ ∀ a b c, ¬ (a = 0 ∧ b = 0 ∧ c = 15) → X.2 a b c = Mx.2 a b c
def CHM (Mm Y : gM) : Prop := Y.1 = Mm.1 ∧ ∀ a b c, ¬ (a = 50 ∧ b = 0 ∧ c = 32) → Y.2 a b c = Mm.2 a b c
def sdE (X Y : gM) : Prop := X.2 0 0 15 = Y.2 50 0 32
section YR
variable {n W H T K i j k t m nf nf' : Nat} {M M' Mx Mm Mx' Mm' X Y M9 : gM} {p p1 p2 p3 p4 v r x1 x4 : Int32} {u : Int64}
theorem CHS.w (h : CHS Mx X) {c : Nat} : CHS Mx (wI X 49 0 c v) := ⟨fun a b c' ha => by rw [w_n (by omega)]; exact h.1 a b c' ha, h.2⟩
theorem CHS.l (h : CHS Mx X) : CHS Mx (wL X 0 0 15 u) := ⟨h.1, fun a b c hq => by rw [r2_wL, if_neg hq]; exact h.2 a b c hq⟩
theorem CHM.l (h : CHM Mm Y) : CHM Mm (wL Y 50 0 32 u) := ⟨h.1, fun a b c hq => by rw [r2_wL, if_neg hq]; exact h.2 a b c hq⟩
theorem CHS.rf : CHS Mx Mx := ⟨fun _ _ _ _ => rfl, fun _ _ _ _ => rfl⟩
theorem CHM.rf : CHM Mm Mm := ⟨rfl, fun _ _ _ _ => rfl⟩
theorem CHS.cx (h : CHS Mx X) : CX Mx X := ⟨fun a b c hq => h.1 a b c (fun z => hq (Or.inr (Or.inr z))), fun a b c hq => h.2 a b c (fun z => hq (Or.inr z))⟩
theorem CHM.cm (h : CHM Mm Y) : CM Mm Y := ⟨fun a b c _ => by rw [h.1], h.2⟩
theorem sdE.l : sdE (wL X 0 0 15 u) (wL Y 50 0 32 u) := by
  unfold sdE
  rw [wL_e, wL_e]
theorem sdE.w {c : Nat} (h : sdE X Y) : sdE (wI X 49 0 c v) Y := h
theorem SN.ch (h : SN m nf n W H T K Mx Mm) (hx : CHS Mx X) (hy : CHM Mm Y) : SN m nf n W H T K X Y :=
  h.same (fun a b c hc => hx.1 a b c (by unfold relX at hc; omega)) (fun b c _ => hx.2 41 b c (by omega)) (fun a b c _ => by rw [hy.1])
theorem ST.ch (h : ST Mx Mm) (hx : CHS Mx X) (hy : CHM Mm Y) : ST X Y := fun k hk => by
  rw [hx.1 48 0 k (by omega), hy.1]
  exact h k hk
theorem ch2 (h0 : 1 ≤ k) (h1 : k < 2 ^ 31) (hs : sdE X Y) : ∃ r u, X10_chanceOf (nI k) X = some (r, wL X 0 0 15 u) ∧ X11_chance (nI k) Y = some (r, wL Y 50 0 32 u) := by
  refine ⟨_, _, x10_chance h0 h1, ?_⟩
  rw [x11_chance h0 h1, ← (show X.2 0 0 15 = Y.2 50 0 32 from hs)]
theorem yr_step (h9 : X10_chooseAct Mx = some M9) (e0 : M9.1 49 0 0 = nI k) (hx : ¬ x1 ≤ x4) :
    X10_years_L28 x1 x4 nf Mx = (X9_refusal 0 (nI k) (M9.1 49 0 1) (M9.1 49 0 2) (M9.1 49 0 3) (M9.1 49 0 4) M9).bind fun r_11 => if r_11 = (-1) then (X10_act nf (nI k) (M9.1 49 0 1) (M9.1 49 0 2) (M9.1 49 0 3) (M9.1 49 0 4) (-1) M9).bind (gU2 (fun r_15 => gU2 (fun nf M_16 => gLet (x4 + 1) (fun x4_17 => some (.inl (x4_17, nf, M_16)))))) else gLet (x4 + 1) (fun x4_13 => some (.inl (x4_13, nf, M9))) := by
  unfold X10_years_L28
  rw [if_neg hx, h9, bind_e, e0]
/-- what a year does, on both sides -/
def YD (m nf n W H T K : Nat) (Mx Mm Y : gM) (k : Nat) (p1 p2 p3 p4 : Int32) : Prop :=
  (∃ l Y1, l < 4 ∧ mst 8 k p1 p2 p3 p4 Y = some (nI l, Y1) ∧ ∃ Mx', (∀ x1 x4 : Int32, ¬ x1 ≤ x4 → X10_years_L28 x1 x4 nf Mx = some (.inl (x4 + 1, nf, Mx'))) ∧ SN (m + 1) nf n W H T K Mx' Y1 ∧ ST Mx' Y1 ∧ sdE Mx' Y1 ∧ CX Mx Mx' ∧ CM Mm Y1) ∨
  (∃ Y0, mst 8 k p1 p2 p3 p4 Y = some (-1, Y0) ∧ ∃ nf' Mx' Y1 Y2 Y3, (∀ x1 x4 : Int32, ¬ x1 ≤ x4 → X10_years_L28 x1 x4 nf Mx = some (.inl (x4 + 1, nf', Mx'))) ∧ X11_remember Y0 = some Y1 ∧ mop 8 k p1 p2 p3 p4 Y1 = some Y2 ∧ X11_tells (msort k) (mnum k p1) Y2 = some Y3 ∧ nf ≤ nf' ∧ nf' ≤ 40 ∧ SN (m + 1) nf' n W H T K Mx' Y3 ∧ ST Mx' Y3 ∧ sdE Mx' Y3 ∧ CX Mx Mx' ∧ CM Mm Y3)
theorem yr_do (hm : m + 1 < 100000) (hnf : nf ≤ 40) (h : SN m nf n W H T K Mx Mm) (hs : ST Mx Mm) (hx : CHS Mx M9) (hy : CHM Mm Y) (sd : sdE M9 Y) (h9 : X10_chooseAct Mx = some M9) (hk : k ≤ 8) (e0 : M9.1 49 0 0 = nI k) :
    YD m nf n W H T K Mx Mm Y k (M9.1 49 0 1) (M9.1 49 0 2) (M9.1 49 0 3) (M9.1 49 0 4) := by
  rcases j_kc (p1 := M9.1 49 0 1) (p2 := M9.1 49 0 2) (p3 := M9.1 49 0 3) (p4 := M9.1 49 0 4) hm hnf (h.ch hx hy) (hs.ch hx hy) hk (-1) with ⟨l, Y1, hl, e1, e2, s1⟩ | ⟨e1, Y0, e2, s0, r, nf', X', Y1, Y2, Y3, g1, g2, g3, g4, g5, g6, g7, g8, g9, g10, g11, -⟩
  · refine Or.inl ⟨l, Y1, hl, e2, M9, fun x1 x4 hx' => ?_, ((h.ch hx hy).ask s1).mono (by omega), (hs.ch hx hy).ask s1, ?_, hx.cx, hy.cm.tr (CM.ask s1)⟩
    · rw [yr_step h9 e0 hx', e1, bind_e, if_neg (nI_m1 (by omega))]
      rfl
    · unfold sdE
      rw [s1.1]
      exact sd
  · refine Or.inr ⟨Y0, e2, nf', X', Y1, Y2, Y3, fun x1 x4 hx' => ?_, g2, g3, g4, g5, g6, g7, g8, ?_, hx.cx.tr g9.c, hy.cm.tr g10⟩
    · rw [yr_step h9 e0 hx', e1, bind_e, if_pos rfl, g1]
      rfl
    · unfold sdE
      rw [g9.2 0 0 15 (by omega), g11]
      exact sd
end YR
