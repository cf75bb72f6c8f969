/-! refusals; draw as a call -/
def relX (a b c : Nat) : Prop := (5 ≤ a ∧ a ≤ 10 ∧ b = 1) ∨ (12 ≤ a ∧ a ≤ 27) ∨ (33 ≤ a ∧ a ≤ 42 ∧ b ≠ 2) ∨ a = 43 ∨ (a = 0 ∧ b = 0 ∧ c = 14)
def relM (a b c : Nat) : Prop := (a = 52 ∧ (b = 2 ∨ b = 4 ∨ b = 8 ∨ b = 10 ∨ b = 11)) ∨ (a = 50 ∧ b = 0 ∧ (c = 16 ∨ c = 22 ∨ c = 23 ∨ c = 24 ∨ c = 29 ∨ c = 30))
/-- counts of refusals -/
def ST (Mx Mm : gM) : Prop := ∀ k, k < 4 → Mx.1 48 0 k = Mm.1 52 7 k
/-- what a call that acts may change -/
def CX (X X' : gM) : Prop := (∀ a b c, ¬ (acX a b ∨ a = 48 ∨ a = 49) → X'.1 a b c = X.1 a b c) ∧ ∀ a b c, ¬ ((33 ≤ a ∧ a ≤ 42 ∧ (b = 0 ∨ 3 ≤ b)) ∨ (a = 0 ∧ b = 0 ∧ c = 15)) → X'.2 a b c = X.2 a b c
def CM (Y Y' : gM) : Prop := (∀ a b c, ¬ (acM a b c ∨ (a = 52 ∧ b = 7) ∨ (a = 50 ∧ b = 0 ∧ c = 0)) → Y'.1 a b c = Y.1 a b c) ∧ ∀ a b c, ¬ (a = 50 ∧ b = 0 ∧ c = 32) → Y'.2 a b c = Y.2 a b c
section DC
variable {n W H T K i j k t m nf : Nat} {M M' Mx Mm Mx' Mm' : gM} {a b p v : Int32}
theorem SN.same (h : SN m nf n W H T K Mx Mm) (gx : ∀ a b c, relX a b c → Mx'.1 a b c = Mx.1 a b c) (gl : ∀ b c, b ≠ 2 → Mx'.2 41 b c = Mx.2 41 b c) (gm : ∀ a b c, relM a b c → Mm'.1 a b c = Mm.1 a b c) : SN m nf n W H T K Mx' Mm' := by
  obtain ⟨hr, hp, hl, hh, hi⟩ := h
  have hn := hr.1.2.1
  refine ⟨hr.same (fun a b c hc => gx a b c (by unfold relX; omega)) (fun c => gl 0 c (by omega)) (fun a b c hc => gm a b c (by unfold relM; omega)), hp.same (fun c => gx 36 0 c (by unfold relX; omega)), hl.same (gx 33 0 9 (by unfold relX; omega)) (fun c => gx 42 0 c (by unfold relX; omega)) (fun c _ => gm 52 8 c (by unfold relM; omega)), hh.same (by omega) (by omega) (fun a b c hc => gx a b c (by unfold relX; omega)) (fun b c hb => gl b c (by omega)) (fun a b c hc => gm a b c (by unfold relM; omega)), hi.same (by omega) (by omega) (fun a b c hc => gx a b c (by unfold relX; omega)) (fun c => gl 1 c (by omega)) (fun a b c hc => gm a b c (by unfold relM; omega))⟩
theorem SN.mono {m' : Nat} (h : SN m nf n W H T K Mx Mm) (hm : m ≤ m') : SN m' nf n W H T K Mx Mm := by
  obtain ⟨hr, hp, ⟨lg, l1, l2, l3⟩, hh, hi⟩ := h
  have hn := hr.1.2.1
  exact ⟨hr, hp, ⟨lg, l1, by omega, l3⟩, hh.same (by omega) hm (fun _ _ _ _ => rfl) (fun _ _ _ => rfl) (fun _ _ _ _ => rfl), hi.same (by omega) hm (fun _ _ _ _ => rfl) (fun _ => rfl) (fun _ _ _ _ => rfl)⟩
/-- a refusal, on both sides -/
theorem j_ref (hk : k < 4) (h : SN m nf n W H T K Mx Mm) (hs : ST Mx Mm) :
    X11_refuses (nI k) Mm = some (-1, wI Mm 52 7 k (Mm.1 52 7 k + 1)) ∧ SN m nf n W H T K (wI Mx 48 0 k (Mx.1 48 0 k + 1)) (wI Mm 52 7 k (Mm.1 52 7 k + 1)) ∧ ST (wI Mx 48 0 k (Mx.1 48 0 k + 1)) (wI Mm 52 7 k (Mm.1 52 7 k + 1)) ∧ CX Mx (wI Mx 48 0 k (Mx.1 48 0 k + 1)) ∧ CM Mm (wI Mm 52 7 k (Mm.1 52 7 k + 1)) := by
  refine ⟨?_, h.same (fun a b c hc => w_n (by unfold relX at hc; omega)) (fun _ _ _ => rfl) (fun a b c hc => w_n (by unfold relM at hc; omega)), fun l hl => ?_, ⟨fun a b c hq => w_n (by omega), fun _ _ _ _ => rfl⟩, ⟨fun a b c hq => w_n (by omega), fun _ _ _ _ => rfl⟩⟩
  · unfold X11_refuses
    rw [gG_t (gin_n hk (by decide)), gG_t (gin_n hk (by decide)), gLet_e, nI_clamp (by omega)]
  · by_cases e : l = k
    · rw [e, w_e, w_e, hs k hk]
    · rw [w_n (by omega), w_n (by omega)]
      exact hs l hl
/-- the class's act, refused -/
theorem x10_ref {p1 p2 p3 p4 p5 p6 : Int32} (hk : k < 4) (h : X9_refusal 0 p1 p2 p3 p4 p5 Mx = some (nI k)) : X10_act nf p1 p2 p3 p4 p5 p6 Mx = some (p6, nf, wI Mx 48 0 k (Mx.1 48 0 k + 1)) := by
  unfold X10_act
  rw [h, bind_e, if_neg (nI_neg (by omega)), if_neg (show ¬ (4 : Int32) ≤ nI k from nI_ge (a := k) (b := 4) hk (by decide)), gG_t (gin_n hk (by decide)), gG_t (gin_n hk (by decide)), gLet_e, nI_clamp (by omega)]
theorem x10_go {p1 p2 p3 p4 p5 p6 : Int32} (h : X9_refusal 0 p1 p2 p3 p4 p5 Mx = some (-1)) : X10_act nf p1 p2 p3 p4 p5 p6 Mx = X10_act_J45 nf p1 p2 p3 p4 p5 Mx := by
  unfold X10_act
  rw [h, bind_e, if_pos (by decide)]
theorem OAX.c (h : OAX Mx Mx') : CX Mx Mx' := ⟨fun a b c hq => h.1 a b c (fun z => hq (Or.inl z)), fun a b c hq => h.2 a b c (by omega)⟩
theorem OAM.c (h : OAM Mm Mm') : CM Mm Mm' := ⟨fun a b c hq => h.2 a b c (fun z => hq (Or.inl z)), fun a b c _ => by rw [h.1]⟩
theorem ST.c (h : ST Mx Mm) (h1 : OAX Mx Mx') (h2 : OAM Mm Mm') : ST Mx' Mm' := fun k hk => by
  rw [h1.1 48 0 k (by unfold acX; omega), h2.2 52 7 k (by unfold acM; omega)]
  exact h k hk
theorem CM.tr {Mm'' : gM} (h : CM Mm Mm') (h' : CM Mm' Mm'') : CM Mm Mm'' := ⟨fun a b c hq => (h'.1 a b c hq).trans (h.1 a b c hq), fun a b c hq => (h'.2 a b c hq).trans (h.2 a b c hq)⟩
theorem CX.tr {Mx'' : gM} (h : CX Mx Mx') (h' : CX Mx' Mx'') : CX Mx Mx'' := ⟨fun a b c hq => (h'.1 a b c hq).trans (h.1 a b c hq), fun a b c hq => (h'.2 a b c hq).trans (h.2 a b c hq)⟩
/-- the thrown mark off: nothing else -/
theorem SN.t0 (h : SN m nf n W H T K Mx Mm) : SN m nf n W H T K Mx (wI Mm 50 0 0 v) := h.same (fun _ _ _ _ => rfl) (fun _ _ _ => rfl) (fun a b c hc => w_n (by unfold relM at hc; omega))
theorem ST.t0 (h : ST Mx Mm) : ST Mx (wI Mm 50 0 0 v) := fun k hk => by rw [w_n (by omega)]; exact h k hk
theorem CM.t0 : CM Mm (wI Mm 50 0 0 v) := ⟨fun a b c hq => w_n (by omega), fun _ _ _ _ => rfl⟩
theorem CM.ask (h : SameA Mm Mm') : CM Mm Mm' := ⟨fun a b c hq => h.2 a b c (by unfold acM at hq; omega), fun _ _ _ _ => by rw [h.1]⟩
theorem SN.ask (h : SN m nf n W H T K Mx Mm) (s : SameA Mm Mm') : SN m nf n W H T K Mx Mm' := h.same (fun _ _ _ _ => rfl) (fun _ _ _ => rfl) (fun a b c hc => s.2 a b c (by unfold relM at hc; omega))
theorem ST.ask (h : ST Mx Mm) (s : SameA Mm Mm') : ST Mx Mm' := fun k hk => by rw [s.2 52 7 k (by omega)]; exact h k hk
/-- draw, the act and its refusals -/
theorem j_drawC (hm : m + 1 < 100000) (hnf : nf ≤ 40) (h : SN m nf n W H T K Mx Mm) (hs : ST Mx Mm) (v : Int32) :
    (∃ k Mm1, k < 4 ∧ X9_refusal 0 0 p 0 0 0 Mx = some (nI k) ∧ X11_stopsDraw 8 p Mm = some (nI k, Mm1) ∧ SameA Mm Mm1) ∨
    (X9_refusal 0 0 p 0 0 0 Mx = some (-1) ∧ ∃ Mm1, X11_stopsDraw 8 p Mm = some (-1, Mm1) ∧ SameA Mm Mm1 ∧ ∃ r nf' Mx' Y1 Y2 Y3, X10_act nf 0 p 0 0 0 v Mx = some (r, nf', Mx') ∧ X11_remember Mm1 = some Y1 ∧ X11_draws 8 p Y1 = some (r, Y2) ∧ X11_tells 0 p Y2 = some Y3 ∧ nf ≤ nf' ∧ nf' ≤ 40 ∧ SN (m + 1) nf' n W H T K Mx' Y3 ∧ ST Mx' Y3 ∧ CX Mx Mx' ∧ CM Mm Y3) := by
  have hr := h.1
  have hn := hr.1.2.1
  have n0 : ¬ Mx.1 5 1 5 = 0 := by
    rw [hr.1.2.2.1.2.2.2.2]
    exact nI_ne0 (by omega) (by omega)
  unfold X11_stopsDraw
  rcases j_has (p := p) hr.1 hr.2.1.1 with ⟨e1, e2⟩ | ⟨e1, e2, t, ht, rfl⟩
  · refine Or.inl ⟨0, Mm, by omega, ?_, ?_, SameA.rf Mm⟩
    · unfold X9_refusal
      rw [if_neg n0, if_pos rfl, e1, bind_e, if_pos rfl]
      rfl
    · rw [e2, bind_e, if_pos rfl]
      rfl
  · obtain ⟨z, M7, t1, t2, s7, h7, -, -⟩ := j_touched (Or.inl rfl) hr ht
    have rf : X9_refusal 0 0 (nI t) 0 0 0 Mx = some (if z = 0 then 2 else -1) := by
      unfold X9_refusal
      rw [if_neg n0, if_pos rfl, e1, bind_e, if_neg (show ¬ (1 : Int32) = 0 by decide), t1, bind_e]
      split <;> rfl
    rw [e2, bind_e, if_neg (show ¬ (1 : Int32) = 0 by decide), t2, bind_e, gU2_e]
    by_cases hz : z = 0
    · rw [if_pos hz] at rf
      rw [if_pos hz]
      exact Or.inl ⟨2, M7, by omega, rf, rfl, s7⟩
    · rw [if_neg hz] at rf
      rw [if_neg hz]
      refine Or.inr ⟨rf, M7, rfl, s7, ?_⟩
      obtain ⟨nf', r, X1, X2, X3, Y1, Y2, Y3, k1, k2, k3, k4, k5, k6, k7, k8, k9, k10, k11⟩ := j_act (a := 0) (b := nI t) (opc := fun X => X9_carryOut 0 0 (nI t) 0 0 0 X) (opm := fun Y => X11_draws 8 (nI t) Y) hm hnf (h.ask s7)
        (fun X Y g1 g2 _ _ => by
          obtain ⟨r, X', Y', d1, d2, d3⟩ := j_draw (Or.inl rfl) g1 ht
          refine ⟨r, X', Y', ?_, d2, d3.1, d3.pn g2, d3.opx.1, d3.opx.2⟩
          show X9_carryOut 0 0 (nI t) 0 0 0 X = _
          unfold X9_carryOut
          rw [if_pos rfl, d1]
          rfl)
      refine ⟨r, nf', X3, Y1, Y2, Y3, ?_, k4, k5, k6, k7, k8, k9, (hs.ask s7).c k10 k11, k10.c, (CM.ask s7).tr k11.c⟩
      rw [x10_go rf]
      unfold X10_act_J45
      have k2' : X9_carryOut 0 0 (nI t) 0 0 0 X1 = some (r, X2) := k2
      rw [k1, bind_e, gU2_e, k2', bind_e, gU2_e]
      show ((X0_note 0 0 (nI t) X2).bind _) = _
      rw [k3]
      rfl
theorem j_drawO (hm : m + 1 < 100000) (hnf : nf ≤ 40) (h : SN m nf n W H T K Mx Mm) (hs : ST Mx Mm) : ∃ r nf' Mx' Mm', X10_draw nf p Mx = some (r, nf', Mx') ∧ X11_draw p Mm = some (r, Mm') ∧ nf ≤ nf' ∧ nf' ≤ 40 ∧ SN (m + 1) nf' n W H T K Mx' Mm' ∧ ST Mx' Mm' ∧ CX Mx Mx' ∧ CM Mm Mm' := by
  unfold X10_draw X11_draw
  rw [gLet_e]
  rcases j_drawC (p := p) hm hnf h.t0 (hs.t0 (v := 0)) (-1) with ⟨k, M1, hk, e1, e2, s1⟩ | ⟨e1, M1, e2, s1, r, nf', X', Y1, Y2, Y3, g1, g2, g3, g4, g5, g6, g7, g8, g9, g10⟩
  · obtain ⟨q1, q2, q3, q4, q5⟩ := j_ref hk (h.t0.ask s1) ((hs.t0 (v := 0)).ask s1)
    refine ⟨-1, nf, _, _, x10_ref hk e1, ?_, Nat.le_refl _, hnf, q2.mono (by omega), q3, q4, ((CM.t0 (v := 0)).tr (CM.ask s1)).tr q5⟩
    rw [e2, bind_e, gU2_e, if_neg (nI_m1 (by omega)), q1]
    rfl
  · refine ⟨r, nf', X', Y3, g1, ?_, g5, g6, g7, g8, g9, (CM.t0 (v := 0)).tr g10⟩
    rw [e2, bind_e, gU2_e, if_pos rfl, g2, bind_e, g3, bind_e, gU2_e, g4]
    rfl
end DC
