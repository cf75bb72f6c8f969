/-! the obligations of the calls that act -/
section OA
variable {n W H T K i j k t m nf nf' q q' : Nat} {M M' Mx Mm Mx' Mm' X Y : gM} {p p1 p2 p3 p4 p5 p6 v r : Int32}
theorem NSn.has (h : NSn Mx Mm) : X10_hasScene Mx = some 0 := by
  unfold X10_hasScene
  rw [h.1]
  rfl
theorem NSn.t0 (h : NSn Mx Mm) : NSn Mx (wI Mm 50 0 0 v) := h.same (fun _ _ _ _ => rfl) (fun a b c hc => w_n (by unfold relM at hc; omega))
theorem J.t0 (h : J q nf Mx Mm) : J q nf Mx (wI Mm 50 0 0 v) := h.same (fun _ _ _ _ => rfl) (fun _ _ _ => rfl) (fun a b c hc => w_n (by unfold rM relM at hc; omega))
/-- an act without a scene -/
theorem ns_act (h : J q nf Mx Mm) (hN : NSn Mx Mm) :
    ∃ Mx' Mm', X10_act nf p1 p2 p3 p4 p5 p6 Mx = some (p6, nf, Mx') ∧ X11_refuses 0 (wI Mm 50 0 0 0) = some (-1, Mm') ∧ J (q + 1) nf Mx' Mm' ∧ GX Mx Mx' ∧ GM Mm Mm' := by
  have rf : X9_refusal 0 p1 p2 p3 p4 p5 Mx = some (nI 0) := by
    unfold X9_refusal
    rw [if_pos hN.1]
    rfl
  refine ⟨_, wI (wI Mm 50 0 0 0) 52 7 0 ((wI Mm 50 0 0 0).1 52 7 0 + 1), x10_ref (by omega) rf, ?_, ?_, ?_, ?_⟩
  · unfold X11_refuses
    rw [gG_t (by decide), gG_t (by decide), gLet_e]
    rfl
  · have h0 := h.mono (Nat.le_succ q)
    refine ⟨h0.1, h0.2.1.same (fun a b c hc => w_n (by omega)) (fun a b c hc => by rw [w_n (by omega), w_n (by omega)]), h0.2.2.1.same (fun a b c hc => w_n (by omega)) (fun a b c hc => by rw [w_n (by omega), w_n (by omega)]), fun k hk => ?_, Or.inl (hN.same (fun a b c hc => w_n (by unfold relX at hc; omega)) (fun a b c hc => by rw [w_n (by unfold relM at hc; omega), w_n (by unfold relM at hc; omega)]))⟩
    have := h0.2.2.2.1
    by_cases e : k = 0
    · rw [e, w_e, w_e, w_n (by omega), this 0 (by omega)]
    · rw [w_n (by omega), w_n (by omega), w_n (by omega)]
      exact this k hk
  · exact fun a b c hc => ⟨w_n (by omega), rfl⟩
  · exact fun a b c hc => ⟨by rw [w_n (by omega), w_n (by omega)], rfl⟩
theorem J.act (h : J q nf Mx Mm) (hnf : nf' ≤ 40) (s : SN (40 * q') nf' n W H T K Mx' Mm') (t : ST Mx' Mm') (cx : CX Mx Mx') (cm : CM Mm Mm') : J q' nf' Mx' Mm' :=
  ⟨hnf, h.2.1.same (fun a b c hc => cx.1 a b c (by unfold acX; omega)) (fun a b c hc => cm.1 a b c (by unfold acM; omega)), h.2.2.1.same (fun a b c hc => cx.1 a b c (by unfold acX; omega)) (fun a b c hc => cm.1 a b c (by unfold acM; omega)), t, Or.inr ⟨n, W, H, T, K, s⟩⟩
theorem isTri0 (h : Mm.1 50 0 16 = 0) : X11_isTri p Mm = some 0 := by
  unfold X11_isTri
  rw [h]
  by_cases h0 : p < 0
  · rw [if_pos h0]
  · rw [if_neg h0, if_pos (Int32.not_lt.mp h0)]
theorem O16 : O_16 Iv := fun q nf M a1 hq hI => by
  refine glue2 (F := fun M => X10_draw nf a1 M) (G := fun M => X11_draw a1 M) (fun Mx Mm h => ?_) hI
  rcases h.2.2.2.2 with hN | ⟨n, W, H, T, K, hS⟩
  · obtain ⟨X', Y', e1, e2, e3, e4, e5⟩ := ns_act (p1 := 0) (p2 := a1) (p3 := 0) (p4 := 0) (p5 := 0) (p6 := -1) h hN
    refine ⟨-1, nf, X', Y', e1, ?_, Nat.le_refl _, h.1, e3, e4, e5⟩
    show X11_draw a1 Mm = _
    unfold X11_draw X11_stopsDraw
    rw [gLet_e, isTri0 hN.t0.2.1, bind_e, if_pos rfl, bind_e, gU2_e, if_neg (by decide), e2]
    rfl
  · obtain ⟨r, nf', X', Y', e1, e2, e3, e4, e5, e6, e7, e8⟩ := j_drawO (p := a1) (by omega) h.1 hS h.2.2.2.1
    exact ⟨r, nf', X', Y', e1, e2, e3, e4, h.act e4 (e5.mono (by omega)) e6 e7 e8, e7.g, e8.g⟩
theorem O17 : O_17 Iv := fun q nf M a1 hq hI => by
  refine glue2 (F := fun M => X10_flush nf a1 M) (G := fun M => X11_flush a1 M) (fun Mx Mm h => ?_) hI
  rcases h.2.2.2.2 with hN | ⟨n, W, H, T, K, hS⟩
  · obtain ⟨X', Y', e1, e2, e3, e4, e5⟩ := ns_act (p1 := 1) (p2 := a1) (p3 := 0) (p4 := 0) (p5 := 0) (p6 := -1) h hN
    refine ⟨-1, nf, X', Y', e1, ?_, Nat.le_refl _, h.1, e3, e4, e5⟩
    show X11_flush a1 Mm = _
    unfold X11_flush X11_stopsFlush X11_isTile
    rw [gLet_e, hN.t0.2.1, if_pos (by decide), bind_e, if_pos rfl, bind_e, if_neg (by decide), e2]
    rfl
  · obtain ⟨r, nf', X', Y', e1, e2, e3, e4, e5, e6, e7, e8⟩ := j_flushO (p := a1) (by omega) h.1 hS h.2.2.2.1
    exact ⟨r, nf', X', Y', e1, e2, e3, e4, h.act e4 (e5.mono (by omega)) e6 e7 e8, e7.g, e8.g⟩
theorem O18 : O_18 Iv := fun q nf M hq hI => by
  refine glue2 (F := fun M => X10_all nf M) (G := fun M => X11_all M) (fun Mx Mm h => ?_) hI
  rcases h.2.2.2.2 with hN | ⟨n, W, H, T, K, hS⟩
  · obtain ⟨X', Y', e1, e2, e3, e4, e5⟩ := ns_act (p1 := 2) (p2 := 0) (p3 := 0) (p4 := 0) (p5 := 0) (p6 := -1) h hN
    refine ⟨-1, nf, X', Y', e1, ?_, Nat.le_refl _, h.1, e3, e4, e5⟩
    show X11_all Mm = _
    unfold X11_all
    rw [gLet_e, if_pos hN.t0.2.1, e2]
    rfl
  · obtain ⟨r, nf', X', Y', e1, e2, e3, e4, e5, e6, e7, e8⟩ := j_allO (by omega) h.1 hS h.2.2.2.1
    exact ⟨r, nf', X', Y', e1, e2, e3, e4, h.act e4 (e5.mono (by omega)) e6 e7 e8, e7.g, e8.g⟩
theorem O19 : O_19 Iv := fun q nf M hq hI => by
  refine glue2 (F := fun M => X10_clear nf M) (G := fun M => X11_clear M) (fun Mx Mm h => ?_) hI
  rcases h.2.2.2.2 with hN | ⟨n, W, H, T, K, hS⟩
  · obtain ⟨X', Y', e1, e2, e3, e4, e5⟩ := ns_act (p1 := 3) (p2 := 0) (p3 := 0) (p4 := 0) (p5 := 0) (p6 := -1) h hN
    refine ⟨-1, nf, X', Y', e1, ?_, Nat.le_refl _, h.1, e3, e4, e5⟩
    show X11_clear Mm = _
    unfold X11_clear
    rw [gLet_e, if_pos hN.t0.2.1, e2]
    rfl
  · obtain ⟨r, nf', X', Y', e1, e2, e3, e4, e5, e6, e7, e8⟩ := j_clearO (by omega) h.1 hS h.2.2.2.1
    exact ⟨r, nf', X', Y', e1, e2, e3, e4, h.act e4 (e5.mono (by omega)) e6 e7 e8, e7.g, e8.g⟩
theorem O20 : O_20 Iv := fun q nf M a1 a2 hq hI => by
  refine glue2 (F := fun M => X10_set nf a1 a2 M) (G := fun M => X11_set a1 a2 M) (fun Mx Mm h => ?_) hI
  rcases h.2.2.2.2 with hN | ⟨n, W, H, T, K, hS⟩
  · have hk : ∃ k, X10_set nf a1 a2 Mx = X10_act nf k a2 0 0 0 (-1) Mx := by
      unfold X10_set X10_set_J15 X10_set_J17
      by_cases h0 : a1 < 0
      · exact ⟨9, by rw [if_pos h0]⟩
      · by_cases h1 : 4 ≤ a1
        · exact ⟨9, by rw [if_neg h0, if_pos h1]⟩
        · exact ⟨4 + a1, by rw [if_neg h0, if_neg h1]⟩
    obtain ⟨k, hk⟩ := hk
    obtain ⟨X', Y', e1, e2, e3, e4, e5⟩ := ns_act (p1 := k) (p2 := a2) (p3 := 0) (p4 := 0) (p5 := 0) (p6 := -1) h hN
    refine ⟨-1, nf, X', Y', hk.trans e1, ?_, Nat.le_refl _, h.1, e3, e4, e5⟩
    show X11_set a1 a2 Mm = _
    unfold X11_set X11_stopsRule
    rw [gLet_e, if_pos hN.t0.2.1, bind_e, if_neg (by decide), e2]
    rfl
  · obtain ⟨r, nf', X', Y', e1, e2, e3, e4, e5, e6, e7, e8⟩ := j_setO (p1 := a1) (p := a2) (by omega) h.1 hS h.2.2.2.1
    exact ⟨r, nf', X', Y', e1, e2, e3, e4, h.act e4 (e5.mono (by omega)) e6 e7 e8, e7.g, e8.g⟩
theorem O21 : O_21 Iv := fun q nf M a1 a2 a3 a4 hq hI => by
  refine glue2 (F := fun M => X10_move nf a1 a2 a3 a4 M) (G := fun M => X11_move a1 a2 a3 a4 M) (fun Mx Mm h => ?_) hI
  rcases h.2.2.2.2 with hN | ⟨n, W, H, T, K, hS⟩
  · obtain ⟨X', Y', e1, e2, e3, e4, e5⟩ := ns_act (p1 := 8) (p2 := a1) (p3 := a2) (p4 := a3) (p5 := a4) (p6 := -1000000000) h hN
    refine ⟨-1000000000, nf, X', Y', e1, ?_, Nat.le_refl _, h.1, e3, e4, e5⟩
    show X11_move a1 a2 a3 a4 Mm = _
    unfold X11_move X11_stopsMove
    rw [gLet_e, isTri0 hN.t0.2.1, bind_e, if_pos rfl, bind_e, if_neg (by decide), e2]
    rfl
  · obtain ⟨r, nf', X', Y', e1, e2, e3, e4, e5, e6, e7, e8⟩ := j_moveO (p1 := a1) (p2 := a2) (p3 := a3) (p4 := a4) (by omega) h.1 hS h.2.2.2.1
    exact ⟨r, nf', X', Y', e1, e2, e3, e4, h.act e4 (e5.mono (by omega)) e6 e7 e8, e7.g, e8.g⟩
theorem O22 : O_22 Iv := fun q nf M a1 a2 a3 hq hI => by
  generalize (((Int32.toInt64 a2) <<< (Int32.toInt64 32 &&& 63)) ||| ((Int32.toInt64 a3) &&& 4294967295)) = u
  refine glue2 (F := fun M => X10_years nf a1 u M) (G := fun M => X11_years a1 u M) (fun Mx Mm h => ?_) hI
  rcases h.2.2.2.2 with hN | ⟨n, W, H, T, K, hS⟩
  · refine ⟨-1, nf, Mx, wI Mm 50 0 0 0, ?_, ?_, Nat.le_refl _, h.1, h.t0.mono (by omega), GX.rf, GM.t0⟩
    · show X10_years nf a1 u Mx = _
      unfold X10_years
      rw [hN.has, bind_e, if_pos rfl]
    · show X11_years a1 u Mm = _
      unfold X11_years
      rw [gLet_e, if_pos hN.t0.2.1]
  · obtain ⟨r, nf', X', Y', e1, e2, e3, e4, e5, e6, e7, e8⟩ := j_yearsO (p := a1) (u := u) (by omega) h.1 hS h.2.2.2.1
    exact ⟨r, nf', X', Y', e1, e2, e3, e4, h.act e4 (e5.mono (by omega)) e6 e7 e8, e7.g, e8.g⟩
theorem O28 : O_28 Iv := fun q nf M a1 hq hI => by
  refine glue2 (F := fun M => X10_perform nf a1 M) (G := fun M => X11_perform a1 M) (fun Mx Mm h => ?_) hI
  rcases h.2.2.2.2 with hN | ⟨n, W, H, T, K, hS⟩
  · refine ⟨-1, nf, Mx, wI Mm 50 0 0 0, ?_, ?_, Nat.le_refl _, h.1, h.t0.mono (by omega), GX.rf, GM.t0⟩
    · show X10_perform nf a1 Mx = _
      unfold X10_perform
      rw [hN.has, bind_e, if_pos rfl]
    · show X11_perform a1 Mm = _
      unfold X11_perform
      rw [gLet_e, if_pos hN.t0.2.1]
      have sr0 : SR Mx (wI Mm 50 0 0 0) := h.t0.2.2.1
      obtain ⟨ns, s1, s2, s3, s4⟩ := sr0
      rcases x10_hasS s1 s2 s3 a1 with ⟨e1, e2⟩ | ⟨e1, e2, s, hs', rfl⟩
      · rw [e2, bind_e, if_pos rfl]
      · rw [e2, bind_e, if_neg (by decide)]
  · obtain ⟨r, nf', X', Y', e1, e2, e3, e4, e5, e6, e7, e8⟩ := j_performO (p := a1) (by omega) h.1 hS h.2.2.2.1 h.2.2.1
    exact ⟨r, nf', X', Y', e1, e2, e3, e4, h.act e4 (e5.mono (by omega)) e6 e7 e8, e7.g, e8.g⟩
end OA
