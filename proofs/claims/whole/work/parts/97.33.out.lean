/-! samples outside the picture keep their color -/
def SWc (W H K c : Nat) : Prop := ∃ x y s, x < W ∧ y < H ∧ s < K ∧ c = plc x y s
def PV (W H K i : Nat) (M M' : gM) : Prop := (∀ a b c, 12 ≤ a → a ≤ 14 → M'.1 a b c = M.1 a b c) ∧ ∀ c, ¬ SWc W H K c → M'.1 35 i c = M.1 35 i c
theorem gI_pres {σ ε : Type} {step : σ → Option (σ ⊕ ε)} (I : σ → Prop) (P : ε → Prop) (hs : ∀ s s', I s → step s = some (.inl s') → I s') (he : ∀ s e, I s → step s = some (.inr e) → P e) : ∀ n s e, I s → gIter step n s = some e → P e := by
  intro n
  induction n with
  | zero =>
    intro s e _ h
    unfold gIter at h
    cases h
  | succ n ih =>
    intro s e hI h
    unfold gIter at h
    cases hq : step s with
    | none =>
      rw [hq] at h
      cases h
    | some r =>
      rw [hq] at h
      cases r with
      | inl s' => exact ih s' e (hs s s' hI hq) h
      | inr e' =>
        cases h
        exact he s _ hI hq
section PVS
variable {n W H T K i j k t tl m nf : Nat} {M M' M'' Mx Mm : gM} {p x2 x5 x6 x7 v r : Int32} {u : Int64}
theorem PV.rf : PV W H K i M M := ⟨fun _ _ _ _ _ => rfl, fun _ _ => rfl⟩
theorem PV.tr (h : PV W H K i M M') (h' : PV W H K i M' M'') : PV W H K i M M'' := ⟨fun a b c h1 h2 => (h'.1 a b c h1 h2).trans (h.1 a b c h1 h2), fun c hc => (h'.2 c hc).trans (h.2 c hc)⟩
theorem PV.w {a b c : Nat} (ha : ¬ (12 ≤ a ∧ a ≤ 14) ∧ a ≠ 35) : PV W H K i M (wI M a b c v) := ⟨fun a' b' c' h1 h2 => w_n (by omega), fun c' _ => w_n (by omega)⟩
theorem PV.w5 {c : Nat} (hc : SWc W H K c) : PV W H K i M (wI M 35 i c v) := ⟨fun a' b' c' h1 h2 => w_n (by omega), fun c' h => w_n (fun z => h (by rw [z.2.2]; exact hc))⟩
theorem PV.l {a b c : Nat} : PV W H K i M (wL M a b c u) := ⟨fun _ _ _ _ _ => rfl, fun _ _ => rfl⟩
theorem pv_shade (h : X9_shadePending i p M = some M') (hp : SWc W H K (Int32.toNatClampNeg p)) : PV W H K i M M' := by
  unfold X9_shadePending at h
  have h := (gG_some h).2
  rw [gLet_e] at h
  split at h
  · have h := (gG_some h).2
    rw [gLet_e] at h
    cases h
    exact PV.w (by omega)
  · split at h
    · have h := (gG_some h).2
      rw [gLet_e] at h
      cases h
      exact PV.w (by omega)
    · have h := (gG_some (gG_some (gG_some h).2).2).2
      rw [gLet_e] at h
      have h := (gG_some (gG_some h).2).2
      rw [gLet_e] at h
      have h := (gG_some h).2
      rw [gLet_e] at h
      cases h
      exact ((PV.w5 hp).tr PV.l).tr (PV.w (by omega))
theorem pv_blend (h : X9_blend i x2 p M = some M') (hp : SWc W H K (Int32.toNatClampNeg p)) : PV W H K i M M' := by
  unfold X9_blend at h
  have h := (gG_some h).2
  rw [gLet_e] at h
  have h := (gG_some (gG_some h).2).2
  rw [gLet_e] at h
  have h := (gG_some (gG_some h).2).2
  rw [gLet_e] at h
  have h := (gG_some (gG_some h).2).2
  rw [gLet_e] at h
  cases h
  exact (PV.w5 hp).tr PV.l
theorem pv_pass (h : X9_passes i x2 p M = some (r, M')) : PV W H K i M M' := by
  unfold X9_passes at h
  split at h
  · rw [gLet_e] at h
    have h := (gG_some h).2
    split at h <;> (cases h; exact PV.w (by omega))
  · cases h
    exact PV.rf
/-- the grid, as far as it is needed here -/
def GK (W H T K : Nat) (M : gM) : Prop := dOk W H T K ∧ GD W H T K M ∧ GO W H T K M
theorem GK.pv (h : GK W H T K M) (g : PV W H K i M M') : GK W H T K M' := ⟨h.1, gD_of h.2.1 (fun c => g.1 12 0 c (by omega) (by omega)), gO_of h.2.2 (fun c => g.1 13 0 c (by omega) (by omega)) (fun c => g.1 14 0 c (by omega) (by omega))⟩
theorem gk_at (h : GK W H T K M) (htl : tl < tN W H T) (h1 : ¬ M.1 14 0 (Int32.toNatClampNeg (nI tl + 1)) ≤ x7) (h2 : gin x7 256 = true) : SWc W H K (Int32.toNatClampNeg (M.1 13 0 (Int32.toNatClampNeg x7))) := by
  obtain ⟨hd, hg, go⟩ := h
  have hN := hd.N
  have g1 := go_first go hd htl
  rw [g1.2] at h1
  have g3 := fS_le (m := tl + 1) hd (by omega)
  have hin : ¬ (x7 < 0 ∨ 256 ≤ x7.toNatClampNeg) := of_decide_eq_true h2
  have a0 : ¬ x7 < 0 := fun z => hin (Or.inl z)
  obtain ⟨k, hk, rfl⟩ := arg a0 h1 (by omega)
  obtain ⟨l, hl⟩ := tA_pre (W := W) (H := H) (T := T) (K := K) (show tl + 1 ≤ tN W H T by omega)
  have hk2 : k < W * H * K := by
    rw [← tA_len hd, hl, List.length_append]
    unfold fS at hk
    omega
  have hb := tA_mem hd (Nat.le_refl _) (tA_getD hd hk2)
  have hp := plc_lt hd hb.1 hb.2.1 hb.2.2
  rw [nI_clamp (n := k) (by omega), go.2 k hk2]
  refine ⟨_, _, _, hb.1, hb.2.1, hb.2.2, ?_⟩
  exact nI_clamp (by unfold plA; omega)
theorem pv_l50 {i4 : Nat} (hG : GK W H T K M) (htl : tl < tN W H T) {o : (Int32 × gM) ⊕ gM} (h : X9_layOne_L50 i x2 (nI tl) i4 x5 x6 x7 M = some o) : (∀ s', o = .inl s' → PV W H K i M s'.2) ∧ (∀ e, o = .inr e → PV W H K i M e) := by
  have key : ∃ M', PV W H K i M M' ∧ ((∃ x, o = .inl (x, M')) ∨ o = .inr M') := by
    unfold X9_layOne_L50 at h
    have h := (gG_some h).2
    split at h
    · cases h
      exact ⟨M, PV.rf, Or.inr rfl⟩
    · next hq =>
      obtain ⟨h2, h⟩ := gG_some h
      have hp := gk_at hG htl hq h2
      rw [gLet_e] at h
      have h := (gG_some h).2
      obtain ⟨⟨r13, M14⟩, p1, h⟩ := gBind_some h
      have v1 : PV W H K i M M14 := pv_pass p1
      rw [gU2_e] at h
      split at h
      · rw [gLet_e] at h
        cases h
        exact ⟨_, v1, Or.inl ⟨_, rfl⟩⟩
      · split at h
        · have h := (gG_some (gG_some h).2).2
          rw [gLet_e] at h
          have h := (gG_some h).2
          rw [gLet_e] at h
          split at h
          · obtain ⟨M25, p2, h⟩ := gBind_some h
            rw [gLet_e] at h
            cases h
            exact ⟨_, ((v1.tr (PV.w (by omega))).tr (PV.w (by omega))).tr (pv_shade p2 hp), Or.inl ⟨_, rfl⟩⟩
          · rw [gLet_e] at h
            cases h
            exact ⟨_, (v1.tr (PV.w (by omega))).tr (PV.w (by omega)), Or.inl ⟨_, rfl⟩⟩
        · obtain ⟨M28, p2, h⟩ := gBind_some h
          obtain ⟨M30, p3, h⟩ := gBind_some h
          rw [gLet_e] at h
          cases h
          exact ⟨_, (v1.tr (pv_shade p2 hp)).tr (pv_blend p3 hp), Or.inl ⟨_, rfl⟩⟩
  obtain ⟨M', v, hh⟩ := key
  refine ⟨fun s' e => ?_, fun e' e => ?_⟩
  · rcases hh with ⟨x, rfl⟩ | rfl
    · cases e
      exact v
    · cases e
  · rcases hh with ⟨x, rfl⟩ | rfl
    · cases e
    · cases e
      exact v
theorem pv_lay (hG : GK W H T K M) (htl : tl < tN W H T) (h : X9_layOne i p (nI tl) M = some M') : PV W H K i M M' := by
  unfold X9_layOne at h
  have h := (gG_some (gG_some h).2).2
  rw [gLet_e] at h
  have lp : ∀ {i4 : Nat} {a b c : Int32} {e : gM}, gIter (fun s : Int32 × gM => X9_layOne_L50 i p (nI tl) i4 a b s.1 s.2) FU (c, M) = some e → PV W H K i M e := fun {i4 a b c e} hg => by
    refine gI_pres (fun s : Int32 × gM => PV W H K i M s.2) (fun e => PV W H K i M e) (fun s s' hI hs => ?_) (fun s e hI hs => ?_) FU (c, M) e PV.rf hg
    · exact PV.tr hI ((pv_l50 (hG.pv hI) htl hs).1 s' rfl)
    · exact PV.tr hI ((pv_l50 (hG.pv hI) htl hs).2 e rfl)
  split at h
  · have h := (gG_some h).2
    rw [gLet_e] at h
    obtain ⟨e, h1, h⟩ := gBind_some h
    cases h
    exact lp h1
  · have h := (gG_some h).2
    rw [gLet_e] at h
    obtain ⟨e, h1, h⟩ := gBind_some h
    cases h
    exact lp h1
theorem pv_f28 (hG : GK W H T K M) (htl : tl < tN W H T) {x3 x4 : Int32} {o : (Int32 × gM) ⊕ gM} (h : X9_flushTile_L28 i (nI tl) x3 x4 M = some o) : (∀ s', o = .inl s' → PV W H K i M s'.2) ∧ (∀ e, o = .inr e → PV W H K i M e) := by
  have key : ∃ M', PV W H K i M M' ∧ ((∃ x, o = .inl (x, M')) ∨ o = .inr M') := by
    unfold X9_flushTile_L28 at h
    split at h
    · cases h
      exact ⟨M, PV.rf, Or.inr rfl⟩
    · have h := (gG_some h).2
      rw [gLet_e] at h
      obtain ⟨r10, -, h⟩ := gBind_some h
      split at h
      · rw [gLet_e] at h
        cases h
        exact ⟨M, PV.rf, Or.inl ⟨_, rfl⟩⟩
      · obtain ⟨r13, -, h⟩ := gBind_some h
        split at h
        · obtain ⟨r16, -, h⟩ := gBind_some h
          split at h
          · obtain ⟨M20, p1, h⟩ := gBind_some h
            rw [gLet_e] at h
            cases h
            exact ⟨_, pv_lay hG htl p1, Or.inl ⟨_, rfl⟩⟩
          · rw [gLet_e] at h
            cases h
            exact ⟨M, PV.rf, Or.inl ⟨_, rfl⟩⟩
        · rw [gLet_e, gLet_e] at h
          cases h
          exact ⟨_, PV.w (by omega), Or.inl ⟨_, rfl⟩⟩
  obtain ⟨M', v, hh⟩ := key
  refine ⟨fun s' e => ?_, fun e' e => ?_⟩
  · rcases hh with ⟨x, rfl⟩ | rfl
    · cases e
      exact v
    · cases e
  · rcases hh with ⟨x, rfl⟩ | rfl
    · cases e
    · cases e
      exact v
theorem pv_f129 (hG : GK W H T K M) (htl : tl < tN W H T) {x3 x4 : Int32} {o : (Int32 × gM) ⊕ gM} (h : X9_flushTile_L129 i (nI tl) x3 x4 M = some o) : (∀ s', o = .inl s' → PV W H K i M s'.2) ∧ (∀ e, o = .inr e → PV W H K i M e) := by
  unfold X9_flushTile_L129 at h
  have h := (gG_some h).2
  split at h
  · cases h
    exact ⟨fun s' e => (by cases e), fun e' e => (by cases e; exact PV.rf)⟩
  · next hq =>
    obtain ⟨h2, h⟩ := gG_some h
    obtain ⟨M34, p1, h⟩ := gBind_some h
    rw [gLet_e] at h
    cases h
    exact ⟨fun s' e => (by cases e; exact pv_shade p1 (gk_at hG htl hq h2)), fun e' e => (by cases e)⟩
theorem pv_flush (hG : GK W H T K M) (h : X9_flushTile i p M = some (r, M')) : PV W H K i M M' := by
  have hN := hG.1.N
  unfold X9_flushTile X1_hasTile at h
  rw [hG.2.1.2.2.2.2.2.1] at h
  by_cases c0 : p < 0
  · rw [if_pos c0, bind_e, if_pos rfl] at h
    cases h
    exact PV.rf
  · rw [if_neg c0] at h
    by_cases c1 : nI (tN W H T) ≤ p
    · rw [if_pos c1, bind_e, if_pos rfl] at h
      cases h
      exact PV.rf
    · obtain ⟨tl, htl, rfl⟩ := arg c0 c1 (by omega)
      rw [if_neg c1, bind_e, if_neg (show ¬ (1 : Int32) = 0 by decide)] at h
      have h := (gG_some h).2
      rw [gLet_e] at h
      obtain ⟨M25, p1, h⟩ := gBind_some h
      have v1 : PV W H K i M M25 := gI_pres (fun s : Int32 × gM => PV W H K i M s.2) (fun e => PV W H K i M e) (fun s s' hI hs => PV.tr hI ((pv_f28 (hG.pv hI) htl hs).1 s' rfl)) (fun s e hI hs => PV.tr hI ((pv_f28 (hG.pv hI) htl hs).2 e rfl)) FU (0, M) M25 PV.rf p1
      have h := (gG_some h).2
      rw [gLet_e] at h
      have h := (gG_some h).2
      rw [gLet_e] at h
      obtain ⟨M36, p2, h⟩ := gBind_some h
      have v2 := v1.tr (PV.w (M := M25) (W := W) (H := H) (K := K) (i := i) (a := 38) (b := i) (c := Int32.toNatClampNeg (nI tl)) (v := 0) (by omega))
      have v3 : PV W H K i M M36 := gI_pres (fun s : Int32 × gM => PV W H K i M s.2) (fun e => PV W H K i M e) (fun s s' hI hs => PV.tr hI ((pv_f129 (hG.pv hI) htl hs).1 s' rfl)) (fun s e hI hs => PV.tr hI ((pv_f129 (hG.pv hI) htl hs).2 e rfl)) FU _ M36 v2 p2
      split at h
      · cases h
        exact v3
      · rw [gLet_e] at h
        cases h
        exact v3.tr (PV.w (by omega))
theorem pv_all (hG : GK W H T K M) (h : X9_flushAll i M = some (r, M')) : PV W H K i M M' := by
  unfold X9_flushAll at h
  obtain ⟨⟨x2, M10⟩, p1, h⟩ := gBind_some h
  cases h
  refine gI_pres (fun s : Int32 × Int32 × gM => PV W H K i M s.2.2) (fun e : Int32 × gM => PV W H K i M e.2) (fun s s' hI hs => ?_) (fun s e hI hs => ?_) FU (0, 0, M) _ PV.rf p1
  · unfold X9_flushAll_L4 at hs
    split at hs
    · cases hs
    · obtain ⟨⟨r3, M4⟩, q1, hs⟩ := gBind_some hs
      rw [gU2_e] at hs
      split at hs
      · cases hs
        exact PV.tr hI (pv_flush (hG.pv hI) q1)
      · cases hs
        exact PV.tr hI (pv_flush (hG.pv hI) q1)
  · unfold X9_flushAll_L4 at hs
    split at hs
    · cases hs
      exact hI
    · obtain ⟨⟨r3, M4⟩, q1, hs⟩ := gBind_some hs
      rw [gU2_e] at hs
      split at hs <;> cases hs
theorem pv_88 {x3 x4 x8 : Int32} {o : (Int32 × Int32 × gM) ⊕ (Int32 × gM)} (h : X9_drawOne_J88 i x2 x3 x4 x8 M = some o) : ∃ a b M', o = .inl (a, b, M') ∧ PV W H K i M M' := by
  unfold X9_drawOne_J88 at h
  have h := (gG_some (gG_some h).2).2
  rw [gLet_e] at h
  have h := (gG_some (gG_some h).2).2
  rw [gLet_e, gLet_e, gLet_e] at h
  cases h
  exact ⟨_, _, _, rfl, (PV.w (by omega)).tr (PV.w (by omega))⟩
theorem pv_80 (hG : GK W H T K M) {x3 x4 x8 : Int32} {o : (Int32 × Int32 × gM) ⊕ (Int32 × gM)} (h : X9_drawOne_J80 i x2 x3 x4 x8 M = some o) : ∃ a b M', o = .inl (a, b, M') ∧ PV W H K i M M' := by
  unfold X9_drawOne_J80 at h
  obtain ⟨⟨r9, M10⟩, p1, h⟩ := gBind_some h
  rw [gU2_e] at h
  obtain ⟨a, b, M', e, v⟩ := pv_88 (W := W) (H := H) (K := K) h
  exact ⟨a, b, M', e, (pv_flush hG p1).tr v⟩
theorem pv_draw (hG : GK W H T K M) (h : X9_drawOne i p M = some (r, M')) : PV W H K i M M' := by
  have lp : ∀ {z : Int32} {e : Int32 × gM}, gIter (fun s : Int32 × Int32 × gM => X9_drawOne_L28 i p z s.1 s.2.1 s.2.2) FU (0, 0, M) = some e → PV W H K i M e.2 := fun {z e} hg => by
    refine gI_pres (fun s : Int32 × Int32 × gM => PV W H K i M s.2.2) (fun e : Int32 × gM => PV W H K i M e.2) (fun s s' hI hs => ?_) (fun s e hI hs => ?_) FU (0, 0, M) e PV.rf hg
    · unfold X9_drawOne_L28 at hs
      split at hs
      · cases hs
      · split at hs
        · cases hs
          exact hI
        · have hs := (gG_some hs).2
          split at hs
          · obtain ⟨a, b, M', e, v⟩ := pv_80 (hG.pv hI) hs
            cases e
            exact PV.tr hI v
          · have hs := (gG_some hs).2
            split at hs
            · obtain ⟨a, b, M', e, v⟩ := pv_88 (W := W) (H := H) (K := K) hs
              cases e
              exact PV.tr hI v
            · obtain ⟨a, b, M', e, v⟩ := pv_80 (hG.pv hI) hs
              cases e
              exact PV.tr hI v
    · unfold X9_drawOne_L28 at hs
      split at hs
      · cases hs
        exact hI
      · split at hs
        · cases hs
        · have hs := (gG_some hs).2
          split at hs
          · obtain ⟨a, b, M', e, v⟩ := pv_80 (hG.pv hI) hs
            cases e
          · have hs := (gG_some hs).2
            split at hs
            · obtain ⟨a, b, M', e, v⟩ := pv_88 (W := W) (H := H) (K := K) hs
              cases e
            · obtain ⟨a, b, M', e, v⟩ := pv_80 (hG.pv hI) hs
              cases e
  unfold X9_drawOne at h
  obtain ⟨r2, -, h⟩ := gBind_some h
  split at h
  · obtain ⟨⟨a, b⟩, p1, h⟩ := gBind_some h
    cases h
    exact lp p1
  · obtain ⟨r25, -, h⟩ := gBind_some h
    obtain ⟨⟨a, b⟩, p1, h⟩ := gBind_some h
    cases h
    exact lp p1
end PVS
