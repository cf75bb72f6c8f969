/-! touched in vain; triangle -/
theorem fold_any {α β : Type} (F : β → β) (c : α → Bool) (hF : ∀ z, F (F z) = F z) (l : List α) (z : β) : l.foldl (fun z a => if c a = true then F z else z) z = if l.any c = true then F z else z := by
  have h2 : ∀ (l : List α) (z : β), l.foldl (fun z a => if c a = true then F z else z) (F z) = F z := fun l => by
    induction l with
    | nil => intro z; rfl
    | cons a l ih =>
      intro z
      rw [List.foldl_cons]
      cases c a with
      | true => rw [if_pos rfl, hF, ih]
      | false => rw [if_neg (by decide), ih]
  induction l generalizing z with
  | nil => rfl
  | cons a l ih =>
    rw [List.foldl_cons, List.any_cons]
    cases c a with
    | true => rw [if_pos rfl, h2, Bool.true_or, if_pos rfl]
    | false => rw [if_neg (by decide), ih, Bool.false_or]
section VT
variable {n W H T K i j k t tl m nf x y s : Nat} {M Mx Mm Z : gM}
/-- a tile's bit put out -/
def clb (tl : Nat) (z : Int32) : Int32 := z &&& ((1 <<< (nI tl &&& 31)) ^^^ (-1))
theorem clb_i (tl : Nat) (z : Int32) : clb tl (clb tl z) = clb tl z := by
  unfold clb
  rw [Int32.and_assoc, Int32.and_self]
/-- does the shape cover a sample of the tile -/
def cvT (τ : Nat → Int32) (W H T K tl : Nat) : Bool := (tS W H T K tl).any fun a => trC τ (qx K a.1 a.2.2) (qy K a.2.1 a.2.2)
theorem x9_vin (hS : SN m nf n W H T K Mx Mm) (ht : t < n) (htl : tl < tN W H T) (z : Int32) : gIter (fun s => X9_touchedInVain_L34 (nI t) (nI tl) s.1 s.2 Mx) FU (z, nI (fS W H T K tl)) = some (if cvT (ct Mx 0 t) W H T K tl = true then clb tl z else z) := by
  have hd := hS.1.1.1
  have hn := hS.1.1.2.1
  have hN := hd.N
  have hf := hd.t htl
  have go := hS.1.1.2.2.2.2.1
  have g1 := go_first go hd htl
  have g3 := fS_le (m := tl + 1) hd (by omega)
  have ec := c_tileR (σ := Int32 × Int32) hd htl (fun k u => (u, k)) (fun _ => True) (fun p u => gG (gin p 256) (some (if Mx.1 26 t (Int32.toNatClampNeg p) < 0 then u else clb tl u))) (fun s => X9_touchedInVain_L34 (nI t) (nI tl) s.1 s.2 Mx)
    (fun _ _ _ _ _ _ => trivial)
    (fun k u hk _ => by
      have g2 := go_at go hd hk htl
      show X9_touchedInVain_L34 (nI t) (nI tl) u (nI k) Mx = _
      unfold X9_touchedInVain_L34
      rw [gG_t g1.1, g1.2, if_neg (nI_ge hk (by omega)), gG_t (gin_n (k := t) (by omega) (by decide)), gG_t (gin_n g2.1 (by decide)), g2.2, nI_clamp (n := t) (by omega)]
      cases gin (nI (plA ((tA W H T K (tN W H T)).getD k (0, 0, 0)))) 256 with
      | false => rfl
      | true =>
        rw [gG_t rfl, gG_t rfl]
        split <;> rfl)
    (fun u _ => by
      show X9_touchedInVain_L34 (nI t) (nI tl) u _ Mx = _
      unfold X9_touchedInVain_L34
      rw [gG_t g1.1, g1.2, if_pos (nI_le (Nat.le_refl _) (by omega))]) z trivial
  have ec : gIter (fun s => X9_touchedInVain_L34 (nI t) (nI tl) s.1 s.2 Mx) FU (z, nI (fS W H T K tl)) = _ := ec
  rw [ec]
  have cc : gFM (fun (a : Nat × Nat × Nat) z => gG (gin (nI (plA a)) 256) (some (if Mx.1 26 t (Int32.toNatClampNeg (nI (plA a))) < 0 then z else clb tl z))) (tS W H T K tl) z = gFM (fun a z => some (if trC (ct Mx 0 t) (qx K a.1 a.2.2) (qy K a.2.1 a.2.2) = true then clb tl z else z)) (tS W H T K tl) z := gFM_congr (fun _ => True) _ (fun a ha u _ => by
    have q := tS_mem ha
    have hx : a.1 < W := by omega
    have hy : a.2.1 < H := by omega
    have hp : plA a < 256 := plc_lt hd hx hy q.2.2
    have e26 : Mx.1 26 t (plA a) = dvl (ct Mx 0 t) (zt Mx t) K a.1 a.2.1 a.2.2 := (hS.1.2.2.1 t ht).2.2.2.2.2.2.2.1 a.1 a.2.1 a.2.2 hx hy q.2.2
    rw [gG_t (gin_n hp (by decide)), nI_clamp (by omega), e26]
    cases hc : trC (ct Mx 0 t) (qx K a.1 a.2.2) (qy K a.2.1 a.2.2) with
    | true =>
      have bd := trD_k hS.1.1 hS.1.2.2.2.1 ht hx hy hc
      rw [dvl_t hc, if_neg (fun z => by
        have := Int32.lt_iff_toInt_lt.mp z
        have a0 : (0 : Int32).toInt = 0 := rfl
        omega), if_pos rfl]
    | false => rw [dvl_f hc, if_pos (by decide), if_neg (by decide)]) (fun _ _ _ _ _ _ => trivial) z trivial
  rw [cc, gFM_pure (fun (z : Int32) (a : Nat × Nat × Nat) => if trC (ct Mx 0 t) (qx K a.1 a.2.2) (qy K a.2.1 a.2.2) = true then clb tl z else z), fold_any (clb tl) (fun (a : Nat × Nat × Nat) => trC (ct Mx 0 t) (qx K a.1 a.2.2) (qy K a.2.1 a.2.2)) (clb_i tl)]
  rfl
theorem j_vain (hS : SN m nf n W H T K Mx Mm) (ht : t < n) : ∃ v Y, X9_touchedInVain 0 (nI t) Mx = some v ∧ X11_vain (nI t) Mm = some (v, Y) ∧ SameA Mm Y := by
  have hd := hS.1.1.1
  have hN := hd.N
  have go := hS.1.1.2.2.2.2.1
  obtain ⟨z, Y, t1, t2, s7, h7, ak, hz⟩ := j_touched (Or.inl rfl) hS.1 ht
  have ak : AK (ct Mx 0 t) (zt Mx t) (Mx.1 40 0 0) Y := ak
  have md := h7.2.1.1
  have zbit : ∀ i, i < 32 → bi z i = (!cul (trA (ct Mx 0 t)) (Mx.1 40 0 0) && (decide (i < tN W H T) && trT W H T (ct Mx 0 t) i)) := fun i hi => by
    rw [hz]
    cases cul (trA (ct Mx 0 t)) (Mx.1 40 0 0) with
    | true => rw [if_pos rfl, bi_0]; rfl
    | false => rw [if_neg (by decide), bi_bts _ (by omega) hi]; rfl
  obtain ⟨R1, e1, p1⟩ := gI1_FU (step := fun s : Int32 × Int32 => X9_touchedInVain_L10 (nI t) s.1 s.2 Mx) (fun k (u : Int32) => (u, nI k)) (fun k u => ∀ i, i < 32 → bi u i = (bi z i && !(decide (i < k) && cvT (ct Mx 0 t) W H T K i))) (fun u => ∀ i, i < 32 → bi u i = (bi z i && !(decide (i < tN W H T) && cvT (ct Mx 0 t) W H T K i))) 0 (tN W H T) (by omega) (by omega)
    (fun k u hk hp => by
      refine ⟨if cvT (ct Mx 0 t) W H T K k = true then clb k u else u, ?_, fun i hi => ?_⟩
      · show X9_touchedInVain_L10 (nI t) u (nI k) Mx = _
        unfold X9_touchedInVain_L10
        rw [hS.1.1.2.2.2.1.2.2.2.2.2.1, if_neg (nI_ge hk (by omega)), gG_t (gin_n (k := k) (by omega) (by decide)), nI_clamp (n := k) (by omega), go.1 k (by omega), gLet_e, x9_vin hS ht hk, bind_e, gLet_e, nI_1]
      · have hp := hp i hi
        by_cases e : i = k
        · subst e
          rw [decide_eq_false (Nat.lt_irrefl i)] at hp
          rw [decide_eq_true (Nat.lt_succ_self i)]
          cases hc : cvT (ct Mx 0 t) W H T K i with
          | true =>
            rw [if_pos rfl]
            unfold clb
            rw [bi_clr u (by omega) hi, decide_eq_true rfl]
            simp
          | false => rw [if_neg (by decide), hp]; simp
        · have e1 : decide (i < k + 1) = decide (i < k) := by
            by_cases g : i < k
            · rw [decide_eq_true g, decide_eq_true (by omega)]
            · rw [decide_eq_false g, decide_eq_false (by omega)]
          rw [e1, ← hp]
          cases cvT (ct Mx 0 t) W H T K k with
          | true =>
            rw [if_pos rfl]
            unfold clb
            rw [bi_clr u (by omega) hi, decide_eq_false e]
            simp
          | false => rw [if_neg (by decide)])
    (fun u hp => ⟨u, by
      show X9_touchedInVain_L10 (nI t) u (nI (tN W H T)) Mx = _
      unfold X9_touchedInVain_L10
      rw [hS.1.1.2.2.2.1.2.2.2.2.2.1, if_pos (nI_le (Nat.le_refl _) (by omega))], hp⟩) z (fun i hi => by rw [decide_eq_false (by omega)]; simp)
  obtain ⟨R2, e2, p2⟩ := gI1_FU (step := fun s : Int32 × Int32 => X11_vain_L15 z s.1 s.2 Y) (fun k (u : Int32) => (u, nI k)) (fun k u => ∀ i, i < 32 → bi u i = (decide (i < k) && (bi z i && !cvT (ct Mx 0 t) W H T K i))) (fun u => ∀ i, i < 32 → bi u i = (decide (i < tN W H T) && (bi z i && !cvT (ct Mx 0 t) W H T K i))) 0 (tN W H T) (by omega) (by omega)
    (fun k u hk hp => by
      have up : ∀ i, i < 32 → bi (u ||| (1 <<< (nI k &&& 31))) i = (bi u i || decide (i = k)) := fun i hi => by rw [bi_or, bi_1 (by omega) hi]
      have cz : bi z k = true → ((tS W H T K k).countP fun a => cvS (ct Mx 0 t) (Mx.1 40 0 0) K a.1 a.2.1 a.2.2) = 0 ↔ bi z k = true → cvT (ct Mx 0 t) W H T K k = false := by
        constructor
        · intro h hb
          have h := h hb
          have hcu : cul (trA (ct Mx 0 t)) (Mx.1 40 0 0) = false := by
            have := zbit k (by omega)
            rw [hb] at this
            cases hq : cul (trA (ct Mx 0 t)) (Mx.1 40 0 0) with
            | true => rw [hq] at this; exact absurd this (by simp)
            | false => rfl
          rw [List.countP_eq_zero] at h
          unfold cvT
          rw [List.any_eq_false]
          intro a ha
          have := h a ha
          unfold cvS at this
          rw [hcu] at this
          simpa using this
        · intro h hb
          have h := h hb
          unfold cvT at h
          rw [List.any_eq_false] at h
          rw [List.countP_eq_zero]
          intro a ha
          have := h a ha
          unfold cvS
          simp at this
          simp [this]
      have step : X11_vain_L15 z u (nI k) Y = some (.inl (if bi z k = true ∧ ((tS W H T K k).countP fun a => cvS (ct Mx 0 t) (Mx.1 40 0 0) K a.1 a.2.1 a.2.2) = 0 then u ||| (1 <<< (nI k &&& 31)) else u, nI (k + 1))) := by
        unfold X11_vain_L15
        rw [x11_all hd md, bind_e, if_neg (nI_ge hk (by omega)), x11_hasB z (by omega), bind_e, x11_covIn hd md ak hk, bind_e]
        cases hb : bi z k with
        | false => rw [if_pos (by decide), gLet_e, gLet_e, nI_1, Int32.or_zero, if_neg (by simp)]
        | true =>
          rw [if_neg (by decide)]
          by_cases hc : ((tS W H T K k).countP fun a => cvS (ct Mx 0 t) (Mx.1 40 0 0) K a.1 a.2.1 a.2.2) = 0
          · rw [hc, if_pos (show nI 0 = (0 : Int32) from rfl), gLet_e, gLet_e, nI_1, if_pos ⟨rfl, rfl⟩]
          · have hl : ((tS W H T K k).countP fun a => cvS (ct Mx 0 t) (Mx.1 40 0 0) K a.1 a.2.1 a.2.2) ≤ 256 := by
              refine Nat.le_trans List.countP_le_length ?_
              have := fS_le (m := k + 1) hd (by omega)
              rw [fS_succ] at this
              omega
            rw [if_neg (nI_ne0 (by omega) (by omega)), gLet_e, gLet_e, nI_1, Int32.or_zero, if_neg (fun z => hc z.2)]
      refine ⟨_, step, fun i hi => ?_⟩
      have hp := hp i hi
      by_cases e : i = k
      · subst e
        rw [decide_eq_true (Nat.lt_succ_self i), Bool.true_and]
        rw [decide_eq_false (Nat.lt_irrefl i), Bool.false_and] at hp
        cases hb : bi z i with
        | false => rw [if_neg (by simp), hp]; rfl
        | true =>
          by_cases hc : ((tS W H T K i).countP fun a => cvS (ct Mx 0 t) (Mx.1 40 0 0) K a.1 a.2.1 a.2.2) = 0
          · rw [if_pos ⟨rfl, hc⟩, up i hi, hp, cz.mp (fun _ => hc) hb, decide_eq_true rfl]
            rfl
          · have : cvT (ct Mx 0 t) W H T K i = true := by
              cases hv : cvT (ct Mx 0 t) W H T K i with
              | true => rfl
              | false => exact absurd (cz.mpr (fun _ => hv) hb) hc
            rw [if_neg (fun z => hc z.2), hp, this]
            rfl
      · have e1 : decide (i < k + 1) = decide (i < k) := by
          by_cases g : i < k
          · rw [decide_eq_true g, decide_eq_true (by omega)]
          · rw [decide_eq_false g, decide_eq_false (by omega)]
        rw [e1, ← hp]
        split
        · rw [up i hi, decide_eq_false e, Bool.or_false]
        · rfl)
    (fun u hp => ⟨u, by
      show X11_vain_L15 z u (nI (tN W H T)) Y = _
      unfold X11_vain_L15
      rw [x11_all hd md, bind_e, if_pos (nI_le (Nat.le_refl _) (by omega))], hp⟩) 0 (fun i hi => by rw [bi_0, decide_eq_false (by omega), Bool.false_and])
  have e1 : gIter (fun s : Int32 × Int32 => X9_touchedInVain_L10 (nI t) s.1 s.2 Mx) FU (z, 0) = some R1 := e1
  have e2 : gIter (fun s : Int32 × Int32 => X11_vain_L15 z s.1 s.2 Y) FU (0, 0) = some R2 := e2
  have eR : R1 = R2 := bi_ext fun i hi => by
    rw [p1 i hi, p2 i hi, zbit i hi]
    cases decide (i < tN W H T) <;> cases cul (trA (ct Mx 0 t)) (Mx.1 40 0 0) <;> cases trT W H T (ct Mx 0 t) i <;> cases cvT (ct Mx 0 t) W H T K i <;> rfl
  subst eR
  refine ⟨R1, Y, ?_, ?_, s7⟩
  · unfold X9_touchedInVain
    rw [t1, bind_e, e1]
    rfl
  · unfold X11_vain
    rw [t2, bind_e, gU2_e, e2]
    rfl
end VT
