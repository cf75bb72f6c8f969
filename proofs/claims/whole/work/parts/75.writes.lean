/-! joint writes -/
section JW
variable {n W H T K i j k t : Nat} {w w' : Nat → Int32} {M M' Mx Mm Mx' Mm' : gM} {v : Int32}
theorem FS.dep (h : FS n i w M) (hk : k < 256) (h1 : 0 ≤ v.toInt) (h2 : v.toInt ≤ 1000) : FS n i (up w k v) (wI M 34 i k v) := by
  intro c hc
  have e := h c hc
  rw [w_n (a := 35) (by omega), w_n (a := 36) (by omega), up_n (c := 256 + c) (by omega), up_n (c := 512 + c) (by omega)]
  refine ⟨?_, e.2.1, e.2.2.1, e.2.2.2.imp id fun ⟨t, h1, h2, h3⟩ => ⟨t, h1, h2, ?_⟩⟩
  · by_cases q : c = k
    · rw [q, w_e, up_e rfl]
      exact ⟨rfl, h1, h2⟩
    · rw [w_n (by omega), up_n q]
      exact e.1
  · rw [ct_of (fun c => w_n (by omega))]
    exact h3
theorem FS.col (h : FS n i w M) (hk : k < 256) : FS n i (up w (256 + k) v) (wI M 35 i k v) := by
  intro c hc
  have e := h c hc
  rw [w_n (a := 34) (by omega), w_n (a := 36) (by omega), up_n (c := c) (by omega), up_n (c := 512 + c) (by omega)]
  refine ⟨e.1, ?_, e.2.2.1, e.2.2.2.imp id fun ⟨t, h1, h2, h3⟩ => ⟨t, h1, h2, ?_⟩⟩
  · by_cases q : c = k
    · rw [q, w_e, up_e rfl]
    · rw [w_n (by omega), up_n (by omega)]
      exact e.2.1
  · rw [ct_of (fun c => w_n (by omega))]
    exact h3
theorem FS.pen (h : FS n i w M) (hk : k < 256) (hv : v = -1 ∨ ∃ t, t < n ∧ v = nI t ∧ ¬ trA (ct M i t) = 0) : FS n i (up w (512 + k) v) (wI M 36 i k v) := by
  intro c hc
  have e := h c hc
  rw [w_n (a := 34) (by omega), w_n (a := 35) (by omega), up_n (c := c) (by omega), up_n (c := 256 + c) (by omega)]
  refine ⟨e.1, e.2.1, ?_⟩
  by_cases q : c = k
  · rw [q, w_e, up_e rfl]
    refine ⟨rfl, hv.imp id fun ⟨t, h1, h2, h3⟩ => ⟨t, h1, h2, ?_⟩⟩
    rw [ct_of (fun c => w_n (by omega))]
    exact h3
  · rw [w_n (by omega), up_n (by omega)]
    refine ⟨e.2.2.1, e.2.2.2.imp id fun ⟨t, h1, h2, h3⟩ => ⟨t, h1, h2, ?_⟩⟩
    rw [ct_of (fun c => w_n (by omega))]
    exact h3
theorem RJ.dep (hj : j = 8 ∨ j = 9) (h : RJ n W H T K i j Mx Mm) (hk : k < 256) (h1 : 0 ≤ v.toInt) (h2 : v.toInt ≤ 1000) : RJ n W H T K i j (wI Mx 34 i k v) (wI Mm 52 j k v) := by
  have hn := h.1.2.1
  refine h.of hj (OX.w (by unfold xQ; omega)).b (OM.w (by omega)).b ?_ ?_ ?_ <;> rw [up_w]
  · exact h.2.2.2.2.2.1.dep hk h1 h2
  · exact h.2.2.2.2.2.2.1.of (fun a c ha => w_n (by omega)) (fun c h1 h2 => up_n (by omega))
  · exact h.2.2.2.2.2.2.2.of (by omega) (fun c => rfl) (fun c h1 h2 => w_n (by omega)) (fun c h1 h2 => up_n (by omega))
theorem RJ.col (hj : j = 8 ∨ j = 9) (h : RJ n W H T K i j Mx Mm) (hk : k < 256) : RJ n W H T K i j (wI Mx 35 i k v) (wI Mm 52 j (256 + k) v) := by
  have hn := h.1.2.1
  refine h.of hj (OX.w (by unfold xQ; omega)).b (OM.w (by omega)).b ?_ ?_ ?_ <;> rw [up_w]
  · exact h.2.2.2.2.2.1.col hk
  · exact h.2.2.2.2.2.2.1.of (fun a c ha => w_n (by omega)) (fun c h1 h2 => up_n (by omega))
  · exact h.2.2.2.2.2.2.2.of (by omega) (fun c => rfl) (fun c h1 h2 => w_n (by omega)) (fun c h1 h2 => up_n (by omega))
theorem RJ.pen (hj : j = 8 ∨ j = 9) (h : RJ n W H T K i j Mx Mm) (hk : k < 256) (hv : v = -1 ∨ ∃ t, t < n ∧ v = nI t ∧ ¬ trA (ct Mx i t) = 0) : RJ n W H T K i j (wI Mx 36 i k v) (wI Mm 52 j (512 + k) v) := by
  have hn := h.1.2.1
  refine h.of hj (OX.w (by unfold xQ; omega)).b (OM.w (by omega)).b ?_ ?_ ?_ <;> rw [up_w]
  · exact h.2.2.2.2.2.1.pen hk hv
  · exact h.2.2.2.2.2.2.1.of (fun a c ha => w_n (by omega)) (fun c h1 h2 => up_n (by omega))
  · exact h.2.2.2.2.2.2.2.of (by omega) (fun c => rfl) (fun c h1 h2 => w_n (by omega)) (fun c h1 h2 => up_n (by omega))
theorem RJ.cnt (hj : j = 8 ∨ j = 9) (h : RJ n W H T K i j Mx Mm) (hk : k = 10 ∨ k = 11 ∨ k = 12) : RJ n W H T K i j (wI Mx 33 i k (Mx.1 33 i k + 1)) (wI Mm 52 j (1044 + k) (Mm.1 52 j (1044 + k) + 1)) := by
  have hn := h.1.2.1
  refine h.of hj (OX.w (by unfold xQ; omega)).b (OM.w (by omega)).b ?_ ?_ ?_ <;> rw [up_w]
  · exact h.2.2.2.2.2.1.of (fun a c ha => w_n (by omega)) (fun c h1 => up_n (by omega))
  · exact h.2.2.2.2.2.2.1.of (fun a c ha => w_n (by omega)) (fun c h1 h2 => up_n (by omega))
  · have f := h.2.2.2.2.2.2.2
    refine ⟨fun t ht => ?_, f.2.1, ?_⟩
    · rw [up_n (by omega), up_n (by omega)]
      exact f.1 t ht
    · obtain ⟨f1, f2, f3⟩ := f.2.2
      rcases hk with rfl | rfl | rfl
      · rw [w_e, w_n (by omega), w_n (by omega), up_e rfl, up_n (by omega), up_n (by omega), f1]
        exact ⟨rfl, f2, f3⟩
      · rw [w_e, w_n (by omega), w_n (by omega), up_e rfl, up_n (by omega), up_n (by omega), f2]
        exact ⟨f1, rfl, f3⟩
      · rw [w_e, w_n (by omega), w_n (by omega), up_e rfl, up_n (by omega), up_n (by omega), f3]
        exact ⟨f1, f2, rfl⟩
theorem RJ.ask (hj : j = 8 ∨ j = 9) (h : RJ n W H T K i j Mx Mm) (s : SameA Mm Mm') : RJ n W H T K i j Mx Mm' := by
  have hr := s.row (j := j) (by omega)
  refine h.of hj (OX.rf i Mx).b (OM.ask s).b ?_ ?_ ?_ <;> rw [hr]
  · exact h.2.2.2.2.2.1
  · exact h.2.2.2.2.2.2.1
  · exact h.2.2.2.2.2.2.2
def lq (x y : Nat) : Int32 := 1 <<< (nI (8 * (y % 4) + x) &&& 31)
def lqL (m : Nat) : Int64 := 1 <<< (Int32.toInt64 (nI m) &&& 63)
theorem lit_j {x y : Nat} (hx : x < 8) (hy : y < 8) {a b : Int32} : j64 b a ||| lqL (8 * y + x) = if y < 4 then j64 b (a ||| lq x y) else j64 (b ||| lq x y) a := by
  unfold lq lqL
  by_cases h : y < 4
  · rw [if_pos h, lit_lo (by omega), Nat.mod_eq_of_lt h]
  · rw [if_neg h, show 8 * y + x = (8 * (y % 4) + x) + 32 by omega, lit_hi (by omega)]
theorem RJ.lit (hj : j = 8 ∨ j = 9) (h : RJ n W H T K i j Mx Mm) (ht : t < n) {x y : Nat} (hx : x < 8) (hy : y < 8) : RJ n W H T K i j (wL Mx 41 i t (Mx.2 41 i t ||| lqL (8 * y + x))) (wI Mm 52 j (1034 + 2 * t + y / 4) (Mm.1 52 j (1034 + 2 * t + y / 4) ||| lq x y)) := by
  have hn := h.1.2.1
  refine h.of hj OX.wl.b (OM.w (by omega)).b ?_ ?_ ?_ <;> rw [up_w]
  · exact h.2.2.2.2.2.1.of (fun a c ha => rfl) (fun c h1 => up_n (by omega))
  · exact h.2.2.2.2.2.2.1.of (fun a c ha => rfl) (fun c h1 h2 => up_n (by omega))
  · have f := h.2.2.2.2.2.2.2
    refine ⟨fun u hu => ?_, fun u h1 h2 => ?_, ?_⟩
    · rw [r2_wL]
      by_cases e : u = t
      · subst e
        rw [if_pos ⟨rfl, rfl, rfl⟩, f.1 u hu, lit_j hx hy]
        by_cases h4 : y < 4
        · rw [if_pos h4, up_n (c := 1034 + 2 * u + 1) (by omega), up_e (by omega), show 1034 + 2 * u + y / 4 = 1034 + 2 * u by omega]
        · rw [if_neg h4, up_n (c := 1034 + 2 * u) (by omega), up_e (by omega), show 1034 + 2 * u + y / 4 = 1034 + 2 * u + 1 by omega]
      · rw [if_neg (fun z => e z.2.2), up_n (by omega), up_n (by omega)]
        exact f.1 u hu
    · rw [r2_wL, if_neg (by omega)]
      exact f.2.1 u h1 h2
    · rw [up_n (by omega), up_n (by omega), up_n (by omega)]
      exact f.2.2
theorem RJ.bin0 (hj : j = 8 ∨ j = 9) (h : RJ n W H T K i j Mx Mm) (ht : t < 16) : RJ n W H T K i j (wI Mx 38 i t 0) (wI Mm 52 j (768 + 11 * t) 0) := by
  have hn := h.1.2.1
  refine h.of hj (OXB.w (by unfold xB; omega)) (OMB.w (by omega)) ?_ ?_ ?_ <;> rw [up_w]
  · exact h.2.2.2.2.2.1.of (fun a c ha => w_n (by omega)) (fun c h1 => up_n (by omega))
  · intro u hu
    obtain ⟨b, h1, h2, h3, h4, h5⟩ := h.2.2.2.2.2.2.1 u hu
    by_cases e : u = t
    · subst e
      exact ⟨0, by omega, w_e, up_e rfl, fun _ => rfl, fun k hk => absurd hk (by omega)⟩
    · refine ⟨b, h1, ?_, ?_, h4, fun k hk => ?_⟩
      · rw [w_n (by omega)]; exact h2
      · rw [up_n (by omega)]; exact h3
      · rw [w_n (by omega), up_n (by omega)]; exact h5 k hk
  · exact h.2.2.2.2.2.2.2.of (by omega) (fun c => rfl) (fun c h1 h2 => w_n (by omega)) (fun c h1 h2 => up_n (by omega))
theorem RJ.push {b u : Nat} (hj : j = 8 ∨ j = 9) (h : RJ n W H T K i j Mx Mm) (ht : t < tN W H T) (hb : b < 10) (hu : u < n) (eb : Mx.1 38 i t = nI b) :
    RJ n W H T K i j (wI (wI Mx 37 i (10 * t + b) (nI u)) 38 i t (nI (b + 1))) (wI (wI Mm 52 j (768 + 11 * t) (nI (b + 1))) 52 j (768 + 11 * t + (b + 1)) (nI u)) := by
  have hn := h.1.2.1
  have hN := h.1.1.N
  refine h.of hj ((OXB.w (by unfold xB; omega)).tr (OXB.w (by unfold xB; omega))) ((OMB.w (by omega)).tr (OMB.w (by omega))) ?_ ?_ ?_ <;> rw [up_w, up_w]
  · exact h.2.2.2.2.2.1.of (fun a c ha => by rw [w_n (by omega), w_n (by omega)]) (fun c h1 => by rw [up_n (by omega), up_n (by omega)])
  · intro t' ht'
    obtain ⟨b', h1, h2, h3, h4, h5⟩ := h.2.2.2.2.2.2.1 t' ht'
    by_cases e : t' = t
    · subst e
      have eb' : b' = b := nI_inj (by omega) (by omega) (h2.symm.trans eb)
      subst eb'
      refine ⟨b' + 1, by omega, w_e, ?_, fun z => by omega, fun k hk => ?_⟩
      · rw [up_n (by omega), up_e rfl]
      · by_cases ek : k = b'
        · subst ek
          refine ⟨u, hu, ?_, ?_⟩
          · rw [w_n (by omega), w_e]
          · rw [up_e (by omega)]
        · rw [w_n (by omega), w_n (by omega), up_n (by omega), up_n (by omega)]
          exact h5 k (by omega)
    · refine ⟨b', h1, ?_, ?_, h4, fun k hk => ?_⟩
      · rw [w_n (by omega), w_n (by omega)]; exact h2
      · rw [up_n (by omega), up_n (by omega)]; exact h3
      · rw [w_n (by omega), w_n (by omega), up_n (by omega), up_n (by omega)]; exact h5 k hk
  · exact h.2.2.2.2.2.2.2.of (by omega) (fun c => rfl) (fun c h1 h2 => by rw [w_n (by omega), w_n (by omega)]) (fun c h1 h2 => by rw [up_n (by omega), up_n (by omega)])
end JW
