def gref (r : Option Nat) : Value := match r with
  | none => .null
  | some a => .ref a
def gva (X : gX) (M : gM) (r i t j : Nat) : Value := if t = 0 then .int (M.1 r i j) else if t = 1 then .long (M.2 r i j) else gref (X.2 r i j)
theorem gva_gv (ad : Nat → Nat) (X : gX) (M : gM) (r i t j : Nat) : gv ad (gva X M r i t j) = gfv ad X M r i t j := by
  unfold gva gfv
  split
  · rfl
  · split
    · rfl
    · cases X.2 r i j <;> rfl
section GH
variable {Ψ : gM → Nat → List (Nat × Value) → List Value → Prop} {G : gG5} {X : gX} {cc : ByteArray} {own : String} {nL : Nat} {ret : Option FieldType} {fr lo : Nat} {v0 : Option Value} {M0 M : gM} {pc : Nat} {ls ls' : List (Nat × Value)} {st : List Value}
theorem gAt_obj {D : va_G} {ad : Nat → Nat} {cA : Nat → ClassId} {r i : Nat} {H : Heap} (hs : gSh r < 100) (h : gAt D ad cA X M r i H) : t_OB (ad (gad r i)) (D.1 (gSh r)) (gClN (gSh r)) (D.2 (gSh r)) H (fun j => gfv ad X M r i (gFt (gSh r) j) j) := by
  unfold gAt at h
  rwa [if_pos hs] at h
theorem gAt_arr {D : va_G} {ad : Nat → Nat} {cA : Nat → ClassId} {r i : Nat} {H : Heap} (hs : 100 ≤ gSh r) (h : gAt D ad cA X M r i H) : H[ad (gad r i)]? = some (arrV (cA (gad r i)) (gLen r i) (fun j => gfv ad X M r i (gFt (gSh r) j) j)) := by
  unfold gAt at h
  rwa [if_neg (by omega)] at h
theorem gAt_lt {D : va_G} {ad : Nat → Nat} {cA : Nat → ClassId} {r i : Nat} {H : Heap} (h : gAt D ad cA X M r i H) : ad (gad r i) < H.size := by
  by_cases hs : gSh r < 100
  · obtain ⟨cell, q, -⟩ := gAt_obj hs h
    exact (Array.getElem?_eq_some_iff.mp q).1
  · exact (Array.getElem?_eq_some_iff.mp (gAt_arr (Nat.le_of_not_lt hs) h)).1
theorem gAt_kept {D : va_G} {ad : Nat → Nat} {cA : Nat → ClassId} {r i : Nat} {H H1 : Heap} {M1 : gM} (h : gAt D ad cA X M r i H) (hq : H1[ad (gad r i)]? = H[ad (gad r i)]?) (hI : ∀ j, M1.1 r i j = M.1 r i j) (hL : ∀ j, M1.2 r i j = M.2 r i j) : gAt D ad cA X M1 r i H1 := by
  have hf : (fun j => gfv ad X M1 r i (gFt (gSh r) j) j) = (fun j => gfv ad X M r i (gFt (gSh r) j) j) := by
    funext j
    unfold gfv
    rw [hI, hL]
  unfold gAt at h ⊢
  rw [hf]
  split
  · next hs => rw [if_pos hs] at h; exact h.kept hq
  · next hs => rw [if_neg hs] at h; rw [hq]; exact h
theorem gStat.kept {base : Nat} {ad : Nat → Nat} {U : State} {H H1 : Heap} (h : gStat base ad U H) (hq : ∀ a : Nat, a < H.size → ¬ base ≤ a → H1[a]? = H[a]?) : gStat base ad U H1 := fun k hk => ⟨(h k hk).1.kept hq, (h k hk).2.kept hq⟩
/-- one cell is written -/
theorem gWd.put {D : va_G} {base : Nat} {ad : Nat → Nat} {cA : Nat → ClassId} {U : State} {H H1 : Heap} {r i : Nat} {M1 : gM} (h : gWd D base ad cA X M U H) (he : X.1 r i = true) (hz : H1.size = H.size) (oq : ∀ q : Nat, q ≠ ad (gad r i) → H1[q]? = H[q]?)
    (hn : gAt D ad cA X M1 r i H1) (hI : ∀ r' i' j, ¬ (r' = r ∧ i' = i) → M1.1 r' i' j = M.1 r' i' j) (hL : ∀ r' i' j, ¬ (r' = r ∧ i' = i) → M1.2 r' i' j = M.2 r' i' j) : gWd D base ad cA X M1 U H1 := by
  obtain ⟨h1, h2, h3, h4, h5, h6, h7⟩ := h
  refine ⟨by rw [hz]; exact h1, fun r' i' hx => ?_, h3, h4, h5, h6.kept (fun a _ hb => oq a (fun e => hb (by rw [e]; exact h4 r i he))), h7.kept (fun a _ hb => oq a (fun e => hb (by rw [e]; exact h4 r i he)))⟩
  by_cases hri : r' = r ∧ i' = i
  · obtain ⟨rfl, rfl⟩ := hri
    exact hn
  · exact gAt_kept (h2 r' i' hx) (oq _ (fun e => hri (h3 r' i' r i hx he e))) (fun j => hI r' i' j hri) (fun j => hL r' i' j hri)
theorem r_get (C : gC Ψ G X cc own nL ret fr lo v0 M0) {index r i j : Nat} {Cn : String} {T : u_T} {N : Nat} (d : decode cc pc = .ok (.getfield index, 3)) (hc : vwCl[gSh r]? = some (Cn, T, N)) (hN : gClN (gSh r) = N) (hs : gSh r < 100) (hk : j < N) (hin : ∀ w ∈ u_ws Cn T N, w ∈ gws) (hdecl : (T j).1 = Cn) (hlink : Cond.fieldLink own index Cn (T j).2.1 (T j).2.2.1 ∈ gws) (he : X.1 r i = true)
    (k : Ψ M (pc + 3) ls (gva X M r i (gFt (gSh r) j) j :: st)) : Ψ M pc ls (.ref (gad r i) :: st) := by
  obtain ⟨p, e, s, m, args, below, meth, c, Q, R, cells, slots, rfl, hx, hb, hml, hown, hts, hK, rfl, rfl, hcl, hsl⟩ := C
  intro H locs lsA h1 h2 h3
  obtain ⟨cell, q1, q2, q3, q4⟩ := gAt_obj hs (h2.2.1 r i he)
  obtain ⟨hS, hfc, kC, hkC, hkind⟩ := hK.1 (gSh r) _ hc
  obtain ⟨cf, kf, fi, f, hi, hsl⟩ := hS j hk
  refine W.getf hx hb hown (hts _ hlink) (hdecl ▸ hi) (u_facts hfc hkC (u_lays hts hin hk) hi).1 q1 (by rw [q3]; exact fun h => by cases h) (v := gv G.2.2.2.1 (gva X M r i (gFt (gSh r) j) j)) ?_ rfl rfl d (k H locs lsA h1 h2 h3)
  rw [hsl, q4 j (by rw [hN]; exact hk), gva_gv]
theorem r_put (C : gC Ψ G X cc own nL ret fr lo v0 M0) {index r i j : Nat} {Cn : String} {T : u_T} {N : Nat} (d : decode cc pc = .ok (.putfield index, 3)) (hc : vwCl[gSh r]? = some (Cn, T, N)) (hN : gClN (gSh r) = N) (hs : gSh r < 100) (hk : j < N) (hin : ∀ w ∈ u_ws Cn T N, w ∈ gws) (hdecl : (T j).1 = Cn) (hlink : Cond.fieldLink own index Cn (T j).2.1 (T j).2.2.1 ∈ gws) (he : X.1 r i = true)
    (ty0 : Nat → FieldType) (hty : ∀ k, k < N → parseFieldDescriptor (T k).2.2.1 = some (ty0 k)) (hnm : ∀ a, a < N → ∀ b, b < N → a ≠ b → (T a).2.1 ≠ (T b).2.1) (hfin : (T j).2.2.2 = false) {v : Value} (hv : gv G.2.2.2.1 v = v) (hn : narrow (ty0 j) v = v) (hfit : fits (ty0 j) v = true) {M1 : gM}
    (hv1 : gva X M1 r i (gFt (gSh r) j) j = v) (hI : ∀ r' i' j', ¬ (r' = r ∧ i' = i ∧ j' = j) → M1.1 r' i' j' = M.1 r' i' j') (hL : ∀ r' i' j', ¬ (r' = r ∧ i' = i ∧ j' = j) → M1.2 r' i' j' = M.2 r' i' j')
    (k : Ψ M1 (pc + 3) ls st) : Ψ M pc ls (v :: .ref (gad r i) :: st) := by
  obtain ⟨p, e, s, m, args, below, meth, c, Q, R, cells, slots, rfl, hx, hb, hml, hown, hts, hK, rfl, rfl, hcl, hsl⟩ := C
  intro H locs lsA h1 h2 h3
  have hK0 : va_K G.2.1 vwCl [] s := ⟨hK.1, fun k q h => by simp at h⟩
  have hap := va_apart (own := own) hts hin ty0 hty hnm hK0 hc
  obtain ⟨cell, q1, q2, q3, q4⟩ := gAt_obj hs (h2.2.1 r i he)
  rw [hN] at q4
  obtain ⟨hS, hfc, kC, hkC, hkind⟩ := hK.1 (gSh r) _ hc
  obtain ⟨cf, kf, fi, f, hi, hsl⟩ := hS j hk
  have hlay := hts _ (hin _ (u_in_lay hk))
  unfold u_lay at hlay
  rw [if_neg (by rw [hfin]; decide)] at hlay
  have hst := (u_facts hfc hkC (u_lays hts hin hk) hi).1
  have h6 := u_store hfc hkC hkind hlay hi (hty j hk) hn hfit
  have key := W.putK (p := p) (l := G.1) (e := e) (R := R) (below := below) (meth := meth) (locs := locs) (cells := cells) (slots := slots) (Q := Q) hx hb (f := f) (a := G.2.2.2.1 (gad r i)) (v := v) ⟨hown, hts _ hlink, ⟨_, _, _, hdecl ▸ hi⟩, hst⟩ (by rw [q2]; exact h6) q1 q3 (by rw [hsl]; exact k2_hasslot (q4 j hk)) (g := F0 m pc lsA ((v :: .ref (gad r i) :: st).map (gv G.2.2.2.1))) rfl (rest := st.map (gv G.2.2.2.1)) (by simp only [List.map_cons, hv]; rfl) d
  refine key fun H' e1 e2 e3 => ?_
  rw [hsl] at e1 ⊢
  refine k H' _ lsA h1 (h2.put he e2 e3 ?_ (fun r' i' j' hne => hI r' i' j' (fun z => hne ⟨z.1, z.2.1⟩)) (fun r' i' j' hne => hL r' i' j' (fun z => hne ⟨z.1, z.2.1⟩))) (h3.put e2 e3 (h2.2.2.2.1 r i he))
  unfold gAt
  rw [if_pos hs]
  refine t_OB.to (V := updV (fun j => gfv G.2.2.2.1 X M r i (gFt (gSh r) j) j) j v) ⟨_, e1, q2, q3, by rw [hN]; exact t_set q4 hap hk v⟩ (fun j' _ => ?_)
  unfold updV
  split
  · next hj =>
    rw [hj, ← gva_gv, hv1, hv]
  · next hj =>
    unfold gfv
    rw [hI r i j' (fun z => hj z.2.2), hL r i j' (fun z => hj z.2.2)]
theorem wI_1 (M : gM) (r i k : Nat) (v : Int32) : (wI M r i k v).1 r i k = v := by simp [wI]
theorem wI_n (M : gM) (r i k : Nat) (v : Int32) (r' i' k' : Nat) (h : ¬ (r' = r ∧ i' = i ∧ k' = k)) : (wI M r i k v).1 r' i' k' = M.1 r' i' k' := by
  show (if r' = r ∧ i' = i ∧ k' = k then v else M.1 r' i' k') = _
  rw [if_neg h]
theorem wL_1 (M : gM) (r i k : Nat) (v : Int64) : (wL M r i k v).2 r i k = v := by simp [wL]
theorem wL_n (M : gM) (r i k : Nat) (v : Int64) (r' i' k' : Nat) (h : ¬ (r' = r ∧ i' = i ∧ k' = k)) : (wL M r i k v).2 r' i' k' = M.2 r' i' k' := by
  show (if r' = r ∧ i' = i ∧ k' = k then v else M.2 r' i' k') = _
  rw [if_neg h]
theorem r_putI (C : gC Ψ G X cc own nL ret fr lo v0 M0) {index r i j : Nat} {Cn : String} {T : u_T} {N : Nat} (d : decode cc pc = .ok (.putfield index, 3)) (hc : vwCl[gSh r]? = some (Cn, T, N)) (hN : gClN (gSh r) = N) (hs : gSh r < 100) (hk : j < N) (hin : ∀ w ∈ u_ws Cn T N, w ∈ gws) (hdecl : (T j).1 = Cn) (hlink : Cond.fieldLink own index Cn (T j).2.1 (T j).2.2.1 ∈ gws) (he : X.1 r i = true)
    (ty0 : Nat → FieldType) (hty : ∀ k, k < N → parseFieldDescriptor (T k).2.2.1 = some (ty0 k)) (hnm : ∀ a, a < N → ∀ b, b < N → a ≠ b → (T a).2.1 ≠ (T b).2.1) (hfin : (T j).2.2.2 = false) (hft : gFt (gSh r) j = 0) {x : Int32} (hn : narrow (ty0 j) (.int x) = .int x) (hfit : fits (ty0 j) (.int x) = true) {M1 : gM} (hM : M1 = wI M r i j x)
    (k : Ψ M1 (pc + 3) ls st) : Ψ M pc ls (.int x :: .ref (gad r i) :: st) := by
  subst hM
  refine r_put C d hc hN hs hk hin hdecl hlink he ty0 hty hnm hfin rfl hn hfit ?_ (wI_n M r i j x) (fun _ _ _ _ => rfl) k
  unfold gva
  rw [hft, if_pos rfl, wI_1]
theorem r_putL (C : gC Ψ G X cc own nL ret fr lo v0 M0) {index r i j : Nat} {Cn : String} {T : u_T} {N : Nat} (d : decode cc pc = .ok (.putfield index, 3)) (hc : vwCl[gSh r]? = some (Cn, T, N)) (hN : gClN (gSh r) = N) (hs : gSh r < 100) (hk : j < N) (hin : ∀ w ∈ u_ws Cn T N, w ∈ gws) (hdecl : (T j).1 = Cn) (hlink : Cond.fieldLink own index Cn (T j).2.1 (T j).2.2.1 ∈ gws) (he : X.1 r i = true)
    (ty0 : Nat → FieldType) (hty : ∀ k, k < N → parseFieldDescriptor (T k).2.2.1 = some (ty0 k)) (hnm : ∀ a, a < N → ∀ b, b < N → a ≠ b → (T a).2.1 ≠ (T b).2.1) (hfin : (T j).2.2.2 = false) (hft : gFt (gSh r) j = 1) {x : Int64} (hn : narrow (ty0 j) (.long x) = .long x) (hfit : fits (ty0 j) (.long x) = true) {M1 : gM} (hM : M1 = wL M r i j x)
    (k : Ψ M1 (pc + 3) ls st) : Ψ M pc ls (.long x :: .ref (gad r i) :: st) := by
  subst hM
  refine r_put (M1 := wL M r i j x) C d hc hN hs hk hin hdecl hlink he ty0 hty hnm hfin rfl hn hfit ?_ (fun _ _ _ _ => rfl) (wL_n M r i j x) k
  unfold gva
  rw [hft, if_neg (by decide), if_pos rfl, wL_1]
/-! arrays -/
theorem gFt_arr {k : Nat} (h : 100 ≤ k) (j j' : Nat) : gFt k j = gFt k j' := by
  unfold gFt
  split <;> first | omega | rfl
theorem r_iald (C : gC Ψ G X cc own nL ret fr lo v0 M0) {r i : Nat} {x : Int32} (d : decode cc pc = .ok (.iaload, 1)) (hs : gSh r = 100) (he : X.1 r i = true) (hg : gin x (gLen r i) = true) (k : Ψ M (pc + 1) ls (.int (M.1 r i x.toNatClampNeg) :: st)) : Ψ M pc ls (.int x :: .ref (gad r i) :: st) := by
  obtain ⟨p, e, s, m, args, below, meth, c, Q, R, cells, slots, rfl, hx, hb, hml, hown, hts, hK, rfl, rfl, hcl, hsl⟩ := C
  intro H locs lsA h1 h2 h3
  have hin := gin_iff.mp hg
  have hlt : x.toNatClampNeg < gLen r i := Nat.not_le.mp fun q => hin (Or.inr q)
  have hA := (h2.2.2.2.2.1 r i he (by omega)).1
  rw [hs] at hA
  exact W.iald (v := .int (M.1 r i x.toNatClampNeg)) hx hb (gAt_arr (by omega) (h2.2.1 r i he)) (hA _ _) (fun q => by cases q) (by show ¬ (x < 0 ∨ (arrV _ _ _).slots.size ≤ _); rw [arrV_size]; exact hin) (by show (arrV _ _ _).slots[_]? = _; rw [arrV_read _ _ hlt, hs]; rfl) rfl rfl d (k H locs lsA h1 h2 h3)
theorem r_cald (C : gC Ψ G X cc own nL ret fr lo v0 M0) {r i : Nat} {x : Int32} (d : decode cc pc = .ok (.caload, 1)) (hs : gSh r = 101) (he : X.1 r i = true) (hg : gin x (gLen r i) = true) (k : Ψ M (pc + 1) ls (.int (M.1 r i x.toNatClampNeg) :: st)) : Ψ M pc ls (.int x :: .ref (gad r i) :: st) := by
  obtain ⟨p, e, s, m, args, below, meth, c, Q, R, cells, slots, rfl, hx, hb, hml, hown, hts, hK, rfl, rfl, hcl, hsl⟩ := C
  intro H locs lsA h1 h2 h3
  have hin := gin_iff.mp hg
  have hlt : x.toNatClampNeg < gLen r i := Nat.not_le.mp fun q => hin (Or.inr q)
  have hA := (h2.2.2.2.2.1 r i he (by omega)).1
  rw [hs] at hA
  exact W.cald (v := .int (M.1 r i x.toNatClampNeg)) hx hb (gAt_arr (by omega) (h2.2.1 r i he)) (hA _ _) (fun q => by cases q) (by show ¬ (x < 0 ∨ (arrV _ _ _).slots.size ≤ _); rw [arrV_size]; exact hin) (by show (arrV _ _ _).slots[_]? = _; rw [arrV_read _ _ hlt, hs]; rfl) rfl rfl d (k H locs lsA h1 h2 h3)
theorem r_bald (C : gC Ψ G X cc own nL ret fr lo v0 M0) {r i : Nat} {x : Int32} (d : decode cc pc = .ok (.baload, 1)) (hs : gSh r = 102) (he : X.1 r i = true) (hg : gin x (gLen r i) = true) (k : Ψ M (pc + 1) ls (.int (M.1 r i x.toNatClampNeg) :: st)) : Ψ M pc ls (.int x :: .ref (gad r i) :: st) := by
  obtain ⟨p, e, s, m, args, below, meth, c, Q, R, cells, slots, rfl, hx, hb, hml, hown, hts, hK, rfl, rfl, hcl, hsl⟩ := C
  intro H locs lsA h1 h2 h3
  have hin := gin_iff.mp hg
  have hlt : x.toNatClampNeg < gLen r i := Nat.not_le.mp fun q => hin (Or.inr q)
  have hA := (h2.2.2.2.2.1 r i he (by omega)).1
  rw [hs] at hA
  exact W.bald (v := .int (M.1 r i x.toNatClampNeg)) hx hb (gAt_arr (by omega) (h2.2.1 r i he)) (hA _ _) (fun q => by cases q) (by show ¬ (x < 0 ∨ (arrV _ _ _).slots.size ≤ _); rw [arrV_size]; exact hin) (by show (arrV _ _ _).slots[_]? = _; rw [arrV_read _ _ hlt, hs]; rfl) rfl rfl d (k H locs lsA h1 h2 h3)
theorem r_lald (C : gC Ψ G X cc own nL ret fr lo v0 M0) {r i : Nat} {x : Int32} (d : decode cc pc = .ok (.laload, 1)) (hs : gSh r = 103) (he : X.1 r i = true) (hg : gin x (gLen r i) = true) (k : Ψ M (pc + 1) ls (.long (M.2 r i x.toNatClampNeg) :: st)) : Ψ M pc ls (.int x :: .ref (gad r i) :: st) := by
  obtain ⟨p, e, s, m, args, below, meth, c, Q, R, cells, slots, rfl, hx, hb, hml, hown, hts, hK, rfl, rfl, hcl, hsl⟩ := C
  intro H locs lsA h1 h2 h3
  have hin := gin_iff.mp hg
  have hlt : x.toNatClampNeg < gLen r i := Nat.not_le.mp fun q => hin (Or.inr q)
  have hA := (h2.2.2.2.2.1 r i he (by omega)).1
  rw [hs] at hA
  exact W.lald (v := .long (M.2 r i x.toNatClampNeg)) hx hb (gAt_arr (by omega) (h2.2.1 r i he)) (hA _ _) (fun q => by cases q) (by show ¬ (x < 0 ∨ (arrV _ _ _).slots.size ≤ _); rw [arrV_size]; exact hin) (by show (arrV _ _ _).slots[_]? = _; rw [arrV_read _ _ hlt, hs]; rfl) rfl rfl d (k H locs lsA h1 h2 h3)
theorem r_aald (C : gC Ψ G X cc own nL ret fr lo v0 M0) {r i : Nat} {x : Int32} {Cn : String} {a : Nat} (d : decode cc pc = .ok (.aaload, 1)) (hs : 100 ≤ gSh r) (hty : gTy (gSh r) = .object Cn) (hft : gFt (gSh r) 0 = 2) (he : X.1 r i = true) (hg : gin x (gLen r i) = true) (ha : X.2 r i x.toNatClampNeg = some a) (k : Ψ M (pc + 1) ls (.ref a :: st)) : Ψ M pc ls (.int x :: .ref (gad r i) :: st) := by
  obtain ⟨p, e, s, m, args, below, meth, c, Q, R, cells, slots, rfl, hx, hb, hml, hown, hts, hK, rfl, rfl, hcl, hsl⟩ := C
  intro H locs lsA h1 h2 h3
  have hin := gin_iff.mp hg
  have hlt : x.toNatClampNeg < gLen r i := Nat.not_le.mp fun q => hin (Or.inr q)
  have hA := (h2.2.2.2.2.1 r i he hs).1
  rw [hty] at hA
  exact W.aald (v := .ref (G.2.2.2.1 a)) (ty := .object Cn) hx hb (gAt_arr hs (h2.2.1 r i he)) (hA _ _) rfl (fun q => by cases q) (by show ¬ (x < 0 ∨ (arrV _ _ _).slots.size ≤ _); rw [arrV_size]; exact hin) (by show (arrV _ _ _).slots[_]? = _; rw [arrV_read _ _ hlt, gFt_arr hs x.toNatClampNeg 0, hft]; unfold gfv; rw [if_neg (by decide), if_neg (by decide), ha]; rfl) rfl rfl d (k H locs lsA h1 h2 h3)
theorem r_alen (C : gC Ψ G X cc own nL ret fr lo v0 M0) {r i : Nat} {n : Int32} (d : decode cc pc = .ok (.arraylength, 1)) (hs : 100 ≤ gSh r) (he : X.1 r i = true) (hn : (gLen r i).toInt32 = n) (k : Ψ M (pc + 1) ls (.int n :: st)) : Ψ M pc ls (.ref (gad r i) :: st) := by
  obtain ⟨p, e, s, m, args, below, meth, c, Q, R, cells, slots, rfl, hx, hb, hml, hown, hts, hK, rfl, rfl, hcl, hsl⟩ := C
  intro H locs lsA h1 h2 h3
  exact W.alen (n := n) hx hb (gAt_arr hs (h2.2.1 r i he)) ((h2.2.2.2.2.1 r i he hs).1 _ _) (by rw [arrV_size]; exact hn) rfl rfl d (k H locs lsA h1 h2 h3)
theorem gWd.putA {D : va_G} {base : Nat} {ad : Nat → Nat} {cA : Nat → ClassId} {U : State} {H H1 : Heap} {r i j : Nat} {M1 : gM} {v : Value} (h : gWd D base ad cA X M U H) (hs : 100 ≤ gSh r) (he : X.1 r i = true) (hz : H1.size = H.size) (oq : ∀ q : Nat, q ≠ ad (gad r i) → H1[q]? = H[q]?)
    (e1 : H1[ad (gad r i)]? = some ((arrV (cA (gad r i)) (gLen r i) (fun j => gfv ad X M r i (gFt (gSh r) j) j)).setSlot j v)) (hv : gfv ad X M1 r i (gFt (gSh r) j) j = v)
    (hI : ∀ r' i' j', ¬ (r' = r ∧ i' = i ∧ j' = j) → M1.1 r' i' j' = M.1 r' i' j') (hL : ∀ r' i' j', ¬ (r' = r ∧ i' = i ∧ j' = j) → M1.2 r' i' j' = M.2 r' i' j') : gWd D base ad cA X M1 U H1 := by
  refine h.put he hz oq ?_ (fun r' i' j' hne => hI r' i' j' (fun z => hne ⟨z.1, z.2.1⟩)) (fun r' i' j' hne => hL r' i' j' (fun z => hne ⟨z.1, z.2.1⟩))
  unfold gAt
  rw [if_neg (by omega), e1, arrV_store]
  congr 2
  funext j'
  unfold updV
  split
  · next hj => rw [hj, hv]
  · next hj =>
    unfold gfv
    rw [hI r i j' (fun z => hj z.2.2), hL r i j' (fun z => hj z.2.2)]
theorem r_iast (C : gC Ψ G X cc own nL ret fr lo v0 M0) {r i : Nat} {x y : Int32} {M1 : gM} (d : decode cc pc = .ok (.iastore, 1)) (hs : gSh r = 100) (he : X.1 r i = true) (hg : gin x (gLen r i) = true) (hM : M1 = wI M r i x.toNatClampNeg y) (k : Ψ M1 (pc + 1) ls st) : Ψ M pc ls (.int y :: .int x :: .ref (gad r i) :: st) := by
  subst hM
  obtain ⟨p, e, s, m, args, below, meth, c, Q, R, cells, slots, rfl, hx, hb, hml, hown, hts, hK, rfl, rfl, hcl, hsl⟩ := C
  intro H locs lsA h1 h2 h3
  have hin := gin_iff.mp hg
  have hA := (h2.2.2.2.2.1 r i he (by omega)).1
  rw [hs] at hA
  refine W.iast hx hb (gAt_arr (by omega) (h2.2.1 r i he)) (hA _ _) (fun q => by cases q) (by show ¬ (x < 0 ∨ (arrV _ _ _).slots.size ≤ _); rw [arrV_size]; exact hin) rfl rfl d fun H1 e1 z oq => ?_
  exact k H1 _ lsA h1 (h2.putA (by omega) he z oq e1 (by rw [hs]; show Value.int _ = _; rw [wI_1]) (wI_n M r i _ y) (fun _ _ _ _ => rfl)) (h3.put z oq (h2.2.2.2.1 r i he))
theorem r_cast (C : gC Ψ G X cc own nL ret fr lo v0 M0) {r i : Nat} {x y : Int32} {M1 : gM} (d : decode cc pc = .ok (.castore, 1)) (hs : gSh r = 101) (he : X.1 r i = true) (hg : gin x (gLen r i) = true) (hM : M1 = wI M r i x.toNatClampNeg (vp_nar .char y)) (k : Ψ M1 (pc + 1) ls st) : Ψ M pc ls (.int y :: .int x :: .ref (gad r i) :: st) := by
  subst hM
  obtain ⟨p, e, s, m, args, below, meth, c, Q, R, cells, slots, rfl, hx, hb, hml, hown, hts, hK, rfl, rfl, hcl, hsl⟩ := C
  intro H locs lsA h1 h2 h3
  have hin := gin_iff.mp hg
  have hA := (h2.2.2.2.2.1 r i he (by omega)).1
  rw [hs] at hA
  refine W.cast hx hb (gAt_arr (by omega) (h2.2.1 r i he)) (hA _ _) (fun q => by cases q) (by show ¬ (x < 0 ∨ (arrV _ _ _).slots.size ≤ _); rw [arrV_size]; exact hin) rfl rfl d fun H1 e1 z oq => ?_
  exact k H1 _ lsA h1 (h2.putA (by omega) he z oq e1 (by rw [hs]; show Value.int _ = _; rw [wI_1]; rfl) (wI_n M r i _ _) (fun _ _ _ _ => rfl)) (h3.put z oq (h2.2.2.2.1 r i he))
theorem r_bast (C : gC Ψ G X cc own nL ret fr lo v0 M0) {r i : Nat} {x y : Int32} {M1 : gM} (d : decode cc pc = .ok (.bastore, 1)) (hs : gSh r = 102) (he : X.1 r i = true) (hg : gin x (gLen r i) = true) (hM : M1 = wI M r i x.toNatClampNeg (vp_nar .byte y)) (k : Ψ M1 (pc + 1) ls st) : Ψ M pc ls (.int y :: .int x :: .ref (gad r i) :: st) := by
  subst hM
  obtain ⟨p, e, s, m, args, below, meth, c, Q, R, cells, slots, rfl, hx, hb, hml, hown, hts, hK, rfl, rfl, hcl, hsl⟩ := C
  intro H locs lsA h1 h2 h3
  have hin := gin_iff.mp hg
  have hA := (h2.2.2.2.2.1 r i he (by omega)).1
  rw [hs] at hA
  refine W.bast hx hb (gAt_arr (by omega) (h2.2.1 r i he)) (hA _ _) (fun q => by cases q) (by show ¬ (x < 0 ∨ (arrV _ _ _).slots.size ≤ _); rw [arrV_size]; exact hin) rfl rfl d fun H1 e1 z oq => ?_
  exact k H1 _ lsA h1 (h2.putA (by omega) he z oq e1 (by rw [hs]; show Value.int _ = _; rw [wI_1]; rfl) (wI_n M r i _ _) (fun _ _ _ _ => rfl)) (h3.put z oq (h2.2.2.2.1 r i he))
theorem r_last (C : gC Ψ G X cc own nL ret fr lo v0 M0) {r i : Nat} {x : Int32} {y : Int64} {M1 : gM} (d : decode cc pc = .ok (.lastore, 1)) (hs : gSh r = 103) (he : X.1 r i = true) (hg : gin x (gLen r i) = true) (hM : M1 = wL M r i x.toNatClampNeg y) (k : Ψ M1 (pc + 1) ls st) : Ψ M pc ls (.long y :: .int x :: .ref (gad r i) :: st) := by
  subst hM
  obtain ⟨p, e, s, m, args, below, meth, c, Q, R, cells, slots, rfl, hx, hb, hml, hown, hts, hK, rfl, rfl, hcl, hsl⟩ := C
  intro H locs lsA h1 h2 h3
  have hin := gin_iff.mp hg
  have hA := (h2.2.2.2.2.1 r i he (by omega)).1
  rw [hs] at hA
  refine W.last hx hb (gAt_arr (by omega) (h2.2.1 r i he)) (hA _ _) (fun q => by cases q) (by show ¬ (x < 0 ∨ (arrV _ _ _).slots.size ≤ _); rw [arrV_size]; exact hin) rfl rfl d fun H1 e1 z oq => ?_
  exact k H1 _ lsA h1 (h2.putA (by omega) he z oq e1 (by rw [hs]; show Value.long _ = _; rw [wL_1]) (fun _ _ _ _ => rfl) (wL_n M r i _ y)) (h3.put z oq (h2.2.2.2.1 r i he))
/-! static tables -/
theorem r_gets (C : gC Ψ G X cc own nL ret fr lo v0 M0) {index j : Nat} (d : decode cc pc = .ok (.getstatic index, 3)) (hj : j < 10) (hlink : Cond.fieldLink own index (gSn j).1 (gSn j).2.1 (gSn j).2.2 ∈ gws) (k : Ψ M (pc + 3) ls (.ref (gad 63 j) :: st)) : Ψ M pc ls st := by
  obtain ⟨p, e, s, m, args, below, meth, c, Q, R, cells, slots, rfl, hx, hb, hml, hown, hts, hK, rfl, rfl, hcl, hsl⟩ := C
  intro H locs lsA h1 h2 h3
  obtain ⟨⟨cf, kf, fi, f, a, cell, g1, g2, g3, g4, g5, g6, g7, g8⟩, -⟩ := h2.2.2.2.2.2.1 j hj
  exact W.gets hx hb hown (hts _ hlink) g1 g2 g3 g4 g5 (fun e => by rw [e] at g6; cases g6) g7 rfl d (k H locs lsA h1 h2 h3)
theorem r_sald (C : gC Ψ G X cc own nL ret fr lo v0 M0) {j : Nat} {x : Int32} (d : decode cc pc = .ok (.iaload, 1)) (hj : j < 10) (hg : gin x (gSt j).length = true) (k : Ψ M (pc + 1) ls (.int (gSv j x.toNatClampNeg) :: st)) : Ψ M pc ls (.int x :: .ref (gad 63 j) :: st) := by
  obtain ⟨p, e, s, m, args, below, meth, c, Q, R, cells, slots, rfl, hx, hb, hml, hown, hts, hK, rfl, rfl, hcl, hsl⟩ := C
  intro H locs lsA h1 h2 h3
  have hin := gin_iff.mp hg
  have hlt : x.toNatClampNeg < (gSt j).length := Nat.not_le.mp fun q => hin (Or.inr q)
  obtain ⟨-, cell, g1, g2, g3, g4, g5, g6, g7⟩ := h2.2.2.2.2.2.1 j hj
  exact W.iald (v := .int (gSv j x.toNatClampNeg)) hx hb g1 g2 g3 (fun q => q.elim (fun z => hin (Or.inl z)) (fun z => absurd hlt (by omega))) (g6 _ hlt) rfl rfl d (k H locs lsA h1 h2 h3)
theorem r_salen (C : gC Ψ G X cc own nL ret fr lo v0 M0) {j : Nat} {n : Int32} (d : decode cc pc = .ok (.arraylength, 1)) (hj : j < 10) (hn : Int32.ofNat (gSt j).length = n) (k : Ψ M (pc + 1) ls (.int n :: st)) : Ψ M pc ls (.ref (gad 63 j) :: st) := by
  obtain ⟨p, e, s, m, args, below, meth, c, Q, R, cells, slots, rfl, hx, hb, hml, hown, hts, hK, rfl, rfl, hcl, hsl⟩ := C
  intro H locs lsA h1 h2 h3
  obtain ⟨-, cell, g1, g2, g3, g4, g5, g6, g7⟩ := h2.2.2.2.2.2.1 j hj
  exact W.alen (n := n) hx hb g1 g2 (by rw [g5]; exact hn) rfl rfl d (k H locs lsA h1 h2 h3)
end GH
