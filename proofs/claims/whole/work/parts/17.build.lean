def gmin (x y : Int32) : Int32 := if y < x then y else x
def gmax (x y : Int32) : Int32 := if x < y then y else x
theorem J9_min_eq (x y : Int32) (M : gM) : J9_min_7cf53 x y M = some (gmin x y) := by
  unfold J9_min_7cf53 gmin
  split <;> rfl
theorem r_min {Ψ : gM → Nat → List (Nat × Value) → List Value → Prop} {G : gG5} {nf : Nat} {cc : ByteArray} {own : String} {nL : Nat} {ret : Option FieldType} {fr lo : Nat} {v0 : Option Value} {M0 M : gM} {pc index : Nat} {ls : List (Nat × Value)} {st : List Value} {x y : Int32} (C : gC Ψ G (gXn nf) cc own nL ret fr lo v0 M0) (d : decode cc pc = .ok (.invokestatic index, 3)) (hl : Cond.methodLink own index yJ9_min_7cf53 ∈ gws) (hR : 1 ≤ fr ∧ 21 ≤ lo) (hcat : (st.map fun v => v.category).sum ≤ 8) (k : Ψ M (pc + 3) ls (.int (gmin x y) :: st)) : Ψ M pc ls (.int y :: .int x :: st) := c_J9_min_7cf53 C d hl hR (J9_min_eq x y M) hcat k
theorem J9_max_eq (x y : Int32) (M : gM) : J9_max_7cf53 x y M = some (gmax x y) := by
  unfold J9_max_7cf53 gmax
  split <;> rfl
theorem r_max {Ψ : gM → Nat → List (Nat × Value) → List Value → Prop} {G : gG5} {nf : Nat} {cc : ByteArray} {own : String} {nL : Nat} {ret : Option FieldType} {fr lo : Nat} {v0 : Option Value} {M0 M : gM} {pc index : Nat} {ls : List (Nat × Value)} {st : List Value} {x y : Int32} (C : gC Ψ G (gXn nf) cc own nL ret fr lo v0 M0) (d : decode cc pc = .ok (.invokestatic index, 3)) (hl : Cond.methodLink own index yJ9_max_7cf53 ∈ gws) (hR : 1 ≤ fr ∧ 21 ≤ lo) (hcat : (st.map fun v => v.category).sum ≤ 8) (k : Ψ M (pc + 3) ls (.int (gmax x y) :: st)) : Ψ M pc ls (.int y :: .int x :: st) := c_J9_max_7cf53 C d hl hR (J9_max_eq x y M) hcat k
def cpI (M : gM) (r i r' i' n : Nat) : gM := (fun a b k => if a = r' ∧ b = i' ∧ k < n then M.1 r i k else M.1 a b k, M.2)
def cpL (M : gM) (r i r' i' n : Nat) : gM := (M.1, fun a b k => if a = r' ∧ b = i' ∧ k < n then M.2 r i k else M.2 a b k)
def flI (M : gM) (r i : Nat) (v : Int32) (n : Nat) : gM := (fun a b k => if a = r ∧ b = i ∧ k < n then v else M.1 a b k, M.2)
def flL (M : gM) (r i : Nat) (v : Int64) (n : Nat) : gM := (M.1, fun a b k => if a = r ∧ b = i ∧ k < n then v else M.2 a b k)
theorem gnn (z : Int32) (hz : ¬ z < 0) : z.toInt = (z.toNatClampNeg : Int) := by
  have hz0 : (0 : Int) ≤ z.toInt := by
    have := Int32.not_lt.mp hz
    simpa using Int32.le_iff_toInt_le.mp this
  show z.toInt = ((z.toInt.toNat : Nat) : Int)
  omega
/-- a whole array is written anew -/
theorem gWd.putW {X : gX} {M : gM} {D : va_G} {base : Nat} {ad : Nat → Nat} {cA : Nat → ClassId} {U : State} {H H1 : Heap} {r i : Nat} {M1 : gM} (h : gWd D base ad cA X M U H) (hs : 100 ≤ gSh r) (he : X.1 r i = true) (hz : H1.size = H.size) (oq : ∀ q : Nat, q ≠ ad (gad r i) → H1[q]? = H[q]?)
    (e1 : H1[ad (gad r i)]? = some (arrV (cA (gad r i)) (gLen r i) (fun j => gfv ad X M1 r i (gFt (gSh r) j) j)))
    (hI : ∀ r' i' j', ¬ (r' = r ∧ i' = i) → M1.1 r' i' j' = M.1 r' i' j') (hL : ∀ r' i' j', ¬ (r' = r ∧ i' = i) → M1.2 r' i' j' = M.2 r' i' j') : gWd D base ad cA X M1 U H1 := by
  refine h.put he hz oq ?_ hI hL
  unfold gAt
  rw [if_neg (by omega), e1]
theorem r_copyI {Ψ : gM → Nat → List (Nat × Value) → List Value → Prop} {G : gG5} {nf : Nat} {cc : ByteArray} {own : String} {nL : Nat} {ret : Option FieldType} {fr lo : Nat} {v0 : Option Value} {M0 M : gM} {pc index : Nat} {ls : List (Nat × Value)} {st : List Value} {r i r' i' n : Nat} {z0 z1 w : Int32} {M1 : gM} (C : gC Ψ G (gXn nf) cc own nL ret fr lo v0 M0) (d : decode cc pc = .ok (.invokestatic index, 3)) (hl : Cond.methodLink own index arraycopyName ∈ gws) (hs : gSh r = 100) (hs' : gSh r' = 100) (he : (gXn nf).1 r i = true) (he' : (gXn nf).1 r' i' = true) (hw : z0 = 0 ∧ z1 = 0 ∧ ¬ w < 0 ∧ w.toNatClampNeg = n) (hn : n ≤ gLen r i ∧ n ≤ gLen r' i') (hM : M1 = cpI M r i r' i' n) (hR : 2 ≤ fr ∧ 64 ≤ lo) (hcat : (st.map fun v => v.category).sum ≤ 8) (k : Ψ M1 (pc + 3) ls st) : Ψ M pc ls (.int w :: .int z1 :: .ref (gad r' i') :: .int z0 :: .ref (gad r i) :: st) := by
  subst hM
  obtain ⟨rfl, rfl, hw0, hwn⟩ := hw
  obtain ⟨p, e, s, m, args, below, meth, c, Q, R, cells, slots, rfl, hx, hb, hml, hown, hts, hK, rfl, rfl, hcl, hsl⟩ := C
  intro H locs lsA h1 h2 h3
  have e0 : (fun j => gfv G.2.2.2.1 (gXn nf) M r i (gFt (gSh r) j) j) = (fun j => Value.int (M.1 r i j)) := by
    funext j
    rw [hs]
    rfl
  have e0' : (fun j => gfv G.2.2.2.1 (gXn nf) M r' i' (gFt (gSh r') j) j) = (fun j => Value.int (M.1 r' i' j)) := by
    funext j
    rw [hs']
    rfl
  have hc0 := gAt_arr (by omega) (h2.2.1 r i he)
  have hc1 := gAt_arr (by omega) (h2.2.1 r' i' he')
  have hA0 := (h2.2.2.2.2.1 r i he (by omega)).1
  have hA1 := (h2.2.2.2.2.1 r' i' he' (by omega)).1
  rw [e0] at hc0
  rw [e0'] at hc1
  rw [hs] at hA0
  rw [hs'] at hA1
  intro T hT X
  obtain ⟨-, k0, hk0, cm0, hkk0⟩ := hA0 (gLen r i) (fun j => Value.int (M.1 r i j))
  obtain ⟨-, k1, hk1, cm1, hkk1⟩ := hA1 (gLen r' i') (fun j => Value.int (M.1 r' i' j))
  have z0 : (0 : Int32).toNatClampNeg = 0 := by decide
  obtain ⟨vm', X', step⟩ := X.arraycopy hx hown (hts _ hl) (hts _ q735) (hts _ q734) (hts _ q133) (src := G.2.2.2.1 (gad r i)) (dst := G.2.2.2.1 (gad r' i')) (cs := arrV (G.2.2.2.2 (gad r i)) (gLen r i) (fun j => Value.int (M.1 r i j))) (cd := arrV (G.2.2.2.2 (gad r' i')) (gLen r' i') (fun j => Value.int (M.1 r' i' j))) (srcPos := 0) (destPos := 0) (n := w) (by rw [hT]; exact hc0) (by rw [hT]; exact hc1)
    (fun _ h => by cases h) (fun _ h => by cases h) (fun h => by cases h) (fun h => by cases h) hk0 hk1 hkk0 hkk1 (by simp [refKind, gTy]) (by decide) (by decide) hw0
    (by rw [gnn w hw0, hwn, arrV_size]; show ¬ (0 + (n : Int) > _); omega)
    (by rw [gnn w hw0, hwn, arrV_size]; show ¬ (0 + (n : Int) > _); omega)
    (fun vm₁ _ j hj => by
      have e : (arrV (G.2.2.2.2 (gad r i)) (gLen r i) (fun j => Value.int (M.1 r i j))).slots.getD ((0 : Int32).toNatClampNeg + j) .null = Value.int (M.1 r i ((0 : Int32).toNatClampNeg + j)) := by
        rw [Array.getD_eq_getD_getElem?, arrV_read _ _ (by omega)]
        rfl
      refine ⟨?_, ?_⟩
      · rw [e]
        rfl
      · rw [e]
        exact trivial)
    (g := F0 m pc lsA ((.int w :: .int 0 :: .ref (gad r' i') :: .int 0 :: .ref (gad r i) :: st).map (gv G.2.2.2.1))) rfl (by rw [hml]; exact h1.1) (rest := st.map (gv G.2.2.2.1)) rfl (by rw [hb]; exact d) (by omega) (by
      show 2 * 0 + ((st.map (gv G.2.2.2.1)).map fun v => v.category).sum + (nativeFrameWords "java/lang/System" "arraycopy" 5 + 11) ≤ R.locals
      rw [gv_catsum]
      have : nativeFrameWords "java/lang/System" "arraycopy" 5 ≤ 45 := by decide +kernel
      omega)
  have e1 : copied (arrV (G.2.2.2.2 (gad r i)) (gLen r i) (fun j => Value.int (M.1 r i j))) (arrV (G.2.2.2.2 (gad r' i')) (gLen r' i') (fun j => Value.int (M.1 r' i' j))) 0 0 w = arrV (G.2.2.2.2 (gad r' i')) (gLen r' i') (fun j => Value.int (va_cpy (M.1 r i) (M.1 r' i') (0 : Int32).toNatClampNeg (0 : Int32).toNatClampNeg w.toNatClampNeg j)) := va_copied (fun z => Value.int z) _ _ _ _ (by omega)
  rw [e1] at X' step
  have hl1 : G.2.2.2.1 (gad r' i') < H.size := (Array.getElem?_eq_some_iff.mp hc1).1
  have e2 : (fun j => Value.int (va_cpy (M.1 r i) (M.1 r' i') (0 : Int32).toNatClampNeg (0 : Int32).toNatClampNeg w.toNatClampNeg j)) = (fun j => gfv G.2.2.2.1 (gXn nf) (cpI M r i r' i' n) r' i' (gFt (gSh r') j) j) := by
    funext j
    rw [hs']
    show Value.int _ = Value.int (if r' = r' ∧ i' = i' ∧ j < n then M.1 r i j else M.1 r' i' j)
    rw [z0, hwn]
    unfold va_cpy
    by_cases hj : j < n
    · rw [if_pos ⟨Nat.zero_le _, by omega⟩, if_pos ⟨rfl, rfl, hj⟩]
      rw [Nat.zero_add, Nat.sub_zero]
    · rw [if_neg (by omega), if_neg (fun z => hj z.2.2)]
  rw [e2] at X' step
  have oq : ∀ q : Nat, q ≠ G.2.2.2.1 (gad r' i') → (H.setIfInBounds (G.2.2.2.1 (gad r' i')) (arrV (G.2.2.2.2 (gad r' i')) (gLen r' i') (fun j => gfv G.2.2.2.1 (gXn nf) (cpI M r i r' i' n) r' i' (gFt (gSh r') j) j)))[q]? = H[q]? := fun q hq => by simp [Array.getElem?_setIfInBounds, Ne.symm hq]
  have hne : ∀ (r2 i2 j2 : Nat), ¬ (r2 = r' ∧ i2 = i') → (if r2 = r' ∧ i2 = i' ∧ j2 < n then M.1 r i j2 else M.1 r2 i2 j2) = M.1 r2 i2 j2 := fun r2 i2 j2 hn => if_neg (fun z => hn ⟨z.1, z.2.1⟩)
  obtain ⟨t, a1, b1⟩ := k (H.setIfInBounds (G.2.2.2.1 (gad r' i')) _) _ lsA h1 (h2.putW (M1 := cpI M r i r' i' n) (by omega) he' (by simp) oq (by simp [Array.getElem?_setIfInBounds, hl1]) hne (fun _ _ _ _ => rfl))
    ⟨by simp; exact h3.1, fun q g1 g2 => by
      rw [oq q (fun e => g2 (by rw [e]; exact h2.2.2.2.1 r' i' he'))]
      exact h3.2.1 q g1 g2, fun q hq => by
      rcases List.mem_append.mp hq with h | h
      · exact h3.2.2 q h
      · obtain ⟨z, -, hz⟩ := List.mem_map.mp h
        rw [← hz]
        exact h2.2.2.2.1 r' i' he'⟩ _ (by rw [← hT]; rfl) X'
  exact ⟨t, step t a1, b1⟩
theorem r_copyL {Ψ : gM → Nat → List (Nat × Value) → List Value → Prop} {G : gG5} {nf : Nat} {cc : ByteArray} {own : String} {nL : Nat} {ret : Option FieldType} {fr lo : Nat} {v0 : Option Value} {M0 M : gM} {pc index : Nat} {ls : List (Nat × Value)} {st : List Value} {r i r' i' n : Nat} {z0 z1 w : Int32} {M1 : gM} (C : gC Ψ G (gXn nf) cc own nL ret fr lo v0 M0) (d : decode cc pc = .ok (.invokestatic index, 3)) (hl : Cond.methodLink own index arraycopyName ∈ gws) (hs : gSh r = 103) (hs' : gSh r' = 103) (he : (gXn nf).1 r i = true) (he' : (gXn nf).1 r' i' = true) (hw : z0 = 0 ∧ z1 = 0 ∧ ¬ w < 0 ∧ w.toNatClampNeg = n) (hn : n ≤ gLen r i ∧ n ≤ gLen r' i') (hM : M1 = cpL M r i r' i' n) (hR : 2 ≤ fr ∧ 64 ≤ lo) (hcat : (st.map fun v => v.category).sum ≤ 8) (k : Ψ M1 (pc + 3) ls st) : Ψ M pc ls (.int w :: .int z1 :: .ref (gad r' i') :: .int z0 :: .ref (gad r i) :: st) := by
  subst hM
  obtain ⟨rfl, rfl, hw0, hwn⟩ := hw
  obtain ⟨p, e, s, m, args, below, meth, c, Q, R, cells, slots, rfl, hx, hb, hml, hown, hts, hK, rfl, rfl, hcl, hsl⟩ := C
  intro H locs lsA h1 h2 h3
  have e0 : (fun j => gfv G.2.2.2.1 (gXn nf) M r i (gFt (gSh r) j) j) = (fun j => Value.long (M.2 r i j)) := by
    funext j
    rw [hs]
    rfl
  have e0' : (fun j => gfv G.2.2.2.1 (gXn nf) M r' i' (gFt (gSh r') j) j) = (fun j => Value.long (M.2 r' i' j)) := by
    funext j
    rw [hs']
    rfl
  have hc0 := gAt_arr (by omega) (h2.2.1 r i he)
  have hc1 := gAt_arr (by omega) (h2.2.1 r' i' he')
  have hA0 := (h2.2.2.2.2.1 r i he (by omega)).1
  have hA1 := (h2.2.2.2.2.1 r' i' he' (by omega)).1
  rw [e0] at hc0
  rw [e0'] at hc1
  rw [hs] at hA0
  rw [hs'] at hA1
  intro T hT X
  obtain ⟨-, k0, hk0, cm0, hkk0⟩ := hA0 (gLen r i) (fun j => Value.long (M.2 r i j))
  obtain ⟨-, k1, hk1, cm1, hkk1⟩ := hA1 (gLen r' i') (fun j => Value.long (M.2 r' i' j))
  have z0 : (0 : Int32).toNatClampNeg = 0 := by decide
  obtain ⟨vm', X', step⟩ := X.arraycopy hx hown (hts _ hl) (hts _ q735) (hts _ q734) (hts _ q133) (src := G.2.2.2.1 (gad r i)) (dst := G.2.2.2.1 (gad r' i')) (cs := arrV (G.2.2.2.2 (gad r i)) (gLen r i) (fun j => Value.long (M.2 r i j))) (cd := arrV (G.2.2.2.2 (gad r' i')) (gLen r' i') (fun j => Value.long (M.2 r' i' j))) (srcPos := 0) (destPos := 0) (n := w) (by rw [hT]; exact hc0) (by rw [hT]; exact hc1)
    (fun _ h => by cases h) (fun _ h => by cases h) (fun h => by cases h) (fun h => by cases h) hk0 hk1 hkk0 hkk1 (by simp [refKind, gTy]) (by decide) (by decide) hw0
    (by rw [gnn w hw0, hwn, arrV_size]; show ¬ (0 + (n : Int) > _); omega)
    (by rw [gnn w hw0, hwn, arrV_size]; show ¬ (0 + (n : Int) > _); omega)
    (fun vm₁ _ j hj => by
      have e : (arrV (G.2.2.2.2 (gad r i)) (gLen r i) (fun j => Value.long (M.2 r i j))).slots.getD ((0 : Int32).toNatClampNeg + j) .null = Value.long (M.2 r i ((0 : Int32).toNatClampNeg + j)) := by
        rw [Array.getD_eq_getD_getElem?, arrV_read _ _ (by omega)]
        rfl
      refine ⟨?_, ?_⟩
      · rw [e]
        rfl
      · rw [e]
        exact trivial)
    (g := F0 m pc lsA ((.int w :: .int 0 :: .ref (gad r' i') :: .int 0 :: .ref (gad r i) :: st).map (gv G.2.2.2.1))) rfl (by rw [hml]; exact h1.1) (rest := st.map (gv G.2.2.2.1)) rfl (by rw [hb]; exact d) (by omega) (by
      show 2 * 0 + ((st.map (gv G.2.2.2.1)).map fun v => v.category).sum + (nativeFrameWords "java/lang/System" "arraycopy" 5 + 11) ≤ R.locals
      rw [gv_catsum]
      have : nativeFrameWords "java/lang/System" "arraycopy" 5 ≤ 45 := by decide +kernel
      omega)
  have e1 : copied (arrV (G.2.2.2.2 (gad r i)) (gLen r i) (fun j => Value.long (M.2 r i j))) (arrV (G.2.2.2.2 (gad r' i')) (gLen r' i') (fun j => Value.long (M.2 r' i' j))) 0 0 w = arrV (G.2.2.2.2 (gad r' i')) (gLen r' i') (fun j => Value.long (va_cpy (M.2 r i) (M.2 r' i') (0 : Int32).toNatClampNeg (0 : Int32).toNatClampNeg w.toNatClampNeg j)) := va_copied (fun z => Value.long z) _ _ _ _ (by omega)
  rw [e1] at X' step
  have hl1 : G.2.2.2.1 (gad r' i') < H.size := (Array.getElem?_eq_some_iff.mp hc1).1
  have e2 : (fun j => Value.long (va_cpy (M.2 r i) (M.2 r' i') (0 : Int32).toNatClampNeg (0 : Int32).toNatClampNeg w.toNatClampNeg j)) = (fun j => gfv G.2.2.2.1 (gXn nf) (cpL M r i r' i' n) r' i' (gFt (gSh r') j) j) := by
    funext j
    rw [hs']
    show Value.long _ = Value.long (if r' = r' ∧ i' = i' ∧ j < n then M.2 r i j else M.2 r' i' j)
    rw [z0, hwn]
    unfold va_cpy
    by_cases hj : j < n
    · rw [if_pos ⟨Nat.zero_le _, by omega⟩, if_pos ⟨rfl, rfl, hj⟩]
      rw [Nat.zero_add, Nat.sub_zero]
    · rw [if_neg (by omega), if_neg (fun z => hj z.2.2)]
  rw [e2] at X' step
  have oq : ∀ q : Nat, q ≠ G.2.2.2.1 (gad r' i') → (H.setIfInBounds (G.2.2.2.1 (gad r' i')) (arrV (G.2.2.2.2 (gad r' i')) (gLen r' i') (fun j => gfv G.2.2.2.1 (gXn nf) (cpL M r i r' i' n) r' i' (gFt (gSh r') j) j)))[q]? = H[q]? := fun q hq => by simp [Array.getElem?_setIfInBounds, Ne.symm hq]
  have hne : ∀ (r2 i2 j2 : Nat), ¬ (r2 = r' ∧ i2 = i') → (if r2 = r' ∧ i2 = i' ∧ j2 < n then M.2 r i j2 else M.2 r2 i2 j2) = M.2 r2 i2 j2 := fun r2 i2 j2 hn => if_neg (fun z => hn ⟨z.1, z.2.1⟩)
  obtain ⟨t, a1, b1⟩ := k (H.setIfInBounds (G.2.2.2.1 (gad r' i')) _) _ lsA h1 (h2.putW (M1 := cpL M r i r' i' n) (by omega) he' (by simp) oq (by simp [Array.getElem?_setIfInBounds, hl1]) (fun _ _ _ _ => rfl) hne)
    ⟨by simp; exact h3.1, fun q g1 g2 => by
      rw [oq q (fun e => g2 (by rw [e]; exact h2.2.2.2.1 r' i' he'))]
      exact h3.2.1 q g1 g2, fun q hq => by
      rcases List.mem_append.mp hq with h | h
      · exact h3.2.2 q h
      · obtain ⟨z, -, hz⟩ := List.mem_map.mp h
        rw [← hz]
        exact h2.2.2.2.1 r' i' he'⟩ _ (by rw [← hT]; rfl) X'
  exact ⟨t, step t a1, b1⟩
theorem flI_succ (M : gM) (r i : Nat) (v : Int32) (n : Nat) : wI (flI M r i v n) r i n v = flI M r i v (n + 1) := by
  unfold wI flI
  apply Prod.ext
  all_goals first
    | rfl
    | (funext a b k
       show (if a = r ∧ b = i ∧ k = n then v else if a = r ∧ b = i ∧ k < n then v else _) = (if a = r ∧ b = i ∧ k < n + 1 then v else _)
       by_cases h1 : a = r ∧ b = i ∧ k = n
       · rw [if_pos h1, if_pos ⟨h1.1, h1.2.1, by omega⟩]
       · rw [if_neg h1]
         by_cases h2 : a = r ∧ b = i ∧ k < n
         · rw [if_pos h2, if_pos ⟨h2.1, h2.2.1, by omega⟩]
         · rw [if_neg h2, if_neg (fun z => h2 ⟨z.1, z.2.1, by
             have : ¬ k = n := fun q => h1 ⟨z.1, z.2.1, q⟩
             omega⟩)])
theorem flI_zero (M : gM) (r i : Nat) (v : Int32) : flI M r i v 0 = M := by
  unfold flI
  apply Prod.ext
  all_goals first
    | rfl
    | (funext a b k
       show (if a = r ∧ b = i ∧ k < 0 then v else _) = _
       rw [if_neg (fun z => absurd z.2.2 (Nat.not_lt_zero _))])
theorem k_J7_fill_53178 {G : gG5} {nf r i : Nat} {M : gM} {v : Int32} (hs : gSh r = 100) (he : (gXn nf).1 r i = true) (hlen : gLen r i < 2000) : gMet G (gXn nf) yJ7_fill_53178 cJ7_fill_53178 4 none 0 0 M [.ref (gad r i), Value.int v] none (flI M r i v (gLen r i)) := by
  refine gMet_of (by decide +kernel) rfl (Nat.le_of_ble_eq_true rfl) (fun Ψ C CR => ?_)
  show Ψ M 0 [(0, .ref (gad r i)), (1, Value.int v)] []
  have loop : ∀ (k j : Nat), j + k = gLen r i → Ψ (flI M r i v j) 5 [(2, .int (Int32.ofNat j)), (3, .int (Int32.ofNat (gLen r i))), (0, .ref (gad r i)), (1, Value.int v)] [] := by
    intro k
    induction k with
    | zero =>
      intro j hj
      refine r_iload_n C dJ7_fill_53178_5 rfl 0 rfl ?_
      refine r_iload_n C dJ7_fill_53178_6 rfl 1 rfl ?_
      refine r_icmp_ge (tgt := 20) C dJ7_fill_53178_7 rfl (fun _ => ?_) (fun c => absurd (by rw [show j = gLen r i by omega]; exact Int32.le_refl _) c)
      exact r_vret CR dJ7_fill_53178_20 rfl (by rw [show j = gLen r i by omega])
    | succ k ih =>
      intro j hj
      have hg : gin (Int32.ofNat j) (gLen r i) = true := gin_iff.mpr (vp_in_nI (by omega) (by omega))
      have hc : (Int32.ofNat j).toNatClampNeg = j := nI_clamp (by omega)
      refine r_iload_n C dJ7_fill_53178_5 rfl 0 rfl ?_
      refine r_iload_n C dJ7_fill_53178_6 rfl 1 rfl ?_
      refine r_icmp_ge (tgt := 20) C dJ7_fill_53178_7 rfl (fun c => absurd c (nI_ge (by omega) (by omega))) (fun _ => ?_)
      refine r_aload_n C dJ7_fill_53178_10 rfl 2 rfl ?_
      refine r_iload_n C dJ7_fill_53178_11 rfl 0 rfl ?_
      refine r_iload_n C dJ7_fill_53178_12 rfl 3 rfl ?_
      refine r_iastN C dJ7_fill_53178_13 hs he hg hc rfl ?_
      rw [flI_succ]
      refine r_iinc C dJ7_fill_53178_14 0 rfl rfl (by decide) (y := Int32.ofNat (j + 1)) (nI_1 j).symm (ls' := [(2, .int (Int32.ofNat (j + 1))), (3, .int (Int32.ofNat (gLen r i))), (0, .ref (gad r i)), (1, Value.int v)]) rfl ?_
      refine r_goto (tgt := 5) C dJ7_fill_53178_17 rfl ?_
      exact ih (j + 1) (by omega)
  refine r_iconst (v := 0) C dJ7_fill_53178_0 rfl ?_
  refine r_istore_n C dJ7_fill_53178_1 rfl (by decide) rfl (ls' := [(2, .int 0), (0, .ref (gad r i)), (1, Value.int v)]) rfl ?_
  refine r_aload_n C dJ7_fill_53178_2 rfl 1 rfl ?_
  refine r_alen (n := Int32.ofNat (gLen r i)) C dJ7_fill_53178_3 (by omega) he rfl ?_
  refine r_istore_n C dJ7_fill_53178_4 rfl (by decide) rfl (ls' := [(3, .int (Int32.ofNat (gLen r i))), (2, .int 0), (0, .ref (gad r i)), (1, Value.int v)]) rfl ?_
  refine r_sub C [1, 0, 2, 3] (ls' := [(2, .int 0), (3, .int (Int32.ofNat (gLen r i))), (0, .ref (gad r i)), (1, Value.int v)]) rfl ?_
  have h0 := loop (gLen r i) 0 (Nat.zero_add _)
  rw [flI_zero] at h0
  exact h0
theorem hd_J7_fill_53178 : yJ7_fill_53178.cls ≠ "java/lang/invoke/MethodHandle" ∧ yJ7_fill_53178.cls ≠ "java/lang/invoke/VarHandle" ∧ (parseMethodDescriptor yJ7_fill_53178.desc).map (fun d => d.parameters.length) = some 2 := by decide +kernel
theorem r_fillI {Ψ : gM → Nat → List (Nat × Value) → List Value → Prop} {G : gG5} {nf : Nat} {cc : ByteArray} {own : String} {nL : Nat} {ret : Option FieldType} {fr lo : Nat} {v0 : Option Value} {M0 M : gM} {pc index : Nat} {ls : List (Nat × Value)} {st : List Value} {r i n : Nat} {v : Int32} {M1 : gM} (C : gC Ψ G (gXn nf) cc own nL ret fr lo v0 M0) (d : decode cc pc = .ok (.invokestatic index, 3)) (hl : Cond.methodLink own index yJ7_fill_53178 ∈ gws) (hs : gSh r = 100) (he : (gXn nf).1 r i = true) (hn : gLen r i = n ∧ n < 2000) (hM : M1 = flI M r i v n) (hR : 1 ≤ fr ∧ 23 ≤ lo) (hcat : (st.map fun v => v.category).sum ≤ 8) (k : Ψ M1 (pc + 3) ls st) : Ψ M pc ls (Value.int v :: .ref (gad r i) :: st) := by
  obtain ⟨rfl, h2⟩ := hn
  subst hM
  exact r_callS C [.ref (gad r i), Value.int v] st d (k_J7_fill_53178 hs he h2) hl q780 q134 q781 hd_J7_fill_53178 hR rfl hcat k
theorem flL_succ (M : gM) (r i : Nat) (v : Int64) (n : Nat) : wL (flL M r i v n) r i n v = flL M r i v (n + 1) := by
  unfold wL flL
  apply Prod.ext
  all_goals first
    | rfl
    | (funext a b k
       show (if a = r ∧ b = i ∧ k = n then v else if a = r ∧ b = i ∧ k < n then v else _) = (if a = r ∧ b = i ∧ k < n + 1 then v else _)
       by_cases h1 : a = r ∧ b = i ∧ k = n
       · rw [if_pos h1, if_pos ⟨h1.1, h1.2.1, by omega⟩]
       · rw [if_neg h1]
         by_cases h2 : a = r ∧ b = i ∧ k < n
         · rw [if_pos h2, if_pos ⟨h2.1, h2.2.1, by omega⟩]
         · rw [if_neg h2, if_neg (fun z => h2 ⟨z.1, z.2.1, by
             have : ¬ k = n := fun q => h1 ⟨z.1, z.2.1, q⟩
             omega⟩)])
theorem flL_zero (M : gM) (r i : Nat) (v : Int64) : flL M r i v 0 = M := by
  unfold flL
  apply Prod.ext
  all_goals first
    | rfl
    | (funext a b k
       show (if a = r ∧ b = i ∧ k < 0 then v else _) = _
       rw [if_neg (fun z => absurd z.2.2 (Nat.not_lt_zero _))])
theorem k_J7_fill_d0a16 {G : gG5} {nf r i : Nat} {M : gM} {v : Int64} (hs : gSh r = 103) (he : (gXn nf).1 r i = true) (hlen : gLen r i < 2000) : gMet G (gXn nf) yJ7_fill_d0a16 cJ7_fill_d0a16 5 none 0 0 M [.ref (gad r i), Value.long v] none (flL M r i v (gLen r i)) := by
  refine gMet_of (by decide +kernel) rfl (Nat.le_of_ble_eq_true rfl) (fun Ψ C CR => ?_)
  show Ψ M 0 [(0, .ref (gad r i)), (1, Value.long v)] []
  have loop : ∀ (k j : Nat), j + k = gLen r i → Ψ (flL M r i v j) 6 [(3, .int (Int32.ofNat j)), (4, .int (Int32.ofNat (gLen r i))), (0, .ref (gad r i)), (1, Value.long v)] [] := by
    intro k
    induction k with
    | zero =>
      intro j hj
      refine r_iload_n C dJ7_fill_d0a16_6 rfl 0 rfl ?_
      refine r_iload C dJ7_fill_d0a16_7 1 rfl ?_
      refine r_icmp_ge (tgt := 22) C dJ7_fill_d0a16_9 rfl (fun _ => ?_) (fun c => absurd (by rw [show j = gLen r i by omega]; exact Int32.le_refl _) c)
      exact r_vret CR dJ7_fill_d0a16_22 rfl (by rw [show j = gLen r i by omega])
    | succ k ih =>
      intro j hj
      have hg : gin (Int32.ofNat j) (gLen r i) = true := gin_iff.mpr (vp_in_nI (by omega) (by omega))
      have hc : (Int32.ofNat j).toNatClampNeg = j := nI_clamp (by omega)
      refine r_iload_n C dJ7_fill_d0a16_6 rfl 0 rfl ?_
      refine r_iload C dJ7_fill_d0a16_7 1 rfl ?_
      refine r_icmp_ge (tgt := 22) C dJ7_fill_d0a16_9 rfl (fun c => absurd c (nI_ge (by omega) (by omega))) (fun _ => ?_)
      refine r_aload_n C dJ7_fill_d0a16_12 rfl 2 rfl ?_
      refine r_iload_n C dJ7_fill_d0a16_13 rfl 0 rfl ?_
      refine r_lload_n C dJ7_fill_d0a16_14 rfl 3 rfl ?_
      refine r_lastN C dJ7_fill_d0a16_15 hs he hg hc rfl ?_
      rw [flL_succ]
      refine r_iinc C dJ7_fill_d0a16_16 0 rfl rfl (by decide) (y := Int32.ofNat (j + 1)) (nI_1 j).symm (ls' := [(3, .int (Int32.ofNat (j + 1))), (4, .int (Int32.ofNat (gLen r i))), (0, .ref (gad r i)), (1, Value.long v)]) rfl ?_
      refine r_goto (tgt := 6) C dJ7_fill_d0a16_19 rfl ?_
      exact ih (j + 1) (by omega)
  refine r_iconst (v := 0) C dJ7_fill_d0a16_0 rfl ?_
  refine r_istore_n C dJ7_fill_d0a16_1 rfl (by decide) rfl (ls' := [(3, .int 0), (0, .ref (gad r i)), (1, Value.long v)]) rfl ?_
  refine r_aload_n C dJ7_fill_d0a16_2 rfl 1 rfl ?_
  refine r_alen (n := Int32.ofNat (gLen r i)) C dJ7_fill_d0a16_3 (by omega) he rfl ?_
  refine r_istore C dJ7_fill_d0a16_4 (by decide) rfl (ls' := [(4, .int (Int32.ofNat (gLen r i))), (3, .int 0), (0, .ref (gad r i)), (1, Value.long v)]) rfl ?_
  refine r_sub C [1, 0, 2, 3] (ls' := [(3, .int 0), (4, .int (Int32.ofNat (gLen r i))), (0, .ref (gad r i)), (1, Value.long v)]) rfl ?_
  have h0 := loop (gLen r i) 0 (Nat.zero_add _)
  rw [flL_zero] at h0
  exact h0
theorem hd_J7_fill_d0a16 : yJ7_fill_d0a16.cls ≠ "java/lang/invoke/MethodHandle" ∧ yJ7_fill_d0a16.cls ≠ "java/lang/invoke/VarHandle" ∧ (parseMethodDescriptor yJ7_fill_d0a16.desc).map (fun d => d.parameters.length) = some 2 := by decide +kernel
theorem r_fillL {Ψ : gM → Nat → List (Nat × Value) → List Value → Prop} {G : gG5} {nf : Nat} {cc : ByteArray} {own : String} {nL : Nat} {ret : Option FieldType} {fr lo : Nat} {v0 : Option Value} {M0 M : gM} {pc index : Nat} {ls : List (Nat × Value)} {st : List Value} {r i n : Nat} {v : Int64} {M1 : gM} (C : gC Ψ G (gXn nf) cc own nL ret fr lo v0 M0) (d : decode cc pc = .ok (.invokestatic index, 3)) (hl : Cond.methodLink own index yJ7_fill_d0a16 ∈ gws) (hs : gSh r = 103) (he : (gXn nf).1 r i = true) (hn : gLen r i = n ∧ n < 2000) (hM : M1 = flL M r i v n) (hR : 1 ≤ fr ∧ 24 ≤ lo) (hcat : (st.map fun v => v.category).sum ≤ 8) (k : Ψ M1 (pc + 3) ls st) : Ψ M pc ls (Value.long v :: .ref (gad r i) :: st) := by
  obtain ⟨rfl, h2⟩ := hn
  subst hM
  exact r_callS C [.ref (gad r i), Value.long v] st d (k_J7_fill_d0a16 hs he h2) hl q783 q134 q784 hd_J7_fill_d0a16 hR rfl hcat k
