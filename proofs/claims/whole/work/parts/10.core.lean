/-! The layer of this proof: one memory of numbers (M), a fixed plan of regions (X says which cells there are and what references hold), methods walked over it -/
abbrev vwCl : List vw_C := [(RX0, TX0, 13), (RX1, TX1, 11), (RX2, TX2, 3), (RX3, TX3, 4), (RX4, TX4, 12), (RX5, TX5, 2), (RX6, TX6, 13), (RX7, TX7, 8), (RX8, TX8, 2), (RX9, TX9, 3), (RX10, TX10, 16), (RX11, TX11, 38)]
abbrev gM : Type := (Nat → Nat → Nat → Int32) × (Nat → Nat → Nat → Int64)
abbrev gX : Type := (Nat → Nat → Bool) × (Nat → Nat → Nat → Option Nat)
def gad (r i : Nat) : Nat := 64 * i + r
def gv (ad : Nat → Nat) (v : Value) : Value := match v with
  | .ref a => .ref (ad a)
  | w => w
def gls (ad : Nat → Nat) (ls : List (Nat × Value)) : List (Nat × Value) := ls.map (fun q => (q.1, gv ad q.2))
def wI (M : gM) (r i k : Nat) (v : Int32) : gM := (fun r' i' k' => if r' = r ∧ i' = i ∧ k' = k then v else M.1 r' i' k', M.2)
def wL (M : gM) (r i k : Nat) (v : Int64) : gM := (M.1, fun r' i' k' => if r' = r ∧ i' = i ∧ k' = k then v else M.2 r' i' k')
def gin (i : Int32) (n : Nat) : Bool := decide (¬ (i < 0 ∨ n ≤ i.toNatClampNeg))
theorem gin_iff {i : Int32} {n : Nat} : gin i n = true ↔ vp_in i n := by simp [gin, vp_in]
def gG {α : Type} (b : Bool) (e : Option α) : Option α := if b = true then e else none
theorem gG_some {α : Type} {b : Bool} {e : Option α} {r : α} (h : gG b e = some r) : b = true ∧ e = some r := by
  unfold gG at h
  split at h
  · exact ⟨by assumption, h⟩
  · cases h
def gLet {α β : Type} (a : α) (f : α → β) : β := f a
theorem gLet_some {α β : Type} {a : α} {f : α → Option β} {r : β} (h : gLet a f = some r) : ∃ y, y = a ∧ f y = some r := ⟨a, rfl, h⟩
theorem gBind_some {α β : Type} {a : Option α} {f : α → Option β} {r : β} (h : a.bind f = some r) : ∃ y, a = some y ∧ f y = some r := by
  cases a with
  | none => cases h
  | some y => exact ⟨y, rfl, h⟩
theorem gSome {α : Type} {a b : α} (h : some a = some b) : b = a := (Option.some.inj h).symm
/-- a loop: passes from the head until one leaves it -/
def gIter {σ ε : Type} (step : σ → Option (σ ⊕ ε)) : Nat → σ → Option ε
  | 0, _ => none
  | n + 1, s => match step s with
    | none => none
    | some (.inl s') => gIter step n s'
    | some (.inr e) => some e
theorem gIter_V {σ ε : Type} {step : σ → Option (σ ⊕ ε)} {P : σ → Prop} {K : ε → Prop} (h : ∀ s r, step s = some r → (∀ s', r = .inl s' → P s') → (∀ e, r = .inr e → K e) → P s) : ∀ n s e, gIter step n s = some e → K e → P s := by
  intro n
  induction n with
  | zero => intro s e h1 _; cases h1
  | succ n ih =>
    intro s e h1 hk
    unfold gIter at h1
    split at h1
    · cases h1
    · next s' hs => exact h s _ hs (fun z hz => by cases hz; exact ih _ _ h1 hk) (fun z hz => by cases hz)
    · next e' hs => exact h s _ hs (fun z hz => by cases hz) (fun z hz => by cases hz; cases h1; exact hk)
/-! the plan -/
/-- the kind of a region: below 100 the number of its class, 100 int[], 101 char[], 102 byte[], 103 long[], from 104 on arrays of objects -/
def gSh (r : Nat) : Nat := [10, 8, 101, 3, 100, 4, 100, 100, 100, 100, 100, 100, 1, 100, 100, 100, 100, 9, 110, 6, 100, 100, 100, 100, 100, 100, 100, 100, 7, 100, 100, 100, 100, 0, 100, 100, 100, 100, 100, 100, 100, 103, 100, 2, 104, 109, 5, 100, 100, 100, 11, 102, 100, 103].getD r 100
def gTy (k : Nat) : FieldType := match k with
  | 100 => .int
  | 101 => .char
  | 102 => .byte
  | 103 => .long
  | 104 => .object RX0
  | 109 => .object RX5
  | _ => .object RX6
/-- what a slot holds: 0 a number of 32 bits, 1 one of 64, 2 a reference -/
def gFt (k j : Nat) : Nat := match k with
  | 0 => if j < 9 then 2 else 0
  | 1 => if j < 7 then 0 else 2
  | 2 => if j < 1 then 2 else 0
  | 3 => if j < 2 then 2 else 0
  | 4 => if j < 6 then 0 else 2
  | 5 => if j < 1 then 2 else 0
  | 6 => if j = 0 then 2 else if j < 6 then 0 else 2
  | 7 => 2
  | 8 => if j < 1 then 2 else 0
  | 9 => 2
  | 10 => if j < 13 then 2 else if j < 15 then 0 else 1
  | 11 => [0, 2, 0, 0, 0, 0, 2, 0, 2, 2, 2, 2, 2, 2, 2, 0, 0, 0, 2, 2, 2, 2, 0, 0, 0, 2, 2, 2, 0, 0, 0, 0, 1, 2, 2, 2, 2, 2].getD j 0
  | 100 => 0
  | 101 => 0
  | 102 => 0
  | 103 => 1
  | _ => 2
def gClN (k : Nat) : Nat := [13, 11, 3, 4, 12, 2, 13, 8, 2, 3, 16, 38].getD k 0
def gMLen (i : Nat) : Nat := [11, 9, 9, 120, 120, 300, 5, 4, 1242, 1242, 1242, 49680, 3, 3, 3, 10, 64, 64, 64, 4].getD i 0
def gLen (r i : Nat) : Nat := if r = 52 then gMLen i else [0, 0, 480, 0, 11, 0, 4, 10, 10, 10, 30, 60, 0, 256, 17, 256, 256, 0, 10, 0, 6, 3, 3, 3, 3, 3, 256, 64, 0, 64, 4, 4, 3, 0, 256, 256, 256, 160, 16, 60, 4, 10, 180, 0, 40, 5, 0, 60, 4, 5, 0, 480, 0, 1].getD r 0
def gCnt (nf r : Nat) : Nat := if 33 ≤ r ∧ r < 43 then nf + 3 else [1, 1, 1, 1, 1, 2, 2, 2, 2, 2, 2, 2, 1, 1, 1, 1, 1, 1, 1, 10, 10, 10, 10, 10, 10, 10, 10, 10, 1, 1, 1, 1, 1, 0, 0, 0, 0, 0, 0, 0, 0, 0, 0, 1, 1, 1, 5, 5, 1, 1, 1, 1, 20, 1].getD r 0
def gRm (k : Nat) : Option Nat := match k with
  | 1 => some (gad 51 0)
  | 6 => some (gad 52 0)
  | 8 => some (gad 52 1)
  | 9 => some (gad 52 2)
  | 10 => some (gad 52 3)
  | 11 => some (gad 52 4)
  | 12 => some (gad 52 5)
  | 13 => some (gad 52 6)
  | 14 => some (gad 52 7)
  | 18 => some (gad 52 8)
  | 19 => some (gad 52 9)
  | 20 => some (gad 52 10)
  | 21 => some (gad 52 11)
  | 25 => some (gad 52 12)
  | 26 => some (gad 52 13)
  | 27 => some (gad 52 14)
  | 33 => some (gad 52 15)
  | 34 => some (gad 52 16)
  | 35 => some (gad 52 17)
  | 36 => some (gad 52 18)
  | 37 => some (gad 52 19)
  | _ => none
def gRt (k : Nat) : Option Nat := match k with
  | 0 => some (gad 1 0)
  | 1 => some (gad 3 0)
  | 2 => some (gad 5 0)
  | 3 => some (gad 5 1)
  | 4 => some (gad 12 0)
  | 5 => some (gad 17 0)
  | 6 => some (gad 28 0)
  | 7 => some (gad 33 0)
  | 8 => some (gad 33 1)
  | 9 => some (gad 43 0)
  | 10 => some (gad 45 0)
  | 11 => some (gad 48 0)
  | 12 => some (gad 49 0)
  | _ => none
def gRs (k : Nat) : Option Nat := match k with
  | 0 => some (gad 5 1)
  | 1 => some (gad 12 0)
  | 2 => some (gad 17 0)
  | 3 => some (gad 29 0)
  | 4 => some (gad 30 0)
  | 5 => some (gad 31 0)
  | 6 => some (gad 33 2)
  | 7 => some (gad 32 0)
  | _ => none
def gRf (nf r i k : Nat) : Option Nat :=
  if r = 33 then (if k < 9 then some (gad (34 + k) i) else none)
  else if r = 19 then (if k = 0 then some (gad 20 i) else if 6 ≤ k ∧ k < 13 then some (gad (15 + k) i) else none)
  else if r = 5 then (if 6 ≤ k ∧ k < 12 then some (gad k i) else none)
  else if r = 0 then gRt k
  else if r = 50 then gRm k
  else if r = 1 then (if k = 0 then some (gad 2 0) else none)
  else if r = 3 then (if k = 0 then some (gad 1 0) else if k = 1 then some (gad 4 0) else none)
  else if r = 12 then (if 7 ≤ k ∧ k < 11 then some (gad (6 + k) 0) else none)
  else if r = 17 then (if k = 0 then some (gad 5 1) else if k = 1 then some (gad 12 0) else if k = 2 then some (gad 18 0) else none)
  else if r = 18 then (if k < 10 then some (gad 19 k) else none)
  else if r = 28 then gRs k
  else if r = 43 then (if k = 0 then some (gad 44 0) else none)
  else if r = 44 then (if k < nf then some (gad 33 (k + 3)) else none)
  else if r = 45 then (if k < 5 then some (gad 46 k) else none)
  else if r = 46 then (if k = 0 then some (gad 47 i) else none)
  else none
def gXn (nf : Nat) : gX := (fun r i => decide (i < gCnt nf r), gRf nf)
def gfv (ad : Nat → Nat) (X : gX) (M : gM) (r i t j : Nat) : Value := if t = 0 then .int (M.1 r i j) else if t = 1 then .long (M.2 r i j) else va_rf ((X.2 r i j).map ad)
def gAt (D : va_G) (ad : Nat → Nat) (cA : Nat → ClassId) (X : gX) (M : gM) (r i : Nat) (H : Heap) : Prop :=
  if gSh r < 100 then t_OB (ad (gad r i)) (D.1 (gSh r)) (gClN (gSh r)) (D.2 (gSh r)) H (fun j => gfv ad X M r i (gFt (gSh r) j) j)
  else H[ad (gad r i)]? = some (arrV (cA (gad r i)) (gLen r i) (fun j => gfv ad X M r i (gFt (gSh r) j) j))
/-- static tables: class, name, length, contents -/
def gSn (k : Nat) : String × String × String := match k with
  | 0 => ("TileLights$Reader", "SCENE_NUMBERS", "[I")
  | 1 => ("TileLights$Reader", "SCENE_FIRST", "[I")
  | 2 => ("TileLights$Reader", "SCENE_BOUNDS", "[I")
  | 3 => ("TileLights$Reader", "STEP_NUMBERS", "[I")
  | 4 => ("TileLights$Reader", "STEP_FIRST", "[I")
  | 5 => ("TileLights$Reader", "STEP_BOUNDS", "[I")
  | 6 => ("TileLights$Grid", "SAMPLE_X", "[I")
  | 7 => ("TileLights$Grid", "SAMPLE_Y", "[I")
  | 8 => ("TileLights$Works", "RULE_LOW", "[I")
  | _ => ("TileLights$Works", "RULE_HIGH", "[I")
def gSt (k : Nat) : List Int32 := match k with
  | 0 => [2, 1, 1, 1, 1, 1, 1, 1, 11, 11, 11, 11]
  | 1 => [0, 2, 3, 4, 5, 6, 7, 8, 9, 9, 9, 9]
  | 2 => [1, 8, 1, 8, 2, 4, 1, 4, 0, 255, 0, 2, 0, 1, 0, 1, 1, 10, -99, 160, -99, 160, 0, 999, -99, 160, -99, 160, 0, 999, -99, 160, -99, 160, 0, 999, 0, 255, 1, 8]
  | 3 => [1, 1, 0, 0, 1, 1, 1, 1, 4]
  | 4 => [0, 1, 2, 2, 2, 3, 4, 5, 6]
  | 5 => [0, 9, 0, 15, 0, 2, 0, 1, 0, 1, 1, 10, 0, 9, 0, 2, -20, 20, -20, 20]
  | 6 => [4, 2, 6, 3, 7, 1, 5]
  | 7 => [4, 2, 6, 1, 3, 5, 7]
  | 8 => [0, 0, 0, 1]
  | _ => [2, 1, 1, 10]
def gSv (k j : Nat) : Int32 := (gSt k).getD j 0
def gStat (base : Nat) (ad : Nat → Nat) (U : State) (H : Heap) : Prop := ∀ k, k < 10 → va_Z (gSn k).1 (gSn k).2.1 (gSn k).2.2 (.ref (ad (gad 63 k))) (fun q => base ≤ q) U H ∧ va_T .int (ad (gad 63 k)) (gSt k).length (fun j => .int (gSv k j)) (fun q => base ≤ q) U H
/-- the texts of words: two literals, each of them in the class's file and in the reference's -/
def gTx (k : Nat) : List Int32 := match k with
  | 0 => [115, 105, 122, 101, 32, 116, 105, 108, 101, 32, 109, 97, 110, 121, 32, 98, 97, 99, 107, 32, 99, 117, 108, 108, 32, 116, 101, 115, 116, 32, 108, 97, 116, 101, 32, 114, 111, 111, 109, 32, 102, 108, 97, 116, 32, 99, 104, 101, 99, 107, 32, 114, 111, 119, 115, 32, 100, 101, 101, 112, 32]
  | _ => [100, 114, 97, 119, 32, 102, 108, 117, 115, 104, 32, 97, 108, 108, 32, 99, 108, 101, 97, 114, 32, 99, 117, 108, 108, 32, 116, 101, 115, 116, 32, 108, 97, 116, 101, 32, 114, 111, 111, 109, 32, 109, 111, 118, 101, 32]
def gTl (k : Nat) : Int32 := Int32.ofNat (gTx k).length
def gTc (k j : Nat) : Int32 := (gTx k).getD j 0
def gTw (k : Nat) : String × Nat × String × Nat := match k with
  | 0 => ("TileLights$Reader", 34, "size tile many back cull test late room flat check rows deep ", 0)
  | 1 => ("TileLights$Reader", 80, "draw flush all clear cull test late room move ", 1)
  | 2 => ("TileLightsModel", 174, "size tile many back cull test late room flat check rows deep ", 0)
  | _ => ("TileLightsModel", 200, "draw flush all clear cull test late room move ", 1)
def gStr (base : Nat) (ad : Nat → Nat) (U : State) (H : Heap) : Prop := (∀ k, k < 2 → va_O "java/lang/String" (ad (gad 62 k)) (fun q => base ≤ q) U H ∧ va_OF "java/lang/String" "coder" "B" (.int 0) (ad (gad 62 k)) (fun q => base ≤ q) U H ∧ va_OF "java/lang/String" "value" "[B" (.ref (ad (gad 61 k))) (ad (gad 62 k)) (fun q => base ≤ q) U H ∧ va_T .byte (ad (gad 61 k)) (gTx k).length (fun j => .int (gTc k j)) (fun q => base ≤ q) U H) ∧
  va_Z "java/lang/String" "COMPACT_STRINGS" "Z" (.int 1) (fun q => base ≤ q) U H ∧ (va_Z "jdk/internal/util/Preconditions" "SIOOBE_FORMATTER" "Ljava/util/function/BiFunction;" .null (fun q => base ≤ q) U H ∨ va_Z "jdk/internal/util/Preconditions" "SIOOBE_FORMATTER" "Ljava/util/function/BiFunction;" (.ref (ad (gad 60 0))) (fun q => base ≤ q) U H)
def gK (D : va_G) (ad : Nat → Nat) (U : State) : Prop := (∀ (c : Nat) (q : vw_C), vwCl[c]? = some q → u_Kn U q.1 q.2.1 q.2.2 (D.1 c) (D.2 c)) ∧ (∀ k, k < 4 → vk_R (gTw k).1 (gTw k).2.1 (gTw k).2.2.1 (ad (gad 62 (gTw k).2.2.2)) U) ∧ va_Nw (.methodLinkNest RX9 118 yX10_isPoint RX10) U ∧ va_AO RX0 U ∧ va_AO RX5 U ∧ va_AO RX6 U
def gWd (D : va_G) (base : Nat) (ad : Nat → Nat) (cA : Nat → ClassId) (X : gX) (M : gM) (U : State) (H : Heap) : Prop :=
  base ≤ H.size ∧ (∀ r i, X.1 r i = true → gAt D ad cA X M r i H) ∧ (∀ r i r' i', X.1 r i = true → X.1 r' i' = true → ad (gad r i) = ad (gad r' i') → r = r' ∧ i = i') ∧
  (∀ r i, X.1 r i = true → base ≤ ad (gad r i)) ∧ (∀ r i, X.1 r i = true → 100 ≤ gSh r → ArrOfT U (cA (gad r i)) (gTy (gSh r)) ∧ va_RA U (cA (gad r i)) (gTy (gSh r))) ∧ gStat base ad U H ∧ gStr base ad U H
theorem gK.warm {D : va_G} {ad : Nat → Nat} {u U : State} (hW : u.WarmedH U.vm) (h : gK D ad u) : gK D ad U := ⟨fun c q hq => u_Kn_moved hW.alike (h.1 c q hq), fun k hk => (h.2.1 k hk).warm hW, h.2.2.1.warmM hW, h.2.2.2.1.moved hW.alike, h.2.2.2.2.1.moved hW.alike, h.2.2.2.2.2.moved hW.alike⟩
theorem gK.same {D : va_G} {ad : Nat → Nat} {u U : State} (hv : U.vm = u.vm) (h : gK D ad u) : gK D ad U := ⟨fun c q hq => u_Kn_moved (by rw [hv]; exact Vm.Alike.refl _) (h.1 c q hq), fun k hk => (h.2.1 k hk).same hv, h.2.2.1.same rfl hv.symm, h.2.2.2.1.moved (by rw [hv]; exact Vm.Alike.refl _), h.2.2.2.2.1.moved (by rw [hv]; exact Vm.Alike.refl _), h.2.2.2.2.2.moved (by rw [hv]; exact Vm.Alike.refl _)⟩
theorem gStr.moved {base : Nat} {ad : Nat → Nat} {u U : State} {H : Heap} (hvm : u.vm.Alike U.vm) (h : gStr base ad u H) : gStr base ad U H := ⟨fun k hk => ⟨(h.1 k hk).1.moved hvm, (h.1 k hk).2.1.moved hvm, (h.1 k hk).2.2.1.moved hvm, (h.1 k hk).2.2.2.moved hvm⟩, h.2.1.moved hvm, h.2.2.elim (fun z => Or.inl (z.moved hvm)) (fun z => Or.inr (z.moved hvm))⟩
theorem gStr.kept {base : Nat} {ad : Nat → Nat} {U : State} {H H1 : Heap} (h : gStr base ad U H) (hq : ∀ a : Nat, a < H.size → ¬ base ≤ a → H1[a]? = H[a]?) : gStr base ad U H1 := ⟨fun k hk => ⟨(h.1 k hk).1.kept hq, (h.1 k hk).2.1.kept hq, (h.1 k hk).2.2.1.kept hq, (h.1 k hk).2.2.2.kept hq⟩, h.2.1.kept hq, h.2.2.elim (fun z => Or.inl (z.kept hq)) (fun z => Or.inr (z.kept hq))⟩
theorem gStat.moved {base : Nat} {ad : Nat → Nat} {u U : State} {H : Heap} (hvm : u.vm.Alike U.vm) (h : gStat base ad u H) : gStat base ad U H := fun k hk => ⟨(h k hk).1.moved hvm, (h k hk).2.moved hvm⟩
theorem gWd.moved {D : va_G} {base : Nat} {ad : Nat → Nat} {cA : Nat → ClassId} {X : gX} {M : gM} {u U : State} {H : Heap} (hvm : u.vm.Alike U.vm) (h : gWd D base ad cA X M u H) : gWd D base ad cA X M U H :=
  ⟨h.1, h.2.1, h.2.2.1, h.2.2.2.1, fun r i h1 h2 => ⟨arrOfT_moved hvm (h.2.2.2.2.1 r i h1 h2).1, (h.2.2.2.2.1 r i h1 h2).2.moved hvm⟩, h.2.2.2.2.2.1.moved hvm, h.2.2.2.2.2.2.moved hvm⟩
abbrev gA (base : Nat) : Nat → Prop := fun q => base ≤ q
theorem gx {nf r i : Nat} (h : i < gCnt nf r) : (gXn nf).1 r i = true := decide_eq_true h
theorem gf0 (nf : Nat) : 0 < nf + 3 := Nat.succ_pos _
theorem gf1 (nf : Nat) : 1 < nf + 3 := by omega
theorem gf2 (nf : Nat) : 2 < nf + 3 := by omega
/-! words -/
def gws : List Cond := lw_tbl.filter goodWord
theorem gmem {w : Cond} (i : Nat) (h : lw_tbl[i]? = some w) (hg : goodWord w = true) : w ∈ gws := List.mem_filter.mpr ⟨List.mem_of_getElem? h, hg⟩
theorem gws_good {w : Cond} (h : w ∈ gws) : (w.onTables && w.keeps) = true ∨ ∃ ty, w = .arrayClass ty := good_of_word (List.mem_filter.mp h).2
/-! the walk of one method -/
abbrev gG5 : Type := Launch × va_G × Nat × (Nat → Nat) × (Nat → ClassId)
/-- a method's words: its own code, and all good words of the tables -/
abbrev gwm (y : MethodName) (cc : ByteArray) (n : Nat) (ret : Option FieldType) : List Cond := Cond.code y cc n ret :: gws
def gPre (G : gG5) (X : gX) (M : gM) (av : List Value) : Array Value → State → Prop := va_Pc (av.map (gv G.2.2.2.1)) (fun U => gK G.2.1 G.2.2.2.1 U ∧ gWd G.2.1 G.2.2.1 G.2.2.2.1 G.2.2.2.2 X M U U.heap)
def gPost (G : gG5) (X : gX) (v : Option Value) (M : gM) : Array Value → State → Outcome → State → Prop := fun _ st o t => o = .returned (v.map (gv G.2.2.2.1)) ∧ gWd G.2.1 G.2.2.1 G.2.2.2.1 G.2.2.2.2 X M t t.heap ∧ va_F (gA G.2.2.1) st t
def gMet (G : gG5) (X : gX) (y : MethodName) (cc : ByteArray) (n : Nat) (ret : Option FieldType) (fr lo : Nat) (M : gM) (av : List Value) (v : Option Value) (M' : gM) : Prop :=
  Met G.1 y (gwm y cc n ret) { frames := fr, cells := 0, slots := 0, locals := lo } (gPre G X M av) (gPost G X v M') 0 0 (gA G.2.2.1)
/-- the walk stands: what Ψ is, and what is known of the machine (v0 and M0 only name the end that is meant) -/
def gC (Ψ : gM → Nat → List (Nat × Value) → List Value → Prop) (G : gG5) (X : gX) (cc : ByteArray) (own : String) (nL : Nat) (_ret : Option FieldType) (fr lo : Nat) (_v0 : Option Value) (_M0 : gM) : Prop :=
  ∃ (p : Program) (e : Env) (s : State) (m : MethodId) (args : Array Value) (below : List Frame) (meth : Method) (c : Code) (Q : State → Prop) (R : Room) (cells slots : Nat),
    Ψ = (fun M pc ls st => ∀ (H : Heap) (locs : List Loc) (lsA : Array Slot), lv_has lsA nL (gls G.2.2.2.1 ls) → gWd G.2.1 G.2.2.1 G.2.2.2.1 G.2.2.2.2 X M s H → va_S (gA G.2.2.1) s.heap H locs →
      W p G.1 e R s m args below meth c H locs cells slots Q (F0 m pc lsA (st.map (gv G.2.2.2.1)))) ∧
    p.tables.exec = Jvm.exec ∧ c.code = cc ∧ c.maxLocals = nL ∧ s.vm.findClass own = some m.cls ∧ (∀ w ∈ gws, w.before args s = true) ∧ gK G.2.1 G.2.2.2.1 s ∧ R.frames = fr ∧ R.locals = lo ∧ cells ≤ R.cells ∧ slots ≤ R.slots
/-- the walk may end: with the value v0 and the memory M0 -/
def gR (Ψ : gM → Nat → List (Nat × Value) → List Value → Prop) (cc : ByteArray) (ret : Option FieldType) (v0 : Option Value) (M0 : gM) : Prop :=
  (∀ (pc : Nat) (ls : List (Nat × Value)) (x : Int32) (ty : FieldType), ret = some ty → decode cc pc = .ok (.ireturn, 1) → narrow ty (.int x) = .int x → v0 = some (.int x) → Ψ M0 pc ls [.int x]) ∧
  (∀ (pc : Nat) (ls : List (Nat × Value)) (x : Int64), ret = some .long → decode cc pc = .ok (.lreturn, 1) → v0 = some (.long x) → Ψ M0 pc ls [.long x]) ∧
  (∀ (pc : Nat) (ls : List (Nat × Value)), ret = none → decode cc pc = .ok (.return_, 1) → v0 = none → Ψ M0 pc ls [])
theorem gv_cat (ad : Nat → Nat) (v : Value) : (gv ad v).category = v.category := by cases v <;> rfl
theorem gls_at {ad : Nat → Nat} {ls : List (Nat × Value)} {k i : Nat} {v : Value} (h : ls[k]? = some (i, v)) : (gls ad ls)[k]? = some (i, gv ad v) := by
  unfold gls
  rw [List.getElem?_map, h]
  rfl
theorem gls_filter (ad : Nat → Nat) (f : Nat → Nat → Bool) (ls : List (Nat × Value)) : (gls ad ls).filter (fun q => f q.1 q.2.category) = gls ad (ls.filter (fun q => f q.1 q.2.category)) := by
  unfold gls
  induction ls with
  | nil => rfl
  | cons a t ih =>
    simp only [List.map_cons, List.filter_cons, gv_cat]
    split
    · simp only [List.map_cons, ih]
    · exact ih
theorem gls_store {ad : Nat → Nat} {ls ls' : List (Nat × Value)} {i : Nat} {v : Value} (h : (i, v) :: ls.filter (fun q => !(q.1 == i) && !(q.1 + 1 == i && q.2.category == 2)) = ls') :
    (i, gv ad v) :: (gls ad ls).filter (fun q => !(q.1 == i) && !(q.1 + 1 == i && q.2.category == 2)) = gls ad ls' := by
  rw [← h, gls_filter ad (fun a b => !(a == i) && !(a + 1 == i && b == 2)) ls]
  rfl
theorem gls_storeL {ad : Nat → Nat} {ls ls' : List (Nat × Value)} {i : Nat} {v : Value} (h : (i, v) :: ls.filter (fun q => !(q.1 == i) && (!(q.1 == i + 1) && !(q.1 + 1 == i && q.2.category == 2))) = ls') :
    (i, gv ad v) :: (gls ad ls).filter (fun q => !(q.1 == i) && (!(q.1 == i + 1) && !(q.1 + 1 == i && q.2.category == 2))) = gls ad ls' := by
  rw [← h, gls_filter ad (fun a b => !(a == i) && (!(a == i + 1) && !(a + 1 == i && b == 2))) ls]
  rfl
