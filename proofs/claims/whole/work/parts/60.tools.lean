/-! tools of the pure part: loops as folds, numbers as nI, writes and reads -/
theorem FU_gt {n : Nat} (h : n < 5000) : n < FU := by rw [FU_eq]; exact h
def gFM {α β : Type} (f : α → β → Option β) : List α → β → Option β
  | [], x => some x
  | a :: l, x => (f a x).bind (gFM f l)
theorem gFM_nil {α β : Type} (f : α → β → Option β) (x : β) : gFM f [] x = some x := rfl
theorem gFM_cons {α β : Type} (f : α → β → Option β) (a : α) (l : List α) (x : β) : gFM f (a :: l) x = (f a x).bind (gFM f l) := rfl
theorem gFM_append {α β : Type} (f : α → β → Option β) (l l' : List α) (x : β) : gFM f (l ++ l') x = (gFM f l x).bind (gFM f l') := by
  induction l generalizing x with
  | nil => rfl
  | cons a l ih =>
    rw [List.cons_append, gFM_cons, gFM_cons, Option.bind_assoc]
    congr 1
    funext y
    exact ih y
theorem gFM_flatMap {α β γ : Type} (f : α → β → Option β) (g : γ → List α) (l : List γ) (x : β) : gFM f (l.flatMap g) x = gFM (fun c => gFM f (g c)) l x := by
  induction l generalizing x with
  | nil => rfl
  | cons a l ih =>
    rw [List.flatMap_cons, gFM_append, gFM_cons]
    congr 1
    funext y
    exact ih y
theorem gFM_map {α β γ : Type} (f : α → β → Option β) (g : γ → α) (l : List γ) (x : β) : gFM f (l.map g) x = gFM (fun c => f (g c)) l x := by
  induction l generalizing x with
  | nil => rfl
  | cons a l ih =>
    rw [List.map_cons, gFM_cons, gFM_cons]
    congr 1
    funext y
    exact ih y
theorem gFM_congr {α β : Type} {f g : α → β → Option β} (P : β → Prop) (l : List α) (h : ∀ a ∈ l, ∀ x, P x → f a x = g a x) (hP : ∀ a ∈ l, ∀ x y, P x → f a x = some y → P y) : ∀ x, P x → gFM f l x = gFM g l x := by
  induction l with
  | nil => intro x _; rfl
  | cons a l ih =>
    intro x hx
    rw [gFM_cons, gFM_cons, ← h a List.mem_cons_self x hx]
    cases hy : f a x with
    | none => rfl
    | some y => exact ih (fun b hb => h b (List.mem_cons_of_mem _ hb)) (fun b hb => hP b (List.mem_cons_of_mem _ hb)) y (hP a List.mem_cons_self x y hx hy)
theorem gFM_rel {α β γ : Type} {f : α → β → Option β} {g : α → γ → Option γ} (R : β → γ → Prop) (l : List α) (h : ∀ a ∈ l, ∀ x y, R x y → ∃ x' y', f a x = some x' ∧ g a y = some y' ∧ R x' y') : ∀ x y, R x y → ∃ x' y', gFM f l x = some x' ∧ gFM g l y = some y' ∧ R x' y' := by
  induction l with
  | nil => intro x y hr; exact ⟨x, y, rfl, rfl, hr⟩
  | cons a l ih =>
    intro x y hr
    obtain ⟨x1, y1, e1, e2, h1⟩ := h a List.mem_cons_self x y hr
    obtain ⟨x2, y2, e3, e4, h2⟩ := ih (fun b hb => h b (List.mem_cons_of_mem _ hb)) x1 y1 h1
    exact ⟨x2, y2, by rw [gFM_cons, e1]; exact e3, by rw [gFM_cons, e2]; exact e4, h2⟩
theorem gFM_inv {α β : Type} {f : α → β → Option β} (R : β → Prop) (l : List α) (h : ∀ a ∈ l, ∀ x, R x → ∃ x', f a x = some x' ∧ R x') : ∀ x, R x → ∃ x', gFM f l x = some x' ∧ R x' := by
  induction l with
  | nil => intro x hr; exact ⟨x, rfl, hr⟩
  | cons a l ih =>
    intro x hr
    obtain ⟨x1, e1, h1⟩ := h a List.mem_cons_self x hr
    obtain ⟨x2, e3, h2⟩ := ih (fun b hb => h b (List.mem_cons_of_mem _ hb)) x1 h1
    exact ⟨x2, by rw [gFM_cons, e1]; exact e3, h2⟩
theorem gFM_pure {α β : Type} (f : β → α → β) (l : List α) (x : β) : gFM (fun a x => some (f x a)) l x = some (l.foldl f x) := by
  induction l generalizing x with
  | nil => rfl
  | cons a l ih => exact ih (f x a)
/-- a counted loop is a fold -/
theorem gI_fm {σ ε β : Type} {step : σ → Option (σ ⊕ ε)} (mk : Nat → β → σ) (f : Nat → β → Option β) (out : β → ε) (P : β → Prop) (b : Nat)
    (h1 : ∀ k x, k < b → P x → step (mk k x) = (f k x).bind (fun y => some (.inl (mk (k + 1) y)))) (hP : ∀ k x y, k < b → P x → f k x = some y → P y) (h2 : ∀ x, P x → step (mk b x) = some (.inr (out x))) :
    ∀ (n a m : Nat) (x : β), a + n = b → n < m → P x → gIter step m (mk a x) = (gFM f (List.range' a n) x).bind (fun y => some (out y)) := by
  intro n
  induction n with
  | zero =>
    intro a m x ha hm hp
    have e : a = b := by omega
    subst e
    obtain ⟨m, rfl⟩ : ∃ j, m = j + 1 := ⟨m - 1, by omega⟩
    unfold gIter
    rw [h2 x hp]
    rfl
  | succ n ih =>
    intro a m x ha hm hp
    obtain ⟨m, rfl⟩ : ∃ j, m = j + 1 := ⟨m - 1, by omega⟩
    unfold gIter
    rw [h1 a x (by omega) hp, List.range'_succ, gFM_cons]
    cases hy : f a x with
    | none => rfl
    | some y => exact ih (a + 1) m y (by omega) (by omega) (hP a x y (by omega) hp hy)
theorem gI_for {σ ε β : Type} {step : σ → Option (σ ⊕ ε)} (mk : Nat → β → σ) (f : Nat → β → Option β) (out : β → ε) (P : β → Prop) (a n b : Nat) (hb : a + n = b) (hn : n < 5000)
    (h1 : ∀ k x, k < b → P x → step (mk k x) = (f k x).bind (fun y => some (.inl (mk (k + 1) y)))) (hP : ∀ k x y, k < b → P x → f k x = some y → P y) (h2 : ∀ x, P x → step (mk b x) = some (.inr (out x))) (x : β) (hp : P x) :
    gIter step FU (mk a x) = (gFM f (List.range' a n) x).bind (fun y => some (out y)) := gI_fm mk f out P b h1 hP h2 n a FU x hb (FU_gt hn) hp
/-- a counted loop, by an invariant -/
theorem gI1 {σ ε β : Type} {step : σ → Option (σ ⊕ ε)} (mk : Nat → β → σ) (P : Nat → β → Prop) (K : ε → Prop) (b : Nat)
    (hs : ∀ k x, k < b → P k x → ∃ x', step (mk k x) = some (.inl (mk (k + 1) x')) ∧ P (k + 1) x') (he : ∀ x, P b x → ∃ e, step (mk b x) = some (.inr e) ∧ K e) :
    ∀ (n a m : Nat) (x : β), a + n = b → n < m → P a x → ∃ e, gIter step m (mk a x) = some e ∧ K e := by
  intro n
  induction n with
  | zero =>
    intro a m x ha hm hp
    have e : a = b := by omega
    subst e
    obtain ⟨m, rfl⟩ : ∃ j, m = j + 1 := ⟨m - 1, by omega⟩
    obtain ⟨e, h1, h2⟩ := he x hp
    exact ⟨e, by unfold gIter; rw [h1], h2⟩
  | succ n ih =>
    intro a m x ha hm hp
    obtain ⟨m, rfl⟩ : ∃ j, m = j + 1 := ⟨m - 1, by omega⟩
    obtain ⟨x', h1, h2⟩ := hs a x (by omega) hp
    obtain ⟨e, h3, h4⟩ := ih (a + 1) m x' (by omega) (by omega) h2
    exact ⟨e, by unfold gIter; rw [h1]; exact h3, h4⟩
theorem gI1_FU {σ ε β : Type} {step : σ → Option (σ ⊕ ε)} (mk : Nat → β → σ) (P : Nat → β → Prop) (K : ε → Prop) (a b : Nat) (hab : a ≤ b) (hb : b < 5000)
    (hs : ∀ k x, k < b → P k x → ∃ x', step (mk k x) = some (.inl (mk (k + 1) x')) ∧ P (k + 1) x') (he : ∀ x, P b x → ∃ e, step (mk b x) = some (.inr e) ∧ K e) (x : β) (hp : P a x) : ∃ e, gIter step FU (mk a x) = some e ∧ K e :=
  gI1 mk P K b hs he (b - a) a FU x (by omega) (FU_gt (by omega)) hp
/-- two counted loops side by side -/
theorem gI2 {σ τ ε δ β γ : Type} {s1 : σ → Option (σ ⊕ ε)} {s2 : τ → Option (τ ⊕ δ)} (mk1 : Nat → β → σ) (mk2 : Nat → γ → τ) (R : Nat → β → γ → Prop) (K : ε → δ → Prop) (b : Nat)
    (hs : ∀ k x y, k < b → R k x y → ∃ x' y', s1 (mk1 k x) = some (.inl (mk1 (k + 1) x')) ∧ s2 (mk2 k y) = some (.inl (mk2 (k + 1) y')) ∧ R (k + 1) x' y')
    (he : ∀ x y, R b x y → ∃ e d, s1 (mk1 b x) = some (.inr e) ∧ s2 (mk2 b y) = some (.inr d) ∧ K e d) :
    ∀ (n a m : Nat) (x : β) (y : γ), a + n = b → n < m → R a x y → ∃ e d, gIter s1 m (mk1 a x) = some e ∧ gIter s2 m (mk2 a y) = some d ∧ K e d := by
  intro n
  induction n with
  | zero =>
    intro a m x y ha hm hp
    have e : a = b := by omega
    subst e
    obtain ⟨m, rfl⟩ : ∃ j, m = j + 1 := ⟨m - 1, by omega⟩
    obtain ⟨e, d, h1, h2, h3⟩ := he x y hp
    exact ⟨e, d, by unfold gIter; rw [h1], by unfold gIter; rw [h2], h3⟩
  | succ n ih =>
    intro a m x y ha hm hp
    obtain ⟨m, rfl⟩ : ∃ j, m = j + 1 := ⟨m - 1, by omega⟩
    obtain ⟨x', y', h1, h2, h3⟩ := hs a x y (by omega) hp
    obtain ⟨e, d, h4, h5, h6⟩ := ih (a + 1) m x' y' (by omega) (by omega) h3
    exact ⟨e, d, by unfold gIter; rw [h1]; exact h4, by unfold gIter; rw [h2]; exact h5, h6⟩
theorem gI2_FU {σ τ ε δ β γ : Type} {s1 : σ → Option (σ ⊕ ε)} {s2 : τ → Option (τ ⊕ δ)} (mk1 : Nat → β → σ) (mk2 : Nat → γ → τ) (R : Nat → β → γ → Prop) (K : ε → δ → Prop) (a b : Nat) (hab : a ≤ b) (hb : b < 5000)
    (hs : ∀ k x y, k < b → R k x y → ∃ x' y', s1 (mk1 k x) = some (.inl (mk1 (k + 1) x')) ∧ s2 (mk2 k y) = some (.inl (mk2 (k + 1) y')) ∧ R (k + 1) x' y')
    (he : ∀ x y, R b x y → ∃ e d, s1 (mk1 b x) = some (.inr e) ∧ s2 (mk2 b y) = some (.inr d) ∧ K e d) (x : β) (y : γ) (hp : R a x y) : ∃ e d, gIter s1 FU (mk1 a x) = some e ∧ gIter s2 FU (mk2 a y) = some d ∧ K e d :=
  gI2 mk1 mk2 R K b hs he (b - a) a FU x y (by omega) (FU_gt (by omega)) hp
/-! numbers -/
theorem gG_t {α : Type} {b : Bool} {e : Option α} (h : b = true) : gG b e = e := if_pos h
theorem gLet_e {α β : Type} (a : α) (f : α → β) : gLet a f = f a := rfl
theorem gU2_e {α β γ : Type} (f : α → β → γ) (a : α) (b : β) : gU2 f (a, b) = f a b := rfl
theorem gS2_e1 {α β γ : Type} (f : α → γ) (g : β → γ) (a : α) : gS2 f g (.inl a) = f a := rfl
theorem gS2_e2 {α β γ : Type} (f : α → γ) (g : β → γ) (a : β) : gS2 f g (.inr a) = g a := rfl
theorem bind_e {α β : Type} (a : α) (f : α → Option β) : (some a).bind f = f a := rfl
theorem gin_n {k n : Nat} (h : k < n) (hn : n < 2 ^ 31) : gin (nI k) n = true := gin_iff.mpr (vp_in_nI h hn)
theorem nlit (n : Nat) : (OfNat.ofNat n : Int32) = nI n := rfl
theorem nI_mul (a b : Nat) : nI a * nI b = nI (a * b) := (Int32.ofNat_mul a b).symm
theorem nI_sub {a b : Nat} (h : b ≤ a) : nI a - nI b = nI (a - b) := by
  have e : nI (a - b) + nI b = nI a := by rw [nI_add]; congr 1; omega
  rw [← e, Int32.add_sub_cancel]
theorem nI_div {a b : Nat} (ha : a < 2 ^ 31) (hb : b < 2 ^ 31) : nI a / nI b = nI (a / b) := by
  apply Int32.toInt_inj.mp
  rw [Int32.toInt_div, nI_toInt ha, nI_toInt hb, nI_toInt (Nat.lt_of_le_of_lt (Nat.div_le_self a b) ha)]
  rw [← Int.ofNat_tdiv]
  have h := Nat.div_le_self a b
  generalize a / b = q at h ⊢
  apply Int.bmod_eq_of_le <;> omega
theorem nI_rem {a b : Nat} (ha : a < 2 ^ 31) (hb : b < 2 ^ 31) : gRem (nI a) (nI b) = nI (a % b) := by
  unfold gRem
  rw [nI_div ha hb, nI_mul, nI_sub (Nat.div_mul_le_self a b)]
  congr 1
  have := Nat.div_add_mod a b
  rw [Nat.mul_comm] at this
  omega
theorem nI_inj {a b : Nat} (ha : a < 2 ^ 31) (hb : b < 2 ^ 31) (h : nI a = nI b) : a = b := (nI_eq ha hb).mp h
theorem nI_min {a b : Nat} (ha : a < 2 ^ 31) (hb : b < 2 ^ 31) : gmin (nI a) (nI b) = nI (min a b) := by
  unfold gmin
  split
  · next h =>
    have := (nI_ltI hb ha).mp h
    congr 1
    omega
  · next h =>
    have hle : ¬ b < a := fun z => h ((nI_ltI hb ha).mpr z)
    congr 1
    omega
theorem nI_max {a b : Nat} (ha : a < 2 ^ 31) (hb : b < 2 ^ 31) : gmax (nI a) (nI b) = nI (max a b) := by
  unfold gmax
  split
  · next h =>
    have := (nI_ltI ha hb).mp h
    congr 1
    omega
  · next h =>
    have hle : ¬ a < b := fun z => h ((nI_ltI ha hb).mpr z)
    congr 1
    omega
theorem r1_wI (M : gM) (r i k : Nat) (v : Int32) (a b c : Nat) : (wI M r i k v).1 a b c = if a = r ∧ b = i ∧ c = k then v else M.1 a b c := rfl
theorem r2_wI (M : gM) (r i k : Nat) (v : Int32) : (wI M r i k v).2 = M.2 := rfl
theorem r1_wL (M : gM) (r i k : Nat) (v : Int64) : (wL M r i k v).1 = M.1 := rfl
theorem r2_wL (M : gM) (r i k : Nat) (v : Int64) (a b c : Nat) : (wL M r i k v).2 a b c = if a = r ∧ b = i ∧ c = k then v else M.2 a b c := rfl
theorem r1_cpI (M : gM) (r i r' i' n a b c : Nat) : (cpI M r i r' i' n).1 a b c = if a = r' ∧ b = i' ∧ c < n then M.1 r i c else M.1 a b c := rfl
theorem r2_cpI (M : gM) (r i r' i' n : Nat) : (cpI M r i r' i' n).2 = M.2 := rfl
theorem r1_cpL (M : gM) (r i r' i' n : Nat) : (cpL M r i r' i' n).1 = M.1 := rfl
theorem r2_cpL (M : gM) (r i r' i' n a b c : Nat) : (cpL M r i r' i' n).2 a b c = if a = r' ∧ b = i' ∧ c < n then M.2 r i c else M.2 a b c := rfl
theorem r1_flI (M : gM) (r i : Nat) (v : Int32) (n a b c : Nat) : (flI M r i v n).1 a b c = if a = r ∧ b = i ∧ c < n then v else M.1 a b c := rfl
theorem r2_flI (M : gM) (r i : Nat) (v : Int32) (n : Nat) : (flI M r i v n).2 = M.2 := rfl
theorem r1_flL (M : gM) (r i : Nat) (v : Int64) (n : Nat) : (flL M r i v n).1 = M.1 := rfl
theorem r2_flL (M : gM) (r i : Nat) (v : Int64) (n a b c : Nat) : (flL M r i v n).2 a b c = if a = r ∧ b = i ∧ c < n then v else M.2 a b c := rfl
