/-! orders: the tables, the start of each order -/
def fac : Nat → Nat
  | 0 => 1
  | m + 1 => (m + 1) * fac m
def og : Nat → List Nat → Nat → List Nat
  | 0, _, _ => []
  | m + 1, l, o => l.getD (o / fac m) 0 :: og m (l.eraseIdx (o / fac m)) (o % fac m)
def M00 : gM := (fun _ _ _ => 0, fun _ _ _ => 0)
noncomputable def inL (x2 x3 x4 x5 x6 x7 x8 : Int32) : Option ((Int32 × Int32 × Int32 × Int32 × Int32) ⊕ Int32) := (if x3 < x8 then some (.inr x7) else gG (decide (¬ x6 = 0)) (gLet ((x5 / x6)) (fun x9_7 => gG (decide (¬ x6 = 0)) (gLet ((gRem x5 x6)) (fun x5_9 => (gIter (fun s => X11_inOrder_L60 x2 x3 x4 x5_9 x6 x8 s.1 s.2 M00) 5000 (0, x9_7)).bind (fun x7_21 => gLet ((x4 ||| (1 <<< (x7_21 &&& 31)))) (fun x4_22 => (if ((x2 - 1) - x8) ≤ 1 then gLet (x8 + 1) (fun x8_24 => some (.inl (x4_22, x5_9, 1, x7_21, x8_24))) else gG (decide (¬ ((x2 - 1) - x8) = 0)) (gLet ((x6 / ((x2 - 1) - x8))) (fun x6_26 => gLet (x8 + 1) (fun x8_27 => some (.inl (x4_22, x5_9, x6_26, x7_21, x8_27)))))))))))))
noncomputable def inO (p1 p2 p3 : Int32) : Option Int32 := (gIter (fun s => X11_inOrder_L12 p2 p3 0 p1 s.1 s.2 M00) 5000 (1, 2)).bind (fun x6_4 => (gIter (fun s => inL p2 p3 s.1 s.2.1 s.2.2.1 s.2.2.2.1 s.2.2.2.2) 5000 (0, p1, x6_4, 0, 0)).bind (fun x7_28 => some x7_28))
noncomputable def ock (n o k : Nat) : Bool := decide (inO (nI o) (nI n) (nI k) = some (nI ((og n (List.range n) o).getD k 0))) && decide ((og n (List.range n) o).getD k 0 < n)
section OD
variable {n W H T K i j k t m nf q : Nat} {M Mx Mm Z X Y : gM}
theorem inL_e (x2 x3 x4 x5 x6 x7 x8 : Int32) (M : gM) : X11_inOrder_L37 x2 x3 x4 x5 x6 x7 x8 M = inL x2 x3 x4 x5 x6 x7 x8 := by
  unfold X11_inOrder_L37 inL
  rw [FU_eq]
  rfl
theorem inO_e (a b c : Int32) (M : gM) : X11_inOrder a b c M = inO a b c := by
  unfold X11_inOrder inO
  rw [FU_eq]
  simp only [inL_e]
  rfl
end OD
theorem ock_1 : ((List.range 1).all fun o => (List.range 1).all fun k => ock 1 o k) = true := by decide +kernel
theorem ock_2 : ((List.range 2).all fun o => (List.range 2).all fun k => ock 2 o k) = true := by decide +kernel
theorem ock_3 : ((List.range 6).all fun o => (List.range 3).all fun k => ock 3 o k) = true := by decide +kernel
theorem ock_4 : ((List.range 24).all fun o => (List.range 4).all fun k => ock 4 o k) = true := by decide +kernel
theorem x11_ino {n o k : Nat} (hn : 1 ≤ n ∧ n ≤ 4) (ho : o < fac n) (hk : k < n) (M : gM) : X11_inOrder (nI o) (nI n) (nI k) M = some (nI ((og n (List.range n) o).getD k 0)) ∧ (og n (List.range n) o).getD k 0 < n := by
  have key : ock n o k = true := by
    rcases (show n = 1 ∨ n = 2 ∨ n = 3 ∨ n = 4 by omega) with rfl | rfl | rfl | rfl
    · exact List.all_eq_true.mp (List.all_eq_true.mp ock_1 o (List.mem_range.mpr ho)) k (List.mem_range.mpr hk)
    · exact List.all_eq_true.mp (List.all_eq_true.mp ock_2 o (List.mem_range.mpr ho)) k (List.mem_range.mpr hk)
    · exact List.all_eq_true.mp (List.all_eq_true.mp ock_3 o (List.mem_range.mpr ho)) k (List.mem_range.mpr hk)
    · exact List.all_eq_true.mp (List.all_eq_true.mp ock_4 o (List.mem_range.mpr ho)) k (List.mem_range.mpr hk)
  have h := (Bool.and_eq_true _ _).mp key
  rw [inO_e]
  exact ⟨of_decide_eq_true h.1, of_decide_eq_true h.2⟩
theorem x7_fac {m : Nat} (hm : m ≤ 4) (M : gM) : X7_ordersOf (nI m) M = some (nI (fac m)) := by
  have go : gIter (fun s => X7_ordersOf_L4 (nI m) s.1 s.2 M) FU (1, 2) = some (nI (fac m)) := by
    apply FU5
    rcases (show m = 0 ∨ m = 1 ∨ m = 2 ∨ m = 3 ∨ m = 4 by omega) with rfl | rfl | rfl | rfl | rfl
    · exact gIt_x rfl
    · exact gIt_x rfl
    · exact gIt_s (s' := (2, 3)) rfl (gIt_x rfl)
    · exact gIt_s (s' := (2, 3)) rfl (gIt_s (s' := (6, 4)) rfl (gIt_x rfl))
    · exact gIt_s (s' := (2, 3)) rfl (gIt_s (s' := (6, 4)) rfl (gIt_s (s' := (24, 5)) rfl (gIt_x rfl)))
  unfold X7_ordersOf
  rw [go]
  rfl
