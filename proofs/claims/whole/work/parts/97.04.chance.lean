/-! chance, both sides -/
def chN (s : Int64) : Int64 := (s * 6364136223846793005) + 1442695040888963407
def chR (s : Int64) (k : Nat) : Int32 := Int64.toInt32 (gRemL ((Int64.toUInt64 s >>> ((Int32.toInt64 33).toUInt64 &&& Int64.toUInt64 63)).toInt64) (Int32.toInt64 (nI k)))
section CH
variable {k : Nat} {Mx Mm : gM}
theorem l_ne0 (h0 : 1 ≤ k) (h1 : k < 2 ^ 31) : decide (¬ (Int32.toInt64 (nI k)) = 0) = true := by
  apply decide_eq_true
  intro z
  have e : (Int32.toInt64 (nI k)).toInt = (0 : Int64).toInt := by rw [z]
  have a0 : (0 : Int64).toInt = 0 := rfl
  rw [Int32.toInt_toInt64, nI_toInt h1, a0] at e
  omega
theorem wL_e {M : gM} {r i k : Nat} {v : Int64} : (wL M r i k v).2 r i k = v := by
  rw [r2_wL, if_pos ⟨rfl, rfl, rfl⟩]
theorem x10_chance (h0 : 1 ≤ k) (h1 : k < 2 ^ 31) : X10_chanceOf (nI k) Mx = some (chR (chN (Mx.2 0 0 15)) k, wL Mx 0 0 15 (chN (Mx.2 0 0 15))) := by
  unfold X10_chanceOf
  rw [gLet_e, if_neg (show ¬ nI k ≤ (0 : Int32) from nI_ge (a := 0) (b := k) (by omega) h1), gG_t (l_ne0 h0 h1), wL_e]
  rfl
theorem x11_chance (h0 : 1 ≤ k) (h1 : k < 2 ^ 31) : X11_chance (nI k) Mm = some (chR (chN (Mm.2 50 0 32)) k, wL Mm 50 0 32 (chN (Mm.2 50 0 32))) := by
  unfold X11_chance
  rw [gLet_e, gG_t (l_ne0 h0 h1), wL_e]
  rfl
end CH
