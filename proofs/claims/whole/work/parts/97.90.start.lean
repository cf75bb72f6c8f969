/-! nothing told yet -/
theorem Iv_start : Iv 0 0 ML := by
  refine ⟨by omega, ⟨0, by omega, by decide +kernel, by decide +kernel, fun c hc => absurd hc (by omega)⟩, ⟨0, by omega, by decide +kernel, by decide +kernel, fun s hs => absurd hs (by omega)⟩, fun k hk => ?_, Or.inl ⟨by decide +kernel, by decide +kernel, by decide +kernel, by decide +kernel, by decide +kernel, by decide +kernel, by decide +kernel, by decide +kernel, by decide +kernel, by decide +kernel, by decide +kernel, by decide +kernel, by decide +kernel, by decide +kernel, by decide +kernel⟩⟩
  rcases (show k = 0 ∨ k = 1 ∨ k = 2 ∨ k = 3 by omega) with rfl | rfl | rfl | rfl <;> decide +kernel
theorem Iv_mono (q nf : Nat) (M : gM) (h : Iv q nf M) : Iv (q + 1) nf M := J.mono h (Nat.le_succ q)
theorem Iv_all (h2 : O_2 Iv) (h3 : O_3 Iv) : O_all Iv := ⟨O0, O1, h2, h3, O4, O5, O6, O7, O8, O9, O10, O11, O12, O13, O14, O15, O16, O17, O18, O19, O20, O21, O22, O23, O24, O25, O26, O27, O28, O29, O30, O31, O32, O33, O34, O35, O36, O37, O38, O39, O40⟩
theorem Iv_end : O_all Iv := Iv_all O2 O3
