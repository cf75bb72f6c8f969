/-! THE CLAIM OUT OF ONE WALK OF THE LAW'S BODY. Your part is whole_start (and what it stands on); all else here is the same for every law, but numbers. -/
def R_law : String := "TileLightsLaw"
def lw_P (b : Addr) (xs : List Int32) (args : Array Value) (s : State) : Prop := args = #[.ref b] ∧ s.IntsAt b xs ∧ xs.length ≤ 3072 ∧ (Jvm.Cond.and given_1 narrow_1).before args s = true
def lw_Q (_ : Array Value) (s : State) (o : Outcome) (t : State) : Prop := o = .returned (some (.int 1)) ∧ Framed s o t [] 601024 7293033
def lw_Z (below : List Frame) (a : Array Value) (s : State) : State → Prop := fun t => ∃ o, t.status = .running ∧ Ended t below o ∧ lw_Q a s o t
/-- the law's own end, with 1 on the stack, nothing written that was there before, its room as the claim has it -/
theorem lw_ret {p : Program} {l : Launch} {e : Env} {s : State} {m : MethodId} {below : List Frame} {meth : Method} {c : Code} {b : Nat} (hx : p.tables.exec = Jvm.exec) (hb : c.code = code) (hr : meth.sig.returnType = ret) (hlocks : meth.locks = false) {pc : Nat} {H : Heap} {ls : Array Slot} (hdg : decode code pc = .ok (.ireturn, 1)) : W p l e room_1 s m #[Value.ref b] below meth c H [] 601024 7293033 (lw_Z below #[Value.ref b] s) (F0 m pc ls [.int 1]) := by
  intro T hT X
  obtain ⟨fs, hret, hrun, hended, hW, hframe⟩ := X.leave (v := some (.int 1)) (hlocks := hlocks) (fun h => by rw [hr] at h; cases h)
  have hmeth' : T.vm.method? m = some meth := X.method'
  refine ⟨T.setFrames fs, ?_, .returned (some (.int 1)), hrun, hended, rfl, ⟨_, rfl⟩, hW, hframe⟩
  jvm_step X.here [X.here.top, hx, hb, hdg, hmeth', hr, ret, narrow_b1]
  (try refine ⟨rfl, ?_⟩); (try refine ⟨rfl, ?_⟩)
  first | (intro acts; rw [hret _ acts rfl rfl rfl]) | rw [hret _ _ rfl rfl rfl]
  exact Steps.refl _
/-- what holds at the law's entry: the machine, the code, the tables' words (any of lw_tbl by 'hts w (by decide +kernel)'), the script of L ints xs at the cell b, what the Statement gives of the start (any of its parts by flat_of_before) -/
def lw_At (p : Program) (s : State) (m : MethodId) (meth : Method) (c : Code) (b L : Nat) (xs : Nat → Int32) : Prop :=
  p.tables.exec = Jvm.exec ∧ c.code = code ∧ meth.sig.returnType = ret ∧ c.maxLocals = 7 ∧ s.vm.findClass R_law = some m.cls ∧ (∀ w ∈ lw_tbl, w.before #[Value.ref b] s = true) ∧ va_X b L xs s s.heap ∧ b < s.heap.size ∧ meth.locks = false ∧ (Jvm.Cond.and given_1 narrow_1).before #[Value.ref b] s = true

theorem gXe_no (r i : Nat) : ¬ gXe.1 r i = true := fun h => by cases h
def gM0 : gM := (fun _ _ _ => 0, fun _ _ _ => 0)
noncomputable def ML : gM := gZero (mX11 (gZero (mX10 (gZero gM0 0 0)) 50 0)) 53 0
def adL (tt kk vv : Nat → Nat) (f0 b : Nat) : Nat → Nat := fun a => if a % 64 = 63 then tt (a / 64) else if a % 64 = 62 then kk (a / 64) else if a % 64 = 61 then vv (a / 64) else if a = 60 then f0 else b
theorem adL63 (tt kk vv : Nat → Nat) (f0 b k : Nat) : adL tt kk vv f0 b (gad 63 k) = tt k := by
  unfold adL gad
  rw [if_pos (by omega), show (64 * k + 63) / 64 = k by omega]
theorem adL62 (tt kk vv : Nat → Nat) (f0 b k : Nat) : adL tt kk vv f0 b (gad 62 k) = kk k := by
  unfold adL gad
  rw [if_neg (by omega), if_pos (by omega), show (64 * k + 62) / 64 = k by omega]
theorem adL61 (tt kk vv : Nat → Nat) (f0 b k : Nat) : adL tt kk vv f0 b (gad 61 k) = vv k := by
  unfold adL gad
  rw [if_neg (by omega), if_neg (by omega), if_pos (by omega), show (64 * k + 61) / 64 = k by omega]
theorem adL60 (tt kk vv : Nat → Nat) (f0 b : Nat) : adL tt kk vv f0 b (gad 60 0) = f0 := by
  unfold adL gad
  rw [if_neg (by omega), if_neg (by omega), if_neg (by omega), if_pos (by omega)]
theorem adLb (tt kk vv : Nat → Nat) (f0 b : Nat) : adL tt kk vv f0 b (gad 60 1) = b := by
  unfold adL gad
  rw [if_neg (by omega), if_neg (by omega), if_neg (by omega), if_neg (by omega)]
set_option maxRecDepth 20000 in
theorem l_start {Φ : gF} {l : Launch} {D : va_G} {base : Nat} {ad0 : Nat → Nat} {b L : Nat} {xs : Nat → Int32} {I : Nat → Nat → gM → Prop} (Z : gLD Φ l D base ad0 b L xs) (hst : l.stackTraces = false) (hL : L ≤ 3072) (hb : ad0 (gad 60 1) = b) (hO : O_all I) (hmo : ∀ q nf M, I q nf M → I (q + 1) nf M) (hI : I 0 0 ML)
    (hend : ∀ cells slots ad cA nf M ls, cells ≤ 601024 → slots ≤ 7293033 → Φ cells slots ad cA (gXn nf) M 1772 ls [.int 1]) (cA : Nat → ClassId) : Φ 0 0 ad0 cA gXe gM0 0 [(0, .ref (gad 60 1))] [] := by
  obtain ⟨mn, Z1⟩ := Z.D
  have ev : ∀ X : gX, ∀ q ∈ [((0 : Nat), Value.ref (gad 60 1))], gEv X q.2 := fun X => List.forall_mem_cons.mpr ⟨gEv_s, fun _ z => nomatch z⟩
  refine d_new (pc := 0) (r := 0) (i := 0) (N := 16) Z1 dL_law_0 (fun k _ => rfl) (by decide) rfl rfl (by decide) gn10 tyX10 tyX10_ok (by decide) q140 q141 q116 (gWF_e.fr (by decide) rfl) (by decide) (ev _) (fun _ z => nomatch z) (fun ad1 g1 => ?_)
  change Φ (0 + 1) (0 + 16) ad1 cA cx0 (gZero gM0 0 0) 3 [(0, .ref (gad 60 1))] [.ref (gad 0 0)]
  have h1 : ∀ k, k < 2 → ad1 (gad 62 k) = ad0 (gad 62 k) := fun k hk => g1.str k hk
  refine r_dup (pc := 3) (Z1.C (cells := 1) (slots := 16) (by decide) (by decide) cA cx0 h1 none none gM0) dL_law_3 rfl ?_
  refine d_callI (pc := 4) Z1 [] [.ref (gad 0 0)] dL_law_4 n_X10_init h1 q142 q143 q116 q144 rfl hd_X10_init ⟨by decide, by decide⟩ (by decide) rfl (Nat.le_of_ble_eq_true rfl) (ev _) (List.forall_mem_cons.mpr ⟨gEv_r (by decide +kernel), fun _ z => nomatch z⟩) (fun ad2 cA2 g2 => ?_)
  have h2 : ∀ k, k < 2 → ad2 (gad 62 k) = ad0 (gad 62 k) := fun k hk => (g2.str k hk).trans (h1 k hk)
  change Φ 166 9217 ad2 cA2 cx97 (mX10 (gZero gM0 0 0)) 7 [(0, .ref (gad 60 1))] [.ref (gad 0 0)]
  refine r_astore_n (pc := 7) (Z1.C (cells := 166) (slots := 9217) (by decide) (by decide) cA2 cx97 h2 none none gM0) dL_law_7 rfl (by decide) rfl (ls' := [(1, .ref (gad 0 0)), (0, .ref (gad 60 1))]) rfl ?_
  have x0 : cx97.1 0 0 = true := by decide +kernel
  refine d_new (pc := 8) (r := 50) (i := 0) (N := 38) Z1 dL_law_8 h2 (by decide) rfl rfl (by decide) gn11 tyX11 tyX11_ok (by decide) q1393 q1394 q127 (wf97.fr (by decide) (by decide +kernel)) (by decide) (List.forall_mem_cons.mpr ⟨gEv_r x0, ev _⟩) (fun _ z => nomatch z) (fun ad3 g3 => ?_)
  have h3 : ∀ k, k < 2 → ad3 (gad 62 k) = ad0 (gad 62 k) := fun k hk => (g3.str k hk).trans (h2 k hk)
  change Φ 167 9255 ad3 cA2 (gXadd cx97 50 0) (gZero (mX10 (gZero gM0 0 0)) 50 0) 11 [(1, .ref (gad 0 0)), (0, .ref (gad 60 1))] [.ref (gad 50 0)]
  refine r_dup (pc := 11) (Z1.C (cells := 167) (slots := 9255) (by decide) (by decide) cA2 (gXadd cx97 50 0) h3 none none gM0) dL_law_11 rfl ?_
  refine d_callI (pc := 12) Z1 [] [.ref (gad 50 0)] dL_law_12 (n_X11_init (wf97.add (by decide)) gXadd_new (gXadd_ne (by decide) (by decide +kernel)) (gXadd_ne (by decide) (by decide +kernel)) (gXadd_ne (by decide) (by decide +kernel)) (gXadd_ne (by decide) (by decide +kernel)) (gXadd_ne (by decide) (by decide +kernel)) (gXadd_ne (by decide) (by decide +kernel)) (gXadd_ne (by decide) (by decide +kernel)) (gXadd_ne (by decide) (by decide +kernel)) (gXadd_ne (by decide) (by decide +kernel)) (gXadd_ne (by decide) (by decide +kernel)) (gXadd_ne (by decide) (by decide +kernel)) (gXadd_ne (by decide) (by decide +kernel)) (gXadd_ne (by decide) (by decide +kernel)) (gXadd_ne (by decide) (by decide +kernel)) (gXadd_ne (by decide) (by decide +kernel)) (gXadd_ne (by decide) (by decide +kernel)) (gXadd_ne (by decide) (by decide +kernel)) (gXadd_ne (by decide) (by decide +kernel)) (gXadd_ne (by decide) (by decide +kernel)) (gXadd_ne (by decide) (by decide +kernel)) (gXadd_ne (by decide) (by decide +kernel))) h3 q1395 q1396 q127 q1397 rfl hd_X11_init ⟨by decide, by decide⟩ (by decide) rfl (Nat.le_of_ble_eq_true rfl) (List.forall_mem_cons.mpr ⟨gEv_r (gXadd_old x0), ev _⟩) (List.forall_mem_cons.mpr ⟨gEv_r gXadd_new, fun _ z => nomatch z⟩) (fun ad4 cA4 g4 => ?_)
  have h4 : ∀ k, k < 2 → ad4 (gad 62 k) = ad0 (gad 62 k) := fun k hk => (g4.str k hk).trans (h3 k hk)
  change Φ 188 63934 ad4 cA4 (xX11 (gXadd cx97 50 0)) (mX11 (gZero (mX10 (gZero gM0 0 0)) 50 0)) 15 [(1, .ref (gad 0 0)), (0, .ref (gad 60 1))] [.ref (gad 50 0)]
  have CC := Z1.C (cells := 188) (slots := 63934) (by decide) (by decide) cA4 (xX11 (gXadd cx97 50 0)) h4 none none gM0
  refine r_astore_n (pc := 15) CC dL_law_15 rfl (by decide) rfl (ls' := [(2, .ref (gad 50 0)), (1, .ref (gad 0 0)), (0, .ref (gad 60 1))]) rfl ?_
  refine r_iconst (pc := 16) CC dL_law_16 ki1 ?_
  have y0 : (xX11 (gXadd cx97 50 0)).1 0 0 = true := by decide +kernel
  have y50 : (xX11 (gXadd cx97 50 0)).1 50 0 = true := by decide +kernel
  refine d_newA (pc := 17) (r := 53) (i := 0) (N := 1) Z1 dL_law_17 (by decide) (by decide) rfl rfl (by decide) q467 (by decide) rfl ((wX11 (wf97.add (by decide)) gXadd_new).fr (by decide) (by decide +kernel)) (by decide) (List.forall_mem_cons.mpr ⟨gEv_r y50, List.forall_mem_cons.mpr ⟨gEv_r y0, ev _⟩⟩) (fun _ z => nomatch z) (fun ad5 cA5 g5 => ?_)
  have h5 : ∀ k, k < 2 → ad5 (gad 62 k) = ad0 (gad 62 k) := fun k hk => (g5.str k hk).trans (h4 k hk)
  change Φ 189 63935 ad5 cA5 xL ML 19 [(2, .ref (gad 50 0)), (1, .ref (gad 0 0)), (0, .ref (gad 60 1))] [.ref (gad 53 0)]
  have CE := Z1.C (cells := 189) (slots := 63935) (by decide) (by decide) cA5 xL h5 none none gM0
  refine r_astore_n (pc := 19) CE dL_law_19 rfl (by decide) rfl (ls' := [(3, .ref (gad 53 0)), (2, .ref (gad 50 0)), (1, .ref (gad 0 0)), (0, .ref (gad 60 1))]) rfl ?_
  refine r_iconst (pc := 20) CE dL_law_20 ki0 ?_
  refine r_istore (pc := 21) CE dL_law_21 (by decide) rfl (ls' := [(4, .int 0), (3, .ref (gad 53 0)), (2, .ref (gad 50 0)), (1, .ref (gad 0 0)), (0, .ref (gad 60 1))]) rfl ?_
  refine d_conv Z1 xL1 xL2 ?_
  have CF := Z1.C (cells := 189) (slots := 63935) (by decide) (by decide) cA5 (gXn 0) h5 none none gM0
  refine r_sub CF [4, 3, 2, 1, 0] (ls' := [(0, .ref (gad 60 1)), (1, .ref (gad 0 0)), (2, .ref (gad 50 0)), (3, .ref (gad 53 0)), (4, .int (Int32.ofNat (6 * 0)))]) rfl ?_
  have hb5 : ad5 (gad 60 1) = b := (g5.2 60 1 (by decide) (by decide)).trans ((g4.2 60 1 (by decide) (by decide)).trans ((g3.2 60 1 (by decide) (by decide)).trans ((g2.2 60 1 (by decide) (by decide)).trans ((g1.2 60 1 (by decide) (by decide)).trans hb))))
  exact l_loop Z hst hL hO hmo hend 512 0 0 ad5 cA5 ML (by omega) (by omega) (by omega) hb5 h5 hI
theorem whole_of {I : Nat → Nat → gM → Prop} (hO : O_all I) (hmo : ∀ q nf M, I q nf M → I (q + 1) nf M) (hI : I 0 0 ML) {p : Program} {e : Env} {s : State} {m : MethodId} {below : List Frame} {meth : Method} {c : Code} (l : Launch) (hflags : l.flags = flags0) {b L : Nat} {xs : Nat → Int32} (hL : L ≤ 3072) (C0 : lw_At p s m meth c b L xs) : W p l e room_1 s m #[Value.ref b] below meth c s.heap [] 0 0 (lw_Z below #[Value.ref b] s) (entryFrame m ([Value.ref b] : List Value).toArray 7) := by
  obtain ⟨hx, hbytes, hret, hml, hown, hts, hX, hbl, hlk, hgv⟩ := C0
  have hst : l.stackTraces = false := by
    unfold Launch.stackTraces
    rw [hflags]
    decide +kernel
  have hfl : ∀ w ∈ fl1, w.before #[Value.ref b] s = true := flat_of_before _ hgv
  have hgw : ∀ w ∈ gws, w.before #[Value.ref b] s = true := fun w hw => hts w (List.mem_filter.mp hw).1
  have hA : ∀ a : Nat, a < s.heap.size → ¬ gA s.heap.size a := fun a ha hq => by
    have : s.heap.size ≤ a := hq
    omega
  obtain ⟨tt, htt⟩ := gst_of (base := s.heap.size) rfl hfl hts
  obtain ⟨kk, vv, hkv, e0, e1⟩ := gtx_of (base := s.heap.size) rfl hfl
  obtain ⟨D, hD⟩ := gkn_of hgw
  obtain ⟨f0, hf0⟩ : ∃ f0 : Nat, va_Z "jdk/internal/util/Preconditions" "SIOOBE_FORMATTER" "Ljava/util/function/BiFunction;" .null (gA s.heap.size) s s.heap ∨ va_Z "jdk/internal/util/Preconditions" "SIOOBE_FORMATTER" "Ljava/util/function/BiFunction;" (.ref f0) (gA s.heap.size) s s.heap := by
    rcases va_Zqof (hts _ fe2.2.2.1) (hts _ fe2.2.2.2.1) (hfl _ fe0.2.2.2.1) hA with h | ⟨t, h⟩
    · exact ⟨0, Or.inl h⟩
    · exact ⟨t, Or.inr h⟩
  have hK : gK D (adL tt kk vv f0 b) s := by
    refine ⟨hD, fun k hk => ?_, va_Nw.of rfl (hts _ fe3.1), va_AO.of (hts _ fe3.2.1), va_AO.of (hts _ fe3.2.2.1), va_AO.of (hts _ fe3.2.2.2)⟩
    rw [adL62]
    rcases (show k = 0 ∨ k = 1 ∨ k = 2 ∨ k = 3 by omega) with rfl | rfl | rfl | rfl
    · exact vk_R.of (hts _ (fe1 0 (by decide))) (va_eqv (hfl _ fe0.1) e0)
    · exact vk_R.of (hts _ (fe1 1 (by decide))) (va_eqv (hfl _ fe0.2.1) e1)
    · exact vk_R.of (hts _ (fe1 2 (by decide))) e0
    · exact vk_R.of (hts _ (fe1 3 (by decide))) e1
  have hW0 : gWd D s.heap.size (adL tt kk vv f0 b) (fun _ => m.cls) gXe gM0 s s.heap := by
    refine ⟨Nat.le_refl _, (fun r i h => absurd h (gXe_no r i)), (fun r i r' i' h => absurd h (gXe_no r i)), (fun r i h => absurd h (gXe_no r i)), (fun r i h => absurd h (gXe_no r i)), fun k hk => ?_, fun k hk => ?_, va_Zof (hts _ fe2.1) (hts _ fe2.2.1) (va_eqt (hfl _ fe0.2.2.1)) hA, ?_⟩
    · rw [adL63]
      exact htt k hk
    · rw [adL62, adL61]
      exact hkv k hk
    · rw [adL60]
      exact hf0
  have hT : gT s.heap.size s s.heap := ⟨⟨va_Nw.of rfl (hts _ (fe4 _ (List.mem_of_getElem? (i := 0) rfl))), va_Nw.of rfl (hts _ (fe4 _ (List.mem_of_getElem? (i := 1) rfl))), va_Nw.of rfl (hts _ (fe4 _ (List.mem_of_getElem? (i := 2) rfl))), va_Nw.of rfl (hts _ (fe4 _ (List.mem_of_getElem? (i := 3) rfl)))⟩,
    vx_Zqof (hts _ fe2.2.2.2.2.1) (hts _ fe2.2.2.2.2.2.2) (hfl _ fe0.2.2.2.2.1) hA, vx_Zqof (hts _ fe2.2.2.2.2.2.1) (hts _ fe2.2.2.2.2.2.2) (hfl _ fe0.2.2.2.2.2) hA⟩
  have key := l_start (I := I) (L := L) (xs := xs) (b := b) (base := s.heap.size) (ad0 := adL tt kk vv f0 b) (D := D) (l := l) ⟨p, e, s, m, #[Value.ref b], below, meth, c, lw_Z below #[Value.ref b] s, room_1, ⟨rfl, hx, hbytes, hml, hown, hgw, hK, rfl, rfl, rfl, rfl, rfl⟩, hX, hbl, hA b hbl, hT⟩ hst hL (adLb _ _ _ _ _) hO hmo hI
    (fun cells slots ad cA nf M ls hc hs H locs lsA g1 g2 g3 => va_forget (fun q hq => g3.2.2 q hq) (W.widen (k := 601024) (n := 7293033) hc hs (lw_ret hx hbytes hret hlk dL_law_1772))) (fun _ => m.cls) s.heap [] ((lg_sl [Value.ref b] ++ List.replicate (7 - (lg_sl [Value.ref b]).length) Slot.unset).toArray)
    (by
      have := lv_entry [Value.ref b] (n := 7) (Nat.le_of_ble_eq_true rfl)
      show lv_has _ 7 [(0, Value.ref (adL tt kk vv f0 b (gad 60 1)))]
      rw [adLb]
      exact this) hW0 va_S.rf
  rw [lg_entry_eq]
  exact key
