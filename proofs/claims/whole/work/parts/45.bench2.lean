set_option maxRecDepth 100000 in
set_option maxHeartbeats 4000000 in
theorem c_X6_neededMake_x (l : Launch) (hst : l.stackTraces = false) (G : zGt) (sz : Nat) (b0 b1 g0 e0 f0 w0 u0 : Nat) (mc rn ll : Int) (MK : Int → Option Nat) (x : Int) (hx : -2147483648 ≤ x ∧ x < 2147483648) (hmk0 : 0 ≤ x ∧ x < 6 → MK x = none) : vx_Met l yX6_neededMake (Cond.code yX6_neededMake cX6_neededMake 3 (some (.object "RescueBench$Make")) :: tb) ({ frames := 6, cells := 1, slots := 6, locals := 82 } : Room) (zPx G [(b0, ob 6 [.ref b1, vI mc, .ref g0, .ref e0, vI rn, .ref f0, .ref w0, .ref u0, vI ll]), (b1, aR G 6 MK)] sz [.ref b0, vI x]) zFl (zXQ G [(b0, ob 6 [.ref b1, vI mc, .ref g0, .ref e0, vI rn, .ref f0, .ref w0, .ref u0, vI ll]), (b1, aR G 6 MK)] sz XI) 1 6 (va_A [(b0, ob 6 [.ref b1, vI mc, .ref g0, .ref e0, vI rn, .ref f0, .ref w0, .ref u0, vI ll]), (b1, aR G 6 MK)] sz) := by
  refine vx_ofW (cc := cX6_neededMake) (maxL := 3) (ret := (some (.object "RescueBench$Make"))) (by decide) rfl ?_
  intro p e s m args below meth c s₁ B hml hnx hv
  obtain ⟨rfl, hsz, hP, hK, hD0, hTt, hX⟩ := hv
  subst hsz
  have hD := hD0.self (sz := s.heap.size)
  obtain ⟨A, hAe⟩ : ∃ A : Nat → Prop, A = va_A [(b0, ob 6 [.ref b1, vI mc, .ref g0, .ref e0, vI rn, .ref f0, .ref w0, .ref u0, vI ll]), (b1, aR G 6 MK)] s.heap.size := ⟨_, rfl⟩
  rw [← hAe] at hD hX
  have hA : ∀ q : Nat, s.heap.size ≤ q → A q := fun q h => by rw [hAe]; exact Or.inr h
  have hS : va_S A s.heap s.heap [] := va_S.rf
  obtain ⟨hC, hr, hlk⟩ := z_begin B hml
  have hC : CallFix p m c cX6_neededMake 3 s _ tb RX6 := hC
  have hx := hC.1
  have hb := hC.2.1
  have hl := lv_entry ([.ref b0, vI x]) (n := 3) (Nat.le_of_ble_eq_true rfl)
  rw [lg_entry_eq]
  generalize (lg_sl ([.ref b0, vI x]) ++ List.replicate (3 - (lg_sl ([.ref b0, vI x])).length) Slot.unset).toArray = ls at hl ⊢
  have hl : lv_has ls 3 [(0, .ref b0), (1, vI x)] := hl
  obtain ⟨H, hHe⟩ : ∃ H : Heap, H = s.heap := ⟨_, rfl⟩
  obtain ⟨locs, hLe⟩ : ∃ L : List Loc, L = [] := ⟨_, rfl⟩
  suffices hgo : W p l e (headSpec (Cond.code yX6_neededMake cX6_neededMake 3 (some (.object "RescueBench$Make")) :: tb) ({ frames := 6, cells := 1, slots := 6, locals := 82 } : Room)).room s m ([.ref b0, vI x] : List Value).toArray below meth c H locs 0 0 (vx_MQ below zFl (zXQ G [(b0, ob 6 [.ref b1, vI mc, .ref g0, .ref e0, vI rn, .ref f0, .ref w0, .ref u0, vI ll]), (b1, aR G 6 MK)] s.heap.size XI) ([.ref b0, vI x] : List Value).toArray s 1 6 (va_A [(b0, ob 6 [.ref b1, vI mc, .ref g0, .ref e0, vI rn, .ref f0, .ref w0, .ref u0, vI ll]), (b1, aR G 6 MK)] s.heap.size)) (F0 m 0 ls []) by rw [hHe, hLe] at hgo; exact hgo
  rw [← hHe] at hP
  have hS : va_S A s.heap H locs := by rw [hHe, hLe]; exact hS
  clear hHe hLe
  refine lv_iload_n hx hb dX6_neededMake_0 rfl (lv_at hl 1 rfl) ?_
  refine z_if_lt (tgt := 19) hx hb dX6_neededMake_1 (by decide) (by omega) (fun c_1 => ?_) (fun c_1 => ?_)
  · refine lv_null hx hb dX6_neededMake_19 ?_
    refine lv_astore_nN (lv' := [(2, .null), (0, .ref b0), (1, vI x)]) hx hb dX6_neededMake_20 rfl hl (by decide) rfl (fun ls hl => ?_)
    refine lv_aload_nN hx hb dX6_neededMake_21 rfl (lv_at hl 0 rfl) ?_
    refine lv_ifnonnullN hx hb dX6_neededMake_22 ?_
    exact z_thrI (rest := []) (is := 235) (text := "no such make") hst hC hnx hTt hX hP hD hS hl.1 hlk (by decide) dX6_neededMake_25 dX6_neededMake_28 dX6_neededMake_29 dX6_neededMake_31 dX6_neededMake_34 hAe (Nat.le_of_ble_eq_true rfl) (Nat.le_of_ble_eq_true rfl) (Nat.le_of_ble_eq_true rfl) (Nat.le_of_ble_eq_true rfl) (Nat.le_of_ble_eq_true rfl) (Nat.le_of_ble_eq_true rfl)
  · refine lv_iload_n hx hb dX6_neededMake_4 rfl (lv_at hl 1 rfl) ?_
    refine lv_bipush (v := iI 6) hx hb dX6_neededMake_5 (by decide) ?_
    refine z_icmp_ge (tgt := 19) hx hb dX6_neededMake_7 (by decide) (by omega) (fun c_7 => ?_) (fun c_7 => ?_)
    · refine lv_null hx hb dX6_neededMake_19 ?_
      refine lv_astore_nN (lv' := [(2, .null), (0, .ref b0), (1, vI x)]) hx hb dX6_neededMake_20 rfl hl (by decide) rfl (fun ls hl => ?_)
      refine lv_aload_nN hx hb dX6_neededMake_21 rfl (lv_at hl 0 rfl) ?_
      refine lv_ifnonnullN hx hb dX6_neededMake_22 ?_
      exact z_thrI (rest := []) (is := 235) (text := "no such make") hst hC hnx hTt hX hP hD hS hl.1 hlk (by decide) dX6_neededMake_25 dX6_neededMake_28 dX6_neededMake_29 dX6_neededMake_31 dX6_neededMake_34 hAe (Nat.le_of_ble_eq_true rfl) (Nat.le_of_ble_eq_true rfl) (Nat.le_of_ble_eq_true rfl) (Nat.le_of_ble_eq_true rfl) (Nat.le_of_ble_eq_true rfl) (Nat.le_of_ble_eq_true rfl)
    · refine lv_aload_n hx hb dX6_neededMake_10 rfl (lv_at hl 0 rfl) ?_
      refine z_get (v := .ref b1) hC hK hP inX6 rfl 0 rfl 0 (by decide) tw_198 rfl dX6_neededMake_11 ?_
      refine lv_iload_n hx hb dX6_neededMake_14 rfl (lv_at hl 1 rfl) ?_
      refine z_aald hC hK hP 1 rfl (by omega) (by decide) dX6_neededMake_15 ?_
      refine z_topn (hmk0 (by omega)) ?_
      refine lv_goto (tgt := 20) hx hb dX6_neededMake_16 (by decide) ?_
      refine lv_astore_nN (lv' := [(2, .null), (0, .ref b0), (1, vI x)]) hx hb dX6_neededMake_20 rfl hl (by decide) rfl (fun ls hl => ?_)
      refine lv_aload_nN hx hb dX6_neededMake_21 rfl (lv_at hl 0 rfl) ?_
      refine lv_ifnonnullN hx hb dX6_neededMake_22 ?_
      exact z_thrI (rest := []) (is := 235) (text := "no such make") hst hC hnx hTt hX hP hD hS hl.1 hlk (by decide) dX6_neededMake_25 dX6_neededMake_28 dX6_neededMake_29 dX6_neededMake_31 dX6_neededMake_34 hAe (Nat.le_of_ble_eq_true rfl) (Nat.le_of_ble_eq_true rfl) (Nat.le_of_ble_eq_true rfl) (Nat.le_of_ble_eq_true rfl) (Nat.le_of_ble_eq_true rfl) (Nat.le_of_ble_eq_true rfl)

set_option maxRecDepth 100000 in
set_option maxHeartbeats 4000000 in
theorem c_X6_neededBlock_x (l : Launch) (hst : l.stackTraces = false) (G : zGt) (sz : Nat) (b0 b1 g0 e0 f0 w0 u0 : Nat) (mc rn ll : Int) (g1 : Nat) (nb : Int) (dk : Int → Int64) (x : Int) (hnb : 0 ≤ nb ∧ nb ≤ 24) (hx : -2147483648 ≤ x ∧ x < 2147483648) (hno : ¬ (0 ≤ x ∧ x < nb)) : vx_Met l yX6_neededBlock (Cond.code yX6_neededBlock cX6_neededBlock 2 (some .int) :: tb) ({ frames := 6, cells := 1, slots := 6, locals := 82 } : Room) (zPx G [(b0, ob 6 [.ref b1, vI mc, .ref g0, .ref e0, vI rn, .ref f0, .ref w0, .ref u0, vI ll]), (g0, ob 1 [.ref g1, vI nb]), (g1, aJ G 24 dk)] sz [.ref b0, vI x]) zFl (zXQ G [(b0, ob 6 [.ref b1, vI mc, .ref g0, .ref e0, vI rn, .ref f0, .ref w0, .ref u0, vI ll]), (g0, ob 1 [.ref g1, vI nb]), (g1, aJ G 24 dk)] sz XI) 1 6 (va_A [(b0, ob 6 [.ref b1, vI mc, .ref g0, .ref e0, vI rn, .ref f0, .ref w0, .ref u0, vI ll]), (g0, ob 1 [.ref g1, vI nb]), (g1, aJ G 24 dk)] sz) := by
  refine vx_ofW (cc := cX6_neededBlock) (maxL := 2) (ret := (some .int)) (by decide) rfl ?_
  intro p e s m args below meth c s₁ B hml hnx hv
  obtain ⟨rfl, hsz, hP, hK, hD0, hTt, hX⟩ := hv
  subst hsz
  have hD := hD0.self (sz := s.heap.size)
  obtain ⟨A, hAe⟩ : ∃ A : Nat → Prop, A = va_A [(b0, ob 6 [.ref b1, vI mc, .ref g0, .ref e0, vI rn, .ref f0, .ref w0, .ref u0, vI ll]), (g0, ob 1 [.ref g1, vI nb]), (g1, aJ G 24 dk)] s.heap.size := ⟨_, rfl⟩
  rw [← hAe] at hD hX
  have hA : ∀ q : Nat, s.heap.size ≤ q → A q := fun q h => by rw [hAe]; exact Or.inr h
  have hS : va_S A s.heap s.heap [] := va_S.rf
  obtain ⟨hC, hr, hlk⟩ := z_begin B hml
  have hC : CallFix p m c cX6_neededBlock 2 s _ tb RX6 := hC
  have hx := hC.1
  have hb := hC.2.1
  have hl := lv_entry ([.ref b0, vI x]) (n := 2) (Nat.le_of_ble_eq_true rfl)
  rw [lg_entry_eq]
  generalize (lg_sl ([.ref b0, vI x]) ++ List.replicate (2 - (lg_sl ([.ref b0, vI x])).length) Slot.unset).toArray = ls at hl ⊢
  have hl : lv_has ls 2 [(0, .ref b0), (1, vI x)] := hl
  obtain ⟨H, hHe⟩ : ∃ H : Heap, H = s.heap := ⟨_, rfl⟩
  obtain ⟨locs, hLe⟩ : ∃ L : List Loc, L = [] := ⟨_, rfl⟩
  suffices hgo : W p l e (headSpec (Cond.code yX6_neededBlock cX6_neededBlock 2 (some .int) :: tb) ({ frames := 6, cells := 1, slots := 6, locals := 82 } : Room)).room s m ([.ref b0, vI x] : List Value).toArray below meth c H locs 0 0 (vx_MQ below zFl (zXQ G [(b0, ob 6 [.ref b1, vI mc, .ref g0, .ref e0, vI rn, .ref f0, .ref w0, .ref u0, vI ll]), (g0, ob 1 [.ref g1, vI nb]), (g1, aJ G 24 dk)] s.heap.size XI) ([.ref b0, vI x] : List Value).toArray s 1 6 (va_A [(b0, ob 6 [.ref b1, vI mc, .ref g0, .ref e0, vI rn, .ref f0, .ref w0, .ref u0, vI ll]), (g0, ob 1 [.ref g1, vI nb]), (g1, aJ G 24 dk)] s.heap.size)) (F0 m 0 ls []) by rw [hHe, hLe] at hgo; exact hgo
  rw [← hHe] at hP
  have hS : va_S A s.heap H locs := by rw [hHe, hLe]; exact hS
  clear hHe hLe
  refine lv_iload_n hx hb dX6_neededBlock_0 rfl (lv_at hl 1 rfl) ?_
  refine z_if_lt (tgt := 15) hx hb dX6_neededBlock_1 (by decide) (by omega) (fun c_1 => ?_) (fun c_1 => ?_)
  · exact z_thrI (rest := []) (is := 238) (text := "no such block") hst hC hnx hTt hX hP hD hS hl.1 hlk (by decide) dX6_neededBlock_15 dX6_neededBlock_18 dX6_neededBlock_19 dX6_neededBlock_21 dX6_neededBlock_24 hAe (Nat.le_of_ble_eq_true rfl) (Nat.le_of_ble_eq_true rfl) (Nat.le_of_ble_eq_true rfl) (Nat.le_of_ble_eq_true rfl) (Nat.le_of_ble_eq_true rfl) (Nat.le_of_ble_eq_true rfl)
  · refine lv_iload_n hx hb dX6_neededBlock_4 rfl (lv_at hl 1 rfl) ?_
    refine lv_aload_n hx hb dX6_neededBlock_5 rfl (lv_at hl 0 rfl) ?_
    refine z_get (v := .ref g0) hC hK hP inX6 rfl 0 rfl 2 (by decide) tw_200 rfl dX6_neededBlock_6 ?_
    refine z_rVi (q0 := 1) (ci := 1) (b := g0) (rest := [vI x]) hC hK hP (c_X1_size l G g0 g1 nb dk) mv_X1_size tw_257 [1, 2] rfl rfl rfl rfl hl.1 rfl (Nat.le_of_ble_eq_true rfl) ⟨rfl, rfl, Nat.le_of_ble_eq_true rfl, Nat.le_of_ble_eq_true rfl⟩ ⟨Nat.le_of_ble_eq_true rfl, Nat.le_of_ble_eq_true rfl⟩ dX6_neededBlock_9 ?_
    refine z_icmp_lt (tgt := 25) hx hb dX6_neededBlock_12 (by decide) (by omega) (fun c_12 => ?_) (fun c_12 => ?_)
    · exfalso; omega
    · exact z_thrI (rest := []) (is := 238) (text := "no such block") hst hC hnx hTt hX hP hD hS hl.1 hlk (by decide) dX6_neededBlock_15 dX6_neededBlock_18 dX6_neededBlock_19 dX6_neededBlock_21 dX6_neededBlock_24 hAe (Nat.le_of_ble_eq_true rfl) (Nat.le_of_ble_eq_true rfl) (Nat.le_of_ble_eq_true rfl) (Nat.le_of_ble_eq_true rfl) (Nat.le_of_ble_eq_true rfl) (Nat.le_of_ble_eq_true rfl)

set_option maxRecDepth 100000 in
set_option maxHeartbeats 4000000 in
theorem c_X6_neededFile_x (l : Launch) (hst : l.stackTraces = false) (G : zGt) (sz : Nat) (b0 b1 g0 e0 f0 w0 u0 : Nat) (mc rn ll : Int) (f1 h0 : Nat) (nf tm : Int) (K : Int → Int) (x : Int) (hnf : 0 ≤ nf ∧ nf ≤ 40) (hx : -2147483648 ≤ x ∧ x < 2147483648) (hno : ¬ (0 ≤ x ∧ x < nf)) : vx_Met l yX6_neededFile (Cond.code yX6_neededFile cX6_neededFile 2 (some .int) :: tb) ({ frames := 6, cells := 1, slots := 6, locals := 82 } : Room) (zPx G [(b0, ob 6 [.ref b1, vI mc, .ref g0, .ref e0, vI rn, .ref f0, .ref w0, .ref u0, vI ll]), (f0, ob 2 [.ref h0, .ref f1, vI nf, vI tm]), (f1, aI G 40 K)] sz [.ref b0, vI x]) zFl (zXQ G [(b0, ob 6 [.ref b1, vI mc, .ref g0, .ref e0, vI rn, .ref f0, .ref w0, .ref u0, vI ll]), (f0, ob 2 [.ref h0, .ref f1, vI nf, vI tm]), (f1, aI G 40 K)] sz XI) 1 6 (va_A [(b0, ob 6 [.ref b1, vI mc, .ref g0, .ref e0, vI rn, .ref f0, .ref w0, .ref u0, vI ll]), (f0, ob 2 [.ref h0, .ref f1, vI nf, vI tm]), (f1, aI G 40 K)] sz) := by
  refine vx_ofW (cc := cX6_neededFile) (maxL := 2) (ret := (some .int)) (by decide) rfl ?_
  intro p e s m args below meth c s₁ B hml hnx hv
  obtain ⟨rfl, hsz, hP, hK, hD0, hTt, hX⟩ := hv
  subst hsz
  have hD := hD0.self (sz := s.heap.size)
  obtain ⟨A, hAe⟩ : ∃ A : Nat → Prop, A = va_A [(b0, ob 6 [.ref b1, vI mc, .ref g0, .ref e0, vI rn, .ref f0, .ref w0, .ref u0, vI ll]), (f0, ob 2 [.ref h0, .ref f1, vI nf, vI tm]), (f1, aI G 40 K)] s.heap.size := ⟨_, rfl⟩
  rw [← hAe] at hD hX
  have hA : ∀ q : Nat, s.heap.size ≤ q → A q := fun q h => by rw [hAe]; exact Or.inr h
  have hS : va_S A s.heap s.heap [] := va_S.rf
  obtain ⟨hC, hr, hlk⟩ := z_begin B hml
  have hC : CallFix p m c cX6_neededFile 2 s _ tb RX6 := hC
  have hx := hC.1
  have hb := hC.2.1
  have hl := lv_entry ([.ref b0, vI x]) (n := 2) (Nat.le_of_ble_eq_true rfl)
  rw [lg_entry_eq]
  generalize (lg_sl ([.ref b0, vI x]) ++ List.replicate (2 - (lg_sl ([.ref b0, vI x])).length) Slot.unset).toArray = ls at hl ⊢
  have hl : lv_has ls 2 [(0, .ref b0), (1, vI x)] := hl
  obtain ⟨H, hHe⟩ : ∃ H : Heap, H = s.heap := ⟨_, rfl⟩
  obtain ⟨locs, hLe⟩ : ∃ L : List Loc, L = [] := ⟨_, rfl⟩
  suffices hgo : W p l e (headSpec (Cond.code yX6_neededFile cX6_neededFile 2 (some .int) :: tb) ({ frames := 6, cells := 1, slots := 6, locals := 82 } : Room)).room s m ([.ref b0, vI x] : List Value).toArray below meth c H locs 0 0 (vx_MQ below zFl (zXQ G [(b0, ob 6 [.ref b1, vI mc, .ref g0, .ref e0, vI rn, .ref f0, .ref w0, .ref u0, vI ll]), (f0, ob 2 [.ref h0, .ref f1, vI nf, vI tm]), (f1, aI G 40 K)] s.heap.size XI) ([.ref b0, vI x] : List Value).toArray s 1 6 (va_A [(b0, ob 6 [.ref b1, vI mc, .ref g0, .ref e0, vI rn, .ref f0, .ref w0, .ref u0, vI ll]), (f0, ob 2 [.ref h0, .ref f1, vI nf, vI tm]), (f1, aI G 40 K)] s.heap.size)) (F0 m 0 ls []) by rw [hHe, hLe] at hgo; exact hgo
  rw [← hHe] at hP
  have hS : va_S A s.heap H locs := by rw [hHe, hLe]; exact hS
  clear hHe hLe
  refine lv_iload_n hx hb dX6_neededFile_0 rfl (lv_at hl 1 rfl) ?_
  refine z_if_lt (tgt := 15) hx hb dX6_neededFile_1 (by decide) (by omega) (fun c_1 => ?_) (fun c_1 => ?_)
  · exact z_thrI (rest := []) (is := 240) (text := "no such file") hst hC hnx hTt hX hP hD hS hl.1 hlk (by decide) dX6_neededFile_15 dX6_neededFile_18 dX6_neededFile_19 dX6_neededFile_21 dX6_neededFile_24 hAe (Nat.le_of_ble_eq_true rfl) (Nat.le_of_ble_eq_true rfl) (Nat.le_of_ble_eq_true rfl) (Nat.le_of_ble_eq_true rfl) (Nat.le_of_ble_eq_true rfl) (Nat.le_of_ble_eq_true rfl)
  · refine lv_iload_n hx hb dX6_neededFile_4 rfl (lv_at hl 1 rfl) ?_
    refine lv_aload_n hx hb dX6_neededFile_5 rfl (lv_at hl 0 rfl) ?_
    refine z_get (v := .ref f0) hC hK hP inX6 rfl 0 rfl 5 (by decide) tw_203 rfl dX6_neededFile_6 ?_
    refine z_rVi (q0 := 1) (ci := 2) (b := f0) (rest := [vI x]) hC hK hP (c_X2_size l G f0 f1 h0 nf tm K) mv_X2_size tw_409 [1, 2] rfl rfl rfl rfl hl.1 rfl (Nat.le_of_ble_eq_true rfl) ⟨rfl, rfl, Nat.le_of_ble_eq_true rfl, Nat.le_of_ble_eq_true rfl⟩ ⟨Nat.le_of_ble_eq_true rfl, Nat.le_of_ble_eq_true rfl⟩ dX6_neededFile_9 ?_
    refine z_icmp_lt (tgt := 25) hx hb dX6_neededFile_12 (by decide) (by omega) (fun c_12 => ?_) (fun c_12 => ?_)
    · exfalso; omega
    · exact z_thrI (rest := []) (is := 240) (text := "no such file") hst hC hnx hTt hX hP hD hS hl.1 hlk (by decide) dX6_neededFile_15 dX6_neededFile_18 dX6_neededFile_19 dX6_neededFile_21 dX6_neededFile_24 hAe (Nat.le_of_ble_eq_true rfl) (Nat.le_of_ble_eq_true rfl) (Nat.le_of_ble_eq_true rfl) (Nat.le_of_ble_eq_true rfl) (Nat.le_of_ble_eq_true rfl) (Nat.le_of_ble_eq_true rfl)

set_option maxRecDepth 100000 in
set_option maxHeartbeats 4000000 in
theorem c_X6_make_1 (l : Launch) (hst : l.stackTraces = false) (G : zGt) (sz : Nat) (b0 b1 g0 e0 f0 w0 u0 : Nat) (mc rn ll : Int) (x y z : Int) (hx : -2147483648 ≤ x ∧ x < 2147483648) (hy : -2147483648 ≤ y ∧ y < 2147483648) (hz : -2147483648 ≤ z ∧ z < 2147483648) (hno : ¬ ((0 ≤ x ∧ x < 256) ∧ (0 ≤ y ∧ y < 256) ∧ 0 ≤ z ∧ z ≤ 2)) : vx_Met l yX6_make (Cond.code yX6_make cX6_make 4 (some .int) :: tb) ({ frames := 6, cells := 1, slots := 6, locals := 82 } : Room) (zPx G [(b0, ob 6 [.ref b1, vI mc, .ref g0, .ref e0, vI rn, .ref f0, .ref w0, .ref u0, vI ll])] sz [.ref b0, vI x, vI y, vI z]) zFl (zXQ G [(b0, ob 6 [.ref b1, vI mc, .ref g0, .ref e0, vI rn, .ref f0, .ref w0, .ref u0, vI ll])] sz XA) 1 6 (va_A [(b0, ob 6 [.ref b1, vI mc, .ref g0, .ref e0, vI rn, .ref f0, .ref w0, .ref u0, vI ll])] sz) := by
  refine vx_ofW (cc := cX6_make) (maxL := 4) (ret := (some .int)) (by decide) rfl ?_
  intro p e s m args below meth c s₁ B hml hnx hv
  obtain ⟨rfl, hsz, hP, hK, hD0, hTt, hX⟩ := hv
  subst hsz
  have hD := hD0.self (sz := s.heap.size)
  obtain ⟨A, hAe⟩ : ∃ A : Nat → Prop, A = va_A [(b0, ob 6 [.ref b1, vI mc, .ref g0, .ref e0, vI rn, .ref f0, .ref w0, .ref u0, vI ll])] s.heap.size := ⟨_, rfl⟩
  rw [← hAe] at hD hX
  have hA : ∀ q : Nat, s.heap.size ≤ q → A q := fun q h => by rw [hAe]; exact Or.inr h
  have hS : va_S A s.heap s.heap [] := va_S.rf
  obtain ⟨hC, hr, hlk⟩ := z_begin B hml
  have hC : CallFix p m c cX6_make 4 s _ tb RX6 := hC
  have hx := hC.1
  have hb := hC.2.1
  have hl := lv_entry ([.ref b0, vI x, vI y, vI z]) (n := 4) (Nat.le_of_ble_eq_true rfl)
  rw [lg_entry_eq]
  generalize (lg_sl ([.ref b0, vI x, vI y, vI z]) ++ List.replicate (4 - (lg_sl ([.ref b0, vI x, vI y, vI z])).length) Slot.unset).toArray = ls at hl ⊢
  have hl : lv_has ls 4 [(0, .ref b0), (1, vI x), (2, vI y), (3, vI z)] := hl
  obtain ⟨H, hHe⟩ : ∃ H : Heap, H = s.heap := ⟨_, rfl⟩
  obtain ⟨locs, hLe⟩ : ∃ L : List Loc, L = [] := ⟨_, rfl⟩
  suffices hgo : W p l e (headSpec (Cond.code yX6_make cX6_make 4 (some .int) :: tb) ({ frames := 6, cells := 1, slots := 6, locals := 82 } : Room)).room s m ([.ref b0, vI x, vI y, vI z] : List Value).toArray below meth c H locs 0 0 (vx_MQ below zFl (zXQ G [(b0, ob 6 [.ref b1, vI mc, .ref g0, .ref e0, vI rn, .ref f0, .ref w0, .ref u0, vI ll])] s.heap.size XA) ([.ref b0, vI x, vI y, vI z] : List Value).toArray s 1 6 (va_A [(b0, ob 6 [.ref b1, vI mc, .ref g0, .ref e0, vI rn, .ref f0, .ref w0, .ref u0, vI ll])] s.heap.size)) (F0 m 0 ls []) by rw [hHe, hLe] at hgo; exact hgo
  rw [← hHe] at hP
  have hS : va_S A s.heap H locs := by rw [hHe, hLe]; exact hS
  clear hHe hLe
  refine lv_iload_n hx hb dX6_make_0 rfl (lv_at hl 1 rfl) ?_
  refine z_rSi (rest := []) hC hK hP (c_X6_isByte l G x (by omega)) ms_X6_isByte tw_471 [] rfl rfl hl.1 rfl (Nat.le_of_ble_eq_true rfl) ⟨rfl, rfl, Nat.le_of_ble_eq_true rfl, Nat.le_of_ble_eq_true rfl⟩ ⟨Nat.le_of_ble_eq_true rfl, Nat.le_of_ble_eq_true rfl⟩ dX6_make_1 ?_
  refine z_if_eq (tgt := 14) hx hb dX6_make_4 (by decide) (by split <;> omega) (fun c_4 => ?_) (fun c_4 => ?_)
  · have hy4 : ¬ (0 ≤ x ∧ x < 256) := fun h => by rw [if_pos h] at c_4; omega
    exact z_thrA (rest := []) (is := 70) (text := "a head byte is not 0 to 255") hst hC hnx hTt hX hP hD hS hl.1 hlk (by decide) dX6_make_14 dX6_make_17 dX6_make_18 dX6_make_20 dX6_make_23 hAe (Nat.le_of_ble_eq_true rfl) (Nat.le_of_ble_eq_true rfl) (Nat.le_of_ble_eq_true rfl) (Nat.le_of_ble_eq_true rfl) (Nat.le_of_ble_eq_true rfl) (Nat.le_of_ble_eq_true rfl)
  · have hy4 : (0 ≤ x ∧ x < 256) := Classical.byContradiction fun h => by rw [if_neg h] at c_4; omega
    refine lv_iload_n hx hb dX6_make_7 rfl (lv_at hl 2 rfl) ?_
    refine z_rSi (rest := []) hC hK hP (c_X6_isByte l G y (by omega)) ms_X6_isByte tw_471 [] rfl rfl hl.1 rfl (Nat.le_of_ble_eq_true rfl) ⟨rfl, rfl, Nat.le_of_ble_eq_true rfl, Nat.le_of_ble_eq_true rfl⟩ ⟨Nat.le_of_ble_eq_true rfl, Nat.le_of_ble_eq_true rfl⟩ dX6_make_8 ?_
    refine z_if_ne (tgt := 24) hx hb dX6_make_11 (by decide) (by split <;> omega) (fun c_11 => ?_) (fun c_11 => ?_)
    · have hy11 : (0 ≤ y ∧ y < 256) := Classical.byContradiction fun h => by rw [if_neg h] at c_11; omega
      refine lv_iload_n hx hb dX6_make_24 rfl (lv_at hl 3 rfl) ?_
      refine z_if_lt (tgt := 33) hx hb dX6_make_25 (by decide) (by omega) (fun c_25 => ?_) (fun c_25 => ?_)
      · exact z_thrA (rest := []) (is := 75) (text := "no such check") hst hC hnx hTt hX hP hD hS hl.1 hlk (by decide) dX6_make_33 dX6_make_36 dX6_make_37 dX6_make_39 dX6_make_42 hAe (Nat.le_of_ble_eq_true rfl) (Nat.le_of_ble_eq_true rfl) (Nat.le_of_ble_eq_true rfl) (Nat.le_of_ble_eq_true rfl) (Nat.le_of_ble_eq_true rfl) (Nat.le_of_ble_eq_true rfl)
      · refine lv_iload_n hx hb dX6_make_28 rfl (lv_at hl 3 rfl) ?_
        refine lv_iconst (v := iI 3) hx hb dX6_make_29 rfl ?_
        refine z_icmp_lt (tgt := 43) hx hb dX6_make_30 (by decide) (by omega) (fun c_30 => ?_) (fun c_30 => ?_)
        · exfalso; omega
        · exact z_thrA (rest := []) (is := 75) (text := "no such check") hst hC hnx hTt hX hP hD hS hl.1 hlk (by decide) dX6_make_33 dX6_make_36 dX6_make_37 dX6_make_39 dX6_make_42 hAe (Nat.le_of_ble_eq_true rfl) (Nat.le_of_ble_eq_true rfl) (Nat.le_of_ble_eq_true rfl) (Nat.le_of_ble_eq_true rfl) (Nat.le_of_ble_eq_true rfl) (Nat.le_of_ble_eq_true rfl)
    · have hy11 : ¬ (0 ≤ y ∧ y < 256) := fun h => by rw [if_pos h] at c_11; omega
      exact z_thrA (rest := []) (is := 70) (text := "a head byte is not 0 to 255") hst hC hnx hTt hX hP hD hS hl.1 hlk (by decide) dX6_make_14 dX6_make_17 dX6_make_18 dX6_make_20 dX6_make_23 hAe (Nat.le_of_ble_eq_true rfl) (Nat.le_of_ble_eq_true rfl) (Nat.le_of_ble_eq_true rfl) (Nat.le_of_ble_eq_true rfl) (Nat.le_of_ble_eq_true rfl) (Nat.le_of_ble_eq_true rfl)

set_option maxRecDepth 100000 in
set_option maxHeartbeats 4000000 in
theorem c_X6_make_2 (l : Launch) (hst : l.stackTraces = false) (G : zGt) (sz : Nat) (b0 b1 g0 e0 f0 w0 u0 : Nat) (mc rn ll : Int) (x y z : Int) (hok : ((0 ≤ x ∧ x < 256) ∧ (0 ≤ y ∧ y < 256) ∧ 0 ≤ z ∧ z ≤ 2)) (hmc : mc = 6) : vx_Met l yX6_make (Cond.code yX6_make cX6_make 4 (some .int) :: tb) ({ frames := 6, cells := 1, slots := 6, locals := 82 } : Room) (zPx G [(b0, ob 6 [.ref b1, vI mc, .ref g0, .ref e0, vI rn, .ref f0, .ref w0, .ref u0, vI ll])] sz [.ref b0, vI x, vI y, vI z]) zFl (zXQ G [(b0, ob 6 [.ref b1, vI mc, .ref g0, .ref e0, vI rn, .ref f0, .ref w0, .ref u0, vI ll])] sz XS) 1 6 (va_A [(b0, ob 6 [.ref b1, vI mc, .ref g0, .ref e0, vI rn, .ref f0, .ref w0, .ref u0, vI ll])] sz) := by
  refine vx_ofW (cc := cX6_make) (maxL := 4) (ret := (some .int)) (by decide) rfl ?_
  intro p e s m args below meth c s₁ B hml hnx hv
  obtain ⟨rfl, hsz, hP, hK, hD0, hTt, hX⟩ := hv
  subst hsz
  have hD := hD0.self (sz := s.heap.size)
  obtain ⟨A, hAe⟩ : ∃ A : Nat → Prop, A = va_A [(b0, ob 6 [.ref b1, vI mc, .ref g0, .ref e0, vI rn, .ref f0, .ref w0, .ref u0, vI ll])] s.heap.size := ⟨_, rfl⟩
  rw [← hAe] at hD hX
  have hA : ∀ q : Nat, s.heap.size ≤ q → A q := fun q h => by rw [hAe]; exact Or.inr h
  have hS : va_S A s.heap s.heap [] := va_S.rf
  obtain ⟨hC, hr, hlk⟩ := z_begin B hml
  have hC : CallFix p m c cX6_make 4 s _ tb RX6 := hC
  have hx := hC.1
  have hb := hC.2.1
  have hl := lv_entry ([.ref b0, vI x, vI y, vI z]) (n := 4) (Nat.le_of_ble_eq_true rfl)
  rw [lg_entry_eq]
  generalize (lg_sl ([.ref b0, vI x, vI y, vI z]) ++ List.replicate (4 - (lg_sl ([.ref b0, vI x, vI y, vI z])).length) Slot.unset).toArray = ls at hl ⊢
  have hl : lv_has ls 4 [(0, .ref b0), (1, vI x), (2, vI y), (3, vI z)] := hl
  obtain ⟨H, hHe⟩ : ∃ H : Heap, H = s.heap := ⟨_, rfl⟩
  obtain ⟨locs, hLe⟩ : ∃ L : List Loc, L = [] := ⟨_, rfl⟩
  suffices hgo : W p l e (headSpec (Cond.code yX6_make cX6_make 4 (some .int) :: tb) ({ frames := 6, cells := 1, slots := 6, locals := 82 } : Room)).room s m ([.ref b0, vI x, vI y, vI z] : List Value).toArray below meth c H locs 0 0 (vx_MQ below zFl (zXQ G [(b0, ob 6 [.ref b1, vI mc, .ref g0, .ref e0, vI rn, .ref f0, .ref w0, .ref u0, vI ll])] s.heap.size XS) ([.ref b0, vI x, vI y, vI z] : List Value).toArray s 1 6 (va_A [(b0, ob 6 [.ref b1, vI mc, .ref g0, .ref e0, vI rn, .ref f0, .ref w0, .ref u0, vI ll])] s.heap.size)) (F0 m 0 ls []) by rw [hHe, hLe] at hgo; exact hgo
  rw [← hHe] at hP
  have hS : va_S A s.heap H locs := by rw [hHe, hLe]; exact hS
  clear hHe hLe
  refine lv_iload_n hx hb dX6_make_0 rfl (lv_at hl 1 rfl) ?_
  refine z_rSi (rest := []) hC hK hP (c_X6_isByte l G x (by omega)) ms_X6_isByte tw_471 [] rfl rfl hl.1 rfl (Nat.le_of_ble_eq_true rfl) ⟨rfl, rfl, Nat.le_of_ble_eq_true rfl, Nat.le_of_ble_eq_true rfl⟩ ⟨Nat.le_of_ble_eq_true rfl, Nat.le_of_ble_eq_true rfl⟩ dX6_make_1 ?_
  refine z_top (y := 1) (if_pos (by omega)) ?_
  refine z_if_eq (tgt := 14) hx hb dX6_make_4 (by decide) (by omega) (fun c_4 => ?_) (fun c_4 => ?_)
  · exact absurd c_4 (by decide)
  · refine lv_iload_n hx hb dX6_make_7 rfl (lv_at hl 2 rfl) ?_
    refine z_rSi (rest := []) hC hK hP (c_X6_isByte l G y (by omega)) ms_X6_isByte tw_471 [] rfl rfl hl.1 rfl (Nat.le_of_ble_eq_true rfl) ⟨rfl, rfl, Nat.le_of_ble_eq_true rfl, Nat.le_of_ble_eq_true rfl⟩ ⟨Nat.le_of_ble_eq_true rfl, Nat.le_of_ble_eq_true rfl⟩ dX6_make_8 ?_
    refine z_top (y := 1) (if_pos (by omega)) ?_
    refine z_if_ne (tgt := 24) hx hb dX6_make_11 (by decide) (by omega) (fun c_11 => ?_) (fun c_11 => ?_)
    · refine lv_iload_n hx hb dX6_make_24 rfl (lv_at hl 3 rfl) ?_
      refine z_if_lt (tgt := 33) hx hb dX6_make_25 (by decide) (by omega) (fun c_25 => ?_) (fun c_25 => ?_)
      · exfalso; omega
      · refine lv_iload_n hx hb dX6_make_28 rfl (lv_at hl 3 rfl) ?_
        refine lv_iconst (v := iI 3) hx hb dX6_make_29 rfl ?_
        refine z_icmp_lt (tgt := 43) hx hb dX6_make_30 (by decide) (by omega) (fun c_30 => ?_) (fun c_30 => ?_)
        · refine lv_aload_n hx hb dX6_make_43 rfl (lv_at hl 0 rfl) ?_
          refine z_get (v := vI mc) hC hK hP inX6 rfl 0 rfl 1 (by decide) tw_199 rfl dX6_make_44 ?_
          refine lv_bipush (v := iI 6) hx hb dX6_make_47 (by decide) ?_
          refine z_icmp_lt (tgt := 62) hx hb dX6_make_49 (by decide) (by omega) (fun c_49 => ?_) (fun c_49 => ?_)
          · exfalso; omega
          · exact z_thrS (rest := []) (is := 79) (text := "there are 6 makes") hst hC hnx hTt hX hP hD hS hl.1 hlk (by decide) dX6_make_52 dX6_make_55 dX6_make_56 dX6_make_58 dX6_make_61 hAe (Nat.le_of_ble_eq_true rfl) (Nat.le_of_ble_eq_true rfl) (Nat.le_of_ble_eq_true rfl) (Nat.le_of_ble_eq_true rfl) (Nat.le_of_ble_eq_true rfl) (Nat.le_of_ble_eq_true rfl)
        · exfalso; omega
    · exact absurd c_11 (by decide)

set_option maxRecDepth 100000 in
set_option maxHeartbeats 4000000 in
theorem c_X6_edge_1 (l : Launch) (hst : l.stackTraces = false) (G : zGt) (sz : Nat) (b0 b1 g0 e0 f0 w0 u0 : Nat) (mc rn ll : Int) (MK : Int → Option Nat) (x y z w t0 : Int) (hx : -2147483648 ≤ x ∧ x < 2147483648) (hmk0 : 0 ≤ x ∧ x < 6 → MK x = none) : vx_Met l yX6_edge (Cond.code yX6_edge cX6_edge 7 (some .int) :: tb) ({ frames := 7, cells := 1, slots := 6, locals := 104 } : Room) (zPx G [(b0, ob 6 [.ref b1, vI mc, .ref g0, .ref e0, vI rn, .ref f0, .ref w0, .ref u0, vI ll]), (b1, aR G 6 MK)] sz [.ref b0, vI x, vI y, vI z, vI w, vI t0]) zFl (zXQ G [(b0, ob 6 [.ref b1, vI mc, .ref g0, .ref e0, vI rn, .ref f0, .ref w0, .ref u0, vI ll]), (b1, aR G 6 MK)] sz XI) 1 6 (va_A [(b0, ob 6 [.ref b1, vI mc, .ref g0, .ref e0, vI rn, .ref f0, .ref w0, .ref u0, vI ll]), (b1, aR G 6 MK)] sz) := by
  refine vx_ofW (cc := cX6_edge) (maxL := 7) (ret := (some .int)) (by decide) rfl ?_
  intro p e s m args below meth c s₁ B hml hnx hv
  obtain ⟨rfl, hsz, hP, hK, hD0, hTt, hX⟩ := hv
  subst hsz
  have hD := hD0.self (sz := s.heap.size)
  obtain ⟨A, hAe⟩ : ∃ A : Nat → Prop, A = va_A [(b0, ob 6 [.ref b1, vI mc, .ref g0, .ref e0, vI rn, .ref f0, .ref w0, .ref u0, vI ll]), (b1, aR G 6 MK)] s.heap.size := ⟨_, rfl⟩
  rw [← hAe] at hD hX
  have hA : ∀ q : Nat, s.heap.size ≤ q → A q := fun q h => by rw [hAe]; exact Or.inr h
  have hS : va_S A s.heap s.heap [] := va_S.rf
  obtain ⟨hC, hr, hlk⟩ := z_begin B hml
  have hC : CallFix p m c cX6_edge 7 s _ tb RX6 := hC
  have hx := hC.1
  have hb := hC.2.1
  have hl := lv_entry ([.ref b0, vI x, vI y, vI z, vI w, vI t0]) (n := 7) (Nat.le_of_ble_eq_true rfl)
  rw [lg_entry_eq]
  generalize (lg_sl ([.ref b0, vI x, vI y, vI z, vI w, vI t0]) ++ List.replicate (7 - (lg_sl ([.ref b0, vI x, vI y, vI z, vI w, vI t0])).length) Slot.unset).toArray = ls at hl ⊢
  have hl : lv_has ls 7 [(0, .ref b0), (1, vI x), (2, vI y), (3, vI z), (4, vI w), (5, vI t0)] := hl
  obtain ⟨H, hHe⟩ : ∃ H : Heap, H = s.heap := ⟨_, rfl⟩
  obtain ⟨locs, hLe⟩ : ∃ L : List Loc, L = [] := ⟨_, rfl⟩
  suffices hgo : W p l e (headSpec (Cond.code yX6_edge cX6_edge 7 (some .int) :: tb) ({ frames := 7, cells := 1, slots := 6, locals := 104 } : Room)).room s m ([.ref b0, vI x, vI y, vI z, vI w, vI t0] : List Value).toArray below meth c H locs 0 0 (vx_MQ below zFl (zXQ G [(b0, ob 6 [.ref b1, vI mc, .ref g0, .ref e0, vI rn, .ref f0, .ref w0, .ref u0, vI ll]), (b1, aR G 6 MK)] s.heap.size XI) ([.ref b0, vI x, vI y, vI z, vI w, vI t0] : List Value).toArray s 1 6 (va_A [(b0, ob 6 [.ref b1, vI mc, .ref g0, .ref e0, vI rn, .ref f0, .ref w0, .ref u0, vI ll]), (b1, aR G 6 MK)] s.heap.size)) (F0 m 0 ls []) by rw [hHe, hLe] at hgo; exact hgo
  rw [← hHe] at hP
  have hS : va_S A s.heap H locs := by rw [hHe, hLe]; exact hS
  clear hHe hLe
  refine lv_aload_n hx hb dX6_edge_0 rfl (lv_at hl 0 rfl) ?_
  refine lv_iload_n hx hb dX6_edge_1 rfl (lv_at hl 1 rfl) ?_
  exact z_xV (q0 := 0) (ci := 6) (b := b0) (rest := []) (wr := []) (w1 := [(b0, ob 6 [.ref b1, vI mc, .ref g0, .ref e0, vI rn, .ref f0, .ref w0, .ref u0, vI ll]), (b1, aR G 6 MK)]) hC hK hTt hX hnx hP hD hS hA hlk (c_X6_neededMake_x l hst G H.size b0 b1 g0 e0 f0 w0 u0 mc rn ll MK x (by omega) (hmk0)) mv_X6_neededMake tw_591 [0, 1] [] rfl rfl rfl rfl (by decide) rfl rfl rfl rfl hl.1 rfl (Nat.le_of_ble_eq_true rfl) ⟨rfl, rfl, (Nat.le_of_ble_eq_true rfl), (Nat.le_of_ble_eq_true rfl)⟩ ⟨(Nat.le_of_ble_eq_true rfl), (Nat.le_of_ble_eq_true rfl)⟩ ⟨(Nat.le_of_ble_eq_true rfl), (Nat.le_of_ble_eq_true rfl)⟩ hAe [0, 1] rfl (by decide) rfl dX6_edge_2

set_option maxRecDepth 100000 in
set_option maxHeartbeats 4000000 in
theorem c_X6_edge_2 (l : Launch) (hst : l.stackTraces = false) (G : zGt) (sz : Nat) (b0 b1 g0 e0 f0 w0 u0 : Nat) (mc rn ll : Int) (MK : Int → Option Nat) (m0 m1 : Nat) (a1 a2 kd gl ed : Int) (T : Int → Int) (x y z w t0 : Int) (hx0 : 0 ≤ x ∧ x < 6) (hmk : MK x = some m0) (hy : -2147483648 ≤ y ∧ y < 2147483648) (hz : -2147483648 ≤ z ∧ z < 2147483648) (hw : -2147483648 ≤ w ∧ w < 2147483648) (ht0 : -2147483648 ≤ t0 ∧ t0 < 2147483648) (hno : ¬ ((0 ≤ y ∧ y < 16) ∧ (0 ≤ t0 ∧ t0 < 16) ∧ (0 ≤ z ∧ z < 256) ∧ (0 ≤ w ∧ w < 256) ∧ z ≤ w)) : vx_Met l yX6_edge (Cond.code yX6_edge cX6_edge 7 (some .int) :: tb) ({ frames := 6, cells := 1, slots := 6, locals := 82 } : Room) (zPx G [(b0, ob 6 [.ref b1, vI mc, .ref g0, .ref e0, vI rn, .ref f0, .ref w0, .ref u0, vI ll]), (b1, aR G 6 MK), (m0, ob 4 [vI a1, vI a2, vI kd, vI gl, vI ed, .ref m1]), (m1, aI G 4096 T)] sz [.ref b0, vI x, vI y, vI z, vI w, vI t0]) zFl (zXQ G [(b0, ob 6 [.ref b1, vI mc, .ref g0, .ref e0, vI rn, .ref f0, .ref w0, .ref u0, vI ll]), (b1, aR G 6 MK), (m0, ob 4 [vI a1, vI a2, vI kd, vI gl, vI ed, .ref m1]), (m1, aI G 4096 T)] sz XA) 1 6 (va_A [(b0, ob 6 [.ref b1, vI mc, .ref g0, .ref e0, vI rn, .ref f0, .ref w0, .ref u0, vI ll]), (b1, aR G 6 MK), (m0, ob 4 [vI a1, vI a2, vI kd, vI gl, vI ed, .ref m1]), (m1, aI G 4096 T)] sz) := by
  refine vx_ofW (cc := cX6_edge) (maxL := 7) (ret := (some .int)) (by decide) rfl ?_
  intro p e s m args below meth c s₁ B hml hnx hv
  obtain ⟨rfl, hsz, hP, hK, hD0, hTt, hX⟩ := hv
  subst hsz
  have hD := hD0.self (sz := s.heap.size)
  obtain ⟨A, hAe⟩ : ∃ A : Nat → Prop, A = va_A [(b0, ob 6 [.ref b1, vI mc, .ref g0, .ref e0, vI rn, .ref f0, .ref w0, .ref u0, vI ll]), (b1, aR G 6 MK), (m0, ob 4 [vI a1, vI a2, vI kd, vI gl, vI ed, .ref m1]), (m1, aI G 4096 T)] s.heap.size := ⟨_, rfl⟩
  rw [← hAe] at hD hX
  have hA : ∀ q : Nat, s.heap.size ≤ q → A q := fun q h => by rw [hAe]; exact Or.inr h
  have hS : va_S A s.heap s.heap [] := va_S.rf
  obtain ⟨hC, hr, hlk⟩ := z_begin B hml
  have hC : CallFix p m c cX6_edge 7 s _ tb RX6 := hC
  have hx := hC.1
  have hb := hC.2.1
  have hl := lv_entry ([.ref b0, vI x, vI y, vI z, vI w, vI t0]) (n := 7) (Nat.le_of_ble_eq_true rfl)
  rw [lg_entry_eq]
  generalize (lg_sl ([.ref b0, vI x, vI y, vI z, vI w, vI t0]) ++ List.replicate (7 - (lg_sl ([.ref b0, vI x, vI y, vI z, vI w, vI t0])).length) Slot.unset).toArray = ls at hl ⊢
  have hl : lv_has ls 7 [(0, .ref b0), (1, vI x), (2, vI y), (3, vI z), (4, vI w), (5, vI t0)] := hl
  obtain ⟨H, hHe⟩ : ∃ H : Heap, H = s.heap := ⟨_, rfl⟩
  obtain ⟨locs, hLe⟩ : ∃ L : List Loc, L = [] := ⟨_, rfl⟩
  suffices hgo : W p l e (headSpec (Cond.code yX6_edge cX6_edge 7 (some .int) :: tb) ({ frames := 6, cells := 1, slots := 6, locals := 82 } : Room)).room s m ([.ref b0, vI x, vI y, vI z, vI w, vI t0] : List Value).toArray below meth c H locs 0 0 (vx_MQ below zFl (zXQ G [(b0, ob 6 [.ref b1, vI mc, .ref g0, .ref e0, vI rn, .ref f0, .ref w0, .ref u0, vI ll]), (b1, aR G 6 MK), (m0, ob 4 [vI a1, vI a2, vI kd, vI gl, vI ed, .ref m1]), (m1, aI G 4096 T)] s.heap.size XA) ([.ref b0, vI x, vI y, vI z, vI w, vI t0] : List Value).toArray s 1 6 (va_A [(b0, ob 6 [.ref b1, vI mc, .ref g0, .ref e0, vI rn, .ref f0, .ref w0, .ref u0, vI ll]), (b1, aR G 6 MK), (m0, ob 4 [vI a1, vI a2, vI kd, vI gl, vI ed, .ref m1]), (m1, aI G 4096 T)] s.heap.size)) (F0 m 0 ls []) by rw [hHe, hLe] at hgo; exact hgo
  rw [← hHe] at hP
  have hS : va_S A s.heap H locs := by rw [hHe, hLe]; exact hS
  clear hHe hLe
  refine lv_aload_n hx hb dX6_edge_0 rfl (lv_at hl 0 rfl) ?_
  refine lv_iload_n hx hb dX6_edge_1 rfl (lv_at hl 1 rfl) ?_
  refine z_rVr (q0 := 0) (ci := 6) (b := b0) (rest := []) hC hK hP (c_X6_neededMake l G b0 b1 g0 e0 f0 w0 u0 mc rn ll MK x m0 (by omega) (hmk)) mv_X6_neededMake tw_591 [0, 1] rfl rfl rfl rfl hl.1 rfl (Nat.le_of_ble_eq_true rfl) ⟨rfl, rfl, Nat.le_of_ble_eq_true rfl, Nat.le_of_ble_eq_true rfl⟩ ⟨Nat.le_of_ble_eq_true rfl, Nat.le_of_ble_eq_true rfl⟩ dX6_edge_2 ?_
  refine lv_astore (lv' := [(6, .ref m0), (0, .ref b0), (1, vI x), (2, vI y), (3, vI z), (4, vI w), (5, vI t0)]) hx hb dX6_edge_5 hl (by decide) rfl (fun ls hl => ?_)
  refine lv_iload_n hx hb dX6_edge_7 rfl (lv_at hl 3 rfl) ?_
  refine z_rSi (rest := []) hC hK hP (c_X6_isState l G y (by omega)) ms_X6_isState tw_611 [] rfl rfl hl.1 rfl (Nat.le_of_ble_eq_true rfl) ⟨rfl, rfl, Nat.le_of_ble_eq_true rfl, Nat.le_of_ble_eq_true rfl⟩ ⟨Nat.le_of_ble_eq_true rfl, Nat.le_of_ble_eq_true rfl⟩ dX6_edge_8 ?_
  refine z_if_eq (tgt := 22) hx hb dX6_edge_11 (by decide) (by split <;> omega) (fun c_11 => ?_) (fun c_11 => ?_)
  · have hy11 : ¬ (0 ≤ y ∧ y < 16) := fun h => by rw [if_pos h] at c_11; omega
    exact z_thrA (rest := []) (is := 92) (text := "a state is not 0 to 15") hst hC hnx hTt hX hP hD hS hl.1 hlk (by decide) dX6_edge_22 dX6_edge_25 dX6_edge_26 dX6_edge_28 dX6_edge_31 hAe (Nat.le_of_ble_eq_true rfl) (Nat.le_of_ble_eq_true rfl) (Nat.le_of_ble_eq_true rfl) (Nat.le_of_ble_eq_true rfl) (Nat.le_of_ble_eq_true rfl) (Nat.le_of_ble_eq_true rfl)
  · have hy11 : 0 ≤ y ∧ y < 16 := Classical.byContradiction fun h => by rw [if_neg h] at c_11; omega
    refine lv_iload hx hb dX6_edge_14 (lv_at hl 6 rfl) ?_
    refine z_rSi (rest := []) hC hK hP (c_X6_isState l G t0 (by omega)) ms_X6_isState tw_611 [] rfl rfl hl.1 rfl (Nat.le_of_ble_eq_true rfl) ⟨rfl, rfl, Nat.le_of_ble_eq_true rfl, Nat.le_of_ble_eq_true rfl⟩ ⟨Nat.le_of_ble_eq_true rfl, Nat.le_of_ble_eq_true rfl⟩ dX6_edge_16 ?_
    refine z_if_ne (tgt := 32) hx hb dX6_edge_19 (by decide) (by split <;> omega) (fun c_19 => ?_) (fun c_19 => ?_)
    · have hy19 : 0 ≤ t0 ∧ t0 < 16 := Classical.byContradiction fun h => by rw [if_neg h] at c_19; omega
      refine lv_iload_n hx hb dX6_edge_32 rfl (lv_at hl 4 rfl) ?_
      refine z_rSi (rest := []) hC hK hP (c_X6_isByte l G z (by omega)) ms_X6_isByte tw_471 [] rfl rfl hl.1 rfl (Nat.le_of_ble_eq_true rfl) ⟨rfl, rfl, Nat.le_of_ble_eq_true rfl, Nat.le_of_ble_eq_true rfl⟩ ⟨Nat.le_of_ble_eq_true rfl, Nat.le_of_ble_eq_true rfl⟩ dX6_edge_33 ?_
      refine z_if_eq (tgt := 53) hx hb dX6_edge_36 (by decide) (by split <;> omega) (fun c_36 => ?_) (fun c_36 => ?_)
      · have hy36 : ¬ (0 ≤ z ∧ z < 256) := fun h => by rw [if_pos h] at c_36; omega
        exact z_thrA (rest := []) (is := 94) (text := "bytes are not 0 to 255, or low is above high") hst hC hnx hTt hX hP hD hS hl.1 hlk (by decide) dX6_edge_53 dX6_edge_56 dX6_edge_57 dX6_edge_59 dX6_edge_62 hAe (Nat.le_of_ble_eq_true rfl) (Nat.le_of_ble_eq_true rfl) (Nat.le_of_ble_eq_true rfl) (Nat.le_of_ble_eq_true rfl) (Nat.le_of_ble_eq_true rfl) (Nat.le_of_ble_eq_true rfl)
      · have hy36 : (0 ≤ z ∧ z < 256) := Classical.byContradiction fun h => by rw [if_neg h] at c_36; omega
        refine lv_iload hx hb dX6_edge_39 (lv_at hl 5 rfl) ?_
        refine z_rSi (rest := []) hC hK hP (c_X6_isByte l G w (by omega)) ms_X6_isByte tw_471 [] rfl rfl hl.1 rfl (Nat.le_of_ble_eq_true rfl) ⟨rfl, rfl, Nat.le_of_ble_eq_true rfl, Nat.le_of_ble_eq_true rfl⟩ ⟨Nat.le_of_ble_eq_true rfl, Nat.le_of_ble_eq_true rfl⟩ dX6_edge_41 ?_
        refine z_if_eq (tgt := 53) hx hb dX6_edge_44 (by decide) (by split <;> omega) (fun c_44 => ?_) (fun c_44 => ?_)
        · have hy44 : ¬ (0 ≤ w ∧ w < 256) := fun h => by rw [if_pos h] at c_44; omega
          exact z_thrA (rest := []) (is := 94) (text := "bytes are not 0 to 255, or low is above high") hst hC hnx hTt hX hP hD hS hl.1 hlk (by decide) dX6_edge_53 dX6_edge_56 dX6_edge_57 dX6_edge_59 dX6_edge_62 hAe (Nat.le_of_ble_eq_true rfl) (Nat.le_of_ble_eq_true rfl) (Nat.le_of_ble_eq_true rfl) (Nat.le_of_ble_eq_true rfl) (Nat.le_of_ble_eq_true rfl) (Nat.le_of_ble_eq_true rfl)
        · have hy44 : (0 ≤ w ∧ w < 256) := Classical.byContradiction fun h => by rw [if_neg h] at c_44; omega
          refine lv_iload_n hx hb dX6_edge_47 rfl (lv_at hl 4 rfl) ?_
          refine lv_iload hx hb dX6_edge_48 (lv_at hl 5 rfl) ?_
          refine z_icmp_le (tgt := 63) hx hb dX6_edge_50 (by decide) (by omega) (fun c_50 => ?_) (fun c_50 => ?_)
          · exfalso; omega
          · exact z_thrA (rest := []) (is := 94) (text := "bytes are not 0 to 255, or low is above high") hst hC hnx hTt hX hP hD hS hl.1 hlk (by decide) dX6_edge_53 dX6_edge_56 dX6_edge_57 dX6_edge_59 dX6_edge_62 hAe (Nat.le_of_ble_eq_true rfl) (Nat.le_of_ble_eq_true rfl) (Nat.le_of_ble_eq_true rfl) (Nat.le_of_ble_eq_true rfl) (Nat.le_of_ble_eq_true rfl) (Nat.le_of_ble_eq_true rfl)
    · exact z_thrA (rest := []) (is := 92) (text := "a state is not 0 to 15") hst hC hnx hTt hX hP hD hS hl.1 hlk (by decide) dX6_edge_22 dX6_edge_25 dX6_edge_26 dX6_edge_28 dX6_edge_31 hAe (Nat.le_of_ble_eq_true rfl) (Nat.le_of_ble_eq_true rfl) (Nat.le_of_ble_eq_true rfl) (Nat.le_of_ble_eq_true rfl) (Nat.le_of_ble_eq_true rfl) (Nat.le_of_ble_eq_true rfl)

set_option maxRecDepth 100000 in
set_option maxHeartbeats 4000000 in
theorem c_X6_edge_3 (l : Launch) (hst : l.stackTraces = false) (G : zGt) (sz : Nat) (b0 b1 g0 e0 f0 w0 u0 : Nat) (mc rn ll : Int) (MK : Int → Option Nat) (m0 m1 : Nat) (a1 a2 kd gl ed : Int) (T : Int → Int) (x y z w t0 : Int) (hx0 : 0 ≤ x ∧ x < 6) (hmk : MK x = some m0) (hok : ((0 ≤ y ∧ y < 16) ∧ (0 ≤ t0 ∧ t0 < 16) ∧ (0 ≤ z ∧ z < 256) ∧ (0 ≤ w ∧ w < 256) ∧ z ≤ w)) (hed : ed = 40) : vx_Met l yX6_edge (Cond.code yX6_edge cX6_edge 7 (some .int) :: tb) ({ frames := 6, cells := 1, slots := 6, locals := 82 } : Room) (zPx G [(b0, ob 6 [.ref b1, vI mc, .ref g0, .ref e0, vI rn, .ref f0, .ref w0, .ref u0, vI ll]), (b1, aR G 6 MK), (m0, ob 4 [vI a1, vI a2, vI kd, vI gl, vI ed, .ref m1]), (m1, aI G 4096 T)] sz [.ref b0, vI x, vI y, vI z, vI w, vI t0]) zFl (zXQ G [(b0, ob 6 [.ref b1, vI mc, .ref g0, .ref e0, vI rn, .ref f0, .ref w0, .ref u0, vI ll]), (b1, aR G 6 MK), (m0, ob 4 [vI a1, vI a2, vI kd, vI gl, vI ed, .ref m1]), (m1, aI G 4096 T)] sz XS) 1 6 (va_A [(b0, ob 6 [.ref b1, vI mc, .ref g0, .ref e0, vI rn, .ref f0, .ref w0, .ref u0, vI ll]), (b1, aR G 6 MK), (m0, ob 4 [vI a1, vI a2, vI kd, vI gl, vI ed, .ref m1]), (m1, aI G 4096 T)] sz) := by
  refine vx_ofW (cc := cX6_edge) (maxL := 7) (ret := (some .int)) (by decide) rfl ?_
  intro p e s m args below meth c s₁ B hml hnx hv
  obtain ⟨rfl, hsz, hP, hK, hD0, hTt, hX⟩ := hv
  subst hsz
  have hD := hD0.self (sz := s.heap.size)
  obtain ⟨A, hAe⟩ : ∃ A : Nat → Prop, A = va_A [(b0, ob 6 [.ref b1, vI mc, .ref g0, .ref e0, vI rn, .ref f0, .ref w0, .ref u0, vI ll]), (b1, aR G 6 MK), (m0, ob 4 [vI a1, vI a2, vI kd, vI gl, vI ed, .ref m1]), (m1, aI G 4096 T)] s.heap.size := ⟨_, rfl⟩
  rw [← hAe] at hD hX
  have hA : ∀ q : Nat, s.heap.size ≤ q → A q := fun q h => by rw [hAe]; exact Or.inr h
  have hS : va_S A s.heap s.heap [] := va_S.rf
  obtain ⟨hC, hr, hlk⟩ := z_begin B hml
  have hC : CallFix p m c cX6_edge 7 s _ tb RX6 := hC
  have hx := hC.1
  have hb := hC.2.1
  have hl := lv_entry ([.ref b0, vI x, vI y, vI z, vI w, vI t0]) (n := 7) (Nat.le_of_ble_eq_true rfl)
  rw [lg_entry_eq]
  generalize (lg_sl ([.ref b0, vI x, vI y, vI z, vI w, vI t0]) ++ List.replicate (7 - (lg_sl ([.ref b0, vI x, vI y, vI z, vI w, vI t0])).length) Slot.unset).toArray = ls at hl ⊢
  have hl : lv_has ls 7 [(0, .ref b0), (1, vI x), (2, vI y), (3, vI z), (4, vI w), (5, vI t0)] := hl
  obtain ⟨H, hHe⟩ : ∃ H : Heap, H = s.heap := ⟨_, rfl⟩
  obtain ⟨locs, hLe⟩ : ∃ L : List Loc, L = [] := ⟨_, rfl⟩
  suffices hgo : W p l e (headSpec (Cond.code yX6_edge cX6_edge 7 (some .int) :: tb) ({ frames := 6, cells := 1, slots := 6, locals := 82 } : Room)).room s m ([.ref b0, vI x, vI y, vI z, vI w, vI t0] : List Value).toArray below meth c H locs 0 0 (vx_MQ below zFl (zXQ G [(b0, ob 6 [.ref b1, vI mc, .ref g0, .ref e0, vI rn, .ref f0, .ref w0, .ref u0, vI ll]), (b1, aR G 6 MK), (m0, ob 4 [vI a1, vI a2, vI kd, vI gl, vI ed, .ref m1]), (m1, aI G 4096 T)] s.heap.size XS) ([.ref b0, vI x, vI y, vI z, vI w, vI t0] : List Value).toArray s 1 6 (va_A [(b0, ob 6 [.ref b1, vI mc, .ref g0, .ref e0, vI rn, .ref f0, .ref w0, .ref u0, vI ll]), (b1, aR G 6 MK), (m0, ob 4 [vI a1, vI a2, vI kd, vI gl, vI ed, .ref m1]), (m1, aI G 4096 T)] s.heap.size)) (F0 m 0 ls []) by rw [hHe, hLe] at hgo; exact hgo
  rw [← hHe] at hP
  have hS : va_S A s.heap H locs := by rw [hHe, hLe]; exact hS
  clear hHe hLe
  refine lv_aload_n hx hb dX6_edge_0 rfl (lv_at hl 0 rfl) ?_
  refine lv_iload_n hx hb dX6_edge_1 rfl (lv_at hl 1 rfl) ?_
  refine z_rVr (q0 := 0) (ci := 6) (b := b0) (rest := []) hC hK hP (c_X6_neededMake l G b0 b1 g0 e0 f0 w0 u0 mc rn ll MK x m0 (by omega) (hmk)) mv_X6_neededMake tw_591 [0, 1] rfl rfl rfl rfl hl.1 rfl (Nat.le_of_ble_eq_true rfl) ⟨rfl, rfl, Nat.le_of_ble_eq_true rfl, Nat.le_of_ble_eq_true rfl⟩ ⟨Nat.le_of_ble_eq_true rfl, Nat.le_of_ble_eq_true rfl⟩ dX6_edge_2 ?_
  refine lv_astore (lv' := [(6, .ref m0), (0, .ref b0), (1, vI x), (2, vI y), (3, vI z), (4, vI w), (5, vI t0)]) hx hb dX6_edge_5 hl (by decide) rfl (fun ls hl => ?_)
  refine lv_iload_n hx hb dX6_edge_7 rfl (lv_at hl 3 rfl) ?_
  refine z_rSi (rest := []) hC hK hP (c_X6_isState l G y (by omega)) ms_X6_isState tw_611 [] rfl rfl hl.1 rfl (Nat.le_of_ble_eq_true rfl) ⟨rfl, rfl, Nat.le_of_ble_eq_true rfl, Nat.le_of_ble_eq_true rfl⟩ ⟨Nat.le_of_ble_eq_true rfl, Nat.le_of_ble_eq_true rfl⟩ dX6_edge_8 ?_
  refine z_top (y := 1) (if_pos (by omega)) ?_
  refine z_if_eq (tgt := 22) hx hb dX6_edge_11 (by decide) (by omega) (fun c_11 => ?_) (fun c_11 => ?_)
  · exact absurd c_11 (by decide)
  · refine lv_iload hx hb dX6_edge_14 (lv_at hl 6 rfl) ?_
    refine z_rSi (rest := []) hC hK hP (c_X6_isState l G t0 (by omega)) ms_X6_isState tw_611 [] rfl rfl hl.1 rfl (Nat.le_of_ble_eq_true rfl) ⟨rfl, rfl, Nat.le_of_ble_eq_true rfl, Nat.le_of_ble_eq_true rfl⟩ ⟨Nat.le_of_ble_eq_true rfl, Nat.le_of_ble_eq_true rfl⟩ dX6_edge_16 ?_
    refine z_top (y := 1) (if_pos (by omega)) ?_
    refine z_if_ne (tgt := 32) hx hb dX6_edge_19 (by decide) (by omega) (fun c_19 => ?_) (fun c_19 => ?_)
    · refine lv_iload_n hx hb dX6_edge_32 rfl (lv_at hl 4 rfl) ?_
      refine z_rSi (rest := []) hC hK hP (c_X6_isByte l G z (by omega)) ms_X6_isByte tw_471 [] rfl rfl hl.1 rfl (Nat.le_of_ble_eq_true rfl) ⟨rfl, rfl, Nat.le_of_ble_eq_true rfl, Nat.le_of_ble_eq_true rfl⟩ ⟨Nat.le_of_ble_eq_true rfl, Nat.le_of_ble_eq_true rfl⟩ dX6_edge_33 ?_
      refine z_top (y := 1) (if_pos (by omega)) ?_
      refine z_if_eq (tgt := 53) hx hb dX6_edge_36 (by decide) (by omega) (fun c_36 => ?_) (fun c_36 => ?_)
      · exact absurd c_36 (by decide)
      · refine lv_iload hx hb dX6_edge_39 (lv_at hl 5 rfl) ?_
        refine z_rSi (rest := []) hC hK hP (c_X6_isByte l G w (by omega)) ms_X6_isByte tw_471 [] rfl rfl hl.1 rfl (Nat.le_of_ble_eq_true rfl) ⟨rfl, rfl, Nat.le_of_ble_eq_true rfl, Nat.le_of_ble_eq_true rfl⟩ ⟨Nat.le_of_ble_eq_true rfl, Nat.le_of_ble_eq_true rfl⟩ dX6_edge_41 ?_
        refine z_top (y := 1) (if_pos (by omega)) ?_
        refine z_if_eq (tgt := 53) hx hb dX6_edge_44 (by decide) (by omega) (fun c_44 => ?_) (fun c_44 => ?_)
        · exact absurd c_44 (by decide)
        · refine lv_iload_n hx hb dX6_edge_47 rfl (lv_at hl 4 rfl) ?_
          refine lv_iload hx hb dX6_edge_48 (lv_at hl 5 rfl) ?_
          refine z_icmp_le (tgt := 63) hx hb dX6_edge_50 (by decide) (by omega) (fun c_50 => ?_) (fun c_50 => ?_)
          · refine lv_aload hx hb dX6_edge_63 (lv_at hl 0 rfl) ?_
            refine z_rVi (q0 := 2) (ci := 4) (b := m0) (rest := []) hC hK hP (c_X4_edgeCount l G m0 m1 a1 a2 kd gl ed T) mv_X4_edgeCount tw_616 [2, 3] rfl rfl rfl rfl hl.1 rfl (Nat.le_of_ble_eq_true rfl) ⟨rfl, rfl, Nat.le_of_ble_eq_true rfl, Nat.le_of_ble_eq_true rfl⟩ ⟨Nat.le_of_ble_eq_true rfl, Nat.le_of_ble_eq_true rfl⟩ dX6_edge_65 ?_
            refine lv_bipush (v := iI 40) hx hb dX6_edge_68 (by decide) ?_
            refine z_icmp_lt (tgt := 83) hx hb dX6_edge_70 (by decide) (by omega) (fun c_70 => ?_) (fun c_70 => ?_)
            · exfalso; omega
            · exact z_thrS (rest := []) (is := 100) (text := "there are 40 edges") hst hC hnx hTt hX hP hD hS hl.1 hlk (by decide) dX6_edge_73 dX6_edge_76 dX6_edge_77 dX6_edge_79 dX6_edge_82 hAe (Nat.le_of_ble_eq_true rfl) (Nat.le_of_ble_eq_true rfl) (Nat.le_of_ble_eq_true rfl) (Nat.le_of_ble_eq_true rfl) (Nat.le_of_ble_eq_true rfl) (Nat.le_of_ble_eq_true rfl)
          · exfalso; omega
    · exact absurd c_19 (by decide)

set_option maxRecDepth 100000 in
set_option maxHeartbeats 4000000 in
theorem c_X6_goals_1 (l : Launch) (hst : l.stackTraces = false) (G : zGt) (sz : Nat) (b0 b1 g0 e0 f0 w0 u0 : Nat) (mc rn ll : Int) (MK : Int → Option Nat) (x y : Int) (hx : -2147483648 ≤ x ∧ x < 2147483648) (hmk0 : 0 ≤ x ∧ x < 6 → MK x = none) : vx_Met l yX6_goals (Cond.code yX6_goals cX6_goals 4 (some .int) :: tb) ({ frames := 7, cells := 1, slots := 6, locals := 104 } : Room) (zPx G [(b0, ob 6 [.ref b1, vI mc, .ref g0, .ref e0, vI rn, .ref f0, .ref w0, .ref u0, vI ll]), (b1, aR G 6 MK)] sz [.ref b0, vI x, vI y]) zFl (zXQ G [(b0, ob 6 [.ref b1, vI mc, .ref g0, .ref e0, vI rn, .ref f0, .ref w0, .ref u0, vI ll]), (b1, aR G 6 MK)] sz XI) 1 6 (va_A [(b0, ob 6 [.ref b1, vI mc, .ref g0, .ref e0, vI rn, .ref f0, .ref w0, .ref u0, vI ll]), (b1, aR G 6 MK)] sz) := by
  refine vx_ofW (cc := cX6_goals) (maxL := 4) (ret := (some .int)) (by decide) rfl ?_
  intro p e s m args below meth c s₁ B hml hnx hv
  obtain ⟨rfl, hsz, hP, hK, hD0, hTt, hX⟩ := hv
  subst hsz
  have hD := hD0.self (sz := s.heap.size)
  obtain ⟨A, hAe⟩ : ∃ A : Nat → Prop, A = va_A [(b0, ob 6 [.ref b1, vI mc, .ref g0, .ref e0, vI rn, .ref f0, .ref w0, .ref u0, vI ll]), (b1, aR G 6 MK)] s.heap.size := ⟨_, rfl⟩
  rw [← hAe] at hD hX
  have hA : ∀ q : Nat, s.heap.size ≤ q → A q := fun q h => by rw [hAe]; exact Or.inr h
  have hS : va_S A s.heap s.heap [] := va_S.rf
  obtain ⟨hC, hr, hlk⟩ := z_begin B hml
  have hC : CallFix p m c cX6_goals 4 s _ tb RX6 := hC
  have hx := hC.1
  have hb := hC.2.1
  have hl := lv_entry ([.ref b0, vI x, vI y]) (n := 4) (Nat.le_of_ble_eq_true rfl)
  rw [lg_entry_eq]
  generalize (lg_sl ([.ref b0, vI x, vI y]) ++ List.replicate (4 - (lg_sl ([.ref b0, vI x, vI y])).length) Slot.unset).toArray = ls at hl ⊢
  have hl : lv_has ls 4 [(0, .ref b0), (1, vI x), (2, vI y)] := hl
  obtain ⟨H, hHe⟩ : ∃ H : Heap, H = s.heap := ⟨_, rfl⟩
  obtain ⟨locs, hLe⟩ : ∃ L : List Loc, L = [] := ⟨_, rfl⟩
  suffices hgo : W p l e (headSpec (Cond.code yX6_goals cX6_goals 4 (some .int) :: tb) ({ frames := 7, cells := 1, slots := 6, locals := 104 } : Room)).room s m ([.ref b0, vI x, vI y] : List Value).toArray below meth c H locs 0 0 (vx_MQ below zFl (zXQ G [(b0, ob 6 [.ref b1, vI mc, .ref g0, .ref e0, vI rn, .ref f0, .ref w0, .ref u0, vI ll]), (b1, aR G 6 MK)] s.heap.size XI) ([.ref b0, vI x, vI y] : List Value).toArray s 1 6 (va_A [(b0, ob 6 [.ref b1, vI mc, .ref g0, .ref e0, vI rn, .ref f0, .ref w0, .ref u0, vI ll]), (b1, aR G 6 MK)] s.heap.size)) (F0 m 0 ls []) by rw [hHe, hLe] at hgo; exact hgo
  rw [← hHe] at hP
  have hS : va_S A s.heap H locs := by rw [hHe, hLe]; exact hS
  clear hHe hLe
  refine lv_aload_n hx hb dX6_goals_0 rfl (lv_at hl 0 rfl) ?_
  refine lv_iload_n hx hb dX6_goals_1 rfl (lv_at hl 1 rfl) ?_
  exact z_xV (q0 := 0) (ci := 6) (b := b0) (rest := []) (wr := []) (w1 := [(b0, ob 6 [.ref b1, vI mc, .ref g0, .ref e0, vI rn, .ref f0, .ref w0, .ref u0, vI ll]), (b1, aR G 6 MK)]) hC hK hTt hX hnx hP hD hS hA hlk (c_X6_neededMake_x l hst G H.size b0 b1 g0 e0 f0 w0 u0 mc rn ll MK x (by omega) (hmk0)) mv_X6_neededMake tw_591 [0, 1] [] rfl rfl rfl rfl (by decide) rfl rfl rfl rfl hl.1 rfl (Nat.le_of_ble_eq_true rfl) ⟨rfl, rfl, (Nat.le_of_ble_eq_true rfl), (Nat.le_of_ble_eq_true rfl)⟩ ⟨(Nat.le_of_ble_eq_true rfl), (Nat.le_of_ble_eq_true rfl)⟩ ⟨(Nat.le_of_ble_eq_true rfl), (Nat.le_of_ble_eq_true rfl)⟩ hAe [0, 1] rfl (by decide) rfl dX6_goals_2

set_option maxRecDepth 100000 in
set_option maxHeartbeats 4000000 in
theorem c_X6_goals_2 (l : Launch) (hst : l.stackTraces = false) (G : zGt) (sz : Nat) (b0 b1 g0 e0 f0 w0 u0 : Nat) (mc rn ll : Int) (MK : Int → Option Nat) (m0 m1 : Nat) (a1 a2 kd gl ed : Int) (T : Int → Int) (x y : Int) (hx0 : 0 ≤ x ∧ x < 6) (hmk : MK x = some m0) (hy : -2147483648 ≤ y ∧ y < 2147483648) (hno : ¬ (0 ≤ y ∧ y < 65536)) : vx_Met l yX6_goals (Cond.code yX6_goals cX6_goals 4 (some .int) :: tb) ({ frames := 6, cells := 1, slots := 6, locals := 82 } : Room) (zPx G [(b0, ob 6 [.ref b1, vI mc, .ref g0, .ref e0, vI rn, .ref f0, .ref w0, .ref u0, vI ll]), (b1, aR G 6 MK), (m0, ob 4 [vI a1, vI a2, vI kd, vI gl, vI ed, .ref m1]), (m1, aI G 4096 T)] sz [.ref b0, vI x, vI y]) zFl (zXQ G [(b0, ob 6 [.ref b1, vI mc, .ref g0, .ref e0, vI rn, .ref f0, .ref w0, .ref u0, vI ll]), (b1, aR G 6 MK), (m0, ob 4 [vI a1, vI a2, vI kd, vI gl, vI ed, .ref m1]), (m1, aI G 4096 T)] sz XA) 1 6 (va_A [(b0, ob 6 [.ref b1, vI mc, .ref g0, .ref e0, vI rn, .ref f0, .ref w0, .ref u0, vI ll]), (b1, aR G 6 MK), (m0, ob 4 [vI a1, vI a2, vI kd, vI gl, vI ed, .ref m1]), (m1, aI G 4096 T)] sz) := by
  refine vx_ofW (cc := cX6_goals) (maxL := 4) (ret := (some .int)) (by decide) rfl ?_
  intro p e s m args below meth c s₁ B hml hnx hv
  obtain ⟨rfl, hsz, hP, hK, hD0, hTt, hX⟩ := hv
  subst hsz
  have hD := hD0.self (sz := s.heap.size)
  obtain ⟨A, hAe⟩ : ∃ A : Nat → Prop, A = va_A [(b0, ob 6 [.ref b1, vI mc, .ref g0, .ref e0, vI rn, .ref f0, .ref w0, .ref u0, vI ll]), (b1, aR G 6 MK), (m0, ob 4 [vI a1, vI a2, vI kd, vI gl, vI ed, .ref m1]), (m1, aI G 4096 T)] s.heap.size := ⟨_, rfl⟩
  rw [← hAe] at hD hX
  have hA : ∀ q : Nat, s.heap.size ≤ q → A q := fun q h => by rw [hAe]; exact Or.inr h
  have hS : va_S A s.heap s.heap [] := va_S.rf
  obtain ⟨hC, hr, hlk⟩ := z_begin B hml
  have hC : CallFix p m c cX6_goals 4 s _ tb RX6 := hC
  have hx := hC.1
  have hb := hC.2.1
  have hl := lv_entry ([.ref b0, vI x, vI y]) (n := 4) (Nat.le_of_ble_eq_true rfl)
  rw [lg_entry_eq]
  generalize (lg_sl ([.ref b0, vI x, vI y]) ++ List.replicate (4 - (lg_sl ([.ref b0, vI x, vI y])).length) Slot.unset).toArray = ls at hl ⊢
  have hl : lv_has ls 4 [(0, .ref b0), (1, vI x), (2, vI y)] := hl
  obtain ⟨H, hHe⟩ : ∃ H : Heap, H = s.heap := ⟨_, rfl⟩
  obtain ⟨locs, hLe⟩ : ∃ L : List Loc, L = [] := ⟨_, rfl⟩
  suffices hgo : W p l e (headSpec (Cond.code yX6_goals cX6_goals 4 (some .int) :: tb) ({ frames := 6, cells := 1, slots := 6, locals := 82 } : Room)).room s m ([.ref b0, vI x, vI y] : List Value).toArray below meth c H locs 0 0 (vx_MQ below zFl (zXQ G [(b0, ob 6 [.ref b1, vI mc, .ref g0, .ref e0, vI rn, .ref f0, .ref w0, .ref u0, vI ll]), (b1, aR G 6 MK), (m0, ob 4 [vI a1, vI a2, vI kd, vI gl, vI ed, .ref m1]), (m1, aI G 4096 T)] s.heap.size XA) ([.ref b0, vI x, vI y] : List Value).toArray s 1 6 (va_A [(b0, ob 6 [.ref b1, vI mc, .ref g0, .ref e0, vI rn, .ref f0, .ref w0, .ref u0, vI ll]), (b1, aR G 6 MK), (m0, ob 4 [vI a1, vI a2, vI kd, vI gl, vI ed, .ref m1]), (m1, aI G 4096 T)] s.heap.size)) (F0 m 0 ls []) by rw [hHe, hLe] at hgo; exact hgo
  rw [← hHe] at hP
  have hS : va_S A s.heap H locs := by rw [hHe, hLe]; exact hS
  clear hHe hLe
  refine lv_aload_n hx hb dX6_goals_0 rfl (lv_at hl 0 rfl) ?_
  refine lv_iload_n hx hb dX6_goals_1 rfl (lv_at hl 1 rfl) ?_
  refine z_rVr (q0 := 0) (ci := 6) (b := b0) (rest := []) hC hK hP (c_X6_neededMake l G b0 b1 g0 e0 f0 w0 u0 mc rn ll MK x m0 (by omega) (hmk)) mv_X6_neededMake tw_591 [0, 1] rfl rfl rfl rfl hl.1 rfl (Nat.le_of_ble_eq_true rfl) ⟨rfl, rfl, Nat.le_of_ble_eq_true rfl, Nat.le_of_ble_eq_true rfl⟩ ⟨Nat.le_of_ble_eq_true rfl, Nat.le_of_ble_eq_true rfl⟩ dX6_goals_2 ?_
  refine lv_astore_n (lv' := [(3, .ref m0), (0, .ref b0), (1, vI x), (2, vI y)]) hx hb dX6_goals_5 rfl hl (by decide) rfl (fun ls hl => ?_)
  refine lv_iload_n hx hb dX6_goals_6 rfl (lv_at hl 3 rfl) ?_
  refine z_if_lt (tgt := 16) hx hb dX6_goals_7 (by decide) (by omega) (fun c_7 => ?_) (fun c_7 => ?_)
  · exact z_thrA (rest := []) (is := 107) (text := "goals are not 0 to 65,535") hst hC hnx hTt hX hP hD hS hl.1 hlk (by decide) dX6_goals_16 dX6_goals_19 dX6_goals_20 dX6_goals_22 dX6_goals_25 hAe (Nat.le_of_ble_eq_true rfl) (Nat.le_of_ble_eq_true rfl) (Nat.le_of_ble_eq_true rfl) (Nat.le_of_ble_eq_true rfl) (Nat.le_of_ble_eq_true rfl) (Nat.le_of_ble_eq_true rfl)
  · refine lv_iload_n hx hb dX6_goals_10 rfl (lv_at hl 3 rfl) ?_
    refine lv_ldc (v := iI 65535) hx hb hC.2.2.2.1 (hC.2.2.2.2 _ tw_632) dX6_goals_11 ?_
    refine z_icmp_le (tgt := 26) hx hb dX6_goals_13 (by decide) (by omega) (fun c_13 => ?_) (fun c_13 => ?_)
    · exfalso; omega
    · exact z_thrA (rest := []) (is := 107) (text := "goals are not 0 to 65,535") hst hC hnx hTt hX hP hD hS hl.1 hlk (by decide) dX6_goals_16 dX6_goals_19 dX6_goals_20 dX6_goals_22 dX6_goals_25 hAe (Nat.le_of_ble_eq_true rfl) (Nat.le_of_ble_eq_true rfl) (Nat.le_of_ble_eq_true rfl) (Nat.le_of_ble_eq_true rfl) (Nat.le_of_ble_eq_true rfl) (Nat.le_of_ble_eq_true rfl)

set_option maxRecDepth 100000 in
set_option maxHeartbeats 4000000 in
theorem c_X6_change_1 (l : Launch) (hst : l.stackTraces = false) (G : zGt) (sz : Nat) (b0 b1 g0 e0 f0 w0 u0 : Nat) (mc rn ll : Int) (g1 : Nat) (nb : Int) (dk : Int → Int64) (x : Int) (v : Int64) (hnb : 0 ≤ nb ∧ nb ≤ 24) (hx : -2147483648 ≤ x ∧ x < 2147483648) (hno : ¬ (0 ≤ x ∧ x < nb)) : vx_Met l yX6_change (Cond.code yX6_change cX6_change 4 (some .long) :: tb) ({ frames := 7, cells := 1, slots := 6, locals := 103 } : Room) (zPx G [(b0, ob 6 [.ref b1, vI mc, .ref g0, .ref e0, vI rn, .ref f0, .ref w0, .ref u0, vI ll]), (g0, ob 1 [.ref g1, vI nb]), (g1, aJ G 24 dk)] sz [.ref b0, vI x, .long v]) zFl (zXQ G [(b0, ob 6 [.ref b1, vI mc, .ref g0, .ref e0, vI rn, .ref f0, .ref w0, .ref u0, vI ll]), (g0, ob 1 [.ref g1, vI nb]), (g1, aJ G 24 dk)] sz XI) 1 6 (va_A [(b0, ob 6 [.ref b1, vI mc, .ref g0, .ref e0, vI rn, .ref f0, .ref w0, .ref u0, vI ll]), (g0, ob 1 [.ref g1, vI nb]), (g1, aJ G 24 dk)] sz) := by
  refine vx_ofW (cc := cX6_change) (maxL := 4) (ret := (some .long)) (by decide) rfl ?_
  intro p e s m args below meth c s₁ B hml hnx hv
  obtain ⟨rfl, hsz, hP, hK, hD0, hTt, hX⟩ := hv
  subst hsz
  have hD := hD0.self (sz := s.heap.size)
  obtain ⟨A, hAe⟩ : ∃ A : Nat → Prop, A = va_A [(b0, ob 6 [.ref b1, vI mc, .ref g0, .ref e0, vI rn, .ref f0, .ref w0, .ref u0, vI ll]), (g0, ob 1 [.ref g1, vI nb]), (g1, aJ G 24 dk)] s.heap.size := ⟨_, rfl⟩
  rw [← hAe] at hD hX
  have hA : ∀ q : Nat, s.heap.size ≤ q → A q := fun q h => by rw [hAe]; exact Or.inr h
  have hS : va_S A s.heap s.heap [] := va_S.rf
  obtain ⟨hC, hr, hlk⟩ := z_begin B hml
  have hC : CallFix p m c cX6_change 4 s _ tb RX6 := hC
  have hx := hC.1
  have hb := hC.2.1
  have hl := lv_entry ([.ref b0, vI x, .long v]) (n := 4) (Nat.le_of_ble_eq_true rfl)
  rw [lg_entry_eq]
  generalize (lg_sl ([.ref b0, vI x, .long v]) ++ List.replicate (4 - (lg_sl ([.ref b0, vI x, .long v])).length) Slot.unset).toArray = ls at hl ⊢
  have hl : lv_has ls 4 [(0, .ref b0), (1, vI x), (2, .long v)] := hl
  obtain ⟨H, hHe⟩ : ∃ H : Heap, H = s.heap := ⟨_, rfl⟩
  obtain ⟨locs, hLe⟩ : ∃ L : List Loc, L = [] := ⟨_, rfl⟩
  suffices hgo : W p l e (headSpec (Cond.code yX6_change cX6_change 4 (some .long) :: tb) ({ frames := 7, cells := 1, slots := 6, locals := 103 } : Room)).room s m ([.ref b0, vI x, .long v] : List Value).toArray below meth c H locs 0 0 (vx_MQ below zFl (zXQ G [(b0, ob 6 [.ref b1, vI mc, .ref g0, .ref e0, vI rn, .ref f0, .ref w0, .ref u0, vI ll]), (g0, ob 1 [.ref g1, vI nb]), (g1, aJ G 24 dk)] s.heap.size XI) ([.ref b0, vI x, .long v] : List Value).toArray s 1 6 (va_A [(b0, ob 6 [.ref b1, vI mc, .ref g0, .ref e0, vI rn, .ref f0, .ref w0, .ref u0, vI ll]), (g0, ob 1 [.ref g1, vI nb]), (g1, aJ G 24 dk)] s.heap.size)) (F0 m 0 ls []) by rw [hHe, hLe] at hgo; exact hgo
  rw [← hHe] at hP
  have hS : va_S A s.heap H locs := by rw [hHe, hLe]; exact hS
  clear hHe hLe
  refine lv_aload_n hx hb dX6_change_0 rfl (lv_at hl 0 rfl) ?_
  refine z_get (v := .ref g0) hC hK hP inX6 rfl 0 rfl 2 (by decide) tw_200 rfl dX6_change_1 ?_
  refine lv_aload_n hx hb dX6_change_4 rfl (lv_at hl 0 rfl) ?_
  refine lv_iload_n hx hb dX6_change_5 rfl (lv_at hl 1 rfl) ?_
  exact z_xV (q0 := 0) (ci := 6) (b := b0) (rest := [.ref g0]) (wr := []) (w1 := [(b0, ob 6 [.ref b1, vI mc, .ref g0, .ref e0, vI rn, .ref f0, .ref w0, .ref u0, vI ll]), (g0, ob 1 [.ref g1, vI nb]), (g1, aJ G 24 dk)]) hC hK hTt hX hnx hP hD hS hA hlk (c_X6_neededBlock_x l hst G H.size b0 b1 g0 e0 f0 w0 u0 mc rn ll g1 nb dk x (by omega) (by omega) (hno)) mv_X6_neededBlock tw_645 [0, 1, 2] [] rfl rfl rfl rfl (by decide) rfl rfl rfl rfl hl.1 rfl (Nat.le_of_ble_eq_true rfl) ⟨rfl, rfl, (Nat.le_of_ble_eq_true rfl), (Nat.le_of_ble_eq_true rfl)⟩ ⟨(Nat.le_of_ble_eq_true rfl), (Nat.le_of_ble_eq_true rfl)⟩ ⟨(Nat.le_of_ble_eq_true rfl), (Nat.le_of_ble_eq_true rfl)⟩ hAe [0, 1, 2] rfl (by decide) rfl dX6_change_6

set_option maxRecDepth 100000 in
set_option maxHeartbeats 4000000 in
theorem c_X6_bytes_1 (l : Launch) (hst : l.stackTraces = false) (G : zGt) (sz : Nat) (b0 b1 g0 e0 f0 w0 u0 : Nat) (mc rn ll : Int) (g1 : Nat) (nb : Int) (dk : Int → Int64) (x : Int) (hnb : 0 ≤ nb ∧ nb ≤ 24) (hx : -2147483648 ≤ x ∧ x < 2147483648) (hno : ¬ (0 ≤ x ∧ x < nb)) : vx_Met l yX6_bytes (Cond.code yX6_bytes cX6_bytes 2 (some .long) :: tb) ({ frames := 7, cells := 1, slots := 6, locals := 103 } : Room) (zPx G [(b0, ob 6 [.ref b1, vI mc, .ref g0, .ref e0, vI rn, .ref f0, .ref w0, .ref u0, vI ll]), (g0, ob 1 [.ref g1, vI nb]), (g1, aJ G 24 dk)] sz [.ref b0, vI x]) zFl (zXQ G [(b0, ob 6 [.ref b1, vI mc, .ref g0, .ref e0, vI rn, .ref f0, .ref w0, .ref u0, vI ll]), (g0, ob 1 [.ref g1, vI nb]), (g1, aJ G 24 dk)] sz XI) 1 6 (va_A [(b0, ob 6 [.ref b1, vI mc, .ref g0, .ref e0, vI rn, .ref f0, .ref w0, .ref u0, vI ll]), (g0, ob 1 [.ref g1, vI nb]), (g1, aJ G 24 dk)] sz) := by
  refine vx_ofW (cc := cX6_bytes) (maxL := 2) (ret := (some .long)) (by decide) rfl ?_
  intro p e s m args below meth c s₁ B hml hnx hv
  obtain ⟨rfl, hsz, hP, hK, hD0, hTt, hX⟩ := hv
  subst hsz
  have hD := hD0.self (sz := s.heap.size)
  obtain ⟨A, hAe⟩ : ∃ A : Nat → Prop, A = va_A [(b0, ob 6 [.ref b1, vI mc, .ref g0, .ref e0, vI rn, .ref f0, .ref w0, .ref u0, vI ll]), (g0, ob 1 [.ref g1, vI nb]), (g1, aJ G 24 dk)] s.heap.size := ⟨_, rfl⟩
  rw [← hAe] at hD hX
  have hA : ∀ q : Nat, s.heap.size ≤ q → A q := fun q h => by rw [hAe]; exact Or.inr h
  have hS : va_S A s.heap s.heap [] := va_S.rf
  obtain ⟨hC, hr, hlk⟩ := z_begin B hml
  have hC : CallFix p m c cX6_bytes 2 s _ tb RX6 := hC
  have hx := hC.1
  have hb := hC.2.1
  have hl := lv_entry ([.ref b0, vI x]) (n := 2) (Nat.le_of_ble_eq_true rfl)
  rw [lg_entry_eq]
  generalize (lg_sl ([.ref b0, vI x]) ++ List.replicate (2 - (lg_sl ([.ref b0, vI x])).length) Slot.unset).toArray = ls at hl ⊢
  have hl : lv_has ls 2 [(0, .ref b0), (1, vI x)] := hl
  obtain ⟨H, hHe⟩ : ∃ H : Heap, H = s.heap := ⟨_, rfl⟩
  obtain ⟨locs, hLe⟩ : ∃ L : List Loc, L = [] := ⟨_, rfl⟩
  suffices hgo : W p l e (headSpec (Cond.code yX6_bytes cX6_bytes 2 (some .long) :: tb) ({ frames := 7, cells := 1, slots := 6, locals := 103 } : Room)).room s m ([.ref b0, vI x] : List Value).toArray below meth c H locs 0 0 (vx_MQ below zFl (zXQ G [(b0, ob 6 [.ref b1, vI mc, .ref g0, .ref e0, vI rn, .ref f0, .ref w0, .ref u0, vI ll]), (g0, ob 1 [.ref g1, vI nb]), (g1, aJ G 24 dk)] s.heap.size XI) ([.ref b0, vI x] : List Value).toArray s 1 6 (va_A [(b0, ob 6 [.ref b1, vI mc, .ref g0, .ref e0, vI rn, .ref f0, .ref w0, .ref u0, vI ll]), (g0, ob 1 [.ref g1, vI nb]), (g1, aJ G 24 dk)] s.heap.size)) (F0 m 0 ls []) by rw [hHe, hLe] at hgo; exact hgo
  rw [← hHe] at hP
  have hS : va_S A s.heap H locs := by rw [hHe, hLe]; exact hS
  clear hHe hLe
  refine lv_aload_n hx hb dX6_bytes_0 rfl (lv_at hl 0 rfl) ?_
  refine z_get (v := .ref g0) hC hK hP inX6 rfl 0 rfl 2 (by decide) tw_200 rfl dX6_bytes_1 ?_
  refine lv_aload_n hx hb dX6_bytes_4 rfl (lv_at hl 0 rfl) ?_
  refine lv_iload_n hx hb dX6_bytes_5 rfl (lv_at hl 1 rfl) ?_
  exact z_xV (q0 := 0) (ci := 6) (b := b0) (rest := [.ref g0]) (wr := []) (w1 := [(b0, ob 6 [.ref b1, vI mc, .ref g0, .ref e0, vI rn, .ref f0, .ref w0, .ref u0, vI ll]), (g0, ob 1 [.ref g1, vI nb]), (g1, aJ G 24 dk)]) hC hK hTt hX hnx hP hD hS hA hlk (c_X6_neededBlock_x l hst G H.size b0 b1 g0 e0 f0 w0 u0 mc rn ll g1 nb dk x (by omega) (by omega) (hno)) mv_X6_neededBlock tw_645 [0, 1, 2] [] rfl rfl rfl rfl (by decide) rfl rfl rfl rfl hl.1 rfl (Nat.le_of_ble_eq_true rfl) ⟨rfl, rfl, (Nat.le_of_ble_eq_true rfl), (Nat.le_of_ble_eq_true rfl)⟩ ⟨(Nat.le_of_ble_eq_true rfl), (Nat.le_of_ble_eq_true rfl)⟩ ⟨(Nat.le_of_ble_eq_true rfl), (Nat.le_of_ble_eq_true rfl)⟩ hAe [0, 1, 2] rfl (by decide) rfl dX6_bytes_6

set_option maxRecDepth 100000 in
set_option maxHeartbeats 4000000 in
theorem c_X6_torn_1 (l : Launch) (hst : l.stackTraces = false) (G : zGt) (sz : Nat) (b0 b1 g0 e0 f0 w0 u0 : Nat) (mc rn ll : Int) (g1 : Nat) (nb : Int) (dk : Int → Int64) (x : Int) (hnb : 0 ≤ nb ∧ nb ≤ 24) (hx : -2147483648 ≤ x ∧ x < 2147483648) (hno : ¬ (0 ≤ x ∧ x < nb)) : vx_Met l yX6_torn (Cond.code yX6_torn cX6_torn 3 (some .int) :: tb) ({ frames := 7, cells := 1, slots := 6, locals := 103 } : Room) (zPx G [(b0, ob 6 [.ref b1, vI mc, .ref g0, .ref e0, vI rn, .ref f0, .ref w0, .ref u0, vI ll]), (g0, ob 1 [.ref g1, vI nb]), (g1, aJ G 24 dk)] sz [.ref b0, vI x]) zFl (zXQ G [(b0, ob 6 [.ref b1, vI mc, .ref g0, .ref e0, vI rn, .ref f0, .ref w0, .ref u0, vI ll]), (g0, ob 1 [.ref g1, vI nb]), (g1, aJ G 24 dk)] sz XI) 1 6 (va_A [(b0, ob 6 [.ref b1, vI mc, .ref g0, .ref e0, vI rn, .ref f0, .ref w0, .ref u0, vI ll]), (g0, ob 1 [.ref g1, vI nb]), (g1, aJ G 24 dk)] sz) := by
  refine vx_ofW (cc := cX6_torn) (maxL := 3) (ret := (some .int)) (by decide) rfl ?_
  intro p e s m args below meth c s₁ B hml hnx hv
  obtain ⟨rfl, hsz, hP, hK, hD0, hTt, hX⟩ := hv
  subst hsz
  have hD := hD0.self (sz := s.heap.size)
  obtain ⟨A, hAe⟩ : ∃ A : Nat → Prop, A = va_A [(b0, ob 6 [.ref b1, vI mc, .ref g0, .ref e0, vI rn, .ref f0, .ref w0, .ref u0, vI ll]), (g0, ob 1 [.ref g1, vI nb]), (g1, aJ G 24 dk)] s.heap.size := ⟨_, rfl⟩
  rw [← hAe] at hD hX
  have hA : ∀ q : Nat, s.heap.size ≤ q → A q := fun q h => by rw [hAe]; exact Or.inr h
  have hS : va_S A s.heap s.heap [] := va_S.rf
  obtain ⟨hC, hr, hlk⟩ := z_begin B hml
  have hC : CallFix p m c cX6_torn 3 s _ tb RX6 := hC
  have hx := hC.1
  have hb := hC.2.1
  have hl := lv_entry ([.ref b0, vI x]) (n := 3) (Nat.le_of_ble_eq_true rfl)
  rw [lg_entry_eq]
  generalize (lg_sl ([.ref b0, vI x]) ++ List.replicate (3 - (lg_sl ([.ref b0, vI x])).length) Slot.unset).toArray = ls at hl ⊢
  have hl : lv_has ls 3 [(0, .ref b0), (1, vI x)] := hl
  obtain ⟨H, hHe⟩ : ∃ H : Heap, H = s.heap := ⟨_, rfl⟩
  obtain ⟨locs, hLe⟩ : ∃ L : List Loc, L = [] := ⟨_, rfl⟩
  suffices hgo : W p l e (headSpec (Cond.code yX6_torn cX6_torn 3 (some .int) :: tb) ({ frames := 7, cells := 1, slots := 6, locals := 103 } : Room)).room s m ([.ref b0, vI x] : List Value).toArray below meth c H locs 0 0 (vx_MQ below zFl (zXQ G [(b0, ob 6 [.ref b1, vI mc, .ref g0, .ref e0, vI rn, .ref f0, .ref w0, .ref u0, vI ll]), (g0, ob 1 [.ref g1, vI nb]), (g1, aJ G 24 dk)] s.heap.size XI) ([.ref b0, vI x] : List Value).toArray s 1 6 (va_A [(b0, ob 6 [.ref b1, vI mc, .ref g0, .ref e0, vI rn, .ref f0, .ref w0, .ref u0, vI ll]), (g0, ob 1 [.ref g1, vI nb]), (g1, aJ G 24 dk)] s.heap.size)) (F0 m 0 ls []) by rw [hHe, hLe] at hgo; exact hgo
  rw [← hHe] at hP
  have hS : va_S A s.heap H locs := by rw [hHe, hLe]; exact hS
  clear hHe hLe
  refine lv_aload_n hx hb dX6_torn_0 rfl (lv_at hl 0 rfl) ?_
  refine lv_iload_n hx hb dX6_torn_1 rfl (lv_at hl 1 rfl) ?_
  exact z_xV (q0 := 0) (ci := 6) (b := b0) (rest := []) (wr := []) (w1 := [(b0, ob 6 [.ref b1, vI mc, .ref g0, .ref e0, vI rn, .ref f0, .ref w0, .ref u0, vI ll]), (g0, ob 1 [.ref g1, vI nb]), (g1, aJ G 24 dk)]) hC hK hTt hX hnx hP hD hS hA hlk (c_X6_neededBlock_x l hst G H.size b0 b1 g0 e0 f0 w0 u0 mc rn ll g1 nb dk x (by omega) (by omega) (hno)) mv_X6_neededBlock tw_645 [0, 1, 2] [] rfl rfl rfl rfl (by decide) rfl rfl rfl rfl hl.1 rfl (Nat.le_of_ble_eq_true rfl) ⟨rfl, rfl, (Nat.le_of_ble_eq_true rfl), (Nat.le_of_ble_eq_true rfl)⟩ ⟨(Nat.le_of_ble_eq_true rfl), (Nat.le_of_ble_eq_true rfl)⟩ ⟨(Nat.le_of_ble_eq_true rfl), (Nat.le_of_ble_eq_true rfl)⟩ hAe [0, 1, 2] rfl (by decide) rfl dX6_torn_2

set_option maxRecDepth 100000 in
set_option maxHeartbeats 4000000 in
theorem c_X6_reach_1 (l : Launch) (hst : l.stackTraces = false) (G : zGt) (sz : Nat) (b0 b1 g0 e0 f0 w0 u0 : Nat) (mc rn ll : Int) (x : Int) (hx : -2147483648 ≤ x ∧ x < 2147483648) (hno : ¬ (1 ≤ x ∧ x ≤ 23)) : vx_Met l yX6_reach (Cond.code yX6_reach cX6_reach 3 (some .int) :: tb) ({ frames := 6, cells := 1, slots := 6, locals := 82 } : Room) (zPx G [(b0, ob 6 [.ref b1, vI mc, .ref g0, .ref e0, vI rn, .ref f0, .ref w0, .ref u0, vI ll])] sz [.ref b0, vI x]) zFl (zXQ G [(b0, ob 6 [.ref b1, vI mc, .ref g0, .ref e0, vI rn, .ref f0, .ref w0, .ref u0, vI ll])] sz XA) 1 6 (va_A [(b0, ob 6 [.ref b1, vI mc, .ref g0, .ref e0, vI rn, .ref f0, .ref w0, .ref u0, vI ll])] sz) := by
  refine vx_ofW (cc := cX6_reach) (maxL := 3) (ret := (some .int)) (by decide) rfl ?_
  intro p e s m args below meth c s₁ B hml hnx hv
  obtain ⟨rfl, hsz, hP, hK, hD0, hTt, hX⟩ := hv
  subst hsz
  have hD := hD0.self (sz := s.heap.size)
  obtain ⟨A, hAe⟩ : ∃ A : Nat → Prop, A = va_A [(b0, ob 6 [.ref b1, vI mc, .ref g0, .ref e0, vI rn, .ref f0, .ref w0, .ref u0, vI ll])] s.heap.size := ⟨_, rfl⟩
  rw [← hAe] at hD hX
  have hA : ∀ q : Nat, s.heap.size ≤ q → A q := fun q h => by rw [hAe]; exact Or.inr h
  have hS : va_S A s.heap s.heap [] := va_S.rf
  obtain ⟨hC, hr, hlk⟩ := z_begin B hml
  have hC : CallFix p m c cX6_reach 3 s _ tb RX6 := hC
  have hx := hC.1
  have hb := hC.2.1
  have hl := lv_entry ([.ref b0, vI x]) (n := 3) (Nat.le_of_ble_eq_true rfl)
  rw [lg_entry_eq]
  generalize (lg_sl ([.ref b0, vI x]) ++ List.replicate (3 - (lg_sl ([.ref b0, vI x])).length) Slot.unset).toArray = ls at hl ⊢
  have hl : lv_has ls 3 [(0, .ref b0), (1, vI x)] := hl
  obtain ⟨H, hHe⟩ : ∃ H : Heap, H = s.heap := ⟨_, rfl⟩
  obtain ⟨locs, hLe⟩ : ∃ L : List Loc, L = [] := ⟨_, rfl⟩
  suffices hgo : W p l e (headSpec (Cond.code yX6_reach cX6_reach 3 (some .int) :: tb) ({ frames := 6, cells := 1, slots := 6, locals := 82 } : Room)).room s m ([.ref b0, vI x] : List Value).toArray below meth c H locs 0 0 (vx_MQ below zFl (zXQ G [(b0, ob 6 [.ref b1, vI mc, .ref g0, .ref e0, vI rn, .ref f0, .ref w0, .ref u0, vI ll])] s.heap.size XA) ([.ref b0, vI x] : List Value).toArray s 1 6 (va_A [(b0, ob 6 [.ref b1, vI mc, .ref g0, .ref e0, vI rn, .ref f0, .ref w0, .ref u0, vI ll])] s.heap.size)) (F0 m 0 ls []) by rw [hHe, hLe] at hgo; exact hgo
  rw [← hHe] at hP
  have hS : va_S A s.heap H locs := by rw [hHe, hLe]; exact hS
  clear hHe hLe
  refine lv_iload_n hx hb dX6_reach_0 rfl (lv_at hl 1 rfl) ?_
  refine lv_iconst (v := iI 1) hx hb dX6_reach_1 rfl ?_
  refine z_icmp_lt (tgt := 11) hx hb dX6_reach_2 (by decide) (by omega) (fun c_2 => ?_) (fun c_2 => ?_)
  · exact z_thrA (rest := []) (is := 128) (text := "reach is not 1 to 23") hst hC hnx hTt hX hP hD hS hl.1 hlk (by decide) dX6_reach_11 dX6_reach_14 dX6_reach_15 dX6_reach_17 dX6_reach_20 hAe (Nat.le_of_ble_eq_true rfl) (Nat.le_of_ble_eq_true rfl) (Nat.le_of_ble_eq_true rfl) (Nat.le_of_ble_eq_true rfl) (Nat.le_of_ble_eq_true rfl) (Nat.le_of_ble_eq_true rfl)
  · refine lv_iload_n hx hb dX6_reach_5 rfl (lv_at hl 1 rfl) ?_
    refine lv_bipush (v := iI 23) hx hb dX6_reach_6 (by decide) ?_
    refine z_icmp_le (tgt := 21) hx hb dX6_reach_8 (by decide) (by omega) (fun c_8 => ?_) (fun c_8 => ?_)
    · exfalso; omega
    · exact z_thrA (rest := []) (is := 128) (text := "reach is not 1 to 23") hst hC hnx hTt hX hP hD hS hl.1 hlk (by decide) dX6_reach_11 dX6_reach_14 dX6_reach_15 dX6_reach_17 dX6_reach_20 hAe (Nat.le_of_ble_eq_true rfl) (Nat.le_of_ble_eq_true rfl) (Nat.le_of_ble_eq_true rfl) (Nat.le_of_ble_eq_true rfl) (Nat.le_of_ble_eq_true rfl) (Nat.le_of_ble_eq_true rfl)

set_option maxRecDepth 100000 in
set_option maxHeartbeats 4000000 in
theorem c_X6_push_1 (l : Launch) (hst : l.stackTraces = false) (G : zGt) (sz : Nat) (b0 b1 g0 e0 f0 w0 u0 : Nat) (mc rn ll : Int) (x : Int) (hx : -2147483648 ≤ x ∧ x < 2147483648) (hno : ¬ (0 ≤ x ∧ x < 256)) : vx_Met l yX6_push (Cond.code yX6_push cX6_push 2 (some .int) :: tb) ({ frames := 6, cells := 1, slots := 6, locals := 82 } : Room) (zPx G [(b0, ob 6 [.ref b1, vI mc, .ref g0, .ref e0, vI rn, .ref f0, .ref w0, .ref u0, vI ll])] sz [.ref b0, vI x]) zFl (zXQ G [(b0, ob 6 [.ref b1, vI mc, .ref g0, .ref e0, vI rn, .ref f0, .ref w0, .ref u0, vI ll])] sz XA) 1 6 (va_A [(b0, ob 6 [.ref b1, vI mc, .ref g0, .ref e0, vI rn, .ref f0, .ref w0, .ref u0, vI ll])] sz) := by
  refine vx_ofW (cc := cX6_push) (maxL := 2) (ret := (some .int)) (by decide) rfl ?_
  intro p e s m args below meth c s₁ B hml hnx hv
  obtain ⟨rfl, hsz, hP, hK, hD0, hTt, hX⟩ := hv
  subst hsz
  have hD := hD0.self (sz := s.heap.size)
  obtain ⟨A, hAe⟩ : ∃ A : Nat → Prop, A = va_A [(b0, ob 6 [.ref b1, vI mc, .ref g0, .ref e0, vI rn, .ref f0, .ref w0, .ref u0, vI ll])] s.heap.size := ⟨_, rfl⟩
  rw [← hAe] at hD hX
  have hA : ∀ q : Nat, s.heap.size ≤ q → A q := fun q h => by rw [hAe]; exact Or.inr h
  have hS : va_S A s.heap s.heap [] := va_S.rf
  obtain ⟨hC, hr, hlk⟩ := z_begin B hml
  have hC : CallFix p m c cX6_push 2 s _ tb RX6 := hC
  have hx := hC.1
  have hb := hC.2.1
  have hl := lv_entry ([.ref b0, vI x]) (n := 2) (Nat.le_of_ble_eq_true rfl)
  rw [lg_entry_eq]
  generalize (lg_sl ([.ref b0, vI x]) ++ List.replicate (2 - (lg_sl ([.ref b0, vI x])).length) Slot.unset).toArray = ls at hl ⊢
  have hl : lv_has ls 2 [(0, .ref b0), (1, vI x)] := hl
  obtain ⟨H, hHe⟩ : ∃ H : Heap, H = s.heap := ⟨_, rfl⟩
  obtain ⟨locs, hLe⟩ : ∃ L : List Loc, L = [] := ⟨_, rfl⟩
  suffices hgo : W p l e (headSpec (Cond.code yX6_push cX6_push 2 (some .int) :: tb) ({ frames := 6, cells := 1, slots := 6, locals := 82 } : Room)).room s m ([.ref b0, vI x] : List Value).toArray below meth c H locs 0 0 (vx_MQ below zFl (zXQ G [(b0, ob 6 [.ref b1, vI mc, .ref g0, .ref e0, vI rn, .ref f0, .ref w0, .ref u0, vI ll])] s.heap.size XA) ([.ref b0, vI x] : List Value).toArray s 1 6 (va_A [(b0, ob 6 [.ref b1, vI mc, .ref g0, .ref e0, vI rn, .ref f0, .ref w0, .ref u0, vI ll])] s.heap.size)) (F0 m 0 ls []) by rw [hHe, hLe] at hgo; exact hgo
  rw [← hHe] at hP
  have hS : va_S A s.heap H locs := by rw [hHe, hLe]; exact hS
  clear hHe hLe
  refine lv_iload_n hx hb dX6_push_0 rfl (lv_at hl 1 rfl) ?_
  refine z_rSi (rest := []) hC hK hP (c_X6_isByte l G x (by omega)) ms_X6_isByte tw_471 [] rfl rfl hl.1 rfl (Nat.le_of_ble_eq_true rfl) ⟨rfl, rfl, Nat.le_of_ble_eq_true rfl, Nat.le_of_ble_eq_true rfl⟩ ⟨Nat.le_of_ble_eq_true rfl, Nat.le_of_ble_eq_true rfl⟩ dX6_push_1 ?_
  refine z_top (y := 0) (if_neg hno) ?_
  refine z_if_ne (tgt := 17) hx hb dX6_push_4 (by decide) (by omega) (fun c_4 => ?_) (fun c_4 => ?_)
  · exact absurd c_4 (by decide)
  · exact z_thrA (rest := []) (is := 130) (text := "not a byte from 0 to 255") hst hC hnx hTt hX hP hD hS hl.1 hlk (by decide) dX6_push_7 dX6_push_10 dX6_push_11 dX6_push_13 dX6_push_16 hAe (Nat.le_of_ble_eq_true rfl) (Nat.le_of_ble_eq_true rfl) (Nat.le_of_ble_eq_true rfl) (Nat.le_of_ble_eq_true rfl) (Nat.le_of_ble_eq_true rfl) (Nat.le_of_ble_eq_true rfl)

set_option maxRecDepth 100000 in
set_option maxHeartbeats 4000000 in
theorem c_X6_write_1 (l : Launch) (hst : l.stackTraces = false) (G : zGt) (sz : Nat) (b0 b1 g0 e0 f0 w0 u0 : Nat) (mc rn ll : Int) (MK : Int → Option Nat) (x : Int) (hx : -2147483648 ≤ x ∧ x < 2147483648) (hmk0 : 0 ≤ x ∧ x < 6 → MK x = none) : vx_Met l yX6_write (Cond.code yX6_write cX6_write 6 (some .int) :: tb) ({ frames := 7, cells := 1, slots := 6, locals := 104 } : Room) (zPx G [(b0, ob 6 [.ref b1, vI mc, .ref g0, .ref e0, vI rn, .ref f0, .ref w0, .ref u0, vI ll]), (b1, aR G 6 MK)] sz [.ref b0, vI x]) zFl (zXQ G [(b0, ob 6 [.ref b1, vI mc, .ref g0, .ref e0, vI rn, .ref f0, .ref w0, .ref u0, vI ll]), (b1, aR G 6 MK)] sz XI) 1 6 (va_A [(b0, ob 6 [.ref b1, vI mc, .ref g0, .ref e0, vI rn, .ref f0, .ref w0, .ref u0, vI ll]), (b1, aR G 6 MK)] sz) := by
  refine vx_ofW (cc := cX6_write) (maxL := 6) (ret := (some .int)) (by decide) rfl ?_
  intro p e s m args below meth c s₁ B hml hnx hv
  obtain ⟨rfl, hsz, hP, hK, hD0, hTt, hX⟩ := hv
  subst hsz
  have hD := hD0.self (sz := s.heap.size)
  obtain ⟨A, hAe⟩ : ∃ A : Nat → Prop, A = va_A [(b0, ob 6 [.ref b1, vI mc, .ref g0, .ref e0, vI rn, .ref f0, .ref w0, .ref u0, vI ll]), (b1, aR G 6 MK)] s.heap.size := ⟨_, rfl⟩
  rw [← hAe] at hD hX
  have hA : ∀ q : Nat, s.heap.size ≤ q → A q := fun q h => by rw [hAe]; exact Or.inr h
  have hS : va_S A s.heap s.heap [] := va_S.rf
  obtain ⟨hC, hr, hlk⟩ := z_begin B hml
  have hC : CallFix p m c cX6_write 6 s _ tb RX6 := hC
  have hx := hC.1
  have hb := hC.2.1
  have hl := lv_entry ([.ref b0, vI x]) (n := 6) (Nat.le_of_ble_eq_true rfl)
  rw [lg_entry_eq]
  generalize (lg_sl ([.ref b0, vI x]) ++ List.replicate (6 - (lg_sl ([.ref b0, vI x])).length) Slot.unset).toArray = ls at hl ⊢
  have hl : lv_has ls 6 [(0, .ref b0), (1, vI x)] := hl
  obtain ⟨H, hHe⟩ : ∃ H : Heap, H = s.heap := ⟨_, rfl⟩
  obtain ⟨locs, hLe⟩ : ∃ L : List Loc, L = [] := ⟨_, rfl⟩
  suffices hgo : W p l e (headSpec (Cond.code yX6_write cX6_write 6 (some .int) :: tb) ({ frames := 7, cells := 1, slots := 6, locals := 104 } : Room)).room s m ([.ref b0, vI x] : List Value).toArray below meth c H locs 0 0 (vx_MQ below zFl (zXQ G [(b0, ob 6 [.ref b1, vI mc, .ref g0, .ref e0, vI rn, .ref f0, .ref w0, .ref u0, vI ll]), (b1, aR G 6 MK)] s.heap.size XI) ([.ref b0, vI x] : List Value).toArray s 1 6 (va_A [(b0, ob 6 [.ref b1, vI mc, .ref g0, .ref e0, vI rn, .ref f0, .ref w0, .ref u0, vI ll]), (b1, aR G 6 MK)] s.heap.size)) (F0 m 0 ls []) by rw [hHe, hLe] at hgo; exact hgo
  rw [← hHe] at hP
  have hS : va_S A s.heap H locs := by rw [hHe, hLe]; exact hS
  clear hHe hLe
  refine lv_aload_n hx hb dX6_write_0 rfl (lv_at hl 0 rfl) ?_
  refine lv_iload_n hx hb dX6_write_1 rfl (lv_at hl 1 rfl) ?_
  exact z_xV (q0 := 0) (ci := 6) (b := b0) (rest := []) (wr := []) (w1 := [(b0, ob 6 [.ref b1, vI mc, .ref g0, .ref e0, vI rn, .ref f0, .ref w0, .ref u0, vI ll]), (b1, aR G 6 MK)]) hC hK hTt hX hnx hP hD hS hA hlk (c_X6_neededMake_x l hst G H.size b0 b1 g0 e0 f0 w0 u0 mc rn ll MK x (by omega) (hmk0)) mv_X6_neededMake tw_591 [0, 1] [] rfl rfl rfl rfl (by decide) rfl rfl rfl rfl hl.1 rfl (Nat.le_of_ble_eq_true rfl) ⟨rfl, rfl, (Nat.le_of_ble_eq_true rfl), (Nat.le_of_ble_eq_true rfl)⟩ ⟨(Nat.le_of_ble_eq_true rfl), (Nat.le_of_ble_eq_true rfl)⟩ ⟨(Nat.le_of_ble_eq_true rfl), (Nat.le_of_ble_eq_true rfl)⟩ hAe [0, 1] rfl (by decide) rfl dX6_write_2

set_option maxRecDepth 100000 in
set_option maxHeartbeats 4000000 in
theorem c_X6_check_1 (l : Launch) (hst : l.stackTraces = false) (G : zGt) (sz : Nat) (b0 b1 g0 e0 f0 w0 u0 : Nat) (mc rn ll : Int) (MK : Int → Option Nat) (e1 : Nat) (nh : Int) (hd : Int → Int) (x : Int) (hx : -2147483648 ≤ x ∧ x < 2147483648) (hmk0 : 0 ≤ x ∧ x < 6 → MK x = none) : vx_Met l yX6_check (Cond.code yX6_check cX6_check 2 (some .int) :: tb) ({ frames := 7, cells := 1, slots := 6, locals := 104 } : Room) (zPx G [(b0, ob 6 [.ref b1, vI mc, .ref g0, .ref e0, vI rn, .ref f0, .ref w0, .ref u0, vI ll]), (b1, aR G 6 MK), (e0, ob 3 [.ref e1, vI nh]), (e1, aI G 36 hd)] sz [.ref b0, vI x]) zFl (zXQ G [(b0, ob 6 [.ref b1, vI mc, .ref g0, .ref e0, vI rn, .ref f0, .ref w0, .ref u0, vI ll]), (b1, aR G 6 MK), (e0, ob 3 [.ref e1, vI nh]), (e1, aI G 36 hd)] sz XI) 1 6 (va_A [(b0, ob 6 [.ref b1, vI mc, .ref g0, .ref e0, vI rn, .ref f0, .ref w0, .ref u0, vI ll]), (b1, aR G 6 MK), (e0, ob 3 [.ref e1, vI nh]), (e1, aI G 36 hd)] sz) := by
  refine vx_ofW (cc := cX6_check) (maxL := 2) (ret := (some .int)) (by decide) rfl ?_
  intro p e s m args below meth c s₁ B hml hnx hv
  obtain ⟨rfl, hsz, hP, hK, hD0, hTt, hX⟩ := hv
  subst hsz
  have hD := hD0.self (sz := s.heap.size)
  obtain ⟨A, hAe⟩ : ∃ A : Nat → Prop, A = va_A [(b0, ob 6 [.ref b1, vI mc, .ref g0, .ref e0, vI rn, .ref f0, .ref w0, .ref u0, vI ll]), (b1, aR G 6 MK), (e0, ob 3 [.ref e1, vI nh]), (e1, aI G 36 hd)] s.heap.size := ⟨_, rfl⟩
  rw [← hAe] at hD hX
  have hA : ∀ q : Nat, s.heap.size ≤ q → A q := fun q h => by rw [hAe]; exact Or.inr h
  have hS : va_S A s.heap s.heap [] := va_S.rf
  obtain ⟨hC, hr, hlk⟩ := z_begin B hml
  have hC : CallFix p m c cX6_check 2 s _ tb RX6 := hC
  have hx := hC.1
  have hb := hC.2.1
  have hl := lv_entry ([.ref b0, vI x]) (n := 2) (Nat.le_of_ble_eq_true rfl)
  rw [lg_entry_eq]
  generalize (lg_sl ([.ref b0, vI x]) ++ List.replicate (2 - (lg_sl ([.ref b0, vI x])).length) Slot.unset).toArray = ls at hl ⊢
  have hl : lv_has ls 2 [(0, .ref b0), (1, vI x)] := hl
  obtain ⟨H, hHe⟩ : ∃ H : Heap, H = s.heap := ⟨_, rfl⟩
  obtain ⟨locs, hLe⟩ : ∃ L : List Loc, L = [] := ⟨_, rfl⟩
  suffices hgo : W p l e (headSpec (Cond.code yX6_check cX6_check 2 (some .int) :: tb) ({ frames := 7, cells := 1, slots := 6, locals := 104 } : Room)).room s m ([.ref b0, vI x] : List Value).toArray below meth c H locs 0 0 (vx_MQ below zFl (zXQ G [(b0, ob 6 [.ref b1, vI mc, .ref g0, .ref e0, vI rn, .ref f0, .ref w0, .ref u0, vI ll]), (b1, aR G 6 MK), (e0, ob 3 [.ref e1, vI nh]), (e1, aI G 36 hd)] s.heap.size XI) ([.ref b0, vI x] : List Value).toArray s 1 6 (va_A [(b0, ob 6 [.ref b1, vI mc, .ref g0, .ref e0, vI rn, .ref f0, .ref w0, .ref u0, vI ll]), (b1, aR G 6 MK), (e0, ob 3 [.ref e1, vI nh]), (e1, aI G 36 hd)] s.heap.size)) (F0 m 0 ls []) by rw [hHe, hLe] at hgo; exact hgo
  rw [← hHe] at hP
  have hS : va_S A s.heap H locs := by rw [hHe, hLe]; exact hS
  clear hHe hLe
  refine lv_aload_n hx hb dX6_check_0 rfl (lv_at hl 0 rfl) ?_
  refine z_get (v := .ref e0) hC hK hP inX6 rfl 0 rfl 3 (by decide) tw_201 rfl dX6_check_1 ?_
  refine lv_aload_n hx hb dX6_check_4 rfl (lv_at hl 0 rfl) ?_
  refine lv_iload_n hx hb dX6_check_5 rfl (lv_at hl 1 rfl) ?_
  exact z_xV (q0 := 0) (ci := 6) (b := b0) (rest := [.ref e0]) (wr := [(e0, ob 3 [.ref e1, vI nh]), (e1, aI G 36 hd)]) (w1 := [(b0, ob 6 [.ref b1, vI mc, .ref g0, .ref e0, vI rn, .ref f0, .ref w0, .ref u0, vI ll]), (b1, aR G 6 MK), (e0, ob 3 [.ref e1, vI nh]), (e1, aI G 36 hd)]) hC hK hTt hX hnx hP hD hS hA hlk (c_X6_neededMake_x l hst G H.size b0 b1 g0 e0 f0 w0 u0 mc rn ll MK x (by omega) (hmk0)) mv_X6_neededMake tw_591 [0, 1] [2, 3] rfl rfl rfl rfl (by decide) rfl rfl rfl rfl hl.1 rfl (Nat.le_of_ble_eq_true rfl) ⟨rfl, rfl, (Nat.le_of_ble_eq_true rfl), (Nat.le_of_ble_eq_true rfl)⟩ ⟨(Nat.le_of_ble_eq_true rfl), (Nat.le_of_ble_eq_true rfl)⟩ ⟨(Nat.le_of_ble_eq_true rfl), (Nat.le_of_ble_eq_true rfl)⟩ hAe [2, 3, 0, 1] rfl (by decide) rfl dX6_check_6

set_option maxRecDepth 100000 in
set_option maxHeartbeats 4000000 in
theorem c_X6_file_1 (l : Launch) (hst : l.stackTraces = false) (G : zGt) (sz : Nat) (b0 b1 g0 e0 f0 w0 u0 : Nat) (mc rn ll : Int) (f1 h0 : Nat) (nf tm : Int) (K : Int → Int) (x y : Int) (hnf : 0 ≤ nf ∧ nf ≤ 40) (hx : -2147483648 ≤ x ∧ x < 2147483648) (hno : ¬ (0 ≤ x ∧ x < nf)) : vx_Met l yX6_file (Cond.code yX6_file cX6_file 4 (some .int) :: tb) ({ frames := 7, cells := 1, slots := 6, locals := 103 } : Room) (zPx G [(b0, ob 6 [.ref b1, vI mc, .ref g0, .ref e0, vI rn, .ref f0, .ref w0, .ref u0, vI ll]), (f0, ob 2 [.ref h0, .ref f1, vI nf, vI tm]), (f1, aI G 40 K)] sz [.ref b0, vI x, vI y]) zFl (zXQ G [(b0, ob 6 [.ref b1, vI mc, .ref g0, .ref e0, vI rn, .ref f0, .ref w0, .ref u0, vI ll]), (f0, ob 2 [.ref h0, .ref f1, vI nf, vI tm]), (f1, aI G 40 K)] sz XI) 1 6 (va_A [(b0, ob 6 [.ref b1, vI mc, .ref g0, .ref e0, vI rn, .ref f0, .ref w0, .ref u0, vI ll]), (f0, ob 2 [.ref h0, .ref f1, vI nf, vI tm]), (f1, aI G 40 K)] sz) := by
  refine vx_ofW (cc := cX6_file) (maxL := 4) (ret := (some .int)) (by decide) rfl ?_
  intro p e s m args below meth c s₁ B hml hnx hv
  obtain ⟨rfl, hsz, hP, hK, hD0, hTt, hX⟩ := hv
  subst hsz
  have hD := hD0.self (sz := s.heap.size)
  obtain ⟨A, hAe⟩ : ∃ A : Nat → Prop, A = va_A [(b0, ob 6 [.ref b1, vI mc, .ref g0, .ref e0, vI rn, .ref f0, .ref w0, .ref u0, vI ll]), (f0, ob 2 [.ref h0, .ref f1, vI nf, vI tm]), (f1, aI G 40 K)] s.heap.size := ⟨_, rfl⟩
  rw [← hAe] at hD hX
  have hA : ∀ q : Nat, s.heap.size ≤ q → A q := fun q h => by rw [hAe]; exact Or.inr h
  have hS : va_S A s.heap s.heap [] := va_S.rf
  obtain ⟨hC, hr, hlk⟩ := z_begin B hml
  have hC : CallFix p m c cX6_file 4 s _ tb RX6 := hC
  have hx := hC.1
  have hb := hC.2.1
  have hl := lv_entry ([.ref b0, vI x, vI y]) (n := 4) (Nat.le_of_ble_eq_true rfl)
  rw [lg_entry_eq]
  generalize (lg_sl ([.ref b0, vI x, vI y]) ++ List.replicate (4 - (lg_sl ([.ref b0, vI x, vI y])).length) Slot.unset).toArray = ls at hl ⊢
  have hl : lv_has ls 4 [(0, .ref b0), (1, vI x), (2, vI y)] := hl
  obtain ⟨H, hHe⟩ : ∃ H : Heap, H = s.heap := ⟨_, rfl⟩
  obtain ⟨locs, hLe⟩ : ∃ L : List Loc, L = [] := ⟨_, rfl⟩
  suffices hgo : W p l e (headSpec (Cond.code yX6_file cX6_file 4 (some .int) :: tb) ({ frames := 7, cells := 1, slots := 6, locals := 103 } : Room)).room s m ([.ref b0, vI x, vI y] : List Value).toArray below meth c H locs 0 0 (vx_MQ below zFl (zXQ G [(b0, ob 6 [.ref b1, vI mc, .ref g0, .ref e0, vI rn, .ref f0, .ref w0, .ref u0, vI ll]), (f0, ob 2 [.ref h0, .ref f1, vI nf, vI tm]), (f1, aI G 40 K)] s.heap.size XI) ([.ref b0, vI x, vI y] : List Value).toArray s 1 6 (va_A [(b0, ob 6 [.ref b1, vI mc, .ref g0, .ref e0, vI rn, .ref f0, .ref w0, .ref u0, vI ll]), (f0, ob 2 [.ref h0, .ref f1, vI nf, vI tm]), (f1, aI G 40 K)] s.heap.size)) (F0 m 0 ls []) by rw [hHe, hLe] at hgo; exact hgo
  rw [← hHe] at hP
  have hS : va_S A s.heap H locs := by rw [hHe, hLe]; exact hS
  clear hHe hLe
  refine lv_aload_n hx hb dX6_file_0 rfl (lv_at hl 0 rfl) ?_
  refine lv_iload_n hx hb dX6_file_1 rfl (lv_at hl 1 rfl) ?_
  exact z_xV (q0 := 0) (ci := 6) (b := b0) (rest := []) (wr := []) (w1 := [(b0, ob 6 [.ref b1, vI mc, .ref g0, .ref e0, vI rn, .ref f0, .ref w0, .ref u0, vI ll]), (f0, ob 2 [.ref h0, .ref f1, vI nf, vI tm]), (f1, aI G 40 K)]) hC hK hTt hX hnx hP hD hS hA hlk (c_X6_neededFile_x l hst G H.size b0 b1 g0 e0 f0 w0 u0 mc rn ll f1 h0 nf tm K x (by omega) (by omega) (hno)) mv_X6_neededFile tw_729 [0, 1, 2] [] rfl rfl rfl rfl (by decide) rfl rfl rfl rfl hl.1 rfl (Nat.le_of_ble_eq_true rfl) ⟨rfl, rfl, (Nat.le_of_ble_eq_true rfl), (Nat.le_of_ble_eq_true rfl)⟩ ⟨(Nat.le_of_ble_eq_true rfl), (Nat.le_of_ble_eq_true rfl)⟩ ⟨(Nat.le_of_ble_eq_true rfl), (Nat.le_of_ble_eq_true rfl)⟩ hAe [0, 1, 2] rfl (by decide) rfl dX6_file_2

set_option maxRecDepth 100000 in
set_option maxHeartbeats 4000000 in
theorem c_X6_file_2 (l : Launch) (hst : l.stackTraces = false) (G : zGt) (sz : Nat) (b0 b1 g0 e0 f0 w0 u0 : Nat) (mc rn ll : Int) (f1 h0 : Nat) (nf tm : Int) (K : Int → Int) (x y : Int) (hnf : 0 ≤ nf ∧ nf ≤ 40) (hxf : 0 ≤ x ∧ x < nf) (hy : -2147483648 ≤ y ∧ y < 0) : vx_Met l yX6_file (Cond.code yX6_file cX6_file 4 (some .int) :: tb) ({ frames := 6, cells := 1, slots := 6, locals := 82 } : Room) (zPx G [(b0, ob 6 [.ref b1, vI mc, .ref g0, .ref e0, vI rn, .ref f0, .ref w0, .ref u0, vI ll]), (f0, ob 2 [.ref h0, .ref f1, vI nf, vI tm]), (f1, aI G 40 K)] sz [.ref b0, vI x, vI y]) zFl (zXQ G [(b0, ob 6 [.ref b1, vI mc, .ref g0, .ref e0, vI rn, .ref f0, .ref w0, .ref u0, vI ll]), (f0, ob 2 [.ref h0, .ref f1, vI nf, vI tm]), (f1, aI G 40 K)] sz XA) 1 6 (va_A [(b0, ob 6 [.ref b1, vI mc, .ref g0, .ref e0, vI rn, .ref f0, .ref w0, .ref u0, vI ll]), (f0, ob 2 [.ref h0, .ref f1, vI nf, vI tm]), (f1, aI G 40 K)] sz) := by
  refine vx_ofW (cc := cX6_file) (maxL := 4) (ret := (some .int)) (by decide) rfl ?_
  intro p e s m args below meth c s₁ B hml hnx hv
  obtain ⟨rfl, hsz, hP, hK, hD0, hTt, hX⟩ := hv
  subst hsz
  have hD := hD0.self (sz := s.heap.size)
  obtain ⟨A, hAe⟩ : ∃ A : Nat → Prop, A = va_A [(b0, ob 6 [.ref b1, vI mc, .ref g0, .ref e0, vI rn, .ref f0, .ref w0, .ref u0, vI ll]), (f0, ob 2 [.ref h0, .ref f1, vI nf, vI tm]), (f1, aI G 40 K)] s.heap.size := ⟨_, rfl⟩
  rw [← hAe] at hD hX
  have hA : ∀ q : Nat, s.heap.size ≤ q → A q := fun q h => by rw [hAe]; exact Or.inr h
  have hS : va_S A s.heap s.heap [] := va_S.rf
  obtain ⟨hC, hr, hlk⟩ := z_begin B hml
  have hC : CallFix p m c cX6_file 4 s _ tb RX6 := hC
  have hx := hC.1
  have hb := hC.2.1
  have hl := lv_entry ([.ref b0, vI x, vI y]) (n := 4) (Nat.le_of_ble_eq_true rfl)
  rw [lg_entry_eq]
  generalize (lg_sl ([.ref b0, vI x, vI y]) ++ List.replicate (4 - (lg_sl ([.ref b0, vI x, vI y])).length) Slot.unset).toArray = ls at hl ⊢
  have hl : lv_has ls 4 [(0, .ref b0), (1, vI x), (2, vI y)] := hl
  obtain ⟨H, hHe⟩ : ∃ H : Heap, H = s.heap := ⟨_, rfl⟩
  obtain ⟨locs, hLe⟩ : ∃ L : List Loc, L = [] := ⟨_, rfl⟩
  suffices hgo : W p l e (headSpec (Cond.code yX6_file cX6_file 4 (some .int) :: tb) ({ frames := 6, cells := 1, slots := 6, locals := 82 } : Room)).room s m ([.ref b0, vI x, vI y] : List Value).toArray below meth c H locs 0 0 (vx_MQ below zFl (zXQ G [(b0, ob 6 [.ref b1, vI mc, .ref g0, .ref e0, vI rn, .ref f0, .ref w0, .ref u0, vI ll]), (f0, ob 2 [.ref h0, .ref f1, vI nf, vI tm]), (f1, aI G 40 K)] s.heap.size XA) ([.ref b0, vI x, vI y] : List Value).toArray s 1 6 (va_A [(b0, ob 6 [.ref b1, vI mc, .ref g0, .ref e0, vI rn, .ref f0, .ref w0, .ref u0, vI ll]), (f0, ob 2 [.ref h0, .ref f1, vI nf, vI tm]), (f1, aI G 40 K)] s.heap.size)) (F0 m 0 ls []) by rw [hHe, hLe] at hgo; exact hgo
  rw [← hHe] at hP
  have hS : va_S A s.heap H locs := by rw [hHe, hLe]; exact hS
  clear hHe hLe
  refine lv_aload_n hx hb dX6_file_0 rfl (lv_at hl 0 rfl) ?_
  refine lv_iload_n hx hb dX6_file_1 rfl (lv_at hl 1 rfl) ?_
  refine z_rVi (q0 := 0) (ci := 6) (b := b0) (rest := []) hC hK hP (c_X6_neededFile l G b0 b1 g0 e0 f0 w0 u0 mc rn ll f1 h0 nf tm K x (by omega) (by omega)) mv_X6_neededFile tw_729 [0, 1, 2] rfl rfl rfl rfl hl.1 rfl (Nat.le_of_ble_eq_true rfl) ⟨rfl, rfl, Nat.le_of_ble_eq_true rfl, Nat.le_of_ble_eq_true rfl⟩ ⟨Nat.le_of_ble_eq_true rfl, Nat.le_of_ble_eq_true rfl⟩ dX6_file_2 ?_
  refine lv_istore_n (lv' := [(3, vI x), (0, .ref b0), (1, vI x), (2, vI y)]) hx hb dX6_file_5 rfl hl (by decide) rfl (fun ls hl => ?_)
  refine lv_iload_n hx hb dX6_file_6 rfl (lv_at hl 3 rfl) ?_
  refine z_if_ge (tgt := 20) hx hb dX6_file_7 (by decide) (by omega) (fun c_7 => ?_) (fun c_7 => ?_)
  · exfalso; omega
  · exact z_thrA (rest := []) (is := 183) (text := "what is below 0") hst hC hnx hTt hX hP hD hS hl.1 hlk (by decide) dX6_file_10 dX6_file_13 dX6_file_14 dX6_file_16 dX6_file_19 hAe (Nat.le_of_ble_eq_true rfl) (Nat.le_of_ble_eq_true rfl) (Nat.le_of_ble_eq_true rfl) (Nat.le_of_ble_eq_true rfl) (Nat.le_of_ble_eq_true rfl) (Nat.le_of_ble_eq_true rfl)

set_option maxRecDepth 100000 in
set_option maxHeartbeats 4000000 in
theorem c_X6_data_1 (l : Launch) (hst : l.stackTraces = false) (G : zGt) (sz : Nat) (b0 b1 g0 e0 f0 w0 u0 : Nat) (mc rn ll : Int) (f1 h0 : Nat) (nf tm : Int) (K : Int → Int) (x y : Int) (hnf : 0 ≤ nf ∧ nf ≤ 40) (hx : -2147483648 ≤ x ∧ x < 2147483648) (hno : ¬ (0 ≤ x ∧ x < nf)) : vx_Met l yX6_data (Cond.code yX6_data cX6_data 3 (some .int) :: tb) ({ frames := 7, cells := 1, slots := 6, locals := 103 } : Room) (zPx G [(b0, ob 6 [.ref b1, vI mc, .ref g0, .ref e0, vI rn, .ref f0, .ref w0, .ref u0, vI ll]), (f0, ob 2 [.ref h0, .ref f1, vI nf, vI tm]), (f1, aI G 40 K)] sz [.ref b0, vI x, vI y]) zFl (zXQ G [(b0, ob 6 [.ref b1, vI mc, .ref g0, .ref e0, vI rn, .ref f0, .ref w0, .ref u0, vI ll]), (f0, ob 2 [.ref h0, .ref f1, vI nf, vI tm]), (f1, aI G 40 K)] sz XI) 1 6 (va_A [(b0, ob 6 [.ref b1, vI mc, .ref g0, .ref e0, vI rn, .ref f0, .ref w0, .ref u0, vI ll]), (f0, ob 2 [.ref h0, .ref f1, vI nf, vI tm]), (f1, aI G 40 K)] sz) := by
  refine vx_ofW (cc := cX6_data) (maxL := 3) (ret := (some .int)) (by decide) rfl ?_
  intro p e s m args below meth c s₁ B hml hnx hv
  obtain ⟨rfl, hsz, hP, hK, hD0, hTt, hX⟩ := hv
  subst hsz
  have hD := hD0.self (sz := s.heap.size)
  obtain ⟨A, hAe⟩ : ∃ A : Nat → Prop, A = va_A [(b0, ob 6 [.ref b1, vI mc, .ref g0, .ref e0, vI rn, .ref f0, .ref w0, .ref u0, vI ll]), (f0, ob 2 [.ref h0, .ref f1, vI nf, vI tm]), (f1, aI G 40 K)] s.heap.size := ⟨_, rfl⟩
  rw [← hAe] at hD hX
  have hA : ∀ q : Nat, s.heap.size ≤ q → A q := fun q h => by rw [hAe]; exact Or.inr h
  have hS : va_S A s.heap s.heap [] := va_S.rf
  obtain ⟨hC, hr, hlk⟩ := z_begin B hml
  have hC : CallFix p m c cX6_data 3 s _ tb RX6 := hC
  have hx := hC.1
  have hb := hC.2.1
  have hl := lv_entry ([.ref b0, vI x, vI y]) (n := 3) (Nat.le_of_ble_eq_true rfl)
  rw [lg_entry_eq]
  generalize (lg_sl ([.ref b0, vI x, vI y]) ++ List.replicate (3 - (lg_sl ([.ref b0, vI x, vI y])).length) Slot.unset).toArray = ls at hl ⊢
  have hl : lv_has ls 3 [(0, .ref b0), (1, vI x), (2, vI y)] := hl
  obtain ⟨H, hHe⟩ : ∃ H : Heap, H = s.heap := ⟨_, rfl⟩
  obtain ⟨locs, hLe⟩ : ∃ L : List Loc, L = [] := ⟨_, rfl⟩
  suffices hgo : W p l e (headSpec (Cond.code yX6_data cX6_data 3 (some .int) :: tb) ({ frames := 7, cells := 1, slots := 6, locals := 103 } : Room)).room s m ([.ref b0, vI x, vI y] : List Value).toArray below meth c H locs 0 0 (vx_MQ below zFl (zXQ G [(b0, ob 6 [.ref b1, vI mc, .ref g0, .ref e0, vI rn, .ref f0, .ref w0, .ref u0, vI ll]), (f0, ob 2 [.ref h0, .ref f1, vI nf, vI tm]), (f1, aI G 40 K)] s.heap.size XI) ([.ref b0, vI x, vI y] : List Value).toArray s 1 6 (va_A [(b0, ob 6 [.ref b1, vI mc, .ref g0, .ref e0, vI rn, .ref f0, .ref w0, .ref u0, vI ll]), (f0, ob 2 [.ref h0, .ref f1, vI nf, vI tm]), (f1, aI G 40 K)] s.heap.size)) (F0 m 0 ls []) by rw [hHe, hLe] at hgo; exact hgo
  rw [← hHe] at hP
  have hS : va_S A s.heap H locs := by rw [hHe, hLe]; exact hS
  clear hHe hLe
  refine lv_aload_n hx hb dX6_data_0 rfl (lv_at hl 0 rfl) ?_
  refine z_get (v := .ref f0) hC hK hP inX6 rfl 0 rfl 5 (by decide) tw_203 rfl dX6_data_1 ?_
  refine lv_aload_n hx hb dX6_data_4 rfl (lv_at hl 0 rfl) ?_
  refine lv_iload_n hx hb dX6_data_5 rfl (lv_at hl 1 rfl) ?_
  exact z_xV (q0 := 0) (ci := 6) (b := b0) (rest := [.ref f0]) (wr := []) (w1 := [(b0, ob 6 [.ref b1, vI mc, .ref g0, .ref e0, vI rn, .ref f0, .ref w0, .ref u0, vI ll]), (f0, ob 2 [.ref h0, .ref f1, vI nf, vI tm]), (f1, aI G 40 K)]) hC hK hTt hX hnx hP hD hS hA hlk (c_X6_neededFile_x l hst G H.size b0 b1 g0 e0 f0 w0 u0 mc rn ll f1 h0 nf tm K x (by omega) (by omega) (hno)) mv_X6_neededFile tw_729 [0, 1, 2] [] rfl rfl rfl rfl (by decide) rfl rfl rfl rfl hl.1 rfl (Nat.le_of_ble_eq_true rfl) ⟨rfl, rfl, (Nat.le_of_ble_eq_true rfl), (Nat.le_of_ble_eq_true rfl)⟩ ⟨(Nat.le_of_ble_eq_true rfl), (Nat.le_of_ble_eq_true rfl)⟩ ⟨(Nat.le_of_ble_eq_true rfl), (Nat.le_of_ble_eq_true rfl)⟩ hAe [0, 1, 2] rfl (by decide) rfl dX6_data_6
