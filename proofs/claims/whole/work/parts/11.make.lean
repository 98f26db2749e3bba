theorem ms_X4_crcStep : zMS yX4_crcStep cX4_crcStep 3 (some .int) 1 := ⟨tw_316, tw_315, tw_47, by decide +kernel⟩
set_option maxRecDepth 100000 in
set_option maxHeartbeats 4000000 in
theorem c_X4_firstHead (l : Launch) (G : zGt) (m0 m1 : Nat) (a1 a2 kd gl ed : Int) (T : Int → Int)  : Met l yX4_firstHead (Cond.code yX4_firstHead cX4_firstHead 1 (some .int) :: tb) ({ frames := 0, cells := 0, slots := 0, locals := 0 } : Room) (zPr G [(m0, ob 4 [vI a1, vI a2, vI kd, vI gl, vI ed, .ref m1]), (m1, aI G 4096 T)] [.ref m0]) (vp_Si (fun r => r = iI a1)) 0 0 (fun _ => False) := by
  refine Met.ofW (cc := cX4_firstHead) (maxL := 1) (ret := (some .int)) (by decide) rfl ?_
  intro p e s m args below meth c s₁ B hml hv
  obtain ⟨rfl, hP, hK⟩ := hv
  obtain ⟨hC, hr, hlk⟩ := z_begin B hml
  have hC : CallFix p m c cX4_firstHead 1 s _ tb RX4 := hC
  have hx := hC.1
  have hb := hC.2.1
  have hl := lv_entry ([.ref m0]) (n := 1) (Nat.le_of_ble_eq_true rfl)
  rw [lg_entry_eq]
  generalize (lg_sl ([.ref m0]) ++ List.replicate (1 - (lg_sl ([.ref m0])).length) Slot.unset).toArray = ls at hl ⊢
  have hl : lv_has ls 1 [(0, .ref m0)] := hl
  refine lv_aload_n hx hb dX4_firstHead_0 rfl (lv_at hl 0 rfl) ?_
  refine z_get (v := vI a1) hC hK hP inX4 rfl 0 rfl 0 (by decide) tw_564 rfl dX4_firstHead_1 ?_
  exact z_iretR hC hr hlk (rfl) dX4_firstHead_4

set_option maxRecDepth 100000 in
set_option maxHeartbeats 4000000 in
theorem c_X4_secondHead (l : Launch) (G : zGt) (m0 m1 : Nat) (a1 a2 kd gl ed : Int) (T : Int → Int)  : Met l yX4_secondHead (Cond.code yX4_secondHead cX4_secondHead 1 (some .int) :: tb) ({ frames := 0, cells := 0, slots := 0, locals := 0 } : Room) (zPr G [(m0, ob 4 [vI a1, vI a2, vI kd, vI gl, vI ed, .ref m1]), (m1, aI G 4096 T)] [.ref m0]) (vp_Si (fun r => r = iI a2)) 0 0 (fun _ => False) := by
  refine Met.ofW (cc := cX4_secondHead) (maxL := 1) (ret := (some .int)) (by decide) rfl ?_
  intro p e s m args below meth c s₁ B hml hv
  obtain ⟨rfl, hP, hK⟩ := hv
  obtain ⟨hC, hr, hlk⟩ := z_begin B hml
  have hC : CallFix p m c cX4_secondHead 1 s _ tb RX4 := hC
  have hx := hC.1
  have hb := hC.2.1
  have hl := lv_entry ([.ref m0]) (n := 1) (Nat.le_of_ble_eq_true rfl)
  rw [lg_entry_eq]
  generalize (lg_sl ([.ref m0]) ++ List.replicate (1 - (lg_sl ([.ref m0])).length) Slot.unset).toArray = ls at hl ⊢
  have hl : lv_has ls 1 [(0, .ref m0)] := hl
  refine lv_aload_n hx hb dX4_secondHead_0 rfl (lv_at hl 0 rfl) ?_
  refine z_get (v := vI a2) hC hK hP inX4 rfl 0 rfl 1 (by decide) tw_565 rfl dX4_secondHead_1 ?_
  exact z_iretR hC hr hlk (rfl) dX4_secondHead_4

set_option maxRecDepth 100000 in
set_option maxHeartbeats 4000000 in
theorem c_X4_edgeCount (l : Launch) (G : zGt) (m0 m1 : Nat) (a1 a2 kd gl ed : Int) (T : Int → Int)  : Met l yX4_edgeCount (Cond.code yX4_edgeCount cX4_edgeCount 1 (some .int) :: tb) ({ frames := 0, cells := 0, slots := 0, locals := 0 } : Room) (zPr G [(m0, ob 4 [vI a1, vI a2, vI kd, vI gl, vI ed, .ref m1]), (m1, aI G 4096 T)] [.ref m0]) (vp_Si (fun r => r = iI ed)) 0 0 (fun _ => False) := by
  refine Met.ofW (cc := cX4_edgeCount) (maxL := 1) (ret := (some .int)) (by decide) rfl ?_
  intro p e s m args below meth c s₁ B hml hv
  obtain ⟨rfl, hP, hK⟩ := hv
  obtain ⟨hC, hr, hlk⟩ := z_begin B hml
  have hC : CallFix p m c cX4_edgeCount 1 s _ tb RX4 := hC
  have hx := hC.1
  have hb := hC.2.1
  have hl := lv_entry ([.ref m0]) (n := 1) (Nat.le_of_ble_eq_true rfl)
  rw [lg_entry_eq]
  generalize (lg_sl ([.ref m0]) ++ List.replicate (1 - (lg_sl ([.ref m0])).length) Slot.unset).toArray = ls at hl ⊢
  have hl : lv_has ls 1 [(0, .ref m0)] := hl
  refine lv_aload_n hx hb dX4_edgeCount_0 rfl (lv_at hl 0 rfl) ?_
  refine z_get (v := vI ed) hC hK hP inX4 rfl 0 rfl 4 (by decide) tw_568 rfl dX4_edgeCount_1 ?_
  exact z_iretR hC hr hlk (rfl) dX4_edgeCount_4

set_option maxRecDepth 100000 in
set_option maxHeartbeats 4000000 in
theorem c_X4_exchangeGoals (l : Launch) (G : zGt) (sz : Nat) (m0 m1 : Nat) (a1 a2 kd gl ed : Int) (T : Int → Int) (x : Int)  : Met l yX4_exchangeGoals (Cond.code yX4_exchangeGoals cX4_exchangeGoals 3 (some .int) :: tb) ({ frames := 0, cells := 0, slots := 0, locals := 0 } : Room) (zPw G [(m0, ob 4 [vI a1, vI a2, vI kd, vI gl, vI ed, .ref m1]), (m1, aI G 4096 T)] sz [.ref m0, vI x]) (va_Qi (fun (r : Int32) (u : Unit) => r = iI gl ∧ True) (fun (u : Unit) t => zB G [(m0, ob 4 [vI a1, vI a2, vI kd, vI gl, vI ed, .ref m1]), (m1, aI G 4096 T)] sz [(m0, ob 4 [vI a1, vI a2, vI kd, vI x, vI ed, .ref m1]), (m1, aI G 4096 T)] t) (va_A [(m0, ob 4 [vI a1, vI a2, vI kd, vI gl, vI ed, .ref m1]), (m1, aI G 4096 T)] sz)) 0 0 (va_A [(m0, ob 4 [vI a1, vI a2, vI kd, vI gl, vI ed, .ref m1]), (m1, aI G 4096 T)] sz) := by
  refine Met.ofW (cc := cX4_exchangeGoals) (maxL := 3) (ret := (some .int)) (by decide) rfl ?_
  intro p e s m args below meth c s₁ B hml hv
  obtain ⟨rfl, hsz, hP, hK, hD0⟩ := hv
  subst hsz
  have hD := hD0.self (sz := s.heap.size)
  obtain ⟨A, hAe⟩ : ∃ A : Nat → Prop, A = va_A [(m0, ob 4 [vI a1, vI a2, vI kd, vI gl, vI ed, .ref m1]), (m1, aI G 4096 T)] s.heap.size := ⟨_, rfl⟩
  rw [← hAe] at hD
  have hA : ∀ q : Nat, s.heap.size ≤ q → A q := fun q h => by rw [hAe]; exact Or.inr h
  have hS : va_S A s.heap s.heap [] := va_S.rf
  obtain ⟨hC, hr, hlk⟩ := z_begin B hml
  have hC : CallFix p m c cX4_exchangeGoals 3 s _ tb RX4 := hC
  have hx := hC.1
  have hb := hC.2.1
  have hl := lv_entry ([.ref m0, vI x]) (n := 3) (Nat.le_of_ble_eq_true rfl)
  rw [lg_entry_eq]
  generalize (lg_sl ([.ref m0, vI x]) ++ List.replicate (3 - (lg_sl ([.ref m0, vI x])).length) Slot.unset).toArray = ls at hl ⊢
  have hl : lv_has ls 3 [(0, .ref m0), (1, vI x)] := hl
  obtain ⟨H, hHe⟩ : ∃ H : Heap, H = s.heap := ⟨_, rfl⟩
  obtain ⟨locs, hLe⟩ : ∃ L : List Loc, L = [] := ⟨_, rfl⟩
  suffices hgo : W p l e (headSpec (Cond.code yX4_exchangeGoals cX4_exchangeGoals 3 (some .int) :: tb) ({ frames := 0, cells := 0, slots := 0, locals := 0 } : Room)).room s m ([.ref m0, vI x] : List Value).toArray below meth c H locs 0 0 (MQ below (va_Qi (fun (r : Int32) (u : Unit) => r = iI gl ∧ True) (fun (u : Unit) t => zB G [(m0, ob 4 [vI a1, vI a2, vI kd, vI gl, vI ed, .ref m1]), (m1, aI G 4096 T)] s.heap.size [(m0, ob 4 [vI a1, vI a2, vI kd, vI x, vI ed, .ref m1]), (m1, aI G 4096 T)] t) (va_A [(m0, ob 4 [vI a1, vI a2, vI kd, vI gl, vI ed, .ref m1]), (m1, aI G 4096 T)] s.heap.size)) ([.ref m0, vI x] : List Value).toArray s 0 0 (va_A [(m0, ob 4 [vI a1, vI a2, vI kd, vI gl, vI ed, .ref m1]), (m1, aI G 4096 T)] s.heap.size)) (F0 m 0 ls []) by rw [hHe, hLe] at hgo; exact hgo
  rw [← hHe] at hP
  have hS : va_S A s.heap H locs := by rw [hHe, hLe]; exact hS
  clear hHe hLe
  refine lv_aload_n hx hb dX4_exchangeGoals_0 rfl (lv_at hl 0 rfl) ?_
  refine z_get (v := vI gl) hC hK hP inX4 rfl 0 rfl 3 (by decide) tw_567 rfl dX4_exchangeGoals_1 ?_
  refine lv_istore_n (lv' := [(2, vI gl), (0, .ref m0), (1, vI x)]) hx hb dX4_exchangeGoals_4 rfl hl (by decide) rfl (fun ls hl => ?_)
  refine lv_aload_n hx hb dX4_exchangeGoals_5 rfl (lv_at hl 1 rfl) ?_
  refine lv_iload_n hx hb dX4_exchangeGoals_6 rfl (lv_at hl 2 rfl) ?_
  refine z_put (ws' := [(m0, ob 4 [vI a1, vI a2, vI kd, vI x, vI ed, .ref m1]), (m1, aI G 4096 T)]) hC hK hP hD hS inX4 tyX4 tyX4_ok nmX4 rfl 0 rfl 3 (by decide) tw_567 rfl rfl rfl (Nat.le_of_ble_eq_true rfl) rfl dX4_exchangeGoals_7 (fun H locs hP hD hS => ?_)
  refine lv_iload_n hx hb dX4_exchangeGoals_10 rfl (lv_at hl 0 rfl) ?_
  exact z_iretW hC hr hlk () hAe hP hD hS [0, 1] (by decide) rfl rfl (⟨rfl, trivial⟩) dX4_exchangeGoals_11

set_option maxRecDepth 100000 in
set_option maxHeartbeats 4000000 in
theorem c_X4_mayEndIn (l : Launch) (G : zGt) (m0 m1 : Nat) (a1 a2 kd gl ed : Int) (T : Int → Int) (x : Int)  : Met l yX4_mayEndIn (Cond.code yX4_mayEndIn cX4_mayEndIn 2 (some .boolean) :: tb) ({ frames := 0, cells := 0, slots := 0, locals := 0 } : Room) (zPr G [(m0, ob 4 [vI a1, vI a2, vI kd, vI gl, vI ed, .ref m1]), (m1, aI G 4096 T)] [.ref m0, vI x]) (vp_Si (fun r => r = iI (if zand x gl = 0 then 0 else 1))) 0 0 (fun _ => False) := by
  refine Met.ofW (cc := cX4_mayEndIn) (maxL := 2) (ret := (some .boolean)) (by decide) rfl ?_
  intro p e s m args below meth c s₁ B hml hv
  obtain ⟨rfl, hP, hK⟩ := hv
  obtain ⟨hC, hr, hlk⟩ := z_begin B hml
  have hC : CallFix p m c cX4_mayEndIn 2 s _ tb RX4 := hC
  have hx := hC.1
  have hb := hC.2.1
  have hl := lv_entry ([.ref m0, vI x]) (n := 2) (Nat.le_of_ble_eq_true rfl)
  rw [lg_entry_eq]
  generalize (lg_sl ([.ref m0, vI x]) ++ List.replicate (2 - (lg_sl ([.ref m0, vI x])).length) Slot.unset).toArray = ls at hl ⊢
  have hl : lv_has ls 2 [(0, .ref m0), (1, vI x)] := hl
  refine lv_iload_n hx hb dX4_mayEndIn_0 rfl (lv_at hl 1 rfl) ?_
  refine lv_aload_n hx hb dX4_mayEndIn_1 rfl (lv_at hl 0 rfl) ?_
  refine z_get (v := vI gl) hC hK hP inX4 rfl 0 rfl 3 (by decide) tw_567 rfl dX4_mayEndIn_2 ?_
  refine z_iand hx hb dX4_mayEndIn_5 ?_
  refine z_if_eq (tgt := 13) hx hb dX4_mayEndIn_6 (by decide) (zand_rng _ _) (fun c_6 => ?_) (fun c_6 => ?_)
  · refine lv_iconst (v := iI 0) hx hb dX4_mayEndIn_13 rfl ?_
    exact z_bretR hC hr hlk (by split <;> omega) (by omega) dX4_mayEndIn_14
  · refine lv_iconst (v := iI 1) hx hb dX4_mayEndIn_9 rfl ?_
    refine lv_goto (tgt := 14) hx hb dX4_mayEndIn_10 (by decide) ?_
    exact z_bretR hC hr hlk (by split <;> omega) (by omega) dX4_mayEndIn_14

set_option maxRecDepth 100000 in
set_option maxHeartbeats 4000000 in
theorem c_X4_crcStep (l : Launch) (G : zGt) (x : Int)  : Met l yX4_crcStep (Cond.code yX4_crcStep cX4_crcStep 3 (some .int) :: tb) ({ frames := 0, cells := 0, slots := 0, locals := 0 } : Room) (zPr G [] [vI x]) (vp_Si (fun r => r = iI (crcZ x))) 0 0 (fun _ => False) := by
  refine Met.ofW (cc := cX4_crcStep) (maxL := 3) (ret := (some .int)) (by decide) rfl ?_
  intro p e s m args below meth c s₁ B hml hv
  obtain ⟨rfl, hP, hK⟩ := hv
  obtain ⟨hC, hr, hlk⟩ := z_begin B hml
  have hC : CallFix p m c cX4_crcStep 3 s _ tb RX4 := hC
  have hx := hC.1
  have hb := hC.2.1
  have hl := lv_entry ([vI x]) (n := 3) (Nat.le_of_ble_eq_true rfl)
  rw [lg_entry_eq]
  generalize (lg_sl ([vI x]) ++ List.replicate (3 - (lg_sl ([vI x])).length) Slot.unset).toArray = ls at hl ⊢
  have hl : lv_has ls 3 [(0, vI x)] := hl
  refine lv_iload_n hx hb dX4_crcStep_0 rfl (lv_at hl 0 rfl) ?_
  refine lv_iload_n hx hb dX4_crcStep_1 rfl (lv_at hl 0 rfl) ?_
  refine lv_iconst (v := iI 1) hx hb dX4_crcStep_2 rfl ?_
  refine z_ishl hx hb dX4_crcStep_3 ?_
  refine z_ixor hx hb dX4_crcStep_4 ?_
  refine lv_iload_n hx hb dX4_crcStep_5 rfl (lv_at hl 0 rfl) ?_
  refine lv_iconst (v := iI 2) hx hb dX4_crcStep_6 rfl ?_
  refine z_ishl hx hb dX4_crcStep_7 ?_
  refine z_ixor hx hb dX4_crcStep_8 ?_
  refine lv_istore_n (lv' := [(1, vI (zxor (zxor x (zshl x 1)) (zshl x 2))), (0, vI x)]) hx hb dX4_crcStep_9 rfl hl (by decide) rfl (fun ls hl => ?_)
  refine lv_iload_n hx hb dX4_crcStep_10 rfl (lv_at hl 0 rfl) ?_
  refine lv_bipush (v := iI 8) hx hb dX4_crcStep_11 (by decide) ?_
  refine z_iushr hx hb dX4_crcStep_13 ?_
  refine lv_istore_n (lv' := [(2, vI (zushr (zxor (zxor x (zshl x 1)) (zshl x 2)) 8)), (1, vI (zxor (zxor x (zshl x 1)) (zshl x 2))), (0, vI x)]) hx hb dX4_crcStep_14 rfl hl (by decide) rfl (fun ls hl => ?_)
  refine lv_iload_n hx hb dX4_crcStep_15 rfl (lv_at hl 1 rfl) ?_
  refine lv_iload_n hx hb dX4_crcStep_16 rfl (lv_at hl 0 rfl) ?_
  refine z_ixor hx hb dX4_crcStep_17 ?_
  refine lv_iload_n hx hb dX4_crcStep_18 rfl (lv_at hl 0 rfl) ?_
  refine lv_iconst (v := iI 1) hx hb dX4_crcStep_19 rfl ?_
  refine z_ishl hx hb dX4_crcStep_20 ?_
  refine z_ixor hx hb dX4_crcStep_21 ?_
  refine lv_iload_n hx hb dX4_crcStep_22 rfl (lv_at hl 0 rfl) ?_
  refine lv_iconst (v := iI 2) hx hb dX4_crcStep_23 rfl ?_
  refine z_ishl hx hb dX4_crcStep_24 ?_
  refine z_ixor hx hb dX4_crcStep_25 ?_
  refine lv_sipush (v := iI 255) hx hb dX4_crcStep_26 (by decide) ?_
  refine z_iand hx hb dX4_crcStep_29 ?_
  exact z_iretR hC hr hlk (rfl) dX4_crcStep_30

set_option maxRecDepth 100000 in
set_option maxHeartbeats 4000000 in
theorem c_X4_checkWith (l : Launch) (G : zGt) (m0 m1 : Nat) (a1 a2 kd gl ed : Int) (T : Int → Int) (x v : Int) (hkd : 0 ≤ kd ∧ kd < 3) : Met l yX4_checkWith (Cond.code yX4_checkWith cX4_checkWith 3 (some .int) :: tb) ({ frames := 1, cells := 0, slots := 0, locals := 22 } : Room) (zPr G [(m0, ob 4 [vI a1, vI a2, vI kd, vI gl, vI ed, .ref m1]), (m1, aI G 4096 T)] [.ref m0, vI x, vI v]) (vp_Si (fun r => r = iI (ckZ kd x v))) 0 0 (fun _ => False) := by
  refine Met.ofW (cc := cX4_checkWith) (maxL := 3) (ret := (some .int)) (by decide) rfl ?_
  intro p e s m args below meth c s₁ B hml hv
  obtain ⟨rfl, hP, hK⟩ := hv
  obtain ⟨hC, hr, hlk⟩ := z_begin B hml
  have hC : CallFix p m c cX4_checkWith 3 s _ tb RX4 := hC
  have hx := hC.1
  have hb := hC.2.1
  have hl := lv_entry ([.ref m0, vI x, vI v]) (n := 3) (Nat.le_of_ble_eq_true rfl)
  rw [lg_entry_eq]
  generalize (lg_sl ([.ref m0, vI x, vI v]) ++ List.replicate (3 - (lg_sl ([.ref m0, vI x, vI v])).length) Slot.unset).toArray = ls at hl ⊢
  have hl : lv_has ls 3 [(0, .ref m0), (1, vI x), (2, vI v)] := hl
  refine lv_aload_n hx hb dX4_checkWith_0 rfl (lv_at hl 0 rfl) ?_
  refine z_get (v := vI kd) hC hK hP inX4 rfl 0 rfl 2 (by decide) tw_566 rfl dX4_checkWith_1 ?_
  refine z_if_ne (tgt := 15) hx hb dX4_checkWith_4 (by decide) (by omega) (fun c_4 => ?_) (fun c_4 => ?_)
  · refine lv_aload_n hx hb dX4_checkWith_15 rfl (lv_at hl 0 rfl) ?_
    refine z_get (v := vI kd) hC hK hP inX4 rfl 0 rfl 2 (by decide) tw_566 rfl dX4_checkWith_16 ?_
    refine lv_iconst (v := iI 1) hx hb dX4_checkWith_19 rfl ?_
    refine z_icmp_ne (tgt := 29) hx hb dX4_checkWith_20 (by decide) (by omega) (fun c_20 => ?_) (fun c_20 => ?_)
    · refine lv_iload_n hx hb dX4_checkWith_29 rfl (lv_at hl 1 rfl) ?_
      refine lv_iload_n hx hb dX4_checkWith_30 rfl (lv_at hl 2 rfl) ?_
      refine z_ixor hx hb dX4_checkWith_31 ?_
      refine z_rSi (rest := []) hC hK hP (c_X4_crcStep l G (zxor x v)) ms_X4_crcStep tw_314 [] rfl rfl hl.1 rfl (Nat.le_of_ble_eq_true rfl) ⟨rfl, rfl, Nat.le_of_ble_eq_true rfl, Nat.le_of_ble_eq_true rfl⟩ ⟨Nat.le_of_ble_eq_true rfl, Nat.le_of_ble_eq_true rfl⟩ dX4_checkWith_32 ?_
      exact z_iretR hC hr hlk (by unfold ckZ; first | rw [if_neg (by omega), if_pos (by omega)] | rw [if_neg (by omega), if_neg (by omega)]) dX4_checkWith_35
    · refine lv_iload_n hx hb dX4_checkWith_23 rfl (lv_at hl 1 rfl) ?_
      refine lv_iload_n hx hb dX4_checkWith_24 rfl (lv_at hl 2 rfl) ?_
      refine z_ixor hx hb dX4_checkWith_25 ?_
      refine lv_goto (tgt := 35) hx hb dX4_checkWith_26 (by decide) ?_
      exact z_iretR hC hr hlk (by unfold ckZ; first | rw [if_neg (by omega), if_pos (by omega)] | rw [if_neg (by omega), if_neg (by omega)]) dX4_checkWith_35
  · refine lv_iload_n hx hb dX4_checkWith_7 rfl (lv_at hl 1 rfl) ?_
    refine lv_iload_n hx hb dX4_checkWith_8 rfl (lv_at hl 2 rfl) ?_
    refine z_iadd hx hb dX4_checkWith_9 ?_
    refine lv_sipush (v := iI 255) hx hb dX4_checkWith_10 (by decide) ?_
    refine z_iand hx hb dX4_checkWith_13 ?_
    exact z_iretR hC hr hlk (by unfold ckZ; rw [if_pos (by omega)]) dX4_checkWith_14

set_option maxRecDepth 100000 in
set_option maxHeartbeats 4000000 in
theorem c_X4_addEdge (l : Launch) (G : zGt) (sz : Nat) (m0 m1 : Nat) (a1 a2 kd gl ed : Int) (T : Int → Int) (fr lo hi t0 : Int) (hfr : 0 ≤ fr ∧ fr < 16) (hlo : 0 ≤ lo ∧ lo ≤ hi) (hhi : hi < 256) : Met l yX4_addEdge (Cond.code yX4_addEdge cX4_addEdge 6 none :: tb) ({ frames := 0, cells := 0, slots := 0, locals := 0 } : Room) (zPw G [(m0, ob 4 [vI a1, vI a2, vI kd, vI gl, vI ed, .ref m1]), (m1, aI G 4096 T)] sz [.ref m0, vI fr, vI lo, vI hi, vI t0]) (va_Qv (fun u : Unit => True) (fun (u : Unit) t => zB G [(m0, ob 4 [vI a1, vI a2, vI kd, vI gl, vI ed, .ref m1]), (m1, aI G 4096 T)] sz [(m0, ob 4 [vI a1, vI a2, vI kd, vI gl, vI (ed + 1), .ref m1]), (m1, aI G 4096 (addE T fr lo hi (zshl 1 t0)))] t) (va_A [(m0, ob 4 [vI a1, vI a2, vI kd, vI gl, vI ed, .ref m1]), (m1, aI G 4096 T)] sz)) 0 0 (va_A [(m0, ob 4 [vI a1, vI a2, vI kd, vI gl, vI ed, .ref m1]), (m1, aI G 4096 T)] sz) := by
  refine Met.ofW (cc := cX4_addEdge) (maxL := 6) (ret := none) (by decide) rfl ?_
  intro p e s m args below meth c s₁ B hml hv
  obtain ⟨rfl, hsz, hP, hK, hD0⟩ := hv
  subst hsz
  have hD := hD0.self (sz := s.heap.size)
  obtain ⟨A, hAe⟩ : ∃ A : Nat → Prop, A = va_A [(m0, ob 4 [vI a1, vI a2, vI kd, vI gl, vI ed, .ref m1]), (m1, aI G 4096 T)] s.heap.size := ⟨_, rfl⟩
  rw [← hAe] at hD
  have hA : ∀ q : Nat, s.heap.size ≤ q → A q := fun q h => by rw [hAe]; exact Or.inr h
  have hS : va_S A s.heap s.heap [] := va_S.rf
  obtain ⟨hC, hr, hlk⟩ := z_begin B hml
  have hC : CallFix p m c cX4_addEdge 6 s _ tb RX4 := hC
  have hx := hC.1
  have hb := hC.2.1
  have hl := lv_entry ([.ref m0, vI fr, vI lo, vI hi, vI t0]) (n := 6) (Nat.le_of_ble_eq_true rfl)
  rw [lg_entry_eq]
  generalize (lg_sl ([.ref m0, vI fr, vI lo, vI hi, vI t0]) ++ List.replicate (6 - (lg_sl ([.ref m0, vI fr, vI lo, vI hi, vI t0])).length) Slot.unset).toArray = ls at hl ⊢
  have hl : lv_has ls 6 [(0, .ref m0), (1, vI fr), (2, vI lo), (3, vI hi), (4, vI t0)] := hl
  obtain ⟨H, hHe⟩ : ∃ H : Heap, H = s.heap := ⟨_, rfl⟩
  obtain ⟨locs, hLe⟩ : ∃ L : List Loc, L = [] := ⟨_, rfl⟩
  suffices hgo : W p l e (headSpec (Cond.code yX4_addEdge cX4_addEdge 6 none :: tb) ({ frames := 0, cells := 0, slots := 0, locals := 0 } : Room)).room s m ([.ref m0, vI fr, vI lo, vI hi, vI t0] : List Value).toArray below meth c H locs 0 0 (MQ below (va_Qv (fun u : Unit => True) (fun (u : Unit) t => zB G [(m0, ob 4 [vI a1, vI a2, vI kd, vI gl, vI ed, .ref m1]), (m1, aI G 4096 T)] s.heap.size [(m0, ob 4 [vI a1, vI a2, vI kd, vI gl, vI (ed + 1), .ref m1]), (m1, aI G 4096 (addE T fr lo hi (zshl 1 t0)))] t) (va_A [(m0, ob 4 [vI a1, vI a2, vI kd, vI gl, vI ed, .ref m1]), (m1, aI G 4096 T)] s.heap.size)) ([.ref m0, vI fr, vI lo, vI hi, vI t0] : List Value).toArray s 0 0 (va_A [(m0, ob 4 [vI a1, vI a2, vI kd, vI gl, vI ed, .ref m1]), (m1, aI G 4096 T)] s.heap.size)) (F0 m 0 ls []) by rw [hHe, hLe] at hgo; exact hgo
  rw [← hHe] at hP
  have hS : va_S A s.heap H locs := by rw [hHe, hLe]; exact hS
  clear hHe hLe
  refine lv_iload_n hx hb dX4_addEdge_0 rfl (lv_at hl 2 rfl) ?_
  refine lv_istore (lv' := [(5, vI lo), (0, .ref m0), (1, vI fr), (2, vI lo), (3, vI hi), (4, vI t0)]) hx hb dX4_addEdge_1 hl (by decide) rfl (fun ls hl => ?_)
  have cut_3 : ∀ (n_ : Nat) (qv : Int) (qF : Int → Int) (H : Heap) (locs : List Loc) (ls : Array Slot), va_P G.1 vwCl [(m0, ob 4 [vI a1, vI a2, vI kd, vI gl, vI ed, .ref m1]), (m1, aI G 4096 qF)] H → va_D A [(m0, ob 4 [vI a1, vI a2, vI kd, vI gl, vI ed, .ref m1]), (m1, aI G 4096 qF)] → va_S A s.heap H locs → lv_has ls 6 [(0, .ref m0), (1, vI fr), (2, vI lo), (3, vI hi), (4, vI t0), (5, vI qv)] → (lo ≤ qv ∧ qv ≤ hi + 1) → (qF = addE T fr lo (qv - 1) (zshl 1 t0)) → (hi + 1 - qv).toNat < n_ → W p l e (headSpec (Cond.code yX4_addEdge cX4_addEdge 6 none :: tb) ({ frames := 0, cells := 0, slots := 0, locals := 0 } : Room)).room s m ([.ref m0, vI fr, vI lo, vI hi, vI t0] : List Value).toArray below meth c H locs 0 0 (MQ below (va_Qv (fun u : Unit => True) (fun (u : Unit) t => zB G [(m0, ob 4 [vI a1, vI a2, vI kd, vI gl, vI ed, .ref m1]), (m1, aI G 4096 T)] s.heap.size [(m0, ob 4 [vI a1, vI a2, vI kd, vI gl, vI (ed + 1), .ref m1]), (m1, aI G 4096 (addE T fr lo hi (zshl 1 t0)))] t) (va_A [(m0, ob 4 [vI a1, vI a2, vI kd, vI gl, vI ed, .ref m1]), (m1, aI G 4096 T)] s.heap.size)) ([.ref m0, vI fr, vI lo, vI hi, vI t0] : List Value).toArray s 0 0 (va_A [(m0, ob 4 [vI a1, vI a2, vI kd, vI gl, vI ed, .ref m1]), (m1, aI G 4096 T)] s.heap.size)) (F0 m 3 ls []) := by
    intro n_
    induction n_ with
    | zero => exact fun qv qF H locs ls hP hD hS hl hv hF hm_ => absurd hm_ (Nat.not_lt_zero _)
    | succ n_ ih_3 =>
      intro qv qF H locs ls hP hD hS hl hv hF hm_
      refine lv_iload hx hb dX4_addEdge_3 (lv_at hl 5 rfl) ?_
      refine lv_iload_n hx hb dX4_addEdge_5 rfl (lv_at hl 3 rfl) ?_
      refine z_icmp_gt (tgt := 34) hx hb dX4_addEdge_6 (by decide) (by omega) (fun c_6 => ?_) (fun c_6 => ?_)
      · have hfin : qF = addE T fr lo hi (zshl 1 t0) := by rw [hF, show qv - 1 = hi by omega]
        refine lv_aload_n hx hb dX4_addEdge_34 rfl (lv_at hl 0 rfl) ?_
        refine lv_dup hx hb dX4_addEdge_35 rfl ?_
        refine z_get (v := vI ed) hC hK hP inX4 rfl 0 rfl 4 (by decide) tw_568 rfl dX4_addEdge_36 ?_
        refine lv_iconst (v := iI 1) hx hb dX4_addEdge_39 rfl ?_
        refine z_iadd hx hb dX4_addEdge_40 ?_
        refine z_put (ws' := [(m0, ob 4 [vI a1, vI a2, vI kd, vI gl, vI (ed + 1), .ref m1]), (m1, aI G 4096 qF)]) hC hK hP hD hS inX4 tyX4 tyX4_ok nmX4 rfl 0 rfl 4 (by decide) tw_568 rfl rfl rfl (Nat.le_of_ble_eq_true rfl) rfl dX4_addEdge_41 (fun H locs hP hD hS => ?_)
        have hP : va_P G.1 vwCl [(m0, ob 4 [vI a1, vI a2, vI kd, vI gl, vI (ed + 1), .ref m1]), (m1, aI G 4096 (addE T fr lo hi (zshl 1 t0)))] H := by rw [← hfin]; exact hP
        have hD : va_D A [(m0, ob 4 [vI a1, vI a2, vI kd, vI gl, vI (ed + 1), .ref m1]), (m1, aI G 4096 (addE T fr lo hi (zshl 1 t0)))] := by rw [← hfin]; exact hD
        exact z_vretW hC hr hlk () hAe hP hD hS [0, 1] (by decide) rfl rfl (trivial) dX4_addEdge_44
      · refine lv_aload_n hx hb dX4_addEdge_9 rfl (lv_at hl 0 rfl) ?_
        refine z_get (v := .ref m1) hC hK hP inX4 rfl 0 rfl 5 (by decide) tw_569 rfl dX4_addEdge_10 ?_
        refine lv_iload hx hb dX4_addEdge_13 (lv_at hl 5 rfl) ?_
        refine lv_bipush (v := iI 16) hx hb dX4_addEdge_15 (by decide) ?_
        refine z_imul hx hb dX4_addEdge_17 ?_
        refine lv_iload_n hx hb dX4_addEdge_18 rfl (lv_at hl 1 rfl) ?_
        refine z_iadd hx hb dX4_addEdge_19 ?_
        refine lv_dup2_11 hx hb dX4_addEdge_20 rfl rfl ?_
        refine z_iald hC hK hP 1 rfl (by omega) (by decide) dX4_addEdge_21 ?_
        refine lv_iconst (v := iI 1) hx hb dX4_addEdge_22 rfl ?_
        refine lv_iload hx hb dX4_addEdge_23 (lv_at hl 4 rfl) ?_
        refine z_ishl hx hb dX4_addEdge_25 ?_
        refine z_ior hx hb dX4_addEdge_26 ?_
        refine z_iast (ws' := [(m0, ob 4 [vI a1, vI a2, vI kd, vI gl, vI ed, .ref m1]), (m1, aI G 4096 (zup qF ((qv * 16) + fr) (zor (qF ((qv * 16) + fr)) (zshl 1 t0))))]) hC hK hP hD hS 1 rfl (by omega) (by decide) rfl dX4_addEdge_27 (fun H locs hP hD hS => ?_)
        refine z_iinc (k := 5) (lv' := [(5, vI (qv + 1)), (0, .ref m0), (1, vI fr), (2, vI lo), (3, vI hi), (4, vI t0)]) hx hb dX4_addEdge_28 hl rfl (by decide) rfl (fun ls hl => ?_)
        refine lv_goto (tgt := 3) hx hb dX4_addEdge_31 (by decide) ?_
        exact ih_3 (qv + 1) (zup qF ((qv * 16) + fr) (zor (qF ((qv * 16) + fr)) (zshl 1 t0))) H locs ls hP hD hS (lv_sub hl [1, 2, 3, 4, 5, 0] rfl) (by omega) (by rw [hF]; have := addE_s T (hi := qv - 1) (bt := zshl 1 t0) (lo := lo) hfr (by omega); rw [show qv - 1 + 1 = qv by omega] at this; rw [this, show qv + 1 - 1 = qv by omega]) (by omega)
  exact cut_3 ((hi + 1 - lo).toNat + 1) lo T H locs ls hP hD hS (lv_sub hl [1, 2, 3, 4, 5, 0] rfl) (by omega) ((addE_0 T fr lo _).symm) (Nat.lt_succ_self _)

set_option maxRecDepth 100000 in
set_option maxHeartbeats 4000000 in
theorem c_X4_stepFrom (l : Launch) (G : zGt) (m0 m1 : Nat) (a1 a2 kd gl ed : Int) (T : Int → Int) (x v : Int) (hx0 : 0 ≤ x ∧ x < 65536) (hv : 0 ≤ v ∧ v < 256) : Met l yX4_stepFrom (Cond.code yX4_stepFrom cX4_stepFrom 7 (some .int) :: tb) ({ frames := 0, cells := 0, slots := 0, locals := 0 } : Room) (zPr G [(m0, ob 4 [vI a1, vI a2, vI kd, vI gl, vI ed, .ref m1]), (m1, aI G 4096 T)] [.ref m0, vI x, vI v]) (vp_Si (fun r => r = iI (stepZ T v x))) 0 0 (fun _ => False) := by
  refine Met.ofW (cc := cX4_stepFrom) (maxL := 7) (ret := (some .int)) (by decide) rfl ?_
  intro p e s m args below meth c s₁ B hml hv
  obtain ⟨rfl, hP, hK⟩ := hv
  obtain ⟨hC, hr, hlk⟩ := z_begin B hml
  have hC : CallFix p m c cX4_stepFrom 7 s _ tb RX4 := hC
  have hx := hC.1
  have hb := hC.2.1
  have hl := lv_entry ([.ref m0, vI x, vI v]) (n := 7) (Nat.le_of_ble_eq_true rfl)
  rw [lg_entry_eq]
  generalize (lg_sl ([.ref m0, vI x, vI v]) ++ List.replicate (7 - (lg_sl ([.ref m0, vI x, vI v])).length) Slot.unset).toArray = ls at hl ⊢
  have hl : lv_has ls 7 [(0, .ref m0), (1, vI x), (2, vI v)] := hl
  refine lv_iconst (v := iI 0) hx hb dX4_stepFrom_0 rfl ?_
  refine lv_istore_n (lv' := [(3, vI 0), (0, .ref m0), (1, vI x), (2, vI v)]) hx hb dX4_stepFrom_1 rfl hl (by decide) rfl (fun ls hl => ?_)
  refine lv_iload_n hx hb dX4_stepFrom_2 rfl (lv_at hl 3 rfl) ?_
  refine lv_sipush (v := iI 255) hx hb dX4_stepFrom_3 (by decide) ?_
  refine z_iand hx hb dX4_stepFrom_6 ?_
  refine z_top (y := v) (by rw [zand_255 (by omega)]; omega) ?_
  refine lv_bipush (v := iI 16) hx hb dX4_stepFrom_7 (by decide) ?_
  refine z_imul hx hb dX4_stepFrom_9 ?_
  refine lv_istore (lv' := [(4, vI (v * 16)), (3, vI 0), (0, .ref m0), (1, vI x), (2, vI v)]) hx hb dX4_stepFrom_10 hl (by decide) rfl (fun ls hl => ?_)
  refine lv_iload_n hx hb dX4_stepFrom_12 rfl (lv_at hl 3 rfl) ?_
  refine lv_istore (lv' := [(5, vI x), (4, vI (v * 16)), (3, vI 0), (0, .ref m0), (1, vI x), (2, vI v)]) hx hb dX4_stepFrom_13 hl (by decide) rfl (fun ls hl => ?_)
  refine lv_iconst (v := iI 0) hx hb dX4_stepFrom_15 rfl ?_
  refine lv_istore (lv' := [(6, vI 0), (5, vI x), (4, vI (v * 16)), (3, vI 0), (0, .ref m0), (1, vI x), (2, vI v)]) hx hb dX4_stepFrom_16 hl (by decide) rfl (fun ls hl => ?_)
  have cut_18 : ∀ (n_ : Nat) (qi : Int) (qn : Int) (qr : Int) (ls : Array Slot), lv_has ls 7 [(0, .ref m0), (1, vI x), (2, vI v), (3, vI qn), (4, vI (v * 16)), (5, vI qr), (6, vI qi)] → (0 ≤ qi ∧ qi ≤ 16) → (qn = orS (fun k => T (v * 16 + k)) x qi.toNat) → (qr = x / ((2 ^ qi.toNat : Nat) : Int)) → (0 ≤ qr ∧ qr < 65536) → (16 - qi).toNat < n_ → W p l e (headSpec (Cond.code yX4_stepFrom cX4_stepFrom 7 (some .int) :: tb) ({ frames := 0, cells := 0, slots := 0, locals := 0 } : Room)).room s m ([.ref m0, vI x, vI v] : List Value).toArray below meth c s.heap [] 0 0 (MQ below (vp_Si (fun r => r = iI (stepZ T v x))) ([.ref m0, vI x, vI v] : List Value).toArray s 0 0 (fun _ => False)) (F0 m 18 ls []) := by
    intro n_
    induction n_ with
    | zero => exact fun qi qn qr ls hl hi hnx hrs hrb hm_ => absurd hm_ (Nat.not_lt_zero _)
    | succ n_ ih_18 =>
      intro qi qn qr ls hl hi hnx hrs hrb hm_
      refine lv_iload hx hb dX4_stepFrom_18 (lv_at hl 6 rfl) ?_
      refine lv_bipush (v := iI 16) hx hb dX4_stepFrom_20 (by decide) ?_
      refine z_icmp_ge (tgt := 62) hx hb dX4_stepFrom_22 (by decide) (by omega) (fun c_22 => ?_) (fun c_22 => ?_)
      · refine lv_iload_n hx hb dX4_stepFrom_62 rfl (lv_at hl 3 rfl) ?_
        exact z_iretR hC hr hlk (by first | (rw [hnx, show qi.toNat = 16 by omega]; rfl) | (rw [hnx]; have h9 := orS_end (fun k => T (v * 16 + k)) x (k := qi.toNat) (by omega) (by omega) (16 - qi.toNat); rw [show qi.toNat + (16 - qi.toNat) = 16 by omega] at h9; exact h9.symm)) dX4_stepFrom_63
      · refine lv_iload hx hb dX4_stepFrom_25 (lv_at hl 5 rfl) ?_
        refine z_if_eq (tgt := 62) hx hb dX4_stepFrom_27 (by decide) (by omega) (fun c_27 => ?_) (fun c_27 => ?_)
        · refine lv_iload_n hx hb dX4_stepFrom_62 rfl (lv_at hl 3 rfl) ?_
          exact z_iretR hC hr hlk (by first | (rw [hnx, show qi.toNat = 16 by omega]; rfl) | (rw [hnx]; have h9 := orS_end (fun k => T (v * 16 + k)) x (k := qi.toNat) (by omega) (by omega) (16 - qi.toNat); rw [show qi.toNat + (16 - qi.toNat) = 16 by omega] at h9; exact h9.symm)) dX4_stepFrom_63
        · refine lv_iload hx hb dX4_stepFrom_30 (lv_at hl 5 rfl) ?_
          refine lv_iconst (v := iI 1) hx hb dX4_stepFrom_32 rfl ?_
          refine z_iand hx hb dX4_stepFrom_33 ?_
          refine z_if_eq (tgt := 50) hx hb dX4_stepFrom_34 (by decide) (zand_rng _ _) (fun c_34 => ?_) (fun c_34 => ?_)
          · refine lv_iload hx hb dX4_stepFrom_50 (lv_at hl 5 rfl) ?_
            refine lv_iconst (v := iI 1) hx hb dX4_stepFrom_52 rfl ?_
            refine z_iushr hx hb dX4_stepFrom_53 ?_
            refine lv_istore (lv' := [(5, vI (zushr qr 1)), (0, .ref m0), (1, vI x), (2, vI v), (3, vI qn), (4, vI (v * 16)), (6, vI qi)]) hx hb dX4_stepFrom_54 hl (by decide) rfl (fun ls hl => ?_)
            refine z_iinc (k := 6) (lv' := [(6, vI (qi + 1)), (5, vI (zushr qr 1)), (0, .ref m0), (1, vI x), (2, vI v), (3, vI qn), (4, vI (v * 16))]) hx hb dX4_stepFrom_56 hl rfl (by decide) rfl (fun ls hl => ?_)
            refine lv_goto (tgt := 18) hx hb dX4_stepFrom_59 (by decide) ?_
            exact ih_18 (qi + 1) qn (zushr qr 1) ls (lv_sub hl [2, 3, 4, 5, 6, 1, 0] rfl) (by omega) (by first | (rw [zand_1 (by omega)] at c_34; exact orS_1 (by omega) hnx (by rw [← hrs]; omega)) | (rw [zand_1 (by omega)] at c_34; exact orS_2 (by omega) hnx (by rw [← hrs]; omega))) (by rw [show (1 : Int) = ((1 : Nat) : Int) from rfl, zushr_div 1 (by omega) (by decide)]; have h9 := half_s (st := x) (i := qi) (by omega) (by omega); rw [← hrs] at h9; exact h9) (by have h9 := zushr_div (a := qr) 1 (by omega) (by decide); have h8 : zushr qr 1 = qr / 2 := h9; omega) (by omega)
          · refine lv_iload_n hx hb dX4_stepFrom_37 rfl (lv_at hl 3 rfl) ?_
            refine lv_aload_n hx hb dX4_stepFrom_38 rfl (lv_at hl 0 rfl) ?_
            refine z_get (v := .ref m1) hC hK hP inX4 rfl 0 rfl 5 (by decide) tw_569 rfl dX4_stepFrom_39 ?_
            refine lv_iload hx hb dX4_stepFrom_42 (lv_at hl 4 rfl) ?_
            refine lv_iload hx hb dX4_stepFrom_44 (lv_at hl 6 rfl) ?_
            refine z_iadd hx hb dX4_stepFrom_46 ?_
            refine z_iald hC hK hP 1 rfl (by omega) (by decide) dX4_stepFrom_47 ?_
            refine z_ior hx hb dX4_stepFrom_48 ?_
            refine lv_istore_n (lv' := [(3, vI (zor qn (T ((v * 16) + qi)))), (0, .ref m0), (1, vI x), (2, vI v), (4, vI (v * 16)), (5, vI qr), (6, vI qi)]) hx hb dX4_stepFrom_49 rfl hl (by decide) rfl (fun ls hl => ?_)
            refine lv_iload hx hb dX4_stepFrom_50 (lv_at hl 5 rfl) ?_
            refine lv_iconst (v := iI 1) hx hb dX4_stepFrom_52 rfl ?_
            refine z_iushr hx hb dX4_stepFrom_53 ?_
            refine lv_istore (lv' := [(5, vI (zushr qr 1)), (3, vI (zor qn (T ((v * 16) + qi)))), (0, .ref m0), (1, vI x), (2, vI v), (4, vI (v * 16)), (6, vI qi)]) hx hb dX4_stepFrom_54 hl (by decide) rfl (fun ls hl => ?_)
            refine z_iinc (k := 6) (lv' := [(6, vI (qi + 1)), (5, vI (zushr qr 1)), (3, vI (zor qn (T ((v * 16) + qi)))), (0, .ref m0), (1, vI x), (2, vI v), (4, vI (v * 16))]) hx hb dX4_stepFrom_56 hl rfl (by decide) rfl (fun ls hl => ?_)
            refine lv_goto (tgt := 18) hx hb dX4_stepFrom_59 (by decide) ?_
            exact ih_18 (qi + 1) (zor qn (T ((v * 16) + qi))) (zushr qr 1) ls (lv_sub hl [3, 4, 5, 2, 6, 1, 0] rfl) (by omega) (by first | (rw [zand_1 (by omega)] at c_34; exact orS_1 (by omega) hnx (by rw [← hrs]; omega)) | (rw [zand_1 (by omega)] at c_34; exact orS_2 (by omega) hnx (by rw [← hrs]; omega))) (by rw [show (1 : Int) = ((1 : Nat) : Int) from rfl, zushr_div 1 (by omega) (by decide)]; have h9 := half_s (st := x) (i := qi) (by omega) (by omega); rw [← hrs] at h9; exact h9) (by have h9 := zushr_div (a := qr) 1 (by omega) (by decide); have h8 : zushr qr 1 = qr / 2 := h9; omega) (by omega)
  exact cut_18 ((16 - (0 : Int)).toNat + 1) 0 0 x ls (lv_sub hl [4, 5, 6, 3, 2, 1, 0] rfl) (by omega) (rfl) (by simp) (by omega) (Nat.lt_succ_self _)
