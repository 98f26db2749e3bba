theorem mv_X3_byteAheadOfCheck : zMV yX3_byteAheadOfCheck cX3_byteAheadOfCheck 3 (some .int) RX3 2 := ⟨tw_710, tw_709, tw_15, tw_37, by decide +kernel⟩
theorem mv_X3_byteOfFile : zMV yX3_byteOfFile cX3_byteOfFile 3 (some .int) RX3 2 := ⟨tw_706, tw_705, tw_14, tw_37, by decide +kernel⟩
theorem mv_X3_checkByte : zMV yX3_checkByte cX3_checkByte 4 (some .int) RX3 1 := ⟨tw_716, tw_714, tw_715, tw_37, by decide +kernel⟩
theorem mv_X4_checkWith : zMV yX4_checkWith cX4_checkWith 3 (some .int) RX4 2 := ⟨tw_313, tw_311, tw_312, tw_47, by decide +kernel⟩
theorem mv_X4_firstHead : zMV yX4_firstHead cX4_firstHead 1 (some .int) RX4 0 := ⟨tw_295, tw_293, tw_294, tw_47, by decide +kernel⟩
theorem mv_X4_mayEndIn : zMV yX4_mayEndIn cX4_mayEndIn 2 (some .boolean) RX4 1 := ⟨tw_324, tw_322, tw_323, tw_47, by decide +kernel⟩
theorem mv_X4_secondHead : zMV yX4_secondHead cX4_secondHead 1 (some .int) RX4 0 := ⟨tw_299, tw_297, tw_298, tw_47, by decide +kernel⟩
theorem mv_X4_stepFrom : zMV yX4_stepFrom cX4_stepFrom 7 (some .int) RX4 2 := ⟨tw_320, tw_318, tw_319, tw_47, by decide +kernel⟩
set_option maxRecDepth 100000 in
set_option maxHeartbeats 4000000 in
theorem c_X3_size (l : Launch) (G : zGt) (e0 e1 : Nat) (nh : Int) (hd : Int → Int)  : Met l yX3_size (Cond.code yX3_size cX3_size 1 (some .int) :: tb) ({ frames := 0, cells := 0, slots := 0, locals := 0 } : Room) (zPr G [(e0, ob 3 [.ref e1, vI nh]), (e1, aI G 36 hd)] [.ref e0]) (vp_Si (fun r => r = iI nh)) 0 0 (fun _ => False) := by
  refine Met.ofW (cc := cX3_size) (maxL := 1) (ret := (some .int)) (by decide) rfl ?_
  intro p e s m args below meth c s₁ B hml hv
  obtain ⟨rfl, hP, hK⟩ := hv
  obtain ⟨hC, hr, hlk⟩ := z_begin B hml
  have hC : CallFix p m c cX3_size 1 s _ tb RX3 := hC
  have hx := hC.1
  have hb := hC.2.1
  have hl := lv_entry ([.ref e0]) (n := 1) (Nat.le_of_ble_eq_true rfl)
  rw [lg_entry_eq]
  generalize (lg_sl ([.ref e0]) ++ List.replicate (1 - (lg_sl ([.ref e0])).length) Slot.unset).toArray = ls at hl ⊢
  have hl : lv_has ls 1 [(0, .ref e0)] := hl
  refine lv_aload_n hx hb dX3_size_0 rfl (lv_at hl 0 rfl) ?_
  refine z_get (v := vI nh) hC hK hP inX3 rfl 0 rfl 1 (by decide) tw_84 rfl dX3_size_1 ?_
  exact z_iretR hC hr hlk (rfl) dX3_size_4

set_option maxRecDepth 100000 in
set_option maxHeartbeats 4000000 in
theorem c_X3_empty (l : Launch) (G : zGt) (sz : Nat) (e0 e1 : Nat) (nh : Int) (hd : Int → Int)  : Met l yX3_empty (Cond.code yX3_empty cX3_empty 1 none :: tb) ({ frames := 0, cells := 0, slots := 0, locals := 0 } : Room) (zPw G [(e0, ob 3 [.ref e1, vI nh]), (e1, aI G 36 hd)] sz [.ref e0]) (va_Qv (fun u : Unit => True) (fun (u : Unit) t => zB G [(e0, ob 3 [.ref e1, vI nh]), (e1, aI G 36 hd)] sz [(e0, ob 3 [.ref e1, vI 0]), (e1, aI G 36 hd)] t) (va_A [(e0, ob 3 [.ref e1, vI nh]), (e1, aI G 36 hd)] sz)) 0 0 (va_A [(e0, ob 3 [.ref e1, vI nh]), (e1, aI G 36 hd)] sz) := by
  refine Met.ofW (cc := cX3_empty) (maxL := 1) (ret := none) (by decide) rfl ?_
  intro p e s m args below meth c s₁ B hml hv
  obtain ⟨rfl, hsz, hP, hK, hD0⟩ := hv
  subst hsz
  have hD := hD0.self (sz := s.heap.size)
  obtain ⟨A, hAe⟩ : ∃ A : Nat → Prop, A = va_A [(e0, ob 3 [.ref e1, vI nh]), (e1, aI G 36 hd)] s.heap.size := ⟨_, rfl⟩
  rw [← hAe] at hD
  have hA : ∀ q : Nat, s.heap.size ≤ q → A q := fun q h => by rw [hAe]; exact Or.inr h
  have hS : va_S A s.heap s.heap [] := va_S.rf
  obtain ⟨hC, hr, hlk⟩ := z_begin B hml
  have hC : CallFix p m c cX3_empty 1 s _ tb RX3 := hC
  have hx := hC.1
  have hb := hC.2.1
  have hl := lv_entry ([.ref e0]) (n := 1) (Nat.le_of_ble_eq_true rfl)
  rw [lg_entry_eq]
  generalize (lg_sl ([.ref e0]) ++ List.replicate (1 - (lg_sl ([.ref e0])).length) Slot.unset).toArray = ls at hl ⊢
  have hl : lv_has ls 1 [(0, .ref e0)] := hl
  obtain ⟨H, hHe⟩ : ∃ H : Heap, H = s.heap := ⟨_, rfl⟩
  obtain ⟨locs, hLe⟩ : ∃ L : List Loc, L = [] := ⟨_, rfl⟩
  suffices hgo : W p l e (headSpec (Cond.code yX3_empty cX3_empty 1 none :: tb) ({ frames := 0, cells := 0, slots := 0, locals := 0 } : Room)).room s m ([.ref e0] : List Value).toArray below meth c H locs 0 0 (MQ below (va_Qv (fun u : Unit => True) (fun (u : Unit) t => zB G [(e0, ob 3 [.ref e1, vI nh]), (e1, aI G 36 hd)] s.heap.size [(e0, ob 3 [.ref e1, vI 0]), (e1, aI G 36 hd)] t) (va_A [(e0, ob 3 [.ref e1, vI nh]), (e1, aI G 36 hd)] s.heap.size)) ([.ref e0] : List Value).toArray s 0 0 (va_A [(e0, ob 3 [.ref e1, vI nh]), (e1, aI G 36 hd)] s.heap.size)) (F0 m 0 ls []) by rw [hHe, hLe] at hgo; exact hgo
  rw [← hHe] at hP
  have hS : va_S A s.heap H locs := by rw [hHe, hLe]; exact hS
  clear hHe hLe
  refine lv_aload_n hx hb dX3_empty_0 rfl (lv_at hl 0 rfl) ?_
  refine lv_iconst (v := iI 0) hx hb dX3_empty_1 rfl ?_
  refine z_put (ws' := [(e0, ob 3 [.ref e1, vI 0]), (e1, aI G 36 hd)]) hC hK hP hD hS inX3 tyX3 tyX3_ok nmX3 rfl 0 rfl 1 (by decide) tw_84 rfl rfl rfl (Nat.le_of_ble_eq_true rfl) rfl dX3_empty_2 (fun H locs hP hD hS => ?_)
  exact z_vretW hC hr hlk () hAe hP hD hS [0, 1] (by decide) rfl rfl (trivial) dX3_empty_5

set_option maxRecDepth 100000 in
set_option maxHeartbeats 4000000 in
theorem c_X3_add (l : Launch) (G : zGt) (sz : Nat) (e0 e1 : Nat) (nh : Int) (hd : Int → Int) (v : Int) (hnh : 0 ≤ nh ∧ nh ≤ 36) : Met l yX3_add (Cond.code yX3_add cX3_add 2 (some .int) :: tb) ({ frames := 0, cells := 0, slots := 0, locals := 0 } : Room) (zPw G [(e0, ob 3 [.ref e1, vI nh]), (e1, aI G 36 hd)] sz [.ref e0, vI v]) (va_Qi (fun (r : Int32) (u : Int × Int × (Int → Int)) => r = iI u.1 ∧ (nh < 36 → u.1 = nh + 1 ∧ u.2.1 = nh + 1 ∧ u.2.2 = zup hd nh v) ∧ (36 ≤ nh → u.1 = -1 ∧ u.2.1 = nh ∧ u.2.2 = hd)) (fun (u : Int × Int × (Int → Int)) t => zB G [(e0, ob 3 [.ref e1, vI nh]), (e1, aI G 36 hd)] sz [(e0, ob 3 [.ref e1, vI u.2.1]), (e1, aI G 36 u.2.2)] t) (va_A [(e0, ob 3 [.ref e1, vI nh]), (e1, aI G 36 hd)] sz)) 0 0 (va_A [(e0, ob 3 [.ref e1, vI nh]), (e1, aI G 36 hd)] sz) := by
  refine Met.ofW (cc := cX3_add) (maxL := 2) (ret := (some .int)) (by decide) rfl ?_
  intro p e s m args below meth c s₁ B hml hv
  obtain ⟨rfl, hsz, hP, hK, hD0⟩ := hv
  subst hsz
  have hD := hD0.self (sz := s.heap.size)
  obtain ⟨A, hAe⟩ : ∃ A : Nat → Prop, A = va_A [(e0, ob 3 [.ref e1, vI nh]), (e1, aI G 36 hd)] s.heap.size := ⟨_, rfl⟩
  rw [← hAe] at hD
  have hA : ∀ q : Nat, s.heap.size ≤ q → A q := fun q h => by rw [hAe]; exact Or.inr h
  have hS : va_S A s.heap s.heap [] := va_S.rf
  obtain ⟨hC, hr, hlk⟩ := z_begin B hml
  have hC : CallFix p m c cX3_add 2 s _ tb RX3 := hC
  have hx := hC.1
  have hb := hC.2.1
  have hl := lv_entry ([.ref e0, vI v]) (n := 2) (Nat.le_of_ble_eq_true rfl)
  rw [lg_entry_eq]
  generalize (lg_sl ([.ref e0, vI v]) ++ List.replicate (2 - (lg_sl ([.ref e0, vI v])).length) Slot.unset).toArray = ls at hl ⊢
  have hl : lv_has ls 2 [(0, .ref e0), (1, vI v)] := hl
  obtain ⟨H, hHe⟩ : ∃ H : Heap, H = s.heap := ⟨_, rfl⟩
  obtain ⟨locs, hLe⟩ : ∃ L : List Loc, L = [] := ⟨_, rfl⟩
  suffices hgo : W p l e (headSpec (Cond.code yX3_add cX3_add 2 (some .int) :: tb) ({ frames := 0, cells := 0, slots := 0, locals := 0 } : Room)).room s m ([.ref e0, vI v] : List Value).toArray below meth c H locs 0 0 (MQ below (va_Qi (fun (r : Int32) (u : Int × Int × (Int → Int)) => r = iI u.1 ∧ (nh < 36 → u.1 = nh + 1 ∧ u.2.1 = nh + 1 ∧ u.2.2 = zup hd nh v) ∧ (36 ≤ nh → u.1 = -1 ∧ u.2.1 = nh ∧ u.2.2 = hd)) (fun (u : Int × Int × (Int → Int)) t => zB G [(e0, ob 3 [.ref e1, vI nh]), (e1, aI G 36 hd)] s.heap.size [(e0, ob 3 [.ref e1, vI u.2.1]), (e1, aI G 36 u.2.2)] t) (va_A [(e0, ob 3 [.ref e1, vI nh]), (e1, aI G 36 hd)] s.heap.size)) ([.ref e0, vI v] : List Value).toArray s 0 0 (va_A [(e0, ob 3 [.ref e1, vI nh]), (e1, aI G 36 hd)] s.heap.size)) (F0 m 0 ls []) by rw [hHe, hLe] at hgo; exact hgo
  rw [← hHe] at hP
  have hS : va_S A s.heap H locs := by rw [hHe, hLe]; exact hS
  clear hHe hLe
  refine lv_aload_n hx hb dX3_add_0 rfl (lv_at hl 0 rfl) ?_
  refine z_get (v := vI nh) hC hK hP inX3 rfl 0 rfl 1 (by decide) tw_84 rfl dX3_add_1 ?_
  refine lv_bipush (v := iI 36) hx hb dX3_add_4 (by decide) ?_
  refine z_icmp_lt (tgt := 11) hx hb dX3_add_6 (by decide) (by omega) (fun c_6 => ?_) (fun c_6 => ?_)
  · refine lv_aload_n hx hb dX3_add_11 rfl (lv_at hl 0 rfl) ?_
    refine z_get (v := .ref e1) hC hK hP inX3 rfl 0 rfl 0 (by decide) tw_83 rfl dX3_add_12 ?_
    refine lv_aload_n hx hb dX3_add_15 rfl (lv_at hl 0 rfl) ?_
    refine z_get (v := vI nh) hC hK hP inX3 rfl 0 rfl 1 (by decide) tw_84 rfl dX3_add_16 ?_
    refine lv_iload_n hx hb dX3_add_19 rfl (lv_at hl 1 rfl) ?_
    refine z_iast (ws' := [(e0, ob 3 [.ref e1, vI nh]), (e1, aI G 36 (zup hd nh v))]) hC hK hP hD hS 1 rfl (by omega) (by decide) rfl dX3_add_20 (fun H locs hP hD hS => ?_)
    refine lv_aload_n hx hb dX3_add_21 rfl (lv_at hl 0 rfl) ?_
    refine lv_dup hx hb dX3_add_22 rfl ?_
    refine z_get (v := vI nh) hC hK hP inX3 rfl 0 rfl 1 (by decide) tw_84 rfl dX3_add_23 ?_
    refine lv_iconst (v := iI 1) hx hb dX3_add_26 rfl ?_
    refine z_iadd hx hb dX3_add_27 ?_
    refine z_put (ws' := [(e0, ob 3 [.ref e1, vI (nh + 1)]), (e1, aI G 36 (zup hd nh v))]) hC hK hP hD hS inX3 tyX3 tyX3_ok nmX3 rfl 0 rfl 1 (by decide) tw_84 rfl rfl rfl (Nat.le_of_ble_eq_true rfl) rfl dX3_add_28 (fun H locs hP hD hS => ?_)
    refine lv_aload_n hx hb dX3_add_31 rfl (lv_at hl 0 rfl) ?_
    refine z_get (v := vI (nh + 1)) hC hK hP inX3 rfl 0 rfl 1 (by decide) tw_84 rfl dX3_add_32 ?_
    exact z_iretW hC hr hlk ⟨nh + 1, nh + 1, zup hd nh v⟩ hAe hP hD hS [0, 1] (by decide) rfl rfl (⟨rfl, by refine ⟨fun h => ?_, fun h => ?_⟩ <;> first | (exfalso; omega) | exact ⟨by omega, rfl, rfl⟩⟩) dX3_add_35
  · refine lv_iconst (v := iI (-1)) hx hb dX3_add_9 rfl ?_
    exact z_iretW hC hr hlk ⟨-1, nh, hd⟩ hAe hP hD hS [0, 1] (by decide) rfl rfl (⟨rfl, by refine ⟨fun h => ?_, fun h => ?_⟩ <;> first | (exfalso; omega) | exact ⟨by omega, rfl, rfl⟩⟩) dX3_add_10

set_option maxRecDepth 100000 in
set_option maxHeartbeats 4000000 in
theorem c_X3_isRightFor (l : Launch) (G : zGt) (e0 e1 : Nat) (nh : Int) (hd : Int → Int) (m0 m1 : Nat) (a1 a2 kd gl ed : Int) (T : Int → Int) (hnh : 0 ≤ nh ∧ nh ≤ 36) (hhd : ∀ j : Int, 0 ≤ j ∧ j < nh → 0 ≤ hd j ∧ hd j < 256) (hT : ∀ j : Int, 0 ≤ j ∧ j < 4096 → 0 ≤ T j ∧ T j < 65536) : Met l yX3_isRightFor (Cond.code yX3_isRightFor cX3_isRightFor 4 (some .boolean) :: tb) ({ frames := 1, cells := 0, slots := 0, locals := 26 } : Room) (zPr G [(e0, ob 3 [.ref e1, vI nh]), (e1, aI G 36 hd), (m0, ob 4 [vI a1, vI a2, vI kd, vI gl, vI ed, .ref m1]), (m1, aI G 4096 T)] [.ref e0, .ref m0]) (vp_Si (fun r => r = iI (if zand (runS T hd nh.toNat) gl = 0 then 0 else 1))) 0 0 (fun _ => False) := by
  refine Met.ofW (cc := cX3_isRightFor) (maxL := 4) (ret := (some .boolean)) (by decide) rfl ?_
  intro p e s m args below meth c s₁ B hml hv
  obtain ⟨rfl, hP, hK⟩ := hv
  obtain ⟨hC, hr, hlk⟩ := z_begin B hml
  have hC : CallFix p m c cX3_isRightFor 4 s _ tb RX3 := hC
  have hx := hC.1
  have hb := hC.2.1
  have hl := lv_entry ([.ref e0, .ref m0]) (n := 4) (Nat.le_of_ble_eq_true rfl)
  rw [lg_entry_eq]
  generalize (lg_sl ([.ref e0, .ref m0]) ++ List.replicate (4 - (lg_sl ([.ref e0, .ref m0])).length) Slot.unset).toArray = ls at hl ⊢
  have hl : lv_has ls 4 [(0, .ref e0), (1, .ref m0)] := hl
  refine lv_iconst (v := iI 1) hx hb dX3_isRightFor_0 rfl ?_
  refine lv_istore_n (lv' := [(2, vI 1), (0, .ref e0), (1, .ref m0)]) hx hb dX3_isRightFor_1 rfl hl (by decide) rfl (fun ls hl => ?_)
  refine lv_iconst (v := iI 0) hx hb dX3_isRightFor_2 rfl ?_
  refine lv_istore_n (lv' := [(3, vI 0), (2, vI 1), (0, .ref e0), (1, .ref m0)]) hx hb dX3_isRightFor_3 rfl hl (by decide) rfl (fun ls hl => ?_)
  have cut_4 : ∀ (n_ : Nat) (qi : Int) (qs : Int) (ls : Array Slot), lv_has ls 4 [(0, .ref e0), (1, .ref m0), (2, vI qs), (3, vI qi)] → (0 ≤ qi ∧ qi ≤ nh) → (qs = runS T hd qi.toNat) → (nh - qi).toNat < n_ → W p l e (headSpec (Cond.code yX3_isRightFor cX3_isRightFor 4 (some .boolean) :: tb) ({ frames := 1, cells := 0, slots := 0, locals := 26 } : Room)).room s m ([.ref e0, .ref m0] : List Value).toArray below meth c s.heap [] 0 0 (MQ below (vp_Si (fun r => r = iI (if zand (runS T hd nh.toNat) gl = 0 then 0 else 1))) ([.ref e0, .ref m0] : List Value).toArray s 0 0 (fun _ => False)) (F0 m 4 ls []) := by
    intro n_
    induction n_ with
    | zero => exact fun qi qs ls hl hqi hqs hm_ => absurd hm_ (Nat.not_lt_zero _)
    | succ n_ ih_4 =>
      intro qi qs ls hl hqi hqs hm_
      refine lv_iload_n hx hb dX3_isRightFor_4 rfl (lv_at hl 3 rfl) ?_
      refine lv_aload_n hx hb dX3_isRightFor_5 rfl (lv_at hl 0 rfl) ?_
      refine z_get (v := vI nh) hC hK hP inX3 rfl 0 rfl 1 (by decide) tw_84 rfl dX3_isRightFor_6 ?_
      refine z_icmp_ge (tgt := 30) hx hb dX3_isRightFor_9 (by decide) (by omega) (fun c_9 => ?_) (fun c_9 => ?_)
      · refine lv_aload_n hx hb dX3_isRightFor_30 rfl (lv_at hl 1 rfl) ?_
        refine lv_iload_n hx hb dX3_isRightFor_31 rfl (lv_at hl 2 rfl) ?_
        refine z_rVi (q0 := 2) (ci := 4) (b := m0) (rest := []) hC hK hP (c_X4_mayEndIn l G m0 m1 a1 a2 kd gl ed T qs) mv_X4_mayEndIn tw_695 [2, 3] rfl rfl rfl rfl hl.1 rfl (Nat.le_of_ble_eq_true rfl) ⟨rfl, rfl, Nat.le_of_ble_eq_true rfl, Nat.le_of_ble_eq_true rfl⟩ ⟨Nat.le_of_ble_eq_true rfl, Nat.le_of_ble_eq_true rfl⟩ dX3_isRightFor_32 ?_
        exact z_bretR hC hr hlk (by rw [hqs, show qi = nh by omega]) (by split <;> simp) dX3_isRightFor_35
      · refine lv_aload_n hx hb dX3_isRightFor_12 rfl (lv_at hl 1 rfl) ?_
        refine lv_iload_n hx hb dX3_isRightFor_13 rfl (lv_at hl 2 rfl) ?_
        refine lv_aload_n hx hb dX3_isRightFor_14 rfl (lv_at hl 0 rfl) ?_
        refine z_get (v := .ref e1) hC hK hP inX3 rfl 0 rfl 0 (by decide) tw_83 rfl dX3_isRightFor_15 ?_
        refine lv_iload_n hx hb dX3_isRightFor_18 rfl (lv_at hl 3 rfl) ?_
        refine z_iald hC hK hP 1 rfl (by omega) (by decide) dX3_isRightFor_19 ?_
        refine z_rVi (q0 := 2) (ci := 4) (b := m0) (rest := []) hC hK hP (c_X4_stepFrom l G m0 m1 a1 a2 kd gl ed T qs (hd qi) (by rw [hqs]; exact runS_bd hT _ (fun j hj => hhd j (by omega))) (hhd qi (by omega))) mv_X4_stepFrom tw_694 [2, 3] rfl rfl rfl rfl hl.1 rfl (Nat.le_of_ble_eq_true rfl) ⟨rfl, rfl, Nat.le_of_ble_eq_true rfl, Nat.le_of_ble_eq_true rfl⟩ ⟨Nat.le_of_ble_eq_true rfl, Nat.le_of_ble_eq_true rfl⟩ dX3_isRightFor_20 ?_
        refine lv_istore_n (lv' := [(2, vI (stepZ T (hd qi) qs)), (0, .ref e0), (1, .ref m0), (3, vI qi)]) hx hb dX3_isRightFor_23 rfl hl (by decide) rfl (fun ls hl => ?_)
        refine z_iinc (k := 3) (lv' := [(3, vI (qi + 1)), (2, vI (stepZ T (hd qi) qs)), (0, .ref e0), (1, .ref m0)]) hx hb dX3_isRightFor_24 hl rfl (by decide) rfl (fun ls hl => ?_)
        refine lv_goto (tgt := 4) hx hb dX3_isRightFor_27 (by decide) ?_
        exact ih_4 (qi + 1) (stepZ T (hd qi) qs) ls (lv_sub hl [2, 3, 1, 0] rfl) (by omega) (runS_s (by omega) hqs) (by omega)
  exact cut_4 ((nh - (0 : Int)).toNat + 1) 0 1 ls (lv_sub hl [2, 3, 1, 0] rfl) (by omega) (rfl) (Nat.lt_succ_self _)

set_option maxRecDepth 100000 in
set_option maxHeartbeats 4000000 in
theorem c_X3_byteAheadOfCheck (l : Launch) (G : zGt) (e0 e1 : Nat) (nh : Int) (hd : Int → Int) (m0 m1 : Nat) (a1 a2 kd gl ed : Int) (T : Int → Int) (j : Int) (hnh : 0 ≤ nh ∧ nh ≤ 36) (hj : 0 ≤ j ∧ j < 3 + nh) : Met l yX3_byteAheadOfCheck (Cond.code yX3_byteAheadOfCheck cX3_byteAheadOfCheck 3 (some .int) :: tb) ({ frames := 1, cells := 0, slots := 0, locals := 20 } : Room) (zPr G [(e0, ob 3 [.ref e1, vI nh]), (e1, aI G 36 hd), (m0, ob 4 [vI a1, vI a2, vI kd, vI gl, vI ed, .ref m1]), (m1, aI G 4096 T)] [.ref e0, .ref m0, vI j]) (vp_Si (fun r => r = iI (txA a1 a2 nh hd j))) 0 0 (fun _ => False) := by
  refine Met.ofW (cc := cX3_byteAheadOfCheck) (maxL := 3) (ret := (some .int)) (by decide) rfl ?_
  intro p e s m args below meth c s₁ B hml hv
  obtain ⟨rfl, hP, hK⟩ := hv
  obtain ⟨hC, hr, hlk⟩ := z_begin B hml
  have hC : CallFix p m c cX3_byteAheadOfCheck 3 s _ tb RX3 := hC
  have hx := hC.1
  have hb := hC.2.1
  have hl := lv_entry ([.ref e0, .ref m0, vI j]) (n := 3) (Nat.le_of_ble_eq_true rfl)
  rw [lg_entry_eq]
  generalize (lg_sl ([.ref e0, .ref m0, vI j]) ++ List.replicate (3 - (lg_sl ([.ref e0, .ref m0, vI j])).length) Slot.unset).toArray = ls at hl ⊢
  have hl : lv_has ls 3 [(0, .ref e0), (1, .ref m0), (2, vI j)] := hl
  refine lv_iload_n hx hb dX3_byteAheadOfCheck_0 rfl (lv_at hl 2 rfl) ?_
  refine lv_iconst (v := iI 3) hx hb dX3_byteAheadOfCheck_1 rfl ?_
  refine z_icmp_lt (tgt := 28) hx hb dX3_byteAheadOfCheck_2 (by decide) (by omega) (fun c_2 => ?_) (fun c_2 => ?_)
  · refine lv_iload_n hx hb dX3_byteAheadOfCheck_28 rfl (lv_at hl 2 rfl) ?_
    refine lv_iconst (v := iI 2) hx hb dX3_byteAheadOfCheck_29 rfl ?_
    refine z_icmp_ne (tgt := 38) hx hb dX3_byteAheadOfCheck_30 (by decide) (by omega) (fun c_30 => ?_) (fun c_30 => ?_)
    · refine lv_iload_n hx hb dX3_byteAheadOfCheck_38 rfl (lv_at hl 2 rfl) ?_
      refine z_if_ne (tgt := 49) hx hb dX3_byteAheadOfCheck_39 (by decide) (by omega) (fun c_39 => ?_) (fun c_39 => ?_)
      · refine lv_aload_n hx hb dX3_byteAheadOfCheck_49 rfl (lv_at hl 1 rfl) ?_
        refine z_rVi (q0 := 2) (ci := 4) (b := m0) (rest := []) hC hK hP (c_X4_secondHead l G m0 m1 a1 a2 kd gl ed T) mv_X4_secondHead tw_712 [2, 3] rfl rfl rfl rfl hl.1 rfl (Nat.le_of_ble_eq_true rfl) ⟨rfl, rfl, Nat.le_of_ble_eq_true rfl, Nat.le_of_ble_eq_true rfl⟩ ⟨Nat.le_of_ble_eq_true rfl, Nat.le_of_ble_eq_true rfl⟩ dX3_byteAheadOfCheck_50 ?_
        exact z_iretR hC hr hlk (by unfold txA; first | rw [if_neg (by omega), if_neg (by omega), if_pos (by omega)] | rw [if_neg (by omega), if_neg (by omega), if_neg (by omega)]) dX3_byteAheadOfCheck_53
      · refine lv_aload_n hx hb dX3_byteAheadOfCheck_42 rfl (lv_at hl 1 rfl) ?_
        refine z_rVi (q0 := 2) (ci := 4) (b := m0) (rest := []) hC hK hP (c_X4_firstHead l G m0 m1 a1 a2 kd gl ed T) mv_X4_firstHead tw_711 [2, 3] rfl rfl rfl rfl hl.1 rfl (Nat.le_of_ble_eq_true rfl) ⟨rfl, rfl, Nat.le_of_ble_eq_true rfl, Nat.le_of_ble_eq_true rfl⟩ ⟨Nat.le_of_ble_eq_true rfl, Nat.le_of_ble_eq_true rfl⟩ dX3_byteAheadOfCheck_43 ?_
        refine lv_goto (tgt := 53) hx hb dX3_byteAheadOfCheck_46 (by decide) ?_
        exact z_iretR hC hr hlk (by unfold txA; first | rw [if_neg (by omega), if_neg (by omega), if_pos (by omega)] | rw [if_neg (by omega), if_neg (by omega), if_neg (by omega)]) dX3_byteAheadOfCheck_53
    · refine lv_aload_n hx hb dX3_byteAheadOfCheck_33 rfl (lv_at hl 0 rfl) ?_
      refine z_get (v := vI nh) hC hK hP inX3 rfl 0 rfl 1 (by decide) tw_84 rfl dX3_byteAheadOfCheck_34 ?_
      exact z_iretR hC hr hlk (by unfold txA; rw [if_neg (by omega), if_pos (by omega)]) dX3_byteAheadOfCheck_37
  · refine lv_iload_n hx hb dX3_byteAheadOfCheck_5 rfl (lv_at hl 2 rfl) ?_
    refine lv_iconst (v := iI 3) hx hb dX3_byteAheadOfCheck_6 rfl ?_
    refine z_isub hx hb dX3_byteAheadOfCheck_7 ?_
    refine lv_aload_n hx hb dX3_byteAheadOfCheck_8 rfl (lv_at hl 0 rfl) ?_
    refine z_get (v := vI nh) hC hK hP inX3 rfl 0 rfl 1 (by decide) tw_84 rfl dX3_byteAheadOfCheck_9 ?_
    refine z_icmp_ge (tgt := 26) hx hb dX3_byteAheadOfCheck_12 (by decide) (by omega) (fun c_12 => ?_) (fun c_12 => ?_)
    · exfalso; omega
    · refine lv_aload_n hx hb dX3_byteAheadOfCheck_15 rfl (lv_at hl 0 rfl) ?_
      refine z_get (v := .ref e1) hC hK hP inX3 rfl 0 rfl 0 (by decide) tw_83 rfl dX3_byteAheadOfCheck_16 ?_
      refine lv_iload_n hx hb dX3_byteAheadOfCheck_19 rfl (lv_at hl 2 rfl) ?_
      refine lv_iconst (v := iI 3) hx hb dX3_byteAheadOfCheck_20 rfl ?_
      refine z_isub hx hb dX3_byteAheadOfCheck_21 ?_
      refine z_iald hC hK hP 1 rfl (by omega) (by decide) dX3_byteAheadOfCheck_22 ?_
      refine lv_goto (tgt := 27) hx hb dX3_byteAheadOfCheck_23 (by decide) ?_
      exact z_iretR hC hr hlk (by unfold txA; rw [if_pos (by omega)]) dX3_byteAheadOfCheck_27

set_option maxRecDepth 100000 in
set_option maxHeartbeats 4000000 in
theorem c_X3_checkByte (l : Launch) (G : zGt) (e0 e1 : Nat) (nh : Int) (hd : Int → Int) (m0 m1 : Nat) (a1 a2 kd gl ed : Int) (T : Int → Int) (hnh : 0 ≤ nh ∧ nh ≤ 36) (hkd : 0 ≤ kd ∧ kd < 3) : Met l yX3_checkByte (Cond.code yX3_checkByte cX3_checkByte 4 (some .int) :: tb) ({ frames := 2, cells := 0, slots := 0, locals := 44 } : Room) (zPr G [(e0, ob 3 [.ref e1, vI nh]), (e1, aI G 36 hd), (m0, ob 4 [vI a1, vI a2, vI kd, vI gl, vI ed, .ref m1]), (m1, aI G 4096 T)] [.ref e0, .ref m0]) (vp_Si (fun r => r = iI (ckF kd (txA a1 a2 nh hd) (3 + nh).toNat))) 0 0 (fun _ => False) := by
  refine Met.ofW (cc := cX3_checkByte) (maxL := 4) (ret := (some .int)) (by decide) rfl ?_
  intro p e s m args below meth c s₁ B hml hv
  obtain ⟨rfl, hP, hK⟩ := hv
  obtain ⟨hC, hr, hlk⟩ := z_begin B hml
  have hC : CallFix p m c cX3_checkByte 4 s _ tb RX3 := hC
  have hx := hC.1
  have hb := hC.2.1
  have hl := lv_entry ([.ref e0, .ref m0]) (n := 4) (Nat.le_of_ble_eq_true rfl)
  rw [lg_entry_eq]
  generalize (lg_sl ([.ref e0, .ref m0]) ++ List.replicate (4 - (lg_sl ([.ref e0, .ref m0])).length) Slot.unset).toArray = ls at hl ⊢
  have hl : lv_has ls 4 [(0, .ref e0), (1, .ref m0)] := hl
  refine lv_iconst (v := iI 0) hx hb dX3_checkByte_0 rfl ?_
  refine lv_istore_n (lv' := [(2, vI 0), (0, .ref e0), (1, .ref m0)]) hx hb dX3_checkByte_1 rfl hl (by decide) rfl (fun ls hl => ?_)
  refine lv_iconst (v := iI 0) hx hb dX3_checkByte_2 rfl ?_
  refine lv_istore_n (lv' := [(3, vI 0), (2, vI 0), (0, .ref e0), (1, .ref m0)]) hx hb dX3_checkByte_3 rfl hl (by decide) rfl (fun ls hl => ?_)
  have cut_4 : ∀ (n_ : Nat) (qi : Int) (qs : Int) (ls : Array Slot), lv_has ls 4 [(0, .ref e0), (1, .ref m0), (2, vI qs), (3, vI qi)] → (0 ≤ qi ∧ qi ≤ 3 + nh) → (qs = ckF kd (txA a1 a2 nh hd) qi.toNat) → (3 + nh - qi).toNat < n_ → W p l e (headSpec (Cond.code yX3_checkByte cX3_checkByte 4 (some .int) :: tb) ({ frames := 2, cells := 0, slots := 0, locals := 44 } : Room)).room s m ([.ref e0, .ref m0] : List Value).toArray below meth c s.heap [] 0 0 (MQ below (vp_Si (fun r => r = iI (ckF kd (txA a1 a2 nh hd) (3 + nh).toNat))) ([.ref e0, .ref m0] : List Value).toArray s 0 0 (fun _ => False)) (F0 m 4 ls []) := by
    intro n_
    induction n_ with
    | zero => exact fun qi qs ls hl hqi hqs hm_ => absurd hm_ (Nat.not_lt_zero _)
    | succ n_ ih_4 =>
      intro qi qs ls hl hqi hqs hm_
      refine lv_iload_n hx hb dX3_checkByte_4 rfl (lv_at hl 3 rfl) ?_
      refine lv_iconst (v := iI 3) hx hb dX3_checkByte_5 rfl ?_
      refine lv_aload_n hx hb dX3_checkByte_6 rfl (lv_at hl 0 rfl) ?_
      refine z_get (v := vI nh) hC hK hP inX3 rfl 0 rfl 1 (by decide) tw_84 rfl dX3_checkByte_7 ?_
      refine z_iadd hx hb dX3_checkByte_10 ?_
      refine z_icmp_ge (tgt := 32) hx hb dX3_checkByte_11 (by decide) (by omega) (fun c_11 => ?_) (fun c_11 => ?_)
      · refine lv_iload_n hx hb dX3_checkByte_32 rfl (lv_at hl 2 rfl) ?_
        exact z_iretR hC hr hlk (by rw [hqs, show qi = 3 + nh by omega]) dX3_checkByte_33
      · refine lv_aload_n hx hb dX3_checkByte_14 rfl (lv_at hl 1 rfl) ?_
        refine lv_iload_n hx hb dX3_checkByte_15 rfl (lv_at hl 2 rfl) ?_
        refine lv_aload_n hx hb dX3_checkByte_16 rfl (lv_at hl 0 rfl) ?_
        refine lv_aload_n hx hb dX3_checkByte_17 rfl (lv_at hl 1 rfl) ?_
        refine lv_iload_n hx hb dX3_checkByte_18 rfl (lv_at hl 3 rfl) ?_
        refine z_rVi (q0 := 0) (ci := 3) (b := e0) (rest := [vI qs, .ref m0]) hC hK hP (c_X3_byteAheadOfCheck l G e0 e1 nh hd m0 m1 a1 a2 kd gl ed T qi (by omega) (by omega)) mv_X3_byteAheadOfCheck tw_707 [0, 1, 2, 3] rfl rfl rfl rfl hl.1 rfl (Nat.le_of_ble_eq_true rfl) ⟨rfl, rfl, Nat.le_of_ble_eq_true rfl, Nat.le_of_ble_eq_true rfl⟩ ⟨Nat.le_of_ble_eq_true rfl, Nat.le_of_ble_eq_true rfl⟩ dX3_checkByte_19 ?_
        refine z_rVi (q0 := 2) (ci := 4) (b := m0) (rest := []) hC hK hP (c_X4_checkWith l G m0 m1 a1 a2 kd gl ed T qs (txA a1 a2 nh hd qi) (by omega)) mv_X4_checkWith tw_717 [2, 3] rfl rfl rfl rfl hl.1 rfl (Nat.le_of_ble_eq_true rfl) ⟨rfl, rfl, Nat.le_of_ble_eq_true rfl, Nat.le_of_ble_eq_true rfl⟩ ⟨Nat.le_of_ble_eq_true rfl, Nat.le_of_ble_eq_true rfl⟩ dX3_checkByte_22 ?_
        refine lv_istore_n (lv' := [(2, vI (ckZ kd qs (txA a1 a2 nh hd qi))), (0, .ref e0), (1, .ref m0), (3, vI qi)]) hx hb dX3_checkByte_25 rfl hl (by decide) rfl (fun ls hl => ?_)
        refine z_iinc (k := 3) (lv' := [(3, vI (qi + 1)), (2, vI (ckZ kd qs (txA a1 a2 nh hd qi))), (0, .ref e0), (1, .ref m0)]) hx hb dX3_checkByte_26 hl rfl (by decide) rfl (fun ls hl => ?_)
        refine lv_goto (tgt := 4) hx hb dX3_checkByte_29 (by decide) ?_
        exact ih_4 (qi + 1) (ckZ kd qs (txA a1 a2 nh hd qi)) ls (lv_sub hl [2, 3, 1, 0] rfl) (by omega) (ckF_s (by omega) hqs) (by omega)
  exact cut_4 ((3 + nh - (0 : Int)).toNat + 1) 0 0 ls (lv_sub hl [2, 3, 1, 0] rfl) (by omega) (rfl) (Nat.lt_succ_self _)

set_option maxRecDepth 100000 in
set_option maxHeartbeats 4000000 in
theorem c_X3_byteOfFile (l : Launch) (G : zGt) (e0 e1 : Nat) (nh : Int) (hd : Int → Int) (m0 m1 : Nat) (a1 a2 kd gl ed : Int) (T : Int → Int) (j : Int) (hnh : 0 ≤ nh ∧ nh ≤ 36) (hkd : 0 ≤ kd ∧ kd < 3) (hj : 0 ≤ j ∧ j < 2147483648) : Met l yX3_byteOfFile (Cond.code yX3_byteOfFile cX3_byteOfFile 3 (some .int) :: tb) ({ frames := 3, cells := 0, slots := 0, locals := 67 } : Room) (zPr G [(e0, ob 3 [.ref e1, vI nh]), (e1, aI G 36 hd), (m0, ob 4 [vI a1, vI a2, vI kd, vI gl, vI ed, .ref m1]), (m1, aI G 4096 T)] [.ref e0, .ref m0, vI j]) (vp_Si (fun r => r = iI (txF kd a1 a2 nh hd j))) 0 0 (fun _ => False) := by
  refine Met.ofW (cc := cX3_byteOfFile) (maxL := 3) (ret := (some .int)) (by decide) rfl ?_
  intro p e s m args below meth c s₁ B hml hv
  obtain ⟨rfl, hP, hK⟩ := hv
  obtain ⟨hC, hr, hlk⟩ := z_begin B hml
  have hC : CallFix p m c cX3_byteOfFile 3 s _ tb RX3 := hC
  have hx := hC.1
  have hb := hC.2.1
  have hl := lv_entry ([.ref e0, .ref m0, vI j]) (n := 3) (Nat.le_of_ble_eq_true rfl)
  rw [lg_entry_eq]
  generalize (lg_sl ([.ref e0, .ref m0, vI j]) ++ List.replicate (3 - (lg_sl ([.ref e0, .ref m0, vI j])).length) Slot.unset).toArray = ls at hl ⊢
  have hl : lv_has ls 3 [(0, .ref e0), (1, .ref m0), (2, vI j)] := hl
  refine lv_iload_n hx hb dX3_byteOfFile_0 rfl (lv_at hl 2 rfl) ?_
  refine lv_iconst (v := iI 3) hx hb dX3_byteOfFile_1 rfl ?_
  refine lv_aload_n hx hb dX3_byteOfFile_2 rfl (lv_at hl 0 rfl) ?_
  refine z_get (v := vI nh) hC hK hP inX3 rfl 0 rfl 1 (by decide) tw_84 rfl dX3_byteOfFile_3 ?_
  refine z_iadd hx hb dX3_byteOfFile_6 ?_
  refine z_icmp_ge (tgt := 17) hx hb dX3_byteOfFile_7 (by decide) (by omega) (fun c_7 => ?_) (fun c_7 => ?_)
  · refine lv_iload_n hx hb dX3_byteOfFile_17 rfl (lv_at hl 2 rfl) ?_
    refine lv_iconst (v := iI 3) hx hb dX3_byteOfFile_18 rfl ?_
    refine lv_aload_n hx hb dX3_byteOfFile_19 rfl (lv_at hl 0 rfl) ?_
    refine z_get (v := vI nh) hC hK hP inX3 rfl 0 rfl 1 (by decide) tw_84 rfl dX3_byteOfFile_20 ?_
    refine z_iadd hx hb dX3_byteOfFile_23 ?_
    refine z_icmp_ne (tgt := 35) hx hb dX3_byteOfFile_24 (by decide) (by omega) (fun c_24 => ?_) (fun c_24 => ?_)
    · refine lv_iconst (v := iI 0) hx hb dX3_byteOfFile_35 rfl ?_
      exact z_iretR hC hr hlk (by unfold txF; first | rw [if_neg (by omega), if_pos (by omega)] | rw [if_neg (by omega), if_neg (by omega)]) dX3_byteOfFile_36
    · refine lv_aload_n hx hb dX3_byteOfFile_27 rfl (lv_at hl 0 rfl) ?_
      refine lv_aload_n hx hb dX3_byteOfFile_28 rfl (lv_at hl 1 rfl) ?_
      refine z_rVi (q0 := 0) (ci := 3) (b := e0) (rest := []) hC hK hP (c_X3_checkByte l G e0 e1 nh hd m0 m1 a1 a2 kd gl ed T (by omega) (by omega)) mv_X3_checkByte tw_713 [0, 1, 2, 3] rfl rfl rfl rfl hl.1 rfl (Nat.le_of_ble_eq_true rfl) ⟨rfl, rfl, Nat.le_of_ble_eq_true rfl, Nat.le_of_ble_eq_true rfl⟩ ⟨Nat.le_of_ble_eq_true rfl, Nat.le_of_ble_eq_true rfl⟩ dX3_byteOfFile_29 ?_
      refine lv_goto (tgt := 36) hx hb dX3_byteOfFile_32 (by decide) ?_
      exact z_iretR hC hr hlk (by unfold txF; first | rw [if_neg (by omega), if_pos (by omega)] | rw [if_neg (by omega), if_neg (by omega)]) dX3_byteOfFile_36
  · refine lv_aload_n hx hb dX3_byteOfFile_10 rfl (lv_at hl 0 rfl) ?_
    refine lv_aload_n hx hb dX3_byteOfFile_11 rfl (lv_at hl 1 rfl) ?_
    refine lv_iload_n hx hb dX3_byteOfFile_12 rfl (lv_at hl 2 rfl) ?_
    refine z_rVi (q0 := 0) (ci := 3) (b := e0) (rest := []) hC hK hP (c_X3_byteAheadOfCheck l G e0 e1 nh hd m0 m1 a1 a2 kd gl ed T j (by omega) (by omega)) mv_X3_byteAheadOfCheck tw_707 [0, 1, 2, 3] rfl rfl rfl rfl hl.1 rfl (Nat.le_of_ble_eq_true rfl) ⟨rfl, rfl, Nat.le_of_ble_eq_true rfl, Nat.le_of_ble_eq_true rfl⟩ ⟨Nat.le_of_ble_eq_true rfl, Nat.le_of_ble_eq_true rfl⟩ dX3_byteOfFile_13 ?_
    exact z_iretR hC hr hlk (by unfold txF; rw [if_pos (by omega)]) dX3_byteOfFile_16

set_option maxRecDepth 100000 in
set_option maxHeartbeats 4000000 in
theorem c_X3_blockOfFile (l : Launch) (G : zGt) (e0 e1 : Nat) (nh : Int) (hd : Int → Int) (m0 m1 : Nat) (a1 a2 kd gl ed : Int) (T : Int → Int) (k : Int) (hnh : 0 ≤ nh ∧ nh ≤ 36) (hkd : 0 ≤ kd ∧ kd < 3) (hk : 0 ≤ k ∧ k < 5) : Met l yX3_blockOfFile (Cond.code yX3_blockOfFile cX3_blockOfFile 6 (some .long) :: tb) ({ frames := 4, cells := 0, slots := 0, locals := 89 } : Room) (zPr G [(e0, ob 3 [.ref e1, vI nh]), (e1, aI G 36 hd), (m0, ob 4 [vI a1, vI a2, vI kd, vI gl, vI ed, .ref m1]), (m1, aI G 4096 T)] [.ref e0, .ref m0, vI k]) (vp_Sl (fun r => r = lgF (txF kd a1 a2 nh hd) k 8)) 0 0 (fun _ => False) := by
  refine Met.ofW (cc := cX3_blockOfFile) (maxL := 6) (ret := (some .long)) (by decide) rfl ?_
  intro p e s m args below meth c s₁ B hml hv
  obtain ⟨rfl, hP, hK⟩ := hv
  obtain ⟨hC, hr, hlk⟩ := z_begin B hml
  have hC : CallFix p m c cX3_blockOfFile 6 s _ tb RX3 := hC
  have hx := hC.1
  have hb := hC.2.1
  have hl := lv_entry ([.ref e0, .ref m0, vI k]) (n := 6) (Nat.le_of_ble_eq_true rfl)
  rw [lg_entry_eq]
  generalize (lg_sl ([.ref e0, .ref m0, vI k]) ++ List.replicate (6 - (lg_sl ([.ref e0, .ref m0, vI k])).length) Slot.unset).toArray = ls at hl ⊢
  have hl : lv_has ls 6 [(0, .ref e0), (1, .ref m0), (2, vI k)] := hl
  refine lv_lconst (v := 0) hx hb dX3_blockOfFile_0 rfl ?_
  refine lv_lstore_n (lv' := [(3, .long 0), (0, .ref e0), (1, .ref m0), (2, vI k)]) hx hb dX3_blockOfFile_1 rfl hl (by decide) rfl (fun ls hl => ?_)
  refine lv_iconst (v := iI 0) hx hb dX3_blockOfFile_2 rfl ?_
  refine lv_istore (lv' := [(5, vI 0), (3, .long 0), (0, .ref e0), (1, .ref m0), (2, vI k)]) hx hb dX3_blockOfFile_3 hl (by decide) rfl (fun ls hl => ?_)
  have cut_5 : ∀ (n_ : Nat) (qi : Int) (qs : Int64) (ls : Array Slot), lv_has ls 6 [(0, .ref e0), (1, .ref m0), (2, vI k), (3, .long qs), (5, vI qi)] → (0 ≤ qi ∧ qi ≤ 8) → (qs = lgF (txF kd a1 a2 nh hd) k qi.toNat) → (8 - qi).toNat < n_ → W p l e (headSpec (Cond.code yX3_blockOfFile cX3_blockOfFile 6 (some .long) :: tb) ({ frames := 4, cells := 0, slots := 0, locals := 89 } : Room)).room s m ([.ref e0, .ref m0, vI k] : List Value).toArray below meth c s.heap [] 0 0 (MQ below (vp_Sl (fun r => r = lgF (txF kd a1 a2 nh hd) k 8)) ([.ref e0, .ref m0, vI k] : List Value).toArray s 0 0 (fun _ => False)) (F0 m 5 ls []) := by
    intro n_
    induction n_ with
    | zero => exact fun qi qs ls hl hqi hqs hm_ => absurd hm_ (Nat.not_lt_zero _)
    | succ n_ ih_5 =>
      intro qi qs ls hl hqi hqs hm_
      refine lv_iload hx hb dX3_blockOfFile_5 (lv_at hl 4 rfl) ?_
      refine lv_bipush (v := iI 8) hx hb dX3_blockOfFile_7 (by decide) ?_
      refine z_icmp_ge (tgt := 37) hx hb dX3_blockOfFile_9 (by decide) (by omega) (fun c_9 => ?_) (fun c_9 => ?_)
      · refine lv_lload_n hx hb dX3_blockOfFile_37 rfl (lv_at hl 3 rfl) ?_
        exact z_lretR hC hr hlk (by rw [hqs, show qi = 8 by omega]; rfl) dX3_blockOfFile_38
      · refine lv_lload_n hx hb dX3_blockOfFile_12 rfl (lv_at hl 3 rfl) ?_
        refine lv_bipush (v := iI 8) hx hb dX3_blockOfFile_13 (by decide) ?_
        refine lv_lshl (v := zlshl qs 8) hx hb dX3_blockOfFile_15 rfl ?_
        refine lv_aload_n hx hb dX3_blockOfFile_16 rfl (lv_at hl 0 rfl) ?_
        refine lv_aload_n hx hb dX3_blockOfFile_17 rfl (lv_at hl 1 rfl) ?_
        refine lv_iload_n hx hb dX3_blockOfFile_18 rfl (lv_at hl 2 rfl) ?_
        refine lv_bipush (v := iI 8) hx hb dX3_blockOfFile_19 (by decide) ?_
        refine z_imul hx hb dX3_blockOfFile_21 ?_
        refine lv_iload hx hb dX3_blockOfFile_22 (lv_at hl 4 rfl) ?_
        refine z_iadd hx hb dX3_blockOfFile_24 ?_
        refine z_rVi (q0 := 0) (ci := 3) (b := e0) (rest := [.long (zlshl qs 8)]) hC hK hP (c_X3_byteOfFile l G e0 e1 nh hd m0 m1 a1 a2 kd gl ed T ((k * 8) + qi) (by omega) (by omega) (by omega)) mv_X3_byteOfFile tw_703 [0, 1, 2, 3] rfl rfl rfl rfl hl.1 rfl (Nat.le_of_ble_eq_true rfl) ⟨rfl, rfl, Nat.le_of_ble_eq_true rfl, Nat.le_of_ble_eq_true rfl⟩ ⟨Nat.le_of_ble_eq_true rfl, Nat.le_of_ble_eq_true rfl⟩ dX3_blockOfFile_25 ?_
        refine lv_i2l (v := zi2l (txF kd a1 a2 nh hd ((k * 8) + qi))) hx hb dX3_blockOfFile_28 rfl ?_
        refine lv_lor hx hb dX3_blockOfFile_29 ?_
        refine lv_lstore_n (lv' := [(3, .long ((zlshl qs 8) ||| (zi2l (txF kd a1 a2 nh hd ((k * 8) + qi))))), (0, .ref e0), (1, .ref m0), (2, vI k), (5, vI qi)]) hx hb dX3_blockOfFile_30 rfl hl (by decide) rfl (fun ls hl => ?_)
        refine z_iinc (k := 4) (lv' := [(5, vI (qi + 1)), (3, .long ((zlshl qs 8) ||| (zi2l (txF kd a1 a2 nh hd ((k * 8) + qi))))), (0, .ref e0), (1, .ref m0), (2, vI k)]) hx hb dX3_blockOfFile_31 hl rfl (by decide) rfl (fun ls hl => ?_)
        refine lv_goto (tgt := 5) hx hb dX3_blockOfFile_34 (by decide) ?_
        exact ih_5 (qi + 1) ((zlshl qs 8) ||| (zi2l (txF kd a1 a2 nh hd ((k * 8) + qi)))) ls (lv_sub hl [2, 3, 4, 1, 0] rfl) (by omega) (lgF_s (by omega) hqs) (by omega)
  exact cut_5 ((8 - (0 : Int)).toNat + 1) 0 0 ls (lv_sub hl [2, 3, 4, 1, 0] rfl) (by omega) (rfl) (Nat.lt_succ_self _)
