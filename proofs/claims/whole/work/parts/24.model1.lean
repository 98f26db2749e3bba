theorem ms_X7_isByte : zMS yX7_isByte cX7_isByte 1 (some .boolean) 1 := ⟨tw_905, tw_904, tw_41, by decide +kernel⟩
theorem mv_X7_bad : zMV yX7_bad cX7_bad 3 (some .boolean) RX7 2 := ⟨tw_909, tw_908, tw_17, tw_41, by decide +kernel⟩
theorem mv_X7_isBlock : zMV yX7_isBlock cX7_isBlock 2 (some .boolean) RX7 1 := ⟨tw_934, tw_933, tw_19, tw_41, by decide +kernel⟩
theorem mv_X7_isMake : zMV yX7_isMake cX7_isMake 2 (some .boolean) RX7 1 := ⟨tw_917, tw_916, tw_18, tw_41, by decide +kernel⟩
set_option maxRecDepth 100000 in
set_option maxHeartbeats 4000000 in
theorem c_X7_thrown (l : Launch) (G : zGt) (o0 : Nat) (a : Nat → Nat) (th mk bl hm rc lk lg kp fi lo wt gr eb ec ef iv : Int)  : Met l yX7_thrown (Cond.code yX7_thrown cX7_thrown 1 (some .int) :: tb) ({ frames := 0, cells := 0, slots := 0, locals := 0 } : Room) (zPr G [(o0, ob 7 [vI th, .ref (a 1), .ref (a 2), .ref (a 3), .ref (a 4), .ref (a 5), vI mk, .ref (a 7), .ref (a 8), vI bl, .ref (a 10), vI hm, vI rc, .ref (a 13), .ref (a 14), .ref (a 15), vI lk, vI lg, vI kp, vI fi, vI lo, vI wt, .ref (a 22), .ref (a 23), .ref (a 24), .ref (a 25), .ref (a 26), vI gr, .ref (a 28), .ref (a 29), vI eb, vI ec, vI ef, vI iv])] [.ref o0]) (vp_Si (fun r => r = iI th)) 0 0 (fun _ => False) := by
  refine Met.ofW (cc := cX7_thrown) (maxL := 1) (ret := (some .int)) (by decide) rfl ?_
  intro p e s m args below meth c s₁ B hml hv
  obtain ⟨rfl, hP, hK⟩ := hv
  obtain ⟨hC, hr, hlk⟩ := z_begin B hml
  have hC : CallFix p m c cX7_thrown 1 s _ tb RX7 := hC
  have hx := hC.1
  have hb := hC.2.1
  have hl := lv_entry ([.ref o0]) (n := 1) (Nat.le_of_ble_eq_true rfl)
  rw [lg_entry_eq]
  generalize (lg_sl ([.ref o0]) ++ List.replicate (1 - (lg_sl ([.ref o0])).length) Slot.unset).toArray = ls at hl ⊢
  have hl : lv_has ls 1 [(0, .ref o0)] := hl
  refine lv_aload_n hx hb dX7_thrown_0 rfl (lv_at hl 0 rfl) ?_
  refine z_get (v := vI th) hC hK hP inX7 rfl 0 rfl 0 (by decide) tw_792 rfl dX7_thrown_1 ?_
  exact z_iretR hC hr hlk (rfl) dX7_thrown_4

set_option maxRecDepth 100000 in
set_option maxHeartbeats 4000000 in
theorem c_X7_isByte (l : Launch) (G : zGt) (x : Int) (hx : -2147483648 ≤ x ∧ x < 2147483648) : Met l yX7_isByte (Cond.code yX7_isByte cX7_isByte 1 (some .boolean) :: tb) ({ frames := 0, cells := 0, slots := 0, locals := 0 } : Room) (zPr G [] [vI x]) (vp_Si (fun r => r = iI (if 0 ≤ x ∧ x < 256 then 1 else 0))) 0 0 (fun _ => False) := by
  refine Met.ofW (cc := cX7_isByte) (maxL := 1) (ret := (some .boolean)) (by decide) rfl ?_
  intro p e s m args below meth c s₁ B hml hv
  obtain ⟨rfl, hP, hK⟩ := hv
  obtain ⟨hC, hr, hlk⟩ := z_begin B hml
  have hC : CallFix p m c cX7_isByte 1 s _ tb RX7 := hC
  have hx := hC.1
  have hb := hC.2.1
  have hl := lv_entry ([vI x]) (n := 1) (Nat.le_of_ble_eq_true rfl)
  rw [lg_entry_eq]
  generalize (lg_sl ([vI x]) ++ List.replicate (1 - (lg_sl ([vI x])).length) Slot.unset).toArray = ls at hl ⊢
  have hl : lv_has ls 1 [(0, vI x)] := hl
  refine lv_iload_n hx hb dX7_isByte_0 rfl (lv_at hl 0 rfl) ?_
  refine z_if_lt (tgt := 15) hx hb dX7_isByte_1 (by decide) (by omega) (fun c_1 => ?_) (fun c_1 => ?_)
  · refine lv_iconst (v := iI 0) hx hb dX7_isByte_15 rfl ?_
    exact z_bretR hC hr hlk (by split <;> omega) (by omega) dX7_isByte_16
  · refine lv_iload_n hx hb dX7_isByte_4 rfl (lv_at hl 0 rfl) ?_
    refine lv_sipush (v := iI 256) hx hb dX7_isByte_5 (by decide) ?_
    refine z_icmp_ge (tgt := 15) hx hb dX7_isByte_8 (by decide) (by omega) (fun c_8 => ?_) (fun c_8 => ?_)
    · refine lv_iconst (v := iI 0) hx hb dX7_isByte_15 rfl ?_
      exact z_bretR hC hr hlk (by split <;> omega) (by omega) dX7_isByte_16
    · refine lv_iconst (v := iI 1) hx hb dX7_isByte_11 rfl ?_
      refine lv_goto (tgt := 16) hx hb dX7_isByte_12 (by decide) ?_
      exact z_bretR hC hr hlk (by split <;> omega) (by omega) dX7_isByte_16

set_option maxRecDepth 100000 in
set_option maxHeartbeats 4000000 in
theorem c_X7_isByte_t (l : Launch) (G : zGt) (x : Int) (hx : 0 ≤ x ∧ x < 256) : Met l yX7_isByte (Cond.code yX7_isByte cX7_isByte 1 (some .boolean) :: tb) ({ frames := 0, cells := 0, slots := 0, locals := 0 } : Room) (zPr G [] [vI x]) (vp_Si (fun r => r = iI 1)) 0 0 (fun _ => False) := by
  refine Met.ofW (cc := cX7_isByte) (maxL := 1) (ret := (some .boolean)) (by decide) rfl ?_
  intro p e s m args below meth c s₁ B hml hv
  obtain ⟨rfl, hP, hK⟩ := hv
  obtain ⟨hC, hr, hlk⟩ := z_begin B hml
  have hC : CallFix p m c cX7_isByte 1 s _ tb RX7 := hC
  have hx := hC.1
  have hb := hC.2.1
  have hl := lv_entry ([vI x]) (n := 1) (Nat.le_of_ble_eq_true rfl)
  rw [lg_entry_eq]
  generalize (lg_sl ([vI x]) ++ List.replicate (1 - (lg_sl ([vI x])).length) Slot.unset).toArray = ls at hl ⊢
  have hl : lv_has ls 1 [(0, vI x)] := hl
  refine lv_iload_n hx hb dX7_isByte_0 rfl (lv_at hl 0 rfl) ?_
  refine z_if_lt (tgt := 15) hx hb dX7_isByte_1 (by decide) (by omega) (fun c_1 => ?_) (fun c_1 => ?_)
  · exfalso; omega
  · refine lv_iload_n hx hb dX7_isByte_4 rfl (lv_at hl 0 rfl) ?_
    refine lv_sipush (v := iI 256) hx hb dX7_isByte_5 (by decide) ?_
    refine z_icmp_ge (tgt := 15) hx hb dX7_isByte_8 (by decide) (by omega) (fun c_8 => ?_) (fun c_8 => ?_)
    · exfalso; omega
    · refine lv_iconst (v := iI 1) hx hb dX7_isByte_11 rfl ?_
      refine lv_goto (tgt := 16) hx hb dX7_isByte_12 (by decide) ?_
      exact z_bretR hC hr hlk (rfl) (by omega) dX7_isByte_16

set_option maxRecDepth 100000 in
set_option maxHeartbeats 4000000 in
theorem c_X7_bad_1 (l : Launch) (G : zGt) (sz : Nat) (o0 : Nat) (a : Nat → Nat) (th mk bl hm rc lk lg kp fi lo wt gr eb ec ef iv : Int) (y : Int)  : Met l yX7_bad (Cond.code yX7_bad cX7_bad 3 (some .boolean) :: tb) ({ frames := 0, cells := 0, slots := 0, locals := 0 } : Room) (zPw G [(o0, ob 7 [vI th, .ref (a 1), .ref (a 2), .ref (a 3), .ref (a 4), .ref (a 5), vI mk, .ref (a 7), .ref (a 8), vI bl, .ref (a 10), vI hm, vI rc, .ref (a 13), .ref (a 14), .ref (a 15), vI lk, vI lg, vI kp, vI fi, vI lo, vI wt, .ref (a 22), .ref (a 23), .ref (a 24), .ref (a 25), .ref (a 26), vI gr, .ref (a 28), .ref (a 29), vI eb, vI ec, vI ef, vI iv])] sz [.ref o0, vI 1, vI y]) (va_Qi (fun (r : Int32) (u : Unit) => r = iI 1 ∧ True) (fun (u : Unit) t => zB G [(o0, ob 7 [vI th, .ref (a 1), .ref (a 2), .ref (a 3), .ref (a 4), .ref (a 5), vI mk, .ref (a 7), .ref (a 8), vI bl, .ref (a 10), vI hm, vI rc, .ref (a 13), .ref (a 14), .ref (a 15), vI lk, vI lg, vI kp, vI fi, vI lo, vI wt, .ref (a 22), .ref (a 23), .ref (a 24), .ref (a 25), .ref (a 26), vI gr, .ref (a 28), .ref (a 29), vI eb, vI ec, vI ef, vI iv])] sz [(o0, ob 7 [vI y, .ref (a 1), .ref (a 2), .ref (a 3), .ref (a 4), .ref (a 5), vI mk, .ref (a 7), .ref (a 8), vI bl, .ref (a 10), vI hm, vI rc, .ref (a 13), .ref (a 14), .ref (a 15), vI lk, vI lg, vI kp, vI fi, vI lo, vI wt, .ref (a 22), .ref (a 23), .ref (a 24), .ref (a 25), .ref (a 26), vI gr, .ref (a 28), .ref (a 29), vI eb, vI ec, vI ef, vI iv])] t) (va_A [(o0, ob 7 [vI th, .ref (a 1), .ref (a 2), .ref (a 3), .ref (a 4), .ref (a 5), vI mk, .ref (a 7), .ref (a 8), vI bl, .ref (a 10), vI hm, vI rc, .ref (a 13), .ref (a 14), .ref (a 15), vI lk, vI lg, vI kp, vI fi, vI lo, vI wt, .ref (a 22), .ref (a 23), .ref (a 24), .ref (a 25), .ref (a 26), vI gr, .ref (a 28), .ref (a 29), vI eb, vI ec, vI ef, vI iv])] sz)) 0 0 (va_A [(o0, ob 7 [vI th, .ref (a 1), .ref (a 2), .ref (a 3), .ref (a 4), .ref (a 5), vI mk, .ref (a 7), .ref (a 8), vI bl, .ref (a 10), vI hm, vI rc, .ref (a 13), .ref (a 14), .ref (a 15), vI lk, vI lg, vI kp, vI fi, vI lo, vI wt, .ref (a 22), .ref (a 23), .ref (a 24), .ref (a 25), .ref (a 26), vI gr, .ref (a 28), .ref (a 29), vI eb, vI ec, vI ef, vI iv])] sz) := by
  refine Met.ofW (cc := cX7_bad) (maxL := 3) (ret := (some .boolean)) (by decide) rfl ?_
  intro p e s m args below meth c s₁ B hml hv
  obtain ⟨rfl, hsz, hP, hK, hD0⟩ := hv
  subst hsz
  have hD := hD0.self (sz := s.heap.size)
  obtain ⟨A, hAe⟩ : ∃ A : Nat → Prop, A = va_A [(o0, ob 7 [vI th, .ref (a 1), .ref (a 2), .ref (a 3), .ref (a 4), .ref (a 5), vI mk, .ref (a 7), .ref (a 8), vI bl, .ref (a 10), vI hm, vI rc, .ref (a 13), .ref (a 14), .ref (a 15), vI lk, vI lg, vI kp, vI fi, vI lo, vI wt, .ref (a 22), .ref (a 23), .ref (a 24), .ref (a 25), .ref (a 26), vI gr, .ref (a 28), .ref (a 29), vI eb, vI ec, vI ef, vI iv])] s.heap.size := ⟨_, rfl⟩
  rw [← hAe] at hD
  have hA : ∀ q : Nat, s.heap.size ≤ q → A q := fun q h => by rw [hAe]; exact Or.inr h
  have hS : va_S A s.heap s.heap [] := va_S.rf
  obtain ⟨hC, hr, hlk⟩ := z_begin B hml
  have hC : CallFix p m c cX7_bad 3 s _ tb RX7 := hC
  have hx := hC.1
  have hb := hC.2.1
  have hl := lv_entry ([.ref o0, vI 1, vI y]) (n := 3) (Nat.le_of_ble_eq_true rfl)
  rw [lg_entry_eq]
  generalize (lg_sl ([.ref o0, vI 1, vI y]) ++ List.replicate (3 - (lg_sl ([.ref o0, vI 1, vI y])).length) Slot.unset).toArray = ls at hl ⊢
  have hl : lv_has ls 3 [(0, .ref o0), (1, vI 1), (2, vI y)] := hl
  obtain ⟨H, hHe⟩ : ∃ H : Heap, H = s.heap := ⟨_, rfl⟩
  obtain ⟨locs, hLe⟩ : ∃ L : List Loc, L = [] := ⟨_, rfl⟩
  suffices hgo : W p l e (headSpec (Cond.code yX7_bad cX7_bad 3 (some .boolean) :: tb) ({ frames := 0, cells := 0, slots := 0, locals := 0 } : Room)).room s m ([.ref o0, vI 1, vI y] : List Value).toArray below meth c H locs 0 0 (MQ below (va_Qi (fun (r : Int32) (u : Unit) => r = iI 1 ∧ True) (fun (u : Unit) t => zB G [(o0, ob 7 [vI th, .ref (a 1), .ref (a 2), .ref (a 3), .ref (a 4), .ref (a 5), vI mk, .ref (a 7), .ref (a 8), vI bl, .ref (a 10), vI hm, vI rc, .ref (a 13), .ref (a 14), .ref (a 15), vI lk, vI lg, vI kp, vI fi, vI lo, vI wt, .ref (a 22), .ref (a 23), .ref (a 24), .ref (a 25), .ref (a 26), vI gr, .ref (a 28), .ref (a 29), vI eb, vI ec, vI ef, vI iv])] s.heap.size [(o0, ob 7 [vI y, .ref (a 1), .ref (a 2), .ref (a 3), .ref (a 4), .ref (a 5), vI mk, .ref (a 7), .ref (a 8), vI bl, .ref (a 10), vI hm, vI rc, .ref (a 13), .ref (a 14), .ref (a 15), vI lk, vI lg, vI kp, vI fi, vI lo, vI wt, .ref (a 22), .ref (a 23), .ref (a 24), .ref (a 25), .ref (a 26), vI gr, .ref (a 28), .ref (a 29), vI eb, vI ec, vI ef, vI iv])] t) (va_A [(o0, ob 7 [vI th, .ref (a 1), .ref (a 2), .ref (a 3), .ref (a 4), .ref (a 5), vI mk, .ref (a 7), .ref (a 8), vI bl, .ref (a 10), vI hm, vI rc, .ref (a 13), .ref (a 14), .ref (a 15), vI lk, vI lg, vI kp, vI fi, vI lo, vI wt, .ref (a 22), .ref (a 23), .ref (a 24), .ref (a 25), .ref (a 26), vI gr, .ref (a 28), .ref (a 29), vI eb, vI ec, vI ef, vI iv])] s.heap.size)) ([.ref o0, vI 1, vI y] : List Value).toArray s 0 0 (va_A [(o0, ob 7 [vI th, .ref (a 1), .ref (a 2), .ref (a 3), .ref (a 4), .ref (a 5), vI mk, .ref (a 7), .ref (a 8), vI bl, .ref (a 10), vI hm, vI rc, .ref (a 13), .ref (a 14), .ref (a 15), vI lk, vI lg, vI kp, vI fi, vI lo, vI wt, .ref (a 22), .ref (a 23), .ref (a 24), .ref (a 25), .ref (a 26), vI gr, .ref (a 28), .ref (a 29), vI eb, vI ec, vI ef, vI iv])] s.heap.size)) (F0 m 0 ls []) by rw [hHe, hLe] at hgo; exact hgo
  rw [← hHe] at hP
  have hS : va_S A s.heap H locs := by rw [hHe, hLe]; exact hS
  clear hHe hLe
  refine lv_iload_n hx hb dX7_bad_0 rfl (lv_at hl 1 rfl) ?_
  refine z_if_eq (tgt := 9) hx hb dX7_bad_1 (by decide) (by omega) (fun c_1 => ?_) (fun c_1 => ?_)
  · exact absurd c_1 (by decide)
  · refine lv_aload_n hx hb dX7_bad_4 rfl (lv_at hl 0 rfl) ?_
    refine lv_iload_n hx hb dX7_bad_5 rfl (lv_at hl 2 rfl) ?_
    refine z_put (ws' := [(o0, ob 7 [vI y, .ref (a 1), .ref (a 2), .ref (a 3), .ref (a 4), .ref (a 5), vI mk, .ref (a 7), .ref (a 8), vI bl, .ref (a 10), vI hm, vI rc, .ref (a 13), .ref (a 14), .ref (a 15), vI lk, vI lg, vI kp, vI fi, vI lo, vI wt, .ref (a 22), .ref (a 23), .ref (a 24), .ref (a 25), .ref (a 26), vI gr, .ref (a 28), .ref (a 29), vI eb, vI ec, vI ef, vI iv])]) hC hK hP hD hS inX7 tyX7 tyX7_ok nmX7 rfl 0 rfl 0 (by decide) tw_792 rfl rfl rfl (Nat.le_of_ble_eq_true rfl) rfl dX7_bad_6 (fun H locs hP hD hS => ?_)
    refine lv_iload_n hx hb dX7_bad_9 rfl (lv_at hl 1 rfl) ?_
    exact z_bretW hC hr hlk () hAe hP hD hS [0] (by decide) rfl rfl (⟨rfl, trivial⟩) (by simp) dX7_bad_10

set_option maxRecDepth 100000 in
set_option maxHeartbeats 4000000 in
theorem c_X7_bad_0 (l : Launch) (G : zGt) (sz : Nat) (o0 : Nat) (a : Nat → Nat) (th mk bl hm rc lk lg kp fi lo wt gr eb ec ef iv : Int) (y : Int)  : Met l yX7_bad (Cond.code yX7_bad cX7_bad 3 (some .boolean) :: tb) ({ frames := 0, cells := 0, slots := 0, locals := 0 } : Room) (zPw G [(o0, ob 7 [vI th, .ref (a 1), .ref (a 2), .ref (a 3), .ref (a 4), .ref (a 5), vI mk, .ref (a 7), .ref (a 8), vI bl, .ref (a 10), vI hm, vI rc, .ref (a 13), .ref (a 14), .ref (a 15), vI lk, vI lg, vI kp, vI fi, vI lo, vI wt, .ref (a 22), .ref (a 23), .ref (a 24), .ref (a 25), .ref (a 26), vI gr, .ref (a 28), .ref (a 29), vI eb, vI ec, vI ef, vI iv])] sz [.ref o0, vI 0, vI y]) (va_Qi (fun (r : Int32) (u : Unit) => r = iI 0 ∧ True) (fun (u : Unit) t => zB G [(o0, ob 7 [vI th, .ref (a 1), .ref (a 2), .ref (a 3), .ref (a 4), .ref (a 5), vI mk, .ref (a 7), .ref (a 8), vI bl, .ref (a 10), vI hm, vI rc, .ref (a 13), .ref (a 14), .ref (a 15), vI lk, vI lg, vI kp, vI fi, vI lo, vI wt, .ref (a 22), .ref (a 23), .ref (a 24), .ref (a 25), .ref (a 26), vI gr, .ref (a 28), .ref (a 29), vI eb, vI ec, vI ef, vI iv])] sz [(o0, ob 7 [vI th, .ref (a 1), .ref (a 2), .ref (a 3), .ref (a 4), .ref (a 5), vI mk, .ref (a 7), .ref (a 8), vI bl, .ref (a 10), vI hm, vI rc, .ref (a 13), .ref (a 14), .ref (a 15), vI lk, vI lg, vI kp, vI fi, vI lo, vI wt, .ref (a 22), .ref (a 23), .ref (a 24), .ref (a 25), .ref (a 26), vI gr, .ref (a 28), .ref (a 29), vI eb, vI ec, vI ef, vI iv])] t) (va_A [(o0, ob 7 [vI th, .ref (a 1), .ref (a 2), .ref (a 3), .ref (a 4), .ref (a 5), vI mk, .ref (a 7), .ref (a 8), vI bl, .ref (a 10), vI hm, vI rc, .ref (a 13), .ref (a 14), .ref (a 15), vI lk, vI lg, vI kp, vI fi, vI lo, vI wt, .ref (a 22), .ref (a 23), .ref (a 24), .ref (a 25), .ref (a 26), vI gr, .ref (a 28), .ref (a 29), vI eb, vI ec, vI ef, vI iv])] sz)) 0 0 (va_A [(o0, ob 7 [vI th, .ref (a 1), .ref (a 2), .ref (a 3), .ref (a 4), .ref (a 5), vI mk, .ref (a 7), .ref (a 8), vI bl, .ref (a 10), vI hm, vI rc, .ref (a 13), .ref (a 14), .ref (a 15), vI lk, vI lg, vI kp, vI fi, vI lo, vI wt, .ref (a 22), .ref (a 23), .ref (a 24), .ref (a 25), .ref (a 26), vI gr, .ref (a 28), .ref (a 29), vI eb, vI ec, vI ef, vI iv])] sz) := by
  refine Met.ofW (cc := cX7_bad) (maxL := 3) (ret := (some .boolean)) (by decide) rfl ?_
  intro p e s m args below meth c s₁ B hml hv
  obtain ⟨rfl, hsz, hP, hK, hD0⟩ := hv
  subst hsz
  have hD := hD0.self (sz := s.heap.size)
  obtain ⟨A, hAe⟩ : ∃ A : Nat → Prop, A = va_A [(o0, ob 7 [vI th, .ref (a 1), .ref (a 2), .ref (a 3), .ref (a 4), .ref (a 5), vI mk, .ref (a 7), .ref (a 8), vI bl, .ref (a 10), vI hm, vI rc, .ref (a 13), .ref (a 14), .ref (a 15), vI lk, vI lg, vI kp, vI fi, vI lo, vI wt, .ref (a 22), .ref (a 23), .ref (a 24), .ref (a 25), .ref (a 26), vI gr, .ref (a 28), .ref (a 29), vI eb, vI ec, vI ef, vI iv])] s.heap.size := ⟨_, rfl⟩
  rw [← hAe] at hD
  have hA : ∀ q : Nat, s.heap.size ≤ q → A q := fun q h => by rw [hAe]; exact Or.inr h
  have hS : va_S A s.heap s.heap [] := va_S.rf
  obtain ⟨hC, hr, hlk⟩ := z_begin B hml
  have hC : CallFix p m c cX7_bad 3 s _ tb RX7 := hC
  have hx := hC.1
  have hb := hC.2.1
  have hl := lv_entry ([.ref o0, vI 0, vI y]) (n := 3) (Nat.le_of_ble_eq_true rfl)
  rw [lg_entry_eq]
  generalize (lg_sl ([.ref o0, vI 0, vI y]) ++ List.replicate (3 - (lg_sl ([.ref o0, vI 0, vI y])).length) Slot.unset).toArray = ls at hl ⊢
  have hl : lv_has ls 3 [(0, .ref o0), (1, vI 0), (2, vI y)] := hl
  obtain ⟨H, hHe⟩ : ∃ H : Heap, H = s.heap := ⟨_, rfl⟩
  obtain ⟨locs, hLe⟩ : ∃ L : List Loc, L = [] := ⟨_, rfl⟩
  suffices hgo : W p l e (headSpec (Cond.code yX7_bad cX7_bad 3 (some .boolean) :: tb) ({ frames := 0, cells := 0, slots := 0, locals := 0 } : Room)).room s m ([.ref o0, vI 0, vI y] : List Value).toArray below meth c H locs 0 0 (MQ below (va_Qi (fun (r : Int32) (u : Unit) => r = iI 0 ∧ True) (fun (u : Unit) t => zB G [(o0, ob 7 [vI th, .ref (a 1), .ref (a 2), .ref (a 3), .ref (a 4), .ref (a 5), vI mk, .ref (a 7), .ref (a 8), vI bl, .ref (a 10), vI hm, vI rc, .ref (a 13), .ref (a 14), .ref (a 15), vI lk, vI lg, vI kp, vI fi, vI lo, vI wt, .ref (a 22), .ref (a 23), .ref (a 24), .ref (a 25), .ref (a 26), vI gr, .ref (a 28), .ref (a 29), vI eb, vI ec, vI ef, vI iv])] s.heap.size [(o0, ob 7 [vI th, .ref (a 1), .ref (a 2), .ref (a 3), .ref (a 4), .ref (a 5), vI mk, .ref (a 7), .ref (a 8), vI bl, .ref (a 10), vI hm, vI rc, .ref (a 13), .ref (a 14), .ref (a 15), vI lk, vI lg, vI kp, vI fi, vI lo, vI wt, .ref (a 22), .ref (a 23), .ref (a 24), .ref (a 25), .ref (a 26), vI gr, .ref (a 28), .ref (a 29), vI eb, vI ec, vI ef, vI iv])] t) (va_A [(o0, ob 7 [vI th, .ref (a 1), .ref (a 2), .ref (a 3), .ref (a 4), .ref (a 5), vI mk, .ref (a 7), .ref (a 8), vI bl, .ref (a 10), vI hm, vI rc, .ref (a 13), .ref (a 14), .ref (a 15), vI lk, vI lg, vI kp, vI fi, vI lo, vI wt, .ref (a 22), .ref (a 23), .ref (a 24), .ref (a 25), .ref (a 26), vI gr, .ref (a 28), .ref (a 29), vI eb, vI ec, vI ef, vI iv])] s.heap.size)) ([.ref o0, vI 0, vI y] : List Value).toArray s 0 0 (va_A [(o0, ob 7 [vI th, .ref (a 1), .ref (a 2), .ref (a 3), .ref (a 4), .ref (a 5), vI mk, .ref (a 7), .ref (a 8), vI bl, .ref (a 10), vI hm, vI rc, .ref (a 13), .ref (a 14), .ref (a 15), vI lk, vI lg, vI kp, vI fi, vI lo, vI wt, .ref (a 22), .ref (a 23), .ref (a 24), .ref (a 25), .ref (a 26), vI gr, .ref (a 28), .ref (a 29), vI eb, vI ec, vI ef, vI iv])] s.heap.size)) (F0 m 0 ls []) by rw [hHe, hLe] at hgo; exact hgo
  rw [← hHe] at hP
  have hS : va_S A s.heap H locs := by rw [hHe, hLe]; exact hS
  clear hHe hLe
  refine lv_iload_n hx hb dX7_bad_0 rfl (lv_at hl 1 rfl) ?_
  refine z_if_eq (tgt := 9) hx hb dX7_bad_1 (by decide) (by omega) (fun c_1 => ?_) (fun c_1 => ?_)
  · refine lv_iload_n hx hb dX7_bad_9 rfl (lv_at hl 1 rfl) ?_
    exact z_bretW hC hr hlk () hAe hP hD hS [0] (by decide) rfl rfl (⟨rfl, trivial⟩) (by simp) dX7_bad_10
  · exact absurd c_1 (by decide)

set_option maxRecDepth 100000 in
set_option maxHeartbeats 4000000 in
theorem c_X7_isMake_t (l : Launch) (G : zGt) (sz : Nat) (o0 : Nat) (a : Nat → Nat) (th mk bl hm rc lk lg kp fi lo wt gr eb ec ef iv : Int) (x : Int) (hr_ : 0 ≤ mk ∧ mk ≤ 6) (hx : 0 ≤ x ∧ x < mk) : Met l yX7_isMake (Cond.code yX7_isMake cX7_isMake 2 (some .boolean) :: tb) ({ frames := 0, cells := 0, slots := 0, locals := 0 } : Room) (zPw G [(o0, ob 7 [vI th, .ref (a 1), .ref (a 2), .ref (a 3), .ref (a 4), .ref (a 5), vI mk, .ref (a 7), .ref (a 8), vI bl, .ref (a 10), vI hm, vI rc, .ref (a 13), .ref (a 14), .ref (a 15), vI lk, vI lg, vI kp, vI fi, vI lo, vI wt, .ref (a 22), .ref (a 23), .ref (a 24), .ref (a 25), .ref (a 26), vI gr, .ref (a 28), .ref (a 29), vI eb, vI ec, vI ef, vI iv])] sz [.ref o0, vI x]) (va_Qi (fun (r : Int32) (u : Unit) => r = iI 1 ∧ True) (fun (u : Unit) t => zB G [(o0, ob 7 [vI th, .ref (a 1), .ref (a 2), .ref (a 3), .ref (a 4), .ref (a 5), vI mk, .ref (a 7), .ref (a 8), vI bl, .ref (a 10), vI hm, vI rc, .ref (a 13), .ref (a 14), .ref (a 15), vI lk, vI lg, vI kp, vI fi, vI lo, vI wt, .ref (a 22), .ref (a 23), .ref (a 24), .ref (a 25), .ref (a 26), vI gr, .ref (a 28), .ref (a 29), vI eb, vI ec, vI ef, vI iv])] sz [(o0, ob 7 [vI 0, .ref (a 1), .ref (a 2), .ref (a 3), .ref (a 4), .ref (a 5), vI mk, .ref (a 7), .ref (a 8), vI bl, .ref (a 10), vI hm, vI rc, .ref (a 13), .ref (a 14), .ref (a 15), vI lk, vI lg, vI kp, vI fi, vI lo, vI wt, .ref (a 22), .ref (a 23), .ref (a 24), .ref (a 25), .ref (a 26), vI gr, .ref (a 28), .ref (a 29), vI eb, vI ec, vI ef, vI iv])] t) (va_A [(o0, ob 7 [vI th, .ref (a 1), .ref (a 2), .ref (a 3), .ref (a 4), .ref (a 5), vI mk, .ref (a 7), .ref (a 8), vI bl, .ref (a 10), vI hm, vI rc, .ref (a 13), .ref (a 14), .ref (a 15), vI lk, vI lg, vI kp, vI fi, vI lo, vI wt, .ref (a 22), .ref (a 23), .ref (a 24), .ref (a 25), .ref (a 26), vI gr, .ref (a 28), .ref (a 29), vI eb, vI ec, vI ef, vI iv])] sz)) 0 0 (va_A [(o0, ob 7 [vI th, .ref (a 1), .ref (a 2), .ref (a 3), .ref (a 4), .ref (a 5), vI mk, .ref (a 7), .ref (a 8), vI bl, .ref (a 10), vI hm, vI rc, .ref (a 13), .ref (a 14), .ref (a 15), vI lk, vI lg, vI kp, vI fi, vI lo, vI wt, .ref (a 22), .ref (a 23), .ref (a 24), .ref (a 25), .ref (a 26), vI gr, .ref (a 28), .ref (a 29), vI eb, vI ec, vI ef, vI iv])] sz) := by
  refine Met.ofW (cc := cX7_isMake) (maxL := 2) (ret := (some .boolean)) (by decide) rfl ?_
  intro p e s m args below meth c s₁ B hml hv
  obtain ⟨rfl, hsz, hP, hK, hD0⟩ := hv
  subst hsz
  have hD := hD0.self (sz := s.heap.size)
  obtain ⟨A, hAe⟩ : ∃ A : Nat → Prop, A = va_A [(o0, ob 7 [vI th, .ref (a 1), .ref (a 2), .ref (a 3), .ref (a 4), .ref (a 5), vI mk, .ref (a 7), .ref (a 8), vI bl, .ref (a 10), vI hm, vI rc, .ref (a 13), .ref (a 14), .ref (a 15), vI lk, vI lg, vI kp, vI fi, vI lo, vI wt, .ref (a 22), .ref (a 23), .ref (a 24), .ref (a 25), .ref (a 26), vI gr, .ref (a 28), .ref (a 29), vI eb, vI ec, vI ef, vI iv])] s.heap.size := ⟨_, rfl⟩
  rw [← hAe] at hD
  have hA : ∀ q : Nat, s.heap.size ≤ q → A q := fun q h => by rw [hAe]; exact Or.inr h
  have hS : va_S A s.heap s.heap [] := va_S.rf
  obtain ⟨hC, hr, hlk⟩ := z_begin B hml
  have hC : CallFix p m c cX7_isMake 2 s _ tb RX7 := hC
  have hx := hC.1
  have hb := hC.2.1
  have hl := lv_entry ([.ref o0, vI x]) (n := 2) (Nat.le_of_ble_eq_true rfl)
  rw [lg_entry_eq]
  generalize (lg_sl ([.ref o0, vI x]) ++ List.replicate (2 - (lg_sl ([.ref o0, vI x])).length) Slot.unset).toArray = ls at hl ⊢
  have hl : lv_has ls 2 [(0, .ref o0), (1, vI x)] := hl
  obtain ⟨H, hHe⟩ : ∃ H : Heap, H = s.heap := ⟨_, rfl⟩
  obtain ⟨locs, hLe⟩ : ∃ L : List Loc, L = [] := ⟨_, rfl⟩
  suffices hgo : W p l e (headSpec (Cond.code yX7_isMake cX7_isMake 2 (some .boolean) :: tb) ({ frames := 0, cells := 0, slots := 0, locals := 0 } : Room)).room s m ([.ref o0, vI x] : List Value).toArray below meth c H locs 0 0 (MQ below (va_Qi (fun (r : Int32) (u : Unit) => r = iI 1 ∧ True) (fun (u : Unit) t => zB G [(o0, ob 7 [vI th, .ref (a 1), .ref (a 2), .ref (a 3), .ref (a 4), .ref (a 5), vI mk, .ref (a 7), .ref (a 8), vI bl, .ref (a 10), vI hm, vI rc, .ref (a 13), .ref (a 14), .ref (a 15), vI lk, vI lg, vI kp, vI fi, vI lo, vI wt, .ref (a 22), .ref (a 23), .ref (a 24), .ref (a 25), .ref (a 26), vI gr, .ref (a 28), .ref (a 29), vI eb, vI ec, vI ef, vI iv])] s.heap.size [(o0, ob 7 [vI 0, .ref (a 1), .ref (a 2), .ref (a 3), .ref (a 4), .ref (a 5), vI mk, .ref (a 7), .ref (a 8), vI bl, .ref (a 10), vI hm, vI rc, .ref (a 13), .ref (a 14), .ref (a 15), vI lk, vI lg, vI kp, vI fi, vI lo, vI wt, .ref (a 22), .ref (a 23), .ref (a 24), .ref (a 25), .ref (a 26), vI gr, .ref (a 28), .ref (a 29), vI eb, vI ec, vI ef, vI iv])] t) (va_A [(o0, ob 7 [vI th, .ref (a 1), .ref (a 2), .ref (a 3), .ref (a 4), .ref (a 5), vI mk, .ref (a 7), .ref (a 8), vI bl, .ref (a 10), vI hm, vI rc, .ref (a 13), .ref (a 14), .ref (a 15), vI lk, vI lg, vI kp, vI fi, vI lo, vI wt, .ref (a 22), .ref (a 23), .ref (a 24), .ref (a 25), .ref (a 26), vI gr, .ref (a 28), .ref (a 29), vI eb, vI ec, vI ef, vI iv])] s.heap.size)) ([.ref o0, vI x] : List Value).toArray s 0 0 (va_A [(o0, ob 7 [vI th, .ref (a 1), .ref (a 2), .ref (a 3), .ref (a 4), .ref (a 5), vI mk, .ref (a 7), .ref (a 8), vI bl, .ref (a 10), vI hm, vI rc, .ref (a 13), .ref (a 14), .ref (a 15), vI lk, vI lg, vI kp, vI fi, vI lo, vI wt, .ref (a 22), .ref (a 23), .ref (a 24), .ref (a 25), .ref (a 26), vI gr, .ref (a 28), .ref (a 29), vI eb, vI ec, vI ef, vI iv])] s.heap.size)) (F0 m 0 ls []) by rw [hHe, hLe] at hgo; exact hgo
  rw [← hHe] at hP
  have hS : va_S A s.heap H locs := by rw [hHe, hLe]; exact hS
  clear hHe hLe
  refine lv_aload_n hx hb dX7_isMake_0 rfl (lv_at hl 0 rfl) ?_
  refine lv_iload_n hx hb dX7_isMake_1 rfl (lv_at hl 1 rfl) ?_
  refine z_if_lt (tgt := 13) hx hb dX7_isMake_2 (by decide) (by omega) (fun c_2 => ?_) (fun c_2 => ?_)
  · exfalso; omega
  · refine lv_iload_n hx hb dX7_isMake_5 rfl (lv_at hl 1 rfl) ?_
    refine lv_aload_n hx hb dX7_isMake_6 rfl (lv_at hl 0 rfl) ?_
    refine z_get (v := vI mk) hC hK hP inX7 rfl 0 rfl 6 (by decide) tw_798 rfl dX7_isMake_7 ?_
    refine z_icmp_lt (tgt := 17) hx hb dX7_isMake_10 (by decide) (by omega) (fun c_10 => ?_) (fun c_10 => ?_)
    · refine lv_iconst (v := iI 0) hx hb dX7_isMake_17 rfl ?_
      refine z_put (ws' := [(o0, ob 7 [vI 0, .ref (a 1), .ref (a 2), .ref (a 3), .ref (a 4), .ref (a 5), vI mk, .ref (a 7), .ref (a 8), vI bl, .ref (a 10), vI hm, vI rc, .ref (a 13), .ref (a 14), .ref (a 15), vI lk, vI lg, vI kp, vI fi, vI lo, vI wt, .ref (a 22), .ref (a 23), .ref (a 24), .ref (a 25), .ref (a 26), vI gr, .ref (a 28), .ref (a 29), vI eb, vI ec, vI ef, vI iv])]) hC hK hP hD hS inX7 tyX7 tyX7_ok nmX7 rfl 0 rfl 0 (by decide) tw_792 rfl rfl rfl (Nat.le_of_ble_eq_true rfl) rfl dX7_isMake_18 (fun H locs hP hD hS => ?_)
      refine lv_aload_n hx hb dX7_isMake_21 rfl (lv_at hl 0 rfl) ?_
      refine z_get (v := vI 0) hC hK hP inX7 rfl 0 rfl 0 (by decide) tw_792 rfl dX7_isMake_22 ?_
      refine z_if_ne (tgt := 32) hx hb dX7_isMake_25 (by decide) (by omega) (fun c_25 => ?_) (fun c_25 => ?_)
      · exact absurd c_25 (by decide)
      · refine lv_iconst (v := iI 1) hx hb dX7_isMake_28 rfl ?_
        refine lv_goto (tgt := 33) hx hb dX7_isMake_29 (by decide) ?_
        exact z_bretW hC hr hlk () hAe hP hD hS [0] (by decide) rfl rfl (⟨rfl, trivial⟩) (by simp) dX7_isMake_33
    · exfalso; omega

set_option maxRecDepth 100000 in
set_option maxHeartbeats 4000000 in
theorem c_X7_isMake_f (l : Launch) (G : zGt) (sz : Nat) (o0 : Nat) (a : Nat → Nat) (th mk bl hm rc lk lg kp fi lo wt gr eb ec ef iv : Int) (x : Int) (hr_ : 0 ≤ mk ∧ mk ≤ 6) (hx : -2147483648 ≤ x ∧ x < 2147483648) (hx2 : ¬ (0 ≤ x ∧ x < mk)) : Met l yX7_isMake (Cond.code yX7_isMake cX7_isMake 2 (some .boolean) :: tb) ({ frames := 0, cells := 0, slots := 0, locals := 0 } : Room) (zPw G [(o0, ob 7 [vI th, .ref (a 1), .ref (a 2), .ref (a 3), .ref (a 4), .ref (a 5), vI mk, .ref (a 7), .ref (a 8), vI bl, .ref (a 10), vI hm, vI rc, .ref (a 13), .ref (a 14), .ref (a 15), vI lk, vI lg, vI kp, vI fi, vI lo, vI wt, .ref (a 22), .ref (a 23), .ref (a 24), .ref (a 25), .ref (a 26), vI gr, .ref (a 28), .ref (a 29), vI eb, vI ec, vI ef, vI iv])] sz [.ref o0, vI x]) (va_Qi (fun (r : Int32) (u : Unit) => r = iI 0 ∧ True) (fun (u : Unit) t => zB G [(o0, ob 7 [vI th, .ref (a 1), .ref (a 2), .ref (a 3), .ref (a 4), .ref (a 5), vI mk, .ref (a 7), .ref (a 8), vI bl, .ref (a 10), vI hm, vI rc, .ref (a 13), .ref (a 14), .ref (a 15), vI lk, vI lg, vI kp, vI fi, vI lo, vI wt, .ref (a 22), .ref (a 23), .ref (a 24), .ref (a 25), .ref (a 26), vI gr, .ref (a 28), .ref (a 29), vI eb, vI ec, vI ef, vI iv])] sz [(o0, ob 7 [vI 1, .ref (a 1), .ref (a 2), .ref (a 3), .ref (a 4), .ref (a 5), vI mk, .ref (a 7), .ref (a 8), vI bl, .ref (a 10), vI hm, vI rc, .ref (a 13), .ref (a 14), .ref (a 15), vI lk, vI lg, vI kp, vI fi, vI lo, vI wt, .ref (a 22), .ref (a 23), .ref (a 24), .ref (a 25), .ref (a 26), vI gr, .ref (a 28), .ref (a 29), vI eb, vI ec, vI ef, vI iv])] t) (va_A [(o0, ob 7 [vI th, .ref (a 1), .ref (a 2), .ref (a 3), .ref (a 4), .ref (a 5), vI mk, .ref (a 7), .ref (a 8), vI bl, .ref (a 10), vI hm, vI rc, .ref (a 13), .ref (a 14), .ref (a 15), vI lk, vI lg, vI kp, vI fi, vI lo, vI wt, .ref (a 22), .ref (a 23), .ref (a 24), .ref (a 25), .ref (a 26), vI gr, .ref (a 28), .ref (a 29), vI eb, vI ec, vI ef, vI iv])] sz)) 0 0 (va_A [(o0, ob 7 [vI th, .ref (a 1), .ref (a 2), .ref (a 3), .ref (a 4), .ref (a 5), vI mk, .ref (a 7), .ref (a 8), vI bl, .ref (a 10), vI hm, vI rc, .ref (a 13), .ref (a 14), .ref (a 15), vI lk, vI lg, vI kp, vI fi, vI lo, vI wt, .ref (a 22), .ref (a 23), .ref (a 24), .ref (a 25), .ref (a 26), vI gr, .ref (a 28), .ref (a 29), vI eb, vI ec, vI ef, vI iv])] sz) := by
  refine Met.ofW (cc := cX7_isMake) (maxL := 2) (ret := (some .boolean)) (by decide) rfl ?_
  intro p e s m args below meth c s₁ B hml hv
  obtain ⟨rfl, hsz, hP, hK, hD0⟩ := hv
  subst hsz
  have hD := hD0.self (sz := s.heap.size)
  obtain ⟨A, hAe⟩ : ∃ A : Nat → Prop, A = va_A [(o0, ob 7 [vI th, .ref (a 1), .ref (a 2), .ref (a 3), .ref (a 4), .ref (a 5), vI mk, .ref (a 7), .ref (a 8), vI bl, .ref (a 10), vI hm, vI rc, .ref (a 13), .ref (a 14), .ref (a 15), vI lk, vI lg, vI kp, vI fi, vI lo, vI wt, .ref (a 22), .ref (a 23), .ref (a 24), .ref (a 25), .ref (a 26), vI gr, .ref (a 28), .ref (a 29), vI eb, vI ec, vI ef, vI iv])] s.heap.size := ⟨_, rfl⟩
  rw [← hAe] at hD
  have hA : ∀ q : Nat, s.heap.size ≤ q → A q := fun q h => by rw [hAe]; exact Or.inr h
  have hS : va_S A s.heap s.heap [] := va_S.rf
  obtain ⟨hC, hr, hlk⟩ := z_begin B hml
  have hC : CallFix p m c cX7_isMake 2 s _ tb RX7 := hC
  have hx := hC.1
  have hb := hC.2.1
  have hl := lv_entry ([.ref o0, vI x]) (n := 2) (Nat.le_of_ble_eq_true rfl)
  rw [lg_entry_eq]
  generalize (lg_sl ([.ref o0, vI x]) ++ List.replicate (2 - (lg_sl ([.ref o0, vI x])).length) Slot.unset).toArray = ls at hl ⊢
  have hl : lv_has ls 2 [(0, .ref o0), (1, vI x)] := hl
  obtain ⟨H, hHe⟩ : ∃ H : Heap, H = s.heap := ⟨_, rfl⟩
  obtain ⟨locs, hLe⟩ : ∃ L : List Loc, L = [] := ⟨_, rfl⟩
  suffices hgo : W p l e (headSpec (Cond.code yX7_isMake cX7_isMake 2 (some .boolean) :: tb) ({ frames := 0, cells := 0, slots := 0, locals := 0 } : Room)).room s m ([.ref o0, vI x] : List Value).toArray below meth c H locs 0 0 (MQ below (va_Qi (fun (r : Int32) (u : Unit) => r = iI 0 ∧ True) (fun (u : Unit) t => zB G [(o0, ob 7 [vI th, .ref (a 1), .ref (a 2), .ref (a 3), .ref (a 4), .ref (a 5), vI mk, .ref (a 7), .ref (a 8), vI bl, .ref (a 10), vI hm, vI rc, .ref (a 13), .ref (a 14), .ref (a 15), vI lk, vI lg, vI kp, vI fi, vI lo, vI wt, .ref (a 22), .ref (a 23), .ref (a 24), .ref (a 25), .ref (a 26), vI gr, .ref (a 28), .ref (a 29), vI eb, vI ec, vI ef, vI iv])] s.heap.size [(o0, ob 7 [vI 1, .ref (a 1), .ref (a 2), .ref (a 3), .ref (a 4), .ref (a 5), vI mk, .ref (a 7), .ref (a 8), vI bl, .ref (a 10), vI hm, vI rc, .ref (a 13), .ref (a 14), .ref (a 15), vI lk, vI lg, vI kp, vI fi, vI lo, vI wt, .ref (a 22), .ref (a 23), .ref (a 24), .ref (a 25), .ref (a 26), vI gr, .ref (a 28), .ref (a 29), vI eb, vI ec, vI ef, vI iv])] t) (va_A [(o0, ob 7 [vI th, .ref (a 1), .ref (a 2), .ref (a 3), .ref (a 4), .ref (a 5), vI mk, .ref (a 7), .ref (a 8), vI bl, .ref (a 10), vI hm, vI rc, .ref (a 13), .ref (a 14), .ref (a 15), vI lk, vI lg, vI kp, vI fi, vI lo, vI wt, .ref (a 22), .ref (a 23), .ref (a 24), .ref (a 25), .ref (a 26), vI gr, .ref (a 28), .ref (a 29), vI eb, vI ec, vI ef, vI iv])] s.heap.size)) ([.ref o0, vI x] : List Value).toArray s 0 0 (va_A [(o0, ob 7 [vI th, .ref (a 1), .ref (a 2), .ref (a 3), .ref (a 4), .ref (a 5), vI mk, .ref (a 7), .ref (a 8), vI bl, .ref (a 10), vI hm, vI rc, .ref (a 13), .ref (a 14), .ref (a 15), vI lk, vI lg, vI kp, vI fi, vI lo, vI wt, .ref (a 22), .ref (a 23), .ref (a 24), .ref (a 25), .ref (a 26), vI gr, .ref (a 28), .ref (a 29), vI eb, vI ec, vI ef, vI iv])] s.heap.size)) (F0 m 0 ls []) by rw [hHe, hLe] at hgo; exact hgo
  rw [← hHe] at hP
  have hS : va_S A s.heap H locs := by rw [hHe, hLe]; exact hS
  clear hHe hLe
  refine lv_aload_n hx hb dX7_isMake_0 rfl (lv_at hl 0 rfl) ?_
  refine lv_iload_n hx hb dX7_isMake_1 rfl (lv_at hl 1 rfl) ?_
  refine z_if_lt (tgt := 13) hx hb dX7_isMake_2 (by decide) (by omega) (fun c_2 => ?_) (fun c_2 => ?_)
  · refine lv_iconst (v := iI 1) hx hb dX7_isMake_13 rfl ?_
    refine lv_goto (tgt := 18) hx hb dX7_isMake_14 (by decide) ?_
    refine z_put (ws' := [(o0, ob 7 [vI 1, .ref (a 1), .ref (a 2), .ref (a 3), .ref (a 4), .ref (a 5), vI mk, .ref (a 7), .ref (a 8), vI bl, .ref (a 10), vI hm, vI rc, .ref (a 13), .ref (a 14), .ref (a 15), vI lk, vI lg, vI kp, vI fi, vI lo, vI wt, .ref (a 22), .ref (a 23), .ref (a 24), .ref (a 25), .ref (a 26), vI gr, .ref (a 28), .ref (a 29), vI eb, vI ec, vI ef, vI iv])]) hC hK hP hD hS inX7 tyX7 tyX7_ok nmX7 rfl 0 rfl 0 (by decide) tw_792 rfl rfl rfl (Nat.le_of_ble_eq_true rfl) rfl dX7_isMake_18 (fun H locs hP hD hS => ?_)
    refine lv_aload_n hx hb dX7_isMake_21 rfl (lv_at hl 0 rfl) ?_
    refine z_get (v := vI 1) hC hK hP inX7 rfl 0 rfl 0 (by decide) tw_792 rfl dX7_isMake_22 ?_
    refine z_if_ne (tgt := 32) hx hb dX7_isMake_25 (by decide) (by omega) (fun c_25 => ?_) (fun c_25 => ?_)
    · refine lv_iconst (v := iI 0) hx hb dX7_isMake_32 rfl ?_
      exact z_bretW hC hr hlk () hAe hP hD hS [0] (by decide) rfl rfl (⟨rfl, trivial⟩) (by simp) dX7_isMake_33
    · exact absurd c_25 (by decide)
  · refine lv_iload_n hx hb dX7_isMake_5 rfl (lv_at hl 1 rfl) ?_
    refine lv_aload_n hx hb dX7_isMake_6 rfl (lv_at hl 0 rfl) ?_
    refine z_get (v := vI mk) hC hK hP inX7 rfl 0 rfl 6 (by decide) tw_798 rfl dX7_isMake_7 ?_
    refine z_icmp_lt (tgt := 17) hx hb dX7_isMake_10 (by decide) (by omega) (fun c_10 => ?_) (fun c_10 => ?_)
    · exfalso; omega
    · refine lv_iconst (v := iI 1) hx hb dX7_isMake_13 rfl ?_
      refine lv_goto (tgt := 18) hx hb dX7_isMake_14 (by decide) ?_
      refine z_put (ws' := [(o0, ob 7 [vI 1, .ref (a 1), .ref (a 2), .ref (a 3), .ref (a 4), .ref (a 5), vI mk, .ref (a 7), .ref (a 8), vI bl, .ref (a 10), vI hm, vI rc, .ref (a 13), .ref (a 14), .ref (a 15), vI lk, vI lg, vI kp, vI fi, vI lo, vI wt, .ref (a 22), .ref (a 23), .ref (a 24), .ref (a 25), .ref (a 26), vI gr, .ref (a 28), .ref (a 29), vI eb, vI ec, vI ef, vI iv])]) hC hK hP hD hS inX7 tyX7 tyX7_ok nmX7 rfl 0 rfl 0 (by decide) tw_792 rfl rfl rfl (Nat.le_of_ble_eq_true rfl) rfl dX7_isMake_18 (fun H locs hP hD hS => ?_)
      refine lv_aload_n hx hb dX7_isMake_21 rfl (lv_at hl 0 rfl) ?_
      refine z_get (v := vI 1) hC hK hP inX7 rfl 0 rfl 0 (by decide) tw_792 rfl dX7_isMake_22 ?_
      refine z_if_ne (tgt := 32) hx hb dX7_isMake_25 (by decide) (by omega) (fun c_25 => ?_) (fun c_25 => ?_)
      · refine lv_iconst (v := iI 0) hx hb dX7_isMake_32 rfl ?_
        exact z_bretW hC hr hlk () hAe hP hD hS [0] (by decide) rfl rfl (⟨rfl, trivial⟩) (by simp) dX7_isMake_33
      · exact absurd c_25 (by decide)

set_option maxRecDepth 100000 in
set_option maxHeartbeats 4000000 in
theorem c_X7_isBlock_t (l : Launch) (G : zGt) (sz : Nat) (o0 : Nat) (a : Nat → Nat) (th mk bl hm rc lk lg kp fi lo wt gr eb ec ef iv : Int) (x : Int) (hr_ : 0 ≤ bl ∧ bl ≤ 24) (hx : 0 ≤ x ∧ x < bl) : Met l yX7_isBlock (Cond.code yX7_isBlock cX7_isBlock 2 (some .boolean) :: tb) ({ frames := 0, cells := 0, slots := 0, locals := 0 } : Room) (zPw G [(o0, ob 7 [vI th, .ref (a 1), .ref (a 2), .ref (a 3), .ref (a 4), .ref (a 5), vI mk, .ref (a 7), .ref (a 8), vI bl, .ref (a 10), vI hm, vI rc, .ref (a 13), .ref (a 14), .ref (a 15), vI lk, vI lg, vI kp, vI fi, vI lo, vI wt, .ref (a 22), .ref (a 23), .ref (a 24), .ref (a 25), .ref (a 26), vI gr, .ref (a 28), .ref (a 29), vI eb, vI ec, vI ef, vI iv])] sz [.ref o0, vI x]) (va_Qi (fun (r : Int32) (u : Unit) => r = iI 1 ∧ True) (fun (u : Unit) t => zB G [(o0, ob 7 [vI th, .ref (a 1), .ref (a 2), .ref (a 3), .ref (a 4), .ref (a 5), vI mk, .ref (a 7), .ref (a 8), vI bl, .ref (a 10), vI hm, vI rc, .ref (a 13), .ref (a 14), .ref (a 15), vI lk, vI lg, vI kp, vI fi, vI lo, vI wt, .ref (a 22), .ref (a 23), .ref (a 24), .ref (a 25), .ref (a 26), vI gr, .ref (a 28), .ref (a 29), vI eb, vI ec, vI ef, vI iv])] sz [(o0, ob 7 [vI 0, .ref (a 1), .ref (a 2), .ref (a 3), .ref (a 4), .ref (a 5), vI mk, .ref (a 7), .ref (a 8), vI bl, .ref (a 10), vI hm, vI rc, .ref (a 13), .ref (a 14), .ref (a 15), vI lk, vI lg, vI kp, vI fi, vI lo, vI wt, .ref (a 22), .ref (a 23), .ref (a 24), .ref (a 25), .ref (a 26), vI gr, .ref (a 28), .ref (a 29), vI eb, vI ec, vI ef, vI iv])] t) (va_A [(o0, ob 7 [vI th, .ref (a 1), .ref (a 2), .ref (a 3), .ref (a 4), .ref (a 5), vI mk, .ref (a 7), .ref (a 8), vI bl, .ref (a 10), vI hm, vI rc, .ref (a 13), .ref (a 14), .ref (a 15), vI lk, vI lg, vI kp, vI fi, vI lo, vI wt, .ref (a 22), .ref (a 23), .ref (a 24), .ref (a 25), .ref (a 26), vI gr, .ref (a 28), .ref (a 29), vI eb, vI ec, vI ef, vI iv])] sz)) 0 0 (va_A [(o0, ob 7 [vI th, .ref (a 1), .ref (a 2), .ref (a 3), .ref (a 4), .ref (a 5), vI mk, .ref (a 7), .ref (a 8), vI bl, .ref (a 10), vI hm, vI rc, .ref (a 13), .ref (a 14), .ref (a 15), vI lk, vI lg, vI kp, vI fi, vI lo, vI wt, .ref (a 22), .ref (a 23), .ref (a 24), .ref (a 25), .ref (a 26), vI gr, .ref (a 28), .ref (a 29), vI eb, vI ec, vI ef, vI iv])] sz) := by
  refine Met.ofW (cc := cX7_isBlock) (maxL := 2) (ret := (some .boolean)) (by decide) rfl ?_
  intro p e s m args below meth c s₁ B hml hv
  obtain ⟨rfl, hsz, hP, hK, hD0⟩ := hv
  subst hsz
  have hD := hD0.self (sz := s.heap.size)
  obtain ⟨A, hAe⟩ : ∃ A : Nat → Prop, A = va_A [(o0, ob 7 [vI th, .ref (a 1), .ref (a 2), .ref (a 3), .ref (a 4), .ref (a 5), vI mk, .ref (a 7), .ref (a 8), vI bl, .ref (a 10), vI hm, vI rc, .ref (a 13), .ref (a 14), .ref (a 15), vI lk, vI lg, vI kp, vI fi, vI lo, vI wt, .ref (a 22), .ref (a 23), .ref (a 24), .ref (a 25), .ref (a 26), vI gr, .ref (a 28), .ref (a 29), vI eb, vI ec, vI ef, vI iv])] s.heap.size := ⟨_, rfl⟩
  rw [← hAe] at hD
  have hA : ∀ q : Nat, s.heap.size ≤ q → A q := fun q h => by rw [hAe]; exact Or.inr h
  have hS : va_S A s.heap s.heap [] := va_S.rf
  obtain ⟨hC, hr, hlk⟩ := z_begin B hml
  have hC : CallFix p m c cX7_isBlock 2 s _ tb RX7 := hC
  have hx := hC.1
  have hb := hC.2.1
  have hl := lv_entry ([.ref o0, vI x]) (n := 2) (Nat.le_of_ble_eq_true rfl)
  rw [lg_entry_eq]
  generalize (lg_sl ([.ref o0, vI x]) ++ List.replicate (2 - (lg_sl ([.ref o0, vI x])).length) Slot.unset).toArray = ls at hl ⊢
  have hl : lv_has ls 2 [(0, .ref o0), (1, vI x)] := hl
  obtain ⟨H, hHe⟩ : ∃ H : Heap, H = s.heap := ⟨_, rfl⟩
  obtain ⟨locs, hLe⟩ : ∃ L : List Loc, L = [] := ⟨_, rfl⟩
  suffices hgo : W p l e (headSpec (Cond.code yX7_isBlock cX7_isBlock 2 (some .boolean) :: tb) ({ frames := 0, cells := 0, slots := 0, locals := 0 } : Room)).room s m ([.ref o0, vI x] : List Value).toArray below meth c H locs 0 0 (MQ below (va_Qi (fun (r : Int32) (u : Unit) => r = iI 1 ∧ True) (fun (u : Unit) t => zB G [(o0, ob 7 [vI th, .ref (a 1), .ref (a 2), .ref (a 3), .ref (a 4), .ref (a 5), vI mk, .ref (a 7), .ref (a 8), vI bl, .ref (a 10), vI hm, vI rc, .ref (a 13), .ref (a 14), .ref (a 15), vI lk, vI lg, vI kp, vI fi, vI lo, vI wt, .ref (a 22), .ref (a 23), .ref (a 24), .ref (a 25), .ref (a 26), vI gr, .ref (a 28), .ref (a 29), vI eb, vI ec, vI ef, vI iv])] s.heap.size [(o0, ob 7 [vI 0, .ref (a 1), .ref (a 2), .ref (a 3), .ref (a 4), .ref (a 5), vI mk, .ref (a 7), .ref (a 8), vI bl, .ref (a 10), vI hm, vI rc, .ref (a 13), .ref (a 14), .ref (a 15), vI lk, vI lg, vI kp, vI fi, vI lo, vI wt, .ref (a 22), .ref (a 23), .ref (a 24), .ref (a 25), .ref (a 26), vI gr, .ref (a 28), .ref (a 29), vI eb, vI ec, vI ef, vI iv])] t) (va_A [(o0, ob 7 [vI th, .ref (a 1), .ref (a 2), .ref (a 3), .ref (a 4), .ref (a 5), vI mk, .ref (a 7), .ref (a 8), vI bl, .ref (a 10), vI hm, vI rc, .ref (a 13), .ref (a 14), .ref (a 15), vI lk, vI lg, vI kp, vI fi, vI lo, vI wt, .ref (a 22), .ref (a 23), .ref (a 24), .ref (a 25), .ref (a 26), vI gr, .ref (a 28), .ref (a 29), vI eb, vI ec, vI ef, vI iv])] s.heap.size)) ([.ref o0, vI x] : List Value).toArray s 0 0 (va_A [(o0, ob 7 [vI th, .ref (a 1), .ref (a 2), .ref (a 3), .ref (a 4), .ref (a 5), vI mk, .ref (a 7), .ref (a 8), vI bl, .ref (a 10), vI hm, vI rc, .ref (a 13), .ref (a 14), .ref (a 15), vI lk, vI lg, vI kp, vI fi, vI lo, vI wt, .ref (a 22), .ref (a 23), .ref (a 24), .ref (a 25), .ref (a 26), vI gr, .ref (a 28), .ref (a 29), vI eb, vI ec, vI ef, vI iv])] s.heap.size)) (F0 m 0 ls []) by rw [hHe, hLe] at hgo; exact hgo
  rw [← hHe] at hP
  have hS : va_S A s.heap H locs := by rw [hHe, hLe]; exact hS
  clear hHe hLe
  refine lv_aload_n hx hb dX7_isBlock_0 rfl (lv_at hl 0 rfl) ?_
  refine lv_iload_n hx hb dX7_isBlock_1 rfl (lv_at hl 1 rfl) ?_
  refine z_if_lt (tgt := 13) hx hb dX7_isBlock_2 (by decide) (by omega) (fun c_2 => ?_) (fun c_2 => ?_)
  · exfalso; omega
  · refine lv_iload_n hx hb dX7_isBlock_5 rfl (lv_at hl 1 rfl) ?_
    refine lv_aload_n hx hb dX7_isBlock_6 rfl (lv_at hl 0 rfl) ?_
    refine z_get (v := vI bl) hC hK hP inX7 rfl 0 rfl 9 (by decide) tw_801 rfl dX7_isBlock_7 ?_
    refine z_icmp_lt (tgt := 17) hx hb dX7_isBlock_10 (by decide) (by omega) (fun c_10 => ?_) (fun c_10 => ?_)
    · refine lv_iconst (v := iI 0) hx hb dX7_isBlock_17 rfl ?_
      refine z_put (ws' := [(o0, ob 7 [vI 0, .ref (a 1), .ref (a 2), .ref (a 3), .ref (a 4), .ref (a 5), vI mk, .ref (a 7), .ref (a 8), vI bl, .ref (a 10), vI hm, vI rc, .ref (a 13), .ref (a 14), .ref (a 15), vI lk, vI lg, vI kp, vI fi, vI lo, vI wt, .ref (a 22), .ref (a 23), .ref (a 24), .ref (a 25), .ref (a 26), vI gr, .ref (a 28), .ref (a 29), vI eb, vI ec, vI ef, vI iv])]) hC hK hP hD hS inX7 tyX7 tyX7_ok nmX7 rfl 0 rfl 0 (by decide) tw_792 rfl rfl rfl (Nat.le_of_ble_eq_true rfl) rfl dX7_isBlock_18 (fun H locs hP hD hS => ?_)
      refine lv_aload_n hx hb dX7_isBlock_21 rfl (lv_at hl 0 rfl) ?_
      refine z_get (v := vI 0) hC hK hP inX7 rfl 0 rfl 0 (by decide) tw_792 rfl dX7_isBlock_22 ?_
      refine z_if_ne (tgt := 32) hx hb dX7_isBlock_25 (by decide) (by omega) (fun c_25 => ?_) (fun c_25 => ?_)
      · exact absurd c_25 (by decide)
      · refine lv_iconst (v := iI 1) hx hb dX7_isBlock_28 rfl ?_
        refine lv_goto (tgt := 33) hx hb dX7_isBlock_29 (by decide) ?_
        exact z_bretW hC hr hlk () hAe hP hD hS [0] (by decide) rfl rfl (⟨rfl, trivial⟩) (by simp) dX7_isBlock_33
    · exfalso; omega

set_option maxRecDepth 100000 in
set_option maxHeartbeats 4000000 in
theorem c_X7_isBlock_f (l : Launch) (G : zGt) (sz : Nat) (o0 : Nat) (a : Nat → Nat) (th mk bl hm rc lk lg kp fi lo wt gr eb ec ef iv : Int) (x : Int) (hr_ : 0 ≤ bl ∧ bl ≤ 24) (hx : -2147483648 ≤ x ∧ x < 2147483648) (hx2 : ¬ (0 ≤ x ∧ x < bl)) : Met l yX7_isBlock (Cond.code yX7_isBlock cX7_isBlock 2 (some .boolean) :: tb) ({ frames := 0, cells := 0, slots := 0, locals := 0 } : Room) (zPw G [(o0, ob 7 [vI th, .ref (a 1), .ref (a 2), .ref (a 3), .ref (a 4), .ref (a 5), vI mk, .ref (a 7), .ref (a 8), vI bl, .ref (a 10), vI hm, vI rc, .ref (a 13), .ref (a 14), .ref (a 15), vI lk, vI lg, vI kp, vI fi, vI lo, vI wt, .ref (a 22), .ref (a 23), .ref (a 24), .ref (a 25), .ref (a 26), vI gr, .ref (a 28), .ref (a 29), vI eb, vI ec, vI ef, vI iv])] sz [.ref o0, vI x]) (va_Qi (fun (r : Int32) (u : Unit) => r = iI 0 ∧ True) (fun (u : Unit) t => zB G [(o0, ob 7 [vI th, .ref (a 1), .ref (a 2), .ref (a 3), .ref (a 4), .ref (a 5), vI mk, .ref (a 7), .ref (a 8), vI bl, .ref (a 10), vI hm, vI rc, .ref (a 13), .ref (a 14), .ref (a 15), vI lk, vI lg, vI kp, vI fi, vI lo, vI wt, .ref (a 22), .ref (a 23), .ref (a 24), .ref (a 25), .ref (a 26), vI gr, .ref (a 28), .ref (a 29), vI eb, vI ec, vI ef, vI iv])] sz [(o0, ob 7 [vI 1, .ref (a 1), .ref (a 2), .ref (a 3), .ref (a 4), .ref (a 5), vI mk, .ref (a 7), .ref (a 8), vI bl, .ref (a 10), vI hm, vI rc, .ref (a 13), .ref (a 14), .ref (a 15), vI lk, vI lg, vI kp, vI fi, vI lo, vI wt, .ref (a 22), .ref (a 23), .ref (a 24), .ref (a 25), .ref (a 26), vI gr, .ref (a 28), .ref (a 29), vI eb, vI ec, vI ef, vI iv])] t) (va_A [(o0, ob 7 [vI th, .ref (a 1), .ref (a 2), .ref (a 3), .ref (a 4), .ref (a 5), vI mk, .ref (a 7), .ref (a 8), vI bl, .ref (a 10), vI hm, vI rc, .ref (a 13), .ref (a 14), .ref (a 15), vI lk, vI lg, vI kp, vI fi, vI lo, vI wt, .ref (a 22), .ref (a 23), .ref (a 24), .ref (a 25), .ref (a 26), vI gr, .ref (a 28), .ref (a 29), vI eb, vI ec, vI ef, vI iv])] sz)) 0 0 (va_A [(o0, ob 7 [vI th, .ref (a 1), .ref (a 2), .ref (a 3), .ref (a 4), .ref (a 5), vI mk, .ref (a 7), .ref (a 8), vI bl, .ref (a 10), vI hm, vI rc, .ref (a 13), .ref (a 14), .ref (a 15), vI lk, vI lg, vI kp, vI fi, vI lo, vI wt, .ref (a 22), .ref (a 23), .ref (a 24), .ref (a 25), .ref (a 26), vI gr, .ref (a 28), .ref (a 29), vI eb, vI ec, vI ef, vI iv])] sz) := by
  refine Met.ofW (cc := cX7_isBlock) (maxL := 2) (ret := (some .boolean)) (by decide) rfl ?_
  intro p e s m args below meth c s₁ B hml hv
  obtain ⟨rfl, hsz, hP, hK, hD0⟩ := hv
  subst hsz
  have hD := hD0.self (sz := s.heap.size)
  obtain ⟨A, hAe⟩ : ∃ A : Nat → Prop, A = va_A [(o0, ob 7 [vI th, .ref (a 1), .ref (a 2), .ref (a 3), .ref (a 4), .ref (a 5), vI mk, .ref (a 7), .ref (a 8), vI bl, .ref (a 10), vI hm, vI rc, .ref (a 13), .ref (a 14), .ref (a 15), vI lk, vI lg, vI kp, vI fi, vI lo, vI wt, .ref (a 22), .ref (a 23), .ref (a 24), .ref (a 25), .ref (a 26), vI gr, .ref (a 28), .ref (a 29), vI eb, vI ec, vI ef, vI iv])] s.heap.size := ⟨_, rfl⟩
  rw [← hAe] at hD
  have hA : ∀ q : Nat, s.heap.size ≤ q → A q := fun q h => by rw [hAe]; exact Or.inr h
  have hS : va_S A s.heap s.heap [] := va_S.rf
  obtain ⟨hC, hr, hlk⟩ := z_begin B hml
  have hC : CallFix p m c cX7_isBlock 2 s _ tb RX7 := hC
  have hx := hC.1
  have hb := hC.2.1
  have hl := lv_entry ([.ref o0, vI x]) (n := 2) (Nat.le_of_ble_eq_true rfl)
  rw [lg_entry_eq]
  generalize (lg_sl ([.ref o0, vI x]) ++ List.replicate (2 - (lg_sl ([.ref o0, vI x])).length) Slot.unset).toArray = ls at hl ⊢
  have hl : lv_has ls 2 [(0, .ref o0), (1, vI x)] := hl
  obtain ⟨H, hHe⟩ : ∃ H : Heap, H = s.heap := ⟨_, rfl⟩
  obtain ⟨locs, hLe⟩ : ∃ L : List Loc, L = [] := ⟨_, rfl⟩
  suffices hgo : W p l e (headSpec (Cond.code yX7_isBlock cX7_isBlock 2 (some .boolean) :: tb) ({ frames := 0, cells := 0, slots := 0, locals := 0 } : Room)).room s m ([.ref o0, vI x] : List Value).toArray below meth c H locs 0 0 (MQ below (va_Qi (fun (r : Int32) (u : Unit) => r = iI 0 ∧ True) (fun (u : Unit) t => zB G [(o0, ob 7 [vI th, .ref (a 1), .ref (a 2), .ref (a 3), .ref (a 4), .ref (a 5), vI mk, .ref (a 7), .ref (a 8), vI bl, .ref (a 10), vI hm, vI rc, .ref (a 13), .ref (a 14), .ref (a 15), vI lk, vI lg, vI kp, vI fi, vI lo, vI wt, .ref (a 22), .ref (a 23), .ref (a 24), .ref (a 25), .ref (a 26), vI gr, .ref (a 28), .ref (a 29), vI eb, vI ec, vI ef, vI iv])] s.heap.size [(o0, ob 7 [vI 1, .ref (a 1), .ref (a 2), .ref (a 3), .ref (a 4), .ref (a 5), vI mk, .ref (a 7), .ref (a 8), vI bl, .ref (a 10), vI hm, vI rc, .ref (a 13), .ref (a 14), .ref (a 15), vI lk, vI lg, vI kp, vI fi, vI lo, vI wt, .ref (a 22), .ref (a 23), .ref (a 24), .ref (a 25), .ref (a 26), vI gr, .ref (a 28), .ref (a 29), vI eb, vI ec, vI ef, vI iv])] t) (va_A [(o0, ob 7 [vI th, .ref (a 1), .ref (a 2), .ref (a 3), .ref (a 4), .ref (a 5), vI mk, .ref (a 7), .ref (a 8), vI bl, .ref (a 10), vI hm, vI rc, .ref (a 13), .ref (a 14), .ref (a 15), vI lk, vI lg, vI kp, vI fi, vI lo, vI wt, .ref (a 22), .ref (a 23), .ref (a 24), .ref (a 25), .ref (a 26), vI gr, .ref (a 28), .ref (a 29), vI eb, vI ec, vI ef, vI iv])] s.heap.size)) ([.ref o0, vI x] : List Value).toArray s 0 0 (va_A [(o0, ob 7 [vI th, .ref (a 1), .ref (a 2), .ref (a 3), .ref (a 4), .ref (a 5), vI mk, .ref (a 7), .ref (a 8), vI bl, .ref (a 10), vI hm, vI rc, .ref (a 13), .ref (a 14), .ref (a 15), vI lk, vI lg, vI kp, vI fi, vI lo, vI wt, .ref (a 22), .ref (a 23), .ref (a 24), .ref (a 25), .ref (a 26), vI gr, .ref (a 28), .ref (a 29), vI eb, vI ec, vI ef, vI iv])] s.heap.size)) (F0 m 0 ls []) by rw [hHe, hLe] at hgo; exact hgo
  rw [← hHe] at hP
  have hS : va_S A s.heap H locs := by rw [hHe, hLe]; exact hS
  clear hHe hLe
  refine lv_aload_n hx hb dX7_isBlock_0 rfl (lv_at hl 0 rfl) ?_
  refine lv_iload_n hx hb dX7_isBlock_1 rfl (lv_at hl 1 rfl) ?_
  refine z_if_lt (tgt := 13) hx hb dX7_isBlock_2 (by decide) (by omega) (fun c_2 => ?_) (fun c_2 => ?_)
  · refine lv_iconst (v := iI 1) hx hb dX7_isBlock_13 rfl ?_
    refine lv_goto (tgt := 18) hx hb dX7_isBlock_14 (by decide) ?_
    refine z_put (ws' := [(o0, ob 7 [vI 1, .ref (a 1), .ref (a 2), .ref (a 3), .ref (a 4), .ref (a 5), vI mk, .ref (a 7), .ref (a 8), vI bl, .ref (a 10), vI hm, vI rc, .ref (a 13), .ref (a 14), .ref (a 15), vI lk, vI lg, vI kp, vI fi, vI lo, vI wt, .ref (a 22), .ref (a 23), .ref (a 24), .ref (a 25), .ref (a 26), vI gr, .ref (a 28), .ref (a 29), vI eb, vI ec, vI ef, vI iv])]) hC hK hP hD hS inX7 tyX7 tyX7_ok nmX7 rfl 0 rfl 0 (by decide) tw_792 rfl rfl rfl (Nat.le_of_ble_eq_true rfl) rfl dX7_isBlock_18 (fun H locs hP hD hS => ?_)
    refine lv_aload_n hx hb dX7_isBlock_21 rfl (lv_at hl 0 rfl) ?_
    refine z_get (v := vI 1) hC hK hP inX7 rfl 0 rfl 0 (by decide) tw_792 rfl dX7_isBlock_22 ?_
    refine z_if_ne (tgt := 32) hx hb dX7_isBlock_25 (by decide) (by omega) (fun c_25 => ?_) (fun c_25 => ?_)
    · refine lv_iconst (v := iI 0) hx hb dX7_isBlock_32 rfl ?_
      exact z_bretW hC hr hlk () hAe hP hD hS [0] (by decide) rfl rfl (⟨rfl, trivial⟩) (by simp) dX7_isBlock_33
    · exact absurd c_25 (by decide)
  · refine lv_iload_n hx hb dX7_isBlock_5 rfl (lv_at hl 1 rfl) ?_
    refine lv_aload_n hx hb dX7_isBlock_6 rfl (lv_at hl 0 rfl) ?_
    refine z_get (v := vI bl) hC hK hP inX7 rfl 0 rfl 9 (by decide) tw_801 rfl dX7_isBlock_7 ?_
    refine z_icmp_lt (tgt := 17) hx hb dX7_isBlock_10 (by decide) (by omega) (fun c_10 => ?_) (fun c_10 => ?_)
    · exfalso; omega
    · refine lv_iconst (v := iI 1) hx hb dX7_isBlock_13 rfl ?_
      refine lv_goto (tgt := 18) hx hb dX7_isBlock_14 (by decide) ?_
      refine z_put (ws' := [(o0, ob 7 [vI 1, .ref (a 1), .ref (a 2), .ref (a 3), .ref (a 4), .ref (a 5), vI mk, .ref (a 7), .ref (a 8), vI bl, .ref (a 10), vI hm, vI rc, .ref (a 13), .ref (a 14), .ref (a 15), vI lk, vI lg, vI kp, vI fi, vI lo, vI wt, .ref (a 22), .ref (a 23), .ref (a 24), .ref (a 25), .ref (a 26), vI gr, .ref (a 28), .ref (a 29), vI eb, vI ec, vI ef, vI iv])]) hC hK hP hD hS inX7 tyX7 tyX7_ok nmX7 rfl 0 rfl 0 (by decide) tw_792 rfl rfl rfl (Nat.le_of_ble_eq_true rfl) rfl dX7_isBlock_18 (fun H locs hP hD hS => ?_)
      refine lv_aload_n hx hb dX7_isBlock_21 rfl (lv_at hl 0 rfl) ?_
      refine z_get (v := vI 1) hC hK hP inX7 rfl 0 rfl 0 (by decide) tw_792 rfl dX7_isBlock_22 ?_
      refine z_if_ne (tgt := 32) hx hb dX7_isBlock_25 (by decide) (by omega) (fun c_25 => ?_) (fun c_25 => ?_)
      · refine lv_iconst (v := iI 0) hx hb dX7_isBlock_32 rfl ?_
        exact z_bretW hC hr hlk () hAe hP hD hS [0] (by decide) rfl rfl (⟨rfl, trivial⟩) (by simp) dX7_isBlock_33
      · exact absurd c_25 (by decide)

set_option maxRecDepth 100000 in
set_option maxHeartbeats 4000000 in
theorem c_X7_isFile_t (l : Launch) (G : zGt) (sz : Nat) (o0 : Nat) (a : Nat → Nat) (th mk bl hm rc lk lg kp fi lo wt gr eb ec ef iv : Int) (x : Int) (hr_ : 0 ≤ fi ∧ fi ≤ 41) (hx : 0 ≤ x ∧ x < fi) : Met l yX7_isFile (Cond.code yX7_isFile cX7_isFile 2 (some .boolean) :: tb) ({ frames := 0, cells := 0, slots := 0, locals := 0 } : Room) (zPw G [(o0, ob 7 [vI th, .ref (a 1), .ref (a 2), .ref (a 3), .ref (a 4), .ref (a 5), vI mk, .ref (a 7), .ref (a 8), vI bl, .ref (a 10), vI hm, vI rc, .ref (a 13), .ref (a 14), .ref (a 15), vI lk, vI lg, vI kp, vI fi, vI lo, vI wt, .ref (a 22), .ref (a 23), .ref (a 24), .ref (a 25), .ref (a 26), vI gr, .ref (a 28), .ref (a 29), vI eb, vI ec, vI ef, vI iv])] sz [.ref o0, vI x]) (va_Qi (fun (r : Int32) (u : Unit) => r = iI 1 ∧ True) (fun (u : Unit) t => zB G [(o0, ob 7 [vI th, .ref (a 1), .ref (a 2), .ref (a 3), .ref (a 4), .ref (a 5), vI mk, .ref (a 7), .ref (a 8), vI bl, .ref (a 10), vI hm, vI rc, .ref (a 13), .ref (a 14), .ref (a 15), vI lk, vI lg, vI kp, vI fi, vI lo, vI wt, .ref (a 22), .ref (a 23), .ref (a 24), .ref (a 25), .ref (a 26), vI gr, .ref (a 28), .ref (a 29), vI eb, vI ec, vI ef, vI iv])] sz [(o0, ob 7 [vI 0, .ref (a 1), .ref (a 2), .ref (a 3), .ref (a 4), .ref (a 5), vI mk, .ref (a 7), .ref (a 8), vI bl, .ref (a 10), vI hm, vI rc, .ref (a 13), .ref (a 14), .ref (a 15), vI lk, vI lg, vI kp, vI fi, vI lo, vI wt, .ref (a 22), .ref (a 23), .ref (a 24), .ref (a 25), .ref (a 26), vI gr, .ref (a 28), .ref (a 29), vI eb, vI ec, vI ef, vI iv])] t) (va_A [(o0, ob 7 [vI th, .ref (a 1), .ref (a 2), .ref (a 3), .ref (a 4), .ref (a 5), vI mk, .ref (a 7), .ref (a 8), vI bl, .ref (a 10), vI hm, vI rc, .ref (a 13), .ref (a 14), .ref (a 15), vI lk, vI lg, vI kp, vI fi, vI lo, vI wt, .ref (a 22), .ref (a 23), .ref (a 24), .ref (a 25), .ref (a 26), vI gr, .ref (a 28), .ref (a 29), vI eb, vI ec, vI ef, vI iv])] sz)) 0 0 (va_A [(o0, ob 7 [vI th, .ref (a 1), .ref (a 2), .ref (a 3), .ref (a 4), .ref (a 5), vI mk, .ref (a 7), .ref (a 8), vI bl, .ref (a 10), vI hm, vI rc, .ref (a 13), .ref (a 14), .ref (a 15), vI lk, vI lg, vI kp, vI fi, vI lo, vI wt, .ref (a 22), .ref (a 23), .ref (a 24), .ref (a 25), .ref (a 26), vI gr, .ref (a 28), .ref (a 29), vI eb, vI ec, vI ef, vI iv])] sz) := by
  refine Met.ofW (cc := cX7_isFile) (maxL := 2) (ret := (some .boolean)) (by decide) rfl ?_
  intro p e s m args below meth c s₁ B hml hv
  obtain ⟨rfl, hsz, hP, hK, hD0⟩ := hv
  subst hsz
  have hD := hD0.self (sz := s.heap.size)
  obtain ⟨A, hAe⟩ : ∃ A : Nat → Prop, A = va_A [(o0, ob 7 [vI th, .ref (a 1), .ref (a 2), .ref (a 3), .ref (a 4), .ref (a 5), vI mk, .ref (a 7), .ref (a 8), vI bl, .ref (a 10), vI hm, vI rc, .ref (a 13), .ref (a 14), .ref (a 15), vI lk, vI lg, vI kp, vI fi, vI lo, vI wt, .ref (a 22), .ref (a 23), .ref (a 24), .ref (a 25), .ref (a 26), vI gr, .ref (a 28), .ref (a 29), vI eb, vI ec, vI ef, vI iv])] s.heap.size := ⟨_, rfl⟩
  rw [← hAe] at hD
  have hA : ∀ q : Nat, s.heap.size ≤ q → A q := fun q h => by rw [hAe]; exact Or.inr h
  have hS : va_S A s.heap s.heap [] := va_S.rf
  obtain ⟨hC, hr, hlk⟩ := z_begin B hml
  have hC : CallFix p m c cX7_isFile 2 s _ tb RX7 := hC
  have hx := hC.1
  have hb := hC.2.1
  have hl := lv_entry ([.ref o0, vI x]) (n := 2) (Nat.le_of_ble_eq_true rfl)
  rw [lg_entry_eq]
  generalize (lg_sl ([.ref o0, vI x]) ++ List.replicate (2 - (lg_sl ([.ref o0, vI x])).length) Slot.unset).toArray = ls at hl ⊢
  have hl : lv_has ls 2 [(0, .ref o0), (1, vI x)] := hl
  obtain ⟨H, hHe⟩ : ∃ H : Heap, H = s.heap := ⟨_, rfl⟩
  obtain ⟨locs, hLe⟩ : ∃ L : List Loc, L = [] := ⟨_, rfl⟩
  suffices hgo : W p l e (headSpec (Cond.code yX7_isFile cX7_isFile 2 (some .boolean) :: tb) ({ frames := 0, cells := 0, slots := 0, locals := 0 } : Room)).room s m ([.ref o0, vI x] : List Value).toArray below meth c H locs 0 0 (MQ below (va_Qi (fun (r : Int32) (u : Unit) => r = iI 1 ∧ True) (fun (u : Unit) t => zB G [(o0, ob 7 [vI th, .ref (a 1), .ref (a 2), .ref (a 3), .ref (a 4), .ref (a 5), vI mk, .ref (a 7), .ref (a 8), vI bl, .ref (a 10), vI hm, vI rc, .ref (a 13), .ref (a 14), .ref (a 15), vI lk, vI lg, vI kp, vI fi, vI lo, vI wt, .ref (a 22), .ref (a 23), .ref (a 24), .ref (a 25), .ref (a 26), vI gr, .ref (a 28), .ref (a 29), vI eb, vI ec, vI ef, vI iv])] s.heap.size [(o0, ob 7 [vI 0, .ref (a 1), .ref (a 2), .ref (a 3), .ref (a 4), .ref (a 5), vI mk, .ref (a 7), .ref (a 8), vI bl, .ref (a 10), vI hm, vI rc, .ref (a 13), .ref (a 14), .ref (a 15), vI lk, vI lg, vI kp, vI fi, vI lo, vI wt, .ref (a 22), .ref (a 23), .ref (a 24), .ref (a 25), .ref (a 26), vI gr, .ref (a 28), .ref (a 29), vI eb, vI ec, vI ef, vI iv])] t) (va_A [(o0, ob 7 [vI th, .ref (a 1), .ref (a 2), .ref (a 3), .ref (a 4), .ref (a 5), vI mk, .ref (a 7), .ref (a 8), vI bl, .ref (a 10), vI hm, vI rc, .ref (a 13), .ref (a 14), .ref (a 15), vI lk, vI lg, vI kp, vI fi, vI lo, vI wt, .ref (a 22), .ref (a 23), .ref (a 24), .ref (a 25), .ref (a 26), vI gr, .ref (a 28), .ref (a 29), vI eb, vI ec, vI ef, vI iv])] s.heap.size)) ([.ref o0, vI x] : List Value).toArray s 0 0 (va_A [(o0, ob 7 [vI th, .ref (a 1), .ref (a 2), .ref (a 3), .ref (a 4), .ref (a 5), vI mk, .ref (a 7), .ref (a 8), vI bl, .ref (a 10), vI hm, vI rc, .ref (a 13), .ref (a 14), .ref (a 15), vI lk, vI lg, vI kp, vI fi, vI lo, vI wt, .ref (a 22), .ref (a 23), .ref (a 24), .ref (a 25), .ref (a 26), vI gr, .ref (a 28), .ref (a 29), vI eb, vI ec, vI ef, vI iv])] s.heap.size)) (F0 m 0 ls []) by rw [hHe, hLe] at hgo; exact hgo
  rw [← hHe] at hP
  have hS : va_S A s.heap H locs := by rw [hHe, hLe]; exact hS
  clear hHe hLe
  refine lv_aload_n hx hb dX7_isFile_0 rfl (lv_at hl 0 rfl) ?_
  refine lv_iload_n hx hb dX7_isFile_1 rfl (lv_at hl 1 rfl) ?_
  refine z_if_lt (tgt := 13) hx hb dX7_isFile_2 (by decide) (by omega) (fun c_2 => ?_) (fun c_2 => ?_)
  · exfalso; omega
  · refine lv_iload_n hx hb dX7_isFile_5 rfl (lv_at hl 1 rfl) ?_
    refine lv_aload_n hx hb dX7_isFile_6 rfl (lv_at hl 0 rfl) ?_
    refine z_get (v := vI fi) hC hK hP inX7 rfl 0 rfl 19 (by decide) tw_811 rfl dX7_isFile_7 ?_
    refine z_icmp_lt (tgt := 17) hx hb dX7_isFile_10 (by decide) (by omega) (fun c_10 => ?_) (fun c_10 => ?_)
    · refine lv_iconst (v := iI 0) hx hb dX7_isFile_17 rfl ?_
      refine z_put (ws' := [(o0, ob 7 [vI 0, .ref (a 1), .ref (a 2), .ref (a 3), .ref (a 4), .ref (a 5), vI mk, .ref (a 7), .ref (a 8), vI bl, .ref (a 10), vI hm, vI rc, .ref (a 13), .ref (a 14), .ref (a 15), vI lk, vI lg, vI kp, vI fi, vI lo, vI wt, .ref (a 22), .ref (a 23), .ref (a 24), .ref (a 25), .ref (a 26), vI gr, .ref (a 28), .ref (a 29), vI eb, vI ec, vI ef, vI iv])]) hC hK hP hD hS inX7 tyX7 tyX7_ok nmX7 rfl 0 rfl 0 (by decide) tw_792 rfl rfl rfl (Nat.le_of_ble_eq_true rfl) rfl dX7_isFile_18 (fun H locs hP hD hS => ?_)
      refine lv_aload_n hx hb dX7_isFile_21 rfl (lv_at hl 0 rfl) ?_
      refine z_get (v := vI 0) hC hK hP inX7 rfl 0 rfl 0 (by decide) tw_792 rfl dX7_isFile_22 ?_
      refine z_if_ne (tgt := 32) hx hb dX7_isFile_25 (by decide) (by omega) (fun c_25 => ?_) (fun c_25 => ?_)
      · exact absurd c_25 (by decide)
      · refine lv_iconst (v := iI 1) hx hb dX7_isFile_28 rfl ?_
        refine lv_goto (tgt := 33) hx hb dX7_isFile_29 (by decide) ?_
        exact z_bretW hC hr hlk () hAe hP hD hS [0] (by decide) rfl rfl (⟨rfl, trivial⟩) (by simp) dX7_isFile_33
    · exfalso; omega

set_option maxRecDepth 100000 in
set_option maxHeartbeats 4000000 in
theorem c_X7_isFile_f (l : Launch) (G : zGt) (sz : Nat) (o0 : Nat) (a : Nat → Nat) (th mk bl hm rc lk lg kp fi lo wt gr eb ec ef iv : Int) (x : Int) (hr_ : 0 ≤ fi ∧ fi ≤ 41) (hx : -2147483648 ≤ x ∧ x < 2147483648) (hx2 : ¬ (0 ≤ x ∧ x < fi)) : Met l yX7_isFile (Cond.code yX7_isFile cX7_isFile 2 (some .boolean) :: tb) ({ frames := 0, cells := 0, slots := 0, locals := 0 } : Room) (zPw G [(o0, ob 7 [vI th, .ref (a 1), .ref (a 2), .ref (a 3), .ref (a 4), .ref (a 5), vI mk, .ref (a 7), .ref (a 8), vI bl, .ref (a 10), vI hm, vI rc, .ref (a 13), .ref (a 14), .ref (a 15), vI lk, vI lg, vI kp, vI fi, vI lo, vI wt, .ref (a 22), .ref (a 23), .ref (a 24), .ref (a 25), .ref (a 26), vI gr, .ref (a 28), .ref (a 29), vI eb, vI ec, vI ef, vI iv])] sz [.ref o0, vI x]) (va_Qi (fun (r : Int32) (u : Unit) => r = iI 0 ∧ True) (fun (u : Unit) t => zB G [(o0, ob 7 [vI th, .ref (a 1), .ref (a 2), .ref (a 3), .ref (a 4), .ref (a 5), vI mk, .ref (a 7), .ref (a 8), vI bl, .ref (a 10), vI hm, vI rc, .ref (a 13), .ref (a 14), .ref (a 15), vI lk, vI lg, vI kp, vI fi, vI lo, vI wt, .ref (a 22), .ref (a 23), .ref (a 24), .ref (a 25), .ref (a 26), vI gr, .ref (a 28), .ref (a 29), vI eb, vI ec, vI ef, vI iv])] sz [(o0, ob 7 [vI 1, .ref (a 1), .ref (a 2), .ref (a 3), .ref (a 4), .ref (a 5), vI mk, .ref (a 7), .ref (a 8), vI bl, .ref (a 10), vI hm, vI rc, .ref (a 13), .ref (a 14), .ref (a 15), vI lk, vI lg, vI kp, vI fi, vI lo, vI wt, .ref (a 22), .ref (a 23), .ref (a 24), .ref (a 25), .ref (a 26), vI gr, .ref (a 28), .ref (a 29), vI eb, vI ec, vI ef, vI iv])] t) (va_A [(o0, ob 7 [vI th, .ref (a 1), .ref (a 2), .ref (a 3), .ref (a 4), .ref (a 5), vI mk, .ref (a 7), .ref (a 8), vI bl, .ref (a 10), vI hm, vI rc, .ref (a 13), .ref (a 14), .ref (a 15), vI lk, vI lg, vI kp, vI fi, vI lo, vI wt, .ref (a 22), .ref (a 23), .ref (a 24), .ref (a 25), .ref (a 26), vI gr, .ref (a 28), .ref (a 29), vI eb, vI ec, vI ef, vI iv])] sz)) 0 0 (va_A [(o0, ob 7 [vI th, .ref (a 1), .ref (a 2), .ref (a 3), .ref (a 4), .ref (a 5), vI mk, .ref (a 7), .ref (a 8), vI bl, .ref (a 10), vI hm, vI rc, .ref (a 13), .ref (a 14), .ref (a 15), vI lk, vI lg, vI kp, vI fi, vI lo, vI wt, .ref (a 22), .ref (a 23), .ref (a 24), .ref (a 25), .ref (a 26), vI gr, .ref (a 28), .ref (a 29), vI eb, vI ec, vI ef, vI iv])] sz) := by
  refine Met.ofW (cc := cX7_isFile) (maxL := 2) (ret := (some .boolean)) (by decide) rfl ?_
  intro p e s m args below meth c s₁ B hml hv
  obtain ⟨rfl, hsz, hP, hK, hD0⟩ := hv
  subst hsz
  have hD := hD0.self (sz := s.heap.size)
  obtain ⟨A, hAe⟩ : ∃ A : Nat → Prop, A = va_A [(o0, ob 7 [vI th, .ref (a 1), .ref (a 2), .ref (a 3), .ref (a 4), .ref (a 5), vI mk, .ref (a 7), .ref (a 8), vI bl, .ref (a 10), vI hm, vI rc, .ref (a 13), .ref (a 14), .ref (a 15), vI lk, vI lg, vI kp, vI fi, vI lo, vI wt, .ref (a 22), .ref (a 23), .ref (a 24), .ref (a 25), .ref (a 26), vI gr, .ref (a 28), .ref (a 29), vI eb, vI ec, vI ef, vI iv])] s.heap.size := ⟨_, rfl⟩
  rw [← hAe] at hD
  have hA : ∀ q : Nat, s.heap.size ≤ q → A q := fun q h => by rw [hAe]; exact Or.inr h
  have hS : va_S A s.heap s.heap [] := va_S.rf
  obtain ⟨hC, hr, hlk⟩ := z_begin B hml
  have hC : CallFix p m c cX7_isFile 2 s _ tb RX7 := hC
  have hx := hC.1
  have hb := hC.2.1
  have hl := lv_entry ([.ref o0, vI x]) (n := 2) (Nat.le_of_ble_eq_true rfl)
  rw [lg_entry_eq]
  generalize (lg_sl ([.ref o0, vI x]) ++ List.replicate (2 - (lg_sl ([.ref o0, vI x])).length) Slot.unset).toArray = ls at hl ⊢
  have hl : lv_has ls 2 [(0, .ref o0), (1, vI x)] := hl
  obtain ⟨H, hHe⟩ : ∃ H : Heap, H = s.heap := ⟨_, rfl⟩
  obtain ⟨locs, hLe⟩ : ∃ L : List Loc, L = [] := ⟨_, rfl⟩
  suffices hgo : W p l e (headSpec (Cond.code yX7_isFile cX7_isFile 2 (some .boolean) :: tb) ({ frames := 0, cells := 0, slots := 0, locals := 0 } : Room)).room s m ([.ref o0, vI x] : List Value).toArray below meth c H locs 0 0 (MQ below (va_Qi (fun (r : Int32) (u : Unit) => r = iI 0 ∧ True) (fun (u : Unit) t => zB G [(o0, ob 7 [vI th, .ref (a 1), .ref (a 2), .ref (a 3), .ref (a 4), .ref (a 5), vI mk, .ref (a 7), .ref (a 8), vI bl, .ref (a 10), vI hm, vI rc, .ref (a 13), .ref (a 14), .ref (a 15), vI lk, vI lg, vI kp, vI fi, vI lo, vI wt, .ref (a 22), .ref (a 23), .ref (a 24), .ref (a 25), .ref (a 26), vI gr, .ref (a 28), .ref (a 29), vI eb, vI ec, vI ef, vI iv])] s.heap.size [(o0, ob 7 [vI 1, .ref (a 1), .ref (a 2), .ref (a 3), .ref (a 4), .ref (a 5), vI mk, .ref (a 7), .ref (a 8), vI bl, .ref (a 10), vI hm, vI rc, .ref (a 13), .ref (a 14), .ref (a 15), vI lk, vI lg, vI kp, vI fi, vI lo, vI wt, .ref (a 22), .ref (a 23), .ref (a 24), .ref (a 25), .ref (a 26), vI gr, .ref (a 28), .ref (a 29), vI eb, vI ec, vI ef, vI iv])] t) (va_A [(o0, ob 7 [vI th, .ref (a 1), .ref (a 2), .ref (a 3), .ref (a 4), .ref (a 5), vI mk, .ref (a 7), .ref (a 8), vI bl, .ref (a 10), vI hm, vI rc, .ref (a 13), .ref (a 14), .ref (a 15), vI lk, vI lg, vI kp, vI fi, vI lo, vI wt, .ref (a 22), .ref (a 23), .ref (a 24), .ref (a 25), .ref (a 26), vI gr, .ref (a 28), .ref (a 29), vI eb, vI ec, vI ef, vI iv])] s.heap.size)) ([.ref o0, vI x] : List Value).toArray s 0 0 (va_A [(o0, ob 7 [vI th, .ref (a 1), .ref (a 2), .ref (a 3), .ref (a 4), .ref (a 5), vI mk, .ref (a 7), .ref (a 8), vI bl, .ref (a 10), vI hm, vI rc, .ref (a 13), .ref (a 14), .ref (a 15), vI lk, vI lg, vI kp, vI fi, vI lo, vI wt, .ref (a 22), .ref (a 23), .ref (a 24), .ref (a 25), .ref (a 26), vI gr, .ref (a 28), .ref (a 29), vI eb, vI ec, vI ef, vI iv])] s.heap.size)) (F0 m 0 ls []) by rw [hHe, hLe] at hgo; exact hgo
  rw [← hHe] at hP
  have hS : va_S A s.heap H locs := by rw [hHe, hLe]; exact hS
  clear hHe hLe
  refine lv_aload_n hx hb dX7_isFile_0 rfl (lv_at hl 0 rfl) ?_
  refine lv_iload_n hx hb dX7_isFile_1 rfl (lv_at hl 1 rfl) ?_
  refine z_if_lt (tgt := 13) hx hb dX7_isFile_2 (by decide) (by omega) (fun c_2 => ?_) (fun c_2 => ?_)
  · refine lv_iconst (v := iI 1) hx hb dX7_isFile_13 rfl ?_
    refine lv_goto (tgt := 18) hx hb dX7_isFile_14 (by decide) ?_
    refine z_put (ws' := [(o0, ob 7 [vI 1, .ref (a 1), .ref (a 2), .ref (a 3), .ref (a 4), .ref (a 5), vI mk, .ref (a 7), .ref (a 8), vI bl, .ref (a 10), vI hm, vI rc, .ref (a 13), .ref (a 14), .ref (a 15), vI lk, vI lg, vI kp, vI fi, vI lo, vI wt, .ref (a 22), .ref (a 23), .ref (a 24), .ref (a 25), .ref (a 26), vI gr, .ref (a 28), .ref (a 29), vI eb, vI ec, vI ef, vI iv])]) hC hK hP hD hS inX7 tyX7 tyX7_ok nmX7 rfl 0 rfl 0 (by decide) tw_792 rfl rfl rfl (Nat.le_of_ble_eq_true rfl) rfl dX7_isFile_18 (fun H locs hP hD hS => ?_)
    refine lv_aload_n hx hb dX7_isFile_21 rfl (lv_at hl 0 rfl) ?_
    refine z_get (v := vI 1) hC hK hP inX7 rfl 0 rfl 0 (by decide) tw_792 rfl dX7_isFile_22 ?_
    refine z_if_ne (tgt := 32) hx hb dX7_isFile_25 (by decide) (by omega) (fun c_25 => ?_) (fun c_25 => ?_)
    · refine lv_iconst (v := iI 0) hx hb dX7_isFile_32 rfl ?_
      exact z_bretW hC hr hlk () hAe hP hD hS [0] (by decide) rfl rfl (⟨rfl, trivial⟩) (by simp) dX7_isFile_33
    · exact absurd c_25 (by decide)
  · refine lv_iload_n hx hb dX7_isFile_5 rfl (lv_at hl 1 rfl) ?_
    refine lv_aload_n hx hb dX7_isFile_6 rfl (lv_at hl 0 rfl) ?_
    refine z_get (v := vI fi) hC hK hP inX7 rfl 0 rfl 19 (by decide) tw_811 rfl dX7_isFile_7 ?_
    refine z_icmp_lt (tgt := 17) hx hb dX7_isFile_10 (by decide) (by omega) (fun c_10 => ?_) (fun c_10 => ?_)
    · exfalso; omega
    · refine lv_iconst (v := iI 1) hx hb dX7_isFile_13 rfl ?_
      refine lv_goto (tgt := 18) hx hb dX7_isFile_14 (by decide) ?_
      refine z_put (ws' := [(o0, ob 7 [vI 1, .ref (a 1), .ref (a 2), .ref (a 3), .ref (a 4), .ref (a 5), vI mk, .ref (a 7), .ref (a 8), vI bl, .ref (a 10), vI hm, vI rc, .ref (a 13), .ref (a 14), .ref (a 15), vI lk, vI lg, vI kp, vI fi, vI lo, vI wt, .ref (a 22), .ref (a 23), .ref (a 24), .ref (a 25), .ref (a 26), vI gr, .ref (a 28), .ref (a 29), vI eb, vI ec, vI ef, vI iv])]) hC hK hP hD hS inX7 tyX7 tyX7_ok nmX7 rfl 0 rfl 0 (by decide) tw_792 rfl rfl rfl (Nat.le_of_ble_eq_true rfl) rfl dX7_isFile_18 (fun H locs hP hD hS => ?_)
      refine lv_aload_n hx hb dX7_isFile_21 rfl (lv_at hl 0 rfl) ?_
      refine z_get (v := vI 1) hC hK hP inX7 rfl 0 rfl 0 (by decide) tw_792 rfl dX7_isFile_22 ?_
      refine z_if_ne (tgt := 32) hx hb dX7_isFile_25 (by decide) (by omega) (fun c_25 => ?_) (fun c_25 => ?_)
      · refine lv_iconst (v := iI 0) hx hb dX7_isFile_32 rfl ?_
        exact z_bretW hC hr hlk () hAe hP hD hS [0] (by decide) rfl rfl (⟨rfl, trivial⟩) (by simp) dX7_isFile_33
      · exact absurd c_25 (by decide)

set_option maxRecDepth 100000 in
set_option maxHeartbeats 4000000 in
theorem c_X7_make_1 (l : Launch) (G : zGt) (sz : Nat) (o0 : Nat) (a : Nat → Nat) (th mk bl hm rc lk lg kp fi lo wt gr eb ec ef iv : Int) (x y z : Int) (hmk : 0 ≤ mk ∧ mk ≤ 6) (hx : -2147483648 ≤ x ∧ x < 2147483648) (hy : -2147483648 ≤ y ∧ y < 2147483648) (hz : -2147483648 ≤ z ∧ z < 2147483648) (hno : ¬ ((0 ≤ x ∧ x < 256) ∧ (0 ≤ y ∧ y < 256) ∧ 0 ≤ z ∧ z ≤ 2)) : Met l yX7_make (Cond.code yX7_make cX7_make 4 (some .int) :: tb) ({ frames := 1, cells := 0, slots := 0, locals := 22 } : Room) (zPw G [(o0, ob 7 [vI th, .ref (a 1), .ref (a 2), .ref (a 3), .ref (a 4), .ref (a 5), vI mk, .ref (a 7), .ref (a 8), vI bl, .ref (a 10), vI hm, vI rc, .ref (a 13), .ref (a 14), .ref (a 15), vI lk, vI lg, vI kp, vI fi, vI lo, vI wt, .ref (a 22), .ref (a 23), .ref (a 24), .ref (a 25), .ref (a 26), vI gr, .ref (a 28), .ref (a 29), vI eb, vI ec, vI ef, vI iv])] sz [.ref o0, vI x, vI y, vI z]) (va_Qi (fun (r : Int32) (u : Unit) => r = iI 0 ∧ True) (fun (u : Unit) t => zB G [(o0, ob 7 [vI th, .ref (a 1), .ref (a 2), .ref (a 3), .ref (a 4), .ref (a 5), vI mk, .ref (a 7), .ref (a 8), vI bl, .ref (a 10), vI hm, vI rc, .ref (a 13), .ref (a 14), .ref (a 15), vI lk, vI lg, vI kp, vI fi, vI lo, vI wt, .ref (a 22), .ref (a 23), .ref (a 24), .ref (a 25), .ref (a 26), vI gr, .ref (a 28), .ref (a 29), vI eb, vI ec, vI ef, vI iv])] sz [(o0, ob 7 [vI 1, .ref (a 1), .ref (a 2), .ref (a 3), .ref (a 4), .ref (a 5), vI mk, .ref (a 7), .ref (a 8), vI bl, .ref (a 10), vI hm, vI rc, .ref (a 13), .ref (a 14), .ref (a 15), vI lk, vI lg, vI kp, vI fi, vI lo, vI wt, .ref (a 22), .ref (a 23), .ref (a 24), .ref (a 25), .ref (a 26), vI gr, .ref (a 28), .ref (a 29), vI eb, vI ec, vI ef, vI iv])] t) (va_A [(o0, ob 7 [vI th, .ref (a 1), .ref (a 2), .ref (a 3), .ref (a 4), .ref (a 5), vI mk, .ref (a 7), .ref (a 8), vI bl, .ref (a 10), vI hm, vI rc, .ref (a 13), .ref (a 14), .ref (a 15), vI lk, vI lg, vI kp, vI fi, vI lo, vI wt, .ref (a 22), .ref (a 23), .ref (a 24), .ref (a 25), .ref (a 26), vI gr, .ref (a 28), .ref (a 29), vI eb, vI ec, vI ef, vI iv])] sz)) 0 0 (va_A [(o0, ob 7 [vI th, .ref (a 1), .ref (a 2), .ref (a 3), .ref (a 4), .ref (a 5), vI mk, .ref (a 7), .ref (a 8), vI bl, .ref (a 10), vI hm, vI rc, .ref (a 13), .ref (a 14), .ref (a 15), vI lk, vI lg, vI kp, vI fi, vI lo, vI wt, .ref (a 22), .ref (a 23), .ref (a 24), .ref (a 25), .ref (a 26), vI gr, .ref (a 28), .ref (a 29), vI eb, vI ec, vI ef, vI iv])] sz) := by
  refine Met.ofW (cc := cX7_make) (maxL := 4) (ret := (some .int)) (by decide) rfl ?_
  intro p e s m args below meth c s₁ B hml hv
  obtain ⟨rfl, hsz, hP, hK, hD0⟩ := hv
  subst hsz
  have hD := hD0.self (sz := s.heap.size)
  obtain ⟨A, hAe⟩ : ∃ A : Nat → Prop, A = va_A [(o0, ob 7 [vI th, .ref (a 1), .ref (a 2), .ref (a 3), .ref (a 4), .ref (a 5), vI mk, .ref (a 7), .ref (a 8), vI bl, .ref (a 10), vI hm, vI rc, .ref (a 13), .ref (a 14), .ref (a 15), vI lk, vI lg, vI kp, vI fi, vI lo, vI wt, .ref (a 22), .ref (a 23), .ref (a 24), .ref (a 25), .ref (a 26), vI gr, .ref (a 28), .ref (a 29), vI eb, vI ec, vI ef, vI iv])] s.heap.size := ⟨_, rfl⟩
  rw [← hAe] at hD
  have hA : ∀ q : Nat, s.heap.size ≤ q → A q := fun q h => by rw [hAe]; exact Or.inr h
  have hS : va_S A s.heap s.heap [] := va_S.rf
  obtain ⟨hC, hr, hlk⟩ := z_begin B hml
  have hC : CallFix p m c cX7_make 4 s _ tb RX7 := hC
  have hx := hC.1
  have hb := hC.2.1
  have hl := lv_entry ([.ref o0, vI x, vI y, vI z]) (n := 4) (Nat.le_of_ble_eq_true rfl)
  rw [lg_entry_eq]
  generalize (lg_sl ([.ref o0, vI x, vI y, vI z]) ++ List.replicate (4 - (lg_sl ([.ref o0, vI x, vI y, vI z])).length) Slot.unset).toArray = ls at hl ⊢
  have hl : lv_has ls 4 [(0, .ref o0), (1, vI x), (2, vI y), (3, vI z)] := hl
  obtain ⟨H, hHe⟩ : ∃ H : Heap, H = s.heap := ⟨_, rfl⟩
  obtain ⟨locs, hLe⟩ : ∃ L : List Loc, L = [] := ⟨_, rfl⟩
  suffices hgo : W p l e (headSpec (Cond.code yX7_make cX7_make 4 (some .int) :: tb) ({ frames := 1, cells := 0, slots := 0, locals := 22 } : Room)).room s m ([.ref o0, vI x, vI y, vI z] : List Value).toArray below meth c H locs 0 0 (MQ below (va_Qi (fun (r : Int32) (u : Unit) => r = iI 0 ∧ True) (fun (u : Unit) t => zB G [(o0, ob 7 [vI th, .ref (a 1), .ref (a 2), .ref (a 3), .ref (a 4), .ref (a 5), vI mk, .ref (a 7), .ref (a 8), vI bl, .ref (a 10), vI hm, vI rc, .ref (a 13), .ref (a 14), .ref (a 15), vI lk, vI lg, vI kp, vI fi, vI lo, vI wt, .ref (a 22), .ref (a 23), .ref (a 24), .ref (a 25), .ref (a 26), vI gr, .ref (a 28), .ref (a 29), vI eb, vI ec, vI ef, vI iv])] s.heap.size [(o0, ob 7 [vI 1, .ref (a 1), .ref (a 2), .ref (a 3), .ref (a 4), .ref (a 5), vI mk, .ref (a 7), .ref (a 8), vI bl, .ref (a 10), vI hm, vI rc, .ref (a 13), .ref (a 14), .ref (a 15), vI lk, vI lg, vI kp, vI fi, vI lo, vI wt, .ref (a 22), .ref (a 23), .ref (a 24), .ref (a 25), .ref (a 26), vI gr, .ref (a 28), .ref (a 29), vI eb, vI ec, vI ef, vI iv])] t) (va_A [(o0, ob 7 [vI th, .ref (a 1), .ref (a 2), .ref (a 3), .ref (a 4), .ref (a 5), vI mk, .ref (a 7), .ref (a 8), vI bl, .ref (a 10), vI hm, vI rc, .ref (a 13), .ref (a 14), .ref (a 15), vI lk, vI lg, vI kp, vI fi, vI lo, vI wt, .ref (a 22), .ref (a 23), .ref (a 24), .ref (a 25), .ref (a 26), vI gr, .ref (a 28), .ref (a 29), vI eb, vI ec, vI ef, vI iv])] s.heap.size)) ([.ref o0, vI x, vI y, vI z] : List Value).toArray s 0 0 (va_A [(o0, ob 7 [vI th, .ref (a 1), .ref (a 2), .ref (a 3), .ref (a 4), .ref (a 5), vI mk, .ref (a 7), .ref (a 8), vI bl, .ref (a 10), vI hm, vI rc, .ref (a 13), .ref (a 14), .ref (a 15), vI lk, vI lg, vI kp, vI fi, vI lo, vI wt, .ref (a 22), .ref (a 23), .ref (a 24), .ref (a 25), .ref (a 26), vI gr, .ref (a 28), .ref (a 29), vI eb, vI ec, vI ef, vI iv])] s.heap.size)) (F0 m 0 ls []) by rw [hHe, hLe] at hgo; exact hgo
  rw [← hHe] at hP
  have hS : va_S A s.heap H locs := by rw [hHe, hLe]; exact hS
  clear hHe hLe
  refine lv_aload_n hx hb dX7_make_0 rfl (lv_at hl 0 rfl) ?_
  refine lv_iconst (v := iI 0) hx hb dX7_make_1 rfl ?_
  refine z_put (ws' := [(o0, ob 7 [vI 0, .ref (a 1), .ref (a 2), .ref (a 3), .ref (a 4), .ref (a 5), vI mk, .ref (a 7), .ref (a 8), vI bl, .ref (a 10), vI hm, vI rc, .ref (a 13), .ref (a 14), .ref (a 15), vI lk, vI lg, vI kp, vI fi, vI lo, vI wt, .ref (a 22), .ref (a 23), .ref (a 24), .ref (a 25), .ref (a 26), vI gr, .ref (a 28), .ref (a 29), vI eb, vI ec, vI ef, vI iv])]) hC hK hP hD hS inX7 tyX7 tyX7_ok nmX7 rfl 0 rfl 0 (by decide) tw_792 rfl rfl rfl (Nat.le_of_ble_eq_true rfl) rfl dX7_make_2 (fun H locs hP hD hS => ?_)
  refine lv_aload_n hx hb dX7_make_5 rfl (lv_at hl 0 rfl) ?_
  refine lv_iload_n hx hb dX7_make_6 rfl (lv_at hl 1 rfl) ?_
  refine z_rSi (rest := [.ref o0]) hC hK hP (c_X7_isByte l G x (by omega)) ms_X7_isByte tw_903 [] rfl rfl hl.1 rfl (Nat.le_of_ble_eq_true rfl) ⟨rfl, rfl, Nat.le_of_ble_eq_true rfl, Nat.le_of_ble_eq_true rfl⟩ ⟨Nat.le_of_ble_eq_true rfl, Nat.le_of_ble_eq_true rfl⟩ dX7_make_7 ?_
  refine z_if_eq (tgt := 29) hx hb dX7_make_10 (by decide) (by split <;> omega) (fun c_10 => ?_) (fun c_10 => ?_)
  · have hy10 : ¬ (0 ≤ x ∧ x < 256) := fun h => by rw [if_pos h] at c_10; omega
    refine lv_iconst (v := iI 1) hx hb dX7_make_29 rfl ?_
    refine lv_goto (tgt := 34) hx hb dX7_make_30 (by decide) ?_
    refine lv_iconst (v := iI 1) hx hb dX7_make_34 rfl ?_
    refine z_wVi (q0 := 0) (ci := 7) (b := o0) (rest := []) (wr := []) hC hK hP hD hS hA (c_X7_bad_1 l G H.size o0 a 0 mk bl hm rc lk lg kp fi lo wt gr eb ec ef iv 1) mv_X7_bad tw_906 [0] [] rfl rfl rfl rfl (by decide) rfl rfl rfl rfl hl.1 rfl (Nat.le_of_ble_eq_true rfl) ⟨rfl, rfl, Nat.le_of_ble_eq_true rfl, Nat.le_of_ble_eq_true rfl⟩ ⟨Nat.le_of_ble_eq_true rfl, Nat.le_of_ble_eq_true rfl⟩ dX7_make_35 (fun r u H locs hw hP hD hS => ?_)
    have hP : va_P G.1 vwCl [(o0, ob 7 [vI 1, .ref (a 1), .ref (a 2), .ref (a 3), .ref (a 4), .ref (a 5), vI mk, .ref (a 7), .ref (a 8), vI bl, .ref (a 10), vI hm, vI rc, .ref (a 13), .ref (a 14), .ref (a 15), vI lk, vI lg, vI kp, vI fi, vI lo, vI wt, .ref (a 22), .ref (a 23), .ref (a 24), .ref (a 25), .ref (a 26), vI gr, .ref (a 28), .ref (a 29), vI eb, vI ec, vI ef, vI iv])] H := hP
    have hD : va_D A [(o0, ob 7 [vI 1, .ref (a 1), .ref (a 2), .ref (a 3), .ref (a 4), .ref (a 5), vI mk, .ref (a 7), .ref (a 8), vI bl, .ref (a 10), vI hm, vI rc, .ref (a 13), .ref (a 14), .ref (a 15), vI lk, vI lg, vI kp, vI fi, vI lo, vI wt, .ref (a 22), .ref (a 23), .ref (a 24), .ref (a 25), .ref (a 26), vI gr, .ref (a 28), .ref (a 29), vI eb, vI ec, vI ef, vI iv])] := hD
    obtain ⟨hrw_, hw_1⟩ := hw
    rw [hrw_]
    clear hrw_
    clear hw_1
    refine z_if_ne (tgt := 63) hx hb dX7_make_38 (by decide) (by omega) (fun c_38 => ?_) (fun c_38 => ?_)
    · refine lv_iconst (v := iI 0) hx hb dX7_make_63 rfl ?_
      exact z_iretW hC hr hlk () hAe hP hD hS [0] (by decide) rfl rfl (⟨rfl, trivial⟩) dX7_make_64
    · exact absurd c_38 (by decide)
  · have hy10 : (0 ≤ x ∧ x < 256) := Classical.byContradiction fun h => by rw [if_neg h] at c_10; omega
    refine lv_iload_n hx hb dX7_make_13 rfl (lv_at hl 2 rfl) ?_
    refine z_rSi (rest := [.ref o0]) hC hK hP (c_X7_isByte l G y (by omega)) ms_X7_isByte tw_903 [] rfl rfl hl.1 rfl (Nat.le_of_ble_eq_true rfl) ⟨rfl, rfl, Nat.le_of_ble_eq_true rfl, Nat.le_of_ble_eq_true rfl⟩ ⟨Nat.le_of_ble_eq_true rfl, Nat.le_of_ble_eq_true rfl⟩ dX7_make_14 ?_
    refine z_if_eq (tgt := 29) hx hb dX7_make_17 (by decide) (by split <;> omega) (fun c_17 => ?_) (fun c_17 => ?_)
    · have hy17 : ¬ (0 ≤ y ∧ y < 256) := fun h => by rw [if_pos h] at c_17; omega
      refine lv_iconst (v := iI 1) hx hb dX7_make_29 rfl ?_
      refine lv_goto (tgt := 34) hx hb dX7_make_30 (by decide) ?_
      refine lv_iconst (v := iI 1) hx hb dX7_make_34 rfl ?_
      refine z_wVi (q0 := 0) (ci := 7) (b := o0) (rest := []) (wr := []) hC hK hP hD hS hA (c_X7_bad_1 l G H.size o0 a 0 mk bl hm rc lk lg kp fi lo wt gr eb ec ef iv 1) mv_X7_bad tw_906 [0] [] rfl rfl rfl rfl (by decide) rfl rfl rfl rfl hl.1 rfl (Nat.le_of_ble_eq_true rfl) ⟨rfl, rfl, Nat.le_of_ble_eq_true rfl, Nat.le_of_ble_eq_true rfl⟩ ⟨Nat.le_of_ble_eq_true rfl, Nat.le_of_ble_eq_true rfl⟩ dX7_make_35 (fun r u H locs hw hP hD hS => ?_)
      have hP : va_P G.1 vwCl [(o0, ob 7 [vI 1, .ref (a 1), .ref (a 2), .ref (a 3), .ref (a 4), .ref (a 5), vI mk, .ref (a 7), .ref (a 8), vI bl, .ref (a 10), vI hm, vI rc, .ref (a 13), .ref (a 14), .ref (a 15), vI lk, vI lg, vI kp, vI fi, vI lo, vI wt, .ref (a 22), .ref (a 23), .ref (a 24), .ref (a 25), .ref (a 26), vI gr, .ref (a 28), .ref (a 29), vI eb, vI ec, vI ef, vI iv])] H := hP
      have hD : va_D A [(o0, ob 7 [vI 1, .ref (a 1), .ref (a 2), .ref (a 3), .ref (a 4), .ref (a 5), vI mk, .ref (a 7), .ref (a 8), vI bl, .ref (a 10), vI hm, vI rc, .ref (a 13), .ref (a 14), .ref (a 15), vI lk, vI lg, vI kp, vI fi, vI lo, vI wt, .ref (a 22), .ref (a 23), .ref (a 24), .ref (a 25), .ref (a 26), vI gr, .ref (a 28), .ref (a 29), vI eb, vI ec, vI ef, vI iv])] := hD
      obtain ⟨hrw_, hw_2⟩ := hw
      rw [hrw_]
      clear hrw_
      clear hw_2
      refine z_if_ne (tgt := 63) hx hb dX7_make_38 (by decide) (by omega) (fun c_38 => ?_) (fun c_38 => ?_)
      · refine lv_iconst (v := iI 0) hx hb dX7_make_63 rfl ?_
        exact z_iretW hC hr hlk () hAe hP hD hS [0] (by decide) rfl rfl (⟨rfl, trivial⟩) dX7_make_64
      · exact absurd c_38 (by decide)
    · have hy17 : (0 ≤ y ∧ y < 256) := Classical.byContradiction fun h => by rw [if_neg h] at c_17; omega
      refine lv_iload_n hx hb dX7_make_20 rfl (lv_at hl 3 rfl) ?_
      refine z_if_lt (tgt := 29) hx hb dX7_make_21 (by decide) (by omega) (fun c_21 => ?_) (fun c_21 => ?_)
      · refine lv_iconst (v := iI 1) hx hb dX7_make_29 rfl ?_
        refine lv_goto (tgt := 34) hx hb dX7_make_30 (by decide) ?_
        refine lv_iconst (v := iI 1) hx hb dX7_make_34 rfl ?_
        refine z_wVi (q0 := 0) (ci := 7) (b := o0) (rest := []) (wr := []) hC hK hP hD hS hA (c_X7_bad_1 l G H.size o0 a 0 mk bl hm rc lk lg kp fi lo wt gr eb ec ef iv 1) mv_X7_bad tw_906 [0] [] rfl rfl rfl rfl (by decide) rfl rfl rfl rfl hl.1 rfl (Nat.le_of_ble_eq_true rfl) ⟨rfl, rfl, Nat.le_of_ble_eq_true rfl, Nat.le_of_ble_eq_true rfl⟩ ⟨Nat.le_of_ble_eq_true rfl, Nat.le_of_ble_eq_true rfl⟩ dX7_make_35 (fun r u H locs hw hP hD hS => ?_)
        have hP : va_P G.1 vwCl [(o0, ob 7 [vI 1, .ref (a 1), .ref (a 2), .ref (a 3), .ref (a 4), .ref (a 5), vI mk, .ref (a 7), .ref (a 8), vI bl, .ref (a 10), vI hm, vI rc, .ref (a 13), .ref (a 14), .ref (a 15), vI lk, vI lg, vI kp, vI fi, vI lo, vI wt, .ref (a 22), .ref (a 23), .ref (a 24), .ref (a 25), .ref (a 26), vI gr, .ref (a 28), .ref (a 29), vI eb, vI ec, vI ef, vI iv])] H := hP
        have hD : va_D A [(o0, ob 7 [vI 1, .ref (a 1), .ref (a 2), .ref (a 3), .ref (a 4), .ref (a 5), vI mk, .ref (a 7), .ref (a 8), vI bl, .ref (a 10), vI hm, vI rc, .ref (a 13), .ref (a 14), .ref (a 15), vI lk, vI lg, vI kp, vI fi, vI lo, vI wt, .ref (a 22), .ref (a 23), .ref (a 24), .ref (a 25), .ref (a 26), vI gr, .ref (a 28), .ref (a 29), vI eb, vI ec, vI ef, vI iv])] := hD
        obtain ⟨hrw_, hw_3⟩ := hw
        rw [hrw_]
        clear hrw_
        clear hw_3
        refine z_if_ne (tgt := 63) hx hb dX7_make_38 (by decide) (by omega) (fun c_38 => ?_) (fun c_38 => ?_)
        · refine lv_iconst (v := iI 0) hx hb dX7_make_63 rfl ?_
          exact z_iretW hC hr hlk () hAe hP hD hS [0] (by decide) rfl rfl (⟨rfl, trivial⟩) dX7_make_64
        · exact absurd c_38 (by decide)
      · refine lv_iload_n hx hb dX7_make_24 rfl (lv_at hl 3 rfl) ?_
        refine lv_iconst (v := iI 2) hx hb dX7_make_25 rfl ?_
        refine z_icmp_le (tgt := 33) hx hb dX7_make_26 (by decide) (by omega) (fun c_26 => ?_) (fun c_26 => ?_)
        · exfalso; omega
        · refine lv_iconst (v := iI 1) hx hb dX7_make_29 rfl ?_
          refine lv_goto (tgt := 34) hx hb dX7_make_30 (by decide) ?_
          refine lv_iconst (v := iI 1) hx hb dX7_make_34 rfl ?_
          refine z_wVi (q0 := 0) (ci := 7) (b := o0) (rest := []) (wr := []) hC hK hP hD hS hA (c_X7_bad_1 l G H.size o0 a 0 mk bl hm rc lk lg kp fi lo wt gr eb ec ef iv 1) mv_X7_bad tw_906 [0] [] rfl rfl rfl rfl (by decide) rfl rfl rfl rfl hl.1 rfl (Nat.le_of_ble_eq_true rfl) ⟨rfl, rfl, Nat.le_of_ble_eq_true rfl, Nat.le_of_ble_eq_true rfl⟩ ⟨Nat.le_of_ble_eq_true rfl, Nat.le_of_ble_eq_true rfl⟩ dX7_make_35 (fun r u H locs hw hP hD hS => ?_)
          have hP : va_P G.1 vwCl [(o0, ob 7 [vI 1, .ref (a 1), .ref (a 2), .ref (a 3), .ref (a 4), .ref (a 5), vI mk, .ref (a 7), .ref (a 8), vI bl, .ref (a 10), vI hm, vI rc, .ref (a 13), .ref (a 14), .ref (a 15), vI lk, vI lg, vI kp, vI fi, vI lo, vI wt, .ref (a 22), .ref (a 23), .ref (a 24), .ref (a 25), .ref (a 26), vI gr, .ref (a 28), .ref (a 29), vI eb, vI ec, vI ef, vI iv])] H := hP
          have hD : va_D A [(o0, ob 7 [vI 1, .ref (a 1), .ref (a 2), .ref (a 3), .ref (a 4), .ref (a 5), vI mk, .ref (a 7), .ref (a 8), vI bl, .ref (a 10), vI hm, vI rc, .ref (a 13), .ref (a 14), .ref (a 15), vI lk, vI lg, vI kp, vI fi, vI lo, vI wt, .ref (a 22), .ref (a 23), .ref (a 24), .ref (a 25), .ref (a 26), vI gr, .ref (a 28), .ref (a 29), vI eb, vI ec, vI ef, vI iv])] := hD
          obtain ⟨hrw_, hw_4⟩ := hw
          rw [hrw_]
          clear hrw_
          clear hw_4
          refine z_if_ne (tgt := 63) hx hb dX7_make_38 (by decide) (by omega) (fun c_38 => ?_) (fun c_38 => ?_)
          · refine lv_iconst (v := iI 0) hx hb dX7_make_63 rfl ?_
            exact z_iretW hC hr hlk () hAe hP hD hS [0] (by decide) rfl rfl (⟨rfl, trivial⟩) dX7_make_64
          · exact absurd c_38 (by decide)

set_option maxRecDepth 100000 in
set_option maxHeartbeats 4000000 in
theorem c_X7_make_2 (l : Launch) (G : zGt) (sz : Nat) (o0 : Nat) (a : Nat → Nat) (th mk bl hm rc lk lg kp fi lo wt gr eb ec ef iv : Int) (x y z : Int) (hmk : mk = 6) (hok : ((0 ≤ x ∧ x < 256) ∧ (0 ≤ y ∧ y < 256) ∧ 0 ≤ z ∧ z ≤ 2)) : Met l yX7_make (Cond.code yX7_make cX7_make 4 (some .int) :: tb) ({ frames := 1, cells := 0, slots := 0, locals := 22 } : Room) (zPw G [(o0, ob 7 [vI th, .ref (a 1), .ref (a 2), .ref (a 3), .ref (a 4), .ref (a 5), vI mk, .ref (a 7), .ref (a 8), vI bl, .ref (a 10), vI hm, vI rc, .ref (a 13), .ref (a 14), .ref (a 15), vI lk, vI lg, vI kp, vI fi, vI lo, vI wt, .ref (a 22), .ref (a 23), .ref (a 24), .ref (a 25), .ref (a 26), vI gr, .ref (a 28), .ref (a 29), vI eb, vI ec, vI ef, vI iv])] sz [.ref o0, vI x, vI y, vI z]) (va_Qi (fun (r : Int32) (u : Unit) => r = iI 0 ∧ True) (fun (u : Unit) t => zB G [(o0, ob 7 [vI th, .ref (a 1), .ref (a 2), .ref (a 3), .ref (a 4), .ref (a 5), vI mk, .ref (a 7), .ref (a 8), vI bl, .ref (a 10), vI hm, vI rc, .ref (a 13), .ref (a 14), .ref (a 15), vI lk, vI lg, vI kp, vI fi, vI lo, vI wt, .ref (a 22), .ref (a 23), .ref (a 24), .ref (a 25), .ref (a 26), vI gr, .ref (a 28), .ref (a 29), vI eb, vI ec, vI ef, vI iv])] sz [(o0, ob 7 [vI 2, .ref (a 1), .ref (a 2), .ref (a 3), .ref (a 4), .ref (a 5), vI mk, .ref (a 7), .ref (a 8), vI bl, .ref (a 10), vI hm, vI rc, .ref (a 13), .ref (a 14), .ref (a 15), vI lk, vI lg, vI kp, vI fi, vI lo, vI wt, .ref (a 22), .ref (a 23), .ref (a 24), .ref (a 25), .ref (a 26), vI gr, .ref (a 28), .ref (a 29), vI eb, vI ec, vI ef, vI iv])] t) (va_A [(o0, ob 7 [vI th, .ref (a 1), .ref (a 2), .ref (a 3), .ref (a 4), .ref (a 5), vI mk, .ref (a 7), .ref (a 8), vI bl, .ref (a 10), vI hm, vI rc, .ref (a 13), .ref (a 14), .ref (a 15), vI lk, vI lg, vI kp, vI fi, vI lo, vI wt, .ref (a 22), .ref (a 23), .ref (a 24), .ref (a 25), .ref (a 26), vI gr, .ref (a 28), .ref (a 29), vI eb, vI ec, vI ef, vI iv])] sz)) 0 0 (va_A [(o0, ob 7 [vI th, .ref (a 1), .ref (a 2), .ref (a 3), .ref (a 4), .ref (a 5), vI mk, .ref (a 7), .ref (a 8), vI bl, .ref (a 10), vI hm, vI rc, .ref (a 13), .ref (a 14), .ref (a 15), vI lk, vI lg, vI kp, vI fi, vI lo, vI wt, .ref (a 22), .ref (a 23), .ref (a 24), .ref (a 25), .ref (a 26), vI gr, .ref (a 28), .ref (a 29), vI eb, vI ec, vI ef, vI iv])] sz) := by
  refine Met.ofW (cc := cX7_make) (maxL := 4) (ret := (some .int)) (by decide) rfl ?_
  intro p e s m args below meth c s₁ B hml hv
  obtain ⟨rfl, hsz, hP, hK, hD0⟩ := hv
  subst hsz
  have hD := hD0.self (sz := s.heap.size)
  obtain ⟨A, hAe⟩ : ∃ A : Nat → Prop, A = va_A [(o0, ob 7 [vI th, .ref (a 1), .ref (a 2), .ref (a 3), .ref (a 4), .ref (a 5), vI mk, .ref (a 7), .ref (a 8), vI bl, .ref (a 10), vI hm, vI rc, .ref (a 13), .ref (a 14), .ref (a 15), vI lk, vI lg, vI kp, vI fi, vI lo, vI wt, .ref (a 22), .ref (a 23), .ref (a 24), .ref (a 25), .ref (a 26), vI gr, .ref (a 28), .ref (a 29), vI eb, vI ec, vI ef, vI iv])] s.heap.size := ⟨_, rfl⟩
  rw [← hAe] at hD
  have hA : ∀ q : Nat, s.heap.size ≤ q → A q := fun q h => by rw [hAe]; exact Or.inr h
  have hS : va_S A s.heap s.heap [] := va_S.rf
  obtain ⟨hC, hr, hlk⟩ := z_begin B hml
  have hC : CallFix p m c cX7_make 4 s _ tb RX7 := hC
  have hx := hC.1
  have hb := hC.2.1
  have hl := lv_entry ([.ref o0, vI x, vI y, vI z]) (n := 4) (Nat.le_of_ble_eq_true rfl)
  rw [lg_entry_eq]
  generalize (lg_sl ([.ref o0, vI x, vI y, vI z]) ++ List.replicate (4 - (lg_sl ([.ref o0, vI x, vI y, vI z])).length) Slot.unset).toArray = ls at hl ⊢
  have hl : lv_has ls 4 [(0, .ref o0), (1, vI x), (2, vI y), (3, vI z)] := hl
  obtain ⟨H, hHe⟩ : ∃ H : Heap, H = s.heap := ⟨_, rfl⟩
  obtain ⟨locs, hLe⟩ : ∃ L : List Loc, L = [] := ⟨_, rfl⟩
  suffices hgo : W p l e (headSpec (Cond.code yX7_make cX7_make 4 (some .int) :: tb) ({ frames := 1, cells := 0, slots := 0, locals := 22 } : Room)).room s m ([.ref o0, vI x, vI y, vI z] : List Value).toArray below meth c H locs 0 0 (MQ below (va_Qi (fun (r : Int32) (u : Unit) => r = iI 0 ∧ True) (fun (u : Unit) t => zB G [(o0, ob 7 [vI th, .ref (a 1), .ref (a 2), .ref (a 3), .ref (a 4), .ref (a 5), vI mk, .ref (a 7), .ref (a 8), vI bl, .ref (a 10), vI hm, vI rc, .ref (a 13), .ref (a 14), .ref (a 15), vI lk, vI lg, vI kp, vI fi, vI lo, vI wt, .ref (a 22), .ref (a 23), .ref (a 24), .ref (a 25), .ref (a 26), vI gr, .ref (a 28), .ref (a 29), vI eb, vI ec, vI ef, vI iv])] s.heap.size [(o0, ob 7 [vI 2, .ref (a 1), .ref (a 2), .ref (a 3), .ref (a 4), .ref (a 5), vI mk, .ref (a 7), .ref (a 8), vI bl, .ref (a 10), vI hm, vI rc, .ref (a 13), .ref (a 14), .ref (a 15), vI lk, vI lg, vI kp, vI fi, vI lo, vI wt, .ref (a 22), .ref (a 23), .ref (a 24), .ref (a 25), .ref (a 26), vI gr, .ref (a 28), .ref (a 29), vI eb, vI ec, vI ef, vI iv])] t) (va_A [(o0, ob 7 [vI th, .ref (a 1), .ref (a 2), .ref (a 3), .ref (a 4), .ref (a 5), vI mk, .ref (a 7), .ref (a 8), vI bl, .ref (a 10), vI hm, vI rc, .ref (a 13), .ref (a 14), .ref (a 15), vI lk, vI lg, vI kp, vI fi, vI lo, vI wt, .ref (a 22), .ref (a 23), .ref (a 24), .ref (a 25), .ref (a 26), vI gr, .ref (a 28), .ref (a 29), vI eb, vI ec, vI ef, vI iv])] s.heap.size)) ([.ref o0, vI x, vI y, vI z] : List Value).toArray s 0 0 (va_A [(o0, ob 7 [vI th, .ref (a 1), .ref (a 2), .ref (a 3), .ref (a 4), .ref (a 5), vI mk, .ref (a 7), .ref (a 8), vI bl, .ref (a 10), vI hm, vI rc, .ref (a 13), .ref (a 14), .ref (a 15), vI lk, vI lg, vI kp, vI fi, vI lo, vI wt, .ref (a 22), .ref (a 23), .ref (a 24), .ref (a 25), .ref (a 26), vI gr, .ref (a 28), .ref (a 29), vI eb, vI ec, vI ef, vI iv])] s.heap.size)) (F0 m 0 ls []) by rw [hHe, hLe] at hgo; exact hgo
  rw [← hHe] at hP
  have hS : va_S A s.heap H locs := by rw [hHe, hLe]; exact hS
  clear hHe hLe
  refine lv_aload_n hx hb dX7_make_0 rfl (lv_at hl 0 rfl) ?_
  refine lv_iconst (v := iI 0) hx hb dX7_make_1 rfl ?_
  refine z_put (ws' := [(o0, ob 7 [vI 0, .ref (a 1), .ref (a 2), .ref (a 3), .ref (a 4), .ref (a 5), vI mk, .ref (a 7), .ref (a 8), vI bl, .ref (a 10), vI hm, vI rc, .ref (a 13), .ref (a 14), .ref (a 15), vI lk, vI lg, vI kp, vI fi, vI lo, vI wt, .ref (a 22), .ref (a 23), .ref (a 24), .ref (a 25), .ref (a 26), vI gr, .ref (a 28), .ref (a 29), vI eb, vI ec, vI ef, vI iv])]) hC hK hP hD hS inX7 tyX7 tyX7_ok nmX7 rfl 0 rfl 0 (by decide) tw_792 rfl rfl rfl (Nat.le_of_ble_eq_true rfl) rfl dX7_make_2 (fun H locs hP hD hS => ?_)
  refine lv_aload_n hx hb dX7_make_5 rfl (lv_at hl 0 rfl) ?_
  refine lv_iload_n hx hb dX7_make_6 rfl (lv_at hl 1 rfl) ?_
  refine z_rSi (rest := [.ref o0]) hC hK hP (c_X7_isByte_t l G x (by omega)) ms_X7_isByte tw_903 [] rfl rfl hl.1 rfl (Nat.le_of_ble_eq_true rfl) ⟨rfl, rfl, Nat.le_of_ble_eq_true rfl, Nat.le_of_ble_eq_true rfl⟩ ⟨Nat.le_of_ble_eq_true rfl, Nat.le_of_ble_eq_true rfl⟩ dX7_make_7 ?_
  refine z_if_eq (tgt := 29) hx hb dX7_make_10 (by decide) (by omega) (fun c_10 => ?_) (fun c_10 => ?_)
  · exact absurd c_10 (by decide)
  · refine lv_iload_n hx hb dX7_make_13 rfl (lv_at hl 2 rfl) ?_
    refine z_rSi (rest := [.ref o0]) hC hK hP (c_X7_isByte_t l G y (by omega)) ms_X7_isByte tw_903 [] rfl rfl hl.1 rfl (Nat.le_of_ble_eq_true rfl) ⟨rfl, rfl, Nat.le_of_ble_eq_true rfl, Nat.le_of_ble_eq_true rfl⟩ ⟨Nat.le_of_ble_eq_true rfl, Nat.le_of_ble_eq_true rfl⟩ dX7_make_14 ?_
    refine z_if_eq (tgt := 29) hx hb dX7_make_17 (by decide) (by omega) (fun c_17 => ?_) (fun c_17 => ?_)
    · exact absurd c_17 (by decide)
    · refine lv_iload_n hx hb dX7_make_20 rfl (lv_at hl 3 rfl) ?_
      refine z_if_lt (tgt := 29) hx hb dX7_make_21 (by decide) (by omega) (fun c_21 => ?_) (fun c_21 => ?_)
      · exfalso; omega
      · refine lv_iload_n hx hb dX7_make_24 rfl (lv_at hl 3 rfl) ?_
        refine lv_iconst (v := iI 2) hx hb dX7_make_25 rfl ?_
        refine z_icmp_le (tgt := 33) hx hb dX7_make_26 (by decide) (by omega) (fun c_26 => ?_) (fun c_26 => ?_)
        · refine lv_iconst (v := iI 0) hx hb dX7_make_33 rfl ?_
          refine lv_iconst (v := iI 1) hx hb dX7_make_34 rfl ?_
          refine z_wVi (q0 := 0) (ci := 7) (b := o0) (rest := []) (wr := []) hC hK hP hD hS hA (c_X7_bad_0 l G H.size o0 a 0 mk bl hm rc lk lg kp fi lo wt gr eb ec ef iv 1) mv_X7_bad tw_906 [0] [] rfl rfl rfl rfl (by decide) rfl rfl rfl rfl hl.1 rfl (Nat.le_of_ble_eq_true rfl) ⟨rfl, rfl, Nat.le_of_ble_eq_true rfl, Nat.le_of_ble_eq_true rfl⟩ ⟨Nat.le_of_ble_eq_true rfl, Nat.le_of_ble_eq_true rfl⟩ dX7_make_35 (fun r u H locs hw hP hD hS => ?_)
          have hP : va_P G.1 vwCl [(o0, ob 7 [vI 0, .ref (a 1), .ref (a 2), .ref (a 3), .ref (a 4), .ref (a 5), vI mk, .ref (a 7), .ref (a 8), vI bl, .ref (a 10), vI hm, vI rc, .ref (a 13), .ref (a 14), .ref (a 15), vI lk, vI lg, vI kp, vI fi, vI lo, vI wt, .ref (a 22), .ref (a 23), .ref (a 24), .ref (a 25), .ref (a 26), vI gr, .ref (a 28), .ref (a 29), vI eb, vI ec, vI ef, vI iv])] H := hP
          have hD : va_D A [(o0, ob 7 [vI 0, .ref (a 1), .ref (a 2), .ref (a 3), .ref (a 4), .ref (a 5), vI mk, .ref (a 7), .ref (a 8), vI bl, .ref (a 10), vI hm, vI rc, .ref (a 13), .ref (a 14), .ref (a 15), vI lk, vI lg, vI kp, vI fi, vI lo, vI wt, .ref (a 22), .ref (a 23), .ref (a 24), .ref (a 25), .ref (a 26), vI gr, .ref (a 28), .ref (a 29), vI eb, vI ec, vI ef, vI iv])] := hD
          obtain ⟨hrw_, hw_1⟩ := hw
          rw [hrw_]
          clear hrw_
          clear hw_1
          refine z_if_ne (tgt := 63) hx hb dX7_make_38 (by decide) (by omega) (fun c_38 => ?_) (fun c_38 => ?_)
          · exact absurd c_38 (by decide)
          · refine lv_aload_n hx hb dX7_make_41 rfl (lv_at hl 0 rfl) ?_
            refine lv_aload_n hx hb dX7_make_42 rfl (lv_at hl 0 rfl) ?_
            refine z_get (v := vI mk) hC hK hP inX7 rfl 0 rfl 6 (by decide) tw_798 rfl dX7_make_43 ?_
            refine lv_bipush (v := iI 6) hx hb dX7_make_46 (by decide) ?_
            refine z_icmp_ne (tgt := 55) hx hb dX7_make_48 (by decide) (by omega) (fun c_48 => ?_) (fun c_48 => ?_)
            · exfalso; omega
            · refine lv_iconst (v := iI 1) hx hb dX7_make_51 rfl ?_
              refine lv_goto (tgt := 56) hx hb dX7_make_52 (by decide) ?_
              refine lv_iconst (v := iI 2) hx hb dX7_make_56 rfl ?_
              refine z_wVi (q0 := 0) (ci := 7) (b := o0) (rest := []) (wr := []) hC hK hP hD hS hA (c_X7_bad_1 l G H.size o0 a 0 mk bl hm rc lk lg kp fi lo wt gr eb ec ef iv 2) mv_X7_bad tw_906 [0] [] rfl rfl rfl rfl (by decide) rfl rfl rfl rfl hl.1 rfl (Nat.le_of_ble_eq_true rfl) ⟨rfl, rfl, Nat.le_of_ble_eq_true rfl, Nat.le_of_ble_eq_true rfl⟩ ⟨Nat.le_of_ble_eq_true rfl, Nat.le_of_ble_eq_true rfl⟩ dX7_make_57 (fun r u H locs hw hP hD hS => ?_)
              have hP : va_P G.1 vwCl [(o0, ob 7 [vI 2, .ref (a 1), .ref (a 2), .ref (a 3), .ref (a 4), .ref (a 5), vI mk, .ref (a 7), .ref (a 8), vI bl, .ref (a 10), vI hm, vI rc, .ref (a 13), .ref (a 14), .ref (a 15), vI lk, vI lg, vI kp, vI fi, vI lo, vI wt, .ref (a 22), .ref (a 23), .ref (a 24), .ref (a 25), .ref (a 26), vI gr, .ref (a 28), .ref (a 29), vI eb, vI ec, vI ef, vI iv])] H := hP
              have hD : va_D A [(o0, ob 7 [vI 2, .ref (a 1), .ref (a 2), .ref (a 3), .ref (a 4), .ref (a 5), vI mk, .ref (a 7), .ref (a 8), vI bl, .ref (a 10), vI hm, vI rc, .ref (a 13), .ref (a 14), .ref (a 15), vI lk, vI lg, vI kp, vI fi, vI lo, vI wt, .ref (a 22), .ref (a 23), .ref (a 24), .ref (a 25), .ref (a 26), vI gr, .ref (a 28), .ref (a 29), vI eb, vI ec, vI ef, vI iv])] := hD
              obtain ⟨hrw_, hw_2⟩ := hw
              rw [hrw_]
              clear hrw_
              clear hw_2
              refine z_if_eq (tgt := 65) hx hb dX7_make_60 (by decide) (by omega) (fun c_60 => ?_) (fun c_60 => ?_)
              · exact absurd c_60 (by decide)
              · refine lv_iconst (v := iI 0) hx hb dX7_make_63 rfl ?_
                exact z_iretW hC hr hlk () hAe hP hD hS [0] (by decide) rfl rfl (⟨rfl, trivial⟩) dX7_make_64
        · exfalso; omega

set_option maxRecDepth 100000 in
set_option maxHeartbeats 4000000 in
theorem c_X7_make_0 (l : Launch) (G : zGt) (sz : Nat) (o0 : Nat) (a : Nat → Nat) (th mk bl hm rc lk lg kp fi lo wt gr eb ec ef iv : Int) (N1 : Int → Int) (N2 : Int → Int) (CK : Int → Int) (x y z : Int) (hmk : 0 ≤ mk ∧ mk < 6) (hok : ((0 ≤ x ∧ x < 256) ∧ (0 ≤ y ∧ y < 256) ∧ 0 ≤ z ∧ z ≤ 2)) : Met l yX7_make (Cond.code yX7_make cX7_make 4 (some .int) :: tb) ({ frames := 1, cells := 0, slots := 0, locals := 22 } : Room) (zPw G [(o0, ob 7 [vI th, .ref (a 1), .ref (a 2), .ref (a 3), .ref (a 4), .ref (a 5), vI mk, .ref (a 7), .ref (a 8), vI bl, .ref (a 10), vI hm, vI rc, .ref (a 13), .ref (a 14), .ref (a 15), vI lk, vI lg, vI kp, vI fi, vI lo, vI wt, .ref (a 22), .ref (a 23), .ref (a 24), .ref (a 25), .ref (a 26), vI gr, .ref (a 28), .ref (a 29), vI eb, vI ec, vI ef, vI iv]), ((a 1), aI G 6 N1), ((a 2), aI G 6 N2), ((a 3), aI G 6 CK)] sz [.ref o0, vI x, vI y, vI z]) (va_Qi (fun (r : Int32) (u : Unit) => r = iI mk ∧ True) (fun (u : Unit) t => zB G [(o0, ob 7 [vI th, .ref (a 1), .ref (a 2), .ref (a 3), .ref (a 4), .ref (a 5), vI mk, .ref (a 7), .ref (a 8), vI bl, .ref (a 10), vI hm, vI rc, .ref (a 13), .ref (a 14), .ref (a 15), vI lk, vI lg, vI kp, vI fi, vI lo, vI wt, .ref (a 22), .ref (a 23), .ref (a 24), .ref (a 25), .ref (a 26), vI gr, .ref (a 28), .ref (a 29), vI eb, vI ec, vI ef, vI iv]), ((a 1), aI G 6 N1), ((a 2), aI G 6 N2), ((a 3), aI G 6 CK)] sz [(o0, ob 7 [vI 0, .ref (a 1), .ref (a 2), .ref (a 3), .ref (a 4), .ref (a 5), vI (mk + 1), .ref (a 7), .ref (a 8), vI bl, .ref (a 10), vI hm, vI rc, .ref (a 13), .ref (a 14), .ref (a 15), vI lk, vI lg, vI kp, vI fi, vI lo, vI wt, .ref (a 22), .ref (a 23), .ref (a 24), .ref (a 25), .ref (a 26), vI gr, .ref (a 28), .ref (a 29), vI eb, vI ec, vI ef, vI iv]), ((a 1), aI G 6 (zup N1 mk x)), ((a 2), aI G 6 (zup N2 mk y)), ((a 3), aI G 6 (zup CK mk z))] t) (va_A [(o0, ob 7 [vI th, .ref (a 1), .ref (a 2), .ref (a 3), .ref (a 4), .ref (a 5), vI mk, .ref (a 7), .ref (a 8), vI bl, .ref (a 10), vI hm, vI rc, .ref (a 13), .ref (a 14), .ref (a 15), vI lk, vI lg, vI kp, vI fi, vI lo, vI wt, .ref (a 22), .ref (a 23), .ref (a 24), .ref (a 25), .ref (a 26), vI gr, .ref (a 28), .ref (a 29), vI eb, vI ec, vI ef, vI iv]), ((a 1), aI G 6 N1), ((a 2), aI G 6 N2), ((a 3), aI G 6 CK)] sz)) 0 0 (va_A [(o0, ob 7 [vI th, .ref (a 1), .ref (a 2), .ref (a 3), .ref (a 4), .ref (a 5), vI mk, .ref (a 7), .ref (a 8), vI bl, .ref (a 10), vI hm, vI rc, .ref (a 13), .ref (a 14), .ref (a 15), vI lk, vI lg, vI kp, vI fi, vI lo, vI wt, .ref (a 22), .ref (a 23), .ref (a 24), .ref (a 25), .ref (a 26), vI gr, .ref (a 28), .ref (a 29), vI eb, vI ec, vI ef, vI iv]), ((a 1), aI G 6 N1), ((a 2), aI G 6 N2), ((a 3), aI G 6 CK)] sz) := by
  refine Met.ofW (cc := cX7_make) (maxL := 4) (ret := (some .int)) (by decide) rfl ?_
  intro p e s m args below meth c s₁ B hml hv
  obtain ⟨rfl, hsz, hP, hK, hD0⟩ := hv
  subst hsz
  have hD := hD0.self (sz := s.heap.size)
  obtain ⟨A, hAe⟩ : ∃ A : Nat → Prop, A = va_A [(o0, ob 7 [vI th, .ref (a 1), .ref (a 2), .ref (a 3), .ref (a 4), .ref (a 5), vI mk, .ref (a 7), .ref (a 8), vI bl, .ref (a 10), vI hm, vI rc, .ref (a 13), .ref (a 14), .ref (a 15), vI lk, vI lg, vI kp, vI fi, vI lo, vI wt, .ref (a 22), .ref (a 23), .ref (a 24), .ref (a 25), .ref (a 26), vI gr, .ref (a 28), .ref (a 29), vI eb, vI ec, vI ef, vI iv]), ((a 1), aI G 6 N1), ((a 2), aI G 6 N2), ((a 3), aI G 6 CK)] s.heap.size := ⟨_, rfl⟩
  rw [← hAe] at hD
  have hA : ∀ q : Nat, s.heap.size ≤ q → A q := fun q h => by rw [hAe]; exact Or.inr h
  have hS : va_S A s.heap s.heap [] := va_S.rf
  obtain ⟨hC, hr, hlk⟩ := z_begin B hml
  have hC : CallFix p m c cX7_make 4 s _ tb RX7 := hC
  have hx := hC.1
  have hb := hC.2.1
  have hl := lv_entry ([.ref o0, vI x, vI y, vI z]) (n := 4) (Nat.le_of_ble_eq_true rfl)
  rw [lg_entry_eq]
  generalize (lg_sl ([.ref o0, vI x, vI y, vI z]) ++ List.replicate (4 - (lg_sl ([.ref o0, vI x, vI y, vI z])).length) Slot.unset).toArray = ls at hl ⊢
  have hl : lv_has ls 4 [(0, .ref o0), (1, vI x), (2, vI y), (3, vI z)] := hl
  obtain ⟨H, hHe⟩ : ∃ H : Heap, H = s.heap := ⟨_, rfl⟩
  obtain ⟨locs, hLe⟩ : ∃ L : List Loc, L = [] := ⟨_, rfl⟩
  suffices hgo : W p l e (headSpec (Cond.code yX7_make cX7_make 4 (some .int) :: tb) ({ frames := 1, cells := 0, slots := 0, locals := 22 } : Room)).room s m ([.ref o0, vI x, vI y, vI z] : List Value).toArray below meth c H locs 0 0 (MQ below (va_Qi (fun (r : Int32) (u : Unit) => r = iI mk ∧ True) (fun (u : Unit) t => zB G [(o0, ob 7 [vI th, .ref (a 1), .ref (a 2), .ref (a 3), .ref (a 4), .ref (a 5), vI mk, .ref (a 7), .ref (a 8), vI bl, .ref (a 10), vI hm, vI rc, .ref (a 13), .ref (a 14), .ref (a 15), vI lk, vI lg, vI kp, vI fi, vI lo, vI wt, .ref (a 22), .ref (a 23), .ref (a 24), .ref (a 25), .ref (a 26), vI gr, .ref (a 28), .ref (a 29), vI eb, vI ec, vI ef, vI iv]), ((a 1), aI G 6 N1), ((a 2), aI G 6 N2), ((a 3), aI G 6 CK)] s.heap.size [(o0, ob 7 [vI 0, .ref (a 1), .ref (a 2), .ref (a 3), .ref (a 4), .ref (a 5), vI (mk + 1), .ref (a 7), .ref (a 8), vI bl, .ref (a 10), vI hm, vI rc, .ref (a 13), .ref (a 14), .ref (a 15), vI lk, vI lg, vI kp, vI fi, vI lo, vI wt, .ref (a 22), .ref (a 23), .ref (a 24), .ref (a 25), .ref (a 26), vI gr, .ref (a 28), .ref (a 29), vI eb, vI ec, vI ef, vI iv]), ((a 1), aI G 6 (zup N1 mk x)), ((a 2), aI G 6 (zup N2 mk y)), ((a 3), aI G 6 (zup CK mk z))] t) (va_A [(o0, ob 7 [vI th, .ref (a 1), .ref (a 2), .ref (a 3), .ref (a 4), .ref (a 5), vI mk, .ref (a 7), .ref (a 8), vI bl, .ref (a 10), vI hm, vI rc, .ref (a 13), .ref (a 14), .ref (a 15), vI lk, vI lg, vI kp, vI fi, vI lo, vI wt, .ref (a 22), .ref (a 23), .ref (a 24), .ref (a 25), .ref (a 26), vI gr, .ref (a 28), .ref (a 29), vI eb, vI ec, vI ef, vI iv]), ((a 1), aI G 6 N1), ((a 2), aI G 6 N2), ((a 3), aI G 6 CK)] s.heap.size)) ([.ref o0, vI x, vI y, vI z] : List Value).toArray s 0 0 (va_A [(o0, ob 7 [vI th, .ref (a 1), .ref (a 2), .ref (a 3), .ref (a 4), .ref (a 5), vI mk, .ref (a 7), .ref (a 8), vI bl, .ref (a 10), vI hm, vI rc, .ref (a 13), .ref (a 14), .ref (a 15), vI lk, vI lg, vI kp, vI fi, vI lo, vI wt, .ref (a 22), .ref (a 23), .ref (a 24), .ref (a 25), .ref (a 26), vI gr, .ref (a 28), .ref (a 29), vI eb, vI ec, vI ef, vI iv]), ((a 1), aI G 6 N1), ((a 2), aI G 6 N2), ((a 3), aI G 6 CK)] s.heap.size)) (F0 m 0 ls []) by rw [hHe, hLe] at hgo; exact hgo
  rw [← hHe] at hP
  have hS : va_S A s.heap H locs := by rw [hHe, hLe]; exact hS
  clear hHe hLe
  refine lv_aload_n hx hb dX7_make_0 rfl (lv_at hl 0 rfl) ?_
  refine lv_iconst (v := iI 0) hx hb dX7_make_1 rfl ?_
  refine z_put (ws' := [(o0, ob 7 [vI 0, .ref (a 1), .ref (a 2), .ref (a 3), .ref (a 4), .ref (a 5), vI mk, .ref (a 7), .ref (a 8), vI bl, .ref (a 10), vI hm, vI rc, .ref (a 13), .ref (a 14), .ref (a 15), vI lk, vI lg, vI kp, vI fi, vI lo, vI wt, .ref (a 22), .ref (a 23), .ref (a 24), .ref (a 25), .ref (a 26), vI gr, .ref (a 28), .ref (a 29), vI eb, vI ec, vI ef, vI iv]), ((a 1), aI G 6 N1), ((a 2), aI G 6 N2), ((a 3), aI G 6 CK)]) hC hK hP hD hS inX7 tyX7 tyX7_ok nmX7 rfl 0 rfl 0 (by decide) tw_792 rfl rfl rfl (Nat.le_of_ble_eq_true rfl) rfl dX7_make_2 (fun H locs hP hD hS => ?_)
  refine lv_aload_n hx hb dX7_make_5 rfl (lv_at hl 0 rfl) ?_
  refine lv_iload_n hx hb dX7_make_6 rfl (lv_at hl 1 rfl) ?_
  refine z_rSi (rest := [.ref o0]) hC hK hP (c_X7_isByte_t l G x (by omega)) ms_X7_isByte tw_903 [] rfl rfl hl.1 rfl (Nat.le_of_ble_eq_true rfl) ⟨rfl, rfl, Nat.le_of_ble_eq_true rfl, Nat.le_of_ble_eq_true rfl⟩ ⟨Nat.le_of_ble_eq_true rfl, Nat.le_of_ble_eq_true rfl⟩ dX7_make_7 ?_
  refine z_if_eq (tgt := 29) hx hb dX7_make_10 (by decide) (by omega) (fun c_10 => ?_) (fun c_10 => ?_)
  · exact absurd c_10 (by decide)
  · refine lv_iload_n hx hb dX7_make_13 rfl (lv_at hl 2 rfl) ?_
    refine z_rSi (rest := [.ref o0]) hC hK hP (c_X7_isByte_t l G y (by omega)) ms_X7_isByte tw_903 [] rfl rfl hl.1 rfl (Nat.le_of_ble_eq_true rfl) ⟨rfl, rfl, Nat.le_of_ble_eq_true rfl, Nat.le_of_ble_eq_true rfl⟩ ⟨Nat.le_of_ble_eq_true rfl, Nat.le_of_ble_eq_true rfl⟩ dX7_make_14 ?_
    refine z_if_eq (tgt := 29) hx hb dX7_make_17 (by decide) (by omega) (fun c_17 => ?_) (fun c_17 => ?_)
    · exact absurd c_17 (by decide)
    · refine lv_iload_n hx hb dX7_make_20 rfl (lv_at hl 3 rfl) ?_
      refine z_if_lt (tgt := 29) hx hb dX7_make_21 (by decide) (by omega) (fun c_21 => ?_) (fun c_21 => ?_)
      · exfalso; omega
      · refine lv_iload_n hx hb dX7_make_24 rfl (lv_at hl 3 rfl) ?_
        refine lv_iconst (v := iI 2) hx hb dX7_make_25 rfl ?_
        refine z_icmp_le (tgt := 33) hx hb dX7_make_26 (by decide) (by omega) (fun c_26 => ?_) (fun c_26 => ?_)
        · refine lv_iconst (v := iI 0) hx hb dX7_make_33 rfl ?_
          refine lv_iconst (v := iI 1) hx hb dX7_make_34 rfl ?_
          refine z_wVi (q0 := 0) (ci := 7) (b := o0) (rest := []) (wr := [((a 1), aI G 6 N1), ((a 2), aI G 6 N2), ((a 3), aI G 6 CK)]) hC hK hP hD hS hA (c_X7_bad_0 l G H.size o0 a 0 mk bl hm rc lk lg kp fi lo wt gr eb ec ef iv 1) mv_X7_bad tw_906 [0] [1, 2, 3] rfl rfl rfl rfl (by decide) rfl rfl rfl rfl hl.1 rfl (Nat.le_of_ble_eq_true rfl) ⟨rfl, rfl, Nat.le_of_ble_eq_true rfl, Nat.le_of_ble_eq_true rfl⟩ ⟨Nat.le_of_ble_eq_true rfl, Nat.le_of_ble_eq_true rfl⟩ dX7_make_35 (fun r u H locs hw hP hD hS => ?_)
          have hP : va_P G.1 vwCl [((a 1), aI G 6 N1), ((a 2), aI G 6 N2), ((a 3), aI G 6 CK), (o0, ob 7 [vI 0, .ref (a 1), .ref (a 2), .ref (a 3), .ref (a 4), .ref (a 5), vI mk, .ref (a 7), .ref (a 8), vI bl, .ref (a 10), vI hm, vI rc, .ref (a 13), .ref (a 14), .ref (a 15), vI lk, vI lg, vI kp, vI fi, vI lo, vI wt, .ref (a 22), .ref (a 23), .ref (a 24), .ref (a 25), .ref (a 26), vI gr, .ref (a 28), .ref (a 29), vI eb, vI ec, vI ef, vI iv])] H := hP
          have hD : va_D A [((a 1), aI G 6 N1), ((a 2), aI G 6 N2), ((a 3), aI G 6 CK), (o0, ob 7 [vI 0, .ref (a 1), .ref (a 2), .ref (a 3), .ref (a 4), .ref (a 5), vI mk, .ref (a 7), .ref (a 8), vI bl, .ref (a 10), vI hm, vI rc, .ref (a 13), .ref (a 14), .ref (a 15), vI lk, vI lg, vI kp, vI fi, vI lo, vI wt, .ref (a 22), .ref (a 23), .ref (a 24), .ref (a 25), .ref (a 26), vI gr, .ref (a 28), .ref (a 29), vI eb, vI ec, vI ef, vI iv])] := hD
          obtain ⟨hrw_, hw_1⟩ := hw
          rw [hrw_]
          clear hrw_
          clear hw_1
          refine z_if_ne (tgt := 63) hx hb dX7_make_38 (by decide) (by omega) (fun c_38 => ?_) (fun c_38 => ?_)
          · exact absurd c_38 (by decide)
          · refine lv_aload_n hx hb dX7_make_41 rfl (lv_at hl 0 rfl) ?_
            refine lv_aload_n hx hb dX7_make_42 rfl (lv_at hl 0 rfl) ?_
            refine z_get (v := vI mk) hC hK hP inX7 rfl 3 rfl 6 (by decide) tw_798 rfl dX7_make_43 ?_
            refine lv_bipush (v := iI 6) hx hb dX7_make_46 (by decide) ?_
            refine z_icmp_ne (tgt := 55) hx hb dX7_make_48 (by decide) (by omega) (fun c_48 => ?_) (fun c_48 => ?_)
            · refine lv_iconst (v := iI 0) hx hb dX7_make_55 rfl ?_
              refine lv_iconst (v := iI 2) hx hb dX7_make_56 rfl ?_
              refine z_wVi (q0 := 3) (ci := 7) (b := o0) (rest := []) (wr := [((a 1), aI G 6 N1), ((a 2), aI G 6 N2), ((a 3), aI G 6 CK)]) hC hK hP hD hS hA (c_X7_bad_0 l G H.size o0 a 0 mk bl hm rc lk lg kp fi lo wt gr eb ec ef iv 2) mv_X7_bad tw_906 [3] [0, 1, 2] rfl rfl rfl rfl (by decide) rfl rfl rfl rfl hl.1 rfl (Nat.le_of_ble_eq_true rfl) ⟨rfl, rfl, Nat.le_of_ble_eq_true rfl, Nat.le_of_ble_eq_true rfl⟩ ⟨Nat.le_of_ble_eq_true rfl, Nat.le_of_ble_eq_true rfl⟩ dX7_make_57 (fun r u H locs hw hP hD hS => ?_)
              have hP : va_P G.1 vwCl [((a 1), aI G 6 N1), ((a 2), aI G 6 N2), ((a 3), aI G 6 CK), (o0, ob 7 [vI 0, .ref (a 1), .ref (a 2), .ref (a 3), .ref (a 4), .ref (a 5), vI mk, .ref (a 7), .ref (a 8), vI bl, .ref (a 10), vI hm, vI rc, .ref (a 13), .ref (a 14), .ref (a 15), vI lk, vI lg, vI kp, vI fi, vI lo, vI wt, .ref (a 22), .ref (a 23), .ref (a 24), .ref (a 25), .ref (a 26), vI gr, .ref (a 28), .ref (a 29), vI eb, vI ec, vI ef, vI iv])] H := hP
              have hD : va_D A [((a 1), aI G 6 N1), ((a 2), aI G 6 N2), ((a 3), aI G 6 CK), (o0, ob 7 [vI 0, .ref (a 1), .ref (a 2), .ref (a 3), .ref (a 4), .ref (a 5), vI mk, .ref (a 7), .ref (a 8), vI bl, .ref (a 10), vI hm, vI rc, .ref (a 13), .ref (a 14), .ref (a 15), vI lk, vI lg, vI kp, vI fi, vI lo, vI wt, .ref (a 22), .ref (a 23), .ref (a 24), .ref (a 25), .ref (a 26), vI gr, .ref (a 28), .ref (a 29), vI eb, vI ec, vI ef, vI iv])] := hD
              obtain ⟨hrw_, hw_2⟩ := hw
              rw [hrw_]
              clear hrw_
              clear hw_2
              refine z_if_eq (tgt := 65) hx hb dX7_make_60 (by decide) (by omega) (fun c_60 => ?_) (fun c_60 => ?_)
              · refine lv_aload_n hx hb dX7_make_65 rfl (lv_at hl 0 rfl) ?_
                refine z_get (v := .ref (a 1)) hC hK hP inX7 rfl 3 rfl 1 (by decide) tw_793 rfl dX7_make_66 ?_
                refine lv_aload_n hx hb dX7_make_69 rfl (lv_at hl 0 rfl) ?_
                refine z_get (v := vI mk) hC hK hP inX7 rfl 3 rfl 6 (by decide) tw_798 rfl dX7_make_70 ?_
                refine lv_iload_n hx hb dX7_make_73 rfl (lv_at hl 1 rfl) ?_
                refine z_iast (ws' := [((a 1), aI G 6 (zup N1 mk x)), ((a 2), aI G 6 N2), ((a 3), aI G 6 CK), (o0, ob 7 [vI 0, .ref (a 1), .ref (a 2), .ref (a 3), .ref (a 4), .ref (a 5), vI mk, .ref (a 7), .ref (a 8), vI bl, .ref (a 10), vI hm, vI rc, .ref (a 13), .ref (a 14), .ref (a 15), vI lk, vI lg, vI kp, vI fi, vI lo, vI wt, .ref (a 22), .ref (a 23), .ref (a 24), .ref (a 25), .ref (a 26), vI gr, .ref (a 28), .ref (a 29), vI eb, vI ec, vI ef, vI iv])]) hC hK hP hD hS 0 rfl (by omega) (by decide) rfl dX7_make_74 (fun H locs hP hD hS => ?_)
                refine lv_aload_n hx hb dX7_make_75 rfl (lv_at hl 0 rfl) ?_
                refine z_get (v := .ref (a 2)) hC hK hP inX7 rfl 3 rfl 2 (by decide) tw_794 rfl dX7_make_76 ?_
                refine lv_aload_n hx hb dX7_make_79 rfl (lv_at hl 0 rfl) ?_
                refine z_get (v := vI mk) hC hK hP inX7 rfl 3 rfl 6 (by decide) tw_798 rfl dX7_make_80 ?_
                refine lv_iload_n hx hb dX7_make_83 rfl (lv_at hl 2 rfl) ?_
                refine z_iast (ws' := [((a 1), aI G 6 (zup N1 mk x)), ((a 2), aI G 6 (zup N2 mk y)), ((a 3), aI G 6 CK), (o0, ob 7 [vI 0, .ref (a 1), .ref (a 2), .ref (a 3), .ref (a 4), .ref (a 5), vI mk, .ref (a 7), .ref (a 8), vI bl, .ref (a 10), vI hm, vI rc, .ref (a 13), .ref (a 14), .ref (a 15), vI lk, vI lg, vI kp, vI fi, vI lo, vI wt, .ref (a 22), .ref (a 23), .ref (a 24), .ref (a 25), .ref (a 26), vI gr, .ref (a 28), .ref (a 29), vI eb, vI ec, vI ef, vI iv])]) hC hK hP hD hS 1 rfl (by omega) (by decide) rfl dX7_make_84 (fun H locs hP hD hS => ?_)
                refine lv_aload_n hx hb dX7_make_85 rfl (lv_at hl 0 rfl) ?_
                refine z_get (v := .ref (a 3)) hC hK hP inX7 rfl 3 rfl 3 (by decide) tw_795 rfl dX7_make_86 ?_
                refine lv_aload_n hx hb dX7_make_89 rfl (lv_at hl 0 rfl) ?_
                refine z_get (v := vI mk) hC hK hP inX7 rfl 3 rfl 6 (by decide) tw_798 rfl dX7_make_90 ?_
                refine lv_iload_n hx hb dX7_make_93 rfl (lv_at hl 3 rfl) ?_
                refine z_iast (ws' := [((a 1), aI G 6 (zup N1 mk x)), ((a 2), aI G 6 (zup N2 mk y)), ((a 3), aI G 6 (zup CK mk z)), (o0, ob 7 [vI 0, .ref (a 1), .ref (a 2), .ref (a 3), .ref (a 4), .ref (a 5), vI mk, .ref (a 7), .ref (a 8), vI bl, .ref (a 10), vI hm, vI rc, .ref (a 13), .ref (a 14), .ref (a 15), vI lk, vI lg, vI kp, vI fi, vI lo, vI wt, .ref (a 22), .ref (a 23), .ref (a 24), .ref (a 25), .ref (a 26), vI gr, .ref (a 28), .ref (a 29), vI eb, vI ec, vI ef, vI iv])]) hC hK hP hD hS 2 rfl (by omega) (by decide) rfl dX7_make_94 (fun H locs hP hD hS => ?_)
                refine lv_aload_n hx hb dX7_make_95 rfl (lv_at hl 0 rfl) ?_
                refine lv_dup hx hb dX7_make_96 rfl ?_
                refine z_get (v := vI mk) hC hK hP inX7 rfl 3 rfl 6 (by decide) tw_798 rfl dX7_make_97 ?_
                refine lv_iconst (v := iI 1) hx hb dX7_make_100 rfl ?_
                refine z_iadd hx hb dX7_make_101 ?_
                refine z_put (ws' := [((a 1), aI G 6 (zup N1 mk x)), ((a 2), aI G 6 (zup N2 mk y)), ((a 3), aI G 6 (zup CK mk z)), (o0, ob 7 [vI 0, .ref (a 1), .ref (a 2), .ref (a 3), .ref (a 4), .ref (a 5), vI (mk + 1), .ref (a 7), .ref (a 8), vI bl, .ref (a 10), vI hm, vI rc, .ref (a 13), .ref (a 14), .ref (a 15), vI lk, vI lg, vI kp, vI fi, vI lo, vI wt, .ref (a 22), .ref (a 23), .ref (a 24), .ref (a 25), .ref (a 26), vI gr, .ref (a 28), .ref (a 29), vI eb, vI ec, vI ef, vI iv])]) hC hK hP hD hS inX7 tyX7 tyX7_ok nmX7 rfl 3 rfl 6 (by decide) tw_798 rfl rfl rfl (Nat.le_of_ble_eq_true rfl) rfl dX7_make_102 (fun H locs hP hD hS => ?_)
                refine lv_aload_n hx hb dX7_make_105 rfl (lv_at hl 0 rfl) ?_
                refine z_get (v := vI (mk + 1)) hC hK hP inX7 rfl 3 rfl 6 (by decide) tw_798 rfl dX7_make_106 ?_
                refine lv_iconst (v := iI 1) hx hb dX7_make_109 rfl ?_
                refine z_isub hx hb dX7_make_110 ?_
                exact z_iretW hC hr hlk () hAe hP hD hS [3, 0, 1, 2] (by decide) rfl rfl (⟨congrArg iI (by omega), trivial⟩) dX7_make_111
              · exact absurd c_60 (by decide)
            · exfalso; omega
        · exfalso; omega

set_option maxRecDepth 100000 in
set_option maxHeartbeats 4000000 in
theorem c_X7_goals_1 (l : Launch) (G : zGt) (sz : Nat) (o0 : Nat) (a : Nat → Nat) (th mk bl hm rc lk lg kp fi lo wt gr eb ec ef iv : Int) (x y : Int) (hmk : 0 ≤ mk ∧ mk ≤ 6) (hx : -2147483648 ≤ x ∧ x < 2147483648) (hno : ¬ (0 ≤ x ∧ x < mk)) : Met l yX7_goals (Cond.code yX7_goals cX7_goals 4 (some .int) :: tb) ({ frames := 1, cells := 0, slots := 0, locals := 21 } : Room) (zPw G [(o0, ob 7 [vI th, .ref (a 1), .ref (a 2), .ref (a 3), .ref (a 4), .ref (a 5), vI mk, .ref (a 7), .ref (a 8), vI bl, .ref (a 10), vI hm, vI rc, .ref (a 13), .ref (a 14), .ref (a 15), vI lk, vI lg, vI kp, vI fi, vI lo, vI wt, .ref (a 22), .ref (a 23), .ref (a 24), .ref (a 25), .ref (a 26), vI gr, .ref (a 28), .ref (a 29), vI eb, vI ec, vI ef, vI iv])] sz [.ref o0, vI x, vI y]) (va_Qi (fun (r : Int32) (u : Unit) => r = iI 0 ∧ True) (fun (u : Unit) t => zB G [(o0, ob 7 [vI th, .ref (a 1), .ref (a 2), .ref (a 3), .ref (a 4), .ref (a 5), vI mk, .ref (a 7), .ref (a 8), vI bl, .ref (a 10), vI hm, vI rc, .ref (a 13), .ref (a 14), .ref (a 15), vI lk, vI lg, vI kp, vI fi, vI lo, vI wt, .ref (a 22), .ref (a 23), .ref (a 24), .ref (a 25), .ref (a 26), vI gr, .ref (a 28), .ref (a 29), vI eb, vI ec, vI ef, vI iv])] sz [(o0, ob 7 [vI 1, .ref (a 1), .ref (a 2), .ref (a 3), .ref (a 4), .ref (a 5), vI mk, .ref (a 7), .ref (a 8), vI bl, .ref (a 10), vI hm, vI rc, .ref (a 13), .ref (a 14), .ref (a 15), vI lk, vI lg, vI kp, vI fi, vI lo, vI wt, .ref (a 22), .ref (a 23), .ref (a 24), .ref (a 25), .ref (a 26), vI gr, .ref (a 28), .ref (a 29), vI eb, vI ec, vI ef, vI iv])] t) (va_A [(o0, ob 7 [vI th, .ref (a 1), .ref (a 2), .ref (a 3), .ref (a 4), .ref (a 5), vI mk, .ref (a 7), .ref (a 8), vI bl, .ref (a 10), vI hm, vI rc, .ref (a 13), .ref (a 14), .ref (a 15), vI lk, vI lg, vI kp, vI fi, vI lo, vI wt, .ref (a 22), .ref (a 23), .ref (a 24), .ref (a 25), .ref (a 26), vI gr, .ref (a 28), .ref (a 29), vI eb, vI ec, vI ef, vI iv])] sz)) 0 0 (va_A [(o0, ob 7 [vI th, .ref (a 1), .ref (a 2), .ref (a 3), .ref (a 4), .ref (a 5), vI mk, .ref (a 7), .ref (a 8), vI bl, .ref (a 10), vI hm, vI rc, .ref (a 13), .ref (a 14), .ref (a 15), vI lk, vI lg, vI kp, vI fi, vI lo, vI wt, .ref (a 22), .ref (a 23), .ref (a 24), .ref (a 25), .ref (a 26), vI gr, .ref (a 28), .ref (a 29), vI eb, vI ec, vI ef, vI iv])] sz) := by
  refine Met.ofW (cc := cX7_goals) (maxL := 4) (ret := (some .int)) (by decide) rfl ?_
  intro p e s m args below meth c s₁ B hml hv
  obtain ⟨rfl, hsz, hP, hK, hD0⟩ := hv
  subst hsz
  have hD := hD0.self (sz := s.heap.size)
  obtain ⟨A, hAe⟩ : ∃ A : Nat → Prop, A = va_A [(o0, ob 7 [vI th, .ref (a 1), .ref (a 2), .ref (a 3), .ref (a 4), .ref (a 5), vI mk, .ref (a 7), .ref (a 8), vI bl, .ref (a 10), vI hm, vI rc, .ref (a 13), .ref (a 14), .ref (a 15), vI lk, vI lg, vI kp, vI fi, vI lo, vI wt, .ref (a 22), .ref (a 23), .ref (a 24), .ref (a 25), .ref (a 26), vI gr, .ref (a 28), .ref (a 29), vI eb, vI ec, vI ef, vI iv])] s.heap.size := ⟨_, rfl⟩
  rw [← hAe] at hD
  have hA : ∀ q : Nat, s.heap.size ≤ q → A q := fun q h => by rw [hAe]; exact Or.inr h
  have hS : va_S A s.heap s.heap [] := va_S.rf
  obtain ⟨hC, hr, hlk⟩ := z_begin B hml
  have hC : CallFix p m c cX7_goals 4 s _ tb RX7 := hC
  have hx := hC.1
  have hb := hC.2.1
  have hl := lv_entry ([.ref o0, vI x, vI y]) (n := 4) (Nat.le_of_ble_eq_true rfl)
  rw [lg_entry_eq]
  generalize (lg_sl ([.ref o0, vI x, vI y]) ++ List.replicate (4 - (lg_sl ([.ref o0, vI x, vI y])).length) Slot.unset).toArray = ls at hl ⊢
  have hl : lv_has ls 4 [(0, .ref o0), (1, vI x), (2, vI y)] := hl
  obtain ⟨H, hHe⟩ : ∃ H : Heap, H = s.heap := ⟨_, rfl⟩
  obtain ⟨locs, hLe⟩ : ∃ L : List Loc, L = [] := ⟨_, rfl⟩
  suffices hgo : W p l e (headSpec (Cond.code yX7_goals cX7_goals 4 (some .int) :: tb) ({ frames := 1, cells := 0, slots := 0, locals := 21 } : Room)).room s m ([.ref o0, vI x, vI y] : List Value).toArray below meth c H locs 0 0 (MQ below (va_Qi (fun (r : Int32) (u : Unit) => r = iI 0 ∧ True) (fun (u : Unit) t => zB G [(o0, ob 7 [vI th, .ref (a 1), .ref (a 2), .ref (a 3), .ref (a 4), .ref (a 5), vI mk, .ref (a 7), .ref (a 8), vI bl, .ref (a 10), vI hm, vI rc, .ref (a 13), .ref (a 14), .ref (a 15), vI lk, vI lg, vI kp, vI fi, vI lo, vI wt, .ref (a 22), .ref (a 23), .ref (a 24), .ref (a 25), .ref (a 26), vI gr, .ref (a 28), .ref (a 29), vI eb, vI ec, vI ef, vI iv])] s.heap.size [(o0, ob 7 [vI 1, .ref (a 1), .ref (a 2), .ref (a 3), .ref (a 4), .ref (a 5), vI mk, .ref (a 7), .ref (a 8), vI bl, .ref (a 10), vI hm, vI rc, .ref (a 13), .ref (a 14), .ref (a 15), vI lk, vI lg, vI kp, vI fi, vI lo, vI wt, .ref (a 22), .ref (a 23), .ref (a 24), .ref (a 25), .ref (a 26), vI gr, .ref (a 28), .ref (a 29), vI eb, vI ec, vI ef, vI iv])] t) (va_A [(o0, ob 7 [vI th, .ref (a 1), .ref (a 2), .ref (a 3), .ref (a 4), .ref (a 5), vI mk, .ref (a 7), .ref (a 8), vI bl, .ref (a 10), vI hm, vI rc, .ref (a 13), .ref (a 14), .ref (a 15), vI lk, vI lg, vI kp, vI fi, vI lo, vI wt, .ref (a 22), .ref (a 23), .ref (a 24), .ref (a 25), .ref (a 26), vI gr, .ref (a 28), .ref (a 29), vI eb, vI ec, vI ef, vI iv])] s.heap.size)) ([.ref o0, vI x, vI y] : List Value).toArray s 0 0 (va_A [(o0, ob 7 [vI th, .ref (a 1), .ref (a 2), .ref (a 3), .ref (a 4), .ref (a 5), vI mk, .ref (a 7), .ref (a 8), vI bl, .ref (a 10), vI hm, vI rc, .ref (a 13), .ref (a 14), .ref (a 15), vI lk, vI lg, vI kp, vI fi, vI lo, vI wt, .ref (a 22), .ref (a 23), .ref (a 24), .ref (a 25), .ref (a 26), vI gr, .ref (a 28), .ref (a 29), vI eb, vI ec, vI ef, vI iv])] s.heap.size)) (F0 m 0 ls []) by rw [hHe, hLe] at hgo; exact hgo
  rw [← hHe] at hP
  have hS : va_S A s.heap H locs := by rw [hHe, hLe]; exact hS
  clear hHe hLe
  refine lv_aload_n hx hb dX7_goals_0 rfl (lv_at hl 0 rfl) ?_
  refine lv_iload_n hx hb dX7_goals_1 rfl (lv_at hl 1 rfl) ?_
  refine z_wVi (q0 := 0) (ci := 7) (b := o0) (rest := []) (wr := []) hC hK hP hD hS hA (c_X7_isMake_f l G H.size o0 a th mk bl hm rc lk lg kp fi lo wt gr eb ec ef iv x (by omega) (by omega) (hno)) mv_X7_isMake tw_914 [0] [] rfl rfl rfl rfl (by decide) rfl rfl rfl rfl hl.1 rfl (Nat.le_of_ble_eq_true rfl) ⟨rfl, rfl, Nat.le_of_ble_eq_true rfl, Nat.le_of_ble_eq_true rfl⟩ ⟨Nat.le_of_ble_eq_true rfl, Nat.le_of_ble_eq_true rfl⟩ dX7_goals_2 (fun r u H locs hw hP hD hS => ?_)
  have hP : va_P G.1 vwCl [(o0, ob 7 [vI 1, .ref (a 1), .ref (a 2), .ref (a 3), .ref (a 4), .ref (a 5), vI mk, .ref (a 7), .ref (a 8), vI bl, .ref (a 10), vI hm, vI rc, .ref (a 13), .ref (a 14), .ref (a 15), vI lk, vI lg, vI kp, vI fi, vI lo, vI wt, .ref (a 22), .ref (a 23), .ref (a 24), .ref (a 25), .ref (a 26), vI gr, .ref (a 28), .ref (a 29), vI eb, vI ec, vI ef, vI iv])] H := hP
  have hD : va_D A [(o0, ob 7 [vI 1, .ref (a 1), .ref (a 2), .ref (a 3), .ref (a 4), .ref (a 5), vI mk, .ref (a 7), .ref (a 8), vI bl, .ref (a 10), vI hm, vI rc, .ref (a 13), .ref (a 14), .ref (a 15), vI lk, vI lg, vI kp, vI fi, vI lo, vI wt, .ref (a 22), .ref (a 23), .ref (a 24), .ref (a 25), .ref (a 26), vI gr, .ref (a 28), .ref (a 29), vI eb, vI ec, vI ef, vI iv])] := hD
  obtain ⟨hrw_, hw_1⟩ := hw
  rw [hrw_]
  clear hrw_
  clear hw_1
  refine z_if_eq (tgt := 31) hx hb dX7_goals_5 (by decide) (by omega) (fun c_5 => ?_) (fun c_5 => ?_)
  · refine lv_iconst (v := iI 0) hx hb dX7_goals_31 rfl ?_
    exact z_iretW hC hr hlk () hAe hP hD hS [0] (by decide) rfl rfl (⟨rfl, trivial⟩) dX7_goals_32
  · exact absurd c_5 (by decide)

set_option maxRecDepth 100000 in
set_option maxHeartbeats 4000000 in
theorem c_X7_goals_2 (l : Launch) (G : zGt) (sz : Nat) (o0 : Nat) (a : Nat → Nat) (th mk bl hm rc lk lg kp fi lo wt gr eb ec ef iv : Int) (x y : Int) (hmk : 0 ≤ mk ∧ mk ≤ 6) (hx : 0 ≤ x ∧ x < mk) (hy : -2147483648 ≤ y ∧ y < 2147483648) (hno : ¬ (0 ≤ y ∧ y < 65536)) : Met l yX7_goals (Cond.code yX7_goals cX7_goals 4 (some .int) :: tb) ({ frames := 1, cells := 0, slots := 0, locals := 22 } : Room) (zPw G [(o0, ob 7 [vI th, .ref (a 1), .ref (a 2), .ref (a 3), .ref (a 4), .ref (a 5), vI mk, .ref (a 7), .ref (a 8), vI bl, .ref (a 10), vI hm, vI rc, .ref (a 13), .ref (a 14), .ref (a 15), vI lk, vI lg, vI kp, vI fi, vI lo, vI wt, .ref (a 22), .ref (a 23), .ref (a 24), .ref (a 25), .ref (a 26), vI gr, .ref (a 28), .ref (a 29), vI eb, vI ec, vI ef, vI iv])] sz [.ref o0, vI x, vI y]) (va_Qi (fun (r : Int32) (u : Unit) => r = iI 0 ∧ True) (fun (u : Unit) t => zB G [(o0, ob 7 [vI th, .ref (a 1), .ref (a 2), .ref (a 3), .ref (a 4), .ref (a 5), vI mk, .ref (a 7), .ref (a 8), vI bl, .ref (a 10), vI hm, vI rc, .ref (a 13), .ref (a 14), .ref (a 15), vI lk, vI lg, vI kp, vI fi, vI lo, vI wt, .ref (a 22), .ref (a 23), .ref (a 24), .ref (a 25), .ref (a 26), vI gr, .ref (a 28), .ref (a 29), vI eb, vI ec, vI ef, vI iv])] sz [(o0, ob 7 [vI 2, .ref (a 1), .ref (a 2), .ref (a 3), .ref (a 4), .ref (a 5), vI mk, .ref (a 7), .ref (a 8), vI bl, .ref (a 10), vI hm, vI rc, .ref (a 13), .ref (a 14), .ref (a 15), vI lk, vI lg, vI kp, vI fi, vI lo, vI wt, .ref (a 22), .ref (a 23), .ref (a 24), .ref (a 25), .ref (a 26), vI gr, .ref (a 28), .ref (a 29), vI eb, vI ec, vI ef, vI iv])] t) (va_A [(o0, ob 7 [vI th, .ref (a 1), .ref (a 2), .ref (a 3), .ref (a 4), .ref (a 5), vI mk, .ref (a 7), .ref (a 8), vI bl, .ref (a 10), vI hm, vI rc, .ref (a 13), .ref (a 14), .ref (a 15), vI lk, vI lg, vI kp, vI fi, vI lo, vI wt, .ref (a 22), .ref (a 23), .ref (a 24), .ref (a 25), .ref (a 26), vI gr, .ref (a 28), .ref (a 29), vI eb, vI ec, vI ef, vI iv])] sz)) 0 0 (va_A [(o0, ob 7 [vI th, .ref (a 1), .ref (a 2), .ref (a 3), .ref (a 4), .ref (a 5), vI mk, .ref (a 7), .ref (a 8), vI bl, .ref (a 10), vI hm, vI rc, .ref (a 13), .ref (a 14), .ref (a 15), vI lk, vI lg, vI kp, vI fi, vI lo, vI wt, .ref (a 22), .ref (a 23), .ref (a 24), .ref (a 25), .ref (a 26), vI gr, .ref (a 28), .ref (a 29), vI eb, vI ec, vI ef, vI iv])] sz) := by
  refine Met.ofW (cc := cX7_goals) (maxL := 4) (ret := (some .int)) (by decide) rfl ?_
  intro p e s m args below meth c s₁ B hml hv
  obtain ⟨rfl, hsz, hP, hK, hD0⟩ := hv
  subst hsz
  have hD := hD0.self (sz := s.heap.size)
  obtain ⟨A, hAe⟩ : ∃ A : Nat → Prop, A = va_A [(o0, ob 7 [vI th, .ref (a 1), .ref (a 2), .ref (a 3), .ref (a 4), .ref (a 5), vI mk, .ref (a 7), .ref (a 8), vI bl, .ref (a 10), vI hm, vI rc, .ref (a 13), .ref (a 14), .ref (a 15), vI lk, vI lg, vI kp, vI fi, vI lo, vI wt, .ref (a 22), .ref (a 23), .ref (a 24), .ref (a 25), .ref (a 26), vI gr, .ref (a 28), .ref (a 29), vI eb, vI ec, vI ef, vI iv])] s.heap.size := ⟨_, rfl⟩
  rw [← hAe] at hD
  have hA : ∀ q : Nat, s.heap.size ≤ q → A q := fun q h => by rw [hAe]; exact Or.inr h
  have hS : va_S A s.heap s.heap [] := va_S.rf
  obtain ⟨hC, hr, hlk⟩ := z_begin B hml
  have hC : CallFix p m c cX7_goals 4 s _ tb RX7 := hC
  have hx := hC.1
  have hb := hC.2.1
  have hl := lv_entry ([.ref o0, vI x, vI y]) (n := 4) (Nat.le_of_ble_eq_true rfl)
  rw [lg_entry_eq]
  generalize (lg_sl ([.ref o0, vI x, vI y]) ++ List.replicate (4 - (lg_sl ([.ref o0, vI x, vI y])).length) Slot.unset).toArray = ls at hl ⊢
  have hl : lv_has ls 4 [(0, .ref o0), (1, vI x), (2, vI y)] := hl
  obtain ⟨H, hHe⟩ : ∃ H : Heap, H = s.heap := ⟨_, rfl⟩
  obtain ⟨locs, hLe⟩ : ∃ L : List Loc, L = [] := ⟨_, rfl⟩
  suffices hgo : W p l e (headSpec (Cond.code yX7_goals cX7_goals 4 (some .int) :: tb) ({ frames := 1, cells := 0, slots := 0, locals := 22 } : Room)).room s m ([.ref o0, vI x, vI y] : List Value).toArray below meth c H locs 0 0 (MQ below (va_Qi (fun (r : Int32) (u : Unit) => r = iI 0 ∧ True) (fun (u : Unit) t => zB G [(o0, ob 7 [vI th, .ref (a 1), .ref (a 2), .ref (a 3), .ref (a 4), .ref (a 5), vI mk, .ref (a 7), .ref (a 8), vI bl, .ref (a 10), vI hm, vI rc, .ref (a 13), .ref (a 14), .ref (a 15), vI lk, vI lg, vI kp, vI fi, vI lo, vI wt, .ref (a 22), .ref (a 23), .ref (a 24), .ref (a 25), .ref (a 26), vI gr, .ref (a 28), .ref (a 29), vI eb, vI ec, vI ef, vI iv])] s.heap.size [(o0, ob 7 [vI 2, .ref (a 1), .ref (a 2), .ref (a 3), .ref (a 4), .ref (a 5), vI mk, .ref (a 7), .ref (a 8), vI bl, .ref (a 10), vI hm, vI rc, .ref (a 13), .ref (a 14), .ref (a 15), vI lk, vI lg, vI kp, vI fi, vI lo, vI wt, .ref (a 22), .ref (a 23), .ref (a 24), .ref (a 25), .ref (a 26), vI gr, .ref (a 28), .ref (a 29), vI eb, vI ec, vI ef, vI iv])] t) (va_A [(o0, ob 7 [vI th, .ref (a 1), .ref (a 2), .ref (a 3), .ref (a 4), .ref (a 5), vI mk, .ref (a 7), .ref (a 8), vI bl, .ref (a 10), vI hm, vI rc, .ref (a 13), .ref (a 14), .ref (a 15), vI lk, vI lg, vI kp, vI fi, vI lo, vI wt, .ref (a 22), .ref (a 23), .ref (a 24), .ref (a 25), .ref (a 26), vI gr, .ref (a 28), .ref (a 29), vI eb, vI ec, vI ef, vI iv])] s.heap.size)) ([.ref o0, vI x, vI y] : List Value).toArray s 0 0 (va_A [(o0, ob 7 [vI th, .ref (a 1), .ref (a 2), .ref (a 3), .ref (a 4), .ref (a 5), vI mk, .ref (a 7), .ref (a 8), vI bl, .ref (a 10), vI hm, vI rc, .ref (a 13), .ref (a 14), .ref (a 15), vI lk, vI lg, vI kp, vI fi, vI lo, vI wt, .ref (a 22), .ref (a 23), .ref (a 24), .ref (a 25), .ref (a 26), vI gr, .ref (a 28), .ref (a 29), vI eb, vI ec, vI ef, vI iv])] s.heap.size)) (F0 m 0 ls []) by rw [hHe, hLe] at hgo; exact hgo
  rw [← hHe] at hP
  have hS : va_S A s.heap H locs := by rw [hHe, hLe]; exact hS
  clear hHe hLe
  refine lv_aload_n hx hb dX7_goals_0 rfl (lv_at hl 0 rfl) ?_
  refine lv_iload_n hx hb dX7_goals_1 rfl (lv_at hl 1 rfl) ?_
  refine z_wVi (q0 := 0) (ci := 7) (b := o0) (rest := []) (wr := []) hC hK hP hD hS hA (c_X7_isMake_t l G H.size o0 a th mk bl hm rc lk lg kp fi lo wt gr eb ec ef iv x (by omega) (by omega)) mv_X7_isMake tw_914 [0] [] rfl rfl rfl rfl (by decide) rfl rfl rfl rfl hl.1 rfl (Nat.le_of_ble_eq_true rfl) ⟨rfl, rfl, Nat.le_of_ble_eq_true rfl, Nat.le_of_ble_eq_true rfl⟩ ⟨Nat.le_of_ble_eq_true rfl, Nat.le_of_ble_eq_true rfl⟩ dX7_goals_2 (fun r u H locs hw hP hD hS => ?_)
  have hP : va_P G.1 vwCl [(o0, ob 7 [vI 0, .ref (a 1), .ref (a 2), .ref (a 3), .ref (a 4), .ref (a 5), vI mk, .ref (a 7), .ref (a 8), vI bl, .ref (a 10), vI hm, vI rc, .ref (a 13), .ref (a 14), .ref (a 15), vI lk, vI lg, vI kp, vI fi, vI lo, vI wt, .ref (a 22), .ref (a 23), .ref (a 24), .ref (a 25), .ref (a 26), vI gr, .ref (a 28), .ref (a 29), vI eb, vI ec, vI ef, vI iv])] H := hP
  have hD : va_D A [(o0, ob 7 [vI 0, .ref (a 1), .ref (a 2), .ref (a 3), .ref (a 4), .ref (a 5), vI mk, .ref (a 7), .ref (a 8), vI bl, .ref (a 10), vI hm, vI rc, .ref (a 13), .ref (a 14), .ref (a 15), vI lk, vI lg, vI kp, vI fi, vI lo, vI wt, .ref (a 22), .ref (a 23), .ref (a 24), .ref (a 25), .ref (a 26), vI gr, .ref (a 28), .ref (a 29), vI eb, vI ec, vI ef, vI iv])] := hD
  obtain ⟨hrw_, hw_1⟩ := hw
  rw [hrw_]
  clear hrw_
  clear hw_1
  refine z_if_eq (tgt := 31) hx hb dX7_goals_5 (by decide) (by omega) (fun c_5 => ?_) (fun c_5 => ?_)
  · exact absurd c_5 (by decide)
  · refine lv_aload_n hx hb dX7_goals_8 rfl (lv_at hl 0 rfl) ?_
    refine lv_iload_n hx hb dX7_goals_9 rfl (lv_at hl 2 rfl) ?_
    refine z_if_lt (tgt := 19) hx hb dX7_goals_10 (by decide) (by omega) (fun c_10 => ?_) (fun c_10 => ?_)
    · refine lv_iconst (v := iI 1) hx hb dX7_goals_19 rfl ?_
      refine lv_goto (tgt := 24) hx hb dX7_goals_20 (by decide) ?_
      refine lv_iconst (v := iI 2) hx hb dX7_goals_24 rfl ?_
      refine z_wVi (q0 := 0) (ci := 7) (b := o0) (rest := []) (wr := []) hC hK hP hD hS hA (c_X7_bad_1 l G H.size o0 a 0 mk bl hm rc lk lg kp fi lo wt gr eb ec ef iv 2) mv_X7_bad tw_906 [0] [] rfl rfl rfl rfl (by decide) rfl rfl rfl rfl hl.1 rfl (Nat.le_of_ble_eq_true rfl) ⟨rfl, rfl, Nat.le_of_ble_eq_true rfl, Nat.le_of_ble_eq_true rfl⟩ ⟨Nat.le_of_ble_eq_true rfl, Nat.le_of_ble_eq_true rfl⟩ dX7_goals_25 (fun r u H locs hw hP hD hS => ?_)
      have hP : va_P G.1 vwCl [(o0, ob 7 [vI 2, .ref (a 1), .ref (a 2), .ref (a 3), .ref (a 4), .ref (a 5), vI mk, .ref (a 7), .ref (a 8), vI bl, .ref (a 10), vI hm, vI rc, .ref (a 13), .ref (a 14), .ref (a 15), vI lk, vI lg, vI kp, vI fi, vI lo, vI wt, .ref (a 22), .ref (a 23), .ref (a 24), .ref (a 25), .ref (a 26), vI gr, .ref (a 28), .ref (a 29), vI eb, vI ec, vI ef, vI iv])] H := hP
      have hD : va_D A [(o0, ob 7 [vI 2, .ref (a 1), .ref (a 2), .ref (a 3), .ref (a 4), .ref (a 5), vI mk, .ref (a 7), .ref (a 8), vI bl, .ref (a 10), vI hm, vI rc, .ref (a 13), .ref (a 14), .ref (a 15), vI lk, vI lg, vI kp, vI fi, vI lo, vI wt, .ref (a 22), .ref (a 23), .ref (a 24), .ref (a 25), .ref (a 26), vI gr, .ref (a 28), .ref (a 29), vI eb, vI ec, vI ef, vI iv])] := hD
      obtain ⟨hrw_, hw_2⟩ := hw
      rw [hrw_]
      clear hrw_
      clear hw_2
      refine z_if_eq (tgt := 33) hx hb dX7_goals_28 (by decide) (by omega) (fun c_28 => ?_) (fun c_28 => ?_)
      · exact absurd c_28 (by decide)
      · refine lv_iconst (v := iI 0) hx hb dX7_goals_31 rfl ?_
        exact z_iretW hC hr hlk () hAe hP hD hS [0] (by decide) rfl rfl (⟨rfl, trivial⟩) dX7_goals_32
    · refine lv_iload_n hx hb dX7_goals_13 rfl (lv_at hl 2 rfl) ?_
      refine lv_ldc (v := iI 65535) hx hb hC.2.2.2.1 (hC.2.2.2.2 _ tw_922) dX7_goals_14 ?_
      refine z_icmp_le (tgt := 23) hx hb dX7_goals_16 (by decide) (by omega) (fun c_16 => ?_) (fun c_16 => ?_)
      · exfalso; omega
      · refine lv_iconst (v := iI 1) hx hb dX7_goals_19 rfl ?_
        refine lv_goto (tgt := 24) hx hb dX7_goals_20 (by decide) ?_
        refine lv_iconst (v := iI 2) hx hb dX7_goals_24 rfl ?_
        refine z_wVi (q0 := 0) (ci := 7) (b := o0) (rest := []) (wr := []) hC hK hP hD hS hA (c_X7_bad_1 l G H.size o0 a 0 mk bl hm rc lk lg kp fi lo wt gr eb ec ef iv 2) mv_X7_bad tw_906 [0] [] rfl rfl rfl rfl (by decide) rfl rfl rfl rfl hl.1 rfl (Nat.le_of_ble_eq_true rfl) ⟨rfl, rfl, Nat.le_of_ble_eq_true rfl, Nat.le_of_ble_eq_true rfl⟩ ⟨Nat.le_of_ble_eq_true rfl, Nat.le_of_ble_eq_true rfl⟩ dX7_goals_25 (fun r u H locs hw hP hD hS => ?_)
        have hP : va_P G.1 vwCl [(o0, ob 7 [vI 2, .ref (a 1), .ref (a 2), .ref (a 3), .ref (a 4), .ref (a 5), vI mk, .ref (a 7), .ref (a 8), vI bl, .ref (a 10), vI hm, vI rc, .ref (a 13), .ref (a 14), .ref (a 15), vI lk, vI lg, vI kp, vI fi, vI lo, vI wt, .ref (a 22), .ref (a 23), .ref (a 24), .ref (a 25), .ref (a 26), vI gr, .ref (a 28), .ref (a 29), vI eb, vI ec, vI ef, vI iv])] H := hP
        have hD : va_D A [(o0, ob 7 [vI 2, .ref (a 1), .ref (a 2), .ref (a 3), .ref (a 4), .ref (a 5), vI mk, .ref (a 7), .ref (a 8), vI bl, .ref (a 10), vI hm, vI rc, .ref (a 13), .ref (a 14), .ref (a 15), vI lk, vI lg, vI kp, vI fi, vI lo, vI wt, .ref (a 22), .ref (a 23), .ref (a 24), .ref (a 25), .ref (a 26), vI gr, .ref (a 28), .ref (a 29), vI eb, vI ec, vI ef, vI iv])] := hD
        obtain ⟨hrw_, hw_3⟩ := hw
        rw [hrw_]
        clear hrw_
        clear hw_3
        refine z_if_eq (tgt := 33) hx hb dX7_goals_28 (by decide) (by omega) (fun c_28 => ?_) (fun c_28 => ?_)
        · exact absurd c_28 (by decide)
        · refine lv_iconst (v := iI 0) hx hb dX7_goals_31 rfl ?_
          exact z_iretW hC hr hlk () hAe hP hD hS [0] (by decide) rfl rfl (⟨rfl, trivial⟩) dX7_goals_32

set_option maxRecDepth 100000 in
set_option maxHeartbeats 4000000 in
theorem c_X7_goals_0 (l : Launch) (G : zGt) (sz : Nat) (o0 : Nat) (a : Nat → Nat) (th mk bl hm rc lk lg kp fi lo wt gr eb ec ef iv : Int) (GO : Int → Int) (x y : Int) (hmk : 0 ≤ mk ∧ mk ≤ 6) (hx : 0 ≤ x ∧ x < mk) (hy : 0 ≤ y ∧ y < 65536) : Met l yX7_goals (Cond.code yX7_goals cX7_goals 4 (some .int) :: tb) ({ frames := 1, cells := 0, slots := 0, locals := 22 } : Room) (zPw G [(o0, ob 7 [vI th, .ref (a 1), .ref (a 2), .ref (a 3), .ref (a 4), .ref (a 5), vI mk, .ref (a 7), .ref (a 8), vI bl, .ref (a 10), vI hm, vI rc, .ref (a 13), .ref (a 14), .ref (a 15), vI lk, vI lg, vI kp, vI fi, vI lo, vI wt, .ref (a 22), .ref (a 23), .ref (a 24), .ref (a 25), .ref (a 26), vI gr, .ref (a 28), .ref (a 29), vI eb, vI ec, vI ef, vI iv]), ((a 4), aI G 6 GO)] sz [.ref o0, vI x, vI y]) (va_Qi (fun (r : Int32) (u : Unit) => r = iI (GO x) ∧ True) (fun (u : Unit) t => zB G [(o0, ob 7 [vI th, .ref (a 1), .ref (a 2), .ref (a 3), .ref (a 4), .ref (a 5), vI mk, .ref (a 7), .ref (a 8), vI bl, .ref (a 10), vI hm, vI rc, .ref (a 13), .ref (a 14), .ref (a 15), vI lk, vI lg, vI kp, vI fi, vI lo, vI wt, .ref (a 22), .ref (a 23), .ref (a 24), .ref (a 25), .ref (a 26), vI gr, .ref (a 28), .ref (a 29), vI eb, vI ec, vI ef, vI iv]), ((a 4), aI G 6 GO)] sz [(o0, ob 7 [vI 0, .ref (a 1), .ref (a 2), .ref (a 3), .ref (a 4), .ref (a 5), vI mk, .ref (a 7), .ref (a 8), vI bl, .ref (a 10), vI hm, vI rc, .ref (a 13), .ref (a 14), .ref (a 15), vI lk, vI lg, vI kp, vI fi, vI lo, vI wt, .ref (a 22), .ref (a 23), .ref (a 24), .ref (a 25), .ref (a 26), vI gr, .ref (a 28), .ref (a 29), vI eb, vI ec, vI ef, vI iv]), ((a 4), aI G 6 (zup GO x y))] t) (va_A [(o0, ob 7 [vI th, .ref (a 1), .ref (a 2), .ref (a 3), .ref (a 4), .ref (a 5), vI mk, .ref (a 7), .ref (a 8), vI bl, .ref (a 10), vI hm, vI rc, .ref (a 13), .ref (a 14), .ref (a 15), vI lk, vI lg, vI kp, vI fi, vI lo, vI wt, .ref (a 22), .ref (a 23), .ref (a 24), .ref (a 25), .ref (a 26), vI gr, .ref (a 28), .ref (a 29), vI eb, vI ec, vI ef, vI iv]), ((a 4), aI G 6 GO)] sz)) 0 0 (va_A [(o0, ob 7 [vI th, .ref (a 1), .ref (a 2), .ref (a 3), .ref (a 4), .ref (a 5), vI mk, .ref (a 7), .ref (a 8), vI bl, .ref (a 10), vI hm, vI rc, .ref (a 13), .ref (a 14), .ref (a 15), vI lk, vI lg, vI kp, vI fi, vI lo, vI wt, .ref (a 22), .ref (a 23), .ref (a 24), .ref (a 25), .ref (a 26), vI gr, .ref (a 28), .ref (a 29), vI eb, vI ec, vI ef, vI iv]), ((a 4), aI G 6 GO)] sz) := by
  refine Met.ofW (cc := cX7_goals) (maxL := 4) (ret := (some .int)) (by decide) rfl ?_
  intro p e s m args below meth c s₁ B hml hv
  obtain ⟨rfl, hsz, hP, hK, hD0⟩ := hv
  subst hsz
  have hD := hD0.self (sz := s.heap.size)
  obtain ⟨A, hAe⟩ : ∃ A : Nat → Prop, A = va_A [(o0, ob 7 [vI th, .ref (a 1), .ref (a 2), .ref (a 3), .ref (a 4), .ref (a 5), vI mk, .ref (a 7), .ref (a 8), vI bl, .ref (a 10), vI hm, vI rc, .ref (a 13), .ref (a 14), .ref (a 15), vI lk, vI lg, vI kp, vI fi, vI lo, vI wt, .ref (a 22), .ref (a 23), .ref (a 24), .ref (a 25), .ref (a 26), vI gr, .ref (a 28), .ref (a 29), vI eb, vI ec, vI ef, vI iv]), ((a 4), aI G 6 GO)] s.heap.size := ⟨_, rfl⟩
  rw [← hAe] at hD
  have hA : ∀ q : Nat, s.heap.size ≤ q → A q := fun q h => by rw [hAe]; exact Or.inr h
  have hS : va_S A s.heap s.heap [] := va_S.rf
  obtain ⟨hC, hr, hlk⟩ := z_begin B hml
  have hC : CallFix p m c cX7_goals 4 s _ tb RX7 := hC
  have hx := hC.1
  have hb := hC.2.1
  have hl := lv_entry ([.ref o0, vI x, vI y]) (n := 4) (Nat.le_of_ble_eq_true rfl)
  rw [lg_entry_eq]
  generalize (lg_sl ([.ref o0, vI x, vI y]) ++ List.replicate (4 - (lg_sl ([.ref o0, vI x, vI y])).length) Slot.unset).toArray = ls at hl ⊢
  have hl : lv_has ls 4 [(0, .ref o0), (1, vI x), (2, vI y)] := hl
  obtain ⟨H, hHe⟩ : ∃ H : Heap, H = s.heap := ⟨_, rfl⟩
  obtain ⟨locs, hLe⟩ : ∃ L : List Loc, L = [] := ⟨_, rfl⟩
  suffices hgo : W p l e (headSpec (Cond.code yX7_goals cX7_goals 4 (some .int) :: tb) ({ frames := 1, cells := 0, slots := 0, locals := 22 } : Room)).room s m ([.ref o0, vI x, vI y] : List Value).toArray below meth c H locs 0 0 (MQ below (va_Qi (fun (r : Int32) (u : Unit) => r = iI (GO x) ∧ True) (fun (u : Unit) t => zB G [(o0, ob 7 [vI th, .ref (a 1), .ref (a 2), .ref (a 3), .ref (a 4), .ref (a 5), vI mk, .ref (a 7), .ref (a 8), vI bl, .ref (a 10), vI hm, vI rc, .ref (a 13), .ref (a 14), .ref (a 15), vI lk, vI lg, vI kp, vI fi, vI lo, vI wt, .ref (a 22), .ref (a 23), .ref (a 24), .ref (a 25), .ref (a 26), vI gr, .ref (a 28), .ref (a 29), vI eb, vI ec, vI ef, vI iv]), ((a 4), aI G 6 GO)] s.heap.size [(o0, ob 7 [vI 0, .ref (a 1), .ref (a 2), .ref (a 3), .ref (a 4), .ref (a 5), vI mk, .ref (a 7), .ref (a 8), vI bl, .ref (a 10), vI hm, vI rc, .ref (a 13), .ref (a 14), .ref (a 15), vI lk, vI lg, vI kp, vI fi, vI lo, vI wt, .ref (a 22), .ref (a 23), .ref (a 24), .ref (a 25), .ref (a 26), vI gr, .ref (a 28), .ref (a 29), vI eb, vI ec, vI ef, vI iv]), ((a 4), aI G 6 (zup GO x y))] t) (va_A [(o0, ob 7 [vI th, .ref (a 1), .ref (a 2), .ref (a 3), .ref (a 4), .ref (a 5), vI mk, .ref (a 7), .ref (a 8), vI bl, .ref (a 10), vI hm, vI rc, .ref (a 13), .ref (a 14), .ref (a 15), vI lk, vI lg, vI kp, vI fi, vI lo, vI wt, .ref (a 22), .ref (a 23), .ref (a 24), .ref (a 25), .ref (a 26), vI gr, .ref (a 28), .ref (a 29), vI eb, vI ec, vI ef, vI iv]), ((a 4), aI G 6 GO)] s.heap.size)) ([.ref o0, vI x, vI y] : List Value).toArray s 0 0 (va_A [(o0, ob 7 [vI th, .ref (a 1), .ref (a 2), .ref (a 3), .ref (a 4), .ref (a 5), vI mk, .ref (a 7), .ref (a 8), vI bl, .ref (a 10), vI hm, vI rc, .ref (a 13), .ref (a 14), .ref (a 15), vI lk, vI lg, vI kp, vI fi, vI lo, vI wt, .ref (a 22), .ref (a 23), .ref (a 24), .ref (a 25), .ref (a 26), vI gr, .ref (a 28), .ref (a 29), vI eb, vI ec, vI ef, vI iv]), ((a 4), aI G 6 GO)] s.heap.size)) (F0 m 0 ls []) by rw [hHe, hLe] at hgo; exact hgo
  rw [← hHe] at hP
  have hS : va_S A s.heap H locs := by rw [hHe, hLe]; exact hS
  clear hHe hLe
  refine lv_aload_n hx hb dX7_goals_0 rfl (lv_at hl 0 rfl) ?_
  refine lv_iload_n hx hb dX7_goals_1 rfl (lv_at hl 1 rfl) ?_
  refine z_wVi (q0 := 0) (ci := 7) (b := o0) (rest := []) (wr := [((a 4), aI G 6 GO)]) hC hK hP hD hS hA (c_X7_isMake_t l G H.size o0 a th mk bl hm rc lk lg kp fi lo wt gr eb ec ef iv x (by omega) (by omega)) mv_X7_isMake tw_914 [0] [1] rfl rfl rfl rfl (by decide) rfl rfl rfl rfl hl.1 rfl (Nat.le_of_ble_eq_true rfl) ⟨rfl, rfl, Nat.le_of_ble_eq_true rfl, Nat.le_of_ble_eq_true rfl⟩ ⟨Nat.le_of_ble_eq_true rfl, Nat.le_of_ble_eq_true rfl⟩ dX7_goals_2 (fun r u H locs hw hP hD hS => ?_)
  have hP : va_P G.1 vwCl [((a 4), aI G 6 GO), (o0, ob 7 [vI 0, .ref (a 1), .ref (a 2), .ref (a 3), .ref (a 4), .ref (a 5), vI mk, .ref (a 7), .ref (a 8), vI bl, .ref (a 10), vI hm, vI rc, .ref (a 13), .ref (a 14), .ref (a 15), vI lk, vI lg, vI kp, vI fi, vI lo, vI wt, .ref (a 22), .ref (a 23), .ref (a 24), .ref (a 25), .ref (a 26), vI gr, .ref (a 28), .ref (a 29), vI eb, vI ec, vI ef, vI iv])] H := hP
  have hD : va_D A [((a 4), aI G 6 GO), (o0, ob 7 [vI 0, .ref (a 1), .ref (a 2), .ref (a 3), .ref (a 4), .ref (a 5), vI mk, .ref (a 7), .ref (a 8), vI bl, .ref (a 10), vI hm, vI rc, .ref (a 13), .ref (a 14), .ref (a 15), vI lk, vI lg, vI kp, vI fi, vI lo, vI wt, .ref (a 22), .ref (a 23), .ref (a 24), .ref (a 25), .ref (a 26), vI gr, .ref (a 28), .ref (a 29), vI eb, vI ec, vI ef, vI iv])] := hD
  obtain ⟨hrw_, hw_1⟩ := hw
  rw [hrw_]
  clear hrw_
  clear hw_1
  refine z_if_eq (tgt := 31) hx hb dX7_goals_5 (by decide) (by omega) (fun c_5 => ?_) (fun c_5 => ?_)
  · exact absurd c_5 (by decide)
  · refine lv_aload_n hx hb dX7_goals_8 rfl (lv_at hl 0 rfl) ?_
    refine lv_iload_n hx hb dX7_goals_9 rfl (lv_at hl 2 rfl) ?_
    refine z_if_lt (tgt := 19) hx hb dX7_goals_10 (by decide) (by omega) (fun c_10 => ?_) (fun c_10 => ?_)
    · exfalso; omega
    · refine lv_iload_n hx hb dX7_goals_13 rfl (lv_at hl 2 rfl) ?_
      refine lv_ldc (v := iI 65535) hx hb hC.2.2.2.1 (hC.2.2.2.2 _ tw_922) dX7_goals_14 ?_
      refine z_icmp_le (tgt := 23) hx hb dX7_goals_16 (by decide) (by omega) (fun c_16 => ?_) (fun c_16 => ?_)
      · refine lv_iconst (v := iI 0) hx hb dX7_goals_23 rfl ?_
        refine lv_iconst (v := iI 2) hx hb dX7_goals_24 rfl ?_
        refine z_wVi (q0 := 1) (ci := 7) (b := o0) (rest := []) (wr := [((a 4), aI G 6 GO)]) hC hK hP hD hS hA (c_X7_bad_0 l G H.size o0 a 0 mk bl hm rc lk lg kp fi lo wt gr eb ec ef iv 2) mv_X7_bad tw_906 [1] [0] rfl rfl rfl rfl (by decide) rfl rfl rfl rfl hl.1 rfl (Nat.le_of_ble_eq_true rfl) ⟨rfl, rfl, Nat.le_of_ble_eq_true rfl, Nat.le_of_ble_eq_true rfl⟩ ⟨Nat.le_of_ble_eq_true rfl, Nat.le_of_ble_eq_true rfl⟩ dX7_goals_25 (fun r u H locs hw hP hD hS => ?_)
        have hP : va_P G.1 vwCl [((a 4), aI G 6 GO), (o0, ob 7 [vI 0, .ref (a 1), .ref (a 2), .ref (a 3), .ref (a 4), .ref (a 5), vI mk, .ref (a 7), .ref (a 8), vI bl, .ref (a 10), vI hm, vI rc, .ref (a 13), .ref (a 14), .ref (a 15), vI lk, vI lg, vI kp, vI fi, vI lo, vI wt, .ref (a 22), .ref (a 23), .ref (a 24), .ref (a 25), .ref (a 26), vI gr, .ref (a 28), .ref (a 29), vI eb, vI ec, vI ef, vI iv])] H := hP
        have hD : va_D A [((a 4), aI G 6 GO), (o0, ob 7 [vI 0, .ref (a 1), .ref (a 2), .ref (a 3), .ref (a 4), .ref (a 5), vI mk, .ref (a 7), .ref (a 8), vI bl, .ref (a 10), vI hm, vI rc, .ref (a 13), .ref (a 14), .ref (a 15), vI lk, vI lg, vI kp, vI fi, vI lo, vI wt, .ref (a 22), .ref (a 23), .ref (a 24), .ref (a 25), .ref (a 26), vI gr, .ref (a 28), .ref (a 29), vI eb, vI ec, vI ef, vI iv])] := hD
        obtain ⟨hrw_, hw_2⟩ := hw
        rw [hrw_]
        clear hrw_
        clear hw_2
        refine z_if_eq (tgt := 33) hx hb dX7_goals_28 (by decide) (by omega) (fun c_28 => ?_) (fun c_28 => ?_)
        · refine lv_aload_n hx hb dX7_goals_33 rfl (lv_at hl 0 rfl) ?_
          refine z_get (v := .ref (a 4)) hC hK hP inX7 rfl 1 rfl 4 (by decide) tw_796 rfl dX7_goals_34 ?_
          refine lv_iload_n hx hb dX7_goals_37 rfl (lv_at hl 1 rfl) ?_
          refine z_iald hC hK hP 0 rfl (by omega) (by decide) dX7_goals_38 ?_
          refine lv_istore_n (lv' := [(3, vI (GO x)), (0, .ref o0), (1, vI x), (2, vI y)]) hx hb dX7_goals_39 rfl hl (by decide) rfl (fun ls hl => ?_)
          refine lv_aload_n hx hb dX7_goals_40 rfl (lv_at hl 1 rfl) ?_
          refine z_get (v := .ref (a 4)) hC hK hP inX7 rfl 1 rfl 4 (by decide) tw_796 rfl dX7_goals_41 ?_
          refine lv_iload_n hx hb dX7_goals_44 rfl (lv_at hl 2 rfl) ?_
          refine lv_iload_n hx hb dX7_goals_45 rfl (lv_at hl 3 rfl) ?_
          refine z_iast (ws' := [((a 4), aI G 6 (zup GO x y)), (o0, ob 7 [vI 0, .ref (a 1), .ref (a 2), .ref (a 3), .ref (a 4), .ref (a 5), vI mk, .ref (a 7), .ref (a 8), vI bl, .ref (a 10), vI hm, vI rc, .ref (a 13), .ref (a 14), .ref (a 15), vI lk, vI lg, vI kp, vI fi, vI lo, vI wt, .ref (a 22), .ref (a 23), .ref (a 24), .ref (a 25), .ref (a 26), vI gr, .ref (a 28), .ref (a 29), vI eb, vI ec, vI ef, vI iv])]) hC hK hP hD hS 0 rfl (by omega) (by decide) rfl dX7_goals_46 (fun H locs hP hD hS => ?_)
          refine lv_iload_n hx hb dX7_goals_47 rfl (lv_at hl 0 rfl) ?_
          exact z_iretW hC hr hlk () hAe hP hD hS [1, 0] (by decide) rfl rfl (⟨rfl, trivial⟩) dX7_goals_48
        · exact absurd c_28 (by decide)
      · exfalso; omega

set_option maxRecDepth 100000 in
set_option maxHeartbeats 4000000 in
theorem c_X7_block_n (l : Launch) (G : zGt) (sz : Nat) (o0 : Nat) (a : Nat → Nat) (th mk bl hm rc lk lg kp fi lo wt gr eb ec ef iv : Int) (DK : Int → Int64) (v : Int64) (hbl : bl = 24) : Met l yX7_block (Cond.code yX7_block cX7_block 3 (some .int) :: tb) ({ frames := 0, cells := 0, slots := 0, locals := 0 } : Room) (zPw G [(o0, ob 7 [vI th, .ref (a 1), .ref (a 2), .ref (a 3), .ref (a 4), .ref (a 5), vI mk, .ref (a 7), .ref (a 8), vI bl, .ref (a 10), vI hm, vI rc, .ref (a 13), .ref (a 14), .ref (a 15), vI lk, vI lg, vI kp, vI fi, vI lo, vI wt, .ref (a 22), .ref (a 23), .ref (a 24), .ref (a 25), .ref (a 26), vI gr, .ref (a 28), .ref (a 29), vI eb, vI ec, vI ef, vI iv]), ((a 8), aJ G 24 DK)] sz [.ref o0, .long v]) (va_Qi (fun (r : Int32) (u : Unit) => r = iI (-1) ∧ True) (fun (u : Unit) t => zB G [(o0, ob 7 [vI th, .ref (a 1), .ref (a 2), .ref (a 3), .ref (a 4), .ref (a 5), vI mk, .ref (a 7), .ref (a 8), vI bl, .ref (a 10), vI hm, vI rc, .ref (a 13), .ref (a 14), .ref (a 15), vI lk, vI lg, vI kp, vI fi, vI lo, vI wt, .ref (a 22), .ref (a 23), .ref (a 24), .ref (a 25), .ref (a 26), vI gr, .ref (a 28), .ref (a 29), vI eb, vI ec, vI ef, vI iv]), ((a 8), aJ G 24 DK)] sz [(o0, ob 7 [vI 0, .ref (a 1), .ref (a 2), .ref (a 3), .ref (a 4), .ref (a 5), vI mk, .ref (a 7), .ref (a 8), vI bl, .ref (a 10), vI hm, vI rc, .ref (a 13), .ref (a 14), .ref (a 15), vI lk, vI lg, vI kp, vI fi, vI lo, vI wt, .ref (a 22), .ref (a 23), .ref (a 24), .ref (a 25), .ref (a 26), vI gr, .ref (a 28), .ref (a 29), vI eb, vI ec, vI ef, vI iv]), ((a 8), aJ G 24 DK)] t) (va_A [(o0, ob 7 [vI th, .ref (a 1), .ref (a 2), .ref (a 3), .ref (a 4), .ref (a 5), vI mk, .ref (a 7), .ref (a 8), vI bl, .ref (a 10), vI hm, vI rc, .ref (a 13), .ref (a 14), .ref (a 15), vI lk, vI lg, vI kp, vI fi, vI lo, vI wt, .ref (a 22), .ref (a 23), .ref (a 24), .ref (a 25), .ref (a 26), vI gr, .ref (a 28), .ref (a 29), vI eb, vI ec, vI ef, vI iv]), ((a 8), aJ G 24 DK)] sz)) 0 0 (va_A [(o0, ob 7 [vI th, .ref (a 1), .ref (a 2), .ref (a 3), .ref (a 4), .ref (a 5), vI mk, .ref (a 7), .ref (a 8), vI bl, .ref (a 10), vI hm, vI rc, .ref (a 13), .ref (a 14), .ref (a 15), vI lk, vI lg, vI kp, vI fi, vI lo, vI wt, .ref (a 22), .ref (a 23), .ref (a 24), .ref (a 25), .ref (a 26), vI gr, .ref (a 28), .ref (a 29), vI eb, vI ec, vI ef, vI iv]), ((a 8), aJ G 24 DK)] sz) := by
  refine Met.ofW (cc := cX7_block) (maxL := 3) (ret := (some .int)) (by decide) rfl ?_
  intro p e s m args below meth c s₁ B hml hv
  obtain ⟨rfl, hsz, hP, hK, hD0⟩ := hv
  subst hsz
  have hD := hD0.self (sz := s.heap.size)
  obtain ⟨A, hAe⟩ : ∃ A : Nat → Prop, A = va_A [(o0, ob 7 [vI th, .ref (a 1), .ref (a 2), .ref (a 3), .ref (a 4), .ref (a 5), vI mk, .ref (a 7), .ref (a 8), vI bl, .ref (a 10), vI hm, vI rc, .ref (a 13), .ref (a 14), .ref (a 15), vI lk, vI lg, vI kp, vI fi, vI lo, vI wt, .ref (a 22), .ref (a 23), .ref (a 24), .ref (a 25), .ref (a 26), vI gr, .ref (a 28), .ref (a 29), vI eb, vI ec, vI ef, vI iv]), ((a 8), aJ G 24 DK)] s.heap.size := ⟨_, rfl⟩
  rw [← hAe] at hD
  have hA : ∀ q : Nat, s.heap.size ≤ q → A q := fun q h => by rw [hAe]; exact Or.inr h
  have hS : va_S A s.heap s.heap [] := va_S.rf
  obtain ⟨hC, hr, hlk⟩ := z_begin B hml
  have hC : CallFix p m c cX7_block 3 s _ tb RX7 := hC
  have hx := hC.1
  have hb := hC.2.1
  have hl := lv_entry ([.ref o0, .long v]) (n := 3) (Nat.le_of_ble_eq_true rfl)
  rw [lg_entry_eq]
  generalize (lg_sl ([.ref o0, .long v]) ++ List.replicate (3 - (lg_sl ([.ref o0, .long v])).length) Slot.unset).toArray = ls at hl ⊢
  have hl : lv_has ls 3 [(0, .ref o0), (1, .long v)] := hl
  obtain ⟨H, hHe⟩ : ∃ H : Heap, H = s.heap := ⟨_, rfl⟩
  obtain ⟨locs, hLe⟩ : ∃ L : List Loc, L = [] := ⟨_, rfl⟩
  suffices hgo : W p l e (headSpec (Cond.code yX7_block cX7_block 3 (some .int) :: tb) ({ frames := 0, cells := 0, slots := 0, locals := 0 } : Room)).room s m ([.ref o0, .long v] : List Value).toArray below meth c H locs 0 0 (MQ below (va_Qi (fun (r : Int32) (u : Unit) => r = iI (-1) ∧ True) (fun (u : Unit) t => zB G [(o0, ob 7 [vI th, .ref (a 1), .ref (a 2), .ref (a 3), .ref (a 4), .ref (a 5), vI mk, .ref (a 7), .ref (a 8), vI bl, .ref (a 10), vI hm, vI rc, .ref (a 13), .ref (a 14), .ref (a 15), vI lk, vI lg, vI kp, vI fi, vI lo, vI wt, .ref (a 22), .ref (a 23), .ref (a 24), .ref (a 25), .ref (a 26), vI gr, .ref (a 28), .ref (a 29), vI eb, vI ec, vI ef, vI iv]), ((a 8), aJ G 24 DK)] s.heap.size [(o0, ob 7 [vI 0, .ref (a 1), .ref (a 2), .ref (a 3), .ref (a 4), .ref (a 5), vI mk, .ref (a 7), .ref (a 8), vI bl, .ref (a 10), vI hm, vI rc, .ref (a 13), .ref (a 14), .ref (a 15), vI lk, vI lg, vI kp, vI fi, vI lo, vI wt, .ref (a 22), .ref (a 23), .ref (a 24), .ref (a 25), .ref (a 26), vI gr, .ref (a 28), .ref (a 29), vI eb, vI ec, vI ef, vI iv]), ((a 8), aJ G 24 DK)] t) (va_A [(o0, ob 7 [vI th, .ref (a 1), .ref (a 2), .ref (a 3), .ref (a 4), .ref (a 5), vI mk, .ref (a 7), .ref (a 8), vI bl, .ref (a 10), vI hm, vI rc, .ref (a 13), .ref (a 14), .ref (a 15), vI lk, vI lg, vI kp, vI fi, vI lo, vI wt, .ref (a 22), .ref (a 23), .ref (a 24), .ref (a 25), .ref (a 26), vI gr, .ref (a 28), .ref (a 29), vI eb, vI ec, vI ef, vI iv]), ((a 8), aJ G 24 DK)] s.heap.size)) ([.ref o0, .long v] : List Value).toArray s 0 0 (va_A [(o0, ob 7 [vI th, .ref (a 1), .ref (a 2), .ref (a 3), .ref (a 4), .ref (a 5), vI mk, .ref (a 7), .ref (a 8), vI bl, .ref (a 10), vI hm, vI rc, .ref (a 13), .ref (a 14), .ref (a 15), vI lk, vI lg, vI kp, vI fi, vI lo, vI wt, .ref (a 22), .ref (a 23), .ref (a 24), .ref (a 25), .ref (a 26), vI gr, .ref (a 28), .ref (a 29), vI eb, vI ec, vI ef, vI iv]), ((a 8), aJ G 24 DK)] s.heap.size)) (F0 m 0 ls []) by rw [hHe, hLe] at hgo; exact hgo
  rw [← hHe] at hP
  have hS : va_S A s.heap H locs := by rw [hHe, hLe]; exact hS
  clear hHe hLe
  refine lv_aload_n hx hb dX7_block_0 rfl (lv_at hl 0 rfl) ?_
  refine lv_iconst (v := iI 0) hx hb dX7_block_1 rfl ?_
  refine z_put (ws' := [(o0, ob 7 [vI 0, .ref (a 1), .ref (a 2), .ref (a 3), .ref (a 4), .ref (a 5), vI mk, .ref (a 7), .ref (a 8), vI bl, .ref (a 10), vI hm, vI rc, .ref (a 13), .ref (a 14), .ref (a 15), vI lk, vI lg, vI kp, vI fi, vI lo, vI wt, .ref (a 22), .ref (a 23), .ref (a 24), .ref (a 25), .ref (a 26), vI gr, .ref (a 28), .ref (a 29), vI eb, vI ec, vI ef, vI iv]), ((a 8), aJ G 24 DK)]) hC hK hP hD hS inX7 tyX7 tyX7_ok nmX7 rfl 0 rfl 0 (by decide) tw_792 rfl rfl rfl (Nat.le_of_ble_eq_true rfl) rfl dX7_block_2 (fun H locs hP hD hS => ?_)
  refine lv_aload_n hx hb dX7_block_5 rfl (lv_at hl 0 rfl) ?_
  refine z_get (v := vI bl) hC hK hP inX7 rfl 0 rfl 9 (by decide) tw_801 rfl dX7_block_6 ?_
  refine lv_bipush (v := iI 24) hx hb dX7_block_9 (by decide) ?_
  refine z_icmp_ne (tgt := 16) hx hb dX7_block_11 (by decide) (by omega) (fun c_11 => ?_) (fun c_11 => ?_)
  · exfalso; omega
  · refine lv_iconst (v := iI (-1)) hx hb dX7_block_14 rfl ?_
    exact z_iretW hC hr hlk () hAe hP hD hS [0, 1] (by decide) rfl rfl (⟨rfl, trivial⟩) dX7_block_15

set_option maxRecDepth 100000 in
set_option maxHeartbeats 4000000 in
theorem c_X7_block_0 (l : Launch) (G : zGt) (sz : Nat) (o0 : Nat) (a : Nat → Nat) (th mk bl hm rc lk lg kp fi lo wt gr eb ec ef iv : Int) (DK : Int → Int64) (v : Int64) (hbl : 0 ≤ bl ∧ bl < 24) : Met l yX7_block (Cond.code yX7_block cX7_block 3 (some .int) :: tb) ({ frames := 0, cells := 0, slots := 0, locals := 0 } : Room) (zPw G [(o0, ob 7 [vI th, .ref (a 1), .ref (a 2), .ref (a 3), .ref (a 4), .ref (a 5), vI mk, .ref (a 7), .ref (a 8), vI bl, .ref (a 10), vI hm, vI rc, .ref (a 13), .ref (a 14), .ref (a 15), vI lk, vI lg, vI kp, vI fi, vI lo, vI wt, .ref (a 22), .ref (a 23), .ref (a 24), .ref (a 25), .ref (a 26), vI gr, .ref (a 28), .ref (a 29), vI eb, vI ec, vI ef, vI iv]), ((a 8), aJ G 24 DK)] sz [.ref o0, .long v]) (va_Qi (fun (r : Int32) (u : Unit) => r = iI bl ∧ True) (fun (u : Unit) t => zB G [(o0, ob 7 [vI th, .ref (a 1), .ref (a 2), .ref (a 3), .ref (a 4), .ref (a 5), vI mk, .ref (a 7), .ref (a 8), vI bl, .ref (a 10), vI hm, vI rc, .ref (a 13), .ref (a 14), .ref (a 15), vI lk, vI lg, vI kp, vI fi, vI lo, vI wt, .ref (a 22), .ref (a 23), .ref (a 24), .ref (a 25), .ref (a 26), vI gr, .ref (a 28), .ref (a 29), vI eb, vI ec, vI ef, vI iv]), ((a 8), aJ G 24 DK)] sz [(o0, ob 7 [vI 0, .ref (a 1), .ref (a 2), .ref (a 3), .ref (a 4), .ref (a 5), vI mk, .ref (a 7), .ref (a 8), vI (bl + 1), .ref (a 10), vI hm, vI rc, .ref (a 13), .ref (a 14), .ref (a 15), vI lk, vI lg, vI kp, vI fi, vI lo, vI wt, .ref (a 22), .ref (a 23), .ref (a 24), .ref (a 25), .ref (a 26), vI gr, .ref (a 28), .ref (a 29), vI eb, vI ec, vI ef, vI iv]), ((a 8), aJ G 24 (zup DK bl v))] t) (va_A [(o0, ob 7 [vI th, .ref (a 1), .ref (a 2), .ref (a 3), .ref (a 4), .ref (a 5), vI mk, .ref (a 7), .ref (a 8), vI bl, .ref (a 10), vI hm, vI rc, .ref (a 13), .ref (a 14), .ref (a 15), vI lk, vI lg, vI kp, vI fi, vI lo, vI wt, .ref (a 22), .ref (a 23), .ref (a 24), .ref (a 25), .ref (a 26), vI gr, .ref (a 28), .ref (a 29), vI eb, vI ec, vI ef, vI iv]), ((a 8), aJ G 24 DK)] sz)) 0 0 (va_A [(o0, ob 7 [vI th, .ref (a 1), .ref (a 2), .ref (a 3), .ref (a 4), .ref (a 5), vI mk, .ref (a 7), .ref (a 8), vI bl, .ref (a 10), vI hm, vI rc, .ref (a 13), .ref (a 14), .ref (a 15), vI lk, vI lg, vI kp, vI fi, vI lo, vI wt, .ref (a 22), .ref (a 23), .ref (a 24), .ref (a 25), .ref (a 26), vI gr, .ref (a 28), .ref (a 29), vI eb, vI ec, vI ef, vI iv]), ((a 8), aJ G 24 DK)] sz) := by
  refine Met.ofW (cc := cX7_block) (maxL := 3) (ret := (some .int)) (by decide) rfl ?_
  intro p e s m args below meth c s₁ B hml hv
  obtain ⟨rfl, hsz, hP, hK, hD0⟩ := hv
  subst hsz
  have hD := hD0.self (sz := s.heap.size)
  obtain ⟨A, hAe⟩ : ∃ A : Nat → Prop, A = va_A [(o0, ob 7 [vI th, .ref (a 1), .ref (a 2), .ref (a 3), .ref (a 4), .ref (a 5), vI mk, .ref (a 7), .ref (a 8), vI bl, .ref (a 10), vI hm, vI rc, .ref (a 13), .ref (a 14), .ref (a 15), vI lk, vI lg, vI kp, vI fi, vI lo, vI wt, .ref (a 22), .ref (a 23), .ref (a 24), .ref (a 25), .ref (a 26), vI gr, .ref (a 28), .ref (a 29), vI eb, vI ec, vI ef, vI iv]), ((a 8), aJ G 24 DK)] s.heap.size := ⟨_, rfl⟩
  rw [← hAe] at hD
  have hA : ∀ q : Nat, s.heap.size ≤ q → A q := fun q h => by rw [hAe]; exact Or.inr h
  have hS : va_S A s.heap s.heap [] := va_S.rf
  obtain ⟨hC, hr, hlk⟩ := z_begin B hml
  have hC : CallFix p m c cX7_block 3 s _ tb RX7 := hC
  have hx := hC.1
  have hb := hC.2.1
  have hl := lv_entry ([.ref o0, .long v]) (n := 3) (Nat.le_of_ble_eq_true rfl)
  rw [lg_entry_eq]
  generalize (lg_sl ([.ref o0, .long v]) ++ List.replicate (3 - (lg_sl ([.ref o0, .long v])).length) Slot.unset).toArray = ls at hl ⊢
  have hl : lv_has ls 3 [(0, .ref o0), (1, .long v)] := hl
  obtain ⟨H, hHe⟩ : ∃ H : Heap, H = s.heap := ⟨_, rfl⟩
  obtain ⟨locs, hLe⟩ : ∃ L : List Loc, L = [] := ⟨_, rfl⟩
  suffices hgo : W p l e (headSpec (Cond.code yX7_block cX7_block 3 (some .int) :: tb) ({ frames := 0, cells := 0, slots := 0, locals := 0 } : Room)).room s m ([.ref o0, .long v] : List Value).toArray below meth c H locs 0 0 (MQ below (va_Qi (fun (r : Int32) (u : Unit) => r = iI bl ∧ True) (fun (u : Unit) t => zB G [(o0, ob 7 [vI th, .ref (a 1), .ref (a 2), .ref (a 3), .ref (a 4), .ref (a 5), vI mk, .ref (a 7), .ref (a 8), vI bl, .ref (a 10), vI hm, vI rc, .ref (a 13), .ref (a 14), .ref (a 15), vI lk, vI lg, vI kp, vI fi, vI lo, vI wt, .ref (a 22), .ref (a 23), .ref (a 24), .ref (a 25), .ref (a 26), vI gr, .ref (a 28), .ref (a 29), vI eb, vI ec, vI ef, vI iv]), ((a 8), aJ G 24 DK)] s.heap.size [(o0, ob 7 [vI 0, .ref (a 1), .ref (a 2), .ref (a 3), .ref (a 4), .ref (a 5), vI mk, .ref (a 7), .ref (a 8), vI (bl + 1), .ref (a 10), vI hm, vI rc, .ref (a 13), .ref (a 14), .ref (a 15), vI lk, vI lg, vI kp, vI fi, vI lo, vI wt, .ref (a 22), .ref (a 23), .ref (a 24), .ref (a 25), .ref (a 26), vI gr, .ref (a 28), .ref (a 29), vI eb, vI ec, vI ef, vI iv]), ((a 8), aJ G 24 (zup DK bl v))] t) (va_A [(o0, ob 7 [vI th, .ref (a 1), .ref (a 2), .ref (a 3), .ref (a 4), .ref (a 5), vI mk, .ref (a 7), .ref (a 8), vI bl, .ref (a 10), vI hm, vI rc, .ref (a 13), .ref (a 14), .ref (a 15), vI lk, vI lg, vI kp, vI fi, vI lo, vI wt, .ref (a 22), .ref (a 23), .ref (a 24), .ref (a 25), .ref (a 26), vI gr, .ref (a 28), .ref (a 29), vI eb, vI ec, vI ef, vI iv]), ((a 8), aJ G 24 DK)] s.heap.size)) ([.ref o0, .long v] : List Value).toArray s 0 0 (va_A [(o0, ob 7 [vI th, .ref (a 1), .ref (a 2), .ref (a 3), .ref (a 4), .ref (a 5), vI mk, .ref (a 7), .ref (a 8), vI bl, .ref (a 10), vI hm, vI rc, .ref (a 13), .ref (a 14), .ref (a 15), vI lk, vI lg, vI kp, vI fi, vI lo, vI wt, .ref (a 22), .ref (a 23), .ref (a 24), .ref (a 25), .ref (a 26), vI gr, .ref (a 28), .ref (a 29), vI eb, vI ec, vI ef, vI iv]), ((a 8), aJ G 24 DK)] s.heap.size)) (F0 m 0 ls []) by rw [hHe, hLe] at hgo; exact hgo
  rw [← hHe] at hP
  have hS : va_S A s.heap H locs := by rw [hHe, hLe]; exact hS
  clear hHe hLe
  refine lv_aload_n hx hb dX7_block_0 rfl (lv_at hl 0 rfl) ?_
  refine lv_iconst (v := iI 0) hx hb dX7_block_1 rfl ?_
  refine z_put (ws' := [(o0, ob 7 [vI 0, .ref (a 1), .ref (a 2), .ref (a 3), .ref (a 4), .ref (a 5), vI mk, .ref (a 7), .ref (a 8), vI bl, .ref (a 10), vI hm, vI rc, .ref (a 13), .ref (a 14), .ref (a 15), vI lk, vI lg, vI kp, vI fi, vI lo, vI wt, .ref (a 22), .ref (a 23), .ref (a 24), .ref (a 25), .ref (a 26), vI gr, .ref (a 28), .ref (a 29), vI eb, vI ec, vI ef, vI iv]), ((a 8), aJ G 24 DK)]) hC hK hP hD hS inX7 tyX7 tyX7_ok nmX7 rfl 0 rfl 0 (by decide) tw_792 rfl rfl rfl (Nat.le_of_ble_eq_true rfl) rfl dX7_block_2 (fun H locs hP hD hS => ?_)
  refine lv_aload_n hx hb dX7_block_5 rfl (lv_at hl 0 rfl) ?_
  refine z_get (v := vI bl) hC hK hP inX7 rfl 0 rfl 9 (by decide) tw_801 rfl dX7_block_6 ?_
  refine lv_bipush (v := iI 24) hx hb dX7_block_9 (by decide) ?_
  refine z_icmp_ne (tgt := 16) hx hb dX7_block_11 (by decide) (by omega) (fun c_11 => ?_) (fun c_11 => ?_)
  · refine lv_aload_n hx hb dX7_block_16 rfl (lv_at hl 0 rfl) ?_
    refine z_get (v := .ref (a 8)) hC hK hP inX7 rfl 0 rfl 8 (by decide) tw_800 rfl dX7_block_17 ?_
    refine lv_aload_n hx hb dX7_block_20 rfl (lv_at hl 0 rfl) ?_
    refine z_get (v := vI bl) hC hK hP inX7 rfl 0 rfl 9 (by decide) tw_801 rfl dX7_block_21 ?_
    refine lv_lload_n hx hb dX7_block_24 rfl (lv_at hl 1 rfl) ?_
    refine z_last (ws' := [(o0, ob 7 [vI 0, .ref (a 1), .ref (a 2), .ref (a 3), .ref (a 4), .ref (a 5), vI mk, .ref (a 7), .ref (a 8), vI bl, .ref (a 10), vI hm, vI rc, .ref (a 13), .ref (a 14), .ref (a 15), vI lk, vI lg, vI kp, vI fi, vI lo, vI wt, .ref (a 22), .ref (a 23), .ref (a 24), .ref (a 25), .ref (a 26), vI gr, .ref (a 28), .ref (a 29), vI eb, vI ec, vI ef, vI iv]), ((a 8), aJ G 24 (zup DK bl v))]) hC hK hP hD hS 1 rfl (by omega) (by decide) rfl dX7_block_25 (fun H locs hP hD hS => ?_)
    refine lv_aload_n hx hb dX7_block_26 rfl (lv_at hl 0 rfl) ?_
    refine lv_dup hx hb dX7_block_27 rfl ?_
    refine z_get (v := vI bl) hC hK hP inX7 rfl 0 rfl 9 (by decide) tw_801 rfl dX7_block_28 ?_
    refine lv_iconst (v := iI 1) hx hb dX7_block_31 rfl ?_
    refine z_iadd hx hb dX7_block_32 ?_
    refine z_put (ws' := [(o0, ob 7 [vI 0, .ref (a 1), .ref (a 2), .ref (a 3), .ref (a 4), .ref (a 5), vI mk, .ref (a 7), .ref (a 8), vI (bl + 1), .ref (a 10), vI hm, vI rc, .ref (a 13), .ref (a 14), .ref (a 15), vI lk, vI lg, vI kp, vI fi, vI lo, vI wt, .ref (a 22), .ref (a 23), .ref (a 24), .ref (a 25), .ref (a 26), vI gr, .ref (a 28), .ref (a 29), vI eb, vI ec, vI ef, vI iv]), ((a 8), aJ G 24 (zup DK bl v))]) hC hK hP hD hS inX7 tyX7 tyX7_ok nmX7 rfl 0 rfl 9 (by decide) tw_801 rfl rfl rfl (Nat.le_of_ble_eq_true rfl) rfl dX7_block_33 (fun H locs hP hD hS => ?_)
    refine lv_aload_n hx hb dX7_block_36 rfl (lv_at hl 0 rfl) ?_
    refine z_get (v := vI (bl + 1)) hC hK hP inX7 rfl 0 rfl 9 (by decide) tw_801 rfl dX7_block_37 ?_
    refine lv_iconst (v := iI 1) hx hb dX7_block_40 rfl ?_
    refine z_isub hx hb dX7_block_41 ?_
    exact z_iretW hC hr hlk () hAe hP hD hS [0, 1] (by decide) rfl rfl (⟨congrArg iI (by omega), trivial⟩) dX7_block_42
  · exfalso; omega

set_option maxRecDepth 100000 in
set_option maxHeartbeats 4000000 in
theorem c_X7_change_1 (l : Launch) (G : zGt) (sz : Nat) (o0 : Nat) (a : Nat → Nat) (th mk bl hm rc lk lg kp fi lo wt gr eb ec ef iv : Int) (DK : Int → Int64) (x : Int) (v : Int64) (hbl : 0 ≤ bl ∧ bl ≤ 24) (hx : -2147483648 ≤ x ∧ x < 2147483648) (hno : ¬ (0 ≤ x ∧ x < bl)) : Met l yX7_change (Cond.code yX7_change cX7_change 6 (some .long) :: tb) ({ frames := 1, cells := 0, slots := 0, locals := 21 } : Room) (zPw G [(o0, ob 7 [vI th, .ref (a 1), .ref (a 2), .ref (a 3), .ref (a 4), .ref (a 5), vI mk, .ref (a 7), .ref (a 8), vI bl, .ref (a 10), vI hm, vI rc, .ref (a 13), .ref (a 14), .ref (a 15), vI lk, vI lg, vI kp, vI fi, vI lo, vI wt, .ref (a 22), .ref (a 23), .ref (a 24), .ref (a 25), .ref (a 26), vI gr, .ref (a 28), .ref (a 29), vI eb, vI ec, vI ef, vI iv]), ((a 8), aJ G 24 DK)] sz [.ref o0, vI x, .long v]) (va_Ql (fun (r : Int64) (u : Unit) => r = 0 ∧ True) (fun (u : Unit) t => zB G [(o0, ob 7 [vI th, .ref (a 1), .ref (a 2), .ref (a 3), .ref (a 4), .ref (a 5), vI mk, .ref (a 7), .ref (a 8), vI bl, .ref (a 10), vI hm, vI rc, .ref (a 13), .ref (a 14), .ref (a 15), vI lk, vI lg, vI kp, vI fi, vI lo, vI wt, .ref (a 22), .ref (a 23), .ref (a 24), .ref (a 25), .ref (a 26), vI gr, .ref (a 28), .ref (a 29), vI eb, vI ec, vI ef, vI iv]), ((a 8), aJ G 24 DK)] sz [(o0, ob 7 [vI 1, .ref (a 1), .ref (a 2), .ref (a 3), .ref (a 4), .ref (a 5), vI mk, .ref (a 7), .ref (a 8), vI bl, .ref (a 10), vI hm, vI rc, .ref (a 13), .ref (a 14), .ref (a 15), vI lk, vI lg, vI kp, vI fi, vI lo, vI wt, .ref (a 22), .ref (a 23), .ref (a 24), .ref (a 25), .ref (a 26), vI gr, .ref (a 28), .ref (a 29), vI eb, vI ec, vI ef, vI iv]), ((a 8), aJ G 24 DK)] t) (va_A [(o0, ob 7 [vI th, .ref (a 1), .ref (a 2), .ref (a 3), .ref (a 4), .ref (a 5), vI mk, .ref (a 7), .ref (a 8), vI bl, .ref (a 10), vI hm, vI rc, .ref (a 13), .ref (a 14), .ref (a 15), vI lk, vI lg, vI kp, vI fi, vI lo, vI wt, .ref (a 22), .ref (a 23), .ref (a 24), .ref (a 25), .ref (a 26), vI gr, .ref (a 28), .ref (a 29), vI eb, vI ec, vI ef, vI iv]), ((a 8), aJ G 24 DK)] sz)) 0 0 (va_A [(o0, ob 7 [vI th, .ref (a 1), .ref (a 2), .ref (a 3), .ref (a 4), .ref (a 5), vI mk, .ref (a 7), .ref (a 8), vI bl, .ref (a 10), vI hm, vI rc, .ref (a 13), .ref (a 14), .ref (a 15), vI lk, vI lg, vI kp, vI fi, vI lo, vI wt, .ref (a 22), .ref (a 23), .ref (a 24), .ref (a 25), .ref (a 26), vI gr, .ref (a 28), .ref (a 29), vI eb, vI ec, vI ef, vI iv]), ((a 8), aJ G 24 DK)] sz) := by
  refine Met.ofW (cc := cX7_change) (maxL := 6) (ret := (some .long)) (by decide) rfl ?_
  intro p e s m args below meth c s₁ B hml hv
  obtain ⟨rfl, hsz, hP, hK, hD0⟩ := hv
  subst hsz
  have hD := hD0.self (sz := s.heap.size)
  obtain ⟨A, hAe⟩ : ∃ A : Nat → Prop, A = va_A [(o0, ob 7 [vI th, .ref (a 1), .ref (a 2), .ref (a 3), .ref (a 4), .ref (a 5), vI mk, .ref (a 7), .ref (a 8), vI bl, .ref (a 10), vI hm, vI rc, .ref (a 13), .ref (a 14), .ref (a 15), vI lk, vI lg, vI kp, vI fi, vI lo, vI wt, .ref (a 22), .ref (a 23), .ref (a 24), .ref (a 25), .ref (a 26), vI gr, .ref (a 28), .ref (a 29), vI eb, vI ec, vI ef, vI iv]), ((a 8), aJ G 24 DK)] s.heap.size := ⟨_, rfl⟩
  rw [← hAe] at hD
  have hA : ∀ q : Nat, s.heap.size ≤ q → A q := fun q h => by rw [hAe]; exact Or.inr h
  have hS : va_S A s.heap s.heap [] := va_S.rf
  obtain ⟨hC, hr, hlk⟩ := z_begin B hml
  have hC : CallFix p m c cX7_change 6 s _ tb RX7 := hC
  have hx := hC.1
  have hb := hC.2.1
  have hl := lv_entry ([.ref o0, vI x, .long v]) (n := 6) (Nat.le_of_ble_eq_true rfl)
  rw [lg_entry_eq]
  generalize (lg_sl ([.ref o0, vI x, .long v]) ++ List.replicate (6 - (lg_sl ([.ref o0, vI x, .long v])).length) Slot.unset).toArray = ls at hl ⊢
  have hl : lv_has ls 6 [(0, .ref o0), (1, vI x), (2, .long v)] := hl
  obtain ⟨H, hHe⟩ : ∃ H : Heap, H = s.heap := ⟨_, rfl⟩
  obtain ⟨locs, hLe⟩ : ∃ L : List Loc, L = [] := ⟨_, rfl⟩
  suffices hgo : W p l e (headSpec (Cond.code yX7_change cX7_change 6 (some .long) :: tb) ({ frames := 1, cells := 0, slots := 0, locals := 21 } : Room)).room s m ([.ref o0, vI x, .long v] : List Value).toArray below meth c H locs 0 0 (MQ below (va_Ql (fun (r : Int64) (u : Unit) => r = 0 ∧ True) (fun (u : Unit) t => zB G [(o0, ob 7 [vI th, .ref (a 1), .ref (a 2), .ref (a 3), .ref (a 4), .ref (a 5), vI mk, .ref (a 7), .ref (a 8), vI bl, .ref (a 10), vI hm, vI rc, .ref (a 13), .ref (a 14), .ref (a 15), vI lk, vI lg, vI kp, vI fi, vI lo, vI wt, .ref (a 22), .ref (a 23), .ref (a 24), .ref (a 25), .ref (a 26), vI gr, .ref (a 28), .ref (a 29), vI eb, vI ec, vI ef, vI iv]), ((a 8), aJ G 24 DK)] s.heap.size [(o0, ob 7 [vI 1, .ref (a 1), .ref (a 2), .ref (a 3), .ref (a 4), .ref (a 5), vI mk, .ref (a 7), .ref (a 8), vI bl, .ref (a 10), vI hm, vI rc, .ref (a 13), .ref (a 14), .ref (a 15), vI lk, vI lg, vI kp, vI fi, vI lo, vI wt, .ref (a 22), .ref (a 23), .ref (a 24), .ref (a 25), .ref (a 26), vI gr, .ref (a 28), .ref (a 29), vI eb, vI ec, vI ef, vI iv]), ((a 8), aJ G 24 DK)] t) (va_A [(o0, ob 7 [vI th, .ref (a 1), .ref (a 2), .ref (a 3), .ref (a 4), .ref (a 5), vI mk, .ref (a 7), .ref (a 8), vI bl, .ref (a 10), vI hm, vI rc, .ref (a 13), .ref (a 14), .ref (a 15), vI lk, vI lg, vI kp, vI fi, vI lo, vI wt, .ref (a 22), .ref (a 23), .ref (a 24), .ref (a 25), .ref (a 26), vI gr, .ref (a 28), .ref (a 29), vI eb, vI ec, vI ef, vI iv]), ((a 8), aJ G 24 DK)] s.heap.size)) ([.ref o0, vI x, .long v] : List Value).toArray s 0 0 (va_A [(o0, ob 7 [vI th, .ref (a 1), .ref (a 2), .ref (a 3), .ref (a 4), .ref (a 5), vI mk, .ref (a 7), .ref (a 8), vI bl, .ref (a 10), vI hm, vI rc, .ref (a 13), .ref (a 14), .ref (a 15), vI lk, vI lg, vI kp, vI fi, vI lo, vI wt, .ref (a 22), .ref (a 23), .ref (a 24), .ref (a 25), .ref (a 26), vI gr, .ref (a 28), .ref (a 29), vI eb, vI ec, vI ef, vI iv]), ((a 8), aJ G 24 DK)] s.heap.size)) (F0 m 0 ls []) by rw [hHe, hLe] at hgo; exact hgo
  rw [← hHe] at hP
  have hS : va_S A s.heap H locs := by rw [hHe, hLe]; exact hS
  clear hHe hLe
  refine lv_aload_n hx hb dX7_change_0 rfl (lv_at hl 0 rfl) ?_
  refine lv_iload_n hx hb dX7_change_1 rfl (lv_at hl 1 rfl) ?_
  refine z_wVi (q0 := 0) (ci := 7) (b := o0) (rest := []) (wr := [((a 8), aJ G 24 DK)]) hC hK hP hD hS hA (c_X7_isBlock_f l G H.size o0 a th mk bl hm rc lk lg kp fi lo wt gr eb ec ef iv x (by omega) (by omega) (hno)) mv_X7_isBlock tw_931 [0] [1] rfl rfl rfl rfl (by decide) rfl rfl rfl rfl hl.1 rfl (Nat.le_of_ble_eq_true rfl) ⟨rfl, rfl, Nat.le_of_ble_eq_true rfl, Nat.le_of_ble_eq_true rfl⟩ ⟨Nat.le_of_ble_eq_true rfl, Nat.le_of_ble_eq_true rfl⟩ dX7_change_2 (fun r u H locs hw hP hD hS => ?_)
  have hP : va_P G.1 vwCl [((a 8), aJ G 24 DK), (o0, ob 7 [vI 1, .ref (a 1), .ref (a 2), .ref (a 3), .ref (a 4), .ref (a 5), vI mk, .ref (a 7), .ref (a 8), vI bl, .ref (a 10), vI hm, vI rc, .ref (a 13), .ref (a 14), .ref (a 15), vI lk, vI lg, vI kp, vI fi, vI lo, vI wt, .ref (a 22), .ref (a 23), .ref (a 24), .ref (a 25), .ref (a 26), vI gr, .ref (a 28), .ref (a 29), vI eb, vI ec, vI ef, vI iv])] H := hP
  have hD : va_D A [((a 8), aJ G 24 DK), (o0, ob 7 [vI 1, .ref (a 1), .ref (a 2), .ref (a 3), .ref (a 4), .ref (a 5), vI mk, .ref (a 7), .ref (a 8), vI bl, .ref (a 10), vI hm, vI rc, .ref (a 13), .ref (a 14), .ref (a 15), vI lk, vI lg, vI kp, vI fi, vI lo, vI wt, .ref (a 22), .ref (a 23), .ref (a 24), .ref (a 25), .ref (a 26), vI gr, .ref (a 28), .ref (a 29), vI eb, vI ec, vI ef, vI iv])] := hD
  obtain ⟨hrw_, hw_1⟩ := hw
  rw [hrw_]
  clear hrw_
  clear hw_1
  refine z_if_ne (tgt := 10) hx hb dX7_change_5 (by decide) (by omega) (fun c_5 => ?_) (fun c_5 => ?_)
  · exact absurd c_5 (by decide)
  · refine lv_lconst (v := 0) hx hb dX7_change_8 rfl ?_
    exact z_lretW hC hr hlk () hAe hP hD hS [1, 0] (by decide) rfl rfl (⟨rfl, trivial⟩) dX7_change_9

set_option maxRecDepth 100000 in
set_option maxHeartbeats 4000000 in
theorem c_X7_change_0 (l : Launch) (G : zGt) (sz : Nat) (o0 : Nat) (a : Nat → Nat) (th mk bl hm rc lk lg kp fi lo wt gr eb ec ef iv : Int) (DK : Int → Int64) (x : Int) (v : Int64) (hbl : 0 ≤ bl ∧ bl ≤ 24) (hx : 0 ≤ x ∧ x < bl) : Met l yX7_change (Cond.code yX7_change cX7_change 6 (some .long) :: tb) ({ frames := 1, cells := 0, slots := 0, locals := 21 } : Room) (zPw G [(o0, ob 7 [vI th, .ref (a 1), .ref (a 2), .ref (a 3), .ref (a 4), .ref (a 5), vI mk, .ref (a 7), .ref (a 8), vI bl, .ref (a 10), vI hm, vI rc, .ref (a 13), .ref (a 14), .ref (a 15), vI lk, vI lg, vI kp, vI fi, vI lo, vI wt, .ref (a 22), .ref (a 23), .ref (a 24), .ref (a 25), .ref (a 26), vI gr, .ref (a 28), .ref (a 29), vI eb, vI ec, vI ef, vI iv]), ((a 8), aJ G 24 DK)] sz [.ref o0, vI x, .long v]) (va_Ql (fun (r : Int64) (u : Unit) => r = (DK x) ∧ True) (fun (u : Unit) t => zB G [(o0, ob 7 [vI th, .ref (a 1), .ref (a 2), .ref (a 3), .ref (a 4), .ref (a 5), vI mk, .ref (a 7), .ref (a 8), vI bl, .ref (a 10), vI hm, vI rc, .ref (a 13), .ref (a 14), .ref (a 15), vI lk, vI lg, vI kp, vI fi, vI lo, vI wt, .ref (a 22), .ref (a 23), .ref (a 24), .ref (a 25), .ref (a 26), vI gr, .ref (a 28), .ref (a 29), vI eb, vI ec, vI ef, vI iv]), ((a 8), aJ G 24 DK)] sz [(o0, ob 7 [vI 0, .ref (a 1), .ref (a 2), .ref (a 3), .ref (a 4), .ref (a 5), vI mk, .ref (a 7), .ref (a 8), vI bl, .ref (a 10), vI hm, vI rc, .ref (a 13), .ref (a 14), .ref (a 15), vI lk, vI lg, vI kp, vI fi, vI lo, vI wt, .ref (a 22), .ref (a 23), .ref (a 24), .ref (a 25), .ref (a 26), vI gr, .ref (a 28), .ref (a 29), vI eb, vI ec, vI ef, vI iv]), ((a 8), aJ G 24 (zup DK x v))] t) (va_A [(o0, ob 7 [vI th, .ref (a 1), .ref (a 2), .ref (a 3), .ref (a 4), .ref (a 5), vI mk, .ref (a 7), .ref (a 8), vI bl, .ref (a 10), vI hm, vI rc, .ref (a 13), .ref (a 14), .ref (a 15), vI lk, vI lg, vI kp, vI fi, vI lo, vI wt, .ref (a 22), .ref (a 23), .ref (a 24), .ref (a 25), .ref (a 26), vI gr, .ref (a 28), .ref (a 29), vI eb, vI ec, vI ef, vI iv]), ((a 8), aJ G 24 DK)] sz)) 0 0 (va_A [(o0, ob 7 [vI th, .ref (a 1), .ref (a 2), .ref (a 3), .ref (a 4), .ref (a 5), vI mk, .ref (a 7), .ref (a 8), vI bl, .ref (a 10), vI hm, vI rc, .ref (a 13), .ref (a 14), .ref (a 15), vI lk, vI lg, vI kp, vI fi, vI lo, vI wt, .ref (a 22), .ref (a 23), .ref (a 24), .ref (a 25), .ref (a 26), vI gr, .ref (a 28), .ref (a 29), vI eb, vI ec, vI ef, vI iv]), ((a 8), aJ G 24 DK)] sz) := by
  refine Met.ofW (cc := cX7_change) (maxL := 6) (ret := (some .long)) (by decide) rfl ?_
  intro p e s m args below meth c s₁ B hml hv
  obtain ⟨rfl, hsz, hP, hK, hD0⟩ := hv
  subst hsz
  have hD := hD0.self (sz := s.heap.size)
  obtain ⟨A, hAe⟩ : ∃ A : Nat → Prop, A = va_A [(o0, ob 7 [vI th, .ref (a 1), .ref (a 2), .ref (a 3), .ref (a 4), .ref (a 5), vI mk, .ref (a 7), .ref (a 8), vI bl, .ref (a 10), vI hm, vI rc, .ref (a 13), .ref (a 14), .ref (a 15), vI lk, vI lg, vI kp, vI fi, vI lo, vI wt, .ref (a 22), .ref (a 23), .ref (a 24), .ref (a 25), .ref (a 26), vI gr, .ref (a 28), .ref (a 29), vI eb, vI ec, vI ef, vI iv]), ((a 8), aJ G 24 DK)] s.heap.size := ⟨_, rfl⟩
  rw [← hAe] at hD
  have hA : ∀ q : Nat, s.heap.size ≤ q → A q := fun q h => by rw [hAe]; exact Or.inr h
  have hS : va_S A s.heap s.heap [] := va_S.rf
  obtain ⟨hC, hr, hlk⟩ := z_begin B hml
  have hC : CallFix p m c cX7_change 6 s _ tb RX7 := hC
  have hx := hC.1
  have hb := hC.2.1
  have hl := lv_entry ([.ref o0, vI x, .long v]) (n := 6) (Nat.le_of_ble_eq_true rfl)
  rw [lg_entry_eq]
  generalize (lg_sl ([.ref o0, vI x, .long v]) ++ List.replicate (6 - (lg_sl ([.ref o0, vI x, .long v])).length) Slot.unset).toArray = ls at hl ⊢
  have hl : lv_has ls 6 [(0, .ref o0), (1, vI x), (2, .long v)] := hl
  obtain ⟨H, hHe⟩ : ∃ H : Heap, H = s.heap := ⟨_, rfl⟩
  obtain ⟨locs, hLe⟩ : ∃ L : List Loc, L = [] := ⟨_, rfl⟩
  suffices hgo : W p l e (headSpec (Cond.code yX7_change cX7_change 6 (some .long) :: tb) ({ frames := 1, cells := 0, slots := 0, locals := 21 } : Room)).room s m ([.ref o0, vI x, .long v] : List Value).toArray below meth c H locs 0 0 (MQ below (va_Ql (fun (r : Int64) (u : Unit) => r = (DK x) ∧ True) (fun (u : Unit) t => zB G [(o0, ob 7 [vI th, .ref (a 1), .ref (a 2), .ref (a 3), .ref (a 4), .ref (a 5), vI mk, .ref (a 7), .ref (a 8), vI bl, .ref (a 10), vI hm, vI rc, .ref (a 13), .ref (a 14), .ref (a 15), vI lk, vI lg, vI kp, vI fi, vI lo, vI wt, .ref (a 22), .ref (a 23), .ref (a 24), .ref (a 25), .ref (a 26), vI gr, .ref (a 28), .ref (a 29), vI eb, vI ec, vI ef, vI iv]), ((a 8), aJ G 24 DK)] s.heap.size [(o0, ob 7 [vI 0, .ref (a 1), .ref (a 2), .ref (a 3), .ref (a 4), .ref (a 5), vI mk, .ref (a 7), .ref (a 8), vI bl, .ref (a 10), vI hm, vI rc, .ref (a 13), .ref (a 14), .ref (a 15), vI lk, vI lg, vI kp, vI fi, vI lo, vI wt, .ref (a 22), .ref (a 23), .ref (a 24), .ref (a 25), .ref (a 26), vI gr, .ref (a 28), .ref (a 29), vI eb, vI ec, vI ef, vI iv]), ((a 8), aJ G 24 (zup DK x v))] t) (va_A [(o0, ob 7 [vI th, .ref (a 1), .ref (a 2), .ref (a 3), .ref (a 4), .ref (a 5), vI mk, .ref (a 7), .ref (a 8), vI bl, .ref (a 10), vI hm, vI rc, .ref (a 13), .ref (a 14), .ref (a 15), vI lk, vI lg, vI kp, vI fi, vI lo, vI wt, .ref (a 22), .ref (a 23), .ref (a 24), .ref (a 25), .ref (a 26), vI gr, .ref (a 28), .ref (a 29), vI eb, vI ec, vI ef, vI iv]), ((a 8), aJ G 24 DK)] s.heap.size)) ([.ref o0, vI x, .long v] : List Value).toArray s 0 0 (va_A [(o0, ob 7 [vI th, .ref (a 1), .ref (a 2), .ref (a 3), .ref (a 4), .ref (a 5), vI mk, .ref (a 7), .ref (a 8), vI bl, .ref (a 10), vI hm, vI rc, .ref (a 13), .ref (a 14), .ref (a 15), vI lk, vI lg, vI kp, vI fi, vI lo, vI wt, .ref (a 22), .ref (a 23), .ref (a 24), .ref (a 25), .ref (a 26), vI gr, .ref (a 28), .ref (a 29), vI eb, vI ec, vI ef, vI iv]), ((a 8), aJ G 24 DK)] s.heap.size)) (F0 m 0 ls []) by rw [hHe, hLe] at hgo; exact hgo
  rw [← hHe] at hP
  have hS : va_S A s.heap H locs := by rw [hHe, hLe]; exact hS
  clear hHe hLe
  refine lv_aload_n hx hb dX7_change_0 rfl (lv_at hl 0 rfl) ?_
  refine lv_iload_n hx hb dX7_change_1 rfl (lv_at hl 1 rfl) ?_
  refine z_wVi (q0 := 0) (ci := 7) (b := o0) (rest := []) (wr := [((a 8), aJ G 24 DK)]) hC hK hP hD hS hA (c_X7_isBlock_t l G H.size o0 a th mk bl hm rc lk lg kp fi lo wt gr eb ec ef iv x (by omega) (by omega)) mv_X7_isBlock tw_931 [0] [1] rfl rfl rfl rfl (by decide) rfl rfl rfl rfl hl.1 rfl (Nat.le_of_ble_eq_true rfl) ⟨rfl, rfl, Nat.le_of_ble_eq_true rfl, Nat.le_of_ble_eq_true rfl⟩ ⟨Nat.le_of_ble_eq_true rfl, Nat.le_of_ble_eq_true rfl⟩ dX7_change_2 (fun r u H locs hw hP hD hS => ?_)
  have hP : va_P G.1 vwCl [((a 8), aJ G 24 DK), (o0, ob 7 [vI 0, .ref (a 1), .ref (a 2), .ref (a 3), .ref (a 4), .ref (a 5), vI mk, .ref (a 7), .ref (a 8), vI bl, .ref (a 10), vI hm, vI rc, .ref (a 13), .ref (a 14), .ref (a 15), vI lk, vI lg, vI kp, vI fi, vI lo, vI wt, .ref (a 22), .ref (a 23), .ref (a 24), .ref (a 25), .ref (a 26), vI gr, .ref (a 28), .ref (a 29), vI eb, vI ec, vI ef, vI iv])] H := hP
  have hD : va_D A [((a 8), aJ G 24 DK), (o0, ob 7 [vI 0, .ref (a 1), .ref (a 2), .ref (a 3), .ref (a 4), .ref (a 5), vI mk, .ref (a 7), .ref (a 8), vI bl, .ref (a 10), vI hm, vI rc, .ref (a 13), .ref (a 14), .ref (a 15), vI lk, vI lg, vI kp, vI fi, vI lo, vI wt, .ref (a 22), .ref (a 23), .ref (a 24), .ref (a 25), .ref (a 26), vI gr, .ref (a 28), .ref (a 29), vI eb, vI ec, vI ef, vI iv])] := hD
  obtain ⟨hrw_, hw_1⟩ := hw
  rw [hrw_]
  clear hrw_
  clear hw_1
  refine z_if_ne (tgt := 10) hx hb dX7_change_5 (by decide) (by omega) (fun c_5 => ?_) (fun c_5 => ?_)
  · refine lv_aload_n hx hb dX7_change_10 rfl (lv_at hl 0 rfl) ?_
    refine z_get (v := .ref (a 8)) hC hK hP inX7 rfl 1 rfl 8 (by decide) tw_800 rfl dX7_change_11 ?_
    refine lv_iload_n hx hb dX7_change_14 rfl (lv_at hl 1 rfl) ?_
    refine z_lald hC hK hP 0 rfl (by omega) (by decide) dX7_change_15 ?_
    refine lv_lstore (lv' := [(4, .long (DK x)), (0, .ref o0), (1, vI x), (2, .long v)]) hx hb dX7_change_16 hl (by decide) rfl (fun ls hl => ?_)
    refine lv_aload_n hx hb dX7_change_18 rfl (lv_at hl 1 rfl) ?_
    refine z_get (v := .ref (a 8)) hC hK hP inX7 rfl 1 rfl 8 (by decide) tw_800 rfl dX7_change_19 ?_
    refine lv_iload_n hx hb dX7_change_22 rfl (lv_at hl 2 rfl) ?_
    refine lv_lload_n hx hb dX7_change_23 rfl (lv_at hl 3 rfl) ?_
    refine z_last (ws' := [((a 8), aJ G 24 (zup DK x v)), (o0, ob 7 [vI 0, .ref (a 1), .ref (a 2), .ref (a 3), .ref (a 4), .ref (a 5), vI mk, .ref (a 7), .ref (a 8), vI bl, .ref (a 10), vI hm, vI rc, .ref (a 13), .ref (a 14), .ref (a 15), vI lk, vI lg, vI kp, vI fi, vI lo, vI wt, .ref (a 22), .ref (a 23), .ref (a 24), .ref (a 25), .ref (a 26), vI gr, .ref (a 28), .ref (a 29), vI eb, vI ec, vI ef, vI iv])]) hC hK hP hD hS 0 rfl (by omega) (by decide) rfl dX7_change_24 (fun H locs hP hD hS => ?_)
    refine lv_lload hx hb dX7_change_25 (lv_at hl 0 rfl) ?_
    exact z_lretW hC hr hlk () hAe hP hD hS [1, 0] (by decide) rfl rfl (⟨rfl, trivial⟩) dX7_change_27
  · exact absurd c_5 (by decide)

set_option maxRecDepth 100000 in
set_option maxHeartbeats 4000000 in
theorem c_X7_bytes_1 (l : Launch) (G : zGt) (sz : Nat) (o0 : Nat) (a : Nat → Nat) (th mk bl hm rc lk lg kp fi lo wt gr eb ec ef iv : Int) (DK : Int → Int64) (x : Int) (hbl : 0 ≤ bl ∧ bl ≤ 24) (hx : -2147483648 ≤ x ∧ x < 2147483648) (hno : ¬ (0 ≤ x ∧ x < bl)) : Met l yX7_bytes (Cond.code yX7_bytes cX7_bytes 2 (some .long) :: tb) ({ frames := 1, cells := 0, slots := 0, locals := 21 } : Room) (zPw G [(o0, ob 7 [vI th, .ref (a 1), .ref (a 2), .ref (a 3), .ref (a 4), .ref (a 5), vI mk, .ref (a 7), .ref (a 8), vI bl, .ref (a 10), vI hm, vI rc, .ref (a 13), .ref (a 14), .ref (a 15), vI lk, vI lg, vI kp, vI fi, vI lo, vI wt, .ref (a 22), .ref (a 23), .ref (a 24), .ref (a 25), .ref (a 26), vI gr, .ref (a 28), .ref (a 29), vI eb, vI ec, vI ef, vI iv]), ((a 8), aJ G 24 DK)] sz [.ref o0, vI x]) (va_Ql (fun (r : Int64) (u : Unit) => r = 0 ∧ True) (fun (u : Unit) t => zB G [(o0, ob 7 [vI th, .ref (a 1), .ref (a 2), .ref (a 3), .ref (a 4), .ref (a 5), vI mk, .ref (a 7), .ref (a 8), vI bl, .ref (a 10), vI hm, vI rc, .ref (a 13), .ref (a 14), .ref (a 15), vI lk, vI lg, vI kp, vI fi, vI lo, vI wt, .ref (a 22), .ref (a 23), .ref (a 24), .ref (a 25), .ref (a 26), vI gr, .ref (a 28), .ref (a 29), vI eb, vI ec, vI ef, vI iv]), ((a 8), aJ G 24 DK)] sz [(o0, ob 7 [vI 1, .ref (a 1), .ref (a 2), .ref (a 3), .ref (a 4), .ref (a 5), vI mk, .ref (a 7), .ref (a 8), vI bl, .ref (a 10), vI hm, vI rc, .ref (a 13), .ref (a 14), .ref (a 15), vI lk, vI lg, vI kp, vI fi, vI lo, vI wt, .ref (a 22), .ref (a 23), .ref (a 24), .ref (a 25), .ref (a 26), vI gr, .ref (a 28), .ref (a 29), vI eb, vI ec, vI ef, vI iv]), ((a 8), aJ G 24 DK)] t) (va_A [(o0, ob 7 [vI th, .ref (a 1), .ref (a 2), .ref (a 3), .ref (a 4), .ref (a 5), vI mk, .ref (a 7), .ref (a 8), vI bl, .ref (a 10), vI hm, vI rc, .ref (a 13), .ref (a 14), .ref (a 15), vI lk, vI lg, vI kp, vI fi, vI lo, vI wt, .ref (a 22), .ref (a 23), .ref (a 24), .ref (a 25), .ref (a 26), vI gr, .ref (a 28), .ref (a 29), vI eb, vI ec, vI ef, vI iv]), ((a 8), aJ G 24 DK)] sz)) 0 0 (va_A [(o0, ob 7 [vI th, .ref (a 1), .ref (a 2), .ref (a 3), .ref (a 4), .ref (a 5), vI mk, .ref (a 7), .ref (a 8), vI bl, .ref (a 10), vI hm, vI rc, .ref (a 13), .ref (a 14), .ref (a 15), vI lk, vI lg, vI kp, vI fi, vI lo, vI wt, .ref (a 22), .ref (a 23), .ref (a 24), .ref (a 25), .ref (a 26), vI gr, .ref (a 28), .ref (a 29), vI eb, vI ec, vI ef, vI iv]), ((a 8), aJ G 24 DK)] sz) := by
  refine Met.ofW (cc := cX7_bytes) (maxL := 2) (ret := (some .long)) (by decide) rfl ?_
  intro p e s m args below meth c s₁ B hml hv
  obtain ⟨rfl, hsz, hP, hK, hD0⟩ := hv
  subst hsz
  have hD := hD0.self (sz := s.heap.size)
  obtain ⟨A, hAe⟩ : ∃ A : Nat → Prop, A = va_A [(o0, ob 7 [vI th, .ref (a 1), .ref (a 2), .ref (a 3), .ref (a 4), .ref (a 5), vI mk, .ref (a 7), .ref (a 8), vI bl, .ref (a 10), vI hm, vI rc, .ref (a 13), .ref (a 14), .ref (a 15), vI lk, vI lg, vI kp, vI fi, vI lo, vI wt, .ref (a 22), .ref (a 23), .ref (a 24), .ref (a 25), .ref (a 26), vI gr, .ref (a 28), .ref (a 29), vI eb, vI ec, vI ef, vI iv]), ((a 8), aJ G 24 DK)] s.heap.size := ⟨_, rfl⟩
  rw [← hAe] at hD
  have hA : ∀ q : Nat, s.heap.size ≤ q → A q := fun q h => by rw [hAe]; exact Or.inr h
  have hS : va_S A s.heap s.heap [] := va_S.rf
  obtain ⟨hC, hr, hlk⟩ := z_begin B hml
  have hC : CallFix p m c cX7_bytes 2 s _ tb RX7 := hC
  have hx := hC.1
  have hb := hC.2.1
  have hl := lv_entry ([.ref o0, vI x]) (n := 2) (Nat.le_of_ble_eq_true rfl)
  rw [lg_entry_eq]
  generalize (lg_sl ([.ref o0, vI x]) ++ List.replicate (2 - (lg_sl ([.ref o0, vI x])).length) Slot.unset).toArray = ls at hl ⊢
  have hl : lv_has ls 2 [(0, .ref o0), (1, vI x)] := hl
  obtain ⟨H, hHe⟩ : ∃ H : Heap, H = s.heap := ⟨_, rfl⟩
  obtain ⟨locs, hLe⟩ : ∃ L : List Loc, L = [] := ⟨_, rfl⟩
  suffices hgo : W p l e (headSpec (Cond.code yX7_bytes cX7_bytes 2 (some .long) :: tb) ({ frames := 1, cells := 0, slots := 0, locals := 21 } : Room)).room s m ([.ref o0, vI x] : List Value).toArray below meth c H locs 0 0 (MQ below (va_Ql (fun (r : Int64) (u : Unit) => r = 0 ∧ True) (fun (u : Unit) t => zB G [(o0, ob 7 [vI th, .ref (a 1), .ref (a 2), .ref (a 3), .ref (a 4), .ref (a 5), vI mk, .ref (a 7), .ref (a 8), vI bl, .ref (a 10), vI hm, vI rc, .ref (a 13), .ref (a 14), .ref (a 15), vI lk, vI lg, vI kp, vI fi, vI lo, vI wt, .ref (a 22), .ref (a 23), .ref (a 24), .ref (a 25), .ref (a 26), vI gr, .ref (a 28), .ref (a 29), vI eb, vI ec, vI ef, vI iv]), ((a 8), aJ G 24 DK)] s.heap.size [(o0, ob 7 [vI 1, .ref (a 1), .ref (a 2), .ref (a 3), .ref (a 4), .ref (a 5), vI mk, .ref (a 7), .ref (a 8), vI bl, .ref (a 10), vI hm, vI rc, .ref (a 13), .ref (a 14), .ref (a 15), vI lk, vI lg, vI kp, vI fi, vI lo, vI wt, .ref (a 22), .ref (a 23), .ref (a 24), .ref (a 25), .ref (a 26), vI gr, .ref (a 28), .ref (a 29), vI eb, vI ec, vI ef, vI iv]), ((a 8), aJ G 24 DK)] t) (va_A [(o0, ob 7 [vI th, .ref (a 1), .ref (a 2), .ref (a 3), .ref (a 4), .ref (a 5), vI mk, .ref (a 7), .ref (a 8), vI bl, .ref (a 10), vI hm, vI rc, .ref (a 13), .ref (a 14), .ref (a 15), vI lk, vI lg, vI kp, vI fi, vI lo, vI wt, .ref (a 22), .ref (a 23), .ref (a 24), .ref (a 25), .ref (a 26), vI gr, .ref (a 28), .ref (a 29), vI eb, vI ec, vI ef, vI iv]), ((a 8), aJ G 24 DK)] s.heap.size)) ([.ref o0, vI x] : List Value).toArray s 0 0 (va_A [(o0, ob 7 [vI th, .ref (a 1), .ref (a 2), .ref (a 3), .ref (a 4), .ref (a 5), vI mk, .ref (a 7), .ref (a 8), vI bl, .ref (a 10), vI hm, vI rc, .ref (a 13), .ref (a 14), .ref (a 15), vI lk, vI lg, vI kp, vI fi, vI lo, vI wt, .ref (a 22), .ref (a 23), .ref (a 24), .ref (a 25), .ref (a 26), vI gr, .ref (a 28), .ref (a 29), vI eb, vI ec, vI ef, vI iv]), ((a 8), aJ G 24 DK)] s.heap.size)) (F0 m 0 ls []) by rw [hHe, hLe] at hgo; exact hgo
  rw [← hHe] at hP
  have hS : va_S A s.heap H locs := by rw [hHe, hLe]; exact hS
  clear hHe hLe
  refine lv_aload_n hx hb dX7_bytes_0 rfl (lv_at hl 0 rfl) ?_
  refine lv_iload_n hx hb dX7_bytes_1 rfl (lv_at hl 1 rfl) ?_
  refine z_wVi (q0 := 0) (ci := 7) (b := o0) (rest := []) (wr := [((a 8), aJ G 24 DK)]) hC hK hP hD hS hA (c_X7_isBlock_f l G H.size o0 a th mk bl hm rc lk lg kp fi lo wt gr eb ec ef iv x (by omega) (by omega) (hno)) mv_X7_isBlock tw_931 [0] [1] rfl rfl rfl rfl (by decide) rfl rfl rfl rfl hl.1 rfl (Nat.le_of_ble_eq_true rfl) ⟨rfl, rfl, Nat.le_of_ble_eq_true rfl, Nat.le_of_ble_eq_true rfl⟩ ⟨Nat.le_of_ble_eq_true rfl, Nat.le_of_ble_eq_true rfl⟩ dX7_bytes_2 (fun r u H locs hw hP hD hS => ?_)
  have hP : va_P G.1 vwCl [((a 8), aJ G 24 DK), (o0, ob 7 [vI 1, .ref (a 1), .ref (a 2), .ref (a 3), .ref (a 4), .ref (a 5), vI mk, .ref (a 7), .ref (a 8), vI bl, .ref (a 10), vI hm, vI rc, .ref (a 13), .ref (a 14), .ref (a 15), vI lk, vI lg, vI kp, vI fi, vI lo, vI wt, .ref (a 22), .ref (a 23), .ref (a 24), .ref (a 25), .ref (a 26), vI gr, .ref (a 28), .ref (a 29), vI eb, vI ec, vI ef, vI iv])] H := hP
  have hD : va_D A [((a 8), aJ G 24 DK), (o0, ob 7 [vI 1, .ref (a 1), .ref (a 2), .ref (a 3), .ref (a 4), .ref (a 5), vI mk, .ref (a 7), .ref (a 8), vI bl, .ref (a 10), vI hm, vI rc, .ref (a 13), .ref (a 14), .ref (a 15), vI lk, vI lg, vI kp, vI fi, vI lo, vI wt, .ref (a 22), .ref (a 23), .ref (a 24), .ref (a 25), .ref (a 26), vI gr, .ref (a 28), .ref (a 29), vI eb, vI ec, vI ef, vI iv])] := hD
  obtain ⟨hrw_, hw_1⟩ := hw
  rw [hrw_]
  clear hrw_
  clear hw_1
  refine z_if_eq (tgt := 17) hx hb dX7_bytes_5 (by decide) (by omega) (fun c_5 => ?_) (fun c_5 => ?_)
  · refine lv_lconst (v := 0) hx hb dX7_bytes_17 rfl ?_
    exact z_lretW hC hr hlk () hAe hP hD hS [1, 0] (by decide) rfl rfl (⟨rfl, trivial⟩) dX7_bytes_18
  · exact absurd c_5 (by decide)

set_option maxRecDepth 100000 in
set_option maxHeartbeats 4000000 in
theorem c_X7_bytes_0 (l : Launch) (G : zGt) (sz : Nat) (o0 : Nat) (a : Nat → Nat) (th mk bl hm rc lk lg kp fi lo wt gr eb ec ef iv : Int) (DK : Int → Int64) (x : Int) (hbl : 0 ≤ bl ∧ bl ≤ 24) (hx : 0 ≤ x ∧ x < bl) : Met l yX7_bytes (Cond.code yX7_bytes cX7_bytes 2 (some .long) :: tb) ({ frames := 1, cells := 0, slots := 0, locals := 21 } : Room) (zPw G [(o0, ob 7 [vI th, .ref (a 1), .ref (a 2), .ref (a 3), .ref (a 4), .ref (a 5), vI mk, .ref (a 7), .ref (a 8), vI bl, .ref (a 10), vI hm, vI rc, .ref (a 13), .ref (a 14), .ref (a 15), vI lk, vI lg, vI kp, vI fi, vI lo, vI wt, .ref (a 22), .ref (a 23), .ref (a 24), .ref (a 25), .ref (a 26), vI gr, .ref (a 28), .ref (a 29), vI eb, vI ec, vI ef, vI iv]), ((a 8), aJ G 24 DK)] sz [.ref o0, vI x]) (va_Ql (fun (r : Int64) (u : Unit) => r = (DK x) ∧ True) (fun (u : Unit) t => zB G [(o0, ob 7 [vI th, .ref (a 1), .ref (a 2), .ref (a 3), .ref (a 4), .ref (a 5), vI mk, .ref (a 7), .ref (a 8), vI bl, .ref (a 10), vI hm, vI rc, .ref (a 13), .ref (a 14), .ref (a 15), vI lk, vI lg, vI kp, vI fi, vI lo, vI wt, .ref (a 22), .ref (a 23), .ref (a 24), .ref (a 25), .ref (a 26), vI gr, .ref (a 28), .ref (a 29), vI eb, vI ec, vI ef, vI iv]), ((a 8), aJ G 24 DK)] sz [(o0, ob 7 [vI 0, .ref (a 1), .ref (a 2), .ref (a 3), .ref (a 4), .ref (a 5), vI mk, .ref (a 7), .ref (a 8), vI bl, .ref (a 10), vI hm, vI rc, .ref (a 13), .ref (a 14), .ref (a 15), vI lk, vI lg, vI kp, vI fi, vI lo, vI wt, .ref (a 22), .ref (a 23), .ref (a 24), .ref (a 25), .ref (a 26), vI gr, .ref (a 28), .ref (a 29), vI eb, vI ec, vI ef, vI iv]), ((a 8), aJ G 24 DK)] t) (va_A [(o0, ob 7 [vI th, .ref (a 1), .ref (a 2), .ref (a 3), .ref (a 4), .ref (a 5), vI mk, .ref (a 7), .ref (a 8), vI bl, .ref (a 10), vI hm, vI rc, .ref (a 13), .ref (a 14), .ref (a 15), vI lk, vI lg, vI kp, vI fi, vI lo, vI wt, .ref (a 22), .ref (a 23), .ref (a 24), .ref (a 25), .ref (a 26), vI gr, .ref (a 28), .ref (a 29), vI eb, vI ec, vI ef, vI iv]), ((a 8), aJ G 24 DK)] sz)) 0 0 (va_A [(o0, ob 7 [vI th, .ref (a 1), .ref (a 2), .ref (a 3), .ref (a 4), .ref (a 5), vI mk, .ref (a 7), .ref (a 8), vI bl, .ref (a 10), vI hm, vI rc, .ref (a 13), .ref (a 14), .ref (a 15), vI lk, vI lg, vI kp, vI fi, vI lo, vI wt, .ref (a 22), .ref (a 23), .ref (a 24), .ref (a 25), .ref (a 26), vI gr, .ref (a 28), .ref (a 29), vI eb, vI ec, vI ef, vI iv]), ((a 8), aJ G 24 DK)] sz) := by
  refine Met.ofW (cc := cX7_bytes) (maxL := 2) (ret := (some .long)) (by decide) rfl ?_
  intro p e s m args below meth c s₁ B hml hv
  obtain ⟨rfl, hsz, hP, hK, hD0⟩ := hv
  subst hsz
  have hD := hD0.self (sz := s.heap.size)
  obtain ⟨A, hAe⟩ : ∃ A : Nat → Prop, A = va_A [(o0, ob 7 [vI th, .ref (a 1), .ref (a 2), .ref (a 3), .ref (a 4), .ref (a 5), vI mk, .ref (a 7), .ref (a 8), vI bl, .ref (a 10), vI hm, vI rc, .ref (a 13), .ref (a 14), .ref (a 15), vI lk, vI lg, vI kp, vI fi, vI lo, vI wt, .ref (a 22), .ref (a 23), .ref (a 24), .ref (a 25), .ref (a 26), vI gr, .ref (a 28), .ref (a 29), vI eb, vI ec, vI ef, vI iv]), ((a 8), aJ G 24 DK)] s.heap.size := ⟨_, rfl⟩
  rw [← hAe] at hD
  have hA : ∀ q : Nat, s.heap.size ≤ q → A q := fun q h => by rw [hAe]; exact Or.inr h
  have hS : va_S A s.heap s.heap [] := va_S.rf
  obtain ⟨hC, hr, hlk⟩ := z_begin B hml
  have hC : CallFix p m c cX7_bytes 2 s _ tb RX7 := hC
  have hx := hC.1
  have hb := hC.2.1
  have hl := lv_entry ([.ref o0, vI x]) (n := 2) (Nat.le_of_ble_eq_true rfl)
  rw [lg_entry_eq]
  generalize (lg_sl ([.ref o0, vI x]) ++ List.replicate (2 - (lg_sl ([.ref o0, vI x])).length) Slot.unset).toArray = ls at hl ⊢
  have hl : lv_has ls 2 [(0, .ref o0), (1, vI x)] := hl
  obtain ⟨H, hHe⟩ : ∃ H : Heap, H = s.heap := ⟨_, rfl⟩
  obtain ⟨locs, hLe⟩ : ∃ L : List Loc, L = [] := ⟨_, rfl⟩
  suffices hgo : W p l e (headSpec (Cond.code yX7_bytes cX7_bytes 2 (some .long) :: tb) ({ frames := 1, cells := 0, slots := 0, locals := 21 } : Room)).room s m ([.ref o0, vI x] : List Value).toArray below meth c H locs 0 0 (MQ below (va_Ql (fun (r : Int64) (u : Unit) => r = (DK x) ∧ True) (fun (u : Unit) t => zB G [(o0, ob 7 [vI th, .ref (a 1), .ref (a 2), .ref (a 3), .ref (a 4), .ref (a 5), vI mk, .ref (a 7), .ref (a 8), vI bl, .ref (a 10), vI hm, vI rc, .ref (a 13), .ref (a 14), .ref (a 15), vI lk, vI lg, vI kp, vI fi, vI lo, vI wt, .ref (a 22), .ref (a 23), .ref (a 24), .ref (a 25), .ref (a 26), vI gr, .ref (a 28), .ref (a 29), vI eb, vI ec, vI ef, vI iv]), ((a 8), aJ G 24 DK)] s.heap.size [(o0, ob 7 [vI 0, .ref (a 1), .ref (a 2), .ref (a 3), .ref (a 4), .ref (a 5), vI mk, .ref (a 7), .ref (a 8), vI bl, .ref (a 10), vI hm, vI rc, .ref (a 13), .ref (a 14), .ref (a 15), vI lk, vI lg, vI kp, vI fi, vI lo, vI wt, .ref (a 22), .ref (a 23), .ref (a 24), .ref (a 25), .ref (a 26), vI gr, .ref (a 28), .ref (a 29), vI eb, vI ec, vI ef, vI iv]), ((a 8), aJ G 24 DK)] t) (va_A [(o0, ob 7 [vI th, .ref (a 1), .ref (a 2), .ref (a 3), .ref (a 4), .ref (a 5), vI mk, .ref (a 7), .ref (a 8), vI bl, .ref (a 10), vI hm, vI rc, .ref (a 13), .ref (a 14), .ref (a 15), vI lk, vI lg, vI kp, vI fi, vI lo, vI wt, .ref (a 22), .ref (a 23), .ref (a 24), .ref (a 25), .ref (a 26), vI gr, .ref (a 28), .ref (a 29), vI eb, vI ec, vI ef, vI iv]), ((a 8), aJ G 24 DK)] s.heap.size)) ([.ref o0, vI x] : List Value).toArray s 0 0 (va_A [(o0, ob 7 [vI th, .ref (a 1), .ref (a 2), .ref (a 3), .ref (a 4), .ref (a 5), vI mk, .ref (a 7), .ref (a 8), vI bl, .ref (a 10), vI hm, vI rc, .ref (a 13), .ref (a 14), .ref (a 15), vI lk, vI lg, vI kp, vI fi, vI lo, vI wt, .ref (a 22), .ref (a 23), .ref (a 24), .ref (a 25), .ref (a 26), vI gr, .ref (a 28), .ref (a 29), vI eb, vI ec, vI ef, vI iv]), ((a 8), aJ G 24 DK)] s.heap.size)) (F0 m 0 ls []) by rw [hHe, hLe] at hgo; exact hgo
  rw [← hHe] at hP
  have hS : va_S A s.heap H locs := by rw [hHe, hLe]; exact hS
  clear hHe hLe
  refine lv_aload_n hx hb dX7_bytes_0 rfl (lv_at hl 0 rfl) ?_
  refine lv_iload_n hx hb dX7_bytes_1 rfl (lv_at hl 1 rfl) ?_
  refine z_wVi (q0 := 0) (ci := 7) (b := o0) (rest := []) (wr := [((a 8), aJ G 24 DK)]) hC hK hP hD hS hA (c_X7_isBlock_t l G H.size o0 a th mk bl hm rc lk lg kp fi lo wt gr eb ec ef iv x (by omega) (by omega)) mv_X7_isBlock tw_931 [0] [1] rfl rfl rfl rfl (by decide) rfl rfl rfl rfl hl.1 rfl (Nat.le_of_ble_eq_true rfl) ⟨rfl, rfl, Nat.le_of_ble_eq_true rfl, Nat.le_of_ble_eq_true rfl⟩ ⟨Nat.le_of_ble_eq_true rfl, Nat.le_of_ble_eq_true rfl⟩ dX7_bytes_2 (fun r u H locs hw hP hD hS => ?_)
  have hP : va_P G.1 vwCl [((a 8), aJ G 24 DK), (o0, ob 7 [vI 0, .ref (a 1), .ref (a 2), .ref (a 3), .ref (a 4), .ref (a 5), vI mk, .ref (a 7), .ref (a 8), vI bl, .ref (a 10), vI hm, vI rc, .ref (a 13), .ref (a 14), .ref (a 15), vI lk, vI lg, vI kp, vI fi, vI lo, vI wt, .ref (a 22), .ref (a 23), .ref (a 24), .ref (a 25), .ref (a 26), vI gr, .ref (a 28), .ref (a 29), vI eb, vI ec, vI ef, vI iv])] H := hP
  have hD : va_D A [((a 8), aJ G 24 DK), (o0, ob 7 [vI 0, .ref (a 1), .ref (a 2), .ref (a 3), .ref (a 4), .ref (a 5), vI mk, .ref (a 7), .ref (a 8), vI bl, .ref (a 10), vI hm, vI rc, .ref (a 13), .ref (a 14), .ref (a 15), vI lk, vI lg, vI kp, vI fi, vI lo, vI wt, .ref (a 22), .ref (a 23), .ref (a 24), .ref (a 25), .ref (a 26), vI gr, .ref (a 28), .ref (a 29), vI eb, vI ec, vI ef, vI iv])] := hD
  obtain ⟨hrw_, hw_1⟩ := hw
  rw [hrw_]
  clear hrw_
  clear hw_1
  refine z_if_eq (tgt := 17) hx hb dX7_bytes_5 (by decide) (by omega) (fun c_5 => ?_) (fun c_5 => ?_)
  · exact absurd c_5 (by decide)
  · refine lv_aload_n hx hb dX7_bytes_8 rfl (lv_at hl 0 rfl) ?_
    refine z_get (v := .ref (a 8)) hC hK hP inX7 rfl 1 rfl 8 (by decide) tw_800 rfl dX7_bytes_9 ?_
    refine lv_iload_n hx hb dX7_bytes_12 rfl (lv_at hl 1 rfl) ?_
    refine z_lald hC hK hP 0 rfl (by omega) (by decide) dX7_bytes_13 ?_
    refine lv_goto (tgt := 18) hx hb dX7_bytes_14 (by decide) ?_
    exact z_lretW hC hr hlk () hAe hP hD hS [1, 0] (by decide) rfl rfl (⟨rfl, trivial⟩) dX7_bytes_18

set_option maxRecDepth 100000 in
set_option maxHeartbeats 4000000 in
theorem c_X7_reach_1 (l : Launch) (G : zGt) (sz : Nat) (o0 : Nat) (a : Nat → Nat) (th mk bl hm rc lk lg kp fi lo wt gr eb ec ef iv : Int) (x : Int) (hx : -2147483648 ≤ x ∧ x < 2147483648) (hno : ¬ (1 ≤ x ∧ x ≤ 23)) : Met l yX7_reach (Cond.code yX7_reach cX7_reach 3 (some .int) :: tb) ({ frames := 1, cells := 0, slots := 0, locals := 22 } : Room) (zPw G [(o0, ob 7 [vI th, .ref (a 1), .ref (a 2), .ref (a 3), .ref (a 4), .ref (a 5), vI mk, .ref (a 7), .ref (a 8), vI bl, .ref (a 10), vI hm, vI rc, .ref (a 13), .ref (a 14), .ref (a 15), vI lk, vI lg, vI kp, vI fi, vI lo, vI wt, .ref (a 22), .ref (a 23), .ref (a 24), .ref (a 25), .ref (a 26), vI gr, .ref (a 28), .ref (a 29), vI eb, vI ec, vI ef, vI iv])] sz [.ref o0, vI x]) (va_Qi (fun (r : Int32) (u : Unit) => r = iI 0 ∧ True) (fun (u : Unit) t => zB G [(o0, ob 7 [vI th, .ref (a 1), .ref (a 2), .ref (a 3), .ref (a 4), .ref (a 5), vI mk, .ref (a 7), .ref (a 8), vI bl, .ref (a 10), vI hm, vI rc, .ref (a 13), .ref (a 14), .ref (a 15), vI lk, vI lg, vI kp, vI fi, vI lo, vI wt, .ref (a 22), .ref (a 23), .ref (a 24), .ref (a 25), .ref (a 26), vI gr, .ref (a 28), .ref (a 29), vI eb, vI ec, vI ef, vI iv])] sz [(o0, ob 7 [vI 1, .ref (a 1), .ref (a 2), .ref (a 3), .ref (a 4), .ref (a 5), vI mk, .ref (a 7), .ref (a 8), vI bl, .ref (a 10), vI hm, vI rc, .ref (a 13), .ref (a 14), .ref (a 15), vI lk, vI lg, vI kp, vI fi, vI lo, vI wt, .ref (a 22), .ref (a 23), .ref (a 24), .ref (a 25), .ref (a 26), vI gr, .ref (a 28), .ref (a 29), vI eb, vI ec, vI ef, vI iv])] t) (va_A [(o0, ob 7 [vI th, .ref (a 1), .ref (a 2), .ref (a 3), .ref (a 4), .ref (a 5), vI mk, .ref (a 7), .ref (a 8), vI bl, .ref (a 10), vI hm, vI rc, .ref (a 13), .ref (a 14), .ref (a 15), vI lk, vI lg, vI kp, vI fi, vI lo, vI wt, .ref (a 22), .ref (a 23), .ref (a 24), .ref (a 25), .ref (a 26), vI gr, .ref (a 28), .ref (a 29), vI eb, vI ec, vI ef, vI iv])] sz)) 0 0 (va_A [(o0, ob 7 [vI th, .ref (a 1), .ref (a 2), .ref (a 3), .ref (a 4), .ref (a 5), vI mk, .ref (a 7), .ref (a 8), vI bl, .ref (a 10), vI hm, vI rc, .ref (a 13), .ref (a 14), .ref (a 15), vI lk, vI lg, vI kp, vI fi, vI lo, vI wt, .ref (a 22), .ref (a 23), .ref (a 24), .ref (a 25), .ref (a 26), vI gr, .ref (a 28), .ref (a 29), vI eb, vI ec, vI ef, vI iv])] sz) := by
  refine Met.ofW (cc := cX7_reach) (maxL := 3) (ret := (some .int)) (by decide) rfl ?_
  intro p e s m args below meth c s₁ B hml hv
  obtain ⟨rfl, hsz, hP, hK, hD0⟩ := hv
  subst hsz
  have hD := hD0.self (sz := s.heap.size)
  obtain ⟨A, hAe⟩ : ∃ A : Nat → Prop, A = va_A [(o0, ob 7 [vI th, .ref (a 1), .ref (a 2), .ref (a 3), .ref (a 4), .ref (a 5), vI mk, .ref (a 7), .ref (a 8), vI bl, .ref (a 10), vI hm, vI rc, .ref (a 13), .ref (a 14), .ref (a 15), vI lk, vI lg, vI kp, vI fi, vI lo, vI wt, .ref (a 22), .ref (a 23), .ref (a 24), .ref (a 25), .ref (a 26), vI gr, .ref (a 28), .ref (a 29), vI eb, vI ec, vI ef, vI iv])] s.heap.size := ⟨_, rfl⟩
  rw [← hAe] at hD
  have hA : ∀ q : Nat, s.heap.size ≤ q → A q := fun q h => by rw [hAe]; exact Or.inr h
  have hS : va_S A s.heap s.heap [] := va_S.rf
  obtain ⟨hC, hr, hlk⟩ := z_begin B hml
  have hC : CallFix p m c cX7_reach 3 s _ tb RX7 := hC
  have hx := hC.1
  have hb := hC.2.1
  have hl := lv_entry ([.ref o0, vI x]) (n := 3) (Nat.le_of_ble_eq_true rfl)
  rw [lg_entry_eq]
  generalize (lg_sl ([.ref o0, vI x]) ++ List.replicate (3 - (lg_sl ([.ref o0, vI x])).length) Slot.unset).toArray = ls at hl ⊢
  have hl : lv_has ls 3 [(0, .ref o0), (1, vI x)] := hl
  obtain ⟨H, hHe⟩ : ∃ H : Heap, H = s.heap := ⟨_, rfl⟩
  obtain ⟨locs, hLe⟩ : ∃ L : List Loc, L = [] := ⟨_, rfl⟩
  suffices hgo : W p l e (headSpec (Cond.code yX7_reach cX7_reach 3 (some .int) :: tb) ({ frames := 1, cells := 0, slots := 0, locals := 22 } : Room)).room s m ([.ref o0, vI x] : List Value).toArray below meth c H locs 0 0 (MQ below (va_Qi (fun (r : Int32) (u : Unit) => r = iI 0 ∧ True) (fun (u : Unit) t => zB G [(o0, ob 7 [vI th, .ref (a 1), .ref (a 2), .ref (a 3), .ref (a 4), .ref (a 5), vI mk, .ref (a 7), .ref (a 8), vI bl, .ref (a 10), vI hm, vI rc, .ref (a 13), .ref (a 14), .ref (a 15), vI lk, vI lg, vI kp, vI fi, vI lo, vI wt, .ref (a 22), .ref (a 23), .ref (a 24), .ref (a 25), .ref (a 26), vI gr, .ref (a 28), .ref (a 29), vI eb, vI ec, vI ef, vI iv])] s.heap.size [(o0, ob 7 [vI 1, .ref (a 1), .ref (a 2), .ref (a 3), .ref (a 4), .ref (a 5), vI mk, .ref (a 7), .ref (a 8), vI bl, .ref (a 10), vI hm, vI rc, .ref (a 13), .ref (a 14), .ref (a 15), vI lk, vI lg, vI kp, vI fi, vI lo, vI wt, .ref (a 22), .ref (a 23), .ref (a 24), .ref (a 25), .ref (a 26), vI gr, .ref (a 28), .ref (a 29), vI eb, vI ec, vI ef, vI iv])] t) (va_A [(o0, ob 7 [vI th, .ref (a 1), .ref (a 2), .ref (a 3), .ref (a 4), .ref (a 5), vI mk, .ref (a 7), .ref (a 8), vI bl, .ref (a 10), vI hm, vI rc, .ref (a 13), .ref (a 14), .ref (a 15), vI lk, vI lg, vI kp, vI fi, vI lo, vI wt, .ref (a 22), .ref (a 23), .ref (a 24), .ref (a 25), .ref (a 26), vI gr, .ref (a 28), .ref (a 29), vI eb, vI ec, vI ef, vI iv])] s.heap.size)) ([.ref o0, vI x] : List Value).toArray s 0 0 (va_A [(o0, ob 7 [vI th, .ref (a 1), .ref (a 2), .ref (a 3), .ref (a 4), .ref (a 5), vI mk, .ref (a 7), .ref (a 8), vI bl, .ref (a 10), vI hm, vI rc, .ref (a 13), .ref (a 14), .ref (a 15), vI lk, vI lg, vI kp, vI fi, vI lo, vI wt, .ref (a 22), .ref (a 23), .ref (a 24), .ref (a 25), .ref (a 26), vI gr, .ref (a 28), .ref (a 29), vI eb, vI ec, vI ef, vI iv])] s.heap.size)) (F0 m 0 ls []) by rw [hHe, hLe] at hgo; exact hgo
  rw [← hHe] at hP
  have hS : va_S A s.heap H locs := by rw [hHe, hLe]; exact hS
  clear hHe hLe
  refine lv_aload_n hx hb dX7_reach_0 rfl (lv_at hl 0 rfl) ?_
  refine lv_iconst (v := iI 0) hx hb dX7_reach_1 rfl ?_
  refine z_put (ws' := [(o0, ob 7 [vI 0, .ref (a 1), .ref (a 2), .ref (a 3), .ref (a 4), .ref (a 5), vI mk, .ref (a 7), .ref (a 8), vI bl, .ref (a 10), vI hm, vI rc, .ref (a 13), .ref (a 14), .ref (a 15), vI lk, vI lg, vI kp, vI fi, vI lo, vI wt, .ref (a 22), .ref (a 23), .ref (a 24), .ref (a 25), .ref (a 26), vI gr, .ref (a 28), .ref (a 29), vI eb, vI ec, vI ef, vI iv])]) hC hK hP hD hS inX7 tyX7 tyX7_ok nmX7 rfl 0 rfl 0 (by decide) tw_792 rfl rfl rfl (Nat.le_of_ble_eq_true rfl) rfl dX7_reach_2 (fun H locs hP hD hS => ?_)
  refine lv_aload_n hx hb dX7_reach_5 rfl (lv_at hl 0 rfl) ?_
  refine lv_iload_n hx hb dX7_reach_6 rfl (lv_at hl 1 rfl) ?_
  refine lv_iconst (v := iI 1) hx hb dX7_reach_7 rfl ?_
  refine z_icmp_lt (tgt := 17) hx hb dX7_reach_8 (by decide) (by omega) (fun c_8 => ?_) (fun c_8 => ?_)
  · refine lv_iconst (v := iI 1) hx hb dX7_reach_17 rfl ?_
    refine lv_goto (tgt := 22) hx hb dX7_reach_18 (by decide) ?_
    refine lv_iconst (v := iI 1) hx hb dX7_reach_22 rfl ?_
    refine z_wVi (q0 := 0) (ci := 7) (b := o0) (rest := []) (wr := []) hC hK hP hD hS hA (c_X7_bad_1 l G H.size o0 a 0 mk bl hm rc lk lg kp fi lo wt gr eb ec ef iv 1) mv_X7_bad tw_906 [0] [] rfl rfl rfl rfl (by decide) rfl rfl rfl rfl hl.1 rfl (Nat.le_of_ble_eq_true rfl) ⟨rfl, rfl, Nat.le_of_ble_eq_true rfl, Nat.le_of_ble_eq_true rfl⟩ ⟨Nat.le_of_ble_eq_true rfl, Nat.le_of_ble_eq_true rfl⟩ dX7_reach_23 (fun r u H locs hw hP hD hS => ?_)
    have hP : va_P G.1 vwCl [(o0, ob 7 [vI 1, .ref (a 1), .ref (a 2), .ref (a 3), .ref (a 4), .ref (a 5), vI mk, .ref (a 7), .ref (a 8), vI bl, .ref (a 10), vI hm, vI rc, .ref (a 13), .ref (a 14), .ref (a 15), vI lk, vI lg, vI kp, vI fi, vI lo, vI wt, .ref (a 22), .ref (a 23), .ref (a 24), .ref (a 25), .ref (a 26), vI gr, .ref (a 28), .ref (a 29), vI eb, vI ec, vI ef, vI iv])] H := hP
    have hD : va_D A [(o0, ob 7 [vI 1, .ref (a 1), .ref (a 2), .ref (a 3), .ref (a 4), .ref (a 5), vI mk, .ref (a 7), .ref (a 8), vI bl, .ref (a 10), vI hm, vI rc, .ref (a 13), .ref (a 14), .ref (a 15), vI lk, vI lg, vI kp, vI fi, vI lo, vI wt, .ref (a 22), .ref (a 23), .ref (a 24), .ref (a 25), .ref (a 26), vI gr, .ref (a 28), .ref (a 29), vI eb, vI ec, vI ef, vI iv])] := hD
    obtain ⟨hrw_, hw_1⟩ := hw
    rw [hrw_]
    clear hrw_
    clear hw_1
    refine z_if_eq (tgt := 31) hx hb dX7_reach_26 (by decide) (by omega) (fun c_26 => ?_) (fun c_26 => ?_)
    · exact absurd c_26 (by decide)
    · refine lv_iconst (v := iI 0) hx hb dX7_reach_29 rfl ?_
      exact z_iretW hC hr hlk () hAe hP hD hS [0] (by decide) rfl rfl (⟨rfl, trivial⟩) dX7_reach_30
  · refine lv_iload_n hx hb dX7_reach_11 rfl (lv_at hl 1 rfl) ?_
    refine lv_bipush (v := iI 23) hx hb dX7_reach_12 (by decide) ?_
    refine z_icmp_le (tgt := 21) hx hb dX7_reach_14 (by decide) (by omega) (fun c_14 => ?_) (fun c_14 => ?_)
    · exfalso; omega
    · refine lv_iconst (v := iI 1) hx hb dX7_reach_17 rfl ?_
      refine lv_goto (tgt := 22) hx hb dX7_reach_18 (by decide) ?_
      refine lv_iconst (v := iI 1) hx hb dX7_reach_22 rfl ?_
      refine z_wVi (q0 := 0) (ci := 7) (b := o0) (rest := []) (wr := []) hC hK hP hD hS hA (c_X7_bad_1 l G H.size o0 a 0 mk bl hm rc lk lg kp fi lo wt gr eb ec ef iv 1) mv_X7_bad tw_906 [0] [] rfl rfl rfl rfl (by decide) rfl rfl rfl rfl hl.1 rfl (Nat.le_of_ble_eq_true rfl) ⟨rfl, rfl, Nat.le_of_ble_eq_true rfl, Nat.le_of_ble_eq_true rfl⟩ ⟨Nat.le_of_ble_eq_true rfl, Nat.le_of_ble_eq_true rfl⟩ dX7_reach_23 (fun r u H locs hw hP hD hS => ?_)
      have hP : va_P G.1 vwCl [(o0, ob 7 [vI 1, .ref (a 1), .ref (a 2), .ref (a 3), .ref (a 4), .ref (a 5), vI mk, .ref (a 7), .ref (a 8), vI bl, .ref (a 10), vI hm, vI rc, .ref (a 13), .ref (a 14), .ref (a 15), vI lk, vI lg, vI kp, vI fi, vI lo, vI wt, .ref (a 22), .ref (a 23), .ref (a 24), .ref (a 25), .ref (a 26), vI gr, .ref (a 28), .ref (a 29), vI eb, vI ec, vI ef, vI iv])] H := hP
      have hD : va_D A [(o0, ob 7 [vI 1, .ref (a 1), .ref (a 2), .ref (a 3), .ref (a 4), .ref (a 5), vI mk, .ref (a 7), .ref (a 8), vI bl, .ref (a 10), vI hm, vI rc, .ref (a 13), .ref (a 14), .ref (a 15), vI lk, vI lg, vI kp, vI fi, vI lo, vI wt, .ref (a 22), .ref (a 23), .ref (a 24), .ref (a 25), .ref (a 26), vI gr, .ref (a 28), .ref (a 29), vI eb, vI ec, vI ef, vI iv])] := hD
      obtain ⟨hrw_, hw_2⟩ := hw
      rw [hrw_]
      clear hrw_
      clear hw_2
      refine z_if_eq (tgt := 31) hx hb dX7_reach_26 (by decide) (by omega) (fun c_26 => ?_) (fun c_26 => ?_)
      · exact absurd c_26 (by decide)
      · refine lv_iconst (v := iI 0) hx hb dX7_reach_29 rfl ?_
        exact z_iretW hC hr hlk () hAe hP hD hS [0] (by decide) rfl rfl (⟨rfl, trivial⟩) dX7_reach_30

set_option maxRecDepth 100000 in
set_option maxHeartbeats 4000000 in
theorem c_X7_reach_0 (l : Launch) (G : zGt) (sz : Nat) (o0 : Nat) (a : Nat → Nat) (th mk bl hm rc lk lg kp fi lo wt gr eb ec ef iv : Int) (x : Int) (hx : 1 ≤ x ∧ x ≤ 23) : Met l yX7_reach (Cond.code yX7_reach cX7_reach 3 (some .int) :: tb) ({ frames := 1, cells := 0, slots := 0, locals := 22 } : Room) (zPw G [(o0, ob 7 [vI th, .ref (a 1), .ref (a 2), .ref (a 3), .ref (a 4), .ref (a 5), vI mk, .ref (a 7), .ref (a 8), vI bl, .ref (a 10), vI hm, vI rc, .ref (a 13), .ref (a 14), .ref (a 15), vI lk, vI lg, vI kp, vI fi, vI lo, vI wt, .ref (a 22), .ref (a 23), .ref (a 24), .ref (a 25), .ref (a 26), vI gr, .ref (a 28), .ref (a 29), vI eb, vI ec, vI ef, vI iv])] sz [.ref o0, vI x]) (va_Qi (fun (r : Int32) (u : Unit) => r = iI rc ∧ True) (fun (u : Unit) t => zB G [(o0, ob 7 [vI th, .ref (a 1), .ref (a 2), .ref (a 3), .ref (a 4), .ref (a 5), vI mk, .ref (a 7), .ref (a 8), vI bl, .ref (a 10), vI hm, vI rc, .ref (a 13), .ref (a 14), .ref (a 15), vI lk, vI lg, vI kp, vI fi, vI lo, vI wt, .ref (a 22), .ref (a 23), .ref (a 24), .ref (a 25), .ref (a 26), vI gr, .ref (a 28), .ref (a 29), vI eb, vI ec, vI ef, vI iv])] sz [(o0, ob 7 [vI 0, .ref (a 1), .ref (a 2), .ref (a 3), .ref (a 4), .ref (a 5), vI mk, .ref (a 7), .ref (a 8), vI bl, .ref (a 10), vI hm, vI x, .ref (a 13), .ref (a 14), .ref (a 15), vI lk, vI lg, vI kp, vI fi, vI lo, vI wt, .ref (a 22), .ref (a 23), .ref (a 24), .ref (a 25), .ref (a 26), vI gr, .ref (a 28), .ref (a 29), vI eb, vI ec, vI ef, vI iv])] t) (va_A [(o0, ob 7 [vI th, .ref (a 1), .ref (a 2), .ref (a 3), .ref (a 4), .ref (a 5), vI mk, .ref (a 7), .ref (a 8), vI bl, .ref (a 10), vI hm, vI rc, .ref (a 13), .ref (a 14), .ref (a 15), vI lk, vI lg, vI kp, vI fi, vI lo, vI wt, .ref (a 22), .ref (a 23), .ref (a 24), .ref (a 25), .ref (a 26), vI gr, .ref (a 28), .ref (a 29), vI eb, vI ec, vI ef, vI iv])] sz)) 0 0 (va_A [(o0, ob 7 [vI th, .ref (a 1), .ref (a 2), .ref (a 3), .ref (a 4), .ref (a 5), vI mk, .ref (a 7), .ref (a 8), vI bl, .ref (a 10), vI hm, vI rc, .ref (a 13), .ref (a 14), .ref (a 15), vI lk, vI lg, vI kp, vI fi, vI lo, vI wt, .ref (a 22), .ref (a 23), .ref (a 24), .ref (a 25), .ref (a 26), vI gr, .ref (a 28), .ref (a 29), vI eb, vI ec, vI ef, vI iv])] sz) := by
  refine Met.ofW (cc := cX7_reach) (maxL := 3) (ret := (some .int)) (by decide) rfl ?_
  intro p e s m args below meth c s₁ B hml hv
  obtain ⟨rfl, hsz, hP, hK, hD0⟩ := hv
  subst hsz
  have hD := hD0.self (sz := s.heap.size)
  obtain ⟨A, hAe⟩ : ∃ A : Nat → Prop, A = va_A [(o0, ob 7 [vI th, .ref (a 1), .ref (a 2), .ref (a 3), .ref (a 4), .ref (a 5), vI mk, .ref (a 7), .ref (a 8), vI bl, .ref (a 10), vI hm, vI rc, .ref (a 13), .ref (a 14), .ref (a 15), vI lk, vI lg, vI kp, vI fi, vI lo, vI wt, .ref (a 22), .ref (a 23), .ref (a 24), .ref (a 25), .ref (a 26), vI gr, .ref (a 28), .ref (a 29), vI eb, vI ec, vI ef, vI iv])] s.heap.size := ⟨_, rfl⟩
  rw [← hAe] at hD
  have hA : ∀ q : Nat, s.heap.size ≤ q → A q := fun q h => by rw [hAe]; exact Or.inr h
  have hS : va_S A s.heap s.heap [] := va_S.rf
  obtain ⟨hC, hr, hlk⟩ := z_begin B hml
  have hC : CallFix p m c cX7_reach 3 s _ tb RX7 := hC
  have hx := hC.1
  have hb := hC.2.1
  have hl := lv_entry ([.ref o0, vI x]) (n := 3) (Nat.le_of_ble_eq_true rfl)
  rw [lg_entry_eq]
  generalize (lg_sl ([.ref o0, vI x]) ++ List.replicate (3 - (lg_sl ([.ref o0, vI x])).length) Slot.unset).toArray = ls at hl ⊢
  have hl : lv_has ls 3 [(0, .ref o0), (1, vI x)] := hl
  obtain ⟨H, hHe⟩ : ∃ H : Heap, H = s.heap := ⟨_, rfl⟩
  obtain ⟨locs, hLe⟩ : ∃ L : List Loc, L = [] := ⟨_, rfl⟩
  suffices hgo : W p l e (headSpec (Cond.code yX7_reach cX7_reach 3 (some .int) :: tb) ({ frames := 1, cells := 0, slots := 0, locals := 22 } : Room)).room s m ([.ref o0, vI x] : List Value).toArray below meth c H locs 0 0 (MQ below (va_Qi (fun (r : Int32) (u : Unit) => r = iI rc ∧ True) (fun (u : Unit) t => zB G [(o0, ob 7 [vI th, .ref (a 1), .ref (a 2), .ref (a 3), .ref (a 4), .ref (a 5), vI mk, .ref (a 7), .ref (a 8), vI bl, .ref (a 10), vI hm, vI rc, .ref (a 13), .ref (a 14), .ref (a 15), vI lk, vI lg, vI kp, vI fi, vI lo, vI wt, .ref (a 22), .ref (a 23), .ref (a 24), .ref (a 25), .ref (a 26), vI gr, .ref (a 28), .ref (a 29), vI eb, vI ec, vI ef, vI iv])] s.heap.size [(o0, ob 7 [vI 0, .ref (a 1), .ref (a 2), .ref (a 3), .ref (a 4), .ref (a 5), vI mk, .ref (a 7), .ref (a 8), vI bl, .ref (a 10), vI hm, vI x, .ref (a 13), .ref (a 14), .ref (a 15), vI lk, vI lg, vI kp, vI fi, vI lo, vI wt, .ref (a 22), .ref (a 23), .ref (a 24), .ref (a 25), .ref (a 26), vI gr, .ref (a 28), .ref (a 29), vI eb, vI ec, vI ef, vI iv])] t) (va_A [(o0, ob 7 [vI th, .ref (a 1), .ref (a 2), .ref (a 3), .ref (a 4), .ref (a 5), vI mk, .ref (a 7), .ref (a 8), vI bl, .ref (a 10), vI hm, vI rc, .ref (a 13), .ref (a 14), .ref (a 15), vI lk, vI lg, vI kp, vI fi, vI lo, vI wt, .ref (a 22), .ref (a 23), .ref (a 24), .ref (a 25), .ref (a 26), vI gr, .ref (a 28), .ref (a 29), vI eb, vI ec, vI ef, vI iv])] s.heap.size)) ([.ref o0, vI x] : List Value).toArray s 0 0 (va_A [(o0, ob 7 [vI th, .ref (a 1), .ref (a 2), .ref (a 3), .ref (a 4), .ref (a 5), vI mk, .ref (a 7), .ref (a 8), vI bl, .ref (a 10), vI hm, vI rc, .ref (a 13), .ref (a 14), .ref (a 15), vI lk, vI lg, vI kp, vI fi, vI lo, vI wt, .ref (a 22), .ref (a 23), .ref (a 24), .ref (a 25), .ref (a 26), vI gr, .ref (a 28), .ref (a 29), vI eb, vI ec, vI ef, vI iv])] s.heap.size)) (F0 m 0 ls []) by rw [hHe, hLe] at hgo; exact hgo
  rw [← hHe] at hP
  have hS : va_S A s.heap H locs := by rw [hHe, hLe]; exact hS
  clear hHe hLe
  refine lv_aload_n hx hb dX7_reach_0 rfl (lv_at hl 0 rfl) ?_
  refine lv_iconst (v := iI 0) hx hb dX7_reach_1 rfl ?_
  refine z_put (ws' := [(o0, ob 7 [vI 0, .ref (a 1), .ref (a 2), .ref (a 3), .ref (a 4), .ref (a 5), vI mk, .ref (a 7), .ref (a 8), vI bl, .ref (a 10), vI hm, vI rc, .ref (a 13), .ref (a 14), .ref (a 15), vI lk, vI lg, vI kp, vI fi, vI lo, vI wt, .ref (a 22), .ref (a 23), .ref (a 24), .ref (a 25), .ref (a 26), vI gr, .ref (a 28), .ref (a 29), vI eb, vI ec, vI ef, vI iv])]) hC hK hP hD hS inX7 tyX7 tyX7_ok nmX7 rfl 0 rfl 0 (by decide) tw_792 rfl rfl rfl (Nat.le_of_ble_eq_true rfl) rfl dX7_reach_2 (fun H locs hP hD hS => ?_)
  refine lv_aload_n hx hb dX7_reach_5 rfl (lv_at hl 0 rfl) ?_
  refine lv_iload_n hx hb dX7_reach_6 rfl (lv_at hl 1 rfl) ?_
  refine lv_iconst (v := iI 1) hx hb dX7_reach_7 rfl ?_
  refine z_icmp_lt (tgt := 17) hx hb dX7_reach_8 (by decide) (by omega) (fun c_8 => ?_) (fun c_8 => ?_)
  · exfalso; omega
  · refine lv_iload_n hx hb dX7_reach_11 rfl (lv_at hl 1 rfl) ?_
    refine lv_bipush (v := iI 23) hx hb dX7_reach_12 (by decide) ?_
    refine z_icmp_le (tgt := 21) hx hb dX7_reach_14 (by decide) (by omega) (fun c_14 => ?_) (fun c_14 => ?_)
    · refine lv_iconst (v := iI 0) hx hb dX7_reach_21 rfl ?_
      refine lv_iconst (v := iI 1) hx hb dX7_reach_22 rfl ?_
      refine z_wVi (q0 := 0) (ci := 7) (b := o0) (rest := []) (wr := []) hC hK hP hD hS hA (c_X7_bad_0 l G H.size o0 a 0 mk bl hm rc lk lg kp fi lo wt gr eb ec ef iv 1) mv_X7_bad tw_906 [0] [] rfl rfl rfl rfl (by decide) rfl rfl rfl rfl hl.1 rfl (Nat.le_of_ble_eq_true rfl) ⟨rfl, rfl, Nat.le_of_ble_eq_true rfl, Nat.le_of_ble_eq_true rfl⟩ ⟨Nat.le_of_ble_eq_true rfl, Nat.le_of_ble_eq_true rfl⟩ dX7_reach_23 (fun r u H locs hw hP hD hS => ?_)
      have hP : va_P G.1 vwCl [(o0, ob 7 [vI 0, .ref (a 1), .ref (a 2), .ref (a 3), .ref (a 4), .ref (a 5), vI mk, .ref (a 7), .ref (a 8), vI bl, .ref (a 10), vI hm, vI rc, .ref (a 13), .ref (a 14), .ref (a 15), vI lk, vI lg, vI kp, vI fi, vI lo, vI wt, .ref (a 22), .ref (a 23), .ref (a 24), .ref (a 25), .ref (a 26), vI gr, .ref (a 28), .ref (a 29), vI eb, vI ec, vI ef, vI iv])] H := hP
      have hD : va_D A [(o0, ob 7 [vI 0, .ref (a 1), .ref (a 2), .ref (a 3), .ref (a 4), .ref (a 5), vI mk, .ref (a 7), .ref (a 8), vI bl, .ref (a 10), vI hm, vI rc, .ref (a 13), .ref (a 14), .ref (a 15), vI lk, vI lg, vI kp, vI fi, vI lo, vI wt, .ref (a 22), .ref (a 23), .ref (a 24), .ref (a 25), .ref (a 26), vI gr, .ref (a 28), .ref (a 29), vI eb, vI ec, vI ef, vI iv])] := hD
      obtain ⟨hrw_, hw_1⟩ := hw
      rw [hrw_]
      clear hrw_
      clear hw_1
      refine z_if_eq (tgt := 31) hx hb dX7_reach_26 (by decide) (by omega) (fun c_26 => ?_) (fun c_26 => ?_)
      · refine lv_aload_n hx hb dX7_reach_31 rfl (lv_at hl 0 rfl) ?_
        refine z_get (v := vI rc) hC hK hP inX7 rfl 0 rfl 12 (by decide) tw_804 rfl dX7_reach_32 ?_
        refine lv_istore_n (lv' := [(2, vI rc), (0, .ref o0), (1, vI x)]) hx hb dX7_reach_35 rfl hl (by decide) rfl (fun ls hl => ?_)
        refine lv_aload_n hx hb dX7_reach_36 rfl (lv_at hl 1 rfl) ?_
        refine lv_iload_n hx hb dX7_reach_37 rfl (lv_at hl 2 rfl) ?_
        refine z_put (ws' := [(o0, ob 7 [vI 0, .ref (a 1), .ref (a 2), .ref (a 3), .ref (a 4), .ref (a 5), vI mk, .ref (a 7), .ref (a 8), vI bl, .ref (a 10), vI hm, vI x, .ref (a 13), .ref (a 14), .ref (a 15), vI lk, vI lg, vI kp, vI fi, vI lo, vI wt, .ref (a 22), .ref (a 23), .ref (a 24), .ref (a 25), .ref (a 26), vI gr, .ref (a 28), .ref (a 29), vI eb, vI ec, vI ef, vI iv])]) hC hK hP hD hS inX7 tyX7 tyX7_ok nmX7 rfl 0 rfl 12 (by decide) tw_804 rfl rfl rfl (Nat.le_of_ble_eq_true rfl) rfl dX7_reach_38 (fun H locs hP hD hS => ?_)
        refine lv_iload_n hx hb dX7_reach_41 rfl (lv_at hl 0 rfl) ?_
        exact z_iretW hC hr hlk () hAe hP hD hS [0] (by decide) rfl rfl (⟨rfl, trivial⟩) dX7_reach_42
      · exact absurd c_26 (by decide)
    · exfalso; omega

set_option maxRecDepth 100000 in
set_option maxHeartbeats 4000000 in
theorem c_X7_push_1 (l : Launch) (G : zGt) (sz : Nat) (o0 : Nat) (a : Nat → Nat) (th mk bl hm rc lk lg kp fi lo wt gr eb ec ef iv : Int) (x : Int) (hx : -2147483648 ≤ x ∧ x < 2147483648) (hno : ¬ (0 ≤ x ∧ x < 256)) : Met l yX7_push (Cond.code yX7_push cX7_push 2 (some .int) :: tb) ({ frames := 1, cells := 0, slots := 0, locals := 22 } : Room) (zPw G [(o0, ob 7 [vI th, .ref (a 1), .ref (a 2), .ref (a 3), .ref (a 4), .ref (a 5), vI mk, .ref (a 7), .ref (a 8), vI bl, .ref (a 10), vI hm, vI rc, .ref (a 13), .ref (a 14), .ref (a 15), vI lk, vI lg, vI kp, vI fi, vI lo, vI wt, .ref (a 22), .ref (a 23), .ref (a 24), .ref (a 25), .ref (a 26), vI gr, .ref (a 28), .ref (a 29), vI eb, vI ec, vI ef, vI iv])] sz [.ref o0, vI x]) (va_Qi (fun (r : Int32) (u : Unit) => r = iI 0 ∧ True) (fun (u : Unit) t => zB G [(o0, ob 7 [vI th, .ref (a 1), .ref (a 2), .ref (a 3), .ref (a 4), .ref (a 5), vI mk, .ref (a 7), .ref (a 8), vI bl, .ref (a 10), vI hm, vI rc, .ref (a 13), .ref (a 14), .ref (a 15), vI lk, vI lg, vI kp, vI fi, vI lo, vI wt, .ref (a 22), .ref (a 23), .ref (a 24), .ref (a 25), .ref (a 26), vI gr, .ref (a 28), .ref (a 29), vI eb, vI ec, vI ef, vI iv])] sz [(o0, ob 7 [vI 1, .ref (a 1), .ref (a 2), .ref (a 3), .ref (a 4), .ref (a 5), vI mk, .ref (a 7), .ref (a 8), vI bl, .ref (a 10), vI hm, vI rc, .ref (a 13), .ref (a 14), .ref (a 15), vI lk, vI lg, vI kp, vI fi, vI lo, vI wt, .ref (a 22), .ref (a 23), .ref (a 24), .ref (a 25), .ref (a 26), vI gr, .ref (a 28), .ref (a 29), vI eb, vI ec, vI ef, vI iv])] t) (va_A [(o0, ob 7 [vI th, .ref (a 1), .ref (a 2), .ref (a 3), .ref (a 4), .ref (a 5), vI mk, .ref (a 7), .ref (a 8), vI bl, .ref (a 10), vI hm, vI rc, .ref (a 13), .ref (a 14), .ref (a 15), vI lk, vI lg, vI kp, vI fi, vI lo, vI wt, .ref (a 22), .ref (a 23), .ref (a 24), .ref (a 25), .ref (a 26), vI gr, .ref (a 28), .ref (a 29), vI eb, vI ec, vI ef, vI iv])] sz)) 0 0 (va_A [(o0, ob 7 [vI th, .ref (a 1), .ref (a 2), .ref (a 3), .ref (a 4), .ref (a 5), vI mk, .ref (a 7), .ref (a 8), vI bl, .ref (a 10), vI hm, vI rc, .ref (a 13), .ref (a 14), .ref (a 15), vI lk, vI lg, vI kp, vI fi, vI lo, vI wt, .ref (a 22), .ref (a 23), .ref (a 24), .ref (a 25), .ref (a 26), vI gr, .ref (a 28), .ref (a 29), vI eb, vI ec, vI ef, vI iv])] sz) := by
  refine Met.ofW (cc := cX7_push) (maxL := 2) (ret := (some .int)) (by decide) rfl ?_
  intro p e s m args below meth c s₁ B hml hv
  obtain ⟨rfl, hsz, hP, hK, hD0⟩ := hv
  subst hsz
  have hD := hD0.self (sz := s.heap.size)
  obtain ⟨A, hAe⟩ : ∃ A : Nat → Prop, A = va_A [(o0, ob 7 [vI th, .ref (a 1), .ref (a 2), .ref (a 3), .ref (a 4), .ref (a 5), vI mk, .ref (a 7), .ref (a 8), vI bl, .ref (a 10), vI hm, vI rc, .ref (a 13), .ref (a 14), .ref (a 15), vI lk, vI lg, vI kp, vI fi, vI lo, vI wt, .ref (a 22), .ref (a 23), .ref (a 24), .ref (a 25), .ref (a 26), vI gr, .ref (a 28), .ref (a 29), vI eb, vI ec, vI ef, vI iv])] s.heap.size := ⟨_, rfl⟩
  rw [← hAe] at hD
  have hA : ∀ q : Nat, s.heap.size ≤ q → A q := fun q h => by rw [hAe]; exact Or.inr h
  have hS : va_S A s.heap s.heap [] := va_S.rf
  obtain ⟨hC, hr, hlk⟩ := z_begin B hml
  have hC : CallFix p m c cX7_push 2 s _ tb RX7 := hC
  have hx := hC.1
  have hb := hC.2.1
  have hl := lv_entry ([.ref o0, vI x]) (n := 2) (Nat.le_of_ble_eq_true rfl)
  rw [lg_entry_eq]
  generalize (lg_sl ([.ref o0, vI x]) ++ List.replicate (2 - (lg_sl ([.ref o0, vI x])).length) Slot.unset).toArray = ls at hl ⊢
  have hl : lv_has ls 2 [(0, .ref o0), (1, vI x)] := hl
  obtain ⟨H, hHe⟩ : ∃ H : Heap, H = s.heap := ⟨_, rfl⟩
  obtain ⟨locs, hLe⟩ : ∃ L : List Loc, L = [] := ⟨_, rfl⟩
  suffices hgo : W p l e (headSpec (Cond.code yX7_push cX7_push 2 (some .int) :: tb) ({ frames := 1, cells := 0, slots := 0, locals := 22 } : Room)).room s m ([.ref o0, vI x] : List Value).toArray below meth c H locs 0 0 (MQ below (va_Qi (fun (r : Int32) (u : Unit) => r = iI 0 ∧ True) (fun (u : Unit) t => zB G [(o0, ob 7 [vI th, .ref (a 1), .ref (a 2), .ref (a 3), .ref (a 4), .ref (a 5), vI mk, .ref (a 7), .ref (a 8), vI bl, .ref (a 10), vI hm, vI rc, .ref (a 13), .ref (a 14), .ref (a 15), vI lk, vI lg, vI kp, vI fi, vI lo, vI wt, .ref (a 22), .ref (a 23), .ref (a 24), .ref (a 25), .ref (a 26), vI gr, .ref (a 28), .ref (a 29), vI eb, vI ec, vI ef, vI iv])] s.heap.size [(o0, ob 7 [vI 1, .ref (a 1), .ref (a 2), .ref (a 3), .ref (a 4), .ref (a 5), vI mk, .ref (a 7), .ref (a 8), vI bl, .ref (a 10), vI hm, vI rc, .ref (a 13), .ref (a 14), .ref (a 15), vI lk, vI lg, vI kp, vI fi, vI lo, vI wt, .ref (a 22), .ref (a 23), .ref (a 24), .ref (a 25), .ref (a 26), vI gr, .ref (a 28), .ref (a 29), vI eb, vI ec, vI ef, vI iv])] t) (va_A [(o0, ob 7 [vI th, .ref (a 1), .ref (a 2), .ref (a 3), .ref (a 4), .ref (a 5), vI mk, .ref (a 7), .ref (a 8), vI bl, .ref (a 10), vI hm, vI rc, .ref (a 13), .ref (a 14), .ref (a 15), vI lk, vI lg, vI kp, vI fi, vI lo, vI wt, .ref (a 22), .ref (a 23), .ref (a 24), .ref (a 25), .ref (a 26), vI gr, .ref (a 28), .ref (a 29), vI eb, vI ec, vI ef, vI iv])] s.heap.size)) ([.ref o0, vI x] : List Value).toArray s 0 0 (va_A [(o0, ob 7 [vI th, .ref (a 1), .ref (a 2), .ref (a 3), .ref (a 4), .ref (a 5), vI mk, .ref (a 7), .ref (a 8), vI bl, .ref (a 10), vI hm, vI rc, .ref (a 13), .ref (a 14), .ref (a 15), vI lk, vI lg, vI kp, vI fi, vI lo, vI wt, .ref (a 22), .ref (a 23), .ref (a 24), .ref (a 25), .ref (a 26), vI gr, .ref (a 28), .ref (a 29), vI eb, vI ec, vI ef, vI iv])] s.heap.size)) (F0 m 0 ls []) by rw [hHe, hLe] at hgo; exact hgo
  rw [← hHe] at hP
  have hS : va_S A s.heap H locs := by rw [hHe, hLe]; exact hS
  clear hHe hLe
  refine lv_aload_n hx hb dX7_push_0 rfl (lv_at hl 0 rfl) ?_
  refine lv_iconst (v := iI 0) hx hb dX7_push_1 rfl ?_
  refine z_put (ws' := [(o0, ob 7 [vI 0, .ref (a 1), .ref (a 2), .ref (a 3), .ref (a 4), .ref (a 5), vI mk, .ref (a 7), .ref (a 8), vI bl, .ref (a 10), vI hm, vI rc, .ref (a 13), .ref (a 14), .ref (a 15), vI lk, vI lg, vI kp, vI fi, vI lo, vI wt, .ref (a 22), .ref (a 23), .ref (a 24), .ref (a 25), .ref (a 26), vI gr, .ref (a 28), .ref (a 29), vI eb, vI ec, vI ef, vI iv])]) hC hK hP hD hS inX7 tyX7 tyX7_ok nmX7 rfl 0 rfl 0 (by decide) tw_792 rfl rfl rfl (Nat.le_of_ble_eq_true rfl) rfl dX7_push_2 (fun H locs hP hD hS => ?_)
  refine lv_aload_n hx hb dX7_push_5 rfl (lv_at hl 0 rfl) ?_
  refine lv_iload_n hx hb dX7_push_6 rfl (lv_at hl 1 rfl) ?_
  refine z_rSi (rest := [.ref o0]) hC hK hP (c_X7_isByte l G x (by omega)) ms_X7_isByte tw_903 [] rfl rfl hl.1 rfl (Nat.le_of_ble_eq_true rfl) ⟨rfl, rfl, Nat.le_of_ble_eq_true rfl, Nat.le_of_ble_eq_true rfl⟩ ⟨Nat.le_of_ble_eq_true rfl, Nat.le_of_ble_eq_true rfl⟩ dX7_push_7 ?_
  refine z_if_ne (tgt := 17) hx hb dX7_push_10 (by decide) (by split <;> omega) (fun c_10 => ?_) (fun c_10 => ?_)
  · have hy10 : (0 ≤ x ∧ x < 256) := Classical.byContradiction fun h => by rw [if_neg h] at c_10; omega
    exfalso; omega
  · have hy10 : ¬ (0 ≤ x ∧ x < 256) := fun h => by rw [if_pos h] at c_10; omega
    refine lv_iconst (v := iI 1) hx hb dX7_push_13 rfl ?_
    refine lv_goto (tgt := 18) hx hb dX7_push_14 (by decide) ?_
    refine lv_iconst (v := iI 1) hx hb dX7_push_18 rfl ?_
    refine z_wVi (q0 := 0) (ci := 7) (b := o0) (rest := []) (wr := []) hC hK hP hD hS hA (c_X7_bad_1 l G H.size o0 a 0 mk bl hm rc lk lg kp fi lo wt gr eb ec ef iv 1) mv_X7_bad tw_906 [0] [] rfl rfl rfl rfl (by decide) rfl rfl rfl rfl hl.1 rfl (Nat.le_of_ble_eq_true rfl) ⟨rfl, rfl, Nat.le_of_ble_eq_true rfl, Nat.le_of_ble_eq_true rfl⟩ ⟨Nat.le_of_ble_eq_true rfl, Nat.le_of_ble_eq_true rfl⟩ dX7_push_19 (fun r u H locs hw hP hD hS => ?_)
    have hP : va_P G.1 vwCl [(o0, ob 7 [vI 1, .ref (a 1), .ref (a 2), .ref (a 3), .ref (a 4), .ref (a 5), vI mk, .ref (a 7), .ref (a 8), vI bl, .ref (a 10), vI hm, vI rc, .ref (a 13), .ref (a 14), .ref (a 15), vI lk, vI lg, vI kp, vI fi, vI lo, vI wt, .ref (a 22), .ref (a 23), .ref (a 24), .ref (a 25), .ref (a 26), vI gr, .ref (a 28), .ref (a 29), vI eb, vI ec, vI ef, vI iv])] H := hP
    have hD : va_D A [(o0, ob 7 [vI 1, .ref (a 1), .ref (a 2), .ref (a 3), .ref (a 4), .ref (a 5), vI mk, .ref (a 7), .ref (a 8), vI bl, .ref (a 10), vI hm, vI rc, .ref (a 13), .ref (a 14), .ref (a 15), vI lk, vI lg, vI kp, vI fi, vI lo, vI wt, .ref (a 22), .ref (a 23), .ref (a 24), .ref (a 25), .ref (a 26), vI gr, .ref (a 28), .ref (a 29), vI eb, vI ec, vI ef, vI iv])] := hD
    obtain ⟨hrw_, hw_1⟩ := hw
    rw [hrw_]
    clear hrw_
    clear hw_1
    refine z_if_eq (tgt := 27) hx hb dX7_push_22 (by decide) (by omega) (fun c_22 => ?_) (fun c_22 => ?_)
    · exact absurd c_22 (by decide)
    · refine lv_iconst (v := iI 0) hx hb dX7_push_25 rfl ?_
      exact z_iretW hC hr hlk () hAe hP hD hS [0] (by decide) rfl rfl (⟨rfl, trivial⟩) dX7_push_26

set_option maxRecDepth 100000 in
set_option maxHeartbeats 4000000 in
theorem c_X7_push_n (l : Launch) (G : zGt) (sz : Nat) (o0 : Nat) (a : Nat → Nat) (th mk bl hm rc lk lg kp fi lo wt gr eb ec ef iv : Int) (x : Int) (hhm : hm = 36) (hx : 0 ≤ x ∧ x < 256) : Met l yX7_push (Cond.code yX7_push cX7_push 2 (some .int) :: tb) ({ frames := 1, cells := 0, slots := 0, locals := 22 } : Room) (zPw G [(o0, ob 7 [vI th, .ref (a 1), .ref (a 2), .ref (a 3), .ref (a 4), .ref (a 5), vI mk, .ref (a 7), .ref (a 8), vI bl, .ref (a 10), vI hm, vI rc, .ref (a 13), .ref (a 14), .ref (a 15), vI lk, vI lg, vI kp, vI fi, vI lo, vI wt, .ref (a 22), .ref (a 23), .ref (a 24), .ref (a 25), .ref (a 26), vI gr, .ref (a 28), .ref (a 29), vI eb, vI ec, vI ef, vI iv])] sz [.ref o0, vI x]) (va_Qi (fun (r : Int32) (u : Unit) => r = iI (-1) ∧ True) (fun (u : Unit) t => zB G [(o0, ob 7 [vI th, .ref (a 1), .ref (a 2), .ref (a 3), .ref (a 4), .ref (a 5), vI mk, .ref (a 7), .ref (a 8), vI bl, .ref (a 10), vI hm, vI rc, .ref (a 13), .ref (a 14), .ref (a 15), vI lk, vI lg, vI kp, vI fi, vI lo, vI wt, .ref (a 22), .ref (a 23), .ref (a 24), .ref (a 25), .ref (a 26), vI gr, .ref (a 28), .ref (a 29), vI eb, vI ec, vI ef, vI iv])] sz [(o0, ob 7 [vI 0, .ref (a 1), .ref (a 2), .ref (a 3), .ref (a 4), .ref (a 5), vI mk, .ref (a 7), .ref (a 8), vI bl, .ref (a 10), vI hm, vI rc, .ref (a 13), .ref (a 14), .ref (a 15), vI lk, vI lg, vI kp, vI fi, vI lo, vI wt, .ref (a 22), .ref (a 23), .ref (a 24), .ref (a 25), .ref (a 26), vI gr, .ref (a 28), .ref (a 29), vI eb, vI ec, vI ef, vI iv])] t) (va_A [(o0, ob 7 [vI th, .ref (a 1), .ref (a 2), .ref (a 3), .ref (a 4), .ref (a 5), vI mk, .ref (a 7), .ref (a 8), vI bl, .ref (a 10), vI hm, vI rc, .ref (a 13), .ref (a 14), .ref (a 15), vI lk, vI lg, vI kp, vI fi, vI lo, vI wt, .ref (a 22), .ref (a 23), .ref (a 24), .ref (a 25), .ref (a 26), vI gr, .ref (a 28), .ref (a 29), vI eb, vI ec, vI ef, vI iv])] sz)) 0 0 (va_A [(o0, ob 7 [vI th, .ref (a 1), .ref (a 2), .ref (a 3), .ref (a 4), .ref (a 5), vI mk, .ref (a 7), .ref (a 8), vI bl, .ref (a 10), vI hm, vI rc, .ref (a 13), .ref (a 14), .ref (a 15), vI lk, vI lg, vI kp, vI fi, vI lo, vI wt, .ref (a 22), .ref (a 23), .ref (a 24), .ref (a 25), .ref (a 26), vI gr, .ref (a 28), .ref (a 29), vI eb, vI ec, vI ef, vI iv])] sz) := by
  refine Met.ofW (cc := cX7_push) (maxL := 2) (ret := (some .int)) (by decide) rfl ?_
  intro p e s m args below meth c s₁ B hml hv
  obtain ⟨rfl, hsz, hP, hK, hD0⟩ := hv
  subst hsz
  have hD := hD0.self (sz := s.heap.size)
  obtain ⟨A, hAe⟩ : ∃ A : Nat → Prop, A = va_A [(o0, ob 7 [vI th, .ref (a 1), .ref (a 2), .ref (a 3), .ref (a 4), .ref (a 5), vI mk, .ref (a 7), .ref (a 8), vI bl, .ref (a 10), vI hm, vI rc, .ref (a 13), .ref (a 14), .ref (a 15), vI lk, vI lg, vI kp, vI fi, vI lo, vI wt, .ref (a 22), .ref (a 23), .ref (a 24), .ref (a 25), .ref (a 26), vI gr, .ref (a 28), .ref (a 29), vI eb, vI ec, vI ef, vI iv])] s.heap.size := ⟨_, rfl⟩
  rw [← hAe] at hD
  have hA : ∀ q : Nat, s.heap.size ≤ q → A q := fun q h => by rw [hAe]; exact Or.inr h
  have hS : va_S A s.heap s.heap [] := va_S.rf
  obtain ⟨hC, hr, hlk⟩ := z_begin B hml
  have hC : CallFix p m c cX7_push 2 s _ tb RX7 := hC
  have hx := hC.1
  have hb := hC.2.1
  have hl := lv_entry ([.ref o0, vI x]) (n := 2) (Nat.le_of_ble_eq_true rfl)
  rw [lg_entry_eq]
  generalize (lg_sl ([.ref o0, vI x]) ++ List.replicate (2 - (lg_sl ([.ref o0, vI x])).length) Slot.unset).toArray = ls at hl ⊢
  have hl : lv_has ls 2 [(0, .ref o0), (1, vI x)] := hl
  obtain ⟨H, hHe⟩ : ∃ H : Heap, H = s.heap := ⟨_, rfl⟩
  obtain ⟨locs, hLe⟩ : ∃ L : List Loc, L = [] := ⟨_, rfl⟩
  suffices hgo : W p l e (headSpec (Cond.code yX7_push cX7_push 2 (some .int) :: tb) ({ frames := 1, cells := 0, slots := 0, locals := 22 } : Room)).room s m ([.ref o0, vI x] : List Value).toArray below meth c H locs 0 0 (MQ below (va_Qi (fun (r : Int32) (u : Unit) => r = iI (-1) ∧ True) (fun (u : Unit) t => zB G [(o0, ob 7 [vI th, .ref (a 1), .ref (a 2), .ref (a 3), .ref (a 4), .ref (a 5), vI mk, .ref (a 7), .ref (a 8), vI bl, .ref (a 10), vI hm, vI rc, .ref (a 13), .ref (a 14), .ref (a 15), vI lk, vI lg, vI kp, vI fi, vI lo, vI wt, .ref (a 22), .ref (a 23), .ref (a 24), .ref (a 25), .ref (a 26), vI gr, .ref (a 28), .ref (a 29), vI eb, vI ec, vI ef, vI iv])] s.heap.size [(o0, ob 7 [vI 0, .ref (a 1), .ref (a 2), .ref (a 3), .ref (a 4), .ref (a 5), vI mk, .ref (a 7), .ref (a 8), vI bl, .ref (a 10), vI hm, vI rc, .ref (a 13), .ref (a 14), .ref (a 15), vI lk, vI lg, vI kp, vI fi, vI lo, vI wt, .ref (a 22), .ref (a 23), .ref (a 24), .ref (a 25), .ref (a 26), vI gr, .ref (a 28), .ref (a 29), vI eb, vI ec, vI ef, vI iv])] t) (va_A [(o0, ob 7 [vI th, .ref (a 1), .ref (a 2), .ref (a 3), .ref (a 4), .ref (a 5), vI mk, .ref (a 7), .ref (a 8), vI bl, .ref (a 10), vI hm, vI rc, .ref (a 13), .ref (a 14), .ref (a 15), vI lk, vI lg, vI kp, vI fi, vI lo, vI wt, .ref (a 22), .ref (a 23), .ref (a 24), .ref (a 25), .ref (a 26), vI gr, .ref (a 28), .ref (a 29), vI eb, vI ec, vI ef, vI iv])] s.heap.size)) ([.ref o0, vI x] : List Value).toArray s 0 0 (va_A [(o0, ob 7 [vI th, .ref (a 1), .ref (a 2), .ref (a 3), .ref (a 4), .ref (a 5), vI mk, .ref (a 7), .ref (a 8), vI bl, .ref (a 10), vI hm, vI rc, .ref (a 13), .ref (a 14), .ref (a 15), vI lk, vI lg, vI kp, vI fi, vI lo, vI wt, .ref (a 22), .ref (a 23), .ref (a 24), .ref (a 25), .ref (a 26), vI gr, .ref (a 28), .ref (a 29), vI eb, vI ec, vI ef, vI iv])] s.heap.size)) (F0 m 0 ls []) by rw [hHe, hLe] at hgo; exact hgo
  rw [← hHe] at hP
  have hS : va_S A s.heap H locs := by rw [hHe, hLe]; exact hS
  clear hHe hLe
  refine lv_aload_n hx hb dX7_push_0 rfl (lv_at hl 0 rfl) ?_
  refine lv_iconst (v := iI 0) hx hb dX7_push_1 rfl ?_
  refine z_put (ws' := [(o0, ob 7 [vI 0, .ref (a 1), .ref (a 2), .ref (a 3), .ref (a 4), .ref (a 5), vI mk, .ref (a 7), .ref (a 8), vI bl, .ref (a 10), vI hm, vI rc, .ref (a 13), .ref (a 14), .ref (a 15), vI lk, vI lg, vI kp, vI fi, vI lo, vI wt, .ref (a 22), .ref (a 23), .ref (a 24), .ref (a 25), .ref (a 26), vI gr, .ref (a 28), .ref (a 29), vI eb, vI ec, vI ef, vI iv])]) hC hK hP hD hS inX7 tyX7 tyX7_ok nmX7 rfl 0 rfl 0 (by decide) tw_792 rfl rfl rfl (Nat.le_of_ble_eq_true rfl) rfl dX7_push_2 (fun H locs hP hD hS => ?_)
  refine lv_aload_n hx hb dX7_push_5 rfl (lv_at hl 0 rfl) ?_
  refine lv_iload_n hx hb dX7_push_6 rfl (lv_at hl 1 rfl) ?_
  refine z_rSi (rest := [.ref o0]) hC hK hP (c_X7_isByte_t l G x (by omega)) ms_X7_isByte tw_903 [] rfl rfl hl.1 rfl (Nat.le_of_ble_eq_true rfl) ⟨rfl, rfl, Nat.le_of_ble_eq_true rfl, Nat.le_of_ble_eq_true rfl⟩ ⟨Nat.le_of_ble_eq_true rfl, Nat.le_of_ble_eq_true rfl⟩ dX7_push_7 ?_
  refine z_if_ne (tgt := 17) hx hb dX7_push_10 (by decide) (by omega) (fun c_10 => ?_) (fun c_10 => ?_)
  · refine lv_iconst (v := iI 0) hx hb dX7_push_17 rfl ?_
    refine lv_iconst (v := iI 1) hx hb dX7_push_18 rfl ?_
    refine z_wVi (q0 := 0) (ci := 7) (b := o0) (rest := []) (wr := []) hC hK hP hD hS hA (c_X7_bad_0 l G H.size o0 a 0 mk bl hm rc lk lg kp fi lo wt gr eb ec ef iv 1) mv_X7_bad tw_906 [0] [] rfl rfl rfl rfl (by decide) rfl rfl rfl rfl hl.1 rfl (Nat.le_of_ble_eq_true rfl) ⟨rfl, rfl, Nat.le_of_ble_eq_true rfl, Nat.le_of_ble_eq_true rfl⟩ ⟨Nat.le_of_ble_eq_true rfl, Nat.le_of_ble_eq_true rfl⟩ dX7_push_19 (fun r u H locs hw hP hD hS => ?_)
    have hP : va_P G.1 vwCl [(o0, ob 7 [vI 0, .ref (a 1), .ref (a 2), .ref (a 3), .ref (a 4), .ref (a 5), vI mk, .ref (a 7), .ref (a 8), vI bl, .ref (a 10), vI hm, vI rc, .ref (a 13), .ref (a 14), .ref (a 15), vI lk, vI lg, vI kp, vI fi, vI lo, vI wt, .ref (a 22), .ref (a 23), .ref (a 24), .ref (a 25), .ref (a 26), vI gr, .ref (a 28), .ref (a 29), vI eb, vI ec, vI ef, vI iv])] H := hP
    have hD : va_D A [(o0, ob 7 [vI 0, .ref (a 1), .ref (a 2), .ref (a 3), .ref (a 4), .ref (a 5), vI mk, .ref (a 7), .ref (a 8), vI bl, .ref (a 10), vI hm, vI rc, .ref (a 13), .ref (a 14), .ref (a 15), vI lk, vI lg, vI kp, vI fi, vI lo, vI wt, .ref (a 22), .ref (a 23), .ref (a 24), .ref (a 25), .ref (a 26), vI gr, .ref (a 28), .ref (a 29), vI eb, vI ec, vI ef, vI iv])] := hD
    obtain ⟨hrw_, hw_1⟩ := hw
    rw [hrw_]
    clear hrw_
    clear hw_1
    refine z_if_eq (tgt := 27) hx hb dX7_push_22 (by decide) (by omega) (fun c_22 => ?_) (fun c_22 => ?_)
    · refine lv_aload_n hx hb dX7_push_27 rfl (lv_at hl 0 rfl) ?_
      refine z_get (v := vI hm) hC hK hP inX7 rfl 0 rfl 11 (by decide) tw_803 rfl dX7_push_28 ?_
      refine lv_bipush (v := iI 36) hx hb dX7_push_31 (by decide) ?_
      refine z_icmp_ne (tgt := 38) hx hb dX7_push_33 (by decide) (by omega) (fun c_33 => ?_) (fun c_33 => ?_)
      · exfalso; omega
      · refine lv_iconst (v := iI (-1)) hx hb dX7_push_36 rfl ?_
        exact z_iretW hC hr hlk () hAe hP hD hS [0] (by decide) rfl rfl (⟨rfl, trivial⟩) dX7_push_37
    · exact absurd c_22 (by decide)
  · exact absurd c_10 (by decide)

set_option maxRecDepth 100000 in
set_option maxHeartbeats 4000000 in
theorem c_X7_push_0 (l : Launch) (G : zGt) (sz : Nat) (o0 : Nat) (a : Nat → Nat) (th mk bl hm rc lk lg kp fi lo wt gr eb ec ef iv : Int) (HA : Int → Int) (x : Int) (hhm : 0 ≤ hm ∧ hm < 36) (hx : 0 ≤ x ∧ x < 256) : Met l yX7_push (Cond.code yX7_push cX7_push 2 (some .int) :: tb) ({ frames := 1, cells := 0, slots := 0, locals := 22 } : Room) (zPw G [(o0, ob 7 [vI th, .ref (a 1), .ref (a 2), .ref (a 3), .ref (a 4), .ref (a 5), vI mk, .ref (a 7), .ref (a 8), vI bl, .ref (a 10), vI hm, vI rc, .ref (a 13), .ref (a 14), .ref (a 15), vI lk, vI lg, vI kp, vI fi, vI lo, vI wt, .ref (a 22), .ref (a 23), .ref (a 24), .ref (a 25), .ref (a 26), vI gr, .ref (a 28), .ref (a 29), vI eb, vI ec, vI ef, vI iv]), ((a 10), aI G 36 HA)] sz [.ref o0, vI x]) (va_Qi (fun (r : Int32) (u : Unit) => r = iI (hm + 1) ∧ True) (fun (u : Unit) t => zB G [(o0, ob 7 [vI th, .ref (a 1), .ref (a 2), .ref (a 3), .ref (a 4), .ref (a 5), vI mk, .ref (a 7), .ref (a 8), vI bl, .ref (a 10), vI hm, vI rc, .ref (a 13), .ref (a 14), .ref (a 15), vI lk, vI lg, vI kp, vI fi, vI lo, vI wt, .ref (a 22), .ref (a 23), .ref (a 24), .ref (a 25), .ref (a 26), vI gr, .ref (a 28), .ref (a 29), vI eb, vI ec, vI ef, vI iv]), ((a 10), aI G 36 HA)] sz [(o0, ob 7 [vI 0, .ref (a 1), .ref (a 2), .ref (a 3), .ref (a 4), .ref (a 5), vI mk, .ref (a 7), .ref (a 8), vI bl, .ref (a 10), vI (hm + 1), vI rc, .ref (a 13), .ref (a 14), .ref (a 15), vI lk, vI lg, vI kp, vI fi, vI lo, vI wt, .ref (a 22), .ref (a 23), .ref (a 24), .ref (a 25), .ref (a 26), vI gr, .ref (a 28), .ref (a 29), vI eb, vI ec, vI ef, vI iv]), ((a 10), aI G 36 (zup HA hm x))] t) (va_A [(o0, ob 7 [vI th, .ref (a 1), .ref (a 2), .ref (a 3), .ref (a 4), .ref (a 5), vI mk, .ref (a 7), .ref (a 8), vI bl, .ref (a 10), vI hm, vI rc, .ref (a 13), .ref (a 14), .ref (a 15), vI lk, vI lg, vI kp, vI fi, vI lo, vI wt, .ref (a 22), .ref (a 23), .ref (a 24), .ref (a 25), .ref (a 26), vI gr, .ref (a 28), .ref (a 29), vI eb, vI ec, vI ef, vI iv]), ((a 10), aI G 36 HA)] sz)) 0 0 (va_A [(o0, ob 7 [vI th, .ref (a 1), .ref (a 2), .ref (a 3), .ref (a 4), .ref (a 5), vI mk, .ref (a 7), .ref (a 8), vI bl, .ref (a 10), vI hm, vI rc, .ref (a 13), .ref (a 14), .ref (a 15), vI lk, vI lg, vI kp, vI fi, vI lo, vI wt, .ref (a 22), .ref (a 23), .ref (a 24), .ref (a 25), .ref (a 26), vI gr, .ref (a 28), .ref (a 29), vI eb, vI ec, vI ef, vI iv]), ((a 10), aI G 36 HA)] sz) := by
  refine Met.ofW (cc := cX7_push) (maxL := 2) (ret := (some .int)) (by decide) rfl ?_
  intro p e s m args below meth c s₁ B hml hv
  obtain ⟨rfl, hsz, hP, hK, hD0⟩ := hv
  subst hsz
  have hD := hD0.self (sz := s.heap.size)
  obtain ⟨A, hAe⟩ : ∃ A : Nat → Prop, A = va_A [(o0, ob 7 [vI th, .ref (a 1), .ref (a 2), .ref (a 3), .ref (a 4), .ref (a 5), vI mk, .ref (a 7), .ref (a 8), vI bl, .ref (a 10), vI hm, vI rc, .ref (a 13), .ref (a 14), .ref (a 15), vI lk, vI lg, vI kp, vI fi, vI lo, vI wt, .ref (a 22), .ref (a 23), .ref (a 24), .ref (a 25), .ref (a 26), vI gr, .ref (a 28), .ref (a 29), vI eb, vI ec, vI ef, vI iv]), ((a 10), aI G 36 HA)] s.heap.size := ⟨_, rfl⟩
  rw [← hAe] at hD
  have hA : ∀ q : Nat, s.heap.size ≤ q → A q := fun q h => by rw [hAe]; exact Or.inr h
  have hS : va_S A s.heap s.heap [] := va_S.rf
  obtain ⟨hC, hr, hlk⟩ := z_begin B hml
  have hC : CallFix p m c cX7_push 2 s _ tb RX7 := hC
  have hx := hC.1
  have hb := hC.2.1
  have hl := lv_entry ([.ref o0, vI x]) (n := 2) (Nat.le_of_ble_eq_true rfl)
  rw [lg_entry_eq]
  generalize (lg_sl ([.ref o0, vI x]) ++ List.replicate (2 - (lg_sl ([.ref o0, vI x])).length) Slot.unset).toArray = ls at hl ⊢
  have hl : lv_has ls 2 [(0, .ref o0), (1, vI x)] := hl
  obtain ⟨H, hHe⟩ : ∃ H : Heap, H = s.heap := ⟨_, rfl⟩
  obtain ⟨locs, hLe⟩ : ∃ L : List Loc, L = [] := ⟨_, rfl⟩
  suffices hgo : W p l e (headSpec (Cond.code yX7_push cX7_push 2 (some .int) :: tb) ({ frames := 1, cells := 0, slots := 0, locals := 22 } : Room)).room s m ([.ref o0, vI x] : List Value).toArray below meth c H locs 0 0 (MQ below (va_Qi (fun (r : Int32) (u : Unit) => r = iI (hm + 1) ∧ True) (fun (u : Unit) t => zB G [(o0, ob 7 [vI th, .ref (a 1), .ref (a 2), .ref (a 3), .ref (a 4), .ref (a 5), vI mk, .ref (a 7), .ref (a 8), vI bl, .ref (a 10), vI hm, vI rc, .ref (a 13), .ref (a 14), .ref (a 15), vI lk, vI lg, vI kp, vI fi, vI lo, vI wt, .ref (a 22), .ref (a 23), .ref (a 24), .ref (a 25), .ref (a 26), vI gr, .ref (a 28), .ref (a 29), vI eb, vI ec, vI ef, vI iv]), ((a 10), aI G 36 HA)] s.heap.size [(o0, ob 7 [vI 0, .ref (a 1), .ref (a 2), .ref (a 3), .ref (a 4), .ref (a 5), vI mk, .ref (a 7), .ref (a 8), vI bl, .ref (a 10), vI (hm + 1), vI rc, .ref (a 13), .ref (a 14), .ref (a 15), vI lk, vI lg, vI kp, vI fi, vI lo, vI wt, .ref (a 22), .ref (a 23), .ref (a 24), .ref (a 25), .ref (a 26), vI gr, .ref (a 28), .ref (a 29), vI eb, vI ec, vI ef, vI iv]), ((a 10), aI G 36 (zup HA hm x))] t) (va_A [(o0, ob 7 [vI th, .ref (a 1), .ref (a 2), .ref (a 3), .ref (a 4), .ref (a 5), vI mk, .ref (a 7), .ref (a 8), vI bl, .ref (a 10), vI hm, vI rc, .ref (a 13), .ref (a 14), .ref (a 15), vI lk, vI lg, vI kp, vI fi, vI lo, vI wt, .ref (a 22), .ref (a 23), .ref (a 24), .ref (a 25), .ref (a 26), vI gr, .ref (a 28), .ref (a 29), vI eb, vI ec, vI ef, vI iv]), ((a 10), aI G 36 HA)] s.heap.size)) ([.ref o0, vI x] : List Value).toArray s 0 0 (va_A [(o0, ob 7 [vI th, .ref (a 1), .ref (a 2), .ref (a 3), .ref (a 4), .ref (a 5), vI mk, .ref (a 7), .ref (a 8), vI bl, .ref (a 10), vI hm, vI rc, .ref (a 13), .ref (a 14), .ref (a 15), vI lk, vI lg, vI kp, vI fi, vI lo, vI wt, .ref (a 22), .ref (a 23), .ref (a 24), .ref (a 25), .ref (a 26), vI gr, .ref (a 28), .ref (a 29), vI eb, vI ec, vI ef, vI iv]), ((a 10), aI G 36 HA)] s.heap.size)) (F0 m 0 ls []) by rw [hHe, hLe] at hgo; exact hgo
  rw [← hHe] at hP
  have hS : va_S A s.heap H locs := by rw [hHe, hLe]; exact hS
  clear hHe hLe
  refine lv_aload_n hx hb dX7_push_0 rfl (lv_at hl 0 rfl) ?_
  refine lv_iconst (v := iI 0) hx hb dX7_push_1 rfl ?_
  refine z_put (ws' := [(o0, ob 7 [vI 0, .ref (a 1), .ref (a 2), .ref (a 3), .ref (a 4), .ref (a 5), vI mk, .ref (a 7), .ref (a 8), vI bl, .ref (a 10), vI hm, vI rc, .ref (a 13), .ref (a 14), .ref (a 15), vI lk, vI lg, vI kp, vI fi, vI lo, vI wt, .ref (a 22), .ref (a 23), .ref (a 24), .ref (a 25), .ref (a 26), vI gr, .ref (a 28), .ref (a 29), vI eb, vI ec, vI ef, vI iv]), ((a 10), aI G 36 HA)]) hC hK hP hD hS inX7 tyX7 tyX7_ok nmX7 rfl 0 rfl 0 (by decide) tw_792 rfl rfl rfl (Nat.le_of_ble_eq_true rfl) rfl dX7_push_2 (fun H locs hP hD hS => ?_)
  refine lv_aload_n hx hb dX7_push_5 rfl (lv_at hl 0 rfl) ?_
  refine lv_iload_n hx hb dX7_push_6 rfl (lv_at hl 1 rfl) ?_
  refine z_rSi (rest := [.ref o0]) hC hK hP (c_X7_isByte_t l G x (by omega)) ms_X7_isByte tw_903 [] rfl rfl hl.1 rfl (Nat.le_of_ble_eq_true rfl) ⟨rfl, rfl, Nat.le_of_ble_eq_true rfl, Nat.le_of_ble_eq_true rfl⟩ ⟨Nat.le_of_ble_eq_true rfl, Nat.le_of_ble_eq_true rfl⟩ dX7_push_7 ?_
  refine z_if_ne (tgt := 17) hx hb dX7_push_10 (by decide) (by omega) (fun c_10 => ?_) (fun c_10 => ?_)
  · refine lv_iconst (v := iI 0) hx hb dX7_push_17 rfl ?_
    refine lv_iconst (v := iI 1) hx hb dX7_push_18 rfl ?_
    refine z_wVi (q0 := 0) (ci := 7) (b := o0) (rest := []) (wr := [((a 10), aI G 36 HA)]) hC hK hP hD hS hA (c_X7_bad_0 l G H.size o0 a 0 mk bl hm rc lk lg kp fi lo wt gr eb ec ef iv 1) mv_X7_bad tw_906 [0] [1] rfl rfl rfl rfl (by decide) rfl rfl rfl rfl hl.1 rfl (Nat.le_of_ble_eq_true rfl) ⟨rfl, rfl, Nat.le_of_ble_eq_true rfl, Nat.le_of_ble_eq_true rfl⟩ ⟨Nat.le_of_ble_eq_true rfl, Nat.le_of_ble_eq_true rfl⟩ dX7_push_19 (fun r u H locs hw hP hD hS => ?_)
    have hP : va_P G.1 vwCl [((a 10), aI G 36 HA), (o0, ob 7 [vI 0, .ref (a 1), .ref (a 2), .ref (a 3), .ref (a 4), .ref (a 5), vI mk, .ref (a 7), .ref (a 8), vI bl, .ref (a 10), vI hm, vI rc, .ref (a 13), .ref (a 14), .ref (a 15), vI lk, vI lg, vI kp, vI fi, vI lo, vI wt, .ref (a 22), .ref (a 23), .ref (a 24), .ref (a 25), .ref (a 26), vI gr, .ref (a 28), .ref (a 29), vI eb, vI ec, vI ef, vI iv])] H := hP
    have hD : va_D A [((a 10), aI G 36 HA), (o0, ob 7 [vI 0, .ref (a 1), .ref (a 2), .ref (a 3), .ref (a 4), .ref (a 5), vI mk, .ref (a 7), .ref (a 8), vI bl, .ref (a 10), vI hm, vI rc, .ref (a 13), .ref (a 14), .ref (a 15), vI lk, vI lg, vI kp, vI fi, vI lo, vI wt, .ref (a 22), .ref (a 23), .ref (a 24), .ref (a 25), .ref (a 26), vI gr, .ref (a 28), .ref (a 29), vI eb, vI ec, vI ef, vI iv])] := hD
    obtain ⟨hrw_, hw_1⟩ := hw
    rw [hrw_]
    clear hrw_
    clear hw_1
    refine z_if_eq (tgt := 27) hx hb dX7_push_22 (by decide) (by omega) (fun c_22 => ?_) (fun c_22 => ?_)
    · refine lv_aload_n hx hb dX7_push_27 rfl (lv_at hl 0 rfl) ?_
      refine z_get (v := vI hm) hC hK hP inX7 rfl 1 rfl 11 (by decide) tw_803 rfl dX7_push_28 ?_
      refine lv_bipush (v := iI 36) hx hb dX7_push_31 (by decide) ?_
      refine z_icmp_ne (tgt := 38) hx hb dX7_push_33 (by decide) (by omega) (fun c_33 => ?_) (fun c_33 => ?_)
      · refine lv_aload_n hx hb dX7_push_38 rfl (lv_at hl 0 rfl) ?_
        refine z_get (v := .ref (a 10)) hC hK hP inX7 rfl 1 rfl 10 (by decide) tw_802 rfl dX7_push_39 ?_
        refine lv_aload_n hx hb dX7_push_42 rfl (lv_at hl 0 rfl) ?_
        refine z_get (v := vI hm) hC hK hP inX7 rfl 1 rfl 11 (by decide) tw_803 rfl dX7_push_43 ?_
        refine lv_iload_n hx hb dX7_push_46 rfl (lv_at hl 1 rfl) ?_
        refine z_iast (ws' := [((a 10), aI G 36 (zup HA hm x)), (o0, ob 7 [vI 0, .ref (a 1), .ref (a 2), .ref (a 3), .ref (a 4), .ref (a 5), vI mk, .ref (a 7), .ref (a 8), vI bl, .ref (a 10), vI hm, vI rc, .ref (a 13), .ref (a 14), .ref (a 15), vI lk, vI lg, vI kp, vI fi, vI lo, vI wt, .ref (a 22), .ref (a 23), .ref (a 24), .ref (a 25), .ref (a 26), vI gr, .ref (a 28), .ref (a 29), vI eb, vI ec, vI ef, vI iv])]) hC hK hP hD hS 0 rfl (by omega) (by decide) rfl dX7_push_47 (fun H locs hP hD hS => ?_)
        refine lv_aload_n hx hb dX7_push_48 rfl (lv_at hl 0 rfl) ?_
        refine lv_dup hx hb dX7_push_49 rfl ?_
        refine z_get (v := vI hm) hC hK hP inX7 rfl 1 rfl 11 (by decide) tw_803 rfl dX7_push_50 ?_
        refine lv_iconst (v := iI 1) hx hb dX7_push_53 rfl ?_
        refine z_iadd hx hb dX7_push_54 ?_
        refine z_put (ws' := [((a 10), aI G 36 (zup HA hm x)), (o0, ob 7 [vI 0, .ref (a 1), .ref (a 2), .ref (a 3), .ref (a 4), .ref (a 5), vI mk, .ref (a 7), .ref (a 8), vI bl, .ref (a 10), vI (hm + 1), vI rc, .ref (a 13), .ref (a 14), .ref (a 15), vI lk, vI lg, vI kp, vI fi, vI lo, vI wt, .ref (a 22), .ref (a 23), .ref (a 24), .ref (a 25), .ref (a 26), vI gr, .ref (a 28), .ref (a 29), vI eb, vI ec, vI ef, vI iv])]) hC hK hP hD hS inX7 tyX7 tyX7_ok nmX7 rfl 1 rfl 11 (by decide) tw_803 rfl rfl rfl (Nat.le_of_ble_eq_true rfl) rfl dX7_push_55 (fun H locs hP hD hS => ?_)
        refine lv_aload_n hx hb dX7_push_58 rfl (lv_at hl 0 rfl) ?_
        refine z_get (v := vI (hm + 1)) hC hK hP inX7 rfl 1 rfl 11 (by decide) tw_803 rfl dX7_push_59 ?_
        exact z_iretW hC hr hlk () hAe hP hD hS [1, 0] (by decide) rfl rfl (⟨rfl, trivial⟩) dX7_push_62
      · exfalso; omega
    · exact absurd c_22 (by decide)
  · exact absurd c_10 (by decide)
