/-! the model's answers of files -/
theorem cnt_1 {g : Int → Int} {x : Int} (hg : ∀ j : Int, g j = 0 ∨ g j = 1) (h1 : g x = 1) (hx : 0 ≤ x) : ∀ k : Nat, (if x < (k : Int) then 1 else 0) ≤ sumZ g k ∧ (sumZ g k = (if x < (k : Int) then 1 else 0) ↔ ∀ j : Int, 0 ≤ j ∧ j < (k : Int) → j ≠ x → g j = 0) := by
  intro k
  induction k with
  | zero => exact ⟨by show (if x < 0 then (1 : Int) else 0) ≤ 0; rw [if_neg (by omega)]; exact Int.le_refl 0, by show (0 : Int) = (if x < 0 then 1 else 0) ↔ _; rw [if_neg (by omega)]; exact ⟨fun _ j hj => by omega, fun _ => rfl⟩⟩
  | succ k ih =>
    obtain ⟨i1, i2⟩ := ih
    have es : sumZ g (k + 1) = sumZ g k + g (k : Int) := rfl
    rw [es]
    rcases (show x < (k : Int) ∨ x = (k : Int) ∨ (k : Int) < x by omega) with q | q | q
    · rw [if_pos q] at i1 i2
      rw [if_pos (by omega)]
      have hk := hg (k : Int)
      refine ⟨by omega, fun e j hj hn => ?_, fun h => ?_⟩
      · rcases (show j = (k : Int) ∨ j < (k : Int) by omega) with z | z
        · rw [z]; omega
        · exact i2.mp (by omega) j (by omega) hn
      · rw [h (k : Int) (by omega) (by omega), i2.mpr (fun j hj hn => h j (by omega) hn)]; rfl
    · rw [if_neg (by omega)] at i1 i2
      rw [if_pos (by omega), ← q, h1]
      refine ⟨by omega, fun e j hj hn => ?_, fun h => ?_⟩
      · exact i2.mp (by omega) j (by omega) hn
      · rw [i2.mpr (fun j hj hn => h j (by omega) hn)]; rfl
    · rw [if_neg (by omega)] at i1 i2
      rw [if_neg (by omega)]
      have hk := hg (k : Int)
      refine ⟨by omega, fun e j hj hn => ?_, fun h => ?_⟩
      · rcases (show j = (k : Int) ∨ j < (k : Int) by omega) with z | z
        · rw [z]; omega
        · exact i2.mp (by omega) j (by omega) hn
      · rw [h (k : Int) (by omega) (by omega), i2.mpr (fun j hj hn => h j (by omega) hn)]; rfl
theorem mv_X7_costOf : zMV yX7_costOf cX7_costOf 5 (some .int) RX7 1 := ⟨tw_1011, tw_1010, tw_32, tw_41, by decide +kernel⟩
theorem mv_X7_isFile : zMV yX7_isFile cX7_isFile 2 (some .boolean) RX7 1 := ⟨tw_1023, tw_1022, tw_33, tw_41, by decide +kernel⟩
set_option maxRecDepth 100000 in
set_option maxHeartbeats 4000000 in
theorem c_X7_costOf (l : Launch) (G : zGt) (o0 : Nat) (a : Nat → Nat) (th mk bl hm rc lk lg kp fi lo wt gr eb ec ef iv : Int) (FN : Int → Int) (FR : Int → Int) (x : Int) (kx : Int) (hx : 0 ≤ x ∧ x < 41) (hfn : FN x = kSz kx) (hfr : ∀ j : Int, 0 ≤ j ∧ j < kSz kx → FR (5 * x + j) = kBl kx j) : Met l yX7_costOf (Cond.code yX7_costOf cX7_costOf 5 (some .int) :: tb) ({ frames := 0, cells := 0, slots := 0, locals := 0 } : Room) (zPr G [(o0, ob 7 [vI th, .ref (a 1), .ref (a 2), .ref (a 3), .ref (a 4), .ref (a 5), vI mk, .ref (a 7), .ref (a 8), vI bl, .ref (a 10), vI hm, vI rc, .ref (a 13), .ref (a 14), .ref (a 15), vI lk, vI lg, vI kp, vI fi, vI lo, vI wt, .ref (a 22), .ref (a 23), .ref (a 24), .ref (a 25), .ref (a 26), vI gr, .ref (a 28), .ref (a 29), vI eb, vI ec, vI ef, vI iv]), ((a 23), aI G 41 FN), ((a 24), aI G 205 FR)] [.ref o0, vI x]) (vp_Si (fun r => r = iI (kCost kx))) 0 0 (fun _ => False) := by
  refine Met.ofW (cc := cX7_costOf) (maxL := 5) (ret := (some .int)) (by decide) rfl ?_
  intro p e s m args below meth c s₁ B hml hv
  obtain ⟨rfl, hP, hK⟩ := hv
  obtain ⟨hC, hr, hlk⟩ := z_begin B hml
  have hC : CallFix p m c cX7_costOf 5 s _ tb RX7 := hC
  have hx := hC.1
  have hb := hC.2.1
  have hl := lv_entry ([.ref o0, vI x]) (n := 5) (Nat.le_of_ble_eq_true rfl)
  rw [lg_entry_eq]
  generalize (lg_sl ([.ref o0, vI x]) ++ List.replicate (5 - (lg_sl ([.ref o0, vI x])).length) Slot.unset).toArray = ls at hl ⊢
  have hl : lv_has ls 5 [(0, .ref o0), (1, vI x)] := hl
  have hsb := kSz_bd kx
  refine lv_iconst (v := iI 0) hx hb dX7_costOf_0 rfl ?_
  refine lv_istore_n (lv' := [(2, vI 0), (0, .ref o0), (1, vI x)]) hx hb dX7_costOf_1 rfl hl (by decide) rfl (fun ls hl => ?_)
  refine lv_iconst (v := iI 1) hx hb dX7_costOf_2 rfl ?_
  refine lv_istore_n (lv' := [(3, vI 1), (2, vI 0), (0, .ref o0), (1, vI x)]) hx hb dX7_costOf_3 rfl hl (by decide) rfl (fun ls hl => ?_)
  have cut_4 : ∀ (n_ : Nat) (qk : Int) (qs : Int) (ls : Array Slot), lv_has ls 5 [(0, .ref o0), (1, vI x), (2, vI qs), (3, vI qk)] → (1 ≤ qk ∧ (qk ≤ kSz kx ∨ qk = 1)) → (qs = sumZ (kGap kx) (qk - 1).toNat) → (kSz kx + 1 - qk).toNat < n_ → W p l e (headSpec (Cond.code yX7_costOf cX7_costOf 5 (some .int) :: tb) ({ frames := 0, cells := 0, slots := 0, locals := 0 } : Room)).room s m ([.ref o0, vI x] : List Value).toArray below meth c s.heap [] 0 0 (MQ below (vp_Si (fun r => r = iI (kCost kx))) ([.ref o0, vI x] : List Value).toArray s 0 0 (fun _ => False)) (F0 m 4 ls []) := by
    intro n_
    induction n_ with
    | zero => exact fun qk qs ls hl hqk hqs hm_ => absurd hm_ (Nat.not_lt_zero _)
    | succ n_ ih_4 =>
      intro qk qs ls hl hqk hqs hm_
      refine lv_iload_n hx hb dX7_costOf_4 rfl (lv_at hl 3 rfl) ?_
      refine lv_aload_n hx hb dX7_costOf_5 rfl (lv_at hl 0 rfl) ?_
      refine z_get (v := .ref (a 23)) hC hK hP inX7 rfl 0 rfl 23 (by decide) tw_815 rfl dX7_costOf_6 ?_
      refine lv_iload_n hx hb dX7_costOf_9 rfl (lv_at hl 1 rfl) ?_
      refine z_iald hC hK hP 1 rfl (by omega) (by decide) dX7_costOf_10 ?_
      refine z_icmp_ge (tgt := 63) hx hb dX7_costOf_11 (by decide) (by omega) (fun c_11 => ?_) (fun c_11 => ?_)
      · refine lv_iload_n hx hb dX7_costOf_63 rfl (lv_at hl 2 rfl) ?_
        exact z_iretR hC hr hlk (by rw [hqs]; unfold kCost; rw [show (qk - 1).toNat = (kSz kx - 1).toNat by omega]) dX7_costOf_64
      · have hr1 := hfr qk (by omega)
        have hr2 : FR (5 * x + qk - 1) = kBl kx (qk - 1) := by rw [show 5 * x + qk - 1 = 5 * x + (qk - 1) by omega]; exact hfr (qk - 1) (by omega)
        have hr3 := kBl_bd kx qk
        have hr4 := kBl_bd kx (qk - 1)
        refine lv_aload_n hx hb dX7_costOf_14 rfl (lv_at hl 0 rfl) ?_
        refine z_get (v := .ref (a 24)) hC hK hP inX7 rfl 0 rfl 24 (by decide) tw_816 rfl dX7_costOf_15 ?_
        refine lv_iconst (v := iI 5) hx hb dX7_costOf_18 rfl ?_
        refine lv_iload_n hx hb dX7_costOf_19 rfl (lv_at hl 1 rfl) ?_
        refine z_imul hx hb dX7_costOf_20 ?_
        refine lv_iload_n hx hb dX7_costOf_21 rfl (lv_at hl 3 rfl) ?_
        refine z_iadd hx hb dX7_costOf_22 ?_
        refine z_iald hC hK hP 2 rfl (by omega) (by decide) dX7_costOf_23 ?_
        refine lv_aload_n hx hb dX7_costOf_24 rfl (lv_at hl 0 rfl) ?_
        refine z_get (v := .ref (a 24)) hC hK hP inX7 rfl 0 rfl 24 (by decide) tw_816 rfl dX7_costOf_25 ?_
        refine lv_iconst (v := iI 5) hx hb dX7_costOf_28 rfl ?_
        refine lv_iload_n hx hb dX7_costOf_29 rfl (lv_at hl 1 rfl) ?_
        refine z_imul hx hb dX7_costOf_30 ?_
        refine lv_iload_n hx hb dX7_costOf_31 rfl (lv_at hl 3 rfl) ?_
        refine z_iadd hx hb dX7_costOf_32 ?_
        refine lv_iconst (v := iI 1) hx hb dX7_costOf_33 rfl ?_
        refine z_isub hx hb dX7_costOf_34 ?_
        refine z_iald hC hK hP 2 rfl (by omega) (by decide) dX7_costOf_35 ?_
        refine z_isub hx hb dX7_costOf_36 ?_
        refine lv_iconst (v := iI 1) hx hb dX7_costOf_37 rfl ?_
        refine z_isub hx hb dX7_costOf_38 ?_
        refine lv_istore (lv' := [(4, vI (((FR ((5 * x) + qk)) - (FR (((5 * x) + qk) - 1))) - 1)), (0, .ref o0), (1, vI x), (2, vI qs), (3, vI qk)]) hx hb dX7_costOf_39 hl (by decide) rfl (fun ls hl => ?_)
        refine lv_iload_n hx hb dX7_costOf_41 rfl (lv_at hl 3 rfl) ?_
        refine lv_iload hx hb dX7_costOf_42 (lv_at hl 0 rfl) ?_
        refine z_if_ge (tgt := 53) hx hb dX7_costOf_44 (by decide) (by omega) (fun c_44 => ?_) (fun c_44 => ?_)
        · refine lv_iload hx hb dX7_costOf_53 (lv_at hl 0 rfl) ?_
          refine z_iadd hx hb dX7_costOf_55 ?_
          refine lv_istore_n (lv' := [(2, vI (qs + (((FR ((5 * x) + qk)) - (FR (((5 * x) + qk) - 1))) - 1))), (4, vI (((FR ((5 * x) + qk)) - (FR (((5 * x) + qk) - 1))) - 1)), (0, .ref o0), (1, vI x), (3, vI qk)]) hx hb dX7_costOf_56 rfl hl (by decide) rfl (fun ls hl => ?_)
          refine z_iinc (k := 4) (lv' := [(3, vI (qk + 1)), (2, vI (qs + (((FR ((5 * x) + qk)) - (FR (((5 * x) + qk) - 1))) - 1))), (4, vI (((FR ((5 * x) + qk)) - (FR (((5 * x) + qk) - 1))) - 1)), (0, .ref o0), (1, vI x)]) hx hb dX7_costOf_57 hl rfl (by decide) rfl (fun ls hl => ?_)
          refine lv_goto (tgt := 4) hx hb dX7_costOf_60 (by decide) ?_
          exact ih_4 (qk + 1) (qs + (((FR ((5 * x) + qk)) - (FR (((5 * x) + qk) - 1))) - 1)) ls (lv_sub hl [3, 4, 1, 0] rfl) (by omega) (by rw [show qk + 1 - 1 = qk - 1 + 1 by omega, ← sumZ_s (g := kGap kx) (by omega) hqs]; unfold kGap; rw [show qk - 1 + 1 = qk by omega]; split <;> omega) (by omega)
        · refine lv_iload hx hb dX7_costOf_47 (lv_at hl 0 rfl) ?_
          refine z_ineg hx hb dX7_costOf_49 ?_
          refine lv_goto (tgt := 55) hx hb dX7_costOf_50 (by decide) ?_
          refine z_iadd hx hb dX7_costOf_55 ?_
          refine lv_istore_n (lv' := [(2, vI (qs + (-(((FR ((5 * x) + qk)) - (FR (((5 * x) + qk) - 1))) - 1)))), (4, vI (((FR ((5 * x) + qk)) - (FR (((5 * x) + qk) - 1))) - 1)), (0, .ref o0), (1, vI x), (3, vI qk)]) hx hb dX7_costOf_56 rfl hl (by decide) rfl (fun ls hl => ?_)
          refine z_iinc (k := 4) (lv' := [(3, vI (qk + 1)), (2, vI (qs + (-(((FR ((5 * x) + qk)) - (FR (((5 * x) + qk) - 1))) - 1)))), (4, vI (((FR ((5 * x) + qk)) - (FR (((5 * x) + qk) - 1))) - 1)), (0, .ref o0), (1, vI x)]) hx hb dX7_costOf_57 hl rfl (by decide) rfl (fun ls hl => ?_)
          refine lv_goto (tgt := 4) hx hb dX7_costOf_60 (by decide) ?_
          exact ih_4 (qk + 1) (qs + (-(((FR ((5 * x) + qk)) - (FR (((5 * x) + qk) - 1))) - 1))) ls (lv_sub hl [3, 4, 1, 0] rfl) (by omega) (by rw [show qk + 1 - 1 = qk - 1 + 1 by omega, ← sumZ_s (g := kGap kx) (by omega) hqs]; unfold kGap; rw [show qk - 1 + 1 = qk by omega]; split <;> omega) (by omega)
  exact cut_4 ((kSz kx + 1 - (1 : Int)).toNat + 1) 1 0 ls (lv_sub hl [2, 3, 1, 0] rfl) (by omega) (rfl) (Nat.lt_succ_self _)

set_option maxRecDepth 100000 in
set_option maxHeartbeats 4000000 in
theorem c_X7_data_1 (l : Launch) (G : zGt) (sz : Nat) (o0 : Nat) (a : Nat → Nat) (th mk bl hm rc lk lg kp fi lo wt gr eb ec ef iv : Int) (x y : Int) (hfi : 0 ≤ fi ∧ fi ≤ 41) (hx : -2147483648 ≤ x ∧ x < 2147483648) (hno : ¬ (0 ≤ x ∧ x < fi)) : Met l yX7_data (Cond.code yX7_data cX7_data 3 (some .int) :: tb) ({ frames := 1, cells := 0, slots := 0, locals := 21 } : Room) (zPw G [(o0, ob 7 [vI th, .ref (a 1), .ref (a 2), .ref (a 3), .ref (a 4), .ref (a 5), vI mk, .ref (a 7), .ref (a 8), vI bl, .ref (a 10), vI hm, vI rc, .ref (a 13), .ref (a 14), .ref (a 15), vI lk, vI lg, vI kp, vI fi, vI lo, vI wt, .ref (a 22), .ref (a 23), .ref (a 24), .ref (a 25), .ref (a 26), vI gr, .ref (a 28), .ref (a 29), vI eb, vI ec, vI ef, vI iv])] sz [.ref o0, vI x, vI y]) (va_Qi (fun (r : Int32) (u : Unit) => r = iI 0 ∧ True) (fun (u : Unit) t => zB G [(o0, ob 7 [vI th, .ref (a 1), .ref (a 2), .ref (a 3), .ref (a 4), .ref (a 5), vI mk, .ref (a 7), .ref (a 8), vI bl, .ref (a 10), vI hm, vI rc, .ref (a 13), .ref (a 14), .ref (a 15), vI lk, vI lg, vI kp, vI fi, vI lo, vI wt, .ref (a 22), .ref (a 23), .ref (a 24), .ref (a 25), .ref (a 26), vI gr, .ref (a 28), .ref (a 29), vI eb, vI ec, vI ef, vI iv])] sz [(o0, ob 7 [vI 1, .ref (a 1), .ref (a 2), .ref (a 3), .ref (a 4), .ref (a 5), vI mk, .ref (a 7), .ref (a 8), vI bl, .ref (a 10), vI hm, vI rc, .ref (a 13), .ref (a 14), .ref (a 15), vI lk, vI lg, vI kp, vI fi, vI lo, vI wt, .ref (a 22), .ref (a 23), .ref (a 24), .ref (a 25), .ref (a 26), vI gr, .ref (a 28), .ref (a 29), vI eb, vI ec, vI ef, vI iv])] t) (va_A [(o0, ob 7 [vI th, .ref (a 1), .ref (a 2), .ref (a 3), .ref (a 4), .ref (a 5), vI mk, .ref (a 7), .ref (a 8), vI bl, .ref (a 10), vI hm, vI rc, .ref (a 13), .ref (a 14), .ref (a 15), vI lk, vI lg, vI kp, vI fi, vI lo, vI wt, .ref (a 22), .ref (a 23), .ref (a 24), .ref (a 25), .ref (a 26), vI gr, .ref (a 28), .ref (a 29), vI eb, vI ec, vI ef, vI iv])] sz)) 0 0 (va_A [(o0, ob 7 [vI th, .ref (a 1), .ref (a 2), .ref (a 3), .ref (a 4), .ref (a 5), vI mk, .ref (a 7), .ref (a 8), vI bl, .ref (a 10), vI hm, vI rc, .ref (a 13), .ref (a 14), .ref (a 15), vI lk, vI lg, vI kp, vI fi, vI lo, vI wt, .ref (a 22), .ref (a 23), .ref (a 24), .ref (a 25), .ref (a 26), vI gr, .ref (a 28), .ref (a 29), vI eb, vI ec, vI ef, vI iv])] sz) := by
  refine Met.ofW (cc := cX7_data) (maxL := 3) (ret := (some .int)) (by decide) rfl ?_
  intro p e s m args below meth c s₁ B hml hv
  obtain ⟨rfl, hsz, hP, hK, hD0⟩ := hv
  subst hsz
  have hD := hD0.self (sz := s.heap.size)
  obtain ⟨A, hAe⟩ : ∃ A : Nat → Prop, A = va_A [(o0, ob 7 [vI th, .ref (a 1), .ref (a 2), .ref (a 3), .ref (a 4), .ref (a 5), vI mk, .ref (a 7), .ref (a 8), vI bl, .ref (a 10), vI hm, vI rc, .ref (a 13), .ref (a 14), .ref (a 15), vI lk, vI lg, vI kp, vI fi, vI lo, vI wt, .ref (a 22), .ref (a 23), .ref (a 24), .ref (a 25), .ref (a 26), vI gr, .ref (a 28), .ref (a 29), vI eb, vI ec, vI ef, vI iv])] s.heap.size := ⟨_, rfl⟩
  rw [← hAe] at hD
  have hA : ∀ q : Nat, s.heap.size ≤ q → A q := fun q h => by rw [hAe]; exact Or.inr h
  have hS : va_S A s.heap s.heap [] := va_S.rf
  obtain ⟨hC, hr, hlk⟩ := z_begin B hml
  have hC : CallFix p m c cX7_data 3 s _ tb RX7 := hC
  have hx := hC.1
  have hb := hC.2.1
  have hl := lv_entry ([.ref o0, vI x, vI y]) (n := 3) (Nat.le_of_ble_eq_true rfl)
  rw [lg_entry_eq]
  generalize (lg_sl ([.ref o0, vI x, vI y]) ++ List.replicate (3 - (lg_sl ([.ref o0, vI x, vI y])).length) Slot.unset).toArray = ls at hl ⊢
  have hl : lv_has ls 3 [(0, .ref o0), (1, vI x), (2, vI y)] := hl
  obtain ⟨H, hHe⟩ : ∃ H : Heap, H = s.heap := ⟨_, rfl⟩
  obtain ⟨locs, hLe⟩ : ∃ L : List Loc, L = [] := ⟨_, rfl⟩
  suffices hgo : W p l e (headSpec (Cond.code yX7_data cX7_data 3 (some .int) :: tb) ({ frames := 1, cells := 0, slots := 0, locals := 21 } : Room)).room s m ([.ref o0, vI x, vI y] : List Value).toArray below meth c H locs 0 0 (MQ below (va_Qi (fun (r : Int32) (u : Unit) => r = iI 0 ∧ True) (fun (u : Unit) t => zB G [(o0, ob 7 [vI th, .ref (a 1), .ref (a 2), .ref (a 3), .ref (a 4), .ref (a 5), vI mk, .ref (a 7), .ref (a 8), vI bl, .ref (a 10), vI hm, vI rc, .ref (a 13), .ref (a 14), .ref (a 15), vI lk, vI lg, vI kp, vI fi, vI lo, vI wt, .ref (a 22), .ref (a 23), .ref (a 24), .ref (a 25), .ref (a 26), vI gr, .ref (a 28), .ref (a 29), vI eb, vI ec, vI ef, vI iv])] s.heap.size [(o0, ob 7 [vI 1, .ref (a 1), .ref (a 2), .ref (a 3), .ref (a 4), .ref (a 5), vI mk, .ref (a 7), .ref (a 8), vI bl, .ref (a 10), vI hm, vI rc, .ref (a 13), .ref (a 14), .ref (a 15), vI lk, vI lg, vI kp, vI fi, vI lo, vI wt, .ref (a 22), .ref (a 23), .ref (a 24), .ref (a 25), .ref (a 26), vI gr, .ref (a 28), .ref (a 29), vI eb, vI ec, vI ef, vI iv])] t) (va_A [(o0, ob 7 [vI th, .ref (a 1), .ref (a 2), .ref (a 3), .ref (a 4), .ref (a 5), vI mk, .ref (a 7), .ref (a 8), vI bl, .ref (a 10), vI hm, vI rc, .ref (a 13), .ref (a 14), .ref (a 15), vI lk, vI lg, vI kp, vI fi, vI lo, vI wt, .ref (a 22), .ref (a 23), .ref (a 24), .ref (a 25), .ref (a 26), vI gr, .ref (a 28), .ref (a 29), vI eb, vI ec, vI ef, vI iv])] s.heap.size)) ([.ref o0, vI x, vI y] : List Value).toArray s 0 0 (va_A [(o0, ob 7 [vI th, .ref (a 1), .ref (a 2), .ref (a 3), .ref (a 4), .ref (a 5), vI mk, .ref (a 7), .ref (a 8), vI bl, .ref (a 10), vI hm, vI rc, .ref (a 13), .ref (a 14), .ref (a 15), vI lk, vI lg, vI kp, vI fi, vI lo, vI wt, .ref (a 22), .ref (a 23), .ref (a 24), .ref (a 25), .ref (a 26), vI gr, .ref (a 28), .ref (a 29), vI eb, vI ec, vI ef, vI iv])] s.heap.size)) (F0 m 0 ls []) by rw [hHe, hLe] at hgo; exact hgo
  rw [← hHe] at hP
  have hS : va_S A s.heap H locs := by rw [hHe, hLe]; exact hS
  clear hHe hLe
  refine lv_aload_n hx hb dX7_data_0 rfl (lv_at hl 0 rfl) ?_
  refine lv_iload_n hx hb dX7_data_1 rfl (lv_at hl 1 rfl) ?_
  refine z_wVi (q0 := 0) (ci := 7) (b := o0) (rest := []) (wr := []) hC hK hP hD hS hA (c_X7_isFile_f l G H.size o0 a th mk bl hm rc lk lg kp fi lo wt gr eb ec ef iv x (by omega) (by omega) (hno)) mv_X7_isFile tw_1020 [0] [] rfl rfl rfl rfl (by decide) rfl rfl rfl rfl hl.1 rfl (Nat.le_of_ble_eq_true rfl) ⟨rfl, rfl, Nat.le_of_ble_eq_true rfl, Nat.le_of_ble_eq_true rfl⟩ ⟨Nat.le_of_ble_eq_true rfl, Nat.le_of_ble_eq_true rfl⟩ dX7_data_2 (fun r u H locs hw hP hD hS => ?_)
  have hP : va_P G.1 vwCl [(o0, ob 7 [vI 1, .ref (a 1), .ref (a 2), .ref (a 3), .ref (a 4), .ref (a 5), vI mk, .ref (a 7), .ref (a 8), vI bl, .ref (a 10), vI hm, vI rc, .ref (a 13), .ref (a 14), .ref (a 15), vI lk, vI lg, vI kp, vI fi, vI lo, vI wt, .ref (a 22), .ref (a 23), .ref (a 24), .ref (a 25), .ref (a 26), vI gr, .ref (a 28), .ref (a 29), vI eb, vI ec, vI ef, vI iv])] H := hP
  have hD : va_D A [(o0, ob 7 [vI 1, .ref (a 1), .ref (a 2), .ref (a 3), .ref (a 4), .ref (a 5), vI mk, .ref (a 7), .ref (a 8), vI bl, .ref (a 10), vI hm, vI rc, .ref (a 13), .ref (a 14), .ref (a 15), vI lk, vI lg, vI kp, vI fi, vI lo, vI wt, .ref (a 22), .ref (a 23), .ref (a 24), .ref (a 25), .ref (a 26), vI gr, .ref (a 28), .ref (a 29), vI eb, vI ec, vI ef, vI iv])] := hD
  obtain ⟨hrw_, hw_1⟩ := hw
  rw [hrw_]
  clear hrw_
  clear hw_1
  refine z_if_ne (tgt := 10) hx hb dX7_data_5 (by decide) (by omega) (fun c_5 => ?_) (fun c_5 => ?_)
  · exact absurd c_5 (by decide)
  · refine lv_iconst (v := iI 0) hx hb dX7_data_8 rfl ?_
    exact z_iretW hC hr hlk () hAe hP hD hS [0] (by decide) rfl rfl (⟨rfl, trivial⟩) dX7_data_9

set_option maxRecDepth 100000 in
set_option maxHeartbeats 4000000 in
theorem c_X7_data_0 (l : Launch) (G : zGt) (sz : Nat) (o0 : Nat) (a : Nat → Nat) (th mk bl hm rc lk lg kp fi lo wt gr eb ec ef iv : Int) (FM : Int → Int) (FN : Int → Int) (FR : Int → Int) (FD : Int → Int) (x y : Int) (dk : Int → Int64) (kx : Int) (hfi : 0 ≤ fi ∧ fi ≤ 41) (hxf : 0 ≤ x ∧ x < fi) (hy : -2147483648 ≤ y ∧ y < 2147483648) (hen : enF FM FN FR FD dk x kx) : Met l yX7_data (Cond.code yX7_data cX7_data 3 (some .int) :: tb) ({ frames := 1, cells := 0, slots := 0, locals := 21 } : Room) (zPw G [(o0, ob 7 [vI th, .ref (a 1), .ref (a 2), .ref (a 3), .ref (a 4), .ref (a 5), vI mk, .ref (a 7), .ref (a 8), vI bl, .ref (a 10), vI hm, vI rc, .ref (a 13), .ref (a 14), .ref (a 15), vI lk, vI lg, vI kp, vI fi, vI lo, vI wt, .ref (a 22), .ref (a 23), .ref (a 24), .ref (a 25), .ref (a 26), vI gr, .ref (a 28), .ref (a 29), vI eb, vI ec, vI ef, vI iv]), ((a 22), aI G 41 FM), ((a 23), aI G 41 FN), ((a 24), aI G 205 FR), ((a 25), aI G 1517 FD)] sz [.ref o0, vI x, vI y]) (va_Qi (fun (r : Int32) (u : Unit) => r = iI (if 0 ≤ y ∧ y < txR dk (kBl kx) 2 then txR dk (kBl kx) (3 + y) else -1) ∧ True) (fun (u : Unit) t => zB G [(o0, ob 7 [vI th, .ref (a 1), .ref (a 2), .ref (a 3), .ref (a 4), .ref (a 5), vI mk, .ref (a 7), .ref (a 8), vI bl, .ref (a 10), vI hm, vI rc, .ref (a 13), .ref (a 14), .ref (a 15), vI lk, vI lg, vI kp, vI fi, vI lo, vI wt, .ref (a 22), .ref (a 23), .ref (a 24), .ref (a 25), .ref (a 26), vI gr, .ref (a 28), .ref (a 29), vI eb, vI ec, vI ef, vI iv]), ((a 22), aI G 41 FM), ((a 23), aI G 41 FN), ((a 24), aI G 205 FR), ((a 25), aI G 1517 FD)] sz [(o0, ob 7 [vI 0, .ref (a 1), .ref (a 2), .ref (a 3), .ref (a 4), .ref (a 5), vI mk, .ref (a 7), .ref (a 8), vI bl, .ref (a 10), vI hm, vI rc, .ref (a 13), .ref (a 14), .ref (a 15), vI lk, vI lg, vI kp, vI fi, vI lo, vI wt, .ref (a 22), .ref (a 23), .ref (a 24), .ref (a 25), .ref (a 26), vI gr, .ref (a 28), .ref (a 29), vI eb, vI ec, vI ef, vI iv]), ((a 22), aI G 41 FM), ((a 23), aI G 41 FN), ((a 24), aI G 205 FR), ((a 25), aI G 1517 FD)] t) (va_A [(o0, ob 7 [vI th, .ref (a 1), .ref (a 2), .ref (a 3), .ref (a 4), .ref (a 5), vI mk, .ref (a 7), .ref (a 8), vI bl, .ref (a 10), vI hm, vI rc, .ref (a 13), .ref (a 14), .ref (a 15), vI lk, vI lg, vI kp, vI fi, vI lo, vI wt, .ref (a 22), .ref (a 23), .ref (a 24), .ref (a 25), .ref (a 26), vI gr, .ref (a 28), .ref (a 29), vI eb, vI ec, vI ef, vI iv]), ((a 22), aI G 41 FM), ((a 23), aI G 41 FN), ((a 24), aI G 205 FR), ((a 25), aI G 1517 FD)] sz)) 0 0 (va_A [(o0, ob 7 [vI th, .ref (a 1), .ref (a 2), .ref (a 3), .ref (a 4), .ref (a 5), vI mk, .ref (a 7), .ref (a 8), vI bl, .ref (a 10), vI hm, vI rc, .ref (a 13), .ref (a 14), .ref (a 15), vI lk, vI lg, vI kp, vI fi, vI lo, vI wt, .ref (a 22), .ref (a 23), .ref (a 24), .ref (a 25), .ref (a 26), vI gr, .ref (a 28), .ref (a 29), vI eb, vI ec, vI ef, vI iv]), ((a 22), aI G 41 FM), ((a 23), aI G 41 FN), ((a 24), aI G 205 FR), ((a 25), aI G 1517 FD)] sz) := by
  refine Met.ofW (cc := cX7_data) (maxL := 3) (ret := (some .int)) (by decide) rfl ?_
  intro p e s m args below meth c s₁ B hml hv
  obtain ⟨rfl, hsz, hP, hK, hD0⟩ := hv
  subst hsz
  have hD := hD0.self (sz := s.heap.size)
  obtain ⟨A, hAe⟩ : ∃ A : Nat → Prop, A = va_A [(o0, ob 7 [vI th, .ref (a 1), .ref (a 2), .ref (a 3), .ref (a 4), .ref (a 5), vI mk, .ref (a 7), .ref (a 8), vI bl, .ref (a 10), vI hm, vI rc, .ref (a 13), .ref (a 14), .ref (a 15), vI lk, vI lg, vI kp, vI fi, vI lo, vI wt, .ref (a 22), .ref (a 23), .ref (a 24), .ref (a 25), .ref (a 26), vI gr, .ref (a 28), .ref (a 29), vI eb, vI ec, vI ef, vI iv]), ((a 22), aI G 41 FM), ((a 23), aI G 41 FN), ((a 24), aI G 205 FR), ((a 25), aI G 1517 FD)] s.heap.size := ⟨_, rfl⟩
  rw [← hAe] at hD
  have hA : ∀ q : Nat, s.heap.size ≤ q → A q := fun q h => by rw [hAe]; exact Or.inr h
  have hS : va_S A s.heap s.heap [] := va_S.rf
  obtain ⟨hC, hr, hlk⟩ := z_begin B hml
  have hC : CallFix p m c cX7_data 3 s _ tb RX7 := hC
  have hx := hC.1
  have hb := hC.2.1
  have hl := lv_entry ([.ref o0, vI x, vI y]) (n := 3) (Nat.le_of_ble_eq_true rfl)
  rw [lg_entry_eq]
  generalize (lg_sl ([.ref o0, vI x, vI y]) ++ List.replicate (3 - (lg_sl ([.ref o0, vI x, vI y])).length) Slot.unset).toArray = ls at hl ⊢
  have hl : lv_has ls 3 [(0, .ref o0), (1, vI x), (2, vI y)] := hl
  obtain ⟨H, hHe⟩ : ∃ H : Heap, H = s.heap := ⟨_, rfl⟩
  obtain ⟨locs, hLe⟩ : ∃ L : List Loc, L = [] := ⟨_, rfl⟩
  suffices hgo : W p l e (headSpec (Cond.code yX7_data cX7_data 3 (some .int) :: tb) ({ frames := 1, cells := 0, slots := 0, locals := 21 } : Room)).room s m ([.ref o0, vI x, vI y] : List Value).toArray below meth c H locs 0 0 (MQ below (va_Qi (fun (r : Int32) (u : Unit) => r = iI (if 0 ≤ y ∧ y < txR dk (kBl kx) 2 then txR dk (kBl kx) (3 + y) else -1) ∧ True) (fun (u : Unit) t => zB G [(o0, ob 7 [vI th, .ref (a 1), .ref (a 2), .ref (a 3), .ref (a 4), .ref (a 5), vI mk, .ref (a 7), .ref (a 8), vI bl, .ref (a 10), vI hm, vI rc, .ref (a 13), .ref (a 14), .ref (a 15), vI lk, vI lg, vI kp, vI fi, vI lo, vI wt, .ref (a 22), .ref (a 23), .ref (a 24), .ref (a 25), .ref (a 26), vI gr, .ref (a 28), .ref (a 29), vI eb, vI ec, vI ef, vI iv]), ((a 22), aI G 41 FM), ((a 23), aI G 41 FN), ((a 24), aI G 205 FR), ((a 25), aI G 1517 FD)] s.heap.size [(o0, ob 7 [vI 0, .ref (a 1), .ref (a 2), .ref (a 3), .ref (a 4), .ref (a 5), vI mk, .ref (a 7), .ref (a 8), vI bl, .ref (a 10), vI hm, vI rc, .ref (a 13), .ref (a 14), .ref (a 15), vI lk, vI lg, vI kp, vI fi, vI lo, vI wt, .ref (a 22), .ref (a 23), .ref (a 24), .ref (a 25), .ref (a 26), vI gr, .ref (a 28), .ref (a 29), vI eb, vI ec, vI ef, vI iv]), ((a 22), aI G 41 FM), ((a 23), aI G 41 FN), ((a 24), aI G 205 FR), ((a 25), aI G 1517 FD)] t) (va_A [(o0, ob 7 [vI th, .ref (a 1), .ref (a 2), .ref (a 3), .ref (a 4), .ref (a 5), vI mk, .ref (a 7), .ref (a 8), vI bl, .ref (a 10), vI hm, vI rc, .ref (a 13), .ref (a 14), .ref (a 15), vI lk, vI lg, vI kp, vI fi, vI lo, vI wt, .ref (a 22), .ref (a 23), .ref (a 24), .ref (a 25), .ref (a 26), vI gr, .ref (a 28), .ref (a 29), vI eb, vI ec, vI ef, vI iv]), ((a 22), aI G 41 FM), ((a 23), aI G 41 FN), ((a 24), aI G 205 FR), ((a 25), aI G 1517 FD)] s.heap.size)) ([.ref o0, vI x, vI y] : List Value).toArray s 0 0 (va_A [(o0, ob 7 [vI th, .ref (a 1), .ref (a 2), .ref (a 3), .ref (a 4), .ref (a 5), vI mk, .ref (a 7), .ref (a 8), vI bl, .ref (a 10), vI hm, vI rc, .ref (a 13), .ref (a 14), .ref (a 15), vI lk, vI lg, vI kp, vI fi, vI lo, vI wt, .ref (a 22), .ref (a 23), .ref (a 24), .ref (a 25), .ref (a 26), vI gr, .ref (a 28), .ref (a 29), vI eb, vI ec, vI ef, vI iv]), ((a 22), aI G 41 FM), ((a 23), aI G 41 FN), ((a 24), aI G 205 FR), ((a 25), aI G 1517 FD)] s.heap.size)) (F0 m 0 ls []) by rw [hHe, hLe] at hgo; exact hgo
  rw [← hHe] at hP
  have hS : va_S A s.heap H locs := by rw [hHe, hLe]; exact hS
  clear hHe hLe
  have hb2 : 0 ≤ txR dk (kBl kx) 2 ∧ txR dk (kBl kx) 2 < 256 := byZ_bd _ _
  have hle := hen.2.2.2.2.1
  have hd0 : FD (37 * x) = txR dk (kBl kx) 2 := by have h9 := hen.2.2.2.2.2 0 (by omega); rwa [show 37 * x + 0 = 37 * x by omega] at h9
  refine lv_aload_n hx hb dX7_data_0 rfl (lv_at hl 0 rfl) ?_
  refine lv_iload_n hx hb dX7_data_1 rfl (lv_at hl 1 rfl) ?_
  refine z_wVi (q0 := 0) (ci := 7) (b := o0) (rest := []) (wr := [((a 22), aI G 41 FM), ((a 23), aI G 41 FN), ((a 24), aI G 205 FR), ((a 25), aI G 1517 FD)]) hC hK hP hD hS hA (c_X7_isFile_t l G H.size o0 a th mk bl hm rc lk lg kp fi lo wt gr eb ec ef iv x (by omega) (by omega)) mv_X7_isFile tw_1020 [0] [1, 2, 3, 4] rfl rfl rfl rfl (by decide) rfl rfl rfl rfl hl.1 rfl (Nat.le_of_ble_eq_true rfl) ⟨rfl, rfl, Nat.le_of_ble_eq_true rfl, Nat.le_of_ble_eq_true rfl⟩ ⟨Nat.le_of_ble_eq_true rfl, Nat.le_of_ble_eq_true rfl⟩ dX7_data_2 (fun r u H locs hw hP hD hS => ?_)
  have hP : va_P G.1 vwCl [((a 22), aI G 41 FM), ((a 23), aI G 41 FN), ((a 24), aI G 205 FR), ((a 25), aI G 1517 FD), (o0, ob 7 [vI 0, .ref (a 1), .ref (a 2), .ref (a 3), .ref (a 4), .ref (a 5), vI mk, .ref (a 7), .ref (a 8), vI bl, .ref (a 10), vI hm, vI rc, .ref (a 13), .ref (a 14), .ref (a 15), vI lk, vI lg, vI kp, vI fi, vI lo, vI wt, .ref (a 22), .ref (a 23), .ref (a 24), .ref (a 25), .ref (a 26), vI gr, .ref (a 28), .ref (a 29), vI eb, vI ec, vI ef, vI iv])] H := hP
  have hD : va_D A [((a 22), aI G 41 FM), ((a 23), aI G 41 FN), ((a 24), aI G 205 FR), ((a 25), aI G 1517 FD), (o0, ob 7 [vI 0, .ref (a 1), .ref (a 2), .ref (a 3), .ref (a 4), .ref (a 5), vI mk, .ref (a 7), .ref (a 8), vI bl, .ref (a 10), vI hm, vI rc, .ref (a 13), .ref (a 14), .ref (a 15), vI lk, vI lg, vI kp, vI fi, vI lo, vI wt, .ref (a 22), .ref (a 23), .ref (a 24), .ref (a 25), .ref (a 26), vI gr, .ref (a 28), .ref (a 29), vI eb, vI ec, vI ef, vI iv])] := hD
  obtain ⟨hrw_, hw_1⟩ := hw
  rw [hrw_]
  clear hrw_
  clear hw_1
  refine z_if_ne (tgt := 10) hx hb dX7_data_5 (by decide) (by omega) (fun c_5 => ?_) (fun c_5 => ?_)
  · refine lv_iload_n hx hb dX7_data_10 rfl (lv_at hl 2 rfl) ?_
    refine z_if_lt (tgt := 43) hx hb dX7_data_11 (by decide) (by omega) (fun c_11 => ?_) (fun c_11 => ?_)
    · refine lv_iconst (v := iI (-1)) hx hb dX7_data_43 rfl ?_
      exact z_iretW hC hr hlk () hAe hP hD hS [4, 0, 1, 2, 3] (by decide) rfl rfl (⟨congrArg iI (by first | (rw [if_pos (by omega), show 37 * x + 1 + y = 37 * x + (1 + y) by omega, hen.2.2.2.2.2 (1 + y) (by omega), show 2 + (1 + y) = 3 + y by omega]) | rw [if_neg (by omega)]), trivial⟩) dX7_data_44
    · refine lv_iload_n hx hb dX7_data_14 rfl (lv_at hl 2 rfl) ?_
      refine lv_aload_n hx hb dX7_data_15 rfl (lv_at hl 0 rfl) ?_
      refine z_get (v := .ref (a 25)) hC hK hP inX7 rfl 4 rfl 25 (by decide) tw_817 rfl dX7_data_16 ?_
      refine lv_bipush (v := iI 37) hx hb dX7_data_19 (by decide) ?_
      refine lv_iload_n hx hb dX7_data_21 rfl (lv_at hl 1 rfl) ?_
      refine z_imul hx hb dX7_data_22 ?_
      refine z_iald hC hK hP 3 rfl (by omega) (by decide) dX7_data_23 ?_
      refine z_icmp_ge (tgt := 43) hx hb dX7_data_24 (by decide) (by omega) (fun c_24 => ?_) (fun c_24 => ?_)
      · refine lv_iconst (v := iI (-1)) hx hb dX7_data_43 rfl ?_
        exact z_iretW hC hr hlk () hAe hP hD hS [4, 0, 1, 2, 3] (by decide) rfl rfl (⟨congrArg iI (by first | (rw [if_pos (by omega), show 37 * x + 1 + y = 37 * x + (1 + y) by omega, hen.2.2.2.2.2 (1 + y) (by omega), show 2 + (1 + y) = 3 + y by omega]) | rw [if_neg (by omega)]), trivial⟩) dX7_data_44
      · refine lv_aload_n hx hb dX7_data_27 rfl (lv_at hl 0 rfl) ?_
        refine z_get (v := .ref (a 25)) hC hK hP inX7 rfl 4 rfl 25 (by decide) tw_817 rfl dX7_data_28 ?_
        refine lv_bipush (v := iI 37) hx hb dX7_data_31 (by decide) ?_
        refine lv_iload_n hx hb dX7_data_33 rfl (lv_at hl 1 rfl) ?_
        refine z_imul hx hb dX7_data_34 ?_
        refine lv_iconst (v := iI 1) hx hb dX7_data_35 rfl ?_
        refine z_iadd hx hb dX7_data_36 ?_
        refine lv_iload_n hx hb dX7_data_37 rfl (lv_at hl 2 rfl) ?_
        refine z_iadd hx hb dX7_data_38 ?_
        refine z_iald hC hK hP 3 rfl (by omega) (by decide) dX7_data_39 ?_
        refine lv_goto (tgt := 44) hx hb dX7_data_40 (by decide) ?_
        exact z_iretW hC hr hlk () hAe hP hD hS [4, 0, 1, 2, 3] (by decide) rfl rfl (⟨congrArg iI (by first | (rw [if_pos (by omega), show 37 * x + 1 + y = 37 * x + (1 + y) by omega, hen.2.2.2.2.2 (1 + y) (by omega), show 2 + (1 + y) = 3 + y by omega]) | rw [if_neg (by omega)]), trivial⟩) dX7_data_44
  · exact absurd c_5 (by decide)

set_option maxRecDepth 100000 in
set_option maxHeartbeats 4000000 in
theorem c_X7_file_1 (l : Launch) (G : zGt) (sz : Nat) (o0 : Nat) (a : Nat → Nat) (th mk bl hm rc lk lg kp fi lo wt gr eb ec ef iv : Int) (x y : Int) (hfi : 0 ≤ fi ∧ fi ≤ 41) (hx : -2147483648 ≤ x ∧ x < 2147483648) (hno : ¬ (0 ≤ x ∧ x < fi)) : Met l yX7_file (Cond.code yX7_file cX7_file 5 (some .int) :: tb) ({ frames := 1, cells := 0, slots := 0, locals := 21 } : Room) (zPw G [(o0, ob 7 [vI th, .ref (a 1), .ref (a 2), .ref (a 3), .ref (a 4), .ref (a 5), vI mk, .ref (a 7), .ref (a 8), vI bl, .ref (a 10), vI hm, vI rc, .ref (a 13), .ref (a 14), .ref (a 15), vI lk, vI lg, vI kp, vI fi, vI lo, vI wt, .ref (a 22), .ref (a 23), .ref (a 24), .ref (a 25), .ref (a 26), vI gr, .ref (a 28), .ref (a 29), vI eb, vI ec, vI ef, vI iv])] sz [.ref o0, vI x, vI y]) (va_Qi (fun (r : Int32) (u : Unit) => r = iI 0 ∧ True) (fun (u : Unit) t => zB G [(o0, ob 7 [vI th, .ref (a 1), .ref (a 2), .ref (a 3), .ref (a 4), .ref (a 5), vI mk, .ref (a 7), .ref (a 8), vI bl, .ref (a 10), vI hm, vI rc, .ref (a 13), .ref (a 14), .ref (a 15), vI lk, vI lg, vI kp, vI fi, vI lo, vI wt, .ref (a 22), .ref (a 23), .ref (a 24), .ref (a 25), .ref (a 26), vI gr, .ref (a 28), .ref (a 29), vI eb, vI ec, vI ef, vI iv])] sz [(o0, ob 7 [vI 1, .ref (a 1), .ref (a 2), .ref (a 3), .ref (a 4), .ref (a 5), vI mk, .ref (a 7), .ref (a 8), vI bl, .ref (a 10), vI hm, vI rc, .ref (a 13), .ref (a 14), .ref (a 15), vI lk, vI lg, vI kp, vI fi, vI lo, vI wt, .ref (a 22), .ref (a 23), .ref (a 24), .ref (a 25), .ref (a 26), vI gr, .ref (a 28), .ref (a 29), vI eb, vI ec, vI ef, vI iv])] t) (va_A [(o0, ob 7 [vI th, .ref (a 1), .ref (a 2), .ref (a 3), .ref (a 4), .ref (a 5), vI mk, .ref (a 7), .ref (a 8), vI bl, .ref (a 10), vI hm, vI rc, .ref (a 13), .ref (a 14), .ref (a 15), vI lk, vI lg, vI kp, vI fi, vI lo, vI wt, .ref (a 22), .ref (a 23), .ref (a 24), .ref (a 25), .ref (a 26), vI gr, .ref (a 28), .ref (a 29), vI eb, vI ec, vI ef, vI iv])] sz)) 0 0 (va_A [(o0, ob 7 [vI th, .ref (a 1), .ref (a 2), .ref (a 3), .ref (a 4), .ref (a 5), vI mk, .ref (a 7), .ref (a 8), vI bl, .ref (a 10), vI hm, vI rc, .ref (a 13), .ref (a 14), .ref (a 15), vI lk, vI lg, vI kp, vI fi, vI lo, vI wt, .ref (a 22), .ref (a 23), .ref (a 24), .ref (a 25), .ref (a 26), vI gr, .ref (a 28), .ref (a 29), vI eb, vI ec, vI ef, vI iv])] sz) := by
  refine Met.ofW (cc := cX7_file) (maxL := 5) (ret := (some .int)) (by decide) rfl ?_
  intro p e s m args below meth c s₁ B hml hv
  obtain ⟨rfl, hsz, hP, hK, hD0⟩ := hv
  subst hsz
  have hD := hD0.self (sz := s.heap.size)
  obtain ⟨A, hAe⟩ : ∃ A : Nat → Prop, A = va_A [(o0, ob 7 [vI th, .ref (a 1), .ref (a 2), .ref (a 3), .ref (a 4), .ref (a 5), vI mk, .ref (a 7), .ref (a 8), vI bl, .ref (a 10), vI hm, vI rc, .ref (a 13), .ref (a 14), .ref (a 15), vI lk, vI lg, vI kp, vI fi, vI lo, vI wt, .ref (a 22), .ref (a 23), .ref (a 24), .ref (a 25), .ref (a 26), vI gr, .ref (a 28), .ref (a 29), vI eb, vI ec, vI ef, vI iv])] s.heap.size := ⟨_, rfl⟩
  rw [← hAe] at hD
  have hA : ∀ q : Nat, s.heap.size ≤ q → A q := fun q h => by rw [hAe]; exact Or.inr h
  have hS : va_S A s.heap s.heap [] := va_S.rf
  obtain ⟨hC, hr, hlk⟩ := z_begin B hml
  have hC : CallFix p m c cX7_file 5 s _ tb RX7 := hC
  have hx := hC.1
  have hb := hC.2.1
  have hl := lv_entry ([.ref o0, vI x, vI y]) (n := 5) (Nat.le_of_ble_eq_true rfl)
  rw [lg_entry_eq]
  generalize (lg_sl ([.ref o0, vI x, vI y]) ++ List.replicate (5 - (lg_sl ([.ref o0, vI x, vI y])).length) Slot.unset).toArray = ls at hl ⊢
  have hl : lv_has ls 5 [(0, .ref o0), (1, vI x), (2, vI y)] := hl
  obtain ⟨H, hHe⟩ : ∃ H : Heap, H = s.heap := ⟨_, rfl⟩
  obtain ⟨locs, hLe⟩ : ∃ L : List Loc, L = [] := ⟨_, rfl⟩
  suffices hgo : W p l e (headSpec (Cond.code yX7_file cX7_file 5 (some .int) :: tb) ({ frames := 1, cells := 0, slots := 0, locals := 21 } : Room)).room s m ([.ref o0, vI x, vI y] : List Value).toArray below meth c H locs 0 0 (MQ below (va_Qi (fun (r : Int32) (u : Unit) => r = iI 0 ∧ True) (fun (u : Unit) t => zB G [(o0, ob 7 [vI th, .ref (a 1), .ref (a 2), .ref (a 3), .ref (a 4), .ref (a 5), vI mk, .ref (a 7), .ref (a 8), vI bl, .ref (a 10), vI hm, vI rc, .ref (a 13), .ref (a 14), .ref (a 15), vI lk, vI lg, vI kp, vI fi, vI lo, vI wt, .ref (a 22), .ref (a 23), .ref (a 24), .ref (a 25), .ref (a 26), vI gr, .ref (a 28), .ref (a 29), vI eb, vI ec, vI ef, vI iv])] s.heap.size [(o0, ob 7 [vI 1, .ref (a 1), .ref (a 2), .ref (a 3), .ref (a 4), .ref (a 5), vI mk, .ref (a 7), .ref (a 8), vI bl, .ref (a 10), vI hm, vI rc, .ref (a 13), .ref (a 14), .ref (a 15), vI lk, vI lg, vI kp, vI fi, vI lo, vI wt, .ref (a 22), .ref (a 23), .ref (a 24), .ref (a 25), .ref (a 26), vI gr, .ref (a 28), .ref (a 29), vI eb, vI ec, vI ef, vI iv])] t) (va_A [(o0, ob 7 [vI th, .ref (a 1), .ref (a 2), .ref (a 3), .ref (a 4), .ref (a 5), vI mk, .ref (a 7), .ref (a 8), vI bl, .ref (a 10), vI hm, vI rc, .ref (a 13), .ref (a 14), .ref (a 15), vI lk, vI lg, vI kp, vI fi, vI lo, vI wt, .ref (a 22), .ref (a 23), .ref (a 24), .ref (a 25), .ref (a 26), vI gr, .ref (a 28), .ref (a 29), vI eb, vI ec, vI ef, vI iv])] s.heap.size)) ([.ref o0, vI x, vI y] : List Value).toArray s 0 0 (va_A [(o0, ob 7 [vI th, .ref (a 1), .ref (a 2), .ref (a 3), .ref (a 4), .ref (a 5), vI mk, .ref (a 7), .ref (a 8), vI bl, .ref (a 10), vI hm, vI rc, .ref (a 13), .ref (a 14), .ref (a 15), vI lk, vI lg, vI kp, vI fi, vI lo, vI wt, .ref (a 22), .ref (a 23), .ref (a 24), .ref (a 25), .ref (a 26), vI gr, .ref (a 28), .ref (a 29), vI eb, vI ec, vI ef, vI iv])] s.heap.size)) (F0 m 0 ls []) by rw [hHe, hLe] at hgo; exact hgo
  rw [← hHe] at hP
  have hS : va_S A s.heap H locs := by rw [hHe, hLe]; exact hS
  clear hHe hLe
  refine lv_aload_n hx hb dX7_file_0 rfl (lv_at hl 0 rfl) ?_
  refine lv_iload_n hx hb dX7_file_1 rfl (lv_at hl 1 rfl) ?_
  refine z_wVi (q0 := 0) (ci := 7) (b := o0) (rest := []) (wr := []) hC hK hP hD hS hA (c_X7_isFile_f l G H.size o0 a th mk bl hm rc lk lg kp fi lo wt gr eb ec ef iv x (by omega) (by omega) (hno)) mv_X7_isFile tw_1020 [0] [] rfl rfl rfl rfl (by decide) rfl rfl rfl rfl hl.1 rfl (Nat.le_of_ble_eq_true rfl) ⟨rfl, rfl, Nat.le_of_ble_eq_true rfl, Nat.le_of_ble_eq_true rfl⟩ ⟨Nat.le_of_ble_eq_true rfl, Nat.le_of_ble_eq_true rfl⟩ dX7_file_2 (fun r u H locs hw hP hD hS => ?_)
  have hP : va_P G.1 vwCl [(o0, ob 7 [vI 1, .ref (a 1), .ref (a 2), .ref (a 3), .ref (a 4), .ref (a 5), vI mk, .ref (a 7), .ref (a 8), vI bl, .ref (a 10), vI hm, vI rc, .ref (a 13), .ref (a 14), .ref (a 15), vI lk, vI lg, vI kp, vI fi, vI lo, vI wt, .ref (a 22), .ref (a 23), .ref (a 24), .ref (a 25), .ref (a 26), vI gr, .ref (a 28), .ref (a 29), vI eb, vI ec, vI ef, vI iv])] H := hP
  have hD : va_D A [(o0, ob 7 [vI 1, .ref (a 1), .ref (a 2), .ref (a 3), .ref (a 4), .ref (a 5), vI mk, .ref (a 7), .ref (a 8), vI bl, .ref (a 10), vI hm, vI rc, .ref (a 13), .ref (a 14), .ref (a 15), vI lk, vI lg, vI kp, vI fi, vI lo, vI wt, .ref (a 22), .ref (a 23), .ref (a 24), .ref (a 25), .ref (a 26), vI gr, .ref (a 28), .ref (a 29), vI eb, vI ec, vI ef, vI iv])] := hD
  obtain ⟨hrw_, hw_1⟩ := hw
  rw [hrw_]
  clear hrw_
  clear hw_1
  refine z_if_eq (tgt := 25) hx hb dX7_file_5 (by decide) (by omega) (fun c_5 => ?_) (fun c_5 => ?_)
  · refine lv_iconst (v := iI 0) hx hb dX7_file_25 rfl ?_
    exact z_iretW hC hr hlk () hAe hP hD hS [0] (by decide) rfl rfl (⟨rfl, trivial⟩) dX7_file_26
  · exact absurd c_5 (by decide)

set_option maxRecDepth 100000 in
set_option maxHeartbeats 4000000 in
theorem c_X7_file_2 (l : Launch) (G : zGt) (sz : Nat) (o0 : Nat) (a : Nat → Nat) (th mk bl hm rc lk lg kp fi lo wt gr eb ec ef iv : Int) (x y : Int) (hfi : 0 ≤ fi ∧ fi ≤ 41) (hxf : 0 ≤ x ∧ x < fi) (hy : -2147483648 ≤ y ∧ y < 0) : Met l yX7_file (Cond.code yX7_file cX7_file 5 (some .int) :: tb) ({ frames := 1, cells := 0, slots := 0, locals := 22 } : Room) (zPw G [(o0, ob 7 [vI th, .ref (a 1), .ref (a 2), .ref (a 3), .ref (a 4), .ref (a 5), vI mk, .ref (a 7), .ref (a 8), vI bl, .ref (a 10), vI hm, vI rc, .ref (a 13), .ref (a 14), .ref (a 15), vI lk, vI lg, vI kp, vI fi, vI lo, vI wt, .ref (a 22), .ref (a 23), .ref (a 24), .ref (a 25), .ref (a 26), vI gr, .ref (a 28), .ref (a 29), vI eb, vI ec, vI ef, vI iv])] sz [.ref o0, vI x, vI y]) (va_Qi (fun (r : Int32) (u : Unit) => r = iI 0 ∧ True) (fun (u : Unit) t => zB G [(o0, ob 7 [vI th, .ref (a 1), .ref (a 2), .ref (a 3), .ref (a 4), .ref (a 5), vI mk, .ref (a 7), .ref (a 8), vI bl, .ref (a 10), vI hm, vI rc, .ref (a 13), .ref (a 14), .ref (a 15), vI lk, vI lg, vI kp, vI fi, vI lo, vI wt, .ref (a 22), .ref (a 23), .ref (a 24), .ref (a 25), .ref (a 26), vI gr, .ref (a 28), .ref (a 29), vI eb, vI ec, vI ef, vI iv])] sz [(o0, ob 7 [vI 2, .ref (a 1), .ref (a 2), .ref (a 3), .ref (a 4), .ref (a 5), vI mk, .ref (a 7), .ref (a 8), vI bl, .ref (a 10), vI hm, vI rc, .ref (a 13), .ref (a 14), .ref (a 15), vI lk, vI lg, vI kp, vI fi, vI lo, vI wt, .ref (a 22), .ref (a 23), .ref (a 24), .ref (a 25), .ref (a 26), vI gr, .ref (a 28), .ref (a 29), vI eb, vI ec, vI ef, vI iv])] t) (va_A [(o0, ob 7 [vI th, .ref (a 1), .ref (a 2), .ref (a 3), .ref (a 4), .ref (a 5), vI mk, .ref (a 7), .ref (a 8), vI bl, .ref (a 10), vI hm, vI rc, .ref (a 13), .ref (a 14), .ref (a 15), vI lk, vI lg, vI kp, vI fi, vI lo, vI wt, .ref (a 22), .ref (a 23), .ref (a 24), .ref (a 25), .ref (a 26), vI gr, .ref (a 28), .ref (a 29), vI eb, vI ec, vI ef, vI iv])] sz)) 0 0 (va_A [(o0, ob 7 [vI th, .ref (a 1), .ref (a 2), .ref (a 3), .ref (a 4), .ref (a 5), vI mk, .ref (a 7), .ref (a 8), vI bl, .ref (a 10), vI hm, vI rc, .ref (a 13), .ref (a 14), .ref (a 15), vI lk, vI lg, vI kp, vI fi, vI lo, vI wt, .ref (a 22), .ref (a 23), .ref (a 24), .ref (a 25), .ref (a 26), vI gr, .ref (a 28), .ref (a 29), vI eb, vI ec, vI ef, vI iv])] sz) := by
  refine Met.ofW (cc := cX7_file) (maxL := 5) (ret := (some .int)) (by decide) rfl ?_
  intro p e s m args below meth c s₁ B hml hv
  obtain ⟨rfl, hsz, hP, hK, hD0⟩ := hv
  subst hsz
  have hD := hD0.self (sz := s.heap.size)
  obtain ⟨A, hAe⟩ : ∃ A : Nat → Prop, A = va_A [(o0, ob 7 [vI th, .ref (a 1), .ref (a 2), .ref (a 3), .ref (a 4), .ref (a 5), vI mk, .ref (a 7), .ref (a 8), vI bl, .ref (a 10), vI hm, vI rc, .ref (a 13), .ref (a 14), .ref (a 15), vI lk, vI lg, vI kp, vI fi, vI lo, vI wt, .ref (a 22), .ref (a 23), .ref (a 24), .ref (a 25), .ref (a 26), vI gr, .ref (a 28), .ref (a 29), vI eb, vI ec, vI ef, vI iv])] s.heap.size := ⟨_, rfl⟩
  rw [← hAe] at hD
  have hA : ∀ q : Nat, s.heap.size ≤ q → A q := fun q h => by rw [hAe]; exact Or.inr h
  have hS : va_S A s.heap s.heap [] := va_S.rf
  obtain ⟨hC, hr, hlk⟩ := z_begin B hml
  have hC : CallFix p m c cX7_file 5 s _ tb RX7 := hC
  have hx := hC.1
  have hb := hC.2.1
  have hl := lv_entry ([.ref o0, vI x, vI y]) (n := 5) (Nat.le_of_ble_eq_true rfl)
  rw [lg_entry_eq]
  generalize (lg_sl ([.ref o0, vI x, vI y]) ++ List.replicate (5 - (lg_sl ([.ref o0, vI x, vI y])).length) Slot.unset).toArray = ls at hl ⊢
  have hl : lv_has ls 5 [(0, .ref o0), (1, vI x), (2, vI y)] := hl
  obtain ⟨H, hHe⟩ : ∃ H : Heap, H = s.heap := ⟨_, rfl⟩
  obtain ⟨locs, hLe⟩ : ∃ L : List Loc, L = [] := ⟨_, rfl⟩
  suffices hgo : W p l e (headSpec (Cond.code yX7_file cX7_file 5 (some .int) :: tb) ({ frames := 1, cells := 0, slots := 0, locals := 22 } : Room)).room s m ([.ref o0, vI x, vI y] : List Value).toArray below meth c H locs 0 0 (MQ below (va_Qi (fun (r : Int32) (u : Unit) => r = iI 0 ∧ True) (fun (u : Unit) t => zB G [(o0, ob 7 [vI th, .ref (a 1), .ref (a 2), .ref (a 3), .ref (a 4), .ref (a 5), vI mk, .ref (a 7), .ref (a 8), vI bl, .ref (a 10), vI hm, vI rc, .ref (a 13), .ref (a 14), .ref (a 15), vI lk, vI lg, vI kp, vI fi, vI lo, vI wt, .ref (a 22), .ref (a 23), .ref (a 24), .ref (a 25), .ref (a 26), vI gr, .ref (a 28), .ref (a 29), vI eb, vI ec, vI ef, vI iv])] s.heap.size [(o0, ob 7 [vI 2, .ref (a 1), .ref (a 2), .ref (a 3), .ref (a 4), .ref (a 5), vI mk, .ref (a 7), .ref (a 8), vI bl, .ref (a 10), vI hm, vI rc, .ref (a 13), .ref (a 14), .ref (a 15), vI lk, vI lg, vI kp, vI fi, vI lo, vI wt, .ref (a 22), .ref (a 23), .ref (a 24), .ref (a 25), .ref (a 26), vI gr, .ref (a 28), .ref (a 29), vI eb, vI ec, vI ef, vI iv])] t) (va_A [(o0, ob 7 [vI th, .ref (a 1), .ref (a 2), .ref (a 3), .ref (a 4), .ref (a 5), vI mk, .ref (a 7), .ref (a 8), vI bl, .ref (a 10), vI hm, vI rc, .ref (a 13), .ref (a 14), .ref (a 15), vI lk, vI lg, vI kp, vI fi, vI lo, vI wt, .ref (a 22), .ref (a 23), .ref (a 24), .ref (a 25), .ref (a 26), vI gr, .ref (a 28), .ref (a 29), vI eb, vI ec, vI ef, vI iv])] s.heap.size)) ([.ref o0, vI x, vI y] : List Value).toArray s 0 0 (va_A [(o0, ob 7 [vI th, .ref (a 1), .ref (a 2), .ref (a 3), .ref (a 4), .ref (a 5), vI mk, .ref (a 7), .ref (a 8), vI bl, .ref (a 10), vI hm, vI rc, .ref (a 13), .ref (a 14), .ref (a 15), vI lk, vI lg, vI kp, vI fi, vI lo, vI wt, .ref (a 22), .ref (a 23), .ref (a 24), .ref (a 25), .ref (a 26), vI gr, .ref (a 28), .ref (a 29), vI eb, vI ec, vI ef, vI iv])] s.heap.size)) (F0 m 0 ls []) by rw [hHe, hLe] at hgo; exact hgo
  rw [← hHe] at hP
  have hS : va_S A s.heap H locs := by rw [hHe, hLe]; exact hS
  clear hHe hLe
  refine lv_aload_n hx hb dX7_file_0 rfl (lv_at hl 0 rfl) ?_
  refine lv_iload_n hx hb dX7_file_1 rfl (lv_at hl 1 rfl) ?_
  refine z_wVi (q0 := 0) (ci := 7) (b := o0) (rest := []) (wr := []) hC hK hP hD hS hA (c_X7_isFile_t l G H.size o0 a th mk bl hm rc lk lg kp fi lo wt gr eb ec ef iv x (by omega) (by omega)) mv_X7_isFile tw_1020 [0] [] rfl rfl rfl rfl (by decide) rfl rfl rfl rfl hl.1 rfl (Nat.le_of_ble_eq_true rfl) ⟨rfl, rfl, Nat.le_of_ble_eq_true rfl, Nat.le_of_ble_eq_true rfl⟩ ⟨Nat.le_of_ble_eq_true rfl, Nat.le_of_ble_eq_true rfl⟩ dX7_file_2 (fun r u H locs hw hP hD hS => ?_)
  have hP : va_P G.1 vwCl [(o0, ob 7 [vI 0, .ref (a 1), .ref (a 2), .ref (a 3), .ref (a 4), .ref (a 5), vI mk, .ref (a 7), .ref (a 8), vI bl, .ref (a 10), vI hm, vI rc, .ref (a 13), .ref (a 14), .ref (a 15), vI lk, vI lg, vI kp, vI fi, vI lo, vI wt, .ref (a 22), .ref (a 23), .ref (a 24), .ref (a 25), .ref (a 26), vI gr, .ref (a 28), .ref (a 29), vI eb, vI ec, vI ef, vI iv])] H := hP
  have hD : va_D A [(o0, ob 7 [vI 0, .ref (a 1), .ref (a 2), .ref (a 3), .ref (a 4), .ref (a 5), vI mk, .ref (a 7), .ref (a 8), vI bl, .ref (a 10), vI hm, vI rc, .ref (a 13), .ref (a 14), .ref (a 15), vI lk, vI lg, vI kp, vI fi, vI lo, vI wt, .ref (a 22), .ref (a 23), .ref (a 24), .ref (a 25), .ref (a 26), vI gr, .ref (a 28), .ref (a 29), vI eb, vI ec, vI ef, vI iv])] := hD
  obtain ⟨hrw_, hw_1⟩ := hw
  rw [hrw_]
  clear hrw_
  clear hw_1
  refine z_if_eq (tgt := 25) hx hb dX7_file_5 (by decide) (by omega) (fun c_5 => ?_) (fun c_5 => ?_)
  · exact absurd c_5 (by decide)
  · refine lv_aload_n hx hb dX7_file_8 rfl (lv_at hl 0 rfl) ?_
    refine lv_iload_n hx hb dX7_file_9 rfl (lv_at hl 2 rfl) ?_
    refine z_if_ge (tgt := 17) hx hb dX7_file_10 (by decide) (by omega) (fun c_10 => ?_) (fun c_10 => ?_)
    · exfalso; omega
    · refine lv_iconst (v := iI 1) hx hb dX7_file_13 rfl ?_
      refine lv_goto (tgt := 18) hx hb dX7_file_14 (by decide) ?_
      refine lv_iconst (v := iI 2) hx hb dX7_file_18 rfl ?_
      refine z_wVi (q0 := 0) (ci := 7) (b := o0) (rest := []) (wr := []) hC hK hP hD hS hA (c_X7_bad_1 l G H.size o0 a 0 mk bl hm rc lk lg kp fi lo wt gr eb ec ef iv 2) mv_X7_bad tw_906 [0] [] rfl rfl rfl rfl (by decide) rfl rfl rfl rfl hl.1 rfl (Nat.le_of_ble_eq_true rfl) ⟨rfl, rfl, Nat.le_of_ble_eq_true rfl, Nat.le_of_ble_eq_true rfl⟩ ⟨Nat.le_of_ble_eq_true rfl, Nat.le_of_ble_eq_true rfl⟩ dX7_file_19 (fun r u H locs hw hP hD hS => ?_)
      have hP : va_P G.1 vwCl [(o0, ob 7 [vI 2, .ref (a 1), .ref (a 2), .ref (a 3), .ref (a 4), .ref (a 5), vI mk, .ref (a 7), .ref (a 8), vI bl, .ref (a 10), vI hm, vI rc, .ref (a 13), .ref (a 14), .ref (a 15), vI lk, vI lg, vI kp, vI fi, vI lo, vI wt, .ref (a 22), .ref (a 23), .ref (a 24), .ref (a 25), .ref (a 26), vI gr, .ref (a 28), .ref (a 29), vI eb, vI ec, vI ef, vI iv])] H := hP
      have hD : va_D A [(o0, ob 7 [vI 2, .ref (a 1), .ref (a 2), .ref (a 3), .ref (a 4), .ref (a 5), vI mk, .ref (a 7), .ref (a 8), vI bl, .ref (a 10), vI hm, vI rc, .ref (a 13), .ref (a 14), .ref (a 15), vI lk, vI lg, vI kp, vI fi, vI lo, vI wt, .ref (a 22), .ref (a 23), .ref (a 24), .ref (a 25), .ref (a 26), vI gr, .ref (a 28), .ref (a 29), vI eb, vI ec, vI ef, vI iv])] := hD
      obtain ⟨hrw_, hw_2⟩ := hw
      rw [hrw_]
      clear hrw_
      clear hw_2
      refine z_if_eq (tgt := 27) hx hb dX7_file_22 (by decide) (by omega) (fun c_22 => ?_) (fun c_22 => ?_)
      · exact absurd c_22 (by decide)
      · refine lv_iconst (v := iI 0) hx hb dX7_file_25 rfl ?_
        exact z_iretW hC hr hlk () hAe hP hD hS [0] (by decide) rfl rfl (⟨rfl, trivial⟩) dX7_file_26

set_option maxRecDepth 100000 in
set_option maxHeartbeats 4000000 in
theorem c_X7_file_0 (l : Launch) (G : zGt) (sz : Nat) (o0 : Nat) (a : Nat → Nat) (th mk bl hm rc lk lg kp fi lo wt gr eb ec ef iv : Int) (FM : Int → Int) (FN : Int → Int) (FR : Int → Int) (FD : Int → Int) (x y : Int) (dk : Int → Int64) (kx : Int) (KK : Int → Int) (hfi : 0 ≤ fi ∧ fi ≤ 41) (hxf : 0 ≤ x ∧ x < fi) (hy : 0 ≤ y ∧ y < 2147483648) (hen : enF FM FN FR FD dk x kx) (hkk : ∀ f : Int, 0 ≤ f ∧ f < fi → FR (5 * f) = kBl (KK f) 0) : Met l yX7_file (Cond.code yX7_file cX7_file 5 (some .int) :: tb) ({ frames := 1, cells := 0, slots := 0, locals := 24 } : Room) (zPw G [(o0, ob 7 [vI th, .ref (a 1), .ref (a 2), .ref (a 3), .ref (a 4), .ref (a 5), vI mk, .ref (a 7), .ref (a 8), vI bl, .ref (a 10), vI hm, vI rc, .ref (a 13), .ref (a 14), .ref (a 15), vI lk, vI lg, vI kp, vI fi, vI lo, vI wt, .ref (a 22), .ref (a 23), .ref (a 24), .ref (a 25), .ref (a 26), vI gr, .ref (a 28), .ref (a 29), vI eb, vI ec, vI ef, vI iv]), ((a 22), aI G 41 FM), ((a 23), aI G 41 FN), ((a 24), aI G 205 FR), ((a 25), aI G 1517 FD)] sz [.ref o0, vI x, vI y]) (va_Qi (fun (r : Int32) (u : Unit) => r = iI (if y = 0 then kx % 8 else if y = 1 then txR dk (kBl kx) 2 else if y = 2 then kCost kx else if y = 3 then bZ (∀ j : Int, 0 ≤ j ∧ j < fi → j ≠ x → kBl (KK j) 0 ≠ kBl kx 0) else if y = 4 then kSz kx else if y - 5 < kSz kx then kBl kx (y - 5) else -1) ∧ True) (fun (u : Unit) t => zB G [(o0, ob 7 [vI th, .ref (a 1), .ref (a 2), .ref (a 3), .ref (a 4), .ref (a 5), vI mk, .ref (a 7), .ref (a 8), vI bl, .ref (a 10), vI hm, vI rc, .ref (a 13), .ref (a 14), .ref (a 15), vI lk, vI lg, vI kp, vI fi, vI lo, vI wt, .ref (a 22), .ref (a 23), .ref (a 24), .ref (a 25), .ref (a 26), vI gr, .ref (a 28), .ref (a 29), vI eb, vI ec, vI ef, vI iv]), ((a 22), aI G 41 FM), ((a 23), aI G 41 FN), ((a 24), aI G 205 FR), ((a 25), aI G 1517 FD)] sz [(o0, ob 7 [vI 0, .ref (a 1), .ref (a 2), .ref (a 3), .ref (a 4), .ref (a 5), vI mk, .ref (a 7), .ref (a 8), vI bl, .ref (a 10), vI hm, vI rc, .ref (a 13), .ref (a 14), .ref (a 15), vI lk, vI lg, vI kp, vI fi, vI lo, vI wt, .ref (a 22), .ref (a 23), .ref (a 24), .ref (a 25), .ref (a 26), vI gr, .ref (a 28), .ref (a 29), vI eb, vI ec, vI ef, vI iv]), ((a 22), aI G 41 FM), ((a 23), aI G 41 FN), ((a 24), aI G 205 FR), ((a 25), aI G 1517 FD)] t) (va_A [(o0, ob 7 [vI th, .ref (a 1), .ref (a 2), .ref (a 3), .ref (a 4), .ref (a 5), vI mk, .ref (a 7), .ref (a 8), vI bl, .ref (a 10), vI hm, vI rc, .ref (a 13), .ref (a 14), .ref (a 15), vI lk, vI lg, vI kp, vI fi, vI lo, vI wt, .ref (a 22), .ref (a 23), .ref (a 24), .ref (a 25), .ref (a 26), vI gr, .ref (a 28), .ref (a 29), vI eb, vI ec, vI ef, vI iv]), ((a 22), aI G 41 FM), ((a 23), aI G 41 FN), ((a 24), aI G 205 FR), ((a 25), aI G 1517 FD)] sz)) 0 0 (va_A [(o0, ob 7 [vI th, .ref (a 1), .ref (a 2), .ref (a 3), .ref (a 4), .ref (a 5), vI mk, .ref (a 7), .ref (a 8), vI bl, .ref (a 10), vI hm, vI rc, .ref (a 13), .ref (a 14), .ref (a 15), vI lk, vI lg, vI kp, vI fi, vI lo, vI wt, .ref (a 22), .ref (a 23), .ref (a 24), .ref (a 25), .ref (a 26), vI gr, .ref (a 28), .ref (a 29), vI eb, vI ec, vI ef, vI iv]), ((a 22), aI G 41 FM), ((a 23), aI G 41 FN), ((a 24), aI G 205 FR), ((a 25), aI G 1517 FD)] sz) := by
  refine Met.ofW (cc := cX7_file) (maxL := 5) (ret := (some .int)) (by decide) rfl ?_
  intro p e s m args below meth c s₁ B hml hv
  obtain ⟨rfl, hsz, hP, hK, hD0⟩ := hv
  subst hsz
  have hD := hD0.self (sz := s.heap.size)
  obtain ⟨A, hAe⟩ : ∃ A : Nat → Prop, A = va_A [(o0, ob 7 [vI th, .ref (a 1), .ref (a 2), .ref (a 3), .ref (a 4), .ref (a 5), vI mk, .ref (a 7), .ref (a 8), vI bl, .ref (a 10), vI hm, vI rc, .ref (a 13), .ref (a 14), .ref (a 15), vI lk, vI lg, vI kp, vI fi, vI lo, vI wt, .ref (a 22), .ref (a 23), .ref (a 24), .ref (a 25), .ref (a 26), vI gr, .ref (a 28), .ref (a 29), vI eb, vI ec, vI ef, vI iv]), ((a 22), aI G 41 FM), ((a 23), aI G 41 FN), ((a 24), aI G 205 FR), ((a 25), aI G 1517 FD)] s.heap.size := ⟨_, rfl⟩
  rw [← hAe] at hD
  have hA : ∀ q : Nat, s.heap.size ≤ q → A q := fun q h => by rw [hAe]; exact Or.inr h
  have hS : va_S A s.heap s.heap [] := va_S.rf
  obtain ⟨hC, hr, hlk⟩ := z_begin B hml
  have hC : CallFix p m c cX7_file 5 s _ tb RX7 := hC
  have hx := hC.1
  have hb := hC.2.1
  have hl := lv_entry ([.ref o0, vI x, vI y]) (n := 5) (Nat.le_of_ble_eq_true rfl)
  rw [lg_entry_eq]
  generalize (lg_sl ([.ref o0, vI x, vI y]) ++ List.replicate (5 - (lg_sl ([.ref o0, vI x, vI y])).length) Slot.unset).toArray = ls at hl ⊢
  have hl : lv_has ls 5 [(0, .ref o0), (1, vI x), (2, vI y)] := hl
  obtain ⟨H, hHe⟩ : ∃ H : Heap, H = s.heap := ⟨_, rfl⟩
  obtain ⟨locs, hLe⟩ : ∃ L : List Loc, L = [] := ⟨_, rfl⟩
  suffices hgo : W p l e (headSpec (Cond.code yX7_file cX7_file 5 (some .int) :: tb) ({ frames := 1, cells := 0, slots := 0, locals := 24 } : Room)).room s m ([.ref o0, vI x, vI y] : List Value).toArray below meth c H locs 0 0 (MQ below (va_Qi (fun (r : Int32) (u : Unit) => r = iI (if y = 0 then kx % 8 else if y = 1 then txR dk (kBl kx) 2 else if y = 2 then kCost kx else if y = 3 then bZ (∀ j : Int, 0 ≤ j ∧ j < fi → j ≠ x → kBl (KK j) 0 ≠ kBl kx 0) else if y = 4 then kSz kx else if y - 5 < kSz kx then kBl kx (y - 5) else -1) ∧ True) (fun (u : Unit) t => zB G [(o0, ob 7 [vI th, .ref (a 1), .ref (a 2), .ref (a 3), .ref (a 4), .ref (a 5), vI mk, .ref (a 7), .ref (a 8), vI bl, .ref (a 10), vI hm, vI rc, .ref (a 13), .ref (a 14), .ref (a 15), vI lk, vI lg, vI kp, vI fi, vI lo, vI wt, .ref (a 22), .ref (a 23), .ref (a 24), .ref (a 25), .ref (a 26), vI gr, .ref (a 28), .ref (a 29), vI eb, vI ec, vI ef, vI iv]), ((a 22), aI G 41 FM), ((a 23), aI G 41 FN), ((a 24), aI G 205 FR), ((a 25), aI G 1517 FD)] s.heap.size [(o0, ob 7 [vI 0, .ref (a 1), .ref (a 2), .ref (a 3), .ref (a 4), .ref (a 5), vI mk, .ref (a 7), .ref (a 8), vI bl, .ref (a 10), vI hm, vI rc, .ref (a 13), .ref (a 14), .ref (a 15), vI lk, vI lg, vI kp, vI fi, vI lo, vI wt, .ref (a 22), .ref (a 23), .ref (a 24), .ref (a 25), .ref (a 26), vI gr, .ref (a 28), .ref (a 29), vI eb, vI ec, vI ef, vI iv]), ((a 22), aI G 41 FM), ((a 23), aI G 41 FN), ((a 24), aI G 205 FR), ((a 25), aI G 1517 FD)] t) (va_A [(o0, ob 7 [vI th, .ref (a 1), .ref (a 2), .ref (a 3), .ref (a 4), .ref (a 5), vI mk, .ref (a 7), .ref (a 8), vI bl, .ref (a 10), vI hm, vI rc, .ref (a 13), .ref (a 14), .ref (a 15), vI lk, vI lg, vI kp, vI fi, vI lo, vI wt, .ref (a 22), .ref (a 23), .ref (a 24), .ref (a 25), .ref (a 26), vI gr, .ref (a 28), .ref (a 29), vI eb, vI ec, vI ef, vI iv]), ((a 22), aI G 41 FM), ((a 23), aI G 41 FN), ((a 24), aI G 205 FR), ((a 25), aI G 1517 FD)] s.heap.size)) ([.ref o0, vI x, vI y] : List Value).toArray s 0 0 (va_A [(o0, ob 7 [vI th, .ref (a 1), .ref (a 2), .ref (a 3), .ref (a 4), .ref (a 5), vI mk, .ref (a 7), .ref (a 8), vI bl, .ref (a 10), vI hm, vI rc, .ref (a 13), .ref (a 14), .ref (a 15), vI lk, vI lg, vI kp, vI fi, vI lo, vI wt, .ref (a 22), .ref (a 23), .ref (a 24), .ref (a 25), .ref (a 26), vI gr, .ref (a 28), .ref (a 29), vI eb, vI ec, vI ef, vI iv]), ((a 22), aI G 41 FM), ((a 23), aI G 41 FN), ((a 24), aI G 205 FR), ((a 25), aI G 1517 FD)] s.heap.size)) (F0 m 0 ls []) by rw [hHe, hLe] at hgo; exact hgo
  rw [← hHe] at hP
  have hS : va_S A s.heap H locs := by rw [hHe, hLe]; exact hS
  clear hHe hLe
  have hsb := kSz_bd kx
  have hs1 := hen.1.2.1
  have hs7 := hen.2.2.1
  have hx0 : FR (5 * x) = kBl kx 0 := by have h9 := hen.2.2.2.1 0 (by omega); rwa [show 5 * x + 0 = 5 * x by omega] at h9
  have hx1 := kBl_bd kx 0
  refine lv_aload_n hx hb dX7_file_0 rfl (lv_at hl 0 rfl) ?_
  refine lv_iload_n hx hb dX7_file_1 rfl (lv_at hl 1 rfl) ?_
  refine z_wVi (q0 := 0) (ci := 7) (b := o0) (rest := []) (wr := [((a 22), aI G 41 FM), ((a 23), aI G 41 FN), ((a 24), aI G 205 FR), ((a 25), aI G 1517 FD)]) hC hK hP hD hS hA (c_X7_isFile_t l G H.size o0 a th mk bl hm rc lk lg kp fi lo wt gr eb ec ef iv x (by omega) (by omega)) mv_X7_isFile tw_1020 [0] [1, 2, 3, 4] rfl rfl rfl rfl (by decide) rfl rfl rfl rfl hl.1 rfl (Nat.le_of_ble_eq_true rfl) ⟨rfl, rfl, Nat.le_of_ble_eq_true rfl, Nat.le_of_ble_eq_true rfl⟩ ⟨Nat.le_of_ble_eq_true rfl, Nat.le_of_ble_eq_true rfl⟩ dX7_file_2 (fun r u H locs hw hP hD hS => ?_)
  have hP : va_P G.1 vwCl [((a 22), aI G 41 FM), ((a 23), aI G 41 FN), ((a 24), aI G 205 FR), ((a 25), aI G 1517 FD), (o0, ob 7 [vI 0, .ref (a 1), .ref (a 2), .ref (a 3), .ref (a 4), .ref (a 5), vI mk, .ref (a 7), .ref (a 8), vI bl, .ref (a 10), vI hm, vI rc, .ref (a 13), .ref (a 14), .ref (a 15), vI lk, vI lg, vI kp, vI fi, vI lo, vI wt, .ref (a 22), .ref (a 23), .ref (a 24), .ref (a 25), .ref (a 26), vI gr, .ref (a 28), .ref (a 29), vI eb, vI ec, vI ef, vI iv])] H := hP
  have hD : va_D A [((a 22), aI G 41 FM), ((a 23), aI G 41 FN), ((a 24), aI G 205 FR), ((a 25), aI G 1517 FD), (o0, ob 7 [vI 0, .ref (a 1), .ref (a 2), .ref (a 3), .ref (a 4), .ref (a 5), vI mk, .ref (a 7), .ref (a 8), vI bl, .ref (a 10), vI hm, vI rc, .ref (a 13), .ref (a 14), .ref (a 15), vI lk, vI lg, vI kp, vI fi, vI lo, vI wt, .ref (a 22), .ref (a 23), .ref (a 24), .ref (a 25), .ref (a 26), vI gr, .ref (a 28), .ref (a 29), vI eb, vI ec, vI ef, vI iv])] := hD
  obtain ⟨hrw_, hw_1⟩ := hw
  rw [hrw_]
  clear hrw_
  clear hw_1
  refine z_if_eq (tgt := 25) hx hb dX7_file_5 (by decide) (by omega) (fun c_5 => ?_) (fun c_5 => ?_)
  · exact absurd c_5 (by decide)
  · refine lv_aload_n hx hb dX7_file_8 rfl (lv_at hl 0 rfl) ?_
    refine lv_iload_n hx hb dX7_file_9 rfl (lv_at hl 2 rfl) ?_
    refine z_if_ge (tgt := 17) hx hb dX7_file_10 (by decide) (by omega) (fun c_10 => ?_) (fun c_10 => ?_)
    · refine lv_iconst (v := iI 0) hx hb dX7_file_17 rfl ?_
      refine lv_iconst (v := iI 2) hx hb dX7_file_18 rfl ?_
      refine z_wVi (q0 := 4) (ci := 7) (b := o0) (rest := []) (wr := [((a 22), aI G 41 FM), ((a 23), aI G 41 FN), ((a 24), aI G 205 FR), ((a 25), aI G 1517 FD)]) hC hK hP hD hS hA (c_X7_bad_0 l G H.size o0 a 0 mk bl hm rc lk lg kp fi lo wt gr eb ec ef iv 2) mv_X7_bad tw_906 [4] [0, 1, 2, 3] rfl rfl rfl rfl (by decide) rfl rfl rfl rfl hl.1 rfl (Nat.le_of_ble_eq_true rfl) ⟨rfl, rfl, Nat.le_of_ble_eq_true rfl, Nat.le_of_ble_eq_true rfl⟩ ⟨Nat.le_of_ble_eq_true rfl, Nat.le_of_ble_eq_true rfl⟩ dX7_file_19 (fun r u H locs hw hP hD hS => ?_)
      have hP : va_P G.1 vwCl [((a 22), aI G 41 FM), ((a 23), aI G 41 FN), ((a 24), aI G 205 FR), ((a 25), aI G 1517 FD), (o0, ob 7 [vI 0, .ref (a 1), .ref (a 2), .ref (a 3), .ref (a 4), .ref (a 5), vI mk, .ref (a 7), .ref (a 8), vI bl, .ref (a 10), vI hm, vI rc, .ref (a 13), .ref (a 14), .ref (a 15), vI lk, vI lg, vI kp, vI fi, vI lo, vI wt, .ref (a 22), .ref (a 23), .ref (a 24), .ref (a 25), .ref (a 26), vI gr, .ref (a 28), .ref (a 29), vI eb, vI ec, vI ef, vI iv])] H := hP
      have hD : va_D A [((a 22), aI G 41 FM), ((a 23), aI G 41 FN), ((a 24), aI G 205 FR), ((a 25), aI G 1517 FD), (o0, ob 7 [vI 0, .ref (a 1), .ref (a 2), .ref (a 3), .ref (a 4), .ref (a 5), vI mk, .ref (a 7), .ref (a 8), vI bl, .ref (a 10), vI hm, vI rc, .ref (a 13), .ref (a 14), .ref (a 15), vI lk, vI lg, vI kp, vI fi, vI lo, vI wt, .ref (a 22), .ref (a 23), .ref (a 24), .ref (a 25), .ref (a 26), vI gr, .ref (a 28), .ref (a 29), vI eb, vI ec, vI ef, vI iv])] := hD
      obtain ⟨hrw_, hw_2⟩ := hw
      rw [hrw_]
      clear hrw_
      clear hw_2
      refine z_if_eq (tgt := 27) hx hb dX7_file_22 (by decide) (by omega) (fun c_22 => ?_) (fun c_22 => ?_)
      · refine lv_iload_n hx hb dX7_file_27 rfl (lv_at hl 2 rfl) ?_
        have hsw_ : (iI y).toInt = y := iI_toInt (by omega)
        by_cases hs0_ : y < 0 ∨ 4 < y
        · refine lv_tableOut (tgt := 153) hx hb dX7_file_28 (by rw [hsw_]; omega) (by decide) ?_
          refine lv_iload_n hx hb dX7_file_153 rfl (lv_at hl 2 rfl) ?_
          refine lv_iconst (v := iI 5) hx hb dX7_file_154 rfl ?_
          refine z_isub hx hb dX7_file_155 ?_
          refine lv_aload_n hx hb dX7_file_156 rfl (lv_at hl 0 rfl) ?_
          refine z_get (v := .ref (a 23)) hC hK hP inX7 rfl 4 rfl 23 (by decide) tw_815 rfl dX7_file_157 ?_
          refine lv_iload_n hx hb dX7_file_160 rfl (lv_at hl 1 rfl) ?_
          refine z_iald hC hK hP 1 rfl (by omega) (by decide) dX7_file_161 ?_
          refine z_icmp_ge (tgt := 180) hx hb dX7_file_162 (by decide) (by omega) (fun c_162 => ?_) (fun c_162 => ?_)
          · refine lv_iconst (v := iI (-1)) hx hb dX7_file_180 rfl ?_
            exact z_iretW hC hr hlk () hAe hP hD hS [4, 0, 1, 2, 3] (by decide) rfl rfl (⟨congrArg iI (by rw [if_neg (by omega), if_neg (by omega), if_neg (by omega), if_neg (by omega), if_neg (by omega)]; first | (rw [if_pos (by have := hen.2.2.1; omega), show 5 * x + y - 5 = 5 * x + (y - 5) by omega]; exact hr5) | (rw [if_neg (by have := hen.2.2.1; omega)])), trivial⟩) dX7_file_181
          · have hr5 := hen.2.2.2.1 (y - 5) (by omega)
            refine lv_aload_n hx hb dX7_file_165 rfl (lv_at hl 0 rfl) ?_
            refine z_get (v := .ref (a 24)) hC hK hP inX7 rfl 4 rfl 24 (by decide) tw_816 rfl dX7_file_166 ?_
            refine lv_iconst (v := iI 5) hx hb dX7_file_169 rfl ?_
            refine lv_iload_n hx hb dX7_file_170 rfl (lv_at hl 1 rfl) ?_
            refine z_imul hx hb dX7_file_171 ?_
            refine lv_iload_n hx hb dX7_file_172 rfl (lv_at hl 2 rfl) ?_
            refine z_iadd hx hb dX7_file_173 ?_
            refine lv_iconst (v := iI 5) hx hb dX7_file_174 rfl ?_
            refine z_isub hx hb dX7_file_175 ?_
            refine z_iald hC hK hP 2 rfl (by omega) (by decide) dX7_file_176 ?_
            refine lv_goto (tgt := 181) hx hb dX7_file_177 (by decide) ?_
            exact z_iretW hC hr hlk () hAe hP hD hS [4, 0, 1, 2, 3] (by decide) rfl rfl (⟨congrArg iI (by rw [if_neg (by omega), if_neg (by omega), if_neg (by omega), if_neg (by omega), if_neg (by omega)]; first | (rw [if_pos (by have := hen.2.2.1; omega), show 5 * x + y - 5 = 5 * x + (y - 5) by omega]; exact hr5) | (rw [if_neg (by have := hen.2.2.1; omega)])), trivial⟩) dX7_file_181
        rcases (show y = 0 ∨ y = 1 ∨ y = 2 ∨ y = 3 ∨ y = 4 by omega) with hs_ | hs_ | hs_ | hs_ | hs_
        · refine lv_tableIn (off := 36) (tgt := 64) hx hb dX7_file_28 (by rw [hsw_]; omega) (by rw [hsw_]; omega) (by rw [hsw_, hs_]; rfl) (by decide) ?_
          refine lv_aload_n hx hb dX7_file_64 rfl (lv_at hl 0 rfl) ?_
          refine z_get (v := .ref (a 22)) hC hK hP inX7 rfl 4 rfl 22 (by decide) tw_814 rfl dX7_file_65 ?_
          refine lv_iload_n hx hb dX7_file_68 rfl (lv_at hl 1 rfl) ?_
          refine z_iald hC hK hP 0 rfl (by omega) (by decide) dX7_file_69 ?_
          exact z_iretW hC hr hlk () hAe hP hD hS [4, 0, 1, 2, 3] (by decide) rfl rfl (⟨congrArg iI (by rw [hs_, if_pos rfl]; exact hen.2.1), trivial⟩) dX7_file_70
        · refine lv_tableIn (off := 43) (tgt := 71) hx hb dX7_file_28 (by rw [hsw_]; omega) (by rw [hsw_]; omega) (by rw [hsw_, hs_]; rfl) (by decide) ?_
          refine lv_aload_n hx hb dX7_file_71 rfl (lv_at hl 0 rfl) ?_
          refine z_get (v := .ref (a 25)) hC hK hP inX7 rfl 4 rfl 25 (by decide) tw_817 rfl dX7_file_72 ?_
          refine lv_bipush (v := iI 37) hx hb dX7_file_75 (by decide) ?_
          refine lv_iload_n hx hb dX7_file_77 rfl (lv_at hl 1 rfl) ?_
          refine z_imul hx hb dX7_file_78 ?_
          refine z_iald hC hK hP 3 rfl (by omega) (by decide) dX7_file_79 ?_
          exact z_iretW hC hr hlk () hAe hP hD hS [4, 0, 1, 2, 3] (by decide) rfl rfl (⟨congrArg iI (by rw [hs_, if_neg (by decide), if_pos rfl]; have h9 := hen.2.2.2.2.2 0 (by have : 0 ≤ txR dk (kBl kx) 2 := (byZ_bd _ _).1; omega); rw [show 37 * x + 0 = 37 * x by omega] at h9; exact h9), trivial⟩) dX7_file_80
        · refine lv_tableIn (off := 53) (tgt := 81) hx hb dX7_file_28 (by rw [hsw_]; omega) (by rw [hsw_]; omega) (by rw [hsw_, hs_]; rfl) (by decide) ?_
          refine lv_aload_n hx hb dX7_file_81 rfl (lv_at hl 0 rfl) ?_
          refine lv_iload_n hx hb dX7_file_82 rfl (lv_at hl 1 rfl) ?_
          refine z_rVi (q0 := 4) (ci := 7) (b := o0) (rest := []) hC hK hP (c_X7_costOf l G o0 a 0 mk bl hm rc lk lg kp fi lo wt gr eb ec ef iv FN FR x kx (by omega) (hen.2.2.1) (hen.2.2.2.1)) mv_X7_costOf tw_1008 [4, 1, 2] rfl rfl rfl rfl hl.1 rfl (Nat.le_of_ble_eq_true rfl) ⟨rfl, rfl, Nat.le_of_ble_eq_true rfl, Nat.le_of_ble_eq_true rfl⟩ ⟨Nat.le_of_ble_eq_true rfl, Nat.le_of_ble_eq_true rfl⟩ dX7_file_83 ?_
          exact z_iretW hC hr hlk () hAe hP hD hS [4, 0, 1, 2, 3] (by decide) rfl rfl (⟨congrArg iI (by rw [hs_]; rfl), trivial⟩) dX7_file_86
        · refine lv_tableIn (off := 59) (tgt := 87) hx hb dX7_file_28 (by rw [hsw_]; omega) (by rw [hsw_]; omega) (by rw [hsw_, hs_]; rfl) (by decide) ?_
          refine lv_iconst (v := iI 0) hx hb dX7_file_87 rfl ?_
          refine lv_istore_n (lv' := [(3, vI 0), (0, .ref o0), (1, vI x), (2, vI y)]) hx hb dX7_file_88 rfl hl (by decide) rfl (fun ls hl => ?_)
          refine lv_iconst (v := iI 0) hx hb dX7_file_89 rfl ?_
          refine lv_istore (lv' := [(4, vI 0), (3, vI 0), (0, .ref o0), (1, vI x), (2, vI y)]) hx hb dX7_file_90 hl (by decide) rfl (fun ls hl => ?_)
          have cut_92 : ∀ (n_ : Nat) (qf : Int) (qs : Int) (H : Heap) (locs : List Loc) (ls : Array Slot), va_P G.1 vwCl [((a 22), aI G 41 FM), ((a 23), aI G 41 FN), ((a 24), aI G 205 FR), ((a 25), aI G 1517 FD), (o0, ob 7 [vI 0, .ref (a 1), .ref (a 2), .ref (a 3), .ref (a 4), .ref (a 5), vI mk, .ref (a 7), .ref (a 8), vI bl, .ref (a 10), vI hm, vI rc, .ref (a 13), .ref (a 14), .ref (a 15), vI lk, vI lg, vI kp, vI fi, vI lo, vI wt, .ref (a 22), .ref (a 23), .ref (a 24), .ref (a 25), .ref (a 26), vI gr, .ref (a 28), .ref (a 29), vI eb, vI ec, vI ef, vI iv])] H → va_D A [((a 22), aI G 41 FM), ((a 23), aI G 41 FN), ((a 24), aI G 205 FR), ((a 25), aI G 1517 FD), (o0, ob 7 [vI 0, .ref (a 1), .ref (a 2), .ref (a 3), .ref (a 4), .ref (a 5), vI mk, .ref (a 7), .ref (a 8), vI bl, .ref (a 10), vI hm, vI rc, .ref (a 13), .ref (a 14), .ref (a 15), vI lk, vI lg, vI kp, vI fi, vI lo, vI wt, .ref (a 22), .ref (a 23), .ref (a 24), .ref (a 25), .ref (a 26), vI gr, .ref (a 28), .ref (a 29), vI eb, vI ec, vI ef, vI iv])] → va_S A s.heap H locs → lv_has ls 5 [(0, .ref o0), (1, vI x), (2, vI y), (3, vI qs), (4, vI qf)] → (0 ≤ qf ∧ qf ≤ fi) → (qs = sumZ (fun j => if FR (5 * j) = FR (5 * x) then (1 : Int) else 0) qf.toNat) → (0 ≤ qs ∧ qs ≤ qf) → (fi - qf).toNat < n_ → W p l e (headSpec (Cond.code yX7_file cX7_file 5 (some .int) :: tb) ({ frames := 1, cells := 0, slots := 0, locals := 24 } : Room)).room s m ([.ref o0, vI x, vI y] : List Value).toArray below meth c H locs 0 0 (MQ below (va_Qi (fun (r : Int32) (u : Unit) => r = iI (if y = 0 then kx % 8 else if y = 1 then txR dk (kBl kx) 2 else if y = 2 then kCost kx else if y = 3 then bZ (∀ j : Int, 0 ≤ j ∧ j < fi → j ≠ x → kBl (KK j) 0 ≠ kBl kx 0) else if y = 4 then kSz kx else if y - 5 < kSz kx then kBl kx (y - 5) else -1) ∧ True) (fun (u : Unit) t => zB G [(o0, ob 7 [vI th, .ref (a 1), .ref (a 2), .ref (a 3), .ref (a 4), .ref (a 5), vI mk, .ref (a 7), .ref (a 8), vI bl, .ref (a 10), vI hm, vI rc, .ref (a 13), .ref (a 14), .ref (a 15), vI lk, vI lg, vI kp, vI fi, vI lo, vI wt, .ref (a 22), .ref (a 23), .ref (a 24), .ref (a 25), .ref (a 26), vI gr, .ref (a 28), .ref (a 29), vI eb, vI ec, vI ef, vI iv]), ((a 22), aI G 41 FM), ((a 23), aI G 41 FN), ((a 24), aI G 205 FR), ((a 25), aI G 1517 FD)] s.heap.size [(o0, ob 7 [vI 0, .ref (a 1), .ref (a 2), .ref (a 3), .ref (a 4), .ref (a 5), vI mk, .ref (a 7), .ref (a 8), vI bl, .ref (a 10), vI hm, vI rc, .ref (a 13), .ref (a 14), .ref (a 15), vI lk, vI lg, vI kp, vI fi, vI lo, vI wt, .ref (a 22), .ref (a 23), .ref (a 24), .ref (a 25), .ref (a 26), vI gr, .ref (a 28), .ref (a 29), vI eb, vI ec, vI ef, vI iv]), ((a 22), aI G 41 FM), ((a 23), aI G 41 FN), ((a 24), aI G 205 FR), ((a 25), aI G 1517 FD)] t) (va_A [(o0, ob 7 [vI th, .ref (a 1), .ref (a 2), .ref (a 3), .ref (a 4), .ref (a 5), vI mk, .ref (a 7), .ref (a 8), vI bl, .ref (a 10), vI hm, vI rc, .ref (a 13), .ref (a 14), .ref (a 15), vI lk, vI lg, vI kp, vI fi, vI lo, vI wt, .ref (a 22), .ref (a 23), .ref (a 24), .ref (a 25), .ref (a 26), vI gr, .ref (a 28), .ref (a 29), vI eb, vI ec, vI ef, vI iv]), ((a 22), aI G 41 FM), ((a 23), aI G 41 FN), ((a 24), aI G 205 FR), ((a 25), aI G 1517 FD)] s.heap.size)) ([.ref o0, vI x, vI y] : List Value).toArray s 0 0 (va_A [(o0, ob 7 [vI th, .ref (a 1), .ref (a 2), .ref (a 3), .ref (a 4), .ref (a 5), vI mk, .ref (a 7), .ref (a 8), vI bl, .ref (a 10), vI hm, vI rc, .ref (a 13), .ref (a 14), .ref (a 15), vI lk, vI lg, vI kp, vI fi, vI lo, vI wt, .ref (a 22), .ref (a 23), .ref (a 24), .ref (a 25), .ref (a 26), vI gr, .ref (a 28), .ref (a 29), vI eb, vI ec, vI ef, vI iv]), ((a 22), aI G 41 FM), ((a 23), aI G 41 FN), ((a 24), aI G 205 FR), ((a 25), aI G 1517 FD)] s.heap.size)) (F0 m 92 ls []) := by
            intro n_
            induction n_ with
            | zero => exact fun qf qs H locs ls hP hD hS hl hqf hqs hqb hm_ => absurd hm_ (Nat.not_lt_zero _)
            | succ n_ ih_92 =>
              intro qf qs H locs ls hP hD hS hl hqf hqs hqb hm_
              refine lv_iload hx hb dX7_file_92 (lv_at hl 4 rfl) ?_
              refine lv_aload_n hx hb dX7_file_94 rfl (lv_at hl 0 rfl) ?_
              refine z_get (v := vI fi) hC hK hP inX7 rfl 4 rfl 19 (by decide) tw_811 rfl dX7_file_95 ?_
              refine z_icmp_ge (tgt := 135) hx hb dX7_file_98 (by decide) (by omega) (fun c_98 => ?_) (fun c_98 => ?_)
              · have hct := cnt_1 (g := (fun j => if FR (5 * j) = FR (5 * x) then (1 : Int) else 0)) (x := x) (fun j => by show (if _ then (1 : Int) else 0) = 0 ∨ (if _ then (1 : Int) else 0) = 1; split <;> simp) (if_pos rfl) hxf.1 fi.toNat
                rw [Int.toNat_of_nonneg hfi.1, if_pos hxf.2] at hct
                have hqe : qs = sumZ (fun j => if FR (5 * j) = FR (5 * x) then (1 : Int) else 0) fi.toNat := by rw [hqs, show qf = fi by omega]
                have hiff : qs = 1 ↔ ∀ j : Int, 0 ≤ j ∧ j < fi → j ≠ x → kBl (KK j) 0 ≠ kBl kx 0 := by rw [hqe, hct.2]; exact ⟨fun h j hj hn e => by have h9 : (if FR (5 * j) = FR (5 * x) then (1 : Int) else 0) = 0 := h j hj hn; rw [if_pos (by rw [hkk j hj, hx0]; exact e)] at h9; omega, fun h j hj hn => if_neg (fun e => h j hj hn (by rw [← hkk j hj, ← hx0]; exact e))⟩
                refine lv_iload_n hx hb dX7_file_135 rfl (lv_at hl 3 rfl) ?_
                refine lv_iconst (v := iI 1) hx hb dX7_file_136 rfl ?_
                refine z_icmp_ne (tgt := 144) hx hb dX7_file_137 (by decide) (by omega) (fun c_137 => ?_) (fun c_137 => ?_)
                · refine lv_iconst (v := iI 0) hx hb dX7_file_144 rfl ?_
                  exact z_iretW hC hr hlk () hAe hP hD hS [4, 0, 1, 2, 3] (by decide) rfl rfl (⟨congrArg iI (by rw [hs_, if_neg (by decide), if_neg (by decide), if_neg (by decide), if_pos rfl]; first | exact (bZ_t (hiff.mp c_137)).symm | exact (bZ_f (fun h => c_137 (hiff.mpr h))).symm), trivial⟩) dX7_file_145
                · refine lv_iconst (v := iI 1) hx hb dX7_file_140 rfl ?_
                  refine lv_goto (tgt := 145) hx hb dX7_file_141 (by decide) ?_
                  exact z_iretW hC hr hlk () hAe hP hD hS [4, 0, 1, 2, 3] (by decide) rfl rfl (⟨congrArg iI (by rw [hs_, if_neg (by decide), if_neg (by decide), if_neg (by decide), if_pos rfl]; first | exact (bZ_t (hiff.mp c_137)).symm | exact (bZ_f (fun h => c_137 (hiff.mpr h))).symm), trivial⟩) dX7_file_145
              · have hkf := hkk qf (by omega)
                have hkb := kBl_bd (KK qf) 0
                refine lv_iload_n hx hb dX7_file_101 rfl (lv_at hl 3 rfl) ?_
                refine lv_aload_n hx hb dX7_file_102 rfl (lv_at hl 0 rfl) ?_
                refine z_get (v := .ref (a 24)) hC hK hP inX7 rfl 4 rfl 24 (by decide) tw_816 rfl dX7_file_103 ?_
                refine lv_iconst (v := iI 5) hx hb dX7_file_106 rfl ?_
                refine lv_iload hx hb dX7_file_107 (lv_at hl 4 rfl) ?_
                refine z_imul hx hb dX7_file_109 ?_
                refine z_iald hC hK hP 2 rfl (by omega) (by decide) dX7_file_110 ?_
                refine lv_aload_n hx hb dX7_file_111 rfl (lv_at hl 0 rfl) ?_
                refine z_get (v := .ref (a 24)) hC hK hP inX7 rfl 4 rfl 24 (by decide) tw_816 rfl dX7_file_112 ?_
                refine lv_iconst (v := iI 5) hx hb dX7_file_115 rfl ?_
                refine lv_iload_n hx hb dX7_file_116 rfl (lv_at hl 1 rfl) ?_
                refine z_imul hx hb dX7_file_117 ?_
                refine z_iald hC hK hP 2 rfl (by omega) (by decide) dX7_file_118 ?_
                refine z_icmp_ne (tgt := 126) hx hb dX7_file_119 (by decide) (by omega) (fun c_119 => ?_) (fun c_119 => ?_)
                · refine lv_iconst (v := iI 0) hx hb dX7_file_126 rfl ?_
                  refine z_iadd hx hb dX7_file_127 ?_
                  refine lv_istore_n (lv' := [(3, vI (qs + 0)), (0, .ref o0), (1, vI x), (2, vI y), (4, vI qf)]) hx hb dX7_file_128 rfl hl (by decide) rfl (fun ls hl => ?_)
                  refine z_iinc (k := 4) (lv' := [(4, vI (qf + 1)), (3, vI (qs + 0)), (0, .ref o0), (1, vI x), (2, vI y)]) hx hb dX7_file_129 hl rfl (by decide) rfl (fun ls hl => ?_)
                  refine lv_goto (tgt := 92) hx hb dX7_file_132 (by decide) ?_
                  exact ih_92 (qf + 1) (qs + 0) H locs ls hP hD hS (lv_sub hl [2, 3, 4, 1, 0] rfl) (by omega) (by rw [← sumZ_s (g := (fun j => if FR (5 * j) = FR (5 * x) then (1 : Int) else 0)) (by omega) hqs]; first | exact congrArg (qs + ·) (if_pos c_119).symm | exact congrArg (qs + ·) (if_neg c_119).symm) (by omega) (by omega)
                · refine lv_iconst (v := iI 1) hx hb dX7_file_122 rfl ?_
                  refine lv_goto (tgt := 127) hx hb dX7_file_123 (by decide) ?_
                  refine z_iadd hx hb dX7_file_127 ?_
                  refine lv_istore_n (lv' := [(3, vI (qs + 1)), (0, .ref o0), (1, vI x), (2, vI y), (4, vI qf)]) hx hb dX7_file_128 rfl hl (by decide) rfl (fun ls hl => ?_)
                  refine z_iinc (k := 4) (lv' := [(4, vI (qf + 1)), (3, vI (qs + 1)), (0, .ref o0), (1, vI x), (2, vI y)]) hx hb dX7_file_129 hl rfl (by decide) rfl (fun ls hl => ?_)
                  refine lv_goto (tgt := 92) hx hb dX7_file_132 (by decide) ?_
                  exact ih_92 (qf + 1) (qs + 1) H locs ls hP hD hS (lv_sub hl [2, 3, 4, 1, 0] rfl) (by omega) (by rw [← sumZ_s (g := (fun j => if FR (5 * j) = FR (5 * x) then (1 : Int) else 0)) (by omega) hqs]; first | exact congrArg (qs + ·) (if_pos c_119).symm | exact congrArg (qs + ·) (if_neg c_119).symm) (by omega) (by omega)
          exact cut_92 ((fi - (0 : Int)).toNat + 1) 0 0 H locs ls hP hD hS (lv_sub hl [2, 3, 4, 1, 0] rfl) (by omega) (rfl) (by omega) (Nat.lt_succ_self _)
        · refine lv_tableIn (off := 118) (tgt := 146) hx hb dX7_file_28 (by rw [hsw_]; omega) (by rw [hsw_]; omega) (by rw [hsw_, hs_]; rfl) (by decide) ?_
          refine lv_aload_n hx hb dX7_file_146 rfl (lv_at hl 0 rfl) ?_
          refine z_get (v := .ref (a 23)) hC hK hP inX7 rfl 4 rfl 23 (by decide) tw_815 rfl dX7_file_147 ?_
          refine lv_iload_n hx hb dX7_file_150 rfl (lv_at hl 1 rfl) ?_
          refine z_iald hC hK hP 1 rfl (by omega) (by decide) dX7_file_151 ?_
          exact z_iretW hC hr hlk () hAe hP hD hS [4, 0, 1, 2, 3] (by decide) rfl rfl (⟨congrArg iI (by rw [hs_]; exact hen.2.2.1), trivial⟩) dX7_file_152
      · exact absurd c_22 (by decide)
    · exfalso; omega
