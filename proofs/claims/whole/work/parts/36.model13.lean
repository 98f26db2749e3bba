/-! the model's covers -/
theorem pkL_app (BE : Int → Int) (k : Nat) : ∀ n : Nat, ∃ t : List Int, pkL BE (k + n) = pkL BE k ++ t := by
  intro n
  induction n with
  | zero => exact ⟨[], (List.append_nil _).symm⟩
  | succ n ih =>
    obtain ⟨t, ht⟩ := ih
    exact ⟨t ++ (if 0 ≤ BE ((k + n : Nat) : Int) then [BE ((k + n : Nat) : Int)] else []), by
      show pkL BE (k + n) ++ _ = _
      rw [ht, List.append_assoc]
      rfl⟩
theorem pkL_at {BE : Int → Int} {k : Nat} (hk : k < 6) (hv : 0 ≤ BE (k : Int)) : (pkL BE 6).getD (pkL BE k).length (-1) = BE (k : Int) := by
  obtain ⟨t, ht⟩ := pkL_app BE (k + 1) (5 - k)
  rw [show k + 1 + (5 - k) = 6 by omega] at ht
  have e : pkL BE (k + 1) = pkL BE k ++ [BE (k : Int)] := by show pkL BE k ++ _ = _; rw [if_pos hv]
  rw [ht, e, List.append_assoc, List.getD_eq_getElem?_getD, List.getElem?_append_right (Nat.le_refl _), Nat.sub_self]
  rfl
theorem pkL_out {BE : Int → Int} {i : Nat} (h : (pkL BE 6).length ≤ i) : (pkL BE 6).getD i (-1) = -1 := by
  rw [List.getD_eq_getElem?_getD, List.getElem?_eq_none h]
  rfl
theorem pkL_1 {BE : Int → Int} {i : Int} (hi : 0 ≤ i) (hv : 0 ≤ BE i) : (pkL BE (i + 1).toNat).length = (pkL BE i.toNat).length + 1 := by
  rw [show (i + 1).toNat = i.toNat + 1 by omega]
  show (pkL BE i.toNat ++ (if 0 ≤ BE (i.toNat : Int) then _ else _)).length = _
  rw [Int.toNat_of_nonneg hi, if_pos hv, List.length_append]
  rfl
theorem pkL_2 {BE : Int → Int} {i : Int} (hi : 0 ≤ i) (hv : ¬ 0 ≤ BE i) : (pkL BE (i + 1).toNat).length = (pkL BE i.toNat).length := by
  rw [show (i + 1).toNat = i.toNat + 1 by omega]
  show (pkL BE i.toNat ++ (if 0 ≤ BE (i.toNat : Int) then _ else _)).length = _
  rw [Int.toNat_of_nonneg hi, if_neg hv, List.append_nil]
set_option maxRecDepth 100000 in
set_option maxHeartbeats 4000000 in
theorem c_X7_covers (l : Launch) (G : zGt) (sz : Nat) (o0 : Nat) (a : Nat → Nat) (th mk bl hm rc lk lg kp fi lo wt gr eb ec ef iv : Int) (BE : Int → Int) (x : Int) (hx : -2147483648 ≤ x ∧ x < 2147483648) (hiv : iv = 0 ∨ iv = 1) (hbe : ∀ j : Int, 0 ≤ j ∧ j < 6 → -1 ≤ BE j ∧ BE j < 41) : Met l yX7_covers (Cond.code yX7_covers cX7_covers 4 (some .int) :: tb) ({ frames := 0, cells := 0, slots := 0, locals := 0 } : Room) (zPw G [(o0, ob 7 [vI th, .ref (a 1), .ref (a 2), .ref (a 3), .ref (a 4), .ref (a 5), vI mk, .ref (a 7), .ref (a 8), vI bl, .ref (a 10), vI hm, vI rc, .ref (a 13), .ref (a 14), .ref (a 15), vI lk, vI lg, vI kp, vI fi, vI lo, vI wt, .ref (a 22), .ref (a 23), .ref (a 24), .ref (a 25), .ref (a 26), vI gr, .ref (a 28), .ref (a 29), vI eb, vI ec, vI ef, vI iv]), ((a 29), aI G 6 BE)] sz [.ref o0, vI x]) (va_Qi (fun (r : Int32) (u : Unit) => r = iI (if iv = 1 ∧ 0 ≤ x then (pkL BE 6).getD x.toNat (-1) else -1) ∧ True) (fun (u : Unit) t => zB G [(o0, ob 7 [vI th, .ref (a 1), .ref (a 2), .ref (a 3), .ref (a 4), .ref (a 5), vI mk, .ref (a 7), .ref (a 8), vI bl, .ref (a 10), vI hm, vI rc, .ref (a 13), .ref (a 14), .ref (a 15), vI lk, vI lg, vI kp, vI fi, vI lo, vI wt, .ref (a 22), .ref (a 23), .ref (a 24), .ref (a 25), .ref (a 26), vI gr, .ref (a 28), .ref (a 29), vI eb, vI ec, vI ef, vI iv]), ((a 29), aI G 6 BE)] sz [(o0, ob 7 [vI 0, .ref (a 1), .ref (a 2), .ref (a 3), .ref (a 4), .ref (a 5), vI mk, .ref (a 7), .ref (a 8), vI bl, .ref (a 10), vI hm, vI rc, .ref (a 13), .ref (a 14), .ref (a 15), vI lk, vI lg, vI kp, vI fi, vI lo, vI wt, .ref (a 22), .ref (a 23), .ref (a 24), .ref (a 25), .ref (a 26), vI gr, .ref (a 28), .ref (a 29), vI eb, vI ec, vI ef, vI iv]), ((a 29), aI G 6 BE)] t) (va_A [(o0, ob 7 [vI th, .ref (a 1), .ref (a 2), .ref (a 3), .ref (a 4), .ref (a 5), vI mk, .ref (a 7), .ref (a 8), vI bl, .ref (a 10), vI hm, vI rc, .ref (a 13), .ref (a 14), .ref (a 15), vI lk, vI lg, vI kp, vI fi, vI lo, vI wt, .ref (a 22), .ref (a 23), .ref (a 24), .ref (a 25), .ref (a 26), vI gr, .ref (a 28), .ref (a 29), vI eb, vI ec, vI ef, vI iv]), ((a 29), aI G 6 BE)] sz)) 0 0 (va_A [(o0, ob 7 [vI th, .ref (a 1), .ref (a 2), .ref (a 3), .ref (a 4), .ref (a 5), vI mk, .ref (a 7), .ref (a 8), vI bl, .ref (a 10), vI hm, vI rc, .ref (a 13), .ref (a 14), .ref (a 15), vI lk, vI lg, vI kp, vI fi, vI lo, vI wt, .ref (a 22), .ref (a 23), .ref (a 24), .ref (a 25), .ref (a 26), vI gr, .ref (a 28), .ref (a 29), vI eb, vI ec, vI ef, vI iv]), ((a 29), aI G 6 BE)] sz) := by
  refine Met.ofW (cc := cX7_covers) (maxL := 4) (ret := (some .int)) (by decide) rfl ?_
  intro p e s m args below meth c s₁ B hml hv
  obtain ⟨rfl, hsz, hP, hK, hD0⟩ := hv
  subst hsz
  have hD := hD0.self (sz := s.heap.size)
  obtain ⟨A, hAe⟩ : ∃ A : Nat → Prop, A = va_A [(o0, ob 7 [vI th, .ref (a 1), .ref (a 2), .ref (a 3), .ref (a 4), .ref (a 5), vI mk, .ref (a 7), .ref (a 8), vI bl, .ref (a 10), vI hm, vI rc, .ref (a 13), .ref (a 14), .ref (a 15), vI lk, vI lg, vI kp, vI fi, vI lo, vI wt, .ref (a 22), .ref (a 23), .ref (a 24), .ref (a 25), .ref (a 26), vI gr, .ref (a 28), .ref (a 29), vI eb, vI ec, vI ef, vI iv]), ((a 29), aI G 6 BE)] s.heap.size := ⟨_, rfl⟩
  rw [← hAe] at hD
  have hA : ∀ q : Nat, s.heap.size ≤ q → A q := fun q h => by rw [hAe]; exact Or.inr h
  have hS : va_S A s.heap s.heap [] := va_S.rf
  obtain ⟨hC, hr, hlk⟩ := z_begin B hml
  have hC : CallFix p m c cX7_covers 4 s _ tb RX7 := hC
  have hx := hC.1
  have hb := hC.2.1
  have hl := lv_entry ([.ref o0, vI x]) (n := 4) (Nat.le_of_ble_eq_true rfl)
  rw [lg_entry_eq]
  generalize (lg_sl ([.ref o0, vI x]) ++ List.replicate (4 - (lg_sl ([.ref o0, vI x])).length) Slot.unset).toArray = ls at hl ⊢
  have hl : lv_has ls 4 [(0, .ref o0), (1, vI x)] := hl
  obtain ⟨H, hHe⟩ : ∃ H : Heap, H = s.heap := ⟨_, rfl⟩
  obtain ⟨locs, hLe⟩ : ∃ L : List Loc, L = [] := ⟨_, rfl⟩
  suffices hgo : W p l e (headSpec (Cond.code yX7_covers cX7_covers 4 (some .int) :: tb) ({ frames := 0, cells := 0, slots := 0, locals := 0 } : Room)).room s m ([.ref o0, vI x] : List Value).toArray below meth c H locs 0 0 (MQ below (va_Qi (fun (r : Int32) (u : Unit) => r = iI (if iv = 1 ∧ 0 ≤ x then (pkL BE 6).getD x.toNat (-1) else -1) ∧ True) (fun (u : Unit) t => zB G [(o0, ob 7 [vI th, .ref (a 1), .ref (a 2), .ref (a 3), .ref (a 4), .ref (a 5), vI mk, .ref (a 7), .ref (a 8), vI bl, .ref (a 10), vI hm, vI rc, .ref (a 13), .ref (a 14), .ref (a 15), vI lk, vI lg, vI kp, vI fi, vI lo, vI wt, .ref (a 22), .ref (a 23), .ref (a 24), .ref (a 25), .ref (a 26), vI gr, .ref (a 28), .ref (a 29), vI eb, vI ec, vI ef, vI iv]), ((a 29), aI G 6 BE)] s.heap.size [(o0, ob 7 [vI 0, .ref (a 1), .ref (a 2), .ref (a 3), .ref (a 4), .ref (a 5), vI mk, .ref (a 7), .ref (a 8), vI bl, .ref (a 10), vI hm, vI rc, .ref (a 13), .ref (a 14), .ref (a 15), vI lk, vI lg, vI kp, vI fi, vI lo, vI wt, .ref (a 22), .ref (a 23), .ref (a 24), .ref (a 25), .ref (a 26), vI gr, .ref (a 28), .ref (a 29), vI eb, vI ec, vI ef, vI iv]), ((a 29), aI G 6 BE)] t) (va_A [(o0, ob 7 [vI th, .ref (a 1), .ref (a 2), .ref (a 3), .ref (a 4), .ref (a 5), vI mk, .ref (a 7), .ref (a 8), vI bl, .ref (a 10), vI hm, vI rc, .ref (a 13), .ref (a 14), .ref (a 15), vI lk, vI lg, vI kp, vI fi, vI lo, vI wt, .ref (a 22), .ref (a 23), .ref (a 24), .ref (a 25), .ref (a 26), vI gr, .ref (a 28), .ref (a 29), vI eb, vI ec, vI ef, vI iv]), ((a 29), aI G 6 BE)] s.heap.size)) ([.ref o0, vI x] : List Value).toArray s 0 0 (va_A [(o0, ob 7 [vI th, .ref (a 1), .ref (a 2), .ref (a 3), .ref (a 4), .ref (a 5), vI mk, .ref (a 7), .ref (a 8), vI bl, .ref (a 10), vI hm, vI rc, .ref (a 13), .ref (a 14), .ref (a 15), vI lk, vI lg, vI kp, vI fi, vI lo, vI wt, .ref (a 22), .ref (a 23), .ref (a 24), .ref (a 25), .ref (a 26), vI gr, .ref (a 28), .ref (a 29), vI eb, vI ec, vI ef, vI iv]), ((a 29), aI G 6 BE)] s.heap.size)) (F0 m 0 ls []) by rw [hHe, hLe] at hgo; exact hgo
  rw [← hHe] at hP
  have hS : va_S A s.heap H locs := by rw [hHe, hLe]; exact hS
  clear hHe hLe
  refine lv_aload_n hx hb dX7_covers_0 rfl (lv_at hl 0 rfl) ?_
  refine lv_iconst (v := iI 0) hx hb dX7_covers_1 rfl ?_
  refine z_put (ws' := [(o0, ob 7 [vI 0, .ref (a 1), .ref (a 2), .ref (a 3), .ref (a 4), .ref (a 5), vI mk, .ref (a 7), .ref (a 8), vI bl, .ref (a 10), vI hm, vI rc, .ref (a 13), .ref (a 14), .ref (a 15), vI lk, vI lg, vI kp, vI fi, vI lo, vI wt, .ref (a 22), .ref (a 23), .ref (a 24), .ref (a 25), .ref (a 26), vI gr, .ref (a 28), .ref (a 29), vI eb, vI ec, vI ef, vI iv]), ((a 29), aI G 6 BE)]) hC hK hP hD hS inX7 tyX7 tyX7_ok nmX7 rfl 0 rfl 0 (by decide) tw_792 rfl rfl rfl (Nat.le_of_ble_eq_true rfl) rfl dX7_covers_2 (fun H locs hP hD hS => ?_)
  refine lv_iload_n hx hb dX7_covers_5 rfl (lv_at hl 1 rfl) ?_
  refine lv_istore_n (lv' := [(2, vI x), (0, .ref o0), (1, vI x)]) hx hb dX7_covers_6 rfl hl (by decide) rfl (fun ls hl => ?_)
  refine lv_iconst (v := iI 0) hx hb dX7_covers_7 rfl ?_
  refine lv_istore_n (lv' := [(3, vI 0), (2, vI x), (0, .ref o0), (1, vI x)]) hx hb dX7_covers_8 rfl hl (by decide) rfl (fun ls hl => ?_)
  have cut_9 : ∀ (n_ : Nat) (qg : Int) (ql : Int) (H : Heap) (locs : List Loc) (ls : Array Slot), va_P G.1 vwCl [(o0, ob 7 [vI 0, .ref (a 1), .ref (a 2), .ref (a 3), .ref (a 4), .ref (a 5), vI mk, .ref (a 7), .ref (a 8), vI bl, .ref (a 10), vI hm, vI rc, .ref (a 13), .ref (a 14), .ref (a 15), vI lk, vI lg, vI kp, vI fi, vI lo, vI wt, .ref (a 22), .ref (a 23), .ref (a 24), .ref (a 25), .ref (a 26), vI gr, .ref (a 28), .ref (a 29), vI eb, vI ec, vI ef, vI iv]), ((a 29), aI G 6 BE)] H → va_D A [(o0, ob 7 [vI 0, .ref (a 1), .ref (a 2), .ref (a 3), .ref (a 4), .ref (a 5), vI mk, .ref (a 7), .ref (a 8), vI bl, .ref (a 10), vI hm, vI rc, .ref (a 13), .ref (a 14), .ref (a 15), vI lk, vI lg, vI kp, vI fi, vI lo, vI wt, .ref (a 22), .ref (a 23), .ref (a 24), .ref (a 25), .ref (a 26), vI gr, .ref (a 28), .ref (a 29), vI eb, vI ec, vI ef, vI iv]), ((a 29), aI G 6 BE)] → va_S A s.heap H locs → lv_has ls 4 [(0, .ref o0), (1, vI x), (2, vI ql), (3, vI qg)] → (0 ≤ qg ∧ qg ≤ 6) → (0 < qg → iv = 1 ∧ 0 ≤ x) → (ql = x - ((pkL BE qg.toNat).length : Int)) → (0 ≤ x → 0 ≤ ql) → (6 - qg).toNat < n_ → W p l e (headSpec (Cond.code yX7_covers cX7_covers 4 (some .int) :: tb) ({ frames := 0, cells := 0, slots := 0, locals := 0 } : Room)).room s m ([.ref o0, vI x] : List Value).toArray below meth c H locs 0 0 (MQ below (va_Qi (fun (r : Int32) (u : Unit) => r = iI (if iv = 1 ∧ 0 ≤ x then (pkL BE 6).getD x.toNat (-1) else -1) ∧ True) (fun (u : Unit) t => zB G [(o0, ob 7 [vI th, .ref (a 1), .ref (a 2), .ref (a 3), .ref (a 4), .ref (a 5), vI mk, .ref (a 7), .ref (a 8), vI bl, .ref (a 10), vI hm, vI rc, .ref (a 13), .ref (a 14), .ref (a 15), vI lk, vI lg, vI kp, vI fi, vI lo, vI wt, .ref (a 22), .ref (a 23), .ref (a 24), .ref (a 25), .ref (a 26), vI gr, .ref (a 28), .ref (a 29), vI eb, vI ec, vI ef, vI iv]), ((a 29), aI G 6 BE)] s.heap.size [(o0, ob 7 [vI 0, .ref (a 1), .ref (a 2), .ref (a 3), .ref (a 4), .ref (a 5), vI mk, .ref (a 7), .ref (a 8), vI bl, .ref (a 10), vI hm, vI rc, .ref (a 13), .ref (a 14), .ref (a 15), vI lk, vI lg, vI kp, vI fi, vI lo, vI wt, .ref (a 22), .ref (a 23), .ref (a 24), .ref (a 25), .ref (a 26), vI gr, .ref (a 28), .ref (a 29), vI eb, vI ec, vI ef, vI iv]), ((a 29), aI G 6 BE)] t) (va_A [(o0, ob 7 [vI th, .ref (a 1), .ref (a 2), .ref (a 3), .ref (a 4), .ref (a 5), vI mk, .ref (a 7), .ref (a 8), vI bl, .ref (a 10), vI hm, vI rc, .ref (a 13), .ref (a 14), .ref (a 15), vI lk, vI lg, vI kp, vI fi, vI lo, vI wt, .ref (a 22), .ref (a 23), .ref (a 24), .ref (a 25), .ref (a 26), vI gr, .ref (a 28), .ref (a 29), vI eb, vI ec, vI ef, vI iv]), ((a 29), aI G 6 BE)] s.heap.size)) ([.ref o0, vI x] : List Value).toArray s 0 0 (va_A [(o0, ob 7 [vI th, .ref (a 1), .ref (a 2), .ref (a 3), .ref (a 4), .ref (a 5), vI mk, .ref (a 7), .ref (a 8), vI bl, .ref (a 10), vI hm, vI rc, .ref (a 13), .ref (a 14), .ref (a 15), vI lk, vI lg, vI kp, vI fi, vI lo, vI wt, .ref (a 22), .ref (a 23), .ref (a 24), .ref (a 25), .ref (a 26), vI gr, .ref (a 28), .ref (a 29), vI eb, vI ec, vI ef, vI iv]), ((a 29), aI G 6 BE)] s.heap.size)) (F0 m 9 ls []) := by
    intro n_
    induction n_ with
    | zero => exact fun qg ql H locs ls hP hD hS hl hqg hqi hql hqn hm_ => absurd hm_ (Nat.not_lt_zero _)
    | succ n_ ih_9 =>
      intro qg ql H locs ls hP hD hS hl hqg hqi hql hqn hm_
      refine lv_iload_n hx hb dX7_covers_9 rfl (lv_at hl 3 rfl) ?_
      refine lv_bipush (v := iI 6) hx hb dX7_covers_10 (by decide) ?_
      refine z_icmp_ge (tgt := 58) hx hb dX7_covers_12 (by decide) (by omega) (fun c_12 => ?_) (fun c_12 => ?_)
      · refine lv_iconst (v := iI (-1)) hx hb dX7_covers_58 rfl ?_
        exact z_iretW hC hr hlk () hAe hP hD hS [0, 1] (by decide) rfl rfl (⟨congrArg iI (by first | (rw [if_neg (by omega)]) | (have h0 : qg = 6 := (by omega); have h1 := hqi (by omega); have h2 := hqn h1.2; rw [if_pos h1, pkL_out (by rw [h0] at hql; have h3 : (6 : Int).toNat = 6 := rfl; rw [h3] at hql; omega)])), trivial⟩) dX7_covers_59
      · refine lv_aload_n hx hb dX7_covers_15 rfl (lv_at hl 0 rfl) ?_
        refine z_get (v := vI iv) hC hK hP inX7 rfl 0 rfl 33 (by decide) tw_825 rfl dX7_covers_16 ?_
        refine z_if_eq (tgt := 58) hx hb dX7_covers_19 (by decide) (by omega) (fun c_19 => ?_) (fun c_19 => ?_)
        · refine lv_iconst (v := iI (-1)) hx hb dX7_covers_58 rfl ?_
          exact z_iretW hC hr hlk () hAe hP hD hS [0, 1] (by decide) rfl rfl (⟨congrArg iI (by first | (rw [if_neg (by omega)]) | (have h0 : qg = 6 := (by omega); have h1 := hqi (by omega); have h2 := hqn h1.2; rw [if_pos h1, pkL_out (by rw [h0] at hql; have h3 : (6 : Int).toNat = 6 := rfl; rw [h3] at hql; omega)])), trivial⟩) dX7_covers_59
        · refine lv_iload_n hx hb dX7_covers_22 rfl (lv_at hl 1 rfl) ?_
          refine z_if_lt (tgt := 58) hx hb dX7_covers_23 (by decide) (by omega) (fun c_23 => ?_) (fun c_23 => ?_)
          · refine lv_iconst (v := iI (-1)) hx hb dX7_covers_58 rfl ?_
            exact z_iretW hC hr hlk () hAe hP hD hS [0, 1] (by decide) rfl rfl (⟨congrArg iI (by first | (rw [if_neg (by omega)]) | (have h0 : qg = 6 := (by omega); have h1 := hqi (by omega); have h2 := hqn h1.2; rw [if_pos h1, pkL_out (by rw [h0] at hql; have h3 : (6 : Int).toNat = 6 := rfl; rw [h3] at hql; omega)])), trivial⟩) dX7_covers_59
          · have hbq := hbe qg (by omega)
            have hqx := hqn (by omega)
            refine lv_aload_n hx hb dX7_covers_26 rfl (lv_at hl 0 rfl) ?_
            refine z_get (v := .ref (a 29)) hC hK hP inX7 rfl 0 rfl 29 (by decide) tw_821 rfl dX7_covers_27 ?_
            refine lv_iload_n hx hb dX7_covers_30 rfl (lv_at hl 3 rfl) ?_
            refine z_iald hC hK hP 1 rfl (by omega) (by decide) dX7_covers_31 ?_
            refine z_if_ge (tgt := 38) hx hb dX7_covers_32 (by decide) (by omega) (fun c_32 => ?_) (fun c_32 => ?_)
            · refine lv_iload_n hx hb dX7_covers_38 rfl (lv_at hl 2 rfl) ?_
              refine z_if_ne (tgt := 49) hx hb dX7_covers_39 (by decide) (by omega) (fun c_39 => ?_) (fun c_39 => ?_)
              · refine z_iinc (k := 2) (lv' := [(2, vI (ql + (-1))), (0, .ref o0), (1, vI x), (3, vI qg)]) hx hb dX7_covers_49 hl rfl (by decide) rfl (fun ls hl => ?_)
                refine z_iinc (k := 3) (lv' := [(3, vI (qg + 1)), (2, vI (ql + (-1))), (0, .ref o0), (1, vI x)]) hx hb dX7_covers_52 hl rfl (by decide) rfl (fun ls hl => ?_)
                refine lv_goto (tgt := 9) hx hb dX7_covers_55 (by decide) ?_
                exact ih_9 (qg + 1) (ql + (-1)) H locs ls hP hD hS (lv_sub hl [2, 3, 1, 0] rfl) (by omega) (fun _ => by omega) (by first | (rw [pkL_2 (by omega) (by omega)]; exact hql) | (rw [pkL_1 (by omega) (by omega)]; omega)) (fun h => by have := hqn h; omega) (by omega)
              · refine lv_aload_n hx hb dX7_covers_42 rfl (lv_at hl 0 rfl) ?_
                refine z_get (v := .ref (a 29)) hC hK hP inX7 rfl 0 rfl 29 (by decide) tw_821 rfl dX7_covers_43 ?_
                refine lv_iload_n hx hb dX7_covers_46 rfl (lv_at hl 3 rfl) ?_
                refine z_iald hC hK hP 1 rfl (by omega) (by decide) dX7_covers_47 ?_
                exact z_iretW hC hr hlk () hAe hP hD hS [0, 1] (by decide) rfl rfl (⟨congrArg iI (by rw [if_pos (by omega), show x.toNat = (pkL BE qg.toNat).length by omega]; have h9 := pkL_at (BE := BE) (k := qg.toNat) (by omega) (by rw [Int.toNat_of_nonneg (by omega)]; omega); rw [h9, Int.toNat_of_nonneg (by omega)]), trivial⟩) dX7_covers_48
            · refine lv_goto (tgt := 52) hx hb dX7_covers_35 (by decide) ?_
              refine z_iinc (k := 3) (lv' := [(3, vI (qg + 1)), (0, .ref o0), (1, vI x), (2, vI ql)]) hx hb dX7_covers_52 hl rfl (by decide) rfl (fun ls hl => ?_)
              refine lv_goto (tgt := 9) hx hb dX7_covers_55 (by decide) ?_
              exact ih_9 (qg + 1) ql H locs ls hP hD hS (lv_sub hl [1, 2, 3, 0] rfl) (by omega) (fun _ => by omega) (by first | (rw [pkL_2 (by omega) (by omega)]; exact hql) | (rw [pkL_1 (by omega) (by omega)]; omega)) (fun h => by have := hqn h; omega) (by omega)
  exact cut_9 ((6 - (0 : Int)).toNat + 1) 0 x H locs ls hP hD hS (lv_sub hl [2, 3, 1, 0] rfl) (by omega) (by omega) (by show x = x - 0; omega) (fun h => h) (Nat.lt_succ_self _)
