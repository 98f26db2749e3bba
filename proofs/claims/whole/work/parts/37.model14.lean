/-! the model's nobody -/
noncomputable def frQ (P : Int → Prop) (n : Int) : Nat → Int → Int → Int
  | 0, _, _ => -1
  | k + 1, x, l => if n ≤ x then -1 else cIf (P x) (frQ P n k (x + 1) l) (if l = 0 then x else frQ P n k (x + 1) (l - 1))
def cvG (FN FR BE : Int → Int) (b g : Int) : Prop := 0 ≤ BE g ∧ ∃ k : Int, (0 ≤ k ∧ k < FN (BE g)) ∧ FR (5 * BE g + k) = b
def cvP (FN FR BE : Int → Int) (b : Int) : Prop := ∃ g : Int, (0 ≤ g ∧ g < 6) ∧ cvG FN FR BE b g
def cvQ (FN FR BE : Int → Int) (b x : Int) : Prop := ∃ g : Int, (0 ≤ g ∧ g < x) ∧ cvG FN FR BE b g
def cvK (FN FR BE : Int → Int) (b x y : Int) : Prop := cvQ FN FR BE b x ∨ (0 ≤ BE x ∧ ∃ k : Int, (0 ≤ k ∧ k < y) ∧ FR (5 * BE x + k) = b)
theorem cvQ_s {FN FR BE : Int → Int} {b x y : Int} (h0 : 0 ≤ x) (h : 0 ≤ BE x → y = FN (BE x)) : cvK FN FR BE b x y ↔ cvQ FN FR BE b (x + 1) := by
  constructor
  · rintro (⟨g, hg, w⟩ | ⟨w, k, hk, z⟩)
    · exact ⟨g, by omega, w⟩
    · exact ⟨x, by omega, w, k, by have := h w; omega, z⟩
  · rintro ⟨g, hg, w⟩
    rcases (show g = x ∨ g < x by omega) with q | q
    · rw [q] at w
      obtain ⟨w1, k, hk, z⟩ := w
      exact Or.inr ⟨w1, k, by have := h w1; omega, z⟩
    · exact Or.inl ⟨g, by omega, w⟩
theorem bZ_cg {P Q : Prop} (h : P ↔ Q) : bZ P = bZ Q := by
  by_cases q : P
  · rw [bZ_t q, bZ_t (h.mp q)]
  · rw [bZ_f q, bZ_f (fun w => q (h.mpr w))]
set_option maxRecDepth 100000 in
set_option maxHeartbeats 4000000 in
theorem c_X7_nobody (l : Launch) (G : zGt) (sz : Nat) (o0 : Nat) (a : Nat → Nat) (th mk bl hm rc lk lg kp fi lo wt gr eb ec ef iv : Int) (FN : Int → Int) (FR : Int → Int) (BE : Int → Int) (x : Int) (hx : -2147483648 ≤ x ∧ x < 2147483648) (hiv : iv = 0 ∨ iv = 1) (hwt : 0 ≤ wt ∧ wt ≤ 24) (hbe : ∀ j : Int, 0 ≤ j ∧ j < 6 → -1 ≤ BE j ∧ BE j < 41) (hfn : ∀ j : Int, 0 ≤ j ∧ j < 6 → 0 ≤ BE j → (0 ≤ FN (BE j) ∧ FN (BE j) ≤ 5) ∧ ∀ k : Int, 0 ≤ k ∧ k < FN (BE j) → -1 ≤ FR (5 * BE j + k) ∧ FR (5 * BE j + k) < 32) : Met l yX7_nobody (Cond.code yX7_nobody cX7_nobody 7 (some .int) :: tb) ({ frames := 0, cells := 0, slots := 0, locals := 0 } : Room) (zPw G [(o0, ob 7 [vI th, .ref (a 1), .ref (a 2), .ref (a 3), .ref (a 4), .ref (a 5), vI mk, .ref (a 7), .ref (a 8), vI bl, .ref (a 10), vI hm, vI rc, .ref (a 13), .ref (a 14), .ref (a 15), vI lk, vI lg, vI kp, vI fi, vI lo, vI wt, .ref (a 22), .ref (a 23), .ref (a 24), .ref (a 25), .ref (a 26), vI gr, .ref (a 28), .ref (a 29), vI eb, vI ec, vI ef, vI iv]), ((a 23), aI G 41 FN), ((a 24), aI G 205 FR), ((a 29), aI G 6 BE)] sz [.ref o0, vI x]) (va_Qi (fun (r : Int32) (u : Unit) => r = iI (if iv = 1 ∧ 0 ≤ x then frQ (cvP FN FR BE) wt 25 0 x else -1) ∧ True) (fun (u : Unit) t => zB G [(o0, ob 7 [vI th, .ref (a 1), .ref (a 2), .ref (a 3), .ref (a 4), .ref (a 5), vI mk, .ref (a 7), .ref (a 8), vI bl, .ref (a 10), vI hm, vI rc, .ref (a 13), .ref (a 14), .ref (a 15), vI lk, vI lg, vI kp, vI fi, vI lo, vI wt, .ref (a 22), .ref (a 23), .ref (a 24), .ref (a 25), .ref (a 26), vI gr, .ref (a 28), .ref (a 29), vI eb, vI ec, vI ef, vI iv]), ((a 23), aI G 41 FN), ((a 24), aI G 205 FR), ((a 29), aI G 6 BE)] sz [(o0, ob 7 [vI 0, .ref (a 1), .ref (a 2), .ref (a 3), .ref (a 4), .ref (a 5), vI mk, .ref (a 7), .ref (a 8), vI bl, .ref (a 10), vI hm, vI rc, .ref (a 13), .ref (a 14), .ref (a 15), vI lk, vI lg, vI kp, vI fi, vI lo, vI wt, .ref (a 22), .ref (a 23), .ref (a 24), .ref (a 25), .ref (a 26), vI gr, .ref (a 28), .ref (a 29), vI eb, vI ec, vI ef, vI iv]), ((a 23), aI G 41 FN), ((a 24), aI G 205 FR), ((a 29), aI G 6 BE)] t) (va_A [(o0, ob 7 [vI th, .ref (a 1), .ref (a 2), .ref (a 3), .ref (a 4), .ref (a 5), vI mk, .ref (a 7), .ref (a 8), vI bl, .ref (a 10), vI hm, vI rc, .ref (a 13), .ref (a 14), .ref (a 15), vI lk, vI lg, vI kp, vI fi, vI lo, vI wt, .ref (a 22), .ref (a 23), .ref (a 24), .ref (a 25), .ref (a 26), vI gr, .ref (a 28), .ref (a 29), vI eb, vI ec, vI ef, vI iv]), ((a 23), aI G 41 FN), ((a 24), aI G 205 FR), ((a 29), aI G 6 BE)] sz)) 0 0 (va_A [(o0, ob 7 [vI th, .ref (a 1), .ref (a 2), .ref (a 3), .ref (a 4), .ref (a 5), vI mk, .ref (a 7), .ref (a 8), vI bl, .ref (a 10), vI hm, vI rc, .ref (a 13), .ref (a 14), .ref (a 15), vI lk, vI lg, vI kp, vI fi, vI lo, vI wt, .ref (a 22), .ref (a 23), .ref (a 24), .ref (a 25), .ref (a 26), vI gr, .ref (a 28), .ref (a 29), vI eb, vI ec, vI ef, vI iv]), ((a 23), aI G 41 FN), ((a 24), aI G 205 FR), ((a 29), aI G 6 BE)] sz) := by
  refine Met.ofW (cc := cX7_nobody) (maxL := 7) (ret := (some .int)) (by decide) rfl ?_
  intro p e s m args below meth c s₁ B hml hv
  obtain ⟨rfl, hsz, hP, hK, hD0⟩ := hv
  subst hsz
  have hD := hD0.self (sz := s.heap.size)
  obtain ⟨A, hAe⟩ : ∃ A : Nat → Prop, A = va_A [(o0, ob 7 [vI th, .ref (a 1), .ref (a 2), .ref (a 3), .ref (a 4), .ref (a 5), vI mk, .ref (a 7), .ref (a 8), vI bl, .ref (a 10), vI hm, vI rc, .ref (a 13), .ref (a 14), .ref (a 15), vI lk, vI lg, vI kp, vI fi, vI lo, vI wt, .ref (a 22), .ref (a 23), .ref (a 24), .ref (a 25), .ref (a 26), vI gr, .ref (a 28), .ref (a 29), vI eb, vI ec, vI ef, vI iv]), ((a 23), aI G 41 FN), ((a 24), aI G 205 FR), ((a 29), aI G 6 BE)] s.heap.size := ⟨_, rfl⟩
  rw [← hAe] at hD
  have hA : ∀ q : Nat, s.heap.size ≤ q → A q := fun q h => by rw [hAe]; exact Or.inr h
  have hS : va_S A s.heap s.heap [] := va_S.rf
  obtain ⟨hC, hr, hlk⟩ := z_begin B hml
  have hC : CallFix p m c cX7_nobody 7 s _ tb RX7 := hC
  have hx := hC.1
  have hb := hC.2.1
  have hl := lv_entry ([.ref o0, vI x]) (n := 7) (Nat.le_of_ble_eq_true rfl)
  rw [lg_entry_eq]
  generalize (lg_sl ([.ref o0, vI x]) ++ List.replicate (7 - (lg_sl ([.ref o0, vI x])).length) Slot.unset).toArray = ls at hl ⊢
  have hl : lv_has ls 7 [(0, .ref o0), (1, vI x)] := hl
  obtain ⟨H, hHe⟩ : ∃ H : Heap, H = s.heap := ⟨_, rfl⟩
  obtain ⟨locs, hLe⟩ : ∃ L : List Loc, L = [] := ⟨_, rfl⟩
  suffices hgo : W p l e (headSpec (Cond.code yX7_nobody cX7_nobody 7 (some .int) :: tb) ({ frames := 0, cells := 0, slots := 0, locals := 0 } : Room)).room s m ([.ref o0, vI x] : List Value).toArray below meth c H locs 0 0 (MQ below (va_Qi (fun (r : Int32) (u : Unit) => r = iI (if iv = 1 ∧ 0 ≤ x then frQ (cvP FN FR BE) wt 25 0 x else -1) ∧ True) (fun (u : Unit) t => zB G [(o0, ob 7 [vI th, .ref (a 1), .ref (a 2), .ref (a 3), .ref (a 4), .ref (a 5), vI mk, .ref (a 7), .ref (a 8), vI bl, .ref (a 10), vI hm, vI rc, .ref (a 13), .ref (a 14), .ref (a 15), vI lk, vI lg, vI kp, vI fi, vI lo, vI wt, .ref (a 22), .ref (a 23), .ref (a 24), .ref (a 25), .ref (a 26), vI gr, .ref (a 28), .ref (a 29), vI eb, vI ec, vI ef, vI iv]), ((a 23), aI G 41 FN), ((a 24), aI G 205 FR), ((a 29), aI G 6 BE)] s.heap.size [(o0, ob 7 [vI 0, .ref (a 1), .ref (a 2), .ref (a 3), .ref (a 4), .ref (a 5), vI mk, .ref (a 7), .ref (a 8), vI bl, .ref (a 10), vI hm, vI rc, .ref (a 13), .ref (a 14), .ref (a 15), vI lk, vI lg, vI kp, vI fi, vI lo, vI wt, .ref (a 22), .ref (a 23), .ref (a 24), .ref (a 25), .ref (a 26), vI gr, .ref (a 28), .ref (a 29), vI eb, vI ec, vI ef, vI iv]), ((a 23), aI G 41 FN), ((a 24), aI G 205 FR), ((a 29), aI G 6 BE)] t) (va_A [(o0, ob 7 [vI th, .ref (a 1), .ref (a 2), .ref (a 3), .ref (a 4), .ref (a 5), vI mk, .ref (a 7), .ref (a 8), vI bl, .ref (a 10), vI hm, vI rc, .ref (a 13), .ref (a 14), .ref (a 15), vI lk, vI lg, vI kp, vI fi, vI lo, vI wt, .ref (a 22), .ref (a 23), .ref (a 24), .ref (a 25), .ref (a 26), vI gr, .ref (a 28), .ref (a 29), vI eb, vI ec, vI ef, vI iv]), ((a 23), aI G 41 FN), ((a 24), aI G 205 FR), ((a 29), aI G 6 BE)] s.heap.size)) ([.ref o0, vI x] : List Value).toArray s 0 0 (va_A [(o0, ob 7 [vI th, .ref (a 1), .ref (a 2), .ref (a 3), .ref (a 4), .ref (a 5), vI mk, .ref (a 7), .ref (a 8), vI bl, .ref (a 10), vI hm, vI rc, .ref (a 13), .ref (a 14), .ref (a 15), vI lk, vI lg, vI kp, vI fi, vI lo, vI wt, .ref (a 22), .ref (a 23), .ref (a 24), .ref (a 25), .ref (a 26), vI gr, .ref (a 28), .ref (a 29), vI eb, vI ec, vI ef, vI iv]), ((a 23), aI G 41 FN), ((a 24), aI G 205 FR), ((a 29), aI G 6 BE)] s.heap.size)) (F0 m 0 ls []) by rw [hHe, hLe] at hgo; exact hgo
  rw [← hHe] at hP
  have hS : va_S A s.heap H locs := by rw [hHe, hLe]; exact hS
  clear hHe hLe
  refine lv_aload_n hx hb dX7_nobody_0 rfl (lv_at hl 0 rfl) ?_
  refine lv_iconst (v := iI 0) hx hb dX7_nobody_1 rfl ?_
  refine z_put (ws' := [(o0, ob 7 [vI 0, .ref (a 1), .ref (a 2), .ref (a 3), .ref (a 4), .ref (a 5), vI mk, .ref (a 7), .ref (a 8), vI bl, .ref (a 10), vI hm, vI rc, .ref (a 13), .ref (a 14), .ref (a 15), vI lk, vI lg, vI kp, vI fi, vI lo, vI wt, .ref (a 22), .ref (a 23), .ref (a 24), .ref (a 25), .ref (a 26), vI gr, .ref (a 28), .ref (a 29), vI eb, vI ec, vI ef, vI iv]), ((a 23), aI G 41 FN), ((a 24), aI G 205 FR), ((a 29), aI G 6 BE)]) hC hK hP hD hS inX7 tyX7 tyX7_ok nmX7 rfl 0 rfl 0 (by decide) tw_792 rfl rfl rfl (Nat.le_of_ble_eq_true rfl) rfl dX7_nobody_2 (fun H locs hP hD hS => ?_)
  refine lv_iload_n hx hb dX7_nobody_5 rfl (lv_at hl 1 rfl) ?_
  refine lv_istore_n (lv' := [(2, vI x), (0, .ref o0), (1, vI x)]) hx hb dX7_nobody_6 rfl hl (by decide) rfl (fun ls hl => ?_)
  refine lv_iconst (v := iI 0) hx hb dX7_nobody_7 rfl ?_
  refine lv_istore_n (lv' := [(3, vI 0), (2, vI x), (0, .ref o0), (1, vI x)]) hx hb dX7_nobody_8 rfl hl (by decide) rfl (fun ls hl => ?_)
  have cut_9 : ∀ (n_ : Nat) (qb : Int) (ql : Int) (H : Heap) (locs : List Loc) (ls : Array Slot), va_P G.1 vwCl [(o0, ob 7 [vI 0, .ref (a 1), .ref (a 2), .ref (a 3), .ref (a 4), .ref (a 5), vI mk, .ref (a 7), .ref (a 8), vI bl, .ref (a 10), vI hm, vI rc, .ref (a 13), .ref (a 14), .ref (a 15), vI lk, vI lg, vI kp, vI fi, vI lo, vI wt, .ref (a 22), .ref (a 23), .ref (a 24), .ref (a 25), .ref (a 26), vI gr, .ref (a 28), .ref (a 29), vI eb, vI ec, vI ef, vI iv]), ((a 23), aI G 41 FN), ((a 24), aI G 205 FR), ((a 29), aI G 6 BE)] H → va_D A [(o0, ob 7 [vI 0, .ref (a 1), .ref (a 2), .ref (a 3), .ref (a 4), .ref (a 5), vI mk, .ref (a 7), .ref (a 8), vI bl, .ref (a 10), vI hm, vI rc, .ref (a 13), .ref (a 14), .ref (a 15), vI lk, vI lg, vI kp, vI fi, vI lo, vI wt, .ref (a 22), .ref (a 23), .ref (a 24), .ref (a 25), .ref (a 26), vI gr, .ref (a 28), .ref (a 29), vI eb, vI ec, vI ef, vI iv]), ((a 23), aI G 41 FN), ((a 24), aI G 205 FR), ((a 29), aI G 6 BE)] → va_S A s.heap H locs → lv_has ls 7 [(0, .ref o0), (1, vI x), (2, vI ql), (3, vI qb)] → (0 ≤ qb ∧ qb ≤ wt) → (0 < qb → iv = 1 ∧ 0 ≤ x) → (0 ≤ x → 0 ≤ ql ∧ ql ≤ x) → (iv = 1 ∧ 0 ≤ x → frQ (cvP FN FR BE) wt (25 - qb.toNat) qb ql = frQ (cvP FN FR BE) wt 25 0 x) → (wt - qb).toNat < n_ → W p l e (headSpec (Cond.code yX7_nobody cX7_nobody 7 (some .int) :: tb) ({ frames := 0, cells := 0, slots := 0, locals := 0 } : Room)).room s m ([.ref o0, vI x] : List Value).toArray below meth c H locs 0 0 (MQ below (va_Qi (fun (r : Int32) (u : Unit) => r = iI (if iv = 1 ∧ 0 ≤ x then frQ (cvP FN FR BE) wt 25 0 x else -1) ∧ True) (fun (u : Unit) t => zB G [(o0, ob 7 [vI th, .ref (a 1), .ref (a 2), .ref (a 3), .ref (a 4), .ref (a 5), vI mk, .ref (a 7), .ref (a 8), vI bl, .ref (a 10), vI hm, vI rc, .ref (a 13), .ref (a 14), .ref (a 15), vI lk, vI lg, vI kp, vI fi, vI lo, vI wt, .ref (a 22), .ref (a 23), .ref (a 24), .ref (a 25), .ref (a 26), vI gr, .ref (a 28), .ref (a 29), vI eb, vI ec, vI ef, vI iv]), ((a 23), aI G 41 FN), ((a 24), aI G 205 FR), ((a 29), aI G 6 BE)] s.heap.size [(o0, ob 7 [vI 0, .ref (a 1), .ref (a 2), .ref (a 3), .ref (a 4), .ref (a 5), vI mk, .ref (a 7), .ref (a 8), vI bl, .ref (a 10), vI hm, vI rc, .ref (a 13), .ref (a 14), .ref (a 15), vI lk, vI lg, vI kp, vI fi, vI lo, vI wt, .ref (a 22), .ref (a 23), .ref (a 24), .ref (a 25), .ref (a 26), vI gr, .ref (a 28), .ref (a 29), vI eb, vI ec, vI ef, vI iv]), ((a 23), aI G 41 FN), ((a 24), aI G 205 FR), ((a 29), aI G 6 BE)] t) (va_A [(o0, ob 7 [vI th, .ref (a 1), .ref (a 2), .ref (a 3), .ref (a 4), .ref (a 5), vI mk, .ref (a 7), .ref (a 8), vI bl, .ref (a 10), vI hm, vI rc, .ref (a 13), .ref (a 14), .ref (a 15), vI lk, vI lg, vI kp, vI fi, vI lo, vI wt, .ref (a 22), .ref (a 23), .ref (a 24), .ref (a 25), .ref (a 26), vI gr, .ref (a 28), .ref (a 29), vI eb, vI ec, vI ef, vI iv]), ((a 23), aI G 41 FN), ((a 24), aI G 205 FR), ((a 29), aI G 6 BE)] s.heap.size)) ([.ref o0, vI x] : List Value).toArray s 0 0 (va_A [(o0, ob 7 [vI th, .ref (a 1), .ref (a 2), .ref (a 3), .ref (a 4), .ref (a 5), vI mk, .ref (a 7), .ref (a 8), vI bl, .ref (a 10), vI hm, vI rc, .ref (a 13), .ref (a 14), .ref (a 15), vI lk, vI lg, vI kp, vI fi, vI lo, vI wt, .ref (a 22), .ref (a 23), .ref (a 24), .ref (a 25), .ref (a 26), vI gr, .ref (a 28), .ref (a 29), vI eb, vI ec, vI ef, vI iv]), ((a 23), aI G 41 FN), ((a 24), aI G 205 FR), ((a 29), aI G 6 BE)] s.heap.size)) (F0 m 9 ls []) := by
    intro n_
    induction n_ with
    | zero => exact fun qb ql H locs ls hP hD hS hl hqb hqi hqn hqf hm_ => absurd hm_ (Nat.not_lt_zero _)
    | succ n_ ih_9 =>
      intro qb ql H locs ls hP hD hS hl hqb hqi hqn hqf hm_
      refine lv_iload_n hx hb dX7_nobody_9 rfl (lv_at hl 3 rfl) ?_
      refine lv_aload_n hx hb dX7_nobody_10 rfl (lv_at hl 0 rfl) ?_
      refine z_get (v := vI wt) hC hK hP inX7 rfl 0 rfl 21 (by decide) tw_813 rfl dX7_nobody_11 ?_
      refine z_icmp_ge (tgt := 139) hx hb dX7_nobody_14 (by decide) (by omega) (fun c_14 => ?_) (fun c_14 => ?_)
      · refine lv_iconst (v := iI (-1)) hx hb dX7_nobody_139 rfl ?_
        exact z_iretW hC hr hlk () hAe hP hD hS [0, 1, 2, 3] (by decide) rfl rfl (⟨congrArg iI (by first | (rw [if_neg (by omega)]) | (by_cases hq0 : iv = 1 ∧ 0 ≤ x; (rw [if_pos hq0, ← hqf hq0, show 25 - qb.toNat = (24 - qb.toNat) + 1 by omega]; show -1 = (if wt ≤ qb then _ else _); rw [if_pos (by omega)]); rw [if_neg hq0])), trivial⟩) dX7_nobody_140
      · refine lv_aload_n hx hb dX7_nobody_17 rfl (lv_at hl 0 rfl) ?_
        refine z_get (v := vI iv) hC hK hP inX7 rfl 0 rfl 33 (by decide) tw_825 rfl dX7_nobody_18 ?_
        refine z_if_eq (tgt := 139) hx hb dX7_nobody_21 (by decide) (by omega) (fun c_21 => ?_) (fun c_21 => ?_)
        · refine lv_iconst (v := iI (-1)) hx hb dX7_nobody_139 rfl ?_
          exact z_iretW hC hr hlk () hAe hP hD hS [0, 1, 2, 3] (by decide) rfl rfl (⟨congrArg iI (by first | (rw [if_neg (by omega)]) | (by_cases hq0 : iv = 1 ∧ 0 ≤ x; (rw [if_pos hq0, ← hqf hq0, show 25 - qb.toNat = (24 - qb.toNat) + 1 by omega]; show -1 = (if wt ≤ qb then _ else _); rw [if_pos (by omega)]); rw [if_neg hq0])), trivial⟩) dX7_nobody_140
        · refine lv_iload_n hx hb dX7_nobody_24 rfl (lv_at hl 1 rfl) ?_
          refine z_if_lt (tgt := 139) hx hb dX7_nobody_25 (by decide) (by omega) (fun c_25 => ?_) (fun c_25 => ?_)
          · refine lv_iconst (v := iI (-1)) hx hb dX7_nobody_139 rfl ?_
            exact z_iretW hC hr hlk () hAe hP hD hS [0, 1, 2, 3] (by decide) rfl rfl (⟨congrArg iI (by first | (rw [if_neg (by omega)]) | (by_cases hq0 : iv = 1 ∧ 0 ≤ x; (rw [if_pos hq0, ← hqf hq0, show 25 - qb.toNat = (24 - qb.toNat) + 1 by omega]; show -1 = (if wt ≤ qb then _ else _); rw [if_pos (by omega)]); rw [if_neg hq0])), trivial⟩) dX7_nobody_140
          · have hqx := hqn (by omega)
            refine lv_iconst (v := iI 0) hx hb dX7_nobody_28 rfl ?_
            refine lv_istore (lv' := [(4, vI 0), (0, .ref o0), (1, vI x), (2, vI ql), (3, vI qb)]) hx hb dX7_nobody_29 hl (by decide) rfl (fun ls hl => ?_)
            refine lv_iconst (v := iI 0) hx hb dX7_nobody_31 rfl ?_
            refine lv_istore (lv' := [(5, vI 0), (4, vI 0), (0, .ref o0), (1, vI x), (2, vI ql), (3, vI qb)]) hx hb dX7_nobody_32 hl (by decide) rfl (fun ls hl => ?_)
            have cut_34 : ∀ (n_ : Nat) (qg : Int) (q4 : Int) (H : Heap) (locs : List Loc) (ls : Array Slot), va_P G.1 vwCl [(o0, ob 7 [vI 0, .ref (a 1), .ref (a 2), .ref (a 3), .ref (a 4), .ref (a 5), vI mk, .ref (a 7), .ref (a 8), vI bl, .ref (a 10), vI hm, vI rc, .ref (a 13), .ref (a 14), .ref (a 15), vI lk, vI lg, vI kp, vI fi, vI lo, vI wt, .ref (a 22), .ref (a 23), .ref (a 24), .ref (a 25), .ref (a 26), vI gr, .ref (a 28), .ref (a 29), vI eb, vI ec, vI ef, vI iv]), ((a 23), aI G 41 FN), ((a 24), aI G 205 FR), ((a 29), aI G 6 BE)] H → va_D A [(o0, ob 7 [vI 0, .ref (a 1), .ref (a 2), .ref (a 3), .ref (a 4), .ref (a 5), vI mk, .ref (a 7), .ref (a 8), vI bl, .ref (a 10), vI hm, vI rc, .ref (a 13), .ref (a 14), .ref (a 15), vI lk, vI lg, vI kp, vI fi, vI lo, vI wt, .ref (a 22), .ref (a 23), .ref (a 24), .ref (a 25), .ref (a 26), vI gr, .ref (a 28), .ref (a 29), vI eb, vI ec, vI ef, vI iv]), ((a 23), aI G 41 FN), ((a 24), aI G 205 FR), ((a 29), aI G 6 BE)] → va_S A s.heap H locs → lv_has ls 7 [(0, .ref o0), (1, vI x), (2, vI ql), (3, vI qb), (4, vI q4), (5, vI qg)] → (0 ≤ qg ∧ qg ≤ 6) → (q4 = bZ (cvQ FN FR BE qb qg)) → (6 - qg).toNat < n_ → W p l e (headSpec (Cond.code yX7_nobody cX7_nobody 7 (some .int) :: tb) ({ frames := 0, cells := 0, slots := 0, locals := 0 } : Room)).room s m ([.ref o0, vI x] : List Value).toArray below meth c H locs 0 0 (MQ below (va_Qi (fun (r : Int32) (u : Unit) => r = iI (if iv = 1 ∧ 0 ≤ x then frQ (cvP FN FR BE) wt 25 0 x else -1) ∧ True) (fun (u : Unit) t => zB G [(o0, ob 7 [vI th, .ref (a 1), .ref (a 2), .ref (a 3), .ref (a 4), .ref (a 5), vI mk, .ref (a 7), .ref (a 8), vI bl, .ref (a 10), vI hm, vI rc, .ref (a 13), .ref (a 14), .ref (a 15), vI lk, vI lg, vI kp, vI fi, vI lo, vI wt, .ref (a 22), .ref (a 23), .ref (a 24), .ref (a 25), .ref (a 26), vI gr, .ref (a 28), .ref (a 29), vI eb, vI ec, vI ef, vI iv]), ((a 23), aI G 41 FN), ((a 24), aI G 205 FR), ((a 29), aI G 6 BE)] s.heap.size [(o0, ob 7 [vI 0, .ref (a 1), .ref (a 2), .ref (a 3), .ref (a 4), .ref (a 5), vI mk, .ref (a 7), .ref (a 8), vI bl, .ref (a 10), vI hm, vI rc, .ref (a 13), .ref (a 14), .ref (a 15), vI lk, vI lg, vI kp, vI fi, vI lo, vI wt, .ref (a 22), .ref (a 23), .ref (a 24), .ref (a 25), .ref (a 26), vI gr, .ref (a 28), .ref (a 29), vI eb, vI ec, vI ef, vI iv]), ((a 23), aI G 41 FN), ((a 24), aI G 205 FR), ((a 29), aI G 6 BE)] t) (va_A [(o0, ob 7 [vI th, .ref (a 1), .ref (a 2), .ref (a 3), .ref (a 4), .ref (a 5), vI mk, .ref (a 7), .ref (a 8), vI bl, .ref (a 10), vI hm, vI rc, .ref (a 13), .ref (a 14), .ref (a 15), vI lk, vI lg, vI kp, vI fi, vI lo, vI wt, .ref (a 22), .ref (a 23), .ref (a 24), .ref (a 25), .ref (a 26), vI gr, .ref (a 28), .ref (a 29), vI eb, vI ec, vI ef, vI iv]), ((a 23), aI G 41 FN), ((a 24), aI G 205 FR), ((a 29), aI G 6 BE)] s.heap.size)) ([.ref o0, vI x] : List Value).toArray s 0 0 (va_A [(o0, ob 7 [vI th, .ref (a 1), .ref (a 2), .ref (a 3), .ref (a 4), .ref (a 5), vI mk, .ref (a 7), .ref (a 8), vI bl, .ref (a 10), vI hm, vI rc, .ref (a 13), .ref (a 14), .ref (a 15), vI lk, vI lg, vI kp, vI fi, vI lo, vI wt, .ref (a 22), .ref (a 23), .ref (a 24), .ref (a 25), .ref (a 26), vI gr, .ref (a 28), .ref (a 29), vI eb, vI ec, vI ef, vI iv]), ((a 23), aI G 41 FN), ((a 24), aI G 205 FR), ((a 29), aI G 6 BE)] s.heap.size)) (F0 m 34 ls []) := by
              intro n_
              induction n_ with
              | zero => exact fun qg q4 H locs ls hP hD hS hl hqg hq4 hm_ => absurd hm_ (Nat.not_lt_zero _)
              | succ n_ ih_34 =>
                intro qg q4 H locs ls hP hD hS hl hqg hq4 hm_
                have hq4b := bZ_rng (cvQ FN FR BE qb qg)
                refine lv_iload hx hb dX7_nobody_34 (lv_at hl 5 rfl) ?_
                refine lv_bipush (v := iI 6) hx hb dX7_nobody_36 (by decide) ?_
                refine z_icmp_ge (tgt := 116) hx hb dX7_nobody_38 (by decide) (by omega) (fun c_38 => ?_) (fun c_38 => ?_)
                · have hcv : q4 ≠ 0 ↔ cvP FN FR BE qb := by rw [hq4, show qg = 6 by omega]; exact bZ_ne
                  refine lv_iload hx hb dX7_nobody_116 (lv_at hl 4 rfl) ?_
                  refine z_if_eq (tgt := 124) hx hb dX7_nobody_118 (by decide) (by omega) (fun c_118 => ?_) (fun c_118 => ?_)
                  · refine lv_iload_n hx hb dX7_nobody_124 rfl (lv_at hl 2 rfl) ?_
                    refine z_if_ne (tgt := 130) hx hb dX7_nobody_125 (by decide) (by omega) (fun c_125 => ?_) (fun c_125 => ?_)
                    · refine z_iinc (k := 2) (lv' := [(2, vI (ql + (-1))), (0, .ref o0), (1, vI x), (3, vI qb), (4, vI q4), (5, vI qg)]) hx hb dX7_nobody_130 hl rfl (by decide) rfl (fun ls hl => ?_)
                      refine z_iinc (k := 3) (lv' := [(3, vI (qb + 1)), (2, vI (ql + (-1))), (0, .ref o0), (1, vI x), (4, vI q4), (5, vI qg)]) hx hb dX7_nobody_133 hl rfl (by decide) rfl (fun ls hl => ?_)
                      refine lv_goto (tgt := 9) hx hb dX7_nobody_136 (by decide) ?_
                      exact ih_9 (qb + 1) (ql + (-1)) H locs ls hP hD hS (lv_sub hl [2, 3, 1, 0] rfl) (by omega) (fun _ => by omega) (fun h => by omega) (fun h => by rw [← hqf h, show 25 - qb.toNat = (25 - (qb + 1).toNat) + 1 by omega]; show _ = (if wt ≤ qb then _ else _); rw [if_neg (by omega)]; first | (rw [cIf_t (hcv.mp c_118)]) | (rw [cIf_f (fun w => by have := hcv.mpr w; omega), if_neg c_125]; rfl)) (by omega)
                    · refine lv_iload_n hx hb dX7_nobody_128 rfl (lv_at hl 3 rfl) ?_
                      exact z_iretW hC hr hlk () hAe hP hD hS [0, 1, 2, 3] (by decide) rfl rfl (⟨congrArg iI (by rw [if_pos (by omega), ← hqf (by omega), show 25 - qb.toNat = (24 - qb.toNat) + 1 by omega]; show qb = (if wt ≤ qb then _ else _); rw [if_neg (by omega), cIf_f (fun w => by have := hcv.mpr w; omega), if_pos c_125]), trivial⟩) dX7_nobody_129
                  · refine lv_goto (tgt := 133) hx hb dX7_nobody_121 (by decide) ?_
                    refine z_iinc (k := 3) (lv' := [(3, vI (qb + 1)), (0, .ref o0), (1, vI x), (2, vI ql), (4, vI q4), (5, vI qg)]) hx hb dX7_nobody_133 hl rfl (by decide) rfl (fun ls hl => ?_)
                    refine lv_goto (tgt := 9) hx hb dX7_nobody_136 (by decide) ?_
                    exact ih_9 (qb + 1) ql H locs ls hP hD hS (lv_sub hl [1, 2, 3, 0] rfl) (by omega) (fun _ => by omega) (fun h => by omega) (fun h => by rw [← hqf h, show 25 - qb.toNat = (25 - (qb + 1).toNat) + 1 by omega]; show _ = (if wt ≤ qb then _ else _); rw [if_neg (by omega)]; first | (rw [cIf_t (hcv.mp c_118)]) | (rw [cIf_f (fun w => by have := hcv.mpr w; omega), if_neg c_125]; rfl)) (by omega)
                · refine lv_iconst (v := iI 0) hx hb dX7_nobody_41 rfl ?_
                  refine lv_istore (lv' := [(6, vI 0), (0, .ref o0), (1, vI x), (2, vI ql), (3, vI qb), (4, vI q4), (5, vI qg)]) hx hb dX7_nobody_42 hl (by decide) rfl (fun ls hl => ?_)
                  have cut_44 : ∀ (n_ : Nat) (qk : Int) (q5 : Int) (H : Heap) (locs : List Loc) (ls : Array Slot), va_P G.1 vwCl [(o0, ob 7 [vI 0, .ref (a 1), .ref (a 2), .ref (a 3), .ref (a 4), .ref (a 5), vI mk, .ref (a 7), .ref (a 8), vI bl, .ref (a 10), vI hm, vI rc, .ref (a 13), .ref (a 14), .ref (a 15), vI lk, vI lg, vI kp, vI fi, vI lo, vI wt, .ref (a 22), .ref (a 23), .ref (a 24), .ref (a 25), .ref (a 26), vI gr, .ref (a 28), .ref (a 29), vI eb, vI ec, vI ef, vI iv]), ((a 23), aI G 41 FN), ((a 24), aI G 205 FR), ((a 29), aI G 6 BE)] H → va_D A [(o0, ob 7 [vI 0, .ref (a 1), .ref (a 2), .ref (a 3), .ref (a 4), .ref (a 5), vI mk, .ref (a 7), .ref (a 8), vI bl, .ref (a 10), vI hm, vI rc, .ref (a 13), .ref (a 14), .ref (a 15), vI lk, vI lg, vI kp, vI fi, vI lo, vI wt, .ref (a 22), .ref (a 23), .ref (a 24), .ref (a 25), .ref (a 26), vI gr, .ref (a 28), .ref (a 29), vI eb, vI ec, vI ef, vI iv]), ((a 23), aI G 41 FN), ((a 24), aI G 205 FR), ((a 29), aI G 6 BE)] → va_S A s.heap H locs → lv_has ls 7 [(0, .ref o0), (1, vI x), (2, vI ql), (3, vI qb), (4, vI q5), (5, vI qg), (6, vI qk)] → (0 ≤ qk ∧ (0 < qk → 0 ≤ BE qg ∧ qk ≤ FN (BE qg))) → (q5 = bZ (cvK FN FR BE qb qg qk)) → (6 - qk).toNat < n_ → W p l e (headSpec (Cond.code yX7_nobody cX7_nobody 7 (some .int) :: tb) ({ frames := 0, cells := 0, slots := 0, locals := 0 } : Room)).room s m ([.ref o0, vI x] : List Value).toArray below meth c H locs 0 0 (MQ below (va_Qi (fun (r : Int32) (u : Unit) => r = iI (if iv = 1 ∧ 0 ≤ x then frQ (cvP FN FR BE) wt 25 0 x else -1) ∧ True) (fun (u : Unit) t => zB G [(o0, ob 7 [vI th, .ref (a 1), .ref (a 2), .ref (a 3), .ref (a 4), .ref (a 5), vI mk, .ref (a 7), .ref (a 8), vI bl, .ref (a 10), vI hm, vI rc, .ref (a 13), .ref (a 14), .ref (a 15), vI lk, vI lg, vI kp, vI fi, vI lo, vI wt, .ref (a 22), .ref (a 23), .ref (a 24), .ref (a 25), .ref (a 26), vI gr, .ref (a 28), .ref (a 29), vI eb, vI ec, vI ef, vI iv]), ((a 23), aI G 41 FN), ((a 24), aI G 205 FR), ((a 29), aI G 6 BE)] s.heap.size [(o0, ob 7 [vI 0, .ref (a 1), .ref (a 2), .ref (a 3), .ref (a 4), .ref (a 5), vI mk, .ref (a 7), .ref (a 8), vI bl, .ref (a 10), vI hm, vI rc, .ref (a 13), .ref (a 14), .ref (a 15), vI lk, vI lg, vI kp, vI fi, vI lo, vI wt, .ref (a 22), .ref (a 23), .ref (a 24), .ref (a 25), .ref (a 26), vI gr, .ref (a 28), .ref (a 29), vI eb, vI ec, vI ef, vI iv]), ((a 23), aI G 41 FN), ((a 24), aI G 205 FR), ((a 29), aI G 6 BE)] t) (va_A [(o0, ob 7 [vI th, .ref (a 1), .ref (a 2), .ref (a 3), .ref (a 4), .ref (a 5), vI mk, .ref (a 7), .ref (a 8), vI bl, .ref (a 10), vI hm, vI rc, .ref (a 13), .ref (a 14), .ref (a 15), vI lk, vI lg, vI kp, vI fi, vI lo, vI wt, .ref (a 22), .ref (a 23), .ref (a 24), .ref (a 25), .ref (a 26), vI gr, .ref (a 28), .ref (a 29), vI eb, vI ec, vI ef, vI iv]), ((a 23), aI G 41 FN), ((a 24), aI G 205 FR), ((a 29), aI G 6 BE)] s.heap.size)) ([.ref o0, vI x] : List Value).toArray s 0 0 (va_A [(o0, ob 7 [vI th, .ref (a 1), .ref (a 2), .ref (a 3), .ref (a 4), .ref (a 5), vI mk, .ref (a 7), .ref (a 8), vI bl, .ref (a 10), vI hm, vI rc, .ref (a 13), .ref (a 14), .ref (a 15), vI lk, vI lg, vI kp, vI fi, vI lo, vI wt, .ref (a 22), .ref (a 23), .ref (a 24), .ref (a 25), .ref (a 26), vI gr, .ref (a 28), .ref (a 29), vI eb, vI ec, vI ef, vI iv]), ((a 23), aI G 41 FN), ((a 24), aI G 205 FR), ((a 29), aI G 6 BE)] s.heap.size)) (F0 m 44 ls []) := by
                    intro n_
                    induction n_ with
                    | zero => exact fun qk q5 H locs ls hP hD hS hl hqk hq5 hm_ => absurd hm_ (Nat.not_lt_zero _)
                    | succ n_ ih_44 =>
                      intro qk q5 H locs ls hP hD hS hl hqk hq5 hm_
                      have hq5b := bZ_rng (cvK FN FR BE qb qg qk)
                      have hbq := hbe qg (by omega)
                      refine lv_aload_n hx hb dX7_nobody_44 rfl (lv_at hl 0 rfl) ?_
                      refine z_get (v := .ref (a 29)) hC hK hP inX7 rfl 0 rfl 29 (by decide) tw_821 rfl dX7_nobody_45 ?_
                      refine lv_iload hx hb dX7_nobody_48 (lv_at hl 5 rfl) ?_
                      refine z_iald hC hK hP 3 rfl (by omega) (by decide) dX7_nobody_50 ?_
                      refine z_if_lt (tgt := 110) hx hb dX7_nobody_51 (by decide) (by omega) (fun c_51 => ?_) (fun c_51 => ?_)
                      · refine z_iinc (k := 5) (lv' := [(5, vI (qg + 1)), (0, .ref o0), (1, vI x), (2, vI ql), (3, vI qb), (4, vI q5), (6, vI qk)]) hx hb dX7_nobody_110 hl rfl (by decide) rfl (fun ls hl => ?_)
                        refine lv_goto (tgt := 34) hx hb dX7_nobody_113 (by decide) ?_
                        exact ih_34 (qg + 1) q5 H locs ls hP hD hS (lv_sub hl [1, 2, 3, 4, 5, 0] rfl) (by omega) (by rw [hq5]; exact bZ_cg (cvQ_s (by omega) (fun w => by omega))) (by omega)
                      · have hfq := hfn qg (by omega) (by omega)
                        refine lv_iload hx hb dX7_nobody_54 (lv_at hl 6 rfl) ?_
                        refine lv_aload_n hx hb dX7_nobody_56 rfl (lv_at hl 0 rfl) ?_
                        refine z_get (v := .ref (a 23)) hC hK hP inX7 rfl 0 rfl 23 (by decide) tw_815 rfl dX7_nobody_57 ?_
                        refine lv_aload_n hx hb dX7_nobody_60 rfl (lv_at hl 0 rfl) ?_
                        refine z_get (v := .ref (a 29)) hC hK hP inX7 rfl 0 rfl 29 (by decide) tw_821 rfl dX7_nobody_61 ?_
                        refine lv_iload hx hb dX7_nobody_64 (lv_at hl 5 rfl) ?_
                        refine z_iald hC hK hP 3 rfl (by omega) (by decide) dX7_nobody_66 ?_
                        refine z_iald hC hK hP 1 rfl (by omega) (by decide) dX7_nobody_67 ?_
                        refine z_icmp_ge (tgt := 110) hx hb dX7_nobody_68 (by decide) (by omega) (fun c_68 => ?_) (fun c_68 => ?_)
                        · refine z_iinc (k := 5) (lv' := [(5, vI (qg + 1)), (0, .ref o0), (1, vI x), (2, vI ql), (3, vI qb), (4, vI q5), (6, vI qk)]) hx hb dX7_nobody_110 hl rfl (by decide) rfl (fun ls hl => ?_)
                          refine lv_goto (tgt := 34) hx hb dX7_nobody_113 (by decide) ?_
                          exact ih_34 (qg + 1) q5 H locs ls hP hD hS (lv_sub hl [1, 2, 3, 4, 5, 0] rfl) (by omega) (by rw [hq5]; exact bZ_cg (cvQ_s (by omega) (fun w => by omega))) (by omega)
                        · have hfk := hfq.2 qk (by omega)
                          refine lv_iload hx hb dX7_nobody_71 (lv_at hl 4 rfl) ?_
                          refine z_if_ne (tgt := 97) hx hb dX7_nobody_73 (by decide) (by omega) (fun c_73 => ?_) (fun c_73 => ?_)
                          · have hk5 : cvK FN FR BE qb qg qk := bZ_ne.mp (show bZ (cvK FN FR BE qb qg qk) ≠ 0 from fun w => c_73 (hq5.trans w))
                            have hk6 : cvK FN FR BE qb qg (qk + 1) := by rcases hk5 with w | ⟨w, k, hk, z⟩; exact Or.inl w; exact Or.inr ⟨w, k, by omega, z⟩
                            refine lv_iconst (v := iI 1) hx hb dX7_nobody_97 rfl ?_
                            refine lv_goto (tgt := 102) hx hb dX7_nobody_98 (by decide) ?_
                            refine lv_istore (lv' := [(4, vI 1), (0, .ref o0), (1, vI x), (2, vI ql), (3, vI qb), (5, vI qg), (6, vI qk)]) hx hb dX7_nobody_102 hl (by decide) rfl (fun ls hl => ?_)
                            refine z_iinc (k := 6) (lv' := [(6, vI (qk + 1)), (4, vI 1), (0, .ref o0), (1, vI x), (2, vI ql), (3, vI qb), (5, vI qg)]) hx hb dX7_nobody_104 hl rfl (by decide) rfl (fun ls hl => ?_)
                            refine lv_goto (tgt := 44) hx hb dX7_nobody_107 (by decide) ?_
                            exact ih_44 (qk + 1) 1 H locs ls hP hD hS (lv_sub hl [2, 3, 4, 5, 1, 6, 0] rfl) (⟨by omega, fun _ => by omega⟩) (by first | exact (bZ_t hk6).symm | exact (bZ_t hk7).symm | exact (bZ_f hk8).symm) (by omega)
                          · refine lv_aload_n hx hb dX7_nobody_76 rfl (lv_at hl 0 rfl) ?_
                            refine z_get (v := .ref (a 24)) hC hK hP inX7 rfl 0 rfl 24 (by decide) tw_816 rfl dX7_nobody_77 ?_
                            refine lv_iconst (v := iI 5) hx hb dX7_nobody_80 rfl ?_
                            refine lv_aload_n hx hb dX7_nobody_81 rfl (lv_at hl 0 rfl) ?_
                            refine z_get (v := .ref (a 29)) hC hK hP inX7 rfl 0 rfl 29 (by decide) tw_821 rfl dX7_nobody_82 ?_
                            refine lv_iload hx hb dX7_nobody_85 (lv_at hl 5 rfl) ?_
                            refine z_iald hC hK hP 3 rfl (by omega) (by decide) dX7_nobody_87 ?_
                            refine z_imul hx hb dX7_nobody_88 ?_
                            refine lv_iload hx hb dX7_nobody_89 (lv_at hl 6 rfl) ?_
                            refine z_iadd hx hb dX7_nobody_91 ?_
                            refine z_iald hC hK hP 2 rfl (by omega) (by decide) dX7_nobody_92 ?_
                            refine lv_iload_n hx hb dX7_nobody_93 rfl (lv_at hl 3 rfl) ?_
                            refine z_icmp_ne (tgt := 101) hx hb dX7_nobody_94 (by decide) (by omega) (fun c_94 => ?_) (fun c_94 => ?_)
                            · have hk8 : ¬ cvK FN FR BE qb qg (qk + 1) := by intro w; rcases w with w | ⟨w1, k, hk, z⟩; exact absurd (hq5.trans (bZ_t (P := cvK FN FR BE qb qg qk) (Or.inl w))) (by omega); rcases (show k = qk ∨ k < qk by omega) with q | q; rw [q] at z; exact c_94 z; exact absurd (hq5.trans (bZ_t (P := cvK FN FR BE qb qg qk) (Or.inr ⟨w1, k, by omega, z⟩))) (by omega)
                              refine lv_iconst (v := iI 0) hx hb dX7_nobody_101 rfl ?_
                              refine lv_istore (lv' := [(4, vI 0), (0, .ref o0), (1, vI x), (2, vI ql), (3, vI qb), (5, vI qg), (6, vI qk)]) hx hb dX7_nobody_102 hl (by decide) rfl (fun ls hl => ?_)
                              refine z_iinc (k := 6) (lv' := [(6, vI (qk + 1)), (4, vI 0), (0, .ref o0), (1, vI x), (2, vI ql), (3, vI qb), (5, vI qg)]) hx hb dX7_nobody_104 hl rfl (by decide) rfl (fun ls hl => ?_)
                              refine lv_goto (tgt := 44) hx hb dX7_nobody_107 (by decide) ?_
                              exact ih_44 (qk + 1) 0 H locs ls hP hD hS (lv_sub hl [2, 3, 4, 5, 1, 6, 0] rfl) (⟨by omega, fun _ => by omega⟩) (by first | exact (bZ_t hk6).symm | exact (bZ_t hk7).symm | exact (bZ_f hk8).symm) (by omega)
                            · have hk7 : cvK FN FR BE qb qg (qk + 1) := Or.inr ⟨by omega, qk, by omega, c_94⟩
                              refine lv_iconst (v := iI 1) hx hb dX7_nobody_97 rfl ?_
                              refine lv_goto (tgt := 102) hx hb dX7_nobody_98 (by decide) ?_
                              refine lv_istore (lv' := [(4, vI 1), (0, .ref o0), (1, vI x), (2, vI ql), (3, vI qb), (5, vI qg), (6, vI qk)]) hx hb dX7_nobody_102 hl (by decide) rfl (fun ls hl => ?_)
                              refine z_iinc (k := 6) (lv' := [(6, vI (qk + 1)), (4, vI 1), (0, .ref o0), (1, vI x), (2, vI ql), (3, vI qb), (5, vI qg)]) hx hb dX7_nobody_104 hl rfl (by decide) rfl (fun ls hl => ?_)
                              refine lv_goto (tgt := 44) hx hb dX7_nobody_107 (by decide) ?_
                              exact ih_44 (qk + 1) 1 H locs ls hP hD hS (lv_sub hl [2, 3, 4, 5, 1, 6, 0] rfl) (⟨by omega, fun _ => by omega⟩) (by first | exact (bZ_t hk6).symm | exact (bZ_t hk7).symm | exact (bZ_f hk8).symm) (by omega)
                  exact cut_44 ((6 - (0 : Int)).toNat + 1) 0 q4 H locs ls hP hD hS (lv_sub hl [1, 2, 3, 4, 5, 6, 0] rfl) (⟨by omega, fun h => by omega⟩) (by rw [hq4]; exact bZ_cg ⟨fun w => Or.inl w, fun w => w.elim id (fun ⟨_, k, hk, _⟩ => by omega)⟩) (Nat.lt_succ_self _)
            exact cut_34 ((6 - (0 : Int)).toNat + 1) 0 0 H locs ls hP hD hS (lv_sub hl [2, 3, 4, 5, 1, 0] rfl) (by omega) ((bZ_f (fun ⟨g, hg, _⟩ => by omega)).symm) (Nat.lt_succ_self _)
  exact cut_9 ((wt - (0 : Int)).toNat + 1) 0 x H locs ls hP hD hS (lv_sub hl [2, 3, 1, 0] rfl) (by omega) (by omega) (fun h => by omega) (fun _ => rfl) (Nat.lt_succ_self _)
