/-! the model's files: keys by their digits, entries, copies -/
theorem key_dg {x : Int} (h : 0 ≤ x ∧ x < 268435456) : x = (kBl x 0 + 1) * 8388608 + (kBl x 1 + 1) * 262144 + (kBl x 2 + 1) * 8192 + (kBl x 3 + 1) * 256 + (kBl x 4 + 1) * 8 + x % 8 := by
  have e0 : kBl x 0 = x / 8388608 % 32 - 1 := rfl
  have e1 : kBl x 1 = x / 262144 % 32 - 1 := rfl
  have e2 : kBl x 2 = x / 8192 % 32 - 1 := rfl
  have e3 : kBl x 3 = x / 256 % 32 - 1 := rfl
  have e4 : kBl x 4 = x / 8 % 32 - 1 := rfl
  omega
/-- a key of a file: digits behind its last block are none -/
def clK (x : Int) : Prop := (0 ≤ x ∧ x < 268435456) ∧ 1 ≤ kSz x ∧ ∀ k : Int, kSz x ≤ k ∧ k < 5 → kBl x k = -1
theorem key_ne {x y k : Int} (hx : 0 ≤ x ∧ x < 268435456) (hy : 0 ≤ y ∧ y < 268435456) (hk : 0 ≤ k ∧ k < 5) (he : ∀ j : Int, 0 ≤ j ∧ j < k → kBl x j = kBl y j) (hn : kBl x k ≠ kBl y k) : x < y ↔ kBl x k < kBl y k := by
  have dx := key_dg hx
  have dy := key_dg hy
  have a0 := kBl_bd x 0
  have a1 := kBl_bd x 1
  have a2 := kBl_bd x 2
  have a3 := kBl_bd x 3
  have a4 := kBl_bd x 4
  have b0 := kBl_bd y 0
  have b1 := kBl_bd y 1
  have b2 := kBl_bd y 2
  have b3 := kBl_bd y 3
  have b4 := kBl_bd y 4
  rcases (show k = 0 ∨ k = 1 ∨ k = 2 ∨ k = 3 ∨ k = 4 by omega) with h | h | h | h | h
  · subst h; omega
  · subst h; have e0 := he 0 (by omega); omega
  · subst h; have e0 := he 0 (by omega); have e1 := he 1 (by omega); omega
  · subst h; have e0 := he 0 (by omega); have e1 := he 1 (by omega); have e2 := he 2 (by omega); omega
  · subst h; have e0 := he 0 (by omega); have e1 := he 1 (by omega); have e2 := he 2 (by omega); have e3 := he 3 (by omega); omega
theorem key_eq {x y : Int} (hx : 0 ≤ x ∧ x < 268435456) (hy : 0 ≤ y ∧ y < 268435456) (he : ∀ j : Int, 0 ≤ j ∧ j < 5 → kBl x j = kBl y j) : x < y ↔ x % 8 < y % 8 := by
  have dx := key_dg hx
  have dy := key_dg hy
  have e0 := he 0 (by omega)
  have e1 := he 1 (by omega)
  have e2 := he 2 (by omega)
  have e3 := he 3 (by omega)
  have e4 := he 4 (by omega)
  omega
theorem key_sz {x y k : Int} (hx : clK x) (hy : clK y) (hk : k ≤ kSz x ∧ k ≤ kSz y) (h0 : 0 ≤ k) (he : ∀ j : Int, 0 ≤ j ∧ j < k → kBl x j = kBl y j) (hd : k = kSz x ∨ k = kSz y) : (kSz x ≠ kSz y → (x < y ↔ kSz x < kSz y)) ∧ (kSz x = kSz y → (x < y ↔ x % 8 < y % 8)) := by
  obtain ⟨x1, x2, x3⟩ := hx
  obtain ⟨y1, y2, y3⟩ := hy
  have sx := kSz_bd x
  have sy := kSz_bd y
  refine ⟨fun hn => ?_, fun hn => key_eq x1 y1 (fun j hj => ?_)⟩
  · rcases (show kSz x < kSz y ∨ kSz y < kSz x by omega) with w | w
    · have e1 := x3 k (by omega)
      have e2 := kSz_lo (x := y) (j := k) (by omega)
      have e3 := kBl_bd y k
      have e4 := key_ne x1 y1 (k := k) (by omega) he (by omega)
      exact ⟨fun _ => w, fun _ => e4.mpr (by omega)⟩
    · have e1 := y3 k (by omega)
      have e2 := kSz_lo (x := x) (j := k) (by omega)
      have e3 := kBl_bd x k
      have e4 := key_ne x1 y1 (k := k) (by omega) he (by omega)
      exact ⟨fun h => by have := e4.mp h; omega, fun h => by omega⟩
  · rcases (show j < k ∨ k ≤ j by omega) with w | w
    · exact he j (by omega)
    · rw [x3 j (by omega), y3 j (by omega)]
/-- a row of w numbers for each file: the first k of one copied to another -/
def cpP (F : Int → Int) (w u t k : Int) : Int → Int := fun j => if w * t ≤ j ∧ j < w * t + k then F (j - w * t + w * u) else F j
theorem cpP_0 (F : Int → Int) (w u t : Int) : cpP F w u t 0 = F := by
  funext j
  exact if_neg (by omega)
theorem cpP_s (F : Int → Int) {w u t k : Int} (hk : 0 ≤ k) (hn : w * u + k < w * t ∨ w * t + k ≤ w * u + k) (hn2 : w * u + k < w * t ∨ w * t + k ≤ w * u) : zup (cpP F w u t k) (w * t + k) (cpP F w u t k (w * u + k)) = cpP F w u t (k + 1) := by
  funext j
  by_cases q : j = w * t + k
  · rw [q, zup_s]
    unfold cpP
    rw [if_neg (by omega), if_pos (by omega), show w * t + k - w * t + w * u = w * u + k by omega]
  · rw [zup_n _ _ q]
    unfold cpP
    by_cases z : w * t ≤ j ∧ j < w * t + k
    · rw [if_pos z, if_pos (by omega)]
    · rw [if_neg z, if_neg (by omega)]
set_option maxRecDepth 100000 in
set_option maxHeartbeats 4000000 in
theorem c_X7_copy (l : Launch) (G : zGt) (sz : Nat) (o0 : Nat) (a : Nat → Nat) (th mk bl hm rc lk lg kp fi lo wt gr eb ec ef iv : Int) (FM : Int → Int) (FN : Int → Int) (FR : Int → Int) (FD : Int → Int) (x y : Int) (hx : 0 ≤ x ∧ x < y) (hy : y ≤ 40) : Met l yX7_copy (Cond.code yX7_copy cX7_copy 4 none :: tb) ({ frames := 0, cells := 0, slots := 0, locals := 0 } : Room) (zPw G [(o0, ob 7 [vI th, .ref (a 1), .ref (a 2), .ref (a 3), .ref (a 4), .ref (a 5), vI mk, .ref (a 7), .ref (a 8), vI bl, .ref (a 10), vI hm, vI rc, .ref (a 13), .ref (a 14), .ref (a 15), vI lk, vI lg, vI kp, vI fi, vI lo, vI wt, .ref (a 22), .ref (a 23), .ref (a 24), .ref (a 25), .ref (a 26), vI gr, .ref (a 28), .ref (a 29), vI eb, vI ec, vI ef, vI iv]), ((a 22), aI G 41 FM), ((a 23), aI G 41 FN), ((a 24), aI G 205 FR), ((a 25), aI G 1517 FD)] sz [.ref o0, vI x, vI y]) (va_Qv (fun u : Unit => True) (fun (u : Unit) t => zB G [(o0, ob 7 [vI th, .ref (a 1), .ref (a 2), .ref (a 3), .ref (a 4), .ref (a 5), vI mk, .ref (a 7), .ref (a 8), vI bl, .ref (a 10), vI hm, vI rc, .ref (a 13), .ref (a 14), .ref (a 15), vI lk, vI lg, vI kp, vI fi, vI lo, vI wt, .ref (a 22), .ref (a 23), .ref (a 24), .ref (a 25), .ref (a 26), vI gr, .ref (a 28), .ref (a 29), vI eb, vI ec, vI ef, vI iv]), ((a 22), aI G 41 FM), ((a 23), aI G 41 FN), ((a 24), aI G 205 FR), ((a 25), aI G 1517 FD)] sz [(o0, ob 7 [vI th, .ref (a 1), .ref (a 2), .ref (a 3), .ref (a 4), .ref (a 5), vI mk, .ref (a 7), .ref (a 8), vI bl, .ref (a 10), vI hm, vI rc, .ref (a 13), .ref (a 14), .ref (a 15), vI lk, vI lg, vI kp, vI fi, vI lo, vI wt, .ref (a 22), .ref (a 23), .ref (a 24), .ref (a 25), .ref (a 26), vI gr, .ref (a 28), .ref (a 29), vI eb, vI ec, vI ef, vI iv]), ((a 22), aI G 41 (zup FM y (FM x))), ((a 23), aI G 41 (zup FN y (FN x))), ((a 24), aI G 205 (cpP FR 5 x y 5)), ((a 25), aI G 1517 (cpP FD 37 x y 37))] t) (va_A [(o0, ob 7 [vI th, .ref (a 1), .ref (a 2), .ref (a 3), .ref (a 4), .ref (a 5), vI mk, .ref (a 7), .ref (a 8), vI bl, .ref (a 10), vI hm, vI rc, .ref (a 13), .ref (a 14), .ref (a 15), vI lk, vI lg, vI kp, vI fi, vI lo, vI wt, .ref (a 22), .ref (a 23), .ref (a 24), .ref (a 25), .ref (a 26), vI gr, .ref (a 28), .ref (a 29), vI eb, vI ec, vI ef, vI iv]), ((a 22), aI G 41 FM), ((a 23), aI G 41 FN), ((a 24), aI G 205 FR), ((a 25), aI G 1517 FD)] sz)) 0 0 (va_A [(o0, ob 7 [vI th, .ref (a 1), .ref (a 2), .ref (a 3), .ref (a 4), .ref (a 5), vI mk, .ref (a 7), .ref (a 8), vI bl, .ref (a 10), vI hm, vI rc, .ref (a 13), .ref (a 14), .ref (a 15), vI lk, vI lg, vI kp, vI fi, vI lo, vI wt, .ref (a 22), .ref (a 23), .ref (a 24), .ref (a 25), .ref (a 26), vI gr, .ref (a 28), .ref (a 29), vI eb, vI ec, vI ef, vI iv]), ((a 22), aI G 41 FM), ((a 23), aI G 41 FN), ((a 24), aI G 205 FR), ((a 25), aI G 1517 FD)] sz) := by
  refine Met.ofW (cc := cX7_copy) (maxL := 4) (ret := none) (by decide) rfl ?_
  intro p e s m args below meth c s₁ B hml hv
  obtain ⟨rfl, hsz, hP, hK, hD0⟩ := hv
  subst hsz
  have hD := hD0.self (sz := s.heap.size)
  obtain ⟨A, hAe⟩ : ∃ A : Nat → Prop, A = va_A [(o0, ob 7 [vI th, .ref (a 1), .ref (a 2), .ref (a 3), .ref (a 4), .ref (a 5), vI mk, .ref (a 7), .ref (a 8), vI bl, .ref (a 10), vI hm, vI rc, .ref (a 13), .ref (a 14), .ref (a 15), vI lk, vI lg, vI kp, vI fi, vI lo, vI wt, .ref (a 22), .ref (a 23), .ref (a 24), .ref (a 25), .ref (a 26), vI gr, .ref (a 28), .ref (a 29), vI eb, vI ec, vI ef, vI iv]), ((a 22), aI G 41 FM), ((a 23), aI G 41 FN), ((a 24), aI G 205 FR), ((a 25), aI G 1517 FD)] s.heap.size := ⟨_, rfl⟩
  rw [← hAe] at hD
  have hA : ∀ q : Nat, s.heap.size ≤ q → A q := fun q h => by rw [hAe]; exact Or.inr h
  have hS : va_S A s.heap s.heap [] := va_S.rf
  obtain ⟨hC, hr, hlk⟩ := z_begin B hml
  have hC : CallFix p m c cX7_copy 4 s _ tb RX7 := hC
  have hx := hC.1
  have hb := hC.2.1
  have hl := lv_entry ([.ref o0, vI x, vI y]) (n := 4) (Nat.le_of_ble_eq_true rfl)
  rw [lg_entry_eq]
  generalize (lg_sl ([.ref o0, vI x, vI y]) ++ List.replicate (4 - (lg_sl ([.ref o0, vI x, vI y])).length) Slot.unset).toArray = ls at hl ⊢
  have hl : lv_has ls 4 [(0, .ref o0), (1, vI x), (2, vI y)] := hl
  obtain ⟨H, hHe⟩ : ∃ H : Heap, H = s.heap := ⟨_, rfl⟩
  obtain ⟨locs, hLe⟩ : ∃ L : List Loc, L = [] := ⟨_, rfl⟩
  suffices hgo : W p l e (headSpec (Cond.code yX7_copy cX7_copy 4 none :: tb) ({ frames := 0, cells := 0, slots := 0, locals := 0 } : Room)).room s m ([.ref o0, vI x, vI y] : List Value).toArray below meth c H locs 0 0 (MQ below (va_Qv (fun u : Unit => True) (fun (u : Unit) t => zB G [(o0, ob 7 [vI th, .ref (a 1), .ref (a 2), .ref (a 3), .ref (a 4), .ref (a 5), vI mk, .ref (a 7), .ref (a 8), vI bl, .ref (a 10), vI hm, vI rc, .ref (a 13), .ref (a 14), .ref (a 15), vI lk, vI lg, vI kp, vI fi, vI lo, vI wt, .ref (a 22), .ref (a 23), .ref (a 24), .ref (a 25), .ref (a 26), vI gr, .ref (a 28), .ref (a 29), vI eb, vI ec, vI ef, vI iv]), ((a 22), aI G 41 FM), ((a 23), aI G 41 FN), ((a 24), aI G 205 FR), ((a 25), aI G 1517 FD)] s.heap.size [(o0, ob 7 [vI th, .ref (a 1), .ref (a 2), .ref (a 3), .ref (a 4), .ref (a 5), vI mk, .ref (a 7), .ref (a 8), vI bl, .ref (a 10), vI hm, vI rc, .ref (a 13), .ref (a 14), .ref (a 15), vI lk, vI lg, vI kp, vI fi, vI lo, vI wt, .ref (a 22), .ref (a 23), .ref (a 24), .ref (a 25), .ref (a 26), vI gr, .ref (a 28), .ref (a 29), vI eb, vI ec, vI ef, vI iv]), ((a 22), aI G 41 (zup FM y (FM x))), ((a 23), aI G 41 (zup FN y (FN x))), ((a 24), aI G 205 (cpP FR 5 x y 5)), ((a 25), aI G 1517 (cpP FD 37 x y 37))] t) (va_A [(o0, ob 7 [vI th, .ref (a 1), .ref (a 2), .ref (a 3), .ref (a 4), .ref (a 5), vI mk, .ref (a 7), .ref (a 8), vI bl, .ref (a 10), vI hm, vI rc, .ref (a 13), .ref (a 14), .ref (a 15), vI lk, vI lg, vI kp, vI fi, vI lo, vI wt, .ref (a 22), .ref (a 23), .ref (a 24), .ref (a 25), .ref (a 26), vI gr, .ref (a 28), .ref (a 29), vI eb, vI ec, vI ef, vI iv]), ((a 22), aI G 41 FM), ((a 23), aI G 41 FN), ((a 24), aI G 205 FR), ((a 25), aI G 1517 FD)] s.heap.size)) ([.ref o0, vI x, vI y] : List Value).toArray s 0 0 (va_A [(o0, ob 7 [vI th, .ref (a 1), .ref (a 2), .ref (a 3), .ref (a 4), .ref (a 5), vI mk, .ref (a 7), .ref (a 8), vI bl, .ref (a 10), vI hm, vI rc, .ref (a 13), .ref (a 14), .ref (a 15), vI lk, vI lg, vI kp, vI fi, vI lo, vI wt, .ref (a 22), .ref (a 23), .ref (a 24), .ref (a 25), .ref (a 26), vI gr, .ref (a 28), .ref (a 29), vI eb, vI ec, vI ef, vI iv]), ((a 22), aI G 41 FM), ((a 23), aI G 41 FN), ((a 24), aI G 205 FR), ((a 25), aI G 1517 FD)] s.heap.size)) (F0 m 0 ls []) by rw [hHe, hLe] at hgo; exact hgo
  rw [← hHe] at hP
  have hS : va_S A s.heap H locs := by rw [hHe, hLe]; exact hS
  clear hHe hLe
  refine lv_iload_n hx hb dX7_copy_0 rfl (lv_at hl 2 rfl) ?_
  refine lv_bipush (v := iI 40) hx hb dX7_copy_1 (by decide) ?_
  refine z_icmp_le (tgt := 7) hx hb dX7_copy_3 (by decide) (by omega) (fun c_3 => ?_) (fun c_3 => ?_)
  · refine lv_aload_n hx hb dX7_copy_7 rfl (lv_at hl 0 rfl) ?_
    refine z_get (v := .ref (a 22)) hC hK hP inX7 rfl 0 rfl 22 (by decide) tw_814 rfl dX7_copy_8 ?_
    refine lv_iload_n hx hb dX7_copy_11 rfl (lv_at hl 2 rfl) ?_
    refine lv_aload_n hx hb dX7_copy_12 rfl (lv_at hl 0 rfl) ?_
    refine z_get (v := .ref (a 22)) hC hK hP inX7 rfl 0 rfl 22 (by decide) tw_814 rfl dX7_copy_13 ?_
    refine lv_iload_n hx hb dX7_copy_16 rfl (lv_at hl 1 rfl) ?_
    refine z_iald hC hK hP 1 rfl (by omega) (by decide) dX7_copy_17 ?_
    refine z_iast (ws' := [(o0, ob 7 [vI th, .ref (a 1), .ref (a 2), .ref (a 3), .ref (a 4), .ref (a 5), vI mk, .ref (a 7), .ref (a 8), vI bl, .ref (a 10), vI hm, vI rc, .ref (a 13), .ref (a 14), .ref (a 15), vI lk, vI lg, vI kp, vI fi, vI lo, vI wt, .ref (a 22), .ref (a 23), .ref (a 24), .ref (a 25), .ref (a 26), vI gr, .ref (a 28), .ref (a 29), vI eb, vI ec, vI ef, vI iv]), ((a 22), aI G 41 (zup FM y (FM x))), ((a 23), aI G 41 FN), ((a 24), aI G 205 FR), ((a 25), aI G 1517 FD)]) hC hK hP hD hS 1 rfl (by omega) (by decide) rfl dX7_copy_18 (fun H locs hP hD hS => ?_)
    refine lv_aload_n hx hb dX7_copy_19 rfl (lv_at hl 0 rfl) ?_
    refine z_get (v := .ref (a 23)) hC hK hP inX7 rfl 0 rfl 23 (by decide) tw_815 rfl dX7_copy_20 ?_
    refine lv_iload_n hx hb dX7_copy_23 rfl (lv_at hl 2 rfl) ?_
    refine lv_aload_n hx hb dX7_copy_24 rfl (lv_at hl 0 rfl) ?_
    refine z_get (v := .ref (a 23)) hC hK hP inX7 rfl 0 rfl 23 (by decide) tw_815 rfl dX7_copy_25 ?_
    refine lv_iload_n hx hb dX7_copy_28 rfl (lv_at hl 1 rfl) ?_
    refine z_iald hC hK hP 2 rfl (by omega) (by decide) dX7_copy_29 ?_
    refine z_iast (ws' := [(o0, ob 7 [vI th, .ref (a 1), .ref (a 2), .ref (a 3), .ref (a 4), .ref (a 5), vI mk, .ref (a 7), .ref (a 8), vI bl, .ref (a 10), vI hm, vI rc, .ref (a 13), .ref (a 14), .ref (a 15), vI lk, vI lg, vI kp, vI fi, vI lo, vI wt, .ref (a 22), .ref (a 23), .ref (a 24), .ref (a 25), .ref (a 26), vI gr, .ref (a 28), .ref (a 29), vI eb, vI ec, vI ef, vI iv]), ((a 22), aI G 41 (zup FM y (FM x))), ((a 23), aI G 41 (zup FN y (FN x))), ((a 24), aI G 205 FR), ((a 25), aI G 1517 FD)]) hC hK hP hD hS 2 rfl (by omega) (by decide) rfl dX7_copy_30 (fun H locs hP hD hS => ?_)
    refine lv_iconst (v := iI 0) hx hb dX7_copy_31 rfl ?_
    refine lv_istore_n (lv' := [(3, vI 0), (0, .ref o0), (1, vI x), (2, vI y)]) hx hb dX7_copy_32 rfl hl (by decide) rfl (fun ls hl => ?_)
    have cut_33 : ∀ (n_ : Nat) (qk : Int) (qF : Int → Int) (H : Heap) (locs : List Loc) (ls : Array Slot), va_P G.1 vwCl [(o0, ob 7 [vI th, .ref (a 1), .ref (a 2), .ref (a 3), .ref (a 4), .ref (a 5), vI mk, .ref (a 7), .ref (a 8), vI bl, .ref (a 10), vI hm, vI rc, .ref (a 13), .ref (a 14), .ref (a 15), vI lk, vI lg, vI kp, vI fi, vI lo, vI wt, .ref (a 22), .ref (a 23), .ref (a 24), .ref (a 25), .ref (a 26), vI gr, .ref (a 28), .ref (a 29), vI eb, vI ec, vI ef, vI iv]), ((a 22), aI G 41 (zup FM y (FM x))), ((a 23), aI G 41 (zup FN y (FN x))), ((a 24), aI G 205 qF), ((a 25), aI G 1517 FD)] H → va_D A [(o0, ob 7 [vI th, .ref (a 1), .ref (a 2), .ref (a 3), .ref (a 4), .ref (a 5), vI mk, .ref (a 7), .ref (a 8), vI bl, .ref (a 10), vI hm, vI rc, .ref (a 13), .ref (a 14), .ref (a 15), vI lk, vI lg, vI kp, vI fi, vI lo, vI wt, .ref (a 22), .ref (a 23), .ref (a 24), .ref (a 25), .ref (a 26), vI gr, .ref (a 28), .ref (a 29), vI eb, vI ec, vI ef, vI iv]), ((a 22), aI G 41 (zup FM y (FM x))), ((a 23), aI G 41 (zup FN y (FN x))), ((a 24), aI G 205 qF), ((a 25), aI G 1517 FD)] → va_S A s.heap H locs → lv_has ls 4 [(0, .ref o0), (1, vI x), (2, vI y), (3, vI qk)] → (0 ≤ qk ∧ qk ≤ 5) → (qF = cpP FR 5 x y qk) → (5 - qk).toNat < n_ → W p l e (headSpec (Cond.code yX7_copy cX7_copy 4 none :: tb) ({ frames := 0, cells := 0, slots := 0, locals := 0 } : Room)).room s m ([.ref o0, vI x, vI y] : List Value).toArray below meth c H locs 0 0 (MQ below (va_Qv (fun u : Unit => True) (fun (u : Unit) t => zB G [(o0, ob 7 [vI th, .ref (a 1), .ref (a 2), .ref (a 3), .ref (a 4), .ref (a 5), vI mk, .ref (a 7), .ref (a 8), vI bl, .ref (a 10), vI hm, vI rc, .ref (a 13), .ref (a 14), .ref (a 15), vI lk, vI lg, vI kp, vI fi, vI lo, vI wt, .ref (a 22), .ref (a 23), .ref (a 24), .ref (a 25), .ref (a 26), vI gr, .ref (a 28), .ref (a 29), vI eb, vI ec, vI ef, vI iv]), ((a 22), aI G 41 FM), ((a 23), aI G 41 FN), ((a 24), aI G 205 FR), ((a 25), aI G 1517 FD)] s.heap.size [(o0, ob 7 [vI th, .ref (a 1), .ref (a 2), .ref (a 3), .ref (a 4), .ref (a 5), vI mk, .ref (a 7), .ref (a 8), vI bl, .ref (a 10), vI hm, vI rc, .ref (a 13), .ref (a 14), .ref (a 15), vI lk, vI lg, vI kp, vI fi, vI lo, vI wt, .ref (a 22), .ref (a 23), .ref (a 24), .ref (a 25), .ref (a 26), vI gr, .ref (a 28), .ref (a 29), vI eb, vI ec, vI ef, vI iv]), ((a 22), aI G 41 (zup FM y (FM x))), ((a 23), aI G 41 (zup FN y (FN x))), ((a 24), aI G 205 (cpP FR 5 x y 5)), ((a 25), aI G 1517 (cpP FD 37 x y 37))] t) (va_A [(o0, ob 7 [vI th, .ref (a 1), .ref (a 2), .ref (a 3), .ref (a 4), .ref (a 5), vI mk, .ref (a 7), .ref (a 8), vI bl, .ref (a 10), vI hm, vI rc, .ref (a 13), .ref (a 14), .ref (a 15), vI lk, vI lg, vI kp, vI fi, vI lo, vI wt, .ref (a 22), .ref (a 23), .ref (a 24), .ref (a 25), .ref (a 26), vI gr, .ref (a 28), .ref (a 29), vI eb, vI ec, vI ef, vI iv]), ((a 22), aI G 41 FM), ((a 23), aI G 41 FN), ((a 24), aI G 205 FR), ((a 25), aI G 1517 FD)] s.heap.size)) ([.ref o0, vI x, vI y] : List Value).toArray s 0 0 (va_A [(o0, ob 7 [vI th, .ref (a 1), .ref (a 2), .ref (a 3), .ref (a 4), .ref (a 5), vI mk, .ref (a 7), .ref (a 8), vI bl, .ref (a 10), vI hm, vI rc, .ref (a 13), .ref (a 14), .ref (a 15), vI lk, vI lg, vI kp, vI fi, vI lo, vI wt, .ref (a 22), .ref (a 23), .ref (a 24), .ref (a 25), .ref (a 26), vI gr, .ref (a 28), .ref (a 29), vI eb, vI ec, vI ef, vI iv]), ((a 22), aI G 41 FM), ((a 23), aI G 41 FN), ((a 24), aI G 205 FR), ((a 25), aI G 1517 FD)] s.heap.size)) (F0 m 33 ls []) := by
      intro n_
      induction n_ with
      | zero => exact fun qk qF H locs ls hP hD hS hl hqk hqF hm_ => absurd hm_ (Nat.not_lt_zero _)
      | succ n_ ih_33 =>
        intro qk qF H locs ls hP hD hS hl hqk hqF hm_
        refine lv_iload_n hx hb dX7_copy_33 rfl (lv_at hl 3 rfl) ?_
        refine lv_iconst (v := iI 5) hx hb dX7_copy_34 rfl ?_
        refine z_icmp_ge (tgt := 64) hx hb dX7_copy_35 (by decide) (by omega) (fun c_35 => ?_) (fun c_35 => ?_)
        · have hf1 : qF = cpP FR 5 x y 5 := by rw [hqF, show qk = 5 by omega]
          refine lv_iconst (v := iI 0) hx hb dX7_copy_64 rfl ?_
          refine lv_istore_n (lv' := [(3, vI 0), (0, .ref o0), (1, vI x), (2, vI y)]) hx hb dX7_copy_65 rfl hl (by decide) rfl (fun ls hl => ?_)
          have cut_66 : ∀ (n_ : Nat) (qk : Int) (qD : Int → Int) (H : Heap) (locs : List Loc) (ls : Array Slot), va_P G.1 vwCl [(o0, ob 7 [vI th, .ref (a 1), .ref (a 2), .ref (a 3), .ref (a 4), .ref (a 5), vI mk, .ref (a 7), .ref (a 8), vI bl, .ref (a 10), vI hm, vI rc, .ref (a 13), .ref (a 14), .ref (a 15), vI lk, vI lg, vI kp, vI fi, vI lo, vI wt, .ref (a 22), .ref (a 23), .ref (a 24), .ref (a 25), .ref (a 26), vI gr, .ref (a 28), .ref (a 29), vI eb, vI ec, vI ef, vI iv]), ((a 22), aI G 41 (zup FM y (FM x))), ((a 23), aI G 41 (zup FN y (FN x))), ((a 24), aI G 205 qF), ((a 25), aI G 1517 qD)] H → va_D A [(o0, ob 7 [vI th, .ref (a 1), .ref (a 2), .ref (a 3), .ref (a 4), .ref (a 5), vI mk, .ref (a 7), .ref (a 8), vI bl, .ref (a 10), vI hm, vI rc, .ref (a 13), .ref (a 14), .ref (a 15), vI lk, vI lg, vI kp, vI fi, vI lo, vI wt, .ref (a 22), .ref (a 23), .ref (a 24), .ref (a 25), .ref (a 26), vI gr, .ref (a 28), .ref (a 29), vI eb, vI ec, vI ef, vI iv]), ((a 22), aI G 41 (zup FM y (FM x))), ((a 23), aI G 41 (zup FN y (FN x))), ((a 24), aI G 205 qF), ((a 25), aI G 1517 qD)] → va_S A s.heap H locs → lv_has ls 4 [(0, .ref o0), (1, vI x), (2, vI y), (3, vI qk)] → (0 ≤ qk ∧ qk ≤ 37) → (qD = cpP FD 37 x y qk) → (37 - qk).toNat < n_ → W p l e (headSpec (Cond.code yX7_copy cX7_copy 4 none :: tb) ({ frames := 0, cells := 0, slots := 0, locals := 0 } : Room)).room s m ([.ref o0, vI x, vI y] : List Value).toArray below meth c H locs 0 0 (MQ below (va_Qv (fun u : Unit => True) (fun (u : Unit) t => zB G [(o0, ob 7 [vI th, .ref (a 1), .ref (a 2), .ref (a 3), .ref (a 4), .ref (a 5), vI mk, .ref (a 7), .ref (a 8), vI bl, .ref (a 10), vI hm, vI rc, .ref (a 13), .ref (a 14), .ref (a 15), vI lk, vI lg, vI kp, vI fi, vI lo, vI wt, .ref (a 22), .ref (a 23), .ref (a 24), .ref (a 25), .ref (a 26), vI gr, .ref (a 28), .ref (a 29), vI eb, vI ec, vI ef, vI iv]), ((a 22), aI G 41 FM), ((a 23), aI G 41 FN), ((a 24), aI G 205 FR), ((a 25), aI G 1517 FD)] s.heap.size [(o0, ob 7 [vI th, .ref (a 1), .ref (a 2), .ref (a 3), .ref (a 4), .ref (a 5), vI mk, .ref (a 7), .ref (a 8), vI bl, .ref (a 10), vI hm, vI rc, .ref (a 13), .ref (a 14), .ref (a 15), vI lk, vI lg, vI kp, vI fi, vI lo, vI wt, .ref (a 22), .ref (a 23), .ref (a 24), .ref (a 25), .ref (a 26), vI gr, .ref (a 28), .ref (a 29), vI eb, vI ec, vI ef, vI iv]), ((a 22), aI G 41 (zup FM y (FM x))), ((a 23), aI G 41 (zup FN y (FN x))), ((a 24), aI G 205 (cpP FR 5 x y 5)), ((a 25), aI G 1517 (cpP FD 37 x y 37))] t) (va_A [(o0, ob 7 [vI th, .ref (a 1), .ref (a 2), .ref (a 3), .ref (a 4), .ref (a 5), vI mk, .ref (a 7), .ref (a 8), vI bl, .ref (a 10), vI hm, vI rc, .ref (a 13), .ref (a 14), .ref (a 15), vI lk, vI lg, vI kp, vI fi, vI lo, vI wt, .ref (a 22), .ref (a 23), .ref (a 24), .ref (a 25), .ref (a 26), vI gr, .ref (a 28), .ref (a 29), vI eb, vI ec, vI ef, vI iv]), ((a 22), aI G 41 FM), ((a 23), aI G 41 FN), ((a 24), aI G 205 FR), ((a 25), aI G 1517 FD)] s.heap.size)) ([.ref o0, vI x, vI y] : List Value).toArray s 0 0 (va_A [(o0, ob 7 [vI th, .ref (a 1), .ref (a 2), .ref (a 3), .ref (a 4), .ref (a 5), vI mk, .ref (a 7), .ref (a 8), vI bl, .ref (a 10), vI hm, vI rc, .ref (a 13), .ref (a 14), .ref (a 15), vI lk, vI lg, vI kp, vI fi, vI lo, vI wt, .ref (a 22), .ref (a 23), .ref (a 24), .ref (a 25), .ref (a 26), vI gr, .ref (a 28), .ref (a 29), vI eb, vI ec, vI ef, vI iv]), ((a 22), aI G 41 FM), ((a 23), aI G 41 FN), ((a 24), aI G 205 FR), ((a 25), aI G 1517 FD)] s.heap.size)) (F0 m 66 ls []) := by
            intro n_
            induction n_ with
            | zero => exact fun qk qD H locs ls hP hD hS hl hqk hqD hm_ => absurd hm_ (Nat.not_lt_zero _)
            | succ n_ ih_66 =>
              intro qk qD H locs ls hP hD hS hl hqk hqD hm_
              refine lv_iload_n hx hb dX7_copy_66 rfl (lv_at hl 3 rfl) ?_
              refine lv_bipush (v := iI 37) hx hb dX7_copy_67 (by decide) ?_
              refine z_icmp_ge (tgt := 100) hx hb dX7_copy_69 (by decide) (by omega) (fun c_69 => ?_) (fun c_69 => ?_)
              · have hf2 : qD = cpP FD 37 x y 37 := by rw [hqD, show qk = 37 by omega]
                have hP : va_P G.1 vwCl [(o0, ob 7 [vI th, .ref (a 1), .ref (a 2), .ref (a 3), .ref (a 4), .ref (a 5), vI mk, .ref (a 7), .ref (a 8), vI bl, .ref (a 10), vI hm, vI rc, .ref (a 13), .ref (a 14), .ref (a 15), vI lk, vI lg, vI kp, vI fi, vI lo, vI wt, .ref (a 22), .ref (a 23), .ref (a 24), .ref (a 25), .ref (a 26), vI gr, .ref (a 28), .ref (a 29), vI eb, vI ec, vI ef, vI iv]), ((a 22), aI G 41 (zup FM y (FM x))), ((a 23), aI G 41 (zup FN y (FN x))), ((a 24), aI G 205 (cpP FR 5 x y 5)), ((a 25), aI G 1517 (cpP FD 37 x y 37))] H := by rw [← hf1, ← hf2]; exact hP
                have hD : va_D A [(o0, ob 7 [vI th, .ref (a 1), .ref (a 2), .ref (a 3), .ref (a 4), .ref (a 5), vI mk, .ref (a 7), .ref (a 8), vI bl, .ref (a 10), vI hm, vI rc, .ref (a 13), .ref (a 14), .ref (a 15), vI lk, vI lg, vI kp, vI fi, vI lo, vI wt, .ref (a 22), .ref (a 23), .ref (a 24), .ref (a 25), .ref (a 26), vI gr, .ref (a 28), .ref (a 29), vI eb, vI ec, vI ef, vI iv]), ((a 22), aI G 41 (zup FM y (FM x))), ((a 23), aI G 41 (zup FN y (FN x))), ((a 24), aI G 205 (cpP FR 5 x y 5)), ((a 25), aI G 1517 (cpP FD 37 x y 37))] := by rw [← hf1, ← hf2]; exact hD
                exact z_vretW hC hr hlk () hAe hP hD hS [0, 1, 2, 3, 4] (by decide) rfl rfl (trivial) dX7_copy_100
              · refine lv_aload_n hx hb dX7_copy_72 rfl (lv_at hl 0 rfl) ?_
                refine z_get (v := .ref (a 25)) hC hK hP inX7 rfl 0 rfl 25 (by decide) tw_817 rfl dX7_copy_73 ?_
                refine lv_bipush (v := iI 37) hx hb dX7_copy_76 (by decide) ?_
                refine lv_iload_n hx hb dX7_copy_78 rfl (lv_at hl 2 rfl) ?_
                refine z_imul hx hb dX7_copy_79 ?_
                refine lv_iload_n hx hb dX7_copy_80 rfl (lv_at hl 3 rfl) ?_
                refine z_iadd hx hb dX7_copy_81 ?_
                refine lv_aload_n hx hb dX7_copy_82 rfl (lv_at hl 0 rfl) ?_
                refine z_get (v := .ref (a 25)) hC hK hP inX7 rfl 0 rfl 25 (by decide) tw_817 rfl dX7_copy_83 ?_
                refine lv_bipush (v := iI 37) hx hb dX7_copy_86 (by decide) ?_
                refine lv_iload_n hx hb dX7_copy_88 rfl (lv_at hl 1 rfl) ?_
                refine z_imul hx hb dX7_copy_89 ?_
                refine lv_iload_n hx hb dX7_copy_90 rfl (lv_at hl 3 rfl) ?_
                refine z_iadd hx hb dX7_copy_91 ?_
                refine z_iald hC hK hP 4 rfl (by omega) (by decide) dX7_copy_92 ?_
                refine z_iast (ws' := [(o0, ob 7 [vI th, .ref (a 1), .ref (a 2), .ref (a 3), .ref (a 4), .ref (a 5), vI mk, .ref (a 7), .ref (a 8), vI bl, .ref (a 10), vI hm, vI rc, .ref (a 13), .ref (a 14), .ref (a 15), vI lk, vI lg, vI kp, vI fi, vI lo, vI wt, .ref (a 22), .ref (a 23), .ref (a 24), .ref (a 25), .ref (a 26), vI gr, .ref (a 28), .ref (a 29), vI eb, vI ec, vI ef, vI iv]), ((a 22), aI G 41 (zup FM y (FM x))), ((a 23), aI G 41 (zup FN y (FN x))), ((a 24), aI G 205 qF), ((a 25), aI G 1517 (zup qD ((37 * y) + qk) (qD ((37 * x) + qk))))]) hC hK hP hD hS 4 rfl (by omega) (by decide) rfl dX7_copy_93 (fun H locs hP hD hS => ?_)
                refine z_iinc (k := 3) (lv' := [(3, vI (qk + 1)), (0, .ref o0), (1, vI x), (2, vI y)]) hx hb dX7_copy_94 hl rfl (by decide) rfl (fun ls hl => ?_)
                refine lv_goto (tgt := 66) hx hb dX7_copy_97 (by decide) ?_
                exact ih_66 (qk + 1) (zup qD ((37 * y) + qk) (qD ((37 * x) + qk))) H locs ls hP hD hS (lv_sub hl [1, 2, 3, 0] rfl) (by omega) (by rw [hqD]; exact cpP_s FD (by omega) (by omega) (by omega)) (by omega)
          exact cut_66 ((37 - (0 : Int)).toNat + 1) 0 FD H locs ls hP hD hS (lv_sub hl [1, 2, 3, 0] rfl) (by omega) ((cpP_0 FD 37 x y).symm) (Nat.lt_succ_self _)
        · refine lv_aload_n hx hb dX7_copy_38 rfl (lv_at hl 0 rfl) ?_
          refine z_get (v := .ref (a 24)) hC hK hP inX7 rfl 0 rfl 24 (by decide) tw_816 rfl dX7_copy_39 ?_
          refine lv_iconst (v := iI 5) hx hb dX7_copy_42 rfl ?_
          refine lv_iload_n hx hb dX7_copy_43 rfl (lv_at hl 2 rfl) ?_
          refine z_imul hx hb dX7_copy_44 ?_
          refine lv_iload_n hx hb dX7_copy_45 rfl (lv_at hl 3 rfl) ?_
          refine z_iadd hx hb dX7_copy_46 ?_
          refine lv_aload_n hx hb dX7_copy_47 rfl (lv_at hl 0 rfl) ?_
          refine z_get (v := .ref (a 24)) hC hK hP inX7 rfl 0 rfl 24 (by decide) tw_816 rfl dX7_copy_48 ?_
          refine lv_iconst (v := iI 5) hx hb dX7_copy_51 rfl ?_
          refine lv_iload_n hx hb dX7_copy_52 rfl (lv_at hl 1 rfl) ?_
          refine z_imul hx hb dX7_copy_53 ?_
          refine lv_iload_n hx hb dX7_copy_54 rfl (lv_at hl 3 rfl) ?_
          refine z_iadd hx hb dX7_copy_55 ?_
          refine z_iald hC hK hP 3 rfl (by omega) (by decide) dX7_copy_56 ?_
          refine z_iast (ws' := [(o0, ob 7 [vI th, .ref (a 1), .ref (a 2), .ref (a 3), .ref (a 4), .ref (a 5), vI mk, .ref (a 7), .ref (a 8), vI bl, .ref (a 10), vI hm, vI rc, .ref (a 13), .ref (a 14), .ref (a 15), vI lk, vI lg, vI kp, vI fi, vI lo, vI wt, .ref (a 22), .ref (a 23), .ref (a 24), .ref (a 25), .ref (a 26), vI gr, .ref (a 28), .ref (a 29), vI eb, vI ec, vI ef, vI iv]), ((a 22), aI G 41 (zup FM y (FM x))), ((a 23), aI G 41 (zup FN y (FN x))), ((a 24), aI G 205 (zup qF ((5 * y) + qk) (qF ((5 * x) + qk)))), ((a 25), aI G 1517 FD)]) hC hK hP hD hS 3 rfl (by omega) (by decide) rfl dX7_copy_57 (fun H locs hP hD hS => ?_)
          refine z_iinc (k := 3) (lv' := [(3, vI (qk + 1)), (0, .ref o0), (1, vI x), (2, vI y)]) hx hb dX7_copy_58 hl rfl (by decide) rfl (fun ls hl => ?_)
          refine lv_goto (tgt := 33) hx hb dX7_copy_61 (by decide) ?_
          exact ih_33 (qk + 1) (zup qF ((5 * y) + qk) (qF ((5 * x) + qk))) H locs ls hP hD hS (lv_sub hl [1, 2, 3, 0] rfl) (by omega) (by rw [hqF]; exact cpP_s FR (by omega) (by omega) (by omega)) (by omega)
    exact cut_33 ((5 - (0 : Int)).toNat + 1) 0 FR H locs ls hP hD hS (lv_sub hl [1, 2, 3, 0] rfl) (by omega) ((cpP_0 FR 5 x y).symm) (Nat.lt_succ_self _)
  · exfalso; omega

set_option maxRecDepth 100000 in
set_option maxHeartbeats 4000000 in
theorem c_X7_isAhead (l : Launch) (G : zGt) (o0 : Nat) (a : Nat → Nat) (th mk bl hm rc lk lg kp fi lo wt gr eb ec ef iv : Int) (RW : Int → Int) (FM : Int → Int) (FN : Int → Int) (FR : Int → Int) (x y z : Int) (ky kz : Int) (hx : 0 ≤ x ∧ x < 8) (hz : 0 ≤ z ∧ z < 41) (hk : clK ky) (hky : kSz ky = y) (hkm : ky % 8 = x) (hkr : ∀ j : Int, 0 ≤ j ∧ j < y → RW j = kBl ky j) (hkz : clK kz) (hly : FN z = kSz kz) (hlm : FM z = kz % 8) (hlr : ∀ j : Int, 0 ≤ j ∧ j < kSz kz → FR (5 * z + j) = kBl kz j) : Met l yX7_isAhead (Cond.code yX7_isAhead cX7_isAhead 5 (some .boolean) :: tb) ({ frames := 0, cells := 0, slots := 0, locals := 0 } : Room) (zPr G [(o0, ob 7 [vI th, .ref (a 1), .ref (a 2), .ref (a 3), .ref (a 4), .ref (a 5), vI mk, .ref (a 7), .ref (a 8), vI bl, .ref (a 10), vI hm, vI rc, .ref (a 13), .ref (a 14), .ref (a 15), vI lk, vI lg, vI kp, vI fi, vI lo, vI wt, .ref (a 22), .ref (a 23), .ref (a 24), .ref (a 25), .ref (a 26), vI gr, .ref (a 28), .ref (a 29), vI eb, vI ec, vI ef, vI iv]), ((a 14), aI G 5 RW), ((a 22), aI G 41 FM), ((a 23), aI G 41 FN), ((a 24), aI G 205 FR)] [.ref o0, vI x, vI y, vI z]) (vp_Si (fun r => r = iI (if ky < kz then 1 else 0))) 0 0 (fun _ => False) := by
  refine Met.ofW (cc := cX7_isAhead) (maxL := 5) (ret := (some .boolean)) (by decide) rfl ?_
  intro p e s m args below meth c s₁ B hml hv
  obtain ⟨rfl, hP, hK⟩ := hv
  obtain ⟨hC, hr, hlk⟩ := z_begin B hml
  have hC : CallFix p m c cX7_isAhead 5 s _ tb RX7 := hC
  have hx := hC.1
  have hb := hC.2.1
  have hl := lv_entry ([.ref o0, vI x, vI y, vI z]) (n := 5) (Nat.le_of_ble_eq_true rfl)
  rw [lg_entry_eq]
  generalize (lg_sl ([.ref o0, vI x, vI y, vI z]) ++ List.replicate (5 - (lg_sl ([.ref o0, vI x, vI y, vI z])).length) Slot.unset).toArray = ls at hl ⊢
  have hl : lv_has ls 5 [(0, .ref o0), (1, vI x), (2, vI y), (3, vI z)] := hl
  have hs1 := kSz_bd ky
  have hs2 := kSz_bd kz
  refine lv_iconst (v := iI 0) hx hb dX7_isAhead_0 rfl ?_
  refine lv_istore (lv' := [(4, vI 0), (0, .ref o0), (1, vI x), (2, vI y), (3, vI z)]) hx hb dX7_isAhead_1 hl (by decide) rfl (fun ls hl => ?_)
  have cut_3 : ∀ (n_ : Nat) (qk : Int) (ls : Array Slot), lv_has ls 5 [(0, .ref o0), (1, vI x), (2, vI y), (3, vI z), (4, vI qk)] → (0 ≤ qk ∧ qk ≤ y) → (qk ≤ kSz kz) → (∀ j : Int, 0 ≤ j ∧ j < qk → kBl ky j = kBl kz j) → (y - qk).toNat < n_ → W p l e (headSpec (Cond.code yX7_isAhead cX7_isAhead 5 (some .boolean) :: tb) ({ frames := 0, cells := 0, slots := 0, locals := 0 } : Room)).room s m ([.ref o0, vI x, vI y, vI z] : List Value).toArray below meth c s.heap [] 0 0 (MQ below (vp_Si (fun r => r = iI (if ky < kz then 1 else 0))) ([.ref o0, vI x, vI y, vI z] : List Value).toArray s 0 0 (fun _ => False)) (F0 m 3 ls []) := by
    intro n_
    induction n_ with
    | zero => exact fun qk ls hl hqk hqk2 hqe hm_ => absurd hm_ (Nat.not_lt_zero _)
    | succ n_ ih_3 =>
      intro qk ls hl hqk hqk2 hqe hm_
      refine lv_iload hx hb dX7_isAhead_3 (lv_at hl 4 rfl) ?_
      refine lv_iload_n hx hb dX7_isAhead_5 rfl (lv_at hl 2 rfl) ?_
      refine z_icmp_ge (tgt := 74) hx hb dX7_isAhead_6 (by decide) (by omega) (fun c_6 => ?_) (fun c_6 => ?_)
      · have hke := key_sz (k := qk) hk hkz (by omega) (by omega) hqe (by omega)
        refine lv_iload_n hx hb dX7_isAhead_74 rfl (lv_at hl 2 rfl) ?_
        refine lv_aload_n hx hb dX7_isAhead_75 rfl (lv_at hl 0 rfl) ?_
        refine z_get (v := .ref (a 23)) hC hK hP inX7 rfl 0 rfl 23 (by decide) tw_815 rfl dX7_isAhead_76 ?_
        refine lv_iload_n hx hb dX7_isAhead_79 rfl (lv_at hl 3 rfl) ?_
        refine z_iald hC hK hP 3 rfl (by omega) (by decide) dX7_isAhead_80 ?_
        refine z_icmp_eq (tgt := 102) hx hb dX7_isAhead_81 (by decide) (by omega) (fun c_81 => ?_) (fun c_81 => ?_)
        · refine lv_iload_n hx hb dX7_isAhead_102 rfl (lv_at hl 1 rfl) ?_
          refine lv_aload_n hx hb dX7_isAhead_103 rfl (lv_at hl 0 rfl) ?_
          refine z_get (v := .ref (a 22)) hC hK hP inX7 rfl 0 rfl 22 (by decide) tw_814 rfl dX7_isAhead_104 ?_
          refine lv_iload_n hx hb dX7_isAhead_107 rfl (lv_at hl 3 rfl) ?_
          refine z_iald hC hK hP 2 rfl (by omega) (by decide) dX7_isAhead_108 ?_
          refine z_icmp_ge (tgt := 116) hx hb dX7_isAhead_109 (by decide) (by omega) (fun c_109 => ?_) (fun c_109 => ?_)
          · refine lv_iconst (v := iI 0) hx hb dX7_isAhead_116 rfl ?_
            exact z_bretR hC hr hlk (by first | exact (if_pos ((hke.1 (by omega)).mpr (by omega))).symm | exact (if_neg (fun h => by have := (hke.1 (by omega)).mp h; omega)).symm | exact (if_pos ((hke.2 (by omega)).mpr (by omega))).symm | exact (if_neg (fun h => by have := (hke.2 (by omega)).mp h; omega)).symm) (by simp) dX7_isAhead_117
          · refine lv_iconst (v := iI 1) hx hb dX7_isAhead_112 rfl ?_
            refine lv_goto (tgt := 117) hx hb dX7_isAhead_113 (by decide) ?_
            exact z_bretR hC hr hlk (by first | exact (if_pos ((hke.1 (by omega)).mpr (by omega))).symm | exact (if_neg (fun h => by have := (hke.1 (by omega)).mp h; omega)).symm | exact (if_pos ((hke.2 (by omega)).mpr (by omega))).symm | exact (if_neg (fun h => by have := (hke.2 (by omega)).mp h; omega)).symm) (by simp) dX7_isAhead_117
        · refine lv_iload_n hx hb dX7_isAhead_84 rfl (lv_at hl 2 rfl) ?_
          refine lv_aload_n hx hb dX7_isAhead_85 rfl (lv_at hl 0 rfl) ?_
          refine z_get (v := .ref (a 23)) hC hK hP inX7 rfl 0 rfl 23 (by decide) tw_815 rfl dX7_isAhead_86 ?_
          refine lv_iload_n hx hb dX7_isAhead_89 rfl (lv_at hl 3 rfl) ?_
          refine z_iald hC hK hP 3 rfl (by omega) (by decide) dX7_isAhead_90 ?_
          refine z_icmp_ge (tgt := 98) hx hb dX7_isAhead_91 (by decide) (by omega) (fun c_91 => ?_) (fun c_91 => ?_)
          · refine lv_iconst (v := iI 0) hx hb dX7_isAhead_98 rfl ?_
            refine lv_goto (tgt := 117) hx hb dX7_isAhead_99 (by decide) ?_
            exact z_bretR hC hr hlk (by first | exact (if_pos ((hke.1 (by omega)).mpr (by omega))).symm | exact (if_neg (fun h => by have := (hke.1 (by omega)).mp h; omega)).symm | exact (if_pos ((hke.2 (by omega)).mpr (by omega))).symm | exact (if_neg (fun h => by have := (hke.2 (by omega)).mp h; omega)).symm) (by simp) dX7_isAhead_117
          · refine lv_iconst (v := iI 1) hx hb dX7_isAhead_94 rfl ?_
            refine lv_goto (tgt := 117) hx hb dX7_isAhead_95 (by decide) ?_
            exact z_bretR hC hr hlk (by first | exact (if_pos ((hke.1 (by omega)).mpr (by omega))).symm | exact (if_neg (fun h => by have := (hke.1 (by omega)).mp h; omega)).symm | exact (if_pos ((hke.2 (by omega)).mpr (by omega))).symm | exact (if_neg (fun h => by have := (hke.2 (by omega)).mp h; omega)).symm) (by simp) dX7_isAhead_117
      · refine lv_iload hx hb dX7_isAhead_9 (lv_at hl 4 rfl) ?_
        refine lv_aload_n hx hb dX7_isAhead_11 rfl (lv_at hl 0 rfl) ?_
        refine z_get (v := .ref (a 23)) hC hK hP inX7 rfl 0 rfl 23 (by decide) tw_815 rfl dX7_isAhead_12 ?_
        refine lv_iload_n hx hb dX7_isAhead_15 rfl (lv_at hl 3 rfl) ?_
        refine z_iald hC hK hP 3 rfl (by omega) (by decide) dX7_isAhead_16 ?_
        refine z_icmp_ge (tgt := 74) hx hb dX7_isAhead_17 (by decide) (by omega) (fun c_17 => ?_) (fun c_17 => ?_)
        · have hke := key_sz (k := qk) hk hkz (by omega) (by omega) hqe (by omega)
          refine lv_iload_n hx hb dX7_isAhead_74 rfl (lv_at hl 2 rfl) ?_
          refine lv_aload_n hx hb dX7_isAhead_75 rfl (lv_at hl 0 rfl) ?_
          refine z_get (v := .ref (a 23)) hC hK hP inX7 rfl 0 rfl 23 (by decide) tw_815 rfl dX7_isAhead_76 ?_
          refine lv_iload_n hx hb dX7_isAhead_79 rfl (lv_at hl 3 rfl) ?_
          refine z_iald hC hK hP 3 rfl (by omega) (by decide) dX7_isAhead_80 ?_
          refine z_icmp_eq (tgt := 102) hx hb dX7_isAhead_81 (by decide) (by omega) (fun c_81 => ?_) (fun c_81 => ?_)
          · refine lv_iload_n hx hb dX7_isAhead_102 rfl (lv_at hl 1 rfl) ?_
            refine lv_aload_n hx hb dX7_isAhead_103 rfl (lv_at hl 0 rfl) ?_
            refine z_get (v := .ref (a 22)) hC hK hP inX7 rfl 0 rfl 22 (by decide) tw_814 rfl dX7_isAhead_104 ?_
            refine lv_iload_n hx hb dX7_isAhead_107 rfl (lv_at hl 3 rfl) ?_
            refine z_iald hC hK hP 2 rfl (by omega) (by decide) dX7_isAhead_108 ?_
            refine z_icmp_ge (tgt := 116) hx hb dX7_isAhead_109 (by decide) (by omega) (fun c_109 => ?_) (fun c_109 => ?_)
            · refine lv_iconst (v := iI 0) hx hb dX7_isAhead_116 rfl ?_
              exact z_bretR hC hr hlk (by first | exact (if_pos ((hke.1 (by omega)).mpr (by omega))).symm | exact (if_neg (fun h => by have := (hke.1 (by omega)).mp h; omega)).symm | exact (if_pos ((hke.2 (by omega)).mpr (by omega))).symm | exact (if_neg (fun h => by have := (hke.2 (by omega)).mp h; omega)).symm) (by simp) dX7_isAhead_117
            · refine lv_iconst (v := iI 1) hx hb dX7_isAhead_112 rfl ?_
              refine lv_goto (tgt := 117) hx hb dX7_isAhead_113 (by decide) ?_
              exact z_bretR hC hr hlk (by first | exact (if_pos ((hke.1 (by omega)).mpr (by omega))).symm | exact (if_neg (fun h => by have := (hke.1 (by omega)).mp h; omega)).symm | exact (if_pos ((hke.2 (by omega)).mpr (by omega))).symm | exact (if_neg (fun h => by have := (hke.2 (by omega)).mp h; omega)).symm) (by simp) dX7_isAhead_117
          · refine lv_iload_n hx hb dX7_isAhead_84 rfl (lv_at hl 2 rfl) ?_
            refine lv_aload_n hx hb dX7_isAhead_85 rfl (lv_at hl 0 rfl) ?_
            refine z_get (v := .ref (a 23)) hC hK hP inX7 rfl 0 rfl 23 (by decide) tw_815 rfl dX7_isAhead_86 ?_
            refine lv_iload_n hx hb dX7_isAhead_89 rfl (lv_at hl 3 rfl) ?_
            refine z_iald hC hK hP 3 rfl (by omega) (by decide) dX7_isAhead_90 ?_
            refine z_icmp_ge (tgt := 98) hx hb dX7_isAhead_91 (by decide) (by omega) (fun c_91 => ?_) (fun c_91 => ?_)
            · refine lv_iconst (v := iI 0) hx hb dX7_isAhead_98 rfl ?_
              refine lv_goto (tgt := 117) hx hb dX7_isAhead_99 (by decide) ?_
              exact z_bretR hC hr hlk (by first | exact (if_pos ((hke.1 (by omega)).mpr (by omega))).symm | exact (if_neg (fun h => by have := (hke.1 (by omega)).mp h; omega)).symm | exact (if_pos ((hke.2 (by omega)).mpr (by omega))).symm | exact (if_neg (fun h => by have := (hke.2 (by omega)).mp h; omega)).symm) (by simp) dX7_isAhead_117
            · refine lv_iconst (v := iI 1) hx hb dX7_isAhead_94 rfl ?_
              refine lv_goto (tgt := 117) hx hb dX7_isAhead_95 (by decide) ?_
              exact z_bretR hC hr hlk (by first | exact (if_pos ((hke.1 (by omega)).mpr (by omega))).symm | exact (if_neg (fun h => by have := (hke.1 (by omega)).mp h; omega)).symm | exact (if_pos ((hke.2 (by omega)).mpr (by omega))).symm | exact (if_neg (fun h => by have := (hke.2 (by omega)).mp h; omega)).symm) (by simp) dX7_isAhead_117
        · have hr1 := hkr qk (by omega)
          have hr2 := hlr qk (by omega)
          have hr3 := kBl_bd ky qk
          have hr4 := kBl_bd kz qk
          refine lv_aload_n hx hb dX7_isAhead_20 rfl (lv_at hl 0 rfl) ?_
          refine z_get (v := .ref (a 14)) hC hK hP inX7 rfl 0 rfl 14 (by decide) tw_806 rfl dX7_isAhead_21 ?_
          refine lv_iload hx hb dX7_isAhead_24 (lv_at hl 4 rfl) ?_
          refine z_iald hC hK hP 1 rfl (by omega) (by decide) dX7_isAhead_26 ?_
          refine lv_aload_n hx hb dX7_isAhead_27 rfl (lv_at hl 0 rfl) ?_
          refine z_get (v := .ref (a 24)) hC hK hP inX7 rfl 0 rfl 24 (by decide) tw_816 rfl dX7_isAhead_28 ?_
          refine lv_iconst (v := iI 5) hx hb dX7_isAhead_31 rfl ?_
          refine lv_iload_n hx hb dX7_isAhead_32 rfl (lv_at hl 3 rfl) ?_
          refine z_imul hx hb dX7_isAhead_33 ?_
          refine lv_iload hx hb dX7_isAhead_34 (lv_at hl 4 rfl) ?_
          refine z_iadd hx hb dX7_isAhead_36 ?_
          refine z_iald hC hK hP 4 rfl (by omega) (by decide) dX7_isAhead_37 ?_
          refine z_icmp_eq (tgt := 68) hx hb dX7_isAhead_38 (by decide) (by omega) (fun c_38 => ?_) (fun c_38 => ?_)
          · refine z_iinc (k := 4) (lv' := [(4, vI (qk + 1)), (0, .ref o0), (1, vI x), (2, vI y), (3, vI z)]) hx hb dX7_isAhead_68 hl rfl (by decide) rfl (fun ls hl => ?_)
            refine lv_goto (tgt := 3) hx hb dX7_isAhead_71 (by decide) ?_
            exact ih_3 (qk + 1) ls (lv_sub hl [1, 2, 3, 4, 0] rfl) (by omega) (by omega) (fun j hj => by rcases (show j = qk ∨ j < qk by omega) with h | h; rw [h]; omega; exact hqe j (by omega)) (by omega)
          · have hkn := key_ne hk.1 hkz.1 (k := qk) (by omega) hqe (by omega)
            refine lv_aload_n hx hb dX7_isAhead_41 rfl (lv_at hl 0 rfl) ?_
            refine z_get (v := .ref (a 14)) hC hK hP inX7 rfl 0 rfl 14 (by decide) tw_806 rfl dX7_isAhead_42 ?_
            refine lv_iload hx hb dX7_isAhead_45 (lv_at hl 4 rfl) ?_
            refine z_iald hC hK hP 1 rfl (by omega) (by decide) dX7_isAhead_47 ?_
            refine lv_aload_n hx hb dX7_isAhead_48 rfl (lv_at hl 0 rfl) ?_
            refine z_get (v := .ref (a 24)) hC hK hP inX7 rfl 0 rfl 24 (by decide) tw_816 rfl dX7_isAhead_49 ?_
            refine lv_iconst (v := iI 5) hx hb dX7_isAhead_52 rfl ?_
            refine lv_iload_n hx hb dX7_isAhead_53 rfl (lv_at hl 3 rfl) ?_
            refine z_imul hx hb dX7_isAhead_54 ?_
            refine lv_iload hx hb dX7_isAhead_55 (lv_at hl 4 rfl) ?_
            refine z_iadd hx hb dX7_isAhead_57 ?_
            refine z_iald hC hK hP 4 rfl (by omega) (by decide) dX7_isAhead_58 ?_
            refine z_icmp_ge (tgt := 66) hx hb dX7_isAhead_59 (by decide) (by omega) (fun c_59 => ?_) (fun c_59 => ?_)
            · refine lv_iconst (v := iI 0) hx hb dX7_isAhead_66 rfl ?_
              exact z_bretR hC hr hlk (by first | exact (if_pos (hkn.mpr (by omega))).symm | exact (if_neg (fun h => by have := hkn.mp h; omega)).symm) (by simp) dX7_isAhead_67
            · refine lv_iconst (v := iI 1) hx hb dX7_isAhead_62 rfl ?_
              refine lv_goto (tgt := 67) hx hb dX7_isAhead_63 (by decide) ?_
              exact z_bretR hC hr hlk (by first | exact (if_pos (hkn.mpr (by omega))).symm | exact (if_neg (fun h => by have := hkn.mp h; omega)).symm) (by simp) dX7_isAhead_67
  exact cut_3 ((y - (0 : Int)).toNat + 1) 0 ls (lv_sub hl [1, 2, 3, 4, 0] rfl) (by omega) (by omega) (fun j hj => by omega) (Nat.lt_succ_self _)
