/-! the model's pure parts: its table of steps, its doublings of the CRC, its texts -/
def nxE (NX : Int → Int) (b lo hi bt : Int) : Int → Int := fun j => if b + lo ≤ j ∧ j ≤ b + hi then zor (NX j) bt else NX j
theorem nxE_0 (NX : Int → Int) (b lo bt : Int) : nxE NX b lo (lo - 1) bt = NX := by
  funext j
  exact if_neg (by omega)
theorem nxE_s (NX : Int → Int) {b lo i bt : Int} (hl : lo ≤ i) : zup (nxE NX b lo (i - 1) bt) (b + i) (zor (nxE NX b lo (i - 1) bt (b + i)) bt) = nxE NX b lo i bt := by
  funext j
  by_cases q : j = b + i
  · rw [q, zup_s]
    unfold nxE
    rw [if_neg (by omega), if_pos (by omega)]
  · rw [zup_n _ _ q]
    unfold nxE
    by_cases w : b + lo ≤ j ∧ j ≤ b + (i - 1)
    · rw [if_pos w, if_pos (by omega)]
    · rw [if_neg w, if_neg (by omega)]
def tM (NX : Int → Int) (x : Int) : Int → Int := fun j => NX ((16 * x + j % 16) * 256 + j / 16)
theorem tM_at (NX : Int → Int) (x : Int) {v k : Int} (hk : 0 ≤ k ∧ k < 16) : tM NX x (v * 16 + k) = NX ((16 * x + k) * 256 + v) := by
  unfold tM
  rw [show (v * 16 + k) % 16 = k by omega, show (v * 16 + k) / 16 = v by omega]
theorem bit_shr {st i : Int} (hs : 0 ≤ st ∧ st < 2147483648) (hi : 0 ≤ i ∧ i < 32) : zand (zshr st i) 1 = st / ((2 ^ i.toNat : Nat) : Int) % 2 := by
  have h1 := zshr_div (a := st) i.toNat hs (by omega)
  rw [Int.toNat_of_nonneg hi.1] at h1
  have h2 : 0 ≤ st / ((2 ^ i.toNat : Nat) : Int) := Int.ediv_nonneg hs.1 (Int.natCast_nonneg _)
  have h3 := Int.ediv_le_self ((2 ^ i.toNat : Nat) : Int) hs.1
  rw [h1, zand_1 (by omega)]
def dbZ (v : Int) : Int := zxor (zand (zshl v 1) 255) (if 128 ≤ v then 7 else 0)
def dbN (v : Int) : Nat → Int
  | 0 => v
  | k + 1 => dbZ (dbN v k)
theorem dbZ_tab : ∀ n : Fin 256, (0 ≤ dbZ (n.val : Int) ∧ dbZ (n.val : Int) < 256) ∧ dbN (n.val : Int) 8 = crcZ (n.val : Int) := by decide +kernel
theorem dbZ_bd {v : Int} (h : 0 ≤ v ∧ v < 256) : 0 ≤ dbZ v ∧ dbZ v < 256 := by
  have h1 := (dbZ_tab ⟨v.toNat, by omega⟩).1
  rwa [show ((⟨v.toNat, by omega⟩ : Fin 256).val : Int) = v from Int.toNat_of_nonneg h.1] at h1
theorem dbN_8 {v : Int} (h : 0 ≤ v ∧ v < 256) : dbN v 8 = crcZ v := by
  have h1 := (dbZ_tab ⟨v.toNat, by omega⟩).2
  rwa [show ((⟨v.toNat, by omega⟩ : Fin 256).val : Int) = v from Int.toNat_of_nonneg h.1] at h1
theorem dbN_s {v i x : Int} (hi : 0 ≤ i) (hx : x = dbN v i.toNat) : dbZ x = dbN v (i + 1).toNat := by
  rw [show (i + 1).toNat = i.toNat + 1 by omega, hx]; rfl
theorem ckZ_0 {kd u v : Int} (h : kd = 0) : zand (u + v) 255 = ckZ kd u v := by unfold ckZ; rw [if_pos h]
theorem ckZ_1 {kd u v : Int} (h : kd = 1) : zxor u v = ckZ kd u v := by unfold ckZ; rw [if_neg (by omega), if_pos h]
theorem ckZ_2 {kd u v : Int} (h : kd = 2) (hu : 0 ≤ u ∧ u < 256) (hv : 0 ≤ v ∧ v < 256) : dbN (zxor u v) 8 = ckZ kd u v := by
  unfold ckZ
  rw [if_neg (by omega), if_neg (by omega)]
  exact dbN_8 (zxor_bd 8 (by decide) hu hv)
theorem txA_tx {a b n : Int} {hd tx : Int → Int} (h : ∀ j : Int, 0 ≤ j ∧ j < 3 + n → tx j = txA a b n hd j) (ha : 0 ≤ a ∧ a < 256) (hb : 0 ≤ b ∧ b < 256) (hn : 0 ≤ n ∧ n ≤ 36) (hh : ∀ j : Int, 0 ≤ j ∧ j < n → 0 ≤ hd j ∧ hd j < 256) : ∀ j : Int, 0 ≤ j ∧ j < 3 + n → 0 ≤ tx j ∧ tx j < 256 := fun j hj => by rw [h j hj]; exact txA_bd ha hb hn hh hj
theorem mv_X7_asFile : zMV yX7_asFile cX7_asFile 3 (some .int) RX7 1 := ⟨tw_954, tw_953, tw_20, tw_41, by decide +kernel⟩
theorem mv_X7_checkOf : zMV yX7_checkOf cX7_checkOf 6 (some .int) RX7 2 := ⟨tw_958, tw_957, tw_21, tw_41, by decide +kernel⟩
set_option maxRecDepth 100000 in
set_option maxHeartbeats 4000000 in
theorem c_X7_edge_1 (l : Launch) (G : zGt) (sz : Nat) (o0 : Nat) (a : Nat → Nat) (th mk bl hm rc lk lg kp fi lo wt gr eb ec ef iv : Int) (x y z w t0 : Int) (hmk : 0 ≤ mk ∧ mk ≤ 6) (hx : -2147483648 ≤ x ∧ x < 2147483648) (hno : ¬ (0 ≤ x ∧ x < mk)) : Met l yX7_edge (Cond.code yX7_edge cX7_edge 7 (some .int) :: tb) ({ frames := 1, cells := 0, slots := 0, locals := 21 } : Room) (zPw G [(o0, ob 7 [vI th, .ref (a 1), .ref (a 2), .ref (a 3), .ref (a 4), .ref (a 5), vI mk, .ref (a 7), .ref (a 8), vI bl, .ref (a 10), vI hm, vI rc, .ref (a 13), .ref (a 14), .ref (a 15), vI lk, vI lg, vI kp, vI fi, vI lo, vI wt, .ref (a 22), .ref (a 23), .ref (a 24), .ref (a 25), .ref (a 26), vI gr, .ref (a 28), .ref (a 29), vI eb, vI ec, vI ef, vI iv])] sz [.ref o0, vI x, vI y, vI z, vI w, vI t0]) (va_Qi (fun (r : Int32) (u : Unit) => r = iI 0 ∧ True) (fun (u : Unit) t => zB G [(o0, ob 7 [vI th, .ref (a 1), .ref (a 2), .ref (a 3), .ref (a 4), .ref (a 5), vI mk, .ref (a 7), .ref (a 8), vI bl, .ref (a 10), vI hm, vI rc, .ref (a 13), .ref (a 14), .ref (a 15), vI lk, vI lg, vI kp, vI fi, vI lo, vI wt, .ref (a 22), .ref (a 23), .ref (a 24), .ref (a 25), .ref (a 26), vI gr, .ref (a 28), .ref (a 29), vI eb, vI ec, vI ef, vI iv])] sz [(o0, ob 7 [vI 1, .ref (a 1), .ref (a 2), .ref (a 3), .ref (a 4), .ref (a 5), vI mk, .ref (a 7), .ref (a 8), vI bl, .ref (a 10), vI hm, vI rc, .ref (a 13), .ref (a 14), .ref (a 15), vI lk, vI lg, vI kp, vI fi, vI lo, vI wt, .ref (a 22), .ref (a 23), .ref (a 24), .ref (a 25), .ref (a 26), vI gr, .ref (a 28), .ref (a 29), vI eb, vI ec, vI ef, vI iv])] t) (va_A [(o0, ob 7 [vI th, .ref (a 1), .ref (a 2), .ref (a 3), .ref (a 4), .ref (a 5), vI mk, .ref (a 7), .ref (a 8), vI bl, .ref (a 10), vI hm, vI rc, .ref (a 13), .ref (a 14), .ref (a 15), vI lk, vI lg, vI kp, vI fi, vI lo, vI wt, .ref (a 22), .ref (a 23), .ref (a 24), .ref (a 25), .ref (a 26), vI gr, .ref (a 28), .ref (a 29), vI eb, vI ec, vI ef, vI iv])] sz)) 0 0 (va_A [(o0, ob 7 [vI th, .ref (a 1), .ref (a 2), .ref (a 3), .ref (a 4), .ref (a 5), vI mk, .ref (a 7), .ref (a 8), vI bl, .ref (a 10), vI hm, vI rc, .ref (a 13), .ref (a 14), .ref (a 15), vI lk, vI lg, vI kp, vI fi, vI lo, vI wt, .ref (a 22), .ref (a 23), .ref (a 24), .ref (a 25), .ref (a 26), vI gr, .ref (a 28), .ref (a 29), vI eb, vI ec, vI ef, vI iv])] sz) := by
  refine Met.ofW (cc := cX7_edge) (maxL := 7) (ret := (some .int)) (by decide) rfl ?_
  intro p e s m args below meth c s₁ B hml hv
  obtain ⟨rfl, hsz, hP, hK, hD0⟩ := hv
  subst hsz
  have hD := hD0.self (sz := s.heap.size)
  obtain ⟨A, hAe⟩ : ∃ A : Nat → Prop, A = va_A [(o0, ob 7 [vI th, .ref (a 1), .ref (a 2), .ref (a 3), .ref (a 4), .ref (a 5), vI mk, .ref (a 7), .ref (a 8), vI bl, .ref (a 10), vI hm, vI rc, .ref (a 13), .ref (a 14), .ref (a 15), vI lk, vI lg, vI kp, vI fi, vI lo, vI wt, .ref (a 22), .ref (a 23), .ref (a 24), .ref (a 25), .ref (a 26), vI gr, .ref (a 28), .ref (a 29), vI eb, vI ec, vI ef, vI iv])] s.heap.size := ⟨_, rfl⟩
  rw [← hAe] at hD
  have hA : ∀ q : Nat, s.heap.size ≤ q → A q := fun q h => by rw [hAe]; exact Or.inr h
  have hS : va_S A s.heap s.heap [] := va_S.rf
  obtain ⟨hC, hr, hlk⟩ := z_begin B hml
  have hC : CallFix p m c cX7_edge 7 s _ tb RX7 := hC
  have hx := hC.1
  have hb := hC.2.1
  have hl := lv_entry ([.ref o0, vI x, vI y, vI z, vI w, vI t0]) (n := 7) (Nat.le_of_ble_eq_true rfl)
  rw [lg_entry_eq]
  generalize (lg_sl ([.ref o0, vI x, vI y, vI z, vI w, vI t0]) ++ List.replicate (7 - (lg_sl ([.ref o0, vI x, vI y, vI z, vI w, vI t0])).length) Slot.unset).toArray = ls at hl ⊢
  have hl : lv_has ls 7 [(0, .ref o0), (1, vI x), (2, vI y), (3, vI z), (4, vI w), (5, vI t0)] := hl
  obtain ⟨H, hHe⟩ : ∃ H : Heap, H = s.heap := ⟨_, rfl⟩
  obtain ⟨locs, hLe⟩ : ∃ L : List Loc, L = [] := ⟨_, rfl⟩
  suffices hgo : W p l e (headSpec (Cond.code yX7_edge cX7_edge 7 (some .int) :: tb) ({ frames := 1, cells := 0, slots := 0, locals := 21 } : Room)).room s m ([.ref o0, vI x, vI y, vI z, vI w, vI t0] : List Value).toArray below meth c H locs 0 0 (MQ below (va_Qi (fun (r : Int32) (u : Unit) => r = iI 0 ∧ True) (fun (u : Unit) t => zB G [(o0, ob 7 [vI th, .ref (a 1), .ref (a 2), .ref (a 3), .ref (a 4), .ref (a 5), vI mk, .ref (a 7), .ref (a 8), vI bl, .ref (a 10), vI hm, vI rc, .ref (a 13), .ref (a 14), .ref (a 15), vI lk, vI lg, vI kp, vI fi, vI lo, vI wt, .ref (a 22), .ref (a 23), .ref (a 24), .ref (a 25), .ref (a 26), vI gr, .ref (a 28), .ref (a 29), vI eb, vI ec, vI ef, vI iv])] s.heap.size [(o0, ob 7 [vI 1, .ref (a 1), .ref (a 2), .ref (a 3), .ref (a 4), .ref (a 5), vI mk, .ref (a 7), .ref (a 8), vI bl, .ref (a 10), vI hm, vI rc, .ref (a 13), .ref (a 14), .ref (a 15), vI lk, vI lg, vI kp, vI fi, vI lo, vI wt, .ref (a 22), .ref (a 23), .ref (a 24), .ref (a 25), .ref (a 26), vI gr, .ref (a 28), .ref (a 29), vI eb, vI ec, vI ef, vI iv])] t) (va_A [(o0, ob 7 [vI th, .ref (a 1), .ref (a 2), .ref (a 3), .ref (a 4), .ref (a 5), vI mk, .ref (a 7), .ref (a 8), vI bl, .ref (a 10), vI hm, vI rc, .ref (a 13), .ref (a 14), .ref (a 15), vI lk, vI lg, vI kp, vI fi, vI lo, vI wt, .ref (a 22), .ref (a 23), .ref (a 24), .ref (a 25), .ref (a 26), vI gr, .ref (a 28), .ref (a 29), vI eb, vI ec, vI ef, vI iv])] s.heap.size)) ([.ref o0, vI x, vI y, vI z, vI w, vI t0] : List Value).toArray s 0 0 (va_A [(o0, ob 7 [vI th, .ref (a 1), .ref (a 2), .ref (a 3), .ref (a 4), .ref (a 5), vI mk, .ref (a 7), .ref (a 8), vI bl, .ref (a 10), vI hm, vI rc, .ref (a 13), .ref (a 14), .ref (a 15), vI lk, vI lg, vI kp, vI fi, vI lo, vI wt, .ref (a 22), .ref (a 23), .ref (a 24), .ref (a 25), .ref (a 26), vI gr, .ref (a 28), .ref (a 29), vI eb, vI ec, vI ef, vI iv])] s.heap.size)) (F0 m 0 ls []) by rw [hHe, hLe] at hgo; exact hgo
  rw [← hHe] at hP
  have hS : va_S A s.heap H locs := by rw [hHe, hLe]; exact hS
  clear hHe hLe
  refine lv_aload_n hx hb dX7_edge_0 rfl (lv_at hl 0 rfl) ?_
  refine lv_iload_n hx hb dX7_edge_1 rfl (lv_at hl 1 rfl) ?_
  refine z_wVi (q0 := 0) (ci := 7) (b := o0) (rest := []) (wr := []) hC hK hP hD hS hA (c_X7_isMake_f l G H.size o0 a th mk bl hm rc lk lg kp fi lo wt gr eb ec ef iv x (by omega) (by omega) (hno)) mv_X7_isMake tw_914 [0] [] rfl rfl rfl rfl (by decide) rfl rfl rfl rfl hl.1 rfl (Nat.le_of_ble_eq_true rfl) ⟨rfl, rfl, Nat.le_of_ble_eq_true rfl, Nat.le_of_ble_eq_true rfl⟩ ⟨Nat.le_of_ble_eq_true rfl, Nat.le_of_ble_eq_true rfl⟩ dX7_edge_2 (fun r u H locs hw hP hD hS => ?_)
  have hP : va_P G.1 vwCl [(o0, ob 7 [vI 1, .ref (a 1), .ref (a 2), .ref (a 3), .ref (a 4), .ref (a 5), vI mk, .ref (a 7), .ref (a 8), vI bl, .ref (a 10), vI hm, vI rc, .ref (a 13), .ref (a 14), .ref (a 15), vI lk, vI lg, vI kp, vI fi, vI lo, vI wt, .ref (a 22), .ref (a 23), .ref (a 24), .ref (a 25), .ref (a 26), vI gr, .ref (a 28), .ref (a 29), vI eb, vI ec, vI ef, vI iv])] H := hP
  have hD : va_D A [(o0, ob 7 [vI 1, .ref (a 1), .ref (a 2), .ref (a 3), .ref (a 4), .ref (a 5), vI mk, .ref (a 7), .ref (a 8), vI bl, .ref (a 10), vI hm, vI rc, .ref (a 13), .ref (a 14), .ref (a 15), vI lk, vI lg, vI kp, vI fi, vI lo, vI wt, .ref (a 22), .ref (a 23), .ref (a 24), .ref (a 25), .ref (a 26), vI gr, .ref (a 28), .ref (a 29), vI eb, vI ec, vI ef, vI iv])] := hD
  obtain ⟨hrw_, hw_1⟩ := hw
  rw [hrw_]
  clear hrw_
  clear hw_1
  refine z_if_eq (tgt := 88) hx hb dX7_edge_5 (by decide) (by omega) (fun c_5 => ?_) (fun c_5 => ?_)
  · refine lv_iconst (v := iI 0) hx hb dX7_edge_88 rfl ?_
    exact z_iretW hC hr hlk () hAe hP hD hS [0] (by decide) rfl rfl (⟨rfl, trivial⟩) dX7_edge_89
  · exact absurd c_5 (by decide)

set_option maxRecDepth 100000 in
set_option maxHeartbeats 4000000 in
theorem c_X7_edge_2 (l : Launch) (G : zGt) (sz : Nat) (o0 : Nat) (a : Nat → Nat) (th mk bl hm rc lk lg kp fi lo wt gr eb ec ef iv : Int) (x y z w t0 : Int) (hmk : 0 ≤ mk ∧ mk ≤ 6) (hx : 0 ≤ x ∧ x < mk) (hy : -2147483648 ≤ y ∧ y < 2147483648) (hz : -2147483648 ≤ z ∧ z < 2147483648) (hw : -2147483648 ≤ w ∧ w < 2147483648) (ht0 : -2147483648 ≤ t0 ∧ t0 < 2147483648) (hno : ¬ ((0 ≤ y ∧ y < 16) ∧ (0 ≤ t0 ∧ t0 < 16) ∧ (0 ≤ z ∧ z < 256) ∧ (0 ≤ w ∧ w < 256) ∧ z ≤ w)) : Met l yX7_edge (Cond.code yX7_edge cX7_edge 7 (some .int) :: tb) ({ frames := 1, cells := 0, slots := 0, locals := 22 } : Room) (zPw G [(o0, ob 7 [vI th, .ref (a 1), .ref (a 2), .ref (a 3), .ref (a 4), .ref (a 5), vI mk, .ref (a 7), .ref (a 8), vI bl, .ref (a 10), vI hm, vI rc, .ref (a 13), .ref (a 14), .ref (a 15), vI lk, vI lg, vI kp, vI fi, vI lo, vI wt, .ref (a 22), .ref (a 23), .ref (a 24), .ref (a 25), .ref (a 26), vI gr, .ref (a 28), .ref (a 29), vI eb, vI ec, vI ef, vI iv])] sz [.ref o0, vI x, vI y, vI z, vI w, vI t0]) (va_Qi (fun (r : Int32) (u : Unit) => r = iI 0 ∧ True) (fun (u : Unit) t => zB G [(o0, ob 7 [vI th, .ref (a 1), .ref (a 2), .ref (a 3), .ref (a 4), .ref (a 5), vI mk, .ref (a 7), .ref (a 8), vI bl, .ref (a 10), vI hm, vI rc, .ref (a 13), .ref (a 14), .ref (a 15), vI lk, vI lg, vI kp, vI fi, vI lo, vI wt, .ref (a 22), .ref (a 23), .ref (a 24), .ref (a 25), .ref (a 26), vI gr, .ref (a 28), .ref (a 29), vI eb, vI ec, vI ef, vI iv])] sz [(o0, ob 7 [vI 2, .ref (a 1), .ref (a 2), .ref (a 3), .ref (a 4), .ref (a 5), vI mk, .ref (a 7), .ref (a 8), vI bl, .ref (a 10), vI hm, vI rc, .ref (a 13), .ref (a 14), .ref (a 15), vI lk, vI lg, vI kp, vI fi, vI lo, vI wt, .ref (a 22), .ref (a 23), .ref (a 24), .ref (a 25), .ref (a 26), vI gr, .ref (a 28), .ref (a 29), vI eb, vI ec, vI ef, vI iv])] t) (va_A [(o0, ob 7 [vI th, .ref (a 1), .ref (a 2), .ref (a 3), .ref (a 4), .ref (a 5), vI mk, .ref (a 7), .ref (a 8), vI bl, .ref (a 10), vI hm, vI rc, .ref (a 13), .ref (a 14), .ref (a 15), vI lk, vI lg, vI kp, vI fi, vI lo, vI wt, .ref (a 22), .ref (a 23), .ref (a 24), .ref (a 25), .ref (a 26), vI gr, .ref (a 28), .ref (a 29), vI eb, vI ec, vI ef, vI iv])] sz)) 0 0 (va_A [(o0, ob 7 [vI th, .ref (a 1), .ref (a 2), .ref (a 3), .ref (a 4), .ref (a 5), vI mk, .ref (a 7), .ref (a 8), vI bl, .ref (a 10), vI hm, vI rc, .ref (a 13), .ref (a 14), .ref (a 15), vI lk, vI lg, vI kp, vI fi, vI lo, vI wt, .ref (a 22), .ref (a 23), .ref (a 24), .ref (a 25), .ref (a 26), vI gr, .ref (a 28), .ref (a 29), vI eb, vI ec, vI ef, vI iv])] sz) := by
  refine Met.ofW (cc := cX7_edge) (maxL := 7) (ret := (some .int)) (by decide) rfl ?_
  intro p e s m args below meth c s₁ B hml hv
  obtain ⟨rfl, hsz, hP, hK, hD0⟩ := hv
  subst hsz
  have hD := hD0.self (sz := s.heap.size)
  obtain ⟨A, hAe⟩ : ∃ A : Nat → Prop, A = va_A [(o0, ob 7 [vI th, .ref (a 1), .ref (a 2), .ref (a 3), .ref (a 4), .ref (a 5), vI mk, .ref (a 7), .ref (a 8), vI bl, .ref (a 10), vI hm, vI rc, .ref (a 13), .ref (a 14), .ref (a 15), vI lk, vI lg, vI kp, vI fi, vI lo, vI wt, .ref (a 22), .ref (a 23), .ref (a 24), .ref (a 25), .ref (a 26), vI gr, .ref (a 28), .ref (a 29), vI eb, vI ec, vI ef, vI iv])] s.heap.size := ⟨_, rfl⟩
  rw [← hAe] at hD
  have hA : ∀ q : Nat, s.heap.size ≤ q → A q := fun q h => by rw [hAe]; exact Or.inr h
  have hS : va_S A s.heap s.heap [] := va_S.rf
  obtain ⟨hC, hr, hlk⟩ := z_begin B hml
  have hC : CallFix p m c cX7_edge 7 s _ tb RX7 := hC
  have hx := hC.1
  have hb := hC.2.1
  have hl := lv_entry ([.ref o0, vI x, vI y, vI z, vI w, vI t0]) (n := 7) (Nat.le_of_ble_eq_true rfl)
  rw [lg_entry_eq]
  generalize (lg_sl ([.ref o0, vI x, vI y, vI z, vI w, vI t0]) ++ List.replicate (7 - (lg_sl ([.ref o0, vI x, vI y, vI z, vI w, vI t0])).length) Slot.unset).toArray = ls at hl ⊢
  have hl : lv_has ls 7 [(0, .ref o0), (1, vI x), (2, vI y), (3, vI z), (4, vI w), (5, vI t0)] := hl
  obtain ⟨H, hHe⟩ : ∃ H : Heap, H = s.heap := ⟨_, rfl⟩
  obtain ⟨locs, hLe⟩ : ∃ L : List Loc, L = [] := ⟨_, rfl⟩
  suffices hgo : W p l e (headSpec (Cond.code yX7_edge cX7_edge 7 (some .int) :: tb) ({ frames := 1, cells := 0, slots := 0, locals := 22 } : Room)).room s m ([.ref o0, vI x, vI y, vI z, vI w, vI t0] : List Value).toArray below meth c H locs 0 0 (MQ below (va_Qi (fun (r : Int32) (u : Unit) => r = iI 0 ∧ True) (fun (u : Unit) t => zB G [(o0, ob 7 [vI th, .ref (a 1), .ref (a 2), .ref (a 3), .ref (a 4), .ref (a 5), vI mk, .ref (a 7), .ref (a 8), vI bl, .ref (a 10), vI hm, vI rc, .ref (a 13), .ref (a 14), .ref (a 15), vI lk, vI lg, vI kp, vI fi, vI lo, vI wt, .ref (a 22), .ref (a 23), .ref (a 24), .ref (a 25), .ref (a 26), vI gr, .ref (a 28), .ref (a 29), vI eb, vI ec, vI ef, vI iv])] s.heap.size [(o0, ob 7 [vI 2, .ref (a 1), .ref (a 2), .ref (a 3), .ref (a 4), .ref (a 5), vI mk, .ref (a 7), .ref (a 8), vI bl, .ref (a 10), vI hm, vI rc, .ref (a 13), .ref (a 14), .ref (a 15), vI lk, vI lg, vI kp, vI fi, vI lo, vI wt, .ref (a 22), .ref (a 23), .ref (a 24), .ref (a 25), .ref (a 26), vI gr, .ref (a 28), .ref (a 29), vI eb, vI ec, vI ef, vI iv])] t) (va_A [(o0, ob 7 [vI th, .ref (a 1), .ref (a 2), .ref (a 3), .ref (a 4), .ref (a 5), vI mk, .ref (a 7), .ref (a 8), vI bl, .ref (a 10), vI hm, vI rc, .ref (a 13), .ref (a 14), .ref (a 15), vI lk, vI lg, vI kp, vI fi, vI lo, vI wt, .ref (a 22), .ref (a 23), .ref (a 24), .ref (a 25), .ref (a 26), vI gr, .ref (a 28), .ref (a 29), vI eb, vI ec, vI ef, vI iv])] s.heap.size)) ([.ref o0, vI x, vI y, vI z, vI w, vI t0] : List Value).toArray s 0 0 (va_A [(o0, ob 7 [vI th, .ref (a 1), .ref (a 2), .ref (a 3), .ref (a 4), .ref (a 5), vI mk, .ref (a 7), .ref (a 8), vI bl, .ref (a 10), vI hm, vI rc, .ref (a 13), .ref (a 14), .ref (a 15), vI lk, vI lg, vI kp, vI fi, vI lo, vI wt, .ref (a 22), .ref (a 23), .ref (a 24), .ref (a 25), .ref (a 26), vI gr, .ref (a 28), .ref (a 29), vI eb, vI ec, vI ef, vI iv])] s.heap.size)) (F0 m 0 ls []) by rw [hHe, hLe] at hgo; exact hgo
  rw [← hHe] at hP
  have hS : va_S A s.heap H locs := by rw [hHe, hLe]; exact hS
  clear hHe hLe
  refine lv_aload_n hx hb dX7_edge_0 rfl (lv_at hl 0 rfl) ?_
  refine lv_iload_n hx hb dX7_edge_1 rfl (lv_at hl 1 rfl) ?_
  refine z_wVi (q0 := 0) (ci := 7) (b := o0) (rest := []) (wr := []) hC hK hP hD hS hA (c_X7_isMake_t l G H.size o0 a th mk bl hm rc lk lg kp fi lo wt gr eb ec ef iv x (by omega) (by omega)) mv_X7_isMake tw_914 [0] [] rfl rfl rfl rfl (by decide) rfl rfl rfl rfl hl.1 rfl (Nat.le_of_ble_eq_true rfl) ⟨rfl, rfl, Nat.le_of_ble_eq_true rfl, Nat.le_of_ble_eq_true rfl⟩ ⟨Nat.le_of_ble_eq_true rfl, Nat.le_of_ble_eq_true rfl⟩ dX7_edge_2 (fun r u H locs hw hP hD hS => ?_)
  have hP : va_P G.1 vwCl [(o0, ob 7 [vI 0, .ref (a 1), .ref (a 2), .ref (a 3), .ref (a 4), .ref (a 5), vI mk, .ref (a 7), .ref (a 8), vI bl, .ref (a 10), vI hm, vI rc, .ref (a 13), .ref (a 14), .ref (a 15), vI lk, vI lg, vI kp, vI fi, vI lo, vI wt, .ref (a 22), .ref (a 23), .ref (a 24), .ref (a 25), .ref (a 26), vI gr, .ref (a 28), .ref (a 29), vI eb, vI ec, vI ef, vI iv])] H := hP
  have hD : va_D A [(o0, ob 7 [vI 0, .ref (a 1), .ref (a 2), .ref (a 3), .ref (a 4), .ref (a 5), vI mk, .ref (a 7), .ref (a 8), vI bl, .ref (a 10), vI hm, vI rc, .ref (a 13), .ref (a 14), .ref (a 15), vI lk, vI lg, vI kp, vI fi, vI lo, vI wt, .ref (a 22), .ref (a 23), .ref (a 24), .ref (a 25), .ref (a 26), vI gr, .ref (a 28), .ref (a 29), vI eb, vI ec, vI ef, vI iv])] := hD
  obtain ⟨hrw_, hw_1⟩ := hw
  rw [hrw_]
  clear hrw_
  clear hw_1
  refine z_if_eq (tgt := 88) hx hb dX7_edge_5 (by decide) (by omega) (fun c_5 => ?_) (fun c_5 => ?_)
  · exact absurd c_5 (by decide)
  · refine lv_aload_n hx hb dX7_edge_8 rfl (lv_at hl 0 rfl) ?_
    refine lv_iload_n hx hb dX7_edge_9 rfl (lv_at hl 2 rfl) ?_
    refine z_if_lt (tgt := 52) hx hb dX7_edge_10 (by decide) (by omega) (fun c_10 => ?_) (fun c_10 => ?_)
    · refine lv_iconst (v := iI 1) hx hb dX7_edge_52 rfl ?_
      refine lv_goto (tgt := 57) hx hb dX7_edge_53 (by decide) ?_
      refine lv_iconst (v := iI 2) hx hb dX7_edge_57 rfl ?_
      refine z_wVi (q0 := 0) (ci := 7) (b := o0) (rest := []) (wr := []) hC hK hP hD hS hA (c_X7_bad_1 l G H.size o0 a 0 mk bl hm rc lk lg kp fi lo wt gr eb ec ef iv 2) mv_X7_bad tw_906 [0] [] rfl rfl rfl rfl (by decide) rfl rfl rfl rfl hl.1 rfl (Nat.le_of_ble_eq_true rfl) ⟨rfl, rfl, Nat.le_of_ble_eq_true rfl, Nat.le_of_ble_eq_true rfl⟩ ⟨Nat.le_of_ble_eq_true rfl, Nat.le_of_ble_eq_true rfl⟩ dX7_edge_58 (fun r u H locs hw hP hD hS => ?_)
      have hP : va_P G.1 vwCl [(o0, ob 7 [vI 2, .ref (a 1), .ref (a 2), .ref (a 3), .ref (a 4), .ref (a 5), vI mk, .ref (a 7), .ref (a 8), vI bl, .ref (a 10), vI hm, vI rc, .ref (a 13), .ref (a 14), .ref (a 15), vI lk, vI lg, vI kp, vI fi, vI lo, vI wt, .ref (a 22), .ref (a 23), .ref (a 24), .ref (a 25), .ref (a 26), vI gr, .ref (a 28), .ref (a 29), vI eb, vI ec, vI ef, vI iv])] H := hP
      have hD : va_D A [(o0, ob 7 [vI 2, .ref (a 1), .ref (a 2), .ref (a 3), .ref (a 4), .ref (a 5), vI mk, .ref (a 7), .ref (a 8), vI bl, .ref (a 10), vI hm, vI rc, .ref (a 13), .ref (a 14), .ref (a 15), vI lk, vI lg, vI kp, vI fi, vI lo, vI wt, .ref (a 22), .ref (a 23), .ref (a 24), .ref (a 25), .ref (a 26), vI gr, .ref (a 28), .ref (a 29), vI eb, vI ec, vI ef, vI iv])] := hD
      obtain ⟨hrw_, hw_2⟩ := hw
      rw [hrw_]
      clear hrw_
      clear hw_2
      refine z_if_ne (tgt := 88) hx hb dX7_edge_61 (by decide) (by omega) (fun c_61 => ?_) (fun c_61 => ?_)
      · refine lv_iconst (v := iI 0) hx hb dX7_edge_88 rfl ?_
        exact z_iretW hC hr hlk () hAe hP hD hS [0] (by decide) rfl rfl (⟨rfl, trivial⟩) dX7_edge_89
      · exact absurd c_61 (by decide)
    · refine lv_iload_n hx hb dX7_edge_13 rfl (lv_at hl 2 rfl) ?_
      refine lv_bipush (v := iI 15) hx hb dX7_edge_14 (by decide) ?_
      refine z_icmp_gt (tgt := 52) hx hb dX7_edge_16 (by decide) (by omega) (fun c_16 => ?_) (fun c_16 => ?_)
      · refine lv_iconst (v := iI 1) hx hb dX7_edge_52 rfl ?_
        refine lv_goto (tgt := 57) hx hb dX7_edge_53 (by decide) ?_
        refine lv_iconst (v := iI 2) hx hb dX7_edge_57 rfl ?_
        refine z_wVi (q0 := 0) (ci := 7) (b := o0) (rest := []) (wr := []) hC hK hP hD hS hA (c_X7_bad_1 l G H.size o0 a 0 mk bl hm rc lk lg kp fi lo wt gr eb ec ef iv 2) mv_X7_bad tw_906 [0] [] rfl rfl rfl rfl (by decide) rfl rfl rfl rfl hl.1 rfl (Nat.le_of_ble_eq_true rfl) ⟨rfl, rfl, Nat.le_of_ble_eq_true rfl, Nat.le_of_ble_eq_true rfl⟩ ⟨Nat.le_of_ble_eq_true rfl, Nat.le_of_ble_eq_true rfl⟩ dX7_edge_58 (fun r u H locs hw hP hD hS => ?_)
        have hP : va_P G.1 vwCl [(o0, ob 7 [vI 2, .ref (a 1), .ref (a 2), .ref (a 3), .ref (a 4), .ref (a 5), vI mk, .ref (a 7), .ref (a 8), vI bl, .ref (a 10), vI hm, vI rc, .ref (a 13), .ref (a 14), .ref (a 15), vI lk, vI lg, vI kp, vI fi, vI lo, vI wt, .ref (a 22), .ref (a 23), .ref (a 24), .ref (a 25), .ref (a 26), vI gr, .ref (a 28), .ref (a 29), vI eb, vI ec, vI ef, vI iv])] H := hP
        have hD : va_D A [(o0, ob 7 [vI 2, .ref (a 1), .ref (a 2), .ref (a 3), .ref (a 4), .ref (a 5), vI mk, .ref (a 7), .ref (a 8), vI bl, .ref (a 10), vI hm, vI rc, .ref (a 13), .ref (a 14), .ref (a 15), vI lk, vI lg, vI kp, vI fi, vI lo, vI wt, .ref (a 22), .ref (a 23), .ref (a 24), .ref (a 25), .ref (a 26), vI gr, .ref (a 28), .ref (a 29), vI eb, vI ec, vI ef, vI iv])] := hD
        obtain ⟨hrw_, hw_3⟩ := hw
        rw [hrw_]
        clear hrw_
        clear hw_3
        refine z_if_ne (tgt := 88) hx hb dX7_edge_61 (by decide) (by omega) (fun c_61 => ?_) (fun c_61 => ?_)
        · refine lv_iconst (v := iI 0) hx hb dX7_edge_88 rfl ?_
          exact z_iretW hC hr hlk () hAe hP hD hS [0] (by decide) rfl rfl (⟨rfl, trivial⟩) dX7_edge_89
        · exact absurd c_61 (by decide)
      · refine lv_iload hx hb dX7_edge_19 (lv_at hl 5 rfl) ?_
        refine z_if_lt (tgt := 52) hx hb dX7_edge_21 (by decide) (by omega) (fun c_21 => ?_) (fun c_21 => ?_)
        · refine lv_iconst (v := iI 1) hx hb dX7_edge_52 rfl ?_
          refine lv_goto (tgt := 57) hx hb dX7_edge_53 (by decide) ?_
          refine lv_iconst (v := iI 2) hx hb dX7_edge_57 rfl ?_
          refine z_wVi (q0 := 0) (ci := 7) (b := o0) (rest := []) (wr := []) hC hK hP hD hS hA (c_X7_bad_1 l G H.size o0 a 0 mk bl hm rc lk lg kp fi lo wt gr eb ec ef iv 2) mv_X7_bad tw_906 [0] [] rfl rfl rfl rfl (by decide) rfl rfl rfl rfl hl.1 rfl (Nat.le_of_ble_eq_true rfl) ⟨rfl, rfl, Nat.le_of_ble_eq_true rfl, Nat.le_of_ble_eq_true rfl⟩ ⟨Nat.le_of_ble_eq_true rfl, Nat.le_of_ble_eq_true rfl⟩ dX7_edge_58 (fun r u H locs hw hP hD hS => ?_)
          have hP : va_P G.1 vwCl [(o0, ob 7 [vI 2, .ref (a 1), .ref (a 2), .ref (a 3), .ref (a 4), .ref (a 5), vI mk, .ref (a 7), .ref (a 8), vI bl, .ref (a 10), vI hm, vI rc, .ref (a 13), .ref (a 14), .ref (a 15), vI lk, vI lg, vI kp, vI fi, vI lo, vI wt, .ref (a 22), .ref (a 23), .ref (a 24), .ref (a 25), .ref (a 26), vI gr, .ref (a 28), .ref (a 29), vI eb, vI ec, vI ef, vI iv])] H := hP
          have hD : va_D A [(o0, ob 7 [vI 2, .ref (a 1), .ref (a 2), .ref (a 3), .ref (a 4), .ref (a 5), vI mk, .ref (a 7), .ref (a 8), vI bl, .ref (a 10), vI hm, vI rc, .ref (a 13), .ref (a 14), .ref (a 15), vI lk, vI lg, vI kp, vI fi, vI lo, vI wt, .ref (a 22), .ref (a 23), .ref (a 24), .ref (a 25), .ref (a 26), vI gr, .ref (a 28), .ref (a 29), vI eb, vI ec, vI ef, vI iv])] := hD
          obtain ⟨hrw_, hw_4⟩ := hw
          rw [hrw_]
          clear hrw_
          clear hw_4
          refine z_if_ne (tgt := 88) hx hb dX7_edge_61 (by decide) (by omega) (fun c_61 => ?_) (fun c_61 => ?_)
          · refine lv_iconst (v := iI 0) hx hb dX7_edge_88 rfl ?_
            exact z_iretW hC hr hlk () hAe hP hD hS [0] (by decide) rfl rfl (⟨rfl, trivial⟩) dX7_edge_89
          · exact absurd c_61 (by decide)
        · refine lv_iload hx hb dX7_edge_24 (lv_at hl 5 rfl) ?_
          refine lv_bipush (v := iI 15) hx hb dX7_edge_26 (by decide) ?_
          refine z_icmp_gt (tgt := 52) hx hb dX7_edge_28 (by decide) (by omega) (fun c_28 => ?_) (fun c_28 => ?_)
          · refine lv_iconst (v := iI 1) hx hb dX7_edge_52 rfl ?_
            refine lv_goto (tgt := 57) hx hb dX7_edge_53 (by decide) ?_
            refine lv_iconst (v := iI 2) hx hb dX7_edge_57 rfl ?_
            refine z_wVi (q0 := 0) (ci := 7) (b := o0) (rest := []) (wr := []) hC hK hP hD hS hA (c_X7_bad_1 l G H.size o0 a 0 mk bl hm rc lk lg kp fi lo wt gr eb ec ef iv 2) mv_X7_bad tw_906 [0] [] rfl rfl rfl rfl (by decide) rfl rfl rfl rfl hl.1 rfl (Nat.le_of_ble_eq_true rfl) ⟨rfl, rfl, Nat.le_of_ble_eq_true rfl, Nat.le_of_ble_eq_true rfl⟩ ⟨Nat.le_of_ble_eq_true rfl, Nat.le_of_ble_eq_true rfl⟩ dX7_edge_58 (fun r u H locs hw hP hD hS => ?_)
            have hP : va_P G.1 vwCl [(o0, ob 7 [vI 2, .ref (a 1), .ref (a 2), .ref (a 3), .ref (a 4), .ref (a 5), vI mk, .ref (a 7), .ref (a 8), vI bl, .ref (a 10), vI hm, vI rc, .ref (a 13), .ref (a 14), .ref (a 15), vI lk, vI lg, vI kp, vI fi, vI lo, vI wt, .ref (a 22), .ref (a 23), .ref (a 24), .ref (a 25), .ref (a 26), vI gr, .ref (a 28), .ref (a 29), vI eb, vI ec, vI ef, vI iv])] H := hP
            have hD : va_D A [(o0, ob 7 [vI 2, .ref (a 1), .ref (a 2), .ref (a 3), .ref (a 4), .ref (a 5), vI mk, .ref (a 7), .ref (a 8), vI bl, .ref (a 10), vI hm, vI rc, .ref (a 13), .ref (a 14), .ref (a 15), vI lk, vI lg, vI kp, vI fi, vI lo, vI wt, .ref (a 22), .ref (a 23), .ref (a 24), .ref (a 25), .ref (a 26), vI gr, .ref (a 28), .ref (a 29), vI eb, vI ec, vI ef, vI iv])] := hD
            obtain ⟨hrw_, hw_5⟩ := hw
            rw [hrw_]
            clear hrw_
            clear hw_5
            refine z_if_ne (tgt := 88) hx hb dX7_edge_61 (by decide) (by omega) (fun c_61 => ?_) (fun c_61 => ?_)
            · refine lv_iconst (v := iI 0) hx hb dX7_edge_88 rfl ?_
              exact z_iretW hC hr hlk () hAe hP hD hS [0] (by decide) rfl rfl (⟨rfl, trivial⟩) dX7_edge_89
            · exact absurd c_61 (by decide)
          · refine lv_iload_n hx hb dX7_edge_31 rfl (lv_at hl 3 rfl) ?_
            refine z_rSi (rest := [.ref o0]) hC hK hP (c_X7_isByte l G z (by omega)) ms_X7_isByte tw_903 [] rfl rfl hl.1 rfl (Nat.le_of_ble_eq_true rfl) ⟨rfl, rfl, Nat.le_of_ble_eq_true rfl, Nat.le_of_ble_eq_true rfl⟩ ⟨Nat.le_of_ble_eq_true rfl, Nat.le_of_ble_eq_true rfl⟩ dX7_edge_32 ?_
            refine z_if_eq (tgt := 52) hx hb dX7_edge_35 (by decide) (by split <;> omega) (fun c_35 => ?_) (fun c_35 => ?_)
            · have hy35 : ¬ (0 ≤ z ∧ z < 256) := fun h => by rw [if_pos h] at c_35; omega
              refine lv_iconst (v := iI 1) hx hb dX7_edge_52 rfl ?_
              refine lv_goto (tgt := 57) hx hb dX7_edge_53 (by decide) ?_
              refine lv_iconst (v := iI 2) hx hb dX7_edge_57 rfl ?_
              refine z_wVi (q0 := 0) (ci := 7) (b := o0) (rest := []) (wr := []) hC hK hP hD hS hA (c_X7_bad_1 l G H.size o0 a 0 mk bl hm rc lk lg kp fi lo wt gr eb ec ef iv 2) mv_X7_bad tw_906 [0] [] rfl rfl rfl rfl (by decide) rfl rfl rfl rfl hl.1 rfl (Nat.le_of_ble_eq_true rfl) ⟨rfl, rfl, Nat.le_of_ble_eq_true rfl, Nat.le_of_ble_eq_true rfl⟩ ⟨Nat.le_of_ble_eq_true rfl, Nat.le_of_ble_eq_true rfl⟩ dX7_edge_58 (fun r u H locs hw hP hD hS => ?_)
              have hP : va_P G.1 vwCl [(o0, ob 7 [vI 2, .ref (a 1), .ref (a 2), .ref (a 3), .ref (a 4), .ref (a 5), vI mk, .ref (a 7), .ref (a 8), vI bl, .ref (a 10), vI hm, vI rc, .ref (a 13), .ref (a 14), .ref (a 15), vI lk, vI lg, vI kp, vI fi, vI lo, vI wt, .ref (a 22), .ref (a 23), .ref (a 24), .ref (a 25), .ref (a 26), vI gr, .ref (a 28), .ref (a 29), vI eb, vI ec, vI ef, vI iv])] H := hP
              have hD : va_D A [(o0, ob 7 [vI 2, .ref (a 1), .ref (a 2), .ref (a 3), .ref (a 4), .ref (a 5), vI mk, .ref (a 7), .ref (a 8), vI bl, .ref (a 10), vI hm, vI rc, .ref (a 13), .ref (a 14), .ref (a 15), vI lk, vI lg, vI kp, vI fi, vI lo, vI wt, .ref (a 22), .ref (a 23), .ref (a 24), .ref (a 25), .ref (a 26), vI gr, .ref (a 28), .ref (a 29), vI eb, vI ec, vI ef, vI iv])] := hD
              obtain ⟨hrw_, hw_6⟩ := hw
              rw [hrw_]
              clear hrw_
              clear hw_6
              refine z_if_ne (tgt := 88) hx hb dX7_edge_61 (by decide) (by omega) (fun c_61 => ?_) (fun c_61 => ?_)
              · refine lv_iconst (v := iI 0) hx hb dX7_edge_88 rfl ?_
                exact z_iretW hC hr hlk () hAe hP hD hS [0] (by decide) rfl rfl (⟨rfl, trivial⟩) dX7_edge_89
              · exact absurd c_61 (by decide)
            · have hy35 : (0 ≤ z ∧ z < 256) := Classical.byContradiction fun h => by rw [if_neg h] at c_35; omega
              refine lv_iload hx hb dX7_edge_38 (lv_at hl 4 rfl) ?_
              refine z_rSi (rest := [.ref o0]) hC hK hP (c_X7_isByte l G w (by omega)) ms_X7_isByte tw_903 [] rfl rfl hl.1 rfl (Nat.le_of_ble_eq_true rfl) ⟨rfl, rfl, Nat.le_of_ble_eq_true rfl, Nat.le_of_ble_eq_true rfl⟩ ⟨Nat.le_of_ble_eq_true rfl, Nat.le_of_ble_eq_true rfl⟩ dX7_edge_40 ?_
              refine z_if_eq (tgt := 52) hx hb dX7_edge_43 (by decide) (by split <;> omega) (fun c_43 => ?_) (fun c_43 => ?_)
              · have hy43 : ¬ (0 ≤ w ∧ w < 256) := fun h => by rw [if_pos h] at c_43; omega
                refine lv_iconst (v := iI 1) hx hb dX7_edge_52 rfl ?_
                refine lv_goto (tgt := 57) hx hb dX7_edge_53 (by decide) ?_
                refine lv_iconst (v := iI 2) hx hb dX7_edge_57 rfl ?_
                refine z_wVi (q0 := 0) (ci := 7) (b := o0) (rest := []) (wr := []) hC hK hP hD hS hA (c_X7_bad_1 l G H.size o0 a 0 mk bl hm rc lk lg kp fi lo wt gr eb ec ef iv 2) mv_X7_bad tw_906 [0] [] rfl rfl rfl rfl (by decide) rfl rfl rfl rfl hl.1 rfl (Nat.le_of_ble_eq_true rfl) ⟨rfl, rfl, Nat.le_of_ble_eq_true rfl, Nat.le_of_ble_eq_true rfl⟩ ⟨Nat.le_of_ble_eq_true rfl, Nat.le_of_ble_eq_true rfl⟩ dX7_edge_58 (fun r u H locs hw hP hD hS => ?_)
                have hP : va_P G.1 vwCl [(o0, ob 7 [vI 2, .ref (a 1), .ref (a 2), .ref (a 3), .ref (a 4), .ref (a 5), vI mk, .ref (a 7), .ref (a 8), vI bl, .ref (a 10), vI hm, vI rc, .ref (a 13), .ref (a 14), .ref (a 15), vI lk, vI lg, vI kp, vI fi, vI lo, vI wt, .ref (a 22), .ref (a 23), .ref (a 24), .ref (a 25), .ref (a 26), vI gr, .ref (a 28), .ref (a 29), vI eb, vI ec, vI ef, vI iv])] H := hP
                have hD : va_D A [(o0, ob 7 [vI 2, .ref (a 1), .ref (a 2), .ref (a 3), .ref (a 4), .ref (a 5), vI mk, .ref (a 7), .ref (a 8), vI bl, .ref (a 10), vI hm, vI rc, .ref (a 13), .ref (a 14), .ref (a 15), vI lk, vI lg, vI kp, vI fi, vI lo, vI wt, .ref (a 22), .ref (a 23), .ref (a 24), .ref (a 25), .ref (a 26), vI gr, .ref (a 28), .ref (a 29), vI eb, vI ec, vI ef, vI iv])] := hD
                obtain ⟨hrw_, hw_7⟩ := hw
                rw [hrw_]
                clear hrw_
                clear hw_7
                refine z_if_ne (tgt := 88) hx hb dX7_edge_61 (by decide) (by omega) (fun c_61 => ?_) (fun c_61 => ?_)
                · refine lv_iconst (v := iI 0) hx hb dX7_edge_88 rfl ?_
                  exact z_iretW hC hr hlk () hAe hP hD hS [0] (by decide) rfl rfl (⟨rfl, trivial⟩) dX7_edge_89
                · exact absurd c_61 (by decide)
              · have hy43 : (0 ≤ w ∧ w < 256) := Classical.byContradiction fun h => by rw [if_neg h] at c_43; omega
                refine lv_iload_n hx hb dX7_edge_46 rfl (lv_at hl 3 rfl) ?_
                refine lv_iload hx hb dX7_edge_47 (lv_at hl 4 rfl) ?_
                refine z_icmp_le (tgt := 56) hx hb dX7_edge_49 (by decide) (by omega) (fun c_49 => ?_) (fun c_49 => ?_)
                · exfalso; omega
                · refine lv_iconst (v := iI 1) hx hb dX7_edge_52 rfl ?_
                  refine lv_goto (tgt := 57) hx hb dX7_edge_53 (by decide) ?_
                  refine lv_iconst (v := iI 2) hx hb dX7_edge_57 rfl ?_
                  refine z_wVi (q0 := 0) (ci := 7) (b := o0) (rest := []) (wr := []) hC hK hP hD hS hA (c_X7_bad_1 l G H.size o0 a 0 mk bl hm rc lk lg kp fi lo wt gr eb ec ef iv 2) mv_X7_bad tw_906 [0] [] rfl rfl rfl rfl (by decide) rfl rfl rfl rfl hl.1 rfl (Nat.le_of_ble_eq_true rfl) ⟨rfl, rfl, Nat.le_of_ble_eq_true rfl, Nat.le_of_ble_eq_true rfl⟩ ⟨Nat.le_of_ble_eq_true rfl, Nat.le_of_ble_eq_true rfl⟩ dX7_edge_58 (fun r u H locs hw hP hD hS => ?_)
                  have hP : va_P G.1 vwCl [(o0, ob 7 [vI 2, .ref (a 1), .ref (a 2), .ref (a 3), .ref (a 4), .ref (a 5), vI mk, .ref (a 7), .ref (a 8), vI bl, .ref (a 10), vI hm, vI rc, .ref (a 13), .ref (a 14), .ref (a 15), vI lk, vI lg, vI kp, vI fi, vI lo, vI wt, .ref (a 22), .ref (a 23), .ref (a 24), .ref (a 25), .ref (a 26), vI gr, .ref (a 28), .ref (a 29), vI eb, vI ec, vI ef, vI iv])] H := hP
                  have hD : va_D A [(o0, ob 7 [vI 2, .ref (a 1), .ref (a 2), .ref (a 3), .ref (a 4), .ref (a 5), vI mk, .ref (a 7), .ref (a 8), vI bl, .ref (a 10), vI hm, vI rc, .ref (a 13), .ref (a 14), .ref (a 15), vI lk, vI lg, vI kp, vI fi, vI lo, vI wt, .ref (a 22), .ref (a 23), .ref (a 24), .ref (a 25), .ref (a 26), vI gr, .ref (a 28), .ref (a 29), vI eb, vI ec, vI ef, vI iv])] := hD
                  obtain ⟨hrw_, hw_8⟩ := hw
                  rw [hrw_]
                  clear hrw_
                  clear hw_8
                  refine z_if_ne (tgt := 88) hx hb dX7_edge_61 (by decide) (by omega) (fun c_61 => ?_) (fun c_61 => ?_)
                  · refine lv_iconst (v := iI 0) hx hb dX7_edge_88 rfl ?_
                    exact z_iretW hC hr hlk () hAe hP hD hS [0] (by decide) rfl rfl (⟨rfl, trivial⟩) dX7_edge_89
                  · exact absurd c_61 (by decide)

set_option maxRecDepth 100000 in
set_option maxHeartbeats 4000000 in
theorem c_X7_edge_3 (l : Launch) (G : zGt) (sz : Nat) (o0 : Nat) (a : Nat → Nat) (th mk bl hm rc lk lg kp fi lo wt gr eb ec ef iv : Int) (ED : Int → Int) (x y z w t0 : Int) (hmk : 0 ≤ mk ∧ mk ≤ 6) (hx : 0 ≤ x ∧ x < mk) (hok : ((0 ≤ y ∧ y < 16) ∧ (0 ≤ t0 ∧ t0 < 16) ∧ (0 ≤ z ∧ z < 256) ∧ (0 ≤ w ∧ w < 256) ∧ z ≤ w)) (hed : ED x = 40) : Met l yX7_edge (Cond.code yX7_edge cX7_edge 7 (some .int) :: tb) ({ frames := 1, cells := 0, slots := 0, locals := 22 } : Room) (zPw G [(o0, ob 7 [vI th, .ref (a 1), .ref (a 2), .ref (a 3), .ref (a 4), .ref (a 5), vI mk, .ref (a 7), .ref (a 8), vI bl, .ref (a 10), vI hm, vI rc, .ref (a 13), .ref (a 14), .ref (a 15), vI lk, vI lg, vI kp, vI fi, vI lo, vI wt, .ref (a 22), .ref (a 23), .ref (a 24), .ref (a 25), .ref (a 26), vI gr, .ref (a 28), .ref (a 29), vI eb, vI ec, vI ef, vI iv]), ((a 5), aI G 6 ED)] sz [.ref o0, vI x, vI y, vI z, vI w, vI t0]) (va_Qi (fun (r : Int32) (u : Unit) => r = iI 0 ∧ True) (fun (u : Unit) t => zB G [(o0, ob 7 [vI th, .ref (a 1), .ref (a 2), .ref (a 3), .ref (a 4), .ref (a 5), vI mk, .ref (a 7), .ref (a 8), vI bl, .ref (a 10), vI hm, vI rc, .ref (a 13), .ref (a 14), .ref (a 15), vI lk, vI lg, vI kp, vI fi, vI lo, vI wt, .ref (a 22), .ref (a 23), .ref (a 24), .ref (a 25), .ref (a 26), vI gr, .ref (a 28), .ref (a 29), vI eb, vI ec, vI ef, vI iv]), ((a 5), aI G 6 ED)] sz [(o0, ob 7 [vI 3, .ref (a 1), .ref (a 2), .ref (a 3), .ref (a 4), .ref (a 5), vI mk, .ref (a 7), .ref (a 8), vI bl, .ref (a 10), vI hm, vI rc, .ref (a 13), .ref (a 14), .ref (a 15), vI lk, vI lg, vI kp, vI fi, vI lo, vI wt, .ref (a 22), .ref (a 23), .ref (a 24), .ref (a 25), .ref (a 26), vI gr, .ref (a 28), .ref (a 29), vI eb, vI ec, vI ef, vI iv]), ((a 5), aI G 6 ED)] t) (va_A [(o0, ob 7 [vI th, .ref (a 1), .ref (a 2), .ref (a 3), .ref (a 4), .ref (a 5), vI mk, .ref (a 7), .ref (a 8), vI bl, .ref (a 10), vI hm, vI rc, .ref (a 13), .ref (a 14), .ref (a 15), vI lk, vI lg, vI kp, vI fi, vI lo, vI wt, .ref (a 22), .ref (a 23), .ref (a 24), .ref (a 25), .ref (a 26), vI gr, .ref (a 28), .ref (a 29), vI eb, vI ec, vI ef, vI iv]), ((a 5), aI G 6 ED)] sz)) 0 0 (va_A [(o0, ob 7 [vI th, .ref (a 1), .ref (a 2), .ref (a 3), .ref (a 4), .ref (a 5), vI mk, .ref (a 7), .ref (a 8), vI bl, .ref (a 10), vI hm, vI rc, .ref (a 13), .ref (a 14), .ref (a 15), vI lk, vI lg, vI kp, vI fi, vI lo, vI wt, .ref (a 22), .ref (a 23), .ref (a 24), .ref (a 25), .ref (a 26), vI gr, .ref (a 28), .ref (a 29), vI eb, vI ec, vI ef, vI iv]), ((a 5), aI G 6 ED)] sz) := by
  refine Met.ofW (cc := cX7_edge) (maxL := 7) (ret := (some .int)) (by decide) rfl ?_
  intro p e s m args below meth c s₁ B hml hv
  obtain ⟨rfl, hsz, hP, hK, hD0⟩ := hv
  subst hsz
  have hD := hD0.self (sz := s.heap.size)
  obtain ⟨A, hAe⟩ : ∃ A : Nat → Prop, A = va_A [(o0, ob 7 [vI th, .ref (a 1), .ref (a 2), .ref (a 3), .ref (a 4), .ref (a 5), vI mk, .ref (a 7), .ref (a 8), vI bl, .ref (a 10), vI hm, vI rc, .ref (a 13), .ref (a 14), .ref (a 15), vI lk, vI lg, vI kp, vI fi, vI lo, vI wt, .ref (a 22), .ref (a 23), .ref (a 24), .ref (a 25), .ref (a 26), vI gr, .ref (a 28), .ref (a 29), vI eb, vI ec, vI ef, vI iv]), ((a 5), aI G 6 ED)] s.heap.size := ⟨_, rfl⟩
  rw [← hAe] at hD
  have hA : ∀ q : Nat, s.heap.size ≤ q → A q := fun q h => by rw [hAe]; exact Or.inr h
  have hS : va_S A s.heap s.heap [] := va_S.rf
  obtain ⟨hC, hr, hlk⟩ := z_begin B hml
  have hC : CallFix p m c cX7_edge 7 s _ tb RX7 := hC
  have hx := hC.1
  have hb := hC.2.1
  have hl := lv_entry ([.ref o0, vI x, vI y, vI z, vI w, vI t0]) (n := 7) (Nat.le_of_ble_eq_true rfl)
  rw [lg_entry_eq]
  generalize (lg_sl ([.ref o0, vI x, vI y, vI z, vI w, vI t0]) ++ List.replicate (7 - (lg_sl ([.ref o0, vI x, vI y, vI z, vI w, vI t0])).length) Slot.unset).toArray = ls at hl ⊢
  have hl : lv_has ls 7 [(0, .ref o0), (1, vI x), (2, vI y), (3, vI z), (4, vI w), (5, vI t0)] := hl
  obtain ⟨H, hHe⟩ : ∃ H : Heap, H = s.heap := ⟨_, rfl⟩
  obtain ⟨locs, hLe⟩ : ∃ L : List Loc, L = [] := ⟨_, rfl⟩
  suffices hgo : W p l e (headSpec (Cond.code yX7_edge cX7_edge 7 (some .int) :: tb) ({ frames := 1, cells := 0, slots := 0, locals := 22 } : Room)).room s m ([.ref o0, vI x, vI y, vI z, vI w, vI t0] : List Value).toArray below meth c H locs 0 0 (MQ below (va_Qi (fun (r : Int32) (u : Unit) => r = iI 0 ∧ True) (fun (u : Unit) t => zB G [(o0, ob 7 [vI th, .ref (a 1), .ref (a 2), .ref (a 3), .ref (a 4), .ref (a 5), vI mk, .ref (a 7), .ref (a 8), vI bl, .ref (a 10), vI hm, vI rc, .ref (a 13), .ref (a 14), .ref (a 15), vI lk, vI lg, vI kp, vI fi, vI lo, vI wt, .ref (a 22), .ref (a 23), .ref (a 24), .ref (a 25), .ref (a 26), vI gr, .ref (a 28), .ref (a 29), vI eb, vI ec, vI ef, vI iv]), ((a 5), aI G 6 ED)] s.heap.size [(o0, ob 7 [vI 3, .ref (a 1), .ref (a 2), .ref (a 3), .ref (a 4), .ref (a 5), vI mk, .ref (a 7), .ref (a 8), vI bl, .ref (a 10), vI hm, vI rc, .ref (a 13), .ref (a 14), .ref (a 15), vI lk, vI lg, vI kp, vI fi, vI lo, vI wt, .ref (a 22), .ref (a 23), .ref (a 24), .ref (a 25), .ref (a 26), vI gr, .ref (a 28), .ref (a 29), vI eb, vI ec, vI ef, vI iv]), ((a 5), aI G 6 ED)] t) (va_A [(o0, ob 7 [vI th, .ref (a 1), .ref (a 2), .ref (a 3), .ref (a 4), .ref (a 5), vI mk, .ref (a 7), .ref (a 8), vI bl, .ref (a 10), vI hm, vI rc, .ref (a 13), .ref (a 14), .ref (a 15), vI lk, vI lg, vI kp, vI fi, vI lo, vI wt, .ref (a 22), .ref (a 23), .ref (a 24), .ref (a 25), .ref (a 26), vI gr, .ref (a 28), .ref (a 29), vI eb, vI ec, vI ef, vI iv]), ((a 5), aI G 6 ED)] s.heap.size)) ([.ref o0, vI x, vI y, vI z, vI w, vI t0] : List Value).toArray s 0 0 (va_A [(o0, ob 7 [vI th, .ref (a 1), .ref (a 2), .ref (a 3), .ref (a 4), .ref (a 5), vI mk, .ref (a 7), .ref (a 8), vI bl, .ref (a 10), vI hm, vI rc, .ref (a 13), .ref (a 14), .ref (a 15), vI lk, vI lg, vI kp, vI fi, vI lo, vI wt, .ref (a 22), .ref (a 23), .ref (a 24), .ref (a 25), .ref (a 26), vI gr, .ref (a 28), .ref (a 29), vI eb, vI ec, vI ef, vI iv]), ((a 5), aI G 6 ED)] s.heap.size)) (F0 m 0 ls []) by rw [hHe, hLe] at hgo; exact hgo
  rw [← hHe] at hP
  have hS : va_S A s.heap H locs := by rw [hHe, hLe]; exact hS
  clear hHe hLe
  refine lv_aload_n hx hb dX7_edge_0 rfl (lv_at hl 0 rfl) ?_
  refine lv_iload_n hx hb dX7_edge_1 rfl (lv_at hl 1 rfl) ?_
  refine z_wVi (q0 := 0) (ci := 7) (b := o0) (rest := []) (wr := [((a 5), aI G 6 ED)]) hC hK hP hD hS hA (c_X7_isMake_t l G H.size o0 a th mk bl hm rc lk lg kp fi lo wt gr eb ec ef iv x (by omega) (by omega)) mv_X7_isMake tw_914 [0] [1] rfl rfl rfl rfl (by decide) rfl rfl rfl rfl hl.1 rfl (Nat.le_of_ble_eq_true rfl) ⟨rfl, rfl, Nat.le_of_ble_eq_true rfl, Nat.le_of_ble_eq_true rfl⟩ ⟨Nat.le_of_ble_eq_true rfl, Nat.le_of_ble_eq_true rfl⟩ dX7_edge_2 (fun r u H locs hw hP hD hS => ?_)
  have hP : va_P G.1 vwCl [((a 5), aI G 6 ED), (o0, ob 7 [vI 0, .ref (a 1), .ref (a 2), .ref (a 3), .ref (a 4), .ref (a 5), vI mk, .ref (a 7), .ref (a 8), vI bl, .ref (a 10), vI hm, vI rc, .ref (a 13), .ref (a 14), .ref (a 15), vI lk, vI lg, vI kp, vI fi, vI lo, vI wt, .ref (a 22), .ref (a 23), .ref (a 24), .ref (a 25), .ref (a 26), vI gr, .ref (a 28), .ref (a 29), vI eb, vI ec, vI ef, vI iv])] H := hP
  have hD : va_D A [((a 5), aI G 6 ED), (o0, ob 7 [vI 0, .ref (a 1), .ref (a 2), .ref (a 3), .ref (a 4), .ref (a 5), vI mk, .ref (a 7), .ref (a 8), vI bl, .ref (a 10), vI hm, vI rc, .ref (a 13), .ref (a 14), .ref (a 15), vI lk, vI lg, vI kp, vI fi, vI lo, vI wt, .ref (a 22), .ref (a 23), .ref (a 24), .ref (a 25), .ref (a 26), vI gr, .ref (a 28), .ref (a 29), vI eb, vI ec, vI ef, vI iv])] := hD
  obtain ⟨hrw_, hw_1⟩ := hw
  rw [hrw_]
  clear hrw_
  clear hw_1
  refine z_if_eq (tgt := 88) hx hb dX7_edge_5 (by decide) (by omega) (fun c_5 => ?_) (fun c_5 => ?_)
  · exact absurd c_5 (by decide)
  · refine lv_aload_n hx hb dX7_edge_8 rfl (lv_at hl 0 rfl) ?_
    refine lv_iload_n hx hb dX7_edge_9 rfl (lv_at hl 2 rfl) ?_
    refine z_if_lt (tgt := 52) hx hb dX7_edge_10 (by decide) (by omega) (fun c_10 => ?_) (fun c_10 => ?_)
    · exfalso; omega
    · refine lv_iload_n hx hb dX7_edge_13 rfl (lv_at hl 2 rfl) ?_
      refine lv_bipush (v := iI 15) hx hb dX7_edge_14 (by decide) ?_
      refine z_icmp_gt (tgt := 52) hx hb dX7_edge_16 (by decide) (by omega) (fun c_16 => ?_) (fun c_16 => ?_)
      · exfalso; omega
      · refine lv_iload hx hb dX7_edge_19 (lv_at hl 5 rfl) ?_
        refine z_if_lt (tgt := 52) hx hb dX7_edge_21 (by decide) (by omega) (fun c_21 => ?_) (fun c_21 => ?_)
        · exfalso; omega
        · refine lv_iload hx hb dX7_edge_24 (lv_at hl 5 rfl) ?_
          refine lv_bipush (v := iI 15) hx hb dX7_edge_26 (by decide) ?_
          refine z_icmp_gt (tgt := 52) hx hb dX7_edge_28 (by decide) (by omega) (fun c_28 => ?_) (fun c_28 => ?_)
          · exfalso; omega
          · refine lv_iload_n hx hb dX7_edge_31 rfl (lv_at hl 3 rfl) ?_
            refine z_rSi (rest := [.ref o0]) hC hK hP (c_X7_isByte_t l G z (by omega)) ms_X7_isByte tw_903 [] rfl rfl hl.1 rfl (Nat.le_of_ble_eq_true rfl) ⟨rfl, rfl, Nat.le_of_ble_eq_true rfl, Nat.le_of_ble_eq_true rfl⟩ ⟨Nat.le_of_ble_eq_true rfl, Nat.le_of_ble_eq_true rfl⟩ dX7_edge_32 ?_
            refine z_if_eq (tgt := 52) hx hb dX7_edge_35 (by decide) (by omega) (fun c_35 => ?_) (fun c_35 => ?_)
            · exact absurd c_35 (by decide)
            · refine lv_iload hx hb dX7_edge_38 (lv_at hl 4 rfl) ?_
              refine z_rSi (rest := [.ref o0]) hC hK hP (c_X7_isByte_t l G w (by omega)) ms_X7_isByte tw_903 [] rfl rfl hl.1 rfl (Nat.le_of_ble_eq_true rfl) ⟨rfl, rfl, Nat.le_of_ble_eq_true rfl, Nat.le_of_ble_eq_true rfl⟩ ⟨Nat.le_of_ble_eq_true rfl, Nat.le_of_ble_eq_true rfl⟩ dX7_edge_40 ?_
              refine z_if_eq (tgt := 52) hx hb dX7_edge_43 (by decide) (by omega) (fun c_43 => ?_) (fun c_43 => ?_)
              · exact absurd c_43 (by decide)
              · refine lv_iload_n hx hb dX7_edge_46 rfl (lv_at hl 3 rfl) ?_
                refine lv_iload hx hb dX7_edge_47 (lv_at hl 4 rfl) ?_
                refine z_icmp_le (tgt := 56) hx hb dX7_edge_49 (by decide) (by omega) (fun c_49 => ?_) (fun c_49 => ?_)
                · refine lv_iconst (v := iI 0) hx hb dX7_edge_56 rfl ?_
                  refine lv_iconst (v := iI 2) hx hb dX7_edge_57 rfl ?_
                  refine z_wVi (q0 := 1) (ci := 7) (b := o0) (rest := []) (wr := [((a 5), aI G 6 ED)]) hC hK hP hD hS hA (c_X7_bad_0 l G H.size o0 a 0 mk bl hm rc lk lg kp fi lo wt gr eb ec ef iv 2) mv_X7_bad tw_906 [1] [0] rfl rfl rfl rfl (by decide) rfl rfl rfl rfl hl.1 rfl (Nat.le_of_ble_eq_true rfl) ⟨rfl, rfl, Nat.le_of_ble_eq_true rfl, Nat.le_of_ble_eq_true rfl⟩ ⟨Nat.le_of_ble_eq_true rfl, Nat.le_of_ble_eq_true rfl⟩ dX7_edge_58 (fun r u H locs hw hP hD hS => ?_)
                  have hP : va_P G.1 vwCl [((a 5), aI G 6 ED), (o0, ob 7 [vI 0, .ref (a 1), .ref (a 2), .ref (a 3), .ref (a 4), .ref (a 5), vI mk, .ref (a 7), .ref (a 8), vI bl, .ref (a 10), vI hm, vI rc, .ref (a 13), .ref (a 14), .ref (a 15), vI lk, vI lg, vI kp, vI fi, vI lo, vI wt, .ref (a 22), .ref (a 23), .ref (a 24), .ref (a 25), .ref (a 26), vI gr, .ref (a 28), .ref (a 29), vI eb, vI ec, vI ef, vI iv])] H := hP
                  have hD : va_D A [((a 5), aI G 6 ED), (o0, ob 7 [vI 0, .ref (a 1), .ref (a 2), .ref (a 3), .ref (a 4), .ref (a 5), vI mk, .ref (a 7), .ref (a 8), vI bl, .ref (a 10), vI hm, vI rc, .ref (a 13), .ref (a 14), .ref (a 15), vI lk, vI lg, vI kp, vI fi, vI lo, vI wt, .ref (a 22), .ref (a 23), .ref (a 24), .ref (a 25), .ref (a 26), vI gr, .ref (a 28), .ref (a 29), vI eb, vI ec, vI ef, vI iv])] := hD
                  obtain ⟨hrw_, hw_2⟩ := hw
                  rw [hrw_]
                  clear hrw_
                  clear hw_2
                  refine z_if_ne (tgt := 88) hx hb dX7_edge_61 (by decide) (by omega) (fun c_61 => ?_) (fun c_61 => ?_)
                  · exact absurd c_61 (by decide)
                  · refine lv_aload_n hx hb dX7_edge_64 rfl (lv_at hl 0 rfl) ?_
                    refine lv_aload_n hx hb dX7_edge_65 rfl (lv_at hl 0 rfl) ?_
                    refine z_get (v := .ref (a 5)) hC hK hP inX7 rfl 1 rfl 5 (by decide) tw_797 rfl dX7_edge_66 ?_
                    refine lv_iload_n hx hb dX7_edge_69 rfl (lv_at hl 1 rfl) ?_
                    refine z_iald hC hK hP 0 rfl (by omega) (by decide) dX7_edge_70 ?_
                    refine lv_bipush (v := iI 40) hx hb dX7_edge_71 (by decide) ?_
                    refine z_icmp_ne (tgt := 80) hx hb dX7_edge_73 (by decide) (by omega) (fun c_73 => ?_) (fun c_73 => ?_)
                    · exfalso; omega
                    · refine lv_iconst (v := iI 1) hx hb dX7_edge_76 rfl ?_
                      refine lv_goto (tgt := 81) hx hb dX7_edge_77 (by decide) ?_
                      refine lv_iconst (v := iI 3) hx hb dX7_edge_81 rfl ?_
                      refine z_wVi (q0 := 1) (ci := 7) (b := o0) (rest := []) (wr := [((a 5), aI G 6 ED)]) hC hK hP hD hS hA (c_X7_bad_1 l G H.size o0 a 0 mk bl hm rc lk lg kp fi lo wt gr eb ec ef iv 3) mv_X7_bad tw_906 [1] [0] rfl rfl rfl rfl (by decide) rfl rfl rfl rfl hl.1 rfl (Nat.le_of_ble_eq_true rfl) ⟨rfl, rfl, Nat.le_of_ble_eq_true rfl, Nat.le_of_ble_eq_true rfl⟩ ⟨Nat.le_of_ble_eq_true rfl, Nat.le_of_ble_eq_true rfl⟩ dX7_edge_82 (fun r u H locs hw hP hD hS => ?_)
                      have hP : va_P G.1 vwCl [((a 5), aI G 6 ED), (o0, ob 7 [vI 3, .ref (a 1), .ref (a 2), .ref (a 3), .ref (a 4), .ref (a 5), vI mk, .ref (a 7), .ref (a 8), vI bl, .ref (a 10), vI hm, vI rc, .ref (a 13), .ref (a 14), .ref (a 15), vI lk, vI lg, vI kp, vI fi, vI lo, vI wt, .ref (a 22), .ref (a 23), .ref (a 24), .ref (a 25), .ref (a 26), vI gr, .ref (a 28), .ref (a 29), vI eb, vI ec, vI ef, vI iv])] H := hP
                      have hD : va_D A [((a 5), aI G 6 ED), (o0, ob 7 [vI 3, .ref (a 1), .ref (a 2), .ref (a 3), .ref (a 4), .ref (a 5), vI mk, .ref (a 7), .ref (a 8), vI bl, .ref (a 10), vI hm, vI rc, .ref (a 13), .ref (a 14), .ref (a 15), vI lk, vI lg, vI kp, vI fi, vI lo, vI wt, .ref (a 22), .ref (a 23), .ref (a 24), .ref (a 25), .ref (a 26), vI gr, .ref (a 28), .ref (a 29), vI eb, vI ec, vI ef, vI iv])] := hD
                      obtain ⟨hrw_, hw_3⟩ := hw
                      rw [hrw_]
                      clear hrw_
                      clear hw_3
                      refine z_if_eq (tgt := 90) hx hb dX7_edge_85 (by decide) (by omega) (fun c_85 => ?_) (fun c_85 => ?_)
                      · exact absurd c_85 (by decide)
                      · refine lv_iconst (v := iI 0) hx hb dX7_edge_88 rfl ?_
                        exact z_iretW hC hr hlk () hAe hP hD hS [1, 0] (by decide) rfl rfl (⟨rfl, trivial⟩) dX7_edge_89
                · exfalso; omega

set_option maxRecDepth 100000 in
set_option maxHeartbeats 4000000 in
theorem c_X7_edge_0 (l : Launch) (G : zGt) (sz : Nat) (o0 : Nat) (a : Nat → Nat) (th mk bl hm rc lk lg kp fi lo wt gr eb ec ef iv : Int) (ED : Int → Int) (NX : Int → Int) (x y z w t0 : Int) (hmk : 0 ≤ mk ∧ mk ≤ 6) (hx : 0 ≤ x ∧ x < mk) (hok : ((0 ≤ y ∧ y < 16) ∧ (0 ≤ t0 ∧ t0 < 16) ∧ (0 ≤ z ∧ z < 256) ∧ (0 ≤ w ∧ w < 256) ∧ z ≤ w)) (hed : 0 ≤ ED x ∧ ED x < 40) : Met l yX7_edge (Cond.code yX7_edge cX7_edge 7 (some .int) :: tb) ({ frames := 1, cells := 0, slots := 0, locals := 22 } : Room) (zPw G [(o0, ob 7 [vI th, .ref (a 1), .ref (a 2), .ref (a 3), .ref (a 4), .ref (a 5), vI mk, .ref (a 7), .ref (a 8), vI bl, .ref (a 10), vI hm, vI rc, .ref (a 13), .ref (a 14), .ref (a 15), vI lk, vI lg, vI kp, vI fi, vI lo, vI wt, .ref (a 22), .ref (a 23), .ref (a 24), .ref (a 25), .ref (a 26), vI gr, .ref (a 28), .ref (a 29), vI eb, vI ec, vI ef, vI iv]), ((a 5), aI G 6 ED), ((a 7), aI G 24576 NX)] sz [.ref o0, vI x, vI y, vI z, vI w, vI t0]) (va_Qi (fun (r : Int32) (u : Unit) => r = iI (ED x + 1) ∧ True) (fun (u : Unit) t => zB G [(o0, ob 7 [vI th, .ref (a 1), .ref (a 2), .ref (a 3), .ref (a 4), .ref (a 5), vI mk, .ref (a 7), .ref (a 8), vI bl, .ref (a 10), vI hm, vI rc, .ref (a 13), .ref (a 14), .ref (a 15), vI lk, vI lg, vI kp, vI fi, vI lo, vI wt, .ref (a 22), .ref (a 23), .ref (a 24), .ref (a 25), .ref (a 26), vI gr, .ref (a 28), .ref (a 29), vI eb, vI ec, vI ef, vI iv]), ((a 5), aI G 6 ED), ((a 7), aI G 24576 NX)] sz [(o0, ob 7 [vI 0, .ref (a 1), .ref (a 2), .ref (a 3), .ref (a 4), .ref (a 5), vI mk, .ref (a 7), .ref (a 8), vI bl, .ref (a 10), vI hm, vI rc, .ref (a 13), .ref (a 14), .ref (a 15), vI lk, vI lg, vI kp, vI fi, vI lo, vI wt, .ref (a 22), .ref (a 23), .ref (a 24), .ref (a 25), .ref (a 26), vI gr, .ref (a 28), .ref (a 29), vI eb, vI ec, vI ef, vI iv]), ((a 5), aI G 6 (zup ED x (ED x + 1))), ((a 7), aI G 24576 (nxE NX ((16 * x + y) * 256) z w (zshl 1 t0)))] t) (va_A [(o0, ob 7 [vI th, .ref (a 1), .ref (a 2), .ref (a 3), .ref (a 4), .ref (a 5), vI mk, .ref (a 7), .ref (a 8), vI bl, .ref (a 10), vI hm, vI rc, .ref (a 13), .ref (a 14), .ref (a 15), vI lk, vI lg, vI kp, vI fi, vI lo, vI wt, .ref (a 22), .ref (a 23), .ref (a 24), .ref (a 25), .ref (a 26), vI gr, .ref (a 28), .ref (a 29), vI eb, vI ec, vI ef, vI iv]), ((a 5), aI G 6 ED), ((a 7), aI G 24576 NX)] sz)) 0 0 (va_A [(o0, ob 7 [vI th, .ref (a 1), .ref (a 2), .ref (a 3), .ref (a 4), .ref (a 5), vI mk, .ref (a 7), .ref (a 8), vI bl, .ref (a 10), vI hm, vI rc, .ref (a 13), .ref (a 14), .ref (a 15), vI lk, vI lg, vI kp, vI fi, vI lo, vI wt, .ref (a 22), .ref (a 23), .ref (a 24), .ref (a 25), .ref (a 26), vI gr, .ref (a 28), .ref (a 29), vI eb, vI ec, vI ef, vI iv]), ((a 5), aI G 6 ED), ((a 7), aI G 24576 NX)] sz) := by
  refine Met.ofW (cc := cX7_edge) (maxL := 7) (ret := (some .int)) (by decide) rfl ?_
  intro p e s m args below meth c s₁ B hml hv
  obtain ⟨rfl, hsz, hP, hK, hD0⟩ := hv
  subst hsz
  have hD := hD0.self (sz := s.heap.size)
  obtain ⟨A, hAe⟩ : ∃ A : Nat → Prop, A = va_A [(o0, ob 7 [vI th, .ref (a 1), .ref (a 2), .ref (a 3), .ref (a 4), .ref (a 5), vI mk, .ref (a 7), .ref (a 8), vI bl, .ref (a 10), vI hm, vI rc, .ref (a 13), .ref (a 14), .ref (a 15), vI lk, vI lg, vI kp, vI fi, vI lo, vI wt, .ref (a 22), .ref (a 23), .ref (a 24), .ref (a 25), .ref (a 26), vI gr, .ref (a 28), .ref (a 29), vI eb, vI ec, vI ef, vI iv]), ((a 5), aI G 6 ED), ((a 7), aI G 24576 NX)] s.heap.size := ⟨_, rfl⟩
  rw [← hAe] at hD
  have hA : ∀ q : Nat, s.heap.size ≤ q → A q := fun q h => by rw [hAe]; exact Or.inr h
  have hS : va_S A s.heap s.heap [] := va_S.rf
  obtain ⟨hC, hr, hlk⟩ := z_begin B hml
  have hC : CallFix p m c cX7_edge 7 s _ tb RX7 := hC
  have hx := hC.1
  have hb := hC.2.1
  have hl := lv_entry ([.ref o0, vI x, vI y, vI z, vI w, vI t0]) (n := 7) (Nat.le_of_ble_eq_true rfl)
  rw [lg_entry_eq]
  generalize (lg_sl ([.ref o0, vI x, vI y, vI z, vI w, vI t0]) ++ List.replicate (7 - (lg_sl ([.ref o0, vI x, vI y, vI z, vI w, vI t0])).length) Slot.unset).toArray = ls at hl ⊢
  have hl : lv_has ls 7 [(0, .ref o0), (1, vI x), (2, vI y), (3, vI z), (4, vI w), (5, vI t0)] := hl
  obtain ⟨H, hHe⟩ : ∃ H : Heap, H = s.heap := ⟨_, rfl⟩
  obtain ⟨locs, hLe⟩ : ∃ L : List Loc, L = [] := ⟨_, rfl⟩
  suffices hgo : W p l e (headSpec (Cond.code yX7_edge cX7_edge 7 (some .int) :: tb) ({ frames := 1, cells := 0, slots := 0, locals := 22 } : Room)).room s m ([.ref o0, vI x, vI y, vI z, vI w, vI t0] : List Value).toArray below meth c H locs 0 0 (MQ below (va_Qi (fun (r : Int32) (u : Unit) => r = iI (ED x + 1) ∧ True) (fun (u : Unit) t => zB G [(o0, ob 7 [vI th, .ref (a 1), .ref (a 2), .ref (a 3), .ref (a 4), .ref (a 5), vI mk, .ref (a 7), .ref (a 8), vI bl, .ref (a 10), vI hm, vI rc, .ref (a 13), .ref (a 14), .ref (a 15), vI lk, vI lg, vI kp, vI fi, vI lo, vI wt, .ref (a 22), .ref (a 23), .ref (a 24), .ref (a 25), .ref (a 26), vI gr, .ref (a 28), .ref (a 29), vI eb, vI ec, vI ef, vI iv]), ((a 5), aI G 6 ED), ((a 7), aI G 24576 NX)] s.heap.size [(o0, ob 7 [vI 0, .ref (a 1), .ref (a 2), .ref (a 3), .ref (a 4), .ref (a 5), vI mk, .ref (a 7), .ref (a 8), vI bl, .ref (a 10), vI hm, vI rc, .ref (a 13), .ref (a 14), .ref (a 15), vI lk, vI lg, vI kp, vI fi, vI lo, vI wt, .ref (a 22), .ref (a 23), .ref (a 24), .ref (a 25), .ref (a 26), vI gr, .ref (a 28), .ref (a 29), vI eb, vI ec, vI ef, vI iv]), ((a 5), aI G 6 (zup ED x (ED x + 1))), ((a 7), aI G 24576 (nxE NX ((16 * x + y) * 256) z w (zshl 1 t0)))] t) (va_A [(o0, ob 7 [vI th, .ref (a 1), .ref (a 2), .ref (a 3), .ref (a 4), .ref (a 5), vI mk, .ref (a 7), .ref (a 8), vI bl, .ref (a 10), vI hm, vI rc, .ref (a 13), .ref (a 14), .ref (a 15), vI lk, vI lg, vI kp, vI fi, vI lo, vI wt, .ref (a 22), .ref (a 23), .ref (a 24), .ref (a 25), .ref (a 26), vI gr, .ref (a 28), .ref (a 29), vI eb, vI ec, vI ef, vI iv]), ((a 5), aI G 6 ED), ((a 7), aI G 24576 NX)] s.heap.size)) ([.ref o0, vI x, vI y, vI z, vI w, vI t0] : List Value).toArray s 0 0 (va_A [(o0, ob 7 [vI th, .ref (a 1), .ref (a 2), .ref (a 3), .ref (a 4), .ref (a 5), vI mk, .ref (a 7), .ref (a 8), vI bl, .ref (a 10), vI hm, vI rc, .ref (a 13), .ref (a 14), .ref (a 15), vI lk, vI lg, vI kp, vI fi, vI lo, vI wt, .ref (a 22), .ref (a 23), .ref (a 24), .ref (a 25), .ref (a 26), vI gr, .ref (a 28), .ref (a 29), vI eb, vI ec, vI ef, vI iv]), ((a 5), aI G 6 ED), ((a 7), aI G 24576 NX)] s.heap.size)) (F0 m 0 ls []) by rw [hHe, hLe] at hgo; exact hgo
  rw [← hHe] at hP
  have hS : va_S A s.heap H locs := by rw [hHe, hLe]; exact hS
  clear hHe hLe
  refine lv_aload_n hx hb dX7_edge_0 rfl (lv_at hl 0 rfl) ?_
  refine lv_iload_n hx hb dX7_edge_1 rfl (lv_at hl 1 rfl) ?_
  refine z_wVi (q0 := 0) (ci := 7) (b := o0) (rest := []) (wr := [((a 5), aI G 6 ED), ((a 7), aI G 24576 NX)]) hC hK hP hD hS hA (c_X7_isMake_t l G H.size o0 a th mk bl hm rc lk lg kp fi lo wt gr eb ec ef iv x (by omega) (by omega)) mv_X7_isMake tw_914 [0] [1, 2] rfl rfl rfl rfl (by decide) rfl rfl rfl rfl hl.1 rfl (Nat.le_of_ble_eq_true rfl) ⟨rfl, rfl, Nat.le_of_ble_eq_true rfl, Nat.le_of_ble_eq_true rfl⟩ ⟨Nat.le_of_ble_eq_true rfl, Nat.le_of_ble_eq_true rfl⟩ dX7_edge_2 (fun r u H locs hw hP hD hS => ?_)
  have hP : va_P G.1 vwCl [((a 5), aI G 6 ED), ((a 7), aI G 24576 NX), (o0, ob 7 [vI 0, .ref (a 1), .ref (a 2), .ref (a 3), .ref (a 4), .ref (a 5), vI mk, .ref (a 7), .ref (a 8), vI bl, .ref (a 10), vI hm, vI rc, .ref (a 13), .ref (a 14), .ref (a 15), vI lk, vI lg, vI kp, vI fi, vI lo, vI wt, .ref (a 22), .ref (a 23), .ref (a 24), .ref (a 25), .ref (a 26), vI gr, .ref (a 28), .ref (a 29), vI eb, vI ec, vI ef, vI iv])] H := hP
  have hD : va_D A [((a 5), aI G 6 ED), ((a 7), aI G 24576 NX), (o0, ob 7 [vI 0, .ref (a 1), .ref (a 2), .ref (a 3), .ref (a 4), .ref (a 5), vI mk, .ref (a 7), .ref (a 8), vI bl, .ref (a 10), vI hm, vI rc, .ref (a 13), .ref (a 14), .ref (a 15), vI lk, vI lg, vI kp, vI fi, vI lo, vI wt, .ref (a 22), .ref (a 23), .ref (a 24), .ref (a 25), .ref (a 26), vI gr, .ref (a 28), .ref (a 29), vI eb, vI ec, vI ef, vI iv])] := hD
  obtain ⟨hrw_, hw_1⟩ := hw
  rw [hrw_]
  clear hrw_
  clear hw_1
  refine z_if_eq (tgt := 88) hx hb dX7_edge_5 (by decide) (by omega) (fun c_5 => ?_) (fun c_5 => ?_)
  · exact absurd c_5 (by decide)
  · refine lv_aload_n hx hb dX7_edge_8 rfl (lv_at hl 0 rfl) ?_
    refine lv_iload_n hx hb dX7_edge_9 rfl (lv_at hl 2 rfl) ?_
    refine z_if_lt (tgt := 52) hx hb dX7_edge_10 (by decide) (by omega) (fun c_10 => ?_) (fun c_10 => ?_)
    · exfalso; omega
    · refine lv_iload_n hx hb dX7_edge_13 rfl (lv_at hl 2 rfl) ?_
      refine lv_bipush (v := iI 15) hx hb dX7_edge_14 (by decide) ?_
      refine z_icmp_gt (tgt := 52) hx hb dX7_edge_16 (by decide) (by omega) (fun c_16 => ?_) (fun c_16 => ?_)
      · exfalso; omega
      · refine lv_iload hx hb dX7_edge_19 (lv_at hl 5 rfl) ?_
        refine z_if_lt (tgt := 52) hx hb dX7_edge_21 (by decide) (by omega) (fun c_21 => ?_) (fun c_21 => ?_)
        · exfalso; omega
        · refine lv_iload hx hb dX7_edge_24 (lv_at hl 5 rfl) ?_
          refine lv_bipush (v := iI 15) hx hb dX7_edge_26 (by decide) ?_
          refine z_icmp_gt (tgt := 52) hx hb dX7_edge_28 (by decide) (by omega) (fun c_28 => ?_) (fun c_28 => ?_)
          · exfalso; omega
          · refine lv_iload_n hx hb dX7_edge_31 rfl (lv_at hl 3 rfl) ?_
            refine z_rSi (rest := [.ref o0]) hC hK hP (c_X7_isByte_t l G z (by omega)) ms_X7_isByte tw_903 [] rfl rfl hl.1 rfl (Nat.le_of_ble_eq_true rfl) ⟨rfl, rfl, Nat.le_of_ble_eq_true rfl, Nat.le_of_ble_eq_true rfl⟩ ⟨Nat.le_of_ble_eq_true rfl, Nat.le_of_ble_eq_true rfl⟩ dX7_edge_32 ?_
            refine z_if_eq (tgt := 52) hx hb dX7_edge_35 (by decide) (by omega) (fun c_35 => ?_) (fun c_35 => ?_)
            · exact absurd c_35 (by decide)
            · refine lv_iload hx hb dX7_edge_38 (lv_at hl 4 rfl) ?_
              refine z_rSi (rest := [.ref o0]) hC hK hP (c_X7_isByte_t l G w (by omega)) ms_X7_isByte tw_903 [] rfl rfl hl.1 rfl (Nat.le_of_ble_eq_true rfl) ⟨rfl, rfl, Nat.le_of_ble_eq_true rfl, Nat.le_of_ble_eq_true rfl⟩ ⟨Nat.le_of_ble_eq_true rfl, Nat.le_of_ble_eq_true rfl⟩ dX7_edge_40 ?_
              refine z_if_eq (tgt := 52) hx hb dX7_edge_43 (by decide) (by omega) (fun c_43 => ?_) (fun c_43 => ?_)
              · exact absurd c_43 (by decide)
              · refine lv_iload_n hx hb dX7_edge_46 rfl (lv_at hl 3 rfl) ?_
                refine lv_iload hx hb dX7_edge_47 (lv_at hl 4 rfl) ?_
                refine z_icmp_le (tgt := 56) hx hb dX7_edge_49 (by decide) (by omega) (fun c_49 => ?_) (fun c_49 => ?_)
                · refine lv_iconst (v := iI 0) hx hb dX7_edge_56 rfl ?_
                  refine lv_iconst (v := iI 2) hx hb dX7_edge_57 rfl ?_
                  refine z_wVi (q0 := 2) (ci := 7) (b := o0) (rest := []) (wr := [((a 5), aI G 6 ED), ((a 7), aI G 24576 NX)]) hC hK hP hD hS hA (c_X7_bad_0 l G H.size o0 a 0 mk bl hm rc lk lg kp fi lo wt gr eb ec ef iv 2) mv_X7_bad tw_906 [2] [0, 1] rfl rfl rfl rfl (by decide) rfl rfl rfl rfl hl.1 rfl (Nat.le_of_ble_eq_true rfl) ⟨rfl, rfl, Nat.le_of_ble_eq_true rfl, Nat.le_of_ble_eq_true rfl⟩ ⟨Nat.le_of_ble_eq_true rfl, Nat.le_of_ble_eq_true rfl⟩ dX7_edge_58 (fun r u H locs hw hP hD hS => ?_)
                  have hP : va_P G.1 vwCl [((a 5), aI G 6 ED), ((a 7), aI G 24576 NX), (o0, ob 7 [vI 0, .ref (a 1), .ref (a 2), .ref (a 3), .ref (a 4), .ref (a 5), vI mk, .ref (a 7), .ref (a 8), vI bl, .ref (a 10), vI hm, vI rc, .ref (a 13), .ref (a 14), .ref (a 15), vI lk, vI lg, vI kp, vI fi, vI lo, vI wt, .ref (a 22), .ref (a 23), .ref (a 24), .ref (a 25), .ref (a 26), vI gr, .ref (a 28), .ref (a 29), vI eb, vI ec, vI ef, vI iv])] H := hP
                  have hD : va_D A [((a 5), aI G 6 ED), ((a 7), aI G 24576 NX), (o0, ob 7 [vI 0, .ref (a 1), .ref (a 2), .ref (a 3), .ref (a 4), .ref (a 5), vI mk, .ref (a 7), .ref (a 8), vI bl, .ref (a 10), vI hm, vI rc, .ref (a 13), .ref (a 14), .ref (a 15), vI lk, vI lg, vI kp, vI fi, vI lo, vI wt, .ref (a 22), .ref (a 23), .ref (a 24), .ref (a 25), .ref (a 26), vI gr, .ref (a 28), .ref (a 29), vI eb, vI ec, vI ef, vI iv])] := hD
                  obtain ⟨hrw_, hw_2⟩ := hw
                  rw [hrw_]
                  clear hrw_
                  clear hw_2
                  refine z_if_ne (tgt := 88) hx hb dX7_edge_61 (by decide) (by omega) (fun c_61 => ?_) (fun c_61 => ?_)
                  · exact absurd c_61 (by decide)
                  · refine lv_aload_n hx hb dX7_edge_64 rfl (lv_at hl 0 rfl) ?_
                    refine lv_aload_n hx hb dX7_edge_65 rfl (lv_at hl 0 rfl) ?_
                    refine z_get (v := .ref (a 5)) hC hK hP inX7 rfl 2 rfl 5 (by decide) tw_797 rfl dX7_edge_66 ?_
                    refine lv_iload_n hx hb dX7_edge_69 rfl (lv_at hl 1 rfl) ?_
                    refine z_iald hC hK hP 0 rfl (by omega) (by decide) dX7_edge_70 ?_
                    refine lv_bipush (v := iI 40) hx hb dX7_edge_71 (by decide) ?_
                    refine z_icmp_ne (tgt := 80) hx hb dX7_edge_73 (by decide) (by omega) (fun c_73 => ?_) (fun c_73 => ?_)
                    · refine lv_iconst (v := iI 0) hx hb dX7_edge_80 rfl ?_
                      refine lv_iconst (v := iI 3) hx hb dX7_edge_81 rfl ?_
                      refine z_wVi (q0 := 2) (ci := 7) (b := o0) (rest := []) (wr := [((a 5), aI G 6 ED), ((a 7), aI G 24576 NX)]) hC hK hP hD hS hA (c_X7_bad_0 l G H.size o0 a 0 mk bl hm rc lk lg kp fi lo wt gr eb ec ef iv 3) mv_X7_bad tw_906 [2] [0, 1] rfl rfl rfl rfl (by decide) rfl rfl rfl rfl hl.1 rfl (Nat.le_of_ble_eq_true rfl) ⟨rfl, rfl, Nat.le_of_ble_eq_true rfl, Nat.le_of_ble_eq_true rfl⟩ ⟨Nat.le_of_ble_eq_true rfl, Nat.le_of_ble_eq_true rfl⟩ dX7_edge_82 (fun r u H locs hw hP hD hS => ?_)
                      have hP : va_P G.1 vwCl [((a 5), aI G 6 ED), ((a 7), aI G 24576 NX), (o0, ob 7 [vI 0, .ref (a 1), .ref (a 2), .ref (a 3), .ref (a 4), .ref (a 5), vI mk, .ref (a 7), .ref (a 8), vI bl, .ref (a 10), vI hm, vI rc, .ref (a 13), .ref (a 14), .ref (a 15), vI lk, vI lg, vI kp, vI fi, vI lo, vI wt, .ref (a 22), .ref (a 23), .ref (a 24), .ref (a 25), .ref (a 26), vI gr, .ref (a 28), .ref (a 29), vI eb, vI ec, vI ef, vI iv])] H := hP
                      have hD : va_D A [((a 5), aI G 6 ED), ((a 7), aI G 24576 NX), (o0, ob 7 [vI 0, .ref (a 1), .ref (a 2), .ref (a 3), .ref (a 4), .ref (a 5), vI mk, .ref (a 7), .ref (a 8), vI bl, .ref (a 10), vI hm, vI rc, .ref (a 13), .ref (a 14), .ref (a 15), vI lk, vI lg, vI kp, vI fi, vI lo, vI wt, .ref (a 22), .ref (a 23), .ref (a 24), .ref (a 25), .ref (a 26), vI gr, .ref (a 28), .ref (a 29), vI eb, vI ec, vI ef, vI iv])] := hD
                      obtain ⟨hrw_, hw_3⟩ := hw
                      rw [hrw_]
                      clear hrw_
                      clear hw_3
                      refine z_if_eq (tgt := 90) hx hb dX7_edge_85 (by decide) (by omega) (fun c_85 => ?_) (fun c_85 => ?_)
                      · refine lv_iload_n hx hb dX7_edge_90 rfl (lv_at hl 3 rfl) ?_
                        refine lv_istore (lv' := [(6, vI z), (0, .ref o0), (1, vI x), (2, vI y), (3, vI z), (4, vI w), (5, vI t0)]) hx hb dX7_edge_91 hl (by decide) rfl (fun ls hl => ?_)
                        have cut_93 : ∀ (n_ : Nat) (qc : Int) (qN : Int → Int) (H : Heap) (locs : List Loc) (ls : Array Slot), va_P G.1 vwCl [((a 5), aI G 6 ED), ((a 7), aI G 24576 qN), (o0, ob 7 [vI 0, .ref (a 1), .ref (a 2), .ref (a 3), .ref (a 4), .ref (a 5), vI mk, .ref (a 7), .ref (a 8), vI bl, .ref (a 10), vI hm, vI rc, .ref (a 13), .ref (a 14), .ref (a 15), vI lk, vI lg, vI kp, vI fi, vI lo, vI wt, .ref (a 22), .ref (a 23), .ref (a 24), .ref (a 25), .ref (a 26), vI gr, .ref (a 28), .ref (a 29), vI eb, vI ec, vI ef, vI iv])] H → va_D A [((a 5), aI G 6 ED), ((a 7), aI G 24576 qN), (o0, ob 7 [vI 0, .ref (a 1), .ref (a 2), .ref (a 3), .ref (a 4), .ref (a 5), vI mk, .ref (a 7), .ref (a 8), vI bl, .ref (a 10), vI hm, vI rc, .ref (a 13), .ref (a 14), .ref (a 15), vI lk, vI lg, vI kp, vI fi, vI lo, vI wt, .ref (a 22), .ref (a 23), .ref (a 24), .ref (a 25), .ref (a 26), vI gr, .ref (a 28), .ref (a 29), vI eb, vI ec, vI ef, vI iv])] → va_S A s.heap H locs → lv_has ls 7 [(0, .ref o0), (1, vI x), (2, vI y), (3, vI z), (4, vI w), (5, vI t0), (6, vI qc)] → (z ≤ qc ∧ qc ≤ w + 1) → (qN = nxE NX ((16 * x + y) * 256) z (qc - 1) (zshl 1 t0)) → (w + 1 - qc).toNat < n_ → W p l e (headSpec (Cond.code yX7_edge cX7_edge 7 (some .int) :: tb) ({ frames := 1, cells := 0, slots := 0, locals := 22 } : Room)).room s m ([.ref o0, vI x, vI y, vI z, vI w, vI t0] : List Value).toArray below meth c H locs 0 0 (MQ below (va_Qi (fun (r : Int32) (u : Unit) => r = iI (ED x + 1) ∧ True) (fun (u : Unit) t => zB G [(o0, ob 7 [vI th, .ref (a 1), .ref (a 2), .ref (a 3), .ref (a 4), .ref (a 5), vI mk, .ref (a 7), .ref (a 8), vI bl, .ref (a 10), vI hm, vI rc, .ref (a 13), .ref (a 14), .ref (a 15), vI lk, vI lg, vI kp, vI fi, vI lo, vI wt, .ref (a 22), .ref (a 23), .ref (a 24), .ref (a 25), .ref (a 26), vI gr, .ref (a 28), .ref (a 29), vI eb, vI ec, vI ef, vI iv]), ((a 5), aI G 6 ED), ((a 7), aI G 24576 NX)] s.heap.size [(o0, ob 7 [vI 0, .ref (a 1), .ref (a 2), .ref (a 3), .ref (a 4), .ref (a 5), vI mk, .ref (a 7), .ref (a 8), vI bl, .ref (a 10), vI hm, vI rc, .ref (a 13), .ref (a 14), .ref (a 15), vI lk, vI lg, vI kp, vI fi, vI lo, vI wt, .ref (a 22), .ref (a 23), .ref (a 24), .ref (a 25), .ref (a 26), vI gr, .ref (a 28), .ref (a 29), vI eb, vI ec, vI ef, vI iv]), ((a 5), aI G 6 (zup ED x (ED x + 1))), ((a 7), aI G 24576 (nxE NX ((16 * x + y) * 256) z w (zshl 1 t0)))] t) (va_A [(o0, ob 7 [vI th, .ref (a 1), .ref (a 2), .ref (a 3), .ref (a 4), .ref (a 5), vI mk, .ref (a 7), .ref (a 8), vI bl, .ref (a 10), vI hm, vI rc, .ref (a 13), .ref (a 14), .ref (a 15), vI lk, vI lg, vI kp, vI fi, vI lo, vI wt, .ref (a 22), .ref (a 23), .ref (a 24), .ref (a 25), .ref (a 26), vI gr, .ref (a 28), .ref (a 29), vI eb, vI ec, vI ef, vI iv]), ((a 5), aI G 6 ED), ((a 7), aI G 24576 NX)] s.heap.size)) ([.ref o0, vI x, vI y, vI z, vI w, vI t0] : List Value).toArray s 0 0 (va_A [(o0, ob 7 [vI th, .ref (a 1), .ref (a 2), .ref (a 3), .ref (a 4), .ref (a 5), vI mk, .ref (a 7), .ref (a 8), vI bl, .ref (a 10), vI hm, vI rc, .ref (a 13), .ref (a 14), .ref (a 15), vI lk, vI lg, vI kp, vI fi, vI lo, vI wt, .ref (a 22), .ref (a 23), .ref (a 24), .ref (a 25), .ref (a 26), vI gr, .ref (a 28), .ref (a 29), vI eb, vI ec, vI ef, vI iv]), ((a 5), aI G 6 ED), ((a 7), aI G 24576 NX)] s.heap.size)) (F0 m 93 ls []) := by
                          intro n_
                          induction n_ with
                          | zero => exact fun qc qN H locs ls hP hD hS hl hqc hqN hm_ => absurd hm_ (Nat.not_lt_zero _)
                          | succ n_ ih_93 =>
                            intro qc qN H locs ls hP hD hS hl hqc hqN hm_
                            refine lv_iload hx hb dX7_edge_93 (lv_at hl 6 rfl) ?_
                            refine lv_iload hx hb dX7_edge_95 (lv_at hl 4 rfl) ?_
                            refine z_icmp_gt (tgt := 131) hx hb dX7_edge_97 (by decide) (by omega) (fun c_97 => ?_) (fun c_97 => ?_)
                            · have hfin : qN = nxE NX ((16 * x + y) * 256) z w (zshl 1 t0) := by rw [hqN, show qc - 1 = w by omega]
                              refine lv_aload_n hx hb dX7_edge_131 rfl (lv_at hl 0 rfl) ?_
                              refine z_get (v := .ref (a 5)) hC hK hP inX7 rfl 2 rfl 5 (by decide) tw_797 rfl dX7_edge_132 ?_
                              refine lv_iload_n hx hb dX7_edge_135 rfl (lv_at hl 1 rfl) ?_
                              refine lv_dup2_11 hx hb dX7_edge_136 rfl rfl ?_
                              refine z_iald hC hK hP 0 rfl (by omega) (by decide) dX7_edge_137 ?_
                              refine lv_iconst (v := iI 1) hx hb dX7_edge_138 rfl ?_
                              refine z_iadd hx hb dX7_edge_139 ?_
                              refine z_iast (ws' := [((a 5), aI G 6 (zup ED x ((ED x) + 1))), ((a 7), aI G 24576 qN), (o0, ob 7 [vI 0, .ref (a 1), .ref (a 2), .ref (a 3), .ref (a 4), .ref (a 5), vI mk, .ref (a 7), .ref (a 8), vI bl, .ref (a 10), vI hm, vI rc, .ref (a 13), .ref (a 14), .ref (a 15), vI lk, vI lg, vI kp, vI fi, vI lo, vI wt, .ref (a 22), .ref (a 23), .ref (a 24), .ref (a 25), .ref (a 26), vI gr, .ref (a 28), .ref (a 29), vI eb, vI ec, vI ef, vI iv])]) hC hK hP hD hS 0 rfl (by omega) (by decide) rfl dX7_edge_140 (fun H locs hP hD hS => ?_)
                              refine lv_aload_n hx hb dX7_edge_141 rfl (lv_at hl 0 rfl) ?_
                              refine z_get (v := .ref (a 5)) hC hK hP inX7 rfl 2 rfl 5 (by decide) tw_797 rfl dX7_edge_142 ?_
                              refine lv_iload_n hx hb dX7_edge_145 rfl (lv_at hl 1 rfl) ?_
                              refine z_iald hC hK hP 0 rfl (by omega) (by decide) dX7_edge_146 ?_
                              have hP := hP.sub (ws' := [(o0, ob 7 [vI 0, .ref (a 1), .ref (a 2), .ref (a 3), .ref (a 4), .ref (a 5), vI mk, .ref (a 7), .ref (a 8), vI bl, .ref (a 10), vI hm, vI rc, .ref (a 13), .ref (a 14), .ref (a 15), vI lk, vI lg, vI kp, vI fi, vI lo, vI wt, .ref (a 22), .ref (a 23), .ref (a 24), .ref (a 25), .ref (a 26), vI gr, .ref (a 28), .ref (a 29), vI eb, vI ec, vI ef, vI iv]), ((a 5), aI G 6 (zup ED x ((ED x) + 1))), ((a 7), aI G 24576 qN)]) [2, 0, 1] rfl
                              have hD := hD.sub (ws' := [(o0, ob 7 [vI 0, .ref (a 1), .ref (a 2), .ref (a 3), .ref (a 4), .ref (a 5), vI mk, .ref (a 7), .ref (a 8), vI bl, .ref (a 10), vI hm, vI rc, .ref (a 13), .ref (a 14), .ref (a 15), vI lk, vI lg, vI kp, vI fi, vI lo, vI wt, .ref (a 22), .ref (a 23), .ref (a 24), .ref (a 25), .ref (a 26), vI gr, .ref (a 28), .ref (a 29), vI eb, vI ec, vI ef, vI iv]), ((a 5), aI G 6 (zup ED x ((ED x) + 1))), ((a 7), aI G 24576 qN)]) [2, 0, 1] (by decide) rfl
                              have hP : va_P G.1 vwCl [(o0, ob 7 [vI 0, .ref (a 1), .ref (a 2), .ref (a 3), .ref (a 4), .ref (a 5), vI mk, .ref (a 7), .ref (a 8), vI bl, .ref (a 10), vI hm, vI rc, .ref (a 13), .ref (a 14), .ref (a 15), vI lk, vI lg, vI kp, vI fi, vI lo, vI wt, .ref (a 22), .ref (a 23), .ref (a 24), .ref (a 25), .ref (a 26), vI gr, .ref (a 28), .ref (a 29), vI eb, vI ec, vI ef, vI iv]), ((a 5), aI G 6 (zup ED x (ED x + 1))), ((a 7), aI G 24576 (nxE NX ((16 * x + y) * 256) z w (zshl 1 t0)))] H := by rw [← hfin]; exact hP
                              have hD : va_D A [(o0, ob 7 [vI 0, .ref (a 1), .ref (a 2), .ref (a 3), .ref (a 4), .ref (a 5), vI mk, .ref (a 7), .ref (a 8), vI bl, .ref (a 10), vI hm, vI rc, .ref (a 13), .ref (a 14), .ref (a 15), vI lk, vI lg, vI kp, vI fi, vI lo, vI wt, .ref (a 22), .ref (a 23), .ref (a 24), .ref (a 25), .ref (a 26), vI gr, .ref (a 28), .ref (a 29), vI eb, vI ec, vI ef, vI iv]), ((a 5), aI G 6 (zup ED x (ED x + 1))), ((a 7), aI G 24576 (nxE NX ((16 * x + y) * 256) z w (zshl 1 t0)))] := by rw [← hfin]; exact hD
                              exact z_iretW hC hr hlk () hAe hP hD hS [0, 1, 2] (by decide) rfl rfl (⟨congrArg iI (zup_s _ _ _), trivial⟩) dX7_edge_147
                            · refine lv_aload_n hx hb dX7_edge_100 rfl (lv_at hl 0 rfl) ?_
                              refine z_get (v := .ref (a 7)) hC hK hP inX7 rfl 2 rfl 7 (by decide) tw_799 rfl dX7_edge_101 ?_
                              refine lv_bipush (v := iI 16) hx hb dX7_edge_104 (by decide) ?_
                              refine lv_iload_n hx hb dX7_edge_106 rfl (lv_at hl 1 rfl) ?_
                              refine z_imul hx hb dX7_edge_107 ?_
                              refine lv_iload_n hx hb dX7_edge_108 rfl (lv_at hl 2 rfl) ?_
                              refine z_iadd hx hb dX7_edge_109 ?_
                              refine lv_sipush (v := iI 256) hx hb dX7_edge_110 (by decide) ?_
                              refine z_imul hx hb dX7_edge_113 ?_
                              refine lv_iload hx hb dX7_edge_114 (lv_at hl 6 rfl) ?_
                              refine z_iadd hx hb dX7_edge_116 ?_
                              refine lv_dup2_11 hx hb dX7_edge_117 rfl rfl ?_
                              refine z_iald hC hK hP 1 rfl (by omega) (by decide) dX7_edge_118 ?_
                              refine lv_iconst (v := iI 1) hx hb dX7_edge_119 rfl ?_
                              refine lv_iload hx hb dX7_edge_120 (lv_at hl 5 rfl) ?_
                              refine z_ishl hx hb dX7_edge_122 ?_
                              refine z_ior hx hb dX7_edge_123 ?_
                              refine z_iast (ws' := [((a 5), aI G 6 ED), ((a 7), aI G 24576 (zup qN ((((16 * x) + y) * 256) + qc) (zor (qN ((((16 * x) + y) * 256) + qc)) (zshl 1 t0)))), (o0, ob 7 [vI 0, .ref (a 1), .ref (a 2), .ref (a 3), .ref (a 4), .ref (a 5), vI mk, .ref (a 7), .ref (a 8), vI bl, .ref (a 10), vI hm, vI rc, .ref (a 13), .ref (a 14), .ref (a 15), vI lk, vI lg, vI kp, vI fi, vI lo, vI wt, .ref (a 22), .ref (a 23), .ref (a 24), .ref (a 25), .ref (a 26), vI gr, .ref (a 28), .ref (a 29), vI eb, vI ec, vI ef, vI iv])]) hC hK hP hD hS 1 rfl (by omega) (by decide) rfl dX7_edge_124 (fun H locs hP hD hS => ?_)
                              refine z_iinc (k := 6) (lv' := [(6, vI (qc + 1)), (0, .ref o0), (1, vI x), (2, vI y), (3, vI z), (4, vI w), (5, vI t0)]) hx hb dX7_edge_125 hl rfl (by decide) rfl (fun ls hl => ?_)
                              refine lv_goto (tgt := 93) hx hb dX7_edge_128 (by decide) ?_
                              exact ih_93 (qc + 1) (zup qN ((((16 * x) + y) * 256) + qc) (zor (qN ((((16 * x) + y) * 256) + qc)) (zshl 1 t0))) H locs ls hP hD hS (lv_sub hl [1, 2, 3, 4, 5, 6, 0] rfl) (by omega) (by rw [hqN, nxE_s NX (by omega), show qc + 1 - 1 = qc by omega]) (by omega)
                        exact cut_93 ((w + 1 - z).toNat + 1) z NX H locs ls hP hD hS (lv_sub hl [1, 2, 3, 4, 5, 6, 0] rfl) (by omega) ((nxE_0 NX _ z _).symm) (Nat.lt_succ_self _)
                      · exact absurd c_85 (by decide)
                    · exfalso; omega
                · exfalso; omega

set_option maxRecDepth 100000 in
set_option maxHeartbeats 4000000 in
theorem c_X7_step (l : Launch) (G : zGt) (o0 : Nat) (a : Nat → Nat) (th mk bl hm rc lk lg kp fi lo wt gr eb ec ef iv : Int) (NX : Int → Int) (x y z : Int) (hx : 0 ≤ x ∧ x < 6) (hy : 0 ≤ y ∧ y < 65536) (hz : 0 ≤ z ∧ z < 256) : Met l yX7_step (Cond.code yX7_step cX7_step 6 (some .int) :: tb) ({ frames := 0, cells := 0, slots := 0, locals := 0 } : Room) (zPr G [(o0, ob 7 [vI th, .ref (a 1), .ref (a 2), .ref (a 3), .ref (a 4), .ref (a 5), vI mk, .ref (a 7), .ref (a 8), vI bl, .ref (a 10), vI hm, vI rc, .ref (a 13), .ref (a 14), .ref (a 15), vI lk, vI lg, vI kp, vI fi, vI lo, vI wt, .ref (a 22), .ref (a 23), .ref (a 24), .ref (a 25), .ref (a 26), vI gr, .ref (a 28), .ref (a 29), vI eb, vI ec, vI ef, vI iv]), ((a 7), aI G 24576 NX)] [.ref o0, vI x, vI y, vI z]) (vp_Si (fun r => r = iI (stepZ (tM NX x) z y))) 0 0 (fun _ => False) := by
  refine Met.ofW (cc := cX7_step) (maxL := 6) (ret := (some .int)) (by decide) rfl ?_
  intro p e s m args below meth c s₁ B hml hv
  obtain ⟨rfl, hP, hK⟩ := hv
  obtain ⟨hC, hr, hlk⟩ := z_begin B hml
  have hC : CallFix p m c cX7_step 6 s _ tb RX7 := hC
  have hx := hC.1
  have hb := hC.2.1
  have hl := lv_entry ([.ref o0, vI x, vI y, vI z]) (n := 6) (Nat.le_of_ble_eq_true rfl)
  rw [lg_entry_eq]
  generalize (lg_sl ([.ref o0, vI x, vI y, vI z]) ++ List.replicate (6 - (lg_sl ([.ref o0, vI x, vI y, vI z])).length) Slot.unset).toArray = ls at hl ⊢
  have hl : lv_has ls 6 [(0, .ref o0), (1, vI x), (2, vI y), (3, vI z)] := hl
  refine lv_iconst (v := iI 0) hx hb dX7_step_0 rfl ?_
  refine lv_istore (lv' := [(4, vI 0), (0, .ref o0), (1, vI x), (2, vI y), (3, vI z)]) hx hb dX7_step_1 hl (by decide) rfl (fun ls hl => ?_)
  refine lv_iconst (v := iI 0) hx hb dX7_step_3 rfl ?_
  refine lv_istore (lv' := [(5, vI 0), (4, vI 0), (0, .ref o0), (1, vI x), (2, vI y), (3, vI z)]) hx hb dX7_step_4 hl (by decide) rfl (fun ls hl => ?_)
  have cut_6 : ∀ (n_ : Nat) (qi : Int) (qn : Int) (ls : Array Slot), lv_has ls 6 [(0, .ref o0), (1, vI x), (2, vI y), (3, vI z), (4, vI qn), (5, vI qi)] → (0 ≤ qi ∧ qi ≤ 16) → (qn = orS (fun k => tM NX x (z * 16 + k)) y qi.toNat) → (16 - qi).toNat < n_ → W p l e (headSpec (Cond.code yX7_step cX7_step 6 (some .int) :: tb) ({ frames := 0, cells := 0, slots := 0, locals := 0 } : Room)).room s m ([.ref o0, vI x, vI y, vI z] : List Value).toArray below meth c s.heap [] 0 0 (MQ below (vp_Si (fun r => r = iI (stepZ (tM NX x) z y))) ([.ref o0, vI x, vI y, vI z] : List Value).toArray s 0 0 (fun _ => False)) (F0 m 6 ls []) := by
    intro n_
    induction n_ with
    | zero => exact fun qi qn ls hl hqi hqn hm_ => absurd hm_ (Nat.not_lt_zero _)
    | succ n_ ih_6 =>
      intro qi qn ls hl hqi hqn hm_
      refine lv_iload hx hb dX7_step_6 (lv_at hl 5 rfl) ?_
      refine lv_bipush (v := iI 16) hx hb dX7_step_8 (by decide) ?_
      refine z_icmp_ge (tgt := 52) hx hb dX7_step_10 (by decide) (by omega) (fun c_10 => ?_) (fun c_10 => ?_)
      · refine lv_iload hx hb dX7_step_52 (lv_at hl 4 rfl) ?_
        exact z_iretR hC hr hlk (by rw [hqn, show qi = 16 by omega]; rfl) dX7_step_54
      · refine lv_iload_n hx hb dX7_step_13 rfl (lv_at hl 2 rfl) ?_
        refine lv_iload hx hb dX7_step_14 (lv_at hl 5 rfl) ?_
        refine z_ishr hx hb dX7_step_16 ?_
        refine lv_iconst (v := iI 1) hx hb dX7_step_17 rfl ?_
        refine z_iand hx hb dX7_step_18 ?_
        refine lv_iconst (v := iI 1) hx hb dX7_step_19 rfl ?_
        refine z_icmp_ne (tgt := 46) hx hb dX7_step_20 (by decide) (by have := zand_rng (zshr y qi) 1; omega) (fun c_20 => ?_) (fun c_20 => ?_)
        · refine z_iinc (k := 5) (lv' := [(5, vI (qi + 1)), (0, .ref o0), (1, vI x), (2, vI y), (3, vI z), (4, vI qn)]) hx hb dX7_step_46 hl rfl (by decide) rfl (fun ls hl => ?_)
          refine lv_goto (tgt := 6) hx hb dX7_step_49 (by decide) ?_
          exact ih_6 (qi + 1) qn ls (lv_sub hl [1, 2, 3, 4, 5, 0] rfl) (by omega) (by first | (rw [bit_shr (by omega) (by omega)] at c_20; rw [← tM_at NX x (by omega)]; exact orS_1 (g := fun k => tM NX x (z * 16 + k)) (by omega) hqn c_20) | (rw [bit_shr (by omega) (by omega)] at c_20; exact orS_2 (by omega) hqn c_20)) (by omega)
        · refine lv_iload hx hb dX7_step_23 (lv_at hl 4 rfl) ?_
          refine lv_aload_n hx hb dX7_step_25 rfl (lv_at hl 0 rfl) ?_
          refine z_get (v := .ref (a 7)) hC hK hP inX7 rfl 0 rfl 7 (by decide) tw_799 rfl dX7_step_26 ?_
          refine lv_bipush (v := iI 16) hx hb dX7_step_29 (by decide) ?_
          refine lv_iload_n hx hb dX7_step_31 rfl (lv_at hl 1 rfl) ?_
          refine z_imul hx hb dX7_step_32 ?_
          refine lv_iload hx hb dX7_step_33 (lv_at hl 5 rfl) ?_
          refine z_iadd hx hb dX7_step_35 ?_
          refine lv_sipush (v := iI 256) hx hb dX7_step_36 (by decide) ?_
          refine z_imul hx hb dX7_step_39 ?_
          refine lv_iload_n hx hb dX7_step_40 rfl (lv_at hl 3 rfl) ?_
          refine z_iadd hx hb dX7_step_41 ?_
          refine z_iald hC hK hP 1 rfl (by omega) (by decide) dX7_step_42 ?_
          refine z_ior hx hb dX7_step_43 ?_
          refine lv_istore (lv' := [(4, vI (zor qn (NX ((((16 * x) + qi) * 256) + z)))), (0, .ref o0), (1, vI x), (2, vI y), (3, vI z), (5, vI qi)]) hx hb dX7_step_44 hl (by decide) rfl (fun ls hl => ?_)
          refine z_iinc (k := 5) (lv' := [(5, vI (qi + 1)), (4, vI (zor qn (NX ((((16 * x) + qi) * 256) + z)))), (0, .ref o0), (1, vI x), (2, vI y), (3, vI z)]) hx hb dX7_step_46 hl rfl (by decide) rfl (fun ls hl => ?_)
          refine lv_goto (tgt := 6) hx hb dX7_step_49 (by decide) ?_
          exact ih_6 (qi + 1) (zor qn (NX ((((16 * x) + qi) * 256) + z))) ls (lv_sub hl [2, 3, 4, 5, 1, 0] rfl) (by omega) (by first | (rw [bit_shr (by omega) (by omega)] at c_20; rw [← tM_at NX x (by omega)]; exact orS_1 (g := fun k => tM NX x (z * 16 + k)) (by omega) hqn c_20) | (rw [bit_shr (by omega) (by omega)] at c_20; exact orS_2 (by omega) hqn c_20)) (by omega)
  exact cut_6 ((16 - (0 : Int)).toNat + 1) 0 0 ls (lv_sub hl [2, 3, 4, 5, 1, 0] rfl) (by omega) (rfl) (Nat.lt_succ_self _)

set_option maxRecDepth 100000 in
set_option maxHeartbeats 4000000 in
theorem c_X7_checkOf (l : Launch) (G : zGt) (o0 : Nat) (a : Nat → Nat) (th mk bl hm rc lk lg kp fi lo wt gr eb ec ef iv : Int) (CK : Int → Int) (TX : Int → Int) (x y : Int) (hx : 0 ≤ x ∧ x < 6) (hck : 0 ≤ CK x ∧ CK x < 3) (hy : 0 ≤ y ∧ y ≤ 40) (htx : ∀ j : Int, 0 ≤ j ∧ j < y → 0 ≤ TX j ∧ TX j < 256) : Met l yX7_checkOf (Cond.code yX7_checkOf cX7_checkOf 6 (some .int) :: tb) ({ frames := 0, cells := 0, slots := 0, locals := 0 } : Room) (zPr G [(o0, ob 7 [vI th, .ref (a 1), .ref (a 2), .ref (a 3), .ref (a 4), .ref (a 5), vI mk, .ref (a 7), .ref (a 8), vI bl, .ref (a 10), vI hm, vI rc, .ref (a 13), .ref (a 14), .ref (a 15), vI lk, vI lg, vI kp, vI fi, vI lo, vI wt, .ref (a 22), .ref (a 23), .ref (a 24), .ref (a 25), .ref (a 26), vI gr, .ref (a 28), .ref (a 29), vI eb, vI ec, vI ef, vI iv]), ((a 3), aI G 6 CK), ((a 13), aI G 40 TX)] [.ref o0, vI x, vI y]) (vp_Si (fun r => r = iI (ckF (CK x) TX y.toNat))) 0 0 (fun _ => False) := by
  refine Met.ofW (cc := cX7_checkOf) (maxL := 6) (ret := (some .int)) (by decide) rfl ?_
  intro p e s m args below meth c s₁ B hml hv
  obtain ⟨rfl, hP, hK⟩ := hv
  obtain ⟨hC, hr, hlk⟩ := z_begin B hml
  have hC : CallFix p m c cX7_checkOf 6 s _ tb RX7 := hC
  have hx := hC.1
  have hb := hC.2.1
  have hl := lv_entry ([.ref o0, vI x, vI y]) (n := 6) (Nat.le_of_ble_eq_true rfl)
  rw [lg_entry_eq]
  generalize (lg_sl ([.ref o0, vI x, vI y]) ++ List.replicate (6 - (lg_sl ([.ref o0, vI x, vI y])).length) Slot.unset).toArray = ls at hl ⊢
  have hl : lv_has ls 6 [(0, .ref o0), (1, vI x), (2, vI y)] := hl
  refine lv_iconst (v := iI 0) hx hb dX7_checkOf_0 rfl ?_
  refine lv_istore_n (lv' := [(3, vI 0), (0, .ref o0), (1, vI x), (2, vI y)]) hx hb dX7_checkOf_1 rfl hl (by decide) rfl (fun ls hl => ?_)
  refine lv_iconst (v := iI 0) hx hb dX7_checkOf_2 rfl ?_
  refine lv_istore (lv' := [(4, vI 0), (3, vI 0), (0, .ref o0), (1, vI x), (2, vI y)]) hx hb dX7_checkOf_3 hl (by decide) rfl (fun ls hl => ?_)
  have cut_5 : ∀ (n_ : Nat) (qk : Int) (qv : Int) (ls : Array Slot), lv_has ls 6 [(0, .ref o0), (1, vI x), (2, vI y), (3, vI qv), (4, vI qk)] → (0 ≤ qk ∧ qk ≤ y) → (qv = ckF (CK x) TX qk.toNat) → (y - qk).toNat < n_ → W p l e (headSpec (Cond.code yX7_checkOf cX7_checkOf 6 (some .int) :: tb) ({ frames := 0, cells := 0, slots := 0, locals := 0 } : Room)).room s m ([.ref o0, vI x, vI y] : List Value).toArray below meth c s.heap [] 0 0 (MQ below (vp_Si (fun r => r = iI (ckF (CK x) TX y.toNat))) ([.ref o0, vI x, vI y] : List Value).toArray s 0 0 (fun _ => False)) (F0 m 5 ls []) := by
    intro n_
    induction n_ with
    | zero => exact fun qk qv ls hl hqk hqv hm_ => absurd hm_ (Nat.not_lt_zero _)
    | succ n_ ih_5 =>
      intro qk qv ls hl hqk hqv hm_
      have hqb : 0 ≤ qv ∧ qv < 256 := by rw [hqv]; exact ckF_bd _ (fun j hj => htx j (by omega))
      refine lv_iload hx hb dX7_checkOf_5 (lv_at hl 4 rfl) ?_
      refine lv_iload_n hx hb dX7_checkOf_7 rfl (lv_at hl 2 rfl) ?_
      refine z_icmp_ge (tgt := 101) hx hb dX7_checkOf_8 (by decide) (by omega) (fun c_8 => ?_) (fun c_8 => ?_)
      · refine lv_iload_n hx hb dX7_checkOf_101 rfl (lv_at hl 3 rfl) ?_
        exact z_iretR hC hr hlk (by rw [hqv, show qk = y by omega]) dX7_checkOf_102
      · have hqt := htx qk (by omega)
        refine lv_aload_n hx hb dX7_checkOf_11 rfl (lv_at hl 0 rfl) ?_
        refine z_get (v := .ref (a 3)) hC hK hP inX7 rfl 0 rfl 3 (by decide) tw_795 rfl dX7_checkOf_12 ?_
        refine lv_iload_n hx hb dX7_checkOf_15 rfl (lv_at hl 1 rfl) ?_
        refine z_iald hC hK hP 1 rfl (by omega) (by decide) dX7_checkOf_16 ?_
        refine z_if_ne (tgt := 37) hx hb dX7_checkOf_17 (by decide) (by omega) (fun c_17 => ?_) (fun c_17 => ?_)
        · refine lv_iload_n hx hb dX7_checkOf_37 rfl (lv_at hl 3 rfl) ?_
          refine lv_aload_n hx hb dX7_checkOf_38 rfl (lv_at hl 0 rfl) ?_
          refine z_get (v := .ref (a 13)) hC hK hP inX7 rfl 0 rfl 13 (by decide) tw_805 rfl dX7_checkOf_39 ?_
          refine lv_iload hx hb dX7_checkOf_42 (lv_at hl 4 rfl) ?_
          refine z_iald hC hK hP 2 rfl (by omega) (by decide) dX7_checkOf_44 ?_
          refine z_ixor hx hb dX7_checkOf_45 ?_
          refine lv_istore_n (lv' := [(3, vI (zxor qv (TX qk))), (0, .ref o0), (1, vI x), (2, vI y), (4, vI qk)]) hx hb dX7_checkOf_46 rfl hl (by decide) rfl (fun ls hl => ?_)
          refine lv_iconst (v := iI 0) hx hb dX7_checkOf_47 rfl ?_
          refine lv_istore (lv' := [(5, vI 0), (3, vI (zxor qv (TX qk))), (0, .ref o0), (1, vI x), (2, vI y), (4, vI qk)]) hx hb dX7_checkOf_48 hl (by decide) rfl (fun ls hl => ?_)
          have cut_50 : ∀ (n_ : Nat) (qi : Int) (qw : Int) (ls : Array Slot), lv_has ls 6 [(0, .ref o0), (1, vI x), (2, vI y), (3, vI qw), (4, vI qk), (5, vI qi)] → (0 ≤ qi ∧ qi ≤ 8) → (0 ≤ qw ∧ qw < 256) → ((CK x = 1 ∧ qi = 0 ∧ qw = zxor qv (TX qk)) ∨ (CK x = 2 ∧ qw = dbN (zxor qv (TX qk)) qi.toNat)) → (8 - qi).toNat < n_ → W p l e (headSpec (Cond.code yX7_checkOf cX7_checkOf 6 (some .int) :: tb) ({ frames := 0, cells := 0, slots := 0, locals := 0 } : Room)).room s m ([.ref o0, vI x, vI y] : List Value).toArray below meth c s.heap [] 0 0 (MQ below (vp_Si (fun r => r = iI (ckF (CK x) TX y.toNat))) ([.ref o0, vI x, vI y] : List Value).toArray s 0 0 (fun _ => False)) (F0 m 50 ls []) := by
            intro n_
            induction n_ with
            | zero => exact fun qi qw ls hl hqi hqwb hqw hm_ => absurd hm_ (Nat.not_lt_zero _)
            | succ n_ ih_50 =>
              intro qi qw ls hl hqi hqwb hqw hm_
              refine lv_iload hx hb dX7_checkOf_50 (lv_at hl 5 rfl) ?_
              refine lv_bipush (v := iI 8) hx hb dX7_checkOf_52 (by decide) ?_
              refine z_icmp_ge (tgt := 95) hx hb dX7_checkOf_54 (by decide) (by omega) (fun c_54 => ?_) (fun c_54 => ?_)
              · refine z_iinc (k := 4) (lv' := [(4, vI (qk + 1)), (0, .ref o0), (1, vI x), (2, vI y), (3, vI qw), (5, vI qi)]) hx hb dX7_checkOf_95 hl rfl (by decide) rfl (fun ls hl => ?_)
                refine lv_goto (tgt := 5) hx hb dX7_checkOf_98 (by decide) ?_
                exact ih_5 (qk + 1) qw ls (lv_sub hl [1, 2, 3, 4, 0] rfl) (by omega) (by rw [← ckF_s (by omega) hqv]; first | exact ckZ_0 c_17 | (rcases hqw with h | h; exact absurd h.2.1 (by omega); rw [h.2, show qi = 8 by omega]; exact ckZ_2 h.1 hqb hqt) | (rcases hqw with h | h; rw [h.2.2]; exact ckZ_1 h.1; exact absurd h.1 c_64)) (by omega)
              · refine lv_aload_n hx hb dX7_checkOf_57 rfl (lv_at hl 0 rfl) ?_
                refine z_get (v := .ref (a 3)) hC hK hP inX7 rfl 0 rfl 3 (by decide) tw_795 rfl dX7_checkOf_58 ?_
                refine lv_iload_n hx hb dX7_checkOf_61 rfl (lv_at hl 1 rfl) ?_
                refine z_iald hC hK hP 1 rfl (by omega) (by decide) dX7_checkOf_62 ?_
                refine lv_iconst (v := iI 2) hx hb dX7_checkOf_63 rfl ?_
                refine z_icmp_ne (tgt := 95) hx hb dX7_checkOf_64 (by decide) (by omega) (fun c_64 => ?_) (fun c_64 => ?_)
                · refine z_iinc (k := 4) (lv' := [(4, vI (qk + 1)), (0, .ref o0), (1, vI x), (2, vI y), (3, vI qw), (5, vI qi)]) hx hb dX7_checkOf_95 hl rfl (by decide) rfl (fun ls hl => ?_)
                  refine lv_goto (tgt := 5) hx hb dX7_checkOf_98 (by decide) ?_
                  exact ih_5 (qk + 1) qw ls (lv_sub hl [1, 2, 3, 4, 0] rfl) (by omega) (by rw [← ckF_s (by omega) hqv]; first | exact ckZ_0 c_17 | (rcases hqw with h | h; exact absurd h.2.1 (by omega); rw [h.2, show qi = 8 by omega]; exact ckZ_2 h.1 hqb hqt) | (rcases hqw with h | h; rw [h.2.2]; exact ckZ_1 h.1; exact absurd h.1 c_64)) (by omega)
                · refine lv_iload_n hx hb dX7_checkOf_67 rfl (lv_at hl 3 rfl) ?_
                  refine lv_iconst (v := iI 1) hx hb dX7_checkOf_68 rfl ?_
                  refine z_ishl hx hb dX7_checkOf_69 ?_
                  refine lv_sipush (v := iI 255) hx hb dX7_checkOf_70 (by decide) ?_
                  refine z_iand hx hb dX7_checkOf_73 ?_
                  refine lv_iload_n hx hb dX7_checkOf_74 rfl (lv_at hl 3 rfl) ?_
                  refine lv_sipush (v := iI 128) hx hb dX7_checkOf_75 (by decide) ?_
                  refine z_icmp_lt (tgt := 86) hx hb dX7_checkOf_78 (by decide) (by omega) (fun c_78 => ?_) (fun c_78 => ?_)
                  · refine lv_iconst (v := iI 0) hx hb dX7_checkOf_86 rfl ?_
                    refine z_ixor hx hb dX7_checkOf_87 ?_
                    refine lv_istore_n (lv' := [(3, vI (zxor (zand (zshl qw 1) 255) 0)), (0, .ref o0), (1, vI x), (2, vI y), (4, vI qk), (5, vI qi)]) hx hb dX7_checkOf_88 rfl hl (by decide) rfl (fun ls hl => ?_)
                    refine z_iinc (k := 5) (lv' := [(5, vI (qi + 1)), (3, vI (zxor (zand (zshl qw 1) 255) 0)), (0, .ref o0), (1, vI x), (2, vI y), (4, vI qk)]) hx hb dX7_checkOf_89 hl rfl (by decide) rfl (fun ls hl => ?_)
                    refine lv_goto (tgt := 50) hx hb dX7_checkOf_92 (by decide) ?_
                    exact ih_50 (qi + 1) (zxor (zand (zshl qw 1) 255) 0) ls (lv_sub hl [2, 3, 4, 1, 5, 0] rfl) (by omega) (by have h9 := dbZ_bd hqwb; unfold dbZ at h9; first | (rw [if_pos (by omega)] at h9; exact h9) | (rw [if_neg (by omega)] at h9; exact h9)) (by rcases hqw with h | h; exact absurd h.1 (by omega); refine Or.inr ⟨h.1, ?_⟩; rw [← dbN_s (by omega) h.2]; unfold dbZ; first | rw [if_pos (by omega)] | rw [if_neg (by omega)]) (by omega)
                  · refine lv_bipush (v := iI 7) hx hb dX7_checkOf_81 (by decide) ?_
                    refine lv_goto (tgt := 87) hx hb dX7_checkOf_83 (by decide) ?_
                    refine z_ixor hx hb dX7_checkOf_87 ?_
                    refine lv_istore_n (lv' := [(3, vI (zxor (zand (zshl qw 1) 255) 7)), (0, .ref o0), (1, vI x), (2, vI y), (4, vI qk), (5, vI qi)]) hx hb dX7_checkOf_88 rfl hl (by decide) rfl (fun ls hl => ?_)
                    refine z_iinc (k := 5) (lv' := [(5, vI (qi + 1)), (3, vI (zxor (zand (zshl qw 1) 255) 7)), (0, .ref o0), (1, vI x), (2, vI y), (4, vI qk)]) hx hb dX7_checkOf_89 hl rfl (by decide) rfl (fun ls hl => ?_)
                    refine lv_goto (tgt := 50) hx hb dX7_checkOf_92 (by decide) ?_
                    exact ih_50 (qi + 1) (zxor (zand (zshl qw 1) 255) 7) ls (lv_sub hl [2, 3, 4, 1, 5, 0] rfl) (by omega) (by have h9 := dbZ_bd hqwb; unfold dbZ at h9; first | (rw [if_pos (by omega)] at h9; exact h9) | (rw [if_neg (by omega)] at h9; exact h9)) (by rcases hqw with h | h; exact absurd h.1 (by omega); refine Or.inr ⟨h.1, ?_⟩; rw [← dbN_s (by omega) h.2]; unfold dbZ; first | rw [if_pos (by omega)] | rw [if_neg (by omega)]) (by omega)
          exact cut_50 ((8 - (0 : Int)).toNat + 1) 0 (zxor qv (TX qk)) ls (lv_sub hl [2, 3, 4, 1, 5, 0] rfl) (by omega) (zxor_bd 8 (by decide) hqb hqt) (by rcases (show CK x = 1 ∨ CK x = 2 by omega) with h | h; exact Or.inl ⟨h, rfl, rfl⟩; exact Or.inr ⟨h, rfl⟩) (Nat.lt_succ_self _)
        · refine lv_iload_n hx hb dX7_checkOf_20 rfl (lv_at hl 3 rfl) ?_
          refine lv_aload_n hx hb dX7_checkOf_21 rfl (lv_at hl 0 rfl) ?_
          refine z_get (v := .ref (a 13)) hC hK hP inX7 rfl 0 rfl 13 (by decide) tw_805 rfl dX7_checkOf_22 ?_
          refine lv_iload hx hb dX7_checkOf_25 (lv_at hl 4 rfl) ?_
          refine z_iald hC hK hP 2 rfl (by omega) (by decide) dX7_checkOf_27 ?_
          refine z_iadd hx hb dX7_checkOf_28 ?_
          refine lv_sipush (v := iI 255) hx hb dX7_checkOf_29 (by decide) ?_
          refine z_iand hx hb dX7_checkOf_32 ?_
          refine lv_istore_n (lv' := [(3, vI (zand (qv + (TX qk)) 255)), (0, .ref o0), (1, vI x), (2, vI y), (4, vI qk)]) hx hb dX7_checkOf_33 rfl hl (by decide) rfl (fun ls hl => ?_)
          refine lv_goto (tgt := 95) hx hb dX7_checkOf_34 (by decide) ?_
          refine z_iinc (k := 4) (lv' := [(4, vI (qk + 1)), (3, vI (zand (qv + (TX qk)) 255)), (0, .ref o0), (1, vI x), (2, vI y)]) hx hb dX7_checkOf_95 hl rfl (by decide) rfl (fun ls hl => ?_)
          refine lv_goto (tgt := 5) hx hb dX7_checkOf_98 (by decide) ?_
          exact ih_5 (qk + 1) (zand (qv + (TX qk)) 255) ls (lv_sub hl [2, 3, 4, 1, 0] rfl) (by omega) (by rw [← ckF_s (by omega) hqv]; first | exact ckZ_0 c_17 | (rcases hqw with h | h; exact absurd h.2.1 (by omega); rw [h.2, show qi = 8 by omega]; exact ckZ_2 h.1 hqb hqt) | (rcases hqw with h | h; rw [h.2.2]; exact ckZ_1 h.1; exact absurd h.1 c_64)) (by omega)
  exact cut_5 ((y - (0 : Int)).toNat + 1) 0 0 ls (lv_sub hl [2, 3, 4, 1, 0] rfl) (by omega) (rfl) (Nat.lt_succ_self _)

set_option maxRecDepth 100000 in
set_option maxHeartbeats 4000000 in
theorem c_X7_asFile (l : Launch) (G : zGt) (sz : Nat) (o0 : Nat) (a : Nat → Nat) (th mk bl hm rc lk lg kp fi lo wt gr eb ec ef iv : Int) (N1 : Int → Int) (N2 : Int → Int) (HA : Int → Int) (TX : Int → Int) (x : Int) (hx : 0 ≤ x ∧ x < 6) (hhm : 0 ≤ hm ∧ hm ≤ 36) : Met l yX7_asFile (Cond.code yX7_asFile cX7_asFile 3 (some .int) :: tb) ({ frames := 0, cells := 0, slots := 0, locals := 0 } : Room) (zPw G [(o0, ob 7 [vI th, .ref (a 1), .ref (a 2), .ref (a 3), .ref (a 4), .ref (a 5), vI mk, .ref (a 7), .ref (a 8), vI bl, .ref (a 10), vI hm, vI rc, .ref (a 13), .ref (a 14), .ref (a 15), vI lk, vI lg, vI kp, vI fi, vI lo, vI wt, .ref (a 22), .ref (a 23), .ref (a 24), .ref (a 25), .ref (a 26), vI gr, .ref (a 28), .ref (a 29), vI eb, vI ec, vI ef, vI iv]), ((a 1), aI G 6 N1), ((a 2), aI G 6 N2), ((a 10), aI G 36 HA), ((a 13), aI G 40 TX)] sz [.ref o0, vI x]) (va_Qi (fun (r : Int32) (u : (Int → Int)) => r = iI (3 + hm) ∧ ∀ j : Int, 0 ≤ j ∧ j < 3 + hm → u j = txA (N1 x) (N2 x) hm HA j) (fun (u : (Int → Int)) t => zB G [(o0, ob 7 [vI th, .ref (a 1), .ref (a 2), .ref (a 3), .ref (a 4), .ref (a 5), vI mk, .ref (a 7), .ref (a 8), vI bl, .ref (a 10), vI hm, vI rc, .ref (a 13), .ref (a 14), .ref (a 15), vI lk, vI lg, vI kp, vI fi, vI lo, vI wt, .ref (a 22), .ref (a 23), .ref (a 24), .ref (a 25), .ref (a 26), vI gr, .ref (a 28), .ref (a 29), vI eb, vI ec, vI ef, vI iv]), ((a 1), aI G 6 N1), ((a 2), aI G 6 N2), ((a 10), aI G 36 HA), ((a 13), aI G 40 TX)] sz [(o0, ob 7 [vI th, .ref (a 1), .ref (a 2), .ref (a 3), .ref (a 4), .ref (a 5), vI mk, .ref (a 7), .ref (a 8), vI bl, .ref (a 10), vI hm, vI rc, .ref (a 13), .ref (a 14), .ref (a 15), vI lk, vI lg, vI kp, vI fi, vI lo, vI wt, .ref (a 22), .ref (a 23), .ref (a 24), .ref (a 25), .ref (a 26), vI gr, .ref (a 28), .ref (a 29), vI eb, vI ec, vI ef, vI iv]), ((a 1), aI G 6 N1), ((a 2), aI G 6 N2), ((a 10), aI G 36 HA), ((a 13), aI G 40 u)] t) (va_A [(o0, ob 7 [vI th, .ref (a 1), .ref (a 2), .ref (a 3), .ref (a 4), .ref (a 5), vI mk, .ref (a 7), .ref (a 8), vI bl, .ref (a 10), vI hm, vI rc, .ref (a 13), .ref (a 14), .ref (a 15), vI lk, vI lg, vI kp, vI fi, vI lo, vI wt, .ref (a 22), .ref (a 23), .ref (a 24), .ref (a 25), .ref (a 26), vI gr, .ref (a 28), .ref (a 29), vI eb, vI ec, vI ef, vI iv]), ((a 1), aI G 6 N1), ((a 2), aI G 6 N2), ((a 10), aI G 36 HA), ((a 13), aI G 40 TX)] sz)) 0 0 (va_A [(o0, ob 7 [vI th, .ref (a 1), .ref (a 2), .ref (a 3), .ref (a 4), .ref (a 5), vI mk, .ref (a 7), .ref (a 8), vI bl, .ref (a 10), vI hm, vI rc, .ref (a 13), .ref (a 14), .ref (a 15), vI lk, vI lg, vI kp, vI fi, vI lo, vI wt, .ref (a 22), .ref (a 23), .ref (a 24), .ref (a 25), .ref (a 26), vI gr, .ref (a 28), .ref (a 29), vI eb, vI ec, vI ef, vI iv]), ((a 1), aI G 6 N1), ((a 2), aI G 6 N2), ((a 10), aI G 36 HA), ((a 13), aI G 40 TX)] sz) := by
  refine Met.ofW (cc := cX7_asFile) (maxL := 3) (ret := (some .int)) (by decide) rfl ?_
  intro p e s m args below meth c s₁ B hml hv
  obtain ⟨rfl, hsz, hP, hK, hD0⟩ := hv
  subst hsz
  have hD := hD0.self (sz := s.heap.size)
  obtain ⟨A, hAe⟩ : ∃ A : Nat → Prop, A = va_A [(o0, ob 7 [vI th, .ref (a 1), .ref (a 2), .ref (a 3), .ref (a 4), .ref (a 5), vI mk, .ref (a 7), .ref (a 8), vI bl, .ref (a 10), vI hm, vI rc, .ref (a 13), .ref (a 14), .ref (a 15), vI lk, vI lg, vI kp, vI fi, vI lo, vI wt, .ref (a 22), .ref (a 23), .ref (a 24), .ref (a 25), .ref (a 26), vI gr, .ref (a 28), .ref (a 29), vI eb, vI ec, vI ef, vI iv]), ((a 1), aI G 6 N1), ((a 2), aI G 6 N2), ((a 10), aI G 36 HA), ((a 13), aI G 40 TX)] s.heap.size := ⟨_, rfl⟩
  rw [← hAe] at hD
  have hA : ∀ q : Nat, s.heap.size ≤ q → A q := fun q h => by rw [hAe]; exact Or.inr h
  have hS : va_S A s.heap s.heap [] := va_S.rf
  obtain ⟨hC, hr, hlk⟩ := z_begin B hml
  have hC : CallFix p m c cX7_asFile 3 s _ tb RX7 := hC
  have hx := hC.1
  have hb := hC.2.1
  have hl := lv_entry ([.ref o0, vI x]) (n := 3) (Nat.le_of_ble_eq_true rfl)
  rw [lg_entry_eq]
  generalize (lg_sl ([.ref o0, vI x]) ++ List.replicate (3 - (lg_sl ([.ref o0, vI x])).length) Slot.unset).toArray = ls at hl ⊢
  have hl : lv_has ls 3 [(0, .ref o0), (1, vI x)] := hl
  obtain ⟨H, hHe⟩ : ∃ H : Heap, H = s.heap := ⟨_, rfl⟩
  obtain ⟨locs, hLe⟩ : ∃ L : List Loc, L = [] := ⟨_, rfl⟩
  suffices hgo : W p l e (headSpec (Cond.code yX7_asFile cX7_asFile 3 (some .int) :: tb) ({ frames := 0, cells := 0, slots := 0, locals := 0 } : Room)).room s m ([.ref o0, vI x] : List Value).toArray below meth c H locs 0 0 (MQ below (va_Qi (fun (r : Int32) (u : (Int → Int)) => r = iI (3 + hm) ∧ ∀ j : Int, 0 ≤ j ∧ j < 3 + hm → u j = txA (N1 x) (N2 x) hm HA j) (fun (u : (Int → Int)) t => zB G [(o0, ob 7 [vI th, .ref (a 1), .ref (a 2), .ref (a 3), .ref (a 4), .ref (a 5), vI mk, .ref (a 7), .ref (a 8), vI bl, .ref (a 10), vI hm, vI rc, .ref (a 13), .ref (a 14), .ref (a 15), vI lk, vI lg, vI kp, vI fi, vI lo, vI wt, .ref (a 22), .ref (a 23), .ref (a 24), .ref (a 25), .ref (a 26), vI gr, .ref (a 28), .ref (a 29), vI eb, vI ec, vI ef, vI iv]), ((a 1), aI G 6 N1), ((a 2), aI G 6 N2), ((a 10), aI G 36 HA), ((a 13), aI G 40 TX)] s.heap.size [(o0, ob 7 [vI th, .ref (a 1), .ref (a 2), .ref (a 3), .ref (a 4), .ref (a 5), vI mk, .ref (a 7), .ref (a 8), vI bl, .ref (a 10), vI hm, vI rc, .ref (a 13), .ref (a 14), .ref (a 15), vI lk, vI lg, vI kp, vI fi, vI lo, vI wt, .ref (a 22), .ref (a 23), .ref (a 24), .ref (a 25), .ref (a 26), vI gr, .ref (a 28), .ref (a 29), vI eb, vI ec, vI ef, vI iv]), ((a 1), aI G 6 N1), ((a 2), aI G 6 N2), ((a 10), aI G 36 HA), ((a 13), aI G 40 u)] t) (va_A [(o0, ob 7 [vI th, .ref (a 1), .ref (a 2), .ref (a 3), .ref (a 4), .ref (a 5), vI mk, .ref (a 7), .ref (a 8), vI bl, .ref (a 10), vI hm, vI rc, .ref (a 13), .ref (a 14), .ref (a 15), vI lk, vI lg, vI kp, vI fi, vI lo, vI wt, .ref (a 22), .ref (a 23), .ref (a 24), .ref (a 25), .ref (a 26), vI gr, .ref (a 28), .ref (a 29), vI eb, vI ec, vI ef, vI iv]), ((a 1), aI G 6 N1), ((a 2), aI G 6 N2), ((a 10), aI G 36 HA), ((a 13), aI G 40 TX)] s.heap.size)) ([.ref o0, vI x] : List Value).toArray s 0 0 (va_A [(o0, ob 7 [vI th, .ref (a 1), .ref (a 2), .ref (a 3), .ref (a 4), .ref (a 5), vI mk, .ref (a 7), .ref (a 8), vI bl, .ref (a 10), vI hm, vI rc, .ref (a 13), .ref (a 14), .ref (a 15), vI lk, vI lg, vI kp, vI fi, vI lo, vI wt, .ref (a 22), .ref (a 23), .ref (a 24), .ref (a 25), .ref (a 26), vI gr, .ref (a 28), .ref (a 29), vI eb, vI ec, vI ef, vI iv]), ((a 1), aI G 6 N1), ((a 2), aI G 6 N2), ((a 10), aI G 36 HA), ((a 13), aI G 40 TX)] s.heap.size)) (F0 m 0 ls []) by rw [hHe, hLe] at hgo; exact hgo
  rw [← hHe] at hP
  have hS : va_S A s.heap H locs := by rw [hHe, hLe]; exact hS
  clear hHe hLe
  refine lv_aload_n hx hb dX7_asFile_0 rfl (lv_at hl 0 rfl) ?_
  refine z_get (v := .ref (a 13)) hC hK hP inX7 rfl 0 rfl 13 (by decide) tw_805 rfl dX7_asFile_1 ?_
  refine lv_iconst (v := iI 0) hx hb dX7_asFile_4 rfl ?_
  refine lv_aload_n hx hb dX7_asFile_5 rfl (lv_at hl 0 rfl) ?_
  refine z_get (v := .ref (a 1)) hC hK hP inX7 rfl 0 rfl 1 (by decide) tw_793 rfl dX7_asFile_6 ?_
  refine lv_iload_n hx hb dX7_asFile_9 rfl (lv_at hl 1 rfl) ?_
  refine z_iald hC hK hP 1 rfl (by omega) (by decide) dX7_asFile_10 ?_
  refine z_iast (ws' := [(o0, ob 7 [vI th, .ref (a 1), .ref (a 2), .ref (a 3), .ref (a 4), .ref (a 5), vI mk, .ref (a 7), .ref (a 8), vI bl, .ref (a 10), vI hm, vI rc, .ref (a 13), .ref (a 14), .ref (a 15), vI lk, vI lg, vI kp, vI fi, vI lo, vI wt, .ref (a 22), .ref (a 23), .ref (a 24), .ref (a 25), .ref (a 26), vI gr, .ref (a 28), .ref (a 29), vI eb, vI ec, vI ef, vI iv]), ((a 1), aI G 6 N1), ((a 2), aI G 6 N2), ((a 10), aI G 36 HA), ((a 13), aI G 40 (zup TX 0 (N1 x)))]) hC hK hP hD hS 4 rfl (by omega) (by decide) rfl dX7_asFile_11 (fun H locs hP hD hS => ?_)
  refine lv_aload_n hx hb dX7_asFile_12 rfl (lv_at hl 0 rfl) ?_
  refine z_get (v := .ref (a 13)) hC hK hP inX7 rfl 0 rfl 13 (by decide) tw_805 rfl dX7_asFile_13 ?_
  refine lv_iconst (v := iI 1) hx hb dX7_asFile_16 rfl ?_
  refine lv_aload_n hx hb dX7_asFile_17 rfl (lv_at hl 0 rfl) ?_
  refine z_get (v := .ref (a 2)) hC hK hP inX7 rfl 0 rfl 2 (by decide) tw_794 rfl dX7_asFile_18 ?_
  refine lv_iload_n hx hb dX7_asFile_21 rfl (lv_at hl 1 rfl) ?_
  refine z_iald hC hK hP 2 rfl (by omega) (by decide) dX7_asFile_22 ?_
  refine z_iast (ws' := [(o0, ob 7 [vI th, .ref (a 1), .ref (a 2), .ref (a 3), .ref (a 4), .ref (a 5), vI mk, .ref (a 7), .ref (a 8), vI bl, .ref (a 10), vI hm, vI rc, .ref (a 13), .ref (a 14), .ref (a 15), vI lk, vI lg, vI kp, vI fi, vI lo, vI wt, .ref (a 22), .ref (a 23), .ref (a 24), .ref (a 25), .ref (a 26), vI gr, .ref (a 28), .ref (a 29), vI eb, vI ec, vI ef, vI iv]), ((a 1), aI G 6 N1), ((a 2), aI G 6 N2), ((a 10), aI G 36 HA), ((a 13), aI G 40 (zup (zup TX 0 (N1 x)) 1 (N2 x)))]) hC hK hP hD hS 4 rfl (by omega) (by decide) rfl dX7_asFile_23 (fun H locs hP hD hS => ?_)
  refine lv_aload_n hx hb dX7_asFile_24 rfl (lv_at hl 0 rfl) ?_
  refine z_get (v := .ref (a 13)) hC hK hP inX7 rfl 0 rfl 13 (by decide) tw_805 rfl dX7_asFile_25 ?_
  refine lv_iconst (v := iI 2) hx hb dX7_asFile_28 rfl ?_
  refine lv_aload_n hx hb dX7_asFile_29 rfl (lv_at hl 0 rfl) ?_
  refine z_get (v := vI hm) hC hK hP inX7 rfl 0 rfl 11 (by decide) tw_803 rfl dX7_asFile_30 ?_
  refine z_iast (ws' := [(o0, ob 7 [vI th, .ref (a 1), .ref (a 2), .ref (a 3), .ref (a 4), .ref (a 5), vI mk, .ref (a 7), .ref (a 8), vI bl, .ref (a 10), vI hm, vI rc, .ref (a 13), .ref (a 14), .ref (a 15), vI lk, vI lg, vI kp, vI fi, vI lo, vI wt, .ref (a 22), .ref (a 23), .ref (a 24), .ref (a 25), .ref (a 26), vI gr, .ref (a 28), .ref (a 29), vI eb, vI ec, vI ef, vI iv]), ((a 1), aI G 6 N1), ((a 2), aI G 6 N2), ((a 10), aI G 36 HA), ((a 13), aI G 40 (zup (zup (zup TX 0 (N1 x)) 1 (N2 x)) 2 hm))]) hC hK hP hD hS 4 rfl (by omega) (by decide) rfl dX7_asFile_33 (fun H locs hP hD hS => ?_)
  refine lv_iconst (v := iI 0) hx hb dX7_asFile_34 rfl ?_
  refine lv_istore_n (lv' := [(2, vI 0), (0, .ref o0), (1, vI x)]) hx hb dX7_asFile_35 rfl hl (by decide) rfl (fun ls hl => ?_)
  have cut_36 : ∀ (n_ : Nat) (qk : Int) (qT : Int → Int) (H : Heap) (locs : List Loc) (ls : Array Slot), va_P G.1 vwCl [(o0, ob 7 [vI th, .ref (a 1), .ref (a 2), .ref (a 3), .ref (a 4), .ref (a 5), vI mk, .ref (a 7), .ref (a 8), vI bl, .ref (a 10), vI hm, vI rc, .ref (a 13), .ref (a 14), .ref (a 15), vI lk, vI lg, vI kp, vI fi, vI lo, vI wt, .ref (a 22), .ref (a 23), .ref (a 24), .ref (a 25), .ref (a 26), vI gr, .ref (a 28), .ref (a 29), vI eb, vI ec, vI ef, vI iv]), ((a 1), aI G 6 N1), ((a 2), aI G 6 N2), ((a 10), aI G 36 HA), ((a 13), aI G 40 qT)] H → va_D A [(o0, ob 7 [vI th, .ref (a 1), .ref (a 2), .ref (a 3), .ref (a 4), .ref (a 5), vI mk, .ref (a 7), .ref (a 8), vI bl, .ref (a 10), vI hm, vI rc, .ref (a 13), .ref (a 14), .ref (a 15), vI lk, vI lg, vI kp, vI fi, vI lo, vI wt, .ref (a 22), .ref (a 23), .ref (a 24), .ref (a 25), .ref (a 26), vI gr, .ref (a 28), .ref (a 29), vI eb, vI ec, vI ef, vI iv]), ((a 1), aI G 6 N1), ((a 2), aI G 6 N2), ((a 10), aI G 36 HA), ((a 13), aI G 40 qT)] → va_S A s.heap H locs → lv_has ls 3 [(0, .ref o0), (1, vI x), (2, vI qk)] → (0 ≤ qk ∧ qk ≤ hm) → (∀ j : Int, 0 ≤ j ∧ j < 3 + qk → qT j = txA (N1 x) (N2 x) hm HA j) → (hm - qk).toNat < n_ → W p l e (headSpec (Cond.code yX7_asFile cX7_asFile 3 (some .int) :: tb) ({ frames := 0, cells := 0, slots := 0, locals := 0 } : Room)).room s m ([.ref o0, vI x] : List Value).toArray below meth c H locs 0 0 (MQ below (va_Qi (fun (r : Int32) (u : (Int → Int)) => r = iI (3 + hm) ∧ ∀ j : Int, 0 ≤ j ∧ j < 3 + hm → u j = txA (N1 x) (N2 x) hm HA j) (fun (u : (Int → Int)) t => zB G [(o0, ob 7 [vI th, .ref (a 1), .ref (a 2), .ref (a 3), .ref (a 4), .ref (a 5), vI mk, .ref (a 7), .ref (a 8), vI bl, .ref (a 10), vI hm, vI rc, .ref (a 13), .ref (a 14), .ref (a 15), vI lk, vI lg, vI kp, vI fi, vI lo, vI wt, .ref (a 22), .ref (a 23), .ref (a 24), .ref (a 25), .ref (a 26), vI gr, .ref (a 28), .ref (a 29), vI eb, vI ec, vI ef, vI iv]), ((a 1), aI G 6 N1), ((a 2), aI G 6 N2), ((a 10), aI G 36 HA), ((a 13), aI G 40 TX)] s.heap.size [(o0, ob 7 [vI th, .ref (a 1), .ref (a 2), .ref (a 3), .ref (a 4), .ref (a 5), vI mk, .ref (a 7), .ref (a 8), vI bl, .ref (a 10), vI hm, vI rc, .ref (a 13), .ref (a 14), .ref (a 15), vI lk, vI lg, vI kp, vI fi, vI lo, vI wt, .ref (a 22), .ref (a 23), .ref (a 24), .ref (a 25), .ref (a 26), vI gr, .ref (a 28), .ref (a 29), vI eb, vI ec, vI ef, vI iv]), ((a 1), aI G 6 N1), ((a 2), aI G 6 N2), ((a 10), aI G 36 HA), ((a 13), aI G 40 u)] t) (va_A [(o0, ob 7 [vI th, .ref (a 1), .ref (a 2), .ref (a 3), .ref (a 4), .ref (a 5), vI mk, .ref (a 7), .ref (a 8), vI bl, .ref (a 10), vI hm, vI rc, .ref (a 13), .ref (a 14), .ref (a 15), vI lk, vI lg, vI kp, vI fi, vI lo, vI wt, .ref (a 22), .ref (a 23), .ref (a 24), .ref (a 25), .ref (a 26), vI gr, .ref (a 28), .ref (a 29), vI eb, vI ec, vI ef, vI iv]), ((a 1), aI G 6 N1), ((a 2), aI G 6 N2), ((a 10), aI G 36 HA), ((a 13), aI G 40 TX)] s.heap.size)) ([.ref o0, vI x] : List Value).toArray s 0 0 (va_A [(o0, ob 7 [vI th, .ref (a 1), .ref (a 2), .ref (a 3), .ref (a 4), .ref (a 5), vI mk, .ref (a 7), .ref (a 8), vI bl, .ref (a 10), vI hm, vI rc, .ref (a 13), .ref (a 14), .ref (a 15), vI lk, vI lg, vI kp, vI fi, vI lo, vI wt, .ref (a 22), .ref (a 23), .ref (a 24), .ref (a 25), .ref (a 26), vI gr, .ref (a 28), .ref (a 29), vI eb, vI ec, vI ef, vI iv]), ((a 1), aI G 6 N1), ((a 2), aI G 6 N2), ((a 10), aI G 36 HA), ((a 13), aI G 40 TX)] s.heap.size)) (F0 m 36 ls []) := by
    intro n_
    induction n_ with
    | zero => exact fun qk qT H locs ls hP hD hS hl hqk hqT hm_ => absurd hm_ (Nat.not_lt_zero _)
    | succ n_ ih_36 =>
      intro qk qT H locs ls hP hD hS hl hqk hqT hm_
      refine lv_iload_n hx hb dX7_asFile_36 rfl (lv_at hl 2 rfl) ?_
      refine lv_aload_n hx hb dX7_asFile_37 rfl (lv_at hl 0 rfl) ?_
      refine z_get (v := vI hm) hC hK hP inX7 rfl 0 rfl 11 (by decide) tw_803 rfl dX7_asFile_38 ?_
      refine z_icmp_ge (tgt := 64) hx hb dX7_asFile_41 (by decide) (by omega) (fun c_41 => ?_) (fun c_41 => ?_)
      · refine lv_iconst (v := iI 3) hx hb dX7_asFile_64 rfl ?_
        refine lv_aload_n hx hb dX7_asFile_65 rfl (lv_at hl 0 rfl) ?_
        refine z_get (v := vI hm) hC hK hP inX7 rfl 0 rfl 11 (by decide) tw_803 rfl dX7_asFile_66 ?_
        refine z_iadd hx hb dX7_asFile_69 ?_
        exact z_iretW hC hr hlk qT hAe hP hD hS [0, 1, 2, 3, 4] (by decide) rfl rfl (⟨rfl, fun j hj => hqT j (by omega)⟩) dX7_asFile_70
      · refine lv_aload_n hx hb dX7_asFile_44 rfl (lv_at hl 0 rfl) ?_
        refine z_get (v := .ref (a 13)) hC hK hP inX7 rfl 0 rfl 13 (by decide) tw_805 rfl dX7_asFile_45 ?_
        refine lv_iconst (v := iI 3) hx hb dX7_asFile_48 rfl ?_
        refine lv_iload_n hx hb dX7_asFile_49 rfl (lv_at hl 2 rfl) ?_
        refine z_iadd hx hb dX7_asFile_50 ?_
        refine lv_aload_n hx hb dX7_asFile_51 rfl (lv_at hl 0 rfl) ?_
        refine z_get (v := .ref (a 10)) hC hK hP inX7 rfl 0 rfl 10 (by decide) tw_802 rfl dX7_asFile_52 ?_
        refine lv_iload_n hx hb dX7_asFile_55 rfl (lv_at hl 2 rfl) ?_
        refine z_iald hC hK hP 3 rfl (by omega) (by decide) dX7_asFile_56 ?_
        refine z_iast (ws' := [(o0, ob 7 [vI th, .ref (a 1), .ref (a 2), .ref (a 3), .ref (a 4), .ref (a 5), vI mk, .ref (a 7), .ref (a 8), vI bl, .ref (a 10), vI hm, vI rc, .ref (a 13), .ref (a 14), .ref (a 15), vI lk, vI lg, vI kp, vI fi, vI lo, vI wt, .ref (a 22), .ref (a 23), .ref (a 24), .ref (a 25), .ref (a 26), vI gr, .ref (a 28), .ref (a 29), vI eb, vI ec, vI ef, vI iv]), ((a 1), aI G 6 N1), ((a 2), aI G 6 N2), ((a 10), aI G 36 HA), ((a 13), aI G 40 (zup qT (3 + qk) (HA qk)))]) hC hK hP hD hS 4 rfl (by omega) (by decide) rfl dX7_asFile_57 (fun H locs hP hD hS => ?_)
        refine z_iinc (k := 2) (lv' := [(2, vI (qk + 1)), (0, .ref o0), (1, vI x)]) hx hb dX7_asFile_58 hl rfl (by decide) rfl (fun ls hl => ?_)
        refine lv_goto (tgt := 36) hx hb dX7_asFile_61 (by decide) ?_
        exact ih_36 (qk + 1) (zup qT (3 + qk) (HA qk)) H locs ls hP hD hS (lv_sub hl [1, 2, 0] rfl) (by omega) (fun j hj => by rcases (show j = 3 + qk ∨ j < 3 + qk by omega) with h | h; rw [h, zup_s]; unfold txA; rw [if_pos (by omega), show 3 + qk - 3 = qk by omega]; rw [zup_n _ _ (by omega)]; exact hqT j (by omega)) (by omega)
  exact cut_36 ((hm - (0 : Int)).toNat + 1) 0 (zup (zup (zup TX 0 (N1 x)) 1 (N2 x)) 2 hm) H locs ls hP hD hS (lv_sub hl [1, 2, 0] rfl) (by omega) (fun j hj => by rcases (show j = 0 ∨ j = 1 ∨ j = 2 by omega) with h | h | h <;> subst h <;> rfl) (Nat.lt_succ_self _)

set_option maxRecDepth 100000 in
set_option maxHeartbeats 4000000 in
theorem c_X7_check_1 (l : Launch) (G : zGt) (sz : Nat) (o0 : Nat) (a : Nat → Nat) (th mk bl hm rc lk lg kp fi lo wt gr eb ec ef iv : Int) (x : Int) (hmk : 0 ≤ mk ∧ mk ≤ 6) (hx : -2147483648 ≤ x ∧ x < 2147483648) (hno : ¬ (0 ≤ x ∧ x < mk)) : Met l yX7_check (Cond.code yX7_check cX7_check 2 (some .int) :: tb) ({ frames := 1, cells := 0, slots := 0, locals := 21 } : Room) (zPw G [(o0, ob 7 [vI th, .ref (a 1), .ref (a 2), .ref (a 3), .ref (a 4), .ref (a 5), vI mk, .ref (a 7), .ref (a 8), vI bl, .ref (a 10), vI hm, vI rc, .ref (a 13), .ref (a 14), .ref (a 15), vI lk, vI lg, vI kp, vI fi, vI lo, vI wt, .ref (a 22), .ref (a 23), .ref (a 24), .ref (a 25), .ref (a 26), vI gr, .ref (a 28), .ref (a 29), vI eb, vI ec, vI ef, vI iv])] sz [.ref o0, vI x]) (va_Qi (fun (r : Int32) (u : Unit) => r = iI 0 ∧ True) (fun (u : Unit) t => zB G [(o0, ob 7 [vI th, .ref (a 1), .ref (a 2), .ref (a 3), .ref (a 4), .ref (a 5), vI mk, .ref (a 7), .ref (a 8), vI bl, .ref (a 10), vI hm, vI rc, .ref (a 13), .ref (a 14), .ref (a 15), vI lk, vI lg, vI kp, vI fi, vI lo, vI wt, .ref (a 22), .ref (a 23), .ref (a 24), .ref (a 25), .ref (a 26), vI gr, .ref (a 28), .ref (a 29), vI eb, vI ec, vI ef, vI iv])] sz [(o0, ob 7 [vI 1, .ref (a 1), .ref (a 2), .ref (a 3), .ref (a 4), .ref (a 5), vI mk, .ref (a 7), .ref (a 8), vI bl, .ref (a 10), vI hm, vI rc, .ref (a 13), .ref (a 14), .ref (a 15), vI lk, vI lg, vI kp, vI fi, vI lo, vI wt, .ref (a 22), .ref (a 23), .ref (a 24), .ref (a 25), .ref (a 26), vI gr, .ref (a 28), .ref (a 29), vI eb, vI ec, vI ef, vI iv])] t) (va_A [(o0, ob 7 [vI th, .ref (a 1), .ref (a 2), .ref (a 3), .ref (a 4), .ref (a 5), vI mk, .ref (a 7), .ref (a 8), vI bl, .ref (a 10), vI hm, vI rc, .ref (a 13), .ref (a 14), .ref (a 15), vI lk, vI lg, vI kp, vI fi, vI lo, vI wt, .ref (a 22), .ref (a 23), .ref (a 24), .ref (a 25), .ref (a 26), vI gr, .ref (a 28), .ref (a 29), vI eb, vI ec, vI ef, vI iv])] sz)) 0 0 (va_A [(o0, ob 7 [vI th, .ref (a 1), .ref (a 2), .ref (a 3), .ref (a 4), .ref (a 5), vI mk, .ref (a 7), .ref (a 8), vI bl, .ref (a 10), vI hm, vI rc, .ref (a 13), .ref (a 14), .ref (a 15), vI lk, vI lg, vI kp, vI fi, vI lo, vI wt, .ref (a 22), .ref (a 23), .ref (a 24), .ref (a 25), .ref (a 26), vI gr, .ref (a 28), .ref (a 29), vI eb, vI ec, vI ef, vI iv])] sz) := by
  refine Met.ofW (cc := cX7_check) (maxL := 2) (ret := (some .int)) (by decide) rfl ?_
  intro p e s m args below meth c s₁ B hml hv
  obtain ⟨rfl, hsz, hP, hK, hD0⟩ := hv
  subst hsz
  have hD := hD0.self (sz := s.heap.size)
  obtain ⟨A, hAe⟩ : ∃ A : Nat → Prop, A = va_A [(o0, ob 7 [vI th, .ref (a 1), .ref (a 2), .ref (a 3), .ref (a 4), .ref (a 5), vI mk, .ref (a 7), .ref (a 8), vI bl, .ref (a 10), vI hm, vI rc, .ref (a 13), .ref (a 14), .ref (a 15), vI lk, vI lg, vI kp, vI fi, vI lo, vI wt, .ref (a 22), .ref (a 23), .ref (a 24), .ref (a 25), .ref (a 26), vI gr, .ref (a 28), .ref (a 29), vI eb, vI ec, vI ef, vI iv])] s.heap.size := ⟨_, rfl⟩
  rw [← hAe] at hD
  have hA : ∀ q : Nat, s.heap.size ≤ q → A q := fun q h => by rw [hAe]; exact Or.inr h
  have hS : va_S A s.heap s.heap [] := va_S.rf
  obtain ⟨hC, hr, hlk⟩ := z_begin B hml
  have hC : CallFix p m c cX7_check 2 s _ tb RX7 := hC
  have hx := hC.1
  have hb := hC.2.1
  have hl := lv_entry ([.ref o0, vI x]) (n := 2) (Nat.le_of_ble_eq_true rfl)
  rw [lg_entry_eq]
  generalize (lg_sl ([.ref o0, vI x]) ++ List.replicate (2 - (lg_sl ([.ref o0, vI x])).length) Slot.unset).toArray = ls at hl ⊢
  have hl : lv_has ls 2 [(0, .ref o0), (1, vI x)] := hl
  obtain ⟨H, hHe⟩ : ∃ H : Heap, H = s.heap := ⟨_, rfl⟩
  obtain ⟨locs, hLe⟩ : ∃ L : List Loc, L = [] := ⟨_, rfl⟩
  suffices hgo : W p l e (headSpec (Cond.code yX7_check cX7_check 2 (some .int) :: tb) ({ frames := 1, cells := 0, slots := 0, locals := 21 } : Room)).room s m ([.ref o0, vI x] : List Value).toArray below meth c H locs 0 0 (MQ below (va_Qi (fun (r : Int32) (u : Unit) => r = iI 0 ∧ True) (fun (u : Unit) t => zB G [(o0, ob 7 [vI th, .ref (a 1), .ref (a 2), .ref (a 3), .ref (a 4), .ref (a 5), vI mk, .ref (a 7), .ref (a 8), vI bl, .ref (a 10), vI hm, vI rc, .ref (a 13), .ref (a 14), .ref (a 15), vI lk, vI lg, vI kp, vI fi, vI lo, vI wt, .ref (a 22), .ref (a 23), .ref (a 24), .ref (a 25), .ref (a 26), vI gr, .ref (a 28), .ref (a 29), vI eb, vI ec, vI ef, vI iv])] s.heap.size [(o0, ob 7 [vI 1, .ref (a 1), .ref (a 2), .ref (a 3), .ref (a 4), .ref (a 5), vI mk, .ref (a 7), .ref (a 8), vI bl, .ref (a 10), vI hm, vI rc, .ref (a 13), .ref (a 14), .ref (a 15), vI lk, vI lg, vI kp, vI fi, vI lo, vI wt, .ref (a 22), .ref (a 23), .ref (a 24), .ref (a 25), .ref (a 26), vI gr, .ref (a 28), .ref (a 29), vI eb, vI ec, vI ef, vI iv])] t) (va_A [(o0, ob 7 [vI th, .ref (a 1), .ref (a 2), .ref (a 3), .ref (a 4), .ref (a 5), vI mk, .ref (a 7), .ref (a 8), vI bl, .ref (a 10), vI hm, vI rc, .ref (a 13), .ref (a 14), .ref (a 15), vI lk, vI lg, vI kp, vI fi, vI lo, vI wt, .ref (a 22), .ref (a 23), .ref (a 24), .ref (a 25), .ref (a 26), vI gr, .ref (a 28), .ref (a 29), vI eb, vI ec, vI ef, vI iv])] s.heap.size)) ([.ref o0, vI x] : List Value).toArray s 0 0 (va_A [(o0, ob 7 [vI th, .ref (a 1), .ref (a 2), .ref (a 3), .ref (a 4), .ref (a 5), vI mk, .ref (a 7), .ref (a 8), vI bl, .ref (a 10), vI hm, vI rc, .ref (a 13), .ref (a 14), .ref (a 15), vI lk, vI lg, vI kp, vI fi, vI lo, vI wt, .ref (a 22), .ref (a 23), .ref (a 24), .ref (a 25), .ref (a 26), vI gr, .ref (a 28), .ref (a 29), vI eb, vI ec, vI ef, vI iv])] s.heap.size)) (F0 m 0 ls []) by rw [hHe, hLe] at hgo; exact hgo
  rw [← hHe] at hP
  have hS : va_S A s.heap H locs := by rw [hHe, hLe]; exact hS
  clear hHe hLe
  refine lv_aload_n hx hb dX7_check_0 rfl (lv_at hl 0 rfl) ?_
  refine lv_iload_n hx hb dX7_check_1 rfl (lv_at hl 1 rfl) ?_
  refine z_wVi (q0 := 0) (ci := 7) (b := o0) (rest := []) (wr := []) hC hK hP hD hS hA (c_X7_isMake_f l G H.size o0 a th mk bl hm rc lk lg kp fi lo wt gr eb ec ef iv x (by omega) (by omega) (hno)) mv_X7_isMake tw_914 [0] [] rfl rfl rfl rfl (by decide) rfl rfl rfl rfl hl.1 rfl (Nat.le_of_ble_eq_true rfl) ⟨rfl, rfl, Nat.le_of_ble_eq_true rfl, Nat.le_of_ble_eq_true rfl⟩ ⟨Nat.le_of_ble_eq_true rfl, Nat.le_of_ble_eq_true rfl⟩ dX7_check_2 (fun r u H locs hw hP hD hS => ?_)
  have hP : va_P G.1 vwCl [(o0, ob 7 [vI 1, .ref (a 1), .ref (a 2), .ref (a 3), .ref (a 4), .ref (a 5), vI mk, .ref (a 7), .ref (a 8), vI bl, .ref (a 10), vI hm, vI rc, .ref (a 13), .ref (a 14), .ref (a 15), vI lk, vI lg, vI kp, vI fi, vI lo, vI wt, .ref (a 22), .ref (a 23), .ref (a 24), .ref (a 25), .ref (a 26), vI gr, .ref (a 28), .ref (a 29), vI eb, vI ec, vI ef, vI iv])] H := hP
  have hD : va_D A [(o0, ob 7 [vI 1, .ref (a 1), .ref (a 2), .ref (a 3), .ref (a 4), .ref (a 5), vI mk, .ref (a 7), .ref (a 8), vI bl, .ref (a 10), vI hm, vI rc, .ref (a 13), .ref (a 14), .ref (a 15), vI lk, vI lg, vI kp, vI fi, vI lo, vI wt, .ref (a 22), .ref (a 23), .ref (a 24), .ref (a 25), .ref (a 26), vI gr, .ref (a 28), .ref (a 29), vI eb, vI ec, vI ef, vI iv])] := hD
  obtain ⟨hrw_, hw_1⟩ := hw
  rw [hrw_]
  clear hrw_
  clear hw_1
  refine z_if_ne (tgt := 10) hx hb dX7_check_5 (by decide) (by omega) (fun c_5 => ?_) (fun c_5 => ?_)
  · exact absurd c_5 (by decide)
  · refine lv_iconst (v := iI 0) hx hb dX7_check_8 rfl ?_
    exact z_iretW hC hr hlk () hAe hP hD hS [0] (by decide) rfl rfl (⟨rfl, trivial⟩) dX7_check_9

set_option maxRecDepth 100000 in
set_option maxHeartbeats 4000000 in
theorem c_X7_check_0 (l : Launch) (G : zGt) (sz : Nat) (o0 : Nat) (a : Nat → Nat) (th mk bl hm rc lk lg kp fi lo wt gr eb ec ef iv : Int) (N1 : Int → Int) (N2 : Int → Int) (CK : Int → Int) (HA : Int → Int) (TX : Int → Int) (x : Int) (hmk : 0 ≤ mk ∧ mk ≤ 6) (hx : 0 ≤ x ∧ x < mk) (hhm : 0 ≤ hm ∧ hm ≤ 36) (hck : 0 ≤ CK x ∧ CK x < 3) (hnn : (0 ≤ N1 x ∧ N1 x < 256) ∧ (0 ≤ N2 x ∧ N2 x < 256)) (hhb : ∀ j : Int, 0 ≤ j ∧ j < hm → 0 ≤ HA j ∧ HA j < 256) : Met l yX7_check (Cond.code yX7_check cX7_check 2 (some .int) :: tb) ({ frames := 1, cells := 0, slots := 0, locals := 25 } : Room) (zPw G [(o0, ob 7 [vI th, .ref (a 1), .ref (a 2), .ref (a 3), .ref (a 4), .ref (a 5), vI mk, .ref (a 7), .ref (a 8), vI bl, .ref (a 10), vI hm, vI rc, .ref (a 13), .ref (a 14), .ref (a 15), vI lk, vI lg, vI kp, vI fi, vI lo, vI wt, .ref (a 22), .ref (a 23), .ref (a 24), .ref (a 25), .ref (a 26), vI gr, .ref (a 28), .ref (a 29), vI eb, vI ec, vI ef, vI iv]), ((a 1), aI G 6 N1), ((a 2), aI G 6 N2), ((a 3), aI G 6 CK), ((a 10), aI G 36 HA), ((a 13), aI G 40 TX)] sz [.ref o0, vI x]) (va_Qi (fun (r : Int32) (u : (Int → Int)) => r = iI (ckF (CK x) (txA (N1 x) (N2 x) hm HA) (3 + hm).toNat) ∧ True) (fun (u : (Int → Int)) t => zB G [(o0, ob 7 [vI th, .ref (a 1), .ref (a 2), .ref (a 3), .ref (a 4), .ref (a 5), vI mk, .ref (a 7), .ref (a 8), vI bl, .ref (a 10), vI hm, vI rc, .ref (a 13), .ref (a 14), .ref (a 15), vI lk, vI lg, vI kp, vI fi, vI lo, vI wt, .ref (a 22), .ref (a 23), .ref (a 24), .ref (a 25), .ref (a 26), vI gr, .ref (a 28), .ref (a 29), vI eb, vI ec, vI ef, vI iv]), ((a 1), aI G 6 N1), ((a 2), aI G 6 N2), ((a 3), aI G 6 CK), ((a 10), aI G 36 HA), ((a 13), aI G 40 TX)] sz [(o0, ob 7 [vI 0, .ref (a 1), .ref (a 2), .ref (a 3), .ref (a 4), .ref (a 5), vI mk, .ref (a 7), .ref (a 8), vI bl, .ref (a 10), vI hm, vI rc, .ref (a 13), .ref (a 14), .ref (a 15), vI lk, vI lg, vI kp, vI fi, vI lo, vI wt, .ref (a 22), .ref (a 23), .ref (a 24), .ref (a 25), .ref (a 26), vI gr, .ref (a 28), .ref (a 29), vI eb, vI ec, vI ef, vI iv]), ((a 1), aI G 6 N1), ((a 2), aI G 6 N2), ((a 3), aI G 6 CK), ((a 10), aI G 36 HA), ((a 13), aI G 40 u)] t) (va_A [(o0, ob 7 [vI th, .ref (a 1), .ref (a 2), .ref (a 3), .ref (a 4), .ref (a 5), vI mk, .ref (a 7), .ref (a 8), vI bl, .ref (a 10), vI hm, vI rc, .ref (a 13), .ref (a 14), .ref (a 15), vI lk, vI lg, vI kp, vI fi, vI lo, vI wt, .ref (a 22), .ref (a 23), .ref (a 24), .ref (a 25), .ref (a 26), vI gr, .ref (a 28), .ref (a 29), vI eb, vI ec, vI ef, vI iv]), ((a 1), aI G 6 N1), ((a 2), aI G 6 N2), ((a 3), aI G 6 CK), ((a 10), aI G 36 HA), ((a 13), aI G 40 TX)] sz)) 0 0 (va_A [(o0, ob 7 [vI th, .ref (a 1), .ref (a 2), .ref (a 3), .ref (a 4), .ref (a 5), vI mk, .ref (a 7), .ref (a 8), vI bl, .ref (a 10), vI hm, vI rc, .ref (a 13), .ref (a 14), .ref (a 15), vI lk, vI lg, vI kp, vI fi, vI lo, vI wt, .ref (a 22), .ref (a 23), .ref (a 24), .ref (a 25), .ref (a 26), vI gr, .ref (a 28), .ref (a 29), vI eb, vI ec, vI ef, vI iv]), ((a 1), aI G 6 N1), ((a 2), aI G 6 N2), ((a 3), aI G 6 CK), ((a 10), aI G 36 HA), ((a 13), aI G 40 TX)] sz) := by
  refine Met.ofW (cc := cX7_check) (maxL := 2) (ret := (some .int)) (by decide) rfl ?_
  intro p e s m args below meth c s₁ B hml hv
  obtain ⟨rfl, hsz, hP, hK, hD0⟩ := hv
  subst hsz
  have hD := hD0.self (sz := s.heap.size)
  obtain ⟨A, hAe⟩ : ∃ A : Nat → Prop, A = va_A [(o0, ob 7 [vI th, .ref (a 1), .ref (a 2), .ref (a 3), .ref (a 4), .ref (a 5), vI mk, .ref (a 7), .ref (a 8), vI bl, .ref (a 10), vI hm, vI rc, .ref (a 13), .ref (a 14), .ref (a 15), vI lk, vI lg, vI kp, vI fi, vI lo, vI wt, .ref (a 22), .ref (a 23), .ref (a 24), .ref (a 25), .ref (a 26), vI gr, .ref (a 28), .ref (a 29), vI eb, vI ec, vI ef, vI iv]), ((a 1), aI G 6 N1), ((a 2), aI G 6 N2), ((a 3), aI G 6 CK), ((a 10), aI G 36 HA), ((a 13), aI G 40 TX)] s.heap.size := ⟨_, rfl⟩
  rw [← hAe] at hD
  have hA : ∀ q : Nat, s.heap.size ≤ q → A q := fun q h => by rw [hAe]; exact Or.inr h
  have hS : va_S A s.heap s.heap [] := va_S.rf
  obtain ⟨hC, hr, hlk⟩ := z_begin B hml
  have hC : CallFix p m c cX7_check 2 s _ tb RX7 := hC
  have hx := hC.1
  have hb := hC.2.1
  have hl := lv_entry ([.ref o0, vI x]) (n := 2) (Nat.le_of_ble_eq_true rfl)
  rw [lg_entry_eq]
  generalize (lg_sl ([.ref o0, vI x]) ++ List.replicate (2 - (lg_sl ([.ref o0, vI x])).length) Slot.unset).toArray = ls at hl ⊢
  have hl : lv_has ls 2 [(0, .ref o0), (1, vI x)] := hl
  obtain ⟨H, hHe⟩ : ∃ H : Heap, H = s.heap := ⟨_, rfl⟩
  obtain ⟨locs, hLe⟩ : ∃ L : List Loc, L = [] := ⟨_, rfl⟩
  suffices hgo : W p l e (headSpec (Cond.code yX7_check cX7_check 2 (some .int) :: tb) ({ frames := 1, cells := 0, slots := 0, locals := 25 } : Room)).room s m ([.ref o0, vI x] : List Value).toArray below meth c H locs 0 0 (MQ below (va_Qi (fun (r : Int32) (u : (Int → Int)) => r = iI (ckF (CK x) (txA (N1 x) (N2 x) hm HA) (3 + hm).toNat) ∧ True) (fun (u : (Int → Int)) t => zB G [(o0, ob 7 [vI th, .ref (a 1), .ref (a 2), .ref (a 3), .ref (a 4), .ref (a 5), vI mk, .ref (a 7), .ref (a 8), vI bl, .ref (a 10), vI hm, vI rc, .ref (a 13), .ref (a 14), .ref (a 15), vI lk, vI lg, vI kp, vI fi, vI lo, vI wt, .ref (a 22), .ref (a 23), .ref (a 24), .ref (a 25), .ref (a 26), vI gr, .ref (a 28), .ref (a 29), vI eb, vI ec, vI ef, vI iv]), ((a 1), aI G 6 N1), ((a 2), aI G 6 N2), ((a 3), aI G 6 CK), ((a 10), aI G 36 HA), ((a 13), aI G 40 TX)] s.heap.size [(o0, ob 7 [vI 0, .ref (a 1), .ref (a 2), .ref (a 3), .ref (a 4), .ref (a 5), vI mk, .ref (a 7), .ref (a 8), vI bl, .ref (a 10), vI hm, vI rc, .ref (a 13), .ref (a 14), .ref (a 15), vI lk, vI lg, vI kp, vI fi, vI lo, vI wt, .ref (a 22), .ref (a 23), .ref (a 24), .ref (a 25), .ref (a 26), vI gr, .ref (a 28), .ref (a 29), vI eb, vI ec, vI ef, vI iv]), ((a 1), aI G 6 N1), ((a 2), aI G 6 N2), ((a 3), aI G 6 CK), ((a 10), aI G 36 HA), ((a 13), aI G 40 u)] t) (va_A [(o0, ob 7 [vI th, .ref (a 1), .ref (a 2), .ref (a 3), .ref (a 4), .ref (a 5), vI mk, .ref (a 7), .ref (a 8), vI bl, .ref (a 10), vI hm, vI rc, .ref (a 13), .ref (a 14), .ref (a 15), vI lk, vI lg, vI kp, vI fi, vI lo, vI wt, .ref (a 22), .ref (a 23), .ref (a 24), .ref (a 25), .ref (a 26), vI gr, .ref (a 28), .ref (a 29), vI eb, vI ec, vI ef, vI iv]), ((a 1), aI G 6 N1), ((a 2), aI G 6 N2), ((a 3), aI G 6 CK), ((a 10), aI G 36 HA), ((a 13), aI G 40 TX)] s.heap.size)) ([.ref o0, vI x] : List Value).toArray s 0 0 (va_A [(o0, ob 7 [vI th, .ref (a 1), .ref (a 2), .ref (a 3), .ref (a 4), .ref (a 5), vI mk, .ref (a 7), .ref (a 8), vI bl, .ref (a 10), vI hm, vI rc, .ref (a 13), .ref (a 14), .ref (a 15), vI lk, vI lg, vI kp, vI fi, vI lo, vI wt, .ref (a 22), .ref (a 23), .ref (a 24), .ref (a 25), .ref (a 26), vI gr, .ref (a 28), .ref (a 29), vI eb, vI ec, vI ef, vI iv]), ((a 1), aI G 6 N1), ((a 2), aI G 6 N2), ((a 3), aI G 6 CK), ((a 10), aI G 36 HA), ((a 13), aI G 40 TX)] s.heap.size)) (F0 m 0 ls []) by rw [hHe, hLe] at hgo; exact hgo
  rw [← hHe] at hP
  have hS : va_S A s.heap H locs := by rw [hHe, hLe]; exact hS
  clear hHe hLe
  refine lv_aload_n hx hb dX7_check_0 rfl (lv_at hl 0 rfl) ?_
  refine lv_iload_n hx hb dX7_check_1 rfl (lv_at hl 1 rfl) ?_
  refine z_wVi (q0 := 0) (ci := 7) (b := o0) (rest := []) (wr := [((a 1), aI G 6 N1), ((a 2), aI G 6 N2), ((a 3), aI G 6 CK), ((a 10), aI G 36 HA), ((a 13), aI G 40 TX)]) hC hK hP hD hS hA (c_X7_isMake_t l G H.size o0 a th mk bl hm rc lk lg kp fi lo wt gr eb ec ef iv x (by omega) (by omega)) mv_X7_isMake tw_914 [0] [1, 2, 3, 4, 5] rfl rfl rfl rfl (by decide) rfl rfl rfl rfl hl.1 rfl (Nat.le_of_ble_eq_true rfl) ⟨rfl, rfl, Nat.le_of_ble_eq_true rfl, Nat.le_of_ble_eq_true rfl⟩ ⟨Nat.le_of_ble_eq_true rfl, Nat.le_of_ble_eq_true rfl⟩ dX7_check_2 (fun r u H locs hw hP hD hS => ?_)
  have hP : va_P G.1 vwCl [((a 1), aI G 6 N1), ((a 2), aI G 6 N2), ((a 3), aI G 6 CK), ((a 10), aI G 36 HA), ((a 13), aI G 40 TX), (o0, ob 7 [vI 0, .ref (a 1), .ref (a 2), .ref (a 3), .ref (a 4), .ref (a 5), vI mk, .ref (a 7), .ref (a 8), vI bl, .ref (a 10), vI hm, vI rc, .ref (a 13), .ref (a 14), .ref (a 15), vI lk, vI lg, vI kp, vI fi, vI lo, vI wt, .ref (a 22), .ref (a 23), .ref (a 24), .ref (a 25), .ref (a 26), vI gr, .ref (a 28), .ref (a 29), vI eb, vI ec, vI ef, vI iv])] H := hP
  have hD : va_D A [((a 1), aI G 6 N1), ((a 2), aI G 6 N2), ((a 3), aI G 6 CK), ((a 10), aI G 36 HA), ((a 13), aI G 40 TX), (o0, ob 7 [vI 0, .ref (a 1), .ref (a 2), .ref (a 3), .ref (a 4), .ref (a 5), vI mk, .ref (a 7), .ref (a 8), vI bl, .ref (a 10), vI hm, vI rc, .ref (a 13), .ref (a 14), .ref (a 15), vI lk, vI lg, vI kp, vI fi, vI lo, vI wt, .ref (a 22), .ref (a 23), .ref (a 24), .ref (a 25), .ref (a 26), vI gr, .ref (a 28), .ref (a 29), vI eb, vI ec, vI ef, vI iv])] := hD
  obtain ⟨hrw_, hw_1⟩ := hw
  rw [hrw_]
  clear hrw_
  clear hw_1
  refine z_if_ne (tgt := 10) hx hb dX7_check_5 (by decide) (by omega) (fun c_5 => ?_) (fun c_5 => ?_)
  · refine lv_aload_n hx hb dX7_check_10 rfl (lv_at hl 0 rfl) ?_
    refine lv_iload_n hx hb dX7_check_11 rfl (lv_at hl 1 rfl) ?_
    refine lv_aload_n hx hb dX7_check_12 rfl (lv_at hl 0 rfl) ?_
    refine lv_iload_n hx hb dX7_check_13 rfl (lv_at hl 1 rfl) ?_
    refine z_wVi (q0 := 5) (ci := 7) (b := o0) (rest := [vI x, .ref o0]) (wr := [((a 3), aI G 6 CK)]) hC hK hP hD hS hA (c_X7_asFile l G H.size o0 a 0 mk bl hm rc lk lg kp fi lo wt gr eb ec ef iv N1 N2 HA TX x (by omega) (by omega)) mv_X7_asFile tw_951 [5, 0, 1, 3, 4] [2] rfl rfl rfl rfl (by decide) rfl rfl rfl rfl hl.1 rfl (Nat.le_of_ble_eq_true rfl) ⟨rfl, rfl, Nat.le_of_ble_eq_true rfl, Nat.le_of_ble_eq_true rfl⟩ ⟨Nat.le_of_ble_eq_true rfl, Nat.le_of_ble_eq_true rfl⟩ dX7_check_14 (fun r u H locs hw hP hD hS => ?_)
    obtain ⟨TX'_2, rfl⟩ : ∃ z, z = u := ⟨_, rfl⟩
    dsimp only at hw hP hD
    have hP : va_P G.1 vwCl [((a 3), aI G 6 CK), (o0, ob 7 [vI 0, .ref (a 1), .ref (a 2), .ref (a 3), .ref (a 4), .ref (a 5), vI mk, .ref (a 7), .ref (a 8), vI bl, .ref (a 10), vI hm, vI rc, .ref (a 13), .ref (a 14), .ref (a 15), vI lk, vI lg, vI kp, vI fi, vI lo, vI wt, .ref (a 22), .ref (a 23), .ref (a 24), .ref (a 25), .ref (a 26), vI gr, .ref (a 28), .ref (a 29), vI eb, vI ec, vI ef, vI iv]), ((a 1), aI G 6 N1), ((a 2), aI G 6 N2), ((a 10), aI G 36 HA), ((a 13), aI G 40 TX'_2)] H := hP
    have hD : va_D A [((a 3), aI G 6 CK), (o0, ob 7 [vI 0, .ref (a 1), .ref (a 2), .ref (a 3), .ref (a 4), .ref (a 5), vI mk, .ref (a 7), .ref (a 8), vI bl, .ref (a 10), vI hm, vI rc, .ref (a 13), .ref (a 14), .ref (a 15), vI lk, vI lg, vI kp, vI fi, vI lo, vI wt, .ref (a 22), .ref (a 23), .ref (a 24), .ref (a 25), .ref (a 26), vI gr, .ref (a 28), .ref (a 29), vI eb, vI ec, vI ef, vI iv]), ((a 1), aI G 6 N1), ((a 2), aI G 6 N2), ((a 10), aI G 36 HA), ((a 13), aI G 40 TX'_2)] := hD
    obtain ⟨hrw_, hw_2⟩ := hw
    rw [hrw_]
    clear hrw_
    refine z_rVi (q0 := 1) (ci := 7) (b := o0) (rest := []) hC hK hP (c_X7_checkOf l G o0 a 0 mk bl hm rc lk lg kp fi lo wt gr eb ec ef iv CK TX'_2 x (3 + hm) (by omega) (hck) (by omega) (txA_tx hw_2 hnn.1 hnn.2 hhm hhb)) mv_X7_checkOf tw_955 [1, 0, 5] rfl rfl rfl rfl hl.1 rfl (Nat.le_of_ble_eq_true rfl) ⟨rfl, rfl, Nat.le_of_ble_eq_true rfl, Nat.le_of_ble_eq_true rfl⟩ ⟨Nat.le_of_ble_eq_true rfl, Nat.le_of_ble_eq_true rfl⟩ dX7_check_17 ?_
    exact z_iretW hC hr hlk TX'_2 hAe hP hD hS [1, 2, 3, 0, 4, 5] (by decide) rfl rfl (⟨congrArg iI (ckF_cg _ (fun j hj => hw_2 j (by omega))), trivial⟩) dX7_check_20
  · exact absurd c_5 (by decide)

set_option maxRecDepth 100000 in
set_option maxHeartbeats 4000000 in
theorem c_X7_count (l : Launch) (G : zGt) (sz : Nat) (o0 : Nat) (a : Nat → Nat) (th mk bl hm rc lk lg kp fi lo wt gr eb ec ef iv : Int) (x : Int) (hx : -2147483648 ≤ x ∧ x < 2147483648) : Met l yX7_count (Cond.code yX7_count cX7_count 2 (some .int) :: tb) ({ frames := 0, cells := 0, slots := 0, locals := 0 } : Room) (zPw G [(o0, ob 7 [vI th, .ref (a 1), .ref (a 2), .ref (a 3), .ref (a 4), .ref (a 5), vI mk, .ref (a 7), .ref (a 8), vI bl, .ref (a 10), vI hm, vI rc, .ref (a 13), .ref (a 14), .ref (a 15), vI lk, vI lg, vI kp, vI fi, vI lo, vI wt, .ref (a 22), .ref (a 23), .ref (a 24), .ref (a 25), .ref (a 26), vI gr, .ref (a 28), .ref (a 29), vI eb, vI ec, vI ef, vI iv])] sz [.ref o0, vI x]) (va_Qi (fun (r : Int32) (u : Unit) => r = iI (if x = 0 then bl else if x = 1 then mk else if x = 2 then hm else if x = 3 then fi else if x = 4 then rc else if x = 5 then lo else -1) ∧ True) (fun (u : Unit) t => zB G [(o0, ob 7 [vI th, .ref (a 1), .ref (a 2), .ref (a 3), .ref (a 4), .ref (a 5), vI mk, .ref (a 7), .ref (a 8), vI bl, .ref (a 10), vI hm, vI rc, .ref (a 13), .ref (a 14), .ref (a 15), vI lk, vI lg, vI kp, vI fi, vI lo, vI wt, .ref (a 22), .ref (a 23), .ref (a 24), .ref (a 25), .ref (a 26), vI gr, .ref (a 28), .ref (a 29), vI eb, vI ec, vI ef, vI iv])] sz [(o0, ob 7 [vI 0, .ref (a 1), .ref (a 2), .ref (a 3), .ref (a 4), .ref (a 5), vI mk, .ref (a 7), .ref (a 8), vI bl, .ref (a 10), vI hm, vI rc, .ref (a 13), .ref (a 14), .ref (a 15), vI lk, vI lg, vI kp, vI fi, vI lo, vI wt, .ref (a 22), .ref (a 23), .ref (a 24), .ref (a 25), .ref (a 26), vI gr, .ref (a 28), .ref (a 29), vI eb, vI ec, vI ef, vI iv])] t) (va_A [(o0, ob 7 [vI th, .ref (a 1), .ref (a 2), .ref (a 3), .ref (a 4), .ref (a 5), vI mk, .ref (a 7), .ref (a 8), vI bl, .ref (a 10), vI hm, vI rc, .ref (a 13), .ref (a 14), .ref (a 15), vI lk, vI lg, vI kp, vI fi, vI lo, vI wt, .ref (a 22), .ref (a 23), .ref (a 24), .ref (a 25), .ref (a 26), vI gr, .ref (a 28), .ref (a 29), vI eb, vI ec, vI ef, vI iv])] sz)) 0 0 (va_A [(o0, ob 7 [vI th, .ref (a 1), .ref (a 2), .ref (a 3), .ref (a 4), .ref (a 5), vI mk, .ref (a 7), .ref (a 8), vI bl, .ref (a 10), vI hm, vI rc, .ref (a 13), .ref (a 14), .ref (a 15), vI lk, vI lg, vI kp, vI fi, vI lo, vI wt, .ref (a 22), .ref (a 23), .ref (a 24), .ref (a 25), .ref (a 26), vI gr, .ref (a 28), .ref (a 29), vI eb, vI ec, vI ef, vI iv])] sz) := by
  refine Met.ofW (cc := cX7_count) (maxL := 2) (ret := (some .int)) (by decide) rfl ?_
  intro p e s m args below meth c s₁ B hml hv
  obtain ⟨rfl, hsz, hP, hK, hD0⟩ := hv
  subst hsz
  have hD := hD0.self (sz := s.heap.size)
  obtain ⟨A, hAe⟩ : ∃ A : Nat → Prop, A = va_A [(o0, ob 7 [vI th, .ref (a 1), .ref (a 2), .ref (a 3), .ref (a 4), .ref (a 5), vI mk, .ref (a 7), .ref (a 8), vI bl, .ref (a 10), vI hm, vI rc, .ref (a 13), .ref (a 14), .ref (a 15), vI lk, vI lg, vI kp, vI fi, vI lo, vI wt, .ref (a 22), .ref (a 23), .ref (a 24), .ref (a 25), .ref (a 26), vI gr, .ref (a 28), .ref (a 29), vI eb, vI ec, vI ef, vI iv])] s.heap.size := ⟨_, rfl⟩
  rw [← hAe] at hD
  have hA : ∀ q : Nat, s.heap.size ≤ q → A q := fun q h => by rw [hAe]; exact Or.inr h
  have hS : va_S A s.heap s.heap [] := va_S.rf
  obtain ⟨hC, hr, hlk⟩ := z_begin B hml
  have hC : CallFix p m c cX7_count 2 s _ tb RX7 := hC
  have hx := hC.1
  have hb := hC.2.1
  have hl := lv_entry ([.ref o0, vI x]) (n := 2) (Nat.le_of_ble_eq_true rfl)
  rw [lg_entry_eq]
  generalize (lg_sl ([.ref o0, vI x]) ++ List.replicate (2 - (lg_sl ([.ref o0, vI x])).length) Slot.unset).toArray = ls at hl ⊢
  have hl : lv_has ls 2 [(0, .ref o0), (1, vI x)] := hl
  obtain ⟨H, hHe⟩ : ∃ H : Heap, H = s.heap := ⟨_, rfl⟩
  obtain ⟨locs, hLe⟩ : ∃ L : List Loc, L = [] := ⟨_, rfl⟩
  suffices hgo : W p l e (headSpec (Cond.code yX7_count cX7_count 2 (some .int) :: tb) ({ frames := 0, cells := 0, slots := 0, locals := 0 } : Room)).room s m ([.ref o0, vI x] : List Value).toArray below meth c H locs 0 0 (MQ below (va_Qi (fun (r : Int32) (u : Unit) => r = iI (if x = 0 then bl else if x = 1 then mk else if x = 2 then hm else if x = 3 then fi else if x = 4 then rc else if x = 5 then lo else -1) ∧ True) (fun (u : Unit) t => zB G [(o0, ob 7 [vI th, .ref (a 1), .ref (a 2), .ref (a 3), .ref (a 4), .ref (a 5), vI mk, .ref (a 7), .ref (a 8), vI bl, .ref (a 10), vI hm, vI rc, .ref (a 13), .ref (a 14), .ref (a 15), vI lk, vI lg, vI kp, vI fi, vI lo, vI wt, .ref (a 22), .ref (a 23), .ref (a 24), .ref (a 25), .ref (a 26), vI gr, .ref (a 28), .ref (a 29), vI eb, vI ec, vI ef, vI iv])] s.heap.size [(o0, ob 7 [vI 0, .ref (a 1), .ref (a 2), .ref (a 3), .ref (a 4), .ref (a 5), vI mk, .ref (a 7), .ref (a 8), vI bl, .ref (a 10), vI hm, vI rc, .ref (a 13), .ref (a 14), .ref (a 15), vI lk, vI lg, vI kp, vI fi, vI lo, vI wt, .ref (a 22), .ref (a 23), .ref (a 24), .ref (a 25), .ref (a 26), vI gr, .ref (a 28), .ref (a 29), vI eb, vI ec, vI ef, vI iv])] t) (va_A [(o0, ob 7 [vI th, .ref (a 1), .ref (a 2), .ref (a 3), .ref (a 4), .ref (a 5), vI mk, .ref (a 7), .ref (a 8), vI bl, .ref (a 10), vI hm, vI rc, .ref (a 13), .ref (a 14), .ref (a 15), vI lk, vI lg, vI kp, vI fi, vI lo, vI wt, .ref (a 22), .ref (a 23), .ref (a 24), .ref (a 25), .ref (a 26), vI gr, .ref (a 28), .ref (a 29), vI eb, vI ec, vI ef, vI iv])] s.heap.size)) ([.ref o0, vI x] : List Value).toArray s 0 0 (va_A [(o0, ob 7 [vI th, .ref (a 1), .ref (a 2), .ref (a 3), .ref (a 4), .ref (a 5), vI mk, .ref (a 7), .ref (a 8), vI bl, .ref (a 10), vI hm, vI rc, .ref (a 13), .ref (a 14), .ref (a 15), vI lk, vI lg, vI kp, vI fi, vI lo, vI wt, .ref (a 22), .ref (a 23), .ref (a 24), .ref (a 25), .ref (a 26), vI gr, .ref (a 28), .ref (a 29), vI eb, vI ec, vI ef, vI iv])] s.heap.size)) (F0 m 0 ls []) by rw [hHe, hLe] at hgo; exact hgo
  rw [← hHe] at hP
  have hS : va_S A s.heap H locs := by rw [hHe, hLe]; exact hS
  clear hHe hLe
  refine lv_aload_n hx hb dX7_count_0 rfl (lv_at hl 0 rfl) ?_
  refine lv_iconst (v := iI 0) hx hb dX7_count_1 rfl ?_
  refine z_put (ws' := [(o0, ob 7 [vI 0, .ref (a 1), .ref (a 2), .ref (a 3), .ref (a 4), .ref (a 5), vI mk, .ref (a 7), .ref (a 8), vI bl, .ref (a 10), vI hm, vI rc, .ref (a 13), .ref (a 14), .ref (a 15), vI lk, vI lg, vI kp, vI fi, vI lo, vI wt, .ref (a 22), .ref (a 23), .ref (a 24), .ref (a 25), .ref (a 26), vI gr, .ref (a 28), .ref (a 29), vI eb, vI ec, vI ef, vI iv])]) hC hK hP hD hS inX7 tyX7 tyX7_ok nmX7 rfl 0 rfl 0 (by decide) tw_792 rfl rfl rfl (Nat.le_of_ble_eq_true rfl) rfl dX7_count_2 (fun H locs hP hD hS => ?_)
  refine lv_iload_n hx hb dX7_count_5 rfl (lv_at hl 1 rfl) ?_
  have hsw_ : (iI x).toInt = x := iI_toInt (by omega)
  by_cases hs0_ : x < 0 ∨ 5 < x
  · refine lv_tableOut (tgt := 74) hx hb dX7_count_6 (by rw [hsw_]; omega) (by decide) ?_
    refine lv_iconst (v := iI (-1)) hx hb dX7_count_74 rfl ?_
    exact z_iretW hC hr hlk () hAe hP hD hS [0] (by decide) rfl rfl (⟨congrArg iI (by first | (rw [hs_]; rfl) | (rw [if_neg (by omega), if_neg (by omega), if_neg (by omega), if_neg (by omega), if_neg (by omega), if_neg (by omega)])), trivial⟩) dX7_count_75
  rcases (show x = 0 ∨ x = 1 ∨ x = 2 ∨ x = 3 ∨ x = 4 ∨ x = 5 by omega) with hs_ | hs_ | hs_ | hs_ | hs_ | hs_
  · refine lv_tableIn (off := 38) (tgt := 44) hx hb dX7_count_6 (by rw [hsw_]; omega) (by rw [hsw_]; omega) (by rw [hsw_, hs_]; rfl) (by decide) ?_
    refine lv_aload_n hx hb dX7_count_44 rfl (lv_at hl 0 rfl) ?_
    refine z_get (v := vI bl) hC hK hP inX7 rfl 0 rfl 9 (by decide) tw_801 rfl dX7_count_45 ?_
    exact z_iretW hC hr hlk () hAe hP hD hS [0] (by decide) rfl rfl (⟨congrArg iI (by first | (rw [hs_]; rfl) | (rw [if_neg (by omega), if_neg (by omega), if_neg (by omega), if_neg (by omega), if_neg (by omega), if_neg (by omega)])), trivial⟩) dX7_count_48
  · refine lv_tableIn (off := 43) (tgt := 49) hx hb dX7_count_6 (by rw [hsw_]; omega) (by rw [hsw_]; omega) (by rw [hsw_, hs_]; rfl) (by decide) ?_
    refine lv_aload_n hx hb dX7_count_49 rfl (lv_at hl 0 rfl) ?_
    refine z_get (v := vI mk) hC hK hP inX7 rfl 0 rfl 6 (by decide) tw_798 rfl dX7_count_50 ?_
    exact z_iretW hC hr hlk () hAe hP hD hS [0] (by decide) rfl rfl (⟨congrArg iI (by first | (rw [hs_]; rfl) | (rw [if_neg (by omega), if_neg (by omega), if_neg (by omega), if_neg (by omega), if_neg (by omega), if_neg (by omega)])), trivial⟩) dX7_count_53
  · refine lv_tableIn (off := 48) (tgt := 54) hx hb dX7_count_6 (by rw [hsw_]; omega) (by rw [hsw_]; omega) (by rw [hsw_, hs_]; rfl) (by decide) ?_
    refine lv_aload_n hx hb dX7_count_54 rfl (lv_at hl 0 rfl) ?_
    refine z_get (v := vI hm) hC hK hP inX7 rfl 0 rfl 11 (by decide) tw_803 rfl dX7_count_55 ?_
    exact z_iretW hC hr hlk () hAe hP hD hS [0] (by decide) rfl rfl (⟨congrArg iI (by first | (rw [hs_]; rfl) | (rw [if_neg (by omega), if_neg (by omega), if_neg (by omega), if_neg (by omega), if_neg (by omega), if_neg (by omega)])), trivial⟩) dX7_count_58
  · refine lv_tableIn (off := 53) (tgt := 59) hx hb dX7_count_6 (by rw [hsw_]; omega) (by rw [hsw_]; omega) (by rw [hsw_, hs_]; rfl) (by decide) ?_
    refine lv_aload_n hx hb dX7_count_59 rfl (lv_at hl 0 rfl) ?_
    refine z_get (v := vI fi) hC hK hP inX7 rfl 0 rfl 19 (by decide) tw_811 rfl dX7_count_60 ?_
    exact z_iretW hC hr hlk () hAe hP hD hS [0] (by decide) rfl rfl (⟨congrArg iI (by first | (rw [hs_]; rfl) | (rw [if_neg (by omega), if_neg (by omega), if_neg (by omega), if_neg (by omega), if_neg (by omega), if_neg (by omega)])), trivial⟩) dX7_count_63
  · refine lv_tableIn (off := 58) (tgt := 64) hx hb dX7_count_6 (by rw [hsw_]; omega) (by rw [hsw_]; omega) (by rw [hsw_, hs_]; rfl) (by decide) ?_
    refine lv_aload_n hx hb dX7_count_64 rfl (lv_at hl 0 rfl) ?_
    refine z_get (v := vI rc) hC hK hP inX7 rfl 0 rfl 12 (by decide) tw_804 rfl dX7_count_65 ?_
    exact z_iretW hC hr hlk () hAe hP hD hS [0] (by decide) rfl rfl (⟨congrArg iI (by first | (rw [hs_]; rfl) | (rw [if_neg (by omega), if_neg (by omega), if_neg (by omega), if_neg (by omega), if_neg (by omega), if_neg (by omega)])), trivial⟩) dX7_count_68
  · refine lv_tableIn (off := 63) (tgt := 69) hx hb dX7_count_6 (by rw [hsw_]; omega) (by rw [hsw_]; omega) (by rw [hsw_, hs_]; rfl) (by decide) ?_
    refine lv_aload_n hx hb dX7_count_69 rfl (lv_at hl 0 rfl) ?_
    refine z_get (v := vI lo) hC hK hP inX7 rfl 0 rfl 20 (by decide) tw_812 rfl dX7_count_70 ?_
    exact z_iretW hC hr hlk () hAe hP hD hS [0] (by decide) rfl rfl (⟨congrArg iI (by first | (rw [hs_]; rfl) | (rw [if_neg (by omega), if_neg (by omega), if_neg (by omega), if_neg (by omega), if_neg (by omega), if_neg (by omega)])), trivial⟩) dX7_count_73

set_option maxRecDepth 100000 in
set_option maxHeartbeats 4000000 in
theorem c_X7_mayFollow (l : Launch) (G : zGt) (o0 : Nat) (a : Nat → Nat) (th mk bl hm rc lk lg kp fi lo wt gr eb ec ef iv : Int) (RW : Int → Int) (x y : Int) (hx : 1 ≤ x ∧ x ≤ 5) (hy : 0 ≤ y ∧ y < 24) (hrc : 1 ≤ rc ∧ rc ≤ 23) (hrw : ∀ j : Int, 0 ≤ j ∧ j < x → 0 ≤ RW j ∧ RW j < 24) : Met l yX7_mayFollow (Cond.code yX7_mayFollow cX7_mayFollow 5 (some .boolean) :: tb) ({ frames := 0, cells := 0, slots := 0, locals := 0 } : Room) (zPr G [(o0, ob 7 [vI th, .ref (a 1), .ref (a 2), .ref (a 3), .ref (a 4), .ref (a 5), vI mk, .ref (a 7), .ref (a 8), vI bl, .ref (a 10), vI hm, vI rc, .ref (a 13), .ref (a 14), .ref (a 15), vI lk, vI lg, vI kp, vI fi, vI lo, vI wt, .ref (a 22), .ref (a 23), .ref (a 24), .ref (a 25), .ref (a 26), vI gr, .ref (a 28), .ref (a 29), vI eb, vI ec, vI ef, vI iv]), ((a 14), aI G 5 RW)] [.ref o0, vI x, vI y]) (vp_Si (fun r => r = iI (bZ (may rc RW x y)))) 0 0 (fun _ => False) := by
  refine Met.ofW (cc := cX7_mayFollow) (maxL := 5) (ret := (some .boolean)) (by decide) rfl ?_
  intro p e s m args below meth c s₁ B hml hv
  obtain ⟨rfl, hP, hK⟩ := hv
  obtain ⟨hC, hr, hlk⟩ := z_begin B hml
  have hC : CallFix p m c cX7_mayFollow 5 s _ tb RX7 := hC
  have hx := hC.1
  have hb := hC.2.1
  have hl := lv_entry ([.ref o0, vI x, vI y]) (n := 5) (Nat.le_of_ble_eq_true rfl)
  rw [lg_entry_eq]
  generalize (lg_sl ([.ref o0, vI x, vI y]) ++ List.replicate (5 - (lg_sl ([.ref o0, vI x, vI y])).length) Slot.unset).toArray = ls at hl ⊢
  have hl : lv_has ls 5 [(0, .ref o0), (1, vI x), (2, vI y)] := hl
  have hrl := hrw (x - 1) (by omega)
  refine lv_iload_n hx hb dX7_mayFollow_0 rfl (lv_at hl 2 rfl) ?_
  refine lv_aload_n hx hb dX7_mayFollow_1 rfl (lv_at hl 0 rfl) ?_
  refine z_get (v := .ref (a 14)) hC hK hP inX7 rfl 0 rfl 14 (by decide) tw_806 rfl dX7_mayFollow_2 ?_
  refine lv_iload_n hx hb dX7_mayFollow_5 rfl (lv_at hl 1 rfl) ?_
  refine lv_iconst (v := iI 1) hx hb dX7_mayFollow_6 rfl ?_
  refine z_isub hx hb dX7_mayFollow_7 ?_
  refine z_iald hC hK hP 1 rfl (by omega) (by decide) dX7_mayFollow_8 ?_
  refine z_isub hx hb dX7_mayFollow_9 ?_
  refine lv_istore_n (lv' := [(3, vI (y - (RW (x - 1)))), (0, .ref o0), (1, vI x), (2, vI y)]) hx hb dX7_mayFollow_10 rfl hl (by decide) rfl (fun ls hl => ?_)
  have cut_33 : ∀ (n_ : Nat) (qk : Int) (ls : Array Slot), lv_has ls 5 [(0, .ref o0), (1, vI x), (2, vI y), (3, vI (y - (RW (x - 1)))), (4, vI qk)] → (0 ≤ qk ∧ qk ≤ x) → (-rc ≤ y - RW (x - 1) ∧ y - RW (x - 1) ≤ rc) → (∀ j : Int, 0 ≤ j ∧ j < qk → RW j ≠ y) → (x - qk).toNat < n_ → W p l e (headSpec (Cond.code yX7_mayFollow cX7_mayFollow 5 (some .boolean) :: tb) ({ frames := 0, cells := 0, slots := 0, locals := 0 } : Room)).room s m ([.ref o0, vI x, vI y] : List Value).toArray below meth c s.heap [] 0 0 (MQ below (vp_Si (fun r => r = iI (bZ (may rc RW x y)))) ([.ref o0, vI x, vI y] : List Value).toArray s 0 0 (fun _ => False)) (F0 m 33 ls []) := by
    intro n_
    induction n_ with
    | zero => exact fun qk ls hl hqk hqd hqn hm_ => absurd hm_ (Nat.not_lt_zero _)
    | succ n_ ih_33 =>
      intro qk ls hl hqk hqd hqn hm_
      refine lv_iload hx hb dX7_mayFollow_33 (lv_at hl 4 rfl) ?_
      refine lv_iload_n hx hb dX7_mayFollow_35 rfl (lv_at hl 1 rfl) ?_
      refine z_icmp_ge (tgt := 58) hx hb dX7_mayFollow_36 (by decide) (by omega) (fun c_36 => ?_) (fun c_36 => ?_)
      · refine lv_iconst (v := iI 1) hx hb dX7_mayFollow_58 rfl ?_
        exact z_bretR hC hr hlk ((bZ_t ⟨hqd, fun k hk => hqn k (by omega)⟩).symm) (by simp) dX7_mayFollow_59
      · have hrk := hrw qk (by omega)
        refine lv_aload_n hx hb dX7_mayFollow_39 rfl (lv_at hl 0 rfl) ?_
        refine z_get (v := .ref (a 14)) hC hK hP inX7 rfl 0 rfl 14 (by decide) tw_806 rfl dX7_mayFollow_40 ?_
        refine lv_iload hx hb dX7_mayFollow_43 (lv_at hl 4 rfl) ?_
        refine z_iald hC hK hP 1 rfl (by omega) (by decide) dX7_mayFollow_45 ?_
        refine lv_iload_n hx hb dX7_mayFollow_46 rfl (lv_at hl 2 rfl) ?_
        refine z_icmp_ne (tgt := 52) hx hb dX7_mayFollow_47 (by decide) (by omega) (fun c_47 => ?_) (fun c_47 => ?_)
        · refine z_iinc (k := 4) (lv' := [(4, vI (qk + 1)), (0, .ref o0), (1, vI x), (2, vI y), (3, vI (y - (RW (x - 1))))]) hx hb dX7_mayFollow_52 hl rfl (by decide) rfl (fun ls hl => ?_)
          refine lv_goto (tgt := 33) hx hb dX7_mayFollow_55 (by decide) ?_
          exact ih_33 (qk + 1) ls (lv_sub hl [1, 2, 3, 4, 0] rfl) (by omega) (by omega) (fun j hj => by rcases (show j = qk ∨ j < qk by omega) with h | h; rw [h]; exact c_47; exact hqn j (by omega)) (by omega)
        · refine lv_iconst (v := iI 0) hx hb dX7_mayFollow_50 rfl ?_
          exact z_bretR hC hr hlk ((bZ_f (fun h => h.2 qk (by omega) c_47)).symm) (by simp) dX7_mayFollow_51
  refine lv_iload_n hx hb dX7_mayFollow_11 rfl (lv_at hl 0 rfl) ?_
  refine z_if_ge (tgt := 20) hx hb dX7_mayFollow_12 (by decide) (by omega) (fun c_12 => ?_) (fun c_12 => ?_)
  · refine lv_iload_n hx hb dX7_mayFollow_20 rfl (lv_at hl 0 rfl) ?_
    refine lv_aload_n hx hb dX7_mayFollow_21 rfl (lv_at hl 1 rfl) ?_
    refine z_get (v := vI rc) hC hK hP inX7 rfl 0 rfl 12 (by decide) tw_804 rfl dX7_mayFollow_22 ?_
    refine z_icmp_le (tgt := 30) hx hb dX7_mayFollow_25 (by decide) (by omega) (fun c_25 => ?_) (fun c_25 => ?_)
    · refine lv_iconst (v := iI 0) hx hb dX7_mayFollow_30 rfl ?_
      refine lv_istore (lv' := [(4, vI 0), (3, vI (y - (RW (x - 1)))), (0, .ref o0), (1, vI x), (2, vI y)]) hx hb dX7_mayFollow_31 hl (by decide) rfl (fun ls hl => ?_)
      exact cut_33 ((x - (0 : Int)).toNat + 1) 0 ls (lv_sub hl [2, 3, 4, 1, 0] rfl) (by omega) (by omega) (fun j hj => by omega) (Nat.lt_succ_self _)
    · refine lv_iconst (v := iI 0) hx hb dX7_mayFollow_28 rfl ?_
      exact z_bretR hC hr hlk ((bZ_f (fun h => by have := h.1; omega)).symm) (by simp) dX7_mayFollow_29
  · refine lv_iload_n hx hb dX7_mayFollow_15 rfl (lv_at hl 0 rfl) ?_
    refine z_ineg hx hb dX7_mayFollow_16 ?_
    refine lv_goto (tgt := 21) hx hb dX7_mayFollow_17 (by decide) ?_
    refine lv_aload_n hx hb dX7_mayFollow_21 rfl (lv_at hl 1 rfl) ?_
    refine z_get (v := vI rc) hC hK hP inX7 rfl 0 rfl 12 (by decide) tw_804 rfl dX7_mayFollow_22 ?_
    refine z_icmp_le (tgt := 30) hx hb dX7_mayFollow_25 (by decide) (by omega) (fun c_25 => ?_) (fun c_25 => ?_)
    · refine lv_iconst (v := iI 0) hx hb dX7_mayFollow_30 rfl ?_
      refine lv_istore (lv' := [(4, vI 0), (3, vI (y - (RW (x - 1)))), (0, .ref o0), (1, vI x), (2, vI y)]) hx hb dX7_mayFollow_31 hl (by decide) rfl (fun ls hl => ?_)
      exact cut_33 ((x - (0 : Int)).toNat + 1) 0 ls (lv_sub hl [2, 3, 4, 1, 0] rfl) (by omega) (by omega) (fun j hj => by omega) (Nat.lt_succ_self _)
    · refine lv_iconst (v := iI 0) hx hb dX7_mayFollow_28 rfl ?_
      exact z_bretR hC hr hlk ((bZ_f (fun h => by have := h.1; omega)).symm) (by simp) dX7_mayFollow_29

set_option maxRecDepth 100000 in
set_option maxHeartbeats 4000000 in
theorem c_X7_best (l : Launch) (G : zGt) (sz : Nat) (o0 : Nat) (a : Nat → Nat) (th mk bl hm rc lk lg kp fi lo wt gr eb ec ef iv : Int) (hiv : iv = 0 ∨ iv = 1) (hfi : 0 ≤ fi ∧ fi ≤ 41) : Met l yX7_best (Cond.code yX7_best cX7_best 1 (some .int) :: tb) ({ frames := 0, cells := 0, slots := 0, locals := 0 } : Room) (zPw G [(o0, ob 7 [vI th, .ref (a 1), .ref (a 2), .ref (a 3), .ref (a 4), .ref (a 5), vI mk, .ref (a 7), .ref (a 8), vI bl, .ref (a 10), vI hm, vI rc, .ref (a 13), .ref (a 14), .ref (a 15), vI lk, vI lg, vI kp, vI fi, vI lo, vI wt, .ref (a 22), .ref (a 23), .ref (a 24), .ref (a 25), .ref (a 26), vI gr, .ref (a 28), .ref (a 29), vI eb, vI ec, vI ef, vI iv])] sz [.ref o0]) (va_Qi (fun (r : Int32) (u : Unit) => r = iI (if iv = 1 ∨ fi = 0 then eb else -1) ∧ True) (fun (u : Unit) t => zB G [(o0, ob 7 [vI th, .ref (a 1), .ref (a 2), .ref (a 3), .ref (a 4), .ref (a 5), vI mk, .ref (a 7), .ref (a 8), vI bl, .ref (a 10), vI hm, vI rc, .ref (a 13), .ref (a 14), .ref (a 15), vI lk, vI lg, vI kp, vI fi, vI lo, vI wt, .ref (a 22), .ref (a 23), .ref (a 24), .ref (a 25), .ref (a 26), vI gr, .ref (a 28), .ref (a 29), vI eb, vI ec, vI ef, vI iv])] sz [(o0, ob 7 [vI 0, .ref (a 1), .ref (a 2), .ref (a 3), .ref (a 4), .ref (a 5), vI mk, .ref (a 7), .ref (a 8), vI bl, .ref (a 10), vI hm, vI rc, .ref (a 13), .ref (a 14), .ref (a 15), vI lk, vI lg, vI kp, vI fi, vI lo, vI wt, .ref (a 22), .ref (a 23), .ref (a 24), .ref (a 25), .ref (a 26), vI gr, .ref (a 28), .ref (a 29), vI eb, vI ec, vI ef, vI iv])] t) (va_A [(o0, ob 7 [vI th, .ref (a 1), .ref (a 2), .ref (a 3), .ref (a 4), .ref (a 5), vI mk, .ref (a 7), .ref (a 8), vI bl, .ref (a 10), vI hm, vI rc, .ref (a 13), .ref (a 14), .ref (a 15), vI lk, vI lg, vI kp, vI fi, vI lo, vI wt, .ref (a 22), .ref (a 23), .ref (a 24), .ref (a 25), .ref (a 26), vI gr, .ref (a 28), .ref (a 29), vI eb, vI ec, vI ef, vI iv])] sz)) 0 0 (va_A [(o0, ob 7 [vI th, .ref (a 1), .ref (a 2), .ref (a 3), .ref (a 4), .ref (a 5), vI mk, .ref (a 7), .ref (a 8), vI bl, .ref (a 10), vI hm, vI rc, .ref (a 13), .ref (a 14), .ref (a 15), vI lk, vI lg, vI kp, vI fi, vI lo, vI wt, .ref (a 22), .ref (a 23), .ref (a 24), .ref (a 25), .ref (a 26), vI gr, .ref (a 28), .ref (a 29), vI eb, vI ec, vI ef, vI iv])] sz) := by
  refine Met.ofW (cc := cX7_best) (maxL := 1) (ret := (some .int)) (by decide) rfl ?_
  intro p e s m args below meth c s₁ B hml hv
  obtain ⟨rfl, hsz, hP, hK, hD0⟩ := hv
  subst hsz
  have hD := hD0.self (sz := s.heap.size)
  obtain ⟨A, hAe⟩ : ∃ A : Nat → Prop, A = va_A [(o0, ob 7 [vI th, .ref (a 1), .ref (a 2), .ref (a 3), .ref (a 4), .ref (a 5), vI mk, .ref (a 7), .ref (a 8), vI bl, .ref (a 10), vI hm, vI rc, .ref (a 13), .ref (a 14), .ref (a 15), vI lk, vI lg, vI kp, vI fi, vI lo, vI wt, .ref (a 22), .ref (a 23), .ref (a 24), .ref (a 25), .ref (a 26), vI gr, .ref (a 28), .ref (a 29), vI eb, vI ec, vI ef, vI iv])] s.heap.size := ⟨_, rfl⟩
  rw [← hAe] at hD
  have hA : ∀ q : Nat, s.heap.size ≤ q → A q := fun q h => by rw [hAe]; exact Or.inr h
  have hS : va_S A s.heap s.heap [] := va_S.rf
  obtain ⟨hC, hr, hlk⟩ := z_begin B hml
  have hC : CallFix p m c cX7_best 1 s _ tb RX7 := hC
  have hx := hC.1
  have hb := hC.2.1
  have hl := lv_entry ([.ref o0]) (n := 1) (Nat.le_of_ble_eq_true rfl)
  rw [lg_entry_eq]
  generalize (lg_sl ([.ref o0]) ++ List.replicate (1 - (lg_sl ([.ref o0])).length) Slot.unset).toArray = ls at hl ⊢
  have hl : lv_has ls 1 [(0, .ref o0)] := hl
  obtain ⟨H, hHe⟩ : ∃ H : Heap, H = s.heap := ⟨_, rfl⟩
  obtain ⟨locs, hLe⟩ : ∃ L : List Loc, L = [] := ⟨_, rfl⟩
  suffices hgo : W p l e (headSpec (Cond.code yX7_best cX7_best 1 (some .int) :: tb) ({ frames := 0, cells := 0, slots := 0, locals := 0 } : Room)).room s m ([.ref o0] : List Value).toArray below meth c H locs 0 0 (MQ below (va_Qi (fun (r : Int32) (u : Unit) => r = iI (if iv = 1 ∨ fi = 0 then eb else -1) ∧ True) (fun (u : Unit) t => zB G [(o0, ob 7 [vI th, .ref (a 1), .ref (a 2), .ref (a 3), .ref (a 4), .ref (a 5), vI mk, .ref (a 7), .ref (a 8), vI bl, .ref (a 10), vI hm, vI rc, .ref (a 13), .ref (a 14), .ref (a 15), vI lk, vI lg, vI kp, vI fi, vI lo, vI wt, .ref (a 22), .ref (a 23), .ref (a 24), .ref (a 25), .ref (a 26), vI gr, .ref (a 28), .ref (a 29), vI eb, vI ec, vI ef, vI iv])] s.heap.size [(o0, ob 7 [vI 0, .ref (a 1), .ref (a 2), .ref (a 3), .ref (a 4), .ref (a 5), vI mk, .ref (a 7), .ref (a 8), vI bl, .ref (a 10), vI hm, vI rc, .ref (a 13), .ref (a 14), .ref (a 15), vI lk, vI lg, vI kp, vI fi, vI lo, vI wt, .ref (a 22), .ref (a 23), .ref (a 24), .ref (a 25), .ref (a 26), vI gr, .ref (a 28), .ref (a 29), vI eb, vI ec, vI ef, vI iv])] t) (va_A [(o0, ob 7 [vI th, .ref (a 1), .ref (a 2), .ref (a 3), .ref (a 4), .ref (a 5), vI mk, .ref (a 7), .ref (a 8), vI bl, .ref (a 10), vI hm, vI rc, .ref (a 13), .ref (a 14), .ref (a 15), vI lk, vI lg, vI kp, vI fi, vI lo, vI wt, .ref (a 22), .ref (a 23), .ref (a 24), .ref (a 25), .ref (a 26), vI gr, .ref (a 28), .ref (a 29), vI eb, vI ec, vI ef, vI iv])] s.heap.size)) ([.ref o0] : List Value).toArray s 0 0 (va_A [(o0, ob 7 [vI th, .ref (a 1), .ref (a 2), .ref (a 3), .ref (a 4), .ref (a 5), vI mk, .ref (a 7), .ref (a 8), vI bl, .ref (a 10), vI hm, vI rc, .ref (a 13), .ref (a 14), .ref (a 15), vI lk, vI lg, vI kp, vI fi, vI lo, vI wt, .ref (a 22), .ref (a 23), .ref (a 24), .ref (a 25), .ref (a 26), vI gr, .ref (a 28), .ref (a 29), vI eb, vI ec, vI ef, vI iv])] s.heap.size)) (F0 m 0 ls []) by rw [hHe, hLe] at hgo; exact hgo
  rw [← hHe] at hP
  have hS : va_S A s.heap H locs := by rw [hHe, hLe]; exact hS
  clear hHe hLe
  refine lv_aload_n hx hb dX7_best_0 rfl (lv_at hl 0 rfl) ?_
  refine lv_iconst (v := iI 0) hx hb dX7_best_1 rfl ?_
  refine z_put (ws' := [(o0, ob 7 [vI 0, .ref (a 1), .ref (a 2), .ref (a 3), .ref (a 4), .ref (a 5), vI mk, .ref (a 7), .ref (a 8), vI bl, .ref (a 10), vI hm, vI rc, .ref (a 13), .ref (a 14), .ref (a 15), vI lk, vI lg, vI kp, vI fi, vI lo, vI wt, .ref (a 22), .ref (a 23), .ref (a 24), .ref (a 25), .ref (a 26), vI gr, .ref (a 28), .ref (a 29), vI eb, vI ec, vI ef, vI iv])]) hC hK hP hD hS inX7 tyX7 tyX7_ok nmX7 rfl 0 rfl 0 (by decide) tw_792 rfl rfl rfl (Nat.le_of_ble_eq_true rfl) rfl dX7_best_2 (fun H locs hP hD hS => ?_)
  refine lv_aload_n hx hb dX7_best_5 rfl (lv_at hl 0 rfl) ?_
  refine z_get (v := vI iv) hC hK hP inX7 rfl 0 rfl 33 (by decide) tw_825 rfl dX7_best_6 ?_
  refine z_if_ne (tgt := 19) hx hb dX7_best_9 (by decide) (by omega) (fun c_9 => ?_) (fun c_9 => ?_)
  · refine lv_aload_n hx hb dX7_best_19 rfl (lv_at hl 0 rfl) ?_
    refine z_get (v := vI eb) hC hK hP inX7 rfl 0 rfl 30 (by decide) tw_822 rfl dX7_best_20 ?_
    refine lv_goto (tgt := 27) hx hb dX7_best_23 (by decide) ?_
    exact z_iretW hC hr hlk () hAe hP hD hS [0] (by decide) rfl rfl (⟨congrArg iI (by first | rw [if_pos (by omega)] | rw [if_neg (by omega)]), trivial⟩) dX7_best_27
  · refine lv_aload_n hx hb dX7_best_12 rfl (lv_at hl 0 rfl) ?_
    refine z_get (v := vI fi) hC hK hP inX7 rfl 0 rfl 19 (by decide) tw_811 rfl dX7_best_13 ?_
    refine z_if_ne (tgt := 26) hx hb dX7_best_16 (by decide) (by omega) (fun c_16 => ?_) (fun c_16 => ?_)
    · refine lv_iconst (v := iI (-1)) hx hb dX7_best_26 rfl ?_
      exact z_iretW hC hr hlk () hAe hP hD hS [0] (by decide) rfl rfl (⟨congrArg iI (by first | rw [if_pos (by omega)] | rw [if_neg (by omega)]), trivial⟩) dX7_best_27
    · refine lv_aload_n hx hb dX7_best_19 rfl (lv_at hl 0 rfl) ?_
      refine z_get (v := vI eb) hC hK hP inX7 rfl 0 rfl 30 (by decide) tw_822 rfl dX7_best_20 ?_
      refine lv_goto (tgt := 27) hx hb dX7_best_23 (by decide) ?_
      exact z_iretW hC hr hlk () hAe hP hD hS [0] (by decide) rfl rfl (⟨congrArg iI (by first | rw [if_pos (by omega)] | rw [if_neg (by omega)]), trivial⟩) dX7_best_27

set_option maxRecDepth 100000 in
set_option maxHeartbeats 4000000 in
theorem c_X7_cost (l : Launch) (G : zGt) (sz : Nat) (o0 : Nat) (a : Nat → Nat) (th mk bl hm rc lk lg kp fi lo wt gr eb ec ef iv : Int) (hiv : iv = 0 ∨ iv = 1) (hfi : 0 ≤ fi ∧ fi ≤ 41) : Met l yX7_cost (Cond.code yX7_cost cX7_cost 1 (some .int) :: tb) ({ frames := 0, cells := 0, slots := 0, locals := 0 } : Room) (zPw G [(o0, ob 7 [vI th, .ref (a 1), .ref (a 2), .ref (a 3), .ref (a 4), .ref (a 5), vI mk, .ref (a 7), .ref (a 8), vI bl, .ref (a 10), vI hm, vI rc, .ref (a 13), .ref (a 14), .ref (a 15), vI lk, vI lg, vI kp, vI fi, vI lo, vI wt, .ref (a 22), .ref (a 23), .ref (a 24), .ref (a 25), .ref (a 26), vI gr, .ref (a 28), .ref (a 29), vI eb, vI ec, vI ef, vI iv])] sz [.ref o0]) (va_Qi (fun (r : Int32) (u : Unit) => r = iI (if iv = 1 ∨ fi = 0 then ec else -1) ∧ True) (fun (u : Unit) t => zB G [(o0, ob 7 [vI th, .ref (a 1), .ref (a 2), .ref (a 3), .ref (a 4), .ref (a 5), vI mk, .ref (a 7), .ref (a 8), vI bl, .ref (a 10), vI hm, vI rc, .ref (a 13), .ref (a 14), .ref (a 15), vI lk, vI lg, vI kp, vI fi, vI lo, vI wt, .ref (a 22), .ref (a 23), .ref (a 24), .ref (a 25), .ref (a 26), vI gr, .ref (a 28), .ref (a 29), vI eb, vI ec, vI ef, vI iv])] sz [(o0, ob 7 [vI 0, .ref (a 1), .ref (a 2), .ref (a 3), .ref (a 4), .ref (a 5), vI mk, .ref (a 7), .ref (a 8), vI bl, .ref (a 10), vI hm, vI rc, .ref (a 13), .ref (a 14), .ref (a 15), vI lk, vI lg, vI kp, vI fi, vI lo, vI wt, .ref (a 22), .ref (a 23), .ref (a 24), .ref (a 25), .ref (a 26), vI gr, .ref (a 28), .ref (a 29), vI eb, vI ec, vI ef, vI iv])] t) (va_A [(o0, ob 7 [vI th, .ref (a 1), .ref (a 2), .ref (a 3), .ref (a 4), .ref (a 5), vI mk, .ref (a 7), .ref (a 8), vI bl, .ref (a 10), vI hm, vI rc, .ref (a 13), .ref (a 14), .ref (a 15), vI lk, vI lg, vI kp, vI fi, vI lo, vI wt, .ref (a 22), .ref (a 23), .ref (a 24), .ref (a 25), .ref (a 26), vI gr, .ref (a 28), .ref (a 29), vI eb, vI ec, vI ef, vI iv])] sz)) 0 0 (va_A [(o0, ob 7 [vI th, .ref (a 1), .ref (a 2), .ref (a 3), .ref (a 4), .ref (a 5), vI mk, .ref (a 7), .ref (a 8), vI bl, .ref (a 10), vI hm, vI rc, .ref (a 13), .ref (a 14), .ref (a 15), vI lk, vI lg, vI kp, vI fi, vI lo, vI wt, .ref (a 22), .ref (a 23), .ref (a 24), .ref (a 25), .ref (a 26), vI gr, .ref (a 28), .ref (a 29), vI eb, vI ec, vI ef, vI iv])] sz) := by
  refine Met.ofW (cc := cX7_cost) (maxL := 1) (ret := (some .int)) (by decide) rfl ?_
  intro p e s m args below meth c s₁ B hml hv
  obtain ⟨rfl, hsz, hP, hK, hD0⟩ := hv
  subst hsz
  have hD := hD0.self (sz := s.heap.size)
  obtain ⟨A, hAe⟩ : ∃ A : Nat → Prop, A = va_A [(o0, ob 7 [vI th, .ref (a 1), .ref (a 2), .ref (a 3), .ref (a 4), .ref (a 5), vI mk, .ref (a 7), .ref (a 8), vI bl, .ref (a 10), vI hm, vI rc, .ref (a 13), .ref (a 14), .ref (a 15), vI lk, vI lg, vI kp, vI fi, vI lo, vI wt, .ref (a 22), .ref (a 23), .ref (a 24), .ref (a 25), .ref (a 26), vI gr, .ref (a 28), .ref (a 29), vI eb, vI ec, vI ef, vI iv])] s.heap.size := ⟨_, rfl⟩
  rw [← hAe] at hD
  have hA : ∀ q : Nat, s.heap.size ≤ q → A q := fun q h => by rw [hAe]; exact Or.inr h
  have hS : va_S A s.heap s.heap [] := va_S.rf
  obtain ⟨hC, hr, hlk⟩ := z_begin B hml
  have hC : CallFix p m c cX7_cost 1 s _ tb RX7 := hC
  have hx := hC.1
  have hb := hC.2.1
  have hl := lv_entry ([.ref o0]) (n := 1) (Nat.le_of_ble_eq_true rfl)
  rw [lg_entry_eq]
  generalize (lg_sl ([.ref o0]) ++ List.replicate (1 - (lg_sl ([.ref o0])).length) Slot.unset).toArray = ls at hl ⊢
  have hl : lv_has ls 1 [(0, .ref o0)] := hl
  obtain ⟨H, hHe⟩ : ∃ H : Heap, H = s.heap := ⟨_, rfl⟩
  obtain ⟨locs, hLe⟩ : ∃ L : List Loc, L = [] := ⟨_, rfl⟩
  suffices hgo : W p l e (headSpec (Cond.code yX7_cost cX7_cost 1 (some .int) :: tb) ({ frames := 0, cells := 0, slots := 0, locals := 0 } : Room)).room s m ([.ref o0] : List Value).toArray below meth c H locs 0 0 (MQ below (va_Qi (fun (r : Int32) (u : Unit) => r = iI (if iv = 1 ∨ fi = 0 then ec else -1) ∧ True) (fun (u : Unit) t => zB G [(o0, ob 7 [vI th, .ref (a 1), .ref (a 2), .ref (a 3), .ref (a 4), .ref (a 5), vI mk, .ref (a 7), .ref (a 8), vI bl, .ref (a 10), vI hm, vI rc, .ref (a 13), .ref (a 14), .ref (a 15), vI lk, vI lg, vI kp, vI fi, vI lo, vI wt, .ref (a 22), .ref (a 23), .ref (a 24), .ref (a 25), .ref (a 26), vI gr, .ref (a 28), .ref (a 29), vI eb, vI ec, vI ef, vI iv])] s.heap.size [(o0, ob 7 [vI 0, .ref (a 1), .ref (a 2), .ref (a 3), .ref (a 4), .ref (a 5), vI mk, .ref (a 7), .ref (a 8), vI bl, .ref (a 10), vI hm, vI rc, .ref (a 13), .ref (a 14), .ref (a 15), vI lk, vI lg, vI kp, vI fi, vI lo, vI wt, .ref (a 22), .ref (a 23), .ref (a 24), .ref (a 25), .ref (a 26), vI gr, .ref (a 28), .ref (a 29), vI eb, vI ec, vI ef, vI iv])] t) (va_A [(o0, ob 7 [vI th, .ref (a 1), .ref (a 2), .ref (a 3), .ref (a 4), .ref (a 5), vI mk, .ref (a 7), .ref (a 8), vI bl, .ref (a 10), vI hm, vI rc, .ref (a 13), .ref (a 14), .ref (a 15), vI lk, vI lg, vI kp, vI fi, vI lo, vI wt, .ref (a 22), .ref (a 23), .ref (a 24), .ref (a 25), .ref (a 26), vI gr, .ref (a 28), .ref (a 29), vI eb, vI ec, vI ef, vI iv])] s.heap.size)) ([.ref o0] : List Value).toArray s 0 0 (va_A [(o0, ob 7 [vI th, .ref (a 1), .ref (a 2), .ref (a 3), .ref (a 4), .ref (a 5), vI mk, .ref (a 7), .ref (a 8), vI bl, .ref (a 10), vI hm, vI rc, .ref (a 13), .ref (a 14), .ref (a 15), vI lk, vI lg, vI kp, vI fi, vI lo, vI wt, .ref (a 22), .ref (a 23), .ref (a 24), .ref (a 25), .ref (a 26), vI gr, .ref (a 28), .ref (a 29), vI eb, vI ec, vI ef, vI iv])] s.heap.size)) (F0 m 0 ls []) by rw [hHe, hLe] at hgo; exact hgo
  rw [← hHe] at hP
  have hS : va_S A s.heap H locs := by rw [hHe, hLe]; exact hS
  clear hHe hLe
  refine lv_aload_n hx hb dX7_cost_0 rfl (lv_at hl 0 rfl) ?_
  refine lv_iconst (v := iI 0) hx hb dX7_cost_1 rfl ?_
  refine z_put (ws' := [(o0, ob 7 [vI 0, .ref (a 1), .ref (a 2), .ref (a 3), .ref (a 4), .ref (a 5), vI mk, .ref (a 7), .ref (a 8), vI bl, .ref (a 10), vI hm, vI rc, .ref (a 13), .ref (a 14), .ref (a 15), vI lk, vI lg, vI kp, vI fi, vI lo, vI wt, .ref (a 22), .ref (a 23), .ref (a 24), .ref (a 25), .ref (a 26), vI gr, .ref (a 28), .ref (a 29), vI eb, vI ec, vI ef, vI iv])]) hC hK hP hD hS inX7 tyX7 tyX7_ok nmX7 rfl 0 rfl 0 (by decide) tw_792 rfl rfl rfl (Nat.le_of_ble_eq_true rfl) rfl dX7_cost_2 (fun H locs hP hD hS => ?_)
  refine lv_aload_n hx hb dX7_cost_5 rfl (lv_at hl 0 rfl) ?_
  refine z_get (v := vI iv) hC hK hP inX7 rfl 0 rfl 33 (by decide) tw_825 rfl dX7_cost_6 ?_
  refine z_if_ne (tgt := 19) hx hb dX7_cost_9 (by decide) (by omega) (fun c_9 => ?_) (fun c_9 => ?_)
  · refine lv_aload_n hx hb dX7_cost_19 rfl (lv_at hl 0 rfl) ?_
    refine z_get (v := vI ec) hC hK hP inX7 rfl 0 rfl 31 (by decide) tw_823 rfl dX7_cost_20 ?_
    refine lv_goto (tgt := 27) hx hb dX7_cost_23 (by decide) ?_
    exact z_iretW hC hr hlk () hAe hP hD hS [0] (by decide) rfl rfl (⟨congrArg iI (by first | rw [if_pos (by omega)] | rw [if_neg (by omega)]), trivial⟩) dX7_cost_27
  · refine lv_aload_n hx hb dX7_cost_12 rfl (lv_at hl 0 rfl) ?_
    refine z_get (v := vI fi) hC hK hP inX7 rfl 0 rfl 19 (by decide) tw_811 rfl dX7_cost_13 ?_
    refine z_if_ne (tgt := 26) hx hb dX7_cost_16 (by decide) (by omega) (fun c_16 => ?_) (fun c_16 => ?_)
    · refine lv_iconst (v := iI (-1)) hx hb dX7_cost_26 rfl ?_
      exact z_iretW hC hr hlk () hAe hP hD hS [0] (by decide) rfl rfl (⟨congrArg iI (by first | rw [if_pos (by omega)] | rw [if_neg (by omega)]), trivial⟩) dX7_cost_27
    · refine lv_aload_n hx hb dX7_cost_19 rfl (lv_at hl 0 rfl) ?_
      refine z_get (v := vI ec) hC hK hP inX7 rfl 0 rfl 31 (by decide) tw_823 rfl dX7_cost_20 ?_
      refine lv_goto (tgt := 27) hx hb dX7_cost_23 (by decide) ?_
      exact z_iretW hC hr hlk () hAe hP hD hS [0] (by decide) rfl rfl (⟨congrArg iI (by first | rw [if_pos (by omega)] | rw [if_neg (by omega)]), trivial⟩) dX7_cost_27
