/-- what the groups from x on could gain, at most: hopes -/
def hpJ (K GA HP : Int → Int) (gr x : Int) : Prop := HP gr = 0 ∧ (0 ≤ HP x ∧ HP x ≤ 500000 * (gr - x)) ∧ ∀ g : Int, x ≤ g ∧ g < gr → (0 ≤ HP g ∧ HP g ≤ 500000 * (gr - g)) ∧ HP (g + 1) ≤ HP g ∧ HP g ≤ HP (g + 1) + 500000 ∧ ∀ k : Int, GA g ≤ k ∧ k < GA (g + 1) → HP (g + 1) + gnZ (K k) ≤ HP g
theorem hpJ_s {K GA HP : Int → Int} {gr x t : Int} (h : hpJ K GA HP gr (x + 1)) (hx : x < gr) (ht : 0 ≤ t ∧ t ≤ 500000) (hk : ∀ k : Int, GA x ≤ k ∧ k < GA (x + 1) → gnZ (K k) ≤ t) : hpJ K GA (zup HP x (HP (x + 1) + t)) gr x := by
  obtain ⟨h1, h2, h3⟩ := h
  refine ⟨by rw [zup_n _ _ (by omega)]; exact h1, by rw [zup_s]; omega, fun g hg => ?_⟩
  rw [zup_n _ _ (show g + 1 ≠ x by omega)]
  rcases (show g = x ∨ x + 1 ≤ g by omega) with q | q
  · rw [q, zup_s]
    exact ⟨by omega, by omega, by omega, fun k hk2 => by have := hk k hk2; omega⟩
  · rw [zup_n _ _ (show g ≠ x by omega)]
    exact h3 g (by omega)
theorem hpJ_I {K GA HP : Int → Int} {gr : Int} (h : hpJ K GA HP gr 0) : hpI GA (fun k => gnZ (K k)) HP gr :=
  ⟨h.1, fun g hg => ⟨(h.2.2 g hg).1.1, (h.2.2 g hg).2.1, (h.2.2 g hg).2.2.1, (h.2.2 g hg).2.2.2⟩⟩
theorem hpJ_bd {K GA HP : Int → Int} {gr : Int} (h : hpJ K GA HP gr 0) {g : Int} (hg : 0 ≤ g ∧ g ≤ gr) : 0 ≤ HP g ∧ HP g ≤ 500000 * (gr - g) := by
  rcases (show g = gr ∨ g < gr by omega) with q | q
  · rw [q, h.1]; omega
  · exact (h.2.2 g (by omega)).1
theorem btL_0 (f : Int → cuT → cuT) (a : Int) (cu : cuT) : btL f a (a - a).toNat cu = cu := by rw [Int.sub_self]; rfl
theorem btZ_n {GA GN BB : Int → Int} {n : Nat} {g : Int} (ps : List Int) (bi gn : Int) (cu : cuT) : btZ GA GN BB (n + 1) g ps bi gn cu = btZ GA GN BB n (g + 1) ps bi gn (btL (fun k cu => if zand (BB k) bi = 0 then btZ GA GN BB n (g + 1) (ps ++ [k]) (zor bi (BB k)) (gn + GN k) cu else cu) (GA g) (GA (g + 1) - GA g).toNat cu) := rfl
theorem btL_rng {GA GN BB : Int → Int} (hG : ∀ k, -2000 ≤ GN k ∧ GN k ≤ 500000) {n : Nat} {g : Int} {ps : List Int} {bi gn : Int} {cu : cuT} (h1 : -2000 * g ≤ gn ∧ gn ≤ 500000 * g) (h0 : 0 ≤ g) (h6 : g + (n : Int) < 6) (hc : -12001 ≤ cu.1 ∧ cu.1 ≤ 3000000) (a : Int) : ∀ k : Nat, -12001 ≤ (btL (fun k cu => if zand (BB k) bi = 0 then btZ GA GN BB n (g + 1) (ps ++ [k]) (zor bi (BB k)) (gn + GN k) cu else cu) a k cu).1 ∧ (btL (fun k cu => if zand (BB k) bi = 0 then btZ GA GN BB n (g + 1) (ps ++ [k]) (zor bi (BB k)) (gn + GN k) cu else cu) a k cu).1 ≤ 3000000 := by
  intro k
  induction k with
  | zero => exact hc
  | succ k ihk =>
    show -12001 ≤ (if zand (BB (a + (k : Int))) bi = 0 then _ else _ : cuT).1 ∧ (if zand (BB (a + (k : Int))) bi = 0 then _ else _ : cuT).1 ≤ 3000000
    have hg := hG (a + (k : Int))
    split
    · exact btZ_rng hG n (g + 1) _ _ _ _ (by omega) (by omega) (by omega) ihk
    · exact ihk
theorem rpH_keep {ps : List Int} {TR CH : Int → Int} {n bi gn : Int} (h : rpT ps TR n) (hn : n ≤ 6) : rpH (gn, ps, bi) (zcpy TR CH 6) n gn bi := by
  obtain ⟨h1, h2⟩ := h
  refine ⟨rfl, h1, by show ps.length ≤ 6; omega, fun i hi => ?_, rfl⟩
  have hi : i < ps.length := hi
  rw [zcpy_in (by omega)]
  exact h2 i hi
theorem mv_X0_keepTried : zMV yX0_keepTried cX0_keepTried 4 none RX0 3 := ⟨tw_407, tw_406, tw_10, tw_40, by decide +kernel⟩
theorem mv_X0_tryGroup : zMV yX0_tryGroup cX0_tryGroup 6 none RX0 4 := ⟨tw_403, tw_402, tw_9, tw_40, by decide +kernel⟩
theorem mv_X2_blockBitsOf : zMV yX2_blockBitsOf cX2_blockBitsOf 5 (some .int) RX2 1 := ⟨tw_398, tw_396, tw_397, tw_38, by decide +kernel⟩
set_option maxRecDepth 100000 in
set_option maxHeartbeats 4000000 in
theorem c_X0_weighFiles (l : Launch) (G : zGt) (sz : Nat) (u0 u1 u2 u3 u4 u5 u6 f0 : Nat) (gr cn cg cb : Int) (GA GN BB HP : Int → Int) (f1 h0 : Nat) (nf tm : Int) (K : Int → Int) (hnf : 0 ≤ nf ∧ nf ≤ 40) (hK0 : ∀ j : Int, 0 ≤ j ∧ j < nf → 0 ≤ K j ∧ K j < 268435456) (hgr : 0 ≤ gr ∧ gr ≤ 6) (hga : ∀ g : Int, 0 ≤ g ∧ g < gr → 0 ≤ GA g ∧ GA g ≤ GA (g + 1) ∧ GA (g + 1) ≤ nf) : Met l yX0_weighFiles (Cond.code yX0_weighFiles cX0_weighFiles 4 none :: tb) ({ frames := 4, cells := 0, slots := 0, locals := 90 } : Room) (zPw G [(u0, ob 0 [.ref f0, vI gr, .ref u1, .ref u2, .ref u3, .ref u4, .ref u5, .ref u6, vI cn, vI cg, vI cb]), (u1, aI G 7 GA), (u2, aI G 40 GN), (u3, aI G 40 BB), (u4, aI G 7 HP), (f0, ob 2 [.ref h0, .ref f1, vI nf, vI tm]), (f1, aI G 40 K)] sz [.ref u0]) (va_Qv (fun u : (Int → Int) × (Int → Int) × (Int → Int) => (∀ k : Int, GA 0 ≤ k ∧ k < GA gr → u.1 k = gnZ (K k) ∧ u.2.1 k = kBits (K k)) ∧ hpJ K GA u.2.2 gr 0) (fun (u : (Int → Int) × (Int → Int) × (Int → Int)) t => zB G [(u0, ob 0 [.ref f0, vI gr, .ref u1, .ref u2, .ref u3, .ref u4, .ref u5, .ref u6, vI cn, vI cg, vI cb]), (u1, aI G 7 GA), (u2, aI G 40 GN), (u3, aI G 40 BB), (u4, aI G 7 HP), (f0, ob 2 [.ref h0, .ref f1, vI nf, vI tm]), (f1, aI G 40 K)] sz [(u0, ob 0 [.ref f0, vI gr, .ref u1, .ref u2, .ref u3, .ref u4, .ref u5, .ref u6, vI cn, vI cg, vI cb]), (u1, aI G 7 GA), (u2, aI G 40 u.1), (u3, aI G 40 u.2.1), (u4, aI G 7 u.2.2), (f0, ob 2 [.ref h0, .ref f1, vI nf, vI tm]), (f1, aI G 40 K)] t) (va_A [(u0, ob 0 [.ref f0, vI gr, .ref u1, .ref u2, .ref u3, .ref u4, .ref u5, .ref u6, vI cn, vI cg, vI cb]), (u1, aI G 7 GA), (u2, aI G 40 GN), (u3, aI G 40 BB), (u4, aI G 7 HP), (f0, ob 2 [.ref h0, .ref f1, vI nf, vI tm]), (f1, aI G 40 K)] sz)) 0 0 (va_A [(u0, ob 0 [.ref f0, vI gr, .ref u1, .ref u2, .ref u3, .ref u4, .ref u5, .ref u6, vI cn, vI cg, vI cb]), (u1, aI G 7 GA), (u2, aI G 40 GN), (u3, aI G 40 BB), (u4, aI G 7 HP), (f0, ob 2 [.ref h0, .ref f1, vI nf, vI tm]), (f1, aI G 40 K)] sz) := by
  refine Met.ofW (cc := cX0_weighFiles) (maxL := 4) (ret := none) (by decide) rfl ?_
  intro p e s m args below meth c s₁ B hml hv
  obtain ⟨rfl, hsz, hP, hK, hD0⟩ := hv
  subst hsz
  have hD := hD0.self (sz := s.heap.size)
  obtain ⟨A, hAe⟩ : ∃ A : Nat → Prop, A = va_A [(u0, ob 0 [.ref f0, vI gr, .ref u1, .ref u2, .ref u3, .ref u4, .ref u5, .ref u6, vI cn, vI cg, vI cb]), (u1, aI G 7 GA), (u2, aI G 40 GN), (u3, aI G 40 BB), (u4, aI G 7 HP), (f0, ob 2 [.ref h0, .ref f1, vI nf, vI tm]), (f1, aI G 40 K)] s.heap.size := ⟨_, rfl⟩
  rw [← hAe] at hD
  have hA : ∀ q : Nat, s.heap.size ≤ q → A q := fun q h => by rw [hAe]; exact Or.inr h
  have hS : va_S A s.heap s.heap [] := va_S.rf
  obtain ⟨hC, hr, hlk⟩ := z_begin B hml
  have hC : CallFix p m c cX0_weighFiles 4 s _ tb RX0 := hC
  have hx := hC.1
  have hb := hC.2.1
  have hl := lv_entry ([.ref u0]) (n := 4) (Nat.le_of_ble_eq_true rfl)
  rw [lg_entry_eq]
  generalize (lg_sl ([.ref u0]) ++ List.replicate (4 - (lg_sl ([.ref u0])).length) Slot.unset).toArray = ls at hl ⊢
  have hl : lv_has ls 4 [(0, .ref u0)] := hl
  obtain ⟨H, hHe⟩ : ∃ H : Heap, H = s.heap := ⟨_, rfl⟩
  obtain ⟨locs, hLe⟩ : ∃ L : List Loc, L = [] := ⟨_, rfl⟩
  suffices hgo : W p l e (headSpec (Cond.code yX0_weighFiles cX0_weighFiles 4 none :: tb) ({ frames := 4, cells := 0, slots := 0, locals := 90 } : Room)).room s m ([.ref u0] : List Value).toArray below meth c H locs 0 0 (MQ below (va_Qv (fun u : (Int → Int) × (Int → Int) × (Int → Int) => (∀ k : Int, GA 0 ≤ k ∧ k < GA gr → u.1 k = gnZ (K k) ∧ u.2.1 k = kBits (K k)) ∧ hpJ K GA u.2.2 gr 0) (fun (u : (Int → Int) × (Int → Int) × (Int → Int)) t => zB G [(u0, ob 0 [.ref f0, vI gr, .ref u1, .ref u2, .ref u3, .ref u4, .ref u5, .ref u6, vI cn, vI cg, vI cb]), (u1, aI G 7 GA), (u2, aI G 40 GN), (u3, aI G 40 BB), (u4, aI G 7 HP), (f0, ob 2 [.ref h0, .ref f1, vI nf, vI tm]), (f1, aI G 40 K)] s.heap.size [(u0, ob 0 [.ref f0, vI gr, .ref u1, .ref u2, .ref u3, .ref u4, .ref u5, .ref u6, vI cn, vI cg, vI cb]), (u1, aI G 7 GA), (u2, aI G 40 u.1), (u3, aI G 40 u.2.1), (u4, aI G 7 u.2.2), (f0, ob 2 [.ref h0, .ref f1, vI nf, vI tm]), (f1, aI G 40 K)] t) (va_A [(u0, ob 0 [.ref f0, vI gr, .ref u1, .ref u2, .ref u3, .ref u4, .ref u5, .ref u6, vI cn, vI cg, vI cb]), (u1, aI G 7 GA), (u2, aI G 40 GN), (u3, aI G 40 BB), (u4, aI G 7 HP), (f0, ob 2 [.ref h0, .ref f1, vI nf, vI tm]), (f1, aI G 40 K)] s.heap.size)) ([.ref u0] : List Value).toArray s 0 0 (va_A [(u0, ob 0 [.ref f0, vI gr, .ref u1, .ref u2, .ref u3, .ref u4, .ref u5, .ref u6, vI cn, vI cg, vI cb]), (u1, aI G 7 GA), (u2, aI G 40 GN), (u3, aI G 40 BB), (u4, aI G 7 HP), (f0, ob 2 [.ref h0, .ref f1, vI nf, vI tm]), (f1, aI G 40 K)] s.heap.size)) (F0 m 0 ls []) by rw [hHe, hLe] at hgo; exact hgo
  rw [← hHe] at hP
  have hS : va_S A s.heap H locs := by rw [hHe, hLe]; exact hS
  clear hHe hLe
  refine lv_aload_n hx hb dX0_weighFiles_0 rfl (lv_at hl 0 rfl) ?_
  refine z_get (v := .ref u4) hC hK hP inX0 rfl 0 rfl 5 (by decide) tw_169 rfl dX0_weighFiles_1 ?_
  refine lv_iconst (v := iI 0) hx hb dX0_weighFiles_4 rfl ?_
  refine z_wSv (rest := []) (wr := [(u0, ob 0 [.ref f0, vI gr, .ref u1, .ref u2, .ref u3, .ref u4, .ref u5, .ref u6, vI cn, vI cg, vI cb]), (u1, aI G 7 GA), (u2, aI G 40 GN), (u3, aI G 40 BB), (f0, ob 2 [.ref h0, .ref f1, vI nf, vI tm]), (f1, aI G 40 K)]) hC hK hP hD hS hA (c_J7_fill_53178 l G H.size u4 HP 0) ms_J7_fill_53178 tw_362 [4] [0, 1, 2, 3, 5, 6] rfl rfl rfl rfl (by decide) rfl rfl hl.1 rfl (Nat.le_of_ble_eq_true rfl) ⟨rfl, rfl, Nat.le_of_ble_eq_true rfl, Nat.le_of_ble_eq_true rfl⟩ ⟨Nat.le_of_ble_eq_true rfl, Nat.le_of_ble_eq_true rfl⟩ dX0_weighFiles_5 (fun u H locs hw hP hD hS => ?_)
  have hP : va_P G.1 vwCl [(u0, ob 0 [.ref f0, vI gr, .ref u1, .ref u2, .ref u3, .ref u4, .ref u5, .ref u6, vI cn, vI cg, vI cb]), (u1, aI G 7 GA), (u2, aI G 40 GN), (u3, aI G 40 BB), (f0, ob 2 [.ref h0, .ref f1, vI nf, vI tm]), (f1, aI G 40 K), (u4, aI G 7 (zfl HP 0 7))] H := hP
  have hD : va_D A [(u0, ob 0 [.ref f0, vI gr, .ref u1, .ref u2, .ref u3, .ref u4, .ref u5, .ref u6, vI cn, vI cg, vI cb]), (u1, aI G 7 GA), (u2, aI G 40 GN), (u3, aI G 40 BB), (f0, ob 2 [.ref h0, .ref f1, vI nf, vI tm]), (f1, aI G 40 K), (u4, aI G 7 (zfl HP 0 7))] := hD
  have hw_1 := hw
  clear hw_1
  refine lv_aload_n hx hb dX0_weighFiles_8 rfl (lv_at hl 0 rfl) ?_
  refine z_get (v := vI gr) hC hK hP inX0 rfl 0 rfl 1 (by decide) tw_165 rfl dX0_weighFiles_9 ?_
  refine lv_iconst (v := iI 1) hx hb dX0_weighFiles_12 rfl ?_
  refine z_isub hx hb dX0_weighFiles_13 ?_
  refine lv_istore_n (lv' := [(1, vI (gr - 1)), (0, .ref u0)]) hx hb dX0_weighFiles_14 rfl hl (by decide) rfl (fun ls hl => ?_)
  have cut_15 : ∀ (n_ : Nat) (qg : Int) (qN : Int → Int) (qB : Int → Int) (qH : Int → Int) (H : Heap) (locs : List Loc) (ls : Array Slot), va_P G.1 vwCl [(u0, ob 0 [.ref f0, vI gr, .ref u1, .ref u2, .ref u3, .ref u4, .ref u5, .ref u6, vI cn, vI cg, vI cb]), (u1, aI G 7 GA), (u2, aI G 40 qN), (u3, aI G 40 qB), (f0, ob 2 [.ref h0, .ref f1, vI nf, vI tm]), (f1, aI G 40 K), (u4, aI G 7 qH)] H → va_D A [(u0, ob 0 [.ref f0, vI gr, .ref u1, .ref u2, .ref u3, .ref u4, .ref u5, .ref u6, vI cn, vI cg, vI cb]), (u1, aI G 7 GA), (u2, aI G 40 qN), (u3, aI G 40 qB), (f0, ob 2 [.ref h0, .ref f1, vI nf, vI tm]), (f1, aI G 40 K), (u4, aI G 7 qH)] → va_S A s.heap H locs → lv_has ls 4 [(0, .ref u0), (1, vI qg)] → (-1 ≤ qg ∧ qg < gr) → ((∀ k : Int, GA (qg + 1) ≤ k ∧ k < GA gr → qN k = gnZ (K k) ∧ qB k = kBits (K k))) → (hpJ K GA qH gr (qg + 1)) → (qg + 1).toNat < n_ → W p l e (headSpec (Cond.code yX0_weighFiles cX0_weighFiles 4 none :: tb) ({ frames := 4, cells := 0, slots := 0, locals := 90 } : Room)).room s m ([.ref u0] : List Value).toArray below meth c H locs 0 0 (MQ below (va_Qv (fun u : (Int → Int) × (Int → Int) × (Int → Int) => (∀ k : Int, GA 0 ≤ k ∧ k < GA gr → u.1 k = gnZ (K k) ∧ u.2.1 k = kBits (K k)) ∧ hpJ K GA u.2.2 gr 0) (fun (u : (Int → Int) × (Int → Int) × (Int → Int)) t => zB G [(u0, ob 0 [.ref f0, vI gr, .ref u1, .ref u2, .ref u3, .ref u4, .ref u5, .ref u6, vI cn, vI cg, vI cb]), (u1, aI G 7 GA), (u2, aI G 40 GN), (u3, aI G 40 BB), (u4, aI G 7 HP), (f0, ob 2 [.ref h0, .ref f1, vI nf, vI tm]), (f1, aI G 40 K)] s.heap.size [(u0, ob 0 [.ref f0, vI gr, .ref u1, .ref u2, .ref u3, .ref u4, .ref u5, .ref u6, vI cn, vI cg, vI cb]), (u1, aI G 7 GA), (u2, aI G 40 u.1), (u3, aI G 40 u.2.1), (u4, aI G 7 u.2.2), (f0, ob 2 [.ref h0, .ref f1, vI nf, vI tm]), (f1, aI G 40 K)] t) (va_A [(u0, ob 0 [.ref f0, vI gr, .ref u1, .ref u2, .ref u3, .ref u4, .ref u5, .ref u6, vI cn, vI cg, vI cb]), (u1, aI G 7 GA), (u2, aI G 40 GN), (u3, aI G 40 BB), (u4, aI G 7 HP), (f0, ob 2 [.ref h0, .ref f1, vI nf, vI tm]), (f1, aI G 40 K)] s.heap.size)) ([.ref u0] : List Value).toArray s 0 0 (va_A [(u0, ob 0 [.ref f0, vI gr, .ref u1, .ref u2, .ref u3, .ref u4, .ref u5, .ref u6, vI cn, vI cg, vI cb]), (u1, aI G 7 GA), (u2, aI G 40 GN), (u3, aI G 40 BB), (u4, aI G 7 HP), (f0, ob 2 [.ref h0, .ref f1, vI nf, vI tm]), (f1, aI G 40 K)] s.heap.size)) (F0 m 15 ls []) := by
    intro n_
    induction n_ with
    | zero => exact fun qg qN qB qH H locs ls hP hD hS hl hqg hqV hqH hm_ => absurd hm_ (Nat.not_lt_zero _)
    | succ n_ ih_15 =>
      intro qg qN qB qH H locs ls hP hD hS hl hqg hqV hqH hm_
      refine lv_iload_n hx hb dX0_weighFiles_15 rfl (lv_at hl 1 rfl) ?_
      refine z_if_lt (tgt := 124) hx hb dX0_weighFiles_16 (by decide) (by omega) (fun c_16 => ?_) (fun c_16 => ?_)
      · exact z_vretW hC hr hlk ⟨qN, qB, qH⟩ hAe hP hD hS [0, 1, 2, 3, 6, 4, 5] (by decide) rfl rfl (⟨fun k hk => hqV k (by rw [show qg + 1 = 0 by omega]; exact hk), by rw [show (0 : Int) = qg + 1 by omega]; exact hqH⟩) dX0_weighFiles_124
      · have hg0 := hga qg (by omega)
        have hh1 := hqH.2.1
        refine lv_iconst (v := iI 0) hx hb dX0_weighFiles_19 rfl ?_
        refine lv_istore_n (lv' := [(2, vI 0), (0, .ref u0), (1, vI qg)]) hx hb dX0_weighFiles_20 rfl hl (by decide) rfl (fun ls hl => ?_)
        refine lv_aload_n hx hb dX0_weighFiles_21 rfl (lv_at hl 1 rfl) ?_
        refine z_get (v := .ref u1) hC hK hP inX0 rfl 0 rfl 2 (by decide) tw_166 rfl dX0_weighFiles_22 ?_
        refine lv_iload_n hx hb dX0_weighFiles_25 rfl (lv_at hl 2 rfl) ?_
        refine z_iald hC hK hP 1 rfl (by omega) (by decide) dX0_weighFiles_26 ?_
        refine lv_istore_n (lv' := [(3, vI (GA qg)), (2, vI 0), (0, .ref u0), (1, vI qg)]) hx hb dX0_weighFiles_27 rfl hl (by decide) rfl (fun ls hl => ?_)
        have cut_28 : ∀ (n_ : Nat) (qk : Int) (qm : Int) (qN : Int → Int) (qB : Int → Int) (H : Heap) (locs : List Loc) (ls : Array Slot), va_P G.1 vwCl [(u0, ob 0 [.ref f0, vI gr, .ref u1, .ref u2, .ref u3, .ref u4, .ref u5, .ref u6, vI cn, vI cg, vI cb]), (u1, aI G 7 GA), (u2, aI G 40 qN), (u3, aI G 40 qB), (f0, ob 2 [.ref h0, .ref f1, vI nf, vI tm]), (f1, aI G 40 K), (u4, aI G 7 qH)] H → va_D A [(u0, ob 0 [.ref f0, vI gr, .ref u1, .ref u2, .ref u3, .ref u4, .ref u5, .ref u6, vI cn, vI cg, vI cb]), (u1, aI G 7 GA), (u2, aI G 40 qN), (u3, aI G 40 qB), (f0, ob 2 [.ref h0, .ref f1, vI nf, vI tm]), (f1, aI G 40 K), (u4, aI G 7 qH)] → va_S A s.heap H locs → lv_has ls 4 [(0, .ref u0), (1, vI qg), (2, vI qm), (3, vI qk)] → (GA qg ≤ qk ∧ qk ≤ GA (qg + 1)) → (0 ≤ qm ∧ qm ≤ 500000) → (∀ k : Int, GA qg ≤ k ∧ k < qk → gnZ (K k) ≤ qm) → ((∀ k : Int, (GA qg ≤ k ∧ k < qk) ∨ (GA (qg + 1) ≤ k ∧ k < GA gr) → qN k = gnZ (K k) ∧ qB k = kBits (K k))) → (GA (qg + 1) - qk).toNat < n_ → W p l e (headSpec (Cond.code yX0_weighFiles cX0_weighFiles 4 none :: tb) ({ frames := 4, cells := 0, slots := 0, locals := 90 } : Room)).room s m ([.ref u0] : List Value).toArray below meth c H locs 0 0 (MQ below (va_Qv (fun u : (Int → Int) × (Int → Int) × (Int → Int) => (∀ k : Int, GA 0 ≤ k ∧ k < GA gr → u.1 k = gnZ (K k) ∧ u.2.1 k = kBits (K k)) ∧ hpJ K GA u.2.2 gr 0) (fun (u : (Int → Int) × (Int → Int) × (Int → Int)) t => zB G [(u0, ob 0 [.ref f0, vI gr, .ref u1, .ref u2, .ref u3, .ref u4, .ref u5, .ref u6, vI cn, vI cg, vI cb]), (u1, aI G 7 GA), (u2, aI G 40 GN), (u3, aI G 40 BB), (u4, aI G 7 HP), (f0, ob 2 [.ref h0, .ref f1, vI nf, vI tm]), (f1, aI G 40 K)] s.heap.size [(u0, ob 0 [.ref f0, vI gr, .ref u1, .ref u2, .ref u3, .ref u4, .ref u5, .ref u6, vI cn, vI cg, vI cb]), (u1, aI G 7 GA), (u2, aI G 40 u.1), (u3, aI G 40 u.2.1), (u4, aI G 7 u.2.2), (f0, ob 2 [.ref h0, .ref f1, vI nf, vI tm]), (f1, aI G 40 K)] t) (va_A [(u0, ob 0 [.ref f0, vI gr, .ref u1, .ref u2, .ref u3, .ref u4, .ref u5, .ref u6, vI cn, vI cg, vI cb]), (u1, aI G 7 GA), (u2, aI G 40 GN), (u3, aI G 40 BB), (u4, aI G 7 HP), (f0, ob 2 [.ref h0, .ref f1, vI nf, vI tm]), (f1, aI G 40 K)] s.heap.size)) ([.ref u0] : List Value).toArray s 0 0 (va_A [(u0, ob 0 [.ref f0, vI gr, .ref u1, .ref u2, .ref u3, .ref u4, .ref u5, .ref u6, vI cn, vI cg, vI cb]), (u1, aI G 7 GA), (u2, aI G 40 GN), (u3, aI G 40 BB), (u4, aI G 7 HP), (f0, ob 2 [.ref h0, .ref f1, vI nf, vI tm]), (f1, aI G 40 K)] s.heap.size)) (F0 m 28 ls []) := by
          intro n_
          induction n_ with
          | zero => exact fun qk qm qN qB H locs ls hP hD hS hl hqk hqm hqx hqW hm_ => absurd hm_ (Nat.not_lt_zero _)
          | succ n_ ih_28 =>
            intro qk qm qN qB H locs ls hP hD hS hl hqk hqm hqx hqW hm_
            have hgb := gnZ_bd (K qk)
            refine lv_iload_n hx hb dX0_weighFiles_28 rfl (lv_at hl 3 rfl) ?_
            refine lv_aload_n hx hb dX0_weighFiles_29 rfl (lv_at hl 0 rfl) ?_
            refine z_get (v := .ref u1) hC hK hP inX0 rfl 0 rfl 2 (by decide) tw_166 rfl dX0_weighFiles_30 ?_
            refine lv_iload_n hx hb dX0_weighFiles_33 rfl (lv_at hl 1 rfl) ?_
            refine lv_iconst (v := iI 1) hx hb dX0_weighFiles_34 rfl ?_
            refine z_iadd hx hb dX0_weighFiles_35 ?_
            refine z_iald hC hK hP 1 rfl (by omega) (by decide) dX0_weighFiles_36 ?_
            refine z_icmp_ge (tgt := 102) hx hb dX0_weighFiles_37 (by decide) (by omega) (fun c_37 => ?_) (fun c_37 => ?_)
            · refine lv_aload_n hx hb dX0_weighFiles_102 rfl (lv_at hl 0 rfl) ?_
              refine z_get (v := .ref u4) hC hK hP inX0 rfl 0 rfl 5 (by decide) tw_169 rfl dX0_weighFiles_103 ?_
              refine lv_iload_n hx hb dX0_weighFiles_106 rfl (lv_at hl 1 rfl) ?_
              refine lv_aload_n hx hb dX0_weighFiles_107 rfl (lv_at hl 0 rfl) ?_
              refine z_get (v := .ref u4) hC hK hP inX0 rfl 0 rfl 5 (by decide) tw_169 rfl dX0_weighFiles_108 ?_
              refine lv_iload_n hx hb dX0_weighFiles_111 rfl (lv_at hl 1 rfl) ?_
              refine lv_iconst (v := iI 1) hx hb dX0_weighFiles_112 rfl ?_
              refine z_iadd hx hb dX0_weighFiles_113 ?_
              refine z_iald hC hK hP 6 rfl (by omega) (by decide) dX0_weighFiles_114 ?_
              refine lv_iload_n hx hb dX0_weighFiles_115 rfl (lv_at hl 2 rfl) ?_
              refine z_iadd hx hb dX0_weighFiles_116 ?_
              refine z_iast (ws' := [(u0, ob 0 [.ref f0, vI gr, .ref u1, .ref u2, .ref u3, .ref u4, .ref u5, .ref u6, vI cn, vI cg, vI cb]), (u1, aI G 7 GA), (u2, aI G 40 qN), (u3, aI G 40 qB), (f0, ob 2 [.ref h0, .ref f1, vI nf, vI tm]), (f1, aI G 40 K), (u4, aI G 7 (zup qH qg ((qH (qg + 1)) + qm)))]) hC hK hP hD hS 6 rfl (by omega) (by decide) rfl dX0_weighFiles_117 (fun H locs hP hD hS => ?_)
              refine z_iinc (k := 1) (lv' := [(1, vI (qg + (-1))), (0, .ref u0), (2, vI qm), (3, vI qk)]) hx hb dX0_weighFiles_118 hl rfl (by decide) rfl (fun ls hl => ?_)
              refine lv_goto (tgt := 15) hx hb dX0_weighFiles_121 (by decide) ?_
              exact ih_15 (qg + (-1)) qN qB (zup qH qg ((qH (qg + 1)) + qm)) H locs ls hP hD hS (lv_sub hl [1, 0] rfl) (by omega) (fun k hk => hqW k (by rw [show qg + -1 + 1 = qg by omega] at hk; omega)) (by rw [show qg + -1 + 1 = qg by omega]; exact hpJ_s hqH (by omega) hqm (fun k hk => hqx k (by omega))) (by omega)
            · refine lv_aload_n hx hb dX0_weighFiles_40 rfl (lv_at hl 0 rfl) ?_
              refine z_get (v := .ref u2) hC hK hP inX0 rfl 0 rfl 3 (by decide) tw_167 rfl dX0_weighFiles_41 ?_
              refine lv_iload_n hx hb dX0_weighFiles_44 rfl (lv_at hl 3 rfl) ?_
              refine lv_aload_n hx hb dX0_weighFiles_45 rfl (lv_at hl 0 rfl) ?_
              refine z_get (v := .ref f0) hC hK hP inX0 rfl 0 rfl 0 (by decide) tw_164 rfl dX0_weighFiles_46 ?_
              refine lv_iload_n hx hb dX0_weighFiles_49 rfl (lv_at hl 3 rfl) ?_
              refine z_rVi (q0 := 4) (ci := 2) (b := f0) (rest := [vI qk, .ref u2]) hC hK hP (c_X2_sizeOf l G f0 f1 h0 nf tm K qk (by omega) (by omega) (by omega)) mv_X2_sizeOf tw_381 [4, 5] rfl rfl rfl rfl hl.1 rfl (Nat.le_of_ble_eq_true rfl) ⟨rfl, rfl, Nat.le_of_ble_eq_true rfl, Nat.le_of_ble_eq_true rfl⟩ ⟨Nat.le_of_ble_eq_true rfl, Nat.le_of_ble_eq_true rfl⟩ dX0_weighFiles_50 ?_
              refine lv_ldc (v := iI 100000) hx hb hC.2.2.2.1 (hC.2.2.2.2 _ tw_386) dX0_weighFiles_53 ?_
              refine z_imul hx hb dX0_weighFiles_55 ?_
              refine lv_aload_n hx hb dX0_weighFiles_56 rfl (lv_at hl 0 rfl) ?_
              refine z_get (v := .ref f0) hC hK hP inX0 rfl 0 rfl 0 (by decide) tw_164 rfl dX0_weighFiles_57 ?_
              refine lv_iload_n hx hb dX0_weighFiles_60 rfl (lv_at hl 3 rfl) ?_
              refine z_rVi (q0 := 4) (ci := 2) (b := f0) (rest := [vI ((kSz (K qk)) * 100000), vI qk, .ref u2]) hC hK hP (c_X2_costOf l G f0 f1 h0 nf tm K qk (by omega) (by omega) (by omega)) mv_X2_costOf tw_387 [4, 5] rfl rfl rfl rfl hl.1 rfl (Nat.le_of_ble_eq_true rfl) ⟨rfl, rfl, Nat.le_of_ble_eq_true rfl, Nat.le_of_ble_eq_true rfl⟩ ⟨Nat.le_of_ble_eq_true rfl, Nat.le_of_ble_eq_true rfl⟩ dX0_weighFiles_61 ?_
              refine lv_bipush (v := iI 10) hx hb dX0_weighFiles_64 (by decide) ?_
              refine z_imul hx hb dX0_weighFiles_66 ?_
              refine z_isub hx hb dX0_weighFiles_67 ?_
              refine lv_iconst (v := iI 1) hx hb dX0_weighFiles_68 rfl ?_
              refine z_isub hx hb dX0_weighFiles_69 ?_
              refine z_iast (ws' := [(u0, ob 0 [.ref f0, vI gr, .ref u1, .ref u2, .ref u3, .ref u4, .ref u5, .ref u6, vI cn, vI cg, vI cb]), (u1, aI G 7 GA), (u2, aI G 40 (zup qN qk ((((kSz (K qk)) * 100000) - ((kCost (K qk)) * 10)) - 1))), (u3, aI G 40 qB), (f0, ob 2 [.ref h0, .ref f1, vI nf, vI tm]), (f1, aI G 40 K), (u4, aI G 7 qH)]) hC hK hP hD hS 2 rfl (by omega) (by decide) rfl dX0_weighFiles_70 (fun H locs hP hD hS => ?_)
              refine lv_aload_n hx hb dX0_weighFiles_71 rfl (lv_at hl 0 rfl) ?_
              refine z_get (v := .ref u3) hC hK hP inX0 rfl 0 rfl 4 (by decide) tw_168 rfl dX0_weighFiles_72 ?_
              refine lv_iload_n hx hb dX0_weighFiles_75 rfl (lv_at hl 3 rfl) ?_
              refine lv_aload_n hx hb dX0_weighFiles_76 rfl (lv_at hl 0 rfl) ?_
              refine z_get (v := .ref f0) hC hK hP inX0 rfl 0 rfl 0 (by decide) tw_164 rfl dX0_weighFiles_77 ?_
              refine lv_iload_n hx hb dX0_weighFiles_80 rfl (lv_at hl 3 rfl) ?_
              refine z_rVi (q0 := 4) (ci := 2) (b := f0) (rest := [vI qk, .ref u3]) hC hK hP (c_X2_blockBitsOf l G f0 f1 h0 nf tm K qk (by omega) (by omega) (by omega)) mv_X2_blockBitsOf tw_395 [4, 5] rfl rfl rfl rfl hl.1 rfl (Nat.le_of_ble_eq_true rfl) ⟨rfl, rfl, Nat.le_of_ble_eq_true rfl, Nat.le_of_ble_eq_true rfl⟩ ⟨Nat.le_of_ble_eq_true rfl, Nat.le_of_ble_eq_true rfl⟩ dX0_weighFiles_81 ?_
              refine z_iast (ws' := [(u0, ob 0 [.ref f0, vI gr, .ref u1, .ref u2, .ref u3, .ref u4, .ref u5, .ref u6, vI cn, vI cg, vI cb]), (u1, aI G 7 GA), (u2, aI G 40 (zup qN qk ((((kSz (K qk)) * 100000) - ((kCost (K qk)) * 10)) - 1))), (u3, aI G 40 (zup qB qk (kBits (K qk)))), (f0, ob 2 [.ref h0, .ref f1, vI nf, vI tm]), (f1, aI G 40 K), (u4, aI G 7 qH)]) hC hK hP hD hS 3 rfl (by omega) (by decide) rfl dX0_weighFiles_84 (fun H locs hP hD hS => ?_)
              refine lv_iload_n hx hb dX0_weighFiles_85 rfl (lv_at hl 2 rfl) ?_
              refine lv_aload_n hx hb dX0_weighFiles_86 rfl (lv_at hl 0 rfl) ?_
              refine z_get (v := .ref u2) hC hK hP inX0 rfl 0 rfl 3 (by decide) tw_167 rfl dX0_weighFiles_87 ?_
              refine lv_iload_n hx hb dX0_weighFiles_90 rfl (lv_at hl 3 rfl) ?_
              refine z_iald hC hK hP 2 rfl (by omega) (by decide) dX0_weighFiles_91 ?_
              refine z_top (y := gnZ (K qk)) (zup_s _ _ _) ?_
              refine z_rSi (rest := []) hC hK hP (c_J9_max_7cf53 l G qm (gnZ (K qk)) (by omega) (by omega)) ms_J9_max_7cf53 tw_399 [] rfl rfl hl.1 rfl (Nat.le_of_ble_eq_true rfl) ⟨rfl, rfl, Nat.le_of_ble_eq_true rfl, Nat.le_of_ble_eq_true rfl⟩ ⟨Nat.le_of_ble_eq_true rfl, Nat.le_of_ble_eq_true rfl⟩ dX0_weighFiles_92 ?_
              refine lv_istore_n (lv' := [(2, vI (if qm < (gnZ (K qk)) then (gnZ (K qk)) else qm)), (0, .ref u0), (1, vI qg), (3, vI qk)]) hx hb dX0_weighFiles_95 rfl hl (by decide) rfl (fun ls hl => ?_)
              refine z_iinc (k := 3) (lv' := [(3, vI (qk + 1)), (2, vI (if qm < (gnZ (K qk)) then (gnZ (K qk)) else qm)), (0, .ref u0), (1, vI qg)]) hx hb dX0_weighFiles_96 hl rfl (by decide) rfl (fun ls hl => ?_)
              refine lv_goto (tgt := 28) hx hb dX0_weighFiles_99 (by decide) ?_
              exact ih_28 (qk + 1) (if qm < (gnZ (K qk)) then (gnZ (K qk)) else qm) (zup qN qk ((((kSz (K qk)) * 100000) - ((kCost (K qk)) * 10)) - 1)) (zup qB qk (kBits (K qk))) H locs ls hP hD hS (lv_sub hl [2, 3, 1, 0] rfl) (by omega) (by split <;> omega) (fun k hk => by rcases (show k = qk ∨ k < qk by omega) with h | h; rw [h]; split <;> omega; have := hqx k (by omega); split <;> omega) (fun k hk => by rcases (show k = qk ∨ k ≠ qk by omega) with h | h; rw [h, zup_s, zup_s]; exact ⟨rfl, rfl⟩; rw [zup_n _ _ h, zup_n _ _ h]; exact hqW k (by omega)) (by omega)
        exact cut_28 ((GA (qg + 1) - (GA qg)).toNat + 1) (GA qg) 0 qN qB H locs ls hP hD hS (lv_sub hl [2, 3, 1, 0] rfl) (by omega) (by omega) (fun k hk => by omega) (fun k hk => hqV k (by omega)) (Nat.lt_succ_self _)
  exact cut_15 (((gr - 1) + 1).toNat + 1) (gr - 1) GN BB (zfl HP 0 7) H locs ls hP hD hS (lv_sub hl [1, 0] rfl) (by omega) (fun k hk => by rw [show gr - 1 + 1 = gr by omega] at hk; omega) (by rw [show gr - 1 + 1 = gr by omega]; exact ⟨if_pos (by omega), by rw [show zfl HP 0 7 gr = 0 from if_pos (by omega)]; omega, fun g hg => by omega⟩) (Nat.lt_succ_self _)

set_option maxRecDepth 100000 in
set_option maxHeartbeats 4000000 in
theorem c_X0_tryGroup_6 (l : Launch) (G : zGt) (sz : Nat) (u0 u1 u2 u3 u4 u5 u6 f0 : Nat) (gr cn cg cb : Int) (GA GN BB HP TR CH : Int → Int) (nf : Int) (K : Int → Int) (ps : List Int) (cu : cuT) (ct bi gn : Int) (hnf : 0 ≤ nf ∧ nf ≤ 40) (hgr : 0 ≤ gr ∧ gr ≤ 6) (hgD : 6 ≤ gr) (hga : ∀ g : Int, 0 ≤ g ∧ g < gr → 0 ≤ GA g ∧ GA g ≤ GA (g + 1) ∧ GA (g + 1) ≤ nf) (hmo : ∀ g : Int, 0 ≤ g ∧ g ≤ gr → GA g ≤ GA gr) (hvl : (∀ k : Int, 0 ≤ k ∧ k < GA gr → GN k = gnZ (K k) ∧ BB k = kBits (K k))) (hhp : hpJ K GA HP gr 0) (hps : rpT ps TR ct) (hct : ct ≤ 6) (hgn : -2000 * 6 ≤ gn ∧ gn ≤ 500000 * 6) (hcu : -12001 ≤ cu.1 ∧ cu.1 ≤ 3000000) (hrp : rpH cu CH cn cg cb) : Met l yX0_tryGroup (Cond.code yX0_tryGroup cX0_tryGroup 6 none :: tb) ({ frames := 2, cells := 0, slots := 0, locals := 41 } : Room) (zPw G [(u0, ob 0 [.ref f0, vI gr, .ref u1, .ref u2, .ref u3, .ref u4, .ref u5, .ref u6, vI cn, vI cg, vI cb]), (u1, aI G 7 GA), (u2, aI G 40 GN), (u3, aI G 40 BB), (u4, aI G 7 HP), (u5, aI G 6 TR), (u6, aI G 6 CH)] sz [.ref u0, vI 6, vI ct, vI bi, vI gn]) (va_Qv (fun u : Int × Int × Int × (Int → Int) × (Int → Int) => rpH (btZ GA (fun k => gnZ (K k)) (fun k => kBits (K k)) (gr - 6).toNat 6 ps bi gn cu) u.2.2.2.2 u.1 u.2.1 u.2.2.1 ∧ ∀ j : Int, 0 ≤ j ∧ j < ct → u.2.2.2.1 j = TR j) (fun (u : Int × Int × Int × (Int → Int) × (Int → Int)) t => zB G [(u0, ob 0 [.ref f0, vI gr, .ref u1, .ref u2, .ref u3, .ref u4, .ref u5, .ref u6, vI cn, vI cg, vI cb]), (u1, aI G 7 GA), (u2, aI G 40 GN), (u3, aI G 40 BB), (u4, aI G 7 HP), (u5, aI G 6 TR), (u6, aI G 6 CH)] sz [(u0, ob 0 [.ref f0, vI gr, .ref u1, .ref u2, .ref u3, .ref u4, .ref u5, .ref u6, vI u.1, vI u.2.1, vI u.2.2.1]), (u1, aI G 7 GA), (u2, aI G 40 GN), (u3, aI G 40 BB), (u4, aI G 7 HP), (u5, aI G 6 u.2.2.2.1), (u6, aI G 6 u.2.2.2.2)] t) (va_A [(u0, ob 0 [.ref f0, vI gr, .ref u1, .ref u2, .ref u3, .ref u4, .ref u5, .ref u6, vI cn, vI cg, vI cb]), (u1, aI G 7 GA), (u2, aI G 40 GN), (u3, aI G 40 BB), (u4, aI G 7 HP), (u5, aI G 6 TR), (u6, aI G 6 CH)] sz)) 0 0 (va_A [(u0, ob 0 [.ref f0, vI gr, .ref u1, .ref u2, .ref u3, .ref u4, .ref u5, .ref u6, vI cn, vI cg, vI cb]), (u1, aI G 7 GA), (u2, aI G 40 GN), (u3, aI G 40 BB), (u4, aI G 7 HP), (u5, aI G 6 TR), (u6, aI G 6 CH)] sz) := by
  refine Met.ofW (cc := cX0_tryGroup) (maxL := 6) (ret := none) (by decide) rfl ?_
  intro p e s m args below meth c s₁ B hml hv
  obtain ⟨rfl, hsz, hP, hK, hD0⟩ := hv
  subst hsz
  have hD := hD0.self (sz := s.heap.size)
  obtain ⟨A, hAe⟩ : ∃ A : Nat → Prop, A = va_A [(u0, ob 0 [.ref f0, vI gr, .ref u1, .ref u2, .ref u3, .ref u4, .ref u5, .ref u6, vI cn, vI cg, vI cb]), (u1, aI G 7 GA), (u2, aI G 40 GN), (u3, aI G 40 BB), (u4, aI G 7 HP), (u5, aI G 6 TR), (u6, aI G 6 CH)] s.heap.size := ⟨_, rfl⟩
  rw [← hAe] at hD
  have hA : ∀ q : Nat, s.heap.size ≤ q → A q := fun q h => by rw [hAe]; exact Or.inr h
  have hS : va_S A s.heap s.heap [] := va_S.rf
  obtain ⟨hC, hr, hlk⟩ := z_begin B hml
  have hC : CallFix p m c cX0_tryGroup 6 s _ tb RX0 := hC
  have hx := hC.1
  have hb := hC.2.1
  have hl := lv_entry ([.ref u0, vI 6, vI ct, vI bi, vI gn]) (n := 6) (Nat.le_of_ble_eq_true rfl)
  rw [lg_entry_eq]
  generalize (lg_sl ([.ref u0, vI 6, vI ct, vI bi, vI gn]) ++ List.replicate (6 - (lg_sl ([.ref u0, vI 6, vI ct, vI bi, vI gn])).length) Slot.unset).toArray = ls at hl ⊢
  have hl : lv_has ls 6 [(0, .ref u0), (1, vI 6), (2, vI ct), (3, vI bi), (4, vI gn)] := hl
  obtain ⟨H, hHe⟩ : ∃ H : Heap, H = s.heap := ⟨_, rfl⟩
  obtain ⟨locs, hLe⟩ : ∃ L : List Loc, L = [] := ⟨_, rfl⟩
  suffices hgo : W p l e (headSpec (Cond.code yX0_tryGroup cX0_tryGroup 6 none :: tb) ({ frames := 2, cells := 0, slots := 0, locals := 41 } : Room)).room s m ([.ref u0, vI 6, vI ct, vI bi, vI gn] : List Value).toArray below meth c H locs 0 0 (MQ below (va_Qv (fun u : Int × Int × Int × (Int → Int) × (Int → Int) => rpH (btZ GA (fun k => gnZ (K k)) (fun k => kBits (K k)) (gr - 6).toNat 6 ps bi gn cu) u.2.2.2.2 u.1 u.2.1 u.2.2.1 ∧ ∀ j : Int, 0 ≤ j ∧ j < ct → u.2.2.2.1 j = TR j) (fun (u : Int × Int × Int × (Int → Int) × (Int → Int)) t => zB G [(u0, ob 0 [.ref f0, vI gr, .ref u1, .ref u2, .ref u3, .ref u4, .ref u5, .ref u6, vI cn, vI cg, vI cb]), (u1, aI G 7 GA), (u2, aI G 40 GN), (u3, aI G 40 BB), (u4, aI G 7 HP), (u5, aI G 6 TR), (u6, aI G 6 CH)] s.heap.size [(u0, ob 0 [.ref f0, vI gr, .ref u1, .ref u2, .ref u3, .ref u4, .ref u5, .ref u6, vI u.1, vI u.2.1, vI u.2.2.1]), (u1, aI G 7 GA), (u2, aI G 40 GN), (u3, aI G 40 BB), (u4, aI G 7 HP), (u5, aI G 6 u.2.2.2.1), (u6, aI G 6 u.2.2.2.2)] t) (va_A [(u0, ob 0 [.ref f0, vI gr, .ref u1, .ref u2, .ref u3, .ref u4, .ref u5, .ref u6, vI cn, vI cg, vI cb]), (u1, aI G 7 GA), (u2, aI G 40 GN), (u3, aI G 40 BB), (u4, aI G 7 HP), (u5, aI G 6 TR), (u6, aI G 6 CH)] s.heap.size)) ([.ref u0, vI 6, vI ct, vI bi, vI gn] : List Value).toArray s 0 0 (va_A [(u0, ob 0 [.ref f0, vI gr, .ref u1, .ref u2, .ref u3, .ref u4, .ref u5, .ref u6, vI cn, vI cg, vI cb]), (u1, aI G 7 GA), (u2, aI G 40 GN), (u3, aI G 40 BB), (u4, aI G 7 HP), (u5, aI G 6 TR), (u6, aI G 6 CH)] s.heap.size)) (F0 m 0 ls []) by rw [hHe, hLe] at hgo; exact hgo
  rw [← hHe] at hP
  have hS : va_S A s.heap H locs := by rw [hHe, hLe]; exact hS
  clear hHe hLe
  have hhb := hpJ_bd hhp (g := 6) (by omega)
  have hcg := hrp.1
  have hpl := hps.1
  refine lv_iload_n hx hb dX0_tryGroup_0 rfl (lv_at hl 1 rfl) ?_
  refine lv_aload_n hx hb dX0_tryGroup_1 rfl (lv_at hl 0 rfl) ?_
  refine z_get (v := vI gr) hC hK hP inX0 rfl 0 rfl 1 (by decide) tw_165 rfl dX0_tryGroup_2 ?_
  refine z_icmp_gt (tgt := 30) hx hb dX0_tryGroup_5 (by decide) (by omega) (fun c_5 => ?_) (fun c_5 => ?_)
  · exfalso; omega
  · refine lv_iload_n hx hb dX0_tryGroup_8 rfl (lv_at hl 1 rfl) ?_
    refine lv_bipush (v := iI 6) hx hb dX0_tryGroup_9 (by decide) ?_
    refine z_icmp_gt (tgt := 30) hx hb dX0_tryGroup_11 (by decide) (by omega) (fun c_11 => ?_) (fun c_11 => ?_)
    · exfalso; omega
    · refine lv_iload hx hb dX0_tryGroup_14 (lv_at hl 4 rfl) ?_
      refine lv_aload_n hx hb dX0_tryGroup_16 rfl (lv_at hl 0 rfl) ?_
      refine z_get (v := .ref u4) hC hK hP inX0 rfl 0 rfl 5 (by decide) tw_169 rfl dX0_tryGroup_17 ?_
      refine lv_iload_n hx hb dX0_tryGroup_20 rfl (lv_at hl 1 rfl) ?_
      refine z_iald hC hK hP 4 rfl (by omega) (by decide) dX0_tryGroup_21 ?_
      refine z_iadd hx hb dX0_tryGroup_22 ?_
      refine lv_aload_n hx hb dX0_tryGroup_23 rfl (lv_at hl 0 rfl) ?_
      refine z_get (v := vI cg) hC hK hP inX0 rfl 0 rfl 9 (by decide) tw_173 rfl dX0_tryGroup_24 ?_
      refine z_icmp_gt (tgt := 31) hx hb dX0_tryGroup_27 (by decide) (by omega) (fun c_27 => ?_) (fun c_27 => ?_)
      · refine lv_iload_n hx hb dX0_tryGroup_31 rfl (lv_at hl 1 rfl) ?_
        refine lv_aload_n hx hb dX0_tryGroup_32 rfl (lv_at hl 0 rfl) ?_
        refine z_get (v := vI gr) hC hK hP inX0 rfl 0 rfl 1 (by decide) tw_165 rfl dX0_tryGroup_33 ?_
        refine z_icmp_ne (tgt := 48) hx hb dX0_tryGroup_36 (by decide) (by omega) (fun c_36 => ?_) (fun c_36 => ?_)
        · exfalso; omega
        · refine lv_aload_n hx hb dX0_tryGroup_39 rfl (lv_at hl 0 rfl) ?_
          refine lv_iload_n hx hb dX0_tryGroup_40 rfl (lv_at hl 2 rfl) ?_
          refine lv_iload_n hx hb dX0_tryGroup_41 rfl (lv_at hl 3 rfl) ?_
          refine lv_iload hx hb dX0_tryGroup_42 (lv_at hl 4 rfl) ?_
          refine z_wVv (q0 := 0) (ci := 0) (b := u0) (rest := []) (wr := [(u1, aI G 7 GA), (u2, aI G 40 GN), (u3, aI G 40 BB), (u4, aI G 7 HP)]) hC hK hP hD hS hA (c_X0_keepTried l G H.size u0 u1 u2 u3 u4 u5 u6 f0 gr cn cg cb TR CH ct bi gn) mv_X0_keepTried tw_404 [0, 5, 6] [1, 2, 3, 4] rfl rfl rfl rfl (by decide) rfl rfl rfl rfl hl.1 rfl (Nat.le_of_ble_eq_true rfl) ⟨rfl, rfl, Nat.le_of_ble_eq_true rfl, Nat.le_of_ble_eq_true rfl⟩ ⟨Nat.le_of_ble_eq_true rfl, Nat.le_of_ble_eq_true rfl⟩ dX0_tryGroup_44 (fun u H locs hw hP hD hS => ?_)
          have hP : va_P G.1 vwCl [(u1, aI G 7 GA), (u2, aI G 40 GN), (u3, aI G 40 BB), (u4, aI G 7 HP), (u0, ob 0 [.ref f0, vI gr, .ref u1, .ref u2, .ref u3, .ref u4, .ref u5, .ref u6, vI ct, vI gn, vI bi]), (u5, aI G 6 TR), (u6, aI G 6 (zcpy TR CH 6))] H := hP
          have hD : va_D A [(u1, aI G 7 GA), (u2, aI G 40 GN), (u3, aI G 40 BB), (u4, aI G 7 HP), (u0, ob 0 [.ref f0, vI gr, .ref u1, .ref u2, .ref u3, .ref u4, .ref u5, .ref u6, vI ct, vI gn, vI bi]), (u5, aI G 6 TR), (u6, aI G 6 (zcpy TR CH 6))] := hD
          have hw_1 := hw
          clear hw_1
          exact z_vretW hC hr hlk ⟨ct, gn, bi, TR, zcpy TR CH 6⟩ hAe hP hD hS [4, 0, 1, 2, 3, 5, 6] (by decide) rfl rfl (⟨by rw [show (gr - 6).toNat = 0 by omega]; rw [show btZ GA (fun k => gnZ (K k)) (fun k => kBits (K k)) 0 6 ps bi gn cu = (gn, ps, bi) from if_pos (by have h9 := hhp.1; rw [show gr = 6 by omega] at h9; omega)]; exact rpH_keep hps (by omega), fun j hj => rfl⟩) dX0_tryGroup_47
      · exact z_vretW hC hr hlk ⟨cn, cg, cb, TR, CH⟩ hAe hP hD hS [0, 1, 2, 3, 4, 5, 6] (by decide) rfl rfl (⟨by rw [btZ_prune (hpJ_I hhp) (gr - 6).toNat 6 ps bi gn cu (by decide) (by omega) (by omega)]; exact hrp, fun j hj => rfl⟩) dX0_tryGroup_30

set_option maxRecDepth 100000 in
set_option maxHeartbeats 4000000 in
theorem c_X0_tryGroup_5 (l : Launch) (G : zGt) (sz : Nat) (u0 u1 u2 u3 u4 u5 u6 f0 : Nat) (gr cn cg cb : Int) (GA GN BB HP TR CH : Int → Int) (nf : Int) (K : Int → Int) (ps : List Int) (cu : cuT) (ct bi gn : Int) (hnf : 0 ≤ nf ∧ nf ≤ 40) (hgr : 0 ≤ gr ∧ gr ≤ 6) (hgD : 5 ≤ gr) (hga : ∀ g : Int, 0 ≤ g ∧ g < gr → 0 ≤ GA g ∧ GA g ≤ GA (g + 1) ∧ GA (g + 1) ≤ nf) (hmo : ∀ g : Int, 0 ≤ g ∧ g ≤ gr → GA g ≤ GA gr) (hvl : (∀ k : Int, 0 ≤ k ∧ k < GA gr → GN k = gnZ (K k) ∧ BB k = kBits (K k))) (hhp : hpJ K GA HP gr 0) (hps : rpT ps TR ct) (hct : ct ≤ 5) (hgn : -2000 * 5 ≤ gn ∧ gn ≤ 500000 * 5) (hcu : -12001 ≤ cu.1 ∧ cu.1 ≤ 3000000) (hrp : rpH cu CH cn cg cb) : Met l yX0_tryGroup (Cond.code yX0_tryGroup cX0_tryGroup 6 none :: tb) ({ frames := 3, cells := 0, slots := 0, locals := 66 } : Room) (zPw G [(u0, ob 0 [.ref f0, vI gr, .ref u1, .ref u2, .ref u3, .ref u4, .ref u5, .ref u6, vI cn, vI cg, vI cb]), (u1, aI G 7 GA), (u2, aI G 40 GN), (u3, aI G 40 BB), (u4, aI G 7 HP), (u5, aI G 6 TR), (u6, aI G 6 CH)] sz [.ref u0, vI 5, vI ct, vI bi, vI gn]) (va_Qv (fun u : Int × Int × Int × (Int → Int) × (Int → Int) => rpH (btZ GA (fun k => gnZ (K k)) (fun k => kBits (K k)) (gr - 5).toNat 5 ps bi gn cu) u.2.2.2.2 u.1 u.2.1 u.2.2.1 ∧ ∀ j : Int, 0 ≤ j ∧ j < ct → u.2.2.2.1 j = TR j) (fun (u : Int × Int × Int × (Int → Int) × (Int → Int)) t => zB G [(u0, ob 0 [.ref f0, vI gr, .ref u1, .ref u2, .ref u3, .ref u4, .ref u5, .ref u6, vI cn, vI cg, vI cb]), (u1, aI G 7 GA), (u2, aI G 40 GN), (u3, aI G 40 BB), (u4, aI G 7 HP), (u5, aI G 6 TR), (u6, aI G 6 CH)] sz [(u0, ob 0 [.ref f0, vI gr, .ref u1, .ref u2, .ref u3, .ref u4, .ref u5, .ref u6, vI u.1, vI u.2.1, vI u.2.2.1]), (u1, aI G 7 GA), (u2, aI G 40 GN), (u3, aI G 40 BB), (u4, aI G 7 HP), (u5, aI G 6 u.2.2.2.1), (u6, aI G 6 u.2.2.2.2)] t) (va_A [(u0, ob 0 [.ref f0, vI gr, .ref u1, .ref u2, .ref u3, .ref u4, .ref u5, .ref u6, vI cn, vI cg, vI cb]), (u1, aI G 7 GA), (u2, aI G 40 GN), (u3, aI G 40 BB), (u4, aI G 7 HP), (u5, aI G 6 TR), (u6, aI G 6 CH)] sz)) 0 0 (va_A [(u0, ob 0 [.ref f0, vI gr, .ref u1, .ref u2, .ref u3, .ref u4, .ref u5, .ref u6, vI cn, vI cg, vI cb]), (u1, aI G 7 GA), (u2, aI G 40 GN), (u3, aI G 40 BB), (u4, aI G 7 HP), (u5, aI G 6 TR), (u6, aI G 6 CH)] sz) := by
  refine Met.ofW (cc := cX0_tryGroup) (maxL := 6) (ret := none) (by decide) rfl ?_
  intro p e s m args below meth c s₁ B hml hv
  obtain ⟨rfl, hsz, hP, hK, hD0⟩ := hv
  subst hsz
  have hD := hD0.self (sz := s.heap.size)
  obtain ⟨A, hAe⟩ : ∃ A : Nat → Prop, A = va_A [(u0, ob 0 [.ref f0, vI gr, .ref u1, .ref u2, .ref u3, .ref u4, .ref u5, .ref u6, vI cn, vI cg, vI cb]), (u1, aI G 7 GA), (u2, aI G 40 GN), (u3, aI G 40 BB), (u4, aI G 7 HP), (u5, aI G 6 TR), (u6, aI G 6 CH)] s.heap.size := ⟨_, rfl⟩
  rw [← hAe] at hD
  have hA : ∀ q : Nat, s.heap.size ≤ q → A q := fun q h => by rw [hAe]; exact Or.inr h
  have hS : va_S A s.heap s.heap [] := va_S.rf
  obtain ⟨hC, hr, hlk⟩ := z_begin B hml
  have hC : CallFix p m c cX0_tryGroup 6 s _ tb RX0 := hC
  have hx := hC.1
  have hb := hC.2.1
  have hl := lv_entry ([.ref u0, vI 5, vI ct, vI bi, vI gn]) (n := 6) (Nat.le_of_ble_eq_true rfl)
  rw [lg_entry_eq]
  generalize (lg_sl ([.ref u0, vI 5, vI ct, vI bi, vI gn]) ++ List.replicate (6 - (lg_sl ([.ref u0, vI 5, vI ct, vI bi, vI gn])).length) Slot.unset).toArray = ls at hl ⊢
  have hl : lv_has ls 6 [(0, .ref u0), (1, vI 5), (2, vI ct), (3, vI bi), (4, vI gn)] := hl
  obtain ⟨H, hHe⟩ : ∃ H : Heap, H = s.heap := ⟨_, rfl⟩
  obtain ⟨locs, hLe⟩ : ∃ L : List Loc, L = [] := ⟨_, rfl⟩
  suffices hgo : W p l e (headSpec (Cond.code yX0_tryGroup cX0_tryGroup 6 none :: tb) ({ frames := 3, cells := 0, slots := 0, locals := 66 } : Room)).room s m ([.ref u0, vI 5, vI ct, vI bi, vI gn] : List Value).toArray below meth c H locs 0 0 (MQ below (va_Qv (fun u : Int × Int × Int × (Int → Int) × (Int → Int) => rpH (btZ GA (fun k => gnZ (K k)) (fun k => kBits (K k)) (gr - 5).toNat 5 ps bi gn cu) u.2.2.2.2 u.1 u.2.1 u.2.2.1 ∧ ∀ j : Int, 0 ≤ j ∧ j < ct → u.2.2.2.1 j = TR j) (fun (u : Int × Int × Int × (Int → Int) × (Int → Int)) t => zB G [(u0, ob 0 [.ref f0, vI gr, .ref u1, .ref u2, .ref u3, .ref u4, .ref u5, .ref u6, vI cn, vI cg, vI cb]), (u1, aI G 7 GA), (u2, aI G 40 GN), (u3, aI G 40 BB), (u4, aI G 7 HP), (u5, aI G 6 TR), (u6, aI G 6 CH)] s.heap.size [(u0, ob 0 [.ref f0, vI gr, .ref u1, .ref u2, .ref u3, .ref u4, .ref u5, .ref u6, vI u.1, vI u.2.1, vI u.2.2.1]), (u1, aI G 7 GA), (u2, aI G 40 GN), (u3, aI G 40 BB), (u4, aI G 7 HP), (u5, aI G 6 u.2.2.2.1), (u6, aI G 6 u.2.2.2.2)] t) (va_A [(u0, ob 0 [.ref f0, vI gr, .ref u1, .ref u2, .ref u3, .ref u4, .ref u5, .ref u6, vI cn, vI cg, vI cb]), (u1, aI G 7 GA), (u2, aI G 40 GN), (u3, aI G 40 BB), (u4, aI G 7 HP), (u5, aI G 6 TR), (u6, aI G 6 CH)] s.heap.size)) ([.ref u0, vI 5, vI ct, vI bi, vI gn] : List Value).toArray s 0 0 (va_A [(u0, ob 0 [.ref f0, vI gr, .ref u1, .ref u2, .ref u3, .ref u4, .ref u5, .ref u6, vI cn, vI cg, vI cb]), (u1, aI G 7 GA), (u2, aI G 40 GN), (u3, aI G 40 BB), (u4, aI G 7 HP), (u5, aI G 6 TR), (u6, aI G 6 CH)] s.heap.size)) (F0 m 0 ls []) by rw [hHe, hLe] at hgo; exact hgo
  rw [← hHe] at hP
  have hS : va_S A s.heap H locs := by rw [hHe, hLe]; exact hS
  clear hHe hLe
  have hhb := hpJ_bd hhp (g := 5) (by omega)
  have hcg := hrp.1
  have hpl := hps.1
  refine lv_iload_n hx hb dX0_tryGroup_0 rfl (lv_at hl 1 rfl) ?_
  refine lv_aload_n hx hb dX0_tryGroup_1 rfl (lv_at hl 0 rfl) ?_
  refine z_get (v := vI gr) hC hK hP inX0 rfl 0 rfl 1 (by decide) tw_165 rfl dX0_tryGroup_2 ?_
  refine z_icmp_gt (tgt := 30) hx hb dX0_tryGroup_5 (by decide) (by omega) (fun c_5 => ?_) (fun c_5 => ?_)
  · exfalso; omega
  · refine lv_iload_n hx hb dX0_tryGroup_8 rfl (lv_at hl 1 rfl) ?_
    refine lv_bipush (v := iI 6) hx hb dX0_tryGroup_9 (by decide) ?_
    refine z_icmp_gt (tgt := 30) hx hb dX0_tryGroup_11 (by decide) (by omega) (fun c_11 => ?_) (fun c_11 => ?_)
    · exfalso; omega
    · refine lv_iload hx hb dX0_tryGroup_14 (lv_at hl 4 rfl) ?_
      refine lv_aload_n hx hb dX0_tryGroup_16 rfl (lv_at hl 0 rfl) ?_
      refine z_get (v := .ref u4) hC hK hP inX0 rfl 0 rfl 5 (by decide) tw_169 rfl dX0_tryGroup_17 ?_
      refine lv_iload_n hx hb dX0_tryGroup_20 rfl (lv_at hl 1 rfl) ?_
      refine z_iald hC hK hP 4 rfl (by omega) (by decide) dX0_tryGroup_21 ?_
      refine z_iadd hx hb dX0_tryGroup_22 ?_
      refine lv_aload_n hx hb dX0_tryGroup_23 rfl (lv_at hl 0 rfl) ?_
      refine z_get (v := vI cg) hC hK hP inX0 rfl 0 rfl 9 (by decide) tw_173 rfl dX0_tryGroup_24 ?_
      refine z_icmp_gt (tgt := 31) hx hb dX0_tryGroup_27 (by decide) (by omega) (fun c_27 => ?_) (fun c_27 => ?_)
      · refine lv_iload_n hx hb dX0_tryGroup_31 rfl (lv_at hl 1 rfl) ?_
        refine lv_aload_n hx hb dX0_tryGroup_32 rfl (lv_at hl 0 rfl) ?_
        refine z_get (v := vI gr) hC hK hP inX0 rfl 0 rfl 1 (by decide) tw_165 rfl dX0_tryGroup_33 ?_
        refine z_icmp_ne (tgt := 48) hx hb dX0_tryGroup_36 (by decide) (by omega) (fun c_36 => ?_) (fun c_36 => ?_)
        · have hgg := hga 5 (by omega)
          have hg1 := hmo (5 + 1) (by omega)
          have hns : (gr - 5).toNat = (gr - 6).toNat + 1 := by omega
          refine lv_aload_n hx hb dX0_tryGroup_48 rfl (lv_at hl 0 rfl) ?_
          refine z_get (v := .ref u1) hC hK hP inX0 rfl 0 rfl 2 (by decide) tw_166 rfl dX0_tryGroup_49 ?_
          refine lv_iload_n hx hb dX0_tryGroup_52 rfl (lv_at hl 1 rfl) ?_
          refine z_iald hC hK hP 1 rfl (by omega) (by decide) dX0_tryGroup_53 ?_
          refine lv_istore (lv' := [(5, vI (GA 5)), (0, .ref u0), (1, vI 5), (2, vI ct), (3, vI bi), (4, vI gn)]) hx hb dX0_tryGroup_54 hl (by decide) rfl (fun ls hl => ?_)
          have cut_56 : ∀ (n_ : Nat) (qk : Int) (qn : Int) (qg : Int) (qb : Int) (qT : Int → Int) (qC : Int → Int) (H : Heap) (locs : List Loc) (ls : Array Slot), va_P G.1 vwCl [(u0, ob 0 [.ref f0, vI gr, .ref u1, .ref u2, .ref u3, .ref u4, .ref u5, .ref u6, vI qn, vI qg, vI qb]), (u1, aI G 7 GA), (u2, aI G 40 GN), (u3, aI G 40 BB), (u4, aI G 7 HP), (u5, aI G 6 qT), (u6, aI G 6 qC)] H → va_D A [(u0, ob 0 [.ref f0, vI gr, .ref u1, .ref u2, .ref u3, .ref u4, .ref u5, .ref u6, vI qn, vI qg, vI qb]), (u1, aI G 7 GA), (u2, aI G 40 GN), (u3, aI G 40 BB), (u4, aI G 7 HP), (u5, aI G 6 qT), (u6, aI G 6 qC)] → va_S A s.heap H locs → lv_has ls 6 [(0, .ref u0), (1, vI 5), (2, vI ct), (3, vI bi), (4, vI gn), (5, vI qk)] → (GA 5 ≤ qk ∧ qk ≤ GA (5 + 1)) → (rpH (btL (fun k cu => if zand ((fun k => kBits (K k)) k) bi = 0 then btZ GA (fun k => gnZ (K k)) (fun k => kBits (K k)) (gr - 6).toNat 6 (ps ++ [k]) (zor bi ((fun k => kBits (K k)) k)) (gn + (fun k => gnZ (K k)) k) cu else cu) (GA 5) (qk - GA 5).toNat cu) qC qn qg qb) → (∀ j : Int, 0 ≤ j ∧ j < ct → qT j = TR j) → (GA (5 + 1) - qk).toNat < n_ → W p l e (headSpec (Cond.code yX0_tryGroup cX0_tryGroup 6 none :: tb) ({ frames := 3, cells := 0, slots := 0, locals := 66 } : Room)).room s m ([.ref u0, vI 5, vI ct, vI bi, vI gn] : List Value).toArray below meth c H locs 0 0 (MQ below (va_Qv (fun u : Int × Int × Int × (Int → Int) × (Int → Int) => rpH (btZ GA (fun k => gnZ (K k)) (fun k => kBits (K k)) (gr - 5).toNat 5 ps bi gn cu) u.2.2.2.2 u.1 u.2.1 u.2.2.1 ∧ ∀ j : Int, 0 ≤ j ∧ j < ct → u.2.2.2.1 j = TR j) (fun (u : Int × Int × Int × (Int → Int) × (Int → Int)) t => zB G [(u0, ob 0 [.ref f0, vI gr, .ref u1, .ref u2, .ref u3, .ref u4, .ref u5, .ref u6, vI cn, vI cg, vI cb]), (u1, aI G 7 GA), (u2, aI G 40 GN), (u3, aI G 40 BB), (u4, aI G 7 HP), (u5, aI G 6 TR), (u6, aI G 6 CH)] s.heap.size [(u0, ob 0 [.ref f0, vI gr, .ref u1, .ref u2, .ref u3, .ref u4, .ref u5, .ref u6, vI u.1, vI u.2.1, vI u.2.2.1]), (u1, aI G 7 GA), (u2, aI G 40 GN), (u3, aI G 40 BB), (u4, aI G 7 HP), (u5, aI G 6 u.2.2.2.1), (u6, aI G 6 u.2.2.2.2)] t) (va_A [(u0, ob 0 [.ref f0, vI gr, .ref u1, .ref u2, .ref u3, .ref u4, .ref u5, .ref u6, vI cn, vI cg, vI cb]), (u1, aI G 7 GA), (u2, aI G 40 GN), (u3, aI G 40 BB), (u4, aI G 7 HP), (u5, aI G 6 TR), (u6, aI G 6 CH)] s.heap.size)) ([.ref u0, vI 5, vI ct, vI bi, vI gn] : List Value).toArray s 0 0 (va_A [(u0, ob 0 [.ref f0, vI gr, .ref u1, .ref u2, .ref u3, .ref u4, .ref u5, .ref u6, vI cn, vI cg, vI cb]), (u1, aI G 7 GA), (u2, aI G 40 GN), (u3, aI G 40 BB), (u4, aI G 7 HP), (u5, aI G 6 TR), (u6, aI G 6 CH)] s.heap.size)) (F0 m 56 ls []) := by
            intro n_
            induction n_ with
            | zero => exact fun qk qn qg qb qT qC H locs ls hP hD hS hl hqk hqr hqt hm_ => absurd hm_ (Nat.not_lt_zero _)
            | succ n_ ih_56 =>
              intro qk qn qg qb qT qC H locs ls hP hD hS hl hqk hqr hqt hm_
              have hqc := btL_rng (GA := GA) (GN := (fun k => gnZ (K k))) (BB := (fun k => kBits (K k))) (fun k => gnZ_bd (K k)) (n := (gr - 6).toNat) (g := 5) (ps := ps) (bi := bi) hgn (by decide) (by omega) hcu (GA 5) (qk - GA 5).toNat
              refine lv_iload hx hb dX0_tryGroup_56 (lv_at hl 5 rfl) ?_
              refine lv_aload_n hx hb dX0_tryGroup_58 rfl (lv_at hl 0 rfl) ?_
              refine z_get (v := .ref u1) hC hK hP inX0 rfl 0 rfl 2 (by decide) tw_166 rfl dX0_tryGroup_59 ?_
              refine lv_iload_n hx hb dX0_tryGroup_62 rfl (lv_at hl 1 rfl) ?_
              refine lv_iconst (v := iI 1) hx hb dX0_tryGroup_63 rfl ?_
              refine z_iadd hx hb dX0_tryGroup_64 ?_
              refine z_iald hC hK hP 1 rfl (by omega) (by decide) dX0_tryGroup_65 ?_
              refine z_icmp_ge (tgt := 124) hx hb dX0_tryGroup_66 (by decide) (by omega) (fun c_66 => ?_) (fun c_66 => ?_)
              · refine lv_aload_n hx hb dX0_tryGroup_124 rfl (lv_at hl 0 rfl) ?_
                refine lv_iload_n hx hb dX0_tryGroup_125 rfl (lv_at hl 1 rfl) ?_
                refine lv_iconst (v := iI 1) hx hb dX0_tryGroup_126 rfl ?_
                refine z_iadd hx hb dX0_tryGroup_127 ?_
                refine lv_iload_n hx hb dX0_tryGroup_128 rfl (lv_at hl 2 rfl) ?_
                refine lv_iload_n hx hb dX0_tryGroup_129 rfl (lv_at hl 3 rfl) ?_
                refine lv_iload hx hb dX0_tryGroup_130 (lv_at hl 4 rfl) ?_
                refine z_wVv (q0 := 0) (ci := 0) (b := u0) (rest := []) (wr := []) hC hK hP hD hS hA (c_X0_tryGroup_6 l G H.size u0 u1 u2 u3 u4 u5 u6 f0 gr qn qg qb GA GN BB HP qT qC nf K ps (btL (fun k cu => if zand ((fun k => kBits (K k)) k) bi = 0 then btZ GA (fun k => gnZ (K k)) (fun k => kBits (K k)) (gr - 6).toNat 6 (ps ++ [k]) (zor bi ((fun k => kBits (K k)) k)) (gn + (fun k => gnZ (K k)) k) cu else cu) (GA 5) (GA (5 + 1) - GA 5).toNat cu) ct bi gn (by omega) (by omega) (by omega) (hga) (hmo) (hvl) (hhp) (rpT_cg hps hqt) (by omega) (by omega) (by rw [show GA (5 + 1) = qk by omega]; exact hqc) (by rw [show GA (5 + 1) = qk by omega]; exact hqr)) mv_X0_tryGroup tw_400 [0, 1, 2, 3, 4, 5, 6] [] rfl rfl rfl rfl (by decide) rfl rfl rfl rfl hl.1 rfl (Nat.le_of_ble_eq_true rfl) ⟨rfl, rfl, Nat.le_of_ble_eq_true rfl, Nat.le_of_ble_eq_true rfl⟩ ⟨Nat.le_of_ble_eq_true rfl, Nat.le_of_ble_eq_true rfl⟩ dX0_tryGroup_132 (fun u H locs hw hP hD hS => ?_)
                obtain ⟨cn'_1, cg'_1, cb'_1, TR'_1, CH'_1⟩ := u
                dsimp only at hw hP hD
                have hP : va_P G.1 vwCl [(u0, ob 0 [.ref f0, vI gr, .ref u1, .ref u2, .ref u3, .ref u4, .ref u5, .ref u6, vI cn'_1, vI cg'_1, vI cb'_1]), (u1, aI G 7 GA), (u2, aI G 40 GN), (u3, aI G 40 BB), (u4, aI G 7 HP), (u5, aI G 6 TR'_1), (u6, aI G 6 CH'_1)] H := hP
                have hD : va_D A [(u0, ob 0 [.ref f0, vI gr, .ref u1, .ref u2, .ref u3, .ref u4, .ref u5, .ref u6, vI cn'_1, vI cg'_1, vI cb'_1]), (u1, aI G 7 GA), (u2, aI G 40 GN), (u3, aI G 40 BB), (u4, aI G 7 HP), (u5, aI G 6 TR'_1), (u6, aI G 6 CH'_1)] := hD
                have hw_1 := hw
                exact z_vretW hC hr hlk ⟨cn'_1, cg'_1, cb'_1, TR'_1, CH'_1⟩ hAe hP hD hS [0, 1, 2, 3, 4, 5, 6] (by decide) rfl rfl (⟨by rw [hns, btZ_n]; exact hw_1.1, fun j hj => (hw_1.2 j hj).trans (hqt j hj)⟩) dX0_tryGroup_135
              · have hvk := hvl qk (by omega)
                have hgk := gnZ_bd (K qk)
                refine lv_aload_n hx hb dX0_tryGroup_69 rfl (lv_at hl 0 rfl) ?_
                refine z_get (v := .ref u3) hC hK hP inX0 rfl 0 rfl 4 (by decide) tw_168 rfl dX0_tryGroup_70 ?_
                refine lv_iload hx hb dX0_tryGroup_73 (lv_at hl 5 rfl) ?_
                refine z_iald hC hK hP 3 rfl (by omega) (by decide) dX0_tryGroup_75 ?_
                refine lv_iload_n hx hb dX0_tryGroup_76 rfl (lv_at hl 3 rfl) ?_
                refine z_iand hx hb dX0_tryGroup_77 ?_
                refine z_if_ne (tgt := 118) hx hb dX0_tryGroup_78 (by decide) (zand_rng _ _) (fun c_78 => ?_) (fun c_78 => ?_)
                · have hzb : ¬ zand ((fun k => kBits (K k)) qk) bi = 0 := by show ¬ zand (kBits (K qk)) bi = 0; rw [← hvk.2]; exact c_78
                  refine z_iinc (k := 5) (lv' := [(5, vI (qk + 1)), (0, .ref u0), (1, vI 5), (2, vI ct), (3, vI bi), (4, vI gn)]) hx hb dX0_tryGroup_118 hl rfl (by decide) rfl (fun ls hl => ?_)
                  refine lv_goto (tgt := 56) hx hb dX0_tryGroup_121 (by decide) ?_
                  exact ih_56 (qk + 1) qn qg qb qT qC H locs ls hP hD hS (lv_sub hl [1, 2, 3, 4, 5, 0] rfl) (by omega) (by rw [btL_1 (fun k cu => if zand ((fun k => kBits (K k)) k) bi = 0 then btZ GA (fun k => gnZ (K k)) (fun k => kBits (K k)) (gr - 6).toNat 6 (ps ++ [k]) (zor bi ((fun k => kBits (K k)) k)) (gn + (fun k => gnZ (K k)) k) cu else cu) hqk.1]; first | (rw [if_neg hzb]; exact hqr) | (rw [if_pos hzb]; have h9 := hw_2.1; rw [hvk.1, hvk.2] at h9; exact h9)) (by first | exact hqt | exact fun j hj => (hw_2.2 j (by omega)).trans ((zup_n _ _ (by omega)).trans (hqt j hj))) (by omega)
                · have hzb : zand ((fun k => kBits (K k)) qk) bi = 0 := by show zand (kBits (K qk)) bi = 0; rw [← hvk.2]; exact c_78
                  refine lv_aload_n hx hb dX0_tryGroup_81 rfl (lv_at hl 0 rfl) ?_
                  refine z_get (v := .ref u5) hC hK hP inX0 rfl 0 rfl 6 (by decide) tw_170 rfl dX0_tryGroup_82 ?_
                  refine lv_iload_n hx hb dX0_tryGroup_85 rfl (lv_at hl 2 rfl) ?_
                  refine lv_iload hx hb dX0_tryGroup_86 (lv_at hl 5 rfl) ?_
                  refine z_iast (ws' := [(u0, ob 0 [.ref f0, vI gr, .ref u1, .ref u2, .ref u3, .ref u4, .ref u5, .ref u6, vI qn, vI qg, vI qb]), (u1, aI G 7 GA), (u2, aI G 40 GN), (u3, aI G 40 BB), (u4, aI G 7 HP), (u5, aI G 6 (zup qT ct qk)), (u6, aI G 6 qC)]) hC hK hP hD hS 5 rfl (by omega) (by decide) rfl dX0_tryGroup_88 (fun H locs hP hD hS => ?_)
                  refine lv_aload_n hx hb dX0_tryGroup_89 rfl (lv_at hl 0 rfl) ?_
                  refine lv_iload_n hx hb dX0_tryGroup_90 rfl (lv_at hl 1 rfl) ?_
                  refine lv_iconst (v := iI 1) hx hb dX0_tryGroup_91 rfl ?_
                  refine z_iadd hx hb dX0_tryGroup_92 ?_
                  refine lv_iload_n hx hb dX0_tryGroup_93 rfl (lv_at hl 2 rfl) ?_
                  refine lv_iconst (v := iI 1) hx hb dX0_tryGroup_94 rfl ?_
                  refine z_iadd hx hb dX0_tryGroup_95 ?_
                  refine lv_iload_n hx hb dX0_tryGroup_96 rfl (lv_at hl 3 rfl) ?_
                  refine lv_aload_n hx hb dX0_tryGroup_97 rfl (lv_at hl 0 rfl) ?_
                  refine z_get (v := .ref u3) hC hK hP inX0 rfl 0 rfl 4 (by decide) tw_168 rfl dX0_tryGroup_98 ?_
                  refine lv_iload hx hb dX0_tryGroup_101 (lv_at hl 5 rfl) ?_
                  refine z_iald hC hK hP 3 rfl (by omega) (by decide) dX0_tryGroup_103 ?_
                  refine z_ior hx hb dX0_tryGroup_104 ?_
                  refine lv_iload hx hb dX0_tryGroup_105 (lv_at hl 4 rfl) ?_
                  refine lv_aload_n hx hb dX0_tryGroup_107 rfl (lv_at hl 0 rfl) ?_
                  refine z_get (v := .ref u2) hC hK hP inX0 rfl 0 rfl 3 (by decide) tw_167 rfl dX0_tryGroup_108 ?_
                  refine lv_iload hx hb dX0_tryGroup_111 (lv_at hl 5 rfl) ?_
                  refine z_iald hC hK hP 2 rfl (by omega) (by decide) dX0_tryGroup_113 ?_
                  refine z_iadd hx hb dX0_tryGroup_114 ?_
                  refine z_wVv (q0 := 0) (ci := 0) (b := u0) (rest := []) (wr := []) hC hK hP hD hS hA (c_X0_tryGroup_6 l G H.size u0 u1 u2 u3 u4 u5 u6 f0 gr qn qg qb GA GN BB HP (zup qT ct qk) qC nf K (ps ++ [qk]) (btL (fun k cu => if zand ((fun k => kBits (K k)) k) bi = 0 then btZ GA (fun k => gnZ (K k)) (fun k => kBits (K k)) (gr - 6).toNat 6 (ps ++ [k]) (zor bi ((fun k => kBits (K k)) k)) (gn + (fun k => gnZ (K k)) k) cu else cu) (GA 5) (qk - GA 5).toNat cu) (ct + 1) (zor bi (BB qk)) (gn + (GN qk)) (by omega) (by omega) (by omega) (hga) (hmo) (hvl) (hhp) (rpT_add (rpT_cg hps hqt)) (by omega) (by omega) (hqc) (hqr)) mv_X0_tryGroup tw_400 [0, 1, 2, 3, 4, 5, 6] [] rfl rfl rfl rfl (by decide) rfl rfl rfl rfl hl.1 rfl (Nat.le_of_ble_eq_true rfl) ⟨rfl, rfl, Nat.le_of_ble_eq_true rfl, Nat.le_of_ble_eq_true rfl⟩ ⟨Nat.le_of_ble_eq_true rfl, Nat.le_of_ble_eq_true rfl⟩ dX0_tryGroup_115 (fun u H locs hw hP hD hS => ?_)
                  obtain ⟨cn'_2, cg'_2, cb'_2, TR'_2, CH'_2⟩ := u
                  dsimp only at hw hP hD
                  have hP : va_P G.1 vwCl [(u0, ob 0 [.ref f0, vI gr, .ref u1, .ref u2, .ref u3, .ref u4, .ref u5, .ref u6, vI cn'_2, vI cg'_2, vI cb'_2]), (u1, aI G 7 GA), (u2, aI G 40 GN), (u3, aI G 40 BB), (u4, aI G 7 HP), (u5, aI G 6 TR'_2), (u6, aI G 6 CH'_2)] H := hP
                  have hD : va_D A [(u0, ob 0 [.ref f0, vI gr, .ref u1, .ref u2, .ref u3, .ref u4, .ref u5, .ref u6, vI cn'_2, vI cg'_2, vI cb'_2]), (u1, aI G 7 GA), (u2, aI G 40 GN), (u3, aI G 40 BB), (u4, aI G 7 HP), (u5, aI G 6 TR'_2), (u6, aI G 6 CH'_2)] := hD
                  have hw_2 := hw
                  refine z_iinc (k := 5) (lv' := [(5, vI (qk + 1)), (0, .ref u0), (1, vI 5), (2, vI ct), (3, vI bi), (4, vI gn)]) hx hb dX0_tryGroup_118 hl rfl (by decide) rfl (fun ls hl => ?_)
                  refine lv_goto (tgt := 56) hx hb dX0_tryGroup_121 (by decide) ?_
                  exact ih_56 (qk + 1) cn'_2 cg'_2 cb'_2 TR'_2 CH'_2 H locs ls hP hD hS (lv_sub hl [1, 2, 3, 4, 5, 0] rfl) (by omega) (by rw [btL_1 (fun k cu => if zand ((fun k => kBits (K k)) k) bi = 0 then btZ GA (fun k => gnZ (K k)) (fun k => kBits (K k)) (gr - 6).toNat 6 (ps ++ [k]) (zor bi ((fun k => kBits (K k)) k)) (gn + (fun k => gnZ (K k)) k) cu else cu) hqk.1]; first | (rw [if_neg hzb]; exact hqr) | (rw [if_pos hzb]; have h9 := hw_2.1; rw [hvk.1, hvk.2] at h9; exact h9)) (by first | exact hqt | exact fun j hj => (hw_2.2 j (by omega)).trans ((zup_n _ _ (by omega)).trans (hqt j hj))) (by omega)
          exact cut_56 ((GA (5 + 1) - (GA 5)).toNat + 1) (GA 5) cn cg cb TR CH H locs ls hP hD hS (lv_sub hl [1, 2, 3, 4, 5, 0] rfl) (by omega) (by rw [btL_0]; exact hrp) (fun j hj => rfl) (Nat.lt_succ_self _)
        · refine lv_aload_n hx hb dX0_tryGroup_39 rfl (lv_at hl 0 rfl) ?_
          refine lv_iload_n hx hb dX0_tryGroup_40 rfl (lv_at hl 2 rfl) ?_
          refine lv_iload_n hx hb dX0_tryGroup_41 rfl (lv_at hl 3 rfl) ?_
          refine lv_iload hx hb dX0_tryGroup_42 (lv_at hl 4 rfl) ?_
          refine z_wVv (q0 := 0) (ci := 0) (b := u0) (rest := []) (wr := [(u1, aI G 7 GA), (u2, aI G 40 GN), (u3, aI G 40 BB), (u4, aI G 7 HP)]) hC hK hP hD hS hA (c_X0_keepTried l G H.size u0 u1 u2 u3 u4 u5 u6 f0 gr cn cg cb TR CH ct bi gn) mv_X0_keepTried tw_404 [0, 5, 6] [1, 2, 3, 4] rfl rfl rfl rfl (by decide) rfl rfl rfl rfl hl.1 rfl (Nat.le_of_ble_eq_true rfl) ⟨rfl, rfl, Nat.le_of_ble_eq_true rfl, Nat.le_of_ble_eq_true rfl⟩ ⟨Nat.le_of_ble_eq_true rfl, Nat.le_of_ble_eq_true rfl⟩ dX0_tryGroup_44 (fun u H locs hw hP hD hS => ?_)
          have hP : va_P G.1 vwCl [(u1, aI G 7 GA), (u2, aI G 40 GN), (u3, aI G 40 BB), (u4, aI G 7 HP), (u0, ob 0 [.ref f0, vI gr, .ref u1, .ref u2, .ref u3, .ref u4, .ref u5, .ref u6, vI ct, vI gn, vI bi]), (u5, aI G 6 TR), (u6, aI G 6 (zcpy TR CH 6))] H := hP
          have hD : va_D A [(u1, aI G 7 GA), (u2, aI G 40 GN), (u3, aI G 40 BB), (u4, aI G 7 HP), (u0, ob 0 [.ref f0, vI gr, .ref u1, .ref u2, .ref u3, .ref u4, .ref u5, .ref u6, vI ct, vI gn, vI bi]), (u5, aI G 6 TR), (u6, aI G 6 (zcpy TR CH 6))] := hD
          have hw_3 := hw
          clear hw_3
          exact z_vretW hC hr hlk ⟨ct, gn, bi, TR, zcpy TR CH 6⟩ hAe hP hD hS [4, 0, 1, 2, 3, 5, 6] (by decide) rfl rfl (⟨by rw [show (gr - 5).toNat = 0 by omega]; rw [show btZ GA (fun k => gnZ (K k)) (fun k => kBits (K k)) 0 5 ps bi gn cu = (gn, ps, bi) from if_pos (by have h9 := hhp.1; rw [show gr = 5 by omega] at h9; omega)]; exact rpH_keep hps (by omega), fun j hj => rfl⟩) dX0_tryGroup_47
      · exact z_vretW hC hr hlk ⟨cn, cg, cb, TR, CH⟩ hAe hP hD hS [0, 1, 2, 3, 4, 5, 6] (by decide) rfl rfl (⟨by rw [btZ_prune (hpJ_I hhp) (gr - 5).toNat 5 ps bi gn cu (by decide) (by omega) (by omega)]; exact hrp, fun j hj => rfl⟩) dX0_tryGroup_30

set_option maxRecDepth 100000 in
set_option maxHeartbeats 4000000 in
theorem c_X0_tryGroup_4 (l : Launch) (G : zGt) (sz : Nat) (u0 u1 u2 u3 u4 u5 u6 f0 : Nat) (gr cn cg cb : Int) (GA GN BB HP TR CH : Int → Int) (nf : Int) (K : Int → Int) (ps : List Int) (cu : cuT) (ct bi gn : Int) (hnf : 0 ≤ nf ∧ nf ≤ 40) (hgr : 0 ≤ gr ∧ gr ≤ 6) (hgD : 4 ≤ gr) (hga : ∀ g : Int, 0 ≤ g ∧ g < gr → 0 ≤ GA g ∧ GA g ≤ GA (g + 1) ∧ GA (g + 1) ≤ nf) (hmo : ∀ g : Int, 0 ≤ g ∧ g ≤ gr → GA g ≤ GA gr) (hvl : (∀ k : Int, 0 ≤ k ∧ k < GA gr → GN k = gnZ (K k) ∧ BB k = kBits (K k))) (hhp : hpJ K GA HP gr 0) (hps : rpT ps TR ct) (hct : ct ≤ 4) (hgn : -2000 * 4 ≤ gn ∧ gn ≤ 500000 * 4) (hcu : -12001 ≤ cu.1 ∧ cu.1 ≤ 3000000) (hrp : rpH cu CH cn cg cb) : Met l yX0_tryGroup (Cond.code yX0_tryGroup cX0_tryGroup 6 none :: tb) ({ frames := 4, cells := 0, slots := 0, locals := 91 } : Room) (zPw G [(u0, ob 0 [.ref f0, vI gr, .ref u1, .ref u2, .ref u3, .ref u4, .ref u5, .ref u6, vI cn, vI cg, vI cb]), (u1, aI G 7 GA), (u2, aI G 40 GN), (u3, aI G 40 BB), (u4, aI G 7 HP), (u5, aI G 6 TR), (u6, aI G 6 CH)] sz [.ref u0, vI 4, vI ct, vI bi, vI gn]) (va_Qv (fun u : Int × Int × Int × (Int → Int) × (Int → Int) => rpH (btZ GA (fun k => gnZ (K k)) (fun k => kBits (K k)) (gr - 4).toNat 4 ps bi gn cu) u.2.2.2.2 u.1 u.2.1 u.2.2.1 ∧ ∀ j : Int, 0 ≤ j ∧ j < ct → u.2.2.2.1 j = TR j) (fun (u : Int × Int × Int × (Int → Int) × (Int → Int)) t => zB G [(u0, ob 0 [.ref f0, vI gr, .ref u1, .ref u2, .ref u3, .ref u4, .ref u5, .ref u6, vI cn, vI cg, vI cb]), (u1, aI G 7 GA), (u2, aI G 40 GN), (u3, aI G 40 BB), (u4, aI G 7 HP), (u5, aI G 6 TR), (u6, aI G 6 CH)] sz [(u0, ob 0 [.ref f0, vI gr, .ref u1, .ref u2, .ref u3, .ref u4, .ref u5, .ref u6, vI u.1, vI u.2.1, vI u.2.2.1]), (u1, aI G 7 GA), (u2, aI G 40 GN), (u3, aI G 40 BB), (u4, aI G 7 HP), (u5, aI G 6 u.2.2.2.1), (u6, aI G 6 u.2.2.2.2)] t) (va_A [(u0, ob 0 [.ref f0, vI gr, .ref u1, .ref u2, .ref u3, .ref u4, .ref u5, .ref u6, vI cn, vI cg, vI cb]), (u1, aI G 7 GA), (u2, aI G 40 GN), (u3, aI G 40 BB), (u4, aI G 7 HP), (u5, aI G 6 TR), (u6, aI G 6 CH)] sz)) 0 0 (va_A [(u0, ob 0 [.ref f0, vI gr, .ref u1, .ref u2, .ref u3, .ref u4, .ref u5, .ref u6, vI cn, vI cg, vI cb]), (u1, aI G 7 GA), (u2, aI G 40 GN), (u3, aI G 40 BB), (u4, aI G 7 HP), (u5, aI G 6 TR), (u6, aI G 6 CH)] sz) := by
  refine Met.ofW (cc := cX0_tryGroup) (maxL := 6) (ret := none) (by decide) rfl ?_
  intro p e s m args below meth c s₁ B hml hv
  obtain ⟨rfl, hsz, hP, hK, hD0⟩ := hv
  subst hsz
  have hD := hD0.self (sz := s.heap.size)
  obtain ⟨A, hAe⟩ : ∃ A : Nat → Prop, A = va_A [(u0, ob 0 [.ref f0, vI gr, .ref u1, .ref u2, .ref u3, .ref u4, .ref u5, .ref u6, vI cn, vI cg, vI cb]), (u1, aI G 7 GA), (u2, aI G 40 GN), (u3, aI G 40 BB), (u4, aI G 7 HP), (u5, aI G 6 TR), (u6, aI G 6 CH)] s.heap.size := ⟨_, rfl⟩
  rw [← hAe] at hD
  have hA : ∀ q : Nat, s.heap.size ≤ q → A q := fun q h => by rw [hAe]; exact Or.inr h
  have hS : va_S A s.heap s.heap [] := va_S.rf
  obtain ⟨hC, hr, hlk⟩ := z_begin B hml
  have hC : CallFix p m c cX0_tryGroup 6 s _ tb RX0 := hC
  have hx := hC.1
  have hb := hC.2.1
  have hl := lv_entry ([.ref u0, vI 4, vI ct, vI bi, vI gn]) (n := 6) (Nat.le_of_ble_eq_true rfl)
  rw [lg_entry_eq]
  generalize (lg_sl ([.ref u0, vI 4, vI ct, vI bi, vI gn]) ++ List.replicate (6 - (lg_sl ([.ref u0, vI 4, vI ct, vI bi, vI gn])).length) Slot.unset).toArray = ls at hl ⊢
  have hl : lv_has ls 6 [(0, .ref u0), (1, vI 4), (2, vI ct), (3, vI bi), (4, vI gn)] := hl
  obtain ⟨H, hHe⟩ : ∃ H : Heap, H = s.heap := ⟨_, rfl⟩
  obtain ⟨locs, hLe⟩ : ∃ L : List Loc, L = [] := ⟨_, rfl⟩
  suffices hgo : W p l e (headSpec (Cond.code yX0_tryGroup cX0_tryGroup 6 none :: tb) ({ frames := 4, cells := 0, slots := 0, locals := 91 } : Room)).room s m ([.ref u0, vI 4, vI ct, vI bi, vI gn] : List Value).toArray below meth c H locs 0 0 (MQ below (va_Qv (fun u : Int × Int × Int × (Int → Int) × (Int → Int) => rpH (btZ GA (fun k => gnZ (K k)) (fun k => kBits (K k)) (gr - 4).toNat 4 ps bi gn cu) u.2.2.2.2 u.1 u.2.1 u.2.2.1 ∧ ∀ j : Int, 0 ≤ j ∧ j < ct → u.2.2.2.1 j = TR j) (fun (u : Int × Int × Int × (Int → Int) × (Int → Int)) t => zB G [(u0, ob 0 [.ref f0, vI gr, .ref u1, .ref u2, .ref u3, .ref u4, .ref u5, .ref u6, vI cn, vI cg, vI cb]), (u1, aI G 7 GA), (u2, aI G 40 GN), (u3, aI G 40 BB), (u4, aI G 7 HP), (u5, aI G 6 TR), (u6, aI G 6 CH)] s.heap.size [(u0, ob 0 [.ref f0, vI gr, .ref u1, .ref u2, .ref u3, .ref u4, .ref u5, .ref u6, vI u.1, vI u.2.1, vI u.2.2.1]), (u1, aI G 7 GA), (u2, aI G 40 GN), (u3, aI G 40 BB), (u4, aI G 7 HP), (u5, aI G 6 u.2.2.2.1), (u6, aI G 6 u.2.2.2.2)] t) (va_A [(u0, ob 0 [.ref f0, vI gr, .ref u1, .ref u2, .ref u3, .ref u4, .ref u5, .ref u6, vI cn, vI cg, vI cb]), (u1, aI G 7 GA), (u2, aI G 40 GN), (u3, aI G 40 BB), (u4, aI G 7 HP), (u5, aI G 6 TR), (u6, aI G 6 CH)] s.heap.size)) ([.ref u0, vI 4, vI ct, vI bi, vI gn] : List Value).toArray s 0 0 (va_A [(u0, ob 0 [.ref f0, vI gr, .ref u1, .ref u2, .ref u3, .ref u4, .ref u5, .ref u6, vI cn, vI cg, vI cb]), (u1, aI G 7 GA), (u2, aI G 40 GN), (u3, aI G 40 BB), (u4, aI G 7 HP), (u5, aI G 6 TR), (u6, aI G 6 CH)] s.heap.size)) (F0 m 0 ls []) by rw [hHe, hLe] at hgo; exact hgo
  rw [← hHe] at hP
  have hS : va_S A s.heap H locs := by rw [hHe, hLe]; exact hS
  clear hHe hLe
  have hhb := hpJ_bd hhp (g := 4) (by omega)
  have hcg := hrp.1
  have hpl := hps.1
  refine lv_iload_n hx hb dX0_tryGroup_0 rfl (lv_at hl 1 rfl) ?_
  refine lv_aload_n hx hb dX0_tryGroup_1 rfl (lv_at hl 0 rfl) ?_
  refine z_get (v := vI gr) hC hK hP inX0 rfl 0 rfl 1 (by decide) tw_165 rfl dX0_tryGroup_2 ?_
  refine z_icmp_gt (tgt := 30) hx hb dX0_tryGroup_5 (by decide) (by omega) (fun c_5 => ?_) (fun c_5 => ?_)
  · exfalso; omega
  · refine lv_iload_n hx hb dX0_tryGroup_8 rfl (lv_at hl 1 rfl) ?_
    refine lv_bipush (v := iI 6) hx hb dX0_tryGroup_9 (by decide) ?_
    refine z_icmp_gt (tgt := 30) hx hb dX0_tryGroup_11 (by decide) (by omega) (fun c_11 => ?_) (fun c_11 => ?_)
    · exfalso; omega
    · refine lv_iload hx hb dX0_tryGroup_14 (lv_at hl 4 rfl) ?_
      refine lv_aload_n hx hb dX0_tryGroup_16 rfl (lv_at hl 0 rfl) ?_
      refine z_get (v := .ref u4) hC hK hP inX0 rfl 0 rfl 5 (by decide) tw_169 rfl dX0_tryGroup_17 ?_
      refine lv_iload_n hx hb dX0_tryGroup_20 rfl (lv_at hl 1 rfl) ?_
      refine z_iald hC hK hP 4 rfl (by omega) (by decide) dX0_tryGroup_21 ?_
      refine z_iadd hx hb dX0_tryGroup_22 ?_
      refine lv_aload_n hx hb dX0_tryGroup_23 rfl (lv_at hl 0 rfl) ?_
      refine z_get (v := vI cg) hC hK hP inX0 rfl 0 rfl 9 (by decide) tw_173 rfl dX0_tryGroup_24 ?_
      refine z_icmp_gt (tgt := 31) hx hb dX0_tryGroup_27 (by decide) (by omega) (fun c_27 => ?_) (fun c_27 => ?_)
      · refine lv_iload_n hx hb dX0_tryGroup_31 rfl (lv_at hl 1 rfl) ?_
        refine lv_aload_n hx hb dX0_tryGroup_32 rfl (lv_at hl 0 rfl) ?_
        refine z_get (v := vI gr) hC hK hP inX0 rfl 0 rfl 1 (by decide) tw_165 rfl dX0_tryGroup_33 ?_
        refine z_icmp_ne (tgt := 48) hx hb dX0_tryGroup_36 (by decide) (by omega) (fun c_36 => ?_) (fun c_36 => ?_)
        · have hgg := hga 4 (by omega)
          have hg1 := hmo (4 + 1) (by omega)
          have hns : (gr - 4).toNat = (gr - 5).toNat + 1 := by omega
          refine lv_aload_n hx hb dX0_tryGroup_48 rfl (lv_at hl 0 rfl) ?_
          refine z_get (v := .ref u1) hC hK hP inX0 rfl 0 rfl 2 (by decide) tw_166 rfl dX0_tryGroup_49 ?_
          refine lv_iload_n hx hb dX0_tryGroup_52 rfl (lv_at hl 1 rfl) ?_
          refine z_iald hC hK hP 1 rfl (by omega) (by decide) dX0_tryGroup_53 ?_
          refine lv_istore (lv' := [(5, vI (GA 4)), (0, .ref u0), (1, vI 4), (2, vI ct), (3, vI bi), (4, vI gn)]) hx hb dX0_tryGroup_54 hl (by decide) rfl (fun ls hl => ?_)
          have cut_56 : ∀ (n_ : Nat) (qk : Int) (qn : Int) (qg : Int) (qb : Int) (qT : Int → Int) (qC : Int → Int) (H : Heap) (locs : List Loc) (ls : Array Slot), va_P G.1 vwCl [(u0, ob 0 [.ref f0, vI gr, .ref u1, .ref u2, .ref u3, .ref u4, .ref u5, .ref u6, vI qn, vI qg, vI qb]), (u1, aI G 7 GA), (u2, aI G 40 GN), (u3, aI G 40 BB), (u4, aI G 7 HP), (u5, aI G 6 qT), (u6, aI G 6 qC)] H → va_D A [(u0, ob 0 [.ref f0, vI gr, .ref u1, .ref u2, .ref u3, .ref u4, .ref u5, .ref u6, vI qn, vI qg, vI qb]), (u1, aI G 7 GA), (u2, aI G 40 GN), (u3, aI G 40 BB), (u4, aI G 7 HP), (u5, aI G 6 qT), (u6, aI G 6 qC)] → va_S A s.heap H locs → lv_has ls 6 [(0, .ref u0), (1, vI 4), (2, vI ct), (3, vI bi), (4, vI gn), (5, vI qk)] → (GA 4 ≤ qk ∧ qk ≤ GA (4 + 1)) → (rpH (btL (fun k cu => if zand ((fun k => kBits (K k)) k) bi = 0 then btZ GA (fun k => gnZ (K k)) (fun k => kBits (K k)) (gr - 5).toNat 5 (ps ++ [k]) (zor bi ((fun k => kBits (K k)) k)) (gn + (fun k => gnZ (K k)) k) cu else cu) (GA 4) (qk - GA 4).toNat cu) qC qn qg qb) → (∀ j : Int, 0 ≤ j ∧ j < ct → qT j = TR j) → (GA (4 + 1) - qk).toNat < n_ → W p l e (headSpec (Cond.code yX0_tryGroup cX0_tryGroup 6 none :: tb) ({ frames := 4, cells := 0, slots := 0, locals := 91 } : Room)).room s m ([.ref u0, vI 4, vI ct, vI bi, vI gn] : List Value).toArray below meth c H locs 0 0 (MQ below (va_Qv (fun u : Int × Int × Int × (Int → Int) × (Int → Int) => rpH (btZ GA (fun k => gnZ (K k)) (fun k => kBits (K k)) (gr - 4).toNat 4 ps bi gn cu) u.2.2.2.2 u.1 u.2.1 u.2.2.1 ∧ ∀ j : Int, 0 ≤ j ∧ j < ct → u.2.2.2.1 j = TR j) (fun (u : Int × Int × Int × (Int → Int) × (Int → Int)) t => zB G [(u0, ob 0 [.ref f0, vI gr, .ref u1, .ref u2, .ref u3, .ref u4, .ref u5, .ref u6, vI cn, vI cg, vI cb]), (u1, aI G 7 GA), (u2, aI G 40 GN), (u3, aI G 40 BB), (u4, aI G 7 HP), (u5, aI G 6 TR), (u6, aI G 6 CH)] s.heap.size [(u0, ob 0 [.ref f0, vI gr, .ref u1, .ref u2, .ref u3, .ref u4, .ref u5, .ref u6, vI u.1, vI u.2.1, vI u.2.2.1]), (u1, aI G 7 GA), (u2, aI G 40 GN), (u3, aI G 40 BB), (u4, aI G 7 HP), (u5, aI G 6 u.2.2.2.1), (u6, aI G 6 u.2.2.2.2)] t) (va_A [(u0, ob 0 [.ref f0, vI gr, .ref u1, .ref u2, .ref u3, .ref u4, .ref u5, .ref u6, vI cn, vI cg, vI cb]), (u1, aI G 7 GA), (u2, aI G 40 GN), (u3, aI G 40 BB), (u4, aI G 7 HP), (u5, aI G 6 TR), (u6, aI G 6 CH)] s.heap.size)) ([.ref u0, vI 4, vI ct, vI bi, vI gn] : List Value).toArray s 0 0 (va_A [(u0, ob 0 [.ref f0, vI gr, .ref u1, .ref u2, .ref u3, .ref u4, .ref u5, .ref u6, vI cn, vI cg, vI cb]), (u1, aI G 7 GA), (u2, aI G 40 GN), (u3, aI G 40 BB), (u4, aI G 7 HP), (u5, aI G 6 TR), (u6, aI G 6 CH)] s.heap.size)) (F0 m 56 ls []) := by
            intro n_
            induction n_ with
            | zero => exact fun qk qn qg qb qT qC H locs ls hP hD hS hl hqk hqr hqt hm_ => absurd hm_ (Nat.not_lt_zero _)
            | succ n_ ih_56 =>
              intro qk qn qg qb qT qC H locs ls hP hD hS hl hqk hqr hqt hm_
              have hqc := btL_rng (GA := GA) (GN := (fun k => gnZ (K k))) (BB := (fun k => kBits (K k))) (fun k => gnZ_bd (K k)) (n := (gr - 5).toNat) (g := 4) (ps := ps) (bi := bi) hgn (by decide) (by omega) hcu (GA 4) (qk - GA 4).toNat
              refine lv_iload hx hb dX0_tryGroup_56 (lv_at hl 5 rfl) ?_
              refine lv_aload_n hx hb dX0_tryGroup_58 rfl (lv_at hl 0 rfl) ?_
              refine z_get (v := .ref u1) hC hK hP inX0 rfl 0 rfl 2 (by decide) tw_166 rfl dX0_tryGroup_59 ?_
              refine lv_iload_n hx hb dX0_tryGroup_62 rfl (lv_at hl 1 rfl) ?_
              refine lv_iconst (v := iI 1) hx hb dX0_tryGroup_63 rfl ?_
              refine z_iadd hx hb dX0_tryGroup_64 ?_
              refine z_iald hC hK hP 1 rfl (by omega) (by decide) dX0_tryGroup_65 ?_
              refine z_icmp_ge (tgt := 124) hx hb dX0_tryGroup_66 (by decide) (by omega) (fun c_66 => ?_) (fun c_66 => ?_)
              · refine lv_aload_n hx hb dX0_tryGroup_124 rfl (lv_at hl 0 rfl) ?_
                refine lv_iload_n hx hb dX0_tryGroup_125 rfl (lv_at hl 1 rfl) ?_
                refine lv_iconst (v := iI 1) hx hb dX0_tryGroup_126 rfl ?_
                refine z_iadd hx hb dX0_tryGroup_127 ?_
                refine lv_iload_n hx hb dX0_tryGroup_128 rfl (lv_at hl 2 rfl) ?_
                refine lv_iload_n hx hb dX0_tryGroup_129 rfl (lv_at hl 3 rfl) ?_
                refine lv_iload hx hb dX0_tryGroup_130 (lv_at hl 4 rfl) ?_
                refine z_wVv (q0 := 0) (ci := 0) (b := u0) (rest := []) (wr := []) hC hK hP hD hS hA (c_X0_tryGroup_5 l G H.size u0 u1 u2 u3 u4 u5 u6 f0 gr qn qg qb GA GN BB HP qT qC nf K ps (btL (fun k cu => if zand ((fun k => kBits (K k)) k) bi = 0 then btZ GA (fun k => gnZ (K k)) (fun k => kBits (K k)) (gr - 5).toNat 5 (ps ++ [k]) (zor bi ((fun k => kBits (K k)) k)) (gn + (fun k => gnZ (K k)) k) cu else cu) (GA 4) (GA (4 + 1) - GA 4).toNat cu) ct bi gn (by omega) (by omega) (by omega) (hga) (hmo) (hvl) (hhp) (rpT_cg hps hqt) (by omega) (by omega) (by rw [show GA (4 + 1) = qk by omega]; exact hqc) (by rw [show GA (4 + 1) = qk by omega]; exact hqr)) mv_X0_tryGroup tw_400 [0, 1, 2, 3, 4, 5, 6] [] rfl rfl rfl rfl (by decide) rfl rfl rfl rfl hl.1 rfl (Nat.le_of_ble_eq_true rfl) ⟨rfl, rfl, Nat.le_of_ble_eq_true rfl, Nat.le_of_ble_eq_true rfl⟩ ⟨Nat.le_of_ble_eq_true rfl, Nat.le_of_ble_eq_true rfl⟩ dX0_tryGroup_132 (fun u H locs hw hP hD hS => ?_)
                obtain ⟨cn'_1, cg'_1, cb'_1, TR'_1, CH'_1⟩ := u
                dsimp only at hw hP hD
                have hP : va_P G.1 vwCl [(u0, ob 0 [.ref f0, vI gr, .ref u1, .ref u2, .ref u3, .ref u4, .ref u5, .ref u6, vI cn'_1, vI cg'_1, vI cb'_1]), (u1, aI G 7 GA), (u2, aI G 40 GN), (u3, aI G 40 BB), (u4, aI G 7 HP), (u5, aI G 6 TR'_1), (u6, aI G 6 CH'_1)] H := hP
                have hD : va_D A [(u0, ob 0 [.ref f0, vI gr, .ref u1, .ref u2, .ref u3, .ref u4, .ref u5, .ref u6, vI cn'_1, vI cg'_1, vI cb'_1]), (u1, aI G 7 GA), (u2, aI G 40 GN), (u3, aI G 40 BB), (u4, aI G 7 HP), (u5, aI G 6 TR'_1), (u6, aI G 6 CH'_1)] := hD
                have hw_1 := hw
                exact z_vretW hC hr hlk ⟨cn'_1, cg'_1, cb'_1, TR'_1, CH'_1⟩ hAe hP hD hS [0, 1, 2, 3, 4, 5, 6] (by decide) rfl rfl (⟨by rw [hns, btZ_n]; exact hw_1.1, fun j hj => (hw_1.2 j hj).trans (hqt j hj)⟩) dX0_tryGroup_135
              · have hvk := hvl qk (by omega)
                have hgk := gnZ_bd (K qk)
                refine lv_aload_n hx hb dX0_tryGroup_69 rfl (lv_at hl 0 rfl) ?_
                refine z_get (v := .ref u3) hC hK hP inX0 rfl 0 rfl 4 (by decide) tw_168 rfl dX0_tryGroup_70 ?_
                refine lv_iload hx hb dX0_tryGroup_73 (lv_at hl 5 rfl) ?_
                refine z_iald hC hK hP 3 rfl (by omega) (by decide) dX0_tryGroup_75 ?_
                refine lv_iload_n hx hb dX0_tryGroup_76 rfl (lv_at hl 3 rfl) ?_
                refine z_iand hx hb dX0_tryGroup_77 ?_
                refine z_if_ne (tgt := 118) hx hb dX0_tryGroup_78 (by decide) (zand_rng _ _) (fun c_78 => ?_) (fun c_78 => ?_)
                · have hzb : ¬ zand ((fun k => kBits (K k)) qk) bi = 0 := by show ¬ zand (kBits (K qk)) bi = 0; rw [← hvk.2]; exact c_78
                  refine z_iinc (k := 5) (lv' := [(5, vI (qk + 1)), (0, .ref u0), (1, vI 4), (2, vI ct), (3, vI bi), (4, vI gn)]) hx hb dX0_tryGroup_118 hl rfl (by decide) rfl (fun ls hl => ?_)
                  refine lv_goto (tgt := 56) hx hb dX0_tryGroup_121 (by decide) ?_
                  exact ih_56 (qk + 1) qn qg qb qT qC H locs ls hP hD hS (lv_sub hl [1, 2, 3, 4, 5, 0] rfl) (by omega) (by rw [btL_1 (fun k cu => if zand ((fun k => kBits (K k)) k) bi = 0 then btZ GA (fun k => gnZ (K k)) (fun k => kBits (K k)) (gr - 5).toNat 5 (ps ++ [k]) (zor bi ((fun k => kBits (K k)) k)) (gn + (fun k => gnZ (K k)) k) cu else cu) hqk.1]; first | (rw [if_neg hzb]; exact hqr) | (rw [if_pos hzb]; have h9 := hw_2.1; rw [hvk.1, hvk.2] at h9; exact h9)) (by first | exact hqt | exact fun j hj => (hw_2.2 j (by omega)).trans ((zup_n _ _ (by omega)).trans (hqt j hj))) (by omega)
                · have hzb : zand ((fun k => kBits (K k)) qk) bi = 0 := by show zand (kBits (K qk)) bi = 0; rw [← hvk.2]; exact c_78
                  refine lv_aload_n hx hb dX0_tryGroup_81 rfl (lv_at hl 0 rfl) ?_
                  refine z_get (v := .ref u5) hC hK hP inX0 rfl 0 rfl 6 (by decide) tw_170 rfl dX0_tryGroup_82 ?_
                  refine lv_iload_n hx hb dX0_tryGroup_85 rfl (lv_at hl 2 rfl) ?_
                  refine lv_iload hx hb dX0_tryGroup_86 (lv_at hl 5 rfl) ?_
                  refine z_iast (ws' := [(u0, ob 0 [.ref f0, vI gr, .ref u1, .ref u2, .ref u3, .ref u4, .ref u5, .ref u6, vI qn, vI qg, vI qb]), (u1, aI G 7 GA), (u2, aI G 40 GN), (u3, aI G 40 BB), (u4, aI G 7 HP), (u5, aI G 6 (zup qT ct qk)), (u6, aI G 6 qC)]) hC hK hP hD hS 5 rfl (by omega) (by decide) rfl dX0_tryGroup_88 (fun H locs hP hD hS => ?_)
                  refine lv_aload_n hx hb dX0_tryGroup_89 rfl (lv_at hl 0 rfl) ?_
                  refine lv_iload_n hx hb dX0_tryGroup_90 rfl (lv_at hl 1 rfl) ?_
                  refine lv_iconst (v := iI 1) hx hb dX0_tryGroup_91 rfl ?_
                  refine z_iadd hx hb dX0_tryGroup_92 ?_
                  refine lv_iload_n hx hb dX0_tryGroup_93 rfl (lv_at hl 2 rfl) ?_
                  refine lv_iconst (v := iI 1) hx hb dX0_tryGroup_94 rfl ?_
                  refine z_iadd hx hb dX0_tryGroup_95 ?_
                  refine lv_iload_n hx hb dX0_tryGroup_96 rfl (lv_at hl 3 rfl) ?_
                  refine lv_aload_n hx hb dX0_tryGroup_97 rfl (lv_at hl 0 rfl) ?_
                  refine z_get (v := .ref u3) hC hK hP inX0 rfl 0 rfl 4 (by decide) tw_168 rfl dX0_tryGroup_98 ?_
                  refine lv_iload hx hb dX0_tryGroup_101 (lv_at hl 5 rfl) ?_
                  refine z_iald hC hK hP 3 rfl (by omega) (by decide) dX0_tryGroup_103 ?_
                  refine z_ior hx hb dX0_tryGroup_104 ?_
                  refine lv_iload hx hb dX0_tryGroup_105 (lv_at hl 4 rfl) ?_
                  refine lv_aload_n hx hb dX0_tryGroup_107 rfl (lv_at hl 0 rfl) ?_
                  refine z_get (v := .ref u2) hC hK hP inX0 rfl 0 rfl 3 (by decide) tw_167 rfl dX0_tryGroup_108 ?_
                  refine lv_iload hx hb dX0_tryGroup_111 (lv_at hl 5 rfl) ?_
                  refine z_iald hC hK hP 2 rfl (by omega) (by decide) dX0_tryGroup_113 ?_
                  refine z_iadd hx hb dX0_tryGroup_114 ?_
                  refine z_wVv (q0 := 0) (ci := 0) (b := u0) (rest := []) (wr := []) hC hK hP hD hS hA (c_X0_tryGroup_5 l G H.size u0 u1 u2 u3 u4 u5 u6 f0 gr qn qg qb GA GN BB HP (zup qT ct qk) qC nf K (ps ++ [qk]) (btL (fun k cu => if zand ((fun k => kBits (K k)) k) bi = 0 then btZ GA (fun k => gnZ (K k)) (fun k => kBits (K k)) (gr - 5).toNat 5 (ps ++ [k]) (zor bi ((fun k => kBits (K k)) k)) (gn + (fun k => gnZ (K k)) k) cu else cu) (GA 4) (qk - GA 4).toNat cu) (ct + 1) (zor bi (BB qk)) (gn + (GN qk)) (by omega) (by omega) (by omega) (hga) (hmo) (hvl) (hhp) (rpT_add (rpT_cg hps hqt)) (by omega) (by omega) (hqc) (hqr)) mv_X0_tryGroup tw_400 [0, 1, 2, 3, 4, 5, 6] [] rfl rfl rfl rfl (by decide) rfl rfl rfl rfl hl.1 rfl (Nat.le_of_ble_eq_true rfl) ⟨rfl, rfl, Nat.le_of_ble_eq_true rfl, Nat.le_of_ble_eq_true rfl⟩ ⟨Nat.le_of_ble_eq_true rfl, Nat.le_of_ble_eq_true rfl⟩ dX0_tryGroup_115 (fun u H locs hw hP hD hS => ?_)
                  obtain ⟨cn'_2, cg'_2, cb'_2, TR'_2, CH'_2⟩ := u
                  dsimp only at hw hP hD
                  have hP : va_P G.1 vwCl [(u0, ob 0 [.ref f0, vI gr, .ref u1, .ref u2, .ref u3, .ref u4, .ref u5, .ref u6, vI cn'_2, vI cg'_2, vI cb'_2]), (u1, aI G 7 GA), (u2, aI G 40 GN), (u3, aI G 40 BB), (u4, aI G 7 HP), (u5, aI G 6 TR'_2), (u6, aI G 6 CH'_2)] H := hP
                  have hD : va_D A [(u0, ob 0 [.ref f0, vI gr, .ref u1, .ref u2, .ref u3, .ref u4, .ref u5, .ref u6, vI cn'_2, vI cg'_2, vI cb'_2]), (u1, aI G 7 GA), (u2, aI G 40 GN), (u3, aI G 40 BB), (u4, aI G 7 HP), (u5, aI G 6 TR'_2), (u6, aI G 6 CH'_2)] := hD
                  have hw_2 := hw
                  refine z_iinc (k := 5) (lv' := [(5, vI (qk + 1)), (0, .ref u0), (1, vI 4), (2, vI ct), (3, vI bi), (4, vI gn)]) hx hb dX0_tryGroup_118 hl rfl (by decide) rfl (fun ls hl => ?_)
                  refine lv_goto (tgt := 56) hx hb dX0_tryGroup_121 (by decide) ?_
                  exact ih_56 (qk + 1) cn'_2 cg'_2 cb'_2 TR'_2 CH'_2 H locs ls hP hD hS (lv_sub hl [1, 2, 3, 4, 5, 0] rfl) (by omega) (by rw [btL_1 (fun k cu => if zand ((fun k => kBits (K k)) k) bi = 0 then btZ GA (fun k => gnZ (K k)) (fun k => kBits (K k)) (gr - 5).toNat 5 (ps ++ [k]) (zor bi ((fun k => kBits (K k)) k)) (gn + (fun k => gnZ (K k)) k) cu else cu) hqk.1]; first | (rw [if_neg hzb]; exact hqr) | (rw [if_pos hzb]; have h9 := hw_2.1; rw [hvk.1, hvk.2] at h9; exact h9)) (by first | exact hqt | exact fun j hj => (hw_2.2 j (by omega)).trans ((zup_n _ _ (by omega)).trans (hqt j hj))) (by omega)
          exact cut_56 ((GA (4 + 1) - (GA 4)).toNat + 1) (GA 4) cn cg cb TR CH H locs ls hP hD hS (lv_sub hl [1, 2, 3, 4, 5, 0] rfl) (by omega) (by rw [btL_0]; exact hrp) (fun j hj => rfl) (Nat.lt_succ_self _)
        · refine lv_aload_n hx hb dX0_tryGroup_39 rfl (lv_at hl 0 rfl) ?_
          refine lv_iload_n hx hb dX0_tryGroup_40 rfl (lv_at hl 2 rfl) ?_
          refine lv_iload_n hx hb dX0_tryGroup_41 rfl (lv_at hl 3 rfl) ?_
          refine lv_iload hx hb dX0_tryGroup_42 (lv_at hl 4 rfl) ?_
          refine z_wVv (q0 := 0) (ci := 0) (b := u0) (rest := []) (wr := [(u1, aI G 7 GA), (u2, aI G 40 GN), (u3, aI G 40 BB), (u4, aI G 7 HP)]) hC hK hP hD hS hA (c_X0_keepTried l G H.size u0 u1 u2 u3 u4 u5 u6 f0 gr cn cg cb TR CH ct bi gn) mv_X0_keepTried tw_404 [0, 5, 6] [1, 2, 3, 4] rfl rfl rfl rfl (by decide) rfl rfl rfl rfl hl.1 rfl (Nat.le_of_ble_eq_true rfl) ⟨rfl, rfl, Nat.le_of_ble_eq_true rfl, Nat.le_of_ble_eq_true rfl⟩ ⟨Nat.le_of_ble_eq_true rfl, Nat.le_of_ble_eq_true rfl⟩ dX0_tryGroup_44 (fun u H locs hw hP hD hS => ?_)
          have hP : va_P G.1 vwCl [(u1, aI G 7 GA), (u2, aI G 40 GN), (u3, aI G 40 BB), (u4, aI G 7 HP), (u0, ob 0 [.ref f0, vI gr, .ref u1, .ref u2, .ref u3, .ref u4, .ref u5, .ref u6, vI ct, vI gn, vI bi]), (u5, aI G 6 TR), (u6, aI G 6 (zcpy TR CH 6))] H := hP
          have hD : va_D A [(u1, aI G 7 GA), (u2, aI G 40 GN), (u3, aI G 40 BB), (u4, aI G 7 HP), (u0, ob 0 [.ref f0, vI gr, .ref u1, .ref u2, .ref u3, .ref u4, .ref u5, .ref u6, vI ct, vI gn, vI bi]), (u5, aI G 6 TR), (u6, aI G 6 (zcpy TR CH 6))] := hD
          have hw_3 := hw
          clear hw_3
          exact z_vretW hC hr hlk ⟨ct, gn, bi, TR, zcpy TR CH 6⟩ hAe hP hD hS [4, 0, 1, 2, 3, 5, 6] (by decide) rfl rfl (⟨by rw [show (gr - 4).toNat = 0 by omega]; rw [show btZ GA (fun k => gnZ (K k)) (fun k => kBits (K k)) 0 4 ps bi gn cu = (gn, ps, bi) from if_pos (by have h9 := hhp.1; rw [show gr = 4 by omega] at h9; omega)]; exact rpH_keep hps (by omega), fun j hj => rfl⟩) dX0_tryGroup_47
      · exact z_vretW hC hr hlk ⟨cn, cg, cb, TR, CH⟩ hAe hP hD hS [0, 1, 2, 3, 4, 5, 6] (by decide) rfl rfl (⟨by rw [btZ_prune (hpJ_I hhp) (gr - 4).toNat 4 ps bi gn cu (by decide) (by omega) (by omega)]; exact hrp, fun j hj => rfl⟩) dX0_tryGroup_30

set_option maxRecDepth 100000 in
set_option maxHeartbeats 4000000 in
theorem c_X0_tryGroup_3 (l : Launch) (G : zGt) (sz : Nat) (u0 u1 u2 u3 u4 u5 u6 f0 : Nat) (gr cn cg cb : Int) (GA GN BB HP TR CH : Int → Int) (nf : Int) (K : Int → Int) (ps : List Int) (cu : cuT) (ct bi gn : Int) (hnf : 0 ≤ nf ∧ nf ≤ 40) (hgr : 0 ≤ gr ∧ gr ≤ 6) (hgD : 3 ≤ gr) (hga : ∀ g : Int, 0 ≤ g ∧ g < gr → 0 ≤ GA g ∧ GA g ≤ GA (g + 1) ∧ GA (g + 1) ≤ nf) (hmo : ∀ g : Int, 0 ≤ g ∧ g ≤ gr → GA g ≤ GA gr) (hvl : (∀ k : Int, 0 ≤ k ∧ k < GA gr → GN k = gnZ (K k) ∧ BB k = kBits (K k))) (hhp : hpJ K GA HP gr 0) (hps : rpT ps TR ct) (hct : ct ≤ 3) (hgn : -2000 * 3 ≤ gn ∧ gn ≤ 500000 * 3) (hcu : -12001 ≤ cu.1 ∧ cu.1 ≤ 3000000) (hrp : rpH cu CH cn cg cb) : Met l yX0_tryGroup (Cond.code yX0_tryGroup cX0_tryGroup 6 none :: tb) ({ frames := 5, cells := 0, slots := 0, locals := 116 } : Room) (zPw G [(u0, ob 0 [.ref f0, vI gr, .ref u1, .ref u2, .ref u3, .ref u4, .ref u5, .ref u6, vI cn, vI cg, vI cb]), (u1, aI G 7 GA), (u2, aI G 40 GN), (u3, aI G 40 BB), (u4, aI G 7 HP), (u5, aI G 6 TR), (u6, aI G 6 CH)] sz [.ref u0, vI 3, vI ct, vI bi, vI gn]) (va_Qv (fun u : Int × Int × Int × (Int → Int) × (Int → Int) => rpH (btZ GA (fun k => gnZ (K k)) (fun k => kBits (K k)) (gr - 3).toNat 3 ps bi gn cu) u.2.2.2.2 u.1 u.2.1 u.2.2.1 ∧ ∀ j : Int, 0 ≤ j ∧ j < ct → u.2.2.2.1 j = TR j) (fun (u : Int × Int × Int × (Int → Int) × (Int → Int)) t => zB G [(u0, ob 0 [.ref f0, vI gr, .ref u1, .ref u2, .ref u3, .ref u4, .ref u5, .ref u6, vI cn, vI cg, vI cb]), (u1, aI G 7 GA), (u2, aI G 40 GN), (u3, aI G 40 BB), (u4, aI G 7 HP), (u5, aI G 6 TR), (u6, aI G 6 CH)] sz [(u0, ob 0 [.ref f0, vI gr, .ref u1, .ref u2, .ref u3, .ref u4, .ref u5, .ref u6, vI u.1, vI u.2.1, vI u.2.2.1]), (u1, aI G 7 GA), (u2, aI G 40 GN), (u3, aI G 40 BB), (u4, aI G 7 HP), (u5, aI G 6 u.2.2.2.1), (u6, aI G 6 u.2.2.2.2)] t) (va_A [(u0, ob 0 [.ref f0, vI gr, .ref u1, .ref u2, .ref u3, .ref u4, .ref u5, .ref u6, vI cn, vI cg, vI cb]), (u1, aI G 7 GA), (u2, aI G 40 GN), (u3, aI G 40 BB), (u4, aI G 7 HP), (u5, aI G 6 TR), (u6, aI G 6 CH)] sz)) 0 0 (va_A [(u0, ob 0 [.ref f0, vI gr, .ref u1, .ref u2, .ref u3, .ref u4, .ref u5, .ref u6, vI cn, vI cg, vI cb]), (u1, aI G 7 GA), (u2, aI G 40 GN), (u3, aI G 40 BB), (u4, aI G 7 HP), (u5, aI G 6 TR), (u6, aI G 6 CH)] sz) := by
  refine Met.ofW (cc := cX0_tryGroup) (maxL := 6) (ret := none) (by decide) rfl ?_
  intro p e s m args below meth c s₁ B hml hv
  obtain ⟨rfl, hsz, hP, hK, hD0⟩ := hv
  subst hsz
  have hD := hD0.self (sz := s.heap.size)
  obtain ⟨A, hAe⟩ : ∃ A : Nat → Prop, A = va_A [(u0, ob 0 [.ref f0, vI gr, .ref u1, .ref u2, .ref u3, .ref u4, .ref u5, .ref u6, vI cn, vI cg, vI cb]), (u1, aI G 7 GA), (u2, aI G 40 GN), (u3, aI G 40 BB), (u4, aI G 7 HP), (u5, aI G 6 TR), (u6, aI G 6 CH)] s.heap.size := ⟨_, rfl⟩
  rw [← hAe] at hD
  have hA : ∀ q : Nat, s.heap.size ≤ q → A q := fun q h => by rw [hAe]; exact Or.inr h
  have hS : va_S A s.heap s.heap [] := va_S.rf
  obtain ⟨hC, hr, hlk⟩ := z_begin B hml
  have hC : CallFix p m c cX0_tryGroup 6 s _ tb RX0 := hC
  have hx := hC.1
  have hb := hC.2.1
  have hl := lv_entry ([.ref u0, vI 3, vI ct, vI bi, vI gn]) (n := 6) (Nat.le_of_ble_eq_true rfl)
  rw [lg_entry_eq]
  generalize (lg_sl ([.ref u0, vI 3, vI ct, vI bi, vI gn]) ++ List.replicate (6 - (lg_sl ([.ref u0, vI 3, vI ct, vI bi, vI gn])).length) Slot.unset).toArray = ls at hl ⊢
  have hl : lv_has ls 6 [(0, .ref u0), (1, vI 3), (2, vI ct), (3, vI bi), (4, vI gn)] := hl
  obtain ⟨H, hHe⟩ : ∃ H : Heap, H = s.heap := ⟨_, rfl⟩
  obtain ⟨locs, hLe⟩ : ∃ L : List Loc, L = [] := ⟨_, rfl⟩
  suffices hgo : W p l e (headSpec (Cond.code yX0_tryGroup cX0_tryGroup 6 none :: tb) ({ frames := 5, cells := 0, slots := 0, locals := 116 } : Room)).room s m ([.ref u0, vI 3, vI ct, vI bi, vI gn] : List Value).toArray below meth c H locs 0 0 (MQ below (va_Qv (fun u : Int × Int × Int × (Int → Int) × (Int → Int) => rpH (btZ GA (fun k => gnZ (K k)) (fun k => kBits (K k)) (gr - 3).toNat 3 ps bi gn cu) u.2.2.2.2 u.1 u.2.1 u.2.2.1 ∧ ∀ j : Int, 0 ≤ j ∧ j < ct → u.2.2.2.1 j = TR j) (fun (u : Int × Int × Int × (Int → Int) × (Int → Int)) t => zB G [(u0, ob 0 [.ref f0, vI gr, .ref u1, .ref u2, .ref u3, .ref u4, .ref u5, .ref u6, vI cn, vI cg, vI cb]), (u1, aI G 7 GA), (u2, aI G 40 GN), (u3, aI G 40 BB), (u4, aI G 7 HP), (u5, aI G 6 TR), (u6, aI G 6 CH)] s.heap.size [(u0, ob 0 [.ref f0, vI gr, .ref u1, .ref u2, .ref u3, .ref u4, .ref u5, .ref u6, vI u.1, vI u.2.1, vI u.2.2.1]), (u1, aI G 7 GA), (u2, aI G 40 GN), (u3, aI G 40 BB), (u4, aI G 7 HP), (u5, aI G 6 u.2.2.2.1), (u6, aI G 6 u.2.2.2.2)] t) (va_A [(u0, ob 0 [.ref f0, vI gr, .ref u1, .ref u2, .ref u3, .ref u4, .ref u5, .ref u6, vI cn, vI cg, vI cb]), (u1, aI G 7 GA), (u2, aI G 40 GN), (u3, aI G 40 BB), (u4, aI G 7 HP), (u5, aI G 6 TR), (u6, aI G 6 CH)] s.heap.size)) ([.ref u0, vI 3, vI ct, vI bi, vI gn] : List Value).toArray s 0 0 (va_A [(u0, ob 0 [.ref f0, vI gr, .ref u1, .ref u2, .ref u3, .ref u4, .ref u5, .ref u6, vI cn, vI cg, vI cb]), (u1, aI G 7 GA), (u2, aI G 40 GN), (u3, aI G 40 BB), (u4, aI G 7 HP), (u5, aI G 6 TR), (u6, aI G 6 CH)] s.heap.size)) (F0 m 0 ls []) by rw [hHe, hLe] at hgo; exact hgo
  rw [← hHe] at hP
  have hS : va_S A s.heap H locs := by rw [hHe, hLe]; exact hS
  clear hHe hLe
  have hhb := hpJ_bd hhp (g := 3) (by omega)
  have hcg := hrp.1
  have hpl := hps.1
  refine lv_iload_n hx hb dX0_tryGroup_0 rfl (lv_at hl 1 rfl) ?_
  refine lv_aload_n hx hb dX0_tryGroup_1 rfl (lv_at hl 0 rfl) ?_
  refine z_get (v := vI gr) hC hK hP inX0 rfl 0 rfl 1 (by decide) tw_165 rfl dX0_tryGroup_2 ?_
  refine z_icmp_gt (tgt := 30) hx hb dX0_tryGroup_5 (by decide) (by omega) (fun c_5 => ?_) (fun c_5 => ?_)
  · exfalso; omega
  · refine lv_iload_n hx hb dX0_tryGroup_8 rfl (lv_at hl 1 rfl) ?_
    refine lv_bipush (v := iI 6) hx hb dX0_tryGroup_9 (by decide) ?_
    refine z_icmp_gt (tgt := 30) hx hb dX0_tryGroup_11 (by decide) (by omega) (fun c_11 => ?_) (fun c_11 => ?_)
    · exfalso; omega
    · refine lv_iload hx hb dX0_tryGroup_14 (lv_at hl 4 rfl) ?_
      refine lv_aload_n hx hb dX0_tryGroup_16 rfl (lv_at hl 0 rfl) ?_
      refine z_get (v := .ref u4) hC hK hP inX0 rfl 0 rfl 5 (by decide) tw_169 rfl dX0_tryGroup_17 ?_
      refine lv_iload_n hx hb dX0_tryGroup_20 rfl (lv_at hl 1 rfl) ?_
      refine z_iald hC hK hP 4 rfl (by omega) (by decide) dX0_tryGroup_21 ?_
      refine z_iadd hx hb dX0_tryGroup_22 ?_
      refine lv_aload_n hx hb dX0_tryGroup_23 rfl (lv_at hl 0 rfl) ?_
      refine z_get (v := vI cg) hC hK hP inX0 rfl 0 rfl 9 (by decide) tw_173 rfl dX0_tryGroup_24 ?_
      refine z_icmp_gt (tgt := 31) hx hb dX0_tryGroup_27 (by decide) (by omega) (fun c_27 => ?_) (fun c_27 => ?_)
      · refine lv_iload_n hx hb dX0_tryGroup_31 rfl (lv_at hl 1 rfl) ?_
        refine lv_aload_n hx hb dX0_tryGroup_32 rfl (lv_at hl 0 rfl) ?_
        refine z_get (v := vI gr) hC hK hP inX0 rfl 0 rfl 1 (by decide) tw_165 rfl dX0_tryGroup_33 ?_
        refine z_icmp_ne (tgt := 48) hx hb dX0_tryGroup_36 (by decide) (by omega) (fun c_36 => ?_) (fun c_36 => ?_)
        · have hgg := hga 3 (by omega)
          have hg1 := hmo (3 + 1) (by omega)
          have hns : (gr - 3).toNat = (gr - 4).toNat + 1 := by omega
          refine lv_aload_n hx hb dX0_tryGroup_48 rfl (lv_at hl 0 rfl) ?_
          refine z_get (v := .ref u1) hC hK hP inX0 rfl 0 rfl 2 (by decide) tw_166 rfl dX0_tryGroup_49 ?_
          refine lv_iload_n hx hb dX0_tryGroup_52 rfl (lv_at hl 1 rfl) ?_
          refine z_iald hC hK hP 1 rfl (by omega) (by decide) dX0_tryGroup_53 ?_
          refine lv_istore (lv' := [(5, vI (GA 3)), (0, .ref u0), (1, vI 3), (2, vI ct), (3, vI bi), (4, vI gn)]) hx hb dX0_tryGroup_54 hl (by decide) rfl (fun ls hl => ?_)
          have cut_56 : ∀ (n_ : Nat) (qk : Int) (qn : Int) (qg : Int) (qb : Int) (qT : Int → Int) (qC : Int → Int) (H : Heap) (locs : List Loc) (ls : Array Slot), va_P G.1 vwCl [(u0, ob 0 [.ref f0, vI gr, .ref u1, .ref u2, .ref u3, .ref u4, .ref u5, .ref u6, vI qn, vI qg, vI qb]), (u1, aI G 7 GA), (u2, aI G 40 GN), (u3, aI G 40 BB), (u4, aI G 7 HP), (u5, aI G 6 qT), (u6, aI G 6 qC)] H → va_D A [(u0, ob 0 [.ref f0, vI gr, .ref u1, .ref u2, .ref u3, .ref u4, .ref u5, .ref u6, vI qn, vI qg, vI qb]), (u1, aI G 7 GA), (u2, aI G 40 GN), (u3, aI G 40 BB), (u4, aI G 7 HP), (u5, aI G 6 qT), (u6, aI G 6 qC)] → va_S A s.heap H locs → lv_has ls 6 [(0, .ref u0), (1, vI 3), (2, vI ct), (3, vI bi), (4, vI gn), (5, vI qk)] → (GA 3 ≤ qk ∧ qk ≤ GA (3 + 1)) → (rpH (btL (fun k cu => if zand ((fun k => kBits (K k)) k) bi = 0 then btZ GA (fun k => gnZ (K k)) (fun k => kBits (K k)) (gr - 4).toNat 4 (ps ++ [k]) (zor bi ((fun k => kBits (K k)) k)) (gn + (fun k => gnZ (K k)) k) cu else cu) (GA 3) (qk - GA 3).toNat cu) qC qn qg qb) → (∀ j : Int, 0 ≤ j ∧ j < ct → qT j = TR j) → (GA (3 + 1) - qk).toNat < n_ → W p l e (headSpec (Cond.code yX0_tryGroup cX0_tryGroup 6 none :: tb) ({ frames := 5, cells := 0, slots := 0, locals := 116 } : Room)).room s m ([.ref u0, vI 3, vI ct, vI bi, vI gn] : List Value).toArray below meth c H locs 0 0 (MQ below (va_Qv (fun u : Int × Int × Int × (Int → Int) × (Int → Int) => rpH (btZ GA (fun k => gnZ (K k)) (fun k => kBits (K k)) (gr - 3).toNat 3 ps bi gn cu) u.2.2.2.2 u.1 u.2.1 u.2.2.1 ∧ ∀ j : Int, 0 ≤ j ∧ j < ct → u.2.2.2.1 j = TR j) (fun (u : Int × Int × Int × (Int → Int) × (Int → Int)) t => zB G [(u0, ob 0 [.ref f0, vI gr, .ref u1, .ref u2, .ref u3, .ref u4, .ref u5, .ref u6, vI cn, vI cg, vI cb]), (u1, aI G 7 GA), (u2, aI G 40 GN), (u3, aI G 40 BB), (u4, aI G 7 HP), (u5, aI G 6 TR), (u6, aI G 6 CH)] s.heap.size [(u0, ob 0 [.ref f0, vI gr, .ref u1, .ref u2, .ref u3, .ref u4, .ref u5, .ref u6, vI u.1, vI u.2.1, vI u.2.2.1]), (u1, aI G 7 GA), (u2, aI G 40 GN), (u3, aI G 40 BB), (u4, aI G 7 HP), (u5, aI G 6 u.2.2.2.1), (u6, aI G 6 u.2.2.2.2)] t) (va_A [(u0, ob 0 [.ref f0, vI gr, .ref u1, .ref u2, .ref u3, .ref u4, .ref u5, .ref u6, vI cn, vI cg, vI cb]), (u1, aI G 7 GA), (u2, aI G 40 GN), (u3, aI G 40 BB), (u4, aI G 7 HP), (u5, aI G 6 TR), (u6, aI G 6 CH)] s.heap.size)) ([.ref u0, vI 3, vI ct, vI bi, vI gn] : List Value).toArray s 0 0 (va_A [(u0, ob 0 [.ref f0, vI gr, .ref u1, .ref u2, .ref u3, .ref u4, .ref u5, .ref u6, vI cn, vI cg, vI cb]), (u1, aI G 7 GA), (u2, aI G 40 GN), (u3, aI G 40 BB), (u4, aI G 7 HP), (u5, aI G 6 TR), (u6, aI G 6 CH)] s.heap.size)) (F0 m 56 ls []) := by
            intro n_
            induction n_ with
            | zero => exact fun qk qn qg qb qT qC H locs ls hP hD hS hl hqk hqr hqt hm_ => absurd hm_ (Nat.not_lt_zero _)
            | succ n_ ih_56 =>
              intro qk qn qg qb qT qC H locs ls hP hD hS hl hqk hqr hqt hm_
              have hqc := btL_rng (GA := GA) (GN := (fun k => gnZ (K k))) (BB := (fun k => kBits (K k))) (fun k => gnZ_bd (K k)) (n := (gr - 4).toNat) (g := 3) (ps := ps) (bi := bi) hgn (by decide) (by omega) hcu (GA 3) (qk - GA 3).toNat
              refine lv_iload hx hb dX0_tryGroup_56 (lv_at hl 5 rfl) ?_
              refine lv_aload_n hx hb dX0_tryGroup_58 rfl (lv_at hl 0 rfl) ?_
              refine z_get (v := .ref u1) hC hK hP inX0 rfl 0 rfl 2 (by decide) tw_166 rfl dX0_tryGroup_59 ?_
              refine lv_iload_n hx hb dX0_tryGroup_62 rfl (lv_at hl 1 rfl) ?_
              refine lv_iconst (v := iI 1) hx hb dX0_tryGroup_63 rfl ?_
              refine z_iadd hx hb dX0_tryGroup_64 ?_
              refine z_iald hC hK hP 1 rfl (by omega) (by decide) dX0_tryGroup_65 ?_
              refine z_icmp_ge (tgt := 124) hx hb dX0_tryGroup_66 (by decide) (by omega) (fun c_66 => ?_) (fun c_66 => ?_)
              · refine lv_aload_n hx hb dX0_tryGroup_124 rfl (lv_at hl 0 rfl) ?_
                refine lv_iload_n hx hb dX0_tryGroup_125 rfl (lv_at hl 1 rfl) ?_
                refine lv_iconst (v := iI 1) hx hb dX0_tryGroup_126 rfl ?_
                refine z_iadd hx hb dX0_tryGroup_127 ?_
                refine lv_iload_n hx hb dX0_tryGroup_128 rfl (lv_at hl 2 rfl) ?_
                refine lv_iload_n hx hb dX0_tryGroup_129 rfl (lv_at hl 3 rfl) ?_
                refine lv_iload hx hb dX0_tryGroup_130 (lv_at hl 4 rfl) ?_
                refine z_wVv (q0 := 0) (ci := 0) (b := u0) (rest := []) (wr := []) hC hK hP hD hS hA (c_X0_tryGroup_4 l G H.size u0 u1 u2 u3 u4 u5 u6 f0 gr qn qg qb GA GN BB HP qT qC nf K ps (btL (fun k cu => if zand ((fun k => kBits (K k)) k) bi = 0 then btZ GA (fun k => gnZ (K k)) (fun k => kBits (K k)) (gr - 4).toNat 4 (ps ++ [k]) (zor bi ((fun k => kBits (K k)) k)) (gn + (fun k => gnZ (K k)) k) cu else cu) (GA 3) (GA (3 + 1) - GA 3).toNat cu) ct bi gn (by omega) (by omega) (by omega) (hga) (hmo) (hvl) (hhp) (rpT_cg hps hqt) (by omega) (by omega) (by rw [show GA (3 + 1) = qk by omega]; exact hqc) (by rw [show GA (3 + 1) = qk by omega]; exact hqr)) mv_X0_tryGroup tw_400 [0, 1, 2, 3, 4, 5, 6] [] rfl rfl rfl rfl (by decide) rfl rfl rfl rfl hl.1 rfl (Nat.le_of_ble_eq_true rfl) ⟨rfl, rfl, Nat.le_of_ble_eq_true rfl, Nat.le_of_ble_eq_true rfl⟩ ⟨Nat.le_of_ble_eq_true rfl, Nat.le_of_ble_eq_true rfl⟩ dX0_tryGroup_132 (fun u H locs hw hP hD hS => ?_)
                obtain ⟨cn'_1, cg'_1, cb'_1, TR'_1, CH'_1⟩ := u
                dsimp only at hw hP hD
                have hP : va_P G.1 vwCl [(u0, ob 0 [.ref f0, vI gr, .ref u1, .ref u2, .ref u3, .ref u4, .ref u5, .ref u6, vI cn'_1, vI cg'_1, vI cb'_1]), (u1, aI G 7 GA), (u2, aI G 40 GN), (u3, aI G 40 BB), (u4, aI G 7 HP), (u5, aI G 6 TR'_1), (u6, aI G 6 CH'_1)] H := hP
                have hD : va_D A [(u0, ob 0 [.ref f0, vI gr, .ref u1, .ref u2, .ref u3, .ref u4, .ref u5, .ref u6, vI cn'_1, vI cg'_1, vI cb'_1]), (u1, aI G 7 GA), (u2, aI G 40 GN), (u3, aI G 40 BB), (u4, aI G 7 HP), (u5, aI G 6 TR'_1), (u6, aI G 6 CH'_1)] := hD
                have hw_1 := hw
                exact z_vretW hC hr hlk ⟨cn'_1, cg'_1, cb'_1, TR'_1, CH'_1⟩ hAe hP hD hS [0, 1, 2, 3, 4, 5, 6] (by decide) rfl rfl (⟨by rw [hns, btZ_n]; exact hw_1.1, fun j hj => (hw_1.2 j hj).trans (hqt j hj)⟩) dX0_tryGroup_135
              · have hvk := hvl qk (by omega)
                have hgk := gnZ_bd (K qk)
                refine lv_aload_n hx hb dX0_tryGroup_69 rfl (lv_at hl 0 rfl) ?_
                refine z_get (v := .ref u3) hC hK hP inX0 rfl 0 rfl 4 (by decide) tw_168 rfl dX0_tryGroup_70 ?_
                refine lv_iload hx hb dX0_tryGroup_73 (lv_at hl 5 rfl) ?_
                refine z_iald hC hK hP 3 rfl (by omega) (by decide) dX0_tryGroup_75 ?_
                refine lv_iload_n hx hb dX0_tryGroup_76 rfl (lv_at hl 3 rfl) ?_
                refine z_iand hx hb dX0_tryGroup_77 ?_
                refine z_if_ne (tgt := 118) hx hb dX0_tryGroup_78 (by decide) (zand_rng _ _) (fun c_78 => ?_) (fun c_78 => ?_)
                · have hzb : ¬ zand ((fun k => kBits (K k)) qk) bi = 0 := by show ¬ zand (kBits (K qk)) bi = 0; rw [← hvk.2]; exact c_78
                  refine z_iinc (k := 5) (lv' := [(5, vI (qk + 1)), (0, .ref u0), (1, vI 3), (2, vI ct), (3, vI bi), (4, vI gn)]) hx hb dX0_tryGroup_118 hl rfl (by decide) rfl (fun ls hl => ?_)
                  refine lv_goto (tgt := 56) hx hb dX0_tryGroup_121 (by decide) ?_
                  exact ih_56 (qk + 1) qn qg qb qT qC H locs ls hP hD hS (lv_sub hl [1, 2, 3, 4, 5, 0] rfl) (by omega) (by rw [btL_1 (fun k cu => if zand ((fun k => kBits (K k)) k) bi = 0 then btZ GA (fun k => gnZ (K k)) (fun k => kBits (K k)) (gr - 4).toNat 4 (ps ++ [k]) (zor bi ((fun k => kBits (K k)) k)) (gn + (fun k => gnZ (K k)) k) cu else cu) hqk.1]; first | (rw [if_neg hzb]; exact hqr) | (rw [if_pos hzb]; have h9 := hw_2.1; rw [hvk.1, hvk.2] at h9; exact h9)) (by first | exact hqt | exact fun j hj => (hw_2.2 j (by omega)).trans ((zup_n _ _ (by omega)).trans (hqt j hj))) (by omega)
                · have hzb : zand ((fun k => kBits (K k)) qk) bi = 0 := by show zand (kBits (K qk)) bi = 0; rw [← hvk.2]; exact c_78
                  refine lv_aload_n hx hb dX0_tryGroup_81 rfl (lv_at hl 0 rfl) ?_
                  refine z_get (v := .ref u5) hC hK hP inX0 rfl 0 rfl 6 (by decide) tw_170 rfl dX0_tryGroup_82 ?_
                  refine lv_iload_n hx hb dX0_tryGroup_85 rfl (lv_at hl 2 rfl) ?_
                  refine lv_iload hx hb dX0_tryGroup_86 (lv_at hl 5 rfl) ?_
                  refine z_iast (ws' := [(u0, ob 0 [.ref f0, vI gr, .ref u1, .ref u2, .ref u3, .ref u4, .ref u5, .ref u6, vI qn, vI qg, vI qb]), (u1, aI G 7 GA), (u2, aI G 40 GN), (u3, aI G 40 BB), (u4, aI G 7 HP), (u5, aI G 6 (zup qT ct qk)), (u6, aI G 6 qC)]) hC hK hP hD hS 5 rfl (by omega) (by decide) rfl dX0_tryGroup_88 (fun H locs hP hD hS => ?_)
                  refine lv_aload_n hx hb dX0_tryGroup_89 rfl (lv_at hl 0 rfl) ?_
                  refine lv_iload_n hx hb dX0_tryGroup_90 rfl (lv_at hl 1 rfl) ?_
                  refine lv_iconst (v := iI 1) hx hb dX0_tryGroup_91 rfl ?_
                  refine z_iadd hx hb dX0_tryGroup_92 ?_
                  refine lv_iload_n hx hb dX0_tryGroup_93 rfl (lv_at hl 2 rfl) ?_
                  refine lv_iconst (v := iI 1) hx hb dX0_tryGroup_94 rfl ?_
                  refine z_iadd hx hb dX0_tryGroup_95 ?_
                  refine lv_iload_n hx hb dX0_tryGroup_96 rfl (lv_at hl 3 rfl) ?_
                  refine lv_aload_n hx hb dX0_tryGroup_97 rfl (lv_at hl 0 rfl) ?_
                  refine z_get (v := .ref u3) hC hK hP inX0 rfl 0 rfl 4 (by decide) tw_168 rfl dX0_tryGroup_98 ?_
                  refine lv_iload hx hb dX0_tryGroup_101 (lv_at hl 5 rfl) ?_
                  refine z_iald hC hK hP 3 rfl (by omega) (by decide) dX0_tryGroup_103 ?_
                  refine z_ior hx hb dX0_tryGroup_104 ?_
                  refine lv_iload hx hb dX0_tryGroup_105 (lv_at hl 4 rfl) ?_
                  refine lv_aload_n hx hb dX0_tryGroup_107 rfl (lv_at hl 0 rfl) ?_
                  refine z_get (v := .ref u2) hC hK hP inX0 rfl 0 rfl 3 (by decide) tw_167 rfl dX0_tryGroup_108 ?_
                  refine lv_iload hx hb dX0_tryGroup_111 (lv_at hl 5 rfl) ?_
                  refine z_iald hC hK hP 2 rfl (by omega) (by decide) dX0_tryGroup_113 ?_
                  refine z_iadd hx hb dX0_tryGroup_114 ?_
                  refine z_wVv (q0 := 0) (ci := 0) (b := u0) (rest := []) (wr := []) hC hK hP hD hS hA (c_X0_tryGroup_4 l G H.size u0 u1 u2 u3 u4 u5 u6 f0 gr qn qg qb GA GN BB HP (zup qT ct qk) qC nf K (ps ++ [qk]) (btL (fun k cu => if zand ((fun k => kBits (K k)) k) bi = 0 then btZ GA (fun k => gnZ (K k)) (fun k => kBits (K k)) (gr - 4).toNat 4 (ps ++ [k]) (zor bi ((fun k => kBits (K k)) k)) (gn + (fun k => gnZ (K k)) k) cu else cu) (GA 3) (qk - GA 3).toNat cu) (ct + 1) (zor bi (BB qk)) (gn + (GN qk)) (by omega) (by omega) (by omega) (hga) (hmo) (hvl) (hhp) (rpT_add (rpT_cg hps hqt)) (by omega) (by omega) (hqc) (hqr)) mv_X0_tryGroup tw_400 [0, 1, 2, 3, 4, 5, 6] [] rfl rfl rfl rfl (by decide) rfl rfl rfl rfl hl.1 rfl (Nat.le_of_ble_eq_true rfl) ⟨rfl, rfl, Nat.le_of_ble_eq_true rfl, Nat.le_of_ble_eq_true rfl⟩ ⟨Nat.le_of_ble_eq_true rfl, Nat.le_of_ble_eq_true rfl⟩ dX0_tryGroup_115 (fun u H locs hw hP hD hS => ?_)
                  obtain ⟨cn'_2, cg'_2, cb'_2, TR'_2, CH'_2⟩ := u
                  dsimp only at hw hP hD
                  have hP : va_P G.1 vwCl [(u0, ob 0 [.ref f0, vI gr, .ref u1, .ref u2, .ref u3, .ref u4, .ref u5, .ref u6, vI cn'_2, vI cg'_2, vI cb'_2]), (u1, aI G 7 GA), (u2, aI G 40 GN), (u3, aI G 40 BB), (u4, aI G 7 HP), (u5, aI G 6 TR'_2), (u6, aI G 6 CH'_2)] H := hP
                  have hD : va_D A [(u0, ob 0 [.ref f0, vI gr, .ref u1, .ref u2, .ref u3, .ref u4, .ref u5, .ref u6, vI cn'_2, vI cg'_2, vI cb'_2]), (u1, aI G 7 GA), (u2, aI G 40 GN), (u3, aI G 40 BB), (u4, aI G 7 HP), (u5, aI G 6 TR'_2), (u6, aI G 6 CH'_2)] := hD
                  have hw_2 := hw
                  refine z_iinc (k := 5) (lv' := [(5, vI (qk + 1)), (0, .ref u0), (1, vI 3), (2, vI ct), (3, vI bi), (4, vI gn)]) hx hb dX0_tryGroup_118 hl rfl (by decide) rfl (fun ls hl => ?_)
                  refine lv_goto (tgt := 56) hx hb dX0_tryGroup_121 (by decide) ?_
                  exact ih_56 (qk + 1) cn'_2 cg'_2 cb'_2 TR'_2 CH'_2 H locs ls hP hD hS (lv_sub hl [1, 2, 3, 4, 5, 0] rfl) (by omega) (by rw [btL_1 (fun k cu => if zand ((fun k => kBits (K k)) k) bi = 0 then btZ GA (fun k => gnZ (K k)) (fun k => kBits (K k)) (gr - 4).toNat 4 (ps ++ [k]) (zor bi ((fun k => kBits (K k)) k)) (gn + (fun k => gnZ (K k)) k) cu else cu) hqk.1]; first | (rw [if_neg hzb]; exact hqr) | (rw [if_pos hzb]; have h9 := hw_2.1; rw [hvk.1, hvk.2] at h9; exact h9)) (by first | exact hqt | exact fun j hj => (hw_2.2 j (by omega)).trans ((zup_n _ _ (by omega)).trans (hqt j hj))) (by omega)
          exact cut_56 ((GA (3 + 1) - (GA 3)).toNat + 1) (GA 3) cn cg cb TR CH H locs ls hP hD hS (lv_sub hl [1, 2, 3, 4, 5, 0] rfl) (by omega) (by rw [btL_0]; exact hrp) (fun j hj => rfl) (Nat.lt_succ_self _)
        · refine lv_aload_n hx hb dX0_tryGroup_39 rfl (lv_at hl 0 rfl) ?_
          refine lv_iload_n hx hb dX0_tryGroup_40 rfl (lv_at hl 2 rfl) ?_
          refine lv_iload_n hx hb dX0_tryGroup_41 rfl (lv_at hl 3 rfl) ?_
          refine lv_iload hx hb dX0_tryGroup_42 (lv_at hl 4 rfl) ?_
          refine z_wVv (q0 := 0) (ci := 0) (b := u0) (rest := []) (wr := [(u1, aI G 7 GA), (u2, aI G 40 GN), (u3, aI G 40 BB), (u4, aI G 7 HP)]) hC hK hP hD hS hA (c_X0_keepTried l G H.size u0 u1 u2 u3 u4 u5 u6 f0 gr cn cg cb TR CH ct bi gn) mv_X0_keepTried tw_404 [0, 5, 6] [1, 2, 3, 4] rfl rfl rfl rfl (by decide) rfl rfl rfl rfl hl.1 rfl (Nat.le_of_ble_eq_true rfl) ⟨rfl, rfl, Nat.le_of_ble_eq_true rfl, Nat.le_of_ble_eq_true rfl⟩ ⟨Nat.le_of_ble_eq_true rfl, Nat.le_of_ble_eq_true rfl⟩ dX0_tryGroup_44 (fun u H locs hw hP hD hS => ?_)
          have hP : va_P G.1 vwCl [(u1, aI G 7 GA), (u2, aI G 40 GN), (u3, aI G 40 BB), (u4, aI G 7 HP), (u0, ob 0 [.ref f0, vI gr, .ref u1, .ref u2, .ref u3, .ref u4, .ref u5, .ref u6, vI ct, vI gn, vI bi]), (u5, aI G 6 TR), (u6, aI G 6 (zcpy TR CH 6))] H := hP
          have hD : va_D A [(u1, aI G 7 GA), (u2, aI G 40 GN), (u3, aI G 40 BB), (u4, aI G 7 HP), (u0, ob 0 [.ref f0, vI gr, .ref u1, .ref u2, .ref u3, .ref u4, .ref u5, .ref u6, vI ct, vI gn, vI bi]), (u5, aI G 6 TR), (u6, aI G 6 (zcpy TR CH 6))] := hD
          have hw_3 := hw
          clear hw_3
          exact z_vretW hC hr hlk ⟨ct, gn, bi, TR, zcpy TR CH 6⟩ hAe hP hD hS [4, 0, 1, 2, 3, 5, 6] (by decide) rfl rfl (⟨by rw [show (gr - 3).toNat = 0 by omega]; rw [show btZ GA (fun k => gnZ (K k)) (fun k => kBits (K k)) 0 3 ps bi gn cu = (gn, ps, bi) from if_pos (by have h9 := hhp.1; rw [show gr = 3 by omega] at h9; omega)]; exact rpH_keep hps (by omega), fun j hj => rfl⟩) dX0_tryGroup_47
      · exact z_vretW hC hr hlk ⟨cn, cg, cb, TR, CH⟩ hAe hP hD hS [0, 1, 2, 3, 4, 5, 6] (by decide) rfl rfl (⟨by rw [btZ_prune (hpJ_I hhp) (gr - 3).toNat 3 ps bi gn cu (by decide) (by omega) (by omega)]; exact hrp, fun j hj => rfl⟩) dX0_tryGroup_30

set_option maxRecDepth 100000 in
set_option maxHeartbeats 4000000 in
theorem c_X0_tryGroup_2 (l : Launch) (G : zGt) (sz : Nat) (u0 u1 u2 u3 u4 u5 u6 f0 : Nat) (gr cn cg cb : Int) (GA GN BB HP TR CH : Int → Int) (nf : Int) (K : Int → Int) (ps : List Int) (cu : cuT) (ct bi gn : Int) (hnf : 0 ≤ nf ∧ nf ≤ 40) (hgr : 0 ≤ gr ∧ gr ≤ 6) (hgD : 2 ≤ gr) (hga : ∀ g : Int, 0 ≤ g ∧ g < gr → 0 ≤ GA g ∧ GA g ≤ GA (g + 1) ∧ GA (g + 1) ≤ nf) (hmo : ∀ g : Int, 0 ≤ g ∧ g ≤ gr → GA g ≤ GA gr) (hvl : (∀ k : Int, 0 ≤ k ∧ k < GA gr → GN k = gnZ (K k) ∧ BB k = kBits (K k))) (hhp : hpJ K GA HP gr 0) (hps : rpT ps TR ct) (hct : ct ≤ 2) (hgn : -2000 * 2 ≤ gn ∧ gn ≤ 500000 * 2) (hcu : -12001 ≤ cu.1 ∧ cu.1 ≤ 3000000) (hrp : rpH cu CH cn cg cb) : Met l yX0_tryGroup (Cond.code yX0_tryGroup cX0_tryGroup 6 none :: tb) ({ frames := 6, cells := 0, slots := 0, locals := 141 } : Room) (zPw G [(u0, ob 0 [.ref f0, vI gr, .ref u1, .ref u2, .ref u3, .ref u4, .ref u5, .ref u6, vI cn, vI cg, vI cb]), (u1, aI G 7 GA), (u2, aI G 40 GN), (u3, aI G 40 BB), (u4, aI G 7 HP), (u5, aI G 6 TR), (u6, aI G 6 CH)] sz [.ref u0, vI 2, vI ct, vI bi, vI gn]) (va_Qv (fun u : Int × Int × Int × (Int → Int) × (Int → Int) => rpH (btZ GA (fun k => gnZ (K k)) (fun k => kBits (K k)) (gr - 2).toNat 2 ps bi gn cu) u.2.2.2.2 u.1 u.2.1 u.2.2.1 ∧ ∀ j : Int, 0 ≤ j ∧ j < ct → u.2.2.2.1 j = TR j) (fun (u : Int × Int × Int × (Int → Int) × (Int → Int)) t => zB G [(u0, ob 0 [.ref f0, vI gr, .ref u1, .ref u2, .ref u3, .ref u4, .ref u5, .ref u6, vI cn, vI cg, vI cb]), (u1, aI G 7 GA), (u2, aI G 40 GN), (u3, aI G 40 BB), (u4, aI G 7 HP), (u5, aI G 6 TR), (u6, aI G 6 CH)] sz [(u0, ob 0 [.ref f0, vI gr, .ref u1, .ref u2, .ref u3, .ref u4, .ref u5, .ref u6, vI u.1, vI u.2.1, vI u.2.2.1]), (u1, aI G 7 GA), (u2, aI G 40 GN), (u3, aI G 40 BB), (u4, aI G 7 HP), (u5, aI G 6 u.2.2.2.1), (u6, aI G 6 u.2.2.2.2)] t) (va_A [(u0, ob 0 [.ref f0, vI gr, .ref u1, .ref u2, .ref u3, .ref u4, .ref u5, .ref u6, vI cn, vI cg, vI cb]), (u1, aI G 7 GA), (u2, aI G 40 GN), (u3, aI G 40 BB), (u4, aI G 7 HP), (u5, aI G 6 TR), (u6, aI G 6 CH)] sz)) 0 0 (va_A [(u0, ob 0 [.ref f0, vI gr, .ref u1, .ref u2, .ref u3, .ref u4, .ref u5, .ref u6, vI cn, vI cg, vI cb]), (u1, aI G 7 GA), (u2, aI G 40 GN), (u3, aI G 40 BB), (u4, aI G 7 HP), (u5, aI G 6 TR), (u6, aI G 6 CH)] sz) := by
  refine Met.ofW (cc := cX0_tryGroup) (maxL := 6) (ret := none) (by decide) rfl ?_
  intro p e s m args below meth c s₁ B hml hv
  obtain ⟨rfl, hsz, hP, hK, hD0⟩ := hv
  subst hsz
  have hD := hD0.self (sz := s.heap.size)
  obtain ⟨A, hAe⟩ : ∃ A : Nat → Prop, A = va_A [(u0, ob 0 [.ref f0, vI gr, .ref u1, .ref u2, .ref u3, .ref u4, .ref u5, .ref u6, vI cn, vI cg, vI cb]), (u1, aI G 7 GA), (u2, aI G 40 GN), (u3, aI G 40 BB), (u4, aI G 7 HP), (u5, aI G 6 TR), (u6, aI G 6 CH)] s.heap.size := ⟨_, rfl⟩
  rw [← hAe] at hD
  have hA : ∀ q : Nat, s.heap.size ≤ q → A q := fun q h => by rw [hAe]; exact Or.inr h
  have hS : va_S A s.heap s.heap [] := va_S.rf
  obtain ⟨hC, hr, hlk⟩ := z_begin B hml
  have hC : CallFix p m c cX0_tryGroup 6 s _ tb RX0 := hC
  have hx := hC.1
  have hb := hC.2.1
  have hl := lv_entry ([.ref u0, vI 2, vI ct, vI bi, vI gn]) (n := 6) (Nat.le_of_ble_eq_true rfl)
  rw [lg_entry_eq]
  generalize (lg_sl ([.ref u0, vI 2, vI ct, vI bi, vI gn]) ++ List.replicate (6 - (lg_sl ([.ref u0, vI 2, vI ct, vI bi, vI gn])).length) Slot.unset).toArray = ls at hl ⊢
  have hl : lv_has ls 6 [(0, .ref u0), (1, vI 2), (2, vI ct), (3, vI bi), (4, vI gn)] := hl
  obtain ⟨H, hHe⟩ : ∃ H : Heap, H = s.heap := ⟨_, rfl⟩
  obtain ⟨locs, hLe⟩ : ∃ L : List Loc, L = [] := ⟨_, rfl⟩
  suffices hgo : W p l e (headSpec (Cond.code yX0_tryGroup cX0_tryGroup 6 none :: tb) ({ frames := 6, cells := 0, slots := 0, locals := 141 } : Room)).room s m ([.ref u0, vI 2, vI ct, vI bi, vI gn] : List Value).toArray below meth c H locs 0 0 (MQ below (va_Qv (fun u : Int × Int × Int × (Int → Int) × (Int → Int) => rpH (btZ GA (fun k => gnZ (K k)) (fun k => kBits (K k)) (gr - 2).toNat 2 ps bi gn cu) u.2.2.2.2 u.1 u.2.1 u.2.2.1 ∧ ∀ j : Int, 0 ≤ j ∧ j < ct → u.2.2.2.1 j = TR j) (fun (u : Int × Int × Int × (Int → Int) × (Int → Int)) t => zB G [(u0, ob 0 [.ref f0, vI gr, .ref u1, .ref u2, .ref u3, .ref u4, .ref u5, .ref u6, vI cn, vI cg, vI cb]), (u1, aI G 7 GA), (u2, aI G 40 GN), (u3, aI G 40 BB), (u4, aI G 7 HP), (u5, aI G 6 TR), (u6, aI G 6 CH)] s.heap.size [(u0, ob 0 [.ref f0, vI gr, .ref u1, .ref u2, .ref u3, .ref u4, .ref u5, .ref u6, vI u.1, vI u.2.1, vI u.2.2.1]), (u1, aI G 7 GA), (u2, aI G 40 GN), (u3, aI G 40 BB), (u4, aI G 7 HP), (u5, aI G 6 u.2.2.2.1), (u6, aI G 6 u.2.2.2.2)] t) (va_A [(u0, ob 0 [.ref f0, vI gr, .ref u1, .ref u2, .ref u3, .ref u4, .ref u5, .ref u6, vI cn, vI cg, vI cb]), (u1, aI G 7 GA), (u2, aI G 40 GN), (u3, aI G 40 BB), (u4, aI G 7 HP), (u5, aI G 6 TR), (u6, aI G 6 CH)] s.heap.size)) ([.ref u0, vI 2, vI ct, vI bi, vI gn] : List Value).toArray s 0 0 (va_A [(u0, ob 0 [.ref f0, vI gr, .ref u1, .ref u2, .ref u3, .ref u4, .ref u5, .ref u6, vI cn, vI cg, vI cb]), (u1, aI G 7 GA), (u2, aI G 40 GN), (u3, aI G 40 BB), (u4, aI G 7 HP), (u5, aI G 6 TR), (u6, aI G 6 CH)] s.heap.size)) (F0 m 0 ls []) by rw [hHe, hLe] at hgo; exact hgo
  rw [← hHe] at hP
  have hS : va_S A s.heap H locs := by rw [hHe, hLe]; exact hS
  clear hHe hLe
  have hhb := hpJ_bd hhp (g := 2) (by omega)
  have hcg := hrp.1
  have hpl := hps.1
  refine lv_iload_n hx hb dX0_tryGroup_0 rfl (lv_at hl 1 rfl) ?_
  refine lv_aload_n hx hb dX0_tryGroup_1 rfl (lv_at hl 0 rfl) ?_
  refine z_get (v := vI gr) hC hK hP inX0 rfl 0 rfl 1 (by decide) tw_165 rfl dX0_tryGroup_2 ?_
  refine z_icmp_gt (tgt := 30) hx hb dX0_tryGroup_5 (by decide) (by omega) (fun c_5 => ?_) (fun c_5 => ?_)
  · exfalso; omega
  · refine lv_iload_n hx hb dX0_tryGroup_8 rfl (lv_at hl 1 rfl) ?_
    refine lv_bipush (v := iI 6) hx hb dX0_tryGroup_9 (by decide) ?_
    refine z_icmp_gt (tgt := 30) hx hb dX0_tryGroup_11 (by decide) (by omega) (fun c_11 => ?_) (fun c_11 => ?_)
    · exfalso; omega
    · refine lv_iload hx hb dX0_tryGroup_14 (lv_at hl 4 rfl) ?_
      refine lv_aload_n hx hb dX0_tryGroup_16 rfl (lv_at hl 0 rfl) ?_
      refine z_get (v := .ref u4) hC hK hP inX0 rfl 0 rfl 5 (by decide) tw_169 rfl dX0_tryGroup_17 ?_
      refine lv_iload_n hx hb dX0_tryGroup_20 rfl (lv_at hl 1 rfl) ?_
      refine z_iald hC hK hP 4 rfl (by omega) (by decide) dX0_tryGroup_21 ?_
      refine z_iadd hx hb dX0_tryGroup_22 ?_
      refine lv_aload_n hx hb dX0_tryGroup_23 rfl (lv_at hl 0 rfl) ?_
      refine z_get (v := vI cg) hC hK hP inX0 rfl 0 rfl 9 (by decide) tw_173 rfl dX0_tryGroup_24 ?_
      refine z_icmp_gt (tgt := 31) hx hb dX0_tryGroup_27 (by decide) (by omega) (fun c_27 => ?_) (fun c_27 => ?_)
      · refine lv_iload_n hx hb dX0_tryGroup_31 rfl (lv_at hl 1 rfl) ?_
        refine lv_aload_n hx hb dX0_tryGroup_32 rfl (lv_at hl 0 rfl) ?_
        refine z_get (v := vI gr) hC hK hP inX0 rfl 0 rfl 1 (by decide) tw_165 rfl dX0_tryGroup_33 ?_
        refine z_icmp_ne (tgt := 48) hx hb dX0_tryGroup_36 (by decide) (by omega) (fun c_36 => ?_) (fun c_36 => ?_)
        · have hgg := hga 2 (by omega)
          have hg1 := hmo (2 + 1) (by omega)
          have hns : (gr - 2).toNat = (gr - 3).toNat + 1 := by omega
          refine lv_aload_n hx hb dX0_tryGroup_48 rfl (lv_at hl 0 rfl) ?_
          refine z_get (v := .ref u1) hC hK hP inX0 rfl 0 rfl 2 (by decide) tw_166 rfl dX0_tryGroup_49 ?_
          refine lv_iload_n hx hb dX0_tryGroup_52 rfl (lv_at hl 1 rfl) ?_
          refine z_iald hC hK hP 1 rfl (by omega) (by decide) dX0_tryGroup_53 ?_
          refine lv_istore (lv' := [(5, vI (GA 2)), (0, .ref u0), (1, vI 2), (2, vI ct), (3, vI bi), (4, vI gn)]) hx hb dX0_tryGroup_54 hl (by decide) rfl (fun ls hl => ?_)
          have cut_56 : ∀ (n_ : Nat) (qk : Int) (qn : Int) (qg : Int) (qb : Int) (qT : Int → Int) (qC : Int → Int) (H : Heap) (locs : List Loc) (ls : Array Slot), va_P G.1 vwCl [(u0, ob 0 [.ref f0, vI gr, .ref u1, .ref u2, .ref u3, .ref u4, .ref u5, .ref u6, vI qn, vI qg, vI qb]), (u1, aI G 7 GA), (u2, aI G 40 GN), (u3, aI G 40 BB), (u4, aI G 7 HP), (u5, aI G 6 qT), (u6, aI G 6 qC)] H → va_D A [(u0, ob 0 [.ref f0, vI gr, .ref u1, .ref u2, .ref u3, .ref u4, .ref u5, .ref u6, vI qn, vI qg, vI qb]), (u1, aI G 7 GA), (u2, aI G 40 GN), (u3, aI G 40 BB), (u4, aI G 7 HP), (u5, aI G 6 qT), (u6, aI G 6 qC)] → va_S A s.heap H locs → lv_has ls 6 [(0, .ref u0), (1, vI 2), (2, vI ct), (3, vI bi), (4, vI gn), (5, vI qk)] → (GA 2 ≤ qk ∧ qk ≤ GA (2 + 1)) → (rpH (btL (fun k cu => if zand ((fun k => kBits (K k)) k) bi = 0 then btZ GA (fun k => gnZ (K k)) (fun k => kBits (K k)) (gr - 3).toNat 3 (ps ++ [k]) (zor bi ((fun k => kBits (K k)) k)) (gn + (fun k => gnZ (K k)) k) cu else cu) (GA 2) (qk - GA 2).toNat cu) qC qn qg qb) → (∀ j : Int, 0 ≤ j ∧ j < ct → qT j = TR j) → (GA (2 + 1) - qk).toNat < n_ → W p l e (headSpec (Cond.code yX0_tryGroup cX0_tryGroup 6 none :: tb) ({ frames := 6, cells := 0, slots := 0, locals := 141 } : Room)).room s m ([.ref u0, vI 2, vI ct, vI bi, vI gn] : List Value).toArray below meth c H locs 0 0 (MQ below (va_Qv (fun u : Int × Int × Int × (Int → Int) × (Int → Int) => rpH (btZ GA (fun k => gnZ (K k)) (fun k => kBits (K k)) (gr - 2).toNat 2 ps bi gn cu) u.2.2.2.2 u.1 u.2.1 u.2.2.1 ∧ ∀ j : Int, 0 ≤ j ∧ j < ct → u.2.2.2.1 j = TR j) (fun (u : Int × Int × Int × (Int → Int) × (Int → Int)) t => zB G [(u0, ob 0 [.ref f0, vI gr, .ref u1, .ref u2, .ref u3, .ref u4, .ref u5, .ref u6, vI cn, vI cg, vI cb]), (u1, aI G 7 GA), (u2, aI G 40 GN), (u3, aI G 40 BB), (u4, aI G 7 HP), (u5, aI G 6 TR), (u6, aI G 6 CH)] s.heap.size [(u0, ob 0 [.ref f0, vI gr, .ref u1, .ref u2, .ref u3, .ref u4, .ref u5, .ref u6, vI u.1, vI u.2.1, vI u.2.2.1]), (u1, aI G 7 GA), (u2, aI G 40 GN), (u3, aI G 40 BB), (u4, aI G 7 HP), (u5, aI G 6 u.2.2.2.1), (u6, aI G 6 u.2.2.2.2)] t) (va_A [(u0, ob 0 [.ref f0, vI gr, .ref u1, .ref u2, .ref u3, .ref u4, .ref u5, .ref u6, vI cn, vI cg, vI cb]), (u1, aI G 7 GA), (u2, aI G 40 GN), (u3, aI G 40 BB), (u4, aI G 7 HP), (u5, aI G 6 TR), (u6, aI G 6 CH)] s.heap.size)) ([.ref u0, vI 2, vI ct, vI bi, vI gn] : List Value).toArray s 0 0 (va_A [(u0, ob 0 [.ref f0, vI gr, .ref u1, .ref u2, .ref u3, .ref u4, .ref u5, .ref u6, vI cn, vI cg, vI cb]), (u1, aI G 7 GA), (u2, aI G 40 GN), (u3, aI G 40 BB), (u4, aI G 7 HP), (u5, aI G 6 TR), (u6, aI G 6 CH)] s.heap.size)) (F0 m 56 ls []) := by
            intro n_
            induction n_ with
            | zero => exact fun qk qn qg qb qT qC H locs ls hP hD hS hl hqk hqr hqt hm_ => absurd hm_ (Nat.not_lt_zero _)
            | succ n_ ih_56 =>
              intro qk qn qg qb qT qC H locs ls hP hD hS hl hqk hqr hqt hm_
              have hqc := btL_rng (GA := GA) (GN := (fun k => gnZ (K k))) (BB := (fun k => kBits (K k))) (fun k => gnZ_bd (K k)) (n := (gr - 3).toNat) (g := 2) (ps := ps) (bi := bi) hgn (by decide) (by omega) hcu (GA 2) (qk - GA 2).toNat
              refine lv_iload hx hb dX0_tryGroup_56 (lv_at hl 5 rfl) ?_
              refine lv_aload_n hx hb dX0_tryGroup_58 rfl (lv_at hl 0 rfl) ?_
              refine z_get (v := .ref u1) hC hK hP inX0 rfl 0 rfl 2 (by decide) tw_166 rfl dX0_tryGroup_59 ?_
              refine lv_iload_n hx hb dX0_tryGroup_62 rfl (lv_at hl 1 rfl) ?_
              refine lv_iconst (v := iI 1) hx hb dX0_tryGroup_63 rfl ?_
              refine z_iadd hx hb dX0_tryGroup_64 ?_
              refine z_iald hC hK hP 1 rfl (by omega) (by decide) dX0_tryGroup_65 ?_
              refine z_icmp_ge (tgt := 124) hx hb dX0_tryGroup_66 (by decide) (by omega) (fun c_66 => ?_) (fun c_66 => ?_)
              · refine lv_aload_n hx hb dX0_tryGroup_124 rfl (lv_at hl 0 rfl) ?_
                refine lv_iload_n hx hb dX0_tryGroup_125 rfl (lv_at hl 1 rfl) ?_
                refine lv_iconst (v := iI 1) hx hb dX0_tryGroup_126 rfl ?_
                refine z_iadd hx hb dX0_tryGroup_127 ?_
                refine lv_iload_n hx hb dX0_tryGroup_128 rfl (lv_at hl 2 rfl) ?_
                refine lv_iload_n hx hb dX0_tryGroup_129 rfl (lv_at hl 3 rfl) ?_
                refine lv_iload hx hb dX0_tryGroup_130 (lv_at hl 4 rfl) ?_
                refine z_wVv (q0 := 0) (ci := 0) (b := u0) (rest := []) (wr := []) hC hK hP hD hS hA (c_X0_tryGroup_3 l G H.size u0 u1 u2 u3 u4 u5 u6 f0 gr qn qg qb GA GN BB HP qT qC nf K ps (btL (fun k cu => if zand ((fun k => kBits (K k)) k) bi = 0 then btZ GA (fun k => gnZ (K k)) (fun k => kBits (K k)) (gr - 3).toNat 3 (ps ++ [k]) (zor bi ((fun k => kBits (K k)) k)) (gn + (fun k => gnZ (K k)) k) cu else cu) (GA 2) (GA (2 + 1) - GA 2).toNat cu) ct bi gn (by omega) (by omega) (by omega) (hga) (hmo) (hvl) (hhp) (rpT_cg hps hqt) (by omega) (by omega) (by rw [show GA (2 + 1) = qk by omega]; exact hqc) (by rw [show GA (2 + 1) = qk by omega]; exact hqr)) mv_X0_tryGroup tw_400 [0, 1, 2, 3, 4, 5, 6] [] rfl rfl rfl rfl (by decide) rfl rfl rfl rfl hl.1 rfl (Nat.le_of_ble_eq_true rfl) ⟨rfl, rfl, Nat.le_of_ble_eq_true rfl, Nat.le_of_ble_eq_true rfl⟩ ⟨Nat.le_of_ble_eq_true rfl, Nat.le_of_ble_eq_true rfl⟩ dX0_tryGroup_132 (fun u H locs hw hP hD hS => ?_)
                obtain ⟨cn'_1, cg'_1, cb'_1, TR'_1, CH'_1⟩ := u
                dsimp only at hw hP hD
                have hP : va_P G.1 vwCl [(u0, ob 0 [.ref f0, vI gr, .ref u1, .ref u2, .ref u3, .ref u4, .ref u5, .ref u6, vI cn'_1, vI cg'_1, vI cb'_1]), (u1, aI G 7 GA), (u2, aI G 40 GN), (u3, aI G 40 BB), (u4, aI G 7 HP), (u5, aI G 6 TR'_1), (u6, aI G 6 CH'_1)] H := hP
                have hD : va_D A [(u0, ob 0 [.ref f0, vI gr, .ref u1, .ref u2, .ref u3, .ref u4, .ref u5, .ref u6, vI cn'_1, vI cg'_1, vI cb'_1]), (u1, aI G 7 GA), (u2, aI G 40 GN), (u3, aI G 40 BB), (u4, aI G 7 HP), (u5, aI G 6 TR'_1), (u6, aI G 6 CH'_1)] := hD
                have hw_1 := hw
                exact z_vretW hC hr hlk ⟨cn'_1, cg'_1, cb'_1, TR'_1, CH'_1⟩ hAe hP hD hS [0, 1, 2, 3, 4, 5, 6] (by decide) rfl rfl (⟨by rw [hns, btZ_n]; exact hw_1.1, fun j hj => (hw_1.2 j hj).trans (hqt j hj)⟩) dX0_tryGroup_135
              · have hvk := hvl qk (by omega)
                have hgk := gnZ_bd (K qk)
                refine lv_aload_n hx hb dX0_tryGroup_69 rfl (lv_at hl 0 rfl) ?_
                refine z_get (v := .ref u3) hC hK hP inX0 rfl 0 rfl 4 (by decide) tw_168 rfl dX0_tryGroup_70 ?_
                refine lv_iload hx hb dX0_tryGroup_73 (lv_at hl 5 rfl) ?_
                refine z_iald hC hK hP 3 rfl (by omega) (by decide) dX0_tryGroup_75 ?_
                refine lv_iload_n hx hb dX0_tryGroup_76 rfl (lv_at hl 3 rfl) ?_
                refine z_iand hx hb dX0_tryGroup_77 ?_
                refine z_if_ne (tgt := 118) hx hb dX0_tryGroup_78 (by decide) (zand_rng _ _) (fun c_78 => ?_) (fun c_78 => ?_)
                · have hzb : ¬ zand ((fun k => kBits (K k)) qk) bi = 0 := by show ¬ zand (kBits (K qk)) bi = 0; rw [← hvk.2]; exact c_78
                  refine z_iinc (k := 5) (lv' := [(5, vI (qk + 1)), (0, .ref u0), (1, vI 2), (2, vI ct), (3, vI bi), (4, vI gn)]) hx hb dX0_tryGroup_118 hl rfl (by decide) rfl (fun ls hl => ?_)
                  refine lv_goto (tgt := 56) hx hb dX0_tryGroup_121 (by decide) ?_
                  exact ih_56 (qk + 1) qn qg qb qT qC H locs ls hP hD hS (lv_sub hl [1, 2, 3, 4, 5, 0] rfl) (by omega) (by rw [btL_1 (fun k cu => if zand ((fun k => kBits (K k)) k) bi = 0 then btZ GA (fun k => gnZ (K k)) (fun k => kBits (K k)) (gr - 3).toNat 3 (ps ++ [k]) (zor bi ((fun k => kBits (K k)) k)) (gn + (fun k => gnZ (K k)) k) cu else cu) hqk.1]; first | (rw [if_neg hzb]; exact hqr) | (rw [if_pos hzb]; have h9 := hw_2.1; rw [hvk.1, hvk.2] at h9; exact h9)) (by first | exact hqt | exact fun j hj => (hw_2.2 j (by omega)).trans ((zup_n _ _ (by omega)).trans (hqt j hj))) (by omega)
                · have hzb : zand ((fun k => kBits (K k)) qk) bi = 0 := by show zand (kBits (K qk)) bi = 0; rw [← hvk.2]; exact c_78
                  refine lv_aload_n hx hb dX0_tryGroup_81 rfl (lv_at hl 0 rfl) ?_
                  refine z_get (v := .ref u5) hC hK hP inX0 rfl 0 rfl 6 (by decide) tw_170 rfl dX0_tryGroup_82 ?_
                  refine lv_iload_n hx hb dX0_tryGroup_85 rfl (lv_at hl 2 rfl) ?_
                  refine lv_iload hx hb dX0_tryGroup_86 (lv_at hl 5 rfl) ?_
                  refine z_iast (ws' := [(u0, ob 0 [.ref f0, vI gr, .ref u1, .ref u2, .ref u3, .ref u4, .ref u5, .ref u6, vI qn, vI qg, vI qb]), (u1, aI G 7 GA), (u2, aI G 40 GN), (u3, aI G 40 BB), (u4, aI G 7 HP), (u5, aI G 6 (zup qT ct qk)), (u6, aI G 6 qC)]) hC hK hP hD hS 5 rfl (by omega) (by decide) rfl dX0_tryGroup_88 (fun H locs hP hD hS => ?_)
                  refine lv_aload_n hx hb dX0_tryGroup_89 rfl (lv_at hl 0 rfl) ?_
                  refine lv_iload_n hx hb dX0_tryGroup_90 rfl (lv_at hl 1 rfl) ?_
                  refine lv_iconst (v := iI 1) hx hb dX0_tryGroup_91 rfl ?_
                  refine z_iadd hx hb dX0_tryGroup_92 ?_
                  refine lv_iload_n hx hb dX0_tryGroup_93 rfl (lv_at hl 2 rfl) ?_
                  refine lv_iconst (v := iI 1) hx hb dX0_tryGroup_94 rfl ?_
                  refine z_iadd hx hb dX0_tryGroup_95 ?_
                  refine lv_iload_n hx hb dX0_tryGroup_96 rfl (lv_at hl 3 rfl) ?_
                  refine lv_aload_n hx hb dX0_tryGroup_97 rfl (lv_at hl 0 rfl) ?_
                  refine z_get (v := .ref u3) hC hK hP inX0 rfl 0 rfl 4 (by decide) tw_168 rfl dX0_tryGroup_98 ?_
                  refine lv_iload hx hb dX0_tryGroup_101 (lv_at hl 5 rfl) ?_
                  refine z_iald hC hK hP 3 rfl (by omega) (by decide) dX0_tryGroup_103 ?_
                  refine z_ior hx hb dX0_tryGroup_104 ?_
                  refine lv_iload hx hb dX0_tryGroup_105 (lv_at hl 4 rfl) ?_
                  refine lv_aload_n hx hb dX0_tryGroup_107 rfl (lv_at hl 0 rfl) ?_
                  refine z_get (v := .ref u2) hC hK hP inX0 rfl 0 rfl 3 (by decide) tw_167 rfl dX0_tryGroup_108 ?_
                  refine lv_iload hx hb dX0_tryGroup_111 (lv_at hl 5 rfl) ?_
                  refine z_iald hC hK hP 2 rfl (by omega) (by decide) dX0_tryGroup_113 ?_
                  refine z_iadd hx hb dX0_tryGroup_114 ?_
                  refine z_wVv (q0 := 0) (ci := 0) (b := u0) (rest := []) (wr := []) hC hK hP hD hS hA (c_X0_tryGroup_3 l G H.size u0 u1 u2 u3 u4 u5 u6 f0 gr qn qg qb GA GN BB HP (zup qT ct qk) qC nf K (ps ++ [qk]) (btL (fun k cu => if zand ((fun k => kBits (K k)) k) bi = 0 then btZ GA (fun k => gnZ (K k)) (fun k => kBits (K k)) (gr - 3).toNat 3 (ps ++ [k]) (zor bi ((fun k => kBits (K k)) k)) (gn + (fun k => gnZ (K k)) k) cu else cu) (GA 2) (qk - GA 2).toNat cu) (ct + 1) (zor bi (BB qk)) (gn + (GN qk)) (by omega) (by omega) (by omega) (hga) (hmo) (hvl) (hhp) (rpT_add (rpT_cg hps hqt)) (by omega) (by omega) (hqc) (hqr)) mv_X0_tryGroup tw_400 [0, 1, 2, 3, 4, 5, 6] [] rfl rfl rfl rfl (by decide) rfl rfl rfl rfl hl.1 rfl (Nat.le_of_ble_eq_true rfl) ⟨rfl, rfl, Nat.le_of_ble_eq_true rfl, Nat.le_of_ble_eq_true rfl⟩ ⟨Nat.le_of_ble_eq_true rfl, Nat.le_of_ble_eq_true rfl⟩ dX0_tryGroup_115 (fun u H locs hw hP hD hS => ?_)
                  obtain ⟨cn'_2, cg'_2, cb'_2, TR'_2, CH'_2⟩ := u
                  dsimp only at hw hP hD
                  have hP : va_P G.1 vwCl [(u0, ob 0 [.ref f0, vI gr, .ref u1, .ref u2, .ref u3, .ref u4, .ref u5, .ref u6, vI cn'_2, vI cg'_2, vI cb'_2]), (u1, aI G 7 GA), (u2, aI G 40 GN), (u3, aI G 40 BB), (u4, aI G 7 HP), (u5, aI G 6 TR'_2), (u6, aI G 6 CH'_2)] H := hP
                  have hD : va_D A [(u0, ob 0 [.ref f0, vI gr, .ref u1, .ref u2, .ref u3, .ref u4, .ref u5, .ref u6, vI cn'_2, vI cg'_2, vI cb'_2]), (u1, aI G 7 GA), (u2, aI G 40 GN), (u3, aI G 40 BB), (u4, aI G 7 HP), (u5, aI G 6 TR'_2), (u6, aI G 6 CH'_2)] := hD
                  have hw_2 := hw
                  refine z_iinc (k := 5) (lv' := [(5, vI (qk + 1)), (0, .ref u0), (1, vI 2), (2, vI ct), (3, vI bi), (4, vI gn)]) hx hb dX0_tryGroup_118 hl rfl (by decide) rfl (fun ls hl => ?_)
                  refine lv_goto (tgt := 56) hx hb dX0_tryGroup_121 (by decide) ?_
                  exact ih_56 (qk + 1) cn'_2 cg'_2 cb'_2 TR'_2 CH'_2 H locs ls hP hD hS (lv_sub hl [1, 2, 3, 4, 5, 0] rfl) (by omega) (by rw [btL_1 (fun k cu => if zand ((fun k => kBits (K k)) k) bi = 0 then btZ GA (fun k => gnZ (K k)) (fun k => kBits (K k)) (gr - 3).toNat 3 (ps ++ [k]) (zor bi ((fun k => kBits (K k)) k)) (gn + (fun k => gnZ (K k)) k) cu else cu) hqk.1]; first | (rw [if_neg hzb]; exact hqr) | (rw [if_pos hzb]; have h9 := hw_2.1; rw [hvk.1, hvk.2] at h9; exact h9)) (by first | exact hqt | exact fun j hj => (hw_2.2 j (by omega)).trans ((zup_n _ _ (by omega)).trans (hqt j hj))) (by omega)
          exact cut_56 ((GA (2 + 1) - (GA 2)).toNat + 1) (GA 2) cn cg cb TR CH H locs ls hP hD hS (lv_sub hl [1, 2, 3, 4, 5, 0] rfl) (by omega) (by rw [btL_0]; exact hrp) (fun j hj => rfl) (Nat.lt_succ_self _)
        · refine lv_aload_n hx hb dX0_tryGroup_39 rfl (lv_at hl 0 rfl) ?_
          refine lv_iload_n hx hb dX0_tryGroup_40 rfl (lv_at hl 2 rfl) ?_
          refine lv_iload_n hx hb dX0_tryGroup_41 rfl (lv_at hl 3 rfl) ?_
          refine lv_iload hx hb dX0_tryGroup_42 (lv_at hl 4 rfl) ?_
          refine z_wVv (q0 := 0) (ci := 0) (b := u0) (rest := []) (wr := [(u1, aI G 7 GA), (u2, aI G 40 GN), (u3, aI G 40 BB), (u4, aI G 7 HP)]) hC hK hP hD hS hA (c_X0_keepTried l G H.size u0 u1 u2 u3 u4 u5 u6 f0 gr cn cg cb TR CH ct bi gn) mv_X0_keepTried tw_404 [0, 5, 6] [1, 2, 3, 4] rfl rfl rfl rfl (by decide) rfl rfl rfl rfl hl.1 rfl (Nat.le_of_ble_eq_true rfl) ⟨rfl, rfl, Nat.le_of_ble_eq_true rfl, Nat.le_of_ble_eq_true rfl⟩ ⟨Nat.le_of_ble_eq_true rfl, Nat.le_of_ble_eq_true rfl⟩ dX0_tryGroup_44 (fun u H locs hw hP hD hS => ?_)
          have hP : va_P G.1 vwCl [(u1, aI G 7 GA), (u2, aI G 40 GN), (u3, aI G 40 BB), (u4, aI G 7 HP), (u0, ob 0 [.ref f0, vI gr, .ref u1, .ref u2, .ref u3, .ref u4, .ref u5, .ref u6, vI ct, vI gn, vI bi]), (u5, aI G 6 TR), (u6, aI G 6 (zcpy TR CH 6))] H := hP
          have hD : va_D A [(u1, aI G 7 GA), (u2, aI G 40 GN), (u3, aI G 40 BB), (u4, aI G 7 HP), (u0, ob 0 [.ref f0, vI gr, .ref u1, .ref u2, .ref u3, .ref u4, .ref u5, .ref u6, vI ct, vI gn, vI bi]), (u5, aI G 6 TR), (u6, aI G 6 (zcpy TR CH 6))] := hD
          have hw_3 := hw
          clear hw_3
          exact z_vretW hC hr hlk ⟨ct, gn, bi, TR, zcpy TR CH 6⟩ hAe hP hD hS [4, 0, 1, 2, 3, 5, 6] (by decide) rfl rfl (⟨by rw [show (gr - 2).toNat = 0 by omega]; rw [show btZ GA (fun k => gnZ (K k)) (fun k => kBits (K k)) 0 2 ps bi gn cu = (gn, ps, bi) from if_pos (by have h9 := hhp.1; rw [show gr = 2 by omega] at h9; omega)]; exact rpH_keep hps (by omega), fun j hj => rfl⟩) dX0_tryGroup_47
      · exact z_vretW hC hr hlk ⟨cn, cg, cb, TR, CH⟩ hAe hP hD hS [0, 1, 2, 3, 4, 5, 6] (by decide) rfl rfl (⟨by rw [btZ_prune (hpJ_I hhp) (gr - 2).toNat 2 ps bi gn cu (by decide) (by omega) (by omega)]; exact hrp, fun j hj => rfl⟩) dX0_tryGroup_30

set_option maxRecDepth 100000 in
set_option maxHeartbeats 4000000 in
theorem c_X0_tryGroup_1 (l : Launch) (G : zGt) (sz : Nat) (u0 u1 u2 u3 u4 u5 u6 f0 : Nat) (gr cn cg cb : Int) (GA GN BB HP TR CH : Int → Int) (nf : Int) (K : Int → Int) (ps : List Int) (cu : cuT) (ct bi gn : Int) (hnf : 0 ≤ nf ∧ nf ≤ 40) (hgr : 0 ≤ gr ∧ gr ≤ 6) (hgD : 1 ≤ gr) (hga : ∀ g : Int, 0 ≤ g ∧ g < gr → 0 ≤ GA g ∧ GA g ≤ GA (g + 1) ∧ GA (g + 1) ≤ nf) (hmo : ∀ g : Int, 0 ≤ g ∧ g ≤ gr → GA g ≤ GA gr) (hvl : (∀ k : Int, 0 ≤ k ∧ k < GA gr → GN k = gnZ (K k) ∧ BB k = kBits (K k))) (hhp : hpJ K GA HP gr 0) (hps : rpT ps TR ct) (hct : ct ≤ 1) (hgn : -2000 * 1 ≤ gn ∧ gn ≤ 500000 * 1) (hcu : -12001 ≤ cu.1 ∧ cu.1 ≤ 3000000) (hrp : rpH cu CH cn cg cb) : Met l yX0_tryGroup (Cond.code yX0_tryGroup cX0_tryGroup 6 none :: tb) ({ frames := 7, cells := 0, slots := 0, locals := 166 } : Room) (zPw G [(u0, ob 0 [.ref f0, vI gr, .ref u1, .ref u2, .ref u3, .ref u4, .ref u5, .ref u6, vI cn, vI cg, vI cb]), (u1, aI G 7 GA), (u2, aI G 40 GN), (u3, aI G 40 BB), (u4, aI G 7 HP), (u5, aI G 6 TR), (u6, aI G 6 CH)] sz [.ref u0, vI 1, vI ct, vI bi, vI gn]) (va_Qv (fun u : Int × Int × Int × (Int → Int) × (Int → Int) => rpH (btZ GA (fun k => gnZ (K k)) (fun k => kBits (K k)) (gr - 1).toNat 1 ps bi gn cu) u.2.2.2.2 u.1 u.2.1 u.2.2.1 ∧ ∀ j : Int, 0 ≤ j ∧ j < ct → u.2.2.2.1 j = TR j) (fun (u : Int × Int × Int × (Int → Int) × (Int → Int)) t => zB G [(u0, ob 0 [.ref f0, vI gr, .ref u1, .ref u2, .ref u3, .ref u4, .ref u5, .ref u6, vI cn, vI cg, vI cb]), (u1, aI G 7 GA), (u2, aI G 40 GN), (u3, aI G 40 BB), (u4, aI G 7 HP), (u5, aI G 6 TR), (u6, aI G 6 CH)] sz [(u0, ob 0 [.ref f0, vI gr, .ref u1, .ref u2, .ref u3, .ref u4, .ref u5, .ref u6, vI u.1, vI u.2.1, vI u.2.2.1]), (u1, aI G 7 GA), (u2, aI G 40 GN), (u3, aI G 40 BB), (u4, aI G 7 HP), (u5, aI G 6 u.2.2.2.1), (u6, aI G 6 u.2.2.2.2)] t) (va_A [(u0, ob 0 [.ref f0, vI gr, .ref u1, .ref u2, .ref u3, .ref u4, .ref u5, .ref u6, vI cn, vI cg, vI cb]), (u1, aI G 7 GA), (u2, aI G 40 GN), (u3, aI G 40 BB), (u4, aI G 7 HP), (u5, aI G 6 TR), (u6, aI G 6 CH)] sz)) 0 0 (va_A [(u0, ob 0 [.ref f0, vI gr, .ref u1, .ref u2, .ref u3, .ref u4, .ref u5, .ref u6, vI cn, vI cg, vI cb]), (u1, aI G 7 GA), (u2, aI G 40 GN), (u3, aI G 40 BB), (u4, aI G 7 HP), (u5, aI G 6 TR), (u6, aI G 6 CH)] sz) := by
  refine Met.ofW (cc := cX0_tryGroup) (maxL := 6) (ret := none) (by decide) rfl ?_
  intro p e s m args below meth c s₁ B hml hv
  obtain ⟨rfl, hsz, hP, hK, hD0⟩ := hv
  subst hsz
  have hD := hD0.self (sz := s.heap.size)
  obtain ⟨A, hAe⟩ : ∃ A : Nat → Prop, A = va_A [(u0, ob 0 [.ref f0, vI gr, .ref u1, .ref u2, .ref u3, .ref u4, .ref u5, .ref u6, vI cn, vI cg, vI cb]), (u1, aI G 7 GA), (u2, aI G 40 GN), (u3, aI G 40 BB), (u4, aI G 7 HP), (u5, aI G 6 TR), (u6, aI G 6 CH)] s.heap.size := ⟨_, rfl⟩
  rw [← hAe] at hD
  have hA : ∀ q : Nat, s.heap.size ≤ q → A q := fun q h => by rw [hAe]; exact Or.inr h
  have hS : va_S A s.heap s.heap [] := va_S.rf
  obtain ⟨hC, hr, hlk⟩ := z_begin B hml
  have hC : CallFix p m c cX0_tryGroup 6 s _ tb RX0 := hC
  have hx := hC.1
  have hb := hC.2.1
  have hl := lv_entry ([.ref u0, vI 1, vI ct, vI bi, vI gn]) (n := 6) (Nat.le_of_ble_eq_true rfl)
  rw [lg_entry_eq]
  generalize (lg_sl ([.ref u0, vI 1, vI ct, vI bi, vI gn]) ++ List.replicate (6 - (lg_sl ([.ref u0, vI 1, vI ct, vI bi, vI gn])).length) Slot.unset).toArray = ls at hl ⊢
  have hl : lv_has ls 6 [(0, .ref u0), (1, vI 1), (2, vI ct), (3, vI bi), (4, vI gn)] := hl
  obtain ⟨H, hHe⟩ : ∃ H : Heap, H = s.heap := ⟨_, rfl⟩
  obtain ⟨locs, hLe⟩ : ∃ L : List Loc, L = [] := ⟨_, rfl⟩
  suffices hgo : W p l e (headSpec (Cond.code yX0_tryGroup cX0_tryGroup 6 none :: tb) ({ frames := 7, cells := 0, slots := 0, locals := 166 } : Room)).room s m ([.ref u0, vI 1, vI ct, vI bi, vI gn] : List Value).toArray below meth c H locs 0 0 (MQ below (va_Qv (fun u : Int × Int × Int × (Int → Int) × (Int → Int) => rpH (btZ GA (fun k => gnZ (K k)) (fun k => kBits (K k)) (gr - 1).toNat 1 ps bi gn cu) u.2.2.2.2 u.1 u.2.1 u.2.2.1 ∧ ∀ j : Int, 0 ≤ j ∧ j < ct → u.2.2.2.1 j = TR j) (fun (u : Int × Int × Int × (Int → Int) × (Int → Int)) t => zB G [(u0, ob 0 [.ref f0, vI gr, .ref u1, .ref u2, .ref u3, .ref u4, .ref u5, .ref u6, vI cn, vI cg, vI cb]), (u1, aI G 7 GA), (u2, aI G 40 GN), (u3, aI G 40 BB), (u4, aI G 7 HP), (u5, aI G 6 TR), (u6, aI G 6 CH)] s.heap.size [(u0, ob 0 [.ref f0, vI gr, .ref u1, .ref u2, .ref u3, .ref u4, .ref u5, .ref u6, vI u.1, vI u.2.1, vI u.2.2.1]), (u1, aI G 7 GA), (u2, aI G 40 GN), (u3, aI G 40 BB), (u4, aI G 7 HP), (u5, aI G 6 u.2.2.2.1), (u6, aI G 6 u.2.2.2.2)] t) (va_A [(u0, ob 0 [.ref f0, vI gr, .ref u1, .ref u2, .ref u3, .ref u4, .ref u5, .ref u6, vI cn, vI cg, vI cb]), (u1, aI G 7 GA), (u2, aI G 40 GN), (u3, aI G 40 BB), (u4, aI G 7 HP), (u5, aI G 6 TR), (u6, aI G 6 CH)] s.heap.size)) ([.ref u0, vI 1, vI ct, vI bi, vI gn] : List Value).toArray s 0 0 (va_A [(u0, ob 0 [.ref f0, vI gr, .ref u1, .ref u2, .ref u3, .ref u4, .ref u5, .ref u6, vI cn, vI cg, vI cb]), (u1, aI G 7 GA), (u2, aI G 40 GN), (u3, aI G 40 BB), (u4, aI G 7 HP), (u5, aI G 6 TR), (u6, aI G 6 CH)] s.heap.size)) (F0 m 0 ls []) by rw [hHe, hLe] at hgo; exact hgo
  rw [← hHe] at hP
  have hS : va_S A s.heap H locs := by rw [hHe, hLe]; exact hS
  clear hHe hLe
  have hhb := hpJ_bd hhp (g := 1) (by omega)
  have hcg := hrp.1
  have hpl := hps.1
  refine lv_iload_n hx hb dX0_tryGroup_0 rfl (lv_at hl 1 rfl) ?_
  refine lv_aload_n hx hb dX0_tryGroup_1 rfl (lv_at hl 0 rfl) ?_
  refine z_get (v := vI gr) hC hK hP inX0 rfl 0 rfl 1 (by decide) tw_165 rfl dX0_tryGroup_2 ?_
  refine z_icmp_gt (tgt := 30) hx hb dX0_tryGroup_5 (by decide) (by omega) (fun c_5 => ?_) (fun c_5 => ?_)
  · exfalso; omega
  · refine lv_iload_n hx hb dX0_tryGroup_8 rfl (lv_at hl 1 rfl) ?_
    refine lv_bipush (v := iI 6) hx hb dX0_tryGroup_9 (by decide) ?_
    refine z_icmp_gt (tgt := 30) hx hb dX0_tryGroup_11 (by decide) (by omega) (fun c_11 => ?_) (fun c_11 => ?_)
    · exfalso; omega
    · refine lv_iload hx hb dX0_tryGroup_14 (lv_at hl 4 rfl) ?_
      refine lv_aload_n hx hb dX0_tryGroup_16 rfl (lv_at hl 0 rfl) ?_
      refine z_get (v := .ref u4) hC hK hP inX0 rfl 0 rfl 5 (by decide) tw_169 rfl dX0_tryGroup_17 ?_
      refine lv_iload_n hx hb dX0_tryGroup_20 rfl (lv_at hl 1 rfl) ?_
      refine z_iald hC hK hP 4 rfl (by omega) (by decide) dX0_tryGroup_21 ?_
      refine z_iadd hx hb dX0_tryGroup_22 ?_
      refine lv_aload_n hx hb dX0_tryGroup_23 rfl (lv_at hl 0 rfl) ?_
      refine z_get (v := vI cg) hC hK hP inX0 rfl 0 rfl 9 (by decide) tw_173 rfl dX0_tryGroup_24 ?_
      refine z_icmp_gt (tgt := 31) hx hb dX0_tryGroup_27 (by decide) (by omega) (fun c_27 => ?_) (fun c_27 => ?_)
      · refine lv_iload_n hx hb dX0_tryGroup_31 rfl (lv_at hl 1 rfl) ?_
        refine lv_aload_n hx hb dX0_tryGroup_32 rfl (lv_at hl 0 rfl) ?_
        refine z_get (v := vI gr) hC hK hP inX0 rfl 0 rfl 1 (by decide) tw_165 rfl dX0_tryGroup_33 ?_
        refine z_icmp_ne (tgt := 48) hx hb dX0_tryGroup_36 (by decide) (by omega) (fun c_36 => ?_) (fun c_36 => ?_)
        · have hgg := hga 1 (by omega)
          have hg1 := hmo (1 + 1) (by omega)
          have hns : (gr - 1).toNat = (gr - 2).toNat + 1 := by omega
          refine lv_aload_n hx hb dX0_tryGroup_48 rfl (lv_at hl 0 rfl) ?_
          refine z_get (v := .ref u1) hC hK hP inX0 rfl 0 rfl 2 (by decide) tw_166 rfl dX0_tryGroup_49 ?_
          refine lv_iload_n hx hb dX0_tryGroup_52 rfl (lv_at hl 1 rfl) ?_
          refine z_iald hC hK hP 1 rfl (by omega) (by decide) dX0_tryGroup_53 ?_
          refine lv_istore (lv' := [(5, vI (GA 1)), (0, .ref u0), (1, vI 1), (2, vI ct), (3, vI bi), (4, vI gn)]) hx hb dX0_tryGroup_54 hl (by decide) rfl (fun ls hl => ?_)
          have cut_56 : ∀ (n_ : Nat) (qk : Int) (qn : Int) (qg : Int) (qb : Int) (qT : Int → Int) (qC : Int → Int) (H : Heap) (locs : List Loc) (ls : Array Slot), va_P G.1 vwCl [(u0, ob 0 [.ref f0, vI gr, .ref u1, .ref u2, .ref u3, .ref u4, .ref u5, .ref u6, vI qn, vI qg, vI qb]), (u1, aI G 7 GA), (u2, aI G 40 GN), (u3, aI G 40 BB), (u4, aI G 7 HP), (u5, aI G 6 qT), (u6, aI G 6 qC)] H → va_D A [(u0, ob 0 [.ref f0, vI gr, .ref u1, .ref u2, .ref u3, .ref u4, .ref u5, .ref u6, vI qn, vI qg, vI qb]), (u1, aI G 7 GA), (u2, aI G 40 GN), (u3, aI G 40 BB), (u4, aI G 7 HP), (u5, aI G 6 qT), (u6, aI G 6 qC)] → va_S A s.heap H locs → lv_has ls 6 [(0, .ref u0), (1, vI 1), (2, vI ct), (3, vI bi), (4, vI gn), (5, vI qk)] → (GA 1 ≤ qk ∧ qk ≤ GA (1 + 1)) → (rpH (btL (fun k cu => if zand ((fun k => kBits (K k)) k) bi = 0 then btZ GA (fun k => gnZ (K k)) (fun k => kBits (K k)) (gr - 2).toNat 2 (ps ++ [k]) (zor bi ((fun k => kBits (K k)) k)) (gn + (fun k => gnZ (K k)) k) cu else cu) (GA 1) (qk - GA 1).toNat cu) qC qn qg qb) → (∀ j : Int, 0 ≤ j ∧ j < ct → qT j = TR j) → (GA (1 + 1) - qk).toNat < n_ → W p l e (headSpec (Cond.code yX0_tryGroup cX0_tryGroup 6 none :: tb) ({ frames := 7, cells := 0, slots := 0, locals := 166 } : Room)).room s m ([.ref u0, vI 1, vI ct, vI bi, vI gn] : List Value).toArray below meth c H locs 0 0 (MQ below (va_Qv (fun u : Int × Int × Int × (Int → Int) × (Int → Int) => rpH (btZ GA (fun k => gnZ (K k)) (fun k => kBits (K k)) (gr - 1).toNat 1 ps bi gn cu) u.2.2.2.2 u.1 u.2.1 u.2.2.1 ∧ ∀ j : Int, 0 ≤ j ∧ j < ct → u.2.2.2.1 j = TR j) (fun (u : Int × Int × Int × (Int → Int) × (Int → Int)) t => zB G [(u0, ob 0 [.ref f0, vI gr, .ref u1, .ref u2, .ref u3, .ref u4, .ref u5, .ref u6, vI cn, vI cg, vI cb]), (u1, aI G 7 GA), (u2, aI G 40 GN), (u3, aI G 40 BB), (u4, aI G 7 HP), (u5, aI G 6 TR), (u6, aI G 6 CH)] s.heap.size [(u0, ob 0 [.ref f0, vI gr, .ref u1, .ref u2, .ref u3, .ref u4, .ref u5, .ref u6, vI u.1, vI u.2.1, vI u.2.2.1]), (u1, aI G 7 GA), (u2, aI G 40 GN), (u3, aI G 40 BB), (u4, aI G 7 HP), (u5, aI G 6 u.2.2.2.1), (u6, aI G 6 u.2.2.2.2)] t) (va_A [(u0, ob 0 [.ref f0, vI gr, .ref u1, .ref u2, .ref u3, .ref u4, .ref u5, .ref u6, vI cn, vI cg, vI cb]), (u1, aI G 7 GA), (u2, aI G 40 GN), (u3, aI G 40 BB), (u4, aI G 7 HP), (u5, aI G 6 TR), (u6, aI G 6 CH)] s.heap.size)) ([.ref u0, vI 1, vI ct, vI bi, vI gn] : List Value).toArray s 0 0 (va_A [(u0, ob 0 [.ref f0, vI gr, .ref u1, .ref u2, .ref u3, .ref u4, .ref u5, .ref u6, vI cn, vI cg, vI cb]), (u1, aI G 7 GA), (u2, aI G 40 GN), (u3, aI G 40 BB), (u4, aI G 7 HP), (u5, aI G 6 TR), (u6, aI G 6 CH)] s.heap.size)) (F0 m 56 ls []) := by
            intro n_
            induction n_ with
            | zero => exact fun qk qn qg qb qT qC H locs ls hP hD hS hl hqk hqr hqt hm_ => absurd hm_ (Nat.not_lt_zero _)
            | succ n_ ih_56 =>
              intro qk qn qg qb qT qC H locs ls hP hD hS hl hqk hqr hqt hm_
              have hqc := btL_rng (GA := GA) (GN := (fun k => gnZ (K k))) (BB := (fun k => kBits (K k))) (fun k => gnZ_bd (K k)) (n := (gr - 2).toNat) (g := 1) (ps := ps) (bi := bi) hgn (by decide) (by omega) hcu (GA 1) (qk - GA 1).toNat
              refine lv_iload hx hb dX0_tryGroup_56 (lv_at hl 5 rfl) ?_
              refine lv_aload_n hx hb dX0_tryGroup_58 rfl (lv_at hl 0 rfl) ?_
              refine z_get (v := .ref u1) hC hK hP inX0 rfl 0 rfl 2 (by decide) tw_166 rfl dX0_tryGroup_59 ?_
              refine lv_iload_n hx hb dX0_tryGroup_62 rfl (lv_at hl 1 rfl) ?_
              refine lv_iconst (v := iI 1) hx hb dX0_tryGroup_63 rfl ?_
              refine z_iadd hx hb dX0_tryGroup_64 ?_
              refine z_iald hC hK hP 1 rfl (by omega) (by decide) dX0_tryGroup_65 ?_
              refine z_icmp_ge (tgt := 124) hx hb dX0_tryGroup_66 (by decide) (by omega) (fun c_66 => ?_) (fun c_66 => ?_)
              · refine lv_aload_n hx hb dX0_tryGroup_124 rfl (lv_at hl 0 rfl) ?_
                refine lv_iload_n hx hb dX0_tryGroup_125 rfl (lv_at hl 1 rfl) ?_
                refine lv_iconst (v := iI 1) hx hb dX0_tryGroup_126 rfl ?_
                refine z_iadd hx hb dX0_tryGroup_127 ?_
                refine lv_iload_n hx hb dX0_tryGroup_128 rfl (lv_at hl 2 rfl) ?_
                refine lv_iload_n hx hb dX0_tryGroup_129 rfl (lv_at hl 3 rfl) ?_
                refine lv_iload hx hb dX0_tryGroup_130 (lv_at hl 4 rfl) ?_
                refine z_wVv (q0 := 0) (ci := 0) (b := u0) (rest := []) (wr := []) hC hK hP hD hS hA (c_X0_tryGroup_2 l G H.size u0 u1 u2 u3 u4 u5 u6 f0 gr qn qg qb GA GN BB HP qT qC nf K ps (btL (fun k cu => if zand ((fun k => kBits (K k)) k) bi = 0 then btZ GA (fun k => gnZ (K k)) (fun k => kBits (K k)) (gr - 2).toNat 2 (ps ++ [k]) (zor bi ((fun k => kBits (K k)) k)) (gn + (fun k => gnZ (K k)) k) cu else cu) (GA 1) (GA (1 + 1) - GA 1).toNat cu) ct bi gn (by omega) (by omega) (by omega) (hga) (hmo) (hvl) (hhp) (rpT_cg hps hqt) (by omega) (by omega) (by rw [show GA (1 + 1) = qk by omega]; exact hqc) (by rw [show GA (1 + 1) = qk by omega]; exact hqr)) mv_X0_tryGroup tw_400 [0, 1, 2, 3, 4, 5, 6] [] rfl rfl rfl rfl (by decide) rfl rfl rfl rfl hl.1 rfl (Nat.le_of_ble_eq_true rfl) ⟨rfl, rfl, Nat.le_of_ble_eq_true rfl, Nat.le_of_ble_eq_true rfl⟩ ⟨Nat.le_of_ble_eq_true rfl, Nat.le_of_ble_eq_true rfl⟩ dX0_tryGroup_132 (fun u H locs hw hP hD hS => ?_)
                obtain ⟨cn'_1, cg'_1, cb'_1, TR'_1, CH'_1⟩ := u
                dsimp only at hw hP hD
                have hP : va_P G.1 vwCl [(u0, ob 0 [.ref f0, vI gr, .ref u1, .ref u2, .ref u3, .ref u4, .ref u5, .ref u6, vI cn'_1, vI cg'_1, vI cb'_1]), (u1, aI G 7 GA), (u2, aI G 40 GN), (u3, aI G 40 BB), (u4, aI G 7 HP), (u5, aI G 6 TR'_1), (u6, aI G 6 CH'_1)] H := hP
                have hD : va_D A [(u0, ob 0 [.ref f0, vI gr, .ref u1, .ref u2, .ref u3, .ref u4, .ref u5, .ref u6, vI cn'_1, vI cg'_1, vI cb'_1]), (u1, aI G 7 GA), (u2, aI G 40 GN), (u3, aI G 40 BB), (u4, aI G 7 HP), (u5, aI G 6 TR'_1), (u6, aI G 6 CH'_1)] := hD
                have hw_1 := hw
                exact z_vretW hC hr hlk ⟨cn'_1, cg'_1, cb'_1, TR'_1, CH'_1⟩ hAe hP hD hS [0, 1, 2, 3, 4, 5, 6] (by decide) rfl rfl (⟨by rw [hns, btZ_n]; exact hw_1.1, fun j hj => (hw_1.2 j hj).trans (hqt j hj)⟩) dX0_tryGroup_135
              · have hvk := hvl qk (by omega)
                have hgk := gnZ_bd (K qk)
                refine lv_aload_n hx hb dX0_tryGroup_69 rfl (lv_at hl 0 rfl) ?_
                refine z_get (v := .ref u3) hC hK hP inX0 rfl 0 rfl 4 (by decide) tw_168 rfl dX0_tryGroup_70 ?_
                refine lv_iload hx hb dX0_tryGroup_73 (lv_at hl 5 rfl) ?_
                refine z_iald hC hK hP 3 rfl (by omega) (by decide) dX0_tryGroup_75 ?_
                refine lv_iload_n hx hb dX0_tryGroup_76 rfl (lv_at hl 3 rfl) ?_
                refine z_iand hx hb dX0_tryGroup_77 ?_
                refine z_if_ne (tgt := 118) hx hb dX0_tryGroup_78 (by decide) (zand_rng _ _) (fun c_78 => ?_) (fun c_78 => ?_)
                · have hzb : ¬ zand ((fun k => kBits (K k)) qk) bi = 0 := by show ¬ zand (kBits (K qk)) bi = 0; rw [← hvk.2]; exact c_78
                  refine z_iinc (k := 5) (lv' := [(5, vI (qk + 1)), (0, .ref u0), (1, vI 1), (2, vI ct), (3, vI bi), (4, vI gn)]) hx hb dX0_tryGroup_118 hl rfl (by decide) rfl (fun ls hl => ?_)
                  refine lv_goto (tgt := 56) hx hb dX0_tryGroup_121 (by decide) ?_
                  exact ih_56 (qk + 1) qn qg qb qT qC H locs ls hP hD hS (lv_sub hl [1, 2, 3, 4, 5, 0] rfl) (by omega) (by rw [btL_1 (fun k cu => if zand ((fun k => kBits (K k)) k) bi = 0 then btZ GA (fun k => gnZ (K k)) (fun k => kBits (K k)) (gr - 2).toNat 2 (ps ++ [k]) (zor bi ((fun k => kBits (K k)) k)) (gn + (fun k => gnZ (K k)) k) cu else cu) hqk.1]; first | (rw [if_neg hzb]; exact hqr) | (rw [if_pos hzb]; have h9 := hw_2.1; rw [hvk.1, hvk.2] at h9; exact h9)) (by first | exact hqt | exact fun j hj => (hw_2.2 j (by omega)).trans ((zup_n _ _ (by omega)).trans (hqt j hj))) (by omega)
                · have hzb : zand ((fun k => kBits (K k)) qk) bi = 0 := by show zand (kBits (K qk)) bi = 0; rw [← hvk.2]; exact c_78
                  refine lv_aload_n hx hb dX0_tryGroup_81 rfl (lv_at hl 0 rfl) ?_
                  refine z_get (v := .ref u5) hC hK hP inX0 rfl 0 rfl 6 (by decide) tw_170 rfl dX0_tryGroup_82 ?_
                  refine lv_iload_n hx hb dX0_tryGroup_85 rfl (lv_at hl 2 rfl) ?_
                  refine lv_iload hx hb dX0_tryGroup_86 (lv_at hl 5 rfl) ?_
                  refine z_iast (ws' := [(u0, ob 0 [.ref f0, vI gr, .ref u1, .ref u2, .ref u3, .ref u4, .ref u5, .ref u6, vI qn, vI qg, vI qb]), (u1, aI G 7 GA), (u2, aI G 40 GN), (u3, aI G 40 BB), (u4, aI G 7 HP), (u5, aI G 6 (zup qT ct qk)), (u6, aI G 6 qC)]) hC hK hP hD hS 5 rfl (by omega) (by decide) rfl dX0_tryGroup_88 (fun H locs hP hD hS => ?_)
                  refine lv_aload_n hx hb dX0_tryGroup_89 rfl (lv_at hl 0 rfl) ?_
                  refine lv_iload_n hx hb dX0_tryGroup_90 rfl (lv_at hl 1 rfl) ?_
                  refine lv_iconst (v := iI 1) hx hb dX0_tryGroup_91 rfl ?_
                  refine z_iadd hx hb dX0_tryGroup_92 ?_
                  refine lv_iload_n hx hb dX0_tryGroup_93 rfl (lv_at hl 2 rfl) ?_
                  refine lv_iconst (v := iI 1) hx hb dX0_tryGroup_94 rfl ?_
                  refine z_iadd hx hb dX0_tryGroup_95 ?_
                  refine lv_iload_n hx hb dX0_tryGroup_96 rfl (lv_at hl 3 rfl) ?_
                  refine lv_aload_n hx hb dX0_tryGroup_97 rfl (lv_at hl 0 rfl) ?_
                  refine z_get (v := .ref u3) hC hK hP inX0 rfl 0 rfl 4 (by decide) tw_168 rfl dX0_tryGroup_98 ?_
                  refine lv_iload hx hb dX0_tryGroup_101 (lv_at hl 5 rfl) ?_
                  refine z_iald hC hK hP 3 rfl (by omega) (by decide) dX0_tryGroup_103 ?_
                  refine z_ior hx hb dX0_tryGroup_104 ?_
                  refine lv_iload hx hb dX0_tryGroup_105 (lv_at hl 4 rfl) ?_
                  refine lv_aload_n hx hb dX0_tryGroup_107 rfl (lv_at hl 0 rfl) ?_
                  refine z_get (v := .ref u2) hC hK hP inX0 rfl 0 rfl 3 (by decide) tw_167 rfl dX0_tryGroup_108 ?_
                  refine lv_iload hx hb dX0_tryGroup_111 (lv_at hl 5 rfl) ?_
                  refine z_iald hC hK hP 2 rfl (by omega) (by decide) dX0_tryGroup_113 ?_
                  refine z_iadd hx hb dX0_tryGroup_114 ?_
                  refine z_wVv (q0 := 0) (ci := 0) (b := u0) (rest := []) (wr := []) hC hK hP hD hS hA (c_X0_tryGroup_2 l G H.size u0 u1 u2 u3 u4 u5 u6 f0 gr qn qg qb GA GN BB HP (zup qT ct qk) qC nf K (ps ++ [qk]) (btL (fun k cu => if zand ((fun k => kBits (K k)) k) bi = 0 then btZ GA (fun k => gnZ (K k)) (fun k => kBits (K k)) (gr - 2).toNat 2 (ps ++ [k]) (zor bi ((fun k => kBits (K k)) k)) (gn + (fun k => gnZ (K k)) k) cu else cu) (GA 1) (qk - GA 1).toNat cu) (ct + 1) (zor bi (BB qk)) (gn + (GN qk)) (by omega) (by omega) (by omega) (hga) (hmo) (hvl) (hhp) (rpT_add (rpT_cg hps hqt)) (by omega) (by omega) (hqc) (hqr)) mv_X0_tryGroup tw_400 [0, 1, 2, 3, 4, 5, 6] [] rfl rfl rfl rfl (by decide) rfl rfl rfl rfl hl.1 rfl (Nat.le_of_ble_eq_true rfl) ⟨rfl, rfl, Nat.le_of_ble_eq_true rfl, Nat.le_of_ble_eq_true rfl⟩ ⟨Nat.le_of_ble_eq_true rfl, Nat.le_of_ble_eq_true rfl⟩ dX0_tryGroup_115 (fun u H locs hw hP hD hS => ?_)
                  obtain ⟨cn'_2, cg'_2, cb'_2, TR'_2, CH'_2⟩ := u
                  dsimp only at hw hP hD
                  have hP : va_P G.1 vwCl [(u0, ob 0 [.ref f0, vI gr, .ref u1, .ref u2, .ref u3, .ref u4, .ref u5, .ref u6, vI cn'_2, vI cg'_2, vI cb'_2]), (u1, aI G 7 GA), (u2, aI G 40 GN), (u3, aI G 40 BB), (u4, aI G 7 HP), (u5, aI G 6 TR'_2), (u6, aI G 6 CH'_2)] H := hP
                  have hD : va_D A [(u0, ob 0 [.ref f0, vI gr, .ref u1, .ref u2, .ref u3, .ref u4, .ref u5, .ref u6, vI cn'_2, vI cg'_2, vI cb'_2]), (u1, aI G 7 GA), (u2, aI G 40 GN), (u3, aI G 40 BB), (u4, aI G 7 HP), (u5, aI G 6 TR'_2), (u6, aI G 6 CH'_2)] := hD
                  have hw_2 := hw
                  refine z_iinc (k := 5) (lv' := [(5, vI (qk + 1)), (0, .ref u0), (1, vI 1), (2, vI ct), (3, vI bi), (4, vI gn)]) hx hb dX0_tryGroup_118 hl rfl (by decide) rfl (fun ls hl => ?_)
                  refine lv_goto (tgt := 56) hx hb dX0_tryGroup_121 (by decide) ?_
                  exact ih_56 (qk + 1) cn'_2 cg'_2 cb'_2 TR'_2 CH'_2 H locs ls hP hD hS (lv_sub hl [1, 2, 3, 4, 5, 0] rfl) (by omega) (by rw [btL_1 (fun k cu => if zand ((fun k => kBits (K k)) k) bi = 0 then btZ GA (fun k => gnZ (K k)) (fun k => kBits (K k)) (gr - 2).toNat 2 (ps ++ [k]) (zor bi ((fun k => kBits (K k)) k)) (gn + (fun k => gnZ (K k)) k) cu else cu) hqk.1]; first | (rw [if_neg hzb]; exact hqr) | (rw [if_pos hzb]; have h9 := hw_2.1; rw [hvk.1, hvk.2] at h9; exact h9)) (by first | exact hqt | exact fun j hj => (hw_2.2 j (by omega)).trans ((zup_n _ _ (by omega)).trans (hqt j hj))) (by omega)
          exact cut_56 ((GA (1 + 1) - (GA 1)).toNat + 1) (GA 1) cn cg cb TR CH H locs ls hP hD hS (lv_sub hl [1, 2, 3, 4, 5, 0] rfl) (by omega) (by rw [btL_0]; exact hrp) (fun j hj => rfl) (Nat.lt_succ_self _)
        · refine lv_aload_n hx hb dX0_tryGroup_39 rfl (lv_at hl 0 rfl) ?_
          refine lv_iload_n hx hb dX0_tryGroup_40 rfl (lv_at hl 2 rfl) ?_
          refine lv_iload_n hx hb dX0_tryGroup_41 rfl (lv_at hl 3 rfl) ?_
          refine lv_iload hx hb dX0_tryGroup_42 (lv_at hl 4 rfl) ?_
          refine z_wVv (q0 := 0) (ci := 0) (b := u0) (rest := []) (wr := [(u1, aI G 7 GA), (u2, aI G 40 GN), (u3, aI G 40 BB), (u4, aI G 7 HP)]) hC hK hP hD hS hA (c_X0_keepTried l G H.size u0 u1 u2 u3 u4 u5 u6 f0 gr cn cg cb TR CH ct bi gn) mv_X0_keepTried tw_404 [0, 5, 6] [1, 2, 3, 4] rfl rfl rfl rfl (by decide) rfl rfl rfl rfl hl.1 rfl (Nat.le_of_ble_eq_true rfl) ⟨rfl, rfl, Nat.le_of_ble_eq_true rfl, Nat.le_of_ble_eq_true rfl⟩ ⟨Nat.le_of_ble_eq_true rfl, Nat.le_of_ble_eq_true rfl⟩ dX0_tryGroup_44 (fun u H locs hw hP hD hS => ?_)
          have hP : va_P G.1 vwCl [(u1, aI G 7 GA), (u2, aI G 40 GN), (u3, aI G 40 BB), (u4, aI G 7 HP), (u0, ob 0 [.ref f0, vI gr, .ref u1, .ref u2, .ref u3, .ref u4, .ref u5, .ref u6, vI ct, vI gn, vI bi]), (u5, aI G 6 TR), (u6, aI G 6 (zcpy TR CH 6))] H := hP
          have hD : va_D A [(u1, aI G 7 GA), (u2, aI G 40 GN), (u3, aI G 40 BB), (u4, aI G 7 HP), (u0, ob 0 [.ref f0, vI gr, .ref u1, .ref u2, .ref u3, .ref u4, .ref u5, .ref u6, vI ct, vI gn, vI bi]), (u5, aI G 6 TR), (u6, aI G 6 (zcpy TR CH 6))] := hD
          have hw_3 := hw
          clear hw_3
          exact z_vretW hC hr hlk ⟨ct, gn, bi, TR, zcpy TR CH 6⟩ hAe hP hD hS [4, 0, 1, 2, 3, 5, 6] (by decide) rfl rfl (⟨by rw [show (gr - 1).toNat = 0 by omega]; rw [show btZ GA (fun k => gnZ (K k)) (fun k => kBits (K k)) 0 1 ps bi gn cu = (gn, ps, bi) from if_pos (by have h9 := hhp.1; rw [show gr = 1 by omega] at h9; omega)]; exact rpH_keep hps (by omega), fun j hj => rfl⟩) dX0_tryGroup_47
      · exact z_vretW hC hr hlk ⟨cn, cg, cb, TR, CH⟩ hAe hP hD hS [0, 1, 2, 3, 4, 5, 6] (by decide) rfl rfl (⟨by rw [btZ_prune (hpJ_I hhp) (gr - 1).toNat 1 ps bi gn cu (by decide) (by omega) (by omega)]; exact hrp, fun j hj => rfl⟩) dX0_tryGroup_30

set_option maxRecDepth 100000 in
set_option maxHeartbeats 4000000 in
theorem c_X0_tryGroup_0 (l : Launch) (G : zGt) (sz : Nat) (u0 u1 u2 u3 u4 u5 u6 f0 : Nat) (gr cn cg cb : Int) (GA GN BB HP TR CH : Int → Int) (nf : Int) (K : Int → Int) (ps : List Int) (cu : cuT) (ct bi gn : Int) (hnf : 0 ≤ nf ∧ nf ≤ 40) (hgr : 0 ≤ gr ∧ gr ≤ 6) (hgD : 0 ≤ gr) (hga : ∀ g : Int, 0 ≤ g ∧ g < gr → 0 ≤ GA g ∧ GA g ≤ GA (g + 1) ∧ GA (g + 1) ≤ nf) (hmo : ∀ g : Int, 0 ≤ g ∧ g ≤ gr → GA g ≤ GA gr) (hvl : (∀ k : Int, 0 ≤ k ∧ k < GA gr → GN k = gnZ (K k) ∧ BB k = kBits (K k))) (hhp : hpJ K GA HP gr 0) (hps : rpT ps TR ct) (hct : ct ≤ 0) (hgn : -2000 * 0 ≤ gn ∧ gn ≤ 500000 * 0) (hcu : -12001 ≤ cu.1 ∧ cu.1 ≤ 3000000) (hrp : rpH cu CH cn cg cb) : Met l yX0_tryGroup (Cond.code yX0_tryGroup cX0_tryGroup 6 none :: tb) ({ frames := 8, cells := 0, slots := 0, locals := 191 } : Room) (zPw G [(u0, ob 0 [.ref f0, vI gr, .ref u1, .ref u2, .ref u3, .ref u4, .ref u5, .ref u6, vI cn, vI cg, vI cb]), (u1, aI G 7 GA), (u2, aI G 40 GN), (u3, aI G 40 BB), (u4, aI G 7 HP), (u5, aI G 6 TR), (u6, aI G 6 CH)] sz [.ref u0, vI 0, vI ct, vI bi, vI gn]) (va_Qv (fun u : Int × Int × Int × (Int → Int) × (Int → Int) => rpH (btZ GA (fun k => gnZ (K k)) (fun k => kBits (K k)) (gr - 0).toNat 0 ps bi gn cu) u.2.2.2.2 u.1 u.2.1 u.2.2.1 ∧ ∀ j : Int, 0 ≤ j ∧ j < ct → u.2.2.2.1 j = TR j) (fun (u : Int × Int × Int × (Int → Int) × (Int → Int)) t => zB G [(u0, ob 0 [.ref f0, vI gr, .ref u1, .ref u2, .ref u3, .ref u4, .ref u5, .ref u6, vI cn, vI cg, vI cb]), (u1, aI G 7 GA), (u2, aI G 40 GN), (u3, aI G 40 BB), (u4, aI G 7 HP), (u5, aI G 6 TR), (u6, aI G 6 CH)] sz [(u0, ob 0 [.ref f0, vI gr, .ref u1, .ref u2, .ref u3, .ref u4, .ref u5, .ref u6, vI u.1, vI u.2.1, vI u.2.2.1]), (u1, aI G 7 GA), (u2, aI G 40 GN), (u3, aI G 40 BB), (u4, aI G 7 HP), (u5, aI G 6 u.2.2.2.1), (u6, aI G 6 u.2.2.2.2)] t) (va_A [(u0, ob 0 [.ref f0, vI gr, .ref u1, .ref u2, .ref u3, .ref u4, .ref u5, .ref u6, vI cn, vI cg, vI cb]), (u1, aI G 7 GA), (u2, aI G 40 GN), (u3, aI G 40 BB), (u4, aI G 7 HP), (u5, aI G 6 TR), (u6, aI G 6 CH)] sz)) 0 0 (va_A [(u0, ob 0 [.ref f0, vI gr, .ref u1, .ref u2, .ref u3, .ref u4, .ref u5, .ref u6, vI cn, vI cg, vI cb]), (u1, aI G 7 GA), (u2, aI G 40 GN), (u3, aI G 40 BB), (u4, aI G 7 HP), (u5, aI G 6 TR), (u6, aI G 6 CH)] sz) := by
  refine Met.ofW (cc := cX0_tryGroup) (maxL := 6) (ret := none) (by decide) rfl ?_
  intro p e s m args below meth c s₁ B hml hv
  obtain ⟨rfl, hsz, hP, hK, hD0⟩ := hv
  subst hsz
  have hD := hD0.self (sz := s.heap.size)
  obtain ⟨A, hAe⟩ : ∃ A : Nat → Prop, A = va_A [(u0, ob 0 [.ref f0, vI gr, .ref u1, .ref u2, .ref u3, .ref u4, .ref u5, .ref u6, vI cn, vI cg, vI cb]), (u1, aI G 7 GA), (u2, aI G 40 GN), (u3, aI G 40 BB), (u4, aI G 7 HP), (u5, aI G 6 TR), (u6, aI G 6 CH)] s.heap.size := ⟨_, rfl⟩
  rw [← hAe] at hD
  have hA : ∀ q : Nat, s.heap.size ≤ q → A q := fun q h => by rw [hAe]; exact Or.inr h
  have hS : va_S A s.heap s.heap [] := va_S.rf
  obtain ⟨hC, hr, hlk⟩ := z_begin B hml
  have hC : CallFix p m c cX0_tryGroup 6 s _ tb RX0 := hC
  have hx := hC.1
  have hb := hC.2.1
  have hl := lv_entry ([.ref u0, vI 0, vI ct, vI bi, vI gn]) (n := 6) (Nat.le_of_ble_eq_true rfl)
  rw [lg_entry_eq]
  generalize (lg_sl ([.ref u0, vI 0, vI ct, vI bi, vI gn]) ++ List.replicate (6 - (lg_sl ([.ref u0, vI 0, vI ct, vI bi, vI gn])).length) Slot.unset).toArray = ls at hl ⊢
  have hl : lv_has ls 6 [(0, .ref u0), (1, vI 0), (2, vI ct), (3, vI bi), (4, vI gn)] := hl
  obtain ⟨H, hHe⟩ : ∃ H : Heap, H = s.heap := ⟨_, rfl⟩
  obtain ⟨locs, hLe⟩ : ∃ L : List Loc, L = [] := ⟨_, rfl⟩
  suffices hgo : W p l e (headSpec (Cond.code yX0_tryGroup cX0_tryGroup 6 none :: tb) ({ frames := 8, cells := 0, slots := 0, locals := 191 } : Room)).room s m ([.ref u0, vI 0, vI ct, vI bi, vI gn] : List Value).toArray below meth c H locs 0 0 (MQ below (va_Qv (fun u : Int × Int × Int × (Int → Int) × (Int → Int) => rpH (btZ GA (fun k => gnZ (K k)) (fun k => kBits (K k)) (gr - 0).toNat 0 ps bi gn cu) u.2.2.2.2 u.1 u.2.1 u.2.2.1 ∧ ∀ j : Int, 0 ≤ j ∧ j < ct → u.2.2.2.1 j = TR j) (fun (u : Int × Int × Int × (Int → Int) × (Int → Int)) t => zB G [(u0, ob 0 [.ref f0, vI gr, .ref u1, .ref u2, .ref u3, .ref u4, .ref u5, .ref u6, vI cn, vI cg, vI cb]), (u1, aI G 7 GA), (u2, aI G 40 GN), (u3, aI G 40 BB), (u4, aI G 7 HP), (u5, aI G 6 TR), (u6, aI G 6 CH)] s.heap.size [(u0, ob 0 [.ref f0, vI gr, .ref u1, .ref u2, .ref u3, .ref u4, .ref u5, .ref u6, vI u.1, vI u.2.1, vI u.2.2.1]), (u1, aI G 7 GA), (u2, aI G 40 GN), (u3, aI G 40 BB), (u4, aI G 7 HP), (u5, aI G 6 u.2.2.2.1), (u6, aI G 6 u.2.2.2.2)] t) (va_A [(u0, ob 0 [.ref f0, vI gr, .ref u1, .ref u2, .ref u3, .ref u4, .ref u5, .ref u6, vI cn, vI cg, vI cb]), (u1, aI G 7 GA), (u2, aI G 40 GN), (u3, aI G 40 BB), (u4, aI G 7 HP), (u5, aI G 6 TR), (u6, aI G 6 CH)] s.heap.size)) ([.ref u0, vI 0, vI ct, vI bi, vI gn] : List Value).toArray s 0 0 (va_A [(u0, ob 0 [.ref f0, vI gr, .ref u1, .ref u2, .ref u3, .ref u4, .ref u5, .ref u6, vI cn, vI cg, vI cb]), (u1, aI G 7 GA), (u2, aI G 40 GN), (u3, aI G 40 BB), (u4, aI G 7 HP), (u5, aI G 6 TR), (u6, aI G 6 CH)] s.heap.size)) (F0 m 0 ls []) by rw [hHe, hLe] at hgo; exact hgo
  rw [← hHe] at hP
  have hS : va_S A s.heap H locs := by rw [hHe, hLe]; exact hS
  clear hHe hLe
  have hhb := hpJ_bd hhp (g := 0) (by omega)
  have hcg := hrp.1
  have hpl := hps.1
  refine lv_iload_n hx hb dX0_tryGroup_0 rfl (lv_at hl 1 rfl) ?_
  refine lv_aload_n hx hb dX0_tryGroup_1 rfl (lv_at hl 0 rfl) ?_
  refine z_get (v := vI gr) hC hK hP inX0 rfl 0 rfl 1 (by decide) tw_165 rfl dX0_tryGroup_2 ?_
  refine z_icmp_gt (tgt := 30) hx hb dX0_tryGroup_5 (by decide) (by omega) (fun c_5 => ?_) (fun c_5 => ?_)
  · exfalso; omega
  · refine lv_iload_n hx hb dX0_tryGroup_8 rfl (lv_at hl 1 rfl) ?_
    refine lv_bipush (v := iI 6) hx hb dX0_tryGroup_9 (by decide) ?_
    refine z_icmp_gt (tgt := 30) hx hb dX0_tryGroup_11 (by decide) (by omega) (fun c_11 => ?_) (fun c_11 => ?_)
    · exfalso; omega
    · refine lv_iload hx hb dX0_tryGroup_14 (lv_at hl 4 rfl) ?_
      refine lv_aload_n hx hb dX0_tryGroup_16 rfl (lv_at hl 0 rfl) ?_
      refine z_get (v := .ref u4) hC hK hP inX0 rfl 0 rfl 5 (by decide) tw_169 rfl dX0_tryGroup_17 ?_
      refine lv_iload_n hx hb dX0_tryGroup_20 rfl (lv_at hl 1 rfl) ?_
      refine z_iald hC hK hP 4 rfl (by omega) (by decide) dX0_tryGroup_21 ?_
      refine z_iadd hx hb dX0_tryGroup_22 ?_
      refine lv_aload_n hx hb dX0_tryGroup_23 rfl (lv_at hl 0 rfl) ?_
      refine z_get (v := vI cg) hC hK hP inX0 rfl 0 rfl 9 (by decide) tw_173 rfl dX0_tryGroup_24 ?_
      refine z_icmp_gt (tgt := 31) hx hb dX0_tryGroup_27 (by decide) (by omega) (fun c_27 => ?_) (fun c_27 => ?_)
      · refine lv_iload_n hx hb dX0_tryGroup_31 rfl (lv_at hl 1 rfl) ?_
        refine lv_aload_n hx hb dX0_tryGroup_32 rfl (lv_at hl 0 rfl) ?_
        refine z_get (v := vI gr) hC hK hP inX0 rfl 0 rfl 1 (by decide) tw_165 rfl dX0_tryGroup_33 ?_
        refine z_icmp_ne (tgt := 48) hx hb dX0_tryGroup_36 (by decide) (by omega) (fun c_36 => ?_) (fun c_36 => ?_)
        · have hgg := hga 0 (by omega)
          have hg1 := hmo (0 + 1) (by omega)
          have hns : (gr - 0).toNat = (gr - 1).toNat + 1 := by omega
          refine lv_aload_n hx hb dX0_tryGroup_48 rfl (lv_at hl 0 rfl) ?_
          refine z_get (v := .ref u1) hC hK hP inX0 rfl 0 rfl 2 (by decide) tw_166 rfl dX0_tryGroup_49 ?_
          refine lv_iload_n hx hb dX0_tryGroup_52 rfl (lv_at hl 1 rfl) ?_
          refine z_iald hC hK hP 1 rfl (by omega) (by decide) dX0_tryGroup_53 ?_
          refine lv_istore (lv' := [(5, vI (GA 0)), (0, .ref u0), (1, vI 0), (2, vI ct), (3, vI bi), (4, vI gn)]) hx hb dX0_tryGroup_54 hl (by decide) rfl (fun ls hl => ?_)
          have cut_56 : ∀ (n_ : Nat) (qk : Int) (qn : Int) (qg : Int) (qb : Int) (qT : Int → Int) (qC : Int → Int) (H : Heap) (locs : List Loc) (ls : Array Slot), va_P G.1 vwCl [(u0, ob 0 [.ref f0, vI gr, .ref u1, .ref u2, .ref u3, .ref u4, .ref u5, .ref u6, vI qn, vI qg, vI qb]), (u1, aI G 7 GA), (u2, aI G 40 GN), (u3, aI G 40 BB), (u4, aI G 7 HP), (u5, aI G 6 qT), (u6, aI G 6 qC)] H → va_D A [(u0, ob 0 [.ref f0, vI gr, .ref u1, .ref u2, .ref u3, .ref u4, .ref u5, .ref u6, vI qn, vI qg, vI qb]), (u1, aI G 7 GA), (u2, aI G 40 GN), (u3, aI G 40 BB), (u4, aI G 7 HP), (u5, aI G 6 qT), (u6, aI G 6 qC)] → va_S A s.heap H locs → lv_has ls 6 [(0, .ref u0), (1, vI 0), (2, vI ct), (3, vI bi), (4, vI gn), (5, vI qk)] → (GA 0 ≤ qk ∧ qk ≤ GA (0 + 1)) → (rpH (btL (fun k cu => if zand ((fun k => kBits (K k)) k) bi = 0 then btZ GA (fun k => gnZ (K k)) (fun k => kBits (K k)) (gr - 1).toNat 1 (ps ++ [k]) (zor bi ((fun k => kBits (K k)) k)) (gn + (fun k => gnZ (K k)) k) cu else cu) (GA 0) (qk - GA 0).toNat cu) qC qn qg qb) → (∀ j : Int, 0 ≤ j ∧ j < ct → qT j = TR j) → (GA (0 + 1) - qk).toNat < n_ → W p l e (headSpec (Cond.code yX0_tryGroup cX0_tryGroup 6 none :: tb) ({ frames := 8, cells := 0, slots := 0, locals := 191 } : Room)).room s m ([.ref u0, vI 0, vI ct, vI bi, vI gn] : List Value).toArray below meth c H locs 0 0 (MQ below (va_Qv (fun u : Int × Int × Int × (Int → Int) × (Int → Int) => rpH (btZ GA (fun k => gnZ (K k)) (fun k => kBits (K k)) (gr - 0).toNat 0 ps bi gn cu) u.2.2.2.2 u.1 u.2.1 u.2.2.1 ∧ ∀ j : Int, 0 ≤ j ∧ j < ct → u.2.2.2.1 j = TR j) (fun (u : Int × Int × Int × (Int → Int) × (Int → Int)) t => zB G [(u0, ob 0 [.ref f0, vI gr, .ref u1, .ref u2, .ref u3, .ref u4, .ref u5, .ref u6, vI cn, vI cg, vI cb]), (u1, aI G 7 GA), (u2, aI G 40 GN), (u3, aI G 40 BB), (u4, aI G 7 HP), (u5, aI G 6 TR), (u6, aI G 6 CH)] s.heap.size [(u0, ob 0 [.ref f0, vI gr, .ref u1, .ref u2, .ref u3, .ref u4, .ref u5, .ref u6, vI u.1, vI u.2.1, vI u.2.2.1]), (u1, aI G 7 GA), (u2, aI G 40 GN), (u3, aI G 40 BB), (u4, aI G 7 HP), (u5, aI G 6 u.2.2.2.1), (u6, aI G 6 u.2.2.2.2)] t) (va_A [(u0, ob 0 [.ref f0, vI gr, .ref u1, .ref u2, .ref u3, .ref u4, .ref u5, .ref u6, vI cn, vI cg, vI cb]), (u1, aI G 7 GA), (u2, aI G 40 GN), (u3, aI G 40 BB), (u4, aI G 7 HP), (u5, aI G 6 TR), (u6, aI G 6 CH)] s.heap.size)) ([.ref u0, vI 0, vI ct, vI bi, vI gn] : List Value).toArray s 0 0 (va_A [(u0, ob 0 [.ref f0, vI gr, .ref u1, .ref u2, .ref u3, .ref u4, .ref u5, .ref u6, vI cn, vI cg, vI cb]), (u1, aI G 7 GA), (u2, aI G 40 GN), (u3, aI G 40 BB), (u4, aI G 7 HP), (u5, aI G 6 TR), (u6, aI G 6 CH)] s.heap.size)) (F0 m 56 ls []) := by
            intro n_
            induction n_ with
            | zero => exact fun qk qn qg qb qT qC H locs ls hP hD hS hl hqk hqr hqt hm_ => absurd hm_ (Nat.not_lt_zero _)
            | succ n_ ih_56 =>
              intro qk qn qg qb qT qC H locs ls hP hD hS hl hqk hqr hqt hm_
              have hqc := btL_rng (GA := GA) (GN := (fun k => gnZ (K k))) (BB := (fun k => kBits (K k))) (fun k => gnZ_bd (K k)) (n := (gr - 1).toNat) (g := 0) (ps := ps) (bi := bi) hgn (by decide) (by omega) hcu (GA 0) (qk - GA 0).toNat
              refine lv_iload hx hb dX0_tryGroup_56 (lv_at hl 5 rfl) ?_
              refine lv_aload_n hx hb dX0_tryGroup_58 rfl (lv_at hl 0 rfl) ?_
              refine z_get (v := .ref u1) hC hK hP inX0 rfl 0 rfl 2 (by decide) tw_166 rfl dX0_tryGroup_59 ?_
              refine lv_iload_n hx hb dX0_tryGroup_62 rfl (lv_at hl 1 rfl) ?_
              refine lv_iconst (v := iI 1) hx hb dX0_tryGroup_63 rfl ?_
              refine z_iadd hx hb dX0_tryGroup_64 ?_
              refine z_iald hC hK hP 1 rfl (by omega) (by decide) dX0_tryGroup_65 ?_
              refine z_icmp_ge (tgt := 124) hx hb dX0_tryGroup_66 (by decide) (by omega) (fun c_66 => ?_) (fun c_66 => ?_)
              · refine lv_aload_n hx hb dX0_tryGroup_124 rfl (lv_at hl 0 rfl) ?_
                refine lv_iload_n hx hb dX0_tryGroup_125 rfl (lv_at hl 1 rfl) ?_
                refine lv_iconst (v := iI 1) hx hb dX0_tryGroup_126 rfl ?_
                refine z_iadd hx hb dX0_tryGroup_127 ?_
                refine lv_iload_n hx hb dX0_tryGroup_128 rfl (lv_at hl 2 rfl) ?_
                refine lv_iload_n hx hb dX0_tryGroup_129 rfl (lv_at hl 3 rfl) ?_
                refine lv_iload hx hb dX0_tryGroup_130 (lv_at hl 4 rfl) ?_
                refine z_wVv (q0 := 0) (ci := 0) (b := u0) (rest := []) (wr := []) hC hK hP hD hS hA (c_X0_tryGroup_1 l G H.size u0 u1 u2 u3 u4 u5 u6 f0 gr qn qg qb GA GN BB HP qT qC nf K ps (btL (fun k cu => if zand ((fun k => kBits (K k)) k) bi = 0 then btZ GA (fun k => gnZ (K k)) (fun k => kBits (K k)) (gr - 1).toNat 1 (ps ++ [k]) (zor bi ((fun k => kBits (K k)) k)) (gn + (fun k => gnZ (K k)) k) cu else cu) (GA 0) (GA (0 + 1) - GA 0).toNat cu) ct bi gn (by omega) (by omega) (by omega) (hga) (hmo) (hvl) (hhp) (rpT_cg hps hqt) (by omega) (by omega) (by rw [show GA (0 + 1) = qk by omega]; exact hqc) (by rw [show GA (0 + 1) = qk by omega]; exact hqr)) mv_X0_tryGroup tw_400 [0, 1, 2, 3, 4, 5, 6] [] rfl rfl rfl rfl (by decide) rfl rfl rfl rfl hl.1 rfl (Nat.le_of_ble_eq_true rfl) ⟨rfl, rfl, Nat.le_of_ble_eq_true rfl, Nat.le_of_ble_eq_true rfl⟩ ⟨Nat.le_of_ble_eq_true rfl, Nat.le_of_ble_eq_true rfl⟩ dX0_tryGroup_132 (fun u H locs hw hP hD hS => ?_)
                obtain ⟨cn'_1, cg'_1, cb'_1, TR'_1, CH'_1⟩ := u
                dsimp only at hw hP hD
                have hP : va_P G.1 vwCl [(u0, ob 0 [.ref f0, vI gr, .ref u1, .ref u2, .ref u3, .ref u4, .ref u5, .ref u6, vI cn'_1, vI cg'_1, vI cb'_1]), (u1, aI G 7 GA), (u2, aI G 40 GN), (u3, aI G 40 BB), (u4, aI G 7 HP), (u5, aI G 6 TR'_1), (u6, aI G 6 CH'_1)] H := hP
                have hD : va_D A [(u0, ob 0 [.ref f0, vI gr, .ref u1, .ref u2, .ref u3, .ref u4, .ref u5, .ref u6, vI cn'_1, vI cg'_1, vI cb'_1]), (u1, aI G 7 GA), (u2, aI G 40 GN), (u3, aI G 40 BB), (u4, aI G 7 HP), (u5, aI G 6 TR'_1), (u6, aI G 6 CH'_1)] := hD
                have hw_1 := hw
                exact z_vretW hC hr hlk ⟨cn'_1, cg'_1, cb'_1, TR'_1, CH'_1⟩ hAe hP hD hS [0, 1, 2, 3, 4, 5, 6] (by decide) rfl rfl (⟨by rw [hns, btZ_n]; exact hw_1.1, fun j hj => (hw_1.2 j hj).trans (hqt j hj)⟩) dX0_tryGroup_135
              · have hvk := hvl qk (by omega)
                have hgk := gnZ_bd (K qk)
                refine lv_aload_n hx hb dX0_tryGroup_69 rfl (lv_at hl 0 rfl) ?_
                refine z_get (v := .ref u3) hC hK hP inX0 rfl 0 rfl 4 (by decide) tw_168 rfl dX0_tryGroup_70 ?_
                refine lv_iload hx hb dX0_tryGroup_73 (lv_at hl 5 rfl) ?_
                refine z_iald hC hK hP 3 rfl (by omega) (by decide) dX0_tryGroup_75 ?_
                refine lv_iload_n hx hb dX0_tryGroup_76 rfl (lv_at hl 3 rfl) ?_
                refine z_iand hx hb dX0_tryGroup_77 ?_
                refine z_if_ne (tgt := 118) hx hb dX0_tryGroup_78 (by decide) (zand_rng _ _) (fun c_78 => ?_) (fun c_78 => ?_)
                · have hzb : ¬ zand ((fun k => kBits (K k)) qk) bi = 0 := by show ¬ zand (kBits (K qk)) bi = 0; rw [← hvk.2]; exact c_78
                  refine z_iinc (k := 5) (lv' := [(5, vI (qk + 1)), (0, .ref u0), (1, vI 0), (2, vI ct), (3, vI bi), (4, vI gn)]) hx hb dX0_tryGroup_118 hl rfl (by decide) rfl (fun ls hl => ?_)
                  refine lv_goto (tgt := 56) hx hb dX0_tryGroup_121 (by decide) ?_
                  exact ih_56 (qk + 1) qn qg qb qT qC H locs ls hP hD hS (lv_sub hl [1, 2, 3, 4, 5, 0] rfl) (by omega) (by rw [btL_1 (fun k cu => if zand ((fun k => kBits (K k)) k) bi = 0 then btZ GA (fun k => gnZ (K k)) (fun k => kBits (K k)) (gr - 1).toNat 1 (ps ++ [k]) (zor bi ((fun k => kBits (K k)) k)) (gn + (fun k => gnZ (K k)) k) cu else cu) hqk.1]; first | (rw [if_neg hzb]; exact hqr) | (rw [if_pos hzb]; have h9 := hw_2.1; rw [hvk.1, hvk.2] at h9; exact h9)) (by first | exact hqt | exact fun j hj => (hw_2.2 j (by omega)).trans ((zup_n _ _ (by omega)).trans (hqt j hj))) (by omega)
                · have hzb : zand ((fun k => kBits (K k)) qk) bi = 0 := by show zand (kBits (K qk)) bi = 0; rw [← hvk.2]; exact c_78
                  refine lv_aload_n hx hb dX0_tryGroup_81 rfl (lv_at hl 0 rfl) ?_
                  refine z_get (v := .ref u5) hC hK hP inX0 rfl 0 rfl 6 (by decide) tw_170 rfl dX0_tryGroup_82 ?_
                  refine lv_iload_n hx hb dX0_tryGroup_85 rfl (lv_at hl 2 rfl) ?_
                  refine lv_iload hx hb dX0_tryGroup_86 (lv_at hl 5 rfl) ?_
                  refine z_iast (ws' := [(u0, ob 0 [.ref f0, vI gr, .ref u1, .ref u2, .ref u3, .ref u4, .ref u5, .ref u6, vI qn, vI qg, vI qb]), (u1, aI G 7 GA), (u2, aI G 40 GN), (u3, aI G 40 BB), (u4, aI G 7 HP), (u5, aI G 6 (zup qT ct qk)), (u6, aI G 6 qC)]) hC hK hP hD hS 5 rfl (by omega) (by decide) rfl dX0_tryGroup_88 (fun H locs hP hD hS => ?_)
                  refine lv_aload_n hx hb dX0_tryGroup_89 rfl (lv_at hl 0 rfl) ?_
                  refine lv_iload_n hx hb dX0_tryGroup_90 rfl (lv_at hl 1 rfl) ?_
                  refine lv_iconst (v := iI 1) hx hb dX0_tryGroup_91 rfl ?_
                  refine z_iadd hx hb dX0_tryGroup_92 ?_
                  refine lv_iload_n hx hb dX0_tryGroup_93 rfl (lv_at hl 2 rfl) ?_
                  refine lv_iconst (v := iI 1) hx hb dX0_tryGroup_94 rfl ?_
                  refine z_iadd hx hb dX0_tryGroup_95 ?_
                  refine lv_iload_n hx hb dX0_tryGroup_96 rfl (lv_at hl 3 rfl) ?_
                  refine lv_aload_n hx hb dX0_tryGroup_97 rfl (lv_at hl 0 rfl) ?_
                  refine z_get (v := .ref u3) hC hK hP inX0 rfl 0 rfl 4 (by decide) tw_168 rfl dX0_tryGroup_98 ?_
                  refine lv_iload hx hb dX0_tryGroup_101 (lv_at hl 5 rfl) ?_
                  refine z_iald hC hK hP 3 rfl (by omega) (by decide) dX0_tryGroup_103 ?_
                  refine z_ior hx hb dX0_tryGroup_104 ?_
                  refine lv_iload hx hb dX0_tryGroup_105 (lv_at hl 4 rfl) ?_
                  refine lv_aload_n hx hb dX0_tryGroup_107 rfl (lv_at hl 0 rfl) ?_
                  refine z_get (v := .ref u2) hC hK hP inX0 rfl 0 rfl 3 (by decide) tw_167 rfl dX0_tryGroup_108 ?_
                  refine lv_iload hx hb dX0_tryGroup_111 (lv_at hl 5 rfl) ?_
                  refine z_iald hC hK hP 2 rfl (by omega) (by decide) dX0_tryGroup_113 ?_
                  refine z_iadd hx hb dX0_tryGroup_114 ?_
                  refine z_wVv (q0 := 0) (ci := 0) (b := u0) (rest := []) (wr := []) hC hK hP hD hS hA (c_X0_tryGroup_1 l G H.size u0 u1 u2 u3 u4 u5 u6 f0 gr qn qg qb GA GN BB HP (zup qT ct qk) qC nf K (ps ++ [qk]) (btL (fun k cu => if zand ((fun k => kBits (K k)) k) bi = 0 then btZ GA (fun k => gnZ (K k)) (fun k => kBits (K k)) (gr - 1).toNat 1 (ps ++ [k]) (zor bi ((fun k => kBits (K k)) k)) (gn + (fun k => gnZ (K k)) k) cu else cu) (GA 0) (qk - GA 0).toNat cu) (ct + 1) (zor bi (BB qk)) (gn + (GN qk)) (by omega) (by omega) (by omega) (hga) (hmo) (hvl) (hhp) (rpT_add (rpT_cg hps hqt)) (by omega) (by omega) (hqc) (hqr)) mv_X0_tryGroup tw_400 [0, 1, 2, 3, 4, 5, 6] [] rfl rfl rfl rfl (by decide) rfl rfl rfl rfl hl.1 rfl (Nat.le_of_ble_eq_true rfl) ⟨rfl, rfl, Nat.le_of_ble_eq_true rfl, Nat.le_of_ble_eq_true rfl⟩ ⟨Nat.le_of_ble_eq_true rfl, Nat.le_of_ble_eq_true rfl⟩ dX0_tryGroup_115 (fun u H locs hw hP hD hS => ?_)
                  obtain ⟨cn'_2, cg'_2, cb'_2, TR'_2, CH'_2⟩ := u
                  dsimp only at hw hP hD
                  have hP : va_P G.1 vwCl [(u0, ob 0 [.ref f0, vI gr, .ref u1, .ref u2, .ref u3, .ref u4, .ref u5, .ref u6, vI cn'_2, vI cg'_2, vI cb'_2]), (u1, aI G 7 GA), (u2, aI G 40 GN), (u3, aI G 40 BB), (u4, aI G 7 HP), (u5, aI G 6 TR'_2), (u6, aI G 6 CH'_2)] H := hP
                  have hD : va_D A [(u0, ob 0 [.ref f0, vI gr, .ref u1, .ref u2, .ref u3, .ref u4, .ref u5, .ref u6, vI cn'_2, vI cg'_2, vI cb'_2]), (u1, aI G 7 GA), (u2, aI G 40 GN), (u3, aI G 40 BB), (u4, aI G 7 HP), (u5, aI G 6 TR'_2), (u6, aI G 6 CH'_2)] := hD
                  have hw_2 := hw
                  refine z_iinc (k := 5) (lv' := [(5, vI (qk + 1)), (0, .ref u0), (1, vI 0), (2, vI ct), (3, vI bi), (4, vI gn)]) hx hb dX0_tryGroup_118 hl rfl (by decide) rfl (fun ls hl => ?_)
                  refine lv_goto (tgt := 56) hx hb dX0_tryGroup_121 (by decide) ?_
                  exact ih_56 (qk + 1) cn'_2 cg'_2 cb'_2 TR'_2 CH'_2 H locs ls hP hD hS (lv_sub hl [1, 2, 3, 4, 5, 0] rfl) (by omega) (by rw [btL_1 (fun k cu => if zand ((fun k => kBits (K k)) k) bi = 0 then btZ GA (fun k => gnZ (K k)) (fun k => kBits (K k)) (gr - 1).toNat 1 (ps ++ [k]) (zor bi ((fun k => kBits (K k)) k)) (gn + (fun k => gnZ (K k)) k) cu else cu) hqk.1]; first | (rw [if_neg hzb]; exact hqr) | (rw [if_pos hzb]; have h9 := hw_2.1; rw [hvk.1, hvk.2] at h9; exact h9)) (by first | exact hqt | exact fun j hj => (hw_2.2 j (by omega)).trans ((zup_n _ _ (by omega)).trans (hqt j hj))) (by omega)
          exact cut_56 ((GA (0 + 1) - (GA 0)).toNat + 1) (GA 0) cn cg cb TR CH H locs ls hP hD hS (lv_sub hl [1, 2, 3, 4, 5, 0] rfl) (by omega) (by rw [btL_0]; exact hrp) (fun j hj => rfl) (Nat.lt_succ_self _)
        · refine lv_aload_n hx hb dX0_tryGroup_39 rfl (lv_at hl 0 rfl) ?_
          refine lv_iload_n hx hb dX0_tryGroup_40 rfl (lv_at hl 2 rfl) ?_
          refine lv_iload_n hx hb dX0_tryGroup_41 rfl (lv_at hl 3 rfl) ?_
          refine lv_iload hx hb dX0_tryGroup_42 (lv_at hl 4 rfl) ?_
          refine z_wVv (q0 := 0) (ci := 0) (b := u0) (rest := []) (wr := [(u1, aI G 7 GA), (u2, aI G 40 GN), (u3, aI G 40 BB), (u4, aI G 7 HP)]) hC hK hP hD hS hA (c_X0_keepTried l G H.size u0 u1 u2 u3 u4 u5 u6 f0 gr cn cg cb TR CH ct bi gn) mv_X0_keepTried tw_404 [0, 5, 6] [1, 2, 3, 4] rfl rfl rfl rfl (by decide) rfl rfl rfl rfl hl.1 rfl (Nat.le_of_ble_eq_true rfl) ⟨rfl, rfl, Nat.le_of_ble_eq_true rfl, Nat.le_of_ble_eq_true rfl⟩ ⟨Nat.le_of_ble_eq_true rfl, Nat.le_of_ble_eq_true rfl⟩ dX0_tryGroup_44 (fun u H locs hw hP hD hS => ?_)
          have hP : va_P G.1 vwCl [(u1, aI G 7 GA), (u2, aI G 40 GN), (u3, aI G 40 BB), (u4, aI G 7 HP), (u0, ob 0 [.ref f0, vI gr, .ref u1, .ref u2, .ref u3, .ref u4, .ref u5, .ref u6, vI ct, vI gn, vI bi]), (u5, aI G 6 TR), (u6, aI G 6 (zcpy TR CH 6))] H := hP
          have hD : va_D A [(u1, aI G 7 GA), (u2, aI G 40 GN), (u3, aI G 40 BB), (u4, aI G 7 HP), (u0, ob 0 [.ref f0, vI gr, .ref u1, .ref u2, .ref u3, .ref u4, .ref u5, .ref u6, vI ct, vI gn, vI bi]), (u5, aI G 6 TR), (u6, aI G 6 (zcpy TR CH 6))] := hD
          have hw_3 := hw
          clear hw_3
          exact z_vretW hC hr hlk ⟨ct, gn, bi, TR, zcpy TR CH 6⟩ hAe hP hD hS [4, 0, 1, 2, 3, 5, 6] (by decide) rfl rfl (⟨by rw [show (gr - 0).toNat = 0 by omega]; rw [show btZ GA (fun k => gnZ (K k)) (fun k => kBits (K k)) 0 0 ps bi gn cu = (gn, ps, bi) from if_pos (by have h9 := hhp.1; rw [show gr = 0 by omega] at h9; omega)]; exact rpH_keep hps (by omega), fun j hj => rfl⟩) dX0_tryGroup_47
      · exact z_vretW hC hr hlk ⟨cn, cg, cb, TR, CH⟩ hAe hP hD hS [0, 1, 2, 3, 4, 5, 6] (by decide) rfl rfl (⟨by rw [btZ_prune (hpJ_I hhp) (gr - 0).toNat 0 ps bi gn cu (by decide) (by omega) (by omega)]; exact hrp, fun j hj => rfl⟩) dX0_tryGroup_30
