/-! the model's found files -/
theorem key_of {RW : Int → Int} {n x : Int} (h : ∀ k : Int, 0 ≤ k ∧ k < n → 0 ≤ RW k ∧ RW k < 24) (hn : 1 ≤ n ∧ n ≤ 5) (hx : 0 ≤ x ∧ x < 8) : clK (kyZ RW n x) ∧ kSz (kyZ RW n x) = n ∧ kyZ RW n x % 8 = x ∧ ∀ j : Int, 0 ≤ j ∧ j < n → kBl (kyZ RW n x) j = RW j := by
  obtain ⟨e, b⟩ := kyZ_num (F := RW) (n := n) (mm := x) (fun k hk => by have := h k hk; omega) hx
  generalize kyZ RW n x = y at e b
  have hB : ∀ j : Int, 0 ≤ j → 0 ≤ blB RW n j ∧ blB RW n j < 32 := fun j hj => by
    unfold blB
    split
    · have := h j (by omega); omega
    · omega
  have b0 := hB 0 (by omega)
  have b1 := hB 1 (by omega)
  have b2 := hB 2 (by omega)
  have b3 := hB 3 (by omega)
  have b4 := hB 4 (by omega)
  have e0 : kBl y 0 = y / 8388608 % 32 - 1 := rfl
  have e1 : kBl y 1 = y / 262144 % 32 - 1 := rfl
  have e2 : kBl y 2 = y / 8192 % 32 - 1 := rfl
  have e3 : kBl y 3 = y / 256 % 32 - 1 := rfl
  have e4 : kBl y 4 = y / 8 % 32 - 1 := rfl
  have hd : ∀ j : Int, 0 ≤ j ∧ j < 5 → kBl y j = blB RW n j - 1 := fun j hj => by
    rcases (show j = 0 ∨ j = 1 ∨ j = 2 ∨ j = 3 ∨ j = 4 by omega) with q | q | q | q | q <;> subst q <;> omega
  have hlo : ∀ j : Int, 0 ≤ j ∧ j < n → kBl y j = RW j := fun j hj => by
    rw [hd j (by omega)]
    unfold blB
    rw [if_pos (by omega)]
    omega
  have hhi : ∀ j : Int, n ≤ j ∧ j < 5 → kBl y j = -1 := fun j hj => by
    rw [hd j (by omega)]
    unfold blB
    rw [if_neg (by omega)]
    omega
  have hs : kSz y = n := (kSz_is (by omega) (fun j hj => by rw [hlo j hj]; have := h j hj; omega) (fun q => hhi n (by omega))).symm
  exact ⟨⟨b, by omega, fun k hk => hhi k (by omega)⟩, hs, by omega, hlo⟩
/-- the model's entry f is the file with key x, on the disk dk -/
def enF (FM FN FR FD : Int → Int) (dk : Int → Int64) (f x : Int) : Prop := clK x ∧ FM f = x % 8 ∧ FN f = kSz x ∧ (∀ k : Int, 0 ≤ k ∧ k < kSz x → FR (5 * f + k) = kBl x k) ∧ txR dk (kBl x) 2 ≤ 36 ∧ ∀ i : Int, 0 ≤ i ∧ i ≤ txR dk (kBl x) 2 → FD (37 * f + i) = txR dk (kBl x) (2 + i)
theorem enF_cp {FM FN FR FD : Int → Int} {dk : Int → Int64} {u t x : Int} (h : enF FM FN FR FD dk u x) : enF (zup FM t (FM u)) (zup FN t (FN u)) (cpP FR 5 u t 5) (cpP FD 37 u t 37) dk t x := by
  obtain ⟨h1, h2, h3, h4, h5, h6⟩ := h
  have hs := kSz_bd x
  refine ⟨h1, by rw [zup_s]; exact h2, by rw [zup_s]; exact h3, fun k hk => ?_, h5, fun i hi => ?_⟩
  · unfold cpP
    rw [if_pos (by omega), show 5 * t + k - 5 * t + 5 * u = 5 * u + k by omega]
    exact h4 k hk
  · unfold cpP
    rw [if_pos (by omega), show 37 * t + i - 37 * t + 37 * u = 37 * u + i by omega]
    exact h6 i hi
theorem enF_cg {FM FN FR FD FM' FN' FR' FD' : Int → Int} {dk : Int → Int64} {f t x : Int} (h : enF FM FN FR FD dk f x) (hn : f ≠ t) (e1 : FM' f = FM f) (e2 : FN' f = FN f) (e3 : ∀ j : Int, j < 5 * t ∨ 5 * t + 5 ≤ j → FR' j = FR j) (e4 : ∀ j : Int, j < 37 * t ∨ 37 * t + 37 ≤ j → FD' j = FD j) : enF FM' FN' FR' FD' dk f x := by
  obtain ⟨h1, h2, h3, h4, h5, h6⟩ := h
  have hs := kSz_bd x
  exact ⟨h1, by rw [e1]; exact h2, by rw [e2]; exact h3, fun k hk => by rw [e3 _ (by omega)]; exact h4 k hk, h5, fun i hi => by rw [e4 _ (by omega)]; exact h6 i hi⟩
theorem cpP_o {F : Int → Int} {w u t k j : Int} (h : j < w * t ∨ w * t + k ≤ j) : cpP F w u t k j = F j := if_neg (by omega)
def rpM (FM FN FR FD : Int → Int) (dk : Int → Int64) (fi : Int) (S : List Int) : Prop := S.Pairwise (· ≤ ·) ∧ (S.length ≤ 41 → fi = (S.length : Int) ∧ ∀ f : Int, 0 ≤ f ∧ f < fi → enF FM FN FR FD dk f (S.getD f.toNat 0)) ∧ (41 < S.length → fi = 41)
theorem rpM_full {FM FN FR FD : Int → Int} {dk : Int → Int64} {fi x : Int} {S : List Int} (h : rpM FM FN FR FD dk fi S) (hf : fi = 41) : rpM FM FN FR FD dk fi (insS x S) := by
  obtain ⟨h1, h2, h3⟩ := h
  refine ⟨insS_sorted x S h1, fun q => ?_, fun _ => hf⟩
  rw [insS_len] at q
  have := (h2 (by omega)).1
  omega
theorem rpM_add {FM FN FR FD FM' FN' FR' FD' : Int → Int} {dk : Int → Int64} {fi t x : Int} {S : List Int} (h : rpM FM FN FR FD dk fi S) (hf : fi ≤ 40) (ht : 0 ≤ t ∧ t ≤ fi) (hE1 : ∀ f : Int, 0 ≤ f ∧ f < t → enF FM' FN' FR' FD' dk f (S.getD f.toNat 0)) (hE2 : ∀ f : Int, t < f ∧ f ≤ fi → enF FM' FN' FR' FD' dk f (S.getD (f - 1).toNat 0)) (hE3 : enF FM' FN' FR' FD' dk t x) (hK : ∀ j : Int, t ≤ j ∧ j < fi → x < S.getD j.toNat 0) (hp : t = 0 ∨ S.getD (t - 1).toNat 0 ≤ x) : rpM FM' FN' FR' FD' dk (fi + 1) (insS x S) := by
  obtain ⟨h1, h2, h3⟩ := h
  have hlen : S.length ≤ 41 := by
    rcases Nat.lt_or_ge 41 S.length with q | q
    · have := h3 q; omega
    · exact q
  obtain ⟨e1, -⟩ := h2 hlen
  have hat := insS_at x S t.toNat (by omega) (fun j hj => by
    rcases hp with q | q
    · omega
    · exact Int.le_trans (sorted_get S h1 j (t - 1).toNat (by omega) (by omega)) q) (fun j hj => by
    have := hK (j : Int) (by omega)
    rwa [Int.toNat_natCast] at this)
  refine ⟨insS_sorted x S h1, fun _ => ⟨by rw [insS_len]; omega, fun f hf2 => ?_⟩, fun q => ?_⟩
  · rw [hat f.toNat]
    rcases (show f < t ∨ f = t ∨ t < f by omega) with q | q | q
    · rw [if_pos (by omega)]; exact hE1 f (by omega)
    · rw [if_neg (by omega), if_pos (by omega), q]; exact hE3
    · rw [if_neg (by omega), if_neg (by omega), show f.toNat - 1 = (f - 1).toNat by omega]; exact hE2 f (by omega)
  · rw [insS_len] at q; omega
theorem mv_X7_copy : zMV yX7_copy cX7_copy 4 none RX7 2 := ⟨tw_991, tw_990, tw_27, tw_41, by decide +kernel⟩
theorem mv_X7_isAhead : zMV yX7_isAhead cX7_isAhead 5 (some .boolean) RX7 3 := ⟨tw_987, tw_986, tw_26, tw_41, by decide +kernel⟩
set_option maxRecDepth 100000 in
set_option maxHeartbeats 4000000 in
theorem c_X7_found (l : Launch) (G : zGt) (sz : Nat) (o0 : Nat) (a : Nat → Nat) (th mk bl hm rc lk lg kp fi lo wt gr eb ec ef iv : Int) (TX : Int → Int) (RW : Int → Int) (FM : Int → Int) (FN : Int → Int) (FR : Int → Int) (FD : Int → Int) (x y : Int) (dk : Int → Int64) (S : List Int) (hx : 0 ≤ x ∧ x < 6) (hy : 1 ≤ y ∧ y ≤ 5) (hfi : 0 ≤ fi ∧ fi ≤ 41) (hrw : ∀ k : Int, 0 ≤ k ∧ k < y → 0 ≤ RW k ∧ RW k < 24) (htx : ∀ j : Int, 0 ≤ j ∧ j < 8 * y → TX j = txR dk RW j) (ht2 : 0 ≤ TX 2 ∧ TX 2 ≤ 36 ∧ 3 + TX 2 < 8 * y) (hrp : rpM FM FN FR FD dk fi S) : Met l yX7_found (Cond.code yX7_found cX7_found 5 none :: tb) ({ frames := 1, cells := 0, slots := 0, locals := 24 } : Room) (zPw G [(o0, ob 7 [vI th, .ref (a 1), .ref (a 2), .ref (a 3), .ref (a 4), .ref (a 5), vI mk, .ref (a 7), .ref (a 8), vI bl, .ref (a 10), vI hm, vI rc, .ref (a 13), .ref (a 14), .ref (a 15), vI lk, vI lg, vI kp, vI fi, vI lo, vI wt, .ref (a 22), .ref (a 23), .ref (a 24), .ref (a 25), .ref (a 26), vI gr, .ref (a 28), .ref (a 29), vI eb, vI ec, vI ef, vI iv]), ((a 13), aI G 40 TX), ((a 14), aI G 5 RW), ((a 22), aI G 41 FM), ((a 23), aI G 41 FN), ((a 24), aI G 205 FR), ((a 25), aI G 1517 FD)] sz [.ref o0, vI x, vI y]) (va_Qv (fun u : Int × (Int → Int) × (Int → Int) × (Int → Int) × (Int → Int) => (0 ≤ u.1 ∧ u.1 ≤ 41) ∧ rpM u.2.1 u.2.2.1 u.2.2.2.1 u.2.2.2.2 dk u.1 (insS (kyZ RW y x) S)) (fun (u : Int × (Int → Int) × (Int → Int) × (Int → Int) × (Int → Int)) t => zB G [(o0, ob 7 [vI th, .ref (a 1), .ref (a 2), .ref (a 3), .ref (a 4), .ref (a 5), vI mk, .ref (a 7), .ref (a 8), vI bl, .ref (a 10), vI hm, vI rc, .ref (a 13), .ref (a 14), .ref (a 15), vI lk, vI lg, vI kp, vI fi, vI lo, vI wt, .ref (a 22), .ref (a 23), .ref (a 24), .ref (a 25), .ref (a 26), vI gr, .ref (a 28), .ref (a 29), vI eb, vI ec, vI ef, vI iv]), ((a 13), aI G 40 TX), ((a 14), aI G 5 RW), ((a 22), aI G 41 FM), ((a 23), aI G 41 FN), ((a 24), aI G 205 FR), ((a 25), aI G 1517 FD)] sz [(o0, ob 7 [vI th, .ref (a 1), .ref (a 2), .ref (a 3), .ref (a 4), .ref (a 5), vI mk, .ref (a 7), .ref (a 8), vI bl, .ref (a 10), vI hm, vI rc, .ref (a 13), .ref (a 14), .ref (a 15), vI lk, vI lg, vI kp, vI u.1, vI lo, vI wt, .ref (a 22), .ref (a 23), .ref (a 24), .ref (a 25), .ref (a 26), vI gr, .ref (a 28), .ref (a 29), vI eb, vI ec, vI ef, vI iv]), ((a 13), aI G 40 TX), ((a 14), aI G 5 RW), ((a 22), aI G 41 u.2.1), ((a 23), aI G 41 u.2.2.1), ((a 24), aI G 205 u.2.2.2.1), ((a 25), aI G 1517 u.2.2.2.2)] t) (va_A [(o0, ob 7 [vI th, .ref (a 1), .ref (a 2), .ref (a 3), .ref (a 4), .ref (a 5), vI mk, .ref (a 7), .ref (a 8), vI bl, .ref (a 10), vI hm, vI rc, .ref (a 13), .ref (a 14), .ref (a 15), vI lk, vI lg, vI kp, vI fi, vI lo, vI wt, .ref (a 22), .ref (a 23), .ref (a 24), .ref (a 25), .ref (a 26), vI gr, .ref (a 28), .ref (a 29), vI eb, vI ec, vI ef, vI iv]), ((a 13), aI G 40 TX), ((a 14), aI G 5 RW), ((a 22), aI G 41 FM), ((a 23), aI G 41 FN), ((a 24), aI G 205 FR), ((a 25), aI G 1517 FD)] sz)) 0 0 (va_A [(o0, ob 7 [vI th, .ref (a 1), .ref (a 2), .ref (a 3), .ref (a 4), .ref (a 5), vI mk, .ref (a 7), .ref (a 8), vI bl, .ref (a 10), vI hm, vI rc, .ref (a 13), .ref (a 14), .ref (a 15), vI lk, vI lg, vI kp, vI fi, vI lo, vI wt, .ref (a 22), .ref (a 23), .ref (a 24), .ref (a 25), .ref (a 26), vI gr, .ref (a 28), .ref (a 29), vI eb, vI ec, vI ef, vI iv]), ((a 13), aI G 40 TX), ((a 14), aI G 5 RW), ((a 22), aI G 41 FM), ((a 23), aI G 41 FN), ((a 24), aI G 205 FR), ((a 25), aI G 1517 FD)] sz) := by
  refine Met.ofW (cc := cX7_found) (maxL := 5) (ret := none) (by decide) rfl ?_
  intro p e s m args below meth c s₁ B hml hv
  obtain ⟨rfl, hsz, hP, hK, hD0⟩ := hv
  subst hsz
  have hD := hD0.self (sz := s.heap.size)
  obtain ⟨A, hAe⟩ : ∃ A : Nat → Prop, A = va_A [(o0, ob 7 [vI th, .ref (a 1), .ref (a 2), .ref (a 3), .ref (a 4), .ref (a 5), vI mk, .ref (a 7), .ref (a 8), vI bl, .ref (a 10), vI hm, vI rc, .ref (a 13), .ref (a 14), .ref (a 15), vI lk, vI lg, vI kp, vI fi, vI lo, vI wt, .ref (a 22), .ref (a 23), .ref (a 24), .ref (a 25), .ref (a 26), vI gr, .ref (a 28), .ref (a 29), vI eb, vI ec, vI ef, vI iv]), ((a 13), aI G 40 TX), ((a 14), aI G 5 RW), ((a 22), aI G 41 FM), ((a 23), aI G 41 FN), ((a 24), aI G 205 FR), ((a 25), aI G 1517 FD)] s.heap.size := ⟨_, rfl⟩
  rw [← hAe] at hD
  have hA : ∀ q : Nat, s.heap.size ≤ q → A q := fun q h => by rw [hAe]; exact Or.inr h
  have hS : va_S A s.heap s.heap [] := va_S.rf
  obtain ⟨hC, hr, hlk⟩ := z_begin B hml
  have hC : CallFix p m c cX7_found 5 s _ tb RX7 := hC
  have hx := hC.1
  have hb := hC.2.1
  have hl := lv_entry ([.ref o0, vI x, vI y]) (n := 5) (Nat.le_of_ble_eq_true rfl)
  rw [lg_entry_eq]
  generalize (lg_sl ([.ref o0, vI x, vI y]) ++ List.replicate (5 - (lg_sl ([.ref o0, vI x, vI y])).length) Slot.unset).toArray = ls at hl ⊢
  have hl : lv_has ls 5 [(0, .ref o0), (1, vI x), (2, vI y)] := hl
  obtain ⟨H, hHe⟩ : ∃ H : Heap, H = s.heap := ⟨_, rfl⟩
  obtain ⟨locs, hLe⟩ : ∃ L : List Loc, L = [] := ⟨_, rfl⟩
  suffices hgo : W p l e (headSpec (Cond.code yX7_found cX7_found 5 none :: tb) ({ frames := 1, cells := 0, slots := 0, locals := 24 } : Room)).room s m ([.ref o0, vI x, vI y] : List Value).toArray below meth c H locs 0 0 (MQ below (va_Qv (fun u : Int × (Int → Int) × (Int → Int) × (Int → Int) × (Int → Int) => (0 ≤ u.1 ∧ u.1 ≤ 41) ∧ rpM u.2.1 u.2.2.1 u.2.2.2.1 u.2.2.2.2 dk u.1 (insS (kyZ RW y x) S)) (fun (u : Int × (Int → Int) × (Int → Int) × (Int → Int) × (Int → Int)) t => zB G [(o0, ob 7 [vI th, .ref (a 1), .ref (a 2), .ref (a 3), .ref (a 4), .ref (a 5), vI mk, .ref (a 7), .ref (a 8), vI bl, .ref (a 10), vI hm, vI rc, .ref (a 13), .ref (a 14), .ref (a 15), vI lk, vI lg, vI kp, vI fi, vI lo, vI wt, .ref (a 22), .ref (a 23), .ref (a 24), .ref (a 25), .ref (a 26), vI gr, .ref (a 28), .ref (a 29), vI eb, vI ec, vI ef, vI iv]), ((a 13), aI G 40 TX), ((a 14), aI G 5 RW), ((a 22), aI G 41 FM), ((a 23), aI G 41 FN), ((a 24), aI G 205 FR), ((a 25), aI G 1517 FD)] s.heap.size [(o0, ob 7 [vI th, .ref (a 1), .ref (a 2), .ref (a 3), .ref (a 4), .ref (a 5), vI mk, .ref (a 7), .ref (a 8), vI bl, .ref (a 10), vI hm, vI rc, .ref (a 13), .ref (a 14), .ref (a 15), vI lk, vI lg, vI kp, vI u.1, vI lo, vI wt, .ref (a 22), .ref (a 23), .ref (a 24), .ref (a 25), .ref (a 26), vI gr, .ref (a 28), .ref (a 29), vI eb, vI ec, vI ef, vI iv]), ((a 13), aI G 40 TX), ((a 14), aI G 5 RW), ((a 22), aI G 41 u.2.1), ((a 23), aI G 41 u.2.2.1), ((a 24), aI G 205 u.2.2.2.1), ((a 25), aI G 1517 u.2.2.2.2)] t) (va_A [(o0, ob 7 [vI th, .ref (a 1), .ref (a 2), .ref (a 3), .ref (a 4), .ref (a 5), vI mk, .ref (a 7), .ref (a 8), vI bl, .ref (a 10), vI hm, vI rc, .ref (a 13), .ref (a 14), .ref (a 15), vI lk, vI lg, vI kp, vI fi, vI lo, vI wt, .ref (a 22), .ref (a 23), .ref (a 24), .ref (a 25), .ref (a 26), vI gr, .ref (a 28), .ref (a 29), vI eb, vI ec, vI ef, vI iv]), ((a 13), aI G 40 TX), ((a 14), aI G 5 RW), ((a 22), aI G 41 FM), ((a 23), aI G 41 FN), ((a 24), aI G 205 FR), ((a 25), aI G 1517 FD)] s.heap.size)) ([.ref o0, vI x, vI y] : List Value).toArray s 0 0 (va_A [(o0, ob 7 [vI th, .ref (a 1), .ref (a 2), .ref (a 3), .ref (a 4), .ref (a 5), vI mk, .ref (a 7), .ref (a 8), vI bl, .ref (a 10), vI hm, vI rc, .ref (a 13), .ref (a 14), .ref (a 15), vI lk, vI lg, vI kp, vI fi, vI lo, vI wt, .ref (a 22), .ref (a 23), .ref (a 24), .ref (a 25), .ref (a 26), vI gr, .ref (a 28), .ref (a 29), vI eb, vI ec, vI ef, vI iv]), ((a 13), aI G 40 TX), ((a 14), aI G 5 RW), ((a 22), aI G 41 FM), ((a 23), aI G 41 FN), ((a 24), aI G 205 FR), ((a 25), aI G 1517 FD)] s.heap.size)) (F0 m 0 ls []) by rw [hHe, hLe] at hgo; exact hgo
  rw [← hHe] at hP
  have hS : va_S A s.heap H locs := by rw [hHe, hLe]; exact hS
  clear hHe hLe
  obtain ⟨hcl, hks, hkm, hkb⟩ := key_of hrw hy (show 0 ≤ x ∧ x < 8 by omega)
  refine lv_aload_n hx hb dX7_found_0 rfl (lv_at hl 0 rfl) ?_
  refine z_get (v := vI fi) hC hK hP inX7 rfl 0 rfl 19 (by decide) tw_811 rfl dX7_found_1 ?_
  refine lv_bipush (v := iI 40) hx hb dX7_found_4 (by decide) ?_
  refine z_icmp_le (tgt := 10) hx hb dX7_found_6 (by decide) (by omega) (fun c_6 => ?_) (fun c_6 => ?_)
  · have hsl : S.length ≤ 41 := by rcases Nat.lt_or_ge 41 S.length with q | q; have := hrp.2.2 q; omega; exact q
    obtain ⟨hfl, hfe⟩ := hrp.2.1 hsl
    refine lv_aload_n hx hb dX7_found_10 rfl (lv_at hl 0 rfl) ?_
    refine z_get (v := vI fi) hC hK hP inX7 rfl 0 rfl 19 (by decide) tw_811 rfl dX7_found_11 ?_
    refine lv_istore_n (lv' := [(3, vI fi), (0, .ref o0), (1, vI x), (2, vI y)]) hx hb dX7_found_14 rfl hl (by decide) rfl (fun ls hl => ?_)
    have cut_15 : ∀ (n_ : Nat) (qa : Int) (qM : Int → Int) (qN : Int → Int) (qR : Int → Int) (qD : Int → Int) (H : Heap) (locs : List Loc) (ls : Array Slot), va_P G.1 vwCl [(o0, ob 7 [vI th, .ref (a 1), .ref (a 2), .ref (a 3), .ref (a 4), .ref (a 5), vI mk, .ref (a 7), .ref (a 8), vI bl, .ref (a 10), vI hm, vI rc, .ref (a 13), .ref (a 14), .ref (a 15), vI lk, vI lg, vI kp, vI fi, vI lo, vI wt, .ref (a 22), .ref (a 23), .ref (a 24), .ref (a 25), .ref (a 26), vI gr, .ref (a 28), .ref (a 29), vI eb, vI ec, vI ef, vI iv]), ((a 13), aI G 40 TX), ((a 14), aI G 5 RW), ((a 22), aI G 41 qM), ((a 23), aI G 41 qN), ((a 24), aI G 205 qR), ((a 25), aI G 1517 qD)] H → va_D A [(o0, ob 7 [vI th, .ref (a 1), .ref (a 2), .ref (a 3), .ref (a 4), .ref (a 5), vI mk, .ref (a 7), .ref (a 8), vI bl, .ref (a 10), vI hm, vI rc, .ref (a 13), .ref (a 14), .ref (a 15), vI lk, vI lg, vI kp, vI fi, vI lo, vI wt, .ref (a 22), .ref (a 23), .ref (a 24), .ref (a 25), .ref (a 26), vI gr, .ref (a 28), .ref (a 29), vI eb, vI ec, vI ef, vI iv]), ((a 13), aI G 40 TX), ((a 14), aI G 5 RW), ((a 22), aI G 41 qM), ((a 23), aI G 41 qN), ((a 24), aI G 205 qR), ((a 25), aI G 1517 qD)] → va_S A s.heap H locs → lv_has ls 5 [(0, .ref o0), (1, vI x), (2, vI y), (3, vI qa)] → (0 ≤ qa ∧ qa ≤ fi) → (∀ f : Int, 0 ≤ f ∧ f < qa → enF qM qN qR qD dk f (S.getD f.toNat 0)) → (∀ f : Int, qa < f ∧ f ≤ fi → enF qM qN qR qD dk f (S.getD (f - 1).toNat 0)) → (∀ j : Int, qa ≤ j ∧ j < fi → kyZ RW y x < S.getD j.toNat 0) → qa.toNat < n_ → W p l e (headSpec (Cond.code yX7_found cX7_found 5 none :: tb) ({ frames := 1, cells := 0, slots := 0, locals := 24 } : Room)).room s m ([.ref o0, vI x, vI y] : List Value).toArray below meth c H locs 0 0 (MQ below (va_Qv (fun u : Int × (Int → Int) × (Int → Int) × (Int → Int) × (Int → Int) => (0 ≤ u.1 ∧ u.1 ≤ 41) ∧ rpM u.2.1 u.2.2.1 u.2.2.2.1 u.2.2.2.2 dk u.1 (insS (kyZ RW y x) S)) (fun (u : Int × (Int → Int) × (Int → Int) × (Int → Int) × (Int → Int)) t => zB G [(o0, ob 7 [vI th, .ref (a 1), .ref (a 2), .ref (a 3), .ref (a 4), .ref (a 5), vI mk, .ref (a 7), .ref (a 8), vI bl, .ref (a 10), vI hm, vI rc, .ref (a 13), .ref (a 14), .ref (a 15), vI lk, vI lg, vI kp, vI fi, vI lo, vI wt, .ref (a 22), .ref (a 23), .ref (a 24), .ref (a 25), .ref (a 26), vI gr, .ref (a 28), .ref (a 29), vI eb, vI ec, vI ef, vI iv]), ((a 13), aI G 40 TX), ((a 14), aI G 5 RW), ((a 22), aI G 41 FM), ((a 23), aI G 41 FN), ((a 24), aI G 205 FR), ((a 25), aI G 1517 FD)] s.heap.size [(o0, ob 7 [vI th, .ref (a 1), .ref (a 2), .ref (a 3), .ref (a 4), .ref (a 5), vI mk, .ref (a 7), .ref (a 8), vI bl, .ref (a 10), vI hm, vI rc, .ref (a 13), .ref (a 14), .ref (a 15), vI lk, vI lg, vI kp, vI u.1, vI lo, vI wt, .ref (a 22), .ref (a 23), .ref (a 24), .ref (a 25), .ref (a 26), vI gr, .ref (a 28), .ref (a 29), vI eb, vI ec, vI ef, vI iv]), ((a 13), aI G 40 TX), ((a 14), aI G 5 RW), ((a 22), aI G 41 u.2.1), ((a 23), aI G 41 u.2.2.1), ((a 24), aI G 205 u.2.2.2.1), ((a 25), aI G 1517 u.2.2.2.2)] t) (va_A [(o0, ob 7 [vI th, .ref (a 1), .ref (a 2), .ref (a 3), .ref (a 4), .ref (a 5), vI mk, .ref (a 7), .ref (a 8), vI bl, .ref (a 10), vI hm, vI rc, .ref (a 13), .ref (a 14), .ref (a 15), vI lk, vI lg, vI kp, vI fi, vI lo, vI wt, .ref (a 22), .ref (a 23), .ref (a 24), .ref (a 25), .ref (a 26), vI gr, .ref (a 28), .ref (a 29), vI eb, vI ec, vI ef, vI iv]), ((a 13), aI G 40 TX), ((a 14), aI G 5 RW), ((a 22), aI G 41 FM), ((a 23), aI G 41 FN), ((a 24), aI G 205 FR), ((a 25), aI G 1517 FD)] s.heap.size)) ([.ref o0, vI x, vI y] : List Value).toArray s 0 0 (va_A [(o0, ob 7 [vI th, .ref (a 1), .ref (a 2), .ref (a 3), .ref (a 4), .ref (a 5), vI mk, .ref (a 7), .ref (a 8), vI bl, .ref (a 10), vI hm, vI rc, .ref (a 13), .ref (a 14), .ref (a 15), vI lk, vI lg, vI kp, vI fi, vI lo, vI wt, .ref (a 22), .ref (a 23), .ref (a 24), .ref (a 25), .ref (a 26), vI gr, .ref (a 28), .ref (a 29), vI eb, vI ec, vI ef, vI iv]), ((a 13), aI G 40 TX), ((a 14), aI G 5 RW), ((a 22), aI G 41 FM), ((a 23), aI G 41 FN), ((a 24), aI G 205 FR), ((a 25), aI G 1517 FD)] s.heap.size)) (F0 m 15 ls []) := by
      intro n_
      induction n_ with
      | zero => exact fun qa qM qN qR qD H locs ls hP hD hS hl hqa hqE1 hqE2 hqK hm_ => absurd hm_ (Nat.not_lt_zero _)
      | succ n_ ih_15 =>
        intro qa qM qN qR qD H locs ls hP hD hS hl hqa hqE1 hqE2 hqK hm_
        have cut_45 : ∀  (H : Heap) (locs : List Loc) (ls : Array Slot), va_P G.1 vwCl [(o0, ob 7 [vI th, .ref (a 1), .ref (a 2), .ref (a 3), .ref (a 4), .ref (a 5), vI mk, .ref (a 7), .ref (a 8), vI bl, .ref (a 10), vI hm, vI rc, .ref (a 13), .ref (a 14), .ref (a 15), vI lk, vI lg, vI kp, vI fi, vI lo, vI wt, .ref (a 22), .ref (a 23), .ref (a 24), .ref (a 25), .ref (a 26), vI gr, .ref (a 28), .ref (a 29), vI eb, vI ec, vI ef, vI iv]), ((a 13), aI G 40 TX), ((a 14), aI G 5 RW), ((a 22), aI G 41 qM), ((a 23), aI G 41 qN), ((a 24), aI G 205 qR), ((a 25), aI G 1517 qD)] H → va_D A [(o0, ob 7 [vI th, .ref (a 1), .ref (a 2), .ref (a 3), .ref (a 4), .ref (a 5), vI mk, .ref (a 7), .ref (a 8), vI bl, .ref (a 10), vI hm, vI rc, .ref (a 13), .ref (a 14), .ref (a 15), vI lk, vI lg, vI kp, vI fi, vI lo, vI wt, .ref (a 22), .ref (a 23), .ref (a 24), .ref (a 25), .ref (a 26), vI gr, .ref (a 28), .ref (a 29), vI eb, vI ec, vI ef, vI iv]), ((a 13), aI G 40 TX), ((a 14), aI G 5 RW), ((a 22), aI G 41 qM), ((a 23), aI G 41 qN), ((a 24), aI G 205 qR), ((a 25), aI G 1517 qD)] → va_S A s.heap H locs → lv_has ls 5 [(0, .ref o0), (1, vI x), (2, vI y), (3, vI qa)] → (qa = 0 ∨ S.getD (qa - 1).toNat 0 ≤ kyZ RW y x) → W p l e (headSpec (Cond.code yX7_found cX7_found 5 none :: tb) ({ frames := 1, cells := 0, slots := 0, locals := 24 } : Room)).room s m ([.ref o0, vI x, vI y] : List Value).toArray below meth c H locs 0 0 (MQ below (va_Qv (fun u : Int × (Int → Int) × (Int → Int) × (Int → Int) × (Int → Int) => (0 ≤ u.1 ∧ u.1 ≤ 41) ∧ rpM u.2.1 u.2.2.1 u.2.2.2.1 u.2.2.2.2 dk u.1 (insS (kyZ RW y x) S)) (fun (u : Int × (Int → Int) × (Int → Int) × (Int → Int) × (Int → Int)) t => zB G [(o0, ob 7 [vI th, .ref (a 1), .ref (a 2), .ref (a 3), .ref (a 4), .ref (a 5), vI mk, .ref (a 7), .ref (a 8), vI bl, .ref (a 10), vI hm, vI rc, .ref (a 13), .ref (a 14), .ref (a 15), vI lk, vI lg, vI kp, vI fi, vI lo, vI wt, .ref (a 22), .ref (a 23), .ref (a 24), .ref (a 25), .ref (a 26), vI gr, .ref (a 28), .ref (a 29), vI eb, vI ec, vI ef, vI iv]), ((a 13), aI G 40 TX), ((a 14), aI G 5 RW), ((a 22), aI G 41 FM), ((a 23), aI G 41 FN), ((a 24), aI G 205 FR), ((a 25), aI G 1517 FD)] s.heap.size [(o0, ob 7 [vI th, .ref (a 1), .ref (a 2), .ref (a 3), .ref (a 4), .ref (a 5), vI mk, .ref (a 7), .ref (a 8), vI bl, .ref (a 10), vI hm, vI rc, .ref (a 13), .ref (a 14), .ref (a 15), vI lk, vI lg, vI kp, vI u.1, vI lo, vI wt, .ref (a 22), .ref (a 23), .ref (a 24), .ref (a 25), .ref (a 26), vI gr, .ref (a 28), .ref (a 29), vI eb, vI ec, vI ef, vI iv]), ((a 13), aI G 40 TX), ((a 14), aI G 5 RW), ((a 22), aI G 41 u.2.1), ((a 23), aI G 41 u.2.2.1), ((a 24), aI G 205 u.2.2.2.1), ((a 25), aI G 1517 u.2.2.2.2)] t) (va_A [(o0, ob 7 [vI th, .ref (a 1), .ref (a 2), .ref (a 3), .ref (a 4), .ref (a 5), vI mk, .ref (a 7), .ref (a 8), vI bl, .ref (a 10), vI hm, vI rc, .ref (a 13), .ref (a 14), .ref (a 15), vI lk, vI lg, vI kp, vI fi, vI lo, vI wt, .ref (a 22), .ref (a 23), .ref (a 24), .ref (a 25), .ref (a 26), vI gr, .ref (a 28), .ref (a 29), vI eb, vI ec, vI ef, vI iv]), ((a 13), aI G 40 TX), ((a 14), aI G 5 RW), ((a 22), aI G 41 FM), ((a 23), aI G 41 FN), ((a 24), aI G 205 FR), ((a 25), aI G 1517 FD)] s.heap.size)) ([.ref o0, vI x, vI y] : List Value).toArray s 0 0 (va_A [(o0, ob 7 [vI th, .ref (a 1), .ref (a 2), .ref (a 3), .ref (a 4), .ref (a 5), vI mk, .ref (a 7), .ref (a 8), vI bl, .ref (a 10), vI hm, vI rc, .ref (a 13), .ref (a 14), .ref (a 15), vI lk, vI lg, vI kp, vI fi, vI lo, vI wt, .ref (a 22), .ref (a 23), .ref (a 24), .ref (a 25), .ref (a 26), vI gr, .ref (a 28), .ref (a 29), vI eb, vI ec, vI ef, vI iv]), ((a 13), aI G 40 TX), ((a 14), aI G 5 RW), ((a 22), aI G 41 FM), ((a 23), aI G 41 FN), ((a 24), aI G 205 FR), ((a 25), aI G 1517 FD)] s.heap.size)) (F0 m 45 ls []) := by
          intro H locs ls hP hD hS hl hpl
          refine lv_aload_n hx hb dX7_found_45 rfl (lv_at hl 0 rfl) ?_
          refine lv_dup hx hb dX7_found_46 rfl ?_
          refine z_get (v := vI fi) hC hK hP inX7 rfl 0 rfl 19 (by decide) tw_811 rfl dX7_found_47 ?_
          refine lv_iconst (v := iI 1) hx hb dX7_found_50 rfl ?_
          refine z_iadd hx hb dX7_found_51 ?_
          refine z_put (ws' := [(o0, ob 7 [vI th, .ref (a 1), .ref (a 2), .ref (a 3), .ref (a 4), .ref (a 5), vI mk, .ref (a 7), .ref (a 8), vI bl, .ref (a 10), vI hm, vI rc, .ref (a 13), .ref (a 14), .ref (a 15), vI lk, vI lg, vI kp, vI (fi + 1), vI lo, vI wt, .ref (a 22), .ref (a 23), .ref (a 24), .ref (a 25), .ref (a 26), vI gr, .ref (a 28), .ref (a 29), vI eb, vI ec, vI ef, vI iv]), ((a 13), aI G 40 TX), ((a 14), aI G 5 RW), ((a 22), aI G 41 qM), ((a 23), aI G 41 qN), ((a 24), aI G 205 qR), ((a 25), aI G 1517 qD)]) hC hK hP hD hS inX7 tyX7 tyX7_ok nmX7 rfl 0 rfl 19 (by decide) tw_811 rfl rfl rfl (Nat.le_of_ble_eq_true rfl) rfl dX7_found_52 (fun H locs hP hD hS => ?_)
          refine lv_iload_n hx hb dX7_found_55 rfl (lv_at hl 3 rfl) ?_
          refine lv_bipush (v := iI 40) hx hb dX7_found_56 (by decide) ?_
          refine z_icmp_le (tgt := 62) hx hb dX7_found_58 (by decide) (by omega) (fun c_58 => ?_) (fun c_58 => ?_)
          · refine lv_aload_n hx hb dX7_found_62 rfl (lv_at hl 0 rfl) ?_
            refine z_get (v := .ref (a 22)) hC hK hP inX7 rfl 0 rfl 22 (by decide) tw_814 rfl dX7_found_63 ?_
            refine lv_iload_n hx hb dX7_found_66 rfl (lv_at hl 3 rfl) ?_
            refine lv_iload_n hx hb dX7_found_67 rfl (lv_at hl 1 rfl) ?_
            refine z_iast (ws' := [(o0, ob 7 [vI th, .ref (a 1), .ref (a 2), .ref (a 3), .ref (a 4), .ref (a 5), vI mk, .ref (a 7), .ref (a 8), vI bl, .ref (a 10), vI hm, vI rc, .ref (a 13), .ref (a 14), .ref (a 15), vI lk, vI lg, vI kp, vI (fi + 1), vI lo, vI wt, .ref (a 22), .ref (a 23), .ref (a 24), .ref (a 25), .ref (a 26), vI gr, .ref (a 28), .ref (a 29), vI eb, vI ec, vI ef, vI iv]), ((a 13), aI G 40 TX), ((a 14), aI G 5 RW), ((a 22), aI G 41 (zup qM qa x)), ((a 23), aI G 41 qN), ((a 24), aI G 205 qR), ((a 25), aI G 1517 qD)]) hC hK hP hD hS 3 rfl (by omega) (by decide) rfl dX7_found_68 (fun H locs hP hD hS => ?_)
            refine lv_aload_n hx hb dX7_found_69 rfl (lv_at hl 0 rfl) ?_
            refine z_get (v := .ref (a 23)) hC hK hP inX7 rfl 0 rfl 23 (by decide) tw_815 rfl dX7_found_70 ?_
            refine lv_iload_n hx hb dX7_found_73 rfl (lv_at hl 3 rfl) ?_
            refine lv_iload_n hx hb dX7_found_74 rfl (lv_at hl 2 rfl) ?_
            refine z_iast (ws' := [(o0, ob 7 [vI th, .ref (a 1), .ref (a 2), .ref (a 3), .ref (a 4), .ref (a 5), vI mk, .ref (a 7), .ref (a 8), vI bl, .ref (a 10), vI hm, vI rc, .ref (a 13), .ref (a 14), .ref (a 15), vI lk, vI lg, vI kp, vI (fi + 1), vI lo, vI wt, .ref (a 22), .ref (a 23), .ref (a 24), .ref (a 25), .ref (a 26), vI gr, .ref (a 28), .ref (a 29), vI eb, vI ec, vI ef, vI iv]), ((a 13), aI G 40 TX), ((a 14), aI G 5 RW), ((a 22), aI G 41 (zup qM qa x)), ((a 23), aI G 41 (zup qN qa y)), ((a 24), aI G 205 qR), ((a 25), aI G 1517 qD)]) hC hK hP hD hS 4 rfl (by omega) (by decide) rfl dX7_found_75 (fun H locs hP hD hS => ?_)
            refine lv_iconst (v := iI 0) hx hb dX7_found_76 rfl ?_
            refine lv_istore (lv' := [(4, vI 0), (0, .ref o0), (1, vI x), (2, vI y), (3, vI qa)]) hx hb dX7_found_77 hl (by decide) rfl (fun ls hl => ?_)
            have cut_79 : ∀ (n_ : Nat) (qk : Int) (qF : Int → Int) (H : Heap) (locs : List Loc) (ls : Array Slot), va_P G.1 vwCl [(o0, ob 7 [vI th, .ref (a 1), .ref (a 2), .ref (a 3), .ref (a 4), .ref (a 5), vI mk, .ref (a 7), .ref (a 8), vI bl, .ref (a 10), vI hm, vI rc, .ref (a 13), .ref (a 14), .ref (a 15), vI lk, vI lg, vI kp, vI (fi + 1), vI lo, vI wt, .ref (a 22), .ref (a 23), .ref (a 24), .ref (a 25), .ref (a 26), vI gr, .ref (a 28), .ref (a 29), vI eb, vI ec, vI ef, vI iv]), ((a 13), aI G 40 TX), ((a 14), aI G 5 RW), ((a 22), aI G 41 (zup qM qa x)), ((a 23), aI G 41 (zup qN qa y)), ((a 24), aI G 205 qF), ((a 25), aI G 1517 qD)] H → va_D A [(o0, ob 7 [vI th, .ref (a 1), .ref (a 2), .ref (a 3), .ref (a 4), .ref (a 5), vI mk, .ref (a 7), .ref (a 8), vI bl, .ref (a 10), vI hm, vI rc, .ref (a 13), .ref (a 14), .ref (a 15), vI lk, vI lg, vI kp, vI (fi + 1), vI lo, vI wt, .ref (a 22), .ref (a 23), .ref (a 24), .ref (a 25), .ref (a 26), vI gr, .ref (a 28), .ref (a 29), vI eb, vI ec, vI ef, vI iv]), ((a 13), aI G 40 TX), ((a 14), aI G 5 RW), ((a 22), aI G 41 (zup qM qa x)), ((a 23), aI G 41 (zup qN qa y)), ((a 24), aI G 205 qF), ((a 25), aI G 1517 qD)] → va_S A s.heap H locs → lv_has ls 5 [(0, .ref o0), (1, vI x), (2, vI y), (3, vI qa), (4, vI qk)] → (0 ≤ qk ∧ qk ≤ y) → (∀ j : Int, 0 ≤ j ∧ j < qk → qF (5 * qa + j) = RW j) → (∀ j : Int, j < 5 * qa ∨ 5 * qa + 5 ≤ j → qF j = qR j) → (y - qk).toNat < n_ → W p l e (headSpec (Cond.code yX7_found cX7_found 5 none :: tb) ({ frames := 1, cells := 0, slots := 0, locals := 24 } : Room)).room s m ([.ref o0, vI x, vI y] : List Value).toArray below meth c H locs 0 0 (MQ below (va_Qv (fun u : Int × (Int → Int) × (Int → Int) × (Int → Int) × (Int → Int) => (0 ≤ u.1 ∧ u.1 ≤ 41) ∧ rpM u.2.1 u.2.2.1 u.2.2.2.1 u.2.2.2.2 dk u.1 (insS (kyZ RW y x) S)) (fun (u : Int × (Int → Int) × (Int → Int) × (Int → Int) × (Int → Int)) t => zB G [(o0, ob 7 [vI th, .ref (a 1), .ref (a 2), .ref (a 3), .ref (a 4), .ref (a 5), vI mk, .ref (a 7), .ref (a 8), vI bl, .ref (a 10), vI hm, vI rc, .ref (a 13), .ref (a 14), .ref (a 15), vI lk, vI lg, vI kp, vI fi, vI lo, vI wt, .ref (a 22), .ref (a 23), .ref (a 24), .ref (a 25), .ref (a 26), vI gr, .ref (a 28), .ref (a 29), vI eb, vI ec, vI ef, vI iv]), ((a 13), aI G 40 TX), ((a 14), aI G 5 RW), ((a 22), aI G 41 FM), ((a 23), aI G 41 FN), ((a 24), aI G 205 FR), ((a 25), aI G 1517 FD)] s.heap.size [(o0, ob 7 [vI th, .ref (a 1), .ref (a 2), .ref (a 3), .ref (a 4), .ref (a 5), vI mk, .ref (a 7), .ref (a 8), vI bl, .ref (a 10), vI hm, vI rc, .ref (a 13), .ref (a 14), .ref (a 15), vI lk, vI lg, vI kp, vI u.1, vI lo, vI wt, .ref (a 22), .ref (a 23), .ref (a 24), .ref (a 25), .ref (a 26), vI gr, .ref (a 28), .ref (a 29), vI eb, vI ec, vI ef, vI iv]), ((a 13), aI G 40 TX), ((a 14), aI G 5 RW), ((a 22), aI G 41 u.2.1), ((a 23), aI G 41 u.2.2.1), ((a 24), aI G 205 u.2.2.2.1), ((a 25), aI G 1517 u.2.2.2.2)] t) (va_A [(o0, ob 7 [vI th, .ref (a 1), .ref (a 2), .ref (a 3), .ref (a 4), .ref (a 5), vI mk, .ref (a 7), .ref (a 8), vI bl, .ref (a 10), vI hm, vI rc, .ref (a 13), .ref (a 14), .ref (a 15), vI lk, vI lg, vI kp, vI fi, vI lo, vI wt, .ref (a 22), .ref (a 23), .ref (a 24), .ref (a 25), .ref (a 26), vI gr, .ref (a 28), .ref (a 29), vI eb, vI ec, vI ef, vI iv]), ((a 13), aI G 40 TX), ((a 14), aI G 5 RW), ((a 22), aI G 41 FM), ((a 23), aI G 41 FN), ((a 24), aI G 205 FR), ((a 25), aI G 1517 FD)] s.heap.size)) ([.ref o0, vI x, vI y] : List Value).toArray s 0 0 (va_A [(o0, ob 7 [vI th, .ref (a 1), .ref (a 2), .ref (a 3), .ref (a 4), .ref (a 5), vI mk, .ref (a 7), .ref (a 8), vI bl, .ref (a 10), vI hm, vI rc, .ref (a 13), .ref (a 14), .ref (a 15), vI lk, vI lg, vI kp, vI fi, vI lo, vI wt, .ref (a 22), .ref (a 23), .ref (a 24), .ref (a 25), .ref (a 26), vI gr, .ref (a 28), .ref (a 29), vI eb, vI ec, vI ef, vI iv]), ((a 13), aI G 40 TX), ((a 14), aI G 5 RW), ((a 22), aI G 41 FM), ((a 23), aI G 41 FN), ((a 24), aI G 205 FR), ((a 25), aI G 1517 FD)] s.heap.size)) (F0 m 79 ls []) := by
              intro n_
              induction n_ with
              | zero => exact fun qk qF H locs ls hP hD hS hl hqk hqF hqO hm_ => absurd hm_ (Nat.not_lt_zero _)
              | succ n_ ih_79 =>
                intro qk qF H locs ls hP hD hS hl hqk hqF hqO hm_
                refine lv_iload hx hb dX7_found_79 (lv_at hl 4 rfl) ?_
                refine lv_iload_n hx hb dX7_found_81 rfl (lv_at hl 2 rfl) ?_
                refine z_icmp_ge (tgt := 109) hx hb dX7_found_82 (by decide) (by omega) (fun c_82 => ?_) (fun c_82 => ?_)
                · refine lv_iconst (v := iI 0) hx hb dX7_found_109 rfl ?_
                  refine lv_istore (lv' := [(4, vI 0), (0, .ref o0), (1, vI x), (2, vI y), (3, vI qa)]) hx hb dX7_found_110 hl (by decide) rfl (fun ls hl => ?_)
                  have cut_112 : ∀ (n_ : Nat) (qi : Int) (qG : Int → Int) (H : Heap) (locs : List Loc) (ls : Array Slot), va_P G.1 vwCl [(o0, ob 7 [vI th, .ref (a 1), .ref (a 2), .ref (a 3), .ref (a 4), .ref (a 5), vI mk, .ref (a 7), .ref (a 8), vI bl, .ref (a 10), vI hm, vI rc, .ref (a 13), .ref (a 14), .ref (a 15), vI lk, vI lg, vI kp, vI (fi + 1), vI lo, vI wt, .ref (a 22), .ref (a 23), .ref (a 24), .ref (a 25), .ref (a 26), vI gr, .ref (a 28), .ref (a 29), vI eb, vI ec, vI ef, vI iv]), ((a 13), aI G 40 TX), ((a 14), aI G 5 RW), ((a 22), aI G 41 (zup qM qa x)), ((a 23), aI G 41 (zup qN qa y)), ((a 24), aI G 205 qF), ((a 25), aI G 1517 qG)] H → va_D A [(o0, ob 7 [vI th, .ref (a 1), .ref (a 2), .ref (a 3), .ref (a 4), .ref (a 5), vI mk, .ref (a 7), .ref (a 8), vI bl, .ref (a 10), vI hm, vI rc, .ref (a 13), .ref (a 14), .ref (a 15), vI lk, vI lg, vI kp, vI (fi + 1), vI lo, vI wt, .ref (a 22), .ref (a 23), .ref (a 24), .ref (a 25), .ref (a 26), vI gr, .ref (a 28), .ref (a 29), vI eb, vI ec, vI ef, vI iv]), ((a 13), aI G 40 TX), ((a 14), aI G 5 RW), ((a 22), aI G 41 (zup qM qa x)), ((a 23), aI G 41 (zup qN qa y)), ((a 24), aI G 205 qF), ((a 25), aI G 1517 qG)] → va_S A s.heap H locs → lv_has ls 5 [(0, .ref o0), (1, vI x), (2, vI y), (3, vI qa), (4, vI qi)] → (0 ≤ qi ∧ qi ≤ TX 2 + 1) → (∀ j : Int, 0 ≤ j ∧ j < qi → qG (37 * qa + j) = TX (2 + j)) → (∀ j : Int, j < 37 * qa ∨ 37 * qa + 37 ≤ j → qG j = qD j) → (TX 2 + 1 - qi).toNat < n_ → W p l e (headSpec (Cond.code yX7_found cX7_found 5 none :: tb) ({ frames := 1, cells := 0, slots := 0, locals := 24 } : Room)).room s m ([.ref o0, vI x, vI y] : List Value).toArray below meth c H locs 0 0 (MQ below (va_Qv (fun u : Int × (Int → Int) × (Int → Int) × (Int → Int) × (Int → Int) => (0 ≤ u.1 ∧ u.1 ≤ 41) ∧ rpM u.2.1 u.2.2.1 u.2.2.2.1 u.2.2.2.2 dk u.1 (insS (kyZ RW y x) S)) (fun (u : Int × (Int → Int) × (Int → Int) × (Int → Int) × (Int → Int)) t => zB G [(o0, ob 7 [vI th, .ref (a 1), .ref (a 2), .ref (a 3), .ref (a 4), .ref (a 5), vI mk, .ref (a 7), .ref (a 8), vI bl, .ref (a 10), vI hm, vI rc, .ref (a 13), .ref (a 14), .ref (a 15), vI lk, vI lg, vI kp, vI fi, vI lo, vI wt, .ref (a 22), .ref (a 23), .ref (a 24), .ref (a 25), .ref (a 26), vI gr, .ref (a 28), .ref (a 29), vI eb, vI ec, vI ef, vI iv]), ((a 13), aI G 40 TX), ((a 14), aI G 5 RW), ((a 22), aI G 41 FM), ((a 23), aI G 41 FN), ((a 24), aI G 205 FR), ((a 25), aI G 1517 FD)] s.heap.size [(o0, ob 7 [vI th, .ref (a 1), .ref (a 2), .ref (a 3), .ref (a 4), .ref (a 5), vI mk, .ref (a 7), .ref (a 8), vI bl, .ref (a 10), vI hm, vI rc, .ref (a 13), .ref (a 14), .ref (a 15), vI lk, vI lg, vI kp, vI u.1, vI lo, vI wt, .ref (a 22), .ref (a 23), .ref (a 24), .ref (a 25), .ref (a 26), vI gr, .ref (a 28), .ref (a 29), vI eb, vI ec, vI ef, vI iv]), ((a 13), aI G 40 TX), ((a 14), aI G 5 RW), ((a 22), aI G 41 u.2.1), ((a 23), aI G 41 u.2.2.1), ((a 24), aI G 205 u.2.2.2.1), ((a 25), aI G 1517 u.2.2.2.2)] t) (va_A [(o0, ob 7 [vI th, .ref (a 1), .ref (a 2), .ref (a 3), .ref (a 4), .ref (a 5), vI mk, .ref (a 7), .ref (a 8), vI bl, .ref (a 10), vI hm, vI rc, .ref (a 13), .ref (a 14), .ref (a 15), vI lk, vI lg, vI kp, vI fi, vI lo, vI wt, .ref (a 22), .ref (a 23), .ref (a 24), .ref (a 25), .ref (a 26), vI gr, .ref (a 28), .ref (a 29), vI eb, vI ec, vI ef, vI iv]), ((a 13), aI G 40 TX), ((a 14), aI G 5 RW), ((a 22), aI G 41 FM), ((a 23), aI G 41 FN), ((a 24), aI G 205 FR), ((a 25), aI G 1517 FD)] s.heap.size)) ([.ref o0, vI x, vI y] : List Value).toArray s 0 0 (va_A [(o0, ob 7 [vI th, .ref (a 1), .ref (a 2), .ref (a 3), .ref (a 4), .ref (a 5), vI mk, .ref (a 7), .ref (a 8), vI bl, .ref (a 10), vI hm, vI rc, .ref (a 13), .ref (a 14), .ref (a 15), vI lk, vI lg, vI kp, vI fi, vI lo, vI wt, .ref (a 22), .ref (a 23), .ref (a 24), .ref (a 25), .ref (a 26), vI gr, .ref (a 28), .ref (a 29), vI eb, vI ec, vI ef, vI iv]), ((a 13), aI G 40 TX), ((a 14), aI G 5 RW), ((a 22), aI G 41 FM), ((a 23), aI G 41 FN), ((a 24), aI G 205 FR), ((a 25), aI G 1517 FD)] s.heap.size)) (F0 m 112 ls []) := by
                    intro n_
                    induction n_ with
                    | zero => exact fun qi qG H locs ls hP hD hS hl hqi hqG hqP hm_ => absurd hm_ (Nat.not_lt_zero _)
                    | succ n_ ih_112 =>
                      intro qi qG H locs ls hP hD hS hl hqi hqG hqP hm_
                      refine lv_iload hx hb dX7_found_112 (lv_at hl 4 rfl) ?_
                      refine lv_aload_n hx hb dX7_found_114 rfl (lv_at hl 0 rfl) ?_
                      refine z_get (v := .ref (a 13)) hC hK hP inX7 rfl 0 rfl 13 (by decide) tw_805 rfl dX7_found_115 ?_
                      refine lv_iconst (v := iI 2) hx hb dX7_found_118 rfl ?_
                      refine z_iald hC hK hP 1 rfl (by omega) (by decide) dX7_found_119 ?_
                      refine z_icmp_gt (tgt := 150) hx hb dX7_found_120 (by decide) (by omega) (fun c_120 => ?_) (fun c_120 => ?_)
                      · exact z_vretW hC hr hlk ⟨fi + 1, zup qM qa x, zup qN qa y, qF, qG⟩ hAe hP hD hS [0, 1, 2, 3, 4, 5, 6] (by decide) rfl rfl (⟨by show 0 ≤ fi + 1 ∧ fi + 1 ≤ 41; omega, rpM_add hrp (by omega) hqa (fun f hf => enF_cg (t := qa) (hqE1 f hf) (by omega) (zup_n _ _ (by omega)) (zup_n _ _ (by omega)) hqO hqP) (fun f hf => enF_cg (t := qa) (hqE2 f hf) (by omega) (zup_n _ _ (by omega)) (zup_n _ _ (by omega)) hqO hqP) (by
              have hty : ∀ j : Int, 0 ≤ j ∧ j < 8 * y → txR dk (kBl (kyZ RW y x)) j = txR dk RW j := fun j hj => by unfold txR; rw [hkb (j / 8) (by omega)]
              have ht3 : txR dk (kBl (kyZ RW y x)) 2 = TX 2 := by rw [hty 2 (by omega), htx 2 (by omega)]
              exact ⟨hcl, by rw [hkm]; exact zup_s _ _ _, by rw [hks]; exact zup_s _ _ _, fun k hk => by rw [hkb k (by omega)]; exact hqF k (by omega), by omega, fun i hi => by rw [hty (2 + i) (by omega), ← htx (2 + i) (by omega)]; exact hqG i (by omega)⟩) hqK hpl⟩) dX7_found_150
                      · refine lv_aload_n hx hb dX7_found_123 rfl (lv_at hl 0 rfl) ?_
                        refine z_get (v := .ref (a 25)) hC hK hP inX7 rfl 0 rfl 25 (by decide) tw_817 rfl dX7_found_124 ?_
                        refine lv_bipush (v := iI 37) hx hb dX7_found_127 (by decide) ?_
                        refine lv_iload_n hx hb dX7_found_129 rfl (lv_at hl 3 rfl) ?_
                        refine z_imul hx hb dX7_found_130 ?_
                        refine lv_iload hx hb dX7_found_131 (lv_at hl 4 rfl) ?_
                        refine z_iadd hx hb dX7_found_133 ?_
                        refine lv_aload_n hx hb dX7_found_134 rfl (lv_at hl 0 rfl) ?_
                        refine z_get (v := .ref (a 13)) hC hK hP inX7 rfl 0 rfl 13 (by decide) tw_805 rfl dX7_found_135 ?_
                        refine lv_iconst (v := iI 2) hx hb dX7_found_138 rfl ?_
                        refine lv_iload hx hb dX7_found_139 (lv_at hl 4 rfl) ?_
                        refine z_iadd hx hb dX7_found_141 ?_
                        refine z_iald hC hK hP 1 rfl (by omega) (by decide) dX7_found_142 ?_
                        refine z_iast (ws' := [(o0, ob 7 [vI th, .ref (a 1), .ref (a 2), .ref (a 3), .ref (a 4), .ref (a 5), vI mk, .ref (a 7), .ref (a 8), vI bl, .ref (a 10), vI hm, vI rc, .ref (a 13), .ref (a 14), .ref (a 15), vI lk, vI lg, vI kp, vI (fi + 1), vI lo, vI wt, .ref (a 22), .ref (a 23), .ref (a 24), .ref (a 25), .ref (a 26), vI gr, .ref (a 28), .ref (a 29), vI eb, vI ec, vI ef, vI iv]), ((a 13), aI G 40 TX), ((a 14), aI G 5 RW), ((a 22), aI G 41 (zup qM qa x)), ((a 23), aI G 41 (zup qN qa y)), ((a 24), aI G 205 qF), ((a 25), aI G 1517 (zup qG ((37 * qa) + qi) (TX (2 + qi))))]) hC hK hP hD hS 6 rfl (by omega) (by decide) rfl dX7_found_143 (fun H locs hP hD hS => ?_)
                        refine z_iinc (k := 4) (lv' := [(4, vI (qi + 1)), (0, .ref o0), (1, vI x), (2, vI y), (3, vI qa)]) hx hb dX7_found_144 hl rfl (by decide) rfl (fun ls hl => ?_)
                        refine lv_goto (tgt := 112) hx hb dX7_found_147 (by decide) ?_
                        exact ih_112 (qi + 1) (zup qG ((37 * qa) + qi) (TX (2 + qi))) H locs ls hP hD hS (lv_sub hl [1, 2, 3, 4, 0] rfl) (by omega) (fun j hj => by rcases (show j = qi ∨ j < qi by omega) with h | h; rw [h, zup_s]; rw [zup_n _ _ (by omega)]; exact hqG j (by omega)) (fun j hj => by rw [zup_n _ _ (by omega)]; exact hqP j hj) (by omega)
                  exact cut_112 ((TX 2 + 1 - (0 : Int)).toNat + 1) 0 qD H locs ls hP hD hS (lv_sub hl [1, 2, 3, 4, 0] rfl) (by omega) (fun j hj => by omega) (fun j hj => rfl) (Nat.lt_succ_self _)
                · refine lv_aload_n hx hb dX7_found_85 rfl (lv_at hl 0 rfl) ?_
                  refine z_get (v := .ref (a 24)) hC hK hP inX7 rfl 0 rfl 24 (by decide) tw_816 rfl dX7_found_86 ?_
                  refine lv_iconst (v := iI 5) hx hb dX7_found_89 rfl ?_
                  refine lv_iload_n hx hb dX7_found_90 rfl (lv_at hl 3 rfl) ?_
                  refine z_imul hx hb dX7_found_91 ?_
                  refine lv_iload hx hb dX7_found_92 (lv_at hl 4 rfl) ?_
                  refine z_iadd hx hb dX7_found_94 ?_
                  refine lv_aload_n hx hb dX7_found_95 rfl (lv_at hl 0 rfl) ?_
                  refine z_get (v := .ref (a 14)) hC hK hP inX7 rfl 0 rfl 14 (by decide) tw_806 rfl dX7_found_96 ?_
                  refine lv_iload hx hb dX7_found_99 (lv_at hl 4 rfl) ?_
                  refine z_iald hC hK hP 2 rfl (by omega) (by decide) dX7_found_101 ?_
                  refine z_iast (ws' := [(o0, ob 7 [vI th, .ref (a 1), .ref (a 2), .ref (a 3), .ref (a 4), .ref (a 5), vI mk, .ref (a 7), .ref (a 8), vI bl, .ref (a 10), vI hm, vI rc, .ref (a 13), .ref (a 14), .ref (a 15), vI lk, vI lg, vI kp, vI (fi + 1), vI lo, vI wt, .ref (a 22), .ref (a 23), .ref (a 24), .ref (a 25), .ref (a 26), vI gr, .ref (a 28), .ref (a 29), vI eb, vI ec, vI ef, vI iv]), ((a 13), aI G 40 TX), ((a 14), aI G 5 RW), ((a 22), aI G 41 (zup qM qa x)), ((a 23), aI G 41 (zup qN qa y)), ((a 24), aI G 205 (zup qF ((5 * qa) + qk) (RW qk))), ((a 25), aI G 1517 qD)]) hC hK hP hD hS 5 rfl (by omega) (by decide) rfl dX7_found_102 (fun H locs hP hD hS => ?_)
                  refine z_iinc (k := 4) (lv' := [(4, vI (qk + 1)), (0, .ref o0), (1, vI x), (2, vI y), (3, vI qa)]) hx hb dX7_found_103 hl rfl (by decide) rfl (fun ls hl => ?_)
                  refine lv_goto (tgt := 79) hx hb dX7_found_106 (by decide) ?_
                  exact ih_79 (qk + 1) (zup qF ((5 * qa) + qk) (RW qk)) H locs ls hP hD hS (lv_sub hl [1, 2, 3, 4, 0] rfl) (by omega) (fun j hj => by rcases (show j = qk ∨ j < qk by omega) with h | h; rw [h, zup_s]; rw [zup_n _ _ (by omega)]; exact hqF j (by omega)) (fun j hj => by rw [zup_n _ _ (by omega)]; exact hqO j hj) (by omega)
            exact cut_79 ((y - (0 : Int)).toNat + 1) 0 qR H locs ls hP hD hS (lv_sub hl [1, 2, 3, 4, 0] rfl) (by omega) (fun j hj => by omega) (fun j hj => rfl) (Nat.lt_succ_self _)
          · exfalso; omega
        refine lv_iload_n hx hb dX7_found_15 rfl (lv_at hl 3 rfl) ?_
        refine z_if_le (tgt := 45) hx hb dX7_found_16 (by decide) (by omega) (fun c_16 => ?_) (fun c_16 => ?_)
        · exact cut_45 H locs ls hP hD hS hl (by first | exact Or.inl (by omega) | exact Or.inr (Classical.byContradiction fun h => by rw [if_pos (by omega)] at c_28; omega))
        · have hen := hqE1 (qa - 1) (by omega)
          refine lv_aload_n hx hb dX7_found_19 rfl (lv_at hl 0 rfl) ?_
          refine lv_iload_n hx hb dX7_found_20 rfl (lv_at hl 1 rfl) ?_
          refine lv_iload_n hx hb dX7_found_21 rfl (lv_at hl 2 rfl) ?_
          refine lv_iload_n hx hb dX7_found_22 rfl (lv_at hl 3 rfl) ?_
          refine lv_iconst (v := iI 1) hx hb dX7_found_23 rfl ?_
          refine z_isub hx hb dX7_found_24 ?_
          refine z_rVi (q0 := 0) (ci := 7) (b := o0) (rest := []) hC hK hP (c_X7_isAhead l G o0 a th mk bl hm rc lk lg kp fi lo wt gr eb ec ef iv RW qM qN qR x y (qa - 1) (kyZ RW y x) (S.getD (qa - 1).toNat 0) (by omega) (by omega) (hcl) (hks) (hkm) (fun j hj => (hkb j hj).symm) (hen.1) (hen.2.2.1) (hen.2.1) (hen.2.2.2.1)) mv_X7_isAhead tw_984 [0, 2, 3, 4, 5] rfl rfl rfl rfl hl.1 rfl (Nat.le_of_ble_eq_true rfl) ⟨rfl, rfl, Nat.le_of_ble_eq_true rfl, Nat.le_of_ble_eq_true rfl⟩ ⟨Nat.le_of_ble_eq_true rfl, Nat.le_of_ble_eq_true rfl⟩ dX7_found_25 ?_
          refine z_if_eq (tgt := 45) hx hb dX7_found_28 (by decide) (by split <;> omega) (fun c_28 => ?_) (fun c_28 => ?_)
          · exact cut_45 H locs ls hP hD hS hl (by first | exact Or.inl (by omega) | exact Or.inr (Classical.byContradiction fun h => by rw [if_pos (by omega)] at c_28; omega))
          · have hlt : kyZ RW y x < S.getD (qa - 1).toNat 0 := Classical.byContradiction fun h => by rw [if_neg h] at c_28; omega
            refine lv_aload_n hx hb dX7_found_31 rfl (lv_at hl 0 rfl) ?_
            refine lv_iload_n hx hb dX7_found_32 rfl (lv_at hl 3 rfl) ?_
            refine lv_iconst (v := iI 1) hx hb dX7_found_33 rfl ?_
            refine z_isub hx hb dX7_found_34 ?_
            refine lv_iload_n hx hb dX7_found_35 rfl (lv_at hl 3 rfl) ?_
            refine z_wVv (q0 := 0) (ci := 7) (b := o0) (rest := []) (wr := [((a 13), aI G 40 TX), ((a 14), aI G 5 RW)]) hC hK hP hD hS hA (c_X7_copy l G H.size o0 a th mk bl hm rc lk lg kp fi lo wt gr eb ec ef iv qM qN qR qD (qa - 1) qa (by omega) (by omega)) mv_X7_copy tw_988 [0, 3, 4, 5, 6] [1, 2] rfl rfl rfl rfl (by decide) rfl rfl rfl rfl hl.1 rfl (Nat.le_of_ble_eq_true rfl) ⟨rfl, rfl, Nat.le_of_ble_eq_true rfl, Nat.le_of_ble_eq_true rfl⟩ ⟨Nat.le_of_ble_eq_true rfl, Nat.le_of_ble_eq_true rfl⟩ dX7_found_36 (fun u H locs hw hP hD hS => ?_)
            have hP : va_P G.1 vwCl [((a 13), aI G 40 TX), ((a 14), aI G 5 RW), (o0, ob 7 [vI th, .ref (a 1), .ref (a 2), .ref (a 3), .ref (a 4), .ref (a 5), vI mk, .ref (a 7), .ref (a 8), vI bl, .ref (a 10), vI hm, vI rc, .ref (a 13), .ref (a 14), .ref (a 15), vI lk, vI lg, vI kp, vI fi, vI lo, vI wt, .ref (a 22), .ref (a 23), .ref (a 24), .ref (a 25), .ref (a 26), vI gr, .ref (a 28), .ref (a 29), vI eb, vI ec, vI ef, vI iv]), ((a 22), aI G 41 (zup qM qa (qM (qa - 1)))), ((a 23), aI G 41 (zup qN qa (qN (qa - 1)))), ((a 24), aI G 205 (cpP qR 5 (qa - 1) qa 5)), ((a 25), aI G 1517 (cpP qD 37 (qa - 1) qa 37))] H := hP
            have hD : va_D A [((a 13), aI G 40 TX), ((a 14), aI G 5 RW), (o0, ob 7 [vI th, .ref (a 1), .ref (a 2), .ref (a 3), .ref (a 4), .ref (a 5), vI mk, .ref (a 7), .ref (a 8), vI bl, .ref (a 10), vI hm, vI rc, .ref (a 13), .ref (a 14), .ref (a 15), vI lk, vI lg, vI kp, vI fi, vI lo, vI wt, .ref (a 22), .ref (a 23), .ref (a 24), .ref (a 25), .ref (a 26), vI gr, .ref (a 28), .ref (a 29), vI eb, vI ec, vI ef, vI iv]), ((a 22), aI G 41 (zup qM qa (qM (qa - 1)))), ((a 23), aI G 41 (zup qN qa (qN (qa - 1)))), ((a 24), aI G 205 (cpP qR 5 (qa - 1) qa 5)), ((a 25), aI G 1517 (cpP qD 37 (qa - 1) qa 37))] := hD
            have hw_1 := hw
            clear hw_1
            refine z_iinc (k := 3) (lv' := [(3, vI (qa + (-1))), (0, .ref o0), (1, vI x), (2, vI y)]) hx hb dX7_found_39 hl rfl (by decide) rfl (fun ls hl => ?_)
            refine lv_goto (tgt := 15) hx hb dX7_found_42 (by decide) ?_
            exact ih_15 (qa + (-1)) (zup qM qa (qM (qa - 1))) (zup qN qa (qN (qa - 1))) (cpP qR 5 (qa - 1) qa 5) (cpP qD 37 (qa - 1) qa 37) H locs ls (hP.sub [2, 0, 1, 3, 4, 5, 6] rfl) (hD.sub [2, 0, 1, 3, 4, 5, 6] (by decide) rfl) hS (lv_sub hl [1, 2, 3, 0] rfl) (by omega) (fun f hf => enF_cg (t := qa) (hqE1 f (by omega)) (by omega) (zup_n _ _ (by omega)) (zup_n _ _ (by omega)) (fun j hj => cpP_o hj) (fun j hj => cpP_o hj)) (fun f hf => by rcases (show f = qa ∨ qa < f by omega) with h | h; rw [h]; exact enF_cp hen; exact enF_cg (t := qa) (hqE2 f (by omega)) (by omega) (zup_n _ _ (by omega)) (zup_n _ _ (by omega)) (fun j hj => cpP_o hj) (fun j hj => cpP_o hj)) (fun j hj => by rcases (show j = qa - 1 ∨ qa ≤ j by omega) with h | h; rw [h]; exact hlt; exact hqK j (by omega)) (by omega)
    exact cut_15 (fi.toNat + 1) fi FM FN FR FD H locs ls hP hD hS (lv_sub hl [1, 2, 3, 0] rfl) (by omega) (hfe) (fun f hf => by omega) (fun j hj => by omega) (Nat.lt_succ_self _)
  · exact z_vretW hC hr hlk ⟨fi, FM, FN, FR, FD⟩ hAe hP hD hS [0, 1, 2, 3, 4, 5, 6] (by decide) rfl rfl (⟨hfi, rpM_full hrp (by omega)⟩) dX7_found_9
