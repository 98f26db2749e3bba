/-! what holds between the class and the model from call to call -/
theorem zshl1_bd {t0 : Int} (h : 0 ≤ t0 ∧ t0 < 16) : 0 ≤ zshl 1 t0 ∧ zshl 1 t0 < ((2 ^ 16 : Nat) : Int) := by
  rw [zshl1 (by omega)]
  have h1 : 2 ^ t0.toNat < 2 ^ 16 := Nat.pow_lt_pow_right (by decide) (by omega)
  exact ⟨Int.natCast_nonneg _, Int.ofNat_lt.mpr h1⟩
theorem stepZ_T {T T' : Int → Int} (h : ∀ j : Int, 0 ≤ j ∧ j < 4096 → T j = T' j) {v : Int} (hv : 0 ≤ v ∧ v < 256) (st : Int) : stepZ T v st = stepZ T' v st := orS_cg 16 (fun j hj => h _ (by omega))
theorem runS_T {T T' hd : Int → Int} (h : ∀ j : Int, 0 ≤ j ∧ j < 4096 → T j = T' j) : ∀ k : Nat, (∀ j : Int, 0 ≤ j ∧ j < (k : Int) → 0 ≤ hd j ∧ hd j < 256) → runS T hd k = runS T' hd k := by
  intro k
  induction k with
  | zero => intro _; rfl
  | succ k ih =>
    intro hb
    show stepZ T _ _ = stepZ T' _ _
    rw [ih (fun j hj => hb j (by omega)), stepZ_T h (hb (k : Int) (by omega))]
def inA (L : List mkT) (MK : Int → Option Nat) (mk : Int) (N1 N2 CK GO ED NX : Int → Int) : Prop :=
  mk = (L.length : Int) ∧ okL L ∧ mkA L MK ∧ (∀ (x : Int) (y : mkT), 0 ≤ x → L[x.toNat]? = some y → (mF y = N1 x ∧ mS y = N2 x ∧ mK y = CK x ∧ mG y = GO x ∧ mE y = ED x) ∧ ∀ j : Int, 0 ≤ j ∧ j < 4096 → mT y j = tM NX x j) ∧ ∀ x : Int, mk ≤ x ∧ x < 6 → GO x = 0 ∧ ED x = 0 ∧ ∀ j : Int, 0 ≤ j ∧ j < 4096 → tM NX x j = 0
theorem inA_mk {L : List mkT} {MK : Int → Option Nat} {mk : Int} {N1 N2 CK GO ED NX : Int → Int} (h : inA L MK mk N1 N2 CK GO ED NX) : 0 ≤ mk ∧ mk ≤ 6 := by
  have h1 := h.1
  have h2 := h.2.1.1
  omega
theorem inA_no {L : List mkT} {MK : Int → Option Nat} {mk : Int} {N1 N2 CK GO ED NX : Int → Int} (h : inA L MK mk N1 N2 CK GO ED NX) {x : Int} (hx : ¬ (0 ≤ x ∧ x < mk)) : 0 ≤ x ∧ x < 6 → MK x = none := by
  intro h6
  have h1 := h.1
  rw [h.2.2.1 x h6, List.getElem?_eq_none_iff.mpr (by omega)]
  rfl
theorem inA_at {L : List mkT} {MK : Int → Option Nat} {mk : Int} {N1 N2 CK GO ED NX : Int → Int} (h : inA L MK mk N1 N2 CK GO ED NX) {x : Int} (hx : 0 ≤ x ∧ x < mk) : ∃ (L1 : List mkT) (o9 a9 : Nat) (T9 : Int → Int) (L2 : List mkT), L = L1 ++ (o9, a9, N1 x, N2 x, CK x, GO x, ED x, T9) :: L2 ∧ (L1.length : Int) = x ∧ MK x = some o9 ∧ (∀ j : Int, 0 ≤ j ∧ j < 4096 → T9 j = tM NX x j) ∧ okM (o9, a9, N1 x, N2 x, CK x, GO x, ED x, T9) := by
  obtain ⟨h1, h2, h3, h4, -⟩ := h
  have hl6 := h2.1
  cases e : L[x.toNat]? with
  | none => have := List.getElem?_eq_none_iff.mp e; omega
  | some y =>
    obtain ⟨L1, L2, e1, e2⟩ := split_at L x.toNat y e
    have h5 := h4 x y hx.1 e
    have h6 : MK x = some (mO y) := by rw [h3 x (by omega), e]; rfl
    have h7 := h2.2 y (List.mem_of_getElem? e)
    obtain ⟨o9, a9, f1, f2, f3, f4, f5, T9⟩ := y
    obtain ⟨⟨q1, q2, q3, q4, q5⟩, q6⟩ := h5
    dsimp only [mF, mS, mK, mG, mE, mT] at q1 q2 q3 q4 q5 q6
    subst q1; subst q2; subst q3; subst q4; subst q5
    exact ⟨L1, o9, a9, T9, L2, e1, by omega, h6, q6, h7⟩
theorem at_mid {α : Type} (L1 : List α) (y y2 : α) (L2 : List α) (k : Nat) (hk : k ≠ L1.length) : (L1 ++ y2 :: L2)[k]? = (L1 ++ y :: L2)[k]? := by
  rcases Nat.lt_or_ge k L1.length with h | h
  · rw [List.getElem?_append_left h, List.getElem?_append_left h]
  · rw [List.getElem?_append_right h, List.getElem?_append_right h]
    obtain ⟨j, hj⟩ : ∃ j, k - L1.length = j + 1 := ⟨k - L1.length - 1, by omega⟩
    rw [hj, List.getElem?_cons_succ, List.getElem?_cons_succ]
theorem at_mid0 {α : Type} (L1 : List α) (y : α) (L2 : List α) : (L1 ++ y :: L2)[L1.length]? = some y := by
  rw [List.getElem?_append_right (Nat.le_refl _), Nat.sub_self]
  rfl
theorem inA_set {L1 L2 : List mkT} {y y2 : mkT} {MK : Int → Option Nat} {mk x : Int} {N1 N2 CK GO ED NX GO2 ED2 NX2 : Int → Int} (h : inA (L1 ++ y :: L2) MK mk N1 N2 CK GO ED NX) (hx : (L1.length : Int) = x) (ho : mO y2 = mO y) (hk : okM y2)
    (hg : ∀ z : Int, z ≠ x → 0 ≤ z ∧ z < 6 → GO2 z = GO z ∧ ED2 z = ED z ∧ ∀ j : Int, 0 ≤ j ∧ j < 4096 → tM NX2 z j = tM NX z j)
    (hy : (mF y2 = N1 x ∧ mS y2 = N2 x ∧ mK y2 = CK x ∧ mG y2 = GO2 x ∧ mE y2 = ED2 x) ∧ ∀ j : Int, 0 ≤ j ∧ j < 4096 → mT y2 j = tM NX2 x j) : inA (L1 ++ y2 :: L2) MK mk N1 N2 CK GO2 ED2 NX2 := by
  obtain ⟨h1, h2, h3, h4, h5⟩ := h
  have hlen : (L1 ++ y2 :: L2).length = (L1 ++ y :: L2).length := by rw [List.length_append, List.length_append, List.length_cons, List.length_cons]
  have hl0 : L1.length < (L1 ++ y :: L2).length := by rw [List.length_append, List.length_cons]; omega
  have hl6 := h2.1
  refine ⟨by rw [hlen]; exact h1, ⟨by rw [hlen]; exact h2.1, fun z hz => ?_⟩, fun j hj => ?_, fun z w h0 hw => ?_, fun z hz => ?_⟩
  · rcases List.mem_append.mp hz with q | q
    · exact h2.2 z (List.mem_append.mpr (Or.inl q))
    · rcases List.mem_cons.mp q with q | q
      · rw [q]; exact hk
      · exact h2.2 z (List.mem_append.mpr (Or.inr (List.mem_cons.mpr (Or.inr q))))
  · rw [h3 j hj]
    by_cases q : j.toNat = L1.length
    · rw [q, at_mid0, at_mid0]
      show some (mO y) = some (mO y2)
      rw [ho]
    · rw [at_mid L1 y y2 L2 _ q]
  · by_cases q : z.toNat = L1.length
    · have e : z = x := by omega
      subst e
      rw [q, at_mid0] at hw
      cases Option.some.inj hw
      exact hy
    · have hw2 := hw
      rw [at_mid L1 y y2 L2 _ q] at hw2
      have h6 := h4 z w h0 hw2
      have hzl := (List.getElem?_eq_some_iff.mp hw2).1
      obtain ⟨g1, g2, g3⟩ := hg z (by omega) ⟨h0, by omega⟩
      rw [g1, g2]
      exact ⟨h6.1, fun j hj => by rw [g3 j hj]; exact h6.2 j hj⟩
  · have hne : z ≠ x := by omega
    obtain ⟨g1, g2, g3⟩ := hg z hne (by omega)
    obtain ⟨k1, k2, k3⟩ := h5 z hz
    rw [g1, g2]
    exact ⟨k1, k2, fun j hj => by rw [g3 j hj]; exact k3 j hj⟩
theorem inA_new {L : List mkT} {MK : Int → Option Nat} {mk : Int} {N1 N2 CK GO ED NX : Int → Int} (h : inA L MK mk N1 N2 CK GO ED NX) (hm : mk < 6) {o9 a9 : Nat} {x y z : Int} (hok : (0 ≤ x ∧ x < 256) ∧ (0 ≤ y ∧ y < 256) ∧ 0 ≤ z ∧ z ≤ 2) : inA (L ++ [(o9, a9, x, y, z, 0, 0, fun _ => 0)]) (zup MK mk (some o9)) (mk + 1) (zup N1 mk x) (zup N2 mk y) (zup CK mk z) GO ED NX := by
  obtain ⟨h1, h2, h3, h4, h5⟩ := h
  have hlen : (L ++ [(o9, a9, x, y, z, (0 : Int), (0 : Int), (fun _ => 0 : Int → Int))]).length = L.length + 1 := by rw [List.length_append]; rfl
  have hpl : L.length ≤ 5 := by omega
  refine ⟨by rw [hlen]; omega, ⟨by rw [hlen]; omega, fun w hw => ?_⟩, fun j hj => ?_, fun v w h0 hw => ?_, fun v hv => h5 v (by omega)⟩
  · rcases List.mem_append.mp hw with q | q
    · exact h2.2 w q
    · rw [List.mem_singleton.mp q]
      exact ⟨by show 0 ≤ z ∧ z < 3; omega, ⟨hok.1, hok.2.1⟩, by show (0 : Int) ≤ 0 ∧ (0 : Int) < 65536; decide, by show (0 : Int) ≤ 0 ∧ (0 : Int) ≤ 40; decide, fun j hj => by show (0 : Int) ≤ 0 ∧ (0 : Int) < 65536; decide⟩
  · rcases (show j = mk ∨ j < mk ∨ mk < j by omega) with q | q | q
    · rw [q, zup_s, List.getElem?_append_right (by omega), show mk.toNat - L.length = 0 by omega]
      rfl
    · rw [zup_n _ _ (by omega), h3 j hj, List.getElem?_append_left (by omega)]
    · rw [zup_n _ _ (by omega), h3 j hj, List.getElem?_eq_none_iff.mpr (by omega), List.getElem?_eq_none_iff.mpr (by omega)]
  · have hvl := (List.getElem?_eq_some_iff.mp hw).1
    rcases (show v = mk ∨ v < mk by omega) with q | q
    · have q2 := hw
      rw [List.getElem?_append_right (by omega), show v.toNat - L.length = 0 by omega] at q2
      cases Option.some.inj q2
      obtain ⟨k1, k2, k3⟩ := h5 v (by omega)
      rw [q, zup_s, zup_s, zup_s]
      rw [q] at k1 k2 k3
      exact ⟨⟨rfl, rfl, rfl, k1.symm, k2.symm⟩, fun j hj => (k3 j hj).symm⟩
    · rw [List.getElem?_append_left (by omega)] at hw
      rw [zup_n _ _ (by omega), zup_n _ _ (by omega), zup_n _ _ (by omega)]
      exact h4 v w h0 hw
theorem tM_other (NX : Int → Int) {x y lo hi bt z j : Int} (hy : 0 ≤ y ∧ y < 16) (hl : 0 ≤ lo ∧ hi < 256) (hz : z ≠ x) (hj : 0 ≤ j ∧ j < 4096) : tM (nxE NX ((16 * x + y) * 256) lo hi bt) z j = tM NX z j := by
  unfold tM nxE
  exact if_neg (by omega)
theorem tM_edge (NX : Int → Int) {x y lo hi bt j : Int} (hy : 0 ≤ y ∧ y < 16) (hl : 0 ≤ lo ∧ hi < 256) (hj : 0 ≤ j ∧ j < 4096) : tM (nxE NX ((16 * x + y) * 256) lo hi bt) x j = addE (tM NX x) y lo hi bt j := by
  unfold tM nxE addE
  by_cases q : j % 16 = y ∧ lo ≤ j / 16 ∧ j / 16 ≤ hi
  · rw [if_pos (by omega), if_pos q]
  · rw [if_neg (by omega), if_neg q]
theorem addE_cg {T T' : Int → Int} {y lo hi bt : Int} {j : Int} (h : T j = T' j) : addE T y lo hi bt j = addE T' y lo hi bt j := by
  unfold addE
  rw [h]
theorem addE_bd {T : Int → Int} {y lo hi t0 : Int} (hT : ∀ j : Int, 0 ≤ j ∧ j < 4096 → 0 ≤ T j ∧ T j < 65536) (ht : 0 ≤ t0 ∧ t0 < 16) {j : Int} (hj : 0 ≤ j ∧ j < 4096) : 0 ≤ addE T y lo hi (zshl 1 t0) j ∧ addE T y lo hi (zshl 1 t0) j < 65536 := by
  unfold addE
  split
  · exact zor_bd 16 (by decide) (hT j hj) (zshl1_bd ht)
  · exact hT j hj
def inB (bl hm rc lg : Int) (HA : Int → Int) : Prop := (0 ≤ bl ∧ bl ≤ 24) ∧ (0 ≤ hm ∧ hm ≤ 36) ∧ (∀ j : Int, 0 ≤ j ∧ j < hm → 0 ≤ HA j ∧ HA j < 256) ∧ (1 ≤ rc ∧ rc ≤ 23) ∧ (0 ≤ lg ∧ lg ≤ 5)
def okK (dk : Int → Int64) (n k : Int) : Prop := clK k ∧ (∀ i : Int, 0 ≤ i ∧ i < kSz k → 0 ≤ kBl k i ∧ kBl k i < n) ∧ txR dk (kBl k) 2 ≤ 36 ∧ 3 + txR dk (kBl k) 2 < 8 * kSz k
def inC (K : Int → Int) (fi wt : Int) (f : Int → Int64) (FM FN FR FD : Int → Int) : Prop := ∃ (S : List Int) (D0 : Int → Int64), S.length ≤ 40 ∧ wfC K fi 0 ∧ rpC K fi 0 S ∧ rpM FM FN FR FD D0 fi S ∧ (0 ≤ wt ∧ wt ≤ 24) ∧ (∀ j : Int, 0 ≤ j ∧ j < wt → f j = D0 j) ∧ ∀ k ∈ S, okK D0 wt k
def inD (K : Int → Int) (fi wt vgr vcn vcb : Int) (CH : Int → Int) (iv eb ec : Int) (BE FN FR : Int → Int) : Prop :=
  ((0 ≤ vgr ∧ vgr ≤ 40) ∧ (0 ≤ vcn ∧ vcn ≤ 6) ∧ (0 ≤ vcb ∧ vcb < 16777216) ∧ (∀ i : Int, 0 ≤ i ∧ i < vcn → 0 ≤ CH i ∧ CH i < fi) ∧ (iv = 0 ∨ iv = 1) ∧ (∀ j : Int, 0 ≤ j ∧ j < 6 → -1 ≤ BE j ∧ BE j < 41) ∧ (∀ j : Int, 0 ≤ j ∧ j < 6 → 0 ≤ BE j → (0 ≤ FN (BE j) ∧ FN (BE j) ≤ 5) ∧ ∀ k : Int, 0 ≤ k ∧ k < FN (BE j) → -1 ≤ FR (5 * BE j + k) ∧ FR (5 * BE j + k) < 32)) ∧
  ((if vgr ≤ 6 then bcZ vcb else -1) = (if iv = 1 ∨ fi = 0 then eb else -1)) ∧
  ((if vgr ≤ 6 then sumZ (fun i => kCost (K (CH i))) vcn.toNat else -1) = (if iv = 1 ∨ fi = 0 then ec else -1)) ∧
  (∀ x : Int, (if vgr ≤ 6 then (if 0 ≤ x ∧ x < vcn then CH x else -1) else -1) = (if iv = 1 ∧ 0 ≤ x then (pkL BE 6).getD x.toNat (-1) else -1)) ∧
  (∀ x : Int, (if vgr ≤ 6 then frZ vcb wt 25 0 x else -1) = (if iv = 1 ∧ 0 ≤ x then frQ (cvP FN FR BE) wt 25 0 x else -1))
theorem mkW_in (G : zGt) (X : va_W) (L : List mkT) (x : mkT) : ((X ++ mkC G x) ++ mkW G L).Perm (X ++ mkW G (L ++ [x])) := by
  rw [mkW_push, List.append_assoc]
  exact List.Perm.append_left X List.perm_append_comm
