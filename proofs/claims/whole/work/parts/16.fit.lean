theorem wb_tb (n : Nat) : (lN n).toBitVec = BitVec.ofNat 64 n := rfl
theorem wb_inj {a b : Int64} (h : a.toBitVec = b.toBitVec) : a = b := Int64.toBitVec_inj.mp h
theorem wb_tn {n : Nat} (h : n < 2 ^ 64) : (lN n).toBitVec.toNat = n := by rw [wb_tb, BitVec.toNat_ofNat, Nat.mod_eq_of_lt h]
theorem wb_of (x : Int64) : ∃ n, n < 2 ^ 64 ∧ x = lN n := ⟨x.toBitVec.toNat, x.toBitVec.isLt, wb_inj (by rw [wb_tb]; simp)⟩
theorem wb_of32 (x : Int32) : ∃ n, n < 2 ^ 32 ∧ x = nI n := ⟨x.toBitVec.toNat, x.toBitVec.isLt, Int32.toBitVec_inj.mp (by show _ = BitVec.ofNat 32 _; simp)⟩
theorem wb_c : ∀ k, k < 64 → ((nI k).toInt64 &&& 63) = lN k := by decide +kernel
theorem wb_cu : ∀ k, k < 64 → ((nI k).toInt64.toUInt64 &&& Int64.toUInt64 63) = UInt64.ofNat k := by decide +kernel
theorem wb_sm : ∀ k, k < 64 → (BitVec.ofNat 64 k).smod 64 = BitVec.ofNat 64 k := by decide +kernel
theorem wb_pw {a b : Nat} (h : a ≤ b) : 2 ^ b = 2 ^ a * 2 ^ (b - a) := by rw [← Nat.pow_add]; congr 1; omega
theorem wb_lt2 {a b : Nat} (h : a < b) : 2 ^ a < 2 ^ b := Nat.pow_lt_pow_right (by decide) h
theorem wb_mod (n : Nat) : lN n = lN (n % 2 ^ 64) := wb_inj (by rw [wb_tb, wb_tb]; apply BitVec.eq_of_toNat_eq; rw [BitVec.toNat_ofNat, BitVec.toNat_ofNat, Nat.mod_mod])
theorem wb_shr {n k : Nat} (hn : n < 2 ^ 64) (hk : k < 64) : ((lN n).toUInt64 >>> ((nI k).toInt64.toUInt64 &&& Int64.toUInt64 63)).toInt64 = lN (n / 2 ^ k) := by
  rw [wb_cu k hk]
  apply wb_inj
  apply BitVec.eq_of_toNat_eq
  show ((lN n).toUInt64 >>> UInt64.ofNat k).toNat = (BitVec.ofNat 64 _).toNat
  have h1 : (UInt64.ofNat k).toNat = k := by
    show (BitVec.ofNat 64 k).toNat = k
    rw [BitVec.toNat_ofNat, Nat.mod_eq_of_lt (by omega)]
  have h2 : (lN n).toUInt64.toNat = n := wb_tn hn
  rw [UInt64.toNat_shiftRight, h1, h2, Nat.mod_eq_of_lt hk, Nat.shiftRight_eq_div_pow, BitVec.toNat_ofNat, Nat.mod_eq_of_lt (Nat.lt_of_le_of_lt (Nat.div_le_self _ _) hn)]
theorem wb_shl (n : Nat) {k : Nat} (hk : k < 64) : lN n <<< ((nI k).toInt64 &&& 63) = lN (n * 2 ^ k) := by
  rw [wb_c k hk]
  apply wb_inj
  rw [Int64.toBitVec_shiftLeft, wb_tb, wb_tb, wb_tb, wb_sm k hk]
  apply BitVec.eq_of_toNat_eq
  rw [BitVec.shiftLeft_eq', BitVec.toNat_shiftLeft, BitVec.toNat_ofNat, BitVec.toNat_ofNat, BitVec.toNat_ofNat, Nat.mod_eq_of_lt (show k < 2 ^ 64 by omega), Nat.shiftLeft_eq, Nat.mul_mod, Nat.mod_mod, ← Nat.mul_mod]
theorem byZ_nat (u : Nat) (hu : u < 2 ^ 64) {k : Int} (hk : 0 ≤ k ∧ k < 8) : byZ (lN u) k = ((u / 2 ^ (8 * (7 - k)).toNat % 256 : Nat) : Int) := by
  unfold byZ zlushr
  have h1 : iI (8 * (7 - k)) = nI (8 * (7 - k)).toNat := by rw [← iI_n, Int.toNat_of_nonneg (by omega)]
  rw [h1, wb_shr hu (by omega)]
  show (iI ((lN (u / 2 ^ (8 * (7 - k)).toNat)).toInt32.toInt) &&& iI 255).toInt = _
  rw [iI_of, lN_i, show iI 255 = nI 255 from iI_n 255, nI_and, show (255 : Nat) = 2 ^ 8 - 1 from rfl, Nat.and_two_pow_sub_one_eq_mod, nI_toInt (by omega)]
theorem zlshl_nat (u : Nat) {k : Int} (hk : 0 ≤ k ∧ k < 64) : zlshl (lN u) k = lN (u * 2 ^ k.toNat) := by
  unfold zlshl
  have h1 : iI k = nI k.toNat := by rw [← iI_n, Int.toNat_of_nonneg (by omega)]
  rw [h1, wb_shl u (by omega)]
theorem lN_z (n : Nat) : lN n = 0 ↔ n % 2 ^ 64 = 0 := by
  constructor
  · intro h
    have h2 : (lN n).toBitVec = (lN 0).toBitVec := by rw [h]; rfl
    rw [wb_tb, wb_tb] at h2
    have h3 := congrArg BitVec.toNat h2
    rw [BitVec.toNat_ofNat, BitVec.toNat_ofNat] at h3
    exact h3
  · intro h
    rw [wb_mod n, h]
    rfl
/-- no byte but 0 behind place e -/
theorem zb_iff (v : Int64) {e : Int} (he : 0 ≤ e ∧ e < 8) : zlshl (zlshl v (8 * e)) 8 = 0 ↔ ∀ k : Int, e < k ∧ k < 8 → byZ v k = 0 := by
  obtain ⟨u, hu, rfl⟩ := wb_of v
  rw [zlshl_nat u (by omega), zlshl_nat _ (by omega), lN_z]
  have hb : ∀ k : Int, 0 ≤ k ∧ k < 8 → byZ (lN u) k = ((u / 2 ^ (8 * (7 - k)).toNat % 256 : Nat) : Int) := fun k hk => byZ_nat u hu hk
  have b1 := hb 1 (by omega)
  have b2 := hb 2 (by omega)
  have b3 := hb 3 (by omega)
  have b4 := hb 4 (by omega)
  have b5 := hb 5 (by omega)
  have b6 := hb 6 (by omega)
  have b7 := hb 7 (by omega)
  simp only [show (8 * (7 - (1 : Int))).toNat = 48 from rfl, show (8 * (7 - (2 : Int))).toNat = 40 from rfl, show (8 * (7 - (3 : Int))).toNat = 32 from rfl, show (8 * (7 - (4 : Int))).toNat = 24 from rfl, show (8 * (7 - (5 : Int))).toNat = 16 from rfl, show (8 * (7 - (6 : Int))).toNat = 8 from rfl, show (8 * (7 - (7 : Int))).toNat = 0 from rfl] at b1 b2 b3 b4 b5 b6 b7
  have h8 : Int.toNat 8 = 8 := rfl
  rw [h8]
  rcases (show e = 0 ∨ e = 1 ∨ e = 2 ∨ e = 3 ∨ e = 4 ∨ e = 5 ∨ e = 6 ∨ e = 7 by omega) with rfl | rfl | rfl | rfl | rfl | rfl | rfl | rfl
  · rw [show (8 * (0 : Int)).toNat = 0 from rfl]
    constructor
    · intro h k hk
      rcases (show k = 1 ∨ k = 2 ∨ k = 3 ∨ k = 4 ∨ k = 5 ∨ k = 6 ∨ k = 7 by omega) with rfl | rfl | rfl | rfl | rfl | rfl | rfl
      · rw [b1]; omega
      · rw [b2]; omega
      · rw [b3]; omega
      · rw [b4]; omega
      · rw [b5]; omega
      · rw [b6]; omega
      · rw [b7]; omega
    · intro h
      have g1 := h 1 (by omega)
      rw [b1] at g1
      have g2 := h 2 (by omega)
      rw [b2] at g2
      have g3 := h 3 (by omega)
      rw [b3] at g3
      have g4 := h 4 (by omega)
      rw [b4] at g4
      have g5 := h 5 (by omega)
      rw [b5] at g5
      have g6 := h 6 (by omega)
      rw [b6] at g6
      have g7 := h 7 (by omega)
      rw [b7] at g7
      omega
  · rw [show (8 * (1 : Int)).toNat = 8 from rfl]
    constructor
    · intro h k hk
      rcases (show k = 2 ∨ k = 3 ∨ k = 4 ∨ k = 5 ∨ k = 6 ∨ k = 7 by omega) with rfl | rfl | rfl | rfl | rfl | rfl
      · rw [b2]; omega
      · rw [b3]; omega
      · rw [b4]; omega
      · rw [b5]; omega
      · rw [b6]; omega
      · rw [b7]; omega
    · intro h
      have g2 := h 2 (by omega)
      rw [b2] at g2
      have g3 := h 3 (by omega)
      rw [b3] at g3
      have g4 := h 4 (by omega)
      rw [b4] at g4
      have g5 := h 5 (by omega)
      rw [b5] at g5
      have g6 := h 6 (by omega)
      rw [b6] at g6
      have g7 := h 7 (by omega)
      rw [b7] at g7
      omega
  · rw [show (8 * (2 : Int)).toNat = 16 from rfl]
    constructor
    · intro h k hk
      rcases (show k = 3 ∨ k = 4 ∨ k = 5 ∨ k = 6 ∨ k = 7 by omega) with rfl | rfl | rfl | rfl | rfl
      · rw [b3]; omega
      · rw [b4]; omega
      · rw [b5]; omega
      · rw [b6]; omega
      · rw [b7]; omega
    · intro h
      have g3 := h 3 (by omega)
      rw [b3] at g3
      have g4 := h 4 (by omega)
      rw [b4] at g4
      have g5 := h 5 (by omega)
      rw [b5] at g5
      have g6 := h 6 (by omega)
      rw [b6] at g6
      have g7 := h 7 (by omega)
      rw [b7] at g7
      omega
  · rw [show (8 * (3 : Int)).toNat = 24 from rfl]
    constructor
    · intro h k hk
      rcases (show k = 4 ∨ k = 5 ∨ k = 6 ∨ k = 7 by omega) with rfl | rfl | rfl | rfl
      · rw [b4]; omega
      · rw [b5]; omega
      · rw [b6]; omega
      · rw [b7]; omega
    · intro h
      have g4 := h 4 (by omega)
      rw [b4] at g4
      have g5 := h 5 (by omega)
      rw [b5] at g5
      have g6 := h 6 (by omega)
      rw [b6] at g6
      have g7 := h 7 (by omega)
      rw [b7] at g7
      omega
  · rw [show (8 * (4 : Int)).toNat = 32 from rfl]
    constructor
    · intro h k hk
      rcases (show k = 5 ∨ k = 6 ∨ k = 7 by omega) with rfl | rfl | rfl
      · rw [b5]; omega
      · rw [b6]; omega
      · rw [b7]; omega
    · intro h
      have g5 := h 5 (by omega)
      rw [b5] at g5
      have g6 := h 6 (by omega)
      rw [b6] at g6
      have g7 := h 7 (by omega)
      rw [b7] at g7
      omega
  · rw [show (8 * (5 : Int)).toNat = 40 from rfl]
    constructor
    · intro h k hk
      rcases (show k = 6 ∨ k = 7 by omega) with rfl | rfl
      · rw [b6]; omega
      · rw [b7]; omega
    · intro h
      have g6 := h 6 (by omega)
      rw [b6] at g6
      have g7 := h 7 (by omega)
      rw [b7] at g7
      omega
  · rw [show (8 * (6 : Int)).toNat = 48 from rfl]
    constructor
    · intro h k hk
      rcases (show k = 7 by omega) with rfl
      · rw [b7]; omega
    · intro h
      have g7 := h 7 (by omega)
      rw [b7] at g7
      omega
  · rw [show (8 * (7 : Int)).toNat = 56 from rfl]
    constructor
    · intro h k hk
      omega
    · intro h
      omega
theorem stepZ_0 (T : Int → Int) (v : Int) : stepZ T v 0 = 0 := by
  have h : ∀ k : Nat, orS (fun k => T (v * 16 + k)) 0 k = 0 := by
    intro k
    induction k with
    | zero => rfl
    | succ k ih =>
      show (if (0 : Int) / ((2 ^ k : Nat) : Int) % 2 = 1 then _ else _) = _
      rw [Int.zero_ediv, if_neg (by decide), ih]
  exact h 16
theorem stX_s (T tx : Int → Int) {k : Int} (hk : 3 ≤ k) : stX T tx (k + 1) = stepZ T (tx k) (stX T tx k) := by
  unfold stX
  rw [show (k + 1 - 3).toNat = (k - 3).toNat + 1 by omega]
  show stepZ T (tx (3 + ((k - 3).toNat : Int))) _ = _
  rw [Int.toNat_of_nonneg (by omega), show 3 + (k - 3) = k by omega]
theorem stX_3 (T tx : Int → Int) {k : Int} (hk : k ≤ 3) : stX T tx k = 1 := by
  unfold stX
  rw [show (k - 3).toNat = 0 by omega]
  rfl
theorem stX_back (T tx : Int → Int) {i : Int} (hi : 3 ≤ i) : ∀ n : Nat, stX T tx (i + n) ≠ 0 → stX T tx i ≠ 0 := by
  intro n
  induction n with
  | zero => intro h; simpa using h
  | succ n ih =>
    intro h
    refine ih (fun q => h ?_)
    rw [show i + ((n + 1 : Nat) : Int) = i + (n : Int) + 1 by omega, stX_s T tx (by omega), q, stepZ_0]
theorem stX_nz {T tx : Int → Int} {i k : Int} (hi : 3 ≤ i) (hk : i ≤ k) (h : stX T tx k ≠ 0) : stX T tx i ≠ 0 := stX_back T tx hi (k - i).toNat (by rw [Int.toNat_of_nonneg (by omega), show i + (k - i) = k by omega]; exact h)
theorem zand_z (g : Int) : zand 0 g = 0 := by
  unfold zand
  show ((0 : Int32) &&& iI g).toInt = 0
  rw [Int32.zero_and]
  rfl
/-- what is read of block d of a row, by the row's bytes -/
theorem rdF_tx {T tx : Int → Int} {kd : Int} {v : Int64} {d : Int} (hd : 0 ≤ d) {st ck : Int} (hst : st = stX T tx (8 * d)) (hck : ck = ckF kd tx (8 * d).toNat) (htx : ∀ k : Int, 0 ≤ k ∧ k < 8 → tx (8 * d + k) = byZ v k) :
    ∀ k : Nat, k ≤ 8 → (rdF T kd v (dtB d) st ck k).1 = stX T tx (8 * d + k) ∧ ((rdF T kd v (dtB d) st ck k).1 ≠ 0 → (rdF T kd v (dtB d) st ck k).2 = ckF kd tx (8 * d + k).toNat) := by
  intro k
  induction k with
  | zero => intro _; exact ⟨by rw [show 8 * d + ((0 : Nat) : Int) = 8 * d by omega]; exact hst, fun _ => by rw [show 8 * d + ((0 : Nat) : Int) = 8 * d by omega]; exact hck⟩
  | succ k ih =>
    intro hk
    obtain ⟨h1, h2⟩ := ih (by omega)
    have hb := htx k (by omega)
    rw [show 8 * d + ((k + 1 : Nat) : Int) = 8 * d + (k : Int) + 1 by omega]
    by_cases hz : (rdF T kd v (dtB d) st ck k).1 = 0
    · rw [rdF_z hz]
      have h3 : 3 ≤ 8 * d + (k : Int) := by
        rcases Int.lt_or_le (8 * d + (k : Int)) 3 with q | q
        · rw [hz, stX_3 T tx (by omega)] at h1; omega
        · exact q
      refine ⟨?_, fun q => absurd hz q⟩
      rw [stX_s T tx h3, ← h1, hz, stepZ_0]
    · have hdt : dtB d ≤ (k : Int) ↔ 3 ≤ 8 * d + (k : Int) := by
        unfold dtB
        by_cases q : d = 0
        · rw [if_pos q]; omega
        · rw [if_neg q]; omega
      have hc : ckZ kd (rdF T kd v (dtB d) st ck k).2 (byZ v k) = ckF kd tx (8 * d + (k : Int) + 1).toNat := by
        rw [← hb]
        exact ckF_s (by omega) (h2 hz)
      by_cases q : dtB d ≤ (k : Int)
      · have e := rdF_s1 (T := T) (kd := kd) (v := v) (da := dtB d) (st := st) (ck := ck) (i := (k : Int)) (by omega) hz q
        rw [show ((k : Int) + 1).toNat = k + 1 by omega, show ((k : Int)).toNat = k by omega] at e
        rw [← e]
        refine ⟨?_, fun _ => hc⟩
        show stepZ T (byZ v k) (rdF T kd v (dtB d) st ck k).1 = _
        rw [stX_s T tx (hdt.mp q), h1, hb]
      · have e := rdF_s2 (T := T) (kd := kd) (v := v) (da := dtB d) (st := st) (ck := ck) (i := (k : Int)) (by omega) hz (by omega)
        rw [show ((k : Int) + 1).toNat = k + 1 by omega, show ((k : Int)).toNat = k by omega] at e
        rw [← e]
        refine ⟨?_, fun _ => hc⟩
        show (rdF T kd v (dtB d) st ck k).1 = _
        have h3 : ¬ 3 ≤ 8 * d + (k : Int) := fun w => q (hdt.mpr w)
        rw [h1, stX_3 T tx (by omega), stX_3 T tx (by omega)]
/-- a row of d blocks that fits and goes on, and what Walk keeps of it -/
def goesI (a1 a2 kd gl : Int) (T tx SB CB : Int → Int) (ca d : Int) : Prop :=
  d = 0 ∨ (0 < d ∧ (∀ j : Int, 0 ≤ j ∧ j < 8 * d → okA a1 a2 kd gl T tx j) ∧ 8 * d ≤ 3 + tx 2 ∧ SB (d - 1) = stX T tx (8 * d) ∧ CB (d - 1) = ckF kd tx (8 * d).toNat ∧ ca = 3 + tx 2)
theorem fit_iff {a1 a2 kd gl : Int} {T tx SB CB : Int → Int} {ca d : Int} {v : Int64} (hd : 0 ≤ d) (htx : ∀ k : Int, 0 ≤ k ∧ k < 8 → tx (8 * d + k) = byZ v k) (hb2 : 0 ≤ tx 2) (I : goesI a1 a2 kd gl T tx SB CB ca d) :
    caB v ca d = 3 + tx 2 ∧ (fitP a1 a2 gl T kd SB CB v (caB v ca d) d ↔ gOk a1 a2 kd gl T tx d) ∧ (gOk a1 a2 kd gl T tx d → 8 * d + 8 ≤ 3 + tx 2 → (rdB T kd SB CB v (caB v ca d) d).1 = stX T tx (8 * d + 8) ∧ (rdB T kd SB CB v (caB v ca d) d).2 = ckF kd tx (8 * d + 8).toNat) := by
  have hca : caB v ca d = 3 + tx 2 := by
    unfold caB
    rcases I with h | ⟨h, -, -, -, -, h5⟩
    · rw [if_pos h, ← htx 2 (by omega), h]; rfl
    · rw [if_neg (by omega), h5]
  have hst : stB SB d = stX T tx (8 * d) := by
    unfold stB
    rcases I with h | ⟨h, -, -, h3, -, -⟩
    · rw [if_pos h, stX_3 T tx (by omega)]
    · rw [if_neg (by omega), h3]
  have hck : ckB CB d = ckF kd tx (8 * d).toNat := by
    unfold ckB
    rcases I with h | ⟨h, -, -, -, h4, -⟩
    · rw [if_pos h, h]; rfl
    · rw [if_neg (by omega), h4]
  have hdl : 8 * d ≤ 3 + tx 2 := by
    rcases I with h | ⟨h, -, h2, -, -, -⟩ <;> omega
  rw [hca]
  have hen : 0 ≤ enB (3 + tx 2) d ∧ enB (3 + tx 2) d ≤ 8 ∧ (3 + tx 2 - d * 8 ≤ 8 → enB (3 + tx 2) d = 3 + tx 2 - d * 8) ∧ (8 ≤ 3 + tx 2 - d * 8 → enB (3 + tx 2) d = 8) := by
    unfold enB
    split <;> omega
  obtain ⟨e0, e1, e2, e3⟩ := hen
  have hrd := rdF_tx (T := T) (tx := tx) (kd := kd) (v := v) hd hst hck htx (enB (3 + tx 2) d).toNat (by omega)
  rw [Int.toNat_of_nonneg e0] at hrd
  obtain ⟨r1, r2⟩ := hrd
  have r1 : (rdB T kd SB CB v (3 + tx 2) d).1 = stX T tx (8 * d + enB (3 + tx 2) d) := r1
  have r2 : (rdB T kd SB CB v (3 + tx 2) d).1 ≠ 0 → (rdB T kd SB CB v (3 + tx 2) d).2 = ckF kd tx (8 * d + enB (3 + tx 2) d).toNat := r2
  refine ⟨rfl, ⟨fun hf => ?_, fun hg => ?_⟩, fun hg h8 => ?_⟩
  · obtain ⟨f1, f2, ⟨f3, f4⟩, f5⟩ := hf
    have hnz : (rdB T kd SB CB v (3 + tx 2) d).1 ≠ 0 := by
      rcases Int.lt_or_le 8 (3 + tx 2 - d * 8) with q | q
      · exact f4 q
      · intro w
        have := f3 q
        rw [w, zand_z] at this
        exact this rfl
    intro j hj
    refine ⟨fun q => ?_, fun q => ?_, fun q => ?_, fun h3 => ⟨fun hlt => ⟨?_, fun hl => ?_⟩, fun he => ?_, fun hgt => ?_⟩⟩
    · have := htx 0 (by omega)
      rw [show 8 * d + 0 = 0 by omega] at this
      rw [this]; exact (f1 (by omega)).1
    · have := htx 1 (by omega)
      rw [show 8 * d + 1 = 1 by omega] at this
      rw [this]; exact (f1 (by omega)).2.1
    · have := htx 2 (by omega)
      rw [show 8 * d + 2 = 2 by omega] at this
      refine ⟨by rw [this]; exact (f1 (by omega)).2.2, fun hz => ?_⟩
      have h9 := f3 (by omega)
      rw [r1, e2 (by omega), stX_3 T tx (by omega)] at h9
      exact h9
    · refine stX_nz (by omega) ?_ (by rw [← r1]; exact hnz)
      rcases Int.lt_or_le 8 (3 + tx 2 - d * 8) with q | q
      · rw [e3 (by omega)]; omega
      · rw [e2 q]; omega
    · have h9 := f3 (by omega)
      rw [r1, e2 (by omega)] at h9
      rw [show j + 1 = 8 * d + (3 + tx 2 - d * 8) by omega]
      exact h9
    · have h9 := f5 (by omega)
      have h7 := r2 hnz
      rw [e2 (by omega)] at h9 h7
      rw [h7, show (8 * d + (3 + tx 2 - d * 8)).toNat = j.toNat by omega, ← htx _ (by omega), show 8 * d + (3 + tx 2 - d * 8) = j by omega] at h9
      exact h9
    · have h9 := (zb_iff v (e := enB (3 + tx 2) d) (by have := e2 (by omega); omega)).mp (f2 (by omega)) (j - 8 * d) (by have := e2 (by omega); omega)
      rw [← htx _ (by omega), show 8 * d + (j - 8 * d) = j by omega] at h9
      exact h9
  · have hend : 3 + tx 2 - d * 8 ≤ 8 → zand (stX T tx (3 + tx 2)) gl ≠ 0 := by
      intro q
      rcases (show tx 2 = 0 ∨ 0 < tx 2 by omega) with w | w
      · have hd0 : d = 0 := by omega
        have := (hg 2 (by omega)).2.2.1 rfl
        rw [stX_3 T tx (by omega)]
        exact this.2 w
      · by_cases hin : 8 * d ≤ 2 + tx 2
        · have := ((hg (2 + tx 2) (by omega)).2.2.2 (by omega)).1 (by omega)
          have h9 := this.2 rfl
          rw [show 2 + tx 2 + 1 = 3 + tx 2 by omega] at h9
          exact h9
        · rcases I with h | ⟨h, i1, -, -, -, -⟩
          · omega
          · have := ((i1 (2 + tx 2) (by omega)).2.2.2 (by omega)).1 (by omega)
            have h9 := this.2 rfl
            rw [show 2 + tx 2 + 1 = 3 + tx 2 by omega] at h9
            exact h9
    have hnz : (rdB T kd SB CB v (3 + tx 2) d).1 ≠ 0 := by
      rw [r1]
      rcases Int.lt_or_le 8 (3 + tx 2 - d * 8) with q | q
      · rw [e3 (by omega)]
        have := ((hg (8 * d + 7) (by omega)).2.2.2 (by omega)).1 (by omega)
        have h9 := this.1
        rw [show 8 * d + 7 + 1 = 8 * d + 8 by omega] at h9
        exact h9
      · rw [e2 q, show 8 * d + (3 + tx 2 - d * 8) = 3 + tx 2 by omega]
        intro w
        have := hend q
        rw [w, zand_z] at this
        exact this rfl
    refine ⟨fun h0 => ?_, fun hlt => ?_, ⟨fun hle => ?_, fun _ => hnz⟩, fun hlt => ?_⟩
    · have t0 := htx 0 (by omega)
      have t1 := htx 1 (by omega)
      have t2 := htx 2 (by omega)
      rw [show 8 * d + 0 = 0 by omega] at t0
      rw [show 8 * d + 1 = 1 by omega] at t1
      rw [show 8 * d + 2 = 2 by omega] at t2
      rw [← t0, ← t1, ← t2]
      exact ⟨(hg 0 (by omega)).1 rfl, (hg 1 (by omega)).2.1 rfl, ((hg 2 (by omega)).2.2.1 rfl).1⟩
    · refine (zb_iff v (e := enB (3 + tx 2) d) (by have := e2 (by omega); omega)).mpr (fun k hk => ?_)
      have h7 := e2 (by omega)
      rw [← htx k (by omega)]
      exact ((hg (8 * d + k) (by omega)).2.2.2 (by omega)).2.2 (by omega)
    · rw [r1, e2 hle, show 8 * d + (3 + tx 2 - d * 8) = 3 + tx 2 by omega]
      exact hend hle
    · have h7 := e2 (by omega)
      have h9 := ((hg (3 + tx 2) (by omega)).2.2.2 (by omega)).2.1 rfl
      rw [r2 hnz, h7, ← htx _ (by omega), show 8 * d + (3 + tx 2 - d * 8) = 3 + tx 2 by omega]
      exact h9
  · have h7 := e3 (by omega)
    rw [h7] at r1 r2
    refine ⟨r1, r2 ?_⟩
    rw [r1]
    have := ((hg (8 * d + 7) (by omega)).2.2.2 (by omega)).1 (by omega)
    have h9 := this.1
    rw [show 8 * d + 7 + 1 = 8 * d + 8 by omega] at h9
    exact h9
