/-! bits of numbers that are not negative -/
theorem iI_n (n : Nat) : iI (n : Int) = nI n := (iI_nat n).symm
theorem iI_s_l : ∀ n, n < 32 → ((nI n &&& 31).toBitVec.smod 32).toNat = n := by decide +kernel
theorem iI_s_u : ∀ n, n < 32 → (((nI n).toUInt32 &&& Int32.toUInt32 31).toBitVec % 32).toNat = n := by decide +kernel
theorem nI_and (a b : Nat) : nI a &&& nI b = nI (a &&& b) := by
  apply Int32.toBitVec_inj.1
  show BitVec.ofNat 32 a &&& BitVec.ofNat 32 b = BitVec.ofNat 32 (a &&& b)
  apply BitVec.eq_of_getLsbD_eq
  intro i hi
  simp [hi]
theorem nI_xor (a b : Nat) : nI a ^^^ nI b = nI (a ^^^ b) := by
  apply Int32.toBitVec_inj.1
  show BitVec.ofNat 32 a ^^^ BitVec.ofNat 32 b = BitVec.ofNat 32 (a ^^^ b)
  apply BitVec.eq_of_getLsbD_eq
  intro i hi
  simp [hi]
theorem nI_or (a b : Nat) : nI a ||| nI b = nI (a ||| b) := by
  apply Int32.toBitVec_inj.1
  show BitVec.ofNat 32 a ||| BitVec.ofNat 32 b = BitVec.ofNat 32 (a ||| b)
  apply BitVec.eq_of_getLsbD_eq
  intro i hi
  simp [hi]
theorem zand_nat {a b : Nat} (h : a < 2147483648) : zand (a : Int) (b : Int) = ((a &&& b : Nat) : Int) := by
  show (iI a &&& iI b).toInt = _
  rw [iI_n, iI_n, nI_and, nI_toInt (Nat.lt_of_le_of_lt Nat.and_le_left h)]
theorem zor_nat {a b : Nat} (ha : a < 2147483648) (hb : b < 2147483648) : zor (a : Int) (b : Int) = ((a ||| b : Nat) : Int) := by
  show (iI a ||| iI b).toInt = _
  rw [iI_n, iI_n, nI_or, nI_toInt (Nat.or_lt_two_pow (n := 31) ha hb)]
theorem zxor_nat {a b : Nat} (ha : a < 2147483648) (hb : b < 2147483648) : zxor (a : Int) (b : Int) = ((a ^^^ b : Nat) : Int) := by
  show (iI a ^^^ iI b).toInt = _
  rw [iI_n, iI_n, nI_xor, nI_toInt (Nat.xor_lt_two_pow (n := 31) ha hb)]
theorem zand_mod {a : Int} (k : Nat) (h : 0 ≤ a ∧ a < 2147483648) : zand a ((2 ^ k - 1 : Nat) : Int) = a % ((2 ^ k : Nat) : Int) := by
  obtain ⟨n, rfl⟩ := Int.eq_ofNat_of_zero_le h.1
  rw [zand_nat (by omega), Nat.and_two_pow_sub_one_eq_mod, Int.natCast_emod]
theorem zand_255 {a : Int} (h : 0 ≤ a ∧ a < 2147483648) : zand a 255 = a % 256 := zand_mod 8 h
theorem zand_1 {a : Int} (h : 0 ≤ a ∧ a < 2147483648) : zand a 1 = a % 2 := zand_mod 1 h
theorem zand_31 {a : Int} (h : 0 ≤ a ∧ a < 2147483648) : zand a 31 = a % 32 := zand_mod 5 h
theorem zand_7 {a : Int} (h : 0 ≤ a ∧ a < 2147483648) : zand a 7 = a % 8 := zand_mod 3 h
theorem zand_bd {a b : Int} (ha : 0 ≤ a ∧ a < 2147483648) (hb : 0 ≤ b) : 0 ≤ zand a b ∧ zand a b ≤ a := by
  obtain ⟨n, rfl⟩ := Int.eq_ofNat_of_zero_le ha.1
  obtain ⟨k, rfl⟩ := Int.eq_ofNat_of_zero_le hb
  rw [zand_nat (by omega)]
  have := @Nat.and_le_left n k
  omega
theorem zor_bd {a b : Int} (k : Nat) (hk : k ≤ 31) (ha : 0 ≤ a ∧ a < ((2 ^ k : Nat) : Int)) (hb : 0 ≤ b ∧ b < ((2 ^ k : Nat) : Int)) : 0 ≤ zor a b ∧ zor a b < ((2 ^ k : Nat) : Int) := by
  obtain ⟨n, rfl⟩ := Int.eq_ofNat_of_zero_le ha.1
  obtain ⟨j, rfl⟩ := Int.eq_ofNat_of_zero_le hb.1
  have h2 : (2 : Nat) ^ k ≤ 2147483648 := Nat.pow_le_pow_right (n := 2) (by decide) hk
  rw [zor_nat (by omega) (by omega)]
  have := Nat.or_lt_two_pow (n := k) (x := n) (y := j) (by omega) (by omega)
  omega
theorem zxor_bd {a b : Int} (k : Nat) (hk : k ≤ 31) (ha : 0 ≤ a ∧ a < ((2 ^ k : Nat) : Int)) (hb : 0 ≤ b ∧ b < ((2 ^ k : Nat) : Int)) : 0 ≤ zxor a b ∧ zxor a b < ((2 ^ k : Nat) : Int) := by
  obtain ⟨n, rfl⟩ := Int.eq_ofNat_of_zero_le ha.1
  obtain ⟨j, rfl⟩ := Int.eq_ofNat_of_zero_le hb.1
  have h2 : (2 : Nat) ^ k ≤ 2147483648 := Nat.pow_le_pow_right (n := 2) (by decide) hk
  rw [zxor_nat (by omega) (by omega)]
  have := Nat.xor_lt_two_pow (n := k) (x := n) (y := j) (by omega) (by omega)
  omega
theorem zushr_div {a : Int} (k : Nat) (h : 0 ≤ a ∧ a < 2147483648) (hk : k < 32) : zushr a (k : Int) = a / ((2 ^ k : Nat) : Int) := by
  obtain ⟨n, rfl⟩ := Int.eq_ofNat_of_zero_le h.1
  show ((iI n).toUInt32 >>> ((iI k).toUInt32 &&& Int32.toUInt32 31)).toInt32.toInt = _
  rw [iI_n, iI_n, pk_ushrN (by omega) _ k (iI_s_u k hk), nI_toInt (Nat.lt_of_le_of_lt (Nat.div_le_self _ _) (by omega)), Int.natCast_ediv]
theorem zshr_div {a : Int} (k : Nat) (h : 0 ≤ a ∧ a < 2147483648) (hk : k < 32) : zshr a (k : Int) = a / ((2 ^ k : Nat) : Int) := by
  obtain ⟨n, rfl⟩ := Int.eq_ofNat_of_zero_le h.1
  show (iI n >>> (iI k &&& 31)).toInt = _
  rw [iI_n, iI_n, pk_shrN (by omega) _ k (iI_s_l k hk), nI_toInt (Nat.lt_of_le_of_lt (Nat.div_le_self _ _) (by omega)), Int.natCast_ediv]
theorem zshl_mul {a : Int} (k : Nat) (h : 0 ≤ a) (hk : k < 32) (h2 : a * ((2 ^ k : Nat) : Int) < 2147483648) : zshl a (k : Int) = a * ((2 ^ k : Nat) : Int) := by
  obtain ⟨n, rfl⟩ := Int.eq_ofNat_of_zero_le h
  show (iI n <<< (iI k &&& 31)).toInt = _
  have h3 : n * 2 ^ k < 2147483648 := by
    have : ((n * 2 ^ k : Nat) : Int) < 2147483648 := by rw [Int.natCast_mul]; exact h2
    omega
  rw [iI_n, iI_n, pk_shlN _ k (iI_s_l k hk) (by omega), nI_toInt (by omega), Int.natCast_mul]
theorem zdiv_nat {a b : Int} (h : 0 ≤ a ∧ a < 2147483648) (hb : 0 < b ∧ b < 2147483648) : zdiv a b = a / b := by
  obtain ⟨n, rfl⟩ := Int.eq_ofNat_of_zero_le h.1
  obtain ⟨j, rfl⟩ := Int.eq_ofNat_of_zero_le (a := b) (by omega)
  show (iI n / iI j).toInt = _
  rw [iI_n, iI_n, pk_div (by omega) (by omega) (by omega), nI_toInt (Nat.lt_of_le_of_lt (Nat.div_le_self _ _) (by omega)), Int.natCast_ediv]
theorem zrem_nat {a b : Int} (h : 0 ≤ a ∧ a < 2147483648) (hb : 0 < b ∧ b < 2147483648) : zrem a b = a % b := by
  obtain ⟨n, rfl⟩ := Int.eq_ofNat_of_zero_le h.1
  obtain ⟨j, rfl⟩ := Int.eq_ofNat_of_zero_le (a := b) (by omega)
  show (iI n - iI n / iI j * iI j).toInt = _
  rw [iI_n, iI_n, pk_rem (by omega) (by omega) (by omega), nI_toInt (Nat.lt_of_le_of_lt (Nat.mod_le _ _) (by omega)), Int.natCast_emod]
/-- 1 << k, k from 0 to 30 -/
theorem zshl1 {k : Int} (h : 0 ≤ k ∧ k < 31) : zshl 1 k = ((2 ^ k.toNat : Nat) : Int) := by
  obtain ⟨n, rfl⟩ := Int.eq_ofNat_of_zero_le h.1
  have h2 : (2 : Nat) ^ n < 2147483648 := Nat.pow_lt_pow_right (a := 2) (by decide) (show n < 31 by omega)
  have := zshl_mul (a := 1) n (by omega) (by omega) (by omega)
  rw [this]
  simp
/-- the states that can be behind a byte -/
def orS (g : Int → Int) (st : Int) : Nat → Int
  | 0 => 0
  | k + 1 => if st / ((2 ^ k : Nat) : Int) % 2 = 1 then zor (orS g st k) (g (k : Int)) else orS g st k
theorem orS_end (g : Int → Int) (st : Int) {k : Nat} (h : st / ((2 ^ k : Nat) : Int) = 0) (h0 : 0 ≤ st) : ∀ j, orS g st (k + j) = orS g st k := by
  intro j
  induction j with
  | zero => rfl
  | succ j ih =>
    show (if st / ((2 ^ (k + j) : Nat) : Int) % 2 = 1 then _ else _) = _
    have hz : st / ((2 ^ (k + j) : Nat) : Int) = 0 := by
      have h1 : st < ((2 ^ k : Nat) : Int) := by
        rcases Int.lt_or_le st ((2 ^ k : Nat) : Int) with q | q
        · exact q
        · have hp : (0 : Int) < ((2 ^ k : Nat) : Int) := by exact Int.natCast_pos.mpr (Nat.two_pow_pos k)
          have := Int.le_ediv_of_mul_le hp (by rw [Int.one_mul]; exact q)
          omega
      refine Int.ediv_eq_zero_of_lt h0 (Int.lt_of_lt_of_le h1 ?_)
      exact Int.ofNat_le.mpr (Nat.pow_le_pow_right (by decide) (Nat.le_add_right k j))
    rw [hz, if_neg (by decide)]
    exact ih
theorem orS_cg {g g' : Int → Int} {st : Int} : ∀ k : Nat, (∀ j : Int, 0 ≤ j ∧ j < (k : Int) → g j = g' j) → orS g st k = orS g' st k := by
  intro k
  induction k with
  | zero => intro _; rfl
  | succ k ih =>
    intro h
    show (if _ then zor (orS g st k) (g k) else orS g st k) = if _ then zor (orS g' st k) (g' k) else orS g' st k
    rw [ih (fun j hj => h j (by omega)), h k (by omega)]
theorem orS_bd {g : Int → Int} {st : Int} : ∀ k : Nat, (∀ j : Int, 0 ≤ j ∧ j < (k : Int) → 0 ≤ g j ∧ g j < 65536) → 0 ≤ orS g st k ∧ orS g st k < 65536 := by
  intro k
  induction k with
  | zero => intro _; exact ⟨Int.le_refl 0, by show (0 : Int) < 65536; decide⟩
  | succ k ih =>
    intro h
    have h1 := ih (fun j hj => h j (by omega))
    show 0 ≤ (if _ then zor (orS g st k) (g k) else orS g st k) ∧ (if _ then zor (orS g st k) (g k) else orS g st k) < 65536
    split
    · exact zor_bd 16 (by decide) h1 (h k (by omega))
    · exact h1
