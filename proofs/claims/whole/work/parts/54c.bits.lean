/-! the count of one bits -/
theorem and_spN {a b m q : Nat} (ha : a < 256) (hm : m < 256) : (a + 256 * b) &&& (m + 256 * q) = (a &&& m) + 256 * (b &&& q) := by
  have h1 : ((a + 256 * b) &&& (m + 256 * q)) % 2 ^ 8 = ((a + 256 * b) % 2 ^ 8) &&& ((m + 256 * q) % 2 ^ 8) := Nat.and_mod_two_pow
  have h2 : ((a + 256 * b) &&& (m + 256 * q)) / 2 ^ 8 = ((a + 256 * b) / 2 ^ 8) &&& ((m + 256 * q) / 2 ^ 8) := Nat.and_div_two_pow
  rw [show (a + 256 * b) % 2 ^ 8 = a by omega, show (m + 256 * q) % 2 ^ 8 = m by omega] at h1
  rw [show (a + 256 * b) / 2 ^ 8 = b by omega, show (m + 256 * q) / 2 ^ 8 = q by omega] at h2
  omega
theorem zand_sp {a b m q : Int} (ha : 0 ≤ a ∧ a < 256) (hb : 0 ≤ b ∧ b < 8388608) (hm : 0 ≤ m ∧ m < 256) (hq : 0 ≤ q) : zand (a + 256 * b) (m + 256 * q) = zand a m + 256 * zand b q := by
  obtain ⟨a', rfl⟩ := Int.eq_ofNat_of_zero_le ha.1
  obtain ⟨b', rfl⟩ := Int.eq_ofNat_of_zero_le hb.1
  obtain ⟨m', rfl⟩ := Int.eq_ofNat_of_zero_le hm.1
  obtain ⟨q', rfl⟩ := Int.eq_ofNat_of_zero_le hq
  rw [zand_nat (a := a') (by omega), zand_nat (a := b') (by omega), show ((a' : Int) + 256 * (b' : Int)) = ((a' + 256 * b' : Nat) : Int) by omega, show ((m' : Int) + 256 * (q' : Int)) = ((m' + 256 * q' : Nat) : Int) by omega, zand_nat (by omega), and_spN (by omega) (by omega)]
  omega
def y1 (v : Int) : Int := v - zand (v / 2) 85
def y2 (v : Int) : Int := zand v 51 + zand (v / 4) 51
def y3 (v : Int) : Int := zand (v + v / 16) 15
def p8 (v : Int) : Int := v % 2 + v / 2 % 2 + v / 4 % 2 + v / 8 % 2 + v / 16 % 2 + v / 32 % 2 + v / 64 % 2 + v / 128 % 2
theorem tab1 : ∀ v : Fin 256, ((0 ≤ y1 (v.val : Int) ∧ y1 (v.val : Int) < 256) ∧ (0 ≤ y2 (y1 (v.val : Int)) ∧ y2 (y1 (v.val : Int)) ≤ 68 ∧ y2 (y1 (v.val : Int)) % 16 ≤ 4) ∧ y3 (y2 (y1 (v.val : Int))) = p8 (v.val : Int)) ∧ zand ((v.val : Int) / 2) 85 = zand ((v.val : Int) / 2 + 128) 85 ∧ zand ((v.val : Int) / 2) 21845 = zand ((v.val : Int) / 2) 85 ∧ zand (v.val : Int) 13107 = zand (v.val : Int) 51 ∧ zand ((v.val : Int) / 4) 13107 = zand ((v.val : Int) / 4) 51 := by decide +kernel
theorem tab2 : ∀ v : Fin 256, ∀ t : Fin 4, zand ((v.val : Int) / 4 + 64 * (t.val : Int)) 51 = zand ((v.val : Int) / 4) 51 := by decide +kernel
theorem tab3 : ∀ v : Fin 69, ∀ t : Fin 5, zand ((v.val : Int) + (v.val : Int) / 16 + 16 * (t.val : Int)) 15 = zand ((v.val : Int) + (v.val : Int) / 16) 15 ∧ zand ((v.val : Int) + (v.val : Int) / 16) 3855 = zand ((v.val : Int) + (v.val : Int) / 16) 15 := by decide +kernel
theorem f256 {v : Int} (h : 0 ≤ v ∧ v < 256) : ∃ n : Fin 256, v = (n.val : Int) := ⟨⟨v.toNat, by omega⟩, by show v = (v.toNat : Int); omega⟩
theorem z2 {x : Int} (h : 0 ≤ x ∧ x < 2147483648) : zushr x 1 = x / 2 := zushr_div 1 h (by decide)
theorem z4 {x : Int} (h : 0 ≤ x ∧ x < 2147483648) : zushr x 2 = x / 4 := zushr_div 2 h (by decide)
theorem z16 {x : Int} (h : 0 ≤ x ∧ x < 2147483648) : zushr x 4 = x / 16 := zushr_div 4 h (by decide)
theorem z256 {x : Int} (h : 0 ≤ x ∧ x < 2147483648) : zushr x 8 = x / 256 := zushr_div 8 h (by decide)
theorem z65536 {x : Int} (h : 0 ≤ x ∧ x < 2147483648) : zushr x 16 = x / 65536 := zushr_div 16 h (by decide)
theorem s1 {a b c : Int} (ha : 0 ≤ a ∧ a < 256) (hb : 0 ≤ b ∧ b < 256) (hc : 0 ≤ c ∧ c < 256) : bc1 (a + 256 * (b + 256 * c)) = y1 a + 256 * (y1 b + 256 * y1 c) := by
  unfold bc1
  obtain ⟨na, rfl⟩ := f256 ha
  obtain ⟨nb, rfl⟩ := f256 hb
  obtain ⟨nc, rfl⟩ := f256 hc
  have ta := tab1 na
  have tb1 := tab1 nb
  have tc := tab1 nc
  rw [z2 (by omega)]
  have e1 : ((na.val : Int) + 256 * ((nb.val : Int) + 256 * (nc.val : Int))) / 2 = ((na.val : Int) / 2 + 128 * ((nb.val : Int) % 2)) + 256 * (((nb.val : Int) / 2 + 128 * ((nc.val : Int) % 2)) + 256 * ((nc.val : Int) / 2)) := by omega
  rw [e1, show (1431655765 : Int) = 85 + 256 * (85 + 256 * 21845) by decide, zand_sp (by omega) (by omega) (by decide) (by decide), zand_sp (by omega) (by omega) (by decide) (by decide)]
  have f1 : ∀ (v : Fin 256) (t : Int), (t = 0 ∨ t = 1) → zand ((v.val : Int) / 2 + 128 * t) 85 = zand ((v.val : Int) / 2) 85 := fun v t ht => by
    rcases ht with rfl | rfl
    · rw [Int.mul_zero, Int.add_zero]
    · rw [Int.mul_one]; exact (tab1 v).2.1.symm
  rw [f1 na _ (by omega), f1 nb _ (by omega), tc.2.2.1]
  unfold y1
  omega
theorem s2 {a b c : Int} (ha : 0 ≤ a ∧ a < 256) (hb : 0 ≤ b ∧ b < 256) (hc : 0 ≤ c ∧ c < 256) : bc2 (a + 256 * (b + 256 * c)) = y2 a + 256 * (y2 b + 256 * y2 c) := by
  unfold bc2
  obtain ⟨na, rfl⟩ := f256 ha
  obtain ⟨nb, rfl⟩ := f256 hb
  obtain ⟨nc, rfl⟩ := f256 hc
  have tc := tab1 nc
  rw [z4 (by omega)]
  have e1 : ((na.val : Int) + 256 * ((nb.val : Int) + 256 * (nc.val : Int))) / 4 = ((na.val : Int) / 4 + 64 * ((nb.val : Int) % 4)) + 256 * (((nb.val : Int) / 4 + 64 * ((nc.val : Int) % 4)) + 256 * ((nc.val : Int) / 4)) := by omega
  rw [e1, show (858993459 : Int) = 51 + 256 * (51 + 256 * 13107) by decide, zand_sp (a := (na.val : Int)) (by omega) (by omega) (by decide) (by decide), zand_sp (a := (nb.val : Int)) (by omega) (by omega) (by decide) (by decide), zand_sp (by omega) (by omega) (by decide) (by decide), zand_sp (by omega) (by omega) (by decide) (by decide)]
  have f1 : ∀ (v : Fin 256) (t : Int), 0 ≤ t ∧ t < 4 → zand ((v.val : Int) / 4 + 64 * t) 51 = zand ((v.val : Int) / 4) 51 := fun v t ht => by
    have h9 := tab2 v ⟨t.toNat, by omega⟩
    rw [show (((⟨t.toNat, by omega⟩ : Fin 4).val : Nat) : Int) = t from Int.toNat_of_nonneg ht.1] at h9
    exact h9
  rw [f1 na _ (by omega), f1 nb _ (by omega), tc.2.2.2.1, tc.2.2.2.2]
  unfold y2
  omega
theorem s3 {a b c : Int} (ha : 0 ≤ a ∧ a ≤ 68) (hb : 0 ≤ b ∧ b ≤ 68 ∧ b % 16 ≤ 4) (hc : 0 ≤ c ∧ c ≤ 68 ∧ c % 16 ≤ 4) : bc3 (a + 256 * (b + 256 * c)) = y3 a + 256 * (y3 b + 256 * y3 c) := by
  unfold bc3
  rw [z16 (by omega)]
  have f1 : ∀ v t : Int, 0 ≤ v ∧ v ≤ 68 → 0 ≤ t ∧ t ≤ 4 → zand (v + v / 16 + 16 * t) 15 = zand (v + v / 16) 15 ∧ zand (v + v / 16) 3855 = zand (v + v / 16) 15 := fun v t hv ht => by
    have h9 := tab3 ⟨v.toNat, by omega⟩ ⟨t.toNat, by omega⟩
    rw [show (((⟨v.toNat, by omega⟩ : Fin 69).val : Nat) : Int) = v from Int.toNat_of_nonneg hv.1, show (((⟨t.toNat, by omega⟩ : Fin 5).val : Nat) : Int) = t from Int.toNat_of_nonneg ht.1] at h9
    exact h9
  have e1 : a + 256 * (b + 256 * c) + (a + 256 * (b + 256 * c)) / 16 = (a + a / 16 + 16 * (b % 16)) + 256 * ((b + b / 16 + 16 * (c % 16)) + 256 * (c + c / 16)) := by omega
  rw [e1, show (252645135 : Int) = 15 + 256 * (15 + 256 * 3855) by decide, zand_sp (by omega) (by omega) (by decide) (by decide), zand_sp (by omega) (by omega) (by decide) (by decide), (f1 a _ ha (by omega)).1, (f1 b _ ⟨hb.1, hb.2.1⟩ (by omega)).1, (f1 c 0 ⟨hc.1, hc.2.1⟩ (by omega)).2]
  rfl
theorem p8_bd {v : Int} (h : 0 ≤ v) : 0 ≤ p8 v ∧ p8 v ≤ 8 := by
  unfold p8
  omega
theorem lo_0 {a u : Int} (ha : 0 ≤ a ∧ a < 256) : (a + 256 * u) / 1 % 2 = a / 1 % 2 := by omega
theorem lo_1 {a u : Int} (ha : 0 ≤ a ∧ a < 256) : (a + 256 * u) / 2 % 2 = a / 2 % 2 := by omega
theorem lo_2 {a u : Int} (ha : 0 ≤ a ∧ a < 256) : (a + 256 * u) / 4 % 2 = a / 4 % 2 := by omega
theorem lo_3 {a u : Int} (ha : 0 ≤ a ∧ a < 256) : (a + 256 * u) / 8 % 2 = a / 8 % 2 := by omega
theorem lo_4 {a u : Int} (ha : 0 ≤ a ∧ a < 256) : (a + 256 * u) / 16 % 2 = a / 16 % 2 := by omega
theorem lo_5 {a u : Int} (ha : 0 ≤ a ∧ a < 256) : (a + 256 * u) / 32 % 2 = a / 32 % 2 := by omega
theorem lo_6 {a u : Int} (ha : 0 ≤ a ∧ a < 256) : (a + 256 * u) / 64 % 2 = a / 64 % 2 := by omega
theorem lo_7 {a u : Int} (ha : 0 ≤ a ∧ a < 256) : (a + 256 * u) / 128 % 2 = a / 128 % 2 := by omega
theorem hi_0 {a u : Int} (ha : 0 ≤ a ∧ a < 256) : (a + 256 * u) / 256 % 2 = u / 1 % 2 := by omega
theorem hi_1 {a u : Int} (ha : 0 ≤ a ∧ a < 256) : (a + 256 * u) / 512 % 2 = u / 2 % 2 := by omega
theorem hi_2 {a u : Int} (ha : 0 ≤ a ∧ a < 256) : (a + 256 * u) / 1024 % 2 = u / 4 % 2 := by omega
theorem hi_3 {a u : Int} (ha : 0 ≤ a ∧ a < 256) : (a + 256 * u) / 2048 % 2 = u / 8 % 2 := by omega
theorem hi_4 {a u : Int} (ha : 0 ≤ a ∧ a < 256) : (a + 256 * u) / 4096 % 2 = u / 16 % 2 := by omega
theorem hi_5 {a u : Int} (ha : 0 ≤ a ∧ a < 256) : (a + 256 * u) / 8192 % 2 = u / 32 % 2 := by omega
theorem hi_6 {a u : Int} (ha : 0 ≤ a ∧ a < 256) : (a + 256 * u) / 16384 % 2 = u / 64 % 2 := by omega
theorem hi_7 {a u : Int} (ha : 0 ≤ a ∧ a < 256) : (a + 256 * u) / 32768 % 2 = u / 128 % 2 := by omega
theorem hi_8 {a u : Int} (ha : 0 ≤ a ∧ a < 256) : (a + 256 * u) / 65536 % 2 = u / 256 % 2 := by omega
theorem hi_9 {a u : Int} (ha : 0 ≤ a ∧ a < 256) : (a + 256 * u) / 131072 % 2 = u / 512 % 2 := by omega
theorem hi_10 {a u : Int} (ha : 0 ≤ a ∧ a < 256) : (a + 256 * u) / 262144 % 2 = u / 1024 % 2 := by omega
theorem hi_11 {a u : Int} (ha : 0 ≤ a ∧ a < 256) : (a + 256 * u) / 524288 % 2 = u / 2048 % 2 := by omega
theorem hi_12 {a u : Int} (ha : 0 ≤ a ∧ a < 256) : (a + 256 * u) / 1048576 % 2 = u / 4096 % 2 := by omega
theorem hi_13 {a u : Int} (ha : 0 ≤ a ∧ a < 256) : (a + 256 * u) / 2097152 % 2 = u / 8192 % 2 := by omega
theorem hi_14 {a u : Int} (ha : 0 ≤ a ∧ a < 256) : (a + 256 * u) / 4194304 % 2 = u / 16384 % 2 := by omega
theorem hi_15 {a u : Int} (ha : 0 ≤ a ∧ a < 256) : (a + 256 * u) / 8388608 % 2 = u / 32768 % 2 := by omega
theorem pc_3 {a b c : Int} (ha : 0 ≤ a ∧ a < 256) (hb : 0 ≤ b ∧ b < 256) (hc : 0 ≤ c ∧ c < 256) : pcZ (a + 256 * (b + 256 * c)) = p8 a + p8 b + p8 c := by
  show 0 + (a + 256 * (b + 256 * c)) / 1 % 2 + (a + 256 * (b + 256 * c)) / 2 % 2 + (a + 256 * (b + 256 * c)) / 4 % 2 + (a + 256 * (b + 256 * c)) / 8 % 2 + (a + 256 * (b + 256 * c)) / 16 % 2 + (a + 256 * (b + 256 * c)) / 32 % 2 + (a + 256 * (b + 256 * c)) / 64 % 2 + (a + 256 * (b + 256 * c)) / 128 % 2 + (a + 256 * (b + 256 * c)) / 256 % 2 + (a + 256 * (b + 256 * c)) / 512 % 2 + (a + 256 * (b + 256 * c)) / 1024 % 2 + (a + 256 * (b + 256 * c)) / 2048 % 2 + (a + 256 * (b + 256 * c)) / 4096 % 2 + (a + 256 * (b + 256 * c)) / 8192 % 2 + (a + 256 * (b + 256 * c)) / 16384 % 2 + (a + 256 * (b + 256 * c)) / 32768 % 2 + (a + 256 * (b + 256 * c)) / 65536 % 2 + (a + 256 * (b + 256 * c)) / 131072 % 2 + (a + 256 * (b + 256 * c)) / 262144 % 2 + (a + 256 * (b + 256 * c)) / 524288 % 2 + (a + 256 * (b + 256 * c)) / 1048576 % 2 + (a + 256 * (b + 256 * c)) / 2097152 % 2 + (a + 256 * (b + 256 * c)) / 4194304 % 2 + (a + 256 * (b + 256 * c)) / 8388608 % 2 = _
  rw [lo_0 (a := a) ha, lo_1 (a := a) ha, lo_2 (a := a) ha, lo_3 (a := a) ha, lo_4 (a := a) ha, lo_5 (a := a) ha, lo_6 (a := a) ha, lo_7 (a := a) ha, hi_0 (a := a) ha, hi_1 (a := a) ha, hi_2 (a := a) ha, hi_3 (a := a) ha, hi_4 (a := a) ha, hi_5 (a := a) ha, hi_6 (a := a) ha, hi_7 (a := a) ha, hi_8 (a := a) ha, hi_9 (a := a) ha, hi_10 (a := a) ha, hi_11 (a := a) ha, hi_12 (a := a) ha, hi_13 (a := a) ha, hi_14 (a := a) ha, hi_15 (a := a) ha]
  rw [lo_0 (a := b) hb, lo_1 (a := b) hb, lo_2 (a := b) hb, lo_3 (a := b) hb, lo_4 (a := b) hb, lo_5 (a := b) hb, lo_6 (a := b) hb, lo_7 (a := b) hb, hi_0 (a := b) hb, hi_1 (a := b) hb, hi_2 (a := b) hb, hi_3 (a := b) hb, hi_4 (a := b) hb, hi_5 (a := b) hb, hi_6 (a := b) hb, hi_7 (a := b) hb, Int.zero_add]
  unfold p8
  rw [Int.ediv_one, Int.ediv_one, Int.ediv_one]
  simp only [Int.add_assoc]
theorem bc_pc {x : Int} (h : 0 ≤ x ∧ x < 16777216) : bcZ x = pcZ x := by
  obtain ⟨a, b, c, ha, hb, hc, e⟩ : ∃ a b c : Int, (0 ≤ a ∧ a < 256) ∧ (0 ≤ b ∧ b < 256) ∧ (0 ≤ c ∧ c < 256) ∧ x = a + 256 * (b + 256 * c) := ⟨x % 256, x / 256 % 256, x / 65536, by omega, by omega, by omega, by omega⟩
  have tt : ∀ v : Int, 0 ≤ v ∧ v < 256 → (0 ≤ y1 v ∧ y1 v < 256) ∧ (0 ≤ y2 (y1 v) ∧ y2 (y1 v) ≤ 68 ∧ y2 (y1 v) % 16 ≤ 4) ∧ y3 (y2 (y1 v)) = p8 v := fun v hv => by
    obtain ⟨n, rfl⟩ := f256 hv
    exact (tab1 n).1
  obtain ⟨a1, a2, a3⟩ := tt a ha
  obtain ⟨b1, b2, b3⟩ := tt b hb
  obtain ⟨c1, c2, c3⟩ := tt c hc
  have pa := p8_bd ha.1
  have pb := p8_bd hb.1
  have pc := p8_bd hc.1
  have e5 : bcZ x = p8 a + p8 b + p8 c := by
    unfold bcZ
    rw [e, s1 ha hb hc, s2 a1 b1 c1, s3 ⟨a2.1, a2.2.1⟩ b2 c2, a3, b3, c3]
    unfold bc5 bc4
    rw [z256 (by omega)]
    have e6 : p8 a + 256 * (p8 b + 256 * p8 c) + (p8 a + 256 * (p8 b + 256 * p8 c)) / 256 = (p8 a + p8 b) + 256 * (p8 b + p8 c) + 65536 * p8 c := by omega
    rw [e6, z65536 (by omega)]
    have e7 : (p8 a + p8 b) + 256 * (p8 b + p8 c) + 65536 * p8 c + ((p8 a + p8 b) + 256 * (p8 b + p8 c) + 65536 * p8 c) / 65536 = (p8 a + p8 b + p8 c) + 256 * (p8 b + p8 c) + 65536 * p8 c := by omega
    rw [e7, show zand ((p8 a + p8 b + p8 c) + 256 * (p8 b + p8 c) + 65536 * p8 c) 63 = ((p8 a + p8 b + p8 c) + 256 * (p8 b + p8 c) + 65536 * p8 c) % 64 from zand_mod 6 (by omega)]
    omega
  have e8 : pcZ x = p8 a + p8 b + p8 c := by rw [e]; exact pc_3 ha hb hc
  rw [e5, e8]
