/-! a make's machine and its checks, in whole numbers -/
def addE (T : Int → Int) (fr lo hi bt : Int) : Int → Int := fun j => if j % 16 = fr ∧ lo ≤ j / 16 ∧ j / 16 ≤ hi then zor (T j) bt else T j
theorem addE_0 (T : Int → Int) (fr lo bt : Int) : addE T fr lo (lo - 1) bt = T := by
  funext j
  exact if_neg (by omega)
theorem addE_s (T : Int → Int) {fr lo hi bt : Int} (h : 0 ≤ fr ∧ fr < 16) (hl : lo ≤ hi + 1) : zup (addE T fr lo hi bt) ((hi + 1) * 16 + fr) (zor (addE T fr lo hi bt ((hi + 1) * 16 + fr)) bt) = addE T fr lo (hi + 1) bt := by
  funext j
  by_cases q : j = (hi + 1) * 16 + fr
  · subst q
    rw [zup_s]
    unfold addE
    rw [if_neg (by omega), if_pos (by omega)]
  · rw [zup_n _ _ q]
    unfold addE
    by_cases w : j % 16 = fr ∧ lo ≤ j / 16 ∧ j / 16 ≤ hi
    · rw [if_pos w, if_pos (by omega)]
    · rw [if_neg w, if_neg (by omega)]
def stepZ (T : Int → Int) (v st : Int) : Int := orS (fun k => T (v * 16 + k)) st 16
theorem stepZ_bd {T : Int → Int} (hT : ∀ j : Int, 0 ≤ j ∧ j < 4096 → 0 ≤ T j ∧ T j < 65536) {v : Int} (hv : 0 ≤ v ∧ v < 256) (st : Int) : 0 ≤ stepZ T v st ∧ stepZ T v st < 65536 := orS_bd 16 (fun j hj => hT _ (by omega))
theorem orS_1 {g : Int → Int} {st i nx : Int} (hi : 0 ≤ i) (hn : nx = orS g st i.toNat) (hb : st / ((2 ^ i.toNat : Nat) : Int) % 2 = 1) : zor nx (g i) = orS g st (i + 1).toNat := by
  rw [show (i + 1).toNat = i.toNat + 1 by omega]
  show _ = if _ then _ else _
  rw [if_pos hb, hn, Int.toNat_of_nonneg hi]
theorem orS_2 {g : Int → Int} {st i nx : Int} (hi : 0 ≤ i) (hn : nx = orS g st i.toNat) (hb : st / ((2 ^ i.toNat : Nat) : Int) % 2 ≠ 1) : nx = orS g st (i + 1).toNat := by
  rw [show (i + 1).toNat = i.toNat + 1 by omega]
  show _ = if _ then _ else _
  rw [if_neg hb, hn]
theorem half_s {st i : Int} (hi : 0 ≤ i) (h0 : 0 ≤ st) : st / ((2 ^ i.toNat : Nat) : Int) / 2 = st / ((2 ^ (i + 1).toNat : Nat) : Int) := by
  rw [show (i + 1).toNat = i.toNat + 1 by omega]
  obtain ⟨n, rfl⟩ := Int.eq_ofNat_of_zero_le h0
  have : n / 2 ^ i.toNat / 2 = n / 2 ^ (i.toNat + 1) := by rw [Nat.div_div_eq_div_mul, Nat.pow_succ]
  omega
def crcZ (x : Int) : Int := zand (zxor (zxor (zxor (zxor (zxor x (zshl x 1)) (zshl x 2)) (zushr (zxor (zxor x (zshl x 1)) (zshl x 2)) 8)) (zshl (zushr (zxor (zxor x (zshl x 1)) (zshl x 2)) 8) 1)) (zshl (zushr (zxor (zxor x (zshl x 1)) (zshl x 2)) 8) 2)) 255
def ckZ (kd c v : Int) : Int := if kd = 0 then zand (c + v) 255 else if kd = 1 then zxor c v else crcZ (zxor c v)
theorem crcZ_tab : ∀ n : Fin 256, 0 ≤ crcZ (n.val : Int) ∧ crcZ (n.val : Int) < 256 := by decide +kernel
theorem crcZ_bd {x : Int} (h : 0 ≤ x ∧ x < 256) : 0 ≤ crcZ x ∧ crcZ x < 256 := by
  obtain ⟨n, rfl⟩ := Int.eq_ofNat_of_zero_le h.1
  exact crcZ_tab ⟨n, by omega⟩
theorem ckZ_bd {kd c v : Int} (hc : 0 ≤ c ∧ c < 256) (hv : 0 ≤ v ∧ v < 256) : 0 ≤ ckZ kd c v ∧ ckZ kd c v < 256 := by
  unfold ckZ
  split
  · rw [zand_255 (by omega)]; omega
  · have := zxor_bd 8 (by decide) hc hv
    split
    · exact this
    · exact crcZ_bd this
/-- the states behind the first k bytes of a row of data -/
def runS (T : Int → Int) (hd : Int → Int) : Nat → Int
  | 0 => 1
  | k + 1 => stepZ T (hd (k : Int)) (runS T hd k)
theorem runS_bd {T hd : Int → Int} (hT : ∀ j : Int, 0 ≤ j ∧ j < 4096 → 0 ≤ T j ∧ T j < 65536) : ∀ k : Nat, (∀ j : Int, 0 ≤ j ∧ j < (k : Int) → 0 ≤ hd j ∧ hd j < 256) → 0 ≤ runS T hd k ∧ runS T hd k < 65536 := by
  intro k
  cases k with
  | zero => intro _; exact ⟨by show (0 : Int) ≤ 1; decide, by show (1 : Int) < 65536; decide⟩
  | succ k => intro h; exact stepZ_bd hT (h k (by omega)) _
theorem runS_s {T hd : Int → Int} {i x : Int} (hi : 0 ≤ i) (hx : x = runS T hd i.toNat) : stepZ T (hd i) x = runS T hd (i + 1).toNat := by
  rw [show (i + 1).toNat = i.toNat + 1 by omega]
  show _ = stepZ T (hd (i.toNat : Int)) (runS T hd i.toNat)
  rw [hx, Int.toNat_of_nonneg hi]
/-- the check of the first k bytes -/
def ckF (kd : Int) (tx : Int → Int) : Nat → Int
  | 0 => 0
  | k + 1 => ckZ kd (ckF kd tx k) (tx (k : Int))
theorem ckF_s {kd : Int} {tx : Int → Int} {i x : Int} (hi : 0 ≤ i) (hx : x = ckF kd tx i.toNat) : ckZ kd x (tx i) = ckF kd tx (i + 1).toNat := by
  rw [show (i + 1).toNat = i.toNat + 1 by omega]
  show _ = ckZ kd (ckF kd tx i.toNat) (tx (i.toNat : Int))
  rw [hx, Int.toNat_of_nonneg hi]
theorem ckF_bd {kd : Int} {tx : Int → Int} : ∀ k : Nat, (∀ j : Int, 0 ≤ j ∧ j < (k : Int) → 0 ≤ tx j ∧ tx j < 256) → 0 ≤ ckF kd tx k ∧ ckF kd tx k < 256 := by
  intro k
  induction k with
  | zero => intro _; exact ⟨Int.le_refl 0, by show (0 : Int) < 256; decide⟩
  | succ k ih => intro h; exact ckZ_bd (ih (fun j hj => h j (by omega))) (h k (by omega))
theorem ckF_cg {kd : Int} {tx tx' : Int → Int} : ∀ k : Nat, (∀ j : Int, 0 ≤ j ∧ j < (k : Int) → tx j = tx' j) → ckF kd tx k = ckF kd tx' k := by
  intro k
  induction k with
  | zero => intro _; rfl
  | succ k ih => intro h; show ckZ kd (ckF kd tx k) (tx k) = ckZ kd (ckF kd tx' k) (tx' k); rw [ih (fun j hj => h j (by omega)), h k (by omega)]
/-- the bytes of a file with the row hd of n bytes as data: ahead of the check; all -/
def txA (a b n : Int) (hd : Int → Int) : Int → Int := fun j => if 3 ≤ j then hd (j - 3) else if j = 2 then n else if j = 0 then a else b
def txF (kd a b n : Int) (hd : Int → Int) : Int → Int := fun j => if j < 3 + n then txA a b n hd j else if j = 3 + n then ckF kd (txA a b n hd) (3 + n).toNat else 0
/-- eight bytes as one number -/
def lgF (tx : Int → Int) (b : Int) : Nat → Int64
  | 0 => 0
  | k + 1 => zlshl (lgF tx b k) 8 ||| zi2l (tx (b * 8 + (k : Int)))
theorem lgF_s {tx : Int → Int} {b i : Int} {x : Int64} (hi : 0 ≤ i) (hx : x = lgF tx b i.toNat) : zlshl x 8 ||| zi2l (tx (b * 8 + i)) = lgF tx b (i + 1).toNat := by
  rw [show (i + 1).toNat = i.toNat + 1 by omega]
  show _ = zlshl (lgF tx b i.toNat) 8 ||| zi2l (tx (b * 8 + (i.toNat : Int)))
  rw [hx, Int.toNat_of_nonneg hi]
theorem txA_bd {a b n : Int} {hd : Int → Int} (ha : 0 ≤ a ∧ a < 256) (hb : 0 ≤ b ∧ b < 256) (hn : 0 ≤ n ∧ n ≤ 36) (hh : ∀ j : Int, 0 ≤ j ∧ j < n → 0 ≤ hd j ∧ hd j < 256) {j : Int} (hj : 0 ≤ j ∧ j < 3 + n) : 0 ≤ txA a b n hd j ∧ txA a b n hd j < 256 := by
  unfold txA
  split
  · exact hh _ (by omega)
  · split
    · omega
    · split <;> omega
