/-! numbers of 32 bits as whole numbers: iI z is the machine's int of z -/
def iI (z : Int) : Int32 := Int32.ofInt z
theorem iI_of (x : Int32) : iI x.toInt = x := Int32.ofInt_toInt x
theorem iI_add (a b : Int) : iI a + iI b = iI (a + b) := (Int32.ofInt_add a b).symm
theorem iI_sub (a b : Int) : iI a - iI b = iI (a - b) := (Int32.ofInt_sub a b).symm
theorem iI_mul (a b : Int) : iI a * iI b = iI (a * b) := (Int32.ofInt_mul a b).symm
theorem iI_neg (a : Int) : - iI a = iI (-a) := (Int32.ofInt_neg a).symm
theorem iI_toInt {z : Int} (h : -2147483648 ≤ z ∧ z < 2147483648) : (iI z).toInt = z := Int32.toInt_ofInt_of_le (by exact h.1) (by exact h.2)
theorem iI_rng (x : Int32) : -2147483648 ≤ x.toInt ∧ x.toInt < 2147483648 := ⟨Int32.le_toInt x, Int32.toInt_lt x⟩
theorem iI_nat (n : Nat) : Int32.ofNat n = iI n := Int32.ofInt_eq_ofNat.symm
abbrev r2 (a b : Int) : Prop := (-2147483648 ≤ a ∧ a < 2147483648) ∧ (-2147483648 ≤ b ∧ b < 2147483648)
theorem iI_lt {a b : Int} (h : r2 a b) : iI a < iI b ↔ a < b := by rw [Int32.lt_iff_toInt_lt, iI_toInt h.1, iI_toInt h.2]
theorem iI_le {a b : Int} (h : r2 a b) : iI a ≤ iI b ↔ a ≤ b := by rw [Int32.le_iff_toInt_le, iI_toInt h.1, iI_toInt h.2]
theorem iI_eq {a b : Int} (h : r2 a b) : iI a = iI b ↔ a = b := by
  rw [← Int32.toInt_inj, iI_toInt h.1, iI_toInt h.2]
theorem iI_clamp {z : Int} (h : 0 ≤ z ∧ z < 2147483648) : (iI z).toNatClampNeg = z.toNat := by
  show (iI z).toInt.toNat = z.toNat
  rw [iI_toInt ⟨by omega, h.2⟩]
theorem iI_nneg {z : Int} (h : 0 ≤ z ∧ z < 2147483648) : ¬ iI z < 0 := fun q => by
  have := (iI_lt (a := z) (b := 0) ⟨⟨by omega, h.2⟩, by omega⟩).mp q
  omega
theorem iI_in {z : Int} {n : Nat} (h : 0 ≤ z ∧ z < (n : Int)) (hn : n < 2147483648) : vp_in (iI z) n := by
  rintro (q | q)
  · exact iI_nneg ⟨h.1, by omega⟩ q
  · rw [iI_clamp ⟨h.1, by omega⟩] at q
    omega
def zand (a b : Int) : Int := (iI a &&& iI b).toInt
def zor (a b : Int) : Int := (iI a ||| iI b).toInt
def zxor (a b : Int) : Int := (iI a ^^^ iI b).toInt
def zshl (a b : Int) : Int := (iI a <<< (iI b &&& 31)).toInt
def zshr (a b : Int) : Int := (iI a >>> (iI b &&& 31)).toInt
def zushr (a b : Int) : Int := ((iI a).toUInt32 >>> ((iI b).toUInt32 &&& Int32.toUInt32 31)).toInt32.toInt
def zdiv (a b : Int) : Int := (iI a / iI b).toInt
def zrem (a b : Int) : Int := (iI a - iI a / iI b * iI b).toInt
def zl2i (x : Int64) : Int := x.toInt32.toInt
theorem zand_rng (a b : Int) : -2147483648 ≤ zand a b ∧ zand a b < 2147483648 := iI_rng _
theorem zor_rng (a b : Int) : -2147483648 ≤ zor a b ∧ zor a b < 2147483648 := iI_rng _
theorem zxor_rng (a b : Int) : -2147483648 ≤ zxor a b ∧ zxor a b < 2147483648 := iI_rng _
theorem zshl_rng (a b : Int) : -2147483648 ≤ zshl a b ∧ zshl a b < 2147483648 := iI_rng _
theorem zshr_rng (a b : Int) : -2147483648 ≤ zshr a b ∧ zshr a b < 2147483648 := iI_rng _
theorem zushr_rng (a b : Int) : -2147483648 ≤ zushr a b ∧ zushr a b < 2147483648 := iI_rng _
theorem zdiv_rng (a b : Int) : -2147483648 ≤ zdiv a b ∧ zdiv a b < 2147483648 := iI_rng _
theorem zrem_rng (a b : Int) : -2147483648 ≤ zrem a b ∧ zrem a b < 2147483648 := iI_rng _
theorem zl2i_rng (x : Int64) : -2147483648 ≤ zl2i x ∧ zl2i x < 2147483648 := iI_rng _
/-- rows of ints, of longs, of references, by whole numbers -/
def zA (F : Int → Int) : Nat → Int32 := fun k => iI (F (k : Int))
def zG {α : Type} (F : Int → α) : Nat → α := fun k => F (k : Int)
def zup {α : Type} (F : Int → α) (i : Int) (v : α) : Int → α := fun j => if j = i then v else F j
theorem zA_at {F : Int → Int} {i : Int} (h : 0 ≤ i ∧ i < 2147483648) : zA F (iI i).toNatClampNeg = iI (F i) := by
  show iI (F ((iI i).toNatClampNeg : Int)) = _
  rw [iI_clamp h, Int.toNat_of_nonneg h.1]
theorem zG_at {α : Type} {F : Int → α} {i : Int} (h : 0 ≤ i ∧ i < 2147483648) : zG F (iI i).toNatClampNeg = F i := by
  show F ((iI i).toNatClampNeg : Int) = _
  rw [iI_clamp h, Int.toNat_of_nonneg h.1]
theorem zA_up {F : Int → Int} {i v : Int} (h : 0 ≤ i ∧ i < 2147483648) : upd (zA F) (iI i).toNatClampNeg (iI v) = zA (zup F i v) := by
  funext k
  rw [iI_clamp h]
  by_cases q : k = i.toNat
  · subst q
    simp [upd, zA, zup, Int.toNat_of_nonneg h.1]
  · have q2 : ¬ (k : Int) = i := by omega
    simp [upd, zA, zup, q, q2]
theorem zG_upL {F : Int → Int64} {i : Int} {v : Int64} (h : 0 ≤ i ∧ i < 2147483648) : vp_updL (zG F) (iI i).toNatClampNeg v = zG (zup F i v) := by
  funext k
  rw [iI_clamp h]
  by_cases q : k = i.toNat
  · subst q
    simp [vp_updL, zG, zup, Int.toNat_of_nonneg h.1]
  · have q2 : ¬ (k : Int) = i := by omega
    simp [vp_updL, zG, zup, q, q2]
theorem zG_up {α : Type} {F : Int → α} {i : Int} {v : α} (h : 0 ≤ i ∧ i < 2147483648) : va_up (zG F) (iI i).toNatClampNeg v = zG (zup F i v) := by
  funext k
  rw [iI_clamp h]
  by_cases q : k = i.toNat
  · subst q
    simp [va_up, zG, zup, Int.toNat_of_nonneg h.1]
  · have q2 : ¬ (k : Int) = i := by omega
    simp [va_up, zG, zup, q, q2]
theorem zup_s {α : Type} (F : Int → α) (i : Int) (v : α) : zup F i v i = v := if_pos rfl
theorem zup_n {α : Type} (F : Int → α) {i j : Int} (v : α) (h : j ≠ i) : zup F i v j = F j := if_neg h
section ZR
variable {p : Program} {l : Launch} {e : Env} {R : Room} {s : State} {m : MethodId} {args : Array Value} {below : List Frame} {meth : Method} {c : Code} {H : Heap} {locs : List Loc} {cells slots : Nat} {Q : State → Prop}
variable {cc : ByteArray} {pc : Nat} {ls : Array Slot} {rest : List Value}
theorem z_iadd (hx : p.tables.exec = Jvm.exec) (hb : c.code = cc) {x y : Int} (hdg : decode cc pc = .ok (.iadd, 1)) (k : W p l e R s m args below meth c H locs cells slots Q (F0 m (pc + 1) ls (.int (iI (x + y)) :: rest))) : W p l e R s m args below meth c H locs cells slots Q (F0 m pc ls (.int (iI y) :: .int (iI x) :: rest)) := lv_iadd hx hb hdg (by rw [iI_add]; exact k)
theorem z_isub (hx : p.tables.exec = Jvm.exec) (hb : c.code = cc) {x y : Int} (hdg : decode cc pc = .ok (.isub, 1)) (k : W p l e R s m args below meth c H locs cells slots Q (F0 m (pc + 1) ls (.int (iI (x - y)) :: rest))) : W p l e R s m args below meth c H locs cells slots Q (F0 m pc ls (.int (iI y) :: .int (iI x) :: rest)) := lv_isub hx hb hdg (by rw [iI_sub]; exact k)
theorem z_imul (hx : p.tables.exec = Jvm.exec) (hb : c.code = cc) {x y : Int} (hdg : decode cc pc = .ok (.imul, 1)) (k : W p l e R s m args below meth c H locs cells slots Q (F0 m (pc + 1) ls (.int (iI (x * y)) :: rest))) : W p l e R s m args below meth c H locs cells slots Q (F0 m pc ls (.int (iI y) :: .int (iI x) :: rest)) := lv_imul hx hb hdg (by rw [iI_mul]; exact k)
theorem z_ineg (hx : p.tables.exec = Jvm.exec) (hb : c.code = cc) {x : Int} (hdg : decode cc pc = .ok (.ineg, 1)) (k : W p l e R s m args below meth c H locs cells slots Q (F0 m (pc + 1) ls (.int (iI (-x)) :: rest))) : W p l e R s m args below meth c H locs cells slots Q (F0 m pc ls (.int (iI x) :: rest)) := lv_ineg hx hb hdg (by rw [iI_neg]; exact k)
theorem z_iand (hx : p.tables.exec = Jvm.exec) (hb : c.code = cc) {x y : Int} (hdg : decode cc pc = .ok (.iand, 1)) (k : W p l e R s m args below meth c H locs cells slots Q (F0 m (pc + 1) ls (.int (iI (zand x y)) :: rest))) : W p l e R s m args below meth c H locs cells slots Q (F0 m pc ls (.int (iI y) :: .int (iI x) :: rest)) := lv_iand hx hb hdg (by rw [← iI_of (iI x &&& iI y)]; exact k)
theorem z_ior (hx : p.tables.exec = Jvm.exec) (hb : c.code = cc) {x y : Int} (hdg : decode cc pc = .ok (.ior, 1)) (k : W p l e R s m args below meth c H locs cells slots Q (F0 m (pc + 1) ls (.int (iI (zor x y)) :: rest))) : W p l e R s m args below meth c H locs cells slots Q (F0 m pc ls (.int (iI y) :: .int (iI x) :: rest)) := lv_ior hx hb hdg (by rw [← iI_of (iI x ||| iI y)]; exact k)
theorem z_ixor (hx : p.tables.exec = Jvm.exec) (hb : c.code = cc) {x y : Int} (hdg : decode cc pc = .ok (.ixor, 1)) (k : W p l e R s m args below meth c H locs cells slots Q (F0 m (pc + 1) ls (.int (iI (zxor x y)) :: rest))) : W p l e R s m args below meth c H locs cells slots Q (F0 m pc ls (.int (iI y) :: .int (iI x) :: rest)) := lv_ixor hx hb hdg (by rw [← iI_of (iI x ^^^ iI y)]; exact k)
theorem z_ishl (hx : p.tables.exec = Jvm.exec) (hb : c.code = cc) {x y : Int} (hdg : decode cc pc = .ok (.ishl, 1)) (k : W p l e R s m args below meth c H locs cells slots Q (F0 m (pc + 1) ls (.int (iI (zshl x y)) :: rest))) : W p l e R s m args below meth c H locs cells slots Q (F0 m pc ls (.int (iI y) :: .int (iI x) :: rest)) := lv_ishl hx hb hdg (by rw [← iI_of (iI x <<< (iI y &&& 31))]; exact k)
theorem z_ishr (hx : p.tables.exec = Jvm.exec) (hb : c.code = cc) {x y : Int} (hdg : decode cc pc = .ok (.ishr, 1)) (k : W p l e R s m args below meth c H locs cells slots Q (F0 m (pc + 1) ls (.int (iI (zshr x y)) :: rest))) : W p l e R s m args below meth c H locs cells slots Q (F0 m pc ls (.int (iI y) :: .int (iI x) :: rest)) := lv_ishr hx hb hdg (by rw [← iI_of (iI x >>> (iI y &&& 31))]; exact k)
theorem z_iushr (hx : p.tables.exec = Jvm.exec) (hb : c.code = cc) {x y : Int} (hdg : decode cc pc = .ok (.iushr, 1)) (k : W p l e R s m args below meth c H locs cells slots Q (F0 m (pc + 1) ls (.int (iI (zushr x y)) :: rest))) : W p l e R s m args below meth c H locs cells slots Q (F0 m pc ls (.int (iI y) :: .int (iI x) :: rest)) := lv_iushr hx hb hdg (iI_of _).symm k
theorem z_idiv (hx : p.tables.exec = Jvm.exec) (hb : c.code = cc) {x y : Int} (hdg : decode cc pc = .ok (.idiv, 1)) (hy : (-2147483648 ≤ y ∧ y < 2147483648) ∧ y ≠ 0) (k : W p l e R s m args below meth c H locs cells slots Q (F0 m (pc + 1) ls (.int (iI (zdiv x y)) :: rest))) : W p l e R s m args below meth c H locs cells slots Q (F0 m pc ls (.int (iI y) :: .int (iI x) :: rest)) := lv_idiv hx hb hdg (fun q => hy.2 ((iI_eq (a := y) (b := 0) ⟨hy.1, by omega⟩).mp q)) (by rw [← iI_of (iI x / iI y)]; exact k)
theorem z_irem (hx : p.tables.exec = Jvm.exec) (hb : c.code = cc) {x y : Int} (hdg : decode cc pc = .ok (.irem, 1)) (hy : (-2147483648 ≤ y ∧ y < 2147483648) ∧ y ≠ 0) (k : W p l e R s m args below meth c H locs cells slots Q (F0 m (pc + 1) ls (.int (iI (zrem x y)) :: rest))) : W p l e R s m args below meth c H locs cells slots Q (F0 m pc ls (.int (iI y) :: .int (iI x) :: rest)) := lv_irem hx hb hdg (fun q => hy.2 ((iI_eq (a := y) (b := 0) ⟨hy.1, by omega⟩).mp q)) (by rw [← iI_of (iI x - iI x / iI y * iI y)]; exact k)
theorem z_l2i (hx : p.tables.exec = Jvm.exec) (hb : c.code = cc) {x : Int64} (hdg : decode cc pc = .ok (.l2i, 1)) (k : W p l e R s m args below meth c H locs cells slots Q (F0 m (pc + 1) ls (.int (iI (zl2i x)) :: rest))) : W p l e R s m args below meth c H locs cells slots Q (F0 m pc ls (.long x :: rest)) := lv_l2i hx hb hdg (iI_of _).symm k
theorem z_iinc (hx : p.tables.exec = Jvm.exec) (hb : c.code = cc) {i nL k : Nat} {n x : Int} {lv lv' : List (Nat × Value)} (hdg : decode cc pc = .ok (.iinc i n, 3)) (h : lv_has ls nL lv) (hk : lv[k]? = some (i, .int (iI x))) (hn : i < nL) (hl : (i, Value.int (iI (x + n))) :: lv.filter (fun q => !(q.1 == i) && !(q.1 + 1 == i && q.2.category == 2)) = lv')
    (kk : ∀ ls' : Array Slot, lv_has ls' nL lv' → W p l e R s m args below meth c H locs cells slots Q (F0 m (pc + 3) ls' rest)) : W p l e R s m args below meth c H locs cells slots Q (F0 m pc ls rest) := lv_iinc hx hb hdg h hk (iI_add x n) hn hl kk
theorem z_if_eq (hx : p.tables.exec = Jvm.exec) (hb : c.code = cc) {x : Int} {off : Int} {tgt : Nat} (hdg : decode cc pc = .ok (.ifCond .eq off, 3)) (ht : (pc : Int) + off = (tgt : Int)) (hr : -2147483648 ≤ x ∧ x < 2147483648) (kt : x = 0 → W p l e R s m args below meth c H locs cells slots Q (F0 m tgt ls rest)) (kf : x ≠ 0 → W p l e R s m args below meth c H locs cells slots Q (F0 m (pc + 3) ls rest)) : W p l e R s m args below meth c H locs cells slots Q (F0 m pc ls (.int (iI x) :: rest)) :=
  have h := iI_eq (a := x) (b := 0) ⟨hr, by omega⟩
  lv_if_eq hx hb hdg ht (fun q => kt (h.mp q)) (fun q => kf (fun w => q (h.mpr w)))
theorem z_if_ne (hx : p.tables.exec = Jvm.exec) (hb : c.code = cc) {x : Int} {off : Int} {tgt : Nat} (hdg : decode cc pc = .ok (.ifCond .ne off, 3)) (ht : (pc : Int) + off = (tgt : Int)) (hr : -2147483648 ≤ x ∧ x < 2147483648) (kt : x ≠ 0 → W p l e R s m args below meth c H locs cells slots Q (F0 m tgt ls rest)) (kf : x = 0 → W p l e R s m args below meth c H locs cells slots Q (F0 m (pc + 3) ls rest)) : W p l e R s m args below meth c H locs cells slots Q (F0 m pc ls (.int (iI x) :: rest)) :=
  have h := iI_eq (a := x) (b := 0) ⟨hr, by omega⟩
  lv_if_ne hx hb hdg ht (fun q => kt (fun w => q (h.mpr w))) (fun q => kf (h.mp q))
theorem z_if_lt (hx : p.tables.exec = Jvm.exec) (hb : c.code = cc) {x : Int} {off : Int} {tgt : Nat} (hdg : decode cc pc = .ok (.ifCond .lt off, 3)) (ht : (pc : Int) + off = (tgt : Int)) (hr : -2147483648 ≤ x ∧ x < 2147483648) (kt : x < 0 → W p l e R s m args below meth c H locs cells slots Q (F0 m tgt ls rest)) (kf : 0 ≤ x → W p l e R s m args below meth c H locs cells slots Q (F0 m (pc + 3) ls rest)) : W p l e R s m args below meth c H locs cells slots Q (F0 m pc ls (.int (iI x) :: rest)) :=
  have h := iI_lt (a := x) (b := 0) ⟨hr, by omega⟩
  lv_if_lt hx hb hdg ht (fun q => kt (h.mp q)) (fun q => kf (Int.not_lt.mp (fun w => q (h.mpr w))))
theorem z_if_ge (hx : p.tables.exec = Jvm.exec) (hb : c.code = cc) {x : Int} {off : Int} {tgt : Nat} (hdg : decode cc pc = .ok (.ifCond .ge off, 3)) (ht : (pc : Int) + off = (tgt : Int)) (hr : -2147483648 ≤ x ∧ x < 2147483648) (kt : 0 ≤ x → W p l e R s m args below meth c H locs cells slots Q (F0 m tgt ls rest)) (kf : x < 0 → W p l e R s m args below meth c H locs cells slots Q (F0 m (pc + 3) ls rest)) : W p l e R s m args below meth c H locs cells slots Q (F0 m pc ls (.int (iI x) :: rest)) :=
  have h := iI_le (a := 0) (b := x) ⟨by omega, hr⟩
  lv_if_ge hx hb hdg ht (fun q => kt (h.mp q)) (fun q => kf (Int.not_le.mp (fun w => q (h.mpr w))))
theorem z_if_gt (hx : p.tables.exec = Jvm.exec) (hb : c.code = cc) {x : Int} {off : Int} {tgt : Nat} (hdg : decode cc pc = .ok (.ifCond .gt off, 3)) (ht : (pc : Int) + off = (tgt : Int)) (hr : -2147483648 ≤ x ∧ x < 2147483648) (kt : 0 < x → W p l e R s m args below meth c H locs cells slots Q (F0 m tgt ls rest)) (kf : x ≤ 0 → W p l e R s m args below meth c H locs cells slots Q (F0 m (pc + 3) ls rest)) : W p l e R s m args below meth c H locs cells slots Q (F0 m pc ls (.int (iI x) :: rest)) :=
  have h := iI_lt (a := 0) (b := x) ⟨by omega, hr⟩
  lv_if_gt hx hb hdg ht (fun q => kt (h.mp q)) (fun q => kf (Int.not_lt.mp (fun w => q (h.mpr w))))
theorem z_if_le (hx : p.tables.exec = Jvm.exec) (hb : c.code = cc) {x : Int} {off : Int} {tgt : Nat} (hdg : decode cc pc = .ok (.ifCond .le off, 3)) (ht : (pc : Int) + off = (tgt : Int)) (hr : -2147483648 ≤ x ∧ x < 2147483648) (kt : x ≤ 0 → W p l e R s m args below meth c H locs cells slots Q (F0 m tgt ls rest)) (kf : 0 < x → W p l e R s m args below meth c H locs cells slots Q (F0 m (pc + 3) ls rest)) : W p l e R s m args below meth c H locs cells slots Q (F0 m pc ls (.int (iI x) :: rest)) :=
  have h := iI_le (a := x) (b := 0) ⟨hr, by omega⟩
  lv_if_le hx hb hdg ht (fun q => kt (h.mp q)) (fun q => kf (Int.not_le.mp (fun w => q (h.mpr w))))
theorem z_icmp_eq (hx : p.tables.exec = Jvm.exec) (hb : c.code = cc) {x y : Int} {off : Int} {tgt : Nat} (hdg : decode cc pc = .ok (.if_icmp .eq off, 3)) (ht : (pc : Int) + off = (tgt : Int)) (hr : r2 x y) (kt : x = y → W p l e R s m args below meth c H locs cells slots Q (F0 m tgt ls rest)) (kf : x ≠ y → W p l e R s m args below meth c H locs cells slots Q (F0 m (pc + 3) ls rest)) : W p l e R s m args below meth c H locs cells slots Q (F0 m pc ls (.int (iI y) :: .int (iI x) :: rest)) :=
  lv_icmp_eq hx hb hdg ht (fun q => kt ((iI_eq hr).mp q)) (fun q => kf (fun w => q ((iI_eq hr).mpr w)))
theorem z_icmp_ne (hx : p.tables.exec = Jvm.exec) (hb : c.code = cc) {x y : Int} {off : Int} {tgt : Nat} (hdg : decode cc pc = .ok (.if_icmp .ne off, 3)) (ht : (pc : Int) + off = (tgt : Int)) (hr : r2 x y) (kt : x ≠ y → W p l e R s m args below meth c H locs cells slots Q (F0 m tgt ls rest)) (kf : x = y → W p l e R s m args below meth c H locs cells slots Q (F0 m (pc + 3) ls rest)) : W p l e R s m args below meth c H locs cells slots Q (F0 m pc ls (.int (iI y) :: .int (iI x) :: rest)) :=
  lv_icmp_ne hx hb hdg ht (fun q => kt (fun w => q ((iI_eq hr).mpr w))) (fun q => kf ((iI_eq hr).mp q))
theorem z_icmp_lt (hx : p.tables.exec = Jvm.exec) (hb : c.code = cc) {x y : Int} {off : Int} {tgt : Nat} (hdg : decode cc pc = .ok (.if_icmp .lt off, 3)) (ht : (pc : Int) + off = (tgt : Int)) (hr : r2 x y) (kt : x < y → W p l e R s m args below meth c H locs cells slots Q (F0 m tgt ls rest)) (kf : y ≤ x → W p l e R s m args below meth c H locs cells slots Q (F0 m (pc + 3) ls rest)) : W p l e R s m args below meth c H locs cells slots Q (F0 m pc ls (.int (iI y) :: .int (iI x) :: rest)) :=
  lv_icmp_lt hx hb hdg ht (fun q => kt ((iI_lt hr).mp q)) (fun q => kf (Int.not_lt.mp (fun w => q ((iI_lt hr).mpr w))))
theorem z_icmp_ge (hx : p.tables.exec = Jvm.exec) (hb : c.code = cc) {x y : Int} {off : Int} {tgt : Nat} (hdg : decode cc pc = .ok (.if_icmp .ge off, 3)) (ht : (pc : Int) + off = (tgt : Int)) (hr : r2 x y) (kt : y ≤ x → W p l e R s m args below meth c H locs cells slots Q (F0 m tgt ls rest)) (kf : x < y → W p l e R s m args below meth c H locs cells slots Q (F0 m (pc + 3) ls rest)) : W p l e R s m args below meth c H locs cells slots Q (F0 m pc ls (.int (iI y) :: .int (iI x) :: rest)) :=
  have h := iI_le (a := y) (b := x) ⟨hr.2, hr.1⟩
  lv_icmp_ge hx hb hdg ht (fun q => kt (h.mp q)) (fun q => kf (Int.not_le.mp (fun w => q (h.mpr w))))
theorem z_icmp_gt (hx : p.tables.exec = Jvm.exec) (hb : c.code = cc) {x y : Int} {off : Int} {tgt : Nat} (hdg : decode cc pc = .ok (.if_icmp .gt off, 3)) (ht : (pc : Int) + off = (tgt : Int)) (hr : r2 x y) (kt : y < x → W p l e R s m args below meth c H locs cells slots Q (F0 m tgt ls rest)) (kf : x ≤ y → W p l e R s m args below meth c H locs cells slots Q (F0 m (pc + 3) ls rest)) : W p l e R s m args below meth c H locs cells slots Q (F0 m pc ls (.int (iI y) :: .int (iI x) :: rest)) :=
  have h := iI_lt (a := y) (b := x) ⟨hr.2, hr.1⟩
  lv_icmp_gt hx hb hdg ht (fun q => kt (h.mp q)) (fun q => kf (Int.not_lt.mp (fun w => q (h.mpr w))))
theorem z_icmp_le (hx : p.tables.exec = Jvm.exec) (hb : c.code = cc) {x y : Int} {off : Int} {tgt : Nat} (hdg : decode cc pc = .ok (.if_icmp .le off, 3)) (ht : (pc : Int) + off = (tgt : Int)) (hr : r2 x y) (kt : x ≤ y → W p l e R s m args below meth c H locs cells slots Q (F0 m tgt ls rest)) (kf : y < x → W p l e R s m args below meth c H locs cells slots Q (F0 m (pc + 3) ls rest)) : W p l e R s m args below meth c H locs cells slots Q (F0 m pc ls (.int (iI y) :: .int (iI x) :: rest)) :=
  lv_icmp_le hx hb hdg ht (fun q => kt ((iI_le hr).mp q)) (fun q => kf (Int.not_le.mp (fun w => q ((iI_le hr).mpr w))))
theorem z_lcmp (hx : p.tables.exec = Jvm.exec) (hb : c.code = cc) {x y : Int64} (hdg : decode cc pc = .ok (.lcmp, 1)) (k : ∀ d : Int, (-1 ≤ d ∧ d ≤ 1) → (d = 0 ↔ x = y) → W p l e R s m args below meth c H locs cells slots Q (F0 m (pc + 1) ls (.int (iI d) :: rest))) : W p l e R s m args below meth c H locs cells slots Q (F0 m pc ls (.long y :: .long x :: rest)) := by
  refine W.lcmp hx hb hdg ?_
  by_cases h1 : y < x
  · rw [show lg_cmp x y = iI 1 by simp [lg_cmp, h1]; rfl]
    exact k 1 (by omega) ⟨fun q => by omega, fun q => by subst q; exact absurd h1 (by simp [Int64.lt_iff_toInt_lt])⟩
  · by_cases h2 : x = y
    · rw [show lg_cmp x y = iI 0 by simp [lg_cmp, h2]; rfl]
      exact k 0 (by omega) ⟨fun _ => h2, fun _ => rfl⟩
    · rw [show lg_cmp x y = iI (-1) by simp [lg_cmp, h1, h2]; rfl]
      exact k (-1) (by omega) ⟨fun q => by omega, fun q => absurd q h2⟩
end ZR
