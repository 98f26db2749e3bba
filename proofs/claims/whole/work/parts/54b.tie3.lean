/-! bits -/
theorem bit_nat (n k : Nat) : (n : Int) / ((2 ^ k : Nat) : Int) % 2 = ((n / 2 ^ k % 2 : Nat) : Int) := by
  rw [Int.natCast_emod, Int.natCast_ediv]
  rfl
theorem bit_iff (n k : Nat) : (n : Int) / ((2 ^ k : Nat) : Int) % 2 = 1 ↔ n.testBit k = true := by
  rw [bit_nat, Nat.testBit_eq_decide_div_mod_eq]
  constructor
  · intro h; exact decide_eq_true (by omega)
  · intro h; have := of_decide_eq_true h; omega
theorem bit_or {x y : Int} (hx : 0 ≤ x ∧ x < 2147483648) (hy : 0 ≤ y ∧ y < 2147483648) (k : Nat) : zor x y / ((2 ^ k : Nat) : Int) % 2 = 1 ↔ (x / ((2 ^ k : Nat) : Int) % 2 = 1 ∨ y / ((2 ^ k : Nat) : Int) % 2 = 1) := by
  obtain ⟨a, rfl⟩ := Int.eq_ofNat_of_zero_le hx.1
  obtain ⟨b, rfl⟩ := Int.eq_ofNat_of_zero_le hy.1
  rw [zor_nat (by omega) (by omega), bit_iff, bit_iff, bit_iff, Nat.testBit_or, Bool.or_eq_true]
theorem bit_and {x y : Int} (hx : 0 ≤ x ∧ x < 2147483648) (hy : 0 ≤ y ∧ y < 2147483648) (k : Nat) : zand x y / ((2 ^ k : Nat) : Int) % 2 = 1 ↔ (x / ((2 ^ k : Nat) : Int) % 2 = 1 ∧ y / ((2 ^ k : Nat) : Int) % 2 = 1) := by
  obtain ⟨a, rfl⟩ := Int.eq_ofNat_of_zero_le hx.1
  obtain ⟨b, rfl⟩ := Int.eq_ofNat_of_zero_le hy.1
  rw [zand_nat (by omega), bit_iff, bit_iff, bit_iff, Nat.testBit_and, Bool.and_eq_true]
def pcZ (x : Int) : Int := sumZ (fun b => x / ((2 ^ b.toNat : Nat) : Int) % 2) 24
theorem pc_or {x y : Int} (hx : 0 ≤ x ∧ x < 2147483648) (hy : 0 ≤ y ∧ y < 2147483648) (hd : ∀ k : Nat, k < 24 → ¬ (x / ((2 ^ k : Nat) : Int) % 2 = 1 ∧ y / ((2 ^ k : Nat) : Int) % 2 = 1)) : pcZ (zor x y) = pcZ x + pcZ y := by
  unfold pcZ
  rw [← sumZ_add]
  refine sumZ_cg 24 (fun j hj => ?_)
  have h := bit_or hx hy j.toNat
  have hd2 := hd j.toNat (by omega)
  show zor x y / ((2 ^ j.toNat : Nat) : Int) % 2 = x / ((2 ^ j.toNat : Nat) : Int) % 2 + y / ((2 ^ j.toNat : Nat) : Int) % 2
  generalize zor x y / ((2 ^ j.toNat : Nat) : Int) = p1 at h ⊢
  generalize x / ((2 ^ j.toNat : Nat) : Int) = p2 at h hd2 ⊢
  generalize y / ((2 ^ j.toNat : Nat) : Int) = p3 at h hd2 ⊢
  omega
def hasB (x b : Int) : Prop := ∃ i : Int, (0 ≤ i ∧ i < kSz x) ∧ kBl x i = b
theorem pw_tab : ∀ t : Fin 24, ((0 : Int) ≤ ((2 ^ t.val : Nat) : Int) ∧ ((2 ^ t.val : Nat) : Int) < 16777216) ∧ pcZ ((2 ^ t.val : Nat) : Int) = 1 ∧ ∀ b : Fin 24, (((2 ^ t.val : Nat) : Int) / ((2 ^ b.val : Nat) : Int) % 2 = 1 ↔ b.val = t.val) := by decide +kernel
theorem kB_ok {dk : Int → Int64} {n x : Int} (h : okK dk n x) (hd : dsK x) (hn : n ≤ 24) : (0 ≤ kBits x ∧ kBits x < 16777216) ∧ (∀ b : Nat, b < 24 → (kBits x / ((2 ^ b : Nat) : Int) % 2 = 1 ↔ hasB x (b : Int))) ∧ pcZ (kBits x) = kSz x := by
  have key : ∀ c : Nat, (c : Int) ≤ kSz x → (0 ≤ orZ (fun i => zshl 1 (kBl x i)) c ∧ orZ (fun i => zshl 1 (kBl x i)) c < 16777216) ∧ (∀ b : Nat, b < 24 → (orZ (fun i => zshl 1 (kBl x i)) c / ((2 ^ b : Nat) : Int) % 2 = 1 ↔ ∃ i : Int, (0 ≤ i ∧ i < (c : Int)) ∧ kBl x i = (b : Int))) ∧ pcZ (orZ (fun i => zshl 1 (kBl x i)) c) = (c : Int) := by
    intro c
    induction c with
    | zero =>
      intro _
      refine ⟨(by show (0 : Int) ≤ 0 ∧ (0 : Int) < 16777216; decide), fun b hb => ⟨fun w => ?_, fun ⟨i, hi, _⟩ => by omega⟩, (by show pcZ 0 = 0; decide +kernel)⟩
      have w2 : (0 : Int) / ((2 ^ b : Nat) : Int) % 2 = 1 := w
      rw [Int.zero_ediv] at w2
      exact absurd w2 (by decide)
    | succ c ih =>
      intro hc
      obtain ⟨i1, i2, i3⟩ := ih (by omega)
      have hbl := h.2.1 (c : Int) (by omega)
      have e : orZ (fun i => zshl 1 (kBl x i)) (c + 1) = zor (orZ (fun i => zshl 1 (kBl x i)) c) ((2 ^ (kBl x (c : Int)).toNat : Nat) : Int) := by
        show zor _ (zshl 1 (kBl x (c : Int))) = _
        rw [zshl1 (by omega)]
      obtain ⟨t1, t2, t3⟩ := pw_tab ⟨(kBl x (c : Int)).toNat, by omega⟩
      dsimp only at t1 t2 t3
      have t4 : ∀ b : Nat, b < 24 → (((2 ^ (kBl x (c : Int)).toNat : Nat) : Int) / ((2 ^ b : Nat) : Int) % 2 = 1 ↔ (b : Int) = kBl x (c : Int)) := fun b hb => (t3 ⟨b, hb⟩).trans ⟨fun w => by have w2 : b = (kBl x (c : Int)).toNat := w; omega, fun w => by show b = (kBl x (c : Int)).toNat; omega⟩
      rw [e]
      generalize orZ (fun i => zshl 1 (kBl x i)) c = u at i1 i2 i3 ⊢
      generalize ((2 ^ (kBl x (c : Int)).toNat : Nat) : Int) = v at t1 t2 t4 ⊢
      have hdj : ∀ k : Nat, k < 24 → ¬ (u / ((2 ^ k : Nat) : Int) % 2 = 1 ∧ v / ((2 ^ k : Nat) : Int) % 2 = 1) := fun k hk w => by
        obtain ⟨i, hi, w1⟩ := (i2 k hk).mp w.1
        have w2 := (t4 k hk).mp w.2
        exact hd i (c : Int) (by omega) (w1.trans w2)
      refine ⟨?_, fun b hb => ?_, ?_⟩
      · exact zor_bd 24 (by decide) i1 t1
      · rw [bit_or (by omega) (by omega), i2 b hb, t4 b hb]
        constructor
        · rintro (⟨i, hi, w⟩ | w)
          · exact ⟨i, by omega, w⟩
          · exact ⟨(c : Int), by omega, w.symm⟩
        · rintro ⟨i, hi, w⟩
          rcases (show i = (c : Int) ∨ i < (c : Int) by omega) with q | q
          · exact Or.inr (by rw [← w, q])
          · exact Or.inl ⟨i, by omega, w⟩
      · rw [pc_or (by omega) (by omega) hdj, i3, t2]
        omega
  have hs := kSz_bd x
  have k9 := key (kSz x).toNat (by omega)
  rw [Int.toNat_of_nonneg hs.1] at k9
  exact k9
/-! covers -/
def lsum (f : Int → Int) : List Int → Int
  | [] => 0
  | k :: l => f k + lsum f l
theorem lsum_app (f : Int → Int) (k : Int) : ∀ l : List Int, lsum f (l ++ [k]) = lsum f l + f k := by
  intro l
  induction l with
  | nil => show f k + 0 = 0 + f k; omega
  | cons y l ih => show f y + lsum f (l ++ [k]) = f y + lsum f l + f k; rw [ih]; omega
theorem lsum_bd {f : Int → Int} {c : Int} (h : ∀ k, 0 ≤ f k ∧ f k ≤ c) : ∀ l : List Int, 0 ≤ lsum f l ∧ lsum f l ≤ c * (l.length : Int) := by
  intro l
  induction l with
  | nil => exact ⟨Int.le_refl 0, by show (0 : Int) ≤ c * 0; omega⟩
  | cons y l ih =>
    have h1 := h y
    have e : c * ((y :: l).length : Int) = c + c * (l.length : Int) := by rw [List.length_cons, Int.natCast_add, Int.mul_add]; omega
    rw [e]
    show 0 ≤ f y + lsum f l ∧ f y + lsum f l ≤ _
    omega
theorem lsum_gn (KK : Int → Int) : ∀ l : List Int, lsum (fun k => gnZ (KK k)) l = lsum (fun k => kSz (KK k)) l * 100000 - lsum (fun k => kCost (KK k)) l * 10 - (l.length : Int) := by
  intro l
  induction l with
  | nil => rfl
  | cons y l ih =>
    show gnZ (KK y) + lsum _ l = (kSz (KK y) + lsum _ l) * 100000 - (kCost (KK y) + lsum _ l) * 10 - ((l.length + 1 : Nat) : Int)
    rw [ih]
    unfold gnZ
    omega
theorem lsum_get (g : Int → Int) : ∀ l : List Int, sumZ (fun i => g (l.getD i.toNat 0)) l.length = lsum g l := by
  intro l
  have key : ∀ k : Nat, k ≤ l.length → sumZ (fun i => g (l.getD i.toNat 0)) k = lsum g (l.take k) := by
    intro k
    induction k with
    | zero => intro _; rw [List.take_zero]; rfl
    | succ k ih =>
      intro hk
      show sumZ (fun i => g (l.getD i.toNat 0)) k + g (l.getD (k : Int).toNat 0) = _
      rw [ih (by omega), List.take_succ, List.getElem?_eq_getElem (by omega)]
      show _ = lsum g (l.take k ++ [l[k]])
      rw [lsum_app, Int.toNat_natCast, List.getD_eq_getElem?_getD, List.getElem?_eq_getElem (by omega)]
      rfl
  rw [key l.length (Nat.le_refl _), List.take_length]
def wP (KK : Int → Int) (nf : Int) (ps : List Int) (bi gn : Int) : Prop := (∀ k ∈ ps, 0 ≤ k ∧ k < nf) ∧ gn = lsum (fun k => gnZ (KK k)) ps ∧ (0 ≤ bi ∧ bi < 16777216) ∧ (∀ b : Nat, b < 24 → (bi / ((2 ^ b : Nat) : Int) % 2 = 1 ↔ ∃ k ∈ ps, hasB (KK k) (b : Int))) ∧ pcZ bi = lsum (fun k => kSz (KK k)) ps
theorem wP_0 (KK : Int → Int) (nf : Int) : wP KK nf [] 0 0 := by
  refine ⟨fun k hk => absurd hk List.not_mem_nil, rfl, by decide, fun b hb => ⟨fun w => ?_, fun ⟨k, hk, _⟩ => absurd hk List.not_mem_nil⟩, (by show pcZ 0 = 0; decide +kernel)⟩
  rw [Int.zero_ediv] at w
  exact absurd w (by decide)
theorem wP_s {KK : Int → Int} {nf : Int} {ps : List Int} {bi gn k : Int} (hk : 0 ≤ k ∧ k < nf) (hB : (0 ≤ kBits (KK k) ∧ kBits (KK k) < 16777216) ∧ (∀ b : Nat, b < 24 → (kBits (KK k) / ((2 ^ b : Nat) : Int) % 2 = 1 ↔ hasB (KK k) (b : Int))) ∧ pcZ (kBits (KK k)) = kSz (KK k)) (hz : zand (kBits (KK k)) bi = 0) (h : wP KK nf ps bi gn) : wP KK nf (ps ++ [k]) (zor bi (kBits (KK k))) (gn + gnZ (KK k)) := by
  obtain ⟨h1, h2, h3, h4, h5⟩ := h
  obtain ⟨b1, b2, b3⟩ := hB
  have hdj : ∀ j : Nat, j < 24 → ¬ (bi / ((2 ^ j : Nat) : Int) % 2 = 1 ∧ kBits (KK k) / ((2 ^ j : Nat) : Int) % 2 = 1) := fun j hj w => by
    have w2 := (bit_and (x := kBits (KK k)) (y := bi) (by omega) (by omega) j).mpr ⟨w.2, w.1⟩
    rw [hz, Int.zero_ediv] at w2
    exact absurd w2 (by decide)
  refine ⟨fun j hj => ?_, ?_, zor_bd 24 (by decide) h3 b1, fun b hb => ?_, ?_⟩
  · rcases List.mem_append.mp hj with q | q
    · exact h1 j q
    · rw [List.mem_singleton.mp q]; exact hk
  · rw [lsum_app, h2]
  · rw [bit_or (by omega) (by omega), h4 b hb, b2 b hb]
    constructor
    · rintro (⟨j, hj, w⟩ | w)
      · exact ⟨j, List.mem_append.mpr (Or.inl hj), w⟩
      · exact ⟨k, List.mem_append.mpr (Or.inr (List.mem_singleton.mpr rfl)), w⟩
    · rintro ⟨j, hj, w⟩
      rcases List.mem_append.mp hj with q | q
      · exact Or.inl ⟨j, q, w⟩
      · rw [List.mem_singleton.mp q] at w
        exact Or.inr w
  · rw [pc_or (by omega) (by omega) hdj, lsum_app, h5, b3]
theorem btL_inv {f : Int → cuT → cuT} {a : Int} {P : cuT → Prop} : ∀ (k : Nat) (cu : cuT), (∀ j : Int, a ≤ j ∧ j < a + (k : Int) → ∀ u : cuT, P u → P (f j u)) → P cu → P (btL f a k cu) := by
  intro k
  induction k with
  | zero => intro cu _ h; exact h
  | succ k ih => intro cu hs h; exact hs (a + (k : Int)) (by omega) _ (ih cu (fun j hj => hs j (by omega)) h)
theorem btL_cg2 {f f' : Int → cuT → cuT} {a : Int} : ∀ (k : Nat) (cu : cuT), (∀ j : Int, a ≤ j ∧ j < a + (k : Int) → ∀ u : cuT, f j u = f' j u) → btL f a k cu = btL f' a k cu := by
  intro k
  induction k with
  | zero => intro cu _; rfl
  | succ k ih =>
    intro cu h
    show f _ _ = f' _ _
    rw [ih cu (fun j hj => h j (by omega)), h (a + (k : Int)) (by omega)]
theorem btZ_inv {GA GN BB : Int → Int} {P : List Int → Int → Int → Prop} : ∀ (n : Nat) (g : Int) (ps : List Int) (bi gn : Int) (cu : cuT), (∀ x : Int, g ≤ x ∧ x < g + (n : Int) → ∀ k : Int, GA x ≤ k ∧ k < GA (x + 1) → ∀ (ps : List Int) (bi gn : Int), P ps bi gn → zand (BB k) bi = 0 → P (ps ++ [k]) (zor bi (BB k)) (gn + GN k)) → P ps bi gn → P cu.2.1 cu.2.2 cu.1 → P (btZ GA GN BB n g ps bi gn cu).2.1 (btZ GA GN BB n g ps bi gn cu).2.2 (btZ GA GN BB n g ps bi gn cu).1 := by
  intro n
  induction n with
  | zero =>
    intro g ps bi gn cu _ h1 h2
    show P (if cu.1 < gn then (gn, ps, bi) else cu).2.1 (if cu.1 < gn then (gn, ps, bi) else cu).2.2 (if cu.1 < gn then (gn, ps, bi) else cu).1
    by_cases q : cu.1 < gn
    · rw [if_pos q]; exact h1
    · rw [if_neg q]; exact h2
  | succ n ih =>
    intro g ps bi gn cu hs h1 h2
    rw [btZ_n]
    refine ih (g + 1) ps bi gn _ (fun x hx => hs x (by omega)) h1 ?_
    refine btL_inv (P := fun u : cuT => P u.2.1 u.2.2 u.1) _ cu (fun j hj u hu => ?_) h2
    by_cases q : zand (BB j) bi = 0
    · show P (if zand (BB j) bi = 0 then btZ GA GN BB n (g + 1) (ps ++ [j]) (zor bi (BB j)) (gn + GN j) u else u).2.1 (if zand (BB j) bi = 0 then btZ GA GN BB n (g + 1) (ps ++ [j]) (zor bi (BB j)) (gn + GN j) u else u).2.2 (if zand (BB j) bi = 0 then btZ GA GN BB n (g + 1) (ps ++ [j]) (zor bi (BB j)) (gn + GN j) u else u).1
      rw [if_pos q]
      exact ih (g + 1) _ _ _ u (fun x hx => hs x (by omega)) (hs g (by omega) j (by omega) ps bi gn h1 q) hu
    · show P (if zand (BB j) bi = 0 then btZ GA GN BB n (g + 1) (ps ++ [j]) (zor bi (BB j)) (gn + GN j) u else u).2.1 (if zand (BB j) bi = 0 then btZ GA GN BB n (g + 1) (ps ++ [j]) (zor bi (BB j)) (gn + GN j) u else u).2.2 (if zand (BB j) bi = 0 then btZ GA GN BB n (g + 1) (ps ++ [j]) (zor bi (BB j)) (gn + GN j) u else u).1
      rw [if_neg q]
      exact hu
theorem btZ_gn {GA GN GN' BB BB' : Int → Int} : ∀ (n : Nat) (g : Int) (ps : List Int) (bi gn : Int) (cu : cuT), (∀ x : Int, g ≤ x ∧ x < g + (n : Int) → ∀ k : Int, GA x ≤ k ∧ k < GA (x + 1) → GN k = GN' k ∧ BB k = BB' k) → btZ GA GN BB n g ps bi gn cu = btZ GA GN' BB' n g ps bi gn cu := by
  intro n
  induction n with
  | zero => intro g ps bi gn cu _; rfl
  | succ n ih =>
    intro g ps bi gn cu h
    rw [btZ_n, btZ_n, ih (g + 1) _ _ _ _ (fun x hx => h x (by omega))]
    congr 1
    refine btL_cg2 _ cu (fun j hj u => ?_)
    obtain ⟨e1, e2⟩ := h g (by omega) j (by omega)
    show (if zand (BB j) bi = 0 then _ else _) = (if zand (BB' j) bi = 0 then _ else _)
    rw [e1, e2, ih (g + 1) _ _ _ _ (fun x hx => h x (by omega))]
theorem mem_pkL {BE : Int → Int} : ∀ (k : Nat) (f : Int), f ∈ pkL BE k ↔ 0 ≤ f ∧ ∃ g : Int, (0 ≤ g ∧ g < (k : Int)) ∧ BE g = f := by
  intro k
  induction k with
  | zero => intro f; exact ⟨fun h => absurd h List.not_mem_nil, fun ⟨_, g, hg, _⟩ => by omega⟩
  | succ k ih =>
    intro f
    show f ∈ pkL BE k ++ (if 0 ≤ BE (k : Int) then [BE (k : Int)] else []) ↔ _
    rw [List.mem_append, ih f]
    constructor
    · rintro (⟨h0, g, hg, w⟩ | h)
      · exact ⟨h0, g, by omega, w⟩
      · by_cases q : 0 ≤ BE (k : Int)
        · rw [if_pos q] at h
          have e := List.mem_singleton.mp h
          exact ⟨by omega, (k : Int), by omega, e.symm⟩
        · rw [if_neg q] at h
          exact absurd h List.not_mem_nil
    · rintro ⟨h0, g, hg, w⟩
      rcases (show g = (k : Int) ∨ g < (k : Int) by omega) with q | q
      · rw [q] at w
        rw [if_pos (by omega)]
        exact Or.inr (List.mem_singleton.mpr w.symm)
      · exact Or.inl ⟨h0, g, by omega, w⟩
theorem pkL_ext {BE : Int → Int} (k : Nat) : ∀ n : Nat, (∀ j : Int, (k : Int) ≤ j ∧ j < (k + n : Int) → BE j < 0) → pkL BE (k + n) = pkL BE k := by
  intro n
  induction n with
  | zero => intro _; rfl
  | succ n ih =>
    intro h
    show pkL BE (k + n) ++ (if 0 ≤ BE ((k + n : Nat) : Int) then _ else []) = _
    have h1 := h ((k + n : Nat) : Int) (by omega)
    rw [ih (fun j hj => h j (by omega)), if_neg (by omega), List.append_nil]
theorem fr_eq {bits n : Int} {P : Int → Prop} (h : ∀ b : Nat, (b : Int) < n → (bits / ((2 ^ b : Nat) : Int) % 2 = 1 ↔ P (b : Int))) : ∀ (k : Nat) (x l : Int), 0 ≤ x → frZ bits n k x l = frQ P n k x l := by
  intro k
  induction k with
  | zero => intro x l _; rfl
  | succ k ih =>
    intro x l hx
    show (if n ≤ x then -1 else if bits / ((2 ^ x.toNat : Nat) : Int) % 2 = 1 then frZ bits n k (x + 1) l else if l = 0 then x else frZ bits n k (x + 1) (l - 1)) = (if n ≤ x then -1 else cIf (P x) (frQ P n k (x + 1) l) (if l = 0 then x else frQ P n k (x + 1) (l - 1)))
    by_cases q : n ≤ x
    · rw [if_pos q, if_pos q]
    · rw [if_neg q, if_neg q]
      have h1 := h x.toNat (by omega)
      rw [Int.toNat_of_nonneg hx] at h1
      rw [ih (x + 1) l (by omega), ih (x + 1) (l - 1) (by omega)]
      by_cases w : P x
      · rw [if_pos (h1.mpr w), cIf_t w]
      · rw [if_neg (fun z => w (h1.mp z)), cIf_f w]
theorem fr_neg (bits n : Int) : ∀ (k : Nat) (x l : Int), l < 0 → frZ bits n k x l = -1 := by
  intro k
  induction k with
  | zero => intro x l _; rfl
  | succ k ih =>
    intro x l hl
    show (if n ≤ x then -1 else if bits / ((2 ^ x.toNat : Nat) : Int) % 2 = 1 then frZ bits n k (x + 1) l else if l = 0 then x else frZ bits n k (x + 1) (l - 1)) = -1
    rw [ih (x + 1) l hl, ih (x + 1) (l - 1) (by omega), if_neg (show ¬ l = 0 by omega)]
    split
    · rfl
    · split <;> rfl
