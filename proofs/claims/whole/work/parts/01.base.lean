/-! stores and numbers (rows of kit/rows), then what holds of the tables -/
theorem pk_us {f : Nat → Int32} {k : Nat} {x : Int32} : upd f k x k = x := if_pos rfl
theorem pk_un {f : Nat → Int32} {k j : Nat} {x : Int32} (h : j ≠ k) : upd f k x j = f j := if_neg h
theorem pk_sub {a b : Nat} (h : b ≤ a) : nI a - nI b = nI (a - b) := by
  obtain ⟨c, rfl⟩ : ∃ c, a = c + b := ⟨a - b, by omega⟩
  rw [← nI_add, Int32.add_sub_cancel, Nat.add_sub_cancel]
theorem pk_m1 (n : Nat) : nI (n + 1) + (-1) = nI n := by
  rw [← nI_1, Int32.add_assoc, show (1 : Int32) + (-1) = 0 from rfl, Int32.add_zero]
theorem pk_mul (a b : Nat) : nI a * nI b = nI (a * b) := (Int32.ofNat_mul a b).symm
theorem pk_div {a d : Nat} (ha : a < 2 ^ 31) (h0 : 0 < d) (hd : d < 2 ^ 31) : nI a / nI d = nI (a / d) := by
  apply Int32.toInt_inj.mp
  rw [lg_idiv_nonneg (by rw [nI_toInt ha]; omega) (by rw [nI_toInt hd]; omega), nI_toInt ha, nI_toInt hd, nI_toInt (Nat.lt_of_le_of_lt (Nat.div_le_self a d) ha)]
  first | rfl | exact (Int.natCast_ediv _ _).symm
theorem pk_rem {a d : Nat} (ha : a < 2 ^ 31) (h0 : 0 < d) (hd : d < 2 ^ 31) : nI a - nI a / nI d * nI d = nI (a % d) := by
  rw [pk_div ha h0 hd, pk_mul, pk_sub (Nat.div_mul_le_self a d)]
  exact congrArg nI (by have := Nat.div_add_mod' a d; omega)
theorem uw_10 : ¬ (1 : Int32) = 0 := by decide
theorem uw_nb0 : narrow .boolean (.int 0) = .int 0 := rfl
theorem uw_nb1 : narrow .boolean (.int 1) = .int 1 := rfl
theorem uw_in {x : Int32} {a b : Nat} (h : vp_in x a) (hab : a ≤ b) : vp_in x b := by
  rw [vp_in_iff] at h ⊢; omega
theorem uw_lt0 {x : Int32} {a : Nat} (h : vp_in x a) : ¬ x < 0 := fun z => h (Or.inl z)
theorem uw_inc {x : Int32} {n : Nat} (h : vp_in x n) (hn : n < 2 ^ 31) : x.toNatClampNeg < n := by
  obtain ⟨j, hj, rfl⟩ := vp_in_of h hn
  rw [nI_clamp (by omega)]; exact hj
theorem uw_nI_toInt (x : Int32) (n : Nat) (hn : n < 2 ^ 31) : vp_in x n ↔ (¬ x < 0 ∧ x < nI n) := by
  rw [vp_in_iff, Int32.lt_iff_toInt_lt, Int32.lt_iff_toInt_lt, nI_toInt hn]
  show _ ↔ ¬ x.toInt < (0 : Int) ∧ _
  omega
/-- the range of a number that is below a literal -/
theorem uw_r4 (x : Int32) : vp_in x 4 ↔ (¬ x < 0 ∧ ¬ 4 ≤ x) := by
  rw [uw_nI_toInt x 4 (by decide), ← Int32.not_lt (a := x) (b := 4)]
  show (¬ x < 0 ∧ x < 4) ↔ _
  exact ⟨fun h => ⟨h.1, fun z => z h.2⟩, fun h => ⟨h.1, Classical.not_not.mp h.2⟩⟩
theorem uw_r3 (x : Int32) : vp_in x 3 ↔ (¬ x < 0 ∧ ¬ 3 ≤ x) := by
  rw [uw_nI_toInt x 3 (by decide), ← Int32.not_lt (a := x) (b := 3)]
  show (¬ x < 0 ∧ x < 3) ↔ _
  exact ⟨fun h => ⟨h.1, fun z => z h.2⟩, fun h => ⟨h.1, Classical.not_not.mp h.2⟩⟩
theorem uw_34 (x : Int32) : (3 : Int32) < x ↔ 4 ≤ x := by
  rw [Int32.lt_iff_toInt_lt, Int32.le_iff_toInt_le]
  show (3 : Int) < x.toInt ↔ (4 : Int) ≤ x.toInt
  omega
theorem uw_23 (x : Int32) : (2 : Int32) < x ↔ 3 ≤ x := by
  rw [Int32.lt_iff_toInt_lt, Int32.le_iff_toInt_le]
  show (2 : Int) < x.toInt ↔ (3 : Int) ≤ x.toInt
  omega
theorem uw_s4 (x : Int32) : vp_in x 4 ↔ (¬ x < 0 ∧ x ≤ 3) := by
  rw [uw_r4, ← uw_34, Int32.not_lt (a := 3) (b := x)]
theorem uw_s3 (x : Int32) : vp_in x 3 ↔ (¬ x < 0 ∧ x ≤ 2) := by
  rw [uw_r3, ← uw_23, Int32.not_lt (a := 2) (b := x)]
/-- one statement of the tables is in order -/
def uw_1 (k t o f s : Int32) : Prop := ∃ a : Nat, a < 16 ∧ k = nI a ∧ ((1 ≤ a ∧ a ≤ 6 ∨ a = 11 ∨ a = 13 ∨ a = 14) → vp_in t 4) ∧ ((2 ≤ a ∧ a ≤ 4 ∨ a = 7 ∨ a = 8) → vp_in o 4) ∧ (a = 10 → vp_in o 3) ∧ vp_in f 20 ∧ vp_in s 20
def uw_T (kd tg op fs sc : Nat → Int32) : Prop := ∀ i, i < 80 → uw_1 (kd i) (tg i) (op i) (fs i) (sc i)
/-- statement j of the draft is a part of statement k -/
def uw_P (kd fs sc : Nat → Int32) (k j : Nat) : Prop := (kd (60 + k) = 11 ∧ fs (60 + k) = nI j) ∨ ((∃ a : Nat, 12 ≤ a ∧ a < 16 ∧ kd (60 + k) = nI a) ∧ (fs (60 + k) = nI j ∨ sc (60 + k) = nI j))
def uw_D (d m : Nat) (kd fs sc sk : Nat → Int32) : Prop := d ≤ m ∧ m ≤ 20 ∧ (∀ i, i < d → vp_in (sk i) 20) ∧ (1 ≤ d → sk (d - 1) = nI (m - 1)) ∧ ∀ j, j < m → (∃ i, i < d ∧ sk i = nI j) ∨ ∃ k, j < k ∧ k < m ∧ uw_P kd fs sc k j
def uw_S (m : Nat) (sz zs : Nat → Int32) : Prop := (∀ p, p < 3 → ∃ n : Nat, 1 ≤ n ∧ n ≤ 20 ∧ sz p = nI n ∧ zs p = nI n) ∧ zs 3 = nI m
theorem uw_T_upd {kd tg op fs sc : Nat → Int32} (T : uw_T kd tg op fs sc) (i : Nat) {k t o f s : Int32} (h : uw_1 k t o f s) : uw_T (upd kd i k) (upd tg i t) (upd op i o) (upd fs i f) (upd sc i s) := by
  intro j hj
  by_cases e : j = i
  · subst e; rw [pk_us, pk_us, pk_us, pk_us, pk_us]; exact h
  · rw [pk_un e, pk_un e, pk_un e, pk_un e, pk_un e]; exact T j hj
theorem uw_D0 {kd fs sc sk : Nat → Int32} : uw_D 0 0 kd fs sc sk :=
  ⟨Nat.le_refl _, by omega, fun _ h => absurd h (by omega), fun h => absurd h (by omega), fun _ h => absurd h (by omega)⟩
/-- the relation -/
def i_Rel (k : Nat) (u : SX) (v : SY) : Prop := ∃ (d m pc : Nat) (stp opc mop lou lth rng nxt edg edn frm opn nxy way wth cal : Int32) (kd tg op fs sc sz sk wa ld hd tb po fS fE fN zs ar oN oP oW oV : Nat → Int32),
  u = (nI d, nI m, nI pc, stp, opc, mop, lou, lth, rng, nxt, edg, edn, frm, kd, tg, op, fs, sc, sz, sk, wa, ld, hd, tb, po, fS, fE, fN) ∧ v = (nI d, opn, nxy, way, wth, cal, lou, lth, stp, nI pc, mop, kd, tg, op, fs, sc, zs, sk, ar, ld, oN, oP, oW, oV, hd, tb, po) ∧ uw_T kd tg op fs sc ∧ uw_S m sz zs ∧ uw_D d m kd fs sc sk ∧ pc ≤ 300
theorem i_up {k : Nat} {u : SX} {v : SY} (h : i_Rel k u v) : i_Rel (k + 4) u v := h
variable {std mde pct stp opc mop lou lth rng nxt edg edn frm dpt opn nxy way wth cal eng thr sts ots dps : Int32} {kd tg op fs sc sz sk wa ld hd tb po fS fE fN zs ar oN oP oW oV : Nat → Int32}
theorem uw_mk {k d m pc : Nat} (T : uw_T kd tg op fs sc) (S : uw_S m sz zs) (D : uw_D d m kd fs sc sk) (hp : pc ≤ 300) : i_Rel k (nI d, nI m, nI pc, stp, opc, mop, lou, lth, rng, nxt, edg, edn, frm, kd, tg, op, fs, sc, sz, sk, wa, ld, hd, tb, po, fS, fE, fN) (nI d, opn, nxy, way, wth, cal, lou, lth, stp, nI pc, mop, kd, tg, op, fs, sc, zs, sk, ar, ld, oN, oP, oW, oV, hd, tb, po) :=
  ⟨d, m, pc, stp, opc, mop, lou, lth, rng, nxt, edg, edn, frm, opn, nxy, way, wth, cal, kd, tg, op, fs, sc, sz, sk, wa, ld, hd, tb, po, fS, fE, fN, zs, ar, oN, oP, oW, oV, rfl, rfl, T, S, D, hp⟩
