section
/-! stores and numbers (rows of kit/rows), then what holds of the tables -/
theorem pk_us {f : Nat → Int32} {k : Nat} {x : Int32} : upd f k x k = x := if_pos rfl
theorem pk_un {f : Nat → Int32} {k j : Nat} {x : Int32} (h : j ≠ k) : upd f k x j = f j := if_neg h
theorem pk_sub {a b : Nat} (h : b ≤ a) : nI a - nI b = nI (a - b) := by
  obtain ⟨c, rfl⟩ : ∃ c, a = c + b := ⟨a - b, by omega⟩
  rw [← nI_add, Int32.add_sub_cancel, Nat.add_sub_cancel]
theorem pk_m1 (n : Nat) : nI (n + 1) + (-1) = nI n := by
  rw [← nI_1, Int32.add_assoc, show (1 : Int32) + (-1) = 0 from rfl, Int32.add_zero]
theorem pk_mul (a b : Nat) : nI a * nI b = nI (a * b) := (Int32.ofNat_mul a b).symm
theorem pk_div {a d : Nat} (ha : a < 2 ^ 31) (h0 : 0 < d) (hd : d < 2 ^ 31) : nI a / nI d = nI (a / d) := by
  apply Int32.toInt_inj.mp
  rw [lg_idiv_nonneg (by rw [nI_toInt ha]; omega) (by rw [nI_toInt hd]; omega), nI_toInt ha, nI_toInt hd, nI_toInt (Nat.lt_of_le_of_lt (Nat.div_le_self a d) ha)]
  first | rfl | exact (Int.natCast_ediv _ _).symm
theorem pk_rem {a d : Nat} (ha : a < 2 ^ 31) (h0 : 0 < d) (hd : d < 2 ^ 31) : nI a - nI a / nI d * nI d = nI (a % d) := by
  rw [pk_div ha h0 hd, pk_mul, pk_sub (Nat.div_mul_le_self a d)]
  exact congrArg nI (by have := Nat.div_add_mod' a d; omega)
theorem uw_10 : ¬ (1 : Int32) = 0 := by decide
theorem uw_nb0 : narrow .boolean (.int 0) = .int 0 := rfl
theorem uw_nb1 : narrow .boolean (.int 1) = .int 1 := rfl
theorem uw_in {x : Int32} {a b : Nat} (h : vp_in x a) (hab : a ≤ b) : vp_in x b := by
  rw [vp_in_iff] at h ⊢; omega
theorem uw_lt0 {x : Int32} {a : Nat} (h : vp_in x a) : ¬ x < 0 := fun z => h (Or.inl z)
theorem uw_inc {x : Int32} {n : Nat} (h : vp_in x n) (hn : n < 2 ^ 31) : x.toNatClampNeg < n := by
  obtain ⟨j, hj, rfl⟩ := vp_in_of h hn
  rw [nI_clamp (by omega)]; exact hj
theorem uw_nI_toInt (x : Int32) (n : Nat) (hn : n < 2 ^ 31) : vp_in x n ↔ (¬ x < 0 ∧ x < nI n) := by
  rw [vp_in_iff, Int32.lt_iff_toInt_lt, Int32.lt_iff_toInt_lt, nI_toInt hn]
  show _ ↔ ¬ x.toInt < (0 : Int) ∧ _
  omega
/-- the range of a number that is below a literal -/
theorem uw_r4 (x : Int32) : vp_in x 4 ↔ (¬ x < 0 ∧ ¬ 4 ≤ x) := by
  rw [uw_nI_toInt x 4 (by decide), ← Int32.not_lt (a := x) (b := 4)]
  show (¬ x < 0 ∧ x < 4) ↔ _
  exact ⟨fun h => ⟨h.1, fun z => z h.2⟩, fun h => ⟨h.1, Classical.not_not.mp h.2⟩⟩
theorem uw_r3 (x : Int32) : vp_in x 3 ↔ (¬ x < 0 ∧ ¬ 3 ≤ x) := by
  rw [uw_nI_toInt x 3 (by decide), ← Int32.not_lt (a := x) (b := 3)]
  show (¬ x < 0 ∧ x < 3) ↔ _
  exact ⟨fun h => ⟨h.1, fun z => z h.2⟩, fun h => ⟨h.1, Classical.not_not.mp h.2⟩⟩
theorem uw_34 (x : Int32) : (3 : Int32) < x ↔ 4 ≤ x := by
  rw [Int32.lt_iff_toInt_lt, Int32.le_iff_toInt_le]
  show (3 : Int) < x.toInt ↔ (4 : Int) ≤ x.toInt
  omega
theorem uw_23 (x : Int32) : (2 : Int32) < x ↔ 3 ≤ x := by
  rw [Int32.lt_iff_toInt_lt, Int32.le_iff_toInt_le]
  show (2 : Int) < x.toInt ↔ (3 : Int) ≤ x.toInt
  omega
theorem uw_s4 (x : Int32) : vp_in x 4 ↔ (¬ x < 0 ∧ x ≤ 3) := by
  rw [uw_r4, ← uw_34, Int32.not_lt (a := 3) (b := x)]
theorem uw_s3 (x : Int32) : vp_in x 3 ↔ (¬ x < 0 ∧ x ≤ 2) := by
  rw [uw_r3, ← uw_23, Int32.not_lt (a := 2) (b := x)]
/-- one statement of the tables is in order -/
def uw_1 (k t o f s : Int32) : Prop := ∃ a : Nat, a < 16 ∧ k = nI a ∧ ((1 ≤ a ∧ a ≤ 6 ∨ a = 11 ∨ a = 13 ∨ a = 14) → vp_in t 4) ∧ ((2 ≤ a ∧ a ≤ 4 ∨ a = 7 ∨ a = 8) → vp_in o 4) ∧ (a = 10 → vp_in o 3) ∧ vp_in f 20 ∧ vp_in s 20
def uw_T (kd tg op fs sc : Nat → Int32) : Prop := ∀ i, i < 80 → uw_1 (kd i) (tg i) (op i) (fs i) (sc i)
/-- statement j of the draft is a part of statement k -/
def uw_P (kd fs sc : Nat → Int32) (k j : Nat) : Prop := (kd (60 + k) = 11 ∧ fs (60 + k) = nI j) ∨ ((∃ a : Nat, 12 ≤ a ∧ a < 16 ∧ kd (60 + k) = nI a) ∧ (fs (60 + k) = nI j ∨ sc (60 + k) = nI j))
def uw_D (d m : Nat) (kd fs sc sk : Nat → Int32) : Prop := d ≤ m ∧ m ≤ 20 ∧ (∀ i, i < d → vp_in (sk i) 20) ∧ (1 ≤ d → sk (d - 1) = nI (m - 1)) ∧ ∀ j, j < m → (∃ i, i < d ∧ sk i = nI j) ∨ ∃ k, j < k ∧ k < m ∧ uw_P kd fs sc k j
def uw_S (m : Nat) (sz zs : Nat → Int32) : Prop := (∀ p, p < 3 → ∃ n : Nat, 1 ≤ n ∧ n ≤ 20 ∧ sz p = nI n ∧ zs p = nI n) ∧ zs 3 = nI m
theorem uw_T_upd {kd tg op fs sc : Nat → Int32} (T : uw_T kd tg op fs sc) (i : Nat) {k t o f s : Int32} (h : uw_1 k t o f s) : uw_T (upd kd i k) (upd tg i t) (upd op i o) (upd fs i f) (upd sc i s) := by
  intro j hj
  by_cases e : j = i
  · subst e; rw [pk_us, pk_us, pk_us, pk_us, pk_us]; exact h
  · rw [pk_un e, pk_un e, pk_un e, pk_un e, pk_un e]; exact T j hj
theorem uw_D0 {kd fs sc sk : Nat → Int32} : uw_D 0 0 kd fs sc sk :=
  ⟨Nat.le_refl _, by omega, fun _ h => absurd h (by omega), fun h => absurd h (by omega), fun _ h => absurd h (by omega)⟩
/-- the relation -/
def i_Rel (k : Nat) (u : SX) (v : SY) : Prop := ∃ (d m pc : Nat) (stp opc mop lou lth rng nxt edg edn frm opn nxy way wth cal : Int32) (kd tg op fs sc sz sk wa ld hd tb po fS fE fN zs ar oN oP oW oV : Nat → Int32),
  u = (nI d, nI m, nI pc, stp, opc, mop, lou, lth, rng, nxt, edg, edn, frm, kd, tg, op, fs, sc, sz, sk, wa, ld, hd, tb, po, fS, fE, fN) ∧ v = (nI d, opn, nxy, way, wth, cal, lou, lth, stp, nI pc, mop, kd, tg, op, fs, sc, zs, sk, ar, ld, oN, oP, oW, oV, hd, tb, po) ∧ uw_T kd tg op fs sc ∧ uw_S m sz zs ∧ uw_D d m kd fs sc sk ∧ pc ≤ 300
theorem i_up {k : Nat} {u : SX} {v : SY} (h : i_Rel k u v) : i_Rel (k + 4) u v := h
variable {std mde pct stp opc mop lou lth rng nxt edg edn frm dpt opn nxy way wth cal eng thr sts ots dps : Int32} {kd tg op fs sc sz sk wa ld hd tb po fS fE fN zs ar oN oP oW oV : Nat → Int32}
theorem uw_mk {k d m pc : Nat} (T : uw_T kd tg op fs sc) (S : uw_S m sz zs) (D : uw_D d m kd fs sc sk) (hp : pc ≤ 300) : i_Rel k (nI d, nI m, nI pc, stp, opc, mop, lou, lth, rng, nxt, edg, edn, frm, kd, tg, op, fs, sc, sz, sk, wa, ld, hd, tb, po, fS, fE, fN) (nI d, opn, nxy, way, wth, cal, lou, lth, stp, nI pc, mop, kd, tg, op, fs, sc, zs, sk, ar, ld, oN, oP, oW, oV, hd, tb, po) :=
  ⟨d, m, pc, stp, opc, mop, lou, lth, rng, nxt, edg, edn, frm, opn, nxy, way, wth, cal, kd, tg, op, fs, sc, sz, sk, wa, ld, hd, tb, po, fS, fE, fN, zs, ar, oN, oP, oW, oV, rfl, rfl, T, S, D, hp⟩
end
section
/-! registers, procedures, operands: the tests of both sides; push and make -/
variable {std mde pct stp opc mop lou lth rng nxt edg edn frm dpt opn nxy way wth cal eng thr sts ots dps : Int32} {kd tg op fs sc sz sk wa ld hd tb po fS fE fN zs ar oN oP oW oV : Nat → Int32}
theorem uw_xr {post : Int32 → Prop} {r : Int32} (h1 : vp_in r 4 → post 1) (h0 : ¬ vp_in r 4 → post 0) : wpX_isRegister post r := by
  by_cases a : r < 0
  · exact br_t a (h0 fun z => z (Or.inl a))
  · by_cases b : 4 ≤ r
    · exact br_f a (br_t b (h0 fun z => ((uw_r4 r).mp z).2 b))
    · exact br_f a (br_f b (h1 ((uw_r4 r).mpr ⟨a, b⟩)))
theorem uw_yr {post : Int32 → Prop} {r : Int32} (h1 : vp_in r 4 → post 1) (h0 : ¬ vp_in r 4 → post 0) : wpY_isRegister post (dpt, opn, nxy, way, wth, cal, eng, thr, sts, ots, dps, kd, tg, op, fs, sc, zs, sk, ar, ld, oN, oP, oW, oV, hd, tb, po) r := by
  by_cases a : r < 0
  · exact br_t a (h0 fun z => z (Or.inl a))
  · by_cases b : 3 < r
    · exact br_f a (br_t b (h0 fun z => ((uw_r4 r).mp z).2 ((uw_34 r).mp b)))
    · exact br_f a (br_f b (h1 ((uw_r4 r).mpr ⟨a, fun z => b ((uw_34 r).mpr z)⟩)))
theorem uw_xp {post : Int32 → Prop} {r : Int32} (h1 : vp_in r 3 → post 1) (h0 : ¬ vp_in r 3 → post 0) : wpX_isProcedure post r := by
  by_cases a : r < 0
  · exact br_t a (h0 fun z => z (Or.inl a))
  · by_cases b : 3 ≤ r
    · exact br_f a (br_t b (h0 fun z => ((uw_r3 r).mp z).2 b))
    · exact br_f a (br_f b (h1 ((uw_r3 r).mpr ⟨a, b⟩)))
def uw_F (a : Nat) (n : Int32) : Prop := (a = 1 → ¬ n < (-100) ∧ ¬ 100 < n) ∧ ((2 ≤ a ∧ a ≤ 4 ∨ a = 7 ∨ a = 8) → vp_in n 4) ∧ (a = 10 → vp_in n 3)
theorem uw_F4 {a : Nat} {n : Int32} (ha : 2 ≤ a ∧ a ≤ 4 ∨ a = 7 ∨ a = 8) : uw_F a n ↔ vp_in n 4 :=
  ⟨fun h => h.2.1 ha, fun h => ⟨fun e => absurd e (by omega), fun _ => h, fun e => absurd e (by omega)⟩⟩
theorem uw_F1 {n : Int32} : uw_F 1 n ↔ (¬ n < (-100) ∧ ¬ 100 < n) :=
  ⟨fun h => h.1 rfl, fun h => ⟨fun _ => h, fun e => absurd e (by omega), fun e => absurd e (by omega)⟩⟩
theorem uw_F10 {n : Int32} : uw_F 10 n ↔ vp_in n 3 :=
  ⟨fun h => h.2.2 rfl, fun h => ⟨fun e => absurd e (by omega), fun e => absurd e (by omega), fun _ => h⟩⟩
theorem uw_F0 {a : Nat} {n : Int32} (ha : a = 0 ∨ a = 5 ∨ a = 6 ∨ a = 9) : uw_F a n :=
  ⟨fun e => absurd e (by omega), fun e => absurd e (by omega), fun e => absurd e (by omega)⟩
theorem uw_x74 {post : Int32 → Prop} {n : Int32} (h1 : vp_in n 4 → post 1) (h0 : ¬ vp_in n 4 → post 0) : wX_operandFits_74 post n := by
  unfold wX_operandFits_74
  exact uw_xr (fun h => ⟨uw_nb1, h1 h⟩) (fun h => ⟨uw_nb0, h0 h⟩)
theorem uw_x79 {post : Int32 → Prop} {n : Int32} (h1 : vp_in n 4 → post 1) (h0 : ¬ vp_in n 4 → post 0) : wX_operandFits_79 post n := by
  by_cases a : n < 0
  · exact br_t a (h0 fun z => z (Or.inl a))
  · by_cases b : 3 < n
    · exact br_f a (br_t b (h0 fun z => ((uw_r4 n).mp z).2 ((uw_34 n).mp b)))
    · exact br_f a (br_f b (h1 ((uw_r4 n).mpr ⟨a, fun z => b ((uw_34 n).mpr z)⟩)))
theorem uw_xf0 {post : Int32 → Prop} {n : Int32} (h1 : uw_F 0 n → post 1) (h0 : ¬ uw_F 0 n → post 0) : wpX_operandFits post 0 n := by
  exact br_t (by decide +kernel : (0 : Int32) < 1) (h1 (uw_F0 (by omega)))
theorem uw_xf1 {post : Int32 → Prop} {n : Int32} (h1 : uw_F 1 n → post 1) (h0 : ¬ uw_F 1 n → post 0) : wpX_operandFits post 1 n := by
  by_cases a : n < (-100)
  · exact br_f (by decide +kernel : ¬ (1 : Int32) < 1) (br_f (by decide +kernel : ¬ (10 : Int32) < 1) (br_t rfl (br_t a (h0 fun z => (uw_F1.mp z).1 a))))
  · by_cases b : 100 < n
    · exact br_f (by decide +kernel : ¬ (1 : Int32) < 1) (br_f (by decide +kernel : ¬ (10 : Int32) < 1) (br_t rfl (br_f a (br_t b (h0 fun z => (uw_F1.mp z).2 b)))))
    · exact br_f (by decide +kernel : ¬ (1 : Int32) < 1) (br_f (by decide +kernel : ¬ (10 : Int32) < 1) (br_t rfl (br_f a (br_f b (h1 (uw_F1.mpr ⟨a, b⟩))))))
theorem uw_xf2 {post : Int32 → Prop} {n : Int32} (h1 : uw_F 2 n → post 1) (h0 : ¬ uw_F 2 n → post 0) : wpX_operandFits post 2 n := by
  exact br_f (by decide +kernel : ¬ (2 : Int32) < 1) (br_f (by decide +kernel : ¬ (10 : Int32) < 2) (br_f (by decide +kernel : ¬ (2 : Int32) = 1) (br_t rfl (uw_x74 (fun h => h1 ((uw_F4 (by omega)).mpr h)) (fun h => h0 fun z => h ((uw_F4 (by omega)).mp z))))))
theorem uw_xf3 {post : Int32 → Prop} {n : Int32} (h1 : uw_F 3 n → post 1) (h0 : ¬ uw_F 3 n → post 0) : wpX_operandFits post 3 n := by
  exact br_f (by decide +kernel : ¬ (3 : Int32) < 1) (br_f (by decide +kernel : ¬ (10 : Int32) < 3) (br_f (by decide +kernel : ¬ (3 : Int32) = 1) (br_f (by decide +kernel : ¬ (3 : Int32) = 2) (br_t rfl (uw_x74 (fun h => h1 ((uw_F4 (by omega)).mpr h)) (fun h => h0 fun z => h ((uw_F4 (by omega)).mp z)))))))
theorem uw_xf4 {post : Int32 → Prop} {n : Int32} (h1 : uw_F 4 n → post 1) (h0 : ¬ uw_F 4 n → post 0) : wpX_operandFits post 4 n := by
  exact br_f (by decide +kernel : ¬ (4 : Int32) < 1) (br_f (by decide +kernel : ¬ (10 : Int32) < 4) (br_f (by decide +kernel : ¬ (4 : Int32) = 1) (br_f (by decide +kernel : ¬ (4 : Int32) = 2) (br_f (by decide +kernel : ¬ (4 : Int32) = 3) (br_t rfl (uw_x74 (fun h => h1 ((uw_F4 (by omega)).mpr h)) (fun h => h0 fun z => h ((uw_F4 (by omega)).mp z))))))))
theorem uw_xf5 {post : Int32 → Prop} {n : Int32} (h1 : uw_F 5 n → post 1) (h0 : ¬ uw_F 5 n → post 0) : wpX_operandFits post 5 n := by
  exact br_f (by decide +kernel : ¬ (5 : Int32) < 1) (br_f (by decide +kernel : ¬ (10 : Int32) < 5) (br_f (by decide +kernel : ¬ (5 : Int32) = 1) (br_f (by decide +kernel : ¬ (5 : Int32) = 2) (br_f (by decide +kernel : ¬ (5 : Int32) = 3) (br_f (by decide +kernel : ¬ (5 : Int32) = 4) (br_t rfl (h1 (uw_F0 (by omega)))))))))
theorem uw_xf6 {post : Int32 → Prop} {n : Int32} (h1 : uw_F 6 n → post 1) (h0 : ¬ uw_F 6 n → post 0) : wpX_operandFits post 6 n := by
  exact br_f (by decide +kernel : ¬ (6 : Int32) < 1) (br_f (by decide +kernel : ¬ (10 : Int32) < 6) (br_f (by decide +kernel : ¬ (6 : Int32) = 1) (br_f (by decide +kernel : ¬ (6 : Int32) = 2) (br_f (by decide +kernel : ¬ (6 : Int32) = 3) (br_f (by decide +kernel : ¬ (6 : Int32) = 4) (br_f (by decide +kernel : ¬ (6 : Int32) = 5) (br_t rfl (h1 (uw_F0 (by omega))))))))))
theorem uw_xf7 {post : Int32 → Prop} {n : Int32} (h1 : uw_F 7 n → post 1) (h0 : ¬ uw_F 7 n → post 0) : wpX_operandFits post 7 n := by
  exact br_f (by decide +kernel : ¬ (7 : Int32) < 1) (br_f (by decide +kernel : ¬ (10 : Int32) < 7) (br_f (by decide +kernel : ¬ (7 : Int32) = 1) (br_f (by decide +kernel : ¬ (7 : Int32) = 2) (br_f (by decide +kernel : ¬ (7 : Int32) = 3) (br_f (by decide +kernel : ¬ (7 : Int32) = 4) (br_f (by decide +kernel : ¬ (7 : Int32) = 5) (br_f (by decide +kernel : ¬ (7 : Int32) = 6) (br_t rfl (uw_x79 (fun h => h1 ((uw_F4 (by omega)).mpr h)) (fun h => h0 fun z => h ((uw_F4 (by omega)).mp z)))))))))))
theorem uw_xf8 {post : Int32 → Prop} {n : Int32} (h1 : uw_F 8 n → post 1) (h0 : ¬ uw_F 8 n → post 0) : wpX_operandFits post 8 n := by
  exact br_f (by decide +kernel : ¬ (8 : Int32) < 1) (br_f (by decide +kernel : ¬ (10 : Int32) < 8) (br_f (by decide +kernel : ¬ (8 : Int32) = 1) (br_f (by decide +kernel : ¬ (8 : Int32) = 2) (br_f (by decide +kernel : ¬ (8 : Int32) = 3) (br_f (by decide +kernel : ¬ (8 : Int32) = 4) (br_f (by decide +kernel : ¬ (8 : Int32) = 5) (br_f (by decide +kernel : ¬ (8 : Int32) = 6) (br_f (by decide +kernel : ¬ (8 : Int32) = 7) (br_t rfl (uw_x79 (fun h => h1 ((uw_F4 (by omega)).mpr h)) (fun h => h0 fun z => h ((uw_F4 (by omega)).mp z))))))))))))
theorem uw_xf9 {post : Int32 → Prop} {n : Int32} (h1 : uw_F 9 n → post 1) (h0 : ¬ uw_F 9 n → post 0) : wpX_operandFits post 9 n := by
  exact br_f (by decide +kernel : ¬ (9 : Int32) < 1) (br_f (by decide +kernel : ¬ (10 : Int32) < 9) (br_f (by decide +kernel : ¬ (9 : Int32) = 1) (br_f (by decide +kernel : ¬ (9 : Int32) = 2) (br_f (by decide +kernel : ¬ (9 : Int32) = 3) (br_f (by decide +kernel : ¬ (9 : Int32) = 4) (br_f (by decide +kernel : ¬ (9 : Int32) = 5) (br_f (by decide +kernel : ¬ (9 : Int32) = 6) (br_f (by decide +kernel : ¬ (9 : Int32) = 7) (br_f (by decide +kernel : ¬ (9 : Int32) = 8) (br_t rfl (h1 (uw_F0 (by omega)))))))))))))
theorem uw_xf10 {post : Int32 → Prop} {n : Int32} (h1 : uw_F 10 n → post 1) (h0 : ¬ uw_F 10 n → post 0) : wpX_operandFits post 10 n := by
  exact br_f (by decide +kernel : ¬ (10 : Int32) < 1) (br_f (by decide +kernel : ¬ (10 : Int32) < 10) (br_f (by decide +kernel : ¬ (10 : Int32) = 1) (br_f (by decide +kernel : ¬ (10 : Int32) = 2) (br_f (by decide +kernel : ¬ (10 : Int32) = 3) (br_f (by decide +kernel : ¬ (10 : Int32) = 4) (br_f (by decide +kernel : ¬ (10 : Int32) = 5) (br_f (by decide +kernel : ¬ (10 : Int32) = 6) (br_f (by decide +kernel : ¬ (10 : Int32) = 7) (br_f (by decide +kernel : ¬ (10 : Int32) = 8) (br_f (by decide +kernel : ¬ (10 : Int32) = 9) (br_t rfl (uw_xp (fun h => ⟨uw_nb1, h1 (uw_F10.mpr h)⟩) (fun h => ⟨uw_nb0, h0 fun z => h (uw_F10.mp z)⟩)))))))))))))
theorem uw_y71 {post : Int32 → Prop} {n : Int32} (h1 : vp_in n 4 → post 0) (h0 : ¬ vp_in n 4 → post 1) : wY_badNumber_71 post n 1 dpt opn nxy way wth cal eng thr sts ots dps kd tg op fs sc zs sk ar ld oN oP oW oV hd tb po := by
  by_cases a : n < 0
  · exact br_f uw_10 (br_t a (h0 fun z => z (Or.inl a)))
  · by_cases b : n ≤ 3
    · exact br_f uw_10 (br_f a (br_t b (h1 ((uw_s4 n).mpr ⟨a, b⟩))))
    · exact br_f uw_10 (br_f a (br_f b (h0 fun z => b ((uw_s4 n).mp z).2)))
theorem uw_yf0 {post : Int32 → Prop} {n : Int32} (h1 : uw_F 0 n → post 0) (h0 : ¬ uw_F 0 n → post 1) : wpY_badNumber post (dpt, opn, nxy, way, wth, cal, eng, thr, sts, ots, dps, kd, tg, op, fs, sc, zs, sk, ar, ld, oN, oP, oW, oV, hd, tb, po) 0 n := by
  exact br_f (by decide +kernel : ¬ (0 : Int32) = 1) (br_f (by decide +kernel : ¬ (0 : Int32) = 10) (br_t (by decide +kernel : (0 : Int32) < 2) (br_f (by decide +kernel : ¬ (0 : Int32) = 7) (br_f (by decide +kernel : ¬ (0 : Int32) = 8) (br_t rfl (h1 (uw_F0 (by omega))))))))
theorem uw_yf1 {post : Int32 → Prop} {n : Int32} (h1 : uw_F 1 n → post 0) (h0 : ¬ uw_F 1 n → post 1) : wpY_badNumber post (dpt, opn, nxy, way, wth, cal, eng, thr, sts, ots, dps, kd, tg, op, fs, sc, zs, sk, ar, ld, oN, oP, oW, oV, hd, tb, po) 1 n := by
  by_cases a : n < (-100)
  · exact br_t rfl (br_t a (h0 fun z => (uw_F1.mp z).1 a))
  · by_cases b : n ≤ 100
    · exact br_t rfl (br_f a (br_t b (h1 (uw_F1.mpr ⟨a, Int32.not_lt.mpr b⟩))))
    · exact br_t rfl (br_f a (br_f b (h0 fun z => (uw_F1.mp z).2 (Int32.not_le.mp b))))
theorem uw_yf2 {post : Int32 → Prop} {n : Int32} (h1 : uw_F 2 n → post 0) (h0 : ¬ uw_F 2 n → post 1) : wpY_badNumber post (dpt, opn, nxy, way, wth, cal, eng, thr, sts, ots, dps, kd, tg, op, fs, sc, zs, sk, ar, ld, oN, oP, oW, oV, hd, tb, po) 2 n := by
  exact br_f (by decide +kernel : ¬ (2 : Int32) = 1) (br_f (by decide +kernel : ¬ (2 : Int32) = 10) (br_f (by decide +kernel : ¬ (2 : Int32) < 2) (br_t (by decide +kernel : (2 : Int32) ≤ 4) (uw_y71 (fun h => h1 ((uw_F4 (by omega)).mpr h)) (fun h => h0 fun z => h ((uw_F4 (by omega)).mp z))))))
theorem uw_yf3 {post : Int32 → Prop} {n : Int32} (h1 : uw_F 3 n → post 0) (h0 : ¬ uw_F 3 n → post 1) : wpY_badNumber post (dpt, opn, nxy, way, wth, cal, eng, thr, sts, ots, dps, kd, tg, op, fs, sc, zs, sk, ar, ld, oN, oP, oW, oV, hd, tb, po) 3 n := by
  exact br_f (by decide +kernel : ¬ (3 : Int32) = 1) (br_f (by decide +kernel : ¬ (3 : Int32) = 10) (br_f (by decide +kernel : ¬ (3 : Int32) < 2) (br_t (by decide +kernel : (3 : Int32) ≤ 4) (uw_y71 (fun h => h1 ((uw_F4 (by omega)).mpr h)) (fun h => h0 fun z => h ((uw_F4 (by omega)).mp z))))))
theorem uw_yf4 {post : Int32 → Prop} {n : Int32} (h1 : uw_F 4 n → post 0) (h0 : ¬ uw_F 4 n → post 1) : wpY_badNumber post (dpt, opn, nxy, way, wth, cal, eng, thr, sts, ots, dps, kd, tg, op, fs, sc, zs, sk, ar, ld, oN, oP, oW, oV, hd, tb, po) 4 n := by
  exact br_f (by decide +kernel : ¬ (4 : Int32) = 1) (br_f (by decide +kernel : ¬ (4 : Int32) = 10) (br_f (by decide +kernel : ¬ (4 : Int32) < 2) (br_t (by decide +kernel : (4 : Int32) ≤ 4) (uw_y71 (fun h => h1 ((uw_F4 (by omega)).mpr h)) (fun h => h0 fun z => h ((uw_F4 (by omega)).mp z))))))
theorem uw_yf5 {post : Int32 → Prop} {n : Int32} (h1 : uw_F 5 n → post 0) (h0 : ¬ uw_F 5 n → post 1) : wpY_badNumber post (dpt, opn, nxy, way, wth, cal, eng, thr, sts, ots, dps, kd, tg, op, fs, sc, zs, sk, ar, ld, oN, oP, oW, oV, hd, tb, po) 5 n := by
  exact br_f (by decide +kernel : ¬ (5 : Int32) = 1) (br_f (by decide +kernel : ¬ (5 : Int32) = 10) (br_f (by decide +kernel : ¬ (5 : Int32) < 2) (br_f (by decide +kernel : ¬ (5 : Int32) ≤ 4) (br_f (by decide +kernel : ¬ (5 : Int32) = 7) (br_f (by decide +kernel : ¬ (5 : Int32) = 8) (br_t rfl (h1 (uw_F0 (by omega)))))))))
theorem uw_yf6 {post : Int32 → Prop} {n : Int32} (h1 : uw_F 6 n → post 0) (h0 : ¬ uw_F 6 n → post 1) : wpY_badNumber post (dpt, opn, nxy, way, wth, cal, eng, thr, sts, ots, dps, kd, tg, op, fs, sc, zs, sk, ar, ld, oN, oP, oW, oV, hd, tb, po) 6 n := by
  exact br_f (by decide +kernel : ¬ (6 : Int32) = 1) (br_f (by decide +kernel : ¬ (6 : Int32) = 10) (br_f (by decide +kernel : ¬ (6 : Int32) < 2) (br_f (by decide +kernel : ¬ (6 : Int32) ≤ 4) (br_f (by decide +kernel : ¬ (6 : Int32) = 7) (br_f (by decide +kernel : ¬ (6 : Int32) = 8) (br_t rfl (h1 (uw_F0 (by omega)))))))))
theorem uw_yf7 {post : Int32 → Prop} {n : Int32} (h1 : uw_F 7 n → post 0) (h0 : ¬ uw_F 7 n → post 1) : wpY_badNumber post (dpt, opn, nxy, way, wth, cal, eng, thr, sts, ots, dps, kd, tg, op, fs, sc, zs, sk, ar, ld, oN, oP, oW, oV, hd, tb, po) 7 n := by
  exact br_f (by decide +kernel : ¬ (7 : Int32) = 1) (br_f (by decide +kernel : ¬ (7 : Int32) = 10) (br_f (by decide +kernel : ¬ (7 : Int32) < 2) (br_f (by decide +kernel : ¬ (7 : Int32) ≤ 4) (br_t rfl (uw_y71 (fun h => h1 ((uw_F4 (by omega)).mpr h)) (fun h => h0 fun z => h ((uw_F4 (by omega)).mp z)))))))
theorem uw_yf8 {post : Int32 → Prop} {n : Int32} (h1 : uw_F 8 n → post 0) (h0 : ¬ uw_F 8 n → post 1) : wpY_badNumber post (dpt, opn, nxy, way, wth, cal, eng, thr, sts, ots, dps, kd, tg, op, fs, sc, zs, sk, ar, ld, oN, oP, oW, oV, hd, tb, po) 8 n := by
  exact br_f (by decide +kernel : ¬ (8 : Int32) = 1) (br_f (by decide +kernel : ¬ (8 : Int32) = 10) (br_f (by decide +kernel : ¬ (8 : Int32) < 2) (br_f (by decide +kernel : ¬ (8 : Int32) ≤ 4) (br_f (by decide +kernel : ¬ (8 : Int32) = 7) (br_t rfl (uw_y71 (fun h => h1 ((uw_F4 (by omega)).mpr h)) (fun h => h0 fun z => h ((uw_F4 (by omega)).mp z))))))))
theorem uw_yf9 {post : Int32 → Prop} {n : Int32} (h1 : uw_F 9 n → post 0) (h0 : ¬ uw_F 9 n → post 1) : wpY_badNumber post (dpt, opn, nxy, way, wth, cal, eng, thr, sts, ots, dps, kd, tg, op, fs, sc, zs, sk, ar, ld, oN, oP, oW, oV, hd, tb, po) 9 n := by
  exact br_f (by decide +kernel : ¬ (9 : Int32) = 1) (br_f (by decide +kernel : ¬ (9 : Int32) = 10) (br_f (by decide +kernel : ¬ (9 : Int32) < 2) (br_f (by decide +kernel : ¬ (9 : Int32) ≤ 4) (br_f (by decide +kernel : ¬ (9 : Int32) = 7) (br_f (by decide +kernel : ¬ (9 : Int32) = 8) (br_t rfl (h1 (uw_F0 (by omega)))))))))
theorem uw_yf10 {post : Int32 → Prop} {n : Int32} (h1 : uw_F 10 n → post 0) (h0 : ¬ uw_F 10 n → post 1) : wpY_badNumber post (dpt, opn, nxy, way, wth, cal, eng, thr, sts, ots, dps, kd, tg, op, fs, sc, zs, sk, ar, ld, oN, oP, oW, oV, hd, tb, po) 10 n := by
  by_cases a : n < 0
  · exact br_f (by decide +kernel : ¬ (10 : Int32) = 1) (br_t rfl (br_t a (h0 fun z => (uw_F10.mp z) (Or.inl a))))
  · by_cases b : n ≤ 2
    · exact br_f (by decide +kernel : ¬ (10 : Int32) = 1) (br_t rfl (br_f a (br_t b (h1 (uw_F10.mpr ((uw_s3 n).mpr ⟨a, b⟩))))))
    · exact br_f (by decide +kernel : ¬ (10 : Int32) = 1) (br_t rfl (br_f a (br_f b (h0 fun z => b ((uw_s3 n).mp (uw_F10.mp z)).2))))
theorem uw_xf {post : Int32 → Prop} {a : Nat} {n : Int32} (ha : a ≤ 10) (h1 : uw_F a n → post 1) (h0 : ¬ uw_F a n → post 0) : wpX_operandFits post (nI a) n := by
  rcases (by omega : a = 0 ∨ a = 1 ∨ a = 2 ∨ a = 3 ∨ a = 4 ∨ a = 5 ∨ a = 6 ∨ a = 7 ∨ a = 8 ∨ a = 9 ∨ a = 10) with rfl | rfl | rfl | rfl | rfl | rfl | rfl | rfl | rfl | rfl | rfl
  · exact uw_xf0 h1 h0
  · exact uw_xf1 h1 h0
  · exact uw_xf2 h1 h0
  · exact uw_xf3 h1 h0
  · exact uw_xf4 h1 h0
  · exact uw_xf5 h1 h0
  · exact uw_xf6 h1 h0
  · exact uw_xf7 h1 h0
  · exact uw_xf8 h1 h0
  · exact uw_xf9 h1 h0
  · exact uw_xf10 h1 h0
theorem uw_yf {post : Int32 → Prop} {a : Nat} {n : Int32} (ha : a ≤ 10) (h1 : uw_F a n → post 0) (h0 : ¬ uw_F a n → post 1) : wpY_badNumber post (dpt, opn, nxy, way, wth, cal, eng, thr, sts, ots, dps, kd, tg, op, fs, sc, zs, sk, ar, ld, oN, oP, oW, oV, hd, tb, po) (nI a) n := by
  rcases (by omega : a = 0 ∨ a = 1 ∨ a = 2 ∨ a = 3 ∨ a = 4 ∨ a = 5 ∨ a = 6 ∨ a = 7 ∨ a = 8 ∨ a = 9 ∨ a = 10) with rfl | rfl | rfl | rfl | rfl | rfl | rfl | rfl | rfl | rfl | rfl
  · exact uw_yf0 h1 h0
  · exact uw_yf1 h1 h0
  · exact uw_yf2 h1 h0
  · exact uw_yf3 h1 h0
  · exact uw_yf4 h1 h0
  · exact uw_yf5 h1 h0
  · exact uw_yf6 h1 h0
  · exact uw_yf7 h1 h0
  · exact uw_yf8 h1 h0
  · exact uw_yf9 h1 h0
  · exact uw_yf10 h1 h0
theorem uw_xpush {post : Int32 → SX → Prop} {d m : Nat} {p0 p1 p2 p3 p4 : Int32} (h1 : d < 20) (h2 : m < 20) (H : post (nI m) (nI (d + 1), nI (m + 1), pct, stp, opc, mop, lou, lth, rng, nxt, edg, edn, frm, upd kd (60 + m) p0, upd tg (60 + m) p1, upd op (60 + m) p2, upd fs (60 + m) p3, upd sc (60 + m) p4, sz, upd sk d (nI m), wa, ld, hd, tb, po, fS, fE, fN)) : wpX_push post (nI d, nI m, pct, stp, opc, mop, lou, lth, rng, nxt, edg, edn, frm, kd, tg, op, fs, sc, sz, sk, wa, ld, hd, tb, po, fS, fE, fN) p0 p1 p2 p3 p4 := by
  have e : (60 : Int32) + nI m = nI (60 + m) := nI_add 60 m
  have i : vp_in (nI (60 + m)) 80 := vp_in_nI (by omega) (by omega)
  have c : (nI (60 + m)).toNatClampNeg = 60 + m := nI_clamp (by omega)
  have i2 : vp_in (nI d) 20 := vp_in_nI (by omega) (by omega)
  have c2 : (nI d).toNatClampNeg = d := nI_clamp (by omega)
  simp only [wpX_push, e, i, c, i2, c2, nI_1, true_and, forall_eq]
  exact H
theorem uw_ymake {post : Int32 → SY → Prop} {d m : Nat} {p0 p1 p2 p3 p4 : Int32} (hz : zs 3 = nI m) (h1 : d < 20) (h2 : m < 20) (H : post (nI m) (nI (d + 1), opn, nxy, way, wth, cal, eng, thr, sts, ots, dps, upd kd (60 + m) p0, upd tg (60 + m) p1, upd op (60 + m) p2, upd fs (60 + m) p3, upd sc (60 + m) p4, upd zs 3 (nI (m + 1)), upd sk d (nI m), ar, ld, oN, oP, oW, oV, hd, tb, po)) : wpY_make post (nI d, opn, nxy, way, wth, cal, eng, thr, sts, ots, dps, kd, tg, op, fs, sc, zs, sk, ar, ld, oN, oP, oW, oV, hd, tb, po) p0 p1 p2 p3 p4 := by
  have e : (60 : Int32) + nI m = nI (60 + m) := nI_add 60 m
  have i : vp_in (nI (60 + m)) 80 := vp_in_nI (by omega) (by omega)
  have c : (nI (60 + m)).toNatClampNeg = 60 + m := nI_clamp (by omega)
  have i2 : vp_in (nI d) 20 := vp_in_nI (by omega) (by omega)
  have c2 : (nI d).toNatClampNeg = d := nI_clamp (by omega)
  simp only [wpY_make, hz, e, i, c, i2, c2, nI_1, true_and, forall_eq]
  exact H
/-- the draft after a statement was put on the stack over what was taken off -/
theorem uw_D_gen {e d m : Nat} {k f s : Int32} (D : uw_D d m kd fs sc sk) (hm : m < 20) (he : e ≤ d) (hp : ∀ i j, e ≤ i → i < d → sk i = nI j → uw_P (upd kd (60 + m) k) (upd fs (60 + m) f) (upd sc (60 + m) s) m j) : uw_D (e + 1) (m + 1) (upd kd (60 + m) k) (upd fs (60 + m) f) (upd sc (60 + m) s) (upd sk e (nI m)) := by
  obtain ⟨D1, D2, D3, D4, D5⟩ := D
  refine ⟨by omega, by omega, ?_, ?_, ?_⟩
  · intro i hi
    by_cases h : i = e
    · subst h; rw [pk_us]; exact vp_in_nI hm (by omega)
    · rw [pk_un h]; exact D3 i (by omega)
  · intro _
    show upd sk e (nI m) (e + 1 - 1) = nI (m + 1 - 1)
    rw [Nat.add_sub_cancel, Nat.add_sub_cancel, pk_us]
  · intro j hj
    by_cases h : j = m
    · subst h; exact Or.inl ⟨e, by omega, pk_us⟩
    · rcases D5 j (by omega) with ⟨i, hi, hs⟩ | ⟨q, h1, h2, h3⟩
      · by_cases h' : i < e
        · exact Or.inl ⟨i, by omega, by rw [pk_un (by omega)]; exact hs⟩
        · exact Or.inr ⟨m, by omega, by omega, hp i j (by omega) hi hs⟩
      · refine Or.inr ⟨q, h1, by omega, ?_⟩
        have n : 60 + q ≠ 60 + m := by omega
        unfold uw_P
        rw [pk_un n, pk_un n, pk_un n]
        exact h3
theorem uw_S_made {m n : Nat} (S : uw_S m sz zs) : uw_S n sz (upd zs 3 (nI n)) :=
  ⟨fun p hp => by rw [pk_un (by omega)]; exact S.1 p hp, pk_us⟩
end
section
/-! simple, loop, join and the small methods: both sides with one answer, in related states again -/
variable {std mde pct stp opc mop lou lth rng nxt edg edn frm dpt opn nxy way wth cal eng thr sts ots dps : Int32} {kd tg op fs sc sz sk wa ld hd tb po fS fE fN zs ar oN oP oW oV : Nat → Int32}
/-- what is owed of a method that may write -/
def uw_E (k : Nat) (wx : (Int32 → SX → Prop) → Prop) (wy : (Int32 → SY → Prop) → Prop) : Prop := ∃ (r : Int32) (u' : SX) (v' : SY), (∀ post : Int32 → SX → Prop, post r u' → wx post) ∧ (∀ post : Int32 → SY → Prop, post r v' → wy post) ∧ i_Rel k u' v'
theorem uw_Ei {k : Nat} {wx : (Int32 → SX → Prop) → Prop} {wy : (Int32 → SY → Prop) → Prop} (h : uw_E k wx wy) : wx (fun r u' => wy (fun r' v' => r' = r ∧ i_Rel k u' v')) := by
  obtain ⟨r, u', v', hx, hy, R⟩ := h
  exact hx _ (hy _ ⟨rfl, R⟩)
theorem uw_xs32 {post : Int32 → SX → Prop} {a : Nat} {v2 v3 : Int32} (ha : a ≤ 10) (hr : 1 ≤ a ∧ a ≤ 6 → vp_in v2 4) (K : wX_simple_32 post (nI a) v2 v3 std mde pct stp opc mop lou lth rng nxt edg edn frm kd tg op fs sc sz sk wa ld hd tb po fS fE fN) : wpX_simple post (std, mde, pct, stp, opc, mop, lou, lth, rng, nxt, edg, edn, frm, kd, tg, op, fs, sc, sz, sk, wa, ld, hd, tb, po, fS, fE, fN) (nI a) v2 v3 := by
  have h0 : ¬ nI a < 0 := nI_pos (by omega)
  have h10 : nI a ≤ 10 := nI_le (b := 10) ha (by decide)
  by_cases h1 : nI a < 1
  · exact br_f h0 (br_t h10 (br_t h1 K))
  · by_cases h6 : 6 < nI a
    · exact br_f h0 (br_t h10 (br_f h1 (br_t h6 K)))
    · have g1 : ¬ a < 1 := fun z => h1 (nI_lt (b := 1) z (by decide))
      have g6 : ¬ 6 < a := fun z => h6 (nI_lt (a := 6) z (by omega))
      exact br_f h0 (br_t h10 (br_f h1 (br_f h6 (uw_xr (fun _ => br_f uw_10 K) (fun z => absurd (hr ⟨by omega, by omega⟩) z)))))
theorem uw_ys33 {post : Int32 → SY → Prop} {a : Nat} {v2 v3 : Int32} (ha : a ≤ 10) (hr : 1 ≤ a ∧ a ≤ 6 → vp_in v2 4) (K : wY_simple_33 post (nI a) v2 v3 dpt opn nxy way wth cal eng thr sts ots dps kd tg op fs sc zs sk ar ld oN oP oW oV hd tb po) : wpY_simple post (dpt, opn, nxy, way, wth, cal, eng, thr, sts, ots, dps, kd, tg, op, fs, sc, zs, sk, ar, ld, oN, oP, oW, oV, hd, tb, po) (nI a) v2 v3 := by
  have h0 : ¬ nI a < 0 := nI_pos (by omega)
  have h10 : nI a ≤ 10 := nI_le (b := 10) ha (by decide)
  by_cases h1 : nI a < 1
  · exact br_f h0 (br_t h10 (br_t h1 K))
  · by_cases h6 : 6 < nI a
    · exact br_f h0 (br_t h10 (br_f h1 (br_t h6 K)))
    · have g1 : ¬ a < 1 := fun z => h1 (nI_lt (b := 1) z (by decide))
      have g6 : ¬ 6 < a := fun z => h6 (nI_lt (a := 6) z (by omega))
      exact br_f h0 (br_t h10 (br_f h1 (br_f h6 (uw_yr (fun _ => br_f uw_10 K) (fun z => absurd (hr ⟨by omega, by omega⟩) z)))))
theorem uw_simple {k : Nat} {u : SX} {v : SY} (I : i_Rel k u v) (v1 v2 v3 : Int32) : uw_E (k + 4) (fun post => wpX_simple post u v1 v2 v3) (fun post => wpY_simple post v v1 v2 v3) := by
  have I0 := I
  obtain ⟨d, m, pc, stp, opc, mop, lou, lth, rng, nxt, edg, edn, frm, opn, nxy, way, wth, cal, kd, tg, op, fs, sc, sz, sk, wa, ld, hd, tb, po, fS, fE, fN, zs, ar, oN, oP, oW, oV, rfl, rfl, T, S, D, hp⟩ := I
  by_cases h0 : v1 < 0
  · exact ⟨-1, _, _, fun post H => br_t h0 H, fun post H => br_t h0 H, I0⟩
  by_cases h10 : v1 ≤ 10
  · obtain ⟨a, ha, rfl⟩ := nI_of2 (n := 10) (M := 10) (by decide) h0 h10
    by_cases hr : (1 ≤ a ∧ a ≤ 6) ∧ ¬ vp_in v2 4
    · have g1 : ¬ nI a < 1 := nI_nlt (b := 1) hr.1.1 (by omega)
      have g6 : ¬ 6 < nI a := nI_nlt (a := 6) hr.1.2 (by decide)
      exact ⟨-1, _, _, fun post H => br_f h0 (br_t h10 (br_f g1 (br_f g6 (uw_xr (fun z => absurd z hr.2) (fun _ => br_t rfl H))))),
        fun post H => br_f h0 (br_t h10 (br_f g1 (br_f g6 (uw_yr (fun z => absurd z hr.2) (fun _ => br_t rfl H))))), I0⟩
    have hr' : 1 ≤ a ∧ a ≤ 6 → vp_in v2 4 := fun z => Classical.byContradiction fun w => hr ⟨z, w⟩
    by_cases hf : uw_F a v3
    · by_cases hm : m < 20
      · have hx : nI m < 20 := nI_lt (b := 20) hm (by decide)
        have hy : ¬ zs 3 = 20 := by
          rw [S.2]
          exact fun z => absurd ((nI_eq (b := 20) (by omega) (by decide)).mp z) (by omega)
        have h1 : uw_1 (nI a) v2 v3 0 0 := ⟨a, by omega, rfl, fun z => hr' (by omega), hf.2.1, hf.2.2, vp_in_nI (n := 0) (by decide) (by decide), vp_in_nI (n := 0) (by decide) (by decide)⟩
        refine ⟨nI m, (nI (d + 1), nI (m + 1), nI pc, stp, opc, mop, lou, lth, rng, nxt, edg, edn, frm, upd kd (60 + m) (nI a), upd tg (60 + m) v2, upd op (60 + m) v3, upd fs (60 + m) 0, upd sc (60 + m) 0, sz, upd sk d (nI m), wa, ld, hd, tb, po, fS, fE, fN), (nI (d + 1), opn, nxy, way, wth, cal, lou, lth, stp, nI pc, mop, upd kd (60 + m) (nI a), upd tg (60 + m) v2, upd op (60 + m) v3, upd fs (60 + m) 0, upd sc (60 + m) 0, upd zs 3 (nI (m + 1)), upd sk d (nI m), ar, ld, oN, oP, oW, oV, hd, tb, po), fun post H => uw_xs32 ha hr' (uw_xf ha (fun _ => br_f uw_10 (br_t hx (uw_xpush (d := d) (m := m) (by have := D.1; omega) hm H))) (fun z => absurd hf z)),
          fun post H => uw_ys33 ha hr' (uw_yf ha (fun _ => br_t rfl (br_f hy (uw_ymake (d := d) (m := m) S.2 (by have := D.1; omega) hm H))) (fun z => absurd hf z)), ?_⟩
        exact uw_mk (uw_T_upd T _ h1) (uw_S_made S) (uw_D_gen D hm (Nat.le_refl _) (fun i j h1 h2 => absurd h2 (by omega))) hp
      · have e : m = 20 := by have := D.2.1; omega
        have hx : ¬ nI m < 20 := nI_nlt (b := 20) (by omega) (by omega)
        have hy : zs 3 = 20 := by rw [S.2, e]; rfl
        exact ⟨-2, _, _, fun post H => uw_xs32 ha hr' (uw_xf ha (fun _ => br_f uw_10 (br_f hx H)) (fun z => absurd hf z)),
          fun post H => uw_ys33 ha hr' (uw_yf ha (fun _ => br_t rfl (br_t hy H)) (fun z => absurd hf z)), I0⟩
    · exact ⟨-1, _, _, fun post H => uw_xs32 ha hr' (uw_xf ha (fun z => absurd z hf) (fun _ => br_t rfl H)),
        fun post H => uw_ys33 ha hr' (uw_yf ha (fun z => absurd z hf) (fun _ => br_f uw_10 H)), I0⟩
  · exact ⟨-1, _, _, fun post H => br_f h0 (br_f h10 H), fun post H => br_f h0 (br_f h10 H), I0⟩
theorem uw_loop {k : Nat} {u : SX} {v : SY} (I : i_Rel k u v) (v1 : Int32) : uw_E (k + 4) (fun post => wpX_loop post u v1) (fun post => wpY_loop post v v1) := by
  have I0 := I
  obtain ⟨d, m, pc, stp, opc, mop, lou, lth, rng, nxt, edg, edn, frm, opn, nxy, way, wth, cal, kd, tg, op, fs, sc, sz, sk, wa, ld, hd, tb, po, fS, fE, fN, zs, ar, oN, oP, oW, oV, rfl, rfl, T, S, D, hp⟩ := I
  by_cases hr : vp_in v1 4
  · by_cases hm : m < 20
    · have hx : nI m < 20 := nI_lt (b := 20) hm (by decide)
      have hy : ¬ zs 3 = 20 := by
        rw [S.2]
        exact fun z => absurd ((nI_eq (b := 20) (by omega) (by decide)).mp z) (by omega)
      by_cases hd0 : d = 0
      · subst hd0
        have h1 : ¬ (1 : Int32) ≤ nI 0 := by decide +kernel
        exact ⟨-3, _, _, fun post H => (by dsimp only [wpX_loop]; exact uw_xr (fun _ => br_f uw_10 (br_t hx (br_f h1 H))) (fun z => absurd hr z)),
          fun post H => (by dsimp only [wpY_loop]; exact uw_yr (fun _ => br_f uw_10 (br_f hy (br_f h1 H))) (fun z => absurd hr z)), I0⟩
      · obtain ⟨e, rfl⟩ : ∃ e, d = e + 1 := ⟨d - 1, by omega⟩
        have h1 : (1 : Int32) ≤ nI (e + 1) := nI_le (a := 1) (by omega) (by have := D.1; omega)
        have hi : vp_in (nI e) 20 := vp_in_nI (by have := D.1; omega) (by omega)
        have hc : (nI e).toNatClampNeg = e := nI_clamp (by have := D.1; omega)
        have h11 : uw_1 11 v1 0 (sk e) 0 := ⟨11, by omega, rfl, fun _ => hr, fun z => absurd z (by omega), fun z => absurd z (by omega), D.2.2.1 e (by omega), vp_in_nI (n := 0) (by decide) (by decide)⟩
        refine ⟨nI m, (nI (e + 1), nI (m + 1), nI pc, stp, opc, mop, lou, lth, rng, nxt, edg, edn, frm, upd kd (60 + m) 11, upd tg (60 + m) v1, upd op (60 + m) 0, upd fs (60 + m) (sk e), upd sc (60 + m) 0, sz, upd sk e (nI m), wa, ld, hd, tb, po, fS, fE, fN), (nI (e + 1), opn, nxy, way, wth, cal, lou, lth, stp, nI pc, mop, upd kd (60 + m) 11, upd tg (60 + m) v1, upd op (60 + m) 0, upd fs (60 + m) (sk e), upd sc (60 + m) 0, upd zs 3 (nI (m + 1)), upd sk e (nI m), ar, ld, oN, oP, oW, oV, hd, tb, po), fun post H => ?_, fun post H => ?_, uw_mk (uw_T_upd T (60 + m) h11) (uw_S_made S) (uw_D_gen (e := e) D hm (by omega) (fun i j h1 h2 h3 => Or.inl ⟨pk_us, by rw [pk_us, ← h3, show i = e by omega]⟩)) hp⟩
        · dsimp only [wpX_loop]
          refine uw_xr (fun _ => br_f uw_10 (br_t hx (br_t h1 (nm_r (nI_pred e) ⟨hi, ?_⟩)))) (fun z => absurd hr z)
          rw [hc]; exact uw_xpush (d := e) (m := m) (by have := D.1; omega) hm H
        · dsimp only [wpY_loop]
          refine uw_yr (fun _ => br_f uw_10 (br_f hy (br_t h1 (nm_r (nI_pred e) ⟨hi, ?_⟩)))) (fun z => absurd hr z)
          rw [hc]; exact uw_ymake (d := e) (m := m) S.2 (by have := D.1; omega) hm H
    · have e : m = 20 := by have := D.2.1; omega
      have hx : ¬ nI m < 20 := nI_nlt (b := 20) (by omega) (by omega)
      have hy : zs 3 = 20 := by rw [S.2, e]; rfl
      exact ⟨-2, _, _, fun post H => (by dsimp only [wpX_loop]; exact uw_xr (fun _ => br_f uw_10 (br_f hx H)) (fun z => absurd hr z)),
        fun post H => (by dsimp only [wpY_loop]; exact uw_yr (fun _ => br_f uw_10 (br_t hy H)) (fun z => absurd hr z)), I0⟩
  · exact ⟨-1, _, _, fun post H => (by dsimp only [wpX_loop]; exact uw_xr (fun z => absurd z hr) (fun _ => br_t rfl H)), fun post H => (by dsimp only [wpY_loop]; exact uw_yr (fun z => absurd z hr) (fun _ => br_t rfl H)), I0⟩
theorem uw_xj30 {post : Int32 → SX → Prop} {a : Nat} {v2 : Int32} (ha : a ≤ 3) (hr : a = 1 ∨ a = 2 → vp_in v2 4) (K : wX_join_30 post (nI a) v2 std mde pct stp opc mop lou lth rng nxt edg edn frm kd tg op fs sc sz sk wa ld hd tb po fS fE fN) : wpX_join post (std, mde, pct, stp, opc, mop, lou, lth, rng, nxt, edg, edn, frm, kd, tg, op, fs, sc, sz, sk, wa, ld, hd, tb, po, fS, fE, fN) (nI a) v2 := by
  have h0 : ¬ nI a < 0 := nI_pos (by omega)
  have h3 : nI a ≤ 3 := nI_le (b := 3) ha (by decide)
  by_cases h1 : nI a = 1
  · have g := (nI_eq (b := 1) (by omega) (by decide)).mp h1
    exact br_f h0 (br_t h3 (br_t h1 (uw_xr (fun _ => br_f uw_10 K) (fun z => absurd (hr (by omega)) z))))
  · by_cases h2 : nI a = 2
    · have g := (nI_eq (b := 2) (by omega) (by decide)).mp h2
      exact br_f h0 (br_t h3 (br_f h1 (br_t h2 (uw_xr (fun _ => br_f uw_10 K) (fun z => absurd (hr (by omega)) z)))))
    · exact br_f h0 (br_t h3 (br_f h1 (br_f h2 K)))
theorem uw_yj31 {post : Int32 → SY → Prop} {a : Nat} {v2 : Int32} (ha : a ≤ 3) (hr : a = 1 ∨ a = 2 → vp_in v2 4) (K : wY_join_31 post (nI a) v2 dpt opn nxy way wth cal eng thr sts ots dps kd tg op fs sc zs sk ar ld oN oP oW oV hd tb po) : wpY_join post (dpt, opn, nxy, way, wth, cal, eng, thr, sts, ots, dps, kd, tg, op, fs, sc, zs, sk, ar, ld, oN, oP, oW, oV, hd, tb, po) (nI a) v2 := by
  have h0 : ¬ nI a < 0 := nI_pos (by omega)
  have h3 : nI a ≤ 3 := nI_le (b := 3) ha (by decide)
  by_cases h1 : nI a = 1
  · have g := (nI_eq (b := 1) (by omega) (by decide)).mp h1
    exact br_f h0 (br_t h3 (br_t h1 (uw_yr (fun _ => br_f uw_10 K) (fun z => absurd (hr (by omega)) z))))
  · by_cases h2 : nI a = 2
    · have g := (nI_eq (b := 2) (by omega) (by decide)).mp h2
      exact br_f h0 (br_t h3 (br_f h1 (br_t h2 (uw_yr (fun _ => br_f uw_10 K) (fun z => absurd (hr (by omega)) z)))))
    · exact br_f h0 (br_t h3 (br_f h1 (br_f h2 K)))
theorem uw_join {k : Nat} {u : SX} {v : SY} (I : i_Rel k u v) (v1 v2 : Int32) : uw_E (k + 4) (fun post => wpX_join post u v1 v2) (fun post => wpY_join post v v1 v2) := by
  have I0 := I
  obtain ⟨d, m, pc, stp, opc, mop, lou, lth, rng, nxt, edg, edn, frm, opn, nxy, way, wth, cal, kd, tg, op, fs, sc, sz, sk, wa, ld, hd, tb, po, fS, fE, fN, zs, ar, oN, oP, oW, oV, rfl, rfl, T, S, D, hp⟩ := I
  by_cases h0 : v1 < 0
  · exact ⟨-1, _, _, fun post H => br_t h0 H, fun post H => br_t h0 H, I0⟩
  by_cases h3 : v1 ≤ 3
  · obtain ⟨a, ha, rfl⟩ := nI_of2 (n := 3) (M := 3) (by decide) h0 h3
    by_cases hr : (a = 1 ∨ a = 2) ∧ ¬ vp_in v2 4
    · by_cases g1 : nI a = 1
      · exact ⟨-1, _, _, fun post H => br_f h0 (br_t h3 (br_t g1 (uw_xr (fun z => absurd z hr.2) (fun _ => br_t rfl H)))),
          fun post H => br_f h0 (br_t h3 (br_t g1 (uw_yr (fun z => absurd z hr.2) (fun _ => br_t rfl H)))), I0⟩
      · have g2 : nI a = 2 := by
          rcases hr.1 with e | e
          · exact absurd (by rw [e]; rfl) g1
          · rw [e]; rfl
        exact ⟨-1, _, _, fun post H => br_f h0 (br_t h3 (br_f g1 (br_t g2 (uw_xr (fun z => absurd z hr.2) (fun _ => br_t rfl H))))),
          fun post H => br_f h0 (br_t h3 (br_f g1 (br_t g2 (uw_yr (fun z => absurd z hr.2) (fun _ => br_t rfl H))))), I0⟩
    have hr' : a = 1 ∨ a = 2 → vp_in v2 4 := fun z => Classical.byContradiction fun w => hr ⟨z, w⟩
    by_cases hm : m < 20
    · have hx : nI m < 20 := nI_lt (b := 20) hm (by decide)
      have hy : ¬ zs 3 = 20 := by
        rw [S.2]
        exact fun z => absurd ((nI_eq (b := 20) (by omega) (by decide)).mp z) (by omega)
      by_cases hd0 : d < 2
      · have h1 : ¬ (2 : Int32) ≤ nI d := nI_ge (b := 2) hd0 (by decide)
        exact ⟨-3, _, _, fun post H => uw_xj30 ha hr' (br_t hx (br_f h1 H)), fun post H => uw_yj31 ha hr' (br_f hy (br_f h1 H)), I0⟩
      · obtain ⟨e, rfl⟩ : ∃ e, d = e + 2 := ⟨d - 2, by omega⟩
        have D1 := D.1
        have h1 : (2 : Int32) ≤ nI (e + 2) := nI_le (a := 2) (by omega) (by omega)
        have hs : nI (e + 2) - 2 = nI e := pk_sub (b := 2) (by omega)
        have hi : vp_in (nI e) 20 := vp_in_nI (by omega) (by omega)
        have hi1 : vp_in (nI e + 1) 20 := by rw [nI_1]; exact vp_in_nI (by omega) (by omega)
        have hc : (nI e).toNatClampNeg = e := nI_clamp (by omega)
        have hc1 : (nI e + 1).toNatClampNeg = e + 1 := by rw [nI_1]; exact nI_clamp (by omega)
        have ea : (12 : Int32) + nI a = nI (12 + a) := nI_add 12 a
        have h12 : uw_1 (nI (12 + a)) v2 0 (sk e) (sk (e + 1)) := ⟨12 + a, by omega, rfl, fun z => hr' (by omega), fun z => absurd z (by omega), fun z => absurd z (by omega), D.2.2.1 e (by omega), D.2.2.1 (e + 1) (by omega)⟩
        refine ⟨nI m, (nI (e + 1), nI (m + 1), nI pc, stp, opc, mop, lou, lth, rng, nxt, edg, edn, frm, upd kd (60 + m) (nI (12 + a)), upd tg (60 + m) v2, upd op (60 + m) 0, upd fs (60 + m) (sk e), upd sc (60 + m) (sk (e + 1)), sz, upd sk e (nI m), wa, ld, hd, tb, po, fS, fE, fN), (nI (e + 1), opn, nxy, way, wth, cal, lou, lth, stp, nI pc, mop, upd kd (60 + m) (nI (12 + a)), upd tg (60 + m) v2, upd op (60 + m) 0, upd fs (60 + m) (sk e), upd sc (60 + m) (sk (e + 1)), upd zs 3 (nI (m + 1)), upd sk e (nI m), ar, ld, oN, oP, oW, oV, hd, tb, po), fun post H => uw_xj30 ha hr' (br_t hx (br_t h1 (nm_r hs ⟨hi, hi1, ?_⟩))),
          fun post H => uw_yj31 ha hr' (br_f hy (br_t h1 (nm_r hs ⟨hi, hi1, ?_⟩))),
          uw_mk (uw_T_upd T (60 + m) h12) (uw_S_made S) (uw_D_gen (e := e) D hm (by omega) (fun i j h1 h2 h3 => Or.inr ⟨⟨12 + a, by omega, by omega, pk_us⟩, ?_⟩)) hp⟩
        · rw [hc, hc1, ea]; exact uw_xpush (d := e) (m := m) (by omega) hm H
        · rw [hc, hc1, ea]; exact uw_ymake (d := e) (m := m) S.2 (by omega) hm H
        · rcases (by omega : i = e ∨ i = e + 1) with h | h
          · exact Or.inl (by rw [pk_us, ← h3, h])
          · exact Or.inr (by rw [pk_us, ← h3, h])
    · have e : m = 20 := by have := D.2.1; omega
      have hx : ¬ nI m < 20 := nI_nlt (b := 20) (by omega) (by omega)
      have hy : zs 3 = 20 := by rw [S.2, e]; rfl
      exact ⟨-2, _, _, fun post H => uw_xj30 ha hr' (br_f hx H), fun post H => uw_yj31 ha hr' (br_t hy H), I0⟩
  · exact ⟨-1, _, _, fun post H => br_f h0 (br_f h3 H), fun post H => br_f h0 (br_f h3 H), I0⟩
theorem uw_discard {k : Nat} {u : SX} {v : SY} (I : i_Rel k u v) : uw_E (k + 4) (fun post => wpX_discard post u) (fun post => wpY_discard post v) := by
  obtain ⟨d, m, pc, stp, opc, mop, lou, lth, rng, nxt, edg, edn, frm, opn, nxy, way, wth, cal, kd, tg, op, fs, sc, sz, sk, wa, ld, hd, tb, po, fS, fE, fN, zs, ar, oN, oP, oW, oV, rfl, rfl, T, S, D, hp⟩ := I
  exact ⟨nI d, (nI 0, nI 0, nI pc, stp, opc, mop, lou, lth, rng, nxt, edg, edn, frm, kd, tg, op, fs, sc, sz, sk, wa, ld, hd, tb, po, fS, fE, fN), (nI 0, opn, nxy, way, wth, cal, lou, lth, stp, nI pc, mop, kd, tg, op, fs, sc, upd zs 3 (nI 0), sk, ar, ld, oN, oP, oW, oV, hd, tb, po), fun post H => (by dsimp only [wpX_discard, wpX_emptyStack]; exact H), fun post H => (by dsimp only [wpY_discard]; exact nm_e H), uw_mk (d := 0) (m := 0) T (uw_S_made S) uw_D0 hp⟩
theorem uw_load {k : Nat} {u : SX} {v : SY} (I : i_Rel k u v) (v1 v2 : Int32) : uw_E (k + 4) (fun post => wpX_load post u v1 v2) (fun post => wpY_load post v v1 v2) := by
  have I0 := I
  obtain ⟨d, m, pc, stp, opc, mop, lou, lth, rng, nxt, edg, edn, frm, opn, nxy, way, wth, cal, kd, tg, op, fs, sc, sz, sk, wa, ld, hd, tb, po, fS, fE, fN, zs, ar, oN, oP, oW, oV, rfl, rfl, T, S, D, hp⟩ := I
  by_cases hr : vp_in v1 4
  · exact ⟨0, (nI d, nI m, nI pc, stp, opc, mop, lou, lth, rng, nxt, edg, edn, frm, kd, tg, op, fs, sc, sz, sk, wa, upd ld v1.toNatClampNeg v2, hd, tb, po, fS, fE, fN), (nI d, opn, nxy, way, wth, cal, lou, lth, stp, nI pc, mop, kd, tg, op, fs, sc, zs, sk, ar, upd ld v1.toNatClampNeg v2, oN, oP, oW, oV, hd, tb, po), fun post H => (by dsimp only [wpX_load]; exact uw_xr (fun _ => br_f uw_10 ⟨hr, nm_e H⟩) (fun z => absurd hr z)), fun post H => (by dsimp only [wpY_load]; exact uw_yr (fun _ => br_f uw_10 ⟨hr, nm_e H⟩) (fun z => absurd hr z)), uw_mk (ld := upd ld v1.toNatClampNeg v2) T S D hp⟩
  · exact ⟨-1, _, _, fun post H => (by dsimp only [wpX_load]; exact uw_xr (fun z => absurd z hr) (fun _ => br_t rfl H)), fun post H => (by dsimp only [wpY_load]; exact uw_yr (fun z => absurd z hr) (fun _ => br_t rfl H)), I0⟩
end
section
/-! procedure: the two searches for loops go down in step; the two copies go up in step -/
variable {std mde pct stp opc mop lou lth rng nxt edg edn frm dpt opn nxy way wth cal eng thr sts ots dps : Int32} {kd tg op fs sc sz sk wa ld hd tb po fS fE fN zs ar oN oP oW oV : Nat → Int32}
def uw_dn (c : Nat) : Int32 := match c with
  | 0 => -1
  | c + 1 => nI c
theorem uw_dn1 (c : Nat) : nI c + (-1) = uw_dn c := by
  cases c with
  | zero => decide +kernel
  | succ c => exact pk_m1 c
theorem uw_ne {x : Int32} {a : Nat} (j : Nat) (hx : x = nI a) (ha : a < 2 ^ 31) (hj : j < 2 ^ 31) (h : a ≠ j) : ¬ x = nI j := by
  subst hx; exact fun z => h ((nI_eq ha hj).mp z)
theorem uw_o1 {o w : Int32} (h : vp_in o 4) : o + 1 ≤ w ↔ o < w := by
  obtain ⟨j, hj, rfl⟩ := vp_in_of h (by decide)
  rw [nI_1, Int32.le_iff_toInt_le, Int32.lt_iff_toInt_lt, nI_toInt (by omega), nI_toInt (by omega)]
  omega
def uw_bad (a : Nat) (o w : Int32) : Prop := (a = 7 ∨ a = 8) ∧ ¬ o < w
def uw_nw (a : Nat) (f s : Int32) (c : Nat) (w : Nat → Int32) : Nat → Int32 := if a = 11 then upd w f.toNatClampNeg (w c + 1) else if 12 ≤ a then upd (upd w f.toNatClampNeg (w c)) s.toNatClampNeg (w c) else w
theorem uw_nw0 {a c : Nat} {f s : Int32} {w : Nat → Int32} (h : a ≤ 10) : uw_nw a f s c w = w := by
  unfold uw_nw; rw [if_neg (by omega), if_neg (by omega)]
theorem uw_nw1 {a c : Nat} {f s : Int32} {w : Nat → Int32} (h : a = 11) : uw_nw a f s c w = upd w f.toNatClampNeg (w c + 1) := by
  unfold uw_nw; rw [if_pos h]
theorem uw_nw2 {a c : Nat} {f s : Int32} {w : Nat → Int32} (h : 12 ≤ a) : uw_nw a f s c w = upd (upd w f.toNatClampNeg (w c)) s.toNatClampNeg (w c) := by
  unfold uw_nw; rw [if_neg (by omega), if_pos h]
section
variable {post : Int32 → SX → Prop} {n c a : Nat}
theorem uw_x71 (hc : c < 20) (ha : a < 16) (hk : kd (60 + c) = nI a) (hf : vp_in (fs (60 + c)) 20) (hs : vp_in (sc (60 + c)) 20) (K : wX_hasLoopsEnough_19 post std mde pct stp opc mop lou lth rng nxt edg edn frm n (uw_dn c) kd tg op fs sc sz sk (uw_nw a (fs (60 + c)) (sc (60 + c)) c wa) ld hd tb po fS fE fN) : wX_hasLoopsEnough_71 post (wX_hasLoopsEnough_19 post std mde pct stp opc mop lou lth rng nxt edg edn frm n) (nI c) (nI (60 + c)) (wa c) std mde pct stp opc mop lou lth rng nxt edg edn frm kd tg op fs sc sz sk wa ld hd tb po fS fE fN := by
  have i80 : vp_in (nI (60 + c)) 80 := vp_in_nI (by omega) (by omega)
  have c60 : (nI (60 + c)).toNatClampNeg = 60 + c := nI_clamp (by omega)
  unfold wX_hasLoopsEnough_71
  rw [c60]
  refine ⟨i80, ?_⟩
  by_cases h11 : a = 11
  · rw [uw_nw1 h11] at K
    exact br_t (by rw [hk, h11]; rfl) ⟨i80, hf, nm_e (nm_r (uw_dn1 c) K)⟩
  · refine br_f (uw_ne 11 hk (by omega) (by decide) h11) ⟨i80, ?_⟩
    by_cases h12 : a < 12
    · rw [uw_nw0 (by omega)] at K
      exact br_t (by rw [hk]; exact nI_lt (b := 12) h12 (by decide)) (nm_r (uw_dn1 c) K)
    · rw [uw_nw2 (by omega)] at K
      exact br_f (by rw [hk]; exact nI_nlt (b := 12) (by omega) (by omega)) ⟨i80, hf, nm_e ⟨i80, hs, nm_e (nm_r (uw_dn1 c) K)⟩⟩
theorem uw_xl_go (hc : c < 20) (ha : a < 16) (hk : kd (60 + c) = nI a) (ho : a = 7 ∨ a = 8 → vp_in (op (60 + c)) 4) (hf : vp_in (fs (60 + c)) 20) (hs : vp_in (sc (60 + c)) 20) (hb : ¬ uw_bad a (op (60 + c)) (wa c)) (K : wX_hasLoopsEnough_19 post std mde pct stp opc mop lou lth rng nxt edg edn frm n (uw_dn c) kd tg op fs sc sz sk (uw_nw a (fs (60 + c)) (sc (60 + c)) c wa) ld hd tb po fS fE fN) : wX_hasLoopsEnough_19 post std mde pct stp opc mop lou lth rng nxt edg edn frm (n + 1) (nI c) kd tg op fs sc sz sk wa ld hd tb po fS fE fN := by
  have h0 : ¬ nI c < 0 := nI_pos (by omega)
  have e60 : (60 : Int32) + nI c = nI (60 + c) := nI_add 60 c
  have i80 : vp_in (nI (60 + c)) 80 := vp_in_nI (by omega) (by omega)
  have c60 : (nI (60 + c)).toNatClampNeg = 60 + c := nI_clamp (by omega)
  have i20 : vp_in (nI c) 20 := vp_in_nI (by omega) (by omega)
  have cc : (nI c).toNatClampNeg = c := nI_clamp (by omega)
  have hk' : kd (nI (60 + c)).toNatClampNeg = nI a := by rw [c60]; exact hk
  have G := uw_x71 hc ha hk hf hs K
  by_cases h7 : a = 7
  · have hw : op (nI (60 + c)).toNatClampNeg + 1 ≤ wa c := by
      rw [c60, uw_o1 (ho (Or.inl h7))]
      exact Classical.byContradiction fun z => hb ⟨Or.inl h7, z⟩
    exact br_f h0 (nm_r e60 ⟨i20, nm_r (congrArg wa cc) ⟨i80, br_t (by rw [hk', h7]; rfl) ⟨i80, br_t hw G⟩⟩⟩)
  · by_cases h8 : a = 8
    · have hw : op (nI (60 + c)).toNatClampNeg + 1 ≤ wa c := by
        rw [c60, uw_o1 (ho (Or.inr h8))]
        exact Classical.byContradiction fun z => hb ⟨Or.inr h8, z⟩
      exact br_f h0 (nm_r e60 ⟨i20, nm_r (congrArg wa cc) ⟨i80, br_f (uw_ne 7 hk' (by omega) (by decide) h7) ⟨i80, br_t (by rw [hk', h8]; rfl) ⟨i80, br_t hw G⟩⟩⟩⟩)
    · exact br_f h0 (nm_r e60 ⟨i20, nm_r (congrArg wa cc) ⟨i80, br_f (uw_ne 7 hk' (by omega) (by decide) h7) ⟨i80, br_f (uw_ne 8 hk' (by omega) (by decide) h8) G⟩⟩⟩)
theorem uw_xl_no (hc : c < 20) (ha : a < 16) (hk : kd (60 + c) = nI a) (ho : a = 7 ∨ a = 8 → vp_in (op (60 + c)) 4) (hb : uw_bad a (op (60 + c)) (wa c)) (K : post 0 (std, mde, pct, stp, opc, mop, lou, lth, rng, nxt, edg, edn, frm, kd, tg, op, fs, sc, sz, sk, wa, ld, hd, tb, po, fS, fE, fN)) : wX_hasLoopsEnough_19 post std mde pct stp opc mop lou lth rng nxt edg edn frm (n + 1) (nI c) kd tg op fs sc sz sk wa ld hd tb po fS fE fN := by
  have h0 : ¬ nI c < 0 := nI_pos (by omega)
  have e60 : (60 : Int32) + nI c = nI (60 + c) := nI_add 60 c
  have i80 : vp_in (nI (60 + c)) 80 := vp_in_nI (by omega) (by omega)
  have c60 : (nI (60 + c)).toNatClampNeg = 60 + c := nI_clamp (by omega)
  have i20 : vp_in (nI c) 20 := vp_in_nI (by omega) (by omega)
  have cc : (nI c).toNatClampNeg = c := nI_clamp (by omega)
  have hk' : kd (nI (60 + c)).toNatClampNeg = nI a := by rw [c60]; exact hk
  have hw : ¬ op (nI (60 + c)).toNatClampNeg + 1 ≤ wa c := by
    rw [c60, uw_o1 (ho hb.1)]; exact hb.2
  by_cases h7 : a = 7
  · exact br_f h0 (nm_r e60 ⟨i20, nm_r (congrArg wa cc) ⟨i80, br_t (by rw [hk', h7]; rfl) ⟨i80, br_f hw K⟩⟩⟩)
  · have h8 : a = 8 := by have := hb.1; omega
    exact br_f h0 (nm_r e60 ⟨i20, nm_r (congrArg wa cc) ⟨i80, br_f (uw_ne 7 hk' (by omega) (by decide) h7) ⟨i80, br_t (by rw [hk', h8]; rfl) ⟨i80, br_f hw K⟩⟩⟩⟩)
end
section
variable {post : Int32 → SY → Prop} {n c a : Nat} {x2 x3 : Int32}
theorem uw_y105 {w : Int32} (hc : c < 20) (ha : a < 16) (K1 : ¬ uw_bad a (op (60 + c)) w → wY_loopsFit_22 post dpt opn nxy way wth cal eng thr sts ots dps n x2 (uw_dn c) kd tg op fs sc zs sk ar ld oN oP oW oV hd tb po) (K0 : uw_bad a (op (60 + c)) w → wY_loopsFit_22 post dpt opn nxy way wth cal eng thr sts ots dps n 0 (uw_dn c) kd tg op fs sc zs sk ar ld oN oP oW oV hd tb po) : wY_loopsFit_105 post (wY_loopsFit_22 post dpt opn nxy way wth cal eng thr sts ots dps n) x2 (nI c) (nI a) w dpt opn nxy way wth cal eng thr sts ots dps kd tg op fs sc zs sk ar ld oN oP oW oV hd tb po := by
  have e60 : (60 : Int32) + nI c = nI (60 + c) := nI_add 60 c
  have i80 : vp_in (60 + nI c) 80 := by rw [e60]; exact vp_in_nI (by omega) (by omega)
  have c60 : (60 + nI c).toNatClampNeg = 60 + c := by rw [e60]; exact nI_clamp (by omega)
  have G : a = 7 ∨ a = 8 → wY_loopsFit_119 post (wY_loopsFit_22 post dpt opn nxy way wth cal eng thr sts ots dps n) x2 (nI c) w dpt opn nxy way wth cal eng thr sts ots dps kd tg op fs sc zs sk ar ld oN oP oW oV hd tb po := by
    intro h
    by_cases hl : op (60 + nI c).toNatClampNeg < w
    · exact ⟨i80, br_t hl (nm_r (uw_dn1 c) (K1 fun z => z.2 (by rw [c60] at hl; exact hl)))⟩
    · exact ⟨i80, br_f hl (nm_r (uw_dn1 c) (K0 ⟨h, by rw [c60] at hl; exact hl⟩))⟩
  by_cases h7 : a = 7
  · exact br_t (by rw [h7]; rfl) (G (Or.inl h7))
  · by_cases h8 : a = 8
    · exact br_f (uw_ne 7 rfl (by omega) (by decide) h7) (br_t (by rw [h8]; rfl) (G (Or.inr h8)))
    · exact br_f (uw_ne 7 rfl (by omega) (by decide) h7) (br_f (uw_ne 8 rfl (by omega) (by decide) h8) (nm_r (uw_dn1 c) (K1 fun z => by have := z.1; omega)))
theorem uw_y82 {w : Int32} (hc : c < 20) (ha : a < 16) (hs : vp_in (sc (60 + c)) 20) (K1 : ¬ uw_bad a (op (60 + c)) w → wY_loopsFit_22 post dpt opn nxy way wth cal eng thr sts ots dps n x2 (uw_dn c) kd tg op fs sc zs sk (if 12 ≤ a then upd ar (sc (60 + c)).toNatClampNeg w else ar) ld oN oP oW oV hd tb po) (K0 : uw_bad a (op (60 + c)) w → wY_loopsFit_22 post dpt opn nxy way wth cal eng thr sts ots dps n 0 (uw_dn c) kd tg op fs sc zs sk (if 12 ≤ a then upd ar (sc (60 + c)).toNatClampNeg w else ar) ld oN oP oW oV hd tb po) : wY_loopsFit_82 post (wY_loopsFit_22 post dpt opn nxy way wth cal eng thr sts ots dps n) x2 (nI c) (nI a) w dpt opn nxy way wth cal eng thr sts ots dps kd tg op fs sc zs sk ar ld oN oP oW oV hd tb po := by
  have e60 : (60 : Int32) + nI c = nI (60 + c) := nI_add 60 c
  have i80 : vp_in (60 + nI c) 80 := by rw [e60]; exact vp_in_nI (by omega) (by omega)
  have c60 : (60 + nI c).toNatClampNeg = 60 + c := by rw [e60]; exact nI_clamp (by omega)
  by_cases h : a ≤ 11
  · rw [if_neg (by omega)] at K1 K0
    exact br_t (nI_le (b := 11) h (by decide)) (uw_y105 hc ha K1 K0)
  · rw [if_pos (by omega)] at K1 K0
    refine br_f (nI_ge (a := 11) (by omega) (by omega)) ⟨i80, ?_⟩
    rw [c60]
    exact ⟨hs, nm_e (uw_y105 hc ha K1 K0)⟩
theorem uw_yl (hc : c < 20) (ha : a < 16) (hk : kd (60 + c) = nI a) (hf : vp_in (fs (60 + c)) 20) (hs : vp_in (sc (60 + c)) 20) (K1 : ¬ uw_bad a (op (60 + c)) (ar c) → wY_loopsFit_22 post dpt opn nxy way wth cal eng thr sts ots dps n x2 (uw_dn c) kd tg op fs sc zs sk (uw_nw a (fs (60 + c)) (sc (60 + c)) c ar) ld oN oP oW oV hd tb po) (K0 : uw_bad a (op (60 + c)) (ar c) → wY_loopsFit_22 post dpt opn nxy way wth cal eng thr sts ots dps n 0 (uw_dn c) kd tg op fs sc zs sk (uw_nw a (fs (60 + c)) (sc (60 + c)) c ar) ld oN oP oW oV hd tb po) : wY_loopsFit_22 post dpt opn nxy way wth cal eng thr sts ots dps (n + 1) x2 (nI c) kd tg op fs sc zs sk ar ld oN oP oW oV hd tb po := by
  have h0 : ¬ nI c < 0 := nI_pos (by omega)
  have e60 : (60 : Int32) + nI c = nI (60 + c) := nI_add 60 c
  have i80 : vp_in (60 + nI c) 80 := by rw [e60]; exact vp_in_nI (by omega) (by omega)
  have c60 : (60 + nI c).toNatClampNeg = 60 + c := by rw [e60]; exact nI_clamp (by omega)
  have i20 : vp_in (nI c) 20 := vp_in_nI (by omega) (by omega)
  have cc : (nI c).toNatClampNeg = c := nI_clamp (by omega)
  have hk' : kd (60 + nI c).toNatClampNeg = nI a := by rw [c60]; exact hk
  refine br_f h0 ⟨i80, nm_r hk' ⟨i20, nm_r (congrArg ar cc) ?_⟩⟩
  by_cases h : a ≤ 10
  · rw [uw_nw0 h] at K1 K0
    refine br_t (nI_le (b := 10) h (by decide)) (uw_y82 hc ha hs ?_ ?_)
    · rw [if_neg (by omega)]; exact K1
    · rw [if_neg (by omega)]; exact K0
  · refine br_f (nI_ge (a := 10) (by omega) (by omega)) ⟨i80, ?_⟩
    rw [c60]
    by_cases h11 : a = 11
    · rw [uw_nw1 h11] at K1 K0
      refine br_t (by rw [h11]; rfl) ⟨hf, nm_e (uw_y82 hc ha hs ?_ ?_)⟩
      · rw [if_neg (by omega)]; exact K1
      · rw [if_neg (by omega)]; exact K0
    · rw [uw_nw2 (by omega)] at K1 K0
      refine br_f (uw_ne 11 rfl (by omega) (by decide) h11) ⟨hf, nm_e (uw_y82 hc ha hs ?_ ?_)⟩
      · rw [if_pos (by omega)]; exact K1
      · rw [if_pos (by omega)]; exact K0
end
theorem uw_yfit0 (T : uw_T kd tg op fs sc) : ∀ (c : Nat) (ar : Nat → Int32), c ≤ 20 → ∃ ar' : Nat → Int32, ∀ (post : Int32 → SY → Prop) (n : Nat), c < n → post 0 (dpt, opn, nxy, way, wth, cal, eng, thr, sts, ots, dps, kd, tg, op, fs, sc, zs, sk, ar', ld, oN, oP, oW, oV, hd, tb, po) → wY_loopsFit_22 post dpt opn nxy way wth cal eng thr sts ots dps n 0 (uw_dn c) kd tg op fs sc zs sk ar ld oN oP oW oV hd tb po := by
  intro c
  induction c with
  | zero =>
    intro ar _
    refine ⟨ar, fun post n hn H => ?_⟩
    obtain ⟨n, rfl⟩ : ∃ q, n = q + 1 := ⟨n - 1, by omega⟩
    exact br_t (by decide +kernel : (-1 : Int32) < 0) ⟨uw_nb0, H⟩
  | succ c ih =>
    intro ar hc
    obtain ⟨a, ha, hk, _, _, _, hf, hs⟩ := T (60 + c) (by omega)
    obtain ⟨ar', h⟩ := ih (uw_nw a (fs (60 + c)) (sc (60 + c)) c ar) (by omega)
    refine ⟨ar', fun post n hn H => ?_⟩
    obtain ⟨n, rfl⟩ : ∃ q, n = q + 1 := ⟨n - 1, by omega⟩
    exact uw_yl (by omega) ha hk hf hs (fun _ => h post n (by omega) H) (fun _ => h post n (by omega) H)
/-- cells that are equal, or written now, are equal afterwards -/
theorem uw_nw_eq {a c j : Nat} {f s : Int32} (hj : j < 20) (e : wa c = ar c) (h : wa j = ar j ∨ (a = 11 ∧ f = nI j) ∨ (12 ≤ a ∧ (f = nI j ∨ s = nI j))) : uw_nw a f s c wa j = uw_nw a f s c ar j := by
  have cj : (nI j).toNatClampNeg = j := nI_clamp (by omega)
  by_cases h10 : a ≤ 10
  · rw [uw_nw0 h10, uw_nw0 h10]
    rcases h with h | h | h
    · exact h
    · omega
    · omega
  · by_cases h11 : a = 11
    · rw [uw_nw1 h11, uw_nw1 h11, e]
      by_cases hf : j = f.toNatClampNeg
      · rw [← hf, pk_us, pk_us]
      · rw [pk_un hf, pk_un hf]
        rcases h with h | h | h
        · exact h
        · exact absurd (by rw [h.2, cj]) hf
        · omega
    · rw [uw_nw2 (by omega), uw_nw2 (by omega), e]
      by_cases hs : j = s.toNatClampNeg
      · rw [← hs, pk_us, pk_us]
      · rw [pk_un hs, pk_un hs]
        by_cases hf : j = f.toNatClampNeg
        · rw [← hf, pk_us, pk_us]
        · rw [pk_un hf, pk_un hf]
          rcases h with h | h | h
          · exact h
          · omega
          · rcases h.2 with h | h
            · exact absurd (by rw [h, cj]) hf
            · exact absurd (by rw [h, cj]) hs
def uw_L (m c : Nat) (kd fs sc wa ar : Nat → Int32) : Prop := ∀ j, j < c → (j + 1 = m ∨ ∃ k, c ≤ k ∧ k < m ∧ uw_P kd fs sc k j) → wa j = ar j
theorem uw_fit {m : Nat} (T : uw_T kd tg op fs sc) (hm : m ≤ 20) (hD : ∀ j, j + 1 < m → ∃ k, j < k ∧ k < m ∧ uw_P kd fs sc k j) : ∀ (c : Nat) (wa ar : Nat → Int32), c ≤ m → uw_L m c kd fs sc wa ar → ∃ (r : Int32) (wa' ar' : Nat → Int32), (r = 0 ∨ r = 1) ∧ (∀ (post : Int32 → SX → Prop) (n : Nat), c < n → post r (std, mde, pct, stp, opc, mop, lou, lth, rng, nxt, edg, edn, frm, kd, tg, op, fs, sc, sz, sk, wa', ld, hd, tb, po, fS, fE, fN) → wX_hasLoopsEnough_19 post std mde pct stp opc mop lou lth rng nxt edg edn frm n (uw_dn c) kd tg op fs sc sz sk wa ld hd tb po fS fE fN) ∧ (∀ (post : Int32 → SY → Prop) (n : Nat), c < n → post r (dpt, opn, nxy, way, wth, cal, eng, thr, sts, ots, dps, kd, tg, op, fs, sc, zs, sk, ar', ld, oN, oP, oW, oV, hd, tb, po) → wY_loopsFit_22 post dpt opn nxy way wth cal eng thr sts ots dps n 1 (uw_dn c) kd tg op fs sc zs sk ar ld oN oP oW oV hd tb po) := by
  intro c
  induction c with
  | zero =>
    intro wa ar _ _
    refine ⟨1, wa, ar, Or.inr rfl, fun post n hn H => ?_, fun post n hn H => ?_⟩
    · obtain ⟨n, rfl⟩ : ∃ q, n = q + 1 := ⟨n - 1, by omega⟩
      exact br_t (by decide +kernel : (-1 : Int32) < 0) H
    · obtain ⟨n, rfl⟩ : ∃ q, n = q + 1 := ⟨n - 1, by omega⟩
      exact br_t (by decide +kernel : (-1 : Int32) < 0) ⟨uw_nb1, H⟩
  | succ c ih =>
    intro wa ar hc L
    obtain ⟨a, ha, hk, _, ho, _, hf, hs⟩ := T (60 + c) (by omega)
    have ho' : a = 7 ∨ a = 8 → vp_in (op (60 + c)) 4 := fun h => ho (Or.inr h)
    have e : wa c = ar c := by
      apply L c (by omega)
      by_cases h : c + 1 = m
      · exact Or.inl h
      · obtain ⟨k, h1, h2, h3⟩ := hD c (by omega)
        exact Or.inr ⟨k, by omega, h2, h3⟩
    by_cases hb : uw_bad a (op (60 + c)) (wa c)
    · obtain ⟨ar', h⟩ := uw_yfit0 (dpt := dpt) (opn := opn) (nxy := nxy) (way := way) (wth := wth) (cal := cal) (eng := eng) (thr := thr) (sts := sts) (ots := ots) (dps := dps) (zs := zs) (sk := sk) (ld := ld) (oN := oN) (oP := oP) (oW := oW) (oV := oV) (hd := hd) (tb := tb) (po := po) T c (uw_nw a (fs (60 + c)) (sc (60 + c)) c ar) (by omega)
      refine ⟨0, wa, ar', Or.inl rfl, fun post n hn H => ?_, fun post n hn H => ?_⟩
      · obtain ⟨n, rfl⟩ : ∃ q, n = q + 1 := ⟨n - 1, by omega⟩
        exact uw_xl_no (by omega) ha hk ho' hb H
      · obtain ⟨n, rfl⟩ : ∃ q, n = q + 1 := ⟨n - 1, by omega⟩
        rw [e] at hb
        exact uw_yl (by omega) ha hk hf hs (fun z => absurd hb z) (fun _ => h post n (by omega) H)
    · have L' : uw_L m c kd fs sc (uw_nw a (fs (60 + c)) (sc (60 + c)) c wa) (uw_nw a (fs (60 + c)) (sc (60 + c)) c ar) := by
        intro j hj hq
        apply uw_nw_eq (by omega) e
        rcases hq with h | ⟨k, h1, h2, h3⟩
        · exact Or.inl (L j (by omega) (Or.inl h))
        · by_cases hkc : k = c
          · subst hkc
            right
            rcases h3 with ⟨g1, g2⟩ | ⟨⟨b, b1, b2, b3⟩, g2⟩
            · exact Or.inl ⟨(nI_eq (b := 11) (by omega) (by decide)).mp (hk.symm.trans g1), g2⟩
            · have hab := (nI_eq (by omega) (by omega)).mp (hk.symm.trans b3)
              exact Or.inr ⟨by omega, g2⟩
          · exact Or.inl (L j (by omega) (Or.inr ⟨k, by omega, h2, h3⟩))
      obtain ⟨r, wa', ar', hr, hx, hy⟩ := ih _ _ (by omega) L'
      refine ⟨r, wa', ar', hr, fun post n hn H => ?_, fun post n hn H => ?_⟩
      · obtain ⟨n, rfl⟩ : ∃ q, n = q + 1 := ⟨n - 1, by omega⟩
        exact uw_xl_go (by omega) ha hk ho' hf hs hb (hx post n (by omega) H)
      · obtain ⟨n, rfl⟩ : ∃ q, n = q + 1 := ⟨n - 1, by omega⟩
        rw [e] at hb
        exact uw_yl (by omega) ha hk hf hs (fun _ => hy post n (by omega) H) (fun z => absurd z hb)
end
section
/-! procedure: the copies, and the whole -/
variable {std mde pct stp opc mop lou lth rng nxt edg edn frm dpt opn nxy way wth cal eng thr sts ots dps : Int32} {kd tg op fs sc sz sk wa ld hd tb po fS fE fN zs ar oN oP oW oV : Nat → Int32}
theorem uw_copy {p : Nat} (hp : p < 3) : ∀ (e c : Nat) (kd tg op fs sc tb : Nat → Int32), c + e = 20 → uw_T kd tg op fs sc → ∃ kd' tg' op' fs' sc' tb' : Nat → Int32, uw_T kd' tg' op' fs' sc' ∧ (∀ (post : SX → Prop) (n : Nat), e < n → post (std, mde, pct, stp, opc, mop, lou, lth, rng, nxt, edg, edn, frm, kd', tg', op', fs', sc', sz, sk, wa, ld, hd, tb', po, fS, fE, fN) → wX_copyDraftTo_2 post (nI p) std mde pct stp opc mop lou lth rng nxt edg edn frm n (nI c) kd tg op fs sc sz sk wa ld hd tb po fS fE fN) ∧ (∀ (post : Int32 → SY → Prop) (n : Nat) (x2 : Int32), e < n → post x2 (0, opn, nxy, way, wth, cal, eng, thr, sts, ots, dps, kd', tg', op', fs', sc', upd (upd zs p x2) 3 0, sk, ar, ld, oN, oP, oW, oV, hd, tb', po) → wY_procedure_41 post (nI p) x2 dpt opn nxy way wth cal eng thr sts ots dps n (nI c) kd tg op fs sc zs sk ar ld oN oP oW oV hd tb po) := by
  intro e
  induction e with
  | zero =>
    intro c kd tg op fs sc tb hc T
    have h20 : (20 : Int32) ≤ nI c := nI_le (a := 20) (by omega) (by omega)
    refine ⟨kd, tg, op, fs, sc, tb, T, fun post n hn H => ?_, fun post n x2 hn H => ?_⟩
    · obtain ⟨n, rfl⟩ : ∃ q, n = q + 1 := ⟨n - 1, by omega⟩
      exact br_t h20 H
    · obtain ⟨n, rfl⟩ : ∃ q, n = q + 1 := ⟨n - 1, by omega⟩
      have cp : (nI p).toNatClampNeg = p := nI_clamp (by omega)
      exact br_t h20 ⟨vp_in_nI (by omega) (by omega), nm_r (by rw [cp]) (nm_e H)⟩
  | succ e ih =>
    intro c kd tg op fs sc tb hc T
    have h20 : ¬ (20 : Int32) ≤ nI c := nI_ge (b := 20) (by omega) (by decide)
    have e60 : (60 : Int32) + nI c = nI (60 + c) := nI_add 60 c
    have ex : nI p * 20 + nI c = nI (p * 20 + c) := by
      rw [show (20 : Int32) = nI 20 from rfl, pk_mul, nI_add]
    have ey : 20 * nI p + nI c = nI (p * 20 + c) := by
      rw [show (20 : Int32) = nI 20 from rfl, pk_mul, nI_add, Nat.mul_comm]
    have i80 : vp_in (nI (60 + c)) 80 := vp_in_nI (by omega) (by omega)
    have c60 : (nI (60 + c)).toNatClampNeg = 60 + c := nI_clamp (by omega)
    have j80 : vp_in (nI (p * 20 + c)) 80 := vp_in_nI (by omega) (by omega)
    have j60 : vp_in (nI (p * 20 + c)) 60 := vp_in_nI (by omega) (by omega)
    have cj : (nI (p * 20 + c)).toNatClampNeg = p * 20 + c := nI_clamp (by omega)
    obtain ⟨kd', tg', op', fs', sc', tb', T', hx, hy⟩ := ih (c + 1) _ _ _ _ _ (upd tb (p * 20 + c) 0) (by omega) (uw_T_upd T (p * 20 + c) (T (60 + c) (by omega)))
    refine ⟨kd', tg', op', fs', sc', tb', T', fun post n hn H => ?_, fun post n x2 hn H => ?_⟩
    · obtain ⟨n, rfl⟩ : ∃ q, n = q + 1 := ⟨n - 1, by omega⟩
      refine br_f h20 (nm_r e60 (nm_r ex ⟨i80, j80, nm_r (by rw [c60, cj]) ⟨i80, j80, nm_r (by rw [c60, cj]) ⟨i80, j80, nm_r (by rw [c60, cj]) ⟨i80, j80, nm_r (by rw [c60, cj]) ⟨i80, j80, nm_r (by rw [c60, cj]) ⟨j60, nm_r (by rw [cj]) (nm_r (nI_1 c) ?_)⟩⟩⟩⟩⟩⟩))
      exact hx post n (by omega) H
    · obtain ⟨n, rfl⟩ : ∃ q, n = q + 1 := ⟨n - 1, by omega⟩
      unfold wY_procedure_41
      rw [e60, ey, c60, cj]
      refine br_f h20 ⟨i80, j80, nm_e ⟨i80, j80, nm_e ⟨i80, j80, nm_e ⟨i80, j80, nm_e ⟨i80, j80, nm_e ⟨j60, nm_e (nm_r (nI_1 c) ?_)⟩⟩⟩⟩⟩⟩
      exact hy post n x2 (by omega) H
theorem uw_procedure {k : Nat} {u : SX} {v : SY} (I : i_Rel k u v) (v1 : Int32) : uw_E (k + 4) (fun post => wpX_procedure post u v1) (fun post => wpY_procedure post v v1) := by
  have I0 := I
  obtain ⟨d, m, pc, stp, opc, mop, lou, lth, rng, nxt, edg, edn, frm, opn, nxy, way, wth, cal, kd, tg, op, fs, sc, sz, sk, wa, ld, hd, tb, po, fS, fE, fN, zs, ar, oN, oP, oW, oV, rfl, rfl, T, S, D, hp⟩ := I
  by_cases hv : vp_in v1 3
  · obtain ⟨hv0, hv2⟩ := (uw_s3 v1).mp hv
    obtain ⟨p, hp3, rfl⟩ := vp_in_of hv (by decide)
    by_cases hd1 : d = 1
    · subst hd1
      obtain ⟨q, rfl⟩ : ∃ q, m = q + 1 := ⟨m - 1, by have := D.1; omega⟩
      have hq : q < 20 := by have := D.2.1; omega
      have em : nI (q + 1) - 1 = nI q := nI_pred q
      have iq : vp_in (nI q) 20 := vp_in_nI hq (by omega)
      have cq : (nI q).toNatClampNeg = q := nI_clamp (by omega)
      have hD : ∀ j, j + 1 < q + 1 → ∃ k, j < k ∧ k < q + 1 ∧ uw_P kd fs sc k j := by
        intro j hj
        rcases D.2.2.2.2 j (by omega) with ⟨i, hi, hs⟩ | h
        · have h0 : i = 0 := by omega
          subst h0
          have := D.2.2.2.1 (by omega)
          have e := (nI_eq (by omega) (by omega)).mp (hs.symm.trans this)
          omega
        · exact h
      have L : uw_L (q + 1) (q + 1) kd fs sc (upd wa q 0) (upd ar q 0) := by
        intro j hj h
        rcases h with h | ⟨k, h1, h2, _⟩
        · have : j = q := by omega
          subst this; rw [pk_us, pk_us]
        · omega
      obtain ⟨r, wa', ar', hr, hx, hy⟩ := uw_fit (std := nI 1) (mde := nI (q + 1)) (pct := nI pc) (stp := stp) (opc := opc) (mop := mop) (lou := lou) (lth := lth) (rng := rng) (nxt := nxt) (edg := edg) (edn := edn) (frm := frm) (sz := sz) (sk := sk) (ld := ld) (hd := hd) (tb := tb) (po := po) (fS := fS) (fE := fE) (fN := fN) (dpt := nI 1) (opn := opn) (nxy := nxy) (way := way) (wth := wth) (cal := cal) (eng := lou) (thr := lth) (sts := stp) (ots := nI pc) (dps := mop) (zs := zs) (oN := oN) (oP := oP) (oW := oW) (oV := oV) T (by omega) hD (q + 1) _ _ (Nat.le_refl _) L
      rcases hr with hr | hr
      · subst hr
        refine ⟨-5, (nI 1, nI (q + 1), nI pc, stp, opc, mop, lou, lth, rng, nxt, edg, edn, frm, kd, tg, op, fs, sc, sz, sk, wa', ld, hd, tb, po, fS, fE, fN), (nI 1, opn, nxy, way, wth, cal, lou, lth, stp, nI pc, mop, kd, tg, op, fs, sc, zs, sk, ar', ld, oN, oP, oW, oV, hd, tb, po), fun post H => ?_, fun post H => ?_, uw_mk T S D hp⟩
        · dsimp only [wpX_procedure]
          refine uw_xp (fun _ => br_f uw_10 (br_t rfl ?_)) (fun z => absurd hv z)
          dsimp only [wpX_hasLoopsEnough]
          rw [em, cq]
          exact ⟨iq, nm_e (nm_e ⟨q + 2, hx _ _ (by omega) (br_t rfl H)⟩)⟩
        · refine br_f hv0 (br_t hv2 (br_t rfl ?_))
          dsimp only [wpY_loopsFit]
          refine nm_r S.2 ?_
          rw [em, cq]
          exact ⟨iq, nm_e (nm_e ⟨q + 2, hy _ _ (by omega) (br_t rfl H)⟩)⟩
      · subst hr
        obtain ⟨kd', tg', op', fs', sc', tb', T', gx, gy⟩ := uw_copy (std := nI 1) (mde := nI (q + 1)) (pct := nI pc) (stp := stp) (opc := opc) (mop := mop) (lou := lou) (lth := lth) (rng := rng) (nxt := nxt) (edg := edg) (edn := edn) (frm := frm) (sz := sz) (sk := sk) (wa := wa') (ld := ld) (hd := hd) (po := po) (fS := fS) (fE := fE) (fN := fN) (dpt := nI 1) (opn := opn) (nxy := nxy) (way := way) (wth := wth) (cal := cal) (eng := lou) (thr := lth) (sts := stp) (ots := nI pc) (dps := mop) (zs := zs) (ar := ar') (oN := oN) (oP := oP) (oW := oW) (oV := oV) hp3 20 0 kd tg op fs sc tb (by omega) T
        have cp : (nI p).toNatClampNeg = p := nI_clamp (by omega)
        have S' : uw_S 0 (upd sz p (nI (q + 1))) (upd (upd zs p (nI (q + 1))) 3 (nI 0)) := by
          refine ⟨fun p' h => ?_, pk_us⟩
          rw [pk_un (by omega : p' ≠ 3)]
          by_cases e : p' = p
          · subst e; rw [pk_us, pk_us]; exact ⟨q + 1, by omega, by omega, rfl, rfl⟩
          · rw [pk_un e, pk_un e]; exact S.1 p' h
        refine ⟨nI (q + 1), (nI 0, nI 0, nI pc, stp, opc, mop, lou, lth, rng, nxt, edg, edn, frm, kd', tg', op', fs', sc', upd sz p (nI (q + 1)), sk, wa', ld, hd, tb', po, fS, fE, fN), (nI 0, opn, nxy, way, wth, cal, lou, lth, stp, nI pc, mop, kd', tg', op', fs', sc', upd (upd zs p (nI (q + 1))) 3 (nI 0), sk, ar', ld, oN, oP, oW, oV, hd, tb', po), fun post H => ?_, fun post H => ?_, uw_mk T' S' uw_D0 hp⟩
        · dsimp only [wpX_procedure]
          refine uw_xp (fun _ => br_f uw_10 (br_t rfl ?_)) (fun z => absurd hv z)
          dsimp only [wpX_hasLoopsEnough]
          rw [em, cq]
          refine ⟨iq, nm_e (nm_e ⟨q + 2, hx _ _ (by omega) (br_f uw_10 ?_)⟩)⟩
          dsimp only [wpX_copyDraftTo]
          refine ⟨21, gx _ _ (by omega) ?_⟩
          dsimp only [wpX_emptyStack]
          refine ⟨hv, nm_r (by rw [cp]) ⟨hv, ?_⟩⟩
          rw [cp, pk_us]
          exact H
        · refine br_f hv0 (br_t hv2 (br_t rfl ?_))
          dsimp only [wpY_loopsFit]
          refine nm_r S.2 ?_
          rw [em, cq]
          refine ⟨iq, nm_e (nm_e ⟨q + 2, hy _ _ (by omega) (br_f uw_10 (nm_r S.2 ⟨21, gy _ _ _ (by omega) ?_⟩))⟩)⟩
          exact H
    · have hn : ¬ nI d = 1 := uw_ne 1 rfl (by have := D.1; have := D.2.1; omega) (by decide) hd1
      exact ⟨-3, _, _, fun post H => (by dsimp only [wpX_procedure]; exact uw_xp (fun _ => br_f uw_10 (br_f hn H)) (fun z => absurd hv z)),
        fun post H => br_f hv0 (br_t hv2 (br_f hn H)), I0⟩
  · refine ⟨-1, _, _, fun post H => (by dsimp only [wpX_procedure]; exact uw_xp (fun z => absurd z hv) (fun _ => br_t rfl H)), fun post H => ?_, I0⟩
    by_cases h0 : v1 < 0
    · exact br_t h0 H
    · by_cases h2 : v1 ≤ 2
      · exact absurd ((uw_s3 v1).mpr ⟨h0, h2⟩) hv
      · exact br_f h0 (br_f h2 H)
end
section
/-! what a turn does that begins a statement: a lemma a kind and a side -/
variable {std mde pct stp opc mop lou lth rng nxt edg edn frm dpt opn nxy way wth cal eng thr sts ots dps : Int32} {kd tg op fs sc sz sk wa ld hd tb po fS fE fN zs ar oN oP oW oV : Nat → Int32}
theorem uw_3n (st : Nat) (h : st < 300) : nI st < 300 := nI_lt (b := 300) h (by decide)
theorem uw_3e (st : Nat) (h : st < 300) : ¬ nI st = 300 := fun z => absurd ((nI_eq (b := 300) (by omega) (by decide)).mp z) (by omega)
section
variable {post : SX → Prop} {st pc F : Nat}
theorem uw_xb0 (hst : st < 300) (hn : vp_in nxt 60) (hk : kd nxt.toNatClampNeg = 0) (H : post (std, mde, pct, nI (st + 1), opc, mop, lou, lth, rng, -1, 0, 0, frm, kd, tg, op, fs, sc, sz, sk, wa, ld, hd, upd tb nxt.toNatClampNeg (tb nxt.toNatClampNeg + 1), po, fS, fE, fN)) : wpX_beginStatement post (std, mde, pct, nI st, opc, mop, lou, lth, rng, nxt, edg, edn, frm, kd, tg, op, fs, sc, sz, sk, wa, ld, hd, tb, po, fS, fE, fN) nxt := by
  have h80 : vp_in nxt 80 := uw_in hn (by omega)
  have h10 : ¬ (10 : Int32) ≤ kd nxt.toNatClampNeg := by rw [hk]; decide +kernel
  refine br_t (uw_3n st hst) (nm_r (nI_1 st) ⟨hn, hn, nm_e ⟨h80, br_f h10 ?_⟩⟩)
  dsimp only [wpX_doSimple, wpX_endStatement]
  exact ⟨h80, nm_e ⟨h80, nm_e ⟨h80, nm_r hk (br_t (by decide +kernel : (0 : Int32) < 1) H)⟩⟩⟩
theorem uw_xb1 (hst : st < 300) (hn : vp_in nxt 60) (hk : kd nxt.toNatClampNeg = 1) (ht : vp_in (tg nxt.toNatClampNeg) 4) (H : post (std, mde, pct, nI (st + 1), opc, mop, lou, lth, rng, -1, 0, 0, frm, kd, tg, op, fs, sc, sz, sk, wa, ld, upd hd (tg nxt.toNatClampNeg).toNatClampNeg (op nxt.toNatClampNeg), upd tb nxt.toNatClampNeg (tb nxt.toNatClampNeg + 1), po, fS, fE, fN)) : wpX_beginStatement post (std, mde, pct, nI st, opc, mop, lou, lth, rng, nxt, edg, edn, frm, kd, tg, op, fs, sc, sz, sk, wa, ld, hd, tb, po, fS, fE, fN) nxt := by
  have h80 : vp_in nxt 80 := uw_in hn (by omega)
  have h10 : ¬ (10 : Int32) ≤ kd nxt.toNatClampNeg := by rw [hk]; decide +kernel
  refine br_t (uw_3n st hst) (nm_r (nI_1 st) ⟨hn, hn, nm_e ⟨h80, br_f h10 ?_⟩⟩)
  dsimp only [wpX_doSimple, wpX_endStatement]
  exact ⟨h80, nm_e ⟨h80, nm_e ⟨h80, nm_r hk (br_f (by decide +kernel : ¬ (1 : Int32) < 1) (br_f (by decide +kernel : ¬ (9 : Int32) < 1) (br_t rfl ⟨ht, nm_e H⟩)))⟩⟩⟩
theorem uw_xb2 (hst : st < 300) (hn : vp_in nxt 60) (hk : kd nxt.toNatClampNeg = 2) (ht : vp_in (tg nxt.toNatClampNeg) 4) (ho : vp_in (op nxt.toNatClampNeg) 4) (H : post (std, mde, pct, nI (st + 1), opc, mop, lou, lth, rng, -1, 0, 0, frm, kd, tg, op, fs, sc, sz, sk, wa, ld, upd hd (tg nxt.toNatClampNeg).toNatClampNeg (hd (tg nxt.toNatClampNeg).toNatClampNeg + hd (op nxt.toNatClampNeg).toNatClampNeg), upd tb nxt.toNatClampNeg (tb nxt.toNatClampNeg + 1), po, fS, fE, fN)) : wpX_beginStatement post (std, mde, pct, nI st, opc, mop, lou, lth, rng, nxt, edg, edn, frm, kd, tg, op, fs, sc, sz, sk, wa, ld, hd, tb, po, fS, fE, fN) nxt := by
  have h80 : vp_in nxt 80 := uw_in hn (by omega)
  have h10 : ¬ (10 : Int32) ≤ kd nxt.toNatClampNeg := by rw [hk]; decide +kernel
  refine br_t (uw_3n st hst) (nm_r (nI_1 st) ⟨hn, hn, nm_e ⟨h80, br_f h10 ?_⟩⟩)
  dsimp only [wpX_doSimple, wpX_endStatement]
  exact ⟨h80, nm_e ⟨h80, nm_e ⟨h80, nm_r hk (br_f (by decide +kernel : ¬ (2 : Int32) < 1) (br_f (by decide +kernel : ¬ (9 : Int32) < 2) (br_f (by decide +kernel : ¬ (2 : Int32) = 1) (br_t rfl ⟨ht, ho, ht, nm_e H⟩))))⟩⟩⟩
theorem uw_xb3 (hst : st < 300) (hn : vp_in nxt 60) (hk : kd nxt.toNatClampNeg = 3) (ht : vp_in (tg nxt.toNatClampNeg) 4) (ho : vp_in (op nxt.toNatClampNeg) 4) (H : post (std, mde, pct, nI (st + 1), opc, mop, lou, lth, rng, -1, 0, 0, frm, kd, tg, op, fs, sc, sz, sk, wa, ld, upd hd (tg nxt.toNatClampNeg).toNatClampNeg (hd (tg nxt.toNatClampNeg).toNatClampNeg - hd (op nxt.toNatClampNeg).toNatClampNeg), upd tb nxt.toNatClampNeg (tb nxt.toNatClampNeg + 1), po, fS, fE, fN)) : wpX_beginStatement post (std, mde, pct, nI st, opc, mop, lou, lth, rng, nxt, edg, edn, frm, kd, tg, op, fs, sc, sz, sk, wa, ld, hd, tb, po, fS, fE, fN) nxt := by
  have h80 : vp_in nxt 80 := uw_in hn (by omega)
  have h10 : ¬ (10 : Int32) ≤ kd nxt.toNatClampNeg := by rw [hk]; decide +kernel
  refine br_t (uw_3n st hst) (nm_r (nI_1 st) ⟨hn, hn, nm_e ⟨h80, br_f h10 ?_⟩⟩)
  dsimp only [wpX_doSimple, wpX_endStatement]
  exact ⟨h80, nm_e ⟨h80, nm_e ⟨h80, nm_r hk (br_f (by decide +kernel : ¬ (3 : Int32) < 1) (br_f (by decide +kernel : ¬ (9 : Int32) < 3) (br_f (by decide +kernel : ¬ (3 : Int32) = 1) (br_f (by decide +kernel : ¬ (3 : Int32) = 2) (br_t rfl ⟨ht, ho, ht, nm_e H⟩)))))⟩⟩⟩
theorem uw_xb4 (hst : st < 300) (hn : vp_in nxt 60) (hk : kd nxt.toNatClampNeg = 4) (ht : vp_in (tg nxt.toNatClampNeg) 4) (ho : vp_in (op nxt.toNatClampNeg) 4) (H : post (std, mde, pct, nI (st + 1), opc, mop, lou, lth, rng, -1, 0, 0, frm, kd, tg, op, fs, sc, sz, sk, wa, ld, upd hd (tg nxt.toNatClampNeg).toNatClampNeg (hd (tg nxt.toNatClampNeg).toNatClampNeg * hd (op nxt.toNatClampNeg).toNatClampNeg), upd tb nxt.toNatClampNeg (tb nxt.toNatClampNeg + 1), po, fS, fE, fN)) : wpX_beginStatement post (std, mde, pct, nI st, opc, mop, lou, lth, rng, nxt, edg, edn, frm, kd, tg, op, fs, sc, sz, sk, wa, ld, hd, tb, po, fS, fE, fN) nxt := by
  have h80 : vp_in nxt 80 := uw_in hn (by omega)
  have h10 : ¬ (10 : Int32) ≤ kd nxt.toNatClampNeg := by rw [hk]; decide +kernel
  refine br_t (uw_3n st hst) (nm_r (nI_1 st) ⟨hn, hn, nm_e ⟨h80, br_f h10 ?_⟩⟩)
  dsimp only [wpX_doSimple, wpX_endStatement]
  exact ⟨h80, nm_e ⟨h80, nm_e ⟨h80, nm_r hk (br_f (by decide +kernel : ¬ (4 : Int32) < 1) (br_f (by decide +kernel : ¬ (9 : Int32) < 4) (br_f (by decide +kernel : ¬ (4 : Int32) = 1) (br_f (by decide +kernel : ¬ (4 : Int32) = 2) (br_f (by decide +kernel : ¬ (4 : Int32) = 3) (br_t rfl ⟨ht, ho, ht, nm_e H⟩))))))⟩⟩⟩
theorem uw_xb5 (hst : st < 300) (hn : vp_in nxt 60) (hk : kd nxt.toNatClampNeg = 5) (ht : vp_in (tg nxt.toNatClampNeg) 4) (hpc : pc < 300) (H : post (std, mde, nI (pc + 1), nI (st + 1), opc, mop, lou, lth, rng, -1, 0, 0, frm, kd, tg, op, fs, sc, sz, sk, wa, ld, hd, upd tb nxt.toNatClampNeg (tb nxt.toNatClampNeg + 1), upd po pc (hd (tg nxt.toNatClampNeg).toNatClampNeg), fS, fE, fN)) : wpX_beginStatement post (std, mde, nI pc, nI st, opc, mop, lou, lth, rng, nxt, edg, edn, frm, kd, tg, op, fs, sc, sz, sk, wa, ld, hd, tb, po, fS, fE, fN) nxt := by
  have h80 : vp_in nxt 80 := uw_in hn (by omega)
  have h10 : ¬ (10 : Int32) ≤ kd nxt.toNatClampNeg := by rw [hk]; decide +kernel
  have cp : (nI pc).toNatClampNeg = pc := nI_clamp (by omega)
  refine br_t (uw_3n st hst) (nm_r (nI_1 st) ⟨hn, hn, nm_e ⟨h80, br_f h10 ?_⟩⟩)
  dsimp only [wpX_doSimple, wpX_endStatement]
  exact ⟨h80, nm_e ⟨h80, nm_e ⟨h80, nm_r hk (br_f (by decide +kernel : ¬ (5 : Int32) < 1) (br_f (by decide +kernel : ¬ (9 : Int32) < 5) (br_f (by decide +kernel : ¬ (5 : Int32) = 1) (br_f (by decide +kernel : ¬ (5 : Int32) = 2) (br_f (by decide +kernel : ¬ (5 : Int32) = 3) (br_f (by decide +kernel : ¬ (5 : Int32) = 4) (br_t rfl ⟨ht, vp_in_nI (by omega) (by omega), nm_r (congrArg (fun q => upd po q (hd (tg nxt.toNatClampNeg).toNatClampNeg)) cp) (nm_r (nI_1 pc) H)⟩)))))))⟩⟩⟩
theorem uw_xb6 (hst : st < 300) (hn : vp_in nxt 60) (hk : kd nxt.toNatClampNeg = 6) (ht : vp_in (tg nxt.toNatClampNeg) 4) (H : post (std, mde, pct, nI (st + 1), opc, mop, lou, lth, rng, -1, 1, hd (tg nxt.toNatClampNeg).toNatClampNeg, frm, kd, tg, op, fs, sc, sz, sk, wa, ld, hd, upd tb nxt.toNatClampNeg (tb nxt.toNatClampNeg + 1), po, fS, fE, fN)) : wpX_beginStatement post (std, mde, pct, nI st, opc, mop, lou, lth, rng, nxt, edg, edn, frm, kd, tg, op, fs, sc, sz, sk, wa, ld, hd, tb, po, fS, fE, fN) nxt := by
  have h80 : vp_in nxt 80 := uw_in hn (by omega)
  have h10 : ¬ (10 : Int32) ≤ kd nxt.toNatClampNeg := by rw [hk]; decide +kernel
  refine br_t (uw_3n st hst) (nm_r (nI_1 st) ⟨hn, hn, nm_e ⟨h80, br_f h10 ?_⟩⟩)
  dsimp only [wpX_doSimple, wpX_endStatement]
  exact ⟨h80, nm_e ⟨h80, nm_e ⟨h80, nm_r hk (br_f (by decide +kernel : ¬ (6 : Int32) < 1) (br_f (by decide +kernel : ¬ (9 : Int32) < 6) (br_f (by decide +kernel : ¬ (6 : Int32) = 1) (br_f (by decide +kernel : ¬ (6 : Int32) = 2) (br_f (by decide +kernel : ¬ (6 : Int32) = 3) (br_f (by decide +kernel : ¬ (6 : Int32) = 4) (br_f (by decide +kernel : ¬ (6 : Int32) = 5) (br_t rfl ⟨ht, H⟩))))))))⟩⟩⟩
theorem uw_xb7 (hst : st < 300) (hn : vp_in nxt 60) (hk : kd nxt.toNatClampNeg = 7) (H : post (std, mde, pct, nI (st + 1), opc, mop, lou, lth, rng, -1, 2, (op nxt.toNatClampNeg), frm, kd, tg, op, fs, sc, sz, sk, wa, ld, hd, upd tb nxt.toNatClampNeg (tb nxt.toNatClampNeg + 1), po, fS, fE, fN)) : wpX_beginStatement post (std, mde, pct, nI st, opc, mop, lou, lth, rng, nxt, edg, edn, frm, kd, tg, op, fs, sc, sz, sk, wa, ld, hd, tb, po, fS, fE, fN) nxt := by
  have h80 : vp_in nxt 80 := uw_in hn (by omega)
  have h10 : ¬ (10 : Int32) ≤ kd nxt.toNatClampNeg := by rw [hk]; decide +kernel
  refine br_t (uw_3n st hst) (nm_r (nI_1 st) ⟨hn, hn, nm_e ⟨h80, br_f h10 ?_⟩⟩)
  dsimp only [wpX_doSimple, wpX_endStatement]
  exact ⟨h80, nm_e ⟨h80, nm_e ⟨h80, nm_r hk (br_f (by decide +kernel : ¬ (7 : Int32) < 1) (br_f (by decide +kernel : ¬ (9 : Int32) < 7) (br_f (by decide +kernel : ¬ (7 : Int32) = 1) (br_f (by decide +kernel : ¬ (7 : Int32) = 2) (br_f (by decide +kernel : ¬ (7 : Int32) = 3) (br_f (by decide +kernel : ¬ (7 : Int32) = 4) (br_f (by decide +kernel : ¬ (7 : Int32) = 5) (br_f (by decide +kernel : ¬ (7 : Int32) = 6) (br_t rfl H)))))))))⟩⟩⟩
theorem uw_xb8 (hst : st < 300) (hn : vp_in nxt 60) (hk : kd nxt.toNatClampNeg = 8) (H : post (std, mde, pct, nI (st + 1), opc, mop, lou, lth, rng, -1, 3, (op nxt.toNatClampNeg), frm, kd, tg, op, fs, sc, sz, sk, wa, ld, hd, upd tb nxt.toNatClampNeg (tb nxt.toNatClampNeg + 1), po, fS, fE, fN)) : wpX_beginStatement post (std, mde, pct, nI st, opc, mop, lou, lth, rng, nxt, edg, edn, frm, kd, tg, op, fs, sc, sz, sk, wa, ld, hd, tb, po, fS, fE, fN) nxt := by
  have h80 : vp_in nxt 80 := uw_in hn (by omega)
  have h10 : ¬ (10 : Int32) ≤ kd nxt.toNatClampNeg := by rw [hk]; decide +kernel
  refine br_t (uw_3n st hst) (nm_r (nI_1 st) ⟨hn, hn, nm_e ⟨h80, br_f h10 ?_⟩⟩)
  dsimp only [wpX_doSimple, wpX_endStatement]
  exact ⟨h80, nm_e ⟨h80, nm_e ⟨h80, nm_r hk (br_f (by decide +kernel : ¬ (8 : Int32) < 1) (br_f (by decide +kernel : ¬ (9 : Int32) < 8) (br_f (by decide +kernel : ¬ (8 : Int32) = 1) (br_f (by decide +kernel : ¬ (8 : Int32) = 2) (br_f (by decide +kernel : ¬ (8 : Int32) = 3) (br_f (by decide +kernel : ¬ (8 : Int32) = 4) (br_f (by decide +kernel : ¬ (8 : Int32) = 5) (br_f (by decide +kernel : ¬ (8 : Int32) = 6) (br_f (by decide +kernel : ¬ (8 : Int32) = 7) (br_t rfl H))))))))))⟩⟩⟩
theorem uw_xb9 (hst : st < 300) (hn : vp_in nxt 60) (hk : kd nxt.toNatClampNeg = 9) (H : post (std, mde, pct, nI (st + 1), opc, mop, lou, lth, rng, -1, 4, 0, frm, kd, tg, op, fs, sc, sz, sk, wa, ld, hd, upd tb nxt.toNatClampNeg (tb nxt.toNatClampNeg + 1), po, fS, fE, fN)) : wpX_beginStatement post (std, mde, pct, nI st, opc, mop, lou, lth, rng, nxt, edg, edn, frm, kd, tg, op, fs, sc, sz, sk, wa, ld, hd, tb, po, fS, fE, fN) nxt := by
  have h80 : vp_in nxt 80 := uw_in hn (by omega)
  have h10 : ¬ (10 : Int32) ≤ kd nxt.toNatClampNeg := by rw [hk]; decide +kernel
  refine br_t (uw_3n st hst) (nm_r (nI_1 st) ⟨hn, hn, nm_e ⟨h80, br_f h10 ?_⟩⟩)
  dsimp only [wpX_doSimple, wpX_endStatement]
  exact ⟨h80, nm_e ⟨h80, nm_e ⟨h80, nm_r hk (br_f (by decide +kernel : ¬ (9 : Int32) < 1) (br_f (by decide +kernel : ¬ (9 : Int32) < 9) (br_f (by decide +kernel : ¬ (9 : Int32) = 1) (br_f (by decide +kernel : ¬ (9 : Int32) = 2) (br_f (by decide +kernel : ¬ (9 : Int32) = 3) (br_f (by decide +kernel : ¬ (9 : Int32) = 4) (br_f (by decide +kernel : ¬ (9 : Int32) = 5) (br_f (by decide +kernel : ¬ (9 : Int32) = 6) (br_f (by decide +kernel : ¬ (9 : Int32) = 7) (br_f (by decide +kernel : ¬ (9 : Int32) = 8) (br_t rfl H)))))))))))⟩⟩⟩
end
section
variable {post : SY → Prop} {st pc F : Nat}
theorem uw_yb0 (hst : st < 300) (hn : vp_in nxy 60) (hk : kd nxy.toNatClampNeg = 0) (H : post (dpt, opn, -1, 0, 0, cal, eng, thr, nI (st + 1), ots, dps, kd, tg, op, fs, sc, zs, sk, ar, ld, oN, oP, oW, oV, hd, upd tb nxy.toNatClampNeg (tb nxy.toNatClampNeg + 1), po)) : wpY_begin post (dpt, opn, nxy, way, wth, cal, eng, thr, nI st, ots, dps, kd, tg, op, fs, sc, zs, sk, ar, ld, oN, oP, oW, oV, hd, tb, po) := by
  have h80 : vp_in nxy 80 := uw_in hn (by omega)
  have h10 : ¬ (10 : Int32) < kd nxy.toNatClampNeg := by rw [hk]; decide +kernel
  refine br_f (uw_3e st hst) (nm_r (nI_1 st) ⟨hn, hn, nm_e ⟨h80, br_f h10 ⟨h80, h80, h80, ?_⟩⟩⟩)
  rw [hk]
  dsimp only [wpY_simply, wpY_endAs]
  exact br_f (by decide +kernel : ¬ (0 : Int32) = 1) (br_t (by decide +kernel : (0 : Int32) < 2) (br_f (by decide +kernel : ¬ (0 : Int32) = 5) (br_f (by decide +kernel : ¬ (0 : Int32) = 6) (br_f (by decide +kernel : ¬ (0 : Int32) = 7) (br_f (by decide +kernel : ¬ (0 : Int32) = 8) (br_f (by decide +kernel : ¬ (0 : Int32) = 9) (br_f (by decide +kernel : ¬ (0 : Int32) = 10) (H))))))))
theorem uw_yb1 (hst : st < 300) (hn : vp_in nxy 60) (hk : kd nxy.toNatClampNeg = 1) (ht : vp_in (tg nxy.toNatClampNeg) 4) (H : post (dpt, opn, -1, 0, 0, cal, eng, thr, nI (st + 1), ots, dps, kd, tg, op, fs, sc, zs, sk, ar, ld, oN, oP, oW, oV, upd hd (tg nxy.toNatClampNeg).toNatClampNeg (op nxy.toNatClampNeg), upd tb nxy.toNatClampNeg (tb nxy.toNatClampNeg + 1), po)) : wpY_begin post (dpt, opn, nxy, way, wth, cal, eng, thr, nI st, ots, dps, kd, tg, op, fs, sc, zs, sk, ar, ld, oN, oP, oW, oV, hd, tb, po) := by
  have h80 : vp_in nxy 80 := uw_in hn (by omega)
  have h10 : ¬ (10 : Int32) < kd nxy.toNatClampNeg := by rw [hk]; decide +kernel
  refine br_f (uw_3e st hst) (nm_r (nI_1 st) ⟨hn, hn, nm_e ⟨h80, br_f h10 ⟨h80, h80, h80, ?_⟩⟩⟩)
  rw [hk]
  dsimp only [wpY_simply, wpY_endAs]
  exact br_t rfl ⟨ht, nm_e (br_t (by decide +kernel : (1 : Int32) < 2) (br_f (by decide +kernel : ¬ (1 : Int32) = 5) (br_f (by decide +kernel : ¬ (1 : Int32) = 6) (br_f (by decide +kernel : ¬ (1 : Int32) = 7) (br_f (by decide +kernel : ¬ (1 : Int32) = 8) (br_f (by decide +kernel : ¬ (1 : Int32) = 9) (br_f (by decide +kernel : ¬ (1 : Int32) = 10) (H))))))))⟩
theorem uw_yb2 (hst : st < 300) (hn : vp_in nxy 60) (hk : kd nxy.toNatClampNeg = 2) (ht : vp_in (tg nxy.toNatClampNeg) 4) (ho : vp_in (op nxy.toNatClampNeg) 4) (H : post (dpt, opn, -1, 0, 0, cal, eng, thr, nI (st + 1), ots, dps, kd, tg, op, fs, sc, zs, sk, ar, ld, oN, oP, oW, oV, upd hd (tg nxy.toNatClampNeg).toNatClampNeg (hd (tg nxy.toNatClampNeg).toNatClampNeg + hd (op nxy.toNatClampNeg).toNatClampNeg), upd tb nxy.toNatClampNeg (tb nxy.toNatClampNeg + 1), po)) : wpY_begin post (dpt, opn, nxy, way, wth, cal, eng, thr, nI st, ots, dps, kd, tg, op, fs, sc, zs, sk, ar, ld, oN, oP, oW, oV, hd, tb, po) := by
  have h80 : vp_in nxy 80 := uw_in hn (by omega)
  have h10 : ¬ (10 : Int32) < kd nxy.toNatClampNeg := by rw [hk]; decide +kernel
  refine br_f (uw_3e st hst) (nm_r (nI_1 st) ⟨hn, hn, nm_e ⟨h80, br_f h10 ⟨h80, h80, h80, ?_⟩⟩⟩)
  rw [hk]
  dsimp only [wpY_simply, wpY_endAs]
  exact br_f (by decide +kernel : ¬ (2 : Int32) = 1) (br_f (by decide +kernel : ¬ (2 : Int32) < 2) (br_f (by decide +kernel : ¬ (4 : Int32) < 2) ⟨ht, ho, br_t rfl (⟨ht, nm_e (br_f (by decide +kernel : ¬ (2 : Int32) = 5) (br_f (by decide +kernel : ¬ (2 : Int32) = 6) (br_f (by decide +kernel : ¬ (2 : Int32) = 7) (br_f (by decide +kernel : ¬ (2 : Int32) = 8) (br_f (by decide +kernel : ¬ (2 : Int32) = 9) (br_f (by decide +kernel : ¬ (2 : Int32) = 10) (H)))))))⟩)⟩))
theorem uw_yb3 (hst : st < 300) (hn : vp_in nxy 60) (hk : kd nxy.toNatClampNeg = 3) (ht : vp_in (tg nxy.toNatClampNeg) 4) (ho : vp_in (op nxy.toNatClampNeg) 4) (H : post (dpt, opn, -1, 0, 0, cal, eng, thr, nI (st + 1), ots, dps, kd, tg, op, fs, sc, zs, sk, ar, ld, oN, oP, oW, oV, upd hd (tg nxy.toNatClampNeg).toNatClampNeg (hd (tg nxy.toNatClampNeg).toNatClampNeg - hd (op nxy.toNatClampNeg).toNatClampNeg), upd tb nxy.toNatClampNeg (tb nxy.toNatClampNeg + 1), po)) : wpY_begin post (dpt, opn, nxy, way, wth, cal, eng, thr, nI st, ots, dps, kd, tg, op, fs, sc, zs, sk, ar, ld, oN, oP, oW, oV, hd, tb, po) := by
  have h80 : vp_in nxy 80 := uw_in hn (by omega)
  have h10 : ¬ (10 : Int32) < kd nxy.toNatClampNeg := by rw [hk]; decide +kernel
  refine br_f (uw_3e st hst) (nm_r (nI_1 st) ⟨hn, hn, nm_e ⟨h80, br_f h10 ⟨h80, h80, h80, ?_⟩⟩⟩)
  rw [hk]
  dsimp only [wpY_simply, wpY_endAs]
  exact br_f (by decide +kernel : ¬ (3 : Int32) = 1) (br_f (by decide +kernel : ¬ (3 : Int32) < 2) (br_f (by decide +kernel : ¬ (4 : Int32) < 3) ⟨ht, ho, br_f (by decide +kernel : ¬ (3 : Int32) = 2) (br_t rfl (⟨ht, nm_e (br_f (by decide +kernel : ¬ (3 : Int32) = 5) (br_f (by decide +kernel : ¬ (3 : Int32) = 6) (br_f (by decide +kernel : ¬ (3 : Int32) = 7) (br_f (by decide +kernel : ¬ (3 : Int32) = 8) (br_f (by decide +kernel : ¬ (3 : Int32) = 9) (br_f (by decide +kernel : ¬ (3 : Int32) = 10) (H)))))))⟩))⟩))
theorem uw_yb4 (hst : st < 300) (hn : vp_in nxy 60) (hk : kd nxy.toNatClampNeg = 4) (ht : vp_in (tg nxy.toNatClampNeg) 4) (ho : vp_in (op nxy.toNatClampNeg) 4) (H : post (dpt, opn, -1, 0, 0, cal, eng, thr, nI (st + 1), ots, dps, kd, tg, op, fs, sc, zs, sk, ar, ld, oN, oP, oW, oV, upd hd (tg nxy.toNatClampNeg).toNatClampNeg (hd (tg nxy.toNatClampNeg).toNatClampNeg * hd (op nxy.toNatClampNeg).toNatClampNeg), upd tb nxy.toNatClampNeg (tb nxy.toNatClampNeg + 1), po)) : wpY_begin post (dpt, opn, nxy, way, wth, cal, eng, thr, nI st, ots, dps, kd, tg, op, fs, sc, zs, sk, ar, ld, oN, oP, oW, oV, hd, tb, po) := by
  have h80 : vp_in nxy 80 := uw_in hn (by omega)
  have h10 : ¬ (10 : Int32) < kd nxy.toNatClampNeg := by rw [hk]; decide +kernel
  refine br_f (uw_3e st hst) (nm_r (nI_1 st) ⟨hn, hn, nm_e ⟨h80, br_f h10 ⟨h80, h80, h80, ?_⟩⟩⟩)
  rw [hk]
  dsimp only [wpY_simply, wpY_endAs]
  exact br_f (by decide +kernel : ¬ (4 : Int32) = 1) (br_f (by decide +kernel : ¬ (4 : Int32) < 2) (br_f (by decide +kernel : ¬ (4 : Int32) < 4) ⟨ht, ho, br_f (by decide +kernel : ¬ (4 : Int32) = 2) (br_f (by decide +kernel : ¬ (4 : Int32) = 3) (⟨ht, nm_e (br_f (by decide +kernel : ¬ (4 : Int32) = 5) (br_f (by decide +kernel : ¬ (4 : Int32) = 6) (br_f (by decide +kernel : ¬ (4 : Int32) = 7) (br_f (by decide +kernel : ¬ (4 : Int32) = 8) (br_f (by decide +kernel : ¬ (4 : Int32) = 9) (br_f (by decide +kernel : ¬ (4 : Int32) = 10) (H)))))))⟩))⟩))
theorem uw_yb5 (hst : st < 300) (hn : vp_in nxy 60) (hk : kd nxy.toNatClampNeg = 5) (ht : vp_in (tg nxy.toNatClampNeg) 4) (hpc : pc < 300) (H : post (dpt, opn, -1, 0, 0, cal, eng, thr, nI (st + 1), nI (pc + 1), dps, kd, tg, op, fs, sc, zs, sk, ar, ld, oN, oP, oW, oV, hd, upd tb nxy.toNatClampNeg (tb nxy.toNatClampNeg + 1), upd po pc (hd (tg nxy.toNatClampNeg).toNatClampNeg))) : wpY_begin post (dpt, opn, nxy, way, wth, cal, eng, thr, nI st, nI pc, dps, kd, tg, op, fs, sc, zs, sk, ar, ld, oN, oP, oW, oV, hd, tb, po) := by
  have h80 : vp_in nxy 80 := uw_in hn (by omega)
  have h10 : ¬ (10 : Int32) < kd nxy.toNatClampNeg := by rw [hk]; decide +kernel
  have cp : (nI pc).toNatClampNeg = pc := nI_clamp (by omega)
  refine br_f (uw_3e st hst) (nm_r (nI_1 st) ⟨hn, hn, nm_e ⟨h80, br_f h10 ⟨h80, h80, h80, ?_⟩⟩⟩)
  rw [hk]
  dsimp only [wpY_simply, wpY_endAs]
  exact br_f (by decide +kernel : ¬ (5 : Int32) = 1) (br_f (by decide +kernel : ¬ (5 : Int32) < 2) (br_t (by decide +kernel : (4 : Int32) < 5) (br_t rfl ⟨ht, vp_in_nI (by omega) (by omega), nm_r (congrArg (fun q => upd po q (hd (tg nxy.toNatClampNeg).toNatClampNeg)) cp) (nm_r (nI_1 pc) (br_f (by decide +kernel : ¬ (5 : Int32) = 6) (br_f (by decide +kernel : ¬ (5 : Int32) = 7) (br_f (by decide +kernel : ¬ (5 : Int32) = 8) (br_f (by decide +kernel : ¬ (5 : Int32) = 9) (br_f (by decide +kernel : ¬ (5 : Int32) = 10) (H)))))))⟩)))
theorem uw_yb6 (hst : st < 300) (hn : vp_in nxy 60) (hk : kd nxy.toNatClampNeg = 6) (ht : vp_in (tg nxy.toNatClampNeg) 4) (H : post (dpt, opn, -1, 1, hd (tg nxy.toNatClampNeg).toNatClampNeg, cal, eng, thr, nI (st + 1), ots, dps, kd, tg, op, fs, sc, zs, sk, ar, ld, oN, oP, oW, oV, hd, upd tb nxy.toNatClampNeg (tb nxy.toNatClampNeg + 1), po)) : wpY_begin post (dpt, opn, nxy, way, wth, cal, eng, thr, nI st, ots, dps, kd, tg, op, fs, sc, zs, sk, ar, ld, oN, oP, oW, oV, hd, tb, po) := by
  have h80 : vp_in nxy 80 := uw_in hn (by omega)
  have h10 : ¬ (10 : Int32) < kd nxy.toNatClampNeg := by rw [hk]; decide +kernel
  refine br_f (uw_3e st hst) (nm_r (nI_1 st) ⟨hn, hn, nm_e ⟨h80, br_f h10 ⟨h80, h80, h80, ?_⟩⟩⟩)
  rw [hk]
  dsimp only [wpY_simply, wpY_endAs]
  exact br_f (by decide +kernel : ¬ (6 : Int32) = 1) (br_f (by decide +kernel : ¬ (6 : Int32) < 2) (br_t (by decide +kernel : (4 : Int32) < 6) (br_f (by decide +kernel : ¬ (6 : Int32) = 5) (br_t rfl ⟨ht, br_f (by decide +kernel : ¬ (6 : Int32) = 7) (br_f (by decide +kernel : ¬ (6 : Int32) = 8) (br_f (by decide +kernel : ¬ (6 : Int32) = 9) (br_f (by decide +kernel : ¬ (6 : Int32) = 10) (H))))⟩))))
theorem uw_yb7 (hst : st < 300) (hn : vp_in nxy 60) (hk : kd nxy.toNatClampNeg = 7) (H : post (dpt, opn, -1, 2, (op nxy.toNatClampNeg), cal, eng, thr, nI (st + 1), ots, dps, kd, tg, op, fs, sc, zs, sk, ar, ld, oN, oP, oW, oV, hd, upd tb nxy.toNatClampNeg (tb nxy.toNatClampNeg + 1), po)) : wpY_begin post (dpt, opn, nxy, way, wth, cal, eng, thr, nI st, ots, dps, kd, tg, op, fs, sc, zs, sk, ar, ld, oN, oP, oW, oV, hd, tb, po) := by
  have h80 : vp_in nxy 80 := uw_in hn (by omega)
  have h10 : ¬ (10 : Int32) < kd nxy.toNatClampNeg := by rw [hk]; decide +kernel
  refine br_f (uw_3e st hst) (nm_r (nI_1 st) ⟨hn, hn, nm_e ⟨h80, br_f h10 ⟨h80, h80, h80, ?_⟩⟩⟩)
  rw [hk]
  dsimp only [wpY_simply, wpY_endAs]
  exact br_f (by decide +kernel : ¬ (7 : Int32) = 1) (br_f (by decide +kernel : ¬ (7 : Int32) < 2) (br_t (by decide +kernel : (4 : Int32) < 7) (br_f (by decide +kernel : ¬ (7 : Int32) = 5) (br_f (by decide +kernel : ¬ (7 : Int32) = 6) (br_t rfl (br_f (by decide +kernel : ¬ (7 : Int32) = 8) (br_f (by decide +kernel : ¬ (7 : Int32) = 9) (br_f (by decide +kernel : ¬ (7 : Int32) = 10) (H)))))))))
theorem uw_yb8 (hst : st < 300) (hn : vp_in nxy 60) (hk : kd nxy.toNatClampNeg = 8) (H : post (dpt, opn, -1, 3, (op nxy.toNatClampNeg), cal, eng, thr, nI (st + 1), ots, dps, kd, tg, op, fs, sc, zs, sk, ar, ld, oN, oP, oW, oV, hd, upd tb nxy.toNatClampNeg (tb nxy.toNatClampNeg + 1), po)) : wpY_begin post (dpt, opn, nxy, way, wth, cal, eng, thr, nI st, ots, dps, kd, tg, op, fs, sc, zs, sk, ar, ld, oN, oP, oW, oV, hd, tb, po) := by
  have h80 : vp_in nxy 80 := uw_in hn (by omega)
  have h10 : ¬ (10 : Int32) < kd nxy.toNatClampNeg := by rw [hk]; decide +kernel
  refine br_f (uw_3e st hst) (nm_r (nI_1 st) ⟨hn, hn, nm_e ⟨h80, br_f h10 ⟨h80, h80, h80, ?_⟩⟩⟩)
  rw [hk]
  dsimp only [wpY_simply, wpY_endAs]
  exact br_f (by decide +kernel : ¬ (8 : Int32) = 1) (br_f (by decide +kernel : ¬ (8 : Int32) < 2) (br_t (by decide +kernel : (4 : Int32) < 8) (br_f (by decide +kernel : ¬ (8 : Int32) = 5) (br_f (by decide +kernel : ¬ (8 : Int32) = 6) (br_f (by decide +kernel : ¬ (8 : Int32) = 7) (br_t rfl (br_f (by decide +kernel : ¬ (8 : Int32) = 9) (br_f (by decide +kernel : ¬ (8 : Int32) = 10) (H)))))))))
theorem uw_yb9 (hst : st < 300) (hn : vp_in nxy 60) (hk : kd nxy.toNatClampNeg = 9) (H : post (dpt, opn, -1, 4, 0, cal, eng, thr, nI (st + 1), ots, dps, kd, tg, op, fs, sc, zs, sk, ar, ld, oN, oP, oW, oV, hd, upd tb nxy.toNatClampNeg (tb nxy.toNatClampNeg + 1), po)) : wpY_begin post (dpt, opn, nxy, way, wth, cal, eng, thr, nI st, ots, dps, kd, tg, op, fs, sc, zs, sk, ar, ld, oN, oP, oW, oV, hd, tb, po) := by
  have h80 : vp_in nxy 80 := uw_in hn (by omega)
  have h10 : ¬ (10 : Int32) < kd nxy.toNatClampNeg := by rw [hk]; decide +kernel
  refine br_f (uw_3e st hst) (nm_r (nI_1 st) ⟨hn, hn, nm_e ⟨h80, br_f h10 ⟨h80, h80, h80, ?_⟩⟩⟩)
  rw [hk]
  dsimp only [wpY_simply, wpY_endAs]
  exact br_f (by decide +kernel : ¬ (9 : Int32) = 1) (br_f (by decide +kernel : ¬ (9 : Int32) < 2) (br_t (by decide +kernel : (4 : Int32) < 9) (br_f (by decide +kernel : ¬ (9 : Int32) = 5) (br_f (by decide +kernel : ¬ (9 : Int32) = 6) (br_f (by decide +kernel : ¬ (9 : Int32) = 7) (br_f (by decide +kernel : ¬ (9 : Int32) = 8) (br_t rfl (br_f (by decide +kernel : ¬ (9 : Int32) = 10) (H)))))))))
end
end
section
/-! the kinds from 10 on, begun -/
variable {std mde pct stp opc mop lou lth rng nxt edg edn frm dpt opn nxy way wth cal eng thr sts ots dps : Int32} {kd tg op fs sc sz sk wa ld hd tb po fS fE fN zs ar oN oP oW oV : Nat → Int32}
def uw_to (s f : Int32) : Int32 := s / 20 * 20 + f
theorem uw_gx (s f : Int32) : (s - (s - s / 20 * 20)) + f = uw_to s f := by
  unfold uw_to
  generalize s / 20 * 20 = y
  grind
theorem uw_20 : ¬ (20 : Int32) = 0 := by decide +kernel
section
variable {post : SX → Prop} {st pc F : Nat}
theorem uw_xb10d (hst : st < 300) (hn : vp_in nxt 60) (hk : kd nxt.toNatClampNeg = 10) (h8 : ¬ opc < 8) (H : post (std, mde, pct, nI (st + 1), opc, mop, 3, lth, 0, nxt, edg, edn, frm, kd, tg, op, fs, sc, sz, sk, wa, ld, hd, upd tb nxt.toNatClampNeg (tb nxt.toNatClampNeg + 1), po, fS, fE, fN)) : wpX_beginStatement post (std, mde, pct, nI st, opc, mop, lou, lth, rng, nxt, edg, edn, frm, kd, tg, op, fs, sc, sz, sk, wa, ld, hd, tb, po, fS, fE, fN) nxt := by
  have h80 : vp_in nxt 80 := uw_in hn (by omega)
  have h10 : (10 : Int32) ≤ kd nxt.toNatClampNeg := by rw [hk]; decide +kernel
  refine br_t (uw_3n st hst) (nm_r (nI_1 st) ⟨hn, hn, nm_e ⟨h80, br_t h10 ⟨h80, br_t hk ?_⟩⟩⟩)
  exact br_f h8 H
theorem uw_xb10 (hst : st < 300) (hn : vp_in nxt 60) (hk : kd nxt.toNatClampNeg = 10) (h8 : opc < 8) (hF : F < 300) (ho : vp_in (op nxt.toNatClampNeg) 3) (H : post (std, mde, pct, nI (st + 1), opc + 1, if opc + 1 ≤ mop then mop else opc + 1, lou, lth, rng, (op nxt.toNatClampNeg) * 20 + sz (op nxt.toNatClampNeg).toNatClampNeg - 1, edg, edn, nI (F + 1), kd, tg, op, fs, sc, sz, sk, wa, ld, hd, upd tb nxt.toNatClampNeg (tb nxt.toNatClampNeg + 1), po, upd fS F nxt, upd fE F (-1), fN)) : wpX_beginStatement post (std, mde, pct, nI st, opc, mop, lou, lth, rng, nxt, edg, edn, nI F, kd, tg, op, fs, sc, sz, sk, wa, ld, hd, tb, po, fS, fE, fN) nxt := by
  have h80 : vp_in nxt 80 := uw_in hn (by omega)
  have h10 : (10 : Int32) ≤ kd nxt.toNatClampNeg := by rw [hk]; decide +kernel
  have iF : vp_in (nI F) 300 := vp_in_nI hF (by omega)
  have cF : (nI F).toNatClampNeg = F := nI_clamp (by omega)
  refine br_t (uw_3n st hst) (nm_r (nI_1 st) ⟨hn, hn, nm_e ⟨h80, br_t h10 ⟨h80, br_t hk (br_t h8 (nm_e ?_))⟩⟩⟩)
  dsimp only [wX_beginCall_44, wpX_waitFor, wpX_goToBody]
  rw [cF]
  by_cases hm : opc + 1 ≤ mop
  · rw [if_pos hm] at H
    exact br_t hm ⟨iF, nm_e ⟨iF, nm_e (nm_r (nI_1 F) ⟨h80, ho, nm_e H⟩)⟩⟩
  · rw [if_neg hm] at H
    exact br_f hm ⟨iF, nm_e ⟨iF, nm_e (nm_r (nI_1 F) ⟨h80, ho, nm_e H⟩)⟩⟩
theorem uw_xb11z (hst : st < 300) (hn : vp_in nxt 60) (hk : kd nxt.toNatClampNeg = 11) (ht : vp_in (tg nxt.toNatClampNeg) 4) (hz : hd (tg nxt.toNatClampNeg).toNatClampNeg = 0) (H : post (std, mde, pct, nI (st + 1), opc, mop, lou, lth, rng, -1, 0, 0, frm, kd, tg, op, fs, sc, sz, sk, wa, ld, hd, upd tb nxt.toNatClampNeg (tb nxt.toNatClampNeg + 1), po, fS, fE, fN)) : wpX_beginStatement post (std, mde, pct, nI st, opc, mop, lou, lth, rng, nxt, edg, edn, frm, kd, tg, op, fs, sc, sz, sk, wa, ld, hd, tb, po, fS, fE, fN) nxt := by
  have h80 : vp_in nxt 80 := uw_in hn (by omega)
  have h10 : (10 : Int32) ≤ kd nxt.toNatClampNeg := by rw [hk]; decide +kernel
  exact br_t (uw_3n st hst) (nm_r (nI_1 st) ⟨hn, hn, nm_e ⟨h80, br_t h10 ⟨h80, br_f (by rw [hk]; decide +kernel : ¬ kd nxt.toNatClampNeg = 10) ⟨h80, br_f (by rw [hk]; decide +kernel : ¬ kd nxt.toNatClampNeg = 13) ⟨h80, br_t hk ⟨h80, ht, br_t hz H⟩⟩⟩⟩⟩⟩)
theorem uw_xb11 (hst : st < 300) (hn : vp_in nxt 60) (hk : kd nxt.toNatClampNeg = 11) (ht : vp_in (tg nxt.toNatClampNeg) 4) (hz : ¬ hd (tg nxt.toNatClampNeg).toNatClampNeg = 0) (hF : F < 300) (H : post (std, mde, pct, nI (st + 1), opc, mop, lou, lth, rng, uw_to nxt (fs nxt.toNatClampNeg), edg, edn, nI (F + 1), kd, tg, op, fs, sc, sz, sk, wa, ld, hd, upd tb nxt.toNatClampNeg (tb nxt.toNatClampNeg + 1), po, upd fS F nxt, upd fE F (-1), fN)) : wpX_beginStatement post (std, mde, pct, nI st, opc, mop, lou, lth, rng, nxt, edg, edn, nI F, kd, tg, op, fs, sc, sz, sk, wa, ld, hd, tb, po, fS, fE, fN) nxt := by
  have h80 : vp_in nxt 80 := uw_in hn (by omega)
  have h10 : (10 : Int32) ≤ kd nxt.toNatClampNeg := by rw [hk]; decide +kernel
  have iF : vp_in (nI F) 300 := vp_in_nI hF (by omega)
  have cF : (nI F).toNatClampNeg = F := nI_clamp (by omega)
  refine br_t (uw_3n st hst) (nm_r (nI_1 st) ⟨hn, hn, nm_e ⟨h80, br_t h10 ⟨h80, br_f (by rw [hk]; decide +kernel : ¬ kd nxt.toNatClampNeg = 10) ⟨h80, br_f (by rw [hk]; decide +kernel : ¬ kd nxt.toNatClampNeg = 13) ⟨h80, br_t hk ⟨h80, ht, br_f hz ?_⟩⟩⟩⟩⟩⟩)
  dsimp only [wX_beginStatement_156, wpX_waitFor, wpX_goToPart]
  rw [cF]
  exact ⟨iF, nm_e ⟨iF, nm_e (nm_r (nI_1 F) ⟨h80, uw_20, nm_r (uw_gx _ _) H⟩)⟩⟩
theorem uw_xb12 (hst : st < 300) (hn : vp_in nxt 60) (hk : kd nxt.toNatClampNeg = 12) (hF : F < 300) (H : post (std, mde, pct, nI (st + 1), opc, mop, lou, lth, rng, uw_to nxt (fs nxt.toNatClampNeg), edg, edn, nI (F + 1), kd, tg, op, fs, sc, sz, sk, wa, ld, hd, upd tb nxt.toNatClampNeg (tb nxt.toNatClampNeg + 1), po, upd fS F nxt, upd fE F (-1), fN)) : wpX_beginStatement post (std, mde, pct, nI st, opc, mop, lou, lth, rng, nxt, edg, edn, nI F, kd, tg, op, fs, sc, sz, sk, wa, ld, hd, tb, po, fS, fE, fN) nxt := by
  have h80 : vp_in nxt 80 := uw_in hn (by omega)
  have h10 : (10 : Int32) ≤ kd nxt.toNatClampNeg := by rw [hk]; decide +kernel
  have iF : vp_in (nI F) 300 := vp_in_nI hF (by omega)
  have cF : (nI F).toNatClampNeg = F := nI_clamp (by omega)
  refine br_t (uw_3n st hst) (nm_r (nI_1 st) ⟨hn, hn, nm_e ⟨h80, br_t h10 ⟨h80, br_f (by rw [hk]; decide +kernel : ¬ kd nxt.toNatClampNeg = 10) ⟨h80, br_f (by rw [hk]; decide +kernel : ¬ kd nxt.toNatClampNeg = 13) ⟨h80, br_f (by rw [hk]; decide +kernel : ¬ kd nxt.toNatClampNeg = 11) ?_⟩⟩⟩⟩⟩)
  dsimp only [wX_beginStatement_156, wpX_waitFor, wpX_goToPart]
  rw [cF]
  exact ⟨iF, nm_e ⟨iF, nm_e (nm_r (nI_1 F) ⟨h80, uw_20, nm_r (uw_gx _ _) H⟩)⟩⟩
theorem uw_xb14 (hst : st < 300) (hn : vp_in nxt 60) (hk : kd nxt.toNatClampNeg = 14) (hF : F < 300) (H : post (std, mde, pct, nI (st + 1), opc, mop, lou, lth, rng, uw_to nxt (fs nxt.toNatClampNeg), edg, edn, nI (F + 1), kd, tg, op, fs, sc, sz, sk, wa, ld, hd, upd tb nxt.toNatClampNeg (tb nxt.toNatClampNeg + 1), po, upd fS F nxt, upd fE F (-1), fN)) : wpX_beginStatement post (std, mde, pct, nI st, opc, mop, lou, lth, rng, nxt, edg, edn, nI F, kd, tg, op, fs, sc, sz, sk, wa, ld, hd, tb, po, fS, fE, fN) nxt := by
  have h80 : vp_in nxt 80 := uw_in hn (by omega)
  have h10 : (10 : Int32) ≤ kd nxt.toNatClampNeg := by rw [hk]; decide +kernel
  have iF : vp_in (nI F) 300 := vp_in_nI hF (by omega)
  have cF : (nI F).toNatClampNeg = F := nI_clamp (by omega)
  refine br_t (uw_3n st hst) (nm_r (nI_1 st) ⟨hn, hn, nm_e ⟨h80, br_t h10 ⟨h80, br_f (by rw [hk]; decide +kernel : ¬ kd nxt.toNatClampNeg = 10) ⟨h80, br_f (by rw [hk]; decide +kernel : ¬ kd nxt.toNatClampNeg = 13) ⟨h80, br_f (by rw [hk]; decide +kernel : ¬ kd nxt.toNatClampNeg = 11) ?_⟩⟩⟩⟩⟩)
  dsimp only [wX_beginStatement_156, wpX_waitFor, wpX_goToPart]
  rw [cF]
  exact ⟨iF, nm_e ⟨iF, nm_e (nm_r (nI_1 F) ⟨h80, uw_20, nm_r (uw_gx _ _) H⟩)⟩⟩
theorem uw_xb15 (hst : st < 300) (hn : vp_in nxt 60) (hk : kd nxt.toNatClampNeg = 15) (hF : F < 300) (H : post (std, mde, pct, nI (st + 1), opc, mop, lou, lth, rng, uw_to nxt (fs nxt.toNatClampNeg), edg, edn, nI (F + 1), kd, tg, op, fs, sc, sz, sk, wa, ld, hd, upd tb nxt.toNatClampNeg (tb nxt.toNatClampNeg + 1), po, upd fS F nxt, upd fE F (-1), fN)) : wpX_beginStatement post (std, mde, pct, nI st, opc, mop, lou, lth, rng, nxt, edg, edn, nI F, kd, tg, op, fs, sc, sz, sk, wa, ld, hd, tb, po, fS, fE, fN) nxt := by
  have h80 : vp_in nxt 80 := uw_in hn (by omega)
  have h10 : (10 : Int32) ≤ kd nxt.toNatClampNeg := by rw [hk]; decide +kernel
  have iF : vp_in (nI F) 300 := vp_in_nI hF (by omega)
  have cF : (nI F).toNatClampNeg = F := nI_clamp (by omega)
  refine br_t (uw_3n st hst) (nm_r (nI_1 st) ⟨hn, hn, nm_e ⟨h80, br_t h10 ⟨h80, br_f (by rw [hk]; decide +kernel : ¬ kd nxt.toNatClampNeg = 10) ⟨h80, br_f (by rw [hk]; decide +kernel : ¬ kd nxt.toNatClampNeg = 13) ⟨h80, br_f (by rw [hk]; decide +kernel : ¬ kd nxt.toNatClampNeg = 11) ?_⟩⟩⟩⟩⟩)
  dsimp only [wX_beginStatement_156, wpX_waitFor, wpX_goToPart]
  rw [cF]
  exact ⟨iF, nm_e ⟨iF, nm_e (nm_r (nI_1 F) ⟨h80, uw_20, nm_r (uw_gx _ _) H⟩)⟩⟩
theorem uw_xb13z (hst : st < 300) (hn : vp_in nxt 60) (hk : kd nxt.toNatClampNeg = 13) (ht : vp_in (tg nxt.toNatClampNeg) 4) (hz : hd (tg nxt.toNatClampNeg).toNatClampNeg = 0) (H : post (std, mde, pct, nI (st + 1), opc, mop, lou, lth, rng, uw_to nxt (sc nxt.toNatClampNeg), edg, edn, frm, kd, tg, op, fs, sc, sz, sk, wa, ld, hd, upd tb nxt.toNatClampNeg (tb nxt.toNatClampNeg + 1), po, fS, fE, fN)) : wpX_beginStatement post (std, mde, pct, nI st, opc, mop, lou, lth, rng, nxt, edg, edn, frm, kd, tg, op, fs, sc, sz, sk, wa, ld, hd, tb, po, fS, fE, fN) nxt := by
  have h80 : vp_in nxt 80 := uw_in hn (by omega)
  have h10 : (10 : Int32) ≤ kd nxt.toNatClampNeg := by rw [hk]; decide +kernel
  refine br_t (uw_3n st hst) (nm_r (nI_1 st) ⟨hn, hn, nm_e ⟨h80, br_t h10 ⟨h80, br_f (by rw [hk]; decide +kernel : ¬ kd nxt.toNatClampNeg = 10) ⟨h80, br_t hk ⟨h80, ht, br_t hz ⟨h80, ?_⟩⟩⟩⟩⟩⟩)
  dsimp only [wX_beginStatement_116, wpX_goToPart]
  exact ⟨uw_20, nm_r (uw_gx _ _) H⟩
theorem uw_xb13 (hst : st < 300) (hn : vp_in nxt 60) (hk : kd nxt.toNatClampNeg = 13) (ht : vp_in (tg nxt.toNatClampNeg) 4) (hz : ¬ hd (tg nxt.toNatClampNeg).toNatClampNeg = 0) (H : post (std, mde, pct, nI (st + 1), opc, mop, lou, lth, rng, uw_to nxt (fs nxt.toNatClampNeg), edg, edn, frm, kd, tg, op, fs, sc, sz, sk, wa, ld, hd, upd tb nxt.toNatClampNeg (tb nxt.toNatClampNeg + 1), po, fS, fE, fN)) : wpX_beginStatement post (std, mde, pct, nI st, opc, mop, lou, lth, rng, nxt, edg, edn, frm, kd, tg, op, fs, sc, sz, sk, wa, ld, hd, tb, po, fS, fE, fN) nxt := by
  have h80 : vp_in nxt 80 := uw_in hn (by omega)
  have h10 : (10 : Int32) ≤ kd nxt.toNatClampNeg := by rw [hk]; decide +kernel
  refine br_t (uw_3n st hst) (nm_r (nI_1 st) ⟨hn, hn, nm_e ⟨h80, br_t h10 ⟨h80, br_f (by rw [hk]; decide +kernel : ¬ kd nxt.toNatClampNeg = 10) ⟨h80, br_t hk ⟨h80, ht, br_f hz ⟨h80, ?_⟩⟩⟩⟩⟩⟩)
  dsimp only [wX_beginStatement_116, wpX_goToPart]
  exact ⟨uw_20, nm_r (uw_gx _ _) H⟩
theorem uw_xtired (H : post (std, mde, pct, nI 300, opc, mop, 2, lth, 0, nxt, edg, edn, frm, kd, tg, op, fs, sc, sz, sk, wa, ld, hd, tb, po, fS, fE, fN)) : wpX_beginStatement post (std, mde, pct, nI 300, opc, mop, lou, lth, rng, nxt, edg, edn, frm, kd, tg, op, fs, sc, sz, sk, wa, ld, hd, tb, po, fS, fE, fN) nxt :=
  br_f (by decide +kernel : ¬ nI 300 < 300) H
end
section
variable {post : SY → Prop} {st pc F : Nat}
theorem uw_yb10d (hst : st < 300) (hn : vp_in nxy 60) (hk : kd nxy.toNatClampNeg = 10) (h8 : cal = 8) (H : post (dpt, opn, -1, 0, 0, cal, 3, thr, nI (st + 1), ots, dps, kd, tg, op, fs, sc, zs, sk, ar, ld, oN, oP, oW, oV, hd, upd tb nxy.toNatClampNeg (tb nxy.toNatClampNeg + 1), po)) : wpY_begin post (dpt, opn, nxy, way, wth, cal, eng, thr, nI st, ots, dps, kd, tg, op, fs, sc, zs, sk, ar, ld, oN, oP, oW, oV, hd, tb, po) := by
  have h80 : vp_in nxy 80 := uw_in hn (by omega)
  have h10 : ¬ (10 : Int32) < kd nxy.toNatClampNeg := by rw [hk]; decide +kernel
  refine br_f (uw_3e st hst) (nm_r (nI_1 st) ⟨hn, hn, nm_e ⟨h80, br_f h10 ⟨h80, h80, h80, ?_⟩⟩⟩)
  rw [hk]
  dsimp only [wpY_simply, wpY_endAs]
  refine br_f (by decide +kernel : ¬ (10 : Int32) = 1) (br_f (by decide +kernel : ¬ (10 : Int32) < 2) (br_t (by decide +kernel : (4 : Int32) < 10) (br_f (by decide +kernel : ¬ (10 : Int32) = 5) (br_f (by decide +kernel : ¬ (10 : Int32) = 6) (br_f (by decide +kernel : ¬ (10 : Int32) = 7) (br_f (by decide +kernel : ¬ (10 : Int32) = 8) (br_f (by decide +kernel : ¬ (10 : Int32) = 9) (br_t rfl ?_))))))))
  exact br_t h8 H
theorem uw_yb10 (hst : st < 300) (hn : vp_in nxy 60) (hk : kd nxy.toNatClampNeg = 10) (h8 : ¬ cal = 8) (hF : F < 300) (ho : vp_in (op nxy.toNatClampNeg) 3) (H : post (dpt, nI (F + 1), 20 * (op nxy.toNatClampNeg) + zs (op nxy.toNatClampNeg).toNatClampNeg - 1, 0, 0, cal + 1, eng, thr, nI (st + 1), ots, if cal + 1 ≤ dps then dps else cal + 1, kd, tg, op, fs, sc, zs, sk, ar, ld, upd oN F nxy, upd oP F 1, upd oW F 0, upd oV F 0, hd, upd tb nxy.toNatClampNeg (tb nxy.toNatClampNeg + 1), po)) : wpY_begin post (dpt, nI F, nxy, way, wth, cal, eng, thr, nI st, ots, dps, kd, tg, op, fs, sc, zs, sk, ar, ld, oN, oP, oW, oV, hd, tb, po) := by
  have h80 : vp_in nxy 80 := uw_in hn (by omega)
  have iF : vp_in (nI F) 320 := vp_in_nI (by omega) (by omega)
  have cF : (nI F).toNatClampNeg = F := nI_clamp (by omega)
  have h10 : ¬ (10 : Int32) < kd nxy.toNatClampNeg := by rw [hk]; decide +kernel
  refine br_f (uw_3e st hst) (nm_r (nI_1 st) ⟨hn, hn, nm_e ⟨h80, br_f h10 ⟨h80, h80, h80, ?_⟩⟩⟩)
  rw [hk]
  dsimp only [wpY_simply, wpY_endAs]
  refine br_f (by decide +kernel : ¬ (10 : Int32) = 1) (br_f (by decide +kernel : ¬ (10 : Int32) < 2) (br_t (by decide +kernel : (4 : Int32) < 10) (br_f (by decide +kernel : ¬ (10 : Int32) = 5) (br_f (by decide +kernel : ¬ (10 : Int32) = 6) (br_f (by decide +kernel : ¬ (10 : Int32) = 7) (br_f (by decide +kernel : ¬ (10 : Int32) = 8) (br_f (by decide +kernel : ¬ (10 : Int32) = 9) (br_t rfl ?_))))))))
  dsimp only [wpY_enter, wY_enter_44, wpY_push]
  rw [cF]
  refine br_f h8 (nm_e ?_)
  by_cases hm : cal + 1 ≤ dps
  · rw [if_pos hm] at H
    exact br_t hm ⟨iF, nm_e ⟨iF, nm_e ⟨iF, nm_e ⟨iF, nm_e (nm_r (nI_1 F) ⟨h80, nm_e ⟨uw_in ho (by omega), nm_e H⟩⟩)⟩⟩⟩⟩
  · rw [if_neg hm] at H
    exact br_f hm ⟨iF, nm_e ⟨iF, nm_e ⟨iF, nm_e ⟨iF, nm_e (nm_r (nI_1 F) ⟨h80, nm_e ⟨uw_in ho (by omega), nm_e H⟩⟩)⟩⟩⟩⟩
theorem uw_yb11z (hst : st < 300) (hn : vp_in nxy 60) (hk : kd nxy.toNatClampNeg = 11) (ht : vp_in (tg nxy.toNatClampNeg) 4) (hz : hd (tg nxy.toNatClampNeg).toNatClampNeg = 0) (H : post (dpt, opn, -1, 0, 0, cal, eng, thr, nI (st + 1), ots, dps, kd, tg, op, fs, sc, zs, sk, ar, ld, oN, oP, oW, oV, hd, upd tb nxy.toNatClampNeg (tb nxy.toNatClampNeg + 1), po)) : wpY_begin post (dpt, opn, nxy, way, wth, cal, eng, thr, nI st, ots, dps, kd, tg, op, fs, sc, zs, sk, ar, ld, oN, oP, oW, oV, hd, tb, po) := by
  have h80 : vp_in nxy 80 := uw_in hn (by omega)
  have h10 : (10 : Int32) < kd nxy.toNatClampNeg := by rw [hk]; decide +kernel
  refine br_f (uw_3e st hst) (nm_r (nI_1 st) ⟨hn, hn, nm_e ⟨h80, br_t h10 ⟨h80, br_t hk ?_⟩⟩⟩)
  dsimp only [wpY_look, wpY_endAs]
  exact ⟨h80, ht, br_t hz H⟩
theorem uw_yb11 (hst : st < 300) (hn : vp_in nxy 60) (hk : kd nxy.toNatClampNeg = 11) (ht : vp_in (tg nxy.toNatClampNeg) 4) (hz : ¬ hd (tg nxy.toNatClampNeg).toNatClampNeg = 0) (hF : F < 300) (H : post (dpt, nI (F + 1), uw_to nxy (fs nxy.toNatClampNeg), 0, 0, cal, eng, thr, nI (st + 1), ots, dps, kd, tg, op, fs, sc, zs, sk, ar, ld, upd oN F nxy, upd oP F 1, upd oW F 0, upd oV F 0, hd, upd tb nxy.toNatClampNeg (tb nxy.toNatClampNeg + 1), po)) : wpY_begin post (dpt, nI F, nxy, way, wth, cal, eng, thr, nI st, ots, dps, kd, tg, op, fs, sc, zs, sk, ar, ld, oN, oP, oW, oV, hd, tb, po) := by
  have h80 : vp_in nxy 80 := uw_in hn (by omega)
  have iF : vp_in (nI F) 320 := vp_in_nI (by omega) (by omega)
  have cF : (nI F).toNatClampNeg = F := nI_clamp (by omega)
  have h10 : (10 : Int32) < kd nxy.toNatClampNeg := by rw [hk]; decide +kernel
  refine br_f (uw_3e st hst) (nm_r (nI_1 st) ⟨hn, hn, nm_e ⟨h80, br_t h10 ⟨h80, br_t hk ?_⟩⟩⟩)
  dsimp only [wpY_look, wpY_endAs, wpY_push, wpY_go]
  rw [cF]
  exact ⟨h80, ht, br_f hz ⟨iF, nm_e ⟨iF, nm_e ⟨iF, nm_e ⟨iF, nm_e (nm_r (nI_1 F) ⟨h80, uw_20, nm_e H⟩)⟩⟩⟩⟩⟩
theorem uw_yb12 (hst : st < 300) (hn : vp_in nxy 60) (hk : kd nxy.toNatClampNeg = 12) (hF : F < 300) (H : post (dpt, nI (F + 1), uw_to nxy (fs nxy.toNatClampNeg), way, wth, cal, eng, thr, nI (st + 1), ots, dps, kd, tg, op, fs, sc, zs, sk, ar, ld, upd oN F nxy, upd oP F 1, upd oW F way, upd oV F wth, hd, upd tb nxy.toNatClampNeg (tb nxy.toNatClampNeg + 1), po)) : wpY_begin post (dpt, nI F, nxy, way, wth, cal, eng, thr, nI st, ots, dps, kd, tg, op, fs, sc, zs, sk, ar, ld, oN, oP, oW, oV, hd, tb, po) := by
  have h80 : vp_in nxy 80 := uw_in hn (by omega)
  have iF : vp_in (nI F) 320 := vp_in_nI (by omega) (by omega)
  have cF : (nI F).toNatClampNeg = F := nI_clamp (by omega)
  have h10 : (10 : Int32) < kd nxy.toNatClampNeg := by rw [hk]; decide +kernel
  refine br_f (uw_3e st hst) (nm_r (nI_1 st) ⟨hn, hn, nm_e ⟨h80, br_t h10 ⟨h80, br_f (by rw [hk]; decide +kernel : ¬ kd nxy.toNatClampNeg = 11) ⟨h80, br_f (by rw [hk]; decide +kernel : ¬ kd nxy.toNatClampNeg = 13) ?_⟩⟩⟩⟩)
  dsimp only [wpY_push, wpY_go]
  rw [cF]
  exact ⟨iF, nm_e ⟨iF, nm_e ⟨iF, nm_e ⟨iF, nm_e (nm_r (nI_1 F) ⟨h80, uw_20, nm_e H⟩)⟩⟩⟩⟩
theorem uw_yb14 (hst : st < 300) (hn : vp_in nxy 60) (hk : kd nxy.toNatClampNeg = 14) (hF : F < 300) (H : post (dpt, nI (F + 1), uw_to nxy (fs nxy.toNatClampNeg), way, wth, cal, eng, thr, nI (st + 1), ots, dps, kd, tg, op, fs, sc, zs, sk, ar, ld, upd oN F nxy, upd oP F 1, upd oW F way, upd oV F wth, hd, upd tb nxy.toNatClampNeg (tb nxy.toNatClampNeg + 1), po)) : wpY_begin post (dpt, nI F, nxy, way, wth, cal, eng, thr, nI st, ots, dps, kd, tg, op, fs, sc, zs, sk, ar, ld, oN, oP, oW, oV, hd, tb, po) := by
  have h80 : vp_in nxy 80 := uw_in hn (by omega)
  have iF : vp_in (nI F) 320 := vp_in_nI (by omega) (by omega)
  have cF : (nI F).toNatClampNeg = F := nI_clamp (by omega)
  have h10 : (10 : Int32) < kd nxy.toNatClampNeg := by rw [hk]; decide +kernel
  refine br_f (uw_3e st hst) (nm_r (nI_1 st) ⟨hn, hn, nm_e ⟨h80, br_t h10 ⟨h80, br_f (by rw [hk]; decide +kernel : ¬ kd nxy.toNatClampNeg = 11) ⟨h80, br_f (by rw [hk]; decide +kernel : ¬ kd nxy.toNatClampNeg = 13) ?_⟩⟩⟩⟩)
  dsimp only [wpY_push, wpY_go]
  rw [cF]
  exact ⟨iF, nm_e ⟨iF, nm_e ⟨iF, nm_e ⟨iF, nm_e (nm_r (nI_1 F) ⟨h80, uw_20, nm_e H⟩)⟩⟩⟩⟩
theorem uw_yb15 (hst : st < 300) (hn : vp_in nxy 60) (hk : kd nxy.toNatClampNeg = 15) (hF : F < 300) (H : post (dpt, nI (F + 1), uw_to nxy (fs nxy.toNatClampNeg), way, wth, cal, eng, thr, nI (st + 1), ots, dps, kd, tg, op, fs, sc, zs, sk, ar, ld, upd oN F nxy, upd oP F 1, upd oW F way, upd oV F wth, hd, upd tb nxy.toNatClampNeg (tb nxy.toNatClampNeg + 1), po)) : wpY_begin post (dpt, nI F, nxy, way, wth, cal, eng, thr, nI st, ots, dps, kd, tg, op, fs, sc, zs, sk, ar, ld, oN, oP, oW, oV, hd, tb, po) := by
  have h80 : vp_in nxy 80 := uw_in hn (by omega)
  have iF : vp_in (nI F) 320 := vp_in_nI (by omega) (by omega)
  have cF : (nI F).toNatClampNeg = F := nI_clamp (by omega)
  have h10 : (10 : Int32) < kd nxy.toNatClampNeg := by rw [hk]; decide +kernel
  refine br_f (uw_3e st hst) (nm_r (nI_1 st) ⟨hn, hn, nm_e ⟨h80, br_t h10 ⟨h80, br_f (by rw [hk]; decide +kernel : ¬ kd nxy.toNatClampNeg = 11) ⟨h80, br_f (by rw [hk]; decide +kernel : ¬ kd nxy.toNatClampNeg = 13) ?_⟩⟩⟩⟩)
  dsimp only [wpY_push, wpY_go]
  rw [cF]
  exact ⟨iF, nm_e ⟨iF, nm_e ⟨iF, nm_e ⟨iF, nm_e (nm_r (nI_1 F) ⟨h80, uw_20, nm_e H⟩)⟩⟩⟩⟩
theorem uw_yb13z (hst : st < 300) (hn : vp_in nxy 60) (hk : kd nxy.toNatClampNeg = 13) (ht : vp_in (tg nxy.toNatClampNeg) 4) (hz : hd (tg nxy.toNatClampNeg).toNatClampNeg = 0) (H : post (dpt, opn, uw_to nxy (sc nxy.toNatClampNeg), way, wth, cal, eng, thr, nI (st + 1), ots, dps, kd, tg, op, fs, sc, zs, sk, ar, ld, oN, oP, oW, oV, hd, upd tb nxy.toNatClampNeg (tb nxy.toNatClampNeg + 1), po)) : wpY_begin post (dpt, opn, nxy, way, wth, cal, eng, thr, nI st, ots, dps, kd, tg, op, fs, sc, zs, sk, ar, ld, oN, oP, oW, oV, hd, tb, po) := by
  have h80 : vp_in nxy 80 := uw_in hn (by omega)
  have h10 : (10 : Int32) < kd nxy.toNatClampNeg := by rw [hk]; decide +kernel
  refine br_f (uw_3e st hst) (nm_r (nI_1 st) ⟨hn, hn, nm_e ⟨h80, br_t h10 ⟨h80, br_f (by rw [hk]; decide +kernel : ¬ kd nxy.toNatClampNeg = 11) ⟨h80, br_t hk ⟨h80, ht, br_t hz ⟨h80, ?_⟩⟩⟩⟩⟩⟩)
  dsimp only [wY_begin_144, wpY_go]
  exact ⟨uw_20, nm_e H⟩
theorem uw_yb13 (hst : st < 300) (hn : vp_in nxy 60) (hk : kd nxy.toNatClampNeg = 13) (ht : vp_in (tg nxy.toNatClampNeg) 4) (hz : ¬ hd (tg nxy.toNatClampNeg).toNatClampNeg = 0) (H : post (dpt, opn, uw_to nxy (fs nxy.toNatClampNeg), way, wth, cal, eng, thr, nI (st + 1), ots, dps, kd, tg, op, fs, sc, zs, sk, ar, ld, oN, oP, oW, oV, hd, upd tb nxy.toNatClampNeg (tb nxy.toNatClampNeg + 1), po)) : wpY_begin post (dpt, opn, nxy, way, wth, cal, eng, thr, nI st, ots, dps, kd, tg, op, fs, sc, zs, sk, ar, ld, oN, oP, oW, oV, hd, tb, po) := by
  have h80 : vp_in nxy 80 := uw_in hn (by omega)
  have h10 : (10 : Int32) < kd nxy.toNatClampNeg := by rw [hk]; decide +kernel
  refine br_f (uw_3e st hst) (nm_r (nI_1 st) ⟨hn, hn, nm_e ⟨h80, br_t h10 ⟨h80, br_f (by rw [hk]; decide +kernel : ¬ kd nxy.toNatClampNeg = 11) ⟨h80, br_t hk ⟨h80, ht, br_f hz ⟨h80, ?_⟩⟩⟩⟩⟩⟩)
  dsimp only [wY_begin_144, wpY_go]
  exact ⟨uw_20, nm_e H⟩
theorem uw_ytired (H : post (dpt, opn, -1, way, wth, cal, 2, thr, nI 300, ots, dps, kd, tg, op, fs, sc, zs, sk, ar, ld, oN, oP, oW, oV, hd, tb, po)) : wpY_begin post (dpt, opn, nxy, way, wth, cal, eng, thr, nI 300, ots, dps, kd, tg, op, fs, sc, zs, sk, ar, ld, oN, oP, oW, oV, hd, tb, po) :=
  br_t rfl H
end
end
section
/-! what a turn does that passes an ending on: a lemma a kind and a side -/
variable {std mde pct stp opc mop lou lth rng nxt edg edn frm dpt opn nxy way wth cal eng thr sts ots dps : Int32} {kd tg op fs sc sz sk wa ld hd tb po fS fE fN zs ar oN oP oW oV : Nat → Int32}
section
variable {post : SX → Prop} {G : Nat}
theorem uw_xend1 (H : post (std, mde, pct, stp, opc, mop, 1, edn, 0, nxt, 1, edn, nI 0, kd, tg, op, fs, sc, sz, sk, wa, ld, hd, tb, po, fS, fE, fN)) : wpX_passEndingOn post (std, mde, pct, stp, opc, mop, lou, lth, rng, nxt, 1, edn, nI 0, kd, tg, op, fs, sc, sz, sk, wa, ld, hd, tb, po, fS, fE, fN) := by
  refine br_t rfl ?_
  exact br_t rfl H
theorem uw_xend0 (h : ¬ edg = 1) (H : post (std, mde, pct, stp, opc, mop, 0, lth, 0, nxt, edg, edn, nI 0, kd, tg, op, fs, sc, sz, sk, wa, ld, hd, tb, po, fS, fE, fN)) : wpX_passEndingOn post (std, mde, pct, stp, opc, mop, lou, lth, rng, nxt, edg, edn, nI 0, kd, tg, op, fs, sc, sz, sk, wa, ld, hd, tb, po, fS, fE, fN) := by
  refine br_t rfl ?_
  exact br_f h H
theorem uw_xp10t (hG : G < 300) (h80 : vp_in (fS G) 80) (hk : kd (fS G).toNatClampNeg = 10)  (H : post (std, mde, pct, stp, opc - 1, mop, lou, lth, rng, nxt, 1, edn, nI G, kd, tg, op, fs, sc, sz, sk, wa, ld, hd, tb, po, fS, fE, fN)) : wpX_passEndingOn post (std, mde, pct, stp, opc, mop, lou, lth, rng, nxt, 1, edn, nI (G + 1), kd, tg, op, fs, sc, sz, sk, wa, ld, hd, tb, po, fS, fE, fN) := by
  have e0 : ¬ nI (G + 1) = 0 := nI_ne0 (by omega) (by omega)
  have e1 : nI (G + 1) - 1 = nI G := nI_pred G
  have iG : vp_in (nI G) 300 := vp_in_nI hG (by omega)
  have cG : (nI G).toNatClampNeg = G := nI_clamp (by omega)
  unfold wpX_passEndingOn
  dsimp only
  rw [e1, cG]
  refine br_f e0 ⟨iG, nm_e ⟨h80, nm_r hk (br_f (by decide +kernel : ¬ (10 : Int32) < 10) (br_f (by decide +kernel : ¬ (14 : Int32) < 10) (br_t rfl ?_)))⟩⟩
  dsimp only [wpX_endCall]
  exact nm_r e1 (nm_e (br_t rfl H))
theorem uw_xp10 (hG : G < 300) (h80 : vp_in (fS G) 80) (hk : kd (fS G).toNatClampNeg = 10) (h1 : ¬ edg = 1) (H : post (std, mde, pct, stp, opc - 1, mop, lou, lth, rng, -1, 0, 0, nI G, kd, tg, op, fs, sc, sz, sk, wa, ld, hd, tb, po, fS, fE, fN)) : wpX_passEndingOn post (std, mde, pct, stp, opc, mop, lou, lth, rng, nxt, edg, edn, nI (G + 1), kd, tg, op, fs, sc, sz, sk, wa, ld, hd, tb, po, fS, fE, fN) := by
  have e0 : ¬ nI (G + 1) = 0 := nI_ne0 (by omega) (by omega)
  have e1 : nI (G + 1) - 1 = nI G := nI_pred G
  have iG : vp_in (nI G) 300 := vp_in_nI hG (by omega)
  have cG : (nI G).toNatClampNeg = G := nI_clamp (by omega)
  unfold wpX_passEndingOn
  dsimp only
  rw [e1, cG]
  refine br_f e0 ⟨iG, nm_e ⟨h80, nm_r hk (br_f (by decide +kernel : ¬ (10 : Int32) < 10) (br_f (by decide +kernel : ¬ (14 : Int32) < 10) (br_t rfl ?_)))⟩⟩
  dsimp only [wpX_endCall, wpX_endStatement]
  exact nm_r e1 (nm_e (br_f h1 H))
theorem uw_xp12n (hG : G < 300) (h80 : vp_in (fS G) 80) (hk : kd (fS G).toNatClampNeg = 12)  (H : post (std, mde, pct, stp, opc, mop, lou, lth, rng, uw_to (fS G) (sc (fS G).toNatClampNeg), 0, edn, nI G, kd, tg, op, fs, sc, sz, sk, wa, ld, hd, tb, po, fS, fE, fN)) : wpX_passEndingOn post (std, mde, pct, stp, opc, mop, lou, lth, rng, nxt, 0, edn, nI (G + 1), kd, tg, op, fs, sc, sz, sk, wa, ld, hd, tb, po, fS, fE, fN) := by
  have e0 : ¬ nI (G + 1) = 0 := nI_ne0 (by omega) (by omega)
  have e1 : nI (G + 1) - 1 = nI G := nI_pred G
  have iG : vp_in (nI G) 300 := vp_in_nI hG (by omega)
  have cG : (nI G).toNatClampNeg = G := nI_clamp (by omega)
  unfold wpX_passEndingOn
  dsimp only
  rw [e1, cG]
  refine br_f e0 ⟨iG, nm_e ⟨h80, nm_r hk (br_f (by decide +kernel : ¬ (12 : Int32) < 10) (br_f (by decide +kernel : ¬ (14 : Int32) < 12) (br_f (by decide +kernel : ¬ (12 : Int32) = 10) (br_f (by decide +kernel : ¬ (12 : Int32) = 11) (br_t rfl ?_)))))⟩⟩
  dsimp only [wpX_endFirstOfSeq, wpX_goToPart]
  exact nm_r e1 (br_t rfl ⟨h80, uw_20, nm_r (uw_gx _ _) H⟩)
theorem uw_xp12 (hG : G < 300) (h80 : vp_in (fS G) 80) (hk : kd (fS G).toNatClampNeg = 12) (h0 : ¬ edg = 0) (H : post (std, mde, pct, stp, opc, mop, lou, lth, rng, nxt, edg, edn, nI G, kd, tg, op, fs, sc, sz, sk, wa, ld, hd, tb, po, fS, fE, fN)) : wpX_passEndingOn post (std, mde, pct, stp, opc, mop, lou, lth, rng, nxt, edg, edn, nI (G + 1), kd, tg, op, fs, sc, sz, sk, wa, ld, hd, tb, po, fS, fE, fN) := by
  have e0 : ¬ nI (G + 1) = 0 := nI_ne0 (by omega) (by omega)
  have e1 : nI (G + 1) - 1 = nI G := nI_pred G
  have iG : vp_in (nI G) 300 := vp_in_nI hG (by omega)
  have cG : (nI G).toNatClampNeg = G := nI_clamp (by omega)
  unfold wpX_passEndingOn
  dsimp only
  rw [e1, cG]
  refine br_f e0 ⟨iG, nm_e ⟨h80, nm_r hk (br_f (by decide +kernel : ¬ (12 : Int32) < 10) (br_f (by decide +kernel : ¬ (14 : Int32) < 12) (br_f (by decide +kernel : ¬ (12 : Int32) = 10) (br_f (by decide +kernel : ¬ (12 : Int32) = 11) (br_t rfl ?_)))))⟩⟩
  dsimp only [wpX_endFirstOfSeq, wpX_goToPart]
  exact nm_r e1 (br_f h0 H)
theorem uw_xp14t (hG : G < 300) (h80 : vp_in (fS G) 80) (hk : kd (fS G).toNatClampNeg = 14) (ht : vp_in (tg (fS G).toNatClampNeg) 4) (H : post (std, mde, pct, stp, opc, mop, lou, lth, rng, uw_to (fS G) (sc (fS G).toNatClampNeg), 1, edn, nI G, kd, tg, op, fs, sc, sz, sk, wa, ld, upd hd (tg (fS G).toNatClampNeg).toNatClampNeg edn, tb, po, fS, fE, fN)) : wpX_passEndingOn post (std, mde, pct, stp, opc, mop, lou, lth, rng, nxt, 1, edn, nI (G + 1), kd, tg, op, fs, sc, sz, sk, wa, ld, hd, tb, po, fS, fE, fN) := by
  have e0 : ¬ nI (G + 1) = 0 := nI_ne0 (by omega) (by omega)
  have e1 : nI (G + 1) - 1 = nI G := nI_pred G
  have iG : vp_in (nI G) 300 := vp_in_nI hG (by omega)
  have cG : (nI G).toNatClampNeg = G := nI_clamp (by omega)
  unfold wpX_passEndingOn
  dsimp only
  rw [e1, cG]
  refine br_f e0 ⟨iG, nm_e ⟨h80, nm_r hk (br_f (by decide +kernel : ¬ (14 : Int32) < 10) (br_f (by decide +kernel : ¬ (14 : Int32) < 14) (br_f (by decide +kernel : ¬ (14 : Int32) = 10) (br_f (by decide +kernel : ¬ (14 : Int32) = 11) (br_f (by decide +kernel : ¬ (14 : Int32) = 12) (br_f (by decide +kernel : ¬ (14 : Int32) = 13) (br_t rfl ?_)))))))⟩⟩
  dsimp only [wpX_endGuarded, wpX_goToPart]
  exact nm_r e1 (br_t rfl ⟨h80, ht, nm_e ⟨h80, uw_20, nm_r (uw_gx _ _) H⟩⟩)
theorem uw_xp14 (hG : G < 300) (h80 : vp_in (fS G) 80) (hk : kd (fS G).toNatClampNeg = 14) (h1 : ¬ edg = 1) (H : post (std, mde, pct, stp, opc, mop, lou, lth, rng, nxt, edg, edn, nI G, kd, tg, op, fs, sc, sz, sk, wa, ld, hd, tb, po, fS, fE, fN)) : wpX_passEndingOn post (std, mde, pct, stp, opc, mop, lou, lth, rng, nxt, edg, edn, nI (G + 1), kd, tg, op, fs, sc, sz, sk, wa, ld, hd, tb, po, fS, fE, fN) := by
  have e0 : ¬ nI (G + 1) = 0 := nI_ne0 (by omega) (by omega)
  have e1 : nI (G + 1) - 1 = nI G := nI_pred G
  have iG : vp_in (nI G) 300 := vp_in_nI hG (by omega)
  have cG : (nI G).toNatClampNeg = G := nI_clamp (by omega)
  unfold wpX_passEndingOn
  dsimp only
  rw [e1, cG]
  refine br_f e0 ⟨iG, nm_e ⟨h80, nm_r hk (br_f (by decide +kernel : ¬ (14 : Int32) < 10) (br_f (by decide +kernel : ¬ (14 : Int32) < 14) (br_f (by decide +kernel : ¬ (14 : Int32) = 10) (br_f (by decide +kernel : ¬ (14 : Int32) = 11) (br_f (by decide +kernel : ¬ (14 : Int32) = 12) (br_f (by decide +kernel : ¬ (14 : Int32) = 13) (br_t rfl ?_)))))))⟩⟩
  dsimp only [wpX_endGuarded, wpX_goToPart]
  exact nm_r e1 (br_f h1 H)
theorem uw_xp11_0z (hG : G < 300) (h80 : vp_in (fS G) 80) (hk : kd (fS G).toNatClampNeg = 11) (ht : vp_in (tg (fS G).toNatClampNeg) 4) (hz : hd (tg (fS G).toNatClampNeg).toNatClampNeg = 0) (H : post (std, mde, pct, stp, opc, mop, lou, lth, rng, -1, 0, 0, nI G, kd, tg, op, fs, sc, sz, sk, wa, ld, hd, tb, po, fS, fE, fN)) : wpX_passEndingOn post (std, mde, pct, stp, opc, mop, lou, lth, rng, nxt, 0, edn, nI (G + 1), kd, tg, op, fs, sc, sz, sk, wa, ld, hd, tb, po, fS, fE, fN) := by
  have e0 : ¬ nI (G + 1) = 0 := nI_ne0 (by omega) (by omega)
  have e1 : nI (G + 1) - 1 = nI G := nI_pred G
  have iG : vp_in (nI G) 300 := vp_in_nI hG (by omega)
  have cG : (nI G).toNatClampNeg = G := nI_clamp (by omega)
  unfold wpX_passEndingOn
  dsimp only
  rw [e1, cG]
  refine br_f e0 ⟨iG, nm_e ⟨h80, nm_r hk (br_f (by decide +kernel : ¬ (11 : Int32) < 10) (br_f (by decide +kernel : ¬ (14 : Int32) < 11) (br_f (by decide +kernel : ¬ (11 : Int32) = 10) (br_t rfl ?_))))⟩⟩
  dsimp only [wpX_endRound, wX_endRound_16, wX_endRound_21, wX_endRound_44, wX_endRound_48, wX_endRound_49, wX_endRound_80, wX_endRound_105, wX_endRound_114, wpX_endStatement, wpX_goToPart]
  exact br_f (by decide +kernel : ¬ (0 : Int32) = 2) (br_f (by decide +kernel : ¬ (0 : Int32) = 3) (br_t rfl (br_f uw_10 ⟨h80, ht, br_t hz (nm_r e1 (br_f uw_10 H))⟩)))
theorem uw_xp11_30z (hG : G < 300) (h80 : vp_in (fS G) 80) (hk : kd (fS G).toNatClampNeg = 11) (ht : vp_in (tg (fS G).toNatClampNeg) 4) (hz : hd (tg (fS G).toNatClampNeg).toNatClampNeg = 0) (H : post (std, mde, pct, stp, opc, mop, lou, lth, rng, -1, 0, 0, nI G, kd, tg, op, fs, sc, sz, sk, wa, ld, hd, tb, po, fS, fE, fN)) : wpX_passEndingOn post (std, mde, pct, stp, opc, mop, lou, lth, rng, nxt, 3, 0, nI (G + 1), kd, tg, op, fs, sc, sz, sk, wa, ld, hd, tb, po, fS, fE, fN) := by
  have e0 : ¬ nI (G + 1) = 0 := nI_ne0 (by omega) (by omega)
  have e1 : nI (G + 1) - 1 = nI G := nI_pred G
  have iG : vp_in (nI G) 300 := vp_in_nI hG (by omega)
  have cG : (nI G).toNatClampNeg = G := nI_clamp (by omega)
  unfold wpX_passEndingOn
  dsimp only
  rw [e1, cG]
  refine br_f e0 ⟨iG, nm_e ⟨h80, nm_r hk (br_f (by decide +kernel : ¬ (11 : Int32) < 10) (br_f (by decide +kernel : ¬ (14 : Int32) < 11) (br_f (by decide +kernel : ¬ (11 : Int32) = 10) (br_t rfl ?_))))⟩⟩
  dsimp only [wpX_endRound, wX_endRound_16, wX_endRound_21, wX_endRound_44, wX_endRound_48, wX_endRound_49, wX_endRound_80, wX_endRound_105, wX_endRound_114, wpX_endStatement, wpX_goToPart]
  exact br_f (by decide +kernel : ¬ (3 : Int32) = 2) (br_t rfl (br_f (by decide +kernel : ¬ (3 : Int32) = 0) (br_t rfl (br_t rfl (br_f uw_10 ⟨h80, ht, br_t hz (nm_r e1 (br_f uw_10 H))⟩)))))
theorem uw_xp11_0n (hG : G < 300) (h80 : vp_in (fS G) 80) (hk : kd (fS G).toNatClampNeg = 11) (ht : vp_in (tg (fS G).toNatClampNeg) 4) (hz : ¬ hd (tg (fS G).toNatClampNeg).toNatClampNeg = 0) (H : post (std, mde, pct, stp, opc, mop, lou, lth, rng, uw_to (fS G) (fs (fS G).toNatClampNeg), 0, edn, nI (G + 1), kd, tg, op, fs, sc, sz, sk, wa, ld, hd, tb, po, fS, fE, fN)) : wpX_passEndingOn post (std, mde, pct, stp, opc, mop, lou, lth, rng, nxt, 0, edn, nI (G + 1), kd, tg, op, fs, sc, sz, sk, wa, ld, hd, tb, po, fS, fE, fN) := by
  have e0 : ¬ nI (G + 1) = 0 := nI_ne0 (by omega) (by omega)
  have e1 : nI (G + 1) - 1 = nI G := nI_pred G
  have iG : vp_in (nI G) 300 := vp_in_nI hG (by omega)
  have cG : (nI G).toNatClampNeg = G := nI_clamp (by omega)
  unfold wpX_passEndingOn
  dsimp only
  rw [e1, cG]
  refine br_f e0 ⟨iG, nm_e ⟨h80, nm_r hk (br_f (by decide +kernel : ¬ (11 : Int32) < 10) (br_f (by decide +kernel : ¬ (14 : Int32) < 11) (br_f (by decide +kernel : ¬ (11 : Int32) = 10) (br_t rfl ?_))))⟩⟩
  dsimp only [wpX_endRound, wX_endRound_16, wX_endRound_21, wX_endRound_44, wX_endRound_48, wX_endRound_49, wX_endRound_80, wX_endRound_105, wX_endRound_114, wpX_endStatement, wpX_goToPart]
  exact br_f (by decide +kernel : ¬ (0 : Int32) = 2) (br_f (by decide +kernel : ¬ (0 : Int32) = 3) (br_t rfl (br_f uw_10 ⟨h80, ht, br_f hz ⟨h80, uw_20, nm_r (uw_gx _ _) H⟩⟩)))
theorem uw_xp11_30n (hG : G < 300) (h80 : vp_in (fS G) 80) (hk : kd (fS G).toNatClampNeg = 11) (ht : vp_in (tg (fS G).toNatClampNeg) 4) (hz : ¬ hd (tg (fS G).toNatClampNeg).toNatClampNeg = 0) (H : post (std, mde, pct, stp, opc, mop, lou, lth, rng, uw_to (fS G) (fs (fS G).toNatClampNeg), 3, 0, nI (G + 1), kd, tg, op, fs, sc, sz, sk, wa, ld, hd, tb, po, fS, fE, fN)) : wpX_passEndingOn post (std, mde, pct, stp, opc, mop, lou, lth, rng, nxt, 3, 0, nI (G + 1), kd, tg, op, fs, sc, sz, sk, wa, ld, hd, tb, po, fS, fE, fN) := by
  have e0 : ¬ nI (G + 1) = 0 := nI_ne0 (by omega) (by omega)
  have e1 : nI (G + 1) - 1 = nI G := nI_pred G
  have iG : vp_in (nI G) 300 := vp_in_nI hG (by omega)
  have cG : (nI G).toNatClampNeg = G := nI_clamp (by omega)
  unfold wpX_passEndingOn
  dsimp only
  rw [e1, cG]
  refine br_f e0 ⟨iG, nm_e ⟨h80, nm_r hk (br_f (by decide +kernel : ¬ (11 : Int32) < 10) (br_f (by decide +kernel : ¬ (14 : Int32) < 11) (br_f (by decide +kernel : ¬ (11 : Int32) = 10) (br_t rfl ?_))))⟩⟩
  dsimp only [wpX_endRound, wX_endRound_16, wX_endRound_21, wX_endRound_44, wX_endRound_48, wX_endRound_49, wX_endRound_80, wX_endRound_105, wX_endRound_114, wpX_endStatement, wpX_goToPart]
  exact br_f (by decide +kernel : ¬ (3 : Int32) = 2) (br_t rfl (br_f (by decide +kernel : ¬ (3 : Int32) = 0) (br_t rfl (br_t rfl (br_f uw_10 ⟨h80, ht, br_f hz ⟨h80, uw_20, nm_r (uw_gx _ _) H⟩⟩)))))
theorem uw_xp11_3 (hG : G < 300) (h80 : vp_in (fS G) 80) (hk : kd (fS G).toNatClampNeg = 11) (ht : vp_in (tg (fS G).toNatClampNeg) 4) (hn : ¬ edn = 0) (H : post (std, mde, pct, stp, opc, mop, lou, lth, rng, nxt, 3, edn - 1, nI G, kd, tg, op, fs, sc, sz, sk, wa, ld, hd, tb, po, fS, fE, fN)) : wpX_passEndingOn post (std, mde, pct, stp, opc, mop, lou, lth, rng, nxt, 3, edn, nI (G + 1), kd, tg, op, fs, sc, sz, sk, wa, ld, hd, tb, po, fS, fE, fN) := by
  have e0 : ¬ nI (G + 1) = 0 := nI_ne0 (by omega) (by omega)
  have e1 : nI (G + 1) - 1 = nI G := nI_pred G
  have iG : vp_in (nI G) 300 := vp_in_nI hG (by omega)
  have cG : (nI G).toNatClampNeg = G := nI_clamp (by omega)
  unfold wpX_passEndingOn
  dsimp only
  rw [e1, cG]
  refine br_f e0 ⟨iG, nm_e ⟨h80, nm_r hk (br_f (by decide +kernel : ¬ (11 : Int32) < 10) (br_f (by decide +kernel : ¬ (14 : Int32) < 11) (br_f (by decide +kernel : ¬ (11 : Int32) = 10) (br_t rfl ?_))))⟩⟩
  dsimp only [wpX_endRound, wX_endRound_16, wX_endRound_21, wX_endRound_44, wX_endRound_48, wX_endRound_49, wX_endRound_80, wX_endRound_105, wX_endRound_114, wpX_endStatement, wpX_goToPart]
  exact br_f (by decide +kernel : ¬ (3 : Int32) = 2) (br_t rfl (br_f (by decide +kernel : ¬ (3 : Int32) = 0) (br_t rfl (br_f hn (br_t rfl (nm_r e1 (br_t rfl (br_f uw_10 (br_f hn (br_f uw_10 (nm_e H)))))))))))
theorem uw_xp11_20 (hG : G < 300) (h80 : vp_in (fS G) 80) (hk : kd (fS G).toNatClampNeg = 11) (ht : vp_in (tg (fS G).toNatClampNeg) 4)  (H : post (std, mde, pct, stp, opc, mop, lou, lth, rng, -1, 0, 0, nI G, kd, tg, op, fs, sc, sz, sk, wa, ld, hd, tb, po, fS, fE, fN)) : wpX_passEndingOn post (std, mde, pct, stp, opc, mop, lou, lth, rng, nxt, 2, 0, nI (G + 1), kd, tg, op, fs, sc, sz, sk, wa, ld, hd, tb, po, fS, fE, fN) := by
  have e0 : ¬ nI (G + 1) = 0 := nI_ne0 (by omega) (by omega)
  have e1 : nI (G + 1) - 1 = nI G := nI_pred G
  have iG : vp_in (nI G) 300 := vp_in_nI hG (by omega)
  have cG : (nI G).toNatClampNeg = G := nI_clamp (by omega)
  unfold wpX_passEndingOn
  dsimp only
  rw [e1, cG]
  refine br_f e0 ⟨iG, nm_e ⟨h80, nm_r hk (br_f (by decide +kernel : ¬ (11 : Int32) < 10) (br_f (by decide +kernel : ¬ (14 : Int32) < 11) (br_f (by decide +kernel : ¬ (11 : Int32) = 10) (br_t rfl ?_))))⟩⟩
  dsimp only [wpX_endRound, wX_endRound_16, wX_endRound_21, wX_endRound_44, wX_endRound_48, wX_endRound_49, wX_endRound_80, wX_endRound_105, wX_endRound_114, wpX_endStatement, wpX_goToPart]
  exact br_t rfl (br_f (by decide +kernel : ¬ (2 : Int32) = 0) (br_f (by decide +kernel : ¬ (2 : Int32) = 3) (br_t rfl (nm_r e1 (br_t rfl (br_f uw_10 (br_t rfl H)))))))
theorem uw_xp11_2 (hG : G < 300) (h80 : vp_in (fS G) 80) (hk : kd (fS G).toNatClampNeg = 11) (ht : vp_in (tg (fS G).toNatClampNeg) 4) (hn : ¬ edn = 0) (H : post (std, mde, pct, stp, opc, mop, lou, lth, rng, nxt, 2, edn - 1, nI G, kd, tg, op, fs, sc, sz, sk, wa, ld, hd, tb, po, fS, fE, fN)) : wpX_passEndingOn post (std, mde, pct, stp, opc, mop, lou, lth, rng, nxt, 2, edn, nI (G + 1), kd, tg, op, fs, sc, sz, sk, wa, ld, hd, tb, po, fS, fE, fN) := by
  have e0 : ¬ nI (G + 1) = 0 := nI_ne0 (by omega) (by omega)
  have e1 : nI (G + 1) - 1 = nI G := nI_pred G
  have iG : vp_in (nI G) 300 := vp_in_nI hG (by omega)
  have cG : (nI G).toNatClampNeg = G := nI_clamp (by omega)
  unfold wpX_passEndingOn
  dsimp only
  rw [e1, cG]
  refine br_f e0 ⟨iG, nm_e ⟨h80, nm_r hk (br_f (by decide +kernel : ¬ (11 : Int32) < 10) (br_f (by decide +kernel : ¬ (14 : Int32) < 11) (br_f (by decide +kernel : ¬ (11 : Int32) = 10) (br_t rfl ?_))))⟩⟩
  dsimp only [wpX_endRound, wX_endRound_16, wX_endRound_21, wX_endRound_44, wX_endRound_48, wX_endRound_49, wX_endRound_80, wX_endRound_105, wX_endRound_114, wpX_endStatement, wpX_goToPart]
  exact br_t rfl (br_f (by decide +kernel : ¬ (2 : Int32) = 0) (br_f (by decide +kernel : ¬ (2 : Int32) = 3) (br_t rfl (nm_r e1 (br_t rfl (br_f uw_10 (br_f hn (br_f uw_10 (nm_e H)))))))))
theorem uw_xp11 (hG : G < 300) (h80 : vp_in (fS G) 80) (hk : kd (fS G).toNatClampNeg = 11) (ht : vp_in (tg (fS G).toNatClampNeg) 4) (h0 : ¬ edg = 0) (h2 : ¬ edg = 2) (h3 : ¬ edg = 3) (H : post (std, mde, pct, stp, opc, mop, lou, lth, rng, nxt, edg, edn, nI G, kd, tg, op, fs, sc, sz, sk, wa, ld, hd, tb, po, fS, fE, fN)) : wpX_passEndingOn post (std, mde, pct, stp, opc, mop, lou, lth, rng, nxt, edg, edn, nI (G + 1), kd, tg, op, fs, sc, sz, sk, wa, ld, hd, tb, po, fS, fE, fN) := by
  have e0 : ¬ nI (G + 1) = 0 := nI_ne0 (by omega) (by omega)
  have e1 : nI (G + 1) - 1 = nI G := nI_pred G
  have iG : vp_in (nI G) 300 := vp_in_nI hG (by omega)
  have cG : (nI G).toNatClampNeg = G := nI_clamp (by omega)
  unfold wpX_passEndingOn
  dsimp only
  rw [e1, cG]
  refine br_f e0 ⟨iG, nm_e ⟨h80, nm_r hk (br_f (by decide +kernel : ¬ (11 : Int32) < 10) (br_f (by decide +kernel : ¬ (14 : Int32) < 11) (br_f (by decide +kernel : ¬ (11 : Int32) = 10) (br_t rfl ?_))))⟩⟩
  dsimp only [wpX_endRound, wX_endRound_16, wX_endRound_21, wX_endRound_44, wX_endRound_48, wX_endRound_49, wX_endRound_80, wX_endRound_105, wX_endRound_114, wpX_endStatement, wpX_goToPart]
  exact br_f h2 (br_f h3 (br_f h0 (br_f h3 (br_t rfl (nm_r e1 (br_t rfl (br_t rfl (br_t rfl H))))))))
theorem uw_xp15a (hG : G < 300) (h80 : vp_in (fS G) 80) {a : Nat} (ha : a < 16) (hk : kd (fS G).toNatClampNeg = nI a) (h10 : ¬ kd (fS G).toNatClampNeg = 10) (h11 : ¬ kd (fS G).toNatClampNeg = 11) (h12 : ¬ kd (fS G).toNatClampNeg = 12) (h14 : ¬ kd (fS G).toNatClampNeg = 14) (hE : fE G = -1) (H : post (std, mde, pct, stp, opc, mop, lou, lth, rng, uw_to (fS G) (sc (fS G).toNatClampNeg), edg, edn, nI (G + 1), kd, tg, op, fs, sc, sz, sk, wa, ld, hd, tb, po, fS, upd fE G edg, upd fN G edn)) : wpX_passEndingOn post (std, mde, pct, stp, opc, mop, lou, lth, rng, nxt, edg, edn, nI (G + 1), kd, tg, op, fs, sc, sz, sk, wa, ld, hd, tb, po, fS, fE, fN) := by
  have e0 : ¬ nI (G + 1) = 0 := nI_ne0 (by omega) (by omega)
  have e1 : nI (G + 1) - 1 = nI G := nI_pred G
  have iG : vp_in (nI G) 300 := vp_in_nI hG (by omega)
  have cG : (nI G).toNatClampNeg = G := nI_clamp (by omega)
  have K : wX_passEndingOn_95 post (fS G) std mde pct stp opc mop lou lth rng nxt edg edn (nI (G + 1)) kd tg op fs sc sz sk wa ld hd tb po fS fE fN := by
    dsimp only [wX_passEndingOn_95, wpX_endPartOfLastly, wpX_goToPart, wpX_endStatement]
    rw [e1]
    refine nm_e ?_
    rw [cG]
    exact ⟨iG, br_t hE ⟨iG, nm_e ⟨iG, nm_e ⟨h80, uw_20, nm_r (uw_gx _ _) H⟩⟩⟩⟩
  unfold wpX_passEndingOn
  dsimp only
  rw [e1, cG]
  refine br_f e0 ⟨iG, nm_e ⟨h80, nm_e ?_⟩⟩
  by_cases q1 : kd (fS G).toNatClampNeg < 10
  · exact br_t q1 K
  · by_cases q2 : 14 < kd (fS G).toNatClampNeg
    · exact br_f q1 (br_t q2 K)
    · have h13 : kd (fS G).toNatClampNeg = 13 := by
        rw [hk] at q1 q2 h10 h11 h12 h14 ⊢
        have b1 : 10 ≤ a := Classical.byContradiction fun z => q1 (nI_lt (b := 10) (by omega) (by decide))
        have b2 : a ≤ 14 := Classical.byContradiction fun z => q2 (nI_lt (a := 14) (by omega) (by omega))
        rcases (by omega : a = 10 ∨ a = 11 ∨ a = 12 ∨ a = 13 ∨ a = 14) with h | h | h | h | h
        · exact absurd (by rw [h]; rfl) h10
        · exact absurd (by rw [h]; rfl) h11
        · exact absurd (by rw [h]; rfl) h12
        · rw [h]; rfl
        · exact absurd (by rw [h]; rfl) h14
      exact br_f q1 (br_f q2 (br_f h10 (br_f h11 (br_f h12 (br_t h13 K)))))
theorem uw_xp15n (hG : G < 300) (h80 : vp_in (fS G) 80) {a : Nat} (ha : a < 16) (hk : kd (fS G).toNatClampNeg = nI a) (h10 : ¬ kd (fS G).toNatClampNeg = 10) (h11 : ¬ kd (fS G).toNatClampNeg = 11) (h12 : ¬ kd (fS G).toNatClampNeg = 12) (h14 : ¬ kd (fS G).toNatClampNeg = 14) (hE : ¬ fE G = -1) (H : post (std, mde, pct, stp, opc, mop, lou, lth, rng, -1, fE G, fN G, nI G, kd, tg, op, fs, sc, sz, sk, wa, ld, hd, tb, po, fS, fE, fN)) : wpX_passEndingOn post (std, mde, pct, stp, opc, mop, lou, lth, rng, nxt, 0, edn, nI (G + 1), kd, tg, op, fs, sc, sz, sk, wa, ld, hd, tb, po, fS, fE, fN) := by
  have e0 : ¬ nI (G + 1) = 0 := nI_ne0 (by omega) (by omega)
  have e1 : nI (G + 1) - 1 = nI G := nI_pred G
  have iG : vp_in (nI G) 300 := vp_in_nI hG (by omega)
  have cG : (nI G).toNatClampNeg = G := nI_clamp (by omega)
  have K : wX_passEndingOn_95 post (fS G) std mde pct stp opc mop lou lth rng nxt 0 edn (nI (G + 1)) kd tg op fs sc sz sk wa ld hd tb po fS fE fN := by
    dsimp only [wX_passEndingOn_95, wpX_endPartOfLastly, wpX_goToPart, wpX_endStatement]
    rw [e1]
    refine nm_e ?_
    rw [cG]
    exact ⟨iG, br_f hE (nm_e (br_t rfl ⟨iG, iG, H⟩))⟩
  unfold wpX_passEndingOn
  dsimp only
  rw [e1, cG]
  refine br_f e0 ⟨iG, nm_e ⟨h80, nm_e ?_⟩⟩
  by_cases q1 : kd (fS G).toNatClampNeg < 10
  · exact br_t q1 K
  · by_cases q2 : 14 < kd (fS G).toNatClampNeg
    · exact br_f q1 (br_t q2 K)
    · have h13 : kd (fS G).toNatClampNeg = 13 := by
        rw [hk] at q1 q2 h10 h11 h12 h14 ⊢
        have b1 : 10 ≤ a := Classical.byContradiction fun z => q1 (nI_lt (b := 10) (by omega) (by decide))
        have b2 : a ≤ 14 := Classical.byContradiction fun z => q2 (nI_lt (a := 14) (by omega) (by omega))
        rcases (by omega : a = 10 ∨ a = 11 ∨ a = 12 ∨ a = 13 ∨ a = 14) with h | h | h | h | h
        · exact absurd (by rw [h]; rfl) h10
        · exact absurd (by rw [h]; rfl) h11
        · exact absurd (by rw [h]; rfl) h12
        · rw [h]; rfl
        · exact absurd (by rw [h]; rfl) h14
      exact br_f q1 (br_f q2 (br_f h10 (br_f h11 (br_f h12 (br_t h13 K)))))
theorem uw_xp15 (hG : G < 300) (h80 : vp_in (fS G) 80) {a : Nat} (ha : a < 16) (hk : kd (fS G).toNatClampNeg = nI a) (h10 : ¬ kd (fS G).toNatClampNeg = 10) (h11 : ¬ kd (fS G).toNatClampNeg = 11) (h12 : ¬ kd (fS G).toNatClampNeg = 12) (h14 : ¬ kd (fS G).toNatClampNeg = 14) (hE : ¬ fE G = -1) (h0 : ¬ edg = 0) (H : post (std, mde, pct, stp, opc, mop, lou, lth, rng, nxt, edg, edn, nI G, kd, tg, op, fs, sc, sz, sk, wa, ld, hd, tb, po, fS, fE, fN)) : wpX_passEndingOn post (std, mde, pct, stp, opc, mop, lou, lth, rng, nxt, edg, edn, nI (G + 1), kd, tg, op, fs, sc, sz, sk, wa, ld, hd, tb, po, fS, fE, fN) := by
  have e0 : ¬ nI (G + 1) = 0 := nI_ne0 (by omega) (by omega)
  have e1 : nI (G + 1) - 1 = nI G := nI_pred G
  have iG : vp_in (nI G) 300 := vp_in_nI hG (by omega)
  have cG : (nI G).toNatClampNeg = G := nI_clamp (by omega)
  have K : wX_passEndingOn_95 post (fS G) std mde pct stp opc mop lou lth rng nxt edg edn (nI (G + 1)) kd tg op fs sc sz sk wa ld hd tb po fS fE fN := by
    dsimp only [wX_passEndingOn_95, wpX_endPartOfLastly, wpX_goToPart, wpX_endStatement]
    rw [e1]
    refine nm_e ?_
    rw [cG]
    exact ⟨iG, br_f hE (nm_e (br_f h0 H))⟩
  unfold wpX_passEndingOn
  dsimp only
  rw [e1, cG]
  refine br_f e0 ⟨iG, nm_e ⟨h80, nm_e ?_⟩⟩
  by_cases q1 : kd (fS G).toNatClampNeg < 10
  · exact br_t q1 K
  · by_cases q2 : 14 < kd (fS G).toNatClampNeg
    · exact br_f q1 (br_t q2 K)
    · have h13 : kd (fS G).toNatClampNeg = 13 := by
        rw [hk] at q1 q2 h10 h11 h12 h14 ⊢
        have b1 : 10 ≤ a := Classical.byContradiction fun z => q1 (nI_lt (b := 10) (by omega) (by decide))
        have b2 : a ≤ 14 := Classical.byContradiction fun z => q2 (nI_lt (a := 14) (by omega) (by omega))
        rcases (by omega : a = 10 ∨ a = 11 ∨ a = 12 ∨ a = 13 ∨ a = 14) with h | h | h | h | h
        · exact absurd (by rw [h]; rfl) h10
        · exact absurd (by rw [h]; rfl) h11
        · exact absurd (by rw [h]; rfl) h12
        · rw [h]; rfl
        · exact absurd (by rw [h]; rfl) h14
      exact br_f q1 (br_f q2 (br_f h10 (br_f h11 (br_f h12 (br_t h13 K)))))
end
end
section
/-! the same of the reference -/
variable {std mde pct stp opc mop lou lth rng nxt edg edn frm dpt opn nxy way wth cal eng thr sts ots dps : Int32} {kd tg op fs sc sz sk wa ld hd tb po fS fE fN zs ar oN oP oW oV : Nat → Int32}
section
variable {post : SY → Prop} {G : Nat}
theorem uw_yend1 (H : post (dpt, nI 0, nxy, 1, wth, cal, 1, wth, sts, ots, dps, kd, tg, op, fs, sc, zs, sk, ar, ld, oN, oP, oW, oV, hd, tb, po)) : wpY_passUp post (dpt, nI 0, nxy, 1, wth, cal, eng, thr, sts, ots, dps, kd, tg, op, fs, sc, zs, sk, ar, ld, oN, oP, oW, oV, hd, tb, po) :=
  br_t rfl (br_t rfl (br_t rfl H))
theorem uw_yend0 (h : ¬ way = 1) (H : post (dpt, nI 0, nxy, way, wth, cal, 0, 0, sts, ots, dps, kd, tg, op, fs, sc, zs, sk, ar, ld, oN, oP, oW, oV, hd, tb, po)) : wpY_passUp post (dpt, nI 0, nxy, way, wth, cal, eng, thr, sts, ots, dps, kd, tg, op, fs, sc, zs, sk, ar, ld, oN, oP, oW, oV, hd, tb, po) :=
  br_t rfl (br_f h (br_f h H))
theorem uw_yp10t {s : Int32} (es : oN G = s) (hG : G < 300) (h80 : vp_in s 80) (hk : kd s.toNatClampNeg = 10)  (H : post (dpt, nI G, nxy, 1, wth, cal - 1, eng, thr, sts, ots, dps, kd, tg, op, fs, sc, zs, sk, ar, ld, oN, oP, oW, oV, hd, tb, po)) : wpY_passUp post (dpt, nI (G + 1), nxy, 1, wth, cal, eng, thr, sts, ots, dps, kd, tg, op, fs, sc, zs, sk, ar, ld, oN, oP, oW, oV, hd, tb, po) := by
  subst es
  have e0 : ¬ nI (G + 1) = 0 := nI_ne0 (by omega) (by omega)
  have e1 : nI (G + 1) - 1 = nI G := nI_pred G
  have iG : vp_in (nI G) 320 := vp_in_nI (by omega) (by omega)
  have cG : (nI G).toNatClampNeg = G := nI_clamp (by omega)
  unfold wpY_passUp
  dsimp only
  refine br_f e0 (nm_r e1 ?_)
  rw [cG]
  refine ⟨iG, nm_e ⟨h80, nm_r hk (br_t rfl ?_)⟩⟩
  exact nm_e (br_t rfl H)
theorem uw_yp10 {s : Int32} (es : oN G = s) (hG : G < 300) (h80 : vp_in s 80) (hk : kd s.toNatClampNeg = 10) (h1 : ¬ way = 1) (H : post (dpt, nI G, nxy, 0, 0, cal - 1, eng, thr, sts, ots, dps, kd, tg, op, fs, sc, zs, sk, ar, ld, oN, oP, oW, oV, hd, tb, po)) : wpY_passUp post (dpt, nI (G + 1), nxy, way, wth, cal, eng, thr, sts, ots, dps, kd, tg, op, fs, sc, zs, sk, ar, ld, oN, oP, oW, oV, hd, tb, po) := by
  subst es
  have e0 : ¬ nI (G + 1) = 0 := nI_ne0 (by omega) (by omega)
  have e1 : nI (G + 1) - 1 = nI G := nI_pred G
  have iG : vp_in (nI G) 320 := vp_in_nI (by omega) (by omega)
  have cG : (nI G).toNatClampNeg = G := nI_clamp (by omega)
  unfold wpY_passUp
  dsimp only
  refine br_f e0 (nm_r e1 ?_)
  rw [cG]
  refine ⟨iG, nm_e ⟨h80, nm_r hk (br_t rfl ?_)⟩⟩
  dsimp only [wpY_endAs]
  exact nm_e (br_f h1 H)
theorem uw_yp12n {s : Int32} (es : oN G = s) (hG : G < 300) (h80 : vp_in s 80) (hk : kd s.toNatClampNeg = 12)  (H : post (dpt, nI G, uw_to s (sc s.toNatClampNeg), 0, wth, cal, eng, thr, sts, ots, dps, kd, tg, op, fs, sc, zs, sk, ar, ld, oN, oP, oW, oV, hd, tb, po)) : wpY_passUp post (dpt, nI (G + 1), nxy, 0, wth, cal, eng, thr, sts, ots, dps, kd, tg, op, fs, sc, zs, sk, ar, ld, oN, oP, oW, oV, hd, tb, po) := by
  subst es
  have e0 : ¬ nI (G + 1) = 0 := nI_ne0 (by omega) (by omega)
  have e1 : nI (G + 1) - 1 = nI G := nI_pred G
  have iG : vp_in (nI G) 320 := vp_in_nI (by omega) (by omega)
  have cG : (nI G).toNatClampNeg = G := nI_clamp (by omega)
  unfold wpY_passUp
  dsimp only
  refine br_f e0 (nm_r e1 ?_)
  rw [cG]
  refine ⟨iG, nm_e ⟨h80, nm_r hk (br_f (by decide +kernel : ¬ (12 : Int32) = 10) (br_f (by decide +kernel : ¬ (12 : Int32) = 11) (br_t rfl ?_)))⟩⟩
  dsimp only [wpY_go]
  exact br_t rfl ⟨h80, uw_20, nm_e H⟩
theorem uw_yp12 {s : Int32} (es : oN G = s) (hG : G < 300) (h80 : vp_in s 80) (hk : kd s.toNatClampNeg = 12) (h0 : ¬ way = 0) (H : post (dpt, nI G, nxy, way, wth, cal, eng, thr, sts, ots, dps, kd, tg, op, fs, sc, zs, sk, ar, ld, oN, oP, oW, oV, hd, tb, po)) : wpY_passUp post (dpt, nI (G + 1), nxy, way, wth, cal, eng, thr, sts, ots, dps, kd, tg, op, fs, sc, zs, sk, ar, ld, oN, oP, oW, oV, hd, tb, po) := by
  subst es
  have e0 : ¬ nI (G + 1) = 0 := nI_ne0 (by omega) (by omega)
  have e1 : nI (G + 1) - 1 = nI G := nI_pred G
  have iG : vp_in (nI G) 320 := vp_in_nI (by omega) (by omega)
  have cG : (nI G).toNatClampNeg = G := nI_clamp (by omega)
  unfold wpY_passUp
  dsimp only
  refine br_f e0 (nm_r e1 ?_)
  rw [cG]
  refine ⟨iG, nm_e ⟨h80, nm_r hk (br_f (by decide +kernel : ¬ (12 : Int32) = 10) (br_f (by decide +kernel : ¬ (12 : Int32) = 11) (br_t rfl ?_)))⟩⟩
  exact br_f h0 H
theorem uw_yp14t {s : Int32} (es : oN G = s) (hG : G < 300) (h80 : vp_in s 80) (hk : kd s.toNatClampNeg = 14) (ht : vp_in (tg s.toNatClampNeg) 4) (H : post (dpt, nI G, uw_to s (sc s.toNatClampNeg), 1, wth, cal, eng, thr, sts, ots, dps, kd, tg, op, fs, sc, zs, sk, ar, ld, oN, oP, oW, oV, upd hd (tg s.toNatClampNeg).toNatClampNeg wth, tb, po)) : wpY_passUp post (dpt, nI (G + 1), nxy, 1, wth, cal, eng, thr, sts, ots, dps, kd, tg, op, fs, sc, zs, sk, ar, ld, oN, oP, oW, oV, hd, tb, po) := by
  subst es
  have e0 : ¬ nI (G + 1) = 0 := nI_ne0 (by omega) (by omega)
  have e1 : nI (G + 1) - 1 = nI G := nI_pred G
  have iG : vp_in (nI G) 320 := vp_in_nI (by omega) (by omega)
  have cG : (nI G).toNatClampNeg = G := nI_clamp (by omega)
  unfold wpY_passUp
  dsimp only
  refine br_f e0 (nm_r e1 ?_)
  rw [cG]
  refine ⟨iG, nm_e ⟨h80, nm_r hk (br_f (by decide +kernel : ¬ (14 : Int32) = 10) (br_f (by decide +kernel : ¬ (14 : Int32) = 11) (br_f (by decide +kernel : ¬ (14 : Int32) = 12) (br_t rfl ?_))))⟩⟩
  dsimp only [wpY_go]
  exact br_t rfl ⟨h80, ht, nm_e ⟨h80, uw_20, nm_e H⟩⟩
theorem uw_yp14 {s : Int32} (es : oN G = s) (hG : G < 300) (h80 : vp_in s 80) (hk : kd s.toNatClampNeg = 14) (h1 : ¬ way = 1) (H : post (dpt, nI G, nxy, way, wth, cal, eng, thr, sts, ots, dps, kd, tg, op, fs, sc, zs, sk, ar, ld, oN, oP, oW, oV, hd, tb, po)) : wpY_passUp post (dpt, nI (G + 1), nxy, way, wth, cal, eng, thr, sts, ots, dps, kd, tg, op, fs, sc, zs, sk, ar, ld, oN, oP, oW, oV, hd, tb, po) := by
  subst es
  have e0 : ¬ nI (G + 1) = 0 := nI_ne0 (by omega) (by omega)
  have e1 : nI (G + 1) - 1 = nI G := nI_pred G
  have iG : vp_in (nI G) 320 := vp_in_nI (by omega) (by omega)
  have cG : (nI G).toNatClampNeg = G := nI_clamp (by omega)
  unfold wpY_passUp
  dsimp only
  refine br_f e0 (nm_r e1 ?_)
  rw [cG]
  refine ⟨iG, nm_e ⟨h80, nm_r hk (br_f (by decide +kernel : ¬ (14 : Int32) = 10) (br_f (by decide +kernel : ¬ (14 : Int32) = 11) (br_f (by decide +kernel : ¬ (14 : Int32) = 12) (br_t rfl ?_))))⟩⟩
  exact br_f h1 H
theorem uw_yp11_0z {s : Int32} (es : oN G = s) (hG : G < 300) (h80 : vp_in s 80) (hk : kd s.toNatClampNeg = 11) (ht : vp_in (tg s.toNatClampNeg) 4) (hz : hd (tg s.toNatClampNeg).toNatClampNeg = 0) (H : post (dpt, nI G, nxy, 0, 0, cal, eng, thr, sts, ots, dps, kd, tg, op, fs, sc, zs, sk, ar, ld, oN, oP, oW, oV, hd, tb, po)) : wpY_passUp post (dpt, nI (G + 1), nxy, 0, wth, cal, eng, thr, sts, ots, dps, kd, tg, op, fs, sc, zs, sk, ar, ld, oN, oP, oW, oV, hd, tb, po) := by
  subst es
  have e0 : ¬ nI (G + 1) = 0 := nI_ne0 (by omega) (by omega)
  have e1 : nI (G + 1) - 1 = nI G := nI_pred G
  have iG : vp_in (nI G) 320 := vp_in_nI (by omega) (by omega)
  have cG : (nI G).toNatClampNeg = G := nI_clamp (by omega)
  unfold wpY_passUp
  dsimp only
  refine br_f e0 (nm_r e1 ?_)
  rw [cG]
  refine ⟨iG, nm_e ⟨h80, nm_r hk (br_f (by decide +kernel : ¬ (11 : Int32) = 10) (br_t rfl ?_))⟩⟩
  dsimp only [wpY_afterRound, wY_afterRound_22, wY_afterRound_30, wY_afterRound_54, wpY_look, wpY_endAs, wpY_push, wpY_go]
  rw [cG]
  exact br_t rfl ⟨h80, ht, br_t hz H⟩
theorem uw_yp11_30z {s : Int32} (es : oN G = s) (hG : G < 300) (h80 : vp_in s 80) (hk : kd s.toNatClampNeg = 11) (ht : vp_in (tg s.toNatClampNeg) 4) (hz : hd (tg s.toNatClampNeg).toNatClampNeg = 0) (H : post (dpt, nI G, nxy, 0, 0, cal, eng, thr, sts, ots, dps, kd, tg, op, fs, sc, zs, sk, ar, ld, oN, oP, oW, oV, hd, tb, po)) : wpY_passUp post (dpt, nI (G + 1), nxy, 3, 0, cal, eng, thr, sts, ots, dps, kd, tg, op, fs, sc, zs, sk, ar, ld, oN, oP, oW, oV, hd, tb, po) := by
  subst es
  have e0 : ¬ nI (G + 1) = 0 := nI_ne0 (by omega) (by omega)
  have e1 : nI (G + 1) - 1 = nI G := nI_pred G
  have iG : vp_in (nI G) 320 := vp_in_nI (by omega) (by omega)
  have cG : (nI G).toNatClampNeg = G := nI_clamp (by omega)
  unfold wpY_passUp
  dsimp only
  refine br_f e0 (nm_r e1 ?_)
  rw [cG]
  refine ⟨iG, nm_e ⟨h80, nm_r hk (br_f (by decide +kernel : ¬ (11 : Int32) = 10) (br_t rfl ?_))⟩⟩
  dsimp only [wpY_afterRound, wY_afterRound_22, wY_afterRound_30, wY_afterRound_54, wpY_look, wpY_endAs, wpY_push, wpY_go]
  rw [cG]
  exact br_f (by decide +kernel : ¬ (3 : Int32) = 0) (br_t rfl (br_t rfl ⟨h80, ht, br_t hz H⟩))
theorem uw_yp11_0n {s : Int32} (es : oN G = s) (hG : G < 300) (h80 : vp_in s 80) (hk : kd s.toNatClampNeg = 11) (ht : vp_in (tg s.toNatClampNeg) 4) (hz : ¬ hd (tg s.toNatClampNeg).toNatClampNeg = 0) (H : post (dpt, nI (G + 1), uw_to s (fs s.toNatClampNeg), 0, 0, cal, eng, thr, sts, ots, dps, kd, tg, op, fs, sc, zs, sk, ar, ld, upd oN G s, upd oP G 1, upd oW G 0, upd oV G 0, hd, tb, po)) : wpY_passUp post (dpt, nI (G + 1), nxy, 0, wth, cal, eng, thr, sts, ots, dps, kd, tg, op, fs, sc, zs, sk, ar, ld, oN, oP, oW, oV, hd, tb, po) := by
  subst es
  have e0 : ¬ nI (G + 1) = 0 := nI_ne0 (by omega) (by omega)
  have e1 : nI (G + 1) - 1 = nI G := nI_pred G
  have iG : vp_in (nI G) 320 := vp_in_nI (by omega) (by omega)
  have cG : (nI G).toNatClampNeg = G := nI_clamp (by omega)
  unfold wpY_passUp
  dsimp only
  refine br_f e0 (nm_r e1 ?_)
  rw [cG]
  refine ⟨iG, nm_e ⟨h80, nm_r hk (br_f (by decide +kernel : ¬ (11 : Int32) = 10) (br_t rfl ?_))⟩⟩
  dsimp only [wpY_afterRound, wY_afterRound_22, wY_afterRound_30, wY_afterRound_54, wpY_look, wpY_endAs, wpY_push, wpY_go]
  rw [cG]
  exact br_t rfl ⟨h80, ht, br_f hz ⟨iG, nm_e ⟨iG, nm_e ⟨iG, nm_e ⟨iG, nm_e (nm_r (nI_1 G) ⟨h80, uw_20, nm_e H⟩)⟩⟩⟩⟩⟩
theorem uw_yp11_30n {s : Int32} (es : oN G = s) (hG : G < 300) (h80 : vp_in s 80) (hk : kd s.toNatClampNeg = 11) (ht : vp_in (tg s.toNatClampNeg) 4) (hz : ¬ hd (tg s.toNatClampNeg).toNatClampNeg = 0) (H : post (dpt, nI (G + 1), uw_to s (fs s.toNatClampNeg), 0, 0, cal, eng, thr, sts, ots, dps, kd, tg, op, fs, sc, zs, sk, ar, ld, upd oN G s, upd oP G 1, upd oW G 0, upd oV G 0, hd, tb, po)) : wpY_passUp post (dpt, nI (G + 1), nxy, 3, 0, cal, eng, thr, sts, ots, dps, kd, tg, op, fs, sc, zs, sk, ar, ld, oN, oP, oW, oV, hd, tb, po) := by
  subst es
  have e0 : ¬ nI (G + 1) = 0 := nI_ne0 (by omega) (by omega)
  have e1 : nI (G + 1) - 1 = nI G := nI_pred G
  have iG : vp_in (nI G) 320 := vp_in_nI (by omega) (by omega)
  have cG : (nI G).toNatClampNeg = G := nI_clamp (by omega)
  unfold wpY_passUp
  dsimp only
  refine br_f e0 (nm_r e1 ?_)
  rw [cG]
  refine ⟨iG, nm_e ⟨h80, nm_r hk (br_f (by decide +kernel : ¬ (11 : Int32) = 10) (br_t rfl ?_))⟩⟩
  dsimp only [wpY_afterRound, wY_afterRound_22, wY_afterRound_30, wY_afterRound_54, wpY_look, wpY_endAs, wpY_push, wpY_go]
  rw [cG]
  exact br_f (by decide +kernel : ¬ (3 : Int32) = 0) (br_t rfl (br_t rfl ⟨h80, ht, br_f hz ⟨iG, nm_e ⟨iG, nm_e ⟨iG, nm_e ⟨iG, nm_e (nm_r (nI_1 G) ⟨h80, uw_20, nm_e H⟩)⟩⟩⟩⟩⟩))
theorem uw_yp11_3 {s : Int32} (es : oN G = s) (hG : G < 300) (h80 : vp_in s 80) (hk : kd s.toNatClampNeg = 11) (ht : vp_in (tg s.toNatClampNeg) 4) (hn : ¬ wth = 0) (H : post (dpt, nI G, nxy, 3, wth - 1, cal, eng, thr, sts, ots, dps, kd, tg, op, fs, sc, zs, sk, ar, ld, oN, oP, oW, oV, hd, tb, po)) : wpY_passUp post (dpt, nI (G + 1), nxy, 3, wth, cal, eng, thr, sts, ots, dps, kd, tg, op, fs, sc, zs, sk, ar, ld, oN, oP, oW, oV, hd, tb, po) := by
  subst es
  have e0 : ¬ nI (G + 1) = 0 := nI_ne0 (by omega) (by omega)
  have e1 : nI (G + 1) - 1 = nI G := nI_pred G
  have iG : vp_in (nI G) 320 := vp_in_nI (by omega) (by omega)
  have cG : (nI G).toNatClampNeg = G := nI_clamp (by omega)
  unfold wpY_passUp
  dsimp only
  refine br_f e0 (nm_r e1 ?_)
  rw [cG]
  refine ⟨iG, nm_e ⟨h80, nm_r hk (br_f (by decide +kernel : ¬ (11 : Int32) = 10) (br_t rfl ?_))⟩⟩
  dsimp only [wpY_afterRound, wY_afterRound_22, wY_afterRound_30, wY_afterRound_54, wpY_look, wpY_endAs, wpY_push, wpY_go]
  rw [cG]
  exact br_f (by decide +kernel : ¬ (3 : Int32) = 0) (br_t rfl (br_f hn (br_f (by decide +kernel : ¬ (3 : Int32) = 2) (br_f (by decide +kernel : ¬ (3 : Int32) = 2) (br_t rfl (nm_e H))))))
theorem uw_yp11_20 {s : Int32} (es : oN G = s) (hG : G < 300) (h80 : vp_in s 80) (hk : kd s.toNatClampNeg = 11) (ht : vp_in (tg s.toNatClampNeg) 4)  (H : post (dpt, nI G, nxy, 0, 0, cal, eng, thr, sts, ots, dps, kd, tg, op, fs, sc, zs, sk, ar, ld, oN, oP, oW, oV, hd, tb, po)) : wpY_passUp post (dpt, nI (G + 1), nxy, 2, 0, cal, eng, thr, sts, ots, dps, kd, tg, op, fs, sc, zs, sk, ar, ld, oN, oP, oW, oV, hd, tb, po) := by
  subst es
  have e0 : ¬ nI (G + 1) = 0 := nI_ne0 (by omega) (by omega)
  have e1 : nI (G + 1) - 1 = nI G := nI_pred G
  have iG : vp_in (nI G) 320 := vp_in_nI (by omega) (by omega)
  have cG : (nI G).toNatClampNeg = G := nI_clamp (by omega)
  unfold wpY_passUp
  dsimp only
  refine br_f e0 (nm_r e1 ?_)
  rw [cG]
  refine ⟨iG, nm_e ⟨h80, nm_r hk (br_f (by decide +kernel : ¬ (11 : Int32) = 10) (br_t rfl ?_))⟩⟩
  dsimp only [wpY_afterRound, wY_afterRound_22, wY_afterRound_30, wY_afterRound_54, wpY_look, wpY_endAs, wpY_push, wpY_go]
  rw [cG]
  exact br_f (by decide +kernel : ¬ (2 : Int32) = 0) (br_f (by decide +kernel : ¬ (2 : Int32) = 3) (br_t rfl (br_t rfl H)))
theorem uw_yp11_2 {s : Int32} (es : oN G = s) (hG : G < 300) (h80 : vp_in s 80) (hk : kd s.toNatClampNeg = 11) (ht : vp_in (tg s.toNatClampNeg) 4) (hn : ¬ wth = 0) (H : post (dpt, nI G, nxy, 2, wth - 1, cal, eng, thr, sts, ots, dps, kd, tg, op, fs, sc, zs, sk, ar, ld, oN, oP, oW, oV, hd, tb, po)) : wpY_passUp post (dpt, nI (G + 1), nxy, 2, wth, cal, eng, thr, sts, ots, dps, kd, tg, op, fs, sc, zs, sk, ar, ld, oN, oP, oW, oV, hd, tb, po) := by
  subst es
  have e0 : ¬ nI (G + 1) = 0 := nI_ne0 (by omega) (by omega)
  have e1 : nI (G + 1) - 1 = nI G := nI_pred G
  have iG : vp_in (nI G) 320 := vp_in_nI (by omega) (by omega)
  have cG : (nI G).toNatClampNeg = G := nI_clamp (by omega)
  unfold wpY_passUp
  dsimp only
  refine br_f e0 (nm_r e1 ?_)
  rw [cG]
  refine ⟨iG, nm_e ⟨h80, nm_r hk (br_f (by decide +kernel : ¬ (11 : Int32) = 10) (br_t rfl ?_))⟩⟩
  dsimp only [wpY_afterRound, wY_afterRound_22, wY_afterRound_30, wY_afterRound_54, wpY_look, wpY_endAs, wpY_push, wpY_go]
  rw [cG]
  exact br_f (by decide +kernel : ¬ (2 : Int32) = 0) (br_f (by decide +kernel : ¬ (2 : Int32) = 3) (br_t rfl (br_f hn (br_t rfl (nm_e H)))))
theorem uw_yp11 {s : Int32} (es : oN G = s) (hG : G < 300) (h80 : vp_in s 80) (hk : kd s.toNatClampNeg = 11) (ht : vp_in (tg s.toNatClampNeg) 4) (h0 : ¬ way = 0) (h2 : ¬ way = 2) (h3 : ¬ way = 3) (H : post (dpt, nI G, nxy, way, wth, cal, eng, thr, sts, ots, dps, kd, tg, op, fs, sc, zs, sk, ar, ld, oN, oP, oW, oV, hd, tb, po)) : wpY_passUp post (dpt, nI (G + 1), nxy, way, wth, cal, eng, thr, sts, ots, dps, kd, tg, op, fs, sc, zs, sk, ar, ld, oN, oP, oW, oV, hd, tb, po) := by
  subst es
  have e0 : ¬ nI (G + 1) = 0 := nI_ne0 (by omega) (by omega)
  have e1 : nI (G + 1) - 1 = nI G := nI_pred G
  have iG : vp_in (nI G) 320 := vp_in_nI (by omega) (by omega)
  have cG : (nI G).toNatClampNeg = G := nI_clamp (by omega)
  unfold wpY_passUp
  dsimp only
  refine br_f e0 (nm_r e1 ?_)
  rw [cG]
  refine ⟨iG, nm_e ⟨h80, nm_r hk (br_f (by decide +kernel : ¬ (11 : Int32) = 10) (br_t rfl ?_))⟩⟩
  dsimp only [wpY_afterRound, wY_afterRound_22, wY_afterRound_30, wY_afterRound_54, wpY_look, wpY_endAs, wpY_push, wpY_go]
  rw [cG]
  exact br_f h0 (br_f h3 (br_f h2 (br_f h2 (br_f h3 H))))
theorem uw_yp15a {s : Int32} (es : oN G = s) (hG : G < 300) (h80 : vp_in s 80) (h10 : ¬ kd s.toNatClampNeg = 10) (h11 : ¬ kd s.toNatClampNeg = 11) (h12 : ¬ kd s.toNatClampNeg = 12) (h14 : ¬ kd s.toNatClampNeg = 14) (hP : oP G = 1) (H : post (dpt, nI (G + 1), uw_to s (sc s.toNatClampNeg), way, wth, cal, eng, thr, sts, ots, dps, kd, tg, op, fs, sc, zs, sk, ar, ld, upd oN G s, upd oP G 2, upd oW G way, upd oV G wth, hd, tb, po)) : wpY_passUp post (dpt, nI (G + 1), nxy, way, wth, cal, eng, thr, sts, ots, dps, kd, tg, op, fs, sc, zs, sk, ar, ld, oN, oP, oW, oV, hd, tb, po) := by
  subst es
  have e0 : ¬ nI (G + 1) = 0 := nI_ne0 (by omega) (by omega)
  have e1 : nI (G + 1) - 1 = nI G := nI_pred G
  have iG : vp_in (nI G) 320 := vp_in_nI (by omega) (by omega)
  have cG : (nI G).toNatClampNeg = G := nI_clamp (by omega)
  unfold wpY_passUp
  dsimp only
  refine br_f e0 (nm_r e1 ?_)
  rw [cG]
  refine ⟨iG, nm_e ⟨h80, nm_e (br_f h10 (br_f h11 (br_f h12 (br_f h14 ⟨iG, br_t hP ?_⟩))))⟩⟩
  dsimp only [wpY_push, wpY_go]
  rw [cG]
  exact ⟨iG, nm_e ⟨iG, nm_e ⟨iG, nm_e ⟨iG, nm_e (nm_r (nI_1 G) ⟨h80, uw_20, nm_e H⟩)⟩⟩⟩⟩
theorem uw_yp15n {s : Int32} (es : oN G = s) (hG : G < 300) (h80 : vp_in s 80) (h10 : ¬ kd s.toNatClampNeg = 10) (h11 : ¬ kd s.toNatClampNeg = 11) (h12 : ¬ kd s.toNatClampNeg = 12) (h14 : ¬ kd s.toNatClampNeg = 14) (hP : ¬ oP G = 1) (H : post (dpt, nI G, nxy, oW G, oV G, cal, eng, thr, sts, ots, dps, kd, tg, op, fs, sc, zs, sk, ar, ld, oN, oP, oW, oV, hd, tb, po)) : wpY_passUp post (dpt, nI (G + 1), nxy, 0, wth, cal, eng, thr, sts, ots, dps, kd, tg, op, fs, sc, zs, sk, ar, ld, oN, oP, oW, oV, hd, tb, po) := by
  subst es
  have e0 : ¬ nI (G + 1) = 0 := nI_ne0 (by omega) (by omega)
  have e1 : nI (G + 1) - 1 = nI G := nI_pred G
  have iG : vp_in (nI G) 320 := vp_in_nI (by omega) (by omega)
  have cG : (nI G).toNatClampNeg = G := nI_clamp (by omega)
  unfold wpY_passUp
  dsimp only
  refine br_f e0 (nm_r e1 ?_)
  rw [cG]
  refine ⟨iG, nm_e ⟨h80, nm_e (br_f h10 (br_f h11 (br_f h12 (br_f h14 ⟨iG, br_f hP (br_t rfl ⟨iG, iG, ?_⟩)⟩))))⟩⟩
  exact H
theorem uw_yp15 {s : Int32} (es : oN G = s) (hG : G < 300) (h80 : vp_in s 80) (h10 : ¬ kd s.toNatClampNeg = 10) (h11 : ¬ kd s.toNatClampNeg = 11) (h12 : ¬ kd s.toNatClampNeg = 12) (h14 : ¬ kd s.toNatClampNeg = 14) (hP : ¬ oP G = 1) (h0 : ¬ way = 0) (H : post (dpt, nI G, nxy, way, wth, cal, eng, thr, sts, ots, dps, kd, tg, op, fs, sc, zs, sk, ar, ld, oN, oP, oW, oV, hd, tb, po)) : wpY_passUp post (dpt, nI (G + 1), nxy, way, wth, cal, eng, thr, sts, ots, dps, kd, tg, op, fs, sc, zs, sk, ar, ld, oN, oP, oW, oV, hd, tb, po) := by
  subst es
  have e0 : ¬ nI (G + 1) = 0 := nI_ne0 (by omega) (by omega)
  have e1 : nI (G + 1) - 1 = nI G := nI_pred G
  have iG : vp_in (nI G) 320 := vp_in_nI (by omega) (by omega)
  have cG : (nI G).toNatClampNeg = G := nI_clamp (by omega)
  unfold wpY_passUp
  dsimp only
  refine br_f e0 (nm_r e1 ?_)
  rw [cG]
  refine ⟨iG, nm_e ⟨h80, nm_e (br_f h10 (br_f h11 (br_f h12 (br_f h14 ⟨iG, br_f hP (br_f h0 H)⟩))))⟩⟩
end
end
section
/-! the relation within a run, and one turn -/
def uw_fr (kd : Nat → Int32) (s e n s' p w v : Int32) : Prop := vp_in s 60 ∧ s' = s ∧ ((kd s.toNatClampNeg = 10 ∨ kd s.toNatClampNeg = 11 ∨ kd s.toNatClampNeg = 12 ∨ kd s.toNatClampNeg = 14) ∨ (e = -1 ∧ p = 1) ∨ (¬ e = -1 ∧ ¬ p = 1 ∧ e = w ∧ n = v))
def uw_G (F : Nat) (kd fS fE fN oN oP oW oV : Nat → Int32) : Prop := ∀ i, i < F → uw_fr kd (fS i) (fE i) (fN i) (oN i) (oP i) (oW i) (oV i)
def uw_B (d m : Nat) (kd tg op fs sc sz zs sk : Nat → Int32) : Prop := uw_T kd tg op fs sc ∧ uw_S m sz zs ∧ uw_D d m kd fs sc sk
def uw_R (w : Nat) (u : SX) (v : SY) : Prop := ∃ (d m pc st F : Nat) (opc mop lou nxt edg edn way wth : Int32) (kd tg op fs sc sz sk wa ld hd tb po fS fE fN zs ar oN oP oW oV : Nat → Int32),
  u = (nI d, nI m, nI pc, nI st, opc, mop, lou, 0, 1, nxt, edg, edn, nI F, kd, tg, op, fs, sc, sz, sk, wa, ld, hd, tb, po, fS, fE, fN) ∧ v = (nI d, nI F, nxt, way, wth, opc, -1, 0, nI st, nI pc, mop, kd, tg, op, fs, sc, zs, sk, ar, ld, oN, oP, oW, oV, hd, tb, po) ∧ uw_B d m kd tg op fs sc sz zs sk ∧ st ≤ 300 ∧ pc ≤ st ∧ F ≤ st ∧ uw_G F kd fS fE fN oN oP oW oV ∧ opc.toInt ≤ 8 ∧ (w : Int) ≤ opc.toInt + 2000 ∧ ((nxt = -1 ∧ edg = way ∧ edn = wth ∧ ¬ edg = -1 ∧ w = 3 * (301 - st) + F + 1) ∨ (vp_in nxt 60 ∧ w = 3 * (301 - st) + F))
def uw_Q (u : SX) (v : SY) : Prop := ∃ (d m pc : Nat) (stp opc mop lou lth nxt edg edn frm opn nxy way wth cal : Int32) (kd tg op fs sc sz sk wa ld hd tb po fS fE fN zs ar oN oP oW oV : Nat → Int32),
  u = (nI d, nI m, nI pc, stp, opc, mop, lou, lth, 0, nxt, edg, edn, frm, kd, tg, op, fs, sc, sz, sk, wa, ld, hd, tb, po, fS, fE, fN) ∧ v = (nI d, opn, nxy, way, wth, cal, lou, lth, stp, nI pc, mop, kd, tg, op, fs, sc, zs, sk, ar, ld, oN, oP, oW, oV, hd, tb, po) ∧ uw_B d m kd tg op fs sc sz zs sk ∧ pc ≤ 300 ∧ ¬ lou = -1
def uw_O (w : Nat) (u : SX) (v : SY) : Prop := (∃ w', w' < w ∧ uw_R w' u v) ∨ uw_Q u v
def uw_N (w : Nat) (wx : (SX → Prop) → Prop) (wy : (SY → Prop) → Prop) : Prop := ∃ (u : SX) (v : SY), (∀ post : SX → Prop, post u → wx post) ∧ (∀ post : SY → Prop, post v → wy post) ∧ uw_O w u v
variable {std mde pct stp opc mop lou lth rng nxt edg edn frm dpt opn nxy way wth cal eng thr sts ots dps : Int32} {kd tg op fs sc sz sk wa ld hd tb po fS fE fN zs ar oN oP oW oV : Nat → Int32}
theorem uw_add {x : Int32} (h : -3000 ≤ x.toInt) (h' : x.toInt ≤ 8) : (x + 1).toInt = x.toInt + 1 ∧ (x - 1).toInt = x.toInt - 1 := by
  rw [Int32.toInt_add, Int32.toInt_sub, show (1 : Int32).toInt = 1 from by decide +kernel]
  exact ⟨Int.bmod_eq_of_le (by omega) (by omega), Int.bmod_eq_of_le (by omega) (by omega)⟩
theorem uw_o8 {x : Int32} (h' : x.toInt ≤ 8) : x < 8 ∨ x = 8 := by
  by_cases h : x < 8
  · exact Or.inl h
  · right
    apply Int32.toInt_inj.mp
    rw [Int32.lt_iff_toInt_lt] at h
    have e : (8 : Int32).toInt = 8 := by decide +kernel
    rw [e] at h ⊢
    omega
section
variable {w d m pc st F : Nat}
theorem uw_go1 (B : uw_B d m kd tg op fs sc sz zs sk) (hst : st ≤ 300) (hpc : pc ≤ st) (hF : F ≤ st) (hG : uw_G F kd fS fE fN oN oP oW oV) (h8 : opc.toInt ≤ 8) (hw : (w : Int) ≤ opc.toInt + 2001) (hn : vp_in nxt 60) (hlt : 3 * (301 - st) + F < w) : uw_O w (nI d, nI m, nI pc, nI st, opc, mop, lou, 0, 1, nxt, edg, edn, nI F, kd, tg, op, fs, sc, sz, sk, wa, ld, hd, tb, po, fS, fE, fN) (nI d, nI F, nxt, way, wth, opc, -1, 0, nI st, nI pc, mop, kd, tg, op, fs, sc, zs, sk, ar, ld, oN, oP, oW, oV, hd, tb, po) :=
  Or.inl ⟨_, hlt, d, m, pc, st, F, opc, mop, lou, nxt, edg, edn, way, wth, kd, tg, op, fs, sc, sz, sk, wa, ld, hd, tb, po, fS, fE, fN, zs, ar, oN, oP, oW, oV, rfl, rfl, B, hst, hpc, hF, hG, h8, by omega, Or.inr ⟨hn, rfl⟩⟩
theorem uw_go0 (B : uw_B d m kd tg op fs sc sz zs sk) (hst : st ≤ 300) (hpc : pc ≤ st) (hF : F ≤ st) (hG : uw_G F kd fS fE fN oN oP oW oV) (h8 : opc.toInt ≤ 8) (hw : (w : Int) ≤ opc.toInt + 2001) (hn : ¬ edg = -1) (hlt : 3 * (301 - st) + F + 1 < w) : uw_O w (nI d, nI m, nI pc, nI st, opc, mop, lou, 0, 1, -1, edg, edn, nI F, kd, tg, op, fs, sc, sz, sk, wa, ld, hd, tb, po, fS, fE, fN) (nI d, nI F, -1, edg, edn, opc, -1, 0, nI st, nI pc, mop, kd, tg, op, fs, sc, zs, sk, ar, ld, oN, oP, oW, oV, hd, tb, po) :=
  Or.inl ⟨_, hlt, d, m, pc, st, F, opc, mop, lou, -1, edg, edn, edg, edn, kd, tg, op, fs, sc, sz, sk, wa, ld, hd, tb, po, fS, fE, fN, zs, ar, oN, oP, oW, oV, rfl, rfl, B, hst, hpc, hF, hG, h8, by omega, Or.inl ⟨rfl, rfl, rfl, hn, rfl⟩⟩
theorem uw_goQ (B : uw_B d m kd tg op fs sc sz zs sk) (hpc : pc ≤ 300) (hl : ¬ lou = -1) : uw_O w (nI d, nI m, nI pc, stp, opc, mop, lou, lth, 0, nxt, edg, edn, frm, kd, tg, op, fs, sc, sz, sk, wa, ld, hd, tb, po, fS, fE, fN) (nI d, opn, nxy, way, wth, cal, lou, lth, stp, nI pc, mop, kd, tg, op, fs, sc, zs, sk, ar, ld, oN, oP, oW, oV, hd, tb, po) :=
  Or.inr ⟨d, m, pc, stp, opc, mop, lou, lth, nxt, edg, edn, frm, opn, nxy, way, wth, cal, kd, tg, op, fs, sc, sz, sk, wa, ld, hd, tb, po, fS, fE, fN, zs, ar, oN, oP, oW, oV, rfl, rfl, B, hpc, hl⟩
end
theorem uw_to_in {s f : Int32} (hs : vp_in s 60) (hf : vp_in f 20) : vp_in (uw_to s f) 60 := by
  obtain ⟨i, hi, rfl⟩ := vp_in_of hs (by decide)
  obtain ⟨j, hj, rfl⟩ := vp_in_of hf (by decide)
  have e : uw_to (nI i) (nI j) = nI (i / 20 * 20 + j) := by
    unfold uw_to
    rw [show (20 : Int32) = nI 20 from rfl, pk_div (by omega) (by decide) (by decide), pk_mul, nI_add]
  rw [e]
  exact vp_in_nI (by omega) (by omega)
/-- where a body begins -/
theorem uw_body {m : Nat} {o : Int32} (S : uw_S m sz zs) (ho : vp_in o 3) : vp_in (o * 20 + sz o.toNatClampNeg - 1) 60 ∧ 20 * o + zs o.toNatClampNeg - 1 = o * 20 + sz o.toNatClampNeg - 1 := by
  obtain ⟨p, hp, rfl⟩ := vp_in_of ho (by decide)
  obtain ⟨n, h1, h2, e1, e2⟩ := S.1 p hp
  obtain ⟨q, rfl⟩ : ∃ q, n = q + 1 := ⟨n - 1, by omega⟩
  have c : (nI p).toNatClampNeg = p := nI_clamp (by omega)
  rw [c, e1, e2]
  constructor
  · rw [show (20 : Int32) = nI 20 from rfl, pk_mul, nI_add, ← Nat.add_assoc, nI_pred]
    exact vp_in_nI (by omega) (by omega)
  · rw [Int32.mul_comm]
theorem uw_G_push {F : Nat} {s x y : Int32} (hG : uw_G F kd fS fE fN oN oP oW oV) (hs : vp_in s 60) : uw_G (F + 1) kd (upd fS F s) (upd fE F (-1)) fN (upd oN F s) (upd oP F 1) (upd oW F x) (upd oV F y) := by
  intro i hi
  by_cases e : i = F
  · subst e
    rw [pk_us, pk_us, pk_us, pk_us, pk_us, pk_us]
    exact ⟨hs, rfl, Or.inr (Or.inl ⟨rfl, rfl⟩)⟩
  · rw [pk_un e, pk_un e, pk_un e, pk_un e, pk_un e, pk_un e]
    exact hG i (by omega)
theorem uw_G_pop {G : Nat} (hG : uw_G (G + 1) kd fS fE fN oN oP oW oV) : uw_G G kd fS fE fN oN oP oW oV := fun i hi => hG i (by omega)
theorem uw_G_re {G : Nat} {x y : Int32} (hG : uw_G (G + 1) kd fS fE fN oN oP oW oV) (hk : kd (fS G).toNatClampNeg = 11) : uw_G (G + 1) kd fS fE fN (upd oN G (fS G)) (upd oP G 1) (upd oW G x) (upd oV G y) := by
  intro i hi
  by_cases e : i = G
  · subst e
    rw [pk_us, pk_us, pk_us, pk_us]
    exact ⟨(hG i hi).1, rfl, Or.inl (Or.inr (Or.inl hk))⟩
  · rw [pk_un e, pk_un e, pk_un e, pk_un e]
    exact hG i hi
theorem uw_G_la {G : Nat} {x y : Int32} (hG : uw_G (G + 1) kd fS fE fN oN oP oW oV) (hx : ¬ x = -1) : uw_G (G + 1) kd fS (upd fE G x) (upd fN G y) (upd oN G (fS G)) (upd oP G 2) (upd oW G x) (upd oV G y) := by
  intro i hi
  by_cases e : i = G
  · subst e
    rw [pk_us, pk_us, pk_us, pk_us, pk_us, pk_us]
    exact ⟨(hG i hi).1, rfl, Or.inr (Or.inr ⟨hx, by decide +kernel, rfl, rfl⟩)⟩
  · rw [pk_un e, pk_un e, pk_un e, pk_un e, pk_un e, pk_un e]
    exact hG i hi
section
variable {w d m pc st F : Nat}
theorem uw_begin (B : uw_B d m kd tg op fs sc sz zs sk) (hst : st ≤ 300) (hpc : pc ≤ st) (hF : F ≤ st) (hG : uw_G F kd fS fE fN oN oP oW oV) (h8 : opc.toInt ≤ 8) (hw : (w : Int) ≤ opc.toInt + 2000) (hn : vp_in nxt 60) (ew : w = 3 * (301 - st) + F) : uw_N w (fun post => wpX_beginStatement post (nI d, nI m, nI pc, nI st, opc, mop, lou, 0, 1, nxt, edg, edn, nI F, kd, tg, op, fs, sc, sz, sk, wa, ld, hd, tb, po, fS, fE, fN) nxt) (fun post => wpY_begin post (nI d, nI F, nxt, way, wth, opc, -1, 0, nI st, nI pc, mop, kd, tg, op, fs, sc, zs, sk, ar, ld, oN, oP, oW, oV, hd, tb, po)) := by
  by_cases ht : st = 300
  · subst ht
    exact ⟨_, _, fun post H => uw_xtired H, fun post H => uw_ytired H, uw_goQ B (by omega) (by decide +kernel)⟩
  have hs3 : st < 300 := by omega
  have hc := uw_inc hn (by decide)
  obtain ⟨a, ha, hk, ht, ho, hc3, hf, hs⟩ := B.1 nxt.toNatClampNeg (by omega)
  have ad := uw_add (x := opc) (by omega) h8
  rcases (by omega : a = 0 ∨ a = 1 ∨ a = 2 ∨ a = 3 ∨ a = 4 ∨ a = 5 ∨ a = 6 ∨ a = 7 ∨ a = 8 ∨ a = 9 ∨ a = 10 ∨ a = 11 ∨ a = 12 ∨ a = 13 ∨ a = 14 ∨ a = 15) with ea | ea | ea | ea | ea | ea | ea | ea | ea | ea | ea | ea | ea | ea | ea | ea <;> subst ea
  · exact ⟨_, _, fun post H => uw_xb0 hs3 hn hk H, fun post H => uw_yb0 hs3 hn hk H, uw_go0 B (by omega) (by omega) (by omega) hG h8 (by omega) (by decide +kernel) (by omega)⟩
  · exact ⟨_, _, fun post H => uw_xb1 hs3 hn hk (ht (by omega)) H, fun post H => uw_yb1 hs3 hn hk (ht (by omega)) H, uw_go0 B (by omega) (by omega) (by omega) hG h8 (by omega) (by decide +kernel) (by omega)⟩
  · exact ⟨_, _, fun post H => uw_xb2 hs3 hn hk (ht (by omega)) (ho (by omega)) H, fun post H => uw_yb2 hs3 hn hk (ht (by omega)) (ho (by omega)) H, uw_go0 B (by omega) (by omega) (by omega) hG h8 (by omega) (by decide +kernel) (by omega)⟩
  · exact ⟨_, _, fun post H => uw_xb3 hs3 hn hk (ht (by omega)) (ho (by omega)) H, fun post H => uw_yb3 hs3 hn hk (ht (by omega)) (ho (by omega)) H, uw_go0 B (by omega) (by omega) (by omega) hG h8 (by omega) (by decide +kernel) (by omega)⟩
  · exact ⟨_, _, fun post H => uw_xb4 hs3 hn hk (ht (by omega)) (ho (by omega)) H, fun post H => uw_yb4 hs3 hn hk (ht (by omega)) (ho (by omega)) H, uw_go0 B (by omega) (by omega) (by omega) hG h8 (by omega) (by decide +kernel) (by omega)⟩
  · exact ⟨_, _, fun post H => uw_xb5 hs3 hn hk (ht (by omega)) (by omega) H, fun post H => uw_yb5 hs3 hn hk (ht (by omega)) (by omega) H, uw_go0 B (by omega) (by omega) (by omega) hG h8 (by omega) (by decide +kernel) (by omega)⟩
  · exact ⟨_, _, fun post H => uw_xb6 hs3 hn hk (ht (by omega)) H, fun post H => uw_yb6 hs3 hn hk (ht (by omega)) H, uw_go0 B (by omega) (by omega) (by omega) hG h8 (by omega) (by decide +kernel) (by omega)⟩
  · exact ⟨_, _, fun post H => uw_xb7 hs3 hn hk H, fun post H => uw_yb7 hs3 hn hk H, uw_go0 B (by omega) (by omega) (by omega) hG h8 (by omega) (by decide +kernel) (by omega)⟩
  · exact ⟨_, _, fun post H => uw_xb8 hs3 hn hk H, fun post H => uw_yb8 hs3 hn hk H, uw_go0 B (by omega) (by omega) (by omega) hG h8 (by omega) (by decide +kernel) (by omega)⟩
  · exact ⟨_, _, fun post H => uw_xb9 hs3 hn hk H, fun post H => uw_yb9 hs3 hn hk H, uw_go0 B (by omega) (by omega) (by omega) hG h8 (by omega) (by decide +kernel) (by omega)⟩
  · have ho := hc3 rfl
    have hb := uw_body B.2.1 ho
    rcases uw_o8 h8 with h | h
    · have h8' : ¬ opc = 8 := fun z => by rw [z] at h; exact absurd h (by decide +kernel)
      have h9 : (opc + 1).toInt ≤ 8 := by
        rw [Int32.lt_iff_toInt_lt, show (8 : Int32).toInt = 8 from by decide +kernel] at h
        omega
      exact ⟨_, _, fun post H => uw_xb10 hs3 hn hk h (by omega) ho H, fun post H => uw_yb10 hs3 hn hk h8' (by omega) ho (by rw [hb.2]; exact H), uw_go1 B (by omega) (by omega) (by omega) (uw_G_push hG hn) h9 (by omega) hb.1 (by omega)⟩
    · have h' : ¬ opc < 8 := fun z => by rw [h] at z; exact absurd z (by decide +kernel)
      exact ⟨_, _, fun post H => uw_xb10d hs3 hn hk h' H, fun post H => uw_yb10d hs3 hn hk h H, uw_goQ B (by omega) (by decide +kernel)⟩
  · have ht := ht (by omega)
    by_cases hz : hd (tg nxt.toNatClampNeg).toNatClampNeg = 0
    · exact ⟨_, _, fun post H => uw_xb11z hs3 hn hk ht hz H, fun post H => uw_yb11z hs3 hn hk ht hz H, uw_go0 B (by omega) (by omega) (by omega) hG h8 (by omega) (by decide +kernel) (by omega)⟩
    · exact ⟨_, _, fun post H => uw_xb11 hs3 hn hk ht hz (by omega) H, fun post H => uw_yb11 hs3 hn hk ht hz (by omega) H, uw_go1 B (by omega) (by omega) (by omega) (uw_G_push hG hn) h8 (by omega) (uw_to_in hn hf) (by omega)⟩
  · exact ⟨_, _, fun post H => uw_xb12 hs3 hn hk (by omega) H, fun post H => uw_yb12 hs3 hn hk (by omega) H, uw_go1 B (by omega) (by omega) (by omega) (uw_G_push hG hn) h8 (by omega) (uw_to_in hn hf) (by omega)⟩
  · have ht := ht (by omega)
    by_cases hz : hd (tg nxt.toNatClampNeg).toNatClampNeg = 0
    · exact ⟨_, _, fun post H => uw_xb13z hs3 hn hk ht hz H, fun post H => uw_yb13z hs3 hn hk ht hz H, uw_go1 B (by omega) (by omega) (by omega) hG h8 (by omega) (uw_to_in hn hs) (by omega)⟩
    · exact ⟨_, _, fun post H => uw_xb13 hs3 hn hk ht hz H, fun post H => uw_yb13 hs3 hn hk ht hz H, uw_go1 B (by omega) (by omega) (by omega) hG h8 (by omega) (uw_to_in hn hf) (by omega)⟩
  · exact ⟨_, _, fun post H => uw_xb14 hs3 hn hk (by omega) H, fun post H => uw_yb14 hs3 hn hk (by omega) H, uw_go1 B (by omega) (by omega) (by omega) (uw_G_push hG hn) h8 (by omega) (uw_to_in hn hf) (by omega)⟩
  · exact ⟨_, _, fun post H => uw_xb15 hs3 hn hk (by omega) H, fun post H => uw_yb15 hs3 hn hk (by omega) H, uw_go1 B (by omega) (by omega) (by omega) (uw_G_push hG hn) h8 (by omega) (uw_to_in hn hf) (by omega)⟩
end
end
section
/-! one turn that passes an ending on -/
variable {std mde pct stp opc mop lou lth rng nxt edg edn frm dpt opn nxy way wth cal eng thr sts ots dps : Int32} {kd tg op fs sc sz sk wa ld hd tb po fS fE fN zs ar oN oP oW oV : Nat → Int32}
section
variable {w d m pc st F : Nat}
theorem uw_pass (B : uw_B d m kd tg op fs sc sz zs sk) (hst : st ≤ 300) (hpc : pc ≤ st) (hF : F ≤ st) (hG : uw_G F kd fS fE fN oN oP oW oV) (h8 : opc.toInt ≤ 8) (hw : (w : Int) ≤ opc.toInt + 2000) (hne : ¬ edg = -1) (ew : w = 3 * (301 - st) + F + 1) : uw_N w (fun post => wpX_passEndingOn post (nI d, nI m, nI pc, nI st, opc, mop, lou, 0, 1, -1, edg, edn, nI F, kd, tg, op, fs, sc, sz, sk, wa, ld, hd, tb, po, fS, fE, fN)) (fun post => wpY_passUp post (nI d, nI F, -1, edg, edn, opc, -1, 0, nI st, nI pc, mop, kd, tg, op, fs, sc, zs, sk, ar, ld, oN, oP, oW, oV, hd, tb, po)) := by
  by_cases hF0 : F = 0
  · subst hF0
    by_cases h1 : edg = 1
    · subst h1
      exact ⟨_, _, fun post H => uw_xend1 H, fun post H => uw_yend1 H, uw_goQ B (by omega) (by decide +kernel)⟩
    · exact ⟨_, _, fun post H => uw_xend0 h1 H, fun post H => uw_yend0 h1 H, uw_goQ B (by omega) (by decide +kernel)⟩
  obtain ⟨G, rfl⟩ : ∃ G, F = G + 1 := ⟨F - 1, by omega⟩
  have hG3 : G < 300 := by omega
  obtain ⟨h60, es, h3⟩ := hG G (by omega)
  have h80 : vp_in (fS G) 80 := uw_in h60 (by omega)
  obtain ⟨a, ha, hk, ht, ho, hc3, hf, hs⟩ := B.1 (fS G).toNatClampNeg (uw_inc h80 (by decide))
  have ad := uw_add (x := opc) (by omega) h8
  have hP := uw_G_pop hG
  by_cases k10 : kd (fS G).toNatClampNeg = 10
  · by_cases h1 : edg = 1
    · subst h1
      exact ⟨_, _, fun post H => uw_xp10t hG3 h80 k10 H, fun post H => uw_yp10t es hG3 h80 k10 H, uw_go0 B (by omega) (by omega) (by omega) hP (by omega) (by omega) hne (by omega)⟩
    · exact ⟨_, _, fun post H => uw_xp10 hG3 h80 k10 h1 H, fun post H => uw_yp10 es hG3 h80 k10 h1 H, uw_go0 B (by omega) (by omega) (by omega) hP (by omega) (by omega) (by decide +kernel) (by omega)⟩
  by_cases k11 : kd (fS G).toNatClampNeg = 11
  · have ht := ht (Or.inr (Or.inl ((nI_eq (b := 11) (by omega) (by decide)).mp (hk.symm.trans k11))))
    by_cases e0 : edg = 0
    · subst e0
      by_cases hz : hd (tg (fS G).toNatClampNeg).toNatClampNeg = 0
      · exact ⟨_, _, fun post H => uw_xp11_0z hG3 h80 k11 ht hz H, fun post H => uw_yp11_0z es hG3 h80 k11 ht hz H, uw_go0 B (by omega) (by omega) (by omega) hP h8 (by omega) (by decide +kernel) (by omega)⟩
      · exact ⟨_, _, fun post H => uw_xp11_0n hG3 h80 k11 ht hz H, fun post H => uw_yp11_0n es hG3 h80 k11 ht hz H, uw_go1 B (by omega) (by omega) (by omega) (uw_G_re hG k11) h8 (by omega) (uw_to_in h60 hf) (by omega)⟩
    by_cases e3 : edg = 3
    · subst e3
      by_cases hn : edn = 0
      · subst hn
        by_cases hz : hd (tg (fS G).toNatClampNeg).toNatClampNeg = 0
        · exact ⟨_, _, fun post H => uw_xp11_30z hG3 h80 k11 ht hz H, fun post H => uw_yp11_30z es hG3 h80 k11 ht hz H, uw_go0 B (by omega) (by omega) (by omega) hP h8 (by omega) (by decide +kernel) (by omega)⟩
        · exact ⟨_, _, fun post H => uw_xp11_30n hG3 h80 k11 ht hz H, fun post H => uw_yp11_30n es hG3 h80 k11 ht hz H, uw_go1 B (by omega) (by omega) (by omega) (uw_G_re hG k11) h8 (by omega) (uw_to_in h60 hf) (by omega)⟩
      · exact ⟨_, _, fun post H => uw_xp11_3 hG3 h80 k11 ht hn H, fun post H => uw_yp11_3 es hG3 h80 k11 ht hn H, uw_go0 B (by omega) (by omega) (by omega) hP h8 (by omega) hne (by omega)⟩
    by_cases e2 : edg = 2
    · subst e2
      by_cases hn : edn = 0
      · subst hn
        exact ⟨_, _, fun post H => uw_xp11_20 hG3 h80 k11 ht H, fun post H => uw_yp11_20 es hG3 h80 k11 ht H, uw_go0 B (by omega) (by omega) (by omega) hP h8 (by omega) (by decide +kernel) (by omega)⟩
      · exact ⟨_, _, fun post H => uw_xp11_2 hG3 h80 k11 ht hn H, fun post H => uw_yp11_2 es hG3 h80 k11 ht hn H, uw_go0 B (by omega) (by omega) (by omega) hP h8 (by omega) hne (by omega)⟩
    · exact ⟨_, _, fun post H => uw_xp11 hG3 h80 k11 ht e0 e2 e3 H, fun post H => uw_yp11 es hG3 h80 k11 ht e0 e2 e3 H, uw_go0 B (by omega) (by omega) (by omega) hP h8 (by omega) hne (by omega)⟩
  by_cases k12 : kd (fS G).toNatClampNeg = 12
  · by_cases e0 : edg = 0
    · subst e0
      exact ⟨_, _, fun post H => uw_xp12n hG3 h80 k12 H, fun post H => uw_yp12n es hG3 h80 k12 H, uw_go1 B (by omega) (by omega) (by omega) hP h8 (by omega) (uw_to_in h60 hs) (by omega)⟩
    · exact ⟨_, _, fun post H => uw_xp12 hG3 h80 k12 e0 H, fun post H => uw_yp12 es hG3 h80 k12 e0 H, uw_go0 B (by omega) (by omega) (by omega) hP h8 (by omega) hne (by omega)⟩
  by_cases k14 : kd (fS G).toNatClampNeg = 14
  · have ht := ht (Or.inr (Or.inr (Or.inr ((nI_eq (b := 14) (by omega) (by decide)).mp (hk.symm.trans k14)))))
    by_cases e1 : edg = 1
    · subst e1
      exact ⟨_, _, fun post H => uw_xp14t hG3 h80 k14 ht H, fun post H => uw_yp14t es hG3 h80 k14 ht H, uw_go1 B (by omega) (by omega) (by omega) hP h8 (by omega) (uw_to_in h60 hs) (by omega)⟩
    · exact ⟨_, _, fun post H => uw_xp14 hG3 h80 k14 e1 H, fun post H => uw_yp14 es hG3 h80 k14 e1 H, uw_go0 B (by omega) (by omega) (by omega) hP h8 (by omega) hne (by omega)⟩
  rcases h3 with h | ⟨hE, hP1⟩ | ⟨hE, hP1, hW, hV⟩
  · rcases h with h | h | h | h
    · exact absurd h k10
    · exact absurd h k11
    · exact absurd h k12
    · exact absurd h k14
  · exact ⟨_, _, fun post H => uw_xp15a hG3 h80 ha hk k10 k11 k12 k14 hE H, fun post H => uw_yp15a es hG3 h80 k10 k11 k12 k14 hP1 H, uw_go1 B (by omega) (by omega) (by omega) (uw_G_la hG hne) h8 (by omega) (uw_to_in h60 hs) (by omega)⟩
  · by_cases e0 : edg = 0
    · subst e0
      refine ⟨_, _, fun post H => uw_xp15n hG3 h80 ha hk k10 k11 k12 k14 hE H, fun post H => uw_yp15n es hG3 h80 k10 k11 k12 k14 hP1 H, ?_⟩
      rw [← hW, ← hV]
      exact uw_go0 B (by omega) (by omega) (by omega) hP h8 (by omega) hE (by omega)
    · exact ⟨_, _, fun post H => uw_xp15 hG3 h80 ha hk k10 k11 k12 k14 hE e0 H, fun post H => uw_yp15 es hG3 h80 k10 k11 k12 k14 hP1 e0 H, uw_go0 B (by omega) (by omega) (by omega) hP h8 (by omega) hne (by omega)⟩
end
/-- the two loops of a run -/
def uw_lX (post : Int32 → SX → Prop) (n : Nat) (x2 : Int32) (u : SX) : Prop := match u with
  | (std, mde, pct, stp, opc, mop, lou, lth, rng, nxt, edg, edn, frm, kd, tg, op, fs, sc, sz, sk, wa, ld, hd, tb, po, fS, fE, fN) => wX_run_16 post n x2 std mde pct stp opc mop lou lth rng nxt edg edn frm kd tg op fs sc sz sk wa ld hd tb po fS fE fN
def uw_lY (post : Int32 → SY → Prop) (n : Nat) (v : SY) : Prop := match v with
  | (dpt, opn, nxy, way, wth, cal, eng, thr, sts, ots, dps, kd, tg, op, fs, sc, zs, sk, ar, ld, oN, oP, oW, oV, hd, tb, po) => wY_run_119 post n dpt opn nxy way wth cal eng thr sts ots dps kd tg op fs sc zs sk ar ld oN oP oW oV hd tb po
def uw_oX (u : SX) : Int32 := match u with
  | (std, mde, pct, stp, opc, mop, lou, lth, rng, nxt, edg, edn, frm, kd, tg, op, fs, sc, sz, sk, wa, ld, hd, tb, po, fS, fE, fN) => lou
theorem uw_runQ {u : SX} {v : SY} {t n : Nat} (ht : t < 1000000) (h : uw_Q u v) : (∀ post : Int32 → SX → Prop, post (uw_oX u) u → uw_lX post (n + 1) (nI t) u) ∧ (∀ post : Int32 → SY → Prop, post (uw_oX u) v → uw_lY post (n + 1) v) := by
  obtain ⟨d, m, pc, stp, opc, mop, lou, lth, nxt, edg, edn, frm, opn, nxy, way, wth, cal, kd, tg, op, fs, sc, sz, sk, wa, ld, hd, tb, po, fS, fE, fN, zs, ar, oN, oP, oW, oV, rfl, rfl, B, hpc, hl⟩ := h
  have h1 : ¬ (1000000 : Int32) ≤ nI t := nI_ge (b := 1000000) ht (by decide)
  exact ⟨fun post H => br_f h1 (br_t rfl H), fun post H => br_f hl H⟩
theorem uw_turns : ∀ (w : Nat) (u : SX) (v : SY) (t : Nat), uw_R w u v → t + w < 5000 → ∃ (u' : SX) (v' : SY), uw_Q u' v' ∧ (∀ (post : Int32 → SX → Prop) (n : Nat), w + 1 < n → post (uw_oX u') u' → uw_lX post n (nI t) u) ∧ (∀ (post : Int32 → SY → Prop) (n : Nat), w + 1 < n → post (uw_oX u') v' → uw_lY post n v) := by
  intro w
  induction w using Nat.strongRecOn with
  | ind w ih =>
    intro u v t h ht
    obtain ⟨d, m, pc, st, F, opc, mop, lou, nxt, edg, edn, way, wth, kd, tg, op, fs, sc, sz, sk, wa, ld, hd, tb, po, fS, fE, fN, zs, ar, oN, oP, oW, oV, rfl, rfl, B, hst, hpc, hF, hG, h8, hw, hc⟩ := h
    have h1 : ¬ (1000000 : Int32) ≤ nI t := nI_ge (b := 1000000) (by omega) (by decide)
    have fin : ∀ (u' : SX) (v' : SY), uw_O w u' v' → ∃ (u'' : SX) (v'' : SY), uw_Q u'' v'' ∧ (∀ (post : Int32 → SX → Prop) (n : Nat), w < n → post (uw_oX u'') u'' → uw_lX post n (nI (t + 1)) u') ∧ (∀ (post : Int32 → SY → Prop) (n : Nat), w < n → post (uw_oX u'') v'' → uw_lY post n v') := by
      intro u' v' hO
      rcases hO with ⟨w', hlt, R⟩ | Q
      · obtain ⟨a, b, q, hx, hy⟩ := ih w' hlt u' v' (t + 1) R (by omega)
        exact ⟨a, b, q, fun post n hn H => hx post n (by omega) H, fun post n hn H => hy post n (by omega) H⟩
      · refine ⟨u', v', Q, fun post n hn H => ?_, fun post n hn H => ?_⟩
        · obtain ⟨n, rfl⟩ : ∃ q, n = q + 1 := ⟨n - 1, by omega⟩
          exact (uw_runQ (by omega) Q).1 post H
        · obtain ⟨n, rfl⟩ : ∃ q, n = q + 1 := ⟨n - 1, by omega⟩
          exact (uw_runQ (t := t + 1) (by omega) Q).2 post H
    rcases hc with ⟨rfl, rfl, rfl, hne, ew⟩ | ⟨hn, ew⟩
    · obtain ⟨u', v', hx, hy, hO⟩ := uw_pass (edn := edn) (lou := lou) (mop := mop) (wa := wa) (ld := ld) (hd := hd) (tb := tb) (po := po) (ar := ar) B hst hpc hF hG h8 hw hne ew
      obtain ⟨u'', v'', q, gx, gy⟩ := fin u' v' hO
      refine ⟨u'', v'', q, fun post n hn H => ?_, fun post n hn H => ?_⟩
      · obtain ⟨n, rfl⟩ : ∃ q, n = q + 1 := ⟨n - 1, by omega⟩
        exact br_f h1 (br_f uw_10 (br_t rfl (hx _ (nm_r (nI_1 t) (gx post n (by omega) H)))))
      · obtain ⟨n, rfl⟩ : ∃ q, n = q + 1 := ⟨n - 1, by omega⟩
        exact br_t rfl (br_t (by decide +kernel : (-1 : Int32) < 0) (hy _ (gy post n (by omega) H)))
    · obtain ⟨u', v', hx, hy, hO⟩ := uw_begin (edn := edn) (edg := edg) (way := way) (wth := wth) (lou := lou) (mop := mop) (wa := wa) (ld := ld) (hd := hd) (tb := tb) (po := po) (ar := ar) B hst hpc hF hG h8 hw hn ew
      obtain ⟨u'', v'', q, gx, gy⟩ := fin u' v' hO
      have hn0 := uw_lt0 hn
      have hn1 : ¬ nxt = -1 := fun z => hn0 (by rw [z]; decide +kernel)
      refine ⟨u'', v'', q, fun post n hn H => ?_, fun post n hn H => ?_⟩
      · obtain ⟨n, rfl⟩ : ∃ q, n = q + 1 := ⟨n - 1, by omega⟩
        exact br_f h1 (br_f uw_10 (br_f hn1 (hx _ (nm_r (nI_1 t) (gx post n (by omega) H)))))
      · obtain ⟨n, rfl⟩ : ∃ q, n = q + 1 := ⟨n - 1, by omega⟩
        exact br_t rfl (br_f hn0 (hy _ (gy post n (by omega) H)))
end
section
/-! run: the beginning of a run on both sides, then its turns -/
variable {std mde pct stp opc mop lou lth rng nxt edg edn frm dpt opn nxy way wth cal eng thr sts ots dps : Int32} {kd tg op fs sc sz sk wa ld hd tb po fS fE fN zs ar oN oP oW oV : Nat → Int32}
theorem uw_fillh {x1 : Int32} : ∀ (e c : Nat) (hd : Nat → Int32), c + e = 4 → ∃ hd' : Nat → Int32, (∀ (post : SX → Prop) (n : Nat), e < n → (∃ n27 : Nat, wX_startRun_27 post x1 std mde pct stp opc mop lou lth rng nxt edg edn frm n27 0 kd tg op fs sc sz sk wa ld hd' tb po fS fE fN) → wX_startRun_2 post x1 std mde pct stp opc mop lou lth rng nxt edg edn frm n (nI c) kd tg op fs sc sz sk wa ld hd tb po fS fE fN) ∧ (∀ (post : Int32 → SY → Prop) (n : Nat), e < n → (∃ n83 : Nat, wY_run_83 post x1 dpt opn nxy way wth cal eng thr sts ots dps n83 0 kd tg op fs sc zs sk ar ld oN oP oW oV hd' tb po) → wY_run_58 post x1 dpt opn nxy way wth cal eng thr sts ots dps n (nI c) kd tg op fs sc zs sk ar ld oN oP oW oV hd tb po) := by
  intro e
  induction e with
  | zero =>
    intro c hd hc
    have h : (4 : Int32) ≤ nI c := nI_le (a := 4) (by omega) (by omega)
    refine ⟨hd, fun post n hn H => ?_, fun post n hn H => ?_⟩
    · obtain ⟨n, rfl⟩ : ∃ q, n = q + 1 := ⟨n - 1, by omega⟩
      exact br_t h H
    · obtain ⟨n, rfl⟩ : ∃ q, n = q + 1 := ⟨n - 1, by omega⟩
      exact br_t h H
  | succ e ih =>
    intro c hd hc
    have h : ¬ (4 : Int32) ≤ nI c := nI_ge (b := 4) (by omega) (by decide)
    have i : vp_in (nI c) 4 := vp_in_nI (by omega) (by omega)
    obtain ⟨hd', hx, hy⟩ := ih (c + 1) (upd hd (nI c).toNatClampNeg (ld (nI c).toNatClampNeg)) (by omega)
    refine ⟨hd', fun post n hn H => ?_, fun post n hn H => ?_⟩
    · obtain ⟨n, rfl⟩ : ∃ q, n = q + 1 := ⟨n - 1, by omega⟩
      exact br_f h ⟨i, i, nm_e (nm_r (nI_1 c) (hx post n (by omega) H))⟩
    · obtain ⟨n, rfl⟩ : ∃ q, n = q + 1 := ⟨n - 1, by omega⟩
      exact br_f h ⟨i, i, nm_e (nm_r (nI_1 c) (hy post n (by omega) H))⟩
theorem uw_fillb {x1 : Int32} (h3 : vp_in x1 3) : ∀ (e c : Nat) (tb : Nat → Int32), c + e = 60 → ∃ tb' : Nat → Int32, (∀ (post : SX → Prop) (n : Nat), e < n → post (std, mde, 0, 0, 0, 0, lou, 0, 1, x1 * 20 + sz x1.toNatClampNeg - 1, edg, edn, 0, kd, tg, op, fs, sc, sz, sk, wa, ld, hd, tb', po, fS, fE, fN) → wX_startRun_27 post x1 std mde pct stp opc mop lou lth rng nxt edg edn frm n (nI c) kd tg op fs sc sz sk wa ld hd tb po fS fE fN) ∧ (∀ (post : Int32 → SY → Prop) (n : Nat), e < n → (∃ n119 : Nat, wY_run_119 post n119 dpt opn (20 * x1 + zs x1.toNatClampNeg - 1) way wth cal eng thr sts ots dps kd tg op fs sc zs sk ar ld oN oP oW oV hd tb' po) → wY_run_83 post x1 dpt opn nxy way wth cal eng thr sts ots dps n (nI c) kd tg op fs sc zs sk ar ld oN oP oW oV hd tb po) := by
  intro e
  induction e with
  | zero =>
    intro c tb hc
    have h : (60 : Int32) ≤ nI c := nI_le (a := 60) (by omega) (by omega)
    refine ⟨tb, fun post n hn H => ?_, fun post n hn H => ?_⟩
    · obtain ⟨n, rfl⟩ : ∃ q, n = q + 1 := ⟨n - 1, by omega⟩
      refine br_t h ?_
      dsimp only [wpX_goToBody]
      exact ⟨h3, nm_e H⟩
    · obtain ⟨n, rfl⟩ : ∃ q, n = q + 1 := ⟨n - 1, by omega⟩
      exact br_t h ⟨uw_in h3 (by omega), nm_e H⟩
  | succ e ih =>
    intro c tb hc
    have h : ¬ (60 : Int32) ≤ nI c := nI_ge (b := 60) (by omega) (by decide)
    have i : vp_in (nI c) 60 := vp_in_nI (by omega) (by omega)
    obtain ⟨tb', hx, hy⟩ := ih (c + 1) (upd tb (nI c).toNatClampNeg 0) (by omega)
    refine ⟨tb', fun post n hn H => ?_, fun post n hn H => ?_⟩
    · obtain ⟨n, rfl⟩ : ∃ q, n = q + 1 := ⟨n - 1, by omega⟩
      exact br_f h ⟨i, nm_e (nm_r (nI_1 c) (hx post n (by omega) H))⟩
    · obtain ⟨n, rfl⟩ : ∃ q, n = q + 1 := ⟨n - 1, by omega⟩
      exact br_f h ⟨i, nm_e (nm_r (nI_1 c) (hy post n (by omega) H))⟩
theorem uw_QR {k : Nat} {u : SX} {v : SY} (h : uw_Q u v) : i_Rel k u v := by
  obtain ⟨d, m, pc, stp, opc, mop, lou, lth, nxt, edg, edn, frm, opn, nxy, way, wth, cal, kd, tg, op, fs, sc, sz, sk, wa, ld, hd, tb, po, fS, fE, fN, zs, ar, oN, oP, oW, oV, rfl, rfl, B, hpc, hl⟩ := h
  exact uw_mk B.1 B.2.1 B.2.2 hpc
theorem uw_run {k : Nat} {u : SX} {v : SY} (I : i_Rel k u v) (v1 : Int32) : uw_E (k + 4) (fun post => wpX_run post u v1) (fun post => wpY_run post v v1) := by
  have I0 := I
  obtain ⟨d, m, pc, stp, opc, mop, lou, lth, rng, nxt, edg, edn, frm, opn, nxy, way, wth, cal, kd, tg, op, fs, sc, sz, sk, wa, ld, hd, tb, po, fS, fE, fN, zs, ar, oN, oP, oW, oV, rfl, rfl, T, S, D, hp⟩ := I
  by_cases hv : vp_in v1 3
  · obtain ⟨hv0, hv2⟩ := (uw_s3 v1).mp hv
    have hb := uw_body S hv
    obtain ⟨hd', fx, fy⟩ := uw_fillh (x1 := v1) (std := nI d) (mde := nI m) (pct := nI pc) (stp := stp) (opc := opc) (mop := mop) (lou := lou) (lth := lth) (rng := rng) (nxt := nxt) (edg := edg) (edn := edn) (frm := frm) (kd := kd) (tg := tg) (op := op) (fs := fs) (sc := sc) (sz := sz) (sk := sk) (wa := wa) (ld := ld) (tb := tb) (po := po) (fS := fS) (fE := fE) (fN := fN) (dpt := nI d) (opn := 0) (nxy := nxy) (way := 0) (wth := 0) (cal := 0) (eng := -1) (thr := 0) (sts := 0) (ots := 0) (dps := 0) (zs := zs) (ar := ar) (oN := oN) (oP := oP) (oW := oW) (oV := oV) 4 0 hd (by omega)
    obtain ⟨tb', gx, gy⟩ := uw_fillb (x1 := v1) (std := nI d) (mde := nI m) (pct := nI pc) (stp := stp) (opc := opc) (mop := mop) (lou := lou) (lth := lth) (rng := rng) (nxt := nxt) (edg := edg) (edn := edn) (frm := frm) (kd := kd) (tg := tg) (op := op) (fs := fs) (sc := sc) (sz := sz) (sk := sk) (wa := wa) (ld := ld) (hd := hd') (po := po) (fS := fS) (fE := fE) (fN := fN) (dpt := nI d) (opn := 0) (nxy := nxy) (way := 0) (wth := 0) (cal := 0) (eng := -1) (thr := 0) (sts := 0) (ots := 0) (dps := 0) (zs := zs) (ar := ar) (oN := oN) (oP := oP) (oW := oW) (oV := oV) hv 60 0 tb (by omega)
    have R : uw_R 903 (nI d, nI m, nI 0, nI 0, 0, 0, lou, 0, 1, v1 * 20 + sz v1.toNatClampNeg - 1, edg, edn, nI 0, kd, tg, op, fs, sc, sz, sk, wa, ld, hd', tb', po, fS, fE, fN) (nI d, nI 0, v1 * 20 + sz v1.toNatClampNeg - 1, 0, 0, 0, -1, 0, nI 0, nI 0, 0, kd, tg, op, fs, sc, zs, sk, ar, ld, oN, oP, oW, oV, hd', tb', po) :=
      ⟨d, m, 0, 0, 0, 0, 0, lou, v1 * 20 + sz v1.toNatClampNeg - 1, edg, edn, 0, 0, kd, tg, op, fs, sc, sz, sk, wa, ld, hd', tb', po, fS, fE, fN, zs, ar, oN, oP, oW, oV, rfl, rfl, ⟨T, S, D⟩, by omega, by omega, by omega, fun i hi => absurd hi (by omega), by decide +kernel, by decide +kernel, Or.inr ⟨hb.1, by decide⟩⟩
    obtain ⟨u', v', Q, hx, hy⟩ := uw_turns 903 _ _ 0 R (by omega)
    refine ⟨uw_oX u', u', v', fun post H => ?_, fun post H => ?_, uw_QR Q⟩
    · dsimp only [wpX_run]
      refine uw_xp (fun _ => br_f uw_10 ?_) (fun z => absurd hv z)
      dsimp only [wpX_startRun]
      have hx2 := hx post 906 (by omega) H
      dsimp only [uw_lX] at hx2
      refine ⟨5, fx _ _ (by omega) ⟨61, gx _ _ (by omega) ?_⟩⟩
      dsimp only
      exact ⟨906, hx2⟩
    · have hy2 := hy post 906 (by omega) H
      dsimp only [uw_lY] at hy2
      refine br_f hv0 (br_t hv2 ⟨5, fy _ _ (by omega) ⟨61, gy _ _ (by omega) ?_⟩⟩)
      rw [hb.2]
      exact ⟨906, hy2⟩
  · refine ⟨-1, _, _, fun post H => (by dsimp only [wpX_run]; exact uw_xp (fun z => absurd z hv) (fun _ => br_t rfl H)), fun post H => ?_, I0⟩
    by_cases h0 : v1 < 0
    · exact br_t h0 H
    · by_cases h2 : v1 ≤ 2
      · exact absurd ((uw_s3 v1).mpr ⟨h0, h2⟩) hv
      · exact br_f h0 (br_f h2 H)
theorem uw_init : wpX_init (fun u => wpY_init (fun v => i_Rel 0 u v)) := by
  have i0 : vp_in 0 3 := vp_in_nI (n := 0) (by decide) (by decide)
  have i1 : vp_in 1 3 := vp_in_nI (n := 1) (by decide) (by decide)
  have i2 : vp_in 2 3 := vp_in_nI (n := 2) (by decide) (by decide)
  have g0 : ¬ (3 : Int32) ≤ 0 := by decide +kernel
  have g1 : ¬ (3 : Int32) ≤ 1 := by decide +kernel
  have g2 : ¬ (3 : Int32) ≤ 2 := by decide +kernel
  have g3 : (3 : Int32) ≤ 3 := by decide +kernel
  have z20 : vp_in 0 20 := vp_in_nI (n := 0) (by decide) (by decide)
  have T : uw_T (fun _ => 0) (fun _ => 0) (fun _ => 0) (fun _ => 0) (fun _ => 0) := fun i _ => ⟨0, by omega, rfl, fun h => absurd h (by omega), fun h => absurd h (by omega), fun h => absurd h (by omega), z20, z20⟩
  have S : uw_S 0 (upd (upd (upd (fun _ => 0) (0 : Int32).toNatClampNeg 1) (1 : Int32).toNatClampNeg 1) (2 : Int32).toNatClampNeg 1) (upd (upd (upd (fun _ => 0) (0 : Int32).toNatClampNeg 1) (1 : Int32).toNatClampNeg 1) (2 : Int32).toNatClampNeg 1) := by
    rw [show (0 : Int32).toNatClampNeg = 0 from by decide +kernel, show (1 : Int32).toNatClampNeg = 1 from by decide +kernel, show (2 : Int32).toNatClampNeg = 2 from by decide +kernel]
    refine ⟨fun p hp => ⟨1, by omega, by omega, ?_⟩, rfl⟩
    rcases (by omega : p = 0 ∨ p = 1 ∨ p = 2) with h | h | h <;> subst h <;> exact ⟨rfl, rfl⟩
  refine ⟨4, br_f g0 ⟨i0, nm_e (nm_r (show (0 : Int32) + 1 = 1 from rfl) (br_f g1 ⟨i1, nm_e (nm_r (show (1 : Int32) + 1 = 2 from rfl) (br_f g2 ⟨i2, nm_e (nm_r (show (2 : Int32) + 1 = 3 from rfl) (br_t g3 ?_))⟩))⟩))⟩⟩
  refine ⟨4, br_f g0 ⟨uw_in i0 (by omega), nm_e (nm_r (show (0 : Int32) + 1 = 1 from rfl) (br_f g1 ⟨uw_in i1 (by omega), nm_e (nm_r (show (1 : Int32) + 1 = 2 from rfl) (br_f g2 ⟨uw_in i2 (by omega), nm_e (nm_r (show (2 : Int32) + 1 = 3 from rfl) (br_t g3 ?_))⟩))⟩))⟩⟩
  exact uw_mk (d := 0) (m := 0) (pc := 0) T S uw_D0 (by omega)
/-- the methods that read alone -/
theorem uw_begun {k : Nat} {u : SX} {v : SY} (I : i_Rel k u v) (v1 v2 : Int32) : ∃ r : Int32, (∀ post : Int32 → Prop, post r → wpX_begun post u v1 v2) ∧ (∀ post : Int32 → Prop, post r → wpY_begun post v v1 v2) := by
  obtain ⟨d, m, pc, stp, opc, mop, lou, lth, rng, nxt, edg, edn, frm, opn, nxy, way, wth, cal, kd, tg, op, fs, sc, sz, sk, wa, ld, hd, tb, po, fS, fE, fN, zs, ar, oN, oP, oW, oV, rfl, rfl, T, S, D, hp⟩ := I
  by_cases hv : vp_in v1 3
  · obtain ⟨hv0, hv3⟩ := (uw_r3 v1).mp hv
    have hv2 : ¬ 2 < v1 := fun z => hv3 ((uw_23 v1).mp z)
    have hv4 : vp_in v1 4 := uw_in hv (by omega)
    obtain ⟨p, hp3, rfl⟩ := vp_in_of hv (by decide)
    have cp : (nI p).toNatClampNeg = p := nI_clamp (by omega)
    obtain ⟨n, n1, n2, e1, e2⟩ := S.1 p hp3
    by_cases h0 : v2 < 0
    · exact ⟨-1, fun post H => (by dsimp only [wpX_begun]; exact uw_xp (fun _ => br_f uw_10 (br_t h0 H)) (fun z => absurd hv z)), fun post H => br_f hv0 (br_f hv2 (br_t h0 H))⟩
    · by_cases hl : v2 < nI n
      · obtain ⟨j, hj, rfl⟩ := nI_of h0
        have hjn := (nI_ltI hj (by omega)).mp hl
        have ex : nI p * 20 + nI j = nI (p * 20 + j) := by
          rw [show (20 : Int32) = nI 20 from rfl, pk_mul, nI_add]
        have ey : 20 * nI p + nI j = nI (p * 20 + j) := by
          rw [show (20 : Int32) = nI 20 from rfl, pk_mul, nI_add, Nat.mul_comm]
        have i60 : vp_in (nI (p * 20 + j)) 60 := vp_in_nI (by omega) (by omega)
        refine ⟨tb (nI (p * 20 + j)).toNatClampNeg, fun post H => ?_, fun post H => ?_⟩
        · dsimp only [wpX_begun]
          refine uw_xp (fun _ => br_f uw_10 (br_f h0 ⟨hv, ?_⟩)) (fun z => absurd hv z)
          rw [cp, e1, ex]
          exact br_t hl ⟨i60, H⟩
        · refine br_f hv0 (br_f hv2 (br_f h0 ⟨hv4, ?_⟩))
          rw [cp, e2, ey]
          exact br_t hl ⟨i60, H⟩
      · refine ⟨-1, fun post H => ?_, fun post H => ?_⟩
        · dsimp only [wpX_begun]
          refine uw_xp (fun _ => br_f uw_10 (br_f h0 ⟨hv, ?_⟩)) (fun z => absurd hv z)
          rw [cp, e1]
          exact br_f hl H
        · refine br_f hv0 (br_f hv2 (br_f h0 ⟨hv4, ?_⟩))
          rw [cp, e2]
          exact br_f hl H
  · refine ⟨-1, fun post H => (by dsimp only [wpX_begun]; exact uw_xp (fun z => absurd z hv) (fun _ => br_t rfl H)), fun post H => ?_⟩
    by_cases h0 : v1 < 0
    · exact br_t h0 H
    · by_cases h2 : 2 < v1
      · exact br_f h0 (br_t h2 H)
      · exact absurd ((uw_r3 v1).mpr ⟨h0, fun z => h2 ((uw_23 v1).mpr z)⟩) hv
theorem uw_out {k : Nat} {u : SX} {v : SY} (I : i_Rel k u v) (v1 : Int32) : ∃ r : Int32, (∀ post : Int32 → Prop, post r → wpX_out post u v1) ∧ (∀ post : Int32 → Prop, post r → wpY_out post v v1) := by
  obtain ⟨d, m, pc, stp, opc, mop, lou, lth, rng, nxt, edg, edn, frm, opn, nxy, way, wth, cal, kd, tg, op, fs, sc, sz, sk, wa, ld, hd, tb, po, fS, fE, fN, zs, ar, oN, oP, oW, oV, rfl, rfl, T, S, D, hp⟩ := I
  by_cases h0 : v1 < 0
  · exact ⟨0, fun post H => br_t h0 H, fun post H => br_t h0 H⟩
  · by_cases hl : v1 < nI pc
    · obtain ⟨j, hj, rfl⟩ := nI_of h0
      have hjn := (nI_ltI hj (by omega)).mp hl
      have i : vp_in (nI j) 300 := vp_in_nI (by omega) (by omega)
      exact ⟨_, fun post H => br_f h0 (br_t hl ⟨i, H⟩), fun post H => br_f h0 (br_t hl ⟨i, H⟩)⟩
    · exact ⟨0, fun post H => br_f h0 (br_f hl H), fun post H => br_f h0 (br_f hl H)⟩
theorem uw_register {k : Nat} {u : SX} {v : SY} (I : i_Rel k u v) (v1 : Int32) : ∃ r : Int32, (∀ post : Int32 → Prop, post r → wpX_register post u v1) ∧ (∀ post : Int32 → Prop, post r → wpY_register post v v1) := by
  obtain ⟨d, m, pc, stp, opc, mop, lou, lth, rng, nxt, edg, edn, frm, opn, nxy, way, wth, cal, kd, tg, op, fs, sc, sz, sk, wa, ld, hd, tb, po, fS, fE, fN, zs, ar, oN, oP, oW, oV, rfl, rfl, T, S, D, hp⟩ := I
  by_cases hr : vp_in v1 4
  · exact ⟨hd v1.toNatClampNeg, fun post H => (by dsimp only [wpX_register]; exact uw_xr (fun _ => br_f uw_10 ⟨hr, H⟩) (fun z => absurd hr z)), fun post H => (by dsimp only [wpY_register]; exact uw_yr (fun _ => br_f uw_10 ⟨hr, H⟩) (fun z => absurd hr z))⟩
  · exact ⟨0, fun post H => (by dsimp only [wpX_register]; exact uw_xr (fun z => absurd z hr) (fun _ => br_t rfl H)), fun post H => (by dsimp only [wpY_register]; exact uw_yr (fun z => absurd z hr) (fun _ => br_t rfl H))⟩
end
section
/-! the owed statements -/
theorem i_vc0 : wpX_init (fun u => wpY_init (fun v => i_Rel 0 u v)) := uw_init
theorem i_vc_simple {k : Nat} {u : SX} {v : SY} (I : i_Rel k u v) (hk : k + 4 ≤ 2048) (v1 : Int32) (v2 : Int32) (v3 : Int32) : wpX_simple (fun r u' => wpY_simple (fun r' v' => r' = r ∧ i_Rel (k + 4) u' v') v v1 v2 v3) u v1 v2 v3 := by
  have h := uw_Ei (uw_simple I v1 v2 v3)
  exact h
theorem i_vc_loop {k : Nat} {u : SX} {v : SY} (I : i_Rel k u v) (hk : k + 4 ≤ 2048) (v1 : Int32) : wpX_loop (fun r u' => wpY_loop (fun r' v' => r' = r ∧ i_Rel (k + 4) u' v') v v1) u v1 := by
  have h := uw_Ei (uw_loop I v1)
  exact h
theorem i_vc_join {k : Nat} {u : SX} {v : SY} (I : i_Rel k u v) (hk : k + 4 ≤ 2048) (v1 : Int32) (v2 : Int32) : wpX_join (fun r u' => wpY_join (fun r' v' => r' = r ∧ i_Rel (k + 4) u' v') v v1 v2) u v1 v2 := by
  have h := uw_Ei (uw_join I v1 v2)
  exact h
theorem i_vc_depth {k : Nat} {u : SX} {v : SY} (I : i_Rel k u v) (hk : k + 4 ≤ 2048) : wpX_depth (fun r => wpY_depth (fun r' => r' = r ∧ i_Rel (k + 4) u v) v) u := by
  have I0 := I
  obtain ⟨d, m, pc, stp, opc, mop, lou, lth, rng, nxt, edg, edn, frm, opn, nxy, way, wth, cal, kd, tg, op, fs, sc, sz, sk, wa, ld, hd, tb, po, fS, fE, fN, zs, ar, oN, oP, oW, oV, rfl, rfl, T, S, D, hp⟩ := I
  exact And.intro rfl I0
theorem i_vc_discard {k : Nat} {u : SX} {v : SY} (I : i_Rel k u v) (hk : k + 4 ≤ 2048) : wpX_discard (fun r u' => wpY_discard (fun r' v' => r' = r ∧ i_Rel (k + 4) u' v') v) u := by
  have h := uw_Ei (uw_discard I)
  exact h
theorem i_vc_procedure {k : Nat} {u : SX} {v : SY} (I : i_Rel k u v) (hk : k + 4 ≤ 2048) (v1 : Int32) : wpX_procedure (fun r u' => wpY_procedure (fun r' v' => r' = r ∧ i_Rel (k + 4) u' v') v v1) u v1 := by
  have h := uw_Ei (uw_procedure I v1)
  exact h
theorem i_vc_load {k : Nat} {u : SX} {v : SY} (I : i_Rel k u v) (hk : k + 4 ≤ 2048) (v1 : Int32) (v2 : Int32) : wpX_load (fun r u' => wpY_load (fun r' v' => r' = r ∧ i_Rel (k + 4) u' v') v v1 v2) u v1 v2 := by
  have h := uw_Ei (uw_load I v1 v2)
  exact h
theorem i_vc_run {k : Nat} {u : SX} {v : SY} (I : i_Rel k u v) (hk : k + 4 ≤ 2048) (v1 : Int32) : wpX_run (fun r u' => wpY_run (fun r' v' => r' = r ∧ i_Rel (k + 4) u' v') v v1) u v1 := by
  have h := uw_Ei (uw_run I v1)
  exact h
theorem i_vc_outcome {k : Nat} {u : SX} {v : SY} (I : i_Rel k u v) (hk : k + 4 ≤ 2048) : wpX_outcome (fun r => wpY_outcome (fun r' => r' = r ∧ i_Rel (k + 4) u v) v) u := by
  have I0 := I
  obtain ⟨d, m, pc, stp, opc, mop, lou, lth, rng, nxt, edg, edn, frm, opn, nxy, way, wth, cal, kd, tg, op, fs, sc, sz, sk, wa, ld, hd, tb, po, fS, fE, fN, zs, ar, oN, oP, oW, oV, rfl, rfl, T, S, D, hp⟩ := I
  exact And.intro rfl I0
theorem i_vc_thrown {k : Nat} {u : SX} {v : SY} (I : i_Rel k u v) (hk : k + 4 ≤ 2048) : wpX_thrown (fun r => wpY_thrown (fun r' => r' = r ∧ i_Rel (k + 4) u v) v) u := by
  have I0 := I
  obtain ⟨d, m, pc, stp, opc, mop, lou, lth, rng, nxt, edg, edn, frm, opn, nxy, way, wth, cal, kd, tg, op, fs, sc, sz, sk, wa, ld, hd, tb, po, fS, fE, fN, zs, ar, oN, oP, oW, oV, rfl, rfl, T, S, D, hp⟩ := I
  exact And.intro rfl I0
theorem i_vc_register {k : Nat} {u : SX} {v : SY} (I : i_Rel k u v) (hk : k + 4 ≤ 2048) (v1 : Int32) : wpX_register (fun r => wpY_register (fun r' => r' = r ∧ i_Rel (k + 4) u v) v v1) u v1 := by
  obtain ⟨r, hx, hy⟩ := uw_register I v1
  exact hx _ (hy _ ⟨rfl, I⟩)
theorem i_vc_steps {k : Nat} {u : SX} {v : SY} (I : i_Rel k u v) (hk : k + 4 ≤ 2048) : wpX_steps (fun r => wpY_steps (fun r' => r' = r ∧ i_Rel (k + 4) u v) v) u := by
  have I0 := I
  obtain ⟨d, m, pc, stp, opc, mop, lou, lth, rng, nxt, edg, edn, frm, opn, nxy, way, wth, cal, kd, tg, op, fs, sc, sz, sk, wa, ld, hd, tb, po, fS, fE, fN, zs, ar, oN, oP, oW, oV, rfl, rfl, T, S, D, hp⟩ := I
  exact And.intro rfl I0
theorem i_vc_begun {k : Nat} {u : SX} {v : SY} (I : i_Rel k u v) (hk : k + 4 ≤ 2048) (v1 : Int32) (v2 : Int32) : wpX_begun (fun r => wpY_begun (fun r' => r' = r ∧ i_Rel (k + 4) u v) v v1 v2) u v1 v2 := by
  obtain ⟨r, hx, hy⟩ := uw_begun I v1 v2
  exact hx _ (hy _ ⟨rfl, I⟩)
theorem i_vc_outs {k : Nat} {u : SX} {v : SY} (I : i_Rel k u v) (hk : k + 4 ≤ 2048) : wpX_outs (fun r => wpY_outs (fun r' => r' = r ∧ i_Rel (k + 4) u v) v) u := by
  have I0 := I
  obtain ⟨d, m, pc, stp, opc, mop, lou, lth, rng, nxt, edg, edn, frm, opn, nxy, way, wth, cal, kd, tg, op, fs, sc, sz, sk, wa, ld, hd, tb, po, fS, fE, fN, zs, ar, oN, oP, oW, oV, rfl, rfl, T, S, D, hp⟩ := I
  exact And.intro rfl I0
theorem i_vc_out {k : Nat} {u : SX} {v : SY} (I : i_Rel k u v) (hk : k + 4 ≤ 2048) (v1 : Int32) : wpX_out (fun r => wpY_out (fun r' => r' = r ∧ i_Rel (k + 4) u v) v v1) u v1 := by
  obtain ⟨r, hx, hy⟩ := uw_out I v1
  exact hx _ (hy _ ⟨rfl, I⟩)
theorem i_vc_deepest {k : Nat} {u : SX} {v : SY} (I : i_Rel k u v) (hk : k + 4 ≤ 2048) : wpX_deepest (fun r => wpY_deepest (fun r' => r' = r ∧ i_Rel (k + 4) u v) v) u := by
  have I0 := I
  obtain ⟨d, m, pc, stp, opc, mop, lou, lth, rng, nxt, edg, edn, frm, opn, nxy, way, wth, cal, kd, tg, op, fs, sc, sz, sk, wa, ld, hd, tb, po, fS, fE, fN, zs, ar, oN, oP, oW, oV, rfl, rfl, T, S, D, hp⟩ := I
  exact And.intro rfl I0
end
