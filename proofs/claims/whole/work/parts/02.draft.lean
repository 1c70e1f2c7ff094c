/-! registers, procedures, operands: the tests of both sides; push and make -/
variable {std mde pct stp opc mop lou lth rng nxt edg edn frm dpt opn nxy way wth cal eng thr sts ots dps : Int32} {kd tg op fs sc sz sk wa ld hd tb po fS fE fN zs ar oN oP oW oV : Nat → Int32}
theorem uw_xr {post : Int32 → Prop} {r : Int32} (h1 : vp_in r 4 → post 1) (h0 : ¬ vp_in r 4 → post 0) : wpX_isRegister post r := by
  by_cases a : r < 0
  · exact br_t a (h0 fun z => z (Or.inl a))
  · by_cases b : 4 ≤ r
    · exact br_f a (br_t b (h0 fun z => ((uw_r4 r).mp z).2 b))
    · exact br_f a (br_f b (h1 ((uw_r4 r).mpr ⟨a, b⟩)))
theorem uw_yr {post : Int32 → Prop} {r : Int32} (h1 : vp_in r 4 → post 1) (h0 : ¬ vp_in r 4 → post 0) : wpY_isRegister post (dpt, opn, nxy, way, wth, cal, eng, thr, sts, ots, dps, kd, tg, op, fs, sc, zs, sk, ar, ld, oN, oP, oW, oV, hd, tb, po) r := by
  by_cases a : r < 0
  · exact br_t a (h0 fun z => z (Or.inl a))
  · by_cases b : 3 < r
    · exact br_f a (br_t b (h0 fun z => ((uw_r4 r).mp z).2 ((uw_34 r).mp b)))
    · exact br_f a (br_f b (h1 ((uw_r4 r).mpr ⟨a, fun z => b ((uw_34 r).mpr z)⟩)))
theorem uw_xp {post : Int32 → Prop} {r : Int32} (h1 : vp_in r 3 → post 1) (h0 : ¬ vp_in r 3 → post 0) : wpX_isProcedure post r := by
  by_cases a : r < 0
  · exact br_t a (h0 fun z => z (Or.inl a))
  · by_cases b : 3 ≤ r
    · exact br_f a (br_t b (h0 fun z => ((uw_r3 r).mp z).2 b))
    · exact br_f a (br_f b (h1 ((uw_r3 r).mpr ⟨a, b⟩)))
def uw_F (a : Nat) (n : Int32) : Prop := (a = 1 → ¬ n < (-100) ∧ ¬ 100 < n) ∧ ((2 ≤ a ∧ a ≤ 4 ∨ a = 7 ∨ a = 8) → vp_in n 4) ∧ (a = 10 → vp_in n 3)
theorem uw_F4 {a : Nat} {n : Int32} (ha : 2 ≤ a ∧ a ≤ 4 ∨ a = 7 ∨ a = 8) : uw_F a n ↔ vp_in n 4 :=
  ⟨fun h => h.2.1 ha, fun h => ⟨fun e => absurd e (by omega), fun _ => h, fun e => absurd e (by omega)⟩⟩
theorem uw_F1 {n : Int32} : uw_F 1 n ↔ (¬ n < (-100) ∧ ¬ 100 < n) :=
  ⟨fun h => h.1 rfl, fun h => ⟨fun _ => h, fun e => absurd e (by omega), fun e => absurd e (by omega)⟩⟩
theorem uw_F10 {n : Int32} : uw_F 10 n ↔ vp_in n 3 :=
  ⟨fun h => h.2.2 rfl, fun h => ⟨fun e => absurd e (by omega), fun e => absurd e (by omega), fun _ => h⟩⟩
theorem uw_F0 {a : Nat} {n : Int32} (ha : a = 0 ∨ a = 5 ∨ a = 6 ∨ a = 9) : uw_F a n :=
  ⟨fun e => absurd e (by omega), fun e => absurd e (by omega), fun e => absurd e (by omega)⟩
theorem uw_x74 {post : Int32 → Prop} {n : Int32} (h1 : vp_in n 4 → post 1) (h0 : ¬ vp_in n 4 → post 0) : wX_operandFits_74 post n := by
  unfold wX_operandFits_74
  exact uw_xr (fun h => ⟨uw_nb1, h1 h⟩) (fun h => ⟨uw_nb0, h0 h⟩)
theorem uw_x79 {post : Int32 → Prop} {n : Int32} (h1 : vp_in n 4 → post 1) (h0 : ¬ vp_in n 4 → post 0) : wX_operandFits_79 post n := by
  by_cases a : n < 0
  · exact br_t a (h0 fun z => z (Or.inl a))
  · by_cases b : 3 < n
    · exact br_f a (br_t b (h0 fun z => ((uw_r4 n).mp z).2 ((uw_34 n).mp b)))
    · exact br_f a (br_f b (h1 ((uw_r4 n).mpr ⟨a, fun z => b ((uw_34 n).mpr z)⟩)))
theorem uw_xf0 {post : Int32 → Prop} {n : Int32} (h1 : uw_F 0 n → post 1) (h0 : ¬ uw_F 0 n → post 0) : wpX_operandFits post 0 n := by
  exact br_t (by decide +kernel : (0 : Int32) < 1) (h1 (uw_F0 (by omega)))
theorem uw_xf1 {post : Int32 → Prop} {n : Int32} (h1 : uw_F 1 n → post 1) (h0 : ¬ uw_F 1 n → post 0) : wpX_operandFits post 1 n := by
  by_cases a : n < (-100)
  · exact br_f (by decide +kernel : ¬ (1 : Int32) < 1) (br_f (by decide +kernel : ¬ (10 : Int32) < 1) (br_t rfl (br_t a (h0 fun z => (uw_F1.mp z).1 a))))
  · by_cases b : 100 < n
    · exact br_f (by decide +kernel : ¬ (1 : Int32) < 1) (br_f (by decide +kernel : ¬ (10 : Int32) < 1) (br_t rfl (br_f a (br_t b (h0 fun z => (uw_F1.mp z).2 b)))))
    · exact br_f (by decide +kernel : ¬ (1 : Int32) < 1) (br_f (by decide +kernel : ¬ (10 : Int32) < 1) (br_t rfl (br_f a (br_f b (h1 (uw_F1.mpr ⟨a, b⟩))))))
theorem uw_xf2 {post : Int32 → Prop} {n : Int32} (h1 : uw_F 2 n → post 1) (h0 : ¬ uw_F 2 n → post 0) : wpX_operandFits post 2 n := by
  exact br_f (by decide +kernel : ¬ (2 : Int32) < 1) (br_f (by decide +kernel : ¬ (10 : Int32) < 2) (br_f (by decide +kernel : ¬ (2 : Int32) = 1) (br_t rfl (uw_x74 (fun h => h1 ((uw_F4 (by omega)).mpr h)) (fun h => h0 fun z => h ((uw_F4 (by omega)).mp z))))))
theorem uw_xf3 {post : Int32 → Prop} {n : Int32} (h1 : uw_F 3 n → post 1) (h0 : ¬ uw_F 3 n → post 0) : wpX_operandFits post 3 n := by
  exact br_f (by decide +kernel : ¬ (3 : Int32) < 1) (br_f (by decide +kernel : ¬ (10 : Int32) < 3) (br_f (by decide +kernel : ¬ (3 : Int32) = 1) (br_f (by decide +kernel : ¬ (3 : Int32) = 2) (br_t rfl (uw_x74 (fun h => h1 ((uw_F4 (by omega)).mpr h)) (fun h => h0 fun z => h ((uw_F4 (by omega)).mp z)))))))
theorem uw_xf4 {post : Int32 → Prop} {n : Int32} (h1 : uw_F 4 n → post 1) (h0 : ¬ uw_F 4 n → post 0) : wpX_operandFits post 4 n := by
  exact br_f (by decide +kernel : ¬ (4 : Int32) < 1) (br_f (by decide +kernel : ¬ (10 : Int32) < 4) (br_f (by decide +kernel : ¬ (4 : Int32) = 1) (br_f (by decide +kernel : ¬ (4 : Int32) = 2) (br_f (by decide +kernel : ¬ (4 : Int32) = 3) (br_t rfl (uw_x74 (fun h => h1 ((uw_F4 (by omega)).mpr h)) (fun h => h0 fun z => h ((uw_F4 (by omega)).mp z))))))))
theorem uw_xf5 {post : Int32 → Prop} {n : Int32} (h1 : uw_F 5 n → post 1) (h0 : ¬ uw_F 5 n → post 0) : wpX_operandFits post 5 n := by
  exact br_f (by decide +kernel : ¬ (5 : Int32) < 1) (br_f (by decide +kernel : ¬ (10 : Int32) < 5) (br_f (by decide +kernel : ¬ (5 : Int32) = 1) (br_f (by decide +kernel : ¬ (5 : Int32) = 2) (br_f (by decide +kernel : ¬ (5 : Int32) = 3) (br_f (by decide +kernel : ¬ (5 : Int32) = 4) (br_t rfl (h1 (uw_F0 (by omega)))))))))
theorem uw_xf6 {post : Int32 → Prop} {n : Int32} (h1 : uw_F 6 n → post 1) (h0 : ¬ uw_F 6 n → post 0) : wpX_operandFits post 6 n := by
  exact br_f (by decide +kernel : ¬ (6 : Int32) < 1) (br_f (by decide +kernel : ¬ (10 : Int32) < 6) (br_f (by decide +kernel : ¬ (6 : Int32) = 1) (br_f (by decide +kernel : ¬ (6 : Int32) = 2) (br_f (by decide +kernel : ¬ (6 : Int32) = 3) (br_f (by decide +kernel : ¬ (6 : Int32) = 4) (br_f (by decide +kernel : ¬ (6 : Int32) = 5) (br_t rfl (h1 (uw_F0 (by omega))))))))))
theorem uw_xf7 {post : Int32 → Prop} {n : Int32} (h1 : uw_F 7 n → post 1) (h0 : ¬ uw_F 7 n → post 0) : wpX_operandFits post 7 n := by
  exact br_f (by decide +kernel : ¬ (7 : Int32) < 1) (br_f (by decide +kernel : ¬ (10 : Int32) < 7) (br_f (by decide +kernel : ¬ (7 : Int32) = 1) (br_f (by decide +kernel : ¬ (7 : Int32) = 2) (br_f (by decide +kernel : ¬ (7 : Int32) = 3) (br_f (by decide +kernel : ¬ (7 : Int32) = 4) (br_f (by decide +kernel : ¬ (7 : Int32) = 5) (br_f (by decide +kernel : ¬ (7 : Int32) = 6) (br_t rfl (uw_x79 (fun h => h1 ((uw_F4 (by omega)).mpr h)) (fun h => h0 fun z => h ((uw_F4 (by omega)).mp z)))))))))))
theorem uw_xf8 {post : Int32 → Prop} {n : Int32} (h1 : uw_F 8 n → post 1) (h0 : ¬ uw_F 8 n → post 0) : wpX_operandFits post 8 n := by
  exact br_f (by decide +kernel : ¬ (8 : Int32) < 1) (br_f (by decide +kernel : ¬ (10 : Int32) < 8) (br_f (by decide +kernel : ¬ (8 : Int32) = 1) (br_f (by decide +kernel : ¬ (8 : Int32) = 2) (br_f (by decide +kernel : ¬ (8 : Int32) = 3) (br_f (by decide +kernel : ¬ (8 : Int32) = 4) (br_f (by decide +kernel : ¬ (8 : Int32) = 5) (br_f (by decide +kernel : ¬ (8 : Int32) = 6) (br_f (by decide +kernel : ¬ (8 : Int32) = 7) (br_t rfl (uw_x79 (fun h => h1 ((uw_F4 (by omega)).mpr h)) (fun h => h0 fun z => h ((uw_F4 (by omega)).mp z))))))))))))
theorem uw_xf9 {post : Int32 → Prop} {n : Int32} (h1 : uw_F 9 n → post 1) (h0 : ¬ uw_F 9 n → post 0) : wpX_operandFits post 9 n := by
  exact br_f (by decide +kernel : ¬ (9 : Int32) < 1) (br_f (by decide +kernel : ¬ (10 : Int32) < 9) (br_f (by decide +kernel : ¬ (9 : Int32) = 1) (br_f (by decide +kernel : ¬ (9 : Int32) = 2) (br_f (by decide +kernel : ¬ (9 : Int32) = 3) (br_f (by decide +kernel : ¬ (9 : Int32) = 4) (br_f (by decide +kernel : ¬ (9 : Int32) = 5) (br_f (by decide +kernel : ¬ (9 : Int32) = 6) (br_f (by decide +kernel : ¬ (9 : Int32) = 7) (br_f (by decide +kernel : ¬ (9 : Int32) = 8) (br_t rfl (h1 (uw_F0 (by omega)))))))))))))
theorem uw_xf10 {post : Int32 → Prop} {n : Int32} (h1 : uw_F 10 n → post 1) (h0 : ¬ uw_F 10 n → post 0) : wpX_operandFits post 10 n := by
  exact br_f (by decide +kernel : ¬ (10 : Int32) < 1) (br_f (by decide +kernel : ¬ (10 : Int32) < 10) (br_f (by decide +kernel : ¬ (10 : Int32) = 1) (br_f (by decide +kernel : ¬ (10 : Int32) = 2) (br_f (by decide +kernel : ¬ (10 : Int32) = 3) (br_f (by decide +kernel : ¬ (10 : Int32) = 4) (br_f (by decide +kernel : ¬ (10 : Int32) = 5) (br_f (by decide +kernel : ¬ (10 : Int32) = 6) (br_f (by decide +kernel : ¬ (10 : Int32) = 7) (br_f (by decide +kernel : ¬ (10 : Int32) = 8) (br_f (by decide +kernel : ¬ (10 : Int32) = 9) (br_t rfl (uw_xp (fun h => ⟨uw_nb1, h1 (uw_F10.mpr h)⟩) (fun h => ⟨uw_nb0, h0 fun z => h (uw_F10.mp z)⟩)))))))))))))
theorem uw_y71 {post : Int32 → Prop} {n : Int32} (h1 : vp_in n 4 → post 0) (h0 : ¬ vp_in n 4 → post 1) : wY_badNumber_71 post n 1 dpt opn nxy way wth cal eng thr sts ots dps kd tg op fs sc zs sk ar ld oN oP oW oV hd tb po := by
  by_cases a : n < 0
  · exact br_f uw_10 (br_t a (h0 fun z => z (Or.inl a)))
  · by_cases b : n ≤ 3
    · exact br_f uw_10 (br_f a (br_t b (h1 ((uw_s4 n).mpr ⟨a, b⟩))))
    · exact br_f uw_10 (br_f a (br_f b (h0 fun z => b ((uw_s4 n).mp z).2)))
theorem uw_yf0 {post : Int32 → Prop} {n : Int32} (h1 : uw_F 0 n → post 0) (h0 : ¬ uw_F 0 n → post 1) : wpY_badNumber post (dpt, opn, nxy, way, wth, cal, eng, thr, sts, ots, dps, kd, tg, op, fs, sc, zs, sk, ar, ld, oN, oP, oW, oV, hd, tb, po) 0 n := by
  exact br_f (by decide +kernel : ¬ (0 : Int32) = 1) (br_f (by decide +kernel : ¬ (0 : Int32) = 10) (br_t (by decide +kernel : (0 : Int32) < 2) (br_f (by decide +kernel : ¬ (0 : Int32) = 7) (br_f (by decide +kernel : ¬ (0 : Int32) = 8) (br_t rfl (h1 (uw_F0 (by omega))))))))
theorem uw_yf1 {post : Int32 → Prop} {n : Int32} (h1 : uw_F 1 n → post 0) (h0 : ¬ uw_F 1 n → post 1) : wpY_badNumber post (dpt, opn, nxy, way, wth, cal, eng, thr, sts, ots, dps, kd, tg, op, fs, sc, zs, sk, ar, ld, oN, oP, oW, oV, hd, tb, po) 1 n := by
  by_cases a : n < (-100)
  · exact br_t rfl (br_t a (h0 fun z => (uw_F1.mp z).1 a))
  · by_cases b : n ≤ 100
    · exact br_t rfl (br_f a (br_t b (h1 (uw_F1.mpr ⟨a, Int32.not_lt.mpr b⟩))))
    · exact br_t rfl (br_f a (br_f b (h0 fun z => (uw_F1.mp z).2 (Int32.not_le.mp b))))
theorem uw_yf2 {post : Int32 → Prop} {n : Int32} (h1 : uw_F 2 n → post 0) (h0 : ¬ uw_F 2 n → post 1) : wpY_badNumber post (dpt, opn, nxy, way, wth, cal, eng, thr, sts, ots, dps, kd, tg, op, fs, sc, zs, sk, ar, ld, oN, oP, oW, oV, hd, tb, po) 2 n := by
  exact br_f (by decide +kernel : ¬ (2 : Int32) = 1) (br_f (by decide +kernel : ¬ (2 : Int32) = 10) (br_f (by decide +kernel : ¬ (2 : Int32) < 2) (br_t (by decide +kernel : (2 : Int32) ≤ 4) (uw_y71 (fun h => h1 ((uw_F4 (by omega)).mpr h)) (fun h => h0 fun z => h ((uw_F4 (by omega)).mp z))))))
theorem uw_yf3 {post : Int32 → Prop} {n : Int32} (h1 : uw_F 3 n → post 0) (h0 : ¬ uw_F 3 n → post 1) : wpY_badNumber post (dpt, opn, nxy, way, wth, cal, eng, thr, sts, ots, dps, kd, tg, op, fs, sc, zs, sk, ar, ld, oN, oP, oW, oV, hd, tb, po) 3 n := by
  exact br_f (by decide +kernel : ¬ (3 : Int32) = 1) (br_f (by decide +kernel : ¬ (3 : Int32) = 10) (br_f (by decide +kernel : ¬ (3 : Int32) < 2) (br_t (by decide +kernel : (3 : Int32) ≤ 4) (uw_y71 (fun h => h1 ((uw_F4 (by omega)).mpr h)) (fun h => h0 fun z => h ((uw_F4 (by omega)).mp z))))))
theorem uw_yf4 {post : Int32 → Prop} {n : Int32} (h1 : uw_F 4 n → post 0) (h0 : ¬ uw_F 4 n → post 1) : wpY_badNumber post (dpt, opn, nxy, way, wth, cal, eng, thr, sts, ots, dps, kd, tg, op, fs, sc, zs, sk, ar, ld, oN, oP, oW, oV, hd, tb, po) 4 n := by
  exact br_f (by decide +kernel : ¬ (4 : Int32) = 1) (br_f (by decide +kernel : ¬ (4 : Int32) = 10) (br_f (by decide +kernel : ¬ (4 : Int32) < 2) (br_t (by decide +kernel : (4 : Int32) ≤ 4) (uw_y71 (fun h => h1 ((uw_F4 (by omega)).mpr h)) (fun h => h0 fun z => h ((uw_F4 (by omega)).mp z))))))
theorem uw_yf5 {post : Int32 → Prop} {n : Int32} (h1 : uw_F 5 n → post 0) (h0 : ¬ uw_F 5 n → post 1) : wpY_badNumber post (dpt, opn, nxy, way, wth, cal, eng, thr, sts, ots, dps, kd, tg, op, fs, sc, zs, sk, ar, ld, oN, oP, oW, oV, hd, tb, po) 5 n := by
  exact br_f (by decide +kernel : ¬ (5 : Int32) = 1) (br_f (by decide +kernel : ¬ (5 : Int32) = 10) (br_f (by decide +kernel : ¬ (5 : Int32) < 2) (br_f (by decide +kernel : ¬ (5 : Int32) ≤ 4) (br_f (by decide +kernel : ¬ (5 : Int32) = 7) (br_f (by decide +kernel : ¬ (5 : Int32) = 8) (br_t rfl (h1 (uw_F0 (by omega)))))))))
theorem uw_yf6 {post : Int32 → Prop} {n : Int32} (h1 : uw_F 6 n → post 0) (h0 : ¬ uw_F 6 n → post 1) : wpY_badNumber post (dpt, opn, nxy, way, wth, cal, eng, thr, sts, ots, dps, kd, tg, op, fs, sc, zs, sk, ar, ld, oN, oP, oW, oV, hd, tb, po) 6 n := by
  exact br_f (by decide +kernel : ¬ (6 : Int32) = 1) (br_f (by decide +kernel : ¬ (6 : Int32) = 10) (br_f (by decide +kernel : ¬ (6 : Int32) < 2) (br_f (by decide +kernel : ¬ (6 : Int32) ≤ 4) (br_f (by decide +kernel : ¬ (6 : Int32) = 7) (br_f (by decide +kernel : ¬ (6 : Int32) = 8) (br_t rfl (h1 (uw_F0 (by omega)))))))))
theorem uw_yf7 {post : Int32 → Prop} {n : Int32} (h1 : uw_F 7 n → post 0) (h0 : ¬ uw_F 7 n → post 1) : wpY_badNumber post (dpt, opn, nxy, way, wth, cal, eng, thr, sts, ots, dps, kd, tg, op, fs, sc, zs, sk, ar, ld, oN, oP, oW, oV, hd, tb, po) 7 n := by
  exact br_f (by decide +kernel : ¬ (7 : Int32) = 1) (br_f (by decide +kernel : ¬ (7 : Int32) = 10) (br_f (by decide +kernel : ¬ (7 : Int32) < 2) (br_f (by decide +kernel : ¬ (7 : Int32) ≤ 4) (br_t rfl (uw_y71 (fun h => h1 ((uw_F4 (by omega)).mpr h)) (fun h => h0 fun z => h ((uw_F4 (by omega)).mp z)))))))
theorem uw_yf8 {post : Int32 → Prop} {n : Int32} (h1 : uw_F 8 n → post 0) (h0 : ¬ uw_F 8 n → post 1) : wpY_badNumber post (dpt, opn, nxy, way, wth, cal, eng, thr, sts, ots, dps, kd, tg, op, fs, sc, zs, sk, ar, ld, oN, oP, oW, oV, hd, tb, po) 8 n := by
  exact br_f (by decide +kernel : ¬ (8 : Int32) = 1) (br_f (by decide +kernel : ¬ (8 : Int32) = 10) (br_f (by decide +kernel : ¬ (8 : Int32) < 2) (br_f (by decide +kernel : ¬ (8 : Int32) ≤ 4) (br_f (by decide +kernel : ¬ (8 : Int32) = 7) (br_t rfl (uw_y71 (fun h => h1 ((uw_F4 (by omega)).mpr h)) (fun h => h0 fun z => h ((uw_F4 (by omega)).mp z))))))))
theorem uw_yf9 {post : Int32 → Prop} {n : Int32} (h1 : uw_F 9 n → post 0) (h0 : ¬ uw_F 9 n → post 1) : wpY_badNumber post (dpt, opn, nxy, way, wth, cal, eng, thr, sts, ots, dps, kd, tg, op, fs, sc, zs, sk, ar, ld, oN, oP, oW, oV, hd, tb, po) 9 n := by
  exact br_f (by decide +kernel : ¬ (9 : Int32) = 1) (br_f (by decide +kernel : ¬ (9 : Int32) = 10) (br_f (by decide +kernel : ¬ (9 : Int32) < 2) (br_f (by decide +kernel : ¬ (9 : Int32) ≤ 4) (br_f (by decide +kernel : ¬ (9 : Int32) = 7) (br_f (by decide +kernel : ¬ (9 : Int32) = 8) (br_t rfl (h1 (uw_F0 (by omega)))))))))
theorem uw_yf10 {post : Int32 → Prop} {n : Int32} (h1 : uw_F 10 n → post 0) (h0 : ¬ uw_F 10 n → post 1) : wpY_badNumber post (dpt, opn, nxy, way, wth, cal, eng, thr, sts, ots, dps, kd, tg, op, fs, sc, zs, sk, ar, ld, oN, oP, oW, oV, hd, tb, po) 10 n := by
  by_cases a : n < 0
  · exact br_f (by decide +kernel : ¬ (10 : Int32) = 1) (br_t rfl (br_t a (h0 fun z => (uw_F10.mp z) (Or.inl a))))
  · by_cases b : n ≤ 2
    · exact br_f (by decide +kernel : ¬ (10 : Int32) = 1) (br_t rfl (br_f a (br_t b (h1 (uw_F10.mpr ((uw_s3 n).mpr ⟨a, b⟩))))))
    · exact br_f (by decide +kernel : ¬ (10 : Int32) = 1) (br_t rfl (br_f a (br_f b (h0 fun z => b ((uw_s3 n).mp (uw_F10.mp z)).2))))
theorem uw_xf {post : Int32 → Prop} {a : Nat} {n : Int32} (ha : a ≤ 10) (h1 : uw_F a n → post 1) (h0 : ¬ uw_F a n → post 0) : wpX_operandFits post (nI a) n := by
  rcases (by omega : a = 0 ∨ a = 1 ∨ a = 2 ∨ a = 3 ∨ a = 4 ∨ a = 5 ∨ a = 6 ∨ a = 7 ∨ a = 8 ∨ a = 9 ∨ a = 10) with rfl | rfl | rfl | rfl | rfl | rfl | rfl | rfl | rfl | rfl | rfl
  · exact uw_xf0 h1 h0
  · exact uw_xf1 h1 h0
  · exact uw_xf2 h1 h0
  · exact uw_xf3 h1 h0
  · exact uw_xf4 h1 h0
  · exact uw_xf5 h1 h0
  · exact uw_xf6 h1 h0
  · exact uw_xf7 h1 h0
  · exact uw_xf8 h1 h0
  · exact uw_xf9 h1 h0
  · exact uw_xf10 h1 h0
theorem uw_yf {post : Int32 → Prop} {a : Nat} {n : Int32} (ha : a ≤ 10) (h1 : uw_F a n → post 0) (h0 : ¬ uw_F a n → post 1) : wpY_badNumber post (dpt, opn, nxy, way, wth, cal, eng, thr, sts, ots, dps, kd, tg, op, fs, sc, zs, sk, ar, ld, oN, oP, oW, oV, hd, tb, po) (nI a) n := by
  rcases (by omega : a = 0 ∨ a = 1 ∨ a = 2 ∨ a = 3 ∨ a = 4 ∨ a = 5 ∨ a = 6 ∨ a = 7 ∨ a = 8 ∨ a = 9 ∨ a = 10) with rfl | rfl | rfl | rfl | rfl | rfl | rfl | rfl | rfl | rfl | rfl
  · exact uw_yf0 h1 h0
  · exact uw_yf1 h1 h0
  · exact uw_yf2 h1 h0
  · exact uw_yf3 h1 h0
  · exact uw_yf4 h1 h0
  · exact uw_yf5 h1 h0
  · exact uw_yf6 h1 h0
  · exact uw_yf7 h1 h0
  · exact uw_yf8 h1 h0
  · exact uw_yf9 h1 h0
  · exact uw_yf10 h1 h0
theorem uw_xpush {post : Int32 → SX → Prop} {d m : Nat} {p0 p1 p2 p3 p4 : Int32} (h1 : d < 20) (h2 : m < 20) (H : post (nI m) (nI (d + 1), nI (m + 1), pct, stp, opc, mop, lou, lth, rng, nxt, edg, edn, frm, upd kd (60 + m) p0, upd tg (60 + m) p1, upd op (60 + m) p2, upd fs (60 + m) p3, upd sc (60 + m) p4, sz, upd sk d (nI m), wa, ld, hd, tb, po, fS, fE, fN)) : wpX_push post (nI d, nI m, pct, stp, opc, mop, lou, lth, rng, nxt, edg, edn, frm, kd, tg, op, fs, sc, sz, sk, wa, ld, hd, tb, po, fS, fE, fN) p0 p1 p2 p3 p4 := by
  have e : (60 : Int32) + nI m = nI (60 + m) := nI_add 60 m
  have i : vp_in (nI (60 + m)) 80 := vp_in_nI (by omega) (by omega)
  have c : (nI (60 + m)).toNatClampNeg = 60 + m := nI_clamp (by omega)
  have i2 : vp_in (nI d) 20 := vp_in_nI (by omega) (by omega)
  have c2 : (nI d).toNatClampNeg = d := nI_clamp (by omega)
  simp only [wpX_push, e, i, c, i2, c2, nI_1, true_and, forall_eq]
  exact H
theorem uw_ymake {post : Int32 → SY → Prop} {d m : Nat} {p0 p1 p2 p3 p4 : Int32} (hz : zs 3 = nI m) (h1 : d < 20) (h2 : m < 20) (H : post (nI m) (nI (d + 1), opn, nxy, way, wth, cal, eng, thr, sts, ots, dps, upd kd (60 + m) p0, upd tg (60 + m) p1, upd op (60 + m) p2, upd fs (60 + m) p3, upd sc (60 + m) p4, upd zs 3 (nI (m + 1)), upd sk d (nI m), ar, ld, oN, oP, oW, oV, hd, tb, po)) : wpY_make post (nI d, opn, nxy, way, wth, cal, eng, thr, sts, ots, dps, kd, tg, op, fs, sc, zs, sk, ar, ld, oN, oP, oW, oV, hd, tb, po) p0 p1 p2 p3 p4 := by
  have e : (60 : Int32) + nI m = nI (60 + m) := nI_add 60 m
  have i : vp_in (nI (60 + m)) 80 := vp_in_nI (by omega) (by omega)
  have c : (nI (60 + m)).toNatClampNeg = 60 + m := nI_clamp (by omega)
  have i2 : vp_in (nI d) 20 := vp_in_nI (by omega) (by omega)
  have c2 : (nI d).toNatClampNeg = d := nI_clamp (by omega)
  simp only [wpY_make, hz, e, i, c, i2, c2, nI_1, true_and, forall_eq]
  exact H
/-- the draft after a statement was put on the stack over what was taken off -/
theorem uw_D_gen {e d m : Nat} {k f s : Int32} (D : uw_D d m kd fs sc sk) (hm : m < 20) (he : e ≤ d) (hp : ∀ i j, e ≤ i → i < d → sk i = nI j → uw_P (upd kd (60 + m) k) (upd fs (60 + m) f) (upd sc (60 + m) s) m j) : uw_D (e + 1) (m + 1) (upd kd (60 + m) k) (upd fs (60 + m) f) (upd sc (60 + m) s) (upd sk e (nI m)) := by
  obtain ⟨D1, D2, D3, D4, D5⟩ := D
  refine ⟨by omega, by omega, ?_, ?_, ?_⟩
  · intro i hi
    by_cases h : i = e
    · subst h; rw [pk_us]; exact vp_in_nI hm (by omega)
    · rw [pk_un h]; exact D3 i (by omega)
  · intro _
    show upd sk e (nI m) (e + 1 - 1) = nI (m + 1 - 1)
    rw [Nat.add_sub_cancel, Nat.add_sub_cancel, pk_us]
  · intro j hj
    by_cases h : j = m
    · subst h; exact Or.inl ⟨e, by omega, pk_us⟩
    · rcases D5 j (by omega) with ⟨i, hi, hs⟩ | ⟨q, h1, h2, h3⟩
      · by_cases h' : i < e
        · exact Or.inl ⟨i, by omega, by rw [pk_un (by omega)]; exact hs⟩
        · exact Or.inr ⟨m, by omega, by omega, hp i j (by omega) hi hs⟩
      · refine Or.inr ⟨q, h1, by omega, ?_⟩
        have n : 60 + q ≠ 60 + m := by omega
        unfold uw_P
        rw [pk_un n, pk_un n, pk_un n]
        exact h3
theorem uw_S_made {m n : Nat} (S : uw_S m sz zs) : uw_S n sz (upd zs 3 (nI n)) :=
  ⟨fun p hp => by rw [pk_un (by omega)]; exact S.1 p hp, pk_us⟩
