/-! run: the beginning of a run on both sides, then its turns -/
variable {std mde pct stp opc mop lou lth rng nxt edg edn frm dpt opn nxy way wth cal eng thr sts ots dps : Int32} {kd tg op fs sc sz sk wa ld hd tb po fS fE fN zs ar oN oP oW oV : Nat → Int32}
theorem uw_fillh {x1 : Int32} : ∀ (e c : Nat) (hd : Nat → Int32), c + e = 4 → ∃ hd' : Nat → Int32, (∀ (post : SX → Prop) (n : Nat), e < n → (∃ n27 : Nat, wX_startRun_27 post x1 std mde pct stp opc mop lou lth rng nxt edg edn frm n27 0 kd tg op fs sc sz sk wa ld hd' tb po fS fE fN) → wX_startRun_2 post x1 std mde pct stp opc mop lou lth rng nxt edg edn frm n (nI c) kd tg op fs sc sz sk wa ld hd tb po fS fE fN) ∧ (∀ (post : Int32 → SY → Prop) (n : Nat), e < n → (∃ n83 : Nat, wY_run_83 post x1 dpt opn nxy way wth cal eng thr sts ots dps n83 0 kd tg op fs sc zs sk ar ld oN oP oW oV hd' tb po) → wY_run_58 post x1 dpt opn nxy way wth cal eng thr sts ots dps n (nI c) kd tg op fs sc zs sk ar ld oN oP oW oV hd tb po) := by
  intro e
  induction e with
  | zero =>
    intro c hd hc
    have h : (4 : Int32) ≤ nI c := nI_le (a := 4) (by omega) (by omega)
    refine ⟨hd, fun post n hn H => ?_, fun post n hn H => ?_⟩
    · obtain ⟨n, rfl⟩ : ∃ q, n = q + 1 := ⟨n - 1, by omega⟩
      exact br_t h H
    · obtain ⟨n, rfl⟩ : ∃ q, n = q + 1 := ⟨n - 1, by omega⟩
      exact br_t h H
  | succ e ih =>
    intro c hd hc
    have h : ¬ (4 : Int32) ≤ nI c := nI_ge (b := 4) (by omega) (by decide)
    have i : vp_in (nI c) 4 := vp_in_nI (by omega) (by omega)
    obtain ⟨hd', hx, hy⟩ := ih (c + 1) (upd hd (nI c).toNatClampNeg (ld (nI c).toNatClampNeg)) (by omega)
    refine ⟨hd', fun post n hn H => ?_, fun post n hn H => ?_⟩
    · obtain ⟨n, rfl⟩ : ∃ q, n = q + 1 := ⟨n - 1, by omega⟩
      exact br_f h ⟨i, i, nm_e (nm_r (nI_1 c) (hx post n (by omega) H))⟩
    · obtain ⟨n, rfl⟩ : ∃ q, n = q + 1 := ⟨n - 1, by omega⟩
      exact br_f h ⟨i, i, nm_e (nm_r (nI_1 c) (hy post n (by omega) H))⟩
theorem uw_fillb {x1 : Int32} (h3 : vp_in x1 3) : ∀ (e c : Nat) (tb : Nat → Int32), c + e = 60 → ∃ tb' : Nat → Int32, (∀ (post : SX → Prop) (n : Nat), e < n → post (std, mde, 0, 0, 0, 0, lou, 0, 1, x1 * 20 + sz x1.toNatClampNeg - 1, edg, edn, 0, kd, tg, op, fs, sc, sz, sk, wa, ld, hd, tb', po, fS, fE, fN) → wX_startRun_27 post x1 std mde pct stp opc mop lou lth rng nxt edg edn frm n (nI c) kd tg op fs sc sz sk wa ld hd tb po fS fE fN) ∧ (∀ (post : Int32 → SY → Prop) (n : Nat), e < n → (∃ n119 : Nat, wY_run_119 post n119 dpt opn (20 * x1 + zs x1.toNatClampNeg - 1) way wth cal eng thr sts ots dps kd tg op fs sc zs sk ar ld oN oP oW oV hd tb' po) → wY_run_83 post x1 dpt opn nxy way wth cal eng thr sts ots dps n (nI c) kd tg op fs sc zs sk ar ld oN oP oW oV hd tb po) := by
  intro e
  induction e with
  | zero =>
    intro c tb hc
    have h : (60 : Int32) ≤ nI c := nI_le (a := 60) (by omega) (by omega)
    refine ⟨tb, fun post n hn H => ?_, fun post n hn H => ?_⟩
    · obtain ⟨n, rfl⟩ : ∃ q, n = q + 1 := ⟨n - 1, by omega⟩
      refine br_t h ?_
      dsimp only [wpX_goToBody]
      exact ⟨h3, nm_e H⟩
    · obtain ⟨n, rfl⟩ : ∃ q, n = q + 1 := ⟨n - 1, by omega⟩
      exact br_t h ⟨uw_in h3 (by omega), nm_e H⟩
  | succ e ih =>
    intro c tb hc
    have h : ¬ (60 : Int32) ≤ nI c := nI_ge (b := 60) (by omega) (by decide)
    have i : vp_in (nI c) 60 := vp_in_nI (by omega) (by omega)
    obtain ⟨tb', hx, hy⟩ := ih (c + 1) (upd tb (nI c).toNatClampNeg 0) (by omega)
    refine ⟨tb', fun post n hn H => ?_, fun post n hn H => ?_⟩
    · obtain ⟨n, rfl⟩ : ∃ q, n = q + 1 := ⟨n - 1, by omega⟩
      exact br_f h ⟨i, nm_e (nm_r (nI_1 c) (hx post n (by omega) H))⟩
    · obtain ⟨n, rfl⟩ : ∃ q, n = q + 1 := ⟨n - 1, by omega⟩
      exact br_f h ⟨i, nm_e (nm_r (nI_1 c) (hy post n (by omega) H))⟩
theorem uw_QR {k : Nat} {u : SX} {v : SY} (h : uw_Q u v) : i_Rel k u v := by
  obtain ⟨d, m, pc, stp, opc, mop, lou, lth, nxt, edg, edn, frm, opn, nxy, way, wth, cal, kd, tg, op, fs, sc, sz, sk, wa, ld, hd, tb, po, fS, fE, fN, zs, ar, oN, oP, oW, oV, rfl, rfl, B, hpc, hl⟩ := h
  exact uw_mk B.1 B.2.1 B.2.2 hpc
theorem uw_run {k : Nat} {u : SX} {v : SY} (I : i_Rel k u v) (v1 : Int32) : uw_E (k + 4) (fun post => wpX_run post u v1) (fun post => wpY_run post v v1) := by
  have I0 := I
  obtain ⟨d, m, pc, stp, opc, mop, lou, lth, rng, nxt, edg, edn, frm, opn, nxy, way, wth, cal, kd, tg, op, fs, sc, sz, sk, wa, ld, hd, tb, po, fS, fE, fN, zs, ar, oN, oP, oW, oV, rfl, rfl, T, S, D, hp⟩ := I
  by_cases hv : vp_in v1 3
  · obtain ⟨hv0, hv2⟩ := (uw_s3 v1).mp hv
    have hb := uw_body S hv
    obtain ⟨hd', fx, fy⟩ := uw_fillh (x1 := v1) (std := nI d) (mde := nI m) (pct := nI pc) (stp := stp) (opc := opc) (mop := mop) (lou := lou) (lth := lth) (rng := rng) (nxt := nxt) (edg := edg) (edn := edn) (frm := frm) (kd := kd) (tg := tg) (op := op) (fs := fs) (sc := sc) (sz := sz) (sk := sk) (wa := wa) (ld := ld) (tb := tb) (po := po) (fS := fS) (fE := fE) (fN := fN) (dpt := nI d) (opn := 0) (nxy := nxy) (way := 0) (wth := 0) (cal := 0) (eng := -1) (thr := 0) (sts := 0) (ots := 0) (dps := 0) (zs := zs) (ar := ar) (oN := oN) (oP := oP) (oW := oW) (oV := oV) 4 0 hd (by omega)
    obtain ⟨tb', gx, gy⟩ := uw_fillb (x1 := v1) (std := nI d) (mde := nI m) (pct := nI pc) (stp := stp) (opc := opc) (mop := mop) (lou := lou) (lth := lth) (rng := rng) (nxt := nxt) (edg := edg) (edn := edn) (frm := frm) (kd := kd) (tg := tg) (op := op) (fs := fs) (sc := sc) (sz := sz) (sk := sk) (wa := wa) (ld := ld) (hd := hd') (po := po) (fS := fS) (fE := fE) (fN := fN) (dpt := nI d) (opn := 0) (nxy := nxy) (way := 0) (wth := 0) (cal := 0) (eng := -1) (thr := 0) (sts := 0) (ots := 0) (dps := 0) (zs := zs) (ar := ar) (oN := oN) (oP := oP) (oW := oW) (oV := oV) hv 60 0 tb (by omega)
    have R : uw_R 903 (nI d, nI m, nI 0, nI 0, 0, 0, lou, 0, 1, v1 * 20 + sz v1.toNatClampNeg - 1, edg, edn, nI 0, kd, tg, op, fs, sc, sz, sk, wa, ld, hd', tb', po, fS, fE, fN) (nI d, nI 0, v1 * 20 + sz v1.toNatClampNeg - 1, 0, 0, 0, -1, 0, nI 0, nI 0, 0, kd, tg, op, fs, sc, zs, sk, ar, ld, oN, oP, oW, oV, hd', tb', po) :=
      ⟨d, m, 0, 0, 0, 0, 0, lou, v1 * 20 + sz v1.toNatClampNeg - 1, edg, edn, 0, 0, kd, tg, op, fs, sc, sz, sk, wa, ld, hd', tb', po, fS, fE, fN, zs, ar, oN, oP, oW, oV, rfl, rfl, ⟨T, S, D⟩, by omega, by omega, by omega, fun i hi => absurd hi (by omega), by decide +kernel, by decide +kernel, Or.inr ⟨hb.1, by decide⟩⟩
    obtain ⟨u', v', Q, hx, hy⟩ := uw_turns 903 _ _ 0 R (by omega)
    refine ⟨uw_oX u', u', v', fun post H => ?_, fun post H => ?_, uw_QR Q⟩
    · dsimp only [wpX_run]
      refine uw_xp (fun _ => br_f uw_10 ?_) (fun z => absurd hv z)
      dsimp only [wpX_startRun]
      have hx2 := hx post 906 (by omega) H
      dsimp only [uw_lX] at hx2
      refine ⟨5, fx _ _ (by omega) ⟨61, gx _ _ (by omega) ?_⟩⟩
      dsimp only
      exact ⟨906, hx2⟩
    · have hy2 := hy post 906 (by omega) H
      dsimp only [uw_lY] at hy2
      refine br_f hv0 (br_t hv2 ⟨5, fy _ _ (by omega) ⟨61, gy _ _ (by omega) ?_⟩⟩)
      rw [hb.2]
      exact ⟨906, hy2⟩
  · refine ⟨-1, _, _, fun post H => (by dsimp only [wpX_run]; exact uw_xp (fun z => absurd z hv) (fun _ => br_t rfl H)), fun post H => ?_, I0⟩
    by_cases h0 : v1 < 0
    · exact br_t h0 H
    · by_cases h2 : v1 ≤ 2
      · exact absurd ((uw_s3 v1).mpr ⟨h0, h2⟩) hv
      · exact br_f h0 (br_f h2 H)
theorem uw_init : wpX_init (fun u => wpY_init (fun v => i_Rel 0 u v)) := by
  have i0 : vp_in 0 3 := vp_in_nI (n := 0) (by decide) (by decide)
  have i1 : vp_in 1 3 := vp_in_nI (n := 1) (by decide) (by decide)
  have i2 : vp_in 2 3 := vp_in_nI (n := 2) (by decide) (by decide)
  have g0 : ¬ (3 : Int32) ≤ 0 := by decide +kernel
  have g1 : ¬ (3 : Int32) ≤ 1 := by decide +kernel
  have g2 : ¬ (3 : Int32) ≤ 2 := by decide +kernel
  have g3 : (3 : Int32) ≤ 3 := by decide +kernel
  have z20 : vp_in 0 20 := vp_in_nI (n := 0) (by decide) (by decide)
  have T : uw_T (fun _ => 0) (fun _ => 0) (fun _ => 0) (fun _ => 0) (fun _ => 0) := fun i _ => ⟨0, by omega, rfl, fun h => absurd h (by omega), fun h => absurd h (by omega), fun h => absurd h (by omega), z20, z20⟩
  have S : uw_S 0 (upd (upd (upd (fun _ => 0) (0 : Int32).toNatClampNeg 1) (1 : Int32).toNatClampNeg 1) (2 : Int32).toNatClampNeg 1) (upd (upd (upd (fun _ => 0) (0 : Int32).toNatClampNeg 1) (1 : Int32).toNatClampNeg 1) (2 : Int32).toNatClampNeg 1) := by
    rw [show (0 : Int32).toNatClampNeg = 0 from by decide +kernel, show (1 : Int32).toNatClampNeg = 1 from by decide +kernel, show (2 : Int32).toNatClampNeg = 2 from by decide +kernel]
    refine ⟨fun p hp => ⟨1, by omega, by omega, ?_⟩, rfl⟩
    rcases (by omega : p = 0 ∨ p = 1 ∨ p = 2) with h | h | h <;> subst h <;> exact ⟨rfl, rfl⟩
  refine ⟨4, br_f g0 ⟨i0, nm_e (nm_r (show (0 : Int32) + 1 = 1 from rfl) (br_f g1 ⟨i1, nm_e (nm_r (show (1 : Int32) + 1 = 2 from rfl) (br_f g2 ⟨i2, nm_e (nm_r (show (2 : Int32) + 1 = 3 from rfl) (br_t g3 ?_))⟩))⟩))⟩⟩
  refine ⟨4, br_f g0 ⟨uw_in i0 (by omega), nm_e (nm_r (show (0 : Int32) + 1 = 1 from rfl) (br_f g1 ⟨uw_in i1 (by omega), nm_e (nm_r (show (1 : Int32) + 1 = 2 from rfl) (br_f g2 ⟨uw_in i2 (by omega), nm_e (nm_r (show (2 : Int32) + 1 = 3 from rfl) (br_t g3 ?_))⟩))⟩))⟩⟩
  exact uw_mk (d := 0) (m := 0) (pc := 0) T S uw_D0 (by omega)
/-- the methods that read alone -/
theorem uw_begun {k : Nat} {u : SX} {v : SY} (I : i_Rel k u v) (v1 v2 : Int32) : ∃ r : Int32, (∀ post : Int32 → Prop, post r → wpX_begun post u v1 v2) ∧ (∀ post : Int32 → Prop, post r → wpY_begun post v v1 v2) := by
  obtain ⟨d, m, pc, stp, opc, mop, lou, lth, rng, nxt, edg, edn, frm, opn, nxy, way, wth, cal, kd, tg, op, fs, sc, sz, sk, wa, ld, hd, tb, po, fS, fE, fN, zs, ar, oN, oP, oW, oV, rfl, rfl, T, S, D, hp⟩ := I
  by_cases hv : vp_in v1 3
  · obtain ⟨hv0, hv3⟩ := (uw_r3 v1).mp hv
    have hv2 : ¬ 2 < v1 := fun z => hv3 ((uw_23 v1).mp z)
    have hv4 : vp_in v1 4 := uw_in hv (by omega)
    obtain ⟨p, hp3, rfl⟩ := vp_in_of hv (by decide)
    have cp : (nI p).toNatClampNeg = p := nI_clamp (by omega)
    obtain ⟨n, n1, n2, e1, e2⟩ := S.1 p hp3
    by_cases h0 : v2 < 0
    · exact ⟨-1, fun post H => (by dsimp only [wpX_begun]; exact uw_xp (fun _ => br_f uw_10 (br_t h0 H)) (fun z => absurd hv z)), fun post H => br_f hv0 (br_f hv2 (br_t h0 H))⟩
    · by_cases hl : v2 < nI n
      · obtain ⟨j, hj, rfl⟩ := nI_of h0
        have hjn := (nI_ltI hj (by omega)).mp hl
        have ex : nI p * 20 + nI j = nI (p * 20 + j) := by
          rw [show (20 : Int32) = nI 20 from rfl, pk_mul, nI_add]
        have ey : 20 * nI p + nI j = nI (p * 20 + j) := by
          rw [show (20 : Int32) = nI 20 from rfl, pk_mul, nI_add, Nat.mul_comm]
        have i60 : vp_in (nI (p * 20 + j)) 60 := vp_in_nI (by omega) (by omega)
        refine ⟨tb (nI (p * 20 + j)).toNatClampNeg, fun post H => ?_, fun post H => ?_⟩
        · dsimp only [wpX_begun]
          refine uw_xp (fun _ => br_f uw_10 (br_f h0 ⟨hv, ?_⟩)) (fun z => absurd hv z)
          rw [cp, e1, ex]
          exact br_t hl ⟨i60, H⟩
        · refine br_f hv0 (br_f hv2 (br_f h0 ⟨hv4, ?_⟩))
          rw [cp, e2, ey]
          exact br_t hl ⟨i60, H⟩
      · refine ⟨-1, fun post H => ?_, fun post H => ?_⟩
        · dsimp only [wpX_begun]
          refine uw_xp (fun _ => br_f uw_10 (br_f h0 ⟨hv, ?_⟩)) (fun z => absurd hv z)
          rw [cp, e1]
          exact br_f hl H
        · refine br_f hv0 (br_f hv2 (br_f h0 ⟨hv4, ?_⟩))
          rw [cp, e2]
          exact br_f hl H
  · refine ⟨-1, fun post H => (by dsimp only [wpX_begun]; exact uw_xp (fun z => absurd z hv) (fun _ => br_t rfl H)), fun post H => ?_⟩
    by_cases h0 : v1 < 0
    · exact br_t h0 H
    · by_cases h2 : 2 < v1
      · exact br_f h0 (br_t h2 H)
      · exact absurd ((uw_r3 v1).mpr ⟨h0, fun z => h2 ((uw_23 v1).mpr z)⟩) hv
theorem uw_out {k : Nat} {u : SX} {v : SY} (I : i_Rel k u v) (v1 : Int32) : ∃ r : Int32, (∀ post : Int32 → Prop, post r → wpX_out post u v1) ∧ (∀ post : Int32 → Prop, post r → wpY_out post v v1) := by
  obtain ⟨d, m, pc, stp, opc, mop, lou, lth, rng, nxt, edg, edn, frm, opn, nxy, way, wth, cal, kd, tg, op, fs, sc, sz, sk, wa, ld, hd, tb, po, fS, fE, fN, zs, ar, oN, oP, oW, oV, rfl, rfl, T, S, D, hp⟩ := I
  by_cases h0 : v1 < 0
  · exact ⟨0, fun post H => br_t h0 H, fun post H => br_t h0 H⟩
  · by_cases hl : v1 < nI pc
    · obtain ⟨j, hj, rfl⟩ := nI_of h0
      have hjn := (nI_ltI hj (by omega)).mp hl
      have i : vp_in (nI j) 300 := vp_in_nI (by omega) (by omega)
      exact ⟨_, fun post H => br_f h0 (br_t hl ⟨i, H⟩), fun post H => br_f h0 (br_t hl ⟨i, H⟩)⟩
    · exact ⟨0, fun post H => br_f h0 (br_f hl H), fun post H => br_f h0 (br_f hl H)⟩
theorem uw_register {k : Nat} {u : SX} {v : SY} (I : i_Rel k u v) (v1 : Int32) : ∃ r : Int32, (∀ post : Int32 → Prop, post r → wpX_register post u v1) ∧ (∀ post : Int32 → Prop, post r → wpY_register post v v1) := by
  obtain ⟨d, m, pc, stp, opc, mop, lou, lth, rng, nxt, edg, edn, frm, opn, nxy, way, wth, cal, kd, tg, op, fs, sc, sz, sk, wa, ld, hd, tb, po, fS, fE, fN, zs, ar, oN, oP, oW, oV, rfl, rfl, T, S, D, hp⟩ := I
  by_cases hr : vp_in v1 4
  · exact ⟨hd v1.toNatClampNeg, fun post H => (by dsimp only [wpX_register]; exact uw_xr (fun _ => br_f uw_10 ⟨hr, H⟩) (fun z => absurd hr z)), fun post H => (by dsimp only [wpY_register]; exact uw_yr (fun _ => br_f uw_10 ⟨hr, H⟩) (fun z => absurd hr z))⟩
  · exact ⟨0, fun post H => (by dsimp only [wpX_register]; exact uw_xr (fun z => absurd z hr) (fun _ => br_t rfl H)), fun post H => (by dsimp only [wpY_register]; exact uw_yr (fun z => absurd z hr) (fun _ => br_t rfl H))⟩
