/-! procedure: the copies, and the whole -/
variable {std mde pct stp opc mop lou lth rng nxt edg edn frm dpt opn nxy way wth cal eng thr sts ots dps : Int32} {kd tg op fs sc sz sk wa ld hd tb po fS fE fN zs ar oN oP oW oV : Nat → Int32}
theorem uw_copy {p : Nat} (hp : p < 3) : ∀ (e c : Nat) (kd tg op fs sc tb : Nat → Int32), c + e = 20 → uw_T kd tg op fs sc → ∃ kd' tg' op' fs' sc' tb' : Nat → Int32, uw_T kd' tg' op' fs' sc' ∧ (∀ (post : SX → Prop) (n : Nat), e < n → post (std, mde, pct, stp, opc, mop, lou, lth, rng, nxt, edg, edn, frm, kd', tg', op', fs', sc', sz, sk, wa, ld, hd, tb', po, fS, fE, fN) → wX_copyDraftTo_2 post (nI p) std mde pct stp opc mop lou lth rng nxt edg edn frm n (nI c) kd tg op fs sc sz sk wa ld hd tb po fS fE fN) ∧ (∀ (post : Int32 → SY → Prop) (n : Nat) (x2 : Int32), e < n → post x2 (0, opn, nxy, way, wth, cal, eng, thr, sts, ots, dps, kd', tg', op', fs', sc', upd (upd zs p x2) 3 0, sk, ar, ld, oN, oP, oW, oV, hd, tb', po) → wY_procedure_41 post (nI p) x2 dpt opn nxy way wth cal eng thr sts ots dps n (nI c) kd tg op fs sc zs sk ar ld oN oP oW oV hd tb po) := by
  intro e
  induction e with
  | zero =>
    intro c kd tg op fs sc tb hc T
    have h20 : (20 : Int32) ≤ nI c := nI_le (a := 20) (by omega) (by omega)
    refine ⟨kd, tg, op, fs, sc, tb, T, fun post n hn H => ?_, fun post n x2 hn H => ?_⟩
    · obtain ⟨n, rfl⟩ : ∃ q, n = q + 1 := ⟨n - 1, by omega⟩
      exact br_t h20 H
    · obtain ⟨n, rfl⟩ : ∃ q, n = q + 1 := ⟨n - 1, by omega⟩
      have cp : (nI p).toNatClampNeg = p := nI_clamp (by omega)
      exact br_t h20 ⟨vp_in_nI (by omega) (by omega), nm_r (by rw [cp]) (nm_e H)⟩
  | succ e ih =>
    intro c kd tg op fs sc tb hc T
    have h20 : ¬ (20 : Int32) ≤ nI c := nI_ge (b := 20) (by omega) (by decide)
    have e60 : (60 : Int32) + nI c = nI (60 + c) := nI_add 60 c
    have ex : nI p * 20 + nI c = nI (p * 20 + c) := by
      rw [show (20 : Int32) = nI 20 from rfl, pk_mul, nI_add]
    have ey : 20 * nI p + nI c = nI (p * 20 + c) := by
      rw [show (20 : Int32) = nI 20 from rfl, pk_mul, nI_add, Nat.mul_comm]
    have i80 : vp_in (nI (60 + c)) 80 := vp_in_nI (by omega) (by omega)
    have c60 : (nI (60 + c)).toNatClampNeg = 60 + c := nI_clamp (by omega)
    have j80 : vp_in (nI (p * 20 + c)) 80 := vp_in_nI (by omega) (by omega)
    have j60 : vp_in (nI (p * 20 + c)) 60 := vp_in_nI (by omega) (by omega)
    have cj : (nI (p * 20 + c)).toNatClampNeg = p * 20 + c := nI_clamp (by omega)
    obtain ⟨kd', tg', op', fs', sc', tb', T', hx, hy⟩ := ih (c + 1) _ _ _ _ _ (upd tb (p * 20 + c) 0) (by omega) (uw_T_upd T (p * 20 + c) (T (60 + c) (by omega)))
    refine ⟨kd', tg', op', fs', sc', tb', T', fun post n hn H => ?_, fun post n x2 hn H => ?_⟩
    · obtain ⟨n, rfl⟩ : ∃ q, n = q + 1 := ⟨n - 1, by omega⟩
      refine br_f h20 (nm_r e60 (nm_r ex ⟨i80, j80, nm_r (by rw [c60, cj]) ⟨i80, j80, nm_r (by rw [c60, cj]) ⟨i80, j80, nm_r (by rw [c60, cj]) ⟨i80, j80, nm_r (by rw [c60, cj]) ⟨i80, j80, nm_r (by rw [c60, cj]) ⟨j60, nm_r (by rw [cj]) (nm_r (nI_1 c) ?_)⟩⟩⟩⟩⟩⟩))
      exact hx post n (by omega) H
    · obtain ⟨n, rfl⟩ : ∃ q, n = q + 1 := ⟨n - 1, by omega⟩
      unfold wY_procedure_41
      rw [e60, ey, c60, cj]
      refine br_f h20 ⟨i80, j80, nm_e ⟨i80, j80, nm_e ⟨i80, j80, nm_e ⟨i80, j80, nm_e ⟨i80, j80, nm_e ⟨j60, nm_e (nm_r (nI_1 c) ?_)⟩⟩⟩⟩⟩⟩
      exact hy post n x2 (by omega) H
theorem uw_procedure {k : Nat} {u : SX} {v : SY} (I : i_Rel k u v) (v1 : Int32) : uw_E (k + 4) (fun post => wpX_procedure post u v1) (fun post => wpY_procedure post v v1) := by
  have I0 := I
  obtain ⟨d, m, pc, stp, opc, mop, lou, lth, rng, nxt, edg, edn, frm, opn, nxy, way, wth, cal, kd, tg, op, fs, sc, sz, sk, wa, ld, hd, tb, po, fS, fE, fN, zs, ar, oN, oP, oW, oV, rfl, rfl, T, S, D, hp⟩ := I
  by_cases hv : vp_in v1 3
  · obtain ⟨hv0, hv2⟩ := (uw_s3 v1).mp hv
    obtain ⟨p, hp3, rfl⟩ := vp_in_of hv (by decide)
    by_cases hd1 : d = 1
    · subst hd1
      obtain ⟨q, rfl⟩ : ∃ q, m = q + 1 := ⟨m - 1, by have := D.1; omega⟩
      have hq : q < 20 := by have := D.2.1; omega
      have em : nI (q + 1) - 1 = nI q := nI_pred q
      have iq : vp_in (nI q) 20 := vp_in_nI hq (by omega)
      have cq : (nI q).toNatClampNeg = q := nI_clamp (by omega)
      have hD : ∀ j, j + 1 < q + 1 → ∃ k, j < k ∧ k < q + 1 ∧ uw_P kd fs sc k j := by
        intro j hj
        rcases D.2.2.2.2 j (by omega) with ⟨i, hi, hs⟩ | h
        · have h0 : i = 0 := by omega
          subst h0
          have := D.2.2.2.1 (by omega)
          have e := (nI_eq (by omega) (by omega)).mp (hs.symm.trans this)
          omega
        · exact h
      have L : uw_L (q + 1) (q + 1) kd fs sc (upd wa q 0) (upd ar q 0) := by
        intro j hj h
        rcases h with h | ⟨k, h1, h2, _⟩
        · have : j = q := by omega
          subst this; rw [pk_us, pk_us]
        · omega
      obtain ⟨r, wa', ar', hr, hx, hy⟩ := uw_fit (std := nI 1) (mde := nI (q + 1)) (pct := nI pc) (stp := stp) (opc := opc) (mop := mop) (lou := lou) (lth := lth) (rng := rng) (nxt := nxt) (edg := edg) (edn := edn) (frm := frm) (sz := sz) (sk := sk) (ld := ld) (hd := hd) (tb := tb) (po := po) (fS := fS) (fE := fE) (fN := fN) (dpt := nI 1) (opn := opn) (nxy := nxy) (way := way) (wth := wth) (cal := cal) (eng := lou) (thr := lth) (sts := stp) (ots := nI pc) (dps := mop) (zs := zs) (oN := oN) (oP := oP) (oW := oW) (oV := oV) T (by omega) hD (q + 1) _ _ (Nat.le_refl _) L
      rcases hr with hr | hr
      · subst hr
        refine ⟨-5, (nI 1, nI (q + 1), nI pc, stp, opc, mop, lou, lth, rng, nxt, edg, edn, frm, kd, tg, op, fs, sc, sz, sk, wa', ld, hd, tb, po, fS, fE, fN), (nI 1, opn, nxy, way, wth, cal, lou, lth, stp, nI pc, mop, kd, tg, op, fs, sc, zs, sk, ar', ld, oN, oP, oW, oV, hd, tb, po), fun post H => ?_, fun post H => ?_, uw_mk T S D hp⟩
        · dsimp only [wpX_procedure]
          refine uw_xp (fun _ => br_f uw_10 (br_t rfl ?_)) (fun z => absurd hv z)
          dsimp only [wpX_hasLoopsEnough]
          rw [em, cq]
          exact ⟨iq, nm_e (nm_e ⟨q + 2, hx _ _ (by omega) (br_t rfl H)⟩)⟩
        · refine br_f hv0 (br_t hv2 (br_t rfl ?_))
          dsimp only [wpY_loopsFit]
          refine nm_r S.2 ?_
          rw [em, cq]
          exact ⟨iq, nm_e (nm_e ⟨q + 2, hy _ _ (by omega) (br_t rfl H)⟩)⟩
      · subst hr
        obtain ⟨kd', tg', op', fs', sc', tb', T', gx, gy⟩ := uw_copy (std := nI 1) (mde := nI (q + 1)) (pct := nI pc) (stp := stp) (opc := opc) (mop := mop) (lou := lou) (lth := lth) (rng := rng) (nxt := nxt) (edg := edg) (edn := edn) (frm := frm) (sz := sz) (sk := sk) (wa := wa') (ld := ld) (hd := hd) (po := po) (fS := fS) (fE := fE) (fN := fN) (dpt := nI 1) (opn := opn) (nxy := nxy) (way := way) (wth := wth) (cal := cal) (eng := lou) (thr := lth) (sts := stp) (ots := nI pc) (dps := mop) (zs := zs) (ar := ar') (oN := oN) (oP := oP) (oW := oW) (oV := oV) hp3 20 0 kd tg op fs sc tb (by omega) T
        have cp : (nI p).toNatClampNeg = p := nI_clamp (by omega)
        have S' : uw_S 0 (upd sz p (nI (q + 1))) (upd (upd zs p (nI (q + 1))) 3 (nI 0)) := by
          refine ⟨fun p' h => ?_, pk_us⟩
          rw [pk_un (by omega : p' ≠ 3)]
          by_cases e : p' = p
          · subst e; rw [pk_us, pk_us]; exact ⟨q + 1, by omega, by omega, rfl, rfl⟩
          · rw [pk_un e, pk_un e]; exact S.1 p' h
        refine ⟨nI (q + 1), (nI 0, nI 0, nI pc, stp, opc, mop, lou, lth, rng, nxt, edg, edn, frm, kd', tg', op', fs', sc', upd sz p (nI (q + 1)), sk, wa', ld, hd, tb', po, fS, fE, fN), (nI 0, opn, nxy, way, wth, cal, lou, lth, stp, nI pc, mop, kd', tg', op', fs', sc', upd (upd zs p (nI (q + 1))) 3 (nI 0), sk, ar', ld, oN, oP, oW, oV, hd, tb', po), fun post H => ?_, fun post H => ?_, uw_mk T' S' uw_D0 hp⟩
        · dsimp only [wpX_procedure]
          refine uw_xp (fun _ => br_f uw_10 (br_t rfl ?_)) (fun z => absurd hv z)
          dsimp only [wpX_hasLoopsEnough]
          rw [em, cq]
          refine ⟨iq, nm_e (nm_e ⟨q + 2, hx _ _ (by omega) (br_f uw_10 ?_)⟩)⟩
          dsimp only [wpX_copyDraftTo]
          refine ⟨21, gx _ _ (by omega) ?_⟩
          dsimp only [wpX_emptyStack]
          refine ⟨hv, nm_r (by rw [cp]) ⟨hv, ?_⟩⟩
          rw [cp, pk_us]
          exact H
        · refine br_f hv0 (br_t hv2 (br_t rfl ?_))
          dsimp only [wpY_loopsFit]
          refine nm_r S.2 ?_
          rw [em, cq]
          refine ⟨iq, nm_e (nm_e ⟨q + 2, hy _ _ (by omega) (br_f uw_10 (nm_r S.2 ⟨21, gy _ _ _ (by omega) ?_⟩))⟩)⟩
          exact H
    · have hn : ¬ nI d = 1 := uw_ne 1 rfl (by have := D.1; have := D.2.1; omega) (by decide) hd1
      exact ⟨-3, _, _, fun post H => (by dsimp only [wpX_procedure]; exact uw_xp (fun _ => br_f uw_10 (br_f hn H)) (fun z => absurd hv z)),
        fun post H => br_f hv0 (br_t hv2 (br_f hn H)), I0⟩
  · refine ⟨-1, _, _, fun post H => (by dsimp only [wpX_procedure]; exact uw_xp (fun z => absurd z hv) (fun _ => br_t rfl H)), fun post H => ?_, I0⟩
    by_cases h0 : v1 < 0
    · exact br_t h0 H
    · by_cases h2 : v1 ≤ 2
      · exact absurd ((uw_s3 v1).mpr ⟨h0, h2⟩) hv
      · exact br_f h0 (br_f h2 H)
