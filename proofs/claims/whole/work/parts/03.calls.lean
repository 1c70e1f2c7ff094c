/-! simple, loop, join and the small methods: both sides with one answer, in related states again -/
variable {std mde pct stp opc mop lou lth rng nxt edg edn frm dpt opn nxy way wth cal eng thr sts ots dps : Int32} {kd tg op fs sc sz sk wa ld hd tb po fS fE fN zs ar oN oP oW oV : Nat → Int32}
/-- what is owed of a method that may write -/
def uw_E (k : Nat) (wx : (Int32 → SX → Prop) → Prop) (wy : (Int32 → SY → Prop) → Prop) : Prop := ∃ (r : Int32) (u' : SX) (v' : SY), (∀ post : Int32 → SX → Prop, post r u' → wx post) ∧ (∀ post : Int32 → SY → Prop, post r v' → wy post) ∧ i_Rel k u' v'
theorem uw_Ei {k : Nat} {wx : (Int32 → SX → Prop) → Prop} {wy : (Int32 → SY → Prop) → Prop} (h : uw_E k wx wy) : wx (fun r u' => wy (fun r' v' => r' = r ∧ i_Rel k u' v')) := by
  obtain ⟨r, u', v', hx, hy, R⟩ := h
  exact hx _ (hy _ ⟨rfl, R⟩)
theorem uw_xs32 {post : Int32 → SX → Prop} {a : Nat} {v2 v3 : Int32} (ha : a ≤ 10) (hr : 1 ≤ a ∧ a ≤ 6 → vp_in v2 4) (K : wX_simple_32 post (nI a) v2 v3 std mde pct stp opc mop lou lth rng nxt edg edn frm kd tg op fs sc sz sk wa ld hd tb po fS fE fN) : wpX_simple post (std, mde, pct, stp, opc, mop, lou, lth, rng, nxt, edg, edn, frm, kd, tg, op, fs, sc, sz, sk, wa, ld, hd, tb, po, fS, fE, fN) (nI a) v2 v3 := by
  have h0 : ¬ nI a < 0 := nI_pos (by omega)
  have h10 : nI a ≤ 10 := nI_le (b := 10) ha (by decide)
  by_cases h1 : nI a < 1
  · exact br_f h0 (br_t h10 (br_t h1 K))
  · by_cases h6 : 6 < nI a
    · exact br_f h0 (br_t h10 (br_f h1 (br_t h6 K)))
    · have g1 : ¬ a < 1 := fun z => h1 (nI_lt (b := 1) z (by decide))
      have g6 : ¬ 6 < a := fun z => h6 (nI_lt (a := 6) z (by omega))
      exact br_f h0 (br_t h10 (br_f h1 (br_f h6 (uw_xr (fun _ => br_f uw_10 K) (fun z => absurd (hr ⟨by omega, by omega⟩) z)))))
theorem uw_ys33 {post : Int32 → SY → Prop} {a : Nat} {v2 v3 : Int32} (ha : a ≤ 10) (hr : 1 ≤ a ∧ a ≤ 6 → vp_in v2 4) (K : wY_simple_33 post (nI a) v2 v3 dpt opn nxy way wth cal eng thr sts ots dps kd tg op fs sc zs sk ar ld oN oP oW oV hd tb po) : wpY_simple post (dpt, opn, nxy, way, wth, cal, eng, thr, sts, ots, dps, kd, tg, op, fs, sc, zs, sk, ar, ld, oN, oP, oW, oV, hd, tb, po) (nI a) v2 v3 := by
  have h0 : ¬ nI a < 0 := nI_pos (by omega)
  have h10 : nI a ≤ 10 := nI_le (b := 10) ha (by decide)
  by_cases h1 : nI a < 1
  · exact br_f h0 (br_t h10 (br_t h1 K))
  · by_cases h6 : 6 < nI a
    · exact br_f h0 (br_t h10 (br_f h1 (br_t h6 K)))
    · have g1 : ¬ a < 1 := fun z => h1 (nI_lt (b := 1) z (by decide))
      have g6 : ¬ 6 < a := fun z => h6 (nI_lt (a := 6) z (by omega))
      exact br_f h0 (br_t h10 (br_f h1 (br_f h6 (uw_yr (fun _ => br_f uw_10 K) (fun z => absurd (hr ⟨by omega, by omega⟩) z)))))
theorem uw_simple {k : Nat} {u : SX} {v : SY} (I : i_Rel k u v) (v1 v2 v3 : Int32) : uw_E (k + 4) (fun post => wpX_simple post u v1 v2 v3) (fun post => wpY_simple post v v1 v2 v3) := by
  have I0 := I
  obtain ⟨d, m, pc, stp, opc, mop, lou, lth, rng, nxt, edg, edn, frm, opn, nxy, way, wth, cal, kd, tg, op, fs, sc, sz, sk, wa, ld, hd, tb, po, fS, fE, fN, zs, ar, oN, oP, oW, oV, rfl, rfl, T, S, D, hp⟩ := I
  by_cases h0 : v1 < 0
  · exact ⟨-1, _, _, fun post H => br_t h0 H, fun post H => br_t h0 H, I0⟩
  by_cases h10 : v1 ≤ 10
  · obtain ⟨a, ha, rfl⟩ := nI_of2 (n := 10) (M := 10) (by decide) h0 h10
    by_cases hr : (1 ≤ a ∧ a ≤ 6) ∧ ¬ vp_in v2 4
    · have g1 : ¬ nI a < 1 := nI_nlt (b := 1) hr.1.1 (by omega)
      have g6 : ¬ 6 < nI a := nI_nlt (a := 6) hr.1.2 (by decide)
      exact ⟨-1, _, _, fun post H => br_f h0 (br_t h10 (br_f g1 (br_f g6 (uw_xr (fun z => absurd z hr.2) (fun _ => br_t rfl H))))),
        fun post H => br_f h0 (br_t h10 (br_f g1 (br_f g6 (uw_yr (fun z => absurd z hr.2) (fun _ => br_t rfl H))))), I0⟩
    have hr' : 1 ≤ a ∧ a ≤ 6 → vp_in v2 4 := fun z => Classical.byContradiction fun w => hr ⟨z, w⟩
    by_cases hf : uw_F a v3
    · by_cases hm : m < 20
      · have hx : nI m < 20 := nI_lt (b := 20) hm (by decide)
        have hy : ¬ zs 3 = 20 := by
          rw [S.2]
          exact fun z => absurd ((nI_eq (b := 20) (by omega) (by decide)).mp z) (by omega)
        have h1 : uw_1 (nI a) v2 v3 0 0 := ⟨a, by omega, rfl, fun z => hr' (by omega), hf.2.1, hf.2.2, vp_in_nI (n := 0) (by decide) (by decide), vp_in_nI (n := 0) (by decide) (by decide)⟩
        refine ⟨nI m, (nI (d + 1), nI (m + 1), nI pc, stp, opc, mop, lou, lth, rng, nxt, edg, edn, frm, upd kd (60 + m) (nI a), upd tg (60 + m) v2, upd op (60 + m) v3, upd fs (60 + m) 0, upd sc (60 + m) 0, sz, upd sk d (nI m), wa, ld, hd, tb, po, fS, fE, fN), (nI (d + 1), opn, nxy, way, wth, cal, lou, lth, stp, nI pc, mop, upd kd (60 + m) (nI a), upd tg (60 + m) v2, upd op (60 + m) v3, upd fs (60 + m) 0, upd sc (60 + m) 0, upd zs 3 (nI (m + 1)), upd sk d (nI m), ar, ld, oN, oP, oW, oV, hd, tb, po), fun post H => uw_xs32 ha hr' (uw_xf ha (fun _ => br_f uw_10 (br_t hx (uw_xpush (d := d) (m := m) (by have := D.1; omega) hm H))) (fun z => absurd hf z)),
          fun post H => uw_ys33 ha hr' (uw_yf ha (fun _ => br_t rfl (br_f hy (uw_ymake (d := d) (m := m) S.2 (by have := D.1; omega) hm H))) (fun z => absurd hf z)), ?_⟩
        exact uw_mk (uw_T_upd T _ h1) (uw_S_made S) (uw_D_gen D hm (Nat.le_refl _) (fun i j h1 h2 => absurd h2 (by omega))) hp
      · have e : m = 20 := by have := D.2.1; omega
        have hx : ¬ nI m < 20 := nI_nlt (b := 20) (by omega) (by omega)
        have hy : zs 3 = 20 := by rw [S.2, e]; rfl
        exact ⟨-2, _, _, fun post H => uw_xs32 ha hr' (uw_xf ha (fun _ => br_f uw_10 (br_f hx H)) (fun z => absurd hf z)),
          fun post H => uw_ys33 ha hr' (uw_yf ha (fun _ => br_t rfl (br_t hy H)) (fun z => absurd hf z)), I0⟩
    · exact ⟨-1, _, _, fun post H => uw_xs32 ha hr' (uw_xf ha (fun z => absurd z hf) (fun _ => br_t rfl H)),
        fun post H => uw_ys33 ha hr' (uw_yf ha (fun z => absurd z hf) (fun _ => br_f uw_10 H)), I0⟩
  · exact ⟨-1, _, _, fun post H => br_f h0 (br_f h10 H), fun post H => br_f h0 (br_f h10 H), I0⟩
theorem uw_loop {k : Nat} {u : SX} {v : SY} (I : i_Rel k u v) (v1 : Int32) : uw_E (k + 4) (fun post => wpX_loop post u v1) (fun post => wpY_loop post v v1) := by
  have I0 := I
  obtain ⟨d, m, pc, stp, opc, mop, lou, lth, rng, nxt, edg, edn, frm, opn, nxy, way, wth, cal, kd, tg, op, fs, sc, sz, sk, wa, ld, hd, tb, po, fS, fE, fN, zs, ar, oN, oP, oW, oV, rfl, rfl, T, S, D, hp⟩ := I
  by_cases hr : vp_in v1 4
  · by_cases hm : m < 20
    · have hx : nI m < 20 := nI_lt (b := 20) hm (by decide)
      have hy : ¬ zs 3 = 20 := by
        rw [S.2]
        exact fun z => absurd ((nI_eq (b := 20) (by omega) (by decide)).mp z) (by omega)
      by_cases hd0 : d = 0
      · subst hd0
        have h1 : ¬ (1 : Int32) ≤ nI 0 := by decide +kernel
        exact ⟨-3, _, _, fun post H => (by dsimp only [wpX_loop]; exact uw_xr (fun _ => br_f uw_10 (br_t hx (br_f h1 H))) (fun z => absurd hr z)),
          fun post H => (by dsimp only [wpY_loop]; exact uw_yr (fun _ => br_f uw_10 (br_f hy (br_f h1 H))) (fun z => absurd hr z)), I0⟩
      · obtain ⟨e, rfl⟩ : ∃ e, d = e + 1 := ⟨d - 1, by omega⟩
        have h1 : (1 : Int32) ≤ nI (e + 1) := nI_le (a := 1) (by omega) (by have := D.1; omega)
        have hi : vp_in (nI e) 20 := vp_in_nI (by have := D.1; omega) (by omega)
        have hc : (nI e).toNatClampNeg = e := nI_clamp (by have := D.1; omega)
        have h11 : uw_1 11 v1 0 (sk e) 0 := ⟨11, by omega, rfl, fun _ => hr, fun z => absurd z (by omega), fun z => absurd z (by omega), D.2.2.1 e (by omega), vp_in_nI (n := 0) (by decide) (by decide)⟩
        refine ⟨nI m, (nI (e + 1), nI (m + 1), nI pc, stp, opc, mop, lou, lth, rng, nxt, edg, edn, frm, upd kd (60 + m) 11, upd tg (60 + m) v1, upd op (60 + m) 0, upd fs (60 + m) (sk e), upd sc (60 + m) 0, sz, upd sk e (nI m), wa, ld, hd, tb, po, fS, fE, fN), (nI (e + 1), opn, nxy, way, wth, cal, lou, lth, stp, nI pc, mop, upd kd (60 + m) 11, upd tg (60 + m) v1, upd op (60 + m) 0, upd fs (60 + m) (sk e), upd sc (60 + m) 0, upd zs 3 (nI (m + 1)), upd sk e (nI m), ar, ld, oN, oP, oW, oV, hd, tb, po), fun post H => ?_, fun post H => ?_, uw_mk (uw_T_upd T (60 + m) h11) (uw_S_made S) (uw_D_gen (e := e) D hm (by omega) (fun i j h1 h2 h3 => Or.inl ⟨pk_us, by rw [pk_us, ← h3, show i = e by omega]⟩)) hp⟩
        · dsimp only [wpX_loop]
          refine uw_xr (fun _ => br_f uw_10 (br_t hx (br_t h1 (nm_r (nI_pred e) ⟨hi, ?_⟩)))) (fun z => absurd hr z)
          rw [hc]; exact uw_xpush (d := e) (m := m) (by have := D.1; omega) hm H
        · dsimp only [wpY_loop]
          refine uw_yr (fun _ => br_f uw_10 (br_f hy (br_t h1 (nm_r (nI_pred e) ⟨hi, ?_⟩)))) (fun z => absurd hr z)
          rw [hc]; exact uw_ymake (d := e) (m := m) S.2 (by have := D.1; omega) hm H
    · have e : m = 20 := by have := D.2.1; omega
      have hx : ¬ nI m < 20 := nI_nlt (b := 20) (by omega) (by omega)
      have hy : zs 3 = 20 := by rw [S.2, e]; rfl
      exact ⟨-2, _, _, fun post H => (by dsimp only [wpX_loop]; exact uw_xr (fun _ => br_f uw_10 (br_f hx H)) (fun z => absurd hr z)),
        fun post H => (by dsimp only [wpY_loop]; exact uw_yr (fun _ => br_f uw_10 (br_t hy H)) (fun z => absurd hr z)), I0⟩
  · exact ⟨-1, _, _, fun post H => (by dsimp only [wpX_loop]; exact uw_xr (fun z => absurd z hr) (fun _ => br_t rfl H)), fun post H => (by dsimp only [wpY_loop]; exact uw_yr (fun z => absurd z hr) (fun _ => br_t rfl H)), I0⟩
theorem uw_xj30 {post : Int32 → SX → Prop} {a : Nat} {v2 : Int32} (ha : a ≤ 3) (hr : a = 1 ∨ a = 2 → vp_in v2 4) (K : wX_join_30 post (nI a) v2 std mde pct stp opc mop lou lth rng nxt edg edn frm kd tg op fs sc sz sk wa ld hd tb po fS fE fN) : wpX_join post (std, mde, pct, stp, opc, mop, lou, lth, rng, nxt, edg, edn, frm, kd, tg, op, fs, sc, sz, sk, wa, ld, hd, tb, po, fS, fE, fN) (nI a) v2 := by
  have h0 : ¬ nI a < 0 := nI_pos (by omega)
  have h3 : nI a ≤ 3 := nI_le (b := 3) ha (by decide)
  by_cases h1 : nI a = 1
  · have g := (nI_eq (b := 1) (by omega) (by decide)).mp h1
    exact br_f h0 (br_t h3 (br_t h1 (uw_xr (fun _ => br_f uw_10 K) (fun z => absurd (hr (by omega)) z))))
  · by_cases h2 : nI a = 2
    · have g := (nI_eq (b := 2) (by omega) (by decide)).mp h2
      exact br_f h0 (br_t h3 (br_f h1 (br_t h2 (uw_xr (fun _ => br_f uw_10 K) (fun z => absurd (hr (by omega)) z)))))
    · exact br_f h0 (br_t h3 (br_f h1 (br_f h2 K)))
theorem uw_yj31 {post : Int32 → SY → Prop} {a : Nat} {v2 : Int32} (ha : a ≤ 3) (hr : a = 1 ∨ a = 2 → vp_in v2 4) (K : wY_join_31 post (nI a) v2 dpt opn nxy way wth cal eng thr sts ots dps kd tg op fs sc zs sk ar ld oN oP oW oV hd tb po) : wpY_join post (dpt, opn, nxy, way, wth, cal, eng, thr, sts, ots, dps, kd, tg, op, fs, sc, zs, sk, ar, ld, oN, oP, oW, oV, hd, tb, po) (nI a) v2 := by
  have h0 : ¬ nI a < 0 := nI_pos (by omega)
  have h3 : nI a ≤ 3 := nI_le (b := 3) ha (by decide)
  by_cases h1 : nI a = 1
  · have g := (nI_eq (b := 1) (by omega) (by decide)).mp h1
    exact br_f h0 (br_t h3 (br_t h1 (uw_yr (fun _ => br_f uw_10 K) (fun z => absurd (hr (by omega)) z))))
  · by_cases h2 : nI a = 2
    · have g := (nI_eq (b := 2) (by omega) (by decide)).mp h2
      exact br_f h0 (br_t h3 (br_f h1 (br_t h2 (uw_yr (fun _ => br_f uw_10 K) (fun z => absurd (hr (by omega)) z)))))
    · exact br_f h0 (br_t h3 (br_f h1 (br_f h2 K)))
theorem uw_join {k : Nat} {u : SX} {v : SY} (I : i_Rel k u v) (v1 v2 : Int32) : uw_E (k + 4) (fun post => wpX_join post u v1 v2) (fun post => wpY_join post v v1 v2) := by
  have I0 := I
  obtain ⟨d, m, pc, stp, opc, mop, lou, lth, rng, nxt, edg, edn, frm, opn, nxy, way, wth, cal, kd, tg, op, fs, sc, sz, sk, wa, ld, hd, tb, po, fS, fE, fN, zs, ar, oN, oP, oW, oV, rfl, rfl, T, S, D, hp⟩ := I
  by_cases h0 : v1 < 0
  · exact ⟨-1, _, _, fun post H => br_t h0 H, fun post H => br_t h0 H, I0⟩
  by_cases h3 : v1 ≤ 3
  · obtain ⟨a, ha, rfl⟩ := nI_of2 (n := 3) (M := 3) (by decide) h0 h3
    by_cases hr : (a = 1 ∨ a = 2) ∧ ¬ vp_in v2 4
    · by_cases g1 : nI a = 1
      · exact ⟨-1, _, _, fun post H => br_f h0 (br_t h3 (br_t g1 (uw_xr (fun z => absurd z hr.2) (fun _ => br_t rfl H)))),
          fun post H => br_f h0 (br_t h3 (br_t g1 (uw_yr (fun z => absurd z hr.2) (fun _ => br_t rfl H)))), I0⟩
      · have g2 : nI a = 2 := by
          rcases hr.1 with e | e
          · exact absurd (by rw [e]; rfl) g1
          · rw [e]; rfl
        exact ⟨-1, _, _, fun post H => br_f h0 (br_t h3 (br_f g1 (br_t g2 (uw_xr (fun z => absurd z hr.2) (fun _ => br_t rfl H))))),
          fun post H => br_f h0 (br_t h3 (br_f g1 (br_t g2 (uw_yr (fun z => absurd z hr.2) (fun _ => br_t rfl H))))), I0⟩
    have hr' : a = 1 ∨ a = 2 → vp_in v2 4 := fun z => Classical.byContradiction fun w => hr ⟨z, w⟩
    by_cases hm : m < 20
    · have hx : nI m < 20 := nI_lt (b := 20) hm (by decide)
      have hy : ¬ zs 3 = 20 := by
        rw [S.2]
        exact fun z => absurd ((nI_eq (b := 20) (by omega) (by decide)).mp z) (by omega)
      by_cases hd0 : d < 2
      · have h1 : ¬ (2 : Int32) ≤ nI d := nI_ge (b := 2) hd0 (by decide)
        exact ⟨-3, _, _, fun post H => uw_xj30 ha hr' (br_t hx (br_f h1 H)), fun post H => uw_yj31 ha hr' (br_f hy (br_f h1 H)), I0⟩
      · obtain ⟨e, rfl⟩ : ∃ e, d = e + 2 := ⟨d - 2, by omega⟩
        have D1 := D.1
        have h1 : (2 : Int32) ≤ nI (e + 2) := nI_le (a := 2) (by omega) (by omega)
        have hs : nI (e + 2) - 2 = nI e := pk_sub (b := 2) (by omega)
        have hi : vp_in (nI e) 20 := vp_in_nI (by omega) (by omega)
        have hi1 : vp_in (nI e + 1) 20 := by rw [nI_1]; exact vp_in_nI (by omega) (by omega)
        have hc : (nI e).toNatClampNeg = e := nI_clamp (by omega)
        have hc1 : (nI e + 1).toNatClampNeg = e + 1 := by rw [nI_1]; exact nI_clamp (by omega)
        have ea : (12 : Int32) + nI a = nI (12 + a) := nI_add 12 a
        have h12 : uw_1 (nI (12 + a)) v2 0 (sk e) (sk (e + 1)) := ⟨12 + a, by omega, rfl, fun z => hr' (by omega), fun z => absurd z (by omega), fun z => absurd z (by omega), D.2.2.1 e (by omega), D.2.2.1 (e + 1) (by omega)⟩
        refine ⟨nI m, (nI (e + 1), nI (m + 1), nI pc, stp, opc, mop, lou, lth, rng, nxt, edg, edn, frm, upd kd (60 + m) (nI (12 + a)), upd tg (60 + m) v2, upd op (60 + m) 0, upd fs (60 + m) (sk e), upd sc (60 + m) (sk (e + 1)), sz, upd sk e (nI m), wa, ld, hd, tb, po, fS, fE, fN), (nI (e + 1), opn, nxy, way, wth, cal, lou, lth, stp, nI pc, mop, upd kd (60 + m) (nI (12 + a)), upd tg (60 + m) v2, upd op (60 + m) 0, upd fs (60 + m) (sk e), upd sc (60 + m) (sk (e + 1)), upd zs 3 (nI (m + 1)), upd sk e (nI m), ar, ld, oN, oP, oW, oV, hd, tb, po), fun post H => uw_xj30 ha hr' (br_t hx (br_t h1 (nm_r hs ⟨hi, hi1, ?_⟩))),
          fun post H => uw_yj31 ha hr' (br_f hy (br_t h1 (nm_r hs ⟨hi, hi1, ?_⟩))),
          uw_mk (uw_T_upd T (60 + m) h12) (uw_S_made S) (uw_D_gen (e := e) D hm (by omega) (fun i j h1 h2 h3 => Or.inr ⟨⟨12 + a, by omega, by omega, pk_us⟩, ?_⟩)) hp⟩
        · rw [hc, hc1, ea]; exact uw_xpush (d := e) (m := m) (by omega) hm H
        · rw [hc, hc1, ea]; exact uw_ymake (d := e) (m := m) S.2 (by omega) hm H
        · rcases (by omega : i = e ∨ i = e + 1) with h | h
          · exact Or.inl (by rw [pk_us, ← h3, h])
          · exact Or.inr (by rw [pk_us, ← h3, h])
    · have e : m = 20 := by have := D.2.1; omega
      have hx : ¬ nI m < 20 := nI_nlt (b := 20) (by omega) (by omega)
      have hy : zs 3 = 20 := by rw [S.2, e]; rfl
      exact ⟨-2, _, _, fun post H => uw_xj30 ha hr' (br_f hx H), fun post H => uw_yj31 ha hr' (br_t hy H), I0⟩
  · exact ⟨-1, _, _, fun post H => br_f h0 (br_f h3 H), fun post H => br_f h0 (br_f h3 H), I0⟩
theorem uw_discard {k : Nat} {u : SX} {v : SY} (I : i_Rel k u v) : uw_E (k + 4) (fun post => wpX_discard post u) (fun post => wpY_discard post v) := by
  obtain ⟨d, m, pc, stp, opc, mop, lou, lth, rng, nxt, edg, edn, frm, opn, nxy, way, wth, cal, kd, tg, op, fs, sc, sz, sk, wa, ld, hd, tb, po, fS, fE, fN, zs, ar, oN, oP, oW, oV, rfl, rfl, T, S, D, hp⟩ := I
  exact ⟨nI d, (nI 0, nI 0, nI pc, stp, opc, mop, lou, lth, rng, nxt, edg, edn, frm, kd, tg, op, fs, sc, sz, sk, wa, ld, hd, tb, po, fS, fE, fN), (nI 0, opn, nxy, way, wth, cal, lou, lth, stp, nI pc, mop, kd, tg, op, fs, sc, upd zs 3 (nI 0), sk, ar, ld, oN, oP, oW, oV, hd, tb, po), fun post H => (by dsimp only [wpX_discard, wpX_emptyStack]; exact H), fun post H => (by dsimp only [wpY_discard]; exact nm_e H), uw_mk (d := 0) (m := 0) T (uw_S_made S) uw_D0 hp⟩
theorem uw_load {k : Nat} {u : SX} {v : SY} (I : i_Rel k u v) (v1 v2 : Int32) : uw_E (k + 4) (fun post => wpX_load post u v1 v2) (fun post => wpY_load post v v1 v2) := by
  have I0 := I
  obtain ⟨d, m, pc, stp, opc, mop, lou, lth, rng, nxt, edg, edn, frm, opn, nxy, way, wth, cal, kd, tg, op, fs, sc, sz, sk, wa, ld, hd, tb, po, fS, fE, fN, zs, ar, oN, oP, oW, oV, rfl, rfl, T, S, D, hp⟩ := I
  by_cases hr : vp_in v1 4
  · exact ⟨0, (nI d, nI m, nI pc, stp, opc, mop, lou, lth, rng, nxt, edg, edn, frm, kd, tg, op, fs, sc, sz, sk, wa, upd ld v1.toNatClampNeg v2, hd, tb, po, fS, fE, fN), (nI d, opn, nxy, way, wth, cal, lou, lth, stp, nI pc, mop, kd, tg, op, fs, sc, zs, sk, ar, upd ld v1.toNatClampNeg v2, oN, oP, oW, oV, hd, tb, po), fun post H => (by dsimp only [wpX_load]; exact uw_xr (fun _ => br_f uw_10 ⟨hr, nm_e H⟩) (fun z => absurd hr z)), fun post H => (by dsimp only [wpY_load]; exact uw_yr (fun _ => br_f uw_10 ⟨hr, nm_e H⟩) (fun z => absurd hr z)), uw_mk (ld := upd ld v1.toNatClampNeg v2) T S D hp⟩
  · exact ⟨-1, _, _, fun post H => (by dsimp only [wpX_load]; exact uw_xr (fun z => absurd z hr) (fun _ => br_t rfl H)), fun post H => (by dsimp only [wpY_load]; exact uw_yr (fun z => absurd z hr) (fun _ => br_t rfl H)), I0⟩
