/-! one turn that passes an ending on -/
variable {std mde pct stp opc mop lou lth rng nxt edg edn frm dpt opn nxy way wth cal eng thr sts ots dps : Int32} {kd tg op fs sc sz sk wa ld hd tb po fS fE fN zs ar oN oP oW oV : Nat → Int32}
section
variable {w d m pc st F : Nat}
theorem uw_pass (B : uw_B d m kd tg op fs sc sz zs sk) (hst : st ≤ 300) (hpc : pc ≤ st) (hF : F ≤ st) (hG : uw_G F kd fS fE fN oN oP oW oV) (h8 : opc.toInt ≤ 8) (hw : (w : Int) ≤ opc.toInt + 2000) (hne : ¬ edg = -1) (ew : w = 3 * (301 - st) + F + 1) : uw_N w (fun post => wpX_passEndingOn post (nI d, nI m, nI pc, nI st, opc, mop, lou, 0, 1, -1, edg, edn, nI F, kd, tg, op, fs, sc, sz, sk, wa, ld, hd, tb, po, fS, fE, fN)) (fun post => wpY_passUp post (nI d, nI F, -1, edg, edn, opc, -1, 0, nI st, nI pc, mop, kd, tg, op, fs, sc, zs, sk, ar, ld, oN, oP, oW, oV, hd, tb, po)) := by
  by_cases hF0 : F = 0
  · subst hF0
    by_cases h1 : edg = 1
    · subst h1
      exact ⟨_, _, fun post H => uw_xend1 H, fun post H => uw_yend1 H, uw_goQ B (by omega) (by decide +kernel)⟩
    · exact ⟨_, _, fun post H => uw_xend0 h1 H, fun post H => uw_yend0 h1 H, uw_goQ B (by omega) (by decide +kernel)⟩
  obtain ⟨G, rfl⟩ : ∃ G, F = G + 1 := ⟨F - 1, by omega⟩
  have hG3 : G < 300 := by omega
  obtain ⟨h60, es, h3⟩ := hG G (by omega)
  have h80 : vp_in (fS G) 80 := uw_in h60 (by omega)
  obtain ⟨a, ha, hk, ht, ho, hc3, hf, hs⟩ := B.1 (fS G).toNatClampNeg (uw_inc h80 (by decide))
  have ad := uw_add (x := opc) (by omega) h8
  have hP := uw_G_pop hG
  by_cases k10 : kd (fS G).toNatClampNeg = 10
  · by_cases h1 : edg = 1
    · subst h1
      exact ⟨_, _, fun post H => uw_xp10t hG3 h80 k10 H, fun post H => uw_yp10t es hG3 h80 k10 H, uw_go0 B (by omega) (by omega) (by omega) hP (by omega) (by omega) hne (by omega)⟩
    · exact ⟨_, _, fun post H => uw_xp10 hG3 h80 k10 h1 H, fun post H => uw_yp10 es hG3 h80 k10 h1 H, uw_go0 B (by omega) (by omega) (by omega) hP (by omega) (by omega) (by decide +kernel) (by omega)⟩
  by_cases k11 : kd (fS G).toNatClampNeg = 11
  · have ht := ht (Or.inr (Or.inl ((nI_eq (b := 11) (by omega) (by decide)).mp (hk.symm.trans k11))))
    by_cases e0 : edg = 0
    · subst e0
      by_cases hz : hd (tg (fS G).toNatClampNeg).toNatClampNeg = 0
      · exact ⟨_, _, fun post H => uw_xp11_0z hG3 h80 k11 ht hz H, fun post H => uw_yp11_0z es hG3 h80 k11 ht hz H, uw_go0 B (by omega) (by omega) (by omega) hP h8 (by omega) (by decide +kernel) (by omega)⟩
      · exact ⟨_, _, fun post H => uw_xp11_0n hG3 h80 k11 ht hz H, fun post H => uw_yp11_0n es hG3 h80 k11 ht hz H, uw_go1 B (by omega) (by omega) (by omega) (uw_G_re hG k11) h8 (by omega) (uw_to_in h60 hf) (by omega)⟩
    by_cases e3 : edg = 3
    · subst e3
      by_cases hn : edn = 0
      · subst hn
        by_cases hz : hd (tg (fS G).toNatClampNeg).toNatClampNeg = 0
        · exact ⟨_, _, fun post H => uw_xp11_30z hG3 h80 k11 ht hz H, fun post H => uw_yp11_30z es hG3 h80 k11 ht hz H, uw_go0 B (by omega) (by omega) (by omega) hP h8 (by omega) (by decide +kernel) (by omega)⟩
        · exact ⟨_, _, fun post H => uw_xp11_30n hG3 h80 k11 ht hz H, fun post H => uw_yp11_30n es hG3 h80 k11 ht hz H, uw_go1 B (by omega) (by omega) (by omega) (uw_G_re hG k11) h8 (by omega) (uw_to_in h60 hf) (by omega)⟩
      · exact ⟨_, _, fun post H => uw_xp11_3 hG3 h80 k11 ht hn H, fun post H => uw_yp11_3 es hG3 h80 k11 ht hn H, uw_go0 B (by omega) (by omega) (by omega) hP h8 (by omega) hne (by omega)⟩
    by_cases e2 : edg = 2
    · subst e2
      by_cases hn : edn = 0
      · subst hn
        exact ⟨_, _, fun post H => uw_xp11_20 hG3 h80 k11 ht H, fun post H => uw_yp11_20 es hG3 h80 k11 ht H, uw_go0 B (by omega) (by omega) (by omega) hP h8 (by omega) (by decide +kernel) (by omega)⟩
      · exact ⟨_, _, fun post H => uw_xp11_2 hG3 h80 k11 ht hn H, fun post H => uw_yp11_2 es hG3 h80 k11 ht hn H, uw_go0 B (by omega) (by omega) (by omega) hP h8 (by omega) hne (by omega)⟩
    · exact ⟨_, _, fun post H => uw_xp11 hG3 h80 k11 ht e0 e2 e3 H, fun post H => uw_yp11 es hG3 h80 k11 ht e0 e2 e3 H, uw_go0 B (by omega) (by omega) (by omega) hP h8 (by omega) hne (by omega)⟩
  by_cases k12 : kd (fS G).toNatClampNeg = 12
  · by_cases e0 : edg = 0
    · subst e0
      exact ⟨_, _, fun post H => uw_xp12n hG3 h80 k12 H, fun post H => uw_yp12n es hG3 h80 k12 H, uw_go1 B (by omega) (by omega) (by omega) hP h8 (by omega) (uw_to_in h60 hs) (by omega)⟩
    · exact ⟨_, _, fun post H => uw_xp12 hG3 h80 k12 e0 H, fun post H => uw_yp12 es hG3 h80 k12 e0 H, uw_go0 B (by omega) (by omega) (by omega) hP h8 (by omega) hne (by omega)⟩
  by_cases k14 : kd (fS G).toNatClampNeg = 14
  · have ht := ht (Or.inr (Or.inr (Or.inr ((nI_eq (b := 14) (by omega) (by decide)).mp (hk.symm.trans k14)))))
    by_cases e1 : edg = 1
    · subst e1
      exact ⟨_, _, fun post H => uw_xp14t hG3 h80 k14 ht H, fun post H => uw_yp14t es hG3 h80 k14 ht H, uw_go1 B (by omega) (by omega) (by omega) hP h8 (by omega) (uw_to_in h60 hs) (by omega)⟩
    · exact ⟨_, _, fun post H => uw_xp14 hG3 h80 k14 e1 H, fun post H => uw_yp14 es hG3 h80 k14 e1 H, uw_go0 B (by omega) (by omega) (by omega) hP h8 (by omega) hne (by omega)⟩
  rcases h3 with h | ⟨hE, hP1⟩ | ⟨hE, hP1, hW, hV⟩
  · rcases h with h | h | h | h
    · exact absurd h k10
    · exact absurd h k11
    · exact absurd h k12
    · exact absurd h k14
  · exact ⟨_, _, fun post H => uw_xp15a hG3 h80 ha hk k10 k11 k12 k14 hE H, fun post H => uw_yp15a es hG3 h80 k10 k11 k12 k14 hP1 H, uw_go1 B (by omega) (by omega) (by omega) (uw_G_la hG hne) h8 (by omega) (uw_to_in h60 hs) (by omega)⟩
  · by_cases e0 : edg = 0
    · subst e0
      refine ⟨_, _, fun post H => uw_xp15n hG3 h80 ha hk k10 k11 k12 k14 hE H, fun post H => uw_yp15n es hG3 h80 k10 k11 k12 k14 hP1 H, ?_⟩
      rw [← hW, ← hV]
      exact uw_go0 B (by omega) (by omega) (by omega) hP h8 (by omega) hE (by omega)
    · exact ⟨_, _, fun post H => uw_xp15 hG3 h80 ha hk k10 k11 k12 k14 hE e0 H, fun post H => uw_yp15 es hG3 h80 k10 k11 k12 k14 hP1 e0 H, uw_go0 B (by omega) (by omega) (by omega) hP h8 (by omega) hne (by omega)⟩
end
/-- the two loops of a run -/
def uw_lX (post : Int32 → SX → Prop) (n : Nat) (x2 : Int32) (u : SX) : Prop := match u with
  | (std, mde, pct, stp, opc, mop, lou, lth, rng, nxt, edg, edn, frm, kd, tg, op, fs, sc, sz, sk, wa, ld, hd, tb, po, fS, fE, fN) => wX_run_16 post n x2 std mde pct stp opc mop lou lth rng nxt edg edn frm kd tg op fs sc sz sk wa ld hd tb po fS fE fN
def uw_lY (post : Int32 → SY → Prop) (n : Nat) (v : SY) : Prop := match v with
  | (dpt, opn, nxy, way, wth, cal, eng, thr, sts, ots, dps, kd, tg, op, fs, sc, zs, sk, ar, ld, oN, oP, oW, oV, hd, tb, po) => wY_run_119 post n dpt opn nxy way wth cal eng thr sts ots dps kd tg op fs sc zs sk ar ld oN oP oW oV hd tb po
def uw_oX (u : SX) : Int32 := match u with
  | (std, mde, pct, stp, opc, mop, lou, lth, rng, nxt, edg, edn, frm, kd, tg, op, fs, sc, sz, sk, wa, ld, hd, tb, po, fS, fE, fN) => lou
theorem uw_runQ {u : SX} {v : SY} {t n : Nat} (ht : t < 1000000) (h : uw_Q u v) : (∀ post : Int32 → SX → Prop, post (uw_oX u) u → uw_lX post (n + 1) (nI t) u) ∧ (∀ post : Int32 → SY → Prop, post (uw_oX u) v → uw_lY post (n + 1) v) := by
  obtain ⟨d, m, pc, stp, opc, mop, lou, lth, nxt, edg, edn, frm, opn, nxy, way, wth, cal, kd, tg, op, fs, sc, sz, sk, wa, ld, hd, tb, po, fS, fE, fN, zs, ar, oN, oP, oW, oV, rfl, rfl, B, hpc, hl⟩ := h
  have h1 : ¬ (1000000 : Int32) ≤ nI t := nI_ge (b := 1000000) ht (by decide)
  exact ⟨fun post H => br_f h1 (br_t rfl H), fun post H => br_f hl H⟩
theorem uw_turns : ∀ (w : Nat) (u : SX) (v : SY) (t : Nat), uw_R w u v → t + w < 5000 → ∃ (u' : SX) (v' : SY), uw_Q u' v' ∧ (∀ (post : Int32 → SX → Prop) (n : Nat), w + 1 < n → post (uw_oX u') u' → uw_lX post n (nI t) u) ∧ (∀ (post : Int32 → SY → Prop) (n : Nat), w + 1 < n → post (uw_oX u') v' → uw_lY post n v) := by
  intro w
  induction w using Nat.strongRecOn with
  | ind w ih =>
    intro u v t h ht
    obtain ⟨d, m, pc, st, F, opc, mop, lou, nxt, edg, edn, way, wth, kd, tg, op, fs, sc, sz, sk, wa, ld, hd, tb, po, fS, fE, fN, zs, ar, oN, oP, oW, oV, rfl, rfl, B, hst, hpc, hF, hG, h8, hw, hc⟩ := h
    have h1 : ¬ (1000000 : Int32) ≤ nI t := nI_ge (b := 1000000) (by omega) (by decide)
    have fin : ∀ (u' : SX) (v' : SY), uw_O w u' v' → ∃ (u'' : SX) (v'' : SY), uw_Q u'' v'' ∧ (∀ (post : Int32 → SX → Prop) (n : Nat), w < n → post (uw_oX u'') u'' → uw_lX post n (nI (t + 1)) u') ∧ (∀ (post : Int32 → SY → Prop) (n : Nat), w < n → post (uw_oX u'') v'' → uw_lY post n v') := by
      intro u' v' hO
      rcases hO with ⟨w', hlt, R⟩ | Q
      · obtain ⟨a, b, q, hx, hy⟩ := ih w' hlt u' v' (t + 1) R (by omega)
        exact ⟨a, b, q, fun post n hn H => hx post n (by omega) H, fun post n hn H => hy post n (by omega) H⟩
      · refine ⟨u', v', Q, fun post n hn H => ?_, fun post n hn H => ?_⟩
        · obtain ⟨n, rfl⟩ : ∃ q, n = q + 1 := ⟨n - 1, by omega⟩
          exact (uw_runQ (by omega) Q).1 post H
        · obtain ⟨n, rfl⟩ : ∃ q, n = q + 1 := ⟨n - 1, by omega⟩
          exact (uw_runQ (t := t + 1) (by omega) Q).2 post H
    rcases hc with ⟨rfl, rfl, rfl, hne, ew⟩ | ⟨hn, ew⟩
    · obtain ⟨u', v', hx, hy, hO⟩ := uw_pass (edn := edn) (lou := lou) (mop := mop) (wa := wa) (ld := ld) (hd := hd) (tb := tb) (po := po) (ar := ar) B hst hpc hF hG h8 hw hne ew
      obtain ⟨u'', v'', q, gx, gy⟩ := fin u' v' hO
      refine ⟨u'', v'', q, fun post n hn H => ?_, fun post n hn H => ?_⟩
      · obtain ⟨n, rfl⟩ : ∃ q, n = q + 1 := ⟨n - 1, by omega⟩
        exact br_f h1 (br_f uw_10 (br_t rfl (hx _ (nm_r (nI_1 t) (gx post n (by omega) H)))))
      · obtain ⟨n, rfl⟩ : ∃ q, n = q + 1 := ⟨n - 1, by omega⟩
        exact br_t rfl (br_t (by decide +kernel : (-1 : Int32) < 0) (hy _ (gy post n (by omega) H)))
    · obtain ⟨u', v', hx, hy, hO⟩ := uw_begin (edn := edn) (edg := edg) (way := way) (wth := wth) (lou := lou) (mop := mop) (wa := wa) (ld := ld) (hd := hd) (tb := tb) (po := po) (ar := ar) B hst hpc hF hG h8 hw hn ew
      obtain ⟨u'', v'', q, gx, gy⟩ := fin u' v' hO
      have hn0 := uw_lt0 hn
      have hn1 : ¬ nxt = -1 := fun z => hn0 (by rw [z]; decide +kernel)
      refine ⟨u'', v'', q, fun post n hn H => ?_, fun post n hn H => ?_⟩
      · obtain ⟨n, rfl⟩ : ∃ q, n = q + 1 := ⟨n - 1, by omega⟩
        exact br_f h1 (br_f uw_10 (br_f hn1 (hx _ (nm_r (nI_1 t) (gx post n (by omega) H)))))
      · obtain ⟨n, rfl⟩ : ∃ q, n = q + 1 := ⟨n - 1, by omega⟩
        exact br_t rfl (br_f hn0 (hy _ (gy post n (by omega) H)))
