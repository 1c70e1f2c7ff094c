/-! what a turn does that passes an ending on: a lemma a kind and a side -/
variable {std mde pct stp opc mop lou lth rng nxt edg edn frm dpt opn nxy way wth cal eng thr sts ots dps : Int32} {kd tg op fs sc sz sk wa ld hd tb po fS fE fN zs ar oN oP oW oV : Nat → Int32}
section
variable {post : SX → Prop} {G : Nat}
theorem uw_xend1 (H : post (std, mde, pct, stp, opc, mop, 1, edn, 0, nxt, 1, edn, nI 0, kd, tg, op, fs, sc, sz, sk, wa, ld, hd, tb, po, fS, fE, fN)) : wpX_passEndingOn post (std, mde, pct, stp, opc, mop, lou, lth, rng, nxt, 1, edn, nI 0, kd, tg, op, fs, sc, sz, sk, wa, ld, hd, tb, po, fS, fE, fN) := by
  refine br_t rfl ?_
  exact br_t rfl H
theorem uw_xend0 (h : ¬ edg = 1) (H : post (std, mde, pct, stp, opc, mop, 0, lth, 0, nxt, edg, edn, nI 0, kd, tg, op, fs, sc, sz, sk, wa, ld, hd, tb, po, fS, fE, fN)) : wpX_passEndingOn post (std, mde, pct, stp, opc, mop, lou, lth, rng, nxt, edg, edn, nI 0, kd, tg, op, fs, sc, sz, sk, wa, ld, hd, tb, po, fS, fE, fN) := by
  refine br_t rfl ?_
  exact br_f h H
theorem uw_xp10t (hG : G < 300) (h80 : vp_in (fS G) 80) (hk : kd (fS G).toNatClampNeg = 10)  (H : post (std, mde, pct, stp, opc - 1, mop, lou, lth, rng, nxt, 1, edn, nI G, kd, tg, op, fs, sc, sz, sk, wa, ld, hd, tb, po, fS, fE, fN)) : wpX_passEndingOn post (std, mde, pct, stp, opc, mop, lou, lth, rng, nxt, 1, edn, nI (G + 1), kd, tg, op, fs, sc, sz, sk, wa, ld, hd, tb, po, fS, fE, fN) := by
  have e0 : ¬ nI (G + 1) = 0 := nI_ne0 (by omega) (by omega)
  have e1 : nI (G + 1) - 1 = nI G := nI_pred G
  have iG : vp_in (nI G) 300 := vp_in_nI hG (by omega)
  have cG : (nI G).toNatClampNeg = G := nI_clamp (by omega)
  unfold wpX_passEndingOn
  dsimp only
  rw [e1, cG]
  refine br_f e0 ⟨iG, nm_e ⟨h80, nm_r hk (br_f (by decide +kernel : ¬ (10 : Int32) < 10) (br_f (by decide +kernel : ¬ (14 : Int32) < 10) (br_t rfl ?_)))⟩⟩
  dsimp only [wpX_endCall]
  exact nm_r e1 (nm_e (br_t rfl H))
theorem uw_xp10 (hG : G < 300) (h80 : vp_in (fS G) 80) (hk : kd (fS G).toNatClampNeg = 10) (h1 : ¬ edg = 1) (H : post (std, mde, pct, stp, opc - 1, mop, lou, lth, rng, -1, 0, 0, nI G, kd, tg, op, fs, sc, sz, sk, wa, ld, hd, tb, po, fS, fE, fN)) : wpX_passEndingOn post (std, mde, pct, stp, opc, mop, lou, lth, rng, nxt, edg, edn, nI (G + 1), kd, tg, op, fs, sc, sz, sk, wa, ld, hd, tb, po, fS, fE, fN) := by
  have e0 : ¬ nI (G + 1) = 0 := nI_ne0 (by omega) (by omega)
  have e1 : nI (G + 1) - 1 = nI G := nI_pred G
  have iG : vp_in (nI G) 300 := vp_in_nI hG (by omega)
  have cG : (nI G).toNatClampNeg = G := nI_clamp (by omega)
  unfold wpX_passEndingOn
  dsimp only
  rw [e1, cG]
  refine br_f e0 ⟨iG, nm_e ⟨h80, nm_r hk (br_f (by decide +kernel : ¬ (10 : Int32) < 10) (br_f (by decide +kernel : ¬ (14 : Int32) < 10) (br_t rfl ?_)))⟩⟩
  dsimp only [wpX_endCall, wpX_endStatement]
  exact nm_r e1 (nm_e (br_f h1 H))
theorem uw_xp12n (hG : G < 300) (h80 : vp_in (fS G) 80) (hk : kd (fS G).toNatClampNeg = 12)  (H : post (std, mde, pct, stp, opc, mop, lou, lth, rng, uw_to (fS G) (sc (fS G).toNatClampNeg), 0, edn, nI G, kd, tg, op, fs, sc, sz, sk, wa, ld, hd, tb, po, fS, fE, fN)) : wpX_passEndingOn post (std, mde, pct, stp, opc, mop, lou, lth, rng, nxt, 0, edn, nI (G + 1), kd, tg, op, fs, sc, sz, sk, wa, ld, hd, tb, po, fS, fE, fN) := by
  have e0 : ¬ nI (G + 1) = 0 := nI_ne0 (by omega) (by omega)
  have e1 : nI (G + 1) - 1 = nI G := nI_pred G
  have iG : vp_in (nI G) 300 := vp_in_nI hG (by omega)
  have cG : (nI G).toNatClampNeg = G := nI_clamp (by omega)
  unfold wpX_passEndingOn
  dsimp only
  rw [e1, cG]
  refine br_f e0 ⟨iG, nm_e ⟨h80, nm_r hk (br_f (by decide +kernel : ¬ (12 : Int32) < 10) (br_f (by decide +kernel : ¬ (14 : Int32) < 12) (br_f (by decide +kernel : ¬ (12 : Int32) = 10) (br_f (by decide +kernel : ¬ (12 : Int32) = 11) (br_t rfl ?_)))))⟩⟩
  dsimp only [wpX_endFirstOfSeq, wpX_goToPart]
  exact nm_r e1 (br_t rfl ⟨h80, uw_20, nm_r (uw_gx _ _) H⟩)
theorem uw_xp12 (hG : G < 300) (h80 : vp_in (fS G) 80) (hk : kd (fS G).toNatClampNeg = 12) (h0 : ¬ edg = 0) (H : post (std, mde, pct, stp, opc, mop, lou, lth, rng, nxt, edg, edn, nI G, kd, tg, op, fs, sc, sz, sk, wa, ld, hd, tb, po, fS, fE, fN)) : wpX_passEndingOn post (std, mde, pct, stp, opc, mop, lou, lth, rng, nxt, edg, edn, nI (G + 1), kd, tg, op, fs, sc, sz, sk, wa, ld, hd, tb, po, fS, fE, fN) := by
  have e0 : ¬ nI (G + 1) = 0 := nI_ne0 (by omega) (by omega)
  have e1 : nI (G + 1) - 1 = nI G := nI_pred G
  have iG : vp_in (nI G) 300 := vp_in_nI hG (by omega)
  have cG : (nI G).toNatClampNeg = G := nI_clamp (by omega)
  unfold wpX_passEndingOn
  dsimp only
  rw [e1, cG]
  refine br_f e0 ⟨iG, nm_e ⟨h80, nm_r hk (br_f (by decide +kernel : ¬ (12 : Int32) < 10) (br_f (by decide +kernel : ¬ (14 : Int32) < 12) (br_f (by decide +kernel : ¬ (12 : Int32) = 10) (br_f (by decide +kernel : ¬ (12 : Int32) = 11) (br_t rfl ?_)))))⟩⟩
  dsimp only [wpX_endFirstOfSeq, wpX_goToPart]
  exact nm_r e1 (br_f h0 H)
theorem uw_xp14t (hG : G < 300) (h80 : vp_in (fS G) 80) (hk : kd (fS G).toNatClampNeg = 14) (ht : vp_in (tg (fS G).toNatClampNeg) 4) (H : post (std, mde, pct, stp, opc, mop, lou, lth, rng, uw_to (fS G) (sc (fS G).toNatClampNeg), 1, edn, nI G, kd, tg, op, fs, sc, sz, sk, wa, ld, upd hd (tg (fS G).toNatClampNeg).toNatClampNeg edn, tb, po, fS, fE, fN)) : wpX_passEndingOn post (std, mde, pct, stp, opc, mop, lou, lth, rng, nxt, 1, edn, nI (G + 1), kd, tg, op, fs, sc, sz, sk, wa, ld, hd, tb, po, fS, fE, fN) := by
  have e0 : ¬ nI (G + 1) = 0 := nI_ne0 (by omega) (by omega)
  have e1 : nI (G + 1) - 1 = nI G := nI_pred G
  have iG : vp_in (nI G) 300 := vp_in_nI hG (by omega)
  have cG : (nI G).toNatClampNeg = G := nI_clamp (by omega)
  unfold wpX_passEndingOn
  dsimp only
  rw [e1, cG]
  refine br_f e0 ⟨iG, nm_e ⟨h80, nm_r hk (br_f (by decide +kernel : ¬ (14 : Int32) < 10) (br_f (by decide +kernel : ¬ (14 : Int32) < 14) (br_f (by decide +kernel : ¬ (14 : Int32) = 10) (br_f (by decide +kernel : ¬ (14 : Int32) = 11) (br_f (by decide +kernel : ¬ (14 : Int32) = 12) (br_f (by decide +kernel : ¬ (14 : Int32) = 13) (br_t rfl ?_)))))))⟩⟩
  dsimp only [wpX_endGuarded, wpX_goToPart]
  exact nm_r e1 (br_t rfl ⟨h80, ht, nm_e ⟨h80, uw_20, nm_r (uw_gx _ _) H⟩⟩)
theorem uw_xp14 (hG : G < 300) (h80 : vp_in (fS G) 80) (hk : kd (fS G).toNatClampNeg = 14) (h1 : ¬ edg = 1) (H : post (std, mde, pct, stp, opc, mop, lou, lth, rng, nxt, edg, edn, nI G, kd, tg, op, fs, sc, sz, sk, wa, ld, hd, tb, po, fS, fE, fN)) : wpX_passEndingOn post (std, mde, pct, stp, opc, mop, lou, lth, rng, nxt, edg, edn, nI (G + 1), kd, tg, op, fs, sc, sz, sk, wa, ld, hd, tb, po, fS, fE, fN) := by
  have e0 : ¬ nI (G + 1) = 0 := nI_ne0 (by omega) (by omega)
  have e1 : nI (G + 1) - 1 = nI G := nI_pred G
  have iG : vp_in (nI G) 300 := vp_in_nI hG (by omega)
  have cG : (nI G).toNatClampNeg = G := nI_clamp (by omega)
  unfold wpX_passEndingOn
  dsimp only
  rw [e1, cG]
  refine br_f e0 ⟨iG, nm_e ⟨h80, nm_r hk (br_f (by decide +kernel : ¬ (14 : Int32) < 10) (br_f (by decide +kernel : ¬ (14 : Int32) < 14) (br_f (by decide +kernel : ¬ (14 : Int32) = 10) (br_f (by decide +kernel : ¬ (14 : Int32) = 11) (br_f (by decide +kernel : ¬ (14 : Int32) = 12) (br_f (by decide +kernel : ¬ (14 : Int32) = 13) (br_t rfl ?_)))))))⟩⟩
  dsimp only [wpX_endGuarded, wpX_goToPart]
  exact nm_r e1 (br_f h1 H)
theorem uw_xp11_0z (hG : G < 300) (h80 : vp_in (fS G) 80) (hk : kd (fS G).toNatClampNeg = 11) (ht : vp_in (tg (fS G).toNatClampNeg) 4) (hz : hd (tg (fS G).toNatClampNeg).toNatClampNeg = 0) (H : post (std, mde, pct, stp, opc, mop, lou, lth, rng, -1, 0, 0, nI G, kd, tg, op, fs, sc, sz, sk, wa, ld, hd, tb, po, fS, fE, fN)) : wpX_passEndingOn post (std, mde, pct, stp, opc, mop, lou, lth, rng, nxt, 0, edn, nI (G + 1), kd, tg, op, fs, sc, sz, sk, wa, ld, hd, tb, po, fS, fE, fN) := by
  have e0 : ¬ nI (G + 1) = 0 := nI_ne0 (by omega) (by omega)
  have e1 : nI (G + 1) - 1 = nI G := nI_pred G
  have iG : vp_in (nI G) 300 := vp_in_nI hG (by omega)
  have cG : (nI G).toNatClampNeg = G := nI_clamp (by omega)
  unfold wpX_passEndingOn
  dsimp only
  rw [e1, cG]
  refine br_f e0 ⟨iG, nm_e ⟨h80, nm_r hk (br_f (by decide +kernel : ¬ (11 : Int32) < 10) (br_f (by decide +kernel : ¬ (14 : Int32) < 11) (br_f (by decide +kernel : ¬ (11 : Int32) = 10) (br_t rfl ?_))))⟩⟩
  dsimp only [wpX_endRound, wX_endRound_16, wX_endRound_21, wX_endRound_44, wX_endRound_48, wX_endRound_49, wX_endRound_80, wX_endRound_105, wX_endRound_114, wpX_endStatement, wpX_goToPart]
  exact br_f (by decide +kernel : ¬ (0 : Int32) = 2) (br_f (by decide +kernel : ¬ (0 : Int32) = 3) (br_t rfl (br_f uw_10 ⟨h80, ht, br_t hz (nm_r e1 (br_f uw_10 H))⟩)))
theorem uw_xp11_30z (hG : G < 300) (h80 : vp_in (fS G) 80) (hk : kd (fS G).toNatClampNeg = 11) (ht : vp_in (tg (fS G).toNatClampNeg) 4) (hz : hd (tg (fS G).toNatClampNeg).toNatClampNeg = 0) (H : post (std, mde, pct, stp, opc, mop, lou, lth, rng, -1, 0, 0, nI G, kd, tg, op, fs, sc, sz, sk, wa, ld, hd, tb, po, fS, fE, fN)) : wpX_passEndingOn post (std, mde, pct, stp, opc, mop, lou, lth, rng, nxt, 3, 0, nI (G + 1), kd, tg, op, fs, sc, sz, sk, wa, ld, hd, tb, po, fS, fE, fN) := by
  have e0 : ¬ nI (G + 1) = 0 := nI_ne0 (by omega) (by omega)
  have e1 : nI (G + 1) - 1 = nI G := nI_pred G
  have iG : vp_in (nI G) 300 := vp_in_nI hG (by omega)
  have cG : (nI G).toNatClampNeg = G := nI_clamp (by omega)
  unfold wpX_passEndingOn
  dsimp only
  rw [e1, cG]
  refine br_f e0 ⟨iG, nm_e ⟨h80, nm_r hk (br_f (by decide +kernel : ¬ (11 : Int32) < 10) (br_f (by decide +kernel : ¬ (14 : Int32) < 11) (br_f (by decide +kernel : ¬ (11 : Int32) = 10) (br_t rfl ?_))))⟩⟩
  dsimp only [wpX_endRound, wX_endRound_16, wX_endRound_21, wX_endRound_44, wX_endRound_48, wX_endRound_49, wX_endRound_80, wX_endRound_105, wX_endRound_114, wpX_endStatement, wpX_goToPart]
  exact br_f (by decide +kernel : ¬ (3 : Int32) = 2) (br_t rfl (br_f (by decide +kernel : ¬ (3 : Int32) = 0) (br_t rfl (br_t rfl (br_f uw_10 ⟨h80, ht, br_t hz (nm_r e1 (br_f uw_10 H))⟩)))))
theorem uw_xp11_0n (hG : G < 300) (h80 : vp_in (fS G) 80) (hk : kd (fS G).toNatClampNeg = 11) (ht : vp_in (tg (fS G).toNatClampNeg) 4) (hz : ¬ hd (tg (fS G).toNatClampNeg).toNatClampNeg = 0) (H : post (std, mde, pct, stp, opc, mop, lou, lth, rng, uw_to (fS G) (fs (fS G).toNatClampNeg), 0, edn, nI (G + 1), kd, tg, op, fs, sc, sz, sk, wa, ld, hd, tb, po, fS, fE, fN)) : wpX_passEndingOn post (std, mde, pct, stp, opc, mop, lou, lth, rng, nxt, 0, edn, nI (G + 1), kd, tg, op, fs, sc, sz, sk, wa, ld, hd, tb, po, fS, fE, fN) := by
  have e0 : ¬ nI (G + 1) = 0 := nI_ne0 (by omega) (by omega)
  have e1 : nI (G + 1) - 1 = nI G := nI_pred G
  have iG : vp_in (nI G) 300 := vp_in_nI hG (by omega)
  have cG : (nI G).toNatClampNeg = G := nI_clamp (by omega)
  unfold wpX_passEndingOn
  dsimp only
  rw [e1, cG]
  refine br_f e0 ⟨iG, nm_e ⟨h80, nm_r hk (br_f (by decide +kernel : ¬ (11 : Int32) < 10) (br_f (by decide +kernel : ¬ (14 : Int32) < 11) (br_f (by decide +kernel : ¬ (11 : Int32) = 10) (br_t rfl ?_))))⟩⟩
  dsimp only [wpX_endRound, wX_endRound_16, wX_endRound_21, wX_endRound_44, wX_endRound_48, wX_endRound_49, wX_endRound_80, wX_endRound_105, wX_endRound_114, wpX_endStatement, wpX_goToPart]
  exact br_f (by decide +kernel : ¬ (0 : Int32) = 2) (br_f (by decide +kernel : ¬ (0 : Int32) = 3) (br_t rfl (br_f uw_10 ⟨h80, ht, br_f hz ⟨h80, uw_20, nm_r (uw_gx _ _) H⟩⟩)))
theorem uw_xp11_30n (hG : G < 300) (h80 : vp_in (fS G) 80) (hk : kd (fS G).toNatClampNeg = 11) (ht : vp_in (tg (fS G).toNatClampNeg) 4) (hz : ¬ hd (tg (fS G).toNatClampNeg).toNatClampNeg = 0) (H : post (std, mde, pct, stp, opc, mop, lou, lth, rng, uw_to (fS G) (fs (fS G).toNatClampNeg), 3, 0, nI (G + 1), kd, tg, op, fs, sc, sz, sk, wa, ld, hd, tb, po, fS, fE, fN)) : wpX_passEndingOn post (std, mde, pct, stp, opc, mop, lou, lth, rng, nxt, 3, 0, nI (G + 1), kd, tg, op, fs, sc, sz, sk, wa, ld, hd, tb, po, fS, fE, fN) := by
  have e0 : ¬ nI (G + 1) = 0 := nI_ne0 (by omega) (by omega)
  have e1 : nI (G + 1) - 1 = nI G := nI_pred G
  have iG : vp_in (nI G) 300 := vp_in_nI hG (by omega)
  have cG : (nI G).toNatClampNeg = G := nI_clamp (by omega)
  unfold wpX_passEndingOn
  dsimp only
  rw [e1, cG]
  refine br_f e0 ⟨iG, nm_e ⟨h80, nm_r hk (br_f (by decide +kernel : ¬ (11 : Int32) < 10) (br_f (by decide +kernel : ¬ (14 : Int32) < 11) (br_f (by decide +kernel : ¬ (11 : Int32) = 10) (br_t rfl ?_))))⟩⟩
  dsimp only [wpX_endRound, wX_endRound_16, wX_endRound_21, wX_endRound_44, wX_endRound_48, wX_endRound_49, wX_endRound_80, wX_endRound_105, wX_endRound_114, wpX_endStatement, wpX_goToPart]
  exact br_f (by decide +kernel : ¬ (3 : Int32) = 2) (br_t rfl (br_f (by decide +kernel : ¬ (3 : Int32) = 0) (br_t rfl (br_t rfl (br_f uw_10 ⟨h80, ht, br_f hz ⟨h80, uw_20, nm_r (uw_gx _ _) H⟩⟩)))))
theorem uw_xp11_3 (hG : G < 300) (h80 : vp_in (fS G) 80) (hk : kd (fS G).toNatClampNeg = 11) (ht : vp_in (tg (fS G).toNatClampNeg) 4) (hn : ¬ edn = 0) (H : post (std, mde, pct, stp, opc, mop, lou, lth, rng, nxt, 3, edn - 1, nI G, kd, tg, op, fs, sc, sz, sk, wa, ld, hd, tb, po, fS, fE, fN)) : wpX_passEndingOn post (std, mde, pct, stp, opc, mop, lou, lth, rng, nxt, 3, edn, nI (G + 1), kd, tg, op, fs, sc, sz, sk, wa, ld, hd, tb, po, fS, fE, fN) := by
  have e0 : ¬ nI (G + 1) = 0 := nI_ne0 (by omega) (by omega)
  have e1 : nI (G + 1) - 1 = nI G := nI_pred G
  have iG : vp_in (nI G) 300 := vp_in_nI hG (by omega)
  have cG : (nI G).toNatClampNeg = G := nI_clamp (by omega)
  unfold wpX_passEndingOn
  dsimp only
  rw [e1, cG]
  refine br_f e0 ⟨iG, nm_e ⟨h80, nm_r hk (br_f (by decide +kernel : ¬ (11 : Int32) < 10) (br_f (by decide +kernel : ¬ (14 : Int32) < 11) (br_f (by decide +kernel : ¬ (11 : Int32) = 10) (br_t rfl ?_))))⟩⟩
  dsimp only [wpX_endRound, wX_endRound_16, wX_endRound_21, wX_endRound_44, wX_endRound_48, wX_endRound_49, wX_endRound_80, wX_endRound_105, wX_endRound_114, wpX_endStatement, wpX_goToPart]
  exact br_f (by decide +kernel : ¬ (3 : Int32) = 2) (br_t rfl (br_f (by decide +kernel : ¬ (3 : Int32) = 0) (br_t rfl (br_f hn (br_t rfl (nm_r e1 (br_t rfl (br_f uw_10 (br_f hn (br_f uw_10 (nm_e H)))))))))))
theorem uw_xp11_20 (hG : G < 300) (h80 : vp_in (fS G) 80) (hk : kd (fS G).toNatClampNeg = 11) (ht : vp_in (tg (fS G).toNatClampNeg) 4)  (H : post (std, mde, pct, stp, opc, mop, lou, lth, rng, -1, 0, 0, nI G, kd, tg, op, fs, sc, sz, sk, wa, ld, hd, tb, po, fS, fE, fN)) : wpX_passEndingOn post (std, mde, pct, stp, opc, mop, lou, lth, rng, nxt, 2, 0, nI (G + 1), kd, tg, op, fs, sc, sz, sk, wa, ld, hd, tb, po, fS, fE, fN) := by
  have e0 : ¬ nI (G + 1) = 0 := nI_ne0 (by omega) (by omega)
  have e1 : nI (G + 1) - 1 = nI G := nI_pred G
  have iG : vp_in (nI G) 300 := vp_in_nI hG (by omega)
  have cG : (nI G).toNatClampNeg = G := nI_clamp (by omega)
  unfold wpX_passEndingOn
  dsimp only
  rw [e1, cG]
  refine br_f e0 ⟨iG, nm_e ⟨h80, nm_r hk (br_f (by decide +kernel : ¬ (11 : Int32) < 10) (br_f (by decide +kernel : ¬ (14 : Int32) < 11) (br_f (by decide +kernel : ¬ (11 : Int32) = 10) (br_t rfl ?_))))⟩⟩
  dsimp only [wpX_endRound, wX_endRound_16, wX_endRound_21, wX_endRound_44, wX_endRound_48, wX_endRound_49, wX_endRound_80, wX_endRound_105, wX_endRound_114, wpX_endStatement, wpX_goToPart]
  exact br_t rfl (br_f (by decide +kernel : ¬ (2 : Int32) = 0) (br_f (by decide +kernel : ¬ (2 : Int32) = 3) (br_t rfl (nm_r e1 (br_t rfl (br_f uw_10 (br_t rfl H)))))))
theorem uw_xp11_2 (hG : G < 300) (h80 : vp_in (fS G) 80) (hk : kd (fS G).toNatClampNeg = 11) (ht : vp_in (tg (fS G).toNatClampNeg) 4) (hn : ¬ edn = 0) (H : post (std, mde, pct, stp, opc, mop, lou, lth, rng, nxt, 2, edn - 1, nI G, kd, tg, op, fs, sc, sz, sk, wa, ld, hd, tb, po, fS, fE, fN)) : wpX_passEndingOn post (std, mde, pct, stp, opc, mop, lou, lth, rng, nxt, 2, edn, nI (G + 1), kd, tg, op, fs, sc, sz, sk, wa, ld, hd, tb, po, fS, fE, fN) := by
  have e0 : ¬ nI (G + 1) = 0 := nI_ne0 (by omega) (by omega)
  have e1 : nI (G + 1) - 1 = nI G := nI_pred G
  have iG : vp_in (nI G) 300 := vp_in_nI hG (by omega)
  have cG : (nI G).toNatClampNeg = G := nI_clamp (by omega)
  unfold wpX_passEndingOn
  dsimp only
  rw [e1, cG]
  refine br_f e0 ⟨iG, nm_e ⟨h80, nm_r hk (br_f (by decide +kernel : ¬ (11 : Int32) < 10) (br_f (by decide +kernel : ¬ (14 : Int32) < 11) (br_f (by decide +kernel : ¬ (11 : Int32) = 10) (br_t rfl ?_))))⟩⟩
  dsimp only [wpX_endRound, wX_endRound_16, wX_endRound_21, wX_endRound_44, wX_endRound_48, wX_endRound_49, wX_endRound_80, wX_endRound_105, wX_endRound_114, wpX_endStatement, wpX_goToPart]
  exact br_t rfl (br_f (by decide +kernel : ¬ (2 : Int32) = 0) (br_f (by decide +kernel : ¬ (2 : Int32) = 3) (br_t rfl (nm_r e1 (br_t rfl (br_f uw_10 (br_f hn (br_f uw_10 (nm_e H)))))))))
theorem uw_xp11 (hG : G < 300) (h80 : vp_in (fS G) 80) (hk : kd (fS G).toNatClampNeg = 11) (ht : vp_in (tg (fS G).toNatClampNeg) 4) (h0 : ¬ edg = 0) (h2 : ¬ edg = 2) (h3 : ¬ edg = 3) (H : post (std, mde, pct, stp, opc, mop, lou, lth, rng, nxt, edg, edn, nI G, kd, tg, op, fs, sc, sz, sk, wa, ld, hd, tb, po, fS, fE, fN)) : wpX_passEndingOn post (std, mde, pct, stp, opc, mop, lou, lth, rng, nxt, edg, edn, nI (G + 1), kd, tg, op, fs, sc, sz, sk, wa, ld, hd, tb, po, fS, fE, fN) := by
  have e0 : ¬ nI (G + 1) = 0 := nI_ne0 (by omega) (by omega)
  have e1 : nI (G + 1) - 1 = nI G := nI_pred G
  have iG : vp_in (nI G) 300 := vp_in_nI hG (by omega)
  have cG : (nI G).toNatClampNeg = G := nI_clamp (by omega)
  unfold wpX_passEndingOn
  dsimp only
  rw [e1, cG]
  refine br_f e0 ⟨iG, nm_e ⟨h80, nm_r hk (br_f (by decide +kernel : ¬ (11 : Int32) < 10) (br_f (by decide +kernel : ¬ (14 : Int32) < 11) (br_f (by decide +kernel : ¬ (11 : Int32) = 10) (br_t rfl ?_))))⟩⟩
  dsimp only [wpX_endRound, wX_endRound_16, wX_endRound_21, wX_endRound_44, wX_endRound_48, wX_endRound_49, wX_endRound_80, wX_endRound_105, wX_endRound_114, wpX_endStatement, wpX_goToPart]
  exact br_f h2 (br_f h3 (br_f h0 (br_f h3 (br_t rfl (nm_r e1 (br_t rfl (br_t rfl (br_t rfl H))))))))
theorem uw_xp15a (hG : G < 300) (h80 : vp_in (fS G) 80) {a : Nat} (ha : a < 16) (hk : kd (fS G).toNatClampNeg = nI a) (h10 : ¬ kd (fS G).toNatClampNeg = 10) (h11 : ¬ kd (fS G).toNatClampNeg = 11) (h12 : ¬ kd (fS G).toNatClampNeg = 12) (h14 : ¬ kd (fS G).toNatClampNeg = 14) (hE : fE G = -1) (H : post (std, mde, pct, stp, opc, mop, lou, lth, rng, uw_to (fS G) (sc (fS G).toNatClampNeg), edg, edn, nI (G + 1), kd, tg, op, fs, sc, sz, sk, wa, ld, hd, tb, po, fS, upd fE G edg, upd fN G edn)) : wpX_passEndingOn post (std, mde, pct, stp, opc, mop, lou, lth, rng, nxt, edg, edn, nI (G + 1), kd, tg, op, fs, sc, sz, sk, wa, ld, hd, tb, po, fS, fE, fN) := by
  have e0 : ¬ nI (G + 1) = 0 := nI_ne0 (by omega) (by omega)
  have e1 : nI (G + 1) - 1 = nI G := nI_pred G
  have iG : vp_in (nI G) 300 := vp_in_nI hG (by omega)
  have cG : (nI G).toNatClampNeg = G := nI_clamp (by omega)
  have K : wX_passEndingOn_95 post (fS G) std mde pct stp opc mop lou lth rng nxt edg edn (nI (G + 1)) kd tg op fs sc sz sk wa ld hd tb po fS fE fN := by
    dsimp only [wX_passEndingOn_95, wpX_endPartOfLastly, wpX_goToPart, wpX_endStatement]
    rw [e1]
    refine nm_e ?_
    rw [cG]
    exact ⟨iG, br_t hE ⟨iG, nm_e ⟨iG, nm_e ⟨h80, uw_20, nm_r (uw_gx _ _) H⟩⟩⟩⟩
  unfold wpX_passEndingOn
  dsimp only
  rw [e1, cG]
  refine br_f e0 ⟨iG, nm_e ⟨h80, nm_e ?_⟩⟩
  by_cases q1 : kd (fS G).toNatClampNeg < 10
  · exact br_t q1 K
  · by_cases q2 : 14 < kd (fS G).toNatClampNeg
    · exact br_f q1 (br_t q2 K)
    · have h13 : kd (fS G).toNatClampNeg = 13 := by
        rw [hk] at q1 q2 h10 h11 h12 h14 ⊢
        have b1 : 10 ≤ a := Classical.byContradiction fun z => q1 (nI_lt (b := 10) (by omega) (by decide))
        have b2 : a ≤ 14 := Classical.byContradiction fun z => q2 (nI_lt (a := 14) (by omega) (by omega))
        rcases (by omega : a = 10 ∨ a = 11 ∨ a = 12 ∨ a = 13 ∨ a = 14) with h | h | h | h | h
        · exact absurd (by rw [h]; rfl) h10
        · exact absurd (by rw [h]; rfl) h11
        · exact absurd (by rw [h]; rfl) h12
        · rw [h]; rfl
        · exact absurd (by rw [h]; rfl) h14
      exact br_f q1 (br_f q2 (br_f h10 (br_f h11 (br_f h12 (br_t h13 K)))))
theorem uw_xp15n (hG : G < 300) (h80 : vp_in (fS G) 80) {a : Nat} (ha : a < 16) (hk : kd (fS G).toNatClampNeg = nI a) (h10 : ¬ kd (fS G).toNatClampNeg = 10) (h11 : ¬ kd (fS G).toNatClampNeg = 11) (h12 : ¬ kd (fS G).toNatClampNeg = 12) (h14 : ¬ kd (fS G).toNatClampNeg = 14) (hE : ¬ fE G = -1) (H : post (std, mde, pct, stp, opc, mop, lou, lth, rng, -1, fE G, fN G, nI G, kd, tg, op, fs, sc, sz, sk, wa, ld, hd, tb, po, fS, fE, fN)) : wpX_passEndingOn post (std, mde, pct, stp, opc, mop, lou, lth, rng, nxt, 0, edn, nI (G + 1), kd, tg, op, fs, sc, sz, sk, wa, ld, hd, tb, po, fS, fE, fN) := by
  have e0 : ¬ nI (G + 1) = 0 := nI_ne0 (by omega) (by omega)
  have e1 : nI (G + 1) - 1 = nI G := nI_pred G
  have iG : vp_in (nI G) 300 := vp_in_nI hG (by omega)
  have cG : (nI G).toNatClampNeg = G := nI_clamp (by omega)
  have K : wX_passEndingOn_95 post (fS G) std mde pct stp opc mop lou lth rng nxt 0 edn (nI (G + 1)) kd tg op fs sc sz sk wa ld hd tb po fS fE fN := by
    dsimp only [wX_passEndingOn_95, wpX_endPartOfLastly, wpX_goToPart, wpX_endStatement]
    rw [e1]
    refine nm_e ?_
    rw [cG]
    exact ⟨iG, br_f hE (nm_e (br_t rfl ⟨iG, iG, H⟩))⟩
  unfold wpX_passEndingOn
  dsimp only
  rw [e1, cG]
  refine br_f e0 ⟨iG, nm_e ⟨h80, nm_e ?_⟩⟩
  by_cases q1 : kd (fS G).toNatClampNeg < 10
  · exact br_t q1 K
  · by_cases q2 : 14 < kd (fS G).toNatClampNeg
    · exact br_f q1 (br_t q2 K)
    · have h13 : kd (fS G).toNatClampNeg = 13 := by
        rw [hk] at q1 q2 h10 h11 h12 h14 ⊢
        have b1 : 10 ≤ a := Classical.byContradiction fun z => q1 (nI_lt (b := 10) (by omega) (by decide))
        have b2 : a ≤ 14 := Classical.byContradiction fun z => q2 (nI_lt (a := 14) (by omega) (by omega))
        rcases (by omega : a = 10 ∨ a = 11 ∨ a = 12 ∨ a = 13 ∨ a = 14) with h | h | h | h | h
        · exact absurd (by rw [h]; rfl) h10
        · exact absurd (by rw [h]; rfl) h11
        · exact absurd (by rw [h]; rfl) h12
        · rw [h]; rfl
        · exact absurd (by rw [h]; rfl) h14
      exact br_f q1 (br_f q2 (br_f h10 (br_f h11 (br_f h12 (br_t h13 K)))))
theorem uw_xp15 (hG : G < 300) (h80 : vp_in (fS G) 80) {a : Nat} (ha : a < 16) (hk : kd (fS G).toNatClampNeg = nI a) (h10 : ¬ kd (fS G).toNatClampNeg = 10) (h11 : ¬ kd (fS G).toNatClampNeg = 11) (h12 : ¬ kd (fS G).toNatClampNeg = 12) (h14 : ¬ kd (fS G).toNatClampNeg = 14) (hE : ¬ fE G = -1) (h0 : ¬ edg = 0) (H : post (std, mde, pct, stp, opc, mop, lou, lth, rng, nxt, edg, edn, nI G, kd, tg, op, fs, sc, sz, sk, wa, ld, hd, tb, po, fS, fE, fN)) : wpX_passEndingOn post (std, mde, pct, stp, opc, mop, lou, lth, rng, nxt, edg, edn, nI (G + 1), kd, tg, op, fs, sc, sz, sk, wa, ld, hd, tb, po, fS, fE, fN) := by
  have e0 : ¬ nI (G + 1) = 0 := nI_ne0 (by omega) (by omega)
  have e1 : nI (G + 1) - 1 = nI G := nI_pred G
  have iG : vp_in (nI G) 300 := vp_in_nI hG (by omega)
  have cG : (nI G).toNatClampNeg = G := nI_clamp (by omega)
  have K : wX_passEndingOn_95 post (fS G) std mde pct stp opc mop lou lth rng nxt edg edn (nI (G + 1)) kd tg op fs sc sz sk wa ld hd tb po fS fE fN := by
    dsimp only [wX_passEndingOn_95, wpX_endPartOfLastly, wpX_goToPart, wpX_endStatement]
    rw [e1]
    refine nm_e ?_
    rw [cG]
    exact ⟨iG, br_f hE (nm_e (br_f h0 H))⟩
  unfold wpX_passEndingOn
  dsimp only
  rw [e1, cG]
  refine br_f e0 ⟨iG, nm_e ⟨h80, nm_e ?_⟩⟩
  by_cases q1 : kd (fS G).toNatClampNeg < 10
  · exact br_t q1 K
  · by_cases q2 : 14 < kd (fS G).toNatClampNeg
    · exact br_f q1 (br_t q2 K)
    · have h13 : kd (fS G).toNatClampNeg = 13 := by
        rw [hk] at q1 q2 h10 h11 h12 h14 ⊢
        have b1 : 10 ≤ a := Classical.byContradiction fun z => q1 (nI_lt (b := 10) (by omega) (by decide))
        have b2 : a ≤ 14 := Classical.byContradiction fun z => q2 (nI_lt (a := 14) (by omega) (by omega))
        rcases (by omega : a = 10 ∨ a = 11 ∨ a = 12 ∨ a = 13 ∨ a = 14) with h | h | h | h | h
        · exact absurd (by rw [h]; rfl) h10
        · exact absurd (by rw [h]; rfl) h11
        · exact absurd (by rw [h]; rfl) h12
        · rw [h]; rfl
        · exact absurd (by rw [h]; rfl) h14
      exact br_f q1 (br_f q2 (br_f h10 (br_f h11 (br_f h12 (br_t h13 K)))))
end
