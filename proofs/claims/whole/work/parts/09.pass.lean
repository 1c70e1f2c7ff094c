/-! the same of the reference -/
variable {std mde pct stp opc mop lou lth rng nxt edg edn frm dpt opn nxy way wth cal eng thr sts ots dps : Int32} {kd tg op fs sc sz sk wa ld hd tb po fS fE fN zs ar oN oP oW oV : Nat → Int32}
section
variable {post : SY → Prop} {G : Nat}
theorem uw_yend1 (H : post (dpt, nI 0, nxy, 1, wth, cal, 1, wth, sts, ots, dps, kd, tg, op, fs, sc, zs, sk, ar, ld, oN, oP, oW, oV, hd, tb, po)) : wpY_passUp post (dpt, nI 0, nxy, 1, wth, cal, eng, thr, sts, ots, dps, kd, tg, op, fs, sc, zs, sk, ar, ld, oN, oP, oW, oV, hd, tb, po) :=
  br_t rfl (br_t rfl (br_t rfl H))
theorem uw_yend0 (h : ¬ way = 1) (H : post (dpt, nI 0, nxy, way, wth, cal, 0, 0, sts, ots, dps, kd, tg, op, fs, sc, zs, sk, ar, ld, oN, oP, oW, oV, hd, tb, po)) : wpY_passUp post (dpt, nI 0, nxy, way, wth, cal, eng, thr, sts, ots, dps, kd, tg, op, fs, sc, zs, sk, ar, ld, oN, oP, oW, oV, hd, tb, po) :=
  br_t rfl (br_f h (br_f h H))
theorem uw_yp10t {s : Int32} (es : oN G = s) (hG : G < 300) (h80 : vp_in s 80) (hk : kd s.toNatClampNeg = 10)  (H : post (dpt, nI G, nxy, 1, wth, cal - 1, eng, thr, sts, ots, dps, kd, tg, op, fs, sc, zs, sk, ar, ld, oN, oP, oW, oV, hd, tb, po)) : wpY_passUp post (dpt, nI (G + 1), nxy, 1, wth, cal, eng, thr, sts, ots, dps, kd, tg, op, fs, sc, zs, sk, ar, ld, oN, oP, oW, oV, hd, tb, po) := by
  subst es
  have e0 : ¬ nI (G + 1) = 0 := nI_ne0 (by omega) (by omega)
  have e1 : nI (G + 1) - 1 = nI G := nI_pred G
  have iG : vp_in (nI G) 320 := vp_in_nI (by omega) (by omega)
  have cG : (nI G).toNatClampNeg = G := nI_clamp (by omega)
  unfold wpY_passUp
  dsimp only
  refine br_f e0 (nm_r e1 ?_)
  rw [cG]
  refine ⟨iG, nm_e ⟨h80, nm_r hk (br_t rfl ?_)⟩⟩
  exact nm_e (br_t rfl H)
theorem uw_yp10 {s : Int32} (es : oN G = s) (hG : G < 300) (h80 : vp_in s 80) (hk : kd s.toNatClampNeg = 10) (h1 : ¬ way = 1) (H : post (dpt, nI G, nxy, 0, 0, cal - 1, eng, thr, sts, ots, dps, kd, tg, op, fs, sc, zs, sk, ar, ld, oN, oP, oW, oV, hd, tb, po)) : wpY_passUp post (dpt, nI (G + 1), nxy, way, wth, cal, eng, thr, sts, ots, dps, kd, tg, op, fs, sc, zs, sk, ar, ld, oN, oP, oW, oV, hd, tb, po) := by
  subst es
  have e0 : ¬ nI (G + 1) = 0 := nI_ne0 (by omega) (by omega)
  have e1 : nI (G + 1) - 1 = nI G := nI_pred G
  have iG : vp_in (nI G) 320 := vp_in_nI (by omega) (by omega)
  have cG : (nI G).toNatClampNeg = G := nI_clamp (by omega)
  unfold wpY_passUp
  dsimp only
  refine br_f e0 (nm_r e1 ?_)
  rw [cG]
  refine ⟨iG, nm_e ⟨h80, nm_r hk (br_t rfl ?_)⟩⟩
  dsimp only [wpY_endAs]
  exact nm_e (br_f h1 H)
theorem uw_yp12n {s : Int32} (es : oN G = s) (hG : G < 300) (h80 : vp_in s 80) (hk : kd s.toNatClampNeg = 12)  (H : post (dpt, nI G, uw_to s (sc s.toNatClampNeg), 0, wth, cal, eng, thr, sts, ots, dps, kd, tg, op, fs, sc, zs, sk, ar, ld, oN, oP, oW, oV, hd, tb, po)) : wpY_passUp post (dpt, nI (G + 1), nxy, 0, wth, cal, eng, thr, sts, ots, dps, kd, tg, op, fs, sc, zs, sk, ar, ld, oN, oP, oW, oV, hd, tb, po) := by
  subst es
  have e0 : ¬ nI (G + 1) = 0 := nI_ne0 (by omega) (by omega)
  have e1 : nI (G + 1) - 1 = nI G := nI_pred G
  have iG : vp_in (nI G) 320 := vp_in_nI (by omega) (by omega)
  have cG : (nI G).toNatClampNeg = G := nI_clamp (by omega)
  unfold wpY_passUp
  dsimp only
  refine br_f e0 (nm_r e1 ?_)
  rw [cG]
  refine ⟨iG, nm_e ⟨h80, nm_r hk (br_f (by decide +kernel : ¬ (12 : Int32) = 10) (br_f (by decide +kernel : ¬ (12 : Int32) = 11) (br_t rfl ?_)))⟩⟩
  dsimp only [wpY_go]
  exact br_t rfl ⟨h80, uw_20, nm_e H⟩
theorem uw_yp12 {s : Int32} (es : oN G = s) (hG : G < 300) (h80 : vp_in s 80) (hk : kd s.toNatClampNeg = 12) (h0 : ¬ way = 0) (H : post (dpt, nI G, nxy, way, wth, cal, eng, thr, sts, ots, dps, kd, tg, op, fs, sc, zs, sk, ar, ld, oN, oP, oW, oV, hd, tb, po)) : wpY_passUp post (dpt, nI (G + 1), nxy, way, wth, cal, eng, thr, sts, ots, dps, kd, tg, op, fs, sc, zs, sk, ar, ld, oN, oP, oW, oV, hd, tb, po) := by
  subst es
  have e0 : ¬ nI (G + 1) = 0 := nI_ne0 (by omega) (by omega)
  have e1 : nI (G + 1) - 1 = nI G := nI_pred G
  have iG : vp_in (nI G) 320 := vp_in_nI (by omega) (by omega)
  have cG : (nI G).toNatClampNeg = G := nI_clamp (by omega)
  unfold wpY_passUp
  dsimp only
  refine br_f e0 (nm_r e1 ?_)
  rw [cG]
  refine ⟨iG, nm_e ⟨h80, nm_r hk (br_f (by decide +kernel : ¬ (12 : Int32) = 10) (br_f (by decide +kernel : ¬ (12 : Int32) = 11) (br_t rfl ?_)))⟩⟩
  exact br_f h0 H
theorem uw_yp14t {s : Int32} (es : oN G = s) (hG : G < 300) (h80 : vp_in s 80) (hk : kd s.toNatClampNeg = 14) (ht : vp_in (tg s.toNatClampNeg) 4) (H : post (dpt, nI G, uw_to s (sc s.toNatClampNeg), 1, wth, cal, eng, thr, sts, ots, dps, kd, tg, op, fs, sc, zs, sk, ar, ld, oN, oP, oW, oV, upd hd (tg s.toNatClampNeg).toNatClampNeg wth, tb, po)) : wpY_passUp post (dpt, nI (G + 1), nxy, 1, wth, cal, eng, thr, sts, ots, dps, kd, tg, op, fs, sc, zs, sk, ar, ld, oN, oP, oW, oV, hd, tb, po) := by
  subst es
  have e0 : ¬ nI (G + 1) = 0 := nI_ne0 (by omega) (by omega)
  have e1 : nI (G + 1) - 1 = nI G := nI_pred G
  have iG : vp_in (nI G) 320 := vp_in_nI (by omega) (by omega)
  have cG : (nI G).toNatClampNeg = G := nI_clamp (by omega)
  unfold wpY_passUp
  dsimp only
  refine br_f e0 (nm_r e1 ?_)
  rw [cG]
  refine ⟨iG, nm_e ⟨h80, nm_r hk (br_f (by decide +kernel : ¬ (14 : Int32) = 10) (br_f (by decide +kernel : ¬ (14 : Int32) = 11) (br_f (by decide +kernel : ¬ (14 : Int32) = 12) (br_t rfl ?_))))⟩⟩
  dsimp only [wpY_go]
  exact br_t rfl ⟨h80, ht, nm_e ⟨h80, uw_20, nm_e H⟩⟩
theorem uw_yp14 {s : Int32} (es : oN G = s) (hG : G < 300) (h80 : vp_in s 80) (hk : kd s.toNatClampNeg = 14) (h1 : ¬ way = 1) (H : post (dpt, nI G, nxy, way, wth, cal, eng, thr, sts, ots, dps, kd, tg, op, fs, sc, zs, sk, ar, ld, oN, oP, oW, oV, hd, tb, po)) : wpY_passUp post (dpt, nI (G + 1), nxy, way, wth, cal, eng, thr, sts, ots, dps, kd, tg, op, fs, sc, zs, sk, ar, ld, oN, oP, oW, oV, hd, tb, po) := by
  subst es
  have e0 : ¬ nI (G + 1) = 0 := nI_ne0 (by omega) (by omega)
  have e1 : nI (G + 1) - 1 = nI G := nI_pred G
  have iG : vp_in (nI G) 320 := vp_in_nI (by omega) (by omega)
  have cG : (nI G).toNatClampNeg = G := nI_clamp (by omega)
  unfold wpY_passUp
  dsimp only
  refine br_f e0 (nm_r e1 ?_)
  rw [cG]
  refine ⟨iG, nm_e ⟨h80, nm_r hk (br_f (by decide +kernel : ¬ (14 : Int32) = 10) (br_f (by decide +kernel : ¬ (14 : Int32) = 11) (br_f (by decide +kernel : ¬ (14 : Int32) = 12) (br_t rfl ?_))))⟩⟩
  exact br_f h1 H
theorem uw_yp11_0z {s : Int32} (es : oN G = s) (hG : G < 300) (h80 : vp_in s 80) (hk : kd s.toNatClampNeg = 11) (ht : vp_in (tg s.toNatClampNeg) 4) (hz : hd (tg s.toNatClampNeg).toNatClampNeg = 0) (H : post (dpt, nI G, nxy, 0, 0, cal, eng, thr, sts, ots, dps, kd, tg, op, fs, sc, zs, sk, ar, ld, oN, oP, oW, oV, hd, tb, po)) : wpY_passUp post (dpt, nI (G + 1), nxy, 0, wth, cal, eng, thr, sts, ots, dps, kd, tg, op, fs, sc, zs, sk, ar, ld, oN, oP, oW, oV, hd, tb, po) := by
  subst es
  have e0 : ¬ nI (G + 1) = 0 := nI_ne0 (by omega) (by omega)
  have e1 : nI (G + 1) - 1 = nI G := nI_pred G
  have iG : vp_in (nI G) 320 := vp_in_nI (by omega) (by omega)
  have cG : (nI G).toNatClampNeg = G := nI_clamp (by omega)
  unfold wpY_passUp
  dsimp only
  refine br_f e0 (nm_r e1 ?_)
  rw [cG]
  refine ⟨iG, nm_e ⟨h80, nm_r hk (br_f (by decide +kernel : ¬ (11 : Int32) = 10) (br_t rfl ?_))⟩⟩
  dsimp only [wpY_afterRound, wY_afterRound_22, wY_afterRound_30, wY_afterRound_54, wpY_look, wpY_endAs, wpY_push, wpY_go]
  rw [cG]
  exact br_t rfl ⟨h80, ht, br_t hz H⟩
theorem uw_yp11_30z {s : Int32} (es : oN G = s) (hG : G < 300) (h80 : vp_in s 80) (hk : kd s.toNatClampNeg = 11) (ht : vp_in (tg s.toNatClampNeg) 4) (hz : hd (tg s.toNatClampNeg).toNatClampNeg = 0) (H : post (dpt, nI G, nxy, 0, 0, cal, eng, thr, sts, ots, dps, kd, tg, op, fs, sc, zs, sk, ar, ld, oN, oP, oW, oV, hd, tb, po)) : wpY_passUp post (dpt, nI (G + 1), nxy, 3, 0, cal, eng, thr, sts, ots, dps, kd, tg, op, fs, sc, zs, sk, ar, ld, oN, oP, oW, oV, hd, tb, po) := by
  subst es
  have e0 : ¬ nI (G + 1) = 0 := nI_ne0 (by omega) (by omega)
  have e1 : nI (G + 1) - 1 = nI G := nI_pred G
  have iG : vp_in (nI G) 320 := vp_in_nI (by omega) (by omega)
  have cG : (nI G).toNatClampNeg = G := nI_clamp (by omega)
  unfold wpY_passUp
  dsimp only
  refine br_f e0 (nm_r e1 ?_)
  rw [cG]
  refine ⟨iG, nm_e ⟨h80, nm_r hk (br_f (by decide +kernel : ¬ (11 : Int32) = 10) (br_t rfl ?_))⟩⟩
  dsimp only [wpY_afterRound, wY_afterRound_22, wY_afterRound_30, wY_afterRound_54, wpY_look, wpY_endAs, wpY_push, wpY_go]
  rw [cG]
  exact br_f (by decide +kernel : ¬ (3 : Int32) = 0) (br_t rfl (br_t rfl ⟨h80, ht, br_t hz H⟩))
theorem uw_yp11_0n {s : Int32} (es : oN G = s) (hG : G < 300) (h80 : vp_in s 80) (hk : kd s.toNatClampNeg = 11) (ht : vp_in (tg s.toNatClampNeg) 4) (hz : ¬ hd (tg s.toNatClampNeg).toNatClampNeg = 0) (H : post (dpt, nI (G + 1), uw_to s (fs s.toNatClampNeg), 0, 0, cal, eng, thr, sts, ots, dps, kd, tg, op, fs, sc, zs, sk, ar, ld, upd oN G s, upd oP G 1, upd oW G 0, upd oV G 0, hd, tb, po)) : wpY_passUp post (dpt, nI (G + 1), nxy, 0, wth, cal, eng, thr, sts, ots, dps, kd, tg, op, fs, sc, zs, sk, ar, ld, oN, oP, oW, oV, hd, tb, po) := by
  subst es
  have e0 : ¬ nI (G + 1) = 0 := nI_ne0 (by omega) (by omega)
  have e1 : nI (G + 1) - 1 = nI G := nI_pred G
  have iG : vp_in (nI G) 320 := vp_in_nI (by omega) (by omega)
  have cG : (nI G).toNatClampNeg = G := nI_clamp (by omega)
  unfold wpY_passUp
  dsimp only
  refine br_f e0 (nm_r e1 ?_)
  rw [cG]
  refine ⟨iG, nm_e ⟨h80, nm_r hk (br_f (by decide +kernel : ¬ (11 : Int32) = 10) (br_t rfl ?_))⟩⟩
  dsimp only [wpY_afterRound, wY_afterRound_22, wY_afterRound_30, wY_afterRound_54, wpY_look, wpY_endAs, wpY_push, wpY_go]
  rw [cG]
  exact br_t rfl ⟨h80, ht, br_f hz ⟨iG, nm_e ⟨iG, nm_e ⟨iG, nm_e ⟨iG, nm_e (nm_r (nI_1 G) ⟨h80, uw_20, nm_e H⟩)⟩⟩⟩⟩⟩
theorem uw_yp11_30n {s : Int32} (es : oN G = s) (hG : G < 300) (h80 : vp_in s 80) (hk : kd s.toNatClampNeg = 11) (ht : vp_in (tg s.toNatClampNeg) 4) (hz : ¬ hd (tg s.toNatClampNeg).toNatClampNeg = 0) (H : post (dpt, nI (G + 1), uw_to s (fs s.toNatClampNeg), 0, 0, cal, eng, thr, sts, ots, dps, kd, tg, op, fs, sc, zs, sk, ar, ld, upd oN G s, upd oP G 1, upd oW G 0, upd oV G 0, hd, tb, po)) : wpY_passUp post (dpt, nI (G + 1), nxy, 3, 0, cal, eng, thr, sts, ots, dps, kd, tg, op, fs, sc, zs, sk, ar, ld, oN, oP, oW, oV, hd, tb, po) := by
  subst es
  have e0 : ¬ nI (G + 1) = 0 := nI_ne0 (by omega) (by omega)
  have e1 : nI (G + 1) - 1 = nI G := nI_pred G
  have iG : vp_in (nI G) 320 := vp_in_nI (by omega) (by omega)
  have cG : (nI G).toNatClampNeg = G := nI_clamp (by omega)
  unfold wpY_passUp
  dsimp only
  refine br_f e0 (nm_r e1 ?_)
  rw [cG]
  refine ⟨iG, nm_e ⟨h80, nm_r hk (br_f (by decide +kernel : ¬ (11 : Int32) = 10) (br_t rfl ?_))⟩⟩
  dsimp only [wpY_afterRound, wY_afterRound_22, wY_afterRound_30, wY_afterRound_54, wpY_look, wpY_endAs, wpY_push, wpY_go]
  rw [cG]
  exact br_f (by decide +kernel : ¬ (3 : Int32) = 0) (br_t rfl (br_t rfl ⟨h80, ht, br_f hz ⟨iG, nm_e ⟨iG, nm_e ⟨iG, nm_e ⟨iG, nm_e (nm_r (nI_1 G) ⟨h80, uw_20, nm_e H⟩)⟩⟩⟩⟩⟩))
theorem uw_yp11_3 {s : Int32} (es : oN G = s) (hG : G < 300) (h80 : vp_in s 80) (hk : kd s.toNatClampNeg = 11) (ht : vp_in (tg s.toNatClampNeg) 4) (hn : ¬ wth = 0) (H : post (dpt, nI G, nxy, 3, wth - 1, cal, eng, thr, sts, ots, dps, kd, tg, op, fs, sc, zs, sk, ar, ld, oN, oP, oW, oV, hd, tb, po)) : wpY_passUp post (dpt, nI (G + 1), nxy, 3, wth, cal, eng, thr, sts, ots, dps, kd, tg, op, fs, sc, zs, sk, ar, ld, oN, oP, oW, oV, hd, tb, po) := by
  subst es
  have e0 : ¬ nI (G + 1) = 0 := nI_ne0 (by omega) (by omega)
  have e1 : nI (G + 1) - 1 = nI G := nI_pred G
  have iG : vp_in (nI G) 320 := vp_in_nI (by omega) (by omega)
  have cG : (nI G).toNatClampNeg = G := nI_clamp (by omega)
  unfold wpY_passUp
  dsimp only
  refine br_f e0 (nm_r e1 ?_)
  rw [cG]
  refine ⟨iG, nm_e ⟨h80, nm_r hk (br_f (by decide +kernel : ¬ (11 : Int32) = 10) (br_t rfl ?_))⟩⟩
  dsimp only [wpY_afterRound, wY_afterRound_22, wY_afterRound_30, wY_afterRound_54, wpY_look, wpY_endAs, wpY_push, wpY_go]
  rw [cG]
  exact br_f (by decide +kernel : ¬ (3 : Int32) = 0) (br_t rfl (br_f hn (br_f (by decide +kernel : ¬ (3 : Int32) = 2) (br_f (by decide +kernel : ¬ (3 : Int32) = 2) (br_t rfl (nm_e H))))))
theorem uw_yp11_20 {s : Int32} (es : oN G = s) (hG : G < 300) (h80 : vp_in s 80) (hk : kd s.toNatClampNeg = 11) (ht : vp_in (tg s.toNatClampNeg) 4)  (H : post (dpt, nI G, nxy, 0, 0, cal, eng, thr, sts, ots, dps, kd, tg, op, fs, sc, zs, sk, ar, ld, oN, oP, oW, oV, hd, tb, po)) : wpY_passUp post (dpt, nI (G + 1), nxy, 2, 0, cal, eng, thr, sts, ots, dps, kd, tg, op, fs, sc, zs, sk, ar, ld, oN, oP, oW, oV, hd, tb, po) := by
  subst es
  have e0 : ¬ nI (G + 1) = 0 := nI_ne0 (by omega) (by omega)
  have e1 : nI (G + 1) - 1 = nI G := nI_pred G
  have iG : vp_in (nI G) 320 := vp_in_nI (by omega) (by omega)
  have cG : (nI G).toNatClampNeg = G := nI_clamp (by omega)
  unfold wpY_passUp
  dsimp only
  refine br_f e0 (nm_r e1 ?_)
  rw [cG]
  refine ⟨iG, nm_e ⟨h80, nm_r hk (br_f (by decide +kernel : ¬ (11 : Int32) = 10) (br_t rfl ?_))⟩⟩
  dsimp only [wpY_afterRound, wY_afterRound_22, wY_afterRound_30, wY_afterRound_54, wpY_look, wpY_endAs, wpY_push, wpY_go]
  rw [cG]
  exact br_f (by decide +kernel : ¬ (2 : Int32) = 0) (br_f (by decide +kernel : ¬ (2 : Int32) = 3) (br_t rfl (br_t rfl H)))
theorem uw_yp11_2 {s : Int32} (es : oN G = s) (hG : G < 300) (h80 : vp_in s 80) (hk : kd s.toNatClampNeg = 11) (ht : vp_in (tg s.toNatClampNeg) 4) (hn : ¬ wth = 0) (H : post (dpt, nI G, nxy, 2, wth - 1, cal, eng, thr, sts, ots, dps, kd, tg, op, fs, sc, zs, sk, ar, ld, oN, oP, oW, oV, hd, tb, po)) : wpY_passUp post (dpt, nI (G + 1), nxy, 2, wth, cal, eng, thr, sts, ots, dps, kd, tg, op, fs, sc, zs, sk, ar, ld, oN, oP, oW, oV, hd, tb, po) := by
  subst es
  have e0 : ¬ nI (G + 1) = 0 := nI_ne0 (by omega) (by omega)
  have e1 : nI (G + 1) - 1 = nI G := nI_pred G
  have iG : vp_in (nI G) 320 := vp_in_nI (by omega) (by omega)
  have cG : (nI G).toNatClampNeg = G := nI_clamp (by omega)
  unfold wpY_passUp
  dsimp only
  refine br_f e0 (nm_r e1 ?_)
  rw [cG]
  refine ⟨iG, nm_e ⟨h80, nm_r hk (br_f (by decide +kernel : ¬ (11 : Int32) = 10) (br_t rfl ?_))⟩⟩
  dsimp only [wpY_afterRound, wY_afterRound_22, wY_afterRound_30, wY_afterRound_54, wpY_look, wpY_endAs, wpY_push, wpY_go]
  rw [cG]
  exact br_f (by decide +kernel : ¬ (2 : Int32) = 0) (br_f (by decide +kernel : ¬ (2 : Int32) = 3) (br_t rfl (br_f hn (br_t rfl (nm_e H)))))
theorem uw_yp11 {s : Int32} (es : oN G = s) (hG : G < 300) (h80 : vp_in s 80) (hk : kd s.toNatClampNeg = 11) (ht : vp_in (tg s.toNatClampNeg) 4) (h0 : ¬ way = 0) (h2 : ¬ way = 2) (h3 : ¬ way = 3) (H : post (dpt, nI G, nxy, way, wth, cal, eng, thr, sts, ots, dps, kd, tg, op, fs, sc, zs, sk, ar, ld, oN, oP, oW, oV, hd, tb, po)) : wpY_passUp post (dpt, nI (G + 1), nxy, way, wth, cal, eng, thr, sts, ots, dps, kd, tg, op, fs, sc, zs, sk, ar, ld, oN, oP, oW, oV, hd, tb, po) := by
  subst es
  have e0 : ¬ nI (G + 1) = 0 := nI_ne0 (by omega) (by omega)
  have e1 : nI (G + 1) - 1 = nI G := nI_pred G
  have iG : vp_in (nI G) 320 := vp_in_nI (by omega) (by omega)
  have cG : (nI G).toNatClampNeg = G := nI_clamp (by omega)
  unfold wpY_passUp
  dsimp only
  refine br_f e0 (nm_r e1 ?_)
  rw [cG]
  refine ⟨iG, nm_e ⟨h80, nm_r hk (br_f (by decide +kernel : ¬ (11 : Int32) = 10) (br_t rfl ?_))⟩⟩
  dsimp only [wpY_afterRound, wY_afterRound_22, wY_afterRound_30, wY_afterRound_54, wpY_look, wpY_endAs, wpY_push, wpY_go]
  rw [cG]
  exact br_f h0 (br_f h3 (br_f h2 (br_f h2 (br_f h3 H))))
theorem uw_yp15a {s : Int32} (es : oN G = s) (hG : G < 300) (h80 : vp_in s 80) (h10 : ¬ kd s.toNatClampNeg = 10) (h11 : ¬ kd s.toNatClampNeg = 11) (h12 : ¬ kd s.toNatClampNeg = 12) (h14 : ¬ kd s.toNatClampNeg = 14) (hP : oP G = 1) (H : post (dpt, nI (G + 1), uw_to s (sc s.toNatClampNeg), way, wth, cal, eng, thr, sts, ots, dps, kd, tg, op, fs, sc, zs, sk, ar, ld, upd oN G s, upd oP G 2, upd oW G way, upd oV G wth, hd, tb, po)) : wpY_passUp post (dpt, nI (G + 1), nxy, way, wth, cal, eng, thr, sts, ots, dps, kd, tg, op, fs, sc, zs, sk, ar, ld, oN, oP, oW, oV, hd, tb, po) := by
  subst es
  have e0 : ¬ nI (G + 1) = 0 := nI_ne0 (by omega) (by omega)
  have e1 : nI (G + 1) - 1 = nI G := nI_pred G
  have iG : vp_in (nI G) 320 := vp_in_nI (by omega) (by omega)
  have cG : (nI G).toNatClampNeg = G := nI_clamp (by omega)
  unfold wpY_passUp
  dsimp only
  refine br_f e0 (nm_r e1 ?_)
  rw [cG]
  refine ⟨iG, nm_e ⟨h80, nm_e (br_f h10 (br_f h11 (br_f h12 (br_f h14 ⟨iG, br_t hP ?_⟩))))⟩⟩
  dsimp only [wpY_push, wpY_go]
  rw [cG]
  exact ⟨iG, nm_e ⟨iG, nm_e ⟨iG, nm_e ⟨iG, nm_e (nm_r (nI_1 G) ⟨h80, uw_20, nm_e H⟩)⟩⟩⟩⟩
theorem uw_yp15n {s : Int32} (es : oN G = s) (hG : G < 300) (h80 : vp_in s 80) (h10 : ¬ kd s.toNatClampNeg = 10) (h11 : ¬ kd s.toNatClampNeg = 11) (h12 : ¬ kd s.toNatClampNeg = 12) (h14 : ¬ kd s.toNatClampNeg = 14) (hP : ¬ oP G = 1) (H : post (dpt, nI G, nxy, oW G, oV G, cal, eng, thr, sts, ots, dps, kd, tg, op, fs, sc, zs, sk, ar, ld, oN, oP, oW, oV, hd, tb, po)) : wpY_passUp post (dpt, nI (G + 1), nxy, 0, wth, cal, eng, thr, sts, ots, dps, kd, tg, op, fs, sc, zs, sk, ar, ld, oN, oP, oW, oV, hd, tb, po) := by
  subst es
  have e0 : ¬ nI (G + 1) = 0 := nI_ne0 (by omega) (by omega)
  have e1 : nI (G + 1) - 1 = nI G := nI_pred G
  have iG : vp_in (nI G) 320 := vp_in_nI (by omega) (by omega)
  have cG : (nI G).toNatClampNeg = G := nI_clamp (by omega)
  unfold wpY_passUp
  dsimp only
  refine br_f e0 (nm_r e1 ?_)
  rw [cG]
  refine ⟨iG, nm_e ⟨h80, nm_e (br_f h10 (br_f h11 (br_f h12 (br_f h14 ⟨iG, br_f hP (br_t rfl ⟨iG, iG, ?_⟩)⟩))))⟩⟩
  exact H
theorem uw_yp15 {s : Int32} (es : oN G = s) (hG : G < 300) (h80 : vp_in s 80) (h10 : ¬ kd s.toNatClampNeg = 10) (h11 : ¬ kd s.toNatClampNeg = 11) (h12 : ¬ kd s.toNatClampNeg = 12) (h14 : ¬ kd s.toNatClampNeg = 14) (hP : ¬ oP G = 1) (h0 : ¬ way = 0) (H : post (dpt, nI G, nxy, way, wth, cal, eng, thr, sts, ots, dps, kd, tg, op, fs, sc, zs, sk, ar, ld, oN, oP, oW, oV, hd, tb, po)) : wpY_passUp post (dpt, nI (G + 1), nxy, way, wth, cal, eng, thr, sts, ots, dps, kd, tg, op, fs, sc, zs, sk, ar, ld, oN, oP, oW, oV, hd, tb, po) := by
  subst es
  have e0 : ¬ nI (G + 1) = 0 := nI_ne0 (by omega) (by omega)
  have e1 : nI (G + 1) - 1 = nI G := nI_pred G
  have iG : vp_in (nI G) 320 := vp_in_nI (by omega) (by omega)
  have cG : (nI G).toNatClampNeg = G := nI_clamp (by omega)
  unfold wpY_passUp
  dsimp only
  refine br_f e0 (nm_r e1 ?_)
  rw [cG]
  refine ⟨iG, nm_e ⟨h80, nm_e (br_f h10 (br_f h11 (br_f h12 (br_f h14 ⟨iG, br_f hP (br_f h0 H)⟩))))⟩⟩
end
