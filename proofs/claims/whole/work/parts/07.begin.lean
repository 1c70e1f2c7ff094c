/-! the kinds from 10 on, begun -/
variable {std mde pct stp opc mop lou lth rng nxt edg edn frm dpt opn nxy way wth cal eng thr sts ots dps : Int32} {kd tg op fs sc sz sk wa ld hd tb po fS fE fN zs ar oN oP oW oV : Nat → Int32}
def uw_to (s f : Int32) : Int32 := s / 20 * 20 + f
theorem uw_gx (s f : Int32) : (s - (s - s / 20 * 20)) + f = uw_to s f := by
  unfold uw_to
  generalize s / 20 * 20 = y
  grind
theorem uw_20 : ¬ (20 : Int32) = 0 := by decide +kernel
section
variable {post : SX → Prop} {st pc F : Nat}
theorem uw_xb10d (hst : st < 300) (hn : vp_in nxt 60) (hk : kd nxt.toNatClampNeg = 10) (h8 : ¬ opc < 8) (H : post (std, mde, pct, nI (st + 1), opc, mop, 3, lth, 0, nxt, edg, edn, frm, kd, tg, op, fs, sc, sz, sk, wa, ld, hd, upd tb nxt.toNatClampNeg (tb nxt.toNatClampNeg + 1), po, fS, fE, fN)) : wpX_beginStatement post (std, mde, pct, nI st, opc, mop, lou, lth, rng, nxt, edg, edn, frm, kd, tg, op, fs, sc, sz, sk, wa, ld, hd, tb, po, fS, fE, fN) nxt := by
  have h80 : vp_in nxt 80 := uw_in hn (by omega)
  have h10 : (10 : Int32) ≤ kd nxt.toNatClampNeg := by rw [hk]; decide +kernel
  refine br_t (uw_3n st hst) (nm_r (nI_1 st) ⟨hn, hn, nm_e ⟨h80, br_t h10 ⟨h80, br_t hk ?_⟩⟩⟩)
  exact br_f h8 H
theorem uw_xb10 (hst : st < 300) (hn : vp_in nxt 60) (hk : kd nxt.toNatClampNeg = 10) (h8 : opc < 8) (hF : F < 300) (ho : vp_in (op nxt.toNatClampNeg) 3) (H : post (std, mde, pct, nI (st + 1), opc + 1, if opc + 1 ≤ mop then mop else opc + 1, lou, lth, rng, (op nxt.toNatClampNeg) * 20 + sz (op nxt.toNatClampNeg).toNatClampNeg - 1, edg, edn, nI (F + 1), kd, tg, op, fs, sc, sz, sk, wa, ld, hd, upd tb nxt.toNatClampNeg (tb nxt.toNatClampNeg + 1), po, upd fS F nxt, upd fE F (-1), fN)) : wpX_beginStatement post (std, mde, pct, nI st, opc, mop, lou, lth, rng, nxt, edg, edn, nI F, kd, tg, op, fs, sc, sz, sk, wa, ld, hd, tb, po, fS, fE, fN) nxt := by
  have h80 : vp_in nxt 80 := uw_in hn (by omega)
  have h10 : (10 : Int32) ≤ kd nxt.toNatClampNeg := by rw [hk]; decide +kernel
  have iF : vp_in (nI F) 300 := vp_in_nI hF (by omega)
  have cF : (nI F).toNatClampNeg = F := nI_clamp (by omega)
  refine br_t (uw_3n st hst) (nm_r (nI_1 st) ⟨hn, hn, nm_e ⟨h80, br_t h10 ⟨h80, br_t hk (br_t h8 (nm_e ?_))⟩⟩⟩)
  dsimp only [wX_beginCall_44, wpX_waitFor, wpX_goToBody]
  rw [cF]
  by_cases hm : opc + 1 ≤ mop
  · rw [if_pos hm] at H
    exact br_t hm ⟨iF, nm_e ⟨iF, nm_e (nm_r (nI_1 F) ⟨h80, ho, nm_e H⟩)⟩⟩
  · rw [if_neg hm] at H
    exact br_f hm ⟨iF, nm_e ⟨iF, nm_e (nm_r (nI_1 F) ⟨h80, ho, nm_e H⟩)⟩⟩
theorem uw_xb11z (hst : st < 300) (hn : vp_in nxt 60) (hk : kd nxt.toNatClampNeg = 11) (ht : vp_in (tg nxt.toNatClampNeg) 4) (hz : hd (tg nxt.toNatClampNeg).toNatClampNeg = 0) (H : post (std, mde, pct, nI (st + 1), opc, mop, lou, lth, rng, -1, 0, 0, frm, kd, tg, op, fs, sc, sz, sk, wa, ld, hd, upd tb nxt.toNatClampNeg (tb nxt.toNatClampNeg + 1), po, fS, fE, fN)) : wpX_beginStatement post (std, mde, pct, nI st, opc, mop, lou, lth, rng, nxt, edg, edn, frm, kd, tg, op, fs, sc, sz, sk, wa, ld, hd, tb, po, fS, fE, fN) nxt := by
  have h80 : vp_in nxt 80 := uw_in hn (by omega)
  have h10 : (10 : Int32) ≤ kd nxt.toNatClampNeg := by rw [hk]; decide +kernel
  exact br_t (uw_3n st hst) (nm_r (nI_1 st) ⟨hn, hn, nm_e ⟨h80, br_t h10 ⟨h80, br_f (by rw [hk]; decide +kernel : ¬ kd nxt.toNatClampNeg = 10) ⟨h80, br_f (by rw [hk]; decide +kernel : ¬ kd nxt.toNatClampNeg = 13) ⟨h80, br_t hk ⟨h80, ht, br_t hz H⟩⟩⟩⟩⟩⟩)
theorem uw_xb11 (hst : st < 300) (hn : vp_in nxt 60) (hk : kd nxt.toNatClampNeg = 11) (ht : vp_in (tg nxt.toNatClampNeg) 4) (hz : ¬ hd (tg nxt.toNatClampNeg).toNatClampNeg = 0) (hF : F < 300) (H : post (std, mde, pct, nI (st + 1), opc, mop, lou, lth, rng, uw_to nxt (fs nxt.toNatClampNeg), edg, edn, nI (F + 1), kd, tg, op, fs, sc, sz, sk, wa, ld, hd, upd tb nxt.toNatClampNeg (tb nxt.toNatClampNeg + 1), po, upd fS F nxt, upd fE F (-1), fN)) : wpX_beginStatement post (std, mde, pct, nI st, opc, mop, lou, lth, rng, nxt, edg, edn, nI F, kd, tg, op, fs, sc, sz, sk, wa, ld, hd, tb, po, fS, fE, fN) nxt := by
  have h80 : vp_in nxt 80 := uw_in hn (by omega)
  have h10 : (10 : Int32) ≤ kd nxt.toNatClampNeg := by rw [hk]; decide +kernel
  have iF : vp_in (nI F) 300 := vp_in_nI hF (by omega)
  have cF : (nI F).toNatClampNeg = F := nI_clamp (by omega)
  refine br_t (uw_3n st hst) (nm_r (nI_1 st) ⟨hn, hn, nm_e ⟨h80, br_t h10 ⟨h80, br_f (by rw [hk]; decide +kernel : ¬ kd nxt.toNatClampNeg = 10) ⟨h80, br_f (by rw [hk]; decide +kernel : ¬ kd nxt.toNatClampNeg = 13) ⟨h80, br_t hk ⟨h80, ht, br_f hz ?_⟩⟩⟩⟩⟩⟩)
  dsimp only [wX_beginStatement_156, wpX_waitFor, wpX_goToPart]
  rw [cF]
  exact ⟨iF, nm_e ⟨iF, nm_e (nm_r (nI_1 F) ⟨h80, uw_20, nm_r (uw_gx _ _) H⟩)⟩⟩
theorem uw_xb12 (hst : st < 300) (hn : vp_in nxt 60) (hk : kd nxt.toNatClampNeg = 12) (hF : F < 300) (H : post (std, mde, pct, nI (st + 1), opc, mop, lou, lth, rng, uw_to nxt (fs nxt.toNatClampNeg), edg, edn, nI (F + 1), kd, tg, op, fs, sc, sz, sk, wa, ld, hd, upd tb nxt.toNatClampNeg (tb nxt.toNatClampNeg + 1), po, upd fS F nxt, upd fE F (-1), fN)) : wpX_beginStatement post (std, mde, pct, nI st, opc, mop, lou, lth, rng, nxt, edg, edn, nI F, kd, tg, op, fs, sc, sz, sk, wa, ld, hd, tb, po, fS, fE, fN) nxt := by
  have h80 : vp_in nxt 80 := uw_in hn (by omega)
  have h10 : (10 : Int32) ≤ kd nxt.toNatClampNeg := by rw [hk]; decide +kernel
  have iF : vp_in (nI F) 300 := vp_in_nI hF (by omega)
  have cF : (nI F).toNatClampNeg = F := nI_clamp (by omega)
  refine br_t (uw_3n st hst) (nm_r (nI_1 st) ⟨hn, hn, nm_e ⟨h80, br_t h10 ⟨h80, br_f (by rw [hk]; decide +kernel : ¬ kd nxt.toNatClampNeg = 10) ⟨h80, br_f (by rw [hk]; decide +kernel : ¬ kd nxt.toNatClampNeg = 13) ⟨h80, br_f (by rw [hk]; decide +kernel : ¬ kd nxt.toNatClampNeg = 11) ?_⟩⟩⟩⟩⟩)
  dsimp only [wX_beginStatement_156, wpX_waitFor, wpX_goToPart]
  rw [cF]
  exact ⟨iF, nm_e ⟨iF, nm_e (nm_r (nI_1 F) ⟨h80, uw_20, nm_r (uw_gx _ _) H⟩)⟩⟩
theorem uw_xb14 (hst : st < 300) (hn : vp_in nxt 60) (hk : kd nxt.toNatClampNeg = 14) (hF : F < 300) (H : post (std, mde, pct, nI (st + 1), opc, mop, lou, lth, rng, uw_to nxt (fs nxt.toNatClampNeg), edg, edn, nI (F + 1), kd, tg, op, fs, sc, sz, sk, wa, ld, hd, upd tb nxt.toNatClampNeg (tb nxt.toNatClampNeg + 1), po, upd fS F nxt, upd fE F (-1), fN)) : wpX_beginStatement post (std, mde, pct, nI st, opc, mop, lou, lth, rng, nxt, edg, edn, nI F, kd, tg, op, fs, sc, sz, sk, wa, ld, hd, tb, po, fS, fE, fN) nxt := by
  have h80 : vp_in nxt 80 := uw_in hn (by omega)
  have h10 : (10 : Int32) ≤ kd nxt.toNatClampNeg := by rw [hk]; decide +kernel
  have iF : vp_in (nI F) 300 := vp_in_nI hF (by omega)
  have cF : (nI F).toNatClampNeg = F := nI_clamp (by omega)
  refine br_t (uw_3n st hst) (nm_r (nI_1 st) ⟨hn, hn, nm_e ⟨h80, br_t h10 ⟨h80, br_f (by rw [hk]; decide +kernel : ¬ kd nxt.toNatClampNeg = 10) ⟨h80, br_f (by rw [hk]; decide +kernel : ¬ kd nxt.toNatClampNeg = 13) ⟨h80, br_f (by rw [hk]; decide +kernel : ¬ kd nxt.toNatClampNeg = 11) ?_⟩⟩⟩⟩⟩)
  dsimp only [wX_beginStatement_156, wpX_waitFor, wpX_goToPart]
  rw [cF]
  exact ⟨iF, nm_e ⟨iF, nm_e (nm_r (nI_1 F) ⟨h80, uw_20, nm_r (uw_gx _ _) H⟩)⟩⟩
theorem uw_xb15 (hst : st < 300) (hn : vp_in nxt 60) (hk : kd nxt.toNatClampNeg = 15) (hF : F < 300) (H : post (std, mde, pct, nI (st + 1), opc, mop, lou, lth, rng, uw_to nxt (fs nxt.toNatClampNeg), edg, edn, nI (F + 1), kd, tg, op, fs, sc, sz, sk, wa, ld, hd, upd tb nxt.toNatClampNeg (tb nxt.toNatClampNeg + 1), po, upd fS F nxt, upd fE F (-1), fN)) : wpX_beginStatement post (std, mde, pct, nI st, opc, mop, lou, lth, rng, nxt, edg, edn, nI F, kd, tg, op, fs, sc, sz, sk, wa, ld, hd, tb, po, fS, fE, fN) nxt := by
  have h80 : vp_in nxt 80 := uw_in hn (by omega)
  have h10 : (10 : Int32) ≤ kd nxt.toNatClampNeg := by rw [hk]; decide +kernel
  have iF : vp_in (nI F) 300 := vp_in_nI hF (by omega)
  have cF : (nI F).toNatClampNeg = F := nI_clamp (by omega)
  refine br_t (uw_3n st hst) (nm_r (nI_1 st) ⟨hn, hn, nm_e ⟨h80, br_t h10 ⟨h80, br_f (by rw [hk]; decide +kernel : ¬ kd nxt.toNatClampNeg = 10) ⟨h80, br_f (by rw [hk]; decide +kernel : ¬ kd nxt.toNatClampNeg = 13) ⟨h80, br_f (by rw [hk]; decide +kernel : ¬ kd nxt.toNatClampNeg = 11) ?_⟩⟩⟩⟩⟩)
  dsimp only [wX_beginStatement_156, wpX_waitFor, wpX_goToPart]
  rw [cF]
  exact ⟨iF, nm_e ⟨iF, nm_e (nm_r (nI_1 F) ⟨h80, uw_20, nm_r (uw_gx _ _) H⟩)⟩⟩
theorem uw_xb13z (hst : st < 300) (hn : vp_in nxt 60) (hk : kd nxt.toNatClampNeg = 13) (ht : vp_in (tg nxt.toNatClampNeg) 4) (hz : hd (tg nxt.toNatClampNeg).toNatClampNeg = 0) (H : post (std, mde, pct, nI (st + 1), opc, mop, lou, lth, rng, uw_to nxt (sc nxt.toNatClampNeg), edg, edn, frm, kd, tg, op, fs, sc, sz, sk, wa, ld, hd, upd tb nxt.toNatClampNeg (tb nxt.toNatClampNeg + 1), po, fS, fE, fN)) : wpX_beginStatement post (std, mde, pct, nI st, opc, mop, lou, lth, rng, nxt, edg, edn, frm, kd, tg, op, fs, sc, sz, sk, wa, ld, hd, tb, po, fS, fE, fN) nxt := by
  have h80 : vp_in nxt 80 := uw_in hn (by omega)
  have h10 : (10 : Int32) ≤ kd nxt.toNatClampNeg := by rw [hk]; decide +kernel
  refine br_t (uw_3n st hst) (nm_r (nI_1 st) ⟨hn, hn, nm_e ⟨h80, br_t h10 ⟨h80, br_f (by rw [hk]; decide +kernel : ¬ kd nxt.toNatClampNeg = 10) ⟨h80, br_t hk ⟨h80, ht, br_t hz ⟨h80, ?_⟩⟩⟩⟩⟩⟩)
  dsimp only [wX_beginStatement_116, wpX_goToPart]
  exact ⟨uw_20, nm_r (uw_gx _ _) H⟩
theorem uw_xb13 (hst : st < 300) (hn : vp_in nxt 60) (hk : kd nxt.toNatClampNeg = 13) (ht : vp_in (tg nxt.toNatClampNeg) 4) (hz : ¬ hd (tg nxt.toNatClampNeg).toNatClampNeg = 0) (H : post (std, mde, pct, nI (st + 1), opc, mop, lou, lth, rng, uw_to nxt (fs nxt.toNatClampNeg), edg, edn, frm, kd, tg, op, fs, sc, sz, sk, wa, ld, hd, upd tb nxt.toNatClampNeg (tb nxt.toNatClampNeg + 1), po, fS, fE, fN)) : wpX_beginStatement post (std, mde, pct, nI st, opc, mop, lou, lth, rng, nxt, edg, edn, frm, kd, tg, op, fs, sc, sz, sk, wa, ld, hd, tb, po, fS, fE, fN) nxt := by
  have h80 : vp_in nxt 80 := uw_in hn (by omega)
  have h10 : (10 : Int32) ≤ kd nxt.toNatClampNeg := by rw [hk]; decide +kernel
  refine br_t (uw_3n st hst) (nm_r (nI_1 st) ⟨hn, hn, nm_e ⟨h80, br_t h10 ⟨h80, br_f (by rw [hk]; decide +kernel : ¬ kd nxt.toNatClampNeg = 10) ⟨h80, br_t hk ⟨h80, ht, br_f hz ⟨h80, ?_⟩⟩⟩⟩⟩⟩)
  dsimp only [wX_beginStatement_116, wpX_goToPart]
  exact ⟨uw_20, nm_r (uw_gx _ _) H⟩
theorem uw_xtired (H : post (std, mde, pct, nI 300, opc, mop, 2, lth, 0, nxt, edg, edn, frm, kd, tg, op, fs, sc, sz, sk, wa, ld, hd, tb, po, fS, fE, fN)) : wpX_beginStatement post (std, mde, pct, nI 300, opc, mop, lou, lth, rng, nxt, edg, edn, frm, kd, tg, op, fs, sc, sz, sk, wa, ld, hd, tb, po, fS, fE, fN) nxt :=
  br_f (by decide +kernel : ¬ nI 300 < 300) H
end
section
variable {post : SY → Prop} {st pc F : Nat}
theorem uw_yb10d (hst : st < 300) (hn : vp_in nxy 60) (hk : kd nxy.toNatClampNeg = 10) (h8 : cal = 8) (H : post (dpt, opn, -1, 0, 0, cal, 3, thr, nI (st + 1), ots, dps, kd, tg, op, fs, sc, zs, sk, ar, ld, oN, oP, oW, oV, hd, upd tb nxy.toNatClampNeg (tb nxy.toNatClampNeg + 1), po)) : wpY_begin post (dpt, opn, nxy, way, wth, cal, eng, thr, nI st, ots, dps, kd, tg, op, fs, sc, zs, sk, ar, ld, oN, oP, oW, oV, hd, tb, po) := by
  have h80 : vp_in nxy 80 := uw_in hn (by omega)
  have h10 : ¬ (10 : Int32) < kd nxy.toNatClampNeg := by rw [hk]; decide +kernel
  refine br_f (uw_3e st hst) (nm_r (nI_1 st) ⟨hn, hn, nm_e ⟨h80, br_f h10 ⟨h80, h80, h80, ?_⟩⟩⟩)
  rw [hk]
  dsimp only [wpY_simply, wpY_endAs]
  refine br_f (by decide +kernel : ¬ (10 : Int32) = 1) (br_f (by decide +kernel : ¬ (10 : Int32) < 2) (br_t (by decide +kernel : (4 : Int32) < 10) (br_f (by decide +kernel : ¬ (10 : Int32) = 5) (br_f (by decide +kernel : ¬ (10 : Int32) = 6) (br_f (by decide +kernel : ¬ (10 : Int32) = 7) (br_f (by decide +kernel : ¬ (10 : Int32) = 8) (br_f (by decide +kernel : ¬ (10 : Int32) = 9) (br_t rfl ?_))))))))
  exact br_t h8 H
theorem uw_yb10 (hst : st < 300) (hn : vp_in nxy 60) (hk : kd nxy.toNatClampNeg = 10) (h8 : ¬ cal = 8) (hF : F < 300) (ho : vp_in (op nxy.toNatClampNeg) 3) (H : post (dpt, nI (F + 1), 20 * (op nxy.toNatClampNeg) + zs (op nxy.toNatClampNeg).toNatClampNeg - 1, 0, 0, cal + 1, eng, thr, nI (st + 1), ots, if cal + 1 ≤ dps then dps else cal + 1, kd, tg, op, fs, sc, zs, sk, ar, ld, upd oN F nxy, upd oP F 1, upd oW F 0, upd oV F 0, hd, upd tb nxy.toNatClampNeg (tb nxy.toNatClampNeg + 1), po)) : wpY_begin post (dpt, nI F, nxy, way, wth, cal, eng, thr, nI st, ots, dps, kd, tg, op, fs, sc, zs, sk, ar, ld, oN, oP, oW, oV, hd, tb, po) := by
  have h80 : vp_in nxy 80 := uw_in hn (by omega)
  have iF : vp_in (nI F) 320 := vp_in_nI (by omega) (by omega)
  have cF : (nI F).toNatClampNeg = F := nI_clamp (by omega)
  have h10 : ¬ (10 : Int32) < kd nxy.toNatClampNeg := by rw [hk]; decide +kernel
  refine br_f (uw_3e st hst) (nm_r (nI_1 st) ⟨hn, hn, nm_e ⟨h80, br_f h10 ⟨h80, h80, h80, ?_⟩⟩⟩)
  rw [hk]
  dsimp only [wpY_simply, wpY_endAs]
  refine br_f (by decide +kernel : ¬ (10 : Int32) = 1) (br_f (by decide +kernel : ¬ (10 : Int32) < 2) (br_t (by decide +kernel : (4 : Int32) < 10) (br_f (by decide +kernel : ¬ (10 : Int32) = 5) (br_f (by decide +kernel : ¬ (10 : Int32) = 6) (br_f (by decide +kernel : ¬ (10 : Int32) = 7) (br_f (by decide +kernel : ¬ (10 : Int32) = 8) (br_f (by decide +kernel : ¬ (10 : Int32) = 9) (br_t rfl ?_))))))))
  dsimp only [wpY_enter, wY_enter_44, wpY_push]
  rw [cF]
  refine br_f h8 (nm_e ?_)
  by_cases hm : cal + 1 ≤ dps
  · rw [if_pos hm] at H
    exact br_t hm ⟨iF, nm_e ⟨iF, nm_e ⟨iF, nm_e ⟨iF, nm_e (nm_r (nI_1 F) ⟨h80, nm_e ⟨uw_in ho (by omega), nm_e H⟩⟩)⟩⟩⟩⟩
  · rw [if_neg hm] at H
    exact br_f hm ⟨iF, nm_e ⟨iF, nm_e ⟨iF, nm_e ⟨iF, nm_e (nm_r (nI_1 F) ⟨h80, nm_e ⟨uw_in ho (by omega), nm_e H⟩⟩)⟩⟩⟩⟩
theorem uw_yb11z (hst : st < 300) (hn : vp_in nxy 60) (hk : kd nxy.toNatClampNeg = 11) (ht : vp_in (tg nxy.toNatClampNeg) 4) (hz : hd (tg nxy.toNatClampNeg).toNatClampNeg = 0) (H : post (dpt, opn, -1, 0, 0, cal, eng, thr, nI (st + 1), ots, dps, kd, tg, op, fs, sc, zs, sk, ar, ld, oN, oP, oW, oV, hd, upd tb nxy.toNatClampNeg (tb nxy.toNatClampNeg + 1), po)) : wpY_begin post (dpt, opn, nxy, way, wth, cal, eng, thr, nI st, ots, dps, kd, tg, op, fs, sc, zs, sk, ar, ld, oN, oP, oW, oV, hd, tb, po) := by
  have h80 : vp_in nxy 80 := uw_in hn (by omega)
  have h10 : (10 : Int32) < kd nxy.toNatClampNeg := by rw [hk]; decide +kernel
  refine br_f (uw_3e st hst) (nm_r (nI_1 st) ⟨hn, hn, nm_e ⟨h80, br_t h10 ⟨h80, br_t hk ?_⟩⟩⟩)
  dsimp only [wpY_look, wpY_endAs]
  exact ⟨h80, ht, br_t hz H⟩
theorem uw_yb11 (hst : st < 300) (hn : vp_in nxy 60) (hk : kd nxy.toNatClampNeg = 11) (ht : vp_in (tg nxy.toNatClampNeg) 4) (hz : ¬ hd (tg nxy.toNatClampNeg).toNatClampNeg = 0) (hF : F < 300) (H : post (dpt, nI (F + 1), uw_to nxy (fs nxy.toNatClampNeg), 0, 0, cal, eng, thr, nI (st + 1), ots, dps, kd, tg, op, fs, sc, zs, sk, ar, ld, upd oN F nxy, upd oP F 1, upd oW F 0, upd oV F 0, hd, upd tb nxy.toNatClampNeg (tb nxy.toNatClampNeg + 1), po)) : wpY_begin post (dpt, nI F, nxy, way, wth, cal, eng, thr, nI st, ots, dps, kd, tg, op, fs, sc, zs, sk, ar, ld, oN, oP, oW, oV, hd, tb, po) := by
  have h80 : vp_in nxy 80 := uw_in hn (by omega)
  have iF : vp_in (nI F) 320 := vp_in_nI (by omega) (by omega)
  have cF : (nI F).toNatClampNeg = F := nI_clamp (by omega)
  have h10 : (10 : Int32) < kd nxy.toNatClampNeg := by rw [hk]; decide +kernel
  refine br_f (uw_3e st hst) (nm_r (nI_1 st) ⟨hn, hn, nm_e ⟨h80, br_t h10 ⟨h80, br_t hk ?_⟩⟩⟩)
  dsimp only [wpY_look, wpY_endAs, wpY_push, wpY_go]
  rw [cF]
  exact ⟨h80, ht, br_f hz ⟨iF, nm_e ⟨iF, nm_e ⟨iF, nm_e ⟨iF, nm_e (nm_r (nI_1 F) ⟨h80, uw_20, nm_e H⟩)⟩⟩⟩⟩⟩
theorem uw_yb12 (hst : st < 300) (hn : vp_in nxy 60) (hk : kd nxy.toNatClampNeg = 12) (hF : F < 300) (H : post (dpt, nI (F + 1), uw_to nxy (fs nxy.toNatClampNeg), way, wth, cal, eng, thr, nI (st + 1), ots, dps, kd, tg, op, fs, sc, zs, sk, ar, ld, upd oN F nxy, upd oP F 1, upd oW F way, upd oV F wth, hd, upd tb nxy.toNatClampNeg (tb nxy.toNatClampNeg + 1), po)) : wpY_begin post (dpt, nI F, nxy, way, wth, cal, eng, thr, nI st, ots, dps, kd, tg, op, fs, sc, zs, sk, ar, ld, oN, oP, oW, oV, hd, tb, po) := by
  have h80 : vp_in nxy 80 := uw_in hn (by omega)
  have iF : vp_in (nI F) 320 := vp_in_nI (by omega) (by omega)
  have cF : (nI F).toNatClampNeg = F := nI_clamp (by omega)
  have h10 : (10 : Int32) < kd nxy.toNatClampNeg := by rw [hk]; decide +kernel
  refine br_f (uw_3e st hst) (nm_r (nI_1 st) ⟨hn, hn, nm_e ⟨h80, br_t h10 ⟨h80, br_f (by rw [hk]; decide +kernel : ¬ kd nxy.toNatClampNeg = 11) ⟨h80, br_f (by rw [hk]; decide +kernel : ¬ kd nxy.toNatClampNeg = 13) ?_⟩⟩⟩⟩)
  dsimp only [wpY_push, wpY_go]
  rw [cF]
  exact ⟨iF, nm_e ⟨iF, nm_e ⟨iF, nm_e ⟨iF, nm_e (nm_r (nI_1 F) ⟨h80, uw_20, nm_e H⟩)⟩⟩⟩⟩
theorem uw_yb14 (hst : st < 300) (hn : vp_in nxy 60) (hk : kd nxy.toNatClampNeg = 14) (hF : F < 300) (H : post (dpt, nI (F + 1), uw_to nxy (fs nxy.toNatClampNeg), way, wth, cal, eng, thr, nI (st + 1), ots, dps, kd, tg, op, fs, sc, zs, sk, ar, ld, upd oN F nxy, upd oP F 1, upd oW F way, upd oV F wth, hd, upd tb nxy.toNatClampNeg (tb nxy.toNatClampNeg + 1), po)) : wpY_begin post (dpt, nI F, nxy, way, wth, cal, eng, thr, nI st, ots, dps, kd, tg, op, fs, sc, zs, sk, ar, ld, oN, oP, oW, oV, hd, tb, po) := by
  have h80 : vp_in nxy 80 := uw_in hn (by omega)
  have iF : vp_in (nI F) 320 := vp_in_nI (by omega) (by omega)
  have cF : (nI F).toNatClampNeg = F := nI_clamp (by omega)
  have h10 : (10 : Int32) < kd nxy.toNatClampNeg := by rw [hk]; decide +kernel
  refine br_f (uw_3e st hst) (nm_r (nI_1 st) ⟨hn, hn, nm_e ⟨h80, br_t h10 ⟨h80, br_f (by rw [hk]; decide +kernel : ¬ kd nxy.toNatClampNeg = 11) ⟨h80, br_f (by rw [hk]; decide +kernel : ¬ kd nxy.toNatClampNeg = 13) ?_⟩⟩⟩⟩)
  dsimp only [wpY_push, wpY_go]
  rw [cF]
  exact ⟨iF, nm_e ⟨iF, nm_e ⟨iF, nm_e ⟨iF, nm_e (nm_r (nI_1 F) ⟨h80, uw_20, nm_e H⟩)⟩⟩⟩⟩
theorem uw_yb15 (hst : st < 300) (hn : vp_in nxy 60) (hk : kd nxy.toNatClampNeg = 15) (hF : F < 300) (H : post (dpt, nI (F + 1), uw_to nxy (fs nxy.toNatClampNeg), way, wth, cal, eng, thr, nI (st + 1), ots, dps, kd, tg, op, fs, sc, zs, sk, ar, ld, upd oN F nxy, upd oP F 1, upd oW F way, upd oV F wth, hd, upd tb nxy.toNatClampNeg (tb nxy.toNatClampNeg + 1), po)) : wpY_begin post (dpt, nI F, nxy, way, wth, cal, eng, thr, nI st, ots, dps, kd, tg, op, fs, sc, zs, sk, ar, ld, oN, oP, oW, oV, hd, tb, po) := by
  have h80 : vp_in nxy 80 := uw_in hn (by omega)
  have iF : vp_in (nI F) 320 := vp_in_nI (by omega) (by omega)
  have cF : (nI F).toNatClampNeg = F := nI_clamp (by omega)
  have h10 : (10 : Int32) < kd nxy.toNatClampNeg := by rw [hk]; decide +kernel
  refine br_f (uw_3e st hst) (nm_r (nI_1 st) ⟨hn, hn, nm_e ⟨h80, br_t h10 ⟨h80, br_f (by rw [hk]; decide +kernel : ¬ kd nxy.toNatClampNeg = 11) ⟨h80, br_f (by rw [hk]; decide +kernel : ¬ kd nxy.toNatClampNeg = 13) ?_⟩⟩⟩⟩)
  dsimp only [wpY_push, wpY_go]
  rw [cF]
  exact ⟨iF, nm_e ⟨iF, nm_e ⟨iF, nm_e ⟨iF, nm_e (nm_r (nI_1 F) ⟨h80, uw_20, nm_e H⟩)⟩⟩⟩⟩
theorem uw_yb13z (hst : st < 300) (hn : vp_in nxy 60) (hk : kd nxy.toNatClampNeg = 13) (ht : vp_in (tg nxy.toNatClampNeg) 4) (hz : hd (tg nxy.toNatClampNeg).toNatClampNeg = 0) (H : post (dpt, opn, uw_to nxy (sc nxy.toNatClampNeg), way, wth, cal, eng, thr, nI (st + 1), ots, dps, kd, tg, op, fs, sc, zs, sk, ar, ld, oN, oP, oW, oV, hd, upd tb nxy.toNatClampNeg (tb nxy.toNatClampNeg + 1), po)) : wpY_begin post (dpt, opn, nxy, way, wth, cal, eng, thr, nI st, ots, dps, kd, tg, op, fs, sc, zs, sk, ar, ld, oN, oP, oW, oV, hd, tb, po) := by
  have h80 : vp_in nxy 80 := uw_in hn (by omega)
  have h10 : (10 : Int32) < kd nxy.toNatClampNeg := by rw [hk]; decide +kernel
  refine br_f (uw_3e st hst) (nm_r (nI_1 st) ⟨hn, hn, nm_e ⟨h80, br_t h10 ⟨h80, br_f (by rw [hk]; decide +kernel : ¬ kd nxy.toNatClampNeg = 11) ⟨h80, br_t hk ⟨h80, ht, br_t hz ⟨h80, ?_⟩⟩⟩⟩⟩⟩)
  dsimp only [wY_begin_144, wpY_go]
  exact ⟨uw_20, nm_e H⟩
theorem uw_yb13 (hst : st < 300) (hn : vp_in nxy 60) (hk : kd nxy.toNatClampNeg = 13) (ht : vp_in (tg nxy.toNatClampNeg) 4) (hz : ¬ hd (tg nxy.toNatClampNeg).toNatClampNeg = 0) (H : post (dpt, opn, uw_to nxy (fs nxy.toNatClampNeg), way, wth, cal, eng, thr, nI (st + 1), ots, dps, kd, tg, op, fs, sc, zs, sk, ar, ld, oN, oP, oW, oV, hd, upd tb nxy.toNatClampNeg (tb nxy.toNatClampNeg + 1), po)) : wpY_begin post (dpt, opn, nxy, way, wth, cal, eng, thr, nI st, ots, dps, kd, tg, op, fs, sc, zs, sk, ar, ld, oN, oP, oW, oV, hd, tb, po) := by
  have h80 : vp_in nxy 80 := uw_in hn (by omega)
  have h10 : (10 : Int32) < kd nxy.toNatClampNeg := by rw [hk]; decide +kernel
  refine br_f (uw_3e st hst) (nm_r (nI_1 st) ⟨hn, hn, nm_e ⟨h80, br_t h10 ⟨h80, br_f (by rw [hk]; decide +kernel : ¬ kd nxy.toNatClampNeg = 11) ⟨h80, br_t hk ⟨h80, ht, br_f hz ⟨h80, ?_⟩⟩⟩⟩⟩⟩)
  dsimp only [wY_begin_144, wpY_go]
  exact ⟨uw_20, nm_e H⟩
theorem uw_ytired (H : post (dpt, opn, -1, way, wth, cal, 2, thr, nI 300, ots, dps, kd, tg, op, fs, sc, zs, sk, ar, ld, oN, oP, oW, oV, hd, tb, po)) : wpY_begin post (dpt, opn, nxy, way, wth, cal, eng, thr, nI 300, ots, dps, kd, tg, op, fs, sc, zs, sk, ar, ld, oN, oP, oW, oV, hd, tb, po) :=
  br_t rfl H
end
