/-! what a turn does that begins a statement: a lemma a kind and a side -/
variable {std mde pct stp opc mop lou lth rng nxt edg edn frm dpt opn nxy way wth cal eng thr sts ots dps : Int32} {kd tg op fs sc sz sk wa ld hd tb po fS fE fN zs ar oN oP oW oV : Nat → Int32}
theorem uw_3n (st : Nat) (h : st < 300) : nI st < 300 := nI_lt (b := 300) h (by decide)
theorem uw_3e (st : Nat) (h : st < 300) : ¬ nI st = 300 := fun z => absurd ((nI_eq (b := 300) (by omega) (by decide)).mp z) (by omega)
section
variable {post : SX → Prop} {st pc F : Nat}
theorem uw_xb0 (hst : st < 300) (hn : vp_in nxt 60) (hk : kd nxt.toNatClampNeg = 0) (H : post (std, mde, pct, nI (st + 1), opc, mop, lou, lth, rng, -1, 0, 0, frm, kd, tg, op, fs, sc, sz, sk, wa, ld, hd, upd tb nxt.toNatClampNeg (tb nxt.toNatClampNeg + 1), po, fS, fE, fN)) : wpX_beginStatement post (std, mde, pct, nI st, opc, mop, lou, lth, rng, nxt, edg, edn, frm, kd, tg, op, fs, sc, sz, sk, wa, ld, hd, tb, po, fS, fE, fN) nxt := by
  have h80 : vp_in nxt 80 := uw_in hn (by omega)
  have h10 : ¬ (10 : Int32) ≤ kd nxt.toNatClampNeg := by rw [hk]; decide +kernel
  refine br_t (uw_3n st hst) (nm_r (nI_1 st) ⟨hn, hn, nm_e ⟨h80, br_f h10 ?_⟩⟩)
  dsimp only [wpX_doSimple, wpX_endStatement]
  exact ⟨h80, nm_e ⟨h80, nm_e ⟨h80, nm_r hk (br_t (by decide +kernel : (0 : Int32) < 1) H)⟩⟩⟩
theorem uw_xb1 (hst : st < 300) (hn : vp_in nxt 60) (hk : kd nxt.toNatClampNeg = 1) (ht : vp_in (tg nxt.toNatClampNeg) 4) (H : post (std, mde, pct, nI (st + 1), opc, mop, lou, lth, rng, -1, 0, 0, frm, kd, tg, op, fs, sc, sz, sk, wa, ld, upd hd (tg nxt.toNatClampNeg).toNatClampNeg (op nxt.toNatClampNeg), upd tb nxt.toNatClampNeg (tb nxt.toNatClampNeg + 1), po, fS, fE, fN)) : wpX_beginStatement post (std, mde, pct, nI st, opc, mop, lou, lth, rng, nxt, edg, edn, frm, kd, tg, op, fs, sc, sz, sk, wa, ld, hd, tb, po, fS, fE, fN) nxt := by
  have h80 : vp_in nxt 80 := uw_in hn (by omega)
  have h10 : ¬ (10 : Int32) ≤ kd nxt.toNatClampNeg := by rw [hk]; decide +kernel
  refine br_t (uw_3n st hst) (nm_r (nI_1 st) ⟨hn, hn, nm_e ⟨h80, br_f h10 ?_⟩⟩)
  dsimp only [wpX_doSimple, wpX_endStatement]
  exact ⟨h80, nm_e ⟨h80, nm_e ⟨h80, nm_r hk (br_f (by decide +kernel : ¬ (1 : Int32) < 1) (br_f (by decide +kernel : ¬ (9 : Int32) < 1) (br_t rfl ⟨ht, nm_e H⟩)))⟩⟩⟩
theorem uw_xb2 (hst : st < 300) (hn : vp_in nxt 60) (hk : kd nxt.toNatClampNeg = 2) (ht : vp_in (tg nxt.toNatClampNeg) 4) (ho : vp_in (op nxt.toNatClampNeg) 4) (H : post (std, mde, pct, nI (st + 1), opc, mop, lou, lth, rng, -1, 0, 0, frm, kd, tg, op, fs, sc, sz, sk, wa, ld, upd hd (tg nxt.toNatClampNeg).toNatClampNeg (hd (tg nxt.toNatClampNeg).toNatClampNeg + hd (op nxt.toNatClampNeg).toNatClampNeg), upd tb nxt.toNatClampNeg (tb nxt.toNatClampNeg + 1), po, fS, fE, fN)) : wpX_beginStatement post (std, mde, pct, nI st, opc, mop, lou, lth, rng, nxt, edg, edn, frm, kd, tg, op, fs, sc, sz, sk, wa, ld, hd, tb, po, fS, fE, fN) nxt := by
  have h80 : vp_in nxt 80 := uw_in hn (by omega)
  have h10 : ¬ (10 : Int32) ≤ kd nxt.toNatClampNeg := by rw [hk]; decide +kernel
  refine br_t (uw_3n st hst) (nm_r (nI_1 st) ⟨hn, hn, nm_e ⟨h80, br_f h10 ?_⟩⟩)
  dsimp only [wpX_doSimple, wpX_endStatement]
  exact ⟨h80, nm_e ⟨h80, nm_e ⟨h80, nm_r hk (br_f (by decide +kernel : ¬ (2 : Int32) < 1) (br_f (by decide +kernel : ¬ (9 : Int32) < 2) (br_f (by decide +kernel : ¬ (2 : Int32) = 1) (br_t rfl ⟨ht, ho, ht, nm_e H⟩))))⟩⟩⟩
theorem uw_xb3 (hst : st < 300) (hn : vp_in nxt 60) (hk : kd nxt.toNatClampNeg = 3) (ht : vp_in (tg nxt.toNatClampNeg) 4) (ho : vp_in (op nxt.toNatClampNeg) 4) (H : post (std, mde, pct, nI (st + 1), opc, mop, lou, lth, rng, -1, 0, 0, frm, kd, tg, op, fs, sc, sz, sk, wa, ld, upd hd (tg nxt.toNatClampNeg).toNatClampNeg (hd (tg nxt.toNatClampNeg).toNatClampNeg - hd (op nxt.toNatClampNeg).toNatClampNeg), upd tb nxt.toNatClampNeg (tb nxt.toNatClampNeg + 1), po, fS, fE, fN)) : wpX_beginStatement post (std, mde, pct, nI st, opc, mop, lou, lth, rng, nxt, edg, edn, frm, kd, tg, op, fs, sc, sz, sk, wa, ld, hd, tb, po, fS, fE, fN) nxt := by
  have h80 : vp_in nxt 80 := uw_in hn (by omega)
  have h10 : ¬ (10 : Int32) ≤ kd nxt.toNatClampNeg := by rw [hk]; decide +kernel
  refine br_t (uw_3n st hst) (nm_r (nI_1 st) ⟨hn, hn, nm_e ⟨h80, br_f h10 ?_⟩⟩)
  dsimp only [wpX_doSimple, wpX_endStatement]
  exact ⟨h80, nm_e ⟨h80, nm_e ⟨h80, nm_r hk (br_f (by decide +kernel : ¬ (3 : Int32) < 1) (br_f (by decide +kernel : ¬ (9 : Int32) < 3) (br_f (by decide +kernel : ¬ (3 : Int32) = 1) (br_f (by decide +kernel : ¬ (3 : Int32) = 2) (br_t rfl ⟨ht, ho, ht, nm_e H⟩)))))⟩⟩⟩
theorem uw_xb4 (hst : st < 300) (hn : vp_in nxt 60) (hk : kd nxt.toNatClampNeg = 4) (ht : vp_in (tg nxt.toNatClampNeg) 4) (ho : vp_in (op nxt.toNatClampNeg) 4) (H : post (std, mde, pct, nI (st + 1), opc, mop, lou, lth, rng, -1, 0, 0, frm, kd, tg, op, fs, sc, sz, sk, wa, ld, upd hd (tg nxt.toNatClampNeg).toNatClampNeg (hd (tg nxt.toNatClampNeg).toNatClampNeg * hd (op nxt.toNatClampNeg).toNatClampNeg), upd tb nxt.toNatClampNeg (tb nxt.toNatClampNeg + 1), po, fS, fE, fN)) : wpX_beginStatement post (std, mde, pct, nI st, opc, mop, lou, lth, rng, nxt, edg, edn, frm, kd, tg, op, fs, sc, sz, sk, wa, ld, hd, tb, po, fS, fE, fN) nxt := by
  have h80 : vp_in nxt 80 := uw_in hn (by omega)
  have h10 : ¬ (10 : Int32) ≤ kd nxt.toNatClampNeg := by rw [hk]; decide +kernel
  refine br_t (uw_3n st hst) (nm_r (nI_1 st) ⟨hn, hn, nm_e ⟨h80, br_f h10 ?_⟩⟩)
  dsimp only [wpX_doSimple, wpX_endStatement]
  exact ⟨h80, nm_e ⟨h80, nm_e ⟨h80, nm_r hk (br_f (by decide +kernel : ¬ (4 : Int32) < 1) (br_f (by decide +kernel : ¬ (9 : Int32) < 4) (br_f (by decide +kernel : ¬ (4 : Int32) = 1) (br_f (by decide +kernel : ¬ (4 : Int32) = 2) (br_f (by decide +kernel : ¬ (4 : Int32) = 3) (br_t rfl ⟨ht, ho, ht, nm_e H⟩))))))⟩⟩⟩
theorem uw_xb5 (hst : st < 300) (hn : vp_in nxt 60) (hk : kd nxt.toNatClampNeg = 5) (ht : vp_in (tg nxt.toNatClampNeg) 4) (hpc : pc < 300) (H : post (std, mde, nI (pc + 1), nI (st + 1), opc, mop, lou, lth, rng, -1, 0, 0, frm, kd, tg, op, fs, sc, sz, sk, wa, ld, hd, upd tb nxt.toNatClampNeg (tb nxt.toNatClampNeg + 1), upd po pc (hd (tg nxt.toNatClampNeg).toNatClampNeg), fS, fE, fN)) : wpX_beginStatement post (std, mde, nI pc, nI st, opc, mop, lou, lth, rng, nxt, edg, edn, frm, kd, tg, op, fs, sc, sz, sk, wa, ld, hd, tb, po, fS, fE, fN) nxt := by
  have h80 : vp_in nxt 80 := uw_in hn (by omega)
  have h10 : ¬ (10 : Int32) ≤ kd nxt.toNatClampNeg := by rw [hk]; decide +kernel
  have cp : (nI pc).toNatClampNeg = pc := nI_clamp (by omega)
  refine br_t (uw_3n st hst) (nm_r (nI_1 st) ⟨hn, hn, nm_e ⟨h80, br_f h10 ?_⟩⟩)
  dsimp only [wpX_doSimple, wpX_endStatement]
  exact ⟨h80, nm_e ⟨h80, nm_e ⟨h80, nm_r hk (br_f (by decide +kernel : ¬ (5 : Int32) < 1) (br_f (by decide +kernel : ¬ (9 : Int32) < 5) (br_f (by decide +kernel : ¬ (5 : Int32) = 1) (br_f (by decide +kernel : ¬ (5 : Int32) = 2) (br_f (by decide +kernel : ¬ (5 : Int32) = 3) (br_f (by decide +kernel : ¬ (5 : Int32) = 4) (br_t rfl ⟨ht, vp_in_nI (by omega) (by omega), nm_r (congrArg (fun q => upd po q (hd (tg nxt.toNatClampNeg).toNatClampNeg)) cp) (nm_r (nI_1 pc) H)⟩)))))))⟩⟩⟩
theorem uw_xb6 (hst : st < 300) (hn : vp_in nxt 60) (hk : kd nxt.toNatClampNeg = 6) (ht : vp_in (tg nxt.toNatClampNeg) 4) (H : post (std, mde, pct, nI (st + 1), opc, mop, lou, lth, rng, -1, 1, hd (tg nxt.toNatClampNeg).toNatClampNeg, frm, kd, tg, op, fs, sc, sz, sk, wa, ld, hd, upd tb nxt.toNatClampNeg (tb nxt.toNatClampNeg + 1), po, fS, fE, fN)) : wpX_beginStatement post (std, mde, pct, nI st, opc, mop, lou, lth, rng, nxt, edg, edn, frm, kd, tg, op, fs, sc, sz, sk, wa, ld, hd, tb, po, fS, fE, fN) nxt := by
  have h80 : vp_in nxt 80 := uw_in hn (by omega)
  have h10 : ¬ (10 : Int32) ≤ kd nxt.toNatClampNeg := by rw [hk]; decide +kernel
  refine br_t (uw_3n st hst) (nm_r (nI_1 st) ⟨hn, hn, nm_e ⟨h80, br_f h10 ?_⟩⟩)
  dsimp only [wpX_doSimple, wpX_endStatement]
  exact ⟨h80, nm_e ⟨h80, nm_e ⟨h80, nm_r hk (br_f (by decide +kernel : ¬ (6 : Int32) < 1) (br_f (by decide +kernel : ¬ (9 : Int32) < 6) (br_f (by decide +kernel : ¬ (6 : Int32) = 1) (br_f (by decide +kernel : ¬ (6 : Int32) = 2) (br_f (by decide +kernel : ¬ (6 : Int32) = 3) (br_f (by decide +kernel : ¬ (6 : Int32) = 4) (br_f (by decide +kernel : ¬ (6 : Int32) = 5) (br_t rfl ⟨ht, H⟩))))))))⟩⟩⟩
theorem uw_xb7 (hst : st < 300) (hn : vp_in nxt 60) (hk : kd nxt.toNatClampNeg = 7) (H : post (std, mde, pct, nI (st + 1), opc, mop, lou, lth, rng, -1, 2, (op nxt.toNatClampNeg), frm, kd, tg, op, fs, sc, sz, sk, wa, ld, hd, upd tb nxt.toNatClampNeg (tb nxt.toNatClampNeg + 1), po, fS, fE, fN)) : wpX_beginStatement post (std, mde, pct, nI st, opc, mop, lou, lth, rng, nxt, edg, edn, frm, kd, tg, op, fs, sc, sz, sk, wa, ld, hd, tb, po, fS, fE, fN) nxt := by
  have h80 : vp_in nxt 80 := uw_in hn (by omega)
  have h10 : ¬ (10 : Int32) ≤ kd nxt.toNatClampNeg := by rw [hk]; decide +kernel
  refine br_t (uw_3n st hst) (nm_r (nI_1 st) ⟨hn, hn, nm_e ⟨h80, br_f h10 ?_⟩⟩)
  dsimp only [wpX_doSimple, wpX_endStatement]
  exact ⟨h80, nm_e ⟨h80, nm_e ⟨h80, nm_r hk (br_f (by decide +kernel : ¬ (7 : Int32) < 1) (br_f (by decide +kernel : ¬ (9 : Int32) < 7) (br_f (by decide +kernel : ¬ (7 : Int32) = 1) (br_f (by decide +kernel : ¬ (7 : Int32) = 2) (br_f (by decide +kernel : ¬ (7 : Int32) = 3) (br_f (by decide +kernel : ¬ (7 : Int32) = 4) (br_f (by decide +kernel : ¬ (7 : Int32) = 5) (br_f (by decide +kernel : ¬ (7 : Int32) = 6) (br_t rfl H)))))))))⟩⟩⟩
theorem uw_xb8 (hst : st < 300) (hn : vp_in nxt 60) (hk : kd nxt.toNatClampNeg = 8) (H : post (std, mde, pct, nI (st + 1), opc, mop, lou, lth, rng, -1, 3, (op nxt.toNatClampNeg), frm, kd, tg, op, fs, sc, sz, sk, wa, ld, hd, upd tb nxt.toNatClampNeg (tb nxt.toNatClampNeg + 1), po, fS, fE, fN)) : wpX_beginStatement post (std, mde, pct, nI st, opc, mop, lou, lth, rng, nxt, edg, edn, frm, kd, tg, op, fs, sc, sz, sk, wa, ld, hd, tb, po, fS, fE, fN) nxt := by
  have h80 : vp_in nxt 80 := uw_in hn (by omega)
  have h10 : ¬ (10 : Int32) ≤ kd nxt.toNatClampNeg := by rw [hk]; decide +kernel
  refine br_t (uw_3n st hst) (nm_r (nI_1 st) ⟨hn, hn, nm_e ⟨h80, br_f h10 ?_⟩⟩)
  dsimp only [wpX_doSimple, wpX_endStatement]
  exact ⟨h80, nm_e ⟨h80, nm_e ⟨h80, nm_r hk (br_f (by decide +kernel : ¬ (8 : Int32) < 1) (br_f (by decide +kernel : ¬ (9 : Int32) < 8) (br_f (by decide +kernel : ¬ (8 : Int32) = 1) (br_f (by decide +kernel : ¬ (8 : Int32) = 2) (br_f (by decide +kernel : ¬ (8 : Int32) = 3) (br_f (by decide +kernel : ¬ (8 : Int32) = 4) (br_f (by decide +kernel : ¬ (8 : Int32) = 5) (br_f (by decide +kernel : ¬ (8 : Int32) = 6) (br_f (by decide +kernel : ¬ (8 : Int32) = 7) (br_t rfl H))))))))))⟩⟩⟩
theorem uw_xb9 (hst : st < 300) (hn : vp_in nxt 60) (hk : kd nxt.toNatClampNeg = 9) (H : post (std, mde, pct, nI (st + 1), opc, mop, lou, lth, rng, -1, 4, 0, frm, kd, tg, op, fs, sc, sz, sk, wa, ld, hd, upd tb nxt.toNatClampNeg (tb nxt.toNatClampNeg + 1), po, fS, fE, fN)) : wpX_beginStatement post (std, mde, pct, nI st, opc, mop, lou, lth, rng, nxt, edg, edn, frm, kd, tg, op, fs, sc, sz, sk, wa, ld, hd, tb, po, fS, fE, fN) nxt := by
  have h80 : vp_in nxt 80 := uw_in hn (by omega)
  have h10 : ¬ (10 : Int32) ≤ kd nxt.toNatClampNeg := by rw [hk]; decide +kernel
  refine br_t (uw_3n st hst) (nm_r (nI_1 st) ⟨hn, hn, nm_e ⟨h80, br_f h10 ?_⟩⟩)
  dsimp only [wpX_doSimple, wpX_endStatement]
  exact ⟨h80, nm_e ⟨h80, nm_e ⟨h80, nm_r hk (br_f (by decide +kernel : ¬ (9 : Int32) < 1) (br_f (by decide +kernel : ¬ (9 : Int32) < 9) (br_f (by decide +kernel : ¬ (9 : Int32) = 1) (br_f (by decide +kernel : ¬ (9 : Int32) = 2) (br_f (by decide +kernel : ¬ (9 : Int32) = 3) (br_f (by decide +kernel : ¬ (9 : Int32) = 4) (br_f (by decide +kernel : ¬ (9 : Int32) = 5) (br_f (by decide +kernel : ¬ (9 : Int32) = 6) (br_f (by decide +kernel : ¬ (9 : Int32) = 7) (br_f (by decide +kernel : ¬ (9 : Int32) = 8) (br_t rfl H)))))))))))⟩⟩⟩
end
section
variable {post : SY → Prop} {st pc F : Nat}
theorem uw_yb0 (hst : st < 300) (hn : vp_in nxy 60) (hk : kd nxy.toNatClampNeg = 0) (H : post (dpt, opn, -1, 0, 0, cal, eng, thr, nI (st + 1), ots, dps, kd, tg, op, fs, sc, zs, sk, ar, ld, oN, oP, oW, oV, hd, upd tb nxy.toNatClampNeg (tb nxy.toNatClampNeg + 1), po)) : wpY_begin post (dpt, opn, nxy, way, wth, cal, eng, thr, nI st, ots, dps, kd, tg, op, fs, sc, zs, sk, ar, ld, oN, oP, oW, oV, hd, tb, po) := by
  have h80 : vp_in nxy 80 := uw_in hn (by omega)
  have h10 : ¬ (10 : Int32) < kd nxy.toNatClampNeg := by rw [hk]; decide +kernel
  refine br_f (uw_3e st hst) (nm_r (nI_1 st) ⟨hn, hn, nm_e ⟨h80, br_f h10 ⟨h80, h80, h80, ?_⟩⟩⟩)
  rw [hk]
  dsimp only [wpY_simply, wpY_endAs]
  exact br_f (by decide +kernel : ¬ (0 : Int32) = 1) (br_t (by decide +kernel : (0 : Int32) < 2) (br_f (by decide +kernel : ¬ (0 : Int32) = 5) (br_f (by decide +kernel : ¬ (0 : Int32) = 6) (br_f (by decide +kernel : ¬ (0 : Int32) = 7) (br_f (by decide +kernel : ¬ (0 : Int32) = 8) (br_f (by decide +kernel : ¬ (0 : Int32) = 9) (br_f (by decide +kernel : ¬ (0 : Int32) = 10) (H))))))))
theorem uw_yb1 (hst : st < 300) (hn : vp_in nxy 60) (hk : kd nxy.toNatClampNeg = 1) (ht : vp_in (tg nxy.toNatClampNeg) 4) (H : post (dpt, opn, -1, 0, 0, cal, eng, thr, nI (st + 1), ots, dps, kd, tg, op, fs, sc, zs, sk, ar, ld, oN, oP, oW, oV, upd hd (tg nxy.toNatClampNeg).toNatClampNeg (op nxy.toNatClampNeg), upd tb nxy.toNatClampNeg (tb nxy.toNatClampNeg + 1), po)) : wpY_begin post (dpt, opn, nxy, way, wth, cal, eng, thr, nI st, ots, dps, kd, tg, op, fs, sc, zs, sk, ar, ld, oN, oP, oW, oV, hd, tb, po) := by
  have h80 : vp_in nxy 80 := uw_in hn (by omega)
  have h10 : ¬ (10 : Int32) < kd nxy.toNatClampNeg := by rw [hk]; decide +kernel
  refine br_f (uw_3e st hst) (nm_r (nI_1 st) ⟨hn, hn, nm_e ⟨h80, br_f h10 ⟨h80, h80, h80, ?_⟩⟩⟩)
  rw [hk]
  dsimp only [wpY_simply, wpY_endAs]
  exact br_t rfl ⟨ht, nm_e (br_t (by decide +kernel : (1 : Int32) < 2) (br_f (by decide +kernel : ¬ (1 : Int32) = 5) (br_f (by decide +kernel : ¬ (1 : Int32) = 6) (br_f (by decide +kernel : ¬ (1 : Int32) = 7) (br_f (by decide +kernel : ¬ (1 : Int32) = 8) (br_f (by decide +kernel : ¬ (1 : Int32) = 9) (br_f (by decide +kernel : ¬ (1 : Int32) = 10) (H))))))))⟩
theorem uw_yb2 (hst : st < 300) (hn : vp_in nxy 60) (hk : kd nxy.toNatClampNeg = 2) (ht : vp_in (tg nxy.toNatClampNeg) 4) (ho : vp_in (op nxy.toNatClampNeg) 4) (H : post (dpt, opn, -1, 0, 0, cal, eng, thr, nI (st + 1), ots, dps, kd, tg, op, fs, sc, zs, sk, ar, ld, oN, oP, oW, oV, upd hd (tg nxy.toNatClampNeg).toNatClampNeg (hd (tg nxy.toNatClampNeg).toNatClampNeg + hd (op nxy.toNatClampNeg).toNatClampNeg), upd tb nxy.toNatClampNeg (tb nxy.toNatClampNeg + 1), po)) : wpY_begin post (dpt, opn, nxy, way, wth, cal, eng, thr, nI st, ots, dps, kd, tg, op, fs, sc, zs, sk, ar, ld, oN, oP, oW, oV, hd, tb, po) := by
  have h80 : vp_in nxy 80 := uw_in hn (by omega)
  have h10 : ¬ (10 : Int32) < kd nxy.toNatClampNeg := by rw [hk]; decide +kernel
  refine br_f (uw_3e st hst) (nm_r (nI_1 st) ⟨hn, hn, nm_e ⟨h80, br_f h10 ⟨h80, h80, h80, ?_⟩⟩⟩)
  rw [hk]
  dsimp only [wpY_simply, wpY_endAs]
  exact br_f (by decide +kernel : ¬ (2 : Int32) = 1) (br_f (by decide +kernel : ¬ (2 : Int32) < 2) (br_f (by decide +kernel : ¬ (4 : Int32) < 2) ⟨ht, ho, br_t rfl (⟨ht, nm_e (br_f (by decide +kernel : ¬ (2 : Int32) = 5) (br_f (by decide +kernel : ¬ (2 : Int32) = 6) (br_f (by decide +kernel : ¬ (2 : Int32) = 7) (br_f (by decide +kernel : ¬ (2 : Int32) = 8) (br_f (by decide +kernel : ¬ (2 : Int32) = 9) (br_f (by decide +kernel : ¬ (2 : Int32) = 10) (H)))))))⟩)⟩))
theorem uw_yb3 (hst : st < 300) (hn : vp_in nxy 60) (hk : kd nxy.toNatClampNeg = 3) (ht : vp_in (tg nxy.toNatClampNeg) 4) (ho : vp_in (op nxy.toNatClampNeg) 4) (H : post (dpt, opn, -1, 0, 0, cal, eng, thr, nI (st + 1), ots, dps, kd, tg, op, fs, sc, zs, sk, ar, ld, oN, oP, oW, oV, upd hd (tg nxy.toNatClampNeg).toNatClampNeg (hd (tg nxy.toNatClampNeg).toNatClampNeg - hd (op nxy.toNatClampNeg).toNatClampNeg), upd tb nxy.toNatClampNeg (tb nxy.toNatClampNeg + 1), po)) : wpY_begin post (dpt, opn, nxy, way, wth, cal, eng, thr, nI st, ots, dps, kd, tg, op, fs, sc, zs, sk, ar, ld, oN, oP, oW, oV, hd, tb, po) := by
  have h80 : vp_in nxy 80 := uw_in hn (by omega)
  have h10 : ¬ (10 : Int32) < kd nxy.toNatClampNeg := by rw [hk]; decide +kernel
  refine br_f (uw_3e st hst) (nm_r (nI_1 st) ⟨hn, hn, nm_e ⟨h80, br_f h10 ⟨h80, h80, h80, ?_⟩⟩⟩)
  rw [hk]
  dsimp only [wpY_simply, wpY_endAs]
  exact br_f (by decide +kernel : ¬ (3 : Int32) = 1) (br_f (by decide +kernel : ¬ (3 : Int32) < 2) (br_f (by decide +kernel : ¬ (4 : Int32) < 3) ⟨ht, ho, br_f (by decide +kernel : ¬ (3 : Int32) = 2) (br_t rfl (⟨ht, nm_e (br_f (by decide +kernel : ¬ (3 : Int32) = 5) (br_f (by decide +kernel : ¬ (3 : Int32) = 6) (br_f (by decide +kernel : ¬ (3 : Int32) = 7) (br_f (by decide +kernel : ¬ (3 : Int32) = 8) (br_f (by decide +kernel : ¬ (3 : Int32) = 9) (br_f (by decide +kernel : ¬ (3 : Int32) = 10) (H)))))))⟩))⟩))
theorem uw_yb4 (hst : st < 300) (hn : vp_in nxy 60) (hk : kd nxy.toNatClampNeg = 4) (ht : vp_in (tg nxy.toNatClampNeg) 4) (ho : vp_in (op nxy.toNatClampNeg) 4) (H : post (dpt, opn, -1, 0, 0, cal, eng, thr, nI (st + 1), ots, dps, kd, tg, op, fs, sc, zs, sk, ar, ld, oN, oP, oW, oV, upd hd (tg nxy.toNatClampNeg).toNatClampNeg (hd (tg nxy.toNatClampNeg).toNatClampNeg * hd (op nxy.toNatClampNeg).toNatClampNeg), upd tb nxy.toNatClampNeg (tb nxy.toNatClampNeg + 1), po)) : wpY_begin post (dpt, opn, nxy, way, wth, cal, eng, thr, nI st, ots, dps, kd, tg, op, fs, sc, zs, sk, ar, ld, oN, oP, oW, oV, hd, tb, po) := by
  have h80 : vp_in nxy 80 := uw_in hn (by omega)
  have h10 : ¬ (10 : Int32) < kd nxy.toNatClampNeg := by rw [hk]; decide +kernel
  refine br_f (uw_3e st hst) (nm_r (nI_1 st) ⟨hn, hn, nm_e ⟨h80, br_f h10 ⟨h80, h80, h80, ?_⟩⟩⟩)
  rw [hk]
  dsimp only [wpY_simply, wpY_endAs]
  exact br_f (by decide +kernel : ¬ (4 : Int32) = 1) (br_f (by decide +kernel : ¬ (4 : Int32) < 2) (br_f (by decide +kernel : ¬ (4 : Int32) < 4) ⟨ht, ho, br_f (by decide +kernel : ¬ (4 : Int32) = 2) (br_f (by decide +kernel : ¬ (4 : Int32) = 3) (⟨ht, nm_e (br_f (by decide +kernel : ¬ (4 : Int32) = 5) (br_f (by decide +kernel : ¬ (4 : Int32) = 6) (br_f (by decide +kernel : ¬ (4 : Int32) = 7) (br_f (by decide +kernel : ¬ (4 : Int32) = 8) (br_f (by decide +kernel : ¬ (4 : Int32) = 9) (br_f (by decide +kernel : ¬ (4 : Int32) = 10) (H)))))))⟩))⟩))
theorem uw_yb5 (hst : st < 300) (hn : vp_in nxy 60) (hk : kd nxy.toNatClampNeg = 5) (ht : vp_in (tg nxy.toNatClampNeg) 4) (hpc : pc < 300) (H : post (dpt, opn, -1, 0, 0, cal, eng, thr, nI (st + 1), nI (pc + 1), dps, kd, tg, op, fs, sc, zs, sk, ar, ld, oN, oP, oW, oV, hd, upd tb nxy.toNatClampNeg (tb nxy.toNatClampNeg + 1), upd po pc (hd (tg nxy.toNatClampNeg).toNatClampNeg))) : wpY_begin post (dpt, opn, nxy, way, wth, cal, eng, thr, nI st, nI pc, dps, kd, tg, op, fs, sc, zs, sk, ar, ld, oN, oP, oW, oV, hd, tb, po) := by
  have h80 : vp_in nxy 80 := uw_in hn (by omega)
  have h10 : ¬ (10 : Int32) < kd nxy.toNatClampNeg := by rw [hk]; decide +kernel
  have cp : (nI pc).toNatClampNeg = pc := nI_clamp (by omega)
  refine br_f (uw_3e st hst) (nm_r (nI_1 st) ⟨hn, hn, nm_e ⟨h80, br_f h10 ⟨h80, h80, h80, ?_⟩⟩⟩)
  rw [hk]
  dsimp only [wpY_simply, wpY_endAs]
  exact br_f (by decide +kernel : ¬ (5 : Int32) = 1) (br_f (by decide +kernel : ¬ (5 : Int32) < 2) (br_t (by decide +kernel : (4 : Int32) < 5) (br_t rfl ⟨ht, vp_in_nI (by omega) (by omega), nm_r (congrArg (fun q => upd po q (hd (tg nxy.toNatClampNeg).toNatClampNeg)) cp) (nm_r (nI_1 pc) (br_f (by decide +kernel : ¬ (5 : Int32) = 6) (br_f (by decide +kernel : ¬ (5 : Int32) = 7) (br_f (by decide +kernel : ¬ (5 : Int32) = 8) (br_f (by decide +kernel : ¬ (5 : Int32) = 9) (br_f (by decide +kernel : ¬ (5 : Int32) = 10) (H)))))))⟩)))
theorem uw_yb6 (hst : st < 300) (hn : vp_in nxy 60) (hk : kd nxy.toNatClampNeg = 6) (ht : vp_in (tg nxy.toNatClampNeg) 4) (H : post (dpt, opn, -1, 1, hd (tg nxy.toNatClampNeg).toNatClampNeg, cal, eng, thr, nI (st + 1), ots, dps, kd, tg, op, fs, sc, zs, sk, ar, ld, oN, oP, oW, oV, hd, upd tb nxy.toNatClampNeg (tb nxy.toNatClampNeg + 1), po)) : wpY_begin post (dpt, opn, nxy, way, wth, cal, eng, thr, nI st, ots, dps, kd, tg, op, fs, sc, zs, sk, ar, ld, oN, oP, oW, oV, hd, tb, po) := by
  have h80 : vp_in nxy 80 := uw_in hn (by omega)
  have h10 : ¬ (10 : Int32) < kd nxy.toNatClampNeg := by rw [hk]; decide +kernel
  refine br_f (uw_3e st hst) (nm_r (nI_1 st) ⟨hn, hn, nm_e ⟨h80, br_f h10 ⟨h80, h80, h80, ?_⟩⟩⟩)
  rw [hk]
  dsimp only [wpY_simply, wpY_endAs]
  exact br_f (by decide +kernel : ¬ (6 : Int32) = 1) (br_f (by decide +kernel : ¬ (6 : Int32) < 2) (br_t (by decide +kernel : (4 : Int32) < 6) (br_f (by decide +kernel : ¬ (6 : Int32) = 5) (br_t rfl ⟨ht, br_f (by decide +kernel : ¬ (6 : Int32) = 7) (br_f (by decide +kernel : ¬ (6 : Int32) = 8) (br_f (by decide +kernel : ¬ (6 : Int32) = 9) (br_f (by decide +kernel : ¬ (6 : Int32) = 10) (H))))⟩))))
theorem uw_yb7 (hst : st < 300) (hn : vp_in nxy 60) (hk : kd nxy.toNatClampNeg = 7) (H : post (dpt, opn, -1, 2, (op nxy.toNatClampNeg), cal, eng, thr, nI (st + 1), ots, dps, kd, tg, op, fs, sc, zs, sk, ar, ld, oN, oP, oW, oV, hd, upd tb nxy.toNatClampNeg (tb nxy.toNatClampNeg + 1), po)) : wpY_begin post (dpt, opn, nxy, way, wth, cal, eng, thr, nI st, ots, dps, kd, tg, op, fs, sc, zs, sk, ar, ld, oN, oP, oW, oV, hd, tb, po) := by
  have h80 : vp_in nxy 80 := uw_in hn (by omega)
  have h10 : ¬ (10 : Int32) < kd nxy.toNatClampNeg := by rw [hk]; decide +kernel
  refine br_f (uw_3e st hst) (nm_r (nI_1 st) ⟨hn, hn, nm_e ⟨h80, br_f h10 ⟨h80, h80, h80, ?_⟩⟩⟩)
  rw [hk]
  dsimp only [wpY_simply, wpY_endAs]
  exact br_f (by decide +kernel : ¬ (7 : Int32) = 1) (br_f (by decide +kernel : ¬ (7 : Int32) < 2) (br_t (by decide +kernel : (4 : Int32) < 7) (br_f (by decide +kernel : ¬ (7 : Int32) = 5) (br_f (by decide +kernel : ¬ (7 : Int32) = 6) (br_t rfl (br_f (by decide +kernel : ¬ (7 : Int32) = 8) (br_f (by decide +kernel : ¬ (7 : Int32) = 9) (br_f (by decide +kernel : ¬ (7 : Int32) = 10) (H)))))))))
theorem uw_yb8 (hst : st < 300) (hn : vp_in nxy 60) (hk : kd nxy.toNatClampNeg = 8) (H : post (dpt, opn, -1, 3, (op nxy.toNatClampNeg), cal, eng, thr, nI (st + 1), ots, dps, kd, tg, op, fs, sc, zs, sk, ar, ld, oN, oP, oW, oV, hd, upd tb nxy.toNatClampNeg (tb nxy.toNatClampNeg + 1), po)) : wpY_begin post (dpt, opn, nxy, way, wth, cal, eng, thr, nI st, ots, dps, kd, tg, op, fs, sc, zs, sk, ar, ld, oN, oP, oW, oV, hd, tb, po) := by
  have h80 : vp_in nxy 80 := uw_in hn (by omega)
  have h10 : ¬ (10 : Int32) < kd nxy.toNatClampNeg := by rw [hk]; decide +kernel
  refine br_f (uw_3e st hst) (nm_r (nI_1 st) ⟨hn, hn, nm_e ⟨h80, br_f h10 ⟨h80, h80, h80, ?_⟩⟩⟩)
  rw [hk]
  dsimp only [wpY_simply, wpY_endAs]
  exact br_f (by decide +kernel : ¬ (8 : Int32) = 1) (br_f (by decide +kernel : ¬ (8 : Int32) < 2) (br_t (by decide +kernel : (4 : Int32) < 8) (br_f (by decide +kernel : ¬ (8 : Int32) = 5) (br_f (by decide +kernel : ¬ (8 : Int32) = 6) (br_f (by decide +kernel : ¬ (8 : Int32) = 7) (br_t rfl (br_f (by decide +kernel : ¬ (8 : Int32) = 9) (br_f (by decide +kernel : ¬ (8 : Int32) = 10) (H)))))))))
theorem uw_yb9 (hst : st < 300) (hn : vp_in nxy 60) (hk : kd nxy.toNatClampNeg = 9) (H : post (dpt, opn, -1, 4, 0, cal, eng, thr, nI (st + 1), ots, dps, kd, tg, op, fs, sc, zs, sk, ar, ld, oN, oP, oW, oV, hd, upd tb nxy.toNatClampNeg (tb nxy.toNatClampNeg + 1), po)) : wpY_begin post (dpt, opn, nxy, way, wth, cal, eng, thr, nI st, ots, dps, kd, tg, op, fs, sc, zs, sk, ar, ld, oN, oP, oW, oV, hd, tb, po) := by
  have h80 : vp_in nxy 80 := uw_in hn (by omega)
  have h10 : ¬ (10 : Int32) < kd nxy.toNatClampNeg := by rw [hk]; decide +kernel
  refine br_f (uw_3e st hst) (nm_r (nI_1 st) ⟨hn, hn, nm_e ⟨h80, br_f h10 ⟨h80, h80, h80, ?_⟩⟩⟩)
  rw [hk]
  dsimp only [wpY_simply, wpY_endAs]
  exact br_f (by decide +kernel : ¬ (9 : Int32) = 1) (br_f (by decide +kernel : ¬ (9 : Int32) < 2) (br_t (by decide +kernel : (4 : Int32) < 9) (br_f (by decide +kernel : ¬ (9 : Int32) = 5) (br_f (by decide +kernel : ¬ (9 : Int32) = 6) (br_f (by decide +kernel : ¬ (9 : Int32) = 7) (br_f (by decide +kernel : ¬ (9 : Int32) = 8) (br_t rfl (br_f (by decide +kernel : ¬ (9 : Int32) = 10) (H)))))))))
end
