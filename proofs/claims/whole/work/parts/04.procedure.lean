/-! procedure: the two searches for loops go down in step; the two copies go up in step -/
variable {std mde pct stp opc mop lou lth rng nxt edg edn frm dpt opn nxy way wth cal eng thr sts ots dps : Int32} {kd tg op fs sc sz sk wa ld hd tb po fS fE fN zs ar oN oP oW oV : Nat → Int32}
def uw_dn (c : Nat) : Int32 := match c with
  | 0 => -1
  | c + 1 => nI c
theorem uw_dn1 (c : Nat) : nI c + (-1) = uw_dn c := by
  cases c with
  | zero => decide +kernel
  | succ c => exact pk_m1 c
theorem uw_ne {x : Int32} {a : Nat} (j : Nat) (hx : x = nI a) (ha : a < 2 ^ 31) (hj : j < 2 ^ 31) (h : a ≠ j) : ¬ x = nI j := by
  subst hx; exact fun z => h ((nI_eq ha hj).mp z)
theorem uw_o1 {o w : Int32} (h : vp_in o 4) : o + 1 ≤ w ↔ o < w := by
  obtain ⟨j, hj, rfl⟩ := vp_in_of h (by decide)
  rw [nI_1, Int32.le_iff_toInt_le, Int32.lt_iff_toInt_lt, nI_toInt (by omega), nI_toInt (by omega)]
  omega
def uw_bad (a : Nat) (o w : Int32) : Prop := (a = 7 ∨ a = 8) ∧ ¬ o < w
def uw_nw (a : Nat) (f s : Int32) (c : Nat) (w : Nat → Int32) : Nat → Int32 := if a = 11 then upd w f.toNatClampNeg (w c + 1) else if 12 ≤ a then upd (upd w f.toNatClampNeg (w c)) s.toNatClampNeg (w c) else w
theorem uw_nw0 {a c : Nat} {f s : Int32} {w : Nat → Int32} (h : a ≤ 10) : uw_nw a f s c w = w := by
  unfold uw_nw; rw [if_neg (by omega), if_neg (by omega)]
theorem uw_nw1 {a c : Nat} {f s : Int32} {w : Nat → Int32} (h : a = 11) : uw_nw a f s c w = upd w f.toNatClampNeg (w c + 1) := by
  unfold uw_nw; rw [if_pos h]
theorem uw_nw2 {a c : Nat} {f s : Int32} {w : Nat → Int32} (h : 12 ≤ a) : uw_nw a f s c w = upd (upd w f.toNatClampNeg (w c)) s.toNatClampNeg (w c) := by
  unfold uw_nw; rw [if_neg (by omega), if_pos h]
section
variable {post : Int32 → SX → Prop} {n c a : Nat}
theorem uw_x71 (hc : c < 20) (ha : a < 16) (hk : kd (60 + c) = nI a) (hf : vp_in (fs (60 + c)) 20) (hs : vp_in (sc (60 + c)) 20) (K : wX_hasLoopsEnough_19 post std mde pct stp opc mop lou lth rng nxt edg edn frm n (uw_dn c) kd tg op fs sc sz sk (uw_nw a (fs (60 + c)) (sc (60 + c)) c wa) ld hd tb po fS fE fN) : wX_hasLoopsEnough_71 post (wX_hasLoopsEnough_19 post std mde pct stp opc mop lou lth rng nxt edg edn frm n) (nI c) (nI (60 + c)) (wa c) std mde pct stp opc mop lou lth rng nxt edg edn frm kd tg op fs sc sz sk wa ld hd tb po fS fE fN := by
  have i80 : vp_in (nI (60 + c)) 80 := vp_in_nI (by omega) (by omega)
  have c60 : (nI (60 + c)).toNatClampNeg = 60 + c := nI_clamp (by omega)
  unfold wX_hasLoopsEnough_71
  rw [c60]
  refine ⟨i80, ?_⟩
  by_cases h11 : a = 11
  · rw [uw_nw1 h11] at K
    exact br_t (by rw [hk, h11]; rfl) ⟨i80, hf, nm_e (nm_r (uw_dn1 c) K)⟩
  · refine br_f (uw_ne 11 hk (by omega) (by decide) h11) ⟨i80, ?_⟩
    by_cases h12 : a < 12
    · rw [uw_nw0 (by omega)] at K
      exact br_t (by rw [hk]; exact nI_lt (b := 12) h12 (by decide)) (nm_r (uw_dn1 c) K)
    · rw [uw_nw2 (by omega)] at K
      exact br_f (by rw [hk]; exact nI_nlt (b := 12) (by omega) (by omega)) ⟨i80, hf, nm_e ⟨i80, hs, nm_e (nm_r (uw_dn1 c) K)⟩⟩
theorem uw_xl_go (hc : c < 20) (ha : a < 16) (hk : kd (60 + c) = nI a) (ho : a = 7 ∨ a = 8 → vp_in (op (60 + c)) 4) (hf : vp_in (fs (60 + c)) 20) (hs : vp_in (sc (60 + c)) 20) (hb : ¬ uw_bad a (op (60 + c)) (wa c)) (K : wX_hasLoopsEnough_19 post std mde pct stp opc mop lou lth rng nxt edg edn frm n (uw_dn c) kd tg op fs sc sz sk (uw_nw a (fs (60 + c)) (sc (60 + c)) c wa) ld hd tb po fS fE fN) : wX_hasLoopsEnough_19 post std mde pct stp opc mop lou lth rng nxt edg edn frm (n + 1) (nI c) kd tg op fs sc sz sk wa ld hd tb po fS fE fN := by
  have h0 : ¬ nI c < 0 := nI_pos (by omega)
  have e60 : (60 : Int32) + nI c = nI (60 + c) := nI_add 60 c
  have i80 : vp_in (nI (60 + c)) 80 := vp_in_nI (by omega) (by omega)
  have c60 : (nI (60 + c)).toNatClampNeg = 60 + c := nI_clamp (by omega)
  have i20 : vp_in (nI c) 20 := vp_in_nI (by omega) (by omega)
  have cc : (nI c).toNatClampNeg = c := nI_clamp (by omega)
  have hk' : kd (nI (60 + c)).toNatClampNeg = nI a := by rw [c60]; exact hk
  have G := uw_x71 hc ha hk hf hs K
  by_cases h7 : a = 7
  · have hw : op (nI (60 + c)).toNatClampNeg + 1 ≤ wa c := by
      rw [c60, uw_o1 (ho (Or.inl h7))]
      exact Classical.byContradiction fun z => hb ⟨Or.inl h7, z⟩
    exact br_f h0 (nm_r e60 ⟨i20, nm_r (congrArg wa cc) ⟨i80, br_t (by rw [hk', h7]; rfl) ⟨i80, br_t hw G⟩⟩⟩)
  · by_cases h8 : a = 8
    · have hw : op (nI (60 + c)).toNatClampNeg + 1 ≤ wa c := by
        rw [c60, uw_o1 (ho (Or.inr h8))]
        exact Classical.byContradiction fun z => hb ⟨Or.inr h8, z⟩
      exact br_f h0 (nm_r e60 ⟨i20, nm_r (congrArg wa cc) ⟨i80, br_f (uw_ne 7 hk' (by omega) (by decide) h7) ⟨i80, br_t (by rw [hk', h8]; rfl) ⟨i80, br_t hw G⟩⟩⟩⟩)
    · exact br_f h0 (nm_r e60 ⟨i20, nm_r (congrArg wa cc) ⟨i80, br_f (uw_ne 7 hk' (by omega) (by decide) h7) ⟨i80, br_f (uw_ne 8 hk' (by omega) (by decide) h8) G⟩⟩⟩)
theorem uw_xl_no (hc : c < 20) (ha : a < 16) (hk : kd (60 + c) = nI a) (ho : a = 7 ∨ a = 8 → vp_in (op (60 + c)) 4) (hb : uw_bad a (op (60 + c)) (wa c)) (K : post 0 (std, mde, pct, stp, opc, mop, lou, lth, rng, nxt, edg, edn, frm, kd, tg, op, fs, sc, sz, sk, wa, ld, hd, tb, po, fS, fE, fN)) : wX_hasLoopsEnough_19 post std mde pct stp opc mop lou lth rng nxt edg edn frm (n + 1) (nI c) kd tg op fs sc sz sk wa ld hd tb po fS fE fN := by
  have h0 : ¬ nI c < 0 := nI_pos (by omega)
  have e60 : (60 : Int32) + nI c = nI (60 + c) := nI_add 60 c
  have i80 : vp_in (nI (60 + c)) 80 := vp_in_nI (by omega) (by omega)
  have c60 : (nI (60 + c)).toNatClampNeg = 60 + c := nI_clamp (by omega)
  have i20 : vp_in (nI c) 20 := vp_in_nI (by omega) (by omega)
  have cc : (nI c).toNatClampNeg = c := nI_clamp (by omega)
  have hk' : kd (nI (60 + c)).toNatClampNeg = nI a := by rw [c60]; exact hk
  have hw : ¬ op (nI (60 + c)).toNatClampNeg + 1 ≤ wa c := by
    rw [c60, uw_o1 (ho hb.1)]; exact hb.2
  by_cases h7 : a = 7
  · exact br_f h0 (nm_r e60 ⟨i20, nm_r (congrArg wa cc) ⟨i80, br_t (by rw [hk', h7]; rfl) ⟨i80, br_f hw K⟩⟩⟩)
  · have h8 : a = 8 := by have := hb.1; omega
    exact br_f h0 (nm_r e60 ⟨i20, nm_r (congrArg wa cc) ⟨i80, br_f (uw_ne 7 hk' (by omega) (by decide) h7) ⟨i80, br_t (by rw [hk', h8]; rfl) ⟨i80, br_f hw K⟩⟩⟩⟩)
end
section
variable {post : Int32 → SY → Prop} {n c a : Nat} {x2 x3 : Int32}
theorem uw_y105 {w : Int32} (hc : c < 20) (ha : a < 16) (K1 : ¬ uw_bad a (op (60 + c)) w → wY_loopsFit_22 post dpt opn nxy way wth cal eng thr sts ots dps n x2 (uw_dn c) kd tg op fs sc zs sk ar ld oN oP oW oV hd tb po) (K0 : uw_bad a (op (60 + c)) w → wY_loopsFit_22 post dpt opn nxy way wth cal eng thr sts ots dps n 0 (uw_dn c) kd tg op fs sc zs sk ar ld oN oP oW oV hd tb po) : wY_loopsFit_105 post (wY_loopsFit_22 post dpt opn nxy way wth cal eng thr sts ots dps n) x2 (nI c) (nI a) w dpt opn nxy way wth cal eng thr sts ots dps kd tg op fs sc zs sk ar ld oN oP oW oV hd tb po := by
  have e60 : (60 : Int32) + nI c = nI (60 + c) := nI_add 60 c
  have i80 : vp_in (60 + nI c) 80 := by rw [e60]; exact vp_in_nI (by omega) (by omega)
  have c60 : (60 + nI c).toNatClampNeg = 60 + c := by rw [e60]; exact nI_clamp (by omega)
  have G : a = 7 ∨ a = 8 → wY_loopsFit_119 post (wY_loopsFit_22 post dpt opn nxy way wth cal eng thr sts ots dps n) x2 (nI c) w dpt opn nxy way wth cal eng thr sts ots dps kd tg op fs sc zs sk ar ld oN oP oW oV hd tb po := by
    intro h
    by_cases hl : op (60 + nI c).toNatClampNeg < w
    · exact ⟨i80, br_t hl (nm_r (uw_dn1 c) (K1 fun z => z.2 (by rw [c60] at hl; exact hl)))⟩
    · exact ⟨i80, br_f hl (nm_r (uw_dn1 c) (K0 ⟨h, by rw [c60] at hl; exact hl⟩))⟩
  by_cases h7 : a = 7
  · exact br_t (by rw [h7]; rfl) (G (Or.inl h7))
  · by_cases h8 : a = 8
    · exact br_f (uw_ne 7 rfl (by omega) (by decide) h7) (br_t (by rw [h8]; rfl) (G (Or.inr h8)))
    · exact br_f (uw_ne 7 rfl (by omega) (by decide) h7) (br_f (uw_ne 8 rfl (by omega) (by decide) h8) (nm_r (uw_dn1 c) (K1 fun z => by have := z.1; omega)))
theorem uw_y82 {w : Int32} (hc : c < 20) (ha : a < 16) (hs : vp_in (sc (60 + c)) 20) (K1 : ¬ uw_bad a (op (60 + c)) w → wY_loopsFit_22 post dpt opn nxy way wth cal eng thr sts ots dps n x2 (uw_dn c) kd tg op fs sc zs sk (if 12 ≤ a then upd ar (sc (60 + c)).toNatClampNeg w else ar) ld oN oP oW oV hd tb po) (K0 : uw_bad a (op (60 + c)) w → wY_loopsFit_22 post dpt opn nxy way wth cal eng thr sts ots dps n 0 (uw_dn c) kd tg op fs sc zs sk (if 12 ≤ a then upd ar (sc (60 + c)).toNatClampNeg w else ar) ld oN oP oW oV hd tb po) : wY_loopsFit_82 post (wY_loopsFit_22 post dpt opn nxy way wth cal eng thr sts ots dps n) x2 (nI c) (nI a) w dpt opn nxy way wth cal eng thr sts ots dps kd tg op fs sc zs sk ar ld oN oP oW oV hd tb po := by
  have e60 : (60 : Int32) + nI c = nI (60 + c) := nI_add 60 c
  have i80 : vp_in (60 + nI c) 80 := by rw [e60]; exact vp_in_nI (by omega) (by omega)
  have c60 : (60 + nI c).toNatClampNeg = 60 + c := by rw [e60]; exact nI_clamp (by omega)
  by_cases h : a ≤ 11
  · rw [if_neg (by omega)] at K1 K0
    exact br_t (nI_le (b := 11) h (by decide)) (uw_y105 hc ha K1 K0)
  · rw [if_pos (by omega)] at K1 K0
    refine br_f (nI_ge (a := 11) (by omega) (by omega)) ⟨i80, ?_⟩
    rw [c60]
    exact ⟨hs, nm_e (uw_y105 hc ha K1 K0)⟩
theorem uw_yl (hc : c < 20) (ha : a < 16) (hk : kd (60 + c) = nI a) (hf : vp_in (fs (60 + c)) 20) (hs : vp_in (sc (60 + c)) 20) (K1 : ¬ uw_bad a (op (60 + c)) (ar c) → wY_loopsFit_22 post dpt opn nxy way wth cal eng thr sts ots dps n x2 (uw_dn c) kd tg op fs sc zs sk (uw_nw a (fs (60 + c)) (sc (60 + c)) c ar) ld oN oP oW oV hd tb po) (K0 : uw_bad a (op (60 + c)) (ar c) → wY_loopsFit_22 post dpt opn nxy way wth cal eng thr sts ots dps n 0 (uw_dn c) kd tg op fs sc zs sk (uw_nw a (fs (60 + c)) (sc (60 + c)) c ar) ld oN oP oW oV hd tb po) : wY_loopsFit_22 post dpt opn nxy way wth cal eng thr sts ots dps (n + 1) x2 (nI c) kd tg op fs sc zs sk ar ld oN oP oW oV hd tb po := by
  have h0 : ¬ nI c < 0 := nI_pos (by omega)
  have e60 : (60 : Int32) + nI c = nI (60 + c) := nI_add 60 c
  have i80 : vp_in (60 + nI c) 80 := by rw [e60]; exact vp_in_nI (by omega) (by omega)
  have c60 : (60 + nI c).toNatClampNeg = 60 + c := by rw [e60]; exact nI_clamp (by omega)
  have i20 : vp_in (nI c) 20 := vp_in_nI (by omega) (by omega)
  have cc : (nI c).toNatClampNeg = c := nI_clamp (by omega)
  have hk' : kd (60 + nI c).toNatClampNeg = nI a := by rw [c60]; exact hk
  refine br_f h0 ⟨i80, nm_r hk' ⟨i20, nm_r (congrArg ar cc) ?_⟩⟩
  by_cases h : a ≤ 10
  · rw [uw_nw0 h] at K1 K0
    refine br_t (nI_le (b := 10) h (by decide)) (uw_y82 hc ha hs ?_ ?_)
    · rw [if_neg (by omega)]; exact K1
    · rw [if_neg (by omega)]; exact K0
  · refine br_f (nI_ge (a := 10) (by omega) (by omega)) ⟨i80, ?_⟩
    rw [c60]
    by_cases h11 : a = 11
    · rw [uw_nw1 h11] at K1 K0
      refine br_t (by rw [h11]; rfl) ⟨hf, nm_e (uw_y82 hc ha hs ?_ ?_)⟩
      · rw [if_neg (by omega)]; exact K1
      · rw [if_neg (by omega)]; exact K0
    · rw [uw_nw2 (by omega)] at K1 K0
      refine br_f (uw_ne 11 rfl (by omega) (by decide) h11) ⟨hf, nm_e (uw_y82 hc ha hs ?_ ?_)⟩
      · rw [if_pos (by omega)]; exact K1
      · rw [if_pos (by omega)]; exact K0
end
theorem uw_yfit0 (T : uw_T kd tg op fs sc) : ∀ (c : Nat) (ar : Nat → Int32), c ≤ 20 → ∃ ar' : Nat → Int32, ∀ (post : Int32 → SY → Prop) (n : Nat), c < n → post 0 (dpt, opn, nxy, way, wth, cal, eng, thr, sts, ots, dps, kd, tg, op, fs, sc, zs, sk, ar', ld, oN, oP, oW, oV, hd, tb, po) → wY_loopsFit_22 post dpt opn nxy way wth cal eng thr sts ots dps n 0 (uw_dn c) kd tg op fs sc zs sk ar ld oN oP oW oV hd tb po := by
  intro c
  induction c with
  | zero =>
    intro ar _
    refine ⟨ar, fun post n hn H => ?_⟩
    obtain ⟨n, rfl⟩ : ∃ q, n = q + 1 := ⟨n - 1, by omega⟩
    exact br_t (by decide +kernel : (-1 : Int32) < 0) ⟨uw_nb0, H⟩
  | succ c ih =>
    intro ar hc
    obtain ⟨a, ha, hk, _, _, _, hf, hs⟩ := T (60 + c) (by omega)
    obtain ⟨ar', h⟩ := ih (uw_nw a (fs (60 + c)) (sc (60 + c)) c ar) (by omega)
    refine ⟨ar', fun post n hn H => ?_⟩
    obtain ⟨n, rfl⟩ : ∃ q, n = q + 1 := ⟨n - 1, by omega⟩
    exact uw_yl (by omega) ha hk hf hs (fun _ => h post n (by omega) H) (fun _ => h post n (by omega) H)
/-- cells that are equal, or written now, are equal afterwards -/
theorem uw_nw_eq {a c j : Nat} {f s : Int32} (hj : j < 20) (e : wa c = ar c) (h : wa j = ar j ∨ (a = 11 ∧ f = nI j) ∨ (12 ≤ a ∧ (f = nI j ∨ s = nI j))) : uw_nw a f s c wa j = uw_nw a f s c ar j := by
  have cj : (nI j).toNatClampNeg = j := nI_clamp (by omega)
  by_cases h10 : a ≤ 10
  · rw [uw_nw0 h10, uw_nw0 h10]
    rcases h with h | h | h
    · exact h
    · omega
    · omega
  · by_cases h11 : a = 11
    · rw [uw_nw1 h11, uw_nw1 h11, e]
      by_cases hf : j = f.toNatClampNeg
      · rw [← hf, pk_us, pk_us]
      · rw [pk_un hf, pk_un hf]
        rcases h with h | h | h
        · exact h
        · exact absurd (by rw [h.2, cj]) hf
        · omega
    · rw [uw_nw2 (by omega), uw_nw2 (by omega), e]
      by_cases hs : j = s.toNatClampNeg
      · rw [← hs, pk_us, pk_us]
      · rw [pk_un hs, pk_un hs]
        by_cases hf : j = f.toNatClampNeg
        · rw [← hf, pk_us, pk_us]
        · rw [pk_un hf, pk_un hf]
          rcases h with h | h | h
          · exact h
          · omega
          · rcases h.2 with h | h
            · exact absurd (by rw [h, cj]) hf
            · exact absurd (by rw [h, cj]) hs
def uw_L (m c : Nat) (kd fs sc wa ar : Nat → Int32) : Prop := ∀ j, j < c → (j + 1 = m ∨ ∃ k, c ≤ k ∧ k < m ∧ uw_P kd fs sc k j) → wa j = ar j
theorem uw_fit {m : Nat} (T : uw_T kd tg op fs sc) (hm : m ≤ 20) (hD : ∀ j, j + 1 < m → ∃ k, j < k ∧ k < m ∧ uw_P kd fs sc k j) : ∀ (c : Nat) (wa ar : Nat → Int32), c ≤ m → uw_L m c kd fs sc wa ar → ∃ (r : Int32) (wa' ar' : Nat → Int32), (r = 0 ∨ r = 1) ∧ (∀ (post : Int32 → SX → Prop) (n : Nat), c < n → post r (std, mde, pct, stp, opc, mop, lou, lth, rng, nxt, edg, edn, frm, kd, tg, op, fs, sc, sz, sk, wa', ld, hd, tb, po, fS, fE, fN) → wX_hasLoopsEnough_19 post std mde pct stp opc mop lou lth rng nxt edg edn frm n (uw_dn c) kd tg op fs sc sz sk wa ld hd tb po fS fE fN) ∧ (∀ (post : Int32 → SY → Prop) (n : Nat), c < n → post r (dpt, opn, nxy, way, wth, cal, eng, thr, sts, ots, dps, kd, tg, op, fs, sc, zs, sk, ar', ld, oN, oP, oW, oV, hd, tb, po) → wY_loopsFit_22 post dpt opn nxy way wth cal eng thr sts ots dps n 1 (uw_dn c) kd tg op fs sc zs sk ar ld oN oP oW oV hd tb po) := by
  intro c
  induction c with
  | zero =>
    intro wa ar _ _
    refine ⟨1, wa, ar, Or.inr rfl, fun post n hn H => ?_, fun post n hn H => ?_⟩
    · obtain ⟨n, rfl⟩ : ∃ q, n = q + 1 := ⟨n - 1, by omega⟩
      exact br_t (by decide +kernel : (-1 : Int32) < 0) H
    · obtain ⟨n, rfl⟩ : ∃ q, n = q + 1 := ⟨n - 1, by omega⟩
      exact br_t (by decide +kernel : (-1 : Int32) < 0) ⟨uw_nb1, H⟩
  | succ c ih =>
    intro wa ar hc L
    obtain ⟨a, ha, hk, _, ho, _, hf, hs⟩ := T (60 + c) (by omega)
    have ho' : a = 7 ∨ a = 8 → vp_in (op (60 + c)) 4 := fun h => ho (Or.inr h)
    have e : wa c = ar c := by
      apply L c (by omega)
      by_cases h : c + 1 = m
      · exact Or.inl h
      · obtain ⟨k, h1, h2, h3⟩ := hD c (by omega)
        exact Or.inr ⟨k, by omega, h2, h3⟩
    by_cases hb : uw_bad a (op (60 + c)) (wa c)
    · obtain ⟨ar', h⟩ := uw_yfit0 (dpt := dpt) (opn := opn) (nxy := nxy) (way := way) (wth := wth) (cal := cal) (eng := eng) (thr := thr) (sts := sts) (ots := ots) (dps := dps) (zs := zs) (sk := sk) (ld := ld) (oN := oN) (oP := oP) (oW := oW) (oV := oV) (hd := hd) (tb := tb) (po := po) T c (uw_nw a (fs (60 + c)) (sc (60 + c)) c ar) (by omega)
      refine ⟨0, wa, ar', Or.inl rfl, fun post n hn H => ?_, fun post n hn H => ?_⟩
      · obtain ⟨n, rfl⟩ : ∃ q, n = q + 1 := ⟨n - 1, by omega⟩
        exact uw_xl_no (by omega) ha hk ho' hb H
      · obtain ⟨n, rfl⟩ : ∃ q, n = q + 1 := ⟨n - 1, by omega⟩
        rw [e] at hb
        exact uw_yl (by omega) ha hk hf hs (fun z => absurd hb z) (fun _ => h post n (by omega) H)
    · have L' : uw_L m c kd fs sc (uw_nw a (fs (60 + c)) (sc (60 + c)) c wa) (uw_nw a (fs (60 + c)) (sc (60 + c)) c ar) := by
        intro j hj hq
        apply uw_nw_eq (by omega) e
        rcases hq with h | ⟨k, h1, h2, h3⟩
        · exact Or.inl (L j (by omega) (Or.inl h))
        · by_cases hkc : k = c
          · subst hkc
            right
            rcases h3 with ⟨g1, g2⟩ | ⟨⟨b, b1, b2, b3⟩, g2⟩
            · exact Or.inl ⟨(nI_eq (b := 11) (by omega) (by decide)).mp (hk.symm.trans g1), g2⟩
            · have hab := (nI_eq (by omega) (by omega)).mp (hk.symm.trans b3)
              exact Or.inr ⟨by omega, g2⟩
          · exact Or.inl (L j (by omega) (Or.inr ⟨k, by omega, h2, h3⟩))
      obtain ⟨r, wa', ar', hr, hx, hy⟩ := ih _ _ (by omega) L'
      refine ⟨r, wa', ar', hr, fun post n hn H => ?_, fun post n hn H => ?_⟩
      · obtain ⟨n, rfl⟩ : ∃ q, n = q + 1 := ⟨n - 1, by omega⟩
        exact uw_xl_go (by omega) ha hk ho' hf hs hb (hx post n (by omega) H)
      · obtain ⟨n, rfl⟩ : ∃ q, n = q + 1 := ⟨n - 1, by omega⟩
        rw [e] at hb
        exact uw_yl (by omega) ha hk hf hs (fun _ => hy post n (by omega) H) (fun z => absurd z hb)
