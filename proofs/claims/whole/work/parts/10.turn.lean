/-! the relation within a run, and one turn -/
def uw_fr (kd : Nat → Int32) (s e n s' p w v : Int32) : Prop := vp_in s 60 ∧ s' = s ∧ ((kd s.toNatClampNeg = 10 ∨ kd s.toNatClampNeg = 11 ∨ kd s.toNatClampNeg = 12 ∨ kd s.toNatClampNeg = 14) ∨ (e = -1 ∧ p = 1) ∨ (¬ e = -1 ∧ ¬ p = 1 ∧ e = w ∧ n = v))
def uw_G (F : Nat) (kd fS fE fN oN oP oW oV : Nat → Int32) : Prop := ∀ i, i < F → uw_fr kd (fS i) (fE i) (fN i) (oN i) (oP i) (oW i) (oV i)
def uw_B (d m : Nat) (kd tg op fs sc sz zs sk : Nat → Int32) : Prop := uw_T kd tg op fs sc ∧ uw_S m sz zs ∧ uw_D d m kd fs sc sk
def uw_R (w : Nat) (u : SX) (v : SY) : Prop := ∃ (d m pc st F : Nat) (opc mop lou nxt edg edn way wth : Int32) (kd tg op fs sc sz sk wa ld hd tb po fS fE fN zs ar oN oP oW oV : Nat → Int32),
  u = (nI d, nI m, nI pc, nI st, opc, mop, lou, 0, 1, nxt, edg, edn, nI F, kd, tg, op, fs, sc, sz, sk, wa, ld, hd, tb, po, fS, fE, fN) ∧ v = (nI d, nI F, nxt, way, wth, opc, -1, 0, nI st, nI pc, mop, kd, tg, op, fs, sc, zs, sk, ar, ld, oN, oP, oW, oV, hd, tb, po) ∧ uw_B d m kd tg op fs sc sz zs sk ∧ st ≤ 300 ∧ pc ≤ st ∧ F ≤ st ∧ uw_G F kd fS fE fN oN oP oW oV ∧ opc.toInt ≤ 8 ∧ (w : Int) ≤ opc.toInt + 2000 ∧ ((nxt = -1 ∧ edg = way ∧ edn = wth ∧ ¬ edg = -1 ∧ w = 3 * (301 - st) + F + 1) ∨ (vp_in nxt 60 ∧ w = 3 * (301 - st) + F))
def uw_Q (u : SX) (v : SY) : Prop := ∃ (d m pc : Nat) (stp opc mop lou lth nxt edg edn frm opn nxy way wth cal : Int32) (kd tg op fs sc sz sk wa ld hd tb po fS fE fN zs ar oN oP oW oV : Nat → Int32),
  u = (nI d, nI m, nI pc, stp, opc, mop, lou, lth, 0, nxt, edg, edn, frm, kd, tg, op, fs, sc, sz, sk, wa, ld, hd, tb, po, fS, fE, fN) ∧ v = (nI d, opn, nxy, way, wth, cal, lou, lth, stp, nI pc, mop, kd, tg, op, fs, sc, zs, sk, ar, ld, oN, oP, oW, oV, hd, tb, po) ∧ uw_B d m kd tg op fs sc sz zs sk ∧ pc ≤ 300 ∧ ¬ lou = -1
def uw_O (w : Nat) (u : SX) (v : SY) : Prop := (∃ w', w' < w ∧ uw_R w' u v) ∨ uw_Q u v
def uw_N (w : Nat) (wx : (SX → Prop) → Prop) (wy : (SY → Prop) → Prop) : Prop := ∃ (u : SX) (v : SY), (∀ post : SX → Prop, post u → wx post) ∧ (∀ post : SY → Prop, post v → wy post) ∧ uw_O w u v
variable {std mde pct stp opc mop lou lth rng nxt edg edn frm dpt opn nxy way wth cal eng thr sts ots dps : Int32} {kd tg op fs sc sz sk wa ld hd tb po fS fE fN zs ar oN oP oW oV : Nat → Int32}
theorem uw_add {x : Int32} (h : -3000 ≤ x.toInt) (h' : x.toInt ≤ 8) : (x + 1).toInt = x.toInt + 1 ∧ (x - 1).toInt = x.toInt - 1 := by
  rw [Int32.toInt_add, Int32.toInt_sub, show (1 : Int32).toInt = 1 from by decide +kernel]
  exact ⟨Int.bmod_eq_of_le (by omega) (by omega), Int.bmod_eq_of_le (by omega) (by omega)⟩
theorem uw_o8 {x : Int32} (h' : x.toInt ≤ 8) : x < 8 ∨ x = 8 := by
  by_cases h : x < 8
  · exact Or.inl h
  · right
    apply Int32.toInt_inj.mp
    rw [Int32.lt_iff_toInt_lt] at h
    have e : (8 : Int32).toInt = 8 := by decide +kernel
    rw [e] at h ⊢
    omega
section
variable {w d m pc st F : Nat}
theorem uw_go1 (B : uw_B d m kd tg op fs sc sz zs sk) (hst : st ≤ 300) (hpc : pc ≤ st) (hF : F ≤ st) (hG : uw_G F kd fS fE fN oN oP oW oV) (h8 : opc.toInt ≤ 8) (hw : (w : Int) ≤ opc.toInt + 2001) (hn : vp_in nxt 60) (hlt : 3 * (301 - st) + F < w) : uw_O w (nI d, nI m, nI pc, nI st, opc, mop, lou, 0, 1, nxt, edg, edn, nI F, kd, tg, op, fs, sc, sz, sk, wa, ld, hd, tb, po, fS, fE, fN) (nI d, nI F, nxt, way, wth, opc, -1, 0, nI st, nI pc, mop, kd, tg, op, fs, sc, zs, sk, ar, ld, oN, oP, oW, oV, hd, tb, po) :=
  Or.inl ⟨_, hlt, d, m, pc, st, F, opc, mop, lou, nxt, edg, edn, way, wth, kd, tg, op, fs, sc, sz, sk, wa, ld, hd, tb, po, fS, fE, fN, zs, ar, oN, oP, oW, oV, rfl, rfl, B, hst, hpc, hF, hG, h8, by omega, Or.inr ⟨hn, rfl⟩⟩
theorem uw_go0 (B : uw_B d m kd tg op fs sc sz zs sk) (hst : st ≤ 300) (hpc : pc ≤ st) (hF : F ≤ st) (hG : uw_G F kd fS fE fN oN oP oW oV) (h8 : opc.toInt ≤ 8) (hw : (w : Int) ≤ opc.toInt + 2001) (hn : ¬ edg = -1) (hlt : 3 * (301 - st) + F + 1 < w) : uw_O w (nI d, nI m, nI pc, nI st, opc, mop, lou, 0, 1, -1, edg, edn, nI F, kd, tg, op, fs, sc, sz, sk, wa, ld, hd, tb, po, fS, fE, fN) (nI d, nI F, -1, edg, edn, opc, -1, 0, nI st, nI pc, mop, kd, tg, op, fs, sc, zs, sk, ar, ld, oN, oP, oW, oV, hd, tb, po) :=
  Or.inl ⟨_, hlt, d, m, pc, st, F, opc, mop, lou, -1, edg, edn, edg, edn, kd, tg, op, fs, sc, sz, sk, wa, ld, hd, tb, po, fS, fE, fN, zs, ar, oN, oP, oW, oV, rfl, rfl, B, hst, hpc, hF, hG, h8, by omega, Or.inl ⟨rfl, rfl, rfl, hn, rfl⟩⟩
theorem uw_goQ (B : uw_B d m kd tg op fs sc sz zs sk) (hpc : pc ≤ 300) (hl : ¬ lou = -1) : uw_O w (nI d, nI m, nI pc, stp, opc, mop, lou, lth, 0, nxt, edg, edn, frm, kd, tg, op, fs, sc, sz, sk, wa, ld, hd, tb, po, fS, fE, fN) (nI d, opn, nxy, way, wth, cal, lou, lth, stp, nI pc, mop, kd, tg, op, fs, sc, zs, sk, ar, ld, oN, oP, oW, oV, hd, tb, po) :=
  Or.inr ⟨d, m, pc, stp, opc, mop, lou, lth, nxt, edg, edn, frm, opn, nxy, way, wth, cal, kd, tg, op, fs, sc, sz, sk, wa, ld, hd, tb, po, fS, fE, fN, zs, ar, oN, oP, oW, oV, rfl, rfl, B, hpc, hl⟩
end
theorem uw_to_in {s f : Int32} (hs : vp_in s 60) (hf : vp_in f 20) : vp_in (uw_to s f) 60 := by
  obtain ⟨i, hi, rfl⟩ := vp_in_of hs (by decide)
  obtain ⟨j, hj, rfl⟩ := vp_in_of hf (by decide)
  have e : uw_to (nI i) (nI j) = nI (i / 20 * 20 + j) := by
    unfold uw_to
    rw [show (20 : Int32) = nI 20 from rfl, pk_div (by omega) (by decide) (by decide), pk_mul, nI_add]
  rw [e]
  exact vp_in_nI (by omega) (by omega)
/-- where a body begins -/
theorem uw_body {m : Nat} {o : Int32} (S : uw_S m sz zs) (ho : vp_in o 3) : vp_in (o * 20 + sz o.toNatClampNeg - 1) 60 ∧ 20 * o + zs o.toNatClampNeg - 1 = o * 20 + sz o.toNatClampNeg - 1 := by
  obtain ⟨p, hp, rfl⟩ := vp_in_of ho (by decide)
  obtain ⟨n, h1, h2, e1, e2⟩ := S.1 p hp
  obtain ⟨q, rfl⟩ : ∃ q, n = q + 1 := ⟨n - 1, by omega⟩
  have c : (nI p).toNatClampNeg = p := nI_clamp (by omega)
  rw [c, e1, e2]
  constructor
  · rw [show (20 : Int32) = nI 20 from rfl, pk_mul, nI_add, ← Nat.add_assoc, nI_pred]
    exact vp_in_nI (by omega) (by omega)
  · rw [Int32.mul_comm]
theorem uw_G_push {F : Nat} {s x y : Int32} (hG : uw_G F kd fS fE fN oN oP oW oV) (hs : vp_in s 60) : uw_G (F + 1) kd (upd fS F s) (upd fE F (-1)) fN (upd oN F s) (upd oP F 1) (upd oW F x) (upd oV F y) := by
  intro i hi
  by_cases e : i = F
  · subst e
    rw [pk_us, pk_us, pk_us, pk_us, pk_us, pk_us]
    exact ⟨hs, rfl, Or.inr (Or.inl ⟨rfl, rfl⟩)⟩
  · rw [pk_un e, pk_un e, pk_un e, pk_un e, pk_un e, pk_un e]
    exact hG i (by omega)
theorem uw_G_pop {G : Nat} (hG : uw_G (G + 1) kd fS fE fN oN oP oW oV) : uw_G G kd fS fE fN oN oP oW oV := fun i hi => hG i (by omega)
theorem uw_G_re {G : Nat} {x y : Int32} (hG : uw_G (G + 1) kd fS fE fN oN oP oW oV) (hk : kd (fS G).toNatClampNeg = 11) : uw_G (G + 1) kd fS fE fN (upd oN G (fS G)) (upd oP G 1) (upd oW G x) (upd oV G y) := by
  intro i hi
  by_cases e : i = G
  · subst e
    rw [pk_us, pk_us, pk_us, pk_us]
    exact ⟨(hG i hi).1, rfl, Or.inl (Or.inr (Or.inl hk))⟩
  · rw [pk_un e, pk_un e, pk_un e, pk_un e]
    exact hG i hi
theorem uw_G_la {G : Nat} {x y : Int32} (hG : uw_G (G + 1) kd fS fE fN oN oP oW oV) (hx : ¬ x = -1) : uw_G (G + 1) kd fS (upd fE G x) (upd fN G y) (upd oN G (fS G)) (upd oP G 2) (upd oW G x) (upd oV G y) := by
  intro i hi
  by_cases e : i = G
  · subst e
    rw [pk_us, pk_us, pk_us, pk_us, pk_us, pk_us]
    exact ⟨(hG i hi).1, rfl, Or.inr (Or.inr ⟨hx, by decide +kernel, rfl, rfl⟩)⟩
  · rw [pk_un e, pk_un e, pk_un e, pk_un e, pk_un e, pk_un e]
    exact hG i hi
section
variable {w d m pc st F : Nat}
theorem uw_begin (B : uw_B d m kd tg op fs sc sz zs sk) (hst : st ≤ 300) (hpc : pc ≤ st) (hF : F ≤ st) (hG : uw_G F kd fS fE fN oN oP oW oV) (h8 : opc.toInt ≤ 8) (hw : (w : Int) ≤ opc.toInt + 2000) (hn : vp_in nxt 60) (ew : w = 3 * (301 - st) + F) : uw_N w (fun post => wpX_beginStatement post (nI d, nI m, nI pc, nI st, opc, mop, lou, 0, 1, nxt, edg, edn, nI F, kd, tg, op, fs, sc, sz, sk, wa, ld, hd, tb, po, fS, fE, fN) nxt) (fun post => wpY_begin post (nI d, nI F, nxt, way, wth, opc, -1, 0, nI st, nI pc, mop, kd, tg, op, fs, sc, zs, sk, ar, ld, oN, oP, oW, oV, hd, tb, po)) := by
  by_cases ht : st = 300
  · subst ht
    exact ⟨_, _, fun post H => uw_xtired H, fun post H => uw_ytired H, uw_goQ B (by omega) (by decide +kernel)⟩
  have hs3 : st < 300 := by omega
  have hc := uw_inc hn (by decide)
  obtain ⟨a, ha, hk, ht, ho, hc3, hf, hs⟩ := B.1 nxt.toNatClampNeg (by omega)
  have ad := uw_add (x := opc) (by omega) h8
  rcases (by omega : a = 0 ∨ a = 1 ∨ a = 2 ∨ a = 3 ∨ a = 4 ∨ a = 5 ∨ a = 6 ∨ a = 7 ∨ a = 8 ∨ a = 9 ∨ a = 10 ∨ a = 11 ∨ a = 12 ∨ a = 13 ∨ a = 14 ∨ a = 15) with ea | ea | ea | ea | ea | ea | ea | ea | ea | ea | ea | ea | ea | ea | ea | ea <;> subst ea
  · exact ⟨_, _, fun post H => uw_xb0 hs3 hn hk H, fun post H => uw_yb0 hs3 hn hk H, uw_go0 B (by omega) (by omega) (by omega) hG h8 (by omega) (by decide +kernel) (by omega)⟩
  · exact ⟨_, _, fun post H => uw_xb1 hs3 hn hk (ht (by omega)) H, fun post H => uw_yb1 hs3 hn hk (ht (by omega)) H, uw_go0 B (by omega) (by omega) (by omega) hG h8 (by omega) (by decide +kernel) (by omega)⟩
  · exact ⟨_, _, fun post H => uw_xb2 hs3 hn hk (ht (by omega)) (ho (by omega)) H, fun post H => uw_yb2 hs3 hn hk (ht (by omega)) (ho (by omega)) H, uw_go0 B (by omega) (by omega) (by omega) hG h8 (by omega) (by decide +kernel) (by omega)⟩
  · exact ⟨_, _, fun post H => uw_xb3 hs3 hn hk (ht (by omega)) (ho (by omega)) H, fun post H => uw_yb3 hs3 hn hk (ht (by omega)) (ho (by omega)) H, uw_go0 B (by omega) (by omega) (by omega) hG h8 (by omega) (by decide +kernel) (by omega)⟩
  · exact ⟨_, _, fun post H => uw_xb4 hs3 hn hk (ht (by omega)) (ho (by omega)) H, fun post H => uw_yb4 hs3 hn hk (ht (by omega)) (ho (by omega)) H, uw_go0 B (by omega) (by omega) (by omega) hG h8 (by omega) (by decide +kernel) (by omega)⟩
  · exact ⟨_, _, fun post H => uw_xb5 hs3 hn hk (ht (by omega)) (by omega) H, fun post H => uw_yb5 hs3 hn hk (ht (by omega)) (by omega) H, uw_go0 B (by omega) (by omega) (by omega) hG h8 (by omega) (by decide +kernel) (by omega)⟩
  · exact ⟨_, _, fun post H => uw_xb6 hs3 hn hk (ht (by omega)) H, fun post H => uw_yb6 hs3 hn hk (ht (by omega)) H, uw_go0 B (by omega) (by omega) (by omega) hG h8 (by omega) (by decide +kernel) (by omega)⟩
  · exact ⟨_, _, fun post H => uw_xb7 hs3 hn hk H, fun post H => uw_yb7 hs3 hn hk H, uw_go0 B (by omega) (by omega) (by omega) hG h8 (by omega) (by decide +kernel) (by omega)⟩
  · exact ⟨_, _, fun post H => uw_xb8 hs3 hn hk H, fun post H => uw_yb8 hs3 hn hk H, uw_go0 B (by omega) (by omega) (by omega) hG h8 (by omega) (by decide +kernel) (by omega)⟩
  · exact ⟨_, _, fun post H => uw_xb9 hs3 hn hk H, fun post H => uw_yb9 hs3 hn hk H, uw_go0 B (by omega) (by omega) (by omega) hG h8 (by omega) (by decide +kernel) (by omega)⟩
  · have ho := hc3 rfl
    have hb := uw_body B.2.1 ho
    rcases uw_o8 h8 with h | h
    · have h8' : ¬ opc = 8 := fun z => by rw [z] at h; exact absurd h (by decide +kernel)
      have h9 : (opc + 1).toInt ≤ 8 := by
        rw [Int32.lt_iff_toInt_lt, show (8 : Int32).toInt = 8 from by decide +kernel] at h
        omega
      exact ⟨_, _, fun post H => uw_xb10 hs3 hn hk h (by omega) ho H, fun post H => uw_yb10 hs3 hn hk h8' (by omega) ho (by rw [hb.2]; exact H), uw_go1 B (by omega) (by omega) (by omega) (uw_G_push hG hn) h9 (by omega) hb.1 (by omega)⟩
    · have h' : ¬ opc < 8 := fun z => by rw [h] at z; exact absurd z (by decide +kernel)
      exact ⟨_, _, fun post H => uw_xb10d hs3 hn hk h' H, fun post H => uw_yb10d hs3 hn hk h H, uw_goQ B (by omega) (by decide +kernel)⟩
  · have ht := ht (by omega)
    by_cases hz : hd (tg nxt.toNatClampNeg).toNatClampNeg = 0
    · exact ⟨_, _, fun post H => uw_xb11z hs3 hn hk ht hz H, fun post H => uw_yb11z hs3 hn hk ht hz H, uw_go0 B (by omega) (by omega) (by omega) hG h8 (by omega) (by decide +kernel) (by omega)⟩
    · exact ⟨_, _, fun post H => uw_xb11 hs3 hn hk ht hz (by omega) H, fun post H => uw_yb11 hs3 hn hk ht hz (by omega) H, uw_go1 B (by omega) (by omega) (by omega) (uw_G_push hG hn) h8 (by omega) (uw_to_in hn hf) (by omega)⟩
  · exact ⟨_, _, fun post H => uw_xb12 hs3 hn hk (by omega) H, fun post H => uw_yb12 hs3 hn hk (by omega) H, uw_go1 B (by omega) (by omega) (by omega) (uw_G_push hG hn) h8 (by omega) (uw_to_in hn hf) (by omega)⟩
  · have ht := ht (by omega)
    by_cases hz : hd (tg nxt.toNatClampNeg).toNatClampNeg = 0
    · exact ⟨_, _, fun post H => uw_xb13z hs3 hn hk ht hz H, fun post H => uw_yb13z hs3 hn hk ht hz H, uw_go1 B (by omega) (by omega) (by omega) hG h8 (by omega) (uw_to_in hn hs) (by omega)⟩
    · exact ⟨_, _, fun post H => uw_xb13 hs3 hn hk ht hz H, fun post H => uw_yb13 hs3 hn hk ht hz H, uw_go1 B (by omega) (by omega) (by omega) hG h8 (by omega) (uw_to_in hn hf) (by omega)⟩
  · exact ⟨_, _, fun post H => uw_xb14 hs3 hn hk (by omega) H, fun post H => uw_yb14 hs3 hn hk (by omega) H, uw_go1 B (by omega) (by omega) (by omega) (uw_G_push hG hn) h8 (by omega) (uw_to_in hn hf) (by omega)⟩
  · exact ⟨_, _, fun post H => uw_xb15 hs3 hn hk (by omega) H, fun post H => uw_yb15 hs3 hn hk (by omega) H, uw_go1 B (by omega) (by omega) (by omega) (uw_G_push hG hn) h8 (by omega) (uw_to_in hn hf) (by omega)⟩
end
