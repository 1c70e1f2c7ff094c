/-! the owed statements -/
theorem i_vc0 : wpX_init (fun u => wpY_init (fun v => i_Rel 0 u v)) := uw_init
theorem i_vc_simple {k : Nat} {u : SX} {v : SY} (I : i_Rel k u v) (hk : k + 4 ≤ 2048) (v1 : Int32) (v2 : Int32) (v3 : Int32) : wpX_simple (fun r u' => wpY_simple (fun r' v' => r' = r ∧ i_Rel (k + 4) u' v') v v1 v2 v3) u v1 v2 v3 := by
  have h := uw_Ei (uw_simple I v1 v2 v3)
  exact h
theorem i_vc_loop {k : Nat} {u : SX} {v : SY} (I : i_Rel k u v) (hk : k + 4 ≤ 2048) (v1 : Int32) : wpX_loop (fun r u' => wpY_loop (fun r' v' => r' = r ∧ i_Rel (k + 4) u' v') v v1) u v1 := by
  have h := uw_Ei (uw_loop I v1)
  exact h
theorem i_vc_join {k : Nat} {u : SX} {v : SY} (I : i_Rel k u v) (hk : k + 4 ≤ 2048) (v1 : Int32) (v2 : Int32) : wpX_join (fun r u' => wpY_join (fun r' v' => r' = r ∧ i_Rel (k + 4) u' v') v v1 v2) u v1 v2 := by
  have h := uw_Ei (uw_join I v1 v2)
  exact h
theorem i_vc_depth {k : Nat} {u : SX} {v : SY} (I : i_Rel k u v) (hk : k + 4 ≤ 2048) : wpX_depth (fun r => wpY_depth (fun r' => r' = r ∧ i_Rel (k + 4) u v) v) u := by
  have I0 := I
  obtain ⟨d, m, pc, stp, opc, mop, lou, lth, rng, nxt, edg, edn, frm, opn, nxy, way, wth, cal, kd, tg, op, fs, sc, sz, sk, wa, ld, hd, tb, po, fS, fE, fN, zs, ar, oN, oP, oW, oV, rfl, rfl, T, S, D, hp⟩ := I
  exact And.intro rfl I0
theorem i_vc_discard {k : Nat} {u : SX} {v : SY} (I : i_Rel k u v) (hk : k + 4 ≤ 2048) : wpX_discard (fun r u' => wpY_discard (fun r' v' => r' = r ∧ i_Rel (k + 4) u' v') v) u := by
  have h := uw_Ei (uw_discard I)
  exact h
theorem i_vc_procedure {k : Nat} {u : SX} {v : SY} (I : i_Rel k u v) (hk : k + 4 ≤ 2048) (v1 : Int32) : wpX_procedure (fun r u' => wpY_procedure (fun r' v' => r' = r ∧ i_Rel (k + 4) u' v') v v1) u v1 := by
  have h := uw_Ei (uw_procedure I v1)
  exact h
theorem i_vc_load {k : Nat} {u : SX} {v : SY} (I : i_Rel k u v) (hk : k + 4 ≤ 2048) (v1 : Int32) (v2 : Int32) : wpX_load (fun r u' => wpY_load (fun r' v' => r' = r ∧ i_Rel (k + 4) u' v') v v1 v2) u v1 v2 := by
  have h := uw_Ei (uw_load I v1 v2)
  exact h
theorem i_vc_run {k : Nat} {u : SX} {v : SY} (I : i_Rel k u v) (hk : k + 4 ≤ 2048) (v1 : Int32) : wpX_run (fun r u' => wpY_run (fun r' v' => r' = r ∧ i_Rel (k + 4) u' v') v v1) u v1 := by
  have h := uw_Ei (uw_run I v1)
  exact h
theorem i_vc_outcome {k : Nat} {u : SX} {v : SY} (I : i_Rel k u v) (hk : k + 4 ≤ 2048) : wpX_outcome (fun r => wpY_outcome (fun r' => r' = r ∧ i_Rel (k + 4) u v) v) u := by
  have I0 := I
  obtain ⟨d, m, pc, stp, opc, mop, lou, lth, rng, nxt, edg, edn, frm, opn, nxy, way, wth, cal, kd, tg, op, fs, sc, sz, sk, wa, ld, hd, tb, po, fS, fE, fN, zs, ar, oN, oP, oW, oV, rfl, rfl, T, S, D, hp⟩ := I
  exact And.intro rfl I0
theorem i_vc_thrown {k : Nat} {u : SX} {v : SY} (I : i_Rel k u v) (hk : k + 4 ≤ 2048) : wpX_thrown (fun r => wpY_thrown (fun r' => r' = r ∧ i_Rel (k + 4) u v) v) u := by
  have I0 := I
  obtain ⟨d, m, pc, stp, opc, mop, lou, lth, rng, nxt, edg, edn, frm, opn, nxy, way, wth, cal, kd, tg, op, fs, sc, sz, sk, wa, ld, hd, tb, po, fS, fE, fN, zs, ar, oN, oP, oW, oV, rfl, rfl, T, S, D, hp⟩ := I
  exact And.intro rfl I0
theorem i_vc_register {k : Nat} {u : SX} {v : SY} (I : i_Rel k u v) (hk : k + 4 ≤ 2048) (v1 : Int32) : wpX_register (fun r => wpY_register (fun r' => r' = r ∧ i_Rel (k + 4) u v) v v1) u v1 := by
  obtain ⟨r, hx, hy⟩ := uw_register I v1
  exact hx _ (hy _ ⟨rfl, I⟩)
theorem i_vc_steps {k : Nat} {u : SX} {v : SY} (I : i_Rel k u v) (hk : k + 4 ≤ 2048) : wpX_steps (fun r => wpY_steps (fun r' => r' = r ∧ i_Rel (k + 4) u v) v) u := by
  have I0 := I
  obtain ⟨d, m, pc, stp, opc, mop, lou, lth, rng, nxt, edg, edn, frm, opn, nxy, way, wth, cal, kd, tg, op, fs, sc, sz, sk, wa, ld, hd, tb, po, fS, fE, fN, zs, ar, oN, oP, oW, oV, rfl, rfl, T, S, D, hp⟩ := I
  exact And.intro rfl I0
theorem i_vc_begun {k : Nat} {u : SX} {v : SY} (I : i_Rel k u v) (hk : k + 4 ≤ 2048) (v1 : Int32) (v2 : Int32) : wpX_begun (fun r => wpY_begun (fun r' => r' = r ∧ i_Rel (k + 4) u v) v v1 v2) u v1 v2 := by
  obtain ⟨r, hx, hy⟩ := uw_begun I v1 v2
  exact hx _ (hy _ ⟨rfl, I⟩)
theorem i_vc_outs {k : Nat} {u : SX} {v : SY} (I : i_Rel k u v) (hk : k + 4 ≤ 2048) : wpX_outs (fun r => wpY_outs (fun r' => r' = r ∧ i_Rel (k + 4) u v) v) u := by
  have I0 := I
  obtain ⟨d, m, pc, stp, opc, mop, lou, lth, rng, nxt, edg, edn, frm, opn, nxy, way, wth, cal, kd, tg, op, fs, sc, sz, sk, wa, ld, hd, tb, po, fS, fE, fN, zs, ar, oN, oP, oW, oV, rfl, rfl, T, S, D, hp⟩ := I
  exact And.intro rfl I0
theorem i_vc_out {k : Nat} {u : SX} {v : SY} (I : i_Rel k u v) (hk : k + 4 ≤ 2048) (v1 : Int32) : wpX_out (fun r => wpY_out (fun r' => r' = r ∧ i_Rel (k + 4) u v) v v1) u v1 := by
  obtain ⟨r, hx, hy⟩ := uw_out I v1
  exact hx _ (hy _ ⟨rfl, I⟩)
theorem i_vc_deepest {k : Nat} {u : SX} {v : SY} (I : i_Rel k u v) (hk : k + 4 ≤ 2048) : wpX_deepest (fun r => wpY_deepest (fun r' => r' = r ∧ i_Rel (k + 4) u v) v) u := by
  have I0 := I
  obtain ⟨d, m, pc, stp, opc, mop, lou, lth, rng, nxt, edg, edn, frm, opn, nxy, way, wth, cal, kd, tg, op, fs, sc, sz, sk, wa, ld, hd, tb, po, fS, fE, fN, zs, ar, oN, oP, oW, oV, rfl, rfl, T, S, D, hp⟩ := I
  exact And.intro rfl I0
