/-! Clauses of rows on both sides. -/
def clS (n : Nat) (T : Nat → Int) (N e cl : Nat) (c m : hp) (p : Option pr) : Prop := (∃ (code : Int) (c' m' : hp), p = some (code, (K0, c')) ∧ px_R (mm_Mod_street, 20, [(2, 123), (0, (cl : Int))], [], (K0, m)) = some (-1, (K0, m')) ∧ 1 ≤ code ∧ FSt n c c' ∧ FMt m m' ∧ m' 123 8 = code ∧ m' 123 9 = c' 2 3) ∨ ∃ (c' m' : hp) (i' s' e' k' : Nat), p = some (0, (K0, c')) ∧ px_R (mm_Mod_street, 20, [(2, 123), (0, (cl : Int))], [], (K0, m)) = px_R (mm_Mod_street, 20, [(2, 123), (0, ((cl + 1 : Nat) : Int))], [], (K0, m')) ∧ e < i' ∧ i' ≤ N ∧ c' 2 4 = (i' : Int) ∧ TK T N i' s' e' k' ∧ SC T s' e' k' m' ∧ SPR n c' m' ∧ FSt n c c' ∧ FMt m m' ∧ m' 123 8 = m 123 8 ∧ m' 123 9 = m 123 9
theorem clF {n : Nat} {T : Nat → Int} {N e cl : Nat} {c m c' m' : hp} {p : Option pr} {code : Int} (h3 : ¬ m 123 3 = 4) (e1 : p = some (code, (K0, c'))) (e2 : px_R (mm_Mod_readClause, 0, [(2, 123), (9, 0)], [], (K0, m)) = some (0, (K0, m'))) (l : 1 ≤ code) (F : FSt n c c') (G : FMt m m') (x8 : m' 123 8 = code) (x9 : m' 123 9 = c' 2 3) : clS n T N e cl c m p := Or.inl ⟨code, c', m', e1, mTail0 h3 e2, l, F, G, x8, x9⟩
theorem SC_n4 {T : Nat → Int} {s e : Nat} {m : hp} (sc : SC T s e 2 m) : ¬ m 123 3 = 4 := by
  have d : m 123 3 = 1 := sc.1
  rw [d]
  decide
theorem RNc_F {n kind q : Nat} {c d : hp} (hk : kind < 9) (F : RNc n kind q c d) : FSt n c d := fun a b z => F a b (fun w => z (by unfold fst2; omega)) (fun w => z (by unfold fst2; omega))
theorem RNm_F {kind q : Nat} {c d : hp} (F : RNm kind q c d) : FMt c d := fun a b z => F a b (fun w => z (by unfold fmt2; omega)) (fun w => z (by unfold fmt2; omega))
theorem RFc_F {n kind q : Nat} {c d : hp} (hk : kind < 9) (F : RFc n kind q c d) : FSt n c d := fun a b z => F a b (fun w => z (by unfold fst2; omega)) (fun w => z (by unfold fst2; omega))
theorem RFm_F {B off cn : Nat} {c d : hp} (hB : ∀ b, off ≤ b → b < off + cn → fmt2 B b) (F : RFm B off cn c d) : FMt c d := fun a b z => F a b (fun w => z (by unfold fmt2; omega)) (fun w => z (by rw [w.1]; exact hB b w.2.1 w.2.2))
theorem mFull {kind mx : Nat} {m : hp} (I : IR m) (hk : kind < 6) (mq : m 125 (9 + kind) = (mx : Int)) : px_R (mm_Mod_readName, 0, [(2, 123), (0, (kind : Int)), (0, (mx : Int)), (9, 0), (9, 0)], [], (K0, m)) = some (0, (K0, flM 4 m)) := by
  have u9 : -2147483648 ≤ 9 + (kind : Int) ∧ 9 + (kind : Int) < 2147483648 := by omega
  have u9e : 9 + (kind : Int) = ((9 + kind : Nat) : Int) := by omega
  have g9 : (decide ((0 : Int) ≤ ((9 + kind : Nat) : Int)) && decide (((9 + kind : Nat) : Int) < 18)) = true := gd_ok (by omega)
  rw [eq_Mod_readName_0]
  simp only [px_rd_mk, px_wr_mk, Int.reduceToNat, Int.toNat_natCast, if_true, if_false, Option.bind_some, px_up_cell, px_up_slot, px_up_eq, ne_eq, Nat.reduceEqDiff, not_false_eq_true, Int.reduceEq, Int.reduceLT, Int.reduceLE, Int.reduceNeg, decide_true, decide_false, Bool.and_true, Bool.true_and, Bool.and_false, Bool.false_and, and_self, and_true, true_and, and_false, false_and, bi_T, bi_F, not_true_eq_false, Bool.false_eq_true, kg_123, ka_125, ir_123_12 I, (px_w_n u9).trans u9e, g9, mq, R_fails]
/-- the end of a clause of a kind below 6 -/
theorem clEnd {n : Nat} (hn : n = 4 ∨ n = 26) {T : Nat → Int} {N e kind q cl i s2 e2 k2 j : Nat} {c m c2 m2 : hp} {p : Option pr} (h3 : ¬ m 123 3 = 4) (C2 : TC2 T N c2) (iN : i ≤ N) (ei : e ≤ i) (c4 : c2 2 4 = (i : Int)) (hk : kind < 9) (cq : c2 (n + 1) kind = (q : Int)) (hq : q < 6) (t : TK T N i s2 e2 k2) (M2 : TM T N m2) (sc : SC T s2 e2 k2 m2) (hcl : cl < 100000) (pe : p = px_R (mm_Str_readClause, 88, [(2, (n : Int)), (2, 2), (0, (kind : Int)), (0, 0), (0, (j : Int))], [], (K0, c2))) (me : px_R (mm_Mod_readClause, 0, [(2, 123), (9, 0)], [], (K0, m)) = some (1, (K0, m2))) (F : FSt n c c2) (G : FMt m m2) (G89 : m2 123 8 = m 123 8 ∧ m2 123 9 = m 123 9) (SP : ∀ c' m' : hp, c' (n + 1) kind = ((q + 1 : Nat) : Int) → (∀ a b, ¬ (a = 2 ∧ 2 ≤ b ∧ b ≤ 6) → ¬ (a = n + 1 ∧ b = kind) → c' a b = c2 a b) → FTk m2 m' → SPR n c' m') : clS n T N e cl c m p := by
  obtain ⟨c3, x1, x2, x3, x4, x5⟩ := cEnd hn (j := j) C2 iN c4 hk cq hq t
  obtain ⟨y1, y2⟩ := mTail1 h3 me M2 t sc hcl
  have le := TK_le t
  by_cases k4 : k2 = 4
  · obtain ⟨s4, e4, k4', m4, z1, z2, z3, z4⟩ := y2 k4
    have ie : e < e2 := Nat.lt_of_le_of_lt ei (Nat.lt_of_le_of_lt le.1 (le.2.2.2.2 (fun z => by rw [k4] at z; cases z)))
    refine Or.inr ⟨_, m4, e2, s4, e4, k4', pe.trans (x5 k4), z4, ie, le.2.2.1, ?_, z1, z2, SP _ m4 (px_up_eq _ _ _ _) (fun a b w1 w2 => ?_) z3, FSt_tr F (FSt_up (FSt_tss x1) _ (Or.inr (Or.inl rfl))), FMt_tr G (FTk_FMt z3), (z3 123 8 (by decide)).trans G89.1, (z3 123 9 (by decide)).trans G89.2⟩
    · rw [px_up_cell _ _ _ _ (show 2 ≠ n + 1 by omega)]
      exact x3
    · unfold px_up
      rw [if_neg w2]
      exact tss_o x1 a b w1
  · exact Or.inl ⟨1, c3, flM 1 m2, pe.trans (x4 k4), y1 k4, by decide, FSt_tr F (FSt_tss x1), FMt_tr G (FTw_FMt (flM_F _ _)), (flM_8 _ _).1, by rw [(flM_8 _ _).2, sc.2.1, x2]⟩
theorem jT_0 {n : Nat} (hn : n = 4 ∨ n = 26) {T : Nat → Int} {N i s e cl : Nat} {c m : hp} (C : TC2 T N c) (M : TM T N m) (t : TK T N i s e 2) (ct : CT T s e 2 c) (sc : SC T s e 2 m) (S : SPR n c m) (ky : kyV T s (e - s) 0 9 = ((0 : Nat) : Int)) (hcl : cl < 100000) : clS n T N e cl c m (px_R (mm_Str_readClause, 0, [(2, (n : Int)), (2, 2), (9, 0), (9, 0), (9, 0)], [], (K0, c))) := by
  have le := TK_le t
  have h3 := SC_n4 sc
  have I := M.1
  have cnt := S.1 0 (by decide)
  obtain ⟨q, hq⟩ := Int.eq_ofNat_of_zero_le cnt.2.1
  have mq : m 125 (9 + 0) = (q : Int) := cnt.1.trans hq
  have lk : lim 0 = 4 := rfl
  have q4 : q ≤ 4 := by
    have := cnt.2.2
    omega
  have hq100 : q < 100 := by omega
  have hq6 : q ≤ 6 := by omega
  obtain ⟨h1, h2, _⟩ := cHead hn C t ct (by decide) ky hq
  by_cases full : q = 4
  · have p := h1 (by rw [full]; decide)
    have mf := mFull (kind := 0) (mx := 4) I (by decide) (by rw [mq, full])
    have If := FMt_IR I (FTw_FMt (flM_F 4 m))
    have th := (mT_0 (v2 := 0) (m2 := m) I If mq hq100 mf (fun z => absurd z (by decide))).1 rfl
    have tt := (t262 (kind := 0) (x2 := (q : Int)) If (by decide) (show flM 4 m 125 (9 + 0) = (q : Int) from (flM_F 4 m _ _ (fun z => absurd z.1 (by decide))).trans mq) hq100).1
    exact clF h3 p (mHead sc (by decide) ky (Or.inl rfl) (th.trans tt)) (by decide) (FSt_rf _ _) (FTw_FMt (flM_F _ _)) (flM_8 _ _).1 (by rw [(flM_8 _ _).2, sc.2.1, ct.2.1])
  · have qlt : q < 4 := by omega
    have p := h2 (show (q : Int) < 4 by omega) (by decide)
    rcases jName hn (kind := 0) (mx := 4) (by decide) qlt (by decide) C le.2.2.1 ct.2.2.1 hq M sc.2.2.1 mq (fun z hz => S.2.2.1 0 (by decide) (by decide) z (by omega)) with ⟨code, c', m', x1, x2, x3, x4, x5, x6, x7⟩ | ⟨c1, m1, i1, s1, e1, k1, x1, x2, x3, x4, x5, x6, x7, x8, x9, x10⟩
    · have cb := cl_bad (n := n) (kind := 0) (j := 0) (r := code) (c := c') (by decide) (by omega)
      have I' := FMt_IR I x5
      have th := (mT_0 (v2 := 0) (m2 := m) I I' mq hq100 x2 (fun z => absurd z (by decide))).1 rfl
      have pc : px_R (mm_Str_readClause, 0, [(2, (n : Int)), (2, 2), (9, 0), (9, 0), (9, 0)], [], (K0, c)) = some (code, (K0, c')) := by
        rw [p, x1]
        exact cb
      have tt : px_R (mm_Mod_readThing, 262, [(2, 123), (0, 0), (0, (q : Int)), (0, 0)], [], (K0, m')) = some (0, (K0, m')) := by
        rw [eq_Mod_readThing_262]
        simp only [px_rd_mk, px_wr_mk, Int.reduceToNat, Int.toNat_natCast, if_true, if_false, Option.bind_some, px_up_cell, px_up_slot, px_up_eq, ne_eq, Nat.reduceEqDiff, not_false_eq_true, Int.reduceEq, Int.reduceLT, Int.reduceLE, Int.reduceNeg, decide_true, decide_false, Bool.and_true, Bool.true_and, Bool.and_false, Bool.false_and, and_self, and_true, true_and, and_false, false_and, bi_T, bi_F, not_true_eq_false, Bool.false_eq_true]
      exact clF h3 pc (mHead sc (by decide) ky (Or.inl rfl) (th.trans tt)) x3 x4 x5 x6 x7
    · have Fc1 := RNc_F (show 0 < 9 by decide) x8
      have Fm1 := RNm_F x9
      have C1 := FSt_TC hn C Fc1
      have M1 := FMt_TM M Fm1
      have cq1 : c1 (n + 1) 0 = (q : Int) := (x8 _ _ (by omega) (by omega)).trans hq
      have mq1 : m1 125 (9 + 0) = (q : Int) := (x9 _ _ (by omega) (by omega)).trans mq
      have pc : px_R (mm_Str_readClause, 0, [(2, (n : Int)), (2, 2), (9, 0), (9, 0), (9, 0)], [], (K0, c)) = px_R (mm_Str_readClause, 59, [(2, (n : Int)), (2, 2), (0, ((0 : Nat) : Int)), (0, 0), (0, ((0 : Nat) : Int))], [], (K0, c1)) := by
        rw [p, x1]
        rfl
      rcases jRow hn (kind := 0) (q := q) (B := 127) (off := 5 * (4 + q)) (cn := 5) (by decide) (by decide) rfl (by decide) (by omega) (fun w j hj => by
        show px_ga (K0, w) 0 127 _ = true
        rw [ka_127]
        exact gd_ok (by omega)) (fun j hj => by unfold fmt2; omega) (by decide) (by omega) (lo0 := 1) (hi0 := 99) (hiR := 999) (by decide) (fun j j1 j2 => by
        unfold lowN higN
        rw [if_neg (by omega), if_neg (by omega)]
        exact ⟨rfl, rfl⟩) 5 0 i1 s1 e1 k1 c1 m1 rfl C1 x4 x5 cq1 M1 x6 x7 (fun j hj => absurd hj (by omega)) with ⟨code, c', m', z1, z2, z3, z4, z5, z6, z7⟩ | ⟨c2, m2, i2, s2, e2, k2, z1, z2, z0, z3, z4, z5, z6, z7, z8, z9⟩
      · have I1 := M1.1
        have th := (mT_0 I I1 mq hq100 x2 (fun _ => z2)).2.1 rfl rfl
        have tt : px_R (mm_Mod_readThing, 262, [(2, 123), (0, 0), (0, (q : Int)), (0, 0)], [], (K0, m')) = some (0, (K0, m')) := by
          rw [eq_Mod_readThing_262]
          simp only [px_rd_mk, px_wr_mk, Int.reduceToNat, Int.toNat_natCast, if_true, if_false, Option.bind_some, px_up_cell, px_up_slot, px_up_eq, ne_eq, Nat.reduceEqDiff, not_false_eq_true, Int.reduceEq, Int.reduceLT, Int.reduceLE, Int.reduceNeg, decide_true, decide_false, Bool.and_true, Bool.true_and, Bool.and_false, Bool.false_and, and_self, and_true, true_and, and_false, false_and, bi_T, bi_F, not_true_eq_false, Bool.false_eq_true]
        exact clF h3 (pc.trans z1) (mHead sc (by decide) ky (Or.inl rfl) (th.trans tt)) z3 (FSt_tr Fc1 z4) (FMt_tr Fm1 z5) z6 z7
      · have I1 := M1.1
        have Fc2 := FSt_tr Fc1 (RFc_F (show 0 < 9 by decide) z7)
        have Fm2 := FMt_tr Fm1 (RFm_F (fun b b1 b2 => by unfold fmt2; omega) z8)
        have C2 := FSt_TC hn C Fc2
        have M2 := FMt_TM M Fm2
        have cq2 : c2 (n + 1) 0 = (q : Int) := (z7 _ _ (by omega) (by omega)).trans cq1
        have mq2 : m2 125 (9 + 0) = (q : Int) := (z8 _ _ (by omega) (by omega)).trans mq1
        have th := (mT_0 I I1 mq hq100 x2 (fun _ => z2)).2.2 rfl rfl
        have tt := (t262 (kind := 0) (x2 := (q : Int)) M2.1 (by decide) mq2 hq100).2
        have Fm3 : FMt m (px_up m2 125 (9 + 0) ((q + 1 : Nat) : Int)) := FMt_up Fm2 _ (by unfold fmt2; omega)
        refine clEnd hn (i := i2) h3 C2 z3 (by omega) z4 (show 0 < 9 by decide) cq2 (by omega) z5 (FMt_TM M Fm3) (SC_c z6 (fun b => px_up_cell _ _ _ _ (by decide))) hcl (pc.trans z1) (mHead sc (by decide) ky (Or.inr rfl) (th.trans tt)) Fc2 Fm3 ⟨(px_up_cell _ _ _ _ (by decide)).trans ((z8 123 8 (by decide) (fun w => absurd w.1 (by decide))).trans (x9 123 8 (by decide) (fun w => absurd w.1 (by decide)))), (px_up_cell _ _ _ _ (by decide)).trans ((z8 123 9 (by decide) (fun w => absurd w.1 (by decide))).trans (x9 123 9 (by decide) (fun w => absurd w.1 (by decide))))⟩ (fun c' m' w1 w2 w3 => ?_)
        refine spr_k0 hn S hq (show (q : Int) < 4 by omega) ⟨w1, fun a b v1 v2 v3 v4 => ?_⟩ ⟨?_, fun a b v1 v2 v3 v4 => ?_⟩ ?_ (fun j hj => ?_)
        · rw [w2 a b v1 v4, z7 a b v1 v3, x8 a b v1 v2]
        · rw [w3 _ _ (by omega), px_up_eq]
        · rw [w3 a b v1]
          unfold px_up
          rw [if_neg v4, z8 a b v1 (fun y => v3 ⟨Or.inl y.1, y.2⟩), x9 a b v1 v2]
        · rw [w3 _ _ (by omega), px_up_cell _ _ _ _ (by omega), z8 _ _ (by omega) (by omega), w2 _ _ (by omega) (by omega), z7 _ _ (by omega) (by omega)]
          exact x10
        · rw [w3 _ _ (by omega), px_up_cell _ _ _ _ (by omega), w2 _ _ (by omega) (by omega)]
          exact z9 j hj
theorem jT_1 {n : Nat} (hn : n = 4 ∨ n = 26) {T : Nat → Int} {N i s e cl : Nat} {c m : hp} (C : TC2 T N c) (M : TM T N m) (t : TK T N i s e 2) (ct : CT T s e 2 c) (sc : SC T s e 2 m) (S : SPR n c m) (ky : kyV T s (e - s) 0 9 = ((1 : Nat) : Int)) (hcl : cl < 100000) : clS n T N e cl c m (px_R (mm_Str_readClause, 0, [(2, (n : Int)), (2, 2), (9, 0), (9, 0), (9, 0)], [], (K0, c))) := by
  have le := TK_le t
  have h3 := SC_n4 sc
  have I := M.1
  have cnt := S.1 1 (by decide)
  obtain ⟨q, hq⟩ := Int.eq_ofNat_of_zero_le cnt.2.1
  have mq : m 125 (9 + 1) = (q : Int) := cnt.1.trans hq
  have lk : lim 1 = 4 := rfl
  have q4 : q ≤ 4 := by
    have := cnt.2.2
    omega
  have hq100 : q < 100 := by omega
  have hq6 : q ≤ 6 := by omega
  obtain ⟨h1, h2, _⟩ := cHead hn C t ct (by decide) ky hq
  by_cases full : q = 4
  · have p := h1 (by rw [full]; decide)
    have mf := mFull (kind := 1) (mx := 4) I (by decide) (by rw [mq, full])
    have If := FMt_IR I (FTw_FMt (flM_F 4 m))
    have th := (mT_1 (v2 := 0) (m2 := m) I If mq hq100 mf (fun z => absurd z (by decide))).1 rfl
    have tt := (t262 (kind := 1) (x2 := (q : Int)) If (by decide) (show flM 4 m 125 (9 + 1) = (q : Int) from (flM_F 4 m _ _ (fun z => absurd z.1 (by decide))).trans mq) hq100).1
    exact clF h3 p (mHead sc (by decide) ky (Or.inl rfl) (th.trans tt)) (by decide) (FSt_rf _ _) (FTw_FMt (flM_F _ _)) (flM_8 _ _).1 (by rw [(flM_8 _ _).2, sc.2.1, ct.2.1])
  · have qlt : q < 4 := by omega
    have p := h2 (show (q : Int) < 4 by omega) (by decide)
    rcases jName hn (kind := 1) (mx := 4) (by decide) qlt (by decide) C le.2.2.1 ct.2.2.1 hq M sc.2.2.1 mq (fun z hz => S.2.2.1 1 (by decide) (by decide) z (by omega)) with ⟨code, c', m', x1, x2, x3, x4, x5, x6, x7⟩ | ⟨c1, m1, i1, s1, e1, k1, x1, x2, x3, x4, x5, x6, x7, x8, x9, x10⟩
    · have cb := cl_bad (n := n) (kind := 1) (j := 0) (r := code) (c := c') (by decide) (by omega)
      have I' := FMt_IR I x5
      have th := (mT_1 (v2 := 0) (m2 := m) I I' mq hq100 x2 (fun z => absurd z (by decide))).1 rfl
      have pc : px_R (mm_Str_readClause, 0, [(2, (n : Int)), (2, 2), (9, 0), (9, 0), (9, 0)], [], (K0, c)) = some (code, (K0, c')) := by
        rw [p, x1]
        exact cb
      have tt : px_R (mm_Mod_readThing, 262, [(2, 123), (0, 1), (0, (q : Int)), (0, 0)], [], (K0, m')) = some (0, (K0, m')) := by
        rw [eq_Mod_readThing_262]
        simp only [px_rd_mk, px_wr_mk, Int.reduceToNat, Int.toNat_natCast, if_true, if_false, Option.bind_some, px_up_cell, px_up_slot, px_up_eq, ne_eq, Nat.reduceEqDiff, not_false_eq_true, Int.reduceEq, Int.reduceLT, Int.reduceLE, Int.reduceNeg, decide_true, decide_false, Bool.and_true, Bool.true_and, Bool.and_false, Bool.false_and, and_self, and_true, true_and, and_false, false_and, bi_T, bi_F, not_true_eq_false, Bool.false_eq_true]
      exact clF h3 pc (mHead sc (by decide) ky (Or.inl rfl) (th.trans tt)) x3 x4 x5 x6 x7
    · have Fc1 := RNc_F (show 1 < 9 by decide) x8
      have Fm1 := RNm_F x9
      have C1 := FSt_TC hn C Fc1
      have M1 := FMt_TM M Fm1
      have cq1 : c1 (n + 1) 1 = (q : Int) := (x8 _ _ (by omega) (by omega)).trans hq
      have mq1 : m1 125 (9 + 1) = (q : Int) := (x9 _ _ (by omega) (by omega)).trans mq
      have pc : px_R (mm_Str_readClause, 0, [(2, (n : Int)), (2, 2), (9, 0), (9, 0), (9, 0)], [], (K0, c)) = px_R (mm_Str_readClause, 59, [(2, (n : Int)), (2, 2), (0, ((1 : Nat) : Int)), (0, 0), (0, ((0 : Nat) : Int))], [], (K0, c1)) := by
        rw [p, x1]
        rfl
      rcases jRow hn (kind := 1) (q := q) (B := 128) (off := 4 * (4 + q)) (cn := 4) (by decide) (by decide) rfl (by decide) (by omega) (fun w j hj => by
        show px_ga (K0, w) 0 128 _ = true
        rw [ka_128]
        exact gd_ok (by omega)) (fun j hj => by unfold fmt2; omega) (by decide) (by omega) (lo0 := 0) (hi0 := 100) (hiR := 100) (by decide) (fun j j1 j2 => by
        unfold lowN higN
        rw [if_neg (by omega), if_neg (by omega)]
        exact ⟨rfl, rfl⟩) 4 0 i1 s1 e1 k1 c1 m1 rfl C1 x4 x5 cq1 M1 x6 x7 (fun j hj => absurd hj (by omega)) with ⟨code, c', m', z1, z2, z3, z4, z5, z6, z7⟩ | ⟨c2, m2, i2, s2, e2, k2, z1, z2, z0, z3, z4, z5, z6, z7, z8, z9⟩
      · have I1 := M1.1
        have th := (mT_1 I I1 mq hq100 x2 (fun _ => z2)).2.1 rfl rfl
        have tt : px_R (mm_Mod_readThing, 262, [(2, 123), (0, 1), (0, (q : Int)), (0, 0)], [], (K0, m')) = some (0, (K0, m')) := by
          rw [eq_Mod_readThing_262]
          simp only [px_rd_mk, px_wr_mk, Int.reduceToNat, Int.toNat_natCast, if_true, if_false, Option.bind_some, px_up_cell, px_up_slot, px_up_eq, ne_eq, Nat.reduceEqDiff, not_false_eq_true, Int.reduceEq, Int.reduceLT, Int.reduceLE, Int.reduceNeg, decide_true, decide_false, Bool.and_true, Bool.true_and, Bool.and_false, Bool.false_and, and_self, and_true, true_and, and_false, false_and, bi_T, bi_F, not_true_eq_false, Bool.false_eq_true]
        exact clF h3 (pc.trans z1) (mHead sc (by decide) ky (Or.inl rfl) (th.trans tt)) z3 (FSt_tr Fc1 z4) (FMt_tr Fm1 z5) z6 z7
      · have I1 := M1.1
        have Fc2 := FSt_tr Fc1 (RFc_F (show 1 < 9 by decide) z7)
        have Fm2 := FMt_tr Fm1 (RFm_F (fun b b1 b2 => by unfold fmt2; omega) z8)
        have C2 := FSt_TC hn C Fc2
        have M2 := FMt_TM M Fm2
        have cq2 : c2 (n + 1) 1 = (q : Int) := (z7 _ _ (by omega) (by omega)).trans cq1
        have mq2 : m2 125 (9 + 1) = (q : Int) := (z8 _ _ (by omega) (by omega)).trans mq1
        have th := (mT_1 I I1 mq hq100 x2 (fun _ => z2)).2.2 rfl rfl
        have tt := (t262 (kind := 1) (x2 := (q : Int)) M2.1 (by decide) mq2 hq100).2
        have Fm3 : FMt m (px_up m2 125 (9 + 1) ((q + 1 : Nat) : Int)) := FMt_up Fm2 _ (by unfold fmt2; omega)
        refine clEnd hn (i := i2) h3 C2 z3 (by omega) z4 (show 1 < 9 by decide) cq2 (by omega) z5 (FMt_TM M Fm3) (SC_c z6 (fun b => px_up_cell _ _ _ _ (by decide))) hcl (pc.trans z1) (mHead sc (by decide) ky (Or.inr rfl) (th.trans tt)) Fc2 Fm3 ⟨(px_up_cell _ _ _ _ (by decide)).trans ((z8 123 8 (by decide) (fun w => absurd w.1 (by decide))).trans (x9 123 8 (by decide) (fun w => absurd w.1 (by decide)))), (px_up_cell _ _ _ _ (by decide)).trans ((z8 123 9 (by decide) (fun w => absurd w.1 (by decide))).trans (x9 123 9 (by decide) (fun w => absurd w.1 (by decide))))⟩ (fun c' m' w1 w2 w3 => ?_)
        refine spr_k1 hn S hq (show (q : Int) < 4 by omega) ⟨w1, fun a b v1 v2 v3 v4 => ?_⟩ ⟨?_, fun a b v1 v2 v3 v4 => ?_⟩ ?_ (fun j hj => ?_)
        · rw [w2 a b v1 v4, z7 a b v1 v3, x8 a b v1 v2]
        · rw [w3 _ _ (by omega), px_up_eq]
        · rw [w3 a b v1]
          unfold px_up
          rw [if_neg v4, z8 a b v1 (fun y => v3 ⟨Or.inl y.1, y.2⟩), x9 a b v1 v2]
        · rw [w3 _ _ (by omega), px_up_cell _ _ _ _ (by omega), z8 _ _ (by omega) (by omega), w2 _ _ (by omega) (by omega), z7 _ _ (by omega) (by omega)]
          exact x10
        · rw [w3 _ _ (by omega), px_up_cell _ _ _ _ (by omega), w2 _ _ (by omega) (by omega)]
          exact z9 j hj
theorem jT_2 {n : Nat} (hn : n = 4 ∨ n = 26) {T : Nat → Int} {N i s e cl : Nat} {c m : hp} (C : TC2 T N c) (M : TM T N m) (t : TK T N i s e 2) (ct : CT T s e 2 c) (sc : SC T s e 2 m) (S : SPR n c m) (ky : kyV T s (e - s) 0 9 = ((2 : Nat) : Int)) (hcl : cl < 100000) : clS n T N e cl c m (px_R (mm_Str_readClause, 0, [(2, (n : Int)), (2, 2), (9, 0), (9, 0), (9, 0)], [], (K0, c))) := by
  have le := TK_le t
  have h3 := SC_n4 sc
  have I := M.1
  have cnt := S.1 2 (by decide)
  obtain ⟨q, hq⟩ := Int.eq_ofNat_of_zero_le cnt.2.1
  have mq : m 125 (9 + 2) = (q : Int) := cnt.1.trans hq
  have lk : lim 2 = 6 := rfl
  have q4 : q ≤ 6 := by
    have := cnt.2.2
    omega
  have hq100 : q < 100 := by omega
  have hq6 : q ≤ 6 := by omega
  obtain ⟨h1, h2, _⟩ := cHead hn C t ct (by decide) ky hq
  by_cases full : q = 6
  · have p := h1 (by rw [full]; decide)
    have mf := mFull (kind := 2) (mx := 6) I (by decide) (by rw [mq, full])
    have If := FMt_IR I (FTw_FMt (flM_F 4 m))
    have th := (mT_2 (v2 := 0) (m2 := m) I If mq hq100 mf (fun z => absurd z (by decide))).1 rfl
    have tt := (t262 (kind := 2) (x2 := (q : Int)) If (by decide) (show flM 4 m 125 (9 + 2) = (q : Int) from (flM_F 4 m _ _ (fun z => absurd z.1 (by decide))).trans mq) hq100).1
    exact clF h3 p (mHead sc (by decide) ky (Or.inl rfl) (th.trans tt)) (by decide) (FSt_rf _ _) (FTw_FMt (flM_F _ _)) (flM_8 _ _).1 (by rw [(flM_8 _ _).2, sc.2.1, ct.2.1])
  · have qlt : q < 6 := by omega
    have p := h2 (show (q : Int) < 6 by omega) (by decide)
    rcases jName hn (kind := 2) (mx := 6) (by decide) qlt (by decide) C le.2.2.1 ct.2.2.1 hq M sc.2.2.1 mq (fun z hz => S.2.2.1 2 (by decide) (by decide) z (by omega)) with ⟨code, c', m', x1, x2, x3, x4, x5, x6, x7⟩ | ⟨c1, m1, i1, s1, e1, k1, x1, x2, x3, x4, x5, x6, x7, x8, x9, x10⟩
    · have cb := cl_bad (n := n) (kind := 2) (j := 0) (r := code) (c := c') (by decide) (by omega)
      have I' := FMt_IR I x5
      have th := (mT_2 (v2 := 0) (m2 := m) I I' mq hq100 x2 (fun z => absurd z (by decide))).1 rfl
      have pc : px_R (mm_Str_readClause, 0, [(2, (n : Int)), (2, 2), (9, 0), (9, 0), (9, 0)], [], (K0, c)) = some (code, (K0, c')) := by
        rw [p, x1]
        exact cb
      have tt : px_R (mm_Mod_readThing, 262, [(2, 123), (0, 2), (0, (q : Int)), (0, 0)], [], (K0, m')) = some (0, (K0, m')) := by
        rw [eq_Mod_readThing_262]
        simp only [px_rd_mk, px_wr_mk, Int.reduceToNat, Int.toNat_natCast, if_true, if_false, Option.bind_some, px_up_cell, px_up_slot, px_up_eq, ne_eq, Nat.reduceEqDiff, not_false_eq_true, Int.reduceEq, Int.reduceLT, Int.reduceLE, Int.reduceNeg, decide_true, decide_false, Bool.and_true, Bool.true_and, Bool.and_false, Bool.false_and, and_self, and_true, true_and, and_false, false_and, bi_T, bi_F, not_true_eq_false, Bool.false_eq_true]
      exact clF h3 pc (mHead sc (by decide) ky (Or.inl rfl) (th.trans tt)) x3 x4 x5 x6 x7
    · have Fc1 := RNc_F (show 2 < 9 by decide) x8
      have Fm1 := RNm_F x9
      have C1 := FSt_TC hn C Fc1
      have M1 := FMt_TM M Fm1
      have cq1 : c1 (n + 1) 2 = (q : Int) := (x8 _ _ (by omega) (by omega)).trans hq
      have mq1 : m1 125 (9 + 2) = (q : Int) := (x9 _ _ (by omega) (by omega)).trans mq
      have pc : px_R (mm_Str_readClause, 0, [(2, (n : Int)), (2, 2), (9, 0), (9, 0), (9, 0)], [], (K0, c)) = px_R (mm_Str_readClause, 59, [(2, (n : Int)), (2, 2), (0, ((2 : Nat) : Int)), (0, 0), (0, ((0 : Nat) : Int))], [], (K0, c1)) := by
        rw [p, x1]
        rfl
      rcases jRow hn (kind := 2) (q := q) (B := 129) (off := 4 * (6 + q)) (cn := 4) (by decide) (by decide) rfl (by decide) (by omega) (fun w j hj => by
        show px_ga (K0, w) 0 129 _ = true
        rw [ka_129]
        exact gd_ok (by omega)) (fun j hj => by unfold fmt2; omega) (by decide) (by omega) (lo0 := 0) (hi0 := 9) (hiR := 9) (by decide) (fun j j1 j2 => by
        unfold lowN higN
        rw [if_neg (by omega), if_neg (by omega)]
        exact ⟨rfl, rfl⟩) 4 0 i1 s1 e1 k1 c1 m1 rfl C1 x4 x5 cq1 M1 x6 x7 (fun j hj => absurd hj (by omega)) with ⟨code, c', m', z1, z2, z3, z4, z5, z6, z7⟩ | ⟨c2, m2, i2, s2, e2, k2, z1, z2, z0, z3, z4, z5, z6, z7, z8, z9⟩
      · have I1 := M1.1
        have th := (mT_2 I I1 mq hq100 x2 (fun _ => z2)).2.1 rfl rfl
        have tt : px_R (mm_Mod_readThing, 262, [(2, 123), (0, 2), (0, (q : Int)), (0, 0)], [], (K0, m')) = some (0, (K0, m')) := by
          rw [eq_Mod_readThing_262]
          simp only [px_rd_mk, px_wr_mk, Int.reduceToNat, Int.toNat_natCast, if_true, if_false, Option.bind_some, px_up_cell, px_up_slot, px_up_eq, ne_eq, Nat.reduceEqDiff, not_false_eq_true, Int.reduceEq, Int.reduceLT, Int.reduceLE, Int.reduceNeg, decide_true, decide_false, Bool.and_true, Bool.true_and, Bool.and_false, Bool.false_and, and_self, and_true, true_and, and_false, false_and, bi_T, bi_F, not_true_eq_false, Bool.false_eq_true]
        exact clF h3 (pc.trans z1) (mHead sc (by decide) ky (Or.inl rfl) (th.trans tt)) z3 (FSt_tr Fc1 z4) (FMt_tr Fm1 z5) z6 z7
      · have I1 := M1.1
        have Fc2 := FSt_tr Fc1 (RFc_F (show 2 < 9 by decide) z7)
        have Fm2 := FMt_tr Fm1 (RFm_F (fun b b1 b2 => by unfold fmt2; omega) z8)
        have C2 := FSt_TC hn C Fc2
        have M2 := FMt_TM M Fm2
        have cq2 : c2 (n + 1) 2 = (q : Int) := (z7 _ _ (by omega) (by omega)).trans cq1
        have mq2 : m2 125 (9 + 2) = (q : Int) := (z8 _ _ (by omega) (by omega)).trans mq1
        have th := (mT_2 I I1 mq hq100 x2 (fun _ => z2)).2.2 rfl rfl
        have tt := (t262 (kind := 2) (x2 := (q : Int)) M2.1 (by decide) mq2 hq100).2
        have Fm3 : FMt m (px_up m2 125 (9 + 2) ((q + 1 : Nat) : Int)) := FMt_up Fm2 _ (by unfold fmt2; omega)
        refine clEnd hn (i := i2) h3 C2 z3 (by omega) z4 (show 2 < 9 by decide) cq2 (by omega) z5 (FMt_TM M Fm3) (SC_c z6 (fun b => px_up_cell _ _ _ _ (by decide))) hcl (pc.trans z1) (mHead sc (by decide) ky (Or.inr rfl) (th.trans tt)) Fc2 Fm3 ⟨(px_up_cell _ _ _ _ (by decide)).trans ((z8 123 8 (by decide) (fun w => absurd w.1 (by decide))).trans (x9 123 8 (by decide) (fun w => absurd w.1 (by decide)))), (px_up_cell _ _ _ _ (by decide)).trans ((z8 123 9 (by decide) (fun w => absurd w.1 (by decide))).trans (x9 123 9 (by decide) (fun w => absurd w.1 (by decide))))⟩ (fun c' m' w1 w2 w3 => ?_)
        refine spr_k2 hn S hq (show (q : Int) < 6 by omega) ⟨w1, fun a b v1 v2 v3 v4 => ?_⟩ ⟨?_, fun a b v1 v2 v3 v4 => ?_⟩ ?_ (fun j hj => ?_)
        · rw [w2 a b v1 v4, z7 a b v1 v3, x8 a b v1 v2]
        · rw [w3 _ _ (by omega), px_up_eq]
        · rw [w3 a b v1]
          unfold px_up
          rw [if_neg v4, z8 a b v1 (fun y => v3 ⟨Or.inl y.1, y.2⟩), x9 a b v1 v2]
        · rw [w3 _ _ (by omega), px_up_cell _ _ _ _ (by omega), z8 _ _ (by omega) (by omega), w2 _ _ (by omega) (by omega), z7 _ _ (by omega) (by omega)]
          exact x10
        · rw [w3 _ _ (by omega), px_up_cell _ _ _ _ (by omega), w2 _ _ (by omega) (by omega)]
          exact z9 j hj
theorem jT_5 {n : Nat} (hn : n = 4 ∨ n = 26) {T : Nat → Int} {N i s e cl : Nat} {c m : hp} (C : TC2 T N c) (M : TM T N m) (t : TK T N i s e 2) (ct : CT T s e 2 c) (sc : SC T s e 2 m) (S : SPR n c m) (ky : kyV T s (e - s) 0 9 = ((5 : Nat) : Int)) (hcl : cl < 100000) : clS n T N e cl c m (px_R (mm_Str_readClause, 0, [(2, (n : Int)), (2, 2), (9, 0), (9, 0), (9, 0)], [], (K0, c))) := by
  have le := TK_le t
  have h3 := SC_n4 sc
  have I := M.1
  have cnt := S.1 5 (by decide)
  obtain ⟨q, hq⟩ := Int.eq_ofNat_of_zero_le cnt.2.1
  have mq : m 125 (9 + 5) = (q : Int) := cnt.1.trans hq
  have lk : lim 5 = 4 := rfl
  have q4 : q ≤ 4 := by
    have := cnt.2.2
    omega
  have hq100 : q < 100 := by omega
  have hq6 : q ≤ 6 := by omega
  obtain ⟨h1, h2, _⟩ := cHead hn C t ct (by decide) ky hq
  by_cases full : q = 4
  · have p := h1 (by rw [full]; decide)
    have mf := mFull (kind := 5) (mx := 4) I (by decide) (by rw [mq, full])
    have If := FMt_IR I (FTw_FMt (flM_F 4 m))
    have th := (mT_5 (v2 := 0) (m2 := m) I If mq hq100 mf (fun z => absurd z (by decide))).1 rfl
    have tt := (t262 (kind := 5) (x2 := (q : Int)) If (by decide) (show flM 4 m 125 (9 + 5) = (q : Int) from (flM_F 4 m _ _ (fun z => absurd z.1 (by decide))).trans mq) hq100).1
    exact clF h3 p (mHead sc (by decide) ky (Or.inl rfl) (th.trans tt)) (by decide) (FSt_rf _ _) (FTw_FMt (flM_F _ _)) (flM_8 _ _).1 (by rw [(flM_8 _ _).2, sc.2.1, ct.2.1])
  · have qlt : q < 4 := by omega
    have p := h2 (show (q : Int) < 4 by omega) (by decide)
    rcases jName hn (kind := 5) (mx := 4) (by decide) qlt (by decide) C le.2.2.1 ct.2.2.1 hq M sc.2.2.1 mq (fun z hz => S.2.2.1 5 (by decide) (by decide) z (by omega)) with ⟨code, c', m', x1, x2, x3, x4, x5, x6, x7⟩ | ⟨c1, m1, i1, s1, e1, k1, x1, x2, x3, x4, x5, x6, x7, x8, x9, x10⟩
    · have cb := cl_bad (n := n) (kind := 5) (j := 0) (r := code) (c := c') (by decide) (by omega)
      have I' := FMt_IR I x5
      have th := (mT_5 (v2 := 0) (m2 := m) I I' mq hq100 x2 (fun z => absurd z (by decide))).1 rfl
      have pc : px_R (mm_Str_readClause, 0, [(2, (n : Int)), (2, 2), (9, 0), (9, 0), (9, 0)], [], (K0, c)) = some (code, (K0, c')) := by
        rw [p, x1]
        exact cb
      have tt : px_R (mm_Mod_readThing, 262, [(2, 123), (0, 5), (0, (q : Int)), (0, 0)], [], (K0, m')) = some (0, (K0, m')) := by
        rw [eq_Mod_readThing_262]
        simp only [px_rd_mk, px_wr_mk, Int.reduceToNat, Int.toNat_natCast, if_true, if_false, Option.bind_some, px_up_cell, px_up_slot, px_up_eq, ne_eq, Nat.reduceEqDiff, not_false_eq_true, Int.reduceEq, Int.reduceLT, Int.reduceLE, Int.reduceNeg, decide_true, decide_false, Bool.and_true, Bool.true_and, Bool.and_false, Bool.false_and, and_self, and_true, true_and, and_false, false_and, bi_T, bi_F, not_true_eq_false, Bool.false_eq_true]
      exact clF h3 pc (mHead sc (by decide) ky (Or.inl rfl) (th.trans tt)) x3 x4 x5 x6 x7
    · have Fc1 := RNc_F (show 5 < 9 by decide) x8
      have Fm1 := RNm_F x9
      have C1 := FSt_TC hn C Fc1
      have M1 := FMt_TM M Fm1
      have cq1 : c1 (n + 1) 5 = (q : Int) := (x8 _ _ (by omega) (by omega)).trans hq
      have mq1 : m1 125 (9 + 5) = (q : Int) := (x9 _ _ (by omega) (by omega)).trans mq
      have pc : px_R (mm_Str_readClause, 0, [(2, (n : Int)), (2, 2), (9, 0), (9, 0), (9, 0)], [], (K0, c)) = px_R (mm_Str_readClause, 59, [(2, (n : Int)), (2, 2), (0, ((5 : Nat) : Int)), (0, 0), (0, ((0 : Nat) : Int))], [], (K0, c1)) := by
        rw [p, x1]
        rfl
      rcases jRow hn (kind := 5) (q := q) (B := 134) (off := 5 * (4 + q)) (cn := 5) (by decide) (by decide) rfl (by decide) (by omega) (fun w j hj => by
        show px_ga (K0, w) 0 134 _ = true
        rw [ka_134]
        exact gd_ok (by omega)) (fun j hj => by unfold fmt2; omega) (by decide) (by omega) (lo0 := 1) (hi0 := 9) (hiR := 9) (by decide) (fun j j1 j2 => by
        unfold lowN higN
        rw [if_neg (by omega), if_neg (by omega)]
        exact ⟨rfl, rfl⟩) 5 0 i1 s1 e1 k1 c1 m1 rfl C1 x4 x5 cq1 M1 x6 x7 (fun j hj => absurd hj (by omega)) with ⟨code, c', m', z1, z2, z3, z4, z5, z6, z7⟩ | ⟨c2, m2, i2, s2, e2, k2, z1, z2, z0, z3, z4, z5, z6, z7, z8, z9⟩
      · have I1 := M1.1
        have th := (mT_5 I I1 mq hq100 x2 (fun _ => z2)).2.1 rfl rfl
        have tt : px_R (mm_Mod_readThing, 262, [(2, 123), (0, 5), (0, (q : Int)), (0, 0)], [], (K0, m')) = some (0, (K0, m')) := by
          rw [eq_Mod_readThing_262]
          simp only [px_rd_mk, px_wr_mk, Int.reduceToNat, Int.toNat_natCast, if_true, if_false, Option.bind_some, px_up_cell, px_up_slot, px_up_eq, ne_eq, Nat.reduceEqDiff, not_false_eq_true, Int.reduceEq, Int.reduceLT, Int.reduceLE, Int.reduceNeg, decide_true, decide_false, Bool.and_true, Bool.true_and, Bool.and_false, Bool.false_and, and_self, and_true, true_and, and_false, false_and, bi_T, bi_F, not_true_eq_false, Bool.false_eq_true]
        exact clF h3 (pc.trans z1) (mHead sc (by decide) ky (Or.inl rfl) (th.trans tt)) z3 (FSt_tr Fc1 z4) (FMt_tr Fm1 z5) z6 z7
      · have I1 := M1.1
        have Fc2 := FSt_tr Fc1 (RFc_F (show 5 < 9 by decide) z7)
        have Fm2 := FMt_tr Fm1 (RFm_F (fun b b1 b2 => by unfold fmt2; omega) z8)
        have C2 := FSt_TC hn C Fc2
        have M2 := FMt_TM M Fm2
        have cq2 : c2 (n + 1) 5 = (q : Int) := (z7 _ _ (by omega) (by omega)).trans cq1
        have mq2 : m2 125 (9 + 5) = (q : Int) := (z8 _ _ (by omega) (by omega)).trans mq1
        have th := (mT_5 I I1 mq hq100 x2 (fun _ => z2)).2.2 rfl rfl
        have tt := (t262 (kind := 5) (x2 := (q : Int)) M2.1 (by decide) mq2 hq100).2
        have Fm3 : FMt m (px_up m2 125 (9 + 5) ((q + 1 : Nat) : Int)) := FMt_up Fm2 _ (by unfold fmt2; omega)
        refine clEnd hn (i := i2) h3 C2 z3 (by omega) z4 (show 5 < 9 by decide) cq2 (by omega) z5 (FMt_TM M Fm3) (SC_c z6 (fun b => px_up_cell _ _ _ _ (by decide))) hcl (pc.trans z1) (mHead sc (by decide) ky (Or.inr rfl) (th.trans tt)) Fc2 Fm3 ⟨(px_up_cell _ _ _ _ (by decide)).trans ((z8 123 8 (by decide) (fun w => absurd w.1 (by decide))).trans (x9 123 8 (by decide) (fun w => absurd w.1 (by decide)))), (px_up_cell _ _ _ _ (by decide)).trans ((z8 123 9 (by decide) (fun w => absurd w.1 (by decide))).trans (x9 123 9 (by decide) (fun w => absurd w.1 (by decide))))⟩ (fun c' m' w1 w2 w3 => ?_)
        refine spr_k5 hn S hq (show (q : Int) < 4 by omega) ⟨w1, fun a b v1 v2 v3 v4 => ?_⟩ ⟨?_, fun a b v1 v2 v3 v4 => ?_⟩ ?_ (fun j hj => ?_)
        · rw [w2 a b v1 v4, z7 a b v1 v3, x8 a b v1 v2]
        · rw [w3 _ _ (by omega), px_up_eq]
        · rw [w3 a b v1]
          unfold px_up
          rw [if_neg v4, z8 a b v1 (fun y => v3 ⟨Or.inl y.1, y.2⟩), x9 a b v1 v2]
        · rw [w3 _ _ (by omega), px_up_cell _ _ _ _ (by omega), z8 _ _ (by omega) (by omega), w2 _ _ (by omega) (by omega), z7 _ _ (by omega) (by omega)]
          exact x10
        · rw [w3 _ _ (by omega), px_up_cell _ _ _ _ (by omega), w2 _ _ (by omega) (by omega)]
          exact z9 j hj
