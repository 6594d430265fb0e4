/-! Clauses of places on both sides. -/
theorem mT_3 {q : Nat} {m m1 m2 : hp} {v v2 : Int} (I : IR m) (I1 : IR m1) (hq : m 125 (9 + 3) = (q : Int)) (e1 : px_R (mm_Mod_readName, 0, [(2, 123), (0, 3), (0, 5), (9, 0), (9, 0)], [], (K0, m)) = some (v, (K0, m1))) (e2 : v = 1 → px_R (mm_Mod_readPlace, 0, [(2, 123), (2, 130), (2, 131), (0, 5), (0, (q : Int)), (9, 0)], [], (K0, m1)) = some (v2, (K0, m2))) : (v = 0 → px_R (mm_Mod_readThing, 0, [(2, 123), (0, 3), (9, 0), (9, 0)], [], (K0, m)) = px_R (mm_Mod_readThing, 262, [(2, 123), (0, 3), (0, (q : Int)), (0, 0)], [], (K0, m1))) ∧ (v = 1 → v2 = 0 → px_R (mm_Mod_readThing, 0, [(2, 123), (0, 3), (9, 0), (9, 0)], [], (K0, m)) = px_R (mm_Mod_readThing, 262, [(2, 123), (0, 3), (0, (q : Int)), (0, 0)], [], (K0, m2))) ∧ (v = 1 → v2 = 1 → px_R (mm_Mod_readThing, 0, [(2, 123), (0, 3), (9, 0), (9, 0)], [], (K0, m)) = px_R (mm_Mod_readThing, 262, [(2, 123), (0, 3), (0, (q : Int)), (0, 1)], [], (K0, m2))) := by
  have w9 : px_w (9 + 3) = 12 := rfl
  have hq : m 125 12 = (q : Int) := hq
  refine ⟨fun z => ?_, fun z y => ?_, fun z y => ?_⟩
  · subst z
    rw [eq_Mod_readThing_0]
    simp only [px_rd_mk, px_wr_mk, Int.reduceToNat, Int.toNat_natCast, if_true, if_false, Option.bind_some, px_up_cell, px_up_slot, px_up_eq, ne_eq, Nat.reduceEqDiff, not_false_eq_true, Int.reduceEq, Int.reduceLT, Int.reduceLE, Int.reduceNeg, decide_true, decide_false, Bool.and_true, Bool.true_and, Bool.and_false, Bool.false_and, and_self, and_true, true_and, and_false, false_and, bi_T, bi_F, not_true_eq_false, Bool.false_eq_true, kg_123, ka_125, ir_123_12 I, w9, hq, e1]
  · have e2 := e2 z
    subst z y
    rw [eq_Mod_readThing_0]
    simp only [px_rd_mk, px_wr_mk, Int.reduceToNat, Int.toNat_natCast, if_true, if_false, Option.bind_some, px_up_cell, px_up_slot, px_up_eq, ne_eq, Nat.reduceEqDiff, not_false_eq_true, Int.reduceEq, Int.reduceLT, Int.reduceLE, Int.reduceNeg, decide_true, decide_false, Bool.and_true, Bool.true_and, Bool.and_false, Bool.false_and, and_self, and_true, true_and, and_false, false_and, bi_T, bi_F, not_true_eq_false, Bool.false_eq_true, kg_123, ka_125, ir_123_12 I, ir_123_17 I1, ir_123_18 I1, w9, hq, e1, e2]
  · have e2 := e2 z
    subst z y
    rw [eq_Mod_readThing_0]
    simp only [px_rd_mk, px_wr_mk, Int.reduceToNat, Int.toNat_natCast, if_true, if_false, Option.bind_some, px_up_cell, px_up_slot, px_up_eq, ne_eq, Nat.reduceEqDiff, not_false_eq_true, Int.reduceEq, Int.reduceLT, Int.reduceLE, Int.reduceNeg, decide_true, decide_false, Bool.and_true, Bool.true_and, Bool.and_false, Bool.false_and, and_self, and_true, true_and, and_false, false_and, bi_T, bi_F, not_true_eq_false, Bool.false_eq_true, kg_123, ka_125, ir_123_12 I, ir_123_17 I1, ir_123_18 I1, w9, hq, e1, e2]
theorem mT_4 {q : Nat} {m m1 m2 : hp} {v2 : Int} (I : IR m) (I1 : IR m1) (hq : m 125 (9 + 4) = (q : Int)) (ql : q < 4) (e1 : px_R (mm_Mod_scan, 0, [(2, 123), (9, 0), (9, 0), (9, 0)], [], (K0, m)) = some (0, (K0, m1))) (e2 : px_R (mm_Mod_readPlace, 0, [(2, 123), (2, 132), (2, 133), (0, 4), (0, (q : Int)), (9, 0)], [], (K0, m1)) = some (v2, (K0, m2))) : px_R (mm_Mod_readThing, 0, [(2, 123), (0, 4), (9, 0), (9, 0)], [], (K0, m)) = px_R (mm_Mod_readThing, 262, [(2, 123), (0, 4), (0, (q : Int)), (0, v2)], [], (K0, m2)) := by
  have w9 : px_w (9 + 4) = 13 := rfl
  have hq : m 125 13 = (q : Int) := hq
  have n4 : ((q : Int) = 4) = False := eq_false (by omega)
  rw [eq_Mod_readThing_0]
  simp only [px_rd_mk, px_wr_mk, Int.reduceToNat, Int.toNat_natCast, if_true, if_false, Option.bind_some, px_up_cell, px_up_slot, px_up_eq, ne_eq, Nat.reduceEqDiff, not_false_eq_true, Int.reduceEq, Int.reduceLT, Int.reduceLE, Int.reduceNeg, decide_true, decide_false, Bool.and_true, Bool.true_and, Bool.and_false, Bool.false_and, and_self, and_true, true_and, and_false, false_and, bi_T, bi_F, not_true_eq_false, Bool.false_eq_true, kg_123, ka_125, ir_123_12 I, ir_123_19 I1, ir_123_20 I1, w9, hq, n4, e1, e2]
theorem mT_4f {m : hp} (I : IR m) (hq : m 125 (9 + 4) = 4) : px_R (mm_Mod_readThing, 0, [(2, 123), (0, 4), (9, 0), (9, 0)], [], (K0, m)) = some (0, (K0, flM 4 m)) := by
  have w9 : px_w (9 + 4) = 13 := rfl
  have hq : m 125 13 = 4 := hq
  rw [eq_Mod_readThing_0]
  simp only [px_rd_mk, px_wr_mk, Int.reduceToNat, Int.toNat_natCast, if_true, if_false, Option.bind_some, px_up_cell, px_up_slot, px_up_eq, ne_eq, Nat.reduceEqDiff, not_false_eq_true, Int.reduceEq, Int.reduceLT, Int.reduceLE, Int.reduceNeg, decide_true, decide_false, Bool.and_true, Bool.true_and, Bool.and_false, Bool.false_and, and_self, and_true, true_and, and_false, false_and, bi_T, bi_F, not_true_eq_false, Bool.false_eq_true, kg_123, ka_125, ir_123_12 I, w9, hq, R_fails]
theorem RPm_F {X Y p : Nat} {c d : hp} (fX : fmt2 X p) (fY : fmt2 Y p) (F : RPm X Y p c d) : FMt c d := fun a b z => F a b (fun w => z (by unfold fmt2; omega)) (fun w => z (by
  rcases w with ⟨rfl | rfl, rfl⟩
  · exact fX
  · exact fY))
theorem jT_3 {n : Nat} (hn : n = 4 ∨ n = 26) {T : Nat → Int} {N i s e cl : Nat} {c m : hp} (C : TC2 T N c) (M : TM T N m) (t : TK T N i s e 2) (ct : CT T s e 2 c) (sc : SC T s e 2 m) (S : SPR n c m) (ky : kyV T s (e - s) 0 9 = ((3 : Nat) : Int)) (hcl : cl < 100000) : clS n T N e cl c m (px_R (mm_Str_readClause, 0, [(2, (n : Int)), (2, 2), (9, 0), (9, 0), (9, 0)], [], (K0, c))) := by
  have le := TK_le t
  have h3 := SC_n4 sc
  have I := M.1
  have cnt := S.1 3 (by decide)
  obtain ⟨q, hq⟩ := Int.eq_ofNat_of_zero_le cnt.2.1
  have mq : m 125 (9 + 3) = (q : Int) := cnt.1.trans hq
  have lk : lim 3 = 5 := rfl
  have q4 : q ≤ 5 := by
    have := cnt.2.2
    omega
  have hq100 : q < 100 := by omega
  have hq6 : q ≤ 6 := by omega
  obtain ⟨h1, h2, h2b⟩ := cHead hn C t ct (by decide) ky hq
  by_cases full : q = 5
  · have p := h1 (by rw [full]; decide)
    have mf := mFull (kind := 3) (mx := 5) I (by decide) (by rw [mq, full])
    have If := FMt_IR I (FTw_FMt (flM_F 4 m))
    have th := (mT_3 (v2 := 0) (m2 := m) I If mq mf (fun z => absurd z (by decide))).1 rfl
    have tt := (t262 (kind := 3) (x2 := (q : Int)) If (by decide) (show flM 4 m 125 (9 + 3) = (q : Int) from (flM_F 4 m _ _ (fun z => absurd z.1 (by decide))).trans mq) hq100).1
    exact clF h3 p (mHead sc (by decide) ky (Or.inl rfl) (th.trans tt)) (by decide) (FSt_rf _ _) (FTw_FMt (flM_F _ _)) (flM_8 _ _).1 (by rw [(flM_8 _ _).2, sc.2.1, ct.2.1])
  · have qlt : q < 5 := by omega
    have p := h2 (show (q : Int) < 5 by omega) (by decide)
    rcases jName hn (kind := 3) (mx := 5) (by decide) qlt (by decide) C le.2.2.1 ct.2.2.1 hq M sc.2.2.1 mq (fun z hz => S.2.2.1 3 (by decide) (by decide) z (by omega)) with ⟨code, c', m', x1, x2, x3, x4, x5, x6, x7⟩ | ⟨c1, m1, i1, s1, e1, k1, x1, x2, x3, x4, x5, x6, x7, x8, x9, x10⟩
    · have cb := cl_bad (n := n) (kind := 3) (j := 0) (r := code) (c := c') (by decide) (by omega)
      have I' := FMt_IR I x5
      have th := (mT_3 (v2 := 0) (m2 := m) I I' mq x2 (fun z => absurd z (by decide))).1 rfl
      have pc : px_R (mm_Str_readClause, 0, [(2, (n : Int)), (2, 2), (9, 0), (9, 0), (9, 0)], [], (K0, c)) = some (code, (K0, c')) := by
        rw [p, x1]
        exact cb
      have tt : px_R (mm_Mod_readThing, 262, [(2, 123), (0, 3), (0, (q : Int)), (0, 0)], [], (K0, m')) = some (0, (K0, m')) := by
        rw [eq_Mod_readThing_262]
        simp only [px_rd_mk, px_wr_mk, Int.reduceToNat, Int.toNat_natCast, if_true, if_false, Option.bind_some, px_up_cell, px_up_slot, px_up_eq, ne_eq, Nat.reduceEqDiff, not_false_eq_true, Int.reduceEq, Int.reduceLT, Int.reduceLE, Int.reduceNeg, decide_true, decide_false, Bool.and_true, Bool.true_and, Bool.and_false, Bool.false_and, and_self, and_true, true_and, and_false, false_and, bi_T, bi_F, not_true_eq_false, Bool.false_eq_true]
      exact clF h3 pc (mHead sc (by decide) ky (Or.inl rfl) (th.trans tt)) x3 x4 x5 x6 x7
    · have Fc1 := RNc_F (show 3 < 9 by decide) x8
      have Fm1 := RNm_F x9
      have C1 := FSt_TC hn C Fc1
      have M1 := FMt_TM M Fm1
      have I1 := M1.1
      have cq1 : c1 (n + 1) 3 = (q : Int) := (x8 _ _ (by omega) (by omega)).trans hq
      have mq1 : m1 125 (9 + 3) = (q : Int) := (x9 _ _ (by omega) (by omega)).trans mq
      have pc : px_R (mm_Str_readClause, 0, [(2, (n : Int)), (2, 2), (9, 0), (9, 0), (9, 0)], [], (K0, c)) = px_R (mm_Str_readClause, 59, [(2, (n : Int)), (2, 2), (0, ((3 : Nat) : Int)), (0, 0), (0, 0)], [], (K0, c1)) := by
        rw [p, x1]
        rfl
      have thF : ∀ {m'}, px_R (mm_Mod_readPlace, 0, [(2, 123), (2, 130), (2, 131), (0, 5), (0, (q : Int)), (9, 0)], [], (K0, m1)) = some (0, (K0, m')) → px_R (mm_Mod_readThing, 0, [(2, 123), (0, 3), (9, 0), (9, 0)], [], (K0, m)) = px_R (mm_Mod_readThing, 262, [(2, 123), (0, 3), (0, (q : Int)), (0, 0)], [], (K0, m')) := fun z2 => (mT_3 I I1 mq x2 (fun _ => z2)).2.1 rfl rfl
      have thT : ∀ {m'}, px_R (mm_Mod_readPlace, 0, [(2, 123), (2, 130), (2, 131), (0, 5), (0, (q : Int)), (9, 0)], [], (K0, m1)) = some (1, (K0, m')) → px_R (mm_Mod_readThing, 0, [(2, 123), (0, 3), (9, 0), (9, 0)], [], (K0, m)) = px_R (mm_Mod_readThing, 262, [(2, 123), (0, 3), (0, (q : Int)), (0, 1)], [], (K0, m')) := fun z2 => (mT_3 I I1 mq x2 (fun _ => z2)).2.2 rfl rfl
      rcases jPlace hn (kind := 3) (q := q) (X := 130) (Y := 131) (off := 5) (by decide) (by omega) C1 x4 x5 cq1 M1 x6 x7 (fun w j hj => by
        show px_ga (K0, w) 0 130 _ = true
        rw [ka_130]
        exact gd_ok (by omega)) (fun w j hj => by
        show px_ga (K0, w) 0 131 _ = true
        rw [ka_131]
        exact gd_ok (by omega)) (by unfold fmt2; omega) (by unfold fmt2; omega) (by decide) (by decide) (fun z hz => by
        have P := S.2.2.2.2.2.2.2.1 z (by omega)
        rw [x9 _ _ (by omega) (by omega), x9 _ _ (by omega) (by omega), x8 _ (5 * z) (by omega) (by omega), x8 _ (5 * z + 1) (by omega) (by omega)]
        exact ⟨P.1.1, P.2.1⟩) with ⟨code, c', m', z1, z2, z3, z4, z5, z6, z7⟩ | ⟨c2, m2, i2, s2, e2, k2, z1, z2, z0, z3, z4, z5, z6, z7, z8, z9, z10⟩
      · have tt : px_R (mm_Mod_readThing, 262, [(2, 123), (0, 3), (0, (q : Int)), (0, 0)], [], (K0, m')) = some (0, (K0, m')) := by
          rw [eq_Mod_readThing_262]
          simp only [px_rd_mk, px_wr_mk, Int.reduceToNat, Int.toNat_natCast, if_true, if_false, Option.bind_some, px_up_cell, px_up_slot, px_up_eq, ne_eq, Nat.reduceEqDiff, not_false_eq_true, Int.reduceEq, Int.reduceLT, Int.reduceLE, Int.reduceNeg, decide_true, decide_false, Bool.and_true, Bool.true_and, Bool.and_false, Bool.false_and, and_self, and_true, true_and, and_false, false_and, bi_T, bi_F, not_true_eq_false, Bool.false_eq_true]
        exact clF h3 (pc.trans z1) (mHead sc (by decide) ky (Or.inl rfl) ((thF z2).trans tt)) z3 (FSt_tr Fc1 z4) (FMt_tr Fm1 z5) z6 z7
      · have Fc2 := FSt_tr Fc1 (RFc_F (show 3 < 9 by decide) z7)
        have Fm2 := FMt_tr Fm1 (RPm_F (by unfold fmt2; omega) (by unfold fmt2; omega) z8)
        have C2 := FSt_TC hn C Fc2
        have M2 := FMt_TM M Fm2
        have cq2 : c2 (n + 1) 3 = (q : Int) := (z7 _ _ (by omega) (by omega)).trans cq1
        have mq2 : m2 125 (9 + 3) = (q : Int) := (z8 _ _ (by omega) (by omega)).trans mq1
        have tt := (t262 (kind := 3) (x2 := (q : Int)) M2.1 (by decide) mq2 hq100).2
        have Fm3 : FMt m (px_up m2 125 (9 + 3) ((q + 1 : Nat) : Int)) := FMt_up Fm2 _ (by unfold fmt2; omega)
        refine clEnd hn (i := i2) (j := 2) h3 C2 z3 (by omega) z4 (show 3 < 9 by decide) cq2 (by omega) z5 (FMt_TM M Fm3) (SC_c z6 (fun b => px_up_cell _ _ _ _ (by decide))) hcl (pc.trans z1) (mHead sc (by decide) ky (Or.inr rfl) ((thT z2).trans tt)) Fc2 Fm3 ⟨(px_up_cell _ _ _ _ (by decide)).trans ((z8 123 8 (by decide) (fun w => absurd w.1 (by decide))).trans (x9 123 8 (by decide) (fun w => absurd w.1 (by decide)))), (px_up_cell _ _ _ _ (by decide)).trans ((z8 123 9 (by decide) (fun w => absurd w.1 (by decide))).trans (x9 123 9 (by decide) (fun w => absurd w.1 (by decide))))⟩ (fun c' m' w1 w2 w3 => ?_)
        refine spr_k3 hn S hq (show (q : Int) < 5 by omega) ⟨w1, fun a b v1 v2 v3 v4 => ?_⟩ ⟨?_, fun a b v1 v2 v3 v4 => ?_⟩ ?_ ⟨?_, ?_⟩
        · rw [w2 a b v1 v4, z7 a b v1 v3, x8 a b v1 v2]
        · rw [w3 _ _ (by omega), px_up_eq]
        · rw [w3 a b v1]
          unfold px_up
          rw [if_neg v4, z8 a b v1 (fun y => v3 ⟨y.1, by omega, by omega⟩), x9 a b v1 v2]
        · rw [w3 _ _ (by omega), px_up_cell _ _ _ _ (by omega), z8 _ _ (by omega) (by omega), w2 _ _ (by omega) (by omega), z7 _ _ (by omega) (by omega)]
          exact x10
        · rw [w3 _ _ (by omega), px_up_cell _ _ _ _ (by omega), w2 _ _ (by omega) (by omega)]
          exact z9
        · rw [w3 _ _ (by omega), px_up_cell _ _ _ _ (by omega), w2 _ _ (by omega) (by omega)]
          exact z10
theorem jT_4 {n : Nat} (hn : n = 4 ∨ n = 26) {T : Nat → Int} {N i s e cl : Nat} {c m : hp} (C : TC2 T N c) (M : TM T N m) (t : TK T N i s e 2) (ct : CT T s e 2 c) (sc : SC T s e 2 m) (S : SPR n c m) (ky : kyV T s (e - s) 0 9 = ((4 : Nat) : Int)) (hcl : cl < 100000) : clS n T N e cl c m (px_R (mm_Str_readClause, 0, [(2, (n : Int)), (2, 2), (9, 0), (9, 0), (9, 0)], [], (K0, c))) := by
  have le := TK_le t
  have h3 := SC_n4 sc
  have I := M.1
  have cnt := S.1 4 (by decide)
  obtain ⟨q, hq⟩ := Int.eq_ofNat_of_zero_le cnt.2.1
  have mq : m 125 (9 + 4) = (q : Int) := cnt.1.trans hq
  have lk : lim 4 = 4 := rfl
  have q4 : q ≤ 4 := by
    have := cnt.2.2
    omega
  have hq100 : q < 100 := by omega
  have hq6 : q ≤ 6 := by omega
  obtain ⟨h1, h2, h2b⟩ := cHead hn C t ct (by decide) ky hq
  by_cases full : q = 4
  · have p := h1 (by rw [full]; decide)
    have th := mT_4f I (by rw [mq, full]; rfl)
    exact clF h3 p (mHead sc (by decide) ky (Or.inl rfl) th) (by decide) (FSt_rf _ _) (FTw_FMt (flM_F _ _)) (flM_8 _ _).1 (by rw [(flM_8 _ _).2, sc.2.1, ct.2.1])
  · have qlt : q < 4 := by omega
    have p := h2b (show (q : Int) < 4 by omega) (by decide)
    obtain ⟨s1, e1, k1, m1, x6, x2, x7, f1, _⟩ := scanT M le.2.2.1 sc.2.2.1
    have Fm1 := FTk_FMt f1
    have M1 := FMt_TM M Fm1
    have I1 := M1.1
    have mq1 : m1 125 (9 + 4) = (q : Int) := (f1 _ _ (by omega)).trans mq
    have x8 : ∀ a b : Nat, ¬ (a = 2 ∧ 2 ≤ b ∧ b ≤ 6) → ¬ (a = n + 3 + 4 ∧ b = q) → c a b = c a b := fun _ _ _ _ => rfl
    have x9 : RNm 4 q m m1 := fun a b h1 _ => f1 a b h1
    have x3 : e ≤ e := Nat.le_refl _
    have x4 := le.2.2.1
    have x5 := ct.2.2.1
    have Fc1 : FSt n c c := FSt_rf _ _
    have C1 := C
    have cq1 := hq
    have pc : px_R (mm_Str_readClause, 0, [(2, (n : Int)), (2, 2), (9, 0), (9, 0), (9, 0)], [], (K0, c)) = px_R (mm_Str_readClause, 59, [(2, (n : Int)), (2, 2), (0, ((4 : Nat) : Int)), (0, 0), (0, 0)], [], (K0, c)) := p
    have thF : ∀ {m'}, px_R (mm_Mod_readPlace, 0, [(2, 123), (2, 132), (2, 133), (0, 4), (0, (q : Int)), (9, 0)], [], (K0, m1)) = some (0, (K0, m')) → px_R (mm_Mod_readThing, 0, [(2, 123), (0, 4), (9, 0), (9, 0)], [], (K0, m)) = px_R (mm_Mod_readThing, 262, [(2, 123), (0, 4), (0, (q : Int)), (0, 0)], [], (K0, m')) := fun z2 => mT_4 I I1 mq qlt x2 z2
    have thT : ∀ {m'}, px_R (mm_Mod_readPlace, 0, [(2, 123), (2, 132), (2, 133), (0, 4), (0, (q : Int)), (9, 0)], [], (K0, m1)) = some (1, (K0, m')) → px_R (mm_Mod_readThing, 0, [(2, 123), (0, 4), (9, 0), (9, 0)], [], (K0, m)) = px_R (mm_Mod_readThing, 262, [(2, 123), (0, 4), (0, (q : Int)), (0, 1)], [], (K0, m')) := fun z2 => mT_4 I I1 mq qlt x2 z2
    rcases jPlace hn (kind := 4) (q := q) (X := 132) (Y := 133) (off := 4) (by decide) (by omega) C1 x4 x5 cq1 M1 x6 x7 (fun w j hj => by
      show px_ga (K0, w) 0 132 _ = true
      rw [ka_132]
      exact gd_ok (by omega)) (fun w j hj => by
      show px_ga (K0, w) 0 133 _ = true
      rw [ka_133]
      exact gd_ok (by omega)) (by unfold fmt2; omega) (by unfold fmt2; omega) (by decide) (by decide) (fun z hz => by
      have P := S.2.2.2.2.2.2.2.2 z (by omega)
      rw [x9 _ _ (by omega) (by omega), x9 _ _ (by omega) (by omega), x8 _ (5 * z) (by omega) (by omega), x8 _ (5 * z + 1) (by omega) (by omega)]
      exact ⟨P.1.1, P.2.1⟩) with ⟨code, c', m', z1, z2, z3, z4, z5, z6, z7⟩ | ⟨c2, m2, i2, s2, e2, k2, z1, z2, z0, z3, z4, z5, z6, z7, z8, z9, z10⟩
    · have tt : px_R (mm_Mod_readThing, 262, [(2, 123), (0, 4), (0, (q : Int)), (0, 0)], [], (K0, m')) = some (0, (K0, m')) := by
        rw [eq_Mod_readThing_262]
        simp only [px_rd_mk, px_wr_mk, Int.reduceToNat, Int.toNat_natCast, if_true, if_false, Option.bind_some, px_up_cell, px_up_slot, px_up_eq, ne_eq, Nat.reduceEqDiff, not_false_eq_true, Int.reduceEq, Int.reduceLT, Int.reduceLE, Int.reduceNeg, decide_true, decide_false, Bool.and_true, Bool.true_and, Bool.and_false, Bool.false_and, and_self, and_true, true_and, and_false, false_and, bi_T, bi_F, not_true_eq_false, Bool.false_eq_true]
      exact clF h3 (pc.trans z1) (mHead sc (by decide) ky (Or.inl rfl) ((thF z2).trans tt)) z3 (FSt_tr Fc1 z4) (FMt_tr Fm1 z5) z6 z7
    · have Fc2 := FSt_tr Fc1 (RFc_F (show 4 < 9 by decide) z7)
      have Fm2 := FMt_tr Fm1 (RPm_F (by unfold fmt2; omega) (by unfold fmt2; omega) z8)
      have C2 := FSt_TC hn C Fc2
      have M2 := FMt_TM M Fm2
      have cq2 : c2 (n + 1) 4 = (q : Int) := (z7 _ _ (by omega) (by omega)).trans cq1
      have mq2 : m2 125 (9 + 4) = (q : Int) := (z8 _ _ (by omega) (by omega)).trans mq1
      have tt := (t262 (kind := 4) (x2 := (q : Int)) M2.1 (by decide) mq2 hq100).2
      have Fm3 : FMt m (px_up m2 125 (9 + 4) ((q + 1 : Nat) : Int)) := FMt_up Fm2 _ (by unfold fmt2; omega)
      refine clEnd hn (i := i2) (j := 2) h3 C2 z3 (by omega) z4 (show 4 < 9 by decide) cq2 (by omega) z5 (FMt_TM M Fm3) (SC_c z6 (fun b => px_up_cell _ _ _ _ (by decide))) hcl (pc.trans z1) (mHead sc (by decide) ky (Or.inr rfl) ((thT z2).trans tt)) Fc2 Fm3 ⟨(px_up_cell _ _ _ _ (by decide)).trans ((z8 123 8 (by decide) (fun w => absurd w.1 (by decide))).trans (x9 123 8 (by decide) (fun w => absurd w.1 (by decide)))), (px_up_cell _ _ _ _ (by decide)).trans ((z8 123 9 (by decide) (fun w => absurd w.1 (by decide))).trans (x9 123 9 (by decide) (fun w => absurd w.1 (by decide))))⟩ (fun c' m' w1 w2 w3 => ?_)
      refine spr_k4 hn S hq (show (q : Int) < 4 by omega) ⟨w1, fun a b v1 v2 v3 v4 => ?_⟩ ⟨?_, fun a b v1 v2 v3 v4 => ?_⟩ ⟨?_, ?_⟩
      · rw [w2 a b v1 v4, z7 a b v1 v3]
      · rw [w3 _ _ (by omega), px_up_eq]
      · rw [w3 a b v1]
        unfold px_up
        rw [if_neg v4, z8 a b v1 (fun y => v3 ⟨y.1, by omega, by omega⟩), x9 a b v1 v2]
      · rw [w3 _ _ (by omega), px_up_cell _ _ _ _ (by omega), w2 _ _ (by omega) (by omega)]
        exact z9
      · rw [w3 _ _ (by omega), px_up_cell _ _ _ _ (by omega), w2 _ _ (by omega) (by omega)]
        exact z10
