/-! Reading a street: rows of numbers. -/
def RFc (n kind q : Nat) (c d : hp) : Prop := ∀ a b : Nat, ¬ (a = 2 ∧ 2 ≤ b ∧ b ≤ 6) → ¬ (a = n + 13 + kind ∧ 5 * q ≤ b ∧ b < 5 * q + 5) → d a b = c a b
def RFm (B off cn : Nat) (c d : hp) : Prop := ∀ a b : Nat, ¬ (a = 123 ∧ 3 ≤ b ∧ b ≤ 11 ∧ ¬ b = 8 ∧ ¬ b = 9) → ¬ (a = B ∧ off ≤ b ∧ b < off + cn) → d a b = c a b
theorem fx_gl1 : ∀ k : Fin 9, px_gl (px_sar 1) (k.val : Int) = true := by decide
theorem tss_o {c c1 : hp} (F : Fr [] tss c c1) (a b : Nat) (h : ¬ (a = 2 ∧ 2 ≤ b ∧ b ≤ 6)) : c1 a b = c a b := F _ _ ((fin_f ..).mpr fun w => by
  simp only [tss, List.mem_cons, Prod.mk.injEq, List.not_mem_nil, or_false, false_or] at w
  omega)
theorem cl_bad {n kind j : Nat} {r : Int} {c : hp} (hk : kind < 9) (hr : ¬ r = 0) : px_R (mm_Str_readClause, 59, [(2, (n : Int)), (2, 2), (0, (kind : Int)), (0, r), (0, (j : Int))], [], (K0, c)) = some (r, (K0, c)) := by
  have gl := fx_gl1 ⟨kind, hk⟩
  simp only at gl
  have r1 := eq_false hr
  have e88 : px_R (mm_Str_readClause, 88, [(2, (n : Int)), (2, 2), (0, (kind : Int)), (0, r), (0, (j : Int))], [], (K0, c)) = some (r, (K0, c)) := by
    rw [eq_Str_readClause_88, if_neg hr]
  rw [eq_Str_readClause_59]
  simp only [px_rd_mk, px_wr_mk, Int.reduceToNat, Int.toNat_natCast, if_true, if_false, Option.bind_some, px_up_cell, px_up_slot, px_up_eq, ne_eq, Nat.reduceEqDiff, not_false_eq_true, Int.reduceEq, Int.reduceLT, Int.reduceLE, Int.reduceNeg, decide_true, decide_false, Bool.and_true, Bool.true_and, Bool.and_false, Bool.false_and, and_self, and_true, true_and, and_false, false_and, bi_T, bi_F, not_true_eq_false, Bool.false_eq_true, gl, r1, e88, ite_self]
theorem SC_c {T : Nat → Int} {s e k : Nat} {m m' : hp} (h : SC T s e k m) (e1 : ∀ b, m' 123 b = m 123 b) : SC T s e k m' := by
  unfold SC
  rw [e1, e1, e1, e1, e1, e1]
  exact h
def failS (n : Nat) (c m : hp) (p q : Option pr) : Prop := ∃ (code : Int) (c' m' : hp), p = some (code, (K0, c')) ∧ q = some (0, (K0, m')) ∧ 1 ≤ code ∧ FSt n c c' ∧ FMt m m' ∧ m' 123 8 = code ∧ m' 123 9 = c' 2 3
theorem jRow {n : Nat} (hn : n = 4 ∨ n = 26) {T : Nat → Int} {N kind q B off cn : Nat} (hk : kind < 9) (k34 : ¬ (kind = 3 ∨ kind = 4)) (hc : px_lst (px_sar 1) kind = (cn : Int)) (c5 : cn ≤ 5) (hq2 : q < 6) (hB : ∀ (m : hp) (j : Nat), j < cn → px_ga (K0, m) 0 (B : Int) ((off + j : Nat) : Int) = true) (fB : ∀ j, j < cn → fmt2 B (off + j)) (b5 : 125 ≤ B) (o5 : off < 1000) {lo0 hi0 hiR : Int} (l0 : lowN kind 0 = lo0 ∧ higN kind 0 = hi0) (lR : ∀ j, 0 < j → j < 5 → lowN kind j = 0 ∧ higN kind j = hiR) (r : Nat) : ∀ (idx i s e k : Nat) (c m : hp), idx + r = cn → TC2 T N c → i ≤ N → c 2 4 = (i : Int) → c (n + 1) kind = (q : Int) → TM T N m → TK T N i s e k → SC T s e k m → (∀ j, j < idx → m B (off + j) = c (n + 13 + kind) (5 * q + j) ∧ lowN kind j ≤ c (n + 13 + kind) (5 * q + j) ∧ c (n + 13 + kind) (5 * q + j) ≤ higN kind j) → failS n c m (px_R (mm_Str_readClause, 59, [(2, (n : Int)), (2, 2), (0, (kind : Int)), (0, 0), (0, (idx : Int))], [], (K0, c))) (px_R (mm_Mod_readRow, 3, [(2, 123), (2, (B : Int)), (0, (off : Int)), (0, (cn : Int)), (0, lo0), (0, hi0), (0, hiR), (0, (idx : Int))], [], (K0, m))) ∨ ∃ (c' m' : hp) (i' s' e' k' : Nat), px_R (mm_Str_readClause, 59, [(2, (n : Int)), (2, 2), (0, (kind : Int)), (0, 0), (0, (idx : Int))], [], (K0, c)) = px_R (mm_Str_readClause, 88, [(2, (n : Int)), (2, 2), (0, (kind : Int)), (0, 0), (0, (cn : Int))], [], (K0, c')) ∧ px_R (mm_Mod_readRow, 3, [(2, 123), (2, (B : Int)), (0, (off : Int)), (0, (cn : Int)), (0, lo0), (0, hi0), (0, hiR), (0, (idx : Int))], [], (K0, m)) = some (1, (K0, m')) ∧ i ≤ i' ∧ i' ≤ N ∧ c' 2 4 = (i' : Int) ∧ TK T N i' s' e' k' ∧ SC T s' e' k' m' ∧ RFc n kind q c c' ∧ RFm B off cn m m' ∧ ∀ j, j < cn → m' B (off + j) = c' (n + 13 + kind) (5 * q + j) ∧ lowN kind j ≤ c' (n + 13 + kind) (5 * q + j) ∧ c' (n + 13 + kind) (5 * q + j) ≤ higN kind j := by
  have gl := fx_gl1 ⟨kind, hk⟩
  simp only at gl
  induction r with
  | zero =>
    intro idx i s e k c m hi C iN c4 cq M t sc V
    have : idx = cn := hi
    subst this
    refine Or.inr ⟨c, m, i, s, e, k, ?_, ?_, Nat.le_refl _, iN, c4, t, sc, fun _ _ _ _ => rfl, fun _ _ _ _ => rfl, V⟩
    · rw [eq_Str_readClause_59]
      simp only [px_rd_mk, px_wr_mk, Int.reduceToNat, Int.toNat_natCast, if_true, if_false, Option.bind_some, px_up_cell, px_up_slot, px_up_eq, ne_eq, Nat.reduceEqDiff, not_false_eq_true, Int.reduceEq, Int.reduceLT, Int.reduceLE, Int.reduceNeg, decide_true, decide_false, Bool.and_true, Bool.true_and, Bool.and_false, Bool.false_and, and_self, and_true, true_and, and_false, false_and, bi_T, bi_F, not_true_eq_false, Bool.false_eq_true, gl, hc, Int.lt_irrefl]
    · rw [eq_Mod_readRow_3, if_neg (Int.lt_irrefl _)]
  | succ r ih =>
    intro idx i s e k c m hi C iN c4 cq M t sc V
    obtain ⟨s1, e1, k1, c1, t1, ct1, F1, n1, n2, n3⟩ := sNum hn (kind := kind) (q := q) (idx := idx) C iN c4 hk cq hq2 (by omega)
    obtain ⟨rfl, rfl, rfl⟩ := TK_u t t1
    have lims : (if idx = 0 then lo0 else 0) = lowN kind idx ∧ (if idx = 0 then hi0 else hiR) = higN kind idx := by
      by_cases a : idx = 0
      · subst a
        exact ⟨l0.1.symm, l0.2.symm⟩
      · rw [if_neg a, if_neg a]
        have := lR idx (by omega) (by omega)
        exact ⟨this.1.symm, this.2.symm⟩
    obtain ⟨p1, p2, p3⟩ := mNum M t sc (lowN kind idx) (higN kind idx)
    have hlt : ((idx : Int) < (cn : Int)) = True := eq_true (by omega)
    have le := TK_le t
    have row3 : px_R (mm_Mod_readRow, 3, [(2, 123), (2, (B : Int)), (0, (off : Int)), (0, (cn : Int)), (0, lo0), (0, hi0), (0, hiR), (0, (idx : Int))], [], (K0, m)) = (px_R (mm_Mod_readNumber, 0, [(2, 123), (0, lowN kind idx), (0, higN kind idx)], [], (K0, m))).bind fun r2 => if r2.1 = 0 then some (0, r2.2) else if px_go r2.2 123 9 = true then if px_ga r2.2 0 (B : Int) (px_w ((off : Int) + (idx : Int))) = true then px_R (mm_Mod_readRow, 3, [(2, 123), (2, (B : Int)), (0, (off : Int)), (0, (cn : Int)), (0, lo0), (0, hi0), (0, hiR), (0, (px_w ((idx : Int) + 1)))], [], (px_wr r2.2 (B : Int) ((px_w ((off : Int) + (idx : Int)))).toNat (px_rd r2.2 123 11))) else none else none := by
      rw [eq_Mod_readRow_3]
      by_cases a : idx = 0
      · have a1 : ((idx : Int) = 0) = True := eq_true (by omega)
        rw [if_pos a, if_pos a] at lims
        rw [← lims.1, ← lims.2]
        simp only [px_rd_mk, px_wr_mk, Int.reduceToNat, Int.toNat_natCast, if_true, if_false, Option.bind_some, px_up_cell, px_up_slot, px_up_eq, ne_eq, Nat.reduceEqDiff, not_false_eq_true, Int.reduceEq, Int.reduceLT, Int.reduceLE, Int.reduceNeg, decide_true, decide_false, Bool.and_true, Bool.true_and, Bool.and_false, Bool.false_and, and_self, and_true, true_and, and_false, false_and, bi_T, bi_F, not_true_eq_false, Bool.false_eq_true, kg_123, hlt, a1]
      · have a1 : ((idx : Int) = 0) = False := eq_false (by omega)
        rw [if_neg a, if_neg a] at lims
        rw [← lims.1, ← lims.2]
        simp only [px_rd_mk, px_wr_mk, Int.reduceToNat, Int.toNat_natCast, if_true, if_false, Option.bind_some, px_up_cell, px_up_slot, px_up_eq, ne_eq, Nat.reduceEqDiff, not_false_eq_true, Int.reduceEq, Int.reduceLT, Int.reduceLE, Int.reduceNeg, decide_true, decide_false, Bool.and_true, Bool.true_and, Bool.and_false, Bool.false_and, and_self, and_true, true_and, and_false, false_and, bi_T, bi_F, not_true_eq_false, Bool.false_eq_true, kg_123, hlt, a1]
    have bad : ∀ code : Int, 1 ≤ code → px_R (mm_Str_readNumber, 0, [(2, (n : Int)), (2, 2), (0, (kind : Int)), (0, (idx : Int)), (9, 0), (9, 0), (9, 0), (9, 0), (9, 0)], [], (K0, c)) = some (code, (K0, c1)) → px_R (mm_Mod_readNumber, 0, [(2, 123), (0, lowN kind idx), (0, higN kind idx)], [], (K0, m)) = some (0, (K0, flM code m)) → failS n c m (px_R (mm_Str_readClause, 59, [(2, (n : Int)), (2, 2), (0, (kind : Int)), (0, 0), (0, (idx : Int))], [], (K0, c))) (px_R (mm_Mod_readRow, 3, [(2, 123), (2, (B : Int)), (0, (off : Int)), (0, (cn : Int)), (0, lo0), (0, hi0), (0, hiR), (0, (idx : Int))], [], (K0, m))) := fun code h1 h2 h3 => by
      refine ⟨code, c1, flM code m, ?_, ?_, h1, FSt_tss F1, FTw_FMt (flM_F _ _), (flM_8 _ _).1, ?_⟩
      · have cb := cl_bad (n := n) (kind := kind) (j := idx + 1) (r := code) (c := c1) hk (by omega)
        rw [eq_Str_readClause_59]
        simp only [px_rd_mk, px_wr_mk, Int.reduceToNat, Int.toNat_natCast, if_true, if_false, Option.bind_some, px_up_cell, px_up_slot, px_up_eq, ne_eq, Nat.reduceEqDiff, not_false_eq_true, Int.reduceEq, Int.reduceLT, Int.reduceLE, Int.reduceNeg, decide_true, decide_false, Bool.and_true, Bool.true_and, Bool.and_false, Bool.false_and, and_self, and_true, true_and, and_false, false_and, bi_T, bi_F, not_true_eq_false, Bool.false_eq_true, gl, hc, hlt, sgo hn, h2, px_w_s (show idx < 1000000 by omega), cb]
      · rw [row3, h3]
        simp only [px_rd_mk, px_wr_mk, Int.reduceToNat, Int.toNat_natCast, if_true, if_false, Option.bind_some, px_up_cell, px_up_slot, px_up_eq, ne_eq, Nat.reduceEqDiff, not_false_eq_true, Int.reduceEq, Int.reduceLT, Int.reduceLE, Int.reduceNeg, decide_true, decide_false, Bool.and_true, Bool.true_and, Bool.and_false, Bool.false_and, and_self, and_true, true_and, and_false, false_and, bi_T, bi_F, not_true_eq_false, Bool.false_eq_true]
      · rw [(flM_8 _ _).2, sc.2.1, ct1.2.1]
    by_cases k3 : k = 3
    · by_cases inr : lowN kind idx ≤ nvl T s (e - s) ∧ nvl T s (e - s) ≤ higN kind idx
      · have n4 := n3 k3 inr.1 inr.2
        rw [if_neg (fun z => k34 z.1.2)] at n4
        obtain ⟨s2, e2, k2, m2, q1, q2, q3, q4, q5⟩ := p3 k3 inr.1 inr.2
        have C1 : TC2 T N (px_up c1 (n + 13 + kind) (5 * q + idx) (nvl T s (e - s))) := FSt_TC hn C (FSt_up (FSt_tss F1) _ (by unfold fst2; omega))
        have u2 : -2147483648 ≤ (off : Int) + (idx : Int) ∧ (off : Int) + (idx : Int) < 2147483648 := by omega
        have M1 : TM T N (px_up m2 B (off + idx) (nvl T s (e - s))) := FMt_TM M (FMt_up (FTk_FMt q4) _ (fB idx (by omega)))
        have up1 : ∀ y, px_up c1 (n + 13 + kind) (5 * q + idx) (nvl T s (e - s)) (n + 13 + kind) (5 * q + y) = if y = idx then nvl T s (e - s) else c (n + 13 + kind) (5 * q + y) := fun y => by
          rw [px_up_at]
          by_cases z : y = idx
          · rw [if_pos z, if_pos (by omega)]
          · rw [if_neg z, if_neg (by omega)]
            exact tss_o F1 _ _ (by omega)
        have up2 : ∀ y, px_up m2 B (off + idx) (nvl T s (e - s)) B (off + y) = if y = idx then nvl T s (e - s) else m B (off + y) := fun y => by
          rw [px_up_at]
          by_cases z : y = idx
          · rw [if_pos z, if_pos (by omega)]
          · rw [if_neg z, if_neg (by omega)]
            exact q4 _ _ (by omega)
        have nx := ih (idx + 1) e s2 e2 k2 (px_up c1 (n + 13 + kind) (5 * q + idx) (nvl T s (e - s))) (px_up m2 B (off + idx) (nvl T s (e - s))) (by omega) C1 le.2.2.1 ((px_up_cell _ _ _ _ (by omega)).trans ct1.2.2.1) ((px_up_cell _ _ _ _ (by omega)).trans ((tss_o F1 _ _ (by omega)).trans cq)) M1 q1 (SC_c q3 (fun b => px_up_cell _ _ _ _ (by omega))) (fun j hj => by
          rw [up1, up2]
          by_cases z : j = idx
          · rw [if_pos z, if_pos z, z]
            exact ⟨rfl, inr⟩
          · rw [if_neg z, if_neg z]
            exact V j (by omega))
        have ce : px_R (mm_Str_readClause, 59, [(2, (n : Int)), (2, 2), (0, (kind : Int)), (0, 0), (0, (idx : Int))], [], (K0, c)) = px_R (mm_Str_readClause, 59, [(2, (n : Int)), (2, 2), (0, (kind : Int)), (0, 0), (0, ((idx + 1 : Nat) : Int))], [], (K0, px_up c1 (n + 13 + kind) (5 * q + idx) (nvl T s (e - s)))) := by
          rw [eq_Str_readClause_59]
          simp only [px_rd_mk, px_wr_mk, Int.reduceToNat, Int.toNat_natCast, if_true, if_false, Option.bind_some, px_up_cell, px_up_slot, px_up_eq, ne_eq, Nat.reduceEqDiff, not_false_eq_true, Int.reduceEq, Int.reduceLT, Int.reduceLE, Int.reduceNeg, decide_true, decide_false, Bool.and_true, Bool.true_and, Bool.and_false, Bool.false_and, and_self, and_true, true_and, and_false, false_and, bi_T, bi_F, not_true_eq_false, Bool.false_eq_true, gl, hc, hlt, sgo hn, n4, px_w_s (show idx < 1000000 by omega)]
        have me : px_R (mm_Mod_readRow, 3, [(2, 123), (2, (B : Int)), (0, (off : Int)), (0, (cn : Int)), (0, lo0), (0, hi0), (0, hiR), (0, (idx : Int))], [], (K0, m)) = px_R (mm_Mod_readRow, 3, [(2, 123), (2, (B : Int)), (0, (off : Int)), (0, (cn : Int)), (0, lo0), (0, hi0), (0, hiR), (0, ((idx + 1 : Nat) : Int))], [], (K0, px_up m2 B (off + idx) (nvl T s (e - s)))) := by
          rw [row3, q2]
          simp only [px_rd_mk, px_wr_mk, Int.reduceToNat, Int.toNat_natCast, if_true, if_false, Option.bind_some, px_up_cell, px_up_slot, px_up_eq, ne_eq, Nat.reduceEqDiff, not_false_eq_true, Int.reduceEq, Int.reduceLT, Int.reduceLE, Int.reduceNeg, decide_true, decide_false, Bool.and_true, Bool.true_and, Bool.and_false, Bool.false_and, and_self, and_true, true_and, and_false, false_and, bi_T, bi_F, not_true_eq_false, Bool.false_eq_true, kg_123, (px_w_n u2).trans (Int.natCast_add off idx).symm, hB m2 idx (by omega), q5, px_w_s (show idx < 1000000 by omega)]
        rw [ce, me]
        have G1 : RFc n kind q c (px_up c1 (n + 13 + kind) (5 * q + idx) (nvl T s (e - s))) := fun a b h1 h2 => by
          unfold px_up
          rw [if_neg (by omega)]
          exact tss_o F1 a b h1
        have G2 : RFm B off cn m (px_up m2 B (off + idx) (nvl T s (e - s))) := fun a b h1 h2 => by
          unfold px_up
          rw [if_neg (by omega)]
          exact q4 a b h1
        rcases nx with ⟨code, c', m', x1, x2, x3, x4, x5, x6, x7⟩ | ⟨c', m', i', s', e', k', x1, x2, x0, x3, x4, x5, x6, x7, x8, x9⟩
        · exact Or.inl ⟨code, c', m', x1, x2, x3, FSt_tr (FSt_up (FSt_tss F1) _ (by unfold fst2; omega)) x4, FMt_tr (FMt_up (FTk_FMt q4) _ (fB idx (by omega))) x5, x6, x7⟩
        · exact Or.inr ⟨c', m', i', s', e', k', x1, x2, by omega, x3, x4, x5, x6, fun a b h1 h2 => (x7 a b h1 h2).trans (G1 a b h1 h2), fun a b h1 h2 => (x8 a b h1 h2).trans (G2 a b h1 h2), x9⟩
      · exact Or.inl (bad 2 (by decide) (n2 k3 (by omega)) (p2 k3 (by omega)))
    · exact Or.inl (bad 1 (by decide) (n1 k3) (p1 k3))
