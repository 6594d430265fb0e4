/-! Reading a street: names of the class, tokens of the reference. -/
theorem cmp_0 (a b : Int) : (px_cmp a b = 0) = (a = b) := by
  unfold px_cmp
  apply propext
  split
  · omega
  · split <;> omega
theorem sName {n : Nat} (hn : n = 4 ∨ n = 26) {T : Nat → Int} {N i kind q : Nat} {c : hp} (C : TC2 T N c) (hi : i ≤ N) (e4 : c 2 4 = (i : Int)) (hk : kind < 9) (hq : c (n + 1) kind = (q : Int)) (hq2 : q < 6) : ∃ (s e k : Nat) (c1 : hp), TK T N i s e k ∧ CT T s e k c1 ∧ Fr [] tss c c1 ∧ (¬ k = 2 → px_R (mm_Str_readName, 0, [(2, (n : Int)), (2, 2), (0, (kind : Int)), (9, 0)], [], (K0, c)) = some (1, (K0, c1))) ∧ (k = 2 → px_R (mm_Str_readName, 0, [(2, (n : Int)), (2, 2), (0, (kind : Int)), (9, 0)], [], (K0, c)) = if anf (fun z => decide (c (n + 3 + kind) z = wvl T s (e - s))) 0 q = true then some (3, (K0, c1)) else some (0, (K0, px_up c1 (n + 3 + kind) q (wvl T s (e - s))))) := by
  obtain ⟨s, e, k, c1, t1, t2, t3, t4, t5, t6, t7, t8⟩ := R_readNext C hi e4
  have F : Fr [] tss c c1 := t3
  have C1 := FSt_TC hn C (FSt_tss F)
  have I1 := C1.1
  have wc : ∀ a b, ¬ a = 2 → c1 a b = c a b := fun a b hab => F _ _ ((fin_f ..).mpr fun w => by
    simp only [tss, List.mem_cons, Prod.mk.injEq, List.not_mem_nil, or_false, false_or] at w
    omega)
  have hq1 : c1 (n + 1) kind = (q : Int) := (wc _ _ (by omega)).trans hq
  have gk : (decide ((0 : Int) ≤ (kind : Int)) && decide ((kind : Int) < 9)) = true := gd_ok (by omega)
  have gq : (decide ((0 : Int) ≤ (q : Int)) && decide ((q : Int) < 6)) = true := gd_ok (by omega)
  refine ⟨s, e, k, c1, t1, ⟨t4, t5, t6, t7, t8⟩, F, fun z => ?_, fun z => ?_⟩
  · have n3 : (c1 2 2 = 2) = False := eq_false (by omega)
    rw [eq_Str_readName_0]
    simp only [px_rd_mk, px_wr_mk, Int.reduceToNat, Int.toNat_natCast, if_true, if_false, Option.bind_some, px_up_cell, px_up_slot, px_up_eq, ne_eq, Nat.reduceEqDiff, not_false_eq_true, Int.reduceEq, Int.reduceLT, Int.reduceLE, Int.reduceNeg, decide_true, decide_false, Bool.and_true, Bool.true_and, Bool.and_false, Bool.false_and, and_self, and_true, true_and, and_false, false_and, bi_T, bi_F, not_true_eq_false, Bool.false_eq_true, kg_2, t2, n3]
  · have v5 := t7 z
    subst z
    have t4 : c1 2 2 = 2 := t4
    have lp : ∀ m j : Nat, j + m = q → px_R (mm_Str_readName, 16, [(2, (n : Int)), (2, 2), (0, (kind : Int)), (0, (j : Int))], [], (K0, c1)) = if anf (fun z => decide (c (n + 3 + kind) z = wvl T s (e - s))) j m = true then some (3, (K0, c1)) else some (0, (K0, px_up c1 (n + 3 + kind) q (wvl T s (e - s)))) := by
      intro m
      induction m with
      | zero =>
        intro j hj
        have : j = q := hj
        subst this
        rw [anf, if_neg (by decide), eq_Str_readName_16]
        simp only [px_rd_mk, px_wr_mk, Int.reduceToNat, Int.toNat_natCast, if_true, if_false, Option.bind_some, px_up_cell, px_up_slot, px_up_eq, ne_eq, Nat.reduceEqDiff, not_false_eq_true, Int.reduceEq, Int.reduceLT, Int.reduceLE, Int.reduceNeg, decide_true, decide_false, Bool.and_true, Bool.true_and, Bool.and_false, Bool.false_and, and_self, and_true, true_and, and_false, false_and, bi_T, bi_F, not_true_eq_false, Bool.false_eq_true, kg_2, Bool.true_or, Bool.or_true, sgo hn, sr1 hn I1, sga1 hn, gk, hq1, Int.lt_irrefl, sr2 hn I1, sga2 hn, sr6 hn I1 hk, sga3 hn hk, gq, v5]
      | succ m ih =>
        intro j hj
        have hlt : ((j : Int) < (q : Int)) = True := eq_true (by omega)
        have gj : (decide ((0 : Int) ≤ (j : Int)) && decide ((j : Int) < 6)) = true := gd_ok (by omega)
        have wj := wc (n + 3 + kind) j (by omega)
        rw [anf]
        by_cases a : c (n + 3 + kind) j = wvl T s (e - s)
        · have a1 := eq_true a
          rw [decide_eq_true a, Bool.true_or, if_pos rfl, eq_Str_readName_16]
          simp only [px_rd_mk, px_wr_mk, Int.reduceToNat, Int.toNat_natCast, if_true, if_false, Option.bind_some, px_up_cell, px_up_slot, px_up_eq, ne_eq, Nat.reduceEqDiff, not_false_eq_true, Int.reduceEq, Int.reduceLT, Int.reduceLE, Int.reduceNeg, decide_true, decide_false, Bool.and_true, Bool.true_and, Bool.and_false, Bool.false_and, and_self, and_true, true_and, and_false, false_and, bi_T, bi_F, not_true_eq_false, Bool.false_eq_true, kg_2, Bool.true_or, Bool.or_true, sgo hn, sr1 hn I1, sga1 hn, gk, hq1, hlt, sr2 hn I1, sga2 hn, sr6 hn I1 hk, sga3 hn hk, gj, v5, wj, cmp_0, a1]
        · have a1 := eq_false a
          rw [decide_eq_false a, Bool.false_or, ← ih (j + 1) (by omega), eq_Str_readName_16]
          simp only [px_rd_mk, px_wr_mk, Int.reduceToNat, Int.toNat_natCast, if_true, if_false, Option.bind_some, px_up_cell, px_up_slot, px_up_eq, ne_eq, Nat.reduceEqDiff, not_false_eq_true, Int.reduceEq, Int.reduceLT, Int.reduceLE, Int.reduceNeg, decide_true, decide_false, Bool.and_true, Bool.true_and, Bool.and_false, Bool.false_and, and_self, and_true, true_and, and_false, false_and, bi_T, bi_F, not_true_eq_false, Bool.false_eq_true, kg_2, Bool.true_or, Bool.or_true, sgo hn, sr1 hn I1, sga1 hn, gk, hq1, hlt, sr2 hn I1, sga2 hn, sr6 hn I1 hk, sga3 hn hk, gj, v5, wj, cmp_0, a1, px_w_s (show j < 1000000 by omega)]
    rw [eq_Str_readName_0]
    simp only [px_rd_mk, px_wr_mk, Int.reduceToNat, Int.toNat_natCast, if_true, if_false, Option.bind_some, px_up_cell, px_up_slot, px_up_eq, ne_eq, Nat.reduceEqDiff, not_false_eq_true, Int.reduceEq, Int.reduceLT, Int.reduceLE, Int.reduceNeg, decide_true, decide_false, Bool.and_true, Bool.true_and, Bool.and_false, Bool.false_and, and_self, and_true, true_and, and_false, false_and, bi_T, bi_F, not_true_eq_false, Bool.false_eq_true, kg_2, t2, t4]
    exact lp q 0 (Nat.zero_add q)
/-! The reference. -/
def SC (T : Nat → Int) (s e k : Nat) (m : hp) : Prop := m 123 3 = (((k + 4) % 5 : Nat) : Int) ∧ m 123 5 = (s : Int) ∧ m 123 6 = (e : Int) ∧ m 123 4 = (if k = 2 then kyV T s (e - s) 0 9 else -1) ∧ (k = 2 → m 123 10 = wvl T s (e - s)) ∧ (k = 3 → m 123 7 = nvl T s (e - s))
def fmt2 (a b : Nat) : Prop := (a = 123 ∧ ((3 ≤ b ∧ b ≤ 11) ∨ b = 23)) ∨ (a = 125 ∧ 9 ≤ b) ∨ a = 126 ∨ (a = 127 ∧ 20 ≤ b) ∨ (a = 128 ∧ 16 ≤ b) ∨ (a = 129 ∧ 24 ≤ b) ∨ (a = 130 ∧ 5 ≤ b) ∨ (a = 131 ∧ 5 ≤ b) ∨ (a = 132 ∧ 4 ≤ b) ∨ (a = 133 ∧ 4 ≤ b) ∨ (a = 134 ∧ 20 ≤ b)
def FMt (c d : hp) : Prop := ∀ a b : Nat, ¬ fmt2 a b → d a b = c a b
theorem FMt_rf (c : hp) : FMt c c := fun _ _ _ => rfl
theorem FMt_tr {c d e : hp} (F : FMt c d) (G : FMt d e) : FMt c e := fun a b q => (G a b q).trans (F a b q)
theorem FMt_up {c d : hp} (F : FMt c d) {a b : Nat} (v : Int) (q : fmt2 a b) : FMt c (px_up d a b v) := fun x y z => by
  unfold px_up
  rw [if_neg, F x y z]
  rintro ⟨rfl, rfl⟩
  exact z q
/-- only the token's own slots changed -/
def FTk (c d : hp) : Prop := ∀ a b : Nat, ¬ (a = 123 ∧ 3 ≤ b ∧ b ≤ 11 ∧ ¬ b = 8 ∧ ¬ b = 9) → d a b = c a b
theorem FTk_rf (c : hp) : FTk c c := fun _ _ _ => rfl
theorem FTk_tr {c d e : hp} (F : FTk c d) (G : FTk d e) : FTk c e := fun a b q => (G a b q).trans (F a b q)
theorem FTk_up {c d : hp} (F : FTk c d) {b : Nat} (v : Int) (q : 3 ≤ b ∧ b ≤ 11 ∧ ¬ b = 8 ∧ ¬ b = 9) : FTk c (px_up d 123 b v) := fun x y z => by
  unfold px_up
  rw [if_neg, F x y z]
  rintro ⟨rfl, rfl⟩
  exact z ⟨rfl, q⟩
theorem FTk_FMt {c d : hp} (F : FTk c d) : FMt c d := fun a b z => F a b (fun w => z (by unfold fmt2; omega))
theorem FMt_IR {c d : hp} (H : IR c) (F : FMt c d) : IR d := IR_same H fun q hq => F _ _ (by
  have k : ∀ q ∈ rl, ¬ fmt2 q.1 q.2.1 := by unfold fmt2; decide +kernel
  exact k q hq)
theorem FMt_TM {T : Nat → Int} {N : Nat} {c d : hp} (C : TM T N c) (F : FMt c d) : TM T N d := by
  obtain ⟨hI, hN, hN9, hT, hr⟩ := C
  exact ⟨FMt_IR hI F, (F 123 2 (by unfold fmt2; omega)).trans hN, hN9, fun j => (F 124 j (by unfold fmt2; omega)).trans (hT j), hr⟩
theorem scanT {T : Nat → Int} {N i : Nat} {m : hp} (C : TM T N m) (hi : i ≤ N) (e6 : m 123 6 = (i : Int)) : ∃ (s e k : Nat) (m1 : hp), TK T N i s e k ∧ px_R (mm_Mod_scan, 0, [(2, 123), (9, 0), (9, 0), (9, 0)], [], (K0, m)) = some (0, (K0, m1)) ∧ SC T s e k m1 ∧ FTk m m1 ∧ m1 123 11 = m 123 11 ∧ m1 123 8 = m 123 8 ∧ m1 123 9 = m 123 9 := by
  obtain ⟨s, e, k, m1, t1, t2, t3, t4, t5, t6, t7, t8, t9⟩ := R_scan C hi e6
  refine ⟨s, e, k, m1, t1, t2, ⟨t4, t5, t6, t7, t8, t9⟩, fun a b z => t3 a b ((fin_f ..).mpr fun w => z ?_), t3 123 11 rfl, t3 123 8 rfl, t3 123 9 rfl⟩
  simp only [List.mem_cons, Prod.mk.injEq, List.not_mem_nil, or_false, false_or] at w
  omega
def flM (x : Int) (m : hp) : hp := px_up (px_up m 123 8 x) 123 9 (m 123 5)
theorem R_fails (x : Int) (m : hp) : px_R (mm_Mod_fails, 0, [(2, 123), (0, x)], [], (K0, m)) = some (0, (K0, flM x m)) := by
  rw [eq_Mod_fails_0]
  simp only [px_rd_mk, px_wr_mk, Int.reduceToNat, Int.toNat_natCast, if_true, if_false, Option.bind_some, px_up_cell, px_up_slot, px_up_eq, ne_eq, Nat.reduceEqDiff, not_false_eq_true, Int.reduceEq, Int.reduceLT, Int.reduceLE, Int.reduceNeg, decide_true, decide_false, Bool.and_true, Bool.true_and, Bool.and_false, Bool.false_and, and_self, and_true, true_and, and_false, false_and, bi_T, bi_F, not_true_eq_false, Bool.false_eq_true, kg_123]
  rfl
def FTw (c d : hp) : Prop := ∀ a b : Nat, ¬ (a = 123 ∧ 3 ≤ b ∧ b ≤ 11) → d a b = c a b
theorem FTw_FMt {c d : hp} (F : FTw c d) : FMt c d := fun a b z => F a b (fun w => z (by unfold fmt2; omega))
theorem flM_F (x : Int) (m : hp) : FTw m (flM x m) := fun a b z => by
  unfold flM px_up
  rw [if_neg (by omega), if_neg (by omega)]
theorem flM_8 (x : Int) (m : hp) : flM x m 123 8 = x ∧ flM x m 123 9 = m 123 5 := by
  unfold flM
  exact ⟨(px_up_slot _ _ _ _ (by decide)).trans (px_up_eq _ _ _ _), px_up_eq _ _ _ _⟩
theorem mNum {T : Nat → Int} {N i s e k : Nat} {m : hp} (C : TM T N m) (t : TK T N i s e k) (sc : SC T s e k m) (lo hi : Int) : (¬ k = 3 → px_R (mm_Mod_readNumber, 0, [(2, 123), (0, lo), (0, hi)], [], (K0, m)) = some (0, (K0, flM 1 m))) ∧ (k = 3 → (nvl T s (e - s) < lo ∨ hi < nvl T s (e - s)) → px_R (mm_Mod_readNumber, 0, [(2, 123), (0, lo), (0, hi)], [], (K0, m)) = some (0, (K0, flM 2 m))) ∧ (k = 3 → lo ≤ nvl T s (e - s) → nvl T s (e - s) ≤ hi → ∃ (s2 e2 k2 : Nat) (m2 : hp), TK T N e s2 e2 k2 ∧ px_R (mm_Mod_readNumber, 0, [(2, 123), (0, lo), (0, hi)], [], (K0, m)) = some (1, (K0, m2)) ∧ SC T s2 e2 k2 m2 ∧ FTk m m2 ∧ m2 123 11 = nvl T s (e - s)) := by
  have le := TK_le t
  obtain ⟨c3, c5, c6, c4, c10, c7⟩ := sc
  refine ⟨fun z => ?_, fun z zr => ?_, fun z zl zh => ?_⟩
  · have n3 : (m 123 3 = 2) = False := eq_false (by omega)
    rw [eq_Mod_readNumber_0]
    simp only [px_rd_mk, px_wr_mk, Int.reduceToNat, Int.toNat_natCast, if_true, if_false, Option.bind_some, px_up_cell, px_up_slot, px_up_eq, ne_eq, Nat.reduceEqDiff, not_false_eq_true, Int.reduceEq, Int.reduceLT, Int.reduceLE, Int.reduceNeg, decide_true, decide_false, Bool.and_true, Bool.true_and, Bool.and_false, Bool.false_and, and_self, and_true, true_and, and_false, false_and, bi_T, bi_F, not_true_eq_false, Bool.false_eq_true, kg_123, n3, R_fails]
  · subst z
    have c3 : m 123 3 = 2 := c3
    have c7 := c7 rfl
    have nr : ¬ (lo ≤ nvl T s (e - s) ∧ nvl T s (e - s) ≤ hi) := by omega
    rw [eq_Mod_readNumber_0]
    simp only [px_rd_mk, px_wr_mk, Int.reduceToNat, Int.toNat_natCast, if_true, if_false, Option.bind_some, px_up_cell, px_up_slot, px_up_eq, ne_eq, Nat.reduceEqDiff, not_false_eq_true, Int.reduceEq, Int.reduceLT, Int.reduceLE, Int.reduceNeg, decide_true, decide_false, Bool.and_true, Bool.true_and, Bool.and_false, Bool.false_and, and_self, and_true, true_and, and_false, false_and, bi_T, bi_F, not_true_eq_false, Bool.false_eq_true, kg_123, c3, c7, R_Mod_in, bi_f nr, R_fails]
  · subst z
    have c3 : m 123 3 = 2 := c3
    have c7 := c7 rfl
    have F1 : FTk m (px_up m 123 11 (nvl T s (e - s))) := FTk_up (FTk_rf _) _ (by omega)
    obtain ⟨s2, e2, k2, m2, r1, r2, r3, r4, r5, _⟩ := scanT (FMt_TM C (FTk_FMt F1)) le.2.2.1 ((px_up_slot _ _ _ _ (by decide)).trans c6)
    refine ⟨s2, e2, k2, m2, r1, ?_, r3, FTk_tr F1 r4, r5.trans (px_up_eq _ _ _ _)⟩
    rw [eq_Mod_readNumber_0]
    simp only [px_rd_mk, px_wr_mk, Int.reduceToNat, Int.toNat_natCast, if_true, if_false, Option.bind_some, px_up_cell, px_up_slot, px_up_eq, ne_eq, Nat.reduceEqDiff, not_false_eq_true, Int.reduceEq, Int.reduceLT, Int.reduceLE, Int.reduceNeg, decide_true, decide_false, Bool.and_true, Bool.true_and, Bool.and_false, Bool.false_and, and_self, and_true, true_and, and_false, false_and, bi_T, bi_F, not_true_eq_false, Bool.false_eq_true, kg_123, c3, c7, R_Mod_in, bi_t (show lo ≤ nvl T s (e - s) ∧ nvl T s (e - s) ≤ hi from ⟨zl, zh⟩), r2]
