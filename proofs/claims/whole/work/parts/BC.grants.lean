/-! The least string: class. -/
theorem and_n {a b : Nat} (ha : a < 2147483648) (hb : b < 2147483648) : px_and (a : Int) (b : Int) = ((a &&& b : Nat) : Int) := by
  unfold px_and
  have e2 : (Int32.ofInt (a : Int) &&& Int32.ofInt (b : Int)).toInt = (BitVec.ofInt 32 (a : Int) &&& BitVec.ofInt 32 (b : Int)).toInt := rfl
  have l : a &&& b ≤ a := Nat.and_le_left
  have e6 : (BitVec.ofInt 32 (a : Int) &&& BitVec.ofInt 32 (b : Int)).toNat = a &&& b := by
    rw [BitVec.toNat_and, BitVec.toNat_ofInt, BitVec.toNat_ofInt]
    congr 1 <;> omega
  rw [e2, BitVec.toInt_eq_toNat_of_lt (by rw [e6]; omega), e6]
theorem or_n {a b : Nat} (ha : a < 1073741824) (hb : b < 1073741824) : px_or (a : Int) (b : Int) = ((a ||| b : Nat) : Int) := by
  unfold px_or
  have e2 : (Int32.ofInt (a : Int) ||| Int32.ofInt (b : Int)).toInt = (BitVec.ofInt 32 (a : Int) ||| BitVec.ofInt 32 (b : Int)).toInt := rfl
  have l : a ||| b < 2 ^ 30 := Nat.or_lt_two_pow (by omega) (by omega)
  have e6 : (BitVec.ofInt 32 (a : Int) ||| BitVec.ofInt 32 (b : Int)).toNat = a ||| b := by
    rw [BitVec.toNat_or, BitVec.toNat_ofInt, BitVec.toNat_ofInt]
    congr 1 <;> omega
  rw [e2, BitVec.toInt_eq_toNat_of_lt (by rw [e6]; omega), e6]
theorem inS_tb (S p : Nat) : inS S p = S.testBit p := by
  unfold inS
  rw [Nat.testBit_eq_decide_div_mod_eq]
/-- all wishes granted -/
def grS (H W S m : Nat) : Prop := ∀ p, p < nP H → inS W p = true → rc (nP H) (pA H) (pB H) S m (pA H p) (pB H p)
theorem isReached_ok {H : Nat} {Y : Nat → Int} {h : hp} (C : WC H Y h) {S m p : Nat} {r : Nat → Nat} (hp : p < nP H) (hr : ∀ x, x < H → h 82 x = (r x : Int) ∧ r x < 32 ∧ ∀ z, z < 5 → ((r x).testBit z = true ↔ rc (nP H) (pA H) (pB H) S m x z)) : ∃ v : Int, px_R (mm_Wish_isReached, 0, [(2, 79), (0, (p : Int)), (0, (H : Int)), (9, 0)], [], (K0, h)) = some (v, (K0, h)) ∧ ((v = 1 ∧ rc (nP H) (pA H) (pB H) S m (pA H p) (pB H p)) ∨ (v = 0 ∧ ¬ rc (nP H) (pA H) (pB H) S m (pA H p) (pB H p))) := by
  have CC := C
  obtain ⟨hH, hI, hps⟩ := C
  obtain ⟨ab1, ab2, p10⟩ := pAB hH hp
  have gp : (decide ((0 : Int) ≤ (p : Int)) && decide ((p : Int) < 10)) = true := gd_ok (by omega)
  have e81 := (hps p hp).2
  have E32 := (fx_ors ⟨pB H p, by omega⟩ ⟨pA H p, by omega⟩ ab1).2
  simp only at E32
  have ml : ∀ k x : Nat, x + k = H → (∀ z, z < x → (z = pA H p ∨ z = pB H p) → rc (nP H) (pA H) (pB H) S m (pA H p) (pB H p)) → ∃ v : Int, px_R (mm_Wish_isReached, 2, [(2, 79), (0, (p : Int)), (0, (H : Int)), (0, (x : Int))], [], (K0, h)) = some (v, (K0, h)) ∧ ((v = 1 ∧ rc (nP H) (pA H) (pB H) S m (pA H p) (pB H p)) ∨ (v = 0 ∧ ¬ rc (nP H) (pA H) (pB H) S m (pA H p) (pB H p))) := by
    intro k
    induction k with
    | zero =>
      intro x hx hz
      have : x = H := hx
      subst this
      exact ⟨1, by rw [eq_Wish_isReached_2, if_neg (Int.lt_irrefl _)], Or.inl ⟨rfl, hz (pA x p) (by omega) (Or.inl rfl)⟩⟩
    | succ k ih =>
      intro x hx hz
      have hlt : ((x : Int) < (H : Int)) = True := eq_true (by omega)
      have gx : (decide ((0 : Int) ≤ (x : Int)) && decide ((x : Int) < 5)) = true := gd_ok (by omega)
      have bt := bit_1 (T := 2 ^ pA H p ||| 2 ^ pB H p) (a := x) (by omega) (by omega)
      rw [inS_tb] at bt
      have tb := fx_tb ⟨pB H p, by omega⟩ ⟨pA H p, by omega⟩ ⟨x, by omega⟩ ab1
      simp only at tb
      rw [tb] at bt
      by_cases q : x = pA H p ∨ x = pB H p
      · have b1 : (px_and (px_shr ((2 ^ pA H p ||| 2 ^ pB H p : Nat) : Int) (x : Int)) 1 = 1) = True := by rw [bt]; exact eq_true q
        obtain ⟨r1, r2, r3⟩ := hr x (by omega)
        have an := fx_an1 ⟨pB H p, by omega⟩ ⟨pA H p, by omega⟩ ⟨r x, r2⟩ ab1
        simp only at an
        rw [r3 _ (by omega), r3 _ (by omega)] at an
        have key : (px_and (r x : Int) ((2 ^ pA H p ||| 2 ^ pB H p : Nat) : Int) = ((2 ^ pA H p ||| 2 ^ pB H p : Nat) : Int)) = (rc (nP H) (pA H) (pB H) S m (pA H p) (pB H p)) := by
          apply propext
          rw [an]
          rcases q with q | q
          · rw [q]
            exact ⟨fun z => z.2, fun z => ⟨rc_self _ _ _ _ _ _, z⟩⟩
          · rw [q]
            exact ⟨fun z => rc_sym _ _ _ _ _ _ _ z.1, fun z => ⟨rc_sym _ _ _ _ _ _ _ z, rc_self _ _ _ _ _ _⟩⟩
        by_cases c : rc (nP H) (pA H) (pB H) S m (pA H p) (pB H p)
        · have k1 := key.trans (eq_true c)
          obtain ⟨v, v1, v2⟩ := ih (x + 1) (by omega) (fun _ _ _ => c)
          refine ⟨v, ?_, v2⟩
          rw [eq_Wish_isReached_2]
          simp only [px_rd_mk, px_wr_mk, Int.reduceToNat, Int.toNat_natCast, if_true, if_false, Option.bind_some, px_up_cell, px_up_slot, px_up_eq, ne_eq, Nat.reduceEqDiff, not_false_eq_true, Int.reduceEq, Int.reduceLT, Int.reduceLE, Int.reduceNeg, decide_true, decide_false, Bool.and_true, Bool.true_and, Bool.and_false, Bool.false_and, and_self, and_true, true_and, and_false, false_and, bi_T, bi_F, not_true_eq_false, Bool.false_eq_true, kg_79, ka_81, ka_82, ir_79_3 hI, ir_79_4 hI, ir_79_5 hI, hlt, gp, gx, e81, b1, r1, k1, px_w_s (show x < 1000000 by omega)]
          exact v1
        · have k1 := key.trans (eq_false c)
          refine ⟨0, ?_, Or.inr ⟨rfl, c⟩⟩
          rw [eq_Wish_isReached_2]
          simp only [px_rd_mk, px_wr_mk, Int.reduceToNat, Int.toNat_natCast, if_true, if_false, Option.bind_some, px_up_cell, px_up_slot, px_up_eq, ne_eq, Nat.reduceEqDiff, not_false_eq_true, Int.reduceEq, Int.reduceLT, Int.reduceLE, Int.reduceNeg, decide_true, decide_false, Bool.and_true, Bool.true_and, Bool.and_false, Bool.false_and, and_self, and_true, true_and, and_false, false_and, bi_T, bi_F, not_true_eq_false, Bool.false_eq_true, kg_79, ka_81, ka_82, ir_79_3 hI, ir_79_4 hI, ir_79_5 hI, hlt, gp, gx, e81, b1, r1, k1]
      · have b1 : (px_and (px_shr ((2 ^ pA H p ||| 2 ^ pB H p : Nat) : Int) (x : Int)) 1 = 1) = False := by rw [bt]; exact eq_false q
        obtain ⟨v, v1, v2⟩ := ih (x + 1) (by omega) (fun z hzx hq => by
          by_cases e : z = x
          · rw [e] at hq; exact absurd hq q
          · exact hz z (by omega) hq)
        refine ⟨v, ?_, v2⟩
        rw [eq_Wish_isReached_2]
        simp only [px_rd_mk, px_wr_mk, Int.reduceToNat, Int.toNat_natCast, if_true, if_false, Option.bind_some, px_up_cell, px_up_slot, px_up_eq, ne_eq, Nat.reduceEqDiff, not_false_eq_true, Int.reduceEq, Int.reduceLT, Int.reduceLE, Int.reduceNeg, decide_true, decide_false, Bool.and_true, Bool.true_and, Bool.and_false, Bool.false_and, and_self, and_true, true_and, and_false, false_and, bi_T, bi_F, not_true_eq_false, Bool.false_eq_true, kg_79, ka_81, ka_82, ir_79_3 hI, ir_79_4 hI, ir_79_5 hI, hlt, gp, gx, e81, b1, px_w_s (show x < 1000000 by omega)]
        exact v1
  obtain ⟨v, v1, v2⟩ := ml H 0 (Nat.zero_add H) (fun z hz => absurd hz (by omega))
  refine ⟨v, ?_, v2⟩
  rw [eq_Wish_isReached_0]
  exact v1
theorem R_grants {H W : Nat} {Y : Nat → Int} {h : hp} (C : WC H Y h) (hW : h 79 0 = (W : Int)) (hW2 : W < 1024) {S m : Nat} (hS : S < 1024) (hm : m ≤ 4) : ∃ (v : Int) (g : hp), px_R (mm_Wish_grants, 0, [(2, 79), (0, (S : Int)), (0, (nP H : Int)), (0, (H : Int)), (0, (m : Int)), (9, 0)], [], (K0, h)) = some (v, (K0, g)) ∧ Fr [82] [] h g ∧ ((v = 1 ∧ grS H W S m) ∨ (v = 0 ∧ ¬ grS H W S m)) := by
  have hH := C.1
  have l10 := (fx_pn ⟨H, by omega⟩).1
  simp only at l10
  have WCF : ∀ {g : hp}, Fr [82] [] h g → WC H Y g := fun F => ⟨hH, IR_Fr C.2.1 F (by decide), fun p hp => by rw [F 80 p rfl, F 81 p rfl]; exact C.2.2 p hp⟩
  have l1 : ∀ k x : Nat, x + k = H → ∀ g : hp, Fr [82] [] h g → (∀ z, z < x → ∃ r : Nat, g 82 z = (r : Int) ∧ r < 32 ∧ ∀ y, y < 5 → (r.testBit y = true ↔ rc (nP H) (pA H) (pB H) S m z y)) → ∃ j : hp, px_R (mm_Wish_grants, 3, [(2, 79), (0, (S : Int)), (0, (nP H : Int)), (0, (H : Int)), (0, (m : Int)), (0, (x : Int))], [], (K0, g)) = px_R (mm_Wish_grants, 35, [(2, 79), (0, (S : Int)), (0, (nP H : Int)), (0, (H : Int)), (0, (m : Int)), (0, 0)], [], (K0, j)) ∧ Fr [82] [] h j ∧ ∀ z, z < H → ∃ r : Nat, j 82 z = (r : Int) ∧ r < 32 ∧ ∀ y, y < 5 → (r.testBit y = true ↔ rc (nP H) (pA H) (pB H) S m z y) := by
    intro k
    induction k with
    | zero =>
      intro x hx g F V
      have : x = H := hx
      subst this
      exact ⟨g, by rw [eq_Wish_grants_3, if_neg (Int.lt_irrefl _)], F, V⟩
    | succ k ih =>
      intro x hx g F V
      have Cg := WCF F
      have hlt : ((x : Int) < (H : Int)) = True := eq_true (by omega)
      have gx : (decide ((0 : Int) ≤ (x : Int)) && decide ((x : Int) < 5)) = true := gd_ok (by omega)
      obtain ⟨r, r1, r2, r3⟩ := R_reachOf Cg hS (s := x) (by omega) hm
      obtain ⟨j, j1, j2, j3⟩ := ih (x + 1) (by omega) (px_up g 82 x (r : Int)) (Fr_up F _ rfl) (fun z hz => by
        by_cases e : z = x
        · subst e
          exact ⟨r, px_up_eq _ _ _ _, r1, r3⟩
        · obtain ⟨q, q1, q2⟩ := V z (by omega)
          exact ⟨q, (px_up_slot _ _ _ _ e).trans q1, q2⟩)
      refine ⟨j, ?_, j2, j3⟩
      rw [eq_Wish_grants_3]
      simp only [px_rd_mk, px_wr_mk, Int.reduceToNat, Int.toNat_natCast, if_true, if_false, Option.bind_some, px_up_cell, px_up_slot, px_up_eq, ne_eq, Nat.reduceEqDiff, not_false_eq_true, Int.reduceEq, Int.reduceLT, Int.reduceLE, Int.reduceNeg, decide_true, decide_false, Bool.and_true, Bool.true_and, Bool.and_false, Bool.false_and, and_self, and_true, true_and, and_false, false_and, bi_T, bi_F, not_true_eq_false, Bool.false_eq_true, kg_79, ka_82, ir_79_3 Cg.2.1, ir_79_4 Cg.2.1, ir_79_5 Cg.2.1, hlt, gx, r2, px_w_s (show x < 1000000 by omega)]
      exact j1
  obtain ⟨g, g1, g2, g3⟩ := l1 H 0 (Nat.zero_add H) h (Fr_rf _ _ _) (fun z hz => absurd hz (by omega))
  have Cg := WCF g2
  have gW : g 79 0 = (W : Int) := (g2 79 0 rfl).trans hW
  have hr : ∃ r : Nat → Nat, ∀ x, x < H → g 82 x = (r x : Int) ∧ r x < 32 ∧ ∀ z, z < 5 → ((r x).testBit z = true ↔ rc (nP H) (pA H) (pB H) S m x z) := by
    refine ⟨fun x => (g 82 x).toNat, fun x hx => ?_⟩
    obtain ⟨r, r1, r2, r3⟩ := g3 x hx
    have e : (g 82 x).toNat = r := by omega
    simp only [e]
    exact ⟨r1, r2, r3⟩
  obtain ⟨r, hr⟩ := hr
  have l2 : ∀ k p : Nat, p + k = nP H → (∀ q, q < p → inS W q = true → rc (nP H) (pA H) (pB H) S m (pA H q) (pB H q)) → ∃ v : Int, px_R (mm_Wish_grants, 35, [(2, 79), (0, (S : Int)), (0, (nP H : Int)), (0, (H : Int)), (0, (m : Int)), (0, (p : Int))], [], (K0, g)) = some (v, (K0, g)) ∧ ((v = 1 ∧ grS H W S m) ∨ (v = 0 ∧ ¬ grS H W S m)) := by
    intro k
    induction k with
    | zero =>
      intro p hp V
      have : p = nP H := hp
      subst this
      exact ⟨1, by rw [eq_Wish_grants_35, if_neg (Int.lt_irrefl _)], Or.inl ⟨rfl, V⟩⟩
    | succ k ih =>
      intro p hp V
      have hlt : ((p : Int) < (nP H : Int)) = True := eq_true (by omega)
      have b1 := bit_1 hW2 (show p < 10 by omega)
      cases inA : inS W p
      · have b2 : (px_and (px_shr (W : Int) (p : Int)) 1 = 1) = False := by rw [b1, inA]; simp
        obtain ⟨v, v1, v2⟩ := ih (p + 1) (by omega) (fun q hq hi => by
          by_cases e : q = p
          · rw [e, inA] at hi; cases hi
          · exact V q (by omega) hi)
        refine ⟨v, ?_, v2⟩
        rw [eq_Wish_grants_35]
        simp only [px_rd_mk, px_wr_mk, Int.reduceToNat, Int.toNat_natCast, if_true, if_false, Option.bind_some, px_up_cell, px_up_slot, px_up_eq, ne_eq, Nat.reduceEqDiff, not_false_eq_true, Int.reduceEq, Int.reduceLT, Int.reduceLE, Int.reduceNeg, decide_true, decide_false, Bool.and_true, Bool.true_and, Bool.and_false, Bool.false_and, and_self, and_true, true_and, and_false, false_and, bi_T, bi_F, not_true_eq_false, Bool.false_eq_true, kg_79, hlt, gW, b2, px_w_s (show p < 1000000 by omega)]
        exact v1
      · have b2 : (px_and (px_shr (W : Int) (p : Int)) 1 = 1) = True := by rw [b1, inA]; simp
        obtain ⟨v, v1, v2⟩ := isReached_ok Cg (S := S) (m := m) (p := p) (by omega) hr
        rcases v2 with ⟨rfl, v2⟩ | ⟨rfl, v2⟩
        · obtain ⟨v', w1, w2⟩ := ih (p + 1) (by omega) (fun q hq hi => by
            by_cases e : q = p
            · rw [e]; exact v2
            · exact V q (by omega) hi)
          refine ⟨v', ?_, w2⟩
          rw [eq_Wish_grants_35]
          simp only [px_rd_mk, px_wr_mk, Int.reduceToNat, Int.toNat_natCast, if_true, if_false, Option.bind_some, px_up_cell, px_up_slot, px_up_eq, ne_eq, Nat.reduceEqDiff, not_false_eq_true, Int.reduceEq, Int.reduceLT, Int.reduceLE, Int.reduceNeg, decide_true, decide_false, Bool.and_true, Bool.true_and, Bool.and_false, Bool.false_and, and_self, and_true, true_and, and_false, false_and, bi_T, bi_F, not_true_eq_false, Bool.false_eq_true, kg_79, hlt, gW, b2, v1, px_w_s (show p < 1000000 by omega)]
          exact w1
        · refine ⟨0, ?_, Or.inr ⟨rfl, fun z => v2 (z p (by omega) inA)⟩⟩
          rw [eq_Wish_grants_35]
          simp only [px_rd_mk, px_wr_mk, Int.reduceToNat, Int.toNat_natCast, if_true, if_false, Option.bind_some, px_up_cell, px_up_slot, px_up_eq, ne_eq, Nat.reduceEqDiff, not_false_eq_true, Int.reduceEq, Int.reduceLT, Int.reduceLE, Int.reduceNeg, decide_true, decide_false, Bool.and_true, Bool.true_and, Bool.and_false, Bool.false_and, and_self, and_true, true_and, and_false, false_and, bi_T, bi_F, not_true_eq_false, Bool.false_eq_true, kg_79, hlt, gW, b2, v1]
  obtain ⟨v, v1, v2⟩ := l2 (nP H) 0 (Nat.zero_add _) (fun q hq => absurd hq (by omega))
  refine ⟨v, g, ?_, g2, v2⟩
  rw [eq_Wish_grants_0]
  exact g1.trans v1
def yvS (Y : Nat → Int) (S : Nat) : Nat → Int
  | 0 => 0
  | p + 1 => yvS Y S p + if inS S p = true then Y p else 0
theorem yvS_rng {Y : Nat → Int} {S : Nat} : ∀ p : Nat, (∀ q, q < p → -1 ≤ Y q ∧ Y q ≤ 141) → -(p : Int) ≤ yvS Y S p ∧ yvS Y S p ≤ 141 * (p : Int)
  | 0, _ => by unfold yvS; omega
  | p + 1, h => by
    have := yvS_rng (S := S) p fun q hq => h q (by omega)
    have := h p (by omega)
    rw [yvS]
    split <;> omega
theorem R_wyards {H : Nat} {Y : Nat → Int} {h : hp} (C : WC H Y h) (hY : ∀ p, p < nP H → -1 ≤ Y p ∧ Y p ≤ 141) {S : Nat} (hS : S < 1024) : px_R (mm_Wish_yardsOf, 0, [(2, 79), (0, (S : Int)), (0, (nP H : Int)), (9, 0), (9, 0)], [], (K0, h)) = some (yvS Y S (nP H), (K0, h)) := by
  have hH := C.1
  have hI := C.2.1
  have l10 := (fx_pn ⟨H, by omega⟩).1
  simp only at l10
  have ml : ∀ k p : Nat, p + k = nP H → px_R (mm_Wish_yardsOf, 5, [(2, 79), (0, (S : Int)), (0, (nP H : Int)), (0, yvS Y S p), (0, (p : Int))], [], (K0, h)) = some (yvS Y S (nP H), (K0, h)) := by
    intro k
    induction k with
    | zero =>
      intro p hp
      have : p = nP H := hp
      subst this
      rw [eq_Wish_yardsOf_5, if_neg (Int.lt_irrefl _)]
    | succ k ih =>
      intro p hp
      have hlt : ((p : Int) < (nP H : Int)) = True := eq_true (by omega)
      have gp : (decide ((0 : Int) ≤ (p : Int)) && decide ((p : Int) < 10)) = true := gd_ok (by omega)
      have b1 := bit_1 hS (show p < 10 by omega)
      have e80 := (C.2.2 p (by omega)).1
      have yr := yvS_rng (Y := Y) (S := S) p fun q hq => hY q (by omega)
      have yp := hY p (by omega)
      have i1 := ih (p + 1) (by omega)
      rw [yvS] at i1
      cases inA : inS S p
      · have b2 : (px_and (px_shr (S : Int) (p : Int)) 1 = 1) = False := by rw [b1, inA]; simp
        rw [inA, if_neg (by decide)] at i1
        have v1 : -2147483648 ≤ yvS Y S p + 0 ∧ yvS Y S p + 0 < 2147483648 := by omega
        rw [eq_Wish_yardsOf_5]
        simp only [px_rd_mk, px_wr_mk, Int.reduceToNat, Int.toNat_natCast, if_true, if_false, Option.bind_some, px_up_cell, px_up_slot, px_up_eq, ne_eq, Nat.reduceEqDiff, not_false_eq_true, Int.reduceEq, Int.reduceLT, Int.reduceLE, Int.reduceNeg, decide_true, decide_false, Bool.and_true, Bool.true_and, Bool.and_false, Bool.false_and, and_self, and_true, true_and, and_false, false_and, bi_T, bi_F, not_true_eq_false, Bool.false_eq_true, kg_79, ka_80, ir_79_3 hI, ir_79_4 hI, ir_79_5 hI, hlt, b2, px_w_n v1, px_w_s (show p < 1000000 by omega)]
        exact i1
      · have b2 : (px_and (px_shr (S : Int) (p : Int)) 1 = 1) = True := by rw [b1, inA]; simp
        rw [inA, if_pos rfl] at i1
        have v1 : -2147483648 ≤ yvS Y S p + Y p ∧ yvS Y S p + Y p < 2147483648 := by omega
        rw [eq_Wish_yardsOf_5]
        simp only [px_rd_mk, px_wr_mk, Int.reduceToNat, Int.toNat_natCast, if_true, if_false, Option.bind_some, px_up_cell, px_up_slot, px_up_eq, ne_eq, Nat.reduceEqDiff, not_false_eq_true, Int.reduceEq, Int.reduceLT, Int.reduceLE, Int.reduceNeg, decide_true, decide_false, Bool.and_true, Bool.true_and, Bool.and_false, Bool.false_and, and_self, and_true, true_and, and_false, false_and, bi_T, bi_F, not_true_eq_false, Bool.false_eq_true, kg_79, ka_80, ir_79_3 hI, ir_79_4 hI, ir_79_5 hI, hlt, gp, b2, e80, px_w_n v1, px_w_s (show p < 1000000 by omega)]
        exact i1
  rw [eq_Wish_yardsOf_0]
  exact ml (nP H) 0 (Nat.zero_add _)
/-- a set of strings that may be had -/
def okS (H W m : Nat) (Y : Nat → Int) (S : Nat) : Prop := (∀ p, p < nP H → inS S p = true → 0 ≤ Y p) ∧ grS H W S m
def LSt (H W m : Nat) (Y : Nat → Int) (S : Nat) (y b : Int) : Prop := (y = -1 ∧ b = -1 ∧ ∀ T, T < S → ¬ okS H W m Y T) ∨ ∃ T, T < S ∧ b = (T : Int) ∧ y = yvS Y T (nP H) ∧ okS H W m Y T ∧ (∀ U, U < S → okS H W m Y U → y ≤ yvS Y U (nP H)) ∧ ∀ U, U < T → okS H W m Y U → y < yvS Y U (nP H)
theorem LSt_u {H W m : Nat} {Y : Nat → Int} {S : Nat} {y b y2 b2 : Int} (h : LSt H W m Y S y b) (g : LSt H W m Y S y2 b2) : y = y2 ∧ b = b2 := by
  rcases h with ⟨h1, h2, h3⟩ | ⟨T, h1, h2, h3, h4, h5, h6⟩
  · rcases g with ⟨g1, g2, g3⟩ | ⟨U, g1, g2, g3, g4, g5, g6⟩
    · exact ⟨h1.trans g1.symm, h2.trans g2.symm⟩
    · exact absurd g4 (h3 U g1)
  · rcases g with ⟨g1, g2, g3⟩ | ⟨U, g1, g2, g3, g4, g5, g6⟩
    · exact absurd h4 (g3 T h1)
    · have a := h5 U g1 g4
      have c := g5 T h1 h4
      have e : T = U := by
        rcases Nat.lt_trichotomy T U with q | q | q
        · have := g6 T q h4; omega
        · exact q
        · have := h6 U q g4; omega
      subst e
      exact ⟨h3.trans g3.symm, h2.trans g2.symm⟩
theorem LSt_no {H W m : Nat} {Y : Nat → Int} {S : Nat} {y b : Int} (h : LSt H W m Y S y b) (no : ¬ okS H W m Y S) : LSt H W m Y (S + 1) y b := by
  rcases h with ⟨h1, h2, h3⟩ | ⟨T, h1, h2, h3, h4, h5, h6⟩
  · refine Or.inl ⟨h1, h2, fun T hT => ?_⟩
    by_cases e : T = S
    · rw [e]; exact no
    · exact h3 T (by omega)
  · refine Or.inr ⟨T, by omega, h2, h3, h4, fun U hU ho => ?_, h6⟩
    by_cases e : U = S
    · rw [e] at ho; exact absurd ho no
    · exact h5 U (by omega) ho
theorem LSt_ge {H W m : Nat} {Y : Nat → Int} {S : Nat} {y b : Int} (h : LSt H W m Y S y b) (hb : ¬ b = -1) (ge : y ≤ yvS Y S (nP H)) : LSt H W m Y (S + 1) y b := by
  rcases h with ⟨h1, h2, h3⟩ | ⟨T, h1, h2, h3, h4, h5, h6⟩
  · exact absurd h2 hb
  · refine Or.inr ⟨T, by omega, h2, h3, h4, fun U hU ho => ?_, h6⟩
    by_cases e : U = S
    · rw [e]; exact ge
    · exact h5 U (by omega) ho
theorem LSt_up {H W m : Nat} {Y : Nat → Int} {S : Nat} {y b : Int} (h : LSt H W m Y S y b) (ok : okS H W m Y S) (lt : b = -1 ∨ yvS Y S (nP H) < y) : LSt H W m Y (S + 1) (yvS Y S (nP H)) (S : Int) := by
  rcases h with ⟨h1, h2, h3⟩ | ⟨T, h1, h2, h3, h4, h5, h6⟩
  · refine Or.inr ⟨S, by omega, rfl, rfl, ok, fun U hU ho => ?_, fun U hU ho => absurd ho (h3 U hU)⟩
    by_cases e : U = S
    · rw [e]; exact Int.le_refl _
    · exact absurd ho (h3 U (by omega))
  · have lt2 : yvS Y S (nP H) < y := by
      rcases lt with q | q
      · omega
      · exact q
    refine Or.inr ⟨S, by omega, rfl, rfl, ok, fun U hU ho => ?_, fun U hU ho => ?_⟩
    · by_cases e : U = S
      · rw [e]; exact Int.le_refl _
      · have := h5 U (by omega) ho; omega
    · have := h5 U hU ho; omega
