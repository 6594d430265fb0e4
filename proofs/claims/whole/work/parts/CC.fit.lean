/-! The laws tried one by one. -/
theorem law_n {l : Nat} (hl : l < 1000) : px_w (Int.tdiv (l : Int) 20) = ((l / 20 : Nat) : Int) ∧ px_w (10 * px_w (Int.tmod (l : Int) 20 + 1)) = ((10 * (l % 20 + 1) : Nat) : Int) := by
  have d1 : Int.tdiv (l : Int) 20 = ((l / 20 : Nat) : Int) := rfl
  have d2 : Int.tmod (l : Int) 20 = ((l % 20 : Nat) : Int) := rfl
  have u1 : -2147483648 ≤ ((l / 20 : Nat) : Int) ∧ ((l / 20 : Nat) : Int) < 2147483648 := by omega
  have u2 : -2147483648 ≤ ((l % 20 : Nat) : Int) + 1 ∧ ((l % 20 : Nat) : Int) + 1 < 2147483648 := by omega
  have u3 : -2147483648 ≤ 10 * (((l % 20 : Nat) : Int) + 1) ∧ 10 * (((l % 20 : Nat) : Int) + 1) < 2147483648 := by omega
  have e : 10 * (((l % 20 : Nat) : Int) + 1) = ((10 * (l % 20 + 1) : Nat) : Int) := by omega
  rw [d1, d2]
  exact ⟨px_w_n u1, by rw [px_w_n u2, px_w_n u3, e]⟩
def fBG (f : Nat → Option Nat) : Nat → Int × Nat
  | 0 => (-1, 0)
  | l + 1 => match f l with
    | none => fBG f l
    | some P => if (fBG f l).1 = -1 ∨ (fBG f l).2 < P then ((l : Int), P) else fBG f l
def fMn (f : Nat → Option Nat) : Nat → Nat
  | 0 => 0
  | l + 1 => match f l with
    | none => fMn f l
    | some _ => fMn f l + 1
def fFi (f : Nat → Option Nat) : Nat → Int
  | 0 => -1
  | l + 1 => match f l with
    | none => fFi f l
    | some _ => if fFi f l = -1 then (l : Int) else fFi f l
theorem fMn_le (f : Nat → Option Nat) : ∀ l, fMn f l ≤ l
  | 0 => Nat.le_refl _
  | l + 1 => by
    have := fMn_le f l
    unfold fMn
    split <;> omega
theorem fBG_le {f : Nat → Option Nat} {c : Nat} (h : ∀ l P, f l = some P → P ≤ c) : ∀ l, (fBG f l).2 ≤ c
  | 0 => Nat.zero_le _
  | l + 1 => by
    have i := fBG_le h l
    rw [fBG]
    cases e : f l with
    | none => exact i
    | some P =>
      simp only
      have := h l P e
      split
      · exact this
      · exact i
theorem fBG_b (f : Nat → Option Nat) : ∀ l, (fBG f l).1 = -1 ∨ 0 ≤ (fBG f l).1
  | 0 => Or.inl rfl
  | l + 1 => by
    have i := fBG_b f l
    rw [fBG]
    cases e : f l with
    | none => exact i
    | some P =>
      simp only
      split
      · exact Or.inr (Int.natCast_nonneg l)
      · exact i
/-- a law that weighs as the one before is no better -/
theorem fBG_same {f : Nat → Option Nat} {l : Nat} (h : f (l + 1) = f l) : fBG f (l + 2) = fBG f (l + 1) := by
  rw [fBG, h]
  cases e : f l with
  | none => rfl
  | some P =>
    simp only
    have q : ¬ ((fBG f (l + 1)).1 = -1 ∨ (fBG f (l + 1)).2 < P) := by
      rw [fBG, e]
      simp only
      split
      · simp only
        omega
      · omega
    rw [if_neg q]
theorem wgF_c {b : Nat → Nat → Int} {known : Int} {w v : Nat → Nat} : ∀ m : Nat, (∀ k, k < m → w k = v k) → wgF b known w m = wgF b known v m
  | 0, _ => rfl
  | m + 1, h => by
    rw [wgF, wgF, wgF_c m fun k hk => h k (by omega), h m (by omega)]
def fitF (W N : Nat) (L : Nat → Nat → Nat → Int) (b : Nat → Nat → Int) (known : Int) (M Lc l : Nat) : Option Nat := wgF b known (wyV W N (L l) b known M) Lc
theorem fitF_le {W N : Nat} (hN : N ≤ 3) {L : Nat → Nat → Nat → Int} {b : Nat → Nat → Int} {known : Int} {M Lc : Nat} (L20 : Lc ≤ 20) (l P : Nat) (h : fitF W N L b known M Lc l = some P) : P ≤ 65536 ^ 20 := Nat.le_trans (wgF_le (fun k => wyV_le hN _ _ _ _ _) Lc P h) (Nat.pow_le_pow_right (by decide) L20)
theorem fitF_c {W N : Nat} {L : Nat → Nat → Nat → Int} {b : Nat → Nat → Int} {known : Int} {M Lc : Nat} (hF : BF b W Lc M) {l k : Nat} (h : ∀ w c, w < W → c < 4 → L l w c = L k w c) : fitF W N L b known M Lc l = fitF W N L b known M Lc k := by
  refine wgF_c Lc fun j hj => ?_
  unfold wyV
  have q := (hF.2.2.1 j hj).1
  rw [tkS_c h (show (b 1 j).toNat < W by omega)]
theorem p20_C : 65536 ^ 20 < B32 ^ 11 := by decide +kernel
theorem p20_M : 65536 ^ 20 < BT ^ 30 := by decide +kernel
theorem law137 {n : Nat} {g : hp} {m : Nat} {fi : Int} (o : Option Nat) (h9 : g 83 9 = (m : Int)) (hm : m < 1000) (h10 : g 83 10 = fi) {l : Nat} (hl : l < 1000) (known x5 x6 : Int) : ∃ g2 : hp, px_R (mm_Book_tryLaws, 137, [(2, 83), (2, (n : Int)), (2, 48), (2, 51), (0, known), (0, x5), (0, x6), (0, bo o), (0, (l : Int))], [], (K0, g)) = px_R (mm_Book_tryLaws, 33, [(2, 83), (2, (n : Int)), (2, 48), (2, 51), (0, known), (0, x5), (0, x6), (0, bo o), (0, ((l + 1 : Nat) : Int))], [], (K0, g2)) ∧ Fr [] [(83, 9), (83, 10)] g g2 ∧ g2 83 9 = ((match o with | none => m | some _ => m + 1 : Nat) : Int) ∧ g2 83 10 = (match o with | none => fi | some _ => if fi = -1 then (l : Int) else fi) := by
  have w1 := px_w_s (show l < 1000000 by omega)
  have w2 := px_w_s (show m < 1000000 by omega)
  cases o with
  | none =>
    refine ⟨g, ?_, Fr_rf _ _ _, h9, h10⟩
    rw [eq_Book_tryLaws_137]
    simp only [px_rd_mk, px_wr_mk, Int.reduceToNat, Int.toNat_natCast, if_true, if_false, Option.bind_some, px_up_cell, px_up_slot, px_up_eq, ne_eq, Nat.reduceEqDiff, not_false_eq_true, Int.reduceEq, Int.reduceLT, Int.reduceLE, Int.reduceNeg, decide_true, decide_false, Bool.and_true, Bool.true_and, Bool.and_false, Bool.false_and, and_self, and_true, true_and, and_false, false_and, bi_T, bi_F, not_true_eq_false, Bool.false_eq_true, kg_83, show bo none = 0 from rfl, w1]
  | some P =>
    by_cases c : fi = -1
    · have c1 := eq_true c
      refine ⟨px_up (px_up g 83 9 ((m + 1 : Nat) : Int)) 83 10 (l : Int), ?_, Fr_up (Fr_up (Fr_rf _ _ _) _ rfl) _ rfl, by simp only [px_up_cell, px_up_slot, px_up_eq, ne_eq, Nat.reduceEqDiff, not_false_eq_true], ?_⟩
      · rw [eq_Book_tryLaws_137]
        simp only [px_rd_mk, px_wr_mk, Int.reduceToNat, Int.toNat_natCast, if_true, if_false, Option.bind_some, px_up_cell, px_up_slot, px_up_eq, ne_eq, Nat.reduceEqDiff, not_false_eq_true, Int.reduceEq, Int.reduceLT, Int.reduceLE, Int.reduceNeg, decide_true, decide_false, Bool.and_true, Bool.true_and, Bool.and_false, Bool.false_and, and_self, and_true, true_and, and_false, false_and, bi_T, bi_F, not_true_eq_false, Bool.false_eq_true, kg_83, show bo (some P) = 1 from rfl, h9, h10, w1, w2, c1]
      · simp only
        rw [if_pos c]
        simp only [px_up_cell, px_up_slot, px_up_eq, ne_eq, Nat.reduceEqDiff, not_false_eq_true]
    · have c1 := eq_false c
      refine ⟨px_up (px_up g 83 9 ((m + 1 : Nat) : Int)) 83 10 fi, ?_, Fr_up (Fr_up (Fr_rf _ _ _) _ rfl) _ rfl, by simp only [px_up_cell, px_up_slot, px_up_eq, ne_eq, Nat.reduceEqDiff, not_false_eq_true], ?_⟩
      · rw [eq_Book_tryLaws_137]
        simp only [px_rd_mk, px_wr_mk, Int.reduceToNat, Int.toNat_natCast, if_true, if_false, Option.bind_some, px_up_cell, px_up_slot, px_up_eq, ne_eq, Nat.reduceEqDiff, not_false_eq_true, Int.reduceEq, Int.reduceLT, Int.reduceLE, Int.reduceNeg, decide_true, decide_false, Bool.and_true, Bool.true_and, Bool.and_false, Bool.false_and, and_self, and_true, true_and, and_false, false_and, bi_T, bi_F, not_true_eq_false, Bool.false_eq_true, kg_83, show bo (some P) = 1 from rfl, h9, h10, w1, w2, c1]
      · simp only
        rw [if_neg c]
        simp only [px_up_cell, px_up_slot, px_up_eq, ne_eq, Nat.reduceEqDiff, not_false_eq_true]
theorem law84 {n W N : Nat} {L : Nat → Nat → Nat → Int} {b : Nat → Nat → Int} {Lc M : Nat} {known : Int} (hF : BF b W Lc M) {l : Nat} {g : hp} (E : EC W N (L l) g) (H : BC b Lc M g) (h11 : g 83 11 = (fBG (fitF W N L b known M Lc) l).1) (hP : (fBG (fitF W N L b known M Lc) l).1 = -1 ∨ PD (g 100) B32 11 (fBG (fitF W N L b known M Lc) l).2) (x5 x6 x7 : Int) : ∃ g2 : hp, px_R (mm_Book_tryLaws, 84, [(2, 83), (2, (n : Int)), (2, 48), (2, 51), (0, known), (0, x5), (0, x6), (0, x7), (0, (l : Int))], [], (K0, g)) = px_R (mm_Book_tryLaws, 137, [(2, 83), (2, (n : Int)), (2, 48), (2, 51), (0, known), (0, x5), (0, x6), (0, bo (fitF W N L b known M Lc l)), (0, (l : Int))], [], (K0, g2)) ∧ Fr (wcs ++ [100]) [(51, 5), (83, 11)] g g2 ∧ g2 83 11 = (fBG (fitF W N L b known M Lc) (l + 1)).1 ∧ ((fBG (fitF W N L b known M Lc) (l + 1)).1 = -1 ∨ PD (g2 100) B32 11 (fBG (fitF W N L b known M Lc) (l + 1)).2) := by
  obtain ⟨g1, e1, F1, V1⟩ := R_weigh hF E H (known := known)
  have e1 : px_R (mm_Book_weigh, 0, [(2, 83), (2, 51), (0, known), (9, 0), (9, 0), (9, 0), (9, 0)], [], (K0, g)) = some (bo (fitF W N L b known M Lc l), (K0, g1)) := e1
  have V1 : ∀ Q, fitF W N L b known M Lc l = some Q → PD (g1 98) B32 11 Q := V1
  have I1 := IR_Fr E.2.2.1 F1 (by decide)
  have le := fitF_le E.2.1 hF.1 (W := W) (L := L) (b := b) (known := known) (M := M)
  have leG := fBG_le le l
  have q11 : g1 83 11 = (fBG (fitF W N L b known M Lc) l).1 := (F1 83 11 rfl).trans h11
  have q100 : (fBG (fitF W N L b known M Lc) l).1 = -1 ∨ PD (g1 100) B32 11 (fBG (fitF W N L b known M Lc) l).2 := hP.imp id (fun z i hi => (F1 100 i rfl).trans (z i hi))
  generalize hA : fBG (fitF W N L b known M Lc) l = A at *
  have st : fBG (fitF W N L b known M Lc) (l + 1) = match fitF W N L b known M Lc l with | none => A | some P => if A.1 = -1 ∨ A.2 < P then ((l : Int), P) else A := by rw [fBG, hA]
  rw [st]
  cases o : fitF W N L b known M Lc l with
  | none =>
    rw [o] at e1
    refine ⟨g1, ?_, Fr_sub F1 rfl rfl, q11, q100⟩
    rw [eq_Book_tryLaws_84]
    simp only [px_rd_mk, px_wr_mk, Int.reduceToNat, Int.toNat_natCast, if_true, if_false, Option.bind_some, px_up_cell, px_up_slot, px_up_eq, ne_eq, Nat.reduceEqDiff, not_false_eq_true, Int.reduceEq, Int.reduceLT, Int.reduceLE, Int.reduceNeg, decide_true, decide_false, Bool.and_true, Bool.true_and, Bool.and_false, Bool.false_and, and_self, and_true, true_and, and_false, false_and, bi_T, bi_F, not_true_eq_false, Bool.false_eq_true, kg_51, kg_83, e1, show bo none = 0 from rfl]
  | some P =>
    rw [o] at e1
    have pP := V1 P o
    have lP := le l P o
    have b1 : bo (some P) = 1 := rfl
    obtain ⟨g2, r1, r2, r3⟩ := R_becomeC (h := px_up g1 83 11 (l : Int)) (P := P) (IR_Fr I1 (Fr_up (Fr_rf [] [(83, 11)] g1) _ rfl) (by decide)) (fun i hi => (px_up_cell _ _ _ _ (by decide)).trans (pP i hi))
    have F2 : Fr (wcs ++ [100]) [(51, 5), (83, 11)] g g2 := Fr_sub (Fr_tr F1 (Fr_tr (Fr_up (Fr_rf [] [(83, 11)] g1) (l : Int) rfl) r2)) rfl rfl
    have v11 : g2 83 11 = (l : Int) := (r2 83 11 rfl).trans (px_up_eq _ _ _ _)
    simp only
    by_cases c : A.1 = -1
    · have c1 := eq_true c
      refine ⟨g2, ?_, F2, ?_, ?_⟩
      · rw [eq_Book_tryLaws_84]
        simp only [px_rd_mk, px_wr_mk, Int.reduceToNat, Int.toNat_natCast, if_true, if_false, Option.bind_some, px_up_cell, px_up_slot, px_up_eq, ne_eq, Nat.reduceEqDiff, not_false_eq_true, Int.reduceEq, Int.reduceLT, Int.reduceLE, Int.reduceNeg, decide_true, decide_false, Bool.and_true, Bool.true_and, Bool.and_false, Bool.false_and, and_self, and_true, true_and, and_false, false_and, bi_T, bi_F, not_true_eq_false, Bool.false_eq_true, kg_51, kg_83, kg_97, kg_99, e1, b1, q11, c1, ir_83_3 I1, ir_83_4 I1, ir_83_5 I1, ir_83_6 I1, ir_83_7 I1, ir_83_8 I1, ir_83_12 I1, ir_83_13 I1, ir_83_14 I1, r1]
      · rw [if_pos (Or.inl c)]
        exact v11
      · rw [if_pos (Or.inl c)]
        exact Or.inr r3
    · have c1 := eq_false c
      have pA := q100.resolve_left c
      have ab := R_aboveC I1 pP pA (Nat.lt_of_le_of_lt lP p20_C) (Nat.lt_of_le_of_lt leG p20_C)
      by_cases d : A.2 < P
      · rw [bi_t d] at ab
        refine ⟨g2, ?_, F2, ?_, ?_⟩
        · rw [eq_Book_tryLaws_84]
          simp only [px_rd_mk, px_wr_mk, Int.reduceToNat, Int.toNat_natCast, if_true, if_false, Option.bind_some, px_up_cell, px_up_slot, px_up_eq, ne_eq, Nat.reduceEqDiff, not_false_eq_true, Int.reduceEq, Int.reduceLT, Int.reduceLE, Int.reduceNeg, decide_true, decide_false, Bool.and_true, Bool.true_and, Bool.and_false, Bool.false_and, and_self, and_true, true_and, and_false, false_and, bi_T, bi_F, not_true_eq_false, Bool.false_eq_true, kg_51, kg_83, kg_97, kg_99, e1, b1, q11, c1, ir_83_3 I1, ir_83_4 I1, ir_83_5 I1, ir_83_6 I1, ir_83_7 I1, ir_83_8 I1, ir_83_12 I1, ir_83_13 I1, ir_83_14 I1, ab, r1]
        · rw [if_pos (Or.inr d)]
          exact v11
        · rw [if_pos (Or.inr d)]
          exact Or.inr r3
      · rw [bi_f d] at ab
        have nd : ¬ (A.1 = -1 ∨ A.2 < P) := fun z => z.elim c d
        refine ⟨g1, ?_, Fr_sub F1 rfl rfl, ?_, ?_⟩
        · rw [eq_Book_tryLaws_84]
          simp only [px_rd_mk, px_wr_mk, Int.reduceToNat, Int.toNat_natCast, if_true, if_false, Option.bind_some, px_up_cell, px_up_slot, px_up_eq, ne_eq, Nat.reduceEqDiff, not_false_eq_true, Int.reduceEq, Int.reduceLT, Int.reduceLE, Int.reduceNeg, decide_true, decide_false, Bool.and_true, Bool.true_and, Bool.and_false, Bool.false_and, and_self, and_true, true_and, and_false, false_and, bi_T, bi_F, not_true_eq_false, Bool.false_eq_true, kg_51, kg_83, kg_97, kg_99, e1, b1, q11, c1, ir_83_3 I1, ir_83_4 I1, ir_83_5 I1, ir_83_6 I1, ir_83_7 I1, ir_83_8 I1, ir_83_12 I1, ir_83_13 I1, ir_83_14 I1, ab]
        · rw [if_neg nd]
          exact q11
        · rw [if_neg nd]
          exact q100
