/-! Tokens of the tape: the class. -/
def chB (T : Nat → Int) (j : Nat) : Bool := decide (T j = 32) || decide (T j = 10)
def chA (T : Nat → Int) (j : Nat) : Bool := decide (97 ≤ T j) && decide (T j ≤ 122)
def chD (T : Nat → Int) (j : Nat) : Bool := decide (48 ≤ T j) && decide (T j ≤ 57)
theorem chA_iff {T : Nat → Int} {j : Nat} : chA T j = true ↔ 97 ≤ T j ∧ T j ≤ 122 := by unfold chA; simp
theorem chD_iff {T : Nat → Int} {j : Nat} : chD T j = true ↔ 48 ≤ T j ∧ T j ≤ 57 := by unfold chD; simp
theorem chB_iff {T : Nat → Int} {j : Nat} : chB T j = true ↔ T j = 32 ∨ T j = 10 := by unfold chB; simp
/-- a run of f from s ends at e -/
def rn (f : Nat → Bool) (N s e : Nat) : Prop := s ≤ e ∧ e ≤ N ∧ (∀ j, s ≤ j → j < e → f j = true) ∧ (e = N ∨ f e = false)
theorem rn_u {f : Nat → Bool} {N s e d : Nat} (h : rn f N s e) (g : rn f N s d) : e = d := by
  obtain ⟨h1, h2, h3, h4⟩ := h
  obtain ⟨g1, g2, g3, g4⟩ := g
  rcases Nat.lt_trichotomy e d with q | q | q
  · rcases h4 with h4 | h4
    · omega
    · rw [g3 e h1 q] at h4; cases h4
  · exact q
  · rcases g4 with g4 | g4
    · omega
    · rw [h3 d g1 q] at g4; cases g4
/-- a token from place i on: its start, its end, its kind -/
def TK (T : Nat → Int) (N i s e k : Nat) : Prop := rn (chB T) N i s ∧ ((s = N ∧ e = N ∧ k = 0) ∨ (s < N ∧ chA T s = true ∧ rn (chA T) N s e ∧ k = if 8 < e - s then 1 else 2) ∨ (s < N ∧ chA T s = false ∧ chD T s = true ∧ rn (chD T) N s e ∧ k = if 4 < e - s then 1 else 3) ∨ (s < N ∧ chA T s = false ∧ chD T s = false ∧ e = s + 1 ∧ k = if T s = 59 then 4 else 1))
theorem TK_u {T : Nat → Int} {N i s e k s2 e2 k2 : Nat} (h : TK T N i s e k) (g : TK T N i s2 e2 k2) : s = s2 ∧ e = e2 ∧ k = k2 := by
  obtain ⟨h1, h2⟩ := h
  obtain ⟨g1, g2⟩ := g
  have es := rn_u h1 g1
  subst es
  refine ⟨rfl, ?_⟩
  rcases h2 with ⟨a1, a2, a3⟩ | ⟨a1, a2, a3, a4⟩ | ⟨a1, a2, a3, a4, a5⟩ | ⟨a1, a2, a3, a4, a5⟩ <;> rcases g2 with ⟨b1, b2, b3⟩ | ⟨b1, b2, b3, b4⟩ | ⟨b1, b2, b3, b4, b5⟩ | ⟨b1, b2, b3, b4, b5⟩
  · omega
  · omega
  · omega
  · omega
  · omega
  · have := rn_u a3 b3
    subst this
    exact ⟨rfl, a4.trans b4.symm⟩
  · rw [a2] at b2; cases b2
  · rw [a2] at b2; cases b2
  · omega
  · rw [a2] at b2; cases b2
  · have := rn_u a4 b4
    subst this
    exact ⟨rfl, a5.trans b5.symm⟩
  · rw [a3] at b3; cases b3
  · omega
  · rw [a2] at b2; cases b2
  · rw [a3] at b3; cases b3
  · exact ⟨a4.trans b4.symm, a5.trans b5.symm⟩
theorem TK_le {T : Nat → Int} {N i s e k : Nat} (h : TK T N i s e k) : i ≤ s ∧ s ≤ e ∧ e ≤ N ∧ k < 5 ∧ (¬ k = 0 → s < e) := by
  obtain ⟨⟨h1, h2, _⟩, h5⟩ := h
  rcases h5 with ⟨a1, a2, a3⟩ | ⟨a1, a2, ⟨a3, a6, a7, a8⟩, a4⟩ | ⟨a1, a2, a3, ⟨a4, a6, a7, a8⟩, a5⟩ | ⟨a1, a2, a3, a4, a5⟩
  · omega
  · have : ¬ e = s := fun z => by
      rcases a8 with q | q
      · omega
      · rw [z, a2] at q; cases q
    split at a4 <;> omega
  · have : ¬ e = s := fun z => by
      rcases a8 with q | q
      · omega
      · rw [z, a3] at q; cases q
    split at a5 <;> omega
  · split at a5 <;> omega
def wvl (T : Nat → Int) (s : Nat) : Nat → Int
  | 0 => 0
  | k + 1 => wvl T s k * 32 + (T (s + k) - 97 + 1)
def nvl (T : Nat → Int) (s : Nat) : Nat → Int
  | 0 => 0
  | k + 1 => nvl T s k * 10 + (T (s + k) - 48)
theorem wvl_rng {T : Nat → Int} {s : Nat} : ∀ k : Nat, (∀ j, s ≤ j → j < s + k → chA T j = true) → 0 ≤ wvl T s k ∧ wvl T s k < ((32 ^ k : Nat) : Int)
  | 0, _ => by unfold wvl; decide
  | k + 1, h => by
    have i := wvl_rng (T := T) (s := s) k fun j h1 h2 => h j h1 (by omega)
    have c := chA_iff.mp (h (s + k) (by omega) (by omega))
    have e : 32 ^ (k + 1) = 32 ^ k * 32 := rfl
    rw [wvl, e]
    omega
theorem nvl_rng {T : Nat → Int} {s : Nat} : ∀ k : Nat, (∀ j, s ≤ j → j < s + k → chD T j = true) → 0 ≤ nvl T s k ∧ nvl T s k < ((10 ^ k : Nat) : Int)
  | 0, _ => by unfold nvl; decide
  | k + 1, h => by
    have i := nvl_rng (T := T) (s := s) k fun j h1 h2 => h j h1 (by omega)
    have c := chD_iff.mp (h (s + k) (by omega) (by omega))
    have e : 10 ^ (k + 1) = 10 ^ k * 10 := rfl
    rw [nvl, e]
    omega
theorem wv_step {v c : Int} (h : 0 ≤ v ∧ v < 1099511627776) (hc : 97 ≤ c ∧ c ≤ 122) : px_wl (px_wl (v * 32) + px_w (px_w (c - 97) + 1)) = v * 32 + (c - 97 + 1) := by
  have u1 : -9223372036854775808 ≤ v * 32 ∧ v * 32 < 9223372036854775808 := by omega
  have u2 : -2147483648 ≤ c - 97 ∧ c - 97 < 2147483648 := by omega
  have u3 : -2147483648 ≤ c - 97 + 1 ∧ c - 97 + 1 < 2147483648 := by omega
  have u4 : -9223372036854775808 ≤ v * 32 + (c - 97 + 1) ∧ v * 32 + (c - 97 + 1) < 9223372036854775808 := by omega
  rw [px_wl_n u1, px_w_n u2, px_w_n u3, px_wl_n u4]
theorem nv_step {v c : Int} (h : 0 ≤ v ∧ v < 100000) (hc : 48 ≤ c ∧ c ≤ 57) : px_w (px_w (v * 10) + px_w (c - 48)) = v * 10 + (c - 48) := by
  have u1 : -2147483648 ≤ v * 10 ∧ v * 10 < 2147483648 := by omega
  have u2 : -2147483648 ≤ c - 48 ∧ c - 48 < 2147483648 := by omega
  have u3 : -2147483648 ≤ v * 10 + (c - 48) ∧ v * 10 + (c - 48) < 2147483648 := by omega
  rw [px_w_n u1, px_w_n u2, px_w_n u3]
/-- the tape as the class has it -/
def TC2 (T : Nat → Int) (N : Nat) (h : hp) : Prop := IR h ∧ h 2 1 = (N : Int) ∧ N ≤ 900 ∧ (∀ j, h 3 j = T j)
theorem TC2_F {T : Nat → Int} {N : Nat} {h g : hp} {cs : List Nat} {ss : List (Nat × Nat)} (C : TC2 T N h) (F : Fr cs ss h g) (e : fdj cs ss [3] [(2, 1)] = true) (e2 : IR h → IR g) : TC2 T N g := by
  have c := Fr_dj F e
  exact ⟨e2 C.1, (c 2 1 rfl).trans C.2.1, C.2.2.1, fun j => (c 3 j rfl).trans (C.2.2.2 j)⟩
theorem R_isBlank (T : Nat → Int) (j : Nat) (w : pw) : px_R (mm_Tape_isBlank, 0, [(0, T j)], [], w) = some (if chB T j = true then 1 else 0, w) := by
  rw [eq_Tape_isBlank_0]
  by_cases a : T j = 32
  · rw [if_pos a, if_pos (chB_iff.mpr (Or.inl a))]
  · rw [if_neg a]
    by_cases b : T j = 10
    · rw [if_pos b, if_pos (chB_iff.mpr (Or.inr b))]
    · rw [if_neg b, if_neg (fun q => (chB_iff.mp q).elim a b)]
theorem R_isLetter (T : Nat → Int) (j : Nat) (w : pw) : px_R (mm_Tape_isLetter, 0, [(0, T j)], [], w) = some (if chA T j = true then 1 else 0, w) := by
  rw [eq_Tape_isLetter_0]
  by_cases a : T j < 97
  · rw [if_pos a, if_neg (fun q => by have := chA_iff.mp q; omega)]
  · rw [if_neg a]
    by_cases b : 122 < T j
    · rw [if_pos b, if_neg (fun q => by have := chA_iff.mp q; omega)]
    · rw [if_neg b, if_pos (chA_iff.mpr ⟨by omega, by omega⟩)]
theorem R_isDigitC (T : Nat → Int) (j : Nat) (w : pw) : px_R (mm_Tape_isDigit, 0, [(0, T j)], [], w) = some (if chD T j = true then 1 else 0, w) := by
  rw [eq_Tape_isDigit_0]
  by_cases a : T j < 48
  · rw [if_pos a, if_neg (fun q => by have := chD_iff.mp q; omega)]
  · rw [if_neg a]
    by_cases b : 57 < T j
    · rw [if_pos b, if_neg (fun q => by have := chD_iff.mp q; omega)]
    · rw [if_neg b, if_pos (chD_iff.mpr ⟨by omega, by omega⟩)]
theorem skip_C {T : Nat → Int} {N : Nat} (k : Nat) : ∀ (i : Nat) (h : hp), i + k = N → TC2 T N h → h 2 4 = (i : Int) → ∃ (s : Nat) (g : hp), rn (chB T) N i s ∧ px_R (mm_Tape_readNext, 0, [(2, 2)], [], (K0, h)) = px_R (mm_Tape_readNext, 39, [(2, 2)], [], (K0, g)) ∧ Fr [] [(2, 4)] h g ∧ g 2 4 = (s : Int) := by
  induction k with
  | zero =>
    intro i h hi C e4
    have : i = N := hi
    subst this
    refine ⟨i, h, ⟨Nat.le_refl _, Nat.le_refl _, fun j h1 h2 => by omega, Or.inl rfl⟩, ?_, Fr_rf _ _ _, e4⟩
    rw [eq_Tape_readNext_0]
    simp only [px_rd_mk, px_wr_mk, Int.reduceToNat, Int.toNat_natCast, if_true, if_false, Option.bind_some, px_up_cell, px_up_slot, px_up_eq, ne_eq, Nat.reduceEqDiff, not_false_eq_true, Int.reduceEq, Int.reduceLT, Int.reduceLE, Int.reduceNeg, decide_true, decide_false, Bool.and_true, Bool.true_and, Bool.and_false, Bool.false_and, and_self, and_true, true_and, and_false, false_and, bi_T, bi_F, not_true_eq_false, Bool.false_eq_true, kg_2, e4, C.2.1, Int.lt_irrefl]
  | succ k ih =>
    intro i h hi C e4
    obtain ⟨hI, hN, hN9, hT⟩ := C
    have hlt : ((i : Int) < (N : Int)) = True := eq_true (by omega)
    have gi : (decide ((0 : Int) ≤ (i : Int)) && decide ((i : Int) < 900)) = true := gd_ok (by omega)
    have b := R_isBlank T i (K0, h)
    cases c : chB T i
    · rw [c, if_neg (by decide)] at b
      refine ⟨i, h, ⟨Nat.le_refl _, by omega, fun j h1 h2 => by omega, Or.inr c⟩, ?_, Fr_rf _ _ _, e4⟩
      rw [eq_Tape_readNext_0]
      simp only [px_rd_mk, px_wr_mk, Int.reduceToNat, Int.toNat_natCast, if_true, if_false, Option.bind_some, px_up_cell, px_up_slot, px_up_eq, ne_eq, Nat.reduceEqDiff, not_false_eq_true, Int.reduceEq, Int.reduceLT, Int.reduceLE, Int.reduceNeg, decide_true, decide_false, Bool.and_true, Bool.true_and, Bool.and_false, Bool.false_and, and_self, and_true, true_and, and_false, false_and, bi_T, bi_F, not_true_eq_false, Bool.false_eq_true, kg_2, ka_3, Bool.true_or, ir_2_0 hI, e4, hN, hlt, gi, hT i, b]
    · rw [c, if_pos rfl] at b
      have F1 : Fr [] [(2, 4)] h (px_up h 2 4 ((i + 1 : Nat) : Int)) := Fr_up (Fr_rf _ _ _) _ rfl
      obtain ⟨s, g, r1, r2, r3, r4⟩ := ih (i + 1) (px_up h 2 4 ((i + 1 : Nat) : Int)) (by omega) (TC2_F ⟨hI, hN, hN9, hT⟩ F1 rfl (fun I => IR_Fr I F1 (by decide))) (px_up_eq _ _ _ _)
      obtain ⟨q1, q2, q3, q4⟩ := r1
      refine ⟨s, g, ⟨by omega, q2, fun j h1 h2 => ?_, q4⟩, ?_, Fr_tr2 F1 r3, r4⟩
      · by_cases e : j = i
        · rw [e]; exact c
        · exact q3 j (by omega) h2
      · rw [eq_Tape_readNext_0]
        simp only [px_rd_mk, px_wr_mk, Int.reduceToNat, Int.toNat_natCast, if_true, if_false, Option.bind_some, px_up_cell, px_up_slot, px_up_eq, ne_eq, Nat.reduceEqDiff, not_false_eq_true, Int.reduceEq, Int.reduceLT, Int.reduceLE, Int.reduceNeg, decide_true, decide_false, Bool.and_true, Bool.true_and, Bool.and_false, Bool.false_and, and_self, and_true, true_and, and_false, false_and, bi_T, bi_F, not_true_eq_false, Bool.false_eq_true, kg_2, ka_3, Bool.true_or, ir_2_0 hI, e4, hN, hlt, gi, hT i, b, px_w_s (show i < 1000000 by omega)]
        exact r2
theorem word_C {T : Nat → Int} {N s : Nat} (k : Nat) : ∀ (i : Nat) (h : hp), i + k = N → s ≤ i → TC2 T N h → h 2 3 = (s : Int) → h 2 4 = (i : Int) → (∀ j, s ≤ j → j < i → chA T j = true) → (i - s ≤ 8 → h 2 5 = wvl T s (i - s)) → ∃ (e : Nat) (g : hp), i ≤ e ∧ e ≤ N ∧ (∀ j, s ≤ j → j < e → chA T j = true) ∧ (e = N ∨ chA T e = false) ∧ px_R (mm_Tape_readWord, 0, [(2, 2)], [], (K0, h)) = some (0, (K0, g)) ∧ Fr [] [(2, 2), (2, 4), (2, 5)] h g ∧ g 2 4 = (e : Int) ∧ g 2 2 = ((if 8 < e - s then 1 else 2 : Nat) : Int) ∧ (e - s ≤ 8 → g 2 5 = wvl T s (e - s)) := by
  have stop : ∀ (i : Nat) (h : hp), s ≤ i → i ≤ N → N ≤ 900 → h 2 3 = (s : Int) → h 2 4 = (i : Int) → px_R (mm_Tape_readWord, 67, [(2, 2)], [], (K0, h)) = some (0, (K0, px_up h 2 2 ((if 8 < i - s then 1 else 2 : Nat) : Int))) := by
    intro i h h1 h2 h3 e3 e4
    have u : -2147483648 ≤ (i : Int) - (s : Int) ∧ (i : Int) - (s : Int) < 2147483648 := by omega
    by_cases c : 8 < i - s
    · have c2 : (8 < (i : Int) - (s : Int)) = True := eq_true (by omega)
      rw [if_pos c, eq_Tape_readWord_67]
      simp only [px_rd_mk, px_wr_mk, Int.reduceToNat, Int.toNat_natCast, if_true, if_false, Option.bind_some, px_up_cell, px_up_slot, px_up_eq, ne_eq, Nat.reduceEqDiff, not_false_eq_true, Int.reduceEq, Int.reduceLT, Int.reduceLE, Int.reduceNeg, decide_true, decide_false, Bool.and_true, Bool.true_and, Bool.and_false, Bool.false_and, and_self, and_true, true_and, and_false, false_and, bi_T, bi_F, not_true_eq_false, Bool.false_eq_true, kg_2, e3, e4, px_w_n u, c2]
      rfl
    · have c2 : (8 < (i : Int) - (s : Int)) = False := eq_false (by omega)
      rw [if_neg c, eq_Tape_readWord_67]
      simp only [px_rd_mk, px_wr_mk, Int.reduceToNat, Int.toNat_natCast, if_true, if_false, Option.bind_some, px_up_cell, px_up_slot, px_up_eq, ne_eq, Nat.reduceEqDiff, not_false_eq_true, Int.reduceEq, Int.reduceLT, Int.reduceLE, Int.reduceNeg, decide_true, decide_false, Bool.and_true, Bool.true_and, Bool.and_false, Bool.false_and, and_self, and_true, true_and, and_false, false_and, bi_T, bi_F, not_true_eq_false, Bool.false_eq_true, kg_2, e3, e4, px_w_n u, c2]
      rfl
  induction k with
  | zero =>
    intro i h hi hs C e3 e4 A V
    have : i = N := hi
    subst this
    have st := stop i h hs (Nat.le_refl _) C.2.2.1 e3 e4
    refine ⟨i, px_up h 2 2 ((if 8 < i - s then 1 else 2 : Nat) : Int), Nat.le_refl _, Nat.le_refl _, A, Or.inl rfl, ?_, Fr_up (Fr_rf _ _ _) _ rfl, ?_, px_up_eq _ _ _ _, ?_⟩
    · rw [eq_Tape_readWord_0]
      simp only [px_rd_mk, px_wr_mk, Int.reduceToNat, Int.toNat_natCast, if_true, if_false, Option.bind_some, px_up_cell, px_up_slot, px_up_eq, ne_eq, Nat.reduceEqDiff, not_false_eq_true, Int.reduceEq, Int.reduceLT, Int.reduceLE, Int.reduceNeg, decide_true, decide_false, Bool.and_true, Bool.true_and, Bool.and_false, Bool.false_and, and_self, and_true, true_and, and_false, false_and, bi_T, bi_F, not_true_eq_false, Bool.false_eq_true, kg_2, e4, C.2.1, Int.lt_irrefl]
      exact st
    · simp only [px_up_cell, px_up_slot, px_up_eq, ne_eq, Nat.reduceEqDiff, not_false_eq_true]
      exact e4
    · simp only [px_up_cell, px_up_slot, px_up_eq, ne_eq, Nat.reduceEqDiff, not_false_eq_true]
      exact V
  | succ k ih =>
    intro i h hi hs C e3 e4 A V
    obtain ⟨hI, hN, hN9, hT⟩ := C
    have hlt : ((i : Int) < (N : Int)) = True := eq_true (by omega)
    have gi : (decide ((0 : Int) ≤ (i : Int)) && decide ((i : Int) < 900)) = true := gd_ok (by omega)
    have b := R_isLetter T i (K0, h)
    cases c : chA T i
    · rw [c, if_neg (by decide)] at b
      have st := stop i h hs (by omega) hN9 e3 e4
      refine ⟨i, px_up h 2 2 ((if 8 < i - s then 1 else 2 : Nat) : Int), Nat.le_refl _, by omega, A, Or.inr c, ?_, Fr_up (Fr_rf _ _ _) _ rfl, ?_, px_up_eq _ _ _ _, ?_⟩
      · rw [eq_Tape_readWord_0]
        simp only [px_rd_mk, px_wr_mk, Int.reduceToNat, Int.toNat_natCast, if_true, if_false, Option.bind_some, px_up_cell, px_up_slot, px_up_eq, ne_eq, Nat.reduceEqDiff, not_false_eq_true, Int.reduceEq, Int.reduceLT, Int.reduceLE, Int.reduceNeg, decide_true, decide_false, Bool.and_true, Bool.true_and, Bool.and_false, Bool.false_and, and_self, and_true, true_and, and_false, false_and, bi_T, bi_F, not_true_eq_false, Bool.false_eq_true, kg_2, ka_3, Bool.true_or, ir_2_0 hI, e4, hN, hlt, gi, hT i, b]
        exact st
      · simp only [px_up_cell, px_up_slot, px_up_eq, ne_eq, Nat.reduceEqDiff, not_false_eq_true]
        exact e4
      · simp only [px_up_cell, px_up_slot, px_up_eq, ne_eq, Nat.reduceEqDiff, not_false_eq_true]
        exact V
    · rw [c, if_pos rfl] at b
      have F1 : Fr [] [(2, 2), (2, 4), (2, 5)] h (px_up (px_up h 2 5 (px_wl (px_wl (h 2 5 * 32) + px_w (px_w (T i - 97) + 1)))) 2 4 ((i + 1 : Nat) : Int)) := Fr_up (Fr_up (Fr_rf _ _ _) _ rfl) _ rfl
      have A1 : ∀ j, s ≤ j → j < i + 1 → chA T j = true := fun j h1 h2 => by
        by_cases e : j = i
        · rw [e]; exact c
        · exact A j h1 (by omega)
      obtain ⟨e, g, r1, r2, r3, r4, r5, r6, r7, r8, r9⟩ := ih (i + 1) _ (by omega) (by omega) (TC2_F ⟨hI, hN, hN9, hT⟩ F1 rfl (fun I => IR_Fr I F1 (by decide))) ((F1 2 3 rfl).trans e3) (px_up_eq _ _ _ _) A1 (fun l8 => by
        simp only [px_up_cell, px_up_slot, px_up_eq, ne_eq, Nat.reduceEqDiff, not_false_eq_true]
        have rg := wvl_rng (T := T) (s := s) (i - s) (fun j h1 h2 => A j h1 (by omega))
        have p : 32 ^ (i - s) ≤ 32 ^ 7 := Nat.pow_le_pow_right (by decide) (by omega)
        have ci := chA_iff.mp c
        have es : i + 1 - s = (i - s) + 1 := by omega
        have es2 : s + (i - s) = i := by omega
        rw [V (by omega), es, wvl, es2]
        exact wv_step ⟨rg.1, by omega⟩ ci)
      refine ⟨e, g, by omega, r2, r3, r4, ?_, Fr_tr2 F1 r6, r7, r8, r9⟩
      rw [eq_Tape_readWord_0]
      simp only [px_rd_mk, px_wr_mk, Int.reduceToNat, Int.toNat_natCast, if_true, if_false, Option.bind_some, px_up_cell, px_up_slot, px_up_eq, ne_eq, Nat.reduceEqDiff, not_false_eq_true, Int.reduceEq, Int.reduceLT, Int.reduceLE, Int.reduceNeg, decide_true, decide_false, Bool.and_true, Bool.true_and, Bool.and_false, Bool.false_and, and_self, and_true, true_and, and_false, false_and, bi_T, bi_F, not_true_eq_false, Bool.false_eq_true, kg_2, ka_3, Bool.true_or, ir_2_0 hI, e4, hN, hlt, gi, hT i, b, px_w_s (show i < 1000000 by omega)]
      exact r5
theorem num_C {T : Nat → Int} {N s : Nat} (k : Nat) : ∀ (i : Nat) (h : hp), i + k = N → s ≤ i → TC2 T N h → h 2 3 = (s : Int) → h 2 4 = (i : Int) → (∀ j, s ≤ j → j < i → chD T j = true) → (i - s ≤ 4 → h 2 6 = nvl T s (i - s)) → ∃ (e : Nat) (g : hp), i ≤ e ∧ e ≤ N ∧ (∀ j, s ≤ j → j < e → chD T j = true) ∧ (e = N ∨ chD T e = false) ∧ px_R (mm_Tape_readNumber, 0, [(2, 2)], [], (K0, h)) = some (0, (K0, g)) ∧ Fr [] [(2, 2), (2, 4), (2, 6)] h g ∧ g 2 4 = (e : Int) ∧ g 2 2 = ((if 4 < e - s then 1 else 3 : Nat) : Int) ∧ (e - s ≤ 4 → g 2 6 = nvl T s (e - s)) := by
  have stop : ∀ (i : Nat) (h : hp), s ≤ i → i ≤ N → N ≤ 900 → h 2 3 = (s : Int) → h 2 4 = (i : Int) → px_R (mm_Tape_readNumber, 63, [(2, 2)], [], (K0, h)) = some (0, (K0, px_up h 2 2 ((if 4 < i - s then 1 else 3 : Nat) : Int))) := by
    intro i h h1 h2 h3 e3 e4
    have u : -2147483648 ≤ (i : Int) - (s : Int) ∧ (i : Int) - (s : Int) < 2147483648 := by omega
    by_cases c : 4 < i - s
    · have c2 : (4 < (i : Int) - (s : Int)) = True := eq_true (by omega)
      rw [if_pos c, eq_Tape_readNumber_63]
      simp only [px_rd_mk, px_wr_mk, Int.reduceToNat, Int.toNat_natCast, if_true, if_false, Option.bind_some, px_up_cell, px_up_slot, px_up_eq, ne_eq, Nat.reduceEqDiff, not_false_eq_true, Int.reduceEq, Int.reduceLT, Int.reduceLE, Int.reduceNeg, decide_true, decide_false, Bool.and_true, Bool.true_and, Bool.and_false, Bool.false_and, and_self, and_true, true_and, and_false, false_and, bi_T, bi_F, not_true_eq_false, Bool.false_eq_true, kg_2, e3, e4, px_w_n u, c2]
      rfl
    · have c2 : (4 < (i : Int) - (s : Int)) = False := eq_false (by omega)
      rw [if_neg c, eq_Tape_readNumber_63]
      simp only [px_rd_mk, px_wr_mk, Int.reduceToNat, Int.toNat_natCast, if_true, if_false, Option.bind_some, px_up_cell, px_up_slot, px_up_eq, ne_eq, Nat.reduceEqDiff, not_false_eq_true, Int.reduceEq, Int.reduceLT, Int.reduceLE, Int.reduceNeg, decide_true, decide_false, Bool.and_true, Bool.true_and, Bool.and_false, Bool.false_and, and_self, and_true, true_and, and_false, false_and, bi_T, bi_F, not_true_eq_false, Bool.false_eq_true, kg_2, e3, e4, px_w_n u, c2]
      rfl
  induction k with
  | zero =>
    intro i h hi hs C e3 e4 A V
    have : i = N := hi
    subst this
    have st := stop i h hs (Nat.le_refl _) C.2.2.1 e3 e4
    refine ⟨i, px_up h 2 2 ((if 4 < i - s then 1 else 3 : Nat) : Int), Nat.le_refl _, Nat.le_refl _, A, Or.inl rfl, ?_, Fr_up (Fr_rf _ _ _) _ rfl, ?_, px_up_eq _ _ _ _, ?_⟩
    · rw [eq_Tape_readNumber_0]
      simp only [px_rd_mk, px_wr_mk, Int.reduceToNat, Int.toNat_natCast, if_true, if_false, Option.bind_some, px_up_cell, px_up_slot, px_up_eq, ne_eq, Nat.reduceEqDiff, not_false_eq_true, Int.reduceEq, Int.reduceLT, Int.reduceLE, Int.reduceNeg, decide_true, decide_false, Bool.and_true, Bool.true_and, Bool.and_false, Bool.false_and, and_self, and_true, true_and, and_false, false_and, bi_T, bi_F, not_true_eq_false, Bool.false_eq_true, kg_2, e4, C.2.1, Int.lt_irrefl]
      exact st
    · simp only [px_up_cell, px_up_slot, px_up_eq, ne_eq, Nat.reduceEqDiff, not_false_eq_true]
      exact e4
    · simp only [px_up_cell, px_up_slot, px_up_eq, ne_eq, Nat.reduceEqDiff, not_false_eq_true]
      exact V
  | succ k ih =>
    intro i h hi hs C e3 e4 A V
    obtain ⟨hI, hN, hN9, hT⟩ := C
    have hlt : ((i : Int) < (N : Int)) = True := eq_true (by omega)
    have gi : (decide ((0 : Int) ≤ (i : Int)) && decide ((i : Int) < 900)) = true := gd_ok (by omega)
    have b := R_isDigitC T i (K0, h)
    cases c : chD T i
    · rw [c, if_neg (by decide)] at b
      have st := stop i h hs (by omega) hN9 e3 e4
      refine ⟨i, px_up h 2 2 ((if 4 < i - s then 1 else 3 : Nat) : Int), Nat.le_refl _, by omega, A, Or.inr c, ?_, Fr_up (Fr_rf _ _ _) _ rfl, ?_, px_up_eq _ _ _ _, ?_⟩
      · rw [eq_Tape_readNumber_0]
        simp only [px_rd_mk, px_wr_mk, Int.reduceToNat, Int.toNat_natCast, if_true, if_false, Option.bind_some, px_up_cell, px_up_slot, px_up_eq, ne_eq, Nat.reduceEqDiff, not_false_eq_true, Int.reduceEq, Int.reduceLT, Int.reduceLE, Int.reduceNeg, decide_true, decide_false, Bool.and_true, Bool.true_and, Bool.and_false, Bool.false_and, and_self, and_true, true_and, and_false, false_and, bi_T, bi_F, not_true_eq_false, Bool.false_eq_true, kg_2, ka_3, Bool.true_or, ir_2_0 hI, e4, hN, hlt, gi, hT i, b]
        exact st
      · simp only [px_up_cell, px_up_slot, px_up_eq, ne_eq, Nat.reduceEqDiff, not_false_eq_true]
        exact e4
      · simp only [px_up_cell, px_up_slot, px_up_eq, ne_eq, Nat.reduceEqDiff, not_false_eq_true]
        exact V
    · rw [c, if_pos rfl] at b
      have F1 : Fr [] [(2, 2), (2, 4), (2, 6)] h (px_up (px_up h 2 6 (px_w (px_w (h 2 6 * 10) + px_w (T i - 48)))) 2 4 ((i + 1 : Nat) : Int)) := Fr_up (Fr_up (Fr_rf _ _ _) _ rfl) _ rfl
      have A1 : ∀ j, s ≤ j → j < i + 1 → chD T j = true := fun j h1 h2 => by
        by_cases e : j = i
        · rw [e]; exact c
        · exact A j h1 (by omega)
      obtain ⟨e, g, r1, r2, r3, r4, r5, r6, r7, r8, r9⟩ := ih (i + 1) _ (by omega) (by omega) (TC2_F ⟨hI, hN, hN9, hT⟩ F1 rfl (fun I => IR_Fr I F1 (by decide))) ((F1 2 3 rfl).trans e3) (px_up_eq _ _ _ _) A1 (fun l8 => by
        simp only [px_up_cell, px_up_slot, px_up_eq, ne_eq, Nat.reduceEqDiff, not_false_eq_true]
        have rg := nvl_rng (T := T) (s := s) (i - s) (fun j h1 h2 => A j h1 (by omega))
        have p : 10 ^ (i - s) ≤ 10 ^ 3 := Nat.pow_le_pow_right (by decide) (by omega)
        have ci := chD_iff.mp c
        have es : i + 1 - s = (i - s) + 1 := by omega
        have es2 : s + (i - s) = i := by omega
        rw [V (by omega), es, nvl, es2]
        exact nv_step ⟨rg.1, by omega⟩ ci)
      refine ⟨e, g, by omega, r2, r3, r4, ?_, Fr_tr2 F1 r6, r7, r8, r9⟩
      rw [eq_Tape_readNumber_0]
      simp only [px_rd_mk, px_wr_mk, Int.reduceToNat, Int.toNat_natCast, if_true, if_false, Option.bind_some, px_up_cell, px_up_slot, px_up_eq, ne_eq, Nat.reduceEqDiff, not_false_eq_true, Int.reduceEq, Int.reduceLT, Int.reduceLE, Int.reduceNeg, decide_true, decide_false, Bool.and_true, Bool.true_and, Bool.and_false, Bool.false_and, and_self, and_true, true_and, and_false, false_and, bi_T, bi_F, not_true_eq_false, Bool.false_eq_true, kg_2, ka_3, Bool.true_or, ir_2_0 hI, e4, hN, hlt, gi, hT i, b, px_w_s (show i < 1000000 by omega)]
      exact r5
theorem R_readNext {T : Nat → Int} {N i : Nat} {h : hp} (C : TC2 T N h) (hi : i ≤ N) (e4 : h 2 4 = (i : Int)) : ∃ (s e k : Nat) (g : hp), TK T N i s e k ∧ px_R (mm_Tape_readNext, 0, [(2, 2)], [], (K0, h)) = some (0, (K0, g)) ∧ Fr [] [(2, 2), (2, 3), (2, 4), (2, 5), (2, 6)] h g ∧ g 2 2 = (k : Int) ∧ g 2 3 = (s : Int) ∧ g 2 4 = (e : Int) ∧ (k = 2 → g 2 5 = wvl T s (e - s)) ∧ (k = 3 → g 2 6 = nvl T s (e - s)) := by
  obtain ⟨s, g0, r1, r2, r3, r4⟩ := skip_C (N - i) i h (by omega) C e4
  have C0 := TC2_F C r3 rfl (fun I => IR_Fr I r3 (by decide))
  have F0 : Fr [] [(2, 2), (2, 3), (2, 4), (2, 5), (2, 6)] h (px_up (px_up (px_up g0 2 3 (s : Int)) 2 5 0) 2 6 0) := Fr_up (Fr_up (Fr_up (Fr_sub r3 rfl rfl) _ rfl) _ rfl) _ rfl
  have C1 := TC2_F C F0 rfl (fun I => IR_Fr I F0 (by decide))
  have g1 : (px_up (px_up (px_up g0 2 3 (s : Int)) 2 5 0) 2 6 0) 2 4 = (s : Int) := by
    simp only [px_up_cell, px_up_slot, px_up_eq, ne_eq, Nat.reduceEqDiff, not_false_eq_true]
    exact r4
  obtain ⟨hI0, hN0, hN9, hT0⟩ := C0
  obtain ⟨hI1, hN1, _, hT1⟩ := C1
  by_cases c0 : s = N
  · have hlt : ((s : Int) < (N : Int)) = False := eq_false (by omega)
    refine ⟨s, N, 0, px_up (px_up (px_up (px_up g0 2 3 (s : Int)) 2 5 0) 2 6 0) 2 2 0, ⟨r1, Or.inl ⟨c0, rfl, rfl⟩⟩, ?_, Fr_up F0 _ rfl, px_up_eq _ _ _ _, ?_, ?_, fun z => absurd z (by decide), fun z => absurd z (by decide)⟩
    · rw [r2, eq_Tape_readNext_39]
      simp only [px_rd_mk, px_wr_mk, Int.reduceToNat, Int.toNat_natCast, if_true, if_false, Option.bind_some, px_up_cell, px_up_slot, px_up_eq, ne_eq, Nat.reduceEqDiff, not_false_eq_true, Int.reduceEq, Int.reduceLT, Int.reduceLE, Int.reduceNeg, decide_true, decide_false, Bool.and_true, Bool.true_and, Bool.and_false, Bool.false_and, and_self, and_true, true_and, and_false, false_and, bi_T, bi_F, not_true_eq_false, Bool.false_eq_true, kg_2, ir_2_0 hI0, r4, hN0, hlt]
      rw [eq_Tape_readNext_73]
    · simp only [px_up_cell, px_up_slot, px_up_eq, ne_eq, Nat.reduceEqDiff, not_false_eq_true]
    · simp only [px_up_cell, px_up_slot, px_up_eq, ne_eq, Nat.reduceEqDiff, not_false_eq_true]
      rw [r4, c0]
  · have sN : s < N := by
      have := r1.2.1
      omega
    have hlt : ((s : Int) < (N : Int)) = True := eq_true (by omega)
    have gs : (decide ((0 : Int) ≤ (s : Int)) && decide ((s : Int) < 900)) = true := gd_ok (by omega)
    have bA := R_isLetter T s (K0, px_up (px_up (px_up g0 2 3 (s : Int)) 2 5 0) 2 6 0)
    have bD := R_isDigitC T s (K0, px_up (px_up (px_up g0 2 3 (s : Int)) 2 5 0) 2 6 0)
    cases cA : chA T s
    · rw [cA, if_neg (by decide)] at bA
      cases cD : chD T s
      · rw [cD, if_neg (by decide)] at bD
        by_cases c59 : T s = 59
        · have c9 := eq_true c59
          refine ⟨s, s + 1, 4, px_up (px_up (px_up (px_up (px_up g0 2 3 (s : Int)) 2 5 0) 2 6 0) 2 2 4) 2 4 ((s + 1 : Nat) : Int), ⟨r1, Or.inr (Or.inr (Or.inr ⟨sN, cA, cD, rfl, by rw [if_pos c59]⟩))⟩, ?_, Fr_up (Fr_up F0 _ rfl) _ rfl, ?_, ?_, ?_, fun z => absurd z (by decide), fun z => absurd z (by decide)⟩
          · rw [r2, eq_Tape_readNext_39]
            simp only [px_rd_mk, px_wr_mk, Int.reduceToNat, Int.toNat_natCast, if_true, if_false, Option.bind_some, px_up_cell, px_up_slot, px_up_eq, ne_eq, Nat.reduceEqDiff, not_false_eq_true, Int.reduceEq, Int.reduceLT, Int.reduceLE, Int.reduceNeg, decide_true, decide_false, Bool.and_true, Bool.true_and, Bool.and_false, Bool.false_and, and_self, and_true, true_and, and_false, false_and, bi_T, bi_F, not_true_eq_false, Bool.false_eq_true, kg_2, ka_3, Bool.true_or, ir_2_0 hI0, r4, hN0, hlt, gs, hT0 s, bA, bD, c9, px_w_s (show s < 1000000 by omega)]
          · simp only [px_up_cell, px_up_slot, px_up_eq, ne_eq, Nat.reduceEqDiff, not_false_eq_true]
            rfl
          · simp only [px_up_cell, px_up_slot, px_up_eq, ne_eq, Nat.reduceEqDiff, not_false_eq_true]
          · simp only [px_up_cell, px_up_slot, px_up_eq, ne_eq, Nat.reduceEqDiff, not_false_eq_true]
        · have c9 := eq_false c59
          refine ⟨s, s + 1, 1, px_up (px_up (px_up (px_up (px_up g0 2 3 (s : Int)) 2 5 0) 2 6 0) 2 2 1) 2 4 ((s + 1 : Nat) : Int), ⟨r1, Or.inr (Or.inr (Or.inr ⟨sN, cA, cD, rfl, by rw [if_neg c59]⟩))⟩, ?_, Fr_up (Fr_up F0 _ rfl) _ rfl, ?_, ?_, ?_, fun z => absurd z (by decide), fun z => absurd z (by decide)⟩
          · rw [r2, eq_Tape_readNext_39]
            simp only [px_rd_mk, px_wr_mk, Int.reduceToNat, Int.toNat_natCast, if_true, if_false, Option.bind_some, px_up_cell, px_up_slot, px_up_eq, ne_eq, Nat.reduceEqDiff, not_false_eq_true, Int.reduceEq, Int.reduceLT, Int.reduceLE, Int.reduceNeg, decide_true, decide_false, Bool.and_true, Bool.true_and, Bool.and_false, Bool.false_and, and_self, and_true, true_and, and_false, false_and, bi_T, bi_F, not_true_eq_false, Bool.false_eq_true, kg_2, ka_3, Bool.true_or, ir_2_0 hI0, r4, hN0, hlt, gs, hT0 s, bA, bD, c9, px_w_s (show s < 1000000 by omega)]
          · simp only [px_up_cell, px_up_slot, px_up_eq, ne_eq, Nat.reduceEqDiff, not_false_eq_true]
            rfl
          · simp only [px_up_cell, px_up_slot, px_up_eq, ne_eq, Nat.reduceEqDiff, not_false_eq_true]
          · simp only [px_up_cell, px_up_slot, px_up_eq, ne_eq, Nat.reduceEqDiff, not_false_eq_true]
      · rw [cD, if_pos rfl] at bD
        obtain ⟨e, g, q1, q2, q3, q4, q5, q6, q7, q8, q9⟩ := num_C (s := s) (N - s) s _ (by omega) (Nat.le_refl _) ⟨hI1, hN1, hN9, hT1⟩ (by simp only [px_up_cell, px_up_slot, px_up_eq, ne_eq, Nat.reduceEqDiff, not_false_eq_true]) g1 (fun j h1 h2 => by omega) (fun _ => by
          simp only [px_up_cell, px_up_slot, px_up_eq, ne_eq, Nat.reduceEqDiff, not_false_eq_true]
          rw [Nat.sub_self]
          rfl)
        refine ⟨s, e, (if 4 < e - s then 1 else 3), g, ⟨r1, Or.inr (Or.inr (Or.inl ⟨sN, cA, cD, ⟨q1, q2, q3, q4⟩, rfl⟩))⟩, ?_, Fr_tr2 F0 (Fr_sub q6 rfl rfl), q8, ?_, q7, fun z => ?_, fun z => ?_⟩
        · rw [r2, eq_Tape_readNext_39]
          simp only [px_rd_mk, px_wr_mk, Int.reduceToNat, Int.toNat_natCast, if_true, if_false, Option.bind_some, px_up_cell, px_up_slot, px_up_eq, ne_eq, Nat.reduceEqDiff, not_false_eq_true, Int.reduceEq, Int.reduceLT, Int.reduceLE, Int.reduceNeg, decide_true, decide_false, Bool.and_true, Bool.true_and, Bool.and_false, Bool.false_and, and_self, and_true, true_and, and_false, false_and, bi_T, bi_F, not_true_eq_false, Bool.false_eq_true, kg_2, ka_3, Bool.true_or, ir_2_0 hI0, r4, hN0, hlt, gs, hT0 s, bA, bD, q5]
        · rw [q6 2 3 rfl]
          simp only [px_up_cell, px_up_slot, px_up_eq, ne_eq, Nat.reduceEqDiff, not_false_eq_true]
        · split at z <;> omega
        · refine q9 ?_
          split at z <;> omega
    · rw [cA, if_pos rfl] at bA
      obtain ⟨e, g, q1, q2, q3, q4, q5, q6, q7, q8, q9⟩ := word_C (s := s) (N - s) s _ (by omega) (Nat.le_refl _) ⟨hI1, hN1, hN9, hT1⟩ (by simp only [px_up_cell, px_up_slot, px_up_eq, ne_eq, Nat.reduceEqDiff, not_false_eq_true]) g1 (fun j h1 h2 => by omega) (fun _ => by
        simp only [px_up_cell, px_up_slot, px_up_eq, ne_eq, Nat.reduceEqDiff, not_false_eq_true]
        rw [Nat.sub_self]
        rfl)
      refine ⟨s, e, (if 8 < e - s then 1 else 2), g, ⟨r1, Or.inr (Or.inl ⟨sN, cA, ⟨q1, q2, q3, q4⟩, rfl⟩)⟩, ?_, Fr_tr2 F0 (Fr_sub q6 rfl rfl), q8, ?_, q7, fun z => ?_, fun z => ?_⟩
      · rw [r2, eq_Tape_readNext_39]
        simp only [px_rd_mk, px_wr_mk, Int.reduceToNat, Int.toNat_natCast, if_true, if_false, Option.bind_some, px_up_cell, px_up_slot, px_up_eq, ne_eq, Nat.reduceEqDiff, not_false_eq_true, Int.reduceEq, Int.reduceLT, Int.reduceLE, Int.reduceNeg, decide_true, decide_false, Bool.and_true, Bool.true_and, Bool.and_false, Bool.false_and, and_self, and_true, true_and, and_false, false_and, bi_T, bi_F, not_true_eq_false, Bool.false_eq_true, kg_2, ka_3, Bool.true_or, ir_2_0 hI0, r4, hN0, hlt, gs, hT0 s, bA, q5]
      · rw [q6 2 3 rfl]
        simp only [px_up_cell, px_up_slot, px_up_eq, ne_eq, Nat.reduceEqDiff, not_false_eq_true]
      · refine q9 ?_
        split at z <;> omega
      · split at z <;> omega
