/-! The call that reads a street. -/
def stc : List Nat := [5, 7, 8, 9, 10, 11, 12, 13, 14, 15, 17, 18, 19, 20, 21, 22, 23, 24, 25, 27, 29, 30, 31, 32, 33, 34, 35, 36, 37, 39, 40, 41, 42, 43, 44, 45, 46, 47]
def sts : List (Nat × Nat) := [(2, 2), (2, 3), (2, 4), (2, 5), (2, 6), (4, 0), (26, 0)]
def smc : List Nat := [125, 126, 127, 128, 129, 130, 131, 132, 133, 134]
def smss : List (Nat × Nat) := [(123, 1), (123, 2), (123, 3), (123, 4), (123, 5), (123, 6), (123, 7), (123, 8), (123, 9), (123, 10), (123, 11), (123, 23)]
def stl : List (Nat × Nat) := [(123, 22), (123, 24), (123, 25), (123, 26), (123, 27), (123, 28), (123, 29), (123, 40), (123, 51), (123, 52), (123, 53)]
def stw : List (Nat × Nat) := [(2, 2), (2, 3), (2, 4), (2, 5), (2, 6), (4, 0), (26, 0), (1, 10), (1, 11), (2, 1)]
def stz : List (Nat × Nat) := [(2, 2), (2, 3), (2, 4), (2, 5), (2, 6), (4, 0), (26, 0), (1, 10), (1, 11), (2, 1), (1, 8), (1, 9), (48, 0), (48, 1), (48, 2), (48, 3), (48, 4), (48, 6), (83, 0), (83, 1), (83, 2), (79, 0)]
theorem stc_k : ∀ q : Fin 2, ∀ a : Fin 48, (a.val = (22 * q.val + 4) + 1 ∨ ((22 * q.val + 4) + 3 ≤ a.val ∧ a.val < (22 * q.val + 4) + 12) ∨ ((22 * q.val + 4) + 13 ≤ a.val ∧ a.val < (22 * q.val + 4) + 22)) → px_mem stc a.val = true := by decide
theorem stc_m {p a : Nat} (hpp : p = 4 ∨ p = 26) (w : a = p + 1 ∨ (p + 3 ≤ a ∧ a < p + 12) ∨ (p + 13 ≤ a ∧ a < p + 22)) : px_mem stc a = true := by
  rcases hpp with rfl | rfl
  · exact stc_k ⟨0, by decide⟩ ⟨a, by omega⟩ w
  · exact stc_k ⟨1, by decide⟩ ⟨a, by omega⟩ w
theorem fin_c {cs : List Nat} {ss : List (Nat × Nat)} {a b : Nat} (h : px_mem cs a = true) : fin cs ss a b = true := by
  unfold fin
  rw [h, Bool.true_or]
theorem Fr_of {cs : List Nat} {ss : List (Nat × Nat)} {P : Nat → Nat → Prop} {c d : hp} (F : ∀ a b : Nat, ¬ P a b → d a b = c a b) (k : ∀ a b : Nat, P a b → fin cs ss a b = true) : Fr cs ss c d := fun a b e => F a b (fun w => by
  rw [k a b w] at e
  cases e)
theorem sts_k : ∀ b : Fin 7, 2 ≤ b.val → fin stc sts 2 b.val = true := by decide
theorem FS2_Fr {p : Nat} (hpp : p = 4 ∨ p = 26) {h c : hp} (F : FS2 p h c) : Fr stc sts h c := Fr_of (P := fun a b => fst2 p a b ∨ (a = p ∧ b = 0)) (fun a b w => F a b (fun x => w (Or.inl x)) (fun x => w (Or.inr x))) (fun a b w => by
  rcases w with w | w
  · unfold fst2 at w
    rcases w with ⟨w1, w2, w3⟩ | w
    · rw [w1]
      exact sts_k ⟨b, by omega⟩ w2
    · exact fin_c (stc_m hpp w)
  · rw [w.1, w.2]
    rcases hpp with rfl | rfl <;> decide)
theorem smc_k : ∀ a : Fin 135, 125 ≤ a.val → px_mem smc a.val = true := by decide
theorem smss_k : ∀ b : Fin 24, (1 ≤ b.val ∧ b.val ≤ 11) ∨ b.val = 23 → fin smc smss 123 b.val = true := by decide
theorem frS_Fr {h c : hp} (F : frS h c) : Fr smc smss h c := Fr_of (P := fun a b => fmt2 a b ∨ (a = 123 ∧ (b = 1 ∨ b = 2))) (fun a b w => F a b (fun x => w (Or.inl x)) (fun x => w (Or.inr x))) (fun a b w => by
  by_cases e : a = 123
  · rw [e] at w ⊢
    unfold fmt2 at w
    exact smss_k ⟨b, by omega⟩ (by
      show (1 ≤ b ∧ b ≤ 11) ∨ b = 23
      omega)
  · unfold fmt2 at w
    exact fin_c (smc_k ⟨a, by omega⟩ (by
      show 125 ≤ a
      omega)))
theorem stl_k : ∀ b : Fin 54, (24 ≤ b.val ∧ b.val ≤ 29) ∨ b.val = 40 ∨ (51 ≤ b.val ∧ b.val ≤ 53) → fin smc stl 123 b.val = true := by decide
theorem smt_Fr {h c : hp} (F : ∀ a b, ¬ smt a b → c a b = h a b) : Fr smc stl h c := Fr_of F (fun a b w => by
  by_cases e : a = 123
  · rw [e] at w ⊢
    unfold smt at w
    exact stl_k ⟨b, by omega⟩ (by
      show (24 ≤ b ∧ b ≤ 29) ∨ b = 40 ∨ (51 ≤ b ∧ b ≤ 53)
      omega)
  · unfold smt at w
    exact fin_c (smc_k ⟨a, by omega⟩ (by
      show 125 ≤ a
      omega)))
theorem lnB (g : hp) : px_R (mm_Line_begin, 0, [(2, 48)], [], (K0, g)) = some (0, (K0, px_up (px_up (px_up (px_up (px_up (px_up g 48 0 0) 48 1 0) 48 2 10) 48 3 0) 48 4 0) 48 6 0)) := by
  rw [eq_Line_begin_0]
  simp only [px_rd_mk, px_wr_mk, Int.reduceToNat, Int.toNat_natCast, if_true, if_false, Option.bind_some, px_up_cell, px_up_slot, px_up_eq, ne_eq, Nat.reduceEqDiff, not_false_eq_true, Int.reduceEq, Int.reduceLT, Int.reduceLE, Int.reduceNeg, decide_true, decide_false, Bool.and_true, Bool.true_and, Bool.and_false, Bool.false_and, and_self, and_true, true_and, and_false, false_and, bi_T, bi_F, not_true_eq_false, Bool.false_eq_true, kg_48]
  rw [eq_Line_begin_21]
  simp only [px_rd_mk, px_wr_mk, Int.reduceToNat, Int.toNat_natCast, if_true, if_false, Option.bind_some, px_up_cell, px_up_slot, px_up_eq, ne_eq, Nat.reduceEqDiff, not_false_eq_true, Int.reduceEq, Int.reduceLT, Int.reduceLE, Int.reduceNeg, decide_true, decide_false, Bool.and_true, Bool.true_and, Bool.and_false, Bool.false_and, and_self, and_true, true_and, and_false, false_and, bi_T, bi_F, not_true_eq_false, Bool.false_eq_true, kg_48]
theorem bkB (g : hp) : px_R (mm_Book_begin, 0, [(2, 83)], [], (K0, g)) = some (0, (K0, px_up (px_up (px_up g 83 0 0) 83 1 0) 83 2 0)) := by
  rw [eq_Book_begin_0]
  simp only [px_rd_mk, px_wr_mk, Int.reduceToNat, Int.toNat_natCast, if_true, if_false, Option.bind_some, px_up_cell, px_up_slot, px_up_eq, ne_eq, Nat.reduceEqDiff, not_false_eq_true, Int.reduceEq, Int.reduceLT, Int.reduceLE, Int.reduceNeg, decide_true, decide_false, Bool.and_true, Bool.true_and, Bool.and_false, Bool.false_and, and_self, and_true, true_and, and_false, false_and, bi_T, bi_F, not_true_eq_false, Bool.false_eq_true, kg_83]
theorem wsB (g : hp) : px_R (mm_Wish_begin, 0, [(2, 79)], [], (K0, g)) = some (0, (K0, px_up g 79 0 0)) := by
  rw [eq_Wish_begin_0]
  simp only [px_rd_mk, px_wr_mk, Int.reduceToNat, Int.toNat_natCast, if_true, if_false, Option.bind_some, px_up_cell, px_up_slot, px_up_eq, ne_eq, Nat.reduceEqDiff, not_false_eq_true, Int.reduceEq, Int.reduceLT, Int.reduceLE, Int.reduceNeg, decide_true, decide_false, Bool.and_true, Bool.true_and, Bool.and_false, Bool.false_and, and_self, and_true, true_and, and_false, false_and, bi_T, bi_F, not_true_eq_false, Bool.false_eq_true, kg_79]
theorem C_street {h : hp} (C : CI h) : AL h mm_Tin_street mm_Mod_street [(2, 1), (9, 0)] [(2, 123), (9, 0)] := by
  have C2 := C
  obtain ⟨n, ⟨hn, h8, h9⟩, hI, hT, hK, hS, hL, hR, hC, hKs, hW, hB⟩ := C2
  obtain ⟨p, hp1, hpp, hpn, h9p⟩ : ∃ p : Nat, n + p = 30 ∧ (p = 4 ∨ p = 26) ∧ ¬ p = n ∧ h 1 9 = (p : Int) := ⟨30 - n, by omega, by omega, by omega, by omega⟩
  obtain ⟨N, hN⟩ : ∃ N : Nat, h 2 1 = (N : Int) := ⟨(h 2 1).toNat, by have := hT.2.1; omega⟩
  have N9 : N ≤ 900 := by have := hT.2.1; omega
  obtain ⟨v, c, r1, r2, r3⟩ := rStreet hpp (T := h 3) hI hN N9 (fun _ => rfl) (fun j => (hT.2.2 j).2) (hT.1.trans hN) (fun j => (hT.2.2 j).1)
  have F0 := FS2_Fr hpp r2
  have I0 := IR_Fr hI F0 (by decide)
  have c8 : c 1 8 = (n : Int) := (F0 1 8 rfl).trans h8
  have c9 : c 1 9 = (p : Int) := (F0 1 9 rfl).trans h9p
  have cn : ∀ a : Nat, n ≤ a → a < n + 22 → ∀ b, c a b = h a b := fun a a1 a2 b => r2 a b (by unfold fst2; omega) (by omega)
  by_cases v0 : v = 0
  · subst v0
    obtain ⟨U, hU⟩ : ∃ U : hp, U = px_up (px_up (px_up (px_up (px_up c 1 10 0) 1 11 (-1)) 2 1 0) 1 8 (p : Int)) 1 9 (n : Int) := ⟨_, rfl⟩
    obtain ⟨W, hW2⟩ : ∃ W : hp, W = px_up (px_up (px_up (px_up (px_up (px_up (px_up (px_up (px_up (px_up U 48 0 0) 48 1 0) 48 2 10) 48 3 0) 48 4 0) 48 6 0) 83 0 0) 83 1 0) 83 2 0) 79 0 0 := ⟨_, rfl⟩
    have FU : Fr stc stz c U := by
      rw [hU]
      exact Fr_up (Fr_up (Fr_up (Fr_up (Fr_up (Fr_rf _ _ _) _ rfl) _ rfl) _ rfl) _ rfl) _ rfl
    have FW : Fr stc stz h W := by
      have := Fr_sub F0 (cs2 := stc) (ss2 := stz) rfl rfl
      rw [hW2]
      exact Fr_up (Fr_up (Fr_up (Fr_up (Fr_up (Fr_up (Fr_up (Fr_up (Fr_up (Fr_up (Fr_tr2 this FU) _ rfl) _ rfl) _ rfl) _ rfl) _ rfl) _ rfl) _ rfl) _ rfl) _ rfl) _ rfl
    have IU := IR_Fr I0 FU (by decide)
    have IW := IR_Fr hI FW (by decide)
    have W8 : W 1 8 = (p : Int) := by
      rw [hW2, hU]
      simp only [px_up_cell, px_up_slot, px_up_eq, ne_eq, Nat.reduceEqDiff, not_false_eq_true]
    have W9 : W 1 9 = (n : Int) := by
      rw [hW2, hU]
      simp only [px_up_cell, px_up_slot, px_up_eq, ne_eq, Nat.reduceEqDiff, not_false_eq_true]
    have W10 : W 1 10 = 0 := by
      rw [hW2, hU]
      simp only [px_up_cell, px_up_slot, px_up_eq, ne_eq, Nat.reduceEqDiff, not_false_eq_true]
    have W11 : W 1 11 = -1 := by
      rw [hW2, hU]
      simp only [px_up_cell, px_up_slot, px_up_eq, ne_eq, Nat.reduceEqDiff, not_false_eq_true]
    have W21 : W 2 1 = 0 := by
      rw [hW2, hU]
      simp only [px_up_cell, px_up_slot, px_up_eq, ne_eq, Nat.reduceEqDiff, not_false_eq_true]
    have Wc : ∀ a : Nat, p ≤ a → a < p + 22 → ∀ b, W a b = c a b := fun a a1 a2 b => by
      rw [hW2, hU]
      unfold px_up
      repeat rw [if_neg (by omega)]
    have U8 : U 1 8 = (p : Int) := by
      rw [hU]
      simp only [px_up_cell, px_up_slot, px_up_eq, ne_eq, Nat.reduceEqDiff, not_false_eq_true]
    have Up : U p 0 = c p 0 := by
      rw [hU]
      unfold px_up
      repeat rw [if_neg (by omega)]
    have p48 : (p = 48) = False := eq_false (by omega)
    have p83 : (p = 83) = False := eq_false (by omega)
    have p79 : (p = 79) = False := eq_false (by omega)
    have e1 : px_R (mm_Tin_street, 0, [(2, 1), (9, 0)], [], (K0, h)) = some (c p 0, (K0, W)) := by
      rw [eq_Tin_street_0]
      simp only [px_rd_mk, px_wr_mk, Int.reduceToNat, Int.toNat_natCast, if_true, if_false, Option.bind_some, px_up_cell, px_up_slot, px_up_eq, ne_eq, Nat.reduceEqDiff, not_false_eq_true, Int.reduceEq, Int.reduceLT, Int.reduceLE, Int.reduceNeg, decide_true, decide_false, Bool.and_true, Bool.true_and, Bool.and_false, Bool.false_and, and_self, and_true, true_and, and_false, false_and, bi_T, bi_F, not_true_eq_false, Bool.false_eq_true, kg_1, kg_2, ir_1_0 hI, ir_1_1 hI, ir_1_2 hI, ir_1_3 hI, ir_1_4 hI, ir_1_5 hI, ir_1_6 hI, ir_1_7 hI, h9p, r1]
      rw [eq_Tin_street_34]
      simp only [px_rd_mk, px_wr_mk, Int.reduceToNat, Int.toNat_natCast, if_true, if_false, Option.bind_some, px_up_cell, px_up_slot, px_up_eq, ne_eq, Nat.reduceEqDiff, not_false_eq_true, Int.reduceEq, Int.reduceLT, Int.reduceLE, Int.reduceNeg, decide_true, decide_false, Bool.and_true, Bool.true_and, Bool.and_false, Bool.false_and, and_self, and_true, true_and, and_false, false_and, bi_T, bi_F, not_true_eq_false, Bool.false_eq_true, kg_1, kg_2, ir_1_0 I0, c8, c9]
      rw [← hU, eq_Tin_street_72]
      simp only [px_rd_mk, px_wr_mk, Int.reduceToNat, Int.toNat_natCast, if_true, if_false, Option.bind_some, px_up_cell, px_up_slot, px_up_eq, ne_eq, Nat.reduceEqDiff, not_false_eq_true, Int.reduceEq, Int.reduceLT, Int.reduceLE, Int.reduceNeg, decide_true, decide_false, Bool.and_true, Bool.true_and, Bool.and_false, Bool.false_and, and_self, and_true, true_and, and_false, false_and, bi_T, bi_F, not_true_eq_false, Bool.false_eq_true, kg_1, kg_48, kg_79, kg_83, ir_1_0 IU, ir_1_1 IU, ir_1_2 IU, ir_1_3 IU, ir_1_4 IU, ir_1_5 IU, ir_1_6 IU, ir_1_7 IU, lnB, bkB, wsB, U8, Up, p48, p83, p79, sgo hpp]
      rw [hW2]
    rcases r3 W IW ((FW 123 1 rfl).trans (hT.1.trans hN)) (fun j => (FW 124 j rfl).trans (hT.2.2 j).1) with ⟨z, _⟩ | ⟨_, m, q, x1, x2, x3, x4, x5, x6, x7, x8, x9⟩
    · exact absurd z (by decide)
    obtain ⟨k, k1, kF, kc, k24, k25, k26, k27, k28, k29, k40, k51, k52, k53⟩ := R_settle x5
    obtain ⟨Z, hZ⟩ : ∃ Z : hp, Z = px_up k 123 22 (q : Int) := ⟨_, rfl⟩
    have e2 : px_R (mm_Mod_street, 0, [(2, 123), (9, 0)], [], (K0, W)) = some (c p 0, (K0, Z)) := by
      rw [x1, eq_Mod_street_20]
      simp only [px_rd_mk, px_wr_mk, Int.reduceToNat, Int.toNat_natCast, if_true, if_false, Option.bind_some, px_up_cell, px_up_slot, px_up_eq, ne_eq, Nat.reduceEqDiff, not_false_eq_true, Int.reduceEq, Int.reduceLT, Int.reduceLE, Int.reduceNeg, decide_true, decide_false, Bool.and_true, Bool.true_and, Bool.and_false, Bool.false_and, and_self, and_true, true_and, and_false, false_and, bi_T, bi_F, not_true_eq_false, Bool.false_eq_true, kg_123, x2, k1]
      rw [hZ, x3]
    have FM := frS_Fr x6
    have FZ : Fr smc stl m Z := by
      rw [hZ]
      exact Fr_up (smt_Fr kF) _ rfl
    have F : Fr (stc ++ smc) (stz ++ smss ++ stl) h Z := Fr_sub (Fr_tr (Fr_tr FW FM) FZ) rfl rfl
    have zk : ∀ b, ¬ b = 22 → Z 123 b = k 123 b := fun b hb => by
      rw [hZ, px_up_slot _ _ _ _ hb]
    have zc : ∀ a b, ¬ a = 123 → Z a b = k a b := fun a b ha => by
      rw [hZ, px_up_cell _ _ _ _ ha]
    have zW : ∀ a b, a < 123 → Z a b = W a b := fun a b ha => by
      rw [zc a b (by omega), kF a b (by unfold smt; omega), x6 a b (by unfold fmt2; omega) (by omega)]
    have z22 : Z 123 22 = c p 0 := by rw [hZ, px_up_eq, x3]
    have W48 : W 48 0 = 0 ∧ W 48 1 = 0 ∧ W 48 2 = 10 ∧ W 48 3 = 0 ∧ W 48 4 = 0 ∧ W 48 6 = 0 ∧ W 79 0 = 0 ∧ W 83 0 = 0 ∧ W 83 1 = 0 ∧ W 83 2 = 0 := by
      rw [hW2]
      refine ⟨?_, ?_, ?_, ?_, ?_, ?_, ?_, ?_, ?_, ?_⟩ <;> simp only [px_up_cell, px_up_slot, px_up_eq, ne_eq, Nat.reduceEqDiff, not_false_eq_true]
    obtain ⟨w0, w1, w2, w3, w4, w6, w79, w830, w831, w832⟩ := W48
    refine ⟨c p 0, W, Z, e1, e2, p, ⟨hpp, (zW 1 8 (by decide)).trans W8, ((zW 1 9 (by decide)).trans W9).trans (by omega)⟩, IR_Fr hI F (by decide), ⟨?_, ?_, fun i => ?_⟩, ⟨?_, ?_⟩, ?_, ?_, RW_F F rfl hR, CR_F F rfl hC, KS_F F rfl hKs, ?_, ?_⟩
    · rw [zk 1 (by decide), kF 123 1 (by unfold smt; decide), x9, zW 2 1 (by decide), W21]
    · rw [zW 2 1 (by decide), W21]
      decide
    · rw [F 124 i rfl, F 3 i rfl]
      exact hT.2.2 i
    · rw [zk 8 (by decide), kF 123 8 (by unfold smt; decide), x7, zW 1 10 (by decide), W10]
    · rw [zk 9 (by decide), kF 123 9 (by unfold smt; decide), x8, zW 1 11 (by decide), W11]
    · refine ST_spr x4 (fun a a1 a2 => funext fun b => (zW a b (by omega)).trans (Wc a a1 a2 b)) z22 ⟨fun z hz => ?_, fun z hz => ?_, fun z hz => ?_, fun z hz => ?_, fun z hz => ?_, fun z hz => ?_, fun z hz => ?_, fun z hz => ?_, fun z hz => ?_⟩
      · rw [zc _ _ (by decide)]
        exact kc.1 z hz
      · rw [zc _ _ (by decide)]
        exact kc.2.1 z hz
      · rw [zc _ _ (by decide)]
        exact kc.2.2.1 z hz
      · rw [zc _ _ (by decide)]
        exact kc.2.2.2.1 z hz
      · rw [zc _ _ (by decide)]
        exact kc.2.2.2.2.1 z hz
      · rw [zc _ _ (by decide)]
        exact kc.2.2.2.2.2.1 z hz
      · rw [zc _ _ (by decide)]
        exact kc.2.2.2.2.2.2.1 z hz
      · rw [zc _ _ (by decide)]
        exact kc.2.2.2.2.2.2.2.1 z hz
      · rw [zc _ _ (by decide)]
        exact kc.2.2.2.2.2.2.2.2 z hz
    · exact LI_0 ((zW _ _ (by decide)).trans w0) ((zW _ _ (by decide)).trans w1) ((zW _ _ (by decide)).trans w2) ((zW _ _ (by decide)).trans w3) ((zW _ _ (by decide)).trans w4) ((zW _ _ (by decide)).trans w6) ((zk _ (by decide)).trans k24) ((zk _ (by decide)).trans k25) ((zk _ (by decide)).trans k26) ((zk _ (by decide)).trans k27) ((zk _ (by decide)).trans k28) ((zk _ (by decide)).trans k29)
    · exact WI_0 ((zW _ _ (by decide)).trans w79) ((zk _ (by decide)).trans k40)
    · refine BK_0 ((zW _ _ (by decide)).trans w830) ((zW _ _ (by decide)).trans w831) ((zW _ _ (by decide)).trans w832) ((zk _ (by decide)).trans k53) ((zk _ (by decide)).trans k51) ((zk _ (by decide)).trans k52) (fun i => ?_)
      rw [F 84 i rfl, F 85 i rfl, F 86 i rfl, F 87 i rfl, F 88 i rfl, F 89 i rfl, F 151 i rfl, F 152 i rfl, F 153 i rfl, F 154 i rfl, F 155 i rfl, F 156 i rfl]
      exact hB.2.2.2.1 i
  · obtain ⟨G, hG⟩ : ∃ G : hp, G = px_up (px_up (px_up c 1 10 v) 1 11 (c 2 3)) 2 1 0 := ⟨_, rfl⟩
    have FG : Fr stc stw h G := by
      have := Fr_sub F0 (cs2 := stc) (ss2 := stw) rfl rfl
      rw [hG]
      exact Fr_up (Fr_up (Fr_up this _ rfl) _ rfl) _ rfl
    have IG := IR_Fr hI FG (by decide)
    have G10 : G 1 10 = v := by
      rw [hG]
      simp only [px_up_cell, px_up_slot, px_up_eq, ne_eq, Nat.reduceEqDiff, not_false_eq_true]
    have G11 : G 1 11 = c 2 3 := by
      rw [hG]
      simp only [px_up_cell, px_up_slot, px_up_eq, ne_eq, Nat.reduceEqDiff, not_false_eq_true]
    have G21 : G 2 1 = 0 := by
      rw [hG]
      simp only [px_up_cell, px_up_slot, px_up_eq, ne_eq, Nat.reduceEqDiff, not_false_eq_true]
    have Gc : ∀ a : Nat, ¬ a = 1 → ¬ a = 2 → ∀ b, G a b = c a b := fun a a1 a2 b => by
      rw [hG]
      unfold px_up
      repeat rw [if_neg (by omega)]
    have v1 := eq_false v0
    have e1 : px_R (mm_Tin_street, 0, [(2, 1), (9, 0)], [], (K0, h)) = some (-1, (K0, G)) := by
      rw [eq_Tin_street_0]
      simp only [px_rd_mk, px_wr_mk, Int.reduceToNat, Int.toNat_natCast, if_true, if_false, Option.bind_some, px_up_cell, px_up_slot, px_up_eq, ne_eq, Nat.reduceEqDiff, not_false_eq_true, Int.reduceEq, Int.reduceLT, Int.reduceLE, Int.reduceNeg, decide_true, decide_false, Bool.and_true, Bool.true_and, Bool.and_false, Bool.false_and, and_self, and_true, true_and, and_false, false_and, bi_T, bi_F, not_true_eq_false, Bool.false_eq_true, kg_1, kg_2, ir_1_0 hI, ir_1_1 hI, ir_1_2 hI, ir_1_3 hI, ir_1_4 hI, ir_1_5 hI, ir_1_6 hI, ir_1_7 hI, ir_1_0 I0, h9p, r1, v1, sgo hpp]
      rw [eq_Tin_street_34]
      simp only [px_rd_mk, px_wr_mk, Int.reduceToNat, Int.toNat_natCast, if_true, if_false, Option.bind_some, px_up_cell, px_up_slot, px_up_eq, ne_eq, Nat.reduceEqDiff, not_false_eq_true, Int.reduceEq, Int.reduceLT, Int.reduceLE, Int.reduceNeg, decide_true, decide_false, Bool.and_true, Bool.true_and, Bool.and_false, Bool.false_and, and_self, and_true, true_and, and_false, false_and, bi_T, bi_F, not_true_eq_false, Bool.false_eq_true, kg_1, kg_2, ir_1_0 I0, v1]
      rw [hG]
    rcases r3 G IG ((FG 123 1 rfl).trans (hT.1.trans hN)) (fun j => (FG 124 j rfl).trans (hT.2.2 j).1) with ⟨_, m, x1, x2, x3, x4, x5⟩ | ⟨z, _⟩
    · have FM := frS_Fr x2
      have F : Fr (stc ++ smc) (stw ++ smss) h m := Fr_sub (Fr_tr FG FM) rfl rfl
      have mG : ∀ a b, a < 123 → m a b = G a b := fun a b ha => x2 a b (by unfold fmt2; omega) (by omega)
      have mn : ∀ a : Nat, n ≤ a → a < n + 22 → m a = h a := fun a a1 a2 => funext fun b => by
        rw [mG a b (by omega), Gc a (by omega) (by omega) b, cn a a1 a2 b]
      have e12 := mn (n + 1) (by omega) (by omega)
      refine ⟨-1, G, m, e1, x1, n, SP_F F rfl ⟨hn, h8, h9⟩, IR_Fr hI F (by decide), ⟨?_, ?_, fun i => ?_⟩, ⟨?_, ?_⟩, ST_half mn (fun a b a1 a2 z => ?_) (F 123 22 rfl) hS, LI_F2 F rfl e12 hL, RW_F F rfl hR, CR_F F rfl hC, KS_F F rfl hKs, WI_F2 F rfl e12 hW, BK_F2 F rfl e12 hB⟩
      · rw [x5, mG 2 1 (by decide), G21]
      · rw [mG 2 1 (by decide), G21]
        decide
      · rw [F 124 i rfl, F 3 i rfl]
        exact hT.2.2 i
      · rw [x3, mG 1 10 (by decide), G10]
      · rw [x4, mG 1 11 (by decide), G11]
      · rw [x2 a b z (by omega), Gc a (by omega) (by omega) b]
        exact r2 a b (by unfold fst2; omega) (by omega)
    · exact absurd z v0
