/-! Numbers of the tape. -/
theorem TK_num {T : Nat → Int} {N i s e : Nat} (h : TK T N i s e 3) : 0 ≤ nvl T s (e - s) ∧ nvl T s (e - s) ≤ 9999 := by
  obtain ⟨h1, h5⟩ := h
  rcases h5 with ⟨a1, a2, a3⟩ | ⟨a1, a2, _, a4⟩ | ⟨a1, a2, a3, ⟨a4, a6, a7, a8⟩, a5⟩ | ⟨a1, a2, a3, a4, a5⟩
  · omega
  · split at a4 <;> omega
  · have l : e - s ≤ 4 := by split at a5 <;> omega
    have r := nvl_rng (T := T) (s := s) (e - s) (fun j h1 h2 => a7 j h1 (by omega))
    have p : 10 ^ (e - s) ≤ 10 ^ 4 := Nat.pow_le_pow_right (by decide) l
    omega
  · split at a5 <;> omega
def tss : List (Nat × Nat) := [(2, 2), (2, 3), (2, 4), (2, 5), (2, 6)]
def nss : List (Nat × Nat) := [(2, 1), (2, 2), (2, 3), (2, 4), (2, 5), (2, 6)]
def mss : List (Nat × Nat) := [(123, 1), (123, 2), (123, 3), (123, 4), (123, 5), (123, 6), (123, 7), (123, 10)]
theorem num_end {cap c : Int} (v : Int) (g : hp) : px_R (mm_Tape_readNumbers, 71, [(2, 2), (2, 122), (0, cap), (0, v), (0, c)], [], (K0, g)) = some (v, (K0, px_up g 2 1 0)) := by
  rw [eq_Tape_readNumbers_71]
  simp only [px_rd_mk, px_wr_mk, Int.reduceToNat, Int.toNat_natCast, if_true, if_false, Option.bind_some, px_up_cell, px_up_slot, px_up_eq, ne_eq, Nat.reduceEqDiff, not_false_eq_true, Int.reduceEq, Int.reduceLT, Int.reduceLE, Int.reduceNeg, decide_true, decide_false, Bool.and_true, Bool.true_and, Bool.and_false, Bool.false_and, and_self, and_true, true_and, and_false, false_and, bi_T, bi_F, not_true_eq_false, Bool.false_eq_true, kg_2]
/-- one round of the class -/
theorem num_step {T : Nat → Int} {N i c cap : Nat} {g : hp} (C : TC2 T N g) (hi : i ≤ N) (e4 : g 2 4 = (i : Int)) (hc : c ≤ cap) (h16 : cap ≤ 16) : ∃ (s e k : Nat), TK T N i s e k ∧ ∃ g1 : hp, Fr [] tss g g1 ∧ g1 2 4 = (e : Int) ∧ (k = 0 → px_R (mm_Tape_readNumbers, 10, [(2, 2), (2, 122), (0, (cap : Int)), (0, -1), (0, (c : Int))], [], (K0, g)) = some ((c : Int), (K0, px_up g1 2 1 0))) ∧ ((¬ k = 0 ∧ ¬ k = 3) ∨ (k = 3 ∧ c = cap) → px_R (mm_Tape_readNumbers, 10, [(2, 2), (2, 122), (0, (cap : Int)), (0, -1), (0, (c : Int))], [], (K0, g)) = some (-1, (K0, px_up g1 2 1 0))) ∧ (k = 3 → c < cap → px_R (mm_Tape_readNumbers, 10, [(2, 2), (2, 122), (0, (cap : Int)), (0, -1), (0, (c : Int))], [], (K0, g)) = px_R (mm_Tape_readNumbers, 10, [(2, 2), (2, 122), (0, (cap : Int)), (0, -1), (0, ((c + 1 : Nat) : Int))], [], (K0, px_up g1 122 c (nvl T s (e - s))))) := by
  obtain ⟨s, e, k, g1, t1, t2, t3, t4, t5, t6, t7, t8⟩ := R_readNext C hi e4
  have F : Fr [] tss g g1 := t3
  have nl : ((cap : Int) < (c : Int)) = False := eq_false (by omega)
  refine ⟨s, e, k, t1, g1, F, t6, fun z => ?_, fun z => ?_, fun z zc => ?_⟩
  · subst z
    have t4 : g1 2 2 = 0 := t4
    rw [eq_Tape_readNumbers_10]
    simp only [px_rd_mk, px_wr_mk, Int.reduceToNat, Int.toNat_natCast, if_true, if_false, Option.bind_some, px_up_cell, px_up_slot, px_up_eq, ne_eq, Nat.reduceEqDiff, not_false_eq_true, Int.reduceEq, Int.reduceLT, Int.reduceLE, Int.reduceNeg, decide_true, decide_false, Bool.and_true, Bool.true_and, Bool.and_false, Bool.false_and, and_self, and_true, true_and, and_false, false_and, bi_T, bi_F, not_true_eq_false, Bool.false_eq_true, kg_2, nl, t2, t4, num_end]
  · rcases z with ⟨z0, z3⟩ | ⟨z3, zc⟩
    · have n0 : (g1 2 2 = 0) = False := eq_false (by omega)
      have n3 : (g1 2 2 = 3) = False := eq_false (by omega)
      rw [eq_Tape_readNumbers_10]
      simp only [px_rd_mk, px_wr_mk, Int.reduceToNat, Int.toNat_natCast, if_true, if_false, Option.bind_some, px_up_cell, px_up_slot, px_up_eq, ne_eq, Nat.reduceEqDiff, not_false_eq_true, Int.reduceEq, Int.reduceLT, Int.reduceLE, Int.reduceNeg, decide_true, decide_false, Bool.and_true, Bool.true_and, Bool.and_false, Bool.false_and, and_self, and_true, true_and, and_false, false_and, bi_T, bi_F, not_true_eq_false, Bool.false_eq_true, kg_2, nl, t2, n0, n3, num_end]
    · subst z3
      have t4 : g1 2 2 = 3 := t4
      have nl2 : ((c : Int) < (cap : Int)) = False := eq_false (by omega)
      rw [eq_Tape_readNumbers_10]
      simp only [px_rd_mk, px_wr_mk, Int.reduceToNat, Int.toNat_natCast, if_true, if_false, Option.bind_some, px_up_cell, px_up_slot, px_up_eq, ne_eq, Nat.reduceEqDiff, not_false_eq_true, Int.reduceEq, Int.reduceLT, Int.reduceLE, Int.reduceNeg, decide_true, decide_false, Bool.and_true, Bool.true_and, Bool.and_false, Bool.false_and, and_self, and_true, true_and, and_false, false_and, bi_T, bi_F, not_true_eq_false, Bool.false_eq_true, kg_2, nl, t2, t4, nl2, num_end]
  · subst z
    have t4 : g1 2 2 = 3 := t4
    have nl2 : ((c : Int) < (cap : Int)) = True := eq_true (by omega)
    have k1 : Nat.ble (px_kd (K0, g1) 122).1 6 = true := rfl
    have k2 : ((px_kd (K0, g1) 122).2 : Int) = 16 := rfl
    have k3 : ((c : Int) < 16) = True := eq_true (by omega)
    have gc : (decide ((0 : Int) ≤ (c : Int)) && decide ((c : Int) < 16)) = true := gd_ok (by omega)
    rw [eq_Tape_readNumbers_10]
    simp only [nl, nl2, if_true, if_false]
    rw [if_pos (kg_2 g), t2]
    simp only [Option.bind_some, px_rd_mk, px_wr_mk, Int.reduceToNat, Int.toNat_natCast, t4]
    rw [if_pos (kg_2 g1), if_neg (by decide), if_pos (kg_2 g1), if_pos True.intro, if_pos k1, k2]
    simp only [px_rd_mk, px_wr_mk, Int.reduceToNat, Int.toNat_natCast, if_true, if_false, Option.bind_some, px_up_cell, px_up_slot, px_up_eq, ne_eq, Nat.reduceEqDiff, not_false_eq_true, Int.reduceEq, Int.reduceLT, Int.reduceLE, Int.reduceNeg, decide_true, decide_false, Bool.and_true, Bool.true_and, Bool.and_false, Bool.false_and, and_self, and_true, true_and, and_false, false_and, bi_T, bi_F, not_true_eq_false, Bool.false_eq_true, kg_2, ka_122, k3, Int.natCast_nonneg c, t8 rfl, px_w_s (show c < 1000000 by omega)]
theorem num_C2 {T : Nat → Int} {N cap : Nat} (h16 : cap ≤ 16) (m : Nat) : ∀ (c i : Nat) (g : hp), c + m = cap → TC2 T N g → i ≤ N → g 2 4 = (i : Int) → ∃ (v : Int) (g2 : hp), px_R (mm_Tape_readNumbers, 10, [(2, 2), (2, 122), (0, (cap : Int)), (0, -1), (0, (c : Int))], [], (K0, g)) = some (v, (K0, g2)) ∧ Fr [122] nss g g2 ∧ g2 2 1 = 0 ∧ (∀ q, q < c → g2 122 q = g 122 q) ∧ (v = -1 ∨ ∃ n : Nat, c ≤ n ∧ n ≤ cap ∧ v = (n : Int) ∧ ∀ q, c ≤ q → q < n → 0 ≤ g2 122 q ∧ g2 122 q ≤ 9999) := by
  induction m with
  | zero =>
    intro c i g hc C hi e4
    have : c = cap := hc
    obtain ⟨s, e, k, t1, g1, t2, t3, t4, t5, t6⟩ := num_step C hi e4 (Nat.le_of_eq hc) h16
    have F : Fr [122] nss g (px_up g1 2 1 0) := Fr_up (Fr_sub t2 rfl rfl) _ rfl
    by_cases k0 : k = 0
    · exact ⟨(c : Int), _, t4 k0, F, px_up_eq _ _ _ _, fun q _ => by
        simp only [px_up_cell, px_up_slot, px_up_eq, ne_eq, Nat.reduceEqDiff, not_false_eq_true]
        exact t2 122 q rfl, Or.inr ⟨c, Nat.le_refl _, by omega, rfl, fun q h1 h2 => by omega⟩⟩
    · refine ⟨-1, _, t5 ?_, F, px_up_eq _ _ _ _, fun q _ => ?_, Or.inl rfl⟩
      · by_cases k3 : k = 3
        · exact Or.inr ⟨k3, hc⟩
        · exact Or.inl ⟨k0, k3⟩
      · simp only [px_up_cell, px_up_slot, px_up_eq, ne_eq, Nat.reduceEqDiff, not_false_eq_true]
        exact t2 122 q rfl
  | succ m ih =>
    intro c i g hc C hi e4
    obtain ⟨s, e, k, t1, g1, t2, t3, t4, t5, t6⟩ := num_step (cap := cap) C hi e4 (show c ≤ cap by omega) h16
    have F : Fr [122] nss g (px_up g1 2 1 0) := Fr_up (Fr_sub t2 rfl rfl) _ rfl
    by_cases k0 : k = 0
    · exact ⟨(c : Int), _, t4 k0, F, px_up_eq _ _ _ _, fun q _ => by
        simp only [px_up_cell, px_up_slot, px_up_eq, ne_eq, Nat.reduceEqDiff, not_false_eq_true]
        exact t2 122 q rfl, Or.inr ⟨c, Nat.le_refl _, by omega, rfl, fun q h1 h2 => by omega⟩⟩
    · by_cases k3 : k = 3
      · subst k3
        have le := TK_le t1
        have vr := TK_num t1
        have G : Fr [122] tss g (px_up g1 122 c (nvl T s (e - s))) := Fr_up (Fr_sub t2 rfl rfl) _ rfl
        have C1 : TC2 T N (px_up g1 122 c (nvl T s (e - s))) := TC2_F C G rfl (fun I => IR_Fr I G (by decide))
        obtain ⟨v, g2, r1, r2, r3, r4, r5⟩ := ih (c + 1) e _ (by omega) C1 le.2.2.1 ((px_up_cell _ _ _ _ (by decide)).trans t3)
        refine ⟨v, g2, (t6 rfl (by omega)).trans r1, Fr_tr2 (Fr_sub G rfl rfl) r2, r3, fun q hq => ?_, ?_⟩
        · rw [r4 q (by omega), px_up_at, if_neg (by omega)]
          exact t2 122 q rfl
        · rcases r5 with r5 | ⟨n, n1, n2, n3, n4⟩
          · exact Or.inl r5
          · refine Or.inr ⟨n, by omega, n2, n3, fun q h1 h2 => ?_⟩
            by_cases e1 : q = c
            · rw [e1, r4 c (by omega), px_up_eq]
              exact vr
            · exact n4 q (by omega) h2
      · exact ⟨-1, _, t5 (Or.inl ⟨k0, k3⟩), F, px_up_eq _ _ _ _, fun q _ => by
          simp only [px_up_cell, px_up_slot, px_up_eq, ne_eq, Nat.reduceEqDiff, not_false_eq_true]
          exact t2 122 q rfl, Or.inl rfl⟩
