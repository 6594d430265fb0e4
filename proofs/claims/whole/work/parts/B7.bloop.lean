/-! bestLoop. -/
theorem lvl_e {n : Nat} {h g : hp} (e1 : ∀ a : Nat, n ≤ a → a < n + 22 → g a = h a) (e2 : g 49 = h 49) (e3 : g 50 = h 50) (e4 : g 48 3 = h 48 3) (e5 : g 48 4 = h 48 4) (e6 : g 48 6 = h 48 6) (s t y : Nat) : lvl n g s t y = lvl n h s t y := by
  funext w b
  unfold lvl
  rw [arV_e e1 e2 e3 e4 e5 e6, e1 (n + 15) (by omega) (by omega)]
theorem up_same {h g : hp} {a k : Nat} (e : ∀ i, i ≠ k → g a i = h a i) (v : Int) : px_up g a k v a = px_up h a k v a := by
  funext i
  rw [px_up_at, px_up_at]
  by_cases z : i = k
  · rw [if_pos z, if_pos z]
  · rw [if_neg z, if_neg z]; exact e i z
theorem Fr_delc {cs : List Nat} {ss : List (Nat × Nat)} {a : Nat} {h g : hp} (F : Fr (a :: cs) ss h g) (e : g a = h a) : Fr cs ss h g := fun x y q => by
  by_cases z : x = a
  · rw [z, e]
  · apply F
    rw [fin_f] at q ⊢
    intro r
    apply q
    rcases r with r | r
    · rcases List.mem_cons.mp r with r | r
      · exact absurd r z
      · exact Or.inl r
    · exact Or.inr r
theorem R_tbestLoop {n : Nat} {h : hp} (h8 : h 1 8 = (n : Int)) (C : LC n h) {s t y : Nat} (h0 : h 48 0 = (s : Int)) (hs : (s : Int) < h (n + 1) 0) (h1 : h 48 1 = (t : Int)) (ht : (t : Int) < h (n + 1) 1) (h2 : h 48 2 = (y : Int)) (hy : y ≤ 400) {W N : Nat} (hW : h (n + 1) 2 = (W : Int)) (hN : h (n + 21) 0 = (N : Int)) (hW1 : 1 ≤ W) {K : Nat} (hK : h (n + 1) 5 = (K : Int)) {k : Nat} (hk : (k : Int) < h 48 4) : ∃ g : hp, px_R (mm_Tin_bestOf, 0, [(2, 1), (0, 5), (0, (k : Int)), (9, 0), (9, 0), (9, 0), (9, 0), (9, 0)], [], (K0, h)) = some ((bst (fun l => woV W N (lvl n (px_up h 49 k (l : Int)) s t y)) K).2, (K0, g)) ∧ Fr xcs [(51, 0), (51, 1), (51, 5)] h g := by
  have hn := C.1
  have c2 := ST_n C.2.2.1 (k := 2) (by decide)
  have W6 : W ≤ 6 := by omega
  have N3 := C.2.2.1.2.2.2.2.1
  have T64 := all_lt W6
  have L := C.2.2.2
  have k4 : k < 4 := by have := L.2.1; omega
  have gk : (decide ((0 : Int) ≤ (k : Int)) && decide ((k : Int) < 4)) = true := gd_ok (by omega)
  have c5 := C.2.2.1.2.1 5 (by decide)
  have c56 := ST_n C.2.2.1 (k := 5) (by decide)
  have lp := px_lp (fun z : List pv × hp => px_R (mm_Tin_bestOf, 20, z.1, [], (K0, z.2))) (fun i z => (∃ y5 : pv, z.1 = [(2, 1), (0, 5), (0, (k : Int)), (0, h 49 k), (0, (bst (fun l => woV W N (lvl n (px_up h 49 k (l : Int)) s t y)) i).1), (0, (bst (fun l => woV W N (lvl n (px_up h 49 k (l : Int)) s t y)) i).2), (0, (i : Int)), y5]) ∧ Fr (49 :: xcs) [(51, 0), (51, 1), (51, 5)] h z.2 ∧ ∀ i, i ≠ k → z.2 49 i = h 49 i) K (by
    rintro i ⟨ls, g⟩ hi ⟨⟨y5, e1⟩, F, G49⟩
    simp only at e1 F G49
    subst e1
    have F1 : Fr (49 :: xcs) [(51, 0), (51, 1), (51, 5)] h (px_up g 49 k (i : Int)) := Fr_up F _ rfl
    have Ig := IR_Fr C.2.1 F (by decide)
    have I1 := IR_Fr C.2.1 F1 (by decide)
    have f1 := Fr_st hn F1 rfl (n + 1) (by omega) (by omega)
    have f21 := Fr_st hn F1 rfl (n + 21) (by omega) (by omega)
    have C1 : LCm n (px_up g 49 k (i : Int)) (px_up h 135 k (i : Int)) := by
      refine ⟨hn, I1, ST_F hn F1 rfl C.2.2.1, ?_⟩
      unfold LC LCm LBm at *
      rw [f1, F1 48 3 rfl, F1 48 4 rfl, F1 48 6 rfl]
      obtain ⟨l3, l4, l5, l6, l7⟩ := L
      refine ⟨l3, l4, l5, fun j hj => ?_, fun j hj => ?_⟩
      · rw [px_up_at, px_up_at]
        by_cases z : j = k
        · rw [if_pos z, if_pos z]; exact ⟨rfl, Or.inr ⟨by omega, by omega⟩⟩
        · rw [if_neg z, if_neg z, G49 j z]; exact l6 j hj
      · rw [px_up_cell _ _ _ _ (by decide), F1 50 j rfl]
        exact l7 j hj
    have elv : lvl n (px_up g 49 k (i : Int)) s t y = lvl n (px_up h 49 k (i : Int)) s t y := lvl_e (fun a q1 q2 => by
      rw [Fr_st hn F1 rfl a q1 q2]
      funext b
      rw [px_up_cell _ _ _ _ (by omega)]) (up_same G49 _) (funext fun b => (F1 50 b rfl)) (F1 48 3 rfl) (F1 48 4 rfl) (F1 48 6 rfl) s t y
    have hlt : ((i : Int) < (K : Int)) = True := eq_true (by omega)
    have gq : g (n + 1) 5 = (K : Int) := by rw [Fr_st hn F rfl (n + 1) (by omega) (by omega)]; exact hK
    have hkg : (k : Int) < g 48 4 := by rw [F 48 4 rfl]; exact hk
    obtain ⟨v, g2, l1, l2, l3, _, _⟩ := R_learn C1 (s := s) (t := t) (y := y) ((F1 48 0 rfl).trans h0) (by rw [f1]; exact hs) ((F1 48 1 rfl).trans h1) (by rw [f1]; exact ht) ((F1 48 2 rfl).trans h2) hy (W := W) (N := N) (by rw [f1]; exact hW) (by rw [f21]; exact hN)
    rw [elv] at l3
    have l2h := Fr_tr F1 l2
    have g28 : g2 1 8 = (n : Int) := (l2h 1 8 rfl).trans h8
    have aw := R_tallWords hn g28 l3.2.2.1 (W := W) (by rw [Fr_st hn l2h rfl (n + 1) (by omega) (by omega)]; exact hW) W6
    obtain ⟨v3, g3, m1, m2, m3⟩ := R_leastOf l3 (T := 2 ^ W - 1) (by omega) (e := (bst (fun l => woV W N (lvl n (px_up h 49 k (l : Int)) s t y)) i).1)
    have ok := least_ok m3
    have F3 : Fr (49 :: xcs) [(51, 0), (51, 1), (51, 5)] h g3 := Fr_sub (Fr_tr l2h m2) rfl rfl
    have G3 : ∀ j, j ≠ k → g3 49 j = h 49 j := fun j hj => (m2 49 j rfl).trans ((l2 49 j rfl).trans ((px_up_slot _ _ _ _ hj).trans (G49 j hj)))
    have st : px_R (mm_Tin_bestOf, 20, [(2, 1), (0, 5), (0, (k : Int)), (0, h 49 k), (0, (bst (fun l => woV W N (lvl n (px_up h 49 k (l : Int)) s t y)) i).1), (0, (bst (fun l => woV W N (lvl n (px_up h 49 k (l : Int)) s t y)) i).2), (0, (i : Int)), y5], [], (K0, g)) = if (bst (fun l => woV W N (lvl n (px_up h 49 k (l : Int)) s t y)) i).1 < v3 then px_R (mm_Tin_bestOf, 20, [(2, 1), (0, 5), (0, (k : Int)), (0, h 49 k), (0, v3), (0, (i : Int)), (0, ((i + 1 : Nat) : Int)), (0, v3)], [], (K0, g3)) else px_R (mm_Tin_bestOf, 20, [(2, 1), (0, 5), (0, (k : Int)), (0, h 49 k), (0, (bst (fun l => woV W N (lvl n (px_up h 49 k (l : Int)) s t y)) i).1), (0, (bst (fun l => woV W N (lvl n (px_up h 49 k (l : Int)) s t y)) i).2), (0, ((i + 1 : Nat) : Int)), (0, v3)], [], (K0, g3)) := by
      rw [eq_Tin_bestOf_20]
      simp only [px_rd_mk, px_wr_mk, Int.reduceToNat, Int.toNat_natCast, if_true, if_false, Option.bind_some, px_up_cell, px_up_slot, px_up_eq, ne_eq, Nat.reduceEqDiff, not_false_eq_true, Int.reduceEq, Int.reduceLT, Int.reduceLE, Int.reduceNeg, decide_true, decide_false, Bool.and_true, Bool.true_and, Bool.and_false, Bool.false_and, and_self, and_true, true_and, and_false, false_and, bi_T, bi_F, not_true_eq_false, Bool.false_eq_true, kg_1, kg_48, ka_49, kg_51, (F 1 8 rfl).trans h8, sgo hn, sr1 hn Ig, sga1 hn, gq, hlt, gk, ir_1_0 Ig, ir_1_1 Ig, ir_1_2 Ig, ir_1_3 Ig, ir_1_4 Ig, ir_1_5 Ig, ir_1_6 Ig, ir_1_7 Ig, ir_48_5 Ig, ir_48_7 Ig, R_change5 Ig k4 hkg, l1, aw, ir_1_0 l3.2.2.1, ir_1_1 l3.2.2.1, ir_1_2 l3.2.2.1, ir_1_3 l3.2.2.1, ir_1_4 l3.2.2.1, ir_1_5 l3.2.2.1, ir_1_6 l3.2.2.1, ir_1_7 l3.2.2.1, m1, px_w_s (show i < 1000000 by omega)]
    by_cases c : (bst (fun l => woV W N (lvl n (px_up h 49 k (l : Int)) s t y)) i).1 < v3
    · have ev : v3 = woV W N (lvl n (px_up h 49 k (i : Int)) s t y) := ok.2 c
      have c5 : (bst (fun l => woV W N (lvl n (px_up h 49 k (l : Int)) s t y)) i).1 < woV W N (lvl n (px_up h 49 k (i : Int)) s t y) := ok.1.mp c
      have eb : bst (fun l => woV W N (lvl n (px_up h 49 k (l : Int)) s t y)) (i + 1) = (v3, (i : Int)) := by
        rw [bst]
        rw [if_pos c5]
        exact congrArg (fun z => (z, (i : Int))) ev.symm
      refine ⟨([(2, 1), (0, 5), (0, (k : Int)), (0, h 49 k), (0, v3), (0, (i : Int)), (0, ((i + 1 : Nat) : Int)), (0, v3)], g3), ?_, ⟨_, by rw [eb]⟩, F3, G3⟩
      show px_R (mm_Tin_bestOf, 20, _, [], (K0, g)) = _
      rw [st, if_pos c]
    · have nc : ¬ (bst (fun l => woV W N (lvl n (px_up h 49 k (l : Int)) s t y)) i).1 < woV W N (lvl n (px_up h 49 k (i : Int)) s t y) := fun z => c (ok.1.mpr z)
      have eb : bst (fun l => woV W N (lvl n (px_up h 49 k (l : Int)) s t y)) (i + 1) = bst (fun l => woV W N (lvl n (px_up h 49 k (l : Int)) s t y)) i := by
        rw [bst]
        rw [if_neg nc]
      refine ⟨([(2, 1), (0, 5), (0, (k : Int)), (0, h 49 k), (0, (bst (fun l => woV W N (lvl n (px_up h 49 k (l : Int)) s t y)) i).1), (0, (bst (fun l => woV W N (lvl n (px_up h 49 k (l : Int)) s t y)) i).2), (0, ((i + 1 : Nat) : Int)), (0, v3)], g3), ?_, ⟨_, by rw [eb]⟩, F3, G3⟩
      show px_R (mm_Tin_bestOf, 20, _, [], (K0, g)) = _
      rw [st, if_neg c]) K 0
  obtain ⟨⟨ls, g⟩, f1, ⟨y5, f2⟩, F, G49⟩ := lp ([(2, 1), (0, 5), (0, (k : Int)), (0, h 49 k), (0, -1), (0, -1), (0, 0), (9, 0)], px_up h 49 k 0) (Nat.zero_add K) ⟨⟨_, rfl⟩, Fr_up (Fr_rf _ _ _) _ rfl, fun _ q => px_up_slot _ _ _ _ q⟩
  simp only at f1 f2 F G49
  subst f2
  have Ig := IR_Fr C.2.1 F (by decide)
  have gq : g (n + 1) 5 = (K : Int) := by rw [Fr_st hn F rfl (n + 1) (by omega) (by omega)]; exact hK
  have hkg : (k : Int) < g 48 4 := by rw [F 48 4 rfl]; exact hk
  have hlt : ((K : Int) < (K : Int)) = False := eq_false (by omega)
  have Fend : Fr (49 :: xcs) [(51, 0), (51, 1), (51, 5)] h (px_up g 49 k (h 49 k)) := Fr_up F _ rfl
  refine ⟨px_up g 49 k (h 49 k), ?_, Fr_delc Fend ?_⟩
  · rw [eq_Tin_bestOf_0]
    simp only [px_rd_mk, px_wr_mk, Int.reduceToNat, Int.toNat_natCast, if_true, if_false, Option.bind_some, px_up_cell, px_up_slot, px_up_eq, ne_eq, Nat.reduceEqDiff, not_false_eq_true, Int.reduceEq, Int.reduceLT, Int.reduceLE, Int.reduceNeg, decide_true, decide_false, Bool.and_true, Bool.true_and, Bool.and_false, Bool.false_and, and_self, and_true, true_and, and_false, false_and, bi_T, bi_F, not_true_eq_false, Bool.false_eq_true, kg_1, kg_48, ka_49, ir_1_0 C.2.1, ir_1_1 C.2.1, ir_1_2 C.2.1, ir_1_3 C.2.1, ir_1_4 C.2.1, ir_1_5 C.2.1, ir_1_6 C.2.1, ir_1_7 C.2.1, R_change5 C.2.1 k4 hk]
    rw [f1, eq_Tin_bestOf_20]
    simp only [px_rd_mk, px_wr_mk, Int.reduceToNat, Int.toNat_natCast, if_true, if_false, Option.bind_some, px_up_cell, px_up_slot, px_up_eq, ne_eq, Nat.reduceEqDiff, not_false_eq_true, Int.reduceEq, Int.reduceLT, Int.reduceLE, Int.reduceNeg, decide_true, decide_false, Bool.and_true, Bool.true_and, Bool.and_false, Bool.false_and, and_self, and_true, true_and, and_false, false_and, bi_T, bi_F, not_true_eq_false, Bool.false_eq_true, kg_1, kg_48, ka_49, (F 1 8 rfl).trans h8, sgo hn, sr1 hn Ig, sga1 hn, gq, hlt, gk, ir_1_0 Ig, ir_1_1 Ig, ir_1_2 Ig, ir_1_3 Ig, ir_1_4 Ig, ir_1_5 Ig, ir_1_6 Ig, ir_1_7 Ig, ir_48_5 Ig, ir_48_7 Ig, R_change5 Ig k4 hkg]
  · funext i
    rw [px_up_at]
    by_cases z : i = k
    · rw [if_pos z, z]
    · rw [if_neg z]; exact G49 i z
theorem R_mbestLoop {n : Nat} {h : hp} (C : LC n h) {s t y : Nat} (h0 : h 123 24 = (s : Int)) (hs : (s : Int) < h (n + 1) 0) (h1 : h 123 25 = (t : Int)) (ht : (t : Int) < h (n + 1) 1) (h2 : h 123 26 = (y : Int)) (hy : y ≤ 400) {W N : Nat} (hW : h (n + 1) 2 = (W : Int)) (hN : h (n + 21) 0 = (N : Int)) (hW1 : 1 ≤ W) {K : Nat} (hK : h (n + 1) 5 = (K : Int)) {k : Nat} (hk : (k : Int) < h 48 4) : ∃ g : hp, px_R (mm_Mod_bestLoop, 62, [(2, 123), (0, (k : Int)), (0, h 135 k), (0, -1), (0, 0), (0, 0), (9, 0)], [], (K0, h)) = some ((bst (fun l => woV W N (lvl n (px_up h 49 k (l : Int)) s t y)) K).2, (K0, g)) ∧ Fr [137, 138, 139] [] h g := by
  have hn := C.1
  have c2 := ST_n C.2.2.1 (k := 2) (by decide)
  have W6 : W ≤ 6 := by omega
  have N3 := C.2.2.1.2.2.2.2.1
  have T64 := all_lt W6
  have L := C.2.2.2
  have k4 : k < 4 := by have := L.2.1; omega
  have gk : (decide ((0 : Int) ≤ (k : Int)) && decide ((k : Int) < 4)) = true := gd_ok (by omega)
  have c5 := ST_n C.2.2.1 (k := 5) (by decide)
  have lp := px_lp (fun z : List pv × hp => px_R (mm_Mod_bestLoop, 62, z.1, [], (K0, z.2))) (fun i z => (∃ y5 : pv, z.1 = [(2, 123), (0, (k : Int)), (0, h 135 k), (0, (bst (fun l => woV W N (lvl n (px_up h 49 k (l : Int)) s t y)) i).2), (0, if i = 0 then 0 else (bst (fun l => woV W N (lvl n (px_up h 49 k (l : Int)) s t y)) i).1), (0, (i : Int)), y5]) ∧ Fr [135, 137, 138, 139] [] h z.2 ∧ ∀ i, i ≠ k → z.2 135 i = h 135 i) K (by
    rintro i ⟨ls, g⟩ hi ⟨⟨y5, e1⟩, F, G35⟩
    simp only at e1 F G35
    subst e1
    have F1 : Fr [135, 137, 138, 139] [] h (px_up g 135 k (i : Int)) := Fr_up F _ rfl
    have Fc : Fr [49] [] h (px_up h 49 k (i : Int)) := Fr_up (Fr_rf _ _ _) _ rfl
    have Ig := IR_Fr C.2.1 F (by decide)
    have I1 := IR_Fr C.2.1 F1 (by decide)
    have C1 : LD n (px_up h 49 k (i : Int)) (px_up g 135 k (i : Int)) := by
      refine ⟨hn, I1, ST_F hn Fc rfl C.2.2.1, ?_, fun a q1 q2 => (Fr_cell F1 125 135 rfl q1 q2).trans (Fr_cell Fc 125 135 rfl q1 q2).symm⟩
      have f1 := Fr_st hn Fc rfl (n + 1) (by omega) (by omega)
      unfold LC LCm LBm at *
      rw [f1, F1 123 27 rfl, F1 123 28 rfl, F1 123 29 rfl, Fc 48 3 rfl, Fc 48 4 rfl, Fc 48 6 rfl]
      obtain ⟨l3, l4, l5, l6, l7⟩ := L
      refine ⟨l3, l4, l5, fun j hj => ?_, fun j hj => ?_⟩
      · rw [px_up_at, px_up_at]
        by_cases z : j = k
        · rw [if_pos z, if_pos z]; exact ⟨rfl, Or.inr ⟨by omega, by omega⟩⟩
        · rw [if_neg z, if_neg z, G35 j z]; exact l6 j hj
      · rw [Fc 50 j rfl, F1 136 j rfl]
        exact l7 j hj
    have hlt : ((i : Int) < (K : Int)) = True := eq_true (by omega)
    have gq : g 125 5 = (K : Int) := (F 125 5 rfl).trans (c5.1.trans hK)
    have f1 := Fr_st hn Fc rfl (n + 1) (by omega) (by omega)
    have f21 := Fr_st hn Fc rfl (n + 21) (by omega) (by omega)
    obtain ⟨k1, m1, G1, M1⟩ := R_makeMC C1 (s := s) (t := t) (y := y) (by rw [f1]; exact hs) (by rw [f1]; exact ht) hy (W := W) (N := N) (by rw [f1]; exact hW) (by rw [f21]; exact hN)
    have inA := (fx_all ⟨W, by omega⟩).2 ⟨0, by omega⟩ hW1
    obtain ⟨k2, m2, G2⟩ := R_worst M1 (T := 2 ^ W - 1) (by omega) (a2 := 0) hW1 inA
    have F3 : Fr [135, 137, 138, 139] [] h k2 := Fr_sub (Fr_tr (Fr_tr F1 G1) G2) rfl rfl
    have G3 : ∀ j, j ≠ k → k2 135 j = h 135 j := fun j hj => (G2 135 j rfl).trans ((G1 135 j rfl).trans ((px_up_slot _ _ _ _ hj).trans (G35 j hj)))
    have m2 : px_R (mm_Mod_worst, 0, [(2, 123), (0, ((2 ^ W - 1 : Nat) : Int)), (9, 0), (9, 0), (9, 0)], [], (K0, k1)) = some (woV W N (lvl n (px_up h 49 k (i : Int)) s t y), (K0, k2)) := m2
    have aw := R_mallWords M1.2.2.1 M1.2.2.2.1 W6
    have wr := woV_rng (W := W) (show N ≤ 3 by omega) (lvl n (px_up h 49 k (i : Int)) s t y)
    have st : px_R (mm_Mod_bestLoop, 62, [(2, 123), (0, (k : Int)), (0, h 135 k), (0, (bst (fun l => woV W N (lvl n (px_up h 49 k (l : Int)) s t y)) i).2), (0, if i = 0 then 0 else (bst (fun l => woV W N (lvl n (px_up h 49 k (l : Int)) s t y)) i).1), (0, (i : Int)), y5], [], (K0, g)) = if (bst (fun l => woV W N (lvl n (px_up h 49 k (l : Int)) s t y)) i).2 = -1 then px_R (mm_Mod_bestLoop, 62, [(2, 123), (0, (k : Int)), (0, h 135 k), (0, (i : Int)), (0, woV W N (lvl n (px_up h 49 k (i : Int)) s t y)), (0, ((i + 1 : Nat) : Int)), (0, woV W N (lvl n (px_up h 49 k (i : Int)) s t y))], [], (K0, k2)) else if (if i = 0 then 0 else (bst (fun l => woV W N (lvl n (px_up h 49 k (l : Int)) s t y)) i).1) < woV W N (lvl n (px_up h 49 k (i : Int)) s t y) then px_R (mm_Mod_bestLoop, 62, [(2, 123), (0, (k : Int)), (0, h 135 k), (0, (i : Int)), (0, woV W N (lvl n (px_up h 49 k (i : Int)) s t y)), (0, ((i + 1 : Nat) : Int)), (0, woV W N (lvl n (px_up h 49 k (i : Int)) s t y))], [], (K0, k2)) else px_R (mm_Mod_bestLoop, 62, [(2, 123), (0, (k : Int)), (0, h 135 k), (0, (bst (fun l => woV W N (lvl n (px_up h 49 k (l : Int)) s t y)) i).2), (0, if i = 0 then 0 else (bst (fun l => woV W N (lvl n (px_up h 49 k (l : Int)) s t y)) i).1), (0, ((i + 1 : Nat) : Int)), (0, woV W N (lvl n (px_up h 49 k (i : Int)) s t y))], [], (K0, k2)) := by
      rw [eq_Mod_bestLoop_62]
      simp only [px_rd_mk, px_wr_mk, Int.reduceToNat, Int.toNat_natCast, if_true, if_false, Option.bind_some, px_up_cell, px_up_slot, px_up_eq, ne_eq, Nat.reduceEqDiff, not_false_eq_true, Int.reduceEq, Int.reduceLT, Int.reduceLE, Int.reduceNeg, decide_true, decide_false, Bool.and_true, Bool.true_and, Bool.and_false, Bool.false_and, and_self, and_true, true_and, and_false, false_and, bi_T, bi_F, not_true_eq_false, Bool.false_eq_true, kg_123, ka_125, ka_135, ir_123_0 Ig, ir_123_12 Ig, ir_123_13 Ig, ir_123_14 Ig, ir_123_15 Ig, ir_123_16 Ig, ir_123_17 Ig, ir_123_18 Ig, ir_123_19 Ig, ir_123_20 Ig, ir_123_21 Ig, ir_123_30 Ig, ir_123_31 Ig, ir_123_32 Ig, ir_123_33 Ig, ir_123_34 Ig, ir_123_35 Ig, ir_123_36 Ig, ir_123_37 Ig, ir_123_38 Ig, ir_123_39 Ig, ir_123_41 Ig, ir_123_42 Ig, ir_123_44 Ig, ir_123_45 Ig, ir_123_46 Ig, ir_123_50 Ig, ir_123_54 Ig, ir_123_55 Ig, ir_123_56 Ig, ir_123_57 Ig, ir_123_58 Ig, ir_123_59 Ig, ir_123_60 Ig, ir_123_61 Ig, ir_123_62 Ig, gq, hlt, gk, eq_Mod_makeOwn_0, (F 123 24 rfl).trans h0, (F 123 25 rfl).trans h1, (F 123 26 rfl).trans h2, m1, aw, m2, px_w_s (show i < 1000000 by omega)]
    by_cases z : i = 0
    · subst z
      have eb : bst (fun l => woV W N (lvl n (px_up h 49 k (l : Int)) s t y)) (0 + 1) = (woV W N (lvl n (px_up h 49 k ((0 : Nat) : Int)) s t y), ((0 : Nat) : Int)) := by
        show (if (-1 : Int) < woV W N (lvl n (px_up h 49 k ((0 : Nat) : Int)) s t y) then _ else _) = _
        rw [if_pos (by omega)]
      refine ⟨([(2, 123), (0, (k : Int)), (0, h 135 k), (0, ((0 : Nat) : Int)), (0, woV W N (lvl n (px_up h 49 k ((0 : Nat) : Int)) s t y)), (0, ((0 + 1 : Nat) : Int)), (0, woV W N (lvl n (px_up h 49 k ((0 : Nat) : Int)) s t y))], k2), ?_, ⟨(0, woV W N (lvl n (px_up h 49 k ((0 : Nat) : Int)) s t y)), by rw [eb]; rfl⟩, F3, G3⟩
      show px_R (mm_Mod_bestLoop, 62, _, [], (K0, g)) = _
      rw [st, if_pos (show (bst (fun l => woV W N (lvl n (px_up h 49 k (l : Int)) s t y)) 0).2 = -1 from rfl)]
    · have b2 : 0 ≤ (bst (fun l => woV W N (lvl n (px_up h 49 k (l : Int)) s t y)) i).2 := by
        have := bst_0 (f := fun l => woV W N (lvl n (px_up h 49 k (l : Int)) s t y)) (woV_rng (W := W) (show N ≤ 3 by omega) _).1 (i - 1)
        rw [show i - 1 + 1 = i by omega] at this
        exact this
      rw [if_neg (show ¬ (bst (fun l => woV W N (lvl n (px_up h 49 k (l : Int)) s t y)) i).2 = -1 by omega), if_neg z] at st
      by_cases c : (bst (fun l => woV W N (lvl n (px_up h 49 k (l : Int)) s t y)) i).1 < woV W N (lvl n (px_up h 49 k (i : Int)) s t y)
      · have eb : bst (fun l => woV W N (lvl n (px_up h 49 k (l : Int)) s t y)) (i + 1) = (woV W N (lvl n (px_up h 49 k (i : Int)) s t y), (i : Int)) := by
          rw [bst]
          rw [if_pos c]
        rw [if_pos c] at st
        refine ⟨([(2, 123), (0, (k : Int)), (0, h 135 k), (0, (i : Int)), (0, woV W N (lvl n (px_up h 49 k (i : Int)) s t y)), (0, ((i + 1 : Nat) : Int)), (0, woV W N (lvl n (px_up h 49 k (i : Int)) s t y))], k2), ?_, ⟨_, by rw [eb, if_neg (Nat.succ_ne_zero i)]⟩, F3, G3⟩
        show px_R (mm_Mod_bestLoop, 62, [(2, 123), (0, (k : Int)), (0, h 135 k), (0, (bst (fun l => woV W N (lvl n (px_up h 49 k (l : Int)) s t y)) i).2), (0, if i = 0 then 0 else (bst (fun l => woV W N (lvl n (px_up h 49 k (l : Int)) s t y)) i).1), (0, (i : Int)), y5], [], (K0, g)) = _
        rw [if_neg z]
        exact st
      · have eb : bst (fun l => woV W N (lvl n (px_up h 49 k (l : Int)) s t y)) (i + 1) = bst (fun l => woV W N (lvl n (px_up h 49 k (l : Int)) s t y)) i := by
          rw [bst]
          rw [if_neg c]
        rw [if_neg c] at st
        refine ⟨([(2, 123), (0, (k : Int)), (0, h 135 k), (0, (bst (fun l => woV W N (lvl n (px_up h 49 k (l : Int)) s t y)) i).2), (0, (bst (fun l => woV W N (lvl n (px_up h 49 k (l : Int)) s t y)) i).1), (0, ((i + 1 : Nat) : Int)), (0, woV W N (lvl n (px_up h 49 k (i : Int)) s t y))], k2), ?_, ⟨_, by rw [eb, if_neg (Nat.succ_ne_zero i)]⟩, F3, G3⟩
        show px_R (mm_Mod_bestLoop, 62, [(2, 123), (0, (k : Int)), (0, h 135 k), (0, (bst (fun l => woV W N (lvl n (px_up h 49 k (l : Int)) s t y)) i).2), (0, if i = 0 then 0 else (bst (fun l => woV W N (lvl n (px_up h 49 k (l : Int)) s t y)) i).1), (0, (i : Int)), y5], [], (K0, g)) = _
        rw [if_neg z]
        exact st) K 0
  obtain ⟨⟨ls, g⟩, f1, ⟨y5, f2⟩, F, G35⟩ := lp ([(2, 123), (0, (k : Int)), (0, h 135 k), (0, -1), (0, 0), (0, 0), (9, 0)], h) (Nat.zero_add K) ⟨⟨(9, 0), rfl⟩, Fr_rf _ _ _, fun _ _ => rfl⟩
  simp only at f1 f2 F G35
  subst f2
  have Ig := IR_Fr C.2.1 F (by decide)
  have gq : g 125 5 = (K : Int) := (F 125 5 rfl).trans (c5.1.trans hK)
  have hlt : ((K : Int) < (K : Int)) = False := eq_false (by omega)
  have Fend : Fr [135, 137, 138, 139] [] h (px_up g 135 k (h 135 k)) := Fr_up F _ rfl
  refine ⟨px_up g 135 k (h 135 k), ?_, Fr_delc Fend ?_⟩
  · rw [f1, eq_Mod_bestLoop_62]
    simp only [px_rd_mk, px_wr_mk, Int.reduceToNat, Int.toNat_natCast, if_true, if_false, Option.bind_some, px_up_cell, px_up_slot, px_up_eq, ne_eq, Nat.reduceEqDiff, not_false_eq_true, Int.reduceEq, Int.reduceLT, Int.reduceLE, Int.reduceNeg, decide_true, decide_false, Bool.and_true, Bool.true_and, Bool.and_false, Bool.false_and, and_self, and_true, true_and, and_false, false_and, bi_T, bi_F, not_true_eq_false, Bool.false_eq_true, kg_123, ka_125, ka_135, ir_123_0 Ig, ir_123_12 Ig, ir_123_13 Ig, ir_123_14 Ig, ir_123_15 Ig, ir_123_16 Ig, ir_123_17 Ig, ir_123_18 Ig, ir_123_19 Ig, ir_123_20 Ig, ir_123_21 Ig, ir_123_30 Ig, ir_123_31 Ig, ir_123_32 Ig, ir_123_33 Ig, ir_123_34 Ig, ir_123_35 Ig, ir_123_36 Ig, ir_123_37 Ig, ir_123_38 Ig, ir_123_39 Ig, ir_123_41 Ig, ir_123_42 Ig, ir_123_44 Ig, ir_123_45 Ig, ir_123_46 Ig, ir_123_50 Ig, ir_123_54 Ig, ir_123_55 Ig, ir_123_56 Ig, ir_123_57 Ig, ir_123_58 Ig, ir_123_59 Ig, ir_123_60 Ig, ir_123_61 Ig, ir_123_62 Ig, gq, hlt, gk]
  · funext i
    rw [px_up_at]
    by_cases z : i = k
    · rw [if_pos z, z]
    · rw [if_neg z]; exact G35 i z
theorem C_bestLoop {h : hp} (C : CI h) (x : Int) : AL h mm_Tin_bestLoop mm_Mod_bestLoop [(2, 1), (0, x)] [(2, 123), (0, x), (9, 0), (9, 0), (9, 0), (9, 0), (9, 0)] := by
  have C2 := C
  obtain ⟨n, ⟨hn, h8, h9⟩, hI, hT, hK, hS, hL, hR, hC, hKs, hW, hB⟩ := C2
  have L := LI_LB hL
  have l4 := L.2.1
  have uq : -2147483648 ≤ h 48 4 - 1 ∧ h 48 4 - 1 < 2147483648 := by omega
  by_cases hx : 0 ≤ x ∧ x ≤ h 48 4 - 1
  · by_cases hc : h (n + 1) 0 = 0 ∨ h (n + 1) 1 = 0
    · have hc2 : ¬ (0 < h (n + 1) 0 ∧ 0 < h (n + 1) 1) := by omega
      refine AL_same C (-4) ?_ ?_
      · rw [eq_Tin_bestLoop_0]
        simp only [px_rd_mk, px_wr_mk, Int.reduceToNat, Int.toNat_natCast, if_true, if_false, Option.bind_some, px_up_cell, px_up_slot, px_up_eq, ne_eq, Nat.reduceEqDiff, not_false_eq_true, Int.reduceEq, Int.reduceLT, Int.reduceLE, Int.reduceNeg, decide_true, decide_false, Bool.and_true, Bool.true_and, Bool.and_false, Bool.false_and, and_self, and_true, true_and, and_false, false_and, bi_T, bi_F, not_true_eq_false, Bool.false_eq_true, kg_1, kg_48, ir_1_0 hI, ir_1_1 hI, ir_1_2 hI, ir_1_3 hI, ir_1_4 hI, ir_1_5 hI, ir_1_6 hI, ir_1_7 hI, px_w_n uq, R_Tin_within, bi_t hx, R_lineLacks hn h8 hI, bi_t hc]
      · rw [eq_Mod_bestLoop_0]
        simp only [px_rd_mk, px_wr_mk, Int.reduceToNat, Int.toNat_natCast, if_true, if_false, Option.bind_some, px_up_cell, px_up_slot, px_up_eq, ne_eq, Nat.reduceEqDiff, not_false_eq_true, Int.reduceEq, Int.reduceLT, Int.reduceLE, Int.reduceNeg, decide_true, decide_false, Bool.and_true, Bool.true_and, Bool.and_false, Bool.false_and, and_self, and_true, true_and, and_false, false_and, bi_T, bi_F, not_true_eq_false, Bool.false_eq_true, kg_123, l4.1, px_w_n uq, R_Mod_in, bi_t hx, R_hasLine hI hS, bi_f hc2]
    · have c0 := ST_n hS (k := 0) (by decide)
      have c1 := ST_n hS (k := 1) (by decide)
      have c2 := ST_n hS (k := 2) (by decide)
      have c5 := ST_n hS (k := 5) (by decide)
      have hc2 : 0 < h (n + 1) 0 ∧ 0 < h (n + 1) 1 := by omega
      by_cases hw0 : h (n + 1) 2 = 0
      · refine AL_same C (-1) ?_ ?_
        · rw [eq_Tin_bestLoop_0]
          simp only [px_rd_mk, px_wr_mk, Int.reduceToNat, Int.toNat_natCast, if_true, if_false, Option.bind_some, px_up_cell, px_up_slot, px_up_eq, ne_eq, Nat.reduceEqDiff, not_false_eq_true, Int.reduceEq, Int.reduceLT, Int.reduceLE, Int.reduceNeg, decide_true, decide_false, Bool.and_true, Bool.true_and, Bool.and_false, Bool.false_and, and_self, and_true, true_and, and_false, false_and, bi_T, bi_F, not_true_eq_false, Bool.false_eq_true, kg_1, kg_48, ir_1_0 hI, ir_1_1 hI, ir_1_2 hI, ir_1_3 hI, ir_1_4 hI, ir_1_5 hI, ir_1_6 hI, ir_1_7 hI, px_w_n uq, R_Tin_within, bi_t hx, R_lineLacks hn h8 hI, bi_f hc, h8, sgo hn, sr1 hn hI, sga1 hn, hw0]
        · rw [eq_Mod_bestLoop_0]
          simp only [px_rd_mk, px_wr_mk, Int.reduceToNat, Int.toNat_natCast, if_true, if_false, Option.bind_some, px_up_cell, px_up_slot, px_up_eq, ne_eq, Nat.reduceEqDiff, not_false_eq_true, Int.reduceEq, Int.reduceLT, Int.reduceLE, Int.reduceNeg, decide_true, decide_false, Bool.and_true, Bool.true_and, Bool.and_false, Bool.false_and, and_self, and_true, true_and, and_false, false_and, bi_T, bi_F, not_true_eq_false, Bool.false_eq_true, kg_123, ka_125, l4.1, px_w_n uq, R_Mod_in, bi_t hx, R_hasLine hI hS, bi_t hc2, ir_123_0 hI, ir_123_12 hI, ir_123_13 hI, ir_123_14 hI, ir_123_15 hI, ir_123_16 hI, ir_123_17 hI, ir_123_18 hI, ir_123_19 hI, ir_123_20 hI, ir_123_21 hI, ir_123_30 hI, ir_123_31 hI, ir_123_32 hI, ir_123_33 hI, ir_123_34 hI, ir_123_35 hI, ir_123_36 hI, ir_123_37 hI, ir_123_38 hI, ir_123_39 hI, ir_123_41 hI, ir_123_42 hI, ir_123_44 hI, ir_123_45 hI, ir_123_46 hI, ir_123_50 hI, ir_123_54 hI, ir_123_55 hI, ir_123_56 hI, ir_123_57 hI, ir_123_58 hI, ir_123_59 hI, ir_123_60 hI, ir_123_61 hI, ir_123_62 hI, c2.1, hw0]
      · obtain ⟨W, hW2⟩ := Int.eq_ofNat_of_zero_le c2.2.1
        obtain ⟨k, rfl⟩ := Int.eq_ofNat_of_zero_le hx.1
        have hk : (k : Int) < h 48 4 := by omega
        have c8 := hS.2.2.2.2.1
        obtain ⟨N, hN2⟩ := Int.eq_ofNat_of_zero_le c8.2.1
        obtain ⟨s, s1, s2, s3⟩ := LI_s hL hc2.1
        obtain ⟨t, t1, t2, t3⟩ := LI_t hL hc2.2
        obtain ⟨yy, y1, y2, y3, y4⟩ := LI_y hL
        have W1 : 1 ≤ W := by omega
        have LC0 : LC n h := ⟨hn, hI, hS, LI_LB hL⟩
        obtain ⟨K, hKK⟩ := Int.eq_ofNat_of_zero_le c5.2.1
        have gk : (decide ((0 : Int) ≤ (k : Int)) && decide ((k : Int) < 4)) = true := gd_ok (by omega)
        obtain ⟨g, e1, F1⟩ := R_tbestLoop h8 LC0 s1 s3 t1 t3 y1 y3 hW2 hN2 W1 hKK hk
        have LCg := LC_F LC0 F1 (by decide) rfl rfl
        have f1 := Fr_st hn F1 rfl (n + 1) (by omega) (by omega)
        have f21 := Fr_st hn F1 rfl (n + 21) (by omega) (by omega)
        obtain ⟨j, m1, G1⟩ := R_mbestLoop LCg (s := s) (t := t) (y := yy) (W := W) (N := N) (K := K) (k := k) ((F1 123 24 rfl).trans s2) (by rw [f1]; exact s3) ((F1 123 25 rfl).trans t2) (by rw [f1]; exact t3) ((F1 123 26 rfl).trans y2) y3 (by rw [f1]; exact hW2) (by rw [f21]; exact hN2) W1 (by rw [f1]; exact hKK) (by rw [F1 48 4 rfl]; exact hk)
        have efs : (fun l : Nat => woV W N (lvl n (px_up g 49 k (l : Int)) s t yy)) = fun l : Nat => woV W N (lvl n (px_up h 49 k (l : Int)) s t yy) := funext fun l => by
          rw [lvl_e (h := px_up h 49 k (l : Int)) (fun a q1 q2 => by
            funext b
            rw [px_up_cell _ _ _ _ (by omega), px_up_cell _ _ _ _ (by omega), Fr_st hn F1 rfl a q1 q2]) (up_same (fun i _ => F1 49 i rfl) _) (funext fun b => F1 50 b rfl) (F1 48 3 rfl) (F1 48 4 rfl) (F1 48 6 rfl) s t yy]
        rw [efs] at m1
        have hLg := R_hasLine LCg.2.1 LCg.2.2.1
        rw [f1] at hLg
        have w0 : g 125 2 = h (n + 1) 2 := (F1 125 2 rfl).trans c2.1
        have w5 : g 125 5 = (K : Int) := (F1 125 5 rfl).trans (c5.1.trans hKK)
        have eC : px_R (mm_Tin_bestLoop, 0, [(2, 1), (0, (k : Int))], [], (K0, h)) = some ((bst (fun l => woV W N (lvl n (px_up h 49 k (l : Int)) s t yy)) K).2, (K0, g)) := by
          rw [eq_Tin_bestLoop_0]
          simp only [px_rd_mk, px_wr_mk, Int.reduceToNat, Int.toNat_natCast, if_true, if_false, Option.bind_some, px_up_cell, px_up_slot, px_up_eq, ne_eq, Nat.reduceEqDiff, not_false_eq_true, Int.reduceEq, Int.reduceLT, Int.reduceLE, Int.reduceNeg, decide_true, decide_false, Bool.and_true, Bool.true_and, Bool.and_false, Bool.false_and, and_self, and_true, true_and, and_false, false_and, bi_T, bi_F, not_true_eq_false, Bool.false_eq_true, kg_1, kg_48, ka_49, ir_1_0 hI, ir_1_1 hI, ir_1_2 hI, ir_1_3 hI, ir_1_4 hI, ir_1_5 hI, ir_1_6 hI, ir_1_7 hI, ir_48_5 hI, ir_48_7 hI, px_w_n uq, R_Tin_within, bi_t hx, R_lineLacks hn h8 hI, bi_f hc, h8, sgo hn, sr1 hn hI, sga1 hn, hw0, gk, e1]
        by_cases k0 : K = 0
        · have k00 : ((K : Int) = 0) = True := eq_true (by omega)
          have F := F1
          refine ⟨(bst (fun l => woV W N (lvl n (px_up h 49 k (l : Int)) s t yy)) K).2, g, g, eC, ?_, ⟨n, SP_F F rfl ⟨hn, h8, h9⟩, IR_Fr hI F (by decide), TP_F F rfl hT, FK_F F rfl hK, ST_F hn F rfl hS, LI_F hn F rfl hL, RW_F F rfl hR, CR_F F rfl hC, KS_F F rfl hKs, WI_F hn F rfl hW, BK_F hn F rfl hB⟩⟩
          rw [eq_Mod_bestLoop_0]
          simp only [px_rd_mk, px_wr_mk, Int.reduceToNat, Int.toNat_natCast, if_true, if_false, Option.bind_some, px_up_cell, px_up_slot, px_up_eq, ne_eq, Nat.reduceEqDiff, not_false_eq_true, Int.reduceEq, Int.reduceLT, Int.reduceLE, Int.reduceNeg, decide_true, decide_false, Bool.and_true, Bool.true_and, Bool.and_false, Bool.false_and, and_self, and_true, true_and, and_false, false_and, bi_T, bi_F, not_true_eq_false, Bool.false_eq_true, kg_123, ka_125, ka_135, (F1 123 28 rfl).trans l4.1, px_w_n uq, R_Mod_in, bi_t hx, hLg, bi_t hc2, ir_123_0 LCg.2.1, ir_123_12 LCg.2.1, ir_123_13 LCg.2.1, ir_123_14 LCg.2.1, ir_123_15 LCg.2.1, ir_123_16 LCg.2.1, ir_123_17 LCg.2.1, ir_123_18 LCg.2.1, ir_123_19 LCg.2.1, ir_123_20 LCg.2.1, ir_123_21 LCg.2.1, ir_123_30 LCg.2.1, ir_123_31 LCg.2.1, ir_123_32 LCg.2.1, ir_123_33 LCg.2.1, ir_123_34 LCg.2.1, ir_123_35 LCg.2.1, ir_123_36 LCg.2.1, ir_123_37 LCg.2.1, ir_123_38 LCg.2.1, ir_123_39 LCg.2.1, ir_123_41 LCg.2.1, ir_123_42 LCg.2.1, ir_123_44 LCg.2.1, ir_123_45 LCg.2.1, ir_123_46 LCg.2.1, ir_123_50 LCg.2.1, ir_123_54 LCg.2.1, ir_123_55 LCg.2.1, ir_123_56 LCg.2.1, ir_123_57 LCg.2.1, ir_123_58 LCg.2.1, ir_123_59 LCg.2.1, ir_123_60 LCg.2.1, ir_123_61 LCg.2.1, ir_123_62 LCg.2.1, w0, hw0, w5, k00]
          rw [k0]
          rfl
        · have k00 : ((K : Int) = 0) = False := eq_false (by omega)
          have F : Fr (xcs ++ [137, 138, 139]) [(51, 0), (51, 1), (51, 5)] h j := Fr_sub (Fr_tr F1 G1) rfl rfl
          refine ⟨(bst (fun l => woV W N (lvl n (px_up h 49 k (l : Int)) s t yy)) K).2, g, j, eC, ?_, ⟨n, SP_F F rfl ⟨hn, h8, h9⟩, IR_Fr hI F (by decide), TP_F F rfl hT, FK_F F rfl hK, ST_F hn F rfl hS, LI_F hn F rfl hL, RW_F F rfl hR, CR_F F rfl hC, KS_F F rfl hKs, WI_F hn F rfl hW, BK_F hn F rfl hB⟩⟩
          rw [eq_Mod_bestLoop_0]
          simp only [px_rd_mk, px_wr_mk, Int.reduceToNat, Int.toNat_natCast, if_true, if_false, Option.bind_some, px_up_cell, px_up_slot, px_up_eq, ne_eq, Nat.reduceEqDiff, not_false_eq_true, Int.reduceEq, Int.reduceLT, Int.reduceLE, Int.reduceNeg, decide_true, decide_false, Bool.and_true, Bool.true_and, Bool.and_false, Bool.false_and, and_self, and_true, true_and, and_false, false_and, bi_T, bi_F, not_true_eq_false, Bool.false_eq_true, kg_123, ka_125, ka_135, (F1 123 28 rfl).trans l4.1, px_w_n uq, R_Mod_in, bi_t hx, hLg, bi_t hc2, ir_123_0 LCg.2.1, ir_123_12 LCg.2.1, ir_123_13 LCg.2.1, ir_123_14 LCg.2.1, ir_123_15 LCg.2.1, ir_123_16 LCg.2.1, ir_123_17 LCg.2.1, ir_123_18 LCg.2.1, ir_123_19 LCg.2.1, ir_123_20 LCg.2.1, ir_123_21 LCg.2.1, ir_123_30 LCg.2.1, ir_123_31 LCg.2.1, ir_123_32 LCg.2.1, ir_123_33 LCg.2.1, ir_123_34 LCg.2.1, ir_123_35 LCg.2.1, ir_123_36 LCg.2.1, ir_123_37 LCg.2.1, ir_123_38 LCg.2.1, ir_123_39 LCg.2.1, ir_123_41 LCg.2.1, ir_123_42 LCg.2.1, ir_123_44 LCg.2.1, ir_123_45 LCg.2.1, ir_123_46 LCg.2.1, ir_123_50 LCg.2.1, ir_123_54 LCg.2.1, ir_123_55 LCg.2.1, ir_123_56 LCg.2.1, ir_123_57 LCg.2.1, ir_123_58 LCg.2.1, ir_123_59 LCg.2.1, ir_123_60 LCg.2.1, ir_123_61 LCg.2.1, ir_123_62 LCg.2.1, w0, hw0, w5, k00, gk, m1]
  · refine AL_same C (-2) ?_ ?_
    · rw [eq_Tin_bestLoop_0]
      simp only [px_rd_mk, px_wr_mk, Int.reduceToNat, Int.toNat_natCast, if_true, if_false, Option.bind_some, px_up_cell, px_up_slot, px_up_eq, ne_eq, Nat.reduceEqDiff, not_false_eq_true, Int.reduceEq, Int.reduceLT, Int.reduceLE, Int.reduceNeg, decide_true, decide_false, Bool.and_true, Bool.true_and, Bool.and_false, Bool.false_and, and_self, and_true, true_and, and_false, false_and, bi_T, bi_F, not_true_eq_false, Bool.false_eq_true, kg_1, kg_48, ir_1_0 hI, ir_1_1 hI, ir_1_2 hI, ir_1_3 hI, ir_1_4 hI, ir_1_5 hI, ir_1_6 hI, ir_1_7 hI, px_w_n uq, R_Tin_within, bi_f hx]
    · rw [eq_Mod_bestLoop_0]
      simp only [px_rd_mk, px_wr_mk, Int.reduceToNat, Int.toNat_natCast, if_true, if_false, Option.bind_some, px_up_cell, px_up_slot, px_up_eq, ne_eq, Nat.reduceEqDiff, not_false_eq_true, Int.reduceEq, Int.reduceLT, Int.reduceLE, Int.reduceNeg, decide_true, decide_false, Bool.and_true, Bool.true_and, Bool.and_false, Bool.false_and, and_self, and_true, true_and, and_false, false_and, bi_T, bi_F, not_true_eq_false, Bool.false_eq_true, kg_123, l4.1, px_w_n uq, R_Mod_in, bi_f hx]
