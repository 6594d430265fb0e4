/-! Taps together. -/
def cnt (f : Nat → Int) (a : Nat) : Nat → Int → Nat
  | 0, _ => 0
  | k + 1, v => cnt f a k v + if f (a + k) = v then 1 else 0
theorem cnt_ex {f : Nat → Int} {a : Nat} {v : Int} : ∀ k : Nat, 0 < cnt f a k v ↔ ∃ q, a ≤ q ∧ q < a + k ∧ f q = v
  | 0 => ⟨fun h => absurd h (by unfold cnt; omega), fun ⟨q, h1, h2, _⟩ => by omega⟩
  | k + 1 => by
    have ih := cnt_ex (f := f) (a := a) (v := v) k
    rw [cnt]
    constructor
    · intro h
      by_cases e : f (a + k) = v
      · exact ⟨a + k, by omega, by omega, e⟩
      · rw [if_neg e] at h
        obtain ⟨q, h1, h2, h3⟩ := ih.mp h
        exact ⟨q, h1, by omega, h3⟩
    · rintro ⟨q, h1, h2, h3⟩
      by_cases e : q = a + k
      · rw [if_pos (by rw [← e]; exact h3)]; omega
      · have := ih.mpr ⟨q, h1, by omega, h3⟩
        omega
theorem cnt_c {f g : Nat → Int} {a : Nat} {v : Int} : ∀ k : Nat, (∀ q, a ≤ q → q < a + k → g q = f q) → cnt g a k v = cnt f a k v
  | 0, _ => rfl
  | k + 1, h => by
    rw [cnt, cnt, cnt_c k (fun q h1 h2 => h q h1 (by omega)), h (a + k) (by omega) (by omega)]
theorem cnt_up {f g : Nat → Int} {a j : Nat} {w v : Int} (hj : a ≤ j) (hw : g j = w) (ho : ∀ q, ¬ q = j → g q = f q) : ∀ k : Nat, j < a + k → cnt g a k v + (if f j = v then 1 else 0) = cnt f a k v + if w = v then 1 else 0
  | 0, h => by omega
  | k + 1, h => by
    rw [cnt, cnt]
    by_cases e : j = a + k
    · rw [cnt_c (f := f) (g := g) k (fun q h1 h2 => ho q (by omega)), ← e, hw]
      omega
    · have ih := cnt_up (f := f) (g := g) (v := v) hj hw ho k (by omega)
      rw [ho (a + k) (by omega)]
      omega
theorem cnt_left {f : Nat → Int} {a : Nat} {v : Int} : ∀ k : Nat, cnt f a (k + 1) v = (if f a = v then 1 else 0) + cnt f (a + 1) k v
  | 0 => by rw [cnt, cnt, cnt]; rw [Nat.add_zero, Nat.add_zero, Nat.zero_add]
  | k + 1 => by
    rw [cnt, cnt_left k, cnt, show a + 1 + k = a + (k + 1) by omega]
    omega
theorem cnt_swap {f : Nat → Int} {h : hp} {a i j k : Nat} (hf : f = h 122) (v : Int) (hi : a ≤ i) (hi2 : i < a + k) (hj : a ≤ j) (hj2 : j < a + k) (hij : ¬ i = j) : cnt ((px_up (px_up h 122 i (h 122 j)) 122 j (h 122 i)) 122) a k v = cnt f a k v := by
  have e1 := cnt_up (f := f) (g := (px_up h 122 i (h 122 j)) 122) (a := a) (j := i) (w := h 122 j) (v := v) hi (px_up_eq _ _ _ _) (fun q hq => by rw [px_up_at, if_neg hq, hf]) k hi2
  have e2 := cnt_up (f := (px_up h 122 i (h 122 j)) 122) (g := (px_up (px_up h 122 i (h 122 j)) 122 j (h 122 i)) 122) (a := a) (j := j) (w := h 122 i) (v := v) hj (px_up_eq _ _ _ _) (fun q hq => by rw [px_up_at, if_neg hq]) k hj2
  have uj : (px_up h 122 i (h 122 j)) 122 j = h 122 j := by
    rw [px_up_at]
    split <;> rfl
  rw [uj] at e2
  rw [hf] at e1 ⊢
  omega
theorem tog_in {n x3 : Nat} (hn : n ≤ 16) (x2 : Int) (m : Nat) : ∀ (x4 : Nat) (g : hp) (y5 : pv), x4 + m = n → x3 < x4 → (∀ q, x3 ≤ q → q < x4 → g 122 q ≤ g 122 x3) → ∃ (g2 : hp) (z5 : pv), px_R (mm_Taps_together, 14, [(2, 122), (0, (n : Int)), (0, x2), (0, (x3 : Int)), (0, (x4 : Int)), y5], [], (K0, g)) = px_R (mm_Taps_together, 14, [(2, 122), (0, (n : Int)), (0, x2), (0, (x3 : Int)), (0, (n : Int)), z5], [], (K0, g2)) ∧ Fr [122] [] g g2 ∧ (∀ v, cnt (g2 122) x3 (n - x3) v = cnt (g 122) x3 (n - x3) v) ∧ ∀ q, x3 ≤ q → q < n → g2 122 q ≤ g2 122 x3 := by
  induction m with
  | zero =>
    intro x4 g y5 h4 h3 V
    have : x4 = n := h4
    subst this
    exact ⟨g, y5, rfl, Fr_rf _ _ _, fun _ => rfl, V⟩
  | succ m ih =>
    intro x4 g y5 h4 h3 V
    have hlt : ((x4 : Int) < (n : Int)) = True := eq_true (by omega)
    have g3 : (decide ((0 : Int) ≤ (x3 : Int)) && decide ((x3 : Int) < 16)) = true := gd_ok (by omega)
    have g4 : (decide ((0 : Int) ≤ (x4 : Int)) && decide ((x4 : Int) < 16)) = true := gd_ok (by omega)
    by_cases c : g 122 x3 < g 122 x4
    · have c1 := eq_true c
      have F1 : Fr [122] [] g (px_up (px_up g 122 x3 (g 122 x4)) 122 x4 (g 122 x3)) := Fr_up (Fr_up (Fr_rf _ _ _) _ rfl) _ rfl
      obtain ⟨g2, z5, r1, r2, r3, r4⟩ := ih (x4 + 1) (px_up (px_up g 122 x3 (g 122 x4)) 122 x4 (g 122 x3)) (0, g 122 x3) (by omega) (by omega) (fun q h1 h2 => by
        rw [px_up_at _ 122 x4 _ x3, if_neg (by omega), px_up_eq, px_up_at]
        by_cases e : q = x4
        · rw [if_pos e]; omega
        · rw [if_neg e, px_up_at]
          by_cases e2 : q = x3
          · rw [if_pos e2]; omega
          · rw [if_neg e2]
            have := V q h1 (by omega)
            omega)
      refine ⟨g2, z5, ?_, Fr_tr2 F1 r2, fun v => (r3 v).trans (cnt_swap rfl v (Nat.le_refl _) (by omega) (by omega) (by omega) (by omega)), r4⟩
      rw [eq_Taps_together_14]
      simp only [px_rd_mk, px_wr_mk, Int.reduceToNat, Int.toNat_natCast, if_true, if_false, Option.bind_some, px_up_cell, px_up_slot, px_up_eq, ne_eq, Nat.reduceEqDiff, not_false_eq_true, Int.reduceEq, Int.reduceLT, Int.reduceLE, Int.reduceNeg, decide_true, decide_false, Bool.and_true, Bool.true_and, Bool.and_false, Bool.false_and, and_self, and_true, true_and, and_false, false_and, bi_T, bi_F, not_true_eq_false, Bool.false_eq_true, ka_122, hlt, g3, g4, c1, px_w_s (show x4 < 1000000 by omega)]
      exact r1
    · have c1 := eq_false c
      obtain ⟨g2, z5, r1, r2, r3, r4⟩ := ih (x4 + 1) g y5 (by omega) (by omega) (fun q h1 h2 => by
        by_cases e : q = x4
        · rw [e]; omega
        · exact V q h1 (by omega))
      refine ⟨g2, z5, ?_, r2, r3, r4⟩
      rw [eq_Taps_together_14]
      simp only [px_rd_mk, px_wr_mk, Int.reduceToNat, Int.toNat_natCast, if_true, if_false, Option.bind_some, px_up_cell, px_up_slot, px_up_eq, ne_eq, Nat.reduceEqDiff, not_false_eq_true, Int.reduceEq, Int.reduceLT, Int.reduceLE, Int.reduceNeg, decide_true, decide_false, Bool.and_true, Bool.true_and, Bool.and_false, Bool.false_and, and_self, and_true, true_and, and_false, false_and, bi_T, bi_F, not_true_eq_false, Bool.false_eq_true, ka_122, hlt, g3, g4, c1, px_w_s (show x4 < 1000000 by omega)]
      exact r1
theorem mtap_in {n : Nat} (hn : n ≤ 16) {k : hp} (kI : IR k) (x2 x3 : Int) (m : Nat) : ∀ (j x5 : Nat), x5 + m = n → j < x5 → (∀ q, q < x5 → k 150 q ≤ k 150 j) → ∃ j2 : Nat, j2 < n ∧ (∀ q, q < n → k 150 q ≤ k 150 j2) ∧ px_R (mm_Mod_taps, 36, [(2, 123), (0, (n : Int)), (0, x2), (0, x3), (0, (j : Int)), (0, (x5 : Int))], [], (K0, k)) = px_R (mm_Mod_taps, 36, [(2, 123), (0, (n : Int)), (0, x2), (0, x3), (0, (j2 : Int)), (0, (n : Int))], [], (K0, k)) := by
  induction m with
  | zero =>
    intro j x5 h5 hj V
    have : x5 = n := h5
    subst this
    exact ⟨j, hj, V, rfl⟩
  | succ m ih =>
    intro j x5 h5 hj V
    have hlt : ((x5 : Int) < (n : Int)) = True := eq_true (by omega)
    have gj : (decide ((0 : Int) ≤ (j : Int)) && decide ((j : Int) < 16)) = true := gd_ok (by omega)
    have g5 : (decide ((0 : Int) ≤ (x5 : Int)) && decide ((x5 : Int) < 16)) = true := gd_ok (by omega)
    by_cases c : k 150 j < k 150 x5
    · have c1 := eq_true c
      obtain ⟨j2, q1, q2, q3⟩ := ih x5 (x5 + 1) (by omega) (by omega) (fun q hq => by
        by_cases e : q = x5
        · rw [e]; omega
        · have := V q (by omega)
          omega)
      refine ⟨j2, q1, q2, ?_⟩
      rw [eq_Mod_taps_36]
      simp only [px_rd_mk, px_wr_mk, Int.reduceToNat, Int.toNat_natCast, if_true, if_false, Option.bind_some, px_up_cell, px_up_slot, px_up_eq, ne_eq, Nat.reduceEqDiff, not_false_eq_true, Int.reduceEq, Int.reduceLT, Int.reduceLE, Int.reduceNeg, decide_true, decide_false, Bool.and_true, Bool.true_and, Bool.and_false, Bool.false_and, and_self, and_true, true_and, and_false, false_and, bi_T, bi_F, not_true_eq_false, Bool.false_eq_true, kg_123, ka_150, hlt, ir_123_0 kI, ir_123_12 kI, ir_123_13 kI, ir_123_14 kI, ir_123_15 kI, ir_123_16 kI, ir_123_17 kI, ir_123_18 kI, ir_123_19 kI, ir_123_20 kI, ir_123_21 kI, ir_123_30 kI, ir_123_31 kI, ir_123_32 kI, ir_123_33 kI, ir_123_34 kI, ir_123_35 kI, ir_123_36 kI, ir_123_37 kI, ir_123_38 kI, ir_123_39 kI, ir_123_41 kI, ir_123_42 kI, ir_123_44 kI, ir_123_45 kI, ir_123_46 kI, ir_123_50 kI, ir_123_54 kI, ir_123_55 kI, ir_123_56 kI, ir_123_57 kI, ir_123_58 kI, ir_123_59 kI, ir_123_60 kI, ir_123_61 kI, ir_123_62 kI, gj, g5, c1, px_w_s (show x5 < 1000000 by omega)]
      exact q3
    · have c1 := eq_false c
      obtain ⟨j2, q1, q2, q3⟩ := ih j (x5 + 1) (by omega) (by omega) (fun q hq => by
        by_cases e : q = x5
        · rw [e]; omega
        · exact V q (by omega))
      refine ⟨j2, q1, q2, ?_⟩
      rw [eq_Mod_taps_36]
      simp only [px_rd_mk, px_wr_mk, Int.reduceToNat, Int.toNat_natCast, if_true, if_false, Option.bind_some, px_up_cell, px_up_slot, px_up_eq, ne_eq, Nat.reduceEqDiff, not_false_eq_true, Int.reduceEq, Int.reduceLT, Int.reduceLE, Int.reduceNeg, decide_true, decide_false, Bool.and_true, Bool.true_and, Bool.and_false, Bool.false_and, and_self, and_true, true_and, and_false, false_and, bi_T, bi_F, not_true_eq_false, Bool.false_eq_true, kg_123, ka_150, hlt, ir_123_0 kI, ir_123_12 kI, ir_123_13 kI, ir_123_14 kI, ir_123_15 kI, ir_123_16 kI, ir_123_17 kI, ir_123_18 kI, ir_123_19 kI, ir_123_20 kI, ir_123_21 kI, ir_123_30 kI, ir_123_31 kI, ir_123_32 kI, ir_123_33 kI, ir_123_34 kI, ir_123_35 kI, ir_123_36 kI, ir_123_37 kI, ir_123_38 kI, ir_123_39 kI, ir_123_41 kI, ir_123_42 kI, ir_123_44 kI, ir_123_45 kI, ir_123_46 kI, ir_123_50 kI, ir_123_54 kI, ir_123_55 kI, ir_123_56 kI, ir_123_57 kI, ir_123_58 kI, ir_123_59 kI, ir_123_60 kI, ir_123_61 kI, ir_123_62 kI, gj, g5, c1, px_w_s (show x5 < 1000000 by omega)]
      exact q3
theorem tog_ok {n : Nat} (hn : n ≤ 16) (m : Nat) : ∀ (x3 : Nat) (x2 : Int) (g k : hp) (y4 y5 z4 z5 : pv), x3 + m = n → IR k → (∀ q, x3 ≤ q → q < n → 0 ≤ g 122 q) → (∀ v : Int, 0 ≤ v → cnt (g 122) x3 (n - x3) v = cnt (k 150) 0 n v) → ∃ (v : Int) (g2 k2 : hp), px_R (mm_Taps_together, 4, [(2, 122), (0, (n : Int)), (0, x2), (0, (x3 : Int)), y4, y5], [], (K0, g)) = some (v, (K0, g2)) ∧ px_R (mm_Mod_taps, 25, [(2, 123), (0, (n : Int)), (0, x2), (0, (x3 : Int)), z4, z5], [], (K0, k)) = some (v, (K0, k2)) ∧ Fr [122] [] g g2 ∧ Fr [150] [(123, 47), (123, 48), (123, 49)] k k2 := by
  induction m with
  | zero =>
    intro x3 x2 g k y4 y5 z4 z5 h3 kI P V
    have : x3 = n := h3
    subst this
    exact ⟨x2, g, k, by rw [eq_Taps_together_4, if_neg (Int.lt_irrefl _)], by rw [eq_Mod_taps_25, if_neg (Int.lt_irrefl _)], Fr_rf _ _ _, Fr_rf _ _ _⟩
  | succ m ih =>
    intro x3 x2 g k y4 y5 z4 z5 h3 kI P V
    have hlt : ((x3 : Int) < (n : Int)) = True := eq_true (by omega)
    obtain ⟨g1, w5, r1, r2, r3, r4⟩ := tog_in (x3 := x3) hn x2 (n - (x3 + 1)) (x3 + 1) g y5 (by omega) (by omega) (fun q h1 h2 => by
      have : q = x3 := by omega
      rw [this]; exact Int.le_refl _)
    obtain ⟨j, j1, j2, j3⟩ := mtap_in hn kI x2 (x3 : Int) (n - 1) 0 1 (by omega) (by omega) (fun q hq => by
      have : q = 0 := by omega
      rw [this]; exact Int.le_refl _)
    have P1 : ∀ q, x3 ≤ q → q < n → 0 ≤ g1 122 q := fun q h1 h2 => by
      have a := (cnt_ex (f := g1 122) (a := x3) (v := g1 122 q) (n - x3)).mpr ⟨q, h1, by omega, rfl⟩
      rw [r3] at a
      obtain ⟨p, p1, p2, p3⟩ := (cnt_ex _).mp a
      rw [← p3]
      exact P p p1 (by omega)
    have mx : g1 122 x3 = k 150 j := by
      have a := (cnt_ex (f := g1 122) (a := x3) (v := g1 122 x3) (n - x3)).mpr ⟨x3, Nat.le_refl _, by omega, rfl⟩
      have p0 := P1 x3 (Nat.le_refl _) (by omega)
      rw [r3, V _ p0] at a
      obtain ⟨p, p1, p2, p3⟩ := (cnt_ex _).mp a
      have l1 := j2 p (by omega)
      have b := (cnt_ex (f := k 150) (a := 0) (v := k 150 j) n).mpr ⟨j, by omega, by omega, rfl⟩
      rw [← V _ (by omega), ← r3] at b
      obtain ⟨q, q1, q2, q3⟩ := (cnt_ex _).mp b
      have l2 := r4 q q1 (by omega)
      omega
    obtain ⟨a, b, c, kk, t1, t2, t3⟩ := tap_ok (k := x3) (by omega) k (K0, g1)
    obtain ⟨tF, t47, _, _⟩ := t3
    have kkI := IR_Fr kI tF (by decide)
    have K1 : Fr [150] [(123, 47), (123, 48), (123, 49)] k (px_up kk 150 j (-1)) := Fr_up (Fr_sub tF rfl rfl) _ rfl
    have kv : kk 150 j = g1 122 x3 := (tF 150 j rfl).trans mx.symm
    obtain ⟨v, g2, k2, s1, s2, s3, s4⟩ := ih (x3 + 1) (px_w (x2 + px_w (g1 122 x3 * a))) g1 (px_up kk 150 j (-1)) (0, (n : Int)) w5 (0, (j : Int)) (0, (n : Int)) (by omega) (IR_Fr kI K1 (by decide)) (fun q h1 h2 => P1 q (by omega) h2) (fun v hv => by
      have e1 := cnt_left (f := g1 122) (a := x3) (v := v) (n - (x3 + 1))
      have e2 := cnt_up (f := k 150) (g := (px_up kk 150 j (-1)) 150) (a := 0) (j := j) (w := -1) (v := v) (Nat.zero_le _) (px_up_eq _ _ _ _) (fun q hq => by rw [px_up_at, if_neg hq]; exact tF 150 q rfl) n (by omega)
      have e3 := r3 v
      have e4 := V v hv
      rw [show n - (x3 + 1) + 1 = n - x3 by omega, mx] at e1
      rw [if_neg (show ¬ (-1 : Int) = v by omega)] at e2
      omega)
    have g3 : (decide ((0 : Int) ≤ (x3 : Int)) && decide ((x3 : Int) < 16)) = true := gd_ok (by omega)
    have gj : (decide ((0 : Int) ≤ (j : Int)) && decide ((j : Int) < 16)) = true := gd_ok (by omega)
    refine ⟨v, g2, k2, ?_, ?_, Fr_tr2 r2 s3, Fr_tr2 K1 s4⟩
    · rw [eq_Taps_together_4]
      simp only [px_rd_mk, px_wr_mk, Int.reduceToNat, Int.toNat_natCast, if_true, if_false, Option.bind_some, px_up_cell, px_up_slot, px_up_eq, ne_eq, Nat.reduceEqDiff, not_false_eq_true, Int.reduceEq, Int.reduceLT, Int.reduceLE, Int.reduceNeg, decide_true, decide_false, Bool.and_true, Bool.true_and, Bool.and_false, Bool.false_and, and_self, and_true, true_and, and_false, false_and, bi_T, bi_F, not_true_eq_false, Bool.false_eq_true, hlt, px_w_s (show x3 < 1000000 by omega), r1]
      rw [eq_Taps_together_14]
      simp only [px_rd_mk, px_wr_mk, Int.reduceToNat, Int.toNat_natCast, if_true, if_false, Option.bind_some, px_up_cell, px_up_slot, px_up_eq, ne_eq, Nat.reduceEqDiff, not_false_eq_true, Int.reduceEq, Int.reduceLT, Int.reduceLE, Int.reduceNeg, decide_true, decide_false, Bool.and_true, Bool.true_and, Bool.and_false, Bool.false_and, and_self, and_true, true_and, and_false, false_and, bi_T, bi_F, not_true_eq_false, Bool.false_eq_true, ka_122, Int.lt_irrefl, t1.1, g3, px_w_s (show x3 < 1000000 by omega)]
      exact s1
    · have j3 : px_R (mm_Mod_taps, 36, [(2, 123), (0, (n : Int)), (0, x2), (0, (x3 : Int)), (0, 0), (0, 1)], [], (K0, k)) = _ := j3
      rw [eq_Mod_taps_25]
      simp only [px_rd_mk, px_wr_mk, Int.reduceToNat, Int.toNat_natCast, if_true, if_false, Option.bind_some, px_up_cell, px_up_slot, px_up_eq, ne_eq, Nat.reduceEqDiff, not_false_eq_true, Int.reduceEq, Int.reduceLT, Int.reduceLE, Int.reduceNeg, decide_true, decide_false, Bool.and_true, Bool.true_and, Bool.and_false, Bool.false_and, and_self, and_true, true_and, and_false, false_and, bi_T, bi_F, not_true_eq_false, Bool.false_eq_true, hlt, j3]
      rw [eq_Mod_taps_36]
      simp only [px_rd_mk, px_wr_mk, Int.reduceToNat, Int.toNat_natCast, if_true, if_false, Option.bind_some, px_up_cell, px_up_slot, px_up_eq, ne_eq, Nat.reduceEqDiff, not_false_eq_true, Int.reduceEq, Int.reduceLT, Int.reduceLE, Int.reduceNeg, decide_true, decide_false, Bool.and_true, Bool.true_and, Bool.and_false, Bool.false_and, and_self, and_true, true_and, and_false, false_and, bi_T, bi_F, not_true_eq_false, Bool.false_eq_true, kg_123, ka_150, Int.lt_irrefl, t2, ir_123_0 kkI, ir_123_12 kkI, ir_123_13 kkI, ir_123_14 kkI, ir_123_15 kkI, ir_123_16 kkI, ir_123_17 kkI, ir_123_18 kkI, ir_123_19 kkI, ir_123_20 kkI, ir_123_21 kkI, ir_123_30 kkI, ir_123_31 kkI, ir_123_32 kkI, ir_123_33 kkI, ir_123_34 kkI, ir_123_35 kkI, ir_123_36 kkI, ir_123_37 kkI, ir_123_38 kkI, ir_123_39 kkI, ir_123_41 kkI, ir_123_42 kkI, ir_123_44 kkI, ir_123_45 kkI, ir_123_46 kkI, ir_123_50 kkI, ir_123_54 kkI, ir_123_55 kkI, ir_123_56 kkI, ir_123_57 kkI, ir_123_58 kkI, ir_123_59 kkI, ir_123_60 kkI, ir_123_61 kkI, ir_123_62 kkI, gj, t47, kv, px_w_s (show x3 < 1000000 by omega)]
      exact s2
theorem C_taps {h : hp} (C : CI h) : AL h mm_Tin_taps mm_Mod_taps [(2, 1), (9, 0)] [(2, 123), (9, 0), (9, 0), (9, 0), (9, 0), (9, 0)] := by
  have C2 := C
  obtain ⟨n, ⟨hn, h8, h9⟩, hI, hT, hK, hS, hL, hR, hC, hKs, hW, hB⟩ := C2
  obtain ⟨v, g, e1, G1, g1, nx⟩ := R_numb2_150 hI hT (cap := 16) (by decide) 9999
  have gI := IR_Fr hI G1 (by decide)
  have e1 : px_R (mm_Tape_readNumbers, 0, [(2, 2), (2, 122), (0, 16), (9, 0), (9, 0)], [], (K0, h)) = some (v, (K0, g)) := e1
  have fin2 : ∀ {j k k2 : hp}, Fr [122] [] g j → Fr [150] mss j k → k 123 1 = 0 → Fr [150] [(123, 47), (123, 48), (123, 49)] k k2 → CI k2 := fun {j k k2} F1 F2 k1 F3 => by
    have F : Fr [122, 150] (nss ++ (mss ++ [(123, 47), (123, 48), (123, 49)])) h k2 := Fr_sub (Fr_tr (Fr_tr (Fr_tr G1 F1) F2) F3) rfl rfl
    have z2 : k2 2 1 = 0 := (F3 2 1 rfl).trans ((F2 2 1 rfl).trans ((F1 2 1 rfl).trans g1))
    exact ⟨n, SP_F F rfl ⟨hn, h8, h9⟩, IR_Fr hI F (by decide), ⟨((F3 123 1 rfl).trans k1).trans z2.symm, by rw [z2]; omega, fun i => by rw [F 124 i rfl, F 3 i rfl]; exact hT.2.2 i⟩, FK_F F rfl hK, ST_F hn F rfl hS, LI_F hn F rfl hL, RW_F F rfl hR, CR_F F rfl hC, KS_F F rfl hKs, WI_F hn F rfl hW, BK_F hn F rfl hB⟩
  by_cases c : v < 1
  · obtain ⟨v2, k, q1, q2, q3, q4⟩ := nx g (Fr_rf _ _ _)
    have q1 : px_R (mm_Mod_readNumbers, 0, [(2, 123), (2, 150), (0, 16), (0, 9999), (9, 0)], [], (K0, g)) = some (v2, (K0, k)) := q1
    have c2 : v2 < 1 := by
      rcases q4 with ⟨_, r1⟩ | ⟨n, r1, r2, r3, ⟨r4, _⟩ | ⟨r4, _⟩⟩ <;> omega
    have cT := eq_true c
    have cT2 := eq_true c2
    refine ⟨-1, g, k, ?_, ?_, fin2 (Fr_rf _ _ _) q2 q3 (Fr_rf _ _ _)⟩
    · rw [eq_Tin_taps_0]
      simp only [px_rd_mk, px_wr_mk, Int.reduceToNat, Int.toNat_natCast, if_true, if_false, Option.bind_some, px_up_cell, px_up_slot, px_up_eq, ne_eq, Nat.reduceEqDiff, not_false_eq_true, Int.reduceEq, Int.reduceLT, Int.reduceLE, Int.reduceNeg, decide_true, decide_false, Bool.and_true, Bool.true_and, Bool.and_false, Bool.false_and, and_self, and_true, true_and, and_false, false_and, bi_T, bi_F, not_true_eq_false, Bool.false_eq_true, kg_1, kg_2, ir_1_0 hI, ir_1_1 hI, ir_1_2 hI, ir_1_3 hI, ir_1_4 hI, ir_1_5 hI, ir_1_6 hI, ir_1_7 hI, e1, cT]
    · rw [eq_Mod_taps_0]
      simp only [px_rd_mk, px_wr_mk, Int.reduceToNat, Int.toNat_natCast, if_true, if_false, Option.bind_some, px_up_cell, px_up_slot, px_up_eq, ne_eq, Nat.reduceEqDiff, not_false_eq_true, Int.reduceEq, Int.reduceLT, Int.reduceLE, Int.reduceNeg, decide_true, decide_false, Bool.and_true, Bool.true_and, Bool.and_false, Bool.false_and, and_self, and_true, true_and, and_false, false_and, bi_T, bi_F, not_true_eq_false, Bool.false_eq_true, kg_123, ir_123_0 gI, ir_123_12 gI, ir_123_13 gI, ir_123_14 gI, ir_123_15 gI, ir_123_16 gI, ir_123_17 gI, ir_123_18 gI, ir_123_19 gI, ir_123_20 gI, ir_123_21 gI, ir_123_30 gI, ir_123_31 gI, ir_123_32 gI, ir_123_33 gI, ir_123_34 gI, ir_123_35 gI, ir_123_36 gI, ir_123_37 gI, ir_123_38 gI, ir_123_39 gI, ir_123_41 gI, ir_123_42 gI, ir_123_44 gI, ir_123_45 gI, ir_123_46 gI, ir_123_50 gI, ir_123_54 gI, ir_123_55 gI, ir_123_56 gI, ir_123_57 gI, ir_123_58 gI, ir_123_59 gI, ir_123_60 gI, ir_123_61 gI, ir_123_62 gI, q1, cT2]
  · have cF := eq_false c
    have kI0 : Fr [150] [] g (fun a b => if a = 150 then g 122 b else g a b) := fun a b e => by
      by_cases z : a = 150
      · subst z; cases e
      · exact if_neg z
    obtain ⟨v2, k0, _, _, _, R0⟩ := nx g (Fr_rf _ _ _)
    have nn : ∃ n : Nat, n ≤ 16 ∧ v = (n : Int) ∧ ∀ q, q < n → 0 ≤ g 122 q ∧ g 122 q ≤ 9999 := by
      rcases R0 with ⟨r1, _⟩ | ⟨n, r1, r2, r3, _⟩
      · omega
      · exact ⟨n, r1, r2, r3⟩
    obtain ⟨n, n1, n2, n3⟩ := nn
    obtain ⟨u, j, _, s1, _, s3, _⟩ := tog_ok n1 n 0 0 g (fun a b => if a = 150 then g 122 b else g a b) (9, 0) (9, 0) (0, 0) (0, 0) (Nat.zero_add n) (IR_Fr gI kI0 (by decide)) (fun q _ h2 => (n3 q h2).1) (fun v _ => by
      rw [Nat.sub_zero]
      rfl)
    obtain ⟨v3, k, q1, q2, q3, q4⟩ := nx j s3
    have q1 : px_R (mm_Mod_readNumbers, 0, [(2, 123), (2, 150), (0, 16), (0, 9999), (9, 0)], [], (K0, j)) = some (v3, (K0, k)) := q1
    have jI := IR_Fr gI s3 (by decide)
    have kI := IR_Fr jI q2 (by decide)
    have q5 : v3 = (n : Int) ∧ ∀ q, q < n → k 150 q = g 122 q := by
      rcases q4 with ⟨r1, _⟩ | ⟨n', r1, r2, r3, ⟨r4, r5⟩ | ⟨r4, q, r5, r6⟩⟩
      · omega
      · exact ⟨by omega, fun q hq => (r5 q (by omega)).2⟩
      · have := r3 q r5
        omega
    obtain ⟨u2, j2, k2, t1, t2, _, t4⟩ := tog_ok n1 n 0 0 g k (9, 0) (9, 0) (9, 0) (9, 0) (Nat.zero_add n) kI (fun q _ h2 => (n3 q h2).1) (fun v _ => by
      rw [Nat.sub_zero]
      exact (cnt_c n (fun q _ h2 => q5.2 q (by omega))).symm)
    obtain ⟨rfl, rfl⟩ := some_i (s1.symm.trans t1)
    have s1 : px_R (mm_Taps_together, 4, [(2, 122), (0, (n : Int)), (0, 0), (0, 0), (9, 0), (9, 0)], [], (K0, g)) = _ := s1
    have t2 : px_R (mm_Mod_taps, 25, [(2, 123), (0, (n : Int)), (0, 0), (0, 0), (9, 0), (9, 0)], [], (K0, k)) = _ := t2
    have cF2 : (((n : Int)) < 1) = False := eq_false (by omega)
    refine ⟨u, j, k2, ?_, ?_, fin2 s3 q2 q3 t4⟩
    · rw [eq_Tin_taps_0]
      simp only [px_rd_mk, px_wr_mk, Int.reduceToNat, Int.toNat_natCast, if_true, if_false, Option.bind_some, px_up_cell, px_up_slot, px_up_eq, ne_eq, Nat.reduceEqDiff, not_false_eq_true, Int.reduceEq, Int.reduceLT, Int.reduceLE, Int.reduceNeg, decide_true, decide_false, Bool.and_true, Bool.true_and, Bool.and_false, Bool.false_and, and_self, and_true, true_and, and_false, false_and, bi_T, bi_F, not_true_eq_false, Bool.false_eq_true, kg_1, kg_2, ir_1_0 hI, ir_1_1 hI, ir_1_2 hI, ir_1_3 hI, ir_1_4 hI, ir_1_5 hI, ir_1_6 hI, ir_1_7 hI, ir_1_0 gI, ir_1_1 gI, ir_1_2 gI, ir_1_3 gI, ir_1_4 gI, ir_1_5 gI, ir_1_6 gI, ir_1_7 gI, e1, n2, cF2]
      rw [eq_Taps_together_0]
      simp only [px_rd_mk, px_wr_mk, Int.reduceToNat, Int.toNat_natCast, if_true, if_false, Option.bind_some, px_up_cell, px_up_slot, px_up_eq, ne_eq, Nat.reduceEqDiff, not_false_eq_true, Int.reduceEq, Int.reduceLT, Int.reduceLE, Int.reduceNeg, decide_true, decide_false, Bool.and_true, Bool.true_and, Bool.and_false, Bool.false_and, and_self, and_true, true_and, and_false, false_and, bi_T, bi_F, not_true_eq_false, Bool.false_eq_true, kg_1, ka_122, s1]
    · rw [eq_Mod_taps_0]
      simp only [px_rd_mk, px_wr_mk, Int.reduceToNat, Int.toNat_natCast, if_true, if_false, Option.bind_some, px_up_cell, px_up_slot, px_up_eq, ne_eq, Nat.reduceEqDiff, not_false_eq_true, Int.reduceEq, Int.reduceLT, Int.reduceLE, Int.reduceNeg, decide_true, decide_false, Bool.and_true, Bool.true_and, Bool.and_false, Bool.false_and, and_self, and_true, true_and, and_false, false_and, bi_T, bi_F, not_true_eq_false, Bool.false_eq_true, kg_123, ir_123_0 jI, ir_123_12 jI, ir_123_13 jI, ir_123_14 jI, ir_123_15 jI, ir_123_16 jI, ir_123_17 jI, ir_123_18 jI, ir_123_19 jI, ir_123_20 jI, ir_123_21 jI, ir_123_30 jI, ir_123_31 jI, ir_123_32 jI, ir_123_33 jI, ir_123_34 jI, ir_123_35 jI, ir_123_36 jI, ir_123_37 jI, ir_123_38 jI, ir_123_39 jI, ir_123_41 jI, ir_123_42 jI, ir_123_44 jI, ir_123_45 jI, ir_123_46 jI, ir_123_50 jI, ir_123_54 jI, ir_123_55 jI, ir_123_56 jI, ir_123_57 jI, ir_123_58 jI, ir_123_59 jI, ir_123_60 jI, ir_123_61 jI, ir_123_62 jI, q1, q5.1, cF2]
      exact t2
