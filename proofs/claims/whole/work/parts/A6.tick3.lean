/-! One tick of the reference's stretch: the second loop. -/
theorem prt_w {v q : Int} (hv : -999999 ≤ v ∧ v ≤ 999999) (hq : 0 ≤ q ∧ q ≤ 100) : px_w (Int.tdiv (px_w (v * q)) 100) = prt v q := by
  have h1 : v * q ≤ 999999 * 100 := Int.le_trans (Int.mul_le_mul_of_nonneg_right hv.2 hq.1) (Int.mul_le_mul_of_nonneg_left hq.2 (by decide))
  have h2 : -(999999 * 100) ≤ v * q := by
    have h3 : -999999 * q ≤ v * q := Int.mul_le_mul_of_nonneg_right hv.1 hq.1
    omega
  have h4 := prt_rng hv hq
  unfold prt at h4 ⊢
  rw [px_w_id (x := v * q) (by omega) (by omega), px_w_id (by omega) (by omega)]
theorem px_w_cn (c : Nat) {i : Nat} (hi : i < 40) (hc : c < 2147483600) : px_w ((c : Int) + (i : Int)) = ((c + i : Nat) : Int) := by
  rw [px_w_id (by omega) (by omega)]
  omega
theorem px_w_suc {i : Nat} (hi : i < 40) : px_w ((i : Int) + 1) = ((i + 1 : Nat) : Int) := by
  rw [px_w_id (by omega) (by omega)]
  omega
theorem px_w_pre {i : Nat} (h0 : 0 < i) (hi : i < 40) : px_w ((i : Int) - 1) = ((i - 1 : Nat) : Int) := by
  rw [px_w_id (by omega) (by omega)]
  omega
theorem tk2_step {g : hp} (hI : IR g) (H : RM g) {N i : Nat} (hN : g 140 0 = (N : Int)) (h2 : 2 ≤ N) (h40 : N ≤ 40) (hz : ∀ b, b < N → g 143 b = 0 ∧ g 144 b = 0) (hi : i < N) (y3 y4 y5 y6 : pv) : px_R (mm_Mod_tickOnce, 36, [(2, 123), (0, (N : Int)), (0, (i : Int)), y3, y4, y5, y6], [], (K0, tk2 g N i)) = px_R (mm_Mod_tickOnce, 36, [(2, 123), (0, (N : Int)), (0, ((i + 1 : Nat) : Int)), (0, g 140 (82 + i)), (0, g 140 (122 + i)), (0, g 140 (2 + i)), (0, g 140 (42 + i))], [], (K0, tk2 g N (i + 1))) := by
  obtain ⟨r1, r2, r3, r4, r5⟩ := H i (by omega)
  have b82 : (decide ((0 : Int) ≤ ((82 + i : Nat) : Int)) && decide (((82 + i : Nat) : Int) < 648)) = true := by simp; omega
  have b122 : (decide ((0 : Int) ≤ ((122 + i : Nat) : Int)) && decide (((122 + i : Nat) : Int) < 648)) = true := by simp; omega
  have b2 : (decide ((0 : Int) ≤ ((2 + i : Nat) : Int)) && decide (((2 + i : Nat) : Int) < 648)) = true := by simp; omega
  have b42 : (decide ((0 : Int) ≤ ((42 + i : Nat) : Int)) && decide (((42 + i : Nat) : Int) < 648)) = true := by simp; omega
  have hlt : ((i : Int) < (N : Int)) = True := by simp; omega
  have hc0 : i = 0 ∨ (0 < i ∧ i + 1 < N) ∨ (0 < i ∧ i + 1 = N) := by omega
  have hi4 : i - 1 < 40 := by omega
  have hi5 : i < 40 := by omega
  have hi6 : ¬ (i - 1 + 1 < i) := by omega
  have hi7 : ¬ (1 ≤ i + 1 ∧ i + 1 ≤ i ∧ i + 1 < N) := by omega
  have hz1 : i + 1 < N → g 143 (i + 1) = 0 := fun h => (hz _ h).1
  have hz2 : g 144 (i - 1) = 0 := (hz _ (by omega)).2
  have l1 : 0 ≤ g 140 (82 + i) ∧ g 140 (82 + i) ≤ 100 := by omega
  have l2 : 0 ≤ g 140 (122 + i) ∧ g 140 (122 + i) ≤ 100 := by omega
  have p1 := prt_rng r1 l1
  have p2 := prt_rng r1 l2
  have p3 := prt_rng r2 l1
  have p4 := prt_rng r2 l2
  have u1 : -2147483648 ≤ prt (g 140 (2 + i)) (g 140 (82 + i)) ∧ prt (g 140 (2 + i)) (g 140 (82 + i)) < 2147483648 := by omega
  have u2 : -2147483648 ≤ prt (g 140 (2 + i)) (g 140 (122 + i)) ∧ prt (g 140 (2 + i)) (g 140 (122 + i)) < 2147483648 := by omega
  have u3 : -2147483648 ≤ prt (g 140 (2 + i)) (g 140 (122 + i)) + prt (g 140 (42 + i)) (g 140 (82 + i)) ∧ prt (g 140 (2 + i)) (g 140 (122 + i)) + prt (g 140 (42 + i)) (g 140 (82 + i)) < 2147483648 := by omega
  have u4 : -2147483648 ≤ prt (g 140 (2 + i)) (g 140 (82 + i)) + prt (g 140 (42 + i)) (g 140 (122 + i)) ∧ prt (g 140 (2 + i)) (g 140 (82 + i)) + prt (g 140 (42 + i)) (g 140 (122 + i)) < 2147483648 := by omega
  have hj1 : i = 0 → ¬ (0 = 0 ∧ 0 < i) := by omega
  have hj2 : ¬ (0 = 1 ∧ i = N) := by omega
  have hj3 : ¬ (1 = 0 ∧ 0 < i) := by omega
  have hj4 : ¬ (1 = 1 ∧ i = N) := by omega
  have hj5 : i = 0 → i + 1 < N := by omega
  have hj6 : 1 < N := by omega
  have w82 : px_w (82 + (i : Int)) = ((82 + i : Nat) : Int) := px_w_cn 82 hi5 (by decide)
  have w122 : px_w (122 + (i : Int)) = ((122 + i : Nat) : Int) := px_w_cn 122 hi5 (by decide)
  have w2 : px_w (2 + (i : Int)) = ((2 + i : Nat) : Int) := px_w_cn 2 hi5 (by decide)
  have w42 : px_w (42 + (i : Int)) = ((42 + i : Nat) : Int) := px_w_cn 42 hi5 (by decide)
  have w3 : px_w ((i : Int) + 1) = ((i + 1 : Nat) : Int) := px_w_suc hi5
  have wm : 0 < i → px_w ((i : Int) - 1) = ((i - 1 : Nat) : Int) := fun h => px_w_pre h hi5
  have t1 := prt_w r1 l1
  have t2 := prt_w r1 l2
  have t3 := prt_w r2 l1
  have t4 := prt_w r2 l2
  have s1 : px_w (0 + prt (g 140 (2 + i)) (g 140 (82 + i))) = prt (g 140 (2 + i)) (g 140 (82 + i)) := by rw [Int.zero_add]; exact px_w_id u1.1 u1.2
  have s2 : px_w (0 + prt (g 140 (2 + i)) (g 140 (122 + i))) = prt (g 140 (2 + i)) (g 140 (122 + i)) := by rw [Int.zero_add]; exact px_w_id u2.1 u2.2
  have s3 : px_w (prt (g 140 (2 + i)) (g 140 (122 + i)) + prt (g 140 (42 + i)) (g 140 (82 + i))) = sLf g i := px_w_id u3.1 u3.2
  have s4 : px_w (prt (g 140 (2 + i)) (g 140 (82 + i)) + prt (g 140 (42 + i)) (g 140 (122 + i))) = sRt g i := px_w_id u4.1 u4.2
  have o : ∀ b, tk2 g N i 140 b = g 140 b := fun b => tk2_o g N i (by decide) (by decide) (by decide)
  have IW := tk2_IR hI N i
  have q35 := ir_123_35 IW
  have e143 : tk2 g N i 143 (i + 1) = g 143 (i + 1) := by rw [tk2_143, if_neg hi7]
  have e144 : tk2 g N i 144 (i - 1) = g 144 (i - 1) := by rw [tk2_144, if_neg hi6]
  have wz : i = 0 → px_w ((i : Int) - 1) = -1 := fun h => by subst h; rfl
  have e141a : i = 0 → tk2 g N i 141 0 = g 141 0 := fun h => by rw [tk2_141, if_neg (hj1 h), if_neg hj2]
  have e141b : tk2 g N i 141 1 = g 141 1 := by rw [tk2_141, if_neg hj3, if_neg hj4]
  have NW : tk2 g N i 140 0 = (N : Int) := (o 0).trans hN
  generalize hW : tk2 g N i = W at *
  rw [eq_Mod_tickOnce_36]
  simp only [px_rd_mk, kg_123, Int.reduceToNat, Int.toNat_natCast, q35, ka_140, w82, w122, w2, w42, b82, b122, b2, b42, hlt, o, if_true, w3, t1, t2, t3, t4]
  rcases hc0 with h0 | ⟨h0, h1⟩ | ⟨h0, h1⟩
  · have h1 := hj5 h0
    have c1 := toRight_n IW (i := i + 1) NW h1 h40 (prt (g 140 (2 + i)) (g 140 (82 + i)))
    rw [e143, hz1 h1, s1] at c1
    have IW1 := IR_cell IW (a := 143) (b := i + 1) (v := prt (g 140 (2 + i)) (g 140 (82 + i))) (by decide)
    have c2 := toLeft_e IW1 (prt (g 140 (2 + i)) (g 140 (122 + i)))
    rw [px_up_cell _ _ _ _ (by decide), e141a h0] at c2
    have IW2 := IR_cell IW1 (a := 141) (b := 0) (v := px_wl (g 141 0 + prt (g 140 (2 + i)) (g 140 (122 + i)))) (by decide)
    have c3 := toLeft_e IW2 (prt (g 140 (42 + i)) (g 140 (82 + i)))
    rw [px_up_eq] at c3
    have IW3 := IR_cell IW2 (a := 141) (b := 0) (v := px_wl (px_wl (g 141 0 + prt (g 140 (2 + i)) (g 140 (122 + i))) + prt (g 140 (42 + i)) (g 140 (82 + i)))) (by decide)
    have c4 := toRight_n IW3 (i := i + 1) NW h1 h40 (prt (g 140 (42 + i)) (g 140 (122 + i)))
    rw [px_up_cell _ _ _ _ (by decide), px_up_cell _ _ _ _ (by decide), px_up_eq, s4] at c4
    rw [wz h0]
    simp only [c1, c2, c3, c4, Option.bind_some, kg_123, if_true]
    rw [← hW]
    subst h0
    exact congrArg (fun z => px_R (mm_Mod_tickOnce, 36, [(2, 123), (0, (N : Int)), (0, ((0 + 1 : Nat) : Int)), (0, g 140 (82 + 0)), (0, g 140 (122 + 0)), (0, g 140 (2 + 0)), (0, g 140 (42 + 0))], [], (K0, z))) (tk2_fst g hj6 _ _)
  · have c1 := toRight_n IW (i := i + 1) NW h1 h40 (prt (g 140 (2 + i)) (g 140 (82 + i)))
    rw [e143, hz1 h1, s1] at c1
    have IW1 := IR_cell IW (a := 143) (b := i + 1) (v := prt (g 140 (2 + i)) (g 140 (82 + i))) (by decide)
    have c2 := toLeft_n IW1 hi4 (prt (g 140 (2 + i)) (g 140 (122 + i)))
    rw [px_up_cell _ _ _ _ (by decide), e144, hz2, s2] at c2
    have IW2 := IR_cell IW1 (a := 144) (b := i - 1) (v := prt (g 140 (2 + i)) (g 140 (122 + i))) (by decide)
    have c3 := toLeft_n IW2 hi4 (prt (g 140 (42 + i)) (g 140 (82 + i)))
    rw [px_up_eq, s3] at c3
    have IW3 := IR_cell IW2 (a := 144) (b := i - 1) (v := sLf g i) (by decide)
    have c4 := toRight_n IW3 (i := i + 1) NW h1 h40 (prt (g 140 (42 + i)) (g 140 (122 + i)))
    rw [px_up_cell _ _ _ _ (by decide), px_up_cell _ _ _ _ (by decide), px_up_eq, s4] at c4
    rw [wm h0]
    simp only [c1, c2, c3, c4, Option.bind_some, kg_123, if_true]
    rw [← hW, tk2_mid g h0 h1]
  · have ei : ((i + 1 : Nat) : Int) = (N : Int) := by rw [h1]
    have c1 := toRight_e IW NW (prt (g 140 (2 + i)) (g 140 (82 + i)))
    rw [e141b, ← ei] at c1
    have IW1 := IR_cell IW (a := 141) (b := 1) (v := px_wl (g 141 1 + prt (g 140 (2 + i)) (g 140 (82 + i)))) (by decide)
    have c2 := toLeft_n IW1 hi4 (prt (g 140 (2 + i)) (g 140 (122 + i)))
    rw [px_up_cell _ _ _ _ (by decide), e144, hz2, s2] at c2
    have IW2 := IR_cell IW1 (a := 144) (b := i - 1) (v := prt (g 140 (2 + i)) (g 140 (122 + i))) (by decide)
    have c3 := toLeft_n IW2 hi4 (prt (g 140 (42 + i)) (g 140 (82 + i)))
    rw [px_up_eq, s3] at c3
    have IW3 := IR_cell IW2 (a := 144) (b := i - 1) (v := sLf g i) (by decide)
    have c4 := toRight_e IW3 (N := N) NW (prt (g 140 (42 + i)) (g 140 (122 + i)))
    rw [px_up_cell _ _ _ _ (by decide), px_up_cell _ _ _ _ (by decide), px_up_eq, ← ei] at c4
    rw [wm h0]
    simp only [c1, c2, c3, c4, Option.bind_some, kg_123, if_true]
    rw [← hW, tk2_lst g h0 h1]
