/-! One tick of the reference's stretch: the second loop's end, the third loop. -/
theorem tk2_loop {g : hp} (hI : IR g) (H : RM g) {N : Nat} (hN : g 140 0 = (N : Int)) (h2 : 2 ≤ N) (h40 : N ≤ 40) (hz : ∀ b, b < N → g 143 b = 0 ∧ g 144 b = 0) (n : Nat) : ∀ (i : Nat), i + n = N → ∀ (y3 y4 y5 y6 : pv), ∃ z3 z4 z5 z6 : pv, px_R (mm_Mod_tickOnce, 36, [(2, 123), (0, (N : Int)), (0, (i : Int)), y3, y4, y5, y6], [], (K0, tk2 g N i)) = px_R (mm_Mod_tickOnce, 149, [(2, 123), (0, (N : Int)), (0, 0), z3, z4, z5, z6], [], (K0, tk2 g N N)) := by
  induction n with
  | zero =>
    intro i hi y3 y4 y5 y6
    have : i = N := hi
    subst this
    exact ⟨y3, y4, y5, y6, by rw [eq_Mod_tickOnce_36, if_neg (Int.lt_irrefl _)]⟩
  | succ n ih =>
    intro i hi y3 y4 y5 y6
    rw [tk2_step hI H hN h2 h40 hz (by omega)]
    exact ih (i + 1) (by omega) _ _ _ _
def tk3 (g : hp) (i : Nat) : hp := fun a b => if a = 140 ∧ 2 ≤ b ∧ b < 2 + i then clp (-999999) 999999 (g 143 (b - 2)) else if a = 140 ∧ 42 ≤ b ∧ b < 42 + i then clp (-999999) 999999 (g 144 (b - 42)) else g a b
theorem tk3_o (g : hp) (i : Nat) {a b : Nat} (h1 : a ≠ 140) : tk3 g i a b = g a b := by
  unfold tk3
  rw [if_neg (by omega), if_neg (by omega)]
theorem tk3_0 (g : hp) : tk3 g 0 = g := by
  funext a b
  unfold tk3
  rw [if_neg (by omega), if_neg (by omega)]
theorem tk3_s (g : hp) {i : Nat} (hi : i < 40) : px_up (px_up (tk3 g i) 140 (2 + i) (clp (-999999) 999999 (g 143 i))) 140 (42 + i) (clp (-999999) 999999 (g 144 i)) = tk3 g (i + 1) := by
  funext a b
  unfold px_up
  by_cases a1 : a = 140
  · subst a1
    by_cases b1 : b = 42 + i
    · subst b1
      unfold tk3
      rw [if_pos ⟨rfl, rfl⟩, if_neg (by omega), if_pos (by omega), show 42 + i - 42 = i by omega]
    · by_cases b2 : b = 2 + i
      · subst b2
        unfold tk3
        rw [if_neg (by omega), if_pos ⟨rfl, rfl⟩, if_pos (by omega), show 2 + i - 2 = i by omega]
      · rw [if_neg (by omega), if_neg (by omega)]
        unfold tk3
        by_cases c1 : 2 ≤ b ∧ b < 2 + i
        · rw [if_pos (by omega), if_pos (by omega)]
        · have d2 : ¬ (2 ≤ b ∧ b < 2 + (i + 1)) := by omega
          by_cases c2 : 42 ≤ b ∧ b < 42 + i
          · have d4 : 42 ≤ b ∧ b < 42 + (i + 1) := by omega
            rw [if_neg (fun q => c1 q.2), if_pos ⟨rfl, c2⟩, if_neg (fun q => d2 q.2), if_pos ⟨rfl, d4⟩]
          · have d4 : ¬ (42 ≤ b ∧ b < 42 + (i + 1)) := by omega
            rw [if_neg (fun q => c1 q.2), if_neg (fun q => c2 q.2), if_neg (fun q => d2 q.2), if_neg (fun q => d4 q.2)]
  · rw [if_neg (by omega), if_neg (by omega), tk3_o g i a1, tk3_o g (i + 1) a1]
theorem tk3_IR {g : hp} (H : IR g) (i : Nat) : IR (tk3 g i) := IR_cells H fun a b ha => tk3_o g i (by intro e; subst e; revert ha; decide)
theorem tk3_step {g : hp} (hI : IR g) {N i : Nat} (h40 : N ≤ 40) (hi : i < N) (y3 y4 y5 y6 : pv) : px_R (mm_Mod_tickOnce, 149, [(2, 123), (0, (N : Int)), (0, (i : Int)), y3, y4, y5, y6], [], (K0, tk3 g i)) = px_R (mm_Mod_tickOnce, 149, [(2, 123), (0, (N : Int)), (0, ((i + 1 : Nat) : Int)), y3, y4, y5, y6], [], (K0, tk3 g (i + 1))) := by
  have hi5 : i < 40 := by omega
  have hb : (decide ((0 : Int) ≤ (i : Int)) && decide ((i : Int) < 40)) = true := by simp; omega
  have b2 : (decide ((0 : Int) ≤ ((2 + i : Nat) : Int)) && decide (((2 + i : Nat) : Int) < 648)) = true := by simp; omega
  have b42 : (decide ((0 : Int) ≤ ((42 + i : Nat) : Int)) && decide (((42 + i : Nat) : Int) < 648)) = true := by simp; omega
  have hlt : ((i : Int) < (N : Int)) = True := by simp; omega
  have w2 : px_w (2 + (i : Int)) = ((2 + i : Nat) : Int) := px_w_cn 2 hi5 (by decide)
  have w42 : px_w (42 + (i : Int)) = ((42 + i : Nat) : Int) := px_w_cn 42 hi5 (by decide)
  have w3 : px_w ((i : Int) + 1) = ((i + 1 : Nat) : Int) := px_w_suc hi5
  have IW := tk3_IR hI i
  have q35 := ir_123_35 IW
  have q38 := ir_123_38 IW
  have q39 := ir_123_39 IW
  have v1 : tk3 g i 143 i = g 143 i := tk3_o g i (by decide)
  have v2 : tk3 g i 144 i = g 144 i := tk3_o g i (by decide)
  rw [eq_Mod_tickOnce_149]
  simp only [px_rd_mk, px_wr_mk, kg_123, Int.reduceToNat, Int.toNat_natCast, q35, q38, q39, ka_140, ka_143, ka_144, w2, w42, hb, b2, b42, hlt, v1, v2, if_true, R_Mod_bounded, Option.bind_some, px_up_cell, ne_eq, Nat.reduceEqDiff, not_false_eq_true, w3]
  rw [tk3_s g hi5]
theorem tk3_loop {g : hp} (hI : IR g) {N : Nat} (h40 : N ≤ 40) (n : Nat) : ∀ (i : Nat), i + n = N → ∀ (y3 y4 y5 y6 : pv), px_R (mm_Mod_tickOnce, 149, [(2, 123), (0, (N : Int)), (0, (i : Int)), y3, y4, y5, y6], [], (K0, tk3 g i)) = some (0, (K0, px_up (tk3 g N) 140 1 (px_w (g 140 1 + 1)))) := by
  induction n with
  | zero =>
    intro i hi y3 y4 y5 y6
    have : i = N := hi
    subst this
    have IW := tk3_IR hI i
    have q35 := ir_123_35 IW
    have hc : (decide ((0 : Int) ≤ 1) && decide ((1 : Int) < 648)) = true := rfl
    have v1 : tk3 g i 140 1 = g 140 1 := by unfold tk3; rw [if_neg (by omega), if_neg (by omega)]
    rw [eq_Mod_tickOnce_149, if_neg (Int.lt_irrefl _)]
    simp only [px_rd_mk, px_wr_mk, kg_123, Int.reduceToNat, q35, ka_140, hc, v1, if_true]
  | succ n ih =>
    intro i hi y3 y4 y5 y6
    rw [tk3_step hI h40 (by omega)]
    exact ih (i + 1) (by omega) _ _ _ _
def tkd (h : hp) (N : Nat) : hp := px_up (tk3 (tk2 (zrh h N) N N) N) 140 1 (px_w (h 140 1 + 1))
theorem R_Mod_tickOnce {h : hp} (hI : IR h) (H : RM h) {N : Nat} (hN : h 140 0 = (N : Int)) (h2 : 2 ≤ N) (h40 : N ≤ 40) : px_R (mm_Mod_tickOnce, 0, [(2, 123), (9, 0), (9, 0), (9, 0), (9, 0), (9, 0), (9, 0)], [], (K0, h)) = some (0, (K0, tkd h N)) := by
  have hc : (decide ((0 : Int) ≤ 0) && decide ((0 : Int) < 648)) = true := rfl
  have hN0 : 0 < N := by omega
  have IZ : IR (zrh h N) := IR_cells hI fun a b ha => zrh_o h N (by intro e; subst e; revert ha; decide) (by intro e; subst e; revert ha; decide)
  have z : ∀ b, zrh h N 140 b = h 140 b := fun b => zrh_o h N (by decide) (by decide)
  have HZ : RM (zrh h N) := fun i hi => by rw [z, z, z, z]; exact H i hi
  have ez : ∀ b, b < N → zrh h N 143 b = 0 ∧ zrh h N 144 b = 0 := fun b hb => ⟨if_pos ⟨Or.inl rfl, hb⟩, if_pos ⟨Or.inr rfl, hb⟩⟩
  have l1 := zr_loop hI h40 N 0 (Nat.zero_add N)
  rw [zrh_0] at l1
  obtain ⟨z3, z4, z5, z6, l2⟩ := tk2_loop IZ HZ ((z 0).trans hN) h2 h40 ez N 0 (Nat.zero_add N) (9, 0) (9, 0) (9, 0) (9, 0)
  rw [tk2_0 _ hN0] at l2
  have l3 := tk3_loop (tk2_IR IZ N N) h40 N 0 (Nat.zero_add N) z3 z4 z5 z6
  rw [tk3_0] at l3
  have e1 : tk2 (zrh h N) N N 140 1 = h 140 1 := (tk2_o _ N N (by decide) (by decide) (by decide)).trans (z 1)
  rw [e1] at l3
  rw [eq_Mod_tickOnce_0]
  simp only [px_rd_mk, kg_123, Int.reduceToNat, ir_123_35 hI, ka_140, hc, hN, if_true]
  exact (l1.trans l2).trans l3
