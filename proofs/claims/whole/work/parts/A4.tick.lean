/-! One tick of the reference's stretch. -/
theorem toRight_n {h : hp} (hI : IR h) {N i : Nat} (hN : h 140 0 = (N : Int)) (hi : i < N) (h40 : N ≤ 40) (v : Int) : px_R (mm_Mod_toRight, 0, [(2, 123), (0, (i : Int)), (0, v)], [], (K0, h)) = some (0, (K0, px_up h 143 i (px_w (h 143 i + v)))) := by
  have hb : (decide ((0 : Int) ≤ (i : Int)) && decide ((i : Int) < 40)) = true := by simp; omega
  have hc : (decide ((0 : Int) ≤ 0) && decide ((0 : Int) < 648)) = true := rfl
  have hne : ((i : Int) = (N : Int)) = False := by simp; omega
  rw [eq_Mod_toRight_0]
  simp only [px_rd_mk, px_wr_mk, kg_123, Int.reduceToNat, Int.toNat_natCast, ir_123_35 hI, ir_123_38 hI, ka_140, ka_143, hc, hN, hne, hb, if_true, if_false]
theorem toRight_e {h : hp} (hI : IR h) {N : Nat} (hN : h 140 0 = (N : Int)) (v : Int) : px_R (mm_Mod_toRight, 0, [(2, 123), (0, (N : Int)), (0, v)], [], (K0, h)) = some (0, (K0, px_up h 141 1 (px_wl (h 141 1 + v)))) := by
  have hc : (decide ((0 : Int) ≤ 0) && decide ((0 : Int) < 648)) = true := rfl
  have hd : (decide ((0 : Int) ≤ 1) && decide ((1 : Int) < 8)) = true := rfl
  rw [eq_Mod_toRight_0]
  simp only [px_rd_mk, px_wr_mk, kg_123, Int.reduceToNat, ir_123_35 hI, ir_123_36 hI, ka_140, ka_141, hc, hd, hN, if_true]
theorem toLeft_n {h : hp} (hI : IR h) {i : Nat} (hi : i < 40) (v : Int) : px_R (mm_Mod_toLeft, 0, [(2, 123), (0, (i : Int)), (0, v)], [], (K0, h)) = some (0, (K0, px_up h 144 i (px_w (h 144 i + v)))) := by
  have hb : (decide ((0 : Int) ≤ (i : Int)) && decide ((i : Int) < 40)) = true := by simp; omega
  have hne : ((i : Int) < 0) = False := by simp
  rw [eq_Mod_toLeft_0]
  simp only [px_rd_mk, px_wr_mk, kg_123, Int.reduceToNat, Int.toNat_natCast, ir_123_39 hI, ka_144, hne, hb, if_true, if_false]
theorem toLeft_e {h : hp} (hI : IR h) (v : Int) : px_R (mm_Mod_toLeft, 0, [(2, 123), (0, -1), (0, v)], [], (K0, h)) = some (0, (K0, px_up h 141 0 (px_wl (h 141 0 + v)))) := by
  have hd : (decide ((0 : Int) ≤ 0) && decide ((0 : Int) < 8)) = true := rfl
  rw [eq_Mod_toLeft_0, if_pos (by decide)]
  simp only [px_rd_mk, px_wr_mk, kg_123, Int.reduceToNat, ir_123_36 hI, ka_141, hd, if_true]
/-- the next pulls put to 0 -/
def zrh (h : hp) (i : Nat) : hp := fun a b => if (a = 143 ∨ a = 144) ∧ b < i then 0 else h a b
theorem zrh_o (h : hp) (i : Nat) {a b : Nat} (h1 : a ≠ 143) (h2 : a ≠ 144) : zrh h i a b = h a b := if_neg (by omega)
theorem zrh_0 (h : hp) : zrh h 0 = h := by
  funext a b
  unfold zrh
  rw [if_neg (by omega)]
theorem zrh_s (h : hp) (i : Nat) : px_up (px_up (zrh h i) 143 i 0) 144 i 0 = zrh h (i + 1) := by
  funext a b
  unfold zrh px_up
  by_cases b1 : b = i
  · subst b1
    by_cases a1 : a = 143
    · subst a1; simp
    · by_cases a2 : a = 144
      · subst a2; simp
      · simp [a1, a2]
  · by_cases b2 : b < i
    · have : b < i + 1 := by omega
      simp [b1, b2, this]
    · have : ¬ b < i + 1 := by omega
      simp [b1, b2, this]
theorem zr_step {h : hp} (hI : IR h) {N i : Nat} (h40 : N ≤ 40) (hi : i < N) : px_R (mm_Mod_tickOnce, 9, [(2, 123), (0, (N : Int)), (0, (i : Int)), (9, 0), (9, 0), (9, 0), (9, 0)], [], (K0, zrh h i)) = px_R (mm_Mod_tickOnce, 9, [(2, 123), (0, (N : Int)), (0, ((i + 1 : Nat) : Int)), (9, 0), (9, 0), (9, 0), (9, 0)], [], (K0, zrh h (i + 1))) := by
  have hb : (decide ((0 : Int) ≤ (i : Int)) && decide ((i : Int) < 40)) = true := by simp; omega
  have hlt : ((i : Int) < (N : Int)) = True := by simp; omega
  have q1 : zrh h i 123 38 = 143 := (zrh_o h i (by decide) (by decide)).trans (ir_123_38 hI)
  have q2 : zrh h i 123 39 = 144 := (zrh_o h i (by decide) (by decide)).trans (ir_123_39 hI)
  have w3 : px_w ((i : Int) + 1) = ((i + 1 : Nat) : Int) := by rw [px_w_id (by omega) (by omega)]; omega
  rw [eq_Mod_tickOnce_9]
  simp only [px_rd_mk, px_wr_mk, kg_123, Int.reduceToNat, Int.toNat_natCast, q1, q2, ka_143, ka_144, hlt, hb, if_true, px_up_cell, ne_eq, Nat.reduceEqDiff, not_false_eq_true, w3]
  rw [zrh_s]
theorem zr_loop {h : hp} (hI : IR h) {N : Nat} (h40 : N ≤ 40) (n : Nat) : ∀ i : Nat, i + n = N → px_R (mm_Mod_tickOnce, 9, [(2, 123), (0, (N : Int)), (0, (i : Int)), (9, 0), (9, 0), (9, 0), (9, 0)], [], (K0, zrh h i)) = px_R (mm_Mod_tickOnce, 36, [(2, 123), (0, (N : Int)), (0, 0), (9, 0), (9, 0), (9, 0), (9, 0)], [], (K0, zrh h N)) := by
  induction n with
  | zero =>
    intro i hi
    have : i = N := hi
    subst this
    rw [eq_Mod_tickOnce_9, if_neg (Int.lt_irrefl _)]
  | succ n ih =>
    intro i hi
    rw [zr_step hI h40 (by omega)]
    exact ih (i + 1) (by omega)
