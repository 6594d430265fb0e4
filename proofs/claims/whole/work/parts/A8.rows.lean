/-! The class's row and the reference's stretch are alike. -/
theorem px_wl_2 (o a b : Int) : px_wl (px_wl (o + a) + b) = px_wl (o + (a + b)) := by
  unfold px_wl
  rw [Int.bmod_add_bmod, Int.add_assoc]
theorem clp_id {x : Int} (h : -999999 ≤ x ∧ x ≤ 999999) : clp (-999999) 999999 x = x := by
  unfold clp
  rw [if_neg (by omega), if_neg (by omega)]
theorem prt_sum {a b p q : Int} (ha : -999999 ≤ a ∧ a ≤ 999999) (hb : -999999 ≤ b ∧ b ≤ 999999) (hp : 0 ≤ p) (hq : 0 ≤ q) (hpq : p + q ≤ 100) : -999999 ≤ prt a p + prt b q ∧ prt a p + prt b q ≤ 999999 := by
  have h1 := prt_100 ha hp
  have h2 := prt_100 hb hq
  omega
/-- the class's row against the reference's stretch -/
def CR (h : hp) : Prop := h 140 0 = h 101 0 ∧ h 140 1 = h 101 1 ∧ h 141 0 = h 101 2 ∧ h 141 1 = h 101 3 ∧ ∀ i : Nat, i < 40 → h 140 (2 + i) = h 102 i ∧ h 140 (42 + i) = h 103 i ∧ h 140 (82 + i) = h 104 i ∧ h 140 (122 + i) = h 105 i
theorem CR_RM {h : hp} (C : CR h) (H : RW h) : RM h := fun i hi => by
  obtain ⟨c1, c2, c3, c4⟩ := C.2.2.2.2 i hi
  rw [c1, c2, c3, c4]
  exact H.2 i hi
theorem movd_o (h : hp) (N : Nat) {a b : Nat} (h1 : a ≠ 101) (h2 : a ≠ 102) (h3 : a ≠ 103) : movd h N a b = h a b := by
  unfold movd
  rw [px_up_cell _ _ _ _ h1, px_up_cell _ _ _ _ h1, px_up_cell _ _ _ _ h3, movh_o h N h2 h3 (fun q => h1 q.1)]
theorem movd_102 (h : hp) (N b : Nat) : movd h N 102 b = if b < N then (if b = 0 then 0 else tNx h (b - 1)) else h 102 b := by
  unfold movd
  rw [px_up_cell _ _ _ _ (by decide), px_up_cell _ _ _ _ (by decide), px_up_cell _ _ _ _ (by decide)]
  unfold movh
  rw [if_pos rfl]
theorem movd_103 (h : hp) (N b : Nat) : movd h N 103 b = if b = N - 1 then 0 else if b + 1 < N then tBf h (b + 1) else h 103 b := by
  unfold movd
  rw [px_up_cell _ _ _ _ (by decide), px_up_cell _ _ _ _ (by decide), px_up_at]
  unfold movh
  rw [if_neg (show ¬ (103 : Nat) = 102 by decide), if_pos rfl]
theorem movd_101_0 (h : hp) (N : Nat) : movd h N 101 0 = h 101 0 := by
  unfold movd
  rw [px_up_slot _ _ _ _ (by decide), px_up_slot _ _ _ _ (by decide), px_up_cell _ _ _ _ (by decide), movh_o h N (by decide) (by decide) (by decide)]
theorem movd_101_1 (h : hp) (N : Nat) : movd h N 101 1 = px_w (h 101 1 + 1) := px_up_eq _ _ _ _
theorem movd_101_2 (h : hp) {N : Nat} (hN : 0 < N) : movd h N 101 2 = px_wl (h 101 2 + tBf h 0) := by
  unfold movd
  rw [px_up_slot _ _ _ _ (by decide), px_up_slot _ _ _ _ (by decide), px_up_cell _ _ _ _ (by decide)]
  unfold movh
  rw [if_neg (show ¬ (101 : Nat) = 102 by decide), if_neg (show ¬ (101 : Nat) = 103 by decide), if_pos ⟨rfl, rfl⟩, if_pos hN]
theorem movd_101_3 (h : hp) (N : Nat) : movd h N 101 3 = px_wl (h 101 3 + tNx h (N - 1)) := by
  unfold movd
  rw [px_up_slot _ _ _ _ (by decide), px_up_eq]
theorem tkd_o (h : hp) (N : Nat) {a b : Nat} (h0 : a ≠ 140) (h1 : a ≠ 141) (h2 : a ≠ 143) (h3 : a ≠ 144) : tkd h N a b = h a b := by
  unfold tkd
  rw [px_up_cell _ _ _ _ h0, tk3_o _ N h0, tk2_o _ N N h2 h3 h1, zrh_o h N h2 h3]
theorem tkd_140_0 (h : hp) (N : Nat) : tkd h N 140 0 = h 140 0 := by
  unfold tkd
  rw [px_up_slot _ _ _ _ (by decide)]
  unfold tk3
  rw [if_neg (by omega), if_neg (by omega), tk2_o _ N N (by decide) (by decide) (by decide), zrh_o h N (by decide) (by decide)]
theorem tkd_140_1 (h : hp) (N : Nat) : tkd h N 140 1 = px_w (h 140 1 + 1) := px_up_eq _ _ _ _
theorem tkd_140_s (h : hp) {N b : Nat} (h40 : N ≤ 40) (hb : 82 ≤ b) : tkd h N 140 b = h 140 b := by
  unfold tkd
  rw [px_up_slot _ _ _ _ (by omega)]
  unfold tk3
  rw [if_neg (by omega), if_neg (by omega), tk2_o _ N N (by decide) (by decide) (by decide), zrh_o h N (by decide) (by decide)]
