/-! tick: both sides' rows stay alike. -/
theorem zrh_sRt (h : hp) (N j : Nat) : sRt (zrh h N) j = sRt h j := by
  have z : ∀ b, zrh h N 140 b = h 140 b := fun b => zrh_o h N (by decide) (by decide)
  unfold sRt
  rw [z, z, z, z]
theorem zrh_sLf (h : hp) (N j : Nat) : sLf (zrh h N) j = sLf h j := by
  have z : ∀ b, zrh h N 140 b = h 140 b := fun b => zrh_o h N (by decide) (by decide)
  unfold sLf
  rw [z, z, z, z]
theorem tkd_140_2 (h : hp) {N b : Nat} (h40 : N ≤ 40) (hb : b < 40) : tkd h N 140 (2 + b) = if b < N then clp (-999999) 999999 (if b = 0 then 0 else sRt h (b - 1)) else h 140 (2 + b) := by
  unfold tkd
  rw [px_up_slot _ _ _ _ (by omega)]
  unfold tk3
  by_cases hN : b < N
  · rw [if_pos ⟨rfl, by omega, by omega⟩, if_pos hN, show 2 + b - 2 = b by omega, tk2_143]
    congr 1
    by_cases h0 : b = 0
    · rw [if_neg (by omega), if_pos h0]; exact if_pos ⟨Or.inl rfl, hN⟩
    · rw [if_pos (by omega), if_neg h0, zrh_sRt]
  · rw [if_neg (by omega), if_neg (by omega), if_neg hN, tk2_o _ N N (by decide) (by decide) (by decide), zrh_o h N (by decide) (by decide)]
theorem tkd_140_42 (h : hp) {N b : Nat} (h40 : N ≤ 40) (hb : b < 40) : tkd h N 140 (42 + b) = if b < N then clp (-999999) 999999 (if b + 1 = N then 0 else sLf h (b + 1)) else h 140 (42 + b) := by
  unfold tkd
  rw [px_up_slot _ _ _ _ (by omega)]
  unfold tk3
  by_cases hN : b < N
  · rw [if_neg (by omega), if_pos ⟨rfl, by omega, by omega⟩, if_pos hN, show 42 + b - 42 = b by omega, tk2_144]
    congr 1
    by_cases h0 : b + 1 = N
    · rw [if_neg (by omega), if_pos h0]; exact if_pos ⟨Or.inr rfl, hN⟩
    · rw [if_pos (by omega), if_neg h0, zrh_sLf]
  · rw [if_neg (by omega), if_neg (by omega), if_neg hN, tk2_o _ N N (by decide) (by decide) (by decide), zrh_o h N (by decide) (by decide)]
theorem tkd_141_0 (h : hp) {N : Nat} (hN : 0 < N) : tkd h N 141 0 = px_wl (h 141 0 + sLf h 0) := by
  have z : ∀ b, zrh h N 140 b = h 140 b := fun b => zrh_o h N (by decide) (by decide)
  have z1 : ∀ b, zrh h N 141 b = h 141 b := fun b => zrh_o h N (by decide) (by decide)
  unfold tkd
  rw [px_up_cell _ _ _ _ (by decide), tk3_o _ N (by decide), tk2_141, if_pos ⟨rfl, hN⟩, z, z, z, z, z1, px_wl_2]
  rfl
theorem tkd_141_1 (h : hp) {N : Nat} (hN : 0 < N) : tkd h N 141 1 = px_wl (h 141 1 + sRt h (N - 1)) := by
  have z : ∀ b, zrh h N 140 b = h 140 b := fun b => zrh_o h N (by decide) (by decide)
  have z1 : ∀ b, zrh h N 141 b = h 141 b := fun b => zrh_o h N (by decide) (by decide)
  unfold tkd
  rw [px_up_cell _ _ _ _ (by decide), tk3_o _ N (by decide), tk2_141, if_neg (by omega), if_pos ⟨rfl, rfl⟩, z, z, z, z, z1, px_wl_2]
  rfl
theorem tkd_141_s (h : hp) {N b : Nat} (hb : 2 ≤ b) : tkd h N 141 b = h 141 b := by
  unfold tkd
  rw [px_up_cell _ _ _ _ (by decide), tk3_o _ N (by decide), tk2_141, if_neg (by omega), if_neg (by omega), zrh_o h N (by decide) (by decide)]
/-- the class's row in one world against the reference's stretch in another -/
def CR2 (c m : hp) : Prop := m 140 0 = c 101 0 ∧ m 140 1 = c 101 1 ∧ m 141 0 = c 101 2 ∧ m 141 1 = c 101 3 ∧ ∀ i : Nat, i < 40 → m 140 (2 + i) = c 102 i ∧ m 140 (42 + i) = c 103 i ∧ m 140 (82 + i) = c 104 i ∧ m 140 (122 + i) = c 105 i
theorem sRt_t {c m : hp} (C : CR2 c m) {j : Nat} (hj : j < 40) : clp (-999999) 999999 (sRt m j) = tNx c j := by
  obtain ⟨c1, c2, c3, c4⟩ := C.2.2.2.2 j hj
  unfold sRt tNx
  rw [c1, c2, c3, c4]
theorem sLf_t {c m : hp} (C : CR2 c m) {j : Nat} (hj : j < 40) : clp (-999999) 999999 (sLf m j) = tBf c j := by
  obtain ⟨c1, c2, c3, c4⟩ := C.2.2.2.2 j hj
  unfold sLf tBf
  rw [c1, c2, c3, c4, Int.add_comm]
theorem sRt_i {c m : hp} (C : CR2 c m) (H : RW c) {j : Nat} (hj : j < 40) : sRt m j = tNx c j := by
  rw [← sRt_t C hj]
  obtain ⟨c1, c2, c3, c4⟩ := C.2.2.2.2 j hj
  obtain ⟨r1, r2, r3, r4, r5⟩ := H.2 j hj
  rw [clp_id]
  unfold sRt
  rw [c1, c2, c3, c4]
  exact prt_sum r1 r2 r3 r4 r5
theorem sLf_i {c m : hp} (C : CR2 c m) (H : RW c) {j : Nat} (hj : j < 40) : sLf m j = tBf c j := by
  rw [← sLf_t C hj]
  obtain ⟨c1, c2, c3, c4⟩ := C.2.2.2.2 j hj
  obtain ⟨r1, r2, r3, r4, r5⟩ := H.2 j hj
  rw [clp_id]
  unfold sLf
  rw [c1, c2, c3, c4]
  exact prt_sum r1 r2 r4 r3 (by omega)
theorem clp_0 : clp (-999999) 999999 0 = 0 := rfl
theorem CR2_step {c m : hp} (C : CR2 c m) (H : RW c) {N : Nat} (hN : c 101 0 = (N : Int)) : CR2 (movd c N) (tkd m N) := by
  have hN2 : 2 ≤ N ∧ N ≤ 40 := by have := H.1; omega
  have h0 : 0 < N := by omega
  have h1 : N - 1 < 40 := by omega
  refine ⟨?_, ?_, ?_, ?_, ?_⟩
  · rw [tkd_140_0, movd_101_0, C.1]
  · rw [tkd_140_1, movd_101_1, C.2.1]
  · rw [tkd_141_0 m h0, movd_101_2 c h0, C.2.2.1, sLf_i C H (by decide)]
  · rw [tkd_141_1 m h0, movd_101_3 c, C.2.2.2.1, sRt_i C H h1]
  · intro i hi
    obtain ⟨c1, c2, c3, c4⟩ := C.2.2.2.2 i hi
    refine ⟨?_, ?_, ?_, ?_⟩
    · rw [tkd_140_2 m hN2.2 hi, movd_102]
      by_cases a : i < N
      · rw [if_pos a, if_pos a]
        by_cases b : i = 0
        · rw [if_pos b, if_pos b, clp_0]
        · rw [if_neg b, if_neg b, sRt_t C (by omega)]
      · rw [if_neg a, if_neg a, c1]
    · rw [tkd_140_42 m hN2.2 hi, movd_103]
      by_cases a : i < N
      · rw [if_pos a]
        by_cases b : i + 1 = N
        · rw [if_pos b, if_pos (by omega), clp_0]
        · rw [if_neg b, if_neg (by omega), if_pos (by omega), sLf_t C (by omega)]
      · rw [if_neg a, if_neg (by omega), if_neg (by omega), c2]
    · rw [tkd_140_s m hN2.2 (by omega), movd_o c N (by decide) (by decide) (by decide), c3]
    · rw [tkd_140_s m hN2.2 (by omega), movd_o c N (by decide) (by decide) (by decide), c4]
theorem tNx_rng (h : hp) (j : Nat) : -999999 ≤ tNx h j ∧ tNx h j ≤ 999999 := clp_rng (by decide) _
theorem tBf_rng (h : hp) (j : Nat) : -999999 ≤ tBf h j ∧ tBf h j ≤ 999999 := clp_rng (by decide) _
theorem RW_step {h : hp} (H : RW h) (N : Nat) : RW (movd h N) := by
  refine ⟨by rw [movd_101_0]; exact H.1, fun i hi => ?_⟩
  obtain ⟨r1, r2, r3, r4, r5⟩ := H.2 i hi
  refine ⟨?_, ?_, ?_, ?_, ?_⟩
  · rw [movd_102]
    (repeat' split) <;> first | exact r1 | exact tNx_rng _ _ | decide
  · rw [movd_103]
    (repeat' split) <;> first | exact r2 | exact tBf_rng _ _ | decide
  · rw [movd_o h N (by decide) (by decide) (by decide)]; exact r3
  · rw [movd_o h N (by decide) (by decide) (by decide)]; exact r4
  · rw [movd_o h N (by decide) (by decide) (by decide), movd_o h N (by decide) (by decide) (by decide)]; exact r5
theorem movd_Fr (h : hp) (N : Nat) : Fr [102, 103] [(101, 1), (101, 2), (101, 3)] h (movd h N) := fun a b e => by
  rw [fin_f] at e
  simp at e
  unfold movd
  by_cases a1 : a = 101
  · subst a1
    rw [px_up_slot _ _ _ _ (by omega), px_up_slot _ _ _ _ (by omega), px_up_cell _ _ _ _ (by omega), movh_o h N (by omega) (by omega) (by omega)]
  · rw [px_up_cell _ _ _ _ a1, px_up_cell _ _ _ _ a1, px_up_cell _ _ _ _ (by omega), movh_o h N (by omega) (by omega) (by omega)]
theorem tkd_Fr (h : hp) (N : Nat) : Fr [140, 141, 143, 144] [] h (tkd h N) := fun a b e => by
  rw [fin_f] at e
  simp at e
  exact tkd_o h N (by omega) (by omega) (by omega) (by omega)
/-- so many ticks -/
def movn (h : hp) (N : Nat) : Nat → hp
  | 0 => h
  | n + 1 => movd (movn h N n) N
def tkn (h : hp) (N : Nat) : Nat → hp
  | 0 => h
  | n + 1 => tkd (tkn h N n) N
theorem movn_ok {h : hp} (hI : IR h) (H : RW h) {N : Nat} (hN : h 101 0 = (N : Int)) (n : Nat) : IR (movn h N n) ∧ RW (movn h N n) ∧ movn h N n 101 0 = (N : Int) ∧ Fr [102, 103] [(101, 1), (101, 2), (101, 3)] h (movn h N n) := by
  induction n with
  | zero => exact ⟨hI, H, hN, Fr_rf _ _ _⟩
  | succ n ih =>
    obtain ⟨i1, i2, i3, i4⟩ := ih
    have F := movd_Fr (movn h N n) N
    exact ⟨IR_Fr i1 F (by decide), RW_step i2 N, by rw [movn, movd_101_0]; exact i3, Fr_tr2 i4 F⟩
theorem tkn_ok {h : hp} (hI : IR h) (n N : Nat) : IR (tkn h N n) ∧ Fr [140, 141, 143, 144] [] h (tkn h N n) := by
  induction n with
  | zero => exact ⟨hI, Fr_rf _ _ _⟩
  | succ n ih =>
    obtain ⟨i1, i4⟩ := ih
    have F := tkd_Fr (tkn h N n) N
    exact ⟨IR_Fr i1 F (by decide), Fr_tr2 i4 F⟩
theorem CR2_n {c m : hp} (hI : IR c) (C : CR2 c m) (H : RW c) {N : Nat} (hN : c 101 0 = (N : Int)) (n : Nat) : CR2 (movn c N n) (tkn m N n) := by
  induction n with
  | zero => exact C
  | succ n ih =>
    obtain ⟨i1, i2, i3, i4⟩ := movn_ok hI H hN n
    exact CR2_step ih i2 i3
theorem Tin_tick_loop {h : hp} (hI : IR h) (H : RW h) {N : Nat} (hN : h 101 0 = (N : Int)) {M : Nat} (hM : M ≤ 400) (n : Nat) : ∀ i : Nat, i + n = M → px_R (mm_Tin_tick, 16, [(2, 1), (0, (M : Int)), (0, (i : Int))], [], (K0, movn h N i)) = some (movn h N M 101 1, (K0, movn h N M)) := by
  induction n with
  | zero =>
    intro i hi
    have : i = M := hi
    subst this
    obtain ⟨i1, i2, i3, i4⟩ := movn_ok hI H hN i
    rw [eq_Tin_tick_16, if_neg (Int.lt_irrefl _)]
    simp only [px_rd_mk, kg_1, kg_101, Int.reduceToNat, ir_1_5 i1, if_true]
  | succ n ih =>
    intro i hi
    have hlt : ((i : Int) < (M : Int)) = True := by simp; omega
    have w3 : px_w ((i : Int) + 1) = ((i + 1 : Nat) : Int) := by rw [px_w_id (by omega) (by omega)]; omega
    obtain ⟨i1, i2, i3, i4⟩ := movn_ok hI H hN i
    rw [eq_Tin_tick_16]
    simp only [px_rd_mk, kg_1, kg_101, Int.reduceToNat, ir_1_5 i1, if_true, hlt, R_Row_move i1 i2 i3, Option.bind_some, w3]
    exact ih (i + 1) (by omega)
theorem Mod_tick_loop {h c : hp} (hI : IR h) (hIc : IR c) (C : CR2 c h) (H : RW c) {N : Nat} (hN : c 101 0 = (N : Int)) {M : Nat} (hM : M ≤ 400) (n : Nat) : ∀ i : Nat, i + n = M → px_R (mm_Mod_tick, 16, [(2, 123), (0, (M : Int)), (0, (i : Int))], [], (K0, tkn h N i)) = some (tkn h N M 140 1, (K0, tkn h N M)) := by
  have hN2 : 2 ≤ N ∧ N ≤ 40 := by have := H.1; omega
  induction n with
  | zero =>
    intro i hi
    have : i = M := hi
    subst this
    obtain ⟨i1, i4⟩ := tkn_ok hI i N
    have hc : (decide ((0 : Int) ≤ 1) && decide ((1 : Int) < 648)) = true := rfl
    rw [eq_Mod_tick_16, if_neg (Int.lt_irrefl _)]
    simp only [px_rd_mk, kg_123, Int.reduceToNat, ir_123_35 i1, ka_140, hc, if_true]
  | succ n ih =>
    intro i hi
    have hlt : ((i : Int) < (M : Int)) = True := by simp; omega
    have w3 : px_w ((i : Int) + 1) = ((i + 1 : Nat) : Int) := by rw [px_w_id (by omega) (by omega)]; omega
    obtain ⟨i1, i4⟩ := tkn_ok hI i N
    obtain ⟨j1, j2, j3, j4⟩ := movn_ok hIc H hN i
    have C2 := CR2_n hIc C H hN i
    have RM2 : RM (tkn h N i) := fun k hk => by
      obtain ⟨c1, c2, c3, c4⟩ := C2.2.2.2.2 k hk
      rw [c1, c2, c3, c4]
      exact j2.2 k hk
    rw [eq_Mod_tick_16]
    simp only [kg_123, if_true, hlt, R_Mod_tickOnce i1 RM2 (C2.1.trans j3) hN2.1 hN2.2, Option.bind_some, w3]
    exact ih (i + 1) (by omega)
