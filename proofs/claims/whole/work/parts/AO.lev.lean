/-! Levels; the calls bears, through, share. -/
theorem arV_e {n : Nat} {h g : hp} (e1 : ∀ a : Nat, n ≤ a → a < n + 22 → g a = h a) (e2 : g 49 = h 49) (e3 : g 50 = h 50) (e4 : g 48 3 = h 48 3) (e5 : g 48 4 = h 48 4) (e6 : g 48 6 = h 48 6) (s t y : Nat) (loud : Int) (b : Nat) : arV n g s t y loud b = arV n h s t y loud b := by
  unfold arV lvV tsV bdV lbV bsV
  rw [e1 (n + 13) (by omega) (by omega), e1 (n + 14) (by omega) (by omega), e1 (n + 18) (by omega) (by omega), e1 (n + 19) (by omega) (by omega), e1 (n + 20) (by omega) (by omega), e2, e3, e4, e5, e6]
theorem arV_F {n : Nat} (hn : n = 4 ∨ n = 26) {h g : hp} {cs : List Nat} {ss : List (Nat × Nat)} (F : Fr cs ss h g) (e : (frf 4 48 cs ss && fdj cs ss [49, 50] [(48, 3), (48, 4), (48, 6)]) = true) (s t y : Nat) (loud : Int) (b : Nat) : arV n g s t y loud b = arV n h s t y loud b := by
  rw [Bool.and_eq_true] at e
  have c := Fr_dj F e.2
  exact arV_e (Fr_st hn F e.1) (funext fun i => c 49 i rfl) (funext fun i => c 50 i rfl) (c 48 3 rfl) (c 48 4 rfl) (c 48 6 rfl) s t y loud b
/-- the level of a word in a band -/
def lvl (n : Nat) (h : hp) (s t y w b : Nat) : Int := px_mn 9 (Int.tdiv (arV n h s t y (h (n + 15) (5 * w + b)) b) 500)
theorem lvl_F {n : Nat} (hn : n = 4 ∨ n = 26) {h g : hp} {cs : List Nat} {ss : List (Nat × Nat)} (F : Fr cs ss h g) (e : (frf 4 48 cs ss && fdj cs ss [49, 50] [(48, 3), (48, 4), (48, 6)]) = true) (s t y w b : Nat) : lvl n g s t y w b = lvl n h s t y w b := by
  have e2 := e
  rw [Bool.and_eq_true] at e
  unfold lvl
  rw [arV_F hn F e2, Fr_st hn F e.1 (n + 15) (by omega) (by omega)]
theorem as_rng {v : Int} (hv : 0 ≤ v ∧ v ≤ 9000) : px_w (Int.tdiv v 500) = Int.tdiv v 500 ∧ 0 ≤ Int.tdiv v 500 := by
  rw [Int.tdiv_eq_ediv_of_nonneg hv.1]
  exact ⟨px_w_id (by omega) (by omega), by omega⟩
theorem lvl_rng {n : Nat} {h mh : hp} (S : ST n h) (L : LBm n h mh) {s t : Nat} (hs : (s : Int) < h (n + 1) 0) (ht : (t : Int) < h (n + 1) 1) (y : Nat) {w b : Nat} (hw : (w : Int) < h (n + 1) 2) (hb : b < 4) : 0 ≤ lvl n h s t y w b ∧ lvl n h s t y w b ≤ 9 := by
  have q := (S.2.2.2.2.2.2.2.1 w hw b hb).2
  have r := arV_rng S L hs ht y q hb
  have r2 := as_rng r
  unfold lvl px_mn
  split <;> omega
theorem mn9 (x : Int) : px_mn 9 x = if 9 < x then 9 else x := by
  unfold px_mn
  (repeat' split) <;> omega
theorem ml_inner {n : Nat} {c h : hp} (C : LD n c h) {s t y : Nat} (hs : (s : Int) < c (n + 1) 0) (ht : (t : Int) < c (n + 1) 1) (hy : y ≤ 400) {w : Nat} (hw : (w : Int) < c (n + 1) 2) (y6 : pv) {g : hp} (F0 : Fr [137] [] h g) (H0 : ∀ v b : Nat, v < w → b < 4 → g 137 (4 * v + b) = lvl n c s t y v b) : ∃ (z6 : pv) (k : hp), px_R (mm_Mod_makeLevels, 17, [(2, 123), (0, (s : Int)), (0, (t : Int)), (0, (y : Int)), (0, (w : Int)), (0, 0), y6], [], (K0, g)) = px_R (mm_Mod_makeLevels, 3, [(2, 123), (0, (s : Int)), (0, (t : Int)), (0, (y : Int)), (0, ((w + 1 : Nat) : Int)), (0, 4), z6], [], (K0, k)) ∧ Fr [137] [] h k ∧ ∀ v b : Nat, v < w + 1 → b < 4 → k 137 (4 * v + b) = lvl n c s t y v b := by
  have hc := ST_n C.2.2.1 (k := 2) (by decide)
  have lp := px_lp (fun z : List pv × hp => px_R (mm_Mod_makeLevels, 17, z.1, [], (K0, z.2))) (fun i z => (∃ y6 : pv, z.1 = [(2, 123), (0, (s : Int)), (0, (t : Int)), (0, (y : Int)), (0, (w : Int)), (0, (i : Int)), y6]) ∧ Fr [137] [] h z.2 ∧ ∀ v b : Nat, b < 4 → (v < w ∨ (v = w ∧ b < i)) → z.2 137 (4 * v + b) = lvl n c s t y v b) 4 (by
    rintro i ⟨ls, g⟩ hi ⟨⟨y6, h1⟩, F, H⟩
    simp only at h1 F H
    subst h1
    have Cg := LD_F C F (by decide) rfl rfl
    have q := C.2.2.1.2.2.2.2.2.2.2.1 w hw i hi
    have q1 : g 129 (4 * w + i) = c (n + 15) (5 * w + i) := (F 129 _ rfl).trans ((congrFun (C.2.2.2.2 129 (by decide) (by decide)) _).trans q.1)
    have th := R_throughOf Cg (s := s) (t := t) (y := y) hs ht hy q.2 hi
    have r := arV_rng C.2.2.1 C.2.2.2.1 hs ht y q.2 hi
    have r2 := as_rng r
    have u1 : -2147483648 ≤ 4 * (w : Int) ∧ 4 * (w : Int) < 2147483648 := by omega
    have u3 : -2147483648 ≤ ((4 * w : Nat) : Int) + (i : Int) ∧ ((4 * w : Nat) : Int) + (i : Int) < 2147483648 := by omega
    have v1 : 4 * (w : Int) = ((4 * w : Nat) : Int) := by omega
    have v3 : ((4 * w : Nat) : Int) + (i : Int) = ((4 * w + i : Nat) : Int) := by omega
    have b3 : (((4 * w + i : Nat) : Int) < 48) = True := eq_true (by omega)
    have b4 : (((4 * w + i : Nat) : Int) < 24) = True := eq_true (by omega)
    have hlt : ((i : Int) < 4) = True := eq_true (by omega)
    refine ⟨([(2, 123), (0, (s : Int)), (0, (t : Int)), (0, (y : Int)), (0, (w : Int)), (0, ((i + 1 : Nat) : Int)), (0, Int.tdiv (arV n c s t y (c (n + 15) (5 * w + i)) i) 500)], px_up g 137 (4 * w + i) (lvl n c s t y w i)), ?_, ⟨_, rfl⟩, Fr_up F _ rfl, ?_⟩
    · show px_R (mm_Mod_makeLevels, 17, _, [], (K0, g)) = _
      rw [eq_Mod_makeLevels_17]
      simp only [px_rd_mk, px_wr_mk, Int.reduceToNat, Int.toNat_natCast, if_true, if_false, Option.bind_some, px_up_cell, px_up_slot, px_up_eq, ne_eq, Nat.reduceEqDiff, not_false_eq_true, Int.reduceEq, Int.reduceLT, Int.reduceLE, Int.reduceNeg, decide_true, decide_false, Bool.and_true, Bool.true_and, Bool.and_false, Bool.false_and, and_self, and_true, true_and, and_false, false_and, bi_T, bi_F, not_true_eq_false, Bool.false_eq_true, kg_123, ka_129, ka_137, ir_123_0 Cg.2.1, ir_123_12 Cg.2.1, ir_123_13 Cg.2.1, ir_123_14 Cg.2.1, ir_123_15 Cg.2.1, ir_123_16 Cg.2.1, ir_123_17 Cg.2.1, ir_123_18 Cg.2.1, ir_123_19 Cg.2.1, ir_123_20 Cg.2.1, ir_123_21 Cg.2.1, ir_123_30 Cg.2.1, ir_123_31 Cg.2.1, ir_123_32 Cg.2.1, ir_123_33 Cg.2.1, ir_123_34 Cg.2.1, ir_123_35 Cg.2.1, ir_123_36 Cg.2.1, ir_123_37 Cg.2.1, ir_123_38 Cg.2.1, ir_123_39 Cg.2.1, ir_123_41 Cg.2.1, ir_123_42 Cg.2.1, ir_123_44 Cg.2.1, ir_123_45 Cg.2.1, ir_123_46 Cg.2.1, ir_123_50 Cg.2.1, ir_123_54 Cg.2.1, ir_123_55 Cg.2.1, ir_123_56 Cg.2.1, ir_123_57 Cg.2.1, ir_123_58 Cg.2.1, ir_123_59 Cg.2.1, ir_123_60 Cg.2.1, ir_123_61 Cg.2.1, ir_123_62 Cg.2.1, hlt, (px_w_n u1).trans v1, (px_w_n u3).trans v3, b3, b4, Int.natCast_nonneg, q1, th, r2.1, px_w_s (show i < 1000000 by omega)]
      rw [lvl, mn9]
      by_cases e9 : 9 < Int.tdiv (arV n c s t y (c (n + 15) (5 * w + i)) i) 500
      · rw [if_pos e9, if_pos e9]
      · rw [if_neg e9, if_neg e9]
    · intro v b hb hv
      show px_up g 137 (4 * w + i) (lvl n c s t y w i) 137 (4 * v + b) = _
      rw [px_up_at]
      by_cases e : v = w ∧ b = i
      · obtain ⟨rfl, rfl⟩ := e
        rw [if_pos rfl]
      · rw [if_neg (by omega)]
        exact H v b hb (by omega)) 4 0
  obtain ⟨⟨ls, k⟩, e1, ⟨z6, e2⟩, F, H⟩ := lp ([(2, 123), (0, (s : Int)), (0, (t : Int)), (0, (y : Int)), (0, (w : Int)), (0, 0), y6], g) rfl ⟨⟨y6, rfl⟩, F0, fun v b hb hv => H0 v b (by omega) hb⟩
  simp only at e1 e2 F H
  subst e2
  refine ⟨z6, k, ?_, F, fun v b hv hb => H v b hb (by omega)⟩
  rw [e1, eq_Mod_makeLevels_17, if_neg (by decide), px_w_s (by omega)]
  rfl
theorem R_makeLevels {n : Nat} {c h : hp} (C : LD n c h) {s t y : Nat} (hs : (s : Int) < c (n + 1) 0) (ht : (t : Int) < c (n + 1) 1) (hy : y ≤ 400) : ∃ g : hp, px_R (mm_Mod_makeLevels, 0, [(2, 123), (0, (s : Int)), (0, (t : Int)), (0, (y : Int)), (9, 0), (9, 0), (9, 0)], [], (K0, h)) = some (0, (K0, g)) ∧ Fr [137] [] h g ∧ ∀ w b : Nat, (w : Int) < c (n + 1) 2 → b < 4 → g 137 (4 * w + b) = lvl n c s t y w b := by
  have hc := ST_n C.2.2.1 (k := 2) (by decide)
  obtain ⟨W, hW⟩ := Int.eq_ofNat_of_zero_le hc.2.1
  have lp := px_lp (fun z : List pv × hp => px_R (mm_Mod_makeLevels, 3, z.1, [], (K0, z.2))) (fun i z => (∃ y5 y6 : pv, z.1 = [(2, 123), (0, (s : Int)), (0, (t : Int)), (0, (y : Int)), (0, (i : Int)), y5, y6]) ∧ Fr [137] [] h z.2 ∧ ∀ v b : Nat, v < i → b < 4 → z.2 137 (4 * v + b) = lvl n c s t y v b) W (by
    rintro i ⟨ls, g⟩ hi ⟨⟨y5, y6, h1⟩, F, H⟩
    simp only at h1 F H
    subst h1
    have Cg := LD_F C F (by decide) rfl rfl
    have q0 : g 125 2 = (W : Int) := (F 125 2 rfl).trans ((congrFun (C.2.2.2.2 125 (by decide) (by decide)) 2).trans (hc.1.trans hW))
    have hlt : ((i : Int) < (W : Int)) = True := eq_true (by omega)
    obtain ⟨z6, k, e1, F1, H1⟩ := ml_inner C hs ht hy (w := i) (by omega) y6 F H
    refine ⟨([(2, 123), (0, (s : Int)), (0, (t : Int)), (0, (y : Int)), (0, ((i + 1 : Nat) : Int)), (0, 4), z6], k), ?_, ⟨_, _, rfl⟩, F1, H1⟩
    show px_R (mm_Mod_makeLevels, 3, _, [], (K0, g)) = _
    rw [eq_Mod_makeLevels_3]
    simp only [px_rd_mk, px_wr_mk, Int.reduceToNat, Int.toNat_natCast, if_true, if_false, Option.bind_some, px_up_cell, px_up_slot, px_up_eq, ne_eq, Nat.reduceEqDiff, not_false_eq_true, Int.reduceEq, Int.reduceLT, Int.reduceLE, Int.reduceNeg, decide_true, decide_false, Bool.and_true, Bool.true_and, Bool.and_false, Bool.false_and, and_self, and_true, true_and, and_false, false_and, bi_T, bi_F, not_true_eq_false, Bool.false_eq_true, kg_123, ka_125, ir_123_0 Cg.2.1, ir_123_12 Cg.2.1, ir_123_13 Cg.2.1, ir_123_14 Cg.2.1, ir_123_15 Cg.2.1, ir_123_16 Cg.2.1, ir_123_17 Cg.2.1, ir_123_18 Cg.2.1, ir_123_19 Cg.2.1, ir_123_20 Cg.2.1, ir_123_21 Cg.2.1, ir_123_30 Cg.2.1, ir_123_31 Cg.2.1, ir_123_32 Cg.2.1, ir_123_33 Cg.2.1, ir_123_34 Cg.2.1, ir_123_35 Cg.2.1, ir_123_36 Cg.2.1, ir_123_37 Cg.2.1, ir_123_38 Cg.2.1, ir_123_39 Cg.2.1, ir_123_41 Cg.2.1, ir_123_42 Cg.2.1, ir_123_44 Cg.2.1, ir_123_45 Cg.2.1, ir_123_46 Cg.2.1, ir_123_50 Cg.2.1, ir_123_54 Cg.2.1, ir_123_55 Cg.2.1, ir_123_56 Cg.2.1, ir_123_57 Cg.2.1, ir_123_58 Cg.2.1, ir_123_59 Cg.2.1, ir_123_60 Cg.2.1, ir_123_61 Cg.2.1, ir_123_62 Cg.2.1, q0, hlt]
    exact e1) W 0
  obtain ⟨⟨ls, k⟩, e1, ⟨y5, y6, e2⟩, F, H⟩ := lp ([(2, 123), (0, (s : Int)), (0, (t : Int)), (0, (y : Int)), (0, 0), (9, 0), (9, 0)], h) (Nat.zero_add W) ⟨⟨_, _, rfl⟩, Fr_rf _ _ _, fun v b hv => absurd hv (by omega)⟩
  simp only at e1 e2 F H
  subst e2
  refine ⟨k, ?_, F, fun v b hv hb => H v b (by omega) hb⟩
  have Cg := LD_F C F (by decide) rfl rfl
  have q0 : k 125 2 = (W : Int) := (F 125 2 rfl).trans ((congrFun (C.2.2.2.2 125 (by decide) (by decide)) 2).trans (hc.1.trans hW))
  have hlt : ((W : Int) < (W : Int)) = False := eq_false (by omega)
  rw [eq_Mod_makeLevels_0, e1, eq_Mod_makeLevels_3]
  simp only [px_rd_mk, px_wr_mk, Int.reduceToNat, Int.toNat_natCast, if_true, if_false, Option.bind_some, px_up_cell, px_up_slot, px_up_eq, ne_eq, Nat.reduceEqDiff, not_false_eq_true, Int.reduceEq, Int.reduceLT, Int.reduceLE, Int.reduceNeg, decide_true, decide_false, Bool.and_true, Bool.true_and, Bool.and_false, Bool.false_and, and_self, and_true, true_and, and_false, false_and, bi_T, bi_F, not_true_eq_false, Bool.false_eq_true, kg_123, ka_125, ir_123_0 Cg.2.1, ir_123_12 Cg.2.1, ir_123_13 Cg.2.1, ir_123_14 Cg.2.1, ir_123_15 Cg.2.1, ir_123_16 Cg.2.1, ir_123_17 Cg.2.1, ir_123_18 Cg.2.1, ir_123_19 Cg.2.1, ir_123_20 Cg.2.1, ir_123_21 Cg.2.1, ir_123_30 Cg.2.1, ir_123_31 Cg.2.1, ir_123_32 Cg.2.1, ir_123_33 Cg.2.1, ir_123_34 Cg.2.1, ir_123_35 Cg.2.1, ir_123_36 Cg.2.1, ir_123_37 Cg.2.1, ir_123_38 Cg.2.1, ir_123_39 Cg.2.1, ir_123_41 Cg.2.1, ir_123_42 Cg.2.1, ir_123_44 Cg.2.1, ir_123_45 Cg.2.1, ir_123_46 Cg.2.1, ir_123_50 Cg.2.1, ir_123_54 Cg.2.1, ir_123_55 Cg.2.1, ir_123_56 Cg.2.1, ir_123_57 Cg.2.1, ir_123_58 Cg.2.1, ir_123_59 Cg.2.1, ir_123_60 Cg.2.1, ir_123_61 Cg.2.1, ir_123_62 Cg.2.1, q0, hlt]
