/-! The class's ear: what it learns. -/
theorem ir59 {h : hp} (hI : IR h) {k : Nat} (hk : k < 6) : h 59 k = ((60 + k : Nat) : Int) := by
  match k, hk with
  | 0, _ => exact ir_59_0 hI
  | 1, _ => exact ir_59_1 hI
  | 2, _ => exact ir_59_2 hI
  | 3, _ => exact ir_59_3 hI
  | 4, _ => exact ir_59_4 hI
  | 5, _ => exact ir_59_5 hI
theorem ka60 (h : hp) {k : Nat} (hk : k < 6) (i : Int) : px_ga (K0, h) 0 ((60 + k : Nat) : Int) i = (decide (0 ≤ i) && decide (i < 4)) := by
  match k, hk with
  | 0, _ => rfl
  | 1, _ => rfl
  | 2, _ => rfl
  | 3, _ => rfl
  | 4, _ => rfl
  | 5, _ => rfl
def bcs : List Nat := [60, 61, 62, 63, 64, 65]
def gcs : List Nat := [60, 61, 62, 63, 64, 65, 53, 54, 55, 56, 57, 58]
theorem fm60 {k : Nat} (hk : k < 6) (i : Nat) (ss : List (Nat × Nat)) : fin bcs ss (60 + k) i = true := by
  match k, hk with
  | 0, _ => rfl
  | 1, _ => rfl
  | 2, _ => rfl
  | 3, _ => rfl
  | 4, _ => rfl
  | 5, _ => rfl
theorem fg60 {k : Nat} (hk : k < 6) (i : Nat) : fin gcs [] (60 + k) i = true := by
  match k, hk with
  | 0, _ => rfl
  | 1, _ => rfl
  | 2, _ => rfl
  | 3, _ => rfl
  | 4, _ => rfl
  | 5, _ => rfl
theorem fg53 {k : Nat} (hk : k < 6) (i : Nat) : fin gcs [] (53 + k) i = true := by
  match k, hk with
  | 0, _ => rfl
  | 1, _ => rfl
  | 2, _ => rfl
  | 3, _ => rfl
  | 4, _ => rfl
  | 5, _ => rfl
def enW (n : Nat) (h : hp) (s t w b : Nat) : Int := enV (h (n + 15) (5 * w + b)) (h (n + 14) (5 * t + b)) (hsV (bsV n h s) (h 48 3))
theorem R_begin {n : Nat} {h mh : hp} (C : LCm n h mh) {s t : Nat} (h0 : h 48 0 = (s : Int)) (hs : (s : Int) < h (n + 1) 0) (h1 : h 48 1 = (t : Int)) (ht : (t : Int) < h (n + 1) 1) {W N : Nat} (hW : h (n + 1) 2 = (W : Int)) (hN : h (n + 21) 0 = (N : Int)) : ∃ g : hp, px_R (mm_Ear_begin, 0, [(2, 51), (2, (n : Int)), (2, 48), (9, 0), (9, 0), (9, 0)], [], (K0, h)) = some (0, (K0, g)) ∧ Fr bcs [(51, 0), (51, 1)] h g ∧ (g 51 0 = (W : Int) ∧ g 51 1 = (N : Int)) ∧ ∀ w b : Nat, w < W → b < 4 → g (60 + w) b = enW n h s t w b := by
  have CC := C
  obtain ⟨hn, hI, S, L⟩ := C
  have c2 := ST_n S (k := 2) (by decide)
  have F0 : Fr bcs [(51, 0), (51, 1)] h (px_up (px_up h 51 0 (W : Int)) 51 1 (N : Int)) := Fr_up (Fr_up (Fr_rf _ _ _) _ rfl) _ rfl
  have F00 : Fr [] [(51, 0)] h (px_up h 51 0 (W : Int)) := Fr_up (Fr_rf _ _ _) _ rfl
  have C00 := LCm_F CC F00 (by decide) rfl rfl
  have C0 := LCm_F CC F0 (by decide) rfl rfl
  have e8 := R_Str_number hn C00.2.1 (x1 := 8) (x2 := 0) (x3 := 0) 8 0 0 rfl rfl rfl (by decide) (by decide)
  rw [show n + 13 + 8 = n + 21 from rfl, show 5 * 0 + 0 = 0 from rfl, Fr_st hn F00 rfl (n + 21) (by omega) (by omega), hN] at e8
  have ho := R_handsOn hn C0.2.1 C0.2.2.1 (s := s) h0 (by rw [Fr_st hn F0 rfl (n + 1) (by omega) (by omega)]; exact hs) C0.2.2.2.1.2
  have eb : bsV n (px_up (px_up h 51 0 (W : Int)) 51 1 (N : Int)) s = bsV n h s := by
    unfold bsV
    rw [Fr_st hn F0 rfl (n + 13) (by omega) (by omega), Fr_st hn F0 rfl (n + 19) (by omega) (by omega), Fr_st hn F0 rfl (n + 20) (by omega) (by omega)]
  rw [eb] at ho
  have ho : px_R (mm_Line_handsOn, 0, [(2, 48), (2, (n : Int)), (9, 0)], [], (K0, px_up (px_up h 51 0 (W : Int)) 51 1 (N : Int))) = some (hsV (bsV n h s) (h 48 3), (K0, px_up (px_up h 51 0 (W : Int)) 51 1 (N : Int))) := ho
  have hr := hsV_rng (bs := bsV n h s) L.1.2
  have lp := px_lp (fun z : List pv × hp => px_R (mm_Ear_begin, 31, z.1, [], (K0, z.2))) (fun w z => (∃ y5 : pv, z.1 = [(2, 51), (2, (n : Int)), (2, 48), (0, hsV (bsV n h s) (h 48 3)), (0, (w : Int)), y5]) ∧ Fr bcs [(51, 0), (51, 1)] h z.2 ∧ (z.2 51 0 = (W : Int) ∧ z.2 51 1 = (N : Int)) ∧ ∀ v b : Nat, v < w → b < 4 → z.2 (60 + v) b = enW n h s t v b) W (by
    rintro w ⟨ls, g⟩ hw ⟨⟨y5, e1⟩, F, ⟨g0, g1⟩, V⟩
    simp only at e1 F g0 g1 V
    subst e1
    have Cg := LCm_F CC F (by decide) rfl rfl
    have hlt : ((w : Int) < (W : Int)) = True := eq_true (by omega)
    have to43 : px_R (mm_Ear_begin, 31, [(2, 51), (2, (n : Int)), (2, 48), (0, hsV (bsV n h s) (h 48 3)), (0, (w : Int)), y5], [], (K0, g)) = px_R (mm_Ear_begin, 43, [(2, 51), (2, (n : Int)), (2, 48), (0, hsV (bsV n h s) (h 48 3)), (0, (w : Int)), (0, 0)], [], (K0, g)) := by
      rw [eq_Ear_begin_31]
      simp only [px_rd_mk, px_wr_mk, Int.reduceToNat, Int.toNat_natCast, if_true, if_false, Option.bind_some, px_up_cell, px_up_slot, px_up_eq, ne_eq, Nat.reduceEqDiff, not_false_eq_true, Int.reduceEq, Int.reduceLT, Int.reduceLE, Int.reduceNeg, decide_true, decide_false, Bool.and_true, Bool.true_and, Bool.and_false, Bool.false_and, and_self, and_true, true_and, and_false, false_and, bi_T, bi_F, not_true_eq_false, Bool.false_eq_true, kg_51, g0, hlt]
    have lq := px_lp (fun z : List pv × hp => px_R (mm_Ear_begin, 43, z.1, [], (K0, z.2))) (fun b z => z.1 = [(2, 51), (2, (n : Int)), (2, 48), (0, hsV (bsV n h s) (h 48 3)), (0, (w : Int)), (0, (b : Int))] ∧ Fr bcs [(51, 0), (51, 1)] h z.2 ∧ (z.2 51 0 = (W : Int) ∧ z.2 51 1 = (N : Int)) ∧ ∀ v c : Nat, c < 4 → (v < w ∨ (v = w ∧ c < b)) → z.2 (60 + v) c = enW n h s t v c) 4 (by
      rintro b ⟨ls, g⟩ hb ⟨e1, F, ⟨g0, g1⟩, V⟩
      simp only at e1 F g0 g1 V
      subst e1
      have Cg := LCm_F CC F (by decide) rfl rfl
      have hlt : ((b : Int) < 4) = True := eq_true (by omega)
      have gw : (decide ((0 : Int) ≤ (w : Int)) && decide ((w : Int) < 6)) = true := gd_ok (by omega)
      have gb : (decide ((0 : Int) ≤ (b : Int)) && decide ((b : Int) < 4)) = true := gd_ok (by omega)
      have f14 := Fr_st hn F rfl (n + 14) (by omega) (by omega)
      have f15 := Fr_st hn F rfl (n + 15) (by omega) (by omega)
      have f1 := Fr_st hn F rfl (n + 1) (by omega) (by omega)
      have q := S.2.2.2.2.2.2.2.1 w (by omega) b hb
      have ob := R_Str_ofBand hn Cg.2.1 (x1 := 2) (x2 := (w : Int)) (x3 := (b : Int)) 2 w b rfl rfl rfl (by decide) (by omega)
      rw [show n + 13 + 2 = n + 15 from rfl, if_neg (by decide), show 5 * w + 0 + b = 5 * w + b from rfl, f15] at ob
      have en := R_enters hn Cg.2.1 Cg.2.2.1 (t := t) ((F 48 1 rfl).trans h1) (by rw [f1]; exact ht) hb q.2 hr
      rw [f14] at en
      refine ⟨([(2, 51), (2, (n : Int)), (2, 48), (0, hsV (bsV n h s) (h 48 3)), (0, (w : Int)), (0, ((b + 1 : Nat) : Int))], px_up g (60 + w) b (enW n h s t w b)), ?_, rfl, Fr_up F _ (fm60 (by omega) b _), ⟨(px_up_cell _ _ _ _ (by omega)).trans g0, (px_up_cell _ _ _ _ (by omega)).trans g1⟩, fun v c hc hv => ?_⟩
      · show px_R (mm_Ear_begin, 43, _, [], (K0, g)) = _
        have hl : ((b : Int) < 4) := by omega
        rw [eq_Ear_begin_43, if_pos hl]
        simp only [px_rd_mk, px_wr_mk, Int.reduceToNat, Int.toNat_natCast, if_true, if_false, Option.bind_some, px_up_cell, px_up_slot, px_up_eq, ne_eq, Nat.reduceEqDiff, not_false_eq_true, Int.reduceEq, Int.reduceLT, Int.reduceLE, Int.reduceNeg, decide_true, decide_false, Bool.and_true, Bool.true_and, Bool.and_false, Bool.false_and, and_self, and_true, true_and, and_false, false_and, bi_T, bi_F, not_true_eq_false, Bool.false_eq_true, kg_48, kg_51, ka_59, ir_51_2 Cg.2.1, ir_51_3 Cg.2.1, ir_51_4 Cg.2.1, ir_51_6 Cg.2.1, ir_51_7 Cg.2.1, ir_51_8 Cg.2.1, ir_51_9 Cg.2.1, sgo hn, gw, gb, ir59 Cg.2.1 (show w < 6 by omega), ka60 _ (show w < 6 by omega), ob, en, Bool.or_true, Bool.true_or, px_w_s (show b < 1000000 by omega)]
        rfl
      · show px_up g (60 + w) b (enW n h s t w b) (60 + v) c = _
        by_cases e : v = w
        · subst e
          rw [px_up_at]
          by_cases e2 : c = b
          · rw [if_pos e2, e2]
          · rw [if_neg e2]; exact V v c hc (by omega)
        · rw [px_up_cell _ _ _ _ (by omega)]; exact V v c hc (by omega)) 4 0
    obtain ⟨⟨ls, k⟩, f1, f2, F1, ⟨k0, k1⟩, V1⟩ := lq ([(2, 51), (2, (n : Int)), (2, 48), (0, hsV (bsV n h s) (h 48 3)), (0, (w : Int)), (0, 0)], g) rfl ⟨rfl, F, ⟨g0, g1⟩, fun v c hc hv => V v c (by omega) hc⟩
    simp only at f1 f2 F1 k0 k1 V1
    subst f2
    refine ⟨([(2, 51), (2, (n : Int)), (2, 48), (0, hsV (bsV n h s) (h 48 3)), (0, ((w + 1 : Nat) : Int)), (0, 4)], k), ?_, ⟨_, rfl⟩, F1, ⟨k0, k1⟩, fun v b hv hb => V1 v b hb (by omega)⟩
    show px_R (mm_Ear_begin, 31, _, [], (K0, g)) = _
    rw [to43, f1, eq_Ear_begin_43, if_neg (by decide), px_w_s (show w < 1000000 by omega)]
    rfl) W 0
  obtain ⟨⟨ls, g⟩, f1, ⟨y5, f2⟩, F, ⟨g0, g1⟩, V⟩ := lp ([(2, 51), (2, (n : Int)), (2, 48), (0, hsV (bsV n h s) (h 48 3)), (0, 0), (9, 0)], px_up (px_up h 51 0 (W : Int)) 51 1 (N : Int)) (Nat.zero_add W) ⟨⟨_, rfl⟩, F0, ⟨rfl, rfl⟩, fun v b hv => absurd hv (by omega)⟩
  simp only at f1 f2 F g0 g1 V
  subst f2
  refine ⟨g, ?_, F, ⟨g0, g1⟩, V⟩
  have hlt : ((W : Int) < (W : Int)) = False := eq_false (by omega)
  rw [eq_Ear_begin_0]
  simp only [px_rd_mk, px_wr_mk, Int.reduceToNat, Int.toNat_natCast, if_true, if_false, Option.bind_some, px_up_cell, px_up_slot, px_up_eq, ne_eq, Nat.reduceEqDiff, not_false_eq_true, Int.reduceEq, Int.reduceLT, Int.reduceLE, Int.reduceNeg, decide_true, decide_false, Bool.and_true, Bool.true_and, Bool.and_false, Bool.false_and, and_self, and_true, true_and, and_false, false_and, bi_T, bi_F, not_true_eq_false, Bool.false_eq_true, kg_48, kg_51, sgo hn, sr1 hn hI, sga1 hn, hW, e8, ho]
  rw [f1, eq_Ear_begin_31]
  simp only [px_rd_mk, px_wr_mk, Int.reduceToNat, Int.toNat_natCast, if_true, if_false, Option.bind_some, px_up_cell, px_up_slot, px_up_eq, ne_eq, Nat.reduceEqDiff, not_false_eq_true, Int.reduceEq, Int.reduceLT, Int.reduceLE, Int.reduceNeg, decide_true, decide_false, Bool.and_true, Bool.true_and, Bool.and_false, Bool.false_and, and_self, and_true, true_and, and_false, false_and, bi_T, bi_F, not_true_eq_false, Bool.false_eq_true, kg_48, kg_51, g0, hlt]
def lvP (n : Nat) (h : hp) (t b : Nat) (v : Int) : Int := px_mn 9 (Int.tdiv (lvV n h t b v) 500)
theorem lvV_rng {n : Nat} {h mh : hp} (C : LCm n h mh) {t : Nat} (ht : (t : Int) < h (n + 1) 1) {b : Nat} (hb : b < 4) {v : Int} (hv : 0 ≤ v ∧ v ≤ 9000) : 0 ≤ lvV n h t b v ∧ lvV n h t b v ≤ 9000 := by
  obtain ⟨hn, hI, S, L⟩ := C
  obtain ⟨s1, s2, s3⟩ := S.2.2.2.2.2.2.1 t ht b hb
  have r3 := tsV_rng L (bdV_rng S L hb hv (h 48 4).toNat (by have := L.2.1; omega)) (h 48 6).toNat (by have := L.2.2.1; omega)
  have r4 := tm_rng r3.1 s2 s3 (show (0 : Int) < 100 by decide)
  unfold lvV
  omega
theorem lvV_F {n : Nat} (hn : n = 4 ∨ n = 26) {h g : hp} {cs : List Nat} {ss : List (Nat × Nat)} (F : Fr cs ss h g) (e : (frf 4 48 cs ss && fdj cs ss [49, 50] [(48, 4), (48, 6)]) = true) (t b : Nat) (v : Int) : lvV n g t b v = lvV n h t b v := by
  rw [Bool.and_eq_true] at e
  have c := Fr_dj F e.2
  have e49 : g 49 = h 49 := funext fun i => c 49 i rfl
  have e50 : g 50 = h 50 := funext fun i => c 50 i rfl
  unfold lvV tsV bdV lbV
  rw [Fr_st hn F e.1 (n + 14) (by omega) (by omega), Fr_st hn F e.1 (n + 18) (by omega) (by omega), e49, e50, c 48 4 rfl, c 48 6 rfl]
theorem R_goOn {n : Nat} {h mh : hp} (C : LCm n h mh) {s t : Nat} (h0 : h 48 0 = (s : Int)) (hs : (s : Int) < h (n + 1) 0) (h1 : h 48 1 = (t : Int)) (ht : (t : Int) < h (n + 1) 1) {W : Nat} (hW : h 51 0 = (W : Int)) (hW6 : W ≤ 6) (hP : ∀ w b : Nat, w < W → b < 4 → 0 ≤ h (60 + w) b ∧ h (60 + w) b ≤ 9000) {k : Nat} (hk : k ≤ 400) : ∃ (v : Int) (g : hp), px_R (mm_Ear_goOn, 0, [(2, 51), (2, (n : Int)), (2, 48), (0, (k : Int)), (9, 0), (9, 0), (9, 0), (9, 0)], [], (K0, h)) = some (v, (K0, g)) ∧ Fr gcs [] h g ∧ (∀ w b : Nat, w < W → b < 4 → g (60 + w) b = oyV (1000 - h (n + 13) (5 * s + 1 + b)) k (h (60 + w) b) ∧ g (53 + w) b = lvP n h t b (oyV (1000 - h (n + 13) (5 * s + 1 + b)) k (h (60 + w) b))) ∧ (v = 0 ∨ v = 1) ∧ (v = 0 → ∀ w b : Nat, w < W → b < 4 → g (53 + w) b = h (53 + w) b) := by
  have CC := C
  obtain ⟨hn, hI, S, L⟩ := C
  have lp := px_lp (fun z : List pv × hp => px_R (mm_Ear_goOn, 6, z.1, [], (K0, z.2))) (fun w z => ∃ v : Int, (∃ y6 y7 : pv, z.1 = [(2, 51), (2, (n : Int)), (2, 48), (0, (k : Int)), (0, v), (0, (w : Int)), y6, y7]) ∧ Fr gcs [] h z.2 ∧ (∀ u b : Nat, b < 4 → (u < w → z.2 (60 + u) b = oyV (1000 - h (n + 13) (5 * s + 1 + b)) k (h (60 + u) b) ∧ z.2 (53 + u) b = lvP n h t b (oyV (1000 - h (n + 13) (5 * s + 1 + b)) k (h (60 + u) b))) ∧ (w ≤ u → u < 6 → z.2 (60 + u) b = h (60 + u) b ∧ z.2 (53 + u) b = h (53 + u) b)) ∧ (v = 0 ∨ v = 1) ∧ (v = 0 → ∀ u b : Nat, u < w → b < 4 → z.2 (53 + u) b = h (53 + u) b)) W (by
    rintro w ⟨ls, g⟩ hw ⟨v, ⟨y6, y7, e1⟩, F, V, v01, v0⟩
    simp only at e1 F V v0
    subst e1
    have hlt : ((w : Int) < (W : Int)) = True := eq_true (by omega)
    have to18 : px_R (mm_Ear_goOn, 6, [(2, 51), (2, (n : Int)), (2, 48), (0, (k : Int)), (0, v), (0, (w : Int)), y6, y7], [], (K0, g)) = px_R (mm_Ear_goOn, 18, [(2, 51), (2, (n : Int)), (2, 48), (0, (k : Int)), (0, v), (0, (w : Int)), (0, 0), y7], [], (K0, g)) := by
      rw [eq_Ear_goOn_6]
      simp only [px_rd_mk, px_wr_mk, Int.reduceToNat, Int.toNat_natCast, if_true, if_false, Option.bind_some, px_up_cell, px_up_slot, px_up_eq, ne_eq, Nat.reduceEqDiff, not_false_eq_true, Int.reduceEq, Int.reduceLT, Int.reduceLE, Int.reduceNeg, decide_true, decide_false, Bool.and_true, Bool.true_and, Bool.and_false, Bool.false_and, and_self, and_true, true_and, and_false, false_and, bi_T, bi_F, not_true_eq_false, Bool.false_eq_true, kg_51, (F 51 0 rfl).trans hW, hlt]
    have lq := px_lp (fun z : List pv × hp => px_R (mm_Ear_goOn, 18, z.1, [], (K0, z.2))) (fun b z => ∃ v : Int, (∃ y7 : pv, z.1 = [(2, 51), (2, (n : Int)), (2, 48), (0, (k : Int)), (0, v), (0, (w : Int)), (0, (b : Int)), y7]) ∧ Fr gcs [] h z.2 ∧ (∀ u c : Nat, c < 4 → ((u < w ∨ (u = w ∧ c < b)) → z.2 (60 + u) c = oyV (1000 - h (n + 13) (5 * s + 1 + c)) k (h (60 + u) c) ∧ z.2 (53 + u) c = lvP n h t c (oyV (1000 - h (n + 13) (5 * s + 1 + c)) k (h (60 + u) c))) ∧ ((w < u ∨ (u = w ∧ b ≤ c)) → u < 6 → z.2 (60 + u) c = h (60 + u) c ∧ z.2 (53 + u) c = h (53 + u) c)) ∧ (v = 0 ∨ v = 1) ∧ (v = 0 → ∀ u c : Nat, c < 4 → (u < w ∨ (u = w ∧ c < b)) → z.2 (53 + u) c = h (53 + u) c)) 4 (by
      rintro b ⟨ls, g⟩ hb ⟨v, ⟨y7, e1⟩, F, V, v01, v0⟩
      simp only at e1 F V v0
      subst e1
      have Cg := LCm_F CC F (by decide) rfl rfl
      have gw : (decide ((0 : Int) ≤ (w : Int)) && decide ((w : Int) < 6)) = true := gd_ok (by omega)
      have gb : (decide ((0 : Int) ≤ (b : Int)) && decide ((b : Int) < 4)) = true := gd_ok (by omega)
      have f13 := Fr_st hn F rfl (n + 13) (by omega) (by omega)
      have f1 := Fr_st hn F rfl (n + 1) (by omega) (by omega)
      have w6 : w < 6 := by omega
      obtain ⟨o1, o2⟩ := (V w b hb).2 (by omega) w6
      have pr := hP w b hw hb
      have rr := oy_rng S hs hb pr k
      have oy := R_overYards hn Cg.2.1 Cg.2.2.1 (s := s) ((F 48 0 rfl).trans h0) (by rw [f1]; exact hs) hb (v := h (60 + w) b) pr hk
      rw [f13] at oy
      have G1 : Fr gcs [] h (px_up g (60 + w) b (oyV (1000 - h (n + 13) (5 * s + 1 + b)) k (h (60 + w) b))) := Fr_up F _ (fg60 w6 b)
      have Ck := LCm_F CC G1 (by decide) rfl rfl
      have lv := R_leaves hn Ck.2.1 Ck.2.2.1 Ck.2.2.2 (t := t) ((G1 48 1 rfl).trans h1) (by rw [Fr_st hn G1 rfl (n + 1) (by omega) (by omega)]; exact ht) hb rr
      rw [lvV_F hn G1 rfl] at lv
      have lr := lvV_rng CC ht hb rr
      have ar := as_rng lr
      have hl : ((b : Int) < 4) := by omega
      have asl : px_R (mm_Line_asLevel, 0, [(0, lvV n h t b (oyV (1000 - h (n + 13) (5 * s + 1 + b)) k (h (60 + w) b)))], [], (K0, px_up g (60 + w) b (oyV (1000 - h (n + 13) (5 * s + 1 + b)) k (h (60 + w) b)))) = some (lvP n h t b (oyV (1000 - h (n + 13) (5 * s + 1 + b)) k (h (60 + w) b)), (K0, px_up g (60 + w) b (oyV (1000 - h (n + 13) (5 * s + 1 + b)) k (h (60 + w) b)))) := by
        rw [eq_Line_asLevel_0, ar.1]
        rfl
      have n1 : ¬ 59 = 60 + w := by omega
      have n2 : ¬ 51 = 60 + w := by omega
      have n3 : ¬ 52 = 60 + w := by omega
      have n4 : ¬ 53 + w = 60 + w := by omega
      have fin2 : ∀ v2 : Int, (∀ u c : Nat, c < 4 → ((u < w ∨ (u = w ∧ c < b + 1)) → px_up (px_up g (60 + w) b (oyV (1000 - h (n + 13) (5 * s + 1 + b)) k (h (60 + w) b))) (53 + w) b (lvP n h t b (oyV (1000 - h (n + 13) (5 * s + 1 + b)) k (h (60 + w) b))) (60 + u) c = oyV (1000 - h (n + 13) (5 * s + 1 + c)) k (h (60 + u) c) ∧ px_up (px_up g (60 + w) b (oyV (1000 - h (n + 13) (5 * s + 1 + b)) k (h (60 + w) b))) (53 + w) b (lvP n h t b (oyV (1000 - h (n + 13) (5 * s + 1 + b)) k (h (60 + w) b))) (53 + u) c = lvP n h t c (oyV (1000 - h (n + 13) (5 * s + 1 + c)) k (h (60 + u) c))) ∧ ((w < u ∨ (u = w ∧ b + 1 ≤ c)) → u < 6 → px_up (px_up g (60 + w) b (oyV (1000 - h (n + 13) (5 * s + 1 + b)) k (h (60 + w) b))) (53 + w) b (lvP n h t b (oyV (1000 - h (n + 13) (5 * s + 1 + b)) k (h (60 + w) b))) (60 + u) c = h (60 + u) c ∧ px_up (px_up g (60 + w) b (oyV (1000 - h (n + 13) (5 * s + 1 + b)) k (h (60 + w) b))) (53 + w) b (lvP n h t b (oyV (1000 - h (n + 13) (5 * s + 1 + b)) k (h (60 + w) b))) (53 + u) c = h (53 + u) c)) := fun _ u c hc => by
        refine ⟨fun hu => ?_, fun hu hu6 => ?_⟩
        · by_cases e : u = w ∧ c = b
          · obtain ⟨rfl, rfl⟩ := e
            unfold px_up
            rw [if_neg (by omega), if_pos ⟨rfl, rfl⟩, if_pos ⟨rfl, rfl⟩]
            exact ⟨rfl, rfl⟩
          · have V1 := (V u c hc).1 (by omega)
            unfold px_up
            rw [if_neg (by omega), if_neg (by omega), if_neg (by omega), if_neg (by omega)]
            exact V1
        · have V1 := (V u c hc).2 (by omega) hu6
          unfold px_up
          rw [if_neg (by omega), if_neg (by omega), if_neg (by omega), if_neg (by omega)]
          exact V1
      by_cases c0 : v = 0
      · subst c0
        by_cases ce : lvP n h t b (oyV (1000 - h (n + 13) (5 * s + 1 + b)) k (h (60 + w) b)) = h (53 + w) b
        · refine ⟨([(2, 51), (2, (n : Int)), (2, 48), (0, (k : Int)), (0, 0), (0, (w : Int)), (0, ((b + 1 : Nat) : Int)), (0, lvP n h t b (oyV (1000 - h (n + 13) (5 * s + 1 + b)) k (h (60 + w) b)))], px_up (px_up g (60 + w) b (oyV (1000 - h (n + 13) (5 * s + 1 + b)) k (h (60 + w) b))) (53 + w) b (lvP n h t b (oyV (1000 - h (n + 13) (5 * s + 1 + b)) k (h (60 + w) b)))), ?_, 0, ⟨_, rfl⟩, Fr_up G1 _ (fg53 w6 b), fin2 0, Or.inl rfl, fun _ u c hc hu => ?_⟩
          · show px_R (mm_Ear_goOn, 18, _, [], (K0, g)) = _
            rw [eq_Ear_goOn_18, if_pos hl]
            simp only [px_rd_mk, px_wr_mk, Int.reduceToNat, Int.toNat_natCast, if_true, if_false, Option.bind_some, px_up_cell, px_up_slot, px_up_eq, ne_eq, Nat.reduceEqDiff, not_false_eq_true, Int.reduceEq, Int.reduceLT, Int.reduceLE, Int.reduceNeg, decide_true, decide_false, Bool.and_true, Bool.true_and, Bool.and_false, Bool.false_and, and_self, and_true, true_and, and_false, false_and, bi_T, bi_F, not_true_eq_false, Bool.false_eq_true, kg_48, kg_51, ka_52, ka_59, ir_51_2 Cg.2.1, ir_51_3 Cg.2.1, ir_51_4 Cg.2.1, ir_51_6 Cg.2.1, ir_51_7 Cg.2.1, ir_51_8 Cg.2.1, ir_51_9 Cg.2.1, sgo hn, gw, gb, ir59 Cg.2.1 w6, ka60 _ w6, ir52 Cg.2.1 w6, ka53 _ w6, o1, o2, oy, lv, asl, n1, n2, n3, n4, Bool.or_true, Bool.true_or, px_w_s (show b < 1000000 by omega)]
            rw [if_pos ce]
          · by_cases e : u = w ∧ c = b
            · obtain ⟨rfl, rfl⟩ := e
              show px_up _ (53 + u) c _ (53 + u) c = _
              rw [px_up_eq]
              exact ce
            · have := v0 rfl u c hc (by omega)
              show px_up (px_up g (60 + w) b _) (53 + w) b _ (53 + u) c = _
              unfold px_up
              rw [if_neg (by omega), if_neg (by omega)]
              exact this
        · refine ⟨([(2, 51), (2, (n : Int)), (2, 48), (0, (k : Int)), (0, 1), (0, (w : Int)), (0, ((b + 1 : Nat) : Int)), (0, lvP n h t b (oyV (1000 - h (n + 13) (5 * s + 1 + b)) k (h (60 + w) b)))], px_up (px_up g (60 + w) b (oyV (1000 - h (n + 13) (5 * s + 1 + b)) k (h (60 + w) b))) (53 + w) b (lvP n h t b (oyV (1000 - h (n + 13) (5 * s + 1 + b)) k (h (60 + w) b)))), ?_, 1, ⟨_, rfl⟩, Fr_up G1 _ (fg53 w6 b), fin2 0, Or.inr rfl, fun z => absurd z (by decide)⟩
          show px_R (mm_Ear_goOn, 18, _, [], (K0, g)) = _
          rw [eq_Ear_goOn_18, if_pos hl]
          simp only [px_rd_mk, px_wr_mk, Int.reduceToNat, Int.toNat_natCast, if_true, if_false, Option.bind_some, px_up_cell, px_up_slot, px_up_eq, ne_eq, Nat.reduceEqDiff, not_false_eq_true, Int.reduceEq, Int.reduceLT, Int.reduceLE, Int.reduceNeg, decide_true, decide_false, Bool.and_true, Bool.true_and, Bool.and_false, Bool.false_and, and_self, and_true, true_and, and_false, false_and, bi_T, bi_F, not_true_eq_false, Bool.false_eq_true, kg_48, kg_51, ka_52, ka_59, ir_51_2 Cg.2.1, ir_51_3 Cg.2.1, ir_51_4 Cg.2.1, ir_51_6 Cg.2.1, ir_51_7 Cg.2.1, ir_51_8 Cg.2.1, ir_51_9 Cg.2.1, sgo hn, gw, gb, ir59 Cg.2.1 w6, ka60 _ w6, ir52 Cg.2.1 w6, ka53 _ w6, o1, o2, oy, lv, asl, n1, n2, n3, n4, ce, Bool.or_true, Bool.true_or, px_w_s (show b < 1000000 by omega)]
      · have c1 : v = 1 := by omega
        subst c1
        refine ⟨([(2, 51), (2, (n : Int)), (2, 48), (0, (k : Int)), (0, 1), (0, (w : Int)), (0, ((b + 1 : Nat) : Int)), (0, lvP n h t b (oyV (1000 - h (n + 13) (5 * s + 1 + b)) k (h (60 + w) b)))], px_up (px_up g (60 + w) b (oyV (1000 - h (n + 13) (5 * s + 1 + b)) k (h (60 + w) b))) (53 + w) b (lvP n h t b (oyV (1000 - h (n + 13) (5 * s + 1 + b)) k (h (60 + w) b)))), ?_, 1, ⟨_, rfl⟩, Fr_up G1 _ (fg53 w6 b), fin2 0, Or.inr rfl, fun z => absurd z (by decide)⟩
        show px_R (mm_Ear_goOn, 18, _, [], (K0, g)) = _
        rw [eq_Ear_goOn_18, if_pos hl]
        simp only [px_rd_mk, px_wr_mk, Int.reduceToNat, Int.toNat_natCast, if_true, if_false, Option.bind_some, px_up_cell, px_up_slot, px_up_eq, ne_eq, Nat.reduceEqDiff, not_false_eq_true, Int.reduceEq, Int.reduceLT, Int.reduceLE, Int.reduceNeg, decide_true, decide_false, Bool.and_true, Bool.true_and, Bool.and_false, Bool.false_and, and_self, and_true, true_and, and_false, false_and, bi_T, bi_F, not_true_eq_false, Bool.false_eq_true, kg_48, kg_51, ka_52, ka_59, ir_51_2 Cg.2.1, ir_51_3 Cg.2.1, ir_51_4 Cg.2.1, ir_51_6 Cg.2.1, ir_51_7 Cg.2.1, ir_51_8 Cg.2.1, ir_51_9 Cg.2.1, sgo hn, gw, gb, ir59 Cg.2.1 w6, ka60 _ w6, ir52 Cg.2.1 w6, ka53 _ w6, o1, o2, oy, lv, asl, n1, n2, n3, n4, Bool.or_true, Bool.true_or, px_w_s (show b < 1000000 by omega)]) 4 0
    obtain ⟨⟨ls, j⟩, f1, v2, ⟨y7b, f2⟩, F1, V1, v201, v20⟩ := lq ([(2, 51), (2, (n : Int)), (2, 48), (0, (k : Int)), (0, v), (0, (w : Int)), (0, 0), y7], g) rfl ⟨v, ⟨_, rfl⟩, F, fun u c hc => ⟨fun hu => (V u c hc).1 (by omega), fun hu hu6 => (V u c hc).2 (by omega) hu6⟩, v01, fun z u c hc hu => v0 z u c (by omega) hc⟩
    simp only at f1 f2 F1 V1 v20
    subst f2
    refine ⟨([(2, 51), (2, (n : Int)), (2, 48), (0, (k : Int)), (0, v2), (0, ((w + 1 : Nat) : Int)), (0, 4), y7b], j), ?_, v2, ⟨_, _, rfl⟩, F1, fun u c hc => ⟨fun hu => (V1 u c hc).1 (by omega), fun hu hu6 => (V1 u c hc).2 (by omega) hu6⟩, v201, fun z u c hu hc => v20 z u c hc (by omega)⟩
    show px_R (mm_Ear_goOn, 6, _, [], (K0, g)) = _
    rw [to18, f1, eq_Ear_goOn_18, if_neg (by decide), px_w_s (show w < 1000000 by omega)]
    rfl) W 0
  obtain ⟨⟨ls, g⟩, f1, v, ⟨y6, y7, f2⟩, F, V, v01, v0⟩ := lp ([(2, 51), (2, (n : Int)), (2, 48), (0, (k : Int)), (0, 0), (0, 0), (9, 0), (9, 0)], h) (Nat.zero_add W) ⟨0, ⟨_, _, rfl⟩, Fr_rf _ _ _, fun u c hc => ⟨fun hu => absurd hu (by omega), fun _ _ => ⟨rfl, rfl⟩⟩, Or.inl rfl, fun _ u b hu => absurd hu (by omega)⟩
  simp only at f1 f2 F V v0
  subst f2
  refine ⟨v, g, ?_, F, fun w b hw hb => (V w b hb).1 hw, v01, v0⟩
  have hlt : ((W : Int) < (W : Int)) = False := eq_false (by omega)
  have gv : (decide ((0 : Int) ≤ v) && decide (v < 2)) = true := gd_ok (by omega)
  rw [eq_Ear_goOn_0, f1, eq_Ear_goOn_6]
  simp only [px_rd_mk, px_wr_mk, Int.reduceToNat, Int.toNat_natCast, if_true, if_false, Option.bind_some, px_up_cell, px_up_slot, px_up_eq, ne_eq, Nat.reduceEqDiff, not_false_eq_true, Int.reduceEq, Int.reduceLT, Int.reduceLE, Int.reduceNeg, decide_true, decide_false, Bool.and_true, Bool.true_and, Bool.and_false, Bool.false_and, and_self, and_true, true_and, and_false, false_and, bi_T, bi_F, not_true_eq_false, Bool.false_eq_true, kg_51, (F 51 0 rfl).trans hW, hlt, gv]
