/-! The class's ear: words thought of, distances packed, the nearest. -/
theorem ir52 {h : hp} (hI : IR h) {k : Nat} (hk : k < 6) : h 52 k = ((53 + k : Nat) : Int) := by
  match k, hk with
  | 0, _ => exact ir_52_0 hI
  | 1, _ => exact ir_52_1 hI
  | 2, _ => exact ir_52_2 hI
  | 3, _ => exact ir_52_3 hI
  | 4, _ => exact ir_52_4 hI
  | 5, _ => exact ir_52_5 hI
theorem ka53 (h : hp) {k : Nat} (hk : k < 6) (i : Int) : px_ga (K0, h) 0 ((53 + k : Nat) : Int) i = (decide (0 ≤ i) && decide (i < 4)) := by
  match k, hk with
  | 0, _ => rfl
  | 1, _ => rfl
  | 2, _ => rfl
  | 3, _ => rfl
  | 4, _ => rfl
  | 5, _ => rfl
def EC (W N : Nat) (L : Nat → Nat → Int) (h : hp) : Prop := W ≤ 6 ∧ N ≤ 3 ∧ IR h ∧ h 51 0 = (W : Int) ∧ h 51 1 = (N : Int) ∧ ∀ w b : Nat, w < W → b < 4 → h (53 + w) b = L w b ∧ 0 ≤ L w b ∧ L w b ≤ 9
theorem EC_F {W N : Nat} {L : Nat → Nat → Int} {h g : hp} {cs : List Nat} {ss : List (Nat × Nat)} (H : EC W N L h) (F : Fr cs ss h g) (e1 : (rl.all fun q => !(fin cs ss q.1 q.2.1)) = true) (e2 : (frf 53 59 cs ss && fdj cs ss [] [(51, 0), (51, 1)]) = true) : EC W N L g := by
  rw [Bool.and_eq_true] at e2
  have c := Fr_dj F e2.2
  obtain ⟨h1, h2, h3, h4, h5, h6⟩ := H
  exact ⟨h1, h2, IR_Fr h3 F e1, (c 51 0 rfl).trans h4, (c 51 1 rfl).trans h5, fun w b hw hb => by rw [Fr_rg F 53 59 e2.1 (by omega) (by omega)]; exact h6 w b hw hb⟩
def cq (f g : Nat → Int) : Nat → Nat
  | 0 => 0
  | i + 1 => cq f g i + (if f i = g i then 1 else 0)
theorem cq_ok (f g : Nat → Int) : ∀ i : Nat, cq f g i ≤ i ∧ (cq f g i = i ↔ ∀ b, b < i → f b = g b)
  | 0 => ⟨Nat.le_refl 0, ⟨fun _ b hb => absurd hb (by omega), fun _ => rfl⟩⟩
  | i + 1 => by
    obtain ⟨h1, h2⟩ := cq_ok f g i
    rw [cq]
    by_cases e : f i = g i
    · rw [if_pos e]
      refine ⟨by omega, fun q b hb => ?_, fun q => ?_⟩
      · by_cases z : b = i
        · rw [z]; exact e
        · exact h2.mp (by omega) b (by omega)
      · rw [h2.mpr fun b hb => q b (by omega)]
    · rw [if_neg e]
      refine ⟨by omega, fun q => by omega, fun q => absurd (q i (by omega)) e⟩
/-- word w sounds as word v -/
def al4 (L : Nat → Nat → Int) (w v : Nat) : Bool := decide (cq (L w) (L v) 4 = 4)
theorem al4_iff (L : Nat → Nat → Int) (w v : Nat) : al4 L w v = true ↔ ∀ b, b < 4 → L w b = L v b := by
  unfold al4
  rw [decide_eq_true_eq]
  exact (cq_ok (L w) (L v) 4).2
theorem sae_inner {W N : Nat} {L : Nat → Nat → Int} {h : hp} (E : EC W N L h) {w v : Nat} (hw : w < W) (hv : v < W) (x2 : Int) (k : Nat) : ∀ i : Nat, i + k = 4 → px_R (mm_Ear_soundsAsEarlier, 28, [(2, 51), (0, (w : Int)), (0, x2), (2, ((53 + v : Nat) : Int)), (0, ((cq (L w) (L v) i : Nat) : Int)), (0, (i : Int))], [], (K0, h)) = (if al4 L w v = true then some (1, (K0, h)) else px_R (mm_Ear_soundsAsEarlier, 2, [(2, 51), (0, (w : Int)), (0, px_w (x2 + 1)), (2, ((53 + v : Nat) : Int)), (0, ((cq (L w) (L v) 4 : Nat) : Int)), (0, 4)], [], (K0, h))) := by
  obtain ⟨hW, hN, hI, e1, e2, e3⟩ := E
  induction k with
  | zero =>
    intro i hi
    have : i = 4 := hi
    subst this
    rw [eq_Ear_soundsAsEarlier_28, if_neg (by decide)]
    unfold al4
    by_cases c : cq (L w) (L v) 4 = 4
    · rw [if_pos (by omega), if_pos (by simp [c])]
    · rw [if_neg (by omega), if_neg (by simp [c])]
      rfl
  | succ k ih =>
    intro i hi
    have hi4 : i < 4 := by omega
    have hlt : ((i : Int) < 4) = True := eq_true (by omega)
    have g6 : (decide ((0 : Int) ≤ (w : Int)) && decide ((w : Int) < 6)) = true := gd_ok (by omega)
    have g4 : (decide ((0 : Int) ≤ (i : Int)) && decide (True)) = true := by simp
    have cl := (cq_ok (L w) (L v) i).1
    have u1 : -2147483648 ≤ ((cq (L w) (L v) i : Nat) : Int) + 1 ∧ ((cq (L w) (L v) i : Nat) : Int) + 1 < 2147483648 := by omega
    have u0 : -2147483648 ≤ ((cq (L w) (L v) i : Nat) : Int) + 0 ∧ ((cq (L w) (L v) i : Nat) : Int) + 0 < 2147483648 := by omega
    have l1 := (e3 w i hw hi4).1
    have l2 := (e3 v i hv hi4).1
    have i1 := ih (i + 1) (by omega)
    have w6 : w < 6 := by omega
    have v6 : v < 6 := by omega
    rw [eq_Ear_soundsAsEarlier_28]
    simp only [px_rd_mk, px_wr_mk, Int.reduceToNat, Int.toNat_natCast, if_true, if_false, Option.bind_some, px_up_cell, px_up_slot, px_up_eq, ne_eq, Nat.reduceEqDiff, not_false_eq_true, Int.reduceEq, Int.reduceLT, Int.reduceLE, Int.reduceNeg, decide_true, decide_false, Bool.and_true, Bool.true_and, Bool.and_false, Bool.false_and, and_self, and_true, true_and, and_false, false_and, bi_T, bi_F, not_true_eq_false, Bool.false_eq_true, kg_51, ka_52, ir_51_2 hI, ir_51_3 hI, ir_51_4 hI, ir_51_6 hI, ir_51_7 hI, ir_51_8 hI, ir_51_9 hI, ir52 hI w6, ka53 h w6, ka53 h v6, g6, hlt, g4, l1, l2, Bool.or_true, Bool.true_or, px_w_n u1, px_w_n u0, px_w_s (show i < 1000000 by omega)]
    by_cases c : L w i = L v i
    · rw [if_pos c]
      rw [show ((cq (L w) (L v) i : Nat) : Int) + 1 = ((cq (L w) (L v) (i + 1) : Nat) : Int) from by rw [cq, if_pos c]; omega]
      exact i1
    · rw [if_neg c]
      rw [show ((cq (L w) (L v) i : Nat) : Int) + 0 = ((cq (L w) (L v) (i + 1) : Nat) : Int) from by rw [cq, if_neg c]; omega]
      exact i1
theorem sae_loop {W N : Nat} {L : Nat → Nat → Int} {h : hp} (E : EC W N L h) {m : Nat} {t : Nat → Nat} (hm : h 51 5 = (m : Int)) (hm6 : m ≤ 6) (ht : ∀ i, i < m → h 67 i = (t i : Int) ∧ t i < W) {w : Nat} (hw : w < W) (k : Nat) : ∀ i : Nat, i + k = m → ∀ y3 y4 y5 : pv, px_R (mm_Ear_soundsAsEarlier, 2, [(2, 51), (0, (w : Int)), (0, (i : Int)), y3, y4, y5], [], (K0, h)) = some (if anf (fun j => al4 L w (t j)) i k = true then 1 else 0, (K0, h)) := by
  have EE := E
  obtain ⟨hW, hN, hI, e1, e2, e3⟩ := E
  induction k with
  | zero =>
    intro i hi y3 y4 y5
    have : i = m := hi
    subst this
    have hlt : ((i : Int) < (i : Int)) = False := eq_false (by omega)
    rw [eq_Ear_soundsAsEarlier_2]
    simp only [px_rd_mk, px_wr_mk, Int.reduceToNat, Int.toNat_natCast, if_true, if_false, Option.bind_some, px_up_cell, px_up_slot, px_up_eq, ne_eq, Nat.reduceEqDiff, not_false_eq_true, Int.reduceEq, Int.reduceLT, Int.reduceLE, Int.reduceNeg, decide_true, decide_false, Bool.and_true, Bool.true_and, Bool.and_false, Bool.false_and, and_self, and_true, true_and, and_false, false_and, bi_T, bi_F, not_true_eq_false, Bool.false_eq_true, kg_51, hm, hlt, anf]
  | succ k ih =>
    intro i hi y3 y4 y5
    have hlt : ((i : Int) < (m : Int)) = True := eq_true (by omega)
    have gi : (decide ((0 : Int) ≤ (i : Int)) && decide ((i : Int) < 6)) = true := gd_ok (by omega)
    obtain ⟨t1, t2⟩ := ht i (by omega)
    have gt : (decide ((0 : Int) ≤ (t i : Int)) && decide ((t i : Int) < 6)) = true := gd_ok (by omega)
    have inn := sae_inner EE hw t2 (i : Int) 4 0 rfl
    have i1 := ih (i + 1) (by omega) (2, ((53 + t i : Nat) : Int)) (0, ((cq (L w) (L (t i)) 4 : Nat) : Int)) (0, 4)
    have inn2 : px_R (mm_Ear_soundsAsEarlier, 28, [(2, 51), (0, (w : Int)), (0, (i : Int)), (2, ((53 + t i : Nat) : Int)), (0, 0), (0, 0)], [], (K0, h)) = _ := inn
    rw [eq_Ear_soundsAsEarlier_2]
    simp only [px_rd_mk, px_wr_mk, Int.reduceToNat, Int.toNat_natCast, if_true, if_false, Option.bind_some, px_up_cell, px_up_slot, px_up_eq, ne_eq, Nat.reduceEqDiff, not_false_eq_true, Int.reduceEq, Int.reduceLT, Int.reduceLE, Int.reduceNeg, decide_true, decide_false, Bool.and_true, Bool.true_and, Bool.and_false, Bool.false_and, and_self, and_true, true_and, and_false, false_and, bi_T, bi_F, not_true_eq_false, Bool.false_eq_true, kg_51, ka_52, ka_67, ir_51_2 hI, ir_51_3 hI, ir_51_4 hI, ir_51_6 hI, ir_51_7 hI, ir_51_8 hI, ir_51_9 hI, hm, hlt, gi, t1, gt, ir52 hI (show t i < 6 by omega), Bool.or_true, Bool.true_or, inn2, px_w_s (show i < 1000000 by omega), i1]
    rw [anf]
    cases al4 L w (t i)
    · simp only [px_rd_mk, px_wr_mk, Int.reduceToNat, Int.toNat_natCast, if_true, if_false, Option.bind_some, px_up_cell, px_up_slot, px_up_eq, ne_eq, Nat.reduceEqDiff, not_false_eq_true, Int.reduceEq, Int.reduceLT, Int.reduceLE, Int.reduceNeg, decide_true, decide_false, Bool.and_true, Bool.true_and, Bool.and_false, Bool.false_and, and_self, and_true, true_and, and_false, false_and, bi_T, bi_F, not_true_eq_false, Bool.false_eq_true, Bool.false_or]
    · simp only [px_rd_mk, px_wr_mk, Int.reduceToNat, Int.toNat_natCast, if_true, if_false, Option.bind_some, px_up_cell, px_up_slot, px_up_eq, ne_eq, Nat.reduceEqDiff, not_false_eq_true, Int.reduceEq, Int.reduceLT, Int.reduceLE, Int.reduceNeg, decide_true, decide_false, Bool.and_true, Bool.true_and, Bool.and_false, Bool.false_and, and_self, and_true, true_and, and_false, false_and, bi_T, bi_F, not_true_eq_false, Bool.false_eq_true, Bool.true_or]
theorem R_sae {W N : Nat} {L : Nat → Nat → Int} {h : hp} (E : EC W N L h) {m : Nat} {t : Nat → Nat} (hm : h 51 5 = (m : Int)) (hm6 : m ≤ 6) (ht : ∀ i, i < m → h 67 i = (t i : Int) ∧ t i < W) {w : Nat} (hw : w < W) : px_R (mm_Ear_soundsAsEarlier, 0, [(2, 51), (0, (w : Int)), (9, 0), (9, 0), (9, 0), (9, 0)], [], (K0, h)) = some (if anf (fun j => al4 L w (t j)) 0 m = true then 1 else 0, (K0, h)) := by
  have l := sae_loop E hm hm6 ht hw m 0 (Nat.zero_add m) (9, 0) (9, 0) (9, 0)
  rw [eq_Ear_soundsAsEarlier_0]
  exact l
theorem R_thinkOf {W N : Nat} {L : Nat → Nat → Int} {h : hp} (E : EC W N L h) {T : Nat} (hT : T < 1024) : ∃ (g : hp) (m : Nat) (t : Nat → Nat), px_R (mm_Ear_thinkOf, 0, [(2, 51), (0, (T : Int)), (9, 0)], [], (K0, h)) = some (0, (K0, g)) ∧ Fr [67] [(51, 5)] h g ∧ g 51 5 = (m : Int) ∧ (∀ j, j < m → g 67 j = (t j : Int)) ∧ TL W T L m t := by
  have EE := E
  obtain ⟨hW, hN, hI, e1, e2, e3⟩ := E
  have lp := px_lp (fun z : List pv × hp => px_R (mm_Ear_thinkOf, 7, z.1, [], (K0, z.2))) (fun i z => z.1 = [(2, 51), (0, (T : Int)), (0, (i : Int))] ∧ Fr [67] [(51, 5)] h z.2 ∧ ∃ (m : Nat) (t : Nat → Nat), z.2 51 5 = (m : Int) ∧ (∀ j, j < m → z.2 67 j = (t j : Int)) ∧ TL i T L m t) W (by
    rintro i ⟨ls, g⟩ hi ⟨h1, F, m, t, h2, h3, h4⟩
    simp only at h1 F h2 h3
    subst h1
    have Eg := EC_F EE F (by decide) rfl
    have hlt : ((i : Int) < (W : Int)) = True := eq_true (by omega)
    have g0 : g 51 0 = (W : Int) := Eg.2.2.2.1
    have bg := bit_g hT (show i < 10 by omega)
    obtain ⟨t0, t1, t2, t3⟩ := h4
    have lt2 : T / 2 ^ i % 2 < 2 := Nat.mod_lt _ (by decide)
    by_cases b : T / 2 ^ i % 2 = 1
    · have bt : inS T i = true := by unfold inS; exact decide_eq_true b
      rw [b] at bg
      have bg1 : px_and (px_shr (T : Int) (i : Int)) 1 = 1 := bg
      have sa := R_sae Eg (m := m) (t := t) (w := i) h2 (by omega) (fun j hj => ⟨h3 j hj, by have := (t1 j hj).1; omega⟩) hi
      cases an : anf (fun j => al4 L i (t j)) 0 m
      · refine ⟨([(2, 51), (0, (T : Int)), (0, ((i + 1 : Nat) : Int))], px_up (px_up g 67 m (i : Int)) 51 5 ((m + 1 : Nat) : Int)), ?_, rfl, Fr_up (Fr_up F _ rfl) _ rfl, m + 1, fun j => if j = m then i else t j, rfl, fun j hj => ?_, by omega, fun j hj => ?_, fun j k hjk hk => ?_, fun w hw hb => ?_⟩
        · show px_R (mm_Ear_thinkOf, 7, _, [], (K0, g)) = _
          have gm : (decide ((0 : Int) ≤ (m : Int)) && decide ((m : Int) < 6)) = true := gd_ok (by omega)
          rw [an] at sa
          have sa2 : px_R (mm_Ear_soundsAsEarlier, 0, [(2, 51), (0, (i : Int)), (9, 0), (9, 0), (9, 0), (9, 0)], [], (K0, g)) = some (0, (K0, g)) := sa
          rw [eq_Ear_thinkOf_7]
          simp only [px_rd_mk, px_wr_mk, Int.reduceToNat, Int.toNat_natCast, if_true, if_false, Option.bind_some, px_up_cell, px_up_slot, px_up_eq, ne_eq, Nat.reduceEqDiff, not_false_eq_true, Int.reduceEq, Int.reduceLT, Int.reduceLE, Int.reduceNeg, decide_true, decide_false, Bool.and_true, Bool.true_and, Bool.and_false, Bool.false_and, and_self, and_true, true_and, and_false, false_and, bi_T, bi_F, not_true_eq_false, Bool.false_eq_true, kg_51, ka_67, ir_51_2 Eg.2.2.1, ir_51_3 Eg.2.2.1, ir_51_4 Eg.2.2.1, ir_51_6 Eg.2.2.1, ir_51_7 Eg.2.2.1, ir_51_8 Eg.2.2.1, ir_51_9 Eg.2.2.1, g0, hlt, bg1, sa2, h2, gm, px_w_s (show i < 1000000 by omega), px_w_s (show m < 1000000 by omega)]
        · show px_up (px_up g 67 m (i : Int)) 51 5 ((m + 1 : Nat) : Int) 67 j = _
          rw [px_up_cell _ _ _ _ (by decide), px_up_at]
          by_cases e : j = m
          · rw [if_pos e]; simp only [if_pos e]
          · rw [if_neg e]; simp only [if_neg e]; exact h3 j (by omega)
        · simp only
          by_cases e : j = m
          · rw [if_pos e]; exact ⟨by omega, bt⟩
          · rw [if_neg e]; have := t1 j (by omega); exact ⟨by omega, this.2⟩
        · simp only
          by_cases e : k = m
          · rw [if_pos e, if_neg (by omega)]; exact (t1 j (by omega)).1
          · rw [if_neg e, if_neg (by omega)]; exact t2 j k hjk (by omega)
        · by_cases e : w = i
          · exact ⟨m, by omega, by simp only [if_true]; omega, fun b hb => by simp only [if_true]; rw [e]⟩
          · obtain ⟨j, j1, j2, j3⟩ := t3 w (by omega) hb
            exact ⟨j, by omega, by simp only; rw [if_neg (by omega)]; exact j2, by simp only; rw [if_neg (by omega)]; exact j3⟩
      · refine ⟨([(2, 51), (0, (T : Int)), (0, ((i + 1 : Nat) : Int))], g), ?_, rfl, F, m, t, h2, h3, by omega, fun j hj => ?_, t2, fun w hw hb => ?_⟩
        · show px_R (mm_Ear_thinkOf, 7, _, [], (K0, g)) = _
          rw [an] at sa
          have sa2 : px_R (mm_Ear_soundsAsEarlier, 0, [(2, 51), (0, (i : Int)), (9, 0), (9, 0), (9, 0), (9, 0)], [], (K0, g)) = some (1, (K0, g)) := sa
          rw [eq_Ear_thinkOf_7]
          simp only [px_rd_mk, px_wr_mk, Int.reduceToNat, Int.toNat_natCast, if_true, if_false, Option.bind_some, px_up_cell, px_up_slot, px_up_eq, ne_eq, Nat.reduceEqDiff, not_false_eq_true, Int.reduceEq, Int.reduceLT, Int.reduceLE, Int.reduceNeg, decide_true, decide_false, Bool.and_true, Bool.true_and, Bool.and_false, Bool.false_and, and_self, and_true, true_and, and_false, false_and, bi_T, bi_F, not_true_eq_false, Bool.false_eq_true, kg_51, ir_51_2 Eg.2.2.1, ir_51_3 Eg.2.2.1, ir_51_4 Eg.2.2.1, ir_51_6 Eg.2.2.1, ir_51_7 Eg.2.2.1, ir_51_8 Eg.2.2.1, ir_51_9 Eg.2.2.1, g0, hlt, bg1, sa2, px_w_s (show i < 1000000 by omega)]
        · have := t1 j hj; exact ⟨by omega, this.2⟩
        · by_cases e : w = i
          · obtain ⟨j, j1, j2, j3⟩ := (anf_iff _ m 0).mp an
            refine ⟨j, by omega, by have := (t1 j (by omega)).1; omega, fun b hb => ?_⟩
            rw [e]
            exact ((al4_iff L i (t j)).mp j3 b hb).symm
          · exact t3 w (by omega) hb
    · have b0 : T / 2 ^ i % 2 = 0 := by omega
      have bt : inS T i = false := by unfold inS; exact decide_eq_false b
      rw [b0] at bg
      have bg1 : px_and (px_shr (T : Int) (i : Int)) 1 = 0 := bg
      refine ⟨([(2, 51), (0, (T : Int)), (0, ((i + 1 : Nat) : Int))], g), ?_, rfl, F, m, t, h2, h3, by omega, fun j hj => ?_, t2, fun w hw hb => ?_⟩
      · show px_R (mm_Ear_thinkOf, 7, _, [], (K0, g)) = _
        rw [eq_Ear_thinkOf_7]
        simp only [px_rd_mk, px_wr_mk, Int.reduceToNat, Int.toNat_natCast, if_true, if_false, Option.bind_some, px_up_cell, px_up_slot, px_up_eq, ne_eq, Nat.reduceEqDiff, not_false_eq_true, Int.reduceEq, Int.reduceLT, Int.reduceLE, Int.reduceNeg, decide_true, decide_false, Bool.and_true, Bool.true_and, Bool.and_false, Bool.false_and, and_self, and_true, true_and, and_false, false_and, bi_T, bi_F, not_true_eq_false, Bool.false_eq_true, kg_51, g0, hlt, bg1, px_w_s (show i < 1000000 by omega)]
      · have := t1 j hj; exact ⟨by omega, this.2⟩
      · by_cases e : w = i
        · rw [e, bt] at hb; cases hb
        · exact t3 w (by omega) hb) W 0
  obtain ⟨⟨ls, g⟩, f1, f2, F, m, t, f3, f4, f5⟩ := lp ([(2, 51), (0, (T : Int)), (0, 0)], px_up h 51 5 0) (Nat.zero_add W) ⟨rfl, Fr_up (Fr_rf _ _ _) _ rfl, 0, fun _ => 0, rfl, fun j hj => absurd hj (by omega), Nat.le_refl 0, fun j hj => absurd hj (by omega), fun j k h1 h2 => absurd h2 (by omega), fun w hw => absurd hw (by omega)⟩
  simp only at f1 f2 F f3 f4
  subst f2
  refine ⟨g, m, t, ?_, F, f3, f4, f5⟩
  have Eg := EC_F EE F (by decide) rfl
  have hlt : ((W : Int) < (W : Int)) = False := eq_false (by omega)
  rw [eq_Ear_thinkOf_0]
  simp only [px_rd_mk, px_wr_mk, Int.reduceToNat, Int.toNat_natCast, if_true, if_false, Option.bind_some, px_up_cell, px_up_slot, px_up_eq, ne_eq, Nat.reduceEqDiff, not_false_eq_true, Int.reduceEq, Int.reduceLT, Int.reduceLE, Int.reduceNeg, decide_true, decide_false, Bool.and_true, Bool.true_and, Bool.and_false, Bool.false_and, and_self, and_true, true_and, and_false, false_and, bi_T, bi_F, not_true_eq_false, Bool.false_eq_true, kg_51]
  rw [f1, eq_Ear_thinkOf_7]
  simp only [px_rd_mk, px_wr_mk, Int.reduceToNat, Int.toNat_natCast, if_true, if_false, Option.bind_some, px_up_cell, px_up_slot, px_up_eq, ne_eq, Nat.reduceEqDiff, not_false_eq_true, Int.reduceEq, Int.reduceLT, Int.reduceLE, Int.reduceNeg, decide_true, decide_false, Bool.and_true, Bool.true_and, Bool.and_false, Bool.false_and, and_self, and_true, true_and, and_false, false_and, bi_T, bi_F, not_true_eq_false, Bool.false_eq_true, kg_51, Eg.2.2.2.1, hlt]
