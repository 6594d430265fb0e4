/-! The class's ear: hear, whole. -/
theorem sw16 : ∀ N : Nat, N ≤ 3 → sm (2 * N + 1) (wtV N) ≤ 16
  | 0, _ => by decide
  | 1, _ => by decide
  | 2, _ => by decide
  | 3, _ => by decide
  | k + 4, h => absurd h (by omega)
theorem SPI_e {N : Nat} {of : Nat → Int} {b u : Nat} {g k : hp} (I : SPI N of b u g) (e1 : k 68 b = g 68 b) (e2 : k (70 + b) = g (70 + b)) (e3 : k (75 + b) = g (75 + b)) : SPI N of b u k := by
  unfold SPI
  rw [e1, e2, e3]
  exact I
theorem hear_spread {W N : Nat} {L : Nat → Nat → Int} {m : Nat} {t : Nat → Nat} {h : hp} (H : TC W N L m t h) {a : Nat} (ha : a < W) (x2 x3 : Int) : ∃ k : hp, px_R (mm_Ear_hear, 29, [(2, 51), (0, (a : Int)), (0, x2), (2, x3), (0, 0), (9, 0)], [], (K0, h)) = px_R (mm_Ear_hear, 51, [(2, 51), (0, (a : Int)), (0, x2), (2, x3), (0, 0), (9, 0)], [], (K0, k)) ∧ Fr spc [] h k ∧ ∀ b, b < 4 → SPI N (ofV L m t N a b) b (2 * N + 1) k := by
  have lp := px_lp (fun z : List pv × hp => px_R (mm_Ear_hear, 29, z.1, [], (K0, z.2))) (fun b z => z.1 = [(2, 51), (0, (a : Int)), (0, x2), (2, x3), (0, (b : Int)), (9, 0)] ∧ Fr spc [] h z.2 ∧ ∀ c, c < b → SPI N (ofV L m t N a c) c (2 * N + 1) z.2) 4 (by
    rintro b ⟨ls, g⟩ hb ⟨e1, F, I⟩
    simp only at e1 F I
    subst e1
    have Hg := TC_F H F (by decide) rfl rfl
    have hlt : ((b : Int) < 4) = True := eq_true (by omega)
    obtain ⟨k, k1, k2, k3, k4⟩ := R_spread Hg ha hb
    refine ⟨([(2, 51), (0, (a : Int)), (0, x2), (2, x3), (0, ((b + 1 : Nat) : Int)), (9, 0)], k), ?_, rfl, Fr_tr2 F k2, fun c hc => ?_⟩
    · show px_R (mm_Ear_hear, 29, _, [], (K0, g)) = _
      rw [eq_Ear_hear_29]
      simp only [px_rd_mk, px_wr_mk, Int.reduceToNat, Int.toNat_natCast, if_true, if_false, Option.bind_some, px_up_cell, px_up_slot, px_up_eq, ne_eq, Nat.reduceEqDiff, not_false_eq_true, Int.reduceEq, Int.reduceLT, Int.reduceLE, Int.reduceNeg, decide_true, decide_false, Bool.and_true, Bool.true_and, Bool.and_false, Bool.false_and, and_self, and_true, true_and, and_false, false_and, bi_T, bi_F, not_true_eq_false, Bool.false_eq_true, kg_51, hlt, k1, px_w_s (show b < 1000000 by omega)]
    · by_cases e : c = b
      · rw [e]; exact k4
      · obtain ⟨d1, d2, d3⟩ := k3 c (by omega) e
        exact SPI_e (I c (by omega)) d1 d2 d3) 4 0
  obtain ⟨⟨ls, k⟩, f1, f2, F, I⟩ := lp ([(2, 51), (0, (a : Int)), (0, x2), (2, x3), (0, 0), (9, 0)], h) rfl ⟨rfl, Fr_rf _ _ _, fun c hc => absurd hc (by omega)⟩
  simp only at f1 f2 F I
  subst f2
  refine ⟨k, ?_, F, I⟩
  rw [f1, eq_Ear_hear_29, if_neg (by decide)]
theorem hear_sums {W N : Nat} {L : Nat → Nat → Int} {m : Nat} {t : Nat → Nat} {s : Nat → Nat} {o wt : Nat → Nat → Int} {h : hp} (H : TC W N L m t h) (X : HX s o wt h) {D : Nat} (hD : DC D) (x1 x2 : Int) (hZ : ∀ w, w < 6 → h D w = 0) : ∃ g : hp, px_R (mm_Ear_hear, 51, [(2, 51), (0, x1), (0, x2), (2, (D : Int)), (0, 0), (9, 0)], [], (K0, h)) = some (0, (K0, g)) ∧ (Fr dcs [] h g ∧ ∀ c, c ≠ D → g c = h c) ∧ ∀ w, w < 6 → g D w = px_w (sm (s 0) fun i => sm (s 1) fun j => sm (s 2) fun k => sm (s 3) fun l => if nvV m t (o 0 i + o 1 j + o 2 k + o 3 l) = w then wt 0 i * wt 1 j * wt 2 k * wt 3 l else 0) := by
  have lp := px_lp (fun z : List pv × hp => px_R (mm_Ear_hear, 51, z.1, [], (K0, z.2))) (fun i z => (∃ y5 : pv, z.1 = [(2, 51), (0, x1), (0, x2), (2, (D : Int)), (0, (i : Int)), y5]) ∧ (Fr dcs [] h z.2 ∧ ∀ c, c ≠ D → z.2 c = h c) ∧ ∀ w, w < 6 → z.2 D w = px_w (sm i fun i => sm (s 1) fun j => sm (s 2) fun k => sm (s 3) fun l => if nvV m t (o 0 i + o 1 j + o 2 k + o 3 l) = w then wt 0 i * wt 1 j * wt 2 k * wt 3 l else 0)) (s 0) (by
    rintro i ⟨ls, g⟩ hi ⟨⟨y5, e1⟩, ⟨F, Fc⟩, V⟩
    simp only at e1 F Fc V
    subst e1
    have Hg := TC_F H F (by decide) rfl rfl
    have Xg := HX_F X F
    have Ig := Hg.1.2.2.1
    obtain ⟨q1, q2, q3⟩ := Xg 0 (by decide)
    obtain ⟨⟨q4, q5, q6⟩, q7, q8, q9⟩ := q3 i hi
    have hlt : ((i : Int) < (s 0 : Int)) = True := eq_true (by omega)
    have to65 : px_R (mm_Ear_hear, 51, [(2, 51), (0, x1), (0, x2), (2, (D : Int)), (0, (i : Int)), y5], [], (K0, g)) = px_R (mm_Ear_hear, 65, [(2, 51), (0, x1), (0, x2), (2, (D : Int)), (0, (i : Int)), (0, 0)], [], (K0, g)) := by
      rw [eq_Ear_hear_51]
      simp only [px_rd_mk, px_wr_mk, Int.reduceToNat, Int.toNat_natCast, if_true, if_false, Option.bind_some, px_up_cell, px_up_slot, px_up_eq, ne_eq, Nat.reduceEqDiff, not_false_eq_true, Int.reduceEq, Int.reduceLT, Int.reduceLE, Int.reduceNeg, decide_true, decide_false, Bool.and_true, Bool.true_and, Bool.and_false, Bool.false_and, and_self, and_true, true_and, and_false, false_and, bi_T, bi_F, not_true_eq_false, Bool.false_eq_true, kg_51, ka_68, ir_51_2 Ig, ir_51_3 Ig, ir_51_4 Ig, ir_51_6 Ig, ir_51_7 Ig, ir_51_8 Ig, ir_51_9 Ig, q1, hlt]
    have lq := px_lp (fun z : List pv × hp => px_R (mm_Ear_hear, 65, z.1, [], (K0, z.2))) (fun j z => z.1 = [(2, 51), (0, x1), (0, x2), (2, (D : Int)), (0, (i : Int)), (0, (j : Int))] ∧ (Fr dcs [] h z.2 ∧ ∀ c, c ≠ D → z.2 c = h c) ∧ ∀ w, w < 6 → z.2 D w = px_w ((sm i fun i => sm (s 1) fun j => sm (s 2) fun k => sm (s 3) fun l => if nvV m t (o 0 i + o 1 j + o 2 k + o 3 l) = w then wt 0 i * wt 1 j * wt 2 k * wt 3 l else 0) + sm j fun j => sm (s 2) fun k => sm (s 3) fun l => if nvV m t (o 0 i + o 1 j + o 2 k + o 3 l) = w then wt 0 i * wt 1 j * wt 2 k * wt 3 l else 0)) (s 1) (by
      rintro j ⟨ls, g⟩ hj ⟨e1, ⟨F, Fc⟩, V⟩
      simp only at e1 F Fc V
      subst e1
      have Hg := TC_F H F (by decide) rfl rfl
      have Xg := HX_F X F
      have Ig := Hg.1.2.2.1
      obtain ⟨q1, q2, q3⟩ := Xg 0 (by decide)
      obtain ⟨⟨q4, q5, q6⟩, q7, q8, q9⟩ := q3 i hi
      obtain ⟨r1, r2, r3⟩ := Xg 1 (by decide)
      obtain ⟨⟨r4, r5, r6⟩, r7, r8, r9⟩ := r3 j hj
      have q4 : g 75 i = wt 0 i := q4
      have q7 : g 70 i = o 0 i := q7
      have r4 : g 76 j = wt 1 j := r4
      have r7 : g 71 j = o 1 j := r7
      have hlt : ((j : Int) < (s 1 : Int)) = True := eq_true (by omega)
      have gi : (decide ((0 : Int) ≤ (i : Int)) && decide ((i : Int) < 7)) = true := gd_ok (by omega)
      have gj : (decide ((0 : Int) ≤ (j : Int)) && decide ((j : Int) < 7)) = true := gd_ok (by omega)
      have v1 : -9223372036854775808 ≤ o 0 i + o 1 j ∧ o 0 i + o 1 j < 9223372036854775808 := by omega
      have p1 : 0 ≤ wt 0 i * wt 1 j := Int.mul_nonneg q5 r5
      have p2 : wt 0 i * wt 1 j ≤ 16 * 16 := Int.le_trans (Int.mul_le_mul_of_nonneg_right q6 r5) (Int.mul_le_mul_of_nonneg_left r6 (by decide))
      have v2 : -2147483648 ≤ wt 0 i * wt 1 j ∧ wt 0 i * wt 1 j < 2147483648 := by omega
      obtain ⟨k, k1, ⟨k2, k2c⟩, k3⟩ := R_hearRest Hg Xg hD (x1 := o 0 i + o 1 j) (x3 := wt 0 i * wt 1 j) (by omega) (by omega) _ V
      refine ⟨([(2, 51), (0, x1), (0, x2), (2, (D : Int)), (0, (i : Int)), (0, ((j + 1 : Nat) : Int))], k), ?_, rfl, ⟨Fr_tr2 F k2, fun c hc => (k2c c hc).trans (Fc c hc)⟩, fun w hw => ?_⟩
      · show px_R (mm_Ear_hear, 65, _, [], (K0, g)) = _
        rw [eq_Ear_hear_65]
        simp only [px_rd_mk, px_wr_mk, Int.reduceToNat, Int.toNat_natCast, if_true, if_false, Option.bind_some, px_up_cell, px_up_slot, px_up_eq, ne_eq, Nat.reduceEqDiff, not_false_eq_true, Int.reduceEq, Int.reduceLT, Int.reduceLE, Int.reduceNeg, decide_true, decide_false, Bool.and_true, Bool.true_and, Bool.and_false, Bool.false_and, and_self, and_true, true_and, and_false, false_and, bi_T, bi_F, not_true_eq_false, Bool.false_eq_true, kg_51, ka_68, ka_69, ka_70, ka_71, ka_74, ka_75, ka_76, ir_51_2 Ig, ir_51_3 Ig, ir_51_4 Ig, ir_51_6 Ig, ir_51_7 Ig, ir_51_8 Ig, ir_51_9 Ig, ir_69_0 Ig, ir_69_1 Ig, ir_69_2 Ig, ir_69_3 Ig, ir_74_0 Ig, ir_74_1 Ig, ir_74_2 Ig, ir_74_3 Ig, r1, hlt, gi, gj, q4, q7, r4, r7, Bool.or_true, Bool.true_or, px_wl_n v1, px_w_n v2, k1, px_w_s (show j < 1000000 by omega)]
      · show k D w = _
        rw [k3 w hw, sm, Int.add_assoc]) (s 1) 0
    obtain ⟨⟨ls, k⟩, f1, f2, G, V2⟩ := lq ([(2, 51), (0, x1), (0, x2), (2, (D : Int)), (0, (i : Int)), (0, 0)], g) (Nat.zero_add _) ⟨rfl, ⟨F, Fc⟩, fun w hw => by rw [sm, Int.add_zero]; exact V w hw⟩
    simp only at f1 f2 G V2
    subst f2
    have Hk := TC_F H G.1 (by decide) rfl rfl
    have Ik := Hk.1.2.2.1
    obtain ⟨r1, r2, r3⟩ := (HX_F X G.1) 1 (by decide)
    have hlt1 : ((s 1 : Int) < (s 1 : Int)) = False := eq_false (by omega)
    refine ⟨([(2, 51), (0, x1), (0, x2), (2, (D : Int)), (0, ((i + 1 : Nat) : Int)), (0, (s 1 : Int))], k), ?_, ⟨_, rfl⟩, G, fun w hw => ?_⟩
    · show px_R (mm_Ear_hear, 51, _, [], (K0, g)) = _
      rw [to65, f1, eq_Ear_hear_65]
      simp only [px_rd_mk, px_wr_mk, Int.reduceToNat, Int.toNat_natCast, if_true, if_false, Option.bind_some, px_up_cell, px_up_slot, px_up_eq, ne_eq, Nat.reduceEqDiff, not_false_eq_true, Int.reduceEq, Int.reduceLT, Int.reduceLE, Int.reduceNeg, decide_true, decide_false, Bool.and_true, Bool.true_and, Bool.and_false, Bool.false_and, and_self, and_true, true_and, and_false, false_and, bi_T, bi_F, not_true_eq_false, Bool.false_eq_true, kg_51, ka_68, ir_51_2 Ik, ir_51_3 Ik, ir_51_4 Ik, ir_51_6 Ik, ir_51_7 Ik, ir_51_8 Ik, ir_51_9 Ik, r1, hlt1, px_w_s (show i < 1000000 by omega)]
    · show k D w = _
      rw [V2 w hw]
      rfl) (s 0) 0
  obtain ⟨⟨ls, g⟩, f1, ⟨y5, f2⟩, F, V⟩ := lp ([(2, 51), (0, x1), (0, x2), (2, (D : Int)), (0, 0), (9, 0)], h) (Nat.zero_add _) ⟨⟨_, rfl⟩, ⟨Fr_rf _ _ _, fun c _ => rfl⟩, fun w hw => by show h D w = px_w 0; rw [hZ w hw]; rfl⟩
  simp only at f1 f2 F V
  subst f2
  refine ⟨g, ?_, F, V⟩
  have Hg := TC_F H F.1 (by decide) rfl rfl
  have Ig := Hg.1.2.2.1
  obtain ⟨q1, q2, q3⟩ := (HX_F X F.1) 0 (by decide)
  have hlt : ((s 0 : Int) < (s 0 : Int)) = False := eq_false (by omega)
  rw [f1, eq_Ear_hear_51]
  simp only [px_rd_mk, px_wr_mk, Int.reduceToNat, Int.toNat_natCast, if_true, if_false, Option.bind_some, px_up_cell, px_up_slot, px_up_eq, ne_eq, Nat.reduceEqDiff, not_false_eq_true, Int.reduceEq, Int.reduceLT, Int.reduceLE, Int.reduceNeg, decide_true, decide_false, Bool.and_true, Bool.true_and, Bool.and_false, Bool.false_and, and_self, and_true, true_and, and_false, false_and, bi_T, bi_F, not_true_eq_false, Bool.false_eq_true, kg_51, ka_68, ir_51_2 Ig, ir_51_3 Ig, ir_51_4 Ig, ir_51_6 Ig, ir_51_7 Ig, ir_51_8 Ig, ir_51_9 Ig, q1, hlt]
def hcs : List Nat := [67, 68, 70, 71, 72, 73, 75, 76, 77, 78]
theorem R_hear {W N : Nat} {L : Nat → Nat → Int} {h : hp} (E : EC W N L h) {T a : Nat} (hT : T < 1024) (ha : a < W) {a2 : Nat} (ha2 : a2 < W) (hb2 : inS T a2 = true) {D : Nat} (hD : DC D) : ∃ g : hp, px_R (mm_Ear_hear, 0, [(2, 51), (0, (a : Int)), (0, (T : Int)), (2, (D : Int)), (9, 0), (9, 0)], [], (K0, h)) = some (0, (K0, g)) ∧ (Fr (hcs ++ dcs) [(51, 5)] h g ∧ ∀ c, DC c → c ≠ D → g c = h c) ∧ ∀ w, w < 6 → g D w = px_w (tkS W N L T a w) := by
  have hW := E.1
  have hN := E.2.1
  obtain ⟨g1, m, t, e1, F1, m1, m2, TLt⟩ := R_thinkOf E hT
  obtain ⟨j, j1, _, _⟩ := TLt.2.2.2 a2 ha2 hb2
  have E1 := EC_F E F1 (by decide) rfl
  have H1 : TC W N L m t g1 := ⟨E1, m1, ⟨by omega, by have := TLt.1; omega⟩, fun j hj => ⟨m2 j hj, (TLt.2.1 j hj).1⟩⟩
  obtain ⟨g2, e2, ⟨F2, F2c⟩, Z2⟩ := hear_zero (h := g1) hD (a : Int) (T : Int) 6 0 rfl g1 ⟨Fr_rf _ _ _, fun c _ => rfl⟩ fun w hw => absurd hw (by omega)
  have e2 : px_R (mm_Ear_hear, 8, [(2, 51), (0, (a : Int)), (0, (T : Int)), (2, (D : Int)), (0, 0), (9, 0)], [], (K0, g1)) = _ := e2
  have H2 := TC_F H1 F2 (by decide) rfl rfl
  obtain ⟨g3, e3, F3, I3⟩ := hear_spread H2 ha (T : Int) (D : Int)
  have H3 := TC_F H2 F3 (by decide) rfl rfl
  have X3 : HX (fun b => (g3 68 b).toNat) (fun b i => g3 (70 + b) i) (fun b i => g3 (75 + b) i) g3 := fun b hb => by
    obtain ⟨s, s1, s2, s3, s4, s5⟩ := I3 b hb
    have s16 := sw16 N hN
    refine ⟨by simp only; omega, by simp only; omega, fun i hi => ?_⟩
    simp only at hi
    have := s3 i (by omega)
    exact ⟨⟨rfl, by simp only; omega, by simp only; omega⟩, rfl, s4 i (by omega)⟩
  have Z3 : ∀ w, w < 6 → g3 D w = 0 := fun w hw => by
    have : g3 D w = g2 D w := by
      have q : D = 66 ∨ (91 ≤ D ∧ D < 97) := hD
      rcases q with q | q
      · rw [q]; exact F3 66 w rfl
      · exact Fr_rg F3 91 97 rfl q.1 q.2 w
    rw [this]
    exact Z2 w hw
  obtain ⟨g4, e4, ⟨F4, F4c⟩, V4⟩ := hear_sums H3 X3 hD (a : Int) (T : Int) Z3
  have Fall := Fr_tr (Fr_tr (Fr_tr F1 F2) F3) F4
  refine ⟨g4, ?_, ⟨Fr_sub Fall rfl rfl, fun c hc hne => ?_⟩, fun w hw => ?_⟩
  · rw [eq_Ear_hear_0]
    simp only [px_rd_mk, px_wr_mk, Int.reduceToNat, Int.toNat_natCast, if_true, if_false, Option.bind_some, px_up_cell, px_up_slot, px_up_eq, ne_eq, Nat.reduceEqDiff, not_false_eq_true, Int.reduceEq, Int.reduceLT, Int.reduceLE, Int.reduceNeg, decide_true, decide_false, Bool.and_true, Bool.true_and, Bool.and_false, Bool.false_and, and_self, and_true, true_and, and_false, false_and, bi_T, bi_F, not_true_eq_false, Bool.false_eq_true, kg_51, e1, e2, e3, e4]
  · rw [F4c c hne]
    funext x
    have q : c = 66 ∨ (91 ≤ c ∧ c < 97) := hc
    rcases q with q | q
    · subst q
      rw [F3 66 x rfl, F2c 66 hne, F1 66 x rfl]
    · rw [Fr_rg F3 91 97 rfl q.1 q.2 x, F2c c hne, Fr_rg F1 91 97 rfl q.1 q.2 x]
  · rw [V4 w hw]
    have I4 : ∀ b, b < 4 → ∀ G : Int → Int, sm ((fun b => (g3 68 b).toNat) b) (fun i => (fun b i => g3 (75 + b) i) b i * G ((fun b i => g3 (70 + b) i) b i)) = sm (2 * N + 1) fun r => wtV N r * G ((fun b r => ofV L m t N a b r) b r) := fun b hb G => by
      obtain ⟨s, s1, s2, s3, s4, s5⟩ := I3 b hb
      have : (g3 68 b).toNat = s := by omega
      simp only [this]
      exact s5 G
    have fk := four_K I4 (fun x => nvV m t x = w)
    have e : tkS W N L T a w = sm (2 * N + 1) fun i => sm (2 * N + 1) fun j => sm (2 * N + 1) fun k => sm (2 * N + 1) fun l => if nvV m t (ofV L m t N a 0 i + ofV L m t N a 1 j + ofV L m t N a 2 k + ofV L m t N a 3 l) = w then wtV N i * wtV N j * wtV N k * wtV N l else 0 := by
      refine sm_c fun i _ => sm_c fun j _ => sm_c fun k _ => sm_c fun l _ => ?_
      rw [nv_ear H1 TLt a i j k l]
      by_cases c : nvV m t (ofV L m t N a 0 i + ofV L m t N a 1 j + ofV L m t N a 2 k + ofV L m t N a 3 l) = w
      · rw [if_pos c, if_pos (by omega)]
      · rw [if_neg c, if_neg (by omega)]
    rw [e]
    exact congrArg px_w fk
