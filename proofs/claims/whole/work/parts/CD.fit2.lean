/-! Both loops over the laws, and the call. -/
def lwL (n : Nat) (h : hp) (t l : Nat) : Nat → Nat → Int := lvl n h (l / 20) t (10 * (l % 20 + 1))
def fs2 : List (Nat × Nat) := [(51, 0), (51, 1), (51, 5), (83, 9), (83, 10), (83, 11)]
def fcs : List Nat := ecs ++ (wcs ++ [100])
def fss : List (Nat × Nat) := (48, 0) :: (48, 2) :: fs2
theorem Fr_two {cs : List Nat} {ss : List (Nat × Nat)} {p q : Nat × Nat} {h g : hp} (F : Fr cs (p :: q :: ss) h g) (e1 : g p.1 p.2 = h p.1 p.2) (e2 : g q.1 q.2 = h q.1 q.2) : Fr cs ss h g := fun a b e => by
  by_cases c1 : (a, b) = p
  · rw [← c1] at e1
    exact e1
  · by_cases c2 : (a, b) = q
    · rw [← c2] at e2
      exact e2
    · refine F a b ((fin_f ..).mpr fun w => (fin_f ..).mp e ?_)
      rcases w with w | w
      · exact Or.inl w
      · rcases List.mem_cons.mp w with w | w
        · exact absurd w c1
        · rcases List.mem_cons.mp w with w | w
          · exact absurd w c2
          · exact Or.inr w
theorem w20 {K : Nat} (h : K ≤ 6) : px_w (20 * (K : Int)) = ((20 * K : Nat) : Int) := by
  have u : -2147483648 ≤ 20 * (K : Int) ∧ 20 * (K : Int) < 2147483648 := by omega
  rw [px_w_n u]
  omega
theorem tryMid {n : Nat} {h : hp} (C : LC n h) {t : Nat} (h1 : h 48 1 = (t : Int)) (ht : (t : Int) < h (n + 1) 1) {W N K : Nat} (hW : h (n + 1) 2 = (W : Int)) (hN : h (n + 21) 0 = (N : Int)) (hK : h (n + 1) 0 = (K : Int)) {b : Nat → Nat → Int} {Lc M : Nat} (hF : BF b W Lc M) (known x5 x6 x7 : Int) {l : Nat} (hl : l < 20 * K) {g : hp} (F : Fr fcs fss h g) (H : BC b Lc M g) (h11 : g 83 11 = (fBG (fitF W N (lwL n h t) b known M Lc) l).1) (hP : (fBG (fitF W N (lwL n h t) b known M Lc) l).1 = -1 ∨ PD (g 100) B32 11 (fBG (fitF W N (lwL n h t) b known M Lc) l).2) (hV : ∀ j, l = j + 1 → x7 = bo (fitF W N (lwL n h t) b known M Lc j) ∧ ∀ w c : Nat, w < W → c < 4 → g (53 + w) c = lwL n h t j w c) : ∃ g2 : hp, px_R (mm_Book_tryLaws, 33, [(2, 83), (2, (n : Int)), (2, 48), (2, 51), (0, known), (0, x5), (0, x6), (0, x7), (0, (l : Int))], [], (K0, g)) = px_R (mm_Book_tryLaws, 137, [(2, 83), (2, (n : Int)), (2, 48), (2, 51), (0, known), (0, x5), (0, x6), (0, bo (fitF W N (lwL n h t) b known M Lc l)), (0, (l : Int))], [], (K0, g2)) ∧ Fr fcs [(48, 0), (48, 2), (51, 0), (51, 1), (51, 5), (83, 11)] g g2 ∧ g2 83 11 = (fBG (fitF W N (lwL n h t) b known M Lc) (l + 1)).1 ∧ ((fBG (fitF W N (lwL n h t) b known M Lc) (l + 1)).1 = -1 ∨ PD (g2 100) B32 11 (fBG (fitF W N (lwL n h t) b known M Lc) (l + 1)).2) ∧ ∀ w c : Nat, w < W → c < 4 → g2 (53 + w) c = lwL n h t l w c := by
  have hn := C.1
  have c0 := ST_n C.2.2.1 (k := 0) (by decide)
  have K6 : K ≤ 6 := by omega
  have f1 := Fr_st hn F rfl (n + 1) (by omega) (by omega)
  have hgK : g (n + 1) 0 = (K : Int) := by
    rw [f1]
    exact hK
  have I := IR_Fr C.2.1 F (by decide)
  have l3 : l < 1000 := by omega
  have hlt : ((l : Int) < ((20 * K : Nat) : Int)) = True := eq_true (by omega)
  obtain ⟨w1, hw1⟩ : ∃ w1 : hp, w1 = px_up (px_up g 48 0 ((l / 20 : Nat) : Int)) 48 2 ((10 * (l % 20 + 1) : Nat) : Int) := ⟨_, rfl⟩
  have Fw : Fr [] [(48, 0), (48, 2)] g w1 := by
    rw [hw1]
    exact Fr_up (Fr_up (Fr_rf _ _ _) _ rfl) _ rfl
  have F1 : Fr fcs fss h w1 := Fr_sub (Fr_tr F Fw) rfl rfl
  have C1 := LCm_F (n := n) (h := h) (mh := h) C F1 (by decide) rfl rfl
  have q1 := Fr_st hn F1 rfl (n + 1) (by omega) (by omega)
  have q21 := Fr_st hn F1 rfl (n + 21) (by omega) (by omega)
  have w480 : w1 48 0 = ((l / 20 : Nat) : Int) := by
    rw [hw1]
    simp only [px_up_cell, px_up_slot, px_up_eq, ne_eq, Nat.reduceEqDiff, not_false_eq_true]
  have w482 : w1 48 2 = ((10 * (l % 20 + 1) : Nat) : Int) := by
    rw [hw1]
    simp only [px_up_cell, px_up_slot, px_up_eq, ne_eq, Nat.reduceEqDiff, not_false_eq_true]
  obtain ⟨v, g2, e2, F2, E2, v01, v0⟩ := R_learn C1 (s := l / 20) (t := t) (y := 10 * (l % 20 + 1)) w480 (by rw [q1, hK]; omega) ((F1 48 1 rfl).trans h1) (by rw [q1]; exact ht) w482 (by omega) (W := W) (N := N) (by rw [q1]; exact hW) (by rw [q21]; exact hN)
  rw [lvl_48 hn F1 rfl] at E2
  have E2 : EC W N (lwL n h t l) g2 := E2
  have Fg : Fr fcs [(48, 0), (48, 2), (51, 0), (51, 1), (51, 5), (83, 11)] g g2 := Fr_sub (Fr_tr Fw F2) rfl rfl
  have lv : ∀ w c : Nat, w < W → c < 4 → g2 (53 + w) c = lwL n h t l w c := fun w c hw hc => (E2.2.2.2.2.2 w c hw hc).1
  have t11 : g2 83 11 = (fBG (fitF W N (lwL n h t) b known M Lc) l).1 := (F2 83 11 rfl).trans ((Fw 83 11 rfl).trans h11)
  have t100 : (fBG (fitF W N (lwL n h t) b known M Lc) l).1 = -1 ∨ PD (g2 100) B32 11 (fBG (fitF W N (lwL n h t) b known M Lc) l).2 := hP.imp id (fun z i hi => (F2 100 i rfl).trans ((Fw 100 i rfl).trans (z i hi)))
  have H2 : BC b Lc M g2 := BC_F (BC_F H Fw rfl) F2 rfl
  have ln := law_n l3
  rw [hw1] at e2
  have n20 := w20 K6
  by_cases c : v = 0 ∧ ¬ l = 0
  · obtain ⟨j, rfl⟩ : ∃ j, l = j + 1 := ⟨l - 1, by omega⟩
    obtain ⟨x7e, lj⟩ := hV j rfl
    have same : ∀ w c : Nat, w < W → c < 4 → lwL n h t (j + 1) w c = lwL n h t j w c := fun w d hw hd => by
      rw [← lv w d hw hd, v0 c.1 w d hw hd, hw1]
      rw [px_up_cell _ _ _ _ (by omega), px_up_cell _ _ _ _ (by omega)]
      exact lj w d hw hd
    have fs := fitF_c (N := N) (L := lwL n h t) (b := b) (known := known) (M := M) (Lc := Lc) hF same
    have bg := fBG_same fs
    have l0 : (((j + 1 : Nat) : Int) = 0) = False := eq_false (by omega)
    refine ⟨g2, ?_, Fg, ?_, ?_, lv⟩
    · rw [fs, ← x7e, eq_Book_tryLaws_33]
      simp only [px_rd_mk, px_wr_mk, Int.reduceToNat, Int.toNat_natCast, if_true, if_false, Option.bind_some, px_up_cell, px_up_slot, px_up_eq, ne_eq, Nat.reduceEqDiff, not_false_eq_true, Int.reduceEq, Int.reduceLT, Int.reduceLE, Int.reduceNeg, decide_true, decide_false, Bool.and_true, Bool.true_and, Bool.and_false, Bool.false_and, and_self, and_true, true_and, and_false, false_and, bi_T, bi_F, not_true_eq_false, Bool.false_eq_true, kg_48, kg_51, sgo hn, sr1 hn I, sga1 hn, hgK, n20, hlt, ln.1, ln.2, e2, c.1, l0]
    · rw [bg]
      exact t11
    · rw [bg]
      exact t100
  · obtain ⟨g3, r1, r2, r3, r4⟩ := law84 (n := n) (known := known) hF E2 H2 t11 t100 x5 x6 x7
    have Fg3 : Fr fcs [(48, 0), (48, 2), (51, 0), (51, 1), (51, 5), (83, 11)] g g3 := Fr_sub (Fr_tr Fg r2) rfl rfl
    refine ⟨g3, ?_, Fg3, r3, r4, fun w c hw hc => ?_⟩
    · rw [← r1, eq_Book_tryLaws_33]
      by_cases d : v = 0
      · have l0 : ((l : Int) = 0) = True := eq_true (by omega)
        simp only [px_rd_mk, px_wr_mk, Int.reduceToNat, Int.toNat_natCast, if_true, if_false, Option.bind_some, px_up_cell, px_up_slot, px_up_eq, ne_eq, Nat.reduceEqDiff, not_false_eq_true, Int.reduceEq, Int.reduceLT, Int.reduceLE, Int.reduceNeg, decide_true, decide_false, Bool.and_true, Bool.true_and, Bool.and_false, Bool.false_and, and_self, and_true, true_and, and_false, false_and, bi_T, bi_F, not_true_eq_false, Bool.false_eq_true, kg_48, kg_51, sgo hn, sr1 hn I, sga1 hn, hgK, n20, hlt, ln.1, ln.2, e2, d, l0]
      · have d1 := eq_false d
        simp only [px_rd_mk, px_wr_mk, Int.reduceToNat, Int.toNat_natCast, if_true, if_false, Option.bind_some, px_up_cell, px_up_slot, px_up_eq, ne_eq, Nat.reduceEqDiff, not_false_eq_true, Int.reduceEq, Int.reduceLT, Int.reduceLE, Int.reduceNeg, decide_true, decide_false, Bool.and_true, Bool.true_and, Bool.and_false, Bool.false_and, and_self, and_true, true_and, and_false, false_and, bi_T, bi_F, not_true_eq_false, Bool.false_eq_true, kg_48, kg_51, sgo hn, sr1 hn I, sga1 hn, hgK, n20, hlt, ln.1, ln.2, e2, d1]
    · have W6 := E2.1
      rw [Fr_rg r2 53 59 rfl (by omega) (by omega) c]
      exact lv w c hw hc
theorem tryC {n : Nat} {h : hp} (C : LC n h) {t : Nat} (h1 : h 48 1 = (t : Int)) (ht : (t : Int) < h (n + 1) 1) {W N K : Nat} (hW : h (n + 1) 2 = (W : Int)) (hN : h (n + 21) 0 = (N : Int)) (hK : h (n + 1) 0 = (K : Int)) {b : Nat → Nat → Int} {Lc M : Nat} (hF : BF b W Lc M) (hB : BC b Lc M h) (known x5 x6 : Int) (r : Nat) : ∀ (l : Nat) (g : hp) (x7 : Int), l + r = 20 * K → Fr fcs fss h g → g 83 9 = (fMn (fitF W N (lwL n h t) b known M Lc) l : Int) → g 83 10 = fFi (fitF W N (lwL n h t) b known M Lc) l → g 83 11 = (fBG (fitF W N (lwL n h t) b known M Lc) l).1 → ((fBG (fitF W N (lwL n h t) b known M Lc) l).1 = -1 ∨ PD (g 100) B32 11 (fBG (fitF W N (lwL n h t) b known M Lc) l).2) → (∀ j, l = j + 1 → x7 = bo (fitF W N (lwL n h t) b known M Lc j) ∧ ∀ w c : Nat, w < W → c < 4 → g (53 + w) c = lwL n h t j w c) → ∃ g2 : hp, px_R (mm_Book_tryLaws, 33, [(2, 83), (2, (n : Int)), (2, 48), (2, 51), (0, known), (0, x5), (0, x6), (0, x7), (0, (l : Int))], [], (K0, g)) = some (0, (K0, g2)) ∧ Fr fcs fss h g2 ∧ g2 83 9 = (fMn (fitF W N (lwL n h t) b known M Lc) (20 * K) : Int) ∧ g2 83 10 = fFi (fitF W N (lwL n h t) b known M Lc) (20 * K) ∧ g2 83 11 = (fBG (fitF W N (lwL n h t) b known M Lc) (20 * K)).1 ∧ g2 48 0 = x5 ∧ g2 48 2 = x6 := by
  have hn := C.1
  have c0 := ST_n C.2.2.1 (k := 0) (by decide)
  have K6 : K ≤ 6 := by omega
  induction r with
  | zero =>
    intro l g x7 hl F m9 m10 m11 _ _
    have e : l = 20 * K := hl
    rw [← e]
    have hgK : g (n + 1) 0 = (K : Int) := by
      rw [Fr_st hn F rfl (n + 1) (by omega) (by omega)]
      exact hK
    have I := IR_Fr C.2.1 F (by decide)
    have hlt : ((l : Int) < ((20 * K : Nat) : Int)) = False := eq_false (by omega)
    have n20 := w20 K6
    refine ⟨px_up (px_up g 48 0 x5) 48 2 x6, ?_, Fr_up (Fr_up F _ rfl) _ rfl, ?_, ?_, ?_, ?_, ?_⟩
    · rw [eq_Book_tryLaws_33]
      simp only [px_rd_mk, px_wr_mk, Int.reduceToNat, Int.toNat_natCast, if_true, if_false, Option.bind_some, px_up_cell, px_up_slot, px_up_eq, ne_eq, Nat.reduceEqDiff, not_false_eq_true, Int.reduceEq, Int.reduceLT, Int.reduceLE, Int.reduceNeg, decide_true, decide_false, Bool.and_true, Bool.true_and, Bool.and_false, Bool.false_and, and_self, and_true, true_and, and_false, false_and, bi_T, bi_F, not_true_eq_false, Bool.false_eq_true, kg_48, kg_51, sgo hn, sr1 hn I, sga1 hn, hgK, n20, hlt]
    · simp only [px_up_cell, px_up_slot, px_up_eq, ne_eq, Nat.reduceEqDiff, not_false_eq_true]
      exact m9
    · simp only [px_up_cell, px_up_slot, px_up_eq, ne_eq, Nat.reduceEqDiff, not_false_eq_true]
      exact m10
    · simp only [px_up_cell, px_up_slot, px_up_eq, ne_eq, Nat.reduceEqDiff, not_false_eq_true]
      exact m11
    · simp only [px_up_cell, px_up_slot, px_up_eq, ne_eq, Nat.reduceEqDiff, not_false_eq_true]
    · simp only [px_up_cell, px_up_slot, px_up_eq, ne_eq, Nat.reduceEqDiff, not_false_eq_true]
  | succ r ih =>
    intro l g x7 hl F m9 m10 m11 mP mV
    obtain ⟨g2, r1, r2, r3, r4, r5⟩ := tryMid C h1 ht hW hN hK hF known x5 x6 x7 (show l < 20 * K by omega) F (BC_F hB F rfl) m11 mP mV
    have le := fMn_le (fitF W N (lwL n h t) b known M Lc) l
    obtain ⟨g3, s1, s2, s3, s4⟩ := law137 (n := n) (fitF W N (lwL n h t) b known M Lc l) ((r2 83 9 rfl).trans m9) (by omega) ((r2 83 10 rfl).trans m10) (show l < 1000 by omega) known x5 x6
    have F3 : Fr fcs fss h g3 := Fr_sub (Fr_tr (Fr_tr F r2) s2) rfl rfl
    obtain ⟨g4, u1, u2⟩ := ih (l + 1) g3 (bo (fitF W N (lwL n h t) b known M Lc l)) (by omega) F3 (by
      rw [s3, fMn]) (by
      rw [s4, fFi]) ((s2 83 11 rfl).trans r3) (r4.imp id (fun z i hi => (s2 100 i rfl).trans (z i hi))) (fun j hj => by
      obtain rfl : l = j := by omega
      refine ⟨rfl, fun w c hw hc => ?_⟩
      have := C.2.2.1.2.1 2 (by decide)
      have l2 : lim 2 = 6 := rfl
      rw [Fr_rg s2 53 59 rfl (by omega) (by omega) c]
      exact r5 w c hw hc)
    exact ⟨g4, r1.trans (s1.trans u1), u2⟩
def fAn (x : Int) (f : Nat → Option Nat) (m : Nat) : Int := if x = 0 then (fMn f m : Int) else if x = 1 then fFi f m else (fBG f m).1
theorem R_letsM {n : Nat} {h g : hp} (C : LC n h) {t : Nat} (h25 : h 123 25 = (t : Int)) (ht : (t : Int) < h (n + 1) 1) {W N K : Nat} (hW : h (n + 1) 2 = (W : Int)) (hN : h (n + 21) 0 = (N : Int)) (hK : h (n + 1) 0 = (K : Int)) {b : Nat → Nat → Int} {Lc M : Nat} (hF : BF b W Lc M) (hB : BM b Lc M h) (known : Int) {l : Nat} (hl : l < 20 * K) (F : Fr [137, 138, 139, 157, 158] [] h g) : ∃ g2 : hp, px_R (mm_Mod_lets, 0, [(2, 123), (0, (l : Int)), (0, known), (9, 0), (9, 0)], [], (K0, g)) = some (bo (fitF W N (lwL n h t) b known M Lc l), (K0, g2)) ∧ Fr [137, 138, 139, 157] [] g g2 ∧ ∀ Q, fitF W N (lwL n h t) b known M Lc l = some Q → PD (g2 157) BT 30 Q := by
  have hn := C.1
  have c0 := ST_n C.2.2.1 (k := 0) (by decide)
  have Cg := LC_F C F (by decide) rfl rfl
  have f1 := Fr_st hn F rfl (n + 1) (by omega) (by omega)
  have f21 := Fr_st hn F rfl (n + 21) (by omega) (by omega)
  obtain ⟨k1, m1, G1, M1⟩ := R_makeMC (LC_LD Cg) (s := l / 20) (t := t) (y := 10 * (l % 20 + 1)) (by rw [f1, hK]; omega) (by rw [f1]; exact ht) (by omega) (W := W) (N := N) (by rw [f1]; exact hW) (by rw [f21]; exact hN)
  rw [lvl_48 hn F rfl] at M1
  have M1 : MC W N (lwL n h t l) k1 := M1
  obtain ⟨k2, o1, o2, o3⟩ := R_oneM M1.2.2.1 (l : Int) known
  have M2 := MC_F M1 o2 (by decide) rfl
  have H2 : BM b Lc M k2 := BM_F (BM_F (BM_F hB F rfl) G1 rfl) o2 rfl
  obtain ⟨k3, s1, s2, s3⟩ := lets_M (known := known) hF (l : Int) Lc 0 1 k2 (9, 0) (Nat.zero_add _) M2 H2 o3 rfl
  have s1 : px_R (mm_Mod_lets, 52, [(2, 123), (0, (l : Int)), (0, known), (0, 0), (9, 0)], [], (K0, k2)) = some (bo (fitF W N (lwL n h t) b known M Lc l), (K0, k3)) := s1
  refine ⟨k3, ?_, Fr_sub (Fr_tr (Fr_tr G1 o2) s2) rfl rfl, s3⟩
  have ln := law_n (show l < 1000 by omega)
  rw [eq_Mod_lets_0]
  simp only [px_rd_mk, px_wr_mk, Int.reduceToNat, Int.toNat_natCast, if_true, if_false, Option.bind_some, px_up_cell, px_up_slot, px_up_eq, ne_eq, Nat.reduceEqDiff, not_false_eq_true, Int.reduceEq, Int.reduceLT, Int.reduceLE, Int.reduceNeg, decide_true, decide_false, Bool.and_true, Bool.true_and, Bool.and_false, Bool.false_and, and_self, and_true, true_and, and_false, false_and, bi_T, bi_F, not_true_eq_false, Bool.false_eq_true, kg_123, ln.1, ln.2, (F 123 25 rfl).trans h25, m1, o1]
  exact s1
theorem fitM {n : Nat} {h : hp} (C : LC n h) {t : Nat} (h25 : h 123 25 = (t : Int)) (ht : (t : Int) < h (n + 1) 1) {W N K : Nat} (hW : h (n + 1) 2 = (W : Int)) (hN : h (n + 21) 0 = (N : Int)) (hK : h (n + 1) 0 = (K : Int)) {b : Nat → Nat → Int} {Lc M : Nat} (hF : BF b W Lc M) (hB : BM b Lc M h) (known x2 : Int) (r : Nat) : ∀ (l : Nat) (g : hp) (y7 : pv), l + r = 20 * K → Fr [137, 138, 139, 157, 158] [] h g → ((fBG (fitF W N (lwL n h t) b known M Lc) l).1 = -1 ∨ PD (g 158) BT 30 (fBG (fitF W N (lwL n h t) b known M Lc) l).2) → ∃ g2 : hp, px_R (mm_Mod_fit, 44, [(2, 123), (0, known), (0, x2), (0, (fMn (fitF W N (lwL n h t) b known M Lc) l : Int)), (0, fFi (fitF W N (lwL n h t) b known M Lc) l), (0, (fBG (fitF W N (lwL n h t) b known M Lc) l).1), (0, (l : Int)), y7], [], (K0, g)) = some (fAn x2 (fitF W N (lwL n h t) b known M Lc) (20 * K), (K0, g2)) ∧ Fr [137, 138, 139, 157, 158] [] h g2 := by
  have hn := C.1
  have c0 := ST_n C.2.2.1 (k := 0) (by decide)
  have K6 : K ≤ 6 := by omega
  have N3 := C.2.2.1.2.2.2.2.1
  have le := fitF_le (show N ≤ 3 by omega) hF.1 (W := W) (L := lwL n h t) (b := b) (known := known) (M := M)
  induction r with
  | zero =>
    intro l g y7 hl F _
    have e : l = 20 * K := hl
    rw [← e]
    have hgK : g 125 0 = (K : Int) := (F 125 0 rfl).trans (c0.1.trans hK)
    have I := IR_Fr C.2.1 F (by decide)
    have hlt : ((l : Int) < ((20 * K : Nat) : Int)) = False := eq_false (by omega)
    have n20 := w20 K6
    refine ⟨g, ?_, F⟩
    rw [eq_Mod_fit_44]
    simp only [px_rd_mk, px_wr_mk, Int.reduceToNat, Int.toNat_natCast, if_true, if_false, Option.bind_some, px_up_cell, px_up_slot, px_up_eq, ne_eq, Nat.reduceEqDiff, not_false_eq_true, Int.reduceEq, Int.reduceLT, Int.reduceLE, Int.reduceNeg, decide_true, decide_false, Bool.and_true, Bool.true_and, Bool.and_false, Bool.false_and, and_self, and_true, true_and, and_false, false_and, bi_T, bi_F, not_true_eq_false, Bool.false_eq_true, kg_123, ka_125, ir_123_0 I, ir_123_12 I, ir_123_13 I, ir_123_14 I, ir_123_15 I, ir_123_16 I, ir_123_17 I, ir_123_18 I, ir_123_19 I, ir_123_20 I, ir_123_21 I, ir_123_30 I, ir_123_31 I, ir_123_32 I, ir_123_33 I, ir_123_34 I, ir_123_35 I, ir_123_36 I, ir_123_37 I, ir_123_38 I, ir_123_39 I, ir_123_41 I, ir_123_42 I, ir_123_44 I, ir_123_45 I, ir_123_46 I, ir_123_50 I, ir_123_54 I, ir_123_55 I, ir_123_56 I, ir_123_57 I, ir_123_58 I, ir_123_59 I, ir_123_60 I, ir_123_61 I, ir_123_62 I, hgK, n20, hlt]
    unfold fAn
    by_cases a : x2 = 0
    · rw [if_pos a, if_pos a]
    · rw [if_neg a, if_neg a]
      by_cases d : x2 = 1
      · rw [if_pos d, if_pos d]
      · rw [if_neg d, if_neg d]
  | succ r ih =>
    intro l g y7 hl F hP
    have hgK : g 125 0 = (K : Int) := (F 125 0 rfl).trans (c0.1.trans hK)
    have I := IR_Fr C.2.1 F (by decide)
    have hlt : ((l : Int) < ((20 * K : Nat) : Int)) = True := eq_true (by omega)
    have leM := fMn_le (fitF W N (lwL n h t) b known M Lc) l
    obtain ⟨g1, e1, F1, V1⟩ := R_letsM C h25 ht hW hN hK hF hB known (show l < 20 * K by omega) F
    have Fg : Fr [137, 138, 139, 157, 158] [] h g1 := Fr_sub (Fr_tr F F1) rfl rfl
    have I1 := IR_Fr C.2.1 Fg (by decide)
    have q158 : (fBG (fitF W N (lwL n h t) b known M Lc) l).1 = -1 ∨ PD (g1 158) BT 30 (fBG (fitF W N (lwL n h t) b known M Lc) l).2 := hP.imp id (fun z i hi => (F1 158 i rfl).trans (z i hi))
    have leG := fBG_le le l
    have ih := ih (l + 1)
    have n20 := w20 K6
    have lK : l < 1000 := by omega
    have lm : fMn (fitF W N (lwL n h t) b known M Lc) l < 1000000 := by omega
    have w1 := px_w_s (show l < 1000000 by omega)
    have w2 := px_w_s lm
    rw [fMn, fFi, fBG] at ih
    cases o : fitF W N (lwL n h t) b known M Lc l with
    | none =>
      rw [o] at e1 ih
      simp only at ih
      obtain ⟨g2, r1, r2⟩ := ih g1 y7 (by
        clear n20 w1 w2
        omega) Fg q158
      refine ⟨g2, ?_, r2⟩
      rw [eq_Mod_fit_44]
      simp only [px_rd_mk, px_wr_mk, Int.reduceToNat, Int.toNat_natCast, if_true, if_false, Option.bind_some, px_up_cell, px_up_slot, px_up_eq, ne_eq, Nat.reduceEqDiff, not_false_eq_true, Int.reduceEq, Int.reduceLT, Int.reduceLE, Int.reduceNeg, decide_true, decide_false, Bool.and_true, Bool.true_and, Bool.and_false, Bool.false_and, and_self, and_true, true_and, and_false, false_and, bi_T, bi_F, not_true_eq_false, Bool.false_eq_true, kg_123, ka_125, ir_123_0 I, ir_123_12 I, ir_123_13 I, ir_123_14 I, ir_123_15 I, ir_123_16 I, ir_123_17 I, ir_123_18 I, ir_123_19 I, ir_123_20 I, ir_123_21 I, ir_123_30 I, ir_123_31 I, ir_123_32 I, ir_123_33 I, ir_123_34 I, ir_123_35 I, ir_123_36 I, ir_123_37 I, ir_123_38 I, ir_123_39 I, ir_123_41 I, ir_123_42 I, ir_123_44 I, ir_123_45 I, ir_123_46 I, ir_123_50 I, ir_123_54 I, ir_123_55 I, ir_123_56 I, ir_123_57 I, ir_123_58 I, ir_123_59 I, ir_123_60 I, ir_123_61 I, ir_123_62 I, hgK, n20, hlt, e1, show bo none = 0 from rfl, w1]
      exact r1
    | some P =>
      rw [o] at e1 ih
      simp only at ih
      have pP := V1 P o
      have lP := le l P o
      generalize hA : fBG (fitF W N (lwL n h t) b known M Lc) l = A at *
      generalize hm : fMn (fitF W N (lwL n h t) b known M Lc) l = m at *
      generalize hfi : fFi (fitF W N (lwL n h t) b known M Lc) l = fi at *
      obtain ⟨s0, hs0⟩ : ∃ s0 : Int, s0 = if fi = -1 then (l : Int) else fi := ⟨_, rfl⟩
      rw [← hs0] at ih
      have to87 : px_R (mm_Mod_fit, 44, [(2, 123), (0, known), (0, x2), (0, (m : Int)), (0, fi), (0, A.1), (0, (l : Int)), y7], [], (K0, g)) = px_R (mm_Mod_fit, 87, [(2, 123), (0, known), (0, x2), (0, ((m + 1 : Nat) : Int)), (0, fi), (0, A.1), (0, (l : Int)), y7], [(0, s0)], (K0, g1)) := by
        rw [eq_Mod_fit_44, hs0]
        by_cases c : fi = -1
        · have c1 := eq_true c
          simp only [px_rd_mk, px_wr_mk, Int.reduceToNat, Int.toNat_natCast, if_true, if_false, Option.bind_some, px_up_cell, px_up_slot, px_up_eq, ne_eq, Nat.reduceEqDiff, not_false_eq_true, Int.reduceEq, Int.reduceLT, Int.reduceLE, Int.reduceNeg, decide_true, decide_false, Bool.and_true, Bool.true_and, Bool.and_false, Bool.false_and, and_self, and_true, true_and, and_false, false_and, bi_T, bi_F, not_true_eq_false, Bool.false_eq_true, kg_123, ka_125, ir_123_0 I, ir_123_12 I, ir_123_13 I, ir_123_14 I, ir_123_15 I, ir_123_16 I, ir_123_17 I, ir_123_18 I, ir_123_19 I, ir_123_20 I, ir_123_21 I, ir_123_30 I, ir_123_31 I, ir_123_32 I, ir_123_33 I, ir_123_34 I, ir_123_35 I, ir_123_36 I, ir_123_37 I, ir_123_38 I, ir_123_39 I, ir_123_41 I, ir_123_42 I, ir_123_44 I, ir_123_45 I, ir_123_46 I, ir_123_50 I, ir_123_54 I, ir_123_55 I, ir_123_56 I, ir_123_57 I, ir_123_58 I, ir_123_59 I, ir_123_60 I, ir_123_61 I, ir_123_62 I, hgK, n20, hlt, e1, show bo (some P) = 1 from rfl, w2, c1]
        · have c1 := eq_false c
          simp only [px_rd_mk, px_wr_mk, Int.reduceToNat, Int.toNat_natCast, if_true, if_false, Option.bind_some, px_up_cell, px_up_slot, px_up_eq, ne_eq, Nat.reduceEqDiff, not_false_eq_true, Int.reduceEq, Int.reduceLT, Int.reduceLE, Int.reduceNeg, decide_true, decide_false, Bool.and_true, Bool.true_and, Bool.and_false, Bool.false_and, and_self, and_true, true_and, and_false, false_and, bi_T, bi_F, not_true_eq_false, Bool.false_eq_true, kg_123, ka_125, ir_123_0 I, ir_123_12 I, ir_123_13 I, ir_123_14 I, ir_123_15 I, ir_123_16 I, ir_123_17 I, ir_123_18 I, ir_123_19 I, ir_123_20 I, ir_123_21 I, ir_123_30 I, ir_123_31 I, ir_123_32 I, ir_123_33 I, ir_123_34 I, ir_123_35 I, ir_123_36 I, ir_123_37 I, ir_123_38 I, ir_123_39 I, ir_123_41 I, ir_123_42 I, ir_123_44 I, ir_123_45 I, ir_123_46 I, ir_123_50 I, ir_123_54 I, ir_123_55 I, ir_123_56 I, ir_123_57 I, ir_123_58 I, ir_123_59 I, ir_123_60 I, ir_123_61 I, ir_123_62 I, hgK, n20, hlt, e1, show bo (some P) = 1 from rfl, w2, c1]
      rw [to87]
      obtain ⟨g2, b1, b2, b3⟩ := R_becomeM I1 pP known x2 ((m + 1 : Nat) : Int) s0 (l : Int) lK
      have F2 : Fr [137, 138, 139, 157, 158] [] h g2 := Fr_sub (Fr_tr Fg b2) rfl rfl
      by_cases c : A.1 = -1
      · rw [if_pos (Or.inl c)] at ih
        obtain ⟨g3, r1, r2⟩ := ih g2 (0, 30) (by
          clear n20 w1 w2
          omega) F2 (Or.inr b3)
        refine ⟨g3, ?_, r2⟩
        rw [eq_Mod_fit_87, if_pos c, b1]
        exact r1
      · have pA := q158.resolve_left c
        have ab := R_aboveM I1 pP pA (Nat.lt_of_le_of_lt lP p20_M) (Nat.lt_of_le_of_lt leG p20_M)
        have c1 := eq_false c
        by_cases d : A.2 < P
        · rw [if_pos (Or.inr d)] at ih
          rw [bi_t d] at ab
          obtain ⟨g3, r1, r2⟩ := ih g2 (0, 30) (by
            clear n20 w1 w2
            omega) F2 (Or.inr b3)
          refine ⟨g3, ?_, r2⟩
          rw [eq_Mod_fit_87]
          simp only [px_rd_mk, px_wr_mk, Int.reduceToNat, Int.toNat_natCast, if_true, if_false, Option.bind_some, px_up_cell, px_up_slot, px_up_eq, ne_eq, Nat.reduceEqDiff, not_false_eq_true, Int.reduceEq, Int.reduceLT, Int.reduceLE, Int.reduceNeg, decide_true, decide_false, Bool.and_true, Bool.true_and, Bool.and_false, Bool.false_and, and_self, and_true, true_and, and_false, false_and, bi_T, bi_F, not_true_eq_false, Bool.false_eq_true, kg_123, c1, ab]
          rw [b1]
          exact r1
        · have nd : ¬ (A.1 = -1 ∨ A.2 < P) := fun z => z.elim c d
          rw [if_neg nd] at ih
          rw [bi_f d] at ab
          obtain ⟨g3, r1, r2⟩ := ih g1 y7 (by
            clear n20 w1 w2
            omega) Fg q158
          refine ⟨g3, ?_, r2⟩
          rw [eq_Mod_fit_87]
          simp only [px_rd_mk, px_wr_mk, Int.reduceToNat, Int.toNat_natCast, if_true, if_false, Option.bind_some, px_up_cell, px_up_slot, px_up_eq, ne_eq, Nat.reduceEqDiff, not_false_eq_true, Int.reduceEq, Int.reduceLT, Int.reduceLE, Int.reduceNeg, decide_true, decide_false, Bool.and_true, Bool.true_and, Bool.and_false, Bool.false_and, and_self, and_true, true_and, and_false, false_and, bi_T, bi_F, not_true_eq_false, Bool.false_eq_true, kg_123, c1, ab, w1]
          exact r1
theorem C_fit {h : hp} (C : CI h) (x y : Int) : AL h mm_Tin_fit mm_Mod_fit [(2, 1), (0, x), (0, y)] [(2, 123), (0, x), (0, y), (9, 0), (9, 0), (9, 0), (9, 0), (9, 0)] := by
  have C2 := C
  obtain ⟨n, ⟨hn, h8, h9⟩, hI, hT, hK, hS, hL, hR, hC, hKs, hW, hB⟩ := C2
  have c0 := ST_n hS (k := 0) (by decide)
  have c1 := ST_n hS (k := 1) (by decide)
  have c2 := ST_n hS (k := 2) (by decide)
  have c8 := hS.2.2.2.2.1
  by_cases hx : 0 ≤ x ∧ x ≤ 999
  · by_cases hy : 0 ≤ y ∧ y ≤ 2
    · by_cases hc : h (n + 1) 0 = 0 ∨ h (n + 1) 1 = 0
      · have hc2 : ¬ (0 < h (n + 1) 0 ∧ 0 < h (n + 1) 1) := by omega
        refine AL_same C (-4) ?_ ?_
        · rw [eq_Tin_fit_0]
          simp only [px_rd_mk, px_wr_mk, Int.reduceToNat, Int.toNat_natCast, if_true, if_false, Option.bind_some, px_up_cell, px_up_slot, px_up_eq, ne_eq, Nat.reduceEqDiff, not_false_eq_true, Int.reduceEq, Int.reduceLT, Int.reduceLE, Int.reduceNeg, decide_true, decide_false, Bool.and_true, Bool.true_and, Bool.and_false, Bool.false_and, and_self, and_true, true_and, and_false, false_and, bi_T, bi_F, not_true_eq_false, Bool.false_eq_true, kg_1, R_Tin_within, bi_t hx, bi_t hy, R_lineLacks hn h8 hI, bi_t hc]
        · rw [eq_Mod_fit_0]
          simp only [px_rd_mk, px_wr_mk, Int.reduceToNat, Int.toNat_natCast, if_true, if_false, Option.bind_some, px_up_cell, px_up_slot, px_up_eq, ne_eq, Nat.reduceEqDiff, not_false_eq_true, Int.reduceEq, Int.reduceLT, Int.reduceLE, Int.reduceNeg, decide_true, decide_false, Bool.and_true, Bool.true_and, Bool.and_false, Bool.false_and, and_self, and_true, true_and, and_false, false_and, bi_T, bi_F, not_true_eq_false, Bool.false_eq_true, kg_123, R_Mod_in, bi_t hx, bi_t hy, R_hasLine hI hS, bi_f hc2]
      · have hc2 : 0 < h (n + 1) 0 ∧ 0 < h (n + 1) 1 := by omega
        obtain ⟨K, hK2⟩ := Int.eq_ofNat_of_zero_le c0.2.1
        obtain ⟨W, hW2⟩ := Int.eq_ofNat_of_zero_le c2.2.1
        obtain ⟨N, hN2⟩ := Int.eq_ofNat_of_zero_le c8.2.1
        obtain ⟨t, t1, t2, t3⟩ := LI_t hL hc2.2
        have B2 := hB
        obtain ⟨B53, B51, B52, Beq, B85, B89⟩ := B2
        obtain ⟨Lc, hLc⟩ := Int.eq_ofNat_of_zero_le B51.2.1
        obtain ⟨M, hM⟩ := Int.eq_ofNat_of_zero_le B52.2.1
        obtain ⟨b, hb⟩ : ∃ b : Nat → Nat → Int, b = fun q i => h (84 + q) i := ⟨_, rfl⟩
        have hF : BF b W Lc M := by
          rw [hb]
          refine ⟨by omega, by omega, fun i hi => ?_, fun i hi => ?_⟩
          · have q := B85 i (by omega)
            rw [hW2] at q
            exact q
          · have q := B89 i (by omega)
            rw [hW2] at q
            exact q
        have hBC : BC b Lc M h := by
          rw [hb]
          exact ⟨hLc, hM, fun _ _ _ => rfl⟩
        have hBM : BM b Lc M h := by
          rw [hb]
          refine ⟨B51.1.trans hLc, B52.1.trans hM, fun q hq i => ?_⟩
          obtain ⟨z0, z1, z2, z3, z4, z5⟩ := Beq i
          have q6 : q = 0 ∨ q = 1 ∨ q = 2 ∨ q = 3 ∨ q = 4 ∨ q = 5 := by omega
          rcases q6 with rfl | rfl | rfl | rfl | rfl | rfl
          · exact z0
          · exact z1
          · exact z2
          · exact z3
          · exact z4
          · exact z5
        have LC0 : LC n h := ⟨hn, hI, hS, LI_LB hL⟩
        obtain ⟨g0, hg0⟩ : ∃ g0 : hp, g0 = px_up (px_up (px_up h 83 9 0) 83 10 (-1)) 83 11 (-1) := ⟨_, rfl⟩
        have F0 : Fr fcs fss h g0 := by
          rw [hg0]
          exact Fr_up (Fr_up (Fr_up (Fr_rf _ _ _) _ rfl) _ rfl) _ rfl
        obtain ⟨g, e1, F1, v9, v10, v11, v0, v2⟩ := tryC LC0 t1 t3 hW2 hN2 hK2 hF hBC x (h 48 0) (h 48 2) (20 * K) 0 g0 0 (Nat.zero_add _) F0 (by
          rw [hg0]
          simp only [px_up_cell, px_up_slot, px_up_eq, ne_eq, Nat.reduceEqDiff, not_false_eq_true]
          rfl) (by
          rw [hg0]
          simp only [px_up_cell, px_up_slot, px_up_eq, ne_eq, Nat.reduceEqDiff, not_false_eq_true]
          try rfl) (by
          rw [hg0]
          simp only [px_up_cell, px_up_slot, px_up_eq, ne_eq, Nat.reduceEqDiff, not_false_eq_true]
          try rfl) (Or.inl rfl) (fun j hj => absurd hj (by omega))
        rw [hg0] at e1
        have e1 : px_R (mm_Book_tryLaws, 33, [(2, 83), (2, (n : Int)), (2, 48), (2, 51), (0, x), (0, h 48 0), (0, h 48 2), (0, 0), (0, 0)], [], (K0, px_up (px_up (px_up h 83 9 0) 83 10 (-1)) 83 11 (-1))) = some (0, (K0, g)) := e1
        have F2 : Fr fcs fs2 h g := Fr_two F1 v0 v2
        have Ig := IR_Fr hI F2 (by decide)
        have LCg := LC_F LC0 F2 (by decide) rfl rfl
        have f1 := Fr_st hn F2 rfl (n + 1) (by omega) (by omega)
        have f21 := Fr_st hn F2 rfl (n + 21) (by omega) (by omega)
        have eL : lwL n g t = lwL n h t := funext fun l => lvl_48 hn F2 rfl _ _ _
        obtain ⟨k, m1, G1⟩ := fitM LCg (t := t) (W := W) (N := N) (K := K) ((F2 123 25 rfl).trans t2) (by rw [f1]; exact t3) (by rw [f1]; exact hW2) (by rw [f21]; exact hN2) (by rw [f1]; exact hK2) hF (BM_F hBM F2 rfl) x y (20 * K) 0 g (9, 0) (Nat.zero_add _) (Fr_rf _ _ _) (Or.inl rfl)
        rw [eL] at m1
        have m1 : px_R (mm_Mod_fit, 44, [(2, 123), (0, x), (0, y), (0, 0), (0, -1), (0, -1), (0, 0), (9, 0)], [], (K0, g)) = some (fAn y (fitF W N (lwL n h t) b x M Lc) (20 * K), (K0, k)) := m1
        have hLg := R_hasLine LCg.2.1 LCg.2.2.1
        rw [f1] at hLg
        have F : Fr (fcs ++ [137, 138, 139, 157, 158]) fs2 h k := Fr_sub (Fr_tr F2 G1) rfl rfl
        have e0 : px_R (mm_Book_tryLaws, 0, [(2, 83), (2, (n : Int)), (2, 48), (2, 51), (0, x), (9, 0), (9, 0), (9, 0), (9, 0)], [], (K0, h)) = some (0, (K0, g)) := by
          rw [eq_Book_tryLaws_0]
          simp only [px_rd_mk, px_wr_mk, Int.reduceToNat, Int.toNat_natCast, if_true, if_false, Option.bind_some, px_up_cell, px_up_slot, px_up_eq, ne_eq, Nat.reduceEqDiff, not_false_eq_true, Int.reduceEq, Int.reduceLT, Int.reduceLE, Int.reduceNeg, decide_true, decide_false, Bool.and_true, Bool.true_and, Bool.and_false, Bool.false_and, and_self, and_true, true_and, and_false, false_and, bi_T, bi_F, not_true_eq_false, Bool.false_eq_true, kg_83, kg_48]
          exact e1
        refine ⟨fAn y (fitF W N (lwL n h t) b x M Lc) (20 * K), g, k, ?_, ?_, ⟨n, SP_F F rfl ⟨hn, h8, h9⟩, IR_Fr hI F (by decide), TP_F F rfl hT, FK_F F rfl hK, ST_F hn F rfl hS, LI_F hn F rfl hL, RW_F F rfl hR, CR_F F rfl hC, KS_F F rfl hKs, WI_F hn F rfl hW, BK_F hn F rfl hB⟩⟩
        · rw [eq_Tin_fit_0]
          unfold fAn
          by_cases y0 : y = 0
          · have y1 := eq_true y0
            rw [if_pos y0]
            simp only [px_rd_mk, px_wr_mk, Int.reduceToNat, Int.toNat_natCast, if_true, if_false, Option.bind_some, px_up_cell, px_up_slot, px_up_eq, ne_eq, Nat.reduceEqDiff, not_false_eq_true, Int.reduceEq, Int.reduceLT, Int.reduceLE, Int.reduceNeg, decide_true, decide_false, Bool.and_true, Bool.true_and, Bool.and_false, Bool.false_and, and_self, and_true, true_and, and_false, false_and, bi_T, bi_F, not_true_eq_false, Bool.false_eq_true, kg_1, kg_83, R_Tin_within, bi_t hx, bi_t hy, R_lineLacks hn h8 hI, bi_f hc, ir_1_0 hI, ir_1_1 hI, ir_1_2 hI, ir_1_3 hI, ir_1_4 hI, ir_1_5 hI, ir_1_6 hI, ir_1_7 hI, h8, e0, ir_1_0 Ig, ir_1_1 Ig, ir_1_2 Ig, ir_1_3 Ig, ir_1_4 Ig, ir_1_5 Ig, ir_1_6 Ig, ir_1_7 Ig, y1, v9]
          · have y1 := eq_false y0
            rw [if_neg y0]
            by_cases y2 : y = 1
            · have y3 := eq_true y2
              rw [if_pos y2]
              simp only [px_rd_mk, px_wr_mk, Int.reduceToNat, Int.toNat_natCast, if_true, if_false, Option.bind_some, px_up_cell, px_up_slot, px_up_eq, ne_eq, Nat.reduceEqDiff, not_false_eq_true, Int.reduceEq, Int.reduceLT, Int.reduceLE, Int.reduceNeg, decide_true, decide_false, Bool.and_true, Bool.true_and, Bool.and_false, Bool.false_and, and_self, and_true, true_and, and_false, false_and, bi_T, bi_F, not_true_eq_false, Bool.false_eq_true, kg_1, kg_83, R_Tin_within, bi_t hx, bi_t hy, R_lineLacks hn h8 hI, bi_f hc, ir_1_0 hI, ir_1_1 hI, ir_1_2 hI, ir_1_3 hI, ir_1_4 hI, ir_1_5 hI, ir_1_6 hI, ir_1_7 hI, h8, e0, ir_1_0 Ig, ir_1_1 Ig, ir_1_2 Ig, ir_1_3 Ig, ir_1_4 Ig, ir_1_5 Ig, ir_1_6 Ig, ir_1_7 Ig, y1, y3, v10]
            · have y3 := eq_false y2
              rw [if_neg y2]
              simp only [px_rd_mk, px_wr_mk, Int.reduceToNat, Int.toNat_natCast, if_true, if_false, Option.bind_some, px_up_cell, px_up_slot, px_up_eq, ne_eq, Nat.reduceEqDiff, not_false_eq_true, Int.reduceEq, Int.reduceLT, Int.reduceLE, Int.reduceNeg, decide_true, decide_false, Bool.and_true, Bool.true_and, Bool.and_false, Bool.false_and, and_self, and_true, true_and, and_false, false_and, bi_T, bi_F, not_true_eq_false, Bool.false_eq_true, kg_1, kg_83, R_Tin_within, bi_t hx, bi_t hy, R_lineLacks hn h8 hI, bi_f hc, ir_1_0 hI, ir_1_1 hI, ir_1_2 hI, ir_1_3 hI, ir_1_4 hI, ir_1_5 hI, ir_1_6 hI, ir_1_7 hI, h8, e0, ir_1_0 Ig, ir_1_1 Ig, ir_1_2 Ig, ir_1_3 Ig, ir_1_4 Ig, ir_1_5 Ig, ir_1_6 Ig, ir_1_7 Ig, y1, y3, v11]
        · rw [eq_Mod_fit_0]
          simp only [px_rd_mk, px_wr_mk, Int.reduceToNat, Int.toNat_natCast, if_true, if_false, Option.bind_some, px_up_cell, px_up_slot, px_up_eq, ne_eq, Nat.reduceEqDiff, not_false_eq_true, Int.reduceEq, Int.reduceLT, Int.reduceLE, Int.reduceNeg, decide_true, decide_false, Bool.and_true, Bool.true_and, Bool.and_false, Bool.false_and, and_self, and_true, true_and, and_false, false_and, bi_T, bi_F, not_true_eq_false, Bool.false_eq_true, kg_123, R_Mod_in, bi_t hx, bi_t hy, hLg, bi_t hc2, m1]
    · refine AL_same C (-2) ?_ ?_
      · rw [eq_Tin_fit_0]
        simp only [px_rd_mk, px_wr_mk, Int.reduceToNat, Int.toNat_natCast, if_true, if_false, Option.bind_some, px_up_cell, px_up_slot, px_up_eq, ne_eq, Nat.reduceEqDiff, not_false_eq_true, Int.reduceEq, Int.reduceLT, Int.reduceLE, Int.reduceNeg, decide_true, decide_false, Bool.and_true, Bool.true_and, Bool.and_false, Bool.false_and, and_self, and_true, true_and, and_false, false_and, bi_T, bi_F, not_true_eq_false, Bool.false_eq_true, kg_1, R_Tin_within, bi_t hx, bi_f hy]
      · rw [eq_Mod_fit_0]
        simp only [px_rd_mk, px_wr_mk, Int.reduceToNat, Int.toNat_natCast, if_true, if_false, Option.bind_some, px_up_cell, px_up_slot, px_up_eq, ne_eq, Nat.reduceEqDiff, not_false_eq_true, Int.reduceEq, Int.reduceLT, Int.reduceLE, Int.reduceNeg, decide_true, decide_false, Bool.and_true, Bool.true_and, Bool.and_false, Bool.false_and, and_self, and_true, true_and, and_false, false_and, bi_T, bi_F, not_true_eq_false, Bool.false_eq_true, kg_123, R_Mod_in, bi_t hx, bi_f hy]
  · refine AL_same C (-2) ?_ ?_
    · rw [eq_Tin_fit_0]
      simp only [px_rd_mk, px_wr_mk, Int.reduceToNat, Int.toNat_natCast, if_true, if_false, Option.bind_some, px_up_cell, px_up_slot, px_up_eq, ne_eq, Nat.reduceEqDiff, not_false_eq_true, Int.reduceEq, Int.reduceLT, Int.reduceLE, Int.reduceNeg, decide_true, decide_false, Bool.and_true, Bool.true_and, Bool.and_false, Bool.false_and, and_self, and_true, true_and, and_false, false_and, bi_T, bi_F, not_true_eq_false, Bool.false_eq_true, kg_1, R_Tin_within, bi_f hx]
    · rw [eq_Mod_fit_0]
      simp only [px_rd_mk, px_wr_mk, Int.reduceToNat, Int.toNat_natCast, if_true, if_false, Option.bind_some, px_up_cell, px_up_slot, px_up_eq, ne_eq, Nat.reduceEqDiff, not_false_eq_true, Int.reduceEq, Int.reduceLT, Int.reduceLE, Int.reduceNeg, decide_true, decide_false, Bool.and_true, Bool.true_and, Bool.and_false, Bool.false_and, and_self, and_true, true_and, and_false, false_and, bi_T, bi_F, not_true_eq_false, Bool.false_eq_true, kg_123, R_Mod_in, bi_f hx]
