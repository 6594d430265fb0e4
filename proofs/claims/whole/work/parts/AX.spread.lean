/-! The class's ear: what may be heard of a word in a band, put together. -/
def spc : List Nat := [68, 70, 71, 72, 73, 75, 76, 77, 78]
theorem ir69 {h : hp} (hI : IR h) {k : Nat} (hk : k < 4) : h 69 k = ((70 + k : Nat) : Int) := by
  match k, hk with
  | 0, _ => exact ir_69_0 hI
  | 1, _ => exact ir_69_1 hI
  | 2, _ => exact ir_69_2 hI
  | 3, _ => exact ir_69_3 hI
theorem ir74 {h : hp} (hI : IR h) {k : Nat} (hk : k < 4) : h 74 k = ((75 + k : Nat) : Int) := by
  match k, hk with
  | 0, _ => exact ir_74_0 hI
  | 1, _ => exact ir_74_1 hI
  | 2, _ => exact ir_74_2 hI
  | 3, _ => exact ir_74_3 hI
theorem ka70 (h : hp) {k : Nat} (hk : k < 4) (i : Int) : px_ga (K0, h) 1 ((70 + k : Nat) : Int) i = (decide (0 ≤ i) && decide (i < 7)) := by
  match k, hk with
  | 0, _ => rfl
  | 1, _ => rfl
  | 2, _ => rfl
  | 3, _ => rfl
theorem ka75 (h : hp) {k : Nat} (hk : k < 4) (i : Int) : px_ga (K0, h) 0 ((75 + k : Nat) : Int) i = (decide (0 ≤ i) && decide (i < 7)) := by
  match k, hk with
  | 0, _ => rfl
  | 1, _ => rfl
  | 2, _ => rfl
  | 3, _ => rfl
theorem fm70 {k : Nat} (hk : k < 4) (i : Nat) : fin spc [] (70 + k) i = true := by
  match k, hk with
  | 0, _ => rfl
  | 1, _ => rfl
  | 2, _ => rfl
  | 3, _ => rfl
theorem fm75 {k : Nat} (hk : k < 4) (i : Nat) : fin spc [] (75 + k) i = true := by
  match k, hk with
  | 0, _ => rfl
  | 1, _ => rfl
  | 2, _ => rfl
  | 3, _ => rfl
def wtV (N : Nat) (r : Nat) : Int := (N : Int) + 1 - (((r : Int) - (N : Int)).natAbs : Int)
def ofV (L : Nat → Nat → Int) (m : Nat) (t : Nat → Nat) (N a b r : Nat) : Int := acc (fO L t b (clp 0 9 (L a b + ((r : Int) - (N : Int))))) 0 m
theorem wtV_rng {N r : Nat} (hr : r < 2 * N + 1) : 1 ≤ wtV N r ∧ wtV N r ≤ (N : Int) + 1 := by
  unfold wtV
  omega
theorem ofV_rng {W N : Nat} {L : Nat → Nat → Int} {m : Nat} {t : Nat → Nat} {h : hp} (H : TC W N L m t h) {a b r : Nat} (hb : b < 4) : 0 ≤ ofV L m t N a b r ∧ ofV L m t N a b r < 1152921504606846976 := by
  have hm6 := H.2.2.1
  have c := clp_rng (lo := 0) (hi := 9) (by decide) (L a b + ((r : Int) - (N : Int)))
  have ar := acc_rng (f := fO L t b (clp 0 9 (L a b + ((r : Int) - (N : Int))))) (c := 18) (by decide) m 0 fun i _ h2 => fO_rng H hb c (by omega)
  have pl := p_le6 m (by omega)
  unfold ofV
  omega
theorem sm_upd (f : Nat → Int) (x : Int) {k : Nat} : ∀ n : Nat, k < n → sm n (fun i => f i + if i = k then x else 0) = sm n f + x
  | 0, h => absurd h (by omega)
  | n + 1, h => by
    rw [sm, sm]
    by_cases e : k = n
    · subst e
      have : sm k (fun i => f i + if i = k then x else 0) = sm k f := sm_c fun i hi => by rw [if_neg (by omega), Int.add_zero]
      rw [this, if_pos rfl]
      omega
    · rw [sm_upd f x n (by omega), if_neg (by omega)]
      omega
/-- what spread keeps: so many sounds, their weights and distances, for the first u -/
def SPI (N : Nat) (of : Nat → Int) (b u : Nat) (g : hp) : Prop := ∃ s : Nat, s ≤ u ∧ g 68 b = (s : Int) ∧ (∀ i, i < s → 0 ≤ g (75 + b) i ∧ g (75 + b) i ≤ sm u (wtV N)) ∧ (∀ i, i < s → 0 ≤ g (70 + b) i ∧ g (70 + b) i < 1152921504606846976) ∧ ∀ G : Int → Int, sm s (fun i => g (75 + b) i * G (g (70 + b) i)) = sm u (fun r => wtV N r * G (of r))
theorem spread_find {h : hp} (hI : IR h) {b s : Nat} (hb : b < 4) (hs : h 68 b = (s : Int)) (hs7 : s ≤ 7) (x1 x3 off : Int) (k : Nat) : ∀ i : Nat, i + k = s → ∃ p : Nat, p ≤ s ∧ (p = s ∨ h (70 + b) p = off) ∧ px_R (mm_Ear_spread, 38, [(2, 51), (0, x1), (0, (b : Int)), (0, x3), (1, off), (9, 0), (0, (i : Int))], [], (K0, h)) = px_R (mm_Ear_spread, 70, [(2, 51), (0, x1), (0, (b : Int)), (0, x3), (1, off), (9, 0), (0, (p : Int))], [], (K0, h)) := by
  have gb : (decide ((0 : Int) ≤ (b : Int)) && decide ((b : Int) < 4)) = true := gd_ok (by omega)
  induction k with
  | zero =>
    intro i hi
    have : i = s := hi
    subst this
    have hlt : ((i : Int) < (i : Int)) = False := eq_false (by omega)
    refine ⟨i, Nat.le_refl i, Or.inl rfl, ?_⟩
    rw [eq_Ear_spread_38]
    simp only [px_rd_mk, px_wr_mk, Int.reduceToNat, Int.toNat_natCast, if_true, if_false, Option.bind_some, px_up_cell, px_up_slot, px_up_eq, ne_eq, Nat.reduceEqDiff, not_false_eq_true, Int.reduceEq, Int.reduceLT, Int.reduceLE, Int.reduceNeg, decide_true, decide_false, Bool.and_true, Bool.true_and, Bool.and_false, Bool.false_and, and_self, and_true, true_and, and_false, false_and, bi_T, bi_F, not_true_eq_false, Bool.false_eq_true, kg_51, ka_68, ir_51_2 hI, ir_51_3 hI, ir_51_4 hI, ir_51_6 hI, ir_51_7 hI, ir_51_8 hI, ir_51_9 hI, gb, hs, hlt]
  | succ k ih =>
    intro i hi
    have hlt : ((i : Int) < (s : Int)) = True := eq_true (by omega)
    have gi : (decide ((0 : Int) ≤ (i : Int)) && decide ((i : Int) < 7)) = true := gd_ok (by omega)
    by_cases c : h (70 + b) i = off
    · refine ⟨i, by omega, Or.inr c, ?_⟩
      have cm : px_cmp off off = 0 := by unfold px_cmp; rw [if_neg (Int.lt_irrefl _), if_pos rfl]
      rw [eq_Ear_spread_38]
      simp only [px_rd_mk, px_wr_mk, Int.reduceToNat, Int.toNat_natCast, if_true, if_false, Option.bind_some, px_up_cell, px_up_slot, px_up_eq, ne_eq, Nat.reduceEqDiff, not_false_eq_true, Int.reduceEq, Int.reduceLT, Int.reduceLE, Int.reduceNeg, decide_true, decide_false, Bool.and_true, Bool.true_and, Bool.and_false, Bool.false_and, and_self, and_true, true_and, and_false, false_and, bi_T, bi_F, not_true_eq_false, Bool.false_eq_true, kg_51, ka_68, ka_69, ir_51_2 hI, ir_51_3 hI, ir_51_4 hI, ir_51_6 hI, ir_51_7 hI, ir_51_8 hI, ir_51_9 hI, gb, hs, hlt, ir69 hI hb, ka70 h hb, gi, Bool.or_true, Bool.true_or, c, cm]
    · obtain ⟨p, p1, p2, p3⟩ := ih (i + 1) (by omega)
      refine ⟨p, p1, p2, Eq.trans ?_ p3⟩
      have cm : (px_cmp (h (70 + b) i) off = 0) = False := by
        unfold px_cmp
        apply eq_false
        by_cases d : off < h (70 + b) i
        · rw [if_pos d]; decide
        · rw [if_neg d, if_neg c]; decide
      rw [eq_Ear_spread_38]
      simp only [px_rd_mk, px_wr_mk, Int.reduceToNat, Int.toNat_natCast, if_true, if_false, Option.bind_some, px_up_cell, px_up_slot, px_up_eq, ne_eq, Nat.reduceEqDiff, not_false_eq_true, Int.reduceEq, Int.reduceLT, Int.reduceLE, Int.reduceNeg, decide_true, decide_false, Bool.and_true, Bool.true_and, Bool.and_false, Bool.false_and, and_self, and_true, true_and, and_false, false_and, bi_T, bi_F, not_true_eq_false, Bool.false_eq_true, kg_51, ka_68, ka_69, ir_51_2 hI, ir_51_3 hI, ir_51_4 hI, ir_51_6 hI, ir_51_7 hI, ir_51_8 hI, ir_51_9 hI, gb, hs, hlt, ir69 hI hb, ka70 h hb, gi, Bool.or_true, Bool.true_or, cm, px_w_s (show i < 1000000 by omega)]
theorem spread_step {W N : Nat} {L : Nat → Nat → Int} {m : Nat} {t : Nat → Nat} {h : hp} (H : TC W N L m t h) {a b : Nat} (ha : a < W) (hb : b < 4) {u : Nat} (hu : u < 2 * N + 1) (I : SPI N (ofV L m t N a b) b u h) (y4 y6 : pv) : ∃ (k : hp) (z4 z6 : pv), px_R (mm_Ear_spread, 13, [(2, 51), (0, (a : Int)), (0, (b : Int)), (0, (u : Int) - (N : Int)), y4, (9, 0), y6], [], (K0, h)) = px_R (mm_Ear_spread, 13, [(2, 51), (0, (a : Int)), (0, (b : Int)), (0, ((u + 1 : Nat) : Int) - (N : Int)), z4, (9, 0), z6], [], (K0, k)) ∧ Fr spc [] h k ∧ (∀ c, c < 4 → c ≠ b → k 68 c = h 68 c ∧ k (70 + c) = h (70 + c) ∧ k (75 + c) = h (75 + c)) ∧ SPI N (ofV L m t N a b) b (u + 1) k := by
  have E := H.1
  obtain ⟨hW, hN, hI, e1, e2, e3⟩ := E
  obtain ⟨s, s1, s2, s3, s4, s5⟩ := I
  have hh := R_heardWith H.1 ha hb (v := (u : Int) - (N : Int)) (by omega)
  have c09 := clp_rng (lo := 0) (hi := 9) (by decide) (L a b + ((u : Int) - (N : Int)))
  have off := R_offFrom H hb c09
  have orr := ofV_rng H (a := a) (b := b) (r := u) hb
  have wr := wtV_rng hu
  have nlt : ((N : Int) < (u : Int) - (N : Int)) = False := eq_false (by omega)
  obtain ⟨p, p1, p2, p3⟩ := spread_find hI hb s2 (by omega) (a : Int) ((u : Int) - (N : Int)) (ofV L m t N a b u) s 0 (Nat.zero_add s)
  have p3 : px_R (mm_Ear_spread, 38, [(2, 51), (0, (a : Int)), (0, (b : Int)), (0, (u : Int) - (N : Int)), (1, ofV L m t N a b u), (9, 0), (0, 0)], [], (K0, h)) = _ := p3
  have gb : (decide ((0 : Int) ≤ (b : Int)) && decide ((b : Int) < 4)) = true := gd_ok (by omega)
  have gp : (decide ((0 : Int) ≤ (p : Int)) && decide ((p : Int) < 7)) = true := gd_ok (by omega)
  have ab := px_ab_nat (a := (u : Int) - (N : Int)) (by omega) (by omega)
  have v1 : -2147483648 ≤ (N : Int) + 1 ∧ (N : Int) + 1 < 2147483648 := by omega
  have v2 : -2147483648 ≤ (N : Int) + 1 - (((u : Int) - (N : Int)).natAbs : Int) ∧ (N : Int) + 1 - (((u : Int) - (N : Int)).natAbs : Int) < 2147483648 := by omega
  have v3 : -2147483648 ≤ (u : Int) - (N : Int) + 1 ∧ (u : Int) - (N : Int) + 1 < 2147483648 := by omega
  have eu : (u : Int) - (N : Int) + 1 = ((u + 1 : Nat) : Int) - (N : Int) := by omega
  have swb : 0 ≤ sm u (wtV N) ∧ sm u (wtV N) ≤ 28 := by
    have := sm_bd (n := u) (f := wtV N) (c := fun _ => 4) fun i hi => by have := wtV_rng (N := N) (r := i) (by omega); omega
    have c4 : ∀ n : Nat, sm n (fun _ => (4 : Int)) = 4 * (n : Int) := by
      intro n
      induction n with
      | zero => rfl
      | succ n ih => rw [sm, ih]; omega
    rw [c4] at this
    omega
  have sws : sm (u + 1) (wtV N) = sm u (wtV N) + wtV N u := rfl
  have s68 : fin spc [] 68 b = true := rfl
  have to70 : px_R (mm_Ear_spread, 13, [(2, 51), (0, (a : Int)), (0, (b : Int)), (0, (u : Int) - (N : Int)), y4, (9, 0), y6], [], (K0, h)) = px_R (mm_Ear_spread, 70, [(2, 51), (0, (a : Int)), (0, (b : Int)), (0, (u : Int) - (N : Int)), (1, ofV L m t N a b u), (9, 0), (0, (p : Int))], [], (K0, h)) := by
    rw [eq_Ear_spread_13]
    simp only [px_rd_mk, px_wr_mk, Int.reduceToNat, Int.toNat_natCast, if_true, if_false, Option.bind_some, px_up_cell, px_up_slot, px_up_eq, ne_eq, Nat.reduceEqDiff, not_false_eq_true, Int.reduceEq, Int.reduceLT, Int.reduceLE, Int.reduceNeg, decide_true, decide_false, Bool.and_true, Bool.true_and, Bool.and_false, Bool.false_and, and_self, and_true, true_and, and_false, false_and, bi_T, bi_F, not_true_eq_false, Bool.false_eq_true, kg_51, e2, nlt, hh, off]
    exact p3
  by_cases ep : p = s
  · subst ep
    refine ⟨px_up (px_up (px_up (px_up h (70 + b) p (ofV L m t N a b u)) (75 + b) p 0) 68 b ((p + 1 : Nat) : Int)) (75 + b) p (wtV N u), (1, ofV L m t N a b u), (0, (p : Int)), ?_, Fr_up (Fr_up (Fr_up (Fr_up (Fr_rf _ _ _) _ (fm70 hb p)) _ (fm75 hb p)) _ s68) _ (fm75 hb p), fun c hc hcb => ⟨?_, ?_, ?_⟩, p + 1, by omega, ?_, fun i hi => ?_, fun i hi => ?_, fun G => ?_⟩
    · rw [to70]
      have vw : -2147483648 ≤ 0 + ((N : Int) + 1 - (((u : Int) - (N : Int)).natAbs : Int)) ∧ 0 + ((N : Int) + 1 - (((u : Int) - (N : Int)).natAbs : Int)) < 2147483648 := by omega
      have ew : 0 + ((N : Int) + 1 - (((u : Int) - (N : Int)).natAbs : Int)) = wtV N u := by unfold wtV; omega
      have n1 : ¬ 69 = 70 + b := by omega
      have n2 : ¬ 51 = 70 + b := by omega
      have n3 : ¬ 74 = 70 + b := by omega
      have n4 : ¬ 51 = 75 + b := by omega
      have n5 : ¬ 68 = 70 + b := by omega
      have n6 : ¬ 68 = 75 + b := by omega
      have n7 : ¬ 74 = 75 + b := by omega
      have n8 : ¬ 75 + b = 68 := by omega
      rw [eq_Ear_spread_70]
      simp only [px_rd_mk, px_wr_mk, Int.reduceToNat, Int.toNat_natCast, if_true, if_false, Option.bind_some, px_up_cell, px_up_slot, px_up_eq, ne_eq, Nat.reduceEqDiff, not_false_eq_true, Int.reduceEq, Int.reduceLT, Int.reduceLE, Int.reduceNeg, decide_true, decide_false, Bool.and_true, Bool.true_and, Bool.and_false, Bool.false_and, and_self, and_true, true_and, and_false, false_and, bi_T, bi_F, not_true_eq_false, Bool.false_eq_true, kg_51, ka_68, ka_69, ka_74, ir_51_2 hI, ir_51_3 hI, ir_51_4 hI, ir_51_6 hI, ir_51_7 hI, ir_51_8 hI, ir_51_9 hI, gb, s2, ir69 hI hb, ka70 _ hb, ir74 hI hb, ka75 _ hb, gp, Bool.or_true, Bool.true_or, n1, n2, n3, n4, n5, n6, n7, px_w_s (show p < 1000000 by omega)]
      rw [eq_Ear_spread_112]
      simp only [px_rd_mk, px_wr_mk, Int.reduceToNat, Int.toNat_natCast, if_true, if_false, Option.bind_some, px_up_cell, px_up_slot, px_up_eq, ne_eq, Nat.reduceEqDiff, not_false_eq_true, Int.reduceEq, Int.reduceLT, Int.reduceLE, Int.reduceNeg, decide_true, decide_false, Bool.and_true, Bool.true_and, Bool.and_false, Bool.false_and, and_self, and_true, true_and, and_false, false_and, bi_T, bi_F, not_true_eq_false, Bool.false_eq_true, kg_51, ka_68, ka_69, ka_74, ir_51_2 hI, ir_51_3 hI, ir_51_4 hI, ir_51_6 hI, ir_51_7 hI, ir_51_8 hI, ir_51_9 hI, gb, s2, e2, ir69 hI hb, ka70 _ hb, ir74 hI hb, ka75 _ hb, gp, Bool.or_true, Bool.true_or, n1, n2, n3, n4, n5, n6, n7, n8, ab, px_w_n v1, px_w_n v2, (px_w_n v3).trans eu, (px_w_n vw).trans ew]
    · rw [px_up_cell _ _ _ _ (by omega), px_up_slot _ _ _ _ hcb, px_up_cell _ _ _ _ (by omega), px_up_cell _ _ _ _ (by omega)]
    · funext x
      rw [px_up_cell _ _ _ _ (by omega), px_up_cell _ _ _ _ (by omega), px_up_cell _ _ _ _ (by omega), px_up_cell _ _ _ _ (by omega)]
    · funext x
      rw [px_up_cell _ _ _ _ (by omega), px_up_cell _ _ _ _ (by omega), px_up_cell _ _ _ _ (by omega), px_up_cell _ _ _ _ (by omega)]
    · rw [px_up_cell _ _ _ _ (by omega), px_up_eq]
    · rw [px_up_at, sws]
      by_cases e : i = p
      · rw [if_pos e]; omega
      · rw [if_neg e, px_up_cell _ _ _ _ (by omega), px_up_slot _ _ _ _ e, px_up_cell _ _ _ _ (by omega)]
        have := s3 i (by omega)
        omega
    · rw [px_up_cell _ _ _ _ (by omega), px_up_cell _ _ _ _ (by omega), px_up_cell _ _ _ _ (by omega), px_up_at]
      by_cases e : i = p
      · rw [if_pos e]; exact orr
      · rw [if_neg e]; exact s4 i (by omega)
    · rw [sm, sm, ← s5 G]
      have e1 : sm p (fun i => px_up (px_up (px_up (px_up h (70 + b) p (ofV L m t N a b u)) (75 + b) p 0) 68 b ((p + 1 : Nat) : Int)) (75 + b) p (wtV N u) (75 + b) i * G (px_up (px_up (px_up (px_up h (70 + b) p (ofV L m t N a b u)) (75 + b) p 0) 68 b ((p + 1 : Nat) : Int)) (75 + b) p (wtV N u) (70 + b) i)) = sm p (fun i => h (75 + b) i * G (h (70 + b) i)) := sm_c fun i hi => by
        rw [px_up_slot _ _ _ _ (by omega), px_up_cell (x := 75 + b) _ _ _ _ (by omega), px_up_slot _ _ _ _ (by omega), px_up_cell (x := 75 + b) _ _ _ _ (by omega), px_up_cell (x := 70 + b) _ _ _ _ (by omega), px_up_cell (x := 70 + b) _ _ _ _ (by omega), px_up_cell (x := 70 + b) _ _ _ _ (by omega), px_up_slot _ _ _ _ (by omega)]
      rw [e1, px_up_eq, px_up_cell (x := 70 + b) _ _ _ _ (by omega), px_up_cell (x := 70 + b) _ _ _ _ (by omega), px_up_cell (x := 70 + b) _ _ _ _ (by omega), px_up_eq]
  · have ps : p < s := by omega
    have po : h (70 + b) p = ofV L m t N a b u := by
      rcases p2 with q | q
      · exact absurd q ep
      · exact q
    have wp := s3 p ps
    refine ⟨px_up h (75 + b) p (h (75 + b) p + wtV N u), (1, ofV L m t N a b u), (0, (p : Int)), ?_, Fr_up (Fr_rf _ _ _) _ (fm75 hb p), fun c hc hcb => ⟨?_, ?_, ?_⟩, s, by omega, ?_, fun i hi => ?_, fun i hi => ?_, fun G => ?_⟩
    · rw [to70]
      have vw : -2147483648 ≤ h (75 + b) p + ((N : Int) + 1 - (((u : Int) - (N : Int)).natAbs : Int)) ∧ h (75 + b) p + ((N : Int) + 1 - (((u : Int) - (N : Int)).natAbs : Int)) < 2147483648 := by omega
      have ew : h (75 + b) p + ((N : Int) + 1 - (((u : Int) - (N : Int)).natAbs : Int)) = h (75 + b) p + wtV N u := by unfold wtV; omega
      have nep : ((p : Int) = (s : Int)) = False := eq_false (by omega)
      rw [eq_Ear_spread_70]
      simp only [px_rd_mk, px_wr_mk, Int.reduceToNat, Int.toNat_natCast, if_true, if_false, Option.bind_some, px_up_cell, px_up_slot, px_up_eq, ne_eq, Nat.reduceEqDiff, not_false_eq_true, Int.reduceEq, Int.reduceLT, Int.reduceLE, Int.reduceNeg, decide_true, decide_false, Bool.and_true, Bool.true_and, Bool.and_false, Bool.false_and, and_self, and_true, true_and, and_false, false_and, bi_T, bi_F, not_true_eq_false, Bool.false_eq_true, kg_51, ka_68, ka_69, ka_74, ir_51_2 hI, ir_51_3 hI, ir_51_4 hI, ir_51_6 hI, ir_51_7 hI, ir_51_8 hI, ir_51_9 hI, gb, s2, nep]
      rw [eq_Ear_spread_112]
      simp only [px_rd_mk, px_wr_mk, Int.reduceToNat, Int.toNat_natCast, if_true, if_false, Option.bind_some, px_up_cell, px_up_slot, px_up_eq, ne_eq, Nat.reduceEqDiff, not_false_eq_true, Int.reduceEq, Int.reduceLT, Int.reduceLE, Int.reduceNeg, decide_true, decide_false, Bool.and_true, Bool.true_and, Bool.and_false, Bool.false_and, and_self, and_true, true_and, and_false, false_and, bi_T, bi_F, not_true_eq_false, Bool.false_eq_true, kg_51, ka_68, ka_69, ka_74, ir_51_2 hI, ir_51_3 hI, ir_51_4 hI, ir_51_6 hI, ir_51_7 hI, ir_51_8 hI, ir_51_9 hI, gb, s2, e2, ir74 hI hb, ka75 _ hb, gp, Bool.or_true, Bool.true_or, ab, px_w_n v1, px_w_n v2, (px_w_n v3).trans eu, (px_w_n vw).trans ew]
    · rw [px_up_cell _ _ _ _ (by omega)]
    · funext x
      rw [px_up_cell _ _ _ _ (by omega)]
    · funext x
      rw [px_up_cell _ _ _ _ (by omega)]
    · rw [px_up_cell _ _ _ _ (by omega)]; exact s2
    · rw [px_up_at, sws]
      by_cases e : i = p
      · rw [if_pos e]; omega
      · rw [if_neg e]; have := s3 i hi; omega
    · rw [px_up_cell _ _ _ _ (by omega)]; exact s4 i hi
    · rw [sm, ← s5 G, ← sm_upd _ _ s ps]
      refine sm_c fun i hi => ?_
      rw [px_up_at, px_up_cell (x := 70 + b) _ _ _ _ (by omega)]
      by_cases e : i = p
      · rw [if_pos e, if_pos e, e, po, Int.add_mul]
      · rw [if_neg e, if_neg e, Int.add_zero]
theorem R_spread {W N : Nat} {L : Nat → Nat → Int} {m : Nat} {t : Nat → Nat} {h : hp} (H : TC W N L m t h) {a b : Nat} (ha : a < W) (hb : b < 4) : ∃ k : hp, px_R (mm_Ear_spread, 0, [(2, 51), (0, (a : Int)), (0, (b : Int)), (9, 0), (9, 0), (9, 0), (9, 0)], [], (K0, h)) = some (0, (K0, k)) ∧ Fr spc [] h k ∧ (∀ c, c < 4 → c ≠ b → k 68 c = h 68 c ∧ k (70 + c) = h (70 + c) ∧ k (75 + c) = h (75 + c)) ∧ SPI N (ofV L m t N a b) b (2 * N + 1) k := by
  have E := H.1
  obtain ⟨hW, hN, hI, e1, e2, e3⟩ := E
  have gb : (decide ((0 : Int) ≤ (b : Int)) && decide ((b : Int) < 4)) = true := gd_ok (by omega)
  have s68 : fin spc [] 68 b = true := rfl
  have lp := px_lp (fun z : List pv × hp => px_R (mm_Ear_spread, 13, z.1, [], (K0, z.2))) (fun u z => (∃ y4 y6 : pv, z.1 = [(2, 51), (0, (a : Int)), (0, (b : Int)), (0, (u : Int) - (N : Int)), y4, (9, 0), y6]) ∧ Fr spc [] h z.2 ∧ (∀ c, c < 4 → c ≠ b → z.2 68 c = h 68 c ∧ z.2 (70 + c) = h (70 + c) ∧ z.2 (75 + c) = h (75 + c)) ∧ SPI N (ofV L m t N a b) b u z.2) (2 * N + 1) (by
    rintro u ⟨ls, g⟩ hu ⟨⟨y4, y6, h1⟩, F, hc, I⟩
    simp only at h1 F hc I
    subst h1
    have Hg := TC_F H F (by decide) rfl rfl
    obtain ⟨k, z4, z6, k1, k2, k3, k4⟩ := spread_step Hg ha hb hu I y4 y6
    refine ⟨([(2, 51), (0, (a : Int)), (0, (b : Int)), (0, ((u + 1 : Nat) : Int) - (N : Int)), z4, (9, 0), z6], k), k1, ⟨z4, z6, rfl⟩, Fr_tr2 F k2, fun c c1 c2 => ?_, k4⟩
    obtain ⟨d1, d2, d3⟩ := k3 c c1 c2
    obtain ⟨f1, f2, f3⟩ := hc c c1 c2
    exact ⟨d1.trans f1, d2.trans f2, d3.trans f3⟩) (2 * N + 1) 0
  have vN : -2147483648 ≤ -(N : Int) ∧ -(N : Int) < 2147483648 := by omega
  have eN : -(N : Int) = ((0 : Nat) : Int) - (N : Int) := by omega
  obtain ⟨⟨ls, k⟩, f1, ⟨y4, y6, f2⟩, F, hc, I⟩ := lp ([(2, 51), (0, (a : Int)), (0, (b : Int)), (0, ((0 : Nat) : Int) - (N : Int)), (9, 0), (9, 0), (9, 0)], px_up h 68 b 0) (Nat.zero_add _) ⟨⟨(9, 0), (9, 0), rfl⟩, Fr_up (Fr_rf _ _ _) _ s68, fun c c1 c2 => ⟨px_up_slot _ _ _ _ c2, funext fun x => px_up_cell _ _ _ _ (by omega), funext fun x => px_up_cell _ _ _ _ (by omega)⟩, 0, Nat.le_refl 0, px_up_eq _ _ _ _, fun i hi => absurd hi (by omega), fun i hi => absurd hi (by omega), fun G => rfl⟩
  simp only at f1 f2 F hc I
  subst f2
  refine ⟨k, ?_, F, hc, I⟩
  have Hk := TC_F H F (by decide) rfl rfl
  have hlt : ((N : Int) < ((2 * N + 1 : Nat) : Int) - (N : Int)) = True := eq_true (by omega)
  rw [eq_Ear_spread_0]
  simp only [px_rd_mk, px_wr_mk, Int.reduceToNat, Int.toNat_natCast, if_true, if_false, Option.bind_some, px_up_cell, px_up_slot, px_up_eq, ne_eq, Nat.reduceEqDiff, not_false_eq_true, Int.reduceEq, Int.reduceLT, Int.reduceLE, Int.reduceNeg, decide_true, decide_false, Bool.and_true, Bool.true_and, Bool.and_false, Bool.false_and, and_self, and_true, true_and, and_false, false_and, bi_T, bi_F, not_true_eq_false, Bool.false_eq_true, kg_51, ka_68, ir_51_2 hI, ir_51_3 hI, ir_51_4 hI, ir_51_6 hI, ir_51_7 hI, ir_51_8 hI, ir_51_9 hI, gb, e2, px_w_n vN]
  rw [eN, f1, eq_Ear_spread_13]
  simp only [px_rd_mk, px_wr_mk, Int.reduceToNat, Int.toNat_natCast, if_true, if_false, Option.bind_some, px_up_cell, px_up_slot, px_up_eq, ne_eq, Nat.reduceEqDiff, not_false_eq_true, Int.reduceEq, Int.reduceLT, Int.reduceLE, Int.reduceNeg, decide_true, decide_false, Bool.and_true, Bool.true_and, Bool.and_false, Bool.false_and, and_self, and_true, true_and, and_false, false_and, bi_T, bi_F, not_true_eq_false, Bool.false_eq_true, kg_51, Hk.1.2.2.2.2.1, hlt]
