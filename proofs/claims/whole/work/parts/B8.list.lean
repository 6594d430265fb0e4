/-! list. -/
def btO : Nat → Int → Int → Option Int
  | 0, _, _ => none
  | f + 1, x1, x2 => if x2 = 0 then some x1 else btO f (px_w (x1 + 1)) (px_and x2 (px_w (x2 - 1)))
theorem btO_R (x0 : Int) (w : pw) (r : Int) : ∀ (f : Nat) (x1 x2 : Int), btO f x1 x2 = some r → px_R (mm_Mod_bits, 4, [(0, x0), (0, x1), (0, x2)], [], w) = some (r, w)
  | 0, _, _, h => by cases h
  | f + 1, x1, x2, h => by
    rw [btO] at h
    rw [eq_Mod_bits_4]
    by_cases c : x2 = 0
    · rw [if_pos c] at h ⊢
      cases h
      rfl
    · rw [if_neg c] at h ⊢
      exact btO_R x0 w r f _ _ h
theorem fx_bits : ∀ s : Fin 64, btO 8 0 (s.val : Int) = some ((pcn 10 s.val : Nat) : Int) := by decide +kernel
theorem R_mbits {T : Nat} (hT : T < 64) (w : pw) : px_R (mm_Mod_bits, 0, [(0, (T : Int)), (9, 0), (9, 0)], [], w) = some (((pcn 10 T : Nat) : Int), w) := by
  rw [eq_Mod_bits_0]
  exact btO_R _ _ _ 8 _ _ (fx_bits ⟨T, hT⟩)
theorem fx_ne : ∀ W : Fin 7, ∀ T : Fin 64, 1 ≤ T.val → T.val < 2 ^ W.val → ∃ a : Fin 6, a.val < W.val ∧ inS T.val a.val = true := by decide +kernel
def slV (W N : Nat) (L : Nat → Nat → Int) (T : Nat) : Int := mnS T (rtV W N L T) W
theorem slV_rng {W N : Nat} (hN : N ≤ 3) (L : Nat → Nat → Int) (T : Nat) : 0 ≤ slV W N L T ∧ slV W N L T ≤ 65536 := mnS_rng W fun w _ => tkS_rng hN L _ w w
def lst (f : Nat → Int) (k : Nat) : Nat → Int × Int
  | 0 => (-1, -1)
  | i + 1 => if pcn 10 (i + 1) = k then (if (lst f k i).1 < f (i + 1) then (f (i + 1), ((i + 1 : Nat) : Int)) else lst f k i) else lst f k i
theorem lst_pr (f : Nat → Int) (k : Nat) (hf : ∀ i, 0 ≤ f i) : ∀ i : Nat, lst f k i = (-1, -1) ∨ (0 ≤ (lst f k i).1 ∧ 1 ≤ (lst f k i).2)
  | 0 => Or.inl rfl
  | i + 1 => by
    rw [lst]
    by_cases c : pcn 10 (i + 1) = k
    · rw [if_pos c]
      by_cases d : (lst f k i).1 < f (i + 1)
      · rw [if_pos d]
        exact Or.inr ⟨hf _, by simp only; omega⟩
      · rw [if_neg d]; exact lst_pr f k hf i
    · rw [if_neg c]; exact lst_pr f k hf i
theorem R_tlist {n : Nat} {h : hp} (h8 : h 1 8 = (n : Int)) (hn : n = 4 ∨ n = 26) {W N : Nat} {L : Nat → Nat → Int} (E : EC W N L h) (hW : h (n + 1) 2 = (W : Int)) (k : Nat) : ∃ g : hp, px_R (mm_Tin_list, 53, [(2, 1), (0, (k : Int)), (0, -1), (0, -1), (0, 1), (9, 0)], [], (K0, h)) = some ((lst (slV W N L) k (2 ^ W - 1)).2, (K0, g)) ∧ Fr (hcs ++ dcs) [(51, 5)] h g := by
  have W6 := E.1
  have T64 := all_lt W6
  have lp := px_lp (fun z : List pv × hp => px_R (mm_Tin_list, 53, z.1, [], (K0, z.2))) (fun i z => (∃ y5 : pv, z.1 = [(2, 1), (0, (k : Int)), (0, (lst (slV W N L) k i).1), (0, (lst (slV W N L) k i).2), (0, ((i + 1 : Nat) : Int)), y5]) ∧ Fr (hcs ++ dcs) [(51, 5)] h z.2) (2 ^ W - 1) (by
    rintro i ⟨ls, g⟩ hi ⟨⟨y5, e1⟩, F⟩
    simp only at e1 F
    subst e1
    have Eg := EC_F E F (by decide) rfl
    have aw := R_tallWords hn ((F 1 8 rfl).trans h8) Eg.2.2.1 (W := W) (by rw [Fr_st hn F rfl (n + 1) (by omega) (by omega)]; exact hW) W6
    have nlt : ((((2 ^ W - 1 : Nat) : Int)) < ((i + 1 : Nat) : Int)) = False := eq_false (by omega)
    have bc := R_Integer_bitCount (s := i + 1) (by omega) (K0, g)
    by_cases c : pcn 10 (i + 1) = k
    · have ck : (((pcn 10 (i + 1) : Nat) : Int) = (k : Int)) = True := eq_true (by omega)
      obtain ⟨v3, g3, m1, m2, m3⟩ := R_leastOf Eg (T := i + 1) (by omega) (e := (lst (slV W N L) k i).1)
      have ok := least_ok m3
      have F3 : Fr (hcs ++ dcs) [(51, 5)] h g3 := Fr_tr2 F m2
      have st : px_R (mm_Tin_list, 53, [(2, 1), (0, (k : Int)), (0, (lst (slV W N L) k i).1), (0, (lst (slV W N L) k i).2), (0, ((i + 1 : Nat) : Int)), y5], [], (K0, g)) = if (lst (slV W N L) k i).1 < v3 then px_R (mm_Tin_list, 53, [(2, 1), (0, (k : Int)), (0, v3), (0, ((i + 1 : Nat) : Int)), (0, ((i + 1 + 1 : Nat) : Int)), (0, v3)], [], (K0, g3)) else px_R (mm_Tin_list, 53, [(2, 1), (0, (k : Int)), (0, (lst (slV W N L) k i).1), (0, (lst (slV W N L) k i).2), (0, ((i + 1 + 1 : Nat) : Int)), (0, v3)], [], (K0, g3)) := by
        rw [eq_Tin_list_53]
        simp only [px_rd_mk, px_wr_mk, Int.reduceToNat, Int.toNat_natCast, if_true, if_false, Option.bind_some, px_up_cell, px_up_slot, px_up_eq, ne_eq, Nat.reduceEqDiff, not_false_eq_true, Int.reduceEq, Int.reduceLT, Int.reduceLE, Int.reduceNeg, decide_true, decide_false, Bool.and_true, Bool.true_and, Bool.and_false, Bool.false_and, and_self, and_true, true_and, and_false, false_and, bi_T, bi_F, not_true_eq_false, Bool.false_eq_true, kg_1, kg_51, aw, nlt, bc, ck, ir_1_0 Eg.2.2.1, ir_1_1 Eg.2.2.1, ir_1_2 Eg.2.2.1, ir_1_3 Eg.2.2.1, ir_1_4 Eg.2.2.1, ir_1_5 Eg.2.2.1, ir_1_6 Eg.2.2.1, ir_1_7 Eg.2.2.1, m1, px_w_s (show i + 1 < 1000000 by omega)]
      by_cases d : (lst (slV W N L) k i).1 < v3
      · have ev : v3 = slV W N L (i + 1) := ok.2 d
        have d5 : (lst (slV W N L) k i).1 < slV W N L (i + 1) := ok.1.mp d
        have eb : lst (slV W N L) k (i + 1) = (v3, ((i + 1 : Nat) : Int)) := by
          rw [lst, if_pos c, if_pos d5, ← ev]
        refine ⟨([(2, 1), (0, (k : Int)), (0, v3), (0, ((i + 1 : Nat) : Int)), (0, ((i + 1 + 1 : Nat) : Int)), (0, v3)], g3), ?_, ⟨_, by rw [eb]⟩, F3⟩
        show px_R (mm_Tin_list, 53, _, [], (K0, g)) = _
        rw [st, if_pos d]
      · have d5 : ¬ (lst (slV W N L) k i).1 < slV W N L (i + 1) := fun z => d (ok.1.mpr z)
        have eb : lst (slV W N L) k (i + 1) = lst (slV W N L) k i := by
          rw [lst, if_pos c, if_neg d5]
        refine ⟨([(2, 1), (0, (k : Int)), (0, (lst (slV W N L) k i).1), (0, (lst (slV W N L) k i).2), (0, ((i + 1 + 1 : Nat) : Int)), (0, v3)], g3), ?_, ⟨_, by rw [eb]⟩, F3⟩
        show px_R (mm_Tin_list, 53, _, [], (K0, g)) = _
        rw [st, if_neg d]
    · have ck : (((pcn 10 (i + 1) : Nat) : Int) = (k : Int)) = False := eq_false (by omega)
      have eb : lst (slV W N L) k (i + 1) = lst (slV W N L) k i := by
        rw [lst, if_neg c]
      refine ⟨([(2, 1), (0, (k : Int)), (0, (lst (slV W N L) k i).1), (0, (lst (slV W N L) k i).2), (0, ((i + 1 + 1 : Nat) : Int)), y5], g), ?_, ⟨_, by rw [eb]⟩, F⟩
      show px_R (mm_Tin_list, 53, _, [], (K0, g)) = _
      rw [eq_Tin_list_53]
      simp only [px_rd_mk, px_wr_mk, Int.reduceToNat, Int.toNat_natCast, if_true, if_false, Option.bind_some, px_up_cell, px_up_slot, px_up_eq, ne_eq, Nat.reduceEqDiff, not_false_eq_true, Int.reduceEq, Int.reduceLT, Int.reduceLE, Int.reduceNeg, decide_true, decide_false, Bool.and_true, Bool.true_and, Bool.and_false, Bool.false_and, and_self, and_true, true_and, and_false, false_and, bi_T, bi_F, not_true_eq_false, Bool.false_eq_true, kg_1, kg_51, aw, nlt, bc, ck, px_w_s (show i + 1 < 1000000 by omega)]) (2 ^ W - 1) 0
  obtain ⟨⟨ls, g⟩, f1, ⟨y5, f2⟩, F⟩ := lp ([(2, 1), (0, (k : Int)), (0, -1), (0, -1), (0, 1), (9, 0)], h) (Nat.zero_add _) ⟨⟨_, rfl⟩, Fr_rf _ _ _⟩
  simp only at f1 f2 F
  subst f2
  refine ⟨g, ?_, F⟩
  have Eg := EC_F E F (by decide) rfl
  have aw := R_tallWords hn ((F 1 8 rfl).trans h8) Eg.2.2.1 (W := W) (by rw [Fr_st hn F rfl (n + 1) (by omega) (by omega)]; exact hW) W6
  have lt : ((((2 ^ W - 1 : Nat) : Int)) < ((2 ^ W - 1 + 1 : Nat) : Int)) = True := eq_true (by omega)
  rw [f1, eq_Tin_list_53]
  simp only [px_rd_mk, px_wr_mk, Int.reduceToNat, Int.toNat_natCast, if_true, if_false, Option.bind_some, px_up_cell, px_up_slot, px_up_eq, ne_eq, Nat.reduceEqDiff, not_false_eq_true, Int.reduceEq, Int.reduceLT, Int.reduceLE, Int.reduceNeg, decide_true, decide_false, Bool.and_true, Bool.true_and, Bool.and_false, Bool.false_and, and_self, and_true, true_and, and_false, false_and, bi_T, bi_F, not_true_eq_false, Bool.false_eq_true, kg_1, aw, lt]
theorem R_mlist {h : hp} {W N : Nat} {L : Nat → Nat → Int} (M : MC W N L h) (k : Nat) : ∃ g : hp, px_R (mm_Mod_list, 38, [(2, 123), (0, (k : Int)), (0, -1), (0, 0), (0, 1), (9, 0)], [], (K0, h)) = some ((lst (slV W N L) k (2 ^ W - 1)).2, (K0, g)) ∧ Fr [138, 139] [] h g := by
  have W6 := M.1
  have T64 := all_lt W6
  have W0 : 1 ≤ 2 ^ W := Nat.one_le_two_pow
  have pr := lst_pr (slV W N L) k fun i => (slV_rng M.2.1 L i).1
  have lp := px_lp (fun z : List pv × hp => px_R (mm_Mod_list, 38, z.1, [], (K0, z.2))) (fun i z => (∃ (x3 : Int) (y5 : pv), z.1 = [(2, 123), (0, (k : Int)), (0, (lst (slV W N L) k i).2), (0, x3), (0, ((i + 1 : Nat) : Int)), y5] ∧ ((lst (slV W N L) k i).2 = -1 ∨ x3 = (lst (slV W N L) k i).1)) ∧ Fr [138, 139] [] h z.2) (2 ^ W - 1) (by
    rintro i ⟨ls, g⟩ hi ⟨⟨x3, y5, e1, ex⟩, F⟩
    simp only at e1 F
    subst e1
    have Mg := MC_F M F (by decide) rfl
    have aw := R_mallWords Mg.2.2.1 Mg.2.2.2.1 W6
    have nlt : ((((2 ^ W - 1 : Nat) : Int)) < ((i + 1 : Nat) : Int)) = False := eq_false (by omega)
    have bc := R_mbits (T := i + 1) (by omega) (K0, g)
    by_cases c : pcn 10 (i + 1) = k
    · have ck : (((pcn 10 (i + 1) : Nat) : Int) = (k : Int)) = True := eq_true (by omega)
      obtain ⟨a, a1, a2⟩ := fx_ne ⟨W, by omega⟩ ⟨i + 1, by omega⟩ (Nat.succ_pos i) (show i + 1 < 2 ^ W by omega)
      obtain ⟨g3, m2, G2⟩ := R_worst Mg (T := i + 1) (by omega) a1 a2
      have m2 : px_R (mm_Mod_worst, 0, [(2, 123), (0, ((i + 1 : Nat) : Int)), (9, 0), (9, 0), (9, 0)], [], (K0, g)) = some (slV W N L (i + 1), (K0, g3)) := m2
      have sr := slV_rng (W := W) M.2.1 L (i + 1)
      have st : px_R (mm_Mod_list, 38, [(2, 123), (0, (k : Int)), (0, (lst (slV W N L) k i).2), (0, x3), (0, ((i + 1 : Nat) : Int)), y5], [], (K0, g)) = if (lst (slV W N L) k i).2 = -1 then px_R (mm_Mod_list, 38, [(2, 123), (0, (k : Int)), (0, ((i + 1 : Nat) : Int)), (0, slV W N L (i + 1)), (0, ((i + 1 + 1 : Nat) : Int)), (0, slV W N L (i + 1))], [], (K0, g3)) else if x3 < slV W N L (i + 1) then px_R (mm_Mod_list, 38, [(2, 123), (0, (k : Int)), (0, ((i + 1 : Nat) : Int)), (0, slV W N L (i + 1)), (0, ((i + 1 + 1 : Nat) : Int)), (0, slV W N L (i + 1))], [], (K0, g3)) else px_R (mm_Mod_list, 38, [(2, 123), (0, (k : Int)), (0, (lst (slV W N L) k i).2), (0, x3), (0, ((i + 1 + 1 : Nat) : Int)), (0, slV W N L (i + 1))], [], (K0, g3)) := by
        rw [eq_Mod_list_38]
        simp only [px_rd_mk, px_wr_mk, Int.reduceToNat, Int.toNat_natCast, if_true, if_false, Option.bind_some, px_up_cell, px_up_slot, px_up_eq, ne_eq, Nat.reduceEqDiff, not_false_eq_true, Int.reduceEq, Int.reduceLT, Int.reduceLE, Int.reduceNeg, decide_true, decide_false, Bool.and_true, Bool.true_and, Bool.and_false, Bool.false_and, and_self, and_true, true_and, and_false, false_and, bi_T, bi_F, not_true_eq_false, Bool.false_eq_true, kg_123, aw, nlt, bc, ck, m2, px_w_s (show i + 1 < 1000000 by omega)]
      have up : (lst (slV W N L) k i).1 < slV W N L (i + 1) → px_R (mm_Mod_list, 38, [(2, 123), (0, (k : Int)), (0, (lst (slV W N L) k i).2), (0, x3), (0, ((i + 1 : Nat) : Int)), y5], [], (K0, g)) = px_R (mm_Mod_list, 38, [(2, 123), (0, (k : Int)), (0, ((i + 1 : Nat) : Int)), (0, slV W N L (i + 1)), (0, ((i + 1 + 1 : Nat) : Int)), (0, slV W N L (i + 1))], [], (K0, g3)) := fun d => by
        rw [st]
        rcases ex with q | q
        · rw [if_pos q]
        · by_cases q2 : (lst (slV W N L) k i).2 = -1
          · rw [if_pos q2]
          · rw [if_neg q2, q, if_pos d]
      by_cases d : (lst (slV W N L) k i).1 < slV W N L (i + 1)
      · have eb : lst (slV W N L) k (i + 1) = (slV W N L (i + 1), ((i + 1 : Nat) : Int)) := by
          rw [lst, if_pos c, if_pos d]
        exact ⟨([(2, 123), (0, (k : Int)), (0, ((i + 1 : Nat) : Int)), (0, slV W N L (i + 1)), (0, ((i + 1 + 1 : Nat) : Int)), (0, slV W N L (i + 1))], g3), up d, ⟨_, _, by rw [eb], Or.inr (by rw [eb])⟩, Fr_tr2 F G2⟩
      · have eb : lst (slV W N L) k (i + 1) = lst (slV W N L) k i := by
          rw [lst, if_pos c, if_neg d]
        have q2 : ¬ (lst (slV W N L) k i).2 = -1 := by
          rcases pr i with q | q
          · rw [q] at d
            simp only at d
            omega
          · omega
        have q3 : x3 = (lst (slV W N L) k i).1 := ex.resolve_left q2
        refine ⟨([(2, 123), (0, (k : Int)), (0, (lst (slV W N L) k i).2), (0, x3), (0, ((i + 1 + 1 : Nat) : Int)), (0, slV W N L (i + 1))], g3), ?_, ⟨_, _, by rw [eb], Or.inr (by rw [eb]; exact q3)⟩, Fr_tr2 F G2⟩
        show px_R (mm_Mod_list, 38, _, [], (K0, g)) = _
        rw [st, if_neg q2, q3, if_neg d]
    · have ck : (((pcn 10 (i + 1) : Nat) : Int) = (k : Int)) = False := eq_false (by omega)
      have eb : lst (slV W N L) k (i + 1) = lst (slV W N L) k i := by
        rw [lst, if_neg c]
      refine ⟨([(2, 123), (0, (k : Int)), (0, (lst (slV W N L) k i).2), (0, x3), (0, ((i + 1 + 1 : Nat) : Int)), y5], g), ?_, ⟨_, _, by rw [eb], by rw [eb]; exact ex⟩, F⟩
      show px_R (mm_Mod_list, 38, _, [], (K0, g)) = _
      rw [eq_Mod_list_38]
      simp only [px_rd_mk, px_wr_mk, Int.reduceToNat, Int.toNat_natCast, if_true, if_false, Option.bind_some, px_up_cell, px_up_slot, px_up_eq, ne_eq, Nat.reduceEqDiff, not_false_eq_true, Int.reduceEq, Int.reduceLT, Int.reduceLE, Int.reduceNeg, decide_true, decide_false, Bool.and_true, Bool.true_and, Bool.and_false, Bool.false_and, and_self, and_true, true_and, and_false, false_and, bi_T, bi_F, not_true_eq_false, Bool.false_eq_true, kg_123, aw, nlt, bc, ck, px_w_s (show i + 1 < 1000000 by omega)]) (2 ^ W - 1) 0
  obtain ⟨⟨ls, g⟩, f1, ⟨x3, y5, f2, _⟩, F⟩ := lp ([(2, 123), (0, (k : Int)), (0, -1), (0, 0), (0, 1), (9, 0)], h) (Nat.zero_add _) ⟨⟨_, _, rfl, Or.inl rfl⟩, Fr_rf _ _ _⟩
  simp only at f1 f2 F
  subst f2
  refine ⟨g, ?_, F⟩
  have Mg := MC_F M F (by decide) rfl
  have aw := R_mallWords Mg.2.2.1 Mg.2.2.2.1 W6
  have lt : ((((2 ^ W - 1 : Nat) : Int)) < ((2 ^ W - 1 + 1 : Nat) : Int)) = True := eq_true (by omega)
  rw [f1, eq_Mod_list_38]
  simp only [px_rd_mk, px_wr_mk, Int.reduceToNat, Int.toNat_natCast, if_true, if_false, Option.bind_some, px_up_cell, px_up_slot, px_up_eq, ne_eq, Nat.reduceEqDiff, not_false_eq_true, Int.reduceEq, Int.reduceLT, Int.reduceLE, Int.reduceNeg, decide_true, decide_false, Bool.and_true, Bool.true_and, Bool.and_false, Bool.false_and, and_self, and_true, true_and, and_false, false_and, bi_T, bi_F, not_true_eq_false, Bool.false_eq_true, kg_123, aw, lt]
theorem C_list {h : hp} (C : CI h) (x : Int) : AL h mm_Tin_list mm_Mod_list [(2, 1), (0, x), (9, 0), (9, 0), (9, 0), (9, 0)] [(2, 123), (0, x), (9, 0), (9, 0), (9, 0), (9, 0)] := by
  have C2 := C
  obtain ⟨n, ⟨hn, h8, h9⟩, hI, hT, hK, hS, hL, hR, hC, hKs, hW, hB⟩ := C2
  have c0 := ST_n hS (k := 0) (by decide)
  have c1 := ST_n hS (k := 1) (by decide)
  have c2 := ST_n hS (k := 2) (by decide)
  by_cases hx : 1 ≤ x ∧ x ≤ h (n + 1) 2
  · by_cases hc : h (n + 1) 0 = 0 ∨ h (n + 1) 1 = 0
    · have hc2 : ¬ (0 < h (n + 1) 0 ∧ 0 < h (n + 1) 1) := by omega
      refine AL_same C (-4) ?_ ?_
      · rw [eq_Tin_list_0]
        simp only [px_rd_mk, px_wr_mk, Int.reduceToNat, Int.toNat_natCast, if_true, if_false, Option.bind_some, px_up_cell, px_up_slot, px_up_eq, ne_eq, Nat.reduceEqDiff, not_false_eq_true, Int.reduceEq, Int.reduceLT, Int.reduceLE, Int.reduceNeg, decide_true, decide_false, Bool.and_true, Bool.true_and, Bool.and_false, Bool.false_and, and_self, and_true, true_and, and_false, false_and, bi_T, bi_F, not_true_eq_false, Bool.false_eq_true, kg_1, h8, sgo hn, sr1 hn hI, sga1 hn, R_Tin_within, bi_t hx, R_lineLacks hn h8 hI, bi_t hc]
      · rw [eq_Mod_list_0]
        simp only [px_rd_mk, px_wr_mk, Int.reduceToNat, Int.toNat_natCast, if_true, if_false, Option.bind_some, px_up_cell, px_up_slot, px_up_eq, ne_eq, Nat.reduceEqDiff, not_false_eq_true, Int.reduceEq, Int.reduceLT, Int.reduceLE, Int.reduceNeg, decide_true, decide_false, Bool.and_true, Bool.true_and, Bool.and_false, Bool.false_and, and_self, and_true, true_and, and_false, false_and, bi_T, bi_F, not_true_eq_false, Bool.false_eq_true, kg_123, ka_125, ir_123_0 hI, ir_123_12 hI, ir_123_13 hI, ir_123_14 hI, ir_123_15 hI, ir_123_16 hI, ir_123_17 hI, ir_123_18 hI, ir_123_19 hI, ir_123_20 hI, ir_123_21 hI, ir_123_30 hI, ir_123_31 hI, ir_123_32 hI, ir_123_33 hI, ir_123_34 hI, ir_123_35 hI, ir_123_36 hI, ir_123_37 hI, ir_123_38 hI, ir_123_39 hI, ir_123_41 hI, ir_123_42 hI, ir_123_44 hI, ir_123_45 hI, ir_123_46 hI, ir_123_50 hI, ir_123_54 hI, ir_123_55 hI, ir_123_56 hI, ir_123_57 hI, ir_123_58 hI, ir_123_59 hI, ir_123_60 hI, ir_123_61 hI, ir_123_62 hI, c2.1, R_Mod_in, bi_t hx, R_hasLine hI hS, bi_f hc2]
    · have hc2 : 0 < h (n + 1) 0 ∧ 0 < h (n + 1) 1 := by omega
      obtain ⟨W, hW2⟩ := Int.eq_ofNat_of_zero_le c2.2.1
      obtain ⟨k, rfl⟩ := Int.eq_ofNat_of_zero_le (show 0 ≤ x by omega)
      have c8 := hS.2.2.2.2.1
      obtain ⟨N, hN2⟩ := Int.eq_ofNat_of_zero_le c8.2.1
      obtain ⟨s, s1, s2, s3⟩ := LI_s hL hc2.1
      obtain ⟨t, t1, t2, t3⟩ := LI_t hL hc2.2
      obtain ⟨yy, y1, y2, y3, y4⟩ := LI_y hL
      have LC0 : LC n h := ⟨hn, hI, hS, LI_LB hL⟩
      obtain ⟨v, g1, e1, F1, E1, _, _⟩ := R_learn LC0 s1 s3 t1 t3 y1 y3 hW2 hN2
      have f1 := Fr_st hn F1 rfl (n + 1) (by omega) (by omega)
      obtain ⟨g, e2, F2⟩ := R_tlist ((F1 1 8 rfl).trans h8) hn E1 (by rw [f1]; exact hW2) k
      have F12 : Fr xcs [(51, 0), (51, 1), (51, 5)] h g := Fr_sub (Fr_tr F1 F2) rfl rfl
      have LCg := LC_F LC0 F12 (by decide) rfl rfl
      have g1' := Fr_st hn F12 rfl (n + 1) (by omega) (by omega)
      have g21 := Fr_st hn F12 rfl (n + 21) (by omega) (by omega)
      obtain ⟨k1, m1, G1, M1⟩ := R_makeMC (LC_LD LCg) (s := s) (t := t) (y := yy) (by rw [g1']; exact s3) (by rw [g1']; exact t3) y3 (W := W) (N := N) (by rw [g1']; exact hW2) (by rw [g21]; exact hN2)
      rw [lvl_48 hn F12 rfl] at M1
      obtain ⟨k2, m2, G2⟩ := R_mlist M1 k
      have hLg := R_hasLine LCg.2.1 LCg.2.2.1
      rw [g1'] at hLg
      have F : Fr (xcs ++ [137, 138, 139]) [(51, 0), (51, 1), (51, 5)] h k2 := Fr_sub (Fr_tr (Fr_tr F12 G1) G2) rfl rfl
      refine ⟨(lst (slV W N (lvl n h s t yy)) k (2 ^ W - 1)).2, g, k2, ?_, ?_, ⟨n, SP_F F rfl ⟨hn, h8, h9⟩, IR_Fr hI F (by decide), TP_F F rfl hT, FK_F F rfl hK, ST_F hn F rfl hS, LI_F hn F rfl hL, RW_F F rfl hR, CR_F F rfl hC, KS_F F rfl hKs, WI_F hn F rfl hW, BK_F hn F rfl hB⟩⟩
      · rw [eq_Tin_list_0]
        simp only [px_rd_mk, px_wr_mk, Int.reduceToNat, Int.toNat_natCast, if_true, if_false, Option.bind_some, px_up_cell, px_up_slot, px_up_eq, ne_eq, Nat.reduceEqDiff, not_false_eq_true, Int.reduceEq, Int.reduceLT, Int.reduceLE, Int.reduceNeg, decide_true, decide_false, Bool.and_true, Bool.true_and, Bool.and_false, Bool.false_and, and_self, and_true, true_and, and_false, false_and, bi_T, bi_F, not_true_eq_false, Bool.false_eq_true, kg_1, kg_48, kg_51, h8, sgo hn, sr1 hn hI, sga1 hn, R_Tin_within, bi_t hx, R_lineLacks hn h8 hI, bi_f hc, ir_1_0 hI, ir_1_1 hI, ir_1_2 hI, ir_1_3 hI, ir_1_4 hI, ir_1_5 hI, ir_1_6 hI, ir_1_7 hI, e1, e2]
      · rw [eq_Mod_list_0]
        simp only [px_rd_mk, px_wr_mk, Int.reduceToNat, Int.toNat_natCast, if_true, if_false, Option.bind_some, px_up_cell, px_up_slot, px_up_eq, ne_eq, Nat.reduceEqDiff, not_false_eq_true, Int.reduceEq, Int.reduceLT, Int.reduceLE, Int.reduceNeg, decide_true, decide_false, Bool.and_true, Bool.true_and, Bool.and_false, Bool.false_and, and_self, and_true, true_and, and_false, false_and, bi_T, bi_F, not_true_eq_false, Bool.false_eq_true, kg_123, ka_125, ir_123_0 LCg.2.1, ir_123_12 LCg.2.1, ir_123_13 LCg.2.1, ir_123_14 LCg.2.1, ir_123_15 LCg.2.1, ir_123_16 LCg.2.1, ir_123_17 LCg.2.1, ir_123_18 LCg.2.1, ir_123_19 LCg.2.1, ir_123_20 LCg.2.1, ir_123_21 LCg.2.1, ir_123_30 LCg.2.1, ir_123_31 LCg.2.1, ir_123_32 LCg.2.1, ir_123_33 LCg.2.1, ir_123_34 LCg.2.1, ir_123_35 LCg.2.1, ir_123_36 LCg.2.1, ir_123_37 LCg.2.1, ir_123_38 LCg.2.1, ir_123_39 LCg.2.1, ir_123_41 LCg.2.1, ir_123_42 LCg.2.1, ir_123_44 LCg.2.1, ir_123_45 LCg.2.1, ir_123_46 LCg.2.1, ir_123_50 LCg.2.1, ir_123_54 LCg.2.1, ir_123_55 LCg.2.1, ir_123_56 LCg.2.1, ir_123_57 LCg.2.1, ir_123_58 LCg.2.1, ir_123_59 LCg.2.1, ir_123_60 LCg.2.1, ir_123_61 LCg.2.1, ir_123_62 LCg.2.1, (F12 125 2 rfl).trans c2.1, R_Mod_in, bi_t hx, hLg, bi_t hc2, eq_Mod_makeOwn_0, (F12 123 24 rfl).trans s2, (F12 123 25 rfl).trans t2, (F12 123 26 rfl).trans y2, m1, m2]
  · refine AL_same C (-2) ?_ ?_
    · rw [eq_Tin_list_0]
      simp only [px_rd_mk, px_wr_mk, Int.reduceToNat, Int.toNat_natCast, if_true, if_false, Option.bind_some, px_up_cell, px_up_slot, px_up_eq, ne_eq, Nat.reduceEqDiff, not_false_eq_true, Int.reduceEq, Int.reduceLT, Int.reduceLE, Int.reduceNeg, decide_true, decide_false, Bool.and_true, Bool.true_and, Bool.and_false, Bool.false_and, and_self, and_true, true_and, and_false, false_and, bi_T, bi_F, not_true_eq_false, Bool.false_eq_true, kg_1, h8, sgo hn, sr1 hn hI, sga1 hn, R_Tin_within, bi_f hx]
    · rw [eq_Mod_list_0]
      simp only [px_rd_mk, px_wr_mk, Int.reduceToNat, Int.toNat_natCast, if_true, if_false, Option.bind_some, px_up_cell, px_up_slot, px_up_eq, ne_eq, Nat.reduceEqDiff, not_false_eq_true, Int.reduceEq, Int.reduceLT, Int.reduceLE, Int.reduceNeg, decide_true, decide_false, Bool.and_true, Bool.true_and, Bool.and_false, Bool.false_and, and_self, and_true, true_and, and_false, false_and, bi_T, bi_F, not_true_eq_false, Bool.false_eq_true, kg_123, ka_125, ir_123_0 hI, ir_123_12 hI, ir_123_13 hI, ir_123_14 hI, ir_123_15 hI, ir_123_16 hI, ir_123_17 hI, ir_123_18 hI, ir_123_19 hI, ir_123_20 hI, ir_123_21 hI, ir_123_30 hI, ir_123_31 hI, ir_123_32 hI, ir_123_33 hI, ir_123_34 hI, ir_123_35 hI, ir_123_36 hI, ir_123_37 hI, ir_123_38 hI, ir_123_39 hI, ir_123_41 hI, ir_123_42 hI, ir_123_44 hI, ir_123_45 hI, ir_123_46 hI, ir_123_50 hI, ir_123_54 hI, ir_123_55 hI, ir_123_56 hI, ir_123_57 hI, ir_123_58 hI, ir_123_59 hI, ir_123_60 hI, ir_123_61 hI, ir_123_62 hI, c2.1, R_Mod_in, bi_f hx]
