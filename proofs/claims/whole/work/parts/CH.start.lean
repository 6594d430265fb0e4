/-! A new object and a new reference: what holds before the first call. -/
theorem kt160 : Kt 160 = K0 := by decide +kernel
def mOps2 : List (Nat × Nat × Nat × Int) := ((0, 123, 0, 0) :: mOps) ++ [(1, 123, 62, 159)]
theorem rO_app : ∀ (l k : List (Nat × Nat × Nat × Int)) (h : hp), rO (l ++ k) h = rO k (rO l h)
  | [], _, _ => rfl
  | o :: l, k, h => rO_app l k (rO1 o h)
theorem rl_ok : ∀ q ∈ rl, (q.1 < 123 ∧ ¬ (102 ≤ q.1 ∧ q.1 ≤ 105) ∧ ¬ (q.1 = 101 ∧ q.2.1 < 4) ∧ vO tOps q.1 q.2.1 none = some q.2.2) ∨ (123 ≤ q.1 ∧ vO mOps2 q.1 q.2.1 none = some q.2.2) := by decide +kernel
theorem start_CI (hx : hp) : ∃ h0 : hp, px_R (mm_Mod_init, 0, [(2, 123)], [], (Kt 124, rO [(0, 123, 0, 0)] (laid (tinH (rO [(0, 1, 0, 0)] hx)) 2))) = some (0, (K0, h0)) ∧ CI h0 ∧ h0 0 = hx 0 := by
  obtain ⟨hB, hBe⟩ : ∃ hB : hp, hB = laid (tinH (rO [(0, 1, 0, 0)] hx)) 2 := ⟨_, rfl⟩
  obtain ⟨hE, hEe⟩ : ∃ hE : hp, hE = px_up (modH (rO [(0, 123, 0, 0)] hB)) 123 62 159 := ⟨_, rfl⟩
  have hE2 : hE = rO mOps2 hB := by
    rw [hEe, mod_ops]
    unfold mOps2
    rw [rO_app]
    rfl
  -- cells of the class
  have cB : ∀ a b : Nat, ¬ (102 ≤ a ∧ a ≤ 105) → ¬ (a = 101 ∧ b < 4) → ∀ w, vO tOps a b none = some w → hB a b = w := fun a b z1 z2 w e => by
    rw [hBe, laid_Fr _ 2 a b ((fin_f ..).mpr (by
      simp
      omega)), tin_ops]
    exact rO_v e _
  have zB : ∀ a : Nat, ¬ (101 ≤ a ∧ a ≤ 105) → zO tOps a false = true → ∀ b, hB a b = 0 := fun a z1 e b => by
    rw [hBe, laid_Fr _ 2 a b ((fin_f ..).mpr (by
      simp
      omega)), tin_ops]
    exact rO_z e _ b
  have cE : ∀ a b : Nat, a < 123 → hE a b = hB a b := fun a b ha => by
    rw [hE2]
    exact rO_lo (m := 123) mOps2 hB (by decide +kernel) a b ha
  have mE : ∀ a b w, vO mOps2 a b none = some w → hE a b = w := fun a b w e => by
    rw [hE2]
    exact rO_v e _
  have zE : ∀ a, zO mOps2 a false = true → ∀ b, hE a b = 0 := fun a e b => by
    rw [hE2]
    exact rO_z e _ b
  have IE : IR hE := fun q hq => by
    rcases rl_ok q hq with ⟨q1, q2, q3, q4⟩ | ⟨q1, q2⟩
    · rw [cE _ _ q1]
      exact cB _ _ q2 q3 _ q4
    · exact mE _ _ _ q2
  obtain ⟨g1, b1, b2, b3, b4, b5, b6⟩ := mbegin 9 0 hE rfl IE (fun j hj => absurd hj (by omega))
  have b1 : px_R (mm_Mod_begin, 2, [(2, 123), (0, 0)], [], (K0, hE)) = some (0, (K0, g1)) := b1
  have I1 := FMt_IR IE b2
  obtain ⟨g2, s1, sF, sc, s24, s25, s26, s27, s28, s29, s40, s51, s52, s53⟩ := R_settle I1
  have I2 := smt_IR I1 sF
  have n1 := R_Mod_newStretch I2 2
  have Fn := nstd_Fr g2 2
  have I3 := IR_Fr I2 Fn (by decide)
  refine ⟨nstd g2 2, ?_, ?_, ?_⟩
  · rw [← hBe, mi_all, kt160, eq_Mod_init_291]
    simp only [px_rd_mk, px_wr_mk, Int.reduceToNat, Int.toNat_natCast, if_true, if_false, Option.bind_some, px_up_cell, px_up_slot, px_up_eq, ne_eq, Nat.reduceEqDiff, not_false_eq_true, Int.reduceEq, Int.reduceLT, Int.reduceLE, Int.reduceNeg, decide_true, decide_false, Bool.and_true, Bool.true_and, Bool.and_false, Bool.false_and, and_self, and_true, true_and, and_false, false_and, bi_T, bi_F, not_true_eq_false, Bool.false_eq_true, kg_123]
    rw [← hEe, eq_Mod_begin_0]
    simp only [px_rd_mk, px_wr_mk, Int.reduceToNat, Int.toNat_natCast, if_true, if_false, Option.bind_some, px_up_cell, px_up_slot, px_up_eq, ne_eq, Nat.reduceEqDiff, not_false_eq_true, Int.reduceEq, Int.reduceLT, Int.reduceLE, Int.reduceNeg, decide_true, decide_false, Bool.and_true, Bool.true_and, Bool.and_false, Bool.false_and, and_self, and_true, true_and, and_false, false_and, bi_T, bi_F, not_true_eq_false, Bool.false_eq_true, kg_123, b1, s1, n1]
  · -- values
    have kc : ∀ a b : Nat, a < 123 → nstd g2 2 a b = hB a b := fun a b ha => by
      rw [Fr_rg Fn 0 123 rfl (Nat.zero_le a) ha b, sF a b (by unfold smt; omega), b2 a b (by unfold fmt2; omega), cE a b ha]
    have km : ∀ a b : Nat, ¬ a = 140 → ¬ a = 141 → nstd g2 2 a b = g2 a b := fun a b z1 z2 => Fn a b ((fin_f ..).mpr (by
      simp
      omega))
    have kE : ∀ a b : Nat, ¬ a = 140 → ¬ a = 141 → ¬ smt a b → ¬ fmt2 a b → nstd g2 2 a b = hE a b := fun a b z1 z2 z3 z4 => by
      rw [km a b z1 z2, sF a b z3, b2 a b z4]
    have kz : ∀ a b : Nat, (135 ≤ a ∨ a = 124) → ¬ a = 140 → ¬ a = 141 → nstd g2 2 a b = hE a b := fun a b z z1 z2 => kE a b z1 z2 (by unfold smt; omega) (by unfold fmt2; omega)
    have k123 : ∀ b : Nat, ¬ smt 123 b → ¬ b = 23 → nstd g2 2 123 b = hE 123 b := fun b z1 z2 => by
      rw [km 123 b (by decide) (by decide), sF 123 b z1, b6 b z2]
    have cv : ∀ a b : Nat, a < 123 → ¬ (102 ≤ a ∧ a ≤ 105) → ¬ (a = 101 ∧ b < 4) → ∀ w, vO tOps a b none = some w → nstd g2 2 a b = w := fun a b ha z1 z2 w e => (kc a b ha).trans (cB a b z1 z2 w e)
    have mx : ∀ a b : Nat, 101 ≤ a → a ≤ 105 → nstd g2 2 a b = laid (tinH (rO [(0, 1, 0, 0)] hx)) 2 a b := fun a b h1 h2 => by
      rw [kc a b (by omega), hBe]
    have z5 : ∀ b, nstd g2 2 5 b = 0 := fun b => (kc 5 b (by decide)).trans (zB 5 (by decide) (by decide +kernel) b)
    refine ⟨4, ⟨Or.inl rfl, ?_, ?_⟩, I3, ⟨?_, ?_, fun i => ?_⟩, ⟨?_, ?_⟩, ?_, ?_, RW_mix (laid_RW (by decide)) mx, CR2_mix (laid_ok (c := tinH (rO [(0, 1, 0, 0)] hx)) (m := g2) 2) mx (fun b _ => rfl) (fun b _ => rfl), fun s hs => Or.inl ⟨?_, ?_⟩, ?_, ?_⟩
    · exact cv 1 8 (by decide) (by decide) (by decide) _ (by decide +kernel)
    · exact cv 1 9 (by decide) (by decide) (by decide) _ (by decide +kernel)
    · rw [k123 1 (by unfold smt; decide) (by decide), mE 123 1 0 (by decide +kernel), cv 2 1 (by decide) (by decide) (by decide) 0 (by decide +kernel)]
    · rw [cv 2 1 (by decide) (by decide) (by decide) 0 (by decide +kernel)]
      decide
    · rw [kz 124 i (Or.inr rfl) (by decide) (by decide), zE 124 (by decide +kernel) i, kc 3 i (by decide), zB 3 (by decide) (by decide +kernel) i]
      decide
    · rw [k123 8 (by unfold smt; decide) (by decide), mE 123 8 0 (by decide +kernel), cv 1 10 (by decide) (by decide) (by decide) 0 (by decide +kernel)]
    · rw [k123 9 (by unfold smt; decide) (by decide), mE 123 9 (-1) (by decide +kernel), cv 1 11 (by decide) (by decide) (by decide) (-1) (by decide +kernel)]
    · refine ST_spr (c := nstd g2 2) (m := g1) (SPR_0 (fun j _ => z5 j) ?_ ?_ ?_ b3 b4 b5) (fun _ _ _ => rfl) ?_ ⟨fun z hz => ?_, fun z hz => ?_, fun z hz => ?_, fun z hz => ?_, fun z hz => ?_, fun z hz => ?_, fun z hz => ?_, fun z hz => ?_, fun z hz => ?_⟩
      · exact cv 23 0 (by decide) (by decide) (by decide) _ (by decide +kernel)
      · exact cv 24 0 (by decide) (by decide) (by decide) _ (by decide +kernel)
      · exact cv 25 0 (by decide) (by decide) (by decide) _ (by decide +kernel)
      · rw [k123 22 (by unfold smt; decide) (by decide), mE 123 22 0 (by decide +kernel), cv 4 0 (by decide) (by decide) (by decide) 0 (by decide +kernel)]
      · rw [km _ _ (by decide) (by decide)]
        exact sc.1 z hz
      · rw [km _ _ (by decide) (by decide)]
        exact sc.2.1 z hz
      · rw [km _ _ (by decide) (by decide)]
        exact sc.2.2.1 z hz
      · rw [km _ _ (by decide) (by decide)]
        exact sc.2.2.2.1 z hz
      · rw [km _ _ (by decide) (by decide)]
        exact sc.2.2.2.2.1 z hz
      · rw [km _ _ (by decide) (by decide)]
        exact sc.2.2.2.2.2.1 z hz
      · rw [km _ _ (by decide) (by decide)]
        exact sc.2.2.2.2.2.2.1 z hz
      · rw [km _ _ (by decide) (by decide)]
        exact sc.2.2.2.2.2.2.2.1 z hz
      · rw [km _ _ (by decide) (by decide)]
        exact sc.2.2.2.2.2.2.2.2 z hz
    · have c48 : ∀ b w, vO tOps 48 b none = some w → nstd g2 2 48 b = w := fun b w e => cv 48 b (by decide) (by decide) (by omega) w e
      have m1 : ∀ b, nstd g2 2 123 b = g2 123 b := fun b => km 123 b (by decide) (by decide)
      exact LI_0 (c48 0 0 (by decide +kernel)) (c48 1 0 (by decide +kernel)) (c48 2 10 (by decide +kernel)) (c48 3 0 (by decide +kernel)) (c48 4 0 (by decide +kernel)) (c48 6 0 (by decide +kernel)) ((m1 _).trans s24) ((m1 _).trans s25) ((m1 _).trans s26) ((m1 _).trans s27) ((m1 _).trans s28) ((m1 _).trans s29)
    · have s3 : s = 0 ∨ s = 1 ∨ s = 2 := by omega
      rw [kz 142 s (Or.inl (by decide)) (by decide) (by decide)]
      exact zE 142 (by decide +kernel) s
    · have s3 : s = 0 ∨ s = 1 ∨ s = 2 := by omega
      rcases s3 with rfl | rfl | rfl
      · exact cv 107 0 (by decide) (by decide) (by decide) _ (by decide +kernel)
      · exact cv 112 0 (by decide) (by decide) (by decide) _ (by decide +kernel)
      · exact cv 117 0 (by decide) (by decide) (by decide) _ (by decide +kernel)
    · exact WI_0 (cv 79 0 (by decide) (by decide) (by decide) 0 (by decide +kernel)) ((km 123 40 (by decide) (by decide)).trans s40)
    · have c83 : ∀ b w, vO tOps 83 b none = some w → nstd g2 2 83 b = w := fun b w e => cv 83 b (by decide) (by decide) (by omega) w e
      have m1 : ∀ b, nstd g2 2 123 b = g2 123 b := fun b => km 123 b (by decide) (by decide)
      have cz : ∀ a : Nat, a < 123 → ¬ (101 ≤ a ∧ a ≤ 105) → zO tOps a false = true → ∀ i, nstd g2 2 a i = 0 := fun a ha z e i => (kc a i ha).trans (zB a z e i)
      have mz : ∀ a : Nat, 142 ≤ a → zO mOps2 a false = true → ∀ i, nstd g2 2 a i = 0 := fun a ha e i => (kz a i (Or.inl (by omega)) (by omega) (by omega)).trans (zE a e i)
      refine BK_0 (c83 0 0 (by decide +kernel)) (c83 1 0 (by decide +kernel)) (c83 2 0 (by decide +kernel)) ((m1 _).trans s53) ((m1 _).trans s51) ((m1 _).trans s52) (fun i => ?_)
      rw [cz 84 (by decide) (by decide) (by decide +kernel), cz 85 (by decide) (by decide) (by decide +kernel), cz 86 (by decide) (by decide) (by decide +kernel), cz 87 (by decide) (by decide) (by decide +kernel), cz 88 (by decide) (by decide) (by decide +kernel), cz 89 (by decide) (by decide) (by decide +kernel), mz 151 (by decide) (by decide +kernel), mz 152 (by decide) (by decide +kernel), mz 153 (by decide) (by decide +kernel), mz 154 (by decide) (by decide +kernel), mz 155 (by decide) (by decide +kernel), mz 156 (by decide) (by decide +kernel)]
      exact ⟨rfl, rfl, rfl, rfl, rfl, rfl⟩
  · refine funext fun b => ?_
    rw [Fr_rg Fn 0 123 rfl (Nat.le_refl 0) (by decide) b, sF 0 b (by unfold smt; omega), b2 0 b (by unfold fmt2; omega), cE 0 b (by decide), hBe, laid_Fr _ 2 0 b ((fin_f ..).mpr (by simp)), tin_ops, rO_lo (m := 1) tOps _ (by decide +kernel) 0 b (by decide)]
    rfl
