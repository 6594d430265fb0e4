/-! A clause on both sides. -/
theorem kyV_rng (T : Nat → Int) (s l : Nat) : ∀ m k : Nat, k + m = 9 → kyV T s l k m = -1 ∨ ∃ j : Nat, j < 9 ∧ kyV T s l k m = (j : Int)
  | 0, k, _ => Or.inl rfl
  | m + 1, k, h => by
    rw [kyV]
    by_cases c : nmB T s l k = true
    · rw [if_pos c]
      exact Or.inr ⟨k, by omega, rfl⟩
    · rw [if_neg c]
      exact kyV_rng T s l m (k + 1) (by omega)
theorem jClause {n : Nat} (hn : n = 4 ∨ n = 26) {T : Nat → Int} {N i s e k cl : Nat} {c m : hp} (C : TC2 T N c) (M : TM T N m) (t : TK T N i s e k) (ct : CT T s e k c) (sc : SC T s e k m) (S : SPR n c m) (k0 : ¬ k = 0) (hcl : cl < 100000) : clS n T N e cl c m (px_R (mm_Str_readClause, 0, [(2, (n : Int)), (2, 2), (9, 0), (9, 0), (9, 0)], [], (K0, c))) := by
  have le := TK_le t
  have none : (¬ k = 2 ∨ kyV T s (e - s) 0 9 = -1) → clS n T N e cl c m (px_R (mm_Str_readClause, 0, [(2, (n : Int)), (2, 2), (9, 0), (9, 0), (9, 0)], [], (K0, c))) := fun no => by
    have kd := R_kindOf C t ct
    have e1 : (if k = 2 then kyV T s (e - s) 0 9 else -1) = -1 := by
      by_cases z : k = 2
      · rw [if_pos z, no.resolve_left (fun y => y z)]
      · rw [if_neg z]
    rw [e1] at kd
    have h3 : ¬ m 123 3 = 4 := by
      rw [sc.1]
      intro y
      have y2 : (k + 4) % 5 = 4 := Int.ofNat.inj y
      omega
    have p : px_R (mm_Str_readClause, 0, [(2, (n : Int)), (2, 2), (9, 0), (9, 0), (9, 0)], [], (K0, c)) = some (1, (K0, c)) := by
      rw [eq_Str_readClause_0]
      simp only [px_rd_mk, px_wr_mk, Int.reduceToNat, Int.toNat_natCast, if_true, if_false, Option.bind_some, px_up_cell, px_up_slot, px_up_eq, ne_eq, Nat.reduceEqDiff, not_false_eq_true, Int.reduceEq, Int.reduceLT, Int.reduceLE, Int.reduceNeg, decide_true, decide_false, Bool.and_true, Bool.true_and, Bool.and_false, Bool.false_and, and_self, and_true, true_and, and_false, false_and, bi_T, bi_F, not_true_eq_false, Bool.false_eq_true, sgo hn, kd]
    exact clF h3 p (mNone sc le.2.2.2.1 no) (by decide) (FSt_rf _ _) (FTw_FMt (flM_F _ _)) (flM_8 _ _).1 (by rw [(flM_8 _ _).2, sc.2.1, ct.2.1])
  by_cases k2 : k = 2
  · subst k2
    rcases kyV_rng T s (e - s) 9 0 rfl with z | ⟨j, j9, z⟩
    · exact none (Or.inr z)
    · match j, j9, z with
      | 0, _, z => exact jT_0 hn C M t ct sc S z hcl
      | 1, _, z => exact jT_1 hn C M t ct sc S z hcl
      | 2, _, z => exact jT_2 hn C M t ct sc S z hcl
      | 3, _, z => exact jT_3 hn C M t ct sc S z hcl
      | 4, _, z => exact jT_4 hn C M t ct sc S z hcl
      | 5, _, z => exact jT_5 hn C M t ct sc S z hcl
      | 6, _, z => exact jT_6 hn C M t ct sc S z hcl
      | 7, _, z => exact jT_7 hn C M t ct sc S z hcl
      | 8, _, z => exact jT_8 hn C M t ct sc S z hcl
  · exact none (Or.inl k2)
/-- only the spare street, its number of clauses and the token changed -/
def FS2 (s : Nat) (c d : hp) : Prop := ∀ a b : Nat, ¬ fst2 s a b → ¬ (a = s ∧ b = 0) → d a b = c a b
theorem FS2_of {s : Nat} {c d : hp} (F : FSt s c d) : FS2 s c d := fun a b h _ => F a b h
theorem FS2_tr {s : Nat} {c d e : hp} (F : FS2 s c d) (G : FS2 s d e) : FS2 s c e := fun a b q r => (G a b q r).trans (F a b q r)
theorem SPR_n0 {n : Nat} {v : Int} {c m : hp} (S : SPR n c m) : SPR n (px_up c n 0 v) m := by
  have keep : ∀ a b, ¬ a = n → px_up c n 0 v a b = c a b := fun a b h => px_up_cell _ _ _ _ h
  obtain ⟨A1, ⟨bb, A2, A3, A4⟩, A5, R0, R1, R2, R5, P3, P4⟩ := S
  refine ⟨fun j hj => ?_, ⟨bb, A2, A3, fun j h6 h9 => ?_⟩, fun j hj hj4 => nmS_keep (A5 j hj hj4) (keep _ _ (by omega)) (fun y => keep _ _ (by omega)) (fun _ _ => rfl), rwS_keep R0 (keep _ _ (by omega)) (fun y => keep _ _ (by omega)) (fun _ => rfl), rwS_keep R1 (keep _ _ (by omega)) (fun y => keep _ _ (by omega)) (fun _ => rfl), rwS_keep R2 (keep _ _ (by omega)) (fun y => keep _ _ (by omega)) (fun _ => rfl), rwS_keep R5 (keep _ _ (by omega)) (fun y => keep _ _ (by omega)) (fun _ => rfl), plS_keep P3 (keep _ _ (by omega)) (fun y => keep _ _ (by omega)) (fun _ => rfl) (fun _ => rfl), plS_keep P4 (keep _ _ (by omega)) (fun y => keep _ _ (by omega)) (fun _ => rfl) (fun _ => rfl)⟩
  · rw [keep _ _ (by omega)]
    exact A1 j hj
  · rw [keep (n + 1) j (by omega), keep (n + 13 + j) 0 (by omega)]
    exact A4 j h6 h9
theorem jRead {n : Nat} (hn : n = 4 ∨ n = 26) {T : Nat → Int} {N : Nat} (r : Nat) : ∀ (i s e k cl : Nat) (c m : hp) (y3 : pv), i + r = N → cl ≤ i → TC2 T N c → c 2 4 = (i : Int) → c n 0 = (cl : Int) → TM T N m → TK T N i s e k → SC T s e k m → SPR n c m → (∃ (code : Int) (c' m' : hp), px_R (mm_Str_read, 11, [(2, (n : Int)), (2, 2), (0, (cl : Int)), y3], [], (K0, c)) = some (code, (K0, c')) ∧ px_R (mm_Mod_street, 20, [(2, 123), (0, (cl : Int))], [], (K0, m)) = some (-1, (K0, m')) ∧ 1 ≤ code ∧ FS2 n c c' ∧ FMt m m' ∧ m' 123 8 = code ∧ m' 123 9 = c' 2 3) ∨ ∃ (c' m' : hp) (cn : Nat), px_R (mm_Str_read, 11, [(2, (n : Int)), (2, 2), (0, (cl : Int)), y3], [], (K0, c)) = some (0, (K0, c')) ∧ px_R (mm_Mod_street, 20, [(2, 123), (0, (cl : Int))], [], (K0, m)) = px_R (mm_Mod_street, 20, [(2, 123), (0, (cn : Int))], [], (K0, m')) ∧ m' 123 3 = 4 ∧ c' n 0 = (cn : Int) ∧ SPR n c' m' ∧ FS2 n c c' ∧ FMt m m' ∧ m' 123 8 = m 123 8 ∧ m' 123 9 = m 123 9 := by
  induction r using Nat.strongRecOn with
  | ind r ih =>
    intro i s e k cl c m y3 hi hcl C c4 cn0 M t sc S
    have N9 := C.2.2.1
    obtain ⟨s1, e1, k1, c1, t1, q1, q2, q3, q4, q5, q6, q7⟩ := R_readNext C (show i ≤ N by omega) c4
    obtain ⟨rfl, rfl, rfl⟩ := TK_u t t1
    have F1 : Fr [] tss c c1 := q2
    have Fc1 : FSt n c c1 := FSt_tss F1
    have C1 := FSt_TC hn C Fc1
    have le := TK_le t
    have nl : (900 < (cl : Int)) = False := eq_false (by omega)
    have keep : ∀ a b, ¬ (a = 2 ∧ 2 ≤ b ∧ b ≤ 6) → c1 a b = c a b := tss_o F1
    have S1 : SPR n c1 m := by
      obtain ⟨A1, ⟨bb, A2, A3, A4⟩, A5, R0, R1, R2, R5, P3, P4⟩ := S
      refine ⟨fun j hj => ?_, ⟨bb, A2, A3, fun j h6 h9 => ?_⟩, fun j hj hj4 => nmS_keep (A5 j hj hj4) (keep _ _ (by omega)) (fun y => keep _ _ (by omega)) (fun _ _ => rfl), rwS_keep R0 (keep _ _ (by omega)) (fun y => keep _ _ (by omega)) (fun _ => rfl), rwS_keep R1 (keep _ _ (by omega)) (fun y => keep _ _ (by omega)) (fun _ => rfl), rwS_keep R2 (keep _ _ (by omega)) (fun y => keep _ _ (by omega)) (fun _ => rfl), rwS_keep R5 (keep _ _ (by omega)) (fun y => keep _ _ (by omega)) (fun _ => rfl), plS_keep P3 (keep _ _ (by omega)) (fun y => keep _ _ (by omega)) (fun _ => rfl) (fun _ => rfl), plS_keep P4 (keep _ _ (by omega)) (fun y => keep _ _ (by omega)) (fun _ => rfl) (fun _ => rfl)⟩
      · rw [keep _ _ (by omega)]
        exact A1 j hj
      · rw [keep (n + 1) j (by omega), keep (n + 13 + j) 0 (by omega)]
        exact A4 j h6 h9
    by_cases k0 : k = 0
    · have d2 : c1 2 2 = 0 := by rw [q3, k0]; rfl
      refine Or.inr ⟨c1, m, cl, ?_, rfl, by rw [sc.1, k0]; rfl, (keep _ _ (by omega)).trans cn0, S1, FS2_of Fc1, FMt_rf _, rfl, rfl⟩
      rw [eq_Str_read_11]
      simp only [px_rd_mk, px_wr_mk, Int.reduceToNat, Int.toNat_natCast, if_true, if_false, Option.bind_some, px_up_cell, px_up_slot, px_up_eq, ne_eq, Nat.reduceEqDiff, not_false_eq_true, Int.reduceEq, Int.reduceLT, Int.reduceLE, Int.reduceNeg, decide_true, decide_false, Bool.and_true, Bool.true_and, Bool.and_false, Bool.false_and, and_self, and_true, true_and, and_false, false_and, bi_T, bi_F, not_true_eq_false, Bool.false_eq_true, kg_2, nl, q1, d2]
    · have d2 : (c1 2 2 = 0) = False := eq_false (by rw [q3]; exact fun z => k0 (Int.ofNat.inj z))
      have jc := jClause hn (cl := cl) C1 M t ⟨q3, q4, q5, q6, q7⟩ sc S1 k0 (by omega)
      rcases jc with ⟨code, c', m', x1, x2, x3, x4, x5, x6, x7⟩ | ⟨c', m', i', s', e', k', x1, x2, x3, x4, x5, x6, x7, x8, x9, x10, x11, x12⟩
      · have cne : (code = 0) = False := eq_false (by omega)
        refine Or.inl ⟨code, c', m', ?_, x2, x3, FS2_of (FSt_tr Fc1 x4), x5, x6, x7⟩
        rw [eq_Str_read_11]
        simp only [px_rd_mk, px_wr_mk, Int.reduceToNat, Int.toNat_natCast, if_true, if_false, Option.bind_some, px_up_cell, px_up_slot, px_up_eq, ne_eq, Nat.reduceEqDiff, not_false_eq_true, Int.reduceEq, Int.reduceLT, Int.reduceLE, Int.reduceNeg, decide_true, decide_false, Bool.and_true, Bool.true_and, Bool.and_false, Bool.false_and, and_self, and_true, true_and, and_false, false_and, bi_T, bi_F, not_true_eq_false, Bool.false_eq_true, kg_2, nl, sgo hn, q1, d2, x1, cne]
      · have Fc2 := FSt_tr Fc1 x9
        have c0 : c' n 0 = (cl : Int) := (Fc2 n 0 (by unfold fst2; omega)).trans cn0
        have C2 := FSt_TC hn C Fc2
        have F3 : FS2 n c (px_up c' n 0 ((cl + 1 : Nat) : Int)) := fun a b h1 h2 => by
          unfold px_up
          rw [if_neg h2]
          exact Fc2 a b h1
        have C3 : TC2 T N (px_up c' n 0 ((cl + 1 : Nat) : Int)) := by
          obtain ⟨hI, hN, hN9, hT⟩ := C2
          refine ⟨IR_same hI (fun q hq => ?_), (px_up_cell _ _ _ _ (by omega)).trans hN, hN9, fun j => (px_up_cell _ _ _ _ (by omega)).trans (hT j)⟩
          have k4 : ∀ q ∈ rl, ¬ (q.1 = 4 ∧ q.2.1 = 0) := by decide +kernel
          have k26 : ∀ q ∈ rl, ¬ (q.1 = 26 ∧ q.2.1 = 0) := by decide +kernel
          unfold px_up
          rw [if_neg]
          rcases hn with rfl | rfl
          · exact k4 q hq
          · exact k26 q hq
        have nx := ih (N - i') (by omega) i' s' e' k' (cl + 1) (px_up c' n 0 ((cl + 1 : Nat) : Int)) m' (0, 0) (by omega) (by omega) C3 ((px_up_cell _ _ _ _ (by omega)).trans x5) (px_up_eq _ _ _ _) (FMt_TM M x10) x6 x7 (SPR_n0 x8)
        have j1 := px_w_s (show cl < 1000000 by omega)
        have step : px_R (mm_Str_read, 11, [(2, (n : Int)), (2, 2), (0, (cl : Int)), y3], [], (K0, c)) = px_R (mm_Str_read, 11, [(2, (n : Int)), (2, 2), (0, ((cl + 1 : Nat) : Int)), (0, 0)], [], (K0, px_up c' n 0 ((cl + 1 : Nat) : Int))) := by
          rw [eq_Str_read_11]
          simp only [px_rd_mk, px_wr_mk, Int.reduceToNat, Int.toNat_natCast, if_true, if_false, Option.bind_some, px_up_cell, px_up_slot, px_up_eq, ne_eq, Nat.reduceEqDiff, not_false_eq_true, Int.reduceEq, Int.reduceLT, Int.reduceLE, Int.reduceNeg, decide_true, decide_false, Bool.and_true, Bool.true_and, Bool.and_false, Bool.false_and, and_self, and_true, true_and, and_false, false_and, bi_T, bi_F, not_true_eq_false, Bool.false_eq_true, kg_2, nl, sgo hn, q1, d2, x1, c0, j1]
        rw [step, x2]
        rcases nx with ⟨code, c2, m2, z1, z2, z3, z4, z5, z6, z7⟩ | ⟨c2, m2, cn, z1, z2, z3, z4, z5, z6, z7, z8, z9⟩
        · exact Or.inl ⟨code, c2, m2, z1, z2, z3, FS2_tr F3 z4, FMt_tr x10 z5, z6, z7⟩
        · exact Or.inr ⟨c2, m2, cn, z1, z2, z3, z4, z5, FS2_tr F3 z6, FMt_tr x10 z7, z8.trans x11, z9.trans x12⟩
