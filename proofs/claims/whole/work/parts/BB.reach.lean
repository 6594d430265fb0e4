/-! Which houses hear one another over a set of strings. -/
def pP (H p : Nat) : Nat × Nat := ((([(0, 1), (0, 2), (0, 3), (0, 4), (1, 2), (1, 3), (1, 4), (2, 3), (2, 4), (3, 4)] : List (Nat × Nat)).filter (fun q => Nat.blt q.2 H))[p]?).getD (0, 0)
def nP (H : Nat) : Nat := H * (H - 1) / 2
theorem fx_pp : ∀ H : Fin 6, ∀ b : Fin 5, ∀ a : Fin 5, b.val < H.val → a.val < b.val → pP H.val (prI H.val a.val b.val) = (a.val, b.val) ∧ prI H.val a.val b.val < nP H.val ∧ prI H.val a.val b.val + 1 = prI H.val a.val (b.val + 1) := by decide +kernel
theorem fx_pq : ∀ H : Fin 6, ∀ p : Fin 10, p.val < nP H.val → (pP H.val p.val).1 < (pP H.val p.val).2 ∧ (pP H.val p.val).2 < H.val ∧ prI H.val (pP H.val p.val).1 (pP H.val p.val).2 = p.val := by decide +kernel
theorem fx_pn : ∀ H : Fin 6, nP H.val ≤ 10 ∧ (∀ a : Fin 5, a.val < H.val → prI H.val a.val H.val = (if a.val + 1 < H.val then prI H.val (a.val + 1) (a.val + 1 + 1) else nP H.val)) ∧ (0 < H.val → prI H.val 0 1 = 0) := by decide +kernel
theorem fx_or5 : ∀ r : Fin 32, ∀ e : Fin 32, px_or (r.val : Int) (e.val : Int) = ((r.val ||| e.val : Nat) : Int) := by decide +kernel
theorem fx_ors : ∀ b : Fin 5, ∀ a : Fin 5, a.val < b.val → px_or ((2 ^ a.val : Nat) : Int) ((2 ^ b.val : Nat) : Int) = ((2 ^ a.val ||| 2 ^ b.val : Nat) : Int) ∧ 2 ^ a.val ||| 2 ^ b.val < 32 := by decide +kernel
theorem fx_an0 : ∀ b : Fin 5, ∀ a : Fin 5, ∀ r : Fin 32, a.val < b.val → (px_and ((2 ^ a.val ||| 2 ^ b.val : Nat) : Int) (r.val : Int) = 0 ↔ (r.val.testBit a.val = false ∧ r.val.testBit b.val = false)) := by decide +kernel
theorem fx_an1 : ∀ b : Fin 5, ∀ a : Fin 5, ∀ r : Fin 32, a.val < b.val → (px_and (r.val : Int) ((2 ^ a.val ||| 2 ^ b.val : Nat) : Int) = ((2 ^ a.val ||| 2 ^ b.val : Nat) : Int) ↔ (r.val.testBit a.val = true ∧ r.val.testBit b.val = true)) := by decide +kernel
theorem fx_tb : ∀ b : Fin 5, ∀ a : Fin 5, ∀ x : Fin 5, a.val < b.val → ((2 ^ a.val ||| 2 ^ b.val).testBit x.val = true ↔ (x.val = a.val ∨ x.val = b.val)) := by decide +kernel
theorem fx_t1 : ∀ a : Fin 5, ∀ x : Fin 5, ((2 ^ a.val).testBit x.val = true ↔ x.val = a.val) ∧ 2 ^ a.val < 32 := by decide +kernel
theorem or_lt : ∀ r : Fin 32, ∀ e : Fin 32, r.val ||| e.val < 32 := by decide +kernel
/-- x hears s over at most so many strings of a set -/
def rc (P : Nat) (A B : Nat → Nat) (S : Nat) : Nat → Nat → Nat → Prop
  | 0, s, x => x = s
  | m + 1, s, x => rc P A B S m s x ∨ ∃ p, p < P ∧ inS S p = true ∧ ((x = A p ∧ rc P A B S m s (B p)) ∨ (x = B p ∧ rc P A B S m s (A p)))
theorem rc_self (P : Nat) (A B : Nat → Nat) (S : Nat) : ∀ m s : Nat, rc P A B S m s s
  | 0, _ => rfl
  | m + 1, s => Or.inl (rc_self P A B S m s)
/-- a step ahead of the others -/
theorem rc_left (P : Nat) (A B : Nat → Nat) (S : Nat) : ∀ m s x : Nat, rc P A B S (m + 1) s x ↔ (rc P A B S m s x ∨ ∃ p, p < P ∧ inS S p = true ∧ ((s = A p ∧ rc P A B S m (B p) x) ∨ (s = B p ∧ rc P A B S m (A p) x)))
  | 0, s, x => by
    constructor
    · rintro (h | ⟨p, h1, h2, ⟨h3, h4⟩ | ⟨h3, h4⟩⟩)
      · exact Or.inl h
      · exact Or.inr ⟨p, h1, h2, Or.inr ⟨h4.symm, h3⟩⟩
      · exact Or.inr ⟨p, h1, h2, Or.inl ⟨h4.symm, h3⟩⟩
    · rintro (h | ⟨p, h1, h2, ⟨h3, h4⟩ | ⟨h3, h4⟩⟩)
      · exact Or.inl h
      · exact Or.inr ⟨p, h1, h2, Or.inr ⟨h4, h3.symm⟩⟩
      · exact Or.inr ⟨p, h1, h2, Or.inl ⟨h4, h3.symm⟩⟩
  | m + 1, s, x => by
    have ih := rc_left P A B S m
    constructor
    · rintro (h | ⟨p, h1, h2, ⟨h3, h4⟩ | ⟨h3, h4⟩⟩)
      · exact Or.inl h
      · rcases (ih s (B p)).mp h4 with q | ⟨r, r1, r2, ⟨r3, r4⟩ | ⟨r3, r4⟩⟩
        · exact Or.inl (Or.inr ⟨p, h1, h2, Or.inl ⟨h3, q⟩⟩)
        · exact Or.inr ⟨r, r1, r2, Or.inl ⟨r3, Or.inr ⟨p, h1, h2, Or.inl ⟨h3, r4⟩⟩⟩⟩
        · exact Or.inr ⟨r, r1, r2, Or.inr ⟨r3, Or.inr ⟨p, h1, h2, Or.inl ⟨h3, r4⟩⟩⟩⟩
      · rcases (ih s (A p)).mp h4 with q | ⟨r, r1, r2, ⟨r3, r4⟩ | ⟨r3, r4⟩⟩
        · exact Or.inl (Or.inr ⟨p, h1, h2, Or.inr ⟨h3, q⟩⟩)
        · exact Or.inr ⟨r, r1, r2, Or.inl ⟨r3, Or.inr ⟨p, h1, h2, Or.inr ⟨h3, r4⟩⟩⟩⟩
        · exact Or.inr ⟨r, r1, r2, Or.inr ⟨r3, Or.inr ⟨p, h1, h2, Or.inr ⟨h3, r4⟩⟩⟩⟩
    · rintro (h | ⟨p, h1, h2, ⟨h3, h4⟩ | ⟨h3, h4⟩⟩)
      · exact Or.inl h
      · rcases h4 with q | ⟨r, r1, r2, ⟨r3, r4⟩ | ⟨r3, r4⟩⟩
        · exact Or.inl ((ih s x).mpr (Or.inr ⟨p, h1, h2, Or.inl ⟨h3, q⟩⟩))
        · exact Or.inr ⟨r, r1, r2, Or.inl ⟨r3, (ih s (B r)).mpr (Or.inr ⟨p, h1, h2, Or.inl ⟨h3, r4⟩⟩)⟩⟩
        · exact Or.inr ⟨r, r1, r2, Or.inr ⟨r3, (ih s (A r)).mpr (Or.inr ⟨p, h1, h2, Or.inl ⟨h3, r4⟩⟩)⟩⟩
      · rcases h4 with q | ⟨r, r1, r2, ⟨r3, r4⟩ | ⟨r3, r4⟩⟩
        · exact Or.inl ((ih s x).mpr (Or.inr ⟨p, h1, h2, Or.inr ⟨h3, q⟩⟩))
        · exact Or.inr ⟨r, r1, r2, Or.inl ⟨r3, (ih s (B r)).mpr (Or.inr ⟨p, h1, h2, Or.inr ⟨h3, r4⟩⟩)⟩⟩
        · exact Or.inr ⟨r, r1, r2, Or.inr ⟨r3, (ih s (A r)).mpr (Or.inr ⟨p, h1, h2, Or.inr ⟨h3, r4⟩⟩)⟩⟩
theorem rc_sym (P : Nat) (A B : Nat → Nat) (S : Nat) : ∀ m s x : Nat, rc P A B S m s x → rc P A B S m x s
  | 0, _, _, h => h.symm
  | m + 1, s, x, h => by
    rw [rc_left]
    rcases h with h | ⟨p, h1, h2, ⟨h3, h4⟩ | ⟨h3, h4⟩⟩
    · exact Or.inl (rc_sym P A B S m s x h)
    · exact Or.inr ⟨p, h1, h2, Or.inl ⟨h3, rc_sym P A B S m _ _ h4⟩⟩
    · exact Or.inr ⟨p, h1, h2, Or.inr ⟨h3, rc_sym P A B S m _ _ h4⟩⟩
/-! The strings as both sides keep them. -/
def pA (H p : Nat) : Nat := (pP H p).1
def pB (H p : Nat) : Nat := (pP H p).2
theorem pAB {H p : Nat} (hH : H ≤ 5) (hp : p < nP H) : pA H p < pB H p ∧ pB H p < H ∧ p < 10 := by
  have l := (fx_pn ⟨H, by omega⟩).1
  simp only at l
  have q := fx_pq ⟨H, by omega⟩ ⟨p, by omega⟩ hp
  exact ⟨q.1, q.2.1, by omega⟩
/-- what the class knows of the strings -/
def WC (H : Nat) (Y : Nat → Int) (h : hp) : Prop := H ≤ 5 ∧ IR h ∧ ∀ p, p < nP H → h 80 p = Y p ∧ h 81 p = ((2 ^ pA H p ||| 2 ^ pB H p : Nat) : Int)
theorem reach_in {H : Nat} {Y : Nat → Int} {h : hp} (C : WC H Y h) {S r : Nat} (hS : S < 1024) (hr : r < 32) (x1 x4 x6 : Int) (k : Nat) : ∀ (p f : Nat), p + k = nP H → f < 32 → ∃ f2 : Nat, f2 < 32 ∧ px_R (mm_Wish_reachOf, 22, [(2, 79), (0, x1), (0, (S : Int)), (0, (nP H : Int)), (0, x4), (0, (r : Int)), (0, x6), (0, (f : Int)), (0, (p : Int))], [], (K0, h)) = px_R (mm_Wish_reachOf, 8, [(2, 79), (0, x1), (0, (S : Int)), (0, (nP H : Int)), (0, x4), (0, (f2 : Int)), (0, px_w (x6 + 1)), (0, (f2 : Int)), (0, (nP H : Int))], [], (K0, h)) ∧ ∀ x, x < 5 → (f2.testBit x = true ↔ f.testBit x = true ∨ ∃ q, p ≤ q ∧ q < nP H ∧ inS S q = true ∧ (x = pA H q ∨ x = pB H q) ∧ (r.testBit (pA H q) = true ∨ r.testBit (pB H q) = true)) := by
  have CC := C
  obtain ⟨hH, hI, hp⟩ := C
  have l10 := (fx_pn ⟨H, by omega⟩).1
  simp only at l10
  induction k with
  | zero =>
    intro p f hk hf
    have : p = nP H := hk
    subst this
    refine ⟨f, hf, ?_, fun x _ => ⟨Or.inl, ?_⟩⟩
    · rw [eq_Wish_reachOf_22, if_neg (Int.lt_irrefl _)]
    · rintro (q | ⟨q, q1, q2, _⟩)
      · exact q
      · omega
  | succ k ih =>
    intro p f hk hf
    have hp1 : p < nP H := by omega
    obtain ⟨ab1, ab2, p10⟩ := pAB hH hp1
    have hlt : ((p : Int) < (nP H : Int)) = True := eq_true (by omega)
    have b1 := bit_1 hS p10
    have gp : (decide ((0 : Int) ≤ (p : Int)) && decide ((p : Int) < 10)) = true := gd_ok (by omega)
    have skip : (∀ x, x < 5 → (x = pA H p ∨ x = pB H p) → inS S p = true → (r.testBit (pA H p) = true ∨ r.testBit (pB H p) = true) → False) → px_R (mm_Wish_reachOf, 22, [(2, 79), (0, x1), (0, (S : Int)), (0, (nP H : Int)), (0, x4), (0, (r : Int)), (0, x6), (0, (f : Int)), (0, (p : Int))], [], (K0, h)) = px_R (mm_Wish_reachOf, 22, [(2, 79), (0, x1), (0, (S : Int)), (0, (nP H : Int)), (0, x4), (0, (r : Int)), (0, x6), (0, (f : Int)), (0, ((p + 1 : Nat) : Int))], [], (K0, h)) → ∃ f2 : Nat, f2 < 32 ∧ px_R (mm_Wish_reachOf, 22, [(2, 79), (0, x1), (0, (S : Int)), (0, (nP H : Int)), (0, x4), (0, (r : Int)), (0, x6), (0, (f : Int)), (0, (p : Int))], [], (K0, h)) = px_R (mm_Wish_reachOf, 8, [(2, 79), (0, x1), (0, (S : Int)), (0, (nP H : Int)), (0, x4), (0, (f2 : Int)), (0, px_w (x6 + 1)), (0, (f2 : Int)), (0, (nP H : Int))], [], (K0, h)) ∧ ∀ x, x < 5 → (f2.testBit x = true ↔ f.testBit x = true ∨ ∃ q, p ≤ q ∧ q < nP H ∧ inS S q = true ∧ (x = pA H q ∨ x = pB H q) ∧ (r.testBit (pA H q) = true ∨ r.testBit (pB H q) = true)) := fun no e => by
      obtain ⟨f2, g1, g2, g3⟩ := ih (p + 1) f (by omega) hf
      refine ⟨f2, g1, e.trans g2, fun x hx => (g3 x hx).trans ?_⟩
      constructor
      · rintro (q | ⟨q, q1, q2, q3⟩)
        · exact Or.inl q
        · exact Or.inr ⟨q, by omega, q2, q3⟩
      · rintro (q | ⟨q, q1, q2, q3, q4, q5⟩)
        · exact Or.inl q
        · by_cases z : q = p
          · rw [z] at q3 q4 q5
            exact absurd q5 (fun w => no x hx q4 q3 w)
          · exact Or.inr ⟨q, by omega, q2, q3, q4, q5⟩
    cases inA : inS S p
    · have b2 : (px_and (px_shr (S : Int) (p : Int)) 1 = 1) = False := by rw [b1, inA]; simp
      refine skip (fun x _ _ z _ => by rw [inA] at z; cases z) ?_
      rw [eq_Wish_reachOf_22]
      simp only [px_rd_mk, px_wr_mk, Int.reduceToNat, Int.toNat_natCast, if_true, if_false, Option.bind_some, px_up_cell, px_up_slot, px_up_eq, ne_eq, Nat.reduceEqDiff, not_false_eq_true, Int.reduceEq, Int.reduceLT, Int.reduceLE, Int.reduceNeg, decide_true, decide_false, Bool.and_true, Bool.true_and, Bool.and_false, Bool.false_and, and_self, and_true, true_and, and_false, false_and, bi_T, bi_F, not_true_eq_false, Bool.false_eq_true, kg_79, hlt, b2, px_w_s (show p < 1000000 by omega)]
    · have b2 : (px_and (px_shr (S : Int) (p : Int)) 1 = 1) = True := by rw [b1, inA]; simp
      have an := fx_an0 ⟨pB H p, by omega⟩ ⟨pA H p, by omega⟩ ⟨r, hr⟩ ab1
      simp only at an
      by_cases c : r.testBit (pA H p) = false ∧ r.testBit (pB H p) = false
      · have an1 : (px_and ((2 ^ pA H p ||| 2 ^ pB H p : Nat) : Int) (r : Int) = 0) = True := eq_true (an.mpr c)
        refine skip (fun x _ _ _ z => by rw [c.1, c.2] at z; simp at z) ?_
        rw [eq_Wish_reachOf_22]
        simp only [px_rd_mk, px_wr_mk, Int.reduceToNat, Int.toNat_natCast, if_true, if_false, Option.bind_some, px_up_cell, px_up_slot, px_up_eq, ne_eq, Nat.reduceEqDiff, not_false_eq_true, Int.reduceEq, Int.reduceLT, Int.reduceLE, Int.reduceNeg, decide_true, decide_false, Bool.and_true, Bool.true_and, Bool.and_false, Bool.false_and, and_self, and_true, true_and, and_false, false_and, bi_T, bi_F, not_true_eq_false, Bool.false_eq_true, kg_79, ka_81, ir_79_3 hI, ir_79_4 hI, ir_79_5 hI, hlt, b2, gp, (hp p hp1).2, an1, px_w_s (show p < 1000000 by omega)]
      · have an1 : (px_and ((2 ^ pA H p ||| 2 ^ pB H p : Nat) : Int) (r : Int) = 0) = False := eq_false (fun z => c (an.mp z))
        have or1 := fx_or5 ⟨f, hf⟩ ⟨2 ^ pA H p ||| 2 ^ pB H p, (fx_ors ⟨pB H p, by omega⟩ ⟨pA H p, by omega⟩ ab1).2⟩
        simp only at or1
        have ol := or_lt ⟨f, hf⟩ ⟨2 ^ pA H p ||| 2 ^ pB H p, (fx_ors ⟨pB H p, by omega⟩ ⟨pA H p, by omega⟩ ab1).2⟩
        simp only at ol
        obtain ⟨f2, g1, g2, g3⟩ := ih (p + 1) (f ||| (2 ^ pA H p ||| 2 ^ pB H p)) (by omega) ol
        refine ⟨f2, g1, ?_, fun x hx => (g3 x hx).trans ?_⟩
        · rw [eq_Wish_reachOf_22]
          simp only [px_rd_mk, px_wr_mk, Int.reduceToNat, Int.toNat_natCast, if_true, if_false, Option.bind_some, px_up_cell, px_up_slot, px_up_eq, ne_eq, Nat.reduceEqDiff, not_false_eq_true, Int.reduceEq, Int.reduceLT, Int.reduceLE, Int.reduceNeg, decide_true, decide_false, Bool.and_true, Bool.true_and, Bool.and_false, Bool.false_and, and_self, and_true, true_and, and_false, false_and, bi_T, bi_F, not_true_eq_false, Bool.false_eq_true, kg_79, ka_81, ir_79_3 hI, ir_79_4 hI, ir_79_5 hI, hlt, b2, gp, (hp p hp1).2, an1, or1, px_w_s (show p < 1000000 by omega)]
          exact g2
        · have tb := fx_tb ⟨pB H p, by omega⟩ ⟨pA H p, by omega⟩ ⟨x, hx⟩ ab1
          simp only at tb
          rw [Nat.testBit_or, Bool.or_eq_true, tb]
          have cc : r.testBit (pA H p) = true ∨ r.testBit (pB H p) = true := by
            cases q1 : r.testBit (pA H p)
            · cases q2 : r.testBit (pB H p)
              · exact absurd ⟨q1, q2⟩ c
              · exact Or.inr rfl
            · exact Or.inl rfl
          constructor
          · rintro ((q | q) | ⟨q, q1, q2, q3⟩)
            · exact Or.inl q
            · exact Or.inr ⟨p, Nat.le_refl p, hp1, inA, q, cc⟩
            · exact Or.inr ⟨q, by omega, q2, q3⟩
          · rintro (q | ⟨q, q1, q2, q3, q4, q5⟩)
            · exact Or.inl (Or.inl q)
            · by_cases z : q = p
              · rw [z] at q4
                exact Or.inl (Or.inr q4)
              · exact Or.inr ⟨q, by omega, q2, q3, q4, q5⟩
theorem R_reachOf {H : Nat} {Y : Nat → Int} {h : hp} (C : WC H Y h) {S s m : Nat} (hS : S < 1024) (hs : s < H) (hm : m ≤ 4) : ∃ r : Nat, r < 32 ∧ px_R (mm_Wish_reachOf, 0, [(2, 79), (0, (s : Int)), (0, (S : Int)), (0, (nP H : Int)), (0, (m : Int)), (9, 0), (9, 0), (9, 0), (9, 0)], [], (K0, h)) = some ((r : Int), (K0, h)) ∧ ∀ x, x < 5 → (r.testBit x = true ↔ rc (nP H) (pA H) (pB H) S m s x) := by
  have hH := C.1
  have ml : ∀ k i r : Nat, i + k = m → r < 32 → (∀ x, x < 5 → (r.testBit x = true ↔ rc (nP H) (pA H) (pB H) S i s x)) → ∀ y7 y8 : pv, ∃ r2 : Nat, r2 < 32 ∧ px_R (mm_Wish_reachOf, 8, [(2, 79), (0, (s : Int)), (0, (S : Int)), (0, (nP H : Int)), (0, (m : Int)), (0, (r : Int)), (0, (i : Int)), y7, y8], [], (K0, h)) = some ((r2 : Int), (K0, h)) ∧ ∀ x, x < 5 → (r2.testBit x = true ↔ rc (nP H) (pA H) (pB H) S m s x) := by
    intro k
    induction k with
    | zero =>
      intro i r hi hr hx y7 y8
      have : i = m := hi
      subst this
      exact ⟨r, hr, by rw [eq_Wish_reachOf_8, if_neg (Int.lt_irrefl _)], hx⟩
    | succ k ih =>
      intro i r hi hr hx y7 y8
      obtain ⟨f2, g1, g2, g3⟩ := reach_in C hS hr (s : Int) (m : Int) (i : Int) (nP H) 0 r (Nat.zero_add _) hr
      have g2 : px_R (mm_Wish_reachOf, 22, [(2, 79), (0, (s : Int)), (0, (S : Int)), (0, (nP H : Int)), (0, (m : Int)), (0, (r : Int)), (0, (i : Int)), (0, (r : Int)), (0, 0)], [], (K0, h)) = _ := g2
      rw [px_w_s (show i < 1000000 by omega)] at g2
      obtain ⟨r2, h1, h2, h3⟩ := ih (i + 1) f2 (by omega) g1 (fun x hx5 => by
        rw [g3 x hx5, hx x hx5, rc]
        constructor
        · rintro (q | ⟨q, q1, q2, q3, q4, q5⟩)
          · exact Or.inl q
          · obtain ⟨ab1, ab2, p10⟩ := pAB hH q2
            rcases q4 with q4 | q4
            · rcases q5 with q5 | q5
              · exact Or.inl (by rw [q4]; exact (hx _ (by omega)).mp q5)
              · exact Or.inr ⟨q, q2, q3, Or.inl ⟨q4, (hx _ (by omega)).mp q5⟩⟩
            · rcases q5 with q5 | q5
              · exact Or.inr ⟨q, q2, q3, Or.inr ⟨q4, (hx _ (by omega)).mp q5⟩⟩
              · exact Or.inl (by rw [q4]; exact (hx _ (by omega)).mp q5)
        · rintro (q | ⟨q, q2, q3, ⟨q4, q5⟩ | ⟨q4, q5⟩⟩)
          · exact Or.inl q
          · obtain ⟨ab1, ab2, p10⟩ := pAB hH q2
            exact Or.inr ⟨q, Nat.zero_le q, q2, q3, Or.inl q4, Or.inr ((hx _ (by omega)).mpr q5)⟩
          · obtain ⟨ab1, ab2, p10⟩ := pAB hH q2
            exact Or.inr ⟨q, Nat.zero_le q, q2, q3, Or.inr q4, Or.inl ((hx _ (by omega)).mpr q5)⟩) (0, (f2 : Int)) (0, (nP H : Int))
      refine ⟨r2, h1, ?_, h3⟩
      rw [eq_Wish_reachOf_8, if_pos (by omega), g2, h2]
  have t1 := fun x (hx : x < 5) => fx_t1 ⟨s, by omega⟩ ⟨x, hx⟩
  simp only at t1
  obtain ⟨r2, h1, h2, h3⟩ := ml m 0 (2 ^ s) (Nat.zero_add m) (t1 0 (by decide)).2 (fun x hx => (t1 x hx).1) (9, 0) (9, 0)
  refine ⟨r2, h1, ?_, h3⟩
  rw [eq_Wish_reachOf_0, shl_g (show s < 31 by omega)]
  exact h2
