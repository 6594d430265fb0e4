/-! The ways word a is taken for word w: class. -/
def rwC (L : Nat → Nat → Int) (a N i j k l : Nat) : Nat → Int := fun b => clp 0 9 (L a b + (((if b = 0 then i else if b = 1 then j else if b = 2 then k else l : Nat) : Int) - (N : Int)))
def tkS (W N : Nat) (L : Nat → Nat → Int) (T a w : Nat) : Int := sm (2 * N + 1) fun i => sm (2 * N + 1) fun j => sm (2 * N + 1) fun k => sm (2 * N + 1) fun l => if eaV W T (dst L (rwC L a N i j k l)) = (w : Int) then wtV N i * wtV N j * wtV N k * wtV N l else 0
theorem am_c {F G : Nat → Int} : ∀ m : Nat, (∀ i, i < m → F i = G i) → am F m = am G m
  | 0, _ => rfl
  | 1, h => by
    show (if F 0 < F 0 then 0 else 0) = (if G 0 < G 0 then 0 else 0)
    rw [if_neg (Int.lt_irrefl _), if_neg (Int.lt_irrefl _)]
  | m + 2, h => by
    have ih := am_c (m + 1) fun i hi => h i (by omega)
    have lt := (am_ok F (m + 1) (by omega)).1
    show (if F (m + 1) < F (am F (m + 1)) then m + 1 else am F (m + 1)) = (if G (m + 1) < G (am G (m + 1)) then m + 1 else am G (m + 1))
    rw [← ih, h (m + 1) (by omega), h (am F (m + 1)) (by omega)]
theorem fO_s (L : Nat → Nat → Int) (t : Nat → Nat) (b : Nat) (hd : Int) (i : Nat) : fO L t b hd i = (((L (t i) b - hd).natAbs : Int) - ((L (t 0) b - hd).natAbs : Int)) + 9 := by
  unfold fO
  have e : ∀ x y : Int, (x - y).natAbs = (y - x).natAbs := fun x y => by omega
  rw [e hd (L (t i) b), e hd (L (t 0) b)]
theorem fn_ex (L : Nat → Nat → Int) (t : Nat → Nat) (r : Nat → Int) : ∃ Fn : Nat → Int, ∀ x, Fn x = fO L t 0 (r 0) x + fO L t 1 (r 1) x + fO L t 2 (r 2) x + fO L t 3 (r 3) x := ⟨_, fun _ => rfl⟩
theorem fn_dst {L : Nat → Nat → Int} {t : Nat → Nat} {r : Nat → Int} {Fn : Nat → Int} (h : ∀ x, Fn x = fO L t 0 (r 0) x + fO L t 1 (r 1) x + fO L t 2 (r 2) x + fO L t 3 (r 3) x) (x : Nat) : Fn x = dst L r (t x) + (36 - dst L r (t 0)) := by
  rw [h, fO_s, fO_s, fO_s, fO_s]
  unfold dst
  generalize ((L (t x) 0 - r 0).natAbs : Int) = a0
  generalize ((L (t x) 1 - r 1).natAbs : Int) = a1
  generalize ((L (t x) 2 - r 2).natAbs : Int) = a2
  generalize ((L (t x) 3 - r 3).natAbs : Int) = a3
  generalize ((L (t 0) 0 - r 0).natAbs : Int) = b0
  generalize ((L (t 0) 1 - r 1).natAbs : Int) = b1
  generalize ((L (t 0) 2 - r 2).natAbs : Int) = b2
  generalize ((L (t 0) 3 - r 3).natAbs : Int) = b3
  omega
theorem rwC_rng (L : Nat → Nat → Int) (a N i j k l b : Nat) : 0 ≤ rwC L a N i j k l b ∧ rwC L a N i j k l b ≤ 9 := clp_rng (by decide) _
theorem of_sum {L : Nat → Nat → Int} {m : Nat} {t : Nat → Nat} (N a i j k l : Nat) {Fn : Nat → Int} (h : ∀ x, Fn x = fO L t 0 (rwC L a N i j k l 0) x + fO L t 1 (rwC L a N i j k l 1) x + fO L t 2 (rwC L a N i j k l 2) x + fO L t 3 (rwC L a N i j k l 3) x) : ofV L m t N a 0 i + ofV L m t N a 1 j + ofV L m t N a 2 k + ofV L m t N a 3 l = acc Fn 0 m := by
  have e0 : ofV L m t N a 0 i = acc (fO L t 0 (rwC L a N i j k l 0)) 0 m := rfl
  have e1 : ofV L m t N a 1 j = acc (fO L t 1 (rwC L a N i j k l 1)) 0 m := rfl
  have e2 : ofV L m t N a 2 k = acc (fO L t 2 (rwC L a N i j k l 2)) 0 m := rfl
  have e3 : ofV L m t N a 3 l = acc (fO L t 3 (rwC L a N i j k l 3)) 0 m := rfl
  rw [e0, e1, e2, e3, acc_add, acc_add, acc_add]
  exact acc_c m 0 fun x _ _ => (h x).symm
theorem nv_ear {W N T : Nat} {L : Nat → Nat → Int} {m : Nat} {t : Nat → Nat} {h : hp} (H : TC W N L m t h) (TLt : TL W T L m t) (a i j k l : Nat) : eaV W T (dst L (rwC L a N i j k l)) = ((nvV m t (ofV L m t N a 0 i + ofV L m t N a 1 j + ofV L m t N a 2 k + ofV L m t N a 3 l) : Nat) : Int) := by
  have hm := H.2.2.1
  obtain ⟨Fn, hF⟩ := fn_ex L t (rwC L a N i j k l)
  rw [of_sum N a i j k l hF]
  have fr : ∀ x, x < m → 0 ≤ Fn x ∧ Fn x ≤ 1023 := fun x hx => by
    have f0 := fO_rng H (b := 0) (by decide) (rwC_rng L a N i j k l 0) hx
    have f1 := fO_rng H (b := 1) (by decide) (rwC_rng L a N i j k l 1) hx
    have f2 := fO_rng H (b := 2) (by decide) (rwC_rng L a N i j k l 2) hx
    have f3 := fO_rng H (b := 3) (by decide) (rwC_rng L a N i j k l 3) hx
    rw [hF x]
    omega
  have ea := TL_ear TLt hm.1 (rwC L a N i j k l) (36 - dst L (rwC L a N i j k l) (t 0)) Fn fun x _ => fn_dst hF x
  obtain ⟨v, v1, v2⟩ := eaV_ok (d := dst L (rwC L a N i j k l)) ea.1 ea.2.1
  have e9 : am (fld (acc Fn 0 m)) m = am Fn m := am_c m fun x hx => (fld_acc m 0 x hx fun y _ hy => fr y (by omega)).trans (by rw [Nat.zero_add])
  rw [v1, isEar_u v2 ea]
  unfold nvV
  rw [e9]
theorem tr_K {s U : Nat} {wt o v of : Nat → Int} (I : ∀ G : Int → Int, sm s (fun i => wt i * G (o i)) = sm U fun r => v r * G (of r)) (K : Int → Int → Int) (hK : ∀ x y, K x y = y * K x 1) : sm s (fun i => K (o i) (wt i)) = sm U fun r => K (of r) (v r) := by
  have e1 : sm s (fun i => K (o i) (wt i)) = sm s fun i => wt i * K (o i) 1 := sm_c fun i _ => hK _ _
  have e2 : (sm U fun r => K (of r) (v r)) = sm U fun r => v r * K (of r) 1 := sm_c fun i _ => hK _ _
  rw [e1, e2]
  exact I fun x => K x 1
theorem four_K {U : Nat} {s : Nat → Nat} {wt o of : Nat → Nat → Int} {v : Nat → Int} (I : ∀ b, b < 4 → ∀ G : Int → Int, sm (s b) (fun i => wt b i * G (o b i)) = sm U fun r => v r * G (of b r)) (P : Int → Prop) [DecidablePred P] : (sm (s 0) fun i => sm (s 1) fun j => sm (s 2) fun k => sm (s 3) fun l => if P (o 0 i + o 1 j + o 2 k + o 3 l) then wt 0 i * wt 1 j * wt 2 k * wt 3 l else 0) = sm U fun i => sm U fun j => sm U fun k => sm U fun l => if P (of 0 i + of 1 j + of 2 k + of 3 l) then v i * v j * v k * v l else 0 := by
  have l3 : ∀ A B : Int, (sm (s 3) fun l => if P (A + o 3 l) then B * wt 3 l else 0) = sm U fun l => if P (A + of 3 l) then B * v l else 0 := fun A B => tr_K (I 3 (by decide)) (fun x y => if P (A + x) then B * y else 0) fun x y => by
    split
    · rw [Int.mul_one, Int.mul_comm]
    · rw [Int.mul_zero]
  have l2 : ∀ A B : Int, (sm (s 2) fun k => sm (s 3) fun l => if P (A + o 2 k + o 3 l) then B * wt 2 k * wt 3 l else 0) = sm U fun k => sm U fun l => if P (A + of 2 k + of 3 l) then B * v k * v l else 0 := fun A B => by
    have e : (sm (s 2) fun k => sm (s 3) fun l => if P (A + o 2 k + o 3 l) then B * wt 2 k * wt 3 l else 0) = sm (s 2) fun k => sm U fun l => if P (A + o 2 k + of 3 l) then B * wt 2 k * v l else 0 := sm_c fun k _ => l3 _ _
    rw [e]
    exact tr_K (I 2 (by decide)) (fun x y => sm U fun l => if P (A + x + of 3 l) then B * y * v l else 0) fun x y => by
      rw [← sm_mul]
      refine sm_c fun l _ => ?_
      split
      · rw [Int.mul_one]
        grind
      · rw [Int.mul_zero]
  have l1 : ∀ A B : Int, (sm (s 1) fun j => sm (s 2) fun k => sm (s 3) fun l => if P (A + o 1 j + o 2 k + o 3 l) then B * wt 1 j * wt 2 k * wt 3 l else 0) = sm U fun j => sm U fun k => sm U fun l => if P (A + of 1 j + of 2 k + of 3 l) then B * v j * v k * v l else 0 := fun A B => by
    have e : (sm (s 1) fun j => sm (s 2) fun k => sm (s 3) fun l => if P (A + o 1 j + o 2 k + o 3 l) then B * wt 1 j * wt 2 k * wt 3 l else 0) = sm (s 1) fun j => sm U fun k => sm U fun l => if P (A + o 1 j + of 2 k + of 3 l) then B * wt 1 j * v k * v l else 0 := sm_c fun j _ => l2 _ _
    rw [e]
    exact tr_K (I 1 (by decide)) (fun x y => sm U fun k => sm U fun l => if P (A + x + of 2 k + of 3 l) then B * y * v k * v l else 0) fun x y => by
      rw [← sm_mul]
      refine sm_c fun k _ => ?_
      rw [← sm_mul]
      refine sm_c fun l _ => ?_
      split
      · rw [Int.mul_one]
        grind
      · rw [Int.mul_zero]
  have e : (sm (s 0) fun i => sm (s 1) fun j => sm (s 2) fun k => sm (s 3) fun l => if P (o 0 i + o 1 j + o 2 k + o 3 l) then wt 0 i * wt 1 j * wt 2 k * wt 3 l else 0) = sm (s 0) fun i => sm U fun j => sm U fun k => sm U fun l => if P (o 0 i + of 1 j + of 2 k + of 3 l) then wt 0 i * v j * v k * v l else 0 := sm_c fun i _ => l1 _ _
  rw [e]
  exact tr_K (I 0 (by decide)) (fun x y => sm U fun j => sm U fun k => sm U fun l => if P (x + of 1 j + of 2 k + of 3 l) then y * v j * v k * v l else 0) fun x y => by
    rw [← sm_mul]
    refine sm_c fun j _ => ?_
    rw [← sm_mul]
    refine sm_c fun k _ => ?_
    rw [← sm_mul]
    refine sm_c fun l _ => ?_
    split
    · rw [Int.one_mul]
      grind
    · rw [Int.mul_zero]
theorem hear_zero {h : hp} {D : Nat} (hD : DC D) (x1 x2 : Int) (k : Nat) : ∀ i : Nat, i + k = 6 → ∀ g : hp, (Fr dcs [] h g ∧ ∀ c, c ≠ D → g c = h c) → (∀ w, w < i → g D w = 0) → ∃ j : hp, px_R (mm_Ear_hear, 8, [(2, 51), (0, x1), (0, x2), (2, (D : Int)), (0, (i : Int)), (9, 0)], [], (K0, g)) = px_R (mm_Ear_hear, 29, [(2, 51), (0, x1), (0, x2), (2, (D : Int)), (0, 0), (9, 0)], [], (K0, j)) ∧ (Fr dcs [] h j ∧ ∀ c, c ≠ D → j c = h c) ∧ ∀ w, w < 6 → j D w = 0 := by
  have bl : Nat.ble 0 6 = true := rfl
  induction k with
  | zero =>
    intro i hi g F Z
    have : i = 6 := hi
    subst this
    refine ⟨g, ?_, F, Z⟩
    have hlt : (((6 : Nat) : Int) < ((6 : Nat) : Int)) = False := eq_false (by omega)
    rw [eq_Ear_hear_8]
    simp only [px_rd_mk, px_wr_mk, Int.reduceToNat, Int.toNat_natCast, if_true, if_false, Option.bind_some, px_up_cell, px_up_slot, px_up_eq, ne_eq, Nat.reduceEqDiff, not_false_eq_true, Int.reduceEq, Int.reduceLT, Int.reduceLE, Int.reduceNeg, decide_true, decide_false, Bool.and_true, Bool.true_and, Bool.and_false, Bool.false_and, and_self, and_true, true_and, and_false, false_and, bi_T, bi_F, not_true_eq_false, Bool.false_eq_true, kdD hD, bl, hlt]
  | succ k ih =>
    intro i hi g F Z
    have hlt : ((i : Int) < ((6 : Nat) : Int)) = True := eq_true (by omega)
    have gi : (decide ((0 : Int) ≤ (i : Int)) && decide ((i : Int) < 6)) = true := gd_ok (by omega)
    obtain ⟨j, j1, j2, j3⟩ := ih (i + 1) (by omega) (px_up g D i 0) ⟨Fr_up F.1 _ (fmD hD i), fun c hc => by
      funext x
      rw [px_up_cell _ _ _ _ hc, F.2 c hc]⟩ (fun w hw => by
      rw [px_up_at]
      by_cases e : w = i
      · rw [if_pos e]
      · rw [if_neg e]; exact Z w (by omega))
    refine ⟨j, ?_, j2, j3⟩
    rw [eq_Ear_hear_8]
    simp only [px_rd_mk, px_wr_mk, Int.reduceToNat, Int.toNat_natCast, if_true, if_false, Option.bind_some, px_up_cell, px_up_slot, px_up_eq, ne_eq, Nat.reduceEqDiff, not_false_eq_true, Int.reduceEq, Int.reduceLT, Int.reduceLE, Int.reduceNeg, decide_true, decide_false, Bool.and_true, Bool.true_and, Bool.and_false, Bool.false_and, and_self, and_true, true_and, and_false, false_and, bi_T, bi_F, not_true_eq_false, Bool.false_eq_true, kdD hD, kaD hD, bl, hlt, gi, px_w_s (show i < 1000000 by omega)]
    exact j1
