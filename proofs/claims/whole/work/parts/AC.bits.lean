/-! Sets as bits. -/
def pcn : Nat → Nat → Nat
  | 0, _ => 0
  | n + 1, s => s % 2 + pcn n (s / 2)
theorem fx_bit : ∀ s : Fin 1024, ∀ w : Fin 10, px_and (px_shr (s.val : Int) (w.val : Int)) 1 = ((s.val / 2 ^ w.val % 2 : Nat) : Int) := by decide +kernel
theorem fx_shl : ∀ w : Fin 31, px_shl 1 (w.val : Int) = ((2 ^ w.val : Nat) : Int) := by decide +kernel
theorem fx_or : ∀ s : Fin 1024, ∀ w : Fin 10, px_or (s.val : Int) ((2 ^ w.val : Nat) : Int) = ((if s.val / 2 ^ w.val % 2 = 1 then s.val else s.val + 2 ^ w.val : Nat) : Int) := by decide +kernel
def bcn (x0 : Int) : Int := px_and (px_w ((px_w ((px_and (px_w ((px_w ((px_and (px_w (x0 - (px_and (px_ush x0 1) 1431655765))) 858993459) + (px_and (px_ush (px_w (x0 - (px_and (px_ush x0 1) 1431655765))) 2) 858993459))) + (px_ush (px_w ((px_and (px_w (x0 - (px_and (px_ush x0 1) 1431655765))) 858993459) + (px_and (px_ush (px_w (x0 - (px_and (px_ush x0 1) 1431655765))) 2) 858993459))) 4))) 252645135) + (px_ush (px_and (px_w ((px_w ((px_and (px_w (x0 - (px_and (px_ush x0 1) 1431655765))) 858993459) + (px_and (px_ush (px_w (x0 - (px_and (px_ush x0 1) 1431655765))) 2) 858993459))) + (px_ush (px_w ((px_and (px_w (x0 - (px_and (px_ush x0 1) 1431655765))) 858993459) + (px_and (px_ush (px_w (x0 - (px_and (px_ush x0 1) 1431655765))) 2) 858993459))) 4))) 252645135) 8))) + (px_ush (px_w ((px_and (px_w ((px_w ((px_and (px_w (x0 - (px_and (px_ush x0 1) 1431655765))) 858993459) + (px_and (px_ush (px_w (x0 - (px_and (px_ush x0 1) 1431655765))) 2) 858993459))) + (px_ush (px_w ((px_and (px_w (x0 - (px_and (px_ush x0 1) 1431655765))) 858993459) + (px_and (px_ush (px_w (x0 - (px_and (px_ush x0 1) 1431655765))) 2) 858993459))) 4))) 252645135) + (px_ush (px_and (px_w ((px_w ((px_and (px_w (x0 - (px_and (px_ush x0 1) 1431655765))) 858993459) + (px_and (px_ush (px_w (x0 - (px_and (px_ush x0 1) 1431655765))) 2) 858993459))) + (px_ush (px_w ((px_and (px_w (x0 - (px_and (px_ush x0 1) 1431655765))) 858993459) + (px_and (px_ush (px_w (x0 - (px_and (px_ush x0 1) 1431655765))) 2) 858993459))) 4))) 252645135) 8))) 16))) 63
theorem fx_cnt : ∀ s : Fin 1024, bcn (s.val : Int) = ((pcn 10 s.val : Nat) : Int) := by decide +kernel
theorem fx_new : ∀ s : Fin 1024, ∀ w : Fin 10, s.val / 2 ^ w.val % 2 = 1 ∨ (pcn 10 (s.val + 2 ^ w.val) = pcn 10 s.val + 1 ∧ pcn 10 s.val < 10 ∧ s.val + 2 ^ w.val < 1024 ∧ ∀ v : Fin 10, (s.val + 2 ^ w.val) / 2 ^ v.val % 2 = if v = w then 1 else s.val / 2 ^ v.val % 2) := by decide +kernel
theorem bit_g {s w : Nat} (hs : s < 1024) (hw : w < 10) : px_and (px_shr (s : Int) (w : Int)) 1 = ((s / 2 ^ w % 2 : Nat) : Int) := fx_bit ⟨s, hs⟩ ⟨w, hw⟩
theorem shl_g {w : Nat} (hw : w < 31) : px_shl 1 (w : Int) = ((2 ^ w : Nat) : Int) := fx_shl ⟨w, hw⟩
theorem or_g {s w : Nat} (hs : s < 1024) (hw : w < 10) : px_or (s : Int) ((2 ^ w : Nat) : Int) = ((if s / 2 ^ w % 2 = 1 then s else s + 2 ^ w : Nat) : Int) := fx_or ⟨s, hs⟩ ⟨w, hw⟩
theorem cnt_g {s : Nat} (hs : s < 1024) : bcn (s : Int) = ((pcn 10 s : Nat) : Int) := fx_cnt ⟨s, hs⟩
theorem R_Integer_bitCount {s : Nat} (hs : s < 1024) (w : pw) : px_R (mm_Integer_bitCount, 0, [(0, (s : Int))], [], w) = some (((pcn 10 s : Nat) : Int), w) := by
  rw [eq_Integer_bitCount_0, ← cnt_g hs]
  rfl
/-- the number of a pair of houses among all pairs -/
def prI (H a b : Nat) : Nat := a * (2 * H - a - 1) / 2 + b - a - 1
theorem prI_lt : ∀ H : Fin 6, ∀ b : Fin 5, ∀ a : Fin 5, b.val < H.val → a.val < b.val → prI H.val a.val b.val < 10 := by decide +kernel
theorem prI_inj : ∀ H : Fin 6, ∀ b : Fin 5, ∀ a : Fin 5, ∀ d : Fin 5, ∀ c : Fin 5, b.val < H.val → a.val < b.val → d.val < H.val → c.val < d.val → prI H.val a.val b.val = prI H.val c.val d.val → a = c ∧ b = d := by decide +kernel
def WI (n : Nat) (h : hp) : Prop := ∃ W c : Nat, h 79 0 = (W : Int) ∧ W < 1024 ∧ h 123 40 = (c : Int) ∧ pcn 10 W = c ∧ c ≤ 10
  ∧ (∀ i : Nat, i < c → ∃ a b : Nat, a < b ∧ (b : Int) < h (n + 1) 3 ∧ h 145 i = (a : Int) ∧ h 146 i = (b : Int))
  ∧ (∀ p : Nat, p < 10 → (W / 2 ^ p % 2 = 1 ↔ ∃ i a b : Nat, i < c ∧ h 145 i = (a : Int) ∧ h 146 i = (b : Int) ∧ prI (h (n + 1) 3).toNat a b = p))
theorem WI_F {n : Nat} {h g : hp} {cs : List Nat} {ss : List (Nat × Nat)} (hn : n = 4 ∨ n = 26) (F : Fr cs ss h g) (e : (frf 4 48 cs ss && fdj cs ss [145, 146] [(79, 0), (123, 40)]) = true) (H : WI n h) : WI n g := by
  rw [Bool.and_eq_true] at e
  have c := Fr_dj F e.2
  have e145 : g 145 = h 145 := funext fun b => c 145 b rfl
  have e146 : g 146 = h 146 := funext fun b => c 146 b rfl
  unfold WI
  rw [Fr_st hn F e.1 (n + 1) (by omega) (by omega), c 79 0 rfl, c 123 40 rfl, e145, e146]
  exact H
theorem RW_F {h g : hp} {cs : List Nat} {ss : List (Nat × Nat)} (F : Fr cs ss h g) (e : fdj cs ss [102, 103, 104, 105] [(101, 0)] = true) (H : RW h) : RW g := by
  have c := Fr_dj F e
  refine ⟨by rw [c 101 0 rfl]; exact H.1, fun i hi => ?_⟩
  rw [c 102 i rfl, c 103 i rfl, c 104 i rfl, c 105 i rfl]
  exact H.2 i hi
theorem CR_F {h g : hp} {cs : List Nat} {ss : List (Nat × Nat)} (F : Fr cs ss h g) (e : fdj cs ss [102, 103, 104, 105, 140, 141] [(101, 0), (101, 1), (101, 2), (101, 3)] = true) (H : CR2 h h) : CR2 g g := by
  have c := Fr_dj F e
  unfold CR2
  rw [c 101 0 rfl, c 101 1 rfl, c 101 2 rfl, c 101 3 rfl, c 140 0 rfl, c 140 1 rfl, c 141 0 rfl, c 141 1 rfl]
  obtain ⟨h1, h2, h3, h4, h5⟩ := H
  refine ⟨h1, h2, h3, h4, fun i hi => ?_⟩
  rw [c 102 i rfl, c 103 i rfl, c 104 i rfl, c 105 i rfl, c 140 _ rfl, c 140 _ rfl, c 140 _ rfl, c 140 _ rfl]
  exact h5 i hi
/-- what holds between two calls -/
def CI (h : hp) : Prop := ∃ n : Nat, SP n h ∧ IR h ∧ TP h ∧ FK h ∧ ST n h ∧ LI n h ∧ RW h ∧ CR2 h h ∧ KS h ∧ WI n h ∧ BK n h
/-- a call of the class, then the same of the reference: they answer alike, and the worlds stay coupled -/
def AL (h : hp) (c m : pm) (xs ys : List pv) : Prop := ∃ (v : Int) (g k : hp), px_R (c, 0, xs, [], (K0, h)) = some (v, (K0, g)) ∧ px_R (m, 0, ys, [], (K0, g)) = some (v, (K0, k)) ∧ CI k
theorem AL_same {h : hp} (C : CI h) {c m : pm} {xs ys : List pv} (v : Int) (e1 : px_R (c, 0, xs, [], (K0, h)) = some (v, (K0, h))) (e2 : px_R (m, 0, ys, [], (K0, h)) = some (v, (K0, h))) : AL h c m xs ys := ⟨v, h, h, e1, e2, C⟩
/-! A street by its number. -/
theorem sgo {n : Nat} (hn : n = 4 ∨ n = 26) (h : hp) : px_go (K0, h) (n : Int) 5 = true := by
  rcases hn with rfl | rfl <;> rfl
theorem sga1 {n : Nat} (hn : n = 4 ∨ n = 26) (h : hp) (i : Int) : px_ga (K0, h) 0 ((n + 1 : Nat) : Int) i = (decide (0 ≤ i) && decide (i < 9)) := by
  rcases hn with rfl | rfl <;> rfl
theorem sga2 {n : Nat} (hn : n = 4 ∨ n = 26) (h : hp) (i : Int) : px_ga (K0, h) 5 ((n + 2 : Nat) : Int) i = (decide (0 ≤ i) && decide (i < 9)) := by
  rcases hn with rfl | rfl <;> rfl
theorem sga12 {n : Nat} (hn : n = 4 ∨ n = 26) (h : hp) (i : Int) : px_ga (K0, h) 4 ((n + 12 : Nat) : Int) i = (decide (0 ≤ i) && decide (i < 9)) := by
  rcases hn with rfl | rfl <;> rfl
theorem sga3 {n : Nat} (hn : n = 4 ∨ n = 26) {k : Nat} (hk : k < 9) (h : hp) (i : Int) : px_ga (K0, h) 1 ((n + 3 + k : Nat) : Int) i = (decide (0 ≤ i) && decide (i < 6)) := by
  rcases hn with rfl | rfl <;> (match k, hk with | 0, _ => rfl | 1, _ => rfl | 2, _ => rfl | 3, _ => rfl | 4, _ => rfl | 5, _ => rfl | 6, _ => rfl | 7, _ => rfl | 8, _ => rfl)
theorem sga13 {n : Nat} (hn : n = 4 ∨ n = 26) {k : Nat} (hk : k < 9) (h : hp) (i : Int) : px_ga (K0, h) 0 ((n + 13 + k : Nat) : Int) i = (decide (0 ≤ i) && decide (i < 30)) := by
  rcases hn with rfl | rfl <;> (match k, hk with | 0, _ => rfl | 1, _ => rfl | 2, _ => rfl | 3, _ => rfl | 4, _ => rfl | 5, _ => rfl | 6, _ => rfl | 7, _ => rfl | 8, _ => rfl)
theorem sr1 {n : Nat} (hn : n = 4 ∨ n = 26) {h : hp} (hI : IR h) : h n 1 = ((n + 1 : Nat) : Int) := by
  rcases hn with rfl | rfl
  · exact ir_4_1 hI
  · exact ir_26_1 hI
theorem sr2 {n : Nat} (hn : n = 4 ∨ n = 26) {h : hp} (hI : IR h) : h n 2 = ((n + 2 : Nat) : Int) := by
  rcases hn with rfl | rfl
  · exact ir_4_2 hI
  · exact ir_26_2 hI
theorem sr3 {n : Nat} (hn : n = 4 ∨ n = 26) {h : hp} (hI : IR h) : h n 3 = ((n + 12 : Nat) : Int) := by
  rcases hn with rfl | rfl
  · exact ir_4_3 hI
  · exact ir_26_3 hI
theorem sr6 {n : Nat} (hn : n = 4 ∨ n = 26) {h : hp} (hI : IR h) {k : Nat} (hk : k < 9) : h (n + 2) k = ((n + 3 + k : Nat) : Int) := by
  rcases hn with rfl | rfl
  · match k, hk with | 0, _ => exact ir_6_0 hI | 1, _ => exact ir_6_1 hI | 2, _ => exact ir_6_2 hI | 3, _ => exact ir_6_3 hI | 4, _ => exact ir_6_4 hI | 5, _ => exact ir_6_5 hI | 6, _ => exact ir_6_6 hI | 7, _ => exact ir_6_7 hI | 8, _ => exact ir_6_8 hI
  · match k, hk with | 0, _ => exact ir_28_0 hI | 1, _ => exact ir_28_1 hI | 2, _ => exact ir_28_2 hI | 3, _ => exact ir_28_3 hI | 4, _ => exact ir_28_4 hI | 5, _ => exact ir_28_5 hI | 6, _ => exact ir_28_6 hI | 7, _ => exact ir_28_7 hI | 8, _ => exact ir_28_8 hI
theorem sr16 {n : Nat} (hn : n = 4 ∨ n = 26) {h : hp} (hI : IR h) {k : Nat} (hk : k < 9) : h (n + 12) k = ((n + 13 + k : Nat) : Int) := by
  rcases hn with rfl | rfl
  · match k, hk with | 0, _ => exact ir_16_0 hI | 1, _ => exact ir_16_1 hI | 2, _ => exact ir_16_2 hI | 3, _ => exact ir_16_3 hI | 4, _ => exact ir_16_4 hI | 5, _ => exact ir_16_5 hI | 6, _ => exact ir_16_6 hI | 7, _ => exact ir_16_7 hI | 8, _ => exact ir_16_8 hI
  · match k, hk with | 0, _ => exact ir_38_0 hI | 1, _ => exact ir_38_1 hI | 2, _ => exact ir_38_2 hI | 3, _ => exact ir_38_3 hI | 4, _ => exact ir_38_4 hI | 5, _ => exact ir_38_5 hI | 6, _ => exact ir_38_6 hI | 7, _ => exact ir_38_7 hI | 8, _ => exact ir_38_8 hI
theorem R_Str_number {n : Nat} (hn : n = 4 ∨ n = 26) {h : hp} (hI : IR h) {x1 x2 x3 : Int} (kind k j : Nat) (e1 : x1 = (kind : Int)) (e2 : x2 = (k : Int)) (e3 : x3 = (j : Int)) (hk : kind < 9) (hj : 5 * k + j < 30) : px_R (mm_Str_number, 0, [(2, (n : Int)), (0, x1), (0, x2), (0, x3)], [], (K0, h)) = some (h (n + 13 + kind) (5 * k + j), (K0, h)) := by
  subst e1 e2 e3
  have b1 : (decide ((0 : Int) ≤ (kind : Int)) && decide ((kind : Int) < 9)) = true := by simp; omega
  have b2 : (decide ((0 : Int) ≤ ((5 * k + j : Nat) : Int)) && decide (((5 * k + j : Nat) : Int) < 30)) = true := by simp; omega
  have w1 : px_w (px_w ((k : Int) * 5) + (j : Int)) = ((5 * k + j : Nat) : Int) := by
    rw [px_w_id (x := (k : Int) * 5) (by omega) (by omega), px_w_id (by omega) (by omega)]
    omega
  rw [eq_Str_number_0]
  simp only [px_rd_mk, sgo hn, Int.toNat_natCast, sr3 hn hI, sga12 hn, b1, sr16 hn hI hk, w1, sga13 hn hk, b2, Bool.true_or, Bool.or_true, if_true]
theorem R_Str_ofBand {n : Nat} (hn : n = 4 ∨ n = 26) {h : hp} (hI : IR h) {x1 x2 x3 : Int} (kind k j : Nat) (e1 : x1 = (kind : Int)) (e2 : x2 = (k : Int)) (e3 : x3 = (j : Int)) (hk : kind < 9) (hj : 5 * k + 1 + j < 30) : px_R (mm_Str_ofBand, 0, [(2, (n : Int)), (0, x1), (0, x2), (0, x3), (9, 0)], [], (K0, h)) = some (h (n + 13 + kind) (5 * k + (if kind = 0 ∨ kind = 5 then 1 else 0) + j), (K0, h)) := by
  subst e1 e2 e3
  have b1 : (decide ((0 : Int) ≤ (kind : Int)) && decide ((kind : Int) < 9)) = true := by simp; omega
  have b2 : (decide ((0 : Int) ≤ ((5 * k + 1 + j : Nat) : Int)) && decide (((5 * k + 1 + j : Nat) : Int) < 30)) = true := by simp; omega
  have b3 : (decide ((0 : Int) ≤ ((5 * k + j : Nat) : Int)) && decide (((5 * k + j : Nat) : Int) < 30)) = true := by simp; omega
  have w1 : px_w (px_w (px_w ((k : Int) * 5) + 1) + (j : Int)) = ((5 * k + 1 + j : Nat) : Int) := by
    rw [px_w_id (x := (k : Int) * 5) (by omega) (by omega), px_w_id (x := (k : Int) * 5 + 1) (by omega) (by omega), px_w_id (by omega) (by omega)]
    omega
  have w2 : px_w (px_w (px_w ((k : Int) * 5) + 0) + (j : Int)) = ((5 * k + j : Nat) : Int) := by
    rw [px_w_id (x := (k : Int) * 5) (by omega) (by omega), px_w_id (x := (k : Int) * 5 + 0) (by omega) (by omega), px_w_id (by omega) (by omega)]
    omega
  have c0 : ((kind : Int) = 0) = (kind = 0) := by apply propext; omega
  have c5 : ((kind : Int) = 5) = (kind = 5) := by apply propext; omega
  rw [eq_Str_ofBand_0, eq_Str_ofBand_9]
  simp only [px_rd_mk, sgo hn, Int.toNat_natCast, sr3 hn hI, sga12 hn, b1, sr16 hn hI hk, w1, w2, sga13 hn hk, b2, b3, Bool.true_or, Bool.or_true, if_true, c0, c5]
  by_cases k0 : kind = 0
  · simp only [k0, if_true, true_or]
  · by_cases k5 : kind = 5
    · simp only [k5, if_true, or_true]
      simp
    · simp only [k0, k5, if_false, or_self, Nat.add_zero]
