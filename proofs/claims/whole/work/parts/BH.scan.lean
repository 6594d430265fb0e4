/-! Tokens of the tape: the reference. -/
def TM (T : Nat → Int) (N : Nat) (h : hp) : Prop := IR h ∧ h 123 2 = (N : Int) ∧ N ≤ 900 ∧ (∀ j, h 124 j = T j) ∧ ∀ j, -128 ≤ T j ∧ T j < 128
theorem TM_F {T : Nat → Int} {N : Nat} {h g : hp} {cs : List Nat} {ss : List (Nat × Nat)} (C : TM T N h) (F : Fr cs ss h g) (e : fdj cs ss [124] [(123, 2)] = true) (e2 : IR h → IR g) : TM T N g := by
  have c := Fr_dj F e
  exact ⟨e2 C.1, (c 123 2 rfl).trans C.2.1, C.2.2.1, fun j => (c 124 j rfl).trans (C.2.2.2.1 j), C.2.2.2.2⟩
def cbv (T : Nat → Int) (N x : Nat) : Int := if x < N then (if T x < 0 then T x + 256 else T x) else -1
theorem fx_255 : ∀ c : Fin 256, px_and ((c.val : Int) - 128) 255 = if (c.val : Int) - 128 < 0 then (c.val : Int) - 128 + 256 else (c.val : Int) - 128 := by decide +kernel
theorem and_255 {c : Int} (h : -128 ≤ c ∧ c < 128) : px_and c 255 = if c < 0 then c + 256 else c := by
  have f := fx_255 ⟨(c + 128).toNat, by omega⟩
  have e : (((c + 128).toNat : Nat) : Int) - 128 = c := by omega
  simp only [e] at f
  exact f
theorem R_byteAt {T : Nat → Int} {N : Nat} {h : hp} (C : TM T N h) (x : Nat) : px_R (mm_Mod_byteAt, 0, [(2, 123), (0, (x : Int))], [], (K0, h)) = some (cbv T N x, (K0, h)) := by
  obtain ⟨hI, hN, hN9, hT, hr⟩ := C
  unfold cbv
  by_cases c : x < N
  · have hlt : ((x : Int) < (N : Int)) = True := eq_true (by omega)
    have gx : (decide ((0 : Int) ≤ (x : Int)) && decide ((x : Int) < 900)) = true := gd_ok (by omega)
    rw [if_pos c, eq_Mod_byteAt_0]
    simp only [px_rd_mk, px_wr_mk, Int.reduceToNat, Int.toNat_natCast, if_true, if_false, Option.bind_some, px_up_cell, px_up_slot, px_up_eq, ne_eq, Nat.reduceEqDiff, not_false_eq_true, Int.reduceEq, Int.reduceLT, Int.reduceLE, Int.reduceNeg, decide_true, decide_false, Bool.and_true, Bool.true_and, Bool.and_false, Bool.false_and, and_self, and_true, true_and, and_false, false_and, bi_T, bi_F, not_true_eq_false, Bool.false_eq_true, kg_123, ka_124, Bool.true_or, ir_123_0 hI, ir_123_12 hI, ir_123_13 hI, ir_123_14 hI, ir_123_15 hI, ir_123_16 hI, ir_123_17 hI, ir_123_18 hI, ir_123_19 hI, ir_123_20 hI, ir_123_21 hI, ir_123_30 hI, ir_123_31 hI, ir_123_32 hI, ir_123_33 hI, ir_123_34 hI, ir_123_35 hI, ir_123_36 hI, ir_123_37 hI, ir_123_38 hI, ir_123_39 hI, ir_123_41 hI, ir_123_42 hI, ir_123_44 hI, ir_123_45 hI, ir_123_46 hI, ir_123_50 hI, ir_123_54 hI, ir_123_55 hI, ir_123_56 hI, ir_123_57 hI, ir_123_58 hI, ir_123_59 hI, ir_123_60 hI, ir_123_61 hI, ir_123_62 hI, hN, hlt, gx, hT x, and_255 (hr x)]
  · have hlt : ((x : Int) < (N : Int)) = False := eq_false (by omega)
    rw [if_neg c, eq_Mod_byteAt_0]
    simp only [px_rd_mk, px_wr_mk, Int.reduceToNat, Int.toNat_natCast, if_true, if_false, Option.bind_some, px_up_cell, px_up_slot, px_up_eq, ne_eq, Nat.reduceEqDiff, not_false_eq_true, Int.reduceEq, Int.reduceLT, Int.reduceLE, Int.reduceNeg, decide_true, decide_false, Bool.and_true, Bool.true_and, Bool.and_false, Bool.false_and, and_self, and_true, true_and, and_false, false_and, bi_T, bi_F, not_true_eq_false, Bool.false_eq_true, kg_123, hN, hlt]
theorem cb_B {T : Nat → Int} {N x : Nat} (hr : -128 ≤ T x ∧ T x < 128) : (cbv T N x = 32 ∨ cbv T N x = 10) ↔ (x < N ∧ chB T x = true) := by
  rw [chB_iff]
  unfold cbv
  split <;> (try split) <;> omega
theorem cb_A {T : Nat → Int} {N x : Nat} (hr : -128 ≤ T x ∧ T x < 128) : (97 ≤ cbv T N x ∧ cbv T N x ≤ 122) ↔ (x < N ∧ chA T x = true) := by
  rw [chA_iff]
  unfold cbv
  split <;> (try split) <;> omega
theorem cb_D {T : Nat → Int} {N x : Nat} (hr : -128 ≤ T x ∧ T x < 128) : (48 ≤ cbv T N x ∧ cbv T N x ≤ 57) ↔ (x < N ∧ chD T x = true) := by
  rw [chD_iff]
  unfold cbv
  split <;> (try split) <;> omega
theorem cb_v {T : Nat → Int} {N x : Nat} (hx : x < N) (h0 : 0 ≤ T x) : cbv T N x = T x := by
  unfold cbv
  rw [if_pos hx, if_neg (by omega)]
theorem R_isSmall (c : Int) (w : pw) : px_R (mm_Mod_isSmall, 0, [(0, c)], [], w) = some (bi (97 ≤ c ∧ c ≤ 122), w) := by
  rw [eq_Mod_isSmall_0]
  by_cases a : c < 97
  · rw [if_pos a, bi_f (by omega)]
  · rw [if_neg a]
    by_cases b : 122 < c
    · rw [if_pos b, bi_f (by omega)]
    · rw [if_neg b, bi_t (by omega)]
theorem R_isDigitM (c : Int) (w : pw) : px_R (mm_Mod_isDigit, 0, [(0, c)], [], w) = some (bi (48 ≤ c ∧ c ≤ 57), w) := by
  rw [eq_Mod_isDigit_0]
  by_cases a : c < 48
  · rw [if_pos a, bi_f (by omega)]
  · rw [if_neg a]
    by_cases b : 57 < c
    · rw [if_pos b, bi_f (by omega)]
    · rw [if_neg b, bi_t (by omega)]
/-! Keys. -/
def tokB (T : Nat → Int) (s : Nat) (L : Nat → Int) : Nat → Nat → Bool
  | _, 0 => true
  | j, m + 1 => decide (T (s + j) = L j) && tokB T s L (j + 1) m
/-- the token is the k-th name -/
def nmB (T : Nat → Int) (s l k : Nat) : Bool := decide (l = (px_str k).length) && tokB T s (px_lst (px_str k)) 0 (px_str k).length
def kyV (T : Nat → Int) (s l : Nat) : Nat → Nat → Int
  | _, 0 => -1
  | k, m + 1 => if nmB T s l k = true then (k : Int) else kyV T s l (k + 1) m
def ofs (k : Nat) : Nat := ([0, 6, 10, 15, 21, 26, 31, 35, 40, 46] : List Nat).getD k 46
theorem fx_ofs : ∀ k : Fin 9, ofs (k.val + 1) = ofs k.val + (px_str k.val).length + 1 ∧ ofs k.val + (px_str k.val).length < 46 ∧ px_lst (px_str 9) (ofs k.val + (px_str k.val).length) = 32 ∧ ∀ i : Fin 6, i.val < (px_str k.val).length → px_lst (px_str 9) (ofs k.val + i.val) = px_lst (px_str k.val) i.val ∧ ¬ px_lst (px_str 9) (ofs k.val + i.val) = 32 := by decide +kernel
theorem fx_len : ∀ k : Fin 9, 3 ≤ (px_str k.val).length ∧ (px_str k.val).length ≤ 5 := by decide +kernel
theorem gl_9 {i : Nat} (hi : i < 46) : px_gl (px_str 9) (i : Int) = true := by
  have e : ((px_str 9).length : Int) = 46 := rfl
  unfold px_gl
  rw [e]
  exact gd_ok (by omega)
theorem tokB_c {T : Nat → Int} {s : Nat} {L M : Nat → Int} (m : Nat) : ∀ j, (∀ i, j ≤ i → i < j + m → L i = M i) → tokB T s L j m = tokB T s M j m := by
  induction m with
  | zero => intro j _; rfl
  | succ m ih =>
    intro j e
    rw [tokB, tokB, e j (Nat.le_refl _) (by omega), ih (j + 1) (fun i h1 h2 => e i (by omega) (by omega))]
theorem key_cmp {T : Nat → Int} {N s l a b : Nat} {h : hp} (C : TM T N h) (hl : s + l ≤ N) (hA : ∀ j, j < l → 0 ≤ T (s + j)) (ha : a + l < 46) (hb : b < 46) (k : Nat) (hk : k < 100) (m : Nat) : ∀ j, j + m = l → ∃ y6 y7 : pv, px_R (mm_Mod_keyAt, 52, [(2, 123), (0, (s : Int)), (0, (l : Int)), (0, (k : Int)), (0, (a : Int)), (0, (b : Int)), (0, 1), (0, (j : Int))], [], (K0, h)) = if tokB T s (fun i => px_lst (px_str 9) (a + i)) j m = true then some ((k : Int), (K0, h)) else px_R (mm_Mod_keyAt, 8, [(2, 123), (0, (s : Int)), (0, (l : Int)), (0, ((k + 1 : Nat) : Int)), (0, ((b + 1 : Nat) : Int)), (0, ((b + 1 : Nat) : Int)), y6, y7], [], (K0, h)) := by
  have hN9 := C.2.2.1
  have fl : ∀ j : Nat, j ≤ l → px_R (mm_Mod_keyAt, 52, [(2, 123), (0, (s : Int)), (0, (l : Int)), (0, (k : Int)), (0, (a : Int)), (0, (b : Int)), (0, 0), (0, (j : Int))], [], (K0, h)) = px_R (mm_Mod_keyAt, 8, [(2, 123), (0, (s : Int)), (0, (l : Int)), (0, ((k + 1 : Nat) : Int)), (0, ((b + 1 : Nat) : Int)), (0, ((b + 1 : Nat) : Int)), (0, 0), (0, (j : Int))], [], (K0, h)) := by
    intro j hj
    rw [eq_Mod_keyAt_52, if_pos rfl, if_pos rfl, px_w_s (show b < 1000000 by omega), px_w_s (show k < 1000000 by omega)]
    by_cases c : j < l
    · rw [if_pos (by omega)]
    · rw [if_neg (by omega)]
  induction m with
  | zero =>
    intro j hj
    have : j = l := hj
    subst this
    refine ⟨(9, 0), (9, 0), ?_⟩
    rw [eq_Mod_keyAt_52, if_neg (Int.lt_irrefl _), if_neg (by decide)]
    rfl
  | succ m ih =>
    intro j hj
    have hlt : ((j : Int) < (l : Int)) = True := eq_true (by omega)
    have by1 := R_byteAt C (s + j)
    rw [cb_v (by omega) (hA j (by omega))] at by1
    have g9 := gl_9 (show a + j < 46 by omega)
    have ea : (((a + j : Nat) : Int)).toNat = a + j := Int.toNat_natCast _
    have u1 : -2147483648 ≤ (a : Int) + (j : Int) ∧ (a : Int) + (j : Int) < 2147483648 := by omega
    have u2 : -2147483648 ≤ (s : Int) + (j : Int) ∧ (s : Int) + (j : Int) < 2147483648 := by omega
    by_cases c : T (s + j) = px_lst (px_str 9) (a + j)
    · obtain ⟨y6, y7, r⟩ := ih (j + 1) (by omega)
      have c2 : (px_lst (px_str 9) (a + j) = T (s + j)) = True := eq_true c.symm
      refine ⟨y6, y7, ?_⟩
      rw [tokB, decide_eq_true c, Bool.true_and, ← r, eq_Mod_keyAt_52]
      simp only [px_rd_mk, px_wr_mk, Int.reduceToNat, Int.toNat_natCast, if_true, if_false, Option.bind_some, px_up_cell, px_up_slot, px_up_eq, ne_eq, Nat.reduceEqDiff, not_false_eq_true, Int.reduceEq, Int.reduceLT, Int.reduceLE, Int.reduceNeg, decide_true, decide_false, Bool.and_true, Bool.true_and, Bool.and_false, Bool.false_and, and_self, and_true, true_and, and_false, false_and, bi_T, bi_F, not_true_eq_false, Bool.false_eq_true, kg_123, hlt, (px_w_n u1).trans (Int.natCast_add a j).symm, (px_w_n u2).trans (Int.natCast_add s j).symm, g9, by1, c2, px_w_s (show j < 1000000 by omega)]
    · have c2 : (px_lst (px_str 9) (a + j) = T (s + j)) = False := eq_false (fun z => c z.symm)
      have f := fl (j + 1) (by omega)
      refine ⟨(0, 0), (0, ((j + 1 : Nat) : Int)), ?_⟩
      · rw [tokB, decide_eq_false c, Bool.false_and, if_neg (by decide), ← f, eq_Mod_keyAt_52]
        simp only [px_rd_mk, px_wr_mk, Int.reduceToNat, Int.toNat_natCast, if_true, if_false, Option.bind_some, px_up_cell, px_up_slot, px_up_eq, ne_eq, Nat.reduceEqDiff, not_false_eq_true, Int.reduceEq, Int.reduceLT, Int.reduceLE, Int.reduceNeg, decide_true, decide_false, Bool.and_true, Bool.true_and, Bool.and_false, Bool.false_and, and_self, and_true, true_and, and_false, false_and, bi_T, bi_F, not_true_eq_false, Bool.false_eq_true, kg_123, hlt, (px_w_n u1).trans (Int.natCast_add a j).symm, (px_w_n u2).trans (Int.natCast_add s j).symm, g9, by1, c2, px_w_s (show j < 1000000 by omega)]
theorem key_seek {h : hp} (x1 x2 x3 x4 : Int) (y6 y7 : pv) (m : Nat) : ∀ a b : Nat, a + m = b → b < 46 → (∀ i, a ≤ i → i < b → ¬ px_lst (px_str 9) i = 32) → px_R (mm_Mod_keyAt, 8, [(2, 123), (0, x1), (0, x2), (0, x3), (0, x4), (0, (a : Int)), y6, y7], [], (K0, h)) = px_R (mm_Mod_keyAt, 8, [(2, 123), (0, x1), (0, x2), (0, x3), (0, x4), (0, (b : Int)), y6, y7], [], (K0, h)) := by
  induction m with
  | zero =>
    intro a b e _ _
    have : a = b := e
    rw [this]
  | succ m ih =>
    intro a b e hb hn
    have e9 : ((px_str 9).length : Int) = 46 := rfl
    have hlt : ((a : Int) < 46) = True := eq_true (by omega)
    have g9 := gl_9 (show a < 46 by omega)
    have c := eq_false (hn a (Nat.le_refl _) (by omega))
    rw [eq_Mod_keyAt_8]
    simp only [px_rd_mk, px_wr_mk, Int.reduceToNat, Int.toNat_natCast, if_true, if_false, Option.bind_some, px_up_cell, px_up_slot, px_up_eq, ne_eq, Nat.reduceEqDiff, not_false_eq_true, Int.reduceEq, Int.reduceLT, Int.reduceLE, Int.reduceNeg, decide_true, decide_false, Bool.and_true, Bool.true_and, Bool.and_false, Bool.false_and, and_self, and_true, true_and, and_false, false_and, bi_T, bi_F, not_true_eq_false, Bool.false_eq_true, e9, hlt, g9, c, px_w_s (show a < 1000000 by omega)]
    exact ih (a + 1) b (by omega) hb (fun i h1 h2 => hn i (by omega) h2)
theorem R_keyAt {T : Nat → Int} {N s l : Nat} {h : hp} (C : TM T N h) (hl : s + l ≤ N) (hA : ∀ j, j < l → 0 ≤ T (s + j)) : px_R (mm_Mod_keyAt, 0, [(2, 123), (0, (s : Int)), (0, (l : Int)), (9, 0), (9, 0), (9, 0), (9, 0), (9, 0)], [], (K0, h)) = some (kyV T s l 0 9, (K0, h)) := by
  have hN9 := C.2.2.1
  have e9 : ((px_str 9).length : Int) = 46 := rfl
  have ml : ∀ m k : Nat, k + m = 9 → ∀ y6 y7 : pv, px_R (mm_Mod_keyAt, 8, [(2, 123), (0, (s : Int)), (0, (l : Int)), (0, (k : Int)), (0, (ofs k : Int)), (0, (ofs k : Int)), y6, y7], [], (K0, h)) = some (kyV T s l k m, (K0, h)) := by
    intro m
    induction m with
    | zero =>
      intro k hk y6 y7
      have : k = 9 := hk
      subst this
      rw [eq_Mod_keyAt_8, e9, if_neg (by decide)]
      rfl
    | succ m ih =>
      intro k hk y6 y7
      obtain ⟨f1, f2, f3, f4⟩ := fx_ofs ⟨k, by omega⟩
      have f5 := fx_len ⟨k, by omega⟩
      simp only at f1 f2 f3 f4 f5
      have i1 := fun y6 y7 => ih (k + 1) (by omega) y6 y7
      rw [f1] at i1
      rw [key_seek (s : Int) (l : Int) (k : Int) (ofs k : Int) y6 y7 (px_str k).length (ofs k) (ofs k + (px_str k).length) rfl f2 (fun i h1 h2 => by
        have := (f4 ⟨i - ofs k, by omega⟩ (show i - ofs k < (px_str k).length by omega)).2
        simp only at this
        rw [show ofs k + (i - ofs k) = i by omega] at this
        exact this)]
      have hlt : (((ofs k + (px_str k).length : Nat) : Int) < 46) = True := eq_true (by omega)
      have g9 := gl_9 f2
      have c3 := eq_true f3
      have u1 : -2147483648 ≤ ((ofs k + (px_str k).length : Nat) : Int) - (ofs k : Int) ∧ ((ofs k + (px_str k).length : Nat) : Int) - (ofs k : Int) < 2147483648 := by omega
      have es : ((ofs k + (px_str k).length : Nat) : Int) - (ofs k : Int) = ((px_str k).length : Int) := by omega
      by_cases c : l = (px_str k).length
      · have cl : (((px_str k).length : Int) = (l : Int)) = True := eq_true (by omega)
        obtain ⟨z6, z7, r⟩ := key_cmp C hl hA (a := ofs k) (b := ofs k + (px_str k).length) (by omega) f2 k (by omega) l 0 (Nat.zero_add l)
        have tc : tokB T s (fun i => px_lst (px_str 9) (ofs k + i)) 0 l = tokB T s (px_lst (px_str k)) 0 (px_str k).length := by
          rw [← c]
          refine tokB_c l 0 (fun i _ h2 => ?_)
          have := (f4 ⟨i, by omega⟩ (show i < (px_str k).length by omega)).1
          exact this
        rw [tc] at r
        have nm : nmB T s l k = tokB T s (px_lst (px_str k)) 0 (px_str k).length := by
          unfold nmB
          rw [decide_eq_true c, Bool.true_and]
        rw [kyV, nm]
        rw [eq_Mod_keyAt_8]
        simp only [px_rd_mk, px_wr_mk, Int.reduceToNat, Int.toNat_natCast, if_true, if_false, Option.bind_some, px_up_cell, px_up_slot, px_up_eq, ne_eq, Nat.reduceEqDiff, not_false_eq_true, Int.reduceEq, Int.reduceLT, Int.reduceLE, Int.reduceNeg, decide_true, decide_false, Bool.and_true, Bool.true_and, Bool.and_false, Bool.false_and, and_self, and_true, true_and, and_false, false_and, bi_T, bi_F, not_true_eq_false, Bool.false_eq_true, e9, hlt, g9, c3, (px_w_n u1).trans es, cl]
        have r : px_R (mm_Mod_keyAt, 52, [(2, 123), (0, (s : Int)), (0, (l : Int)), (0, (k : Int)), (0, (ofs k : Int)), (0, ((ofs k + (px_str k).length : Nat) : Int)), (0, 1), (0, 0)], [], (K0, h)) = _ := r
        rw [r]
        by_cases q : tokB T s (px_lst (px_str k)) 0 (px_str k).length = true
        · rw [if_pos q, if_pos q]
        · rw [if_neg q, if_neg q]
          exact i1 z6 z7
      · have cl : (((px_str k).length : Int) = (l : Int)) = False := eq_false (by omega)
        have nm : nmB T s l k = false := by
          unfold nmB
          rw [decide_eq_false c, Bool.false_and]
        rw [kyV, nm, if_neg (by decide)]
        rw [eq_Mod_keyAt_8]
        simp only [px_rd_mk, px_wr_mk, Int.reduceToNat, Int.toNat_natCast, if_true, if_false, Option.bind_some, px_up_cell, px_up_slot, px_up_eq, ne_eq, Nat.reduceEqDiff, not_false_eq_true, Int.reduceEq, Int.reduceLT, Int.reduceLE, Int.reduceNeg, decide_true, decide_false, Bool.and_true, Bool.true_and, Bool.and_false, Bool.false_and, and_self, and_true, true_and, and_false, false_and, bi_T, bi_F, not_true_eq_false, Bool.false_eq_true, e9, hlt, g9, c3, (px_w_n u1).trans es, cl]
        have j1 := i1 (0, 0) (0, 0)
        rw [eq_Mod_keyAt_52, if_pos rfl, if_pos rfl, px_w_s (show k < 1000000 by omega), px_w_s (show ofs k + (px_str k).length < 1000000 by omega), ite_self]
        exact j1
  rw [eq_Mod_keyAt_0]
  exact ml 9 0 rfl (9, 0) (9, 0)
