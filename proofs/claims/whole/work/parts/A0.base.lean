/-! The world behind the constructors: the kinds of its cells don't change any more. -/
def K0 : List (Nat × Nat) := [(99, 0), (18, 12), (16, 7), (2, 900), (15, 4), (0, 9), (5, 9), (1, 6), (1, 6), (1, 6), (1, 6), (1, 6), (1, 6), (1, 6), (1, 6), (1, 6), (4, 9), (0, 30), (0, 30), (0, 30), (0, 30), (0, 30), (0, 30), (0, 30), (0, 30), (0, 30), (15, 4), (0, 9), (5, 9), (1, 6), (1, 6), (1, 6), (1, 6), (1, 6), (1, 6), (1, 6), (1, 6), (1, 6), (4, 9), (0, 30), (0, 30), (0, 30), (0, 30), (0, 30), (0, 30), (0, 30), (0, 30), (0, 30), (12, 8), (0, 4), (0, 4), (11, 10), (4, 6), (0, 4), (0, 4), (0, 4), (0, 4), (0, 4), (0, 4), (4, 6), (0, 4), (0, 4), (0, 4), (0, 4), (0, 4), (0, 4), (0, 6), (0, 6), (0, 4), (5, 4), (1, 7), (1, 7), (1, 7), (1, 7), (4, 4), (0, 7), (0, 7), (0, 7), (0, 7), (17, 6), (0, 10), (0, 10), (0, 5), (10, 15), (0, 20), (0, 20), (0, 20), (0, 20), (0, 20), (0, 20), (4, 6), (0, 6), (0, 6), (0, 6), (0, 6), (0, 6), (0, 6), (13, 1), (1, 11), (13, 1), (1, 11), (14, 8), (0, 40), (0, 40), (0, 40), (0, 40), (6, 3), (14, 8), (0, 40), (0, 40), (0, 40), (0, 40), (14, 8), (0, 40), (0, 40), (0, 40), (0, 40), (14, 8), (0, 40), (0, 40), (0, 40), (0, 40), (0, 16), (19, 63), (2, 900), (0, 18), (1, 36), (0, 40), (0, 32), (0, 48), (0, 10), (0, 10), (0, 8), (0, 8), (0, 40), (0, 4), (0, 4), (0, 24), (0, 4), (0, 6), (0, 648), (1, 8), (3, 3), (0, 40), (0, 40), (0, 10), (0, 10), (0, 10), (0, 10), (0, 10), (0, 16), (0, 20), (0, 20), (0, 20), (0, 20), (0, 20), (0, 20), (0, 30), (0, 30), (0, 4)]
abbrev hp := Nat → Nat → Int
def px_up (h : hp) (a b : Nat) (v : Int) : hp := fun x y => if x = a ∧ y = b then v else h x y
theorem px_rd_mk (K : List (Nat × Nat)) (h : hp) (r : Int) (j : Nat) : px_rd (K, h) r j = h r.toNat j := rfl
theorem px_wr_mk (K : List (Nat × Nat)) (h : hp) (r : Int) (j : Nat) (v : Int) : px_wr (K, h) r j v = (K, px_up h r.toNat j v) := rfl
theorem px_up_eq (h : hp) (a b : Nat) (v : Int) : px_up h a b v a b = v := if_pos ⟨rfl, rfl⟩
theorem px_up_cell (h : hp) {a x : Nat} (b : Nat) (v : Int) (y : Nat) (hne : x ≠ a) : px_up h a b v x y = h x y := if_neg fun q => hne q.1
theorem px_up_slot (h : hp) (a : Nat) {b y : Nat} (v : Int) (x : Nat) (hne : y ≠ b) : px_up h a b v x y = h x y := if_neg fun q => hne q.2
theorem px_up_at (h : hp) (a b : Nat) (v : Int) (y : Nat) : px_up h a b v a y = if y = b then v else h a y := by unfold px_up; simp
theorem kg_1 (h : hp) : px_go (K0, h) 1 8 = true := rfl
theorem kg_2 (h : hp) : px_go (K0, h) 2 6 = true := rfl
theorem ka_3 (h : hp) (i : Int) : px_ga (K0, h) 2 3 i = (decide (0 ≤ i) && decide (i < 900)) := rfl
theorem kl_3 (h : hp) : px_kd (K0, h) 3 = (2, 900) := rfl
theorem kg_4 (h : hp) : px_go (K0, h) 4 5 = true := rfl
theorem ka_5 (h : hp) (i : Int) : px_ga (K0, h) 0 5 i = (decide (0 ≤ i) && decide (i < 9)) := rfl
theorem kl_5 (h : hp) : px_kd (K0, h) 5 = (0, 9) := rfl
theorem ka_6 (h : hp) (i : Int) : px_ga (K0, h) 5 6 i = (decide (0 ≤ i) && decide (i < 9)) := rfl
theorem kl_6 (h : hp) : px_kd (K0, h) 6 = (5, 9) := rfl
theorem ka_7 (h : hp) (i : Int) : px_ga (K0, h) 1 7 i = (decide (0 ≤ i) && decide (i < 6)) := rfl
theorem kl_7 (h : hp) : px_kd (K0, h) 7 = (1, 6) := rfl
theorem ka_8 (h : hp) (i : Int) : px_ga (K0, h) 1 8 i = (decide (0 ≤ i) && decide (i < 6)) := rfl
theorem kl_8 (h : hp) : px_kd (K0, h) 8 = (1, 6) := rfl
theorem ka_9 (h : hp) (i : Int) : px_ga (K0, h) 1 9 i = (decide (0 ≤ i) && decide (i < 6)) := rfl
theorem kl_9 (h : hp) : px_kd (K0, h) 9 = (1, 6) := rfl
theorem ka_10 (h : hp) (i : Int) : px_ga (K0, h) 1 10 i = (decide (0 ≤ i) && decide (i < 6)) := rfl
theorem kl_10 (h : hp) : px_kd (K0, h) 10 = (1, 6) := rfl
theorem ka_11 (h : hp) (i : Int) : px_ga (K0, h) 1 11 i = (decide (0 ≤ i) && decide (i < 6)) := rfl
theorem kl_11 (h : hp) : px_kd (K0, h) 11 = (1, 6) := rfl
theorem ka_12 (h : hp) (i : Int) : px_ga (K0, h) 1 12 i = (decide (0 ≤ i) && decide (i < 6)) := rfl
theorem kl_12 (h : hp) : px_kd (K0, h) 12 = (1, 6) := rfl
theorem ka_13 (h : hp) (i : Int) : px_ga (K0, h) 1 13 i = (decide (0 ≤ i) && decide (i < 6)) := rfl
theorem kl_13 (h : hp) : px_kd (K0, h) 13 = (1, 6) := rfl
theorem ka_14 (h : hp) (i : Int) : px_ga (K0, h) 1 14 i = (decide (0 ≤ i) && decide (i < 6)) := rfl
theorem kl_14 (h : hp) : px_kd (K0, h) 14 = (1, 6) := rfl
theorem ka_15 (h : hp) (i : Int) : px_ga (K0, h) 1 15 i = (decide (0 ≤ i) && decide (i < 6)) := rfl
theorem kl_15 (h : hp) : px_kd (K0, h) 15 = (1, 6) := rfl
theorem ka_16 (h : hp) (i : Int) : px_ga (K0, h) 4 16 i = (decide (0 ≤ i) && decide (i < 9)) := rfl
theorem kl_16 (h : hp) : px_kd (K0, h) 16 = (4, 9) := rfl
theorem ka_17 (h : hp) (i : Int) : px_ga (K0, h) 0 17 i = (decide (0 ≤ i) && decide (i < 30)) := rfl
theorem kl_17 (h : hp) : px_kd (K0, h) 17 = (0, 30) := rfl
theorem ka_18 (h : hp) (i : Int) : px_ga (K0, h) 0 18 i = (decide (0 ≤ i) && decide (i < 30)) := rfl
theorem kl_18 (h : hp) : px_kd (K0, h) 18 = (0, 30) := rfl
theorem ka_19 (h : hp) (i : Int) : px_ga (K0, h) 0 19 i = (decide (0 ≤ i) && decide (i < 30)) := rfl
theorem kl_19 (h : hp) : px_kd (K0, h) 19 = (0, 30) := rfl
theorem ka_20 (h : hp) (i : Int) : px_ga (K0, h) 0 20 i = (decide (0 ≤ i) && decide (i < 30)) := rfl
theorem kl_20 (h : hp) : px_kd (K0, h) 20 = (0, 30) := rfl
theorem ka_21 (h : hp) (i : Int) : px_ga (K0, h) 0 21 i = (decide (0 ≤ i) && decide (i < 30)) := rfl
theorem kl_21 (h : hp) : px_kd (K0, h) 21 = (0, 30) := rfl
theorem ka_22 (h : hp) (i : Int) : px_ga (K0, h) 0 22 i = (decide (0 ≤ i) && decide (i < 30)) := rfl
theorem kl_22 (h : hp) : px_kd (K0, h) 22 = (0, 30) := rfl
theorem ka_23 (h : hp) (i : Int) : px_ga (K0, h) 0 23 i = (decide (0 ≤ i) && decide (i < 30)) := rfl
theorem kl_23 (h : hp) : px_kd (K0, h) 23 = (0, 30) := rfl
theorem ka_24 (h : hp) (i : Int) : px_ga (K0, h) 0 24 i = (decide (0 ≤ i) && decide (i < 30)) := rfl
theorem kl_24 (h : hp) : px_kd (K0, h) 24 = (0, 30) := rfl
theorem ka_25 (h : hp) (i : Int) : px_ga (K0, h) 0 25 i = (decide (0 ≤ i) && decide (i < 30)) := rfl
theorem kl_25 (h : hp) : px_kd (K0, h) 25 = (0, 30) := rfl
theorem kg_26 (h : hp) : px_go (K0, h) 26 5 = true := rfl
theorem ka_27 (h : hp) (i : Int) : px_ga (K0, h) 0 27 i = (decide (0 ≤ i) && decide (i < 9)) := rfl
theorem kl_27 (h : hp) : px_kd (K0, h) 27 = (0, 9) := rfl
theorem ka_28 (h : hp) (i : Int) : px_ga (K0, h) 5 28 i = (decide (0 ≤ i) && decide (i < 9)) := rfl
theorem kl_28 (h : hp) : px_kd (K0, h) 28 = (5, 9) := rfl
theorem ka_29 (h : hp) (i : Int) : px_ga (K0, h) 1 29 i = (decide (0 ≤ i) && decide (i < 6)) := rfl
theorem kl_29 (h : hp) : px_kd (K0, h) 29 = (1, 6) := rfl
theorem ka_30 (h : hp) (i : Int) : px_ga (K0, h) 1 30 i = (decide (0 ≤ i) && decide (i < 6)) := rfl
theorem kl_30 (h : hp) : px_kd (K0, h) 30 = (1, 6) := rfl
theorem ka_31 (h : hp) (i : Int) : px_ga (K0, h) 1 31 i = (decide (0 ≤ i) && decide (i < 6)) := rfl
theorem kl_31 (h : hp) : px_kd (K0, h) 31 = (1, 6) := rfl
theorem ka_32 (h : hp) (i : Int) : px_ga (K0, h) 1 32 i = (decide (0 ≤ i) && decide (i < 6)) := rfl
theorem kl_32 (h : hp) : px_kd (K0, h) 32 = (1, 6) := rfl
theorem ka_33 (h : hp) (i : Int) : px_ga (K0, h) 1 33 i = (decide (0 ≤ i) && decide (i < 6)) := rfl
theorem kl_33 (h : hp) : px_kd (K0, h) 33 = (1, 6) := rfl
theorem ka_34 (h : hp) (i : Int) : px_ga (K0, h) 1 34 i = (decide (0 ≤ i) && decide (i < 6)) := rfl
theorem kl_34 (h : hp) : px_kd (K0, h) 34 = (1, 6) := rfl
theorem ka_35 (h : hp) (i : Int) : px_ga (K0, h) 1 35 i = (decide (0 ≤ i) && decide (i < 6)) := rfl
theorem kl_35 (h : hp) : px_kd (K0, h) 35 = (1, 6) := rfl
theorem ka_36 (h : hp) (i : Int) : px_ga (K0, h) 1 36 i = (decide (0 ≤ i) && decide (i < 6)) := rfl
theorem kl_36 (h : hp) : px_kd (K0, h) 36 = (1, 6) := rfl
theorem ka_37 (h : hp) (i : Int) : px_ga (K0, h) 1 37 i = (decide (0 ≤ i) && decide (i < 6)) := rfl
theorem kl_37 (h : hp) : px_kd (K0, h) 37 = (1, 6) := rfl
theorem ka_38 (h : hp) (i : Int) : px_ga (K0, h) 4 38 i = (decide (0 ≤ i) && decide (i < 9)) := rfl
theorem kl_38 (h : hp) : px_kd (K0, h) 38 = (4, 9) := rfl
theorem ka_39 (h : hp) (i : Int) : px_ga (K0, h) 0 39 i = (decide (0 ≤ i) && decide (i < 30)) := rfl
theorem kl_39 (h : hp) : px_kd (K0, h) 39 = (0, 30) := rfl
theorem ka_40 (h : hp) (i : Int) : px_ga (K0, h) 0 40 i = (decide (0 ≤ i) && decide (i < 30)) := rfl
theorem kl_40 (h : hp) : px_kd (K0, h) 40 = (0, 30) := rfl
theorem ka_41 (h : hp) (i : Int) : px_ga (K0, h) 0 41 i = (decide (0 ≤ i) && decide (i < 30)) := rfl
theorem kl_41 (h : hp) : px_kd (K0, h) 41 = (0, 30) := rfl
theorem ka_42 (h : hp) (i : Int) : px_ga (K0, h) 0 42 i = (decide (0 ≤ i) && decide (i < 30)) := rfl
theorem kl_42 (h : hp) : px_kd (K0, h) 42 = (0, 30) := rfl
theorem ka_43 (h : hp) (i : Int) : px_ga (K0, h) 0 43 i = (decide (0 ≤ i) && decide (i < 30)) := rfl
theorem kl_43 (h : hp) : px_kd (K0, h) 43 = (0, 30) := rfl
theorem ka_44 (h : hp) (i : Int) : px_ga (K0, h) 0 44 i = (decide (0 ≤ i) && decide (i < 30)) := rfl
theorem kl_44 (h : hp) : px_kd (K0, h) 44 = (0, 30) := rfl
theorem ka_45 (h : hp) (i : Int) : px_ga (K0, h) 0 45 i = (decide (0 ≤ i) && decide (i < 30)) := rfl
theorem kl_45 (h : hp) : px_kd (K0, h) 45 = (0, 30) := rfl
theorem ka_46 (h : hp) (i : Int) : px_ga (K0, h) 0 46 i = (decide (0 ≤ i) && decide (i < 30)) := rfl
theorem kl_46 (h : hp) : px_kd (K0, h) 46 = (0, 30) := rfl
theorem ka_47 (h : hp) (i : Int) : px_ga (K0, h) 0 47 i = (decide (0 ≤ i) && decide (i < 30)) := rfl
theorem kl_47 (h : hp) : px_kd (K0, h) 47 = (0, 30) := rfl
theorem kg_48 (h : hp) : px_go (K0, h) 48 2 = true := rfl
theorem ka_49 (h : hp) (i : Int) : px_ga (K0, h) 0 49 i = (decide (0 ≤ i) && decide (i < 4)) := rfl
theorem kl_49 (h : hp) : px_kd (K0, h) 49 = (0, 4) := rfl
theorem ka_50 (h : hp) (i : Int) : px_ga (K0, h) 0 50 i = (decide (0 ≤ i) && decide (i < 4)) := rfl
theorem kl_50 (h : hp) : px_kd (K0, h) 50 = (0, 4) := rfl
theorem kg_51 (h : hp) : px_go (K0, h) 51 1 = true := rfl
theorem ka_52 (h : hp) (i : Int) : px_ga (K0, h) 4 52 i = (decide (0 ≤ i) && decide (i < 6)) := rfl
theorem kl_52 (h : hp) : px_kd (K0, h) 52 = (4, 6) := rfl
theorem ka_53 (h : hp) (i : Int) : px_ga (K0, h) 0 53 i = (decide (0 ≤ i) && decide (i < 4)) := rfl
theorem kl_53 (h : hp) : px_kd (K0, h) 53 = (0, 4) := rfl
theorem ka_54 (h : hp) (i : Int) : px_ga (K0, h) 0 54 i = (decide (0 ≤ i) && decide (i < 4)) := rfl
theorem kl_54 (h : hp) : px_kd (K0, h) 54 = (0, 4) := rfl
theorem ka_55 (h : hp) (i : Int) : px_ga (K0, h) 0 55 i = (decide (0 ≤ i) && decide (i < 4)) := rfl
theorem kl_55 (h : hp) : px_kd (K0, h) 55 = (0, 4) := rfl
theorem ka_56 (h : hp) (i : Int) : px_ga (K0, h) 0 56 i = (decide (0 ≤ i) && decide (i < 4)) := rfl
theorem kl_56 (h : hp) : px_kd (K0, h) 56 = (0, 4) := rfl
theorem ka_57 (h : hp) (i : Int) : px_ga (K0, h) 0 57 i = (decide (0 ≤ i) && decide (i < 4)) := rfl
theorem kl_57 (h : hp) : px_kd (K0, h) 57 = (0, 4) := rfl
theorem ka_58 (h : hp) (i : Int) : px_ga (K0, h) 0 58 i = (decide (0 ≤ i) && decide (i < 4)) := rfl
theorem kl_58 (h : hp) : px_kd (K0, h) 58 = (0, 4) := rfl
theorem ka_59 (h : hp) (i : Int) : px_ga (K0, h) 4 59 i = (decide (0 ≤ i) && decide (i < 6)) := rfl
theorem kl_59 (h : hp) : px_kd (K0, h) 59 = (4, 6) := rfl
theorem ka_60 (h : hp) (i : Int) : px_ga (K0, h) 0 60 i = (decide (0 ≤ i) && decide (i < 4)) := rfl
theorem kl_60 (h : hp) : px_kd (K0, h) 60 = (0, 4) := rfl
theorem ka_61 (h : hp) (i : Int) : px_ga (K0, h) 0 61 i = (decide (0 ≤ i) && decide (i < 4)) := rfl
theorem kl_61 (h : hp) : px_kd (K0, h) 61 = (0, 4) := rfl
theorem ka_62 (h : hp) (i : Int) : px_ga (K0, h) 0 62 i = (decide (0 ≤ i) && decide (i < 4)) := rfl
theorem kl_62 (h : hp) : px_kd (K0, h) 62 = (0, 4) := rfl
theorem ka_63 (h : hp) (i : Int) : px_ga (K0, h) 0 63 i = (decide (0 ≤ i) && decide (i < 4)) := rfl
theorem kl_63 (h : hp) : px_kd (K0, h) 63 = (0, 4) := rfl
theorem ka_64 (h : hp) (i : Int) : px_ga (K0, h) 0 64 i = (decide (0 ≤ i) && decide (i < 4)) := rfl
theorem kl_64 (h : hp) : px_kd (K0, h) 64 = (0, 4) := rfl
theorem ka_65 (h : hp) (i : Int) : px_ga (K0, h) 0 65 i = (decide (0 ≤ i) && decide (i < 4)) := rfl
theorem kl_65 (h : hp) : px_kd (K0, h) 65 = (0, 4) := rfl
theorem ka_66 (h : hp) (i : Int) : px_ga (K0, h) 0 66 i = (decide (0 ≤ i) && decide (i < 6)) := rfl
theorem kl_66 (h : hp) : px_kd (K0, h) 66 = (0, 6) := rfl
theorem ka_67 (h : hp) (i : Int) : px_ga (K0, h) 0 67 i = (decide (0 ≤ i) && decide (i < 6)) := rfl
theorem kl_67 (h : hp) : px_kd (K0, h) 67 = (0, 6) := rfl
theorem ka_68 (h : hp) (i : Int) : px_ga (K0, h) 0 68 i = (decide (0 ≤ i) && decide (i < 4)) := rfl
theorem kl_68 (h : hp) : px_kd (K0, h) 68 = (0, 4) := rfl
theorem ka_69 (h : hp) (i : Int) : px_ga (K0, h) 5 69 i = (decide (0 ≤ i) && decide (i < 4)) := rfl
theorem kl_69 (h : hp) : px_kd (K0, h) 69 = (5, 4) := rfl
theorem ka_70 (h : hp) (i : Int) : px_ga (K0, h) 1 70 i = (decide (0 ≤ i) && decide (i < 7)) := rfl
theorem kl_70 (h : hp) : px_kd (K0, h) 70 = (1, 7) := rfl
theorem ka_71 (h : hp) (i : Int) : px_ga (K0, h) 1 71 i = (decide (0 ≤ i) && decide (i < 7)) := rfl
theorem kl_71 (h : hp) : px_kd (K0, h) 71 = (1, 7) := rfl
theorem ka_72 (h : hp) (i : Int) : px_ga (K0, h) 1 72 i = (decide (0 ≤ i) && decide (i < 7)) := rfl
theorem kl_72 (h : hp) : px_kd (K0, h) 72 = (1, 7) := rfl
theorem ka_73 (h : hp) (i : Int) : px_ga (K0, h) 1 73 i = (decide (0 ≤ i) && decide (i < 7)) := rfl
theorem kl_73 (h : hp) : px_kd (K0, h) 73 = (1, 7) := rfl
theorem ka_74 (h : hp) (i : Int) : px_ga (K0, h) 4 74 i = (decide (0 ≤ i) && decide (i < 4)) := rfl
theorem kl_74 (h : hp) : px_kd (K0, h) 74 = (4, 4) := rfl
theorem ka_75 (h : hp) (i : Int) : px_ga (K0, h) 0 75 i = (decide (0 ≤ i) && decide (i < 7)) := rfl
theorem kl_75 (h : hp) : px_kd (K0, h) 75 = (0, 7) := rfl
theorem ka_76 (h : hp) (i : Int) : px_ga (K0, h) 0 76 i = (decide (0 ≤ i) && decide (i < 7)) := rfl
theorem kl_76 (h : hp) : px_kd (K0, h) 76 = (0, 7) := rfl
theorem ka_77 (h : hp) (i : Int) : px_ga (K0, h) 0 77 i = (decide (0 ≤ i) && decide (i < 7)) := rfl
theorem kl_77 (h : hp) : px_kd (K0, h) 77 = (0, 7) := rfl
theorem ka_78 (h : hp) (i : Int) : px_ga (K0, h) 0 78 i = (decide (0 ≤ i) && decide (i < 7)) := rfl
theorem kl_78 (h : hp) : px_kd (K0, h) 78 = (0, 7) := rfl
theorem kg_79 (h : hp) : px_go (K0, h) 79 7 = true := rfl
theorem ka_80 (h : hp) (i : Int) : px_ga (K0, h) 0 80 i = (decide (0 ≤ i) && decide (i < 10)) := rfl
theorem kl_80 (h : hp) : px_kd (K0, h) 80 = (0, 10) := rfl
theorem ka_81 (h : hp) (i : Int) : px_ga (K0, h) 0 81 i = (decide (0 ≤ i) && decide (i < 10)) := rfl
theorem kl_81 (h : hp) : px_kd (K0, h) 81 = (0, 10) := rfl
theorem ka_82 (h : hp) (i : Int) : px_ga (K0, h) 0 82 i = (decide (0 ≤ i) && decide (i < 5)) := rfl
theorem kl_82 (h : hp) : px_kd (K0, h) 82 = (0, 5) := rfl
theorem kg_83 (h : hp) : px_go (K0, h) 83 0 = true := rfl
theorem ka_84 (h : hp) (i : Int) : px_ga (K0, h) 0 84 i = (decide (0 ≤ i) && decide (i < 20)) := rfl
theorem kl_84 (h : hp) : px_kd (K0, h) 84 = (0, 20) := rfl
theorem ka_85 (h : hp) (i : Int) : px_ga (K0, h) 0 85 i = (decide (0 ≤ i) && decide (i < 20)) := rfl
theorem kl_85 (h : hp) : px_kd (K0, h) 85 = (0, 20) := rfl
theorem ka_86 (h : hp) (i : Int) : px_ga (K0, h) 0 86 i = (decide (0 ≤ i) && decide (i < 20)) := rfl
theorem kl_86 (h : hp) : px_kd (K0, h) 86 = (0, 20) := rfl
theorem ka_87 (h : hp) (i : Int) : px_ga (K0, h) 0 87 i = (decide (0 ≤ i) && decide (i < 20)) := rfl
theorem kl_87 (h : hp) : px_kd (K0, h) 87 = (0, 20) := rfl
theorem ka_88 (h : hp) (i : Int) : px_ga (K0, h) 0 88 i = (decide (0 ≤ i) && decide (i < 20)) := rfl
theorem kl_88 (h : hp) : px_kd (K0, h) 88 = (0, 20) := rfl
theorem ka_89 (h : hp) (i : Int) : px_ga (K0, h) 0 89 i = (decide (0 ≤ i) && decide (i < 20)) := rfl
theorem kl_89 (h : hp) : px_kd (K0, h) 89 = (0, 20) := rfl
theorem ka_90 (h : hp) (i : Int) : px_ga (K0, h) 4 90 i = (decide (0 ≤ i) && decide (i < 6)) := rfl
theorem kl_90 (h : hp) : px_kd (K0, h) 90 = (4, 6) := rfl
theorem ka_91 (h : hp) (i : Int) : px_ga (K0, h) 0 91 i = (decide (0 ≤ i) && decide (i < 6)) := rfl
theorem kl_91 (h : hp) : px_kd (K0, h) 91 = (0, 6) := rfl
theorem ka_92 (h : hp) (i : Int) : px_ga (K0, h) 0 92 i = (decide (0 ≤ i) && decide (i < 6)) := rfl
theorem kl_92 (h : hp) : px_kd (K0, h) 92 = (0, 6) := rfl
theorem ka_93 (h : hp) (i : Int) : px_ga (K0, h) 0 93 i = (decide (0 ≤ i) && decide (i < 6)) := rfl
theorem kl_93 (h : hp) : px_kd (K0, h) 93 = (0, 6) := rfl
theorem ka_94 (h : hp) (i : Int) : px_ga (K0, h) 0 94 i = (decide (0 ≤ i) && decide (i < 6)) := rfl
theorem kl_94 (h : hp) : px_kd (K0, h) 94 = (0, 6) := rfl
theorem ka_95 (h : hp) (i : Int) : px_ga (K0, h) 0 95 i = (decide (0 ≤ i) && decide (i < 6)) := rfl
theorem kl_95 (h : hp) : px_kd (K0, h) 95 = (0, 6) := rfl
theorem ka_96 (h : hp) (i : Int) : px_ga (K0, h) 0 96 i = (decide (0 ≤ i) && decide (i < 6)) := rfl
theorem kl_96 (h : hp) : px_kd (K0, h) 96 = (0, 6) := rfl
theorem kg_97 (h : hp) : px_go (K0, h) 97 3 = true := rfl
theorem ka_98 (h : hp) (i : Int) : px_ga (K0, h) 1 98 i = (decide (0 ≤ i) && decide (i < 11)) := rfl
theorem kl_98 (h : hp) : px_kd (K0, h) 98 = (1, 11) := rfl
theorem kg_99 (h : hp) : px_go (K0, h) 99 3 = true := rfl
theorem ka_100 (h : hp) (i : Int) : px_ga (K0, h) 1 100 i = (decide (0 ≤ i) && decide (i < 11)) := rfl
theorem kl_100 (h : hp) : px_kd (K0, h) 100 = (1, 11) := rfl
theorem kg_101 (h : hp) : px_go (K0, h) 101 4 = true := rfl
theorem ka_102 (h : hp) (i : Int) : px_ga (K0, h) 0 102 i = (decide (0 ≤ i) && decide (i < 40)) := rfl
theorem kl_102 (h : hp) : px_kd (K0, h) 102 = (0, 40) := rfl
theorem ka_103 (h : hp) (i : Int) : px_ga (K0, h) 0 103 i = (decide (0 ≤ i) && decide (i < 40)) := rfl
theorem kl_103 (h : hp) : px_kd (K0, h) 103 = (0, 40) := rfl
theorem ka_104 (h : hp) (i : Int) : px_ga (K0, h) 0 104 i = (decide (0 ≤ i) && decide (i < 40)) := rfl
theorem kl_104 (h : hp) : px_kd (K0, h) 104 = (0, 40) := rfl
theorem ka_105 (h : hp) (i : Int) : px_ga (K0, h) 0 105 i = (decide (0 ≤ i) && decide (i < 40)) := rfl
theorem kl_105 (h : hp) : px_kd (K0, h) 105 = (0, 40) := rfl
theorem ka_106 (h : hp) (i : Int) : px_ga (K0, h) 6 106 i = (decide (0 ≤ i) && decide (i < 3)) := rfl
theorem kl_106 (h : hp) : px_kd (K0, h) 106 = (6, 3) := rfl
theorem kg_107 (h : hp) : px_go (K0, h) 107 4 = true := rfl
theorem ka_108 (h : hp) (i : Int) : px_ga (K0, h) 0 108 i = (decide (0 ≤ i) && decide (i < 40)) := rfl
theorem kl_108 (h : hp) : px_kd (K0, h) 108 = (0, 40) := rfl
theorem ka_109 (h : hp) (i : Int) : px_ga (K0, h) 0 109 i = (decide (0 ≤ i) && decide (i < 40)) := rfl
theorem kl_109 (h : hp) : px_kd (K0, h) 109 = (0, 40) := rfl
theorem ka_110 (h : hp) (i : Int) : px_ga (K0, h) 0 110 i = (decide (0 ≤ i) && decide (i < 40)) := rfl
theorem kl_110 (h : hp) : px_kd (K0, h) 110 = (0, 40) := rfl
theorem ka_111 (h : hp) (i : Int) : px_ga (K0, h) 0 111 i = (decide (0 ≤ i) && decide (i < 40)) := rfl
theorem kl_111 (h : hp) : px_kd (K0, h) 111 = (0, 40) := rfl
theorem kg_112 (h : hp) : px_go (K0, h) 112 4 = true := rfl
theorem ka_113 (h : hp) (i : Int) : px_ga (K0, h) 0 113 i = (decide (0 ≤ i) && decide (i < 40)) := rfl
theorem kl_113 (h : hp) : px_kd (K0, h) 113 = (0, 40) := rfl
theorem ka_114 (h : hp) (i : Int) : px_ga (K0, h) 0 114 i = (decide (0 ≤ i) && decide (i < 40)) := rfl
theorem kl_114 (h : hp) : px_kd (K0, h) 114 = (0, 40) := rfl
theorem ka_115 (h : hp) (i : Int) : px_ga (K0, h) 0 115 i = (decide (0 ≤ i) && decide (i < 40)) := rfl
theorem kl_115 (h : hp) : px_kd (K0, h) 115 = (0, 40) := rfl
theorem ka_116 (h : hp) (i : Int) : px_ga (K0, h) 0 116 i = (decide (0 ≤ i) && decide (i < 40)) := rfl
theorem kl_116 (h : hp) : px_kd (K0, h) 116 = (0, 40) := rfl
theorem kg_117 (h : hp) : px_go (K0, h) 117 4 = true := rfl
theorem ka_118 (h : hp) (i : Int) : px_ga (K0, h) 0 118 i = (decide (0 ≤ i) && decide (i < 40)) := rfl
theorem kl_118 (h : hp) : px_kd (K0, h) 118 = (0, 40) := rfl
theorem ka_119 (h : hp) (i : Int) : px_ga (K0, h) 0 119 i = (decide (0 ≤ i) && decide (i < 40)) := rfl
theorem kl_119 (h : hp) : px_kd (K0, h) 119 = (0, 40) := rfl
theorem ka_120 (h : hp) (i : Int) : px_ga (K0, h) 0 120 i = (decide (0 ≤ i) && decide (i < 40)) := rfl
theorem kl_120 (h : hp) : px_kd (K0, h) 120 = (0, 40) := rfl
theorem ka_121 (h : hp) (i : Int) : px_ga (K0, h) 0 121 i = (decide (0 ≤ i) && decide (i < 40)) := rfl
theorem kl_121 (h : hp) : px_kd (K0, h) 121 = (0, 40) := rfl
theorem ka_122 (h : hp) (i : Int) : px_ga (K0, h) 0 122 i = (decide (0 ≤ i) && decide (i < 16)) := rfl
theorem kl_122 (h : hp) : px_kd (K0, h) 122 = (0, 16) := rfl
theorem kg_123 (h : hp) : px_go (K0, h) 123 9 = true := rfl
theorem ka_124 (h : hp) (i : Int) : px_ga (K0, h) 2 124 i = (decide (0 ≤ i) && decide (i < 900)) := rfl
theorem kl_124 (h : hp) : px_kd (K0, h) 124 = (2, 900) := rfl
theorem ka_125 (h : hp) (i : Int) : px_ga (K0, h) 0 125 i = (decide (0 ≤ i) && decide (i < 18)) := rfl
theorem kl_125 (h : hp) : px_kd (K0, h) 125 = (0, 18) := rfl
theorem ka_126 (h : hp) (i : Int) : px_ga (K0, h) 1 126 i = (decide (0 ≤ i) && decide (i < 36)) := rfl
theorem kl_126 (h : hp) : px_kd (K0, h) 126 = (1, 36) := rfl
theorem ka_127 (h : hp) (i : Int) : px_ga (K0, h) 0 127 i = (decide (0 ≤ i) && decide (i < 40)) := rfl
theorem kl_127 (h : hp) : px_kd (K0, h) 127 = (0, 40) := rfl
theorem ka_128 (h : hp) (i : Int) : px_ga (K0, h) 0 128 i = (decide (0 ≤ i) && decide (i < 32)) := rfl
theorem kl_128 (h : hp) : px_kd (K0, h) 128 = (0, 32) := rfl
theorem ka_129 (h : hp) (i : Int) : px_ga (K0, h) 0 129 i = (decide (0 ≤ i) && decide (i < 48)) := rfl
theorem kl_129 (h : hp) : px_kd (K0, h) 129 = (0, 48) := rfl
theorem ka_130 (h : hp) (i : Int) : px_ga (K0, h) 0 130 i = (decide (0 ≤ i) && decide (i < 10)) := rfl
theorem kl_130 (h : hp) : px_kd (K0, h) 130 = (0, 10) := rfl
theorem ka_131 (h : hp) (i : Int) : px_ga (K0, h) 0 131 i = (decide (0 ≤ i) && decide (i < 10)) := rfl
theorem kl_131 (h : hp) : px_kd (K0, h) 131 = (0, 10) := rfl
theorem ka_132 (h : hp) (i : Int) : px_ga (K0, h) 0 132 i = (decide (0 ≤ i) && decide (i < 8)) := rfl
theorem kl_132 (h : hp) : px_kd (K0, h) 132 = (0, 8) := rfl
theorem ka_133 (h : hp) (i : Int) : px_ga (K0, h) 0 133 i = (decide (0 ≤ i) && decide (i < 8)) := rfl
theorem kl_133 (h : hp) : px_kd (K0, h) 133 = (0, 8) := rfl
theorem ka_134 (h : hp) (i : Int) : px_ga (K0, h) 0 134 i = (decide (0 ≤ i) && decide (i < 40)) := rfl
theorem kl_134 (h : hp) : px_kd (K0, h) 134 = (0, 40) := rfl
theorem ka_135 (h : hp) (i : Int) : px_ga (K0, h) 0 135 i = (decide (0 ≤ i) && decide (i < 4)) := rfl
theorem kl_135 (h : hp) : px_kd (K0, h) 135 = (0, 4) := rfl
theorem ka_136 (h : hp) (i : Int) : px_ga (K0, h) 0 136 i = (decide (0 ≤ i) && decide (i < 4)) := rfl
theorem kl_136 (h : hp) : px_kd (K0, h) 136 = (0, 4) := rfl
theorem ka_137 (h : hp) (i : Int) : px_ga (K0, h) 0 137 i = (decide (0 ≤ i) && decide (i < 24)) := rfl
theorem kl_137 (h : hp) : px_kd (K0, h) 137 = (0, 24) := rfl
theorem ka_138 (h : hp) (i : Int) : px_ga (K0, h) 0 138 i = (decide (0 ≤ i) && decide (i < 4)) := rfl
theorem kl_138 (h : hp) : px_kd (K0, h) 138 = (0, 4) := rfl
theorem ka_139 (h : hp) (i : Int) : px_ga (K0, h) 0 139 i = (decide (0 ≤ i) && decide (i < 6)) := rfl
theorem kl_139 (h : hp) : px_kd (K0, h) 139 = (0, 6) := rfl
theorem ka_140 (h : hp) (i : Int) : px_ga (K0, h) 0 140 i = (decide (0 ≤ i) && decide (i < 648)) := rfl
theorem kl_140 (h : hp) : px_kd (K0, h) 140 = (0, 648) := rfl
theorem ka_141 (h : hp) (i : Int) : px_ga (K0, h) 1 141 i = (decide (0 ≤ i) && decide (i < 8)) := rfl
theorem kl_141 (h : hp) : px_kd (K0, h) 141 = (1, 8) := rfl
theorem ka_142 (h : hp) (i : Int) : px_ga (K0, h) 3 142 i = (decide (0 ≤ i) && decide (i < 3)) := rfl
theorem kl_142 (h : hp) : px_kd (K0, h) 142 = (3, 3) := rfl
theorem ka_143 (h : hp) (i : Int) : px_ga (K0, h) 0 143 i = (decide (0 ≤ i) && decide (i < 40)) := rfl
theorem kl_143 (h : hp) : px_kd (K0, h) 143 = (0, 40) := rfl
theorem ka_144 (h : hp) (i : Int) : px_ga (K0, h) 0 144 i = (decide (0 ≤ i) && decide (i < 40)) := rfl
theorem kl_144 (h : hp) : px_kd (K0, h) 144 = (0, 40) := rfl
theorem ka_145 (h : hp) (i : Int) : px_ga (K0, h) 0 145 i = (decide (0 ≤ i) && decide (i < 10)) := rfl
theorem kl_145 (h : hp) : px_kd (K0, h) 145 = (0, 10) := rfl
theorem ka_146 (h : hp) (i : Int) : px_ga (K0, h) 0 146 i = (decide (0 ≤ i) && decide (i < 10)) := rfl
theorem kl_146 (h : hp) : px_kd (K0, h) 146 = (0, 10) := rfl
theorem ka_147 (h : hp) (i : Int) : px_ga (K0, h) 0 147 i = (decide (0 ≤ i) && decide (i < 10)) := rfl
theorem kl_147 (h : hp) : px_kd (K0, h) 147 = (0, 10) := rfl
theorem ka_148 (h : hp) (i : Int) : px_ga (K0, h) 0 148 i = (decide (0 ≤ i) && decide (i < 10)) := rfl
theorem kl_148 (h : hp) : px_kd (K0, h) 148 = (0, 10) := rfl
theorem ka_149 (h : hp) (i : Int) : px_ga (K0, h) 0 149 i = (decide (0 ≤ i) && decide (i < 10)) := rfl
theorem kl_149 (h : hp) : px_kd (K0, h) 149 = (0, 10) := rfl
theorem ka_150 (h : hp) (i : Int) : px_ga (K0, h) 0 150 i = (decide (0 ≤ i) && decide (i < 16)) := rfl
theorem kl_150 (h : hp) : px_kd (K0, h) 150 = (0, 16) := rfl
theorem ka_151 (h : hp) (i : Int) : px_ga (K0, h) 0 151 i = (decide (0 ≤ i) && decide (i < 20)) := rfl
theorem kl_151 (h : hp) : px_kd (K0, h) 151 = (0, 20) := rfl
theorem ka_152 (h : hp) (i : Int) : px_ga (K0, h) 0 152 i = (decide (0 ≤ i) && decide (i < 20)) := rfl
theorem kl_152 (h : hp) : px_kd (K0, h) 152 = (0, 20) := rfl
theorem ka_153 (h : hp) (i : Int) : px_ga (K0, h) 0 153 i = (decide (0 ≤ i) && decide (i < 20)) := rfl
theorem kl_153 (h : hp) : px_kd (K0, h) 153 = (0, 20) := rfl
theorem ka_154 (h : hp) (i : Int) : px_ga (K0, h) 0 154 i = (decide (0 ≤ i) && decide (i < 20)) := rfl
theorem kl_154 (h : hp) : px_kd (K0, h) 154 = (0, 20) := rfl
theorem ka_155 (h : hp) (i : Int) : px_ga (K0, h) 0 155 i = (decide (0 ≤ i) && decide (i < 20)) := rfl
theorem kl_155 (h : hp) : px_kd (K0, h) 155 = (0, 20) := rfl
theorem ka_156 (h : hp) (i : Int) : px_ga (K0, h) 0 156 i = (decide (0 ≤ i) && decide (i < 20)) := rfl
theorem kl_156 (h : hp) : px_kd (K0, h) 156 = (0, 20) := rfl
theorem ka_157 (h : hp) (i : Int) : px_ga (K0, h) 0 157 i = (decide (0 ≤ i) && decide (i < 30)) := rfl
theorem kl_157 (h : hp) : px_kd (K0, h) 157 = (0, 30) := rfl
theorem ka_158 (h : hp) (i : Int) : px_ga (K0, h) 0 158 i = (decide (0 ≤ i) && decide (i < 30)) := rfl
theorem kl_158 (h : hp) : px_kd (K0, h) 158 = (0, 30) := rfl
theorem ka_159 (h : hp) (i : Int) : px_ga (K0, h) 0 159 i = (decide (0 ≤ i) && decide (i < 4)) := rfl
theorem kl_159 (h : hp) : px_kd (K0, h) 159 = (0, 4) := rfl
/-- the references that never change: cell, slot, the cell that stands there -/
def rl : List (Nat × Nat × Int) := [(1, 0, 2), (1, 1, 48), (1, 2, 51), (1, 3, 79), (1, 4, 83), (1, 5, 101), (1, 6, 106), (1, 7, 122), (2, 0, 3), (4, 1, 5), (4, 2, 6), (4, 3, 16), (6, 0, 7), (6, 1, 8), (6, 2, 9), (6, 3, 10), (6, 4, 11), (6, 5, 12), (6, 6, 13), (6, 7, 14), (6, 8, 15), (16, 0, 17), (16, 1, 18), (16, 2, 19), (16, 3, 20), (16, 4, 21), (16, 5, 22), (16, 6, 23), (16, 7, 24), (16, 8, 25), (26, 1, 27), (26, 2, 28), (26, 3, 38), (28, 0, 29), (28, 1, 30), (28, 2, 31), (28, 3, 32), (28, 4, 33), (28, 5, 34), (28, 6, 35), (28, 7, 36), (28, 8, 37), (38, 0, 39), (38, 1, 40), (38, 2, 41), (38, 3, 42), (38, 4, 43), (38, 5, 44), (38, 6, 45), (38, 7, 46), (38, 8, 47), (48, 5, 49), (48, 7, 50), (51, 2, 52), (51, 3, 59), (51, 4, 66), (51, 6, 67), (51, 7, 68), (51, 8, 69), (51, 9, 74), (52, 0, 53), (52, 1, 54), (52, 2, 55), (52, 3, 56), (52, 4, 57), (52, 5, 58), (59, 0, 60), (59, 1, 61), (59, 2, 62), (59, 3, 63), (59, 4, 64), (59, 5, 65), (69, 0, 70), (69, 1, 71), (69, 2, 72), (69, 3, 73), (74, 0, 75), (74, 1, 76), (74, 2, 77), (74, 3, 78), (79, 3, 80), (79, 4, 81), (79, 5, 82), (83, 3, 84), (83, 4, 85), (83, 5, 86), (83, 6, 87), (83, 7, 88), (83, 8, 89), (83, 12, 90), (83, 13, 97), (83, 14, 99), (90, 0, 91), (90, 1, 92), (90, 2, 93), (90, 3, 94), (90, 4, 95), (90, 5, 96), (97, 0, 98), (99, 0, 100), (101, 4, 102), (101, 5, 103), (101, 6, 104), (101, 7, 105), (106, 0, 107), (106, 1, 112), (106, 2, 117), (107, 4, 108), (107, 5, 109), (107, 6, 110), (107, 7, 111), (112, 4, 113), (112, 5, 114), (112, 6, 115), (112, 7, 116), (117, 4, 118), (117, 5, 119), (117, 6, 120), (117, 7, 121), (123, 0, 124), (123, 12, 125), (123, 13, 126), (123, 14, 127), (123, 15, 128), (123, 16, 129), (123, 17, 130), (123, 18, 131), (123, 19, 132), (123, 20, 133), (123, 21, 134), (123, 30, 135), (123, 31, 136), (123, 32, 137), (123, 33, 138), (123, 34, 139), (123, 35, 140), (123, 36, 141), (123, 37, 142), (123, 38, 143), (123, 39, 144), (123, 41, 145), (123, 42, 146), (123, 44, 147), (123, 45, 148), (123, 46, 149), (123, 50, 150), (123, 54, 151), (123, 55, 152), (123, 56, 153), (123, 57, 154), (123, 58, 155), (123, 59, 156), (123, 60, 157), (123, 61, 158), (123, 62, 159)]
def IR (h : hp) : Prop := ∀ q ∈ rl, h q.1 q.2.1 = q.2.2
def rlc (a : Nat) : Bool := rl.all fun q => !Nat.beq q.1 a
def rls (a b : Nat) : Bool := rl.all fun q => !(Nat.beq q.1 a && Nat.beq q.2.1 b)
theorem IR_cell {h : hp} (H : IR h) {a b : Nat} {v : Int} (hc : rlc a = true) : IR (px_up h a b v) := by
  intro q hq
  have h1 := List.all_eq_true.mp hc q hq
  rw [px_up_cell h b v q.2.1 (fun e => by rw [e] at h1; simp at h1)]
  exact H q hq
theorem IR_slot {h : hp} (H : IR h) {a b : Nat} {v : Int} (hc : rls a b = true) : IR (px_up h a b v) := by
  intro q hq
  have h1 := List.all_eq_true.mp hc q hq
  unfold px_up
  rw [if_neg (fun e => by rw [e.1, e.2] at h1; simp at h1)]
  exact H q hq
theorem IR_same {h g : hp} (H : IR h) (hc : ∀ q ∈ rl, g q.1 q.2.1 = h q.1 q.2.1) : IR g := fun q hq => (hc q hq).trans (H q hq)
theorem ir_1_0 {h : hp} (H : IR h) : h 1 0 = 2 := H (1, 0, 2) (List.mem_of_getElem? (i := 0) rfl)
theorem ir_1_1 {h : hp} (H : IR h) : h 1 1 = 48 := H (1, 1, 48) (List.mem_of_getElem? (i := 1) rfl)
theorem ir_1_2 {h : hp} (H : IR h) : h 1 2 = 51 := H (1, 2, 51) (List.mem_of_getElem? (i := 2) rfl)
theorem ir_1_3 {h : hp} (H : IR h) : h 1 3 = 79 := H (1, 3, 79) (List.mem_of_getElem? (i := 3) rfl)
theorem ir_1_4 {h : hp} (H : IR h) : h 1 4 = 83 := H (1, 4, 83) (List.mem_of_getElem? (i := 4) rfl)
theorem ir_1_5 {h : hp} (H : IR h) : h 1 5 = 101 := H (1, 5, 101) (List.mem_of_getElem? (i := 5) rfl)
theorem ir_1_6 {h : hp} (H : IR h) : h 1 6 = 106 := H (1, 6, 106) (List.mem_of_getElem? (i := 6) rfl)
theorem ir_1_7 {h : hp} (H : IR h) : h 1 7 = 122 := H (1, 7, 122) (List.mem_of_getElem? (i := 7) rfl)
theorem ir_2_0 {h : hp} (H : IR h) : h 2 0 = 3 := H (2, 0, 3) (List.mem_of_getElem? (i := 8) rfl)
theorem ir_4_1 {h : hp} (H : IR h) : h 4 1 = 5 := H (4, 1, 5) (List.mem_of_getElem? (i := 9) rfl)
theorem ir_4_2 {h : hp} (H : IR h) : h 4 2 = 6 := H (4, 2, 6) (List.mem_of_getElem? (i := 10) rfl)
theorem ir_4_3 {h : hp} (H : IR h) : h 4 3 = 16 := H (4, 3, 16) (List.mem_of_getElem? (i := 11) rfl)
theorem ir_6_0 {h : hp} (H : IR h) : h 6 0 = 7 := H (6, 0, 7) (List.mem_of_getElem? (i := 12) rfl)
theorem ir_6_1 {h : hp} (H : IR h) : h 6 1 = 8 := H (6, 1, 8) (List.mem_of_getElem? (i := 13) rfl)
theorem ir_6_2 {h : hp} (H : IR h) : h 6 2 = 9 := H (6, 2, 9) (List.mem_of_getElem? (i := 14) rfl)
theorem ir_6_3 {h : hp} (H : IR h) : h 6 3 = 10 := H (6, 3, 10) (List.mem_of_getElem? (i := 15) rfl)
theorem ir_6_4 {h : hp} (H : IR h) : h 6 4 = 11 := H (6, 4, 11) (List.mem_of_getElem? (i := 16) rfl)
theorem ir_6_5 {h : hp} (H : IR h) : h 6 5 = 12 := H (6, 5, 12) (List.mem_of_getElem? (i := 17) rfl)
theorem ir_6_6 {h : hp} (H : IR h) : h 6 6 = 13 := H (6, 6, 13) (List.mem_of_getElem? (i := 18) rfl)
theorem ir_6_7 {h : hp} (H : IR h) : h 6 7 = 14 := H (6, 7, 14) (List.mem_of_getElem? (i := 19) rfl)
theorem ir_6_8 {h : hp} (H : IR h) : h 6 8 = 15 := H (6, 8, 15) (List.mem_of_getElem? (i := 20) rfl)
theorem ir_16_0 {h : hp} (H : IR h) : h 16 0 = 17 := H (16, 0, 17) (List.mem_of_getElem? (i := 21) rfl)
theorem ir_16_1 {h : hp} (H : IR h) : h 16 1 = 18 := H (16, 1, 18) (List.mem_of_getElem? (i := 22) rfl)
theorem ir_16_2 {h : hp} (H : IR h) : h 16 2 = 19 := H (16, 2, 19) (List.mem_of_getElem? (i := 23) rfl)
theorem ir_16_3 {h : hp} (H : IR h) : h 16 3 = 20 := H (16, 3, 20) (List.mem_of_getElem? (i := 24) rfl)
theorem ir_16_4 {h : hp} (H : IR h) : h 16 4 = 21 := H (16, 4, 21) (List.mem_of_getElem? (i := 25) rfl)
theorem ir_16_5 {h : hp} (H : IR h) : h 16 5 = 22 := H (16, 5, 22) (List.mem_of_getElem? (i := 26) rfl)
theorem ir_16_6 {h : hp} (H : IR h) : h 16 6 = 23 := H (16, 6, 23) (List.mem_of_getElem? (i := 27) rfl)
theorem ir_16_7 {h : hp} (H : IR h) : h 16 7 = 24 := H (16, 7, 24) (List.mem_of_getElem? (i := 28) rfl)
theorem ir_16_8 {h : hp} (H : IR h) : h 16 8 = 25 := H (16, 8, 25) (List.mem_of_getElem? (i := 29) rfl)
theorem ir_26_1 {h : hp} (H : IR h) : h 26 1 = 27 := H (26, 1, 27) (List.mem_of_getElem? (i := 30) rfl)
theorem ir_26_2 {h : hp} (H : IR h) : h 26 2 = 28 := H (26, 2, 28) (List.mem_of_getElem? (i := 31) rfl)
theorem ir_26_3 {h : hp} (H : IR h) : h 26 3 = 38 := H (26, 3, 38) (List.mem_of_getElem? (i := 32) rfl)
theorem ir_28_0 {h : hp} (H : IR h) : h 28 0 = 29 := H (28, 0, 29) (List.mem_of_getElem? (i := 33) rfl)
theorem ir_28_1 {h : hp} (H : IR h) : h 28 1 = 30 := H (28, 1, 30) (List.mem_of_getElem? (i := 34) rfl)
theorem ir_28_2 {h : hp} (H : IR h) : h 28 2 = 31 := H (28, 2, 31) (List.mem_of_getElem? (i := 35) rfl)
theorem ir_28_3 {h : hp} (H : IR h) : h 28 3 = 32 := H (28, 3, 32) (List.mem_of_getElem? (i := 36) rfl)
theorem ir_28_4 {h : hp} (H : IR h) : h 28 4 = 33 := H (28, 4, 33) (List.mem_of_getElem? (i := 37) rfl)
theorem ir_28_5 {h : hp} (H : IR h) : h 28 5 = 34 := H (28, 5, 34) (List.mem_of_getElem? (i := 38) rfl)
theorem ir_28_6 {h : hp} (H : IR h) : h 28 6 = 35 := H (28, 6, 35) (List.mem_of_getElem? (i := 39) rfl)
theorem ir_28_7 {h : hp} (H : IR h) : h 28 7 = 36 := H (28, 7, 36) (List.mem_of_getElem? (i := 40) rfl)
theorem ir_28_8 {h : hp} (H : IR h) : h 28 8 = 37 := H (28, 8, 37) (List.mem_of_getElem? (i := 41) rfl)
theorem ir_38_0 {h : hp} (H : IR h) : h 38 0 = 39 := H (38, 0, 39) (List.mem_of_getElem? (i := 42) rfl)
theorem ir_38_1 {h : hp} (H : IR h) : h 38 1 = 40 := H (38, 1, 40) (List.mem_of_getElem? (i := 43) rfl)
theorem ir_38_2 {h : hp} (H : IR h) : h 38 2 = 41 := H (38, 2, 41) (List.mem_of_getElem? (i := 44) rfl)
theorem ir_38_3 {h : hp} (H : IR h) : h 38 3 = 42 := H (38, 3, 42) (List.mem_of_getElem? (i := 45) rfl)
theorem ir_38_4 {h : hp} (H : IR h) : h 38 4 = 43 := H (38, 4, 43) (List.mem_of_getElem? (i := 46) rfl)
theorem ir_38_5 {h : hp} (H : IR h) : h 38 5 = 44 := H (38, 5, 44) (List.mem_of_getElem? (i := 47) rfl)
theorem ir_38_6 {h : hp} (H : IR h) : h 38 6 = 45 := H (38, 6, 45) (List.mem_of_getElem? (i := 48) rfl)
theorem ir_38_7 {h : hp} (H : IR h) : h 38 7 = 46 := H (38, 7, 46) (List.mem_of_getElem? (i := 49) rfl)
theorem ir_38_8 {h : hp} (H : IR h) : h 38 8 = 47 := H (38, 8, 47) (List.mem_of_getElem? (i := 50) rfl)
theorem ir_48_5 {h : hp} (H : IR h) : h 48 5 = 49 := H (48, 5, 49) (List.mem_of_getElem? (i := 51) rfl)
theorem ir_48_7 {h : hp} (H : IR h) : h 48 7 = 50 := H (48, 7, 50) (List.mem_of_getElem? (i := 52) rfl)
theorem ir_51_2 {h : hp} (H : IR h) : h 51 2 = 52 := H (51, 2, 52) (List.mem_of_getElem? (i := 53) rfl)
theorem ir_51_3 {h : hp} (H : IR h) : h 51 3 = 59 := H (51, 3, 59) (List.mem_of_getElem? (i := 54) rfl)
theorem ir_51_4 {h : hp} (H : IR h) : h 51 4 = 66 := H (51, 4, 66) (List.mem_of_getElem? (i := 55) rfl)
theorem ir_51_6 {h : hp} (H : IR h) : h 51 6 = 67 := H (51, 6, 67) (List.mem_of_getElem? (i := 56) rfl)
theorem ir_51_7 {h : hp} (H : IR h) : h 51 7 = 68 := H (51, 7, 68) (List.mem_of_getElem? (i := 57) rfl)
theorem ir_51_8 {h : hp} (H : IR h) : h 51 8 = 69 := H (51, 8, 69) (List.mem_of_getElem? (i := 58) rfl)
theorem ir_51_9 {h : hp} (H : IR h) : h 51 9 = 74 := H (51, 9, 74) (List.mem_of_getElem? (i := 59) rfl)
theorem ir_52_0 {h : hp} (H : IR h) : h 52 0 = 53 := H (52, 0, 53) (List.mem_of_getElem? (i := 60) rfl)
theorem ir_52_1 {h : hp} (H : IR h) : h 52 1 = 54 := H (52, 1, 54) (List.mem_of_getElem? (i := 61) rfl)
theorem ir_52_2 {h : hp} (H : IR h) : h 52 2 = 55 := H (52, 2, 55) (List.mem_of_getElem? (i := 62) rfl)
theorem ir_52_3 {h : hp} (H : IR h) : h 52 3 = 56 := H (52, 3, 56) (List.mem_of_getElem? (i := 63) rfl)
theorem ir_52_4 {h : hp} (H : IR h) : h 52 4 = 57 := H (52, 4, 57) (List.mem_of_getElem? (i := 64) rfl)
theorem ir_52_5 {h : hp} (H : IR h) : h 52 5 = 58 := H (52, 5, 58) (List.mem_of_getElem? (i := 65) rfl)
theorem ir_59_0 {h : hp} (H : IR h) : h 59 0 = 60 := H (59, 0, 60) (List.mem_of_getElem? (i := 66) rfl)
theorem ir_59_1 {h : hp} (H : IR h) : h 59 1 = 61 := H (59, 1, 61) (List.mem_of_getElem? (i := 67) rfl)
theorem ir_59_2 {h : hp} (H : IR h) : h 59 2 = 62 := H (59, 2, 62) (List.mem_of_getElem? (i := 68) rfl)
theorem ir_59_3 {h : hp} (H : IR h) : h 59 3 = 63 := H (59, 3, 63) (List.mem_of_getElem? (i := 69) rfl)
theorem ir_59_4 {h : hp} (H : IR h) : h 59 4 = 64 := H (59, 4, 64) (List.mem_of_getElem? (i := 70) rfl)
theorem ir_59_5 {h : hp} (H : IR h) : h 59 5 = 65 := H (59, 5, 65) (List.mem_of_getElem? (i := 71) rfl)
theorem ir_69_0 {h : hp} (H : IR h) : h 69 0 = 70 := H (69, 0, 70) (List.mem_of_getElem? (i := 72) rfl)
theorem ir_69_1 {h : hp} (H : IR h) : h 69 1 = 71 := H (69, 1, 71) (List.mem_of_getElem? (i := 73) rfl)
theorem ir_69_2 {h : hp} (H : IR h) : h 69 2 = 72 := H (69, 2, 72) (List.mem_of_getElem? (i := 74) rfl)
theorem ir_69_3 {h : hp} (H : IR h) : h 69 3 = 73 := H (69, 3, 73) (List.mem_of_getElem? (i := 75) rfl)
theorem ir_74_0 {h : hp} (H : IR h) : h 74 0 = 75 := H (74, 0, 75) (List.mem_of_getElem? (i := 76) rfl)
theorem ir_74_1 {h : hp} (H : IR h) : h 74 1 = 76 := H (74, 1, 76) (List.mem_of_getElem? (i := 77) rfl)
theorem ir_74_2 {h : hp} (H : IR h) : h 74 2 = 77 := H (74, 2, 77) (List.mem_of_getElem? (i := 78) rfl)
theorem ir_74_3 {h : hp} (H : IR h) : h 74 3 = 78 := H (74, 3, 78) (List.mem_of_getElem? (i := 79) rfl)
theorem ir_79_3 {h : hp} (H : IR h) : h 79 3 = 80 := H (79, 3, 80) (List.mem_of_getElem? (i := 80) rfl)
theorem ir_79_4 {h : hp} (H : IR h) : h 79 4 = 81 := H (79, 4, 81) (List.mem_of_getElem? (i := 81) rfl)
theorem ir_79_5 {h : hp} (H : IR h) : h 79 5 = 82 := H (79, 5, 82) (List.mem_of_getElem? (i := 82) rfl)
theorem ir_83_3 {h : hp} (H : IR h) : h 83 3 = 84 := H (83, 3, 84) (List.mem_of_getElem? (i := 83) rfl)
theorem ir_83_4 {h : hp} (H : IR h) : h 83 4 = 85 := H (83, 4, 85) (List.mem_of_getElem? (i := 84) rfl)
theorem ir_83_5 {h : hp} (H : IR h) : h 83 5 = 86 := H (83, 5, 86) (List.mem_of_getElem? (i := 85) rfl)
theorem ir_83_6 {h : hp} (H : IR h) : h 83 6 = 87 := H (83, 6, 87) (List.mem_of_getElem? (i := 86) rfl)
theorem ir_83_7 {h : hp} (H : IR h) : h 83 7 = 88 := H (83, 7, 88) (List.mem_of_getElem? (i := 87) rfl)
theorem ir_83_8 {h : hp} (H : IR h) : h 83 8 = 89 := H (83, 8, 89) (List.mem_of_getElem? (i := 88) rfl)
theorem ir_83_12 {h : hp} (H : IR h) : h 83 12 = 90 := H (83, 12, 90) (List.mem_of_getElem? (i := 89) rfl)
theorem ir_83_13 {h : hp} (H : IR h) : h 83 13 = 97 := H (83, 13, 97) (List.mem_of_getElem? (i := 90) rfl)
theorem ir_83_14 {h : hp} (H : IR h) : h 83 14 = 99 := H (83, 14, 99) (List.mem_of_getElem? (i := 91) rfl)
theorem ir_90_0 {h : hp} (H : IR h) : h 90 0 = 91 := H (90, 0, 91) (List.mem_of_getElem? (i := 92) rfl)
theorem ir_90_1 {h : hp} (H : IR h) : h 90 1 = 92 := H (90, 1, 92) (List.mem_of_getElem? (i := 93) rfl)
theorem ir_90_2 {h : hp} (H : IR h) : h 90 2 = 93 := H (90, 2, 93) (List.mem_of_getElem? (i := 94) rfl)
theorem ir_90_3 {h : hp} (H : IR h) : h 90 3 = 94 := H (90, 3, 94) (List.mem_of_getElem? (i := 95) rfl)
theorem ir_90_4 {h : hp} (H : IR h) : h 90 4 = 95 := H (90, 4, 95) (List.mem_of_getElem? (i := 96) rfl)
theorem ir_90_5 {h : hp} (H : IR h) : h 90 5 = 96 := H (90, 5, 96) (List.mem_of_getElem? (i := 97) rfl)
theorem ir_97_0 {h : hp} (H : IR h) : h 97 0 = 98 := H (97, 0, 98) (List.mem_of_getElem? (i := 98) rfl)
theorem ir_99_0 {h : hp} (H : IR h) : h 99 0 = 100 := H (99, 0, 100) (List.mem_of_getElem? (i := 99) rfl)
theorem ir_101_4 {h : hp} (H : IR h) : h 101 4 = 102 := H (101, 4, 102) (List.mem_of_getElem? (i := 100) rfl)
theorem ir_101_5 {h : hp} (H : IR h) : h 101 5 = 103 := H (101, 5, 103) (List.mem_of_getElem? (i := 101) rfl)
theorem ir_101_6 {h : hp} (H : IR h) : h 101 6 = 104 := H (101, 6, 104) (List.mem_of_getElem? (i := 102) rfl)
theorem ir_101_7 {h : hp} (H : IR h) : h 101 7 = 105 := H (101, 7, 105) (List.mem_of_getElem? (i := 103) rfl)
theorem ir_106_0 {h : hp} (H : IR h) : h 106 0 = 107 := H (106, 0, 107) (List.mem_of_getElem? (i := 104) rfl)
theorem ir_106_1 {h : hp} (H : IR h) : h 106 1 = 112 := H (106, 1, 112) (List.mem_of_getElem? (i := 105) rfl)
theorem ir_106_2 {h : hp} (H : IR h) : h 106 2 = 117 := H (106, 2, 117) (List.mem_of_getElem? (i := 106) rfl)
theorem ir_107_4 {h : hp} (H : IR h) : h 107 4 = 108 := H (107, 4, 108) (List.mem_of_getElem? (i := 107) rfl)
theorem ir_107_5 {h : hp} (H : IR h) : h 107 5 = 109 := H (107, 5, 109) (List.mem_of_getElem? (i := 108) rfl)
theorem ir_107_6 {h : hp} (H : IR h) : h 107 6 = 110 := H (107, 6, 110) (List.mem_of_getElem? (i := 109) rfl)
theorem ir_107_7 {h : hp} (H : IR h) : h 107 7 = 111 := H (107, 7, 111) (List.mem_of_getElem? (i := 110) rfl)
theorem ir_112_4 {h : hp} (H : IR h) : h 112 4 = 113 := H (112, 4, 113) (List.mem_of_getElem? (i := 111) rfl)
theorem ir_112_5 {h : hp} (H : IR h) : h 112 5 = 114 := H (112, 5, 114) (List.mem_of_getElem? (i := 112) rfl)
theorem ir_112_6 {h : hp} (H : IR h) : h 112 6 = 115 := H (112, 6, 115) (List.mem_of_getElem? (i := 113) rfl)
theorem ir_112_7 {h : hp} (H : IR h) : h 112 7 = 116 := H (112, 7, 116) (List.mem_of_getElem? (i := 114) rfl)
theorem ir_117_4 {h : hp} (H : IR h) : h 117 4 = 118 := H (117, 4, 118) (List.mem_of_getElem? (i := 115) rfl)
theorem ir_117_5 {h : hp} (H : IR h) : h 117 5 = 119 := H (117, 5, 119) (List.mem_of_getElem? (i := 116) rfl)
theorem ir_117_6 {h : hp} (H : IR h) : h 117 6 = 120 := H (117, 6, 120) (List.mem_of_getElem? (i := 117) rfl)
theorem ir_117_7 {h : hp} (H : IR h) : h 117 7 = 121 := H (117, 7, 121) (List.mem_of_getElem? (i := 118) rfl)
theorem ir_123_0 {h : hp} (H : IR h) : h 123 0 = 124 := H (123, 0, 124) (List.mem_of_getElem? (i := 119) rfl)
theorem ir_123_12 {h : hp} (H : IR h) : h 123 12 = 125 := H (123, 12, 125) (List.mem_of_getElem? (i := 120) rfl)
theorem ir_123_13 {h : hp} (H : IR h) : h 123 13 = 126 := H (123, 13, 126) (List.mem_of_getElem? (i := 121) rfl)
theorem ir_123_14 {h : hp} (H : IR h) : h 123 14 = 127 := H (123, 14, 127) (List.mem_of_getElem? (i := 122) rfl)
theorem ir_123_15 {h : hp} (H : IR h) : h 123 15 = 128 := H (123, 15, 128) (List.mem_of_getElem? (i := 123) rfl)
theorem ir_123_16 {h : hp} (H : IR h) : h 123 16 = 129 := H (123, 16, 129) (List.mem_of_getElem? (i := 124) rfl)
theorem ir_123_17 {h : hp} (H : IR h) : h 123 17 = 130 := H (123, 17, 130) (List.mem_of_getElem? (i := 125) rfl)
theorem ir_123_18 {h : hp} (H : IR h) : h 123 18 = 131 := H (123, 18, 131) (List.mem_of_getElem? (i := 126) rfl)
theorem ir_123_19 {h : hp} (H : IR h) : h 123 19 = 132 := H (123, 19, 132) (List.mem_of_getElem? (i := 127) rfl)
theorem ir_123_20 {h : hp} (H : IR h) : h 123 20 = 133 := H (123, 20, 133) (List.mem_of_getElem? (i := 128) rfl)
theorem ir_123_21 {h : hp} (H : IR h) : h 123 21 = 134 := H (123, 21, 134) (List.mem_of_getElem? (i := 129) rfl)
theorem ir_123_30 {h : hp} (H : IR h) : h 123 30 = 135 := H (123, 30, 135) (List.mem_of_getElem? (i := 130) rfl)
theorem ir_123_31 {h : hp} (H : IR h) : h 123 31 = 136 := H (123, 31, 136) (List.mem_of_getElem? (i := 131) rfl)
theorem ir_123_32 {h : hp} (H : IR h) : h 123 32 = 137 := H (123, 32, 137) (List.mem_of_getElem? (i := 132) rfl)
theorem ir_123_33 {h : hp} (H : IR h) : h 123 33 = 138 := H (123, 33, 138) (List.mem_of_getElem? (i := 133) rfl)
theorem ir_123_34 {h : hp} (H : IR h) : h 123 34 = 139 := H (123, 34, 139) (List.mem_of_getElem? (i := 134) rfl)
theorem ir_123_35 {h : hp} (H : IR h) : h 123 35 = 140 := H (123, 35, 140) (List.mem_of_getElem? (i := 135) rfl)
theorem ir_123_36 {h : hp} (H : IR h) : h 123 36 = 141 := H (123, 36, 141) (List.mem_of_getElem? (i := 136) rfl)
theorem ir_123_37 {h : hp} (H : IR h) : h 123 37 = 142 := H (123, 37, 142) (List.mem_of_getElem? (i := 137) rfl)
theorem ir_123_38 {h : hp} (H : IR h) : h 123 38 = 143 := H (123, 38, 143) (List.mem_of_getElem? (i := 138) rfl)
theorem ir_123_39 {h : hp} (H : IR h) : h 123 39 = 144 := H (123, 39, 144) (List.mem_of_getElem? (i := 139) rfl)
theorem ir_123_41 {h : hp} (H : IR h) : h 123 41 = 145 := H (123, 41, 145) (List.mem_of_getElem? (i := 140) rfl)
theorem ir_123_42 {h : hp} (H : IR h) : h 123 42 = 146 := H (123, 42, 146) (List.mem_of_getElem? (i := 141) rfl)
theorem ir_123_44 {h : hp} (H : IR h) : h 123 44 = 147 := H (123, 44, 147) (List.mem_of_getElem? (i := 142) rfl)
theorem ir_123_45 {h : hp} (H : IR h) : h 123 45 = 148 := H (123, 45, 148) (List.mem_of_getElem? (i := 143) rfl)
theorem ir_123_46 {h : hp} (H : IR h) : h 123 46 = 149 := H (123, 46, 149) (List.mem_of_getElem? (i := 144) rfl)
theorem ir_123_50 {h : hp} (H : IR h) : h 123 50 = 150 := H (123, 50, 150) (List.mem_of_getElem? (i := 145) rfl)
theorem ir_123_54 {h : hp} (H : IR h) : h 123 54 = 151 := H (123, 54, 151) (List.mem_of_getElem? (i := 146) rfl)
theorem ir_123_55 {h : hp} (H : IR h) : h 123 55 = 152 := H (123, 55, 152) (List.mem_of_getElem? (i := 147) rfl)
theorem ir_123_56 {h : hp} (H : IR h) : h 123 56 = 153 := H (123, 56, 153) (List.mem_of_getElem? (i := 148) rfl)
theorem ir_123_57 {h : hp} (H : IR h) : h 123 57 = 154 := H (123, 57, 154) (List.mem_of_getElem? (i := 149) rfl)
theorem ir_123_58 {h : hp} (H : IR h) : h 123 58 = 155 := H (123, 58, 155) (List.mem_of_getElem? (i := 150) rfl)
theorem ir_123_59 {h : hp} (H : IR h) : h 123 59 = 156 := H (123, 59, 156) (List.mem_of_getElem? (i := 151) rfl)
theorem ir_123_60 {h : hp} (H : IR h) : h 123 60 = 157 := H (123, 60, 157) (List.mem_of_getElem? (i := 152) rfl)
theorem ir_123_61 {h : hp} (H : IR h) : h 123 61 = 158 := H (123, 61, 158) (List.mem_of_getElem? (i := 153) rfl)
theorem ir_123_62 {h : hp} (H : IR h) : h 123 62 = 159 := H (123, 62, 159) (List.mem_of_getElem? (i := 154) rfl)
theorem px_w_id {x : Int} (h1 : -2147483648 ≤ x) (h2 : x < 2147483648) : px_w x = x := Int.bmod_eq_of_le_mul_two (by omega) (by omega)
theorem px_wl_id {x : Int} (h1 : -9223372036854775808 ≤ x) (h2 : x < 9223372036854775808) : px_wl x = x := Int.bmod_eq_of_le_mul_two (by omega) (by omega)
theorem px_wb_id {x : Int} (h1 : -128 ≤ x) (h2 : x < 128) : px_wb x = x := Int.bmod_eq_of_le_mul_two (by omega) (by omega)
theorem px_w_rng (x : Int) : -2147483648 ≤ px_w x ∧ px_w x < 2147483648 := ⟨Int.le_bmod (by decide), Int.bmod_lt (by decide)⟩
