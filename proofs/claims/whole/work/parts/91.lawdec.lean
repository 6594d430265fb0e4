/-! The law decodes, by pieces. -/
theorem px_chunks {α : Type} {P : α → Prop} : ∀ (n : Nat) (l : List α), l.length ≤ 25 * n → (∀ k, k < n → ∀ e ∈ (l.drop (25 * k)).take 25, P e) → ∀ e ∈ l, P e
  | 0, l, hl, _, e, he => by
    have : l = [] := List.length_eq_zero_iff.mp (by omega)
    rw [this] at he
    cases he
  | n + 1, l, hl, h, e, he => by
    rw [← List.take_append_drop 25 l] at he
    rcases List.mem_append.mp he with h1 | h1
    · exact h 0 (Nat.succ_pos n) e h1
    · refine px_chunks n (l.drop 25) (by rw [List.length_drop]; omega) (fun k hk e he => h (k + 1) (Nat.succ_lt_succ hk) e ?_) e h1
      rw [List.drop_drop] at he
      rw [show 25 * (k + 1) = 25 + 25 * k by omega]
      exact he
theorem dl_0 : ∀ e ∈ (mc_Law_law.drop (25 * 0)).take 25, decode code e.1 = .ok e.2 := by decide +kernel
theorem dl_1 : ∀ e ∈ (mc_Law_law.drop (25 * 1)).take 25, decode code e.1 = .ok e.2 := by decide +kernel
theorem dl_2 : ∀ e ∈ (mc_Law_law.drop (25 * 2)).take 25, decode code e.1 = .ok e.2 := by decide +kernel
theorem dl_3 : ∀ e ∈ (mc_Law_law.drop (25 * 3)).take 25, decode code e.1 = .ok e.2 := by decide +kernel
theorem dl_4 : ∀ e ∈ (mc_Law_law.drop (25 * 4)).take 25, decode code e.1 = .ok e.2 := by decide +kernel
theorem dl_5 : ∀ e ∈ (mc_Law_law.drop (25 * 5)).take 25, decode code e.1 = .ok e.2 := by decide +kernel
theorem dl_6 : ∀ e ∈ (mc_Law_law.drop (25 * 6)).take 25, decode code e.1 = .ok e.2 := by decide +kernel
theorem dl_7 : ∀ e ∈ (mc_Law_law.drop (25 * 7)).take 25, decode code e.1 = .ok e.2 := by decide +kernel
theorem dl_8 : ∀ e ∈ (mc_Law_law.drop (25 * 8)).take 25, decode code e.1 = .ok e.2 := by decide +kernel
theorem dl_9 : ∀ e ∈ (mc_Law_law.drop (25 * 9)).take 25, decode code e.1 = .ok e.2 := by decide +kernel
theorem dl_10 : ∀ e ∈ (mc_Law_law.drop (25 * 10)).take 25, decode code e.1 = .ok e.2 := by decide +kernel
theorem dl_11 : ∀ e ∈ (mc_Law_law.drop (25 * 11)).take 25, decode code e.1 = .ok e.2 := by decide +kernel
theorem dl_12 : ∀ e ∈ (mc_Law_law.drop (25 * 12)).take 25, decode code e.1 = .ok e.2 := by decide +kernel
theorem dl_13 : ∀ e ∈ (mc_Law_law.drop (25 * 13)).take 25, decode code e.1 = .ok e.2 := by decide +kernel
theorem dl_14 : ∀ e ∈ (mc_Law_law.drop (25 * 14)).take 25, decode code e.1 = .ok e.2 := by decide +kernel
theorem dl_15 : ∀ e ∈ (mc_Law_law.drop (25 * 15)).take 25, decode code e.1 = .ok e.2 := by decide +kernel
theorem dl_16 : ∀ e ∈ (mc_Law_law.drop (25 * 16)).take 25, decode code e.1 = .ok e.2 := by decide +kernel
theorem dl_17 : ∀ e ∈ (mc_Law_law.drop (25 * 17)).take 25, decode code e.1 = .ok e.2 := by decide +kernel
theorem dl_18 : ∀ e ∈ (mc_Law_law.drop (25 * 18)).take 25, decode code e.1 = .ok e.2 := by decide +kernel
theorem dl_19 : ∀ e ∈ (mc_Law_law.drop (25 * 19)).take 25, decode code e.1 = .ok e.2 := by decide +kernel
theorem dl_20 : ∀ e ∈ (mc_Law_law.drop (25 * 20)).take 25, decode code e.1 = .ok e.2 := by decide +kernel
theorem dl_21 : ∀ e ∈ (mc_Law_law.drop (25 * 21)).take 25, decode code e.1 = .ok e.2 := by decide +kernel
theorem dl_22 : ∀ e ∈ (mc_Law_law.drop (25 * 22)).take 25, decode code e.1 = .ok e.2 := by decide +kernel
theorem dl_23 : ∀ e ∈ (mc_Law_law.drop (25 * 23)).take 25, decode code e.1 = .ok e.2 := by decide +kernel
theorem dl_24 : ∀ e ∈ (mc_Law_law.drop (25 * 24)).take 25, decode code e.1 = .ok e.2 := by decide +kernel
theorem dl_25 : ∀ e ∈ (mc_Law_law.drop (25 * 25)).take 25, decode code e.1 = .ok e.2 := by decide +kernel
theorem dl_26 : ∀ e ∈ (mc_Law_law.drop (25 * 26)).take 25, decode code e.1 = .ok e.2 := by decide +kernel
theorem dl_27 : ∀ e ∈ (mc_Law_law.drop (25 * 27)).take 25, decode code e.1 = .ok e.2 := by decide +kernel
theorem dl_28 : ∀ e ∈ (mc_Law_law.drop (25 * 28)).take 25, decode code e.1 = .ok e.2 := by decide +kernel
theorem dl_29 : ∀ e ∈ (mc_Law_law.drop (25 * 29)).take 25, decode code e.1 = .ok e.2 := by decide +kernel
theorem dl_30 : ∀ e ∈ (mc_Law_law.drop (25 * 30)).take 25, decode code e.1 = .ok e.2 := by decide +kernel
theorem dl_31 : ∀ e ∈ (mc_Law_law.drop (25 * 31)).take 25, decode code e.1 = .ok e.2 := by decide +kernel
theorem dl_32 : ∀ e ∈ (mc_Law_law.drop (25 * 32)).take 25, decode code e.1 = .ok e.2 := by decide +kernel
theorem dl_33 : ∀ e ∈ (mc_Law_law.drop (25 * 33)).take 25, decode code e.1 = .ok e.2 := by decide +kernel
theorem dl_34 : ∀ e ∈ (mc_Law_law.drop (25 * 34)).take 25, decode code e.1 = .ok e.2 := by decide +kernel
theorem dl_35 : ∀ e ∈ (mc_Law_law.drop (25 * 35)).take 25, decode code e.1 = .ok e.2 := by decide +kernel
theorem dl_36 : ∀ e ∈ (mc_Law_law.drop (25 * 36)).take 25, decode code e.1 = .ok e.2 := by decide +kernel
theorem dl_37 : ∀ e ∈ (mc_Law_law.drop (25 * 37)).take 25, decode code e.1 = .ok e.2 := by decide +kernel
theorem dl_38 : ∀ e ∈ (mc_Law_law.drop (25 * 38)).take 25, decode code e.1 = .ok e.2 := by decide +kernel
theorem dl_39 : ∀ e ∈ (mc_Law_law.drop (25 * 39)).take 25, decode code e.1 = .ok e.2 := by decide +kernel
theorem dk_Law_law : ∀ e ∈ mc_Law_law, decode code e.1 = .ok e.2 := px_chunks 40 mc_Law_law (by decide +kernel) (fun k hk => match k, hk with
  | 0, _ => dl_0
  | 1, _ => dl_1
  | 2, _ => dl_2
  | 3, _ => dl_3
  | 4, _ => dl_4
  | 5, _ => dl_5
  | 6, _ => dl_6
  | 7, _ => dl_7
  | 8, _ => dl_8
  | 9, _ => dl_9
  | 10, _ => dl_10
  | 11, _ => dl_11
  | 12, _ => dl_12
  | 13, _ => dl_13
  | 14, _ => dl_14
  | 15, _ => dl_15
  | 16, _ => dl_16
  | 17, _ => dl_17
  | 18, _ => dl_18
  | 19, _ => dl_19
  | 20, _ => dl_20
  | 21, _ => dl_21
  | 22, _ => dl_22
  | 23, _ => dl_23
  | 24, _ => dl_24
  | 25, _ => dl_25
  | 26, _ => dl_26
  | 27, _ => dl_27
  | 28, _ => dl_28
  | 29, _ => dl_29
  | 30, _ => dl_30
  | 31, _ => dl_31
  | 32, _ => dl_32
  | 33, _ => dl_33
  | 34, _ => dl_34
  | 35, _ => dl_35
  | 36, _ => dl_36
  | 37, _ => dl_37
  | 38, _ => dl_38
  | 39, _ => dl_39
  | k + 40, h => absurd h (by omega))
