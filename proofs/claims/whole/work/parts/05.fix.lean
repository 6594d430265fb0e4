/-! The machine without a bound: what some number of rounds answers. -/
def px_le (F G : pq → Option pr) : Prop := ∀ q r, F q = some r → G q = some r
theorem px_ite_m {p : Prop} [Decidable p] {A B A' B' : Option pr} {r : pr} (ha : A = some r → A' = some r) (hb : B = some r → B' = some r) (h : (if p then A else B) = some r) : (if p then A' else B') = some r := by
  by_cases e : p
  · rw [if_pos e] at h ⊢
    exact ha h
  · rw [if_neg e] at h ⊢
    exact hb h
theorem px_ite_c {p : Prop} [Decidable p] {A B : Option pr} {A' B' : Nat → Option pr} {r : pr} (ha : A = some r → ∃ n, A' n = some r) (hb : B = some r → ∃ n, B' n = some r) (h : (if p then A else B) = some r) : ∃ n, (if p then A' n else B' n) = some r := by
  by_cases e : p
  · rw [if_pos e] at h
    obtain ⟨n, hn⟩ := ha h
    exact ⟨n, by rw [if_pos e]; exact hn⟩
  · rw [if_neg e] at h
    obtain ⟨n, hn⟩ := hb h
    exact ⟨n, by rw [if_neg e]; exact hn⟩
theorem px_if_m {c : Nat} {x y : Int} {A B A' B' : Option pr} {r : pr} (ha : A = some r → A' = some r) (hb : B = some r → B' = some r) (h : px_if c x y A B = some r) : px_if c x y A' B' = some r :=
  match c, h with
  | 0, h => px_ite_m (p := x = y) ha hb h
  | 1, h => px_ite_m (p := x = y) hb ha h
  | 2, h => px_ite_m (p := x < y) ha hb h
  | 3, h => px_ite_m (p := x < y) hb ha h
  | 4, h => px_ite_m (p := y < x) ha hb h
  | _ + 5, h => px_ite_m (p := y < x) hb ha h
theorem px_sw_m {x : Int} {B B' : Option pr} {J J' : Nat → Option pr} {r : pr} (hb : B = some r → B' = some r) (hj : ∀ t, J t = some r → J' t = some r) : ∀ l, px_sw x B J l = some r → px_sw x B' J' l = some r
  | [], h => hb h
  | (k, t) :: l, h => by
    unfold px_sw at h ⊢
    split at h
    · rename_i e
      rw [if_pos e]
      exact hj t h
    · rename_i e
      rw [if_neg e]
      exact px_sw_m hb hj l h
theorem px_j_m {F G : pq → Option pr} {m : pm} {K K' : Nat → List pv → List pv → pw → Option pr} (hF : px_le F G) (hK : ∀ pc ls st w r, K pc ls st w = some r → K' pc ls st w = some r) {pc : Nat} {ls st : List pv} {w : pw} {r : pr} (h : px_j F m K pc ls st w = some r) : px_j G m K' pc ls st w = some r := by
  unfold px_j at h ⊢
  cases e : px_mem (px_lab m) pc
  · rw [e] at h
    exact hK _ _ _ _ _ h
  · rw [e] at h
    exact hF _ _ h
theorem px_on_m {F G : pq → Option pr} {m : pm} {K K' : Nat → List pv → List pv → pw → Option pr} (hF : px_le F G) (hK : ∀ pc ls st w r, K pc ls st w = some r → K' pc ls st w = some r) {a : px_A} {r : pr} (h : px_on F m K a = some r) : px_on G m K' a = some r := by
  rcases a with ⟨g, pc, ls, st, w⟩ | ⟨g, x, w⟩ | ⟨c, x, y, t, f, ls, st, w⟩ | ⟨x, l, d, ls, st, w⟩ | ⟨g, t, as, pc, ls, st, w⟩
  · simp only [px_on] at h ⊢
    cases g
    · simp at h
    · simp only [if_pos] at h ⊢
      exact px_j_m hF hK h
  · exact h
  · exact px_if_m (px_j_m hF hK) (px_j_m hF hK) h
  · exact px_sw_m (px_j_m hF hK) (fun t => px_j_m hF hK) l h
  · simp only [px_on] at h ⊢
    cases g
    · simp at h
    · simp only [if_pos] at h ⊢
      cases e : F (t, 0, px_ent t as, [], w) with
      | none => rw [e] at h; simp at h
      | some r1 =>
        rw [e] at h
        rw [hF _ _ e]
        simp only [Option.bind_some] at h ⊢
        exact px_j_m hF hK h
theorem px_s1_m {F G : pq → Option pr} {m : pm} {K K' : Nat → List pv → List pv → pw → Option pr} (hF : px_le F G) (hK : ∀ pc ls st w r, K pc ls st w = some r → K' pc ls st w = some r) {pc : Nat} {ls st : List pv} {w : pw} {r : pr} (h : px_s1 F m K pc ls st w = some r) : px_s1 G m K' pc ls st w = some r := by
  unfold px_s1 at h ⊢
  cases e : px_find (px_cod m) pc with
  | none => rw [e] at h; cases h
  | some x =>
    obtain ⟨i, n⟩ := x
    rw [e] at h
    simp only at h ⊢
    cases e2 : px_act m pc i n ls st w with
    | none => rw [e2] at h; cases h
    | some a =>
      rw [e2] at h
      exact px_on_m hF hK h
theorem px_blk_m {F G : pq → Option pr} (hF : px_le F G) (m : pm) : ∀ (k pc : Nat) (ls st : List pv) (w : pw) (r : pr), px_blk F m k pc ls st w = some r → px_blk G m k pc ls st w = some r
  | 0, _, _, _, _, _, h => by cases h
  | k + 1, _, _, _, _, _, h => px_s1_m (K := px_blk F m k) (K' := px_blk G m k) hF (px_blk_m hF m k) h
theorem px_run_s (n : Nat) (q : pq) : px_run (n + 1) q = px_blk (px_run n) q.1 400 q.2.1 q.2.2.1 q.2.2.2.1 q.2.2.2.2 := rfl
theorem px_run_m : ∀ n, px_le (px_run n) (px_run (n + 1))
  | 0 => fun _ _ h => by cases h
  | n + 1 => fun q r h => by
    rw [px_run_s] at h ⊢
    exact px_blk_m (px_run_m n) _ _ _ _ _ _ _ h
theorem px_run_mm {n m : Nat} (h : n ≤ m) : px_le (px_run n) (px_run m) := by
  induction h with
  | refl => exact fun _ _ h => h
  | step _ ih => exact fun q r hq => px_run_m _ q r (ih q r hq)
theorem px_run_u {n m : Nat} {q : pq} {r r' : pr} (h : px_run n q = some r) (h' : px_run m q = some r') : r = r' := by
  have h1 := px_run_mm (Nat.le_max_left n m) q r h
  have h2 := px_run_mm (Nat.le_max_right n m) q r' h'
  rw [h1] at h2
  exact Option.some.inj h2
noncomputable def px_R (q : pq) : Option pr := @dite (Option pr) (∃ (r : pr) (n : Nat), px_run n q = some r) (Classical.propDecidable _) (fun h => some (Classical.choose h)) (fun _ => none)
theorem px_R_iff {q : pq} {r : pr} : px_R q = some r ↔ ∃ n, px_run n q = some r := by
  unfold px_R
  by_cases h : ∃ (r : pr) (n : Nat), px_run n q = some r
  · rw [dif_pos h]
    constructor
    · intro e
      cases e
      exact Classical.choose_spec h
    · rintro ⟨n, e⟩
      obtain ⟨m, e2⟩ := Classical.choose_spec h
      exact congrArg some (px_run_u e2 e)
  · rw [dif_neg h]
    constructor
    · intro e; cases e
    · rintro ⟨n, e⟩; exact absurd ⟨r, n, e⟩ h
theorem px_j_c {m : pm} {K : Nat → List pv → List pv → pw → Option pr} {K' : Nat → Nat → List pv → List pv → pw → Option pr} (hK : ∀ pc ls st w r, K pc ls st w = some r → ∃ n, K' n pc ls st w = some r) {pc : Nat} {ls st : List pv} {w : pw} {r : pr} (h : px_j px_R m K pc ls st w = some r) : ∃ n, px_j (px_run n) m (K' n) pc ls st w = some r := by
  unfold px_j at h ⊢
  cases e : px_mem (px_lab m) pc
  · rw [e] at h
    exact hK _ _ _ _ _ h
  · rw [e] at h
    exact px_R_iff.mp h
theorem px_sw_c {x : Int} {B : Option pr} {J : Nat → Option pr} {B' : Nat → Option pr} {J' : Nat → Nat → Option pr} {r : pr} (hb : B = some r → ∃ n, B' n = some r) (hj : ∀ t, J t = some r → ∃ n, J' n t = some r) : ∀ l, px_sw x B J l = some r → ∃ n, px_sw x (B' n) (J' n) l = some r
  | [], h => hb h
  | (k, t) :: l, h => by
    unfold px_sw at h ⊢
    split at h
    · rename_i e
      obtain ⟨n, hn⟩ := hj t h
      exact ⟨n, by rw [if_pos e]; exact hn⟩
    · rename_i e
      obtain ⟨n, hn⟩ := px_sw_c hb hj l h
      exact ⟨n, by rw [if_neg e]; exact hn⟩
theorem px_if_c {c : Nat} {x y : Int} {A B : Option pr} {A' B' : Nat → Option pr} {r : pr} (ha : A = some r → ∃ n, A' n = some r) (hb : B = some r → ∃ n, B' n = some r) (h : px_if c x y A B = some r) : ∃ n, px_if c x y (A' n) (B' n) = some r :=
  match c, h with
  | 0, h => px_ite_c (p := x = y) ha hb h
  | 1, h => px_ite_c (p := x = y) hb ha h
  | 2, h => px_ite_c (p := x < y) ha hb h
  | 3, h => px_ite_c (p := x < y) hb ha h
  | 4, h => px_ite_c (p := y < x) ha hb h
  | _ + 5, h => px_ite_c (p := y < x) hb ha h
theorem px_on_c {m : pm} {K : Nat → List pv → List pv → pw → Option pr} {K' : Nat → Nat → List pv → List pv → pw → Option pr} (hM : ∀ a b, a ≤ b → ∀ pc ls st w r, K' a pc ls st w = some r → K' b pc ls st w = some r) (hK : ∀ pc ls st w r, K pc ls st w = some r → ∃ n, K' n pc ls st w = some r) {a : px_A} {r : pr} (h : px_on px_R m K a = some r) : ∃ n, px_on (px_run n) m (K' n) a = some r := by
  rcases a with ⟨g, pc, ls, st, w⟩ | ⟨g, x, w⟩ | ⟨c, x, y, t, f, ls, st, w⟩ | ⟨x, l, d, ls, st, w⟩ | ⟨g, t, as, pc, ls, st, w⟩
  · simp only [px_on] at h ⊢
    cases g
    · simp at h
    · simp only [if_pos] at h ⊢
      exact px_j_c hK h
  · exact ⟨0, h⟩
  · exact px_if_c (A' := fun n => px_j (px_run n) m (K' n) t ls st w) (B' := fun n => px_j (px_run n) m (K' n) f ls st w) (px_j_c hK) (px_j_c hK) h
  · exact px_sw_c (B' := fun n => px_j (px_run n) m (K' n) d ls st w) (J' := fun n t => px_j (px_run n) m (K' n) t ls st w) (px_j_c hK) (fun t => px_j_c hK) l h
  · simp only [px_on] at h ⊢
    cases g
    · simp at h
    · simp only [if_pos] at h ⊢
      cases e : px_R (t, 0, px_ent t as, [], w) with
      | none => rw [e] at h; simp at h
      | some r1 =>
        rw [e] at h
        simp only [Option.bind_some] at h
        obtain ⟨n1, e1⟩ := px_R_iff.mp e
        obtain ⟨n2, e2⟩ := px_j_c hK h
        refine ⟨max n1 n2, ?_⟩
        rw [px_run_mm (Nat.le_max_left n1 n2) _ _ e1]
        simp only [Option.bind_some]
        exact px_j_m (px_run_mm (Nat.le_max_right n1 n2)) (hM _ _ (Nat.le_max_right n1 n2)) e2
theorem px_s1_c {m : pm} {K : Nat → List pv → List pv → pw → Option pr} {K' : Nat → Nat → List pv → List pv → pw → Option pr} (hM : ∀ a b, a ≤ b → ∀ pc ls st w r, K' a pc ls st w = some r → K' b pc ls st w = some r) (hK : ∀ pc ls st w r, K pc ls st w = some r → ∃ n, K' n pc ls st w = some r) {pc : Nat} {ls st : List pv} {w : pw} {r : pr} (h : px_s1 px_R m K pc ls st w = some r) : ∃ n, px_s1 (px_run n) m (K' n) pc ls st w = some r := by
  unfold px_s1 at h ⊢
  cases e : px_find (px_cod m) pc with
  | none => rw [e] at h; cases h
  | some x =>
    obtain ⟨i, n⟩ := x
    rw [e] at h
    simp only at h ⊢
    cases e2 : px_act m pc i n ls st w with
    | none => rw [e2] at h; cases h
    | some a =>
      rw [e2] at h
      exact px_on_c hM hK h
theorem px_blk_c (m : pm) : ∀ (k pc : Nat) (ls st : List pv) (w : pw) (r : pr), px_blk px_R m k pc ls st w = some r → ∃ n, px_blk (px_run n) m k pc ls st w = some r
  | 0, _, _, _, _, _, h => by cases h
  | k + 1, _, _, _, _, _, h => px_s1_c (K := px_blk px_R m k) (K' := fun n => px_blk (px_run n) m k) (fun _ _ hab pc ls st w r => px_blk_m (px_run_mm hab) m k pc ls st w r) (px_blk_c m k) h
theorem px_Rn {n : Nat} {q : pq} {r : pr} (h : px_run n q = some r) : px_R q = some r := px_R_iff.mpr ⟨n, h⟩
/-- the machine's own equation -/
theorem px_Req (m : pm) (pc : Nat) (ls st : List pv) (w : pw) : px_R (m, pc, ls, st, w) = px_blk px_R m 400 pc ls st w := by
  cases e : px_blk px_R m 400 pc ls st w with
  | some r =>
    obtain ⟨n, hn⟩ := px_blk_c m 400 pc ls st w r e
    exact px_R_iff.mpr ⟨n + 1, (px_run_s n (m, pc, ls, st, w)).trans hn⟩
  | none =>
    cases e2 : px_R (m, pc, ls, st, w) with
    | none => rfl
    | some r =>
      obtain ⟨n, hn⟩ := px_R_iff.mp e2
      cases n with
      | zero => cases hn
      | succ n =>
        have h2 := px_blk_m (G := px_R) (fun q r h => px_Rn h) m 400 pc ls st w r ((px_run_s n (m, pc, ls, st, w)).symm.trans hn)
        rw [e] at h2
        cases h2
