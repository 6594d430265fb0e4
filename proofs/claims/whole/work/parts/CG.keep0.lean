/-! The script's own cell is never written. -/
def G0 (s : Nat → Int) (w : pw) : Prop := (∃ l, w.1 = (99, 0) :: l) ∧ w.2 0 = s
theorem G0_wr {s : Nat → Int} {w : pw} (h : G0 s w) {r : Int} (hr : ¬ r.toNat = 0) (j : Nat) (v : Int) : G0 s (px_wr w r j v) := ⟨h.1, funext fun b => (if_neg fun z => hr z.1.symm).trans (congrFun h.2 b)⟩
theorem G0_al {s : Nat → Int} {w : pw} (h : G0 s w) (k : Nat × Nat) : G0 s (px_al w k) := by
  obtain ⟨⟨l, e⟩, h2⟩ := h
  refine ⟨⟨l ++ [k], ?_⟩, funext fun b => ?_⟩
  · show w.1 ++ [k] = _
    rw [e]
    rfl
  · refine (if_neg ?_).trans (congrFun h2 b)
    rw [e, List.length_cons]
    omega
theorem G0_al2 {s : Nat → Int} {w : pw} (h : G0 s w) (o i n k : Nat) : G0 s (px_al2 w o i n k) := by
  obtain ⟨⟨l, e⟩, h2⟩ := h
  refine ⟨⟨l ++ ((o, n) :: List.replicate n (i, k)), ?_⟩, funext fun b => ?_⟩
  · show w.1 ++ _ = _
    rw [e]
    rfl
  · refine (if_neg ?_).trans ((if_neg ?_).trans (congrFun h2 b))
    · rw [e, List.length_cons]
      omega
    · omega
theorem kd_0 {s : Nat → Int} {w : pw} (h : G0 s w) {r : Int} (e : r.toNat = 0) : px_kd w r = (99, 0) := by
  obtain ⟨⟨l, e2⟩, _⟩ := h
  unfold px_kd
  rw [e, e2]
  rfl
theorem ga_0 {s : Nat → Int} {w : pw} (h : G0 s w) {t : Nat} {r i : Int} (ht : t < 99) (g : px_ga w t r i = true) : ¬ r.toNat = 0 := fun e => by
  unfold px_ga at g
  rw [kd_0 h e, Bool.and_eq_true] at g
  have := Nat.eq_of_beq_eq_true g.1
  simp only at this
  omega
theorem go_0 {s : Nat → Int} {w : pw} (h : G0 s w) {c : Nat} {r : Int} (hc : c < 12) (g : px_go w r c = true) : ¬ r.toNat = 0 := fun e => by
  unfold px_go at g
  rw [kd_0 h e] at g
  have := Nat.eq_of_beq_eq_true g
  simp only at this
  omega
theorem find_all {α : Type} {P : α → Bool} : ∀ (l : List (Nat × α)) (n : Nat) (a : α), (l.all fun q => P q.2) = true → px_find l n = some a → P a = true
  | [], _, _, _, e => by cases e
  | (k, b) :: l, n, a, h, e => by
    rw [List.all_cons, Bool.and_eq_true] at h
    unfold px_find at e
    cases c : Nat.beq k n
    · rw [c] at e
      exact find_all l n a h.2 e
    · rw [c] at e
      have := Option.some.inj e
      rw [← this]
      exact h.1
theorem fld_lt : ∀ o : Nat, ((px_fld o).all fun q => Nat.blt q.2.1 12) = true
  | 0 => by decide
  | 1 => by decide
  | 2 => by decide
  | 3 => by decide
  | 4 => by decide
  | 5 => by decide
  | 6 => by decide
  | 7 => by decide
  | 8 => by decide
  | 9 => by decide
  | 10 => by decide
  | 11 => by decide
  | _ + 12 => rfl
def okA (s : Nat → Int) (a : px_A) : Prop := match a with
  | .inl (g, _, _, _, w) => g = true → G0 s w
  | .inr (.inl (g, _, w)) => g = true → G0 s w
  | .inr (.inr (.inl (_, _, _, _, _, _, _, w))) => G0 s w
  | .inr (.inr (.inr (.inl (_, _, _, _, _, w)))) => G0 s w
  | .inr (.inr (.inr (.inr (_, _, _, _, _, _, w)))) => G0 s w
def okO (s : Nat → Int) (o : Option px_A) : Prop := ∀ a, o = some a → okA s a
theorem ok_none {s : Nat → Int} : okO s none := fun _ e => by cases e
theorem ok_gd {s : Nat → Int} {g : Bool} {pc : Nat} {ls st : List pv} {w : pw} (h : g = true → G0 s w) : okO s (px_gd g pc ls st w) := fun a e => by
  have := Option.some.inj e
  subst this
  exact h
theorem ok_nx {s : Nat → Int} {pc : Nat} {ls st : List pv} {w : pw} (h : G0 s w) : okO s (px_nx pc ls st w) := fun a e => by
  have := Option.some.inj e
  subst this
  exact fun _ => h
theorem ok_bif {s : Nat → Int} {c : Bool} {o p : Option px_A} (h : okO s o) (h2 : okO s p) : okO s (bif c then o else p) := by
  cases c
  · exact h2
  · exact h
theorem ok_i1 {s : Nat → Int} {st : List pv} {k : Int → List pv → Option px_A} (h : ∀ x st, okO s (k x st)) : okO s (px_i1 st k) := by
  unfold px_i1
  split
  · exact h _ _
  · exact ok_none
theorem ok_i2 {s : Nat → Int} {st : List pv} {k : Int → Int → List pv → Option px_A} (h : ∀ x y st, okO s (k x y st)) : okO s (px_i2 st k) := by
  unfold px_i2
  split
  · exact h _ _ _
  · exact ok_none
theorem ok_l1 {s : Nat → Int} {st : List pv} {k : Int → List pv → Option px_A} (h : ∀ x st, okO s (k x st)) : okO s (px_l1 st k) := by
  unfold px_l1
  split
  · exact h _ _
  · exact ok_none
theorem ok_l2 {s : Nat → Int} {st : List pv} {k : Int → Int → List pv → Option px_A} (h : ∀ x y st, okO s (k x y st)) : okO s (px_l2 st k) := by
  unfold px_l2
  split
  · exact h _ _ _
  · exact ok_none
theorem ok_li {s : Nat → Int} {st : List pv} {k : Int → Int → List pv → Option px_A} (h : ∀ x y st, okO s (k x y st)) : okO s (px_li st k) := by
  unfold px_li
  split
  · exact h _ _ _
  · exact ok_none
theorem ok_r1 {s : Nat → Int} {st : List pv} {k : Int → List pv → Option px_A} (h : ∀ x st, okO s (k x st)) : okO s (px_r1 st k) := by
  unfold px_r1
  split
  · exact h _ _
  · exact ok_none
theorem ok_br {s : Nat → Int} {pc f c : Nat} {off x y : Int} {ls st : List pv} {w : pw} (h : G0 s w) : okO s (px_br pc off f ls w c x y st) := by
  unfold px_br
  split
  · intro a e
    have := Option.some.inj e
    subst this
    exact h
  · exact ok_none
theorem ok_ld {s : Nat → Int} {t i pc : Nat} {ls st : List pv} {w : pw} (h : G0 s w) : okO s (px_ld t i pc ls st w) := ok_bif (ok_nx h) ok_none
theorem ok_lda {s : Nat → Int} {i pc : Nat} {ls st : List pv} {w : pw} (h : G0 s w) : okO s (px_lda i pc ls st w) := ok_bif (ok_nx h) ok_none
theorem ok_frc {s : Nat → Int} : ∀ (ls : List pv) (k : List pv → Option px_A), (∀ ls, okO s (k ls)) → okO s (px_frc ls k)
  | [], k, h => h []
  | a :: l, k, h => ok_frc l (fun l => k (a :: l)) (fun l => h (a :: l))
theorem ok_sto {s : Nat → Int} {m : pm} {t i pc : Nat} {ls st : List pv} {w : pw} (h : G0 s w) : okO s (px_sto m t i pc ls st w) := by
  unfold px_sto
  split
  · exact ok_bif (ok_frc _ _ fun _ => ok_nx h) ok_none
  · exact ok_none
theorem ok_sta {s : Nat → Int} {m : pm} {i pc : Nat} {ls st : List pv} {w : pw} (h : G0 s w) : okO s (px_sta' m i pc ls st w) := by
  unfold px_sta'
  split
  · exact ok_bif (ok_frc _ _ fun _ => ok_nx h) ok_none
  · exact ok_none
theorem ok_inv {s : Nat → Int} {m : pm} {idx : Nat} {kinds : List Nat} {pc : Nat} {ls st : List pv} {w : pw} (h : G0 s w) : okO s (px_inv m idx kinds pc ls st w) := by
  unfold px_inv
  split
  · exact ok_bif (ok_r1 fun _ _ => ok_bif (ok_gd fun _ => h) ok_none) ok_none
  · refine ok_bif ?_ ok_none
    split
    · exact ok_bif (ok_nx h) ok_none
    · exact ok_none
  · refine ok_bif ?_ ok_none
    split
    · exact ok_bif (ok_gd fun _ => h) ok_none
    · exact ok_none
  · exact ok_bif (ok_i1 fun _ _ => ok_bif (ok_nx h) ok_none) ok_none
  · exact ok_bif (ok_i2 fun _ _ _ => ok_bif (ok_nx h) ok_none) ok_none
  · exact ok_bif (ok_i2 fun _ _ _ => ok_bif (ok_nx h) ok_none) ok_none
  · refine ok_bif ?_ ok_none
    split
    · refine ok_bif (fun a e => ?_) ok_none
      have := Option.some.inj e
      subst this
      exact h
    · exact ok_none
  · exact ok_none
set_option maxHeartbeats 4000000 in
theorem ok_act {s : Nat → Int} {w : pw} (h : G0 s w) (m : pm) (pc : Nat) (i : Instr) (n : Nat) (ls st : List pv) : okO s (px_act m pc i n ls st w) := by
  cases i with
  | iconst x => exact ok_gd fun _ => h
  | bipush x => exact ok_gd fun _ => h
  | sipush x => exact ok_gd fun _ => h
  | lconst x => exact ok_nx h
  | ldc x =>
    simp only [px_act]
    split
    · exact ok_bif (ok_nx h) ok_none
    · exact ok_none
  | ldc_w x =>
    simp only [px_act]
    split
    · exact ok_bif (ok_nx h) ok_none
    · exact ok_none
  | ldc2_w x =>
    simp only [px_act]
    split
    · exact ok_bif (ok_nx h) ok_none
    · exact ok_none
  | iload x => exact ok_ld h
  | iload_n x => exact ok_ld h
  | lload x => exact ok_ld h
  | lload_n x => exact ok_ld h
  | aload x => exact ok_lda h
  | aload_n x => exact ok_lda h
  | istore x => exact ok_sto h
  | istore_n x => exact ok_sto h
  | lstore x => exact ok_sto h
  | lstore_n x => exact ok_sto h
  | astore x => exact ok_sta h
  | astore_n x => exact ok_sta h
  | iinc x c => exact ok_bif (ok_frc _ _ fun _ => ok_nx h) ok_none
  | iadd => exact ok_i2 fun _ _ _ => ok_nx h
  | isub => exact ok_i2 fun _ _ _ => ok_nx h
  | imul => exact ok_i2 fun _ _ _ => ok_nx h
  | idiv => exact ok_i2 fun _ _ _ => ok_gd fun _ => h
  | irem => exact ok_i2 fun _ _ _ => ok_gd fun _ => h
  | ineg => exact ok_i1 fun _ _ => ok_nx h
  | iand => exact ok_i2 fun _ _ _ => ok_nx h
  | ior => exact ok_i2 fun _ _ _ => ok_nx h
  | ishl => exact ok_i2 fun _ _ _ => ok_nx h
  | ishr => exact ok_i2 fun _ _ _ => ok_nx h
  | iushr => exact ok_i2 fun _ _ _ => ok_nx h
  | ladd => exact ok_l2 fun _ _ _ => ok_nx h
  | lsub => exact ok_l2 fun _ _ _ => ok_nx h
  | lmul => exact ok_l2 fun _ _ _ => ok_nx h
  | ldiv => exact ok_l2 fun _ _ _ => ok_gd fun _ => h
  | lrem => exact ok_l2 fun _ _ _ => ok_gd fun _ => h
  | land => exact ok_l2 fun _ _ _ => ok_nx h
  | lshl => exact ok_li fun _ _ _ => ok_nx h
  | lshr => exact ok_li fun _ _ _ => ok_nx h
  | lushr => exact ok_li fun _ _ _ => ok_nx h
  | lcmp => exact ok_l2 fun _ _ _ => ok_nx h
  | i2l => exact ok_i1 fun _ _ => ok_nx h
  | l2i => exact ok_l1 fun _ _ => ok_nx h
  | i2b => exact ok_i1 fun _ _ => ok_nx h
  | dup =>
    simp only [px_act]
    split
    · exact ok_bif ok_none (ok_nx h)
    · exact ok_none
  | dup2 =>
    simp only [px_act]
    split
    · exact ok_nx h
    · exact ok_nx h
    · exact ok_none
  | pop =>
    simp only [px_act]
    split
    · exact ok_bif ok_none (ok_nx h)
    · exact ok_none
  | goto off =>
    simp only [px_act]
    split
    · exact ok_nx h
    · exact ok_none
  | ifCond c off => exact ok_i1 fun _ _ => ok_br h
  | if_icmp c off => exact ok_i2 fun _ _ _ => ok_br h
  | tableswitch d lo hi offs =>
    refine ok_i1 fun x st => ?_
    split
    · refine ok_bif (fun a e => ?_) ok_none
      have := Option.some.inj e
      subst this
      exact h
    · exact ok_none
  | getfield x =>
    refine ok_r1 fun r st => ?_
    split
    · exact ok_gd fun _ => h
    · exact ok_none
  | putfield x =>
    simp only [px_act]
    split
    · split
      · rename_i c j t' f e
        refine ok_bif (ok_gd fun g => ?_) ok_none
        have hc := find_all (P := fun q => Nat.blt q.1 12) (px_fld (px_own m)) x _ (fld_lt _) e
        exact G0_wr h (go_0 h (Nat.blt_eq.mp hc) g) _ _
      · exact ok_none
    · exact ok_none
  | getstatic x =>
    simp only [px_act]
    split
    · exact ok_nx h
    · exact ok_none
  | arraylength =>
    simp only [px_act]
    split
    · exact ok_gd fun _ => h
    · exact ok_nx h
    · exact ok_nx h
    · exact ok_none
  | iaload =>
    simp only [px_act]
    split
    · exact ok_gd fun _ => h
    · exact ok_gd fun _ => h
    · exact ok_gd fun _ => h
    · exact ok_none
  | baload =>
    simp only [px_act]
    split
    · exact ok_gd fun _ => h
    · exact ok_none
  | laload =>
    simp only [px_act]
    split
    · exact ok_gd fun _ => h
    · exact ok_none
  | aaload =>
    simp only [px_act]
    split
    · exact ok_gd fun _ => h
    · exact ok_none
  | iastore =>
    simp only [px_act]
    split
    · exact ok_gd fun g => G0_wr h (ga_0 h (by decide) g) _ _
    · exact ok_none
  | bastore =>
    simp only [px_act]
    split
    · refine ok_gd fun g => G0_wr h ?_ _ _
      unfold px_gb at g
      rw [Bool.or_eq_true] at g
      rcases g with g | g
      · rw [Bool.and_eq_true] at g
        exact ga_0 (t := 2) h (by decide) g.1
      · rw [Bool.and_eq_true] at g
        exact ga_0 (t := 3) h (by decide) g.1
    · exact ok_none
  | lastore =>
    simp only [px_act]
    split
    · exact ok_gd fun g => G0_wr h (ga_0 h (by decide) g) _ _
    · exact ok_none
  | aastore =>
    simp only [px_act]
    split
    · refine ok_gd fun g => G0_wr h ?_ _ _
      rw [Bool.and_eq_true] at g
      exact ga_0 h (by decide) g.1
    · exact ok_none
  | new x =>
    simp only [px_act]
    split
    · exact ok_nx (G0_al h _)
    · exact ok_none
  | newarray a =>
    refine ok_i1 fun x st => ?_
    split
    · exact ok_gd fun _ => G0_al h _
    · exact ok_none
  | anewarray x =>
    refine ok_i1 fun x st => ?_
    split
    · exact ok_gd fun _ => G0_al h _
    · exact ok_none
  | multianewarray x d =>
    refine ok_i2 fun a b st => ?_
    split
    · exact ok_bif (ok_gd fun _ => G0_al2 h _ _ _ _) ok_none
    · exact ok_none
  | invokestatic x => exact ok_inv h
  | invokevirtual x => exact ok_inv h
  | invokespecial x => exact ok_inv h
  | ireturn =>
    simp only [px_act]
    split
    · refine ok_bif (fun a e => ?_) (ok_bif (fun a e => ?_) ok_none)
      · have := Option.some.inj e
        subst this
        exact fun _ => h
      · have := Option.some.inj e
        subst this
        exact fun _ => h
    · exact ok_none
  | lreturn =>
    simp only [px_act]
    split
    · refine ok_bif (fun a e => ?_) ok_none
      have := Option.some.inj e
      subst this
      exact fun _ => h
    · exact ok_none
  | return_ =>
    simp only [px_act]
    split
    · refine ok_bif (fun a e => ?_) ok_none
      have := Option.some.inj e
      subst this
      exact fun _ => h
    · exact ok_none
  | _ => exact ok_none
def okF (s : Nat → Int) (F : pq → Option pr) : Prop := ∀ q r, G0 s q.2.2.2.2 → F q = some r → G0 s r.2
def okK (s : Nat → Int) (K : Nat → List pv → List pv → pw → Option pr) : Prop := ∀ pc ls st w r, G0 s w → K pc ls st w = some r → G0 s r.2
theorem ok_j {s : Nat → Int} {F : pq → Option pr} {m : pm} {K : Nat → List pv → List pv → pw → Option pr} (hF : okF s F) (hK : okK s K) {pc : Nat} {ls st : List pv} {w : pw} {r : pr} (h : G0 s w) (e : px_j F m K pc ls st w = some r) : G0 s r.2 := by
  unfold px_j at e
  cases c : px_mem (px_lab m) pc
  · rw [c] at e
    exact hK _ _ _ _ _ h e
  · rw [c] at e
    exact hF _ _ h e
theorem px_ite_or {p : Prop} [Decidable p] {A B : Option pr} {r : pr} (h : (if p then A else B) = some r) : A = some r ∨ B = some r := by
  by_cases e : p
  · rw [if_pos e] at h
    exact Or.inl h
  · rw [if_neg e] at h
    exact Or.inr h
theorem px_if_or {c : Nat} {x y : Int} {A B : Option pr} {r : pr} (h : px_if c x y A B = some r) : A = some r ∨ B = some r :=
  match c, h with
  | 0, h => px_ite_or (p := x = y) h
  | 1, h => (px_ite_or (p := x = y) h).symm
  | 2, h => px_ite_or (p := x < y) h
  | 3, h => (px_ite_or (p := x < y) h).symm
  | 4, h => px_ite_or (p := y < x) h
  | _ + 5, h => (px_ite_or (p := y < x) h).symm
theorem ok_sw {s : Nat → Int} {x : Int} {B : Option pr} {J : Nat → Option pr} {r : pr} (hb : B = some r → G0 s r.2) (hj : ∀ t, J t = some r → G0 s r.2) : ∀ l, px_sw x B J l = some r → G0 s r.2
  | [], h => hb h
  | (k, t) :: l, h => by
    unfold px_sw at h
    rcases px_ite_or h with h | h
    · exact hj t h
    · exact ok_sw hb hj l h
theorem ok_on {s : Nat → Int} {F : pq → Option pr} {m : pm} {K : Nat → List pv → List pv → pw → Option pr} (hF : okF s F) (hK : okK s K) {a : px_A} {r : pr} (h : okA s a) (e : px_on F m K a = some r) : G0 s r.2 := by
  rcases a with ⟨g, pc, ls, st, w⟩ | ⟨g, x, w⟩ | ⟨c, x, y, t, f, ls, st, w⟩ | ⟨x, l, d, ls, st, w⟩ | ⟨g, t, as, pc, ls, st, w⟩
  · simp only [px_on] at e
    cases g
    · simp at e
    · simp only [if_pos] at e
      exact ok_j hF hK (h rfl) e
  · simp only [px_on] at e
    cases g
    · simp at e
    · simp only [if_pos] at e
      have := Option.some.inj e
      subst this
      exact h rfl
  · rcases px_if_or e with e | e
    · exact ok_j hF hK h e
    · exact ok_j hF hK h e
  · exact ok_sw (fun e => ok_j hF hK h e) (fun t e => ok_j hF hK h e) l e
  · simp only [px_on] at e
    cases g
    · simp at e
    · simp only [if_pos] at e
      cases c : F (t, 0, px_ent t as, [], w) with
      | none => rw [c] at e; simp at e
      | some r1 =>
        rw [c] at e
        simp only [Option.bind_some] at e
        have h : G0 s w := h
        exact ok_j hF hK (hF (t, 0, px_ent t as, [], w) r1 h c) e
theorem ok_blk {s : Nat → Int} {F : pq → Option pr} (hF : okF s F) (m : pm) : ∀ k : Nat, okK s (px_blk F m k)
  | 0 => fun _ _ _ _ _ _ e => by cases e
  | k + 1 => fun pc ls st w r h e => by
    have e : px_s1 F m (px_blk F m k) pc ls st w = some r := e
    unfold px_s1 at e
    cases c : px_find (px_cod m) pc with
    | none => rw [c] at e; cases e
    | some x =>
      obtain ⟨i, n⟩ := x
      rw [c] at e
      simp only at e
      cases d : px_act m pc i n ls st w with
      | none => rw [d] at e; cases e
      | some a =>
        rw [d] at e
        exact ok_on hF (ok_blk hF m k) (ok_act h m pc i n ls st a d) e
theorem ok_run {s : Nat → Int} : ∀ n : Nat, okF s (px_run n)
  | 0 => fun _ _ _ e => by cases e
  | n + 1 => fun q r h e => by
    rw [px_run_s] at e
    exact ok_blk (ok_run n) _ _ _ _ _ _ _ h e
/-- no run writes the script -/
theorem keep0 {m : pm} {pc : Nat} {ls st : List pv} {h g : hp} {v : Int} (e : px_R (m, pc, ls, st, (K0, h)) = some (v, (K0, g))) : g 0 = h 0 := by
  obtain ⟨n, hn⟩ := px_R_iff.mp e
  exact (ok_run (s := h 0) n _ _ ⟨⟨_, rfl⟩, rfl⟩ hn).2
