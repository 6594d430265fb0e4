/-! All instructions together; then runs. -/
def px_aw (a : px_A) : pw := match a with
  | .inl (_, _, _, _, w) => w
  | .inr (.inl (_, _, w)) => w
  | .inr (.inr (.inl (_, _, _, _, _, _, _, w))) => w
  | .inr (.inr (.inr (.inl (_, _, _, _, _, w)))) => w
  | .inr (.inr (.inr (.inr (_, _, _, _, _, _, w)))) => w
def px_sh (k : Nat) (a : px_A) : Prop := match k with
  | 0 => ∃ q, a = .inl q
  | 1 => ∃ q, a = .inr (.inr (.inl q))
  | 2 => ∃ q, a = .inr (.inr (.inr (.inl q)))
  | 3 => (∃ q, a = .inl q) ∨ ∃ q, a = .inr (.inr (.inr (.inr q)))
  | _ => ∃ q, a = .inr (.inl q)
def px_P (k : Nat) (o : Option px_A) (w : pw) : Prop := ∀ a, o = some a → px_sh k a ∧ ∃ ks, (px_aw a).1 = w.1 ++ ks
theorem aw_none {k : Nat} {w : pw} : px_P k none w := fun a h => by cases h
theorem aw_nx {pc : Nat} {ls st : List pv} {w : pw} : px_P 0 (px_nx pc ls st w) w := fun a h => by cases h; exact ⟨⟨_, rfl⟩, [], (List.append_nil _).symm⟩
theorem aw_gd {g : Bool} {pc : Nat} {ls st : List pv} {w : pw} : px_P 0 (px_gd g pc ls st w) w := fun a h => by cases h; exact ⟨⟨_, rfl⟩, [], (List.append_nil _).symm⟩
theorem aw_gdw {g : Bool} {pc : Nat} {ls st : List pv} {w : pw} {r : Int} {j : Nat} {x : Int} : px_P 0 (px_gd g pc ls st (px_wr w r j x)) w := fun a h => by cases h; exact ⟨⟨_, rfl⟩, [], (List.append_nil _).symm⟩
theorem aw_nxa {pc : Nat} {ls st : List pv} {w : pw} {kd : Nat × Nat} : px_P 0 (px_nx pc ls st (px_al w kd)) w := fun a h => by cases h; exact ⟨⟨_, rfl⟩, _, rfl⟩
theorem aw_gda {g : Bool} {pc : Nat} {ls st : List pv} {w : pw} {kd : Nat × Nat} : px_P 0 (px_gd g pc ls st (px_al w kd)) w := fun a h => by cases h; exact ⟨⟨_, rfl⟩, _, rfl⟩
theorem aw_gda2 {g : Bool} {pc : Nat} {ls st : List pv} {w : pw} {o i n k : Nat} : px_P 0 (px_gd g pc ls st (px_al2 w o i n k)) w := fun a h => by cases h; exact ⟨⟨_, rfl⟩, _, rfl⟩
theorem aw_bif {k : Nat} {g : Bool} {x : Option px_A} {w : pw} (h : px_P k x w) : px_P k (bif g then x else none) w := fun a ha => h a (px_bif ha).2
theorem aw_i1 {q : Nat} {st : List pv} {k : Int → List pv → Option px_A} {w : pw} (h : ∀ x st, px_P q (k x st) w) : px_P q (px_i1 st k) w := fun a ha => by
  obtain ⟨x, st', -, h2⟩ := px_i1_s ha
  exact h _ _ a h2
theorem aw_i2 {q : Nat} {st : List pv} {k : Int → Int → List pv → Option px_A} {w : pw} (h : ∀ x y st, px_P q (k x y st) w) : px_P q (px_i2 st k) w := fun a ha => by
  obtain ⟨x, y, st', -, h2⟩ := px_i2_s ha
  exact h _ _ _ a h2
theorem aw_l1 {q : Nat} {st : List pv} {k : Int → List pv → Option px_A} {w : pw} (h : ∀ x st, px_P q (k x st) w) : px_P q (px_l1 st k) w := fun a ha => by
  obtain ⟨x, st', -, h2⟩ := px_l1_s ha
  exact h _ _ a h2
theorem aw_l2 {q : Nat} {st : List pv} {k : Int → Int → List pv → Option px_A} {w : pw} (h : ∀ x y st, px_P q (k x y st) w) : px_P q (px_l2 st k) w := fun a ha => by
  obtain ⟨x, y, st', -, h2⟩ := px_l2_s ha
  exact h _ _ _ a h2
theorem aw_li {q : Nat} {st : List pv} {k : Int → Int → List pv → Option px_A} {w : pw} (h : ∀ x y st, px_P q (k x y st) w) : px_P q (px_li st k) w := fun a ha => by
  obtain ⟨x, y, st', -, h2⟩ := px_li_s ha
  exact h _ _ _ a h2
theorem aw_r1 {q : Nat} {st : List pv} {k : Int → List pv → Option px_A} {w : pw} (h : ∀ x st, px_P q (k x st) w) : px_P q (px_r1 st k) w := fun a ha => by
  obtain ⟨x, st', -, h2⟩ := px_r1_s ha
  exact h _ _ a h2
theorem aw_br {pc f : Nat} {off : Int} {ls : List pv} {w : pw} {c : Nat} {x y : Int} {st : List pv} : px_P 1 (px_br pc off f ls w c x y st) w := fun a ha => by
  unfold px_br at ha
  split at ha
  · cases ha
    exact ⟨⟨_, rfl⟩, [], (List.append_nil _).symm⟩
  · cases ha
theorem aw_03 {o : Option px_A} {w : pw} (h : px_P 0 o w) : px_P 3 o w := fun a ha => ⟨Or.inl (h a ha).1, (h a ha).2⟩
theorem aw_inv {m : pm} {idx : Nat} {kinds : List Nat} {pc : Nat} {ls st : List pv} {w : pw} : px_P 3 (px_inv m idx kinds pc ls st w) w := by
  unfold px_inv
  split
  · exact aw_bif (aw_r1 fun _ _ => aw_bif (aw_03 aw_gd))
  · refine aw_bif ?_
    split
    · exact aw_bif (aw_03 aw_nx)
    · exact aw_none
  · refine aw_bif ?_
    split
    · exact aw_bif (aw_03 aw_gd)
    · exact aw_none
  · exact aw_bif (aw_i1 fun _ _ => aw_bif (aw_03 aw_nx))
  · exact aw_bif (aw_i2 fun _ _ _ => aw_bif (aw_03 aw_nx))
  · exact aw_bif (aw_i2 fun _ _ _ => aw_bif (aw_03 aw_nx))
  · refine aw_bif ?_
    split
    · refine aw_bif fun a h => ?_
      cases h
      exact ⟨Or.inr ⟨_, rfl⟩, [], (List.append_nil _).symm⟩
    · exact aw_none
  · exact aw_none
theorem px_if_t {c : Nat} {x y : Int} {A B : Option pr} (h : px_ifp c x y) : px_if c x y A B = A :=
  match c, h with
  | 0, h => if_pos h
  | 1, h => if_neg h
  | 2, h => if_pos h
  | 3, h => if_neg h
  | 4, h => if_pos h
  | _ + 5, h => if_neg h
theorem px_if_f {c : Nat} {x y : Int} {A B : Option pr} (h : ¬ px_ifp c x y) : px_if c x y A B = B :=
  match c, h with
  | 0, h => if_neg h
  | 1, h => if_pos (Classical.not_not.mp h)
  | 2, h => if_neg h
  | 3, h => if_pos (Classical.not_not.mp h)
  | 4, h => if_neg h
  | _ + 5, h => if_pos (Classical.not_not.mp h)
def px_knd (i : Instr) : Nat := match i with
  | .ifCond _ _ => 1
  | .if_icmp _ _ => 1
  | .tableswitch _ _ _ _ => 2
  | .invokestatic _ => 3
  | .invokevirtual _ => 3
  | .invokespecial _ => 3
  | .ireturn => 4
  | .lreturn => 4
  | .return_ => 4
  | _ => 0
theorem px_act_sh {M : pm} {pc : Nat} {i : Instr} {n : Nat} {ls st : List pv} {w : pw} : px_P (px_knd i) (px_act M pc i n ls st w) w := by
  cases i with
  | iconst x => exact aw_gd
  | bipush x => exact aw_gd
  | sipush x => exact aw_gd
  | lconst x => exact aw_nx
  | iadd => exact aw_i2 fun _ _ _ => aw_nx
  | isub => exact aw_i2 fun _ _ _ => aw_nx
  | imul => exact aw_i2 fun _ _ _ => aw_nx
  | idiv => exact aw_i2 fun _ _ _ => aw_gd
  | irem => exact aw_i2 fun _ _ _ => aw_gd
  | ineg => exact aw_i1 fun _ _ => aw_nx
  | iand => exact aw_i2 fun _ _ _ => aw_nx
  | ior => exact aw_i2 fun _ _ _ => aw_nx
  | ishl => exact aw_i2 fun _ _ _ => aw_nx
  | ishr => exact aw_i2 fun _ _ _ => aw_nx
  | iushr => exact aw_i2 fun _ _ _ => aw_nx
  | ladd => exact aw_l2 fun _ _ _ => aw_nx
  | lsub => exact aw_l2 fun _ _ _ => aw_nx
  | lmul => exact aw_l2 fun _ _ _ => aw_nx
  | ldiv => exact aw_l2 fun _ _ _ => aw_gd
  | lrem => exact aw_l2 fun _ _ _ => aw_gd
  | land => exact aw_l2 fun _ _ _ => aw_nx
  | lshl => exact aw_li fun _ _ _ => aw_nx
  | lshr => exact aw_li fun _ _ _ => aw_nx
  | lushr => exact aw_li fun _ _ _ => aw_nx
  | lcmp => exact aw_l2 fun _ _ _ => aw_nx
  | i2l => exact aw_i1 fun _ _ => aw_nx
  | l2i => exact aw_l1 fun _ _ => aw_nx
  | i2b => exact aw_i1 fun _ _ => aw_nx
  | iload x => exact aw_bif aw_nx
  | iload_n x => exact aw_bif aw_nx
  | lload x => exact aw_bif aw_nx
  | lload_n x => exact aw_bif aw_nx
  | aload x => exact aw_bif aw_nx
  | aload_n x => exact aw_bif aw_nx
  | ifCond cd off => exact aw_i1 fun _ _ => aw_br
  | if_icmp cd off => exact aw_i2 fun _ _ _ => aw_br
  | invokestatic x => exact aw_inv
  | invokevirtual x => exact aw_inv
  | invokespecial x => exact aw_inv
  | ldc x =>
    dsimp only [px_act, px_knd]
    split
    · exact aw_bif aw_nx
    · exact aw_none
  | ldc_w x =>
    dsimp only [px_act, px_knd]
    split
    · exact aw_bif aw_nx
    · exact aw_none
  | ldc2_w x =>
    dsimp only [px_act, px_knd]
    split
    · exact aw_bif aw_nx
    · exact aw_none
  | istore x =>
    dsimp only [px_act, px_knd]
    unfold px_sto
    split
    · rw [px_frc_eq]
      exact aw_bif aw_nx
    · exact aw_none
  | istore_n x =>
    dsimp only [px_act, px_knd]
    unfold px_sto
    split
    · rw [px_frc_eq]
      exact aw_bif aw_nx
    · exact aw_none
  | lstore x =>
    dsimp only [px_act, px_knd]
    unfold px_sto
    split
    · rw [px_frc_eq]
      exact aw_bif aw_nx
    · exact aw_none
  | lstore_n x =>
    dsimp only [px_act, px_knd]
    unfold px_sto
    split
    · rw [px_frc_eq]
      exact aw_bif aw_nx
    · exact aw_none
  | astore x =>
    dsimp only [px_act, px_knd]
    unfold px_sta'
    split
    · rw [px_frc_eq]
      exact aw_bif aw_nx
    · exact aw_none
  | astore_n x =>
    dsimp only [px_act, px_knd]
    unfold px_sta'
    split
    · rw [px_frc_eq]
      exact aw_bif aw_nx
    · exact aw_none
  | iinc x d =>
    dsimp only [px_act, px_knd]
    rw [px_frc_eq]
    exact aw_bif aw_nx
  | dup =>
    dsimp only [px_act, px_knd]
    split
    · rename_i t x st0
      cases Nat.beq t 1
      · exact aw_nx
      · exact aw_none
    · exact aw_none
  | pop =>
    dsimp only [px_act, px_knd]
    split
    · rename_i t x st0
      cases Nat.beq t 1
      · exact aw_nx
      · exact aw_none
    · exact aw_none
  | dup2 =>
    dsimp only [px_act, px_knd]
    split
    · exact aw_nx
    · exact aw_nx
    · exact aw_none
  | goto off =>
    dsimp only [px_act, px_knd]
    split
    · exact aw_nx
    · exact aw_none
  | tableswitch d lo hi offs =>
    refine aw_i1 fun _ _ => ?_
    split
    · refine aw_bif fun a h => ?_
      cases h
      exact ⟨⟨_, rfl⟩, [], (List.append_nil _).symm⟩
    · exact aw_none
  | getfield x =>
    refine aw_r1 fun _ _ => ?_
    split
    · exact aw_gd
    · exact aw_none
  | putfield x =>
    dsimp only [px_act, px_knd]
    split
    · split
      · exact aw_bif aw_gdw
      · exact aw_none
    · exact aw_none
  | getstatic x =>
    dsimp only [px_act, px_knd]
    split
    · exact aw_nx
    · exact aw_none
  | arraylength =>
    dsimp only [px_act, px_knd]
    split
    · exact aw_gd
    · exact aw_nx
    · exact aw_nx
    · exact aw_none
  | iaload =>
    dsimp only [px_act, px_knd]
    split
    · exact aw_gd
    · exact aw_gd
    · exact aw_gd
    · exact aw_none
  | baload =>
    dsimp only [px_act, px_knd]
    split
    · exact aw_gd
    · exact aw_none
  | laload =>
    dsimp only [px_act, px_knd]
    split
    · exact aw_gd
    · exact aw_none
  | aaload =>
    dsimp only [px_act, px_knd]
    split
    · exact aw_gd
    · exact aw_none
  | iastore =>
    dsimp only [px_act, px_knd]
    split
    · exact aw_gdw
    · exact aw_none
  | bastore =>
    dsimp only [px_act, px_knd]
    split
    · exact aw_gdw
    · exact aw_none
  | lastore =>
    dsimp only [px_act, px_knd]
    split
    · exact aw_gdw
    · exact aw_none
  | aastore =>
    dsimp only [px_act, px_knd]
    split
    · exact aw_gdw
    · exact aw_none
  | new x =>
    dsimp only [px_act, px_knd]
    split
    · exact aw_nxa
    · exact aw_none
  | newarray a =>
    refine aw_i1 fun _ _ => ?_
    split
    · exact aw_gda
    · exact aw_none
  | anewarray a =>
    refine aw_i1 fun _ _ => ?_
    split
    · exact aw_gda
    · exact aw_none
  | multianewarray a d =>
    refine aw_i2 fun _ _ _ => ?_
    split
    · exact aw_bif aw_gda2
    · exact aw_none
  | ireturn =>
    dsimp only [px_act, px_knd]
    split
    · rename_i x
      cases Nat.beq (px_ret M) 0
      · exact aw_bif fun a h => by cases h; exact ⟨⟨_, rfl⟩, [], (List.append_nil _).symm⟩
      · exact fun a h => by cases h; exact ⟨⟨_, rfl⟩, [], (List.append_nil _).symm⟩
    · exact aw_none
  | lreturn =>
    dsimp only [px_act, px_knd]
    split
    · exact aw_bif fun a h => by cases h; exact ⟨⟨_, rfl⟩, [], (List.append_nil _).symm⟩
    · exact aw_none
  | return_ =>
    dsimp only [px_act, px_knd]
    split
    · exact aw_bif fun a h => by cases h; exact ⟨⟨_, rfl⟩, [], (List.append_nil _).symm⟩
    · exact aw_none
  | _ => exact aw_none
theorem px_on_w {F : pq → Option pr} {M : pm} {K : Nat → List pv → List pv → pw → Option pr} (hF : ∀ q r, F q = some r → ∃ ks, r.2.1 = q.2.2.2.2.1 ++ ks) (hK : ∀ pc ls st w r, K pc ls st w = some r → ∃ ks, r.2.1 = w.1 ++ ks) :
    (∀ pc ls st w r, px_j F M K pc ls st w = some r → ∃ ks, r.2.1 = w.1 ++ ks) ∧ ∀ a r, px_on F M K a = some r → ∃ ks, r.2.1 = (px_aw a).1 ++ ks := by
  have hj : ∀ pc ls st w r, px_j F M K pc ls st w = some r → ∃ ks, r.2.1 = w.1 ++ ks := by
    intro pc ls st w r h
    unfold px_j at h
    cases e : px_mem (px_lab M) pc <;> rw [e] at h
    · exact hK _ _ _ _ _ h
    · exact hF _ _ h
  refine ⟨hj, fun a r h => ?_⟩
  rcases a with ⟨g, pc, ls, st, w⟩ | ⟨g, x, w⟩ | ⟨c, x, y, t, f, ls, st, w⟩ | ⟨x, l, d, ls, st, w⟩ | ⟨g, t, as, pc, ls, st, w⟩
  · simp only [px_on] at h
    cases g
    · simp at h
    · simp only [if_pos] at h
      exact hj _ _ _ _ _ h
  · simp only [px_on] at h
    cases g
    · simp at h
    · simp only [if_pos] at h
      cases h
      exact ⟨[], (List.append_nil _).symm⟩
  · have h1 : px_j F M K t ls st w = some r ∨ px_j F M K f ls st w = some r := by
      have h : px_if c x y (px_j F M K t ls st w) (px_j F M K f ls st w) = some r := h
      generalize px_j F M K t ls st w = A at h ⊢
      generalize px_j F M K f ls st w = B at h ⊢
      have key : ∀ (p : Prop) [Decidable p] (A B : Option pr), (if p then A else B) = some r → A = some r ∨ B = some r := fun p _ A B h => by
        by_cases hp : p
        · rw [if_pos hp] at h; exact Or.inl h
        · rw [if_neg hp] at h; exact Or.inr h
      match c, h with
      | 0, h => exact key (x = y) A B h
      | 1, h => exact (key (x = y) B A h).symm
      | 2, h => exact key (x < y) A B h
      | 3, h => exact (key (x < y) B A h).symm
      | 4, h => exact key (y < x) A B h
      | _ + 5, h => exact (key (y < x) B A h).symm
    rcases h1 with h1 | h1 <;> exact hj _ _ _ _ _ h1
  · have h : px_sw x (px_j F M K d ls st w) (fun t => px_j F M K t ls st w) l = some r := h
    rw [px_sw_r x (fun t => px_j F M K t ls st w) d l] at h
    exact hj _ _ _ _ _ h
  · simp only [px_on] at h
    cases g
    · simp at h
    · simp only [if_pos] at h
      cases e : F (t, 0, px_ent t as, [], w) with
      | none => rw [e] at h; simp at h
      | some r1 =>
        rw [e] at h
        simp only [Option.bind_some] at h
        obtain ⟨k1, h1⟩ := hF _ _ e
        obtain ⟨k2, h2⟩ := hj _ _ _ _ _ h
        refine ⟨k1 ++ k2, ?_⟩
        rw [h2, h1]
        exact List.append_assoc _ _ _
theorem px_blk_w {F : pq → Option pr} {M : pm} (hF : ∀ q r, F q = some r → ∃ ks, r.2.1 = q.2.2.2.2.1 ++ ks) : ∀ k pc ls st w r, px_blk F M k pc ls st w = some r → ∃ ks, r.2.1 = w.1 ++ ks
  | 0, _, _, _, _, _, h => by cases h
  | k + 1, pc, ls, st, w, r, h => by
    have h : px_s1 F M (px_blk F M k) pc ls st w = some r := h
    unfold px_s1 at h
    split at h
    · rename_i i n e
      split at h
      · rename_i a e2
        obtain ⟨k1, h1⟩ := (px_on_w hF (px_blk_w hF k)).2 a r h
        obtain ⟨k2, h2⟩ := (px_act_sh a e2).2
        exact ⟨k2 ++ k1, by rw [h1, h2, List.append_assoc]⟩
      · cases h
    · cases h
theorem px_run_w : ∀ n q r, px_run n q = some r → ∃ ks, r.2.1 = q.2.2.2.2.1 ++ ks
  | 0, _, _, h => by cases h
  | n + 1, q, r, h => by
    rw [px_run_s] at h
    exact px_blk_w (px_run_w n) _ _ _ _ _ _ h
section SP
variable {E : se} {p : Program} {l : Launch} {e : Env} {R : Room} {s : State} {m : MethodId} {args : Array Value} {below : List Frame} {meth : Method} {c : Code} {Q : State → Prop} {n0 z0 : Nat} {ad0 : List Nat} {b : ByteArray} {M : pm} {pc n : Nat} {ls st : List pv} {w : pw}
theorem sr_act {F : pq → Option pr} {K : Nat → List pv → List pv → pw → Option pr} {i : Instr} {a : px_A} {r : pr} (C : sr_C E p R s m args meth c b M) (hd : decode b pc = .ok (i, n)) (hn : px_lok i n = true) (ha : px_act M pc i n ls st w = some a) (hon : px_on F M K a = some r)
    (hF : ∀ q r, F q = some r → ∃ ks, r.2.1 = q.2.2.2.2.1 ++ ks) (hK : ∀ pc ls st w r, K pc ls st w = some r → ∃ ks, r.2.1 = w.1 ++ ks)
    (hJ : ∀ pc ls st w, px_j F M K pc ls st w = some r → sg_G E p l e R s m args below meth c Q (px_max M) n0 z0 ad0 pc ls st w)
    (hCl : ∀ t as w r, F (t, 0, px_ent t as, [], w) = some r → px_sz r.2.1 < 2 ^ 31 → px_tys as (px_arg t) = true → (∀ x ∈ px_cod t, px_lok x.2.1 x.2.2 = true) → ∀ y b rt nn, px_okn t y b rt nn → sr_Met l E t y b rt as w r.1 r.2)
    (hRT : sr_RT E p l e R s m args below meth c Q M n0 z0 ad0 b r.1 r.2) (hbd : sr_bd n0 z0 R r.2) : sg_G E p l e R s m args below meth c Q (px_max M) n0 z0 ad0 pc ls st w := by
  obtain ⟨hjw, honw⟩ := px_on_w (M := M) hF hK
  obtain ⟨hsh, ks, hks⟩ := px_act_sh a ha
  obtain ⟨ks2, hks2⟩ := honw a r hon
  have len : ∀ {x y : List (Nat × Nat)} {k : List (Nat × Nat)}, x = y ++ k → y.length ≤ x.length ∧ px_sz y ≤ px_sz x := fun h => by rw [h, List.length_append, px_sz_app]; omega
  have hw1 := len hks
  have hw2 := len hks2
  obtain ⟨hb1, hb2, hb3⟩ := hbd
  have simple : ∀ q, a = .inl q → ∃ g pc' ls' st' w', q = (g, pc', ls', st', w') ∧ g = true ∧ sg_G E p l e R s m args below meth c Q (px_max M) n0 z0 ad0 pc' ls' st' w' ∧ w'.1.length ≤ n0 + R.cells ∧ px_sz w'.1 ≤ z0 + R.slots := by
    rintro ⟨g, pc', ls', st', w'⟩ rfl
    simp only [px_on] at hon
    cases g
    · simp at hon
    · simp only [if_pos] at hon
      exact ⟨_, _, _, _, _, rfl, rfl, hJ _ _ _ _ hon, Nat.le_trans hw2.1 hb1, Nat.le_trans hw2.2 hb2⟩
  have inv : ∀ {idx : Nat} {kinds : List Nat}, px_kin i idx kinds → n = 3 → px_inv M idx kinds (pc + 3) ls st w = some a → (∃ q, a = .inl q) ∨ (∃ q, a = .inr (.inr (.inr (.inr q)))) → sg_G E p l e R s m args below meth c Q (px_max M) n0 z0 ad0 pc ls st w := by
    intro idx kinds hkin h3 hinv hcase
    subst h3
    rcases hcase with ⟨q, hq⟩ | ⟨⟨g, t, as, pc', ls', st', w'⟩, hq⟩
    · obtain ⟨g, pc', ls', st', w', rfl, hg, k, k1, k2⟩ := simple q hq
      rw [hq] at hinv
      exact sp_jdk hkin C hd hinv hg (by omega) (by omega) k
    · subst hq
      simp only [px_on] at hon
      cases g
      · simp at hon
      · simp only [if_pos] at hon
        cases e2 : F (t, 0, px_ent t as, [], w') with
        | none => rw [e2] at hon; simp at hon
        | some r1 =>
          rw [e2] at hon
          simp only [Option.bind_some] at hon
          obtain ⟨k3, h3⟩ := hF _ _ e2
          obtain ⟨k4, h4⟩ := hjw _ _ _ _ _ hon
          have h5 := len h3
          have h6 := len h4
          exact sp_call hkin C hd hinv rfl (hCl _ _ _ _ e2 (by omega)) h5 ⟨by omega, by omega⟩ (hJ _ _ _ _ hon)
  cases i with
  | iconst x =>
    obtain ⟨q, hq⟩ := hsh
    obtain ⟨g, pc', ls', st', w', rfl, hg, k, -, -⟩ := simple q hq
    rw [hq] at ha
    exact sp_iconst C hd hn ha hg k
  | bipush x =>
    obtain ⟨q, hq⟩ := hsh
    obtain ⟨g, pc', ls', st', w', rfl, hg, k, -, -⟩ := simple q hq
    rw [hq] at ha
    exact sp_bipush C hd hn ha hg k
  | sipush x =>
    obtain ⟨q, hq⟩ := hsh
    obtain ⟨g, pc', ls', st', w', rfl, hg, k, -, -⟩ := simple q hq
    rw [hq] at ha
    exact sp_sipush C hd hn ha hg k
  | lconst x =>
    obtain ⟨q, hq⟩ := hsh
    obtain ⟨g, pc', ls', st', w', rfl, hg, k, -, -⟩ := simple q hq
    rw [hq] at ha
    exact sp_lconst C hd hn ha hg k
  | iload x =>
    obtain ⟨q, hq⟩ := hsh
    obtain ⟨g, pc', ls', st', w', rfl, hg, k, -, -⟩ := simple q hq
    rw [hq] at ha
    exact sp_iload C hd hn ha hg k
  | iload_n x =>
    obtain ⟨q, hq⟩ := hsh
    obtain ⟨g, pc', ls', st', w', rfl, hg, k, -, -⟩ := simple q hq
    rw [hq] at ha
    exact sp_iload_n C hd hn ha hg k
  | lload x =>
    obtain ⟨q, hq⟩ := hsh
    obtain ⟨g, pc', ls', st', w', rfl, hg, k, -, -⟩ := simple q hq
    rw [hq] at ha
    exact sp_lload C hd hn ha hg k
  | lload_n x =>
    obtain ⟨q, hq⟩ := hsh
    obtain ⟨g, pc', ls', st', w', rfl, hg, k, -, -⟩ := simple q hq
    rw [hq] at ha
    exact sp_lload_n C hd hn ha hg k
  | aload x =>
    obtain ⟨q, hq⟩ := hsh
    obtain ⟨g, pc', ls', st', w', rfl, hg, k, -, -⟩ := simple q hq
    rw [hq] at ha
    exact sp_aload C hd hn ha hg k
  | aload_n x =>
    obtain ⟨q, hq⟩ := hsh
    obtain ⟨g, pc', ls', st', w', rfl, hg, k, -, -⟩ := simple q hq
    rw [hq] at ha
    exact sp_aload_n C hd hn ha hg k
  | istore x =>
    obtain ⟨q, hq⟩ := hsh
    obtain ⟨g, pc', ls', st', w', rfl, hg, k, -, -⟩ := simple q hq
    rw [hq] at ha
    exact sp_istore C hd hn ha hg k
  | istore_n x =>
    obtain ⟨q, hq⟩ := hsh
    obtain ⟨g, pc', ls', st', w', rfl, hg, k, -, -⟩ := simple q hq
    rw [hq] at ha
    exact sp_istore_n C hd hn ha hg k
  | lstore x =>
    obtain ⟨q, hq⟩ := hsh
    obtain ⟨g, pc', ls', st', w', rfl, hg, k, -, -⟩ := simple q hq
    rw [hq] at ha
    exact sp_lstore C hd hn ha hg k
  | lstore_n x =>
    obtain ⟨q, hq⟩ := hsh
    obtain ⟨g, pc', ls', st', w', rfl, hg, k, -, -⟩ := simple q hq
    rw [hq] at ha
    exact sp_lstore_n C hd hn ha hg k
  | astore x =>
    obtain ⟨q, hq⟩ := hsh
    obtain ⟨g, pc', ls', st', w', rfl, hg, k, -, -⟩ := simple q hq
    rw [hq] at ha
    exact sp_astore C hd hn ha hg k
  | astore_n x =>
    obtain ⟨q, hq⟩ := hsh
    obtain ⟨g, pc', ls', st', w', rfl, hg, k, -, -⟩ := simple q hq
    rw [hq] at ha
    exact sp_astore_n C hd hn ha hg k
  | iinc x d =>
    obtain ⟨q, hq⟩ := hsh
    obtain ⟨g, pc', ls', st', w', rfl, hg, k, -, -⟩ := simple q hq
    rw [hq] at ha
    exact sp_iinc C hd hn ha hg k
  | iadd =>
    obtain ⟨q, hq⟩ := hsh
    obtain ⟨g, pc', ls', st', w', rfl, hg, k, -, -⟩ := simple q hq
    rw [hq] at ha
    exact sp_iadd C hd hn ha hg k
  | isub =>
    obtain ⟨q, hq⟩ := hsh
    obtain ⟨g, pc', ls', st', w', rfl, hg, k, -, -⟩ := simple q hq
    rw [hq] at ha
    exact sp_isub C hd hn ha hg k
  | imul =>
    obtain ⟨q, hq⟩ := hsh
    obtain ⟨g, pc', ls', st', w', rfl, hg, k, -, -⟩ := simple q hq
    rw [hq] at ha
    exact sp_imul C hd hn ha hg k
  | idiv =>
    obtain ⟨q, hq⟩ := hsh
    obtain ⟨g, pc', ls', st', w', rfl, hg, k, -, -⟩ := simple q hq
    rw [hq] at ha
    exact sp_idiv C hd hn ha hg k
  | irem =>
    obtain ⟨q, hq⟩ := hsh
    obtain ⟨g, pc', ls', st', w', rfl, hg, k, -, -⟩ := simple q hq
    rw [hq] at ha
    exact sp_irem C hd hn ha hg k
  | ineg =>
    obtain ⟨q, hq⟩ := hsh
    obtain ⟨g, pc', ls', st', w', rfl, hg, k, -, -⟩ := simple q hq
    rw [hq] at ha
    exact sp_ineg C hd hn ha hg k
  | iand =>
    obtain ⟨q, hq⟩ := hsh
    obtain ⟨g, pc', ls', st', w', rfl, hg, k, -, -⟩ := simple q hq
    rw [hq] at ha
    exact sp_iand C hd hn ha hg k
  | ior =>
    obtain ⟨q, hq⟩ := hsh
    obtain ⟨g, pc', ls', st', w', rfl, hg, k, -, -⟩ := simple q hq
    rw [hq] at ha
    exact sp_ior C hd hn ha hg k
  | ishl =>
    obtain ⟨q, hq⟩ := hsh
    obtain ⟨g, pc', ls', st', w', rfl, hg, k, -, -⟩ := simple q hq
    rw [hq] at ha
    exact sp_ishl C hd hn ha hg k
  | ishr =>
    obtain ⟨q, hq⟩ := hsh
    obtain ⟨g, pc', ls', st', w', rfl, hg, k, -, -⟩ := simple q hq
    rw [hq] at ha
    exact sp_ishr C hd hn ha hg k
  | iushr =>
    obtain ⟨q, hq⟩ := hsh
    obtain ⟨g, pc', ls', st', w', rfl, hg, k, -, -⟩ := simple q hq
    rw [hq] at ha
    exact sp_iushr C hd hn ha hg k
  | ladd =>
    obtain ⟨q, hq⟩ := hsh
    obtain ⟨g, pc', ls', st', w', rfl, hg, k, -, -⟩ := simple q hq
    rw [hq] at ha
    exact sp_ladd C hd hn ha hg k
  | lsub =>
    obtain ⟨q, hq⟩ := hsh
    obtain ⟨g, pc', ls', st', w', rfl, hg, k, -, -⟩ := simple q hq
    rw [hq] at ha
    exact sp_lsub C hd hn ha hg k
  | lmul =>
    obtain ⟨q, hq⟩ := hsh
    obtain ⟨g, pc', ls', st', w', rfl, hg, k, -, -⟩ := simple q hq
    rw [hq] at ha
    exact sp_lmul C hd hn ha hg k
  | ldiv =>
    obtain ⟨q, hq⟩ := hsh
    obtain ⟨g, pc', ls', st', w', rfl, hg, k, -, -⟩ := simple q hq
    rw [hq] at ha
    exact sp_ldiv C hd hn ha hg k
  | lrem =>
    obtain ⟨q, hq⟩ := hsh
    obtain ⟨g, pc', ls', st', w', rfl, hg, k, -, -⟩ := simple q hq
    rw [hq] at ha
    exact sp_lrem C hd hn ha hg k
  | land =>
    obtain ⟨q, hq⟩ := hsh
    obtain ⟨g, pc', ls', st', w', rfl, hg, k, -, -⟩ := simple q hq
    rw [hq] at ha
    exact sp_land C hd hn ha hg k
  | lshl =>
    obtain ⟨q, hq⟩ := hsh
    obtain ⟨g, pc', ls', st', w', rfl, hg, k, -, -⟩ := simple q hq
    rw [hq] at ha
    exact sp_lshl C hd hn ha hg k
  | lshr =>
    obtain ⟨q, hq⟩ := hsh
    obtain ⟨g, pc', ls', st', w', rfl, hg, k, -, -⟩ := simple q hq
    rw [hq] at ha
    exact sp_lshr C hd hn ha hg k
  | lushr =>
    obtain ⟨q, hq⟩ := hsh
    obtain ⟨g, pc', ls', st', w', rfl, hg, k, -, -⟩ := simple q hq
    rw [hq] at ha
    exact sp_lushr C hd hn ha hg k
  | lcmp =>
    obtain ⟨q, hq⟩ := hsh
    obtain ⟨g, pc', ls', st', w', rfl, hg, k, -, -⟩ := simple q hq
    rw [hq] at ha
    exact sp_lcmp C hd hn ha hg k
  | i2l =>
    obtain ⟨q, hq⟩ := hsh
    obtain ⟨g, pc', ls', st', w', rfl, hg, k, -, -⟩ := simple q hq
    rw [hq] at ha
    exact sp_i2l C hd hn ha hg k
  | l2i =>
    obtain ⟨q, hq⟩ := hsh
    obtain ⟨g, pc', ls', st', w', rfl, hg, k, -, -⟩ := simple q hq
    rw [hq] at ha
    exact sp_l2i C hd hn ha hg k
  | i2b =>
    obtain ⟨q, hq⟩ := hsh
    obtain ⟨g, pc', ls', st', w', rfl, hg, k, -, -⟩ := simple q hq
    rw [hq] at ha
    exact sp_i2b C hd hn ha hg k
  | dup =>
    obtain ⟨q, hq⟩ := hsh
    obtain ⟨g, pc', ls', st', w', rfl, hg, k, -, -⟩ := simple q hq
    rw [hq] at ha
    exact sp_dup C hd hn ha hg k
  | dup2 =>
    obtain ⟨q, hq⟩ := hsh
    obtain ⟨g, pc', ls', st', w', rfl, hg, k, -, -⟩ := simple q hq
    rw [hq] at ha
    exact sp_dup2 C hd hn ha hg k
  | pop =>
    obtain ⟨q, hq⟩ := hsh
    obtain ⟨g, pc', ls', st', w', rfl, hg, k, -, -⟩ := simple q hq
    rw [hq] at ha
    exact sp_pop C hd hn ha hg k
  | goto off =>
    obtain ⟨q, hq⟩ := hsh
    obtain ⟨g, pc', ls', st', w', rfl, hg, k, -, -⟩ := simple q hq
    rw [hq] at ha
    exact sp_goto C hd hn ha hg k
  | getfield x =>
    obtain ⟨q, hq⟩ := hsh
    obtain ⟨g, pc', ls', st', w', rfl, hg, k, -, -⟩ := simple q hq
    rw [hq] at ha
    exact sp_getfield C hd hn ha hg k
  | putfield x =>
    obtain ⟨q, hq⟩ := hsh
    obtain ⟨g, pc', ls', st', w', rfl, hg, k, -, -⟩ := simple q hq
    rw [hq] at ha
    exact sp_putfield C hd hn ha hg k
  | getstatic x =>
    obtain ⟨q, hq⟩ := hsh
    obtain ⟨g, pc', ls', st', w', rfl, hg, k, -, -⟩ := simple q hq
    rw [hq] at ha
    exact sp_getstatic C hd hn ha hg k
  | iaload =>
    obtain ⟨q, hq⟩ := hsh
    obtain ⟨g, pc', ls', st', w', rfl, hg, k, -, -⟩ := simple q hq
    rw [hq] at ha
    exact sp_iaload C hd hn ha hg k
  | baload =>
    obtain ⟨q, hq⟩ := hsh
    obtain ⟨g, pc', ls', st', w', rfl, hg, k, -, -⟩ := simple q hq
    rw [hq] at ha
    exact sp_baload C hd hn ha hg k
  | laload =>
    obtain ⟨q, hq⟩ := hsh
    obtain ⟨g, pc', ls', st', w', rfl, hg, k, -, -⟩ := simple q hq
    rw [hq] at ha
    exact sp_laload C hd hn ha hg k
  | aaload =>
    obtain ⟨q, hq⟩ := hsh
    obtain ⟨g, pc', ls', st', w', rfl, hg, k, -, -⟩ := simple q hq
    rw [hq] at ha
    exact sp_aaload C hd hn ha hg k
  | iastore =>
    obtain ⟨q, hq⟩ := hsh
    obtain ⟨g, pc', ls', st', w', rfl, hg, k, -, -⟩ := simple q hq
    rw [hq] at ha
    exact sp_iastore C hd hn ha hg k
  | bastore =>
    obtain ⟨q, hq⟩ := hsh
    obtain ⟨g, pc', ls', st', w', rfl, hg, k, -, -⟩ := simple q hq
    rw [hq] at ha
    exact sp_bastore C hd hn ha hg k
  | lastore =>
    obtain ⟨q, hq⟩ := hsh
    obtain ⟨g, pc', ls', st', w', rfl, hg, k, -, -⟩ := simple q hq
    rw [hq] at ha
    exact sp_lastore C hd hn ha hg k
  | aastore =>
    obtain ⟨q, hq⟩ := hsh
    obtain ⟨g, pc', ls', st', w', rfl, hg, k, -, -⟩ := simple q hq
    rw [hq] at ha
    exact sp_aastore C hd hn ha hg k
  | ldc x =>
    obtain ⟨q, hq⟩ := hsh
    obtain ⟨g, pc', ls', st', w', rfl, hg, k, -, -⟩ := simple q hq
    rw [hq] at ha
    exact sp_ldc C hd hn ha hg k
  | ldc_w x =>
    obtain ⟨q, hq⟩ := hsh
    obtain ⟨g, pc', ls', st', w', rfl, hg, k, -, -⟩ := simple q hq
    rw [hq] at ha
    exact sp_ldc_w C hd hn ha hg k
  | ldc2_w x =>
    obtain ⟨q, hq⟩ := hsh
    obtain ⟨g, pc', ls', st', w', rfl, hg, k, -, -⟩ := simple q hq
    rw [hq] at ha
    exact sp_ldc2_w C hd hn ha hg k
  | arraylength =>
    obtain ⟨q, hq⟩ := hsh
    obtain ⟨g, pc', ls', st', w', rfl, hg, k, -, -⟩ := simple q hq
    rw [hq] at ha
    exact sp_arraylength C hd hn ha hg (by omega) k
  | new x =>
    obtain ⟨q, hq⟩ := hsh
    obtain ⟨g, pc', ls', st', w', rfl, hg, k, k1, k2⟩ := simple q hq
    rw [hq] at ha
    exact sp_new C hd hn ha hg k1 k2 k
  | newarray x =>
    obtain ⟨q, hq⟩ := hsh
    obtain ⟨g, pc', ls', st', w', rfl, hg, k, k1, k2⟩ := simple q hq
    rw [hq] at ha
    exact sp_newarray C hd hn ha hg k1 k2 k
  | anewarray x =>
    obtain ⟨q, hq⟩ := hsh
    obtain ⟨g, pc', ls', st', w', rfl, hg, k, k1, k2⟩ := simple q hq
    rw [hq] at ha
    exact sp_anewarray C hd hn ha hg k1 k2 k
  | multianewarray x y =>
    obtain ⟨q, hq⟩ := hsh
    obtain ⟨g, pc', ls', st', w', rfl, hg, k, k1, k2⟩ := simple q hq
    rw [hq] at ha
    exact sp_multianewarray C hd hn ha hg k1 k2 k
  | ifCond cd off =>
    obtain ⟨⟨q, x, y, t, f, ls', st', w'⟩, rfl⟩ := hsh
    have hon : px_if q x y (px_j F M K t ls' st' w') (px_j F M K f ls' st' w') = some r := hon
    refine sp_ifCond C hd hn ha (fun h => hJ _ _ _ _ ?_) (fun h => hJ _ _ _ _ ?_)
    · rw [px_if_t h] at hon
      exact hon
    · rw [px_if_f h] at hon
      exact hon
  | if_icmp cd off =>
    obtain ⟨⟨q, x, y, t, f, ls', st', w'⟩, rfl⟩ := hsh
    have hon : px_if q x y (px_j F M K t ls' st' w') (px_j F M K f ls' st' w') = some r := hon
    refine sp_if_icmp C hd hn ha (fun h => hJ _ _ _ _ ?_) (fun h => hJ _ _ _ _ ?_)
    · rw [px_if_t h] at hon
      exact hon
    · rw [px_if_f h] at hon
      exact hon
  | tableswitch d lo hi offs =>
    obtain ⟨⟨x, cs, d', ls', st', w'⟩, rfl⟩ := hsh
    have hon : px_sw x (px_j F M K d' ls' st' w') (fun t => px_j F M K t ls' st' w') cs = some r := hon
    rw [px_sw_r x (fun t => px_j F M K t ls' st' w') d' cs] at hon
    exact sp_switch C hd ha (hJ _ _ _ _ hon)
  | invokestatic idx =>
    have h3 := Nat.eq_of_beq_eq_true hn
    subst h3
    exact inv (kinds := [0]) (Or.inl ⟨rfl, rfl⟩) rfl ha hsh
  | invokevirtual idx =>
    have h3 := Nat.eq_of_beq_eq_true hn
    subst h3
    exact inv (kinds := [1]) (Or.inr (Or.inl ⟨rfl, rfl⟩)) rfl ha hsh
  | invokespecial idx =>
    have h3 := Nat.eq_of_beq_eq_true hn
    subst h3
    exact inv (kinds := [3, 4, 5]) (Or.inr (Or.inr ⟨rfl, rfl⟩)) rfl ha hsh
  | ireturn =>
    obtain ⟨⟨g, v, w'⟩, rfl⟩ := hsh
    simp only [px_on] at hon
    cases g
    · simp at hon
    · simp only [if_pos] at hon
      cases hon
      exact sp_ireturn C hd hn ha rfl hRT
  | lreturn =>
    obtain ⟨⟨g, v, w'⟩, rfl⟩ := hsh
    simp only [px_on] at hon
    cases g
    · simp at hon
    · simp only [if_pos] at hon
      cases hon
      exact sp_lreturn C hd hn ha rfl hRT
  | return_ =>
    obtain ⟨⟨g, v, w'⟩, rfl⟩ := hsh
    simp only [px_on] at hon
    cases g
    · simp at hon
    · simp only [if_pos] at hon
      cases hon
      exact sp_return C hd hn ha rfl hRT
  | _ => cases ha
theorem px_s1_s {F : pq → Option pr} {K : Nat → List pv → List pv → pw → Option pr} {r : pr} (h : px_s1 F M K pc ls st w = some r) : ∃ i n a, px_find (px_cod M) pc = some (i, n) ∧ px_act M pc i n ls st w = some a ∧ px_on F M K a = some r := by
  unfold px_s1 at h
  split at h
  · rename_i i n e1
    split at h
    · rename_i a e2
      exact ⟨i, n, a, e1, e2, h⟩
    · cases h
  · cases h
theorem sr_C_dec {i : Instr} {n : Nat} (C : sr_C E p R s m args meth c b M) (e1 : px_find (px_cod M) pc = some (i, n)) : decode b pc = .ok (i, n) ∧ px_lok i n = true := by
  obtain ⟨hx, hb, hml, hown, hts, hini, hdec, hlok, hfr, hlo, hbase, hE, hL, ho⟩ := C
  have h1 := hdec _ (px_fmem e1)
  have h2 := hlok _ (px_fmem e1)
  exact ⟨h1, h2⟩
theorem sr_blk {F : pq → Option pr} {r : pr} (C : sr_C E p R s m args meth c b M) (hF : ∀ q r, F q = some r → ∃ ks, r.2.1 = q.2.2.2.2.1 ++ ks)
    (hJ : ∀ pc ls st w, F (M, pc, ls, st, w) = some r → sg_G E p l e R s m args below meth c Q (px_max M) n0 z0 ad0 pc ls st w)
    (hCl : ∀ t as w r, F (t, 0, px_ent t as, [], w) = some r → px_sz r.2.1 < 2 ^ 31 → px_tys as (px_arg t) = true → (∀ x ∈ px_cod t, px_lok x.2.1 x.2.2 = true) → ∀ y b rt nn, px_okn t y b rt nn → sr_Met l E t y b rt as w r.1 r.2)
    (hRT : sr_RT E p l e R s m args below meth c Q M n0 z0 ad0 b r.1 r.2) (hbd : sr_bd n0 z0 R r.2) (k : Nat) : ∀ pc ls st w, px_blk F M k pc ls st w = some r → sg_G E p l e R s m args below meth c Q (px_max M) n0 z0 ad0 pc ls st w := by
  induction k with
  | zero =>
    intro pc ls st w h
    cases h
  | succ k ih =>
    intro pc ls st w h
    have h : px_s1 F M (px_blk F M k) pc ls st w = some r := h
    have hw := px_blk_w (M := M) hF k
    generalize px_blk F M k = K at h ih hw
    have hJ2 : ∀ pc ls st w, px_j F M K pc ls st w = some r → sg_G E p l e R s m args below meth c Q (px_max M) n0 z0 ad0 pc ls st w := by
      intro pc ls st w hj
      unfold px_j at hj
      cases e3 : px_mem (px_lab M) pc with
      | false => rw [e3] at hj; exact ih pc ls st w hj
      | true => rw [e3] at hj; exact hJ pc ls st w hj
    obtain ⟨i, n, a, e1, e2, h3⟩ := px_s1_s h
    obtain ⟨hd, hn⟩ := sr_C_dec C e1
    exact sr_act C hd hn e2 h3 hF hw hJ2 hCl hRT hbd
end SP
