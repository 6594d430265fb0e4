/-! Every run of the pure machine is a contract of the method. -/
theorem px_pad_len : ∀ (n : Nat) (l : List pv), l.length ≤ n → (px_pad n l).length = n
  | 0, l, h => by
    have : l = [] := List.length_eq_zero_iff.mp (by omega)
    subst this
    rfl
  | n + 1, [], _ => congrArg (· + 1) (px_pad_len n [] (by simp))
  | n + 1, a :: l, h => congrArg (· + 1) (px_pad_len n l (by simpa using h))
theorem px_nth_pad : ∀ (n : Nat) (l : List pv) (i : Nat), px_nth (px_pad n l) i = px_nth l i
  | 0, _, _ => rfl
  | n + 1, [], 0 => rfl
  | n + 1, [], i + 1 => by
    show px_nth (px_pad n []) i = (9, 0)
    rw [px_nth_pad n [] i]
    rfl
  | n + 1, a :: l, 0 => rfl
  | n + 1, a :: l, i + 1 => px_nth_pad n l i
theorem px_exp_tys : ∀ {as : List pv} {ts : List Nat}, px_tys as ts = true → (px_exp as).length = (px_exp (ts.map fun t => ((t, 0) : pv))).length
  | [], [], _ => rfl
  | a :: as, t :: ts, h => by
    unfold px_tys at h
    rw [Bool.and_eq_true] at h
    have ht := Nat.eq_of_beq_eq_true h.1
    have ih := px_exp_tys h.2
    rw [List.map_cons]
    unfold px_exp
    dsimp only
    rw [ht]
    cases Nat.beq t 1
    · exact congrArg (· + 1) ih
    · exact congrArg (· + 2) ih
  | [], _ :: _, h => by cases h
  | _ :: _, [], h => by cases h
theorem px_exp_sl {E : se} {ad : List Nat} : ∀ {as : List pv} {As : List Value}, sr_st E ad as As → (lg_sl As).length = (px_exp as).length
  | [], [], _ => rfl
  | q :: as, v :: As, h => by
    have hc := sr_v_cat h.1
    have ih := px_exp_sl h.2
    have e1 : lg_sl (v :: As) = (if v.category = 2 then [.val v, .second] else [.val v]) ++ lg_sl As := by
      unfold lg_sl
      rw [List.flatMap_cons]
    rw [e1]
    unfold px_exp
    by_cases e : q.1 = 1
    · rw [if_pos e] at hc
      rw [if_pos hc, e]
      show ([Slot.val v, .second] ++ lg_sl As).length = (q :: (9, 0) :: px_exp as).length
      simp [ih]
    · rw [if_neg e] at hc
      rw [if_neg (by omega)]
      cases e2 : Nat.beq q.1 1
      · show ([Slot.val v] ++ lg_sl As).length = (q :: px_exp as).length
        simp [ih]
      · exact absurd (Nat.eq_of_beq_eq_true e2) e
  | [], _ :: _, h => h.elim
  | _ :: _, [], h => h.elim
theorem px_exp_at {E : se} {ad : List Nat} : ∀ {as : List pv} {As : List Value} (j : Nat), sr_st E ad as As → ∀ i, (px_nth (px_exp as) i).1 < 6 → ∃ v, (j + i, v) ∈ lv_args j As ∧ sr_v E ad (px_nth (px_exp as) i) v
  | [], [], _, _, _, h => absurd (show (9 : Nat) < 6 from h) (by decide)
  | q :: as, v :: As, j, h, i, hi => by
    have hc := sr_v_cat h.1
    unfold px_exp at hi ⊢
    unfold lv_args
    cases e : Nat.beq q.1 1
    · rw [e] at hi
      have e' : ¬ q.1 = 1 := fun z => by rw [z] at e; cases e
      rw [if_neg e'] at hc
      rw [if_neg (by omega)]
      cases i with
      | zero => exact ⟨v, List.mem_cons_self, h.1⟩
      | succ i =>
        obtain ⟨u, h1, h2⟩ := px_exp_at (j + 1) h.2 i hi
        exact ⟨u, List.mem_cons_of_mem _ (by rw [show j + (i + 1) = j + 1 + i by omega]; exact h1), h2⟩
    · rw [e] at hi
      have e' := Nat.eq_of_beq_eq_true e
      rw [if_pos e'] at hc
      rw [if_pos hc]
      match i, hi with
      | 0, _ => exact ⟨v, List.mem_cons_self, h.1⟩
      | 1, hi => exact absurd (show (9 : Nat) < 6 from hi) (by decide)
      | i + 2, hi =>
        obtain ⟨u, h1, h2⟩ := px_exp_at (j + 2) h.2 i hi
        exact ⟨u, List.mem_cons_of_mem _ (by rw [show j + (i + 2) = j + 2 + i by omega]; exact h1), h2⟩
  | [], _ :: _, _, h, _, _ => h.elim
  | _ :: _, [], _, h, _, _ => h.elim
/-- the locals at a method's entry -/
theorem sr_ent {E : se} {ad : List Nat} {t : pm} {as : List pv} {As : List Value} {la : Array Slot} (h : sr_st E ad as As) (hl : (px_exp as).length ≤ px_max t) (hla : lv_has la (px_max t) (lv_args 0 As)) : sr_ls E ad (px_max t) (px_ent t as) la := by
  refine ⟨px_pad_len _ _ hl, _, hla, fun i hi => ?_⟩
  unfold px_ent at hi ⊢
  rw [px_nth_pad] at hi ⊢
  obtain ⟨v, h1, h2⟩ := px_exp_at 0 h i hi
  exact ⟨v, by rw [Nat.zero_add] at h1; exact h1, h2⟩
theorem sr_runs (l : Launch) (E : se) (hL : se_L E < 2 ^ 31) : ∀ n : Nat,
    (∀ {p : Program} {e : Env} {R : Room} {s : State} {m : MethodId} {args : Array Value} {below : List Frame} {meth : Method} {c : Code} {Q : State → Prop} {n0 z0 : Nat} {ad0 : List Nat} {b : ByteArray} {M : pm} (_ : sr_C E p R s m args meth c b M) (pc : Nat) (ls st : List pv) (w : pw) (r : pr), px_run n (M, pc, ls, st, w) = some r → sr_RT E p l e R s m args below meth c Q M n0 z0 ad0 b r.1 r.2 → sr_bd n0 z0 R r.2 → sg_G E p l e R s m args below meth c Q (px_max M) n0 z0 ad0 pc ls st w) ∧
    (∀ (t : pm) (as : List pv) (w : pw) (r : pr), px_run n (t, 0, px_ent t as, [], w) = some r → px_sz r.2.1 < 2 ^ 31 → px_tys as (px_arg t) = true → (∀ x ∈ px_cod t, px_lok x.2.1 x.2.2 = true) → ∀ y b rt nn, px_okn t y b rt nn → sr_Met l E t y b rt as w r.1 r.2)
  | 0 => ⟨fun _ _ _ _ _ _ h => (by cases h), fun _ _ _ _ h => (by cases h)⟩
  | n + 1 => by
    obtain ⟨ih1, ih2⟩ := sr_runs l E hL n
    have A1 : ∀ {p : Program} {e : Env} {R : Room} {s : State} {m : MethodId} {args : Array Value} {below : List Frame} {meth : Method} {c : Code} {Q : State → Prop} {n0 z0 : Nat} {ad0 : List Nat} {b : ByteArray} {M : pm} (_ : sr_C E p R s m args meth c b M) (pc : Nat) (ls st : List pv) (w : pw) (r : pr), px_run (n + 1) (M, pc, ls, st, w) = some r → sr_RT E p l e R s m args below meth c Q M n0 z0 ad0 b r.1 r.2 → sr_bd n0 z0 R r.2 → sg_G E p l e R s m args below meth c Q (px_max M) n0 z0 ad0 pc ls st w := by
      intro p e R s m args below meth c Q n0 z0 ad0 b M C pc ls st w r h hRT hbd
      rw [px_run_s] at h
      exact sr_blk C (px_run_w n) (fun pc ls st w hj => ih1 C pc ls st w r hj hRT hbd) ih2 hRT hbd 400 pc ls st w h
    refine ⟨A1, fun t as w r h hsz hty hlens y b rt nn hok ws As hst hw => ?_⟩
    obtain ⟨k1, k2, k3, k4, k5, k6, k7, k8, k9⟩ := hok
    refine Met.ofW (cc := b) (maxL := px_max t) (ret := rt) k2 rfl ?_
    intro p e s m args below meth c s₁ B hml hv
    obtain ⟨rfl, hbase, hP, hD, hE⟩ := hv
    have hx := B.exec
    have hb := B.bytes
    have hr := B.returns
    have hlocks := B.notSynchronized
    have hts0 := atoms_spec (ws := Cond.code y b (px_max t) rt :: gw) B.pre
    have hts : ∀ w ∈ gw, w.before As.toArray s = true := fun w h => hts0 w (List.mem_cons_of_mem _ h)
    have hown : s.vm.findClass (px_nm (px_own t)) = some m.cls := by rw [← k3]; exact findClass_of_methodNamed B.named
    obtain ⟨ks, hks⟩ := px_run_w (n + 1) _ _ h
    have hks : r.2.1 = w.1 ++ ks := hks
    have hlen1 : w.1.length ≤ r.2.1.length := by rw [hks, List.length_append]; omega
    have hlen2 : px_sz w.1 ≤ px_sz r.2.1 := by rw [hks, px_sz_app]; omega
    have C : sr_C E p (sr_rm t (r.2.1.length - w.1.length) (px_sz r.2.1 - px_sz w.1)) s m As.toArray meth c b t := ⟨hx, hb, hml, hown, hts, fun hi => by rw [(name_of_methodNamed B.named B.method).1]; exact k9 hi, k4, hlens, Nat.le_refl _, Nat.le_refl _, hbase, hE, hL, k7⟩
    have hexp : (px_exp as).length ≤ px_max t := by rw [px_exp_tys hty]; exact k8
    have hl := lv_entry As (n := px_max t) (by rw [px_exp_sl hst]; exact hexp)
    rw [lg_entry_eq]
    generalize (lg_sl As ++ List.replicate (px_max t - (lg_sl As).length) Slot.unset).toArray = la at hl ⊢
    refine A1 C 0 (px_ent t as) [] w r h ?_ ⟨by show _ ≤ w.1.length + (r.2.1.length - w.1.length); omega, by show _ ≤ px_sz w.1 + (px_sz r.2.1 - px_sz w.1); omega, hsz⟩ la [] s.heap [] 0 0 ws ⟨sr_ent hst hexp hl, trivial, hw, hP, hD, va_S.rf, Nat.zero_add _, Nat.zero_add _, [], (List.append_nil _).symm⟩
    intro pc2 la2 sa2 H2 locs2 cells2 slots2 ws2 g1 g2 g3 g4 g5 g6 g7 hcase
    obtain ⟨x, hx7⟩ := g7
    have ec : cells2 = r.2.1.length - w.1.length := by omega
    have es : slots2 = px_sz r.2.1 - px_sz w.1 := by omega
    subst ec
    subst es
    have hB : ∀ t2 : State, t2.heap = H2 → sr_B E r.2 ws ws2 t2 := fun t2 ht => ⟨by rw [ht]; exact g2, g3, g1, x, hx7⟩
    simp only [List.mem_cons, Prod.mk.injEq, List.not_mem_nil, or_false] at k5
    rcases hcase with ⟨h0, hd, z, rfl, hz, hz7⟩ | ⟨h0, hd, z, rfl, hz⟩ | ⟨h0, hd, rfl⟩
    · rcases h0 with h0 | h0
      · have hrt : rt = some .int := by
          rcases k5 with ⟨-, h⟩ | ⟨h, -⟩ | ⟨h, -⟩ | ⟨h, -⟩
          · exact h
          · omega
          · omega
          · omega
        subst hrt
        rw [h0]
        exact W.iret hx hb hr (fun t2 ht _ => ⟨⟨z, ws2, rfl, hz, hB t2 ht⟩, g4.F ht⟩) g4.2.2 hd hlocks
      · have hrt : rt = some .boolean := by
          rcases k5 with ⟨h, -⟩ | ⟨-, h⟩ | ⟨h, -⟩ | ⟨h, -⟩
          · omega
          · exact h
          · omega
          · omega
        subst hrt
        rw [h0]
        refine W.zret hx hb hr ?_ (fun t2 ht _ => ⟨⟨z, ws2, rfl, hz, hB t2 ht⟩, g4.F ht⟩) g4.2.2 hd hlocks
        rcases hz7 h0 with h | h <;> subst h <;> rfl
    · have hrt : rt = some .long := by
        rcases k5 with ⟨h, -⟩ | ⟨h, -⟩ | ⟨-, h⟩ | ⟨h, -⟩
        · omega
        · omega
        · exact h
        · omega
      subst hrt
      rw [h0]
      exact W.lret hx hb hr (fun t2 ht _ => ⟨⟨z, ws2, rfl, hz, hB t2 ht⟩, g4.F ht⟩) g4.2.2 hd hlocks
    · have hrt : rt = none := by
        rcases k5 with ⟨h, -⟩ | ⟨h, -⟩ | ⟨h, -⟩ | ⟨-, h⟩
        · omega
        · omega
        · omega
        · exact h
      subst hrt
      rw [h0]
      exact W.vret hx hb hr (fun t2 ht _ => ⟨⟨ws2, rfl, trivial, hB t2 ht⟩, g4.F ht⟩) g4.2.2 hd hlocks
