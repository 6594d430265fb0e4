/-! Calls, returns; the machine follows the pure machine. -/
def sr_RT (E : se) (p : Program) (l : Launch) (e : Env) (R : Room) (s : State) (m : MethodId) (args : Array Value) (below : List Frame) (meth : Method) (c : Code) (Q : State → Prop) (M : pm) (n0 z0 : Nat) (ad0 : List Nat) (b : ByteArray) (v : Int) (w : pw) : Prop :=
  ∀ (pc : Nat) (la : Array Slot) (sa : List Value) (H : Heap) (locs : List Loc) (cells slots : Nat) (ws : va_W), sr_w E w ws → va_P (se_D E) px_cl ws H → va_D (se_A E) ws → va_S (se_A E) s.heap H locs → cells + n0 = w.1.length → slots + z0 = px_sz w.1 → (∃ x, sr_ad ws = ad0 ++ x) →
    (((px_ret M = 0 ∨ px_ret M = 7) ∧ decode b pc = .ok (.ireturn, 1) ∧ ∃ y : Int32, sa = [.int y] ∧ y.toInt = v ∧ (px_ret M = 7 → y = 0 ∨ y = 1)) ∨ (px_ret M = 1 ∧ decode b pc = .ok (.lreturn, 1) ∧ ∃ y : Int64, sa = [.long y] ∧ y.toInt = v) ∨ (px_ret M = 9 ∧ decode b pc = .ok (.return_, 1) ∧ sa = [])) →
    W p l e R s m args below meth c H locs cells slots Q (F0 m pc la sa)
def sr_bd (n0 z0 : Nat) (R : Room) (w : pw) : Prop := w.1.length ≤ n0 + R.cells ∧ px_sz w.1 ≤ z0 + R.slots ∧ px_sz w.1 < 2 ^ 31
section SP
variable {E : se} {p : Program} {l : Launch} {e : Env} {R : Room} {s : State} {m : MethodId} {args : Array Value} {below : List Frame} {meth : Method} {c : Code} {Q : State → Prop} {n0 z0 : Nat} {ad0 : List Nat} {b : ByteArray} {M : pm} {pc pc' n : Nat} {ls st ls' st' : List pv} {w w' : pw} {g : Bool}
theorem sp_ireturn {v : Int} (C : sr_C E p R s m args meth c b M) (hd : decode b pc = .ok (.ireturn, n)) (hn : px_lok .ireturn n = true) (ha : px_act M pc .ireturn n ls st w = some (.inr (.inl (g, v, w')))) (hg : g = true) (k : sr_RT E p l e R s m args below meth c Q M n0 z0 ad0 b v w') : sg_G E p l e R s m args below meth c Q (px_max M) n0 z0 ad0 pc ls st w := by
  have hn := Nat.eq_of_beq_eq_true hn
  subst hn
  have ha : (match (generalizing := false) st with | (0, x) :: [] => bif Nat.beq (px_ret M) 0 then some (.inr (.inl (true, x, w))) else bif Nat.beq (px_ret M) 7 then some (.inr (.inl (decide (0 ≤ x) && decide (x < 2), x, w))) else none | _ => none : Option px_A) = some (.inr (.inl (g, v, w'))) := ha
  split at ha
  · rename_i x
    intro la sa H locs cells slots ws hR
    obtain ⟨g1, g2, gw1, gP, gD, gS, gn, gz, g3⟩ := hR
    obtain ⟨y, sa, rfl, hy, g2a⟩ := sr_sti g2
    cases sa with
    | cons _ _ => exact g2a.elim
    | nil =>
      cases e0 : Nat.beq (px_ret M) 0 with
      | true =>
        rw [e0] at ha
        cases ha
        have e0 := Nat.eq_of_beq_eq_true e0
        exact k pc la _ H locs cells slots ws gw1 gP gD gS gn gz g3 (Or.inl ⟨Or.inl e0, hd, y, rfl, hy, fun h => by omega⟩)
      | false =>
        rw [e0] at ha
        cases e7 : Nat.beq (px_ret M) 7 with
        | true =>
          rw [e7] at ha
          cases ha
          have e7 := Nat.eq_of_beq_eq_true e7
          simp only [Bool.and_eq_true, decide_eq_true_eq] at hg
          refine k pc la _ H locs cells slots ws gw1 gP gD gS gn gz g3 (Or.inl ⟨Or.inr e7, hd, y, rfl, hy, fun _ => ?_⟩)
          rcases (show y.toInt = 0 ∨ y.toInt = 1 by omega) with h | h
          · exact Or.inl (Int32.toInt_inj.mp h)
          · exact Or.inr (Int32.toInt_inj.mp h)
        | false =>
          rw [e7] at ha
          cases ha
  · cases ha
theorem sp_lreturn {v : Int} (C : sr_C E p R s m args meth c b M) (hd : decode b pc = .ok (.lreturn, n)) (hn : px_lok .lreturn n = true) (ha : px_act M pc .lreturn n ls st w = some (.inr (.inl (g, v, w')))) (hg : g = true) (k : sr_RT E p l e R s m args below meth c Q M n0 z0 ad0 b v w') : sg_G E p l e R s m args below meth c Q (px_max M) n0 z0 ad0 pc ls st w := by
  have hn := Nat.eq_of_beq_eq_true hn
  subst hn
  have ha : (match (generalizing := false) st with | (1, x) :: [] => bif Nat.beq (px_ret M) 1 then some (.inr (.inl (true, x, w))) else none | _ => none : Option px_A) = some (.inr (.inl (g, v, w'))) := ha
  split at ha
  · rename_i x
    intro la sa H locs cells slots ws hR
    obtain ⟨g1, g2, gw1, gP, gD, gS, gn, gz, g3⟩ := hR
    obtain ⟨y, sa, rfl, hy, g2a⟩ := sr_stl g2
    cases sa with
    | cons _ _ => exact g2a.elim
    | nil =>
      obtain ⟨e1, ha⟩ := px_bif ha
      cases ha
      exact k pc la _ H locs cells slots ws gw1 gP gD gS gn gz g3 (Or.inr (Or.inl ⟨Nat.eq_of_beq_eq_true e1, hd, y, rfl, hy⟩))
  · cases ha
theorem sp_return {v : Int} (C : sr_C E p R s m args meth c b M) (hd : decode b pc = .ok (.return_, n)) (hn : px_lok .return_ n = true) (ha : px_act M pc .return_ n ls st w = some (.inr (.inl (g, v, w')))) (hg : g = true) (k : sr_RT E p l e R s m args below meth c Q M n0 z0 ad0 b v w') : sg_G E p l e R s m args below meth c Q (px_max M) n0 z0 ad0 pc ls st w := by
  have hn := Nat.eq_of_beq_eq_true hn
  subst hn
  have ha : (match (generalizing := false) st with | [] => bif Nat.beq (px_ret M) 9 then some (.inr (.inl (true, 0, w))) else none | _ => none : Option px_A) = some (.inr (.inl (g, v, w'))) := ha
  split at ha
  · intro la sa H locs cells slots ws hR
    obtain ⟨g1, g2, gw1, gP, gD, gS, gn, gz, g3⟩ := hR
    cases sa with
    | cons _ _ => exact g2.elim
    | nil =>
      obtain ⟨e1, ha⟩ := px_bif ha
      cases ha
      exact k pc la _ H locs cells slots ws gw1 gP gD gS gn gz g3 (Or.inr (Or.inr ⟨Nat.eq_of_beq_eq_true e1, hd, rfl⟩))
  · cases ha
theorem px_tys_len : ∀ {as : List pv} {ts : List Nat}, px_tys as ts = true → as.length = ts.length ∧ ∀ t0, ts.head? = some t0 → ∃ x as', as = (t0, x) :: as'
  | [], [], _ => ⟨rfl, fun _ h => by cases h⟩
  | a :: as, t :: ts, h => by
    unfold px_tys at h
    rw [Bool.and_eq_true] at h
    refine ⟨congrArg (· + 1) (px_tys_len h.2).1, fun t0 h0 => ?_⟩
    cases h0
    have := Nat.eq_of_beq_eq_true h.1
    exact ⟨a.2, as, by rw [← this]⟩
  | [], _ :: _, h => by cases h
  | _ :: _, [], h => by cases h
/-- a call of a method of ours -/
theorem sp_call {idx : Nat} {kinds : List Nat} {i : Instr} (hi : px_kin i idx kinds) {t : pm} {as : List pv} {v : Int} {w1 : pw} (C : sr_C E p R s m args meth c b M) (hd : decode b pc = .ok (i, 3)) (ha : px_inv M idx kinds (pc + 3) ls st w = some (.inr (.inr (.inr (.inr (g, t, as, pc', ls', st', w')))))) (hg : g = true)
    (hM : px_tys as (px_arg t) = true → (∀ x ∈ px_cod t, px_lok x.2.1 x.2.2 = true) → ∀ y b rt nn, px_okn t y b rt nn → sr_Met l E t y b rt as w' v w1) (hmono : w'.1.length ≤ w1.1.length ∧ px_sz w'.1 ≤ px_sz w1.1) (hbd : w1.1.length ≤ n0 + R.cells ∧ px_sz w1.1 ≤ z0 + R.slots)
    (k : sg_G E p l e R s m args below meth c Q (px_max M) n0 z0 ad0 pc' ls' (px_psh (px_ret t) v st') w1) : sg_G E p l e R s m args below meth c Q (px_max M) n0 z0 ad0 pc ls st w := by
  obtain ⟨hx, hb, hml, hown, hts, hini, hdec, hlok, hfr, hlo, hbase, hE, hL, ho⟩ := C
  have hK := hE.2.2.2.2.2.2.2.2.2.2.1
  cases e1 : px_find (px_cal (px_own M)) idx with
  | none => unfold px_inv at ha; rw [e1] at ha; cases ha
  | some q =>
    obtain ⟨kd, t'⟩ := q
    have hsite := px_sites (px_own M) _ (px_fmem e1)
    have hlens := px_lens (px_own M) ho _ (px_fmem e1)
    dsimp only at hsite hlens
    unfold px_inv at ha
    rw [e1] at ha
    split at ha
    · obtain ⟨-, ha⟩ := px_bif ha
      obtain ⟨x, st, rfl, ha2⟩ := px_r1_s ha
      have ha := ha2
      obtain ⟨-, ha⟩ := px_bif ha
      cases ha
    · obtain ⟨-, ha⟩ := px_bif ha
      split at ha
      · obtain ⟨-, ha⟩ := px_bif ha
        cases ha
      · cases ha
    · obtain ⟨-, ha⟩ := px_bif ha
      split at ha
      · obtain ⟨-, ha⟩ := px_bif ha
        cases ha
      · cases ha
    · obtain ⟨-, ha⟩ := px_bif ha
      obtain ⟨x, st, rfl, ha2⟩ := px_i1_s ha
      have ha := ha2
      obtain ⟨-, ha⟩ := px_bif ha
      cases ha
    · obtain ⟨-, ha⟩ := px_bif ha
      obtain ⟨x, y, st, rfl, ha2⟩ := px_i2_s ha
      have ha := ha2
      obtain ⟨-, ha⟩ := px_bif ha
      cases ha
    · obtain ⟨-, ha⟩ := px_bif ha
      obtain ⟨x, y, st, rfl, ha2⟩ := px_i2_s ha
      have ha := ha2
      obtain ⟨-, ha⟩ := px_bif ha
      cases ha
    · rename_i k1 t1 n5 n6 n7 n8 n9 n10 heq
      cases heq
      obtain ⟨h0, ha⟩ := px_bif ha
      rw [Bool.and_eq_true, Bool.and_eq_true] at h0
      obtain ⟨hk, hdp, hlc⟩ := h0
      have hdp : px_dep t' + 1 ≤ px_dep M := Nat.le_of_ble_eq_true hdp
      have hlc := Nat.le_of_ble_eq_true hlc
      split at ha
      · rename_i as1 st1 e2
        obtain ⟨h0, ha⟩ := px_bif ha
        rw [Bool.and_eq_true] at h0
        obtain ⟨hty, hcat⟩ := h0
        have hcat := Nat.le_of_ble_eq_true hcat
        cases ha
        obtain ⟨ts, hts1, rfl, has⟩ := px_pop_s _ _ _ _ _ e2
        rw [List.append_nil] at has
        obtain ⟨hlen, hhd⟩ := px_tys_len hty
        intro la sa H locs cells slots ws hR
        obtain ⟨g1, g2, gw1, gP, gD, gS, gn, gz, x3, g3⟩ := hR
        obtain ⟨tv, sa, rfl, g2a, g2b⟩ := sr_st_app2 g2
        have hrev := sr_st_rev g2a
        rw [← has] at hrev
        have hAs : tv.reverse.length = (px_arg t).length := by rw [← sr_st_len hrev]; exact hlen
        have hsum := px_stcat g2b
        have hE2 : ∀ U : State, U.heap = H → s.WarmedH U.vm → sr_Pc E ws tv.reverse tv.reverse.toArray U := fun U hU hW => ⟨rfl, by rw [hU]; exact Nat.le_trans hbase gS.1, by rw [hU]; exact gP, gD, by rw [hU]; exact (se_E.warm hW hE).kept gS.1 gS.2.1⟩
        have g1' := g1
        obtain ⟨-, lv, h4, -⟩ := g1
        -- behind the call
        have after : ∀ (ws1 : va_W) (H1 : Heap) (locs1 : List Loc) (t2 : State) (vs : List Value), t2.heap = H1 → sr_B E w1 ws ws1 t2 → va_S (se_A E) s.heap H1 locs1 → sr_st E (sr_ad ws1) (px_psh (px_ret t) v st') (vs ++ sa) → W p l e R s m args below meth c H1 locs1 (cells + (w1.1.length - w.1.length)) (slots + (px_sz w1.1 - px_sz w.1)) Q (F0 m (pc + 3) la (vs ++ sa)) := by
          intro ws1 H1 locs1 t2 vs hh hB hS1 hst
          obtain ⟨b1, b2, b3, x, b4⟩ := hB
          rw [hh] at b1
          exact k la _ H1 locs1 _ _ ws1 ⟨by rw [b4]; exact sr_ls_app g1', hst, b3, b1, b2, hS1, by have := hmono.1; omega, by have := hmono.2; omega, x3 ++ x, by rw [b4, g3, List.append_assoc]⟩
        have run : ∀ {y : MethodName} {bb : ByteArray} {rt : Option FieldType} {nn : Nat} {a0 : Array Value}, px_okn t y bb rt nn → va_Run p l e R s m args below meth c H locs cells slots (w1.1.length - w.1.length) (px_sz w1.1 - px_sz w.1) (F0 m pc la (tv ++ sa)) sa (sr_Qc E (px_ret t) v w1 ws a0) (se_A E) → W p l e R s m args below meth c H locs cells slots Q (F0 m pc la (tv ++ sa)) := by
          intro y bb rt nn a0 hok hr
          have hret := hok.2.2.2.2.1
          simp only [List.mem_cons, Prod.mk.injEq, List.not_mem_nil, or_false] at hret
          rcases hret with ⟨hret, -⟩ | ⟨hret, -⟩ | ⟨hret, -⟩ | ⟨hret, -⟩
          · rw [hret] at hr after
            refine va_calli (a := a0) hr gS (fun q _ h => h) (fun q h => h) (fun r u t2 H1 locs1 ht hvm hp hB hz1 hk1 hS1 => ?_)
            exact after u H1 locs1 t2 [.int r] ht hB hS1 (by obtain ⟨-, -, -, x, b4⟩ := hB; rw [b4]; exact sr_mki hp (sr_st_app g2b))
          · rw [hret] at hr after
            refine va_calli (a := a0) hr gS (fun q _ h => h) (fun q h => h) (fun r u t2 H1 locs1 ht hvm hp hB hz1 hk1 hS1 => ?_)
            exact after u H1 locs1 t2 [.int r] ht hB hS1 (by obtain ⟨-, -, -, x, b4⟩ := hB; rw [b4]; exact sr_mki hp (sr_st_app g2b))
          · rw [hret] at hr after
            refine va_calll (a := a0) hr gS (fun q _ h => h) (fun q h => h) (fun r u t2 H1 locs1 ht hvm hp hB hz1 hk1 hS1 => ?_)
            exact after u H1 locs1 t2 [.long r] ht hB hS1 (by obtain ⟨-, -, -, x, b4⟩ := hB; rw [b4]; exact sr_mkl hp (sr_st_app g2b))
          · rw [hret] at hr after
            refine va_callv (a := a0) hr gS (fun q _ h => h) (fun q h => h) (fun u t2 H1 locs1 ht hvm hp hB hz1 hk1 hS1 => ?_)
            exact after u H1 locs1 t2 [] ht hB hS1 (by obtain ⟨-, -, -, x, b4⟩ := hB; rw [b4]; exact sr_st_app g2b)
        have hroom : (sr_rm t (w1.1.length - w.1.length) (px_sz w1.1 - px_sz w.1)).frames + 1 ≤ R.frames ∧ 8 + (px_max t + 11) + (sr_rm t (w1.1.length - w.1.length) (px_sz w1.1 - px_sz w.1)).locals ≤ R.locals := ⟨by show px_dep t + 1 ≤ _; omega, by show 8 + (px_max t + 11) + px_loc t ≤ _; omega⟩
        have hcs : cells + (w1.1.length - w.1.length) ≤ R.cells ∧ slots + (px_sz w1.1 - px_sz w.1) ≤ R.slots := ⟨by have := hmono.1; omega, by have := hmono.2; omega⟩
        -- the receiver
        have hrecv : px_own t < 10 → (px_arg t).head? = some 2 → (bif Nat.beq kd 0 then true else px_go w (px_nth as 0).2 (px_own t)) = true → ¬ kd = 0 → ∃ (a : Nat) (As : List Value), tv.reverse = .ref a :: As ∧ (∃ cellB : Cell, H[a]? = some cellB ∧ cellB.vm.isStatics = false ∧ s.vm.findClass (px_nm (px_own t)) = some cellB.cls) := by
          intro h10 h2 hgd hk0
          obtain ⟨x, as', rfl⟩ := hhd 2 h2
          have hgo : px_go w x (px_own t) = true := by
            cases e5 : Nat.beq kd 0
            · rw [e5] at hgd; exact hgd
            · exact absurd (Nat.eq_of_beq_eq_true e5) hk0
          obtain ⟨v0, vs0, h5, h6, h7⟩ := sr_st1 hrev
          obtain ⟨q, a, fs, o1, o2, rfl, o3, -⟩ := sr_obj gw1 h6 hgo h10
          exact ⟨a, vs0, h5, va_recv hK gP (px_cl_at h10) o2⟩
        rcases hsite with ⟨h, -⟩ | ⟨h, -⟩ | ⟨h, -⟩ | ⟨⟨h, h'⟩, -⟩ | ⟨y, bb, rt, hs⟩
        · exact absurd h n5
        · exact absurd h n6
        · exact absurd h n7
        · rcases (show kd = 8 ∨ kd = 9 ∨ kd = 10 by omega) with h | h | h
          · exact absurd h n8
          · exact absurd h n9
          · exact absurd h n10
        · rcases hs with ⟨hk0, hok, w1', w2', w3'⟩ | ⟨hk0, hok, w1', w2', w3', w4', w5', w6'⟩ | ⟨hk0, hok, w1', w2', w3', w4', w5', w6', w7'⟩ | ⟨hk0, hok, w1', w2', w3', w4', w5', w6', w7'⟩
          · subst hk0
            have hi' := px_kin_0 hi hk
            subst hi'
            have hMet := hM hty hlens y bb rt _ hok ws _ hrev gw1
            refine run hok (va_runS (As := tv.reverse) (own := px_nm (px_own M)) ⟨hx, hb, hml, hown, hts⟩ hMet (va_cwS (px_arg t).length hts (gw_S w1' w2' w3' hok.1) rfl rfl rfl hok.2.2.2.2.2.1 hroom) ⟨sr_blind E ws _, hE2⟩ rfl hAs h4.1 (by rw [List.reverse_reverse]) (lv_room (by omega)) hd hcs)
          · subst hk0
            have hi' := px_kin_1 hi hk
            subst hi'
            obtain ⟨a, As, hA1, hA2⟩ := hrecv w6' w5' hg (by decide)
            have hMet := hM hty hlens y bb rt _ hok ws _ hrev gw1
            have hcls : y.cls = px_nm (px_own t) := hok.2.2.1
            rw [hA1] at hMet hE2 hAs
            have hAl : As.length = (px_arg t).length - 1 := by rw [List.length_cons] at hAs; omega
            refine run hok (va_runV (As := As) (b := a) (C := y.cls) (own := px_nm (px_own M)) ⟨hx, hb, hml, hown, hts⟩ hMet (cwV ((px_arg t).length - 1) hts (gw_V w1' w2' w3' w4' hok.1) rfl rfl rfl ⟨rfl, hok.2.2.2.2.2.1⟩ hroom) ⟨sr_blind E ws _, by rw [hcls]; exact hA2, hE2⟩ rfl hAl h4.1 (by rw [← List.reverse_reverse tv, hA1, List.reverse_cons, List.append_assoc]; rfl) (lv_room (by omega)) hd hcs)
          · subst hk0
            have hi' := px_kin_3 hi (by decide) hk
            subst hi'
            obtain ⟨a, As, hA1, hA2⟩ := hrecv w6' w5' hg (by decide)
            subst w7'
            have hMet := hM hty hlens y bb none _ hok ws _ hrev gw1
            rw [hA1] at hMet hE2 hAs
            have hAl : As.length = (px_arg t).length - 1 := by rw [List.length_cons] at hAs; omega
            refine run hok (va_runI (As := As) (b := a) (own := px_nm (px_own M)) ⟨hx, hb, hml, hown, hts⟩ hMet (cwI ((px_arg t).length - 1) hts (gw_good (gw_cons hok.1)) rfl rfl rfl (hts _ w3') (hts _ w1') (hts _ w2') w4' hok.2.2.2.2.2.1 hroom) ⟨sr_blind E ws _, hE2⟩ rfl hAl h4.1 (by rw [← List.reverse_reverse tv, hA1, List.reverse_cons, List.append_assoc]; rfl) (lv_room (by omega)) hd hcs)
          · subst hk0
            have hi' := px_kin_3 hi (by decide) hk
            subst hi'
            obtain ⟨a, As, hA1, hA2⟩ := hrecv w6' w5' hg (by decide)
            subst w7'
            have hMet := hM hty hlens y bb none _ hok ws _ hrev gw1
            rw [hA1] at hMet hE2 hAs
            have hAl : As.length = (px_arg t).length - 1 := by rw [List.length_cons] at hAs; omega
            refine run hok (va_runIN (As := As) (b := a) (own := px_nm (px_own M)) (host := "TinString") ⟨hx, hb, hml, hown, hts⟩ hMet ⟨va_cnB ((px_arg t).length - 1) hts (gw_good (gw_cons hok.1)) rfl rfl rfl (hE.2.2.2.2.2.2.1 _ w1') (hts _ w3') hok.2.2.2.2.2.1 hroom, w4', hts _ w2'⟩ ⟨sr_blind E ws _, hE2⟩ rfl hAl h4.1 (by rw [← List.reverse_reverse tv, hA1, List.reverse_cons, List.append_assoc]; rfl) (lv_room (by omega)) hd hcs)
      · cases ha
    · cases ha
end SP
