/-! Switches, what is called of the JDK, calls, returns. -/
def px_swr (x : Int) (d : Nat) : List (Int × Nat) → Nat
  | [] => d
  | (k, t) :: l => if x = k then t else px_swr x d l
theorem px_sw_r (x : Int) (J : Nat → Option pr) (d : Nat) : ∀ l, px_sw x (J d) J l = J (px_swr x d l)
  | [] => rfl
  | (k, t) :: l => by
    unfold px_sw px_swr
    by_cases h : x = k
    · rw [if_pos h, if_pos h]
    · rw [if_neg h, if_neg h]
      exact px_sw_r x J d l
theorem px_swc_s {pc : Nat} : ∀ (offs : List Int) (lo : Int) (l : List (Int × Nat)), px_swc pc lo offs = some l → l.length = offs.length ∧ (∀ x d, (x < lo ∨ lo + (offs.length : Int) ≤ x) → px_swr x d l = d) ∧ ∀ x d, lo ≤ x → x < lo + (offs.length : Int) → ∃ o, offs[(x - lo).toNat]? = some o ∧ (pc : Int) + o = ((px_swr x d l : Nat) : Int)
  | [], lo, l, h => by
    cases h
    exact ⟨rfl, fun _ _ _ => rfl, fun x d h1 h2 => absurd h2 (by simp; omega)⟩
  | o :: os, lo, l, h => by
    unfold px_swc at h
    cases e1 : px_tgt pc o with
    | none => rw [e1] at h; cases h
    | some t =>
      cases e2 : px_swc pc (lo + 1) os with
      | none => rw [e1, e2] at h; cases h
      | some r =>
        rw [e1, e2] at h
        cases h
        obtain ⟨h1, h2, h3⟩ := px_swc_s os (lo + 1) r e2
        refine ⟨congrArg (· + 1) h1, fun x d hx => ?_, fun x d hx1 hx2 => ?_⟩
        · rw [List.length_cons] at hx
          unfold px_swr
          rw [if_neg (by omega)]
          exact h2 x d (by omega)
        · rw [List.length_cons] at hx2
          unfold px_swr
          by_cases hx : x = lo
          · rw [if_pos hx]
            refine ⟨o, ?_, px_tgt_s e1⟩
            rw [show (x - lo).toNat = 0 by omega]
            rfl
          · rw [if_neg hx]
            obtain ⟨o', h4, h5⟩ := h3 x d (by omega) (by omega)
            refine ⟨o', ?_, h5⟩
            rw [show (x - lo).toNat = (x - (lo + 1)).toNat + 1 by omega, List.getElem?_cons_succ]
            exact h4
theorem sr_st_app2 {E : se} {ad : List Nat} : ∀ {a b : List pv} {sa : List Value}, sr_st E ad (a ++ b) sa → ∃ va vb, sa = va ++ vb ∧ sr_st E ad a va ∧ sr_st E ad b vb
  | [], b, sa, h => ⟨[], sa, rfl, trivial, h⟩
  | q :: a, b, sa, h => by
    obtain ⟨v, vs, rfl, h1, h2⟩ := sr_st1 (st := a ++ b) h
    obtain ⟨va, vb, rfl, h3, h4⟩ := sr_st_app2 h2
    exact ⟨v :: va, vb, rfl, ⟨h1, h3⟩, h4⟩
theorem sr_st_join {E : se} {ad : List Nat} : ∀ {a b : List pv} {va vb : List Value}, sr_st E ad a va → sr_st E ad b vb → sr_st E ad (a ++ b) (va ++ vb)
  | [], _, [], _, _, h => h
  | _ :: _, _, _ :: _, _, h1, h2 => ⟨h1.1, sr_st_join h1.2 h2⟩
  | [], _, _ :: _, _, h, _ => h.elim
  | _ :: _, _, [], _, h, _ => h.elim
theorem sr_st_rev {E : se} {ad : List Nat} : ∀ {a : List pv} {va : List Value}, sr_st E ad a va → sr_st E ad a.reverse va.reverse
  | [], [], _ => trivial
  | q :: a, v :: va, h => by
    rw [List.reverse_cons, List.reverse_cons]
    exact sr_st_join (sr_st_rev h.2) ⟨h.1, trivial⟩
  | [], _ :: _, h => h.elim
  | _ :: _, [], h => h.elim
theorem sr_st_len {E : se} {ad : List Nat} : ∀ {a : List pv} {va : List Value}, sr_st E ad a va → a.length = va.length
  | [], [], _ => rfl
  | _ :: _, _ :: _, h => congrArg (· + 1) (sr_st_len h.2)
  | [], _ :: _, h => h.elim
  | _ :: _, [], h => h.elim
theorem px_pop_s : ∀ (n : Nat) (acc st as st' : List pv), px_pop n acc st = some (as, st') → ∃ ts, ts.length = n ∧ st = ts ++ st' ∧ as = ts.reverse ++ acc
  | 0, acc, st, as, st', h => by
    cases h
    exact ⟨[], rfl, rfl, rfl⟩
  | n + 1, acc, [], as, st', h => by cases h
  | n + 1, acc, a :: st, as, st', h => by
    obtain ⟨ts, h1, h2, h3⟩ := px_pop_s n (a :: acc) st as st' h
    refine ⟨a :: ts, congrArg (· + 1) h1, by rw [h2]; rfl, ?_⟩
    rw [h3, List.reverse_cons, List.append_assoc]
    rfl
def sr_Pc (E : se) (ws : va_W) (As : List Value) : Array Value → State → Prop := fun a U => a = As.toArray ∧ se_b E ≤ U.heap.size ∧ va_P (se_D E) px_cl ws U.heap ∧ va_D (se_A E) ws ∧ se_E E U U.heap
def sr_B (E : se) (w1 : pw) (ws ws1 : va_W) (t : State) : Prop := va_P (se_D E) px_cl ws1 t.heap ∧ va_D (se_A E) ws1 ∧ sr_w E w1 ws1 ∧ ∃ x, sr_ad ws1 = sr_ad ws ++ x
def sr_Qc (E : se) (rt : Nat) (v : Int) (w1 : pw) (ws : va_W) : Array Value → State → Outcome → State → Prop := match rt with
  | 9 => va_Qv (S := va_W) (fun _ => True) (sr_B E w1 ws) (se_A E)
  | 1 => va_Ql (S := va_W) (fun r _ => r.toInt = v) (sr_B E w1 ws) (se_A E)
  | _ => va_Qi (S := va_W) (fun r _ => r.toInt = v) (sr_B E w1 ws) (se_A E)
def sr_rm (t : pm) (mc ms : Nat) : Room := { frames := px_dep t, cells := mc, slots := ms, locals := px_loc t }
def sr_Met (l : Launch) (E : se) (t : pm) (y : MethodName) (b : ByteArray) (rt : Option FieldType) (as : List pv) (w : pw) (v : Int) (w1 : pw) : Prop :=
  ∀ (ws : va_W) (As : List Value), sr_st E (sr_ad ws) as As → sr_w E w ws → Met l y (Cond.code y b (px_max t) rt :: gw) (sr_rm t (w1.1.length - w.1.length) (px_sz w1.1 - px_sz w.1)) (sr_Pc E ws As) (sr_Qc E (px_ret t) v w1 ws) (w1.1.length - w.1.length) (px_sz w1.1 - px_sz w.1) (se_A E)
theorem sr_blind (E : se) (ws : va_W) (As : List Value) : FrameBlind (sr_Pc E ws As) := fun a U g mk h => ⟨h.1, h.2.1, h.2.2.1, h.2.2.2.1, se_E.same (u := U) rfl h.2.2.2.2⟩
theorem px_lens : ∀ c, c < 14 → ∀ e ∈ px_cal c, ∀ x ∈ px_cod e.2.2, px_lok x.2.1 x.2.2 = true := by decide +kernel
section SP
variable {E : se} {p : Program} {l : Launch} {e : Env} {R : Room} {s : State} {m : MethodId} {args : Array Value} {below : List Frame} {meth : Method} {c : Code} {Q : State → Prop} {n0 z0 : Nat} {ad0 : List Nat} {b : ByteArray} {M : pm} {pc pc' n : Nat} {ls st ls' st' : List pv} {w w' : pw} {g : Bool}
theorem sp_switch {d lo hi : Int} {offs : Array Int} {x : Int} {cs : List (Int × Nat)} {d' : Nat} (C : sr_C E p R s m args meth c b M) (hd : decode b pc = .ok (.tableswitch d lo hi offs, n)) (ha : px_act M pc (.tableswitch d lo hi offs) n ls st w = some (.inr (.inr (.inr (.inl (x, cs, d', ls', st', w')))))) (k : sg_G E p l e R s m args below meth c Q (px_max M) n0 z0 ad0 (px_swr x d' cs) ls' st' w') : sg_G E p l e R s m args below meth c Q (px_max M) n0 z0 ad0 pc ls st w := by
  obtain ⟨hx, hb, hml, hown, hts, hini, hdec, hlok, hfr, hlo, hbase, hE, hL, ho⟩ := C
  obtain ⟨x0, st, rfl, ha2⟩ := px_i1_s ha
  have ha := ha2
  cases e1 : px_tgt pc d with
  | none => rw [e1] at ha; cases ha
  | some t =>
    cases e2 : px_swc pc lo offs.toList with
    | none => rw [e1, e2] at ha; cases ha
    | some r =>
      rw [e1, e2] at ha
      obtain ⟨h0, ha⟩ := px_bif ha
      cases ha
      have h0 : hi = lo + (cs.length : Int) - 1 := by simpa using h0
      obtain ⟨h1, h2, h3⟩ := px_swc_s _ _ _ e2
      intro la sa H locs cells slots ws hR
      obtain ⟨g1, g2, g3⟩ := hR
      obtain ⟨y, sa, rfl, hy, g2a⟩ := sr_sti g2
      have kk := k la sa H locs cells slots ws ⟨g1, g2a, g3⟩
      by_cases hin : lo ≤ x ∧ x < lo + (offs.toList.length : Int)
      · obtain ⟨o, h4, h5⟩ := h3 x d' hin.1 hin.2
        refine lv_tableIn (off := o) hx hb hd (by rw [hy]; omega) (by rw [hy]; omega) (by rw [hy]; rw [← Array.getElem?_toList]; exact h4) h5 kk
      · rw [h2 x d' (by omega)] at kk
        exact lv_tableOut hx hb hd (by rw [hy]; omega) (px_tgt_s e1) kk
end SP
