/-! How a machine's frame and heap are a pure machine's locals, stack and world. -/
def sr_o (ad : List Nat) (x : Int) (o : Option Nat) : Prop := (x = 0 ∧ o = none) ∨ ∃ (k a : Nat), x = (k : Int) + 1 ∧ ad[k]? = some a ∧ o = some a
def sr_v (E : se) (ad : List Nat) (q : pv) (v : Value) : Prop := match q.1 with
  | 0 => ∃ y : Int32, v = .int y ∧ y.toInt = q.2
  | 1 => ∃ y : Int64, v = .long y ∧ y.toInt = q.2
  | 2 => ∃ o, v = va_rf o ∧ sr_o ad q.2 o
  | 3 => ∃ i : Nat, i < 10 ∧ q.2 = (i : Int) ∧ v = .ref (se_K E i)
  | 4 => ∃ i : Nat, i < 4 ∧ q.2 = (i : Int) ∧ v = .ref (se_S E i)
  | 5 => q.2 = (se_L E : Int) ∧ v = .ref (se_s E)
  | _ => False
def sr_st (E : se) (ad : List Nat) : List pv → List Value → Prop
  | [], [] => True
  | q :: l, v :: vs => sr_v E ad q v ∧ sr_st E ad l vs
  | _, _ => False
def sr_ls (E : se) (ad : List Nat) (n : Nat) (ls : List pv) (la : Array Slot) : Prop :=
  ls.length = n ∧ ∃ lv, lv_has la n lv ∧ ∀ i, (px_nth ls i).1 < 6 → ∃ v, (i, v) ∈ lv ∧ sr_v E ad (px_nth ls i) v
/-- a cell -/
def sr_e (E : se) (ad : List Nat) (kd : Nat × Nat) (f : Nat → Int) (e : va_E) : Prop :=
  ((kd.1 = 0 ∨ kd.1 = 2 ∨ kd.1 = 3) ∧ ∃ (c : ClassId) (g : Nat → Int32), e = .inl (c, kd.2, .inl g) ∧ (se_T E)[kd.1]? = some (c, px_kty kd.1) ∧ ∀ j, j < kd.2 → (g j).toInt = f j) ∨
  (kd.1 = 1 ∧ ∃ (c : ClassId) (g : Nat → Int64), e = .inl (c, kd.2, .inr (.inl g)) ∧ (se_T E)[1]? = some (c, .long) ∧ ∀ j, j < kd.2 → (g j).toInt = f j) ∨
  ((4 ≤ kd.1 ∧ kd.1 ≤ 6) ∧ ∃ (c : ClassId) (g : Nat → Option Nat), e = .inl (c, kd.2, .inr (.inr (.inr (.inr g)))) ∧ (se_T E)[kd.1]? = some (c, px_kty kd.1) ∧ ∀ j, j < kd.2 → sr_o ad (f j) (g j)) ∨
  (∃ ci, ci < 10 ∧ kd = (10 + ci, px_nfl ci) ∧ ∃ fs, e = .inr (ci, fs) ∧ fs.length = px_nfl ci ∧ ∀ j, j < px_nfl ci → ∃ v, fs[j]? = some v ∧ sr_v E ad (px_ftg ci j, f j) v)
def sr_ad (ws : va_W) : List Nat := ws.map fun q => q.1
def sr_w (E : se) (w : pw) (ws : va_W) : Prop :=
  w.1.length = ws.length + 1 ∧ px_kds w.1 0 = (99, 0) ∧ (∀ k, k < ws.length → ∃ (a : Nat) (e : va_E), ws[k]? = some (a, e) ∧ sr_e E (sr_ad ws) (px_kds w.1 (k + 1)) (w.2 (k + 1)) e) ∧ (∀ j, j < se_L E → w.2 0 j = (se_x E j).toInt)
theorem px_kds_out : ∀ (l : List (Nat × Nat)) (k : Nat), l.length ≤ k → px_kds l k = (99, 0)
  | [], _, _ => rfl
  | _ :: l, 0, h => absurd h (by simp)
  | _ :: l, k + 1, h => px_kds_out l k (by simpa using h)
theorem px_kds_app : ∀ (l m : List (Nat × Nat)) (k : Nat), k < l.length → px_kds (l ++ m) k = px_kds l k
  | [], _, _, h => absurd h (by simp)
  | _ :: l, m, 0, _ => rfl
  | _ :: l, m, k + 1, h => px_kds_app l m k (by simpa using h)
theorem px_kds_app2 : ∀ (l m : List (Nat × Nat)) (k : Nat), px_kds (l ++ m) (l.length + k) = px_kds m k
  | [], m, k => by simp
  | _ :: l, m, k => by
    rw [List.length_cons, show l.length + 1 + k = (l.length + k) + 1 by omega]
    exact px_kds_app2 l m k
theorem px_kds_rep : ∀ (n : Nat) (x : Nat × Nat) (k : Nat), k < n → px_kds (List.replicate n x) k = x
  | 0, _, _, h => absurd h (by simp)
  | n + 1, _, 0, _ => rfl
  | n + 1, x, k + 1, h => px_kds_rep n x k (by omega)
theorem sr_o_app {ad l : List Nat} {x : Int} {o : Option Nat} (h : sr_o ad x o) : sr_o (ad ++ l) x o := by
  rcases h with h | ⟨k, a, h1, h2, h3⟩
  · exact Or.inl h
  · exact Or.inr ⟨k, a, h1, by rw [List.getElem?_append_left (List.getElem?_eq_some_iff.mp h2).1]; exact h2, h3⟩
theorem sr_v_app {E : se} {ad l : List Nat} : ∀ {q : pv} {v : Value}, sr_v E ad q v → sr_v E (ad ++ l) q v
  | (0, _), _, h => h
  | (1, _), _, h => h
  | (2, x), v, h => by
    have h' : ∃ o, v = va_rf o ∧ sr_o ad x o := h
    obtain ⟨o, h1, h2⟩ := h'
    exact ⟨o, h1, sr_o_app h2⟩
  | (3, _), _, h => h
  | (4, _), _, h => h
  | (5, _), _, h => h
  | (_ + 6, _), _, h => h.elim
theorem sr_st_app {E : se} {ad l : List Nat} : ∀ {st : List pv} {sa : List Value}, sr_st E ad st sa → sr_st E (ad ++ l) st sa
  | [], [], _ => trivial
  | _ :: _, _ :: _, h => ⟨sr_v_app h.1, sr_st_app h.2⟩
  | [], _ :: _, h => h.elim
  | _ :: _, [], h => h.elim
theorem sr_ls_app {E : se} {ad l : List Nat} {n : Nat} {ls : List pv} {la : Array Slot} (h : sr_ls E ad n ls la) : sr_ls E (ad ++ l) n ls la := by
  obtain ⟨h1, lv, h2, h3⟩ := h
  refine ⟨h1, lv, h2, fun i hi => ?_⟩
  obtain ⟨v, a, b⟩ := h3 i hi
  exact ⟨v, a, sr_v_app b⟩
theorem sr_e_app {E : se} {ad l : List Nat} {kd : Nat × Nat} {f : Nat → Int} {e : va_E} (h : sr_e E ad kd f e) : sr_e E (ad ++ l) kd f e := by
  rcases h with h | h | ⟨h, c, g, h1, h2, h3⟩ | ⟨ci, h0, h1, fs, h2, h3, h4⟩
  · exact Or.inl h
  · exact Or.inr (Or.inl h)
  · exact Or.inr (Or.inr (Or.inl ⟨h, c, g, h1, h2, fun j hj => sr_o_app (h3 j hj)⟩))
  · refine Or.inr (Or.inr (Or.inr ⟨ci, h0, h1, fs, h2, h3, fun j hj => ?_⟩))
    obtain ⟨v, a, b⟩ := h4 j hj
    exact ⟨v, a, sr_v_app b⟩
theorem sr_e_fun {E : se} {ad : List Nat} {kd : Nat × Nat} {f f' : Nat → Int} {e : va_E} (hf : ∀ j, f' j = f j) (h : sr_e E ad kd f e) : sr_e E ad kd f' e := by
  rw [show f' = f from funext hf]
  exact h
/-- a reference that is no null names a cell -/
theorem sr_ref {E : se} {w : pw} {ws : va_W} {r : Int} {v : Value} (hw : sr_w E w ws) (hv : sr_v E (sr_ad ws) (2, r) v) (hk : (px_kd w r).1 ≠ 99) : ∃ (k a : Nat) (e : va_E), r = (k : Int) + 1 ∧ r.toNat = k + 1 ∧ ws[k]? = some (a, e) ∧ v = .ref a ∧ sr_e E (sr_ad ws) (px_kd w r) (w.2 (k + 1)) e := by
  obtain ⟨o, rfl, ho⟩ := hv
  rcases ho with ⟨h0, rfl⟩ | ⟨k, a, h1, h2, rfl⟩
  · dsimp only at h0
    subst h0
    exact absurd (congrArg Prod.fst hw.2.1) hk
  · dsimp only at h1
    have hkl : k < ws.length := by
      have := (List.getElem?_eq_some_iff.mp h2).1
      simpa [sr_ad] using this
    obtain ⟨a', e, h3, h4⟩ := hw.2.2.1 k hkl
    have hn : r.toNat = k + 1 := by omega
    refine ⟨k, a, e, h1, hn, ?_, rfl, ?_⟩
    · have : (sr_ad ws)[k]? = some a' := by simp [sr_ad, h3]
      rw [h2] at this
      cases this
      exact h3
    · unfold px_kd
      rw [hn]
      exact h4
theorem sr_ad_set {ws : va_W} {k a : Nat} {e e' : va_E} (h : ws[k]? = some (a, e)) : sr_ad (ws.set k (a, e')) = sr_ad ws := by
  unfold sr_ad
  apply List.ext_getElem?
  intro i
  rw [List.getElem?_map, List.getElem?_map]
  by_cases hi : i = k
  · subst hi
    rw [List.getElem?_set_self (List.getElem?_eq_some_iff.mp h).1, h]
    rfl
  · rw [List.getElem?_set_ne (fun q => hi q.symm)]
/-- a write of one slot -/
theorem sr_w_set {E : se} {w : pw} {ws : va_W} {k a : Nat} {e e' : va_E} {r : Int} {j : Nat} {v : Int} (hw : sr_w E w ws) (hr : r.toNat = k + 1) (h : ws[k]? = some (a, e)) (he : sr_e E (sr_ad ws) (px_kds w.1 (k + 1)) (fun b => if b = j then v else w.2 (k + 1) b) e') : sr_w E (px_wr w r j v) (ws.set k (a, e')) := by
  obtain ⟨h1, h2, h3, h4⟩ := hw
  have hk := (List.getElem?_eq_some_iff.mp h).1
  refine ⟨by rw [List.length_set]; exact h1, h2, fun i hi => ?_, fun i hi => ?_⟩
  · rw [List.length_set] at hi
    rw [sr_ad_set h]
    by_cases hik : i = k
    · subst hik
      refine ⟨a, e', List.getElem?_set_self hk, sr_e_fun (fun b => ?_) he⟩
      show (if i + 1 = r.toNat ∧ b = j then v else w.2 (i + 1) b) = _
      by_cases hb : b = j <;> simp [hb, hr]
    · obtain ⟨a2, e2, g1, g2⟩ := h3 i hi
      refine ⟨a2, e2, by rw [List.getElem?_set_ne (fun q => hik q.symm)]; exact g1, sr_e_fun (fun b => ?_) g2⟩
      show (if i + 1 = r.toNat ∧ b = j then v else w.2 (i + 1) b) = _
      rw [if_neg (fun q => hik (by have := q.1; omega))]
  · show (if 0 = r.toNat ∧ i = j then v else w.2 0 i) = _
    rw [if_neg (fun q => by have := q.1; omega)]
    exact h4 i hi
/-- cells more -/
theorem sr_w_app {E : se} {w w' : pw} {ws wn : va_W} {ks : List (Nat × Nat)} (hw : sr_w E w ws) (h1 : w'.1 = w.1 ++ ks) (hl : ks.length = wn.length) (hold : ∀ k, k < w.1.length → ∀ j, w'.2 k j = w.2 k j) (hnew : ∀ k, k < wn.length → ∃ (a : Nat) (e : va_E), wn[k]? = some (a, e) ∧ sr_e E (sr_ad (ws ++ wn)) (px_kds ks k) (w'.2 (w.1.length + k)) e) : sr_w E w' (ws ++ wn) := by
  obtain ⟨g1, g2, g3, g4⟩ := hw
  have ea : sr_ad (ws ++ wn) = sr_ad ws ++ sr_ad wn := List.map_append
  refine ⟨by rw [h1, List.length_append, List.length_append]; omega, by rw [h1, px_kds_app _ _ _ (by omega)]; exact g2, fun k hk => ?_, fun j hj => by rw [hold 0 (by omega)]; exact g4 j hj⟩
  rw [List.length_append] at hk
  by_cases hks : k < ws.length
  · obtain ⟨a, e, q1, q2⟩ := g3 k hks
    refine ⟨a, e, by rw [List.getElem?_append_left hks]; exact q1, ?_⟩
    rw [ea, h1, px_kds_app _ _ _ (by omega)]
    exact sr_e_fun (hold (k + 1) (by omega)) (sr_e_app q2)
  · obtain ⟨a, e, q1, q2⟩ := hnew (k - ws.length) (by omega)
    refine ⟨a, e, by rw [List.getElem?_append_right (by omega)]; exact q1, ?_⟩
    rw [h1, show k + 1 = w.1.length + (k - ws.length) by omega, px_kds_app2]
    exact q2
/-- locals -/
theorem px_nth_out : ∀ (l : List pv) (k : Nat), l.length ≤ k → px_nth l k = (9, 0)
  | [], _, _ => rfl
  | _ :: l, 0, h => absurd h (by simp)
  | _ :: l, k + 1, h => px_nth_out l k (by simpa using h)
theorem px_set_len : ∀ (l : List pv) (k : Nat) (v : pv), (px_set l k v).length = l.length
  | [], _, _ => rfl
  | _ :: _, 0, _ => rfl
  | _ :: l, k + 1, v => congrArg (· + 1) (px_set_len l k v)
theorem px_nth_set : ∀ (l : List pv) (k j : Nat) (v : pv), px_nth (px_set l k v) j = if j = k ∧ k < l.length then v else px_nth l j
  | [], k, j, v => by simp [px_set, px_nth]
  | a :: l, 0, 0, v => by simp [px_set, px_nth]
  | a :: l, 0, j + 1, v => by simp [px_set, px_nth]
  | a :: l, k + 1, 0, v => by simp [px_set, px_nth]
  | a :: l, k + 1, j + 1, v => by
    simp only [px_set, px_nth, List.length_cons]
    rw [px_nth_set l k j v]
    by_cases h : j = k ∧ k < l.length
    · rw [if_pos h, if_pos ⟨by omega, by omega⟩]
    · rw [if_neg h, if_neg (fun q => h ⟨by omega, by omega⟩)]
theorem px_frc_eq {α : Type} : ∀ (l : List pv) (k : List pv → α), px_frc l k = k l
  | [], _ => rfl
  | a :: l, k => px_frc_eq l (fun l => k (a :: l))
theorem px_kil_s (l : List pv) (k : Nat) : px_kil l (k + 1) = bif Nat.beq (px_nth l k).1 1 then px_set l k (9, 0) else l := rfl
theorem px_kil_len (l : List pv) : ∀ k, (px_kil l k).length = l.length
  | 0 => rfl
  | k + 1 => by
    rw [px_kil_s]
    cases Nat.beq (px_nth l k).1 1
    · rfl
    · exact px_set_len _ _ _
theorem px_nth_kil (l : List pv) (k j : Nat) : px_nth (px_kil l k) j = if j + 1 = k ∧ (px_nth l j).1 = 1 then (9, 0) else px_nth l j := by
  cases k with
  | zero => rw [if_neg (fun q => by have := q.1; omega)]; rfl
  | succ k =>
    rw [px_kil_s]
    cases e : Nat.beq (px_nth l k).1 1
    · rw [if_neg (fun q => ?_)]
      · rfl
      · have : j = k := by have := q.1; omega
        subst this
        rw [q.2] at e
        cases e
    · have e1 : (px_nth l k).1 = 1 := Nat.eq_of_beq_eq_true e
      show px_nth (px_set l k (9, 0)) j = _
      rw [px_nth_set]
      by_cases h : j = k
      · subst h
        by_cases hl : j < l.length
        · rw [if_pos ⟨rfl, hl⟩, if_pos ⟨rfl, e1⟩]
        · rw [px_nth_out _ _ (by omega)] at e1
          cases e1
      · rw [if_neg (fun q => h q.1), if_neg (fun q => h (by have := q.1; omega))]
theorem sr_v_cat {E : se} {ad : List Nat} : ∀ {q : pv} {v : Value}, sr_v E ad q v → (v.category = if q.1 = 1 then 2 else 1)
  | (0, x), v, h => by
    have h' : ∃ y : Int32, v = .int y ∧ y.toInt = x := h
    obtain ⟨y, rfl, -⟩ := h'
    rfl
  | (1, x), v, h => by
    have h' : ∃ y : Int64, v = .long y ∧ y.toInt = x := h
    obtain ⟨y, rfl, -⟩ := h'
    rfl
  | (2, x), v, h => by
    have h' : ∃ o, v = va_rf o ∧ sr_o ad x o := h
    obtain ⟨o, rfl, -⟩ := h'
    cases o <;> rfl
  | (3, x), v, h => by
    have h' : ∃ i : Nat, i < 10 ∧ x = (i : Int) ∧ v = .ref (se_K E i) := h
    obtain ⟨i, -, -, rfl⟩ := h'
    rfl
  | (4, x), v, h => by
    have h' : ∃ i : Nat, i < 4 ∧ x = (i : Int) ∧ v = .ref (se_S E i) := h
    obtain ⟨i, -, -, rfl⟩ := h'
    rfl
  | (5, x), v, h => by
    have h' : x = (se_L E : Int) ∧ v = .ref (se_s E) := h
    obtain ⟨-, rfl⟩ := h'
    rfl
  | (_ + 6, _), _, h => h.elim
/-- a store of one slot -/
theorem sr_ls_st1 {E : se} {ad : List Nat} {n i : Nat} {ls : List pv} {la : Array Slot} {lv : List (Nat × Value)} {q : pv} {v : Value} (hn : ls.length = n) (h3 : ∀ i, (px_nth ls i).1 < 6 → ∃ v, (i, v) ∈ lv ∧ sr_v E ad (px_nth ls i) v) (hq : sr_v E ad q v) (hi : i < n) (hl : lv_has la n ((i, v) :: lv.filter (fun q => !(q.1 == i) && !(q.1 + 1 == i && q.2.category == 2)))) : sr_ls E ad n (px_st1 ls i q) la := by
  refine ⟨by unfold px_st1; rw [px_set_len, px_kil_len]; exact hn, _, hl, fun j hj => ?_⟩
  unfold px_st1 at hj ⊢
  rw [px_nth_set, px_kil_len] at hj ⊢
  by_cases e : j = i
  · rw [if_pos ⟨e, by omega⟩]
    exact ⟨v, by rw [e]; exact List.mem_cons_self, hq⟩
  · rw [if_neg (fun q => e q.1)] at hj ⊢
    rw [px_nth_kil] at hj ⊢
    by_cases e2 : j + 1 = i ∧ (px_nth ls j).1 = 1
    · rw [if_pos e2] at hj
      exact absurd hj (by decide)
    · rw [if_neg e2] at hj ⊢
      obtain ⟨v', hm, hv⟩ := h3 j hj
      refine ⟨v', List.mem_cons_of_mem _ (List.mem_filter.mpr ⟨hm, ?_⟩), hv⟩
      have hc := sr_v_cat hv
      by_cases e3 : j + 1 = i
      · rw [if_neg (fun z => e2 ⟨e3, z⟩)] at hc
        simp [e, hc]
      · simp [e, e3]
theorem sr_ls_st2 {E : se} {ad : List Nat} {n i : Nat} {ls : List pv} {la : Array Slot} {lv : List (Nat × Value)} {q : pv} {v : Value} (hn : ls.length = n) (h3 : ∀ i, (px_nth ls i).1 < 6 → ∃ v, (i, v) ∈ lv ∧ sr_v E ad (px_nth ls i) v) (hq : sr_v E ad q v) (hi : i + 1 < n) (hl : lv_has la n ((i, v) :: lv.filter (fun q => !(q.1 == i) && (!(q.1 == i + 1) && !(q.1 + 1 == i && q.2.category == 2))))) : sr_ls E ad n (px_st2 ls i q) la := by
  refine ⟨by unfold px_st2; rw [px_set_len, px_set_len, px_kil_len]; exact hn, _, hl, fun j hj => ?_⟩
  unfold px_st2 at hj ⊢
  rw [px_nth_set, px_set_len, px_kil_len] at hj ⊢
  by_cases e0 : j = i + 1
  · rw [if_pos ⟨e0, by omega⟩] at hj
    exact absurd hj (by decide)
  · rw [if_neg (fun q => e0 q.1)] at hj ⊢
    rw [px_nth_set, px_kil_len] at hj ⊢
    by_cases e : j = i
    · rw [if_pos ⟨e, by omega⟩]
      exact ⟨v, by rw [e]; exact List.mem_cons_self, hq⟩
    · rw [if_neg (fun q => e q.1)] at hj ⊢
      rw [px_nth_kil] at hj ⊢
      by_cases e2 : j + 1 = i ∧ (px_nth ls j).1 = 1
      · rw [if_pos e2] at hj
        exact absurd hj (by decide)
      · rw [if_neg e2] at hj ⊢
        obtain ⟨v', hm, hv⟩ := h3 j hj
        refine ⟨v', List.mem_cons_of_mem _ (List.mem_filter.mpr ⟨hm, ?_⟩), hv⟩
        have hc := sr_v_cat hv
        by_cases e3 : j + 1 = i
        · rw [if_neg (fun z => e2 ⟨e3, z⟩)] at hc
          simp [e, e0, hc]
        · simp [e, e0, e3]
