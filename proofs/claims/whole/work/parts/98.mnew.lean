theorem sm_outer (c : ClassId) (N h0 : Nat) : ∀ i : Nat, Jvm.Free.Multi.outerC c N h0 i = arrV c N (fun j => va_rf (if j < i then some (h0 + 1 + j) else none))
  | 0 => by
    show ({ cls := c, slots := Array.replicate N .null, vm := .none } : Cell) = _
    rw [arrV_new]
    refine congrArg (arrV c N) (funext fun j => ?_)
    simp [va_rf]
  | i + 1 => by
    show (Jvm.Free.Multi.outerC c N h0 i).setSlot i (.ref (h0 + 1 + i)) = _
    rw [sm_outer c N h0 i, arrV_store]
    refine congrArg (arrV c N) (funext fun j => ?_)
    by_cases h1 : j = i
    · subst h1
      simp [updV, va_rf]
    · by_cases h2 : j < i
      · simp [updV, h1, h2, Nat.lt_succ_of_lt h2]
      · simp [updV, h1, h2, show ¬ j < i + 1 by omega]
/-- one cell and n more behind it -/
theorem sm_wn {n : Nat} {ad : Nat → Nat} {e1 e2 : va_E} {k : Nat} {q : Nat × va_E} (h : ((ad 0, e1) :: (List.range n).map (fun j => (ad (j + 1), e2)))[k]? = some q) : k < n + 1 ∧ q = (ad k, if k = 0 then e1 else e2) := by
  cases k with
  | zero => cases h; exact ⟨by omega, rfl⟩
  | succ k =>
    rw [List.getElem?_cons_succ, List.getElem?_map] at h
    by_cases hk : k < n
    · rw [List.getElem?_range hk] at h
      cases h
      exact ⟨by omega, rfl⟩
    · have : (List.range n)[k]? = none := List.getElem?_eq_none (by simp; omega)
      rw [this] at h
      cases h
theorem sm_at {n : Nat} {ad : Nat → Nat} {e1 e2 : va_E} {k : Nat} (h : k < n + 1) : ((ad 0, e1) :: (List.range n).map (fun j => (ad (j + 1), e2)))[k]? = some (ad k, if k = 0 then e1 else e2) := by
  cases k with
  | zero => rfl
  | succ k =>
    rw [List.getElem?_cons_succ, List.getElem?_map, List.getElem?_range (by omega)]
    rfl
section SX
variable {E : se} {p : Program} {l : Launch} {e : Env} {R : Room} {s : State} {m : MethodId} {args : Array Value} {below : List Frame} {meth : Method} {c : Code} {Q : State → Prop} {nL n0 z0 : Nat} {ad0 : List Nat} {b : ByteArray} {pc : Nat} {ls st : List pv} {w : pw}
theorem sg_mnew (hx : p.tables.exec = Jvm.exec) (hb : c.code = b) (hE : se_E E s s.heap) (hbase : se_b E ≤ s.heap.size) {own idx : Nat} {ty : FieldType} {o i : Nat} (hown : s.vm.findClass (px_nm own) = some m.cls) (hcl : (Cond.classLink (px_nm own) idx ("[" ++ (FieldType.array ty).toString)).before args s = true) (hover : se_AOA ty s) (harr : (Cond.arrayClass ty).before args s = true) (hoi : (ty = .int ∧ o = 4 ∧ i = 0) ∨ (ty = .long ∧ o = 5 ∧ i = 1))
    {x y : Int} (hx0 : 0 ≤ x) (hxu : x < 1000) (hy0 : 0 ≤ y) (hyu : y < 1000) (hR1 : w.1.length + (1 + x.toNat) ≤ n0 + R.cells) (hR2 : px_sz w.1 + (x.toNat + x.toNat * y.toNat) ≤ z0 + R.slots) (hd : decode b pc = .ok (.multianewarray idx 2, 4))
    (k : sg_G E p l e R s m args below meth c Q nL n0 z0 ad0 (pc + 4) ls ((2, (w.1.length : Int)) :: st) (px_al2 w o i x.toNat y.toNat)) : sg_G E p l e R s m args below meth c Q nL n0 z0 ad0 pc ls ((0, y) :: (0, x) :: st) w := by
  intro la sa H locs cells slots ws hR
  obtain ⟨h1, h2, hw, hP, hD, hS, hn, hz, zz, hzz⟩ := hR
  obtain ⟨y', sa, rfl, hy', h2a⟩ := sr_sti h2
  obtain ⟨x', sa, rfl, hx', h2b⟩ := sr_sti h2a
  have hK := hE.2.2.2.2.2.2.2.2.2.2.1
  have hT := hE.2.2.2.2.2.2.2.2.2.2.2
  have hneg : ∀ {z' : Int32} {z : Int}, z'.toInt = z → 0 ≤ z → ¬ z' < 0 := fun {z'} {z} h1 h2 q => by
    have := Int32.lt_iff_toInt_lt.mp q
    have h3 : z'.toInt < 0 := by simpa using this
    omega
  have eN : x'.toNatClampNeg = x.toNat := by rw [← hx']; rfl
  have eK : y'.toNatClampNeg = y.toNat := by rw [← hy']; rfl
  have hcomp : componentBytes ty ≤ 8 := by rcases hoi with ⟨rfl, -⟩ | ⟨rfl, -⟩ <;> decide
  have hmul : y.toNat * componentBytes ty ≤ 1000 * 8 := Nat.mul_le_mul (by omega) hcomp
  intro T hT' X
  obtain ⟨vm₁, cA, cy, hWm, fA, fC, hO, hI, X', step⟩ := Jvm.Stand.multianewarray2F X hx hown hcl hover harr (g := F0 m pc la (.int y' :: .int x' :: sa)) rfl (by rw [hb]; exact hd) rfl (hneg hx' hx0) (hneg hy' hy0) (by rw [eN]; omega) (by rw [eK]; omega) (by rw [eK]; omega) (by rcases hoi with ⟨rfl, -⟩ | ⟨rfl, -⟩ <;> rfl) (by rcases hoi with ⟨rfl, -⟩ | ⟨rfl, -⟩ <;> rfl) (by rw [eN]; omega) (by rw [eN, eK]; omega)
  rw [eN, eK] at X' step
  generalize hF : Jvm.Free.Multi.fill (T.setVm vm₁) cA cy x.toNat y.toNat (defaultValue ty) x.toNat = F at X' step
  have hTh : (T.setVm vm₁).heap = H := hT'
  obtain ⟨f1, f2, -, -⟩ := Jvm.Free.Multi.fill_facts (T.setVm vm₁) cA cy x.toNat y.toNat (defaultValue ty) x.toNat
  rw [hF, hTh] at f1 f2
  have hold : ∀ z : Nat, z < H.size → F.heap[z]? = H[z]? := fun z hz => by
    have := Jvm.Free.Multi.fill_old (T.setVm vm₁) cA cy x.toNat y.toNat (defaultValue ty) (a := z) (by rw [hTh]; exact hz) x.toNat
    rw [hF, hTh] at this
    exact this
  have hrow : ∀ j : Nat, j < x.toNat → F.heap[H.size + 1 + j]? = some (Jvm.Free.Multi.innerC cy y.toNat (defaultValue ty)) := fun j hj => by
    have := Jvm.Free.Multi.fill_inner (T.setVm vm₁) cA cy x.toNat y.toNat (defaultValue ty) x.toNat j hj
    rw [hF, hTh] at this
    exact this
  -- the inner cells, as the world has them
  obtain ⟨z2, hz2, hz2e⟩ : ∃ z2 : vp_A, Jvm.Free.Multi.innerC cy y.toNat (defaultValue ty) = vp_cell cy z2 ∧ ∀ ad, (se_T E)[i]? = some (cy, px_kty i) → sr_e E ad (i, y.toNat) (fun _ => 0) (.inl (cy, z2)) := by
    rcases hoi with ⟨rfl, -, rfl⟩ | ⟨rfl, -, rfl⟩
    · refine ⟨(y.toNat, .inl fun _ => 0), ?_, fun ad hty => Or.inl ⟨Or.inl rfl, cy, _, rfl, hty, fun j _ => rfl⟩⟩
      rw [vp_cell_i, ← arrV_new]
      rfl
    · refine ⟨(y.toNat, .inr (.inl fun _ => 0)), ?_, fun ad hty => Or.inr (Or.inl ⟨rfl, cy, _, rfl, hty, fun j _ => rfl⟩)⟩
      rw [vp_cell_l, ← arrV_new]
      rfl
  have tyi : (se_T E)[i]? = some (cy, px_kty i) := by
    have h7 : i < 7 := by rcases hoi with ⟨-, -, rfl⟩ | ⟨-, -, rfl⟩ <;> decide
    obtain ⟨c0, hc0⟩ := hT i h7
    have e2 := (hK.2 i (c0, px_kty i) hc0).2
    have : c0 = cy := by
      rcases hoi with ⟨rfl, -, rfl⟩ | ⟨rfl, -, rfl⟩
      · have e3 : s.vm.findClass _ = some c0 := e2
        exact Option.some.inj (e3.symm.trans fC)
      · have e3 : s.vm.findClass _ = some c0 := e2
        exact Option.some.inj (e3.symm.trans fC)
    rw [← this]; exact hc0
  have tyo : (se_T E)[o]? = some (cA, px_kty o) := by
    have h7 : o < 7 := by rcases hoi with ⟨-, rfl, -⟩ | ⟨-, rfl, -⟩ <;> decide
    obtain ⟨c0, hc0⟩ := hT o h7
    have e2 := (hK.2 o (c0, px_kty o) hc0).2
    have : c0 = cA := by
      rcases hoi with ⟨rfl, rfl, -⟩ | ⟨rfl, rfl, -⟩
      · have e3 : s.vm.findClass _ = some c0 := e2
        exact Option.some.inj (e3.symm.trans fA)
      · have e3 : s.vm.findClass _ = some c0 := e2
        exact Option.some.inj (e3.symm.trans fA)
    rw [← this]; exact hc0
  have ho46 : 4 ≤ o ∧ o ≤ 6 := by rcases hoi with ⟨-, rfl, -⟩ | ⟨-, rfl, -⟩ <;> exact ⟨Nat.le_of_ble_eq_true rfl, Nat.le_of_ble_eq_true rfl⟩
  generalize hw1 : ((fun j => H.size + j) 0, (.inl (cA, x.toNat, .inr (.inr (.inr (.inr (fun j => if j < x.toNat then some (H.size + 1 + j) else none)))) ) : va_E)) :: (List.range x.toNat).map (fun j => ((fun j => H.size + j) (j + 1), (.inl (cy, z2) : va_E))) = wn
  have wn1 : ∀ {k : Nat} {q : Nat × va_E}, wn[k]? = some q → k < x.toNat + 1 ∧ q = (H.size + k, if k = 0 then .inl (cA, x.toNat, .inr (.inr (.inr (.inr (fun j => if j < x.toNat then some (H.size + 1 + j) else none))))) else .inl (cy, z2)) := fun h => by rw [← hw1] at h; exact sm_wn h
  have wn2 : ∀ {k : Nat}, k < x.toNat + 1 → wn[k]? = some (H.size + k, if k = 0 then .inl (cA, x.toNat, .inr (.inr (.inr (.inr (fun j => if j < x.toNat then some (H.size + 1 + j) else none))))) else .inl (cy, z2)) := fun h => by rw [← hw1]; exact sm_at (ad := fun j => H.size + j) h
  have wnl : wn.length = x.toNat + 1 := by rw [← hw1]; simp
  have hA : ∀ q, s.heap.size ≤ q → se_A E q := fun q h => Nat.le_trans hbase h
  have hPn : va_P (se_D E) px_cl wn F.heap := by
    intro k9 q hq
    obtain ⟨hk, rfl⟩ := wn1 hq
    by_cases h0 : k9 = 0
    · subst h0
      show F.heap[H.size]? = some (vp_cell cA _)
      rw [vp_cell_q, f2, sm_outer]
    · rw [if_neg h0]
      show F.heap[H.size + k9]? = some (vp_cell cy z2)
      rw [← hz2, show H.size + k9 = H.size + 1 + (k9 - 1) by omega]
      exact hrow _ (by omega)
  have hP1 : va_P (se_D E) px_cl (ws ++ wn) F.heap := (hP.kept (fun k9 q hq => hold q.1 ((hP k9 q hq).lt))).app hPn
  have hD1 : va_D (se_A E) (ws ++ wn) := by
    refine va_D.app hD ⟨fun i9 j9 p9 q9 h3 h4 h5 => ?_, fun k9 q hq => ?_⟩ (fun i9 j9 p9 q9 h3 h4 h5 => ?_)
    · obtain ⟨-, rfl⟩ := wn1 h3
      obtain ⟨-, rfl⟩ := wn1 h4
      dsimp only at h5
      omega
    · obtain ⟨-, rfl⟩ := wn1 hq
      exact hA _ (Nat.le_trans hS.1 (Nat.le_add_right _ _))
    · have h6 := (hP i9 p9 h3).lt
      obtain ⟨-, rfl⟩ := wn1 h4
      dsimp only at h5
      omega
  have hS1 : va_S (se_A E) s.heap F.heap locs := ⟨by have := hS.1; omega, fun q g1 g2 => (hold q (Nat.lt_of_lt_of_le g1 hS.1)).trans (hS.2.1 q g1 g2), hS.2.2⟩
  have ea : sr_ad (ws ++ wn) = sr_ad ws ++ sr_ad wn := List.map_append
  have adl : (sr_ad ws).length = ws.length := List.length_map ..
  have adn : ∀ {k : Nat}, k < x.toNat + 1 → (sr_ad (ws ++ wn))[ws.length + k]? = some (H.size + k) := fun {k} hk => by
    rw [ea, List.getElem?_append_right (by omega), adl, show ws.length + k - ws.length = k by omega]
    unfold sr_ad
    rw [List.getElem?_map, wn2 hk]
    rfl
  have hwl := hw.1
  have hw2 : sr_w E (px_al2 w o i x.toNat y.toNat) (ws ++ wn) := by
    refine sr_w_app (ks := (o, x.toNat) :: List.replicate x.toNat (i, y.toNat)) hw rfl (by rw [wnl]; simp) (fun k9 hk j => ?_) (fun k9 hk => ?_)
    · show (if k9 = w.1.length then _ else if w.1.length < k9 then _ else w.2 k9 j) = _
      rw [if_neg (by omega), if_neg (by omega)]
    · rw [wnl] at hk
      refine ⟨_, _, wn2 hk, ?_⟩
      by_cases h0 : k9 = 0
      · subst h0
        rw [if_pos rfl]
        refine Or.inr (Or.inr (Or.inl ⟨ho46, cA, _, rfl, tyo, fun j hj => ?_⟩))
        have hj' : j < x.toNat := hj
        rw [if_pos hj']
        refine Or.inr ⟨ws.length + (j + 1), H.size + 1 + j, ?_, ?_, rfl⟩
        · show (if w.1.length + 0 = w.1.length then (if j < x.toNat then (w.1.length : Int) + 1 + j else 0) else _) = _
          rw [if_pos (Nat.add_zero _), if_pos hj']
          omega
        · rw [show H.size + 1 + j = H.size + (j + 1) by omega]
          exact adn (by omega)
      · rw [if_neg h0]
        have e1 : px_kds ((o, x.toNat) :: List.replicate x.toNat (i, y.toNat)) k9 = (i, y.toNat) := by
          obtain ⟨k8, rfl⟩ : ∃ k8, k9 = k8 + 1 := ⟨k9 - 1, by omega⟩
          exact px_kds_rep _ _ _ (by omega)
        rw [e1]
        refine sr_e_fun (fun j => ?_) (hz2e _ tyi)
        show (if w.1.length + k9 = w.1.length then _ else if w.1.length < w.1.length + k9 then (0 : Int) else _) = _
        rw [if_neg (by omega), if_pos (by omega)]
  have e : T.heap.size = H.size := by rw [hT']
  have hG := k la (.ref H.size :: sa) F.heap locs (cells + 1 + x.toNat) (slots + x.toNat + x.toNat * y.toNat) (ws ++ wn) ⟨by rw [ea]; exact sr_ls_app h1, ⟨⟨some H.size, rfl, Or.inr ⟨ws.length, H.size, by dsimp only; omega, adn (k := 0) (by omega), rfl⟩⟩, by rw [ea]; exact sr_st_app h2b⟩, hw2, hP1, hD1, hS1, ?_, ?_, zz ++ sr_ad wn, by rw [ea, hzz, List.append_assoc]⟩
  · obtain ⟨t, a1, b1⟩ := hG F rfl X'
    refine ⟨t, step t ?_, b1⟩
    rw [e]
    exact a1
  · show cells + 1 + x.toNat + n0 = (w.1 ++ ((o, x.toNat) :: List.replicate x.toNat (i, y.toNat))).length
    rw [List.length_append, List.length_cons, List.length_replicate]
    omega
  · show slots + x.toNat + x.toNat * y.toNat + z0 = px_sz (w.1 ++ ((o, x.toNat) :: List.replicate x.toNat (i, y.toNat)))
    rw [px_sz_app, px_sz, px_sz_rep]
    show slots + x.toNat + x.toNat * y.toNat + z0 = px_sz w.1 + (x.toNat + x.toNat * y.toNat)
    omega
end SX
