/-! Instruction by instruction: what the pure machine does, the machine does. -/
theorem px_w_add (x y : Int32) : (x + y).toInt = px_w (x.toInt + y.toInt) := Int32.toInt_add x y
theorem px_w_sub (x y : Int32) : (x - y).toInt = px_w (x.toInt - y.toInt) := Int32.toInt_sub x y
theorem px_w_mul (x y : Int32) : (x * y).toInt = px_w (x.toInt * y.toInt) := Int32.toInt_mul x y
theorem px_w_div (x y : Int32) : (x / y).toInt = px_w (Int.tdiv x.toInt y.toInt) := Int32.toInt_div x y
theorem px_w_neg (x : Int32) : (-x).toInt = px_w (-x.toInt) := Int32.toInt_neg x
theorem px_wl_add (x y : Int64) : (x + y).toInt = px_wl (x.toInt + y.toInt) := Int64.toInt_add x y
theorem px_wl_sub (x y : Int64) : (x - y).toInt = px_wl (x.toInt - y.toInt) := Int64.toInt_sub x y
theorem px_wl_mul (x y : Int64) : (x * y).toInt = px_wl (x.toInt * y.toInt) := Int64.toInt_mul x y
theorem px_wl_div (x y : Int64) : (x / y).toInt = px_wl (Int.tdiv x.toInt y.toInt) := Int64.toInt_div x y
theorem px_o32 (x : Int32) : Int32.ofInt x.toInt = x := Int32.ofInt_toInt x
theorem px_o64 (x : Int64) : Int64.ofInt x.toInt = x := Int64.ofInt_toInt x
theorem px_and_eq (x y : Int32) : (x &&& y).toInt = px_and x.toInt y.toInt := by unfold px_and; rw [px_o32, px_o32]
theorem px_or_eq (x y : Int32) : (x ||| y).toInt = px_or x.toInt y.toInt := by unfold px_or; rw [px_o32, px_o32]
theorem px_shl_eq (x y : Int32) : (x <<< (y &&& 31)).toInt = px_shl x.toInt y.toInt := by unfold px_shl; rw [px_o32, px_o32]
theorem px_shr_eq (x y : Int32) : (x >>> (y &&& 31)).toInt = px_shr x.toInt y.toInt := by unfold px_shr; rw [px_o32, px_o32]
theorem px_ush_eq (x y : Int32) : ((x.toUInt32 >>> (y.toUInt32 &&& Int32.toUInt32 31)).toInt32).toInt = px_ush x.toInt y.toInt := by unfold px_ush; rw [px_o32, px_o32]
theorem px_land_eq (x y : Int64) : (x &&& y).toInt = px_land x.toInt y.toInt := by unfold px_land; rw [px_o64, px_o64]
theorem px_lshl_eq (x : Int64) (y : Int32) : (x <<< (y.toInt64 &&& 63)).toInt = px_lshl x.toInt y.toInt := by unfold px_lshl; rw [px_o64, px_o32]
theorem px_lshr_eq (x : Int64) (y : Int32) : (x >>> (y.toInt64 &&& 63)).toInt = px_lshr x.toInt y.toInt := by unfold px_lshr; rw [px_o64, px_o32]
theorem px_lush_eq (x : Int64) (y : Int32) : ((x.toUInt64 >>> (y.toInt64.toUInt64 &&& Int64.toUInt64 63)).toInt64).toInt = px_lush x.toInt y.toInt := by unfold px_lush; rw [px_o64, px_o32]
theorem px_cmp_eq (x y : Int64) : (lg_cmp x y).toInt = px_cmp x.toInt y.toInt := by
  unfold lg_cmp px_cmp
  by_cases h : x > y
  · rw [if_pos h, if_pos (Int64.lt_iff_toInt_lt.mp h)]; rfl
  · rw [if_neg h, if_neg (fun q => h (Int64.lt_iff_toInt_lt.mpr q))]
    by_cases h2 : x = y
    · rw [if_pos h2, if_pos (congrArg _ h2)]; rfl
    · rw [if_neg h2, if_neg (fun q => h2 (Int64.toInt_inj.mp q))]; rfl
theorem px_z32 {y : Int32} (h : ¬ y.toInt = 0) : ¬ y = 0 := fun q => h (by rw [q]; rfl)
theorem px_z64 {y : Int64} (h : ¬ y.toInt = 0) : ¬ y = 0 := fun q => h (by rw [q]; rfl)
theorem px_i32 {x : Int} (h1 : -2147483648 ≤ x) (h2 : x < 2147483648) : (Int32.ofInt x).toInt = x := Int32.toInt_ofInt_of_le (by simpa using h1) (by simpa using h2)
theorem px_n32 {y : Int32} {n : Nat} (h1 : 0 ≤ y.toInt) (h2 : y.toInt < n) : vp_in y n ∧ y.toNatClampNeg = y.toInt.toNat := ⟨vp_in_iff.mpr ⟨h1, h2⟩, rfl⟩
def px_sz : List (Nat × Nat) → Nat
  | [] => 0
  | a :: l => a.2 + px_sz l
theorem px_sz_app : ∀ (l m : List (Nat × Nat)), px_sz (l ++ m) = px_sz l + px_sz m
  | [], m => by simp [px_sz]
  | a :: l, m => by rw [List.cons_append, px_sz, px_sz_app l m, px_sz]; omega
theorem px_sz_rep : ∀ (n : Nat) (x : Nat × Nat), px_sz (List.replicate n x) = n * x.2
  | 0, x => by simp [px_sz]
  | n + 1, x => by rw [List.replicate_succ, px_sz, px_sz_rep n x, Nat.succ_mul]; omega
def sg_R (E : se) (s : State) (nL n0 z0 : Nat) (ad0 : List Nat) (ls st : List pv) (w : pw) (la : Array Slot) (sa : List Value) (H : Heap) (locs : List Loc) (cells slots : Nat) (ws : va_W) : Prop :=
  sr_ls E (sr_ad ws) nL ls la ∧ sr_st E (sr_ad ws) st sa ∧ sr_w E w ws ∧ va_P (se_D E) px_cl ws H ∧ va_D (se_A E) ws ∧ va_S (se_A E) s.heap H locs ∧ cells + n0 = w.1.length ∧ slots + z0 = px_sz w.1 ∧ ∃ x, sr_ad ws = ad0 ++ x
def sg_G (E : se) (p : Program) (l : Launch) (e : Env) (R : Room) (s : State) (m : MethodId) (args : Array Value) (below : List Frame) (meth : Method) (c : Code) (Q : State → Prop) (nL n0 z0 : Nat) (ad0 : List Nat) (pc : Nat) (ls st : List pv) (w : pw) : Prop :=
  ∀ (la : Array Slot) (sa : List Value) (H : Heap) (locs : List Loc) (cells slots : Nat) (ws : va_W), sg_R E s nL n0 z0 ad0 ls st w la sa H locs cells slots ws → W p l e R s m args below meth c H locs cells slots Q (F0 m pc la sa)
theorem sr_st1 {E : se} {ad : List Nat} {q : pv} {st : List pv} {sa : List Value} (h : sr_st E ad (q :: st) sa) : ∃ v vs, sa = v :: vs ∧ sr_v E ad q v ∧ sr_st E ad st vs := by
  cases sa with
  | nil => exact h.elim
  | cons v vs => exact ⟨v, vs, rfl, h.1, h.2⟩
theorem sr_sti {E : se} {ad : List Nat} {x : Int} {st : List pv} {sa : List Value} (h : sr_st E ad ((0, x) :: st) sa) : ∃ (y : Int32) (vs : List Value), sa = .int y :: vs ∧ y.toInt = x ∧ sr_st E ad st vs := by
  obtain ⟨v, vs, rfl, h1, h2⟩ := sr_st1 h
  have h' : ∃ y : Int32, v = .int y ∧ y.toInt = x := h1
  obtain ⟨y, rfl, hy⟩ := h'
  exact ⟨y, vs, rfl, hy, h2⟩
theorem sr_stl {E : se} {ad : List Nat} {x : Int} {st : List pv} {sa : List Value} (h : sr_st E ad ((1, x) :: st) sa) : ∃ (y : Int64) (vs : List Value), sa = .long y :: vs ∧ y.toInt = x ∧ sr_st E ad st vs := by
  obtain ⟨v, vs, rfl, h1, h2⟩ := sr_st1 h
  have h' : ∃ y : Int64, v = .long y ∧ y.toInt = x := h1
  obtain ⟨y, rfl, hy⟩ := h'
  exact ⟨y, vs, rfl, hy, h2⟩
theorem sr_mki {E : se} {ad : List Nat} {st : List pv} {vs : List Value} {y : Int32} {x : Int} (hy : y.toInt = x) (h : sr_st E ad st vs) : sr_st E ad ((0, x) :: st) (.int y :: vs) := ⟨⟨y, rfl, hy⟩, h⟩
theorem sr_mkl {E : se} {ad : List Nat} {st : List pv} {vs : List Value} {y : Int64} {x : Int} (hy : y.toInt = x) (h : sr_st E ad st vs) : sr_st E ad ((1, x) :: st) (.long y :: vs) := ⟨⟨y, rfl, hy⟩, h⟩
section SG
variable {E : se} {p : Program} {l : Launch} {e : Env} {R : Room} {s : State} {m : MethodId} {args : Array Value} {below : List Frame} {meth : Method} {c : Code} {Q : State → Prop} {nL n0 z0 : Nat} {ad0 : List Nat} {b : ByteArray} {pc pc' n : Nat} {ls st : List pv} {w : pw}
/-- what only the stack sees -/
theorem sg_pure {st' : List pv} (h : ∀ (ad : List Nat) (sa : List Value), sr_st E ad st sa → ∃ sa', sr_st E ad st' sa' ∧ ∀ (la : Array Slot) (H : Heap) (locs : List Loc) (cells slots : Nat), W p l e R s m args below meth c H locs cells slots Q (F0 m pc' la sa') → W p l e R s m args below meth c H locs cells slots Q (F0 m pc la sa))
    (k : sg_G E p l e R s m args below meth c Q nL n0 z0 ad0 pc' ls st' w) : sg_G E p l e R s m args below meth c Q nL n0 z0 ad0 pc ls st w := by
  intro la sa H locs cells slots ws hR
  obtain ⟨h1, h2, h3⟩ := hR
  obtain ⟨sa', h4, h5⟩ := h _ _ h2
  exact h5 _ _ _ _ _ (k la sa' H locs cells slots ws ⟨h1, h4, h3⟩)
theorem sg_ii {op : Int32 → Int32 → Int32} {f : Int → Int → Int} (hop : ∀ x y : Int32, (op x y).toInt = f x.toInt y.toInt) {x y : Int}
    (row : ∀ {x' y' : Int32} {la : Array Slot} {rest : List Value} {H : Heap} {locs : List Loc} {cells slots : Nat}, x'.toInt = x → y'.toInt = y → W p l e R s m args below meth c H locs cells slots Q (F0 m pc' la (.int (op x' y') :: rest)) → W p l e R s m args below meth c H locs cells slots Q (F0 m pc la (.int y' :: .int x' :: rest)))
    (k : sg_G E p l e R s m args below meth c Q nL n0 z0 ad0 pc' ls ((0, f x y) :: st) w) : sg_G E p l e R s m args below meth c Q nL n0 z0 ad0 pc ls ((0, y) :: (0, x) :: st) w := by
  refine sg_pure (fun ad sa h => ?_) k
  obtain ⟨y', s1, rfl, hy, h⟩ := sr_sti h
  obtain ⟨x', s2, rfl, hx, h⟩ := sr_sti h
  exact ⟨.int (op x' y') :: s2, sr_mki (by rw [hop, hx, hy]) h, fun _ _ _ _ _ k => row hx hy k⟩
theorem sg_ll {op : Int64 → Int64 → Int64} {f : Int → Int → Int} (hop : ∀ x y : Int64, (op x y).toInt = f x.toInt y.toInt) {x y : Int}
    (row : ∀ {x' y' : Int64} {la : Array Slot} {rest : List Value} {H : Heap} {locs : List Loc} {cells slots : Nat}, x'.toInt = x → y'.toInt = y → W p l e R s m args below meth c H locs cells slots Q (F0 m pc' la (.long (op x' y') :: rest)) → W p l e R s m args below meth c H locs cells slots Q (F0 m pc la (.long y' :: .long x' :: rest)))
    (k : sg_G E p l e R s m args below meth c Q nL n0 z0 ad0 pc' ls ((1, f x y) :: st) w) : sg_G E p l e R s m args below meth c Q nL n0 z0 ad0 pc ls ((1, y) :: (1, x) :: st) w := by
  refine sg_pure (fun ad sa h => ?_) k
  obtain ⟨y', s1, rfl, hy, h⟩ := sr_stl h
  obtain ⟨x', s2, rfl, hx, h⟩ := sr_stl h
  exact ⟨.long (op x' y') :: s2, sr_mkl (by rw [hop, hx, hy]) h, fun _ _ _ _ _ k => row hx hy k⟩
theorem sg_li {op : Int64 → Int32 → Int64} {f : Int → Int → Int} (hop : ∀ (x : Int64) (y : Int32), (op x y).toInt = f x.toInt y.toInt) {x y : Int}
    (row : ∀ {x' : Int64} {y' : Int32} {la : Array Slot} {rest : List Value} {H : Heap} {locs : List Loc} {cells slots : Nat}, W p l e R s m args below meth c H locs cells slots Q (F0 m pc' la (.long (op x' y') :: rest)) → W p l e R s m args below meth c H locs cells slots Q (F0 m pc la (.int y' :: .long x' :: rest)))
    (k : sg_G E p l e R s m args below meth c Q nL n0 z0 ad0 pc' ls ((1, f x y) :: st) w) : sg_G E p l e R s m args below meth c Q nL n0 z0 ad0 pc ls ((0, y) :: (1, x) :: st) w := by
  refine sg_pure (fun ad sa h => ?_) k
  obtain ⟨y', s1, rfl, hy, h⟩ := sr_sti h
  obtain ⟨x', s2, rfl, hx, h⟩ := sr_stl h
  exact ⟨.long (op x' y') :: s2, sr_mkl (by rw [hop, hx, hy]) h, fun _ _ _ _ _ k => row k⟩
theorem sg_i {op : Int32 → Int32} {f : Int → Int} (hop : ∀ x : Int32, (op x).toInt = f x.toInt) {x : Int}
    (row : ∀ {x' : Int32} {la : Array Slot} {rest : List Value} {H : Heap} {locs : List Loc} {cells slots : Nat}, W p l e R s m args below meth c H locs cells slots Q (F0 m pc' la (.int (op x') :: rest)) → W p l e R s m args below meth c H locs cells slots Q (F0 m pc la (.int x' :: rest)))
    (k : sg_G E p l e R s m args below meth c Q nL n0 z0 ad0 pc' ls ((0, f x) :: st) w) : sg_G E p l e R s m args below meth c Q nL n0 z0 ad0 pc ls ((0, x) :: st) w := by
  refine sg_pure (fun ad sa h => ?_) k
  obtain ⟨x', s2, rfl, hx, h⟩ := sr_sti h
  exact ⟨.int (op x') :: s2, sr_mki (by rw [hop, hx]) h, fun _ _ _ _ _ k => row k⟩
theorem sg_push {q : pv} {v : Nat → Value} {u : Value} (hv : ∀ ad, sr_v E ad q u)
    (row : ∀ {la : Array Slot} {rest : List Value} {H : Heap} {locs : List Loc} {cells slots : Nat}, W p l e R s m args below meth c H locs cells slots Q (F0 m pc' la (u :: rest)) → W p l e R s m args below meth c H locs cells slots Q (F0 m pc la rest))
    (k : sg_G E p l e R s m args below meth c Q nL n0 z0 ad0 pc' ls (q :: st) w) : sg_G E p l e R s m args below meth c Q nL n0 z0 ad0 pc ls st w :=
  sg_pure (st' := q :: st) (fun ad sa h => ⟨u :: sa, ⟨hv ad, h⟩, fun _ _ _ _ _ k => row k⟩) k
/-- a load -/
theorem sg_load {i : Nat} (hk : (px_nth ls i).1 < 6)
    (row : ∀ {la : Array Slot} {u : Value} {rest : List Value} {H : Heap} {locs : List Loc} {cells slots : Nat} {ad : List Nat}, la[i]? = some (.val u) → sr_v E ad (px_nth ls i) u → W p l e R s m args below meth c H locs cells slots Q (F0 m pc' la (u :: rest)) → W p l e R s m args below meth c H locs cells slots Q (F0 m pc la rest))
    (k : sg_G E p l e R s m args below meth c Q nL n0 z0 ad0 pc' ls (px_nth ls i :: st) w) : sg_G E p l e R s m args below meth c Q nL n0 z0 ad0 pc ls st w := by
  intro la sa H locs cells slots ws hR
  obtain ⟨⟨h1, lv, h1b, h1c⟩, h2, h3⟩ := hR
  obtain ⟨u, hm, hu⟩ := h1c i hk
  exact row (h1b.2.2 _ hm) hu (k la (u :: sa) H locs cells slots ws ⟨⟨h1, lv, h1b, h1c⟩, ⟨hu, h2⟩, h3⟩)
/-- a store of one slot -/
theorem sg_store {i : Nat} {q : pv} (hi : i < nL)
    (row : ∀ {la : Array Slot} {u : Value} {rest : List Value} {H : Heap} {locs : List Loc} {cells slots : Nat} {ad : List Nat} {lv : List (Nat × Value)}, sr_v E ad q u → lv_has la nL lv → (∀ la' : Array Slot, lv_has la' nL ((i, u) :: lv.filter (fun q => !(q.1 == i) && !(q.1 + 1 == i && q.2.category == 2))) → W p l e R s m args below meth c H locs cells slots Q (F0 m pc' la' rest)) → W p l e R s m args below meth c H locs cells slots Q (F0 m pc la (u :: rest)))
    (k : sg_G E p l e R s m args below meth c Q nL n0 z0 ad0 pc' (px_st1 ls i q) st w) : sg_G E p l e R s m args below meth c Q nL n0 z0 ad0 pc ls (q :: st) w := by
  intro la sa H locs cells slots ws hR
  obtain ⟨⟨h1, lv, h1b, h1c⟩, h2, h3⟩ := hR
  obtain ⟨u, sa, rfl, hu, h2⟩ := sr_st1 h2
  exact row hu h1b (fun la' hl => k la' sa H locs cells slots ws ⟨sr_ls_st1 h1 h1c hu hi hl, h2, h3⟩)
theorem sg_store2 {i : Nat} {q : pv} (hi : i + 1 < nL)
    (row : ∀ {la : Array Slot} {u : Value} {rest : List Value} {H : Heap} {locs : List Loc} {cells slots : Nat} {ad : List Nat} {lv : List (Nat × Value)}, sr_v E ad q u → lv_has la nL lv → (∀ la' : Array Slot, lv_has la' nL ((i, u) :: lv.filter (fun q => !(q.1 == i) && (!(q.1 == i + 1) && !(q.1 + 1 == i && q.2.category == 2)))) → W p l e R s m args below meth c H locs cells slots Q (F0 m pc' la' rest)) → W p l e R s m args below meth c H locs cells slots Q (F0 m pc la (u :: rest)))
    (k : sg_G E p l e R s m args below meth c Q nL n0 z0 ad0 pc' (px_st2 ls i q) st w) : sg_G E p l e R s m args below meth c Q nL n0 z0 ad0 pc ls (q :: st) w := by
  intro la sa H locs cells slots ws hR
  obtain ⟨⟨h1, lv, h1b, h1c⟩, h2, h3⟩ := hR
  obtain ⟨u, sa, rfl, hu, h2⟩ := sr_st1 h2
  exact row hu h1b (fun la' hl => k la' sa H locs cells slots ws ⟨sr_ls_st2 h1 h1c hu hi hl, h2, h3⟩)
theorem sg_iinc (hx : p.tables.exec = Jvm.exec) (hb : c.code = b) {i : Nat} {d : Int} (hd : decode b pc = .ok (.iinc i d, 3)) (hi : i < nL) (h1 : -128 ≤ d) (h2 : d < 128) (ht : (px_nth ls i).1 = 0)
    (k : sg_G E p l e R s m args below meth c Q nL n0 z0 ad0 (pc + 3) (px_st1 ls i (0, px_w ((px_nth ls i).2 + d))) st w) : sg_G E p l e R s m args below meth c Q nL n0 z0 ad0 pc ls st w := by
  intro la sa H locs cells slots ws hR
  obtain ⟨⟨g1, lv, g1b, g1c⟩, g2, g3⟩ := hR
  obtain ⟨u, hm, hu⟩ := g1c i (by omega)
  have hu' : ∃ y : Int32, u = .int y ∧ y.toInt = (px_nth ls i).2 := by
    generalize px_nth ls i = q at ht hu
    obtain ⟨t, x⟩ := q
    dsimp only at ht
    subst ht
    exact hu
  obtain ⟨y, rfl, hy⟩ := hu'
  obtain ⟨kk, hkk⟩ := List.getElem?_of_mem hm
  refine lv_iinc (k := kk) (x := y) (v := y + Int32.ofInt d) hx hb hd g1b hkk rfl hi rfl (fun la' hl => ?_)
  refine k la' sa H locs cells slots ws ⟨sr_ls_st1 g1 g1c ⟨_, rfl, ?_⟩ hi hl, g2, g3⟩
  rw [px_w_add, hy, px_i32 (by omega) (by omega)]
/-- a branch -/
theorem sg_br {x y : Int} {P : Prop} {pt pf : Nat}
    (row : ∀ {x' y' : Int32} {la : Array Slot} {rest : List Value} {H : Heap} {locs : List Loc} {cells slots : Nat}, x'.toInt = x → y'.toInt = y → (P → W p l e R s m args below meth c H locs cells slots Q (F0 m pt la rest)) → (¬ P → W p l e R s m args below meth c H locs cells slots Q (F0 m pf la rest)) → W p l e R s m args below meth c H locs cells slots Q (F0 m pc la (.int y' :: .int x' :: rest)))
    (kt : P → sg_G E p l e R s m args below meth c Q nL n0 z0 ad0 pt ls st w) (kf : ¬ P → sg_G E p l e R s m args below meth c Q nL n0 z0 ad0 pf ls st w) : sg_G E p l e R s m args below meth c Q nL n0 z0 ad0 pc ls ((0, y) :: (0, x) :: st) w := by
  intro la sa H locs cells slots ws hR
  obtain ⟨h1, h2, h3⟩ := hR
  obtain ⟨y', s1, rfl, hy, h⟩ := sr_sti h2
  obtain ⟨x', s2, rfl, hx, h⟩ := sr_sti h
  exact row hx hy (fun q => kt q la s2 H locs cells slots ws ⟨h1, h, h3⟩) (fun q => kf q la s2 H locs cells slots ws ⟨h1, h, h3⟩)
theorem sg_br1 {x : Int} {P : Prop} {pt pf : Nat}
    (row : ∀ {x' : Int32} {la : Array Slot} {rest : List Value} {H : Heap} {locs : List Loc} {cells slots : Nat}, x'.toInt = x → (P → W p l e R s m args below meth c H locs cells slots Q (F0 m pt la rest)) → (¬ P → W p l e R s m args below meth c H locs cells slots Q (F0 m pf la rest)) → W p l e R s m args below meth c H locs cells slots Q (F0 m pc la (.int x' :: rest)))
    (kt : P → sg_G E p l e R s m args below meth c Q nL n0 z0 ad0 pt ls st w) (kf : ¬ P → sg_G E p l e R s m args below meth c Q nL n0 z0 ad0 pf ls st w) : sg_G E p l e R s m args below meth c Q nL n0 z0 ad0 pc ls ((0, x) :: st) w := by
  intro la sa H locs cells slots ws hR
  obtain ⟨h1, h2, h3⟩ := hR
  obtain ⟨x', s2, rfl, hx, h⟩ := sr_sti h2
  exact row hx (fun q => kt q la s2 H locs cells slots ws ⟨h1, h, h3⟩) (fun q => kf q la s2 H locs cells slots ws ⟨h1, h, h3⟩)
end SG
