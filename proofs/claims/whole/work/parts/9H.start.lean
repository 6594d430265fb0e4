/-! The law's entry: what is the same through it all, and the walk out of one run of the pure machine. -/
theorem px_ist : ∀ c, c < 10 → Cond.instantiable (px_nm c) (px_nfl c) ∈ lw_tbl := by decide +kernel
def se_tm (i : Nat) : Term := .string (px_srf.getD i ("", 0, 0, "")).1 (px_srf.getD i ("", 0, 0, "")).2.1
def se_L1 : List Cond := flatC (Jvm.Cond.and given_1 narrow_1)
theorem se_f1 : ∀ i, i < 10 → Cond.exactly (se_tm i) "java/lang/String" ∈ se_L1 := by decide +kernel
theorem se_f2 : ∀ i, i < 10 → Cond.eq (.field (se_tm i) "java/lang/String" "coder" "B") (.int 0) ∈ se_L1 := by decide +kernel
theorem se_f3 : ∀ i, i < 10 → Cond.arrayOf (.field (se_tm i) "java/lang/String" "value" "[B") .byte ∈ se_L1 := by decide +kernel
theorem se_f4 : ∀ i, i < 10 → Cond.eq (.length (.field (se_tm i) "java/lang/String" "value" "[B")) (.int (Int32.ofNat (se_len.getD i 0))) ∈ se_L1 := by decide +kernel
theorem se_f5 : ∀ i, i < 10 → ∀ j, j < se_len.getD i 0 → Cond.eq (.elem (.field (se_tm i) "java/lang/String" "value" "[B") (.int (Int32.ofNat j))) (.int ((se_byt.getD i []).getD j 0)) ∈ se_L1 := by decide +kernel
theorem se_f6 : ∀ i, i < 10 → ∀ j, j < 10 → i ≠ j → Cond.not (Cond.eq (se_tm i) (se_tm j)) ∈ se_L1 ∨ Cond.not (Cond.eq (se_tm j) (se_tm i)) ∈ se_L1 := by decide +kernel
theorem se_f7 : ∀ i, i < 10 → se_len.getD i 0 < 2 ^ 31 := by decide +kernel
theorem se_f8 : ∀ q ∈ px_srf, q.2.2.1 < 10 ∧ se_tm q.2.2.1 = .string q.1 q.2.1 := by decide +kernel
def se_st (i : Nat) : Term := .static (px_snm i).1 (px_snm i).2 "[I"
theorem se_g1 : ∀ i, i < 4 → Cond.laysStatic (px_snm i).1 (px_snm i).2 "[I" ∈ lw_tbl ∧ Cond.initialized (px_snm i).1 ∈ lw_tbl := by decide +kernel
theorem se_g2 : ∀ i, i < 4 → Cond.arrayOf (se_st i) .int ∈ se_L1 ∧ Cond.eq (.length (se_st i)) (.int (Int32.ofNat (px_sar i).length)) ∈ se_L1 ∧ (px_sar i).length < 2 ^ 31 := by decide +kernel
theorem se_g3 : ∀ i, i < 4 → ∀ j, j < (px_sar i).length → Cond.eq (.elem (se_st i) (.int (Int32.ofNat j))) (.int (Int32.ofInt (px_lst (px_sar i) j))) ∈ se_L1 := by decide +kernel
theorem se_h1 : Cond.laysStatic "java/lang/String" "COMPACT_STRINGS" "Z" ∈ lw_tbl ∧ Cond.initialized "java/lang/String" ∈ lw_tbl ∧ Cond.eq (.static "java/lang/String" "COMPACT_STRINGS" "Z") (.int 1) ∈ se_L1 := by decide +kernel
theorem se_h2 : Cond.laysStatic "jdk/internal/util/Preconditions" "SIOOBE_FORMATTER" "Ljava/util/function/BiFunction;" ∈ lw_tbl ∧ Cond.initialized "jdk/internal/util/Preconditions" ∈ lw_tbl ∧ Cond.isRef (.static "jdk/internal/util/Preconditions" "SIOOBE_FORMATTER" "Ljava/util/function/BiFunction;") ∈ se_L1 := by decide +kernel
theorem se_ac : ∀ k, k < 4 → Cond.arrayClass (px_kty k) ∈ lw_tbl := by decide +kernel
theorem se_ao : Cond.arrayOver (.array .int) ∈ lw_tbl ∧ Cond.arrayOver (.array .long) ∈ lw_tbl ∧ Cond.arrayOver (.object "TinString$Row") ∈ lw_tbl := by decide +kernel
theorem px_nst_on : ∀ w ∈ px_nst, w.onTables = true := by decide +kernel
theorem se_ty {s : State} {args : Array Value} (hts : ∀ w ∈ lw_tbl, w.before args s = true) : ∀ k, k < 7 → ∃ c, ArrOfT s c (px_kty k) ∧ va_RA s c (px_kty k) := by
  have h4 : ∀ k, k < 4 → ∃ c, ArrOfT s c (px_kty k) ∧ s.vm.findClass ("[" ++ (px_kty k).toString) = some c := by
    intro k hk
    obtain ⟨c, kk, comp, h1, h2, h3⟩ := Cond.arrayClass_spec (first := s) (o := none) (idx := []) (hts _ (se_ac k hk))
    exact ⟨c, fun n z => ⟨(fun k h => by cases h), kk, h2, comp, h3⟩, h1⟩
  intro k hk
  match k, hk with
  | 0, _ => obtain ⟨c, h1, h2⟩ := h4 0 (by omega); exact ⟨c, h1, h2⟩
  | 1, _ => obtain ⟨c, h1, h2⟩ := h4 1 (by omega); exact ⟨c, h1, h2⟩
  | 2, _ => obtain ⟨c, h1, h2⟩ := h4 2 (by omega); exact ⟨c, h1, h2⟩
  | 3, _ => obtain ⟨c, h1, h2⟩ := h4 3 (by omega); exact ⟨c, h1, h2⟩
  | 4, _ =>
    obtain ⟨comp, c, kk, h1, h2, h3, h4, h5⟩ := Jvm.Stand.arrayOver_specB (first := s) (o := none) (idx := []) (hts _ se_ao.1)
    exact ⟨c, fun n z => ⟨(fun k h => by cases h), kk, h3, comp, h4⟩, h5⟩
  | 5, _ =>
    obtain ⟨comp, c, kk, h1, h2, h3, h4, h5⟩ := Jvm.Stand.arrayOver_specB (first := s) (o := none) (idx := []) (hts _ se_ao.2.1)
    exact ⟨c, fun n z => ⟨(fun k h => by cases h), kk, h3, comp, h4⟩, h5⟩
  | 6, _ =>
    obtain ⟨comp, c, kk, h1, h2, h3, h4, h5⟩ := Cond.arrayOver_spec (first := s) (o := none) (idx := []) (hts _ se_ao.2.2)
    exact ⟨c, fun n z => ⟨(fun k h => by cases h), kk, h3, comp, h4⟩, kk, comp, h3, h4, h1, h5⟩
theorem se_cls {s : State} {args : Array Value} (hts : ∀ w ∈ lw_tbl, w.before args s = true) : ∃ D : va_G, ∀ (c : Nat) (q : vw_C), px_cl[c]? = some q → u_Kn s q.1 q.2.1 q.2.2 (D.1 c) (D.2 c) := by
  have h0 : ∀ c : Nat, ∃ d : ClassId × (Nat → Nat), c < 10 → u_Kn s (px_nm c) (px_T c) (px_nfl c) d.1 d.2 := by
    intro c
    by_cases hc : c < 10
    · obtain ⟨cC, iS, h⟩ := u_known (C := px_nm c) (T := px_T c) (N := px_nfl c) (n := px_nfl c) hts (fun w hw => (List.mem_filter.mp (px_inw hc w hw)).1) (hts _ (px_ist c hc))
      exact ⟨(cC, iS), fun _ => h⟩
    · exact ⟨(0, fun _ => 0), fun h => absurd h hc⟩
  obtain ⟨d, hd⟩ := Classical.axiomOfChoice h0
  refine ⟨(fun c => (d c).1, fun c => (d c).2), fun c q h => ?_⟩
  have hc := px_cl_lt h
  rw [px_cl_at hc] at h
  cases h
  exact hd c hc
theorem se_make {s : State} {b L : Nat} {xs : Nat → Int32} (hts : ∀ w ∈ lw_tbl, w.before #[Value.ref b] s = true) (hX : va_X b L xs s s.heap) (hbl : b < s.heap.size) (hgv : (Jvm.Cond.and given_1 narrow_1).before #[Value.ref b] s = true) : ∃ E : se, se_b E = s.heap.size ∧ se_s E = b ∧ se_L E = L ∧ se_x E = xs ∧ se_E E s s.heap := by
  have hs : ∀ c ∈ se_L1, c.before #[Value.ref b] s = true := flat_of_before _ hgv
  have hA : ∀ a : Nat, a < s.heap.size → ¬ (fun q : Nat => s.heap.size ≤ q) a := fun a h => Nat.not_le.mpr h
  obtain ⟨D, hD⟩ := se_cls hts
  obtain ⟨adK, adV, hKV, hev⟩ := vk_Sof (N := 10) (tm := se_tm) (len := se_len) (byt := se_byt) (A := fun q : Nat => s.heap.size ≤ q) se_f7 (fun i hi => hs _ (se_f1 i hi)) (fun i hi => hs _ (se_f2 i hi)) (fun i hi => hs _ (se_f3 i hi)) (fun i hi => hs _ (se_f4 i hi)) (fun i hi j hj => hs _ (se_f5 i hi j hj)) (fun i j hi hj hij => (se_f6 i hi j hj hij).imp (hs _) (hs _)) hA
  have hS : ∀ i : Nat, ∃ t : Nat, i < 4 → va_Z (px_snm i).1 (px_snm i).2 "[I" (.ref t) (fun q : Nat => s.heap.size ≤ q) s s.heap ∧ va_T .int t (px_sar i).length (fun j => .int (Int32.ofInt (px_lst (px_sar i) j))) (fun q : Nat => s.heap.size ≤ q) s s.heap := by
    intro i
    by_cases hi : i < 4
    · obtain ⟨t, h1, h2⟩ := va_Tof (f := fun j => .int (Int32.ofInt (px_lst (px_sar i) j))) (A := fun q : Nat => s.heap.size ≤ q) (se_g2 i hi).2.2 (hs _ (se_g2 i hi).1) (va_eqt (hs _ (se_g2 i hi).2.1)) (fun j hj => va_eqt (hs _ (se_g3 i hi j hj))) hA
      exact ⟨t, fun _ => ⟨va_Zof (hts _ (se_g1 i hi).1) (hts _ (se_g1 i hi).2) h1 hA, h2⟩⟩
    · exact ⟨0, fun h => absurd h hi⟩
  obtain ⟨adS, hS⟩ := Classical.axiomOfChoice hS
  have hT := se_ty hts
  obtain ⟨c0, a0⟩ := hT 0 (by omega)
  obtain ⟨c1, a1⟩ := hT 1 (by omega)
  obtain ⟨c2, a2⟩ := hT 2 (by omega)
  obtain ⟨c3, a3⟩ := hT 3 (by omega)
  obtain ⟨c4, a4⟩ := hT 4 (by omega)
  obtain ⟨c5, a5⟩ := hT 5 (by omega)
  obtain ⟨c6, a6⟩ := hT 6 (by omega)
  refine ⟨((s.heap.size, b, L), adK, adV, adS, xs, D, [(c0, px_kty 0), (c1, px_kty 1), (c2, px_kty 2), (c3, px_kty 3), (c4, px_kty 4), (c5, px_kty 5), (c6, px_kty 6)]), rfl, rfl, rfl, rfl, ⟨hX, hbl, hbl⟩, hS, ?_, ?_, ?_, hKV, ?_, ?_, ?_, ?_, ⟨hD, ?_⟩, ?_⟩
  · exact va_Zof (hts _ se_h1.1) (hts _ se_h1.2.1) (va_eqt (hs _ se_h1.2.2)) hA
  · exact va_Zqof (hts _ se_h2.1) (hts _ se_h2.2.1) (hs _ se_h2.2.2) hA
  · intro q hq
    obtain ⟨h1, h2⟩ := se_f8 q hq
    have h3 := hev _ h1
    rw [h2] at h3
    exact vk_R.of (hts _ (px_srf_in q hq)) h3
  · exact fun w hw => va_Nw.of (px_nst_on w hw) (hts _ (px_nst_in w hw))
  · exact va_AO.of (hts _ se_ao.2.2)
  · exact hts _ se_ao.1
  · exact hts _ se_ao.2.1
  · intro k q h
    match k, h with
    | 0, h => cases h; exact a0
    | 1, h => cases h; exact a1
    | 2, h => cases h; exact a2
    | 3, h => cases h; exact a3
    | 4, h => cases h; exact a4
    | 5, h => cases h; exact a5
    | 6, h => cases h; exact a6
  · intro k hk
    match k, hk with
    | 0, _ => exact ⟨c0, rfl⟩
    | 1, _ => exact ⟨c1, rfl⟩
    | 2, _ => exact ⟨c2, rfl⟩
    | 3, _ => exact ⟨c3, rfl⟩
    | 4, _ => exact ⟨c4, rfl⟩
    | 5, _ => exact ⟨c5, rfl⟩
    | 6, _ => exact ⟨c6, rfl⟩
