/-! THE CLAIM OUT OF ONE WALK OF THE LAW'S BODY. Your part is whole_start (and what it stands on); all else here is the same for every law, but numbers. -/
def R_law : String := "TinStringLaw"
def lw_P (b : Addr) (xs : List Int32) (args : Array Value) (s : State) : Prop := args = #[.ref b] ∧ s.IntsAt b xs ∧ xs.length ≤ 3072 ∧ (Jvm.Cond.and given_1 narrow_1).before args s = true
def lw_Q (_ : Array Value) (s : State) (o : Outcome) (t : State) : Prop := o = .returned (some (.int 1)) ∧ Framed s o t [] 600000 7302250
def lw_Z (below : List Frame) (a : Array Value) (s : State) : State → Prop := fun t => ∃ o, t.status = .running ∧ Ended t below o ∧ lw_Q a s o t
/-- the law's own end, with 1 on the stack, nothing written that was there before, its room as the claim has it -/
theorem lw_ret {p : Program} {l : Launch} {e : Env} {s : State} {m : MethodId} {below : List Frame} {meth : Method} {c : Code} {b : Nat} (hx : p.tables.exec = Jvm.exec) (hb : c.code = code) (hr : meth.sig.returnType = ret) (hlocks : meth.locks = false) {pc : Nat} {H : Heap} {ls : Array Slot} (hdg : decode code pc = .ok (.ireturn, 1)) : W p l e room_1 s m #[Value.ref b] below meth c H [] 600000 7302250 (lw_Z below #[Value.ref b] s) (F0 m pc ls [.int 1]) := by
  intro T hT X
  obtain ⟨fs, hret, hrun, hended, hW, hframe⟩ := X.leave (v := some (.int 1)) (hlocks := hlocks) (fun h => by rw [hr] at h; cases h)
  have hmeth' : T.vm.method? m = some meth := X.method'
  refine ⟨T.setFrames fs, ?_, .returned (some (.int 1)), hrun, hended, rfl, ⟨_, rfl⟩, hW, hframe⟩
  jvm_step X.here [X.here.top, hx, hb, hdg, hmeth', hr, ret, narrow_b1]
  (try refine ⟨rfl, ?_⟩); (try refine ⟨rfl, ?_⟩)
  first | (intro acts; rw [hret _ acts rfl rfl rfl]) | rw [hret _ _ rfl rfl rfl]
  exact Steps.refl _
/-- what holds at the law's entry: the machine, the code, the tables' words (any of lw_tbl by 'hts w (by decide +kernel)'), the script of L ints xs at the cell b, what the Statement gives of the start (any of its parts by flat_of_before) -/
def lw_At (p : Program) (s : State) (m : MethodId) (meth : Method) (c : Code) (b L : Nat) (xs : Nat → Int32) : Prop :=
  p.tables.exec = Jvm.exec ∧ c.code = code ∧ meth.sig.returnType = ret ∧ c.maxLocals = 4 ∧ s.vm.findClass R_law = some m.cls ∧ (∀ w ∈ lw_tbl, w.before #[Value.ref b] s = true) ∧ va_X b L xs s s.heap ∧ b < s.heap.size ∧ meth.locks = false ∧ (Jvm.Cond.and given_1 narrow_1).before #[Value.ref b] s = true
theorem px_lenl : ∀ x ∈ px_cod mm_Law_law, px_lok x.2.1 x.2.2 = true := by decide +kernel
/-- the law's walk out of one run of the pure machine -/
theorem sr_start {p : Program} {e : Env} {s : State} {m : MethodId} {below : List Frame} {meth : Method} {c : Code} (l : Launch) {b L : Nat} {xs : Nat → Int32} (hL : L ≤ 3072) (C0 : lw_At p s m meth c b L xs) {w1 : pw} (hrun : px_R (mm_Law_law, 0, [(5, (L : Int)), (9, 0), (9, 0), (9, 0)], [], ([(99, 0)], fun _ j => (xs j).toInt)) = some (1, w1)) (h1 : w1.1.length ≤ 600001) (h2 : px_sz w1.1 ≤ 7302250) : W p l e room_1 s m #[Value.ref b] below meth c s.heap [] 0 0 (lw_Z below #[Value.ref b] s) (entryFrame m ([Value.ref b] : List Value).toArray 4) := by
  obtain ⟨hx, hb, hr, hml, hown, hts, hX, hbl, hlocks, hgv⟩ := id C0
  obtain ⟨E, e1, e2, e3, e4, hE⟩ := se_make hts hX hbl hgv
  obtain ⟨n, hn⟩ := px_R_iff.mp hrun
  have hLt : se_L E < 2 ^ 31 := by rw [e3]; omega
  have hgw : ∀ w ∈ gw, w.before #[Value.ref b] s = true := fun w hw => hts w (List.mem_filter.mp hw).1
  have C : sr_C E p room_1 s m #[Value.ref b] meth c code mm_Law_law := ⟨hx, hb, hml, hown, hgw, (fun h => by cases h), dk_Law_law, px_lenl, Nat.le_of_ble_eq_true rfl, Nat.le_of_ble_eq_true rfl, by rw [e1]; exact Nat.le_refl _, hE, hLt, by decide⟩
  have hl := lv_entry ([.ref b]) (n := 4) (Nat.le_of_ble_eq_true rfl)
  rw [lg_entry_eq]
  generalize (lg_sl ([.ref b]) ++ List.replicate (4 - (lg_sl ([.ref b])).length) Slot.unset).toArray = ls at hl ⊢
  have hl : lv_has ls 4 [(0, .ref b)] := hl
  have hS : va_S (se_A E) s.heap s.heap [] := va_S.rf
  have hP : va_P (se_D E) px_cl [] s.heap := fun k q h => by simp at h
  have hD : va_D (se_A E) [] := ⟨fun i j p q h => by simp at h, fun k q h => by simp at h⟩
  have hw0 : sr_w E (([(99, 0)], fun _ j => (xs j).toInt) : pw) [] := ⟨rfl, rfl, fun k hk => absurd hk (Nat.not_lt_zero _), fun j _ => by rw [e4]⟩
  have hls : sr_ls E (sr_ad []) 4 [(5, (L : Int)), (9, 0), (9, 0), (9, 0)] ls := by
    refine ⟨rfl, _, hl, fun i hi => ?_⟩
    match i, hi with
    | 0, _ => exact ⟨.ref b, List.mem_cons_self, by rw [e3]; rfl, by rw [e2]⟩
    | 1, hi => exact absurd (show (9 : Nat) < 6 from hi) (by decide)
    | 2, hi => exact absurd (show (9 : Nat) < 6 from hi) (by decide)
    | 3, hi => exact absurd (show (9 : Nat) < 6 from hi) (by decide)
    | i + 4, hi => exact absurd (show (9 : Nat) < 6 from hi) (by decide)
  have hRT : sr_RT E p l e room_1 s m #[Value.ref b] below meth c (lw_Z below #[Value.ref b] s) mm_Law_law 1 0 [] code 1 w1 := by
    intro pc2 la2 sa2 H2 locs2 cells2 slots2 ws2 g1 g2 g3 g4 g5 g6 g7 hcase
    rcases hcase with ⟨-, hd, z, rfl, hz, -⟩ | ⟨h0, -⟩ | ⟨h0, -⟩
    · have hz1 : z = 1 := Int32.toInt_inj.mp hz
      subst hz1
      refine va_forget (fun q hq => by have := g4.2.2 q hq; unfold se_A at this; rw [e1] at this; exact this) ?_
      refine W.widen (k := 600000) (n := 7302250) (by omega) (by omega) ?_
      exact lw_ret hx hb hr hlocks hd
    · cases h0
    · cases h0
  exact (sr_runs l E hLt n).1 C 0 _ [] _ (1, w1) hn hRT ⟨by show w1.1.length ≤ 1 + 600000; omega, by show px_sz w1.1 ≤ 0 + 7302250; omega, by show px_sz w1.1 < 2 ^ 31; omega⟩ ls [] s.heap [] 0 0 [] ⟨hls, trivial, hw0, hP, hD, hS, rfl, rfl, [], rfl⟩
