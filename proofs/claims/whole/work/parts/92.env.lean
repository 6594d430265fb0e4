/-! What is the same through the whole law: the script, the static arrays, the String constants, the links of nest mates, the array classes. -/
abbrev se := (Nat × Nat × Nat) × (Nat → Nat) × (Nat → Nat) × (Nat → Nat) × (Nat → Int32) × va_G × List (ClassId × FieldType)
def se_b (E : se) : Nat := E.1.1
def se_s (E : se) : Nat := E.1.2.1
def se_L (E : se) : Nat := E.1.2.2
def se_K (E : se) : Nat → Nat := E.2.1
def se_V (E : se) : Nat → Nat := E.2.2.1
def se_S (E : se) : Nat → Nat := E.2.2.2.1
def se_x (E : se) : Nat → Int32 := E.2.2.2.2.1
def se_D (E : se) : va_G := E.2.2.2.2.2.1
def se_T (E : se) : List (ClassId × FieldType) := E.2.2.2.2.2.2
def se_A (E : se) : Nat → Prop := fun q => se_b E ≤ q
def px_kty (k : Nat) : FieldType := match k with
  | 0 => .int
  | 1 => .long
  | 2 => .byte
  | 3 => .boolean
  | 4 => .array .int
  | 5 => .array .long
  | _ => .object "TinString$Row"
def se_len : List Nat := (List.range 10).map fun i => (px_str i).length
def se_byt : List (List Int32) := (List.range 10).map fun i => (px_str i).map Int32.ofInt
def se_AOA (t : FieldType) (U : State) : Prop := (Cond.arrayOver (.array t)).before #[] U = true
theorem se_AOA.moved {t : FieldType} {u U : State} (hvm : u.vm.Alike U.vm) (h : se_AOA t u) : se_AOA t U := by
  obtain ⟨comp, c, k, h1, h2, h3, h4, h5⟩ := Jvm.Stand.arrayOver_specB h
  obtain ⟨k', hk', he⟩ := hvm.2.2 _ _ h3
  have hi : (U.vm.classes.findIdx? fun (x : Class) => match x.kind with | .array component _ => component == comp | _ => false) = some c := by
    have e1 := va_idx_bare U.vm comp
    have e2 := va_idx_bare u.vm comp
    have e3 : U.vm.bare = u.vm.bare := by first | exact hvm.bare_eq | exact hvm.bare_eq.symm
    rw [e3] at e1
    exact e1.symm.trans (e2.trans h2)
  have hkind : k'.kind = .array comp (.array t) := by rw [he]; exact h4
  have f1 : U.vm.findClass (FieldType.array t).toString = some comp := by rw [hvm.findClass]; exact h1
  have f2 : U.vm.findClass ("[" ++ (FieldType.array t).toString) = some c := by rw [hvm.findClass]; exact h5
  unfold se_AOA Cond.before Cond.holds
  simp only [Cond.value]
  rw [f1, Option.bind_some]
  refine (congrArg (fun o : Option Nat => (o.bind (fun c => (U.vm.classes[c]?).map fun (k : Class) => match k.kind with | .array _ ty => decide (ty = FieldType.array t) && decide (U.vm.findClass ("[" ++ (FieldType.array t).toString) = some c) | _ => false) == some true)) hi).trans ?_
  simp [hk', hkind, f2]
def se_E (E : se) (U : State) (H : Heap) : Prop :=
  (va_X (se_s E) (se_L E) (se_x E) U H ∧ se_s E < se_b E ∧ se_s E < H.size) ∧
  (∀ i, i < 4 → va_Z (px_snm i).1 (px_snm i).2 "[I" (.ref (se_S E i)) (se_A E) U H ∧ va_T .int (se_S E i) (px_sar i).length (fun j => .int (Int32.ofInt (px_lst (px_sar i) j))) (se_A E) U H) ∧
  va_Z "java/lang/String" "COMPACT_STRINGS" "Z" (.int 1) (se_A E) U H ∧ va_Zq "jdk/internal/util/Preconditions" "SIOOBE_FORMATTER" "Ljava/util/function/BiFunction;" (se_A E) U H ∧
  (∀ q ∈ px_srf, vk_R q.1 q.2.1 q.2.2.2 (se_K E q.2.2.1) U) ∧
  vk_S 10 se_len se_byt (se_K E) (se_V E) (se_A E) U H ∧
  (∀ w ∈ px_nst, va_Nw w U) ∧ va_AO "TinString$Row" U ∧ se_AOA .int U ∧ se_AOA .long U ∧
  va_K (se_D E) px_cl (se_T E) U ∧ (∀ k, k < 7 → ∃ c, (se_T E)[k]? = some (c, px_kty k))
theorem se_E.kept {E : se} {U : State} {H H1 : Heap} (h : se_E E U H) (hz : H.size ≤ H1.size) (hq : ∀ a : Nat, a < H.size → ¬ se_A E a → H1[a]? = H[a]?) : se_E E U H1 := by
  obtain ⟨⟨h1, h1b, h1c⟩, h2, h3, h4, h5, h6, h7, h8, h9, h10, h11, h12⟩ := h
  refine ⟨⟨h1.kept (hq _ h1c (fun z => by unfold se_A at z; omega)), h1b, Nat.lt_of_lt_of_le h1c hz⟩, fun i hi => ⟨(h2 i hi).1.kept hq, (h2 i hi).2.kept hq⟩, h3.kept hq, h4.kept hq, h5, h6.kept hq, h7, h8, h9, h10, h11, h12⟩
theorem px_nst_sh : ∀ w ∈ px_nst, ∃ a i x h, w = Cond.methodLinkNest a i x h := by
  intro w hw
  simp only [px_nst, List.mem_cons, List.not_mem_nil, or_false] at hw
  rcases hw with rfl | rfl | rfl | rfl | rfl | rfl | rfl <;> exact ⟨_, _, _, _, rfl⟩
theorem se_E.warm {E : se} {s U : State} {H : Heap} (hW : s.WarmedH U.vm) (h : se_E E s H) : se_E E U H := by
  obtain ⟨⟨h1, h1b, h1c⟩, h2, h3, h4, h5, h6, h7, h8, h9, h10, h11, h12⟩ := h
  have hA := hW.alike
  refine ⟨⟨h1.moved hA, h1b, h1c⟩, fun i hi => ⟨(h2 i hi).1.moved hA, (h2 i hi).2.moved hA⟩, h3.moved hA, h4.moved hA, fun q hq => (h5 q hq).warm hW, h6.moved hA, fun w hw => ?_, h8.moved hA, h9.moved hA, h10.moved hA, h11.moved hA, h12⟩
  obtain ⟨a, i, x, g, rfl⟩ := px_nst_sh w hw
  exact va_Nw.warmM hW (h7 _ hw)
theorem se_E.same {E : se} {u U : State} {H : Heap} (hv : U.vm = u.vm) (h : se_E E u H) : se_E E U H := by
  obtain ⟨⟨h1, h1b, h1c⟩, h2, h3, h4, h5, h6, h7, h8, h9, h10, h11, h12⟩ := h
  have hA : u.vm.Alike U.vm := by rw [hv]; exact Vm.Alike.refl _
  refine ⟨⟨h1.moved hA, h1b, h1c⟩, fun i hi => ⟨(h2 i hi).1.moved hA, (h2 i hi).2.moved hA⟩, h3.moved hA, h4.moved hA, fun q hq => (h5 q hq).same hv, h6.moved hA, fun w hw => ?_, h8.moved hA, h9.moved hA, h10.moved hA, h11.moved hA, h12⟩
  obtain ⟨a, i, x, g, rfl⟩ := px_nst_sh w hw
  exact va_Nw.same rfl hv.symm (h7 _ hw)
