/-! THE PURE MACHINE: values are a kind and an integer (0 int, 1 long, 2 a cell, 3 a String constant, 4 a static array, 5 the script, 9 nothing); a world is the list of the cells' kinds (0 int[], 1 long[], 2 byte[], 3 boolean[], 4 int[][], 5 long[][], 6 Row[], 10 + c an object of class c; and how many slots) and their contents. Cell 0 is null; its slots hold the script. -/
abbrev pv := Nat × Int
abbrev pw := List (Nat × Nat) × (Nat → Nat → Int)
/-- a method: its class, its code, its labels, its locals, its answer's kind (7 boolean, 9 none), its depth, its room, its arguments' kinds, whether it is a constructor -/
abbrev pm := Nat × List (Nat × Instr × Nat) × List Nat × Nat × Nat × Nat × Nat × List Nat × Bool
abbrev pq := pm × Nat × List pv × List pv × pw
abbrev pr := Int × pw
def px_own (m : pm) : Nat := m.1
def px_cod (m : pm) : List (Nat × Instr × Nat) := m.2.1
def px_lab (m : pm) : List Nat := m.2.2.1
def px_max (m : pm) : Nat := m.2.2.2.1
def px_ret (m : pm) : Nat := m.2.2.2.2.1
def px_dep (m : pm) : Nat := m.2.2.2.2.2.1
def px_loc (m : pm) : Nat := m.2.2.2.2.2.2.1
def px_arg (m : pm) : List Nat := m.2.2.2.2.2.2.2.1
def px_ini (m : pm) : Bool := m.2.2.2.2.2.2.2.2
def px_find {α : Type} : List (Nat × α) → Nat → Option α
  | [], _ => none
  | (k, a) :: l, n => bif Nat.beq k n then some a else px_find l n
def px_mem : List Nat → Nat → Bool
  | [], _ => false
  | k :: l, n => bif Nat.beq k n then true else px_mem l n
def px_kds : List (Nat × Nat) → Nat → Nat × Nat
  | [], _ => (99, 0)
  | a :: _, 0 => a
  | _ :: l, k + 1 => px_kds l k
def px_kd (w : pw) (r : Int) : Nat × Nat := px_kds w.1 r.toNat
def px_rd (w : pw) (r : Int) (j : Nat) : Int := w.2 r.toNat j
def px_wr (w : pw) (r : Int) (j : Nat) (v : Int) : pw := (w.1, fun a b => if a = r.toNat ∧ b = j then v else w.2 a b)
def px_al (w : pw) (k : Nat × Nat) : pw := (w.1 ++ [k], fun a b => if a = w.1.length then 0 else w.2 a b)
def px_al2 (w : pw) (o i : Nat) (n k : Nat) : pw := (w.1 ++ ((o, n) :: List.replicate n (i, k)), fun a b => if a = w.1.length then (if b < n then (w.1.length : Int) + 1 + b else 0) else if w.1.length < a then 0 else w.2 a b)
def px_w (x : Int) : Int := Int.bmod x 4294967296
def px_wl (x : Int) : Int := Int.bmod x 18446744073709551616
def px_wb (x : Int) : Int := Int.bmod x 256
def px_and (a b : Int) : Int := (Int32.ofInt a &&& Int32.ofInt b).toInt
def px_or (a b : Int) : Int := (Int32.ofInt a ||| Int32.ofInt b).toInt
def px_shl (a b : Int) : Int := (Int32.ofInt a <<< (Int32.ofInt b &&& 31)).toInt
def px_shr (a b : Int) : Int := (Int32.ofInt a >>> (Int32.ofInt b &&& 31)).toInt
def px_ush (a b : Int) : Int := ((Int32.ofInt a).toUInt32 >>> ((Int32.ofInt b).toUInt32 &&& Int32.toUInt32 31)).toInt32.toInt
def px_land (a b : Int) : Int := (Int64.ofInt a &&& Int64.ofInt b).toInt
def px_lshl (a b : Int) : Int := (Int64.ofInt a <<< ((Int32.ofInt b).toInt64 &&& 63)).toInt
def px_lshr (a b : Int) : Int := (Int64.ofInt a >>> ((Int32.ofInt b).toInt64 &&& 63)).toInt
def px_lush (a b : Int) : Int := ((Int64.ofInt a).toUInt64 >>> ((Int32.ofInt b).toInt64.toUInt64 &&& Int64.toUInt64 63)).toInt64.toInt
def px_cmp (a b : Int) : Int := if b < a then 1 else if a = b then 0 else -1
/-- r is an array of kind t that has a place i -/
def px_ga (w : pw) (t : Nat) (r i : Int) : Bool := Nat.beq (px_kd w r).1 t && (decide (0 ≤ i) && decide (i < ((px_kd w r).2 : Int)))
/-- r is an object of class c -/
def px_go (w : pw) (r : Int) (c : Nat) : Bool := Nat.beq (px_kd w r).1 (10 + c)
def px_gb (w : pw) (r i x : Int) : Bool := (px_ga w 2 r i && (decide (-128 ≤ x) && decide (x < 128))) || (px_ga w 3 r i && (decide (0 ≤ x) && decide (x < 2)))
/-- lists of values -/
def px_nth : List pv → Nat → pv
  | [], _ => (9, 0)
  | a :: _, 0 => a
  | _ :: l, k + 1 => px_nth l k
def px_set : List pv → Nat → pv → List pv
  | [], _, _ => []
  | _ :: l, 0, v => v :: l
  | a :: l, k + 1, v => a :: px_set l k v
def px_kil (ls : List pv) : Nat → List pv
  | 0 => ls
  | k + 1 => bif Nat.beq (px_nth ls k).1 1 then px_set ls k (9, 0) else ls
def px_st1 (ls : List pv) (k : Nat) (v : pv) : List pv := px_set (px_kil ls k) k v
def px_st2 (ls : List pv) (k : Nat) (v : pv) : List pv := px_set (px_set (px_kil ls k) k v) (k + 1) (9, 0)
def px_exp : List pv → List pv
  | [] => []
  | a :: l => bif Nat.beq a.1 1 then a :: (9, 0) :: px_exp l else a :: px_exp l
def px_pad : Nat → List pv → List pv
  | 0, l => l
  | n + 1, [] => (9, 0) :: px_pad n []
  | n + 1, a :: l => a :: px_pad n l
def px_ent (m : pm) (args : List pv) : List pv := px_pad (px_max m) (px_exp args)
def px_cat : List pv → Nat
  | [] => 0
  | a :: l => (bif Nat.beq a.1 1 then 2 else 1) + px_cat l
/-- n values off the stack, the first argument first; and the rest -/
def px_pop : Nat → List pv → List pv → Option (List pv × List pv)
  | 0, acc, st => some (acc, st)
  | _ + 1, _, [] => none
  | n + 1, acc, a :: st => px_pop n (a :: acc) st
def px_tys : List pv → List Nat → Bool
  | [], [] => true
  | a :: l, t :: ts => Nat.beq a.1 t && px_tys l ts
  | _, _ => false
abbrev px_A := (Bool × Nat × List pv × List pv × pw) ⊕ (Bool × Int × pw) ⊕ (Nat × Int × Int × Nat × Nat × List pv × List pv × pw) ⊕ (Int × List (Int × Nat) × Nat × List pv × List pv × pw) ⊕ (Bool × pm × List pv × Nat × List pv × List pv × pw)
def px_nx (pc : Nat) (ls st : List pv) (w : pw) : Option px_A := some (.inl (true, pc, ls, st, w))
def px_gd (g : Bool) (pc : Nat) (ls st : List pv) (w : pw) : Option px_A := some (.inl (g, pc, ls, st, w))
def px_tgt (pc : Nat) (off : Int) : Option Nat := match (pc : Int) + off with
  | .ofNat k => some k
  | .negSucc _ => none
def px_i1 (st : List pv) (k : Int → List pv → Option px_A) : Option px_A := match st with
  | (0, x) :: st => k x st
  | _ => none
def px_i2 (st : List pv) (k : Int → Int → List pv → Option px_A) : Option px_A := match st with
  | (0, y) :: (0, x) :: st => k x y st
  | _ => none
def px_l1 (st : List pv) (k : Int → List pv → Option px_A) : Option px_A := match st with
  | (1, x) :: st => k x st
  | _ => none
def px_l2 (st : List pv) (k : Int → Int → List pv → Option px_A) : Option px_A := match st with
  | (1, y) :: (1, x) :: st => k x y st
  | _ => none
def px_li (st : List pv) (k : Int → Int → List pv → Option px_A) : Option px_A := match st with
  | (0, y) :: (1, x) :: st => k x y st
  | _ => none
def px_r1 (st : List pv) (k : Int → List pv → Option px_A) : Option px_A := match st with
  | (2, x) :: st => k x st
  | _ => none
def px_br (pc : Nat) (off : Int) (f : Nat) (ls : List pv) (w : pw) (c : Nat) (x y : Int) (st : List pv) : Option px_A := match px_tgt pc off with
  | some t => some (.inr (.inr (.inl (c, x, y, t, f, ls, st, w))))
  | none => none
def px_ld (t : Nat) (i : Nat) (pc : Nat) (ls st : List pv) (w : pw) : Option px_A := bif Nat.beq (px_nth ls i).1 t then px_nx pc ls ((t, (px_nth ls i).2) :: st) w else none
def px_lda (i : Nat) (pc : Nat) (ls st : List pv) (w : pw) : Option px_A := bif Nat.ble 2 (px_nth ls i).1 && Nat.ble (px_nth ls i).1 5 then px_nx pc ls (px_nth ls i :: st) w else none
def px_frc {α : Type} : List pv → (List pv → α) → α
  | [], k => k []
  | a :: l, k => px_frc l fun l => k (a :: l)
def px_sto (m : pm) (t : Nat) (i : Nat) (pc : Nat) (ls st : List pv) (w : pw) : Option px_A := match st with
  | (s, x) :: st => bif Nat.beq s t && Nat.blt (bif Nat.beq t 1 then i + 1 else i) (px_max m) then (px_frc (bif Nat.beq t 1 then px_st2 ls i (t, x) else px_st1 ls i (t, x)) fun ls => px_nx pc ls st w) else none
  | _ => none
def px_sta' (m : pm) (i : Nat) (pc : Nat) (ls st : List pv) (w : pw) : Option px_A := match st with
  | (s, x) :: st => bif Nat.beq s 2 && Nat.blt i (px_max m) then (px_frc (px_st1 ls i (s, x)) fun ls => px_nx pc ls st w) else none
  | _ => none
def px_ccd : Jvm.ClassFile.Cond → Nat
  | .eq => 0
  | .ne => 1
  | .lt => 2
  | .ge => 3
  | .gt => 4
  | .le => 5
def px_swc (pc : Nat) : Int → List Int → Option (List (Int × Nat))
  | _, [] => some []
  | lo, o :: l => match px_tgt pc o, px_swc pc (lo + 1) l with
    | some t, some r => some ((lo, t) :: r)
    | _, _ => none
def px_aty : ArrayType → Option Nat
  | .int => some 0
  | .long => some 1
  | .byte => some 2
  | .boolean => some 3
  | _ => none
