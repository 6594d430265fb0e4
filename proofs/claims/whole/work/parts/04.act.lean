def px_lst : List Int → Nat → Int
  | [], _ => 0
  | a :: _, 0 => a
  | _ :: l, k + 1 => px_lst l k
def px_gl (l : List Int) (i : Int) : Bool := decide (0 ≤ i) && decide (i < (l.length : Int))
def px_ab (x : Int) : Int := if 0 ≤ x then x else px_w (0 - x)
def px_mx (x y : Int) : Int := if x < y then y else x
def px_mn (x y : Int) : Int := if y < x then y else x
/-- a call: the arguments are taken, the receiver looked at -/
def px_inv (m : pm) (idx : Nat) (kinds : List Nat) (pc : Nat) (ls st : List pv) (w : pw) : Option px_A := match px_find (px_cal (px_own m)) idx with
  | some (5, _) => bif px_mem kinds 5 then (px_r1 st fun r st => bif Nat.ble (px_cat st + 12) (px_loc m) && Nat.ble 2 (px_dep m) then px_gd (!decide (r = 0)) pc ls st w else none) else none
  | some (6, _) => bif px_mem kinds 1 && (Nat.blt 1 (px_dep m) && Nat.ble 40 (px_loc m)) then (match st with
    | (3, x) :: st => bif Nat.ble (px_cat st) 8 then px_nx pc ls ((0, ((px_str x.toNat).length : Int)) :: st) w else none
    | _ => none) else none
  | some (7, _) => bif px_mem kinds 1 && (Nat.blt 4 (px_dep m) && Nat.ble 85 (px_loc m)) then (match st with
    | (0, i) :: (3, x) :: st => bif Nat.ble (px_cat st) 8 then px_gd (px_gl (px_str x.toNat) i) pc ls ((0, px_lst (px_str x.toNat) i.toNat) :: st) w else none
    | _ => none) else none
  | some (8, _) => bif px_mem kinds 0 && (Nat.ble 2 (px_dep m) && Nat.ble 21 (px_loc m)) then (px_i1 st fun x st => bif Nat.ble (px_cat st) 8 then px_nx pc ls ((0, px_ab x) :: st) w else none) else none
  | some (9, _) => bif px_mem kinds 0 && (Nat.ble 2 (px_dep m) && Nat.ble 21 (px_loc m)) then (px_i2 st fun x y st => bif Nat.ble (px_cat st) 8 then px_nx pc ls ((0, px_mx x y) :: st) w else none) else none
  | some (10, _) => bif px_mem kinds 0 && (Nat.ble 2 (px_dep m) && Nat.ble 21 (px_loc m)) then (px_i2 st fun x y st => bif Nat.ble (px_cat st) 8 then px_nx pc ls ((0, px_mn x y) :: st) w else none) else none
  | some (k, t) => bif px_mem kinds k && (Nat.blt (px_dep t) (px_dep m) && Nat.ble (8 + (px_max t + 11) + px_loc t) (px_loc m)) then (match px_pop (px_arg t).length [] st with
    | some (as, st) => bif px_tys as (px_arg t) && Nat.ble (px_cat st) 8 then some (.inr (.inr (.inr (.inr (bif Nat.beq k 0 then true else px_go w (px_nth as 0).2 (px_own t), t, as, pc, ls, st, w))))) else none
    | none => none) else none
  | none => none
def px_act (m : pm) (pc : Nat) (i : Instr) (n : Nat) (ls st : List pv) (w : pw) : Option px_A := match i with
  | .iconst x => px_gd (decide (-2 ≤ x) && decide (x < 6)) (pc + n) ls ((0, x) :: st) w
  | .bipush x => px_gd (decide (-128 ≤ x) && decide (x < 128)) (pc + n) ls ((0, x) :: st) w
  | .sipush x => px_gd (decide (-32768 ≤ x) && decide (x < 32768)) (pc + n) ls ((0, x) :: st) w
  | .lconst x => px_nx (pc + n) ls ((1, ((x : Nat) : Int)) :: st) w
  | .ldc x => match px_find (px_con (px_own m)) x with
    | some (t, v) => bif Nat.beq t 0 || Nat.beq t 3 then px_nx (pc + n) ls ((t, v) :: st) w else none
    | none => none
  | .ldc_w x => match px_find (px_con (px_own m)) x with
    | some (t, v) => bif Nat.beq t 0 then px_nx (pc + n) ls ((t, v) :: st) w else none
    | none => none
  | .ldc2_w x => match px_find (px_con (px_own m)) x with
    | some (t, v) => bif Nat.beq t 1 then px_nx (pc + n) ls ((t, v) :: st) w else none
    | none => none
  | .iload x => px_ld 0 x (pc + n) ls st w
  | .iload_n x => px_ld 0 x (pc + n) ls st w
  | .lload x => px_ld 1 x (pc + n) ls st w
  | .lload_n x => px_ld 1 x (pc + n) ls st w
  | .aload x => px_lda x (pc + n) ls st w
  | .aload_n x => px_lda x (pc + n) ls st w
  | .istore x => px_sto m 0 x (pc + n) ls st w
  | .istore_n x => px_sto m 0 x (pc + n) ls st w
  | .lstore x => px_sto m 1 x (pc + n) ls st w
  | .lstore_n x => px_sto m 1 x (pc + n) ls st w
  | .astore x => px_sta' m x (pc + n) ls st w
  | .astore_n x => px_sta' m x (pc + n) ls st w
  | .iinc x c => bif Nat.beq (px_nth ls x).1 0 && (Nat.blt x (px_max m) && (Nat.beq n 3 && (decide (-128 ≤ c) && decide (c < 128)))) then (px_frc (px_st1 ls x (0, px_w ((px_nth ls x).2 + c))) fun ls => px_nx (pc + n) ls st w) else none
  | .iadd => px_i2 st fun x y st => px_nx (pc + n) ls ((0, px_w (x + y)) :: st) w
  | .isub => px_i2 st fun x y st => px_nx (pc + n) ls ((0, px_w (x - y)) :: st) w
  | .imul => px_i2 st fun x y st => px_nx (pc + n) ls ((0, px_w (x * y)) :: st) w
  | .idiv => px_i2 st fun x y st => px_gd (!decide (y = 0)) (pc + n) ls ((0, px_w (Int.tdiv x y)) :: st) w
  | .irem => px_i2 st fun x y st => px_gd (!decide (y = 0)) (pc + n) ls ((0, Int.tmod x y) :: st) w
  | .ineg => px_i1 st fun x st => px_nx (pc + n) ls ((0, px_w (-x)) :: st) w
  | .iand => px_i2 st fun x y st => px_nx (pc + n) ls ((0, px_and x y) :: st) w
  | .ior => px_i2 st fun x y st => px_nx (pc + n) ls ((0, px_or x y) :: st) w
  | .ishl => px_i2 st fun x y st => px_nx (pc + n) ls ((0, px_shl x y) :: st) w
  | .ishr => px_i2 st fun x y st => px_nx (pc + n) ls ((0, px_shr x y) :: st) w
  | .iushr => px_i2 st fun x y st => px_nx (pc + n) ls ((0, px_ush x y) :: st) w
  | .ladd => px_l2 st fun x y st => px_nx (pc + n) ls ((1, px_wl (x + y)) :: st) w
  | .lsub => px_l2 st fun x y st => px_nx (pc + n) ls ((1, px_wl (x - y)) :: st) w
  | .lmul => px_l2 st fun x y st => px_nx (pc + n) ls ((1, px_wl (x * y)) :: st) w
  | .ldiv => px_l2 st fun x y st => px_gd (!decide (y = 0)) (pc + n) ls ((1, px_wl (Int.tdiv x y)) :: st) w
  | .lrem => px_l2 st fun x y st => px_gd (!decide (y = 0)) (pc + n) ls ((1, Int.tmod x y) :: st) w
  | .land => px_l2 st fun x y st => px_nx (pc + n) ls ((1, px_land x y) :: st) w
  | .lshl => px_li st fun x y st => px_nx (pc + n) ls ((1, px_lshl x y) :: st) w
  | .lshr => px_li st fun x y st => px_nx (pc + n) ls ((1, px_lshr x y) :: st) w
  | .lushr => px_li st fun x y st => px_nx (pc + n) ls ((1, px_lush x y) :: st) w
  | .lcmp => px_l2 st fun x y st => px_nx (pc + n) ls ((0, px_cmp x y) :: st) w
  | .i2l => px_i1 st fun x st => px_nx (pc + n) ls ((1, x) :: st) w
  | .l2i => px_l1 st fun x st => px_nx (pc + n) ls ((0, px_w x) :: st) w
  | .i2b => px_i1 st fun x st => px_nx (pc + n) ls ((0, px_wb x) :: st) w
  | .dup => match st with
    | (t, x) :: st => bif Nat.beq t 1 then none else px_nx (pc + n) ls ((t, x) :: (t, x) :: st) w
    | _ => none
  | .dup2 => match st with
    | (1, x) :: st => px_nx (pc + n) ls ((1, x) :: (1, x) :: st) w
    | (0, x) :: (2, y) :: st => px_nx (pc + n) ls ((0, x) :: (2, y) :: (0, x) :: (2, y) :: st) w
    | _ => none
  | .pop => match st with
    | (t, _) :: st => bif Nat.beq t 1 then none else px_nx (pc + n) ls st w
    | _ => none
  | .goto off => match px_tgt pc off with
    | some t => px_nx t ls st w
    | none => none
  | .ifCond c off => px_i1 st fun x st => px_br pc off (pc + n) ls w (px_ccd c) x 0 st
  | .if_icmp c off => px_i2 st fun x y st => px_br pc off (pc + n) ls w (px_ccd c) x y st
  | .tableswitch d lo hi offs => px_i1 st fun x st => match px_tgt pc d, px_swc pc lo offs.toList with
    | some d, some l => bif decide (hi = lo + (l.length : Int) - 1) then some (.inr (.inr (.inr (.inl (x, l, d, ls, st, w))))) else none
    | _, _ => none
  | .getfield x => px_r1 st fun r st => match px_find (px_fld (px_own m)) x with
    | some (c, j, t, _) => px_gd (px_go w r c) (pc + n) ls ((t, px_rd w r j) :: st) w
    | none => none
  | .putfield x => match st with
    | (t, v) :: (2, r) :: st => match px_find (px_fld (px_own m)) x with
      | some (c, j, t', f) => bif Nat.beq t t' && (!f || (px_ini m && Nat.beq c (px_own m))) then px_gd (px_go w r c) (pc + n) ls st (px_wr w r j v) else none
      | none => none
    | _ => none
  | .getstatic x => match px_find (px_stt (px_own m)) x with
    | some s => px_nx (pc + n) ls ((4, (s : Int)) :: st) w
    | none => none
  | .arraylength => match st with
    | (2, r) :: st => px_gd (Nat.ble (px_kd w r).1 6) (pc + n) ls ((0, ((px_kd w r).2 : Int)) :: st) w
    | (4, s) :: st => px_nx (pc + n) ls ((0, ((px_sar s.toNat).length : Int)) :: st) w
    | (5, l) :: st => px_nx (pc + n) ls ((0, l) :: st) w
    | _ => none
  | .iaload => match st with
    | (0, i) :: (2, r) :: st => px_gd (px_ga w 0 r i) (pc + n) ls ((0, px_rd w r i.toNat) :: st) w
    | (0, i) :: (4, s) :: st => px_gd (px_gl (px_sar s.toNat) i) (pc + n) ls ((0, px_lst (px_sar s.toNat) i.toNat) :: st) w
    | (0, i) :: (5, l) :: st => px_gd (decide (0 ≤ i) && decide (i < l)) (pc + n) ls ((0, px_rd w 0 i.toNat) :: st) w
    | _ => none
  | .baload => match st with
    | (0, i) :: (2, r) :: st => px_gd (px_ga w 2 r i || px_ga w 3 r i) (pc + n) ls ((0, px_rd w r i.toNat) :: st) w
    | _ => none
  | .laload => match st with
    | (0, i) :: (2, r) :: st => px_gd (px_ga w 1 r i) (pc + n) ls ((1, px_rd w r i.toNat) :: st) w
    | _ => none
  | .aaload => match st with
    | (0, i) :: (2, r) :: st => px_gd (px_ga w 4 r i || (px_ga w 5 r i || px_ga w 6 r i)) (pc + n) ls ((2, px_rd w r i.toNat) :: st) w
    | _ => none
  | .iastore => match st with
    | (0, x) :: (0, i) :: (2, r) :: st => px_gd (px_ga w 0 r i) (pc + n) ls st (px_wr w r i.toNat x)
    | _ => none
  | .bastore => match st with
    | (0, x) :: (0, i) :: (2, r) :: st => px_gd (px_gb w r i x) (pc + n) ls st (px_wr w r i.toNat x)
    | _ => none
  | .lastore => match st with
    | (1, x) :: (0, i) :: (2, r) :: st => px_gd (px_ga w 1 r i) (pc + n) ls st (px_wr w r i.toNat x)
    | _ => none
  | .aastore => match st with
    | (2, x) :: (0, i) :: (2, r) :: st => px_gd (px_ga w 6 r i && px_go w x 4) (pc + n) ls st (px_wr w r i.toNat x)
    | _ => none
  | .new x => match px_find (px_ncl (px_own m)) x with
    | some c => px_nx (pc + n) ls ((2, (w.1.length : Int)) :: st) (px_al w (10 + c, px_nfl c))
    | none => none
  | .newarray a => px_i1 st fun x st => match px_aty a with
    | some t => px_gd (decide (0 ≤ x) && decide (x < 1000)) (pc + n) ls ((2, (w.1.length : Int)) :: st) (px_al w (t, x.toNat))
    | none => none
  | .anewarray x => px_i1 st fun k st => match px_find (px_anr (px_own m)) x with
    | some t => px_gd (decide (0 ≤ k) && decide (k < 1000)) (pc + n) ls ((2, (w.1.length : Int)) :: st) (px_al w (t, k.toNat))
    | none => none
  | .multianewarray x d => px_i2 st fun a b st => match px_find (px_mar (px_own m)) x with
    | some (o, i) => bif Nat.beq d 2 then px_gd ((decide (0 ≤ a) && decide (a < 1000)) && (decide (0 ≤ b) && decide (b < 1000))) (pc + n) ls ((2, (w.1.length : Int)) :: st) (px_al2 w o i a.toNat b.toNat) else none
    | none => none
  | .invokestatic x => px_inv m x [0] (pc + n) ls st w
  | .invokevirtual x => px_inv m x [1] (pc + n) ls st w
  | .invokespecial x => px_inv m x [3, 4, 5] (pc + n) ls st w
  | .ireturn => match st with
    | (0, x) :: [] => bif Nat.beq (px_ret m) 0 then some (.inr (.inl (true, x, w))) else bif Nat.beq (px_ret m) 7 then some (.inr (.inl (decide (0 ≤ x) && decide (x < 2), x, w))) else none
    | _ => none
  | .lreturn => match st with
    | (1, x) :: [] => bif Nat.beq (px_ret m) 1 then some (.inr (.inl (true, x, w))) else none
    | _ => none
  | .return_ => match st with
    | [] => bif Nat.beq (px_ret m) 9 then some (.inr (.inl (true, 0, w))) else none
    | _ => none
  | _ => none
def px_psh (t : Nat) (x : Int) (st : List pv) : List pv := bif Nat.beq t 9 then st else bif Nat.beq t 7 then (0, x) :: st else (t, x) :: st
def px_if (c : Nat) (x y : Int) (A B : Option pr) : Option pr := match c with
  | 0 => if x = y then A else B
  | 1 => if x = y then B else A
  | 2 => if x < y then A else B
  | 3 => if x < y then B else A
  | 4 => if y < x then A else B
  | _ => if y < x then B else A
def px_sw (x : Int) (B : Option pr) (J : Nat → Option pr) : List (Int × Nat) → Option pr
  | [] => B
  | (k, t) :: l => if x = k then J t else px_sw x B J l
def px_j (F : pq → Option pr) (m : pm) (K : Nat → List pv → List pv → pw → Option pr) (pc : Nat) (ls st : List pv) (w : pw) : Option pr := bif px_mem (px_lab m) pc then F (m, pc, ls, st, w) else K pc ls st w
def px_on (F : pq → Option pr) (m : pm) (K : Nat → List pv → List pv → pw → Option pr) (a : px_A) : Option pr := match a with
  | .inl (g, pc, ls, st, w) => if g = true then px_j F m K pc ls st w else none
  | .inr (.inl (g, x, w)) => if g = true then some (x, w) else none
  | .inr (.inr (.inl (c, x, y, t, f, ls, st, w))) => px_if c x y (px_j F m K t ls st w) (px_j F m K f ls st w)
  | .inr (.inr (.inr (.inl (x, l, d, ls, st, w)))) => px_sw x (px_j F m K d ls st w) (fun t => px_j F m K t ls st w) l
  | .inr (.inr (.inr (.inr (g, t, as, pc, ls, st, w)))) => if g = true then (F (t, 0, px_ent t as, [], w)).bind fun r => px_j F m K pc ls (px_psh (px_ret t) r.1 st) r.2 else none
def px_s1 (F : pq → Option pr) (m : pm) (K : Nat → List pv → List pv → pw → Option pr) (pc : Nat) (ls st : List pv) (w : pw) : Option pr := match px_find (px_cod m) pc with
  | some (i, n) => match px_act m pc i n ls st w with
    | some a => px_on F m K a
    | none => none
  | none => none
noncomputable def px_blk (F : pq → Option pr) (m : pm) (k : Nat) : Nat → List pv → List pv → pw → Option pr := Nat.rec (fun _ _ _ _ => none) (fun _ K => px_s1 F m K) k
noncomputable def px_run (n : Nat) : pq → Option pr := Nat.rec (fun _ => none) (fun _ F q => px_blk F q.1 400 q.2.1 q.2.2.1 q.2.2.2.1 q.2.2.2.2) n
