/-! The ear: sums, packed distances. -/
def sm : Nat → (Nat → Int) → Int
  | 0, _ => 0
  | n + 1, f => sm n f + f n
theorem sm_c {n : Nat} {f g : Nat → Int} (h : ∀ i, i < n → f i = g i) : sm n f = sm n g := by
  induction n with
  | zero => rfl
  | succ n ih => rw [sm, sm, ih fun i hi => h i (by omega), h n (by omega)]
theorem sm_add (n : Nat) (f g : Nat → Int) : sm n (fun i => f i + g i) = sm n f + sm n g := by
  induction n with
  | zero => rfl
  | succ n ih => rw [sm, sm, sm, ih]; omega
theorem sm_mul (n : Nat) (c : Int) (f : Nat → Int) : sm n (fun i => c * f i) = c * sm n f := by
  induction n with
  | zero => rw [sm, sm, Int.mul_zero]
  | succ n ih => rw [sm, sm, ih, Int.mul_add]
theorem sm_z (n : Nat) : sm n (fun _ => 0) = 0 := by
  induction n with
  | zero => rfl
  | succ n ih => rw [sm, ih]; rfl
theorem sm_swap (a b : Nat) (f : Nat → Nat → Int) : sm a (fun i => sm b fun j => f i j) = sm b fun j => sm a fun i => f i j := by
  induction a with
  | zero => rw [sm]; exact (sm_z b).symm
  | succ a ih => rw [sm, ih, ← sm_add]; rfl
theorem sm_app (a b : Nat) (f : Nat → Int) : sm (a + b) f = sm a f + sm b fun j => f (a + j) := by
  induction b with
  | zero => rw [sm]; exact (Int.add_zero _).symm
  | succ b ih => rw [← Nat.add_assoc, sm, ih, sm, Int.add_assoc]
theorem sm_prod (a b : Nat) (f : Nat → Int) : sm (a * b) f = sm b fun q => sm a fun r => f (a * q + r) := by
  induction b with
  | zero => rfl
  | succ b ih => rw [Nat.mul_succ, sm_app, ih, sm]
theorem sm_bd {n : Nat} {f : Nat → Int} {c : Nat → Int} (h : ∀ i, i < n → 0 ≤ f i ∧ f i ≤ c i) : 0 ≤ sm n f ∧ sm n f ≤ sm n c := by
  induction n with
  | zero => exact ⟨Int.le_refl _, Int.le_refl _⟩
  | succ n ih =>
    have := ih fun i hi => h i (by omega)
    have := h n (by omega)
    rw [sm, sm]
    omega
/-- four bands: the class's order against the code's -/
theorem sm_four (w : Nat) (t : Nat → Nat → Nat → Nat → Int) : sm (w * (w * (w * w))) (fun c => t (c % w) (c / w % w) (c / w / w % w) (c / w / w / w % w)) = sm w fun i => sm w fun j => sm w fun k => sm w fun l => t i j k l := by
  by_cases hw : w = 0
  · subst hw; rfl
  have hp : 0 < w := Nat.pos_of_ne_zero hw
  have e1 : ∀ q r : Nat, r < w → (w * q + r) % w = r := fun q r hr => by rw [Nat.mul_add_mod, Nat.mod_eq_of_lt hr]
  have e2 : ∀ q r : Nat, r < w → (w * q + r) / w = q := fun q r hr => by rw [Nat.mul_add_div hp, Nat.div_eq_of_lt hr, Nat.add_zero]
  rw [sm_prod, sm_prod, sm_prod]
  have s1 : (sm w fun q => sm w fun r => sm w fun q_1 => sm w fun r_1 => (fun c => t (c % w) (c / w % w) (c / w / w % w) (c / w / w / w % w)) (w * (w * (w * q + r) + q_1) + r_1)) = sm w fun l => sm w fun k => sm w fun j => sm w fun i => t i j k l := by
    refine sm_c fun l hl => sm_c fun k hk => sm_c fun j hj => sm_c fun i hi => ?_
    simp only [e1 _ _ hi, e2 _ _ hi, e1 _ _ hj, e2 _ _ hj, e1 _ _ hk, e2 _ _ hk, Nat.mod_eq_of_lt hl]
  rw [s1]
  have s2 : (sm w fun l => sm w fun k => sm w fun j => sm w fun i => t i j k l) = sm w fun l => sm w fun k => sm w fun i => sm w fun j => t i j k l := sm_c fun l _ => sm_c fun k _ => sm_swap _ _ _
  rw [s2]
  have s3 : (sm w fun l => sm w fun k => sm w fun i => sm w fun j => t i j k l) = sm w fun l => sm w fun i => sm w fun j => sm w fun k => t i j k l := sm_c fun l _ => by
    rw [sm_swap]
    exact sm_c fun i _ => sm_swap _ _ _
  rw [s3, sm_swap]
  refine sm_c fun i _ => ?_
  rw [sm_swap]
  refine sm_c fun j _ => ?_
  rw [sm_swap]
theorem lshr10 {a : Int} (h : 0 ≤ a) (h2 : a < 9223372036854775808) : px_lshr a 10 = a / 1024 := by
  unfold px_lshr
  have e : ((Int32.ofInt 10).toInt64 &&& 63 : Int64) = 10 := by decide
  rw [e]
  have e2 : (Int64.ofInt a >>> (10 : Int64)).toInt = (BitVec.sshiftRight (Int64.ofInt a).toBitVec 10).toInt := rfl
  rw [e2, BitVec.toInt_sshiftRight]
  have e3 : (Int64.ofInt a).toBitVec.toInt = a := by
    show (Int64.ofInt a).toInt = a
    rw [Int64.toInt_ofInt]
    exact Int.bmod_eq_of_le_mul_two (by simp [Int64.size]; omega) (by simp [Int64.size]; omega)
  rw [e3, Int.shiftRight_eq_div_pow]
  rfl
theorem lshl10 {a : Int} (h : 0 ≤ a) (h2 : a < 1125899906842624) : px_lshl a 10 = a * 1024 := by
  unfold px_lshl
  have e : ((Int32.ofInt 10).toInt64 &&& 63 : Int64) = 10 := by decide
  rw [e]
  have e2 : (Int64.ofInt a <<< (10 : Int64)).toInt = ((Int64.ofInt a).toBitVec <<< 10).toInt := rfl
  rw [e2, BitVec.toInt_shiftLeft]
  have e3 : (Int64.ofInt a).toBitVec.toNat = a.toNat := by
    have : (Int64.ofInt a).toBitVec = BitVec.ofInt 64 a := rfl
    rw [this, BitVec.toNat_ofInt]
    omega
  rw [e3, Nat.shiftLeft_eq]
  have e4 : ((a.toNat * 2 ^ 10 : Nat) : Int) = a * 1024 := by omega
  rw [e4]
  exact Int.bmod_eq_of_le_mul_two (by omega) (by omega)
theorem and1023 {a : Int} (h : 0 ≤ a) : px_and (px_w a) 1023 = a % 1024 := by
  unfold px_and
  have e2 : (Int32.ofInt (px_w a) &&& Int32.ofInt 1023).toInt = (BitVec.ofInt 32 (px_w a) &&& 1023#32).toInt := rfl
  have e5 : BitVec.ofInt 32 (px_w a) = BitVec.ofInt 32 a := by
    apply BitVec.eq_of_toInt_eq
    rw [BitVec.toInt_ofInt, BitVec.toInt_ofInt]
    exact Int.bmod_bmod
  rw [e2, e5]
  have e6 : (BitVec.ofInt 32 a &&& 1023#32).toNat = a.toNat % 1024 := by
    rw [BitVec.toNat_and, BitVec.toNat_ofInt]
    have : (1023#32).toNat = 2 ^ 10 - 1 := rfl
    rw [this, Nat.and_two_pow_sub_one_eq_mod]
    omega
  rw [BitVec.toInt_eq_toNat_of_lt (by rw [e6]; omega), e6]
  omega
/-- packed, ten bits each -/
def acc (f : Nat → Int) : Nat → Nat → Int
  | _, 0 => 0
  | j, k + 1 => f j + 1024 * acc f (j + 1) k
def p1024 : Nat → Int
  | 0 => 1
  | k + 1 => 1024 * p1024 k
theorem p1024_pos : ∀ k, 1 ≤ p1024 k
  | 0 => by decide
  | k + 1 => by have := p1024_pos k; unfold p1024; omega
theorem acc_rng {f : Nat → Int} {c : Int} (hc : 0 ≤ c ∧ c ≤ 1023) : ∀ (k j : Nat), (∀ i, j ≤ i → i < j + k → 0 ≤ f i ∧ f i ≤ c) → 0 ≤ acc f j k ∧ acc f j k + 1 ≤ p1024 k
  | 0, _, _ => by unfold acc p1024; decide
  | k + 1, j, h => by
    have a := acc_rng hc k (j + 1) fun i h1 h2 => h i (by omega) (by omega)
    have b := h j (by omega) (by omega)
    unfold acc p1024
    omega
theorem acc_add (f g : Nat → Int) : ∀ k j : Nat, acc f j k + acc g j k = acc (fun i => f i + g i) j k
  | 0, _ => rfl
  | k + 1, j => by
    have := acc_add f g k (j + 1)
    unfold acc
    omega
theorem acc_c {f g : Nat → Int} : ∀ (k j : Nat), (∀ i, j ≤ i → i < j + k → f i = g i) → acc f j k = acc g j k
  | 0, _, _ => rfl
  | k + 1, j, h => by
    unfold acc
    rw [h j (by omega) (by omega), acc_c k (j + 1) fun i h1 h2 => h i (by omega) (by omega)]
def fld (x : Int) : Nat → Int
  | 0 => x % 1024
  | i + 1 => fld (x / 1024) i
def shf (x : Int) : Nat → Int
  | 0 => x
  | i + 1 => shf x i / 1024
theorem fld_shf : ∀ (i : Nat) (x : Int), fld x i = shf x i % 1024
  | 0, _ => rfl
  | i + 1, x => by
    rw [fld, fld_shf i]
    congr 1
    have : ∀ (j : Nat) (y : Int), shf (y / 1024) j = shf y j / 1024 := by
      intro j
      induction j with
      | zero => intro y; rfl
      | succ j ih => intro y; rw [shf, ih, shf]
    exact this i x
theorem shf_rng {x : Int} (h : 0 ≤ x) : ∀ i : Nat, 0 ≤ shf x i ∧ shf x i ≤ x
  | 0 => ⟨h, Int.le_refl x⟩
  | i + 1 => by
    have := shf_rng h i
    rw [shf]
    omega
theorem fld_acc {f : Nat → Int} : ∀ (k j i : Nat), i < k → (∀ l, j ≤ l → l < j + k → 0 ≤ f l ∧ f l ≤ 1023) → fld (acc f j k) i = f (j + i)
  | 0, _, _, h, _ => absurd h (by omega)
  | k + 1, j, 0, _, hf => by
    have b := hf j (by omega) (by omega)
    rw [fld, acc]
    simp only [Nat.add_zero]
    omega
  | k + 1, j, i + 1, h, hf => by
    have b := hf j (by omega) (by omega)
    rw [fld, acc]
    have : (f j + 1024 * acc f (j + 1) k) / 1024 = acc f (j + 1) k := by omega
    rw [this, fld_acc k (j + 1) i (by omega) fun l h1 h2 => hf l (by omega) (by omega)]
    congr 1
    omega
/-- the first of the least -/
def am (F : Nat → Int) : Nat → Nat
  | 0 => 0
  | i + 1 => if F i < F (am F i) then i else am F i
theorem am_ok (F : Nat → Int) : ∀ m : Nat, 1 ≤ m → am F m < m ∧ (∀ j, j < m → F (am F m) ≤ F j) ∧ ∀ j, j < am F m → F (am F m) < F j
  | 0, h => absurd h (by omega)
  | 1, _ => by
    have : am F 1 = 0 := by
      show (if F 0 < F 0 then 0 else 0) = 0
      split <;> rfl
    rw [this]
    exact ⟨by omega, fun j hj => by have : j = 0 := by omega
                                    subst this; exact Int.le_refl _, fun j hj => absurd hj (by omega)⟩
  | m + 2, _ => by
    obtain ⟨h1, h2, h3⟩ := am_ok F (m + 1) (by omega)
    rw [am]
    by_cases e : F (m + 1) < F (am F (m + 1))
    · rw [if_pos e]
      refine ⟨by omega, fun j hj => ?_, fun j hj => ?_⟩
      · by_cases q : j = m + 1
        · subst q; exact Int.le_refl _
        · have := h2 j (by omega); omega
      · have := h2 j (by omega); omega
    · rw [if_neg e]
      refine ⟨by omega, fun j hj => ?_, h3⟩
      by_cases q : j = m + 1
      · subst q; omega
      · exact h2 j (by omega)
/-- a word of a set -/
def inS (T w : Nat) : Bool := decide (T / 2 ^ w % 2 = 1)
/-- the first word of a set that is the least off -/
def isEar (W T : Nat) (d : Nat → Int) (w : Nat) : Prop := w < W ∧ inS T w = true ∧ (∀ v, v < W → inS T v = true → d w ≤ d v) ∧ ∀ v, v < w → inS T v = true → d w < d v
theorem isEar_u {W T : Nat} {d : Nat → Int} {w v : Nat} (h : isEar W T d w) (g : isEar W T d v) : w = v := by
  obtain ⟨h1, h2, h3, h4⟩ := h
  obtain ⟨g1, g2, g3, g4⟩ := g
  rcases Nat.lt_trichotomy w v with e | e | e
  · have := g4 w e h2; have := h3 v g1 g2; omega
  · exact e
  · have := h4 v e g2; have := g3 w h1 h2; omega
/-- the reference's loop -/
def efs (T : Nat) (d : Nat → Int) : Nat → Int × Int
  | 0 => (-1, 0)
  | i + 1 => if inS T i = true then (if (efs T d i).1 = -1 ∨ d i < (efs T d i).2 then ((i : Int), d i) else efs T d i) else efs T d i
theorem efs_ok (T : Nat) (d : Nat → Int) : ∀ i : Nat, ((efs T d i).1 = -1 ∧ ∀ v, v < i → inS T v = false) ∨ ∃ w : Nat, (efs T d i).1 = (w : Int) ∧ (efs T d i).2 = d w ∧ isEar i T d w
  | 0 => Or.inl ⟨rfl, fun v hv => absurd hv (by omega)⟩
  | i + 1 => by
    rw [efs]
    cases e : inS T i
    · rw [if_neg Bool.false_ne_true]
      rcases efs_ok T d i with ⟨h1, h2⟩ | ⟨w, h1, h2, h3, h4, h5, h6⟩
      · refine Or.inl ⟨h1, fun v hv => ?_⟩
        by_cases q : v = i
        · rw [q]; exact e
        · exact h2 v (by omega)
      · refine Or.inr ⟨w, h1, h2, by omega, h4, fun v hv hb => ?_, h6⟩
        by_cases q : v = i
        · rw [q, e] at hb; cases hb
        · exact h5 v (by omega) hb
    · rw [if_pos rfl]
      rcases efs_ok T d i with ⟨h1, h2⟩ | ⟨w, h1, h2, h3, h4, h5, h6⟩
      · rw [if_pos (Or.inl h1)]
        refine Or.inr ⟨i, rfl, rfl, by omega, e, fun v hv hb => ?_, fun v hv hb => ?_⟩
        · by_cases q : v = i
          · rw [q]; exact Int.le_refl _
          · rw [h2 v (by omega)] at hb; cases hb
        · rw [h2 v (by omega)] at hb; cases hb
      · by_cases q : d i < (efs T d i).2
        · rw [if_pos (Or.inr q)]
          rw [h2] at q
          refine Or.inr ⟨i, rfl, rfl, by omega, e, fun v hv hb => ?_, fun v hv hb => ?_⟩
          · by_cases q2 : v = i
            · rw [q2]; exact Int.le_refl _
            · have := h5 v (by omega) hb; omega
          · have := h5 v (by omega) hb; omega
        · rw [if_neg (by omega)]
          rw [h2] at q
          refine Or.inr ⟨w, h1, h2, by omega, h4, fun v hv hb => ?_, h6⟩
          by_cases q2 : v = i
          · rw [q2]; omega
          · exact h5 v (by omega) hb
def eaV (W T : Nat) (d : Nat → Int) : Int := (efs T d W).1
theorem eaV_ok {W T : Nat} {d : Nat → Int} {a : Nat} (ha : a < W) (hb : inS T a = true) : ∃ w : Nat, eaV W T d = (w : Int) ∧ isEar W T d w := by
  rcases efs_ok T d W with ⟨h1, h2⟩ | ⟨w, h1, h2, h3⟩
  · rw [h2 a ha] at hb; cases hb
  · exact ⟨w, h1, h3⟩
/-- a list of thought words -/
def TL (W T : Nat) (L : Nat → Nat → Int) (m : Nat) (t : Nat → Nat) : Prop := m ≤ W ∧ (∀ i, i < m → t i < W ∧ inS T (t i) = true) ∧ (∀ i j, i < j → j < m → t i < t j) ∧ ∀ w, w < W → inS T w = true → ∃ j, j < m ∧ t j ≤ w ∧ ∀ b, b < 4 → L (t j) b = L w b
/-- how far a row is off from a word -/
def dst (L : Nat → Nat → Int) (r : Nat → Int) (w : Nat) : Int := (((L w 0 - r 0).natAbs : Int) + ((L w 1 - r 1).natAbs : Int)) + (((L w 2 - r 2).natAbs : Int) + ((L w 3 - r 3).natAbs : Int))
theorem dst_c {L : Nat → Nat → Int} {v w : Nat} (h : ∀ b, b < 4 → L v b = L w b) (r : Nat → Int) : dst L r v = dst L r w := by
  unfold dst
  rw [h 0 (by decide), h 1 (by decide), h 2 (by decide), h 3 (by decide)]
theorem TL_ear {W T : Nat} {L : Nat → Nat → Int} {m : Nat} {t : Nat → Nat} (H : TL W T L m t) (hm : 1 ≤ m) (r : Nat → Int) (c : Int) (F : Nat → Int) (hF : ∀ i, i < m → F i = dst L r (t i) + c) : isEar W T (dst L r) (t (am F m)) := by
  obtain ⟨h0, h1, h2, h3⟩ := H
  obtain ⟨a1, a2, a3⟩ := am_ok F m hm
  refine ⟨(h1 _ a1).1, (h1 _ a1).2, fun v hv hb => ?_, fun v hv hb => ?_⟩
  · obtain ⟨j, j1, j2, j3⟩ := h3 v hv hb
    have := a2 j j1
    rw [hF _ a1, hF _ j1] at this
    rw [← dst_c j3 r]
    omega
  · have hvW : v < W := Nat.lt_trans hv (h1 _ a1).1
    obtain ⟨j, j1, j2, j3⟩ := h3 v hvW hb
    have hj : j < am F m := by
      rcases Nat.lt_trichotomy j (am F m) with e | e | e
      · exact e
      · rw [e] at j2; omega
      · have := h2 _ _ e j1; omega
    have := a3 j hj
    rw [hF _ a1, hF _ j1] at this
    rw [← dst_c j3 r]
    omega
