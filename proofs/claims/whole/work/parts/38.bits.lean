/-- a bit of a number that is a set -/
def tb (x : Int32) (k : Nat) : Bool := x.toBitVec.getLsbD k
theorem tb_ext {x y : Int32} (h : ∀ k, k < 32 → tb x k = tb y k) : x = y := Int32.toBitVec_inj.mp (BitVec.eq_of_getLsbD_eq h)
theorem tb_0 (k : Nat) : tb 0 k = false := by
  show (BitVec.ofNat 32 0).getLsbD k = false
  rw [BitVec.getLsbD_ofNat, Nat.zero_testBit, Bool.and_false]
theorem tb_and (x y : Int32) (k : Nat) : tb (x &&& y) k = (tb x k && tb y k) := by
  unfold tb; rw [Int32.toBitVec_and, BitVec.getLsbD_and]
theorem tb_or (x y : Int32) (k : Nat) : tb (x ||| y) k = (tb x k || tb y k) := by
  unfold tb; rw [Int32.toBitVec_or, BitVec.getLsbD_or]
theorem tb_xor (x y : Int32) (k : Nat) : tb (x ^^^ y) k = (tb x k ^^ tb y k) := by
  unfold tb; rw [Int32.toBitVec_xor, BitVec.getLsbD_xor]
theorem tb_nI {n k : Nat} (hk : k < 32) : tb (nI n) k = n.testBit k := by
  show (BitVec.ofNat 32 n).getLsbD k = _
  rw [BitVec.getLsbD_ofNat, decide_eq_true hk, Bool.true_and]
theorem tb_m1 : ∀ k, k < 32 → tb (-1) k = true := by
  have h : ∀ k : Fin 32, tb (-1) k.val = true := by decide +kernel
  exact fun k hk => h ⟨k, hk⟩
theorem tb_not {x : Int32} {k : Nat} (hk : k < 32) : tb (x ^^^ (-1)) k = !tb x k := by
  rw [tb_xor, tb_m1 k hk]; cases tb x k <;> rfl
theorem tb_one : ∀ r k, r < 32 → k < 32 → tb (1 <<< (nI r &&& 31)) k = decide (k = r) := by
  have h : ∀ r k : Fin 32, tb (1 <<< (nI r.val &&& 31)) k.val = decide (k.val = r.val) := by decide +kernel
  exact fun r k hr hk => h ⟨r, hr⟩ ⟨k, hk⟩
theorem tb_nat (x : Int32) (k : Nat) : tb x k = x.toBitVec.toNat.testBit k := rfl
theorem sm31 : ∀ r, r < 32 → ((nI r &&& 31).toBitVec.smod 32).toNat = r := by
  have h : ∀ r : Fin 32, ((nI r.val &&& 31).toBitVec.smod 32).toNat = r.val := by decide +kernel
  exact fun r hr => h ⟨r, hr⟩
theorem us31 : ∀ r, r < 32 → (((nI r).toUInt32 &&& Int32.toUInt32 31).toBitVec % 32).toNat = r := by
  have h : ∀ r : Fin 32, (((nI r.val).toUInt32 &&& Int32.toUInt32 31).toBitVec % 32).toNat = r.val := by decide +kernel
  exact fun r hr => h ⟨r, hr⟩
theorem and1 (x : Int32) : x &&& 1 = if tb x 0 then 1 else 0 := by
  rw [pk_and x 1 (by decide), tb_nat, Nat.testBit_eq_decide_div_mod_eq]
  have h : x.toBitVec.toNat / 2 ^ 0 % 2 = x.toBitVec.toNat % 2 ^ 1 := by rw [Nat.pow_zero, Nat.div_one]
  rw [h]
  have h2 : x.toBitVec.toNat % 2 ^ 1 = 0 ∨ x.toBitVec.toNat % 2 ^ 1 = 1 := by omega
  rcases h2 with h2 | h2 <;> rw [h2] <;> rfl
theorem shr1 {x : Int32} {k : Nat} (hk : k < 32) : (x >>> (nI k &&& 31)) &&& 1 = if tb x k then 1 else 0 := by
  rw [and1]
  have h : tb (x >>> (nI k &&& 31)) 0 = tb x k := by
    unfold tb
    rw [Int32.toBitVec_shiftRight, BitVec.sshiftRight_eq', sm31 k hk, BitVec.getLsbD_sshiftRight, Nat.add_zero, if_pos hk]
    rfl
  rw [h]
theorem zus1 {x : Int32} {k : Nat} (hk : k < 32) : zus x (nI k) &&& 1 = if tb x k then 1 else 0 := by
  rw [and1]
  have h : tb (zus x (nI k)) 0 = tb x k := by
    rw [tb_nat, tb_nat]
    unfold zus
    rw [pk_ushr x (nI k) k (us31 k hk), Nat.testBit_div_two_pow, Nat.zero_add]
  rw [h]
theorem f_holds {x : Int32} {k : Nat} (hk : k < 32) : f_X1_holds x (nI k) = some (tb x k) := by
  unfold f_X1_holds
  rw [zus1 hk]
  cases tb x k with
  | false => rfl
  | true => rfl
/-- how many below n -/
def cnt (p : Nat → Bool) : Nat → Nat
  | 0 => 0
  | n + 1 => cnt p n + if p n then 1 else 0
theorem cnt_le (p : Nat → Bool) : ∀ n, cnt p n ≤ n := by
  intro n
  induction n with
  | zero => exact Nat.le_refl _
  | succ n ih =>
    unfold cnt
    cases p n with
    | false => exact Nat.le_trans ih (Nat.le_succ _)
    | true => exact Nat.succ_le_succ ih
theorem cnt_congr {p q : Nat → Bool} : ∀ {n : Nat}, (∀ k, k < n → p k = q k) → cnt p n = cnt q n := by
  intro n
  induction n with
  | zero => intro _; rfl
  | succ n ih =>
    intro h
    unfold cnt
    rw [ih (fun k hk => h k (by omega)), h n (by omega)]
theorem cnt_add (p : Nat → Bool) (a : Nat) : ∀ b, cnt p (a + b) = cnt p a + cnt (fun k => p (a + k)) b := by
  intro b
  induction b with
  | zero => rfl
  | succ b ih =>
    show cnt p (a + b) + (if p (a + b) then 1 else 0) = cnt p a + (cnt (fun k => p (a + k)) b + (if p (a + b) then 1 else 0))
    rw [ih, Nat.add_assoc]
theorem cnt_false : ∀ n, cnt (fun _ => false) n = 0 := by
  intro n
  induction n with
  | zero => rfl
  | succ n ih => unfold cnt; rw [ih]; rfl
theorem cnt_and (b : Bool) (p : Nat → Bool) (n : Nat) : cnt (fun k => b && p k) n = if b then cnt p n else 0 := by
  cases b with
  | false => exact cnt_false n
  | true => rfl
/-- a sum of counts -/
def sum (f : Nat → Nat) : Nat → Nat
  | 0 => 0
  | n + 1 => sum f n + f n
theorem sum_congr {f g : Nat → Nat} : ∀ {n : Nat}, (∀ k, k < n → f k = g k) → sum f n = sum g n := by
  intro n
  induction n with
  | zero => intro _; rfl
  | succ n ih =>
    intro h
    unfold sum
    rw [ih (fun k hk => h k (by omega)), h n (by omega)]
theorem cnt_mul (p : Nat → Bool) (b : Nat) : ∀ a, cnt p (b * a) = sum (fun i => cnt (fun j => p (b * i + j)) b) a := by
  intro a
  induction a with
  | zero => rfl
  | succ a ih =>
    rw [Nat.mul_succ, cnt_add, ih]
    rfl
theorem sum_cnt (p : Nat → Bool) (c : Nat) : ∀ n, sum (fun i => if p i then c else 0) n = cnt p n * c := by
  intro n
  induction n with
  | zero => rw [show cnt p 0 = 0 from rfl, Nat.zero_mul]; rfl
  | succ n ih =>
    unfold sum cnt
    rw [ih, Nat.add_mul]
    cases p n with
    | false => rw [if_neg (by decide), if_neg (by decide), Nat.zero_mul]
    | true => rw [if_pos rfl, if_pos rfl, Nat.one_mul]
theorem cnt_0 {p : Nat → Bool} : ∀ {n : Nat}, cnt p n = 0 ↔ ∀ k, k < n → p k = false := by
  intro n
  induction n with
  | zero => exact ⟨fun _ k hk => absurd hk (by omega), fun _ => rfl⟩
  | succ n ih =>
    unfold cnt
    constructor
    · intro h k hk
      by_cases hkn : k = n
      · subst hkn
        cases hp : p k with
        | false => rfl
        | true => rw [hp, if_pos rfl] at h; omega
      · exact ih.mp (by omega) k (by omega)
    · intro h
      rw [ih.mpr (fun k hk => h k (by omega)), h n (by omega)]
      rfl
/-- 'and' by bytes -/
theorem andS {p m : Nat} (q M : Nat) (hp : p < 256) (hm : m < 256) : (256 * q + p) &&& (256 * M + m) = 256 * (q &&& M) + (p &&& m) := by
  have h8 : 256 = 2 ^ 8 := rfl
  have hpm : p &&& m < 2 ^ 8 := Nat.lt_of_le_of_lt Nat.and_le_left hp
  apply Nat.eq_of_testBit_eq
  intro i
  rw [h8, Nat.testBit_and, Nat.testBit_two_pow_mul_add q hp, Nat.testBit_two_pow_mul_add M hm, Nat.testBit_two_pow_mul_add _ hpm]
  by_cases hi : i < 8
  · rw [if_pos hi, if_pos hi, if_pos hi, Nat.testBit_and]
  · rw [if_neg hi, if_neg hi, if_neg hi, Nat.testBit_and]
theorem and24 {q m : Nat} (M : Nat) (hq : q < 2 ^ 24) (hm : m < 2 ^ 24) : q &&& (2 ^ 24 * M + m) = q &&& m := by
  apply Nat.eq_of_testBit_eq
  intro i
  rw [Nat.testBit_and, Nat.testBit_and, Nat.testBit_two_pow_mul_add M hm]
  by_cases hi : i < 24
  · rw [if_pos hi]
  · rw [Nat.testBit_lt_two_pow (Nat.lt_of_lt_of_le hq (Nat.pow_le_pow_right (by decide) (by omega))), Bool.false_and, Bool.false_and]
theorem m5 {q : Nat} (hq : q < 2 ^ 24) : q &&& 5592405 = q &&& 1431655765 := (and24 (m := 5592405) 85 hq (by decide)).symm
theorem m3 {q : Nat} (hq : q < 2 ^ 24) : q &&& 3355443 = q &&& 858993459 := (and24 (m := 3355443) 51 hq (by decide)).symm
theorem mf {q : Nat} (hq : q < 2 ^ 24) : q &&& 986895 = q &&& 252645135 := (and24 (m := 986895) 15 hq (by decide)).symm
def b1 (x : Nat) : Nat := x - ((x / 2) &&& 1431655765)
def b2 (x : Nat) : Nat := (x &&& 858993459) + ((x / 4) &&& 858993459)
def b3 (x : Nat) : Nat := (x + x / 16) &&& 252645135
theorem d1 : ∀ a y, a < 256 → y < 2 → ((a / 2 + 128 * y) &&& 85) = ((a / 2) &&& 1431655765) ∧ ((a / 2) &&& 1431655765) ≤ a ∧ a - ((a / 2) &&& 1431655765) < 256 := by
  have h : ∀ a : Fin 256, ∀ y : Fin 2, ((a.val / 2 + 128 * y.val) &&& 85) = ((a.val / 2) &&& 1431655765) ∧ ((a.val / 2) &&& 1431655765) ≤ a.val ∧ a.val - ((a.val / 2) &&& 1431655765) < 256 := by decide +kernel
  exact fun a y ha hy => h ⟨a, ha⟩ ⟨y, hy⟩
theorem d2 : ∀ a y, a < 256 → y < 4 → ((a / 4 + 64 * y) &&& 51) = ((a / 4) &&& 858993459) ∧ (a &&& 51) = (a &&& 858993459) ∧ b2 a < 256 := by
  have h : ∀ a : Fin 256, ∀ y : Fin 4, ((a.val / 4 + 64 * y.val) &&& 51) = ((a.val / 4) &&& 858993459) ∧ (a.val &&& 51) = (a.val &&& 858993459) ∧ b2 a.val < 256 := by decide +kernel
  exact fun a y ha hy => h ⟨a, ha⟩ ⟨y, hy⟩
theorem b1_s {a y : Nat} (ha : a < 256) (hy : y < 2 ^ 24) : b1 (256 * y + a) = 256 * b1 y + b1 a ∧ b1 a < 256 ∧ b1 y ≤ y := by
  obtain ⟨e1, e2, e3⟩ := d1 a (y % 2) ha (Nat.mod_lt _ (by decide))
  have h1 : (256 * y + a) / 2 = 256 * (y / 2) + (a / 2 + 128 * (y % 2)) := by omega
  have h2 : (256 * y + a) / 2 &&& 1431655765 = 256 * ((y / 2) &&& 1431655765) + ((a / 2) &&& 1431655765) := by
    rw [h1, show 1431655765 = 256 * 5592405 + 85 from rfl, andS _ _ (by omega) (by decide), e1, m5 (by omega)]
  have h3 : (y / 2) &&& 1431655765 ≤ y / 2 := Nat.and_le_left
  unfold b1
  rw [h2]
  exact ⟨by omega, by omega, by omega⟩
theorem b2_s {a y : Nat} (ha : a < 256) (hy : y < 2 ^ 24) : b2 (256 * y + a) = 256 * b2 y + b2 a ∧ b2 a < 256 := by
  obtain ⟨e1, e2, e3⟩ := d2 a (y % 4) ha (Nat.mod_lt _ (by decide))
  have h1 : (256 * y + a) / 4 = 256 * (y / 4) + (a / 4 + 64 * (y % 4)) := by omega
  refine ⟨?_, e3⟩
  have h2 : (256 * y + a) &&& 858993459 = 256 * (y &&& 858993459) + (a &&& 858993459) := by
    have := andS y 3355443 (p := a) (m := 51) ha (by decide)
    rw [m3 hy, e2] at this
    exact this
  have h3 : (256 * y + a) / 4 &&& 858993459 = 256 * (y / 4 &&& 858993459) + (a / 4 &&& 858993459) := by
    have := andS (y / 4) 3355443 (p := a / 4 + 64 * (y % 4)) (m := 51) (by omega) (by decide)
    rw [m3 (by omega), e1] at this
    rw [h1]
    exact this
  unfold b2
  rw [h2, h3]
  omega
theorem d3 : ∀ a, a < 256 → (b2 (b1 a)) % 16 ≤ 4 ∧ b2 (b1 a) / 16 ≤ 4 ∧ b3 (b2 (b1 a)) = cnt (fun k => a.testBit k) 8 := by
  have h : ∀ a : Fin 256, (b2 (b1 a.val)) % 16 ≤ 4 ∧ b2 (b1 a.val) / 16 ≤ 4 ∧ b3 (b2 (b1 a.val)) = cnt (fun k => a.val.testBit k) 8 := by decide +kernel
  exact fun a ha => h ⟨a, ha⟩
theorem d4 : ∀ u v, u < 5 → v < 5 → ∀ y, y < 5 → ((16 * u + v + (16 * u + v) / 16 + 16 * y) &&& 15) = ((16 * u + v + (16 * u + v) / 16) &&& 252645135) := by
  have h : ∀ u v : Fin 5, ∀ y : Fin 5, ((16 * u.val + v.val + (16 * u.val + v.val) / 16 + 16 * y.val) &&& 15) = ((16 * u.val + v.val + (16 * u.val + v.val) / 16) &&& 252645135) := by decide +kernel
  exact fun u v hu hv y hy => h ⟨u, hu⟩ ⟨v, hv⟩ ⟨y, hy⟩
theorem b3_s {a y : Nat} (h1 : a % 16 ≤ 4) (h2 : a / 16 ≤ 4) (h3 : y % 16 ≤ 4) (hy : y + y / 16 < 2 ^ 24) : b3 (256 * y + a) = 256 * b3 y + b3 a := by
  have e := d4 (a / 16) (a % 16) (by omega) (by omega) (y % 16) (by omega)
  rw [show 16 * (a / 16) + a % 16 = a by omega] at e
  have h5 : 256 * y + a + (256 * y + a) / 16 = 256 * (y + y / 16) + (a + a / 16 + 16 * (y % 16)) := by omega
  unfold b3
  rw [h5, show 252645135 = 256 * 986895 + 15 from rfl, andS _ _ (by omega) (by decide), e, mf hy]
theorem pop {a b c d : Nat} (ha : a < 256) (hb : b < 256) (hc : c < 256) (hd : d < 256) : b3 (b2 (b1 (256 * (256 * (256 * d + c) + b) + a))) = 256 * (256 * (256 * cnt (fun k => d.testBit k) 8 + cnt (fun k => c.testBit k) 8) + cnt (fun k => b.testBit k) 8) + cnt (fun k => a.testBit k) 8 := by
  obtain ⟨p1, p2, p3⟩ := b1_s (y := 256 * (256 * d + c) + b) ha (by omega)
  obtain ⟨p4, p5, p6⟩ := b1_s (y := 256 * d + c) hb (by omega)
  obtain ⟨p7, p8, p9⟩ := b1_s (y := d) hc (by omega)
  obtain ⟨p10, p11, p12⟩ := b1_s (y := 0) hd (by omega)
  have k0 : b1 d < 256 := p11
  obtain ⟨s1, s2⟩ := b2_s (a := b1 a) (y := 256 * (256 * b1 d + b1 c) + b1 b) p2 (by omega)
  obtain ⟨s3, s4⟩ := b2_s (a := b1 b) (y := 256 * b1 d + b1 c) p5 (by omega)
  obtain ⟨s5, s6⟩ := b2_s (a := b1 c) (y := b1 d) p8 (by omega)
  obtain ⟨s7, s8⟩ := b2_s (a := b1 d) (y := 0) k0 (by omega)
  obtain ⟨u1, u2, u3⟩ := d3 a ha
  obtain ⟨u4, u5, u6⟩ := d3 b hb
  obtain ⟨u7, u8, u9⟩ := d3 c hc
  obtain ⟨v1, v2, v3⟩ := d3 d hd
  rw [p1, p4, p7, s1, s3, s5, b3_s u1 u2 (by omega) (by omega), b3_s u4 u5 (by omega) (by omega), b3_s u7 u8 (by omega) (by omega), u3, u6, u9, v3]
theorem cnt8 {x : Nat} (hx : x < 2 ^ 32) : cnt (fun k => x.testBit k) 32 = cnt (fun k => (x % 256).testBit k) 8 + (cnt (fun k => (x / 256 % 256).testBit k) 8 + (cnt (fun k => (x / 65536 % 256).testBit k) 8 + cnt (fun k => (x / 16777216).testBit k) 8)) := by
  rw [show 32 = 8 + (8 + (8 + 8)) from rfl, cnt_add, cnt_add, cnt_add]
  have e0 : ∀ k, k < 8 → x.testBit k = (x % 256).testBit k := fun k hk => by
    rw [show 256 = 2 ^ 8 from rfl, Nat.testBit_mod_two_pow, decide_eq_true hk, Bool.true_and]
  have e1 : ∀ k, k < 8 → x.testBit (8 + k) = (x / 256 % 256).testBit k := fun k hk => by
    rw [show 256 = 2 ^ 8 from rfl, Nat.testBit_mod_two_pow, decide_eq_true hk, Bool.true_and, Nat.testBit_div_two_pow, Nat.add_comm]
  have e2 : ∀ k, k < 8 → x.testBit (8 + (8 + k)) = (x / 65536 % 256).testBit k := fun k hk => by
    rw [show 256 = 2 ^ 8 from rfl, show 65536 = 2 ^ 16 from rfl, Nat.testBit_mod_two_pow, decide_eq_true hk, Bool.true_and, Nat.testBit_div_two_pow]
    exact congrArg _ (by omega)
  have e3 : ∀ k, k < 8 → x.testBit (8 + (8 + (8 + k))) = (x / 16777216).testBit k := fun k hk => by
    rw [show 16777216 = 2 ^ 24 from rfl, Nat.testBit_div_two_pow]
    exact congrArg _ (by omega)
  rw [cnt_congr e0, cnt_congr e1, cnt_congr e2, cnt_congr e3]
theorem andN {a b : Nat} (ha : a < 2 ^ 32) (hb : b < 2 ^ 32) : nI a &&& nI b = nI (a &&& b) := by
  apply Int32.toBitVec_inj.mp
  apply BitVec.eq_of_toNat_eq
  rw [Int32.toBitVec_and, BitVec.toNat_and, pk_tn ha, pk_tn hb, pk_tn (Nat.lt_of_le_of_lt Nat.and_le_left ha)]
theorem zusN {n : Nat} (hn : n < 2 ^ 32) (k : Nat) (hk : k < 32) : zus (nI n) (nI k) = nI (n / 2 ^ k) := pk_ushrN hn (nI k) k (us31 k hk)
theorem nI_toNat (x : Int32) : x = nI x.toBitVec.toNat := by
  apply Int32.toBitVec_inj.mp
  apply BitVec.eq_of_toNat_eq
  rw [pk_tn x.toBitVec.isLt]
theorem f_bitCount (x : Int32) : f_J6_bitCount_0f7a4 x = some (nI (cnt (tb x) 32)) := by
  have hX : x.toBitVec.toNat < 2 ^ 32 := x.toBitVec.isLt
  have hc : cnt (tb x) 32 = cnt (fun k => x.toBitVec.toNat.testBit k) 32 := rfl
  rw [hc]
  rw [nI_toNat x]
  rw [pk_tn hX]
  generalize x.toBitVec.toNat = X at hX
  unfold f_J6_bitCount_0f7a4
  have hle : (X / 2) &&& 1431655765 ≤ X / 2 := Nat.and_le_left
  have g1 : nI X - ((zus (nI X) 1) &&& 1431655765) = nI (b1 X) := by
    rw [q1, zusN hX 1 (by decide), Nat.pow_one, show (1431655765 : Int32) = nI 1431655765 from rfl, andN (by omega) (by decide), pk_sub (by omega)]
    rfl
  rw [g1]
  have l1 : b1 X ≤ X := Nat.sub_le _ _
  have hle2 : b1 X &&& 858993459 ≤ b1 X := Nat.and_le_left
  have hle3 : b1 X &&& 858993459 ≤ 858993459 := Nat.and_le_right
  have hle4 : (b1 X / 4) &&& 858993459 ≤ 858993459 := Nat.and_le_right
  have g2 : ((nI (b1 X)) &&& 858993459) + ((zus (nI (b1 X)) 2) &&& 858993459) = nI (b2 (b1 X)) := by
    rw [q2, zusN (by omega) 2 (by decide), show (858993459 : Int32) = nI 858993459 from rfl, andN (by omega) (by decide), andN (by omega) (by decide), nI_add]
    rfl
  rw [g2]
  have l2 : b2 (b1 X) ≤ 1717986918 := by unfold b2; omega
  have g3 : (nI (b2 (b1 X)) + (zus (nI (b2 (b1 X))) 4)) &&& 252645135 = nI (b3 (b2 (b1 X))) := by
    rw [q4, zusN (by omega) 4 (by decide), nI_add, show (252645135 : Int32) = nI 252645135 from rfl, andN (by omega) (by decide)]
    rfl
  rw [g3]
  have l3 : b3 (b2 (b1 X)) ≤ 252645135 := Nat.and_le_right
  have hp := pop (a := X % 256) (b := X / 256 % 256) (c := X / 65536 % 256) (d := X / 16777216) (by omega) (by omega) (by omega) (by omega)
  rw [show 256 * (256 * (256 * (X / 16777216) + X / 65536 % 256) + X / 256 % 256) + X % 256 = X by omega] at hp
  rw [cnt8 hX]
  have z0 := cnt_le (fun k => (X % 256).testBit k) 8
  have z1 := cnt_le (fun k => (X / 256 % 256).testBit k) 8
  have z2 := cnt_le (fun k => (X / 65536 % 256).testBit k) 8
  have z3 := cnt_le (fun k => (X / 16777216).testBit k) 8
  generalize cnt (fun k => (X % 256).testBit k) 8 = c0 at *
  generalize cnt (fun k => (X / 256 % 256).testBit k) 8 = c1 at *
  generalize cnt (fun k => (X / 65536 % 256).testBit k) 8 = c2 at *
  generalize cnt (fun k => (X / 16777216).testBit k) 8 = c3 at *
  generalize b3 (b2 (b1 X)) = Y at *
  have y1 : Y / 2 ^ 8 = 256 * (256 * c3 + c2) + c1 := by rw [show 2 ^ 8 = 256 from rfl]; omega
  have y2 : (Y + (256 * (256 * c3 + c2) + c1)) / 2 ^ 16 = 256 * c3 + (c2 + c3) := by rw [show 2 ^ 16 = 65536 from rfl]; omega
  rw [q8, zusN (by omega) 8 (by decide), y1, nI_add, q16, zusN (by omega) 16 (by decide), y2, nI_add, pk_andN (by omega) 6 (by decide)]
  exact congrArg some (congrArg nI (by omega))
