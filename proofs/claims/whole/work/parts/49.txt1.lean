/-- the text on both sides, n bytes -/
def TX (n : Nat) (tx te : Nat → Int32) : Prop := n ≤ 120 ∧ ∀ k, k < n → tx k = te k ∧ ∃ b, b < 128 ∧ te k = nI b
def ltr (n : Nat) (te : Nat → Int32) (k : Nat) : Bool := decide (k < n) && zin (te k) 97 122
def dig (n : Nat) (te : Nat → Int32) (k : Nat) : Bool := decide (k < n) && zin (te k) 48 57
def blk (n : Nat) (te : Nat → Int32) (k : Nat) : Bool := decide (k < n) && decide (te k = 32)
def bt (n : Nat) (te : Nat → Int32) (k : Nat) : Int32 := if k < n then te k else -1
theorem f_byteAt {n k : Nat} {tx te : Nat → Int32} (hT : TX n tx te) (hk : k < 2 ^ 30) : f_X4_byteAt (nI n) tx (nI k) = some (bt n te k) := by
  obtain ⟨h1, h2⟩ := hT
  unfold f_X4_byteAt bt
  rw [if_neg (nI_pos (by omega))]
  by_cases hkn : k < n
  · rw [if_neg (nI_ge hkn (by omega)), if_neg (show ¬ (120 : Int32) ≤ nI k by rw [q120]; exact nI_ge (by omega) (by decide)), if_pos (zok_nI (by omega) (by decide)), nI_clamp (by omega), if_pos hkn, (h2 k hkn).1]
  · rw [if_pos (nI_le (by omega) (by omega)), if_neg hkn]
theorem f_isAt {n k : Nat} {te : Nat → Int32} {lo hi : Int32} (hn : n ≤ 120) (hk : k < 2 ^ 30) : f_X6_isAt (nI n) (nI k) te lo hi = some (decide (k < n) && zin (te k) lo hi) := by
  unfold f_X6_isAt
  by_cases hkn : k < n
  · rw [if_neg (nI_ge hkn (by omega)), if_pos (zok_nI (by omega) (by decide)), nI_clamp (by omega), f_in, bs, decide_eq_true hkn, Bool.true_and, zBb]
  · rw [if_pos (nI_le (by omega) (by omega)), decide_eq_false hkn, Bool.false_and]
theorem zin_eq (x a : Int32) : zin x a a = decide (x = a) := by
  unfold zin
  apply decide_eq_decide.mpr
  constructor
  · rintro ⟨h1, h2⟩
    rw [Int32.lt_iff_toInt_lt] at h1 h2
    exact Int32.toInt_inj.mp (by omega)
  · intro h
    rw [h]
    have : ¬ a < a := by
      rw [Int32.lt_iff_toInt_lt]
      omega
    exact ⟨this, this⟩
theorem f_isLetter (c : Int32) : f_X4_isLetter c = some (zin c 97 122) := by
  unfold f_X4_isLetter zin
  by_cases h1 : c < 97
  · rw [if_pos h1, decide_eq_false (fun h => h.1 h1)]
  · rw [if_neg h1]
    by_cases h2 : 122 < c
    · rw [if_pos h2, decide_eq_false (fun h => h.2 h2)]
    · rw [if_neg h2, decide_eq_true ⟨h1, h2⟩]
theorem f_isDigit (c : Int32) : f_X4_isDigit c = some (zin c 48 57) := by
  unfold f_X4_isDigit zin
  by_cases h1 : c < 48
  · rw [if_pos h1, decide_eq_false (fun h => h.1 h1)]
  · rw [if_neg h1]
    by_cases h2 : 57 < c
    · rw [if_pos h2, decide_eq_false (fun h => h.2 h2)]
    · rw [if_neg h2, decide_eq_true ⟨h1, h2⟩]
theorem bt_ltr (n : Nat) (te : Nat → Int32) (k : Nat) : zin (bt n te k) 97 122 = ltr n te k := by
  unfold bt ltr
  by_cases hkn : k < n
  · rw [if_pos hkn, decide_eq_true hkn, Bool.true_and]
  · rw [if_neg hkn, decide_eq_false hkn, Bool.false_and]; decide
theorem bt_dig (n : Nat) (te : Nat → Int32) (k : Nat) : zin (bt n te k) 48 57 = dig n te k := by
  unfold bt dig
  by_cases hkn : k < n
  · rw [if_pos hkn, decide_eq_true hkn, Bool.true_and]
  · rw [if_neg hkn, decide_eq_false hkn, Bool.false_and]; decide
def skp (p : Nat → Bool) : Nat → Nat → Nat
  | 0, k => k
  | m + 1, k => if p k then skp p m (k + 1) else k
theorem skp_le {p : Nat → Bool} : ∀ (m k : Nat), k ≤ skp p m k ∧ skp p m k ≤ k + m := by
  intro m
  induction m with
  | zero => intro k; exact ⟨Nat.le_refl _, Nat.le_refl _⟩
  | succ m ih =>
    intro k
    unfold skp
    obtain ⟨h1, h2⟩ := ih (k + 1)
    cases p k with
    | false => rw [if_neg (by decide)]; omega
    | true => rw [if_pos rfl]; omega
theorem skp_in {p : Nat → Bool} : ∀ (m k i : Nat), k ≤ i → i < skp p m k → p i = true := by
  intro m
  induction m with
  | zero => intro k i h1 h2; unfold skp at h2; omega
  | succ m ih =>
    intro k i h1 h2
    unfold skp at h2
    cases hp : p k with
    | false => rw [hp, if_neg (by decide)] at h2; omega
    | true =>
      rw [hp, if_pos rfl] at h2
      by_cases hik : i = k
      · rw [hik]; exact hp
      · exact ih (k + 1) i (by omega) h2
theorem skp_out {p : Nat → Bool} : ∀ (m k : Nat), p (k + m) = false → p (skp p m k) = false := by
  intro m
  induction m with
  | zero => intro k h; exact h
  | succ m ih =>
    intro k h
    unfold skp
    cases hp : p k with
    | false => rw [if_neg (by decide)]; exact hp
    | true =>
      rw [if_pos rfl]
      exact ih (k + 1) (by rw [show k + 1 + m = k + (m + 1) by omega]; exact h)
theorem skp_eq {p : Nat → Bool} {m k e : Nat} (h1 : k ≤ e) (h2 : ∀ i, k ≤ i → i < e → p i = true) (h3 : p e = false) (h4 : p (k + m) = false) : skp p m k = e := by
  have a := skp_out m k h4
  have b := (skp_le (p := p) m k).1
  rcases Nat.lt_trichotomy (skp p m k) e with h | h | h
  · rw [h2 _ b h] at a; cases a
  · exact h
  · rw [skp_in m k e h1 h] at h3; cases h3
/-- the place behind blanks -/
def sB (n : Nat) (te : Nat → Int32) (k : Nat) : Nat := skp (blk n te) (n - k) k
theorem sB_le {n k : Nat} {te : Nat → Int32} (hk : k ≤ n) : k ≤ sB n te k ∧ sB n te k ≤ n := by
  have := skp_le (p := blk n te) (n - k) k
  unfold sB
  omega
theorem f_skipBlanks {fu n k : Nat} {tx te : Nat → Int32} (hf : 2000 < fu) (hT : TX n tx te) (hk : k ≤ n) : f_X4_skipBlanks fu (nI n) (nI k) tx = some (nI (sB n te k)) := by
  have hn := hT.1
  unfold f_X4_skipBlanks sB
  have : ∀ (m k n1 : Nat), k + m = n → m < n1 → f_X4_skipBlanks_L0 fu (fun (x1 : Int32) => some x1) (nI n) tx n1 (nI k) = some (nI (skp (blk n te) m k)) := by
    intro m
    induction m with
    | zero =>
      intro k n1 h1 h2
      obtain ⟨n1, rfl⟩ : ∃ m, n1 = m + 1 := ⟨n1 - 1, by omega⟩
      obtain rfl : k = n := by omega
      rw [f_X4_skipBlanks_L0, if_pos (nI_le (Nat.le_refl _) (by omega))]
      rfl
    | succ m ih =>
      intro k n1 h1 h2
      obtain ⟨n1, rfl⟩ : ∃ m, n1 = m + 1 := ⟨n1 - 1, by omega⟩
      have hkn : k < n := by omega
      rw [f_X4_skipBlanks_L0, if_neg (nI_ge hkn (by omega)), f_byteAt hT (by omega), bs, nI_1 k]
      unfold bt skp blk
      rw [if_pos hkn, decide_eq_true hkn, Bool.true_and]
      by_cases hb : te k = 32
      · rw [if_pos hb, decide_eq_true hb, if_pos rfl, ih (k + 1) n1 (by omega) (by omega)]
        rfl
      · rw [if_neg hb, decide_eq_false hb, if_neg (by decide)]
  exact this (n - k) k fu (by omega) (by omega)
theorem f_blanks {fu n k : Nat} {te : Nat → Int32} (hf : 2000 < fu) (hn : n ≤ 120) (hk : k ≤ n) : f_X6_blanks fu (nI n) (nI k) te = some (nI (sB n te k)) := by
  unfold f_X6_blanks sB
  have : ∀ (m k n1 : Nat), k + m = n → m < n1 → f_X6_blanks_L0 fu (fun (x1 : Int32) => some x1) (nI n) te n1 (nI k) = some (nI (skp (blk n te) m k)) := by
    intro m
    induction m with
    | zero =>
      intro k n1 h1 h2
      obtain ⟨n1, rfl⟩ : ∃ m, n1 = m + 1 := ⟨n1 - 1, by omega⟩
      obtain rfl : k = n := by omega
      rw [f_X6_blanks_L0, f_isAt hn (by omega), decide_eq_false (by omega), Bool.false_and, bs, iteF]
      rfl
    | succ m ih =>
      intro k n1 h1 h2
      obtain ⟨n1, rfl⟩ : ∃ m, n1 = m + 1 := ⟨n1 - 1, by omega⟩
      have hkn : k < n := by omega
      rw [f_X6_blanks_L0, f_isAt hn (by omega), decide_eq_true hkn, Bool.true_and, bs, zin_eq, nI_1 k]
      unfold skp blk
      rw [decide_eq_true hkn, Bool.true_and]
      by_cases hb : te k = 32
      · rw [decide_eq_true hb, iteT, if_pos rfl, ih (k + 1) n1 (by omega) (by omega)]
        rfl
      · rw [decide_eq_false hb, iteF, if_neg (by decide)]
  exact this (n - k) k fu (by omega) (by omega)
/-! words -/
def wl : List (List Nat) := [[100, 101, 110, 121], [97, 108, 108, 111, 119], [114, 101, 106, 101, 99, 116], [102, 114, 111, 109], [116, 111], [115, 114, 99], [100, 115, 116], [112, 111, 114, 116], [115, 116, 114, 101, 97, 109], [115, 105, 110, 103, 108, 101]]
def lw (w : Nat) : Nat := (wl.getD w []).length
def cw (w j : Nat) : Nat := (wl.getD w []).getD j 0
theorem lenOK : ∀ w, w < 10 → f_J0_length_8abf5 w = some (nI (lw w)) ∧ 1 ≤ lw w ∧ lw w ≤ 6 := by
  have h : ∀ w : Fin 10, f_J0_length_8abf5 w.val = some (nI (lw w.val)) ∧ 1 ≤ lw w.val ∧ lw w.val ≤ 6 := by decide +kernel
  exact fun w hw => h ⟨w, hw⟩
theorem chOK : ∀ w j, w < 10 → j < lw w → f_J0_charAt_5068e w (nI j) = some (nI (cw w j)) ∧ 97 ≤ cw w j ∧ cw w j ≤ 122 := by
  have h : ∀ w : Fin 10, ∀ j : Fin 6, j.val < lw w.val → f_J0_charAt_5068e w.val (nI j.val) = some (nI (cw w.val j.val)) ∧ 97 ≤ cw w.val j.val ∧ cw w.val j.val ≤ 122 := by decide +kernel
  exact fun w j hw hj => h ⟨w, hw⟩ ⟨j, by have := (lenOK w hw).2.2; omega⟩ hj
theorem nameOK : ∀ w, w < 10 → f_X4_nameOf (nI w) = some w := by
  have h : ∀ w : Fin 10, f_X4_nameOf (nI w.val) = some w.val := by decide +kernel
  exact fun w hw => h ⟨w, hw⟩
def wc (g : Nat → Nat) : Nat → Nat
  | 0 => 0
  | m + 1 => 27 * wc g m + g m
theorem wc_inj {g h : Nat → Nat} : ∀ {a b : Nat}, (∀ j, j < a → 1 ≤ g j ∧ g j ≤ 26) → (∀ j, j < b → 1 ≤ h j ∧ h j ≤ 26) → wc g a = wc h b → a = b ∧ ∀ j, j < a → g j = h j := by
  intro a
  induction a with
  | zero =>
    intro b hg hh e
    cases b with
    | zero => exact ⟨rfl, fun j hj => by omega⟩
    | succ b =>
      have := hh b (by omega)
      unfold wc at e
      omega
  | succ a ih =>
    intro b hg hh e
    cases b with
    | zero =>
      have := hg a (by omega)
      unfold wc at e
      omega
    | succ b =>
      have h1 := hg a (by omega)
      have h2 := hh b (by omega)
      unfold wc at e
      obtain ⟨h3, h4⟩ := ih (b := b) (fun j hj => hg j (by omega)) (fun j hj => hh j (by omega)) (by omega)
      subst h3
      refine ⟨rfl, fun j hj => ?_⟩
      by_cases hja : j = a
      · rw [hja]; omega
      · exact h4 j (by omega)
theorem wc_lt {g : Nat → Nat} : ∀ {m : Nat}, (∀ j, j < m → g j ≤ 26) → wc g m < 27 ^ m := by
  intro m
  induction m with
  | zero => intro _; show 0 < 1; decide
  | succ m ih =>
    intro h
    have h1 := ih (fun j hj => h j (by omega))
    have h2 := h m (by omega)
    unfold wc
    rw [Nat.pow_succ]
    omega
def nc (w : Nat) : Nat := wc (fun j => cw w j - 96) (lw w)
theorem wordBy_some : ∀ w, w < 10 → f_X6_wordBy (Int64.ofNat (nc w)) = some (nI w) := by
  have h : ∀ w : Fin 10, f_X6_wordBy (Int64.ofNat (nc w.val)) = some (nI w.val) := by decide +kernel
  exact fun w hw => h ⟨w, hw⟩
theorem wordBy_none {x : Int64} (h : ∀ w, w < 10 → x ≠ Int64.ofNat (nc w)) : f_X6_wordBy x = some (-1) := by
  unfold f_X6_wordBy
  rw [show f_X6_codeOf 100 101 110 121 0 0 = some (Int64.ofNat (nc 0)) by decide +kernel, bs, if_neg (fun q => h 0 (by decide) ((lg_cmp_eq _ _).mp q)),
    show f_X6_codeOf 97 108 108 111 119 0 = some (Int64.ofNat (nc 1)) by decide +kernel, bs, if_neg (fun q => h 1 (by decide) ((lg_cmp_eq _ _).mp q)),
    show f_X6_codeOf 114 101 106 101 99 116 = some (Int64.ofNat (nc 2)) by decide +kernel, bs, if_neg (fun q => h 2 (by decide) ((lg_cmp_eq _ _).mp q)),
    show f_X6_codeOf 102 114 111 109 0 0 = some (Int64.ofNat (nc 3)) by decide +kernel, bs, if_neg (fun q => h 3 (by decide) ((lg_cmp_eq _ _).mp q)),
    show f_X6_codeOf 116 111 0 0 0 0 = some (Int64.ofNat (nc 4)) by decide +kernel, bs, if_neg (fun q => h 4 (by decide) ((lg_cmp_eq _ _).mp q)),
    show f_X6_codeOf 115 114 99 0 0 0 = some (Int64.ofNat (nc 5)) by decide +kernel, bs, if_neg (fun q => h 5 (by decide) ((lg_cmp_eq _ _).mp q)),
    show f_X6_codeOf 100 115 116 0 0 0 = some (Int64.ofNat (nc 6)) by decide +kernel, bs, if_neg (fun q => h 6 (by decide) ((lg_cmp_eq _ _).mp q)),
    show f_X6_codeOf 112 111 114 116 0 0 = some (Int64.ofNat (nc 7)) by decide +kernel, bs, if_neg (fun q => h 7 (by decide) ((lg_cmp_eq _ _).mp q)),
    show f_X6_codeOf 115 116 114 101 97 109 = some (Int64.ofNat (nc 8)) by decide +kernel, bs, if_neg (fun q => h 8 (by decide) ((lg_cmp_eq _ _).mp q)),
    show f_X6_codeOf 115 105 110 103 108 101 = some (Int64.ofNat (nc 9)) by decide +kernel, bs, if_neg (fun q => h 9 (by decide) ((lg_cmp_eq _ _).mp q))]
theorem ltr_b {n k : Nat} {tx te : Nat → Int32} (hT : TX n tx te) (h : ltr n te k = true) : k < n ∧ ∃ b, 97 ≤ b ∧ b ≤ 122 ∧ te k = nI b := by
  obtain ⟨h1, h2⟩ := Bool.and_eq_true_iff.mp h
  have hk := of_decide_eq_true h1
  obtain ⟨b, hb, e⟩ := (hT.2 k hk).2
  refine ⟨hk, b, ?_, ?_, e⟩
  · obtain ⟨h3, -⟩ := zin_t h2
    rw [e, show (97 : Int32) = nI 97 from rfl, nI_ltI (by omega) (by decide)] at h3
    omega
  · obtain ⟨-, h4⟩ := zin_t h2
    rw [e, show (122 : Int32) = nI 122 from rfl, nI_ltI (by decide) (by omega)] at h4
    omega
theorem t64 : ∀ b, b < 128 → (nI b).toInt64 = Int64.ofNat b := by
  have h : ∀ b : Fin 128, (nI b.val).toInt64 = Int64.ofNat b.val := by decide +kernel
  exact fun b hb => h ⟨b, hb⟩
theorem f_add {W b : Nat} (h1 : 97 ≤ b) (h2 : b ≤ 122) : f_X6_add (Int64.ofNat W) (nI b) = some (Int64.ofNat (27 * W + (b - 96))) := by
  unfold f_X6_add
  rw [if_neg (show ¬ nI b = 0 by rw [q0, nI_eq (by omega) (by decide)]; omega), t64 b (by omega), show (27 : Int64) = Int64.ofNat 27 from rfl, show (96 : Int64) = Int64.ofNat 96 from rfl, ← Int64.ofNat_mul, ← Int64.ofNat_add, ← Int64.ofNat_sub _ _ (by omega)]
  exact congrArg some (congrArg Int64.ofNat (by omega))
/-- a letter's number -/
def dg (te : Nat → Int32) (k j : Nat) : Nat := (te (k + j)).toNatClampNeg - 96
def cd (te : Nat → Int32) (k j : Nat) : Int64 := if j ≤ 6 then Int64.ofNat (wc (dg te k) j) else -1
theorem f_takesWord {fu n k : Nat} {tx te : Nat → Int32} (hf : 2000 < fu) (hT : TX n tx te) (hk : k ≤ n) : f_X6_takesWord fu (nI n) (nI k) te = some (cd te k (skp (ltr n te) (n - k) k - k), nI (skp (ltr n te) (n - k) k)) := by
  have hn := hT.1
  unfold f_X6_takesWord
  have : ∀ (m j n1 : Nat), k + j + m = n → m < n1 → f_X6_takesWord_L4 fu (fun (x1 : Int64) (x2 : Int32) (x3 : Int32) => some (x1, x3)) (nI n) te n1 (cd te k j) (nI j) (nI (k + j)) = some (cd te k (skp (ltr n te) m (k + j) - k), nI (skp (ltr n te) m (k + j))) := by
    intro m
    induction m with
    | zero =>
      intro j n1 h1 h2
      obtain ⟨n1, rfl⟩ : ∃ m, n1 = m + 1 := ⟨n1 - 1, by omega⟩
      rw [f_X6_takesWord_L4, f_isAt hn (by omega), decide_eq_false (by omega), Bool.false_and, bs, iteF]
      unfold skp
      rw [show k + j - k = j by omega]
    | succ m ih =>
      intro j n1 h1 h2
      obtain ⟨n1, rfl⟩ : ∃ m, n1 = m + 1 := ⟨n1 - 1, by omega⟩
      rw [f_X6_takesWord_L4, f_isAt hn (by omega), bs]
      unfold skp
      rw [show (decide (k + j < n) && zin (te (k + j)) 97 122) = ltr n te (k + j) from rfl]
      cases hl : ltr n te (k + j) with
      | false =>
        rw [iteF, if_neg (by decide), show k + j - k = j by omega]
      | true =>
        obtain ⟨b1, b, b2, b3, b4⟩ := ltr_b hT hl
        rw [iteT, if_pos rfl, nI_1 (k + j), nI_1 j]
        by_cases h6 : 6 ≤ j
        · rw [if_pos (show (6 : Int32) ≤ nI j from nI_le (a := 6) h6 (by omega)), show k + j + 1 = k + (j + 1) by omega, ← ih (j + 1) n1 (by omega) (by omega)]
          unfold cd
          rw [if_neg (by omega)]
        · rw [if_neg (show ¬ (6 : Int32) ≤ nI j from nI_ge (b := 6) (by omega) (by decide)), if_pos (zok_nI (by omega) (by decide)), nI_clamp (by omega), b4, show cd te k j = Int64.ofNat (wc (dg te k) j) from if_pos (by omega), f_add b2 b3, bs, show k + j + 1 = k + (j + 1) by omega, ← ih (j + 1) n1 (by omega) (by omega)]
          unfold cd
          rw [if_pos (by omega)]
          have : dg te k j = b - 96 := by unfold dg; rw [b4, nI_clamp (by omega)]
          show f_X6_takesWord_L4 fu _ (nI n) te n1 (Int64.ofNat (27 * wc (dg te k) j + (b - 96))) _ _ = f_X6_takesWord_L4 fu _ (nI n) te n1 (Int64.ofNat (27 * wc (dg te k) j + dg te k j)) _ _
          rw [this]
  exact this (n - k) 0 fu (by omega) (by omega)
/-- the word w stands at k, a whole run of letters -/
def MW (te : Nat → Int32) (k l w : Nat) : Prop := l = lw w ∧ ∀ j, j < lw w → te (k + j) = nI (cw w j)
theorem i64_inj {a b : Nat} (ha : a < 2 ^ 63) (hb : b < 2 ^ 63) (h : Int64.ofNat a = Int64.ofNat b) : a = b := by
  have := congrArg (fun x => x.toBitVec.toNat) h
  replace this : (BitVec.ofNat 64 a).toNat = (BitVec.ofNat 64 b).toNat := this
  rw [BitVec.toNat_ofNat, BitVec.toNat_ofNat, Nat.mod_eq_of_lt (by omega), Nat.mod_eq_of_lt (by omega)] at this
  exact this
theorem nc_lt : ∀ w, w < 10 → nc w < 2 ^ 63 ∧ (-1 : Int64) ≠ Int64.ofNat (nc w) := by
  have h : ∀ w : Fin 10, nc w.val < 2 ^ 63 ∧ (-1 : Int64) ≠ Int64.ofNat (nc w.val) := by decide +kernel
  exact fun w hw => h ⟨w, hw⟩
theorem cd_MW {n k l w : Nat} {tx te : Nat → Int32} (hT : TX n tx te) (hw : w < 10) (hl : ∀ j, j < l → ltr n te (k + j) = true) : cd te k l = Int64.ofNat (nc w) ↔ MW te k l w := by
  have hl6 := (lenOK w hw).2.2
  have hg : ∀ j, j < l → 1 ≤ dg te k j ∧ dg te k j ≤ 26 := by
    intro j hj
    obtain ⟨-, b, b2, b3, b4⟩ := ltr_b hT (hl j hj)
    unfold dg
    rw [b4, nI_clamp (by omega)]
    omega
  have hh : ∀ j, j < lw w → 1 ≤ cw w j - 96 ∧ cw w j - 96 ≤ 26 := by
    intro j hj
    have := (chOK w j hw hj).2
    omega
  constructor
  · intro h
    unfold cd at h
    by_cases h6 : l ≤ 6
    · rw [if_pos h6] at h
      have hlt : wc (dg te k) l < 2 ^ 63 := by
        have h1 := wc_lt (g := dg te k) (m := l) (fun j hj => (hg j hj).2)
        have h2 : 27 ^ l ≤ 27 ^ 6 := Nat.pow_le_pow_right (by decide) h6
        have h3 : 27 ^ 6 < 2 ^ 63 := by decide
        omega
      obtain ⟨e1, e2⟩ := wc_inj hg hh (i64_inj hlt (nc_lt w hw).1 h)
      refine ⟨e1, fun j hj => ?_⟩
      obtain ⟨-, b, b2, b3, b4⟩ := ltr_b hT (hl j (by omega))
      have e3 := e2 j (by omega)
      unfold dg at e3
      rw [b4, nI_clamp (by omega)] at e3
      have := (chOK w j hw hj).2
      rw [b4]
      exact congrArg nI (by omega)
    · rw [if_neg h6] at h
      exact absurd h (nc_lt w hw).2
  · rintro ⟨h1, h2⟩
    subst h1
    unfold cd
    rw [if_pos hl6]
    refine congrArg Int64.ofNat ?_
    have : ∀ m, m ≤ lw w → wc (dg te k) m = wc (fun j => cw w j - 96) m := by
      intro m
      induction m with
      | zero => intro _; rfl
      | succ m ih =>
        intro hm
        unfold wc
        rw [ih (by omega)]
        have e : dg te k m = cw w m - 96 := by
          have := (chOK w m hw (by omega)).2
          unfold dg
          rw [h2 m (by omega), nI_clamp (by omega)]
        rw [e]
    exact this _ (Nat.le_refl _)
theorem bt_in {n k : Nat} {te : Nat → Int32} {b : Nat} (hb : b < 2 ^ 31) (h : bt n te k = nI b) : k < n ∧ te k = nI b := by
  unfold bt at h
  by_cases hk : k < n
  · rw [if_pos hk] at h; exact ⟨hk, h⟩
  · rw [if_neg hk] at h; exact absurd h.symm (oI_ne hb)
theorem f_stands {fu n k w : Nat} {tx te : Nat → Int32} (hf : 2000 < fu) (hT : TX n tx te) (hk : k ≤ n) (hw : w < 10) : ∃ b, f_X4_standsHere fu (nI n) (nI k) tx w = some b ∧ (b = true ↔ MW te k (skp (ltr n te) (n - k) k - k) w) := by
  have hn := hT.1
  obtain ⟨l1, l2, l3⟩ := lenOK w hw
  have hend : ltr n te (k + (n - k)) = false := by
    unfold ltr
    rw [decide_eq_false (by omega), Bool.false_and]
  have hs := skp_le (p := ltr n te) (n - k) k
  unfold f_X4_standsHere
  have hl := loopF (L := f_X4_standsHere_L2 fu (fun (x1 : Int32) => (f_J0_length_8abf5 w).bind fun r4 => (f_X4_byteAt (nI n) tx (nI k + r4)).bind fun r5 => (f_X4_isLetter r5).bind fun r6 => if (zB r6) = 0 then (some (true)) else (some (false))) w (nI n) (nI k) tx) (fun j => !decide (bt n te (k + j) = nI (cw w j))) (N := lw w) (fun _ => some false) (Z := some (!ltr n te (k + lw w))) (fun m i hi hp => by
    rw [f_X4_standsHere_L2, l1, bs, if_neg (nI_ge hi (by omega)), nI_add, f_byteAt hT (by omega), bs, (chOK w i hw hi).1, bs, if_pos (show bt n te (k + i) = nI (cw w i) by
      cases hd : decide (bt n te (k + i) = nI (cw w i)) with
      | true => exact of_decide_eq_true hd
      | false => rw [hd] at hp; cases hp), nI_1 i]) (fun m i hi hp => by
    rw [f_X4_standsHere_L2, l1, bs, if_neg (nI_ge hi (by omega)), nI_add, f_byteAt hT (by omega), bs, (chOK w i hw hi).1, bs, if_neg (show ¬ bt n te (k + i) = nI (cw w i) by
      intro hq
      rw [decide_eq_true hq] at hp
      cases hp)]) (fun m => by
    rw [f_X4_standsHere_L2, l1, bs, if_pos (nI_le (Nat.le_refl _) (by omega)), bs, nI_add, f_byteAt hT (by omega), bs, f_isLetter, bs, bt_ltr]
    cases ltr n te (k + lw w) <;> rfl) (lw w) 0 fu (by omega) (by omega)
  cases hq : fst1 (fun j => !decide (bt n te (k + j) = nI (cw w j))) (lw w) 0 with
  | some i =>
    rw [hq] at hl
    refine ⟨false, hl, fun h => (by cases h), fun h => ?_⟩
    obtain ⟨h1, h2⟩ := h
    obtain ⟨-, a2, a3, -⟩ := fst1_some hq
    have hin : k + i < n := by omega
    have : bt n te (k + i) = nI (cw w i) := by
      unfold bt
      rw [if_pos hin]
      exact h2 i (by omega)
    rw [decide_eq_true this] at a3
    cases a3
  | none =>
    rw [hq] at hl
    have hall : ∀ j, j < lw w → k + j < n ∧ te (k + j) = nI (cw w j) := by
      intro j hj
      have h1 := fst1_none hq j (by omega) (by omega)
      have h2 : bt n te (k + j) = nI (cw w j) := by
        cases hd : decide (bt n te (k + j) = nI (cw w j)) with
        | true => exact of_decide_eq_true hd
        | false => rw [hd] at h1; cases h1
      have := (chOK w j hw hj).2
      exact bt_in (by omega) h2
    refine ⟨_, hl, fun h => ?_, fun h => ?_⟩
    · have hf : ltr n te (k + lw w) = false := by
        cases hd : ltr n te (k + lw w) with
        | false => rfl
        | true => rw [hd] at h; cases h
      have he : skp (ltr n te) (n - k) k = k + lw w := skp_eq (by omega) (fun i h1 h2 => by
        obtain ⟨q1, q2⟩ := hall (i - k) (by omega)
        have q3 := (chOK w (i - k) hw (by omega)).2
        rw [show k + (i - k) = i by omega] at q1 q2
        unfold ltr
        rw [decide_eq_true q1, Bool.true_and, q2]
        unfold zin
        refine decide_eq_true ⟨?_, ?_⟩
        · rw [show (97 : Int32) = nI 97 from rfl, nI_ltI (by omega) (by decide)]; omega
        · rw [show (122 : Int32) = nI 122 from rfl, nI_ltI (by decide) (by omega)]; omega) hf hend
      exact ⟨by omega, fun j hj => (hall j hj).2⟩
    · have := skp_out (p := ltr n te) (n - k) k hend
      rw [show skp (ltr n te) (n - k) k = k + lw w by have := h.1; omega] at this
      rw [this]
      rfl
theorem f_words {fu n k : Nat} {tx te : Nat → Int32} (hf : 2000 < fu) (hT : TX n tx te) (hk : k ≤ n) : ∃ o e c, k ≤ e ∧ e ≤ n ∧ f_X6_takesWord fu (nI n) (nI k) te = some (c, nI e) ∧ f_X6_wordBy c = some (oI o) ∧ f_X4_readWord fu (nI n) (nI k) tx = some (oI o, nI (if o.isSome = true then e else k)) ∧ (∀ w, o = some w → w < 10 ∧ k < e) ∧ (ltr n te k = false → o = none) := by
  have hn := hT.1
  have hs := skp_le (p := ltr n te) (n - k) k
  have hin := skp_in (p := ltr n te) (n - k) k
  have hst : ∀ w, w < 10 → f_X4_standsHere fu (nI n) (nI k) tx w = some (decide (f_X4_standsHere fu (nI n) (nI k) tx w = some true)) ∧ (f_X4_standsHere fu (nI n) (nI k) tx w = some true ↔ MW te k (skp (ltr n te) (n - k) k - k) w) := by
    intro w hw
    obtain ⟨b, e1, e2⟩ := f_stands hf hT hk hw
    rw [e1]
    cases b with
    | false => exact ⟨by decide, ⟨fun h => (by cases h), fun h => (by have := e2.mpr h; cases this)⟩⟩
    | true => exact ⟨by decide, ⟨fun _ => e2.mp rfl, fun _ => rfl⟩⟩
  have hl := loopF (L := f_X4_readWord_L2 fu (fun (x1 : Int32) => some ((-1), nI k)) (nI n) (nI k) tx) (fun w => decide (f_X4_standsHere fu (nI n) (nI k) tx w = some true)) (N := 10) (fun w => some (nI w, nI (k + lw w))) (Z := some (-1, nI k)) (fun m i hi hp => by
    rw [f_X4_readWord_L2, if_neg (show ¬ (10 : Int32) ≤ nI i by rw [q10]; exact nI_ge hi (by decide)), nameOK i hi, bs, if_pos hi, (hst i hi).1, bs, hp, iteF, nI_1]) (fun m i hi hp => by
    rw [f_X4_readWord_L2, if_neg (show ¬ (10 : Int32) ≤ nI i by rw [q10]; exact nI_ge hi (by decide)), nameOK i hi, bs, if_pos hi, (hst i hi).1, bs, hp, iteT, (lenOK i hi).1, bs, nI_add]) (fun m => by
    rw [f_X4_readWord_L2, if_pos (by decide)]) 10 0 fu (by omega) (by omega)
  cases hq : fst1 (fun w => decide (f_X4_standsHere fu (nI n) (nI k) tx w = some true)) 10 0 with
  | some w =>
    rw [hq] at hl
    obtain ⟨-, a2, a3, -⟩ := fst1_some hq
    have hw : w < 10 := by omega
    have hM := (hst w hw).2.mp (of_decide_eq_true a3)
    have hlen := (lenOK w hw).2
    have h1 := hM.1
    refine ⟨some w, skp (ltr n te) (n - k) k, _, hs.1, by omega, f_takesWord hf hT hk, ?_, ?_, fun w' h => ?_, fun h => ?_⟩
    · rw [(cd_MW hT hw (fun j hj => hin (k + j) (by omega) (by omega))).mpr hM]
      exact wordBy_some w hw
    · refine hl.trans ?_
      show some (nI w, nI (k + lw w)) = some (nI w, nI (skp (ltr n te) (n - k) k))
      rw [← h1, show k + (skp (ltr n te) (n - k) k - k) = skp (ltr n te) (n - k) k by omega]
    · cases h
      exact ⟨hw, by omega⟩
    · have := hin k (by omega) (by omega)
      rw [h] at this
      cases this
  | none =>
    rw [hq] at hl
    refine ⟨none, skp (ltr n te) (n - k) k, _, hs.1, by omega, f_takesWord hf hT hk, ?_, hl, fun w' h => (by cases h), fun _ => rfl⟩
    refine wordBy_none (fun w hw h => ?_)
    have hM := (cd_MW hT hw (fun j hj => hin (k + j) (by omega) (by omega))).mp h
    have := fst1_none hq w (by omega) (by omega)
    rw [decide_eq_true ((hst w hw).2.mpr hM)] at this
    cases this
