theorem q0 : (0 : Int32) = nI 0 := rfl
theorem q1 : (1 : Int32) = nI 1 := rfl
theorem q2 : (2 : Int32) = nI 2 := rfl
theorem q3 : (3 : Int32) = nI 3 := rfl
theorem q4 : (4 : Int32) = nI 4 := rfl
theorem q5 : (5 : Int32) = nI 5 := rfl
theorem q6 : (6 : Int32) = nI 6 := rfl
theorem q7 : (7 : Int32) = nI 7 := rfl
theorem q8 : (8 : Int32) = nI 8 := rfl
theorem q9 : (9 : Int32) = nI 9 := rfl
theorem q10 : (10 : Int32) = nI 10 := rfl
theorem q11 : (11 : Int32) = nI 11 := rfl
theorem q12 : (12 : Int32) = nI 12 := rfl
theorem q13 : (13 : Int32) = nI 13 := rfl
theorem q14 : (14 : Int32) = nI 14 := rfl
theorem q15 : (15 : Int32) = nI 15 := rfl
theorem q16 : (16 : Int32) = nI 16 := rfl
theorem q17 : (17 : Int32) = nI 17 := rfl
theorem q18 : (18 : Int32) = nI 18 := rfl
theorem q19 : (19 : Int32) = nI 19 := rfl
theorem q20 : (20 : Int32) = nI 20 := rfl
theorem q21 : (21 : Int32) = nI 21 := rfl
theorem q22 : (22 : Int32) = nI 22 := rfl
theorem q23 : (23 : Int32) = nI 23 := rfl
theorem q24 : (24 : Int32) = nI 24 := rfl
theorem q25 : (25 : Int32) = nI 25 := rfl
theorem q26 : (26 : Int32) = nI 26 := rfl
theorem q27 : (27 : Int32) = nI 27 := rfl
theorem q28 : (28 : Int32) = nI 28 := rfl
theorem q29 : (29 : Int32) = nI 29 := rfl
theorem q30 : (30 : Int32) = nI 30 := rfl
theorem q31 : (31 : Int32) = nI 31 := rfl
theorem q32 : (32 : Int32) = nI 32 := rfl
theorem q33 : (33 : Int32) = nI 33 := rfl
theorem q34 : (34 : Int32) = nI 34 := rfl
theorem q35 : (35 : Int32) = nI 35 := rfl
theorem q36 : (36 : Int32) = nI 36 := rfl
theorem q37 : (37 : Int32) = nI 37 := rfl
theorem q38 : (38 : Int32) = nI 38 := rfl
theorem q39 : (39 : Int32) = nI 39 := rfl
theorem q40 : (40 : Int32) = nI 40 := rfl
theorem q41 : (41 : Int32) = nI 41 := rfl
theorem q42 : (42 : Int32) = nI 42 := rfl
theorem q43 : (43 : Int32) = nI 43 := rfl
theorem q44 : (44 : Int32) = nI 44 := rfl
theorem q45 : (45 : Int32) = nI 45 := rfl
theorem q46 : (46 : Int32) = nI 46 := rfl
theorem q47 : (47 : Int32) = nI 47 := rfl
theorem q48 : (48 : Int32) = nI 48 := rfl
theorem q49 : (49 : Int32) = nI 49 := rfl
theorem q50 : (50 : Int32) = nI 50 := rfl
theorem q51 : (51 : Int32) = nI 51 := rfl
theorem q52 : (52 : Int32) = nI 52 := rfl
theorem q53 : (53 : Int32) = nI 53 := rfl
theorem q54 : (54 : Int32) = nI 54 := rfl
theorem q55 : (55 : Int32) = nI 55 := rfl
theorem q56 : (56 : Int32) = nI 56 := rfl
theorem q57 : (57 : Int32) = nI 57 := rfl
theorem q58 : (58 : Int32) = nI 58 := rfl
theorem q59 : (59 : Int32) = nI 59 := rfl
theorem q60 : (60 : Int32) = nI 60 := rfl
theorem q61 : (61 : Int32) = nI 61 := rfl
theorem q62 : (62 : Int32) = nI 62 := rfl
theorem q63 : (63 : Int32) = nI 63 := rfl
theorem q64 : (64 : Int32) = nI 64 := rfl
theorem q65 : (65 : Int32) = nI 65 := rfl
theorem q66 : (66 : Int32) = nI 66 := rfl
theorem q67 : (67 : Int32) = nI 67 := rfl
theorem q68 : (68 : Int32) = nI 68 := rfl
theorem q69 : (69 : Int32) = nI 69 := rfl
theorem q70 : (70 : Int32) = nI 70 := rfl
theorem q71 : (71 : Int32) = nI 71 := rfl
theorem q72 : (72 : Int32) = nI 72 := rfl
theorem q73 : (73 : Int32) = nI 73 := rfl
theorem q74 : (74 : Int32) = nI 74 := rfl
theorem q75 : (75 : Int32) = nI 75 := rfl
theorem q76 : (76 : Int32) = nI 76 := rfl
theorem q77 : (77 : Int32) = nI 77 := rfl
theorem q78 : (78 : Int32) = nI 78 := rfl
theorem q79 : (79 : Int32) = nI 79 := rfl
theorem q80 : (80 : Int32) = nI 80 := rfl
theorem q81 : (81 : Int32) = nI 81 := rfl
theorem q82 : (82 : Int32) = nI 82 := rfl
theorem q83 : (83 : Int32) = nI 83 := rfl
theorem q84 : (84 : Int32) = nI 84 := rfl
theorem q85 : (85 : Int32) = nI 85 := rfl
theorem q86 : (86 : Int32) = nI 86 := rfl
theorem q87 : (87 : Int32) = nI 87 := rfl
theorem q88 : (88 : Int32) = nI 88 := rfl
theorem q89 : (89 : Int32) = nI 89 := rfl
theorem q90 : (90 : Int32) = nI 90 := rfl
theorem q91 : (91 : Int32) = nI 91 := rfl
theorem q92 : (92 : Int32) = nI 92 := rfl
theorem q93 : (93 : Int32) = nI 93 := rfl
theorem q94 : (94 : Int32) = nI 94 := rfl
theorem q95 : (95 : Int32) = nI 95 := rfl
theorem q96 : (96 : Int32) = nI 96 := rfl
theorem q97 : (97 : Int32) = nI 97 := rfl
theorem q98 : (98 : Int32) = nI 98 := rfl
theorem q99 : (99 : Int32) = nI 99 := rfl
theorem q100 : (100 : Int32) = nI 100 := rfl
theorem q101 : (101 : Int32) = nI 101 := rfl
theorem q102 : (102 : Int32) = nI 102 := rfl
theorem q103 : (103 : Int32) = nI 103 := rfl
theorem q104 : (104 : Int32) = nI 104 := rfl
theorem q105 : (105 : Int32) = nI 105 := rfl
theorem q106 : (106 : Int32) = nI 106 := rfl
theorem q107 : (107 : Int32) = nI 107 := rfl
theorem q108 : (108 : Int32) = nI 108 := rfl
theorem q109 : (109 : Int32) = nI 109 := rfl
theorem q110 : (110 : Int32) = nI 110 := rfl
theorem q111 : (111 : Int32) = nI 111 := rfl
theorem q112 : (112 : Int32) = nI 112 := rfl
theorem q113 : (113 : Int32) = nI 113 := rfl
theorem q114 : (114 : Int32) = nI 114 := rfl
theorem q115 : (115 : Int32) = nI 115 := rfl
theorem q116 : (116 : Int32) = nI 116 := rfl
theorem q117 : (117 : Int32) = nI 117 := rfl
theorem q118 : (118 : Int32) = nI 118 := rfl
theorem q119 : (119 : Int32) = nI 119 := rfl
theorem q120 : (120 : Int32) = nI 120 := rfl
theorem q121 : (121 : Int32) = nI 121 := rfl
theorem q122 : (122 : Int32) = nI 122 := rfl
theorem q123 : (123 : Int32) = nI 123 := rfl
theorem q124 : (124 : Int32) = nI 124 := rfl
theorem q125 : (125 : Int32) = nI 125 := rfl
theorem q126 : (126 : Int32) = nI 126 := rfl
theorem q127 : (127 : Int32) = nI 127 := rfl
theorem q128 : (128 : Int32) = nI 128 := rfl
theorem q129 : (129 : Int32) = nI 129 := rfl
theorem q130 : (130 : Int32) = nI 130 := rfl
theorem q131 : (131 : Int32) = nI 131 := rfl
theorem q132 : (132 : Int32) = nI 132 := rfl
theorem q133 : (133 : Int32) = nI 133 := rfl
theorem q134 : (134 : Int32) = nI 134 := rfl
theorem q135 : (135 : Int32) = nI 135 := rfl
theorem q136 : (136 : Int32) = nI 136 := rfl
theorem q137 : (137 : Int32) = nI 137 := rfl
theorem q138 : (138 : Int32) = nI 138 := rfl
theorem q139 : (139 : Int32) = nI 139 := rfl
theorem q140 : (140 : Int32) = nI 140 := rfl
theorem q165 : (165 : Int32) = nI 165 := rfl
theorem q166 : (166 : Int32) = nI 166 := rfl
theorem q298 : (298 : Int32) = nI 298 := rfl
theorem q299 : (299 : Int32) = nI 299 := rfl
theorem q355 : (355 : Int32) = nI 355 := rfl
theorem q356 : (356 : Int32) = nI 356 := rfl
theorem q386 : (386 : Int32) = nI 386 := rfl
theorem q387 : (387 : Int32) = nI 387 := rfl
theorem q388 : (388 : Int32) = nI 388 := rfl
theorem q389 : (389 : Int32) = nI 389 := rfl
theorem q390 : (390 : Int32) = nI 390 := rfl
theorem q391 : (391 : Int32) = nI 391 := rfl
theorem q392 : (392 : Int32) = nI 392 := rfl
theorem q393 : (393 : Int32) = nI 393 := rfl
theorem q394 : (394 : Int32) = nI 394 := rfl
theorem q395 : (395 : Int32) = nI 395 := rfl
theorem q401 : (401 : Int32) = nI 401 := rfl
theorem q1024 : (1024 : Int32) = nI 1024 := rfl
theorem q1604 : (1604 : Int32) = nI 1604 := rfl
theorem q2005 : (2005 : Int32) = nI 2005 := rfl
theorem q32768 : (32768 : Int32) = nI 32768 := rfl

def zin (v lo hi : Int32) : Bool := decide (¬ v < lo ∧ ¬ hi < v)
theorem f_within (a b c : Int32) : f_X5_within a b c = some (zin a b c) := by
  unfold f_X5_within zin
  by_cases h1 : a < b
  · rw [if_pos h1, decide_eq_false (fun h => h.1 h1)]
  · rw [if_neg h1]
    by_cases h2 : c < a
    · rw [if_pos h2, decide_eq_false (fun h => h.2 h2)]
    · rw [if_neg h2, decide_eq_true ⟨h1, h2⟩]
theorem f_in (a b c : Int32) : f_X6_in a b c = some (zin a b c) := by
  unfold f_X6_in zin
  by_cases h1 : a < b
  · rw [if_pos h1, decide_eq_false (fun h => h.1 h1)]
  · rw [if_neg h1]
    by_cases h2 : c < a
    · rw [if_pos h2, decide_eq_false (fun h => h.2 h2)]
    · rw [if_neg h2, decide_eq_true ⟨h1, h2⟩]
theorem f_isAddress (a : Int32) : f_X6_isAddress a = some (zin a 0 31) := by
  unfold f_X6_isAddress
  rw [f_in]
  rfl
theorem zin_t {v lo hi : Int32} (h : zin v lo hi = true) : ¬ v < lo ∧ ¬ hi < v := of_decide_eq_true h
theorem zin_nat {v : Int32} {n : Nat} (hn : n < 2 ^ 31) (h : zin v 0 (nI n) = true) : ∃ j, j ≤ n ∧ v = nI j := by
  obtain ⟨h1, h2⟩ := zin_t h
  obtain ⟨j, hj, rfl⟩ := nI_of h1
  refine ⟨j, ?_, rfl⟩
  rw [nI_ltI hn hj] at h2
  omega
theorem zin_one {v : Int32} {n : Nat} (hn : n < 2 ^ 31) (h : zin v 1 (nI n) = true) : ∃ j, 1 ≤ j ∧ j ≤ n ∧ v = nI j := by
  obtain ⟨h1, h2⟩ := zin_t h
  have h0 : ¬ v < 0 := by
    intro q
    apply h1
    rw [Int32.lt_iff_toInt_lt] at q ⊢
    have e0 : Int32.toInt 0 = 0 := by decide
    have e1 : Int32.toInt 1 = 1 := by decide
    omega
  obtain ⟨j, hj, rfl⟩ := nI_of h0
  refine ⟨j, ?_, ?_, rfl⟩
  · rw [q1, nI_ltI hj (by decide)] at h1
    omega
  · rw [nI_ltI hn hj] at h2
    omega
theorem zin_nI {j n : Nat} (hj : j < 2 ^ 31) (hn : n < 2 ^ 31) : zin (nI j) 0 (nI n) = decide (j ≤ n) := by
  unfold zin
  apply decide_eq_decide.mpr
  rw [nI_ltI hn hj]
  constructor
  · intro h
    omega
  · intro h
    exact ⟨nI_pos hj, by omega⟩
theorem zin_m1 {v : Int32} {n : Nat} (hn : n < 2 ^ 31) (h : zin v 0 (nI n - 1) = true) : ∃ r, r < n ∧ v = nI r := by
  cases n with
  | zero =>
    obtain ⟨h1, h2⟩ := zin_t h
    exfalso
    apply h2
    rw [Int32.lt_iff_toInt_lt] at h1 ⊢
    have e0 : Int32.toInt 0 = 0 := by decide
    have e1 : Int32.toInt (nI 0 - 1) = -1 := by decide
    omega
  | succ m =>
    rw [nI_pred] at h
    obtain ⟨j, hj, e⟩ := zin_nat (by omega) h
    exact ⟨j, by omega, e⟩
theorem zin_m1t {r n : Nat} (hn : n < 2 ^ 31) (hr : r < n) : zin (nI r) 0 (nI n - 1) = true := by
  cases n with
  | zero => omega
  | succ m =>
    rw [nI_pred, zin_nI (by omega) (by omega)]
    exact decide_eq_true (by omega)
theorem zok_nI {j n : Nat} (h : j < n) (hn : n < 2 ^ 31) : zok (nI j) n = true := by
  have h1 := vp_in_nI h hn
  unfold vp_in at h1
  unfold zok
  rw [decide_eq_false h1]
  rfl
theorem f_has {n w r c : Nat} (hn : n < 2 ^ 31) (hw : w < 2 ^ 31) (hr : r < 2 ^ 31) (hc : c < 2 ^ 31) : f_X3_has (nI w) (nI n) (nI r) (nI c) = some (decide (r < n ∧ c < w)) := by
  unfold f_X3_has
  rw [if_neg (nI_pos hr)]
  by_cases h1 : r < n
  · rw [if_neg (nI_ge h1 hn), if_neg (nI_pos hc)]
    by_cases h2 : c < w
    · rw [if_neg (nI_ge h2 hw), decide_eq_true ⟨h1, h2⟩]
    · rw [if_pos (nI_le (by omega) hc), decide_eq_false (fun q => h2 q.2)]
  · rw [if_pos (nI_le (by omega) hr), decide_eq_false (fun q => h1 q.1)]
theorem tix {n w r c : Nat} (hr : r < n) (hc : c < w) : r * w + c < n * w := by
  have h1 : (r + 1) * w ≤ n * w := Nat.mul_le_mul_right w hr
  rw [Nat.add_mul] at h1
  omega
theorem f_get {n w r c tn : Nat} {tf : Nat → Int32} (hr : r < n) (hc : c < w) (hn : n * w ≤ tn) (ht : tn < 2 ^ 31) (hn2 : n < 2 ^ 31) (hw2 : w < 2 ^ 31) : f_X3_get (nI w) (nI n) tn tf (nI r) (nI c) = some (tf (r * w + c)) := by
  have hx := tix hr hc
  unfold f_X3_get
  rw [f_has hn2 hw2 (by omega) (by omega), decide_eq_true ⟨hr, hc⟩]
  show (if zB true = 0 then some 0 else if zok (nI r * nI w + nI c) tn = true then some (tf (Int32.toNatClampNeg (nI r * nI w + nI c))) else none) = _
  rw [if_neg (by decide), pk_mul, nI_add, if_pos (zok_nI (by omega) ht), nI_clamp (by omega)]
theorem f_put {n w r c tn : Nat} {tf : Nat → Int32} {v : Int32} (hr : r < n) (hc : c < w) (hn : n * w ≤ tn) (ht : tn < 2 ^ 31) (hn2 : n < 2 ^ 31) (hw2 : w < 2 ^ 31) : f_X3_put (nI w) (nI n) tn tf (nI r) (nI c) v = some (upd tf (r * w + c) v) := by
  have hx := tix hr hc
  unfold f_X3_put
  rw [f_has hn2 hw2 (by omega) (by omega), decide_eq_true ⟨hr, hc⟩]
  show (if zB true = 0 then some tf else if zok (nI r * nI w + nI c) tn = true then some (upd tf (Int32.toNatClampNeg (nI r * nI w + nI c)) v) else none) = _
  rw [if_neg (by decide), pk_mul, nI_add, if_pos (zok_nI (by omega) ht), nI_clamp (by omega)]
theorem get11 {n r c : Nat} {tf : Nat → Int32} (hr : r < n) (hc : c < 11) (hn : n ≤ 12) : f_X3_get 11 (nI n) 132 tf (nI r) (nI c) = some (tf (r * 11 + c)) := f_get (w := 11) hr hc (by omega) (by decide) (by omega) (by decide)
theorem put11 {n r c : Nat} {tf : Nat → Int32} {v : Int32} (hr : r < n) (hc : c < 11) (hn : n ≤ 12) : f_X3_put 11 (nI n) 132 tf (nI r) (nI c) v = some (upd tf (r * 11 + c) v) := f_put (w := 11) hr hc (by omega) (by decide) (by omega) (by decide)
theorem get7 {n r c : Nat} {tf : Nat → Int32} (hr : r < n) (hc : c < 7) (hn : n ≤ 8) : f_X3_get 7 (nI n) 56 tf (nI r) (nI c) = some (tf (r * 7 + c)) := f_get (w := 7) hr hc (by omega) (by decide) (by omega) (by decide)
theorem put7 {n r c : Nat} {tf : Nat → Int32} {v : Int32} (hr : r < n) (hc : c < 7) (hn : n ≤ 8) : f_X3_put 7 (nI n) 56 tf (nI r) (nI c) v = some (upd tf (r * 7 + c) v) := f_put (w := 7) hr hc (by omega) (by decide) (by omega) (by decide)
theorem get5 {n r c : Nat} {tf : Nat → Int32} (hr : r < n) (hc : c < 5) (hn : n ≤ 6) : f_X3_get 5 (nI n) 30 tf (nI r) (nI c) = some (tf (r * 5 + c)) := f_get (w := 5) hr hc (by omega) (by decide) (by omega) (by decide)
theorem put5 {n r c : Nat} {tf : Nat → Int32} {v : Int32} (hr : r < n) (hc : c < 5) (hn : n ≤ 6) : f_X3_put 5 (nI n) 30 tf (nI r) (nI c) v = some (upd tf (r * 5 + c) v) := f_put (w := 5) hr hc (by omega) (by decide) (by omega) (by decide)
theorem f_bad (f : Nat → Int32) : f_X6_bad f = some (-2, upd f 0 (f 0 + 1)) := by
  unfold f_X6_bad
  rw [if_pos (by decide), if_pos (by decide)]
  rfl
theorem f_no (f : Nat → Int32) : f_X6_no f = some (-3, upd f 1 (f 1 + 1)) := by
  unfold f_X6_no
  rw [if_pos (by decide), if_pos (by decide)]
  rfl
theorem f_full (f : Nat → Int32) : f_X6_full f = some (-4, upd f 2 (f 2 + 1)) := by
  unfold f_X6_full
  rw [if_pos (by decide), if_pos (by decide)]
  rfl
theorem f_failsB (a b c : Int32) : f_X5_fails a b c (-2) = some (-2, a + 1, b, c) := by
  unfold f_X5_fails
  rw [if_pos rfl]
theorem f_failsN (a b c : Int32) : f_X5_fails a b c (-3) = some (-3, a, b + 1, c) := by
  unfold f_X5_fails
  rw [if_neg (by decide), if_pos rfl]
theorem f_failsF (a b c : Int32) : f_X5_fails a b c (-4) = some (-4, a, b, c + 1) := by
  unfold f_X5_fails
  rw [if_neg (by decide), if_neg (by decide)]
/-- the counts of told on both sides -/
def CR (b0 b1 b2 : Int32) (f : Nat → Int32) : Prop := b0 = f 0 ∧ b1 = f 1 ∧ b2 = f 2
theorem CR.bad {b0 b1 b2 : Int32} {f : Nat → Int32} (h : CR b0 b1 b2 f) : CR (b0 + 1) b1 b2 (upd f 0 (f 0 + 1)) := by
  obtain ⟨h1, h2, h3⟩ := h
  exact ⟨by rw [pk_us, h1], by rw [pk_un (by decide)]; exact h2, by rw [pk_un (by decide)]; exact h3⟩
theorem CR.no {b0 b1 b2 : Int32} {f : Nat → Int32} (h : CR b0 b1 b2 f) : CR b0 (b1 + 1) b2 (upd f 1 (f 1 + 1)) := by
  obtain ⟨h1, h2, h3⟩ := h
  exact ⟨by rw [pk_un (by decide)]; exact h1, by rw [pk_us, h2], by rw [pk_un (by decide)]; exact h3⟩
theorem CR.full {b0 b1 b2 : Int32} {f : Nat → Int32} (h : CR b0 b1 b2 f) : CR b0 b1 (b2 + 1) (upd f 2 (f 2 + 1)) := by
  obtain ⟨h1, h2, h3⟩ := h
  exact ⟨by rw [pk_un (by decide)]; exact h1, by rw [pk_un (by decide)]; exact h2, by rw [pk_us, h3]⟩
/-- an action -/
def act (x : Int32) : Prop := x = 0 ∨ x = 1 ∨ x = 2
/-- a flow of a row: its case in range, its stage, who ended -/
def flowOk (w : Nat → Int32) (i : Nat) : Prop := (∃ v, v < 32 ∧ w (299 + 7 * i) = nI v) ∧ (∃ v, v < 32 ∧ w (299 + 7 * i + 1) = nI v) ∧ (∃ v, v < 16 ∧ w (299 + 7 * i + 2) = nI v) ∧ (∃ v, v < 2 ∧ w (299 + 7 * i + 3) = nI v) ∧ (∃ v, 1 ≤ v ∧ v ≤ 7 ∧ w (299 + 7 * i + 4) = nI v) ∧ (w (299 + 7 * i + 6) = -1 ∨ w (299 + 7 * i + 6) = 0 ∨ w (299 + 7 * i + 6) = 1)
/-- flows i and j are not of one pair, port and sort -/
def flowNe (w : Nat → Int32) (i j : Nat) : Prop := ¬ (w (299 + 7 * i + 2) = w (299 + 7 * j + 2) ∧ w (299 + 7 * i + 3) = w (299 + 7 * j + 3) ∧ ((w (299 + 7 * i) = w (299 + 7 * j) ∧ w (299 + 7 * i + 1) = w (299 + 7 * j + 1)) ∨ (w (299 + 7 * i) = w (299 + 7 * j + 1) ∧ w (299 + 7 * i + 1) = w (299 + 7 * j))))
def ZnR (c : Nat → Nat → Int32) (w : Nat → Int32) : Prop := ∀ a, a < 32 → c 0 a = w a
def RuR (c : Nat → Nat → Int32) (w : Nat → Int32) (n : Nat) : Prop := n ≤ 12 ∧ c 7 1 = nI n ∧ w 32 = nI n ∧ (∀ k, k < 11 * n → c 1 k = w (33 + k)) ∧ ∀ r, r < n → act (w (33 + 11 * r + 9))
def KeR (c : Nat → Nat → Int32) (w : Nat → Int32) (n : Nat) : Prop := n ≤ 12 ∧ c 7 2 = nI n ∧ w 165 = nI n ∧ (∀ k, k < 11 * n → c 2 k = w (166 + k)) ∧ ∀ r, r < n → act (w (166 + 11 * r + 9))
def FlR (c : Nat → Nat → Int32) (w : Nat → Int32) (n : Nat) : Prop := n ≤ 8 ∧ c 7 3 = nI n ∧ w 298 = nI n ∧ (∀ k, k < 7 * n → c 3 k = w (299 + k)) ∧ (∀ i, i < n → flowOk w i) ∧ ∀ i j, i < j → j < n → flowNe w i j
def AnR (c : Nat → Nat → Int32) (w : Nat → Int32) (n : Nat) : Prop := n ≤ 6 ∧ c 7 4 = nI n ∧ w 355 = nI n ∧ ∀ k, k < 5 * n → c 4 k = w (356 + k)
def ScR (c : Nat → Nat → Int32) (w : Nat → Int32) : Prop := (∀ g, g < 7 → c 5 g = w (387 + g)) ∧ c 7 0 = w 394 ∧ ∀ t, t < 6 → c 6 t = w (395 + t)
/-- a state of the class and a row of the model -/
def SR (c : Nat → Nat → Int32) (w : Nat → Int32) : Prop := ZnR c w ∧ (∃ n, RuR c w n) ∧ (∃ n, KeR c w n) ∧ (∃ n, FlR c w n) ∧ (∃ n, AnR c w n) ∧ ScR c w
/-- only what lies in a row, and in the class's cells up to their counts, matters -/
theorem SR.w {c : Nat → Nat → Int32} {w w' : Nat → Int32} (h : SR c w) (e : ∀ k, k < 401 → w' k = w k) : SR c w' := by
  obtain ⟨h1, ⟨n, a1, a2, a3, a4, a5⟩, ⟨nk, b1, b2, b3, b4, b5⟩, ⟨nf, c1, c2, c3, c4, c5, c6⟩, ⟨na, d1, d2, d3, d4⟩, e1, e2, e3⟩ := h
  refine ⟨fun a ha => by rw [e a (by omega)]; exact h1 a ha, ⟨n, a1, a2, by rw [e 32 (by omega)]; exact a3, fun k hk => by rw [e _ (by omega)]; exact a4 k hk, fun r hr => by rw [e _ (by omega)]; exact a5 r hr⟩, ⟨nk, b1, b2, by rw [e 165 (by omega)]; exact b3, fun k hk => by rw [e _ (by omega)]; exact b4 k hk, fun r hr => by rw [e _ (by omega)]; exact b5 r hr⟩, ⟨nf, c1, c2, by rw [e 298 (by omega)]; exact c3, fun k hk => by rw [e _ (by omega)]; exact c4 k hk, fun i hi => ?_, fun i j hij hj => ?_⟩, ⟨na, d1, d2, by rw [e 355 (by omega)]; exact d3, fun k hk => by rw [e _ (by omega)]; exact d4 k hk⟩, fun g hg => by rw [e _ (by omega)]; exact e1 g hg, by rw [e 394 (by omega)]; exact e2, fun t ht => by rw [e _ (by omega)]; exact e3 t ht⟩
  · have := c5 i hi
    unfold flowOk at this ⊢
    rw [e _ (by omega), e (299 + 7 * i + 1) (by omega), e (299 + 7 * i + 2) (by omega), e (299 + 7 * i + 3) (by omega), e (299 + 7 * i + 4) (by omega), e (299 + 7 * i + 6) (by omega)]
    exact this
  · have := c6 i j hij hj
    unfold flowNe at this ⊢
    rw [e (299 + 7 * i) (by omega), e (299 + 7 * i + 1) (by omega), e (299 + 7 * i + 2) (by omega), e (299 + 7 * i + 3) (by omega), e (299 + 7 * j) (by omega), e (299 + 7 * j + 1) (by omega), e (299 + 7 * j + 2) (by omega), e (299 + 7 * j + 3) (by omega)]
    exact this
theorem SR.c {c c' : Nat → Nat → Int32} {w : Nat → Int32} (h : SR c w) (e0 : ∀ k, k < 32 → c' 0 k = c 0 k) (e1 : ∀ k, k < 132 → c' 1 k = c 1 k) (e2 : ∀ k, k < 132 → c' 2 k = c 2 k) (e3 : ∀ k, k < 56 → c' 3 k = c 3 k) (e4 : ∀ k, k < 30 → c' 4 k = c 4 k) (e5 : ∀ k, k < 7 → c' 5 k = c 5 k) (e6 : ∀ k, k < 6 → c' 6 k = c 6 k) (e7 : ∀ k, k < 5 → c' 7 k = c 7 k) : SR c' w := by
  obtain ⟨h1, ⟨n, a1, a2, a3, a4, a5⟩, ⟨nk, b1, b2, b3, b4, b5⟩, ⟨nf, c1, c2, c3, c4, c5, c6⟩, ⟨na, d1, d2, d3, d4⟩, g1, g2, g3⟩ := h
  exact ⟨fun a ha => by rw [e0 a ha]; exact h1 a ha, ⟨n, a1, by rw [e7 1 (by omega)]; exact a2, a3, fun k hk => by rw [e1 k (by omega)]; exact a4 k hk, a5⟩, ⟨nk, b1, by rw [e7 2 (by omega)]; exact b2, b3, fun k hk => by rw [e2 k (by omega)]; exact b4 k hk, b5⟩, ⟨nf, c1, by rw [e7 3 (by omega)]; exact c2, c3, fun k hk => by rw [e3 k (by omega)]; exact c4 k hk, c5, c6⟩, ⟨na, d1, by rw [e7 4 (by omega)]; exact d2, d3, fun k hk => by rw [e4 k (by omega)]; exact d4 k hk⟩, fun g hg => by rw [e5 g hg]; exact g1 g hg, by rw [e7 0 (by omega)]; exact g2, fun t ht => by rw [e6 t ht]; exact g3 t ht⟩
/-- the remembered states on both sides: h of them, the next place x in the ring -/
def HR (R : Nat → Nat → Nat → Int32) (yhs yhn states : Int32) (past : Nat → Int32) : Prop := ∃ h x, h ≤ 5 ∧ x < 5 ∧ yhs = nI h ∧ yhn = nI x ∧ states = nI h ∧ ∀ j, j < h → SR (R ((x + 4 - j) % 5)) (fun k => past (401 * (h - 1 - j) + k))

