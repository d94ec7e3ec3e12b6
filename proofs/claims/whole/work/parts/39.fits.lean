def fitE (g : Nat → Int32) (r e : Nat) (a z : Int32) : Bool := decide (g (11 * r + e) = 6 ∨ g (11 * r + e) = z) && zin a (g (11 * r + 2 + 2 * e)) (g (11 * r + 3 + 2 * e))
def fitP (g : Nat → Int32) (r : Nat) (p : Int32) : Bool := zin p (g (11 * r + 6)) (g (11 * r + 7))
def fitT (g : Nat → Int32) (r : Nat) (s : Int32) : Bool := decide (g (11 * r + 8) = 2 ∨ g (11 * r + 8) = s)
def fitS (g : Nat → Int32) (r : Nat) (p s : Int32) : Bool := fitT g r s && fitP g r p
/-- a rule fits a case -/
def fitA (g zo : Nat → Int32) (s d p t r : Nat) : Bool := fitE g r 0 (nI s) (zo s) && (fitE g r 1 (nI d) (zo d) && fitS g r (nI p) (nI t))
/-- the rule that decides a case -/
def dec (g zo : Nat → Int32) (n s d p t : Nat) : Option Nat := fst1 (fitA g zo s d p t) n 0
def acn (g : Nat → Int32) : Option Nat → Int32
  | some r => g (11 * r + 9)
  | none => 0
def oI : Option Nat → Int32
  | some r => nI r
  | none => -1
theorem fitE_c {g g' : Nat → Int32} {r e n : Nat} {a z : Int32} (h : ∀ k, k < 11 * n → g k = g' k) (hr : r < n) (he : e < 2) : fitE g r e a z = fitE g' r e a z := by
  unfold fitE
  rw [h _ (by omega), h (11 * r + 2 + 2 * e) (by omega), h (11 * r + 3 + 2 * e) (by omega)]
theorem fitS_c {g g' : Nat → Int32} {r n : Nat} {p s : Int32} (h : ∀ k, k < 11 * n → g k = g' k) (hr : r < n) : fitS g r p s = fitS g' r p s := by
  unfold fitS fitT fitP
  rw [h _ (by omega), h (11 * r + 6) (by omega), h (11 * r + 7) (by omega)]
theorem fitA_c {g g' zo zo' : Nat → Int32} {n s d p t r : Nat} (h : ∀ k, k < 11 * n → g k = g' k) (hz : ∀ a, a < 32 → zo a = zo' a) (hs : s < 32) (hd : d < 32) (hr : r < n) : fitA g zo s d p t r = fitA g' zo' s d p t r := by
  unfold fitA
  rw [fitE_c h hr (by omega), fitE_c h hr (by omega), fitS_c h hr, hz s hs, hz d hd]
theorem dec_c {g g' zo zo' : Nat → Int32} {n s d p t : Nat} (h : ∀ k, k < 11 * n → g k = g' k) (hz : ∀ a, a < 32 → zo a = zo' a) (hs : s < 32) (hd : d < 32) : dec g zo n s d p t = dec g' zo' n s d p t := fst1_congr (fun k _ hk => fitA_c h hz hs hd (by omega))
theorem dec_lt {g zo : Nat → Int32} {n s d p t r : Nat} (h : dec g zo n s d p t = some r) : r < n := by
  have := fst1_some h
  omega
theorem acn_c {g g' zo : Nat → Int32} {n s d p t : Nat} (h : ∀ k, k < 11 * n → g k = g' k) : acn g (dec g zo n s d p t) = acn g' (dec g zo n s d p t) := by
  cases hd : dec g zo n s d p t with
  | none => rfl
  | some r =>
    have := dec_lt hd
    exact h _ (by omega)
theorem zBb (b : Bool) : (if zB b = 0 then some false else some true) = some b := by cases b <;> rfl
theorem f_fitsEnd {n r e : Nat} {tf : Nat → Int32} {a z : Int32} (hr : r < n) (hn : n ≤ 12) (he : e < 2) : f_X5_fitsEnd 11 (nI n) 132 tf (nI r) (nI e) a z = some (fitE tf r e a z) := by
  unfold f_X5_fitsEnd fitE
  rw [q0, q2, q3, nI_add, pk_mul, nI_add, nI_add, get11 hr (by omega) hn, get11 hr (by omega) hn, get11 hr (by omega) hn, bs, bs, bs, f_within, bs, ← q0, zBb, show tf (r * 11 + (0 + e)) = tf (11 * r + e) from congrArg tf (by omega), show tf (r * 11 + (2 + 2 * e)) = tf (11 * r + 2 + 2 * e) from congrArg tf (by omega), show tf (r * 11 + (3 + 2 * e)) = tf (11 * r + 3 + 2 * e) from congrArg tf (by omega)]
  by_cases h6 : tf (11 * r + e) = 6
  · rw [if_pos h6, decide_eq_true (Or.inl h6), Bool.true_and]
  · rw [if_neg h6]
    by_cases hz : tf (11 * r + e) = z
    · rw [if_pos hz, decide_eq_true (Or.inr hz), Bool.true_and]
    · rw [if_neg hz, decide_eq_false (fun h => h.elim h6 hz), Bool.false_and]
theorem f_fitsService {n r : Nat} {tf : Nat → Int32} {p s : Int32} (hr : r < n) (hn : n ≤ 12) : f_X5_fitsService 11 (nI n) 132 tf (nI r) p s = some (fitS tf r p s) := by
  unfold f_X5_fitsService fitS fitT fitP
  rw [q6, q7, q8, get11 hr (by omega) hn, get11 hr (by omega) hn, get11 hr (by omega) hn]
  simp only [bs, f_within, zBb]
  rw [show tf (r * 11 + 8) = tf (11 * r + 8) from congrArg tf (by omega), show tf (r * 11 + 6) = tf (11 * r + 6) from congrArg tf (by omega), show tf (r * 11 + 7) = tf (11 * r + 7) from congrArg tf (by omega)]
  by_cases h6 : tf (11 * r + 8) = 2
  · rw [if_pos h6, decide_eq_true (Or.inl h6), Bool.true_and]
  · rw [if_neg h6]
    by_cases hz : tf (11 * r + 8) = s
    · rw [if_pos hz, decide_eq_true (Or.inr hz), Bool.true_and]
    · rw [if_neg hz, decide_eq_false (fun h => h.elim h6 hz), Bool.false_and]
theorem f_zoneAt {zo : Nat → Int32} {a : Nat} (ha : a < 32) : f_X2_zoneAt zo (nI a) = some (zo a) := by
  unfold f_X2_zoneAt
  rw [f_within, bs, show zin (nI a) 0 31 = true by rw [q31, zin_nI (by omega) (by decide)]; exact decide_eq_true (by omega), iteT, if_pos (zok_nI ha (by decide)), nI_clamp (by omega)]
theorem mo {o : Option Nat} : (match o with | some j => some (nI j) | none => some (-1)) = some (oI o) := by cases o <;> rfl
theorem f_ruleFor {fu n s d p t : Nat} {zo tf : Nat → Int32} (hf : 2000 < fu) (hn : n ≤ 12) (hs : s < 32) (hd : d < 32) : f_X2_ruleFor fu zo 11 (nI n) 132 tf (nI s) (nI d) (nI p) (nI t) = some (oI (dec tf zo n s d p t)) := by
  unfold f_X2_ruleFor
  rw [f_zoneAt hs, f_zoneAt hd, bs, bs]
  refine (loopF (L := f_X2_ruleFor_L17 fu _ (nI s) (nI d) (nI p) (nI t) (zo s) (zo d) 11 (nI n) 132 tf) (fitA tf zo s d p t) (N := n) (fun r => some (nI r)) (Z := some (-1)) ?_ ?_ ?_ n 0 fu (by omega) (by omega)).trans mo
  · intro m i hi hp
    rw [f_X2_ruleFor_L17, f_X3_size, bs, if_neg (nI_ge hi (by omega)), q0, q1, f_fitsEnd hi hn (by omega), f_fitsEnd hi hn (by omega), f_fitsService hi hn, bs, bs, bs]
    unfold fitA at hp
    cases h1 : fitE tf i 0 (nI s) (zo s) with
    | false => rw [← q0, iteF, ← q1, nI_1]
    | true =>
      rw [← q0, iteT]
      cases h2 : fitE tf i 1 (nI d) (zo d) with
      | false => rw [iteF, ← q1, nI_1]
      | true =>
        rw [h1, h2, Bool.true_and, Bool.true_and] at hp
        rw [iteT, hp, iteF, ← q1, nI_1]
  · intro m i hi hp
    unfold fitA at hp
    obtain ⟨h1, h2⟩ := Bool.and_eq_true_iff.mp hp
    obtain ⟨h3, h4⟩ := Bool.and_eq_true_iff.mp h2
    rw [f_X2_ruleFor_L17, f_X3_size, bs, if_neg (nI_ge hi (by omega)), q0, q1, f_fitsEnd hi hn (by omega), f_fitsEnd hi hn (by omega), f_fitsService hi hn, bs, bs, bs, h1, h3, h4, ← q0, iteT, iteT, iteT]
  · intro m
    rw [f_X2_ruleFor_L17, f_X3_size, bs, if_pos (nI_le (Nat.le_refl _) (by omega))]
theorem oI_ne {r : Nat} (hr : r < 2 ^ 31) : ¬ nI r = -1 := by
  intro h
  have := congrArg Int32.toInt h
  rw [nI_toInt hr] at this
  have e : Int32.toInt (-1) = -1 := by decide
  omega
theorem f_actionFor {fu n s d p t : Nat} {zo tf : Nat → Int32} (hf : 2000 < fu) (hn : n ≤ 12) (hs : s < 32) (hd : d < 32) : f_X2_actionFor fu zo 11 (nI n) 132 tf (nI s) (nI d) (nI p) (nI t) = some (acn tf (dec tf zo n s d p t)) := by
  unfold f_X2_actionFor
  rw [f_ruleFor hf hn hs hd, bs]
  cases hdc : dec tf zo n s d p t with
  | none => rfl
  | some r =>
    have := dec_lt hdc
    rw [show oI (some r) = nI r from rfl, if_neg (oI_ne (by omega)), q9, get11 this (by omega) hn, bs]
    exact congrArg some (congrArg tf (by omega))
theorem isCase_eq (a b c e : Int32) : f_X5_isCase a b c e = some (zin a 0 31 && (zin b 0 31 && (zin c 0 15 && zin e 0 1))) ∧ f_X6_isCase a b c e = some (zin a 0 31 && (zin b 0 31 && (zin c 0 15 && zin e 0 1))) := by
  unfold f_X5_isCase f_X6_isCase
  simp only [f_within, f_in, f_isAddress, bs]
  cases zin a 0 31 <;> cases zin b 0 31 <;> cases zin c 0 15 <;> cases zin e 0 1 <;> exact ⟨rfl, rfl⟩
/-! the model's sets -/
theorem f_firstOf {fu : Nat} (hf : 2000 < fu) (x : Int32) : f_X6_firstOf fu x = some (oI (fst1 (tb x) 12 0)) := by
  unfold f_X6_firstOf
  refine (loopF (L := f_X6_firstOf_L2 fu _ x) (tb x) (N := 12) (fun r => if 12 ≤ nI r then some (-1) else some (nI r)) (Z := some (-1)) ?_ ?_ ?_ 12 0 fu (by omega) (by omega)).trans ?_
  · intro m i hi hp
    rw [f_X6_firstOf_L2, if_neg (show ¬ (12 : Int32) ≤ nI i by rw [q12]; exact nI_ge (by omega) (by decide)), shr1 (by omega), hp, if_pos (by decide), nI_1]
  · intro m i hi hp
    rw [f_X6_firstOf_L2, if_neg (show ¬ (12 : Int32) ≤ nI i by rw [q12]; exact nI_ge (by omega) (by decide)), shr1 (by omega), hp, if_neg (by decide)]
  · intro m
    rw [f_X6_firstOf_L2, if_pos (by decide), if_pos (by decide)]
  · cases h : fst1 (tb x) 12 0 with
    | none => rfl
    | some r =>
      have := fst1_some h
      show (if 12 ≤ nI r then some (-1) else some (nI r)) = some (nI r)
      rw [if_neg (show ¬ (12 : Int32) ≤ nI r by rw [q12]; exact nI_ge (by omega) (by decide))]
theorem f_isOf {w : Nat → Int32} {at_ lo : Nat} (h : at_ + lo + 1 < 401) (v : Int32) : f_X6_isOf w (nI at_) (nI lo) v = some (zin v (w (at_ + lo)) (w (at_ + lo + 1))) := by
  unfold f_X6_isOf
  rw [nI_add, nI_1, if_pos (zok_nI (by omega) (by decide)), if_pos (zok_nI (by omega) (by decide)), nI_clamp (by omega), nI_clamp (by omega), f_in, bs]
theorem f_isFrom {w : Nat → Int32} {a : Nat} (h : a < 401) (z : Int32) : f_X6_isFrom w z (nI a) = some (decide (z = 6 ∨ z = w a)) := by
  unfold f_X6_isFrom
  rw [q0, nI_add, Nat.zero_add, if_pos (zok_nI h (by decide)), nI_clamp (by omega)]
  by_cases h6 : z = 6
  · rw [if_pos h6, decide_eq_true (Or.inl h6)]
  · rw [if_neg h6]
    by_cases hz : z = w a
    · rw [if_pos hz, decide_eq_true (Or.inr hz)]
    · rw [if_neg hz, decide_eq_false (fun h => h.elim h6 hz)]
/-- the bit of one rule -/
def sb (b : Bool) (r : Nat) : Int32 := if b then 1 <<< (nI r &&& 31) else 0
theorem tb_sb {b : Bool} {r k : Nat} (hr : r < 32) (hk : k < 32) : tb (sb b r) k = (decide (k = r) && b) := by
  unfold sb
  cases b with
  | false => rw [if_neg (by decide), tb_0, Bool.and_false]
  | true => rw [if_pos rfl, tb_one r k hr hk, Bool.and_true]
/-- what one rule adds to the sets -/
def addR (base o r : Nat) (w fi : Nat → Int32) : Nat → Int32 := fun k =>
  if k < o then fi k else
  if k < o + 32 then fi k ||| sb (fitE (fun j => w (base + j)) r 0 (nI (k - o)) (w (k - o))) r else
  if k < o + 64 then fi k ||| sb (fitE (fun j => w (base + j)) r 1 (nI (k - o - 32)) (w (k - o - 32))) r else
  if k < o + 80 then fi k ||| sb (fitP (fun j => w (base + j)) r (nI (k - o - 64))) r else
  if k < o + 82 then fi k ||| sb (fitT (fun j => w (base + j)) r (nI (k - o - 80))) r else fi k
theorem LZ {fu o n0 : Nat} {K : Int32 → (Nat → Int32) → Option (Nat → Int32)} {fi : Nat → Int32} (ho : o + 82 ≤ 164) (hm : 100 < n0) : f_X6_findsFitting_L3 fu K (nI o) n0 0 fi = K (nI 82) (fun k => if o ≤ k ∧ k < o + 82 then 0 else fi k) := by
  refine loopU0 (L := f_X6_findsFitting_L3 fu K (nI o)) (fun i => fun k => if o ≤ k ∧ k < o + i then 0 else fi k) (N := 82) 0 (funext fun k => (if_neg (by omega)).symm) (by omega) (by omega) ?_ ?_
  · intro m i _ hi
    rw [f_X6_findsFitting_L3, if_neg (show ¬ (82 : Int32) ≤ nI i by rw [q82]; exact nI_ge (by omega) (by decide)), nI_add, if_pos (zok_nI (by omega) (by decide)), nI_clamp (by omega), nI_1 i]
    refine congrArg _ (funext fun k => ?_)
    by_cases hk : k = o + i
    · rw [hk, pk_us, if_pos (by omega)]
    · rw [pk_un hk]
      by_cases h2 : o ≤ k ∧ k < o + i
      · rw [if_pos h2, if_pos (by omega)]
      · rw [if_neg h2, if_neg (by omega)]
  · intro m
    rw [f_X6_findsFitting_L3, if_pos (by decide)]
theorem LA {fu o base r n0 : Nat} {K : Int32 → (Nat → Int32) → Option (Nat → Int32)} {fi w : Nat → Int32} (ho : o + 82 ≤ 164) (hb : base + 11 * r + 11 ≤ 401) (hm : 100 < n0) : f_X6_findsFitting_L47 fu K (nI o) (nI r) (nI (base + 11 * r)) w n0 0 fi = K (nI 32) (fun k => if k < o + 64 then addR base o r w fi k else fi k) := by
  refine (loopU0 (L := f_X6_findsFitting_L47 fu K (nI o) (nI r) (nI (base + 11 * r)) w) (fun i => fun k => if k < o + i ∨ (o + 32 ≤ k ∧ k < o + 32 + i) then addR base o r w fi k else fi k) (N := 32) 0 (funext fun k => ?_) (by omega) (by omega) ?_ ?_)
  · by_cases hk : k < o
    · rw [if_pos (by omega)]; unfold addR; rw [if_pos hk]
    · rw [if_neg (by omega)]
  · intro m i _ hi
    have e1 : (f_X6_isFrom w (w (base + 11 * r)) (nI i)) = some (decide (w (base + 11 * r) = 6 ∨ w (base + 11 * r) = w i)) := f_isFrom (by omega) _
    have e2 : (f_X6_isFrom w (w (base + 11 * r + 1)) (nI i)) = some (decide (w (base + 11 * r + 1) = 6 ∨ w (base + 11 * r + 1) = w i)) := f_isFrom (by omega) _
    have v1 : addR base o r w fi (o + i) = fi (o + i) ||| sb (fitE (fun j => w (base + j)) r 0 (nI i) (w i)) r := by
      unfold addR
      rw [if_neg (by omega), if_pos (by omega), show o + i - o = i by omega]
    have v2 : addR base o r w fi (o + 32 + i) = fi (o + 32 + i) ||| sb (fitE (fun j => w (base + j)) r 1 (nI i) (w i)) r := by
      unfold addR
      rw [if_neg (by omega), if_neg (by omega), if_pos (by omega), show o + 32 + i - o - 32 = i by omega]
    have hg : ∀ x y : Int32, x = addR base o r w fi (o + i) → y = addR base o r w fi (o + 32 + i) → upd (upd (fun k => if k < o + i ∨ (o + 32 ≤ k ∧ k < o + 32 + i) then addR base o r w fi k else fi k) (o + i) x) (o + 32 + i) y = (fun k => if k < o + (i + 1) ∨ (o + 32 ≤ k ∧ k < o + 32 + (i + 1)) then addR base o r w fi k else fi k) := by
      intro x y hx hy
      funext k
      by_cases hk : k = o + 32 + i
      · rw [hk, pk_us, if_pos (by omega), hy]
      · rw [pk_un hk]
        by_cases hk2 : k = o + i
        · rw [hk2, pk_us, if_pos (by omega), hx]
        · rw [pk_un hk2]
          by_cases h3 : k < o + i ∨ (o + 32 ≤ k ∧ k < o + 32 + i)
          · rw [if_pos h3, if_pos (by omega)]
          · rw [if_neg h3, if_neg (by omega)]
    rw [f_X6_findsFitting_L47, if_neg (show ¬ (32 : Int32) ≤ nI i by rw [q32]; exact nI_ge (by omega) (by decide))]
    simp (config := { maxSteps := 1000000 }) (disch := omega) only [Int32.add_zero, q1, q2, q4, q32, nI_add, zok_nI, nI_clamp, eq_self, if_true, e1, e2, f_isOf, bs, pk_un]
    have w1 : fitE (fun j => w (base + j)) r 0 (nI i) (w i) = (decide (w (base + 11 * r) = 6 ∨ w (base + 11 * r) = w i) && zin (nI i) (w (base + 11 * r + 2)) (w (base + 11 * r + 2 + 1))) := by
      unfold fitE
      show (decide (w (base + (11 * r + 0)) = 6 ∨ w (base + (11 * r + 0)) = w i) && zin (nI i) (w (base + (11 * r + 2 + 2 * 0))) (w (base + (11 * r + 3 + 2 * 0)))) = _
      rw [show base + (11 * r + 0) = base + 11 * r by omega, show base + (11 * r + 2 + 2 * 0) = base + 11 * r + 2 by omega, show base + (11 * r + 3 + 2 * 0) = base + 11 * r + 2 + 1 by omega]
    have w2 : fitE (fun j => w (base + j)) r 1 (nI i) (w i) = (decide (w (base + 11 * r + 1) = 6 ∨ w (base + 11 * r + 1) = w i) && zin (nI i) (w (base + 11 * r + 4)) (w (base + 11 * r + 4 + 1))) := by
      unfold fitE
      show (decide (w (base + (11 * r + 1)) = 6 ∨ w (base + (11 * r + 1)) = w i) && zin (nI i) (w (base + (11 * r + 2 + 2 * 1))) (w (base + (11 * r + 3 + 2 * 1)))) = _
      rw [show base + (11 * r + 1) = base + 11 * r + 1 by omega, show base + (11 * r + 2 + 2 * 1) = base + 11 * r + 4 by omega, show base + (11 * r + 3 + 2 * 1) = base + 11 * r + 4 + 1 by omega]
    rw [w1] at v1
    rw [w2] at v2
    rw [if_neg (show ¬ (o + i < o + i ∨ o + 32 ≤ o + i ∧ o + i < o + 32 + i) by omega), if_neg (show ¬ (o + 32 + i < o + i ∨ o + 32 ≤ o + 32 + i ∧ o + 32 + i < o + 32 + i) by omega)]
    cases c1 : decide (w (base + 11 * r) = 6 ∨ w (base + 11 * r) = w i) <;> cases c2 : zin (nI i) (w (base + 11 * r + 2)) (w (base + 11 * r + 2 + 1)) <;> cases c3 : decide (w (base + 11 * r + 1) = 6 ∨ w (base + 11 * r + 1) = w i) <;> cases c4 : zin (nI i) (w (base + 11 * r + 4)) (w (base + 11 * r + 4 + 1)) <;> rw [c1, c2] at v1 <;> rw [c3, c4] at v2 <;> simp only [iteF, iteT] <;> exact congrArg _ (hg _ _ v1.symm v2.symm)
  · intro m
    rw [f_X6_findsFitting_L47, if_pos (by decide)]
    refine congrArg _ (funext fun k => ?_)
    by_cases h : k < o + 64
    · rw [if_pos h, if_pos (by omega)]
    · rw [if_neg h, if_neg (by omega)]
