theorem LPo {fu o base r n0 : Nat} {K : Int32 → (Nat → Int32) → Option (Nat → Int32)} {fi w : Nat → Int32} (ho : o + 82 ≤ 164) (hb : base + 11 * r + 11 ≤ 401) (hm : 100 < n0) : f_X6_findsFitting_L166 fu K (nI o) (nI r) (nI (base + 11 * r)) w n0 0 fi = K (nI 16) (fun k => if o + 64 ≤ k ∧ k < o + 80 then fi k ||| sb (fitP (fun j => w (base + j)) r (nI (k - o - 64))) r else fi k) := by
  refine (loopU0 (L := f_X6_findsFitting_L166 fu K (nI o) (nI r) (nI (base + 11 * r)) w) (fun i => fun k => if o + 64 ≤ k ∧ k < o + 64 + i then fi k ||| sb (fitP (fun j => w (base + j)) r (nI (k - o - 64))) r else fi k) (N := 16) 0 (funext fun k => (if_neg (by omega)).symm) (by omega) (by omega) ?_ ?_)
  · intro m i _ hi
    have hg : ∀ x : Int32, x = fi (o + 64 + i) ||| sb (fitP (fun j => w (base + j)) r (nI i)) r → upd (fun k => if o + 64 ≤ k ∧ k < o + 64 + i then fi k ||| sb (fitP (fun j => w (base + j)) r (nI (k - o - 64))) r else fi k) (o + 64 + i) x = (fun k => if o + 64 ≤ k ∧ k < o + 64 + (i + 1) then fi k ||| sb (fitP (fun j => w (base + j)) r (nI (k - o - 64))) r else fi k) := by
      intro x hx
      funext k
      by_cases hk : k = o + 64 + i
      · rw [hk, pk_us, if_pos (by omega), hx, show o + 64 + i - o - 64 = i by omega]
      · rw [pk_un hk]
        by_cases h3 : o + 64 ≤ k ∧ k < o + 64 + i
        · rw [if_pos h3, if_pos (by omega)]
        · rw [if_neg h3, if_neg (by omega)]
    have w1 : fitP (fun j => w (base + j)) r (nI i) = zin (nI i) (w (base + 11 * r + 6)) (w (base + 11 * r + 6 + 1)) := by
      unfold fitP
      show zin (nI i) (w (base + (11 * r + 6))) (w (base + (11 * r + 7))) = _
      rw [show base + (11 * r + 6) = base + 11 * r + 6 by omega, show base + (11 * r + 7) = base + 11 * r + 6 + 1 by omega]
    rw [w1] at hg
    rw [f_X6_findsFitting_L166, if_neg (show ¬ (16 : Int32) ≤ nI i by rw [q16]; exact nI_ge (by omega) (by decide)), q64, q6, nI_add, nI_add, if_pos (zok_nI (by omega) (by decide)), f_isOf (by omega), bs, if_pos (zok_nI (by omega) (by decide)), if_pos (zok_nI (by omega) (by decide)), nI_clamp (by omega), nI_1 i, if_neg (show ¬ (o + 64 ≤ o + 64 + i ∧ o + 64 + i < o + 64 + i) by omega)]
    cases c2 : zin (nI i) (w (base + 11 * r + 6)) (w (base + 11 * r + 6 + 1)) with
    | false =>
      rw [c2] at hg
      rw [iteF]
      exact congrArg _ (hg _ rfl)
    | true =>
      rw [c2] at hg
      rw [iteT]
      exact congrArg _ (hg _ rfl)
  · intro m
    rw [f_X6_findsFitting_L166, if_pos (by decide)]
theorem LSo {fu o base r n0 : Nat} {K : Int32 → (Nat → Int32) → Option (Nat → Int32)} {fi w : Nat → Int32} (ho : o + 82 ≤ 164) (hb : base + 11 * r + 11 ≤ 401) (hm : 100 < n0) : f_X6_findsFitting_L218 fu K (nI o) (nI r) (nI (base + 11 * r)) w n0 0 fi = K (nI 2) (fun k => if o + 80 ≤ k ∧ k < o + 82 then fi k ||| sb (fitT (fun j => w (base + j)) r (nI (k - o - 80))) r else fi k) := by
  refine (loopU0 (L := f_X6_findsFitting_L218 fu K (nI o) (nI r) (nI (base + 11 * r)) w) (fun i => fun k => if o + 80 ≤ k ∧ k < o + 80 + i then fi k ||| sb (fitT (fun j => w (base + j)) r (nI (k - o - 80))) r else fi k) (N := 2) 0 (funext fun k => (if_neg (by omega)).symm) (by omega) (by omega) ?_ ?_)
  · intro m i _ hi
    have hg : ∀ x : Int32, x = fi (o + 80 + i) ||| sb (fitT (fun j => w (base + j)) r (nI i)) r → upd (fun k => if o + 80 ≤ k ∧ k < o + 80 + i then fi k ||| sb (fitT (fun j => w (base + j)) r (nI (k - o - 80))) r else fi k) (o + 80 + i) x = (fun k => if o + 80 ≤ k ∧ k < o + 80 + (i + 1) then fi k ||| sb (fitT (fun j => w (base + j)) r (nI (k - o - 80))) r else fi k) := by
      intro x hx
      funext k
      by_cases hk : k = o + 80 + i
      · rw [hk, pk_us, if_pos (by omega), hx, show o + 80 + i - o - 80 = i by omega]
      · rw [pk_un hk]
        by_cases h3 : o + 80 ≤ k ∧ k < o + 80 + i
        · rw [if_pos h3, if_pos (by omega)]
        · rw [if_neg h3, if_neg (by omega)]
    have w1 : fitT (fun j => w (base + j)) r (nI i) = decide (w (base + 11 * r + 8) = 2 ∨ w (base + 11 * r + 8) = nI i) := by
      unfold fitT
      show decide (w (base + (11 * r + 8)) = 2 ∨ w (base + (11 * r + 8)) = nI i) = _
      rw [show base + (11 * r + 8) = base + 11 * r + 8 by omega]
    rw [w1] at hg
    rw [f_X6_findsFitting_L218, if_neg (show ¬ (2 : Int32) ≤ nI i by rw [q2]; exact nI_ge (by omega) (by decide)), q80, q8, nI_add, nI_add, nI_add, if_pos (zok_nI (by omega) (by decide)), if_pos (zok_nI (by omega) (by decide)), if_pos (zok_nI (by omega) (by decide)), if_pos (zok_nI (by omega) (by decide)), if_pos (zok_nI (by omega) (by decide)), nI_clamp (by omega), nI_clamp (by omega), nI_1 i, if_neg (show ¬ (o + 80 ≤ o + 80 + i ∧ o + 80 + i < o + 80 + i) by omega)]
    by_cases c1 : w (base + 11 * r + 8) = 2
    · rw [decide_eq_true (Or.inl c1)] at hg
      rw [if_pos c1]
      exact congrArg _ (hg _ rfl)
    · rw [if_neg c1]
      by_cases c2 : w (base + 11 * r + 8) = nI i
      · rw [decide_eq_true (Or.inr c2)] at hg
        rw [if_pos c2]
        exact congrArg _ (hg _ rfl)
      · rw [decide_eq_false (fun h => h.elim c1 c2)] at hg
        rw [if_neg c2]
        exact congrArg _ (hg _ rfl)
  · intro m
    rw [f_X6_findsFitting_L218, if_pos (by decide)]
def fitK (base o : Nat) (w : Nat → Int32) (q k : Nat) : Bool :=
  if k < o + 32 then fitE (fun j => w (base + j)) q 0 (nI (k - o)) (w (k - o)) else
  if k < o + 64 then fitE (fun j => w (base + j)) q 1 (nI (k - o - 32)) (w (k - o - 32)) else
  if k < o + 80 then fitP (fun j => w (base + j)) q (nI (k - o - 64)) else fitT (fun j => w (base + j)) q (nI (k - o - 80))
theorem addR_in {base o r k : Nat} {w fi : Nat → Int32} (h1 : o ≤ k) (h2 : k < o + 82) : addR base o r w fi k = fi k ||| sb (fitK base o w r k) r := by
  unfold addR fitK
  rw [if_neg (by omega), if_pos h2]
  by_cases h3 : k < o + 32
  · rw [if_pos h3, if_pos h3]
  · rw [if_neg h3, if_neg h3]
    by_cases h4 : k < o + 64
    · rw [if_pos h4, if_pos h4]
    · rw [if_neg h4, if_neg h4]
      by_cases h5 : k < o + 80
      · rw [if_pos h5, if_pos h5]
      · rw [if_neg h5, if_neg h5]
theorem addR_out {base o r k : Nat} {w fi : Nat → Int32} (h1 : k < o ∨ o + 82 ≤ k) : addR base o r w fi k = fi k := by
  unfold addR
  by_cases h : k < o
  · rw [if_pos h]
  · rw [if_neg h, if_neg (by omega), if_neg (by omega), if_neg (by omega), if_neg (by omega)]
def addN (base o : Nat) (w fi : Nat → Int32) : Nat → Nat → Int32
  | 0 => fi
  | r + 1 => addR base o r w (addN base o w fi r)
theorem addN_out {base o k : Nat} {w fi : Nat → Int32} (h1 : k < o ∨ o + 82 ≤ k) : ∀ n, addN base o w fi n k = fi k := by
  intro n
  induction n with
  | zero => rfl
  | succ n ih => unfold addN; rw [addR_out h1, ih]
theorem tb_addN {base o k q : Nat} {w fi : Nat → Int32} (h1 : o ≤ k) (h2 : k < o + 82) (hq : q < 32) (h0 : fi k = 0) : ∀ n, n ≤ 12 → tb (addN base o w fi n k) q = (decide (q < n) && fitK base o w q k) := by
  intro n
  induction n with
  | zero =>
    intro _
    unfold addN
    rw [h0, tb_0, decide_eq_false (by omega), Bool.false_and]
  | succ n ih =>
    intro hn
    unfold addN
    rw [addR_in h1 h2, tb_or, ih (by omega), tb_sb (by omega) hq]
    by_cases hqn : q = n
    · subst hqn
      rw [decide_eq_false (by omega), decide_eq_true rfl, decide_eq_true (by omega), Bool.false_and, Bool.true_and, Bool.false_or]
    · rw [decide_eq_false hqn, Bool.false_and, Bool.or_false]
      by_cases hlt : q < n
      · rw [decide_eq_true hlt, decide_eq_true (by omega)]
      · rw [decide_eq_false hlt, decide_eq_false (by omega)]
/-- the sets of one list, from place o on -/
def FT (fi : Nat → Int32) (o base n : Nat) (w : Nat → Int32) : Prop := ∀ k, o ≤ k → k < o + 82 → ∀ q, q < 32 → tb (fi k) q = (decide (q < n) && fitK base o w q k)
theorem LR {fu o base n n0 : Nat} {K : Int32 → (Nat → Int32) → Option (Nat → Int32)} {fi w : Nat → Int32} (ho : o + 82 ≤ 164) (hb : base + 132 ≤ 401) (hn : n ≤ 12) (hf : 2000 < fu) (hm : 100 < n0) : f_X6_findsFitting_L29 fu K (nI base) (nI n) (nI o) w n0 0 fi = K (nI n) (addN base o w fi n) := by
  refine (loopU0 (L := f_X6_findsFitting_L29 fu K (nI base) (nI n) (nI o) w) (fun i => addN base o w fi i) (N := n) 0 rfl (by omega) (by omega) ?_ ?_)
  · intro m i _ hi
    rw [f_X6_findsFitting_L29, if_neg (nI_ge hi (by omega)), q11, pk_mul, nI_add, LA ho (by omega) (by omega), LPo ho (by omega) (by omega), LSo ho (by omega) (by omega), nI_1 i]
    refine congrArg _ (funext fun k => ?_)
    show _ = addR base o i w (addN base o w fi i) k
    by_cases h1 : k < o + 64
    · rw [if_neg (by omega), if_neg (by omega), if_pos h1]
    · by_cases h2 : k < o + 80
      · rw [if_neg (by omega), if_pos (by omega), if_neg h1]
        unfold addR
        rw [if_neg (by omega), if_neg (by omega), if_neg h1, if_pos h2]
      · by_cases h3 : k < o + 82
        · rw [if_pos (by omega), if_neg (by omega), if_neg h1]
          unfold addR
          rw [if_neg (by omega), if_neg (by omega), if_neg h1, if_neg h2, if_pos h3]
        · rw [if_neg (by omega), if_neg (by omega), if_neg h1, addR_out (by omega)]
  · intro m
    rw [f_X6_findsFitting_L29, if_pos (nI_le (Nat.le_refl _) (by omega))]
theorem f_findsFitting {fu o base n : Nat} {fi w : Nat → Int32} (ho : o + 82 ≤ 164) (hb : base + 132 ≤ 401) (hn : n ≤ 12) (hf : 2000 < fu) : ∃ fi', f_X6_findsFitting fu w fi (nI base) (nI n) (nI o) = some fi' ∧ FT fi' o base n w ∧ ∀ k, k < o ∨ o + 82 ≤ k → fi' k = fi k := by
  unfold f_X6_findsFitting
  rw [LZ ho (by omega), LR ho hb hn hf (by omega)]
  refine ⟨_, rfl, fun k h1 h2 q hq => tb_addN h1 h2 hq (if_pos ⟨h1, h2⟩) n hn, fun k hk => ?_⟩
  rw [addN_out hk, if_neg (by omega)]
theorem f_findsNow {fu n : Nat} {fi w : Nat → Int32} (h32 : w 32 = nI n) (hn : n ≤ 12) (hf : 2000 < fu) : ∃ fi', f_X6_findsNow fu w fi = some fi' ∧ FT fi' 0 33 n w ∧ ∀ k, 82 ≤ k → fi' k = fi k := by
  obtain ⟨fi', e1, e2, e3⟩ := f_findsFitting (fu := fu) (o := 0) (base := 33) (n := n) (fi := fi) (w := w) (by omega) (by omega) hn hf
  unfold f_X6_findsNow
  rw [if_pos (by decide), tn32, h32, show f_X6_findsFitting fu w fi 33 (nI n) 0 = some fi' from e1]
  exact ⟨fi', rfl, e2, fun k hk => e3 k (by omega)⟩
/-- a rule fits the case of number c -/
def fitC (g zo : Nat → Int32) (c q : Nat) : Bool := fitA g zo (c / 1024) (c / 32 % 32) (c / 2 % 16) (c % 2) q
def decC (g zo : Nat → Int32) (n c : Nat) : Option Nat := dec g zo n (c / 1024) (c / 32 % 32) (c / 2 % 16) (c % 2)
theorem f_fits {o base n c : Nat} {fi w : Nat → Int32} (hF : FT fi o base n w) (ho : o + 82 ≤ 164) (hc : c < 32768) : ∃ S, f_X6_fits fi (nI o) (nI c) = some S ∧ ∀ q, q < 32 → tb S q = (decide (q < n) && fitC (fun j => w (base + j)) w c q) := by
  unfold f_X6_fits f_X6_sourceOf f_X6_goalOf f_X6_portOf
  have x1 : nI c / 1024 = nI (c / 1024) := pk_div (d := 1024) (by omega) (by decide) (by decide)
  have x2 : nI c / 32 = nI (c / 32) := pk_div (d := 32) (by omega) (by decide) (by decide)
  have x3 : nI (c / 32) - nI (c / 32) / 32 * 32 = nI (c / 32 % 32) := pk_rem (d := 32) (by omega) (by decide) (by decide)
  have x4 : nI c - nI c / 2 * 2 = nI (c % 2) := pk_rem (d := 2) (by omega) (by decide) (by decide)
  have x5 : nI c / 2 = nI (c / 2) := pk_div (d := 2) (by omega) (by decide) (by decide)
  have x6 : nI (c / 2) - nI (c / 2) / 16 * 16 = nI (c / 2 % 16) := pk_rem (d := 16) (by omega) (by decide) (by decide)
  rw [x4, x1, x2, x3, x5, x6, bs, bs, bs, q32, q64, q80]
  rw [nI_add, nI_add, nI_add, nI_add, nI_add, nI_add, nI_add, if_pos (zok_nI (by omega) (by decide)), if_pos (zok_nI (by omega) (by decide)), if_pos (zok_nI (by omega) (by decide)), if_pos (zok_nI (by omega) (by decide)), nI_clamp (by omega), nI_clamp (by omega), nI_clamp (by omega), nI_clamp (by omega)]
  refine ⟨_, rfl, fun q hq => ?_⟩
  rw [tb_and, tb_and, tb_and, hF _ (by omega) (by omega) q hq, hF (o + 32 + c / 32 % 32) (by omega) (by omega) q hq, hF (o + 64 + c / 2 % 16) (by omega) (by omega) q hq, hF (o + 80 + c % 2) (by omega) (by omega) q hq]
  unfold fitC fitA fitS
  have k1 : fitK base o w q (o + c / 1024) = fitE (fun j => w (base + j)) q 0 (nI (c / 1024)) (w (c / 1024)) := by
    unfold fitK
    rw [if_pos (by omega), show o + c / 1024 - o = c / 1024 by omega]
  have k2 : fitK base o w q (o + 32 + c / 32 % 32) = fitE (fun j => w (base + j)) q 1 (nI (c / 32 % 32)) (w (c / 32 % 32)) := by
    unfold fitK
    rw [if_neg (by omega), if_pos (by omega), show o + 32 + c / 32 % 32 - o - 32 = c / 32 % 32 by omega]
  have k3 : fitK base o w q (o + 64 + c / 2 % 16) = fitP (fun j => w (base + j)) q (nI (c / 2 % 16)) := by
    unfold fitK
    rw [if_neg (by omega), if_neg (by omega), if_pos (by omega), show o + 64 + c / 2 % 16 - o - 64 = c / 2 % 16 by omega]
  have k4 : fitK base o w q (o + 80 + c % 2) = fitT (fun j => w (base + j)) q (nI (c % 2)) := by
    unfold fitK
    rw [if_neg (by omega), if_neg (by omega), if_neg (by omega), show o + 80 + c % 2 - o - 80 = c % 2 by omega]
  rw [k1, k2, k3, k4]
  cases decide (q < n) <;> cases fitE (fun j => w (base + j)) q 0 (nI (c / 1024)) (w (c / 1024)) <;> cases fitE (fun j => w (base + j)) q 1 (nI (c / 32 % 32)) (w (c / 32 % 32)) <;> cases fitP (fun j => w (base + j)) q (nI (c / 2 % 16)) <;> cases fitT (fun j => w (base + j)) q (nI (c % 2)) <;> rfl
theorem fst1_le {p q : Nat → Bool} {n : Nat} (hn : n ≤ 12) (h : ∀ k, k < 12 → q k = (decide (k < n) && p k)) : fst1 q 12 0 = fst1 p n 0 := by
  cases hp : fst1 p n 0 with
  | none =>
    refine fst1_no (fun k _ hk => ?_)
    rw [h k (by omega)]
    by_cases hkn : k < n
    · rw [fst1_none hp k (by omega) (by omega), Bool.and_false]
    · rw [decide_eq_false hkn, Bool.false_and]
  | some j =>
    obtain ⟨a1, a2, a3, a4⟩ := fst1_some hp
    refine fst1_eq (by omega) (by omega) ?_ (fun k h1 h2 => ?_)
    · rw [h j (by omega), decide_eq_true (by omega), a3]; rfl
    · rw [h k (by omega), a4 k h1 h2, Bool.and_false]
theorem f_decC {fu n c : Nat} {base : Nat} {w : Nat → Int32} {S : Int32} (hf : 2000 < fu) (hn : n ≤ 12) (hS : ∀ q, q < 32 → tb S q = (decide (q < n) && fitC (fun j => w (base + j)) w c q)) : f_X6_firstOf fu S = some (oI (decC (fun j => w (base + j)) w n c)) := by
  rw [f_firstOf hf, fst1_le hn (fun k hk => hS k (by omega))]
  rfl
theorem f_actionBy {fu base : Nat} {w : Nat → Int32} {S : Int32} (hf : 2000 < fu) (hb : base + 132 ≤ 401) : f_X6_actionBy fu w (nI base) S = some (acn (fun j => w (base + j)) (fst1 (tb S) 12 0)) := by
  unfold f_X6_actionBy
  rw [f_firstOf hf, bs]
  cases h : fst1 (tb S) 12 0 with
  | none => rfl
  | some r =>
    have := fst1_some h
    rw [show oI (some r) = nI r from rfl, if_pos (nI_pos' (by omega)), q11, q9, ix3, if_pos (zok_nI (by omega) (by decide)), nI_clamp (by omega)]
    exact congrArg some (congrArg w (by omega))
theorem f_actC {fu n c : Nat} {base : Nat} {w : Nat → Int32} {S : Int32} (hf : 2000 < fu) (hb : base + 132 ≤ 401) (hn : n ≤ 12) (hS : ∀ q, q < 32 → tb S q = (decide (q < n) && fitC (fun j => w (base + j)) w c q)) : f_X6_actionBy fu w (nI base) S = some (acn (fun j => w (base + j)) (decC (fun j => w (base + j)) w n c)) := by
  rw [f_actionBy hf hb, fst1_le hn (fun k hk => hS k (by omega))]
  rfl
theorem f_caseOf (s d p t : Nat) : f_X6_caseOf (nI s) (nI d) (nI p) (nI t) = some (nI (1024 * s + 32 * d + 2 * p + t)) := by
  unfold f_X6_caseOf
  rw [q1024, q32, q2, pk_mul, pk_mul, pk_mul, nI_add, nI_add, nI_add]
theorem decC_eq {g zo : Nat → Int32} {n s d p t : Nat} (hs : s < 32) (hd : d < 32) (hp : p < 16) (ht : t < 2) : decC g zo n (1024 * s + 32 * d + 2 * p + t) = dec g zo n s d p t := by
  unfold decC
  rw [show (1024 * s + 32 * d + 2 * p + t) / 1024 = s by omega, show (1024 * s + 32 * d + 2 * p + t) / 32 % 32 = d by omega, show (1024 * s + 32 * d + 2 * p + t) / 2 % 16 = p by omega, show (1024 * s + 32 * d + 2 * p + t) % 2 = t by omega]
section P40
variable {fu : Nat} {b0 b1 b2 yhs yhn states : Int32} {estm : Int32} {eszo : Nat → Int32} {esrs : Int32} {esrf : Nat → Int32} {esks : Int32} {eskf : Nat → Int32} {esfs : Int32} {esff : Nat → Int32} {esas : Int32} {esaf espf estf : Nat → Int32} {R : Nat → Nat → Nat → Int32} {now past refused : Nat → Int32}
theorem s_decides {fi : Nat → Int32} (hf : 2000 < fu) (hs : SR (pk12 estm eszo esrs esrf esks eskf esfs esff esas esaf espf estf) now) (hc : CR b0 b1 b2 refused) (a1 a2 a3 a4 : Int32) : ∃ r c0 c1 c2 fi' re, f_X5_decides fu b0 b1 b2 eszo esrs esrf a1 a2 a3 a4 = some (r, c0, c1, c2) ∧ f_X6_decides fu now fi refused a1 a2 a3 a4 = some (r, fi', re) ∧ CR c0 c1 c2 re := by
  obtain ⟨p0, ⟨n, p1, p2, p3, p4, p5⟩, -⟩ := hs
  obtain rfl : esrs = nI n := p2
  unfold f_X5_decides f_X6_decides
  rw [(isCase_eq a1 a2 a3 a4).1, (isCase_eq a1 a2 a3 a4).2, bs, bs]
  cases h : (zin a1 0 31 && (zin a2 0 31 && (zin a3 0 15 && zin a4 0 1))) with
  | false =>
    rw [iteF, iteF, f_failsB, f_bad]
    exact ⟨_, _, _, _, _, _, rfl, rfl, hc.bad⟩
  | true =>
    obtain ⟨h1, h⟩ := Bool.and_eq_true_iff.mp h
    obtain ⟨h2, h⟩ := Bool.and_eq_true_iff.mp h
    obtain ⟨h3, h4⟩ := Bool.and_eq_true_iff.mp h
    obtain ⟨s, hs, rfl⟩ := zin_nat (n := 31) (by decide) h1
    obtain ⟨d, hd, rfl⟩ := zin_nat (n := 31) (by decide) h2
    obtain ⟨p, hp, rfl⟩ := zin_nat (n := 15) (by decide) h3
    obtain ⟨t, ht, rfl⟩ := zin_nat (n := 1) (by decide) h4
    obtain ⟨fi', e1, e2, -⟩ := f_findsNow (fi := fi) p3 p1 hf
    obtain ⟨S, g1, g2⟩ := f_fits (c := 1024 * s + 32 * d + 2 * p + t) e2 (by omega) (by omega)
    rw [iteT, iteT, f_ruleFor hf p1 (by omega) (by omega), bs, e1, bs, f_caseOf, bs, show f_X6_fits fi' 0 (nI (1024 * s + 32 * d + 2 * p + t)) = some S from g1, bs, f_decC hf p1 g2, bs, decC_eq (by omega) (by omega) (by omega) (by omega), ← dec_c (g := esrf) (zo := eszo) (fun k hk => p4 k hk) p0 (by omega) (by omega)]
    exact ⟨_, _, _, _, _, _, rfl, rfl, hc⟩
end P40
