theorem loopU {S T : Type} {L : Nat → Int32 → S → Option T} (g : Nat → S) {N : Nat} {Z : Option T} (i0 : Nat) (hs : ∀ n i, i0 ≤ i → i < N → L (n + 1) (nI i) (g i) = L n (nI (i + 1)) (g (i + 1))) (he : ∀ n, L (n + 1) (nI N) (g N) = Z) : ∀ (m i n : Nat), i0 ≤ i → i + m = N → m < n → L n (nI i) (g i) = Z := by
  intro m
  induction m with
  | zero =>
    intro i n h0 hi hn
    obtain ⟨n, rfl⟩ : ∃ m, n = m + 1 := ⟨n - 1, by omega⟩
    obtain rfl : i = N := by omega
    exact he n
  | succ m ih =>
    intro i n h0 hi hn
    obtain ⟨n, rfl⟩ : ∃ m, n = m + 1 := ⟨n - 1, by omega⟩
    rw [hs n i h0 (by omega)]
    exact ih (i + 1) n (by omega) (by omega) (by omega)
theorem loopU0 {S T : Type} {L : Nat → Int32 → S → Option T} (g : Nat → S) {N : Nat} {Z : Option T} (i0 : Nat) {s0 : S} {n : Nat} (h0 : s0 = g i0) (hN : i0 ≤ N) (hn : N - i0 < n) (hs : ∀ n i, i0 ≤ i → i < N → L (n + 1) (nI i) (g i) = L n (nI (i + 1)) (g (i + 1))) (he : ∀ n, L (n + 1) (nI N) (g N) = Z) : L n (nI i0) s0 = Z := by
  rw [h0]
  exact loopU g i0 hs he (N - i0) i0 n (Nat.le_refl _) (by omega) hn
/-- downwards: the counter is nI i - 1 -/
theorem loopD {S T : Type} {L : Nat → Int32 → S → Option T} (g : Nat → S) {N M : Nat} {Z : Option T} (hs : ∀ n i, N ≤ i → i < M → L (n + 1) (nI i) (g (i + 1)) = L n (nI i - 1) (g i)) (he : ∀ n, L (n + 1) (nI N - 1) (g N) = Z) : ∀ (m i n : Nat), N + m = i → i ≤ M → m < n → L n (nI i - 1) (g i) = Z := by
  intro m
  induction m with
  | zero =>
    intro i n hi hM hn
    obtain ⟨n, rfl⟩ : ∃ m, n = m + 1 := ⟨n - 1, by omega⟩
    obtain rfl : i = N := by omega
    exact he n
  | succ m ih =>
    intro i n hi hM hn
    obtain ⟨n, rfl⟩ : ∃ m, n = m + 1 := ⟨n - 1, by omega⟩
    obtain ⟨i, rfl⟩ : ∃ m, i = m + 1 := ⟨i - 1, by omega⟩
    rw [nI_pred, hs n i (by omega) (by omega)]
    exact ih i n (by omega) (by omega) (by omega)
theorem loopD0 {S T : Type} {L : Nat → Int32 → S → Option T} (g : Nat → S) {N M : Nat} {Z : Option T} {s0 : S} {n : Nat} (h0 : s0 = g M) (hN : N ≤ M) (hn : M - N < n) (hs : ∀ n i, N ≤ i → i < M → L (n + 1) (nI i) (g (i + 1)) = L n (nI i - 1) (g i)) (he : ∀ n, L (n + 1) (nI N - 1) (g N) = Z) : L n (nI M - 1) s0 = Z := by
  rw [h0]
  exact loopD g hs he (M - N) M n (by omega) (Nat.le_refl _) (by omega)
def fst1 (p : Nat → Bool) : Nat → Nat → Option Nat
  | 0, _ => none
  | m + 1, i => if p i then some i else fst1 p m (i + 1)
theorem fst1_some {p : Nat → Bool} : ∀ {m i j : Nat}, fst1 p m i = some j → i ≤ j ∧ j < i + m ∧ p j = true ∧ ∀ k, i ≤ k → k < j → p k = false := by
  intro m
  induction m with
  | zero => intro i j h; cases h
  | succ m ih =>
    intro i j h
    unfold fst1 at h
    by_cases hp : p i = true
    · rw [if_pos hp] at h
      cases h
      exact ⟨Nat.le_refl _, by omega, hp, fun k h1 h2 => by omega⟩
    · rw [if_neg hp] at h
      obtain ⟨h1, h2, h3, h4⟩ := ih h
      refine ⟨by omega, by omega, h3, fun k h5 h6 => ?_⟩
      by_cases hk : k = i
      · rw [hk]; exact Bool.eq_false_iff.mpr hp
      · exact h4 k (by omega) h6
theorem fst1_none {p : Nat → Bool} : ∀ {m i : Nat}, fst1 p m i = none → ∀ k, i ≤ k → k < i + m → p k = false := by
  intro m
  induction m with
  | zero => intro i h k h1 h2; omega
  | succ m ih =>
    intro i h k h1 h2
    unfold fst1 at h
    by_cases hp : p i = true
    · rw [if_pos hp] at h; cases h
    · rw [if_neg hp] at h
      by_cases hk : k = i
      · rw [hk]; exact Bool.eq_false_iff.mpr hp
      · exact ih h k (by omega) (by omega)
theorem fst1_congr {p q : Nat → Bool} : ∀ {m i : Nat}, (∀ k, i ≤ k → k < i + m → p k = q k) → fst1 p m i = fst1 q m i := by
  intro m
  induction m with
  | zero => intro i _; rfl
  | succ m ih =>
    intro i h
    unfold fst1
    rw [h i (Nat.le_refl _) (by omega), ih (fun k h1 h2 => h k (by omega) (by omega))]
theorem fst1_eq {p : Nat → Bool} {m i j : Nat} (h1 : i ≤ j) (h2 : j < i + m) (h3 : p j = true) (h4 : ∀ k, i ≤ k → k < j → p k = false) : fst1 p m i = some j := by
  cases h : fst1 p m i with
  | none => rw [fst1_none h j h1 h2] at h3; cases h3
  | some x =>
    obtain ⟨a1, a2, a3, a4⟩ := fst1_some h
    rcases Nat.lt_trichotomy x j with hx | hx | hx
    · rw [h4 x a1 hx] at a3; cases a3
    · rw [hx]
    · rw [a4 j h1 hx] at h3; cases h3
theorem fst1_no {p : Nat → Bool} {m i : Nat} (h4 : ∀ k, i ≤ k → k < i + m → p k = false) : fst1 p m i = none := by
  cases h : fst1 p m i with
  | none => rfl
  | some x =>
    obtain ⟨a1, a2, a3, a4⟩ := fst1_some h
    rw [h4 x a1 a2] at a3; cases a3
/-- a loop that looks for the first place -/
theorem loopF {T : Type} {L : Nat → Int32 → Option T} (p : Nat → Bool) {N : Nat} (X : Nat → Option T) {Z : Option T} (hs : ∀ n i, i < N → p i = false → L (n + 1) (nI i) = L n (nI (i + 1))) (hx : ∀ n i, i < N → p i = true → L (n + 1) (nI i) = X i) (he : ∀ n, L (n + 1) (nI N) = Z) : ∀ (m i n : Nat), i + m = N → m < n → L n (nI i) = (match fst1 p m i with | some j => X j | none => Z) := by
  intro m
  induction m with
  | zero =>
    intro i n hi hn
    obtain ⟨n, rfl⟩ : ∃ m, n = m + 1 := ⟨n - 1, by omega⟩
    obtain rfl : i = N := by omega
    exact he n
  | succ m ih =>
    intro i n hi hn
    obtain ⟨n, rfl⟩ : ∃ m, n = m + 1 := ⟨n - 1, by omega⟩
    unfold fst1
    cases hp : p i with
    | false =>
      rw [hs n i (by omega) hp, ih (i + 1) n (by omega) (by omega)]
      rfl
    | true =>
      rw [hx n i (by omega) hp]
      rfl
theorem m1 (x : Int32) : x + (-1) = x - 1 := by
  rw [Int32.sub_eq_add_neg]
theorem nIm_lt {m b : Nat} (hm : m < 2 ^ 30) (hb : b < 2 ^ 30) (h : m ≤ b) : nI m - 1 < nI b := by
  cases m with
  | zero =>
    rw [Int32.lt_iff_toInt_lt, nI_toInt (by omega)]
    have e1 : Int32.toInt (nI 0 - 1) = -1 := by decide
    omega
  | succ m => rw [nI_pred]; exact nI_lt (by omega) (by omega)
def shl (lo hi d : Nat) (w : Nat → Int32) : Nat → Int32 := fun k => if lo ≤ k ∧ k < hi then w (k + d) else w k
def shr (lo hi d : Nat) (w : Nat → Int32) : Nat → Int32 := fun k => if lo ≤ k ∧ k < hi then w (k - d) else w k
theorem shl_in {lo hi d : Nat} {w : Nat → Int32} {k : Nat} (h1 : lo ≤ k) (h2 : k < hi) : shl lo hi d w k = w (k + d) := if_pos ⟨h1, h2⟩
theorem shl_out {lo hi d : Nat} {w : Nat → Int32} {k : Nat} (h1 : k < lo ∨ hi ≤ k) : shl lo hi d w k = w k := if_neg (by omega)
theorem shr_in {lo hi d : Nat} {w : Nat → Int32} {k : Nat} (h1 : lo ≤ k) (h2 : k < hi) : shr lo hi d w k = w (k - d) := if_pos ⟨h1, h2⟩
theorem shr_out {lo hi d : Nat} {w : Nat → Int32} {k : Nat} (h1 : k < lo ∨ hi ≤ k) : shr lo hi d w k = w k := if_neg (by omega)
theorem f_remove {n w r tn : Nat} {tf : Nat → Int32} (hr : r < n) (hn : n * w ≤ tn) (ht : tn < 2 ^ 31) (hn2 : n < 2 ^ 31) : f_X3_remove (nI w) (nI n) tn tf (nI r) = some (nI (n - 1), shl (w * r) (w * (n - 1)) w tf) := by
  obtain ⟨n, rfl⟩ : ∃ m, n = m + 1 := ⟨n - 1, by omega⟩
  obtain ⟨d, rfl⟩ : ∃ d, n = r + d := ⟨n - r, by omega⟩
  have e1 : (r + d + 1) * w = r * w + d * w + w := by rw [Nat.add_mul, Nat.add_mul, Nat.one_mul]
  have e2 : (r + 1) * w = r * w + w := by rw [Nat.add_mul, Nat.one_mul]
  have e3 : w * r = r * w := Nat.mul_comm _ _
  have e4 : w * (r + d) = r * w + d * w := by rw [Nat.mul_comm, Nat.add_mul]
  unfold f_X3_remove
  rw [if_neg (nI_pos (by omega)), if_pos (nI_lt hr hn2), nI_pred, nI_1, pk_sub (by omega), pk_mul, pk_mul, pk_mul, show r + d - r = d by omega, e2, nI_clamp (by omega), nI_clamp (by omega), nI_clamp (by omega), if_pos]
  · show some (nI (r + d), _) = some (nI (r + d + 1 - 1), _)
    rw [show r + d + 1 - 1 = r + d by omega, e3, e4]
    congr 2
    funext k
    by_cases hk : r * w ≤ k ∧ k < r * w + d * w
    · rw [pk_cpy_in hk.1 hk.2, shl_in hk.1 hk.2]
      exact congrArg _ (by omega)
    · rw [pk_cpy_out (by omega), shl_out (by omega)]
  · unfold zcp
    apply decide_eq_true
    refine ⟨nI_pos (by omega), nI_pos (by omega), nI_pos (by omega), ?_, ?_⟩
    · rw [nI_clamp (by omega), nI_clamp (by omega)]; omega
    · rw [nI_clamp (by omega), nI_clamp (by omega)]; omega
theorem f_insert {n w r lim tn : Nat} {tf : Nat → Int32} (hr : r ≤ n) (hl : n < lim) (hn : lim * w ≤ tn) (ht : tn < 2 ^ 31) (hn2 : lim < 2 ^ 31) (hw : 0 < w) : f_X3_insert (nI lim) (nI w) (nI n) tn tf (nI r) = some (nI (n + 1), shr (w * (r + 1)) (w * (n + 1)) w tf) := by
  obtain ⟨d, rfl⟩ : ∃ d, n = r + d := ⟨n - r, by omega⟩
  have e0 : (r + d + 1) * w ≤ lim * w := Nat.mul_le_mul_right w (by omega)
  have e1 : (r + d + 1) * w = r * w + d * w + w := by rw [Nat.add_mul, Nat.add_mul, Nat.one_mul]
  have e2 : (r + 1) * w = r * w + w := by rw [Nat.add_mul, Nat.one_mul]
  have e3 : w * (r + 1) = r * w + w := by rw [Nat.mul_comm]; exact e2
  have e4 : w * (r + d + 1) = r * w + d * w + w := by rw [Nat.mul_comm]; exact e1
  unfold f_X3_insert f_X3_isFull
  rw [if_pos (nI_lt hl hn2), bs, iteF, if_neg (nI_pos (by omega)), if_pos (nI_le (by omega) (by omega)), nI_1, nI_1, pk_sub (by omega), pk_mul, pk_mul, pk_mul, show r + d - r = d by omega, e2, nI_clamp (by omega), nI_clamp (by omega), nI_clamp (by omega), if_pos, e3, e4]
  · congr 2
    funext k
    by_cases hk : r * w + w ≤ k ∧ k < r * w + d * w + w
    · rw [pk_cpy_in hk.1 (by omega), shr_in hk.1 hk.2]
      exact congrArg _ (by omega)
    · rw [pk_cpy_out (by omega), shr_out (by omega)]
  · unfold zcp
    apply decide_eq_true
    refine ⟨nI_pos (by omega), nI_pos (by omega), nI_pos (by omega), ?_, ?_⟩
    · rw [nI_clamp (by omega), nI_clamp (by omega)]; omega
    · rw [nI_clamp (by omega), nI_clamp (by omega)]; omega
theorem rem11 {n r : Nat} {tf : Nat → Int32} (hr : r < n) (hn : n ≤ 12) : f_X3_remove 11 (nI n) 132 tf (nI r) = some (nI (n - 1), shl (11 * r) (11 * (n - 1)) 11 tf) := f_remove (w := 11) hr (by omega) (by decide) (by omega)
theorem rem7 {n r : Nat} {tf : Nat → Int32} (hr : r < n) (hn : n ≤ 8) : f_X3_remove 7 (nI n) 56 tf (nI r) = some (nI (n - 1), shl (7 * r) (7 * (n - 1)) 7 tf) := f_remove (w := 7) hr (by omega) (by decide) (by omega)
theorem rem5 {n r : Nat} {tf : Nat → Int32} (hr : r < n) (hn : n ≤ 6) : f_X3_remove 5 (nI n) 30 tf (nI r) = some (nI (n - 1), shl (5 * r) (5 * (n - 1)) 5 tf) := f_remove (w := 5) hr (by omega) (by decide) (by omega)
theorem ins11 {n r : Nat} {tf : Nat → Int32} (hr : r ≤ n) (hn : n < 12) : f_X3_insert 12 11 (nI n) 132 tf (nI r) = some (nI (n + 1), shr (11 * (r + 1)) (11 * (n + 1)) 11 tf) := f_insert (w := 11) (lim := 12) hr hn (by decide) (by decide) (by decide) (by decide)
theorem ins7 {n r : Nat} {tf : Nat → Int32} (hr : r ≤ n) (hn : n < 8) : f_X3_insert 8 7 (nI n) 56 tf (nI r) = some (nI (n + 1), shr (7 * (r + 1)) (7 * (n + 1)) 7 tf) := f_insert (w := 7) (lim := 8) hr hn (by decide) (by decide) (by decide) (by decide)
theorem ins5 {n r : Nat} {tf : Nat → Int32} (hr : r ≤ n) (hn : n < 6) : f_X3_insert 6 5 (nI n) 30 tf (nI r) = some (nI (n + 1), shr (5 * (r + 1)) (5 * (n + 1)) 5 tf) := f_insert (w := 5) (lim := 6) hr hn (by decide) (by decide) (by decide) (by decide)
def anyR (a : Int32) (j : Nat) : Int32 := if j = 9 then a else sAny j
def rowP (b : Nat) (a : Int32) (w : Nat → Int32) : Nat → Int32 := fun k => if b ≤ k ∧ k < b + 11 then anyR a (k - b) else w k
theorem c11 {P : Nat → Prop} (h0 : P 0) (h1 : P 1) (h2 : P 2) (h3 : P 3) (h4 : P 4) (h5 : P 5) (h6 : P 6) (h7 : P 7) (h8 : P 8) (h9 : P 9) (h10 : P 10) : ∀ j, j < 11 → P j := by
  intro j hj
  have : j = 0 ∨ j = 1 ∨ j = 2 ∨ j = 3 ∨ j = 4 ∨ j = 5 ∨ j = 6 ∨ j = 7 ∨ j = 8 ∨ j = 9 ∨ j = 10 := by omega
  rcases this with rfl | rfl | rfl | rfl | rfl | rfl | rfl | rfl | rfl | rfl | rfl <;> assumption
theorem f_begins {fu wn b : Nat} {wf : Nat → Int32} {a : Int32} (hf : 2000 < fu) (hb : b + 11 ≤ wn) (hw : wn < 2 ^ 31) : f_X6_begins fu wn wf (nI b) a = some (rowP b a wf) := by
  unfold f_X6_begins
  refine loopU0 (L := f_X6_begins_L2 fu _ (nI b) wn) (fun i => fun k => if b ≤ k ∧ k < b + i then 0 else wf k) (N := 11) 0 (funext fun k => (if_neg (by omega)).symm) (by omega) (by omega) ?_ ?_
  · intro n i _ hi
    rw [f_X6_begins_L2, if_neg (show ¬ (11 : Int32) ≤ nI i by rw [q11]; exact nI_ge (by omega) (by decide)), nI_add, if_pos (zok_nI (by omega) hw), nI_clamp (by omega), nI_1 i]
    refine congrArg (f_X6_begins_L2 fu _ (nI b) wn n (nI (i + 1))) (funext fun k => ?_)
    by_cases hk : k = b + i
    · rw [hk, pk_us, if_pos (by omega)]
    · rw [pk_un hk]
      by_cases h2 : b ≤ k ∧ k < b + i
      · rw [if_pos h2, if_pos (by omega)]
      · rw [if_neg h2, if_neg (by omega)]
  · intro n
    rw [f_X6_begins_L2, if_pos (by decide)]
    rw [show nI b + 0 = nI b from Int32.add_zero _, q1, q3, q5, q7, q8, q9, nI_add, nI_add, nI_add, nI_add, nI_add, nI_add, if_pos (zok_nI (by omega) hw), if_pos (zok_nI (by omega) hw), if_pos (zok_nI (by omega) hw), if_pos (zok_nI (by omega) hw), if_pos (zok_nI (by omega) hw), if_pos (zok_nI (by omega) hw), if_pos (zok_nI (by omega) hw), nI_clamp (by omega), nI_clamp (by omega), nI_clamp (by omega), nI_clamp (by omega), nI_clamp (by omega), nI_clamp (by omega), nI_clamp (by omega)]
    congr 1
    funext k
    unfold rowP
    by_cases hk : b ≤ k ∧ k < b + 11
    · rw [if_pos hk]
      obtain ⟨j, rfl⟩ : ∃ j, k = b + j := ⟨k - b, by omega⟩
      rw [show b + j - b = j by omega]
      have hj : j < 11 := by omega
      revert j
      intro j _ hj
      refine c11 (P := fun j => (upd (upd (upd (upd (upd (upd (upd (fun k => if b ≤ k ∧ k < b + 11 then (0 : Int32) else wf k) b 6) (b + 1) 6) (b + 3) (nI 31)) (b + 5) (nI 31)) (b + 7) (nI 15)) (b + 8) (nI 2)) (b + 9) a) (b + j) = anyR a j) ?_ ?_ ?_ ?_ ?_ ?_ ?_ ?_ ?_ ?_ ?_ j hj
      all_goals
        simp (disch := omega) only [pk_un, pk_us, Nat.add_zero]
        first | rfl | (rw [if_pos (by omega)]; rfl)
    · rw [if_neg hk]
      simp (disch := omega) only [pk_un]
      rw [if_neg hk]
