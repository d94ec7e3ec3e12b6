/-- the texts on both sides -/
def TR (txn : Int32) (txbf : Nat → Int32) (bytes : Int32) (text : Nat → Int32) : Prop := ∃ n, n ≤ 120 ∧ txn = nI n ∧ bytes = nI n ∧ ∀ k, k < n → txbf k = text k ∧ ∃ b, b < 128 ∧ text k = nI b
def FC (ff w : Nat → Int32) (n : Nat) : Prop := n ≤ 8 ∧ w 298 = nI n ∧ (∀ k, k < 7 * n → ff k = w (299 + k)) ∧ (∀ i, i < n → flowOk w i) ∧ ∀ i j, i < j → j < n → flowNe w i j
def AC (af w : Nat → Int32) (n : Nat) : Prop := n ≤ 6 ∧ w 355 = nI n ∧ ∀ k, k < 5 * n → af k = w (356 + k)
theorem flowOk.w {w w' : Nat → Int32} {i j : Nat} (h : flowOk w j) (e : ∀ c, c < 7 → w' (299 + 7 * i + c) = w (299 + 7 * j + c)) : flowOk w' i := by
  have e0 := e 0 (by omega)
  rw [Nat.add_zero, Nat.add_zero] at e0
  unfold flowOk at h ⊢
  rw [e0, e 1 (by omega), e 2 (by omega), e 3 (by omega), e 4 (by omega), e 6 (by omega)]
  exact h
theorem flowNe.w {w w' : Nat → Int32} {i j i2 j2 : Nat} (h : flowNe w i2 j2) (e : ∀ c, c < 4 → w' (299 + 7 * i + c) = w (299 + 7 * i2 + c)) (e2 : ∀ c, c < 4 → w' (299 + 7 * j + c) = w (299 + 7 * j2 + c)) : flowNe w' i j := by
  have e0 := e 0 (by omega)
  rw [Nat.add_zero, Nat.add_zero] at e0
  have f0 := e2 0 (by omega)
  rw [Nat.add_zero, Nat.add_zero] at f0
  unfold flowNe at h ⊢
  rw [e0, f0, e 1 (by omega), e 2 (by omega), e 3 (by omega), e2 1 (by omega), e2 2 (by omega), e2 3 (by omega)]
  exact h
theorem FC.w {ff w w' : Nat → Int32} {n : Nat} (h : FC ff w n) (e : ∀ k, 298 ≤ k → k < 355 → w' k = w k) : FC ff w' n := by
  obtain ⟨h1, h2, h3, h4, h5⟩ := h
  refine ⟨h1, by rw [e 298 (by omega) (by omega)]; exact h2, fun k hk => by rw [e _ (by omega) (by omega)]; exact h3 k hk, fun i hi => flowOk.w (h4 i hi) (fun c hc => e _ (by omega) (by omega)), fun i j hij hj => flowNe.w (h5 i j hij hj) (fun c hc => e _ (by omega) (by omega)) (fun c hc => e _ (by omega) (by omega))⟩
theorem AC.w {af w w' : Nat → Int32} {n : Nat} (h : AC af w n) (e : ∀ k, 355 ≤ k → k < 386 → w' k = w k) : AC af w' n := by
  obtain ⟨h1, h2, h3⟩ := h
  exact ⟨h1, by rw [e 355 (by omega) (by omega)]; exact h2, fun k hk => by rw [e _ (by omega) (by omega)]; exact h3 k hk⟩
theorem FC.del {ff w : Nat → Int32} {n r : Nat} (h : FC ff w (n + 1)) (hr : r ≤ n) : FC (shl (7 * r) (7 * n) 7 ff) (shl (299 + 7 * r) (299 + 7 * n) 7 (upd w 298 (nI n))) n := by
  obtain ⟨h1, h2, h3, h4, h5⟩ := h
  have e : ∀ i c, i < n → c < 7 → shl (299 + 7 * r) (299 + 7 * n) 7 (upd w 298 (nI n)) (299 + 7 * i + c) = w (299 + 7 * (if r ≤ i then i + 1 else i) + c) := by
    intro i c hi hc
    by_cases hri : r ≤ i
    · rw [if_pos hri, shl_in (by omega) (by omega), pk_un (by omega)]
      exact congrArg w (by omega)
    · rw [if_neg hri, shl_out (by omega), pk_un (by omega)]
  refine ⟨by omega, by rw [shl_out (by omega), pk_us], fun k hk => ?_, fun i hi => flowOk.w (j := if r ≤ i then i + 1 else i) ?_ (fun c hc => e i c hi hc), fun i j hij hj => flowNe.w (i2 := if r ≤ i then i + 1 else i) (j2 := if r ≤ j then j + 1 else j) ?_ (fun c hc => e i c (by omega) (by omega)) (fun c hc => e j c hj (by omega))⟩
  · by_cases hk2 : 7 * r ≤ k
    · rw [shl_in hk2 hk, shl_in (by omega) (by omega), pk_un (by omega), h3 _ (by omega)]
      exact congrArg w (by omega)
    · rw [shl_out (by omega), shl_out (by omega), pk_un (by omega)]
      exact h3 k (by omega)
  · by_cases hri : r ≤ i
    · rw [if_pos hri]; exact h4 _ (by omega)
    · rw [if_neg hri]; exact h4 _ (by omega)
  · refine h5 _ _ ?_ ?_
    · by_cases hri : r ≤ i
      · rw [if_pos hri, if_pos (by omega)]; omega
      · rw [if_neg hri]
        by_cases hrj : r ≤ j
        · rw [if_pos hrj]; omega
        · rw [if_neg hrj]; omega
    · by_cases hrj : r ≤ j
      · rw [if_pos hrj]; omega
      · rw [if_neg hrj]; omega
theorem AC.del {af w : Nat → Int32} {n r : Nat} (h : AC af w (n + 1)) (hr : r ≤ n) : AC (shl (5 * r) (5 * n) 5 af) (shl (356 + 5 * r) (356 + 5 * n) 5 (upd w 355 (nI n))) n := by
  obtain ⟨h1, h2, h3⟩ := h
  refine ⟨by omega, by rw [shl_out (by omega), pk_us], fun k hk => ?_⟩
  by_cases hk2 : 5 * r ≤ k
  · rw [shl_in hk2 hk, shl_in (by omega) (by omega), pk_un (by omega), h3 _ (by omega)]
    exact congrArg w (by omega)
  · rw [shl_out (by omega), shl_out (by omega), pk_un (by omega)]
    exact h3 k (by omega)
theorem f_flowAt (i : Nat) : f_X6_flowAt (nI i) = some (nI (299 + 7 * i)) := by
  unfold f_X6_flowAt
  rw [q299, q7, pk_mul, nI_add]
theorem t298 : Int32.toNatClampNeg 298 = 298 := by decide
theorem t355 : Int32.toNatClampNeg 355 = 355 := by decide
theorem t394 : Int32.toNatClampNeg 394 = 394 := by decide
theorem t400 : Int32.toNatClampNeg 400 = 400 := by decide
theorem z298 : zok 298 401 = true := by decide
theorem z355 : zok 355 401 = true := by decide
theorem z394 : zok 394 401 = true := by decide
theorem z400 : zok 400 401 = true := by decide
theorem L18 {fu : Nat} {K : Int32 → (Nat → Int32) → Option (Nat → Int32)} {r n0 n : Nat} {now : Nat → Int32} (hn : now 298 = nI n0) (h : r ≤ n0) (h2 : n0 < 8) (hf : 200 < n) : f_X6_flowGoes_L18 fu K n (nI (299 + 7 * r)) now = K (nI (299 + 7 * n0)) (shl (299 + 7 * r) (299 + 7 * n0) 7 now) := by
  refine loopU0 (L := f_X6_flowGoes_L18 fu K) (fun i => shl (299 + 7 * r) i 7 now) (N := 299 + 7 * n0) (299 + 7 * r) (funext fun k => (shl_out (by omega)).symm) (by omega) (by omega) ?_ ?_
  · intro n i hi hM
    rw [f_X6_flowGoes_L18, if_pos z298, t298, shl_out (k := 298) (by omega), hn, f_flowAt, bs, if_neg (nI_ge hM (by omega)), q7, nI_add, if_pos (zok_nI (by omega) (by decide)), if_pos (zok_nI (by omega) (by decide)), nI_clamp (by omega), nI_clamp (by omega), nI_1 i]
    refine congrArg _ (funext fun k => ?_)
    by_cases hk : k = i
    · rw [hk, pk_us, shl_out (by omega), shl_in (by omega) (by omega)]
    · rw [pk_un hk]
      by_cases h2 : 299 + 7 * r ≤ k ∧ k < i
      · rw [shl_in (by omega) (by omega), shl_in (by omega) (by omega)]
      · rw [shl_out (by omega), shl_out (by omega)]
  · intro n
    rw [f_X6_flowGoes_L18, if_pos z298, t298, shl_out (k := 298) (by omega), hn, f_flowAt, bs, if_pos (nI_le (by omega) (by omega))]
theorem f_flowGoes {fu r n0 : Nat} {now : Nat → Int32} (hn : now 298 = nI (n0 + 1)) (h : r ≤ n0) (h2 : n0 < 8) (hf : 2000 < fu) : f_X6_flowGoes fu now (nI r) = some (shl (299 + 7 * r) (299 + 7 * n0) 7 (upd now 298 (nI n0))) := by
  unfold f_X6_flowGoes
  rw [t298, hn, if_pos z298, if_pos z298, nI_pred, f_flowAt, bs, L18 pk_us h h2 (by omega)]
theorem L20 {fu : Nat} {K : Int32 → (Nat → Int32) → Option (Nat → Int32)} {r n0 n : Nat} {now : Nat → Int32} (hn : now 355 = nI n0) (h : r ≤ n0) (h2 : n0 < 6) (hf : 200 < n) : f_X6_saidGoes_L20 fu K n (nI (356 + 5 * r)) now = K (nI (356 + 5 * n0)) (shl (356 + 5 * r) (356 + 5 * n0) 5 now) := by
  refine loopU0 (L := f_X6_saidGoes_L20 fu K) (fun i => shl (356 + 5 * r) i 5 now) (N := 356 + 5 * n0) (356 + 5 * r) (funext fun k => (shl_out (by omega)).symm) (by omega) (by omega) ?_ ?_
  · intro n i hi hM
    rw [f_X6_saidGoes_L20, if_pos z355, t355, shl_out (k := 355) (by omega), hn, q356, q5, pk_mul, nI_add, if_neg (nI_ge hM (by omega)), nI_add, if_pos (zok_nI (by omega) (by decide)), if_pos (zok_nI (by omega) (by decide)), nI_clamp (by omega), nI_clamp (by omega), nI_1 i]
    refine congrArg _ (funext fun k => ?_)
    by_cases hk : k = i
    · rw [hk, pk_us, shl_out (by omega), shl_in (by omega) (by omega)]
    · rw [pk_un hk]
      by_cases h2 : 356 + 5 * r ≤ k ∧ k < i
      · rw [shl_in (by omega) (by omega), shl_in (by omega) (by omega)]
      · rw [shl_out (by omega), shl_out (by omega)]
  · intro n
    rw [f_X6_saidGoes_L20, if_pos z355, t355, shl_out (k := 355) (by omega), hn, q356, q5, pk_mul, nI_add, if_pos (nI_le (by omega) (by omega))]
theorem f_saidGoes {fu r n0 : Nat} {now : Nat → Int32} (hn : now 355 = nI (n0 + 1)) (h : r ≤ n0) (h2 : n0 < 6) (hf : 2000 < fu) : f_X6_saidGoes fu now (nI r) = some (shl (356 + 5 * r) (356 + 5 * n0) 5 (upd now 355 (nI n0))) := by
  unfold f_X6_saidGoes
  rw [t355, hn, if_pos z355, if_pos z355, nI_pred, q356, q5, pk_mul, nI_add, L20 pk_us h h2 (by omega)]
theorem neg1 : nI 0 - 1 < 0 := by decide
theorem tal (a b c : Int32) : a + 1 + (b - c) = a + (b + 1 - c) := by
  simp only [Int32.sub_eq_add_neg]
  rw [Int32.add_assoc, Int32.add_assoc, ← Int32.add_assoc 1, Int32.add_comm 1 b, Int32.add_assoc]
theorem Lflows {fu : Nat} {K1 : Int32 → Int32 → (Nat → Int32) → Option (Int32 × Int32 × (Nat → Int32))} {K2 : Int32 → (Nat → Int32) → Option (Int32 × Int32 × (Nat → Int32) × (Nat → Int32) × (Nat → Int32))} {tm : Int32} (hf : 2000 < fu) : ∀ (i n1 n2 n : Nat) (ff w : Nat → Int32), i < n1 → i < n2 → i ≤ n → FC ff w n → w 394 = tm → ∃ n' ff' w', f_X5_removeOver_L10 fu K1 5 tm 7 56 n1 (nI i - 1) (nI n) ff = K1 (nI 0 - 1) (nI n') ff' ∧ f_X6_ticks_L42 fu K2 n2 (nI i - 1) w = K2 (nI 0 - 1) w' ∧ FC ff' w' n' ∧ (∀ k, k < 298 ∨ 355 ≤ k → k ≠ 400 → w' k = w k) ∧ w' 400 = w 400 + (nI n - nI n') := by
  intro i
  induction i with
  | zero =>
    intro n1 n2 n ff w h1 h2 hn hF hw
    obtain ⟨n1, rfl⟩ : ∃ m, n1 = m + 1 := ⟨n1 - 1, by omega⟩
    obtain ⟨n2, rfl⟩ : ∃ m, n2 = m + 1 := ⟨n2 - 1, by omega⟩
    rw [f_X5_removeOver_L10, f_X6_ticks_L42, if_pos neg1, if_pos neg1]
    exact ⟨n, ff, w, rfl, rfl, hF, fun _ _ _ => rfl, by rw [Int32.sub_self, Int32.add_zero]⟩
  | succ i ih =>
    intro n1 n2 n ff w h1 h2 hn hF hw
    obtain ⟨n1, rfl⟩ : ∃ m, n1 = m + 1 := ⟨n1 - 1, by omega⟩
    obtain ⟨n2, rfl⟩ : ∃ m, n2 = m + 1 := ⟨n2 - 1, by omega⟩
    obtain ⟨n, rfl⟩ : ∃ m, n = m + 1 := ⟨n - 1, by omega⟩
    have hF0 := hF
    obtain ⟨g1, g2, g3, g4, g5⟩ := hF
    rw [nI_pred, f_X5_removeOver_L10, f_X6_ticks_L42, if_neg (nI_pos (by omega)), if_neg (nI_pos (by omega)), m1, q5, get7 (by omega) (by omega) g1, bs, f_flowAt, bs, nI_add, if_pos (zok_nI (by omega) (by decide)), if_pos z394, t394, hw, nI_clamp (by omega), show ff (i * 7 + 5) = w (299 + 7 * i + 5) from (g3 _ (by omega)).trans (congrArg w (by omega))]
    by_cases hlt : tm < w (299 + 7 * i + 5)
    · rw [if_pos hlt, if_pos hlt]
      exact ih n1 n2 (n + 1) ff w (by omega) (by omega) (by omega) hF0 hw
    · rw [if_neg hlt, if_neg hlt, rem7 (by omega) g1, bs, f_flowGoes g2 (by omega) (by omega) hf, bs, if_pos z400, if_pos z400, t400]
      obtain ⟨n', ff', w', e1, e2, e3, e4, e5⟩ := ih n1 n2 n (shl (7 * i) (7 * n) 7 ff) (upd (shl (299 + 7 * i) (299 + 7 * n) 7 (upd w 298 (nI n))) 400 (shl (299 + 7 * i) (299 + 7 * n) 7 (upd w 298 (nI n)) 400 + 1)) (by omega) (by omega) (by omega) (FC.w (FC.del hF0 (by omega)) (fun k h1 h2 => pk_un (by omega))) (by rw [pk_un (by omega), shl_out (by omega), pk_un (by omega)]; exact hw)
      refine ⟨n', ff', w', e1, e2, e3, fun k h1 h2 => ?_, ?_⟩
      · rw [e4 k h1 h2, pk_un h2, shl_out (by omega), pk_un (by omega)]
      · rw [e5, pk_us, shl_out (by omega), pk_un (by omega), nI_succ]
        exact tal _ _ _
theorem Lsaids {fu : Nat} {K1 : Int32 → Int32 → (Nat → Int32) → Option (Int32 × Int32 × (Nat → Int32))} {K2 : Int32 → (Nat → Int32) → Option (Int32 × Int32 × (Nat → Int32) × (Nat → Int32) × (Nat → Int32))} {tm : Int32} (hf : 2000 < fu) : ∀ (i n1 n2 n : Nat) (ff w : Nat → Int32), i < n1 → i < n2 → i ≤ n → AC ff w n → w 394 = tm → ∃ n' ff' w', f_X5_removeOver_L10 fu K1 4 tm 5 30 n1 (nI i - 1) (nI n) ff = K1 (nI 0 - 1) (nI n') ff' ∧ f_X6_ticks_L103 fu K2 n2 (nI i - 1) w = K2 (nI 0 - 1) w' ∧ AC ff' w' n' ∧ (∀ k, k < 355 ∨ 386 ≤ k → w' k = w k) := by
  intro i
  induction i with
  | zero =>
    intro n1 n2 n ff w h1 h2 hn hF hw
    obtain ⟨n1, rfl⟩ : ∃ m, n1 = m + 1 := ⟨n1 - 1, by omega⟩
    obtain ⟨n2, rfl⟩ : ∃ m, n2 = m + 1 := ⟨n2 - 1, by omega⟩
    rw [f_X5_removeOver_L10, f_X6_ticks_L103, if_pos neg1, if_pos neg1]
    exact ⟨n, ff, w, rfl, rfl, hF, fun _ _ => rfl⟩
  | succ i ih =>
    intro n1 n2 n ff w h1 h2 hn hF hw
    obtain ⟨n1, rfl⟩ : ∃ m, n1 = m + 1 := ⟨n1 - 1, by omega⟩
    obtain ⟨n2, rfl⟩ : ∃ m, n2 = m + 1 := ⟨n2 - 1, by omega⟩
    obtain ⟨n, rfl⟩ : ∃ m, n = m + 1 := ⟨n - 1, by omega⟩
    have hF0 := hF
    obtain ⟨g1, g2, g3⟩ := hF
    rw [nI_pred, f_X5_removeOver_L10, f_X6_ticks_L103, if_neg (nI_pos (by omega)), if_neg (nI_pos (by omega)), m1, q4, get5 (by omega) (by omega) g1, bs, show (356 : Int32) + 5 * nI i + nI 4 = nI (356 + 5 * i + 4) from ix3 356 5 i 4, if_pos (zok_nI (by omega) (by decide)), if_pos z394, t394, hw, nI_clamp (by omega), show ff (i * 5 + 4) = w (356 + 5 * i + 4) from (g3 _ (by omega)).trans (congrArg w (by omega))]
    by_cases hlt : tm < w (356 + 5 * i + 4)
    · rw [if_pos hlt, if_pos hlt]
      exact ih n1 n2 (n + 1) ff w (by omega) (by omega) (by omega) hF0 hw
    · rw [if_neg hlt, if_neg hlt, rem5 (by omega) g1, bs, f_saidGoes g2 (by omega) (by omega) hf, bs]
      obtain ⟨n', ff', w', e1, e2, e3, e4⟩ := ih n1 n2 n (shl (5 * i) (5 * n) 5 ff) (shl (356 + 5 * i) (356 + 5 * n) 5 (upd w 355 (nI n))) (by omega) (by omega) (by omega) (AC.del hF0 (by omega)) (by rw [shl_out (by omega), pk_un (by omega)]; exact hw)
      refine ⟨n', ff', w', e1, e2, e3, fun k h1 => ?_⟩
      rw [e4 k h1, shl_out (by omega), pk_un (by omega)]
section P6
variable {fu : Nat} {b0 b1 b2 yhs yhn states : Int32} {estm : Int32} {eszo : Nat → Int32} {esrs : Int32} {esrf : Nat → Int32} {esks : Int32} {eskf : Nat → Int32} {esfs : Int32} {esff : Nat → Int32} {esas : Int32} {esaf espf estf : Nat → Int32} {R : Nat → Nat → Nat → Int32} {now past refused : Nat → Int32}
variable {txn bytes : Int32} {txbf text : Nat → Int32}
theorem s_type (hc : CR b0 b1 b2 refused) (ht : TR txn txbf bytes text) (a1 : Int32) : ∃ r c0 c1 c2 tn tb by_ te re, f_X5_type b0 b1 b2 txn txbf a1 = some (r, c0, c1, c2, tn, tb) ∧ f_X6_type bytes text refused a1 = some (r, by_, te, re) ∧ TR tn tb by_ te ∧ CR c0 c1 c2 re := by
  have ht0 := ht
  obtain ⟨n, h1, rfl, rfl, h2⟩ := ht
  unfold f_X5_type f_X6_type f_X4_append
  simp only [f_within, f_in, bs, f_failsB, f_bad, f_failsF, f_full, f_X4_length]
  cases hz : zin a1 0 127 with
  | false =>
    rw [iteF, iteF]
    exact ⟨_, _, _, _, _, _, _, _, _, rfl, rfl, ht0, hc.bad⟩
  | true =>
    obtain ⟨b, hb, rfl⟩ := zin_nat (n := 127) (by decide) hz
    rw [iteT, iteT]
    by_cases h : n = 120
    · rw [h, if_neg (show ¬ nI 120 < 120 by decide), if_pos (show nI 120 = 120 from rfl)]
      rw [h] at ht0
      exact ⟨_, _, _, _, _, _, _, _, _, rfl, rfl, ht0, hc.full⟩
    · rw [if_pos (show nI n < 120 from nI_lt (b := 120) (by omega) (by decide)), if_neg (show ¬ nI n = 120 by rw [q120, nI_eq (by omega) (by decide)]; exact h), show (119 : Int32) = nI 119 from rfl, zin_nI (by omega) (by decide), decide_eq_true (show n ≤ 119 by omega), iteT, if_pos (zok_nI (by omega) (by decide)), nI_clamp (by omega), nI_1, bs, if_pos (zok_nI (by omega) (by decide))]
      refine ⟨_, _, _, _, _, _, _, _, _, rfl, rfl, ⟨n + 1, by omega, rfl, rfl, fun k hk => ?_⟩, hc⟩
      by_cases hkn : k = n
      · subst hkn
        exact ⟨by show upd txbf k (nI b) k = upd text k (nI b) k; rw [pk_us, pk_us], b, by omega, pk_us⟩
      · obtain ⟨e1, b', e2, e3⟩ := h2 k (by omega)
        exact ⟨by show upd txbf n (nI b) k = upd text n (nI b) k; rw [pk_un hkn, pk_un hkn]; exact e1, b', e2, by rw [pk_un hkn]; exact e3⟩
theorem s_clear (ht : TR txn txbf bytes text) : ∃ r tn by_, f_X5_clear txn = some (r, tn) ∧ f_X6_clear bytes = some (r, by_) ∧ TR tn txbf by_ text := by
  obtain ⟨n, h1, rfl, rfl, h2⟩ := ht
  exact ⟨_, _, _, rfl, rfl, 0, by omega, rfl, rfl, fun k hk => absurd hk (by omega)⟩
theorem s_told (hc : CR b0 b1 b2 refused) (ht : TR txn txbf bytes text) (hh : HR R yhs yhn states past) (a1 : Int32) : ∃ r c0 c1 c2 re, f_X5_told b0 b1 b2 txn yhs a1 = some (r, c0, c1, c2) ∧ f_X6_told states bytes refused a1 = some (r, re) ∧ CR c0 c1 c2 re := by
  obtain ⟨n, h1, rfl, rfl, h2⟩ := ht
  obtain ⟨h, x, -, -, rfl, -, rfl, -⟩ := hh
  have hc0 := hc
  obtain ⟨rfl, rfl, rfl⟩ := hc
  unfold f_X5_told f_X6_told f_X6_toldOf f_X4_length f_X0_size
  simp only [f_in, bs, f_failsB, f_bad]
  cases hz : zin a1 0 4 with
  | false =>
    rw [iteF, if_neg (by rintro rfl; exact absurd hz (by decide)), if_neg (by rintro rfl; exact absurd hz (by decide)), if_neg (by rintro rfl; exact absurd hz (by decide)), if_neg (by rintro rfl; exact absurd hz (by decide)), if_neg (by rintro rfl; exact absurd hz (by decide))]
    exact ⟨_, _, _, _, _, rfl, rfl, hc0.bad⟩
  | true =>
    obtain ⟨b, hb, rfl⟩ := zin_nat (n := 4) (by decide) hz
    have : b = 0 ∨ b = 1 ∨ b = 2 ∨ b = 3 ∨ b = 4 := by omega
    rcases this with rfl | rfl | rfl | rfl | rfl <;> exact ⟨_, _, _, _, _, rfl, rfl, hc0⟩
theorem s_flow (hs : SR (pk12 estm eszo esrs esrf esks eskf esfs esff esas esaf espf estf) now) (hc : CR b0 b1 b2 refused) (a1 a2 : Int32) : ∃ r c0 c1 c2 re, f_X5_flow b0 b1 b2 esfs esff a1 a2 = some (r, c0, c1, c2) ∧ f_X6_flow now refused a1 a2 = some (r, re) ∧ CR c0 c1 c2 re := by
  obtain ⟨-, -, -, ⟨n, p1, p2, p3, p4, p5, p6⟩, -⟩ := hs
  obtain rfl : esfs = nI n := p2
  unfold f_X5_flow f_X6_flow
  simp only [f_within, f_in, bs, f_failsB, f_bad, f_isFlowC, if_pos z298, t298, p3]
  by_cases h0 : a1 < 0
  · rw [if_pos h0, if_pos h0]
    exact ⟨_, _, _, _, _, rfl, rfl, hc.bad⟩
  · rw [if_neg h0, if_neg h0]
    obtain ⟨i, hi, rfl⟩ := nI_of h0
    cases hz : zin a2 0 6 with
    | false =>
      rw [iteF, iteF]
      exact ⟨_, _, _, _, _, rfl, rfl, hc.bad⟩
    | true =>
      obtain ⟨c, hcc, rfl⟩ := zin_nat (n := 6) (by decide) hz
      rw [iteT, iteT]
      by_cases hin : i < n
      · rw [zin_m1t (by omega) hin, iteT, if_neg (nI_ge hin (by omega)), get7 hin (by omega) p1, bs, f_flowAt, bs, nI_add, if_pos (zok_nI (by omega) (by decide)), nI_clamp (by omega), show esff (i * 7 + c) = now (299 + 7 * i + c) from (p4 _ (by omega)).trans (congrArg now (by omega))]
        exact ⟨_, _, _, _, _, rfl, rfl, hc⟩
      · have hzf : zin (nI i) 0 (nI n - 1) = false := by
          cases hq : zin (nI i) 0 (nI n - 1) with
          | false => rfl
          | true =>
            obtain ⟨r, hr, e⟩ := zin_m1 (by omega) hq
            rw [nI_eq hi (by omega)] at e
            omega
        rw [hzf, iteF, if_pos (nI_le (by omega) hi)]
        exact ⟨_, _, _, _, _, rfl, rfl, hc⟩
theorem f_countOf (hs : SR (pk12 estm eszo esrs esrf esks eskf esfs esff esas esaf espf estf) now) {c : Nat} (hc : c ≤ 9) : ∃ r, f_X6_countOf now (nI c) = some r ∧ f_X5_count b0 b1 b2 estm esrs esfs esas estf (nI c) = some (r, b0, b1, b2) := by
  obtain ⟨-, ⟨nr, -, r2, r3, -⟩, -, ⟨nf, -, p2, p3, -⟩, ⟨na, -, s2, s3, -⟩, -, t1, t2⟩ := hs
  obtain rfl : esfs = nI nf := p2
  obtain rfl : esrs = nI nr := r2
  obtain rfl : esas = nI na := s2
  obtain rfl : estm = now 394 := t1
  unfold f_X5_count f_X6_countOf f_X3_size
  simp only [f_within, bs, if_pos z298, t298, if_pos z355, t355, if_pos z394, t394, p3, r3, s3, if_pos (show zok 32 401 = true by decide), tn32]
  rw [show zin (nI c) 0 9 = true by rw [q9, zin_nI (by omega) (by omega)]; exact decide_eq_true hc, iteT]
  have : c = 0 ∨ c = 1 ∨ c = 2 ∨ c = 3 ∨ 4 ≤ c := by omega
  rcases this with rfl | rfl | rfl | rfl | h4
  · exact ⟨_, rfl, rfl⟩
  · exact ⟨_, rfl, rfl⟩
  · exact ⟨_, rfl, rfl⟩
  · exact ⟨_, rfl, rfl⟩
  · have e0 : ¬ nI c = 0 := by rw [q0, nI_eq (by omega) (by omega)]; omega
    have e1 : ¬ nI c = 1 := by rw [q1, nI_eq (by omega) (by omega)]; omega
    have e2 : ¬ nI c = 2 := by rw [q2, nI_eq (by omega) (by omega)]; omega
    have e3 : ¬ nI c = 3 := by rw [q3, nI_eq (by omega) (by omega)]; omega
    rw [if_neg e0, if_neg e1, if_neg e2, if_neg e3, if_neg e0, if_neg e1, if_neg e2, if_neg e3, q4, q395, nI_add, pk_sub (by omega), pk_sub h4, if_pos (zok_nI (by omega) (by decide)), if_pos (zok_nI (by omega) (by decide)), nI_clamp (by omega), nI_clamp (by omega), show estf (c - 4) = now (395 + c - 4) from (t2 _ (by omega)).trans (congrArg now (by omega))]
    exact ⟨_, rfl, rfl⟩
theorem s_count (hs : SR (pk12 estm eszo esrs esrf esks eskf esfs esff esas esaf espf estf) now) (hc : CR b0 b1 b2 refused) (a1 : Int32) : ∃ r c0 c1 c2 re, f_X5_count b0 b1 b2 estm esrs esfs esas estf a1 = some (r, c0, c1, c2) ∧ f_X6_count now refused a1 = some (r, re) ∧ CR c0 c1 c2 re := by
  cases hz : zin a1 0 9 with
  | false =>
    unfold f_X5_count f_X6_count
    rw [f_within, f_in, bs, bs, hz, iteF, iteF, f_failsB, f_bad]
    exact ⟨_, _, _, _, _, rfl, rfl, hc.bad⟩
  | true =>
    obtain ⟨c, hcc, rfl⟩ := zin_nat (n := 9) (by decide) hz
    obtain ⟨r, e1, e2⟩ := f_countOf (b0 := b0) (b1 := b1) (b2 := b2) hs hcc
    unfold f_X6_count
    rw [f_in, bs, hz, iteT, e1, e2]
    exact ⟨_, _, _, _, _, rfl, rfl, hc⟩
theorem s_ticks (hf : 2000 < fu) (hs : SR (pk12 estm eszo esrs esrf esks eskf esfs esff esas esaf espf estf) now) (hh : HR R yhs yhn states past) (hc : CR b0 b1 b2 refused) (a1 : Int32) : ∃ r c0 c1 c2 ys yn tm fs ff as af tf R' st nw pa re, f_X5_ticks fu b0 b1 b2 yhs yhn estm eszo esrs esrf esks eskf esfs esff esas esaf espf estf R a1 = some (r, c0, c1, c2, ys, yn, tm, fs, ff, as, af, tf, R') ∧ f_X6_ticks fu states now past refused a1 = some (r, st, nw, pa, re) ∧ SR (pk12 tm eszo esrs esrf esks eskf fs ff as af espf tf) nw ∧ HR R' ys yn st pa ∧ CR c0 c1 c2 re := by
  obtain ⟨ys, yn, R', st, pa, e1, e2, e3⟩ := rem_step hf hs hh
  have hs0 := hs
  obtain ⟨p0, ⟨nr, h1⟩, ⟨nk, h2⟩, ⟨nf, f1, f2, f3, f4, f5, f6⟩, ⟨na, a1', a2, a3, a4⟩, t0, t1, t2⟩ := hs
  obtain rfl : esfs = nI nf := f2
  obtain rfl : esas = nI na := a2
  obtain rfl : estm = now 394 := t1
  unfold f_X5_ticks f_X6_ticks f_X2_raise
  simp only [f_within, f_in, bs, f_failsB, f_bad]
  cases hz : zin a1 1 100 with
  | false =>
    rw [iteF, iteF]
    exact ⟨_, _, _, _, _, _, _, _, _, _, _, _, _, _, _, _, _, rfl, rfl, hs0, hh, hc.bad⟩
  | true =>
    rw [iteT, iteT, e1, e2, bs, bs, if_pos z394, if_pos z394, if_pos z298, t394, t298, pk_un (show 298 ≠ 394 by omega), f3]
    unfold f_X5_removeOver
    simp only [f_X3_size, bs]
    obtain ⟨n', ff', w', l1, l2, l3, l4, l5⟩ := Lflows (fu := fu) (K1 := fun (x1 : Int32) (x2 : Int32) (x3 : Nat → Int32) => some (nI nf - x2, x2, x3)) (K2 := fun (x1 : Int32) (x2 : Nat → Int32) => if zok 355 401 then (f_X6_ticks_L103 fu (fun (x3 : Int32) (x4 : Nat → Int32) => if zok 298 401 then (some (x4 298, st, x4, pa, refused)) else none) fu ((x2 (Int32.toNatClampNeg 355)) - 1) x2) else none) (tm := now 394 + a1) hf nf fu fu nf esff (upd now 394 (now 394 + a1)) (by omega) (by omega) (Nat.le_refl _) (FC.w ⟨f1, f3, f4, f5, f6⟩ (fun k h1 h2 => pk_un (by omega))) pk_us
    have w355 : w' 355 = nI na := by rw [l4 355 (by omega) (by omega), pk_un (by omega)]; exact a3
    obtain ⟨m', af', w2, s1, s2, s3, s4⟩ := Lsaids (fu := fu) (K1 := fun (x1 : Int32) (x2 : Int32) (x3 : Nat → Int32) => some (nI na - x2, x2, x3)) (K2 := fun (x3 : Int32) (x4 : Nat → Int32) => if zok 298 401 then (some (x4 298, st, x4, pa, refused)) else none) (tm := now 394 + a1) hf na fu fu na esaf w' (by omega) (by omega) (Nat.le_refl _) ⟨a1', w355, fun k hk => by rw [l4 _ (by omega) (by omega), pk_un (by omega)]; exact a4 k hk⟩ (by rw [l4 394 (by omega) (by omega), pk_us])
    rw [l1, l2, bs, s1, if_pos z355, t355, w355, s2, if_pos z298, show zin 5 0 5 = true by decide, iteT, if_pos (show zok 5 6 = true by decide), if_pos (show zok 5 6 = true by decide), bs, bs, show Int32.toNatClampNeg 5 = 5 by decide]
    have hw298 : w2 298 = nI n' := by rw [s4 298 (by omega)]; exact l3.2.1
    rw [hw298]
    have ho : ∀ k, k < 298 ∨ 386 ≤ k → k ≠ 394 → k ≠ 400 → w2 k = now k := fun k h1 h2 h3 => by rw [s4 k (by omega), l4 k (by omega) h3, pk_un h2]
    refine ⟨_, _, _, _, _, _, _, _, _, _, _, _, _, _, _, _, _, rfl, rfl, ?_, e3, hc⟩
    obtain ⟨k1, k2, k3, k4, k5⟩ := FC.w l3 (fun k h1 h2 => s4 k (by omega))
    obtain ⟨j1, j2, j3⟩ := s3
    refine ⟨ZnR.w p0 (fun k hk => ho k (by omega) (by omega) (by omega)), ⟨nr, RuR.w h1 (fun k h1 h2 => ho k (by omega) (by omega) (by omega))⟩, ⟨nk, KeR.w h2 (fun k h1 h2 => ho k (by omega) (by omega) (by omega))⟩, ⟨n', k1, rfl, k2, k3, k4, k5⟩, ⟨m', j1, rfl, j2, j3⟩, fun g hg => ?_, ?_, fun t ht => ?_⟩
    · rw [ho _ (by omega) (by omega) (by omega)]
      exact t0 g hg
    · show now 394 + a1 = w2 394
      rw [s4 394 (by omega), l4 394 (by omega) (by omega), pk_us]
    · show upd estf 5 (estf 5 + (nI nf - nI n')) t = w2 (395 + t)
      by_cases h5 : t = 5
      · subst h5
        rw [pk_us, s4 400 (by omega), l5, pk_un (by omega), show estf 5 = now 400 from t2 5 (by omega)]
      · rw [pk_un h5, ho _ (by omega) (by omega) (by omega)]
        exact t2 t ht
end P6
