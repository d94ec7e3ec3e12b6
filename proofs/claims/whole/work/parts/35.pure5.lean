def msrc (r t j : Nat) : Nat := if j = t then r else if r ≤ j ∧ j < t then j + 1 else if t < j ∧ j ≤ r then j - 1 else j
theorem msrc_t {r t j : Nat} (h : j = t) : msrc r t j = r := if_pos h
theorem msrc_u {r t j : Nat} (h : r ≤ j) (h2 : j < t) : msrc r t j = j + 1 := by
  unfold msrc; rw [if_neg (by omega), if_pos ⟨h, h2⟩]
theorem msrc_d {r t j : Nat} (h : t < j) (h2 : j ≤ r) : msrc r t j = j - 1 := by
  unfold msrc; rw [if_neg (by omega), if_neg (by omega), if_pos ⟨h, h2⟩]
theorem msrc_o {r t j : Nat} (h : (j < r ∧ j < t) ∨ (r < j ∧ t < j)) : msrc r t j = j := by
  unfold msrc; rw [if_neg (by omega), if_neg (by omega), if_neg (by omega)]
theorem msrc_lt {r t j n : Nat} (h1 : r < n) (h2 : t < n) (h3 : j < n) : msrc r t j < n := by
  rcases Nat.lt_trichotomy j t with h | h | h
  · by_cases h4 : r ≤ j
    · rw [msrc_u h4 h]; omega
    · rw [msrc_o (by omega)]; exact h3
  · rw [msrc_t h]; exact h1
  · by_cases h4 : j ≤ r
    · rw [msrc_d h h4]; omega
    · rw [msrc_o (by omega)]; exact h3
def mv (r t : Nat) (w : Nat → Int32) : Nat → Int32 := fun k => w (11 * msrc r t (k / 11) + k % 11)
theorem mv_self {r : Nat} {w : Nat → Int32} : mv r r w = w := by
  funext k
  unfold mv
  refine congrArg w ?_
  rcases Nat.lt_trichotomy (k / 11) r with h | h | h
  · rw [msrc_o (by omega)]; omega
  · rw [msrc_t h]; omega
  · rw [msrc_o (by omega)]; omega
def swp (i j : Nat) (w : Nat → Int32) : Nat → Int32 := fun k => if k / 11 = i then w (11 * j + k % 11) else if k / 11 = j then w (11 * i + k % 11) else w k
theorem swp_up {r k : Nat} {w : Nat → Int32} (h : r ≤ k) : swp k (k + 1) (mv r k w) = mv r (k + 1) w := by
  funext x
  unfold swp mv
  by_cases h1 : x / 11 = k
  · rw [if_pos h1, show (11 * (k + 1) + x % 11) / 11 = k + 1 by omega, show (11 * (k + 1) + x % 11) % 11 = x % 11 by omega, h1, msrc_o (by omega), msrc_u h (by omega)]
  · rw [if_neg h1]
    by_cases h2 : x / 11 = k + 1
    · rw [if_pos h2, show (11 * k + x % 11) / 11 = k by omega, show (11 * k + x % 11) % 11 = x % 11 by omega, h2, msrc_t rfl, msrc_t rfl]
    · rw [if_neg h2]
      by_cases h3 : r ≤ x / 11 ∧ x / 11 < k
      · rw [msrc_u h3.1 h3.2, msrc_u h3.1 (by omega)]
      · rw [msrc_o (by omega), msrc_o (by omega)]
theorem swp_dn {r k : Nat} {w : Nat → Int32} (h : k + 1 ≤ r) : swp (k + 1) k (mv r (k + 1) w) = mv r k w := by
  funext x
  unfold swp mv
  by_cases h1 : x / 11 = k + 1
  · rw [if_pos h1, show (11 * k + x % 11) / 11 = k by omega, show (11 * k + x % 11) % 11 = x % 11 by omega, h1, msrc_o (by omega), msrc_d (by omega) h]
    exact congrArg w (by omega)
  · rw [if_neg h1]
    by_cases h2 : x / 11 = k
    · rw [if_pos h2, show (11 * (k + 1) + x % 11) / 11 = k + 1 by omega, show (11 * (k + 1) + x % 11) % 11 = x % 11 by omega, h2, msrc_t rfl, msrc_t rfl]
    · rw [if_neg h2]
      by_cases h3 : k + 1 < x / 11 ∧ x / 11 ≤ r
      · rw [msrc_d h3.1 h3.2, msrc_d (by omega) h3.2]
      · rw [msrc_o (by omega), msrc_o (by omega)]
theorem f_exchange {fu n i j : Nat} {tf : Nat → Int32} (hi : i < n) (hj : j < n) (hij : i ≠ j) (hn : n ≤ 12) (hf : 2000 < fu) : f_X3_exchange fu 11 (nI n) 132 tf (nI i) (nI j) = some (swp i j tf) := by
  unfold f_X3_exchange
  refine loopU0 (L := f_X3_exchange_L2 fu _ (nI i) (nI j) 11 (nI n) 132) (fun c => fun k => if k % 11 < c then swp i j tf k else tf k) (N := 11) 0 (funext fun k => (if_neg (by omega)).symm) (by omega) (by omega) ?_ ?_
  · intro m c _ hc
    rw [f_X3_exchange_L2, if_neg (show ¬ (11 : Int32) ≤ nI c by rw [q11]; exact nI_ge (by omega) (by decide)), get11 hi hc hn, get11 hj hc hn, bs, bs, put11 hi hc hn, bs, put11 hj hc hn, bs, nI_1 c, if_neg (by omega), if_neg (by omega)]
    refine congrArg _ (funext fun k => ?_)
    unfold swp
    by_cases h1 : k = j * 11 + c
    · rw [h1, pk_us, if_pos (by omega), if_neg (by omega), if_pos (by omega)]
      exact congrArg tf (by omega)
    · rw [pk_un h1]
      by_cases h2 : k = i * 11 + c
      · rw [h2, pk_us, if_pos (by omega), if_pos (by omega)]
        exact congrArg tf (by omega)
      · rw [pk_un h2]
        by_cases h3 : k % 11 < c
        · rw [if_pos h3, if_pos (show k % 11 < c + 1 by omega)]
        · rw [if_neg h3]
          by_cases h4 : k % 11 < c + 1
          · rw [if_pos h4, if_neg (by omega), if_neg (by omega)]
          · rw [if_neg h4]
  · intro m
    rw [f_X3_exchange_L2, if_pos (by decide)]
    exact congrArg some (funext fun k => if_pos (by omega))
theorem L36 {fu n r t m0 : Nat} {tf : Nat → Int32} {K : Int32 → (Nat → Int32) → Option (Int32 × Int32 × Int32 × Int32 × Int32 × Int32 × (Nat → Int32) × (Nat → Nat → Nat → Int32))} (h : r ≤ t) (ht : t < n) (hn : n ≤ 12) (hf : 2000 < fu) (hm : 100 < m0) : f_X5_moves_L36 fu K (nI t) (nI n) m0 (nI r) tf = K (nI t) (mv r t tf) := by
  refine loopU0 (L := f_X5_moves_L36 fu K (nI t) (nI n)) (fun k => mv r k tf) (N := t) r mv_self.symm h (by omega) ?_ ?_
  · intro m k hk hkt
    rw [f_X5_moves_L36, if_neg (nI_ge hkt (by omega)), nI_1 k, f_exchange (by omega) (by omega) (by omega) hn hf, bs, swp_up hk]
  · intro m
    rw [f_X5_moves_L36, if_pos (nI_le (Nat.le_refl _) (by omega))]
theorem L63 {fu n r t : Nat} {tf : Nat → Int32} {K : Int32 → (Nat → Int32) → Option (Int32 × Int32 × Int32 × Int32 × Int32 × Int32 × (Nat → Int32) × (Nat → Nat → Nat → Int32))} (hr : r < n) (hn : n ≤ 12) (hf : 2000 < fu) : ∀ (m v m0 : Nat), t + m = v → v ≤ r → m < m0 → f_X5_moves_L63 fu K (nI t) (nI n) m0 (nI v) (mv r v tf) = K (nI t) (mv r t tf) := by
  intro m
  induction m with
  | zero =>
    intro v m0 hv hvr hm
    obtain ⟨m0, rfl⟩ : ∃ m, m0 = m + 1 := ⟨m0 - 1, by omega⟩
    obtain rfl : v = t := by omega
    rw [f_X5_moves_L63, if_pos (nI_le (Nat.le_refl _) (by omega))]
  | succ m ih =>
    intro v m0 hv hvr hm
    obtain ⟨m0, rfl⟩ : ∃ m, m0 = m + 1 := ⟨m0 - 1, by omega⟩
    obtain ⟨v, rfl⟩ : ∃ m, v = m + 1 := ⟨v - 1, by omega⟩
    rw [f_X5_moves_L63, if_neg (nI_ge (by omega) (by omega)), m1, nI_pred, f_exchange (by omega) (by omega) (by omega) hn hf, bs, swp_dn hvr]
    exact ih v m0 (by omega) (by omega) (by omega)
theorem L27 {fu r n0 : Nat} {now held : Nat → Int32} {K : Int32 → (Nat → Int32) → Option (Int32 × Int32 × (Nat → Int32) × (Nat → Int32) × (Nat → Int32) × (Nat → Int32))} (hr : r < 12) (hm : 100 < n0) : f_X6_moves_L27 fu K (nI r) now n0 0 held = K (nI 11) (fun k => if k < 11 then now (33 + 11 * r + k) else held k) := by
  refine loopU0 (L := f_X6_moves_L27 fu K (nI r) now) (fun i => fun k => if k < i then now (33 + 11 * r + k) else held k) (N := 11) 0 (funext fun k => (if_neg (by omega)).symm) (by omega) (by omega) ?_ ?_
  · intro m i _ hi
    rw [f_X6_moves_L27, if_neg (show ¬ (11 : Int32) ≤ nI i by rw [q11]; exact nI_ge (by omega) (by decide)), q33, q11, ix3, if_pos (zok_nI (by omega) (by decide)), if_pos (zok_nI (by omega) (by decide)), nI_clamp (by omega), nI_clamp (by omega), nI_1 i]
    refine congrArg _ (funext fun k => ?_)
    by_cases hk : k = i
    · rw [hk, pk_us, if_pos (by omega)]
    · rw [pk_un hk]
      by_cases h2 : k < i
      · rw [if_pos h2, if_pos (by omega)]
      · rw [if_neg h2, if_neg (by omega)]
  · intro m
    rw [f_X6_moves_L27, if_pos (by decide)]
def rowW (b : Nat) (hd w : Nat → Int32) : Nat → Int32 := fun k => if b ≤ k ∧ k < b + 11 then hd (k - b) else w k
theorem rowW_in {b k : Nat} {hd w : Nat → Int32} (h1 : b ≤ k) (h2 : k < b + 11) : rowW b hd w k = hd (k - b) := if_pos ⟨h1, h2⟩
theorem rowW_out {b k : Nat} {hd w : Nat → Int32} (h1 : k < b ∨ b + 11 ≤ k) : rowW b hd w k = w k := if_neg (by omega)
theorem L71 {fu r n0 : Nat} {now held : Nat → Int32} {K : Int32 → (Nat → Int32) → Option (Int32 × Int32 × (Nat → Int32) × (Nat → Int32) × (Nat → Int32) × (Nat → Int32))} (hr : r < 12) (hm : 100 < n0) : f_X6_moves_L71 fu K (nI r) held n0 0 now = K (nI 11) (rowW (33 + 11 * r) held now) := by
  refine loopU0 (L := f_X6_moves_L71 fu K (nI r) held) (fun i => fun k => if 33 + 11 * r ≤ k ∧ k < 33 + 11 * r + i then held (k - (33 + 11 * r)) else now k) (N := 11) 0 (funext fun k => (if_neg (by omega)).symm) (by omega) (by omega) ?_ ?_
  · intro m i _ hi
    rw [f_X6_moves_L71, if_neg (show ¬ (11 : Int32) ≤ nI i by rw [q11]; exact nI_ge (by omega) (by decide)), q33, q11, ix3, if_pos (zok_nI (by omega) (by decide)), if_pos (zok_nI (by omega) (by decide)), nI_clamp (by omega), nI_clamp (by omega), nI_1 i]
    refine congrArg _ (funext fun k => ?_)
    by_cases hk : k = 33 + 11 * r + i
    · rw [hk, pk_us, if_pos (by omega)]
      exact congrArg held (by omega)
    · rw [pk_un hk]
      by_cases h2 : 33 + 11 * r ≤ k ∧ k < 33 + 11 * r + i
      · rw [if_pos h2, if_pos (by omega)]
      · rw [if_neg h2, if_neg (by omega)]
  · intro m
    rw [f_X6_moves_L71, if_pos (by decide)]
    rfl
section P5
variable {fu : Nat} {b0 b1 b2 yhs yhn states : Int32} {estm : Int32} {eszo : Nat → Int32} {esrs : Int32} {esrf : Nat → Int32} {esks : Int32} {eskf : Nat → Int32} {esfs : Int32} {esff : Nat → Int32} {esas : Int32} {esaf espf estf : Nat → Int32} {R : Nat → Nat → Nat → Int32} {now past refused : Nat → Int32}
theorem s_moves {held : Nat → Int32} (hf : 2000 < fu) (hs : SR (pk12 estm eszo esrs esrf esks eskf esfs esff esas esaf espf estf) now) (hh : HR R yhs yhn states past) (hc : CR b0 b1 b2 refused) (a1 a2 : Int32) : ∃ r c0 c1 c2 ys yn rf R' st nw pa re hd, f_X5_moves fu b0 b1 b2 yhs yhn estm eszo esrs esrf esks eskf esfs esff esas esaf espf estf R a1 a2 = some (r, c0, c1, c2, ys, yn, rf, R') ∧ f_X6_moves fu states now past refused held a1 a2 = some (r, st, nw, pa, re, hd) ∧ SR (pk12 estm eszo esrs rf esks eskf esfs esff esas esaf espf estf) nw ∧ HR R' ys yn st pa ∧ CR c0 c1 c2 re := by
  obtain ⟨ys, yn, R', st, pa, e1, e2, e3⟩ := rem_step hf hs hh
  have hs0 := hs
  obtain ⟨p0, ⟨n, p1, p2, p3, p4, p5⟩, ⟨nk, h2⟩, ⟨nf, h3⟩, ⟨na, h4⟩, h5⟩ := hs
  obtain rfl : esrs = nI n := p2
  unfold f_X5_moves f_X6_moves
  simp only [f_isRuleC, f_isRuleM p3, bs, f_failsB, f_bad]
  cases hz1 : zin a1 0 (nI n - 1) with
  | false =>
    rw [iteF, iteF]
    exact ⟨_, _, _, _, _, _, _, _, _, _, _, _, _, rfl, rfl, hs0, hh, hc.bad⟩
  | true =>
    rw [iteT, iteT]
    cases hz2 : zin a2 0 (nI n - 1) with
    | false =>
      rw [iteF, iteF]
      exact ⟨_, _, _, _, _, _, _, _, _, _, _, _, _, rfl, rfl, hs0, hh, hc.bad⟩
    | true =>
      obtain ⟨r, hr, rfl⟩ := zin_m1 (by omega) hz1
      obtain ⟨t, ht, rfl⟩ := zin_m1 (by omega) hz2
      obtain ⟨n, rfl⟩ : ∃ m, n = m + 1 := ⟨n - 1, by omega⟩
      have hcl : ∀ (K : Int32 → (Nat → Int32) → Option (Int32 × Int32 × Int32 × Int32 × Int32 × Int32 × (Nat → Int32) × (Nat → Nat → Nat → Int32))) (K2 : Int32 → (Nat → Int32) → Option (Int32 × Int32 × Int32 × Int32 × Int32 × Int32 × (Nat → Int32) × (Nat → Nat → Nat → Int32))), (∀ v w, K v w = f_X5_moves_L63 fu K2 (nI t) (nI (n + 1)) fu (nI r) w) → f_X5_moves_L36 fu K (nI t) (nI (n + 1)) fu (nI r) esrf = K2 (if r ≤ t then nI r else nI t) (mv r t esrf) := by
        intro K K2 hK
        by_cases hrt : r ≤ t
        · rw [if_pos hrt, L36 hrt ht p1 hf (by omega), hK]
          obtain ⟨fu, rfl⟩ : ∃ m, fu = m + 1 := ⟨fu - 1, by omega⟩
          rw [f_X5_moves_L63, if_pos (nI_le hrt (by omega))]
        · rw [if_neg hrt]
          have e : f_X5_moves_L36 fu K (nI t) (nI (n + 1)) fu (nI r) esrf = K (nI r) esrf := by
            obtain ⟨fu, rfl⟩ : ∃ m, fu = m + 1 := ⟨fu - 1, by omega⟩
            rw [f_X5_moves_L36, if_pos (nI_le (by omega) (by omega))]
          rw [e, hK]
          have := L63 (K := K2) (tf := esrf) (t := t) hr p1 hf (r - t) r fu (by omega) (by omega) (by omega)
          rw [mv_self] at this
          exact this
      rw [iteT, iteT, e1, e2, bs, bs, hcl _ _ (fun v w => rfl), L27 (by omega) (by omega), f_closesUp p3 (by omega) (by omega) hf, bs, f_makesRoom (n0 := n) (by rw [shl_out (by omega), pk_us]) (by omega) (by omega) hf, bs, L71 (by omega) (by omega)]
      generalize hW : rowW (33 + 11 * t) (fun k => if k < 11 then now (33 + 11 * r + k) else held k) (upd (shr (33 + 11 * (t + 1)) (33 + 11 * (n + 1)) 11 (shl (33 + 11 * r) (33 + 11 * n) 11 (upd now 32 (nI n)))) 32 (nI (n + 1))) = W
      have ho : ∀ k, k < 33 + 11 * t ∨ 33 + 11 * t + 11 ≤ k → k ≠ 32 → k < 33 ∨ 165 ≤ k → W k = now k := by
        intro k a1 a2 a3
        rw [← hW, rowW_out a1, pk_un a2, shr_out (by omega), shl_out (by omega), pk_un a2]
      have key : ∀ k, k < 11 * (n + 1) → W (33 + k) = now (33 + (11 * msrc r t (k / 11) + k % 11)) := by
        intro k hk
        rw [← hW]
        by_cases h1 : k / 11 = t
        · rw [rowW_in (by omega) (by omega), if_pos (by omega), msrc_t h1]
          exact congrArg now (by omega)
        · rw [rowW_out (by omega), pk_un (by omega)]
          by_cases h6 : t < k / 11
          · rw [shr_in (by omega) (by omega)]
            by_cases h7 : k / 11 ≤ r
            · rw [shl_out (by omega), pk_un (by omega), msrc_d h6 h7]
              exact congrArg now (by omega)
            · rw [shl_in (by omega) (by omega), pk_un (by omega), msrc_o (by omega)]
              exact congrArg now (by omega)
          · rw [shr_out (by omega)]
            by_cases h7 : r ≤ k / 11
            · rw [shl_in (by omega) (by omega), pk_un (by omega), msrc_u h7 (by omega)]
              exact congrArg now (by omega)
            · rw [shl_out (by omega), pk_un (by omega), msrc_o (by omega)]
              exact congrArg now (by omega)
      refine ⟨_, _, _, _, _, _, _, _, _, _, _, _, _, rfl, rfl, ?_, e3, hc⟩
      refine ⟨ZnR.w p0 (fun k hk => ho k (by omega) (by omega) (by omega)), ⟨n + 1, p1, rfl, ?_, fun k hk => ?_, fun x hx => ?_⟩, ⟨nk, KeR.w h2 (fun k h1 h2 => ho k (by omega) (by omega) (by omega))⟩, ⟨nf, FlR.w h3 (fun k h1 h2 => ho k (by omega) (by omega) (by omega))⟩, ⟨na, AnR.w h4 (fun k h1 h2 => ho k (by omega) (by omega) (by omega))⟩, ScR.w h5 (fun k h1 h2 => ho k (by omega) (by omega) (by omega))⟩
      · rw [← hW, rowW_out (by omega), pk_us]
      · have hl := msrc_lt hr ht (show k / 11 < n + 1 by omega)
        exact (p4 (11 * msrc r t (k / 11) + k % 11) (by omega)).trans (key k hk).symm
      · have hl := msrc_lt hr ht hx
        have := key (11 * x + 9) (by omega)
        rw [show (11 * x + 9) / 11 = x by omega, show (11 * x + 9) % 11 = 9 by omega, ← Nat.add_assoc, ← Nat.add_assoc] at this
        rw [this]
        exact p5 _ hl
theorem f_restore {h x : Nat} (hh : 0 < h) (h5 : h ≤ 5) (hx : x < 5) : f_X0_restore (nI h) (nI x) estm eszo esrs esrf esks eskf esfs esff esas esaf espf estf R = some (nI (h - 1), nI ((x + 4) % 5), R ((x + 4) % 5) 7 0, va_cpy (R ((x + 4) % 5) 0) eszo 0 0 32, R ((x + 4) % 5) 7 1, va_cpy (R ((x + 4) % 5) 1) esrf 0 0 132, R ((x + 4) % 5) 7 2, va_cpy (R ((x + 4) % 5) 2) eskf 0 0 132, R ((x + 4) % 5) 7 3, va_cpy (R ((x + 4) % 5) 3) esff 0 0 56, R ((x + 4) % 5) 7 4, va_cpy (R ((x + 4) % 5) 4) esaf 0 0 30, va_cpy (R ((x + 4) % 5) 5) espf 0 0 7, va_cpy (R ((x + 4) % 5) 6) estf 0 0 6) := by
  obtain ⟨h, rfl⟩ : ∃ m, h = m + 1 := ⟨h - 1, by omega⟩
  have hz : zlat (nI x) = nI ((x + 4) % 5) := by
    unfold zlat
    cases x with
    | zero => rfl
    | succ x => rw [if_neg (show ¬ nI (x + 1) = 0 by rw [q0, nI_eq (by omega) (by omega)]; omega), nI_pred]; exact congrArg nI (by omega)
  unfold f_X0_restore f_X0_restore_1
  rw [hz, nI_clamp (by omega), f_copyState]
  have hne : ¬ nI (h + 1) = 0 := by rw [q0, nI_eq (by omega) (by omega)]; omega
  cases x with
  | zero =>
    rw [if_pos (show nI 0 = 0 from rfl), q4, f_at_nI (by omega), bs, if_pos rfl, if_neg hne, bs, nI_pred]
    rfl
  | succ x =>
    rw [if_neg (show ¬ nI (x + 1) = 0 by rw [q0, nI_eq (by omega) (by omega)]; omega), nI_pred, f_at_nI (by omega), bs, if_pos (by omega), if_neg hne, bs, nI_pred, show nI x = nI ((x + 1 + 4) % 5) from congrArg nI (by omega)]
    rfl
theorem Lback {st n0 : Nat} {K : Int32 → (Nat → Int32) → Option (Int32 × Int32 × (Nat → Int32) × (Nat → Int32))} (hst : st < 5) (hn : 401 < n0) : f_X6_back_L24 fu K (nI st) past n0 0 now = K (nI 401) (fun k => if k < 401 then past (401 * st + k) else now k) := by
  refine loopU0 (L := f_X6_back_L24 fu K (nI st) past) (fun i => fun k => if k < i then past (401 * st + k) else now k) (N := 401) 0 (funext fun k => (if_neg (by omega)).symm) (by omega) (by omega) ?_ ?_
  · intro m i _ hi
    rw [f_X6_back_L24, if_neg (show ¬ (401 : Int32) ≤ nI i by rw [q401]; exact nI_ge (by omega) (by decide)), q401, pk_mul, nI_add, if_pos (zok_nI (by omega) (by decide)), if_pos (zok_nI (by omega) (by decide)), nI_clamp (by omega), nI_clamp (by omega), nI_1 i]
    refine congrArg _ (funext fun k => ?_)
    by_cases hk : k = i
    · rw [hk, pk_us, if_pos (by omega)]
    · rw [pk_un hk]
      by_cases h2 : k < i
      · rw [if_pos h2, if_pos (by omega)]
      · rw [if_neg h2, if_neg (by omega)]
  · intro m
    rw [f_X6_back_L24, if_pos (by decide)]
theorem s_back (hf : 2000 < fu) (hs : SR (pk12 estm eszo esrs esrf esks eskf esfs esff esas esaf espf estf) now) (hh : HR R yhs yhn states past) (hc : CR b0 b1 b2 refused) : ∃ r c0 c1 c2 ys yn tm zo rs rf ks kf fs ff as af pf tf st nw re, f_X5_back b0 b1 b2 yhs yhn estm eszo esrs esrf esks eskf esfs esff esas esaf espf estf R = some (r, c0, c1, c2, ys, yn, tm, zo, rs, rf, ks, kf, fs, ff, as, af, pf, tf) ∧ f_X6_back fu states now past refused = some (r, st, nw, re) ∧ SR (pk12 tm zo rs rf ks kf fs ff as af pf tf) nw ∧ HR R ys yn st past ∧ CR c0 c1 c2 re := by
  have hh0 := hh
  obtain ⟨h, x, h5, hx, rfl, rfl, rfl, hj⟩ := hh
  unfold f_X5_back f_X6_back
  rw [f_X0_size, bs]
  cases h with
  | zero =>
    rw [if_pos (show nI 0 = 0 from rfl), if_pos (show nI 0 = 0 from rfl), f_failsN, f_no]
    exact ⟨_, _, _, _, _, _, _, _, _, _, _, _, _, _, _, _, _, _, _, _, _, rfl, rfl, hs, hh0, hc.no⟩
  | succ h =>
    have hne : ¬ nI (h + 1) = 0 := by rw [q0, nI_eq (by omega) (by omega)]; omega
    rw [if_neg hne, if_neg hne, f_restore (by omega) h5 hx, nI_pred, Lback (by omega) (by omega)]
    refine ⟨_, _, _, _, _, _, _, _, _, _, _, _, _, _, _, _, _, _, _, _, _, rfl, rfl, ?_, ?_, hc⟩
    · have h0 := hj 0 (by omega)
      refine SR.w (SR.c h0 (fun k hk => cpy_lt hk) (fun k hk => cpy_lt hk) (fun k hk => cpy_lt hk) (fun k hk => cpy_lt hk) (fun k hk => cpy_lt hk) (fun k hk => cpy_lt hk) (fun k hk => cpy_lt hk) (fun k hk => ?_)) (fun k hk => ?_)
      · have : k = 0 ∨ k = 1 ∨ k = 2 ∨ k = 3 ∨ k = 4 := by omega
        rcases this with rfl | rfl | rfl | rfl | rfl <;> rfl
      · rw [if_pos hk]
        exact congrArg past (by omega)
    · refine ⟨h, (x + 4) % 5, by omega, by omega, rfl, rfl, rfl, fun j hjl => ?_⟩
      have := hj (j + 1) (by omega)
      rw [show ((x + 4) % 5 + 4 - j) % 5 = (x + 4 - (j + 1)) % 5 by omega]
      exact SR.w this (fun k hk => congrArg past (by omega))
end P5
