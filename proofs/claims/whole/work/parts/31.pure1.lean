theorem bs {α β : Type} {a : α} {f : α → Option β} : (some a).bind f = f a := rfl
theorem tn0 : Int32.toNatClampNeg 0 = 0 := by decide
theorem tn6 : Int32.toNatClampNeg 6 = 6 := by decide
theorem tn7 : Int32.toNatClampNeg 7 = 7 := by decide
theorem tn32 : Int32.toNatClampNeg 32 = 32 := by decide
theorem zcp_0 {N : Nat} (hN : N < 2 ^ 31) : zcp 0 0 (nI N) N N = true := by
  unfold zcp
  apply decide_eq_true
  refine ⟨by decide, by decide, nI_pos hN, ?_, ?_⟩
  · rw [tn0, nI_clamp hN]; omega
  · rw [tn0, nI_clamp hN]; omega
theorem f_copy {N : Nat} (hN : N < 2 ^ 31) (ts us : Int32) (tf uf : Nat → Int32) : f_X3_copyFrom ts N tf us N uf = some (us, va_cpy uf tf 0 0 N) := by
  unfold f_X3_copyFrom
  rw [if_pos rfl, if_pos (zcp_0 hN), tn0, nI_clamp hN]
theorem f_copyState (eszo : Nat → Int32) (esrs : Int32) (esrf : Nat → Int32) (esks : Int32) (eskf : Nat → Int32) (esfs : Int32) (esff : Nat → Int32) (esas : Int32) (esaf espf estf : Nat → Int32) (ewtm : Int32) (ewzo : Nat → Int32) (ewrs : Int32) (ewrf : Nat → Int32) (ewks : Int32) (ewkf : Nat → Int32) (ewfs : Int32) (ewff : Nat → Int32) (ewas : Int32) (ewaf ewpf ewtf : Nat → Int32) : f_X2_copyFrom eszo esrs esrf esks eskf esfs esff esas esaf espf estf ewtm ewzo ewrs ewrf ewks ewkf ewfs ewff ewas ewaf ewpf ewtf = some (ewtm, va_cpy ewzo eszo 0 0 32, ewrs, va_cpy ewrf esrf 0 0 132, ewks, va_cpy ewkf eskf 0 0 132, ewfs, va_cpy ewff esff 0 0 56, ewas, va_cpy ewaf esaf 0 0 30, va_cpy ewpf espf 0 0 7, va_cpy ewtf estf 0 0 6) := by
  unfold f_X2_copyFrom
  have h1 : zcp 0 0 32 32 32 = true := by decide
  have h2 : zcp 0 0 7 7 7 = true := by decide
  have h3 : zcp 0 0 6 6 6 = true := by decide
  rw [if_pos h1, f_copy (N := 132) (by decide), f_copy (N := 132) (by decide), f_copy (N := 56) (by decide), f_copy (N := 30) (by decide)]
  simp only [bs, if_pos h2, if_pos h3, tn0, tn6, tn7, tn32]
theorem f_at_nI {x : Nat} (hx : x < 5) : f_X0_at (fun j => j) (nI x) = some x := by
  unfold f_X0_at
  rw [f_within]
  have h : zin (nI x) 0 4 = true := by
    rw [q4, zin_nI (by omega) (by decide)]
    exact decide_eq_true (by omega)
  rw [bs, h, if_neg (by decide), if_pos (zok_nI hx (by decide)), nI_clamp (by omega)]
theorem cpy_lt {α : Type} {f g : Nat → α} {n k : Nat} (h : k < n) : va_cpy f g 0 0 n k = f k := by
  rw [pk_cpy_in (Nat.zero_le _) (by omega)]
  congr 1
  omega
theorem f_remember {x : Nat} (hx : x < 5) (yhs estm : Int32) (eszo : Nat → Int32) (esrs : Int32) (esrf : Nat → Int32) (esks : Int32) (eskf : Nat → Int32) (esfs : Int32) (esff : Nat → Int32) (esas : Int32) (esaf espf estf : Nat → Int32) (R : Nat → Nat → Nat → Int32) : f_X0_remember yhs (nI x) estm eszo esrs esrf esks eskf esfs esff esas esaf espf estf R = some (zmin (yhs + 1) 5, (if x = 4 then 0 else nI (x + 1)), fun j => if j = x then pk12 estm (va_cpy eszo (R x 0) 0 0 32) esrs (va_cpy esrf (R x 1) 0 0 132) esks (va_cpy eskf (R x 2) 0 0 132) esfs (va_cpy esff (R x 3) 0 0 56) esas (va_cpy esaf (R x 4) 0 0 30) (va_cpy espf (R x 5) 0 0 7) (va_cpy estf (R x 6) 0 0 6) else R j) := by
  unfold f_X0_remember f_X0_remember_1
  rw [nI_clamp (by omega), f_at_nI hx, bs, if_pos rfl, f_copyState, bs]
  by_cases h4 : x = 4
  · rw [if_pos (show nI x = 4 by rw [h4]; rfl), bs, if_pos h4]
  · rw [if_neg (show ¬ nI x = 4 by rw [q4, nI_eq (by omega) (by decide)]; exact h4), bs, if_neg h4, nI_succ]
theorem L51 {fu : Nat} {K : Int32 → (Nat → Int32) → Option (Int32 × (Nat → Int32))} {st : Nat} (hst : st ≤ 4) (now : Nat → Int32) : ∀ (m i n : Nat) (past : Nat → Int32), i + m = 401 → m < n → f_X6_remembers_L51 fu K (nI st) now n (nI i) past = K (nI 401) (fun k => if 401 * st + i ≤ k ∧ k < 401 * st + 401 then now (k - 401 * st) else past k) := by
  intro m
  induction m with
  | zero =>
    intro i n past hi hn
    obtain ⟨n, rfl⟩ : ∃ m, n = m + 1 := ⟨n - 1, by omega⟩
    obtain rfl : i = 401 := by omega
    rw [f_X6_remembers_L51, if_pos (by decide)]
    congr 1
    funext k
    rw [if_neg (by omega)]
  | succ m ih =>
    intro i n past hi hn
    obtain ⟨n, rfl⟩ : ∃ m, n = m + 1 := ⟨n - 1, by omega⟩
    rw [f_X6_remembers_L51, if_neg (show ¬ (401 : Int32) ≤ nI i by rw [q401]; exact nI_ge (by omega) (by decide)), if_pos (zok_nI (by omega) (by decide)), q401, pk_mul, nI_add, if_pos (zok_nI (by omega) (by decide)), nI_clamp (by omega), nI_clamp (by omega), nI_1, ih (i + 1) n _ (by omega) (by omega)]
    congr 1
    funext k
    by_cases hk : k = 401 * st + i
    · rw [if_neg (by omega), if_pos (by omega), hk, pk_us]
      congr 1
      omega
    · rw [pk_un hk]
      by_cases h2 : 401 * st + (i + 1) ≤ k ∧ k < 401 * st + 401
      · rw [if_pos h2, if_pos (by omega)]
      · rw [if_neg h2, if_neg (by omega)]
theorem L10 {fu : Nat} {K : Int32 → (Nat → Int32) → Option (Int32 × (Nat → Int32))} : ∀ (m i n : Nat) (past : Nat → Int32), i + m = 1604 → m < n → f_X6_remembers_L10 fu K n (nI i) past = K (nI 1604) (fun k => if i ≤ k ∧ k < 1604 then past (k + 401) else past k) := by
  intro m
  induction m with
  | zero =>
    intro i n past hi hn
    obtain ⟨n, rfl⟩ : ∃ m, n = m + 1 := ⟨n - 1, by omega⟩
    obtain rfl : i = 1604 := by omega
    rw [f_X6_remembers_L10, if_pos (by decide)]
    congr 1
    funext k
    rw [if_neg (by omega)]
  | succ m ih =>
    intro i n past hi hn
    obtain ⟨n, rfl⟩ : ∃ m, n = m + 1 := ⟨n - 1, by omega⟩
    rw [f_X6_remembers_L10, if_neg (show ¬ (1604 : Int32) ≤ nI i by rw [q1604]; exact nI_ge (by omega) (by decide)), q401, nI_add, if_pos (zok_nI (by omega) (by decide)), if_pos (zok_nI (by omega) (by decide)), nI_clamp (by omega), nI_clamp (by omega), nI_1, ih (i + 1) n _ (by omega) (by omega)]
    congr 1
    funext k
    by_cases hk : k = i
    · rw [if_neg (by omega), if_pos (by omega), hk, pk_us]
    · rw [pk_un hk]
      by_cases h2 : i + 1 ≤ k ∧ k < 1604
      · rw [if_pos h2, if_pos (by omega), pk_un (by omega)]
      · rw [if_neg h2, if_neg (by omega)]
theorem f_remembersA {fu h : Nat} (hh : h < 5) (hf : 2000 < fu) (now past : Nat → Int32) : f_X6_remembers fu (nI h) now past = some (nI (h + 1), fun k => if 401 * h ≤ k ∧ k < 401 * h + 401 then now (k - 401 * h) else past k) := by
  unfold f_X6_remembers
  rw [if_neg (show ¬ nI h = 5 by rw [q5, nI_eq (by omega) (by decide)]; omega), q0, L51 (by omega) now 401 0 fu past (by omega) (by omega), nI_1]
  rfl
theorem f_remembersB {fu : Nat} (hf : 2000 < fu) (now past : Nat → Int32) : f_X6_remembers fu (nI 5) now past = some (nI 5, fun k => if 1604 ≤ k ∧ k < 2005 then now (k - 1604) else if k < 1604 then past (k + 401) else past k) := by
  unfold f_X6_remembers
  have e : nI 5 - 1 = nI 4 := by decide
  rw [if_pos (by decide), q0, L10 1604 0 fu past (by omega) (by omega), e, L51 (by omega) now 401 0 fu _ (by omega) (by omega)]
  have e2 : nI 4 + 1 = nI 5 := by decide
  rw [e2]
  congr 2
  funext k
  by_cases h1 : 1604 ≤ k ∧ k < 2005
  · rw [if_pos (by omega), if_pos h1]
  · rw [if_neg (by omega), if_neg h1]
    by_cases h2 : k < 1604
    · rw [if_pos (by omega), if_pos h2]
    · rw [if_neg (by omega), if_neg h2]
/-- both sides remember -/
theorem rem_step {fu : Nat} (hf : 2000 < fu) {estm : Int32} {eszo : Nat → Int32} {esrs : Int32} {esrf : Nat → Int32} {esks : Int32} {eskf : Nat → Int32} {esfs : Int32} {esff : Nat → Int32} {esas : Int32} {esaf espf estf : Nat → Int32} {R : Nat → Nat → Nat → Int32} {yhs yhn states : Int32} {now past : Nat → Int32} (hs : SR (pk12 estm eszo esrs esrf esks eskf esfs esff esas esaf espf estf) now) (hh : HR R yhs yhn states past) :
    ∃ yhs' yhn' R' states' past', f_X0_remember yhs yhn estm eszo esrs esrf esks eskf esfs esff esas esaf espf estf R = some (yhs', yhn', R') ∧ f_X6_remembers fu states now past = some (states', past') ∧ HR R' yhs' yhn' states' past' := by
  obtain ⟨h, x, h5, hx, rfl, rfl, rfl, hj⟩ := hh
  have hc : SR (pk12 estm (va_cpy eszo (R x 0) 0 0 32) esrs (va_cpy esrf (R x 1) 0 0 132) esks (va_cpy eskf (R x 2) 0 0 132) esfs (va_cpy esff (R x 3) 0 0 56) esas (va_cpy esaf (R x 4) 0 0 30) (va_cpy espf (R x 5) 0 0 7) (va_cpy estf (R x 6) 0 0 6)) now :=
    hs.c (fun k hk => cpy_lt hk) (fun k hk => cpy_lt hk) (fun k hk => cpy_lt hk) (fun k hk => cpy_lt hk) (fun k hk => cpy_lt hk) (fun k hk => cpy_lt hk) (fun k hk => cpy_lt hk) (fun k _ => rfl)
  generalize hq : pk12 estm (va_cpy eszo (R x 0) 0 0 32) esrs (va_cpy esrf (R x 1) 0 0 132) esks (va_cpy eskf (R x 2) 0 0 132) esfs (va_cpy esff (R x 3) 0 0 56) esas (va_cpy esaf (R x 4) 0 0 30) (va_cpy espf (R x 5) 0 0 7) (va_cpy estf (R x 6) 0 0 6) = q at hc
  have hr := f_remember hx (nI h) estm eszo esrs esrf esks eskf esfs esff esas esaf espf estf R
  rw [hq] at hr
  have hn : (if x = 4 then (0 : Int32) else nI (x + 1)) = nI ((x + 1) % 5) := by
    by_cases h4 : x = 4
    · rw [if_pos h4, h4]; rfl
    · rw [if_neg h4, Nat.mod_eq_of_lt (by omega)]
  rw [hn] at hr
  have hx' : (x + 1) % 5 < 5 := Nat.mod_lt _ (by omega)
  have hi0 : ((x + 1) % 5 + 4 - 0) % 5 = x := by omega
  have hij : ∀ j, 1 ≤ j → j < 5 → ((x + 1) % 5 + 4 - j) % 5 = (x + 4 - (j - 1)) % 5 ∧ (x + 4 - (j - 1)) % 5 ≠ x := by
    intro j h1 h2
    constructor <;> omega
  rcases Nat.lt_or_ge h 5 with hlt | hge
  · refine ⟨_, _, _, _, _, hr, f_remembersA hlt hf now past, h + 1, (x + 1) % 5, by omega, hx', ?_, rfl, rfl, ?_⟩
    · show zmin (nI h + 1) 5 = _
      rw [nI_1, q5]
      unfold zmin
      by_cases h4 : 5 < h + 1
      · omega
      · rw [if_neg (show ¬ nI 5 < nI (h + 1) by rw [nI_ltI (by decide) (by omega)]; exact h4)]
    · intro j hjl
      by_cases h0 : j = 0
      · subst h0
        rw [hi0]
        show SR (if x = x then q else R x) _
        rw [if_pos rfl]
        exact hc.w (fun k hk => by
          dsimp only
          rw [if_pos (by omega)]
          exact congrArg _ (by omega))
      · obtain ⟨e1, e2⟩ := hij j (by omega) (by omega)
        rw [e1]
        show SR (if (x + 4 - (j - 1)) % 5 = x then q else R ((x + 4 - (j - 1)) % 5)) _
        rw [if_neg e2]
        exact (hj (j - 1) (by omega)).w (fun k hk => by
          dsimp only
          rw [if_neg (by omega)]
          exact congrArg _ (by omega))
  · obtain rfl : h = 5 := by omega
    refine ⟨_, _, _, _, _, hr, f_remembersB hf now past, 5, (x + 1) % 5, by omega, hx', by decide, rfl, rfl, ?_⟩
    intro j hjl
    by_cases h0 : j = 0
    · subst h0
      rw [hi0]
      show SR (if x = x then q else R x) _
      rw [if_pos rfl]
      exact hc.w (fun k hk => by
        dsimp only
        rw [if_pos (by omega)]
        exact congrArg _ (by omega))
    · obtain ⟨e1, e2⟩ := hij j (by omega) (by omega)
      rw [e1]
      show SR (if (x + 4 - (j - 1)) % 5 = x then q else R ((x + 4 - (j - 1)) % 5)) _
      rw [if_neg e2]
      exact (hj (j - 1) (by omega)).w (fun k hk => by
        dsimp only
        rw [if_neg (by omega), if_pos (by omega)]
        exact congrArg _ (by omega))
