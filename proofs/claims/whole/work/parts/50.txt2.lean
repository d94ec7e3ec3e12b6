theorem f_numb {fu n k : Nat} {tx te : Nat → Int32} {g : Int32} (hf : 2000 < fu) (hT : TX n tx te) (hk : k ≤ n) : ∃ v q, k ≤ q ∧ q ≤ n ∧ ((f_X4_readNumber fu (nI n) (nI k) (-1) tx g = some (v, nI q, -1) ∧ ∀ k0 wr nu, k0 ≤ n → sB n te k0 = k → f_X6_takesNumber fu (nI n) (nI k0) wr nu te g = some (true, nI q, wr, v)) ∨ (∃ fl, fl ≤ 130 ∧ f_X4_readNumber fu (nI n) (nI k) (-1) tx g = some (v, nI q, nI fl) ∧ ∀ k0 wr nu, k0 ≤ n → sB n te k0 = k → ∃ a' nu', a' ≤ n ∧ f_X6_takesNumber fu (nI n) (nI k0) wr nu te g = some (false, nI a', nI fl, nu'))) := by
  have hn := hT.1
  have st7 : ∀ (K : Int32 → Int32 → Option (Int32 × Int32 × Int32)) (m : Nat) (v : Int32) (j : Nat), j < 2 → f_X4_readNumber_L7 fu K (nI k) (nI n) tx (m + 1) v (nI (k + j)) = if dig n te (k + j) = true then f_X4_readNumber_L7 fu K (nI k) (nI n) tx m (10 * v + te (k + j) - 48) (nI (k + j + 1)) else K v (nI (k + j)) := by
    intro K m v j hj
    rw [f_X4_readNumber_L7, show nI k + 2 = nI (k + 2) from nI_add k 2, if_neg (nI_ge (by omega) (by omega)), f_byteAt hT (by omega), bs, f_isDigit, bs, bt_dig, bs, nI_1 (k + j)]
    cases hd : dig n te (k + j) with
    | false => rw [iteF, if_neg (by decide)]
    | true =>
      have hlt : k + j < n := of_decide_eq_true (Bool.and_eq_true_iff.mp hd).1
      rw [iteT, if_pos rfl]
      unfold bt
      rw [if_pos hlt]
  have st7e : ∀ (K : Int32 → Int32 → Option (Int32 × Int32 × Int32)) (m : Nat) (v : Int32), f_X4_readNumber_L7 fu K (nI k) (nI n) tx (m + 1) v (nI (k + 2)) = K v (nI (k + 2)) := by
    intro K m v
    rw [f_X4_readNumber_L7, show nI k + 2 = nI (k + 2) from nI_add k 2, if_pos (nI_le (Nat.le_refl _) (by omega))]
  have st34 : ∀ (K : Int32 → Int32 → Option (Bool × Int32 × Int32 × Int32)) (m : Nat) (v : Int32) (j : Nat), j ≤ 2 → f_X6_takesNumber_L34 fu K (nI k) (nI n) te (m + 1) (nI (k + j)) v = if dig n te (k + j) = true then (if j = 2 then some (false, nI (k + j), nI (k + j), v) else f_X6_takesNumber_L34 fu K (nI k) (nI n) te m (nI (k + j + 1)) (10 * v + te (k + j) - 48)) else K (nI (k + j)) v := by
    intro K m v j hj
    rw [f_X6_takesNumber_L34, f_isAt hn (by omega), bs, show (decide (k + j < n) && zin (te (k + j)) 48 57) = dig n te (k + j) from rfl, nI_1 (k + j)]
    cases hd : dig n te (k + j) with
    | false => rw [iteF, if_neg (by decide)]
    | true =>
      have hlt : k + j < n := of_decide_eq_true (Bool.and_eq_true_iff.mp hd).1
      rw [iteT, if_pos rfl, show nI k + 2 = nI (k + 2) from nI_add k 2]
      by_cases h2 : j = 2
      · rw [if_pos h2, if_pos (by rw [h2])]
        rfl
      · rw [if_neg h2, if_neg (show ¬ nI (k + j) = nI (k + 2) by rw [nI_eq (by omega) (by omega)]; omega), if_pos (zok_nI (by omega) (by decide)), nI_clamp (by omega)]
  have hmod : ∀ k0 wr nu, k0 ≤ n → sB n te k0 = k → f_X6_takesNumber fu (nI n) (nI k0) wr nu te g = if dig n te k = true then f_X6_takesNumber_L34 fu (fun (x1 : Int32) (x2 : Int32) => if x2 ≤ g then (some (true, x1, wr, x2)) else (some (false, x1, nI k, x2))) (nI k) (nI n) te fu (nI (k + 0)) 0 else some (false, nI k, nI k, nu) := by
    intro k0 wr nu h1 h2
    unfold f_X6_takesNumber
    rw [f_blanks hf hn h1, h2, bs, f_isAt hn (by omega), bs, show (decide (k < n) && zin (te k) 48 57) = dig n te k from rfl]
    cases dig n te k with
    | false => rw [iteF, if_neg (by decide)]; rfl
    | true => rw [iteT, if_pos rfl]; rfl
  unfold f_X4_readNumber
  obtain ⟨f, hfu⟩ : ∃ f, fu = f + 4 := ⟨fu - 4, by omega⟩
  have c0 : ∀ (K : Int32 → Int32 → Option (Int32 × Int32 × Int32)), f_X4_readNumber_L7 fu K (nI k) (nI n) tx fu 0 (nI k) = if dig n te (k + 0) = true then f_X4_readNumber_L7 fu K (nI k) (nI n) tx (f + 3) (10 * 0 + te (k + 0) - 48) (nI (k + 0 + 1)) else K 0 (nI (k + 0)) := by
    intro K
    have := st7 K (f + 3) 0 0 (by omega)
    rw [show f + 3 + 1 = fu by omega] at this
    exact this
  have d0 : ∀ (K : Int32 → Int32 → Option (Bool × Int32 × Int32 × Int32)), f_X6_takesNumber_L34 fu K (nI k) (nI n) te fu (nI (k + 0)) 0 = if dig n te (k + 0) = true then (if 0 = 2 then some (false, nI (k + 0), nI (k + 0), 0) else f_X6_takesNumber_L34 fu K (nI k) (nI n) te (f + 3) (nI (k + 0 + 1)) (10 * 0 + te (k + 0) - 48)) else K (nI (k + 0)) 0 := by
    intro K
    have := st34 K (f + 3) 0 0 (by omega)
    rw [show f + 3 + 1 = fu by omega] at this
    exact this
  have hnk : ∀ j, 0 < j → j ≤ 2 → ¬ nI (k + j) = nI k := fun j h1 h2 h => by
    rw [nI_eq (by omega) (by omega)] at h
    omega
  have hdn : ∀ j, dig n te j = true → j < n := fun j h => of_decide_eq_true (Bool.and_eq_true_iff.mp h).1
  rw [c0]
  cases h0 : dig n te (k + 0) with
  | false =>
    rw [if_neg (by decide)]
    refine ⟨0, k, Nat.le_refl _, hk, Or.inr ⟨k, by omega, if_pos rfl, fun k0 wr nu h1 h2 => ⟨k, nu, by omega, ?_⟩⟩⟩
    rw [hmod k0 wr nu h1 h2, if_neg (by rw [show dig n te k = false from h0]; decide)]
  | true =>
    have hk1 := hdn _ h0
    rw [if_pos rfl, show k + 0 + 1 = k + 1 from rfl, st7 _ _ _ 1 (by omega)]
    have hm0 : ∀ k0 wr nu, k0 ≤ n → sB n te k0 = k → f_X6_takesNumber fu (nI n) (nI k0) wr nu te g = f_X6_takesNumber_L34 fu (fun (x1 : Int32) (x2 : Int32) => if x2 ≤ g then (some (true, x1, wr, x2)) else (some (false, x1, nI k, x2))) (nI k) (nI n) te (f + 3) (nI (k + 1)) (10 * 0 + te (k + 0) - 48) := by
      intro k0 wr nu h1 h2
      rw [hmod k0 wr nu h1 h2, if_pos (show dig n te k = true from h0), d0, h0, if_pos rfl, if_neg (by decide)]
    generalize 10 * 0 + te (k + 0) - 48 = v1 at *
    cases h1 : dig n te (k + 1) with
    | false =>
      rw [if_neg (by decide), if_neg (hnk 1 (by omega) (by omega)), f_byteAt hT (by omega), bs, f_isDigit, bs, bt_dig, h1, iteF]
      by_cases hv : v1 ≤ g
      · refine ⟨v1, k + 1, by omega, by omega, Or.inl ⟨if_pos hv, fun k0 wr nu a1 a2 => ?_⟩⟩
        rw [hm0 k0 wr nu a1 a2, st34 _ _ _ 1 (by omega), h1, if_neg (by decide), if_pos hv]
      · refine ⟨v1, k + 1, by omega, by omega, Or.inr ⟨k, by omega, if_neg hv, fun k0 wr nu a1 a2 => ⟨k + 1, v1, by omega, ?_⟩⟩⟩
        rw [hm0 k0 wr nu a1 a2, st34 _ _ _ 1 (by omega), h1, if_neg (by decide), if_neg hv]
    | true =>
      have hk2 := hdn _ h1
      rw [if_pos rfl, show k + 1 + 1 = k + 2 from rfl, st7e, if_neg (hnk 2 (by omega) (by omega)), f_byteAt hT (by omega), bs, f_isDigit, bs, bt_dig]
      have hm1 : ∀ k0 wr nu, k0 ≤ n → sB n te k0 = k → f_X6_takesNumber fu (nI n) (nI k0) wr nu te g = f_X6_takesNumber_L34 fu (fun (x1 : Int32) (x2 : Int32) => if x2 ≤ g then (some (true, x1, wr, x2)) else (some (false, x1, nI k, x2))) (nI k) (nI n) te (f + 2) (nI (k + 2)) (10 * v1 + te (k + 1) - 48) := by
        intro k0 wr nu a1 a2
        rw [hm0 k0 wr nu a1 a2, st34 _ _ _ 1 (by omega), h1, if_pos rfl, if_neg (by decide)]
      generalize 10 * v1 + te (k + 1) - 48 = v2 at *
      cases h2 : dig n te (k + 2) with
      | true =>
        rw [iteT]
        refine ⟨v2, k + 2, by omega, by omega, Or.inr ⟨k + 2, by omega, rfl, fun k0 wr nu a1 a2 => ⟨k + 2, v2, by omega, ?_⟩⟩⟩
        rw [hm1 k0 wr nu a1 a2, st34 _ _ _ 2 (by omega), h2, if_pos rfl, if_pos rfl]
      | false =>
        rw [iteF]
        by_cases hv : v2 ≤ g
        · refine ⟨v2, k + 2, by omega, by omega, Or.inl ⟨if_pos hv, fun k0 wr nu a1 a2 => ?_⟩⟩
          rw [hm1 k0 wr nu a1 a2, st34 _ _ _ 2 (by omega), h2, if_neg (by decide), if_pos hv]
        · refine ⟨v2, k + 2, by omega, by omega, Or.inr ⟨k, by omega, if_neg hv, fun k0 wr nu a1 a2 => ⟨k + 2, v2, by omega, ?_⟩⟩⟩
          rw [hm1 k0 wr nu a1 a2, st34 _ _ _ 2 (by omega), h2, if_neg (by decide), if_neg hv]
/-- the rules that were found, on both sides -/
def FR (tf rr : Nat → Int32) (m : Nat) : Prop := (∀ k, k < 11 * m → tf k = rr k) ∧ ∀ r, r < m → rr (11 * r + 10) = 0 ∧ act (rr (11 * r + 9))
theorem FR.upd {tf rr : Nat → Int32} {m c : Nat} {v : Int32} (h : FR tf rr (m + 1)) (hc : c < 9) : FR (upd tf (m * 11 + c) v) (upd rr (11 * m + c) v) (m + 1) := by
  obtain ⟨h1, h2⟩ := h
  refine ⟨fun k hk => ?_, fun r hr => ?_⟩
  · by_cases hkc : k = m * 11 + c
    · rw [hkc, pk_us, show m * 11 + c = 11 * m + c by omega, pk_us]
    · rw [pk_un hkc, pk_un (by omega)]
      exact h1 k hk
  · rw [pk_un (by omega), pk_un (by omega)]
    exact h2 r hr
theorem f_nums {fu n rd c0 cn : Nat} {tx te : Nat → Int32} {g : Int32} (hf : 2000 < fu) (hT : TX n tx te) (hrd : rd ≤ 11) (hc : c0 + cn ≤ 9) (hcn : 1 ≤ cn) (hg : ∀ c, c0 ≤ c → c < c0 + cn → f_X5_greatestNumber (nI c) = some g) {k : Nat} {tf rr : Nat → Int32} {wr nu : Int32} (hk : k ≤ n) (hF : FR tf rr (rd + 1)) : (∃ q tf' wr' nu' rr', k ≤ q ∧ q ≤ n ∧ f_X4_readNumbers fu (nI n) (nI k) (-1) tx (nI (rd + 1)) tf (nI rd) (nI c0) (nI (c0 + cn - 1)) = some (nI q, -1, tf') ∧ f_X6_takesNumbers fu (nI n) (nI rd) (nI k) wr nu te rr (nI c0) (nI cn) g = some (true, nI q, wr', nu', rr') ∧ FR tf' rr' (rd + 1)) ∨ (∃ q fl tf' a' nu' rr', fl ≤ 130 ∧ a' ≤ n ∧ f_X4_readNumbers fu (nI n) (nI k) (-1) tx (nI (rd + 1)) tf (nI rd) (nI c0) (nI (c0 + cn - 1)) = some (q, nI fl, tf') ∧ f_X6_takesNumbers fu (nI n) (nI rd) (nI k) wr nu te rr (nI c0) (nI cn) g = some (false, nI a', nI fl, nu', rr')) := by
  have hn := hT.1
  unfold f_X4_readNumbers f_X6_takesNumbers
  have : ∀ (m c j n1 n2 k : Nat) (tf rr : Nat → Int32) (wr nu : Int32), c + m = c0 + cn → j + m = cn → c = c0 + j → m < n1 → m < n2 → k ≤ n → FR tf rr (rd + 1) → (∃ q tf' wr' nu' rr', k ≤ q ∧ q ≤ n ∧ f_X4_readNumbers_L3 fu (fun (x1 : Int32) (x2 : Int32) (x3 : Int32) (x4 : Nat → Int32) => some (x2, x3, x4)) (nI rd) (nI (c0 + cn - 1)) (nI n) tx (nI (rd + 1)) n1 (nI c) (nI k) (-1) tf = some (nI q, -1, tf') ∧ f_X6_takesNumbers_L3 fu (fun (x1 : Int32) (x2 : Int32) (x3 : Int32) (x4 : Int32) (x5 : Nat → Int32) => some (true, x2, x3, x4, x5)) (nI c0) (nI cn) g (nI n) (nI rd) te n2 (nI j) (nI k) wr nu rr = some (true, nI q, wr', nu', rr') ∧ FR tf' rr' (rd + 1)) ∨ (∃ q fl tf' a' nu' rr', fl ≤ 130 ∧ a' ≤ n ∧ f_X4_readNumbers_L3 fu (fun (x1 : Int32) (x2 : Int32) (x3 : Int32) (x4 : Nat → Int32) => some (x2, x3, x4)) (nI rd) (nI (c0 + cn - 1)) (nI n) tx (nI (rd + 1)) n1 (nI c) (nI k) (-1) tf = some (q, nI fl, tf') ∧ f_X6_takesNumbers_L3 fu (fun (x1 : Int32) (x2 : Int32) (x3 : Int32) (x4 : Int32) (x5 : Nat → Int32) => some (true, x2, x3, x4, x5)) (nI c0) (nI cn) g (nI n) (nI rd) te n2 (nI j) (nI k) wr nu rr = some (false, nI a', nI fl, nu', rr')) := by
    intro m
    induction m with
    | zero =>
      intro c j n1 n2 k tf rr wr nu h1 h2 h3 h4 h5 hk hF
      obtain ⟨n1, rfl⟩ : ∃ m, n1 = m + 1 := ⟨n1 - 1, by omega⟩
      obtain ⟨n2, rfl⟩ : ∃ m, n2 = m + 1 := ⟨n2 - 1, by omega⟩
      refine Or.inl ⟨k, tf, wr, nu, rr, Nat.le_refl _, hk, ?_, ?_, hF⟩
      · rw [f_X4_readNumbers_L3, if_pos (nI_lt (by omega) (by omega))]
      · rw [f_X6_takesNumbers_L3, if_pos (nI_le (by omega) (by omega))]
    | succ m ih =>
      intro c j n1 n2 k tf rr wr nu h1 h2 h3 h4 h5 hk hF
      obtain ⟨n1, rfl⟩ : ∃ m, n1 = m + 2 := ⟨n1 - 2, by omega⟩
      obtain ⟨n2, rfl⟩ : ∃ m, n2 = m + 1 := ⟨n2 - 1, by omega⟩
      have hB := sB_le (te := te) hk
      obtain ⟨v, q, q1, q2, q3⟩ := f_numb (fu := fu) (g := g) hf hT hB.2
      rw [f_X4_readNumbers_L3, f_X6_takesNumbers_L3, if_neg (nI_nlt (by omega) (by omega)), if_neg (nI_ge (by omega) (by omega)), if_pos rfl, f_skipBlanks hf hT hk, bs, hg c (by omega) (by omega), bs, nI_1 c, nI_1 j]
      rcases q3 with ⟨e1, e2⟩ | ⟨fl, e0, e1, e2⟩
      · rw [e1, bs, e2 k wr nu hk rfl, bs]
        dsimp only
        rw [iteT, put11 (by omega) (by omega) (by omega), bs, q11, pk_mul, nI_add, nI_add, if_pos (zok_nI (by omega) (by decide)), nI_clamp (by omega)]
        rcases ih (c + 1) (j + 1) (n1 + 1) n2 q (upd tf (rd * 11 + c) v) (upd rr (11 * rd + c) v) wr v (by omega) (by omega) (by omega) (by omega) (by omega) q2 (FR.upd hF (by omega)) with ⟨q', tf', wr', nu', rr', y1, y2, y3, y4, y5⟩ | ⟨q', fl, tf', a', nu', rr', y1, y0, y2, y3⟩
        · refine Or.inl ⟨q', tf', wr', nu', rr', by omega, y2, ?_, ?_, y5⟩
          · exact y3
          · rw [show 11 * rd + c0 + j = 11 * rd + c by omega]; exact y4
        · refine Or.inr ⟨q', fl, tf', a', nu', rr', y1, y0, ?_, ?_⟩
          · exact y2
          · rw [show 11 * rd + c0 + j = 11 * rd + c by omega]; exact y3
      · obtain ⟨a', nu', ea, e3⟩ := e2 k wr nu hk rfl
        rw [e1, bs, e3, bs]
        dsimp only
        rw [iteF, put11 (by omega) (by omega) (by omega), bs, f_X4_readNumbers_L3, if_neg (show ¬ nI fl = -1 from oI_ne (by omega)), ite_self]
        exact Or.inr ⟨_, fl, _, a', _, _, e0, ea, rfl, rfl⟩
  exact this cn c0 0 fu fu k tf rr wr nu (by omega) (by omega) (by omega) (by omega) (by omega) hk hF
