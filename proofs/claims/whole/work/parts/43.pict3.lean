theorem f_differences {fu n n2 : Nat} {A B C D A2 B2 C2 D2 : Nat → Int32} {p : Nat → Bool} (hf : 2000 < fu) (hn : n ≤ 12) (hn2 : n2 ≤ 12) (hD : ∀ r, r < n → act (D r)) (hD2 : ∀ r, r < n2 → act (D2 r)) (hp : ∀ s d k, s < 32 → d < 32 → k < 32 → decide (pa C D n (A s &&& B d) k ≠ pa C2 D2 n2 (A2 s &&& B2 d) k) = p (1024 * s + 32 * d + k)) : ∃ x1 x2 x3 x4 x5 x6, f_X1_differences fu (nI n) 0 0 0 A B C D (nI n2) 0 0 0 A2 B2 C2 D2 = some (nI (cnt p 32768), x1, x2, x3, x4, x5, x6) := by
  unfold f_X1_differences
  rw [← cnt_cases]
  have inner : ∀ (K : Int32 → Int32 → Int32 → Int32 → Int32 → Int32 → Int32 → Int32 → Option (Int32 × Int32 × Int32 × Int32 × Int32 × Int32 × Int32)) (s acc : Nat) (y1 y2 y3 y4 y5 y6 : Int32), s < 32 → LKI C D n y1 y2 y3 → LKI C2 D2 n2 y4 y5 y6 → ∃ z1 z2 z3 z4 z5 z6, f_X1_differences_L13 fu K (nI s) (nI n) A B C D (nI n2) A2 B2 C2 D2 fu (nI acc) 0 y1 y2 y3 y4 y5 y6 = K (nI (acc + sum (fun d => cnt (fun k => p (1024 * s + 32 * d + k)) 32) 32)) (nI 32) z1 z2 z3 z4 z5 z6 ∧ LKI C D n z1 z2 z3 ∧ LKI C2 D2 n2 z4 z5 z6 := by
    intro K s acc y1 y2 y3 y4 y5 y6 hs hL hM
    refine Exists.elim (loopP (L := fun m i (x : Int32 × Int32 × Int32 × Int32 × Int32 × Int32 × Int32) => f_X1_differences_L13 fu K (nI s) (nI n) A B C D (nI n2) A2 B2 C2 D2 m x.1 i x.2.1 x.2.2.1 x.2.2.2.1 x.2.2.2.2.1 x.2.2.2.2.2.1 x.2.2.2.2.2.2) (fun i x => x.1 = nI (acc + sum (fun d => cnt (fun k => p (1024 * s + 32 * d + k)) 32) i) ∧ LKI C D n x.2.1 x.2.2.1 x.2.2.2.1 ∧ LKI C2 D2 n2 x.2.2.2.2.1 x.2.2.2.2.2.1 x.2.2.2.2.2.2) (N := 32) (K := fun x => K x.1 (nI 32) x.2.1 x.2.2.1 x.2.2.2.1 x.2.2.2.2.1 x.2.2.2.2.2.1 x.2.2.2.2.2.2) ?_ ?_ 32 0 fu (nI acc, y1, y2, y3, y4, y5, y6) (by omega) (by omega) ⟨rfl, hL, hM⟩) ?_
    · rintro m i ⟨x1, x2, x3, x4, x5, x6, x7⟩ hi ⟨hx, hL, hM⟩
      replace hx : x1 = nI (acc + sum (fun d => cnt (fun k => p (1024 * s + 32 * d + k)) 32) i) := hx
      obtain ⟨y, al', re', al2', re2', l1, l2, l3, l4⟩ := f_differing (A := A) (B := B) (A2 := A2) (B2 := B2) hf hn hn2 hD hD2 hL hM hs hi
      replace l1 : f_X1_differingServices fu (nI n) x2 x3 x4 A B C D (nI n2) x5 x6 x7 A2 B2 C2 D2 (nI s) (nI i) = some (y, A s &&& B i, al', re', A2 s &&& B2 i, al2', re2') := l1
      refine ⟨(nI (acc + sum (fun d => cnt (fun k => p (1024 * s + 32 * d + k)) 32) (i + 1)), A s &&& B i, al', re', A2 s &&& B2 i, al2', re2'), ?_, rfl, l2, l3⟩
      show f_X1_differences_L13 fu K (nI s) (nI n) A B C D (nI n2) A2 B2 C2 D2 (m + 1) x1 (nI i) x2 x3 x4 x5 x6 x7 = f_X1_differences_L13 fu K (nI s) (nI n) A B C D (nI n2) A2 B2 C2 D2 m (nI (acc + (sum (fun d => cnt (fun k => p (1024 * s + 32 * d + k)) 32) i + cnt (fun k => p (1024 * s + 32 * i + k)) 32))) (nI (i + 1)) (A s &&& B i) al' re' (A2 s &&& B2 i) al2' re2'
      rw [f_X1_differences_L13, if_neg (show ¬ (32 : Int32) ≤ nI i by rw [q32]; exact nI_ge (by omega) (by decide)), l1, bs]
      dsimp only
      rw [f_bitCount, bs, hx, nI_add, nI_1 i, cnt_congr (fun k hk => (l4 k hk).trans (hp s i k hs hi hk)), Nat.add_assoc]
    · rintro m ⟨x1, x2, x3, x4, x5, x6, x7⟩ _
      show f_X1_differences_L13 fu K (nI s) (nI n) A B C D (nI n2) A2 B2 C2 D2 (m + 1) x1 (nI 32) x2 x3 x4 x5 x6 x7 = _
      rw [f_X1_differences_L13, if_pos (by decide)]
    · rintro ⟨x1, x2, x3, x4, x5, x6, x7⟩ ⟨e1, hx, e2, e3⟩
      replace hx : x1 = nI (acc + sum (fun d => cnt (fun k => p (1024 * s + 32 * d + k)) 32) 32) := hx
      subst hx
      exact ⟨x2, x3, x4, x5, x6, x7, e1, e2, e3⟩
  refine Exists.elim (loopP (L := fun m i (x : Int32 × Int32 × Int32 × Int32 × Int32 × Int32 × Int32) => f_X1_differences_L4 fu (fun (x9 : Int32) (x10 : Int32) (x11 : Int32) (x12 : Int32) (x13 : Int32) (x14 : Int32) (x15 : Int32) (x16 : Int32) => some (x9, x11, x12, x13, x14, x15, x16)) (nI n) A B C D (nI n2) A2 B2 C2 D2 m x.1 i x.2.1 x.2.2.1 x.2.2.2.1 x.2.2.2.2.1 x.2.2.2.2.2.1 x.2.2.2.2.2.2) (fun i x => x.1 = nI (sum (fun s => sum (fun d => cnt (fun k => p (1024 * s + 32 * d + k)) 32) 32) i) ∧ LKI C D n x.2.1 x.2.2.1 x.2.2.2.1 ∧ LKI C2 D2 n2 x.2.2.2.2.1 x.2.2.2.2.2.1 x.2.2.2.2.2.2) (N := 32) (K := fun x => some (x.1, x.2.1, x.2.2.1, x.2.2.2.1, x.2.2.2.2.1, x.2.2.2.2.2.1, x.2.2.2.2.2.2)) ?_ ?_ 32 0 fu (0, 0, 0, 0, 0, 0, 0) (by omega) (by omega) ⟨rfl, LKI_0 C D n, LKI_0 C2 D2 n2⟩) ?_
  · rintro m i ⟨x1, x2, x3, x4, x5, x6, x7⟩ hi ⟨hx, hL, hM⟩
    replace hx : x1 = nI (sum (fun s => sum (fun d => cnt (fun k => p (1024 * s + 32 * d + k)) 32) 32) i) := hx
    subst hx
    obtain ⟨z1, z2, z3, z4, z5, z6, l1, l2, l3⟩ := inner (fun (x1 : Int32) (x2 : Int32) (x3 : Int32) (x4 : Int32) (x5 : Int32) (x6 : Int32) (x7 : Int32) (x8 : Int32) => f_X1_differences_L4 fu (fun (x9 : Int32) (x10 : Int32) (x11 : Int32) (x12 : Int32) (x13 : Int32) (x14 : Int32) (x15 : Int32) (x16 : Int32) => some (x9, x11, x12, x13, x14, x15, x16)) (nI n) A B C D (nI n2) A2 B2 C2 D2 m x1 (nI (i + 1)) x3 x4 x5 x6 x7 x8) i (sum (fun s => sum (fun d => cnt (fun k => p (1024 * s + 32 * d + k)) 32) 32) i) x2 x3 x4 x5 x6 x7 hi hL hM
    refine ⟨(nI (sum (fun s => sum (fun d => cnt (fun k => p (1024 * s + 32 * d + k)) 32) 32) i + sum (fun d => cnt (fun k => p (1024 * i + 32 * d + k)) 32) 32), z1, z2, z3, z4, z5, z6), ?_, rfl, l2, l3⟩
    · show f_X1_differences_L4 fu (fun (x9 : Int32) (x10 : Int32) (x11 : Int32) (x12 : Int32) (x13 : Int32) (x14 : Int32) (x15 : Int32) (x16 : Int32) => some (x9, x11, x12, x13, x14, x15, x16)) (nI n) A B C D (nI n2) A2 B2 C2 D2 (m + 1) _ (nI i) x2 x3 x4 x5 x6 x7 = _
      rw [f_X1_differences_L4, if_neg (show ¬ (32 : Int32) ≤ nI i by rw [q32]; exact nI_ge (by omega) (by decide)), nI_1 i]
      exact l1
  · rintro m ⟨x1, x2, x3, x4, x5, x6, x7⟩ _
    show f_X1_differences_L4 fu (fun (x9 : Int32) (x10 : Int32) (x11 : Int32) (x12 : Int32) (x13 : Int32) (x14 : Int32) (x15 : Int32) (x16 : Int32) => some (x9, x11, x12, x13, x14, x15, x16)) (nI n) A B C D (nI n2) A2 B2 C2 D2 (m + 1) x1 (nI 32) x2 x3 x4 x5 x6 x7 = _
    rw [f_X1_differences_L4, if_pos (by decide)]
  · rintro ⟨x1, x2, x3, x4, x5, x6, x7⟩ ⟨e1, hx, e2⟩
    replace hx : x1 = nI (sum (fun s => sum (fun d => cnt (fun k => p (1024 * s + 32 * d + k)) 32) 32) 32) := hx
    subst hx
    exact ⟨x2, x3, x4, x5, x6, x7, e1⟩
theorem f_leastOf {fu : Nat} {x : Int32} (hf : 2000 < fu) (hx : ¬ x = 0) : ∃ j, j < 32 ∧ f_X1_leastOf fu x = some (nI j) ∧ tb x j = true ∧ ∀ k, k < j → tb x k = false := by
  unfold f_X1_leastOf
  have hl := loopF (L := f_X1_leastOf_L2 fu (fun (x1 : Int32) => some (0)) x) (tb x) (N := 32) (fun r => some (nI r)) (Z := some 0) (fun m i hi hp => by
    rw [f_X1_leastOf_L2, if_neg (show ¬ (32 : Int32) ≤ nI i by rw [q32]; exact nI_ge (by omega) (by decide)), f_holds hi, bs, hp, iteF, nI_1]) (fun m i hi hp => by
    rw [f_X1_leastOf_L2, if_neg (show ¬ (32 : Int32) ≤ nI i by rw [q32]; exact nI_ge (by omega) (by decide)), f_holds hi, bs, hp, iteT]) (fun m => by
    rw [f_X1_leastOf_L2, if_pos (by decide)]) 32 0 fu (by omega) (by omega)
  cases h : fst1 (tb x) 32 0 with
  | none => exact absurd (tb_ext (fun k hk => by rw [fst1_none h k (by omega) (by omega), tb_0])) hx
  | some j =>
    obtain ⟨a1, a2, a3, a4⟩ := fst1_some h
    rw [h] at hl
    exact ⟨j, by omega, hl, a3, fun k hk => a4 k (by omega) hk⟩
theorem f_firstDifference {fu n n2 : Nat} {A B C D A2 B2 C2 D2 : Nat → Int32} {p : Nat → Bool} (hf : 2000 < fu) (hn : n ≤ 12) (hn2 : n2 ≤ 12) (hD : ∀ r, r < n → act (D r)) (hD2 : ∀ r, r < n2 → act (D2 r)) (hp : ∀ s d k, s < 32 → d < 32 → k < 32 → decide (pa C D n (A s &&& B d) k ≠ pa C2 D2 n2 (A2 s &&& B2 d) k) = p (1024 * s + 32 * d + k)) : ∃ r x1 x2 x3 x4 x5 x6, f_X1_firstDifference fu (nI n) 0 0 0 A B C D (nI n2) 0 0 0 A2 B2 C2 D2 = some (r, x1, x2, x3, x4, x5, x6) ∧ ((∃ c, c < 32768 ∧ r = nI c ∧ fst1 p 32768 0 = some c) ∨ (r = -1 ∧ fst1 p 32768 0 = none)) := by
  unfold f_X1_firstDifference
  have inner : ∀ (K : Int32 → Int32 → Int32 → Int32 → Int32 → Int32 → Int32 → Option (Int32 × Int32 × Int32 × Int32 × Int32 × Int32 × Int32)) (s : Nat) (y1 y2 y3 y4 y5 y6 : Int32), s < 32 → LKI C D n y1 y2 y3 → LKI C2 D2 n2 y4 y5 y6 → (∀ c, c < 1024 * s → p c = false) → (∃ x : Int32 × Int32 × Int32 × Int32 × Int32 × Int32, f_X1_firstDifference_L10 fu K (nI s) (nI n) A B C D (nI n2) A2 B2 C2 D2 fu 0 y1 y2 y3 y4 y5 y6 = K (nI 32) x.1 x.2.1 x.2.2.1 x.2.2.2.1 x.2.2.2.2.1 x.2.2.2.2.2 ∧ LKI C D n x.1 x.2.1 x.2.2.1 ∧ LKI C2 D2 n2 x.2.2.2.1 x.2.2.2.2.1 x.2.2.2.2.2 ∧ ∀ c, c < 1024 * s + 32 * 32 → p c = false) ∨ (∃ c x1 x2 x3 x4 x5 x6, f_X1_firstDifference_L10 fu K (nI s) (nI n) A B C D (nI n2) A2 B2 C2 D2 fu 0 y1 y2 y3 y4 y5 y6 = some (nI c, x1, x2, x3, x4, x5, x6) ∧ c < 32768 ∧ fst1 p 32768 0 = some c) := by
    intro K s y1 y2 y3 y4 y5 y6 hs hL hM hb
    refine loopE (L := fun m i (x : Int32 × Int32 × Int32 × Int32 × Int32 × Int32) => f_X1_firstDifference_L10 fu K (nI s) (nI n) A B C D (nI n2) A2 B2 C2 D2 m i x.1 x.2.1 x.2.2.1 x.2.2.2.1 x.2.2.2.2.1 x.2.2.2.2.2) (fun i x => LKI C D n x.1 x.2.1 x.2.2.1 ∧ LKI C2 D2 n2 x.2.2.2.1 x.2.2.2.2.1 x.2.2.2.2.2 ∧ ∀ c, c < 1024 * s + 32 * i → p c = false) (N := 32) (K := fun x => K (nI 32) x.1 x.2.1 x.2.2.1 x.2.2.2.1 x.2.2.2.2.1 x.2.2.2.2.2) (X := fun o => ∃ c x1 x2 x3 x4 x5 x6, o = some (nI c, x1, x2, x3, x4, x5, x6) ∧ c < 32768 ∧ fst1 p 32768 0 = some c) ?_ ?_ 32 0 fu (y1, y2, y3, y4, y5, y6) (by omega) (by omega) ⟨hL, hM, fun c hc => hb c (by omega)⟩
    · rintro m i ⟨x1, x2, x3, x4, x5, x6⟩ hi ⟨hL, hM, hb⟩
      obtain ⟨y, al', re', al2', re2', l1, l2, l3, l4⟩ := f_differing (A := A) (B := B) (A2 := A2) (B2 := B2) hf hn hn2 hD hD2 hL hM hs hi
      replace l1 : f_X1_differingServices fu (nI n) x1 x2 x3 A B C D (nI n2) x4 x5 x6 A2 B2 C2 D2 (nI s) (nI i) = some (y, A s &&& B i, al', re', A2 s &&& B2 i, al2', re2') := l1
      have l5 : ∀ k, k < 32 → tb y k = p (1024 * s + 32 * i + k) := fun k hk => (l4 k hk).trans (hp s i k hs hi hk)
      by_cases hy : y = 0
      · refine Or.inl ⟨(A s &&& B i, al', re', A2 s &&& B2 i, al2', re2'), ?_, l2, l3, fun c hc => ?_⟩
        · show f_X1_firstDifference_L10 fu K (nI s) (nI n) A B C D (nI n2) A2 B2 C2 D2 (m + 1) (nI i) x1 x2 x3 x4 x5 x6 = f_X1_firstDifference_L10 fu K (nI s) (nI n) A B C D (nI n2) A2 B2 C2 D2 m (nI (i + 1)) (A s &&& B i) al' re' (A2 s &&& B2 i) al2' re2'
          rw [f_X1_firstDifference_L10, if_neg (show ¬ (32 : Int32) ≤ nI i by rw [q32]; exact nI_ge (by omega) (by decide)), l1, bs]
          dsimp only
          rw [if_pos hy, nI_1 i]
        · by_cases h3 : c < 1024 * s + 32 * i
          · exact hb c h3
          · have := l5 (c - (1024 * s + 32 * i)) (by omega)
            rw [hy, tb_0, show 1024 * s + 32 * i + (c - (1024 * s + 32 * i)) = c by omega] at this
            exact this.symm
      · obtain ⟨j, j1, j2, j3, j4⟩ := f_leastOf (fu := fu) hf hy
        refine Or.inr ⟨1024 * s + 32 * i + j, A s &&& B i, al', re', A2 s &&& B2 i, al2', re2', ?_, by omega, fst1_eq (by omega) (by omega) ?_ (fun c _ hc => ?_)⟩
        · show f_X1_firstDifference_L10 fu K (nI s) (nI n) A B C D (nI n2) A2 B2 C2 D2 (m + 1) (nI i) x1 x2 x3 x4 x5 x6 = _
          rw [f_X1_firstDifference_L10, if_neg (show ¬ (32 : Int32) ≤ nI i by rw [q32]; exact nI_ge (by omega) (by decide)), l1, bs]
          dsimp only
          rw [if_neg hy, j2, bs, q32, pk_mul, nI_add, pk_mul, nI_add, show (s * 32 + i) * 32 + j = 1024 * s + 32 * i + j by omega]
        · rw [← l5 j j1]; exact j3
        · by_cases h3 : c < 1024 * s + 32 * i
          · exact hb c h3
          · have := l5 (c - (1024 * s + 32 * i)) (by omega)
            rw [j4 _ (by omega), show 1024 * s + 32 * i + (c - (1024 * s + 32 * i)) = c by omega] at this
            exact this.symm
    · rintro m ⟨x1, x2, x3, x4, x5, x6⟩ _
      show f_X1_firstDifference_L10 fu K (nI s) (nI n) A B C D (nI n2) A2 B2 C2 D2 (m + 1) (nI 32) x1 x2 x3 x4 x5 x6 = _
      rw [f_X1_firstDifference_L10, if_pos (by decide)]
  have outer := loopE (L := fun m i (x : Int32 × Int32 × Int32 × Int32 × Int32 × Int32) => f_X1_firstDifference_L2 fu (fun (x8 : Int32) (x9 : Int32) (x10 : Int32) (x11 : Int32) (x12 : Int32) (x13 : Int32) (x14 : Int32) => some ((-1), x9, x10, x11, x12, x13, x14)) (nI n) A B C D (nI n2) A2 B2 C2 D2 m i x.1 x.2.1 x.2.2.1 x.2.2.2.1 x.2.2.2.2.1 x.2.2.2.2.2) (fun i x => LKI C D n x.1 x.2.1 x.2.2.1 ∧ LKI C2 D2 n2 x.2.2.2.1 x.2.2.2.2.1 x.2.2.2.2.2 ∧ ∀ c, c < 1024 * i → p c = false) (N := 32) (K := fun x => some (-1, x.1, x.2.1, x.2.2.1, x.2.2.2.1, x.2.2.2.2.1, x.2.2.2.2.2)) (X := fun o => ∃ c x1 x2 x3 x4 x5 x6, o = some (nI c, x1, x2, x3, x4, x5, x6) ∧ c < 32768 ∧ fst1 p 32768 0 = some c) (by
    rintro m i ⟨x1, x2, x3, x4, x5, x6⟩ hi ⟨hL, hM, hb⟩
    rcases inner (fun (x1 : Int32) (x2 : Int32) (x3 : Int32) (x4 : Int32) (x5 : Int32) (x6 : Int32) (x7 : Int32) => f_X1_firstDifference_L2 fu (fun (x8 : Int32) (x9 : Int32) (x10 : Int32) (x11 : Int32) (x12 : Int32) (x13 : Int32) (x14 : Int32) => some ((-1), x9, x10, x11, x12, x13, x14)) (nI n) A B C D (nI n2) A2 B2 C2 D2 m (nI (i + 1)) x2 x3 x4 x5 x6 x7) i x1 x2 x3 x4 x5 x6 hi hL hM hb with ⟨x, e1, e2, e3, e4⟩ | ⟨c, z1, z2, z3, z4, z5, z6, e1, e2, e3⟩
    · refine Or.inl ⟨x, ?_, e2, e3, fun c hc => e4 c (by omega)⟩
      show f_X1_firstDifference_L2 fu (fun (x8 : Int32) (x9 : Int32) (x10 : Int32) (x11 : Int32) (x12 : Int32) (x13 : Int32) (x14 : Int32) => some ((-1), x9, x10, x11, x12, x13, x14)) (nI n) A B C D (nI n2) A2 B2 C2 D2 (m + 1) (nI i) x1 x2 x3 x4 x5 x6 = _
      rw [f_X1_firstDifference_L2, if_neg (show ¬ (32 : Int32) ≤ nI i by rw [q32]; exact nI_ge (by omega) (by decide)), nI_1 i]
      exact e1
    · refine Or.inr ⟨c, z1, z2, z3, z4, z5, z6, ?_, e2, e3⟩
      show f_X1_firstDifference_L2 fu (fun (x8 : Int32) (x9 : Int32) (x10 : Int32) (x11 : Int32) (x12 : Int32) (x13 : Int32) (x14 : Int32) => some ((-1), x9, x10, x11, x12, x13, x14)) (nI n) A B C D (nI n2) A2 B2 C2 D2 (m + 1) (nI i) x1 x2 x3 x4 x5 x6 = _
      rw [f_X1_firstDifference_L2, if_neg (show ¬ (32 : Int32) ≤ nI i by rw [q32]; exact nI_ge (by omega) (by decide)), nI_1 i]
      exact e1) (by
    rintro m ⟨x1, x2, x3, x4, x5, x6⟩ _
    show f_X1_firstDifference_L2 fu (fun (x8 : Int32) (x9 : Int32) (x10 : Int32) (x11 : Int32) (x12 : Int32) (x13 : Int32) (x14 : Int32) => some ((-1), x9, x10, x11, x12, x13, x14)) (nI n) A B C D (nI n2) A2 B2 C2 D2 (m + 1) (nI 32) x1 x2 x3 x4 x5 x6 = _
    rw [f_X1_firstDifference_L2, if_pos (by decide)]) 32 0 fu (0, 0, 0, 0, 0, 0) (by omega) (by omega) ⟨LKI_0 C D n, LKI_0 C2 D2 n2, fun c hc => by omega⟩
  rcases outer with ⟨⟨x1, x2, x3, x4, x5, x6⟩, e1, e2, e3, e4⟩ | ⟨c, z1, z2, z3, z4, z5, z6, e1, e2, e3⟩
  · exact ⟨-1, x1, x2, x3, x4, x5, x6, e1, Or.inr ⟨rfl, fst1_no (fun c _ hc => e4 c (by omega))⟩⟩
  · exact ⟨nI c, z1, z2, z3, z4, z5, z6, e1, Or.inl ⟨c, e2, rfl, e3⟩⟩
/-- a rule left out -/
def decX (g zo : Nat → Int32) (n r c : Nat) : Option Nat := fst1 (fun q => !decide (q = r) && fitC g zo c q) n 0
theorem f_silence {C : Nat → Int32} {r : Nat} (hr : r < 12) : f_X1_silence C (nI r) = some (0, 0, 0, upd C r 0) := by
  unfold f_X1_silence
  rw [f_within, bs, show zin (nI r) 0 11 = true by rw [q11, zin_nI (by omega) (by decide)]; exact decide_eq_true (by omega), iteT, if_pos (zok_nI hr (by decide)), nI_clamp (by omega)]
  rfl
theorem pa_decX {A B C D tf zo : Nat → Int32} {n r s d k : Nat} (hP : PIC A B C D n tf zo) (hn : n ≤ 12) (hs : s < 32) (hd : d < 32) (hk : k < 32) : pa (upd C r 0) D n (A s &&& B d) k = acn tf (decX tf zo n r (1024 * s + 32 * d + k)) := by
  have e : ucs (upd C r 0) n (A s &&& B d) k = decX tf zo n r (1024 * s + 32 * d + k) := by
    unfold ucs decX fitC fitA
    rw [show (1024 * s + 32 * d + k) / 1024 = s by omega, show (1024 * s + 32 * d + k) / 32 % 32 = d by omega, show (1024 * s + 32 * d + k) / 2 % 16 = k / 2 by omega, show (1024 * s + 32 * d + k) % 2 = k % 2 by omega]
    refine fst1_congr (fun q _ hq => ?_)
    obtain ⟨h1, h2, h3, h4⟩ := hP
    rw [tb_and, h1 s hs q (by omega), h2 d hd q (by omega), decide_eq_true (show q < n by omega), Bool.true_and, Bool.true_and]
    by_cases hqr : q = r
    · subst hqr
      rw [pk_us, tb_0, decide_eq_true rfl, Bool.and_false]
      rfl
    · rw [pk_un hqr, h3 q (by omega) k hk, decide_eq_false hqr, Bool.and_assoc]
      rfl
  unfold pa
  rw [← e]
  cases hu : ucs (upd C r 0) n (A s &&& B d) k with
  | none => rfl
  | some j => exact hP.2.2.2 j (ucs_lt hu)
