/-- what the rules of a set do to a service -/
def pa (C D : Nat → Int32) (n : Nat) (set : Int32) (k : Nat) : Int32 := match ucs C n set k with | some j => D j | none => 0
/-- what a picture remembers of the last set -/
def LKI (C D : Nat → Int32) (n : Nat) (sn al re : Int32) : Prop := ∀ k, k < 32 → tb al k = decide (pa C D n sn k = 1) ∧ tb re k = decide (pa C D n sn k = 2)
theorem ucs_zero {C : Nat → Int32} {n k : Nat} : ucs C n 0 k = none := fst1_no (fun q _ _ => by rw [tb_0, Bool.false_and])
theorem LKI_0 (C D : Nat → Int32) (n : Nat) : LKI C D n 0 0 0 := by
  intro k hk
  have e : pa C D n 0 k = 0 := by unfold pa; rw [ucs_zero]
  rw [e, tb_0]
  exact ⟨by decide, by decide⟩
theorem pa_true {C D : Nat → Int32} {n k : Nat} {set : Int32} (h : tb set n = true) : pa C D (n + 1) set k = if ((ucs C n set k).isNone && tb (C n) k) then D n else pa C D n set k := by
  unfold pa
  rw [ucs_succ, h]
  cases ucs C n set k with
  | some j => rfl
  | none => cases tb (C n) k <;> rfl
theorem pa_false {C D : Nat → Int32} {n k : Nat} {set : Int32} (h : tb set n = false) : pa C D (n + 1) set k = pa C D n set k := by
  unfold pa
  rw [ucs_succ, h]
  cases ucs C n set k <;> rfl
theorem ucs_false {C : Nat → Int32} {n k : Nat} {set : Int32} (h : tb set n = false) : ucs C (n + 1) set k = ucs C n set k := by
  rw [ucs_succ, h]
  cases ucs C n set k <;> rfl
theorem ucs_true {C : Nat → Int32} {n k : Nat} {set : Int32} (h : tb set n = true) : (ucs C (n + 1) set k).isNone = ((ucs C n set k).isNone && !tb (C n) k) := by
  rw [ucs_succ, h]
  cases ucs C n set k with
  | some j => rfl
  | none => cases tb (C n) k <;> rfl
theorem pa_none {C D : Nat → Int32} {n k : Nat} {set : Int32} (h : (ucs C n set k).isNone = true) : pa C D n set k = 0 := by
  unfold pa
  cases hu : ucs C n set k with
  | none => rfl
  | some j => rw [hu] at h; cases h
theorem pa_act {C D : Nat → Int32} {n k : Nat} {set : Int32} (hD : ∀ r, r < n → act (D r)) : act (pa C D n set k) := by
  unfold pa
  cases hu : ucs C n set k with
  | none => exact Or.inl rfl
  | some j => exact hD j (ucs_lt hu)
theorem lk_in {x u c : Bool} {p d v : Int32} (h : x = decide (p = v)) (hd : d = v) : (x || (u && c)) = decide ((if (u && c) then d else p) = v) := by
  cases (u && c) with
  | false => rw [Bool.or_false, if_neg (by decide)]; exact h
  | true => rw [Bool.or_true, if_pos rfl, decide_eq_true hd]
theorem lk_out {x u c : Bool} {p d v : Int32} (h : x = decide (p = v)) (hp : u = true → p = 0) (hv : (0 : Int32) ≠ v) (hd : ¬ d = v) : x = decide ((if (u && c) then d else p) = v) := by
  cases huc : (u && c) with
  | false => rw [if_neg (by decide)]; exact h
  | true =>
    rw [if_pos rfl, decide_eq_false hd, h, hp (Bool.and_eq_true_iff.mp huc).1, decide_eq_false hv]
theorem f_look {fu n : Nat} {C D : Nat → Int32} {sn al re set : Int32} (hf : 2000 < fu) (hn : n ≤ 12) (h : LKI C D n sn al re) : ∃ al' re', f_X1_look fu (nI n) sn al re C D set = some (set, al', re') ∧ LKI C D n set al' re' := by
  unfold f_X1_look
  by_cases hs : set = sn
  · rw [if_pos hs]
    subst hs
    exact ⟨al, re, rfl, h⟩
  · rw [if_neg hs]
    show ∃ al' re', f_X1_look_L22 fu (fun (x1 : Int32) (x2 : Int32) (x3 : Int32) (x4 : Int32) => some (set, x3, x4)) set (nI n) C D fu (-1) 0 0 0 = some (set, al', re') ∧ LKI C D n set al' re'
    refine Exists.elim (loopP (L := fun m i (s : Int32 × Int32 × Int32) => f_X1_look_L22 fu (fun (x1 : Int32) (x2 : Int32) (x3 : Int32) (x4 : Int32) => some (set, x3, x4)) set (nI n) C D m s.1 i s.2.1 s.2.2) (fun i s => ∀ k, k < 32 → tb s.1 k = (ucs C i set k).isNone ∧ tb s.2.1 k = decide (pa C D i set k = 1) ∧ tb s.2.2 k = decide (pa C D i set k = 2)) (N := n) (K := fun s => some (set, s.2.1, s.2.2)) ?_ ?_ n 0 fu (-1, 0, 0) (by omega) (by omega) ?_) ?_
    · rintro m i ⟨lf, a, r⟩ hi hP
      show ∃ s' : Int32 × Int32 × Int32, f_X1_look_L22 fu _ set (nI n) C D (m + 1) lf (nI i) a r = f_X1_look_L22 fu _ set (nI n) C D m s'.1 (nI (i + 1)) s'.2.1 s'.2.2 ∧ _
      have hz : zok (nI i) 12 = true := zok_nI (by omega) (by decide)
      rw [f_X1_look_L22, if_neg (nI_ge hi (by omega)), f_holds (by omega), bs, nI_1 i]
      cases hq : tb set i with
      | false =>
        rw [iteF]
        refine ⟨(lf, a, r), rfl, fun k hk => ?_⟩
        rw [ucs_false hq, pa_false hq]
        exact hP k hk
      | true =>
        rw [iteT]
        simp only [if_pos hz, nI_clamp (show i < 2 ^ 31 by omega)]
        by_cases h1 : D i = 1
        · rw [if_pos h1]
          refine ⟨(lf &&& (C i ^^^ (-1)), a ||| (lf &&& C i), r), rfl, fun k hk => ?_⟩
          obtain ⟨p1, p2, p3⟩ := hP k hk
          refine ⟨?_, ?_, ?_⟩
          · show tb (lf &&& (C i ^^^ (-1))) k = _
            rw [tb_and, tb_not hk, ucs_true hq]
            exact congrArg (fun x => x && !tb (C i) k) p1
          · show tb (a ||| (lf &&& C i)) k = _
            rw [tb_or, tb_and, pa_true hq, show tb lf k = (ucs C i set k).isNone from p1]
            exact lk_in p2 h1
          · show tb r k = _
            rw [pa_true hq]
            exact lk_out p3 (fun hu => pa_none hu) (by decide) (by rw [h1]; decide)
        · rw [if_neg h1]
          by_cases h2 : D i = 2
          · rw [if_pos h2]
            refine ⟨(lf &&& (C i ^^^ (-1)), a, r ||| (lf &&& C i)), rfl, fun k hk => ?_⟩
            obtain ⟨p1, p2, p3⟩ := hP k hk
            refine ⟨?_, ?_, ?_⟩
            · show tb (lf &&& (C i ^^^ (-1))) k = _
              rw [tb_and, tb_not hk, ucs_true hq]
              exact congrArg (fun x => x && !tb (C i) k) p1
            · show tb a k = _
              rw [pa_true hq]
              exact lk_out p2 (fun hu => pa_none hu) (by decide) h1
            · show tb (r ||| (lf &&& C i)) k = _
              rw [tb_or, tb_and, pa_true hq, show tb lf k = (ucs C i set k).isNone from p1]
              exact lk_in p3 h2
          · rw [if_neg h2]
            refine ⟨(lf &&& (C i ^^^ (-1)), a, r), rfl, fun k hk => ?_⟩
            obtain ⟨p1, p2, p3⟩ := hP k hk
            refine ⟨?_, ?_, ?_⟩
            · show tb (lf &&& (C i ^^^ (-1))) k = _
              rw [tb_and, tb_not hk, ucs_true hq]
              exact congrArg (fun x => x && !tb (C i) k) p1
            · show tb a k = _
              rw [pa_true hq]
              exact lk_out p2 (fun hu => pa_none hu) (by decide) h1
            · show tb r k = _
              rw [pa_true hq]
              exact lk_out p3 (fun hu => pa_none hu) (by decide) h2
    · rintro m ⟨lf, a, r⟩ _
      show f_X1_look_L22 fu _ set (nI n) C D (m + 1) lf (nI n) a r = _
      rw [f_X1_look_L22, if_pos (nI_le (Nat.le_refl _) (by omega))]
    · intro k hk
      show tb (-1) k = true ∧ tb 0 k = decide ((0 : Int32) = 1) ∧ tb 0 k = decide ((0 : Int32) = 2)
      rw [tb_m1 k hk, tb_0]
      exact ⟨rfl, by decide, by decide⟩
    · rintro ⟨lf, a, r⟩ ⟨e1, e2⟩
      exact ⟨a, r, e1, fun k hk => (e2 k hk).2⟩
theorem pa_dec {A B C D tf zo : Nat → Int32} {n s d k : Nat} (hP : PIC A B C D n tf zo) (hn : n ≤ 12) (hs : s < 32) (hd : d < 32) (hk : k < 32) : pa C D n (A s &&& B d) k = acn tf (decC tf zo n (1024 * s + 32 * d + k)) := by
  unfold pa
  rw [← ucs_dec hP hn hs hd hk]
  cases hu : ucs C n (A s &&& B d) k with
  | none => rfl
  | some j => exact hP.2.2.2 j (ucs_lt hu)
theorem f_servicesWithAction {C D : Nat → Int32} {n a : Nat} {set al re : Int32} (hL : LKI C D n set al re) (ha : a ≤ 2) (hA : ∀ k, act (pa C D n set k)) : ∃ x, f_X1_servicesWithAction al re (nI a) = some x ∧ ∀ k, k < 32 → tb x k = decide (pa C D n set k = nI a) := by
  unfold f_X1_servicesWithAction
  have h3 : a = 0 ∨ a = 1 ∨ a = 2 := by omega
  rcases h3 with rfl | rfl | rfl
  · rw [if_neg (by decide), if_neg (by decide)]
    refine ⟨_, rfl, fun k hk => ?_⟩
    rw [tb_not hk, tb_or, (hL k hk).1, (hL k hk).2]
    have := hA k
    generalize pa C D n set k = p at this
    rcases this with rfl | rfl | rfl <;> decide
  · rw [if_pos (by decide)]
    exact ⟨_, rfl, fun k hk => (hL k hk).1⟩
  · rw [if_neg (by decide), if_pos (by decide)]
    exact ⟨_, rfl, fun k hk => (hL k hk).2⟩
theorem f_casesWithAction {fu n a : Nat} {A B C D : Nat → Int32} {p : Nat → Bool} (hf : 2000 < fu) (hn : n ≤ 12) (ha : a ≤ 2) (hD : ∀ r, r < n → act (D r)) (hp : ∀ s d k, s < 32 → d < 32 → k < 32 → decide (pa C D n (A s &&& B d) k = nI a) = p (1024 * s + 32 * d + k)) : ∃ sn al re, f_X1_casesWithAction fu (nI n) 0 0 0 A B C D (nI a) = some (nI (cnt p 32768), sn, al, re) := by
  unfold f_X1_casesWithAction
  rw [← cnt_cases]
  have inner : ∀ (K : Int32 → Int32 → Int32 → Int32 → Int32 → Option (Int32 × Int32 × Int32 × Int32)) (s acc : Nat) (sn al re : Int32), s < 32 → LKI C D n sn al re → ∃ sn' al' re', f_X1_casesWithAction_L13 fu K (nI a) (nI s) (nI n) A B C D fu (nI acc) 0 sn al re = K (nI (acc + sum (fun d => cnt (fun k => p (1024 * s + 32 * d + k)) 32) 32)) (nI 32) sn' al' re' ∧ LKI C D n sn' al' re' := by
    intro K s acc sn al re hs hL
    refine Exists.elim (loopP (L := fun m i (x : Int32 × Int32 × Int32 × Int32) => f_X1_casesWithAction_L13 fu K (nI a) (nI s) (nI n) A B C D m x.1 i x.2.1 x.2.2.1 x.2.2.2) (fun i x => x.1 = nI (acc + sum (fun d => cnt (fun k => p (1024 * s + 32 * d + k)) 32) i) ∧ LKI C D n x.2.1 x.2.2.1 x.2.2.2) (N := 32) (K := fun x => K x.1 (nI 32) x.2.1 x.2.2.1 x.2.2.2) ?_ ?_ 32 0 fu (nI acc, sn, al, re) (by omega) (by omega) ⟨rfl, hL⟩) ?_
    · rintro m i ⟨x1, x2, x3, x4⟩ hi ⟨hx, hL⟩
      replace hx : x1 = nI (acc + sum (fun d => cnt (fun k => p (1024 * s + 32 * d + k)) 32) i) := hx
      obtain ⟨al', re', l1, l2⟩ := f_look (set := A s &&& B i) hf hn hL
      obtain ⟨y, y1, y2⟩ := f_servicesWithAction l2 ha (fun k => pa_act hD)
      refine ⟨(nI (acc + sum (fun d => cnt (fun k => p (1024 * s + 32 * d + k)) 32) (i + 1)), A s &&& B i, al', re'), ?_, rfl, l2⟩
      show f_X1_casesWithAction_L13 fu K (nI a) (nI s) (nI n) A B C D (m + 1) x1 (nI i) x2 x3 x4 = f_X1_casesWithAction_L13 fu K (nI a) (nI s) (nI n) A B C D m (nI (acc + (sum (fun d => cnt (fun k => p (1024 * s + 32 * d + k)) 32) i + cnt (fun k => p (1024 * s + 32 * i + k)) 32))) (nI (i + 1)) (A s &&& B i) al' re'
      rw [f_X1_casesWithAction_L13, if_neg (show ¬ (32 : Int32) ≤ nI i by rw [q32]; exact nI_ge (by omega) (by decide)), if_pos (zok_nI hs (by decide)), if_pos (zok_nI hi (by decide)), nI_clamp (show s < 2 ^ 31 by omega), nI_clamp (show i < 2 ^ 31 by omega)]
      replace l1 : f_X1_look fu (nI n) x2 x3 x4 C D (A s &&& B i) = some (A s &&& B i, al', re') := l1
      rw [l1, bs]
      dsimp only
      rw [y1, bs, f_bitCount, bs, hx, nI_add, nI_1 i, cnt_congr (fun k hk => (y2 k hk).trans (hp s i k hs hi hk)), Nat.add_assoc]
    · rintro m ⟨x1, x2, x3, x4⟩ _
      show f_X1_casesWithAction_L13 fu K (nI a) (nI s) (nI n) A B C D (m + 1) x1 (nI 32) x2 x3 x4 = _
      rw [f_X1_casesWithAction_L13, if_pos (by decide)]
    · rintro ⟨x1, x2, x3, x4⟩ ⟨e1, hx, e2⟩
      replace hx : x1 = nI (acc + sum (fun d => cnt (fun k => p (1024 * s + 32 * d + k)) 32) 32) := hx
      subst hx
      exact ⟨x2, x3, x4, e1, e2⟩
  refine Exists.elim (loopP (L := fun m i (x : Int32 × Int32 × Int32 × Int32) => f_X1_casesWithAction_L4 fu (fun (x6 : Int32) (x7 : Int32) (x8 : Int32) (x9 : Int32) (x10 : Int32) => some (x6, x8, x9, x10)) (nI a) (nI n) A B C D m x.1 i x.2.1 x.2.2.1 x.2.2.2) (fun i x => x.1 = nI (sum (fun s => sum (fun d => cnt (fun k => p (1024 * s + 32 * d + k)) 32) 32) i) ∧ LKI C D n x.2.1 x.2.2.1 x.2.2.2) (N := 32) (K := fun x => some (x.1, x.2.1, x.2.2.1, x.2.2.2)) ?_ ?_ 32 0 fu (0, 0, 0, 0) (by omega) (by omega) ⟨rfl, LKI_0 C D n⟩) ?_
  · rintro m i ⟨x1, x2, x3, x4⟩ hi ⟨hx, hL⟩
    replace hx : x1 = nI (sum (fun s => sum (fun d => cnt (fun k => p (1024 * s + 32 * d + k)) 32) 32) i) := hx
    subst hx
    obtain ⟨sn', al', re', l1, l2⟩ := inner (fun (x1 : Int32) (x2 : Int32) (x3 : Int32) (x4 : Int32) (x5 : Int32) => f_X1_casesWithAction_L4 fu (fun (x6 : Int32) (x7 : Int32) (x8 : Int32) (x9 : Int32) (x10 : Int32) => some (x6, x8, x9, x10)) (nI a) (nI n) A B C D m x1 (nI (i + 1)) x3 x4 x5) i (sum (fun s => sum (fun d => cnt (fun k => p (1024 * s + 32 * d + k)) 32) 32) i) x2 x3 x4 hi hL
    refine ⟨(nI (sum (fun s => sum (fun d => cnt (fun k => p (1024 * s + 32 * d + k)) 32) 32) i + sum (fun d => cnt (fun k => p (1024 * i + 32 * d + k)) 32) 32), sn', al', re'), ?_, rfl, l2⟩
    · show f_X1_casesWithAction_L4 fu _ (nI a) (nI n) A B C D (m + 1) _ (nI i) x2 x3 x4 = _
      rw [f_X1_casesWithAction_L4, if_neg (show ¬ (32 : Int32) ≤ nI i by rw [q32]; exact nI_ge (by omega) (by decide)), nI_1 i]
      exact l1
  · rintro m ⟨x1, x2, x3, x4⟩ _
    show f_X1_casesWithAction_L4 fu _ (nI a) (nI n) A B C D (m + 1) x1 (nI 32) x2 x3 x4 = _
    rw [f_X1_casesWithAction_L4, if_pos (by decide)]
  · rintro ⟨x1, x2, x3, x4⟩ ⟨e1, hx, e2⟩
    replace hx : x1 = nI (sum (fun s => sum (fun d => cnt (fun k => p (1024 * s + 32 * d + k)) 32) 32) 32) := hx
    subst hx
    exact ⟨x2, x3, x4, e1⟩
theorem df {p q : Int32} (hp : act p) (hq : act q) : ((decide (p = 1) ^^ decide (q = 1)) || (decide (p = 2) ^^ decide (q = 2))) = decide (p ≠ q) := by
  rcases hp with rfl | rfl | rfl <;> rcases hq with rfl | rfl | rfl <;> decide
theorem f_differing {fu n n2 s d : Nat} {A B C D A2 B2 C2 D2 : Nat → Int32} {sn al re sn2 al2 re2 : Int32} (hf : 2000 < fu) (hn : n ≤ 12) (hn2 : n2 ≤ 12) (hD : ∀ r, r < n → act (D r)) (hD2 : ∀ r, r < n2 → act (D2 r)) (h1 : LKI C D n sn al re) (h2 : LKI C2 D2 n2 sn2 al2 re2) (hs : s < 32) (hd : d < 32) : ∃ x al' re' al2' re2', f_X1_differingServices fu (nI n) sn al re A B C D (nI n2) sn2 al2 re2 A2 B2 C2 D2 (nI s) (nI d) = some (x, A s &&& B d, al', re', A2 s &&& B2 d, al2', re2') ∧ LKI C D n (A s &&& B d) al' re' ∧ LKI C2 D2 n2 (A2 s &&& B2 d) al2' re2' ∧ ∀ k, k < 32 → tb x k = decide (pa C D n (A s &&& B d) k ≠ pa C2 D2 n2 (A2 s &&& B2 d) k) := by
  obtain ⟨al', re', l1, l2⟩ := f_look (set := A s &&& B d) hf hn h1
  obtain ⟨al2', re2', l3, l4⟩ := f_look (set := A2 s &&& B2 d) hf hn2 h2
  unfold f_X1_differingServices
  have zs : zin (nI s) 0 31 = true := by rw [q31, zin_nI (by omega) (by decide)]; exact decide_eq_true (by omega)
  have zd : zin (nI d) 0 31 = true := by rw [q31, zin_nI (by omega) (by decide)]; exact decide_eq_true (by omega)
  have ks : zok (nI s) 32 = true := zok_nI hs (by decide)
  have kd : zok (nI d) 32 = true := zok_nI hd (by decide)
  rw [f_within, bs, zs, iteT, f_within, bs, zd, iteT, if_pos ks, if_pos kd, nI_clamp (show s < 2 ^ 31 by omega), nI_clamp (show d < 2 ^ 31 by omega), l1, bs, if_pos ks, if_pos kd, l3, bs]
  refine ⟨_, _, _, _, _, rfl, l2, l4, fun k hk => ?_⟩
  show tb ((al' ^^^ al2') ||| (re' ^^^ re2')) k = _
  rw [tb_or, tb_xor, tb_xor, (l2 k hk).1, (l2 k hk).2, (l4 k hk).1, (l4 k hk).2]
  exact df (pa_act hD) (pa_act hD2)
theorem loopE {S T : Type} {L : Nat → Int32 → S → Option T} (P : Nat → S → Prop) {N : Nat} {K : S → Option T} {X : Option T → Prop} (hs : ∀ n i s, i < N → P i s → (∃ s', L (n + 1) (nI i) s = L n (nI (i + 1)) s' ∧ P (i + 1) s') ∨ X (L (n + 1) (nI i) s)) (he : ∀ n s, P N s → L (n + 1) (nI N) s = K s) : ∀ (m i n : Nat) (s : S), i + m = N → m < n → P i s → (∃ s', L n (nI i) s = K s' ∧ P N s') ∨ X (L n (nI i) s) := by
  intro m
  induction m with
  | zero =>
    intro i n s hi hn h
    obtain ⟨n, rfl⟩ : ∃ m, n = m + 1 := ⟨n - 1, by omega⟩
    obtain rfl : i = N := by omega
    exact Or.inl ⟨s, he n s h, h⟩
  | succ m ih =>
    intro i n s hi hn h
    obtain ⟨n, rfl⟩ : ∃ m, n = m + 1 := ⟨n - 1, by omega⟩
    rcases hs n i s (by omega) h with ⟨s', e1, e2⟩ | hx
    · rw [e1]
      exact ih (i + 1) n s' (by omega) (by omega) e2
    · exact Or.inr hx
