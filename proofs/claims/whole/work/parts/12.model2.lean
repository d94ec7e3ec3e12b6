def f_X6_decides (fu : Nat) (now : Nat → Int32) (fitting : Nat → Int32) (refused : Nat → Int32) (a1 : Int32) (a2 : Int32) (a3 : Int32) (a4 : Int32) : Option (Int32 × (Nat → Int32) × (Nat → Int32)) :=
  (f_X6_isCase  a1 a2 a3 a4).bind fun r1 => if (zB r1) = 0 then ((f_X6_bad refused ).bind fun r6 => some (r6.1, fitting, r6.2)) else ((f_X6_findsNow fu now fitting ).bind fun r2 => (f_X6_caseOf  a1 a2 a3 a4).bind fun r3 => (f_X6_fits r2 0 r3).bind fun r4 => (f_X6_firstOf fu  r4).bind fun r5 => some (r5, r2, refused))
abbrev wk_X6_decides : List Cond := Cond.code yX6_decides cX6_decides 5 (some .int) :: WB
abbrev rm_X6_decides : Room := { frames := 4, cells := 0, slots := 0, locals := 91 }
set_option maxHeartbeats 4000000 in
set_option maxRecDepth 100000 in
theorem c_X6_decides (l : Launch) (D : va_G) (k : Nat → Nat) (o on op orr ot oh og od : Nat) (states : Int32) (bytes : Int32) (reading : Int32) (at_ : Int32) (wrongAt : Int32) (number : Int32) (hh : Int64) (now : Nat → Int32) (fitting : Nat → Int32) (refused : Nat → Int32) (a1 : Int32) (a2 : Int32) (a3 : Int32) (a4 : Int32) (fu : Nat) {res : Int32 × (Nat → Int32) × (Nat → Int32)} (h : f_X6_decides fu now fitting refused a1 a2 a3 a4 = some res) : Ci l yX6_decides wk_X6_decides rm_X6_decides D k [.ref o, .int a1, .int a2, .int a3, .int a4] [(o, .inr (6, [.ref on, .ref op, .int states, .ref orr, .ref ot, .int bytes, .ref oh, .ref og, .ref od, .int reading, .int at_, .int wrongAt, .int number, .long hh])), (on, .inl (k 0, 401, .inl now)), (og, .inl (k 0, 164, .inl fitting)), (orr, .inl (k 0, 3, .inl refused))] [(o, .inr (6, [.ref on, .ref op, .int states, .ref orr, .ref ot, .int bytes, .ref oh, .ref og, .ref od, .int reading, .int at_, .int wrongAt, .int number, .long hh])), (on, .inl (k 0, 401, .inl now)), (og, .inl (k 0, 164, .inl res.2.1)), (orr, .inl (k 0, 3, .inl res.2.2))] res.1 := by
  unfold Ci
  intro sz
  refine Met.ofW (cc := cX6_decides) (maxL := 5) (ret := (some .int)) (by decide) rfl ?_
  intro p e s m args below meth c s₁ B hml hv
  obtain ⟨rfl, hsz, hP, hK, hD0, hm⟩ := hv
  have hx := B.exec
  have hb := B.bytes
  have hr := B.returns
  have ht : ∀ w ∈ WB, w.before _ s = true := fun w hw => atoms_spec (ws := wk_X6_decides) B.pre w (List.mem_cons_of_mem _ hw)
  have hown : s.vm.findClass RX6 = some m.cls := findClass_of_methodNamed B.named
  have hlocks := B.notSynchronized
  subst hsz
  have hD := hD0.self (sz := s.heap.size)
  generalize hAe : va_A [(o, .inr (6, [.ref on, .ref op, .int states, .ref orr, .ref ot, .int bytes, .ref oh, .ref og, .ref od, .int reading, .int at_, .int wrongAt, .int number, .long hh])), (on, .inl (k 0, 401, .inl now)), (og, .inl (k 0, 164, .inl fitting)), (orr, .inl (k 0, 3, .inl refused))] s.heap.size = A at hD hm ⊢
  have hA : ∀ q : Nat, s.heap.size ≤ q → A q := fun q h => by rw [← hAe]; exact Or.inr h
  have hS : va_S A s.heap s.heap [] := va_S.rf
  have hl := lv_entry ([.ref o, .int a1, .int a2, .int a3, .int a4]) (n := 5) (Nat.le_of_ble_eq_true rfl)
  rw [lg_entry_eq]
  generalize (lg_sl ([.ref o, .int a1, .int a2, .int a3, .int a4]) ++ List.replicate (5 - (lg_sl ([.ref o, .int a1, .int a2, .int a3, .int a4])).length) Slot.unset).toArray = ls at hl ⊢
  have hl : lv_has ls 5 [(0, .ref o), (1, .int a1), (2, .int a2), (3, .int a3), (4, .int a4)] := hl
  obtain ⟨H, hH⟩ : ∃ H, H = s.heap := ⟨_, rfl⟩
  rw [← hH] at hP
  have hS : va_S A s.heap H [] := by rw [hH]; exact hS
  suffices hgo : W p l e _ s m _ below meth c H [] 0 0 _ _ by rw [hH] at hgo; exact hgo
  unfold f_X6_decides at h
  refine lv_iload_n hx hb dX6_decides_0 rfl (lv_at hl 1 rfl) ?_
  refine lv_iload_n hx hb dX6_decides_1 rfl (lv_at hl 2 rfl) ?_
  refine lv_iload_n hx hb dX6_decides_2 rfl (lv_at hl 3 rfl) ?_
  refine lv_iload hx hb dX6_decides_3 (lv_at hl 4 rfl) ?_
  obtain ⟨r1, h1, h⟩ := zb h
  refine zi (zrS (As := [.int a1, .int a2, .int a3, .int a4]) (rest := []) ⟨hx, hb, hml, hown, ht⟩ (c_X6_isCase l D k   a1 a2 a3 a4 h1 _) (va_cwS 4 ht (gdS wb896 wb897 wb80 wb898) rfl rfl rfl (by decide +kernel) ⟨Nat.le_of_ble_eq_true rfl, Nat.le_of_ble_eq_true rfl⟩) hK hP hD hS hA hm [] rfl rfl rfl hl.1 rfl (Nat.le_of_ble_eq_true rfl) dX6_decides_5 ⟨Nat.le_refl _, Nat.le_refl _⟩) hP hD hS hA [] rfl rfl (fun H locs hP hD hS => ?_)
  have hP : va_P D vwCl [(o, .inr (6, [.ref on, .ref op, .int states, .ref orr, .ref ot, .int bytes, .ref oh, .ref og, .ref od, .int reading, .int at_, .int wrongAt, .int number, .long hh])), (on, .inl (k 0, 401, .inl now)), (og, .inl (k 0, 164, .inl fitting)), (orr, .inl (k 0, 3, .inl refused))] H := hP
  have hD : va_D A [(o, .inr (6, [.ref on, .ref op, .int states, .ref orr, .ref ot, .int bytes, .ref oh, .ref og, .ref od, .int reading, .int at_, .int wrongAt, .int number, .long hh])), (on, .inl (k 0, 401, .inl now)), (og, .inl (k 0, 164, .inl fitting)), (orr, .inl (k 0, 3, .inl refused))] := hD
  refine lv_if_ne (tgt := 16) hx hb dX6_decides_8 (by decide) (fun c1 => ?_) (fun c1 => ?_)
  · have h := zf h c1
    refine lv_aload_n hx hb dX6_decides_16 rfl (lv_at hl 0 rfl) ?_
    obtain ⟨r2, h2, h⟩ := zb h
    refine zv (zrV (C := RX6) (T := TX6) (N := 14) (As := []) (rest := []) ⟨hx, hb, hml, hown, ht⟩ (c_X6_findsNow l D k o on op orr ot oh og od states bytes reading at_ wrongAt number hh now fitting  fu h2 _) (cwV 0 ht (gdV wb899 wb901 wb36 wb80 wb902) rfl rfl rfl (by decide +kernel) ⟨Nat.le_of_ble_eq_true rfl, Nat.le_of_ble_eq_true rfl⟩) hK hP hD hS hA hm [0, 1, 2] rfl rfl 0 6 rfl rfl rfl hl.1 rfl (Nat.le_of_ble_eq_true rfl) dX6_decides_17 ⟨Nat.le_refl _, Nat.le_refl _⟩) hP hD hS hA [0, 1, 2] rfl rfl (fun H locs hP hD hS => ?_)
    have hP : va_P D vwCl [(o, .inr (6, [.ref on, .ref op, .int states, .ref orr, .ref ot, .int bytes, .ref oh, .ref og, .ref od, .int reading, .int at_, .int wrongAt, .int number, .long hh])), (on, .inl (k 0, 401, .inl now)), (og, .inl (k 0, 164, .inl r2)), (orr, .inl (k 0, 3, .inl refused))] H := hP
    have hD : va_D A [(o, .inr (6, [.ref on, .ref op, .int states, .ref orr, .ref ot, .int bytes, .ref oh, .ref og, .ref od, .int reading, .int at_, .int wrongAt, .int number, .long hh])), (on, .inl (k 0, 401, .inl now)), (og, .inl (k 0, 164, .inl r2)), (orr, .inl (k 0, 3, .inl refused))] := hD
    refine lv_aload_n hx hb dX6_decides_20 rfl (lv_at hl 0 rfl) ?_
    refine lv_iconst (v := 0) hx hb dX6_decides_21 (by decide) ?_
    refine lv_iload_n hx hb dX6_decides_22 rfl (lv_at hl 1 rfl) ?_
    refine lv_iload_n hx hb dX6_decides_23 rfl (lv_at hl 2 rfl) ?_
    refine lv_iload_n hx hb dX6_decides_24 rfl (lv_at hl 3 rfl) ?_
    refine lv_iload hx hb dX6_decides_25 (lv_at hl 4 rfl) ?_
    obtain ⟨r3, h3, h⟩ := zb h
    refine zi (zrS (As := [.int a1, .int a2, .int a3, .int a4]) (rest := [.int 0, .ref o]) ⟨hx, hb, hml, hown, ht⟩ (c_X6_caseOf l D k   a1 a2 a3 a4 h3 _) (va_cwS 4 ht (gdS wb915 wb916 wb80 wb917) rfl rfl rfl (by decide +kernel) ⟨Nat.le_of_ble_eq_true rfl, Nat.le_of_ble_eq_true rfl⟩) hK hP hD hS hA hm [] rfl rfl rfl hl.1 rfl (Nat.le_of_ble_eq_true rfl) dX6_decides_27 ⟨Nat.le_refl _, Nat.le_refl _⟩) hP hD hS hA [] rfl rfl (fun H locs hP hD hS => ?_)
    have hP : va_P D vwCl [(o, .inr (6, [.ref on, .ref op, .int states, .ref orr, .ref ot, .int bytes, .ref oh, .ref og, .ref od, .int reading, .int at_, .int wrongAt, .int number, .long hh])), (on, .inl (k 0, 401, .inl now)), (og, .inl (k 0, 164, .inl r2)), (orr, .inl (k 0, 3, .inl refused))] H := hP
    have hD : va_D A [(o, .inr (6, [.ref on, .ref op, .int states, .ref orr, .ref ot, .int bytes, .ref oh, .ref og, .ref od, .int reading, .int at_, .int wrongAt, .int number, .long hh])), (on, .inl (k 0, 401, .inl now)), (og, .inl (k 0, 164, .inl r2)), (orr, .inl (k 0, 3, .inl refused))] := hD
    obtain ⟨r4, h4, h⟩ := zb h
    refine zi (zrV (C := RX6) (T := TX6) (N := 14) (As := [.int 0, .int r3]) (rest := []) ⟨hx, hb, hml, hown, ht⟩ (c_X6_fits l D k o on op orr ot oh og od states bytes reading at_ wrongAt number hh r2 0 r3 h4 _) (cwV 2 ht (gdV wb918 wb920 wb40 wb80 wb921) rfl rfl rfl (by decide +kernel) ⟨Nat.le_of_ble_eq_true rfl, Nat.le_of_ble_eq_true rfl⟩) hK hP hD hS hA hm [0, 2] rfl rfl 0 6 rfl rfl rfl hl.1 rfl (Nat.le_of_ble_eq_true rfl) dX6_decides_30 ⟨Nat.le_refl _, Nat.le_refl _⟩) hP hD hS hA [0, 2] rfl rfl (fun H locs hP hD hS => ?_)
    have hP : va_P D vwCl [(o, .inr (6, [.ref on, .ref op, .int states, .ref orr, .ref ot, .int bytes, .ref oh, .ref og, .ref od, .int reading, .int at_, .int wrongAt, .int number, .long hh])), (on, .inl (k 0, 401, .inl now)), (og, .inl (k 0, 164, .inl r2)), (orr, .inl (k 0, 3, .inl refused))] H := hP
    have hD : va_D A [(o, .inr (6, [.ref on, .ref op, .int states, .ref orr, .ref ot, .int bytes, .ref oh, .ref og, .ref od, .int reading, .int at_, .int wrongAt, .int number, .long hh])), (on, .inl (k 0, 401, .inl now)), (og, .inl (k 0, 164, .inl r2)), (orr, .inl (k 0, 3, .inl refused))] := hD
    obtain ⟨r5, h5, h⟩ := zb h
    refine zi (zrS (As := [.int r4]) (rest := []) ⟨hx, hb, hml, hown, ht⟩ (c_X6_firstOf l D k   r4 fu h5 _) (va_cwS 1 ht (gdS wb931 wb932 wb80 wb933) rfl rfl rfl (by decide +kernel) ⟨Nat.le_of_ble_eq_true rfl, Nat.le_of_ble_eq_true rfl⟩) hK hP hD hS hA hm [] rfl rfl rfl hl.1 rfl (Nat.le_of_ble_eq_true rfl) dX6_decides_33 ⟨Nat.le_refl _, Nat.le_refl _⟩) hP hD hS hA [] rfl rfl (fun H locs hP hD hS => ?_)
    have hP : va_P D vwCl [(o, .inr (6, [.ref on, .ref op, .int states, .ref orr, .ref ot, .int bytes, .ref oh, .ref og, .ref od, .int reading, .int at_, .int wrongAt, .int number, .long hh])), (on, .inl (k 0, 401, .inl now)), (og, .inl (k 0, 164, .inl r2)), (orr, .inl (k 0, 3, .inl refused))] H := hP
    have hD : va_D A [(o, .inr (6, [.ref on, .ref op, .int states, .ref orr, .ref ot, .int bytes, .ref oh, .ref og, .ref od, .int reading, .int at_, .int wrongAt, .int number, .long hh])), (on, .inl (k 0, 401, .inl now)), (og, .inl (k 0, 164, .inl r2)), (orr, .inl (k 0, 3, .inl refused))] := hD
    obtain rfl := Option.some.inj h
    exact W.iret (v := r5) hx hb hr (fun t ht9 hW => ⟨⟨_, (), rfl, rfl, zend ht9 hP⟩, hS.F ht9⟩) hS.2.2 dX6_decides_36
  · have h := zt h c1
    refine lv_aload_n hx hb dX6_decides_11 rfl (lv_at hl 0 rfl) ?_
    obtain ⟨r6, h6, h⟩ := zb h
    refine zi (zrV (C := RX6) (T := TX6) (N := 14) (As := []) (rest := []) ⟨hx, hb, hml, hown, ht⟩ (c_X6_bad l D k o on op orr ot oh og od states bytes reading at_ wrongAt number hh refused  h6 _) (cwV 0 ht (gdV wb826 wb828 wb29 wb80 wb829) rfl rfl rfl (by decide +kernel) ⟨Nat.le_of_ble_eq_true rfl, Nat.le_of_ble_eq_true rfl⟩) hK hP hD hS hA hm [0, 3] rfl rfl 0 6 rfl rfl rfl hl.1 rfl (Nat.le_of_ble_eq_true rfl) dX6_decides_12 ⟨Nat.le_refl _, Nat.le_refl _⟩) hP hD hS hA [0, 3] rfl rfl (fun H locs hP hD hS => ?_)
    have hP : va_P D vwCl [(o, .inr (6, [.ref on, .ref op, .int states, .ref orr, .ref ot, .int bytes, .ref oh, .ref og, .ref od, .int reading, .int at_, .int wrongAt, .int number, .long hh])), (on, .inl (k 0, 401, .inl now)), (og, .inl (k 0, 164, .inl fitting)), (orr, .inl (k 0, 3, .inl r6.2))] H := hP
    have hD : va_D A [(o, .inr (6, [.ref on, .ref op, .int states, .ref orr, .ref ot, .int bytes, .ref oh, .ref og, .ref od, .int reading, .int at_, .int wrongAt, .int number, .long hh])), (on, .inl (k 0, 401, .inl now)), (og, .inl (k 0, 164, .inl fitting)), (orr, .inl (k 0, 3, .inl r6.2))] := hD
    obtain rfl := Option.some.inj h
    exact W.iret (v := r6.1) hx hb hr (fun t ht9 hW => ⟨⟨_, (), rfl, rfl, zend ht9 hP⟩, hS.F ht9⟩) hS.2.2 dX6_decides_15
def f_X6_countCases_L9 (fu : Nat) (K : Int32 → Int32 → Option (Int32 × (Nat → Int32))) (v1 : Int32) (v2 : Int32) (fitting : Nat → Int32) : Nat → Int32 → Int32 → Option (Int32 × (Nat → Int32))
  | 0, _, _ => none
  | n + 1, v3, v4 =>
  if 32768 ≤ v4 then (K v3 v4) else ((f_X6_fits fitting 0 v4).bind fun r2 => if ((r2 >>> (v1 &&& 31)) &&& 1) = 1 then (if v2 = 0 then (f_X6_countCases_L9 fu K v1 v2 fitting n (v3 + 1) (v4 + 1)) else ((f_X6_firstOf fu  r2).bind fun r3 => if r3 = v1 then (f_X6_countCases_L9 fu K v1 v2 fitting n (v3 + 1) (v4 + 1)) else (f_X6_countCases_L9 fu K v1 v2 fitting n (v3 + 0) (v4 + 1)))) else (f_X6_countCases_L9 fu K v1 v2 fitting n (v3 + 0) (v4 + 1)))
def f_X6_countCases (fu : Nat) (now : Nat → Int32) (fitting : Nat → Int32) (a1 : Int32) (a2 : Int32) : Option (Int32 × (Nat → Int32)) :=
  (f_X6_findsNow fu now fitting ).bind fun r1 => f_X6_countCases_L9 fu (fun (x1 : Int32) (x2 : Int32) => some (x1, r1)) a1 a2 r1 fu 0 0
abbrev wk_X6_countCases : List Cond := Cond.code yX6_countCases cX6_countCases 7 (some .int) :: WB
abbrev rm_X6_countCases : Room := { frames := 4, cells := 0, slots := 0, locals := 91 }
set_option maxHeartbeats 4000000 in
set_option maxRecDepth 100000 in
theorem c_X6_countCases (l : Launch) (D : va_G) (k : Nat → Nat) (o on op orr ot oh og od : Nat) (states : Int32) (bytes : Int32) (reading : Int32) (at_ : Int32) (wrongAt : Int32) (number : Int32) (hh : Int64) (now : Nat → Int32) (fitting : Nat → Int32) (a1 : Int32) (a2 : Int32) (fu : Nat) {res : Int32 × (Nat → Int32)} (h : f_X6_countCases fu now fitting a1 a2 = some res) : Ci l yX6_countCases wk_X6_countCases rm_X6_countCases D k [.ref o, .int a1, .int a2] [(o, .inr (6, [.ref on, .ref op, .int states, .ref orr, .ref ot, .int bytes, .ref oh, .ref og, .ref od, .int reading, .int at_, .int wrongAt, .int number, .long hh])), (on, .inl (k 0, 401, .inl now)), (og, .inl (k 0, 164, .inl fitting))] [(o, .inr (6, [.ref on, .ref op, .int states, .ref orr, .ref ot, .int bytes, .ref oh, .ref og, .ref od, .int reading, .int at_, .int wrongAt, .int number, .long hh])), (on, .inl (k 0, 401, .inl now)), (og, .inl (k 0, 164, .inl res.2))] res.1 := by
  unfold Ci
  intro sz
  refine Met.ofW (cc := cX6_countCases) (maxL := 7) (ret := (some .int)) (by decide) rfl ?_
  intro p e s m args below meth c s₁ B hml hv
  obtain ⟨rfl, hsz, hP, hK, hD0, hm⟩ := hv
  have hx := B.exec
  have hb := B.bytes
  have hr := B.returns
  have ht : ∀ w ∈ WB, w.before _ s = true := fun w hw => atoms_spec (ws := wk_X6_countCases) B.pre w (List.mem_cons_of_mem _ hw)
  have hown : s.vm.findClass RX6 = some m.cls := findClass_of_methodNamed B.named
  have hlocks := B.notSynchronized
  subst hsz
  have hD := hD0.self (sz := s.heap.size)
  generalize hAe : va_A [(o, .inr (6, [.ref on, .ref op, .int states, .ref orr, .ref ot, .int bytes, .ref oh, .ref og, .ref od, .int reading, .int at_, .int wrongAt, .int number, .long hh])), (on, .inl (k 0, 401, .inl now)), (og, .inl (k 0, 164, .inl fitting))] s.heap.size = A at hD hm ⊢
  have hA : ∀ q : Nat, s.heap.size ≤ q → A q := fun q h => by rw [← hAe]; exact Or.inr h
  have hS : va_S A s.heap s.heap [] := va_S.rf
  have hl := lv_entry ([.ref o, .int a1, .int a2]) (n := 7) (Nat.le_of_ble_eq_true rfl)
  rw [lg_entry_eq]
  generalize (lg_sl ([.ref o, .int a1, .int a2]) ++ List.replicate (7 - (lg_sl ([.ref o, .int a1, .int a2])).length) Slot.unset).toArray = ls at hl ⊢
  have hl : lv_has ls 7 [(0, .ref o), (1, .int a1), (2, .int a2)] := hl
  obtain ⟨H, hH⟩ : ∃ H, H = s.heap := ⟨_, rfl⟩
  rw [← hH] at hP
  have hS : va_S A s.heap H [] := by rw [hH]; exact hS
  suffices hgo : W p l e _ s m _ below meth c H [] 0 0 _ _ by rw [hH] at hgo; exact hgo
  unfold f_X6_countCases at h
  refine lv_aload_n hx hb dX6_countCases_0 rfl (lv_at hl 0 rfl) ?_
  obtain ⟨r1, h1, h⟩ := zb h
  refine zv (zrV (C := RX6) (T := TX6) (N := 14) (As := []) (rest := []) ⟨hx, hb, hml, hown, ht⟩ (c_X6_findsNow l D k o on op orr ot oh og od states bytes reading at_ wrongAt number hh now fitting  fu h1 _) (cwV 0 ht (gdV wb899 wb901 wb36 wb80 wb902) rfl rfl rfl (by decide +kernel) ⟨Nat.le_of_ble_eq_true rfl, Nat.le_of_ble_eq_true rfl⟩) hK hP hD hS hA hm [0, 1, 2] rfl rfl 0 6 rfl rfl rfl hl.1 rfl (Nat.le_of_ble_eq_true rfl) dX6_countCases_1 ⟨Nat.le_refl _, Nat.le_refl _⟩) hP hD hS hA [0, 1, 2] rfl rfl (fun H locs hP hD hS => ?_)
  have hP : va_P D vwCl [(o, .inr (6, [.ref on, .ref op, .int states, .ref orr, .ref ot, .int bytes, .ref oh, .ref og, .ref od, .int reading, .int at_, .int wrongAt, .int number, .long hh])), (on, .inl (k 0, 401, .inl now)), (og, .inl (k 0, 164, .inl r1))] H := hP
  have hD : va_D A [(o, .inr (6, [.ref on, .ref op, .int states, .ref orr, .ref ot, .int bytes, .ref oh, .ref og, .ref od, .int reading, .int at_, .int wrongAt, .int number, .long hh])), (on, .inl (k 0, 401, .inl now)), (og, .inl (k 0, 164, .inl r1))] := hD
  refine lv_iconst (v := 0) hx hb dX6_countCases_4 (by decide) ?_
  refine lv_istore_n (lv' := [(3, .int 0), (0, .ref o), (1, .int a1), (2, .int a2)]) hx hb dX6_countCases_5 rfl hl (by decide) rfl (fun ls hl => ?_)
  refine lv_iconst (v := 0) hx hb dX6_countCases_6 (by decide) ?_
  refine lv_istore (lv' := [(4, .int 0), (3, .int 0), (0, .ref o), (1, .int a1), (2, .int a2)]) hx hb dX6_countCases_7 hl (by decide) rfl (fun ls hl => ?_)
  have loop9 : ∀ (v1 : Int32) (v2 : Int32) (states : Int32) (bytes : Int32) (reading : Int32) (at_ : Int32) (wrongAt : Int32) (number : Int32) (hh : Int64) (now : Nat → Int32) (fitting : Nat → Int32), ∀ (K : Int32 → Int32 → Option (Int32 × (Nat → Int32))), (∀ (v3 : Int32) (v4 : Int32), K v3 v4 = some res → ∀ (H : Heap) (locs : List Loc), va_P D vwCl [(o, .inr (6, [.ref on, .ref op, .int states, .ref orr, .ref ot, .int bytes, .ref oh, .ref og, .ref od, .int reading, .int at_, .int wrongAt, .int number, .long hh])), (on, .inl (k 0, 401, .inl now)), (og, .inl (k 0, 164, .inl fitting))] H → va_D A [(o, .inr (6, [.ref on, .ref op, .int states, .ref orr, .ref ot, .int bytes, .ref oh, .ref og, .ref od, .int reading, .int at_, .int wrongAt, .int number, .long hh])), (on, .inl (k 0, 401, .inl now)), (og, .inl (k 0, 164, .inl fitting))] → va_S A s.heap H locs → ∀ ls : Array Slot, lv_has ls 7 [(0, .ref o), (1, .int v1), (2, .int v2), (3, .int v3), (4, .int v4)] → W p l e (headSpec wk_X6_countCases rm_X6_countCases).room s m ([.ref o, .int a1, .int a2] : List Value).toArray below meth c H locs 0 0 (MQ below (va_Qi (fun xq9 (_ : Unit) => xq9 = res.1) (fun _ tq9 => va_P D vwCl [(o, .inr (6, [.ref on, .ref op, .int states, .ref orr, .ref ot, .int bytes, .ref oh, .ref og, .ref od, .int reading, .int at_, .int wrongAt, .int number, .long hh])), (on, .inl (k 0, 401, .inl now)), (og, .inl (k 0, 164, .inl res.2))] tq9.heap) A) ([.ref o, .int a1, .int a2] : List Value).toArray s 0 0 A) (F0 m 74 ls [])) → ∀ (n : Nat) (v3 : Int32) (v4 : Int32), f_X6_countCases_L9 fu K v1 v2 fitting n v3 v4 = some res → ∀ (H : Heap) (locs : List Loc), va_P D vwCl [(o, .inr (6, [.ref on, .ref op, .int states, .ref orr, .ref ot, .int bytes, .ref oh, .ref og, .ref od, .int reading, .int at_, .int wrongAt, .int number, .long hh])), (on, .inl (k 0, 401, .inl now)), (og, .inl (k 0, 164, .inl fitting))] H → va_D A [(o, .inr (6, [.ref on, .ref op, .int states, .ref orr, .ref ot, .int bytes, .ref oh, .ref og, .ref od, .int reading, .int at_, .int wrongAt, .int number, .long hh])), (on, .inl (k 0, 401, .inl now)), (og, .inl (k 0, 164, .inl fitting))] → va_S A s.heap H locs → ∀ ls : Array Slot, lv_has ls 7 [(0, .ref o), (1, .int v1), (2, .int v2), (3, .int v3), (4, .int v4)] → W p l e (headSpec wk_X6_countCases rm_X6_countCases).room s m ([.ref o, .int a1, .int a2] : List Value).toArray below meth c H locs 0 0 (MQ below (va_Qi (fun xq9 (_ : Unit) => xq9 = res.1) (fun _ tq9 => va_P D vwCl [(o, .inr (6, [.ref on, .ref op, .int states, .ref orr, .ref ot, .int bytes, .ref oh, .ref og, .ref od, .int reading, .int at_, .int wrongAt, .int number, .long hh])), (on, .inl (k 0, 401, .inl now)), (og, .inl (k 0, 164, .inl res.2))] tq9.heap) A) ([.ref o, .int a1, .int a2] : List Value).toArray s 0 0 A) (F0 m 9 ls []) := by
    intro v1 v2 states bytes reading at_ wrongAt number hh now fitting K hKK n
    induction n with
    | zero =>
      intro v3 v4 h
      rw [f_X6_countCases_L9] at h
      cases h
    | succ n ih =>
      intro v3 v4 h H locs hP hD hS ls hl
      rw [f_X6_countCases_L9] at h
      refine lv_iload hx hb dX6_countCases_9 (lv_at hl 4 rfl) ?_
      refine lv_ldc (v := 32768) hx hb hown (ht _ wb942) dX6_countCases_11 ?_
      refine lv_icmp_ge (tgt := 74) hx hb dX6_countCases_13 (by decide) (fun c4 => ?_) (fun c4 => ?_)
      · have h := zt h c4
        exact hKK _ _ h _ _ hP hD hS _ (lv_sub hl [0, 1, 2, 3, 4] rfl)
      · have h := zf h c4
        refine lv_aload_n hx hb dX6_countCases_16 rfl (lv_at hl 0 rfl) ?_
        refine lv_iconst (v := 0) hx hb dX6_countCases_17 (by decide) ?_
        refine lv_iload hx hb dX6_countCases_18 (lv_at hl 4 rfl) ?_
        obtain ⟨r2, h2, h⟩ := zb h
        refine zi (zrV (C := RX6) (T := TX6) (N := 14) (As := [.int 0, .int v4]) (rest := []) ⟨hx, hb, hml, hown, ht⟩ (c_X6_fits l D k o on op orr ot oh og od states bytes reading at_ wrongAt number hh fitting 0 v4 h2 _) (cwV 2 ht (gdV wb918 wb920 wb40 wb80 wb921) rfl rfl rfl (by decide +kernel) ⟨Nat.le_of_ble_eq_true rfl, Nat.le_of_ble_eq_true rfl⟩) hK hP hD hS hA hm [0, 2] rfl rfl 0 6 rfl rfl rfl hl.1 rfl (Nat.le_of_ble_eq_true rfl) dX6_countCases_20 ⟨Nat.le_refl _, Nat.le_refl _⟩) hP hD hS hA [0, 2] rfl rfl (fun H locs hP hD hS => ?_)
        have hP : va_P D vwCl [(o, .inr (6, [.ref on, .ref op, .int states, .ref orr, .ref ot, .int bytes, .ref oh, .ref og, .ref od, .int reading, .int at_, .int wrongAt, .int number, .long hh])), (on, .inl (k 0, 401, .inl now)), (og, .inl (k 0, 164, .inl fitting))] H := hP
        have hD : va_D A [(o, .inr (6, [.ref on, .ref op, .int states, .ref orr, .ref ot, .int bytes, .ref oh, .ref og, .ref od, .int reading, .int at_, .int wrongAt, .int number, .long hh])), (on, .inl (k 0, 401, .inl now)), (og, .inl (k 0, 164, .inl fitting))] := hD
        refine lv_istore (lv' := [(5, .int r2), (0, .ref o), (1, .int v1), (2, .int v2), (3, .int v3), (4, .int v4)]) hx hb dX6_countCases_23 hl (by decide) rfl (fun ls hl => ?_)
        refine lv_iload hx hb dX6_countCases_25 (lv_at hl 0 rfl) ?_
        refine lv_iload_n hx hb dX6_countCases_27 rfl (lv_at hl 2 rfl) ?_
        refine lv_ishr hx hb dX6_countCases_28 ?_
        refine lv_iconst (v := 1) hx hb dX6_countCases_29 (by decide) ?_
        refine lv_iand hx hb dX6_countCases_30 ?_
        refine lv_iconst (v := 1) hx hb dX6_countCases_31 (by decide) ?_
        refine lv_icmp_ne (tgt := 39) hx hb dX6_countCases_32 (by decide) (fun c3 => ?_) (fun c3 => ?_)
        · have h := zf h c3
          refine lv_iconst (v := 0) hx hb dX6_countCases_39 (by decide) ?_
          refine lv_istore (lv' := [(6, .int 0), (5, .int r2), (0, .ref o), (1, .int v1), (2, .int v2), (3, .int v3), (4, .int v4)]) hx hb dX6_countCases_40 hl (by decide) rfl (fun ls hl => ?_)
          refine lv_iload_n hx hb dX6_countCases_42 rfl (lv_at hl 5 rfl) ?_
          refine lv_iload hx hb dX6_countCases_43 (lv_at hl 0 rfl) ?_
          refine lv_if_eq (tgt := 65) hx hb dX6_countCases_45 (by decide) (fun _ => ?_) (fun c9 => absurd (by decide) c9)
          refine lv_iconst (v := 0) hx hb dX6_countCases_65 (by decide) ?_
          refine lv_iadd hx hb dX6_countCases_66 ?_
          refine lv_istore_n (lv' := [(3, .int (v3 + 0)), (6, .int 0), (5, .int r2), (0, .ref o), (1, .int v1), (2, .int v2), (4, .int v4)]) hx hb dX6_countCases_67 rfl hl (by decide) rfl (fun ls hl => ?_)
          refine lv_iinc (v := v4 + 1) (lv' := [(4, .int (v4 + 1)), (3, .int (v3 + 0)), (6, .int 0), (5, .int r2), (0, .ref o), (1, .int v1), (2, .int v2)]) hx hb dX6_countCases_68 hl (k := 6) rfl rfl (by decide) rfl (fun ls hl => ?_)
          refine lv_goto (tgt := 9) hx hb dX6_countCases_71 (by decide) ?_
          exact ih _ _ h _ _ hP hD hS _ (lv_sub hl [4, 5, 6, 1, 0] rfl)
        · have h := zt h c3
          refine lv_iconst (v := 1) hx hb dX6_countCases_35 (by decide) ?_
          refine lv_goto (tgt := 40) hx hb dX6_countCases_36 (by decide) ?_
          refine lv_istore (lv' := [(6, .int 1), (5, .int r2), (0, .ref o), (1, .int v1), (2, .int v2), (3, .int v3), (4, .int v4)]) hx hb dX6_countCases_40 hl (by decide) rfl (fun ls hl => ?_)
          refine lv_iload_n hx hb dX6_countCases_42 rfl (lv_at hl 5 rfl) ?_
          refine lv_iload hx hb dX6_countCases_43 (lv_at hl 0 rfl) ?_
          refine lv_if_eq (tgt := 65) hx hb dX6_countCases_45 (by decide) (fun c9 => absurd c9 (by decide)) (fun _ => ?_)
          refine lv_iload_n hx hb dX6_countCases_48 rfl (lv_at hl 4 rfl) ?_
          refine lv_if_eq (tgt := 61) hx hb dX6_countCases_49 (by decide) (fun c2 => ?_) (fun c2 => ?_)
          · have h := zt h c2
            refine lv_iconst (v := 1) hx hb dX6_countCases_61 (by decide) ?_
            refine lv_goto (tgt := 66) hx hb dX6_countCases_62 (by decide) ?_
            refine lv_iadd hx hb dX6_countCases_66 ?_
            refine lv_istore_n (lv' := [(3, .int (v3 + 1)), (6, .int 1), (5, .int r2), (0, .ref o), (1, .int v1), (2, .int v2), (4, .int v4)]) hx hb dX6_countCases_67 rfl hl (by decide) rfl (fun ls hl => ?_)
            refine lv_iinc (v := v4 + 1) (lv' := [(4, .int (v4 + 1)), (3, .int (v3 + 1)), (6, .int 1), (5, .int r2), (0, .ref o), (1, .int v1), (2, .int v2)]) hx hb dX6_countCases_68 hl (k := 6) rfl rfl (by decide) rfl (fun ls hl => ?_)
            refine lv_goto (tgt := 9) hx hb dX6_countCases_71 (by decide) ?_
            exact ih _ _ h _ _ hP hD hS _ (lv_sub hl [4, 5, 6, 1, 0] rfl)
          · have h := zf h c2
            refine lv_iload hx hb dX6_countCases_52 (lv_at hl 1 rfl) ?_
            obtain ⟨r3, h3, h⟩ := zb h
            refine zi (zrS (As := [.int r2]) (rest := [.int v3]) ⟨hx, hb, hml, hown, ht⟩ (c_X6_firstOf l D k   r2 fu h3 _) (va_cwS 1 ht (gdS wb931 wb932 wb80 wb933) rfl rfl rfl (by decide +kernel) ⟨Nat.le_of_ble_eq_true rfl, Nat.le_of_ble_eq_true rfl⟩) hK hP hD hS hA hm [] rfl rfl rfl hl.1 rfl (Nat.le_of_ble_eq_true rfl) dX6_countCases_54 ⟨Nat.le_refl _, Nat.le_refl _⟩) hP hD hS hA [] rfl rfl (fun H locs hP hD hS => ?_)
            have hP : va_P D vwCl [(o, .inr (6, [.ref on, .ref op, .int states, .ref orr, .ref ot, .int bytes, .ref oh, .ref og, .ref od, .int reading, .int at_, .int wrongAt, .int number, .long hh])), (on, .inl (k 0, 401, .inl now)), (og, .inl (k 0, 164, .inl fitting))] H := hP
            have hD : va_D A [(o, .inr (6, [.ref on, .ref op, .int states, .ref orr, .ref ot, .int bytes, .ref oh, .ref og, .ref od, .int reading, .int at_, .int wrongAt, .int number, .long hh])), (on, .inl (k 0, 401, .inl now)), (og, .inl (k 0, 164, .inl fitting))] := hD
            refine lv_iload_n hx hb dX6_countCases_57 rfl (lv_at hl 3 rfl) ?_
            refine lv_icmp_ne (tgt := 65) hx hb dX6_countCases_58 (by decide) (fun c1 => ?_) (fun c1 => ?_)
            · have h := zf h c1
              refine lv_iconst (v := 0) hx hb dX6_countCases_65 (by decide) ?_
              refine lv_iadd hx hb dX6_countCases_66 ?_
              refine lv_istore_n (lv' := [(3, .int (v3 + 0)), (6, .int 1), (5, .int r2), (0, .ref o), (1, .int v1), (2, .int v2), (4, .int v4)]) hx hb dX6_countCases_67 rfl hl (by decide) rfl (fun ls hl => ?_)
              refine lv_iinc (v := v4 + 1) (lv' := [(4, .int (v4 + 1)), (3, .int (v3 + 0)), (6, .int 1), (5, .int r2), (0, .ref o), (1, .int v1), (2, .int v2)]) hx hb dX6_countCases_68 hl (k := 6) rfl rfl (by decide) rfl (fun ls hl => ?_)
              refine lv_goto (tgt := 9) hx hb dX6_countCases_71 (by decide) ?_
              exact ih _ _ h _ _ hP hD hS _ (lv_sub hl [4, 5, 6, 1, 0] rfl)
            · have h := zt h c1
              refine lv_iconst (v := 1) hx hb dX6_countCases_61 (by decide) ?_
              refine lv_goto (tgt := 66) hx hb dX6_countCases_62 (by decide) ?_
              refine lv_iadd hx hb dX6_countCases_66 ?_
              refine lv_istore_n (lv' := [(3, .int (v3 + 1)), (6, .int 1), (5, .int r2), (0, .ref o), (1, .int v1), (2, .int v2), (4, .int v4)]) hx hb dX6_countCases_67 rfl hl (by decide) rfl (fun ls hl => ?_)
              refine lv_iinc (v := v4 + 1) (lv' := [(4, .int (v4 + 1)), (3, .int (v3 + 1)), (6, .int 1), (5, .int r2), (0, .ref o), (1, .int v1), (2, .int v2)]) hx hb dX6_countCases_68 hl (k := 6) rfl rfl (by decide) rfl (fun ls hl => ?_)
              refine lv_goto (tgt := 9) hx hb dX6_countCases_71 (by decide) ?_
              exact ih _ _ h _ _ hP hD hS _ (lv_sub hl [4, 5, 6, 1, 0] rfl)
  refine loop9 _ _ _ _ _ _ _ _ _ _ _ _ ?_ fu _ _ h _ _ hP hD hS _ (lv_sub hl [2, 3, 4, 1, 0] rfl)
  intro x1 x2 h H locs hP hD hS ls hl
  try dsimp only at h
  have hP : va_P D vwCl [(o, .inr (6, [.ref on, .ref op, .int states, .ref orr, .ref ot, .int bytes, .ref oh, .ref og, .ref od, .int reading, .int at_, .int wrongAt, .int number, .long hh])), (on, .inl (k 0, 401, .inl now)), (og, .inl (k 0, 164, .inl r1))] H := hP
  have hD : va_D A [(o, .inr (6, [.ref on, .ref op, .int states, .ref orr, .ref ot, .int bytes, .ref oh, .ref og, .ref od, .int reading, .int at_, .int wrongAt, .int number, .long hh])), (on, .inl (k 0, 401, .inl now)), (og, .inl (k 0, 164, .inl r1))] := hD
  have hl : lv_has ls 7 [(0, .ref o), (1, .int a1), (2, .int a2), (3, .int x1), (4, .int x2)] := hl
  refine lv_iload_n hx hb dX6_countCases_74 rfl (lv_at hl 3 rfl) ?_
  obtain rfl := Option.some.inj h
  exact W.iret (v := x1) hx hb hr (fun t ht9 hW => ⟨⟨_, (), rfl, rfl, zend ht9 hP⟩, hS.F ht9⟩) hS.2.2 dX6_countCases_75
def f_X6_cases (fu : Nat) (now : Nat → Int32) (fitting : Nat → Int32) (refused : Nat → Int32) (a1 : Int32) (a2 : Int32) : Option (Int32 × (Nat → Int32) × (Nat → Int32)) :=
  (f_X6_isRule now a1).bind fun r1 => if (zB r1) = 0 then ((f_X6_bad refused ).bind fun r2 => some (r2.1, fitting, r2.2)) else ((f_X6_in  a2 0 1).bind fun r3 => if (zB r3) = 0 then ((f_X6_bad refused ).bind fun r4 => some (r4.1, fitting, r4.2)) else (if a2 = 0 then ((f_X6_countCases fu now fitting a1 1).bind fun r6 => some (r6.1, r6.2, refused)) else ((f_X6_countCases fu now fitting a1 0).bind fun r5 => some (r5.1, r5.2, refused))))
abbrev wk_X6_cases : List Cond := Cond.code yX6_cases cX6_cases 3 (some .int) :: WB
abbrev rm_X6_cases : Room := { frames := 5, cells := 0, slots := 0, locals := 117 }
set_option maxHeartbeats 4000000 in
set_option maxRecDepth 100000 in
theorem c_X6_cases (l : Launch) (D : va_G) (k : Nat → Nat) (o on op orr ot oh og od : Nat) (states : Int32) (bytes : Int32) (reading : Int32) (at_ : Int32) (wrongAt : Int32) (number : Int32) (hh : Int64) (now : Nat → Int32) (fitting : Nat → Int32) (refused : Nat → Int32) (a1 : Int32) (a2 : Int32) (fu : Nat) {res : Int32 × (Nat → Int32) × (Nat → Int32)} (h : f_X6_cases fu now fitting refused a1 a2 = some res) : Ci l yX6_cases wk_X6_cases rm_X6_cases D k [.ref o, .int a1, .int a2] [(o, .inr (6, [.ref on, .ref op, .int states, .ref orr, .ref ot, .int bytes, .ref oh, .ref og, .ref od, .int reading, .int at_, .int wrongAt, .int number, .long hh])), (on, .inl (k 0, 401, .inl now)), (og, .inl (k 0, 164, .inl fitting)), (orr, .inl (k 0, 3, .inl refused))] [(o, .inr (6, [.ref on, .ref op, .int states, .ref orr, .ref ot, .int bytes, .ref oh, .ref og, .ref od, .int reading, .int at_, .int wrongAt, .int number, .long hh])), (on, .inl (k 0, 401, .inl now)), (og, .inl (k 0, 164, .inl res.2.1)), (orr, .inl (k 0, 3, .inl res.2.2))] res.1 := by
  unfold Ci
  intro sz
  refine Met.ofW (cc := cX6_cases) (maxL := 3) (ret := (some .int)) (by decide) rfl ?_
  intro p e s m args below meth c s₁ B hml hv
  obtain ⟨rfl, hsz, hP, hK, hD0, hm⟩ := hv
  have hx := B.exec
  have hb := B.bytes
  have hr := B.returns
  have ht : ∀ w ∈ WB, w.before _ s = true := fun w hw => atoms_spec (ws := wk_X6_cases) B.pre w (List.mem_cons_of_mem _ hw)
  have hown : s.vm.findClass RX6 = some m.cls := findClass_of_methodNamed B.named
  have hlocks := B.notSynchronized
  subst hsz
  have hD := hD0.self (sz := s.heap.size)
  generalize hAe : va_A [(o, .inr (6, [.ref on, .ref op, .int states, .ref orr, .ref ot, .int bytes, .ref oh, .ref og, .ref od, .int reading, .int at_, .int wrongAt, .int number, .long hh])), (on, .inl (k 0, 401, .inl now)), (og, .inl (k 0, 164, .inl fitting)), (orr, .inl (k 0, 3, .inl refused))] s.heap.size = A at hD hm ⊢
  have hA : ∀ q : Nat, s.heap.size ≤ q → A q := fun q h => by rw [← hAe]; exact Or.inr h
  have hS : va_S A s.heap s.heap [] := va_S.rf
  have hl := lv_entry ([.ref o, .int a1, .int a2]) (n := 3) (Nat.le_of_ble_eq_true rfl)
  rw [lg_entry_eq]
  generalize (lg_sl ([.ref o, .int a1, .int a2]) ++ List.replicate (3 - (lg_sl ([.ref o, .int a1, .int a2])).length) Slot.unset).toArray = ls at hl ⊢
  have hl : lv_has ls 3 [(0, .ref o), (1, .int a1), (2, .int a2)] := hl
  obtain ⟨H, hH⟩ : ∃ H, H = s.heap := ⟨_, rfl⟩
  rw [← hH] at hP
  have hS : va_S A s.heap H [] := by rw [hH]; exact hS
  suffices hgo : W p l e _ s m _ below meth c H [] 0 0 _ _ by rw [hH] at hgo; exact hgo
  unfold f_X6_cases at h
  refine lv_aload_n hx hb dX6_cases_0 rfl (lv_at hl 0 rfl) ?_
  refine lv_iload_n hx hb dX6_cases_1 rfl (lv_at hl 1 rfl) ?_
  obtain ⟨r1, h1, h⟩ := zb h
  refine zi (zrV (C := RX6) (T := TX6) (N := 14) (As := [.int a1]) (rest := []) ⟨hx, hb, hml, hown, ht⟩ (c_X6_isRule l D k o on op orr ot oh og od states bytes reading at_ wrongAt number hh now a1 h1 _) (cwV 1 ht (gdV wb857 wb859 wb33 wb80 wb860) rfl rfl rfl (by decide +kernel) ⟨Nat.le_of_ble_eq_true rfl, Nat.le_of_ble_eq_true rfl⟩) hK hP hD hS hA hm [0, 1] rfl rfl 0 6 rfl rfl rfl hl.1 rfl (Nat.le_of_ble_eq_true rfl) dX6_cases_2 ⟨Nat.le_refl _, Nat.le_refl _⟩) hP hD hS hA [0, 1] rfl rfl (fun H locs hP hD hS => ?_)
  have hP : va_P D vwCl [(o, .inr (6, [.ref on, .ref op, .int states, .ref orr, .ref ot, .int bytes, .ref oh, .ref og, .ref od, .int reading, .int at_, .int wrongAt, .int number, .long hh])), (on, .inl (k 0, 401, .inl now)), (og, .inl (k 0, 164, .inl fitting)), (orr, .inl (k 0, 3, .inl refused))] H := hP
  have hD : va_D A [(o, .inr (6, [.ref on, .ref op, .int states, .ref orr, .ref ot, .int bytes, .ref oh, .ref og, .ref od, .int reading, .int at_, .int wrongAt, .int number, .long hh])), (on, .inl (k 0, 401, .inl now)), (og, .inl (k 0, 164, .inl fitting)), (orr, .inl (k 0, 3, .inl refused))] := hD
  refine lv_if_eq (tgt := 34) hx hb dX6_cases_5 (by decide) (fun c3 => ?_) (fun c3 => ?_)
  · have h := zt h c3
    refine lv_aload_n hx hb dX6_cases_34 rfl (lv_at hl 0 rfl) ?_
    obtain ⟨r2, h2, h⟩ := zb h
    refine zi (zrV (C := RX6) (T := TX6) (N := 14) (As := []) (rest := []) ⟨hx, hb, hml, hown, ht⟩ (c_X6_bad l D k o on op orr ot oh og od states bytes reading at_ wrongAt number hh refused  h2 _) (cwV 0 ht (gdV wb826 wb828 wb29 wb80 wb829) rfl rfl rfl (by decide +kernel) ⟨Nat.le_of_ble_eq_true rfl, Nat.le_of_ble_eq_true rfl⟩) hK hP hD hS hA hm [0, 3] rfl rfl 0 6 rfl rfl rfl hl.1 rfl (Nat.le_of_ble_eq_true rfl) dX6_cases_35 ⟨Nat.le_refl _, Nat.le_refl _⟩) hP hD hS hA [0, 3] rfl rfl (fun H locs hP hD hS => ?_)
    have hP : va_P D vwCl [(o, .inr (6, [.ref on, .ref op, .int states, .ref orr, .ref ot, .int bytes, .ref oh, .ref og, .ref od, .int reading, .int at_, .int wrongAt, .int number, .long hh])), (on, .inl (k 0, 401, .inl now)), (og, .inl (k 0, 164, .inl fitting)), (orr, .inl (k 0, 3, .inl r2.2))] H := hP
    have hD : va_D A [(o, .inr (6, [.ref on, .ref op, .int states, .ref orr, .ref ot, .int bytes, .ref oh, .ref og, .ref od, .int reading, .int at_, .int wrongAt, .int number, .long hh])), (on, .inl (k 0, 401, .inl now)), (og, .inl (k 0, 164, .inl fitting)), (orr, .inl (k 0, 3, .inl r2.2))] := hD
    obtain rfl := Option.some.inj h
    exact W.iret (v := r2.1) hx hb hr (fun t ht9 hW => ⟨⟨_, (), rfl, rfl, zend ht9 hP⟩, hS.F ht9⟩) hS.2.2 dX6_cases_38
  · have h := zf h c3
    refine lv_iload_n hx hb dX6_cases_8 rfl (lv_at hl 2 rfl) ?_
    refine lv_iconst (v := 0) hx hb dX6_cases_9 (by decide) ?_
    refine lv_iconst (v := 1) hx hb dX6_cases_10 (by decide) ?_
    obtain ⟨r3, h3, h⟩ := zb h
    refine zi (zrS (As := [.int a2, .int 0, .int 1]) (rest := []) ⟨hx, hb, hml, hown, ht⟩ (c_X6_in l D k   a2 0 1 h3 _) (va_cwS 3 ht (gdS wb820 wb821 wb80 wb822) rfl rfl rfl (by decide +kernel) ⟨Nat.le_of_ble_eq_true rfl, Nat.le_of_ble_eq_true rfl⟩) hK hP hD hS hA hm [] rfl rfl rfl hl.1 rfl (Nat.le_of_ble_eq_true rfl) dX6_cases_11 ⟨Nat.le_refl _, Nat.le_refl _⟩) hP hD hS hA [] rfl rfl (fun H locs hP hD hS => ?_)
    have hP : va_P D vwCl [(o, .inr (6, [.ref on, .ref op, .int states, .ref orr, .ref ot, .int bytes, .ref oh, .ref og, .ref od, .int reading, .int at_, .int wrongAt, .int number, .long hh])), (on, .inl (k 0, 401, .inl now)), (og, .inl (k 0, 164, .inl fitting)), (orr, .inl (k 0, 3, .inl refused))] H := hP
    have hD : va_D A [(o, .inr (6, [.ref on, .ref op, .int states, .ref orr, .ref ot, .int bytes, .ref oh, .ref og, .ref od, .int reading, .int at_, .int wrongAt, .int number, .long hh])), (on, .inl (k 0, 401, .inl now)), (og, .inl (k 0, 164, .inl fitting)), (orr, .inl (k 0, 3, .inl refused))] := hD
    refine lv_if_eq (tgt := 34) hx hb dX6_cases_14 (by decide) (fun c2 => ?_) (fun c2 => ?_)
    · have h := zt h c2
      refine lv_aload_n hx hb dX6_cases_34 rfl (lv_at hl 0 rfl) ?_
      obtain ⟨r4, h4, h⟩ := zb h
      refine zi (zrV (C := RX6) (T := TX6) (N := 14) (As := []) (rest := []) ⟨hx, hb, hml, hown, ht⟩ (c_X6_bad l D k o on op orr ot oh og od states bytes reading at_ wrongAt number hh refused  h4 _) (cwV 0 ht (gdV wb826 wb828 wb29 wb80 wb829) rfl rfl rfl (by decide +kernel) ⟨Nat.le_of_ble_eq_true rfl, Nat.le_of_ble_eq_true rfl⟩) hK hP hD hS hA hm [0, 3] rfl rfl 0 6 rfl rfl rfl hl.1 rfl (Nat.le_of_ble_eq_true rfl) dX6_cases_35 ⟨Nat.le_refl _, Nat.le_refl _⟩) hP hD hS hA [0, 3] rfl rfl (fun H locs hP hD hS => ?_)
      have hP : va_P D vwCl [(o, .inr (6, [.ref on, .ref op, .int states, .ref orr, .ref ot, .int bytes, .ref oh, .ref og, .ref od, .int reading, .int at_, .int wrongAt, .int number, .long hh])), (on, .inl (k 0, 401, .inl now)), (og, .inl (k 0, 164, .inl fitting)), (orr, .inl (k 0, 3, .inl r4.2))] H := hP
      have hD : va_D A [(o, .inr (6, [.ref on, .ref op, .int states, .ref orr, .ref ot, .int bytes, .ref oh, .ref og, .ref od, .int reading, .int at_, .int wrongAt, .int number, .long hh])), (on, .inl (k 0, 401, .inl now)), (og, .inl (k 0, 164, .inl fitting)), (orr, .inl (k 0, 3, .inl r4.2))] := hD
      obtain rfl := Option.some.inj h
      exact W.iret (v := r4.1) hx hb hr (fun t ht9 hW => ⟨⟨_, (), rfl, rfl, zend ht9 hP⟩, hS.F ht9⟩) hS.2.2 dX6_cases_38
    · have h := zf h c2
      refine lv_aload_n hx hb dX6_cases_17 rfl (lv_at hl 0 rfl) ?_
      refine lv_iload_n hx hb dX6_cases_18 rfl (lv_at hl 1 rfl) ?_
      refine lv_iload_n hx hb dX6_cases_19 rfl (lv_at hl 2 rfl) ?_
      refine lv_if_ne (tgt := 27) hx hb dX6_cases_20 (by decide) (fun c1 => ?_) (fun c1 => ?_)
      · have h := zf h c1
        refine lv_iconst (v := 0) hx hb dX6_cases_27 (by decide) ?_
        obtain ⟨r5, h5, h⟩ := zb h
        refine zi (zrV (C := RX6) (T := TX6) (N := 14) (As := [.int a1, .int 0]) (rest := []) ⟨hx, hb, hml, hown, ht⟩ (c_X6_countCases l D k o on op orr ot oh og od states bytes reading at_ wrongAt number hh now fitting a1 0 fu h5 _) (cwV 2 ht (gdV wb938 wb940 wb41 wb80 wb941) rfl rfl rfl (by decide +kernel) ⟨Nat.le_of_ble_eq_true rfl, Nat.le_of_ble_eq_true rfl⟩) hK hP hD hS hA hm [0, 1, 2] rfl rfl 0 6 rfl rfl rfl hl.1 rfl (Nat.le_of_ble_eq_true rfl) dX6_cases_28 ⟨Nat.le_refl _, Nat.le_refl _⟩) hP hD hS hA [0, 1, 2] rfl rfl (fun H locs hP hD hS => ?_)
        have hP : va_P D vwCl [(o, .inr (6, [.ref on, .ref op, .int states, .ref orr, .ref ot, .int bytes, .ref oh, .ref og, .ref od, .int reading, .int at_, .int wrongAt, .int number, .long hh])), (on, .inl (k 0, 401, .inl now)), (og, .inl (k 0, 164, .inl r5.2)), (orr, .inl (k 0, 3, .inl refused))] H := hP
        have hD : va_D A [(o, .inr (6, [.ref on, .ref op, .int states, .ref orr, .ref ot, .int bytes, .ref oh, .ref og, .ref od, .int reading, .int at_, .int wrongAt, .int number, .long hh])), (on, .inl (k 0, 401, .inl now)), (og, .inl (k 0, 164, .inl r5.2)), (orr, .inl (k 0, 3, .inl refused))] := hD
        refine lv_goto (tgt := 38) hx hb dX6_cases_31 (by decide) ?_
        obtain rfl := Option.some.inj h
        exact W.iret (v := r5.1) hx hb hr (fun t ht9 hW => ⟨⟨_, (), rfl, rfl, zend ht9 hP⟩, hS.F ht9⟩) hS.2.2 dX6_cases_38
      · have h := zt h c1
        refine lv_iconst (v := 1) hx hb dX6_cases_23 (by decide) ?_
        refine lv_goto (tgt := 28) hx hb dX6_cases_24 (by decide) ?_
        obtain ⟨r6, h6, h⟩ := zb h
        refine zi (zrV (C := RX6) (T := TX6) (N := 14) (As := [.int a1, .int 1]) (rest := []) ⟨hx, hb, hml, hown, ht⟩ (c_X6_countCases l D k o on op orr ot oh og od states bytes reading at_ wrongAt number hh now fitting a1 1 fu h6 _) (cwV 2 ht (gdV wb938 wb940 wb41 wb80 wb941) rfl rfl rfl (by decide +kernel) ⟨Nat.le_of_ble_eq_true rfl, Nat.le_of_ble_eq_true rfl⟩) hK hP hD hS hA hm [0, 1, 2] rfl rfl 0 6 rfl rfl rfl hl.1 rfl (Nat.le_of_ble_eq_true rfl) dX6_cases_28 ⟨Nat.le_refl _, Nat.le_refl _⟩) hP hD hS hA [0, 1, 2] rfl rfl (fun H locs hP hD hS => ?_)
        have hP : va_P D vwCl [(o, .inr (6, [.ref on, .ref op, .int states, .ref orr, .ref ot, .int bytes, .ref oh, .ref og, .ref od, .int reading, .int at_, .int wrongAt, .int number, .long hh])), (on, .inl (k 0, 401, .inl now)), (og, .inl (k 0, 164, .inl r6.2)), (orr, .inl (k 0, 3, .inl refused))] H := hP
        have hD : va_D A [(o, .inr (6, [.ref on, .ref op, .int states, .ref orr, .ref ot, .int bytes, .ref oh, .ref og, .ref od, .int reading, .int at_, .int wrongAt, .int number, .long hh])), (on, .inl (k 0, 401, .inl now)), (og, .inl (k 0, 164, .inl r6.2)), (orr, .inl (k 0, 3, .inl refused))] := hD
        refine lv_goto (tgt := 38) hx hb dX6_cases_31 (by decide) ?_
        obtain rfl := Option.some.inj h
        exact W.iret (v := r6.1) hx hb hr (fun t ht9 hW => ⟨⟨_, (), rfl, rfl, zend ht9 hP⟩, hS.F ht9⟩) hS.2.2 dX6_cases_38
def f_X6_isIdle_L8 (fu : Nat) (K : Bool → Int32 → Option (Bool × (Nat → Int32))) (v1 : Int32) (now : Nat → Int32) (fitting : Nat → Int32) : Nat → Bool → Int32 → Option (Bool × (Nat → Int32))
  | 0, _, _ => none
  | n + 1, v2, v3 =>
  if 32768 ≤ v3 then (K v2 v3) else (if (zB v2) = 0 then (K v2 v3) else ((f_X6_fits fitting 0 v3).bind fun r2 => (f_X6_firstOf fu  r2).bind fun r3 => if r3 = v1 then ((f_X6_actionBy fu now 33 r2).bind fun r4 => (f_X6_actionBy fu now 33 (r2 &&& ((1 <<< (v1 &&& 31)) ^^^ (-1)))).bind fun r5 => if r4 = r5 then (f_X6_isIdle_L8 fu K v1 now fitting n true (v3 + 1)) else (f_X6_isIdle_L8 fu K v1 now fitting n false (v3 + 1))) else (f_X6_isIdle_L8 fu K v1 now fitting n true (v3 + 1))))
def f_X6_isIdle (fu : Nat) (now : Nat → Int32) (fitting : Nat → Int32) (a1 : Int32) : Option (Bool × (Nat → Int32)) :=
  (f_X6_findsNow fu now fitting ).bind fun r1 => f_X6_isIdle_L8 fu (fun (x1 : Bool) (x2 : Int32) => some (x1, r1)) a1 now r1 fu true 0
abbrev wk_X6_isIdle : List Cond := Cond.code yX6_isIdle cX6_isIdle 5 (some .boolean) :: WB
abbrev rm_X6_isIdle : Room := { frames := 4, cells := 0, slots := 0, locals := 91 }
set_option maxHeartbeats 4000000 in
set_option maxRecDepth 100000 in
theorem c_X6_isIdle (l : Launch) (D : va_G) (k : Nat → Nat) (o on op orr ot oh og od : Nat) (states : Int32) (bytes : Int32) (reading : Int32) (at_ : Int32) (wrongAt : Int32) (number : Int32) (hh : Int64) (now : Nat → Int32) (fitting : Nat → Int32) (a1 : Int32) (fu : Nat) {res : Bool × (Nat → Int32)} (h : f_X6_isIdle fu now fitting a1 = some res) : Ci l yX6_isIdle wk_X6_isIdle rm_X6_isIdle D k [.ref o, .int a1] [(o, .inr (6, [.ref on, .ref op, .int states, .ref orr, .ref ot, .int bytes, .ref oh, .ref og, .ref od, .int reading, .int at_, .int wrongAt, .int number, .long hh])), (on, .inl (k 0, 401, .inl now)), (og, .inl (k 0, 164, .inl fitting))] [(o, .inr (6, [.ref on, .ref op, .int states, .ref orr, .ref ot, .int bytes, .ref oh, .ref og, .ref od, .int reading, .int at_, .int wrongAt, .int number, .long hh])), (on, .inl (k 0, 401, .inl now)), (og, .inl (k 0, 164, .inl res.2))] (zB res.1) := by
  unfold Ci
  intro sz
  refine Met.ofW (cc := cX6_isIdle) (maxL := 5) (ret := (some .boolean)) (by decide) rfl ?_
  intro p e s m args below meth c s₁ B hml hv
  obtain ⟨rfl, hsz, hP, hK, hD0, hm⟩ := hv
  have hx := B.exec
  have hb := B.bytes
  have hr := B.returns
  have ht : ∀ w ∈ WB, w.before _ s = true := fun w hw => atoms_spec (ws := wk_X6_isIdle) B.pre w (List.mem_cons_of_mem _ hw)
  have hown : s.vm.findClass RX6 = some m.cls := findClass_of_methodNamed B.named
  have hlocks := B.notSynchronized
  subst hsz
  have hD := hD0.self (sz := s.heap.size)
  generalize hAe : va_A [(o, .inr (6, [.ref on, .ref op, .int states, .ref orr, .ref ot, .int bytes, .ref oh, .ref og, .ref od, .int reading, .int at_, .int wrongAt, .int number, .long hh])), (on, .inl (k 0, 401, .inl now)), (og, .inl (k 0, 164, .inl fitting))] s.heap.size = A at hD hm ⊢
  have hA : ∀ q : Nat, s.heap.size ≤ q → A q := fun q h => by rw [← hAe]; exact Or.inr h
  have hS : va_S A s.heap s.heap [] := va_S.rf
  have hl := lv_entry ([.ref o, .int a1]) (n := 5) (Nat.le_of_ble_eq_true rfl)
  rw [lg_entry_eq]
  generalize (lg_sl ([.ref o, .int a1]) ++ List.replicate (5 - (lg_sl ([.ref o, .int a1])).length) Slot.unset).toArray = ls at hl ⊢
  have hl : lv_has ls 5 [(0, .ref o), (1, .int a1)] := hl
  obtain ⟨H, hH⟩ : ∃ H, H = s.heap := ⟨_, rfl⟩
  rw [← hH] at hP
  have hS : va_S A s.heap H [] := by rw [hH]; exact hS
  suffices hgo : W p l e _ s m _ below meth c H [] 0 0 _ _ by rw [hH] at hgo; exact hgo
  unfold f_X6_isIdle at h
  refine lv_aload_n hx hb dX6_isIdle_0 rfl (lv_at hl 0 rfl) ?_
  obtain ⟨r1, h1, h⟩ := zb h
  refine zv (zrV (C := RX6) (T := TX6) (N := 14) (As := []) (rest := []) ⟨hx, hb, hml, hown, ht⟩ (c_X6_findsNow l D k o on op orr ot oh og od states bytes reading at_ wrongAt number hh now fitting  fu h1 _) (cwV 0 ht (gdV wb899 wb901 wb36 wb80 wb902) rfl rfl rfl (by decide +kernel) ⟨Nat.le_of_ble_eq_true rfl, Nat.le_of_ble_eq_true rfl⟩) hK hP hD hS hA hm [0, 1, 2] rfl rfl 0 6 rfl rfl rfl hl.1 rfl (Nat.le_of_ble_eq_true rfl) dX6_isIdle_1 ⟨Nat.le_refl _, Nat.le_refl _⟩) hP hD hS hA [0, 1, 2] rfl rfl (fun H locs hP hD hS => ?_)
  have hP : va_P D vwCl [(o, .inr (6, [.ref on, .ref op, .int states, .ref orr, .ref ot, .int bytes, .ref oh, .ref og, .ref od, .int reading, .int at_, .int wrongAt, .int number, .long hh])), (on, .inl (k 0, 401, .inl now)), (og, .inl (k 0, 164, .inl r1))] H := hP
  have hD : va_D A [(o, .inr (6, [.ref on, .ref op, .int states, .ref orr, .ref ot, .int bytes, .ref oh, .ref og, .ref od, .int reading, .int at_, .int wrongAt, .int number, .long hh])), (on, .inl (k 0, 401, .inl now)), (og, .inl (k 0, 164, .inl r1))] := hD
  refine lv_iconst (v := 1) hx hb dX6_isIdle_4 (by decide) ?_
  refine lv_istore_n (lv' := [(2, .int 1), (0, .ref o), (1, .int a1)]) hx hb dX6_isIdle_5 rfl hl (by decide) rfl (fun ls hl => ?_)
  refine lv_iconst (v := 0) hx hb dX6_isIdle_6 (by decide) ?_
  refine lv_istore_n (lv' := [(3, .int 0), (2, .int 1), (0, .ref o), (1, .int a1)]) hx hb dX6_isIdle_7 rfl hl (by decide) rfl (fun ls hl => ?_)
  have loop8 : ∀ (v1 : Int32) (states : Int32) (bytes : Int32) (reading : Int32) (at_ : Int32) (wrongAt : Int32) (number : Int32) (hh : Int64) (now : Nat → Int32) (fitting : Nat → Int32), ∀ (K : Bool → Int32 → Option (Bool × (Nat → Int32))), (∀ (v2 : Bool) (v3 : Int32), K v2 v3 = some res → ∀ (H : Heap) (locs : List Loc), va_P D vwCl [(o, .inr (6, [.ref on, .ref op, .int states, .ref orr, .ref ot, .int bytes, .ref oh, .ref og, .ref od, .int reading, .int at_, .int wrongAt, .int number, .long hh])), (on, .inl (k 0, 401, .inl now)), (og, .inl (k 0, 164, .inl fitting))] H → va_D A [(o, .inr (6, [.ref on, .ref op, .int states, .ref orr, .ref ot, .int bytes, .ref oh, .ref og, .ref od, .int reading, .int at_, .int wrongAt, .int number, .long hh])), (on, .inl (k 0, 401, .inl now)), (og, .inl (k 0, 164, .inl fitting))] → va_S A s.heap H locs → ∀ ls : Array Slot, lv_has ls 5 [(0, .ref o), (1, .int v1), (2, .int (zB v2)), (3, .int v3)] → W p l e (headSpec wk_X6_isIdle rm_X6_isIdle).room s m ([.ref o, .int a1] : List Value).toArray below meth c H locs 0 0 (MQ below (va_Qi (fun xq9 (_ : Unit) => xq9 = zB res.1) (fun _ tq9 => va_P D vwCl [(o, .inr (6, [.ref on, .ref op, .int states, .ref orr, .ref ot, .int bytes, .ref oh, .ref og, .ref od, .int reading, .int at_, .int wrongAt, .int number, .long hh])), (on, .inl (k 0, 401, .inl now)), (og, .inl (k 0, 164, .inl res.2))] tq9.heap) A) ([.ref o, .int a1] : List Value).toArray s 0 0 A) (F0 m 72 ls [])) → ∀ (n : Nat) (v2 : Bool) (v3 : Int32), f_X6_isIdle_L8 fu K v1 now fitting n v2 v3 = some res → ∀ (H : Heap) (locs : List Loc), va_P D vwCl [(o, .inr (6, [.ref on, .ref op, .int states, .ref orr, .ref ot, .int bytes, .ref oh, .ref og, .ref od, .int reading, .int at_, .int wrongAt, .int number, .long hh])), (on, .inl (k 0, 401, .inl now)), (og, .inl (k 0, 164, .inl fitting))] H → va_D A [(o, .inr (6, [.ref on, .ref op, .int states, .ref orr, .ref ot, .int bytes, .ref oh, .ref og, .ref od, .int reading, .int at_, .int wrongAt, .int number, .long hh])), (on, .inl (k 0, 401, .inl now)), (og, .inl (k 0, 164, .inl fitting))] → va_S A s.heap H locs → ∀ ls : Array Slot, lv_has ls 5 [(0, .ref o), (1, .int v1), (2, .int (zB v2)), (3, .int v3)] → W p l e (headSpec wk_X6_isIdle rm_X6_isIdle).room s m ([.ref o, .int a1] : List Value).toArray below meth c H locs 0 0 (MQ below (va_Qi (fun xq9 (_ : Unit) => xq9 = zB res.1) (fun _ tq9 => va_P D vwCl [(o, .inr (6, [.ref on, .ref op, .int states, .ref orr, .ref ot, .int bytes, .ref oh, .ref og, .ref od, .int reading, .int at_, .int wrongAt, .int number, .long hh])), (on, .inl (k 0, 401, .inl now)), (og, .inl (k 0, 164, .inl res.2))] tq9.heap) A) ([.ref o, .int a1] : List Value).toArray s 0 0 A) (F0 m 8 ls []) := by
    intro v1 states bytes reading at_ wrongAt number hh now fitting K hKK n
    induction n with
    | zero =>
      intro v2 v3 h
      rw [f_X6_isIdle_L8] at h
      cases h
    | succ n ih =>
      intro v2 v3 h H locs hP hD hS ls hl
      rw [f_X6_isIdle_L8] at h
      refine lv_iload_n hx hb dX6_isIdle_8 rfl (lv_at hl 3 rfl) ?_
      refine lv_ldc (v := 32768) hx hb hown (ht _ wb942) dX6_isIdle_9 ?_
      refine lv_icmp_ge (tgt := 72) hx hb dX6_isIdle_11 (by decide) (fun c4 => ?_) (fun c4 => ?_)
      · have h := zt h c4
        exact hKK _ _ h _ _ hP hD hS _ (lv_sub hl [0, 1, 2, 3] rfl)
      · have h := zf h c4
        refine lv_iload_n hx hb dX6_isIdle_14 rfl (lv_at hl 2 rfl) ?_
        refine lv_if_eq (tgt := 72) hx hb dX6_isIdle_15 (by decide) (fun c3 => ?_) (fun c3 => ?_)
        · have h := zt h c3
          exact hKK _ _ h _ _ hP hD hS _ (lv_sub hl [0, 1, 2, 3] rfl)
        · have h := zf h c3
          refine lv_aload_n hx hb dX6_isIdle_18 rfl (lv_at hl 0 rfl) ?_
          refine lv_iconst (v := 0) hx hb dX6_isIdle_19 (by decide) ?_
          refine lv_iload_n hx hb dX6_isIdle_20 rfl (lv_at hl 3 rfl) ?_
          obtain ⟨r2, h2, h⟩ := zb h
          refine zi (zrV (C := RX6) (T := TX6) (N := 14) (As := [.int 0, .int v3]) (rest := []) ⟨hx, hb, hml, hown, ht⟩ (c_X6_fits l D k o on op orr ot oh og od states bytes reading at_ wrongAt number hh fitting 0 v3 h2 _) (cwV 2 ht (gdV wb918 wb920 wb40 wb80 wb921) rfl rfl rfl (by decide +kernel) ⟨Nat.le_of_ble_eq_true rfl, Nat.le_of_ble_eq_true rfl⟩) hK hP hD hS hA hm [0, 2] rfl rfl 0 6 rfl rfl rfl hl.1 rfl (Nat.le_of_ble_eq_true rfl) dX6_isIdle_21 ⟨Nat.le_refl _, Nat.le_refl _⟩) hP hD hS hA [0, 2] rfl rfl (fun H locs hP hD hS => ?_)
          have hP : va_P D vwCl [(o, .inr (6, [.ref on, .ref op, .int states, .ref orr, .ref ot, .int bytes, .ref oh, .ref og, .ref od, .int reading, .int at_, .int wrongAt, .int number, .long hh])), (on, .inl (k 0, 401, .inl now)), (og, .inl (k 0, 164, .inl fitting))] H := hP
          have hD : va_D A [(o, .inr (6, [.ref on, .ref op, .int states, .ref orr, .ref ot, .int bytes, .ref oh, .ref og, .ref od, .int reading, .int at_, .int wrongAt, .int number, .long hh])), (on, .inl (k 0, 401, .inl now)), (og, .inl (k 0, 164, .inl fitting))] := hD
          refine lv_istore (lv' := [(4, .int r2), (0, .ref o), (1, .int v1), (2, .int (zB v2)), (3, .int v3)]) hx hb dX6_isIdle_24 hl (by decide) rfl (fun ls hl => ?_)
          refine lv_iload hx hb dX6_isIdle_26 (lv_at hl 0 rfl) ?_
          obtain ⟨r3, h3, h⟩ := zb h
          refine zi (zrS (As := [.int r2]) (rest := []) ⟨hx, hb, hml, hown, ht⟩ (c_X6_firstOf l D k   r2 fu h3 _) (va_cwS 1 ht (gdS wb931 wb932 wb80 wb933) rfl rfl rfl (by decide +kernel) ⟨Nat.le_of_ble_eq_true rfl, Nat.le_of_ble_eq_true rfl⟩) hK hP hD hS hA hm [] rfl rfl rfl hl.1 rfl (Nat.le_of_ble_eq_true rfl) dX6_isIdle_28 ⟨Nat.le_refl _, Nat.le_refl _⟩) hP hD hS hA [] rfl rfl (fun H locs hP hD hS => ?_)
          have hP : va_P D vwCl [(o, .inr (6, [.ref on, .ref op, .int states, .ref orr, .ref ot, .int bytes, .ref oh, .ref og, .ref od, .int reading, .int at_, .int wrongAt, .int number, .long hh])), (on, .inl (k 0, 401, .inl now)), (og, .inl (k 0, 164, .inl fitting))] H := hP
          have hD : va_D A [(o, .inr (6, [.ref on, .ref op, .int states, .ref orr, .ref ot, .int bytes, .ref oh, .ref og, .ref od, .int reading, .int at_, .int wrongAt, .int number, .long hh])), (on, .inl (k 0, 401, .inl now)), (og, .inl (k 0, 164, .inl fitting))] := hD
          refine lv_iload_n hx hb dX6_isIdle_31 rfl (lv_at hl 2 rfl) ?_
          refine lv_icmp_ne (tgt := 60) hx hb dX6_isIdle_32 (by decide) (fun c2 => ?_) (fun c2 => ?_)
          · have h := zf h c2
            refine lv_iconst (v := 1) hx hb dX6_isIdle_60 (by decide) ?_
            refine lv_goto (tgt := 65) hx hb dX6_isIdle_61 (by decide) ?_
            refine lv_istore_n (lv' := [(2, .int 1), (4, .int r2), (0, .ref o), (1, .int v1), (3, .int v3)]) hx hb dX6_isIdle_65 rfl hl (by decide) rfl (fun ls hl => ?_)
            refine lv_iinc (v := v3 + 1) (lv' := [(3, .int (v3 + 1)), (2, .int 1), (4, .int r2), (0, .ref o), (1, .int v1)]) hx hb dX6_isIdle_66 hl (k := 4) rfl rfl (by decide) rfl (fun ls hl => ?_)
            refine lv_goto (tgt := 8) hx hb dX6_isIdle_69 (by decide) ?_
            exact ih _ _ h _ _ hP hD hS _ (lv_sub hl [3, 4, 1, 0] rfl)
          · have h := zt h c2
            refine lv_aload_n hx hb dX6_isIdle_35 rfl (lv_at hl 1 rfl) ?_
            refine lv_bipush (v := 33) hx hb dX6_isIdle_36 (by decide) ?_
            refine lv_iload hx hb dX6_isIdle_38 (lv_at hl 0 rfl) ?_
            obtain ⟨r4, h4, h⟩ := zb h
            refine zi (zrV (C := RX6) (T := TX6) (N := 14) (As := [.int 33, .int r2]) (rest := []) ⟨hx, hb, hml, hown, ht⟩ (c_X6_actionBy l D k o on op orr ot oh og od states bytes reading at_ wrongAt number hh now 33 r2 fu h4 _) (cwV 2 ht (gdV wb951 wb953 wb43 wb80 wb954) rfl rfl rfl (by decide +kernel) ⟨Nat.le_of_ble_eq_true rfl, Nat.le_of_ble_eq_true rfl⟩) hK hP hD hS hA hm [0, 1] rfl rfl 0 6 rfl rfl rfl hl.1 rfl (Nat.le_of_ble_eq_true rfl) dX6_isIdle_40 ⟨Nat.le_refl _, Nat.le_refl _⟩) hP hD hS hA [0, 1] rfl rfl (fun H locs hP hD hS => ?_)
            have hP : va_P D vwCl [(o, .inr (6, [.ref on, .ref op, .int states, .ref orr, .ref ot, .int bytes, .ref oh, .ref og, .ref od, .int reading, .int at_, .int wrongAt, .int number, .long hh])), (on, .inl (k 0, 401, .inl now)), (og, .inl (k 0, 164, .inl fitting))] H := hP
            have hD : va_D A [(o, .inr (6, [.ref on, .ref op, .int states, .ref orr, .ref ot, .int bytes, .ref oh, .ref og, .ref od, .int reading, .int at_, .int wrongAt, .int number, .long hh])), (on, .inl (k 0, 401, .inl now)), (og, .inl (k 0, 164, .inl fitting))] := hD
            refine lv_aload_n hx hb dX6_isIdle_43 rfl (lv_at hl 1 rfl) ?_
            refine lv_bipush (v := 33) hx hb dX6_isIdle_44 (by decide) ?_
            refine lv_iload hx hb dX6_isIdle_46 (lv_at hl 0 rfl) ?_
            refine lv_iconst (v := 1) hx hb dX6_isIdle_48 (by decide) ?_
            refine lv_iload_n hx hb dX6_isIdle_49 rfl (lv_at hl 2 rfl) ?_
            refine lv_ishl hx hb dX6_isIdle_50 ?_
            refine lv_iconst (v := (-1)) hx hb dX6_isIdle_51 (by decide) ?_
            refine lv_ixor hx hb dX6_isIdle_52 ?_
            refine lv_iand hx hb dX6_isIdle_53 ?_
            obtain ⟨r5, h5, h⟩ := zb h
            refine zi (zrV (C := RX6) (T := TX6) (N := 14) (As := [.int 33, .int (r2 &&& ((1 <<< (v1 &&& 31)) ^^^ (-1)))]) (rest := [.int r4]) ⟨hx, hb, hml, hown, ht⟩ (c_X6_actionBy l D k o on op orr ot oh og od states bytes reading at_ wrongAt number hh now 33 (r2 &&& ((1 <<< (v1 &&& 31)) ^^^ (-1))) fu h5 _) (cwV 2 ht (gdV wb951 wb953 wb43 wb80 wb954) rfl rfl rfl (by decide +kernel) ⟨Nat.le_of_ble_eq_true rfl, Nat.le_of_ble_eq_true rfl⟩) hK hP hD hS hA hm [0, 1] rfl rfl 0 6 rfl rfl rfl hl.1 rfl (Nat.le_of_ble_eq_true rfl) dX6_isIdle_54 ⟨Nat.le_refl _, Nat.le_refl _⟩) hP hD hS hA [0, 1] rfl rfl (fun H locs hP hD hS => ?_)
            have hP : va_P D vwCl [(o, .inr (6, [.ref on, .ref op, .int states, .ref orr, .ref ot, .int bytes, .ref oh, .ref og, .ref od, .int reading, .int at_, .int wrongAt, .int number, .long hh])), (on, .inl (k 0, 401, .inl now)), (og, .inl (k 0, 164, .inl fitting))] H := hP
            have hD : va_D A [(o, .inr (6, [.ref on, .ref op, .int states, .ref orr, .ref ot, .int bytes, .ref oh, .ref og, .ref od, .int reading, .int at_, .int wrongAt, .int number, .long hh])), (on, .inl (k 0, 401, .inl now)), (og, .inl (k 0, 164, .inl fitting))] := hD
            refine lv_icmp_ne (tgt := 64) hx hb dX6_isIdle_57 (by decide) (fun c1 => ?_) (fun c1 => ?_)
            · have h := zf h c1
              refine lv_iconst (v := 0) hx hb dX6_isIdle_64 (by decide) ?_
              refine lv_istore_n (lv' := [(2, .int 0), (4, .int r2), (0, .ref o), (1, .int v1), (3, .int v3)]) hx hb dX6_isIdle_65 rfl hl (by decide) rfl (fun ls hl => ?_)
              refine lv_iinc (v := v3 + 1) (lv' := [(3, .int (v3 + 1)), (2, .int 0), (4, .int r2), (0, .ref o), (1, .int v1)]) hx hb dX6_isIdle_66 hl (k := 4) rfl rfl (by decide) rfl (fun ls hl => ?_)
              refine lv_goto (tgt := 8) hx hb dX6_isIdle_69 (by decide) ?_
              exact ih _ _ h _ _ hP hD hS _ (lv_sub hl [3, 4, 1, 0] rfl)
            · have h := zt h c1
              refine lv_iconst (v := 1) hx hb dX6_isIdle_60 (by decide) ?_
              refine lv_goto (tgt := 65) hx hb dX6_isIdle_61 (by decide) ?_
              refine lv_istore_n (lv' := [(2, .int 1), (4, .int r2), (0, .ref o), (1, .int v1), (3, .int v3)]) hx hb dX6_isIdle_65 rfl hl (by decide) rfl (fun ls hl => ?_)
              refine lv_iinc (v := v3 + 1) (lv' := [(3, .int (v3 + 1)), (2, .int 1), (4, .int r2), (0, .ref o), (1, .int v1)]) hx hb dX6_isIdle_66 hl (k := 4) rfl rfl (by decide) rfl (fun ls hl => ?_)
              refine lv_goto (tgt := 8) hx hb dX6_isIdle_69 (by decide) ?_
              exact ih _ _ h _ _ hP hD hS _ (lv_sub hl [3, 4, 1, 0] rfl)
  refine loop8 _ _ _ _ _ _ _ _ _ _ _ ?_ fu _ _ h _ _ hP hD hS _ (lv_sub hl [2, 3, 1, 0] rfl)
  intro x1 x2 h H locs hP hD hS ls hl
  try dsimp only at h
  have hP : va_P D vwCl [(o, .inr (6, [.ref on, .ref op, .int states, .ref orr, .ref ot, .int bytes, .ref oh, .ref og, .ref od, .int reading, .int at_, .int wrongAt, .int number, .long hh])), (on, .inl (k 0, 401, .inl now)), (og, .inl (k 0, 164, .inl r1))] H := hP
  have hD : va_D A [(o, .inr (6, [.ref on, .ref op, .int states, .ref orr, .ref ot, .int bytes, .ref oh, .ref og, .ref od, .int reading, .int at_, .int wrongAt, .int number, .long hh])), (on, .inl (k 0, 401, .inl now)), (og, .inl (k 0, 164, .inl r1))] := hD
  have hl : lv_has ls 5 [(0, .ref o), (1, .int a1), (2, .int (zB x1)), (3, .int x2)] := hl
  refine lv_iload_n hx hb dX6_isIdle_72 rfl (lv_at hl 2 rfl) ?_
  obtain rfl := Option.some.inj h
  exact W.zret (v := zB x1) (ty := .boolean) hx hb hr (zB_nar _) (fun t ht9 hW => ⟨⟨_, (), rfl, rfl, zend ht9 hP⟩, hS.F ht9⟩) hS.2.2 dX6_isIdle_73
def f_X6_idle (fu : Nat) (now : Nat → Int32) (fitting : Nat → Int32) (refused : Nat → Int32) (a1 : Int32) (a2 : Int32) : Option (Int32 × (Nat → Int32) × (Nat → Int32)) :=
  (f_X6_isRule now a1).bind fun r1 => if (zB r1) = 0 then ((f_X6_bad refused ).bind fun r2 => some (r2.1, fitting, r2.2)) else ((f_X6_in  a2 0 1).bind fun r3 => if (zB r3) = 0 then ((f_X6_bad refused ).bind fun r6 => some (r6.1, fitting, r6.2)) else (if a2 = 0 then ((f_X6_countCases fu now fitting a1 1).bind fun r5 => if r5.1 = 0 then (some (1, r5.2, refused)) else (some (0, r5.2, refused))) else ((f_X6_isIdle fu now fitting a1).bind fun r4 => if (zB r4.1) = 0 then (some (0, r4.2, refused)) else (some (1, r4.2, refused)))))
abbrev wk_X6_idle : List Cond := Cond.code yX6_idle cX6_idle 4 (some .int) :: WB
abbrev rm_X6_idle : Room := { frames := 5, cells := 0, slots := 0, locals := 117 }
set_option maxHeartbeats 4000000 in
set_option maxRecDepth 100000 in
theorem c_X6_idle (l : Launch) (D : va_G) (k : Nat → Nat) (o on op orr ot oh og od : Nat) (states : Int32) (bytes : Int32) (reading : Int32) (at_ : Int32) (wrongAt : Int32) (number : Int32) (hh : Int64) (now : Nat → Int32) (fitting : Nat → Int32) (refused : Nat → Int32) (a1 : Int32) (a2 : Int32) (fu : Nat) {res : Int32 × (Nat → Int32) × (Nat → Int32)} (h : f_X6_idle fu now fitting refused a1 a2 = some res) : Ci l yX6_idle wk_X6_idle rm_X6_idle D k [.ref o, .int a1, .int a2] [(o, .inr (6, [.ref on, .ref op, .int states, .ref orr, .ref ot, .int bytes, .ref oh, .ref og, .ref od, .int reading, .int at_, .int wrongAt, .int number, .long hh])), (on, .inl (k 0, 401, .inl now)), (og, .inl (k 0, 164, .inl fitting)), (orr, .inl (k 0, 3, .inl refused))] [(o, .inr (6, [.ref on, .ref op, .int states, .ref orr, .ref ot, .int bytes, .ref oh, .ref og, .ref od, .int reading, .int at_, .int wrongAt, .int number, .long hh])), (on, .inl (k 0, 401, .inl now)), (og, .inl (k 0, 164, .inl res.2.1)), (orr, .inl (k 0, 3, .inl res.2.2))] res.1 := by
  unfold Ci
  intro sz
  refine Met.ofW (cc := cX6_idle) (maxL := 4) (ret := (some .int)) (by decide) rfl ?_
  intro p e s m args below meth c s₁ B hml hv
  obtain ⟨rfl, hsz, hP, hK, hD0, hm⟩ := hv
  have hx := B.exec
  have hb := B.bytes
  have hr := B.returns
  have ht : ∀ w ∈ WB, w.before _ s = true := fun w hw => atoms_spec (ws := wk_X6_idle) B.pre w (List.mem_cons_of_mem _ hw)
  have hown : s.vm.findClass RX6 = some m.cls := findClass_of_methodNamed B.named
  have hlocks := B.notSynchronized
  subst hsz
  have hD := hD0.self (sz := s.heap.size)
  generalize hAe : va_A [(o, .inr (6, [.ref on, .ref op, .int states, .ref orr, .ref ot, .int bytes, .ref oh, .ref og, .ref od, .int reading, .int at_, .int wrongAt, .int number, .long hh])), (on, .inl (k 0, 401, .inl now)), (og, .inl (k 0, 164, .inl fitting)), (orr, .inl (k 0, 3, .inl refused))] s.heap.size = A at hD hm ⊢
  have hA : ∀ q : Nat, s.heap.size ≤ q → A q := fun q h => by rw [← hAe]; exact Or.inr h
  have hS : va_S A s.heap s.heap [] := va_S.rf
  have hl := lv_entry ([.ref o, .int a1, .int a2]) (n := 4) (Nat.le_of_ble_eq_true rfl)
  rw [lg_entry_eq]
  generalize (lg_sl ([.ref o, .int a1, .int a2]) ++ List.replicate (4 - (lg_sl ([.ref o, .int a1, .int a2])).length) Slot.unset).toArray = ls at hl ⊢
  have hl : lv_has ls 4 [(0, .ref o), (1, .int a1), (2, .int a2)] := hl
  obtain ⟨H, hH⟩ : ∃ H, H = s.heap := ⟨_, rfl⟩
  rw [← hH] at hP
  have hS : va_S A s.heap H [] := by rw [hH]; exact hS
  suffices hgo : W p l e _ s m _ below meth c H [] 0 0 _ _ by rw [hH] at hgo; exact hgo
  unfold f_X6_idle at h
  refine lv_aload_n hx hb dX6_idle_0 rfl (lv_at hl 0 rfl) ?_
  refine lv_iload_n hx hb dX6_idle_1 rfl (lv_at hl 1 rfl) ?_
  obtain ⟨r1, h1, h⟩ := zb h
  refine zi (zrV (C := RX6) (T := TX6) (N := 14) (As := [.int a1]) (rest := []) ⟨hx, hb, hml, hown, ht⟩ (c_X6_isRule l D k o on op orr ot oh og od states bytes reading at_ wrongAt number hh now a1 h1 _) (cwV 1 ht (gdV wb857 wb859 wb33 wb80 wb860) rfl rfl rfl (by decide +kernel) ⟨Nat.le_of_ble_eq_true rfl, Nat.le_of_ble_eq_true rfl⟩) hK hP hD hS hA hm [0, 1] rfl rfl 0 6 rfl rfl rfl hl.1 rfl (Nat.le_of_ble_eq_true rfl) dX6_idle_2 ⟨Nat.le_refl _, Nat.le_refl _⟩) hP hD hS hA [0, 1] rfl rfl (fun H locs hP hD hS => ?_)
  have hP : va_P D vwCl [(o, .inr (6, [.ref on, .ref op, .int states, .ref orr, .ref ot, .int bytes, .ref oh, .ref og, .ref od, .int reading, .int at_, .int wrongAt, .int number, .long hh])), (on, .inl (k 0, 401, .inl now)), (og, .inl (k 0, 164, .inl fitting)), (orr, .inl (k 0, 3, .inl refused))] H := hP
  have hD : va_D A [(o, .inr (6, [.ref on, .ref op, .int states, .ref orr, .ref ot, .int bytes, .ref oh, .ref og, .ref od, .int reading, .int at_, .int wrongAt, .int number, .long hh])), (on, .inl (k 0, 401, .inl now)), (og, .inl (k 0, 164, .inl fitting)), (orr, .inl (k 0, 3, .inl refused))] := hD
  refine lv_if_eq (tgt := 17) hx hb dX6_idle_5 (by decide) (fun c5 => ?_) (fun c5 => ?_)
  · have h := zt h c5
    refine lv_aload_n hx hb dX6_idle_17 rfl (lv_at hl 0 rfl) ?_
    obtain ⟨r2, h2, h⟩ := zb h
    refine zi (zrV (C := RX6) (T := TX6) (N := 14) (As := []) (rest := []) ⟨hx, hb, hml, hown, ht⟩ (c_X6_bad l D k o on op orr ot oh og od states bytes reading at_ wrongAt number hh refused  h2 _) (cwV 0 ht (gdV wb826 wb828 wb29 wb80 wb829) rfl rfl rfl (by decide +kernel) ⟨Nat.le_of_ble_eq_true rfl, Nat.le_of_ble_eq_true rfl⟩) hK hP hD hS hA hm [0, 3] rfl rfl 0 6 rfl rfl rfl hl.1 rfl (Nat.le_of_ble_eq_true rfl) dX6_idle_18 ⟨Nat.le_refl _, Nat.le_refl _⟩) hP hD hS hA [0, 3] rfl rfl (fun H locs hP hD hS => ?_)
    have hP : va_P D vwCl [(o, .inr (6, [.ref on, .ref op, .int states, .ref orr, .ref ot, .int bytes, .ref oh, .ref og, .ref od, .int reading, .int at_, .int wrongAt, .int number, .long hh])), (on, .inl (k 0, 401, .inl now)), (og, .inl (k 0, 164, .inl fitting)), (orr, .inl (k 0, 3, .inl r2.2))] H := hP
    have hD : va_D A [(o, .inr (6, [.ref on, .ref op, .int states, .ref orr, .ref ot, .int bytes, .ref oh, .ref og, .ref od, .int reading, .int at_, .int wrongAt, .int number, .long hh])), (on, .inl (k 0, 401, .inl now)), (og, .inl (k 0, 164, .inl fitting)), (orr, .inl (k 0, 3, .inl r2.2))] := hD
    obtain rfl := Option.some.inj h
    exact W.iret (v := r2.1) hx hb hr (fun t ht9 hW => ⟨⟨_, (), rfl, rfl, zend ht9 hP⟩, hS.F ht9⟩) hS.2.2 dX6_idle_21
  · have h := zf h c5
    refine lv_iload_n hx hb dX6_idle_8 rfl (lv_at hl 2 rfl) ?_
    refine lv_iconst (v := 0) hx hb dX6_idle_9 (by decide) ?_
    refine lv_iconst (v := 1) hx hb dX6_idle_10 (by decide) ?_
    obtain ⟨r3, h3, h⟩ := zb h
    refine zi (zrS (As := [.int a2, .int 0, .int 1]) (rest := []) ⟨hx, hb, hml, hown, ht⟩ (c_X6_in l D k   a2 0 1 h3 _) (va_cwS 3 ht (gdS wb820 wb821 wb80 wb822) rfl rfl rfl (by decide +kernel) ⟨Nat.le_of_ble_eq_true rfl, Nat.le_of_ble_eq_true rfl⟩) hK hP hD hS hA hm [] rfl rfl rfl hl.1 rfl (Nat.le_of_ble_eq_true rfl) dX6_idle_11 ⟨Nat.le_refl _, Nat.le_refl _⟩) hP hD hS hA [] rfl rfl (fun H locs hP hD hS => ?_)
    have hP : va_P D vwCl [(o, .inr (6, [.ref on, .ref op, .int states, .ref orr, .ref ot, .int bytes, .ref oh, .ref og, .ref od, .int reading, .int at_, .int wrongAt, .int number, .long hh])), (on, .inl (k 0, 401, .inl now)), (og, .inl (k 0, 164, .inl fitting)), (orr, .inl (k 0, 3, .inl refused))] H := hP
    have hD : va_D A [(o, .inr (6, [.ref on, .ref op, .int states, .ref orr, .ref ot, .int bytes, .ref oh, .ref og, .ref od, .int reading, .int at_, .int wrongAt, .int number, .long hh])), (on, .inl (k 0, 401, .inl now)), (og, .inl (k 0, 164, .inl fitting)), (orr, .inl (k 0, 3, .inl refused))] := hD
    refine lv_if_ne (tgt := 22) hx hb dX6_idle_14 (by decide) (fun c4 => ?_) (fun c4 => ?_)
    · have h := zf h c4
      refine lv_iload_n hx hb dX6_idle_22 rfl (lv_at hl 2 rfl) ?_
      refine lv_if_ne (tgt := 43) hx hb dX6_idle_23 (by decide) (fun c3 => ?_) (fun c3 => ?_)
      · have h := zf h c3
        refine lv_aload_n hx hb dX6_idle_43 rfl (lv_at hl 0 rfl) ?_
        refine lv_iload_n hx hb dX6_idle_44 rfl (lv_at hl 1 rfl) ?_
        obtain ⟨r4, h4, h⟩ := zb h
        refine zi (zrV (C := RX6) (T := TX6) (N := 14) (As := [.int a1]) (rest := []) ⟨hx, hb, hml, hown, ht⟩ (c_X6_isIdle l D k o on op orr ot oh og od states bytes reading at_ wrongAt number hh now fitting a1 fu h4 _) (cwV 1 ht (gdV wb947 wb949 wb42 wb80 wb950) rfl rfl rfl (by decide +kernel) ⟨Nat.le_of_ble_eq_true rfl, Nat.le_of_ble_eq_true rfl⟩) hK hP hD hS hA hm [0, 1, 2] rfl rfl 0 6 rfl rfl rfl hl.1 rfl (Nat.le_of_ble_eq_true rfl) dX6_idle_45 ⟨Nat.le_refl _, Nat.le_refl _⟩) hP hD hS hA [0, 1, 2] rfl rfl (fun H locs hP hD hS => ?_)
        have hP : va_P D vwCl [(o, .inr (6, [.ref on, .ref op, .int states, .ref orr, .ref ot, .int bytes, .ref oh, .ref og, .ref od, .int reading, .int at_, .int wrongAt, .int number, .long hh])), (on, .inl (k 0, 401, .inl now)), (og, .inl (k 0, 164, .inl r4.2)), (orr, .inl (k 0, 3, .inl refused))] H := hP
        have hD : va_D A [(o, .inr (6, [.ref on, .ref op, .int states, .ref orr, .ref ot, .int bytes, .ref oh, .ref og, .ref od, .int reading, .int at_, .int wrongAt, .int number, .long hh])), (on, .inl (k 0, 401, .inl now)), (og, .inl (k 0, 164, .inl r4.2)), (orr, .inl (k 0, 3, .inl refused))] := hD
        refine lv_istore_n (lv' := [(3, .int (zB r4.1)), (0, .ref o), (1, .int a1), (2, .int a2)]) hx hb dX6_idle_48 rfl hl (by decide) rfl (fun ls hl => ?_)
        refine lv_iload_n hx hb dX6_idle_49 rfl (lv_at hl 0 rfl) ?_
        refine lv_if_eq (tgt := 57) hx hb dX6_idle_50 (by decide) (fun c1 => ?_) (fun c1 => ?_)
        · have h := zt h c1
          refine lv_iconst (v := 0) hx hb dX6_idle_57 (by decide) ?_
          obtain rfl := Option.some.inj h
          exact W.iret (v := 0) hx hb hr (fun t ht9 hW => ⟨⟨_, (), rfl, rfl, zend ht9 hP⟩, hS.F ht9⟩) hS.2.2 dX6_idle_58
        · have h := zf h c1
          refine lv_iconst (v := 1) hx hb dX6_idle_53 (by decide) ?_
          refine lv_goto (tgt := 58) hx hb dX6_idle_54 (by decide) ?_
          obtain rfl := Option.some.inj h
          exact W.iret (v := 1) hx hb hr (fun t ht9 hW => ⟨⟨_, (), rfl, rfl, zend ht9 hP⟩, hS.F ht9⟩) hS.2.2 dX6_idle_58
      · have h := zt h c3
        refine lv_aload_n hx hb dX6_idle_26 rfl (lv_at hl 0 rfl) ?_
        refine lv_iload_n hx hb dX6_idle_27 rfl (lv_at hl 1 rfl) ?_
        refine lv_iconst (v := 1) hx hb dX6_idle_28 (by decide) ?_
        obtain ⟨r5, h5, h⟩ := zb h
        refine zi (zrV (C := RX6) (T := TX6) (N := 14) (As := [.int a1, .int 1]) (rest := []) ⟨hx, hb, hml, hown, ht⟩ (c_X6_countCases l D k o on op orr ot oh og od states bytes reading at_ wrongAt number hh now fitting a1 1 fu h5 _) (cwV 2 ht (gdV wb938 wb940 wb41 wb80 wb941) rfl rfl rfl (by decide +kernel) ⟨Nat.le_of_ble_eq_true rfl, Nat.le_of_ble_eq_true rfl⟩) hK hP hD hS hA hm [0, 1, 2] rfl rfl 0 6 rfl rfl rfl hl.1 rfl (Nat.le_of_ble_eq_true rfl) dX6_idle_29 ⟨Nat.le_refl _, Nat.le_refl _⟩) hP hD hS hA [0, 1, 2] rfl rfl (fun H locs hP hD hS => ?_)
        have hP : va_P D vwCl [(o, .inr (6, [.ref on, .ref op, .int states, .ref orr, .ref ot, .int bytes, .ref oh, .ref og, .ref od, .int reading, .int at_, .int wrongAt, .int number, .long hh])), (on, .inl (k 0, 401, .inl now)), (og, .inl (k 0, 164, .inl r5.2)), (orr, .inl (k 0, 3, .inl refused))] H := hP
        have hD : va_D A [(o, .inr (6, [.ref on, .ref op, .int states, .ref orr, .ref ot, .int bytes, .ref oh, .ref og, .ref od, .int reading, .int at_, .int wrongAt, .int number, .long hh])), (on, .inl (k 0, 401, .inl now)), (og, .inl (k 0, 164, .inl r5.2)), (orr, .inl (k 0, 3, .inl refused))] := hD
        refine lv_if_ne (tgt := 39) hx hb dX6_idle_32 (by decide) (fun c2 => ?_) (fun c2 => ?_)
        · have h := zf h c2
          refine lv_iconst (v := 0) hx hb dX6_idle_39 (by decide) ?_
          refine lv_goto (tgt := 48) hx hb dX6_idle_40 (by decide) ?_
          refine lv_istore_n (lv' := [(3, .int 0), (0, .ref o), (1, .int a1), (2, .int a2)]) hx hb dX6_idle_48 rfl hl (by decide) rfl (fun ls hl => ?_)
          refine lv_iload_n hx hb dX6_idle_49 rfl (lv_at hl 0 rfl) ?_
          refine lv_if_eq (tgt := 57) hx hb dX6_idle_50 (by decide) (fun _ => ?_) (fun c9 => absurd (by decide) c9)
          refine lv_iconst (v := 0) hx hb dX6_idle_57 (by decide) ?_
          obtain rfl := Option.some.inj h
          exact W.iret (v := 0) hx hb hr (fun t ht9 hW => ⟨⟨_, (), rfl, rfl, zend ht9 hP⟩, hS.F ht9⟩) hS.2.2 dX6_idle_58
        · have h := zt h c2
          refine lv_iconst (v := 1) hx hb dX6_idle_35 (by decide) ?_
          refine lv_goto (tgt := 48) hx hb dX6_idle_36 (by decide) ?_
          refine lv_istore_n (lv' := [(3, .int 1), (0, .ref o), (1, .int a1), (2, .int a2)]) hx hb dX6_idle_48 rfl hl (by decide) rfl (fun ls hl => ?_)
          refine lv_iload_n hx hb dX6_idle_49 rfl (lv_at hl 0 rfl) ?_
          refine lv_if_eq (tgt := 57) hx hb dX6_idle_50 (by decide) (fun c9 => absurd c9 (by decide)) (fun _ => ?_)
          refine lv_iconst (v := 1) hx hb dX6_idle_53 (by decide) ?_
          refine lv_goto (tgt := 58) hx hb dX6_idle_54 (by decide) ?_
          obtain rfl := Option.some.inj h
          exact W.iret (v := 1) hx hb hr (fun t ht9 hW => ⟨⟨_, (), rfl, rfl, zend ht9 hP⟩, hS.F ht9⟩) hS.2.2 dX6_idle_58
    · have h := zt h c4
      refine lv_aload_n hx hb dX6_idle_17 rfl (lv_at hl 0 rfl) ?_
      obtain ⟨r6, h6, h⟩ := zb h
      refine zi (zrV (C := RX6) (T := TX6) (N := 14) (As := []) (rest := []) ⟨hx, hb, hml, hown, ht⟩ (c_X6_bad l D k o on op orr ot oh og od states bytes reading at_ wrongAt number hh refused  h6 _) (cwV 0 ht (gdV wb826 wb828 wb29 wb80 wb829) rfl rfl rfl (by decide +kernel) ⟨Nat.le_of_ble_eq_true rfl, Nat.le_of_ble_eq_true rfl⟩) hK hP hD hS hA hm [0, 3] rfl rfl 0 6 rfl rfl rfl hl.1 rfl (Nat.le_of_ble_eq_true rfl) dX6_idle_18 ⟨Nat.le_refl _, Nat.le_refl _⟩) hP hD hS hA [0, 3] rfl rfl (fun H locs hP hD hS => ?_)
      have hP : va_P D vwCl [(o, .inr (6, [.ref on, .ref op, .int states, .ref orr, .ref ot, .int bytes, .ref oh, .ref og, .ref od, .int reading, .int at_, .int wrongAt, .int number, .long hh])), (on, .inl (k 0, 401, .inl now)), (og, .inl (k 0, 164, .inl fitting)), (orr, .inl (k 0, 3, .inl r6.2))] H := hP
      have hD : va_D A [(o, .inr (6, [.ref on, .ref op, .int states, .ref orr, .ref ot, .int bytes, .ref oh, .ref og, .ref od, .int reading, .int at_, .int wrongAt, .int number, .long hh])), (on, .inl (k 0, 401, .inl now)), (og, .inl (k 0, 164, .inl fitting)), (orr, .inl (k 0, 3, .inl r6.2))] := hD
      obtain rfl := Option.some.inj h
      exact W.iret (v := r6.1) hx hb hr (fun t ht9 hW => ⟨⟨_, (), rfl, rfl, zend ht9 hP⟩, hS.F ht9⟩) hS.2.2 dX6_idle_21
def f_X6_contradicts_L79 (fu : Nat) (K : Int32 → Int32 → Option (Int32 × (Nat → Int32) × (Nat → Int32))) (v3 : Int32) (fitting : Nat → Int32) : Nat → Int32 → Int32 → Option (Int32 × (Nat → Int32) × (Nat → Int32))
  | 0, _, _ => none
  | n + 1, v4, v5 =>
  if 32768 ≤ v5 then (K v4 v5) else ((f_X6_fits fitting 0 v5).bind fun r6 => if (r6 &&& v3) = v3 then (f_X6_contradicts_L79 fu K v3 fitting n (v4 + 1) (v5 + 1)) else (f_X6_contradicts_L79 fu K v3 fitting n (v4 + 0) (v5 + 1)))
def f_X6_contradicts (fu : Nat) (now : Nat → Int32) (fitting : Nat → Int32) (refused : Nat → Int32) (a1 : Int32) (a2 : Int32) : Option (Int32 × (Nat → Int32) × (Nat → Int32)) :=
  (f_X6_isRule now a1).bind fun r1 => if (zB r1) = 0 then ((f_X6_bad refused ).bind fun r2 => some (r2.1, fitting, r2.2)) else ((f_X6_isRule now a2).bind fun r3 => if (zB r3) = 0 then ((f_X6_bad refused ).bind fun r4 => some (r4.1, fitting, r4.2)) else (if a1 = a2 then ((f_X6_bad refused ).bind fun r7 => some (r7.1, fitting, r7.2)) else (if zok ((33 + (11 * a1)) + 9) 401 then (if zok ((33 + (11 * a2)) + 9) 401 then (if (now (Int32.toNatClampNeg ((33 + (11 * a1)) + 9))) = (now (Int32.toNatClampNeg ((33 + (11 * a2)) + 9))) then (some (0, fitting, refused)) else ((f_X6_findsNow fu now fitting ).bind fun r5 => f_X6_contradicts_L79 fu (fun (x1 : Int32) (x2 : Int32) => some (x1, r5, refused)) ((1 <<< (a1 &&& 31)) ||| (1 <<< (a2 &&& 31))) r5 fu 0 0)) else none) else none)))
abbrev wk_X6_contradicts : List Cond := Cond.code yX6_contradicts cX6_contradicts 6 (some .int) :: WB
abbrev rm_X6_contradicts : Room := { frames := 4, cells := 0, slots := 0, locals := 91 }
set_option maxHeartbeats 4000000 in
set_option maxRecDepth 100000 in
theorem c_X6_contradicts (l : Launch) (D : va_G) (k : Nat → Nat) (o on op orr ot oh og od : Nat) (states : Int32) (bytes : Int32) (reading : Int32) (at_ : Int32) (wrongAt : Int32) (number : Int32) (hh : Int64) (now : Nat → Int32) (fitting : Nat → Int32) (refused : Nat → Int32) (a1 : Int32) (a2 : Int32) (fu : Nat) {res : Int32 × (Nat → Int32) × (Nat → Int32)} (h : f_X6_contradicts fu now fitting refused a1 a2 = some res) : Ci l yX6_contradicts wk_X6_contradicts rm_X6_contradicts D k [.ref o, .int a1, .int a2] [(o, .inr (6, [.ref on, .ref op, .int states, .ref orr, .ref ot, .int bytes, .ref oh, .ref og, .ref od, .int reading, .int at_, .int wrongAt, .int number, .long hh])), (on, .inl (k 0, 401, .inl now)), (og, .inl (k 0, 164, .inl fitting)), (orr, .inl (k 0, 3, .inl refused))] [(o, .inr (6, [.ref on, .ref op, .int states, .ref orr, .ref ot, .int bytes, .ref oh, .ref og, .ref od, .int reading, .int at_, .int wrongAt, .int number, .long hh])), (on, .inl (k 0, 401, .inl now)), (og, .inl (k 0, 164, .inl res.2.1)), (orr, .inl (k 0, 3, .inl res.2.2))] res.1 := by
  unfold Ci
  intro sz
  refine Met.ofW (cc := cX6_contradicts) (maxL := 6) (ret := (some .int)) (by decide) rfl ?_
  intro p e s m args below meth c s₁ B hml hv
  obtain ⟨rfl, hsz, hP, hK, hD0, hm⟩ := hv
  have hx := B.exec
  have hb := B.bytes
  have hr := B.returns
  have ht : ∀ w ∈ WB, w.before _ s = true := fun w hw => atoms_spec (ws := wk_X6_contradicts) B.pre w (List.mem_cons_of_mem _ hw)
  have hown : s.vm.findClass RX6 = some m.cls := findClass_of_methodNamed B.named
  have hlocks := B.notSynchronized
  subst hsz
  have hD := hD0.self (sz := s.heap.size)
  generalize hAe : va_A [(o, .inr (6, [.ref on, .ref op, .int states, .ref orr, .ref ot, .int bytes, .ref oh, .ref og, .ref od, .int reading, .int at_, .int wrongAt, .int number, .long hh])), (on, .inl (k 0, 401, .inl now)), (og, .inl (k 0, 164, .inl fitting)), (orr, .inl (k 0, 3, .inl refused))] s.heap.size = A at hD hm ⊢
  have hA : ∀ q : Nat, s.heap.size ≤ q → A q := fun q h => by rw [← hAe]; exact Or.inr h
  have hS : va_S A s.heap s.heap [] := va_S.rf
  have hl := lv_entry ([.ref o, .int a1, .int a2]) (n := 6) (Nat.le_of_ble_eq_true rfl)
  rw [lg_entry_eq]
  generalize (lg_sl ([.ref o, .int a1, .int a2]) ++ List.replicate (6 - (lg_sl ([.ref o, .int a1, .int a2])).length) Slot.unset).toArray = ls at hl ⊢
  have hl : lv_has ls 6 [(0, .ref o), (1, .int a1), (2, .int a2)] := hl
  obtain ⟨H, hH⟩ : ∃ H, H = s.heap := ⟨_, rfl⟩
  rw [← hH] at hP
  have hS : va_S A s.heap H [] := by rw [hH]; exact hS
  suffices hgo : W p l e _ s m _ below meth c H [] 0 0 _ _ by rw [hH] at hgo; exact hgo
  unfold f_X6_contradicts at h
  refine lv_aload_n hx hb dX6_contradicts_0 rfl (lv_at hl 0 rfl) ?_
  refine lv_iload_n hx hb dX6_contradicts_1 rfl (lv_at hl 1 rfl) ?_
  obtain ⟨r1, h1, h⟩ := zb h
  refine zi (zrV (C := RX6) (T := TX6) (N := 14) (As := [.int a1]) (rest := []) ⟨hx, hb, hml, hown, ht⟩ (c_X6_isRule l D k o on op orr ot oh og od states bytes reading at_ wrongAt number hh now a1 h1 _) (cwV 1 ht (gdV wb857 wb859 wb33 wb80 wb860) rfl rfl rfl (by decide +kernel) ⟨Nat.le_of_ble_eq_true rfl, Nat.le_of_ble_eq_true rfl⟩) hK hP hD hS hA hm [0, 1] rfl rfl 0 6 rfl rfl rfl hl.1 rfl (Nat.le_of_ble_eq_true rfl) dX6_contradicts_2 ⟨Nat.le_refl _, Nat.le_refl _⟩) hP hD hS hA [0, 1] rfl rfl (fun H locs hP hD hS => ?_)
  have hP : va_P D vwCl [(o, .inr (6, [.ref on, .ref op, .int states, .ref orr, .ref ot, .int bytes, .ref oh, .ref og, .ref od, .int reading, .int at_, .int wrongAt, .int number, .long hh])), (on, .inl (k 0, 401, .inl now)), (og, .inl (k 0, 164, .inl fitting)), (orr, .inl (k 0, 3, .inl refused))] H := hP
  have hD : va_D A [(o, .inr (6, [.ref on, .ref op, .int states, .ref orr, .ref ot, .int bytes, .ref oh, .ref og, .ref od, .int reading, .int at_, .int wrongAt, .int number, .long hh])), (on, .inl (k 0, 401, .inl now)), (og, .inl (k 0, 164, .inl fitting)), (orr, .inl (k 0, 3, .inl refused))] := hD
  refine lv_if_eq (tgt := 21) hx hb dX6_contradicts_5 (by decide) (fun c6 => ?_) (fun c6 => ?_)
  · have h := zt h c6
    refine lv_aload_n hx hb dX6_contradicts_21 rfl (lv_at hl 0 rfl) ?_
    obtain ⟨r2, h2, h⟩ := zb h
    refine zi (zrV (C := RX6) (T := TX6) (N := 14) (As := []) (rest := []) ⟨hx, hb, hml, hown, ht⟩ (c_X6_bad l D k o on op orr ot oh og od states bytes reading at_ wrongAt number hh refused  h2 _) (cwV 0 ht (gdV wb826 wb828 wb29 wb80 wb829) rfl rfl rfl (by decide +kernel) ⟨Nat.le_of_ble_eq_true rfl, Nat.le_of_ble_eq_true rfl⟩) hK hP hD hS hA hm [0, 3] rfl rfl 0 6 rfl rfl rfl hl.1 rfl (Nat.le_of_ble_eq_true rfl) dX6_contradicts_22 ⟨Nat.le_refl _, Nat.le_refl _⟩) hP hD hS hA [0, 3] rfl rfl (fun H locs hP hD hS => ?_)
    have hP : va_P D vwCl [(o, .inr (6, [.ref on, .ref op, .int states, .ref orr, .ref ot, .int bytes, .ref oh, .ref og, .ref od, .int reading, .int at_, .int wrongAt, .int number, .long hh])), (on, .inl (k 0, 401, .inl now)), (og, .inl (k 0, 164, .inl fitting)), (orr, .inl (k 0, 3, .inl r2.2))] H := hP
    have hD : va_D A [(o, .inr (6, [.ref on, .ref op, .int states, .ref orr, .ref ot, .int bytes, .ref oh, .ref og, .ref od, .int reading, .int at_, .int wrongAt, .int number, .long hh])), (on, .inl (k 0, 401, .inl now)), (og, .inl (k 0, 164, .inl fitting)), (orr, .inl (k 0, 3, .inl r2.2))] := hD
    obtain rfl := Option.some.inj h
    exact W.iret (v := r2.1) hx hb hr (fun t ht9 hW => ⟨⟨_, (), rfl, rfl, zend ht9 hP⟩, hS.F ht9⟩) hS.2.2 dX6_contradicts_25
  · have h := zf h c6
    refine lv_aload_n hx hb dX6_contradicts_8 rfl (lv_at hl 0 rfl) ?_
    refine lv_iload_n hx hb dX6_contradicts_9 rfl (lv_at hl 2 rfl) ?_
    obtain ⟨r3, h3, h⟩ := zb h
    refine zi (zrV (C := RX6) (T := TX6) (N := 14) (As := [.int a2]) (rest := []) ⟨hx, hb, hml, hown, ht⟩ (c_X6_isRule l D k o on op orr ot oh og od states bytes reading at_ wrongAt number hh now a2 h3 _) (cwV 1 ht (gdV wb857 wb859 wb33 wb80 wb860) rfl rfl rfl (by decide +kernel) ⟨Nat.le_of_ble_eq_true rfl, Nat.le_of_ble_eq_true rfl⟩) hK hP hD hS hA hm [0, 1] rfl rfl 0 6 rfl rfl rfl hl.1 rfl (Nat.le_of_ble_eq_true rfl) dX6_contradicts_10 ⟨Nat.le_refl _, Nat.le_refl _⟩) hP hD hS hA [0, 1] rfl rfl (fun H locs hP hD hS => ?_)
    have hP : va_P D vwCl [(o, .inr (6, [.ref on, .ref op, .int states, .ref orr, .ref ot, .int bytes, .ref oh, .ref og, .ref od, .int reading, .int at_, .int wrongAt, .int number, .long hh])), (on, .inl (k 0, 401, .inl now)), (og, .inl (k 0, 164, .inl fitting)), (orr, .inl (k 0, 3, .inl refused))] H := hP
    have hD : va_D A [(o, .inr (6, [.ref on, .ref op, .int states, .ref orr, .ref ot, .int bytes, .ref oh, .ref og, .ref od, .int reading, .int at_, .int wrongAt, .int number, .long hh])), (on, .inl (k 0, 401, .inl now)), (og, .inl (k 0, 164, .inl fitting)), (orr, .inl (k 0, 3, .inl refused))] := hD
    refine lv_if_eq (tgt := 21) hx hb dX6_contradicts_13 (by decide) (fun c5 => ?_) (fun c5 => ?_)
    · have h := zt h c5
      refine lv_aload_n hx hb dX6_contradicts_21 rfl (lv_at hl 0 rfl) ?_
      obtain ⟨r4, h4, h⟩ := zb h
      refine zi (zrV (C := RX6) (T := TX6) (N := 14) (As := []) (rest := []) ⟨hx, hb, hml, hown, ht⟩ (c_X6_bad l D k o on op orr ot oh og od states bytes reading at_ wrongAt number hh refused  h4 _) (cwV 0 ht (gdV wb826 wb828 wb29 wb80 wb829) rfl rfl rfl (by decide +kernel) ⟨Nat.le_of_ble_eq_true rfl, Nat.le_of_ble_eq_true rfl⟩) hK hP hD hS hA hm [0, 3] rfl rfl 0 6 rfl rfl rfl hl.1 rfl (Nat.le_of_ble_eq_true rfl) dX6_contradicts_22 ⟨Nat.le_refl _, Nat.le_refl _⟩) hP hD hS hA [0, 3] rfl rfl (fun H locs hP hD hS => ?_)
      have hP : va_P D vwCl [(o, .inr (6, [.ref on, .ref op, .int states, .ref orr, .ref ot, .int bytes, .ref oh, .ref og, .ref od, .int reading, .int at_, .int wrongAt, .int number, .long hh])), (on, .inl (k 0, 401, .inl now)), (og, .inl (k 0, 164, .inl fitting)), (orr, .inl (k 0, 3, .inl r4.2))] H := hP
      have hD : va_D A [(o, .inr (6, [.ref on, .ref op, .int states, .ref orr, .ref ot, .int bytes, .ref oh, .ref og, .ref od, .int reading, .int at_, .int wrongAt, .int number, .long hh])), (on, .inl (k 0, 401, .inl now)), (og, .inl (k 0, 164, .inl fitting)), (orr, .inl (k 0, 3, .inl r4.2))] := hD
      obtain rfl := Option.some.inj h
      exact W.iret (v := r4.1) hx hb hr (fun t ht9 hW => ⟨⟨_, (), rfl, rfl, zend ht9 hP⟩, hS.F ht9⟩) hS.2.2 dX6_contradicts_25
    · have h := zf h c5
      refine lv_iload_n hx hb dX6_contradicts_16 rfl (lv_at hl 1 rfl) ?_
      refine lv_iload_n hx hb dX6_contradicts_17 rfl (lv_at hl 2 rfl) ?_
      refine lv_icmp_ne (tgt := 26) hx hb dX6_contradicts_18 (by decide) (fun c4 => ?_) (fun c4 => ?_)
      · have h := zf h c4
        refine lv_aload_n hx hb dX6_contradicts_26 rfl (lv_at hl 0 rfl) ?_
        refine va_get (D := D) (ci := 6) (v := .ref on) (C := RX6) (T := TX6) (N := 14) hx hb ht hiX6 hown hK hP 0 rfl rfl 0 (by decide) (ht _ wb765) (fun _ h9 => h9) rfl dX6_contradicts_27 ?_
        refine lv_bipush (v := 33) hx hb dX6_contradicts_30 (by decide) ?_
        refine lv_bipush (v := 11) hx hb dX6_contradicts_32 (by decide) ?_
        refine lv_iload_n hx hb dX6_contradicts_34 rfl (lv_at hl 1 rfl) ?_
        refine lv_imul hx hb dX6_contradicts_35 ?_
        refine lv_iadd hx hb dX6_contradicts_36 ?_
        refine lv_bipush (v := 9) hx hb dX6_contradicts_37 (by decide) ?_
        refine lv_iadd hx hb dX6_contradicts_39 ?_
        obtain ⟨hi1, h⟩ := zg h
        refine va_iald hx hb hK hP 1 0 rfl rfl hi1 dX6_contradicts_40 ?_
        refine lv_aload_n hx hb dX6_contradicts_41 rfl (lv_at hl 0 rfl) ?_
        refine va_get (D := D) (ci := 6) (v := .ref on) (C := RX6) (T := TX6) (N := 14) hx hb ht hiX6 hown hK hP 0 rfl rfl 0 (by decide) (ht _ wb765) (fun _ h9 => h9) rfl dX6_contradicts_42 ?_
        refine lv_bipush (v := 33) hx hb dX6_contradicts_45 (by decide) ?_
        refine lv_bipush (v := 11) hx hb dX6_contradicts_47 (by decide) ?_
        refine lv_iload_n hx hb dX6_contradicts_49 rfl (lv_at hl 2 rfl) ?_
        refine lv_imul hx hb dX6_contradicts_50 ?_
        refine lv_iadd hx hb dX6_contradicts_51 ?_
        refine lv_bipush (v := 9) hx hb dX6_contradicts_52 (by decide) ?_
        refine lv_iadd hx hb dX6_contradicts_54 ?_
        obtain ⟨hi2, h⟩ := zg h
        refine va_iald hx hb hK hP 1 0 rfl rfl hi2 dX6_contradicts_55 ?_
        refine lv_icmp_ne (tgt := 61) hx hb dX6_contradicts_56 (by decide) (fun c3 => ?_) (fun c3 => ?_)
        · have h := zf h c3
          refine lv_aload_n hx hb dX6_contradicts_61 rfl (lv_at hl 0 rfl) ?_
          obtain ⟨r5, h5, h⟩ := zb h
          refine zv (zrV (C := RX6) (T := TX6) (N := 14) (As := []) (rest := []) ⟨hx, hb, hml, hown, ht⟩ (c_X6_findsNow l D k o on op orr ot oh og od states bytes reading at_ wrongAt number hh now fitting  fu h5 _) (cwV 0 ht (gdV wb899 wb901 wb36 wb80 wb902) rfl rfl rfl (by decide +kernel) ⟨Nat.le_of_ble_eq_true rfl, Nat.le_of_ble_eq_true rfl⟩) hK hP hD hS hA hm [0, 1, 2] rfl rfl 0 6 rfl rfl rfl hl.1 rfl (Nat.le_of_ble_eq_true rfl) dX6_contradicts_62 ⟨Nat.le_refl _, Nat.le_refl _⟩) hP hD hS hA [0, 1, 2] rfl rfl (fun H locs hP hD hS => ?_)
          have hP : va_P D vwCl [(o, .inr (6, [.ref on, .ref op, .int states, .ref orr, .ref ot, .int bytes, .ref oh, .ref og, .ref od, .int reading, .int at_, .int wrongAt, .int number, .long hh])), (on, .inl (k 0, 401, .inl now)), (og, .inl (k 0, 164, .inl r5)), (orr, .inl (k 0, 3, .inl refused))] H := hP
          have hD : va_D A [(o, .inr (6, [.ref on, .ref op, .int states, .ref orr, .ref ot, .int bytes, .ref oh, .ref og, .ref od, .int reading, .int at_, .int wrongAt, .int number, .long hh])), (on, .inl (k 0, 401, .inl now)), (og, .inl (k 0, 164, .inl r5)), (orr, .inl (k 0, 3, .inl refused))] := hD
          refine lv_iconst (v := 1) hx hb dX6_contradicts_65 (by decide) ?_
          refine lv_iload_n hx hb dX6_contradicts_66 rfl (lv_at hl 1 rfl) ?_
          refine lv_ishl hx hb dX6_contradicts_67 ?_
          refine lv_iconst (v := 1) hx hb dX6_contradicts_68 (by decide) ?_
          refine lv_iload_n hx hb dX6_contradicts_69 rfl (lv_at hl 2 rfl) ?_
          refine lv_ishl hx hb dX6_contradicts_70 ?_
          refine lv_ior hx hb dX6_contradicts_71 ?_
          refine lv_istore_n (lv' := [(3, .int ((1 <<< (a1 &&& 31)) ||| (1 <<< (a2 &&& 31)))), (0, .ref o), (1, .int a1), (2, .int a2)]) hx hb dX6_contradicts_72 rfl hl (by decide) rfl (fun ls hl => ?_)
          refine lv_iconst (v := 0) hx hb dX6_contradicts_73 (by decide) ?_
          refine lv_istore (lv' := [(4, .int 0), (3, .int ((1 <<< (a1 &&& 31)) ||| (1 <<< (a2 &&& 31)))), (0, .ref o), (1, .int a1), (2, .int a2)]) hx hb dX6_contradicts_74 hl (by decide) rfl (fun ls hl => ?_)
          refine lv_iconst (v := 0) hx hb dX6_contradicts_76 (by decide) ?_
          refine lv_istore (lv' := [(5, .int 0), (4, .int 0), (3, .int ((1 <<< (a1 &&& 31)) ||| (1 <<< (a2 &&& 31)))), (0, .ref o), (1, .int a1), (2, .int a2)]) hx hb dX6_contradicts_77 hl (by decide) rfl (fun ls hl => ?_)
          have loop79 : ∀ (v1 : Int32) (v2 : Int32) (v3 : Int32) (states : Int32) (bytes : Int32) (reading : Int32) (at_ : Int32) (wrongAt : Int32) (number : Int32) (hh : Int64) (now : Nat → Int32) (fitting : Nat → Int32) (refused : Nat → Int32), ∀ (K : Int32 → Int32 → Option (Int32 × (Nat → Int32) × (Nat → Int32))), (∀ (v4 : Int32) (v5 : Int32), K v4 v5 = some res → ∀ (H : Heap) (locs : List Loc), va_P D vwCl [(o, .inr (6, [.ref on, .ref op, .int states, .ref orr, .ref ot, .int bytes, .ref oh, .ref og, .ref od, .int reading, .int at_, .int wrongAt, .int number, .long hh])), (on, .inl (k 0, 401, .inl now)), (og, .inl (k 0, 164, .inl fitting)), (orr, .inl (k 0, 3, .inl refused))] H → va_D A [(o, .inr (6, [.ref on, .ref op, .int states, .ref orr, .ref ot, .int bytes, .ref oh, .ref og, .ref od, .int reading, .int at_, .int wrongAt, .int number, .long hh])), (on, .inl (k 0, 401, .inl now)), (og, .inl (k 0, 164, .inl fitting)), (orr, .inl (k 0, 3, .inl refused))] → va_S A s.heap H locs → ∀ ls : Array Slot, lv_has ls 6 [(0, .ref o), (1, .int v1), (2, .int v2), (3, .int v3), (4, .int v4), (5, .int v5)] → W p l e (headSpec wk_X6_contradicts rm_X6_contradicts).room s m ([.ref o, .int a1, .int a2] : List Value).toArray below meth c H locs 0 0 (MQ below (va_Qi (fun xq9 (_ : Unit) => xq9 = res.1) (fun _ tq9 => va_P D vwCl [(o, .inr (6, [.ref on, .ref op, .int states, .ref orr, .ref ot, .int bytes, .ref oh, .ref og, .ref od, .int reading, .int at_, .int wrongAt, .int number, .long hh])), (on, .inl (k 0, 401, .inl now)), (og, .inl (k 0, 164, .inl res.2.1)), (orr, .inl (k 0, 3, .inl res.2.2))] tq9.heap) A) ([.ref o, .int a1, .int a2] : List Value).toArray s 0 0 A) (F0 m 115 ls [])) → ∀ (n : Nat) (v4 : Int32) (v5 : Int32), f_X6_contradicts_L79 fu K v3 fitting n v4 v5 = some res → ∀ (H : Heap) (locs : List Loc), va_P D vwCl [(o, .inr (6, [.ref on, .ref op, .int states, .ref orr, .ref ot, .int bytes, .ref oh, .ref og, .ref od, .int reading, .int at_, .int wrongAt, .int number, .long hh])), (on, .inl (k 0, 401, .inl now)), (og, .inl (k 0, 164, .inl fitting)), (orr, .inl (k 0, 3, .inl refused))] H → va_D A [(o, .inr (6, [.ref on, .ref op, .int states, .ref orr, .ref ot, .int bytes, .ref oh, .ref og, .ref od, .int reading, .int at_, .int wrongAt, .int number, .long hh])), (on, .inl (k 0, 401, .inl now)), (og, .inl (k 0, 164, .inl fitting)), (orr, .inl (k 0, 3, .inl refused))] → va_S A s.heap H locs → ∀ ls : Array Slot, lv_has ls 6 [(0, .ref o), (1, .int v1), (2, .int v2), (3, .int v3), (4, .int v4), (5, .int v5)] → W p l e (headSpec wk_X6_contradicts rm_X6_contradicts).room s m ([.ref o, .int a1, .int a2] : List Value).toArray below meth c H locs 0 0 (MQ below (va_Qi (fun xq9 (_ : Unit) => xq9 = res.1) (fun _ tq9 => va_P D vwCl [(o, .inr (6, [.ref on, .ref op, .int states, .ref orr, .ref ot, .int bytes, .ref oh, .ref og, .ref od, .int reading, .int at_, .int wrongAt, .int number, .long hh])), (on, .inl (k 0, 401, .inl now)), (og, .inl (k 0, 164, .inl res.2.1)), (orr, .inl (k 0, 3, .inl res.2.2))] tq9.heap) A) ([.ref o, .int a1, .int a2] : List Value).toArray s 0 0 A) (F0 m 79 ls []) := by
            intro v1 v2 v3 states bytes reading at_ wrongAt number hh now fitting refused K hKK n
            induction n with
            | zero =>
              intro v4 v5 h
              rw [f_X6_contradicts_L79] at h
              cases h
            | succ n ih =>
              intro v4 v5 h H locs hP hD hS ls hl
              rw [f_X6_contradicts_L79] at h
              refine lv_iload hx hb dX6_contradicts_79 (lv_at hl 5 rfl) ?_
              refine lv_ldc (v := 32768) hx hb hown (ht _ wb942) dX6_contradicts_81 ?_
              refine lv_icmp_ge (tgt := 115) hx hb dX6_contradicts_83 (by decide) (fun c2 => ?_) (fun c2 => ?_)
              · have h := zt h c2
                exact hKK _ _ h _ _ hP hD hS _ (lv_sub hl [0, 1, 2, 3, 4, 5] rfl)
              · have h := zf h c2
                refine lv_iload hx hb dX6_contradicts_86 (lv_at hl 4 rfl) ?_
                refine lv_aload_n hx hb dX6_contradicts_88 rfl (lv_at hl 0 rfl) ?_
                refine lv_iconst (v := 0) hx hb dX6_contradicts_89 (by decide) ?_
                refine lv_iload hx hb dX6_contradicts_90 (lv_at hl 5 rfl) ?_
                obtain ⟨r6, h6, h⟩ := zb h
                refine zi (zrV (C := RX6) (T := TX6) (N := 14) (As := [.int 0, .int v5]) (rest := [.int v4]) ⟨hx, hb, hml, hown, ht⟩ (c_X6_fits l D k o on op orr ot oh og od states bytes reading at_ wrongAt number hh fitting 0 v5 h6 _) (cwV 2 ht (gdV wb918 wb920 wb40 wb80 wb921) rfl rfl rfl (by decide +kernel) ⟨Nat.le_of_ble_eq_true rfl, Nat.le_of_ble_eq_true rfl⟩) hK hP hD hS hA hm [0, 2] rfl rfl 0 6 rfl rfl rfl hl.1 rfl (Nat.le_of_ble_eq_true rfl) dX6_contradicts_92 ⟨Nat.le_refl _, Nat.le_refl _⟩) hP hD hS hA [0, 2] rfl rfl (fun H locs hP hD hS => ?_)
                have hP : va_P D vwCl [(o, .inr (6, [.ref on, .ref op, .int states, .ref orr, .ref ot, .int bytes, .ref oh, .ref og, .ref od, .int reading, .int at_, .int wrongAt, .int number, .long hh])), (on, .inl (k 0, 401, .inl now)), (og, .inl (k 0, 164, .inl fitting)), (orr, .inl (k 0, 3, .inl refused))] H := hP
                have hD : va_D A [(o, .inr (6, [.ref on, .ref op, .int states, .ref orr, .ref ot, .int bytes, .ref oh, .ref og, .ref od, .int reading, .int at_, .int wrongAt, .int number, .long hh])), (on, .inl (k 0, 401, .inl now)), (og, .inl (k 0, 164, .inl fitting)), (orr, .inl (k 0, 3, .inl refused))] := hD
                refine lv_iload_n hx hb dX6_contradicts_95 rfl (lv_at hl 3 rfl) ?_
                refine lv_iand hx hb dX6_contradicts_96 ?_
                refine lv_iload_n hx hb dX6_contradicts_97 rfl (lv_at hl 3 rfl) ?_
                refine lv_icmp_ne (tgt := 105) hx hb dX6_contradicts_98 (by decide) (fun c1 => ?_) (fun c1 => ?_)
                · have h := zf h c1
                  refine lv_iconst (v := 0) hx hb dX6_contradicts_105 (by decide) ?_
                  refine lv_iadd hx hb dX6_contradicts_106 ?_
                  refine lv_istore (lv' := [(4, .int (v4 + 0)), (0, .ref o), (1, .int v1), (2, .int v2), (3, .int v3), (5, .int v5)]) hx hb dX6_contradicts_107 hl (by decide) rfl (fun ls hl => ?_)
                  refine lv_iinc (v := v5 + 1) (lv' := [(5, .int (v5 + 1)), (4, .int (v4 + 0)), (0, .ref o), (1, .int v1), (2, .int v2), (3, .int v3)]) hx hb dX6_contradicts_109 hl (k := 5) rfl rfl (by decide) rfl (fun ls hl => ?_)
                  refine lv_goto (tgt := 79) hx hb dX6_contradicts_112 (by decide) ?_
                  exact ih _ _ h _ _ hP hD hS _ (lv_sub hl [2, 3, 4, 5, 1, 0] rfl)
                · have h := zt h c1
                  refine lv_iconst (v := 1) hx hb dX6_contradicts_101 (by decide) ?_
                  refine lv_goto (tgt := 106) hx hb dX6_contradicts_102 (by decide) ?_
                  refine lv_iadd hx hb dX6_contradicts_106 ?_
                  refine lv_istore (lv' := [(4, .int (v4 + 1)), (0, .ref o), (1, .int v1), (2, .int v2), (3, .int v3), (5, .int v5)]) hx hb dX6_contradicts_107 hl (by decide) rfl (fun ls hl => ?_)
                  refine lv_iinc (v := v5 + 1) (lv' := [(5, .int (v5 + 1)), (4, .int (v4 + 1)), (0, .ref o), (1, .int v1), (2, .int v2), (3, .int v3)]) hx hb dX6_contradicts_109 hl (k := 5) rfl rfl (by decide) rfl (fun ls hl => ?_)
                  refine lv_goto (tgt := 79) hx hb dX6_contradicts_112 (by decide) ?_
                  exact ih _ _ h _ _ hP hD hS _ (lv_sub hl [2, 3, 4, 5, 1, 0] rfl)
          refine loop79 _ _ _ _ _ _ _ _ _ _ _ _ _ _ ?_ fu _ _ h _ _ hP hD hS _ (lv_sub hl [3, 4, 5, 2, 1, 0] rfl)
          intro x1 x2 h H locs hP hD hS ls hl
          try dsimp only at h
          have hP : va_P D vwCl [(o, .inr (6, [.ref on, .ref op, .int states, .ref orr, .ref ot, .int bytes, .ref oh, .ref og, .ref od, .int reading, .int at_, .int wrongAt, .int number, .long hh])), (on, .inl (k 0, 401, .inl now)), (og, .inl (k 0, 164, .inl r5)), (orr, .inl (k 0, 3, .inl refused))] H := hP
          have hD : va_D A [(o, .inr (6, [.ref on, .ref op, .int states, .ref orr, .ref ot, .int bytes, .ref oh, .ref og, .ref od, .int reading, .int at_, .int wrongAt, .int number, .long hh])), (on, .inl (k 0, 401, .inl now)), (og, .inl (k 0, 164, .inl r5)), (orr, .inl (k 0, 3, .inl refused))] := hD
          have hl : lv_has ls 6 [(0, .ref o), (1, .int a1), (2, .int a2), (3, .int ((1 <<< (a1 &&& 31)) ||| (1 <<< (a2 &&& 31)))), (4, .int x1), (5, .int x2)] := hl
          refine lv_iload hx hb dX6_contradicts_115 (lv_at hl 4 rfl) ?_
          obtain rfl := Option.some.inj h
          exact W.iret (v := x1) hx hb hr (fun t ht9 hW => ⟨⟨_, (), rfl, rfl, zend ht9 hP⟩, hS.F ht9⟩) hS.2.2 dX6_contradicts_117
        · have h := zt h c3
          refine lv_iconst (v := 0) hx hb dX6_contradicts_59 (by decide) ?_
          obtain rfl := Option.some.inj h
          exact W.iret (v := 0) hx hb hr (fun t ht9 hW => ⟨⟨_, (), rfl, rfl, zend ht9 hP⟩, hS.F ht9⟩) hS.2.2 dX6_contradicts_60
      · have h := zt h c4
        refine lv_aload_n hx hb dX6_contradicts_21 rfl (lv_at hl 0 rfl) ?_
        obtain ⟨r7, h7, h⟩ := zb h
        refine zi (zrV (C := RX6) (T := TX6) (N := 14) (As := []) (rest := []) ⟨hx, hb, hml, hown, ht⟩ (c_X6_bad l D k o on op orr ot oh og od states bytes reading at_ wrongAt number hh refused  h7 _) (cwV 0 ht (gdV wb826 wb828 wb29 wb80 wb829) rfl rfl rfl (by decide +kernel) ⟨Nat.le_of_ble_eq_true rfl, Nat.le_of_ble_eq_true rfl⟩) hK hP hD hS hA hm [0, 3] rfl rfl 0 6 rfl rfl rfl hl.1 rfl (Nat.le_of_ble_eq_true rfl) dX6_contradicts_22 ⟨Nat.le_refl _, Nat.le_refl _⟩) hP hD hS hA [0, 3] rfl rfl (fun H locs hP hD hS => ?_)
        have hP : va_P D vwCl [(o, .inr (6, [.ref on, .ref op, .int states, .ref orr, .ref ot, .int bytes, .ref oh, .ref og, .ref od, .int reading, .int at_, .int wrongAt, .int number, .long hh])), (on, .inl (k 0, 401, .inl now)), (og, .inl (k 0, 164, .inl fitting)), (orr, .inl (k 0, 3, .inl r7.2))] H := hP
        have hD : va_D A [(o, .inr (6, [.ref on, .ref op, .int states, .ref orr, .ref ot, .int bytes, .ref oh, .ref og, .ref od, .int reading, .int at_, .int wrongAt, .int number, .long hh])), (on, .inl (k 0, 401, .inl now)), (og, .inl (k 0, 164, .inl fitting)), (orr, .inl (k 0, 3, .inl r7.2))] := hD
        obtain rfl := Option.some.inj h
        exact W.iret (v := r7.1) hx hb hr (fun t ht9 hW => ⟨⟨_, (), rfl, rfl, zend ht9 hP⟩, hS.F ht9⟩) hS.2.2 dX6_contradicts_25
def f_X6_isOtherwise (fu : Nat) (now : Nat → Int32) (fitting : Nat → Int32) (a1 : Int32) : Option (Bool) :=
  (f_X6_fits fitting 0 a1).bind fun r1 => (f_X6_actionBy fu now 33 r1).bind fun r2 => (f_X6_fits fitting 82 a1).bind fun r3 => (f_X6_actionBy fu now 166 r3).bind fun r4 => if r2 = r4 then (some (false)) else (some (true))
abbrev wk_X6_isOtherwise : List Cond := Cond.code yX6_isOtherwise cX6_isOtherwise 2 (some .boolean) :: WB
abbrev rm_X6_isOtherwise : Room := { frames := 2, cells := 0, slots := 0, locals := 44 }
set_option maxHeartbeats 4000000 in
set_option maxRecDepth 100000 in
theorem c_X6_isOtherwise (l : Launch) (D : va_G) (k : Nat → Nat) (o on op orr ot oh og od : Nat) (states : Int32) (bytes : Int32) (reading : Int32) (at_ : Int32) (wrongAt : Int32) (number : Int32) (hh : Int64) (now : Nat → Int32) (fitting : Nat → Int32) (a1 : Int32) (fu : Nat) {res : Bool} (h : f_X6_isOtherwise fu now fitting a1 = some res) : Ci l yX6_isOtherwise wk_X6_isOtherwise rm_X6_isOtherwise D k [.ref o, .int a1] [(o, .inr (6, [.ref on, .ref op, .int states, .ref orr, .ref ot, .int bytes, .ref oh, .ref og, .ref od, .int reading, .int at_, .int wrongAt, .int number, .long hh])), (on, .inl (k 0, 401, .inl now)), (og, .inl (k 0, 164, .inl fitting))] [(o, .inr (6, [.ref on, .ref op, .int states, .ref orr, .ref ot, .int bytes, .ref oh, .ref og, .ref od, .int reading, .int at_, .int wrongAt, .int number, .long hh])), (on, .inl (k 0, 401, .inl now)), (og, .inl (k 0, 164, .inl fitting))] (zB res) := by
  unfold Ci
  intro sz
  refine Met.ofW (cc := cX6_isOtherwise) (maxL := 2) (ret := (some .boolean)) (by decide) rfl ?_
  intro p e s m args below meth c s₁ B hml hv
  obtain ⟨rfl, hsz, hP, hK, hD0, hm⟩ := hv
  have hx := B.exec
  have hb := B.bytes
  have hr := B.returns
  have ht : ∀ w ∈ WB, w.before _ s = true := fun w hw => atoms_spec (ws := wk_X6_isOtherwise) B.pre w (List.mem_cons_of_mem _ hw)
  have hown : s.vm.findClass RX6 = some m.cls := findClass_of_methodNamed B.named
  have hlocks := B.notSynchronized
  subst hsz
  have hD := hD0.self (sz := s.heap.size)
  generalize hAe : va_A [(o, .inr (6, [.ref on, .ref op, .int states, .ref orr, .ref ot, .int bytes, .ref oh, .ref og, .ref od, .int reading, .int at_, .int wrongAt, .int number, .long hh])), (on, .inl (k 0, 401, .inl now)), (og, .inl (k 0, 164, .inl fitting))] s.heap.size = A at hD hm ⊢
  have hA : ∀ q : Nat, s.heap.size ≤ q → A q := fun q h => by rw [← hAe]; exact Or.inr h
  have hS : va_S A s.heap s.heap [] := va_S.rf
  have hl := lv_entry ([.ref o, .int a1]) (n := 2) (Nat.le_of_ble_eq_true rfl)
  rw [lg_entry_eq]
  generalize (lg_sl ([.ref o, .int a1]) ++ List.replicate (2 - (lg_sl ([.ref o, .int a1])).length) Slot.unset).toArray = ls at hl ⊢
  have hl : lv_has ls 2 [(0, .ref o), (1, .int a1)] := hl
  obtain ⟨H, hH⟩ : ∃ H, H = s.heap := ⟨_, rfl⟩
  rw [← hH] at hP
  have hS : va_S A s.heap H [] := by rw [hH]; exact hS
  suffices hgo : W p l e _ s m _ below meth c H [] 0 0 _ _ by rw [hH] at hgo; exact hgo
  unfold f_X6_isOtherwise at h
  refine lv_aload_n hx hb dX6_isOtherwise_0 rfl (lv_at hl 0 rfl) ?_
  refine lv_bipush (v := 33) hx hb dX6_isOtherwise_1 (by decide) ?_
  refine lv_aload_n hx hb dX6_isOtherwise_3 rfl (lv_at hl 0 rfl) ?_
  refine lv_iconst (v := 0) hx hb dX6_isOtherwise_4 (by decide) ?_
  refine lv_iload_n hx hb dX6_isOtherwise_5 rfl (lv_at hl 1 rfl) ?_
  obtain ⟨r1, h1, h⟩ := zb h
  refine zi (zrV (C := RX6) (T := TX6) (N := 14) (As := [.int 0, .int a1]) (rest := [.int 33, .ref o]) ⟨hx, hb, hml, hown, ht⟩ (c_X6_fits l D k o on op orr ot oh og od states bytes reading at_ wrongAt number hh fitting 0 a1 h1 _) (cwV 2 ht (gdV wb918 wb920 wb40 wb80 wb921) rfl rfl rfl (by decide +kernel) ⟨Nat.le_of_ble_eq_true rfl, Nat.le_of_ble_eq_true rfl⟩) hK hP hD hS hA hm [0, 2] rfl rfl 0 6 rfl rfl rfl hl.1 rfl (Nat.le_of_ble_eq_true rfl) dX6_isOtherwise_6 ⟨Nat.le_refl _, Nat.le_refl _⟩) hP hD hS hA [0, 2] rfl rfl (fun H locs hP hD hS => ?_)
  have hP : va_P D vwCl [(o, .inr (6, [.ref on, .ref op, .int states, .ref orr, .ref ot, .int bytes, .ref oh, .ref og, .ref od, .int reading, .int at_, .int wrongAt, .int number, .long hh])), (on, .inl (k 0, 401, .inl now)), (og, .inl (k 0, 164, .inl fitting))] H := hP
  have hD : va_D A [(o, .inr (6, [.ref on, .ref op, .int states, .ref orr, .ref ot, .int bytes, .ref oh, .ref og, .ref od, .int reading, .int at_, .int wrongAt, .int number, .long hh])), (on, .inl (k 0, 401, .inl now)), (og, .inl (k 0, 164, .inl fitting))] := hD
  obtain ⟨r2, h2, h⟩ := zb h
  refine zi (zrV (C := RX6) (T := TX6) (N := 14) (As := [.int 33, .int r1]) (rest := []) ⟨hx, hb, hml, hown, ht⟩ (c_X6_actionBy l D k o on op orr ot oh og od states bytes reading at_ wrongAt number hh now 33 r1 fu h2 _) (cwV 2 ht (gdV wb951 wb953 wb43 wb80 wb954) rfl rfl rfl (by decide +kernel) ⟨Nat.le_of_ble_eq_true rfl, Nat.le_of_ble_eq_true rfl⟩) hK hP hD hS hA hm [0, 1] rfl rfl 0 6 rfl rfl rfl hl.1 rfl (Nat.le_of_ble_eq_true rfl) dX6_isOtherwise_9 ⟨Nat.le_refl _, Nat.le_refl _⟩) hP hD hS hA [0, 1] rfl rfl (fun H locs hP hD hS => ?_)
  have hP : va_P D vwCl [(o, .inr (6, [.ref on, .ref op, .int states, .ref orr, .ref ot, .int bytes, .ref oh, .ref og, .ref od, .int reading, .int at_, .int wrongAt, .int number, .long hh])), (on, .inl (k 0, 401, .inl now)), (og, .inl (k 0, 164, .inl fitting))] H := hP
  have hD : va_D A [(o, .inr (6, [.ref on, .ref op, .int states, .ref orr, .ref ot, .int bytes, .ref oh, .ref og, .ref od, .int reading, .int at_, .int wrongAt, .int number, .long hh])), (on, .inl (k 0, 401, .inl now)), (og, .inl (k 0, 164, .inl fitting))] := hD
  refine lv_aload_n hx hb dX6_isOtherwise_12 rfl (lv_at hl 0 rfl) ?_
  refine lv_sipush (v := 166) hx hb dX6_isOtherwise_13 (by decide) ?_
  refine lv_aload_n hx hb dX6_isOtherwise_16 rfl (lv_at hl 0 rfl) ?_
  refine lv_bipush (v := 82) hx hb dX6_isOtherwise_17 (by decide) ?_
  refine lv_iload_n hx hb dX6_isOtherwise_19 rfl (lv_at hl 1 rfl) ?_
  obtain ⟨r3, h3, h⟩ := zb h
  refine zi (zrV (C := RX6) (T := TX6) (N := 14) (As := [.int 82, .int a1]) (rest := [.int 166, .ref o, .int r2]) ⟨hx, hb, hml, hown, ht⟩ (c_X6_fits l D k o on op orr ot oh og od states bytes reading at_ wrongAt number hh fitting 82 a1 h3 _) (cwV 2 ht (gdV wb918 wb920 wb40 wb80 wb921) rfl rfl rfl (by decide +kernel) ⟨Nat.le_of_ble_eq_true rfl, Nat.le_of_ble_eq_true rfl⟩) hK hP hD hS hA hm [0, 2] rfl rfl 0 6 rfl rfl rfl hl.1 rfl (Nat.le_of_ble_eq_true rfl) dX6_isOtherwise_20 ⟨Nat.le_refl _, Nat.le_refl _⟩) hP hD hS hA [0, 2] rfl rfl (fun H locs hP hD hS => ?_)
  have hP : va_P D vwCl [(o, .inr (6, [.ref on, .ref op, .int states, .ref orr, .ref ot, .int bytes, .ref oh, .ref og, .ref od, .int reading, .int at_, .int wrongAt, .int number, .long hh])), (on, .inl (k 0, 401, .inl now)), (og, .inl (k 0, 164, .inl fitting))] H := hP
  have hD : va_D A [(o, .inr (6, [.ref on, .ref op, .int states, .ref orr, .ref ot, .int bytes, .ref oh, .ref og, .ref od, .int reading, .int at_, .int wrongAt, .int number, .long hh])), (on, .inl (k 0, 401, .inl now)), (og, .inl (k 0, 164, .inl fitting))] := hD
  obtain ⟨r4, h4, h⟩ := zb h
  refine zi (zrV (C := RX6) (T := TX6) (N := 14) (As := [.int 166, .int r3]) (rest := [.int r2]) ⟨hx, hb, hml, hown, ht⟩ (c_X6_actionBy l D k o on op orr ot oh og od states bytes reading at_ wrongAt number hh now 166 r3 fu h4 _) (cwV 2 ht (gdV wb951 wb953 wb43 wb80 wb954) rfl rfl rfl (by decide +kernel) ⟨Nat.le_of_ble_eq_true rfl, Nat.le_of_ble_eq_true rfl⟩) hK hP hD hS hA hm [0, 1] rfl rfl 0 6 rfl rfl rfl hl.1 rfl (Nat.le_of_ble_eq_true rfl) dX6_isOtherwise_23 ⟨Nat.le_refl _, Nat.le_refl _⟩) hP hD hS hA [0, 1] rfl rfl (fun H locs hP hD hS => ?_)
  have hP : va_P D vwCl [(o, .inr (6, [.ref on, .ref op, .int states, .ref orr, .ref ot, .int bytes, .ref oh, .ref og, .ref od, .int reading, .int at_, .int wrongAt, .int number, .long hh])), (on, .inl (k 0, 401, .inl now)), (og, .inl (k 0, 164, .inl fitting))] H := hP
  have hD : va_D A [(o, .inr (6, [.ref on, .ref op, .int states, .ref orr, .ref ot, .int bytes, .ref oh, .ref og, .ref od, .int reading, .int at_, .int wrongAt, .int number, .long hh])), (on, .inl (k 0, 401, .inl now)), (og, .inl (k 0, 164, .inl fitting))] := hD
  refine lv_icmp_eq (tgt := 33) hx hb dX6_isOtherwise_26 (by decide) (fun c1 => ?_) (fun c1 => ?_)
  · have h := zt h c1
    refine lv_iconst (v := 0) hx hb dX6_isOtherwise_33 (by decide) ?_
    obtain rfl := Option.some.inj h
    exact W.zret (v := 0) (ty := .boolean) hx hb hr (rfl) (fun t ht9 hW => ⟨⟨_, (), rfl, rfl, zend ht9 hP⟩, hS.F ht9⟩) hS.2.2 dX6_isOtherwise_34
  · have h := zf h c1
    refine lv_iconst (v := 1) hx hb dX6_isOtherwise_29 (by decide) ?_
    refine lv_goto (tgt := 34) hx hb dX6_isOtherwise_30 (by decide) ?_
    obtain rfl := Option.some.inj h
    exact W.zret (v := 1) (ty := .boolean) hx hb hr (rfl) (fun t ht9 hW => ⟨⟨_, (), rfl, rfl, zend ht9 hP⟩, hS.F ht9⟩) hS.2.2 dX6_isOtherwise_34
def f_X6_tellOf (fu : Nat) (now : Nat → Int32) (fitting : Nat → Int32) (a1 : Int32) (a2 : Int32) : Option (Int32) :=
  if a2 = 1 then ((f_X6_sourceOf  a1).bind fun r7 => some (r7)) else (if a2 = 2 then ((f_X6_goalOf  a1).bind fun r6 => some (r6)) else (if a2 = 3 then ((f_X6_portOf  a1).bind fun r5 => some (r5)) else (if a2 = 4 then (some (a1 - a1 / 2 * 2)) else (if a2 = 5 then ((f_X6_fits fitting 82 a1).bind fun r3 => (f_X6_actionBy fu now 166 r3).bind fun r4 => some (r4)) else ((f_X6_fits fitting 0 a1).bind fun r1 => (f_X6_actionBy fu now 33 r1).bind fun r2 => some (r2))))))
abbrev wk_X6_tellOf : List Cond := Cond.code yX6_tellOf cX6_tellOf 3 (some .int) :: WB
abbrev rm_X6_tellOf : Room := { frames := 2, cells := 0, slots := 0, locals := 44 }
set_option maxHeartbeats 4000000 in
set_option maxRecDepth 100000 in
theorem c_X6_tellOf (l : Launch) (D : va_G) (k : Nat → Nat) (o on op orr ot oh og od : Nat) (states : Int32) (bytes : Int32) (reading : Int32) (at_ : Int32) (wrongAt : Int32) (number : Int32) (hh : Int64) (now : Nat → Int32) (fitting : Nat → Int32) (a1 : Int32) (a2 : Int32) (fu : Nat) {res : Int32} (h : f_X6_tellOf fu now fitting a1 a2 = some res) : Ci l yX6_tellOf wk_X6_tellOf rm_X6_tellOf D k [.ref o, .int a1, .int a2] [(o, .inr (6, [.ref on, .ref op, .int states, .ref orr, .ref ot, .int bytes, .ref oh, .ref og, .ref od, .int reading, .int at_, .int wrongAt, .int number, .long hh])), (on, .inl (k 0, 401, .inl now)), (og, .inl (k 0, 164, .inl fitting))] [(o, .inr (6, [.ref on, .ref op, .int states, .ref orr, .ref ot, .int bytes, .ref oh, .ref og, .ref od, .int reading, .int at_, .int wrongAt, .int number, .long hh])), (on, .inl (k 0, 401, .inl now)), (og, .inl (k 0, 164, .inl fitting))] res := by
  unfold Ci
  intro sz
  refine Met.ofW (cc := cX6_tellOf) (maxL := 3) (ret := (some .int)) (by decide) rfl ?_
  intro p e s m args below meth c s₁ B hml hv
  obtain ⟨rfl, hsz, hP, hK, hD0, hm⟩ := hv
  have hx := B.exec
  have hb := B.bytes
  have hr := B.returns
  have ht : ∀ w ∈ WB, w.before _ s = true := fun w hw => atoms_spec (ws := wk_X6_tellOf) B.pre w (List.mem_cons_of_mem _ hw)
  have hown : s.vm.findClass RX6 = some m.cls := findClass_of_methodNamed B.named
  have hlocks := B.notSynchronized
  subst hsz
  have hD := hD0.self (sz := s.heap.size)
  generalize hAe : va_A [(o, .inr (6, [.ref on, .ref op, .int states, .ref orr, .ref ot, .int bytes, .ref oh, .ref og, .ref od, .int reading, .int at_, .int wrongAt, .int number, .long hh])), (on, .inl (k 0, 401, .inl now)), (og, .inl (k 0, 164, .inl fitting))] s.heap.size = A at hD hm ⊢
  have hA : ∀ q : Nat, s.heap.size ≤ q → A q := fun q h => by rw [← hAe]; exact Or.inr h
  have hS : va_S A s.heap s.heap [] := va_S.rf
  have hl := lv_entry ([.ref o, .int a1, .int a2]) (n := 3) (Nat.le_of_ble_eq_true rfl)
  rw [lg_entry_eq]
  generalize (lg_sl ([.ref o, .int a1, .int a2]) ++ List.replicate (3 - (lg_sl ([.ref o, .int a1, .int a2])).length) Slot.unset).toArray = ls at hl ⊢
  have hl : lv_has ls 3 [(0, .ref o), (1, .int a1), (2, .int a2)] := hl
  obtain ⟨H, hH⟩ : ∃ H, H = s.heap := ⟨_, rfl⟩
  rw [← hH] at hP
  have hS : va_S A s.heap H [] := by rw [hH]; exact hS
  suffices hgo : W p l e _ s m _ below meth c H [] 0 0 _ _ by rw [hH] at hgo; exact hgo
  unfold f_X6_tellOf at h
  refine lv_iload_n hx hb dX6_tellOf_0 rfl (lv_at hl 2 rfl) ?_
  by_cases c1 : a2 = 1
  · have h := zt h c1
    refine lv_tableIn (off := 35) (tgt := 36) hx hb dX6_tellOf_1 (by rw [c1]; decide) (by rw [c1]; decide) (by rw [c1]; rfl) (by decide) ?_
    refine lv_iload_n hx hb dX6_tellOf_36 rfl (lv_at hl 1 rfl) ?_
    obtain ⟨r7, h7, h⟩ := zb h
    refine zi (zrS (As := [.int a1]) (rest := []) ⟨hx, hb, hml, hown, ht⟩ (c_X6_sourceOf l D k   a1 h7 _) (va_cwS 1 ht (gdS wb922 wb923 wb80 wb924) rfl rfl rfl (by decide +kernel) ⟨Nat.le_of_ble_eq_true rfl, Nat.le_of_ble_eq_true rfl⟩) hK hP hD hS hA hm [] rfl rfl rfl hl.1 rfl (Nat.le_of_ble_eq_true rfl) dX6_tellOf_37 ⟨Nat.le_refl _, Nat.le_refl _⟩) hP hD hS hA [] rfl rfl (fun H locs hP hD hS => ?_)
    have hP : va_P D vwCl [(o, .inr (6, [.ref on, .ref op, .int states, .ref orr, .ref ot, .int bytes, .ref oh, .ref og, .ref od, .int reading, .int at_, .int wrongAt, .int number, .long hh])), (on, .inl (k 0, 401, .inl now)), (og, .inl (k 0, 164, .inl fitting))] H := hP
    have hD : va_D A [(o, .inr (6, [.ref on, .ref op, .int states, .ref orr, .ref ot, .int bytes, .ref oh, .ref og, .ref od, .int reading, .int at_, .int wrongAt, .int number, .long hh])), (on, .inl (k 0, 401, .inl now)), (og, .inl (k 0, 164, .inl fitting))] := hD
    obtain rfl := Option.some.inj h
    exact W.iret (v := r7) hx hb hr (fun t ht9 hW => ⟨⟨_, (), rfl, rfl, zend ht9 hP⟩, hS.F ht9⟩) hS.2.2 dX6_tellOf_40
  · have h := zf h c1
    by_cases c2 : a2 = 2
    · have h := zt h c2
      refine lv_tableIn (off := 40) (tgt := 41) hx hb dX6_tellOf_1 (by rw [c2]; decide) (by rw [c2]; decide) (by rw [c2]; rfl) (by decide) ?_
      refine lv_iload_n hx hb dX6_tellOf_41 rfl (lv_at hl 1 rfl) ?_
      obtain ⟨r6, h6, h⟩ := zb h
      refine zi (zrS (As := [.int a1]) (rest := []) ⟨hx, hb, hml, hown, ht⟩ (c_X6_goalOf l D k   a1 h6 _) (va_cwS 1 ht (gdS wb925 wb926 wb80 wb927) rfl rfl rfl (by decide +kernel) ⟨Nat.le_of_ble_eq_true rfl, Nat.le_of_ble_eq_true rfl⟩) hK hP hD hS hA hm [] rfl rfl rfl hl.1 rfl (Nat.le_of_ble_eq_true rfl) dX6_tellOf_42 ⟨Nat.le_refl _, Nat.le_refl _⟩) hP hD hS hA [] rfl rfl (fun H locs hP hD hS => ?_)
      have hP : va_P D vwCl [(o, .inr (6, [.ref on, .ref op, .int states, .ref orr, .ref ot, .int bytes, .ref oh, .ref og, .ref od, .int reading, .int at_, .int wrongAt, .int number, .long hh])), (on, .inl (k 0, 401, .inl now)), (og, .inl (k 0, 164, .inl fitting))] H := hP
      have hD : va_D A [(o, .inr (6, [.ref on, .ref op, .int states, .ref orr, .ref ot, .int bytes, .ref oh, .ref og, .ref od, .int reading, .int at_, .int wrongAt, .int number, .long hh])), (on, .inl (k 0, 401, .inl now)), (og, .inl (k 0, 164, .inl fitting))] := hD
      obtain rfl := Option.some.inj h
      exact W.iret (v := r6) hx hb hr (fun t ht9 hW => ⟨⟨_, (), rfl, rfl, zend ht9 hP⟩, hS.F ht9⟩) hS.2.2 dX6_tellOf_45
    · have h := zf h c2
      by_cases c3 : a2 = 3
      · have h := zt h c3
        refine lv_tableIn (off := 45) (tgt := 46) hx hb dX6_tellOf_1 (by rw [c3]; decide) (by rw [c3]; decide) (by rw [c3]; rfl) (by decide) ?_
        refine lv_iload_n hx hb dX6_tellOf_46 rfl (lv_at hl 1 rfl) ?_
        obtain ⟨r5, h5, h⟩ := zb h
        refine zi (zrS (As := [.int a1]) (rest := []) ⟨hx, hb, hml, hown, ht⟩ (c_X6_portOf l D k   a1 h5 _) (va_cwS 1 ht (gdS wb928 wb929 wb80 wb930) rfl rfl rfl (by decide +kernel) ⟨Nat.le_of_ble_eq_true rfl, Nat.le_of_ble_eq_true rfl⟩) hK hP hD hS hA hm [] rfl rfl rfl hl.1 rfl (Nat.le_of_ble_eq_true rfl) dX6_tellOf_47 ⟨Nat.le_refl _, Nat.le_refl _⟩) hP hD hS hA [] rfl rfl (fun H locs hP hD hS => ?_)
        have hP : va_P D vwCl [(o, .inr (6, [.ref on, .ref op, .int states, .ref orr, .ref ot, .int bytes, .ref oh, .ref og, .ref od, .int reading, .int at_, .int wrongAt, .int number, .long hh])), (on, .inl (k 0, 401, .inl now)), (og, .inl (k 0, 164, .inl fitting))] H := hP
        have hD : va_D A [(o, .inr (6, [.ref on, .ref op, .int states, .ref orr, .ref ot, .int bytes, .ref oh, .ref og, .ref od, .int reading, .int at_, .int wrongAt, .int number, .long hh])), (on, .inl (k 0, 401, .inl now)), (og, .inl (k 0, 164, .inl fitting))] := hD
        obtain rfl := Option.some.inj h
        exact W.iret (v := r5) hx hb hr (fun t ht9 hW => ⟨⟨_, (), rfl, rfl, zend ht9 hP⟩, hS.F ht9⟩) hS.2.2 dX6_tellOf_50
      · have h := zf h c3
        by_cases c4 : a2 = 4
        · have h := zt h c4
          refine lv_tableIn (off := 50) (tgt := 51) hx hb dX6_tellOf_1 (by rw [c4]; decide) (by rw [c4]; decide) (by rw [c4]; rfl) (by decide) ?_
          refine lv_iload_n hx hb dX6_tellOf_51 rfl (lv_at hl 1 rfl) ?_
          refine lv_iconst (v := 2) hx hb dX6_tellOf_52 (by decide) ?_
          refine lv_irem hx hb dX6_tellOf_53 (by decide) ?_
          obtain rfl := Option.some.inj h
          exact W.iret (v := a1 - a1 / 2 * 2) hx hb hr (fun t ht9 hW => ⟨⟨_, (), rfl, rfl, zend ht9 hP⟩, hS.F ht9⟩) hS.2.2 dX6_tellOf_54
        · have h := zf h c4
          by_cases c5 : a2 = 5
          · have h := zt h c5
            refine lv_tableIn (off := 54) (tgt := 55) hx hb dX6_tellOf_1 (by rw [c5]; decide) (by rw [c5]; decide) (by rw [c5]; rfl) (by decide) ?_
            refine lv_aload_n hx hb dX6_tellOf_55 rfl (lv_at hl 0 rfl) ?_
            refine lv_sipush (v := 166) hx hb dX6_tellOf_56 (by decide) ?_
            refine lv_aload_n hx hb dX6_tellOf_59 rfl (lv_at hl 0 rfl) ?_
            refine lv_bipush (v := 82) hx hb dX6_tellOf_60 (by decide) ?_
            refine lv_iload_n hx hb dX6_tellOf_62 rfl (lv_at hl 1 rfl) ?_
            obtain ⟨r3, h3, h⟩ := zb h
            refine zi (zrV (C := RX6) (T := TX6) (N := 14) (As := [.int 82, .int a1]) (rest := [.int 166, .ref o]) ⟨hx, hb, hml, hown, ht⟩ (c_X6_fits l D k o on op orr ot oh og od states bytes reading at_ wrongAt number hh fitting 82 a1 h3 _) (cwV 2 ht (gdV wb918 wb920 wb40 wb80 wb921) rfl rfl rfl (by decide +kernel) ⟨Nat.le_of_ble_eq_true rfl, Nat.le_of_ble_eq_true rfl⟩) hK hP hD hS hA hm [0, 2] rfl rfl 0 6 rfl rfl rfl hl.1 rfl (Nat.le_of_ble_eq_true rfl) dX6_tellOf_63 ⟨Nat.le_refl _, Nat.le_refl _⟩) hP hD hS hA [0, 2] rfl rfl (fun H locs hP hD hS => ?_)
            have hP : va_P D vwCl [(o, .inr (6, [.ref on, .ref op, .int states, .ref orr, .ref ot, .int bytes, .ref oh, .ref og, .ref od, .int reading, .int at_, .int wrongAt, .int number, .long hh])), (on, .inl (k 0, 401, .inl now)), (og, .inl (k 0, 164, .inl fitting))] H := hP
            have hD : va_D A [(o, .inr (6, [.ref on, .ref op, .int states, .ref orr, .ref ot, .int bytes, .ref oh, .ref og, .ref od, .int reading, .int at_, .int wrongAt, .int number, .long hh])), (on, .inl (k 0, 401, .inl now)), (og, .inl (k 0, 164, .inl fitting))] := hD
            obtain ⟨r4, h4, h⟩ := zb h
            refine zi (zrV (C := RX6) (T := TX6) (N := 14) (As := [.int 166, .int r3]) (rest := []) ⟨hx, hb, hml, hown, ht⟩ (c_X6_actionBy l D k o on op orr ot oh og od states bytes reading at_ wrongAt number hh now 166 r3 fu h4 _) (cwV 2 ht (gdV wb951 wb953 wb43 wb80 wb954) rfl rfl rfl (by decide +kernel) ⟨Nat.le_of_ble_eq_true rfl, Nat.le_of_ble_eq_true rfl⟩) hK hP hD hS hA hm [0, 1] rfl rfl 0 6 rfl rfl rfl hl.1 rfl (Nat.le_of_ble_eq_true rfl) dX6_tellOf_66 ⟨Nat.le_refl _, Nat.le_refl _⟩) hP hD hS hA [0, 1] rfl rfl (fun H locs hP hD hS => ?_)
            have hP : va_P D vwCl [(o, .inr (6, [.ref on, .ref op, .int states, .ref orr, .ref ot, .int bytes, .ref oh, .ref og, .ref od, .int reading, .int at_, .int wrongAt, .int number, .long hh])), (on, .inl (k 0, 401, .inl now)), (og, .inl (k 0, 164, .inl fitting))] H := hP
            have hD : va_D A [(o, .inr (6, [.ref on, .ref op, .int states, .ref orr, .ref ot, .int bytes, .ref oh, .ref og, .ref od, .int reading, .int at_, .int wrongAt, .int number, .long hh])), (on, .inl (k 0, 401, .inl now)), (og, .inl (k 0, 164, .inl fitting))] := hD
            obtain rfl := Option.some.inj h
            exact W.iret (v := r4) hx hb hr (fun t ht9 hW => ⟨⟨_, (), rfl, rfl, zend ht9 hP⟩, hS.F ht9⟩) hS.2.2 dX6_tellOf_69
          · have h := zf h c5
            refine lv_tableOut (tgt := 70) hx hb dX6_tellOf_1 (by have e0 : (Int32.toInt a2) ≠ 1 := fun q => c1 (Int32.toInt_inj.mp (by rw [q]; rfl)); have e1 : (Int32.toInt a2) ≠ 2 := fun q => c2 (Int32.toInt_inj.mp (by rw [q]; rfl)); have e2 : (Int32.toInt a2) ≠ 3 := fun q => c3 (Int32.toInt_inj.mp (by rw [q]; rfl)); have e3 : (Int32.toInt a2) ≠ 4 := fun q => c4 (Int32.toInt_inj.mp (by rw [q]; rfl)); have e4 : (Int32.toInt a2) ≠ 5 := fun q => c5 (Int32.toInt_inj.mp (by rw [q]; rfl)); omega) (by decide) ?_
            refine lv_aload_n hx hb dX6_tellOf_70 rfl (lv_at hl 0 rfl) ?_
            refine lv_bipush (v := 33) hx hb dX6_tellOf_71 (by decide) ?_
            refine lv_aload_n hx hb dX6_tellOf_73 rfl (lv_at hl 0 rfl) ?_
            refine lv_iconst (v := 0) hx hb dX6_tellOf_74 (by decide) ?_
            refine lv_iload_n hx hb dX6_tellOf_75 rfl (lv_at hl 1 rfl) ?_
            obtain ⟨r1, h1, h⟩ := zb h
            refine zi (zrV (C := RX6) (T := TX6) (N := 14) (As := [.int 0, .int a1]) (rest := [.int 33, .ref o]) ⟨hx, hb, hml, hown, ht⟩ (c_X6_fits l D k o on op orr ot oh og od states bytes reading at_ wrongAt number hh fitting 0 a1 h1 _) (cwV 2 ht (gdV wb918 wb920 wb40 wb80 wb921) rfl rfl rfl (by decide +kernel) ⟨Nat.le_of_ble_eq_true rfl, Nat.le_of_ble_eq_true rfl⟩) hK hP hD hS hA hm [0, 2] rfl rfl 0 6 rfl rfl rfl hl.1 rfl (Nat.le_of_ble_eq_true rfl) dX6_tellOf_76 ⟨Nat.le_refl _, Nat.le_refl _⟩) hP hD hS hA [0, 2] rfl rfl (fun H locs hP hD hS => ?_)
            have hP : va_P D vwCl [(o, .inr (6, [.ref on, .ref op, .int states, .ref orr, .ref ot, .int bytes, .ref oh, .ref og, .ref od, .int reading, .int at_, .int wrongAt, .int number, .long hh])), (on, .inl (k 0, 401, .inl now)), (og, .inl (k 0, 164, .inl fitting))] H := hP
            have hD : va_D A [(o, .inr (6, [.ref on, .ref op, .int states, .ref orr, .ref ot, .int bytes, .ref oh, .ref og, .ref od, .int reading, .int at_, .int wrongAt, .int number, .long hh])), (on, .inl (k 0, 401, .inl now)), (og, .inl (k 0, 164, .inl fitting))] := hD
            obtain ⟨r2, h2, h⟩ := zb h
            refine zi (zrV (C := RX6) (T := TX6) (N := 14) (As := [.int 33, .int r1]) (rest := []) ⟨hx, hb, hml, hown, ht⟩ (c_X6_actionBy l D k o on op orr ot oh og od states bytes reading at_ wrongAt number hh now 33 r1 fu h2 _) (cwV 2 ht (gdV wb951 wb953 wb43 wb80 wb954) rfl rfl rfl (by decide +kernel) ⟨Nat.le_of_ble_eq_true rfl, Nat.le_of_ble_eq_true rfl⟩) hK hP hD hS hA hm [0, 1] rfl rfl 0 6 rfl rfl rfl hl.1 rfl (Nat.le_of_ble_eq_true rfl) dX6_tellOf_79 ⟨Nat.le_refl _, Nat.le_refl _⟩) hP hD hS hA [0, 1] rfl rfl (fun H locs hP hD hS => ?_)
            have hP : va_P D vwCl [(o, .inr (6, [.ref on, .ref op, .int states, .ref orr, .ref ot, .int bytes, .ref oh, .ref og, .ref od, .int reading, .int at_, .int wrongAt, .int number, .long hh])), (on, .inl (k 0, 401, .inl now)), (og, .inl (k 0, 164, .inl fitting))] H := hP
            have hD : va_D A [(o, .inr (6, [.ref on, .ref op, .int states, .ref orr, .ref ot, .int bytes, .ref oh, .ref og, .ref od, .int reading, .int at_, .int wrongAt, .int number, .long hh])), (on, .inl (k 0, 401, .inl now)), (og, .inl (k 0, 164, .inl fitting))] := hD
            obtain rfl := Option.some.inj h
            exact W.iret (v := r2) hx hb hr (fun t ht9 hW => ⟨⟨_, (), rfl, rfl, zend ht9 hP⟩, hS.F ht9⟩) hS.2.2 dX6_tellOf_82
def f_X6_change_L40 (fu : Nat) (K : Int32 → Int32 → Option (Int32 × (Nat → Int32) × (Nat → Int32))) (v1 : Int32) (now : Nat → Int32) (fitting : Nat → Int32) (refused : Nat → Int32) : Nat → Int32 → Int32 → Option (Int32 × (Nat → Int32) × (Nat → Int32))
  | 0, _, _ => none
  | n + 1, v2, v3 =>
  if 32768 ≤ v3 then (K v2 v3) else ((f_X6_isOtherwise fu now fitting v3).bind fun r4 => if (zB r4) = 0 then (if (zB r4) = 0 then (f_X6_change_L40 fu K v1 now fitting refused n (v2 + 0) (v3 + 1)) else (f_X6_change_L40 fu K v1 now fitting refused n (v2 + 1) (v3 + 1))) else (if v1 ≤ 0 then (if (zB r4) = 0 then (f_X6_change_L40 fu K v1 now fitting refused n (v2 + 0) (v3 + 1)) else (f_X6_change_L40 fu K v1 now fitting refused n (v2 + 1) (v3 + 1))) else ((f_X6_tellOf fu now fitting v3 v1).bind fun r5 => some (r5, fitting, refused))))
def f_X6_change (fu : Nat) (now : Nat → Int32) (fitting : Nat → Int32) (refused : Nat → Int32) (a1 : Int32) : Option (Int32 × (Nat → Int32) × (Nat → Int32)) :=
  (f_X6_in  a1 0 6).bind fun r1 => if (zB r1) = 0 then ((f_X6_bad refused ).bind fun r6 => some (r6.1, fitting, r6.2)) else ((f_X6_findsNow fu now fitting ).bind fun r2 => if zok 165 401 then ((f_X6_findsFitting fu now r2 166 (now (Int32.toNatClampNeg 165)) 82).bind fun r3 => f_X6_change_L40 fu (fun (x1 : Int32) (x2 : Int32) => if a1 = 0 then (some (x1, r3, refused)) else (some ((-1), r3, refused))) a1 now r3 refused fu 0 0) else none)
abbrev wk_X6_change : List Cond := Cond.code yX6_change cX6_change 5 (some .int) :: WB
abbrev rm_X6_change : Room := { frames := 4, cells := 0, slots := 0, locals := 91 }
set_option maxHeartbeats 4000000 in
set_option maxRecDepth 100000 in
theorem c_X6_change (l : Launch) (D : va_G) (k : Nat → Nat) (o on op orr ot oh og od : Nat) (states : Int32) (bytes : Int32) (reading : Int32) (at_ : Int32) (wrongAt : Int32) (number : Int32) (hh : Int64) (now : Nat → Int32) (fitting : Nat → Int32) (refused : Nat → Int32) (a1 : Int32) (fu : Nat) {res : Int32 × (Nat → Int32) × (Nat → Int32)} (h : f_X6_change fu now fitting refused a1 = some res) : Ci l yX6_change wk_X6_change rm_X6_change D k [.ref o, .int a1] [(o, .inr (6, [.ref on, .ref op, .int states, .ref orr, .ref ot, .int bytes, .ref oh, .ref og, .ref od, .int reading, .int at_, .int wrongAt, .int number, .long hh])), (on, .inl (k 0, 401, .inl now)), (og, .inl (k 0, 164, .inl fitting)), (orr, .inl (k 0, 3, .inl refused))] [(o, .inr (6, [.ref on, .ref op, .int states, .ref orr, .ref ot, .int bytes, .ref oh, .ref og, .ref od, .int reading, .int at_, .int wrongAt, .int number, .long hh])), (on, .inl (k 0, 401, .inl now)), (og, .inl (k 0, 164, .inl res.2.1)), (orr, .inl (k 0, 3, .inl res.2.2))] res.1 := by
  unfold Ci
  intro sz
  refine Met.ofW (cc := cX6_change) (maxL := 5) (ret := (some .int)) (by decide) rfl ?_
  intro p e s m args below meth c s₁ B hml hv
  obtain ⟨rfl, hsz, hP, hK, hD0, hm⟩ := hv
  have hx := B.exec
  have hb := B.bytes
  have hr := B.returns
  have ht : ∀ w ∈ WB, w.before _ s = true := fun w hw => atoms_spec (ws := wk_X6_change) B.pre w (List.mem_cons_of_mem _ hw)
  have hown : s.vm.findClass RX6 = some m.cls := findClass_of_methodNamed B.named
  have hlocks := B.notSynchronized
  subst hsz
  have hD := hD0.self (sz := s.heap.size)
  generalize hAe : va_A [(o, .inr (6, [.ref on, .ref op, .int states, .ref orr, .ref ot, .int bytes, .ref oh, .ref og, .ref od, .int reading, .int at_, .int wrongAt, .int number, .long hh])), (on, .inl (k 0, 401, .inl now)), (og, .inl (k 0, 164, .inl fitting)), (orr, .inl (k 0, 3, .inl refused))] s.heap.size = A at hD hm ⊢
  have hA : ∀ q : Nat, s.heap.size ≤ q → A q := fun q h => by rw [← hAe]; exact Or.inr h
  have hS : va_S A s.heap s.heap [] := va_S.rf
  have hl := lv_entry ([.ref o, .int a1]) (n := 5) (Nat.le_of_ble_eq_true rfl)
  rw [lg_entry_eq]
  generalize (lg_sl ([.ref o, .int a1]) ++ List.replicate (5 - (lg_sl ([.ref o, .int a1])).length) Slot.unset).toArray = ls at hl ⊢
  have hl : lv_has ls 5 [(0, .ref o), (1, .int a1)] := hl
  obtain ⟨H, hH⟩ : ∃ H, H = s.heap := ⟨_, rfl⟩
  rw [← hH] at hP
  have hS : va_S A s.heap H [] := by rw [hH]; exact hS
  suffices hgo : W p l e _ s m _ below meth c H [] 0 0 _ _ by rw [hH] at hgo; exact hgo
  unfold f_X6_change at h
  refine lv_iload_n hx hb dX6_change_0 rfl (lv_at hl 1 rfl) ?_
  refine lv_iconst (v := 0) hx hb dX6_change_1 (by decide) ?_
  refine lv_bipush (v := 6) hx hb dX6_change_2 (by decide) ?_
  obtain ⟨r1, h1, h⟩ := zb h
  refine zi (zrS (As := [.int a1, .int 0, .int 6]) (rest := []) ⟨hx, hb, hml, hown, ht⟩ (c_X6_in l D k   a1 0 6 h1 _) (va_cwS 3 ht (gdS wb820 wb821 wb80 wb822) rfl rfl rfl (by decide +kernel) ⟨Nat.le_of_ble_eq_true rfl, Nat.le_of_ble_eq_true rfl⟩) hK hP hD hS hA hm [] rfl rfl rfl hl.1 rfl (Nat.le_of_ble_eq_true rfl) dX6_change_4 ⟨Nat.le_refl _, Nat.le_refl _⟩) hP hD hS hA [] rfl rfl (fun H locs hP hD hS => ?_)
  have hP : va_P D vwCl [(o, .inr (6, [.ref on, .ref op, .int states, .ref orr, .ref ot, .int bytes, .ref oh, .ref og, .ref od, .int reading, .int at_, .int wrongAt, .int number, .long hh])), (on, .inl (k 0, 401, .inl now)), (og, .inl (k 0, 164, .inl fitting)), (orr, .inl (k 0, 3, .inl refused))] H := hP
  have hD : va_D A [(o, .inr (6, [.ref on, .ref op, .int states, .ref orr, .ref ot, .int bytes, .ref oh, .ref og, .ref od, .int reading, .int at_, .int wrongAt, .int number, .long hh])), (on, .inl (k 0, 401, .inl now)), (og, .inl (k 0, 164, .inl fitting)), (orr, .inl (k 0, 3, .inl refused))] := hD
  refine lv_if_ne (tgt := 15) hx hb dX6_change_7 (by decide) (fun c7 => ?_) (fun c7 => ?_)
  · have h := zf h c7
    refine lv_aload_n hx hb dX6_change_15 rfl (lv_at hl 0 rfl) ?_
    obtain ⟨r2, h2, h⟩ := zb h
    refine zv (zrV (C := RX6) (T := TX6) (N := 14) (As := []) (rest := []) ⟨hx, hb, hml, hown, ht⟩ (c_X6_findsNow l D k o on op orr ot oh og od states bytes reading at_ wrongAt number hh now fitting  fu h2 _) (cwV 0 ht (gdV wb899 wb901 wb36 wb80 wb902) rfl rfl rfl (by decide +kernel) ⟨Nat.le_of_ble_eq_true rfl, Nat.le_of_ble_eq_true rfl⟩) hK hP hD hS hA hm [0, 1, 2] rfl rfl 0 6 rfl rfl rfl hl.1 rfl (Nat.le_of_ble_eq_true rfl) dX6_change_16 ⟨Nat.le_refl _, Nat.le_refl _⟩) hP hD hS hA [0, 1, 2] rfl rfl (fun H locs hP hD hS => ?_)
    have hP : va_P D vwCl [(o, .inr (6, [.ref on, .ref op, .int states, .ref orr, .ref ot, .int bytes, .ref oh, .ref og, .ref od, .int reading, .int at_, .int wrongAt, .int number, .long hh])), (on, .inl (k 0, 401, .inl now)), (og, .inl (k 0, 164, .inl r2)), (orr, .inl (k 0, 3, .inl refused))] H := hP
    have hD : va_D A [(o, .inr (6, [.ref on, .ref op, .int states, .ref orr, .ref ot, .int bytes, .ref oh, .ref og, .ref od, .int reading, .int at_, .int wrongAt, .int number, .long hh])), (on, .inl (k 0, 401, .inl now)), (og, .inl (k 0, 164, .inl r2)), (orr, .inl (k 0, 3, .inl refused))] := hD
    refine lv_aload_n hx hb dX6_change_19 rfl (lv_at hl 0 rfl) ?_
    refine lv_sipush (v := 166) hx hb dX6_change_20 (by decide) ?_
    refine lv_aload_n hx hb dX6_change_23 rfl (lv_at hl 0 rfl) ?_
    refine va_get (D := D) (ci := 6) (v := .ref on) (C := RX6) (T := TX6) (N := 14) hx hb ht hiX6 hown hK hP 0 rfl rfl 0 (by decide) (ht _ wb765) (fun _ h9 => h9) rfl dX6_change_24 ?_
    refine lv_sipush (v := 165) hx hb dX6_change_27 (by decide) ?_
    obtain ⟨hi1, h⟩ := zg h
    refine va_iald hx hb hK hP 1 0 rfl rfl hi1 dX6_change_30 ?_
    refine lv_bipush (v := 82) hx hb dX6_change_31 (by decide) ?_
    obtain ⟨r3, h3, h⟩ := zb h
    refine zv (zrV (C := RX6) (T := TX6) (N := 14) (As := [.int 166, .int (now (Int32.toNatClampNeg 165)), .int 82]) (rest := []) ⟨hx, hb, hml, hown, ht⟩ (c_X6_findsFitting l D k o on op orr ot oh og od states bytes reading at_ wrongAt number hh now r2 166 (now (Int32.toNatClampNeg 165)) 82 fu h3 _) (cwV 3 ht (gdV wb903 wb905 wb37 wb80 wb906) rfl rfl rfl (by decide +kernel) ⟨Nat.le_of_ble_eq_true rfl, Nat.le_of_ble_eq_true rfl⟩) hK hP hD hS hA hm [0, 1, 2] rfl rfl 0 6 rfl rfl rfl hl.1 rfl (Nat.le_of_ble_eq_true rfl) dX6_change_33 ⟨Nat.le_refl _, Nat.le_refl _⟩) hP hD hS hA [0, 1, 2] rfl rfl (fun H locs hP hD hS => ?_)
    have hP : va_P D vwCl [(o, .inr (6, [.ref on, .ref op, .int states, .ref orr, .ref ot, .int bytes, .ref oh, .ref og, .ref od, .int reading, .int at_, .int wrongAt, .int number, .long hh])), (on, .inl (k 0, 401, .inl now)), (og, .inl (k 0, 164, .inl r3)), (orr, .inl (k 0, 3, .inl refused))] H := hP
    have hD : va_D A [(o, .inr (6, [.ref on, .ref op, .int states, .ref orr, .ref ot, .int bytes, .ref oh, .ref og, .ref od, .int reading, .int at_, .int wrongAt, .int number, .long hh])), (on, .inl (k 0, 401, .inl now)), (og, .inl (k 0, 164, .inl r3)), (orr, .inl (k 0, 3, .inl refused))] := hD
    refine lv_iconst (v := 0) hx hb dX6_change_36 (by decide) ?_
    refine lv_istore_n (lv' := [(2, .int 0), (0, .ref o), (1, .int a1)]) hx hb dX6_change_37 rfl hl (by decide) rfl (fun ls hl => ?_)
    refine lv_iconst (v := 0) hx hb dX6_change_38 (by decide) ?_
    refine lv_istore_n (lv' := [(3, .int 0), (2, .int 0), (0, .ref o), (1, .int a1)]) hx hb dX6_change_39 rfl hl (by decide) rfl (fun ls hl => ?_)
    have loop40 : ∀ (v1 : Int32) (states : Int32) (bytes : Int32) (reading : Int32) (at_ : Int32) (wrongAt : Int32) (number : Int32) (hh : Int64) (now : Nat → Int32) (fitting : Nat → Int32) (refused : Nat → Int32), ∀ (K : Int32 → Int32 → Option (Int32 × (Nat → Int32) × (Nat → Int32))), (∀ (v2 : Int32) (v3 : Int32), K v2 v3 = some res → ∀ (H : Heap) (locs : List Loc), va_P D vwCl [(o, .inr (6, [.ref on, .ref op, .int states, .ref orr, .ref ot, .int bytes, .ref oh, .ref og, .ref od, .int reading, .int at_, .int wrongAt, .int number, .long hh])), (on, .inl (k 0, 401, .inl now)), (og, .inl (k 0, 164, .inl fitting)), (orr, .inl (k 0, 3, .inl refused))] H → va_D A [(o, .inr (6, [.ref on, .ref op, .int states, .ref orr, .ref ot, .int bytes, .ref oh, .ref og, .ref od, .int reading, .int at_, .int wrongAt, .int number, .long hh])), (on, .inl (k 0, 401, .inl now)), (og, .inl (k 0, 164, .inl fitting)), (orr, .inl (k 0, 3, .inl refused))] → va_S A s.heap H locs → ∀ ls : Array Slot, lv_has ls 5 [(0, .ref o), (1, .int v1), (2, .int v2), (3, .int v3)] → W p l e (headSpec wk_X6_change rm_X6_change).room s m ([.ref o, .int a1] : List Value).toArray below meth c H locs 0 0 (MQ below (va_Qi (fun xq9 (_ : Unit) => xq9 = res.1) (fun _ tq9 => va_P D vwCl [(o, .inr (6, [.ref on, .ref op, .int states, .ref orr, .ref ot, .int bytes, .ref oh, .ref og, .ref od, .int reading, .int at_, .int wrongAt, .int number, .long hh])), (on, .inl (k 0, 401, .inl now)), (og, .inl (k 0, 164, .inl res.2.1)), (orr, .inl (k 0, 3, .inl res.2.2))] tq9.heap) A) ([.ref o, .int a1] : List Value).toArray s 0 0 A) (F0 m 88 ls [])) → ∀ (n : Nat) (v2 : Int32) (v3 : Int32), f_X6_change_L40 fu K v1 now fitting refused n v2 v3 = some res → ∀ (H : Heap) (locs : List Loc), va_P D vwCl [(o, .inr (6, [.ref on, .ref op, .int states, .ref orr, .ref ot, .int bytes, .ref oh, .ref og, .ref od, .int reading, .int at_, .int wrongAt, .int number, .long hh])), (on, .inl (k 0, 401, .inl now)), (og, .inl (k 0, 164, .inl fitting)), (orr, .inl (k 0, 3, .inl refused))] H → va_D A [(o, .inr (6, [.ref on, .ref op, .int states, .ref orr, .ref ot, .int bytes, .ref oh, .ref og, .ref od, .int reading, .int at_, .int wrongAt, .int number, .long hh])), (on, .inl (k 0, 401, .inl now)), (og, .inl (k 0, 164, .inl fitting)), (orr, .inl (k 0, 3, .inl refused))] → va_S A s.heap H locs → ∀ ls : Array Slot, lv_has ls 5 [(0, .ref o), (1, .int v1), (2, .int v2), (3, .int v3)] → W p l e (headSpec wk_X6_change rm_X6_change).room s m ([.ref o, .int a1] : List Value).toArray below meth c H locs 0 0 (MQ below (va_Qi (fun xq9 (_ : Unit) => xq9 = res.1) (fun _ tq9 => va_P D vwCl [(o, .inr (6, [.ref on, .ref op, .int states, .ref orr, .ref ot, .int bytes, .ref oh, .ref og, .ref od, .int reading, .int at_, .int wrongAt, .int number, .long hh])), (on, .inl (k 0, 401, .inl now)), (og, .inl (k 0, 164, .inl res.2.1)), (orr, .inl (k 0, 3, .inl res.2.2))] tq9.heap) A) ([.ref o, .int a1] : List Value).toArray s 0 0 A) (F0 m 40 ls []) := by
      intro v1 states bytes reading at_ wrongAt number hh now fitting refused K hKK n
      induction n with
      | zero =>
        intro v2 v3 h
        rw [f_X6_change_L40] at h
        cases h
      | succ n ih =>
        intro v2 v3 h H locs hP hD hS ls hl
        rw [f_X6_change_L40] at h
        refine lv_iload_n hx hb dX6_change_40 rfl (lv_at hl 3 rfl) ?_
        refine lv_ldc (v := 32768) hx hb hown (ht _ wb942) dX6_change_41 ?_
        refine lv_icmp_ge (tgt := 88) hx hb dX6_change_43 (by decide) (fun c5 => ?_) (fun c5 => ?_)
        · have h := zt h c5
          exact hKK _ _ h _ _ hP hD hS _ (lv_sub hl [0, 1, 2, 3] rfl)
        · have h := zf h c5
          refine lv_aload_n hx hb dX6_change_46 rfl (lv_at hl 0 rfl) ?_
          refine lv_iload_n hx hb dX6_change_47 rfl (lv_at hl 3 rfl) ?_
          obtain ⟨r4, h4, h⟩ := zb h
          refine zi (zrV (C := RX6) (T := TX6) (N := 14) (As := [.int v3]) (rest := []) ⟨hx, hb, hml, hown, ht⟩ (c_X6_isOtherwise l D k o on op orr ot oh og od states bytes reading at_ wrongAt number hh now fitting v3 fu h4 _) (cwV 1 ht (gdV wb963 wb965 wb44 wb80 wb966) rfl rfl rfl (by decide +kernel) ⟨Nat.le_of_ble_eq_true rfl, Nat.le_of_ble_eq_true rfl⟩) hK hP hD hS hA hm [0, 1, 2] rfl rfl 0 6 rfl rfl rfl hl.1 rfl (Nat.le_of_ble_eq_true rfl) dX6_change_48 ⟨Nat.le_refl _, Nat.le_refl _⟩) hP hD hS hA [0, 1, 2] rfl rfl (fun H locs hP hD hS => ?_)
          have hP : va_P D vwCl [(o, .inr (6, [.ref on, .ref op, .int states, .ref orr, .ref ot, .int bytes, .ref oh, .ref og, .ref od, .int reading, .int at_, .int wrongAt, .int number, .long hh])), (on, .inl (k 0, 401, .inl now)), (og, .inl (k 0, 164, .inl fitting)), (orr, .inl (k 0, 3, .inl refused))] H := hP
          have hD : va_D A [(o, .inr (6, [.ref on, .ref op, .int states, .ref orr, .ref ot, .int bytes, .ref oh, .ref og, .ref od, .int reading, .int at_, .int wrongAt, .int number, .long hh])), (on, .inl (k 0, 401, .inl now)), (og, .inl (k 0, 164, .inl fitting)), (orr, .inl (k 0, 3, .inl refused))] := hD
          refine lv_istore (lv' := [(4, .int (zB r4)), (0, .ref o), (1, .int v1), (2, .int v2), (3, .int v3)]) hx hb dX6_change_51 hl (by decide) rfl (fun ls hl => ?_)
          refine lv_iload hx hb dX6_change_53 (lv_at hl 0 rfl) ?_
          refine lv_if_eq (tgt := 69) hx hb dX6_change_55 (by decide) (fun c4 => ?_) (fun c4 => ?_)
          · have h := zt h c4
            refine lv_iload_n hx hb dX6_change_69 rfl (lv_at hl 3 rfl) ?_
            refine lv_iload hx hb dX6_change_70 (lv_at hl 0 rfl) ?_
            refine lv_if_eq (tgt := 79) hx hb dX6_change_72 (by decide) (fun c1 => ?_) (fun c1 => ?_)
            · have h := zt h c1
              refine lv_iconst (v := 0) hx hb dX6_change_79 (by decide) ?_
              refine lv_iadd hx hb dX6_change_80 ?_
              refine lv_istore_n (lv' := [(2, .int (v2 + 0)), (4, .int (zB r4)), (0, .ref o), (1, .int v1), (3, .int v3)]) hx hb dX6_change_81 rfl hl (by decide) rfl (fun ls hl => ?_)
              refine lv_iinc (v := v3 + 1) (lv' := [(3, .int (v3 + 1)), (2, .int (v2 + 0)), (4, .int (zB r4)), (0, .ref o), (1, .int v1)]) hx hb dX6_change_82 hl (k := 4) rfl rfl (by decide) rfl (fun ls hl => ?_)
              refine lv_goto (tgt := 40) hx hb dX6_change_85 (by decide) ?_
              exact ih _ _ h _ _ hP hD hS _ (lv_sub hl [3, 4, 1, 0] rfl)
            · have h := zf h c1
              refine lv_iconst (v := 1) hx hb dX6_change_75 (by decide) ?_
              refine lv_goto (tgt := 80) hx hb dX6_change_76 (by decide) ?_
              refine lv_iadd hx hb dX6_change_80 ?_
              refine lv_istore_n (lv' := [(2, .int (v2 + 1)), (4, .int (zB r4)), (0, .ref o), (1, .int v1), (3, .int v3)]) hx hb dX6_change_81 rfl hl (by decide) rfl (fun ls hl => ?_)
              refine lv_iinc (v := v3 + 1) (lv' := [(3, .int (v3 + 1)), (2, .int (v2 + 1)), (4, .int (zB r4)), (0, .ref o), (1, .int v1)]) hx hb dX6_change_82 hl (k := 4) rfl rfl (by decide) rfl (fun ls hl => ?_)
              refine lv_goto (tgt := 40) hx hb dX6_change_85 (by decide) ?_
              exact ih _ _ h _ _ hP hD hS _ (lv_sub hl [3, 4, 1, 0] rfl)
          · have h := zf h c4
            refine lv_iload_n hx hb dX6_change_58 rfl (lv_at hl 2 rfl) ?_
            refine lv_if_le (tgt := 69) hx hb dX6_change_59 (by decide) (fun c3 => ?_) (fun c3 => ?_)
            · have h := zt h c3
              refine lv_iload_n hx hb dX6_change_69 rfl (lv_at hl 3 rfl) ?_
              refine lv_iload hx hb dX6_change_70 (lv_at hl 0 rfl) ?_
              refine lv_if_eq (tgt := 79) hx hb dX6_change_72 (by decide) (fun c2 => ?_) (fun c2 => ?_)
              · have h := zt h c2
                refine lv_iconst (v := 0) hx hb dX6_change_79 (by decide) ?_
                refine lv_iadd hx hb dX6_change_80 ?_
                refine lv_istore_n (lv' := [(2, .int (v2 + 0)), (4, .int (zB r4)), (0, .ref o), (1, .int v1), (3, .int v3)]) hx hb dX6_change_81 rfl hl (by decide) rfl (fun ls hl => ?_)
                refine lv_iinc (v := v3 + 1) (lv' := [(3, .int (v3 + 1)), (2, .int (v2 + 0)), (4, .int (zB r4)), (0, .ref o), (1, .int v1)]) hx hb dX6_change_82 hl (k := 4) rfl rfl (by decide) rfl (fun ls hl => ?_)
                refine lv_goto (tgt := 40) hx hb dX6_change_85 (by decide) ?_
                exact ih _ _ h _ _ hP hD hS _ (lv_sub hl [3, 4, 1, 0] rfl)
              · have h := zf h c2
                refine lv_iconst (v := 1) hx hb dX6_change_75 (by decide) ?_
                refine lv_goto (tgt := 80) hx hb dX6_change_76 (by decide) ?_
                refine lv_iadd hx hb dX6_change_80 ?_
                refine lv_istore_n (lv' := [(2, .int (v2 + 1)), (4, .int (zB r4)), (0, .ref o), (1, .int v1), (3, .int v3)]) hx hb dX6_change_81 rfl hl (by decide) rfl (fun ls hl => ?_)
                refine lv_iinc (v := v3 + 1) (lv' := [(3, .int (v3 + 1)), (2, .int (v2 + 1)), (4, .int (zB r4)), (0, .ref o), (1, .int v1)]) hx hb dX6_change_82 hl (k := 4) rfl rfl (by decide) rfl (fun ls hl => ?_)
                refine lv_goto (tgt := 40) hx hb dX6_change_85 (by decide) ?_
                exact ih _ _ h _ _ hP hD hS _ (lv_sub hl [3, 4, 1, 0] rfl)
            · have h := zf h c3
              refine lv_aload_n hx hb dX6_change_62 rfl (lv_at hl 1 rfl) ?_
              refine lv_iload_n hx hb dX6_change_63 rfl (lv_at hl 4 rfl) ?_
              refine lv_iload_n hx hb dX6_change_64 rfl (lv_at hl 2 rfl) ?_
              obtain ⟨r5, h5, h⟩ := zb h
              refine zi (zrV (C := RX6) (T := TX6) (N := 14) (As := [.int v3, .int v1]) (rest := []) ⟨hx, hb, hml, hown, ht⟩ (c_X6_tellOf l D k o on op orr ot oh og od states bytes reading at_ wrongAt number hh now fitting v3 v1 fu h5 _) (cwV 2 ht (gdV wb967 wb969 wb45 wb80 wb970) rfl rfl rfl (by decide +kernel) ⟨Nat.le_of_ble_eq_true rfl, Nat.le_of_ble_eq_true rfl⟩) hK hP hD hS hA hm [0, 1, 2] rfl rfl 0 6 rfl rfl rfl hl.1 rfl (Nat.le_of_ble_eq_true rfl) dX6_change_65 ⟨Nat.le_refl _, Nat.le_refl _⟩) hP hD hS hA [0, 1, 2] rfl rfl (fun H locs hP hD hS => ?_)
              have hP : va_P D vwCl [(o, .inr (6, [.ref on, .ref op, .int states, .ref orr, .ref ot, .int bytes, .ref oh, .ref og, .ref od, .int reading, .int at_, .int wrongAt, .int number, .long hh])), (on, .inl (k 0, 401, .inl now)), (og, .inl (k 0, 164, .inl fitting)), (orr, .inl (k 0, 3, .inl refused))] H := hP
              have hD : va_D A [(o, .inr (6, [.ref on, .ref op, .int states, .ref orr, .ref ot, .int bytes, .ref oh, .ref og, .ref od, .int reading, .int at_, .int wrongAt, .int number, .long hh])), (on, .inl (k 0, 401, .inl now)), (og, .inl (k 0, 164, .inl fitting)), (orr, .inl (k 0, 3, .inl refused))] := hD
              obtain rfl := Option.some.inj h
              exact W.iret (v := r5) hx hb hr (fun t ht9 hW => ⟨⟨_, (), rfl, rfl, zend ht9 hP⟩, hS.F ht9⟩) hS.2.2 dX6_change_68
    refine loop40 _ _ _ _ _ _ _ _ _ _ _ _ ?_ fu _ _ h _ _ hP hD hS _ (lv_sub hl [2, 3, 1, 0] rfl)
    intro x1 x2 h H locs hP hD hS ls hl
    try dsimp only at h
    have hP : va_P D vwCl [(o, .inr (6, [.ref on, .ref op, .int states, .ref orr, .ref ot, .int bytes, .ref oh, .ref og, .ref od, .int reading, .int at_, .int wrongAt, .int number, .long hh])), (on, .inl (k 0, 401, .inl now)), (og, .inl (k 0, 164, .inl r3)), (orr, .inl (k 0, 3, .inl refused))] H := hP
    have hD : va_D A [(o, .inr (6, [.ref on, .ref op, .int states, .ref orr, .ref ot, .int bytes, .ref oh, .ref og, .ref od, .int reading, .int at_, .int wrongAt, .int number, .long hh])), (on, .inl (k 0, 401, .inl now)), (og, .inl (k 0, 164, .inl r3)), (orr, .inl (k 0, 3, .inl refused))] := hD
    have hl : lv_has ls 5 [(0, .ref o), (1, .int a1), (2, .int x1), (3, .int x2)] := hl
    refine lv_iload_n hx hb dX6_change_88 rfl (lv_at hl 1 rfl) ?_
    refine lv_if_ne (tgt := 96) hx hb dX6_change_89 (by decide) (fun c6 => ?_) (fun c6 => ?_)
    · have h := zf h c6
      refine lv_iconst (v := (-1)) hx hb dX6_change_96 (by decide) ?_
      obtain rfl := Option.some.inj h
      exact W.iret (v := (-1)) hx hb hr (fun t ht9 hW => ⟨⟨_, (), rfl, rfl, zend ht9 hP⟩, hS.F ht9⟩) hS.2.2 dX6_change_97
    · have h := zt h c6
      refine lv_iload_n hx hb dX6_change_92 rfl (lv_at hl 2 rfl) ?_
      refine lv_goto (tgt := 97) hx hb dX6_change_93 (by decide) ?_
      obtain rfl := Option.some.inj h
      exact W.iret (v := x1) hx hb hr (fun t ht9 hW => ⟨⟨_, (), rfl, rfl, zend ht9 hP⟩, hS.F ht9⟩) hS.2.2 dX6_change_97
  · have h := zt h c7
    refine lv_aload_n hx hb dX6_change_10 rfl (lv_at hl 0 rfl) ?_
    obtain ⟨r6, h6, h⟩ := zb h
    refine zi (zrV (C := RX6) (T := TX6) (N := 14) (As := []) (rest := []) ⟨hx, hb, hml, hown, ht⟩ (c_X6_bad l D k o on op orr ot oh og od states bytes reading at_ wrongAt number hh refused  h6 _) (cwV 0 ht (gdV wb826 wb828 wb29 wb80 wb829) rfl rfl rfl (by decide +kernel) ⟨Nat.le_of_ble_eq_true rfl, Nat.le_of_ble_eq_true rfl⟩) hK hP hD hS hA hm [0, 3] rfl rfl 0 6 rfl rfl rfl hl.1 rfl (Nat.le_of_ble_eq_true rfl) dX6_change_11 ⟨Nat.le_refl _, Nat.le_refl _⟩) hP hD hS hA [0, 3] rfl rfl (fun H locs hP hD hS => ?_)
    have hP : va_P D vwCl [(o, .inr (6, [.ref on, .ref op, .int states, .ref orr, .ref ot, .int bytes, .ref oh, .ref og, .ref od, .int reading, .int at_, .int wrongAt, .int number, .long hh])), (on, .inl (k 0, 401, .inl now)), (og, .inl (k 0, 164, .inl fitting)), (orr, .inl (k 0, 3, .inl r6.2))] H := hP
    have hD : va_D A [(o, .inr (6, [.ref on, .ref op, .int states, .ref orr, .ref ot, .int bytes, .ref oh, .ref og, .ref od, .int reading, .int at_, .int wrongAt, .int number, .long hh])), (on, .inl (k 0, 401, .inl now)), (og, .inl (k 0, 164, .inl fitting)), (orr, .inl (k 0, 3, .inl r6.2))] := hD
    obtain rfl := Option.some.inj h
    exact W.iret (v := r6.1) hx hb hr (fun t ht9 hW => ⟨⟨_, (), rfl, rfl, zend ht9 hP⟩, hS.F ht9⟩) hS.2.2 dX6_change_14
def f_X6_all_L22 (fu : Nat) (K : Int32 → Int32 → Option (Int32 × (Nat → Int32) × (Nat → Int32))) (v1 : Int32) (now : Nat → Int32) (fitting : Nat → Int32) : Nat → Int32 → Int32 → Option (Int32 × (Nat → Int32) × (Nat → Int32))
  | 0, _, _ => none
  | n + 1, v2, v3 =>
  if 32768 ≤ v3 then (K v2 v3) else ((f_X6_fits fitting 0 v3).bind fun r3 => (f_X6_actionBy fu now 33 r3).bind fun r4 => if r4 = v1 then (f_X6_all_L22 fu K v1 now fitting n (v2 + 1) (v3 + 1)) else (f_X6_all_L22 fu K v1 now fitting n (v2 + 0) (v3 + 1)))
def f_X6_all (fu : Nat) (now : Nat → Int32) (fitting : Nat → Int32) (refused : Nat → Int32) (a1 : Int32) : Option (Int32 × (Nat → Int32) × (Nat → Int32)) :=
  (f_X6_in  a1 0 2).bind fun r1 => if (zB r1) = 0 then ((f_X6_bad refused ).bind fun r5 => some (r5.1, fitting, r5.2)) else ((f_X6_findsNow fu now fitting ).bind fun r2 => f_X6_all_L22 fu (fun (x1 : Int32) (x2 : Int32) => some (x1, r2, refused)) a1 now r2 fu 0 0)
abbrev wk_X6_all : List Cond := Cond.code yX6_all cX6_all 4 (some .int) :: WB
abbrev rm_X6_all : Room := { frames := 4, cells := 0, slots := 0, locals := 91 }
set_option maxHeartbeats 4000000 in
set_option maxRecDepth 100000 in
theorem c_X6_all (l : Launch) (D : va_G) (k : Nat → Nat) (o on op orr ot oh og od : Nat) (states : Int32) (bytes : Int32) (reading : Int32) (at_ : Int32) (wrongAt : Int32) (number : Int32) (hh : Int64) (now : Nat → Int32) (fitting : Nat → Int32) (refused : Nat → Int32) (a1 : Int32) (fu : Nat) {res : Int32 × (Nat → Int32) × (Nat → Int32)} (h : f_X6_all fu now fitting refused a1 = some res) : Ci l yX6_all wk_X6_all rm_X6_all D k [.ref o, .int a1] [(o, .inr (6, [.ref on, .ref op, .int states, .ref orr, .ref ot, .int bytes, .ref oh, .ref og, .ref od, .int reading, .int at_, .int wrongAt, .int number, .long hh])), (on, .inl (k 0, 401, .inl now)), (og, .inl (k 0, 164, .inl fitting)), (orr, .inl (k 0, 3, .inl refused))] [(o, .inr (6, [.ref on, .ref op, .int states, .ref orr, .ref ot, .int bytes, .ref oh, .ref og, .ref od, .int reading, .int at_, .int wrongAt, .int number, .long hh])), (on, .inl (k 0, 401, .inl now)), (og, .inl (k 0, 164, .inl res.2.1)), (orr, .inl (k 0, 3, .inl res.2.2))] res.1 := by
  unfold Ci
  intro sz
  refine Met.ofW (cc := cX6_all) (maxL := 4) (ret := (some .int)) (by decide) rfl ?_
  intro p e s m args below meth c s₁ B hml hv
  obtain ⟨rfl, hsz, hP, hK, hD0, hm⟩ := hv
  have hx := B.exec
  have hb := B.bytes
  have hr := B.returns
  have ht : ∀ w ∈ WB, w.before _ s = true := fun w hw => atoms_spec (ws := wk_X6_all) B.pre w (List.mem_cons_of_mem _ hw)
  have hown : s.vm.findClass RX6 = some m.cls := findClass_of_methodNamed B.named
  have hlocks := B.notSynchronized
  subst hsz
  have hD := hD0.self (sz := s.heap.size)
  generalize hAe : va_A [(o, .inr (6, [.ref on, .ref op, .int states, .ref orr, .ref ot, .int bytes, .ref oh, .ref og, .ref od, .int reading, .int at_, .int wrongAt, .int number, .long hh])), (on, .inl (k 0, 401, .inl now)), (og, .inl (k 0, 164, .inl fitting)), (orr, .inl (k 0, 3, .inl refused))] s.heap.size = A at hD hm ⊢
  have hA : ∀ q : Nat, s.heap.size ≤ q → A q := fun q h => by rw [← hAe]; exact Or.inr h
  have hS : va_S A s.heap s.heap [] := va_S.rf
  have hl := lv_entry ([.ref o, .int a1]) (n := 4) (Nat.le_of_ble_eq_true rfl)
  rw [lg_entry_eq]
  generalize (lg_sl ([.ref o, .int a1]) ++ List.replicate (4 - (lg_sl ([.ref o, .int a1])).length) Slot.unset).toArray = ls at hl ⊢
  have hl : lv_has ls 4 [(0, .ref o), (1, .int a1)] := hl
  obtain ⟨H, hH⟩ : ∃ H, H = s.heap := ⟨_, rfl⟩
  rw [← hH] at hP
  have hS : va_S A s.heap H [] := by rw [hH]; exact hS
  suffices hgo : W p l e _ s m _ below meth c H [] 0 0 _ _ by rw [hH] at hgo; exact hgo
  unfold f_X6_all at h
  refine lv_iload_n hx hb dX6_all_0 rfl (lv_at hl 1 rfl) ?_
  refine lv_iconst (v := 0) hx hb dX6_all_1 (by decide) ?_
  refine lv_iconst (v := 2) hx hb dX6_all_2 (by decide) ?_
  obtain ⟨r1, h1, h⟩ := zb h
  refine zi (zrS (As := [.int a1, .int 0, .int 2]) (rest := []) ⟨hx, hb, hml, hown, ht⟩ (c_X6_in l D k   a1 0 2 h1 _) (va_cwS 3 ht (gdS wb820 wb821 wb80 wb822) rfl rfl rfl (by decide +kernel) ⟨Nat.le_of_ble_eq_true rfl, Nat.le_of_ble_eq_true rfl⟩) hK hP hD hS hA hm [] rfl rfl rfl hl.1 rfl (Nat.le_of_ble_eq_true rfl) dX6_all_3 ⟨Nat.le_refl _, Nat.le_refl _⟩) hP hD hS hA [] rfl rfl (fun H locs hP hD hS => ?_)
  have hP : va_P D vwCl [(o, .inr (6, [.ref on, .ref op, .int states, .ref orr, .ref ot, .int bytes, .ref oh, .ref og, .ref od, .int reading, .int at_, .int wrongAt, .int number, .long hh])), (on, .inl (k 0, 401, .inl now)), (og, .inl (k 0, 164, .inl fitting)), (orr, .inl (k 0, 3, .inl refused))] H := hP
  have hD : va_D A [(o, .inr (6, [.ref on, .ref op, .int states, .ref orr, .ref ot, .int bytes, .ref oh, .ref og, .ref od, .int reading, .int at_, .int wrongAt, .int number, .long hh])), (on, .inl (k 0, 401, .inl now)), (og, .inl (k 0, 164, .inl fitting)), (orr, .inl (k 0, 3, .inl refused))] := hD
  refine lv_if_ne (tgt := 14) hx hb dX6_all_6 (by decide) (fun c3 => ?_) (fun c3 => ?_)
  · have h := zf h c3
    refine lv_aload_n hx hb dX6_all_14 rfl (lv_at hl 0 rfl) ?_
    obtain ⟨r2, h2, h⟩ := zb h
    refine zv (zrV (C := RX6) (T := TX6) (N := 14) (As := []) (rest := []) ⟨hx, hb, hml, hown, ht⟩ (c_X6_findsNow l D k o on op orr ot oh og od states bytes reading at_ wrongAt number hh now fitting  fu h2 _) (cwV 0 ht (gdV wb899 wb901 wb36 wb80 wb902) rfl rfl rfl (by decide +kernel) ⟨Nat.le_of_ble_eq_true rfl, Nat.le_of_ble_eq_true rfl⟩) hK hP hD hS hA hm [0, 1, 2] rfl rfl 0 6 rfl rfl rfl hl.1 rfl (Nat.le_of_ble_eq_true rfl) dX6_all_15 ⟨Nat.le_refl _, Nat.le_refl _⟩) hP hD hS hA [0, 1, 2] rfl rfl (fun H locs hP hD hS => ?_)
    have hP : va_P D vwCl [(o, .inr (6, [.ref on, .ref op, .int states, .ref orr, .ref ot, .int bytes, .ref oh, .ref og, .ref od, .int reading, .int at_, .int wrongAt, .int number, .long hh])), (on, .inl (k 0, 401, .inl now)), (og, .inl (k 0, 164, .inl r2)), (orr, .inl (k 0, 3, .inl refused))] H := hP
    have hD : va_D A [(o, .inr (6, [.ref on, .ref op, .int states, .ref orr, .ref ot, .int bytes, .ref oh, .ref og, .ref od, .int reading, .int at_, .int wrongAt, .int number, .long hh])), (on, .inl (k 0, 401, .inl now)), (og, .inl (k 0, 164, .inl r2)), (orr, .inl (k 0, 3, .inl refused))] := hD
    refine lv_iconst (v := 0) hx hb dX6_all_18 (by decide) ?_
    refine lv_istore_n (lv' := [(2, .int 0), (0, .ref o), (1, .int a1)]) hx hb dX6_all_19 rfl hl (by decide) rfl (fun ls hl => ?_)
    refine lv_iconst (v := 0) hx hb dX6_all_20 (by decide) ?_
    refine lv_istore_n (lv' := [(3, .int 0), (2, .int 0), (0, .ref o), (1, .int a1)]) hx hb dX6_all_21 rfl hl (by decide) rfl (fun ls hl => ?_)
    have loop22 : ∀ (v1 : Int32) (states : Int32) (bytes : Int32) (reading : Int32) (at_ : Int32) (wrongAt : Int32) (number : Int32) (hh : Int64) (now : Nat → Int32) (fitting : Nat → Int32) (refused : Nat → Int32), ∀ (K : Int32 → Int32 → Option (Int32 × (Nat → Int32) × (Nat → Int32))), (∀ (v2 : Int32) (v3 : Int32), K v2 v3 = some res → ∀ (H : Heap) (locs : List Loc), va_P D vwCl [(o, .inr (6, [.ref on, .ref op, .int states, .ref orr, .ref ot, .int bytes, .ref oh, .ref og, .ref od, .int reading, .int at_, .int wrongAt, .int number, .long hh])), (on, .inl (k 0, 401, .inl now)), (og, .inl (k 0, 164, .inl fitting)), (orr, .inl (k 0, 3, .inl refused))] H → va_D A [(o, .inr (6, [.ref on, .ref op, .int states, .ref orr, .ref ot, .int bytes, .ref oh, .ref og, .ref od, .int reading, .int at_, .int wrongAt, .int number, .long hh])), (on, .inl (k 0, 401, .inl now)), (og, .inl (k 0, 164, .inl fitting)), (orr, .inl (k 0, 3, .inl refused))] → va_S A s.heap H locs → ∀ ls : Array Slot, lv_has ls 4 [(0, .ref o), (1, .int v1), (2, .int v2), (3, .int v3)] → W p l e (headSpec wk_X6_all rm_X6_all).room s m ([.ref o, .int a1] : List Value).toArray below meth c H locs 0 0 (MQ below (va_Qi (fun xq9 (_ : Unit) => xq9 = res.1) (fun _ tq9 => va_P D vwCl [(o, .inr (6, [.ref on, .ref op, .int states, .ref orr, .ref ot, .int bytes, .ref oh, .ref og, .ref od, .int reading, .int at_, .int wrongAt, .int number, .long hh])), (on, .inl (k 0, 401, .inl now)), (og, .inl (k 0, 164, .inl res.2.1)), (orr, .inl (k 0, 3, .inl res.2.2))] tq9.heap) A) ([.ref o, .int a1] : List Value).toArray s 0 0 A) (F0 m 58 ls [])) → ∀ (n : Nat) (v2 : Int32) (v3 : Int32), f_X6_all_L22 fu K v1 now fitting n v2 v3 = some res → ∀ (H : Heap) (locs : List Loc), va_P D vwCl [(o, .inr (6, [.ref on, .ref op, .int states, .ref orr, .ref ot, .int bytes, .ref oh, .ref og, .ref od, .int reading, .int at_, .int wrongAt, .int number, .long hh])), (on, .inl (k 0, 401, .inl now)), (og, .inl (k 0, 164, .inl fitting)), (orr, .inl (k 0, 3, .inl refused))] H → va_D A [(o, .inr (6, [.ref on, .ref op, .int states, .ref orr, .ref ot, .int bytes, .ref oh, .ref og, .ref od, .int reading, .int at_, .int wrongAt, .int number, .long hh])), (on, .inl (k 0, 401, .inl now)), (og, .inl (k 0, 164, .inl fitting)), (orr, .inl (k 0, 3, .inl refused))] → va_S A s.heap H locs → ∀ ls : Array Slot, lv_has ls 4 [(0, .ref o), (1, .int v1), (2, .int v2), (3, .int v3)] → W p l e (headSpec wk_X6_all rm_X6_all).room s m ([.ref o, .int a1] : List Value).toArray below meth c H locs 0 0 (MQ below (va_Qi (fun xq9 (_ : Unit) => xq9 = res.1) (fun _ tq9 => va_P D vwCl [(o, .inr (6, [.ref on, .ref op, .int states, .ref orr, .ref ot, .int bytes, .ref oh, .ref og, .ref od, .int reading, .int at_, .int wrongAt, .int number, .long hh])), (on, .inl (k 0, 401, .inl now)), (og, .inl (k 0, 164, .inl res.2.1)), (orr, .inl (k 0, 3, .inl res.2.2))] tq9.heap) A) ([.ref o, .int a1] : List Value).toArray s 0 0 A) (F0 m 22 ls []) := by
      intro v1 states bytes reading at_ wrongAt number hh now fitting refused K hKK n
      induction n with
      | zero =>
        intro v2 v3 h
        rw [f_X6_all_L22] at h
        cases h
      | succ n ih =>
        intro v2 v3 h H locs hP hD hS ls hl
        rw [f_X6_all_L22] at h
        refine lv_iload_n hx hb dX6_all_22 rfl (lv_at hl 3 rfl) ?_
        refine lv_ldc (v := 32768) hx hb hown (ht _ wb942) dX6_all_23 ?_
        refine lv_icmp_ge (tgt := 58) hx hb dX6_all_25 (by decide) (fun c2 => ?_) (fun c2 => ?_)
        · have h := zt h c2
          exact hKK _ _ h _ _ hP hD hS _ (lv_sub hl [0, 1, 2, 3] rfl)
        · have h := zf h c2
          refine lv_iload_n hx hb dX6_all_28 rfl (lv_at hl 2 rfl) ?_
          refine lv_aload_n hx hb dX6_all_29 rfl (lv_at hl 0 rfl) ?_
          refine lv_bipush (v := 33) hx hb dX6_all_30 (by decide) ?_
          refine lv_aload_n hx hb dX6_all_32 rfl (lv_at hl 0 rfl) ?_
          refine lv_iconst (v := 0) hx hb dX6_all_33 (by decide) ?_
          refine lv_iload_n hx hb dX6_all_34 rfl (lv_at hl 3 rfl) ?_
          obtain ⟨r3, h3, h⟩ := zb h
          refine zi (zrV (C := RX6) (T := TX6) (N := 14) (As := [.int 0, .int v3]) (rest := [.int 33, .ref o, .int v2]) ⟨hx, hb, hml, hown, ht⟩ (c_X6_fits l D k o on op orr ot oh og od states bytes reading at_ wrongAt number hh fitting 0 v3 h3 _) (cwV 2 ht (gdV wb918 wb920 wb40 wb80 wb921) rfl rfl rfl (by decide +kernel) ⟨Nat.le_of_ble_eq_true rfl, Nat.le_of_ble_eq_true rfl⟩) hK hP hD hS hA hm [0, 2] rfl rfl 0 6 rfl rfl rfl hl.1 rfl (Nat.le_of_ble_eq_true rfl) dX6_all_35 ⟨Nat.le_refl _, Nat.le_refl _⟩) hP hD hS hA [0, 2] rfl rfl (fun H locs hP hD hS => ?_)
          have hP : va_P D vwCl [(o, .inr (6, [.ref on, .ref op, .int states, .ref orr, .ref ot, .int bytes, .ref oh, .ref og, .ref od, .int reading, .int at_, .int wrongAt, .int number, .long hh])), (on, .inl (k 0, 401, .inl now)), (og, .inl (k 0, 164, .inl fitting)), (orr, .inl (k 0, 3, .inl refused))] H := hP
          have hD : va_D A [(o, .inr (6, [.ref on, .ref op, .int states, .ref orr, .ref ot, .int bytes, .ref oh, .ref og, .ref od, .int reading, .int at_, .int wrongAt, .int number, .long hh])), (on, .inl (k 0, 401, .inl now)), (og, .inl (k 0, 164, .inl fitting)), (orr, .inl (k 0, 3, .inl refused))] := hD
          obtain ⟨r4, h4, h⟩ := zb h
          refine zi (zrV (C := RX6) (T := TX6) (N := 14) (As := [.int 33, .int r3]) (rest := [.int v2]) ⟨hx, hb, hml, hown, ht⟩ (c_X6_actionBy l D k o on op orr ot oh og od states bytes reading at_ wrongAt number hh now 33 r3 fu h4 _) (cwV 2 ht (gdV wb951 wb953 wb43 wb80 wb954) rfl rfl rfl (by decide +kernel) ⟨Nat.le_of_ble_eq_true rfl, Nat.le_of_ble_eq_true rfl⟩) hK hP hD hS hA hm [0, 1] rfl rfl 0 6 rfl rfl rfl hl.1 rfl (Nat.le_of_ble_eq_true rfl) dX6_all_38 ⟨Nat.le_refl _, Nat.le_refl _⟩) hP hD hS hA [0, 1] rfl rfl (fun H locs hP hD hS => ?_)
          have hP : va_P D vwCl [(o, .inr (6, [.ref on, .ref op, .int states, .ref orr, .ref ot, .int bytes, .ref oh, .ref og, .ref od, .int reading, .int at_, .int wrongAt, .int number, .long hh])), (on, .inl (k 0, 401, .inl now)), (og, .inl (k 0, 164, .inl fitting)), (orr, .inl (k 0, 3, .inl refused))] H := hP
          have hD : va_D A [(o, .inr (6, [.ref on, .ref op, .int states, .ref orr, .ref ot, .int bytes, .ref oh, .ref og, .ref od, .int reading, .int at_, .int wrongAt, .int number, .long hh])), (on, .inl (k 0, 401, .inl now)), (og, .inl (k 0, 164, .inl fitting)), (orr, .inl (k 0, 3, .inl refused))] := hD
          refine lv_iload_n hx hb dX6_all_41 rfl (lv_at hl 1 rfl) ?_
          refine lv_icmp_ne (tgt := 49) hx hb dX6_all_42 (by decide) (fun c1 => ?_) (fun c1 => ?_)
          · have h := zf h c1
            refine lv_iconst (v := 0) hx hb dX6_all_49 (by decide) ?_
            refine lv_iadd hx hb dX6_all_50 ?_
            refine lv_istore_n (lv' := [(2, .int (v2 + 0)), (0, .ref o), (1, .int v1), (3, .int v3)]) hx hb dX6_all_51 rfl hl (by decide) rfl (fun ls hl => ?_)
            refine lv_iinc (v := v3 + 1) (lv' := [(3, .int (v3 + 1)), (2, .int (v2 + 0)), (0, .ref o), (1, .int v1)]) hx hb dX6_all_52 hl (k := 3) rfl rfl (by decide) rfl (fun ls hl => ?_)
            refine lv_goto (tgt := 22) hx hb dX6_all_55 (by decide) ?_
            exact ih _ _ h _ _ hP hD hS _ (lv_sub hl [2, 3, 1, 0] rfl)
          · have h := zt h c1
            refine lv_iconst (v := 1) hx hb dX6_all_45 (by decide) ?_
            refine lv_goto (tgt := 50) hx hb dX6_all_46 (by decide) ?_
            refine lv_iadd hx hb dX6_all_50 ?_
            refine lv_istore_n (lv' := [(2, .int (v2 + 1)), (0, .ref o), (1, .int v1), (3, .int v3)]) hx hb dX6_all_51 rfl hl (by decide) rfl (fun ls hl => ?_)
            refine lv_iinc (v := v3 + 1) (lv' := [(3, .int (v3 + 1)), (2, .int (v2 + 1)), (0, .ref o), (1, .int v1)]) hx hb dX6_all_52 hl (k := 3) rfl rfl (by decide) rfl (fun ls hl => ?_)
            refine lv_goto (tgt := 22) hx hb dX6_all_55 (by decide) ?_
            exact ih _ _ h _ _ hP hD hS _ (lv_sub hl [2, 3, 1, 0] rfl)
    refine loop22 _ _ _ _ _ _ _ _ _ _ _ _ ?_ fu _ _ h _ _ hP hD hS _ (lv_sub hl [2, 3, 1, 0] rfl)
    intro x1 x2 h H locs hP hD hS ls hl
    try dsimp only at h
    have hP : va_P D vwCl [(o, .inr (6, [.ref on, .ref op, .int states, .ref orr, .ref ot, .int bytes, .ref oh, .ref og, .ref od, .int reading, .int at_, .int wrongAt, .int number, .long hh])), (on, .inl (k 0, 401, .inl now)), (og, .inl (k 0, 164, .inl r2)), (orr, .inl (k 0, 3, .inl refused))] H := hP
    have hD : va_D A [(o, .inr (6, [.ref on, .ref op, .int states, .ref orr, .ref ot, .int bytes, .ref oh, .ref og, .ref od, .int reading, .int at_, .int wrongAt, .int number, .long hh])), (on, .inl (k 0, 401, .inl now)), (og, .inl (k 0, 164, .inl r2)), (orr, .inl (k 0, 3, .inl refused))] := hD
    have hl : lv_has ls 4 [(0, .ref o), (1, .int a1), (2, .int x1), (3, .int x2)] := hl
    refine lv_iload_n hx hb dX6_all_58 rfl (lv_at hl 2 rfl) ?_
    obtain rfl := Option.some.inj h
    exact W.iret (v := x1) hx hb hr (fun t ht9 hW => ⟨⟨_, (), rfl, rfl, zend ht9 hP⟩, hS.F ht9⟩) hS.2.2 dX6_all_59
  · have h := zt h c3
    refine lv_aload_n hx hb dX6_all_9 rfl (lv_at hl 0 rfl) ?_
    obtain ⟨r5, h5, h⟩ := zb h
    refine zi (zrV (C := RX6) (T := TX6) (N := 14) (As := []) (rest := []) ⟨hx, hb, hml, hown, ht⟩ (c_X6_bad l D k o on op orr ot oh og od states bytes reading at_ wrongAt number hh refused  h5 _) (cwV 0 ht (gdV wb826 wb828 wb29 wb80 wb829) rfl rfl rfl (by decide +kernel) ⟨Nat.le_of_ble_eq_true rfl, Nat.le_of_ble_eq_true rfl⟩) hK hP hD hS hA hm [0, 3] rfl rfl 0 6 rfl rfl rfl hl.1 rfl (Nat.le_of_ble_eq_true rfl) dX6_all_10 ⟨Nat.le_refl _, Nat.le_refl _⟩) hP hD hS hA [0, 3] rfl rfl (fun H locs hP hD hS => ?_)
    have hP : va_P D vwCl [(o, .inr (6, [.ref on, .ref op, .int states, .ref orr, .ref ot, .int bytes, .ref oh, .ref og, .ref od, .int reading, .int at_, .int wrongAt, .int number, .long hh])), (on, .inl (k 0, 401, .inl now)), (og, .inl (k 0, 164, .inl fitting)), (orr, .inl (k 0, 3, .inl r5.2))] H := hP
    have hD : va_D A [(o, .inr (6, [.ref on, .ref op, .int states, .ref orr, .ref ot, .int bytes, .ref oh, .ref og, .ref od, .int reading, .int at_, .int wrongAt, .int number, .long hh])), (on, .inl (k 0, 401, .inl now)), (og, .inl (k 0, 164, .inl fitting)), (orr, .inl (k 0, 3, .inl r5.2))] := hD
    obtain rfl := Option.some.inj h
    exact W.iret (v := r5.1) hx hb hr (fun t ht9 hW => ⟨⟨_, (), rfl, rfl, zend ht9 hP⟩, hS.F ht9⟩) hS.2.2 dX6_all_13
def f_X6_flowAt  (a1 : Int32) : Option (Int32) :=
  some (299 + (7 * a1))
abbrev wk_X6_flowAt : List Cond := Cond.code yX6_flowAt cX6_flowAt 2 (some .int) :: WB
abbrev rm_X6_flowAt : Room := { frames := 0, cells := 0, slots := 0, locals := 0 }
set_option maxHeartbeats 4000000 in
set_option maxRecDepth 100000 in
theorem c_X6_flowAt (l : Launch) (D : va_G) (k : Nat → Nat) (o on op orr ot oh og od : Nat) (states : Int32) (bytes : Int32) (reading : Int32) (at_ : Int32) (wrongAt : Int32) (number : Int32) (hh : Int64) (a1 : Int32) {res : Int32} (h : f_X6_flowAt  a1 = some res) : Ci l yX6_flowAt wk_X6_flowAt rm_X6_flowAt D k [.ref o, .int a1] [(o, .inr (6, [.ref on, .ref op, .int states, .ref orr, .ref ot, .int bytes, .ref oh, .ref og, .ref od, .int reading, .int at_, .int wrongAt, .int number, .long hh]))] [(o, .inr (6, [.ref on, .ref op, .int states, .ref orr, .ref ot, .int bytes, .ref oh, .ref og, .ref od, .int reading, .int at_, .int wrongAt, .int number, .long hh]))] res := by
  unfold Ci
  intro sz
  refine Met.ofW (cc := cX6_flowAt) (maxL := 2) (ret := (some .int)) (by decide) rfl ?_
  intro p e s m args below meth c s₁ B hml hv
  obtain ⟨rfl, hsz, hP, hK, hD0, hm⟩ := hv
  have hx := B.exec
  have hb := B.bytes
  have hr := B.returns
  have ht : ∀ w ∈ WB, w.before _ s = true := fun w hw => atoms_spec (ws := wk_X6_flowAt) B.pre w (List.mem_cons_of_mem _ hw)
  have hown : s.vm.findClass RX6 = some m.cls := findClass_of_methodNamed B.named
  have hlocks := B.notSynchronized
  subst hsz
  have hD := hD0.self (sz := s.heap.size)
  generalize hAe : va_A [(o, .inr (6, [.ref on, .ref op, .int states, .ref orr, .ref ot, .int bytes, .ref oh, .ref og, .ref od, .int reading, .int at_, .int wrongAt, .int number, .long hh]))] s.heap.size = A at hD hm ⊢
  have hA : ∀ q : Nat, s.heap.size ≤ q → A q := fun q h => by rw [← hAe]; exact Or.inr h
  have hS : va_S A s.heap s.heap [] := va_S.rf
  have hl := lv_entry ([.ref o, .int a1]) (n := 2) (Nat.le_of_ble_eq_true rfl)
  rw [lg_entry_eq]
  generalize (lg_sl ([.ref o, .int a1]) ++ List.replicate (2 - (lg_sl ([.ref o, .int a1])).length) Slot.unset).toArray = ls at hl ⊢
  have hl : lv_has ls 2 [(0, .ref o), (1, .int a1)] := hl
  obtain ⟨H, hH⟩ : ∃ H, H = s.heap := ⟨_, rfl⟩
  rw [← hH] at hP
  have hS : va_S A s.heap H [] := by rw [hH]; exact hS
  suffices hgo : W p l e _ s m _ below meth c H [] 0 0 _ _ by rw [hH] at hgo; exact hgo
  unfold f_X6_flowAt at h
  refine lv_sipush (v := 299) hx hb dX6_flowAt_0 (by decide) ?_
  refine lv_bipush (v := 7) hx hb dX6_flowAt_3 (by decide) ?_
  refine lv_iload_n hx hb dX6_flowAt_5 rfl (lv_at hl 1 rfl) ?_
  refine lv_imul hx hb dX6_flowAt_6 ?_
  refine lv_iadd hx hb dX6_flowAt_7 ?_
  obtain rfl := Option.some.inj h
  exact W.iret (v := 299 + (7 * a1)) hx hb hr (fun t ht9 hW => ⟨⟨_, (), rfl, rfl, zend ht9 hP⟩, hS.F ht9⟩) hS.2.2 dX6_flowAt_8
def f_X6_isSuch (now : Nat → Int32) (a1 : Int32) (a2 : Int32) (a3 : Int32) (a4 : Int32) (a5 : Int32) : Option (Bool) :=
  if zok a1 401 then (if (now (Int32.toNatClampNeg a1)) = a2 then (if zok (a1 + 1) 401 then (if (now (Int32.toNatClampNeg (a1 + 1))) = a3 then (if zok (a1 + 2) 401 then (if (now (Int32.toNatClampNeg (a1 + 2))) = a4 then (if zok (a1 + 3) 401 then (if (now (Int32.toNatClampNeg (a1 + 3))) = a5 then (some (true)) else (some (false))) else none) else (some (false))) else none) else (some (false))) else none) else (some (false))) else none
abbrev wk_X6_isSuch : List Cond := Cond.code yX6_isSuch cX6_isSuch 6 (some .boolean) :: WB
abbrev rm_X6_isSuch : Room := { frames := 0, cells := 0, slots := 0, locals := 0 }
set_option maxHeartbeats 4000000 in
set_option maxRecDepth 100000 in
theorem c_X6_isSuch (l : Launch) (D : va_G) (k : Nat → Nat) (o on op orr ot oh og od : Nat) (states : Int32) (bytes : Int32) (reading : Int32) (at_ : Int32) (wrongAt : Int32) (number : Int32) (hh : Int64) (now : Nat → Int32) (a1 : Int32) (a2 : Int32) (a3 : Int32) (a4 : Int32) (a5 : Int32) {res : Bool} (h : f_X6_isSuch now a1 a2 a3 a4 a5 = some res) : Ci l yX6_isSuch wk_X6_isSuch rm_X6_isSuch D k [.ref o, .int a1, .int a2, .int a3, .int a4, .int a5] [(o, .inr (6, [.ref on, .ref op, .int states, .ref orr, .ref ot, .int bytes, .ref oh, .ref og, .ref od, .int reading, .int at_, .int wrongAt, .int number, .long hh])), (on, .inl (k 0, 401, .inl now))] [(o, .inr (6, [.ref on, .ref op, .int states, .ref orr, .ref ot, .int bytes, .ref oh, .ref og, .ref od, .int reading, .int at_, .int wrongAt, .int number, .long hh])), (on, .inl (k 0, 401, .inl now))] (zB res) := by
  unfold Ci
  intro sz
  refine Met.ofW (cc := cX6_isSuch) (maxL := 6) (ret := (some .boolean)) (by decide) rfl ?_
  intro p e s m args below meth c s₁ B hml hv
  obtain ⟨rfl, hsz, hP, hK, hD0, hm⟩ := hv
  have hx := B.exec
  have hb := B.bytes
  have hr := B.returns
  have ht : ∀ w ∈ WB, w.before _ s = true := fun w hw => atoms_spec (ws := wk_X6_isSuch) B.pre w (List.mem_cons_of_mem _ hw)
  have hown : s.vm.findClass RX6 = some m.cls := findClass_of_methodNamed B.named
  have hlocks := B.notSynchronized
  subst hsz
  have hD := hD0.self (sz := s.heap.size)
  generalize hAe : va_A [(o, .inr (6, [.ref on, .ref op, .int states, .ref orr, .ref ot, .int bytes, .ref oh, .ref og, .ref od, .int reading, .int at_, .int wrongAt, .int number, .long hh])), (on, .inl (k 0, 401, .inl now))] s.heap.size = A at hD hm ⊢
  have hA : ∀ q : Nat, s.heap.size ≤ q → A q := fun q h => by rw [← hAe]; exact Or.inr h
  have hS : va_S A s.heap s.heap [] := va_S.rf
  have hl := lv_entry ([.ref o, .int a1, .int a2, .int a3, .int a4, .int a5]) (n := 6) (Nat.le_of_ble_eq_true rfl)
  rw [lg_entry_eq]
  generalize (lg_sl ([.ref o, .int a1, .int a2, .int a3, .int a4, .int a5]) ++ List.replicate (6 - (lg_sl ([.ref o, .int a1, .int a2, .int a3, .int a4, .int a5])).length) Slot.unset).toArray = ls at hl ⊢
  have hl : lv_has ls 6 [(0, .ref o), (1, .int a1), (2, .int a2), (3, .int a3), (4, .int a4), (5, .int a5)] := hl
  obtain ⟨H, hH⟩ : ∃ H, H = s.heap := ⟨_, rfl⟩
  rw [← hH] at hP
  have hS : va_S A s.heap H [] := by rw [hH]; exact hS
  suffices hgo : W p l e _ s m _ below meth c H [] 0 0 _ _ by rw [hH] at hgo; exact hgo
  unfold f_X6_isSuch at h
  refine lv_aload_n hx hb dX6_isSuch_0 rfl (lv_at hl 0 rfl) ?_
  refine va_get (D := D) (ci := 6) (v := .ref on) (C := RX6) (T := TX6) (N := 14) hx hb ht hiX6 hown hK hP 0 rfl rfl 0 (by decide) (ht _ wb765) (fun _ h9 => h9) rfl dX6_isSuch_1 ?_
  refine lv_iload_n hx hb dX6_isSuch_4 rfl (lv_at hl 1 rfl) ?_
  obtain ⟨hi1, h⟩ := zg h
  refine va_iald hx hb hK hP 1 0 rfl rfl hi1 dX6_isSuch_5 ?_
  refine lv_iload_n hx hb dX6_isSuch_6 rfl (lv_at hl 2 rfl) ?_
  refine lv_icmp_ne (tgt := 52) hx hb dX6_isSuch_7 (by decide) (fun c4 => ?_) (fun c4 => ?_)
  · have h := zf h c4
    refine lv_iconst (v := 0) hx hb dX6_isSuch_52 (by decide) ?_
    obtain rfl := Option.some.inj h
    exact W.zret (v := 0) (ty := .boolean) hx hb hr (rfl) (fun t ht9 hW => ⟨⟨_, (), rfl, rfl, zend ht9 hP⟩, hS.F ht9⟩) hS.2.2 dX6_isSuch_53
  · have h := zt h c4
    refine lv_aload_n hx hb dX6_isSuch_10 rfl (lv_at hl 0 rfl) ?_
    refine va_get (D := D) (ci := 6) (v := .ref on) (C := RX6) (T := TX6) (N := 14) hx hb ht hiX6 hown hK hP 0 rfl rfl 0 (by decide) (ht _ wb765) (fun _ h9 => h9) rfl dX6_isSuch_11 ?_
    refine lv_iload_n hx hb dX6_isSuch_14 rfl (lv_at hl 1 rfl) ?_
    refine lv_iconst (v := 1) hx hb dX6_isSuch_15 (by decide) ?_
    refine lv_iadd hx hb dX6_isSuch_16 ?_
    obtain ⟨hi2, h⟩ := zg h
    refine va_iald hx hb hK hP 1 0 rfl rfl hi2 dX6_isSuch_17 ?_
    refine lv_iload_n hx hb dX6_isSuch_18 rfl (lv_at hl 3 rfl) ?_
    refine lv_icmp_ne (tgt := 52) hx hb dX6_isSuch_19 (by decide) (fun c3 => ?_) (fun c3 => ?_)
    · have h := zf h c3
      refine lv_iconst (v := 0) hx hb dX6_isSuch_52 (by decide) ?_
      obtain rfl := Option.some.inj h
      exact W.zret (v := 0) (ty := .boolean) hx hb hr (rfl) (fun t ht9 hW => ⟨⟨_, (), rfl, rfl, zend ht9 hP⟩, hS.F ht9⟩) hS.2.2 dX6_isSuch_53
    · have h := zt h c3
      refine lv_aload_n hx hb dX6_isSuch_22 rfl (lv_at hl 0 rfl) ?_
      refine va_get (D := D) (ci := 6) (v := .ref on) (C := RX6) (T := TX6) (N := 14) hx hb ht hiX6 hown hK hP 0 rfl rfl 0 (by decide) (ht _ wb765) (fun _ h9 => h9) rfl dX6_isSuch_23 ?_
      refine lv_iload_n hx hb dX6_isSuch_26 rfl (lv_at hl 1 rfl) ?_
      refine lv_iconst (v := 2) hx hb dX6_isSuch_27 (by decide) ?_
      refine lv_iadd hx hb dX6_isSuch_28 ?_
      obtain ⟨hi3, h⟩ := zg h
      refine va_iald hx hb hK hP 1 0 rfl rfl hi3 dX6_isSuch_29 ?_
      refine lv_iload hx hb dX6_isSuch_30 (lv_at hl 4 rfl) ?_
      refine lv_icmp_ne (tgt := 52) hx hb dX6_isSuch_32 (by decide) (fun c2 => ?_) (fun c2 => ?_)
      · have h := zf h c2
        refine lv_iconst (v := 0) hx hb dX6_isSuch_52 (by decide) ?_
        obtain rfl := Option.some.inj h
        exact W.zret (v := 0) (ty := .boolean) hx hb hr (rfl) (fun t ht9 hW => ⟨⟨_, (), rfl, rfl, zend ht9 hP⟩, hS.F ht9⟩) hS.2.2 dX6_isSuch_53
      · have h := zt h c2
        refine lv_aload_n hx hb dX6_isSuch_35 rfl (lv_at hl 0 rfl) ?_
        refine va_get (D := D) (ci := 6) (v := .ref on) (C := RX6) (T := TX6) (N := 14) hx hb ht hiX6 hown hK hP 0 rfl rfl 0 (by decide) (ht _ wb765) (fun _ h9 => h9) rfl dX6_isSuch_36 ?_
        refine lv_iload_n hx hb dX6_isSuch_39 rfl (lv_at hl 1 rfl) ?_
        refine lv_iconst (v := 3) hx hb dX6_isSuch_40 (by decide) ?_
        refine lv_iadd hx hb dX6_isSuch_41 ?_
        obtain ⟨hi4, h⟩ := zg h
        refine va_iald hx hb hK hP 1 0 rfl rfl hi4 dX6_isSuch_42 ?_
        refine lv_iload hx hb dX6_isSuch_43 (lv_at hl 5 rfl) ?_
        refine lv_icmp_ne (tgt := 52) hx hb dX6_isSuch_45 (by decide) (fun c1 => ?_) (fun c1 => ?_)
        · have h := zf h c1
          refine lv_iconst (v := 0) hx hb dX6_isSuch_52 (by decide) ?_
          obtain rfl := Option.some.inj h
          exact W.zret (v := 0) (ty := .boolean) hx hb hr (rfl) (fun t ht9 hW => ⟨⟨_, (), rfl, rfl, zend ht9 hP⟩, hS.F ht9⟩) hS.2.2 dX6_isSuch_53
        · have h := zt h c1
          refine lv_iconst (v := 1) hx hb dX6_isSuch_48 (by decide) ?_
          refine lv_goto (tgt := 53) hx hb dX6_isSuch_49 (by decide) ?_
          obtain rfl := Option.some.inj h
          exact W.zret (v := 1) (ty := .boolean) hx hb hr (rfl) (fun t ht9 hW => ⟨⟨_, (), rfl, rfl, zend ht9 hP⟩, hS.F ht9⟩) hS.2.2 dX6_isSuch_53
def f_X6_flowOf_L6 (fu : Nat) (K : Int32 → Int32 → Option (Int32)) (v1 : Int32) (v2 : Int32) (v3 : Int32) (v4 : Int32) (now : Nat → Int32) : Nat → Int32 → Int32 → Option (Int32)
  | 0, _, _ => none
  | n + 1, v5, v6 =>
  if zok 298 401 then (if (now (Int32.toNatClampNeg 298)) ≤ v6 then (K v5 v6) else ((f_X6_flowAt  v6).bind fun r1 => (f_X6_isSuch now r1 v1 v2 v3 v4).bind fun r2 => if (zB r2) = 0 then ((f_X6_flowAt  v6).bind fun r3 => (f_X6_isSuch now r3 v2 v1 v3 v4).bind fun r4 => if (zB r4) = 0 then (f_X6_flowOf_L6 fu K v1 v2 v3 v4 now n v5 (v6 + 1)) else (if 0 ≤ v5 then (f_X6_flowOf_L6 fu K v1 v2 v3 v4 now n v5 (v6 + 1)) else (f_X6_flowOf_L6 fu K v1 v2 v3 v4 now n v6 (v6 + 1)))) else (if 0 ≤ v5 then (f_X6_flowOf_L6 fu K v1 v2 v3 v4 now n v5 (v6 + 1)) else (f_X6_flowOf_L6 fu K v1 v2 v3 v4 now n v6 (v6 + 1))))) else none
def f_X6_flowOf (fu : Nat) (now : Nat → Int32) (a1 : Int32) (a2 : Int32) (a3 : Int32) (a4 : Int32) : Option (Int32) :=
  f_X6_flowOf_L6 fu (fun (x1 : Int32) (x2 : Int32) => some (x1)) a1 a2 a3 a4 now fu (-1) 0
abbrev wk_X6_flowOf : List Cond := Cond.code yX6_flowOf cX6_flowOf 8 (some .int) :: WB
abbrev rm_X6_flowOf : Room := { frames := 1, cells := 0, slots := 0, locals := 25 }
set_option maxHeartbeats 4000000 in
set_option maxRecDepth 100000 in
theorem c_X6_flowOf (l : Launch) (D : va_G) (k : Nat → Nat) (o on op orr ot oh og od : Nat) (states : Int32) (bytes : Int32) (reading : Int32) (at_ : Int32) (wrongAt : Int32) (number : Int32) (hh : Int64) (now : Nat → Int32) (a1 : Int32) (a2 : Int32) (a3 : Int32) (a4 : Int32) (fu : Nat) {res : Int32} (h : f_X6_flowOf fu now a1 a2 a3 a4 = some res) : Ci l yX6_flowOf wk_X6_flowOf rm_X6_flowOf D k [.ref o, .int a1, .int a2, .int a3, .int a4] [(o, .inr (6, [.ref on, .ref op, .int states, .ref orr, .ref ot, .int bytes, .ref oh, .ref og, .ref od, .int reading, .int at_, .int wrongAt, .int number, .long hh])), (on, .inl (k 0, 401, .inl now))] [(o, .inr (6, [.ref on, .ref op, .int states, .ref orr, .ref ot, .int bytes, .ref oh, .ref og, .ref od, .int reading, .int at_, .int wrongAt, .int number, .long hh])), (on, .inl (k 0, 401, .inl now))] res := by
  unfold Ci
  intro sz
  refine Met.ofW (cc := cX6_flowOf) (maxL := 8) (ret := (some .int)) (by decide) rfl ?_
  intro p e s m args below meth c s₁ B hml hv
  obtain ⟨rfl, hsz, hP, hK, hD0, hm⟩ := hv
  have hx := B.exec
  have hb := B.bytes
  have hr := B.returns
  have ht : ∀ w ∈ WB, w.before _ s = true := fun w hw => atoms_spec (ws := wk_X6_flowOf) B.pre w (List.mem_cons_of_mem _ hw)
  have hown : s.vm.findClass RX6 = some m.cls := findClass_of_methodNamed B.named
  have hlocks := B.notSynchronized
  subst hsz
  have hD := hD0.self (sz := s.heap.size)
  generalize hAe : va_A [(o, .inr (6, [.ref on, .ref op, .int states, .ref orr, .ref ot, .int bytes, .ref oh, .ref og, .ref od, .int reading, .int at_, .int wrongAt, .int number, .long hh])), (on, .inl (k 0, 401, .inl now))] s.heap.size = A at hD hm ⊢
  have hA : ∀ q : Nat, s.heap.size ≤ q → A q := fun q h => by rw [← hAe]; exact Or.inr h
  have hS : va_S A s.heap s.heap [] := va_S.rf
  have hl := lv_entry ([.ref o, .int a1, .int a2, .int a3, .int a4]) (n := 8) (Nat.le_of_ble_eq_true rfl)
  rw [lg_entry_eq]
  generalize (lg_sl ([.ref o, .int a1, .int a2, .int a3, .int a4]) ++ List.replicate (8 - (lg_sl ([.ref o, .int a1, .int a2, .int a3, .int a4])).length) Slot.unset).toArray = ls at hl ⊢
  have hl : lv_has ls 8 [(0, .ref o), (1, .int a1), (2, .int a2), (3, .int a3), (4, .int a4)] := hl
  obtain ⟨H, hH⟩ : ∃ H, H = s.heap := ⟨_, rfl⟩
  rw [← hH] at hP
  have hS : va_S A s.heap H [] := by rw [hH]; exact hS
  suffices hgo : W p l e _ s m _ below meth c H [] 0 0 _ _ by rw [hH] at hgo; exact hgo
  unfold f_X6_flowOf at h
  refine lv_iconst (v := (-1)) hx hb dX6_flowOf_0 (by decide) ?_
  refine lv_istore (lv' := [(5, .int (-1)), (0, .ref o), (1, .int a1), (2, .int a2), (3, .int a3), (4, .int a4)]) hx hb dX6_flowOf_1 hl (by decide) rfl (fun ls hl => ?_)
  refine lv_iconst (v := 0) hx hb dX6_flowOf_3 (by decide) ?_
  refine lv_istore (lv' := [(6, .int 0), (5, .int (-1)), (0, .ref o), (1, .int a1), (2, .int a2), (3, .int a3), (4, .int a4)]) hx hb dX6_flowOf_4 hl (by decide) rfl (fun ls hl => ?_)
  have loop6 : ∀ (v1 : Int32) (v2 : Int32) (v3 : Int32) (v4 : Int32) (states : Int32) (bytes : Int32) (reading : Int32) (at_ : Int32) (wrongAt : Int32) (number : Int32) (hh : Int64) (now : Nat → Int32), ∀ (K : Int32 → Int32 → Option (Int32)), (∀ (v5 : Int32) (v6 : Int32), K v5 v6 = some res → ∀ (H : Heap) (locs : List Loc), va_P D vwCl [(o, .inr (6, [.ref on, .ref op, .int states, .ref orr, .ref ot, .int bytes, .ref oh, .ref og, .ref od, .int reading, .int at_, .int wrongAt, .int number, .long hh])), (on, .inl (k 0, 401, .inl now))] H → va_D A [(o, .inr (6, [.ref on, .ref op, .int states, .ref orr, .ref ot, .int bytes, .ref oh, .ref og, .ref od, .int reading, .int at_, .int wrongAt, .int number, .long hh])), (on, .inl (k 0, 401, .inl now))] → va_S A s.heap H locs → ∀ ls : Array Slot, lv_has ls 8 [(0, .ref o), (1, .int v1), (2, .int v2), (3, .int v3), (4, .int v4), (5, .int v5), (6, .int v6)] → W p l e (headSpec wk_X6_flowOf rm_X6_flowOf).room s m ([.ref o, .int a1, .int a2, .int a3, .int a4] : List Value).toArray below meth c H locs 0 0 (MQ below (va_Qi (fun xq9 (_ : Unit) => xq9 = res) (fun _ tq9 => va_P D vwCl [(o, .inr (6, [.ref on, .ref op, .int states, .ref orr, .ref ot, .int bytes, .ref oh, .ref og, .ref od, .int reading, .int at_, .int wrongAt, .int number, .long hh])), (on, .inl (k 0, 401, .inl now))] tq9.heap) A) ([.ref o, .int a1, .int a2, .int a3, .int a4] : List Value).toArray s 0 0 A) (F0 m 87 ls [])) → ∀ (n : Nat) (v5 : Int32) (v6 : Int32), f_X6_flowOf_L6 fu K v1 v2 v3 v4 now n v5 v6 = some res → ∀ (H : Heap) (locs : List Loc), va_P D vwCl [(o, .inr (6, [.ref on, .ref op, .int states, .ref orr, .ref ot, .int bytes, .ref oh, .ref og, .ref od, .int reading, .int at_, .int wrongAt, .int number, .long hh])), (on, .inl (k 0, 401, .inl now))] H → va_D A [(o, .inr (6, [.ref on, .ref op, .int states, .ref orr, .ref ot, .int bytes, .ref oh, .ref og, .ref od, .int reading, .int at_, .int wrongAt, .int number, .long hh])), (on, .inl (k 0, 401, .inl now))] → va_S A s.heap H locs → ∀ ls : Array Slot, lv_has ls 8 [(0, .ref o), (1, .int v1), (2, .int v2), (3, .int v3), (4, .int v4), (5, .int v5), (6, .int v6)] → W p l e (headSpec wk_X6_flowOf rm_X6_flowOf).room s m ([.ref o, .int a1, .int a2, .int a3, .int a4] : List Value).toArray below meth c H locs 0 0 (MQ below (va_Qi (fun xq9 (_ : Unit) => xq9 = res) (fun _ tq9 => va_P D vwCl [(o, .inr (6, [.ref on, .ref op, .int states, .ref orr, .ref ot, .int bytes, .ref oh, .ref og, .ref od, .int reading, .int at_, .int wrongAt, .int number, .long hh])), (on, .inl (k 0, 401, .inl now))] tq9.heap) A) ([.ref o, .int a1, .int a2, .int a3, .int a4] : List Value).toArray s 0 0 A) (F0 m 6 ls []) := by
    intro v1 v2 v3 v4 states bytes reading at_ wrongAt number hh now K hKK n
    induction n with
    | zero =>
      intro v5 v6 h
      rw [f_X6_flowOf_L6] at h
      cases h
    | succ n ih =>
      intro v5 v6 h H locs hP hD hS ls hl
      rw [f_X6_flowOf_L6] at h
      refine lv_iload hx hb dX6_flowOf_6 (lv_at hl 6 rfl) ?_
      refine lv_aload_n hx hb dX6_flowOf_8 rfl (lv_at hl 0 rfl) ?_
      refine va_get (D := D) (ci := 6) (v := .ref on) (C := RX6) (T := TX6) (N := 14) hx hb ht hiX6 hown hK hP 0 rfl rfl 0 (by decide) (ht _ wb765) (fun _ h9 => h9) rfl dX6_flowOf_9 ?_
      refine lv_sipush (v := 298) hx hb dX6_flowOf_12 (by decide) ?_
      obtain ⟨hi1, h⟩ := zg h
      refine va_iald hx hb hK hP 1 0 rfl rfl hi1 dX6_flowOf_15 ?_
      refine lv_icmp_ge (tgt := 87) hx hb dX6_flowOf_16 (by decide) (fun c5 => ?_) (fun c5 => ?_)
      · have h := zt h c5
        exact hKK _ _ h _ _ hP hD hS _ (lv_sub hl [0, 1, 2, 3, 4, 5, 6] rfl)
      · have h := zf h c5
        refine lv_aload_n hx hb dX6_flowOf_19 rfl (lv_at hl 0 rfl) ?_
        refine lv_aload_n hx hb dX6_flowOf_20 rfl (lv_at hl 0 rfl) ?_
        refine lv_iload hx hb dX6_flowOf_21 (lv_at hl 6 rfl) ?_
        obtain ⟨r1, h1, h⟩ := zb h
        refine zi (zrV (C := RX6) (T := TX6) (N := 14) (As := [.int v6]) (rest := [.ref o]) ⟨hx, hb, hml, hown, ht⟩ (c_X6_flowAt l D k o on op orr ot oh og od states bytes reading at_ wrongAt number hh v6 h1 _) (cwV 1 ht (gdV wb987 wb989 wb48 wb80 wb990) rfl rfl rfl (by decide +kernel) ⟨Nat.le_of_ble_eq_true rfl, Nat.le_of_ble_eq_true rfl⟩) hK hP hD hS hA hm [0] rfl rfl 0 6 rfl rfl rfl hl.1 rfl (Nat.le_of_ble_eq_true rfl) dX6_flowOf_23 ⟨Nat.le_refl _, Nat.le_refl _⟩) hP hD hS hA [0] rfl rfl (fun H locs hP hD hS => ?_)
        have hP : va_P D vwCl [(o, .inr (6, [.ref on, .ref op, .int states, .ref orr, .ref ot, .int bytes, .ref oh, .ref og, .ref od, .int reading, .int at_, .int wrongAt, .int number, .long hh])), (on, .inl (k 0, 401, .inl now))] H := hP
        have hD : va_D A [(o, .inr (6, [.ref on, .ref op, .int states, .ref orr, .ref ot, .int bytes, .ref oh, .ref og, .ref od, .int reading, .int at_, .int wrongAt, .int number, .long hh])), (on, .inl (k 0, 401, .inl now))] := hD
        refine lv_iload_n hx hb dX6_flowOf_26 rfl (lv_at hl 1 rfl) ?_
        refine lv_iload_n hx hb dX6_flowOf_27 rfl (lv_at hl 2 rfl) ?_
        refine lv_iload_n hx hb dX6_flowOf_28 rfl (lv_at hl 3 rfl) ?_
        refine lv_iload hx hb dX6_flowOf_29 (lv_at hl 4 rfl) ?_
        obtain ⟨r2, h2, h⟩ := zb h
        refine zi (zrV (C := RX6) (T := TX6) (N := 14) (As := [.int r1, .int v1, .int v2, .int v3, .int v4]) (rest := []) ⟨hx, hb, hml, hown, ht⟩ (c_X6_isSuch l D k o on op orr ot oh og od states bytes reading at_ wrongAt number hh now r1 v1 v2 v3 v4 h2 _) (cwV 5 ht (gdV wb991 wb993 wb49 wb80 wb994) rfl rfl rfl (by decide +kernel) ⟨Nat.le_of_ble_eq_true rfl, Nat.le_of_ble_eq_true rfl⟩) hK hP hD hS hA hm [0, 1] rfl rfl 0 6 rfl rfl rfl hl.1 rfl (Nat.le_of_ble_eq_true rfl) dX6_flowOf_31 ⟨Nat.le_refl _, Nat.le_refl _⟩) hP hD hS hA [0, 1] rfl rfl (fun H locs hP hD hS => ?_)
        have hP : va_P D vwCl [(o, .inr (6, [.ref on, .ref op, .int states, .ref orr, .ref ot, .int bytes, .ref oh, .ref og, .ref od, .int reading, .int at_, .int wrongAt, .int number, .long hh])), (on, .inl (k 0, 401, .inl now))] H := hP
        have hD : va_D A [(o, .inr (6, [.ref on, .ref op, .int states, .ref orr, .ref ot, .int bytes, .ref oh, .ref og, .ref od, .int reading, .int at_, .int wrongAt, .int number, .long hh])), (on, .inl (k 0, 401, .inl now))] := hD
        refine lv_if_ne (tgt := 55) hx hb dX6_flowOf_34 (by decide) (fun c4 => ?_) (fun c4 => ?_)
        · have h := zf h c4
          refine lv_iconst (v := 1) hx hb dX6_flowOf_55 (by decide) ?_
          refine lv_goto (tgt := 60) hx hb dX6_flowOf_56 (by decide) ?_
          refine lv_istore (lv' := [(7, .int 1), (0, .ref o), (1, .int v1), (2, .int v2), (3, .int v3), (4, .int v4), (5, .int v5), (6, .int v6)]) hx hb dX6_flowOf_60 hl (by decide) rfl (fun ls hl => ?_)
          refine lv_iload hx hb dX6_flowOf_62 (lv_at hl 0 rfl) ?_
          refine lv_if_eq (tgt := 77) hx hb dX6_flowOf_64 (by decide) (fun c9 => absurd c9 (by decide)) (fun _ => ?_)
          refine lv_iload hx hb dX6_flowOf_67 (lv_at hl 6 rfl) ?_
          refine lv_if_ge (tgt := 77) hx hb dX6_flowOf_69 (by decide) (fun c1 => ?_) (fun c1 => ?_)
          · have h := zt h c1
            refine lv_iload hx hb dX6_flowOf_77 (lv_at hl 6 rfl) ?_
            refine lv_istore (lv' := [(5, .int v5), (7, .int 1), (0, .ref o), (1, .int v1), (2, .int v2), (3, .int v3), (4, .int v4), (6, .int v6)]) hx hb dX6_flowOf_79 hl (by decide) rfl (fun ls hl => ?_)
            refine lv_iinc (v := v6 + 1) (lv' := [(6, .int (v6 + 1)), (5, .int v5), (7, .int 1), (0, .ref o), (1, .int v1), (2, .int v2), (3, .int v3), (4, .int v4)]) hx hb dX6_flowOf_81 hl (k := 7) rfl rfl (by decide) rfl (fun ls hl => ?_)
            refine lv_goto (tgt := 6) hx hb dX6_flowOf_84 (by decide) ?_
            exact ih _ _ h _ _ hP hD hS _ (lv_sub hl [3, 4, 5, 6, 7, 1, 0] rfl)
          · have h := zf h c1
            refine lv_iload hx hb dX6_flowOf_72 (lv_at hl 7 rfl) ?_
            refine lv_goto (tgt := 79) hx hb dX6_flowOf_74 (by decide) ?_
            refine lv_istore (lv' := [(5, .int v6), (7, .int 1), (0, .ref o), (1, .int v1), (2, .int v2), (3, .int v3), (4, .int v4), (6, .int v6)]) hx hb dX6_flowOf_79 hl (by decide) rfl (fun ls hl => ?_)
            refine lv_iinc (v := v6 + 1) (lv' := [(6, .int (v6 + 1)), (5, .int v6), (7, .int 1), (0, .ref o), (1, .int v1), (2, .int v2), (3, .int v3), (4, .int v4)]) hx hb dX6_flowOf_81 hl (k := 7) rfl rfl (by decide) rfl (fun ls hl => ?_)
            refine lv_goto (tgt := 6) hx hb dX6_flowOf_84 (by decide) ?_
            exact ih _ _ h _ _ hP hD hS _ (lv_sub hl [3, 4, 5, 6, 7, 1, 0] rfl)
        · have h := zt h c4
          refine lv_aload_n hx hb dX6_flowOf_37 rfl (lv_at hl 0 rfl) ?_
          refine lv_aload_n hx hb dX6_flowOf_38 rfl (lv_at hl 0 rfl) ?_
          refine lv_iload hx hb dX6_flowOf_39 (lv_at hl 6 rfl) ?_
          obtain ⟨r3, h3, h⟩ := zb h
          refine zi (zrV (C := RX6) (T := TX6) (N := 14) (As := [.int v6]) (rest := [.ref o]) ⟨hx, hb, hml, hown, ht⟩ (c_X6_flowAt l D k o on op orr ot oh og od states bytes reading at_ wrongAt number hh v6 h3 _) (cwV 1 ht (gdV wb987 wb989 wb48 wb80 wb990) rfl rfl rfl (by decide +kernel) ⟨Nat.le_of_ble_eq_true rfl, Nat.le_of_ble_eq_true rfl⟩) hK hP hD hS hA hm [0] rfl rfl 0 6 rfl rfl rfl hl.1 rfl (Nat.le_of_ble_eq_true rfl) dX6_flowOf_41 ⟨Nat.le_refl _, Nat.le_refl _⟩) hP hD hS hA [0] rfl rfl (fun H locs hP hD hS => ?_)
          have hP : va_P D vwCl [(o, .inr (6, [.ref on, .ref op, .int states, .ref orr, .ref ot, .int bytes, .ref oh, .ref og, .ref od, .int reading, .int at_, .int wrongAt, .int number, .long hh])), (on, .inl (k 0, 401, .inl now))] H := hP
          have hD : va_D A [(o, .inr (6, [.ref on, .ref op, .int states, .ref orr, .ref ot, .int bytes, .ref oh, .ref og, .ref od, .int reading, .int at_, .int wrongAt, .int number, .long hh])), (on, .inl (k 0, 401, .inl now))] := hD
          refine lv_iload_n hx hb dX6_flowOf_44 rfl (lv_at hl 2 rfl) ?_
          refine lv_iload_n hx hb dX6_flowOf_45 rfl (lv_at hl 1 rfl) ?_
          refine lv_iload_n hx hb dX6_flowOf_46 rfl (lv_at hl 3 rfl) ?_
          refine lv_iload hx hb dX6_flowOf_47 (lv_at hl 4 rfl) ?_
          obtain ⟨r4, h4, h⟩ := zb h
          refine zi (zrV (C := RX6) (T := TX6) (N := 14) (As := [.int r3, .int v2, .int v1, .int v3, .int v4]) (rest := []) ⟨hx, hb, hml, hown, ht⟩ (c_X6_isSuch l D k o on op orr ot oh og od states bytes reading at_ wrongAt number hh now r3 v2 v1 v3 v4 h4 _) (cwV 5 ht (gdV wb991 wb993 wb49 wb80 wb994) rfl rfl rfl (by decide +kernel) ⟨Nat.le_of_ble_eq_true rfl, Nat.le_of_ble_eq_true rfl⟩) hK hP hD hS hA hm [0, 1] rfl rfl 0 6 rfl rfl rfl hl.1 rfl (Nat.le_of_ble_eq_true rfl) dX6_flowOf_49 ⟨Nat.le_refl _, Nat.le_refl _⟩) hP hD hS hA [0, 1] rfl rfl (fun H locs hP hD hS => ?_)
          have hP : va_P D vwCl [(o, .inr (6, [.ref on, .ref op, .int states, .ref orr, .ref ot, .int bytes, .ref oh, .ref og, .ref od, .int reading, .int at_, .int wrongAt, .int number, .long hh])), (on, .inl (k 0, 401, .inl now))] H := hP
          have hD : va_D A [(o, .inr (6, [.ref on, .ref op, .int states, .ref orr, .ref ot, .int bytes, .ref oh, .ref og, .ref od, .int reading, .int at_, .int wrongAt, .int number, .long hh])), (on, .inl (k 0, 401, .inl now))] := hD
          refine lv_if_eq (tgt := 59) hx hb dX6_flowOf_52 (by decide) (fun c3 => ?_) (fun c3 => ?_)
          · have h := zt h c3
            refine lv_iconst (v := 0) hx hb dX6_flowOf_59 (by decide) ?_
            refine lv_istore (lv' := [(7, .int 0), (0, .ref o), (1, .int v1), (2, .int v2), (3, .int v3), (4, .int v4), (5, .int v5), (6, .int v6)]) hx hb dX6_flowOf_60 hl (by decide) rfl (fun ls hl => ?_)
            refine lv_iload hx hb dX6_flowOf_62 (lv_at hl 0 rfl) ?_
            refine lv_if_eq (tgt := 77) hx hb dX6_flowOf_64 (by decide) (fun _ => ?_) (fun c9 => absurd (by decide) c9)
            refine lv_iload hx hb dX6_flowOf_77 (lv_at hl 6 rfl) ?_
            refine lv_istore (lv' := [(5, .int v5), (7, .int 0), (0, .ref o), (1, .int v1), (2, .int v2), (3, .int v3), (4, .int v4), (6, .int v6)]) hx hb dX6_flowOf_79 hl (by decide) rfl (fun ls hl => ?_)
            refine lv_iinc (v := v6 + 1) (lv' := [(6, .int (v6 + 1)), (5, .int v5), (7, .int 0), (0, .ref o), (1, .int v1), (2, .int v2), (3, .int v3), (4, .int v4)]) hx hb dX6_flowOf_81 hl (k := 7) rfl rfl (by decide) rfl (fun ls hl => ?_)
            refine lv_goto (tgt := 6) hx hb dX6_flowOf_84 (by decide) ?_
            exact ih _ _ h _ _ hP hD hS _ (lv_sub hl [3, 4, 5, 6, 7, 1, 0] rfl)
          · have h := zf h c3
            refine lv_iconst (v := 1) hx hb dX6_flowOf_55 (by decide) ?_
            refine lv_goto (tgt := 60) hx hb dX6_flowOf_56 (by decide) ?_
            refine lv_istore (lv' := [(7, .int 1), (0, .ref o), (1, .int v1), (2, .int v2), (3, .int v3), (4, .int v4), (5, .int v5), (6, .int v6)]) hx hb dX6_flowOf_60 hl (by decide) rfl (fun ls hl => ?_)
            refine lv_iload hx hb dX6_flowOf_62 (lv_at hl 0 rfl) ?_
            refine lv_if_eq (tgt := 77) hx hb dX6_flowOf_64 (by decide) (fun c9 => absurd c9 (by decide)) (fun _ => ?_)
            refine lv_iload hx hb dX6_flowOf_67 (lv_at hl 6 rfl) ?_
            refine lv_if_ge (tgt := 77) hx hb dX6_flowOf_69 (by decide) (fun c2 => ?_) (fun c2 => ?_)
            · have h := zt h c2
              refine lv_iload hx hb dX6_flowOf_77 (lv_at hl 6 rfl) ?_
              refine lv_istore (lv' := [(5, .int v5), (7, .int 1), (0, .ref o), (1, .int v1), (2, .int v2), (3, .int v3), (4, .int v4), (6, .int v6)]) hx hb dX6_flowOf_79 hl (by decide) rfl (fun ls hl => ?_)
              refine lv_iinc (v := v6 + 1) (lv' := [(6, .int (v6 + 1)), (5, .int v5), (7, .int 1), (0, .ref o), (1, .int v1), (2, .int v2), (3, .int v3), (4, .int v4)]) hx hb dX6_flowOf_81 hl (k := 7) rfl rfl (by decide) rfl (fun ls hl => ?_)
              refine lv_goto (tgt := 6) hx hb dX6_flowOf_84 (by decide) ?_
              exact ih _ _ h _ _ hP hD hS _ (lv_sub hl [3, 4, 5, 6, 7, 1, 0] rfl)
            · have h := zf h c2
              refine lv_iload hx hb dX6_flowOf_72 (lv_at hl 7 rfl) ?_
              refine lv_goto (tgt := 79) hx hb dX6_flowOf_74 (by decide) ?_
              refine lv_istore (lv' := [(5, .int v6), (7, .int 1), (0, .ref o), (1, .int v1), (2, .int v2), (3, .int v3), (4, .int v4), (6, .int v6)]) hx hb dX6_flowOf_79 hl (by decide) rfl (fun ls hl => ?_)
              refine lv_iinc (v := v6 + 1) (lv' := [(6, .int (v6 + 1)), (5, .int v6), (7, .int 1), (0, .ref o), (1, .int v1), (2, .int v2), (3, .int v3), (4, .int v4)]) hx hb dX6_flowOf_81 hl (k := 7) rfl rfl (by decide) rfl (fun ls hl => ?_)
              refine lv_goto (tgt := 6) hx hb dX6_flowOf_84 (by decide) ?_
              exact ih _ _ h _ _ hP hD hS _ (lv_sub hl [3, 4, 5, 6, 7, 1, 0] rfl)
  refine loop6 _ _ _ _ _ _ _ _ _ _ _ _ _ ?_ fu _ _ h _ _ hP hD hS _ (lv_sub hl [2, 3, 4, 5, 6, 1, 0] rfl)
  intro x1 x2 h H locs hP hD hS ls hl
  try dsimp only at h
  have hP : va_P D vwCl [(o, .inr (6, [.ref on, .ref op, .int states, .ref orr, .ref ot, .int bytes, .ref oh, .ref og, .ref od, .int reading, .int at_, .int wrongAt, .int number, .long hh])), (on, .inl (k 0, 401, .inl now))] H := hP
  have hD : va_D A [(o, .inr (6, [.ref on, .ref op, .int states, .ref orr, .ref ot, .int bytes, .ref oh, .ref og, .ref od, .int reading, .int at_, .int wrongAt, .int number, .long hh])), (on, .inl (k 0, 401, .inl now))] := hD
  have hl : lv_has ls 8 [(0, .ref o), (1, .int a1), (2, .int a2), (3, .int a3), (4, .int a4), (5, .int x1), (6, .int x2)] := hl
  refine lv_iload hx hb dX6_flowOf_87 (lv_at hl 5 rfl) ?_
  obtain rfl := Option.some.inj h
  exact W.iret (v := x1) hx hb hr (fun t ht9 hW => ⟨⟨_, (), rfl, rfl, zend ht9 hP⟩, hS.F ht9⟩) hS.2.2 dX6_flowOf_89
def f_X6_flowGoes_L18 (fu : Nat) (K : Int32 → (Nat → Int32) → Option ((Nat → Int32)))  : Nat → Int32 → (Nat → Int32) → Option ((Nat → Int32))
  | 0, _, _ => none
  | n + 1, v2, now =>
  if zok 298 401 then ((f_X6_flowAt  (now (Int32.toNatClampNeg 298))).bind fun r2 => if r2 ≤ v2 then (K v2 now) else (if zok (v2 + 7) 401 then (if zok v2 401 then (f_X6_flowGoes_L18 fu K  n (v2 + 1) (upd now (Int32.toNatClampNeg v2) (now (Int32.toNatClampNeg (v2 + 7))))) else none) else none)) else none
def f_X6_flowGoes (fu : Nat) (now : Nat → Int32) (a1 : Int32) : Option ((Nat → Int32)) :=
  if zok 298 401 then (if zok 298 401 then ((f_X6_flowAt  a1).bind fun r1 => f_X6_flowGoes_L18 fu (fun (x1 : Int32) (x2 : Nat → Int32) => some (x2))  fu r1 (upd now (Int32.toNatClampNeg 298) ((now (Int32.toNatClampNeg 298)) - 1))) else none) else none
abbrev wk_X6_flowGoes : List Cond := Cond.code yX6_flowGoes cX6_flowGoes 3 none :: WB
abbrev rm_X6_flowGoes : Room := { frames := 1, cells := 0, slots := 0, locals := 21 }
set_option maxHeartbeats 4000000 in
set_option maxRecDepth 100000 in
theorem c_X6_flowGoes (l : Launch) (D : va_G) (k : Nat → Nat) (o on op orr ot oh og od : Nat) (states : Int32) (bytes : Int32) (reading : Int32) (at_ : Int32) (wrongAt : Int32) (number : Int32) (hh : Int64) (now : Nat → Int32) (a1 : Int32) (fu : Nat) {res : (Nat → Int32)} (h : f_X6_flowGoes fu now a1 = some res) : Cv l yX6_flowGoes wk_X6_flowGoes rm_X6_flowGoes D k [.ref o, .int a1] [(o, .inr (6, [.ref on, .ref op, .int states, .ref orr, .ref ot, .int bytes, .ref oh, .ref og, .ref od, .int reading, .int at_, .int wrongAt, .int number, .long hh])), (on, .inl (k 0, 401, .inl now))] [(o, .inr (6, [.ref on, .ref op, .int states, .ref orr, .ref ot, .int bytes, .ref oh, .ref og, .ref od, .int reading, .int at_, .int wrongAt, .int number, .long hh])), (on, .inl (k 0, 401, .inl res))] := by
  unfold Cv
  intro sz
  refine Met.ofW (cc := cX6_flowGoes) (maxL := 3) (ret := none) (by decide) rfl ?_
  intro p e s m args below meth c s₁ B hml hv
  obtain ⟨rfl, hsz, hP, hK, hD0, hm⟩ := hv
  have hx := B.exec
  have hb := B.bytes
  have hr := B.returns
  have ht : ∀ w ∈ WB, w.before _ s = true := fun w hw => atoms_spec (ws := wk_X6_flowGoes) B.pre w (List.mem_cons_of_mem _ hw)
  have hown : s.vm.findClass RX6 = some m.cls := findClass_of_methodNamed B.named
  have hlocks := B.notSynchronized
  subst hsz
  have hD := hD0.self (sz := s.heap.size)
  generalize hAe : va_A [(o, .inr (6, [.ref on, .ref op, .int states, .ref orr, .ref ot, .int bytes, .ref oh, .ref og, .ref od, .int reading, .int at_, .int wrongAt, .int number, .long hh])), (on, .inl (k 0, 401, .inl now))] s.heap.size = A at hD hm ⊢
  have hA : ∀ q : Nat, s.heap.size ≤ q → A q := fun q h => by rw [← hAe]; exact Or.inr h
  have hS : va_S A s.heap s.heap [] := va_S.rf
  have hl := lv_entry ([.ref o, .int a1]) (n := 3) (Nat.le_of_ble_eq_true rfl)
  rw [lg_entry_eq]
  generalize (lg_sl ([.ref o, .int a1]) ++ List.replicate (3 - (lg_sl ([.ref o, .int a1])).length) Slot.unset).toArray = ls at hl ⊢
  have hl : lv_has ls 3 [(0, .ref o), (1, .int a1)] := hl
  obtain ⟨H, hH⟩ : ∃ H, H = s.heap := ⟨_, rfl⟩
  rw [← hH] at hP
  have hS : va_S A s.heap H [] := by rw [hH]; exact hS
  suffices hgo : W p l e _ s m _ below meth c H [] 0 0 _ _ by rw [hH] at hgo; exact hgo
  unfold f_X6_flowGoes at h
  refine lv_aload_n hx hb dX6_flowGoes_0 rfl (lv_at hl 0 rfl) ?_
  refine va_get (D := D) (ci := 6) (v := .ref on) (C := RX6) (T := TX6) (N := 14) hx hb ht hiX6 hown hK hP 0 rfl rfl 0 (by decide) (ht _ wb765) (fun _ h9 => h9) rfl dX6_flowGoes_1 ?_
  refine lv_sipush (v := 298) hx hb dX6_flowGoes_4 (by decide) ?_
  refine lv_dup2_11 hx hb dX6_flowGoes_7 rfl rfl ?_
  obtain ⟨hi1, h⟩ := zg h
  refine va_iald hx hb hK hP 1 0 rfl rfl hi1 dX6_flowGoes_8 ?_
  refine lv_iconst (v := 1) hx hb dX6_flowGoes_9 (by decide) ?_
  refine lv_isub hx hb dX6_flowGoes_10 ?_
  obtain ⟨hi2, h⟩ := zg h
  refine va_iast hx hb hK hP hD hS 1 0 rfl rfl hi2 dX6_flowGoes_11 (fun H locs hP hD hS => ?_)
  have hP : va_P D vwCl [(o, .inr (6, [.ref on, .ref op, .int states, .ref orr, .ref ot, .int bytes, .ref oh, .ref og, .ref od, .int reading, .int at_, .int wrongAt, .int number, .long hh])), (on, .inl (k 0, 401, .inl (upd now (Int32.toNatClampNeg 298) ((now (Int32.toNatClampNeg 298)) - 1))))] H := hP
  have hD : va_D A [(o, .inr (6, [.ref on, .ref op, .int states, .ref orr, .ref ot, .int bytes, .ref oh, .ref og, .ref od, .int reading, .int at_, .int wrongAt, .int number, .long hh])), (on, .inl (k 0, 401, .inl (upd now (Int32.toNatClampNeg 298) ((now (Int32.toNatClampNeg 298)) - 1))))] := hD
  refine lv_aload_n hx hb dX6_flowGoes_12 rfl (lv_at hl 0 rfl) ?_
  refine lv_iload_n hx hb dX6_flowGoes_13 rfl (lv_at hl 1 rfl) ?_
  obtain ⟨r1, h1, h⟩ := zb h
  refine zi (zrV (C := RX6) (T := TX6) (N := 14) (As := [.int a1]) (rest := []) ⟨hx, hb, hml, hown, ht⟩ (c_X6_flowAt l D k o on op orr ot oh og od states bytes reading at_ wrongAt number hh a1 h1 _) (cwV 1 ht (gdV wb987 wb989 wb48 wb80 wb990) rfl rfl rfl (by decide +kernel) ⟨Nat.le_of_ble_eq_true rfl, Nat.le_of_ble_eq_true rfl⟩) hK hP hD hS hA hm [0] rfl rfl 0 6 rfl rfl rfl hl.1 rfl (Nat.le_of_ble_eq_true rfl) dX6_flowGoes_14 ⟨Nat.le_refl _, Nat.le_refl _⟩) hP hD hS hA [0] rfl rfl (fun H locs hP hD hS => ?_)
  have hP : va_P D vwCl [(o, .inr (6, [.ref on, .ref op, .int states, .ref orr, .ref ot, .int bytes, .ref oh, .ref og, .ref od, .int reading, .int at_, .int wrongAt, .int number, .long hh])), (on, .inl (k 0, 401, .inl (upd now (Int32.toNatClampNeg 298) ((now (Int32.toNatClampNeg 298)) - 1))))] H := hP
  have hD : va_D A [(o, .inr (6, [.ref on, .ref op, .int states, .ref orr, .ref ot, .int bytes, .ref oh, .ref og, .ref od, .int reading, .int at_, .int wrongAt, .int number, .long hh])), (on, .inl (k 0, 401, .inl (upd now (Int32.toNatClampNeg 298) ((now (Int32.toNatClampNeg 298)) - 1))))] := hD
  refine lv_istore_n (lv' := [(2, .int r1), (0, .ref o), (1, .int a1)]) hx hb dX6_flowGoes_17 rfl hl (by decide) rfl (fun ls hl => ?_)
  have loop18 : ∀ (v1 : Int32) (states : Int32) (bytes : Int32) (reading : Int32) (at_ : Int32) (wrongAt : Int32) (number : Int32) (hh : Int64), ∀ (K : Int32 → (Nat → Int32) → Option ((Nat → Int32))), (∀ (v2 : Int32) (now : Nat → Int32), K v2 now = some res → ∀ (H : Heap) (locs : List Loc), va_P D vwCl [(o, .inr (6, [.ref on, .ref op, .int states, .ref orr, .ref ot, .int bytes, .ref oh, .ref og, .ref od, .int reading, .int at_, .int wrongAt, .int number, .long hh])), (on, .inl (k 0, 401, .inl now))] H → va_D A [(o, .inr (6, [.ref on, .ref op, .int states, .ref orr, .ref ot, .int bytes, .ref oh, .ref og, .ref od, .int reading, .int at_, .int wrongAt, .int number, .long hh])), (on, .inl (k 0, 401, .inl now))] → va_S A s.heap H locs → ∀ ls : Array Slot, lv_has ls 3 [(0, .ref o), (1, .int v1), (2, .int v2)] → W p l e (headSpec wk_X6_flowGoes rm_X6_flowGoes).room s m ([.ref o, .int a1] : List Value).toArray below meth c H locs 0 0 (MQ below (va_Qv (fun (_ : Unit) => True) (fun _ tq9 => va_P D vwCl [(o, .inr (6, [.ref on, .ref op, .int states, .ref orr, .ref ot, .int bytes, .ref oh, .ref og, .ref od, .int reading, .int at_, .int wrongAt, .int number, .long hh])), (on, .inl (k 0, 401, .inl res))] tq9.heap) A) ([.ref o, .int a1] : List Value).toArray s 0 0 A) (F0 m 55 ls [])) → ∀ (n : Nat) (v2 : Int32) (now : Nat → Int32), f_X6_flowGoes_L18 fu K  n v2 now = some res → ∀ (H : Heap) (locs : List Loc), va_P D vwCl [(o, .inr (6, [.ref on, .ref op, .int states, .ref orr, .ref ot, .int bytes, .ref oh, .ref og, .ref od, .int reading, .int at_, .int wrongAt, .int number, .long hh])), (on, .inl (k 0, 401, .inl now))] H → va_D A [(o, .inr (6, [.ref on, .ref op, .int states, .ref orr, .ref ot, .int bytes, .ref oh, .ref og, .ref od, .int reading, .int at_, .int wrongAt, .int number, .long hh])), (on, .inl (k 0, 401, .inl now))] → va_S A s.heap H locs → ∀ ls : Array Slot, lv_has ls 3 [(0, .ref o), (1, .int v1), (2, .int v2)] → W p l e (headSpec wk_X6_flowGoes rm_X6_flowGoes).room s m ([.ref o, .int a1] : List Value).toArray below meth c H locs 0 0 (MQ below (va_Qv (fun (_ : Unit) => True) (fun _ tq9 => va_P D vwCl [(o, .inr (6, [.ref on, .ref op, .int states, .ref orr, .ref ot, .int bytes, .ref oh, .ref og, .ref od, .int reading, .int at_, .int wrongAt, .int number, .long hh])), (on, .inl (k 0, 401, .inl res))] tq9.heap) A) ([.ref o, .int a1] : List Value).toArray s 0 0 A) (F0 m 18 ls []) := by
    intro v1 states bytes reading at_ wrongAt number hh K hKK n
    induction n with
    | zero =>
      intro v2 now h
      rw [f_X6_flowGoes_L18] at h
      cases h
    | succ n ih =>
      intro v2 now h H locs hP hD hS ls hl
      rw [f_X6_flowGoes_L18] at h
      refine lv_iload_n hx hb dX6_flowGoes_18 rfl (lv_at hl 2 rfl) ?_
      refine lv_aload_n hx hb dX6_flowGoes_19 rfl (lv_at hl 0 rfl) ?_
      refine lv_aload_n hx hb dX6_flowGoes_20 rfl (lv_at hl 0 rfl) ?_
      refine va_get (D := D) (ci := 6) (v := .ref on) (C := RX6) (T := TX6) (N := 14) hx hb ht hiX6 hown hK hP 0 rfl rfl 0 (by decide) (ht _ wb765) (fun _ h9 => h9) rfl dX6_flowGoes_21 ?_
      refine lv_sipush (v := 298) hx hb dX6_flowGoes_24 (by decide) ?_
      obtain ⟨hi3, h⟩ := zg h
      refine va_iald hx hb hK hP 1 0 rfl rfl hi3 dX6_flowGoes_27 ?_
      obtain ⟨r2, h2, h⟩ := zb h
      refine zi (zrV (C := RX6) (T := TX6) (N := 14) (As := [.int (now (Int32.toNatClampNeg 298))]) (rest := [.int v2]) ⟨hx, hb, hml, hown, ht⟩ (c_X6_flowAt l D k o on op orr ot oh og od states bytes reading at_ wrongAt number hh (now (Int32.toNatClampNeg 298)) h2 _) (cwV 1 ht (gdV wb987 wb989 wb48 wb80 wb990) rfl rfl rfl (by decide +kernel) ⟨Nat.le_of_ble_eq_true rfl, Nat.le_of_ble_eq_true rfl⟩) hK hP hD hS hA hm [0] rfl rfl 0 6 rfl rfl rfl hl.1 rfl (Nat.le_of_ble_eq_true rfl) dX6_flowGoes_28 ⟨Nat.le_refl _, Nat.le_refl _⟩) hP hD hS hA [0] rfl rfl (fun H locs hP hD hS => ?_)
      have hP : va_P D vwCl [(o, .inr (6, [.ref on, .ref op, .int states, .ref orr, .ref ot, .int bytes, .ref oh, .ref og, .ref od, .int reading, .int at_, .int wrongAt, .int number, .long hh])), (on, .inl (k 0, 401, .inl now))] H := hP
      have hD : va_D A [(o, .inr (6, [.ref on, .ref op, .int states, .ref orr, .ref ot, .int bytes, .ref oh, .ref og, .ref od, .int reading, .int at_, .int wrongAt, .int number, .long hh])), (on, .inl (k 0, 401, .inl now))] := hD
      refine lv_icmp_ge (tgt := 55) hx hb dX6_flowGoes_31 (by decide) (fun c1 => ?_) (fun c1 => ?_)
      · have h := zt h c1
        exact hKK _ _ h _ _ hP hD hS _ (lv_sub hl [0, 1, 2] rfl)
      · have h := zf h c1
        refine lv_aload_n hx hb dX6_flowGoes_34 rfl (lv_at hl 0 rfl) ?_
        refine va_get (D := D) (ci := 6) (v := .ref on) (C := RX6) (T := TX6) (N := 14) hx hb ht hiX6 hown hK hP 0 rfl rfl 0 (by decide) (ht _ wb765) (fun _ h9 => h9) rfl dX6_flowGoes_35 ?_
        refine lv_iload_n hx hb dX6_flowGoes_38 rfl (lv_at hl 2 rfl) ?_
        refine lv_aload_n hx hb dX6_flowGoes_39 rfl (lv_at hl 0 rfl) ?_
        refine va_get (D := D) (ci := 6) (v := .ref on) (C := RX6) (T := TX6) (N := 14) hx hb ht hiX6 hown hK hP 0 rfl rfl 0 (by decide) (ht _ wb765) (fun _ h9 => h9) rfl dX6_flowGoes_40 ?_
        refine lv_iload_n hx hb dX6_flowGoes_43 rfl (lv_at hl 2 rfl) ?_
        refine lv_bipush (v := 7) hx hb dX6_flowGoes_44 (by decide) ?_
        refine lv_iadd hx hb dX6_flowGoes_46 ?_
        obtain ⟨hi4, h⟩ := zg h
        refine va_iald hx hb hK hP 1 0 rfl rfl hi4 dX6_flowGoes_47 ?_
        obtain ⟨hi5, h⟩ := zg h
        refine va_iast hx hb hK hP hD hS 1 0 rfl rfl hi5 dX6_flowGoes_48 (fun H locs hP hD hS => ?_)
        have hP : va_P D vwCl [(o, .inr (6, [.ref on, .ref op, .int states, .ref orr, .ref ot, .int bytes, .ref oh, .ref og, .ref od, .int reading, .int at_, .int wrongAt, .int number, .long hh])), (on, .inl (k 0, 401, .inl (upd now (Int32.toNatClampNeg v2) (now (Int32.toNatClampNeg (v2 + 7))))))] H := hP
        have hD : va_D A [(o, .inr (6, [.ref on, .ref op, .int states, .ref orr, .ref ot, .int bytes, .ref oh, .ref og, .ref od, .int reading, .int at_, .int wrongAt, .int number, .long hh])), (on, .inl (k 0, 401, .inl (upd now (Int32.toNatClampNeg v2) (now (Int32.toNatClampNeg (v2 + 7))))))] := hD
        refine lv_iinc (v := v2 + 1) (lv' := [(2, .int (v2 + 1)), (0, .ref o), (1, .int v1)]) hx hb dX6_flowGoes_49 hl (k := 2) rfl rfl (by decide) rfl (fun ls hl => ?_)
        refine lv_goto (tgt := 18) hx hb dX6_flowGoes_52 (by decide) ?_
        exact ih _ _ h _ _ hP hD hS _ (lv_sub hl [1, 2, 0] rfl)
  refine loop18 _ _ _ _ _ _ _ _ _ ?_ fu _ _ h _ _ hP hD hS _ (lv_sub hl [1, 2, 0] rfl)
  intro x1 x2 h H locs hP hD hS ls hl
  try dsimp only at h
  have hP : va_P D vwCl [(o, .inr (6, [.ref on, .ref op, .int states, .ref orr, .ref ot, .int bytes, .ref oh, .ref og, .ref od, .int reading, .int at_, .int wrongAt, .int number, .long hh])), (on, .inl (k 0, 401, .inl x2))] H := hP
  have hD : va_D A [(o, .inr (6, [.ref on, .ref op, .int states, .ref orr, .ref ot, .int bytes, .ref oh, .ref og, .ref od, .int reading, .int at_, .int wrongAt, .int number, .long hh])), (on, .inl (k 0, 401, .inl x2))] := hD
  have hl : lv_has ls 3 [(0, .ref o), (1, .int a1), (2, .int x1)] := hl
  obtain rfl := Option.some.inj h
  exact W.vret hx hb hr (fun t ht9 hW => ⟨⟨(), rfl, trivial, zend ht9 hP⟩, hS.F ht9⟩) hS.2.2 dX6_flowGoes_55
def f_X6_saidGoes_L20 (fu : Nat) (K : Int32 → (Nat → Int32) → Option ((Nat → Int32)))  : Nat → Int32 → (Nat → Int32) → Option ((Nat → Int32))
  | 0, _, _ => none
  | n + 1, v2, now =>
  if zok 355 401 then (if (356 + (5 * (now (Int32.toNatClampNeg 355)))) ≤ v2 then (K v2 now) else (if zok (v2 + 5) 401 then (if zok v2 401 then (f_X6_saidGoes_L20 fu K  n (v2 + 1) (upd now (Int32.toNatClampNeg v2) (now (Int32.toNatClampNeg (v2 + 5))))) else none) else none)) else none
def f_X6_saidGoes (fu : Nat) (now : Nat → Int32) (a1 : Int32) : Option ((Nat → Int32)) :=
  if zok 355 401 then (if zok 355 401 then (f_X6_saidGoes_L20 fu (fun (x1 : Int32) (x2 : Nat → Int32) => some (x2))  fu (356 + (5 * a1)) (upd now (Int32.toNatClampNeg 355) ((now (Int32.toNatClampNeg 355)) - 1))) else none) else none
abbrev wk_X6_saidGoes : List Cond := Cond.code yX6_saidGoes cX6_saidGoes 3 none :: WB
abbrev rm_X6_saidGoes : Room := { frames := 0, cells := 0, slots := 0, locals := 0 }
set_option maxHeartbeats 4000000 in
set_option maxRecDepth 100000 in
theorem c_X6_saidGoes (l : Launch) (D : va_G) (k : Nat → Nat) (o on op orr ot oh og od : Nat) (states : Int32) (bytes : Int32) (reading : Int32) (at_ : Int32) (wrongAt : Int32) (number : Int32) (hh : Int64) (now : Nat → Int32) (a1 : Int32) (fu : Nat) {res : (Nat → Int32)} (h : f_X6_saidGoes fu now a1 = some res) : Cv l yX6_saidGoes wk_X6_saidGoes rm_X6_saidGoes D k [.ref o, .int a1] [(o, .inr (6, [.ref on, .ref op, .int states, .ref orr, .ref ot, .int bytes, .ref oh, .ref og, .ref od, .int reading, .int at_, .int wrongAt, .int number, .long hh])), (on, .inl (k 0, 401, .inl now))] [(o, .inr (6, [.ref on, .ref op, .int states, .ref orr, .ref ot, .int bytes, .ref oh, .ref og, .ref od, .int reading, .int at_, .int wrongAt, .int number, .long hh])), (on, .inl (k 0, 401, .inl res))] := by
  unfold Cv
  intro sz
  refine Met.ofW (cc := cX6_saidGoes) (maxL := 3) (ret := none) (by decide) rfl ?_
  intro p e s m args below meth c s₁ B hml hv
  obtain ⟨rfl, hsz, hP, hK, hD0, hm⟩ := hv
  have hx := B.exec
  have hb := B.bytes
  have hr := B.returns
  have ht : ∀ w ∈ WB, w.before _ s = true := fun w hw => atoms_spec (ws := wk_X6_saidGoes) B.pre w (List.mem_cons_of_mem _ hw)
  have hown : s.vm.findClass RX6 = some m.cls := findClass_of_methodNamed B.named
  have hlocks := B.notSynchronized
  subst hsz
  have hD := hD0.self (sz := s.heap.size)
  generalize hAe : va_A [(o, .inr (6, [.ref on, .ref op, .int states, .ref orr, .ref ot, .int bytes, .ref oh, .ref og, .ref od, .int reading, .int at_, .int wrongAt, .int number, .long hh])), (on, .inl (k 0, 401, .inl now))] s.heap.size = A at hD hm ⊢
  have hA : ∀ q : Nat, s.heap.size ≤ q → A q := fun q h => by rw [← hAe]; exact Or.inr h
  have hS : va_S A s.heap s.heap [] := va_S.rf
  have hl := lv_entry ([.ref o, .int a1]) (n := 3) (Nat.le_of_ble_eq_true rfl)
  rw [lg_entry_eq]
  generalize (lg_sl ([.ref o, .int a1]) ++ List.replicate (3 - (lg_sl ([.ref o, .int a1])).length) Slot.unset).toArray = ls at hl ⊢
  have hl : lv_has ls 3 [(0, .ref o), (1, .int a1)] := hl
  obtain ⟨H, hH⟩ : ∃ H, H = s.heap := ⟨_, rfl⟩
  rw [← hH] at hP
  have hS : va_S A s.heap H [] := by rw [hH]; exact hS
  suffices hgo : W p l e _ s m _ below meth c H [] 0 0 _ _ by rw [hH] at hgo; exact hgo
  unfold f_X6_saidGoes at h
  refine lv_aload_n hx hb dX6_saidGoes_0 rfl (lv_at hl 0 rfl) ?_
  refine va_get (D := D) (ci := 6) (v := .ref on) (C := RX6) (T := TX6) (N := 14) hx hb ht hiX6 hown hK hP 0 rfl rfl 0 (by decide) (ht _ wb765) (fun _ h9 => h9) rfl dX6_saidGoes_1 ?_
  refine lv_sipush (v := 355) hx hb dX6_saidGoes_4 (by decide) ?_
  refine lv_dup2_11 hx hb dX6_saidGoes_7 rfl rfl ?_
  obtain ⟨hi1, h⟩ := zg h
  refine va_iald hx hb hK hP 1 0 rfl rfl hi1 dX6_saidGoes_8 ?_
  refine lv_iconst (v := 1) hx hb dX6_saidGoes_9 (by decide) ?_
  refine lv_isub hx hb dX6_saidGoes_10 ?_
  obtain ⟨hi2, h⟩ := zg h
  refine va_iast hx hb hK hP hD hS 1 0 rfl rfl hi2 dX6_saidGoes_11 (fun H locs hP hD hS => ?_)
  have hP : va_P D vwCl [(o, .inr (6, [.ref on, .ref op, .int states, .ref orr, .ref ot, .int bytes, .ref oh, .ref og, .ref od, .int reading, .int at_, .int wrongAt, .int number, .long hh])), (on, .inl (k 0, 401, .inl (upd now (Int32.toNatClampNeg 355) ((now (Int32.toNatClampNeg 355)) - 1))))] H := hP
  have hD : va_D A [(o, .inr (6, [.ref on, .ref op, .int states, .ref orr, .ref ot, .int bytes, .ref oh, .ref og, .ref od, .int reading, .int at_, .int wrongAt, .int number, .long hh])), (on, .inl (k 0, 401, .inl (upd now (Int32.toNatClampNeg 355) ((now (Int32.toNatClampNeg 355)) - 1))))] := hD
  refine lv_sipush (v := 356) hx hb dX6_saidGoes_12 (by decide) ?_
  refine lv_iconst (v := 5) hx hb dX6_saidGoes_15 (by decide) ?_
  refine lv_iload_n hx hb dX6_saidGoes_16 rfl (lv_at hl 1 rfl) ?_
  refine lv_imul hx hb dX6_saidGoes_17 ?_
  refine lv_iadd hx hb dX6_saidGoes_18 ?_
  refine lv_istore_n (lv' := [(2, .int (356 + (5 * a1))), (0, .ref o), (1, .int a1)]) hx hb dX6_saidGoes_19 rfl hl (by decide) rfl (fun ls hl => ?_)
  have loop20 : ∀ (v1 : Int32) (states : Int32) (bytes : Int32) (reading : Int32) (at_ : Int32) (wrongAt : Int32) (number : Int32) (hh : Int64), ∀ (K : Int32 → (Nat → Int32) → Option ((Nat → Int32))), (∀ (v2 : Int32) (now : Nat → Int32), K v2 now = some res → ∀ (H : Heap) (locs : List Loc), va_P D vwCl [(o, .inr (6, [.ref on, .ref op, .int states, .ref orr, .ref ot, .int bytes, .ref oh, .ref og, .ref od, .int reading, .int at_, .int wrongAt, .int number, .long hh])), (on, .inl (k 0, 401, .inl now))] H → va_D A [(o, .inr (6, [.ref on, .ref op, .int states, .ref orr, .ref ot, .int bytes, .ref oh, .ref og, .ref od, .int reading, .int at_, .int wrongAt, .int number, .long hh])), (on, .inl (k 0, 401, .inl now))] → va_S A s.heap H locs → ∀ ls : Array Slot, lv_has ls 3 [(0, .ref o), (1, .int v1), (2, .int v2)] → W p l e (headSpec wk_X6_saidGoes rm_X6_saidGoes).room s m ([.ref o, .int a1] : List Value).toArray below meth c H locs 0 0 (MQ below (va_Qv (fun (_ : Unit) => True) (fun _ tq9 => va_P D vwCl [(o, .inr (6, [.ref on, .ref op, .int states, .ref orr, .ref ot, .int bytes, .ref oh, .ref og, .ref od, .int reading, .int at_, .int wrongAt, .int number, .long hh])), (on, .inl (k 0, 401, .inl res))] tq9.heap) A) ([.ref o, .int a1] : List Value).toArray s 0 0 A) (F0 m 58 ls [])) → ∀ (n : Nat) (v2 : Int32) (now : Nat → Int32), f_X6_saidGoes_L20 fu K  n v2 now = some res → ∀ (H : Heap) (locs : List Loc), va_P D vwCl [(o, .inr (6, [.ref on, .ref op, .int states, .ref orr, .ref ot, .int bytes, .ref oh, .ref og, .ref od, .int reading, .int at_, .int wrongAt, .int number, .long hh])), (on, .inl (k 0, 401, .inl now))] H → va_D A [(o, .inr (6, [.ref on, .ref op, .int states, .ref orr, .ref ot, .int bytes, .ref oh, .ref og, .ref od, .int reading, .int at_, .int wrongAt, .int number, .long hh])), (on, .inl (k 0, 401, .inl now))] → va_S A s.heap H locs → ∀ ls : Array Slot, lv_has ls 3 [(0, .ref o), (1, .int v1), (2, .int v2)] → W p l e (headSpec wk_X6_saidGoes rm_X6_saidGoes).room s m ([.ref o, .int a1] : List Value).toArray below meth c H locs 0 0 (MQ below (va_Qv (fun (_ : Unit) => True) (fun _ tq9 => va_P D vwCl [(o, .inr (6, [.ref on, .ref op, .int states, .ref orr, .ref ot, .int bytes, .ref oh, .ref og, .ref od, .int reading, .int at_, .int wrongAt, .int number, .long hh])), (on, .inl (k 0, 401, .inl res))] tq9.heap) A) ([.ref o, .int a1] : List Value).toArray s 0 0 A) (F0 m 20 ls []) := by
    intro v1 states bytes reading at_ wrongAt number hh K hKK n
    induction n with
    | zero =>
      intro v2 now h
      rw [f_X6_saidGoes_L20] at h
      cases h
    | succ n ih =>
      intro v2 now h H locs hP hD hS ls hl
      rw [f_X6_saidGoes_L20] at h
      refine lv_iload_n hx hb dX6_saidGoes_20 rfl (lv_at hl 2 rfl) ?_
      refine lv_sipush (v := 356) hx hb dX6_saidGoes_21 (by decide) ?_
      refine lv_iconst (v := 5) hx hb dX6_saidGoes_24 (by decide) ?_
      refine lv_aload_n hx hb dX6_saidGoes_25 rfl (lv_at hl 0 rfl) ?_
      refine va_get (D := D) (ci := 6) (v := .ref on) (C := RX6) (T := TX6) (N := 14) hx hb ht hiX6 hown hK hP 0 rfl rfl 0 (by decide) (ht _ wb765) (fun _ h9 => h9) rfl dX6_saidGoes_26 ?_
      refine lv_sipush (v := 355) hx hb dX6_saidGoes_29 (by decide) ?_
      obtain ⟨hi3, h⟩ := zg h
      refine va_iald hx hb hK hP 1 0 rfl rfl hi3 dX6_saidGoes_32 ?_
      refine lv_imul hx hb dX6_saidGoes_33 ?_
      refine lv_iadd hx hb dX6_saidGoes_34 ?_
      refine lv_icmp_ge (tgt := 58) hx hb dX6_saidGoes_35 (by decide) (fun c1 => ?_) (fun c1 => ?_)
      · have h := zt h c1
        exact hKK _ _ h _ _ hP hD hS _ (lv_sub hl [0, 1, 2] rfl)
      · have h := zf h c1
        refine lv_aload_n hx hb dX6_saidGoes_38 rfl (lv_at hl 0 rfl) ?_
        refine va_get (D := D) (ci := 6) (v := .ref on) (C := RX6) (T := TX6) (N := 14) hx hb ht hiX6 hown hK hP 0 rfl rfl 0 (by decide) (ht _ wb765) (fun _ h9 => h9) rfl dX6_saidGoes_39 ?_
        refine lv_iload_n hx hb dX6_saidGoes_42 rfl (lv_at hl 2 rfl) ?_
        refine lv_aload_n hx hb dX6_saidGoes_43 rfl (lv_at hl 0 rfl) ?_
        refine va_get (D := D) (ci := 6) (v := .ref on) (C := RX6) (T := TX6) (N := 14) hx hb ht hiX6 hown hK hP 0 rfl rfl 0 (by decide) (ht _ wb765) (fun _ h9 => h9) rfl dX6_saidGoes_44 ?_
        refine lv_iload_n hx hb dX6_saidGoes_47 rfl (lv_at hl 2 rfl) ?_
        refine lv_iconst (v := 5) hx hb dX6_saidGoes_48 (by decide) ?_
        refine lv_iadd hx hb dX6_saidGoes_49 ?_
        obtain ⟨hi4, h⟩ := zg h
        refine va_iald hx hb hK hP 1 0 rfl rfl hi4 dX6_saidGoes_50 ?_
        obtain ⟨hi5, h⟩ := zg h
        refine va_iast hx hb hK hP hD hS 1 0 rfl rfl hi5 dX6_saidGoes_51 (fun H locs hP hD hS => ?_)
        have hP : va_P D vwCl [(o, .inr (6, [.ref on, .ref op, .int states, .ref orr, .ref ot, .int bytes, .ref oh, .ref og, .ref od, .int reading, .int at_, .int wrongAt, .int number, .long hh])), (on, .inl (k 0, 401, .inl (upd now (Int32.toNatClampNeg v2) (now (Int32.toNatClampNeg (v2 + 5))))))] H := hP
        have hD : va_D A [(o, .inr (6, [.ref on, .ref op, .int states, .ref orr, .ref ot, .int bytes, .ref oh, .ref og, .ref od, .int reading, .int at_, .int wrongAt, .int number, .long hh])), (on, .inl (k 0, 401, .inl (upd now (Int32.toNatClampNeg v2) (now (Int32.toNatClampNeg (v2 + 5))))))] := hD
        refine lv_iinc (v := v2 + 1) (lv' := [(2, .int (v2 + 1)), (0, .ref o), (1, .int v1)]) hx hb dX6_saidGoes_52 hl (k := 2) rfl rfl (by decide) rfl (fun ls hl => ?_)
        refine lv_goto (tgt := 20) hx hb dX6_saidGoes_55 (by decide) ?_
        exact ih _ _ h _ _ hP hD hS _ (lv_sub hl [1, 2, 0] rfl)
  refine loop20 _ _ _ _ _ _ _ _ _ ?_ fu _ _ h _ _ hP hD hS _ (lv_sub hl [1, 2, 0] rfl)
  intro x1 x2 h H locs hP hD hS ls hl
  try dsimp only at h
  have hP : va_P D vwCl [(o, .inr (6, [.ref on, .ref op, .int states, .ref orr, .ref ot, .int bytes, .ref oh, .ref og, .ref od, .int reading, .int at_, .int wrongAt, .int number, .long hh])), (on, .inl (k 0, 401, .inl x2))] H := hP
  have hD : va_D A [(o, .inr (6, [.ref on, .ref op, .int states, .ref orr, .ref ot, .int bytes, .ref oh, .ref og, .ref od, .int reading, .int at_, .int wrongAt, .int number, .long hh])), (on, .inl (k 0, 401, .inl x2))] := hD
  have hl : lv_has ls 3 [(0, .ref o), (1, .int a1), (2, .int x1)] := hl
  obtain rfl := Option.some.inj h
  exact W.vret hx hb hr (fun t ht9 hW => ⟨⟨(), rfl, trivial, zend ht9 hP⟩, hS.F ht9⟩) hS.2.2 dX6_saidGoes_58
def f_X6_saidOf_L15 (fu : Nat) (K : Int32 → Int32 → Option (Int32)) (v1 : Int32) (v2 : Int32) (v3 : Int32) (v4 : Int32) (now : Nat → Int32) : Nat → Int32 → Int32 → Option (Int32)
  | 0, _, _ => none
  | n + 1, v5, v6 =>
  if v6 < 0 then (K v5 v6) else ((f_X6_isSuch now (356 + (5 * v6)) v1 v2 v3 v4).bind fun r1 => if (zB r1) = 0 then (f_X6_saidOf_L15 fu K v1 v2 v3 v4 now n v5 (v6 + (-1))) else (f_X6_saidOf_L15 fu K v1 v2 v3 v4 now n v6 (v6 + (-1))))
def f_X6_saidOf (fu : Nat) (now : Nat → Int32) (a1 : Int32) (a2 : Int32) (a3 : Int32) (a4 : Int32) : Option (Int32) :=
  if zok 355 401 then (f_X6_saidOf_L15 fu (fun (x1 : Int32) (x2 : Int32) => some (x1)) a1 a2 a3 a4 now fu (-1) ((now (Int32.toNatClampNeg 355)) - 1)) else none
abbrev wk_X6_saidOf : List Cond := Cond.code yX6_saidOf cX6_saidOf 7 (some .int) :: WB
abbrev rm_X6_saidOf : Room := { frames := 1, cells := 0, slots := 0, locals := 25 }
set_option maxHeartbeats 4000000 in
set_option maxRecDepth 100000 in
theorem c_X6_saidOf (l : Launch) (D : va_G) (k : Nat → Nat) (o on op orr ot oh og od : Nat) (states : Int32) (bytes : Int32) (reading : Int32) (at_ : Int32) (wrongAt : Int32) (number : Int32) (hh : Int64) (now : Nat → Int32) (a1 : Int32) (a2 : Int32) (a3 : Int32) (a4 : Int32) (fu : Nat) {res : Int32} (h : f_X6_saidOf fu now a1 a2 a3 a4 = some res) : Ci l yX6_saidOf wk_X6_saidOf rm_X6_saidOf D k [.ref o, .int a1, .int a2, .int a3, .int a4] [(o, .inr (6, [.ref on, .ref op, .int states, .ref orr, .ref ot, .int bytes, .ref oh, .ref og, .ref od, .int reading, .int at_, .int wrongAt, .int number, .long hh])), (on, .inl (k 0, 401, .inl now))] [(o, .inr (6, [.ref on, .ref op, .int states, .ref orr, .ref ot, .int bytes, .ref oh, .ref og, .ref od, .int reading, .int at_, .int wrongAt, .int number, .long hh])), (on, .inl (k 0, 401, .inl now))] res := by
  unfold Ci
  intro sz
  refine Met.ofW (cc := cX6_saidOf) (maxL := 7) (ret := (some .int)) (by decide) rfl ?_
  intro p e s m args below meth c s₁ B hml hv
  obtain ⟨rfl, hsz, hP, hK, hD0, hm⟩ := hv
  have hx := B.exec
  have hb := B.bytes
  have hr := B.returns
  have ht : ∀ w ∈ WB, w.before _ s = true := fun w hw => atoms_spec (ws := wk_X6_saidOf) B.pre w (List.mem_cons_of_mem _ hw)
  have hown : s.vm.findClass RX6 = some m.cls := findClass_of_methodNamed B.named
  have hlocks := B.notSynchronized
  subst hsz
  have hD := hD0.self (sz := s.heap.size)
  generalize hAe : va_A [(o, .inr (6, [.ref on, .ref op, .int states, .ref orr, .ref ot, .int bytes, .ref oh, .ref og, .ref od, .int reading, .int at_, .int wrongAt, .int number, .long hh])), (on, .inl (k 0, 401, .inl now))] s.heap.size = A at hD hm ⊢
  have hA : ∀ q : Nat, s.heap.size ≤ q → A q := fun q h => by rw [← hAe]; exact Or.inr h
  have hS : va_S A s.heap s.heap [] := va_S.rf
  have hl := lv_entry ([.ref o, .int a1, .int a2, .int a3, .int a4]) (n := 7) (Nat.le_of_ble_eq_true rfl)
  rw [lg_entry_eq]
  generalize (lg_sl ([.ref o, .int a1, .int a2, .int a3, .int a4]) ++ List.replicate (7 - (lg_sl ([.ref o, .int a1, .int a2, .int a3, .int a4])).length) Slot.unset).toArray = ls at hl ⊢
  have hl : lv_has ls 7 [(0, .ref o), (1, .int a1), (2, .int a2), (3, .int a3), (4, .int a4)] := hl
  obtain ⟨H, hH⟩ : ∃ H, H = s.heap := ⟨_, rfl⟩
  rw [← hH] at hP
  have hS : va_S A s.heap H [] := by rw [hH]; exact hS
  suffices hgo : W p l e _ s m _ below meth c H [] 0 0 _ _ by rw [hH] at hgo; exact hgo
  unfold f_X6_saidOf at h
  refine lv_iconst (v := (-1)) hx hb dX6_saidOf_0 (by decide) ?_
  refine lv_istore (lv' := [(5, .int (-1)), (0, .ref o), (1, .int a1), (2, .int a2), (3, .int a3), (4, .int a4)]) hx hb dX6_saidOf_1 hl (by decide) rfl (fun ls hl => ?_)
  refine lv_aload_n hx hb dX6_saidOf_3 rfl (lv_at hl 1 rfl) ?_
  refine va_get (D := D) (ci := 6) (v := .ref on) (C := RX6) (T := TX6) (N := 14) hx hb ht hiX6 hown hK hP 0 rfl rfl 0 (by decide) (ht _ wb765) (fun _ h9 => h9) rfl dX6_saidOf_4 ?_
  refine lv_sipush (v := 355) hx hb dX6_saidOf_7 (by decide) ?_
  obtain ⟨hi1, h⟩ := zg h
  refine va_iald hx hb hK hP 1 0 rfl rfl hi1 dX6_saidOf_10 ?_
  refine lv_iconst (v := 1) hx hb dX6_saidOf_11 (by decide) ?_
  refine lv_isub hx hb dX6_saidOf_12 ?_
  refine lv_istore (lv' := [(6, .int ((now (Int32.toNatClampNeg 355)) - 1)), (5, .int (-1)), (0, .ref o), (1, .int a1), (2, .int a2), (3, .int a3), (4, .int a4)]) hx hb dX6_saidOf_13 hl (by decide) rfl (fun ls hl => ?_)
  have loop15 : ∀ (v1 : Int32) (v2 : Int32) (v3 : Int32) (v4 : Int32) (states : Int32) (bytes : Int32) (reading : Int32) (at_ : Int32) (wrongAt : Int32) (number : Int32) (hh : Int64) (now : Nat → Int32), ∀ (K : Int32 → Int32 → Option (Int32)), (∀ (v5 : Int32) (v6 : Int32), K v5 v6 = some res → ∀ (H : Heap) (locs : List Loc), va_P D vwCl [(o, .inr (6, [.ref on, .ref op, .int states, .ref orr, .ref ot, .int bytes, .ref oh, .ref og, .ref od, .int reading, .int at_, .int wrongAt, .int number, .long hh])), (on, .inl (k 0, 401, .inl now))] H → va_D A [(o, .inr (6, [.ref on, .ref op, .int states, .ref orr, .ref ot, .int bytes, .ref oh, .ref og, .ref od, .int reading, .int at_, .int wrongAt, .int number, .long hh])), (on, .inl (k 0, 401, .inl now))] → va_S A s.heap H locs → ∀ ls : Array Slot, lv_has ls 7 [(0, .ref o), (1, .int v1), (2, .int v2), (3, .int v3), (4, .int v4), (5, .int v5), (6, .int v6)] → W p l e (headSpec wk_X6_saidOf rm_X6_saidOf).room s m ([.ref o, .int a1, .int a2, .int a3, .int a4] : List Value).toArray below meth c H locs 0 0 (MQ below (va_Qi (fun xq9 (_ : Unit) => xq9 = res) (fun _ tq9 => va_P D vwCl [(o, .inr (6, [.ref on, .ref op, .int states, .ref orr, .ref ot, .int bytes, .ref oh, .ref og, .ref od, .int reading, .int at_, .int wrongAt, .int number, .long hh])), (on, .inl (k 0, 401, .inl now))] tq9.heap) A) ([.ref o, .int a1, .int a2, .int a3, .int a4] : List Value).toArray s 0 0 A) (F0 m 55 ls [])) → ∀ (n : Nat) (v5 : Int32) (v6 : Int32), f_X6_saidOf_L15 fu K v1 v2 v3 v4 now n v5 v6 = some res → ∀ (H : Heap) (locs : List Loc), va_P D vwCl [(o, .inr (6, [.ref on, .ref op, .int states, .ref orr, .ref ot, .int bytes, .ref oh, .ref og, .ref od, .int reading, .int at_, .int wrongAt, .int number, .long hh])), (on, .inl (k 0, 401, .inl now))] H → va_D A [(o, .inr (6, [.ref on, .ref op, .int states, .ref orr, .ref ot, .int bytes, .ref oh, .ref og, .ref od, .int reading, .int at_, .int wrongAt, .int number, .long hh])), (on, .inl (k 0, 401, .inl now))] → va_S A s.heap H locs → ∀ ls : Array Slot, lv_has ls 7 [(0, .ref o), (1, .int v1), (2, .int v2), (3, .int v3), (4, .int v4), (5, .int v5), (6, .int v6)] → W p l e (headSpec wk_X6_saidOf rm_X6_saidOf).room s m ([.ref o, .int a1, .int a2, .int a3, .int a4] : List Value).toArray below meth c H locs 0 0 (MQ below (va_Qi (fun xq9 (_ : Unit) => xq9 = res) (fun _ tq9 => va_P D vwCl [(o, .inr (6, [.ref on, .ref op, .int states, .ref orr, .ref ot, .int bytes, .ref oh, .ref og, .ref od, .int reading, .int at_, .int wrongAt, .int number, .long hh])), (on, .inl (k 0, 401, .inl now))] tq9.heap) A) ([.ref o, .int a1, .int a2, .int a3, .int a4] : List Value).toArray s 0 0 A) (F0 m 15 ls []) := by
    intro v1 v2 v3 v4 states bytes reading at_ wrongAt number hh now K hKK n
    induction n with
    | zero =>
      intro v5 v6 h
      rw [f_X6_saidOf_L15] at h
      cases h
    | succ n ih =>
      intro v5 v6 h H locs hP hD hS ls hl
      rw [f_X6_saidOf_L15] at h
      refine lv_iload hx hb dX6_saidOf_15 (lv_at hl 6 rfl) ?_
      refine lv_if_lt (tgt := 55) hx hb dX6_saidOf_17 (by decide) (fun c2 => ?_) (fun c2 => ?_)
      · have h := zt h c2
        exact hKK _ _ h _ _ hP hD hS _ (lv_sub hl [0, 1, 2, 3, 4, 5, 6] rfl)
      · have h := zf h c2
        refine lv_aload_n hx hb dX6_saidOf_20 rfl (lv_at hl 0 rfl) ?_
        refine lv_sipush (v := 356) hx hb dX6_saidOf_21 (by decide) ?_
        refine lv_iconst (v := 5) hx hb dX6_saidOf_24 (by decide) ?_
        refine lv_iload hx hb dX6_saidOf_25 (lv_at hl 6 rfl) ?_
        refine lv_imul hx hb dX6_saidOf_27 ?_
        refine lv_iadd hx hb dX6_saidOf_28 ?_
        refine lv_iload_n hx hb dX6_saidOf_29 rfl (lv_at hl 1 rfl) ?_
        refine lv_iload_n hx hb dX6_saidOf_30 rfl (lv_at hl 2 rfl) ?_
        refine lv_iload_n hx hb dX6_saidOf_31 rfl (lv_at hl 3 rfl) ?_
        refine lv_iload hx hb dX6_saidOf_32 (lv_at hl 4 rfl) ?_
        obtain ⟨r1, h1, h⟩ := zb h
        refine zi (zrV (C := RX6) (T := TX6) (N := 14) (As := [.int (356 + (5 * v6)), .int v1, .int v2, .int v3, .int v4]) (rest := []) ⟨hx, hb, hml, hown, ht⟩ (c_X6_isSuch l D k o on op orr ot oh og od states bytes reading at_ wrongAt number hh now (356 + (5 * v6)) v1 v2 v3 v4 h1 _) (cwV 5 ht (gdV wb991 wb993 wb49 wb80 wb994) rfl rfl rfl (by decide +kernel) ⟨Nat.le_of_ble_eq_true rfl, Nat.le_of_ble_eq_true rfl⟩) hK hP hD hS hA hm [0, 1] rfl rfl 0 6 rfl rfl rfl hl.1 rfl (Nat.le_of_ble_eq_true rfl) dX6_saidOf_34 ⟨Nat.le_refl _, Nat.le_refl _⟩) hP hD hS hA [0, 1] rfl rfl (fun H locs hP hD hS => ?_)
        have hP : va_P D vwCl [(o, .inr (6, [.ref on, .ref op, .int states, .ref orr, .ref ot, .int bytes, .ref oh, .ref og, .ref od, .int reading, .int at_, .int wrongAt, .int number, .long hh])), (on, .inl (k 0, 401, .inl now))] H := hP
        have hD : va_D A [(o, .inr (6, [.ref on, .ref op, .int states, .ref orr, .ref ot, .int bytes, .ref oh, .ref og, .ref od, .int reading, .int at_, .int wrongAt, .int number, .long hh])), (on, .inl (k 0, 401, .inl now))] := hD
        refine lv_if_eq (tgt := 45) hx hb dX6_saidOf_37 (by decide) (fun c1 => ?_) (fun c1 => ?_)
        · have h := zt h c1
          refine lv_iload hx hb dX6_saidOf_45 (lv_at hl 5 rfl) ?_
          refine lv_istore (lv' := [(5, .int v5), (0, .ref o), (1, .int v1), (2, .int v2), (3, .int v3), (4, .int v4), (6, .int v6)]) hx hb dX6_saidOf_47 hl (by decide) rfl (fun ls hl => ?_)
          refine lv_iinc (v := v6 + (-1)) (lv' := [(6, .int (v6 + (-1))), (5, .int v5), (0, .ref o), (1, .int v1), (2, .int v2), (3, .int v3), (4, .int v4)]) hx hb dX6_saidOf_49 hl (k := 6) rfl rfl (by decide) rfl (fun ls hl => ?_)
          refine lv_goto (tgt := 15) hx hb dX6_saidOf_52 (by decide) ?_
          exact ih _ _ h _ _ hP hD hS _ (lv_sub hl [2, 3, 4, 5, 6, 1, 0] rfl)
        · have h := zf h c1
          refine lv_iload hx hb dX6_saidOf_40 (lv_at hl 6 rfl) ?_
          refine lv_goto (tgt := 47) hx hb dX6_saidOf_42 (by decide) ?_
          refine lv_istore (lv' := [(5, .int v6), (0, .ref o), (1, .int v1), (2, .int v2), (3, .int v3), (4, .int v4), (6, .int v6)]) hx hb dX6_saidOf_47 hl (by decide) rfl (fun ls hl => ?_)
          refine lv_iinc (v := v6 + (-1)) (lv' := [(6, .int (v6 + (-1))), (5, .int v6), (0, .ref o), (1, .int v1), (2, .int v2), (3, .int v3), (4, .int v4)]) hx hb dX6_saidOf_49 hl (k := 6) rfl rfl (by decide) rfl (fun ls hl => ?_)
          refine lv_goto (tgt := 15) hx hb dX6_saidOf_52 (by decide) ?_
          exact ih _ _ h _ _ hP hD hS _ (lv_sub hl [2, 3, 4, 5, 6, 1, 0] rfl)
  refine loop15 _ _ _ _ _ _ _ _ _ _ _ _ _ ?_ fu _ _ h _ _ hP hD hS _ (lv_sub hl [2, 3, 4, 5, 6, 1, 0] rfl)
  intro x1 x2 h H locs hP hD hS ls hl
  try dsimp only at h
  have hP : va_P D vwCl [(o, .inr (6, [.ref on, .ref op, .int states, .ref orr, .ref ot, .int bytes, .ref oh, .ref og, .ref od, .int reading, .int at_, .int wrongAt, .int number, .long hh])), (on, .inl (k 0, 401, .inl now))] H := hP
  have hD : va_D A [(o, .inr (6, [.ref on, .ref op, .int states, .ref orr, .ref ot, .int bytes, .ref oh, .ref og, .ref od, .int reading, .int at_, .int wrongAt, .int number, .long hh])), (on, .inl (k 0, 401, .inl now))] := hD
  have hl : lv_has ls 7 [(0, .ref o), (1, .int a1), (2, .int a2), (3, .int a3), (4, .int a4), (5, .int x1), (6, .int x2)] := hl
  refine lv_iload hx hb dX6_saidOf_55 (lv_at hl 5 rfl) ?_
  obtain rfl := Option.some.inj h
  exact W.iret (v := x1) hx hb hr (fun t ht9 hW => ⟨⟨_, (), rfl, rfl, zend ht9 hP⟩, hS.F ht9⟩) hS.2.2 dX6_saidOf_57
def f_X6_becomes (now : Nat → Int32) (a1 : Int32) (a2 : Int32) : Option ((Nat → Int32)) :=
  if zok (a1 + 4) 401 then (if zok 394 401 then (if zok (386 + a2) 401 then (if zok (a1 + 5) 401 then (some (upd (upd now (Int32.toNatClampNeg (a1 + 4)) a2) (Int32.toNatClampNeg (a1 + 5)) (((upd now (Int32.toNatClampNeg (a1 + 4)) a2) (Int32.toNatClampNeg 394)) + ((upd now (Int32.toNatClampNeg (a1 + 4)) a2) (Int32.toNatClampNeg (386 + a2)))))) else none) else none) else none) else none
abbrev wk_X6_becomes : List Cond := Cond.code yX6_becomes cX6_becomes 3 none :: WB
abbrev rm_X6_becomes : Room := { frames := 0, cells := 0, slots := 0, locals := 0 }
set_option maxHeartbeats 4000000 in
set_option maxRecDepth 100000 in
theorem c_X6_becomes (l : Launch) (D : va_G) (k : Nat → Nat) (o on op orr ot oh og od : Nat) (states : Int32) (bytes : Int32) (reading : Int32) (at_ : Int32) (wrongAt : Int32) (number : Int32) (hh : Int64) (now : Nat → Int32) (a1 : Int32) (a2 : Int32) {res : (Nat → Int32)} (h : f_X6_becomes now a1 a2 = some res) : Cv l yX6_becomes wk_X6_becomes rm_X6_becomes D k [.ref o, .int a1, .int a2] [(o, .inr (6, [.ref on, .ref op, .int states, .ref orr, .ref ot, .int bytes, .ref oh, .ref og, .ref od, .int reading, .int at_, .int wrongAt, .int number, .long hh])), (on, .inl (k 0, 401, .inl now))] [(o, .inr (6, [.ref on, .ref op, .int states, .ref orr, .ref ot, .int bytes, .ref oh, .ref og, .ref od, .int reading, .int at_, .int wrongAt, .int number, .long hh])), (on, .inl (k 0, 401, .inl res))] := by
  unfold Cv
  intro sz
  refine Met.ofW (cc := cX6_becomes) (maxL := 3) (ret := none) (by decide) rfl ?_
  intro p e s m args below meth c s₁ B hml hv
  obtain ⟨rfl, hsz, hP, hK, hD0, hm⟩ := hv
  have hx := B.exec
  have hb := B.bytes
  have hr := B.returns
  have ht : ∀ w ∈ WB, w.before _ s = true := fun w hw => atoms_spec (ws := wk_X6_becomes) B.pre w (List.mem_cons_of_mem _ hw)
  have hown : s.vm.findClass RX6 = some m.cls := findClass_of_methodNamed B.named
  have hlocks := B.notSynchronized
  subst hsz
  have hD := hD0.self (sz := s.heap.size)
  generalize hAe : va_A [(o, .inr (6, [.ref on, .ref op, .int states, .ref orr, .ref ot, .int bytes, .ref oh, .ref og, .ref od, .int reading, .int at_, .int wrongAt, .int number, .long hh])), (on, .inl (k 0, 401, .inl now))] s.heap.size = A at hD hm ⊢
  have hA : ∀ q : Nat, s.heap.size ≤ q → A q := fun q h => by rw [← hAe]; exact Or.inr h
  have hS : va_S A s.heap s.heap [] := va_S.rf
  have hl := lv_entry ([.ref o, .int a1, .int a2]) (n := 3) (Nat.le_of_ble_eq_true rfl)
  rw [lg_entry_eq]
  generalize (lg_sl ([.ref o, .int a1, .int a2]) ++ List.replicate (3 - (lg_sl ([.ref o, .int a1, .int a2])).length) Slot.unset).toArray = ls at hl ⊢
  have hl : lv_has ls 3 [(0, .ref o), (1, .int a1), (2, .int a2)] := hl
  obtain ⟨H, hH⟩ : ∃ H, H = s.heap := ⟨_, rfl⟩
  rw [← hH] at hP
  have hS : va_S A s.heap H [] := by rw [hH]; exact hS
  suffices hgo : W p l e _ s m _ below meth c H [] 0 0 _ _ by rw [hH] at hgo; exact hgo
  unfold f_X6_becomes at h
  refine lv_aload_n hx hb dX6_becomes_0 rfl (lv_at hl 0 rfl) ?_
  refine va_get (D := D) (ci := 6) (v := .ref on) (C := RX6) (T := TX6) (N := 14) hx hb ht hiX6 hown hK hP 0 rfl rfl 0 (by decide) (ht _ wb765) (fun _ h9 => h9) rfl dX6_becomes_1 ?_
  refine lv_iload_n hx hb dX6_becomes_4 rfl (lv_at hl 1 rfl) ?_
  refine lv_iconst (v := 4) hx hb dX6_becomes_5 (by decide) ?_
  refine lv_iadd hx hb dX6_becomes_6 ?_
  refine lv_iload_n hx hb dX6_becomes_7 rfl (lv_at hl 2 rfl) ?_
  obtain ⟨hi1, h⟩ := zg h
  refine va_iast hx hb hK hP hD hS 1 0 rfl rfl hi1 dX6_becomes_8 (fun H locs hP hD hS => ?_)
  have hP : va_P D vwCl [(o, .inr (6, [.ref on, .ref op, .int states, .ref orr, .ref ot, .int bytes, .ref oh, .ref og, .ref od, .int reading, .int at_, .int wrongAt, .int number, .long hh])), (on, .inl (k 0, 401, .inl (upd now (Int32.toNatClampNeg (a1 + 4)) a2)))] H := hP
  have hD : va_D A [(o, .inr (6, [.ref on, .ref op, .int states, .ref orr, .ref ot, .int bytes, .ref oh, .ref og, .ref od, .int reading, .int at_, .int wrongAt, .int number, .long hh])), (on, .inl (k 0, 401, .inl (upd now (Int32.toNatClampNeg (a1 + 4)) a2)))] := hD
  refine lv_aload_n hx hb dX6_becomes_9 rfl (lv_at hl 0 rfl) ?_
  refine va_get (D := D) (ci := 6) (v := .ref on) (C := RX6) (T := TX6) (N := 14) hx hb ht hiX6 hown hK hP 0 rfl rfl 0 (by decide) (ht _ wb765) (fun _ h9 => h9) rfl dX6_becomes_10 ?_
  refine lv_iload_n hx hb dX6_becomes_13 rfl (lv_at hl 1 rfl) ?_
  refine lv_iconst (v := 5) hx hb dX6_becomes_14 (by decide) ?_
  refine lv_iadd hx hb dX6_becomes_15 ?_
  refine lv_aload_n hx hb dX6_becomes_16 rfl (lv_at hl 0 rfl) ?_
  refine va_get (D := D) (ci := 6) (v := .ref on) (C := RX6) (T := TX6) (N := 14) hx hb ht hiX6 hown hK hP 0 rfl rfl 0 (by decide) (ht _ wb765) (fun _ h9 => h9) rfl dX6_becomes_17 ?_
  refine lv_sipush (v := 394) hx hb dX6_becomes_20 (by decide) ?_
  obtain ⟨hi2, h⟩ := zg h
  refine va_iald hx hb hK hP 1 0 rfl rfl hi2 dX6_becomes_23 ?_
  refine lv_aload_n hx hb dX6_becomes_24 rfl (lv_at hl 0 rfl) ?_
  refine va_get (D := D) (ci := 6) (v := .ref on) (C := RX6) (T := TX6) (N := 14) hx hb ht hiX6 hown hK hP 0 rfl rfl 0 (by decide) (ht _ wb765) (fun _ h9 => h9) rfl dX6_becomes_25 ?_
  refine lv_sipush (v := 386) hx hb dX6_becomes_28 (by decide) ?_
  refine lv_iload_n hx hb dX6_becomes_31 rfl (lv_at hl 2 rfl) ?_
  refine lv_iadd hx hb dX6_becomes_32 ?_
  obtain ⟨hi3, h⟩ := zg h
  refine va_iald hx hb hK hP 1 0 rfl rfl hi3 dX6_becomes_33 ?_
  refine lv_iadd hx hb dX6_becomes_34 ?_
  obtain ⟨hi4, h⟩ := zg h
  refine va_iast hx hb hK hP hD hS 1 0 rfl rfl hi4 dX6_becomes_35 (fun H locs hP hD hS => ?_)
  have hP : va_P D vwCl [(o, .inr (6, [.ref on, .ref op, .int states, .ref orr, .ref ot, .int bytes, .ref oh, .ref og, .ref od, .int reading, .int at_, .int wrongAt, .int number, .long hh])), (on, .inl (k 0, 401, .inl (upd (upd now (Int32.toNatClampNeg (a1 + 4)) a2) (Int32.toNatClampNeg (a1 + 5)) (((upd now (Int32.toNatClampNeg (a1 + 4)) a2) (Int32.toNatClampNeg 394)) + ((upd now (Int32.toNatClampNeg (a1 + 4)) a2) (Int32.toNatClampNeg (386 + a2)))))))] H := hP
  have hD : va_D A [(o, .inr (6, [.ref on, .ref op, .int states, .ref orr, .ref ot, .int bytes, .ref oh, .ref og, .ref od, .int reading, .int at_, .int wrongAt, .int number, .long hh])), (on, .inl (k 0, 401, .inl (upd (upd now (Int32.toNatClampNeg (a1 + 4)) a2) (Int32.toNatClampNeg (a1 + 5)) (((upd now (Int32.toNatClampNeg (a1 + 4)) a2) (Int32.toNatClampNeg 394)) + ((upd now (Int32.toNatClampNeg (a1 + 4)) a2) (Int32.toNatClampNeg (386 + a2)))))))] := hD
  obtain rfl := Option.some.inj h
  exact W.vret hx hb hr (fun t ht9 hW => ⟨⟨(), rfl, trivial, zend ht9 hP⟩, hS.F ht9⟩) hS.2.2 dX6_becomes_36
def f_X6_goesOn (fu : Nat) (now : Nat → Int32) (a1 : Int32) (a2 : Int32) (a3 : Int32) : Option (Int32 × (Nat → Int32)) :=
  (f_X6_flowAt  a1).bind fun r1 => if a3 = 4 then ((f_X6_flowGoes fu now a1).bind fun r6 => some (1, r6)) else (if zok (r1 + 4) 401 then (if zok (r1 + 6) 401 then ((f_X6_stageBy  (now (Int32.toNatClampNeg (r1 + 4))) a2 (now (Int32.toNatClampNeg (r1 + 6))) a3).bind fun r2 => if r2 = (-1) then (some (3, now)) else (if zok (r1 + 4) 401 then (if (now (Int32.toNatClampNeg (r1 + 4))) = 3 then (if r2 = 4 then (if zok (r1 + 6) 401 then ((f_X6_becomes (upd now (Int32.toNatClampNeg (r1 + 6)) a2) r1 r2).bind fun r5 => some (1, r5)) else none) else (if zok (r1 + 6) 401 then (if zok (r1 + 6) 401 then ((f_X6_becomes (upd now (Int32.toNatClampNeg (r1 + 6)) (now (Int32.toNatClampNeg (r1 + 6)))) r1 r2).bind fun r4 => some (1, r4)) else none) else none)) else (if zok (r1 + 6) 401 then (if zok (r1 + 6) 401 then ((f_X6_becomes (upd now (Int32.toNatClampNeg (r1 + 6)) (now (Int32.toNatClampNeg (r1 + 6)))) r1 r2).bind fun r3 => some (1, r3)) else none) else none)) else none)) else none) else none)
abbrev wk_X6_goesOn : List Cond := Cond.code yX6_goesOn cX6_goesOn 6 (some .int) :: WB
abbrev rm_X6_goesOn : Room := { frames := 2, cells := 0, slots := 0, locals := 43 }
set_option maxHeartbeats 4000000 in
set_option maxRecDepth 100000 in
theorem c_X6_goesOn (l : Launch) (D : va_G) (k : Nat → Nat) (o on op orr ot oh og od : Nat) (states : Int32) (bytes : Int32) (reading : Int32) (at_ : Int32) (wrongAt : Int32) (number : Int32) (hh : Int64) (now : Nat → Int32) (a1 : Int32) (a2 : Int32) (a3 : Int32) (fu : Nat) {res : Int32 × (Nat → Int32)} (h : f_X6_goesOn fu now a1 a2 a3 = some res) : Ci l yX6_goesOn wk_X6_goesOn rm_X6_goesOn D k [.ref o, .int a1, .int a2, .int a3] [(o, .inr (6, [.ref on, .ref op, .int states, .ref orr, .ref ot, .int bytes, .ref oh, .ref og, .ref od, .int reading, .int at_, .int wrongAt, .int number, .long hh])), (on, .inl (k 0, 401, .inl now))] [(o, .inr (6, [.ref on, .ref op, .int states, .ref orr, .ref ot, .int bytes, .ref oh, .ref og, .ref od, .int reading, .int at_, .int wrongAt, .int number, .long hh])), (on, .inl (k 0, 401, .inl res.2))] res.1 := by
  unfold Ci
  intro sz
  refine Met.ofW (cc := cX6_goesOn) (maxL := 6) (ret := (some .int)) (by decide) rfl ?_
  intro p e s m args below meth c s₁ B hml hv
  obtain ⟨rfl, hsz, hP, hK, hD0, hm⟩ := hv
  have hx := B.exec
  have hb := B.bytes
  have hr := B.returns
  have ht : ∀ w ∈ WB, w.before _ s = true := fun w hw => atoms_spec (ws := wk_X6_goesOn) B.pre w (List.mem_cons_of_mem _ hw)
  have hown : s.vm.findClass RX6 = some m.cls := findClass_of_methodNamed B.named
  have hlocks := B.notSynchronized
  subst hsz
  have hD := hD0.self (sz := s.heap.size)
  generalize hAe : va_A [(o, .inr (6, [.ref on, .ref op, .int states, .ref orr, .ref ot, .int bytes, .ref oh, .ref og, .ref od, .int reading, .int at_, .int wrongAt, .int number, .long hh])), (on, .inl (k 0, 401, .inl now))] s.heap.size = A at hD hm ⊢
  have hA : ∀ q : Nat, s.heap.size ≤ q → A q := fun q h => by rw [← hAe]; exact Or.inr h
  have hS : va_S A s.heap s.heap [] := va_S.rf
  have hl := lv_entry ([.ref o, .int a1, .int a2, .int a3]) (n := 6) (Nat.le_of_ble_eq_true rfl)
  rw [lg_entry_eq]
  generalize (lg_sl ([.ref o, .int a1, .int a2, .int a3]) ++ List.replicate (6 - (lg_sl ([.ref o, .int a1, .int a2, .int a3])).length) Slot.unset).toArray = ls at hl ⊢
  have hl : lv_has ls 6 [(0, .ref o), (1, .int a1), (2, .int a2), (3, .int a3)] := hl
  obtain ⟨H, hH⟩ : ∃ H, H = s.heap := ⟨_, rfl⟩
  rw [← hH] at hP
  have hS : va_S A s.heap H [] := by rw [hH]; exact hS
  suffices hgo : W p l e _ s m _ below meth c H [] 0 0 _ _ by rw [hH] at hgo; exact hgo
  unfold f_X6_goesOn at h
  refine lv_aload_n hx hb dX6_goesOn_0 rfl (lv_at hl 0 rfl) ?_
  refine lv_iload_n hx hb dX6_goesOn_1 rfl (lv_at hl 1 rfl) ?_
  obtain ⟨r1, h1, h⟩ := zb h
  refine zi (zrV (C := RX6) (T := TX6) (N := 14) (As := [.int a1]) (rest := []) ⟨hx, hb, hml, hown, ht⟩ (c_X6_flowAt l D k o on op orr ot oh og od states bytes reading at_ wrongAt number hh a1 h1 _) (cwV 1 ht (gdV wb987 wb989 wb48 wb80 wb990) rfl rfl rfl (by decide +kernel) ⟨Nat.le_of_ble_eq_true rfl, Nat.le_of_ble_eq_true rfl⟩) hK hP hD hS hA hm [0] rfl rfl 0 6 rfl rfl rfl hl.1 rfl (Nat.le_of_ble_eq_true rfl) dX6_goesOn_2 ⟨Nat.le_refl _, Nat.le_refl _⟩) hP hD hS hA [0] rfl rfl (fun H locs hP hD hS => ?_)
  have hP : va_P D vwCl [(o, .inr (6, [.ref on, .ref op, .int states, .ref orr, .ref ot, .int bytes, .ref oh, .ref og, .ref od, .int reading, .int at_, .int wrongAt, .int number, .long hh])), (on, .inl (k 0, 401, .inl now))] H := hP
  have hD : va_D A [(o, .inr (6, [.ref on, .ref op, .int states, .ref orr, .ref ot, .int bytes, .ref oh, .ref og, .ref od, .int reading, .int at_, .int wrongAt, .int number, .long hh])), (on, .inl (k 0, 401, .inl now))] := hD
  refine lv_istore (lv' := [(4, .int r1), (0, .ref o), (1, .int a1), (2, .int a2), (3, .int a3)]) hx hb dX6_goesOn_5 hl (by decide) rfl (fun ls hl => ?_)
  refine lv_iload_n hx hb dX6_goesOn_7 rfl (lv_at hl 4 rfl) ?_
  refine lv_iconst (v := 4) hx hb dX6_goesOn_8 (by decide) ?_
  refine lv_icmp_ne (tgt := 19) hx hb dX6_goesOn_9 (by decide) (fun c4 => ?_) (fun c4 => ?_)
  · have h := zf h c4
    refine lv_aload_n hx hb dX6_goesOn_19 rfl (lv_at hl 1 rfl) ?_
    refine va_get (D := D) (ci := 6) (v := .ref on) (C := RX6) (T := TX6) (N := 14) hx hb ht hiX6 hown hK hP 0 rfl rfl 0 (by decide) (ht _ wb765) (fun _ h9 => h9) rfl dX6_goesOn_20 ?_
    refine lv_iload hx hb dX6_goesOn_23 (lv_at hl 0 rfl) ?_
    refine lv_iconst (v := 4) hx hb dX6_goesOn_25 (by decide) ?_
    refine lv_iadd hx hb dX6_goesOn_26 ?_
    obtain ⟨hi1, h⟩ := zg h
    refine va_iald hx hb hK hP 1 0 rfl rfl hi1 dX6_goesOn_27 ?_
    refine lv_iload_n hx hb dX6_goesOn_28 rfl (lv_at hl 3 rfl) ?_
    refine lv_aload_n hx hb dX6_goesOn_29 rfl (lv_at hl 1 rfl) ?_
    refine va_get (D := D) (ci := 6) (v := .ref on) (C := RX6) (T := TX6) (N := 14) hx hb ht hiX6 hown hK hP 0 rfl rfl 0 (by decide) (ht _ wb765) (fun _ h9 => h9) rfl dX6_goesOn_30 ?_
    refine lv_iload hx hb dX6_goesOn_33 (lv_at hl 0 rfl) ?_
    refine lv_bipush (v := 6) hx hb dX6_goesOn_35 (by decide) ?_
    refine lv_iadd hx hb dX6_goesOn_37 ?_
    obtain ⟨hi2, h⟩ := zg h
    refine va_iald hx hb hK hP 1 0 rfl rfl hi2 dX6_goesOn_38 ?_
    refine lv_iload_n hx hb dX6_goesOn_39 rfl (lv_at hl 4 rfl) ?_
    obtain ⟨r2, h2, h⟩ := zb h
    refine zi (zrS (As := [.int (now (Int32.toNatClampNeg (r1 + 4))), .int a2, .int (now (Int32.toNatClampNeg (r1 + 6))), .int a3]) (rest := []) ⟨hx, hb, hml, hown, ht⟩ (c_X6_stageBy l D k   (now (Int32.toNatClampNeg (r1 + 4))) a2 (now (Int32.toNatClampNeg (r1 + 6))) a3 h2 _) (va_cwS 4 ht (gdS wb1003 wb1004 wb80 wb1005) rfl rfl rfl (by decide +kernel) ⟨Nat.le_of_ble_eq_true rfl, Nat.le_of_ble_eq_true rfl⟩) hK hP hD hS hA hm [] rfl rfl rfl hl.1 rfl (Nat.le_of_ble_eq_true rfl) dX6_goesOn_40 ⟨Nat.le_refl _, Nat.le_refl _⟩) hP hD hS hA [] rfl rfl (fun H locs hP hD hS => ?_)
    have hP : va_P D vwCl [(o, .inr (6, [.ref on, .ref op, .int states, .ref orr, .ref ot, .int bytes, .ref oh, .ref og, .ref od, .int reading, .int at_, .int wrongAt, .int number, .long hh])), (on, .inl (k 0, 401, .inl now))] H := hP
    have hD : va_D A [(o, .inr (6, [.ref on, .ref op, .int states, .ref orr, .ref ot, .int bytes, .ref oh, .ref og, .ref od, .int reading, .int at_, .int wrongAt, .int number, .long hh])), (on, .inl (k 0, 401, .inl now))] := hD
    refine lv_istore (lv' := [(5, .int r2), (4, .int r1), (0, .ref o), (1, .int a1), (2, .int a2), (3, .int a3)]) hx hb dX6_goesOn_43 hl (by decide) rfl (fun ls hl => ?_)
    refine lv_iload hx hb dX6_goesOn_45 (lv_at hl 0 rfl) ?_
    refine lv_iconst (v := (-1)) hx hb dX6_goesOn_47 (by decide) ?_
    refine lv_icmp_ne (tgt := 53) hx hb dX6_goesOn_48 (by decide) (fun c3 => ?_) (fun c3 => ?_)
    · have h := zf h c3
      refine lv_aload_n hx hb dX6_goesOn_53 rfl (lv_at hl 2 rfl) ?_
      refine va_get (D := D) (ci := 6) (v := .ref on) (C := RX6) (T := TX6) (N := 14) hx hb ht hiX6 hown hK hP 0 rfl rfl 0 (by decide) (ht _ wb765) (fun _ h9 => h9) rfl dX6_goesOn_54 ?_
      refine lv_iload hx hb dX6_goesOn_57 (lv_at hl 1 rfl) ?_
      refine lv_bipush (v := 6) hx hb dX6_goesOn_59 (by decide) ?_
      refine lv_iadd hx hb dX6_goesOn_61 ?_
      refine lv_aload_n hx hb dX6_goesOn_62 rfl (lv_at hl 2 rfl) ?_
      refine va_get (D := D) (ci := 6) (v := .ref on) (C := RX6) (T := TX6) (N := 14) hx hb ht hiX6 hown hK hP 0 rfl rfl 0 (by decide) (ht _ wb765) (fun _ h9 => h9) rfl dX6_goesOn_63 ?_
      refine lv_iload hx hb dX6_goesOn_66 (lv_at hl 1 rfl) ?_
      refine lv_iconst (v := 4) hx hb dX6_goesOn_68 (by decide) ?_
      refine lv_iadd hx hb dX6_goesOn_69 ?_
      obtain ⟨hi3, h⟩ := zg h
      refine va_iald hx hb hK hP 1 0 rfl rfl hi3 dX6_goesOn_70 ?_
      refine lv_iconst (v := 3) hx hb dX6_goesOn_71 (by decide) ?_
      refine lv_icmp_ne (tgt := 85) hx hb dX6_goesOn_72 (by decide) (fun c2 => ?_) (fun c2 => ?_)
      · have h := zf h c2
        refine lv_aload_n hx hb dX6_goesOn_85 rfl (lv_at hl 2 rfl) ?_
        refine va_get (D := D) (ci := 6) (v := .ref on) (C := RX6) (T := TX6) (N := 14) hx hb ht hiX6 hown hK hP 0 rfl rfl 0 (by decide) (ht _ wb765) (fun _ h9 => h9) rfl dX6_goesOn_86 ?_
        refine lv_iload hx hb dX6_goesOn_89 (lv_at hl 1 rfl) ?_
        refine lv_bipush (v := 6) hx hb dX6_goesOn_91 (by decide) ?_
        refine lv_iadd hx hb dX6_goesOn_93 ?_
        obtain ⟨hi4, h⟩ := zg h
        refine va_iald hx hb hK hP 1 0 rfl rfl hi4 dX6_goesOn_94 ?_
        obtain ⟨hi5, h⟩ := zg h
        refine va_iast hx hb hK hP hD hS 1 0 rfl rfl hi5 dX6_goesOn_95 (fun H locs hP hD hS => ?_)
        have hP : va_P D vwCl [(o, .inr (6, [.ref on, .ref op, .int states, .ref orr, .ref ot, .int bytes, .ref oh, .ref og, .ref od, .int reading, .int at_, .int wrongAt, .int number, .long hh])), (on, .inl (k 0, 401, .inl (upd now (Int32.toNatClampNeg (r1 + 6)) (now (Int32.toNatClampNeg (r1 + 6))))))] H := hP
        have hD : va_D A [(o, .inr (6, [.ref on, .ref op, .int states, .ref orr, .ref ot, .int bytes, .ref oh, .ref og, .ref od, .int reading, .int at_, .int wrongAt, .int number, .long hh])), (on, .inl (k 0, 401, .inl (upd now (Int32.toNatClampNeg (r1 + 6)) (now (Int32.toNatClampNeg (r1 + 6))))))] := hD
        refine lv_aload_n hx hb dX6_goesOn_96 rfl (lv_at hl 2 rfl) ?_
        refine lv_iload hx hb dX6_goesOn_97 (lv_at hl 1 rfl) ?_
        refine lv_iload hx hb dX6_goesOn_99 (lv_at hl 0 rfl) ?_
        obtain ⟨r3, h3, h⟩ := zb h
        refine zv (zrV (C := RX6) (T := TX6) (N := 14) (As := [.int r1, .int r2]) (rest := []) ⟨hx, hb, hml, hown, ht⟩ (c_X6_becomes l D k o on op orr ot oh og od states bytes reading at_ wrongAt number hh (upd now (Int32.toNatClampNeg (r1 + 6)) (now (Int32.toNatClampNeg (r1 + 6)))) r1 r2 h3 _) (cwV 2 ht (gdV wb1006 wb1008 wb52 wb80 wb1009) rfl rfl rfl (by decide +kernel) ⟨Nat.le_of_ble_eq_true rfl, Nat.le_of_ble_eq_true rfl⟩) hK hP hD hS hA hm [0, 1] rfl rfl 0 6 rfl rfl rfl hl.1 rfl (Nat.le_of_ble_eq_true rfl) dX6_goesOn_101 ⟨Nat.le_refl _, Nat.le_refl _⟩) hP hD hS hA [0, 1] rfl rfl (fun H locs hP hD hS => ?_)
        have hP : va_P D vwCl [(o, .inr (6, [.ref on, .ref op, .int states, .ref orr, .ref ot, .int bytes, .ref oh, .ref og, .ref od, .int reading, .int at_, .int wrongAt, .int number, .long hh])), (on, .inl (k 0, 401, .inl r3))] H := hP
        have hD : va_D A [(o, .inr (6, [.ref on, .ref op, .int states, .ref orr, .ref ot, .int bytes, .ref oh, .ref og, .ref od, .int reading, .int at_, .int wrongAt, .int number, .long hh])), (on, .inl (k 0, 401, .inl r3))] := hD
        refine lv_iconst (v := 1) hx hb dX6_goesOn_104 (by decide) ?_
        obtain rfl := Option.some.inj h
        exact W.iret (v := 1) hx hb hr (fun t ht9 hW => ⟨⟨_, (), rfl, rfl, zend ht9 hP⟩, hS.F ht9⟩) hS.2.2 dX6_goesOn_105
      · have h := zt h c2
        refine lv_iload hx hb dX6_goesOn_75 (lv_at hl 0 rfl) ?_
        refine lv_iconst (v := 4) hx hb dX6_goesOn_77 (by decide) ?_
        refine lv_icmp_ne (tgt := 85) hx hb dX6_goesOn_78 (by decide) (fun c1 => ?_) (fun c1 => ?_)
        · have h := zf h c1
          refine lv_aload_n hx hb dX6_goesOn_85 rfl (lv_at hl 2 rfl) ?_
          refine va_get (D := D) (ci := 6) (v := .ref on) (C := RX6) (T := TX6) (N := 14) hx hb ht hiX6 hown hK hP 0 rfl rfl 0 (by decide) (ht _ wb765) (fun _ h9 => h9) rfl dX6_goesOn_86 ?_
          refine lv_iload hx hb dX6_goesOn_89 (lv_at hl 1 rfl) ?_
          refine lv_bipush (v := 6) hx hb dX6_goesOn_91 (by decide) ?_
          refine lv_iadd hx hb dX6_goesOn_93 ?_
          obtain ⟨hi6, h⟩ := zg h
          refine va_iald hx hb hK hP 1 0 rfl rfl hi6 dX6_goesOn_94 ?_
          obtain ⟨hi7, h⟩ := zg h
          refine va_iast hx hb hK hP hD hS 1 0 rfl rfl hi7 dX6_goesOn_95 (fun H locs hP hD hS => ?_)
          have hP : va_P D vwCl [(o, .inr (6, [.ref on, .ref op, .int states, .ref orr, .ref ot, .int bytes, .ref oh, .ref og, .ref od, .int reading, .int at_, .int wrongAt, .int number, .long hh])), (on, .inl (k 0, 401, .inl (upd now (Int32.toNatClampNeg (r1 + 6)) (now (Int32.toNatClampNeg (r1 + 6))))))] H := hP
          have hD : va_D A [(o, .inr (6, [.ref on, .ref op, .int states, .ref orr, .ref ot, .int bytes, .ref oh, .ref og, .ref od, .int reading, .int at_, .int wrongAt, .int number, .long hh])), (on, .inl (k 0, 401, .inl (upd now (Int32.toNatClampNeg (r1 + 6)) (now (Int32.toNatClampNeg (r1 + 6))))))] := hD
          refine lv_aload_n hx hb dX6_goesOn_96 rfl (lv_at hl 2 rfl) ?_
          refine lv_iload hx hb dX6_goesOn_97 (lv_at hl 1 rfl) ?_
          refine lv_iload hx hb dX6_goesOn_99 (lv_at hl 0 rfl) ?_
          obtain ⟨r4, h4, h⟩ := zb h
          refine zv (zrV (C := RX6) (T := TX6) (N := 14) (As := [.int r1, .int r2]) (rest := []) ⟨hx, hb, hml, hown, ht⟩ (c_X6_becomes l D k o on op orr ot oh og od states bytes reading at_ wrongAt number hh (upd now (Int32.toNatClampNeg (r1 + 6)) (now (Int32.toNatClampNeg (r1 + 6)))) r1 r2 h4 _) (cwV 2 ht (gdV wb1006 wb1008 wb52 wb80 wb1009) rfl rfl rfl (by decide +kernel) ⟨Nat.le_of_ble_eq_true rfl, Nat.le_of_ble_eq_true rfl⟩) hK hP hD hS hA hm [0, 1] rfl rfl 0 6 rfl rfl rfl hl.1 rfl (Nat.le_of_ble_eq_true rfl) dX6_goesOn_101 ⟨Nat.le_refl _, Nat.le_refl _⟩) hP hD hS hA [0, 1] rfl rfl (fun H locs hP hD hS => ?_)
          have hP : va_P D vwCl [(o, .inr (6, [.ref on, .ref op, .int states, .ref orr, .ref ot, .int bytes, .ref oh, .ref og, .ref od, .int reading, .int at_, .int wrongAt, .int number, .long hh])), (on, .inl (k 0, 401, .inl r4))] H := hP
          have hD : va_D A [(o, .inr (6, [.ref on, .ref op, .int states, .ref orr, .ref ot, .int bytes, .ref oh, .ref og, .ref od, .int reading, .int at_, .int wrongAt, .int number, .long hh])), (on, .inl (k 0, 401, .inl r4))] := hD
          refine lv_iconst (v := 1) hx hb dX6_goesOn_104 (by decide) ?_
          obtain rfl := Option.some.inj h
          exact W.iret (v := 1) hx hb hr (fun t ht9 hW => ⟨⟨_, (), rfl, rfl, zend ht9 hP⟩, hS.F ht9⟩) hS.2.2 dX6_goesOn_105
        · have h := zt h c1
          refine lv_iload_n hx hb dX6_goesOn_81 rfl (lv_at hl 4 rfl) ?_
          refine lv_goto (tgt := 95) hx hb dX6_goesOn_82 (by decide) ?_
          obtain ⟨hi8, h⟩ := zg h
          refine va_iast hx hb hK hP hD hS 1 0 rfl rfl hi8 dX6_goesOn_95 (fun H locs hP hD hS => ?_)
          have hP : va_P D vwCl [(o, .inr (6, [.ref on, .ref op, .int states, .ref orr, .ref ot, .int bytes, .ref oh, .ref og, .ref od, .int reading, .int at_, .int wrongAt, .int number, .long hh])), (on, .inl (k 0, 401, .inl (upd now (Int32.toNatClampNeg (r1 + 6)) a2)))] H := hP
          have hD : va_D A [(o, .inr (6, [.ref on, .ref op, .int states, .ref orr, .ref ot, .int bytes, .ref oh, .ref og, .ref od, .int reading, .int at_, .int wrongAt, .int number, .long hh])), (on, .inl (k 0, 401, .inl (upd now (Int32.toNatClampNeg (r1 + 6)) a2)))] := hD
          refine lv_aload_n hx hb dX6_goesOn_96 rfl (lv_at hl 2 rfl) ?_
          refine lv_iload hx hb dX6_goesOn_97 (lv_at hl 1 rfl) ?_
          refine lv_iload hx hb dX6_goesOn_99 (lv_at hl 0 rfl) ?_
          obtain ⟨r5, h5, h⟩ := zb h
          refine zv (zrV (C := RX6) (T := TX6) (N := 14) (As := [.int r1, .int r2]) (rest := []) ⟨hx, hb, hml, hown, ht⟩ (c_X6_becomes l D k o on op orr ot oh og od states bytes reading at_ wrongAt number hh (upd now (Int32.toNatClampNeg (r1 + 6)) a2) r1 r2 h5 _) (cwV 2 ht (gdV wb1006 wb1008 wb52 wb80 wb1009) rfl rfl rfl (by decide +kernel) ⟨Nat.le_of_ble_eq_true rfl, Nat.le_of_ble_eq_true rfl⟩) hK hP hD hS hA hm [0, 1] rfl rfl 0 6 rfl rfl rfl hl.1 rfl (Nat.le_of_ble_eq_true rfl) dX6_goesOn_101 ⟨Nat.le_refl _, Nat.le_refl _⟩) hP hD hS hA [0, 1] rfl rfl (fun H locs hP hD hS => ?_)
          have hP : va_P D vwCl [(o, .inr (6, [.ref on, .ref op, .int states, .ref orr, .ref ot, .int bytes, .ref oh, .ref og, .ref od, .int reading, .int at_, .int wrongAt, .int number, .long hh])), (on, .inl (k 0, 401, .inl r5))] H := hP
          have hD : va_D A [(o, .inr (6, [.ref on, .ref op, .int states, .ref orr, .ref ot, .int bytes, .ref oh, .ref og, .ref od, .int reading, .int at_, .int wrongAt, .int number, .long hh])), (on, .inl (k 0, 401, .inl r5))] := hD
          refine lv_iconst (v := 1) hx hb dX6_goesOn_104 (by decide) ?_
          obtain rfl := Option.some.inj h
          exact W.iret (v := 1) hx hb hr (fun t ht9 hW => ⟨⟨_, (), rfl, rfl, zend ht9 hP⟩, hS.F ht9⟩) hS.2.2 dX6_goesOn_105
    · have h := zt h c3
      refine lv_iconst (v := 3) hx hb dX6_goesOn_51 (by decide) ?_
      obtain rfl := Option.some.inj h
      exact W.iret (v := 3) hx hb hr (fun t ht9 hW => ⟨⟨_, (), rfl, rfl, zend ht9 hP⟩, hS.F ht9⟩) hS.2.2 dX6_goesOn_52
  · have h := zt h c4
    refine lv_aload_n hx hb dX6_goesOn_12 rfl (lv_at hl 1 rfl) ?_
    refine lv_iload_n hx hb dX6_goesOn_13 rfl (lv_at hl 2 rfl) ?_
    obtain ⟨r6, h6, h⟩ := zb h
    refine zv (zrV (C := RX6) (T := TX6) (N := 14) (As := [.int a1]) (rest := []) ⟨hx, hb, hml, hown, ht⟩ (c_X6_flowGoes l D k o on op orr ot oh og od states bytes reading at_ wrongAt number hh now a1 fu h6 _) (cwV 1 ht (gdV wb999 wb1001 wb51 wb80 wb1002) rfl rfl rfl (by decide +kernel) ⟨Nat.le_of_ble_eq_true rfl, Nat.le_of_ble_eq_true rfl⟩) hK hP hD hS hA hm [0, 1] rfl rfl 0 6 rfl rfl rfl hl.1 rfl (Nat.le_of_ble_eq_true rfl) dX6_goesOn_14 ⟨Nat.le_refl _, Nat.le_refl _⟩) hP hD hS hA [0, 1] rfl rfl (fun H locs hP hD hS => ?_)
    have hP : va_P D vwCl [(o, .inr (6, [.ref on, .ref op, .int states, .ref orr, .ref ot, .int bytes, .ref oh, .ref og, .ref od, .int reading, .int at_, .int wrongAt, .int number, .long hh])), (on, .inl (k 0, 401, .inl r6))] H := hP
    have hD : va_D A [(o, .inr (6, [.ref on, .ref op, .int states, .ref orr, .ref ot, .int bytes, .ref oh, .ref og, .ref od, .int reading, .int at_, .int wrongAt, .int number, .long hh])), (on, .inl (k 0, 401, .inl r6))] := hD
    refine lv_iconst (v := 1) hx hb dX6_goesOn_17 (by decide) ?_
    obtain rfl := Option.some.inj h
    exact W.iret (v := 1) hx hb hr (fun t ht9 hW => ⟨⟨_, (), rfl, rfl, zend ht9 hP⟩, hS.F ht9⟩) hS.2.2 dX6_goesOn_18
def f_X6_hasRoom_L19 (fu : Nat) (K : Int32 → Int32 → Option (Bool × (Nat → Int32))) (now : Nat → Int32) : Nat → Int32 → Int32 → Option (Bool × (Nat → Int32))
  | 0, _, _ => none
  | n + 1, v1, v2 =>
  if 8 ≤ v2 then (K v1 v2) else ((f_X6_flowAt  v2).bind fun r1 => if zok (r1 + 4) 401 then (if (now (Int32.toNatClampNeg (r1 + 4))) = 1 then (if v1 < 0 then (f_X6_hasRoom_L19 fu K now n v2 (v2 + 1)) else (if zok (r1 + 5) 401 then ((f_X6_flowAt  v1).bind fun r2 => if zok (r2 + 5) 401 then (if (now (Int32.toNatClampNeg (r2 + 5))) ≤ (now (Int32.toNatClampNeg (r1 + 5))) then (f_X6_hasRoom_L19 fu K now n v1 (v2 + 1)) else (f_X6_hasRoom_L19 fu K now n v2 (v2 + 1))) else none) else none)) else (if zok (r1 + 4) 401 then (if (now (Int32.toNatClampNeg (r1 + 4))) = 6 then (if v1 < 0 then (f_X6_hasRoom_L19 fu K now n v2 (v2 + 1)) else (if zok (r1 + 5) 401 then ((f_X6_flowAt  v1).bind fun r3 => if zok (r3 + 5) 401 then (if (now (Int32.toNatClampNeg (r3 + 5))) ≤ (now (Int32.toNatClampNeg (r1 + 5))) then (f_X6_hasRoom_L19 fu K now n v1 (v2 + 1)) else (f_X6_hasRoom_L19 fu K now n v2 (v2 + 1))) else none) else none)) else (f_X6_hasRoom_L19 fu K now n v1 (v2 + 1))) else none)) else none)
def f_X6_hasRoom (fu : Nat) (now : Nat → Int32)  : Option (Bool × (Nat → Int32)) :=
  if zok 298 401 then (if 8 ≤ (now (Int32.toNatClampNeg 298)) then (f_X6_hasRoom_L19 fu (fun (x1 : Int32) (x2 : Int32) => if x1 < 0 then (if x1 < 0 then (some (false, now)) else (some (true, now))) else ((f_X6_flowGoes fu now x1).bind fun r4 => if x1 < 0 then (some (false, r4)) else (some (true, r4)))) now fu (-1) 0) else (some (true, now))) else none
abbrev wk_X6_hasRoom : List Cond := Cond.code yX6_hasRoom cX6_hasRoom 5 (some .boolean) :: WB
abbrev rm_X6_hasRoom : Room := { frames := 2, cells := 0, slots := 0, locals := 43 }
set_option maxHeartbeats 4000000 in
set_option maxRecDepth 100000 in
theorem c_X6_hasRoom (l : Launch) (D : va_G) (k : Nat → Nat) (o on op orr ot oh og od : Nat) (states : Int32) (bytes : Int32) (reading : Int32) (at_ : Int32) (wrongAt : Int32) (number : Int32) (hh : Int64) (now : Nat → Int32)  (fu : Nat) {res : Bool × (Nat → Int32)} (h : f_X6_hasRoom fu now  = some res) : Ci l yX6_hasRoom wk_X6_hasRoom rm_X6_hasRoom D k [.ref o] [(o, .inr (6, [.ref on, .ref op, .int states, .ref orr, .ref ot, .int bytes, .ref oh, .ref og, .ref od, .int reading, .int at_, .int wrongAt, .int number, .long hh])), (on, .inl (k 0, 401, .inl now))] [(o, .inr (6, [.ref on, .ref op, .int states, .ref orr, .ref ot, .int bytes, .ref oh, .ref og, .ref od, .int reading, .int at_, .int wrongAt, .int number, .long hh])), (on, .inl (k 0, 401, .inl res.2))] (zB res.1) := by
  unfold Ci
  intro sz
  refine Met.ofW (cc := cX6_hasRoom) (maxL := 5) (ret := (some .boolean)) (by decide) rfl ?_
  intro p e s m args below meth c s₁ B hml hv
  obtain ⟨rfl, hsz, hP, hK, hD0, hm⟩ := hv
  have hx := B.exec
  have hb := B.bytes
  have hr := B.returns
  have ht : ∀ w ∈ WB, w.before _ s = true := fun w hw => atoms_spec (ws := wk_X6_hasRoom) B.pre w (List.mem_cons_of_mem _ hw)
  have hown : s.vm.findClass RX6 = some m.cls := findClass_of_methodNamed B.named
  have hlocks := B.notSynchronized
  subst hsz
  have hD := hD0.self (sz := s.heap.size)
  generalize hAe : va_A [(o, .inr (6, [.ref on, .ref op, .int states, .ref orr, .ref ot, .int bytes, .ref oh, .ref og, .ref od, .int reading, .int at_, .int wrongAt, .int number, .long hh])), (on, .inl (k 0, 401, .inl now))] s.heap.size = A at hD hm ⊢
  have hA : ∀ q : Nat, s.heap.size ≤ q → A q := fun q h => by rw [← hAe]; exact Or.inr h
  have hS : va_S A s.heap s.heap [] := va_S.rf
  have hl := lv_entry ([.ref o]) (n := 5) (Nat.le_of_ble_eq_true rfl)
  rw [lg_entry_eq]
  generalize (lg_sl ([.ref o]) ++ List.replicate (5 - (lg_sl ([.ref o])).length) Slot.unset).toArray = ls at hl ⊢
  have hl : lv_has ls 5 [(0, .ref o)] := hl
  obtain ⟨H, hH⟩ : ∃ H, H = s.heap := ⟨_, rfl⟩
  rw [← hH] at hP
  have hS : va_S A s.heap H [] := by rw [hH]; exact hS
  suffices hgo : W p l e _ s m _ below meth c H [] 0 0 _ _ by rw [hH] at hgo; exact hgo
  unfold f_X6_hasRoom at h
  refine lv_aload_n hx hb dX6_hasRoom_0 rfl (lv_at hl 0 rfl) ?_
  refine va_get (D := D) (ci := 6) (v := .ref on) (C := RX6) (T := TX6) (N := 14) hx hb ht hiX6 hown hK hP 0 rfl rfl 0 (by decide) (ht _ wb765) (fun _ h9 => h9) rfl dX6_hasRoom_1 ?_
  refine lv_sipush (v := 298) hx hb dX6_hasRoom_4 (by decide) ?_
  obtain ⟨hi1, h⟩ := zg h
  refine va_iald hx hb hK hP 1 0 rfl rfl hi1 dX6_hasRoom_7 ?_
  refine lv_bipush (v := 8) hx hb dX6_hasRoom_8 (by decide) ?_
  refine lv_icmp_ge (tgt := 15) hx hb dX6_hasRoom_10 (by decide) (fun c11 => ?_) (fun c11 => ?_)
  · have h := zt h c11
    refine lv_iconst (v := (-1)) hx hb dX6_hasRoom_15 (by decide) ?_
    refine lv_istore_n (lv' := [(1, .int (-1)), (0, .ref o)]) hx hb dX6_hasRoom_16 rfl hl (by decide) rfl (fun ls hl => ?_)
    refine lv_iconst (v := 0) hx hb dX6_hasRoom_17 (by decide) ?_
    refine lv_istore_n (lv' := [(2, .int 0), (1, .int (-1)), (0, .ref o)]) hx hb dX6_hasRoom_18 rfl hl (by decide) rfl (fun ls hl => ?_)
    have loop19 : ∀ (states : Int32) (bytes : Int32) (reading : Int32) (at_ : Int32) (wrongAt : Int32) (number : Int32) (hh : Int64) (now : Nat → Int32), ∀ (K : Int32 → Int32 → Option (Bool × (Nat → Int32))), (∀ (v1 : Int32) (v2 : Int32), K v1 v2 = some res → ∀ (H : Heap) (locs : List Loc), va_P D vwCl [(o, .inr (6, [.ref on, .ref op, .int states, .ref orr, .ref ot, .int bytes, .ref oh, .ref og, .ref od, .int reading, .int at_, .int wrongAt, .int number, .long hh])), (on, .inl (k 0, 401, .inl now))] H → va_D A [(o, .inr (6, [.ref on, .ref op, .int states, .ref orr, .ref ot, .int bytes, .ref oh, .ref og, .ref od, .int reading, .int at_, .int wrongAt, .int number, .long hh])), (on, .inl (k 0, 401, .inl now))] → va_S A s.heap H locs → ∀ ls : Array Slot, lv_has ls 5 [(0, .ref o), (1, .int v1), (2, .int v2)] → W p l e (headSpec wk_X6_hasRoom rm_X6_hasRoom).room s m ([.ref o] : List Value).toArray below meth c H locs 0 0 (MQ below (va_Qi (fun xq9 (_ : Unit) => xq9 = zB res.1) (fun _ tq9 => va_P D vwCl [(o, .inr (6, [.ref on, .ref op, .int states, .ref orr, .ref ot, .int bytes, .ref oh, .ref og, .ref od, .int reading, .int at_, .int wrongAt, .int number, .long hh])), (on, .inl (k 0, 401, .inl res.2))] tq9.heap) A) ([.ref o] : List Value).toArray s 0 0 A) (F0 m 107 ls [])) → ∀ (n : Nat) (v1 : Int32) (v2 : Int32), f_X6_hasRoom_L19 fu K now n v1 v2 = some res → ∀ (H : Heap) (locs : List Loc), va_P D vwCl [(o, .inr (6, [.ref on, .ref op, .int states, .ref orr, .ref ot, .int bytes, .ref oh, .ref og, .ref od, .int reading, .int at_, .int wrongAt, .int number, .long hh])), (on, .inl (k 0, 401, .inl now))] H → va_D A [(o, .inr (6, [.ref on, .ref op, .int states, .ref orr, .ref ot, .int bytes, .ref oh, .ref og, .ref od, .int reading, .int at_, .int wrongAt, .int number, .long hh])), (on, .inl (k 0, 401, .inl now))] → va_S A s.heap H locs → ∀ ls : Array Slot, lv_has ls 5 [(0, .ref o), (1, .int v1), (2, .int v2)] → W p l e (headSpec wk_X6_hasRoom rm_X6_hasRoom).room s m ([.ref o] : List Value).toArray below meth c H locs 0 0 (MQ below (va_Qi (fun xq9 (_ : Unit) => xq9 = zB res.1) (fun _ tq9 => va_P D vwCl [(o, .inr (6, [.ref on, .ref op, .int states, .ref orr, .ref ot, .int bytes, .ref oh, .ref og, .ref od, .int reading, .int at_, .int wrongAt, .int number, .long hh])), (on, .inl (k 0, 401, .inl res.2))] tq9.heap) A) ([.ref o] : List Value).toArray s 0 0 A) (F0 m 19 ls []) := by
      intro states bytes reading at_ wrongAt number hh now K hKK n
      induction n with
      | zero =>
        intro v1 v2 h
        rw [f_X6_hasRoom_L19] at h
        cases h
      | succ n ih =>
        intro v1 v2 h H locs hP hD hS ls hl
        rw [f_X6_hasRoom_L19] at h
        refine lv_iload_n hx hb dX6_hasRoom_19 rfl (lv_at hl 2 rfl) ?_
        refine lv_bipush (v := 8) hx hb dX6_hasRoom_20 (by decide) ?_
        refine lv_icmp_ge (tgt := 107) hx hb dX6_hasRoom_22 (by decide) (fun c7 => ?_) (fun c7 => ?_)
        · have h := zt h c7
          exact hKK _ _ h _ _ hP hD hS _ (lv_sub hl [0, 1, 2] rfl)
        · have h := zf h c7
          refine lv_aload_n hx hb dX6_hasRoom_25 rfl (lv_at hl 0 rfl) ?_
          refine lv_iload_n hx hb dX6_hasRoom_26 rfl (lv_at hl 2 rfl) ?_
          obtain ⟨r1, h1, h⟩ := zb h
          refine zi (zrV (C := RX6) (T := TX6) (N := 14) (As := [.int v2]) (rest := []) ⟨hx, hb, hml, hown, ht⟩ (c_X6_flowAt l D k o on op orr ot oh og od states bytes reading at_ wrongAt number hh v2 h1 _) (cwV 1 ht (gdV wb987 wb989 wb48 wb80 wb990) rfl rfl rfl (by decide +kernel) ⟨Nat.le_of_ble_eq_true rfl, Nat.le_of_ble_eq_true rfl⟩) hK hP hD hS hA hm [0] rfl rfl 0 6 rfl rfl rfl hl.1 rfl (Nat.le_of_ble_eq_true rfl) dX6_hasRoom_27 ⟨Nat.le_refl _, Nat.le_refl _⟩) hP hD hS hA [0] rfl rfl (fun H locs hP hD hS => ?_)
          have hP : va_P D vwCl [(o, .inr (6, [.ref on, .ref op, .int states, .ref orr, .ref ot, .int bytes, .ref oh, .ref og, .ref od, .int reading, .int at_, .int wrongAt, .int number, .long hh])), (on, .inl (k 0, 401, .inl now))] H := hP
          have hD : va_D A [(o, .inr (6, [.ref on, .ref op, .int states, .ref orr, .ref ot, .int bytes, .ref oh, .ref og, .ref od, .int reading, .int at_, .int wrongAt, .int number, .long hh])), (on, .inl (k 0, 401, .inl now))] := hD
          refine lv_istore_n (lv' := [(3, .int r1), (0, .ref o), (1, .int v1), (2, .int v2)]) hx hb dX6_hasRoom_30 rfl hl (by decide) rfl (fun ls hl => ?_)
          refine lv_aload_n hx hb dX6_hasRoom_31 rfl (lv_at hl 1 rfl) ?_
          refine va_get (D := D) (ci := 6) (v := .ref on) (C := RX6) (T := TX6) (N := 14) hx hb ht hiX6 hown hK hP 0 rfl rfl 0 (by decide) (ht _ wb765) (fun _ h9 => h9) rfl dX6_hasRoom_32 ?_
          refine lv_iload_n hx hb dX6_hasRoom_35 rfl (lv_at hl 0 rfl) ?_
          refine lv_iconst (v := 4) hx hb dX6_hasRoom_36 (by decide) ?_
          refine lv_iadd hx hb dX6_hasRoom_37 ?_
          obtain ⟨hi2, h⟩ := zg h
          refine va_iald hx hb hK hP 1 0 rfl rfl hi2 dX6_hasRoom_38 ?_
          refine lv_iconst (v := 1) hx hb dX6_hasRoom_39 (by decide) ?_
          refine lv_icmp_eq (tgt := 56) hx hb dX6_hasRoom_40 (by decide) (fun c6 => ?_) (fun c6 => ?_)
          · have h := zt h c6
            refine lv_iconst (v := 1) hx hb dX6_hasRoom_56 (by decide) ?_
            refine lv_goto (tgt := 61) hx hb dX6_hasRoom_57 (by decide) ?_
            refine lv_istore (lv' := [(4, .int 1), (3, .int r1), (0, .ref o), (1, .int v1), (2, .int v2)]) hx hb dX6_hasRoom_61 hl (by decide) rfl (fun ls hl => ?_)
            refine lv_iload hx hb dX6_hasRoom_63 (lv_at hl 0 rfl) ?_
            refine lv_if_eq (tgt := 99) hx hb dX6_hasRoom_65 (by decide) (fun c9 => absurd c9 (by decide)) (fun _ => ?_)
            refine lv_iload_n hx hb dX6_hasRoom_68 rfl (lv_at hl 3 rfl) ?_
            refine lv_if_lt (tgt := 95) hx hb dX6_hasRoom_69 (by decide) (fun c2 => ?_) (fun c2 => ?_)
            · have h := zt h c2
              refine lv_iload_n hx hb dX6_hasRoom_95 rfl (lv_at hl 4 rfl) ?_
              refine lv_goto (tgt := 100) hx hb dX6_hasRoom_96 (by decide) ?_
              refine lv_istore_n (lv' := [(1, .int v2), (4, .int 1), (3, .int r1), (0, .ref o), (2, .int v2)]) hx hb dX6_hasRoom_100 rfl hl (by decide) rfl (fun ls hl => ?_)
              refine lv_iinc (v := v2 + 1) (lv' := [(2, .int (v2 + 1)), (1, .int v2), (4, .int 1), (3, .int r1), (0, .ref o)]) hx hb dX6_hasRoom_101 hl (k := 4) rfl rfl (by decide) rfl (fun ls hl => ?_)
              refine lv_goto (tgt := 19) hx hb dX6_hasRoom_104 (by decide) ?_
              exact ih _ _ h _ _ hP hD hS _ (lv_sub hl [4, 1, 0] rfl)
            · have h := zf h c2
              refine lv_aload_n hx hb dX6_hasRoom_72 rfl (lv_at hl 2 rfl) ?_
              refine va_get (D := D) (ci := 6) (v := .ref on) (C := RX6) (T := TX6) (N := 14) hx hb ht hiX6 hown hK hP 0 rfl rfl 0 (by decide) (ht _ wb765) (fun _ h9 => h9) rfl dX6_hasRoom_73 ?_
              refine lv_iload_n hx hb dX6_hasRoom_76 rfl (lv_at hl 1 rfl) ?_
              refine lv_iconst (v := 5) hx hb dX6_hasRoom_77 (by decide) ?_
              refine lv_iadd hx hb dX6_hasRoom_78 ?_
              obtain ⟨hi3, h⟩ := zg h
              refine va_iald hx hb hK hP 1 0 rfl rfl hi3 dX6_hasRoom_79 ?_
              refine lv_aload_n hx hb dX6_hasRoom_80 rfl (lv_at hl 2 rfl) ?_
              refine va_get (D := D) (ci := 6) (v := .ref on) (C := RX6) (T := TX6) (N := 14) hx hb ht hiX6 hown hK hP 0 rfl rfl 0 (by decide) (ht _ wb765) (fun _ h9 => h9) rfl dX6_hasRoom_81 ?_
              refine lv_aload_n hx hb dX6_hasRoom_84 rfl (lv_at hl 2 rfl) ?_
              refine lv_iload_n hx hb dX6_hasRoom_85 rfl (lv_at hl 3 rfl) ?_
              obtain ⟨r2, h2, h⟩ := zb h
              refine zi (zrV (C := RX6) (T := TX6) (N := 14) (As := [.int v1]) (rest := [.ref on, .int (now (Int32.toNatClampNeg (r1 + 5)))]) ⟨hx, hb, hml, hown, ht⟩ (c_X6_flowAt l D k o on op orr ot oh og od states bytes reading at_ wrongAt number hh v1 h2 _) (cwV 1 ht (gdV wb987 wb989 wb48 wb80 wb990) rfl rfl rfl (by decide +kernel) ⟨Nat.le_of_ble_eq_true rfl, Nat.le_of_ble_eq_true rfl⟩) hK hP hD hS hA hm [0] rfl rfl 0 6 rfl rfl rfl hl.1 rfl (Nat.le_of_ble_eq_true rfl) dX6_hasRoom_86 ⟨Nat.le_refl _, Nat.le_refl _⟩) hP hD hS hA [0] rfl rfl (fun H locs hP hD hS => ?_)
              have hP : va_P D vwCl [(o, .inr (6, [.ref on, .ref op, .int states, .ref orr, .ref ot, .int bytes, .ref oh, .ref og, .ref od, .int reading, .int at_, .int wrongAt, .int number, .long hh])), (on, .inl (k 0, 401, .inl now))] H := hP
              have hD : va_D A [(o, .inr (6, [.ref on, .ref op, .int states, .ref orr, .ref ot, .int bytes, .ref oh, .ref og, .ref od, .int reading, .int at_, .int wrongAt, .int number, .long hh])), (on, .inl (k 0, 401, .inl now))] := hD
              refine lv_iconst (v := 5) hx hb dX6_hasRoom_89 (by decide) ?_
              refine lv_iadd hx hb dX6_hasRoom_90 ?_
              obtain ⟨hi4, h⟩ := zg h
              refine va_iald hx hb hK hP 1 0 rfl rfl hi4 dX6_hasRoom_91 ?_
              refine lv_icmp_ge (tgt := 99) hx hb dX6_hasRoom_92 (by decide) (fun c1 => ?_) (fun c1 => ?_)
              · have h := zt h c1
                refine lv_iload_n hx hb dX6_hasRoom_99 rfl (lv_at hl 3 rfl) ?_
                refine lv_istore_n (lv' := [(1, .int v1), (4, .int 1), (3, .int r1), (0, .ref o), (2, .int v2)]) hx hb dX6_hasRoom_100 rfl hl (by decide) rfl (fun ls hl => ?_)
                refine lv_iinc (v := v2 + 1) (lv' := [(2, .int (v2 + 1)), (1, .int v1), (4, .int 1), (3, .int r1), (0, .ref o)]) hx hb dX6_hasRoom_101 hl (k := 4) rfl rfl (by decide) rfl (fun ls hl => ?_)
                refine lv_goto (tgt := 19) hx hb dX6_hasRoom_104 (by decide) ?_
                exact ih _ _ h _ _ hP hD hS _ (lv_sub hl [4, 1, 0] rfl)
              · have h := zf h c1
                refine lv_iload_n hx hb dX6_hasRoom_95 rfl (lv_at hl 4 rfl) ?_
                refine lv_goto (tgt := 100) hx hb dX6_hasRoom_96 (by decide) ?_
                refine lv_istore_n (lv' := [(1, .int v2), (4, .int 1), (3, .int r1), (0, .ref o), (2, .int v2)]) hx hb dX6_hasRoom_100 rfl hl (by decide) rfl (fun ls hl => ?_)
                refine lv_iinc (v := v2 + 1) (lv' := [(2, .int (v2 + 1)), (1, .int v2), (4, .int 1), (3, .int r1), (0, .ref o)]) hx hb dX6_hasRoom_101 hl (k := 4) rfl rfl (by decide) rfl (fun ls hl => ?_)
                refine lv_goto (tgt := 19) hx hb dX6_hasRoom_104 (by decide) ?_
                exact ih _ _ h _ _ hP hD hS _ (lv_sub hl [4, 1, 0] rfl)
          · have h := zf h c6
            refine lv_aload_n hx hb dX6_hasRoom_43 rfl (lv_at hl 1 rfl) ?_
            refine va_get (D := D) (ci := 6) (v := .ref on) (C := RX6) (T := TX6) (N := 14) hx hb ht hiX6 hown hK hP 0 rfl rfl 0 (by decide) (ht _ wb765) (fun _ h9 => h9) rfl dX6_hasRoom_44 ?_
            refine lv_iload_n hx hb dX6_hasRoom_47 rfl (lv_at hl 0 rfl) ?_
            refine lv_iconst (v := 4) hx hb dX6_hasRoom_48 (by decide) ?_
            refine lv_iadd hx hb dX6_hasRoom_49 ?_
            obtain ⟨hi5, h⟩ := zg h
            refine va_iald hx hb hK hP 1 0 rfl rfl hi5 dX6_hasRoom_50 ?_
            refine lv_bipush (v := 6) hx hb dX6_hasRoom_51 (by decide) ?_
            refine lv_icmp_ne (tgt := 60) hx hb dX6_hasRoom_53 (by decide) (fun c5 => ?_) (fun c5 => ?_)
            · have h := zf h c5
              refine lv_iconst (v := 0) hx hb dX6_hasRoom_60 (by decide) ?_
              refine lv_istore (lv' := [(4, .int 0), (3, .int r1), (0, .ref o), (1, .int v1), (2, .int v2)]) hx hb dX6_hasRoom_61 hl (by decide) rfl (fun ls hl => ?_)
              refine lv_iload hx hb dX6_hasRoom_63 (lv_at hl 0 rfl) ?_
              refine lv_if_eq (tgt := 99) hx hb dX6_hasRoom_65 (by decide) (fun _ => ?_) (fun c9 => absurd (by decide) c9)
              refine lv_iload_n hx hb dX6_hasRoom_99 rfl (lv_at hl 3 rfl) ?_
              refine lv_istore_n (lv' := [(1, .int v1), (4, .int 0), (3, .int r1), (0, .ref o), (2, .int v2)]) hx hb dX6_hasRoom_100 rfl hl (by decide) rfl (fun ls hl => ?_)
              refine lv_iinc (v := v2 + 1) (lv' := [(2, .int (v2 + 1)), (1, .int v1), (4, .int 0), (3, .int r1), (0, .ref o)]) hx hb dX6_hasRoom_101 hl (k := 4) rfl rfl (by decide) rfl (fun ls hl => ?_)
              refine lv_goto (tgt := 19) hx hb dX6_hasRoom_104 (by decide) ?_
              exact ih _ _ h _ _ hP hD hS _ (lv_sub hl [4, 1, 0] rfl)
            · have h := zt h c5
              refine lv_iconst (v := 1) hx hb dX6_hasRoom_56 (by decide) ?_
              refine lv_goto (tgt := 61) hx hb dX6_hasRoom_57 (by decide) ?_
              refine lv_istore (lv' := [(4, .int 1), (3, .int r1), (0, .ref o), (1, .int v1), (2, .int v2)]) hx hb dX6_hasRoom_61 hl (by decide) rfl (fun ls hl => ?_)
              refine lv_iload hx hb dX6_hasRoom_63 (lv_at hl 0 rfl) ?_
              refine lv_if_eq (tgt := 99) hx hb dX6_hasRoom_65 (by decide) (fun c9 => absurd c9 (by decide)) (fun _ => ?_)
              refine lv_iload_n hx hb dX6_hasRoom_68 rfl (lv_at hl 3 rfl) ?_
              refine lv_if_lt (tgt := 95) hx hb dX6_hasRoom_69 (by decide) (fun c4 => ?_) (fun c4 => ?_)
              · have h := zt h c4
                refine lv_iload_n hx hb dX6_hasRoom_95 rfl (lv_at hl 4 rfl) ?_
                refine lv_goto (tgt := 100) hx hb dX6_hasRoom_96 (by decide) ?_
                refine lv_istore_n (lv' := [(1, .int v2), (4, .int 1), (3, .int r1), (0, .ref o), (2, .int v2)]) hx hb dX6_hasRoom_100 rfl hl (by decide) rfl (fun ls hl => ?_)
                refine lv_iinc (v := v2 + 1) (lv' := [(2, .int (v2 + 1)), (1, .int v2), (4, .int 1), (3, .int r1), (0, .ref o)]) hx hb dX6_hasRoom_101 hl (k := 4) rfl rfl (by decide) rfl (fun ls hl => ?_)
                refine lv_goto (tgt := 19) hx hb dX6_hasRoom_104 (by decide) ?_
                exact ih _ _ h _ _ hP hD hS _ (lv_sub hl [4, 1, 0] rfl)
              · have h := zf h c4
                refine lv_aload_n hx hb dX6_hasRoom_72 rfl (lv_at hl 2 rfl) ?_
                refine va_get (D := D) (ci := 6) (v := .ref on) (C := RX6) (T := TX6) (N := 14) hx hb ht hiX6 hown hK hP 0 rfl rfl 0 (by decide) (ht _ wb765) (fun _ h9 => h9) rfl dX6_hasRoom_73 ?_
                refine lv_iload_n hx hb dX6_hasRoom_76 rfl (lv_at hl 1 rfl) ?_
                refine lv_iconst (v := 5) hx hb dX6_hasRoom_77 (by decide) ?_
                refine lv_iadd hx hb dX6_hasRoom_78 ?_
                obtain ⟨hi6, h⟩ := zg h
                refine va_iald hx hb hK hP 1 0 rfl rfl hi6 dX6_hasRoom_79 ?_
                refine lv_aload_n hx hb dX6_hasRoom_80 rfl (lv_at hl 2 rfl) ?_
                refine va_get (D := D) (ci := 6) (v := .ref on) (C := RX6) (T := TX6) (N := 14) hx hb ht hiX6 hown hK hP 0 rfl rfl 0 (by decide) (ht _ wb765) (fun _ h9 => h9) rfl dX6_hasRoom_81 ?_
                refine lv_aload_n hx hb dX6_hasRoom_84 rfl (lv_at hl 2 rfl) ?_
                refine lv_iload_n hx hb dX6_hasRoom_85 rfl (lv_at hl 3 rfl) ?_
                obtain ⟨r3, h3, h⟩ := zb h
                refine zi (zrV (C := RX6) (T := TX6) (N := 14) (As := [.int v1]) (rest := [.ref on, .int (now (Int32.toNatClampNeg (r1 + 5)))]) ⟨hx, hb, hml, hown, ht⟩ (c_X6_flowAt l D k o on op orr ot oh og od states bytes reading at_ wrongAt number hh v1 h3 _) (cwV 1 ht (gdV wb987 wb989 wb48 wb80 wb990) rfl rfl rfl (by decide +kernel) ⟨Nat.le_of_ble_eq_true rfl, Nat.le_of_ble_eq_true rfl⟩) hK hP hD hS hA hm [0] rfl rfl 0 6 rfl rfl rfl hl.1 rfl (Nat.le_of_ble_eq_true rfl) dX6_hasRoom_86 ⟨Nat.le_refl _, Nat.le_refl _⟩) hP hD hS hA [0] rfl rfl (fun H locs hP hD hS => ?_)
                have hP : va_P D vwCl [(o, .inr (6, [.ref on, .ref op, .int states, .ref orr, .ref ot, .int bytes, .ref oh, .ref og, .ref od, .int reading, .int at_, .int wrongAt, .int number, .long hh])), (on, .inl (k 0, 401, .inl now))] H := hP
                have hD : va_D A [(o, .inr (6, [.ref on, .ref op, .int states, .ref orr, .ref ot, .int bytes, .ref oh, .ref og, .ref od, .int reading, .int at_, .int wrongAt, .int number, .long hh])), (on, .inl (k 0, 401, .inl now))] := hD
                refine lv_iconst (v := 5) hx hb dX6_hasRoom_89 (by decide) ?_
                refine lv_iadd hx hb dX6_hasRoom_90 ?_
                obtain ⟨hi7, h⟩ := zg h
                refine va_iald hx hb hK hP 1 0 rfl rfl hi7 dX6_hasRoom_91 ?_
                refine lv_icmp_ge (tgt := 99) hx hb dX6_hasRoom_92 (by decide) (fun c3 => ?_) (fun c3 => ?_)
                · have h := zt h c3
                  refine lv_iload_n hx hb dX6_hasRoom_99 rfl (lv_at hl 3 rfl) ?_
                  refine lv_istore_n (lv' := [(1, .int v1), (4, .int 1), (3, .int r1), (0, .ref o), (2, .int v2)]) hx hb dX6_hasRoom_100 rfl hl (by decide) rfl (fun ls hl => ?_)
                  refine lv_iinc (v := v2 + 1) (lv' := [(2, .int (v2 + 1)), (1, .int v1), (4, .int 1), (3, .int r1), (0, .ref o)]) hx hb dX6_hasRoom_101 hl (k := 4) rfl rfl (by decide) rfl (fun ls hl => ?_)
                  refine lv_goto (tgt := 19) hx hb dX6_hasRoom_104 (by decide) ?_
                  exact ih _ _ h _ _ hP hD hS _ (lv_sub hl [4, 1, 0] rfl)
                · have h := zf h c3
                  refine lv_iload_n hx hb dX6_hasRoom_95 rfl (lv_at hl 4 rfl) ?_
                  refine lv_goto (tgt := 100) hx hb dX6_hasRoom_96 (by decide) ?_
                  refine lv_istore_n (lv' := [(1, .int v2), (4, .int 1), (3, .int r1), (0, .ref o), (2, .int v2)]) hx hb dX6_hasRoom_100 rfl hl (by decide) rfl (fun ls hl => ?_)
                  refine lv_iinc (v := v2 + 1) (lv' := [(2, .int (v2 + 1)), (1, .int v2), (4, .int 1), (3, .int r1), (0, .ref o)]) hx hb dX6_hasRoom_101 hl (k := 4) rfl rfl (by decide) rfl (fun ls hl => ?_)
                  refine lv_goto (tgt := 19) hx hb dX6_hasRoom_104 (by decide) ?_
                  exact ih _ _ h _ _ hP hD hS _ (lv_sub hl [4, 1, 0] rfl)
    refine loop19 _ _ _ _ _ _ _ _ _ ?_ fu _ _ h _ _ hP hD hS _ (lv_sub hl [2, 1, 0] rfl)
    intro x1 x2 h H locs hP hD hS ls hl
    try dsimp only at h
    have hP : va_P D vwCl [(o, .inr (6, [.ref on, .ref op, .int states, .ref orr, .ref ot, .int bytes, .ref oh, .ref og, .ref od, .int reading, .int at_, .int wrongAt, .int number, .long hh])), (on, .inl (k 0, 401, .inl now))] H := hP
    have hD : va_D A [(o, .inr (6, [.ref on, .ref op, .int states, .ref orr, .ref ot, .int bytes, .ref oh, .ref og, .ref od, .int reading, .int at_, .int wrongAt, .int number, .long hh])), (on, .inl (k 0, 401, .inl now))] := hD
    have hl : lv_has ls 5 [(0, .ref o), (1, .int x1), (2, .int x2)] := hl
    refine lv_iload_n hx hb dX6_hasRoom_107 rfl (lv_at hl 1 rfl) ?_
    refine lv_if_lt (tgt := 116) hx hb dX6_hasRoom_108 (by decide) (fun c10 => ?_) (fun c10 => ?_)
    · have h := zt h c10
      refine lv_iload_n hx hb dX6_hasRoom_116 rfl (lv_at hl 1 rfl) ?_
      refine lv_if_lt (tgt := 124) hx hb dX6_hasRoom_117 (by decide) (fun c8 => ?_) (fun c8 => ?_)
      · have h := zt h c8
        refine lv_iconst (v := 0) hx hb dX6_hasRoom_124 (by decide) ?_
        obtain rfl := Option.some.inj h
        exact W.zret (v := 0) (ty := .boolean) hx hb hr (rfl) (fun t ht9 hW => ⟨⟨_, (), rfl, rfl, zend ht9 hP⟩, hS.F ht9⟩) hS.2.2 dX6_hasRoom_125
      · have h := zf h c8
        refine lv_iconst (v := 1) hx hb dX6_hasRoom_120 (by decide) ?_
        refine lv_goto (tgt := 125) hx hb dX6_hasRoom_121 (by decide) ?_
        obtain rfl := Option.some.inj h
        exact W.zret (v := 1) (ty := .boolean) hx hb hr (rfl) (fun t ht9 hW => ⟨⟨_, (), rfl, rfl, zend ht9 hP⟩, hS.F ht9⟩) hS.2.2 dX6_hasRoom_125
    · have h := zf h c10
      refine lv_aload_n hx hb dX6_hasRoom_111 rfl (lv_at hl 0 rfl) ?_
      refine lv_iload_n hx hb dX6_hasRoom_112 rfl (lv_at hl 1 rfl) ?_
      obtain ⟨r4, h4, h⟩ := zb h
      refine zv (zrV (C := RX6) (T := TX6) (N := 14) (As := [.int x1]) (rest := []) ⟨hx, hb, hml, hown, ht⟩ (c_X6_flowGoes l D k o on op orr ot oh og od states bytes reading at_ wrongAt number hh now x1 fu h4 _) (cwV 1 ht (gdV wb999 wb1001 wb51 wb80 wb1002) rfl rfl rfl (by decide +kernel) ⟨Nat.le_of_ble_eq_true rfl, Nat.le_of_ble_eq_true rfl⟩) hK hP hD hS hA hm [0, 1] rfl rfl 0 6 rfl rfl rfl hl.1 rfl (Nat.le_of_ble_eq_true rfl) dX6_hasRoom_113 ⟨Nat.le_refl _, Nat.le_refl _⟩) hP hD hS hA [0, 1] rfl rfl (fun H locs hP hD hS => ?_)
      have hP : va_P D vwCl [(o, .inr (6, [.ref on, .ref op, .int states, .ref orr, .ref ot, .int bytes, .ref oh, .ref og, .ref od, .int reading, .int at_, .int wrongAt, .int number, .long hh])), (on, .inl (k 0, 401, .inl r4))] H := hP
      have hD : va_D A [(o, .inr (6, [.ref on, .ref op, .int states, .ref orr, .ref ot, .int bytes, .ref oh, .ref og, .ref od, .int reading, .int at_, .int wrongAt, .int number, .long hh])), (on, .inl (k 0, 401, .inl r4))] := hD
      refine lv_iload_n hx hb dX6_hasRoom_116 rfl (lv_at hl 1 rfl) ?_
      refine lv_if_lt (tgt := 124) hx hb dX6_hasRoom_117 (by decide) (fun c9 => ?_) (fun c9 => ?_)
      · have h := zt h c9
        refine lv_iconst (v := 0) hx hb dX6_hasRoom_124 (by decide) ?_
        obtain rfl := Option.some.inj h
        exact W.zret (v := 0) (ty := .boolean) hx hb hr (rfl) (fun t ht9 hW => ⟨⟨_, (), rfl, rfl, zend ht9 hP⟩, hS.F ht9⟩) hS.2.2 dX6_hasRoom_125
      · have h := zf h c9
        refine lv_iconst (v := 1) hx hb dX6_hasRoom_120 (by decide) ?_
        refine lv_goto (tgt := 125) hx hb dX6_hasRoom_121 (by decide) ?_
        obtain rfl := Option.some.inj h
        exact W.zret (v := 1) (ty := .boolean) hx hb hr (rfl) (fun t ht9 hW => ⟨⟨_, (), rfl, rfl, zend ht9 hP⟩, hS.F ht9⟩) hS.2.2 dX6_hasRoom_125
  · have h := zf h c11
    refine lv_iconst (v := 1) hx hb dX6_hasRoom_13 (by decide) ?_
    obtain rfl := Option.some.inj h
    exact W.zret (v := 1) (ty := .boolean) hx hb hr (rfl) (fun t ht9 hW => ⟨⟨_, (), rfl, rfl, zend ht9 hP⟩, hS.F ht9⟩) hS.2.2 dX6_hasRoom_14
def f_X6_asks (fu : Nat) (now : Nat → Int32) (fitting : Nat → Int32) (a1 : Int32) (a2 : Int32) (a3 : Int32) (a4 : Int32) : Option (Int32 × (Nat → Int32) × (Nat → Int32)) :=
  (f_X6_findsNow fu now fitting ).bind fun r1 => (f_X6_caseOf  a1 a2 a3 a4).bind fun r2 => (f_X6_fits r1 0 r2).bind fun r3 => (f_X6_firstOf fu  r3).bind fun r4 => if 0 ≤ r4 then (if zok ((33 + (11 * r4)) + 10) 401 then (if zok ((33 + (11 * r4)) + 10) 401 then (if zok ((33 + (11 * r4)) + 9) 401 then (some ((upd now (Int32.toNatClampNeg ((33 + (11 * r4)) + 10)) ((now (Int32.toNatClampNeg ((33 + (11 * r4)) + 10))) + 1)) (Int32.toNatClampNeg ((33 + (11 * r4)) + 9)), upd now (Int32.toNatClampNeg ((33 + (11 * r4)) + 10)) ((now (Int32.toNatClampNeg ((33 + (11 * r4)) + 10))) + 1), r1)) else none) else none) else none) else (some (0, now, r1))
abbrev wk_X6_asks : List Cond := Cond.code yX6_asks cX6_asks 6 (some .int) :: WB
abbrev rm_X6_asks : Room := { frames := 4, cells := 0, slots := 0, locals := 91 }
set_option maxHeartbeats 4000000 in
set_option maxRecDepth 100000 in
theorem c_X6_asks (l : Launch) (D : va_G) (k : Nat → Nat) (o on op orr ot oh og od : Nat) (states : Int32) (bytes : Int32) (reading : Int32) (at_ : Int32) (wrongAt : Int32) (number : Int32) (hh : Int64) (now : Nat → Int32) (fitting : Nat → Int32) (a1 : Int32) (a2 : Int32) (a3 : Int32) (a4 : Int32) (fu : Nat) {res : Int32 × (Nat → Int32) × (Nat → Int32)} (h : f_X6_asks fu now fitting a1 a2 a3 a4 = some res) : Ci l yX6_asks wk_X6_asks rm_X6_asks D k [.ref o, .int a1, .int a2, .int a3, .int a4] [(o, .inr (6, [.ref on, .ref op, .int states, .ref orr, .ref ot, .int bytes, .ref oh, .ref og, .ref od, .int reading, .int at_, .int wrongAt, .int number, .long hh])), (on, .inl (k 0, 401, .inl now)), (og, .inl (k 0, 164, .inl fitting))] [(o, .inr (6, [.ref on, .ref op, .int states, .ref orr, .ref ot, .int bytes, .ref oh, .ref og, .ref od, .int reading, .int at_, .int wrongAt, .int number, .long hh])), (on, .inl (k 0, 401, .inl res.2.1)), (og, .inl (k 0, 164, .inl res.2.2))] res.1 := by
  unfold Ci
  intro sz
  refine Met.ofW (cc := cX6_asks) (maxL := 6) (ret := (some .int)) (by decide) rfl ?_
  intro p e s m args below meth c s₁ B hml hv
  obtain ⟨rfl, hsz, hP, hK, hD0, hm⟩ := hv
  have hx := B.exec
  have hb := B.bytes
  have hr := B.returns
  have ht : ∀ w ∈ WB, w.before _ s = true := fun w hw => atoms_spec (ws := wk_X6_asks) B.pre w (List.mem_cons_of_mem _ hw)
  have hown : s.vm.findClass RX6 = some m.cls := findClass_of_methodNamed B.named
  have hlocks := B.notSynchronized
  subst hsz
  have hD := hD0.self (sz := s.heap.size)
  generalize hAe : va_A [(o, .inr (6, [.ref on, .ref op, .int states, .ref orr, .ref ot, .int bytes, .ref oh, .ref og, .ref od, .int reading, .int at_, .int wrongAt, .int number, .long hh])), (on, .inl (k 0, 401, .inl now)), (og, .inl (k 0, 164, .inl fitting))] s.heap.size = A at hD hm ⊢
  have hA : ∀ q : Nat, s.heap.size ≤ q → A q := fun q h => by rw [← hAe]; exact Or.inr h
  have hS : va_S A s.heap s.heap [] := va_S.rf
  have hl := lv_entry ([.ref o, .int a1, .int a2, .int a3, .int a4]) (n := 6) (Nat.le_of_ble_eq_true rfl)
  rw [lg_entry_eq]
  generalize (lg_sl ([.ref o, .int a1, .int a2, .int a3, .int a4]) ++ List.replicate (6 - (lg_sl ([.ref o, .int a1, .int a2, .int a3, .int a4])).length) Slot.unset).toArray = ls at hl ⊢
  have hl : lv_has ls 6 [(0, .ref o), (1, .int a1), (2, .int a2), (3, .int a3), (4, .int a4)] := hl
  obtain ⟨H, hH⟩ : ∃ H, H = s.heap := ⟨_, rfl⟩
  rw [← hH] at hP
  have hS : va_S A s.heap H [] := by rw [hH]; exact hS
  suffices hgo : W p l e _ s m _ below meth c H [] 0 0 _ _ by rw [hH] at hgo; exact hgo
  unfold f_X6_asks at h
  refine lv_aload_n hx hb dX6_asks_0 rfl (lv_at hl 0 rfl) ?_
  obtain ⟨r1, h1, h⟩ := zb h
  refine zv (zrV (C := RX6) (T := TX6) (N := 14) (As := []) (rest := []) ⟨hx, hb, hml, hown, ht⟩ (c_X6_findsNow l D k o on op orr ot oh og od states bytes reading at_ wrongAt number hh now fitting  fu h1 _) (cwV 0 ht (gdV wb899 wb901 wb36 wb80 wb902) rfl rfl rfl (by decide +kernel) ⟨Nat.le_of_ble_eq_true rfl, Nat.le_of_ble_eq_true rfl⟩) hK hP hD hS hA hm [0, 1, 2] rfl rfl 0 6 rfl rfl rfl hl.1 rfl (Nat.le_of_ble_eq_true rfl) dX6_asks_1 ⟨Nat.le_refl _, Nat.le_refl _⟩) hP hD hS hA [0, 1, 2] rfl rfl (fun H locs hP hD hS => ?_)
  have hP : va_P D vwCl [(o, .inr (6, [.ref on, .ref op, .int states, .ref orr, .ref ot, .int bytes, .ref oh, .ref og, .ref od, .int reading, .int at_, .int wrongAt, .int number, .long hh])), (on, .inl (k 0, 401, .inl now)), (og, .inl (k 0, 164, .inl r1))] H := hP
  have hD : va_D A [(o, .inr (6, [.ref on, .ref op, .int states, .ref orr, .ref ot, .int bytes, .ref oh, .ref og, .ref od, .int reading, .int at_, .int wrongAt, .int number, .long hh])), (on, .inl (k 0, 401, .inl now)), (og, .inl (k 0, 164, .inl r1))] := hD
  refine lv_aload_n hx hb dX6_asks_4 rfl (lv_at hl 0 rfl) ?_
  refine lv_iconst (v := 0) hx hb dX6_asks_5 (by decide) ?_
  refine lv_iload_n hx hb dX6_asks_6 rfl (lv_at hl 1 rfl) ?_
  refine lv_iload_n hx hb dX6_asks_7 rfl (lv_at hl 2 rfl) ?_
  refine lv_iload_n hx hb dX6_asks_8 rfl (lv_at hl 3 rfl) ?_
  refine lv_iload hx hb dX6_asks_9 (lv_at hl 4 rfl) ?_
  obtain ⟨r2, h2, h⟩ := zb h
  refine zi (zrS (As := [.int a1, .int a2, .int a3, .int a4]) (rest := [.int 0, .ref o]) ⟨hx, hb, hml, hown, ht⟩ (c_X6_caseOf l D k   a1 a2 a3 a4 h2 _) (va_cwS 4 ht (gdS wb915 wb916 wb80 wb917) rfl rfl rfl (by decide +kernel) ⟨Nat.le_of_ble_eq_true rfl, Nat.le_of_ble_eq_true rfl⟩) hK hP hD hS hA hm [] rfl rfl rfl hl.1 rfl (Nat.le_of_ble_eq_true rfl) dX6_asks_11 ⟨Nat.le_refl _, Nat.le_refl _⟩) hP hD hS hA [] rfl rfl (fun H locs hP hD hS => ?_)
  have hP : va_P D vwCl [(o, .inr (6, [.ref on, .ref op, .int states, .ref orr, .ref ot, .int bytes, .ref oh, .ref og, .ref od, .int reading, .int at_, .int wrongAt, .int number, .long hh])), (on, .inl (k 0, 401, .inl now)), (og, .inl (k 0, 164, .inl r1))] H := hP
  have hD : va_D A [(o, .inr (6, [.ref on, .ref op, .int states, .ref orr, .ref ot, .int bytes, .ref oh, .ref og, .ref od, .int reading, .int at_, .int wrongAt, .int number, .long hh])), (on, .inl (k 0, 401, .inl now)), (og, .inl (k 0, 164, .inl r1))] := hD
  obtain ⟨r3, h3, h⟩ := zb h
  refine zi (zrV (C := RX6) (T := TX6) (N := 14) (As := [.int 0, .int r2]) (rest := []) ⟨hx, hb, hml, hown, ht⟩ (c_X6_fits l D k o on op orr ot oh og od states bytes reading at_ wrongAt number hh r1 0 r2 h3 _) (cwV 2 ht (gdV wb918 wb920 wb40 wb80 wb921) rfl rfl rfl (by decide +kernel) ⟨Nat.le_of_ble_eq_true rfl, Nat.le_of_ble_eq_true rfl⟩) hK hP hD hS hA hm [0, 2] rfl rfl 0 6 rfl rfl rfl hl.1 rfl (Nat.le_of_ble_eq_true rfl) dX6_asks_14 ⟨Nat.le_refl _, Nat.le_refl _⟩) hP hD hS hA [0, 2] rfl rfl (fun H locs hP hD hS => ?_)
  have hP : va_P D vwCl [(o, .inr (6, [.ref on, .ref op, .int states, .ref orr, .ref ot, .int bytes, .ref oh, .ref og, .ref od, .int reading, .int at_, .int wrongAt, .int number, .long hh])), (on, .inl (k 0, 401, .inl now)), (og, .inl (k 0, 164, .inl r1))] H := hP
  have hD : va_D A [(o, .inr (6, [.ref on, .ref op, .int states, .ref orr, .ref ot, .int bytes, .ref oh, .ref og, .ref od, .int reading, .int at_, .int wrongAt, .int number, .long hh])), (on, .inl (k 0, 401, .inl now)), (og, .inl (k 0, 164, .inl r1))] := hD
  obtain ⟨r4, h4, h⟩ := zb h
  refine zi (zrS (As := [.int r3]) (rest := []) ⟨hx, hb, hml, hown, ht⟩ (c_X6_firstOf l D k   r3 fu h4 _) (va_cwS 1 ht (gdS wb931 wb932 wb80 wb933) rfl rfl rfl (by decide +kernel) ⟨Nat.le_of_ble_eq_true rfl, Nat.le_of_ble_eq_true rfl⟩) hK hP hD hS hA hm [] rfl rfl rfl hl.1 rfl (Nat.le_of_ble_eq_true rfl) dX6_asks_17 ⟨Nat.le_refl _, Nat.le_refl _⟩) hP hD hS hA [] rfl rfl (fun H locs hP hD hS => ?_)
  have hP : va_P D vwCl [(o, .inr (6, [.ref on, .ref op, .int states, .ref orr, .ref ot, .int bytes, .ref oh, .ref og, .ref od, .int reading, .int at_, .int wrongAt, .int number, .long hh])), (on, .inl (k 0, 401, .inl now)), (og, .inl (k 0, 164, .inl r1))] H := hP
  have hD : va_D A [(o, .inr (6, [.ref on, .ref op, .int states, .ref orr, .ref ot, .int bytes, .ref oh, .ref og, .ref od, .int reading, .int at_, .int wrongAt, .int number, .long hh])), (on, .inl (k 0, 401, .inl now)), (og, .inl (k 0, 164, .inl r1))] := hD
  refine lv_istore (lv' := [(5, .int r4), (0, .ref o), (1, .int a1), (2, .int a2), (3, .int a3), (4, .int a4)]) hx hb dX6_asks_20 hl (by decide) rfl (fun ls hl => ?_)
  refine lv_iload hx hb dX6_asks_22 (lv_at hl 0 rfl) ?_
  refine lv_if_ge (tgt := 29) hx hb dX6_asks_24 (by decide) (fun c1 => ?_) (fun c1 => ?_)
  · have h := zt h c1
    refine lv_aload_n hx hb dX6_asks_29 rfl (lv_at hl 1 rfl) ?_
    refine va_get (D := D) (ci := 6) (v := .ref on) (C := RX6) (T := TX6) (N := 14) hx hb ht hiX6 hown hK hP 0 rfl rfl 0 (by decide) (ht _ wb765) (fun _ h9 => h9) rfl dX6_asks_30 ?_
    refine lv_bipush (v := 33) hx hb dX6_asks_33 (by decide) ?_
    refine lv_bipush (v := 11) hx hb dX6_asks_35 (by decide) ?_
    refine lv_iload hx hb dX6_asks_37 (lv_at hl 0 rfl) ?_
    refine lv_imul hx hb dX6_asks_39 ?_
    refine lv_iadd hx hb dX6_asks_40 ?_
    refine lv_bipush (v := 10) hx hb dX6_asks_41 (by decide) ?_
    refine lv_iadd hx hb dX6_asks_43 ?_
    refine lv_dup2_11 hx hb dX6_asks_44 rfl rfl ?_
    obtain ⟨hi1, h⟩ := zg h
    refine va_iald hx hb hK hP 1 0 rfl rfl hi1 dX6_asks_45 ?_
    refine lv_iconst (v := 1) hx hb dX6_asks_46 (by decide) ?_
    refine lv_iadd hx hb dX6_asks_47 ?_
    obtain ⟨hi2, h⟩ := zg h
    refine va_iast hx hb hK hP hD hS 1 0 rfl rfl hi2 dX6_asks_48 (fun H locs hP hD hS => ?_)
    have hP : va_P D vwCl [(o, .inr (6, [.ref on, .ref op, .int states, .ref orr, .ref ot, .int bytes, .ref oh, .ref og, .ref od, .int reading, .int at_, .int wrongAt, .int number, .long hh])), (on, .inl (k 0, 401, .inl (upd now (Int32.toNatClampNeg ((33 + (11 * r4)) + 10)) ((now (Int32.toNatClampNeg ((33 + (11 * r4)) + 10))) + 1)))), (og, .inl (k 0, 164, .inl r1))] H := hP
    have hD : va_D A [(o, .inr (6, [.ref on, .ref op, .int states, .ref orr, .ref ot, .int bytes, .ref oh, .ref og, .ref od, .int reading, .int at_, .int wrongAt, .int number, .long hh])), (on, .inl (k 0, 401, .inl (upd now (Int32.toNatClampNeg ((33 + (11 * r4)) + 10)) ((now (Int32.toNatClampNeg ((33 + (11 * r4)) + 10))) + 1)))), (og, .inl (k 0, 164, .inl r1))] := hD
    refine lv_aload_n hx hb dX6_asks_49 rfl (lv_at hl 1 rfl) ?_
    refine va_get (D := D) (ci := 6) (v := .ref on) (C := RX6) (T := TX6) (N := 14) hx hb ht hiX6 hown hK hP 0 rfl rfl 0 (by decide) (ht _ wb765) (fun _ h9 => h9) rfl dX6_asks_50 ?_
    refine lv_bipush (v := 33) hx hb dX6_asks_53 (by decide) ?_
    refine lv_bipush (v := 11) hx hb dX6_asks_55 (by decide) ?_
    refine lv_iload hx hb dX6_asks_57 (lv_at hl 0 rfl) ?_
    refine lv_imul hx hb dX6_asks_59 ?_
    refine lv_iadd hx hb dX6_asks_60 ?_
    refine lv_bipush (v := 9) hx hb dX6_asks_61 (by decide) ?_
    refine lv_iadd hx hb dX6_asks_63 ?_
    obtain ⟨hi3, h⟩ := zg h
    refine va_iald hx hb hK hP 1 0 rfl rfl hi3 dX6_asks_64 ?_
    obtain rfl := Option.some.inj h
    exact W.iret (v := (upd now (Int32.toNatClampNeg ((33 + (11 * r4)) + 10)) ((now (Int32.toNatClampNeg ((33 + (11 * r4)) + 10))) + 1)) (Int32.toNatClampNeg ((33 + (11 * r4)) + 9))) hx hb hr (fun t ht9 hW => ⟨⟨_, (), rfl, rfl, zend ht9 hP⟩, hS.F ht9⟩) hS.2.2 dX6_asks_65
  · have h := zf h c1
    refine lv_iconst (v := 0) hx hb dX6_asks_27 (by decide) ?_
    obtain rfl := Option.some.inj h
    exact W.iret (v := 0) hx hb hr (fun t ht9 hW => ⟨⟨_, (), rfl, rfl, zend ht9 hP⟩, hS.F ht9⟩) hS.2.2 dX6_asks_28
def f_X6_opens (fu : Nat) (now : Nat → Int32) (fitting : Nat → Int32) (a1 : Int32) (a2 : Int32) (a3 : Int32) (a4 : Int32) : Option (Int32 × (Nat → Int32) × (Nat → Int32)) :=
  (f_X6_saidOf fu now a1 a2 a3 a4).bind fun r1 => if r1 < 0 then (if r1 < 0 then ((f_X6_asks fu now fitting a1 a2 a3 a4).bind fun r2 => if r2.1 = 1 then ((f_X6_hasRoom fu r2.2.1 ).bind fun r3 => if (zB r3.1) = 0 then (some (4, r3.2, r2.2.2)) else (if zok 298 401 then ((f_X6_flowAt  (r3.2 (Int32.toNatClampNeg 298))).bind fun r4 => if zok r4 401 then (if zok (r4 + 1) 401 then (if zok (r4 + 2) 401 then (if zok (r4 + 3) 401 then (if zok (r4 + 6) 401 then (if a4 = 0 then ((f_X6_becomes (upd (upd (upd (upd (upd r3.2 (Int32.toNatClampNeg r4) a1) (Int32.toNatClampNeg (r4 + 1)) a2) (Int32.toNatClampNeg (r4 + 2)) a3) (Int32.toNatClampNeg (r4 + 3)) a4) (Int32.toNatClampNeg (r4 + 6)) (-1)) r4 1).bind fun r6 => if zok 298 401 then (if zok 298 401 then (some (1, upd r6 (Int32.toNatClampNeg 298) ((r6 (Int32.toNatClampNeg 298)) + 1), r2.2.2)) else none) else none) else ((f_X6_becomes (upd (upd (upd (upd (upd r3.2 (Int32.toNatClampNeg r4) a1) (Int32.toNatClampNeg (r4 + 1)) a2) (Int32.toNatClampNeg (r4 + 2)) a3) (Int32.toNatClampNeg (r4 + 3)) a4) (Int32.toNatClampNeg (r4 + 6)) (-1)) r4 6).bind fun r5 => if zok 298 401 then (if zok 298 401 then (some (1, upd r5 (Int32.toNatClampNeg 298) ((r5 (Int32.toNatClampNeg 298)) + 1), r2.2.2)) else none) else none)) else none) else none) else none) else none) else none) else none)) else (if r2.1 = 0 then (some (0, r2.2.1, r2.2.2)) else (some (2, r2.2.1, r2.2.2)))) else ((f_X6_hasRoom fu now ).bind fun r7 => if (zB r7.1) = 0 then (some (4, r7.2, fitting)) else (if zok 298 401 then ((f_X6_flowAt  (r7.2 (Int32.toNatClampNeg 298))).bind fun r8 => if zok r8 401 then (if zok (r8 + 1) 401 then (if zok (r8 + 2) 401 then (if zok (r8 + 3) 401 then (if zok (r8 + 6) 401 then (if a4 = 0 then ((f_X6_becomes (upd (upd (upd (upd (upd r7.2 (Int32.toNatClampNeg r8) a1) (Int32.toNatClampNeg (r8 + 1)) a2) (Int32.toNatClampNeg (r8 + 2)) a3) (Int32.toNatClampNeg (r8 + 3)) a4) (Int32.toNatClampNeg (r8 + 6)) (-1)) r8 1).bind fun r10 => if zok 298 401 then (if zok 298 401 then (some (1, upd r10 (Int32.toNatClampNeg 298) ((r10 (Int32.toNatClampNeg 298)) + 1), fitting)) else none) else none) else ((f_X6_becomes (upd (upd (upd (upd (upd r7.2 (Int32.toNatClampNeg r8) a1) (Int32.toNatClampNeg (r8 + 1)) a2) (Int32.toNatClampNeg (r8 + 2)) a3) (Int32.toNatClampNeg (r8 + 3)) a4) (Int32.toNatClampNeg (r8 + 6)) (-1)) r8 6).bind fun r9 => if zok 298 401 then (if zok 298 401 then (some (1, upd r9 (Int32.toNatClampNeg 298) ((r9 (Int32.toNatClampNeg 298)) + 1), fitting)) else none) else none)) else none) else none) else none) else none) else none) else none))) else ((f_X6_saidGoes fu now r1).bind fun r11 => if r1 < 0 then ((f_X6_asks fu r11 fitting a1 a2 a3 a4).bind fun r12 => if r12.1 = 1 then ((f_X6_hasRoom fu r12.2.1 ).bind fun r13 => if (zB r13.1) = 0 then (some (4, r13.2, r12.2.2)) else (if zok 298 401 then ((f_X6_flowAt  (r13.2 (Int32.toNatClampNeg 298))).bind fun r14 => if zok r14 401 then (if zok (r14 + 1) 401 then (if zok (r14 + 2) 401 then (if zok (r14 + 3) 401 then (if zok (r14 + 6) 401 then (if a4 = 0 then ((f_X6_becomes (upd (upd (upd (upd (upd r13.2 (Int32.toNatClampNeg r14) a1) (Int32.toNatClampNeg (r14 + 1)) a2) (Int32.toNatClampNeg (r14 + 2)) a3) (Int32.toNatClampNeg (r14 + 3)) a4) (Int32.toNatClampNeg (r14 + 6)) (-1)) r14 1).bind fun r16 => if zok 298 401 then (if zok 298 401 then (some (1, upd r16 (Int32.toNatClampNeg 298) ((r16 (Int32.toNatClampNeg 298)) + 1), r12.2.2)) else none) else none) else ((f_X6_becomes (upd (upd (upd (upd (upd r13.2 (Int32.toNatClampNeg r14) a1) (Int32.toNatClampNeg (r14 + 1)) a2) (Int32.toNatClampNeg (r14 + 2)) a3) (Int32.toNatClampNeg (r14 + 3)) a4) (Int32.toNatClampNeg (r14 + 6)) (-1)) r14 6).bind fun r15 => if zok 298 401 then (if zok 298 401 then (some (1, upd r15 (Int32.toNatClampNeg 298) ((r15 (Int32.toNatClampNeg 298)) + 1), r12.2.2)) else none) else none)) else none) else none) else none) else none) else none) else none)) else (if r12.1 = 0 then (some (0, r12.2.1, r12.2.2)) else (some (2, r12.2.1, r12.2.2)))) else ((f_X6_hasRoom fu r11 ).bind fun r17 => if (zB r17.1) = 0 then (some (4, r17.2, fitting)) else (if zok 298 401 then ((f_X6_flowAt  (r17.2 (Int32.toNatClampNeg 298))).bind fun r18 => if zok r18 401 then (if zok (r18 + 1) 401 then (if zok (r18 + 2) 401 then (if zok (r18 + 3) 401 then (if zok (r18 + 6) 401 then (if a4 = 0 then ((f_X6_becomes (upd (upd (upd (upd (upd r17.2 (Int32.toNatClampNeg r18) a1) (Int32.toNatClampNeg (r18 + 1)) a2) (Int32.toNatClampNeg (r18 + 2)) a3) (Int32.toNatClampNeg (r18 + 3)) a4) (Int32.toNatClampNeg (r18 + 6)) (-1)) r18 1).bind fun r20 => if zok 298 401 then (if zok 298 401 then (some (1, upd r20 (Int32.toNatClampNeg 298) ((r20 (Int32.toNatClampNeg 298)) + 1), fitting)) else none) else none) else ((f_X6_becomes (upd (upd (upd (upd (upd r17.2 (Int32.toNatClampNeg r18) a1) (Int32.toNatClampNeg (r18 + 1)) a2) (Int32.toNatClampNeg (r18 + 2)) a3) (Int32.toNatClampNeg (r18 + 3)) a4) (Int32.toNatClampNeg (r18 + 6)) (-1)) r18 6).bind fun r19 => if zok 298 401 then (if zok 298 401 then (some (1, upd r19 (Int32.toNatClampNeg 298) ((r19 (Int32.toNatClampNeg 298)) + 1), fitting)) else none) else none)) else none) else none) else none) else none) else none) else none)))
abbrev wk_X6_opens : List Cond := Cond.code yX6_opens cX6_opens 8 (some .int) :: WB
abbrev rm_X6_opens : Room := { frames := 5, cells := 0, slots := 0, locals := 116 }
set_option maxHeartbeats 4000000 in
set_option maxRecDepth 100000 in
theorem c_X6_opens (l : Launch) (D : va_G) (k : Nat → Nat) (o on op orr ot oh og od : Nat) (states : Int32) (bytes : Int32) (reading : Int32) (at_ : Int32) (wrongAt : Int32) (number : Int32) (hh : Int64) (now : Nat → Int32) (fitting : Nat → Int32) (a1 : Int32) (a2 : Int32) (a3 : Int32) (a4 : Int32) (fu : Nat) {res : Int32 × (Nat → Int32) × (Nat → Int32)} (h : f_X6_opens fu now fitting a1 a2 a3 a4 = some res) : Ci l yX6_opens wk_X6_opens rm_X6_opens D k [.ref o, .int a1, .int a2, .int a3, .int a4] [(o, .inr (6, [.ref on, .ref op, .int states, .ref orr, .ref ot, .int bytes, .ref oh, .ref og, .ref od, .int reading, .int at_, .int wrongAt, .int number, .long hh])), (on, .inl (k 0, 401, .inl now)), (og, .inl (k 0, 164, .inl fitting))] [(o, .inr (6, [.ref on, .ref op, .int states, .ref orr, .ref ot, .int bytes, .ref oh, .ref og, .ref od, .int reading, .int at_, .int wrongAt, .int number, .long hh])), (on, .inl (k 0, 401, .inl res.2.1)), (og, .inl (k 0, 164, .inl res.2.2))] res.1 := by
  unfold Ci
  intro sz
  refine Met.ofW (cc := cX6_opens) (maxL := 8) (ret := (some .int)) (by decide) rfl ?_
  intro p e s m args below meth c s₁ B hml hv
  obtain ⟨rfl, hsz, hP, hK, hD0, hm⟩ := hv
  have hx := B.exec
  have hb := B.bytes
  have hr := B.returns
  have ht : ∀ w ∈ WB, w.before _ s = true := fun w hw => atoms_spec (ws := wk_X6_opens) B.pre w (List.mem_cons_of_mem _ hw)
  have hown : s.vm.findClass RX6 = some m.cls := findClass_of_methodNamed B.named
  have hlocks := B.notSynchronized
  subst hsz
  have hD := hD0.self (sz := s.heap.size)
  generalize hAe : va_A [(o, .inr (6, [.ref on, .ref op, .int states, .ref orr, .ref ot, .int bytes, .ref oh, .ref og, .ref od, .int reading, .int at_, .int wrongAt, .int number, .long hh])), (on, .inl (k 0, 401, .inl now)), (og, .inl (k 0, 164, .inl fitting))] s.heap.size = A at hD hm ⊢
  have hA : ∀ q : Nat, s.heap.size ≤ q → A q := fun q h => by rw [← hAe]; exact Or.inr h
  have hS : va_S A s.heap s.heap [] := va_S.rf
  have hl := lv_entry ([.ref o, .int a1, .int a2, .int a3, .int a4]) (n := 8) (Nat.le_of_ble_eq_true rfl)
  rw [lg_entry_eq]
  generalize (lg_sl ([.ref o, .int a1, .int a2, .int a3, .int a4]) ++ List.replicate (8 - (lg_sl ([.ref o, .int a1, .int a2, .int a3, .int a4])).length) Slot.unset).toArray = ls at hl ⊢
  have hl : lv_has ls 8 [(0, .ref o), (1, .int a1), (2, .int a2), (3, .int a3), (4, .int a4)] := hl
  obtain ⟨H, hH⟩ : ∃ H, H = s.heap := ⟨_, rfl⟩
  rw [← hH] at hP
  have hS : va_S A s.heap H [] := by rw [hH]; exact hS
  suffices hgo : W p l e _ s m _ below meth c H [] 0 0 _ _ by rw [hH] at hgo; exact hgo
  unfold f_X6_opens at h
  refine lv_aload_n hx hb dX6_opens_0 rfl (lv_at hl 0 rfl) ?_
  refine lv_iload_n hx hb dX6_opens_1 rfl (lv_at hl 1 rfl) ?_
  refine lv_iload_n hx hb dX6_opens_2 rfl (lv_at hl 2 rfl) ?_
  refine lv_iload_n hx hb dX6_opens_3 rfl (lv_at hl 3 rfl) ?_
  refine lv_iload hx hb dX6_opens_4 (lv_at hl 4 rfl) ?_
  obtain ⟨r1, h1, h⟩ := zb h
  refine zi (zrV (C := RX6) (T := TX6) (N := 14) (As := [.int a1, .int a2, .int a3, .int a4]) (rest := []) ⟨hx, hb, hml, hown, ht⟩ (c_X6_saidOf l D k o on op orr ot oh og od states bytes reading at_ wrongAt number hh now a1 a2 a3 a4 fu h1 _) (cwV 4 ht (gdV wb1014 wb1016 wb54 wb80 wb1017) rfl rfl rfl (by decide +kernel) ⟨Nat.le_of_ble_eq_true rfl, Nat.le_of_ble_eq_true rfl⟩) hK hP hD hS hA hm [0, 1] rfl rfl 0 6 rfl rfl rfl hl.1 rfl (Nat.le_of_ble_eq_true rfl) dX6_opens_6 ⟨Nat.le_refl _, Nat.le_refl _⟩) hP hD hS hA [0, 1] rfl rfl (fun H locs hP hD hS => ?_)
  have hP : va_P D vwCl [(o, .inr (6, [.ref on, .ref op, .int states, .ref orr, .ref ot, .int bytes, .ref oh, .ref og, .ref od, .int reading, .int at_, .int wrongAt, .int number, .long hh])), (on, .inl (k 0, 401, .inl now)), (og, .inl (k 0, 164, .inl fitting))] H := hP
  have hD : va_D A [(o, .inr (6, [.ref on, .ref op, .int states, .ref orr, .ref ot, .int bytes, .ref oh, .ref og, .ref od, .int reading, .int at_, .int wrongAt, .int number, .long hh])), (on, .inl (k 0, 401, .inl now)), (og, .inl (k 0, 164, .inl fitting))] := hD
  refine lv_istore (lv' := [(5, .int r1), (0, .ref o), (1, .int a1), (2, .int a2), (3, .int a3), (4, .int a4)]) hx hb dX6_opens_9 hl (by decide) rfl (fun ls hl => ?_)
  refine lv_iload hx hb dX6_opens_11 (lv_at hl 0 rfl) ?_
  refine lv_if_lt (tgt := 22) hx hb dX6_opens_13 (by decide) (fun c15 => ?_) (fun c15 => ?_)
  · have h := zt h c15
    refine lv_iload hx hb dX6_opens_22 (lv_at hl 0 rfl) ?_
    refine lv_if_lt (tgt := 31) hx hb dX6_opens_24 (by decide) (fun c7 => ?_) (fun c7 => ?_)
    · have h := zt h c7
      refine lv_aload_n hx hb dX6_opens_31 rfl (lv_at hl 1 rfl) ?_
      refine lv_iload_n hx hb dX6_opens_32 rfl (lv_at hl 2 rfl) ?_
      refine lv_iload_n hx hb dX6_opens_33 rfl (lv_at hl 3 rfl) ?_
      refine lv_iload_n hx hb dX6_opens_34 rfl (lv_at hl 4 rfl) ?_
      refine lv_iload hx hb dX6_opens_35 (lv_at hl 5 rfl) ?_
      obtain ⟨r2, h2, h⟩ := zb h
      refine zi (zrV (C := RX6) (T := TX6) (N := 14) (As := [.int a1, .int a2, .int a3, .int a4]) (rest := []) ⟨hx, hb, hml, hown, ht⟩ (c_X6_asks l D k o on op orr ot oh og od states bytes reading at_ wrongAt number hh now fitting a1 a2 a3 a4 fu h2 _) (cwV 4 ht (gdV wb1022 wb1024 wb56 wb80 wb1025) rfl rfl rfl (by decide +kernel) ⟨Nat.le_of_ble_eq_true rfl, Nat.le_of_ble_eq_true rfl⟩) hK hP hD hS hA hm [0, 1, 2] rfl rfl 0 6 rfl rfl rfl hl.1 rfl (Nat.le_of_ble_eq_true rfl) dX6_opens_37 ⟨Nat.le_refl _, Nat.le_refl _⟩) hP hD hS hA [0, 1, 2] rfl rfl (fun H locs hP hD hS => ?_)
      have hP : va_P D vwCl [(o, .inr (6, [.ref on, .ref op, .int states, .ref orr, .ref ot, .int bytes, .ref oh, .ref og, .ref od, .int reading, .int at_, .int wrongAt, .int number, .long hh])), (on, .inl (k 0, 401, .inl r2.2.1)), (og, .inl (k 0, 164, .inl r2.2.2))] H := hP
      have hD : va_D A [(o, .inr (6, [.ref on, .ref op, .int states, .ref orr, .ref ot, .int bytes, .ref oh, .ref og, .ref od, .int reading, .int at_, .int wrongAt, .int number, .long hh])), (on, .inl (k 0, 401, .inl r2.2.1)), (og, .inl (k 0, 164, .inl r2.2.2))] := hD
      refine lv_istore (lv' := [(6, .int r2.1), (5, .int r1), (0, .ref o), (1, .int a1), (2, .int a2), (3, .int a3), (4, .int a4)]) hx hb dX6_opens_40 hl (by decide) rfl (fun ls hl => ?_)
      refine lv_iload hx hb dX6_opens_42 (lv_at hl 0 rfl) ?_
      refine lv_iconst (v := 1) hx hb dX6_opens_44 (by decide) ?_
      refine lv_icmp_eq (tgt := 59) hx hb dX6_opens_45 (by decide) (fun c4 => ?_) (fun c4 => ?_)
      · have h := zt h c4
        refine lv_aload_n hx hb dX6_opens_59 rfl (lv_at hl 2 rfl) ?_
        obtain ⟨r3, h3, h⟩ := zb h
        refine zi (zrV (C := RX6) (T := TX6) (N := 14) (As := []) (rest := []) ⟨hx, hb, hml, hown, ht⟩ (c_X6_hasRoom l D k o on op orr ot oh og od states bytes reading at_ wrongAt number hh r2.2.1  fu h3 _) (cwV 0 ht (gdV wb1026 wb1028 wb57 wb80 wb1029) rfl rfl rfl (by decide +kernel) ⟨Nat.le_of_ble_eq_true rfl, Nat.le_of_ble_eq_true rfl⟩) hK hP hD hS hA hm [0, 1] rfl rfl 0 6 rfl rfl rfl hl.1 rfl (Nat.le_of_ble_eq_true rfl) dX6_opens_60 ⟨Nat.le_refl _, Nat.le_refl _⟩) hP hD hS hA [0, 1] rfl rfl (fun H locs hP hD hS => ?_)
        have hP : va_P D vwCl [(o, .inr (6, [.ref on, .ref op, .int states, .ref orr, .ref ot, .int bytes, .ref oh, .ref og, .ref od, .int reading, .int at_, .int wrongAt, .int number, .long hh])), (on, .inl (k 0, 401, .inl r3.2)), (og, .inl (k 0, 164, .inl r2.2.2))] H := hP
        have hD : va_D A [(o, .inr (6, [.ref on, .ref op, .int states, .ref orr, .ref ot, .int bytes, .ref oh, .ref og, .ref od, .int reading, .int at_, .int wrongAt, .int number, .long hh])), (on, .inl (k 0, 401, .inl r3.2)), (og, .inl (k 0, 164, .inl r2.2.2))] := hD
        refine lv_if_ne (tgt := 68) hx hb dX6_opens_63 (by decide) (fun c2 => ?_) (fun c2 => ?_)
        · have h := zf h c2
          refine lv_aload_n hx hb dX6_opens_68 rfl (lv_at hl 2 rfl) ?_
          refine lv_aload_n hx hb dX6_opens_69 rfl (lv_at hl 2 rfl) ?_
          refine va_get (D := D) (ci := 6) (v := .ref on) (C := RX6) (T := TX6) (N := 14) hx hb ht hiX6 hown hK hP 0 rfl rfl 0 (by decide) (ht _ wb765) (fun _ h9 => h9) rfl dX6_opens_70 ?_
          refine lv_sipush (v := 298) hx hb dX6_opens_73 (by decide) ?_
          obtain ⟨hi1, h⟩ := zg h
          refine va_iald hx hb hK hP 1 0 rfl rfl hi1 dX6_opens_76 ?_
          obtain ⟨r4, h4, h⟩ := zb h
          refine zi (zrV (C := RX6) (T := TX6) (N := 14) (As := [.int (r3.2 (Int32.toNatClampNeg 298))]) (rest := []) ⟨hx, hb, hml, hown, ht⟩ (c_X6_flowAt l D k o on op orr ot oh og od states bytes reading at_ wrongAt number hh (r3.2 (Int32.toNatClampNeg 298)) h4 _) (cwV 1 ht (gdV wb987 wb989 wb48 wb80 wb990) rfl rfl rfl (by decide +kernel) ⟨Nat.le_of_ble_eq_true rfl, Nat.le_of_ble_eq_true rfl⟩) hK hP hD hS hA hm [0] rfl rfl 0 6 rfl rfl rfl hl.1 rfl (Nat.le_of_ble_eq_true rfl) dX6_opens_77 ⟨Nat.le_refl _, Nat.le_refl _⟩) hP hD hS hA [0] rfl rfl (fun H locs hP hD hS => ?_)
          have hP : va_P D vwCl [(o, .inr (6, [.ref on, .ref op, .int states, .ref orr, .ref ot, .int bytes, .ref oh, .ref og, .ref od, .int reading, .int at_, .int wrongAt, .int number, .long hh])), (on, .inl (k 0, 401, .inl r3.2)), (og, .inl (k 0, 164, .inl r2.2.2))] H := hP
          have hD : va_D A [(o, .inr (6, [.ref on, .ref op, .int states, .ref orr, .ref ot, .int bytes, .ref oh, .ref og, .ref od, .int reading, .int at_, .int wrongAt, .int number, .long hh])), (on, .inl (k 0, 401, .inl r3.2)), (og, .inl (k 0, 164, .inl r2.2.2))] := hD
          refine lv_istore (lv' := [(7, .int r4), (6, .int r2.1), (5, .int r1), (0, .ref o), (1, .int a1), (2, .int a2), (3, .int a3), (4, .int a4)]) hx hb dX6_opens_80 hl (by decide) rfl (fun ls hl => ?_)
          refine lv_aload_n hx hb dX6_opens_82 rfl (lv_at hl 3 rfl) ?_
          refine va_get (D := D) (ci := 6) (v := .ref on) (C := RX6) (T := TX6) (N := 14) hx hb ht hiX6 hown hK hP 0 rfl rfl 0 (by decide) (ht _ wb765) (fun _ h9 => h9) rfl dX6_opens_83 ?_
          refine lv_iload hx hb dX6_opens_86 (lv_at hl 0 rfl) ?_
          refine lv_iload_n hx hb dX6_opens_88 rfl (lv_at hl 4 rfl) ?_
          obtain ⟨hi2, h⟩ := zg h
          refine va_iast hx hb hK hP hD hS 1 0 rfl rfl hi2 dX6_opens_89 (fun H locs hP hD hS => ?_)
          have hP : va_P D vwCl [(o, .inr (6, [.ref on, .ref op, .int states, .ref orr, .ref ot, .int bytes, .ref oh, .ref og, .ref od, .int reading, .int at_, .int wrongAt, .int number, .long hh])), (on, .inl (k 0, 401, .inl (upd r3.2 (Int32.toNatClampNeg r4) a1))), (og, .inl (k 0, 164, .inl r2.2.2))] H := hP
          have hD : va_D A [(o, .inr (6, [.ref on, .ref op, .int states, .ref orr, .ref ot, .int bytes, .ref oh, .ref og, .ref od, .int reading, .int at_, .int wrongAt, .int number, .long hh])), (on, .inl (k 0, 401, .inl (upd r3.2 (Int32.toNatClampNeg r4) a1))), (og, .inl (k 0, 164, .inl r2.2.2))] := hD
          refine lv_aload_n hx hb dX6_opens_90 rfl (lv_at hl 3 rfl) ?_
          refine va_get (D := D) (ci := 6) (v := .ref on) (C := RX6) (T := TX6) (N := 14) hx hb ht hiX6 hown hK hP 0 rfl rfl 0 (by decide) (ht _ wb765) (fun _ h9 => h9) rfl dX6_opens_91 ?_
          refine lv_iload hx hb dX6_opens_94 (lv_at hl 0 rfl) ?_
          refine lv_iconst (v := 1) hx hb dX6_opens_96 (by decide) ?_
          refine lv_iadd hx hb dX6_opens_97 ?_
          refine lv_iload_n hx hb dX6_opens_98 rfl (lv_at hl 5 rfl) ?_
          obtain ⟨hi3, h⟩ := zg h
          refine va_iast hx hb hK hP hD hS 1 0 rfl rfl hi3 dX6_opens_99 (fun H locs hP hD hS => ?_)
          have hP : va_P D vwCl [(o, .inr (6, [.ref on, .ref op, .int states, .ref orr, .ref ot, .int bytes, .ref oh, .ref og, .ref od, .int reading, .int at_, .int wrongAt, .int number, .long hh])), (on, .inl (k 0, 401, .inl (upd (upd r3.2 (Int32.toNatClampNeg r4) a1) (Int32.toNatClampNeg (r4 + 1)) a2))), (og, .inl (k 0, 164, .inl r2.2.2))] H := hP
          have hD : va_D A [(o, .inr (6, [.ref on, .ref op, .int states, .ref orr, .ref ot, .int bytes, .ref oh, .ref og, .ref od, .int reading, .int at_, .int wrongAt, .int number, .long hh])), (on, .inl (k 0, 401, .inl (upd (upd r3.2 (Int32.toNatClampNeg r4) a1) (Int32.toNatClampNeg (r4 + 1)) a2))), (og, .inl (k 0, 164, .inl r2.2.2))] := hD
          refine lv_aload_n hx hb dX6_opens_100 rfl (lv_at hl 3 rfl) ?_
          refine va_get (D := D) (ci := 6) (v := .ref on) (C := RX6) (T := TX6) (N := 14) hx hb ht hiX6 hown hK hP 0 rfl rfl 0 (by decide) (ht _ wb765) (fun _ h9 => h9) rfl dX6_opens_101 ?_
          refine lv_iload hx hb dX6_opens_104 (lv_at hl 0 rfl) ?_
          refine lv_iconst (v := 2) hx hb dX6_opens_106 (by decide) ?_
          refine lv_iadd hx hb dX6_opens_107 ?_
          refine lv_iload_n hx hb dX6_opens_108 rfl (lv_at hl 6 rfl) ?_
          obtain ⟨hi4, h⟩ := zg h
          refine va_iast hx hb hK hP hD hS 1 0 rfl rfl hi4 dX6_opens_109 (fun H locs hP hD hS => ?_)
          have hP : va_P D vwCl [(o, .inr (6, [.ref on, .ref op, .int states, .ref orr, .ref ot, .int bytes, .ref oh, .ref og, .ref od, .int reading, .int at_, .int wrongAt, .int number, .long hh])), (on, .inl (k 0, 401, .inl (upd (upd (upd r3.2 (Int32.toNatClampNeg r4) a1) (Int32.toNatClampNeg (r4 + 1)) a2) (Int32.toNatClampNeg (r4 + 2)) a3))), (og, .inl (k 0, 164, .inl r2.2.2))] H := hP
          have hD : va_D A [(o, .inr (6, [.ref on, .ref op, .int states, .ref orr, .ref ot, .int bytes, .ref oh, .ref og, .ref od, .int reading, .int at_, .int wrongAt, .int number, .long hh])), (on, .inl (k 0, 401, .inl (upd (upd (upd r3.2 (Int32.toNatClampNeg r4) a1) (Int32.toNatClampNeg (r4 + 1)) a2) (Int32.toNatClampNeg (r4 + 2)) a3))), (og, .inl (k 0, 164, .inl r2.2.2))] := hD
          refine lv_aload_n hx hb dX6_opens_110 rfl (lv_at hl 3 rfl) ?_
          refine va_get (D := D) (ci := 6) (v := .ref on) (C := RX6) (T := TX6) (N := 14) hx hb ht hiX6 hown hK hP 0 rfl rfl 0 (by decide) (ht _ wb765) (fun _ h9 => h9) rfl dX6_opens_111 ?_
          refine lv_iload hx hb dX6_opens_114 (lv_at hl 0 rfl) ?_
          refine lv_iconst (v := 3) hx hb dX6_opens_116 (by decide) ?_
          refine lv_iadd hx hb dX6_opens_117 ?_
          refine lv_iload hx hb dX6_opens_118 (lv_at hl 7 rfl) ?_
          obtain ⟨hi5, h⟩ := zg h
          refine va_iast hx hb hK hP hD hS 1 0 rfl rfl hi5 dX6_opens_120 (fun H locs hP hD hS => ?_)
          have hP : va_P D vwCl [(o, .inr (6, [.ref on, .ref op, .int states, .ref orr, .ref ot, .int bytes, .ref oh, .ref og, .ref od, .int reading, .int at_, .int wrongAt, .int number, .long hh])), (on, .inl (k 0, 401, .inl (upd (upd (upd (upd r3.2 (Int32.toNatClampNeg r4) a1) (Int32.toNatClampNeg (r4 + 1)) a2) (Int32.toNatClampNeg (r4 + 2)) a3) (Int32.toNatClampNeg (r4 + 3)) a4))), (og, .inl (k 0, 164, .inl r2.2.2))] H := hP
          have hD : va_D A [(o, .inr (6, [.ref on, .ref op, .int states, .ref orr, .ref ot, .int bytes, .ref oh, .ref og, .ref od, .int reading, .int at_, .int wrongAt, .int number, .long hh])), (on, .inl (k 0, 401, .inl (upd (upd (upd (upd r3.2 (Int32.toNatClampNeg r4) a1) (Int32.toNatClampNeg (r4 + 1)) a2) (Int32.toNatClampNeg (r4 + 2)) a3) (Int32.toNatClampNeg (r4 + 3)) a4))), (og, .inl (k 0, 164, .inl r2.2.2))] := hD
          refine lv_aload_n hx hb dX6_opens_121 rfl (lv_at hl 3 rfl) ?_
          refine va_get (D := D) (ci := 6) (v := .ref on) (C := RX6) (T := TX6) (N := 14) hx hb ht hiX6 hown hK hP 0 rfl rfl 0 (by decide) (ht _ wb765) (fun _ h9 => h9) rfl dX6_opens_122 ?_
          refine lv_iload hx hb dX6_opens_125 (lv_at hl 0 rfl) ?_
          refine lv_bipush (v := 6) hx hb dX6_opens_127 (by decide) ?_
          refine lv_iadd hx hb dX6_opens_129 ?_
          refine lv_iconst (v := (-1)) hx hb dX6_opens_130 (by decide) ?_
          obtain ⟨hi6, h⟩ := zg h
          refine va_iast hx hb hK hP hD hS 1 0 rfl rfl hi6 dX6_opens_131 (fun H locs hP hD hS => ?_)
          have hP : va_P D vwCl [(o, .inr (6, [.ref on, .ref op, .int states, .ref orr, .ref ot, .int bytes, .ref oh, .ref og, .ref od, .int reading, .int at_, .int wrongAt, .int number, .long hh])), (on, .inl (k 0, 401, .inl (upd (upd (upd (upd (upd r3.2 (Int32.toNatClampNeg r4) a1) (Int32.toNatClampNeg (r4 + 1)) a2) (Int32.toNatClampNeg (r4 + 2)) a3) (Int32.toNatClampNeg (r4 + 3)) a4) (Int32.toNatClampNeg (r4 + 6)) (-1)))), (og, .inl (k 0, 164, .inl r2.2.2))] H := hP
          have hD : va_D A [(o, .inr (6, [.ref on, .ref op, .int states, .ref orr, .ref ot, .int bytes, .ref oh, .ref og, .ref od, .int reading, .int at_, .int wrongAt, .int number, .long hh])), (on, .inl (k 0, 401, .inl (upd (upd (upd (upd (upd r3.2 (Int32.toNatClampNeg r4) a1) (Int32.toNatClampNeg (r4 + 1)) a2) (Int32.toNatClampNeg (r4 + 2)) a3) (Int32.toNatClampNeg (r4 + 3)) a4) (Int32.toNatClampNeg (r4 + 6)) (-1)))), (og, .inl (k 0, 164, .inl r2.2.2))] := hD
          refine lv_aload_n hx hb dX6_opens_132 rfl (lv_at hl 3 rfl) ?_
          refine lv_iload hx hb dX6_opens_133 (lv_at hl 0 rfl) ?_
          refine lv_iload hx hb dX6_opens_135 (lv_at hl 7 rfl) ?_
          refine lv_if_ne (tgt := 144) hx hb dX6_opens_137 (by decide) (fun c1 => ?_) (fun c1 => ?_)
          · have h := zf h c1
            refine lv_bipush (v := 6) hx hb dX6_opens_144 (by decide) ?_
            obtain ⟨r5, h5, h⟩ := zb h
            refine zv (zrV (C := RX6) (T := TX6) (N := 14) (As := [.int r4, .int 6]) (rest := []) ⟨hx, hb, hml, hown, ht⟩ (c_X6_becomes l D k o on op orr ot oh og od states bytes reading at_ wrongAt number hh (upd (upd (upd (upd (upd r3.2 (Int32.toNatClampNeg r4) a1) (Int32.toNatClampNeg (r4 + 1)) a2) (Int32.toNatClampNeg (r4 + 2)) a3) (Int32.toNatClampNeg (r4 + 3)) a4) (Int32.toNatClampNeg (r4 + 6)) (-1)) r4 6 h5 _) (cwV 2 ht (gdV wb1006 wb1008 wb52 wb80 wb1009) rfl rfl rfl (by decide +kernel) ⟨Nat.le_of_ble_eq_true rfl, Nat.le_of_ble_eq_true rfl⟩) hK hP hD hS hA hm [0, 1] rfl rfl 0 6 rfl rfl rfl hl.1 rfl (Nat.le_of_ble_eq_true rfl) dX6_opens_146 ⟨Nat.le_refl _, Nat.le_refl _⟩) hP hD hS hA [0, 1] rfl rfl (fun H locs hP hD hS => ?_)
            have hP : va_P D vwCl [(o, .inr (6, [.ref on, .ref op, .int states, .ref orr, .ref ot, .int bytes, .ref oh, .ref og, .ref od, .int reading, .int at_, .int wrongAt, .int number, .long hh])), (on, .inl (k 0, 401, .inl r5)), (og, .inl (k 0, 164, .inl r2.2.2))] H := hP
            have hD : va_D A [(o, .inr (6, [.ref on, .ref op, .int states, .ref orr, .ref ot, .int bytes, .ref oh, .ref og, .ref od, .int reading, .int at_, .int wrongAt, .int number, .long hh])), (on, .inl (k 0, 401, .inl r5)), (og, .inl (k 0, 164, .inl r2.2.2))] := hD
            refine lv_aload_n hx hb dX6_opens_149 rfl (lv_at hl 3 rfl) ?_
            refine va_get (D := D) (ci := 6) (v := .ref on) (C := RX6) (T := TX6) (N := 14) hx hb ht hiX6 hown hK hP 0 rfl rfl 0 (by decide) (ht _ wb765) (fun _ h9 => h9) rfl dX6_opens_150 ?_
            refine lv_sipush (v := 298) hx hb dX6_opens_153 (by decide) ?_
            refine lv_dup2_11 hx hb dX6_opens_156 rfl rfl ?_
            obtain ⟨hi7, h⟩ := zg h
            refine va_iald hx hb hK hP 1 0 rfl rfl hi7 dX6_opens_157 ?_
            refine lv_iconst (v := 1) hx hb dX6_opens_158 (by decide) ?_
            refine lv_iadd hx hb dX6_opens_159 ?_
            obtain ⟨hi8, h⟩ := zg h
            refine va_iast hx hb hK hP hD hS 1 0 rfl rfl hi8 dX6_opens_160 (fun H locs hP hD hS => ?_)
            have hP : va_P D vwCl [(o, .inr (6, [.ref on, .ref op, .int states, .ref orr, .ref ot, .int bytes, .ref oh, .ref og, .ref od, .int reading, .int at_, .int wrongAt, .int number, .long hh])), (on, .inl (k 0, 401, .inl (upd r5 (Int32.toNatClampNeg 298) ((r5 (Int32.toNatClampNeg 298)) + 1)))), (og, .inl (k 0, 164, .inl r2.2.2))] H := hP
            have hD : va_D A [(o, .inr (6, [.ref on, .ref op, .int states, .ref orr, .ref ot, .int bytes, .ref oh, .ref og, .ref od, .int reading, .int at_, .int wrongAt, .int number, .long hh])), (on, .inl (k 0, 401, .inl (upd r5 (Int32.toNatClampNeg 298) ((r5 (Int32.toNatClampNeg 298)) + 1)))), (og, .inl (k 0, 164, .inl r2.2.2))] := hD
            refine lv_iconst (v := 1) hx hb dX6_opens_161 (by decide) ?_
            obtain rfl := Option.some.inj h
            exact W.iret (v := 1) hx hb hr (fun t ht9 hW => ⟨⟨_, (), rfl, rfl, zend ht9 hP⟩, hS.F ht9⟩) hS.2.2 dX6_opens_162
          · have h := zt h c1
            refine lv_iconst (v := 1) hx hb dX6_opens_140 (by decide) ?_
            refine lv_goto (tgt := 146) hx hb dX6_opens_141 (by decide) ?_
            obtain ⟨r6, h6, h⟩ := zb h
            refine zv (zrV (C := RX6) (T := TX6) (N := 14) (As := [.int r4, .int 1]) (rest := []) ⟨hx, hb, hml, hown, ht⟩ (c_X6_becomes l D k o on op orr ot oh og od states bytes reading at_ wrongAt number hh (upd (upd (upd (upd (upd r3.2 (Int32.toNatClampNeg r4) a1) (Int32.toNatClampNeg (r4 + 1)) a2) (Int32.toNatClampNeg (r4 + 2)) a3) (Int32.toNatClampNeg (r4 + 3)) a4) (Int32.toNatClampNeg (r4 + 6)) (-1)) r4 1 h6 _) (cwV 2 ht (gdV wb1006 wb1008 wb52 wb80 wb1009) rfl rfl rfl (by decide +kernel) ⟨Nat.le_of_ble_eq_true rfl, Nat.le_of_ble_eq_true rfl⟩) hK hP hD hS hA hm [0, 1] rfl rfl 0 6 rfl rfl rfl hl.1 rfl (Nat.le_of_ble_eq_true rfl) dX6_opens_146 ⟨Nat.le_refl _, Nat.le_refl _⟩) hP hD hS hA [0, 1] rfl rfl (fun H locs hP hD hS => ?_)
            have hP : va_P D vwCl [(o, .inr (6, [.ref on, .ref op, .int states, .ref orr, .ref ot, .int bytes, .ref oh, .ref og, .ref od, .int reading, .int at_, .int wrongAt, .int number, .long hh])), (on, .inl (k 0, 401, .inl r6)), (og, .inl (k 0, 164, .inl r2.2.2))] H := hP
            have hD : va_D A [(o, .inr (6, [.ref on, .ref op, .int states, .ref orr, .ref ot, .int bytes, .ref oh, .ref og, .ref od, .int reading, .int at_, .int wrongAt, .int number, .long hh])), (on, .inl (k 0, 401, .inl r6)), (og, .inl (k 0, 164, .inl r2.2.2))] := hD
            refine lv_aload_n hx hb dX6_opens_149 rfl (lv_at hl 3 rfl) ?_
            refine va_get (D := D) (ci := 6) (v := .ref on) (C := RX6) (T := TX6) (N := 14) hx hb ht hiX6 hown hK hP 0 rfl rfl 0 (by decide) (ht _ wb765) (fun _ h9 => h9) rfl dX6_opens_150 ?_
            refine lv_sipush (v := 298) hx hb dX6_opens_153 (by decide) ?_
            refine lv_dup2_11 hx hb dX6_opens_156 rfl rfl ?_
            obtain ⟨hi9, h⟩ := zg h
            refine va_iald hx hb hK hP 1 0 rfl rfl hi9 dX6_opens_157 ?_
            refine lv_iconst (v := 1) hx hb dX6_opens_158 (by decide) ?_
            refine lv_iadd hx hb dX6_opens_159 ?_
            obtain ⟨hi10, h⟩ := zg h
            refine va_iast hx hb hK hP hD hS 1 0 rfl rfl hi10 dX6_opens_160 (fun H locs hP hD hS => ?_)
            have hP : va_P D vwCl [(o, .inr (6, [.ref on, .ref op, .int states, .ref orr, .ref ot, .int bytes, .ref oh, .ref og, .ref od, .int reading, .int at_, .int wrongAt, .int number, .long hh])), (on, .inl (k 0, 401, .inl (upd r6 (Int32.toNatClampNeg 298) ((r6 (Int32.toNatClampNeg 298)) + 1)))), (og, .inl (k 0, 164, .inl r2.2.2))] H := hP
            have hD : va_D A [(o, .inr (6, [.ref on, .ref op, .int states, .ref orr, .ref ot, .int bytes, .ref oh, .ref og, .ref od, .int reading, .int at_, .int wrongAt, .int number, .long hh])), (on, .inl (k 0, 401, .inl (upd r6 (Int32.toNatClampNeg 298) ((r6 (Int32.toNatClampNeg 298)) + 1)))), (og, .inl (k 0, 164, .inl r2.2.2))] := hD
            refine lv_iconst (v := 1) hx hb dX6_opens_161 (by decide) ?_
            obtain rfl := Option.some.inj h
            exact W.iret (v := 1) hx hb hr (fun t ht9 hW => ⟨⟨_, (), rfl, rfl, zend ht9 hP⟩, hS.F ht9⟩) hS.2.2 dX6_opens_162
        · have h := zt h c2
          refine lv_iconst (v := 4) hx hb dX6_opens_66 (by decide) ?_
          obtain rfl := Option.some.inj h
          exact W.iret (v := 4) hx hb hr (fun t ht9 hW => ⟨⟨_, (), rfl, rfl, zend ht9 hP⟩, hS.F ht9⟩) hS.2.2 dX6_opens_67
      · have h := zf h c4
        refine lv_iload hx hb dX6_opens_48 (lv_at hl 0 rfl) ?_
        refine lv_if_ne (tgt := 57) hx hb dX6_opens_50 (by decide) (fun c3 => ?_) (fun c3 => ?_)
        · have h := zf h c3
          refine lv_iconst (v := 2) hx hb dX6_opens_57 (by decide) ?_
          obtain rfl := Option.some.inj h
          exact W.iret (v := 2) hx hb hr (fun t ht9 hW => ⟨⟨_, (), rfl, rfl, zend ht9 hP⟩, hS.F ht9⟩) hS.2.2 dX6_opens_58
        · have h := zt h c3
          refine lv_iconst (v := 0) hx hb dX6_opens_53 (by decide) ?_
          refine lv_goto (tgt := 58) hx hb dX6_opens_54 (by decide) ?_
          obtain rfl := Option.some.inj h
          exact W.iret (v := 0) hx hb hr (fun t ht9 hW => ⟨⟨_, (), rfl, rfl, zend ht9 hP⟩, hS.F ht9⟩) hS.2.2 dX6_opens_58
    · have h := zf h c7
      refine lv_iconst (v := 1) hx hb dX6_opens_27 (by decide) ?_
      refine lv_goto (tgt := 40) hx hb dX6_opens_28 (by decide) ?_
      refine lv_istore (lv' := [(6, .int 1), (5, .int r1), (0, .ref o), (1, .int a1), (2, .int a2), (3, .int a3), (4, .int a4)]) hx hb dX6_opens_40 hl (by decide) rfl (fun ls hl => ?_)
      refine lv_iload hx hb dX6_opens_42 (lv_at hl 0 rfl) ?_
      refine lv_iconst (v := 1) hx hb dX6_opens_44 (by decide) ?_
      refine lv_icmp_eq (tgt := 59) hx hb dX6_opens_45 (by decide) (fun _ => ?_) (fun c9 => absurd (by decide) c9)
      refine lv_aload_n hx hb dX6_opens_59 rfl (lv_at hl 2 rfl) ?_
      obtain ⟨r7, h7, h⟩ := zb h
      refine zi (zrV (C := RX6) (T := TX6) (N := 14) (As := []) (rest := []) ⟨hx, hb, hml, hown, ht⟩ (c_X6_hasRoom l D k o on op orr ot oh og od states bytes reading at_ wrongAt number hh now  fu h7 _) (cwV 0 ht (gdV wb1026 wb1028 wb57 wb80 wb1029) rfl rfl rfl (by decide +kernel) ⟨Nat.le_of_ble_eq_true rfl, Nat.le_of_ble_eq_true rfl⟩) hK hP hD hS hA hm [0, 1] rfl rfl 0 6 rfl rfl rfl hl.1 rfl (Nat.le_of_ble_eq_true rfl) dX6_opens_60 ⟨Nat.le_refl _, Nat.le_refl _⟩) hP hD hS hA [0, 1] rfl rfl (fun H locs hP hD hS => ?_)
      have hP : va_P D vwCl [(o, .inr (6, [.ref on, .ref op, .int states, .ref orr, .ref ot, .int bytes, .ref oh, .ref og, .ref od, .int reading, .int at_, .int wrongAt, .int number, .long hh])), (on, .inl (k 0, 401, .inl r7.2)), (og, .inl (k 0, 164, .inl fitting))] H := hP
      have hD : va_D A [(o, .inr (6, [.ref on, .ref op, .int states, .ref orr, .ref ot, .int bytes, .ref oh, .ref og, .ref od, .int reading, .int at_, .int wrongAt, .int number, .long hh])), (on, .inl (k 0, 401, .inl r7.2)), (og, .inl (k 0, 164, .inl fitting))] := hD
      refine lv_if_ne (tgt := 68) hx hb dX6_opens_63 (by decide) (fun c6 => ?_) (fun c6 => ?_)
      · have h := zf h c6
        refine lv_aload_n hx hb dX6_opens_68 rfl (lv_at hl 2 rfl) ?_
        refine lv_aload_n hx hb dX6_opens_69 rfl (lv_at hl 2 rfl) ?_
        refine va_get (D := D) (ci := 6) (v := .ref on) (C := RX6) (T := TX6) (N := 14) hx hb ht hiX6 hown hK hP 0 rfl rfl 0 (by decide) (ht _ wb765) (fun _ h9 => h9) rfl dX6_opens_70 ?_
        refine lv_sipush (v := 298) hx hb dX6_opens_73 (by decide) ?_
        obtain ⟨hi11, h⟩ := zg h
        refine va_iald hx hb hK hP 1 0 rfl rfl hi11 dX6_opens_76 ?_
        obtain ⟨r8, h8, h⟩ := zb h
        refine zi (zrV (C := RX6) (T := TX6) (N := 14) (As := [.int (r7.2 (Int32.toNatClampNeg 298))]) (rest := []) ⟨hx, hb, hml, hown, ht⟩ (c_X6_flowAt l D k o on op orr ot oh og od states bytes reading at_ wrongAt number hh (r7.2 (Int32.toNatClampNeg 298)) h8 _) (cwV 1 ht (gdV wb987 wb989 wb48 wb80 wb990) rfl rfl rfl (by decide +kernel) ⟨Nat.le_of_ble_eq_true rfl, Nat.le_of_ble_eq_true rfl⟩) hK hP hD hS hA hm [0] rfl rfl 0 6 rfl rfl rfl hl.1 rfl (Nat.le_of_ble_eq_true rfl) dX6_opens_77 ⟨Nat.le_refl _, Nat.le_refl _⟩) hP hD hS hA [0] rfl rfl (fun H locs hP hD hS => ?_)
        have hP : va_P D vwCl [(o, .inr (6, [.ref on, .ref op, .int states, .ref orr, .ref ot, .int bytes, .ref oh, .ref og, .ref od, .int reading, .int at_, .int wrongAt, .int number, .long hh])), (on, .inl (k 0, 401, .inl r7.2)), (og, .inl (k 0, 164, .inl fitting))] H := hP
        have hD : va_D A [(o, .inr (6, [.ref on, .ref op, .int states, .ref orr, .ref ot, .int bytes, .ref oh, .ref og, .ref od, .int reading, .int at_, .int wrongAt, .int number, .long hh])), (on, .inl (k 0, 401, .inl r7.2)), (og, .inl (k 0, 164, .inl fitting))] := hD
        refine lv_istore (lv' := [(7, .int r8), (6, .int 1), (5, .int r1), (0, .ref o), (1, .int a1), (2, .int a2), (3, .int a3), (4, .int a4)]) hx hb dX6_opens_80 hl (by decide) rfl (fun ls hl => ?_)
        refine lv_aload_n hx hb dX6_opens_82 rfl (lv_at hl 3 rfl) ?_
        refine va_get (D := D) (ci := 6) (v := .ref on) (C := RX6) (T := TX6) (N := 14) hx hb ht hiX6 hown hK hP 0 rfl rfl 0 (by decide) (ht _ wb765) (fun _ h9 => h9) rfl dX6_opens_83 ?_
        refine lv_iload hx hb dX6_opens_86 (lv_at hl 0 rfl) ?_
        refine lv_iload_n hx hb dX6_opens_88 rfl (lv_at hl 4 rfl) ?_
        obtain ⟨hi12, h⟩ := zg h
        refine va_iast hx hb hK hP hD hS 1 0 rfl rfl hi12 dX6_opens_89 (fun H locs hP hD hS => ?_)
        have hP : va_P D vwCl [(o, .inr (6, [.ref on, .ref op, .int states, .ref orr, .ref ot, .int bytes, .ref oh, .ref og, .ref od, .int reading, .int at_, .int wrongAt, .int number, .long hh])), (on, .inl (k 0, 401, .inl (upd r7.2 (Int32.toNatClampNeg r8) a1))), (og, .inl (k 0, 164, .inl fitting))] H := hP
        have hD : va_D A [(o, .inr (6, [.ref on, .ref op, .int states, .ref orr, .ref ot, .int bytes, .ref oh, .ref og, .ref od, .int reading, .int at_, .int wrongAt, .int number, .long hh])), (on, .inl (k 0, 401, .inl (upd r7.2 (Int32.toNatClampNeg r8) a1))), (og, .inl (k 0, 164, .inl fitting))] := hD
        refine lv_aload_n hx hb dX6_opens_90 rfl (lv_at hl 3 rfl) ?_
        refine va_get (D := D) (ci := 6) (v := .ref on) (C := RX6) (T := TX6) (N := 14) hx hb ht hiX6 hown hK hP 0 rfl rfl 0 (by decide) (ht _ wb765) (fun _ h9 => h9) rfl dX6_opens_91 ?_
        refine lv_iload hx hb dX6_opens_94 (lv_at hl 0 rfl) ?_
        refine lv_iconst (v := 1) hx hb dX6_opens_96 (by decide) ?_
        refine lv_iadd hx hb dX6_opens_97 ?_
        refine lv_iload_n hx hb dX6_opens_98 rfl (lv_at hl 5 rfl) ?_
        obtain ⟨hi13, h⟩ := zg h
        refine va_iast hx hb hK hP hD hS 1 0 rfl rfl hi13 dX6_opens_99 (fun H locs hP hD hS => ?_)
        have hP : va_P D vwCl [(o, .inr (6, [.ref on, .ref op, .int states, .ref orr, .ref ot, .int bytes, .ref oh, .ref og, .ref od, .int reading, .int at_, .int wrongAt, .int number, .long hh])), (on, .inl (k 0, 401, .inl (upd (upd r7.2 (Int32.toNatClampNeg r8) a1) (Int32.toNatClampNeg (r8 + 1)) a2))), (og, .inl (k 0, 164, .inl fitting))] H := hP
        have hD : va_D A [(o, .inr (6, [.ref on, .ref op, .int states, .ref orr, .ref ot, .int bytes, .ref oh, .ref og, .ref od, .int reading, .int at_, .int wrongAt, .int number, .long hh])), (on, .inl (k 0, 401, .inl (upd (upd r7.2 (Int32.toNatClampNeg r8) a1) (Int32.toNatClampNeg (r8 + 1)) a2))), (og, .inl (k 0, 164, .inl fitting))] := hD
        refine lv_aload_n hx hb dX6_opens_100 rfl (lv_at hl 3 rfl) ?_
        refine va_get (D := D) (ci := 6) (v := .ref on) (C := RX6) (T := TX6) (N := 14) hx hb ht hiX6 hown hK hP 0 rfl rfl 0 (by decide) (ht _ wb765) (fun _ h9 => h9) rfl dX6_opens_101 ?_
        refine lv_iload hx hb dX6_opens_104 (lv_at hl 0 rfl) ?_
        refine lv_iconst (v := 2) hx hb dX6_opens_106 (by decide) ?_
        refine lv_iadd hx hb dX6_opens_107 ?_
        refine lv_iload_n hx hb dX6_opens_108 rfl (lv_at hl 6 rfl) ?_
        obtain ⟨hi14, h⟩ := zg h
        refine va_iast hx hb hK hP hD hS 1 0 rfl rfl hi14 dX6_opens_109 (fun H locs hP hD hS => ?_)
        have hP : va_P D vwCl [(o, .inr (6, [.ref on, .ref op, .int states, .ref orr, .ref ot, .int bytes, .ref oh, .ref og, .ref od, .int reading, .int at_, .int wrongAt, .int number, .long hh])), (on, .inl (k 0, 401, .inl (upd (upd (upd r7.2 (Int32.toNatClampNeg r8) a1) (Int32.toNatClampNeg (r8 + 1)) a2) (Int32.toNatClampNeg (r8 + 2)) a3))), (og, .inl (k 0, 164, .inl fitting))] H := hP
        have hD : va_D A [(o, .inr (6, [.ref on, .ref op, .int states, .ref orr, .ref ot, .int bytes, .ref oh, .ref og, .ref od, .int reading, .int at_, .int wrongAt, .int number, .long hh])), (on, .inl (k 0, 401, .inl (upd (upd (upd r7.2 (Int32.toNatClampNeg r8) a1) (Int32.toNatClampNeg (r8 + 1)) a2) (Int32.toNatClampNeg (r8 + 2)) a3))), (og, .inl (k 0, 164, .inl fitting))] := hD
        refine lv_aload_n hx hb dX6_opens_110 rfl (lv_at hl 3 rfl) ?_
        refine va_get (D := D) (ci := 6) (v := .ref on) (C := RX6) (T := TX6) (N := 14) hx hb ht hiX6 hown hK hP 0 rfl rfl 0 (by decide) (ht _ wb765) (fun _ h9 => h9) rfl dX6_opens_111 ?_
        refine lv_iload hx hb dX6_opens_114 (lv_at hl 0 rfl) ?_
        refine lv_iconst (v := 3) hx hb dX6_opens_116 (by decide) ?_
        refine lv_iadd hx hb dX6_opens_117 ?_
        refine lv_iload hx hb dX6_opens_118 (lv_at hl 7 rfl) ?_
        obtain ⟨hi15, h⟩ := zg h
        refine va_iast hx hb hK hP hD hS 1 0 rfl rfl hi15 dX6_opens_120 (fun H locs hP hD hS => ?_)
        have hP : va_P D vwCl [(o, .inr (6, [.ref on, .ref op, .int states, .ref orr, .ref ot, .int bytes, .ref oh, .ref og, .ref od, .int reading, .int at_, .int wrongAt, .int number, .long hh])), (on, .inl (k 0, 401, .inl (upd (upd (upd (upd r7.2 (Int32.toNatClampNeg r8) a1) (Int32.toNatClampNeg (r8 + 1)) a2) (Int32.toNatClampNeg (r8 + 2)) a3) (Int32.toNatClampNeg (r8 + 3)) a4))), (og, .inl (k 0, 164, .inl fitting))] H := hP
        have hD : va_D A [(o, .inr (6, [.ref on, .ref op, .int states, .ref orr, .ref ot, .int bytes, .ref oh, .ref og, .ref od, .int reading, .int at_, .int wrongAt, .int number, .long hh])), (on, .inl (k 0, 401, .inl (upd (upd (upd (upd r7.2 (Int32.toNatClampNeg r8) a1) (Int32.toNatClampNeg (r8 + 1)) a2) (Int32.toNatClampNeg (r8 + 2)) a3) (Int32.toNatClampNeg (r8 + 3)) a4))), (og, .inl (k 0, 164, .inl fitting))] := hD
        refine lv_aload_n hx hb dX6_opens_121 rfl (lv_at hl 3 rfl) ?_
        refine va_get (D := D) (ci := 6) (v := .ref on) (C := RX6) (T := TX6) (N := 14) hx hb ht hiX6 hown hK hP 0 rfl rfl 0 (by decide) (ht _ wb765) (fun _ h9 => h9) rfl dX6_opens_122 ?_
        refine lv_iload hx hb dX6_opens_125 (lv_at hl 0 rfl) ?_
        refine lv_bipush (v := 6) hx hb dX6_opens_127 (by decide) ?_
        refine lv_iadd hx hb dX6_opens_129 ?_
        refine lv_iconst (v := (-1)) hx hb dX6_opens_130 (by decide) ?_
        obtain ⟨hi16, h⟩ := zg h
        refine va_iast hx hb hK hP hD hS 1 0 rfl rfl hi16 dX6_opens_131 (fun H locs hP hD hS => ?_)
        have hP : va_P D vwCl [(o, .inr (6, [.ref on, .ref op, .int states, .ref orr, .ref ot, .int bytes, .ref oh, .ref og, .ref od, .int reading, .int at_, .int wrongAt, .int number, .long hh])), (on, .inl (k 0, 401, .inl (upd (upd (upd (upd (upd r7.2 (Int32.toNatClampNeg r8) a1) (Int32.toNatClampNeg (r8 + 1)) a2) (Int32.toNatClampNeg (r8 + 2)) a3) (Int32.toNatClampNeg (r8 + 3)) a4) (Int32.toNatClampNeg (r8 + 6)) (-1)))), (og, .inl (k 0, 164, .inl fitting))] H := hP
        have hD : va_D A [(o, .inr (6, [.ref on, .ref op, .int states, .ref orr, .ref ot, .int bytes, .ref oh, .ref og, .ref od, .int reading, .int at_, .int wrongAt, .int number, .long hh])), (on, .inl (k 0, 401, .inl (upd (upd (upd (upd (upd r7.2 (Int32.toNatClampNeg r8) a1) (Int32.toNatClampNeg (r8 + 1)) a2) (Int32.toNatClampNeg (r8 + 2)) a3) (Int32.toNatClampNeg (r8 + 3)) a4) (Int32.toNatClampNeg (r8 + 6)) (-1)))), (og, .inl (k 0, 164, .inl fitting))] := hD
        refine lv_aload_n hx hb dX6_opens_132 rfl (lv_at hl 3 rfl) ?_
        refine lv_iload hx hb dX6_opens_133 (lv_at hl 0 rfl) ?_
        refine lv_iload hx hb dX6_opens_135 (lv_at hl 7 rfl) ?_
        refine lv_if_ne (tgt := 144) hx hb dX6_opens_137 (by decide) (fun c5 => ?_) (fun c5 => ?_)
        · have h := zf h c5
          refine lv_bipush (v := 6) hx hb dX6_opens_144 (by decide) ?_
          obtain ⟨r9, h9, h⟩ := zb h
          refine zv (zrV (C := RX6) (T := TX6) (N := 14) (As := [.int r8, .int 6]) (rest := []) ⟨hx, hb, hml, hown, ht⟩ (c_X6_becomes l D k o on op orr ot oh og od states bytes reading at_ wrongAt number hh (upd (upd (upd (upd (upd r7.2 (Int32.toNatClampNeg r8) a1) (Int32.toNatClampNeg (r8 + 1)) a2) (Int32.toNatClampNeg (r8 + 2)) a3) (Int32.toNatClampNeg (r8 + 3)) a4) (Int32.toNatClampNeg (r8 + 6)) (-1)) r8 6 h9 _) (cwV 2 ht (gdV wb1006 wb1008 wb52 wb80 wb1009) rfl rfl rfl (by decide +kernel) ⟨Nat.le_of_ble_eq_true rfl, Nat.le_of_ble_eq_true rfl⟩) hK hP hD hS hA hm [0, 1] rfl rfl 0 6 rfl rfl rfl hl.1 rfl (Nat.le_of_ble_eq_true rfl) dX6_opens_146 ⟨Nat.le_refl _, Nat.le_refl _⟩) hP hD hS hA [0, 1] rfl rfl (fun H locs hP hD hS => ?_)
          have hP : va_P D vwCl [(o, .inr (6, [.ref on, .ref op, .int states, .ref orr, .ref ot, .int bytes, .ref oh, .ref og, .ref od, .int reading, .int at_, .int wrongAt, .int number, .long hh])), (on, .inl (k 0, 401, .inl r9)), (og, .inl (k 0, 164, .inl fitting))] H := hP
          have hD : va_D A [(o, .inr (6, [.ref on, .ref op, .int states, .ref orr, .ref ot, .int bytes, .ref oh, .ref og, .ref od, .int reading, .int at_, .int wrongAt, .int number, .long hh])), (on, .inl (k 0, 401, .inl r9)), (og, .inl (k 0, 164, .inl fitting))] := hD
          refine lv_aload_n hx hb dX6_opens_149 rfl (lv_at hl 3 rfl) ?_
          refine va_get (D := D) (ci := 6) (v := .ref on) (C := RX6) (T := TX6) (N := 14) hx hb ht hiX6 hown hK hP 0 rfl rfl 0 (by decide) (ht _ wb765) (fun _ h9 => h9) rfl dX6_opens_150 ?_
          refine lv_sipush (v := 298) hx hb dX6_opens_153 (by decide) ?_
          refine lv_dup2_11 hx hb dX6_opens_156 rfl rfl ?_
          obtain ⟨hi17, h⟩ := zg h
          refine va_iald hx hb hK hP 1 0 rfl rfl hi17 dX6_opens_157 ?_
          refine lv_iconst (v := 1) hx hb dX6_opens_158 (by decide) ?_
          refine lv_iadd hx hb dX6_opens_159 ?_
          obtain ⟨hi18, h⟩ := zg h
          refine va_iast hx hb hK hP hD hS 1 0 rfl rfl hi18 dX6_opens_160 (fun H locs hP hD hS => ?_)
          have hP : va_P D vwCl [(o, .inr (6, [.ref on, .ref op, .int states, .ref orr, .ref ot, .int bytes, .ref oh, .ref og, .ref od, .int reading, .int at_, .int wrongAt, .int number, .long hh])), (on, .inl (k 0, 401, .inl (upd r9 (Int32.toNatClampNeg 298) ((r9 (Int32.toNatClampNeg 298)) + 1)))), (og, .inl (k 0, 164, .inl fitting))] H := hP
          have hD : va_D A [(o, .inr (6, [.ref on, .ref op, .int states, .ref orr, .ref ot, .int bytes, .ref oh, .ref og, .ref od, .int reading, .int at_, .int wrongAt, .int number, .long hh])), (on, .inl (k 0, 401, .inl (upd r9 (Int32.toNatClampNeg 298) ((r9 (Int32.toNatClampNeg 298)) + 1)))), (og, .inl (k 0, 164, .inl fitting))] := hD
          refine lv_iconst (v := 1) hx hb dX6_opens_161 (by decide) ?_
          obtain rfl := Option.some.inj h
          exact W.iret (v := 1) hx hb hr (fun t ht9 hW => ⟨⟨_, (), rfl, rfl, zend ht9 hP⟩, hS.F ht9⟩) hS.2.2 dX6_opens_162
        · have h := zt h c5
          refine lv_iconst (v := 1) hx hb dX6_opens_140 (by decide) ?_
          refine lv_goto (tgt := 146) hx hb dX6_opens_141 (by decide) ?_
          obtain ⟨r10, h10, h⟩ := zb h
          refine zv (zrV (C := RX6) (T := TX6) (N := 14) (As := [.int r8, .int 1]) (rest := []) ⟨hx, hb, hml, hown, ht⟩ (c_X6_becomes l D k o on op orr ot oh og od states bytes reading at_ wrongAt number hh (upd (upd (upd (upd (upd r7.2 (Int32.toNatClampNeg r8) a1) (Int32.toNatClampNeg (r8 + 1)) a2) (Int32.toNatClampNeg (r8 + 2)) a3) (Int32.toNatClampNeg (r8 + 3)) a4) (Int32.toNatClampNeg (r8 + 6)) (-1)) r8 1 h10 _) (cwV 2 ht (gdV wb1006 wb1008 wb52 wb80 wb1009) rfl rfl rfl (by decide +kernel) ⟨Nat.le_of_ble_eq_true rfl, Nat.le_of_ble_eq_true rfl⟩) hK hP hD hS hA hm [0, 1] rfl rfl 0 6 rfl rfl rfl hl.1 rfl (Nat.le_of_ble_eq_true rfl) dX6_opens_146 ⟨Nat.le_refl _, Nat.le_refl _⟩) hP hD hS hA [0, 1] rfl rfl (fun H locs hP hD hS => ?_)
          have hP : va_P D vwCl [(o, .inr (6, [.ref on, .ref op, .int states, .ref orr, .ref ot, .int bytes, .ref oh, .ref og, .ref od, .int reading, .int at_, .int wrongAt, .int number, .long hh])), (on, .inl (k 0, 401, .inl r10)), (og, .inl (k 0, 164, .inl fitting))] H := hP
          have hD : va_D A [(o, .inr (6, [.ref on, .ref op, .int states, .ref orr, .ref ot, .int bytes, .ref oh, .ref og, .ref od, .int reading, .int at_, .int wrongAt, .int number, .long hh])), (on, .inl (k 0, 401, .inl r10)), (og, .inl (k 0, 164, .inl fitting))] := hD
          refine lv_aload_n hx hb dX6_opens_149 rfl (lv_at hl 3 rfl) ?_
          refine va_get (D := D) (ci := 6) (v := .ref on) (C := RX6) (T := TX6) (N := 14) hx hb ht hiX6 hown hK hP 0 rfl rfl 0 (by decide) (ht _ wb765) (fun _ h9 => h9) rfl dX6_opens_150 ?_
          refine lv_sipush (v := 298) hx hb dX6_opens_153 (by decide) ?_
          refine lv_dup2_11 hx hb dX6_opens_156 rfl rfl ?_
          obtain ⟨hi19, h⟩ := zg h
          refine va_iald hx hb hK hP 1 0 rfl rfl hi19 dX6_opens_157 ?_
          refine lv_iconst (v := 1) hx hb dX6_opens_158 (by decide) ?_
          refine lv_iadd hx hb dX6_opens_159 ?_
          obtain ⟨hi20, h⟩ := zg h
          refine va_iast hx hb hK hP hD hS 1 0 rfl rfl hi20 dX6_opens_160 (fun H locs hP hD hS => ?_)
          have hP : va_P D vwCl [(o, .inr (6, [.ref on, .ref op, .int states, .ref orr, .ref ot, .int bytes, .ref oh, .ref og, .ref od, .int reading, .int at_, .int wrongAt, .int number, .long hh])), (on, .inl (k 0, 401, .inl (upd r10 (Int32.toNatClampNeg 298) ((r10 (Int32.toNatClampNeg 298)) + 1)))), (og, .inl (k 0, 164, .inl fitting))] H := hP
          have hD : va_D A [(o, .inr (6, [.ref on, .ref op, .int states, .ref orr, .ref ot, .int bytes, .ref oh, .ref og, .ref od, .int reading, .int at_, .int wrongAt, .int number, .long hh])), (on, .inl (k 0, 401, .inl (upd r10 (Int32.toNatClampNeg 298) ((r10 (Int32.toNatClampNeg 298)) + 1)))), (og, .inl (k 0, 164, .inl fitting))] := hD
          refine lv_iconst (v := 1) hx hb dX6_opens_161 (by decide) ?_
          obtain rfl := Option.some.inj h
          exact W.iret (v := 1) hx hb hr (fun t ht9 hW => ⟨⟨_, (), rfl, rfl, zend ht9 hP⟩, hS.F ht9⟩) hS.2.2 dX6_opens_162
      · have h := zt h c6
        refine lv_iconst (v := 4) hx hb dX6_opens_66 (by decide) ?_
        obtain rfl := Option.some.inj h
        exact W.iret (v := 4) hx hb hr (fun t ht9 hW => ⟨⟨_, (), rfl, rfl, zend ht9 hP⟩, hS.F ht9⟩) hS.2.2 dX6_opens_67
  · have h := zf h c15
    refine lv_aload_n hx hb dX6_opens_16 rfl (lv_at hl 1 rfl) ?_
    refine lv_iload hx hb dX6_opens_17 (lv_at hl 0 rfl) ?_
    obtain ⟨r11, h11, h⟩ := zb h
    refine zv (zrV (C := RX6) (T := TX6) (N := 14) (As := [.int r1]) (rest := []) ⟨hx, hb, hml, hown, ht⟩ (c_X6_saidGoes l D k o on op orr ot oh og od states bytes reading at_ wrongAt number hh now r1 fu h11 _) (cwV 1 ht (gdV wb1018 wb1020 wb55 wb80 wb1021) rfl rfl rfl (by decide +kernel) ⟨Nat.le_of_ble_eq_true rfl, Nat.le_of_ble_eq_true rfl⟩) hK hP hD hS hA hm [0, 1] rfl rfl 0 6 rfl rfl rfl hl.1 rfl (Nat.le_of_ble_eq_true rfl) dX6_opens_19 ⟨Nat.le_refl _, Nat.le_refl _⟩) hP hD hS hA [0, 1] rfl rfl (fun H locs hP hD hS => ?_)
    have hP : va_P D vwCl [(o, .inr (6, [.ref on, .ref op, .int states, .ref orr, .ref ot, .int bytes, .ref oh, .ref og, .ref od, .int reading, .int at_, .int wrongAt, .int number, .long hh])), (on, .inl (k 0, 401, .inl r11)), (og, .inl (k 0, 164, .inl fitting))] H := hP
    have hD : va_D A [(o, .inr (6, [.ref on, .ref op, .int states, .ref orr, .ref ot, .int bytes, .ref oh, .ref og, .ref od, .int reading, .int at_, .int wrongAt, .int number, .long hh])), (on, .inl (k 0, 401, .inl r11)), (og, .inl (k 0, 164, .inl fitting))] := hD
    refine lv_iload hx hb dX6_opens_22 (lv_at hl 0 rfl) ?_
    refine lv_if_lt (tgt := 31) hx hb dX6_opens_24 (by decide) (fun c14 => ?_) (fun c14 => ?_)
    · have h := zt h c14
      refine lv_aload_n hx hb dX6_opens_31 rfl (lv_at hl 1 rfl) ?_
      refine lv_iload_n hx hb dX6_opens_32 rfl (lv_at hl 2 rfl) ?_
      refine lv_iload_n hx hb dX6_opens_33 rfl (lv_at hl 3 rfl) ?_
      refine lv_iload_n hx hb dX6_opens_34 rfl (lv_at hl 4 rfl) ?_
      refine lv_iload hx hb dX6_opens_35 (lv_at hl 5 rfl) ?_
      obtain ⟨r12, h12, h⟩ := zb h
      refine zi (zrV (C := RX6) (T := TX6) (N := 14) (As := [.int a1, .int a2, .int a3, .int a4]) (rest := []) ⟨hx, hb, hml, hown, ht⟩ (c_X6_asks l D k o on op orr ot oh og od states bytes reading at_ wrongAt number hh r11 fitting a1 a2 a3 a4 fu h12 _) (cwV 4 ht (gdV wb1022 wb1024 wb56 wb80 wb1025) rfl rfl rfl (by decide +kernel) ⟨Nat.le_of_ble_eq_true rfl, Nat.le_of_ble_eq_true rfl⟩) hK hP hD hS hA hm [0, 1, 2] rfl rfl 0 6 rfl rfl rfl hl.1 rfl (Nat.le_of_ble_eq_true rfl) dX6_opens_37 ⟨Nat.le_refl _, Nat.le_refl _⟩) hP hD hS hA [0, 1, 2] rfl rfl (fun H locs hP hD hS => ?_)
      have hP : va_P D vwCl [(o, .inr (6, [.ref on, .ref op, .int states, .ref orr, .ref ot, .int bytes, .ref oh, .ref og, .ref od, .int reading, .int at_, .int wrongAt, .int number, .long hh])), (on, .inl (k 0, 401, .inl r12.2.1)), (og, .inl (k 0, 164, .inl r12.2.2))] H := hP
      have hD : va_D A [(o, .inr (6, [.ref on, .ref op, .int states, .ref orr, .ref ot, .int bytes, .ref oh, .ref og, .ref od, .int reading, .int at_, .int wrongAt, .int number, .long hh])), (on, .inl (k 0, 401, .inl r12.2.1)), (og, .inl (k 0, 164, .inl r12.2.2))] := hD
      refine lv_istore (lv' := [(6, .int r12.1), (5, .int r1), (0, .ref o), (1, .int a1), (2, .int a2), (3, .int a3), (4, .int a4)]) hx hb dX6_opens_40 hl (by decide) rfl (fun ls hl => ?_)
      refine lv_iload hx hb dX6_opens_42 (lv_at hl 0 rfl) ?_
      refine lv_iconst (v := 1) hx hb dX6_opens_44 (by decide) ?_
      refine lv_icmp_eq (tgt := 59) hx hb dX6_opens_45 (by decide) (fun c11 => ?_) (fun c11 => ?_)
      · have h := zt h c11
        refine lv_aload_n hx hb dX6_opens_59 rfl (lv_at hl 2 rfl) ?_
        obtain ⟨r13, h13, h⟩ := zb h
        refine zi (zrV (C := RX6) (T := TX6) (N := 14) (As := []) (rest := []) ⟨hx, hb, hml, hown, ht⟩ (c_X6_hasRoom l D k o on op orr ot oh og od states bytes reading at_ wrongAt number hh r12.2.1  fu h13 _) (cwV 0 ht (gdV wb1026 wb1028 wb57 wb80 wb1029) rfl rfl rfl (by decide +kernel) ⟨Nat.le_of_ble_eq_true rfl, Nat.le_of_ble_eq_true rfl⟩) hK hP hD hS hA hm [0, 1] rfl rfl 0 6 rfl rfl rfl hl.1 rfl (Nat.le_of_ble_eq_true rfl) dX6_opens_60 ⟨Nat.le_refl _, Nat.le_refl _⟩) hP hD hS hA [0, 1] rfl rfl (fun H locs hP hD hS => ?_)
        have hP : va_P D vwCl [(o, .inr (6, [.ref on, .ref op, .int states, .ref orr, .ref ot, .int bytes, .ref oh, .ref og, .ref od, .int reading, .int at_, .int wrongAt, .int number, .long hh])), (on, .inl (k 0, 401, .inl r13.2)), (og, .inl (k 0, 164, .inl r12.2.2))] H := hP
        have hD : va_D A [(o, .inr (6, [.ref on, .ref op, .int states, .ref orr, .ref ot, .int bytes, .ref oh, .ref og, .ref od, .int reading, .int at_, .int wrongAt, .int number, .long hh])), (on, .inl (k 0, 401, .inl r13.2)), (og, .inl (k 0, 164, .inl r12.2.2))] := hD
        refine lv_if_ne (tgt := 68) hx hb dX6_opens_63 (by decide) (fun c9 => ?_) (fun c9 => ?_)
        · have h := zf h c9
          refine lv_aload_n hx hb dX6_opens_68 rfl (lv_at hl 2 rfl) ?_
          refine lv_aload_n hx hb dX6_opens_69 rfl (lv_at hl 2 rfl) ?_
          refine va_get (D := D) (ci := 6) (v := .ref on) (C := RX6) (T := TX6) (N := 14) hx hb ht hiX6 hown hK hP 0 rfl rfl 0 (by decide) (ht _ wb765) (fun _ h9 => h9) rfl dX6_opens_70 ?_
          refine lv_sipush (v := 298) hx hb dX6_opens_73 (by decide) ?_
          obtain ⟨hi21, h⟩ := zg h
          refine va_iald hx hb hK hP 1 0 rfl rfl hi21 dX6_opens_76 ?_
          obtain ⟨r14, h14, h⟩ := zb h
          refine zi (zrV (C := RX6) (T := TX6) (N := 14) (As := [.int (r13.2 (Int32.toNatClampNeg 298))]) (rest := []) ⟨hx, hb, hml, hown, ht⟩ (c_X6_flowAt l D k o on op orr ot oh og od states bytes reading at_ wrongAt number hh (r13.2 (Int32.toNatClampNeg 298)) h14 _) (cwV 1 ht (gdV wb987 wb989 wb48 wb80 wb990) rfl rfl rfl (by decide +kernel) ⟨Nat.le_of_ble_eq_true rfl, Nat.le_of_ble_eq_true rfl⟩) hK hP hD hS hA hm [0] rfl rfl 0 6 rfl rfl rfl hl.1 rfl (Nat.le_of_ble_eq_true rfl) dX6_opens_77 ⟨Nat.le_refl _, Nat.le_refl _⟩) hP hD hS hA [0] rfl rfl (fun H locs hP hD hS => ?_)
          have hP : va_P D vwCl [(o, .inr (6, [.ref on, .ref op, .int states, .ref orr, .ref ot, .int bytes, .ref oh, .ref og, .ref od, .int reading, .int at_, .int wrongAt, .int number, .long hh])), (on, .inl (k 0, 401, .inl r13.2)), (og, .inl (k 0, 164, .inl r12.2.2))] H := hP
          have hD : va_D A [(o, .inr (6, [.ref on, .ref op, .int states, .ref orr, .ref ot, .int bytes, .ref oh, .ref og, .ref od, .int reading, .int at_, .int wrongAt, .int number, .long hh])), (on, .inl (k 0, 401, .inl r13.2)), (og, .inl (k 0, 164, .inl r12.2.2))] := hD
          refine lv_istore (lv' := [(7, .int r14), (6, .int r12.1), (5, .int r1), (0, .ref o), (1, .int a1), (2, .int a2), (3, .int a3), (4, .int a4)]) hx hb dX6_opens_80 hl (by decide) rfl (fun ls hl => ?_)
          refine lv_aload_n hx hb dX6_opens_82 rfl (lv_at hl 3 rfl) ?_
          refine va_get (D := D) (ci := 6) (v := .ref on) (C := RX6) (T := TX6) (N := 14) hx hb ht hiX6 hown hK hP 0 rfl rfl 0 (by decide) (ht _ wb765) (fun _ h9 => h9) rfl dX6_opens_83 ?_
          refine lv_iload hx hb dX6_opens_86 (lv_at hl 0 rfl) ?_
          refine lv_iload_n hx hb dX6_opens_88 rfl (lv_at hl 4 rfl) ?_
          obtain ⟨hi22, h⟩ := zg h
          refine va_iast hx hb hK hP hD hS 1 0 rfl rfl hi22 dX6_opens_89 (fun H locs hP hD hS => ?_)
          have hP : va_P D vwCl [(o, .inr (6, [.ref on, .ref op, .int states, .ref orr, .ref ot, .int bytes, .ref oh, .ref og, .ref od, .int reading, .int at_, .int wrongAt, .int number, .long hh])), (on, .inl (k 0, 401, .inl (upd r13.2 (Int32.toNatClampNeg r14) a1))), (og, .inl (k 0, 164, .inl r12.2.2))] H := hP
          have hD : va_D A [(o, .inr (6, [.ref on, .ref op, .int states, .ref orr, .ref ot, .int bytes, .ref oh, .ref og, .ref od, .int reading, .int at_, .int wrongAt, .int number, .long hh])), (on, .inl (k 0, 401, .inl (upd r13.2 (Int32.toNatClampNeg r14) a1))), (og, .inl (k 0, 164, .inl r12.2.2))] := hD
          refine lv_aload_n hx hb dX6_opens_90 rfl (lv_at hl 3 rfl) ?_
          refine va_get (D := D) (ci := 6) (v := .ref on) (C := RX6) (T := TX6) (N := 14) hx hb ht hiX6 hown hK hP 0 rfl rfl 0 (by decide) (ht _ wb765) (fun _ h9 => h9) rfl dX6_opens_91 ?_
          refine lv_iload hx hb dX6_opens_94 (lv_at hl 0 rfl) ?_
          refine lv_iconst (v := 1) hx hb dX6_opens_96 (by decide) ?_
          refine lv_iadd hx hb dX6_opens_97 ?_
          refine lv_iload_n hx hb dX6_opens_98 rfl (lv_at hl 5 rfl) ?_
          obtain ⟨hi23, h⟩ := zg h
          refine va_iast hx hb hK hP hD hS 1 0 rfl rfl hi23 dX6_opens_99 (fun H locs hP hD hS => ?_)
          have hP : va_P D vwCl [(o, .inr (6, [.ref on, .ref op, .int states, .ref orr, .ref ot, .int bytes, .ref oh, .ref og, .ref od, .int reading, .int at_, .int wrongAt, .int number, .long hh])), (on, .inl (k 0, 401, .inl (upd (upd r13.2 (Int32.toNatClampNeg r14) a1) (Int32.toNatClampNeg (r14 + 1)) a2))), (og, .inl (k 0, 164, .inl r12.2.2))] H := hP
          have hD : va_D A [(o, .inr (6, [.ref on, .ref op, .int states, .ref orr, .ref ot, .int bytes, .ref oh, .ref og, .ref od, .int reading, .int at_, .int wrongAt, .int number, .long hh])), (on, .inl (k 0, 401, .inl (upd (upd r13.2 (Int32.toNatClampNeg r14) a1) (Int32.toNatClampNeg (r14 + 1)) a2))), (og, .inl (k 0, 164, .inl r12.2.2))] := hD
          refine lv_aload_n hx hb dX6_opens_100 rfl (lv_at hl 3 rfl) ?_
          refine va_get (D := D) (ci := 6) (v := .ref on) (C := RX6) (T := TX6) (N := 14) hx hb ht hiX6 hown hK hP 0 rfl rfl 0 (by decide) (ht _ wb765) (fun _ h9 => h9) rfl dX6_opens_101 ?_
          refine lv_iload hx hb dX6_opens_104 (lv_at hl 0 rfl) ?_
          refine lv_iconst (v := 2) hx hb dX6_opens_106 (by decide) ?_
          refine lv_iadd hx hb dX6_opens_107 ?_
          refine lv_iload_n hx hb dX6_opens_108 rfl (lv_at hl 6 rfl) ?_
          obtain ⟨hi24, h⟩ := zg h
          refine va_iast hx hb hK hP hD hS 1 0 rfl rfl hi24 dX6_opens_109 (fun H locs hP hD hS => ?_)
          have hP : va_P D vwCl [(o, .inr (6, [.ref on, .ref op, .int states, .ref orr, .ref ot, .int bytes, .ref oh, .ref og, .ref od, .int reading, .int at_, .int wrongAt, .int number, .long hh])), (on, .inl (k 0, 401, .inl (upd (upd (upd r13.2 (Int32.toNatClampNeg r14) a1) (Int32.toNatClampNeg (r14 + 1)) a2) (Int32.toNatClampNeg (r14 + 2)) a3))), (og, .inl (k 0, 164, .inl r12.2.2))] H := hP
          have hD : va_D A [(o, .inr (6, [.ref on, .ref op, .int states, .ref orr, .ref ot, .int bytes, .ref oh, .ref og, .ref od, .int reading, .int at_, .int wrongAt, .int number, .long hh])), (on, .inl (k 0, 401, .inl (upd (upd (upd r13.2 (Int32.toNatClampNeg r14) a1) (Int32.toNatClampNeg (r14 + 1)) a2) (Int32.toNatClampNeg (r14 + 2)) a3))), (og, .inl (k 0, 164, .inl r12.2.2))] := hD
          refine lv_aload_n hx hb dX6_opens_110 rfl (lv_at hl 3 rfl) ?_
          refine va_get (D := D) (ci := 6) (v := .ref on) (C := RX6) (T := TX6) (N := 14) hx hb ht hiX6 hown hK hP 0 rfl rfl 0 (by decide) (ht _ wb765) (fun _ h9 => h9) rfl dX6_opens_111 ?_
          refine lv_iload hx hb dX6_opens_114 (lv_at hl 0 rfl) ?_
          refine lv_iconst (v := 3) hx hb dX6_opens_116 (by decide) ?_
          refine lv_iadd hx hb dX6_opens_117 ?_
          refine lv_iload hx hb dX6_opens_118 (lv_at hl 7 rfl) ?_
          obtain ⟨hi25, h⟩ := zg h
          refine va_iast hx hb hK hP hD hS 1 0 rfl rfl hi25 dX6_opens_120 (fun H locs hP hD hS => ?_)
          have hP : va_P D vwCl [(o, .inr (6, [.ref on, .ref op, .int states, .ref orr, .ref ot, .int bytes, .ref oh, .ref og, .ref od, .int reading, .int at_, .int wrongAt, .int number, .long hh])), (on, .inl (k 0, 401, .inl (upd (upd (upd (upd r13.2 (Int32.toNatClampNeg r14) a1) (Int32.toNatClampNeg (r14 + 1)) a2) (Int32.toNatClampNeg (r14 + 2)) a3) (Int32.toNatClampNeg (r14 + 3)) a4))), (og, .inl (k 0, 164, .inl r12.2.2))] H := hP
          have hD : va_D A [(o, .inr (6, [.ref on, .ref op, .int states, .ref orr, .ref ot, .int bytes, .ref oh, .ref og, .ref od, .int reading, .int at_, .int wrongAt, .int number, .long hh])), (on, .inl (k 0, 401, .inl (upd (upd (upd (upd r13.2 (Int32.toNatClampNeg r14) a1) (Int32.toNatClampNeg (r14 + 1)) a2) (Int32.toNatClampNeg (r14 + 2)) a3) (Int32.toNatClampNeg (r14 + 3)) a4))), (og, .inl (k 0, 164, .inl r12.2.2))] := hD
          refine lv_aload_n hx hb dX6_opens_121 rfl (lv_at hl 3 rfl) ?_
          refine va_get (D := D) (ci := 6) (v := .ref on) (C := RX6) (T := TX6) (N := 14) hx hb ht hiX6 hown hK hP 0 rfl rfl 0 (by decide) (ht _ wb765) (fun _ h9 => h9) rfl dX6_opens_122 ?_
          refine lv_iload hx hb dX6_opens_125 (lv_at hl 0 rfl) ?_
          refine lv_bipush (v := 6) hx hb dX6_opens_127 (by decide) ?_
          refine lv_iadd hx hb dX6_opens_129 ?_
          refine lv_iconst (v := (-1)) hx hb dX6_opens_130 (by decide) ?_
          obtain ⟨hi26, h⟩ := zg h
          refine va_iast hx hb hK hP hD hS 1 0 rfl rfl hi26 dX6_opens_131 (fun H locs hP hD hS => ?_)
          have hP : va_P D vwCl [(o, .inr (6, [.ref on, .ref op, .int states, .ref orr, .ref ot, .int bytes, .ref oh, .ref og, .ref od, .int reading, .int at_, .int wrongAt, .int number, .long hh])), (on, .inl (k 0, 401, .inl (upd (upd (upd (upd (upd r13.2 (Int32.toNatClampNeg r14) a1) (Int32.toNatClampNeg (r14 + 1)) a2) (Int32.toNatClampNeg (r14 + 2)) a3) (Int32.toNatClampNeg (r14 + 3)) a4) (Int32.toNatClampNeg (r14 + 6)) (-1)))), (og, .inl (k 0, 164, .inl r12.2.2))] H := hP
          have hD : va_D A [(o, .inr (6, [.ref on, .ref op, .int states, .ref orr, .ref ot, .int bytes, .ref oh, .ref og, .ref od, .int reading, .int at_, .int wrongAt, .int number, .long hh])), (on, .inl (k 0, 401, .inl (upd (upd (upd (upd (upd r13.2 (Int32.toNatClampNeg r14) a1) (Int32.toNatClampNeg (r14 + 1)) a2) (Int32.toNatClampNeg (r14 + 2)) a3) (Int32.toNatClampNeg (r14 + 3)) a4) (Int32.toNatClampNeg (r14 + 6)) (-1)))), (og, .inl (k 0, 164, .inl r12.2.2))] := hD
          refine lv_aload_n hx hb dX6_opens_132 rfl (lv_at hl 3 rfl) ?_
          refine lv_iload hx hb dX6_opens_133 (lv_at hl 0 rfl) ?_
          refine lv_iload hx hb dX6_opens_135 (lv_at hl 7 rfl) ?_
          refine lv_if_ne (tgt := 144) hx hb dX6_opens_137 (by decide) (fun c8 => ?_) (fun c8 => ?_)
          · have h := zf h c8
            refine lv_bipush (v := 6) hx hb dX6_opens_144 (by decide) ?_
            obtain ⟨r15, h15, h⟩ := zb h
            refine zv (zrV (C := RX6) (T := TX6) (N := 14) (As := [.int r14, .int 6]) (rest := []) ⟨hx, hb, hml, hown, ht⟩ (c_X6_becomes l D k o on op orr ot oh og od states bytes reading at_ wrongAt number hh (upd (upd (upd (upd (upd r13.2 (Int32.toNatClampNeg r14) a1) (Int32.toNatClampNeg (r14 + 1)) a2) (Int32.toNatClampNeg (r14 + 2)) a3) (Int32.toNatClampNeg (r14 + 3)) a4) (Int32.toNatClampNeg (r14 + 6)) (-1)) r14 6 h15 _) (cwV 2 ht (gdV wb1006 wb1008 wb52 wb80 wb1009) rfl rfl rfl (by decide +kernel) ⟨Nat.le_of_ble_eq_true rfl, Nat.le_of_ble_eq_true rfl⟩) hK hP hD hS hA hm [0, 1] rfl rfl 0 6 rfl rfl rfl hl.1 rfl (Nat.le_of_ble_eq_true rfl) dX6_opens_146 ⟨Nat.le_refl _, Nat.le_refl _⟩) hP hD hS hA [0, 1] rfl rfl (fun H locs hP hD hS => ?_)
            have hP : va_P D vwCl [(o, .inr (6, [.ref on, .ref op, .int states, .ref orr, .ref ot, .int bytes, .ref oh, .ref og, .ref od, .int reading, .int at_, .int wrongAt, .int number, .long hh])), (on, .inl (k 0, 401, .inl r15)), (og, .inl (k 0, 164, .inl r12.2.2))] H := hP
            have hD : va_D A [(o, .inr (6, [.ref on, .ref op, .int states, .ref orr, .ref ot, .int bytes, .ref oh, .ref og, .ref od, .int reading, .int at_, .int wrongAt, .int number, .long hh])), (on, .inl (k 0, 401, .inl r15)), (og, .inl (k 0, 164, .inl r12.2.2))] := hD
            refine lv_aload_n hx hb dX6_opens_149 rfl (lv_at hl 3 rfl) ?_
            refine va_get (D := D) (ci := 6) (v := .ref on) (C := RX6) (T := TX6) (N := 14) hx hb ht hiX6 hown hK hP 0 rfl rfl 0 (by decide) (ht _ wb765) (fun _ h9 => h9) rfl dX6_opens_150 ?_
            refine lv_sipush (v := 298) hx hb dX6_opens_153 (by decide) ?_
            refine lv_dup2_11 hx hb dX6_opens_156 rfl rfl ?_
            obtain ⟨hi27, h⟩ := zg h
            refine va_iald hx hb hK hP 1 0 rfl rfl hi27 dX6_opens_157 ?_
            refine lv_iconst (v := 1) hx hb dX6_opens_158 (by decide) ?_
            refine lv_iadd hx hb dX6_opens_159 ?_
            obtain ⟨hi28, h⟩ := zg h
            refine va_iast hx hb hK hP hD hS 1 0 rfl rfl hi28 dX6_opens_160 (fun H locs hP hD hS => ?_)
            have hP : va_P D vwCl [(o, .inr (6, [.ref on, .ref op, .int states, .ref orr, .ref ot, .int bytes, .ref oh, .ref og, .ref od, .int reading, .int at_, .int wrongAt, .int number, .long hh])), (on, .inl (k 0, 401, .inl (upd r15 (Int32.toNatClampNeg 298) ((r15 (Int32.toNatClampNeg 298)) + 1)))), (og, .inl (k 0, 164, .inl r12.2.2))] H := hP
            have hD : va_D A [(o, .inr (6, [.ref on, .ref op, .int states, .ref orr, .ref ot, .int bytes, .ref oh, .ref og, .ref od, .int reading, .int at_, .int wrongAt, .int number, .long hh])), (on, .inl (k 0, 401, .inl (upd r15 (Int32.toNatClampNeg 298) ((r15 (Int32.toNatClampNeg 298)) + 1)))), (og, .inl (k 0, 164, .inl r12.2.2))] := hD
            refine lv_iconst (v := 1) hx hb dX6_opens_161 (by decide) ?_
            obtain rfl := Option.some.inj h
            exact W.iret (v := 1) hx hb hr (fun t ht9 hW => ⟨⟨_, (), rfl, rfl, zend ht9 hP⟩, hS.F ht9⟩) hS.2.2 dX6_opens_162
          · have h := zt h c8
            refine lv_iconst (v := 1) hx hb dX6_opens_140 (by decide) ?_
            refine lv_goto (tgt := 146) hx hb dX6_opens_141 (by decide) ?_
            obtain ⟨r16, h16, h⟩ := zb h
            refine zv (zrV (C := RX6) (T := TX6) (N := 14) (As := [.int r14, .int 1]) (rest := []) ⟨hx, hb, hml, hown, ht⟩ (c_X6_becomes l D k o on op orr ot oh og od states bytes reading at_ wrongAt number hh (upd (upd (upd (upd (upd r13.2 (Int32.toNatClampNeg r14) a1) (Int32.toNatClampNeg (r14 + 1)) a2) (Int32.toNatClampNeg (r14 + 2)) a3) (Int32.toNatClampNeg (r14 + 3)) a4) (Int32.toNatClampNeg (r14 + 6)) (-1)) r14 1 h16 _) (cwV 2 ht (gdV wb1006 wb1008 wb52 wb80 wb1009) rfl rfl rfl (by decide +kernel) ⟨Nat.le_of_ble_eq_true rfl, Nat.le_of_ble_eq_true rfl⟩) hK hP hD hS hA hm [0, 1] rfl rfl 0 6 rfl rfl rfl hl.1 rfl (Nat.le_of_ble_eq_true rfl) dX6_opens_146 ⟨Nat.le_refl _, Nat.le_refl _⟩) hP hD hS hA [0, 1] rfl rfl (fun H locs hP hD hS => ?_)
            have hP : va_P D vwCl [(o, .inr (6, [.ref on, .ref op, .int states, .ref orr, .ref ot, .int bytes, .ref oh, .ref og, .ref od, .int reading, .int at_, .int wrongAt, .int number, .long hh])), (on, .inl (k 0, 401, .inl r16)), (og, .inl (k 0, 164, .inl r12.2.2))] H := hP
            have hD : va_D A [(o, .inr (6, [.ref on, .ref op, .int states, .ref orr, .ref ot, .int bytes, .ref oh, .ref og, .ref od, .int reading, .int at_, .int wrongAt, .int number, .long hh])), (on, .inl (k 0, 401, .inl r16)), (og, .inl (k 0, 164, .inl r12.2.2))] := hD
            refine lv_aload_n hx hb dX6_opens_149 rfl (lv_at hl 3 rfl) ?_
            refine va_get (D := D) (ci := 6) (v := .ref on) (C := RX6) (T := TX6) (N := 14) hx hb ht hiX6 hown hK hP 0 rfl rfl 0 (by decide) (ht _ wb765) (fun _ h9 => h9) rfl dX6_opens_150 ?_
            refine lv_sipush (v := 298) hx hb dX6_opens_153 (by decide) ?_
            refine lv_dup2_11 hx hb dX6_opens_156 rfl rfl ?_
            obtain ⟨hi29, h⟩ := zg h
            refine va_iald hx hb hK hP 1 0 rfl rfl hi29 dX6_opens_157 ?_
            refine lv_iconst (v := 1) hx hb dX6_opens_158 (by decide) ?_
            refine lv_iadd hx hb dX6_opens_159 ?_
            obtain ⟨hi30, h⟩ := zg h
            refine va_iast hx hb hK hP hD hS 1 0 rfl rfl hi30 dX6_opens_160 (fun H locs hP hD hS => ?_)
            have hP : va_P D vwCl [(o, .inr (6, [.ref on, .ref op, .int states, .ref orr, .ref ot, .int bytes, .ref oh, .ref og, .ref od, .int reading, .int at_, .int wrongAt, .int number, .long hh])), (on, .inl (k 0, 401, .inl (upd r16 (Int32.toNatClampNeg 298) ((r16 (Int32.toNatClampNeg 298)) + 1)))), (og, .inl (k 0, 164, .inl r12.2.2))] H := hP
            have hD : va_D A [(o, .inr (6, [.ref on, .ref op, .int states, .ref orr, .ref ot, .int bytes, .ref oh, .ref og, .ref od, .int reading, .int at_, .int wrongAt, .int number, .long hh])), (on, .inl (k 0, 401, .inl (upd r16 (Int32.toNatClampNeg 298) ((r16 (Int32.toNatClampNeg 298)) + 1)))), (og, .inl (k 0, 164, .inl r12.2.2))] := hD
            refine lv_iconst (v := 1) hx hb dX6_opens_161 (by decide) ?_
            obtain rfl := Option.some.inj h
            exact W.iret (v := 1) hx hb hr (fun t ht9 hW => ⟨⟨_, (), rfl, rfl, zend ht9 hP⟩, hS.F ht9⟩) hS.2.2 dX6_opens_162
        · have h := zt h c9
          refine lv_iconst (v := 4) hx hb dX6_opens_66 (by decide) ?_
          obtain rfl := Option.some.inj h
          exact W.iret (v := 4) hx hb hr (fun t ht9 hW => ⟨⟨_, (), rfl, rfl, zend ht9 hP⟩, hS.F ht9⟩) hS.2.2 dX6_opens_67
      · have h := zf h c11
        refine lv_iload hx hb dX6_opens_48 (lv_at hl 0 rfl) ?_
        refine lv_if_ne (tgt := 57) hx hb dX6_opens_50 (by decide) (fun c10 => ?_) (fun c10 => ?_)
        · have h := zf h c10
          refine lv_iconst (v := 2) hx hb dX6_opens_57 (by decide) ?_
          obtain rfl := Option.some.inj h
          exact W.iret (v := 2) hx hb hr (fun t ht9 hW => ⟨⟨_, (), rfl, rfl, zend ht9 hP⟩, hS.F ht9⟩) hS.2.2 dX6_opens_58
        · have h := zt h c10
          refine lv_iconst (v := 0) hx hb dX6_opens_53 (by decide) ?_
          refine lv_goto (tgt := 58) hx hb dX6_opens_54 (by decide) ?_
          obtain rfl := Option.some.inj h
          exact W.iret (v := 0) hx hb hr (fun t ht9 hW => ⟨⟨_, (), rfl, rfl, zend ht9 hP⟩, hS.F ht9⟩) hS.2.2 dX6_opens_58
    · have h := zf h c14
      refine lv_iconst (v := 1) hx hb dX6_opens_27 (by decide) ?_
      refine lv_goto (tgt := 40) hx hb dX6_opens_28 (by decide) ?_
      refine lv_istore (lv' := [(6, .int 1), (5, .int r1), (0, .ref o), (1, .int a1), (2, .int a2), (3, .int a3), (4, .int a4)]) hx hb dX6_opens_40 hl (by decide) rfl (fun ls hl => ?_)
      refine lv_iload hx hb dX6_opens_42 (lv_at hl 0 rfl) ?_
      refine lv_iconst (v := 1) hx hb dX6_opens_44 (by decide) ?_
      refine lv_icmp_eq (tgt := 59) hx hb dX6_opens_45 (by decide) (fun _ => ?_) (fun c9 => absurd (by decide) c9)
      refine lv_aload_n hx hb dX6_opens_59 rfl (lv_at hl 2 rfl) ?_
      obtain ⟨r17, h17, h⟩ := zb h
      refine zi (zrV (C := RX6) (T := TX6) (N := 14) (As := []) (rest := []) ⟨hx, hb, hml, hown, ht⟩ (c_X6_hasRoom l D k o on op orr ot oh og od states bytes reading at_ wrongAt number hh r11  fu h17 _) (cwV 0 ht (gdV wb1026 wb1028 wb57 wb80 wb1029) rfl rfl rfl (by decide +kernel) ⟨Nat.le_of_ble_eq_true rfl, Nat.le_of_ble_eq_true rfl⟩) hK hP hD hS hA hm [0, 1] rfl rfl 0 6 rfl rfl rfl hl.1 rfl (Nat.le_of_ble_eq_true rfl) dX6_opens_60 ⟨Nat.le_refl _, Nat.le_refl _⟩) hP hD hS hA [0, 1] rfl rfl (fun H locs hP hD hS => ?_)
      have hP : va_P D vwCl [(o, .inr (6, [.ref on, .ref op, .int states, .ref orr, .ref ot, .int bytes, .ref oh, .ref og, .ref od, .int reading, .int at_, .int wrongAt, .int number, .long hh])), (on, .inl (k 0, 401, .inl r17.2)), (og, .inl (k 0, 164, .inl fitting))] H := hP
      have hD : va_D A [(o, .inr (6, [.ref on, .ref op, .int states, .ref orr, .ref ot, .int bytes, .ref oh, .ref og, .ref od, .int reading, .int at_, .int wrongAt, .int number, .long hh])), (on, .inl (k 0, 401, .inl r17.2)), (og, .inl (k 0, 164, .inl fitting))] := hD
      refine lv_if_ne (tgt := 68) hx hb dX6_opens_63 (by decide) (fun c13 => ?_) (fun c13 => ?_)
      · have h := zf h c13
        refine lv_aload_n hx hb dX6_opens_68 rfl (lv_at hl 2 rfl) ?_
        refine lv_aload_n hx hb dX6_opens_69 rfl (lv_at hl 2 rfl) ?_
        refine va_get (D := D) (ci := 6) (v := .ref on) (C := RX6) (T := TX6) (N := 14) hx hb ht hiX6 hown hK hP 0 rfl rfl 0 (by decide) (ht _ wb765) (fun _ h9 => h9) rfl dX6_opens_70 ?_
        refine lv_sipush (v := 298) hx hb dX6_opens_73 (by decide) ?_
        obtain ⟨hi31, h⟩ := zg h
        refine va_iald hx hb hK hP 1 0 rfl rfl hi31 dX6_opens_76 ?_
        obtain ⟨r18, h18, h⟩ := zb h
        refine zi (zrV (C := RX6) (T := TX6) (N := 14) (As := [.int (r17.2 (Int32.toNatClampNeg 298))]) (rest := []) ⟨hx, hb, hml, hown, ht⟩ (c_X6_flowAt l D k o on op orr ot oh og od states bytes reading at_ wrongAt number hh (r17.2 (Int32.toNatClampNeg 298)) h18 _) (cwV 1 ht (gdV wb987 wb989 wb48 wb80 wb990) rfl rfl rfl (by decide +kernel) ⟨Nat.le_of_ble_eq_true rfl, Nat.le_of_ble_eq_true rfl⟩) hK hP hD hS hA hm [0] rfl rfl 0 6 rfl rfl rfl hl.1 rfl (Nat.le_of_ble_eq_true rfl) dX6_opens_77 ⟨Nat.le_refl _, Nat.le_refl _⟩) hP hD hS hA [0] rfl rfl (fun H locs hP hD hS => ?_)
        have hP : va_P D vwCl [(o, .inr (6, [.ref on, .ref op, .int states, .ref orr, .ref ot, .int bytes, .ref oh, .ref og, .ref od, .int reading, .int at_, .int wrongAt, .int number, .long hh])), (on, .inl (k 0, 401, .inl r17.2)), (og, .inl (k 0, 164, .inl fitting))] H := hP
        have hD : va_D A [(o, .inr (6, [.ref on, .ref op, .int states, .ref orr, .ref ot, .int bytes, .ref oh, .ref og, .ref od, .int reading, .int at_, .int wrongAt, .int number, .long hh])), (on, .inl (k 0, 401, .inl r17.2)), (og, .inl (k 0, 164, .inl fitting))] := hD
        refine lv_istore (lv' := [(7, .int r18), (6, .int 1), (5, .int r1), (0, .ref o), (1, .int a1), (2, .int a2), (3, .int a3), (4, .int a4)]) hx hb dX6_opens_80 hl (by decide) rfl (fun ls hl => ?_)
        refine lv_aload_n hx hb dX6_opens_82 rfl (lv_at hl 3 rfl) ?_
        refine va_get (D := D) (ci := 6) (v := .ref on) (C := RX6) (T := TX6) (N := 14) hx hb ht hiX6 hown hK hP 0 rfl rfl 0 (by decide) (ht _ wb765) (fun _ h9 => h9) rfl dX6_opens_83 ?_
        refine lv_iload hx hb dX6_opens_86 (lv_at hl 0 rfl) ?_
        refine lv_iload_n hx hb dX6_opens_88 rfl (lv_at hl 4 rfl) ?_
        obtain ⟨hi32, h⟩ := zg h
        refine va_iast hx hb hK hP hD hS 1 0 rfl rfl hi32 dX6_opens_89 (fun H locs hP hD hS => ?_)
        have hP : va_P D vwCl [(o, .inr (6, [.ref on, .ref op, .int states, .ref orr, .ref ot, .int bytes, .ref oh, .ref og, .ref od, .int reading, .int at_, .int wrongAt, .int number, .long hh])), (on, .inl (k 0, 401, .inl (upd r17.2 (Int32.toNatClampNeg r18) a1))), (og, .inl (k 0, 164, .inl fitting))] H := hP
        have hD : va_D A [(o, .inr (6, [.ref on, .ref op, .int states, .ref orr, .ref ot, .int bytes, .ref oh, .ref og, .ref od, .int reading, .int at_, .int wrongAt, .int number, .long hh])), (on, .inl (k 0, 401, .inl (upd r17.2 (Int32.toNatClampNeg r18) a1))), (og, .inl (k 0, 164, .inl fitting))] := hD
        refine lv_aload_n hx hb dX6_opens_90 rfl (lv_at hl 3 rfl) ?_
        refine va_get (D := D) (ci := 6) (v := .ref on) (C := RX6) (T := TX6) (N := 14) hx hb ht hiX6 hown hK hP 0 rfl rfl 0 (by decide) (ht _ wb765) (fun _ h9 => h9) rfl dX6_opens_91 ?_
        refine lv_iload hx hb dX6_opens_94 (lv_at hl 0 rfl) ?_
        refine lv_iconst (v := 1) hx hb dX6_opens_96 (by decide) ?_
        refine lv_iadd hx hb dX6_opens_97 ?_
        refine lv_iload_n hx hb dX6_opens_98 rfl (lv_at hl 5 rfl) ?_
        obtain ⟨hi33, h⟩ := zg h
        refine va_iast hx hb hK hP hD hS 1 0 rfl rfl hi33 dX6_opens_99 (fun H locs hP hD hS => ?_)
        have hP : va_P D vwCl [(o, .inr (6, [.ref on, .ref op, .int states, .ref orr, .ref ot, .int bytes, .ref oh, .ref og, .ref od, .int reading, .int at_, .int wrongAt, .int number, .long hh])), (on, .inl (k 0, 401, .inl (upd (upd r17.2 (Int32.toNatClampNeg r18) a1) (Int32.toNatClampNeg (r18 + 1)) a2))), (og, .inl (k 0, 164, .inl fitting))] H := hP
        have hD : va_D A [(o, .inr (6, [.ref on, .ref op, .int states, .ref orr, .ref ot, .int bytes, .ref oh, .ref og, .ref od, .int reading, .int at_, .int wrongAt, .int number, .long hh])), (on, .inl (k 0, 401, .inl (upd (upd r17.2 (Int32.toNatClampNeg r18) a1) (Int32.toNatClampNeg (r18 + 1)) a2))), (og, .inl (k 0, 164, .inl fitting))] := hD
        refine lv_aload_n hx hb dX6_opens_100 rfl (lv_at hl 3 rfl) ?_
        refine va_get (D := D) (ci := 6) (v := .ref on) (C := RX6) (T := TX6) (N := 14) hx hb ht hiX6 hown hK hP 0 rfl rfl 0 (by decide) (ht _ wb765) (fun _ h9 => h9) rfl dX6_opens_101 ?_
        refine lv_iload hx hb dX6_opens_104 (lv_at hl 0 rfl) ?_
        refine lv_iconst (v := 2) hx hb dX6_opens_106 (by decide) ?_
        refine lv_iadd hx hb dX6_opens_107 ?_
        refine lv_iload_n hx hb dX6_opens_108 rfl (lv_at hl 6 rfl) ?_
        obtain ⟨hi34, h⟩ := zg h
        refine va_iast hx hb hK hP hD hS 1 0 rfl rfl hi34 dX6_opens_109 (fun H locs hP hD hS => ?_)
        have hP : va_P D vwCl [(o, .inr (6, [.ref on, .ref op, .int states, .ref orr, .ref ot, .int bytes, .ref oh, .ref og, .ref od, .int reading, .int at_, .int wrongAt, .int number, .long hh])), (on, .inl (k 0, 401, .inl (upd (upd (upd r17.2 (Int32.toNatClampNeg r18) a1) (Int32.toNatClampNeg (r18 + 1)) a2) (Int32.toNatClampNeg (r18 + 2)) a3))), (og, .inl (k 0, 164, .inl fitting))] H := hP
        have hD : va_D A [(o, .inr (6, [.ref on, .ref op, .int states, .ref orr, .ref ot, .int bytes, .ref oh, .ref og, .ref od, .int reading, .int at_, .int wrongAt, .int number, .long hh])), (on, .inl (k 0, 401, .inl (upd (upd (upd r17.2 (Int32.toNatClampNeg r18) a1) (Int32.toNatClampNeg (r18 + 1)) a2) (Int32.toNatClampNeg (r18 + 2)) a3))), (og, .inl (k 0, 164, .inl fitting))] := hD
        refine lv_aload_n hx hb dX6_opens_110 rfl (lv_at hl 3 rfl) ?_
        refine va_get (D := D) (ci := 6) (v := .ref on) (C := RX6) (T := TX6) (N := 14) hx hb ht hiX6 hown hK hP 0 rfl rfl 0 (by decide) (ht _ wb765) (fun _ h9 => h9) rfl dX6_opens_111 ?_
        refine lv_iload hx hb dX6_opens_114 (lv_at hl 0 rfl) ?_
        refine lv_iconst (v := 3) hx hb dX6_opens_116 (by decide) ?_
        refine lv_iadd hx hb dX6_opens_117 ?_
        refine lv_iload hx hb dX6_opens_118 (lv_at hl 7 rfl) ?_
        obtain ⟨hi35, h⟩ := zg h
        refine va_iast hx hb hK hP hD hS 1 0 rfl rfl hi35 dX6_opens_120 (fun H locs hP hD hS => ?_)
        have hP : va_P D vwCl [(o, .inr (6, [.ref on, .ref op, .int states, .ref orr, .ref ot, .int bytes, .ref oh, .ref og, .ref od, .int reading, .int at_, .int wrongAt, .int number, .long hh])), (on, .inl (k 0, 401, .inl (upd (upd (upd (upd r17.2 (Int32.toNatClampNeg r18) a1) (Int32.toNatClampNeg (r18 + 1)) a2) (Int32.toNatClampNeg (r18 + 2)) a3) (Int32.toNatClampNeg (r18 + 3)) a4))), (og, .inl (k 0, 164, .inl fitting))] H := hP
        have hD : va_D A [(o, .inr (6, [.ref on, .ref op, .int states, .ref orr, .ref ot, .int bytes, .ref oh, .ref og, .ref od, .int reading, .int at_, .int wrongAt, .int number, .long hh])), (on, .inl (k 0, 401, .inl (upd (upd (upd (upd r17.2 (Int32.toNatClampNeg r18) a1) (Int32.toNatClampNeg (r18 + 1)) a2) (Int32.toNatClampNeg (r18 + 2)) a3) (Int32.toNatClampNeg (r18 + 3)) a4))), (og, .inl (k 0, 164, .inl fitting))] := hD
        refine lv_aload_n hx hb dX6_opens_121 rfl (lv_at hl 3 rfl) ?_
        refine va_get (D := D) (ci := 6) (v := .ref on) (C := RX6) (T := TX6) (N := 14) hx hb ht hiX6 hown hK hP 0 rfl rfl 0 (by decide) (ht _ wb765) (fun _ h9 => h9) rfl dX6_opens_122 ?_
        refine lv_iload hx hb dX6_opens_125 (lv_at hl 0 rfl) ?_
        refine lv_bipush (v := 6) hx hb dX6_opens_127 (by decide) ?_
        refine lv_iadd hx hb dX6_opens_129 ?_
        refine lv_iconst (v := (-1)) hx hb dX6_opens_130 (by decide) ?_
        obtain ⟨hi36, h⟩ := zg h
        refine va_iast hx hb hK hP hD hS 1 0 rfl rfl hi36 dX6_opens_131 (fun H locs hP hD hS => ?_)
        have hP : va_P D vwCl [(o, .inr (6, [.ref on, .ref op, .int states, .ref orr, .ref ot, .int bytes, .ref oh, .ref og, .ref od, .int reading, .int at_, .int wrongAt, .int number, .long hh])), (on, .inl (k 0, 401, .inl (upd (upd (upd (upd (upd r17.2 (Int32.toNatClampNeg r18) a1) (Int32.toNatClampNeg (r18 + 1)) a2) (Int32.toNatClampNeg (r18 + 2)) a3) (Int32.toNatClampNeg (r18 + 3)) a4) (Int32.toNatClampNeg (r18 + 6)) (-1)))), (og, .inl (k 0, 164, .inl fitting))] H := hP
        have hD : va_D A [(o, .inr (6, [.ref on, .ref op, .int states, .ref orr, .ref ot, .int bytes, .ref oh, .ref og, .ref od, .int reading, .int at_, .int wrongAt, .int number, .long hh])), (on, .inl (k 0, 401, .inl (upd (upd (upd (upd (upd r17.2 (Int32.toNatClampNeg r18) a1) (Int32.toNatClampNeg (r18 + 1)) a2) (Int32.toNatClampNeg (r18 + 2)) a3) (Int32.toNatClampNeg (r18 + 3)) a4) (Int32.toNatClampNeg (r18 + 6)) (-1)))), (og, .inl (k 0, 164, .inl fitting))] := hD
        refine lv_aload_n hx hb dX6_opens_132 rfl (lv_at hl 3 rfl) ?_
        refine lv_iload hx hb dX6_opens_133 (lv_at hl 0 rfl) ?_
        refine lv_iload hx hb dX6_opens_135 (lv_at hl 7 rfl) ?_
        refine lv_if_ne (tgt := 144) hx hb dX6_opens_137 (by decide) (fun c12 => ?_) (fun c12 => ?_)
        · have h := zf h c12
          refine lv_bipush (v := 6) hx hb dX6_opens_144 (by decide) ?_
          obtain ⟨r19, h19, h⟩ := zb h
          refine zv (zrV (C := RX6) (T := TX6) (N := 14) (As := [.int r18, .int 6]) (rest := []) ⟨hx, hb, hml, hown, ht⟩ (c_X6_becomes l D k o on op orr ot oh og od states bytes reading at_ wrongAt number hh (upd (upd (upd (upd (upd r17.2 (Int32.toNatClampNeg r18) a1) (Int32.toNatClampNeg (r18 + 1)) a2) (Int32.toNatClampNeg (r18 + 2)) a3) (Int32.toNatClampNeg (r18 + 3)) a4) (Int32.toNatClampNeg (r18 + 6)) (-1)) r18 6 h19 _) (cwV 2 ht (gdV wb1006 wb1008 wb52 wb80 wb1009) rfl rfl rfl (by decide +kernel) ⟨Nat.le_of_ble_eq_true rfl, Nat.le_of_ble_eq_true rfl⟩) hK hP hD hS hA hm [0, 1] rfl rfl 0 6 rfl rfl rfl hl.1 rfl (Nat.le_of_ble_eq_true rfl) dX6_opens_146 ⟨Nat.le_refl _, Nat.le_refl _⟩) hP hD hS hA [0, 1] rfl rfl (fun H locs hP hD hS => ?_)
          have hP : va_P D vwCl [(o, .inr (6, [.ref on, .ref op, .int states, .ref orr, .ref ot, .int bytes, .ref oh, .ref og, .ref od, .int reading, .int at_, .int wrongAt, .int number, .long hh])), (on, .inl (k 0, 401, .inl r19)), (og, .inl (k 0, 164, .inl fitting))] H := hP
          have hD : va_D A [(o, .inr (6, [.ref on, .ref op, .int states, .ref orr, .ref ot, .int bytes, .ref oh, .ref og, .ref od, .int reading, .int at_, .int wrongAt, .int number, .long hh])), (on, .inl (k 0, 401, .inl r19)), (og, .inl (k 0, 164, .inl fitting))] := hD
          refine lv_aload_n hx hb dX6_opens_149 rfl (lv_at hl 3 rfl) ?_
          refine va_get (D := D) (ci := 6) (v := .ref on) (C := RX6) (T := TX6) (N := 14) hx hb ht hiX6 hown hK hP 0 rfl rfl 0 (by decide) (ht _ wb765) (fun _ h9 => h9) rfl dX6_opens_150 ?_
          refine lv_sipush (v := 298) hx hb dX6_opens_153 (by decide) ?_
          refine lv_dup2_11 hx hb dX6_opens_156 rfl rfl ?_
          obtain ⟨hi37, h⟩ := zg h
          refine va_iald hx hb hK hP 1 0 rfl rfl hi37 dX6_opens_157 ?_
          refine lv_iconst (v := 1) hx hb dX6_opens_158 (by decide) ?_
          refine lv_iadd hx hb dX6_opens_159 ?_
          obtain ⟨hi38, h⟩ := zg h
          refine va_iast hx hb hK hP hD hS 1 0 rfl rfl hi38 dX6_opens_160 (fun H locs hP hD hS => ?_)
          have hP : va_P D vwCl [(o, .inr (6, [.ref on, .ref op, .int states, .ref orr, .ref ot, .int bytes, .ref oh, .ref og, .ref od, .int reading, .int at_, .int wrongAt, .int number, .long hh])), (on, .inl (k 0, 401, .inl (upd r19 (Int32.toNatClampNeg 298) ((r19 (Int32.toNatClampNeg 298)) + 1)))), (og, .inl (k 0, 164, .inl fitting))] H := hP
          have hD : va_D A [(o, .inr (6, [.ref on, .ref op, .int states, .ref orr, .ref ot, .int bytes, .ref oh, .ref og, .ref od, .int reading, .int at_, .int wrongAt, .int number, .long hh])), (on, .inl (k 0, 401, .inl (upd r19 (Int32.toNatClampNeg 298) ((r19 (Int32.toNatClampNeg 298)) + 1)))), (og, .inl (k 0, 164, .inl fitting))] := hD
          refine lv_iconst (v := 1) hx hb dX6_opens_161 (by decide) ?_
          obtain rfl := Option.some.inj h
          exact W.iret (v := 1) hx hb hr (fun t ht9 hW => ⟨⟨_, (), rfl, rfl, zend ht9 hP⟩, hS.F ht9⟩) hS.2.2 dX6_opens_162
        · have h := zt h c12
          refine lv_iconst (v := 1) hx hb dX6_opens_140 (by decide) ?_
          refine lv_goto (tgt := 146) hx hb dX6_opens_141 (by decide) ?_
          obtain ⟨r20, h20, h⟩ := zb h
          refine zv (zrV (C := RX6) (T := TX6) (N := 14) (As := [.int r18, .int 1]) (rest := []) ⟨hx, hb, hml, hown, ht⟩ (c_X6_becomes l D k o on op orr ot oh og od states bytes reading at_ wrongAt number hh (upd (upd (upd (upd (upd r17.2 (Int32.toNatClampNeg r18) a1) (Int32.toNatClampNeg (r18 + 1)) a2) (Int32.toNatClampNeg (r18 + 2)) a3) (Int32.toNatClampNeg (r18 + 3)) a4) (Int32.toNatClampNeg (r18 + 6)) (-1)) r18 1 h20 _) (cwV 2 ht (gdV wb1006 wb1008 wb52 wb80 wb1009) rfl rfl rfl (by decide +kernel) ⟨Nat.le_of_ble_eq_true rfl, Nat.le_of_ble_eq_true rfl⟩) hK hP hD hS hA hm [0, 1] rfl rfl 0 6 rfl rfl rfl hl.1 rfl (Nat.le_of_ble_eq_true rfl) dX6_opens_146 ⟨Nat.le_refl _, Nat.le_refl _⟩) hP hD hS hA [0, 1] rfl rfl (fun H locs hP hD hS => ?_)
          have hP : va_P D vwCl [(o, .inr (6, [.ref on, .ref op, .int states, .ref orr, .ref ot, .int bytes, .ref oh, .ref og, .ref od, .int reading, .int at_, .int wrongAt, .int number, .long hh])), (on, .inl (k 0, 401, .inl r20)), (og, .inl (k 0, 164, .inl fitting))] H := hP
          have hD : va_D A [(o, .inr (6, [.ref on, .ref op, .int states, .ref orr, .ref ot, .int bytes, .ref oh, .ref og, .ref od, .int reading, .int at_, .int wrongAt, .int number, .long hh])), (on, .inl (k 0, 401, .inl r20)), (og, .inl (k 0, 164, .inl fitting))] := hD
          refine lv_aload_n hx hb dX6_opens_149 rfl (lv_at hl 3 rfl) ?_
          refine va_get (D := D) (ci := 6) (v := .ref on) (C := RX6) (T := TX6) (N := 14) hx hb ht hiX6 hown hK hP 0 rfl rfl 0 (by decide) (ht _ wb765) (fun _ h9 => h9) rfl dX6_opens_150 ?_
          refine lv_sipush (v := 298) hx hb dX6_opens_153 (by decide) ?_
          refine lv_dup2_11 hx hb dX6_opens_156 rfl rfl ?_
          obtain ⟨hi39, h⟩ := zg h
          refine va_iald hx hb hK hP 1 0 rfl rfl hi39 dX6_opens_157 ?_
          refine lv_iconst (v := 1) hx hb dX6_opens_158 (by decide) ?_
          refine lv_iadd hx hb dX6_opens_159 ?_
          obtain ⟨hi40, h⟩ := zg h
          refine va_iast hx hb hK hP hD hS 1 0 rfl rfl hi40 dX6_opens_160 (fun H locs hP hD hS => ?_)
          have hP : va_P D vwCl [(o, .inr (6, [.ref on, .ref op, .int states, .ref orr, .ref ot, .int bytes, .ref oh, .ref og, .ref od, .int reading, .int at_, .int wrongAt, .int number, .long hh])), (on, .inl (k 0, 401, .inl (upd r20 (Int32.toNatClampNeg 298) ((r20 (Int32.toNatClampNeg 298)) + 1)))), (og, .inl (k 0, 164, .inl fitting))] H := hP
          have hD : va_D A [(o, .inr (6, [.ref on, .ref op, .int states, .ref orr, .ref ot, .int bytes, .ref oh, .ref og, .ref od, .int reading, .int at_, .int wrongAt, .int number, .long hh])), (on, .inl (k 0, 401, .inl (upd r20 (Int32.toNatClampNeg 298) ((r20 (Int32.toNatClampNeg 298)) + 1)))), (og, .inl (k 0, 164, .inl fitting))] := hD
          refine lv_iconst (v := 1) hx hb dX6_opens_161 (by decide) ?_
          obtain rfl := Option.some.inj h
          exact W.iret (v := 1) hx hb hr (fun t ht9 hW => ⟨⟨_, (), rfl, rfl, zend ht9 hP⟩, hS.F ht9⟩) hS.2.2 dX6_opens_162
      · have h := zt h c13
        refine lv_iconst (v := 4) hx hb dX6_opens_66 (by decide) ?_
        obtain rfl := Option.some.inj h
        exact W.iret (v := 4) hx hb hr (fun t ht9 hW => ⟨⟨_, (), rfl, rfl, zend ht9 hP⟩, hS.F ht9⟩) hS.2.2 dX6_opens_67
def f_X6_goes (fu : Nat) (now : Nat → Int32) (fitting : Nat → Int32) (a1 : Int32) (a2 : Int32) (a3 : Int32) (a4 : Int32) (a5 : Int32) : Option (Int32 × (Nat → Int32) × (Nat → Int32)) :=
  (f_X6_flowOf fu now a1 a2 a3 a4).bind fun r1 => if r1 < 0 then (if a4 = 0 then (if a5 = 0 then ((f_X6_opens fu now fitting a1 a2 a3 a4).bind fun r3 => some (r3.1, r3.2.1, r3.2.2)) else (some (3, now, fitting))) else (if a5 = 2 then ((f_X6_opens fu now fitting a1 a2 a3 a4).bind fun r2 => some (r2.1, r2.2.1, r2.2.2)) else (some (3, now, fitting)))) else ((f_X6_flowAt  r1).bind fun r4 => if zok r4 401 then (if (now (Int32.toNatClampNeg r4)) = a1 then ((f_X6_goesOn fu now r1 0 a5).bind fun r6 => some (r6.1, r6.2, fitting)) else ((f_X6_goesOn fu now r1 1 a5).bind fun r5 => some (r5.1, r5.2, fitting))) else none)
abbrev wk_X6_goes : List Cond := Cond.code yX6_goes cX6_goes 7 (some .int) :: WB
abbrev rm_X6_goes : Room := { frames := 6, cells := 0, slots := 0, locals := 143 }
set_option maxHeartbeats 4000000 in
set_option maxRecDepth 100000 in
theorem c_X6_goes (l : Launch) (D : va_G) (k : Nat → Nat) (o on op orr ot oh og od : Nat) (states : Int32) (bytes : Int32) (reading : Int32) (at_ : Int32) (wrongAt : Int32) (number : Int32) (hh : Int64) (now : Nat → Int32) (fitting : Nat → Int32) (a1 : Int32) (a2 : Int32) (a3 : Int32) (a4 : Int32) (a5 : Int32) (fu : Nat) {res : Int32 × (Nat → Int32) × (Nat → Int32)} (h : f_X6_goes fu now fitting a1 a2 a3 a4 a5 = some res) : Ci l yX6_goes wk_X6_goes rm_X6_goes D k [.ref o, .int a1, .int a2, .int a3, .int a4, .int a5] [(o, .inr (6, [.ref on, .ref op, .int states, .ref orr, .ref ot, .int bytes, .ref oh, .ref og, .ref od, .int reading, .int at_, .int wrongAt, .int number, .long hh])), (on, .inl (k 0, 401, .inl now)), (og, .inl (k 0, 164, .inl fitting))] [(o, .inr (6, [.ref on, .ref op, .int states, .ref orr, .ref ot, .int bytes, .ref oh, .ref og, .ref od, .int reading, .int at_, .int wrongAt, .int number, .long hh])), (on, .inl (k 0, 401, .inl res.2.1)), (og, .inl (k 0, 164, .inl res.2.2))] res.1 := by
  unfold Ci
  intro sz
  refine Met.ofW (cc := cX6_goes) (maxL := 7) (ret := (some .int)) (by decide) rfl ?_
  intro p e s m args below meth c s₁ B hml hv
  obtain ⟨rfl, hsz, hP, hK, hD0, hm⟩ := hv
  have hx := B.exec
  have hb := B.bytes
  have hr := B.returns
  have ht : ∀ w ∈ WB, w.before _ s = true := fun w hw => atoms_spec (ws := wk_X6_goes) B.pre w (List.mem_cons_of_mem _ hw)
  have hown : s.vm.findClass RX6 = some m.cls := findClass_of_methodNamed B.named
  have hlocks := B.notSynchronized
  subst hsz
  have hD := hD0.self (sz := s.heap.size)
  generalize hAe : va_A [(o, .inr (6, [.ref on, .ref op, .int states, .ref orr, .ref ot, .int bytes, .ref oh, .ref og, .ref od, .int reading, .int at_, .int wrongAt, .int number, .long hh])), (on, .inl (k 0, 401, .inl now)), (og, .inl (k 0, 164, .inl fitting))] s.heap.size = A at hD hm ⊢
  have hA : ∀ q : Nat, s.heap.size ≤ q → A q := fun q h => by rw [← hAe]; exact Or.inr h
  have hS : va_S A s.heap s.heap [] := va_S.rf
  have hl := lv_entry ([.ref o, .int a1, .int a2, .int a3, .int a4, .int a5]) (n := 7) (Nat.le_of_ble_eq_true rfl)
  rw [lg_entry_eq]
  generalize (lg_sl ([.ref o, .int a1, .int a2, .int a3, .int a4, .int a5]) ++ List.replicate (7 - (lg_sl ([.ref o, .int a1, .int a2, .int a3, .int a4, .int a5])).length) Slot.unset).toArray = ls at hl ⊢
  have hl : lv_has ls 7 [(0, .ref o), (1, .int a1), (2, .int a2), (3, .int a3), (4, .int a4), (5, .int a5)] := hl
  obtain ⟨H, hH⟩ : ∃ H, H = s.heap := ⟨_, rfl⟩
  rw [← hH] at hP
  have hS : va_S A s.heap H [] := by rw [hH]; exact hS
  suffices hgo : W p l e _ s m _ below meth c H [] 0 0 _ _ by rw [hH] at hgo; exact hgo
  unfold f_X6_goes at h
  refine lv_aload_n hx hb dX6_goes_0 rfl (lv_at hl 0 rfl) ?_
  refine lv_iload_n hx hb dX6_goes_1 rfl (lv_at hl 1 rfl) ?_
  refine lv_iload_n hx hb dX6_goes_2 rfl (lv_at hl 2 rfl) ?_
  refine lv_iload_n hx hb dX6_goes_3 rfl (lv_at hl 3 rfl) ?_
  refine lv_iload hx hb dX6_goes_4 (lv_at hl 4 rfl) ?_
  obtain ⟨r1, h1, h⟩ := zb h
  refine zi (zrV (C := RX6) (T := TX6) (N := 14) (As := [.int a1, .int a2, .int a3, .int a4]) (rest := []) ⟨hx, hb, hml, hown, ht⟩ (c_X6_flowOf l D k o on op orr ot oh og od states bytes reading at_ wrongAt number hh now a1 a2 a3 a4 fu h1 _) (cwV 4 ht (gdV wb983 wb985 wb47 wb80 wb986) rfl rfl rfl (by decide +kernel) ⟨Nat.le_of_ble_eq_true rfl, Nat.le_of_ble_eq_true rfl⟩) hK hP hD hS hA hm [0, 1] rfl rfl 0 6 rfl rfl rfl hl.1 rfl (Nat.le_of_ble_eq_true rfl) dX6_goes_6 ⟨Nat.le_refl _, Nat.le_refl _⟩) hP hD hS hA [0, 1] rfl rfl (fun H locs hP hD hS => ?_)
  have hP : va_P D vwCl [(o, .inr (6, [.ref on, .ref op, .int states, .ref orr, .ref ot, .int bytes, .ref oh, .ref og, .ref od, .int reading, .int at_, .int wrongAt, .int number, .long hh])), (on, .inl (k 0, 401, .inl now)), (og, .inl (k 0, 164, .inl fitting))] H := hP
  have hD : va_D A [(o, .inr (6, [.ref on, .ref op, .int states, .ref orr, .ref ot, .int bytes, .ref oh, .ref og, .ref od, .int reading, .int at_, .int wrongAt, .int number, .long hh])), (on, .inl (k 0, 401, .inl now)), (og, .inl (k 0, 164, .inl fitting))] := hD
  refine lv_istore (lv' := [(6, .int r1), (0, .ref o), (1, .int a1), (2, .int a2), (3, .int a3), (4, .int a4), (5, .int a5)]) hx hb dX6_goes_9 hl (by decide) rfl (fun ls hl => ?_)
  refine lv_iload hx hb dX6_goes_11 (lv_at hl 0 rfl) ?_
  refine lv_if_lt (tgt := 45) hx hb dX6_goes_13 (by decide) (fun c5 => ?_) (fun c5 => ?_)
  · have h := zt h c5
    refine lv_iload hx hb dX6_goes_45 (lv_at hl 6 rfl) ?_
    refine lv_iload hx hb dX6_goes_47 (lv_at hl 5 rfl) ?_
    refine lv_if_ne (tgt := 56) hx hb dX6_goes_49 (by decide) (fun c3 => ?_) (fun c3 => ?_)
    · have h := zf h c3
      refine lv_iconst (v := 2) hx hb dX6_goes_56 (by decide) ?_
      refine lv_icmp_ne (tgt := 72) hx hb dX6_goes_57 (by decide) (fun c1 => ?_) (fun c1 => ?_)
      · have h := zf h c1
        refine lv_iconst (v := 3) hx hb dX6_goes_72 (by decide) ?_
        obtain rfl := Option.some.inj h
        exact W.iret (v := 3) hx hb hr (fun t ht9 hW => ⟨⟨_, (), rfl, rfl, zend ht9 hP⟩, hS.F ht9⟩) hS.2.2 dX6_goes_73
      · have h := zt h c1
        refine lv_aload_n hx hb dX6_goes_60 rfl (lv_at hl 1 rfl) ?_
        refine lv_iload_n hx hb dX6_goes_61 rfl (lv_at hl 2 rfl) ?_
        refine lv_iload_n hx hb dX6_goes_62 rfl (lv_at hl 3 rfl) ?_
        refine lv_iload_n hx hb dX6_goes_63 rfl (lv_at hl 4 rfl) ?_
        refine lv_iload hx hb dX6_goes_64 (lv_at hl 5 rfl) ?_
        obtain ⟨r2, h2, h⟩ := zb h
        refine zi (zrV (C := RX6) (T := TX6) (N := 14) (As := [.int a1, .int a2, .int a3, .int a4]) (rest := []) ⟨hx, hb, hml, hown, ht⟩ (c_X6_opens l D k o on op orr ot oh og od states bytes reading at_ wrongAt number hh now fitting a1 a2 a3 a4 fu h2 _) (cwV 4 ht (gdV wb1010 wb1012 wb53 wb80 wb1013) rfl rfl rfl (by decide +kernel) ⟨Nat.le_of_ble_eq_true rfl, Nat.le_of_ble_eq_true rfl⟩) hK hP hD hS hA hm [0, 1, 2] rfl rfl 0 6 rfl rfl rfl hl.1 rfl (Nat.le_of_ble_eq_true rfl) dX6_goes_66 ⟨Nat.le_refl _, Nat.le_refl _⟩) hP hD hS hA [0, 1, 2] rfl rfl (fun H locs hP hD hS => ?_)
        have hP : va_P D vwCl [(o, .inr (6, [.ref on, .ref op, .int states, .ref orr, .ref ot, .int bytes, .ref oh, .ref og, .ref od, .int reading, .int at_, .int wrongAt, .int number, .long hh])), (on, .inl (k 0, 401, .inl r2.2.1)), (og, .inl (k 0, 164, .inl r2.2.2))] H := hP
        have hD : va_D A [(o, .inr (6, [.ref on, .ref op, .int states, .ref orr, .ref ot, .int bytes, .ref oh, .ref og, .ref od, .int reading, .int at_, .int wrongAt, .int number, .long hh])), (on, .inl (k 0, 401, .inl r2.2.1)), (og, .inl (k 0, 164, .inl r2.2.2))] := hD
        refine lv_goto (tgt := 73) hx hb dX6_goes_69 (by decide) ?_
        obtain rfl := Option.some.inj h
        exact W.iret (v := r2.1) hx hb hr (fun t ht9 hW => ⟨⟨_, (), rfl, rfl, zend ht9 hP⟩, hS.F ht9⟩) hS.2.2 dX6_goes_73
    · have h := zt h c3
      refine lv_iconst (v := 0) hx hb dX6_goes_52 (by decide) ?_
      refine lv_goto (tgt := 57) hx hb dX6_goes_53 (by decide) ?_
      refine lv_icmp_ne (tgt := 72) hx hb dX6_goes_57 (by decide) (fun c2 => ?_) (fun c2 => ?_)
      · have h := zf h c2
        refine lv_iconst (v := 3) hx hb dX6_goes_72 (by decide) ?_
        obtain rfl := Option.some.inj h
        exact W.iret (v := 3) hx hb hr (fun t ht9 hW => ⟨⟨_, (), rfl, rfl, zend ht9 hP⟩, hS.F ht9⟩) hS.2.2 dX6_goes_73
      · have h := zt h c2
        refine lv_aload_n hx hb dX6_goes_60 rfl (lv_at hl 1 rfl) ?_
        refine lv_iload_n hx hb dX6_goes_61 rfl (lv_at hl 2 rfl) ?_
        refine lv_iload_n hx hb dX6_goes_62 rfl (lv_at hl 3 rfl) ?_
        refine lv_iload_n hx hb dX6_goes_63 rfl (lv_at hl 4 rfl) ?_
        refine lv_iload hx hb dX6_goes_64 (lv_at hl 5 rfl) ?_
        obtain ⟨r3, h3, h⟩ := zb h
        refine zi (zrV (C := RX6) (T := TX6) (N := 14) (As := [.int a1, .int a2, .int a3, .int a4]) (rest := []) ⟨hx, hb, hml, hown, ht⟩ (c_X6_opens l D k o on op orr ot oh og od states bytes reading at_ wrongAt number hh now fitting a1 a2 a3 a4 fu h3 _) (cwV 4 ht (gdV wb1010 wb1012 wb53 wb80 wb1013) rfl rfl rfl (by decide +kernel) ⟨Nat.le_of_ble_eq_true rfl, Nat.le_of_ble_eq_true rfl⟩) hK hP hD hS hA hm [0, 1, 2] rfl rfl 0 6 rfl rfl rfl hl.1 rfl (Nat.le_of_ble_eq_true rfl) dX6_goes_66 ⟨Nat.le_refl _, Nat.le_refl _⟩) hP hD hS hA [0, 1, 2] rfl rfl (fun H locs hP hD hS => ?_)
        have hP : va_P D vwCl [(o, .inr (6, [.ref on, .ref op, .int states, .ref orr, .ref ot, .int bytes, .ref oh, .ref og, .ref od, .int reading, .int at_, .int wrongAt, .int number, .long hh])), (on, .inl (k 0, 401, .inl r3.2.1)), (og, .inl (k 0, 164, .inl r3.2.2))] H := hP
        have hD : va_D A [(o, .inr (6, [.ref on, .ref op, .int states, .ref orr, .ref ot, .int bytes, .ref oh, .ref og, .ref od, .int reading, .int at_, .int wrongAt, .int number, .long hh])), (on, .inl (k 0, 401, .inl r3.2.1)), (og, .inl (k 0, 164, .inl r3.2.2))] := hD
        refine lv_goto (tgt := 73) hx hb dX6_goes_69 (by decide) ?_
        obtain rfl := Option.some.inj h
        exact W.iret (v := r3.1) hx hb hr (fun t ht9 hW => ⟨⟨_, (), rfl, rfl, zend ht9 hP⟩, hS.F ht9⟩) hS.2.2 dX6_goes_73
  · have h := zf h c5
    refine lv_aload_n hx hb dX6_goes_16 rfl (lv_at hl 1 rfl) ?_
    refine lv_iload hx hb dX6_goes_17 (lv_at hl 0 rfl) ?_
    refine lv_aload_n hx hb dX6_goes_19 rfl (lv_at hl 1 rfl) ?_
    refine va_get (D := D) (ci := 6) (v := .ref on) (C := RX6) (T := TX6) (N := 14) hx hb ht hiX6 hown hK hP 0 rfl rfl 0 (by decide) (ht _ wb765) (fun _ h9 => h9) rfl dX6_goes_20 ?_
    refine lv_aload_n hx hb dX6_goes_23 rfl (lv_at hl 1 rfl) ?_
    refine lv_iload hx hb dX6_goes_24 (lv_at hl 0 rfl) ?_
    obtain ⟨r4, h4, h⟩ := zb h
    refine zi (zrV (C := RX6) (T := TX6) (N := 14) (As := [.int r1]) (rest := [.ref on, .int r1, .ref o]) ⟨hx, hb, hml, hown, ht⟩ (c_X6_flowAt l D k o on op orr ot oh og od states bytes reading at_ wrongAt number hh r1 h4 _) (cwV 1 ht (gdV wb987 wb989 wb48 wb80 wb990) rfl rfl rfl (by decide +kernel) ⟨Nat.le_of_ble_eq_true rfl, Nat.le_of_ble_eq_true rfl⟩) hK hP hD hS hA hm [0] rfl rfl 0 6 rfl rfl rfl hl.1 rfl (Nat.le_of_ble_eq_true rfl) dX6_goes_26 ⟨Nat.le_refl _, Nat.le_refl _⟩) hP hD hS hA [0] rfl rfl (fun H locs hP hD hS => ?_)
    have hP : va_P D vwCl [(o, .inr (6, [.ref on, .ref op, .int states, .ref orr, .ref ot, .int bytes, .ref oh, .ref og, .ref od, .int reading, .int at_, .int wrongAt, .int number, .long hh])), (on, .inl (k 0, 401, .inl now)), (og, .inl (k 0, 164, .inl fitting))] H := hP
    have hD : va_D A [(o, .inr (6, [.ref on, .ref op, .int states, .ref orr, .ref ot, .int bytes, .ref oh, .ref og, .ref od, .int reading, .int at_, .int wrongAt, .int number, .long hh])), (on, .inl (k 0, 401, .inl now)), (og, .inl (k 0, 164, .inl fitting))] := hD
    obtain ⟨hi1, h⟩ := zg h
    refine va_iald hx hb hK hP 1 0 rfl rfl hi1 dX6_goes_29 ?_
    refine lv_iload_n hx hb dX6_goes_30 rfl (lv_at hl 2 rfl) ?_
    refine lv_icmp_ne (tgt := 38) hx hb dX6_goes_31 (by decide) (fun c4 => ?_) (fun c4 => ?_)
    · have h := zf h c4
      refine lv_iconst (v := 1) hx hb dX6_goes_38 (by decide) ?_
      refine lv_iload hx hb dX6_goes_39 (lv_at hl 6 rfl) ?_
      obtain ⟨r5, h5, h⟩ := zb h
      refine zi (zrV (C := RX6) (T := TX6) (N := 14) (As := [.int r1, .int 1, .int a5]) (rest := []) ⟨hx, hb, hml, hown, ht⟩ (c_X6_goesOn l D k o on op orr ot oh og od states bytes reading at_ wrongAt number hh now r1 1 a5 fu h5 _) (cwV 3 ht (gdV wb995 wb997 wb50 wb80 wb998) rfl rfl rfl (by decide +kernel) ⟨Nat.le_of_ble_eq_true rfl, Nat.le_of_ble_eq_true rfl⟩) hK hP hD hS hA hm [0, 1] rfl rfl 0 6 rfl rfl rfl hl.1 rfl (Nat.le_of_ble_eq_true rfl) dX6_goes_41 ⟨Nat.le_refl _, Nat.le_refl _⟩) hP hD hS hA [0, 1] rfl rfl (fun H locs hP hD hS => ?_)
      have hP : va_P D vwCl [(o, .inr (6, [.ref on, .ref op, .int states, .ref orr, .ref ot, .int bytes, .ref oh, .ref og, .ref od, .int reading, .int at_, .int wrongAt, .int number, .long hh])), (on, .inl (k 0, 401, .inl r5.2)), (og, .inl (k 0, 164, .inl fitting))] H := hP
      have hD : va_D A [(o, .inr (6, [.ref on, .ref op, .int states, .ref orr, .ref ot, .int bytes, .ref oh, .ref og, .ref od, .int reading, .int at_, .int wrongAt, .int number, .long hh])), (on, .inl (k 0, 401, .inl r5.2)), (og, .inl (k 0, 164, .inl fitting))] := hD
      obtain rfl := Option.some.inj h
      exact W.iret (v := r5.1) hx hb hr (fun t ht9 hW => ⟨⟨_, (), rfl, rfl, zend ht9 hP⟩, hS.F ht9⟩) hS.2.2 dX6_goes_44
    · have h := zt h c4
      refine lv_iconst (v := 0) hx hb dX6_goes_34 (by decide) ?_
      refine lv_goto (tgt := 39) hx hb dX6_goes_35 (by decide) ?_
      refine lv_iload hx hb dX6_goes_39 (lv_at hl 6 rfl) ?_
      obtain ⟨r6, h6, h⟩ := zb h
      refine zi (zrV (C := RX6) (T := TX6) (N := 14) (As := [.int r1, .int 0, .int a5]) (rest := []) ⟨hx, hb, hml, hown, ht⟩ (c_X6_goesOn l D k o on op orr ot oh og od states bytes reading at_ wrongAt number hh now r1 0 a5 fu h6 _) (cwV 3 ht (gdV wb995 wb997 wb50 wb80 wb998) rfl rfl rfl (by decide +kernel) ⟨Nat.le_of_ble_eq_true rfl, Nat.le_of_ble_eq_true rfl⟩) hK hP hD hS hA hm [0, 1] rfl rfl 0 6 rfl rfl rfl hl.1 rfl (Nat.le_of_ble_eq_true rfl) dX6_goes_41 ⟨Nat.le_refl _, Nat.le_refl _⟩) hP hD hS hA [0, 1] rfl rfl (fun H locs hP hD hS => ?_)
      have hP : va_P D vwCl [(o, .inr (6, [.ref on, .ref op, .int states, .ref orr, .ref ot, .int bytes, .ref oh, .ref og, .ref od, .int reading, .int at_, .int wrongAt, .int number, .long hh])), (on, .inl (k 0, 401, .inl r6.2)), (og, .inl (k 0, 164, .inl fitting))] H := hP
      have hD : va_D A [(o, .inr (6, [.ref on, .ref op, .int states, .ref orr, .ref ot, .int bytes, .ref oh, .ref og, .ref od, .int reading, .int at_, .int wrongAt, .int number, .long hh])), (on, .inl (k 0, 401, .inl r6.2)), (og, .inl (k 0, 164, .inl fitting))] := hD
      obtain rfl := Option.some.inj h
      exact W.iret (v := r6.1) hx hb hr (fun t ht9 hW => ⟨⟨_, (), rfl, rfl, zend ht9 hP⟩, hS.F ht9⟩) hS.2.2 dX6_goes_44
def f_X6_letter (fu : Nat) (states : Int32) (now : Nat → Int32) (past : Nat → Int32) (refused : Nat → Int32) (fitting : Nat → Int32) (a1 : Int32) (a2 : Int32) (a3 : Int32) (a4 : Int32) (a5 : Int32) : Option (Int32 × Int32 × (Nat → Int32) × (Nat → Int32) × (Nat → Int32) × (Nat → Int32)) :=
  (f_X6_isCase  a1 a2 a3 a4).bind fun r1 => if (zB r1) = 0 then ((f_X6_bad refused ).bind fun r2 => some (r2.1, states, now, past, r2.2, fitting)) else ((f_X6_in  a5 0 4).bind fun r3 => if (zB r3) = 0 then ((f_X6_bad refused ).bind fun r6 => some (r6.1, states, now, past, r6.2, fitting)) else ((f_X6_remembers fu states now past ).bind fun r4 => (f_X6_goes fu now fitting a1 a2 a3 a4 a5).bind fun r5 => if r5.1 = 1 then (if zok (395 + 0) 401 then (if zok (395 + 0) 401 then (some (r5.1, r4.1, upd r5.2.1 (Int32.toNatClampNeg (395 + 0)) ((r5.2.1 (Int32.toNatClampNeg (395 + 0))) + 1), r4.2, refused, r5.2.2)) else none) else none) else (if r5.1 = 0 then (if zok (395 + 1) 401 then (if zok (395 + 1) 401 then (some (r5.1, r4.1, upd r5.2.1 (Int32.toNatClampNeg (395 + 1)) ((r5.2.1 (Int32.toNatClampNeg (395 + 1))) + 1), r4.2, refused, r5.2.2)) else none) else none) else (if zok (395 + r5.1) 401 then (if zok (395 + r5.1) 401 then (some (r5.1, r4.1, upd r5.2.1 (Int32.toNatClampNeg (395 + r5.1)) ((r5.2.1 (Int32.toNatClampNeg (395 + r5.1))) + 1), r4.2, refused, r5.2.2)) else none) else none))))
abbrev wk_X6_letter : List Cond := Cond.code yX6_letter cX6_letter 7 (some .int) :: WB
abbrev rm_X6_letter : Room := { frames := 7, cells := 0, slots := 0, locals := 169 }
set_option maxHeartbeats 4000000 in
set_option maxRecDepth 100000 in
theorem c_X6_letter (l : Launch) (D : va_G) (k : Nat → Nat) (o on op orr ot oh og od : Nat) (states : Int32) (bytes : Int32) (reading : Int32) (at_ : Int32) (wrongAt : Int32) (number : Int32) (hh : Int64) (now : Nat → Int32) (past : Nat → Int32) (refused : Nat → Int32) (fitting : Nat → Int32) (a1 : Int32) (a2 : Int32) (a3 : Int32) (a4 : Int32) (a5 : Int32) (fu : Nat) {res : Int32 × Int32 × (Nat → Int32) × (Nat → Int32) × (Nat → Int32) × (Nat → Int32)} (h : f_X6_letter fu states now past refused fitting a1 a2 a3 a4 a5 = some res) : Ci l yX6_letter wk_X6_letter rm_X6_letter D k [.ref o, .int a1, .int a2, .int a3, .int a4, .int a5] [(o, .inr (6, [.ref on, .ref op, .int states, .ref orr, .ref ot, .int bytes, .ref oh, .ref og, .ref od, .int reading, .int at_, .int wrongAt, .int number, .long hh])), (on, .inl (k 0, 401, .inl now)), (op, .inl (k 0, 2005, .inl past)), (orr, .inl (k 0, 3, .inl refused)), (og, .inl (k 0, 164, .inl fitting))] [(o, .inr (6, [.ref on, .ref op, .int res.2.1, .ref orr, .ref ot, .int bytes, .ref oh, .ref og, .ref od, .int reading, .int at_, .int wrongAt, .int number, .long hh])), (on, .inl (k 0, 401, .inl res.2.2.1)), (op, .inl (k 0, 2005, .inl res.2.2.2.1)), (orr, .inl (k 0, 3, .inl res.2.2.2.2.1)), (og, .inl (k 0, 164, .inl res.2.2.2.2.2))] res.1 := by
  unfold Ci
  intro sz
  refine Met.ofW (cc := cX6_letter) (maxL := 7) (ret := (some .int)) (by decide) rfl ?_
  intro p e s m args below meth c s₁ B hml hv
  obtain ⟨rfl, hsz, hP, hK, hD0, hm⟩ := hv
  have hx := B.exec
  have hb := B.bytes
  have hr := B.returns
  have ht : ∀ w ∈ WB, w.before _ s = true := fun w hw => atoms_spec (ws := wk_X6_letter) B.pre w (List.mem_cons_of_mem _ hw)
  have hown : s.vm.findClass RX6 = some m.cls := findClass_of_methodNamed B.named
  have hlocks := B.notSynchronized
  subst hsz
  have hD := hD0.self (sz := s.heap.size)
  generalize hAe : va_A [(o, .inr (6, [.ref on, .ref op, .int states, .ref orr, .ref ot, .int bytes, .ref oh, .ref og, .ref od, .int reading, .int at_, .int wrongAt, .int number, .long hh])), (on, .inl (k 0, 401, .inl now)), (op, .inl (k 0, 2005, .inl past)), (orr, .inl (k 0, 3, .inl refused)), (og, .inl (k 0, 164, .inl fitting))] s.heap.size = A at hD hm ⊢
  have hA : ∀ q : Nat, s.heap.size ≤ q → A q := fun q h => by rw [← hAe]; exact Or.inr h
  have hS : va_S A s.heap s.heap [] := va_S.rf
  have hl := lv_entry ([.ref o, .int a1, .int a2, .int a3, .int a4, .int a5]) (n := 7) (Nat.le_of_ble_eq_true rfl)
  rw [lg_entry_eq]
  generalize (lg_sl ([.ref o, .int a1, .int a2, .int a3, .int a4, .int a5]) ++ List.replicate (7 - (lg_sl ([.ref o, .int a1, .int a2, .int a3, .int a4, .int a5])).length) Slot.unset).toArray = ls at hl ⊢
  have hl : lv_has ls 7 [(0, .ref o), (1, .int a1), (2, .int a2), (3, .int a3), (4, .int a4), (5, .int a5)] := hl
  obtain ⟨H, hH⟩ : ∃ H, H = s.heap := ⟨_, rfl⟩
  rw [← hH] at hP
  have hS : va_S A s.heap H [] := by rw [hH]; exact hS
  suffices hgo : W p l e _ s m _ below meth c H [] 0 0 _ _ by rw [hH] at hgo; exact hgo
  unfold f_X6_letter at h
  refine lv_iload_n hx hb dX6_letter_0 rfl (lv_at hl 1 rfl) ?_
  refine lv_iload_n hx hb dX6_letter_1 rfl (lv_at hl 2 rfl) ?_
  refine lv_iload_n hx hb dX6_letter_2 rfl (lv_at hl 3 rfl) ?_
  refine lv_iload hx hb dX6_letter_3 (lv_at hl 4 rfl) ?_
  obtain ⟨r1, h1, h⟩ := zb h
  refine zi (zrS (As := [.int a1, .int a2, .int a3, .int a4]) (rest := []) ⟨hx, hb, hml, hown, ht⟩ (c_X6_isCase l D k   a1 a2 a3 a4 h1 _) (va_cwS 4 ht (gdS wb896 wb897 wb80 wb898) rfl rfl rfl (by decide +kernel) ⟨Nat.le_of_ble_eq_true rfl, Nat.le_of_ble_eq_true rfl⟩) hK hP hD hS hA hm [] rfl rfl rfl hl.1 rfl (Nat.le_of_ble_eq_true rfl) dX6_letter_5 ⟨Nat.le_refl _, Nat.le_refl _⟩) hP hD hS hA [] rfl rfl (fun H locs hP hD hS => ?_)
  have hP : va_P D vwCl [(o, .inr (6, [.ref on, .ref op, .int states, .ref orr, .ref ot, .int bytes, .ref oh, .ref og, .ref od, .int reading, .int at_, .int wrongAt, .int number, .long hh])), (on, .inl (k 0, 401, .inl now)), (op, .inl (k 0, 2005, .inl past)), (orr, .inl (k 0, 3, .inl refused)), (og, .inl (k 0, 164, .inl fitting))] H := hP
  have hD : va_D A [(o, .inr (6, [.ref on, .ref op, .int states, .ref orr, .ref ot, .int bytes, .ref oh, .ref og, .ref od, .int reading, .int at_, .int wrongAt, .int number, .long hh])), (on, .inl (k 0, 401, .inl now)), (op, .inl (k 0, 2005, .inl past)), (orr, .inl (k 0, 3, .inl refused)), (og, .inl (k 0, 164, .inl fitting))] := hD
  refine lv_if_eq (tgt := 21) hx hb dX6_letter_8 (by decide) (fun c4 => ?_) (fun c4 => ?_)
  · have h := zt h c4
    refine lv_aload_n hx hb dX6_letter_21 rfl (lv_at hl 0 rfl) ?_
    obtain ⟨r2, h2, h⟩ := zb h
    refine zi (zrV (C := RX6) (T := TX6) (N := 14) (As := []) (rest := []) ⟨hx, hb, hml, hown, ht⟩ (c_X6_bad l D k o on op orr ot oh og od states bytes reading at_ wrongAt number hh refused  h2 _) (cwV 0 ht (gdV wb826 wb828 wb29 wb80 wb829) rfl rfl rfl (by decide +kernel) ⟨Nat.le_of_ble_eq_true rfl, Nat.le_of_ble_eq_true rfl⟩) hK hP hD hS hA hm [0, 3] rfl rfl 0 6 rfl rfl rfl hl.1 rfl (Nat.le_of_ble_eq_true rfl) dX6_letter_22 ⟨Nat.le_refl _, Nat.le_refl _⟩) hP hD hS hA [0, 3] rfl rfl (fun H locs hP hD hS => ?_)
    have hP : va_P D vwCl [(o, .inr (6, [.ref on, .ref op, .int states, .ref orr, .ref ot, .int bytes, .ref oh, .ref og, .ref od, .int reading, .int at_, .int wrongAt, .int number, .long hh])), (on, .inl (k 0, 401, .inl now)), (op, .inl (k 0, 2005, .inl past)), (orr, .inl (k 0, 3, .inl r2.2)), (og, .inl (k 0, 164, .inl fitting))] H := hP
    have hD : va_D A [(o, .inr (6, [.ref on, .ref op, .int states, .ref orr, .ref ot, .int bytes, .ref oh, .ref og, .ref od, .int reading, .int at_, .int wrongAt, .int number, .long hh])), (on, .inl (k 0, 401, .inl now)), (op, .inl (k 0, 2005, .inl past)), (orr, .inl (k 0, 3, .inl r2.2)), (og, .inl (k 0, 164, .inl fitting))] := hD
    obtain rfl := Option.some.inj h
    exact W.iret (v := r2.1) hx hb hr (fun t ht9 hW => ⟨⟨_, (), rfl, rfl, zend ht9 hP⟩, hS.F ht9⟩) hS.2.2 dX6_letter_25
  · have h := zf h c4
    refine lv_iload hx hb dX6_letter_11 (lv_at hl 5 rfl) ?_
    refine lv_iconst (v := 0) hx hb dX6_letter_13 (by decide) ?_
    refine lv_iconst (v := 4) hx hb dX6_letter_14 (by decide) ?_
    obtain ⟨r3, h3, h⟩ := zb h
    refine zi (zrS (As := [.int a5, .int 0, .int 4]) (rest := []) ⟨hx, hb, hml, hown, ht⟩ (c_X6_in l D k   a5 0 4 h3 _) (va_cwS 3 ht (gdS wb820 wb821 wb80 wb822) rfl rfl rfl (by decide +kernel) ⟨Nat.le_of_ble_eq_true rfl, Nat.le_of_ble_eq_true rfl⟩) hK hP hD hS hA hm [] rfl rfl rfl hl.1 rfl (Nat.le_of_ble_eq_true rfl) dX6_letter_15 ⟨Nat.le_refl _, Nat.le_refl _⟩) hP hD hS hA [] rfl rfl (fun H locs hP hD hS => ?_)
    have hP : va_P D vwCl [(o, .inr (6, [.ref on, .ref op, .int states, .ref orr, .ref ot, .int bytes, .ref oh, .ref og, .ref od, .int reading, .int at_, .int wrongAt, .int number, .long hh])), (on, .inl (k 0, 401, .inl now)), (op, .inl (k 0, 2005, .inl past)), (orr, .inl (k 0, 3, .inl refused)), (og, .inl (k 0, 164, .inl fitting))] H := hP
    have hD : va_D A [(o, .inr (6, [.ref on, .ref op, .int states, .ref orr, .ref ot, .int bytes, .ref oh, .ref og, .ref od, .int reading, .int at_, .int wrongAt, .int number, .long hh])), (on, .inl (k 0, 401, .inl now)), (op, .inl (k 0, 2005, .inl past)), (orr, .inl (k 0, 3, .inl refused)), (og, .inl (k 0, 164, .inl fitting))] := hD
    refine lv_if_ne (tgt := 26) hx hb dX6_letter_18 (by decide) (fun c3 => ?_) (fun c3 => ?_)
    · have h := zf h c3
      refine lv_aload_n hx hb dX6_letter_26 rfl (lv_at hl 0 rfl) ?_
      obtain ⟨r4, h4, h⟩ := zb h
      refine zv (zrV (C := RX6) (T := TX6) (N := 14) (As := []) (rest := []) ⟨hx, hb, hml, hown, ht⟩ (c_X6_remembers l D k o on op orr ot oh og od states bytes reading at_ wrongAt number hh now past  fu h4 _) (cwV 0 ht (gdV wb830 wb832 wb30 wb80 wb833) rfl rfl rfl (by decide +kernel) ⟨Nat.le_of_ble_eq_true rfl, Nat.le_of_ble_eq_true rfl⟩) hK hP hD hS hA hm [0, 1, 2] rfl rfl 0 6 rfl rfl rfl hl.1 rfl (Nat.le_of_ble_eq_true rfl) dX6_letter_27 ⟨Nat.le_refl _, Nat.le_refl _⟩) hP hD hS hA [0, 1, 2] rfl rfl (fun H locs hP hD hS => ?_)
      have hP : va_P D vwCl [(o, .inr (6, [.ref on, .ref op, .int r4.1, .ref orr, .ref ot, .int bytes, .ref oh, .ref og, .ref od, .int reading, .int at_, .int wrongAt, .int number, .long hh])), (on, .inl (k 0, 401, .inl now)), (op, .inl (k 0, 2005, .inl r4.2)), (orr, .inl (k 0, 3, .inl refused)), (og, .inl (k 0, 164, .inl fitting))] H := hP
      have hD : va_D A [(o, .inr (6, [.ref on, .ref op, .int r4.1, .ref orr, .ref ot, .int bytes, .ref oh, .ref og, .ref od, .int reading, .int at_, .int wrongAt, .int number, .long hh])), (on, .inl (k 0, 401, .inl now)), (op, .inl (k 0, 2005, .inl r4.2)), (orr, .inl (k 0, 3, .inl refused)), (og, .inl (k 0, 164, .inl fitting))] := hD
      refine lv_aload_n hx hb dX6_letter_30 rfl (lv_at hl 0 rfl) ?_
      refine lv_iload_n hx hb dX6_letter_31 rfl (lv_at hl 1 rfl) ?_
      refine lv_iload_n hx hb dX6_letter_32 rfl (lv_at hl 2 rfl) ?_
      refine lv_iload_n hx hb dX6_letter_33 rfl (lv_at hl 3 rfl) ?_
      refine lv_iload hx hb dX6_letter_34 (lv_at hl 4 rfl) ?_
      refine lv_iload hx hb dX6_letter_36 (lv_at hl 5 rfl) ?_
      obtain ⟨r5, h5, h⟩ := zb h
      refine zi (zrV (C := RX6) (T := TX6) (N := 14) (As := [.int a1, .int a2, .int a3, .int a4, .int a5]) (rest := []) ⟨hx, hb, hml, hown, ht⟩ (c_X6_goes l D k o on op orr ot oh og od r4.1 bytes reading at_ wrongAt number hh now fitting a1 a2 a3 a4 a5 fu h5 _) (cwV 5 ht (gdV wb979 wb981 wb46 wb80 wb982) rfl rfl rfl (by decide +kernel) ⟨Nat.le_of_ble_eq_true rfl, Nat.le_of_ble_eq_true rfl⟩) hK hP hD hS hA hm [0, 1, 4] rfl rfl 0 6 rfl rfl rfl hl.1 rfl (Nat.le_of_ble_eq_true rfl) dX6_letter_38 ⟨Nat.le_refl _, Nat.le_refl _⟩) hP hD hS hA [0, 1, 4] rfl rfl (fun H locs hP hD hS => ?_)
      have hP : va_P D vwCl [(o, .inr (6, [.ref on, .ref op, .int r4.1, .ref orr, .ref ot, .int bytes, .ref oh, .ref og, .ref od, .int reading, .int at_, .int wrongAt, .int number, .long hh])), (on, .inl (k 0, 401, .inl r5.2.1)), (op, .inl (k 0, 2005, .inl r4.2)), (orr, .inl (k 0, 3, .inl refused)), (og, .inl (k 0, 164, .inl r5.2.2))] H := hP
      have hD : va_D A [(o, .inr (6, [.ref on, .ref op, .int r4.1, .ref orr, .ref ot, .int bytes, .ref oh, .ref og, .ref od, .int reading, .int at_, .int wrongAt, .int number, .long hh])), (on, .inl (k 0, 401, .inl r5.2.1)), (op, .inl (k 0, 2005, .inl r4.2)), (orr, .inl (k 0, 3, .inl refused)), (og, .inl (k 0, 164, .inl r5.2.2))] := hD
      refine lv_istore (lv' := [(6, .int r5.1), (0, .ref o), (1, .int a1), (2, .int a2), (3, .int a3), (4, .int a4), (5, .int a5)]) hx hb dX6_letter_41 hl (by decide) rfl (fun ls hl => ?_)
      refine lv_aload_n hx hb dX6_letter_43 rfl (lv_at hl 1 rfl) ?_
      refine va_get (D := D) (ci := 6) (v := .ref on) (C := RX6) (T := TX6) (N := 14) hx hb ht hiX6 hown hK hP 0 rfl rfl 0 (by decide) (ht _ wb765) (fun _ h9 => h9) rfl dX6_letter_44 ?_
      refine lv_sipush (v := 395) hx hb dX6_letter_47 (by decide) ?_
      refine lv_iload hx hb dX6_letter_50 (lv_at hl 0 rfl) ?_
      refine lv_iconst (v := 1) hx hb dX6_letter_52 (by decide) ?_
      refine lv_icmp_ne (tgt := 60) hx hb dX6_letter_53 (by decide) (fun c2 => ?_) (fun c2 => ?_)
      · have h := zf h c2
        refine lv_iload hx hb dX6_letter_60 (lv_at hl 0 rfl) ?_
        refine lv_if_ne (tgt := 69) hx hb dX6_letter_62 (by decide) (fun c1 => ?_) (fun c1 => ?_)
        · have h := zf h c1
          refine lv_iload hx hb dX6_letter_69 (lv_at hl 0 rfl) ?_
          refine lv_iadd hx hb dX6_letter_71 ?_
          refine lv_dup2_11 hx hb dX6_letter_72 rfl rfl ?_
          obtain ⟨hi1, h⟩ := zg h
          refine va_iald hx hb hK hP 1 0 rfl rfl hi1 dX6_letter_73 ?_
          refine lv_iconst (v := 1) hx hb dX6_letter_74 (by decide) ?_
          refine lv_iadd hx hb dX6_letter_75 ?_
          obtain ⟨hi2, h⟩ := zg h
          refine va_iast hx hb hK hP hD hS 1 0 rfl rfl hi2 dX6_letter_76 (fun H locs hP hD hS => ?_)
          have hP : va_P D vwCl [(o, .inr (6, [.ref on, .ref op, .int r4.1, .ref orr, .ref ot, .int bytes, .ref oh, .ref og, .ref od, .int reading, .int at_, .int wrongAt, .int number, .long hh])), (on, .inl (k 0, 401, .inl (upd r5.2.1 (Int32.toNatClampNeg (395 + r5.1)) ((r5.2.1 (Int32.toNatClampNeg (395 + r5.1))) + 1)))), (op, .inl (k 0, 2005, .inl r4.2)), (orr, .inl (k 0, 3, .inl refused)), (og, .inl (k 0, 164, .inl r5.2.2))] H := hP
          have hD : va_D A [(o, .inr (6, [.ref on, .ref op, .int r4.1, .ref orr, .ref ot, .int bytes, .ref oh, .ref og, .ref od, .int reading, .int at_, .int wrongAt, .int number, .long hh])), (on, .inl (k 0, 401, .inl (upd r5.2.1 (Int32.toNatClampNeg (395 + r5.1)) ((r5.2.1 (Int32.toNatClampNeg (395 + r5.1))) + 1)))), (op, .inl (k 0, 2005, .inl r4.2)), (orr, .inl (k 0, 3, .inl refused)), (og, .inl (k 0, 164, .inl r5.2.2))] := hD
          refine lv_iload hx hb dX6_letter_77 (lv_at hl 0 rfl) ?_
          obtain rfl := Option.some.inj h
          exact W.iret (v := r5.1) hx hb hr (fun t ht9 hW => ⟨⟨_, (), rfl, rfl, zend ht9 hP⟩, hS.F ht9⟩) hS.2.2 dX6_letter_79
        · have h := zt h c1
          refine lv_iconst (v := 1) hx hb dX6_letter_65 (by decide) ?_
          refine lv_goto (tgt := 71) hx hb dX6_letter_66 (by decide) ?_
          refine lv_iadd hx hb dX6_letter_71 ?_
          refine lv_dup2_11 hx hb dX6_letter_72 rfl rfl ?_
          obtain ⟨hi3, h⟩ := zg h
          refine va_iald hx hb hK hP 1 0 rfl rfl hi3 dX6_letter_73 ?_
          refine lv_iconst (v := 1) hx hb dX6_letter_74 (by decide) ?_
          refine lv_iadd hx hb dX6_letter_75 ?_
          obtain ⟨hi4, h⟩ := zg h
          refine va_iast hx hb hK hP hD hS 1 0 rfl rfl hi4 dX6_letter_76 (fun H locs hP hD hS => ?_)
          have hP : va_P D vwCl [(o, .inr (6, [.ref on, .ref op, .int r4.1, .ref orr, .ref ot, .int bytes, .ref oh, .ref og, .ref od, .int reading, .int at_, .int wrongAt, .int number, .long hh])), (on, .inl (k 0, 401, .inl (upd r5.2.1 (Int32.toNatClampNeg (395 + 1)) ((r5.2.1 (Int32.toNatClampNeg (395 + 1))) + 1)))), (op, .inl (k 0, 2005, .inl r4.2)), (orr, .inl (k 0, 3, .inl refused)), (og, .inl (k 0, 164, .inl r5.2.2))] H := hP
          have hD : va_D A [(o, .inr (6, [.ref on, .ref op, .int r4.1, .ref orr, .ref ot, .int bytes, .ref oh, .ref og, .ref od, .int reading, .int at_, .int wrongAt, .int number, .long hh])), (on, .inl (k 0, 401, .inl (upd r5.2.1 (Int32.toNatClampNeg (395 + 1)) ((r5.2.1 (Int32.toNatClampNeg (395 + 1))) + 1)))), (op, .inl (k 0, 2005, .inl r4.2)), (orr, .inl (k 0, 3, .inl refused)), (og, .inl (k 0, 164, .inl r5.2.2))] := hD
          refine lv_iload hx hb dX6_letter_77 (lv_at hl 0 rfl) ?_
          obtain rfl := Option.some.inj h
          exact W.iret (v := r5.1) hx hb hr (fun t ht9 hW => ⟨⟨_, (), rfl, rfl, zend ht9 hP⟩, hS.F ht9⟩) hS.2.2 dX6_letter_79
      · have h := zt h c2
        refine lv_iconst (v := 0) hx hb dX6_letter_56 (by decide) ?_
        refine lv_goto (tgt := 71) hx hb dX6_letter_57 (by decide) ?_
        refine lv_iadd hx hb dX6_letter_71 ?_
        refine lv_dup2_11 hx hb dX6_letter_72 rfl rfl ?_
        obtain ⟨hi5, h⟩ := zg h
        refine va_iald hx hb hK hP 1 0 rfl rfl hi5 dX6_letter_73 ?_
        refine lv_iconst (v := 1) hx hb dX6_letter_74 (by decide) ?_
        refine lv_iadd hx hb dX6_letter_75 ?_
        obtain ⟨hi6, h⟩ := zg h
        refine va_iast hx hb hK hP hD hS 1 0 rfl rfl hi6 dX6_letter_76 (fun H locs hP hD hS => ?_)
        have hP : va_P D vwCl [(o, .inr (6, [.ref on, .ref op, .int r4.1, .ref orr, .ref ot, .int bytes, .ref oh, .ref og, .ref od, .int reading, .int at_, .int wrongAt, .int number, .long hh])), (on, .inl (k 0, 401, .inl (upd r5.2.1 (Int32.toNatClampNeg (395 + 0)) ((r5.2.1 (Int32.toNatClampNeg (395 + 0))) + 1)))), (op, .inl (k 0, 2005, .inl r4.2)), (orr, .inl (k 0, 3, .inl refused)), (og, .inl (k 0, 164, .inl r5.2.2))] H := hP
        have hD : va_D A [(o, .inr (6, [.ref on, .ref op, .int r4.1, .ref orr, .ref ot, .int bytes, .ref oh, .ref og, .ref od, .int reading, .int at_, .int wrongAt, .int number, .long hh])), (on, .inl (k 0, 401, .inl (upd r5.2.1 (Int32.toNatClampNeg (395 + 0)) ((r5.2.1 (Int32.toNatClampNeg (395 + 0))) + 1)))), (op, .inl (k 0, 2005, .inl r4.2)), (orr, .inl (k 0, 3, .inl refused)), (og, .inl (k 0, 164, .inl r5.2.2))] := hD
        refine lv_iload hx hb dX6_letter_77 (lv_at hl 0 rfl) ?_
        obtain rfl := Option.some.inj h
        exact W.iret (v := r5.1) hx hb hr (fun t ht9 hW => ⟨⟨_, (), rfl, rfl, zend ht9 hP⟩, hS.F ht9⟩) hS.2.2 dX6_letter_79
    · have h := zt h c3
      refine lv_aload_n hx hb dX6_letter_21 rfl (lv_at hl 0 rfl) ?_
      obtain ⟨r6, h6, h⟩ := zb h
      refine zi (zrV (C := RX6) (T := TX6) (N := 14) (As := []) (rest := []) ⟨hx, hb, hml, hown, ht⟩ (c_X6_bad l D k o on op orr ot oh og od states bytes reading at_ wrongAt number hh refused  h6 _) (cwV 0 ht (gdV wb826 wb828 wb29 wb80 wb829) rfl rfl rfl (by decide +kernel) ⟨Nat.le_of_ble_eq_true rfl, Nat.le_of_ble_eq_true rfl⟩) hK hP hD hS hA hm [0, 3] rfl rfl 0 6 rfl rfl rfl hl.1 rfl (Nat.le_of_ble_eq_true rfl) dX6_letter_22 ⟨Nat.le_refl _, Nat.le_refl _⟩) hP hD hS hA [0, 3] rfl rfl (fun H locs hP hD hS => ?_)
      have hP : va_P D vwCl [(o, .inr (6, [.ref on, .ref op, .int states, .ref orr, .ref ot, .int bytes, .ref oh, .ref og, .ref od, .int reading, .int at_, .int wrongAt, .int number, .long hh])), (on, .inl (k 0, 401, .inl now)), (op, .inl (k 0, 2005, .inl past)), (orr, .inl (k 0, 3, .inl r6.2)), (og, .inl (k 0, 164, .inl fitting))] H := hP
      have hD : va_D A [(o, .inr (6, [.ref on, .ref op, .int states, .ref orr, .ref ot, .int bytes, .ref oh, .ref og, .ref od, .int reading, .int at_, .int wrongAt, .int number, .long hh])), (on, .inl (k 0, 401, .inl now)), (op, .inl (k 0, 2005, .inl past)), (orr, .inl (k 0, 3, .inl r6.2)), (og, .inl (k 0, 164, .inl fitting))] := hD
      obtain rfl := Option.some.inj h
      exact W.iret (v := r6.1) hx hb hr (fun t ht9 hW => ⟨⟨_, (), rfl, rfl, zend ht9 hP⟩, hS.F ht9⟩) hS.2.2 dX6_letter_25
