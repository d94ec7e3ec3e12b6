def f_X6_in  (a1 : Int32) (a2 : Int32) (a3 : Int32) : Option (Bool) :=
  if a1 < a2 then (some (false)) else (if a3 < a1 then (some (false)) else (some (true)))
abbrev wk_X6_in : List Cond := Cond.code yX6_in cX6_in 3 (some .boolean) :: WB
abbrev rm_X6_in : Room := { frames := 0, cells := 0, slots := 0, locals := 0 }
set_option maxHeartbeats 4000000 in
set_option maxRecDepth 100000 in
theorem c_X6_in (l : Launch) (D : va_G) (k : Nat → Nat)  (a1 : Int32) (a2 : Int32) (a3 : Int32) {res : Bool} (h : f_X6_in  a1 a2 a3 = some res) : Ci l yX6_in wk_X6_in rm_X6_in D k [.int a1, .int a2, .int a3] [] [] (zB res) := by
  unfold Ci
  intro sz
  refine Met.ofW (cc := cX6_in) (maxL := 3) (ret := (some .boolean)) (by decide) rfl ?_
  intro p e s m args below meth c s₁ B hml hv
  obtain ⟨rfl, hsz, hP, hK, hD0, hm⟩ := hv
  have hx := B.exec
  have hb := B.bytes
  have hr := B.returns
  have ht : ∀ w ∈ WB, w.before _ s = true := fun w hw => atoms_spec (ws := wk_X6_in) B.pre w (List.mem_cons_of_mem _ hw)
  have hown : s.vm.findClass RX6 = some m.cls := findClass_of_methodNamed B.named
  have hlocks := B.notSynchronized
  subst hsz
  have hD := hD0.self (sz := s.heap.size)
  generalize hAe : va_A [] s.heap.size = A at hD hm ⊢
  have hA : ∀ q : Nat, s.heap.size ≤ q → A q := fun q h => by rw [← hAe]; exact Or.inr h
  have hS : va_S A s.heap s.heap [] := va_S.rf
  have hl := lv_entry ([.int a1, .int a2, .int a3]) (n := 3) (Nat.le_of_ble_eq_true rfl)
  rw [lg_entry_eq]
  generalize (lg_sl ([.int a1, .int a2, .int a3]) ++ List.replicate (3 - (lg_sl ([.int a1, .int a2, .int a3])).length) Slot.unset).toArray = ls at hl ⊢
  have hl : lv_has ls 3 [(0, .int a1), (1, .int a2), (2, .int a3)] := hl
  obtain ⟨H, hH⟩ : ∃ H, H = s.heap := ⟨_, rfl⟩
  rw [← hH] at hP
  have hS : va_S A s.heap H [] := by rw [hH]; exact hS
  suffices hgo : W p l e _ s m _ below meth c H [] 0 0 _ _ by rw [hH] at hgo; exact hgo
  unfold f_X6_in at h
  refine lv_iload_n hx hb dX6_in_0 rfl (lv_at hl 0 rfl) ?_
  refine lv_iload_n hx hb dX6_in_1 rfl (lv_at hl 1 rfl) ?_
  refine lv_icmp_lt (tgt := 14) hx hb dX6_in_2 (by decide) (fun c2 => ?_) (fun c2 => ?_)
  · have h := zt h c2
    refine lv_iconst (v := 0) hx hb dX6_in_14 (by decide) ?_
    obtain rfl := Option.some.inj h
    exact W.zret (v := 0) (ty := .boolean) hx hb hr (rfl) (fun t ht9 hW => ⟨⟨_, (), rfl, rfl, zend ht9 hP⟩, hS.F ht9⟩) hS.2.2 dX6_in_15
  · have h := zf h c2
    refine lv_iload_n hx hb dX6_in_5 rfl (lv_at hl 0 rfl) ?_
    refine lv_iload_n hx hb dX6_in_6 rfl (lv_at hl 2 rfl) ?_
    refine lv_icmp_gt (tgt := 14) hx hb dX6_in_7 (by decide) (fun c1 => ?_) (fun c1 => ?_)
    · have h := zt h c1
      refine lv_iconst (v := 0) hx hb dX6_in_14 (by decide) ?_
      obtain rfl := Option.some.inj h
      exact W.zret (v := 0) (ty := .boolean) hx hb hr (rfl) (fun t ht9 hW => ⟨⟨_, (), rfl, rfl, zend ht9 hP⟩, hS.F ht9⟩) hS.2.2 dX6_in_15
    · have h := zf h c1
      refine lv_iconst (v := 1) hx hb dX6_in_10 (by decide) ?_
      refine lv_goto (tgt := 15) hx hb dX6_in_11 (by decide) ?_
      obtain rfl := Option.some.inj h
      exact W.zret (v := 1) (ty := .boolean) hx hb hr (rfl) (fun t ht9 hW => ⟨⟨_, (), rfl, rfl, zend ht9 hP⟩, hS.F ht9⟩) hS.2.2 dX6_in_15
def f_X6_isAddress  (a1 : Int32) : Option (Bool) :=
  (f_X6_in  a1 0 31).bind fun r1 => some (r1)
abbrev wk_X6_isAddress : List Cond := Cond.code yX6_isAddress cX6_isAddress 1 (some .boolean) :: WB
abbrev rm_X6_isAddress : Room := { frames := 1, cells := 0, slots := 0, locals := 22 }
set_option maxHeartbeats 4000000 in
set_option maxRecDepth 100000 in
theorem c_X6_isAddress (l : Launch) (D : va_G) (k : Nat → Nat)  (a1 : Int32) {res : Bool} (h : f_X6_isAddress  a1 = some res) : Ci l yX6_isAddress wk_X6_isAddress rm_X6_isAddress D k [.int a1] [] [] (zB res) := by
  unfold Ci
  intro sz
  refine Met.ofW (cc := cX6_isAddress) (maxL := 1) (ret := (some .boolean)) (by decide) rfl ?_
  intro p e s m args below meth c s₁ B hml hv
  obtain ⟨rfl, hsz, hP, hK, hD0, hm⟩ := hv
  have hx := B.exec
  have hb := B.bytes
  have hr := B.returns
  have ht : ∀ w ∈ WB, w.before _ s = true := fun w hw => atoms_spec (ws := wk_X6_isAddress) B.pre w (List.mem_cons_of_mem _ hw)
  have hown : s.vm.findClass RX6 = some m.cls := findClass_of_methodNamed B.named
  have hlocks := B.notSynchronized
  subst hsz
  have hD := hD0.self (sz := s.heap.size)
  generalize hAe : va_A [] s.heap.size = A at hD hm ⊢
  have hA : ∀ q : Nat, s.heap.size ≤ q → A q := fun q h => by rw [← hAe]; exact Or.inr h
  have hS : va_S A s.heap s.heap [] := va_S.rf
  have hl := lv_entry ([.int a1]) (n := 1) (Nat.le_of_ble_eq_true rfl)
  rw [lg_entry_eq]
  generalize (lg_sl ([.int a1]) ++ List.replicate (1 - (lg_sl ([.int a1])).length) Slot.unset).toArray = ls at hl ⊢
  have hl : lv_has ls 1 [(0, .int a1)] := hl
  obtain ⟨H, hH⟩ : ∃ H, H = s.heap := ⟨_, rfl⟩
  rw [← hH] at hP
  have hS : va_S A s.heap H [] := by rw [hH]; exact hS
  suffices hgo : W p l e _ s m _ below meth c H [] 0 0 _ _ by rw [hH] at hgo; exact hgo
  unfold f_X6_isAddress at h
  refine lv_iload_n hx hb dX6_isAddress_0 rfl (lv_at hl 0 rfl) ?_
  refine lv_iconst (v := 0) hx hb dX6_isAddress_1 (by decide) ?_
  refine lv_bipush (v := 31) hx hb dX6_isAddress_2 (by decide) ?_
  obtain ⟨r1, h1, h⟩ := zb h
  refine zi (zrS (As := [.int a1, .int 0, .int 31]) (rest := []) ⟨hx, hb, hml, hown, ht⟩ (c_X6_in l D k   a1 0 31 h1 _) (va_cwS 3 ht (gdS wb820 wb821 wb80 wb822) rfl rfl rfl (by decide +kernel) ⟨Nat.le_of_ble_eq_true rfl, Nat.le_of_ble_eq_true rfl⟩) hK hP hD hS hA hm [] rfl rfl rfl hl.1 rfl (Nat.le_of_ble_eq_true rfl) dX6_isAddress_4 ⟨Nat.le_refl _, Nat.le_refl _⟩) hP hD hS hA [] rfl rfl (fun H locs hP hD hS => ?_)
  have hP : va_P D vwCl [] H := hP
  have hD : va_D A [] := hD
  obtain rfl := Option.some.inj h
  exact W.zret (v := zB r1) (ty := .boolean) hx hb hr (zB_nar _) (fun t ht9 hW => ⟨⟨_, (), rfl, rfl, zend ht9 hP⟩, hS.F ht9⟩) hS.2.2 dX6_isAddress_7
def f_X6_isCase  (a1 : Int32) (a2 : Int32) (a3 : Int32) (a4 : Int32) : Option (Bool) :=
  (f_X6_isAddress  a1).bind fun r1 => if (zB r1) = 0 then (some (false)) else ((f_X6_isAddress  a2).bind fun r2 => if (zB r2) = 0 then (some (false)) else ((f_X6_in  a3 0 15).bind fun r3 => if (zB r3) = 0 then (some (false)) else ((f_X6_in  a4 0 1).bind fun r4 => if (zB r4) = 0 then (some (false)) else (some (true)))))
abbrev wk_X6_isCase : List Cond := Cond.code yX6_isCase cX6_isCase 4 (some .boolean) :: WB
abbrev rm_X6_isCase : Room := { frames := 2, cells := 0, slots := 0, locals := 42 }
set_option maxHeartbeats 4000000 in
set_option maxRecDepth 100000 in
theorem c_X6_isCase (l : Launch) (D : va_G) (k : Nat → Nat)  (a1 : Int32) (a2 : Int32) (a3 : Int32) (a4 : Int32) {res : Bool} (h : f_X6_isCase  a1 a2 a3 a4 = some res) : Ci l yX6_isCase wk_X6_isCase rm_X6_isCase D k [.int a1, .int a2, .int a3, .int a4] [] [] (zB res) := by
  unfold Ci
  intro sz
  refine Met.ofW (cc := cX6_isCase) (maxL := 4) (ret := (some .boolean)) (by decide) rfl ?_
  intro p e s m args below meth c s₁ B hml hv
  obtain ⟨rfl, hsz, hP, hK, hD0, hm⟩ := hv
  have hx := B.exec
  have hb := B.bytes
  have hr := B.returns
  have ht : ∀ w ∈ WB, w.before _ s = true := fun w hw => atoms_spec (ws := wk_X6_isCase) B.pre w (List.mem_cons_of_mem _ hw)
  have hown : s.vm.findClass RX6 = some m.cls := findClass_of_methodNamed B.named
  have hlocks := B.notSynchronized
  subst hsz
  have hD := hD0.self (sz := s.heap.size)
  generalize hAe : va_A [] s.heap.size = A at hD hm ⊢
  have hA : ∀ q : Nat, s.heap.size ≤ q → A q := fun q h => by rw [← hAe]; exact Or.inr h
  have hS : va_S A s.heap s.heap [] := va_S.rf
  have hl := lv_entry ([.int a1, .int a2, .int a3, .int a4]) (n := 4) (Nat.le_of_ble_eq_true rfl)
  rw [lg_entry_eq]
  generalize (lg_sl ([.int a1, .int a2, .int a3, .int a4]) ++ List.replicate (4 - (lg_sl ([.int a1, .int a2, .int a3, .int a4])).length) Slot.unset).toArray = ls at hl ⊢
  have hl : lv_has ls 4 [(0, .int a1), (1, .int a2), (2, .int a3), (3, .int a4)] := hl
  obtain ⟨H, hH⟩ : ∃ H, H = s.heap := ⟨_, rfl⟩
  rw [← hH] at hP
  have hS : va_S A s.heap H [] := by rw [hH]; exact hS
  suffices hgo : W p l e _ s m _ below meth c H [] 0 0 _ _ by rw [hH] at hgo; exact hgo
  unfold f_X6_isCase at h
  refine lv_iload_n hx hb dX6_isCase_0 rfl (lv_at hl 0 rfl) ?_
  obtain ⟨r1, h1, h⟩ := zb h
  refine zi (zrS (As := [.int a1]) (rest := []) ⟨hx, hb, hml, hown, ht⟩ (c_X6_isAddress l D k   a1 h1 _) (va_cwS 1 ht (gdS wb823 wb824 wb80 wb825) rfl rfl rfl (by decide +kernel) ⟨Nat.le_of_ble_eq_true rfl, Nat.le_of_ble_eq_true rfl⟩) hK hP hD hS hA hm [] rfl rfl rfl hl.1 rfl (Nat.le_of_ble_eq_true rfl) dX6_isCase_1 ⟨Nat.le_refl _, Nat.le_refl _⟩) hP hD hS hA [] rfl rfl (fun H locs hP hD hS => ?_)
  have hP : va_P D vwCl [] H := hP
  have hD : va_D A [] := hD
  refine lv_if_eq (tgt := 37) hx hb dX6_isCase_4 (by decide) (fun c4 => ?_) (fun c4 => ?_)
  · have h := zt h c4
    refine lv_iconst (v := 0) hx hb dX6_isCase_37 (by decide) ?_
    obtain rfl := Option.some.inj h
    exact W.zret (v := 0) (ty := .boolean) hx hb hr (rfl) (fun t ht9 hW => ⟨⟨_, (), rfl, rfl, zend ht9 hP⟩, hS.F ht9⟩) hS.2.2 dX6_isCase_38
  · have h := zf h c4
    refine lv_iload_n hx hb dX6_isCase_7 rfl (lv_at hl 1 rfl) ?_
    obtain ⟨r2, h2, h⟩ := zb h
    refine zi (zrS (As := [.int a2]) (rest := []) ⟨hx, hb, hml, hown, ht⟩ (c_X6_isAddress l D k   a2 h2 _) (va_cwS 1 ht (gdS wb823 wb824 wb80 wb825) rfl rfl rfl (by decide +kernel) ⟨Nat.le_of_ble_eq_true rfl, Nat.le_of_ble_eq_true rfl⟩) hK hP hD hS hA hm [] rfl rfl rfl hl.1 rfl (Nat.le_of_ble_eq_true rfl) dX6_isCase_8 ⟨Nat.le_refl _, Nat.le_refl _⟩) hP hD hS hA [] rfl rfl (fun H locs hP hD hS => ?_)
    have hP : va_P D vwCl [] H := hP
    have hD : va_D A [] := hD
    refine lv_if_eq (tgt := 37) hx hb dX6_isCase_11 (by decide) (fun c3 => ?_) (fun c3 => ?_)
    · have h := zt h c3
      refine lv_iconst (v := 0) hx hb dX6_isCase_37 (by decide) ?_
      obtain rfl := Option.some.inj h
      exact W.zret (v := 0) (ty := .boolean) hx hb hr (rfl) (fun t ht9 hW => ⟨⟨_, (), rfl, rfl, zend ht9 hP⟩, hS.F ht9⟩) hS.2.2 dX6_isCase_38
    · have h := zf h c3
      refine lv_iload_n hx hb dX6_isCase_14 rfl (lv_at hl 2 rfl) ?_
      refine lv_iconst (v := 0) hx hb dX6_isCase_15 (by decide) ?_
      refine lv_bipush (v := 15) hx hb dX6_isCase_16 (by decide) ?_
      obtain ⟨r3, h3, h⟩ := zb h
      refine zi (zrS (As := [.int a3, .int 0, .int 15]) (rest := []) ⟨hx, hb, hml, hown, ht⟩ (c_X6_in l D k   a3 0 15 h3 _) (va_cwS 3 ht (gdS wb820 wb821 wb80 wb822) rfl rfl rfl (by decide +kernel) ⟨Nat.le_of_ble_eq_true rfl, Nat.le_of_ble_eq_true rfl⟩) hK hP hD hS hA hm [] rfl rfl rfl hl.1 rfl (Nat.le_of_ble_eq_true rfl) dX6_isCase_18 ⟨Nat.le_refl _, Nat.le_refl _⟩) hP hD hS hA [] rfl rfl (fun H locs hP hD hS => ?_)
      have hP : va_P D vwCl [] H := hP
      have hD : va_D A [] := hD
      refine lv_if_eq (tgt := 37) hx hb dX6_isCase_21 (by decide) (fun c2 => ?_) (fun c2 => ?_)
      · have h := zt h c2
        refine lv_iconst (v := 0) hx hb dX6_isCase_37 (by decide) ?_
        obtain rfl := Option.some.inj h
        exact W.zret (v := 0) (ty := .boolean) hx hb hr (rfl) (fun t ht9 hW => ⟨⟨_, (), rfl, rfl, zend ht9 hP⟩, hS.F ht9⟩) hS.2.2 dX6_isCase_38
      · have h := zf h c2
        refine lv_iload_n hx hb dX6_isCase_24 rfl (lv_at hl 3 rfl) ?_
        refine lv_iconst (v := 0) hx hb dX6_isCase_25 (by decide) ?_
        refine lv_iconst (v := 1) hx hb dX6_isCase_26 (by decide) ?_
        obtain ⟨r4, h4, h⟩ := zb h
        refine zi (zrS (As := [.int a4, .int 0, .int 1]) (rest := []) ⟨hx, hb, hml, hown, ht⟩ (c_X6_in l D k   a4 0 1 h4 _) (va_cwS 3 ht (gdS wb820 wb821 wb80 wb822) rfl rfl rfl (by decide +kernel) ⟨Nat.le_of_ble_eq_true rfl, Nat.le_of_ble_eq_true rfl⟩) hK hP hD hS hA hm [] rfl rfl rfl hl.1 rfl (Nat.le_of_ble_eq_true rfl) dX6_isCase_27 ⟨Nat.le_refl _, Nat.le_refl _⟩) hP hD hS hA [] rfl rfl (fun H locs hP hD hS => ?_)
        have hP : va_P D vwCl [] H := hP
        have hD : va_D A [] := hD
        refine lv_if_eq (tgt := 37) hx hb dX6_isCase_30 (by decide) (fun c1 => ?_) (fun c1 => ?_)
        · have h := zt h c1
          refine lv_iconst (v := 0) hx hb dX6_isCase_37 (by decide) ?_
          obtain rfl := Option.some.inj h
          exact W.zret (v := 0) (ty := .boolean) hx hb hr (rfl) (fun t ht9 hW => ⟨⟨_, (), rfl, rfl, zend ht9 hP⟩, hS.F ht9⟩) hS.2.2 dX6_isCase_38
        · have h := zf h c1
          refine lv_iconst (v := 1) hx hb dX6_isCase_33 (by decide) ?_
          refine lv_goto (tgt := 38) hx hb dX6_isCase_34 (by decide) ?_
          obtain rfl := Option.some.inj h
          exact W.zret (v := 1) (ty := .boolean) hx hb hr (rfl) (fun t ht9 hW => ⟨⟨_, (), rfl, rfl, zend ht9 hP⟩, hS.F ht9⟩) hS.2.2 dX6_isCase_38
def f_X6_mostOf  (a1 : Int32) : Option (Int32) :=
  if 1 < a1 then (if 5 < a1 then (if 7 < a1 then (some (2)) else (some (15))) else (some (31))) else (some (6))
abbrev wk_X6_mostOf : List Cond := Cond.code yX6_mostOf cX6_mostOf 1 (some .int) :: WB
abbrev rm_X6_mostOf : Room := { frames := 0, cells := 0, slots := 0, locals := 0 }
set_option maxHeartbeats 4000000 in
set_option maxRecDepth 100000 in
theorem c_X6_mostOf (l : Launch) (D : va_G) (k : Nat → Nat)  (a1 : Int32) {res : Int32} (h : f_X6_mostOf  a1 = some res) : Ci l yX6_mostOf wk_X6_mostOf rm_X6_mostOf D k [.int a1] [] [] res := by
  unfold Ci
  intro sz
  refine Met.ofW (cc := cX6_mostOf) (maxL := 1) (ret := (some .int)) (by decide) rfl ?_
  intro p e s m args below meth c s₁ B hml hv
  obtain ⟨rfl, hsz, hP, hK, hD0, hm⟩ := hv
  have hx := B.exec
  have hb := B.bytes
  have hr := B.returns
  have ht : ∀ w ∈ WB, w.before _ s = true := fun w hw => atoms_spec (ws := wk_X6_mostOf) B.pre w (List.mem_cons_of_mem _ hw)
  have hown : s.vm.findClass RX6 = some m.cls := findClass_of_methodNamed B.named
  have hlocks := B.notSynchronized
  subst hsz
  have hD := hD0.self (sz := s.heap.size)
  generalize hAe : va_A [] s.heap.size = A at hD hm ⊢
  have hA : ∀ q : Nat, s.heap.size ≤ q → A q := fun q h => by rw [← hAe]; exact Or.inr h
  have hS : va_S A s.heap s.heap [] := va_S.rf
  have hl := lv_entry ([.int a1]) (n := 1) (Nat.le_of_ble_eq_true rfl)
  rw [lg_entry_eq]
  generalize (lg_sl ([.int a1]) ++ List.replicate (1 - (lg_sl ([.int a1])).length) Slot.unset).toArray = ls at hl ⊢
  have hl : lv_has ls 1 [(0, .int a1)] := hl
  obtain ⟨H, hH⟩ : ∃ H, H = s.heap := ⟨_, rfl⟩
  rw [← hH] at hP
  have hS : va_S A s.heap H [] := by rw [hH]; exact hS
  suffices hgo : W p l e _ s m _ below meth c H [] 0 0 _ _ by rw [hH] at hgo; exact hgo
  unfold f_X6_mostOf at h
  refine lv_iload_n hx hb dX6_mostOf_0 rfl (lv_at hl 0 rfl) ?_
  refine lv_iconst (v := 1) hx hb dX6_mostOf_1 (by decide) ?_
  refine lv_icmp_gt (tgt := 10) hx hb dX6_mostOf_2 (by decide) (fun c3 => ?_) (fun c3 => ?_)
  · have h := zt h c3
    refine lv_iload_n hx hb dX6_mostOf_10 rfl (lv_at hl 0 rfl) ?_
    refine lv_iconst (v := 5) hx hb dX6_mostOf_11 (by decide) ?_
    refine lv_icmp_gt (tgt := 20) hx hb dX6_mostOf_12 (by decide) (fun c2 => ?_) (fun c2 => ?_)
    · have h := zt h c2
      refine lv_iload_n hx hb dX6_mostOf_20 rfl (lv_at hl 0 rfl) ?_
      refine lv_bipush (v := 7) hx hb dX6_mostOf_21 (by decide) ?_
      refine lv_icmp_gt (tgt := 31) hx hb dX6_mostOf_23 (by decide) (fun c1 => ?_) (fun c1 => ?_)
      · have h := zt h c1
        refine lv_iconst (v := 2) hx hb dX6_mostOf_31 (by decide) ?_
        obtain rfl := Option.some.inj h
        exact W.iret (v := 2) hx hb hr (fun t ht9 hW => ⟨⟨_, (), rfl, rfl, zend ht9 hP⟩, hS.F ht9⟩) hS.2.2 dX6_mostOf_32
      · have h := zf h c1
        refine lv_bipush (v := 15) hx hb dX6_mostOf_26 (by decide) ?_
        refine lv_goto (tgt := 32) hx hb dX6_mostOf_28 (by decide) ?_
        obtain rfl := Option.some.inj h
        exact W.iret (v := 15) hx hb hr (fun t ht9 hW => ⟨⟨_, (), rfl, rfl, zend ht9 hP⟩, hS.F ht9⟩) hS.2.2 dX6_mostOf_32
    · have h := zf h c2
      refine lv_bipush (v := 31) hx hb dX6_mostOf_15 (by decide) ?_
      refine lv_goto (tgt := 32) hx hb dX6_mostOf_17 (by decide) ?_
      obtain rfl := Option.some.inj h
      exact W.iret (v := 31) hx hb hr (fun t ht9 hW => ⟨⟨_, (), rfl, rfl, zend ht9 hP⟩, hS.F ht9⟩) hS.2.2 dX6_mostOf_32
  · have h := zf h c3
    refine lv_bipush (v := 6) hx hb dX6_mostOf_5 (by decide) ?_
    refine lv_goto (tgt := 32) hx hb dX6_mostOf_7 (by decide) ?_
    obtain rfl := Option.some.inj h
    exact W.iret (v := 6) hx hb hr (fun t ht9 hW => ⟨⟨_, (), rfl, rfl, zend ht9 hP⟩, hS.F ht9⟩) hS.2.2 dX6_mostOf_32
def f_X6_sourceOf  (a1 : Int32) : Option (Int32) :=
  some (a1 / 1024)
abbrev wk_X6_sourceOf : List Cond := Cond.code yX6_sourceOf cX6_sourceOf 1 (some .int) :: WB
abbrev rm_X6_sourceOf : Room := { frames := 0, cells := 0, slots := 0, locals := 0 }
set_option maxHeartbeats 4000000 in
set_option maxRecDepth 100000 in
theorem c_X6_sourceOf (l : Launch) (D : va_G) (k : Nat → Nat)  (a1 : Int32) {res : Int32} (h : f_X6_sourceOf  a1 = some res) : Ci l yX6_sourceOf wk_X6_sourceOf rm_X6_sourceOf D k [.int a1] [] [] res := by
  unfold Ci
  intro sz
  refine Met.ofW (cc := cX6_sourceOf) (maxL := 1) (ret := (some .int)) (by decide) rfl ?_
  intro p e s m args below meth c s₁ B hml hv
  obtain ⟨rfl, hsz, hP, hK, hD0, hm⟩ := hv
  have hx := B.exec
  have hb := B.bytes
  have hr := B.returns
  have ht : ∀ w ∈ WB, w.before _ s = true := fun w hw => atoms_spec (ws := wk_X6_sourceOf) B.pre w (List.mem_cons_of_mem _ hw)
  have hown : s.vm.findClass RX6 = some m.cls := findClass_of_methodNamed B.named
  have hlocks := B.notSynchronized
  subst hsz
  have hD := hD0.self (sz := s.heap.size)
  generalize hAe : va_A [] s.heap.size = A at hD hm ⊢
  have hA : ∀ q : Nat, s.heap.size ≤ q → A q := fun q h => by rw [← hAe]; exact Or.inr h
  have hS : va_S A s.heap s.heap [] := va_S.rf
  have hl := lv_entry ([.int a1]) (n := 1) (Nat.le_of_ble_eq_true rfl)
  rw [lg_entry_eq]
  generalize (lg_sl ([.int a1]) ++ List.replicate (1 - (lg_sl ([.int a1])).length) Slot.unset).toArray = ls at hl ⊢
  have hl : lv_has ls 1 [(0, .int a1)] := hl
  obtain ⟨H, hH⟩ : ∃ H, H = s.heap := ⟨_, rfl⟩
  rw [← hH] at hP
  have hS : va_S A s.heap H [] := by rw [hH]; exact hS
  suffices hgo : W p l e _ s m _ below meth c H [] 0 0 _ _ by rw [hH] at hgo; exact hgo
  unfold f_X6_sourceOf at h
  refine lv_iload_n hx hb dX6_sourceOf_0 rfl (lv_at hl 0 rfl) ?_
  refine lv_sipush (v := 1024) hx hb dX6_sourceOf_1 (by decide) ?_
  refine lv_idiv hx hb dX6_sourceOf_4 (by decide) ?_
  obtain rfl := Option.some.inj h
  exact W.iret (v := a1 / 1024) hx hb hr (fun t ht9 hW => ⟨⟨_, (), rfl, rfl, zend ht9 hP⟩, hS.F ht9⟩) hS.2.2 dX6_sourceOf_5
def f_X6_goalOf  (a1 : Int32) : Option (Int32) :=
  some ((a1 / 32) - (a1 / 32) / 32 * 32)
abbrev wk_X6_goalOf : List Cond := Cond.code yX6_goalOf cX6_goalOf 1 (some .int) :: WB
abbrev rm_X6_goalOf : Room := { frames := 0, cells := 0, slots := 0, locals := 0 }
set_option maxHeartbeats 4000000 in
set_option maxRecDepth 100000 in
theorem c_X6_goalOf (l : Launch) (D : va_G) (k : Nat → Nat)  (a1 : Int32) {res : Int32} (h : f_X6_goalOf  a1 = some res) : Ci l yX6_goalOf wk_X6_goalOf rm_X6_goalOf D k [.int a1] [] [] res := by
  unfold Ci
  intro sz
  refine Met.ofW (cc := cX6_goalOf) (maxL := 1) (ret := (some .int)) (by decide) rfl ?_
  intro p e s m args below meth c s₁ B hml hv
  obtain ⟨rfl, hsz, hP, hK, hD0, hm⟩ := hv
  have hx := B.exec
  have hb := B.bytes
  have hr := B.returns
  have ht : ∀ w ∈ WB, w.before _ s = true := fun w hw => atoms_spec (ws := wk_X6_goalOf) B.pre w (List.mem_cons_of_mem _ hw)
  have hown : s.vm.findClass RX6 = some m.cls := findClass_of_methodNamed B.named
  have hlocks := B.notSynchronized
  subst hsz
  have hD := hD0.self (sz := s.heap.size)
  generalize hAe : va_A [] s.heap.size = A at hD hm ⊢
  have hA : ∀ q : Nat, s.heap.size ≤ q → A q := fun q h => by rw [← hAe]; exact Or.inr h
  have hS : va_S A s.heap s.heap [] := va_S.rf
  have hl := lv_entry ([.int a1]) (n := 1) (Nat.le_of_ble_eq_true rfl)
  rw [lg_entry_eq]
  generalize (lg_sl ([.int a1]) ++ List.replicate (1 - (lg_sl ([.int a1])).length) Slot.unset).toArray = ls at hl ⊢
  have hl : lv_has ls 1 [(0, .int a1)] := hl
  obtain ⟨H, hH⟩ : ∃ H, H = s.heap := ⟨_, rfl⟩
  rw [← hH] at hP
  have hS : va_S A s.heap H [] := by rw [hH]; exact hS
  suffices hgo : W p l e _ s m _ below meth c H [] 0 0 _ _ by rw [hH] at hgo; exact hgo
  unfold f_X6_goalOf at h
  refine lv_iload_n hx hb dX6_goalOf_0 rfl (lv_at hl 0 rfl) ?_
  refine lv_bipush (v := 32) hx hb dX6_goalOf_1 (by decide) ?_
  refine lv_idiv hx hb dX6_goalOf_3 (by decide) ?_
  refine lv_bipush (v := 32) hx hb dX6_goalOf_4 (by decide) ?_
  refine lv_irem hx hb dX6_goalOf_6 (by decide) ?_
  obtain rfl := Option.some.inj h
  exact W.iret (v := (a1 / 32) - (a1 / 32) / 32 * 32) hx hb hr (fun t ht9 hW => ⟨⟨_, (), rfl, rfl, zend ht9 hP⟩, hS.F ht9⟩) hS.2.2 dX6_goalOf_7
def f_X6_portOf  (a1 : Int32) : Option (Int32) :=
  some ((a1 / 2) - (a1 / 2) / 16 * 16)
abbrev wk_X6_portOf : List Cond := Cond.code yX6_portOf cX6_portOf 1 (some .int) :: WB
abbrev rm_X6_portOf : Room := { frames := 0, cells := 0, slots := 0, locals := 0 }
set_option maxHeartbeats 4000000 in
set_option maxRecDepth 100000 in
theorem c_X6_portOf (l : Launch) (D : va_G) (k : Nat → Nat)  (a1 : Int32) {res : Int32} (h : f_X6_portOf  a1 = some res) : Ci l yX6_portOf wk_X6_portOf rm_X6_portOf D k [.int a1] [] [] res := by
  unfold Ci
  intro sz
  refine Met.ofW (cc := cX6_portOf) (maxL := 1) (ret := (some .int)) (by decide) rfl ?_
  intro p e s m args below meth c s₁ B hml hv
  obtain ⟨rfl, hsz, hP, hK, hD0, hm⟩ := hv
  have hx := B.exec
  have hb := B.bytes
  have hr := B.returns
  have ht : ∀ w ∈ WB, w.before _ s = true := fun w hw => atoms_spec (ws := wk_X6_portOf) B.pre w (List.mem_cons_of_mem _ hw)
  have hown : s.vm.findClass RX6 = some m.cls := findClass_of_methodNamed B.named
  have hlocks := B.notSynchronized
  subst hsz
  have hD := hD0.self (sz := s.heap.size)
  generalize hAe : va_A [] s.heap.size = A at hD hm ⊢
  have hA : ∀ q : Nat, s.heap.size ≤ q → A q := fun q h => by rw [← hAe]; exact Or.inr h
  have hS : va_S A s.heap s.heap [] := va_S.rf
  have hl := lv_entry ([.int a1]) (n := 1) (Nat.le_of_ble_eq_true rfl)
  rw [lg_entry_eq]
  generalize (lg_sl ([.int a1]) ++ List.replicate (1 - (lg_sl ([.int a1])).length) Slot.unset).toArray = ls at hl ⊢
  have hl : lv_has ls 1 [(0, .int a1)] := hl
  obtain ⟨H, hH⟩ : ∃ H, H = s.heap := ⟨_, rfl⟩
  rw [← hH] at hP
  have hS : va_S A s.heap H [] := by rw [hH]; exact hS
  suffices hgo : W p l e _ s m _ below meth c H [] 0 0 _ _ by rw [hH] at hgo; exact hgo
  unfold f_X6_portOf at h
  refine lv_iload_n hx hb dX6_portOf_0 rfl (lv_at hl 0 rfl) ?_
  refine lv_iconst (v := 2) hx hb dX6_portOf_1 (by decide) ?_
  refine lv_idiv hx hb dX6_portOf_2 (by decide) ?_
  refine lv_bipush (v := 16) hx hb dX6_portOf_3 (by decide) ?_
  refine lv_irem hx hb dX6_portOf_5 (by decide) ?_
  obtain rfl := Option.some.inj h
  exact W.iret (v := (a1 / 2) - (a1 / 2) / 16 * 16) hx hb hr (fun t ht9 hW => ⟨⟨_, (), rfl, rfl, zend ht9 hP⟩, hS.F ht9⟩) hS.2.2 dX6_portOf_6
def f_X6_caseOf  (a1 : Int32) (a2 : Int32) (a3 : Int32) (a4 : Int32) : Option (Int32) :=
  some ((((1024 * a1) + (32 * a2)) + (2 * a3)) + a4)
abbrev wk_X6_caseOf : List Cond := Cond.code yX6_caseOf cX6_caseOf 4 (some .int) :: WB
abbrev rm_X6_caseOf : Room := { frames := 0, cells := 0, slots := 0, locals := 0 }
set_option maxHeartbeats 4000000 in
set_option maxRecDepth 100000 in
theorem c_X6_caseOf (l : Launch) (D : va_G) (k : Nat → Nat)  (a1 : Int32) (a2 : Int32) (a3 : Int32) (a4 : Int32) {res : Int32} (h : f_X6_caseOf  a1 a2 a3 a4 = some res) : Ci l yX6_caseOf wk_X6_caseOf rm_X6_caseOf D k [.int a1, .int a2, .int a3, .int a4] [] [] res := by
  unfold Ci
  intro sz
  refine Met.ofW (cc := cX6_caseOf) (maxL := 4) (ret := (some .int)) (by decide) rfl ?_
  intro p e s m args below meth c s₁ B hml hv
  obtain ⟨rfl, hsz, hP, hK, hD0, hm⟩ := hv
  have hx := B.exec
  have hb := B.bytes
  have hr := B.returns
  have ht : ∀ w ∈ WB, w.before _ s = true := fun w hw => atoms_spec (ws := wk_X6_caseOf) B.pre w (List.mem_cons_of_mem _ hw)
  have hown : s.vm.findClass RX6 = some m.cls := findClass_of_methodNamed B.named
  have hlocks := B.notSynchronized
  subst hsz
  have hD := hD0.self (sz := s.heap.size)
  generalize hAe : va_A [] s.heap.size = A at hD hm ⊢
  have hA : ∀ q : Nat, s.heap.size ≤ q → A q := fun q h => by rw [← hAe]; exact Or.inr h
  have hS : va_S A s.heap s.heap [] := va_S.rf
  have hl := lv_entry ([.int a1, .int a2, .int a3, .int a4]) (n := 4) (Nat.le_of_ble_eq_true rfl)
  rw [lg_entry_eq]
  generalize (lg_sl ([.int a1, .int a2, .int a3, .int a4]) ++ List.replicate (4 - (lg_sl ([.int a1, .int a2, .int a3, .int a4])).length) Slot.unset).toArray = ls at hl ⊢
  have hl : lv_has ls 4 [(0, .int a1), (1, .int a2), (2, .int a3), (3, .int a4)] := hl
  obtain ⟨H, hH⟩ : ∃ H, H = s.heap := ⟨_, rfl⟩
  rw [← hH] at hP
  have hS : va_S A s.heap H [] := by rw [hH]; exact hS
  suffices hgo : W p l e _ s m _ below meth c H [] 0 0 _ _ by rw [hH] at hgo; exact hgo
  unfold f_X6_caseOf at h
  refine lv_sipush (v := 1024) hx hb dX6_caseOf_0 (by decide) ?_
  refine lv_iload_n hx hb dX6_caseOf_3 rfl (lv_at hl 0 rfl) ?_
  refine lv_imul hx hb dX6_caseOf_4 ?_
  refine lv_bipush (v := 32) hx hb dX6_caseOf_5 (by decide) ?_
  refine lv_iload_n hx hb dX6_caseOf_7 rfl (lv_at hl 1 rfl) ?_
  refine lv_imul hx hb dX6_caseOf_8 ?_
  refine lv_iadd hx hb dX6_caseOf_9 ?_
  refine lv_iconst (v := 2) hx hb dX6_caseOf_10 (by decide) ?_
  refine lv_iload_n hx hb dX6_caseOf_11 rfl (lv_at hl 2 rfl) ?_
  refine lv_imul hx hb dX6_caseOf_12 ?_
  refine lv_iadd hx hb dX6_caseOf_13 ?_
  refine lv_iload_n hx hb dX6_caseOf_14 rfl (lv_at hl 3 rfl) ?_
  refine lv_iadd hx hb dX6_caseOf_15 ?_
  obtain rfl := Option.some.inj h
  exact W.iret (v := (((1024 * a1) + (32 * a2)) + (2 * a3)) + a4) hx hb hr (fun t ht9 hW => ⟨⟨_, (), rfl, rfl, zend ht9 hP⟩, hS.F ht9⟩) hS.2.2 dX6_caseOf_16
def f_X6_firstOf_L2 (fu : Nat) (K : Int32 → Option (Int32)) (v0 : Int32) : Nat → Int32 → Option (Int32)
  | 0, _ => none
  | n + 1, v1 =>
  if 12 ≤ v1 then (K v1) else (if ((v0 >>> (v1 &&& 31)) &&& 1) = 0 then (f_X6_firstOf_L2 fu K v0 n (v1 + 1)) else (K v1))
def f_X6_firstOf (fu : Nat)  (a1 : Int32) : Option (Int32) :=
  f_X6_firstOf_L2 fu (fun (x1 : Int32) => if 12 ≤ x1 then (some ((-1))) else (some (x1))) a1 fu 0
abbrev wk_X6_firstOf : List Cond := Cond.code yX6_firstOf cX6_firstOf 2 (some .int) :: WB
abbrev rm_X6_firstOf : Room := { frames := 0, cells := 0, slots := 0, locals := 0 }
set_option maxHeartbeats 4000000 in
set_option maxRecDepth 100000 in
theorem c_X6_firstOf (l : Launch) (D : va_G) (k : Nat → Nat)  (a1 : Int32) (fu : Nat) {res : Int32} (h : f_X6_firstOf fu  a1 = some res) : Ci l yX6_firstOf wk_X6_firstOf rm_X6_firstOf D k [.int a1] [] [] res := by
  unfold Ci
  intro sz
  refine Met.ofW (cc := cX6_firstOf) (maxL := 2) (ret := (some .int)) (by decide) rfl ?_
  intro p e s m args below meth c s₁ B hml hv
  obtain ⟨rfl, hsz, hP, hK, hD0, hm⟩ := hv
  have hx := B.exec
  have hb := B.bytes
  have hr := B.returns
  have ht : ∀ w ∈ WB, w.before _ s = true := fun w hw => atoms_spec (ws := wk_X6_firstOf) B.pre w (List.mem_cons_of_mem _ hw)
  have hown : s.vm.findClass RX6 = some m.cls := findClass_of_methodNamed B.named
  have hlocks := B.notSynchronized
  subst hsz
  have hD := hD0.self (sz := s.heap.size)
  generalize hAe : va_A [] s.heap.size = A at hD hm ⊢
  have hA : ∀ q : Nat, s.heap.size ≤ q → A q := fun q h => by rw [← hAe]; exact Or.inr h
  have hS : va_S A s.heap s.heap [] := va_S.rf
  have hl := lv_entry ([.int a1]) (n := 2) (Nat.le_of_ble_eq_true rfl)
  rw [lg_entry_eq]
  generalize (lg_sl ([.int a1]) ++ List.replicate (2 - (lg_sl ([.int a1])).length) Slot.unset).toArray = ls at hl ⊢
  have hl : lv_has ls 2 [(0, .int a1)] := hl
  obtain ⟨H, hH⟩ : ∃ H, H = s.heap := ⟨_, rfl⟩
  rw [← hH] at hP
  have hS : va_S A s.heap H [] := by rw [hH]; exact hS
  suffices hgo : W p l e _ s m _ below meth c H [] 0 0 _ _ by rw [hH] at hgo; exact hgo
  unfold f_X6_firstOf at h
  refine lv_iconst (v := 0) hx hb dX6_firstOf_0 (by decide) ?_
  refine lv_istore_n (lv' := [(1, .int 0), (0, .int a1)]) hx hb dX6_firstOf_1 rfl hl (by decide) rfl (fun ls hl => ?_)
  have loop2 : ∀ (v0 : Int32), ∀ (K : Int32 → Option (Int32)), (∀ (v1 : Int32), K v1 = some res → ∀ (H : Heap) (locs : List Loc), va_P D vwCl [] H → va_D A [] → va_S A s.heap H locs → ∀ ls : Array Slot, lv_has ls 2 [(0, .int v0), (1, .int v1)] → W p l e (headSpec wk_X6_firstOf rm_X6_firstOf).room s m ([.int a1] : List Value).toArray below meth c H locs 0 0 (MQ below (va_Qi (fun xq9 (_ : Unit) => xq9 = res) (fun _ tq9 => va_P D vwCl [] tq9.heap) A) ([.int a1] : List Value).toArray s 0 0 A) (F0 m 22 ls [])) → ∀ (n : Nat) (v1 : Int32), f_X6_firstOf_L2 fu K v0 n v1 = some res → ∀ (H : Heap) (locs : List Loc), va_P D vwCl [] H → va_D A [] → va_S A s.heap H locs → ∀ ls : Array Slot, lv_has ls 2 [(0, .int v0), (1, .int v1)] → W p l e (headSpec wk_X6_firstOf rm_X6_firstOf).room s m ([.int a1] : List Value).toArray below meth c H locs 0 0 (MQ below (va_Qi (fun xq9 (_ : Unit) => xq9 = res) (fun _ tq9 => va_P D vwCl [] tq9.heap) A) ([.int a1] : List Value).toArray s 0 0 A) (F0 m 2 ls []) := by
    intro v0 K hKK n
    induction n with
    | zero =>
      intro v1 h
      rw [f_X6_firstOf_L2] at h
      cases h
    | succ n ih =>
      intro v1 h H locs hP hD hS ls hl
      rw [f_X6_firstOf_L2] at h
      refine lv_iload_n hx hb dX6_firstOf_2 rfl (lv_at hl 1 rfl) ?_
      refine lv_bipush (v := 12) hx hb dX6_firstOf_3 (by decide) ?_
      refine lv_icmp_ge (tgt := 22) hx hb dX6_firstOf_5 (by decide) (fun c2 => ?_) (fun c2 => ?_)
      · have h := zt h c2
        exact hKK _ h _ _ hP hD hS _ (lv_sub hl [0, 1] rfl)
      · have h := zf h c2
        refine lv_iload_n hx hb dX6_firstOf_8 rfl (lv_at hl 0 rfl) ?_
        refine lv_iload_n hx hb dX6_firstOf_9 rfl (lv_at hl 1 rfl) ?_
        refine lv_ishr hx hb dX6_firstOf_10 ?_
        refine lv_iconst (v := 1) hx hb dX6_firstOf_11 (by decide) ?_
        refine lv_iand hx hb dX6_firstOf_12 ?_
        refine lv_if_ne (tgt := 22) hx hb dX6_firstOf_13 (by decide) (fun c1 => ?_) (fun c1 => ?_)
        · have h := zf h c1
          exact hKK _ h _ _ hP hD hS _ (lv_sub hl [0, 1] rfl)
        · have h := zt h c1
          refine lv_iinc (v := v1 + 1) (lv' := [(1, .int (v1 + 1)), (0, .int v0)]) hx hb dX6_firstOf_16 hl (k := 1) rfl rfl (by decide) rfl (fun ls hl => ?_)
          refine lv_goto (tgt := 2) hx hb dX6_firstOf_19 (by decide) ?_
          exact ih _ h _ _ hP hD hS _ (lv_sub hl [1, 0] rfl)
  refine loop2 _ _ ?_ fu _ h _ _ hP hD hS _ (lv_sub hl [1, 0] rfl)
  intro x1 h H locs hP hD hS ls hl
  try dsimp only at h
  have hP : va_P D vwCl [] H := hP
  have hD : va_D A [] := hD
  have hl : lv_has ls 2 [(0, .int a1), (1, .int x1)] := hl
  refine lv_iload_n hx hb dX6_firstOf_22 rfl (lv_at hl 1 rfl) ?_
  refine lv_bipush (v := 12) hx hb dX6_firstOf_23 (by decide) ?_
  refine lv_icmp_ge (tgt := 32) hx hb dX6_firstOf_25 (by decide) (fun c3 => ?_) (fun c3 => ?_)
  · have h := zt h c3
    refine lv_iconst (v := (-1)) hx hb dX6_firstOf_32 (by decide) ?_
    obtain rfl := Option.some.inj h
    exact W.iret (v := (-1)) hx hb hr (fun t ht9 hW => ⟨⟨_, (), rfl, rfl, zend ht9 hP⟩, hS.F ht9⟩) hS.2.2 dX6_firstOf_33
  · have h := zf h c3
    refine lv_iload_n hx hb dX6_firstOf_28 rfl (lv_at hl 1 rfl) ?_
    refine lv_goto (tgt := 33) hx hb dX6_firstOf_29 (by decide) ?_
    obtain rfl := Option.some.inj h
    exact W.iret (v := x1) hx hb hr (fun t ht9 hW => ⟨⟨_, (), rfl, rfl, zend ht9 hP⟩, hS.F ht9⟩) hS.2.2 dX6_firstOf_33
def f_X6_stageBy  (a1 : Int32) (a2 : Int32) (a3 : Int32) (a4 : Int32) : Option (Int32) :=
  if a1 = 1 then (if a2 = 1 then (if a4 = 1 then (some (2)) else (some ((-1)))) else (some ((-1)))) else (if a1 = 2 then (if a2 = 0 then (if a4 = 2 then (some (3)) else (some ((-1)))) else (some ((-1)))) else (if a1 = 3 then (if a4 = 2 then (some (3)) else (if a4 = 3 then (some (4)) else (some ((-1))))) else (if a1 = 4 then (if a2 = a3 then (some ((-1))) else (if a4 = 2 then (some (4)) else (if a4 = 3 then (some (5)) else (some ((-1)))))) else (if a1 = 5 then (some ((-1))) else (if a1 = 6 then (if a4 = 2 then (if a2 = 1 then (some (7)) else (some (6))) else (some ((-1)))) else (if a1 = 7 then (if a4 = 2 then (some (7)) else (some ((-1)))) else (some ((-1)))))))))
abbrev wk_X6_stageBy : List Cond := Cond.code yX6_stageBy cX6_stageBy 4 (some .int) :: WB
abbrev rm_X6_stageBy : Room := { frames := 0, cells := 0, slots := 0, locals := 0 }
set_option maxHeartbeats 4000000 in
set_option maxRecDepth 100000 in
theorem c_X6_stageBy (l : Launch) (D : va_G) (k : Nat → Nat)  (a1 : Int32) (a2 : Int32) (a3 : Int32) (a4 : Int32) {res : Int32} (h : f_X6_stageBy  a1 a2 a3 a4 = some res) : Ci l yX6_stageBy wk_X6_stageBy rm_X6_stageBy D k [.int a1, .int a2, .int a3, .int a4] [] [] res := by
  unfold Ci
  intro sz
  refine Met.ofW (cc := cX6_stageBy) (maxL := 4) (ret := (some .int)) (by decide) rfl ?_
  intro p e s m args below meth c s₁ B hml hv
  obtain ⟨rfl, hsz, hP, hK, hD0, hm⟩ := hv
  have hx := B.exec
  have hb := B.bytes
  have hr := B.returns
  have ht : ∀ w ∈ WB, w.before _ s = true := fun w hw => atoms_spec (ws := wk_X6_stageBy) B.pre w (List.mem_cons_of_mem _ hw)
  have hown : s.vm.findClass RX6 = some m.cls := findClass_of_methodNamed B.named
  have hlocks := B.notSynchronized
  subst hsz
  have hD := hD0.self (sz := s.heap.size)
  generalize hAe : va_A [] s.heap.size = A at hD hm ⊢
  have hA : ∀ q : Nat, s.heap.size ≤ q → A q := fun q h => by rw [← hAe]; exact Or.inr h
  have hS : va_S A s.heap s.heap [] := va_S.rf
  have hl := lv_entry ([.int a1, .int a2, .int a3, .int a4]) (n := 4) (Nat.le_of_ble_eq_true rfl)
  rw [lg_entry_eq]
  generalize (lg_sl ([.int a1, .int a2, .int a3, .int a4]) ++ List.replicate (4 - (lg_sl ([.int a1, .int a2, .int a3, .int a4])).length) Slot.unset).toArray = ls at hl ⊢
  have hl : lv_has ls 4 [(0, .int a1), (1, .int a2), (2, .int a3), (3, .int a4)] := hl
  obtain ⟨H, hH⟩ : ∃ H, H = s.heap := ⟨_, rfl⟩
  rw [← hH] at hP
  have hS : va_S A s.heap H [] := by rw [hH]; exact hS
  suffices hgo : W p l e _ s m _ below meth c H [] 0 0 _ _ by rw [hH] at hgo; exact hgo
  unfold f_X6_stageBy at h
  refine lv_iload_n hx hb dX6_stageBy_0 rfl (lv_at hl 0 rfl) ?_
  by_cases c1 : a1 = 1
  · have h := zt h c1
    refine lv_tableIn (off := 43) (tgt := 44) hx hb dX6_stageBy_1 (by rw [c1]; decide) (by rw [c1]; decide) (by rw [c1]; rfl) (by decide) ?_
    refine lv_iload_n hx hb dX6_stageBy_44 rfl (lv_at hl 1 rfl) ?_
    refine lv_iconst (v := 1) hx hb dX6_stageBy_45 (by decide) ?_
    refine lv_icmp_ne (tgt := 58) hx hb dX6_stageBy_46 (by decide) (fun c19 => ?_) (fun c19 => ?_)
    · have h := zf h c19
      refine lv_iconst (v := (-1)) hx hb dX6_stageBy_58 (by decide) ?_
      obtain rfl := Option.some.inj h
      exact W.iret (v := (-1)) hx hb hr (fun t ht9 hW => ⟨⟨_, (), rfl, rfl, zend ht9 hP⟩, hS.F ht9⟩) hS.2.2 dX6_stageBy_59
    · have h := zt h c19
      refine lv_iload_n hx hb dX6_stageBy_49 rfl (lv_at hl 3 rfl) ?_
      refine lv_iconst (v := 1) hx hb dX6_stageBy_50 (by decide) ?_
      refine lv_icmp_ne (tgt := 58) hx hb dX6_stageBy_51 (by decide) (fun c18 => ?_) (fun c18 => ?_)
      · have h := zf h c18
        refine lv_iconst (v := (-1)) hx hb dX6_stageBy_58 (by decide) ?_
        obtain rfl := Option.some.inj h
        exact W.iret (v := (-1)) hx hb hr (fun t ht9 hW => ⟨⟨_, (), rfl, rfl, zend ht9 hP⟩, hS.F ht9⟩) hS.2.2 dX6_stageBy_59
      · have h := zt h c18
        refine lv_iconst (v := 2) hx hb dX6_stageBy_54 (by decide) ?_
        refine lv_goto (tgt := 59) hx hb dX6_stageBy_55 (by decide) ?_
        obtain rfl := Option.some.inj h
        exact W.iret (v := 2) hx hb hr (fun t ht9 hW => ⟨⟨_, (), rfl, rfl, zend ht9 hP⟩, hS.F ht9⟩) hS.2.2 dX6_stageBy_59
  · have h := zf h c1
    by_cases c2 : a1 = 2
    · have h := zt h c2
      refine lv_tableIn (off := 59) (tgt := 60) hx hb dX6_stageBy_1 (by rw [c2]; decide) (by rw [c2]; decide) (by rw [c2]; rfl) (by decide) ?_
      refine lv_iload_n hx hb dX6_stageBy_60 rfl (lv_at hl 1 rfl) ?_
      refine lv_if_ne (tgt := 73) hx hb dX6_stageBy_61 (by decide) (fun c17 => ?_) (fun c17 => ?_)
      · have h := zf h c17
        refine lv_iconst (v := (-1)) hx hb dX6_stageBy_73 (by decide) ?_
        obtain rfl := Option.some.inj h
        exact W.iret (v := (-1)) hx hb hr (fun t ht9 hW => ⟨⟨_, (), rfl, rfl, zend ht9 hP⟩, hS.F ht9⟩) hS.2.2 dX6_stageBy_74
      · have h := zt h c17
        refine lv_iload_n hx hb dX6_stageBy_64 rfl (lv_at hl 3 rfl) ?_
        refine lv_iconst (v := 2) hx hb dX6_stageBy_65 (by decide) ?_
        refine lv_icmp_ne (tgt := 73) hx hb dX6_stageBy_66 (by decide) (fun c16 => ?_) (fun c16 => ?_)
        · have h := zf h c16
          refine lv_iconst (v := (-1)) hx hb dX6_stageBy_73 (by decide) ?_
          obtain rfl := Option.some.inj h
          exact W.iret (v := (-1)) hx hb hr (fun t ht9 hW => ⟨⟨_, (), rfl, rfl, zend ht9 hP⟩, hS.F ht9⟩) hS.2.2 dX6_stageBy_74
        · have h := zt h c16
          refine lv_iconst (v := 3) hx hb dX6_stageBy_69 (by decide) ?_
          refine lv_goto (tgt := 74) hx hb dX6_stageBy_70 (by decide) ?_
          obtain rfl := Option.some.inj h
          exact W.iret (v := 3) hx hb hr (fun t ht9 hW => ⟨⟨_, (), rfl, rfl, zend ht9 hP⟩, hS.F ht9⟩) hS.2.2 dX6_stageBy_74
    · have h := zf h c2
      by_cases c3 : a1 = 3
      · have h := zt h c3
        refine lv_tableIn (off := 74) (tgt := 75) hx hb dX6_stageBy_1 (by rw [c3]; decide) (by rw [c3]; decide) (by rw [c3]; rfl) (by decide) ?_
        refine lv_iload_n hx hb dX6_stageBy_75 rfl (lv_at hl 3 rfl) ?_
        refine lv_iconst (v := 2) hx hb dX6_stageBy_76 (by decide) ?_
        refine lv_icmp_ne (tgt := 84) hx hb dX6_stageBy_77 (by decide) (fun c15 => ?_) (fun c15 => ?_)
        · have h := zf h c15
          refine lv_iload_n hx hb dX6_stageBy_84 rfl (lv_at hl 3 rfl) ?_
          refine lv_iconst (v := 3) hx hb dX6_stageBy_85 (by decide) ?_
          refine lv_icmp_ne (tgt := 93) hx hb dX6_stageBy_86 (by decide) (fun c14 => ?_) (fun c14 => ?_)
          · have h := zf h c14
            refine lv_iconst (v := (-1)) hx hb dX6_stageBy_93 (by decide) ?_
            obtain rfl := Option.some.inj h
            exact W.iret (v := (-1)) hx hb hr (fun t ht9 hW => ⟨⟨_, (), rfl, rfl, zend ht9 hP⟩, hS.F ht9⟩) hS.2.2 dX6_stageBy_94
          · have h := zt h c14
            refine lv_iconst (v := 4) hx hb dX6_stageBy_89 (by decide) ?_
            refine lv_goto (tgt := 94) hx hb dX6_stageBy_90 (by decide) ?_
            obtain rfl := Option.some.inj h
            exact W.iret (v := 4) hx hb hr (fun t ht9 hW => ⟨⟨_, (), rfl, rfl, zend ht9 hP⟩, hS.F ht9⟩) hS.2.2 dX6_stageBy_94
        · have h := zt h c15
          refine lv_iconst (v := 3) hx hb dX6_stageBy_80 (by decide) ?_
          refine lv_goto (tgt := 94) hx hb dX6_stageBy_81 (by decide) ?_
          obtain rfl := Option.some.inj h
          exact W.iret (v := 3) hx hb hr (fun t ht9 hW => ⟨⟨_, (), rfl, rfl, zend ht9 hP⟩, hS.F ht9⟩) hS.2.2 dX6_stageBy_94
      · have h := zf h c3
        by_cases c4 : a1 = 4
        · have h := zt h c4
          refine lv_tableIn (off := 94) (tgt := 95) hx hb dX6_stageBy_1 (by rw [c4]; decide) (by rw [c4]; decide) (by rw [c4]; rfl) (by decide) ?_
          refine lv_iload_n hx hb dX6_stageBy_95 rfl (lv_at hl 1 rfl) ?_
          refine lv_iload_n hx hb dX6_stageBy_96 rfl (lv_at hl 2 rfl) ?_
          refine lv_icmp_ne (tgt := 104) hx hb dX6_stageBy_97 (by decide) (fun c13 => ?_) (fun c13 => ?_)
          · have h := zf h c13
            refine lv_iload_n hx hb dX6_stageBy_104 rfl (lv_at hl 3 rfl) ?_
            refine lv_iconst (v := 2) hx hb dX6_stageBy_105 (by decide) ?_
            refine lv_icmp_ne (tgt := 113) hx hb dX6_stageBy_106 (by decide) (fun c12 => ?_) (fun c12 => ?_)
            · have h := zf h c12
              refine lv_iload_n hx hb dX6_stageBy_113 rfl (lv_at hl 3 rfl) ?_
              refine lv_iconst (v := 3) hx hb dX6_stageBy_114 (by decide) ?_
              refine lv_icmp_ne (tgt := 122) hx hb dX6_stageBy_115 (by decide) (fun c11 => ?_) (fun c11 => ?_)
              · have h := zf h c11
                refine lv_iconst (v := (-1)) hx hb dX6_stageBy_122 (by decide) ?_
                obtain rfl := Option.some.inj h
                exact W.iret (v := (-1)) hx hb hr (fun t ht9 hW => ⟨⟨_, (), rfl, rfl, zend ht9 hP⟩, hS.F ht9⟩) hS.2.2 dX6_stageBy_123
              · have h := zt h c11
                refine lv_iconst (v := 5) hx hb dX6_stageBy_118 (by decide) ?_
                refine lv_goto (tgt := 123) hx hb dX6_stageBy_119 (by decide) ?_
                obtain rfl := Option.some.inj h
                exact W.iret (v := 5) hx hb hr (fun t ht9 hW => ⟨⟨_, (), rfl, rfl, zend ht9 hP⟩, hS.F ht9⟩) hS.2.2 dX6_stageBy_123
            · have h := zt h c12
              refine lv_iconst (v := 4) hx hb dX6_stageBy_109 (by decide) ?_
              refine lv_goto (tgt := 123) hx hb dX6_stageBy_110 (by decide) ?_
              obtain rfl := Option.some.inj h
              exact W.iret (v := 4) hx hb hr (fun t ht9 hW => ⟨⟨_, (), rfl, rfl, zend ht9 hP⟩, hS.F ht9⟩) hS.2.2 dX6_stageBy_123
          · have h := zt h c13
            refine lv_iconst (v := (-1)) hx hb dX6_stageBy_100 (by decide) ?_
            refine lv_goto (tgt := 123) hx hb dX6_stageBy_101 (by decide) ?_
            obtain rfl := Option.some.inj h
            exact W.iret (v := (-1)) hx hb hr (fun t ht9 hW => ⟨⟨_, (), rfl, rfl, zend ht9 hP⟩, hS.F ht9⟩) hS.2.2 dX6_stageBy_123
        · have h := zf h c4
          by_cases c5 : a1 = 5
          · have h := zt h c5
            refine lv_tableIn (off := 157) (tgt := 158) hx hb dX6_stageBy_1 (by rw [c5]; decide) (by rw [c5]; decide) (by rw [c5]; rfl) (by decide) ?_
            refine lv_iconst (v := (-1)) hx hb dX6_stageBy_158 (by decide) ?_
            obtain rfl := Option.some.inj h
            exact W.iret (v := (-1)) hx hb hr (fun t ht9 hW => ⟨⟨_, (), rfl, rfl, zend ht9 hP⟩, hS.F ht9⟩) hS.2.2 dX6_stageBy_159
          · have h := zf h c5
            by_cases c6 : a1 = 6
            · have h := zt h c6
              refine lv_tableIn (off := 123) (tgt := 124) hx hb dX6_stageBy_1 (by rw [c6]; decide) (by rw [c6]; decide) (by rw [c6]; rfl) (by decide) ?_
              refine lv_iload_n hx hb dX6_stageBy_124 rfl (lv_at hl 3 rfl) ?_
              refine lv_iconst (v := 2) hx hb dX6_stageBy_125 (by decide) ?_
              refine lv_icmp_eq (tgt := 133) hx hb dX6_stageBy_126 (by decide) (fun c10 => ?_) (fun c10 => ?_)
              · have h := zt h c10
                refine lv_iload_n hx hb dX6_stageBy_133 rfl (lv_at hl 1 rfl) ?_
                refine lv_iconst (v := 1) hx hb dX6_stageBy_134 (by decide) ?_
                refine lv_icmp_ne (tgt := 143) hx hb dX6_stageBy_135 (by decide) (fun c9 => ?_) (fun c9 => ?_)
                · have h := zf h c9
                  refine lv_bipush (v := 6) hx hb dX6_stageBy_143 (by decide) ?_
                  obtain rfl := Option.some.inj h
                  exact W.iret (v := 6) hx hb hr (fun t ht9 hW => ⟨⟨_, (), rfl, rfl, zend ht9 hP⟩, hS.F ht9⟩) hS.2.2 dX6_stageBy_145
                · have h := zt h c9
                  refine lv_bipush (v := 7) hx hb dX6_stageBy_138 (by decide) ?_
                  refine lv_goto (tgt := 145) hx hb dX6_stageBy_140 (by decide) ?_
                  obtain rfl := Option.some.inj h
                  exact W.iret (v := 7) hx hb hr (fun t ht9 hW => ⟨⟨_, (), rfl, rfl, zend ht9 hP⟩, hS.F ht9⟩) hS.2.2 dX6_stageBy_145
              · have h := zf h c10
                refine lv_iconst (v := (-1)) hx hb dX6_stageBy_129 (by decide) ?_
                refine lv_goto (tgt := 145) hx hb dX6_stageBy_130 (by decide) ?_
                obtain rfl := Option.some.inj h
                exact W.iret (v := (-1)) hx hb hr (fun t ht9 hW => ⟨⟨_, (), rfl, rfl, zend ht9 hP⟩, hS.F ht9⟩) hS.2.2 dX6_stageBy_145
            · have h := zf h c6
              by_cases c7 : a1 = 7
              · have h := zt h c7
                refine lv_tableIn (off := 145) (tgt := 146) hx hb dX6_stageBy_1 (by rw [c7]; decide) (by rw [c7]; decide) (by rw [c7]; rfl) (by decide) ?_
                refine lv_iload_n hx hb dX6_stageBy_146 rfl (lv_at hl 3 rfl) ?_
                refine lv_iconst (v := 2) hx hb dX6_stageBy_147 (by decide) ?_
                refine lv_icmp_ne (tgt := 156) hx hb dX6_stageBy_148 (by decide) (fun c8 => ?_) (fun c8 => ?_)
                · have h := zf h c8
                  refine lv_iconst (v := (-1)) hx hb dX6_stageBy_156 (by decide) ?_
                  obtain rfl := Option.some.inj h
                  exact W.iret (v := (-1)) hx hb hr (fun t ht9 hW => ⟨⟨_, (), rfl, rfl, zend ht9 hP⟩, hS.F ht9⟩) hS.2.2 dX6_stageBy_157
                · have h := zt h c8
                  refine lv_bipush (v := 7) hx hb dX6_stageBy_151 (by decide) ?_
                  refine lv_goto (tgt := 157) hx hb dX6_stageBy_153 (by decide) ?_
                  obtain rfl := Option.some.inj h
                  exact W.iret (v := 7) hx hb hr (fun t ht9 hW => ⟨⟨_, (), rfl, rfl, zend ht9 hP⟩, hS.F ht9⟩) hS.2.2 dX6_stageBy_157
              · have h := zf h c7
                refine lv_tableOut (tgt := 158) hx hb dX6_stageBy_1 (by have e0 : (Int32.toInt a1) ≠ 1 := fun q => c1 (Int32.toInt_inj.mp (by rw [q]; rfl)); have e1 : (Int32.toInt a1) ≠ 2 := fun q => c2 (Int32.toInt_inj.mp (by rw [q]; rfl)); have e2 : (Int32.toInt a1) ≠ 3 := fun q => c3 (Int32.toInt_inj.mp (by rw [q]; rfl)); have e3 : (Int32.toInt a1) ≠ 4 := fun q => c4 (Int32.toInt_inj.mp (by rw [q]; rfl)); have e4 : (Int32.toInt a1) ≠ 5 := fun q => c5 (Int32.toInt_inj.mp (by rw [q]; rfl)); have e5 : (Int32.toInt a1) ≠ 6 := fun q => c6 (Int32.toInt_inj.mp (by rw [q]; rfl)); have e6 : (Int32.toInt a1) ≠ 7 := fun q => c7 (Int32.toInt_inj.mp (by rw [q]; rfl)); omega) (by decide) ?_
                refine lv_iconst (v := (-1)) hx hb dX6_stageBy_158 (by decide) ?_
                obtain rfl := Option.some.inj h
                exact W.iret (v := (-1)) hx hb hr (fun t ht9 hW => ⟨⟨_, (), rfl, rfl, zend ht9 hP⟩, hS.F ht9⟩) hS.2.2 dX6_stageBy_159
def f_X6_begins_L2 (fu : Nat) (K : Int32 → (Nat → Int32) → Option ((Nat → Int32))) (v1 : Int32) (wn : Nat) : Nat → Int32 → (Nat → Int32) → Option ((Nat → Int32))
  | 0, _, _ => none
  | n + 1, v3, wf =>
  if 11 ≤ v3 then (K v3 wf) else (if zok (v1 + v3) wn then (f_X6_begins_L2 fu K v1 wn n (v3 + 1) (upd wf (Int32.toNatClampNeg (v1 + v3)) 0)) else none)
def f_X6_begins (fu : Nat) (wn : Nat) (wf : Nat → Int32) (a1 : Int32) (a2 : Int32) : Option ((Nat → Int32)) :=
  f_X6_begins_L2 fu (fun (x1 : Int32) (x2 : Nat → Int32) => if zok (a1 + 0) wn then (if zok (a1 + 1) wn then (if zok (a1 + 3) wn then (if zok (a1 + 5) wn then (if zok (a1 + 7) wn then (if zok (a1 + 8) wn then (if zok (a1 + 9) wn then (some (upd (upd (upd (upd (upd (upd (upd x2 (Int32.toNatClampNeg (a1 + 0)) 6) (Int32.toNatClampNeg (a1 + 1)) 6) (Int32.toNatClampNeg (a1 + 3)) 31) (Int32.toNatClampNeg (a1 + 5)) 31) (Int32.toNatClampNeg (a1 + 7)) 15) (Int32.toNatClampNeg (a1 + 8)) 2) (Int32.toNatClampNeg (a1 + 9)) a2)) else none) else none) else none) else none) else none) else none) else none) a1 wn fu 0 wf
abbrev wk_X6_begins : List Cond := Cond.code yX6_begins cX6_begins 4 none :: WB
abbrev rm_X6_begins : Room := { frames := 0, cells := 0, slots := 0, locals := 0 }
set_option maxHeartbeats 4000000 in
set_option maxRecDepth 100000 in
theorem c_X6_begins (l : Launch) (D : va_G) (k : Nat → Nat) (w : Nat) (wn : Nat) (wf : Nat → Int32) (a1 : Int32) (a2 : Int32) (fu : Nat) {res : (Nat → Int32)} (h : f_X6_begins fu wn wf a1 a2 = some res) : Cv l yX6_begins wk_X6_begins rm_X6_begins D k [.ref w, .int a1, .int a2] [(w, .inl (k 0, wn, .inl wf))] [(w, .inl (k 0, wn, .inl res))] := by
  unfold Cv
  intro sz
  refine Met.ofW (cc := cX6_begins) (maxL := 4) (ret := none) (by decide) rfl ?_
  intro p e s m args below meth c s₁ B hml hv
  obtain ⟨rfl, hsz, hP, hK, hD0, hm⟩ := hv
  have hx := B.exec
  have hb := B.bytes
  have hr := B.returns
  have ht : ∀ w ∈ WB, w.before _ s = true := fun w hw => atoms_spec (ws := wk_X6_begins) B.pre w (List.mem_cons_of_mem _ hw)
  have hown : s.vm.findClass RX6 = some m.cls := findClass_of_methodNamed B.named
  have hlocks := B.notSynchronized
  subst hsz
  have hD := hD0.self (sz := s.heap.size)
  generalize hAe : va_A [(w, .inl (k 0, wn, .inl wf))] s.heap.size = A at hD hm ⊢
  have hA : ∀ q : Nat, s.heap.size ≤ q → A q := fun q h => by rw [← hAe]; exact Or.inr h
  have hS : va_S A s.heap s.heap [] := va_S.rf
  have hl := lv_entry ([.ref w, .int a1, .int a2]) (n := 4) (Nat.le_of_ble_eq_true rfl)
  rw [lg_entry_eq]
  generalize (lg_sl ([.ref w, .int a1, .int a2]) ++ List.replicate (4 - (lg_sl ([.ref w, .int a1, .int a2])).length) Slot.unset).toArray = ls at hl ⊢
  have hl : lv_has ls 4 [(0, .ref w), (1, .int a1), (2, .int a2)] := hl
  obtain ⟨H, hH⟩ : ∃ H, H = s.heap := ⟨_, rfl⟩
  rw [← hH] at hP
  have hS : va_S A s.heap H [] := by rw [hH]; exact hS
  suffices hgo : W p l e _ s m _ below meth c H [] 0 0 _ _ by rw [hH] at hgo; exact hgo
  unfold f_X6_begins at h
  refine lv_iconst (v := 0) hx hb dX6_begins_0 (by decide) ?_
  refine lv_istore_n (lv' := [(3, .int 0), (0, .ref w), (1, .int a1), (2, .int a2)]) hx hb dX6_begins_1 rfl hl (by decide) rfl (fun ls hl => ?_)
  have loop2 : ∀ (v1 : Int32) (v2 : Int32) (wn : Nat), ∀ (K : Int32 → (Nat → Int32) → Option ((Nat → Int32))), (∀ (v3 : Int32) (wf : Nat → Int32), K v3 wf = some res → ∀ (H : Heap) (locs : List Loc), va_P D vwCl [(w, .inl (k 0, wn, .inl wf))] H → va_D A [(w, .inl (k 0, wn, .inl wf))] → va_S A s.heap H locs → ∀ ls : Array Slot, lv_has ls 4 [(0, .ref w), (1, .int v1), (2, .int v2), (3, .int v3)] → W p l e (headSpec wk_X6_begins rm_X6_begins).room s m ([.ref w, .int a1, .int a2] : List Value).toArray below meth c H locs 0 0 (MQ below (va_Qv (fun (_ : Unit) => True) (fun _ tq9 => va_P D vwCl [(w, .inl (k 0, wn, .inl res))] tq9.heap) A) ([.ref w, .int a1, .int a2] : List Value).toArray s 0 0 A) (F0 m 20 ls [])) → ∀ (n : Nat) (v3 : Int32) (wf : Nat → Int32), f_X6_begins_L2 fu K v1 wn n v3 wf = some res → ∀ (H : Heap) (locs : List Loc), va_P D vwCl [(w, .inl (k 0, wn, .inl wf))] H → va_D A [(w, .inl (k 0, wn, .inl wf))] → va_S A s.heap H locs → ∀ ls : Array Slot, lv_has ls 4 [(0, .ref w), (1, .int v1), (2, .int v2), (3, .int v3)] → W p l e (headSpec wk_X6_begins rm_X6_begins).room s m ([.ref w, .int a1, .int a2] : List Value).toArray below meth c H locs 0 0 (MQ below (va_Qv (fun (_ : Unit) => True) (fun _ tq9 => va_P D vwCl [(w, .inl (k 0, wn, .inl res))] tq9.heap) A) ([.ref w, .int a1, .int a2] : List Value).toArray s 0 0 A) (F0 m 2 ls []) := by
    intro v1 v2 wn K hKK n
    induction n with
    | zero =>
      intro v3 wf h
      rw [f_X6_begins_L2] at h
      cases h
    | succ n ih =>
      intro v3 wf h H locs hP hD hS ls hl
      rw [f_X6_begins_L2] at h
      refine lv_iload_n hx hb dX6_begins_2 rfl (lv_at hl 3 rfl) ?_
      refine lv_bipush (v := 11) hx hb dX6_begins_3 (by decide) ?_
      refine lv_icmp_ge (tgt := 20) hx hb dX6_begins_5 (by decide) (fun c1 => ?_) (fun c1 => ?_)
      · have h := zt h c1
        exact hKK _ _ h _ _ hP hD hS _ (lv_sub hl [0, 1, 2, 3] rfl)
      · have h := zf h c1
        refine lv_aload_n hx hb dX6_begins_8 rfl (lv_at hl 0 rfl) ?_
        refine lv_iload_n hx hb dX6_begins_9 rfl (lv_at hl 1 rfl) ?_
        refine lv_iload_n hx hb dX6_begins_10 rfl (lv_at hl 3 rfl) ?_
        refine lv_iadd hx hb dX6_begins_11 ?_
        refine lv_iconst (v := 0) hx hb dX6_begins_12 (by decide) ?_
        obtain ⟨hi1, h⟩ := zg h
        refine va_iast hx hb hK hP hD hS 0 0 rfl rfl hi1 dX6_begins_13 (fun H locs hP hD hS => ?_)
        have hP : va_P D vwCl [(w, .inl (k 0, wn, .inl (upd wf (Int32.toNatClampNeg (v1 + v3)) 0)))] H := hP
        have hD : va_D A [(w, .inl (k 0, wn, .inl (upd wf (Int32.toNatClampNeg (v1 + v3)) 0)))] := hD
        refine lv_iinc (v := v3 + 1) (lv' := [(3, .int (v3 + 1)), (0, .ref w), (1, .int v1), (2, .int v2)]) hx hb dX6_begins_14 hl (k := 3) rfl rfl (by decide) rfl (fun ls hl => ?_)
        refine lv_goto (tgt := 2) hx hb dX6_begins_17 (by decide) ?_
        exact ih _ _ h _ _ hP hD hS _ (lv_sub hl [1, 2, 3, 0] rfl)
  refine loop2 _ _ _ _ ?_ fu _ _ h _ _ hP hD hS _ (lv_sub hl [1, 2, 3, 0] rfl)
  intro x1 x2 h H locs hP hD hS ls hl
  try dsimp only at h
  have hP : va_P D vwCl [(w, .inl (k 0, wn, .inl x2))] H := hP
  have hD : va_D A [(w, .inl (k 0, wn, .inl x2))] := hD
  have hl : lv_has ls 4 [(0, .ref w), (1, .int a1), (2, .int a2), (3, .int x1)] := hl
  refine lv_aload_n hx hb dX6_begins_20 rfl (lv_at hl 0 rfl) ?_
  refine lv_iload_n hx hb dX6_begins_21 rfl (lv_at hl 1 rfl) ?_
  refine lv_iconst (v := 0) hx hb dX6_begins_22 (by decide) ?_
  refine lv_iadd hx hb dX6_begins_23 ?_
  refine lv_bipush (v := 6) hx hb dX6_begins_24 (by decide) ?_
  obtain ⟨hi2, h⟩ := zg h
  refine va_iast hx hb hK hP hD hS 0 0 rfl rfl hi2 dX6_begins_26 (fun H locs hP hD hS => ?_)
  have hP : va_P D vwCl [(w, .inl (k 0, wn, .inl (upd x2 (Int32.toNatClampNeg (a1 + 0)) 6)))] H := hP
  have hD : va_D A [(w, .inl (k 0, wn, .inl (upd x2 (Int32.toNatClampNeg (a1 + 0)) 6)))] := hD
  refine lv_aload_n hx hb dX6_begins_27 rfl (lv_at hl 0 rfl) ?_
  refine lv_iload_n hx hb dX6_begins_28 rfl (lv_at hl 1 rfl) ?_
  refine lv_iconst (v := 1) hx hb dX6_begins_29 (by decide) ?_
  refine lv_iadd hx hb dX6_begins_30 ?_
  refine lv_bipush (v := 6) hx hb dX6_begins_31 (by decide) ?_
  obtain ⟨hi3, h⟩ := zg h
  refine va_iast hx hb hK hP hD hS 0 0 rfl rfl hi3 dX6_begins_33 (fun H locs hP hD hS => ?_)
  have hP : va_P D vwCl [(w, .inl (k 0, wn, .inl (upd (upd x2 (Int32.toNatClampNeg (a1 + 0)) 6) (Int32.toNatClampNeg (a1 + 1)) 6)))] H := hP
  have hD : va_D A [(w, .inl (k 0, wn, .inl (upd (upd x2 (Int32.toNatClampNeg (a1 + 0)) 6) (Int32.toNatClampNeg (a1 + 1)) 6)))] := hD
  refine lv_aload_n hx hb dX6_begins_34 rfl (lv_at hl 0 rfl) ?_
  refine lv_iload_n hx hb dX6_begins_35 rfl (lv_at hl 1 rfl) ?_
  refine lv_iconst (v := 3) hx hb dX6_begins_36 (by decide) ?_
  refine lv_iadd hx hb dX6_begins_37 ?_
  refine lv_bipush (v := 31) hx hb dX6_begins_38 (by decide) ?_
  obtain ⟨hi4, h⟩ := zg h
  refine va_iast hx hb hK hP hD hS 0 0 rfl rfl hi4 dX6_begins_40 (fun H locs hP hD hS => ?_)
  have hP : va_P D vwCl [(w, .inl (k 0, wn, .inl (upd (upd (upd x2 (Int32.toNatClampNeg (a1 + 0)) 6) (Int32.toNatClampNeg (a1 + 1)) 6) (Int32.toNatClampNeg (a1 + 3)) 31)))] H := hP
  have hD : va_D A [(w, .inl (k 0, wn, .inl (upd (upd (upd x2 (Int32.toNatClampNeg (a1 + 0)) 6) (Int32.toNatClampNeg (a1 + 1)) 6) (Int32.toNatClampNeg (a1 + 3)) 31)))] := hD
  refine lv_aload_n hx hb dX6_begins_41 rfl (lv_at hl 0 rfl) ?_
  refine lv_iload_n hx hb dX6_begins_42 rfl (lv_at hl 1 rfl) ?_
  refine lv_iconst (v := 5) hx hb dX6_begins_43 (by decide) ?_
  refine lv_iadd hx hb dX6_begins_44 ?_
  refine lv_bipush (v := 31) hx hb dX6_begins_45 (by decide) ?_
  obtain ⟨hi5, h⟩ := zg h
  refine va_iast hx hb hK hP hD hS 0 0 rfl rfl hi5 dX6_begins_47 (fun H locs hP hD hS => ?_)
  have hP : va_P D vwCl [(w, .inl (k 0, wn, .inl (upd (upd (upd (upd x2 (Int32.toNatClampNeg (a1 + 0)) 6) (Int32.toNatClampNeg (a1 + 1)) 6) (Int32.toNatClampNeg (a1 + 3)) 31) (Int32.toNatClampNeg (a1 + 5)) 31)))] H := hP
  have hD : va_D A [(w, .inl (k 0, wn, .inl (upd (upd (upd (upd x2 (Int32.toNatClampNeg (a1 + 0)) 6) (Int32.toNatClampNeg (a1 + 1)) 6) (Int32.toNatClampNeg (a1 + 3)) 31) (Int32.toNatClampNeg (a1 + 5)) 31)))] := hD
  refine lv_aload_n hx hb dX6_begins_48 rfl (lv_at hl 0 rfl) ?_
  refine lv_iload_n hx hb dX6_begins_49 rfl (lv_at hl 1 rfl) ?_
  refine lv_bipush (v := 7) hx hb dX6_begins_50 (by decide) ?_
  refine lv_iadd hx hb dX6_begins_52 ?_
  refine lv_bipush (v := 15) hx hb dX6_begins_53 (by decide) ?_
  obtain ⟨hi6, h⟩ := zg h
  refine va_iast hx hb hK hP hD hS 0 0 rfl rfl hi6 dX6_begins_55 (fun H locs hP hD hS => ?_)
  have hP : va_P D vwCl [(w, .inl (k 0, wn, .inl (upd (upd (upd (upd (upd x2 (Int32.toNatClampNeg (a1 + 0)) 6) (Int32.toNatClampNeg (a1 + 1)) 6) (Int32.toNatClampNeg (a1 + 3)) 31) (Int32.toNatClampNeg (a1 + 5)) 31) (Int32.toNatClampNeg (a1 + 7)) 15)))] H := hP
  have hD : va_D A [(w, .inl (k 0, wn, .inl (upd (upd (upd (upd (upd x2 (Int32.toNatClampNeg (a1 + 0)) 6) (Int32.toNatClampNeg (a1 + 1)) 6) (Int32.toNatClampNeg (a1 + 3)) 31) (Int32.toNatClampNeg (a1 + 5)) 31) (Int32.toNatClampNeg (a1 + 7)) 15)))] := hD
  refine lv_aload_n hx hb dX6_begins_56 rfl (lv_at hl 0 rfl) ?_
  refine lv_iload_n hx hb dX6_begins_57 rfl (lv_at hl 1 rfl) ?_
  refine lv_bipush (v := 8) hx hb dX6_begins_58 (by decide) ?_
  refine lv_iadd hx hb dX6_begins_60 ?_
  refine lv_iconst (v := 2) hx hb dX6_begins_61 (by decide) ?_
  obtain ⟨hi7, h⟩ := zg h
  refine va_iast hx hb hK hP hD hS 0 0 rfl rfl hi7 dX6_begins_62 (fun H locs hP hD hS => ?_)
  have hP : va_P D vwCl [(w, .inl (k 0, wn, .inl (upd (upd (upd (upd (upd (upd x2 (Int32.toNatClampNeg (a1 + 0)) 6) (Int32.toNatClampNeg (a1 + 1)) 6) (Int32.toNatClampNeg (a1 + 3)) 31) (Int32.toNatClampNeg (a1 + 5)) 31) (Int32.toNatClampNeg (a1 + 7)) 15) (Int32.toNatClampNeg (a1 + 8)) 2)))] H := hP
  have hD : va_D A [(w, .inl (k 0, wn, .inl (upd (upd (upd (upd (upd (upd x2 (Int32.toNatClampNeg (a1 + 0)) 6) (Int32.toNatClampNeg (a1 + 1)) 6) (Int32.toNatClampNeg (a1 + 3)) 31) (Int32.toNatClampNeg (a1 + 5)) 31) (Int32.toNatClampNeg (a1 + 7)) 15) (Int32.toNatClampNeg (a1 + 8)) 2)))] := hD
  refine lv_aload_n hx hb dX6_begins_63 rfl (lv_at hl 0 rfl) ?_
  refine lv_iload_n hx hb dX6_begins_64 rfl (lv_at hl 1 rfl) ?_
  refine lv_bipush (v := 9) hx hb dX6_begins_65 (by decide) ?_
  refine lv_iadd hx hb dX6_begins_67 ?_
  refine lv_iload_n hx hb dX6_begins_68 rfl (lv_at hl 2 rfl) ?_
  obtain ⟨hi8, h⟩ := zg h
  refine va_iast hx hb hK hP hD hS 0 0 rfl rfl hi8 dX6_begins_69 (fun H locs hP hD hS => ?_)
  have hP : va_P D vwCl [(w, .inl (k 0, wn, .inl (upd (upd (upd (upd (upd (upd (upd x2 (Int32.toNatClampNeg (a1 + 0)) 6) (Int32.toNatClampNeg (a1 + 1)) 6) (Int32.toNatClampNeg (a1 + 3)) 31) (Int32.toNatClampNeg (a1 + 5)) 31) (Int32.toNatClampNeg (a1 + 7)) 15) (Int32.toNatClampNeg (a1 + 8)) 2) (Int32.toNatClampNeg (a1 + 9)) a2)))] H := hP
  have hD : va_D A [(w, .inl (k 0, wn, .inl (upd (upd (upd (upd (upd (upd (upd x2 (Int32.toNatClampNeg (a1 + 0)) 6) (Int32.toNatClampNeg (a1 + 1)) 6) (Int32.toNatClampNeg (a1 + 3)) 31) (Int32.toNatClampNeg (a1 + 5)) 31) (Int32.toNatClampNeg (a1 + 7)) 15) (Int32.toNatClampNeg (a1 + 8)) 2) (Int32.toNatClampNeg (a1 + 9)) a2)))] := hD
  obtain rfl := Option.some.inj h
  exact W.vret hx hb hr (fun t ht9 hW => ⟨⟨(), rfl, trivial, zend ht9 hP⟩, hS.F ht9⟩) hS.2.2 dX6_begins_70
def f_X6_bad (refused : Nat → Int32)  : Option (Int32 × (Nat → Int32)) :=
  if zok 0 3 then (if zok 0 3 then (some ((-2), upd refused (Int32.toNatClampNeg 0) ((refused (Int32.toNatClampNeg 0)) + 1))) else none) else none
abbrev wk_X6_bad : List Cond := Cond.code yX6_bad cX6_bad 1 (some .int) :: WB
abbrev rm_X6_bad : Room := { frames := 0, cells := 0, slots := 0, locals := 0 }
set_option maxHeartbeats 4000000 in
set_option maxRecDepth 100000 in
theorem c_X6_bad (l : Launch) (D : va_G) (k : Nat → Nat) (o on op orr ot oh og od : Nat) (states : Int32) (bytes : Int32) (reading : Int32) (at_ : Int32) (wrongAt : Int32) (number : Int32) (hh : Int64) (refused : Nat → Int32)  {res : Int32 × (Nat → Int32)} (h : f_X6_bad refused  = some res) : Ci l yX6_bad wk_X6_bad rm_X6_bad D k [.ref o] [(o, .inr (6, [.ref on, .ref op, .int states, .ref orr, .ref ot, .int bytes, .ref oh, .ref og, .ref od, .int reading, .int at_, .int wrongAt, .int number, .long hh])), (orr, .inl (k 0, 3, .inl refused))] [(o, .inr (6, [.ref on, .ref op, .int states, .ref orr, .ref ot, .int bytes, .ref oh, .ref og, .ref od, .int reading, .int at_, .int wrongAt, .int number, .long hh])), (orr, .inl (k 0, 3, .inl res.2))] res.1 := by
  unfold Ci
  intro sz
  refine Met.ofW (cc := cX6_bad) (maxL := 1) (ret := (some .int)) (by decide) rfl ?_
  intro p e s m args below meth c s₁ B hml hv
  obtain ⟨rfl, hsz, hP, hK, hD0, hm⟩ := hv
  have hx := B.exec
  have hb := B.bytes
  have hr := B.returns
  have ht : ∀ w ∈ WB, w.before _ s = true := fun w hw => atoms_spec (ws := wk_X6_bad) B.pre w (List.mem_cons_of_mem _ hw)
  have hown : s.vm.findClass RX6 = some m.cls := findClass_of_methodNamed B.named
  have hlocks := B.notSynchronized
  subst hsz
  have hD := hD0.self (sz := s.heap.size)
  generalize hAe : va_A [(o, .inr (6, [.ref on, .ref op, .int states, .ref orr, .ref ot, .int bytes, .ref oh, .ref og, .ref od, .int reading, .int at_, .int wrongAt, .int number, .long hh])), (orr, .inl (k 0, 3, .inl refused))] s.heap.size = A at hD hm ⊢
  have hA : ∀ q : Nat, s.heap.size ≤ q → A q := fun q h => by rw [← hAe]; exact Or.inr h
  have hS : va_S A s.heap s.heap [] := va_S.rf
  have hl := lv_entry ([.ref o]) (n := 1) (Nat.le_of_ble_eq_true rfl)
  rw [lg_entry_eq]
  generalize (lg_sl ([.ref o]) ++ List.replicate (1 - (lg_sl ([.ref o])).length) Slot.unset).toArray = ls at hl ⊢
  have hl : lv_has ls 1 [(0, .ref o)] := hl
  obtain ⟨H, hH⟩ : ∃ H, H = s.heap := ⟨_, rfl⟩
  rw [← hH] at hP
  have hS : va_S A s.heap H [] := by rw [hH]; exact hS
  suffices hgo : W p l e _ s m _ below meth c H [] 0 0 _ _ by rw [hH] at hgo; exact hgo
  unfold f_X6_bad at h
  refine lv_aload_n hx hb dX6_bad_0 rfl (lv_at hl 0 rfl) ?_
  refine va_get (D := D) (ci := 6) (v := .ref orr) (C := RX6) (T := TX6) (N := 14) hx hb ht hiX6 hown hK hP 0 rfl rfl 3 (by decide) (ht _ wb768) (fun _ h9 => h9) rfl dX6_bad_1 ?_
  refine lv_iconst (v := 0) hx hb dX6_bad_4 (by decide) ?_
  refine lv_dup2_11 hx hb dX6_bad_5 rfl rfl ?_
  obtain ⟨hi1, h⟩ := zg h
  refine va_iald hx hb hK hP 1 0 rfl rfl hi1 dX6_bad_6 ?_
  refine lv_iconst (v := 1) hx hb dX6_bad_7 (by decide) ?_
  refine lv_iadd hx hb dX6_bad_8 ?_
  obtain ⟨hi2, h⟩ := zg h
  refine va_iast hx hb hK hP hD hS 1 0 rfl rfl hi2 dX6_bad_9 (fun H locs hP hD hS => ?_)
  have hP : va_P D vwCl [(o, .inr (6, [.ref on, .ref op, .int states, .ref orr, .ref ot, .int bytes, .ref oh, .ref og, .ref od, .int reading, .int at_, .int wrongAt, .int number, .long hh])), (orr, .inl (k 0, 3, .inl (upd refused (Int32.toNatClampNeg 0) ((refused (Int32.toNatClampNeg 0)) + 1))))] H := hP
  have hD : va_D A [(o, .inr (6, [.ref on, .ref op, .int states, .ref orr, .ref ot, .int bytes, .ref oh, .ref og, .ref od, .int reading, .int at_, .int wrongAt, .int number, .long hh])), (orr, .inl (k 0, 3, .inl (upd refused (Int32.toNatClampNeg 0) ((refused (Int32.toNatClampNeg 0)) + 1))))] := hD
  refine lv_bipush (v := (-2)) hx hb dX6_bad_10 (by decide) ?_
  obtain rfl := Option.some.inj h
  exact W.iret (v := (-2)) hx hb hr (fun t ht9 hW => ⟨⟨_, (), rfl, rfl, zend ht9 hP⟩, hS.F ht9⟩) hS.2.2 dX6_bad_12
def f_X6_no (refused : Nat → Int32)  : Option (Int32 × (Nat → Int32)) :=
  if zok 1 3 then (if zok 1 3 then (some ((-3), upd refused (Int32.toNatClampNeg 1) ((refused (Int32.toNatClampNeg 1)) + 1))) else none) else none
abbrev wk_X6_no : List Cond := Cond.code yX6_no cX6_no 1 (some .int) :: WB
abbrev rm_X6_no : Room := { frames := 0, cells := 0, slots := 0, locals := 0 }
set_option maxHeartbeats 4000000 in
set_option maxRecDepth 100000 in
theorem c_X6_no (l : Launch) (D : va_G) (k : Nat → Nat) (o on op orr ot oh og od : Nat) (states : Int32) (bytes : Int32) (reading : Int32) (at_ : Int32) (wrongAt : Int32) (number : Int32) (hh : Int64) (refused : Nat → Int32)  {res : Int32 × (Nat → Int32)} (h : f_X6_no refused  = some res) : Ci l yX6_no wk_X6_no rm_X6_no D k [.ref o] [(o, .inr (6, [.ref on, .ref op, .int states, .ref orr, .ref ot, .int bytes, .ref oh, .ref og, .ref od, .int reading, .int at_, .int wrongAt, .int number, .long hh])), (orr, .inl (k 0, 3, .inl refused))] [(o, .inr (6, [.ref on, .ref op, .int states, .ref orr, .ref ot, .int bytes, .ref oh, .ref og, .ref od, .int reading, .int at_, .int wrongAt, .int number, .long hh])), (orr, .inl (k 0, 3, .inl res.2))] res.1 := by
  unfold Ci
  intro sz
  refine Met.ofW (cc := cX6_no) (maxL := 1) (ret := (some .int)) (by decide) rfl ?_
  intro p e s m args below meth c s₁ B hml hv
  obtain ⟨rfl, hsz, hP, hK, hD0, hm⟩ := hv
  have hx := B.exec
  have hb := B.bytes
  have hr := B.returns
  have ht : ∀ w ∈ WB, w.before _ s = true := fun w hw => atoms_spec (ws := wk_X6_no) B.pre w (List.mem_cons_of_mem _ hw)
  have hown : s.vm.findClass RX6 = some m.cls := findClass_of_methodNamed B.named
  have hlocks := B.notSynchronized
  subst hsz
  have hD := hD0.self (sz := s.heap.size)
  generalize hAe : va_A [(o, .inr (6, [.ref on, .ref op, .int states, .ref orr, .ref ot, .int bytes, .ref oh, .ref og, .ref od, .int reading, .int at_, .int wrongAt, .int number, .long hh])), (orr, .inl (k 0, 3, .inl refused))] s.heap.size = A at hD hm ⊢
  have hA : ∀ q : Nat, s.heap.size ≤ q → A q := fun q h => by rw [← hAe]; exact Or.inr h
  have hS : va_S A s.heap s.heap [] := va_S.rf
  have hl := lv_entry ([.ref o]) (n := 1) (Nat.le_of_ble_eq_true rfl)
  rw [lg_entry_eq]
  generalize (lg_sl ([.ref o]) ++ List.replicate (1 - (lg_sl ([.ref o])).length) Slot.unset).toArray = ls at hl ⊢
  have hl : lv_has ls 1 [(0, .ref o)] := hl
  obtain ⟨H, hH⟩ : ∃ H, H = s.heap := ⟨_, rfl⟩
  rw [← hH] at hP
  have hS : va_S A s.heap H [] := by rw [hH]; exact hS
  suffices hgo : W p l e _ s m _ below meth c H [] 0 0 _ _ by rw [hH] at hgo; exact hgo
  unfold f_X6_no at h
  refine lv_aload_n hx hb dX6_no_0 rfl (lv_at hl 0 rfl) ?_
  refine va_get (D := D) (ci := 6) (v := .ref orr) (C := RX6) (T := TX6) (N := 14) hx hb ht hiX6 hown hK hP 0 rfl rfl 3 (by decide) (ht _ wb768) (fun _ h9 => h9) rfl dX6_no_1 ?_
  refine lv_iconst (v := 1) hx hb dX6_no_4 (by decide) ?_
  refine lv_dup2_11 hx hb dX6_no_5 rfl rfl ?_
  obtain ⟨hi1, h⟩ := zg h
  refine va_iald hx hb hK hP 1 0 rfl rfl hi1 dX6_no_6 ?_
  refine lv_iconst (v := 1) hx hb dX6_no_7 (by decide) ?_
  refine lv_iadd hx hb dX6_no_8 ?_
  obtain ⟨hi2, h⟩ := zg h
  refine va_iast hx hb hK hP hD hS 1 0 rfl rfl hi2 dX6_no_9 (fun H locs hP hD hS => ?_)
  have hP : va_P D vwCl [(o, .inr (6, [.ref on, .ref op, .int states, .ref orr, .ref ot, .int bytes, .ref oh, .ref og, .ref od, .int reading, .int at_, .int wrongAt, .int number, .long hh])), (orr, .inl (k 0, 3, .inl (upd refused (Int32.toNatClampNeg 1) ((refused (Int32.toNatClampNeg 1)) + 1))))] H := hP
  have hD : va_D A [(o, .inr (6, [.ref on, .ref op, .int states, .ref orr, .ref ot, .int bytes, .ref oh, .ref og, .ref od, .int reading, .int at_, .int wrongAt, .int number, .long hh])), (orr, .inl (k 0, 3, .inl (upd refused (Int32.toNatClampNeg 1) ((refused (Int32.toNatClampNeg 1)) + 1))))] := hD
  refine lv_bipush (v := (-3)) hx hb dX6_no_10 (by decide) ?_
  obtain rfl := Option.some.inj h
  exact W.iret (v := (-3)) hx hb hr (fun t ht9 hW => ⟨⟨_, (), rfl, rfl, zend ht9 hP⟩, hS.F ht9⟩) hS.2.2 dX6_no_12
def f_X6_full (refused : Nat → Int32)  : Option (Int32 × (Nat → Int32)) :=
  if zok 2 3 then (if zok 2 3 then (some ((-4), upd refused (Int32.toNatClampNeg 2) ((refused (Int32.toNatClampNeg 2)) + 1))) else none) else none
abbrev wk_X6_full : List Cond := Cond.code yX6_full cX6_full 1 (some .int) :: WB
abbrev rm_X6_full : Room := { frames := 0, cells := 0, slots := 0, locals := 0 }
set_option maxHeartbeats 4000000 in
set_option maxRecDepth 100000 in
theorem c_X6_full (l : Launch) (D : va_G) (k : Nat → Nat) (o on op orr ot oh og od : Nat) (states : Int32) (bytes : Int32) (reading : Int32) (at_ : Int32) (wrongAt : Int32) (number : Int32) (hh : Int64) (refused : Nat → Int32)  {res : Int32 × (Nat → Int32)} (h : f_X6_full refused  = some res) : Ci l yX6_full wk_X6_full rm_X6_full D k [.ref o] [(o, .inr (6, [.ref on, .ref op, .int states, .ref orr, .ref ot, .int bytes, .ref oh, .ref og, .ref od, .int reading, .int at_, .int wrongAt, .int number, .long hh])), (orr, .inl (k 0, 3, .inl refused))] [(o, .inr (6, [.ref on, .ref op, .int states, .ref orr, .ref ot, .int bytes, .ref oh, .ref og, .ref od, .int reading, .int at_, .int wrongAt, .int number, .long hh])), (orr, .inl (k 0, 3, .inl res.2))] res.1 := by
  unfold Ci
  intro sz
  refine Met.ofW (cc := cX6_full) (maxL := 1) (ret := (some .int)) (by decide) rfl ?_
  intro p e s m args below meth c s₁ B hml hv
  obtain ⟨rfl, hsz, hP, hK, hD0, hm⟩ := hv
  have hx := B.exec
  have hb := B.bytes
  have hr := B.returns
  have ht : ∀ w ∈ WB, w.before _ s = true := fun w hw => atoms_spec (ws := wk_X6_full) B.pre w (List.mem_cons_of_mem _ hw)
  have hown : s.vm.findClass RX6 = some m.cls := findClass_of_methodNamed B.named
  have hlocks := B.notSynchronized
  subst hsz
  have hD := hD0.self (sz := s.heap.size)
  generalize hAe : va_A [(o, .inr (6, [.ref on, .ref op, .int states, .ref orr, .ref ot, .int bytes, .ref oh, .ref og, .ref od, .int reading, .int at_, .int wrongAt, .int number, .long hh])), (orr, .inl (k 0, 3, .inl refused))] s.heap.size = A at hD hm ⊢
  have hA : ∀ q : Nat, s.heap.size ≤ q → A q := fun q h => by rw [← hAe]; exact Or.inr h
  have hS : va_S A s.heap s.heap [] := va_S.rf
  have hl := lv_entry ([.ref o]) (n := 1) (Nat.le_of_ble_eq_true rfl)
  rw [lg_entry_eq]
  generalize (lg_sl ([.ref o]) ++ List.replicate (1 - (lg_sl ([.ref o])).length) Slot.unset).toArray = ls at hl ⊢
  have hl : lv_has ls 1 [(0, .ref o)] := hl
  obtain ⟨H, hH⟩ : ∃ H, H = s.heap := ⟨_, rfl⟩
  rw [← hH] at hP
  have hS : va_S A s.heap H [] := by rw [hH]; exact hS
  suffices hgo : W p l e _ s m _ below meth c H [] 0 0 _ _ by rw [hH] at hgo; exact hgo
  unfold f_X6_full at h
  refine lv_aload_n hx hb dX6_full_0 rfl (lv_at hl 0 rfl) ?_
  refine va_get (D := D) (ci := 6) (v := .ref orr) (C := RX6) (T := TX6) (N := 14) hx hb ht hiX6 hown hK hP 0 rfl rfl 3 (by decide) (ht _ wb768) (fun _ h9 => h9) rfl dX6_full_1 ?_
  refine lv_iconst (v := 2) hx hb dX6_full_4 (by decide) ?_
  refine lv_dup2_11 hx hb dX6_full_5 rfl rfl ?_
  obtain ⟨hi1, h⟩ := zg h
  refine va_iald hx hb hK hP 1 0 rfl rfl hi1 dX6_full_6 ?_
  refine lv_iconst (v := 1) hx hb dX6_full_7 (by decide) ?_
  refine lv_iadd hx hb dX6_full_8 ?_
  obtain ⟨hi2, h⟩ := zg h
  refine va_iast hx hb hK hP hD hS 1 0 rfl rfl hi2 dX6_full_9 (fun H locs hP hD hS => ?_)
  have hP : va_P D vwCl [(o, .inr (6, [.ref on, .ref op, .int states, .ref orr, .ref ot, .int bytes, .ref oh, .ref og, .ref od, .int reading, .int at_, .int wrongAt, .int number, .long hh])), (orr, .inl (k 0, 3, .inl (upd refused (Int32.toNatClampNeg 2) ((refused (Int32.toNatClampNeg 2)) + 1))))] H := hP
  have hD : va_D A [(o, .inr (6, [.ref on, .ref op, .int states, .ref orr, .ref ot, .int bytes, .ref oh, .ref og, .ref od, .int reading, .int at_, .int wrongAt, .int number, .long hh])), (orr, .inl (k 0, 3, .inl (upd refused (Int32.toNatClampNeg 2) ((refused (Int32.toNatClampNeg 2)) + 1))))] := hD
  refine lv_bipush (v := (-4)) hx hb dX6_full_10 (by decide) ?_
  obtain rfl := Option.some.inj h
  exact W.iret (v := (-4)) hx hb hr (fun t ht9 hW => ⟨⟨_, (), rfl, rfl, zend ht9 hP⟩, hS.F ht9⟩) hS.2.2 dX6_full_12
def f_X6_remembers_L51 (fu : Nat) (K : Int32 → (Nat → Int32) → Option (Int32 × (Nat → Int32))) (states : Int32) (now : Nat → Int32) : Nat → Int32 → (Nat → Int32) → Option (Int32 × (Nat → Int32))
  | 0, _, _ => none
  | n + 1, v1, past =>
  if 401 ≤ v1 then (K v1 past) else (if zok v1 401 then (if zok ((401 * states) + v1) 2005 then (f_X6_remembers_L51 fu K states now n (v1 + 1) (upd past (Int32.toNatClampNeg ((401 * states) + v1)) (now (Int32.toNatClampNeg v1)))) else none) else none)
def f_X6_remembers_L10 (fu : Nat) (K : Int32 → (Nat → Int32) → Option (Int32 × (Nat → Int32)))  : Nat → Int32 → (Nat → Int32) → Option (Int32 × (Nat → Int32))
  | 0, _, _ => none
  | n + 1, v1, past =>
  if 1604 ≤ v1 then (K v1 past) else (if zok (v1 + 401) 2005 then (if zok v1 2005 then (f_X6_remembers_L10 fu K  n (v1 + 1) (upd past (Int32.toNatClampNeg v1) (past (Int32.toNatClampNeg (v1 + 401))))) else none) else none)
def f_X6_remembers (fu : Nat) (states : Int32) (now : Nat → Int32) (past : Nat → Int32)  : Option (Int32 × (Nat → Int32)) :=
  if states = 5 then (f_X6_remembers_L10 fu (fun (x3 : Int32) (x4 : Nat → Int32) => f_X6_remembers_L51 fu (fun (x5 : Int32) (x6 : Nat → Int32) => some ((states - 1) + 1, x6)) (states - 1) now fu 0 x4)  fu 0 past) else (f_X6_remembers_L51 fu (fun (x1 : Int32) (x2 : Nat → Int32) => some (states + 1, x2)) states now fu 0 past)
abbrev wk_X6_remembers : List Cond := Cond.code yX6_remembers cX6_remembers 2 none :: WB
abbrev rm_X6_remembers : Room := { frames := 0, cells := 0, slots := 0, locals := 0 }
set_option maxHeartbeats 4000000 in
set_option maxRecDepth 100000 in
theorem c_X6_remembers (l : Launch) (D : va_G) (k : Nat → Nat) (o on op orr ot oh og od : Nat) (states : Int32) (bytes : Int32) (reading : Int32) (at_ : Int32) (wrongAt : Int32) (number : Int32) (hh : Int64) (now : Nat → Int32) (past : Nat → Int32)  (fu : Nat) {res : Int32 × (Nat → Int32)} (h : f_X6_remembers fu states now past  = some res) : Cv l yX6_remembers wk_X6_remembers rm_X6_remembers D k [.ref o] [(o, .inr (6, [.ref on, .ref op, .int states, .ref orr, .ref ot, .int bytes, .ref oh, .ref og, .ref od, .int reading, .int at_, .int wrongAt, .int number, .long hh])), (on, .inl (k 0, 401, .inl now)), (op, .inl (k 0, 2005, .inl past))] [(o, .inr (6, [.ref on, .ref op, .int res.1, .ref orr, .ref ot, .int bytes, .ref oh, .ref og, .ref od, .int reading, .int at_, .int wrongAt, .int number, .long hh])), (on, .inl (k 0, 401, .inl now)), (op, .inl (k 0, 2005, .inl res.2))] := by
  unfold Cv
  intro sz
  refine Met.ofW (cc := cX6_remembers) (maxL := 2) (ret := none) (by decide) rfl ?_
  intro p e s m args below meth c s₁ B hml hv
  obtain ⟨rfl, hsz, hP, hK, hD0, hm⟩ := hv
  have hx := B.exec
  have hb := B.bytes
  have hr := B.returns
  have ht : ∀ w ∈ WB, w.before _ s = true := fun w hw => atoms_spec (ws := wk_X6_remembers) B.pre w (List.mem_cons_of_mem _ hw)
  have hown : s.vm.findClass RX6 = some m.cls := findClass_of_methodNamed B.named
  have hlocks := B.notSynchronized
  subst hsz
  have hD := hD0.self (sz := s.heap.size)
  generalize hAe : va_A [(o, .inr (6, [.ref on, .ref op, .int states, .ref orr, .ref ot, .int bytes, .ref oh, .ref og, .ref od, .int reading, .int at_, .int wrongAt, .int number, .long hh])), (on, .inl (k 0, 401, .inl now)), (op, .inl (k 0, 2005, .inl past))] s.heap.size = A at hD hm ⊢
  have hA : ∀ q : Nat, s.heap.size ≤ q → A q := fun q h => by rw [← hAe]; exact Or.inr h
  have hS : va_S A s.heap s.heap [] := va_S.rf
  have hl := lv_entry ([.ref o]) (n := 2) (Nat.le_of_ble_eq_true rfl)
  rw [lg_entry_eq]
  generalize (lg_sl ([.ref o]) ++ List.replicate (2 - (lg_sl ([.ref o])).length) Slot.unset).toArray = ls at hl ⊢
  have hl : lv_has ls 2 [(0, .ref o)] := hl
  obtain ⟨H, hH⟩ : ∃ H, H = s.heap := ⟨_, rfl⟩
  rw [← hH] at hP
  have hS : va_S A s.heap H [] := by rw [hH]; exact hS
  suffices hgo : W p l e _ s m _ below meth c H [] 0 0 _ _ by rw [hH] at hgo; exact hgo
  unfold f_X6_remembers at h
  refine lv_aload_n hx hb dX6_remembers_0 rfl (lv_at hl 0 rfl) ?_
  refine va_get (D := D) (ci := 6) (v := .int states) (C := RX6) (T := TX6) (N := 14) hx hb ht hiX6 hown hK hP 0 rfl rfl 2 (by decide) (ht _ wb767) (fun _ h9 => h9) rfl dX6_remembers_1 ?_
  refine lv_iconst (v := 5) hx hb dX6_remembers_4 (by decide) ?_
  refine lv_icmp_ne (tgt := 49) hx hb dX6_remembers_5 (by decide) (fun c4 => ?_) (fun c4 => ?_)
  · have h := zf h c4
    refine lv_iconst (v := 0) hx hb dX6_remembers_49 (by decide) ?_
    refine lv_istore_n (lv' := [(1, .int 0), (0, .ref o)]) hx hb dX6_remembers_50 rfl hl (by decide) rfl (fun ls hl => ?_)
    have loop51 : ∀ (states : Int32) (bytes : Int32) (reading : Int32) (at_ : Int32) (wrongAt : Int32) (number : Int32) (hh : Int64) (now : Nat → Int32), ∀ (K : Int32 → (Nat → Int32) → Option (Int32 × (Nat → Int32))), (∀ (v1 : Int32) (past : Nat → Int32), K v1 past = some res → ∀ (H : Heap) (locs : List Loc), va_P D vwCl [(o, .inr (6, [.ref on, .ref op, .int states, .ref orr, .ref ot, .int bytes, .ref oh, .ref og, .ref od, .int reading, .int at_, .int wrongAt, .int number, .long hh])), (on, .inl (k 0, 401, .inl now)), (op, .inl (k 0, 2005, .inl past))] H → va_D A [(o, .inr (6, [.ref on, .ref op, .int states, .ref orr, .ref ot, .int bytes, .ref oh, .ref og, .ref od, .int reading, .int at_, .int wrongAt, .int number, .long hh])), (on, .inl (k 0, 401, .inl now)), (op, .inl (k 0, 2005, .inl past))] → va_S A s.heap H locs → ∀ ls : Array Slot, lv_has ls 2 [(0, .ref o), (1, .int v1)] → W p l e (headSpec wk_X6_remembers rm_X6_remembers).room s m ([.ref o] : List Value).toArray below meth c H locs 0 0 (MQ below (va_Qv (fun (_ : Unit) => True) (fun _ tq9 => va_P D vwCl [(o, .inr (6, [.ref on, .ref op, .int res.1, .ref orr, .ref ot, .int bytes, .ref oh, .ref og, .ref od, .int reading, .int at_, .int wrongAt, .int number, .long hh])), (on, .inl (k 0, 401, .inl now)), (op, .inl (k 0, 2005, .inl res.2))] tq9.heap) A) ([.ref o] : List Value).toArray s 0 0 A) (F0 m 85 ls [])) → ∀ (n : Nat) (v1 : Int32) (past : Nat → Int32), f_X6_remembers_L51 fu K states now n v1 past = some res → ∀ (H : Heap) (locs : List Loc), va_P D vwCl [(o, .inr (6, [.ref on, .ref op, .int states, .ref orr, .ref ot, .int bytes, .ref oh, .ref og, .ref od, .int reading, .int at_, .int wrongAt, .int number, .long hh])), (on, .inl (k 0, 401, .inl now)), (op, .inl (k 0, 2005, .inl past))] H → va_D A [(o, .inr (6, [.ref on, .ref op, .int states, .ref orr, .ref ot, .int bytes, .ref oh, .ref og, .ref od, .int reading, .int at_, .int wrongAt, .int number, .long hh])), (on, .inl (k 0, 401, .inl now)), (op, .inl (k 0, 2005, .inl past))] → va_S A s.heap H locs → ∀ ls : Array Slot, lv_has ls 2 [(0, .ref o), (1, .int v1)] → W p l e (headSpec wk_X6_remembers rm_X6_remembers).room s m ([.ref o] : List Value).toArray below meth c H locs 0 0 (MQ below (va_Qv (fun (_ : Unit) => True) (fun _ tq9 => va_P D vwCl [(o, .inr (6, [.ref on, .ref op, .int res.1, .ref orr, .ref ot, .int bytes, .ref oh, .ref og, .ref od, .int reading, .int at_, .int wrongAt, .int number, .long hh])), (on, .inl (k 0, 401, .inl now)), (op, .inl (k 0, 2005, .inl res.2))] tq9.heap) A) ([.ref o] : List Value).toArray s 0 0 A) (F0 m 51 ls []) := by
      intro states bytes reading at_ wrongAt number hh now K hKK n
      induction n with
      | zero =>
        intro v1 past h
        rw [f_X6_remembers_L51] at h
        cases h
      | succ n ih =>
        intro v1 past h H locs hP hD hS ls hl
        rw [f_X6_remembers_L51] at h
        refine lv_iload_n hx hb dX6_remembers_51 rfl (lv_at hl 1 rfl) ?_
        refine lv_sipush (v := 401) hx hb dX6_remembers_52 (by decide) ?_
        refine lv_icmp_ge (tgt := 85) hx hb dX6_remembers_55 (by decide) (fun c1 => ?_) (fun c1 => ?_)
        · have h := zt h c1
          exact hKK _ _ h _ _ hP hD hS _ (lv_sub hl [0, 1] rfl)
        · have h := zf h c1
          refine lv_aload_n hx hb dX6_remembers_58 rfl (lv_at hl 0 rfl) ?_
          refine va_get (D := D) (ci := 6) (v := .ref op) (C := RX6) (T := TX6) (N := 14) hx hb ht hiX6 hown hK hP 0 rfl rfl 1 (by decide) (ht _ wb766) (fun _ h9 => h9) rfl dX6_remembers_59 ?_
          refine lv_sipush (v := 401) hx hb dX6_remembers_62 (by decide) ?_
          refine lv_aload_n hx hb dX6_remembers_65 rfl (lv_at hl 0 rfl) ?_
          refine va_get (D := D) (ci := 6) (v := .int states) (C := RX6) (T := TX6) (N := 14) hx hb ht hiX6 hown hK hP 0 rfl rfl 2 (by decide) (ht _ wb767) (fun _ h9 => h9) rfl dX6_remembers_66 ?_
          refine lv_imul hx hb dX6_remembers_69 ?_
          refine lv_iload_n hx hb dX6_remembers_70 rfl (lv_at hl 1 rfl) ?_
          refine lv_iadd hx hb dX6_remembers_71 ?_
          refine lv_aload_n hx hb dX6_remembers_72 rfl (lv_at hl 0 rfl) ?_
          refine va_get (D := D) (ci := 6) (v := .ref on) (C := RX6) (T := TX6) (N := 14) hx hb ht hiX6 hown hK hP 0 rfl rfl 0 (by decide) (ht _ wb765) (fun _ h9 => h9) rfl dX6_remembers_73 ?_
          refine lv_iload_n hx hb dX6_remembers_76 rfl (lv_at hl 1 rfl) ?_
          obtain ⟨hi1, h⟩ := zg h
          refine va_iald hx hb hK hP 1 0 rfl rfl hi1 dX6_remembers_77 ?_
          obtain ⟨hi2, h⟩ := zg h
          refine va_iast hx hb hK hP hD hS 2 0 rfl rfl hi2 dX6_remembers_78 (fun H locs hP hD hS => ?_)
          have hP : va_P D vwCl [(o, .inr (6, [.ref on, .ref op, .int states, .ref orr, .ref ot, .int bytes, .ref oh, .ref og, .ref od, .int reading, .int at_, .int wrongAt, .int number, .long hh])), (on, .inl (k 0, 401, .inl now)), (op, .inl (k 0, 2005, .inl (upd past (Int32.toNatClampNeg ((401 * states) + v1)) (now (Int32.toNatClampNeg v1)))))] H := hP
          have hD : va_D A [(o, .inr (6, [.ref on, .ref op, .int states, .ref orr, .ref ot, .int bytes, .ref oh, .ref og, .ref od, .int reading, .int at_, .int wrongAt, .int number, .long hh])), (on, .inl (k 0, 401, .inl now)), (op, .inl (k 0, 2005, .inl (upd past (Int32.toNatClampNeg ((401 * states) + v1)) (now (Int32.toNatClampNeg v1)))))] := hD
          refine lv_iinc (v := v1 + 1) (lv' := [(1, .int (v1 + 1)), (0, .ref o)]) hx hb dX6_remembers_79 hl (k := 1) rfl rfl (by decide) rfl (fun ls hl => ?_)
          refine lv_goto (tgt := 51) hx hb dX6_remembers_82 (by decide) ?_
          exact ih _ _ h _ _ hP hD hS _ (lv_sub hl [1, 0] rfl)
    refine loop51 _ _ _ _ _ _ _ _ _ ?_ fu _ _ h _ _ hP hD hS _ (lv_sub hl [1, 0] rfl)
    intro x1 x2 h H locs hP hD hS ls hl
    try dsimp only at h
    have hP : va_P D vwCl [(o, .inr (6, [.ref on, .ref op, .int states, .ref orr, .ref ot, .int bytes, .ref oh, .ref og, .ref od, .int reading, .int at_, .int wrongAt, .int number, .long hh])), (on, .inl (k 0, 401, .inl now)), (op, .inl (k 0, 2005, .inl x2))] H := hP
    have hD : va_D A [(o, .inr (6, [.ref on, .ref op, .int states, .ref orr, .ref ot, .int bytes, .ref oh, .ref og, .ref od, .int reading, .int at_, .int wrongAt, .int number, .long hh])), (on, .inl (k 0, 401, .inl now)), (op, .inl (k 0, 2005, .inl x2))] := hD
    have hl : lv_has ls 2 [(0, .ref o), (1, .int x1)] := hl
    refine lv_aload_n hx hb dX6_remembers_85 rfl (lv_at hl 0 rfl) ?_
    refine lv_dup hx hb dX6_remembers_86 rfl ?_
    refine va_get (D := D) (ci := 6) (v := .int states) (C := RX6) (T := TX6) (N := 14) hx hb ht hiX6 hown hK hP 0 rfl rfl 2 (by decide) (ht _ wb767) (fun _ h9 => h9) rfl dX6_remembers_87 ?_
    refine lv_iconst (v := 1) hx hb dX6_remembers_90 (by decide) ?_
    refine lv_iadd hx hb dX6_remembers_91 ?_
    refine va_put (D := D) (ci := 6) (v := .int (states + 1)) (ty := .int) (C := RX6) (T := TX6) (N := 14) hx hb ht hiX6 tyX6 tyX6_ok nmX6 hown hK hP hD hS 0 rfl rfl 2 (by decide) (ht _ wb767) (fun _ h9 => h9) rfl (by decide +kernel) rfl rfl (Nat.le_of_ble_eq_true rfl) dX6_remembers_92 (fun H locs hP hD hS => ?_)
    have hP : va_P D vwCl [(o, .inr (6, [.ref on, .ref op, .int (states + 1), .ref orr, .ref ot, .int bytes, .ref oh, .ref og, .ref od, .int reading, .int at_, .int wrongAt, .int number, .long hh])), (on, .inl (k 0, 401, .inl now)), (op, .inl (k 0, 2005, .inl x2))] H := hP
    have hD : va_D A [(o, .inr (6, [.ref on, .ref op, .int (states + 1), .ref orr, .ref ot, .int bytes, .ref oh, .ref og, .ref od, .int reading, .int at_, .int wrongAt, .int number, .long hh])), (on, .inl (k 0, 401, .inl now)), (op, .inl (k 0, 2005, .inl x2))] := hD
    obtain rfl := Option.some.inj h
    exact W.vret hx hb hr (fun t ht9 hW => ⟨⟨(), rfl, trivial, zend ht9 hP⟩, hS.F ht9⟩) hS.2.2 dX6_remembers_95
  · have h := zt h c4
    refine lv_iconst (v := 0) hx hb dX6_remembers_8 (by decide) ?_
    refine lv_istore_n (lv' := [(1, .int 0), (0, .ref o)]) hx hb dX6_remembers_9 rfl hl (by decide) rfl (fun ls hl => ?_)
    have loop10 : ∀ (states : Int32) (bytes : Int32) (reading : Int32) (at_ : Int32) (wrongAt : Int32) (number : Int32) (hh : Int64) (now : Nat → Int32), ∀ (K : Int32 → (Nat → Int32) → Option (Int32 × (Nat → Int32))), (∀ (v1 : Int32) (past : Nat → Int32), K v1 past = some res → ∀ (H : Heap) (locs : List Loc), va_P D vwCl [(o, .inr (6, [.ref on, .ref op, .int states, .ref orr, .ref ot, .int bytes, .ref oh, .ref og, .ref od, .int reading, .int at_, .int wrongAt, .int number, .long hh])), (on, .inl (k 0, 401, .inl now)), (op, .inl (k 0, 2005, .inl past))] H → va_D A [(o, .inr (6, [.ref on, .ref op, .int states, .ref orr, .ref ot, .int bytes, .ref oh, .ref og, .ref od, .int reading, .int at_, .int wrongAt, .int number, .long hh])), (on, .inl (k 0, 401, .inl now)), (op, .inl (k 0, 2005, .inl past))] → va_S A s.heap H locs → ∀ ls : Array Slot, lv_has ls 2 [(0, .ref o), (1, .int v1)] → W p l e (headSpec wk_X6_remembers rm_X6_remembers).room s m ([.ref o] : List Value).toArray below meth c H locs 0 0 (MQ below (va_Qv (fun (_ : Unit) => True) (fun _ tq9 => va_P D vwCl [(o, .inr (6, [.ref on, .ref op, .int res.1, .ref orr, .ref ot, .int bytes, .ref oh, .ref og, .ref od, .int reading, .int at_, .int wrongAt, .int number, .long hh])), (on, .inl (k 0, 401, .inl now)), (op, .inl (k 0, 2005, .inl res.2))] tq9.heap) A) ([.ref o] : List Value).toArray s 0 0 A) (F0 m 39 ls [])) → ∀ (n : Nat) (v1 : Int32) (past : Nat → Int32), f_X6_remembers_L10 fu K  n v1 past = some res → ∀ (H : Heap) (locs : List Loc), va_P D vwCl [(o, .inr (6, [.ref on, .ref op, .int states, .ref orr, .ref ot, .int bytes, .ref oh, .ref og, .ref od, .int reading, .int at_, .int wrongAt, .int number, .long hh])), (on, .inl (k 0, 401, .inl now)), (op, .inl (k 0, 2005, .inl past))] H → va_D A [(o, .inr (6, [.ref on, .ref op, .int states, .ref orr, .ref ot, .int bytes, .ref oh, .ref og, .ref od, .int reading, .int at_, .int wrongAt, .int number, .long hh])), (on, .inl (k 0, 401, .inl now)), (op, .inl (k 0, 2005, .inl past))] → va_S A s.heap H locs → ∀ ls : Array Slot, lv_has ls 2 [(0, .ref o), (1, .int v1)] → W p l e (headSpec wk_X6_remembers rm_X6_remembers).room s m ([.ref o] : List Value).toArray below meth c H locs 0 0 (MQ below (va_Qv (fun (_ : Unit) => True) (fun _ tq9 => va_P D vwCl [(o, .inr (6, [.ref on, .ref op, .int res.1, .ref orr, .ref ot, .int bytes, .ref oh, .ref og, .ref od, .int reading, .int at_, .int wrongAt, .int number, .long hh])), (on, .inl (k 0, 401, .inl now)), (op, .inl (k 0, 2005, .inl res.2))] tq9.heap) A) ([.ref o] : List Value).toArray s 0 0 A) (F0 m 10 ls []) := by
      intro states bytes reading at_ wrongAt number hh now K hKK n
      induction n with
      | zero =>
        intro v1 past h
        rw [f_X6_remembers_L10] at h
        cases h
      | succ n ih =>
        intro v1 past h H locs hP hD hS ls hl
        rw [f_X6_remembers_L10] at h
        refine lv_iload_n hx hb dX6_remembers_10 rfl (lv_at hl 1 rfl) ?_
        refine lv_sipush (v := 1604) hx hb dX6_remembers_11 (by decide) ?_
        refine lv_icmp_ge (tgt := 39) hx hb dX6_remembers_14 (by decide) (fun c2 => ?_) (fun c2 => ?_)
        · have h := zt h c2
          exact hKK _ _ h _ _ hP hD hS _ (lv_sub hl [0, 1] rfl)
        · have h := zf h c2
          refine lv_aload_n hx hb dX6_remembers_17 rfl (lv_at hl 0 rfl) ?_
          refine va_get (D := D) (ci := 6) (v := .ref op) (C := RX6) (T := TX6) (N := 14) hx hb ht hiX6 hown hK hP 0 rfl rfl 1 (by decide) (ht _ wb766) (fun _ h9 => h9) rfl dX6_remembers_18 ?_
          refine lv_iload_n hx hb dX6_remembers_21 rfl (lv_at hl 1 rfl) ?_
          refine lv_aload_n hx hb dX6_remembers_22 rfl (lv_at hl 0 rfl) ?_
          refine va_get (D := D) (ci := 6) (v := .ref op) (C := RX6) (T := TX6) (N := 14) hx hb ht hiX6 hown hK hP 0 rfl rfl 1 (by decide) (ht _ wb766) (fun _ h9 => h9) rfl dX6_remembers_23 ?_
          refine lv_iload_n hx hb dX6_remembers_26 rfl (lv_at hl 1 rfl) ?_
          refine lv_sipush (v := 401) hx hb dX6_remembers_27 (by decide) ?_
          refine lv_iadd hx hb dX6_remembers_30 ?_
          obtain ⟨hi3, h⟩ := zg h
          refine va_iald hx hb hK hP 2 0 rfl rfl hi3 dX6_remembers_31 ?_
          obtain ⟨hi4, h⟩ := zg h
          refine va_iast hx hb hK hP hD hS 2 0 rfl rfl hi4 dX6_remembers_32 (fun H locs hP hD hS => ?_)
          have hP : va_P D vwCl [(o, .inr (6, [.ref on, .ref op, .int states, .ref orr, .ref ot, .int bytes, .ref oh, .ref og, .ref od, .int reading, .int at_, .int wrongAt, .int number, .long hh])), (on, .inl (k 0, 401, .inl now)), (op, .inl (k 0, 2005, .inl (upd past (Int32.toNatClampNeg v1) (past (Int32.toNatClampNeg (v1 + 401))))))] H := hP
          have hD : va_D A [(o, .inr (6, [.ref on, .ref op, .int states, .ref orr, .ref ot, .int bytes, .ref oh, .ref og, .ref od, .int reading, .int at_, .int wrongAt, .int number, .long hh])), (on, .inl (k 0, 401, .inl now)), (op, .inl (k 0, 2005, .inl (upd past (Int32.toNatClampNeg v1) (past (Int32.toNatClampNeg (v1 + 401))))))] := hD
          refine lv_iinc (v := v1 + 1) (lv' := [(1, .int (v1 + 1)), (0, .ref o)]) hx hb dX6_remembers_33 hl (k := 1) rfl rfl (by decide) rfl (fun ls hl => ?_)
          refine lv_goto (tgt := 10) hx hb dX6_remembers_36 (by decide) ?_
          exact ih _ _ h _ _ hP hD hS _ (lv_sub hl [1, 0] rfl)
    refine loop10 _ _ _ _ _ _ _ _ _ ?_ fu _ _ h _ _ hP hD hS _ (lv_sub hl [1, 0] rfl)
    intro x3 x4 h H locs hP hD hS ls hl
    try dsimp only at h
    have hP : va_P D vwCl [(o, .inr (6, [.ref on, .ref op, .int states, .ref orr, .ref ot, .int bytes, .ref oh, .ref og, .ref od, .int reading, .int at_, .int wrongAt, .int number, .long hh])), (on, .inl (k 0, 401, .inl now)), (op, .inl (k 0, 2005, .inl x4))] H := hP
    have hD : va_D A [(o, .inr (6, [.ref on, .ref op, .int states, .ref orr, .ref ot, .int bytes, .ref oh, .ref og, .ref od, .int reading, .int at_, .int wrongAt, .int number, .long hh])), (on, .inl (k 0, 401, .inl now)), (op, .inl (k 0, 2005, .inl x4))] := hD
    have hl : lv_has ls 2 [(0, .ref o), (1, .int x3)] := hl
    refine lv_aload_n hx hb dX6_remembers_39 rfl (lv_at hl 0 rfl) ?_
    refine lv_dup hx hb dX6_remembers_40 rfl ?_
    refine va_get (D := D) (ci := 6) (v := .int states) (C := RX6) (T := TX6) (N := 14) hx hb ht hiX6 hown hK hP 0 rfl rfl 2 (by decide) (ht _ wb767) (fun _ h9 => h9) rfl dX6_remembers_41 ?_
    refine lv_iconst (v := 1) hx hb dX6_remembers_44 (by decide) ?_
    refine lv_isub hx hb dX6_remembers_45 ?_
    refine va_put (D := D) (ci := 6) (v := .int (states - 1)) (ty := .int) (C := RX6) (T := TX6) (N := 14) hx hb ht hiX6 tyX6 tyX6_ok nmX6 hown hK hP hD hS 0 rfl rfl 2 (by decide) (ht _ wb767) (fun _ h9 => h9) rfl (by decide +kernel) rfl rfl (Nat.le_of_ble_eq_true rfl) dX6_remembers_46 (fun H locs hP hD hS => ?_)
    have hP : va_P D vwCl [(o, .inr (6, [.ref on, .ref op, .int (states - 1), .ref orr, .ref ot, .int bytes, .ref oh, .ref og, .ref od, .int reading, .int at_, .int wrongAt, .int number, .long hh])), (on, .inl (k 0, 401, .inl now)), (op, .inl (k 0, 2005, .inl x4))] H := hP
    have hD : va_D A [(o, .inr (6, [.ref on, .ref op, .int (states - 1), .ref orr, .ref ot, .int bytes, .ref oh, .ref og, .ref od, .int reading, .int at_, .int wrongAt, .int number, .long hh])), (on, .inl (k 0, 401, .inl now)), (op, .inl (k 0, 2005, .inl x4))] := hD
    refine lv_iconst (v := 0) hx hb dX6_remembers_49 (by decide) ?_
    refine lv_istore_n (lv' := [(1, .int 0), (0, .ref o)]) hx hb dX6_remembers_50 rfl hl (by decide) rfl (fun ls hl => ?_)
    have loop51 : ∀ (states : Int32) (bytes : Int32) (reading : Int32) (at_ : Int32) (wrongAt : Int32) (number : Int32) (hh : Int64) (now : Nat → Int32), ∀ (K : Int32 → (Nat → Int32) → Option (Int32 × (Nat → Int32))), (∀ (v1 : Int32) (past : Nat → Int32), K v1 past = some res → ∀ (H : Heap) (locs : List Loc), va_P D vwCl [(o, .inr (6, [.ref on, .ref op, .int states, .ref orr, .ref ot, .int bytes, .ref oh, .ref og, .ref od, .int reading, .int at_, .int wrongAt, .int number, .long hh])), (on, .inl (k 0, 401, .inl now)), (op, .inl (k 0, 2005, .inl past))] H → va_D A [(o, .inr (6, [.ref on, .ref op, .int states, .ref orr, .ref ot, .int bytes, .ref oh, .ref og, .ref od, .int reading, .int at_, .int wrongAt, .int number, .long hh])), (on, .inl (k 0, 401, .inl now)), (op, .inl (k 0, 2005, .inl past))] → va_S A s.heap H locs → ∀ ls : Array Slot, lv_has ls 2 [(0, .ref o), (1, .int v1)] → W p l e (headSpec wk_X6_remembers rm_X6_remembers).room s m ([.ref o] : List Value).toArray below meth c H locs 0 0 (MQ below (va_Qv (fun (_ : Unit) => True) (fun _ tq9 => va_P D vwCl [(o, .inr (6, [.ref on, .ref op, .int res.1, .ref orr, .ref ot, .int bytes, .ref oh, .ref og, .ref od, .int reading, .int at_, .int wrongAt, .int number, .long hh])), (on, .inl (k 0, 401, .inl now)), (op, .inl (k 0, 2005, .inl res.2))] tq9.heap) A) ([.ref o] : List Value).toArray s 0 0 A) (F0 m 85 ls [])) → ∀ (n : Nat) (v1 : Int32) (past : Nat → Int32), f_X6_remembers_L51 fu K states now n v1 past = some res → ∀ (H : Heap) (locs : List Loc), va_P D vwCl [(o, .inr (6, [.ref on, .ref op, .int states, .ref orr, .ref ot, .int bytes, .ref oh, .ref og, .ref od, .int reading, .int at_, .int wrongAt, .int number, .long hh])), (on, .inl (k 0, 401, .inl now)), (op, .inl (k 0, 2005, .inl past))] H → va_D A [(o, .inr (6, [.ref on, .ref op, .int states, .ref orr, .ref ot, .int bytes, .ref oh, .ref og, .ref od, .int reading, .int at_, .int wrongAt, .int number, .long hh])), (on, .inl (k 0, 401, .inl now)), (op, .inl (k 0, 2005, .inl past))] → va_S A s.heap H locs → ∀ ls : Array Slot, lv_has ls 2 [(0, .ref o), (1, .int v1)] → W p l e (headSpec wk_X6_remembers rm_X6_remembers).room s m ([.ref o] : List Value).toArray below meth c H locs 0 0 (MQ below (va_Qv (fun (_ : Unit) => True) (fun _ tq9 => va_P D vwCl [(o, .inr (6, [.ref on, .ref op, .int res.1, .ref orr, .ref ot, .int bytes, .ref oh, .ref og, .ref od, .int reading, .int at_, .int wrongAt, .int number, .long hh])), (on, .inl (k 0, 401, .inl now)), (op, .inl (k 0, 2005, .inl res.2))] tq9.heap) A) ([.ref o] : List Value).toArray s 0 0 A) (F0 m 51 ls []) := by
      intro states bytes reading at_ wrongAt number hh now K hKK n
      induction n with
      | zero =>
        intro v1 past h
        rw [f_X6_remembers_L51] at h
        cases h
      | succ n ih =>
        intro v1 past h H locs hP hD hS ls hl
        rw [f_X6_remembers_L51] at h
        refine lv_iload_n hx hb dX6_remembers_51 rfl (lv_at hl 1 rfl) ?_
        refine lv_sipush (v := 401) hx hb dX6_remembers_52 (by decide) ?_
        refine lv_icmp_ge (tgt := 85) hx hb dX6_remembers_55 (by decide) (fun c3 => ?_) (fun c3 => ?_)
        · have h := zt h c3
          exact hKK _ _ h _ _ hP hD hS _ (lv_sub hl [0, 1] rfl)
        · have h := zf h c3
          refine lv_aload_n hx hb dX6_remembers_58 rfl (lv_at hl 0 rfl) ?_
          refine va_get (D := D) (ci := 6) (v := .ref op) (C := RX6) (T := TX6) (N := 14) hx hb ht hiX6 hown hK hP 0 rfl rfl 1 (by decide) (ht _ wb766) (fun _ h9 => h9) rfl dX6_remembers_59 ?_
          refine lv_sipush (v := 401) hx hb dX6_remembers_62 (by decide) ?_
          refine lv_aload_n hx hb dX6_remembers_65 rfl (lv_at hl 0 rfl) ?_
          refine va_get (D := D) (ci := 6) (v := .int states) (C := RX6) (T := TX6) (N := 14) hx hb ht hiX6 hown hK hP 0 rfl rfl 2 (by decide) (ht _ wb767) (fun _ h9 => h9) rfl dX6_remembers_66 ?_
          refine lv_imul hx hb dX6_remembers_69 ?_
          refine lv_iload_n hx hb dX6_remembers_70 rfl (lv_at hl 1 rfl) ?_
          refine lv_iadd hx hb dX6_remembers_71 ?_
          refine lv_aload_n hx hb dX6_remembers_72 rfl (lv_at hl 0 rfl) ?_
          refine va_get (D := D) (ci := 6) (v := .ref on) (C := RX6) (T := TX6) (N := 14) hx hb ht hiX6 hown hK hP 0 rfl rfl 0 (by decide) (ht _ wb765) (fun _ h9 => h9) rfl dX6_remembers_73 ?_
          refine lv_iload_n hx hb dX6_remembers_76 rfl (lv_at hl 1 rfl) ?_
          obtain ⟨hi5, h⟩ := zg h
          refine va_iald hx hb hK hP 1 0 rfl rfl hi5 dX6_remembers_77 ?_
          obtain ⟨hi6, h⟩ := zg h
          refine va_iast hx hb hK hP hD hS 2 0 rfl rfl hi6 dX6_remembers_78 (fun H locs hP hD hS => ?_)
          have hP : va_P D vwCl [(o, .inr (6, [.ref on, .ref op, .int states, .ref orr, .ref ot, .int bytes, .ref oh, .ref og, .ref od, .int reading, .int at_, .int wrongAt, .int number, .long hh])), (on, .inl (k 0, 401, .inl now)), (op, .inl (k 0, 2005, .inl (upd past (Int32.toNatClampNeg ((401 * states) + v1)) (now (Int32.toNatClampNeg v1)))))] H := hP
          have hD : va_D A [(o, .inr (6, [.ref on, .ref op, .int states, .ref orr, .ref ot, .int bytes, .ref oh, .ref og, .ref od, .int reading, .int at_, .int wrongAt, .int number, .long hh])), (on, .inl (k 0, 401, .inl now)), (op, .inl (k 0, 2005, .inl (upd past (Int32.toNatClampNeg ((401 * states) + v1)) (now (Int32.toNatClampNeg v1)))))] := hD
          refine lv_iinc (v := v1 + 1) (lv' := [(1, .int (v1 + 1)), (0, .ref o)]) hx hb dX6_remembers_79 hl (k := 1) rfl rfl (by decide) rfl (fun ls hl => ?_)
          refine lv_goto (tgt := 51) hx hb dX6_remembers_82 (by decide) ?_
          exact ih _ _ h _ _ hP hD hS _ (lv_sub hl [1, 0] rfl)
    refine loop51 _ _ _ _ _ _ _ _ _ ?_ fu _ _ h _ _ hP hD hS _ (lv_sub hl [1, 0] rfl)
    intro x5 x6 h H locs hP hD hS ls hl
    try dsimp only at h
    have hP : va_P D vwCl [(o, .inr (6, [.ref on, .ref op, .int (states - 1), .ref orr, .ref ot, .int bytes, .ref oh, .ref og, .ref od, .int reading, .int at_, .int wrongAt, .int number, .long hh])), (on, .inl (k 0, 401, .inl now)), (op, .inl (k 0, 2005, .inl x6))] H := hP
    have hD : va_D A [(o, .inr (6, [.ref on, .ref op, .int (states - 1), .ref orr, .ref ot, .int bytes, .ref oh, .ref og, .ref od, .int reading, .int at_, .int wrongAt, .int number, .long hh])), (on, .inl (k 0, 401, .inl now)), (op, .inl (k 0, 2005, .inl x6))] := hD
    have hl : lv_has ls 2 [(0, .ref o), (1, .int x5)] := hl
    refine lv_aload_n hx hb dX6_remembers_85 rfl (lv_at hl 0 rfl) ?_
    refine lv_dup hx hb dX6_remembers_86 rfl ?_
    refine va_get (D := D) (ci := 6) (v := .int (states - 1)) (C := RX6) (T := TX6) (N := 14) hx hb ht hiX6 hown hK hP 0 rfl rfl 2 (by decide) (ht _ wb767) (fun _ h9 => h9) rfl dX6_remembers_87 ?_
    refine lv_iconst (v := 1) hx hb dX6_remembers_90 (by decide) ?_
    refine lv_iadd hx hb dX6_remembers_91 ?_
    refine va_put (D := D) (ci := 6) (v := .int ((states - 1) + 1)) (ty := .int) (C := RX6) (T := TX6) (N := 14) hx hb ht hiX6 tyX6 tyX6_ok nmX6 hown hK hP hD hS 0 rfl rfl 2 (by decide) (ht _ wb767) (fun _ h9 => h9) rfl (by decide +kernel) rfl rfl (Nat.le_of_ble_eq_true rfl) dX6_remembers_92 (fun H locs hP hD hS => ?_)
    have hP : va_P D vwCl [(o, .inr (6, [.ref on, .ref op, .int ((states - 1) + 1), .ref orr, .ref ot, .int bytes, .ref oh, .ref og, .ref od, .int reading, .int at_, .int wrongAt, .int number, .long hh])), (on, .inl (k 0, 401, .inl now)), (op, .inl (k 0, 2005, .inl x6))] H := hP
    have hD : va_D A [(o, .inr (6, [.ref on, .ref op, .int ((states - 1) + 1), .ref orr, .ref ot, .int bytes, .ref oh, .ref og, .ref od, .int reading, .int at_, .int wrongAt, .int number, .long hh])), (on, .inl (k 0, 401, .inl now)), (op, .inl (k 0, 2005, .inl x6))] := hD
    obtain rfl := Option.some.inj h
    exact W.vret hx hb hr (fun t ht9 hW => ⟨⟨(), rfl, trivial, zend ht9 hP⟩, hS.F ht9⟩) hS.2.2 dX6_remembers_95
def f_X6_back_L24 (fu : Nat) (K : Int32 → (Nat → Int32) → Option (Int32 × Int32 × (Nat → Int32) × (Nat → Int32))) (states : Int32) (past : Nat → Int32) : Nat → Int32 → (Nat → Int32) → Option (Int32 × Int32 × (Nat → Int32) × (Nat → Int32))
  | 0, _, _ => none
  | n + 1, v1, now =>
  if 401 ≤ v1 then (K v1 now) else (if zok ((401 * states) + v1) 2005 then (if zok v1 401 then (f_X6_back_L24 fu K states past n (v1 + 1) (upd now (Int32.toNatClampNeg v1) (past (Int32.toNatClampNeg ((401 * states) + v1))))) else none) else none)
def f_X6_back (fu : Nat) (states : Int32) (now : Nat → Int32) (past : Nat → Int32) (refused : Nat → Int32)  : Option (Int32 × Int32 × (Nat → Int32) × (Nat → Int32)) :=
  if states = 0 then ((f_X6_no refused ).bind fun r1 => some (r1.1, states, now, r1.2)) else (f_X6_back_L24 fu (fun (x1 : Int32) (x2 : Nat → Int32) => some (states - 1, states - 1, x2, refused)) (states - 1) past fu 0 now)
abbrev wk_X6_back : List Cond := Cond.code yX6_back cX6_back 2 (some .int) :: WB
abbrev rm_X6_back : Room := { frames := 1, cells := 0, slots := 0, locals := 20 }
set_option maxHeartbeats 4000000 in
set_option maxRecDepth 100000 in
theorem c_X6_back (l : Launch) (D : va_G) (k : Nat → Nat) (o on op orr ot oh og od : Nat) (states : Int32) (bytes : Int32) (reading : Int32) (at_ : Int32) (wrongAt : Int32) (number : Int32) (hh : Int64) (now : Nat → Int32) (past : Nat → Int32) (refused : Nat → Int32)  (fu : Nat) {res : Int32 × Int32 × (Nat → Int32) × (Nat → Int32)} (h : f_X6_back fu states now past refused  = some res) : Ci l yX6_back wk_X6_back rm_X6_back D k [.ref o] [(o, .inr (6, [.ref on, .ref op, .int states, .ref orr, .ref ot, .int bytes, .ref oh, .ref og, .ref od, .int reading, .int at_, .int wrongAt, .int number, .long hh])), (on, .inl (k 0, 401, .inl now)), (op, .inl (k 0, 2005, .inl past)), (orr, .inl (k 0, 3, .inl refused))] [(o, .inr (6, [.ref on, .ref op, .int res.2.1, .ref orr, .ref ot, .int bytes, .ref oh, .ref og, .ref od, .int reading, .int at_, .int wrongAt, .int number, .long hh])), (on, .inl (k 0, 401, .inl res.2.2.1)), (op, .inl (k 0, 2005, .inl past)), (orr, .inl (k 0, 3, .inl res.2.2.2))] res.1 := by
  unfold Ci
  intro sz
  refine Met.ofW (cc := cX6_back) (maxL := 2) (ret := (some .int)) (by decide) rfl ?_
  intro p e s m args below meth c s₁ B hml hv
  obtain ⟨rfl, hsz, hP, hK, hD0, hm⟩ := hv
  have hx := B.exec
  have hb := B.bytes
  have hr := B.returns
  have ht : ∀ w ∈ WB, w.before _ s = true := fun w hw => atoms_spec (ws := wk_X6_back) B.pre w (List.mem_cons_of_mem _ hw)
  have hown : s.vm.findClass RX6 = some m.cls := findClass_of_methodNamed B.named
  have hlocks := B.notSynchronized
  subst hsz
  have hD := hD0.self (sz := s.heap.size)
  generalize hAe : va_A [(o, .inr (6, [.ref on, .ref op, .int states, .ref orr, .ref ot, .int bytes, .ref oh, .ref og, .ref od, .int reading, .int at_, .int wrongAt, .int number, .long hh])), (on, .inl (k 0, 401, .inl now)), (op, .inl (k 0, 2005, .inl past)), (orr, .inl (k 0, 3, .inl refused))] s.heap.size = A at hD hm ⊢
  have hA : ∀ q : Nat, s.heap.size ≤ q → A q := fun q h => by rw [← hAe]; exact Or.inr h
  have hS : va_S A s.heap s.heap [] := va_S.rf
  have hl := lv_entry ([.ref o]) (n := 2) (Nat.le_of_ble_eq_true rfl)
  rw [lg_entry_eq]
  generalize (lg_sl ([.ref o]) ++ List.replicate (2 - (lg_sl ([.ref o])).length) Slot.unset).toArray = ls at hl ⊢
  have hl : lv_has ls 2 [(0, .ref o)] := hl
  obtain ⟨H, hH⟩ : ∃ H, H = s.heap := ⟨_, rfl⟩
  rw [← hH] at hP
  have hS : va_S A s.heap H [] := by rw [hH]; exact hS
  suffices hgo : W p l e _ s m _ below meth c H [] 0 0 _ _ by rw [hH] at hgo; exact hgo
  unfold f_X6_back at h
  refine lv_aload_n hx hb dX6_back_0 rfl (lv_at hl 0 rfl) ?_
  refine va_get (D := D) (ci := 6) (v := .int states) (C := RX6) (T := TX6) (N := 14) hx hb ht hiX6 hown hK hP 0 rfl rfl 2 (by decide) (ht _ wb767) (fun _ h9 => h9) rfl dX6_back_1 ?_
  refine lv_if_ne (tgt := 12) hx hb dX6_back_4 (by decide) (fun c2 => ?_) (fun c2 => ?_)
  · have h := zf h c2
    refine lv_aload_n hx hb dX6_back_12 rfl (lv_at hl 0 rfl) ?_
    refine lv_dup hx hb dX6_back_13 rfl ?_
    refine va_get (D := D) (ci := 6) (v := .int states) (C := RX6) (T := TX6) (N := 14) hx hb ht hiX6 hown hK hP 0 rfl rfl 2 (by decide) (ht _ wb767) (fun _ h9 => h9) rfl dX6_back_14 ?_
    refine lv_iconst (v := 1) hx hb dX6_back_17 (by decide) ?_
    refine lv_isub hx hb dX6_back_18 ?_
    refine va_put (D := D) (ci := 6) (v := .int (states - 1)) (ty := .int) (C := RX6) (T := TX6) (N := 14) hx hb ht hiX6 tyX6 tyX6_ok nmX6 hown hK hP hD hS 0 rfl rfl 2 (by decide) (ht _ wb767) (fun _ h9 => h9) rfl (by decide +kernel) rfl rfl (Nat.le_of_ble_eq_true rfl) dX6_back_19 (fun H locs hP hD hS => ?_)
    have hP : va_P D vwCl [(o, .inr (6, [.ref on, .ref op, .int (states - 1), .ref orr, .ref ot, .int bytes, .ref oh, .ref og, .ref od, .int reading, .int at_, .int wrongAt, .int number, .long hh])), (on, .inl (k 0, 401, .inl now)), (op, .inl (k 0, 2005, .inl past)), (orr, .inl (k 0, 3, .inl refused))] H := hP
    have hD : va_D A [(o, .inr (6, [.ref on, .ref op, .int (states - 1), .ref orr, .ref ot, .int bytes, .ref oh, .ref og, .ref od, .int reading, .int at_, .int wrongAt, .int number, .long hh])), (on, .inl (k 0, 401, .inl now)), (op, .inl (k 0, 2005, .inl past)), (orr, .inl (k 0, 3, .inl refused))] := hD
    refine lv_iconst (v := 0) hx hb dX6_back_22 (by decide) ?_
    refine lv_istore_n (lv' := [(1, .int 0), (0, .ref o)]) hx hb dX6_back_23 rfl hl (by decide) rfl (fun ls hl => ?_)
    have loop24 : ∀ (states : Int32) (bytes : Int32) (reading : Int32) (at_ : Int32) (wrongAt : Int32) (number : Int32) (hh : Int64) (past : Nat → Int32) (refused : Nat → Int32), ∀ (K : Int32 → (Nat → Int32) → Option (Int32 × Int32 × (Nat → Int32) × (Nat → Int32))), (∀ (v1 : Int32) (now : Nat → Int32), K v1 now = some res → ∀ (H : Heap) (locs : List Loc), va_P D vwCl [(o, .inr (6, [.ref on, .ref op, .int states, .ref orr, .ref ot, .int bytes, .ref oh, .ref og, .ref od, .int reading, .int at_, .int wrongAt, .int number, .long hh])), (on, .inl (k 0, 401, .inl now)), (op, .inl (k 0, 2005, .inl past)), (orr, .inl (k 0, 3, .inl refused))] H → va_D A [(o, .inr (6, [.ref on, .ref op, .int states, .ref orr, .ref ot, .int bytes, .ref oh, .ref og, .ref od, .int reading, .int at_, .int wrongAt, .int number, .long hh])), (on, .inl (k 0, 401, .inl now)), (op, .inl (k 0, 2005, .inl past)), (orr, .inl (k 0, 3, .inl refused))] → va_S A s.heap H locs → ∀ ls : Array Slot, lv_has ls 2 [(0, .ref o), (1, .int v1)] → W p l e (headSpec wk_X6_back rm_X6_back).room s m ([.ref o] : List Value).toArray below meth c H locs 0 0 (MQ below (va_Qi (fun xq9 (_ : Unit) => xq9 = res.1) (fun _ tq9 => va_P D vwCl [(o, .inr (6, [.ref on, .ref op, .int res.2.1, .ref orr, .ref ot, .int bytes, .ref oh, .ref og, .ref od, .int reading, .int at_, .int wrongAt, .int number, .long hh])), (on, .inl (k 0, 401, .inl res.2.2.1)), (op, .inl (k 0, 2005, .inl past)), (orr, .inl (k 0, 3, .inl res.2.2.2))] tq9.heap) A) ([.ref o] : List Value).toArray s 0 0 A) (F0 m 58 ls [])) → ∀ (n : Nat) (v1 : Int32) (now : Nat → Int32), f_X6_back_L24 fu K states past n v1 now = some res → ∀ (H : Heap) (locs : List Loc), va_P D vwCl [(o, .inr (6, [.ref on, .ref op, .int states, .ref orr, .ref ot, .int bytes, .ref oh, .ref og, .ref od, .int reading, .int at_, .int wrongAt, .int number, .long hh])), (on, .inl (k 0, 401, .inl now)), (op, .inl (k 0, 2005, .inl past)), (orr, .inl (k 0, 3, .inl refused))] H → va_D A [(o, .inr (6, [.ref on, .ref op, .int states, .ref orr, .ref ot, .int bytes, .ref oh, .ref og, .ref od, .int reading, .int at_, .int wrongAt, .int number, .long hh])), (on, .inl (k 0, 401, .inl now)), (op, .inl (k 0, 2005, .inl past)), (orr, .inl (k 0, 3, .inl refused))] → va_S A s.heap H locs → ∀ ls : Array Slot, lv_has ls 2 [(0, .ref o), (1, .int v1)] → W p l e (headSpec wk_X6_back rm_X6_back).room s m ([.ref o] : List Value).toArray below meth c H locs 0 0 (MQ below (va_Qi (fun xq9 (_ : Unit) => xq9 = res.1) (fun _ tq9 => va_P D vwCl [(o, .inr (6, [.ref on, .ref op, .int res.2.1, .ref orr, .ref ot, .int bytes, .ref oh, .ref og, .ref od, .int reading, .int at_, .int wrongAt, .int number, .long hh])), (on, .inl (k 0, 401, .inl res.2.2.1)), (op, .inl (k 0, 2005, .inl past)), (orr, .inl (k 0, 3, .inl res.2.2.2))] tq9.heap) A) ([.ref o] : List Value).toArray s 0 0 A) (F0 m 24 ls []) := by
      intro states bytes reading at_ wrongAt number hh past refused K hKK n
      induction n with
      | zero =>
        intro v1 now h
        rw [f_X6_back_L24] at h
        cases h
      | succ n ih =>
        intro v1 now h H locs hP hD hS ls hl
        rw [f_X6_back_L24] at h
        refine lv_iload_n hx hb dX6_back_24 rfl (lv_at hl 1 rfl) ?_
        refine lv_sipush (v := 401) hx hb dX6_back_25 (by decide) ?_
        refine lv_icmp_ge (tgt := 58) hx hb dX6_back_28 (by decide) (fun c1 => ?_) (fun c1 => ?_)
        · have h := zt h c1
          exact hKK _ _ h _ _ hP hD hS _ (lv_sub hl [0, 1] rfl)
        · have h := zf h c1
          refine lv_aload_n hx hb dX6_back_31 rfl (lv_at hl 0 rfl) ?_
          refine va_get (D := D) (ci := 6) (v := .ref on) (C := RX6) (T := TX6) (N := 14) hx hb ht hiX6 hown hK hP 0 rfl rfl 0 (by decide) (ht _ wb765) (fun _ h9 => h9) rfl dX6_back_32 ?_
          refine lv_iload_n hx hb dX6_back_35 rfl (lv_at hl 1 rfl) ?_
          refine lv_aload_n hx hb dX6_back_36 rfl (lv_at hl 0 rfl) ?_
          refine va_get (D := D) (ci := 6) (v := .ref op) (C := RX6) (T := TX6) (N := 14) hx hb ht hiX6 hown hK hP 0 rfl rfl 1 (by decide) (ht _ wb766) (fun _ h9 => h9) rfl dX6_back_37 ?_
          refine lv_sipush (v := 401) hx hb dX6_back_40 (by decide) ?_
          refine lv_aload_n hx hb dX6_back_43 rfl (lv_at hl 0 rfl) ?_
          refine va_get (D := D) (ci := 6) (v := .int states) (C := RX6) (T := TX6) (N := 14) hx hb ht hiX6 hown hK hP 0 rfl rfl 2 (by decide) (ht _ wb767) (fun _ h9 => h9) rfl dX6_back_44 ?_
          refine lv_imul hx hb dX6_back_47 ?_
          refine lv_iload_n hx hb dX6_back_48 rfl (lv_at hl 1 rfl) ?_
          refine lv_iadd hx hb dX6_back_49 ?_
          obtain ⟨hi1, h⟩ := zg h
          refine va_iald hx hb hK hP 2 0 rfl rfl hi1 dX6_back_50 ?_
          obtain ⟨hi2, h⟩ := zg h
          refine va_iast hx hb hK hP hD hS 1 0 rfl rfl hi2 dX6_back_51 (fun H locs hP hD hS => ?_)
          have hP : va_P D vwCl [(o, .inr (6, [.ref on, .ref op, .int states, .ref orr, .ref ot, .int bytes, .ref oh, .ref og, .ref od, .int reading, .int at_, .int wrongAt, .int number, .long hh])), (on, .inl (k 0, 401, .inl (upd now (Int32.toNatClampNeg v1) (past (Int32.toNatClampNeg ((401 * states) + v1)))))), (op, .inl (k 0, 2005, .inl past)), (orr, .inl (k 0, 3, .inl refused))] H := hP
          have hD : va_D A [(o, .inr (6, [.ref on, .ref op, .int states, .ref orr, .ref ot, .int bytes, .ref oh, .ref og, .ref od, .int reading, .int at_, .int wrongAt, .int number, .long hh])), (on, .inl (k 0, 401, .inl (upd now (Int32.toNatClampNeg v1) (past (Int32.toNatClampNeg ((401 * states) + v1)))))), (op, .inl (k 0, 2005, .inl past)), (orr, .inl (k 0, 3, .inl refused))] := hD
          refine lv_iinc (v := v1 + 1) (lv' := [(1, .int (v1 + 1)), (0, .ref o)]) hx hb dX6_back_52 hl (k := 1) rfl rfl (by decide) rfl (fun ls hl => ?_)
          refine lv_goto (tgt := 24) hx hb dX6_back_55 (by decide) ?_
          exact ih _ _ h _ _ hP hD hS _ (lv_sub hl [1, 0] rfl)
    refine loop24 _ _ _ _ _ _ _ _ _ _ ?_ fu _ _ h _ _ hP hD hS _ (lv_sub hl [1, 0] rfl)
    intro x1 x2 h H locs hP hD hS ls hl
    try dsimp only at h
    have hP : va_P D vwCl [(o, .inr (6, [.ref on, .ref op, .int (states - 1), .ref orr, .ref ot, .int bytes, .ref oh, .ref og, .ref od, .int reading, .int at_, .int wrongAt, .int number, .long hh])), (on, .inl (k 0, 401, .inl x2)), (op, .inl (k 0, 2005, .inl past)), (orr, .inl (k 0, 3, .inl refused))] H := hP
    have hD : va_D A [(o, .inr (6, [.ref on, .ref op, .int (states - 1), .ref orr, .ref ot, .int bytes, .ref oh, .ref og, .ref od, .int reading, .int at_, .int wrongAt, .int number, .long hh])), (on, .inl (k 0, 401, .inl x2)), (op, .inl (k 0, 2005, .inl past)), (orr, .inl (k 0, 3, .inl refused))] := hD
    have hl : lv_has ls 2 [(0, .ref o), (1, .int x1)] := hl
    refine lv_aload_n hx hb dX6_back_58 rfl (lv_at hl 0 rfl) ?_
    refine va_get (D := D) (ci := 6) (v := .int (states - 1)) (C := RX6) (T := TX6) (N := 14) hx hb ht hiX6 hown hK hP 0 rfl rfl 2 (by decide) (ht _ wb767) (fun _ h9 => h9) rfl dX6_back_59 ?_
    obtain rfl := Option.some.inj h
    exact W.iret (v := states - 1) hx hb hr (fun t ht9 hW => ⟨⟨_, (), rfl, rfl, zend ht9 hP⟩, hS.F ht9⟩) hS.2.2 dX6_back_62
  · have h := zt h c2
    refine lv_aload_n hx hb dX6_back_7 rfl (lv_at hl 0 rfl) ?_
    obtain ⟨r1, h1, h⟩ := zb h
    refine zi (zrV (C := RX6) (T := TX6) (N := 14) (As := []) (rest := []) ⟨hx, hb, hml, hown, ht⟩ (c_X6_no l D k o on op orr ot oh og od states bytes reading at_ wrongAt number hh refused  h1 _) (cwV 0 ht (gdV wb812 wb814 wb28 wb80 wb815) rfl rfl rfl (by decide +kernel) ⟨Nat.le_of_ble_eq_true rfl, Nat.le_of_ble_eq_true rfl⟩) hK hP hD hS hA hm [0, 3] rfl rfl 0 6 rfl rfl rfl hl.1 rfl (Nat.le_of_ble_eq_true rfl) dX6_back_8 ⟨Nat.le_refl _, Nat.le_refl _⟩) hP hD hS hA [0, 3] rfl rfl (fun H locs hP hD hS => ?_)
    have hP : va_P D vwCl [(o, .inr (6, [.ref on, .ref op, .int states, .ref orr, .ref ot, .int bytes, .ref oh, .ref og, .ref od, .int reading, .int at_, .int wrongAt, .int number, .long hh])), (on, .inl (k 0, 401, .inl now)), (op, .inl (k 0, 2005, .inl past)), (orr, .inl (k 0, 3, .inl r1.2))] H := hP
    have hD : va_D A [(o, .inr (6, [.ref on, .ref op, .int states, .ref orr, .ref ot, .int bytes, .ref oh, .ref og, .ref od, .int reading, .int at_, .int wrongAt, .int number, .long hh])), (on, .inl (k 0, 401, .inl now)), (op, .inl (k 0, 2005, .inl past)), (orr, .inl (k 0, 3, .inl r1.2))] := hD
    obtain rfl := Option.some.inj h
    exact W.iret (v := r1.1) hx hb hr (fun t ht9 hW => ⟨⟨_, (), rfl, rfl, zend ht9 hP⟩, hS.F ht9⟩) hS.2.2 dX6_back_11
def f_X6_isRule (now : Nat → Int32) (a1 : Int32) : Option (Bool) :=
  if zok 32 401 then ((f_X6_in  a1 0 ((now (Int32.toNatClampNeg 32)) - 1)).bind fun r1 => some (r1)) else none
abbrev wk_X6_isRule : List Cond := Cond.code yX6_isRule cX6_isRule 2 (some .boolean) :: WB
abbrev rm_X6_isRule : Room := { frames := 1, cells := 0, slots := 0, locals := 22 }
set_option maxHeartbeats 4000000 in
set_option maxRecDepth 100000 in
theorem c_X6_isRule (l : Launch) (D : va_G) (k : Nat → Nat) (o on op orr ot oh og od : Nat) (states : Int32) (bytes : Int32) (reading : Int32) (at_ : Int32) (wrongAt : Int32) (number : Int32) (hh : Int64) (now : Nat → Int32) (a1 : Int32) {res : Bool} (h : f_X6_isRule now a1 = some res) : Ci l yX6_isRule wk_X6_isRule rm_X6_isRule D k [.ref o, .int a1] [(o, .inr (6, [.ref on, .ref op, .int states, .ref orr, .ref ot, .int bytes, .ref oh, .ref og, .ref od, .int reading, .int at_, .int wrongAt, .int number, .long hh])), (on, .inl (k 0, 401, .inl now))] [(o, .inr (6, [.ref on, .ref op, .int states, .ref orr, .ref ot, .int bytes, .ref oh, .ref og, .ref od, .int reading, .int at_, .int wrongAt, .int number, .long hh])), (on, .inl (k 0, 401, .inl now))] (zB res) := by
  unfold Ci
  intro sz
  refine Met.ofW (cc := cX6_isRule) (maxL := 2) (ret := (some .boolean)) (by decide) rfl ?_
  intro p e s m args below meth c s₁ B hml hv
  obtain ⟨rfl, hsz, hP, hK, hD0, hm⟩ := hv
  have hx := B.exec
  have hb := B.bytes
  have hr := B.returns
  have ht : ∀ w ∈ WB, w.before _ s = true := fun w hw => atoms_spec (ws := wk_X6_isRule) B.pre w (List.mem_cons_of_mem _ hw)
  have hown : s.vm.findClass RX6 = some m.cls := findClass_of_methodNamed B.named
  have hlocks := B.notSynchronized
  subst hsz
  have hD := hD0.self (sz := s.heap.size)
  generalize hAe : va_A [(o, .inr (6, [.ref on, .ref op, .int states, .ref orr, .ref ot, .int bytes, .ref oh, .ref og, .ref od, .int reading, .int at_, .int wrongAt, .int number, .long hh])), (on, .inl (k 0, 401, .inl now))] s.heap.size = A at hD hm ⊢
  have hA : ∀ q : Nat, s.heap.size ≤ q → A q := fun q h => by rw [← hAe]; exact Or.inr h
  have hS : va_S A s.heap s.heap [] := va_S.rf
  have hl := lv_entry ([.ref o, .int a1]) (n := 2) (Nat.le_of_ble_eq_true rfl)
  rw [lg_entry_eq]
  generalize (lg_sl ([.ref o, .int a1]) ++ List.replicate (2 - (lg_sl ([.ref o, .int a1])).length) Slot.unset).toArray = ls at hl ⊢
  have hl : lv_has ls 2 [(0, .ref o), (1, .int a1)] := hl
  obtain ⟨H, hH⟩ : ∃ H, H = s.heap := ⟨_, rfl⟩
  rw [← hH] at hP
  have hS : va_S A s.heap H [] := by rw [hH]; exact hS
  suffices hgo : W p l e _ s m _ below meth c H [] 0 0 _ _ by rw [hH] at hgo; exact hgo
  unfold f_X6_isRule at h
  refine lv_iload_n hx hb dX6_isRule_0 rfl (lv_at hl 1 rfl) ?_
  refine lv_iconst (v := 0) hx hb dX6_isRule_1 (by decide) ?_
  refine lv_aload_n hx hb dX6_isRule_2 rfl (lv_at hl 0 rfl) ?_
  refine va_get (D := D) (ci := 6) (v := .ref on) (C := RX6) (T := TX6) (N := 14) hx hb ht hiX6 hown hK hP 0 rfl rfl 0 (by decide) (ht _ wb765) (fun _ h9 => h9) rfl dX6_isRule_3 ?_
  refine lv_bipush (v := 32) hx hb dX6_isRule_6 (by decide) ?_
  obtain ⟨hi1, h⟩ := zg h
  refine va_iald hx hb hK hP 1 0 rfl rfl hi1 dX6_isRule_8 ?_
  refine lv_iconst (v := 1) hx hb dX6_isRule_9 (by decide) ?_
  refine lv_isub hx hb dX6_isRule_10 ?_
  obtain ⟨r1, h1, h⟩ := zb h
  refine zi (zrS (As := [.int a1, .int 0, .int ((now (Int32.toNatClampNeg 32)) - 1)]) (rest := []) ⟨hx, hb, hml, hown, ht⟩ (c_X6_in l D k   a1 0 ((now (Int32.toNatClampNeg 32)) - 1) h1 _) (va_cwS 3 ht (gdS wb820 wb821 wb80 wb822) rfl rfl rfl (by decide +kernel) ⟨Nat.le_of_ble_eq_true rfl, Nat.le_of_ble_eq_true rfl⟩) hK hP hD hS hA hm [] rfl rfl rfl hl.1 rfl (Nat.le_of_ble_eq_true rfl) dX6_isRule_11 ⟨Nat.le_refl _, Nat.le_refl _⟩) hP hD hS hA [] rfl rfl (fun H locs hP hD hS => ?_)
  have hP : va_P D vwCl [(o, .inr (6, [.ref on, .ref op, .int states, .ref orr, .ref ot, .int bytes, .ref oh, .ref og, .ref od, .int reading, .int at_, .int wrongAt, .int number, .long hh])), (on, .inl (k 0, 401, .inl now))] H := hP
  have hD : va_D A [(o, .inr (6, [.ref on, .ref op, .int states, .ref orr, .ref ot, .int bytes, .ref oh, .ref og, .ref od, .int reading, .int at_, .int wrongAt, .int number, .long hh])), (on, .inl (k 0, 401, .inl now))] := hD
  obtain rfl := Option.some.inj h
  exact W.zret (v := zB r1) (ty := .boolean) hx hb hr (zB_nar _) (fun t ht9 hW => ⟨⟨_, (), rfl, rfl, zend ht9 hP⟩, hS.F ht9⟩) hS.2.2 dX6_isRule_14
def f_X6_zone_L43 (fu : Nat) (K : Int32 → Int32 → (Nat → Int32) → Option (Int32 × Int32 × (Nat → Int32) × (Nat → Int32) × (Nat → Int32))) (v1 : Int32) (v3 : Int32) : Nat → Int32 → Int32 → (Nat → Int32) → Option (Int32 × Int32 × (Nat → Int32) × (Nat → Int32) × (Nat → Int32))
  | 0, _, _, _ => none
  | n + 1, v4, v5, now =>
  if v3 < v5 then (K v4 v5 now) else (if zok (0 + v5) 401 then (if (now (Int32.toNatClampNeg (0 + v5))) = v1 then (if zok (0 + v5) 401 then (f_X6_zone_L43 fu K v1 v3 n (v4 + 0) (v5 + 1) (upd now (Int32.toNatClampNeg (0 + v5)) v1)) else none) else (if zok (0 + v5) 401 then (f_X6_zone_L43 fu K v1 v3 n (v4 + 1) (v5 + 1) (upd now (Int32.toNatClampNeg (0 + v5)) v1)) else none)) else none)
def f_X6_zone (fu : Nat) (states : Int32) (now : Nat → Int32) (past : Nat → Int32) (refused : Nat → Int32) (a1 : Int32) (a2 : Int32) (a3 : Int32) : Option (Int32 × Int32 × (Nat → Int32) × (Nat → Int32) × (Nat → Int32)) :=
  (f_X6_in  a1 0 5).bind fun r1 => if (zB r1) = 0 then ((f_X6_bad refused ).bind fun r2 => some (r2.1, states, now, past, r2.2)) else ((f_X6_isAddress  a2).bind fun r3 => if (zB r3) = 0 then ((f_X6_bad refused ).bind fun r4 => some (r4.1, states, now, past, r4.2)) else ((f_X6_isAddress  a3).bind fun r5 => if (zB r5) = 0 then ((f_X6_bad refused ).bind fun r6 => some (r6.1, states, now, past, r6.2)) else (if a2 ≤ a3 then ((f_X6_remembers fu states now past ).bind fun r7 => f_X6_zone_L43 fu (fun (x1 : Int32) (x2 : Int32) (x3 : Nat → Int32) => some (x1, r7.1, x3, r7.2, refused)) a1 a3 fu 0 a2 now) else ((f_X6_bad refused ).bind fun r8 => some (r8.1, states, now, past, r8.2)))))
abbrev wk_X6_zone : List Cond := Cond.code yX6_zone cX6_zone 6 (some .int) :: WB
abbrev rm_X6_zone : Room := { frames := 2, cells := 0, slots := 0, locals := 42 }
set_option maxHeartbeats 4000000 in
set_option maxRecDepth 100000 in
theorem c_X6_zone (l : Launch) (D : va_G) (k : Nat → Nat) (o on op orr ot oh og od : Nat) (states : Int32) (bytes : Int32) (reading : Int32) (at_ : Int32) (wrongAt : Int32) (number : Int32) (hh : Int64) (now : Nat → Int32) (past : Nat → Int32) (refused : Nat → Int32) (a1 : Int32) (a2 : Int32) (a3 : Int32) (fu : Nat) {res : Int32 × Int32 × (Nat → Int32) × (Nat → Int32) × (Nat → Int32)} (h : f_X6_zone fu states now past refused a1 a2 a3 = some res) : Ci l yX6_zone wk_X6_zone rm_X6_zone D k [.ref o, .int a1, .int a2, .int a3] [(o, .inr (6, [.ref on, .ref op, .int states, .ref orr, .ref ot, .int bytes, .ref oh, .ref og, .ref od, .int reading, .int at_, .int wrongAt, .int number, .long hh])), (on, .inl (k 0, 401, .inl now)), (op, .inl (k 0, 2005, .inl past)), (orr, .inl (k 0, 3, .inl refused))] [(o, .inr (6, [.ref on, .ref op, .int res.2.1, .ref orr, .ref ot, .int bytes, .ref oh, .ref og, .ref od, .int reading, .int at_, .int wrongAt, .int number, .long hh])), (on, .inl (k 0, 401, .inl res.2.2.1)), (op, .inl (k 0, 2005, .inl res.2.2.2.1)), (orr, .inl (k 0, 3, .inl res.2.2.2.2))] res.1 := by
  unfold Ci
  intro sz
  refine Met.ofW (cc := cX6_zone) (maxL := 6) (ret := (some .int)) (by decide) rfl ?_
  intro p e s m args below meth c s₁ B hml hv
  obtain ⟨rfl, hsz, hP, hK, hD0, hm⟩ := hv
  have hx := B.exec
  have hb := B.bytes
  have hr := B.returns
  have ht : ∀ w ∈ WB, w.before _ s = true := fun w hw => atoms_spec (ws := wk_X6_zone) B.pre w (List.mem_cons_of_mem _ hw)
  have hown : s.vm.findClass RX6 = some m.cls := findClass_of_methodNamed B.named
  have hlocks := B.notSynchronized
  subst hsz
  have hD := hD0.self (sz := s.heap.size)
  generalize hAe : va_A [(o, .inr (6, [.ref on, .ref op, .int states, .ref orr, .ref ot, .int bytes, .ref oh, .ref og, .ref od, .int reading, .int at_, .int wrongAt, .int number, .long hh])), (on, .inl (k 0, 401, .inl now)), (op, .inl (k 0, 2005, .inl past)), (orr, .inl (k 0, 3, .inl refused))] s.heap.size = A at hD hm ⊢
  have hA : ∀ q : Nat, s.heap.size ≤ q → A q := fun q h => by rw [← hAe]; exact Or.inr h
  have hS : va_S A s.heap s.heap [] := va_S.rf
  have hl := lv_entry ([.ref o, .int a1, .int a2, .int a3]) (n := 6) (Nat.le_of_ble_eq_true rfl)
  rw [lg_entry_eq]
  generalize (lg_sl ([.ref o, .int a1, .int a2, .int a3]) ++ List.replicate (6 - (lg_sl ([.ref o, .int a1, .int a2, .int a3])).length) Slot.unset).toArray = ls at hl ⊢
  have hl : lv_has ls 6 [(0, .ref o), (1, .int a1), (2, .int a2), (3, .int a3)] := hl
  obtain ⟨H, hH⟩ : ∃ H, H = s.heap := ⟨_, rfl⟩
  rw [← hH] at hP
  have hS : va_S A s.heap H [] := by rw [hH]; exact hS
  suffices hgo : W p l e _ s m _ below meth c H [] 0 0 _ _ by rw [hH] at hgo; exact hgo
  unfold f_X6_zone at h
  refine lv_iload_n hx hb dX6_zone_0 rfl (lv_at hl 1 rfl) ?_
  refine lv_iconst (v := 0) hx hb dX6_zone_1 (by decide) ?_
  refine lv_iconst (v := 5) hx hb dX6_zone_2 (by decide) ?_
  obtain ⟨r1, h1, h⟩ := zb h
  refine zi (zrS (As := [.int a1, .int 0, .int 5]) (rest := []) ⟨hx, hb, hml, hown, ht⟩ (c_X6_in l D k   a1 0 5 h1 _) (va_cwS 3 ht (gdS wb820 wb821 wb80 wb822) rfl rfl rfl (by decide +kernel) ⟨Nat.le_of_ble_eq_true rfl, Nat.le_of_ble_eq_true rfl⟩) hK hP hD hS hA hm [] rfl rfl rfl hl.1 rfl (Nat.le_of_ble_eq_true rfl) dX6_zone_3 ⟨Nat.le_refl _, Nat.le_refl _⟩) hP hD hS hA [] rfl rfl (fun H locs hP hD hS => ?_)
  have hP : va_P D vwCl [(o, .inr (6, [.ref on, .ref op, .int states, .ref orr, .ref ot, .int bytes, .ref oh, .ref og, .ref od, .int reading, .int at_, .int wrongAt, .int number, .long hh])), (on, .inl (k 0, 401, .inl now)), (op, .inl (k 0, 2005, .inl past)), (orr, .inl (k 0, 3, .inl refused))] H := hP
  have hD : va_D A [(o, .inr (6, [.ref on, .ref op, .int states, .ref orr, .ref ot, .int bytes, .ref oh, .ref og, .ref od, .int reading, .int at_, .int wrongAt, .int number, .long hh])), (on, .inl (k 0, 401, .inl now)), (op, .inl (k 0, 2005, .inl past)), (orr, .inl (k 0, 3, .inl refused))] := hD
  refine lv_if_eq (tgt := 28) hx hb dX6_zone_6 (by decide) (fun c6 => ?_) (fun c6 => ?_)
  · have h := zt h c6
    refine lv_aload_n hx hb dX6_zone_28 rfl (lv_at hl 0 rfl) ?_
    obtain ⟨r2, h2, h⟩ := zb h
    refine zi (zrV (C := RX6) (T := TX6) (N := 14) (As := []) (rest := []) ⟨hx, hb, hml, hown, ht⟩ (c_X6_bad l D k o on op orr ot oh og od states bytes reading at_ wrongAt number hh refused  h2 _) (cwV 0 ht (gdV wb826 wb828 wb29 wb80 wb829) rfl rfl rfl (by decide +kernel) ⟨Nat.le_of_ble_eq_true rfl, Nat.le_of_ble_eq_true rfl⟩) hK hP hD hS hA hm [0, 3] rfl rfl 0 6 rfl rfl rfl hl.1 rfl (Nat.le_of_ble_eq_true rfl) dX6_zone_29 ⟨Nat.le_refl _, Nat.le_refl _⟩) hP hD hS hA [0, 3] rfl rfl (fun H locs hP hD hS => ?_)
    have hP : va_P D vwCl [(o, .inr (6, [.ref on, .ref op, .int states, .ref orr, .ref ot, .int bytes, .ref oh, .ref og, .ref od, .int reading, .int at_, .int wrongAt, .int number, .long hh])), (on, .inl (k 0, 401, .inl now)), (op, .inl (k 0, 2005, .inl past)), (orr, .inl (k 0, 3, .inl r2.2))] H := hP
    have hD : va_D A [(o, .inr (6, [.ref on, .ref op, .int states, .ref orr, .ref ot, .int bytes, .ref oh, .ref og, .ref od, .int reading, .int at_, .int wrongAt, .int number, .long hh])), (on, .inl (k 0, 401, .inl now)), (op, .inl (k 0, 2005, .inl past)), (orr, .inl (k 0, 3, .inl r2.2))] := hD
    obtain rfl := Option.some.inj h
    exact W.iret (v := r2.1) hx hb hr (fun t ht9 hW => ⟨⟨_, (), rfl, rfl, zend ht9 hP⟩, hS.F ht9⟩) hS.2.2 dX6_zone_32
  · have h := zf h c6
    refine lv_iload_n hx hb dX6_zone_9 rfl (lv_at hl 2 rfl) ?_
    obtain ⟨r3, h3, h⟩ := zb h
    refine zi (zrS (As := [.int a2]) (rest := []) ⟨hx, hb, hml, hown, ht⟩ (c_X6_isAddress l D k   a2 h3 _) (va_cwS 1 ht (gdS wb823 wb824 wb80 wb825) rfl rfl rfl (by decide +kernel) ⟨Nat.le_of_ble_eq_true rfl, Nat.le_of_ble_eq_true rfl⟩) hK hP hD hS hA hm [] rfl rfl rfl hl.1 rfl (Nat.le_of_ble_eq_true rfl) dX6_zone_10 ⟨Nat.le_refl _, Nat.le_refl _⟩) hP hD hS hA [] rfl rfl (fun H locs hP hD hS => ?_)
    have hP : va_P D vwCl [(o, .inr (6, [.ref on, .ref op, .int states, .ref orr, .ref ot, .int bytes, .ref oh, .ref og, .ref od, .int reading, .int at_, .int wrongAt, .int number, .long hh])), (on, .inl (k 0, 401, .inl now)), (op, .inl (k 0, 2005, .inl past)), (orr, .inl (k 0, 3, .inl refused))] H := hP
    have hD : va_D A [(o, .inr (6, [.ref on, .ref op, .int states, .ref orr, .ref ot, .int bytes, .ref oh, .ref og, .ref od, .int reading, .int at_, .int wrongAt, .int number, .long hh])), (on, .inl (k 0, 401, .inl now)), (op, .inl (k 0, 2005, .inl past)), (orr, .inl (k 0, 3, .inl refused))] := hD
    refine lv_if_eq (tgt := 28) hx hb dX6_zone_13 (by decide) (fun c5 => ?_) (fun c5 => ?_)
    · have h := zt h c5
      refine lv_aload_n hx hb dX6_zone_28 rfl (lv_at hl 0 rfl) ?_
      obtain ⟨r4, h4, h⟩ := zb h
      refine zi (zrV (C := RX6) (T := TX6) (N := 14) (As := []) (rest := []) ⟨hx, hb, hml, hown, ht⟩ (c_X6_bad l D k o on op orr ot oh og od states bytes reading at_ wrongAt number hh refused  h4 _) (cwV 0 ht (gdV wb826 wb828 wb29 wb80 wb829) rfl rfl rfl (by decide +kernel) ⟨Nat.le_of_ble_eq_true rfl, Nat.le_of_ble_eq_true rfl⟩) hK hP hD hS hA hm [0, 3] rfl rfl 0 6 rfl rfl rfl hl.1 rfl (Nat.le_of_ble_eq_true rfl) dX6_zone_29 ⟨Nat.le_refl _, Nat.le_refl _⟩) hP hD hS hA [0, 3] rfl rfl (fun H locs hP hD hS => ?_)
      have hP : va_P D vwCl [(o, .inr (6, [.ref on, .ref op, .int states, .ref orr, .ref ot, .int bytes, .ref oh, .ref og, .ref od, .int reading, .int at_, .int wrongAt, .int number, .long hh])), (on, .inl (k 0, 401, .inl now)), (op, .inl (k 0, 2005, .inl past)), (orr, .inl (k 0, 3, .inl r4.2))] H := hP
      have hD : va_D A [(o, .inr (6, [.ref on, .ref op, .int states, .ref orr, .ref ot, .int bytes, .ref oh, .ref og, .ref od, .int reading, .int at_, .int wrongAt, .int number, .long hh])), (on, .inl (k 0, 401, .inl now)), (op, .inl (k 0, 2005, .inl past)), (orr, .inl (k 0, 3, .inl r4.2))] := hD
      obtain rfl := Option.some.inj h
      exact W.iret (v := r4.1) hx hb hr (fun t ht9 hW => ⟨⟨_, (), rfl, rfl, zend ht9 hP⟩, hS.F ht9⟩) hS.2.2 dX6_zone_32
    · have h := zf h c5
      refine lv_iload_n hx hb dX6_zone_16 rfl (lv_at hl 3 rfl) ?_
      obtain ⟨r5, h5, h⟩ := zb h
      refine zi (zrS (As := [.int a3]) (rest := []) ⟨hx, hb, hml, hown, ht⟩ (c_X6_isAddress l D k   a3 h5 _) (va_cwS 1 ht (gdS wb823 wb824 wb80 wb825) rfl rfl rfl (by decide +kernel) ⟨Nat.le_of_ble_eq_true rfl, Nat.le_of_ble_eq_true rfl⟩) hK hP hD hS hA hm [] rfl rfl rfl hl.1 rfl (Nat.le_of_ble_eq_true rfl) dX6_zone_17 ⟨Nat.le_refl _, Nat.le_refl _⟩) hP hD hS hA [] rfl rfl (fun H locs hP hD hS => ?_)
      have hP : va_P D vwCl [(o, .inr (6, [.ref on, .ref op, .int states, .ref orr, .ref ot, .int bytes, .ref oh, .ref og, .ref od, .int reading, .int at_, .int wrongAt, .int number, .long hh])), (on, .inl (k 0, 401, .inl now)), (op, .inl (k 0, 2005, .inl past)), (orr, .inl (k 0, 3, .inl refused))] H := hP
      have hD : va_D A [(o, .inr (6, [.ref on, .ref op, .int states, .ref orr, .ref ot, .int bytes, .ref oh, .ref og, .ref od, .int reading, .int at_, .int wrongAt, .int number, .long hh])), (on, .inl (k 0, 401, .inl now)), (op, .inl (k 0, 2005, .inl past)), (orr, .inl (k 0, 3, .inl refused))] := hD
      refine lv_if_eq (tgt := 28) hx hb dX6_zone_20 (by decide) (fun c4 => ?_) (fun c4 => ?_)
      · have h := zt h c4
        refine lv_aload_n hx hb dX6_zone_28 rfl (lv_at hl 0 rfl) ?_
        obtain ⟨r6, h6, h⟩ := zb h
        refine zi (zrV (C := RX6) (T := TX6) (N := 14) (As := []) (rest := []) ⟨hx, hb, hml, hown, ht⟩ (c_X6_bad l D k o on op orr ot oh og od states bytes reading at_ wrongAt number hh refused  h6 _) (cwV 0 ht (gdV wb826 wb828 wb29 wb80 wb829) rfl rfl rfl (by decide +kernel) ⟨Nat.le_of_ble_eq_true rfl, Nat.le_of_ble_eq_true rfl⟩) hK hP hD hS hA hm [0, 3] rfl rfl 0 6 rfl rfl rfl hl.1 rfl (Nat.le_of_ble_eq_true rfl) dX6_zone_29 ⟨Nat.le_refl _, Nat.le_refl _⟩) hP hD hS hA [0, 3] rfl rfl (fun H locs hP hD hS => ?_)
        have hP : va_P D vwCl [(o, .inr (6, [.ref on, .ref op, .int states, .ref orr, .ref ot, .int bytes, .ref oh, .ref og, .ref od, .int reading, .int at_, .int wrongAt, .int number, .long hh])), (on, .inl (k 0, 401, .inl now)), (op, .inl (k 0, 2005, .inl past)), (orr, .inl (k 0, 3, .inl r6.2))] H := hP
        have hD : va_D A [(o, .inr (6, [.ref on, .ref op, .int states, .ref orr, .ref ot, .int bytes, .ref oh, .ref og, .ref od, .int reading, .int at_, .int wrongAt, .int number, .long hh])), (on, .inl (k 0, 401, .inl now)), (op, .inl (k 0, 2005, .inl past)), (orr, .inl (k 0, 3, .inl r6.2))] := hD
        obtain rfl := Option.some.inj h
        exact W.iret (v := r6.1) hx hb hr (fun t ht9 hW => ⟨⟨_, (), rfl, rfl, zend ht9 hP⟩, hS.F ht9⟩) hS.2.2 dX6_zone_32
      · have h := zf h c4
        refine lv_iload_n hx hb dX6_zone_23 rfl (lv_at hl 2 rfl) ?_
        refine lv_iload_n hx hb dX6_zone_24 rfl (lv_at hl 3 rfl) ?_
        refine lv_icmp_le (tgt := 33) hx hb dX6_zone_25 (by decide) (fun c3 => ?_) (fun c3 => ?_)
        · have h := zt h c3
          refine lv_aload_n hx hb dX6_zone_33 rfl (lv_at hl 0 rfl) ?_
          obtain ⟨r7, h7, h⟩ := zb h
          refine zv (zrV (C := RX6) (T := TX6) (N := 14) (As := []) (rest := []) ⟨hx, hb, hml, hown, ht⟩ (c_X6_remembers l D k o on op orr ot oh og od states bytes reading at_ wrongAt number hh now past  fu h7 _) (cwV 0 ht (gdV wb830 wb832 wb30 wb80 wb833) rfl rfl rfl (by decide +kernel) ⟨Nat.le_of_ble_eq_true rfl, Nat.le_of_ble_eq_true rfl⟩) hK hP hD hS hA hm [0, 1, 2] rfl rfl 0 6 rfl rfl rfl hl.1 rfl (Nat.le_of_ble_eq_true rfl) dX6_zone_34 ⟨Nat.le_refl _, Nat.le_refl _⟩) hP hD hS hA [0, 1, 2] rfl rfl (fun H locs hP hD hS => ?_)
          have hP : va_P D vwCl [(o, .inr (6, [.ref on, .ref op, .int r7.1, .ref orr, .ref ot, .int bytes, .ref oh, .ref og, .ref od, .int reading, .int at_, .int wrongAt, .int number, .long hh])), (on, .inl (k 0, 401, .inl now)), (op, .inl (k 0, 2005, .inl r7.2)), (orr, .inl (k 0, 3, .inl refused))] H := hP
          have hD : va_D A [(o, .inr (6, [.ref on, .ref op, .int r7.1, .ref orr, .ref ot, .int bytes, .ref oh, .ref og, .ref od, .int reading, .int at_, .int wrongAt, .int number, .long hh])), (on, .inl (k 0, 401, .inl now)), (op, .inl (k 0, 2005, .inl r7.2)), (orr, .inl (k 0, 3, .inl refused))] := hD
          refine lv_iconst (v := 0) hx hb dX6_zone_37 (by decide) ?_
          refine lv_istore (lv' := [(4, .int 0), (0, .ref o), (1, .int a1), (2, .int a2), (3, .int a3)]) hx hb dX6_zone_38 hl (by decide) rfl (fun ls hl => ?_)
          refine lv_iload_n hx hb dX6_zone_40 rfl (lv_at hl 3 rfl) ?_
          refine lv_istore (lv' := [(5, .int a2), (4, .int 0), (0, .ref o), (1, .int a1), (2, .int a2), (3, .int a3)]) hx hb dX6_zone_41 hl (by decide) rfl (fun ls hl => ?_)
          have loop43 : ∀ (v1 : Int32) (v2 : Int32) (v3 : Int32) (states : Int32) (bytes : Int32) (reading : Int32) (at_ : Int32) (wrongAt : Int32) (number : Int32) (hh : Int64) (past : Nat → Int32) (refused : Nat → Int32), ∀ (K : Int32 → Int32 → (Nat → Int32) → Option (Int32 × Int32 × (Nat → Int32) × (Nat → Int32) × (Nat → Int32))), (∀ (v4 : Int32) (v5 : Int32) (now : Nat → Int32), K v4 v5 now = some res → ∀ (H : Heap) (locs : List Loc), va_P D vwCl [(o, .inr (6, [.ref on, .ref op, .int states, .ref orr, .ref ot, .int bytes, .ref oh, .ref og, .ref od, .int reading, .int at_, .int wrongAt, .int number, .long hh])), (on, .inl (k 0, 401, .inl now)), (op, .inl (k 0, 2005, .inl past)), (orr, .inl (k 0, 3, .inl refused))] H → va_D A [(o, .inr (6, [.ref on, .ref op, .int states, .ref orr, .ref ot, .int bytes, .ref oh, .ref og, .ref od, .int reading, .int at_, .int wrongAt, .int number, .long hh])), (on, .inl (k 0, 401, .inl now)), (op, .inl (k 0, 2005, .inl past)), (orr, .inl (k 0, 3, .inl refused))] → va_S A s.heap H locs → ∀ ls : Array Slot, lv_has ls 6 [(0, .ref o), (1, .int v1), (2, .int v2), (3, .int v3), (4, .int v4), (5, .int v5)] → W p l e (headSpec wk_X6_zone rm_X6_zone).room s m ([.ref o, .int a1, .int a2, .int a3] : List Value).toArray below meth c H locs 0 0 (MQ below (va_Qi (fun xq9 (_ : Unit) => xq9 = res.1) (fun _ tq9 => va_P D vwCl [(o, .inr (6, [.ref on, .ref op, .int res.2.1, .ref orr, .ref ot, .int bytes, .ref oh, .ref og, .ref od, .int reading, .int at_, .int wrongAt, .int number, .long hh])), (on, .inl (k 0, 401, .inl res.2.2.1)), (op, .inl (k 0, 2005, .inl res.2.2.2.1)), (orr, .inl (k 0, 3, .inl res.2.2.2.2))] tq9.heap) A) ([.ref o, .int a1, .int a2, .int a3] : List Value).toArray s 0 0 A) (F0 m 88 ls [])) → ∀ (n : Nat) (v4 : Int32) (v5 : Int32) (now : Nat → Int32), f_X6_zone_L43 fu K v1 v3 n v4 v5 now = some res → ∀ (H : Heap) (locs : List Loc), va_P D vwCl [(o, .inr (6, [.ref on, .ref op, .int states, .ref orr, .ref ot, .int bytes, .ref oh, .ref og, .ref od, .int reading, .int at_, .int wrongAt, .int number, .long hh])), (on, .inl (k 0, 401, .inl now)), (op, .inl (k 0, 2005, .inl past)), (orr, .inl (k 0, 3, .inl refused))] H → va_D A [(o, .inr (6, [.ref on, .ref op, .int states, .ref orr, .ref ot, .int bytes, .ref oh, .ref og, .ref od, .int reading, .int at_, .int wrongAt, .int number, .long hh])), (on, .inl (k 0, 401, .inl now)), (op, .inl (k 0, 2005, .inl past)), (orr, .inl (k 0, 3, .inl refused))] → va_S A s.heap H locs → ∀ ls : Array Slot, lv_has ls 6 [(0, .ref o), (1, .int v1), (2, .int v2), (3, .int v3), (4, .int v4), (5, .int v5)] → W p l e (headSpec wk_X6_zone rm_X6_zone).room s m ([.ref o, .int a1, .int a2, .int a3] : List Value).toArray below meth c H locs 0 0 (MQ below (va_Qi (fun xq9 (_ : Unit) => xq9 = res.1) (fun _ tq9 => va_P D vwCl [(o, .inr (6, [.ref on, .ref op, .int res.2.1, .ref orr, .ref ot, .int bytes, .ref oh, .ref og, .ref od, .int reading, .int at_, .int wrongAt, .int number, .long hh])), (on, .inl (k 0, 401, .inl res.2.2.1)), (op, .inl (k 0, 2005, .inl res.2.2.2.1)), (orr, .inl (k 0, 3, .inl res.2.2.2.2))] tq9.heap) A) ([.ref o, .int a1, .int a2, .int a3] : List Value).toArray s 0 0 A) (F0 m 43 ls []) := by
            intro v1 v2 v3 states bytes reading at_ wrongAt number hh past refused K hKK n
            induction n with
            | zero =>
              intro v4 v5 now h
              rw [f_X6_zone_L43] at h
              cases h
            | succ n ih =>
              intro v4 v5 now h H locs hP hD hS ls hl
              rw [f_X6_zone_L43] at h
              refine lv_iload hx hb dX6_zone_43 (lv_at hl 5 rfl) ?_
              refine lv_iload_n hx hb dX6_zone_45 rfl (lv_at hl 3 rfl) ?_
              refine lv_icmp_gt (tgt := 88) hx hb dX6_zone_46 (by decide) (fun c2 => ?_) (fun c2 => ?_)
              · have h := zt h c2
                exact hKK _ _ _ h _ _ hP hD hS _ (lv_sub hl [0, 1, 2, 3, 4, 5] rfl)
              · have h := zf h c2
                refine lv_iload hx hb dX6_zone_49 (lv_at hl 4 rfl) ?_
                refine lv_aload_n hx hb dX6_zone_51 rfl (lv_at hl 0 rfl) ?_
                refine va_get (D := D) (ci := 6) (v := .ref on) (C := RX6) (T := TX6) (N := 14) hx hb ht hiX6 hown hK hP 0 rfl rfl 0 (by decide) (ht _ wb765) (fun _ h9 => h9) rfl dX6_zone_52 ?_
                refine lv_iconst (v := 0) hx hb dX6_zone_55 (by decide) ?_
                refine lv_iload hx hb dX6_zone_56 (lv_at hl 5 rfl) ?_
                refine lv_iadd hx hb dX6_zone_58 ?_
                obtain ⟨hi1, h⟩ := zg h
                refine va_iald hx hb hK hP 1 0 rfl rfl hi1 dX6_zone_59 ?_
                refine lv_iload_n hx hb dX6_zone_60 rfl (lv_at hl 1 rfl) ?_
                refine lv_icmp_ne (tgt := 68) hx hb dX6_zone_61 (by decide) (fun c1 => ?_) (fun c1 => ?_)
                · have h := zf h c1
                  refine lv_iconst (v := 1) hx hb dX6_zone_68 (by decide) ?_
                  refine lv_iadd hx hb dX6_zone_69 ?_
                  refine lv_istore (lv' := [(4, .int (v4 + 1)), (0, .ref o), (1, .int v1), (2, .int v2), (3, .int v3), (5, .int v5)]) hx hb dX6_zone_70 hl (by decide) rfl (fun ls hl => ?_)
                  refine lv_aload_n hx hb dX6_zone_72 rfl (lv_at hl 1 rfl) ?_
                  refine va_get (D := D) (ci := 6) (v := .ref on) (C := RX6) (T := TX6) (N := 14) hx hb ht hiX6 hown hK hP 0 rfl rfl 0 (by decide) (ht _ wb765) (fun _ h9 => h9) rfl dX6_zone_73 ?_
                  refine lv_iconst (v := 0) hx hb dX6_zone_76 (by decide) ?_
                  refine lv_iload hx hb dX6_zone_77 (lv_at hl 5 rfl) ?_
                  refine lv_iadd hx hb dX6_zone_79 ?_
                  refine lv_iload_n hx hb dX6_zone_80 rfl (lv_at hl 2 rfl) ?_
                  obtain ⟨hi2, h⟩ := zg h
                  refine va_iast hx hb hK hP hD hS 1 0 rfl rfl hi2 dX6_zone_81 (fun H locs hP hD hS => ?_)
                  have hP : va_P D vwCl [(o, .inr (6, [.ref on, .ref op, .int states, .ref orr, .ref ot, .int bytes, .ref oh, .ref og, .ref od, .int reading, .int at_, .int wrongAt, .int number, .long hh])), (on, .inl (k 0, 401, .inl (upd now (Int32.toNatClampNeg (0 + v5)) v1))), (op, .inl (k 0, 2005, .inl past)), (orr, .inl (k 0, 3, .inl refused))] H := hP
                  have hD : va_D A [(o, .inr (6, [.ref on, .ref op, .int states, .ref orr, .ref ot, .int bytes, .ref oh, .ref og, .ref od, .int reading, .int at_, .int wrongAt, .int number, .long hh])), (on, .inl (k 0, 401, .inl (upd now (Int32.toNatClampNeg (0 + v5)) v1))), (op, .inl (k 0, 2005, .inl past)), (orr, .inl (k 0, 3, .inl refused))] := hD
                  refine lv_iinc (v := v5 + 1) (lv' := [(5, .int (v5 + 1)), (4, .int (v4 + 1)), (0, .ref o), (1, .int v1), (2, .int v2), (3, .int v3)]) hx hb dX6_zone_82 hl (k := 5) rfl rfl (by decide) rfl (fun ls hl => ?_)
                  refine lv_goto (tgt := 43) hx hb dX6_zone_85 (by decide) ?_
                  exact ih _ _ _ h _ _ hP hD hS _ (lv_sub hl [2, 3, 4, 5, 1, 0] rfl)
                · have h := zt h c1
                  refine lv_iconst (v := 0) hx hb dX6_zone_64 (by decide) ?_
                  refine lv_goto (tgt := 69) hx hb dX6_zone_65 (by decide) ?_
                  refine lv_iadd hx hb dX6_zone_69 ?_
                  refine lv_istore (lv' := [(4, .int (v4 + 0)), (0, .ref o), (1, .int v1), (2, .int v2), (3, .int v3), (5, .int v5)]) hx hb dX6_zone_70 hl (by decide) rfl (fun ls hl => ?_)
                  refine lv_aload_n hx hb dX6_zone_72 rfl (lv_at hl 1 rfl) ?_
                  refine va_get (D := D) (ci := 6) (v := .ref on) (C := RX6) (T := TX6) (N := 14) hx hb ht hiX6 hown hK hP 0 rfl rfl 0 (by decide) (ht _ wb765) (fun _ h9 => h9) rfl dX6_zone_73 ?_
                  refine lv_iconst (v := 0) hx hb dX6_zone_76 (by decide) ?_
                  refine lv_iload hx hb dX6_zone_77 (lv_at hl 5 rfl) ?_
                  refine lv_iadd hx hb dX6_zone_79 ?_
                  refine lv_iload_n hx hb dX6_zone_80 rfl (lv_at hl 2 rfl) ?_
                  obtain ⟨hi3, h⟩ := zg h
                  refine va_iast hx hb hK hP hD hS 1 0 rfl rfl hi3 dX6_zone_81 (fun H locs hP hD hS => ?_)
                  have hP : va_P D vwCl [(o, .inr (6, [.ref on, .ref op, .int states, .ref orr, .ref ot, .int bytes, .ref oh, .ref og, .ref od, .int reading, .int at_, .int wrongAt, .int number, .long hh])), (on, .inl (k 0, 401, .inl (upd now (Int32.toNatClampNeg (0 + v5)) v1))), (op, .inl (k 0, 2005, .inl past)), (orr, .inl (k 0, 3, .inl refused))] H := hP
                  have hD : va_D A [(o, .inr (6, [.ref on, .ref op, .int states, .ref orr, .ref ot, .int bytes, .ref oh, .ref og, .ref od, .int reading, .int at_, .int wrongAt, .int number, .long hh])), (on, .inl (k 0, 401, .inl (upd now (Int32.toNatClampNeg (0 + v5)) v1))), (op, .inl (k 0, 2005, .inl past)), (orr, .inl (k 0, 3, .inl refused))] := hD
                  refine lv_iinc (v := v5 + 1) (lv' := [(5, .int (v5 + 1)), (4, .int (v4 + 0)), (0, .ref o), (1, .int v1), (2, .int v2), (3, .int v3)]) hx hb dX6_zone_82 hl (k := 5) rfl rfl (by decide) rfl (fun ls hl => ?_)
                  refine lv_goto (tgt := 43) hx hb dX6_zone_85 (by decide) ?_
                  exact ih _ _ _ h _ _ hP hD hS _ (lv_sub hl [2, 3, 4, 5, 1, 0] rfl)
          refine loop43 _ _ _ _ _ _ _ _ _ _ _ _ _ ?_ fu _ _ _ h _ _ hP hD hS _ (lv_sub hl [2, 3, 4, 5, 1, 0] rfl)
          intro x1 x2 x3 h H locs hP hD hS ls hl
          try dsimp only at h
          have hP : va_P D vwCl [(o, .inr (6, [.ref on, .ref op, .int r7.1, .ref orr, .ref ot, .int bytes, .ref oh, .ref og, .ref od, .int reading, .int at_, .int wrongAt, .int number, .long hh])), (on, .inl (k 0, 401, .inl x3)), (op, .inl (k 0, 2005, .inl r7.2)), (orr, .inl (k 0, 3, .inl refused))] H := hP
          have hD : va_D A [(o, .inr (6, [.ref on, .ref op, .int r7.1, .ref orr, .ref ot, .int bytes, .ref oh, .ref og, .ref od, .int reading, .int at_, .int wrongAt, .int number, .long hh])), (on, .inl (k 0, 401, .inl x3)), (op, .inl (k 0, 2005, .inl r7.2)), (orr, .inl (k 0, 3, .inl refused))] := hD
          have hl : lv_has ls 6 [(0, .ref o), (1, .int a1), (2, .int a2), (3, .int a3), (4, .int x1), (5, .int x2)] := hl
          refine lv_iload hx hb dX6_zone_88 (lv_at hl 4 rfl) ?_
          obtain rfl := Option.some.inj h
          exact W.iret (v := x1) hx hb hr (fun t ht9 hW => ⟨⟨_, (), rfl, rfl, zend ht9 hP⟩, hS.F ht9⟩) hS.2.2 dX6_zone_90
        · have h := zf h c3
          refine lv_aload_n hx hb dX6_zone_28 rfl (lv_at hl 0 rfl) ?_
          obtain ⟨r8, h8, h⟩ := zb h
          refine zi (zrV (C := RX6) (T := TX6) (N := 14) (As := []) (rest := []) ⟨hx, hb, hml, hown, ht⟩ (c_X6_bad l D k o on op orr ot oh og od states bytes reading at_ wrongAt number hh refused  h8 _) (cwV 0 ht (gdV wb826 wb828 wb29 wb80 wb829) rfl rfl rfl (by decide +kernel) ⟨Nat.le_of_ble_eq_true rfl, Nat.le_of_ble_eq_true rfl⟩) hK hP hD hS hA hm [0, 3] rfl rfl 0 6 rfl rfl rfl hl.1 rfl (Nat.le_of_ble_eq_true rfl) dX6_zone_29 ⟨Nat.le_refl _, Nat.le_refl _⟩) hP hD hS hA [0, 3] rfl rfl (fun H locs hP hD hS => ?_)
          have hP : va_P D vwCl [(o, .inr (6, [.ref on, .ref op, .int states, .ref orr, .ref ot, .int bytes, .ref oh, .ref og, .ref od, .int reading, .int at_, .int wrongAt, .int number, .long hh])), (on, .inl (k 0, 401, .inl now)), (op, .inl (k 0, 2005, .inl past)), (orr, .inl (k 0, 3, .inl r8.2))] H := hP
          have hD : va_D A [(o, .inr (6, [.ref on, .ref op, .int states, .ref orr, .ref ot, .int bytes, .ref oh, .ref og, .ref od, .int reading, .int at_, .int wrongAt, .int number, .long hh])), (on, .inl (k 0, 401, .inl now)), (op, .inl (k 0, 2005, .inl past)), (orr, .inl (k 0, 3, .inl r8.2))] := hD
          obtain rfl := Option.some.inj h
          exact W.iret (v := r8.1) hx hb hr (fun t ht9 hW => ⟨⟨_, (), rfl, rfl, zend ht9 hP⟩, hS.F ht9⟩) hS.2.2 dX6_zone_32
def f_X6_zoneOf (now : Nat → Int32) (refused : Nat → Int32) (a1 : Int32) : Option (Int32 × (Nat → Int32)) :=
  (f_X6_isAddress  a1).bind fun r1 => if (zB r1) = 0 then ((f_X6_bad refused ).bind fun r2 => some (r2.1, r2.2)) else (if zok (0 + a1) 401 then (some (now (Int32.toNatClampNeg (0 + a1)), refused)) else none)
abbrev wk_X6_zoneOf : List Cond := Cond.code yX6_zoneOf cX6_zoneOf 2 (some .int) :: WB
abbrev rm_X6_zoneOf : Room := { frames := 2, cells := 0, slots := 0, locals := 42 }
set_option maxHeartbeats 4000000 in
set_option maxRecDepth 100000 in
theorem c_X6_zoneOf (l : Launch) (D : va_G) (k : Nat → Nat) (o on op orr ot oh og od : Nat) (states : Int32) (bytes : Int32) (reading : Int32) (at_ : Int32) (wrongAt : Int32) (number : Int32) (hh : Int64) (now : Nat → Int32) (refused : Nat → Int32) (a1 : Int32) {res : Int32 × (Nat → Int32)} (h : f_X6_zoneOf now refused a1 = some res) : Ci l yX6_zoneOf wk_X6_zoneOf rm_X6_zoneOf D k [.ref o, .int a1] [(o, .inr (6, [.ref on, .ref op, .int states, .ref orr, .ref ot, .int bytes, .ref oh, .ref og, .ref od, .int reading, .int at_, .int wrongAt, .int number, .long hh])), (on, .inl (k 0, 401, .inl now)), (orr, .inl (k 0, 3, .inl refused))] [(o, .inr (6, [.ref on, .ref op, .int states, .ref orr, .ref ot, .int bytes, .ref oh, .ref og, .ref od, .int reading, .int at_, .int wrongAt, .int number, .long hh])), (on, .inl (k 0, 401, .inl now)), (orr, .inl (k 0, 3, .inl res.2))] res.1 := by
  unfold Ci
  intro sz
  refine Met.ofW (cc := cX6_zoneOf) (maxL := 2) (ret := (some .int)) (by decide) rfl ?_
  intro p e s m args below meth c s₁ B hml hv
  obtain ⟨rfl, hsz, hP, hK, hD0, hm⟩ := hv
  have hx := B.exec
  have hb := B.bytes
  have hr := B.returns
  have ht : ∀ w ∈ WB, w.before _ s = true := fun w hw => atoms_spec (ws := wk_X6_zoneOf) B.pre w (List.mem_cons_of_mem _ hw)
  have hown : s.vm.findClass RX6 = some m.cls := findClass_of_methodNamed B.named
  have hlocks := B.notSynchronized
  subst hsz
  have hD := hD0.self (sz := s.heap.size)
  generalize hAe : va_A [(o, .inr (6, [.ref on, .ref op, .int states, .ref orr, .ref ot, .int bytes, .ref oh, .ref og, .ref od, .int reading, .int at_, .int wrongAt, .int number, .long hh])), (on, .inl (k 0, 401, .inl now)), (orr, .inl (k 0, 3, .inl refused))] s.heap.size = A at hD hm ⊢
  have hA : ∀ q : Nat, s.heap.size ≤ q → A q := fun q h => by rw [← hAe]; exact Or.inr h
  have hS : va_S A s.heap s.heap [] := va_S.rf
  have hl := lv_entry ([.ref o, .int a1]) (n := 2) (Nat.le_of_ble_eq_true rfl)
  rw [lg_entry_eq]
  generalize (lg_sl ([.ref o, .int a1]) ++ List.replicate (2 - (lg_sl ([.ref o, .int a1])).length) Slot.unset).toArray = ls at hl ⊢
  have hl : lv_has ls 2 [(0, .ref o), (1, .int a1)] := hl
  obtain ⟨H, hH⟩ : ∃ H, H = s.heap := ⟨_, rfl⟩
  rw [← hH] at hP
  have hS : va_S A s.heap H [] := by rw [hH]; exact hS
  suffices hgo : W p l e _ s m _ below meth c H [] 0 0 _ _ by rw [hH] at hgo; exact hgo
  unfold f_X6_zoneOf at h
  refine lv_iload_n hx hb dX6_zoneOf_0 rfl (lv_at hl 1 rfl) ?_
  obtain ⟨r1, h1, h⟩ := zb h
  refine zi (zrS (As := [.int a1]) (rest := []) ⟨hx, hb, hml, hown, ht⟩ (c_X6_isAddress l D k   a1 h1 _) (va_cwS 1 ht (gdS wb823 wb824 wb80 wb825) rfl rfl rfl (by decide +kernel) ⟨Nat.le_of_ble_eq_true rfl, Nat.le_of_ble_eq_true rfl⟩) hK hP hD hS hA hm [] rfl rfl rfl hl.1 rfl (Nat.le_of_ble_eq_true rfl) dX6_zoneOf_1 ⟨Nat.le_refl _, Nat.le_refl _⟩) hP hD hS hA [] rfl rfl (fun H locs hP hD hS => ?_)
  have hP : va_P D vwCl [(o, .inr (6, [.ref on, .ref op, .int states, .ref orr, .ref ot, .int bytes, .ref oh, .ref og, .ref od, .int reading, .int at_, .int wrongAt, .int number, .long hh])), (on, .inl (k 0, 401, .inl now)), (orr, .inl (k 0, 3, .inl refused))] H := hP
  have hD : va_D A [(o, .inr (6, [.ref on, .ref op, .int states, .ref orr, .ref ot, .int bytes, .ref oh, .ref og, .ref od, .int reading, .int at_, .int wrongAt, .int number, .long hh])), (on, .inl (k 0, 401, .inl now)), (orr, .inl (k 0, 3, .inl refused))] := hD
  refine lv_if_eq (tgt := 18) hx hb dX6_zoneOf_4 (by decide) (fun c1 => ?_) (fun c1 => ?_)
  · have h := zt h c1
    refine lv_aload_n hx hb dX6_zoneOf_18 rfl (lv_at hl 0 rfl) ?_
    obtain ⟨r2, h2, h⟩ := zb h
    refine zi (zrV (C := RX6) (T := TX6) (N := 14) (As := []) (rest := []) ⟨hx, hb, hml, hown, ht⟩ (c_X6_bad l D k o on op orr ot oh og od states bytes reading at_ wrongAt number hh refused  h2 _) (cwV 0 ht (gdV wb826 wb828 wb29 wb80 wb829) rfl rfl rfl (by decide +kernel) ⟨Nat.le_of_ble_eq_true rfl, Nat.le_of_ble_eq_true rfl⟩) hK hP hD hS hA hm [0, 2] rfl rfl 0 6 rfl rfl rfl hl.1 rfl (Nat.le_of_ble_eq_true rfl) dX6_zoneOf_19 ⟨Nat.le_refl _, Nat.le_refl _⟩) hP hD hS hA [0, 2] rfl rfl (fun H locs hP hD hS => ?_)
    have hP : va_P D vwCl [(o, .inr (6, [.ref on, .ref op, .int states, .ref orr, .ref ot, .int bytes, .ref oh, .ref og, .ref od, .int reading, .int at_, .int wrongAt, .int number, .long hh])), (on, .inl (k 0, 401, .inl now)), (orr, .inl (k 0, 3, .inl r2.2))] H := hP
    have hD : va_D A [(o, .inr (6, [.ref on, .ref op, .int states, .ref orr, .ref ot, .int bytes, .ref oh, .ref og, .ref od, .int reading, .int at_, .int wrongAt, .int number, .long hh])), (on, .inl (k 0, 401, .inl now)), (orr, .inl (k 0, 3, .inl r2.2))] := hD
    obtain rfl := Option.some.inj h
    exact W.iret (v := r2.1) hx hb hr (fun t ht9 hW => ⟨⟨_, (), rfl, rfl, zend ht9 hP⟩, hS.F ht9⟩) hS.2.2 dX6_zoneOf_22
  · have h := zf h c1
    refine lv_aload_n hx hb dX6_zoneOf_7 rfl (lv_at hl 0 rfl) ?_
    refine va_get (D := D) (ci := 6) (v := .ref on) (C := RX6) (T := TX6) (N := 14) hx hb ht hiX6 hown hK hP 0 rfl rfl 0 (by decide) (ht _ wb765) (fun _ h9 => h9) rfl dX6_zoneOf_8 ?_
    refine lv_iconst (v := 0) hx hb dX6_zoneOf_11 (by decide) ?_
    refine lv_iload_n hx hb dX6_zoneOf_12 rfl (lv_at hl 1 rfl) ?_
    refine lv_iadd hx hb dX6_zoneOf_13 ?_
    obtain ⟨hi1, h⟩ := zg h
    refine va_iald hx hb hK hP 1 0 rfl rfl hi1 dX6_zoneOf_14 ?_
    refine lv_goto (tgt := 22) hx hb dX6_zoneOf_15 (by decide) ?_
    obtain rfl := Option.some.inj h
    exact W.iret (v := now (Int32.toNatClampNeg (0 + a1))) hx hb hr (fun t ht9 hW => ⟨⟨_, (), rfl, rfl, zend ht9 hP⟩, hS.F ht9⟩) hS.2.2 dX6_zoneOf_22
def f_X6_makesRoom_L13 (fu : Nat) (K : Int32 → (Nat → Int32) → Option ((Nat → Int32))) (v1 : Int32) : Nat → Int32 → (Nat → Int32) → Option ((Nat → Int32))
  | 0, _, _ => none
  | n + 1, v2, now =>
  if v2 < (11 * v1) then (K v2 now) else (if zok (33 + v2) 401 then (if zok ((33 + v2) + 11) 401 then (f_X6_makesRoom_L13 fu K v1 n (v2 + (-1)) (upd now (Int32.toNatClampNeg ((33 + v2) + 11)) (now (Int32.toNatClampNeg (33 + v2))))) else none) else none)
def f_X6_makesRoom (fu : Nat) (now : Nat → Int32) (a1 : Int32) : Option ((Nat → Int32)) :=
  if zok 32 401 then (f_X6_makesRoom_L13 fu (fun (x1 : Int32) (x2 : Nat → Int32) => if zok 32 401 then (if zok 32 401 then (some (upd x2 (Int32.toNatClampNeg 32) ((x2 (Int32.toNatClampNeg 32)) + 1))) else none) else none) a1 fu ((11 * (now (Int32.toNatClampNeg 32))) - 1) now) else none
abbrev wk_X6_makesRoom : List Cond := Cond.code yX6_makesRoom cX6_makesRoom 3 none :: WB
abbrev rm_X6_makesRoom : Room := { frames := 0, cells := 0, slots := 0, locals := 0 }
set_option maxHeartbeats 4000000 in
set_option maxRecDepth 100000 in
theorem c_X6_makesRoom (l : Launch) (D : va_G) (k : Nat → Nat) (o on op orr ot oh og od : Nat) (states : Int32) (bytes : Int32) (reading : Int32) (at_ : Int32) (wrongAt : Int32) (number : Int32) (hh : Int64) (now : Nat → Int32) (a1 : Int32) (fu : Nat) {res : (Nat → Int32)} (h : f_X6_makesRoom fu now a1 = some res) : Cv l yX6_makesRoom wk_X6_makesRoom rm_X6_makesRoom D k [.ref o, .int a1] [(o, .inr (6, [.ref on, .ref op, .int states, .ref orr, .ref ot, .int bytes, .ref oh, .ref og, .ref od, .int reading, .int at_, .int wrongAt, .int number, .long hh])), (on, .inl (k 0, 401, .inl now))] [(o, .inr (6, [.ref on, .ref op, .int states, .ref orr, .ref ot, .int bytes, .ref oh, .ref og, .ref od, .int reading, .int at_, .int wrongAt, .int number, .long hh])), (on, .inl (k 0, 401, .inl res))] := by
  unfold Cv
  intro sz
  refine Met.ofW (cc := cX6_makesRoom) (maxL := 3) (ret := none) (by decide) rfl ?_
  intro p e s m args below meth c s₁ B hml hv
  obtain ⟨rfl, hsz, hP, hK, hD0, hm⟩ := hv
  have hx := B.exec
  have hb := B.bytes
  have hr := B.returns
  have ht : ∀ w ∈ WB, w.before _ s = true := fun w hw => atoms_spec (ws := wk_X6_makesRoom) B.pre w (List.mem_cons_of_mem _ hw)
  have hown : s.vm.findClass RX6 = some m.cls := findClass_of_methodNamed B.named
  have hlocks := B.notSynchronized
  subst hsz
  have hD := hD0.self (sz := s.heap.size)
  generalize hAe : va_A [(o, .inr (6, [.ref on, .ref op, .int states, .ref orr, .ref ot, .int bytes, .ref oh, .ref og, .ref od, .int reading, .int at_, .int wrongAt, .int number, .long hh])), (on, .inl (k 0, 401, .inl now))] s.heap.size = A at hD hm ⊢
  have hA : ∀ q : Nat, s.heap.size ≤ q → A q := fun q h => by rw [← hAe]; exact Or.inr h
  have hS : va_S A s.heap s.heap [] := va_S.rf
  have hl := lv_entry ([.ref o, .int a1]) (n := 3) (Nat.le_of_ble_eq_true rfl)
  rw [lg_entry_eq]
  generalize (lg_sl ([.ref o, .int a1]) ++ List.replicate (3 - (lg_sl ([.ref o, .int a1])).length) Slot.unset).toArray = ls at hl ⊢
  have hl : lv_has ls 3 [(0, .ref o), (1, .int a1)] := hl
  obtain ⟨H, hH⟩ : ∃ H, H = s.heap := ⟨_, rfl⟩
  rw [← hH] at hP
  have hS : va_S A s.heap H [] := by rw [hH]; exact hS
  suffices hgo : W p l e _ s m _ below meth c H [] 0 0 _ _ by rw [hH] at hgo; exact hgo
  unfold f_X6_makesRoom at h
  refine lv_bipush (v := 11) hx hb dX6_makesRoom_0 (by decide) ?_
  refine lv_aload_n hx hb dX6_makesRoom_2 rfl (lv_at hl 0 rfl) ?_
  refine va_get (D := D) (ci := 6) (v := .ref on) (C := RX6) (T := TX6) (N := 14) hx hb ht hiX6 hown hK hP 0 rfl rfl 0 (by decide) (ht _ wb765) (fun _ h9 => h9) rfl dX6_makesRoom_3 ?_
  refine lv_bipush (v := 32) hx hb dX6_makesRoom_6 (by decide) ?_
  obtain ⟨hi1, h⟩ := zg h
  refine va_iald hx hb hK hP 1 0 rfl rfl hi1 dX6_makesRoom_8 ?_
  refine lv_imul hx hb dX6_makesRoom_9 ?_
  refine lv_iconst (v := 1) hx hb dX6_makesRoom_10 (by decide) ?_
  refine lv_isub hx hb dX6_makesRoom_11 ?_
  refine lv_istore_n (lv' := [(2, .int ((11 * (now (Int32.toNatClampNeg 32))) - 1)), (0, .ref o), (1, .int a1)]) hx hb dX6_makesRoom_12 rfl hl (by decide) rfl (fun ls hl => ?_)
  have loop13 : ∀ (v1 : Int32) (states : Int32) (bytes : Int32) (reading : Int32) (at_ : Int32) (wrongAt : Int32) (number : Int32) (hh : Int64), ∀ (K : Int32 → (Nat → Int32) → Option ((Nat → Int32))), (∀ (v2 : Int32) (now : Nat → Int32), K v2 now = some res → ∀ (H : Heap) (locs : List Loc), va_P D vwCl [(o, .inr (6, [.ref on, .ref op, .int states, .ref orr, .ref ot, .int bytes, .ref oh, .ref og, .ref od, .int reading, .int at_, .int wrongAt, .int number, .long hh])), (on, .inl (k 0, 401, .inl now))] H → va_D A [(o, .inr (6, [.ref on, .ref op, .int states, .ref orr, .ref ot, .int bytes, .ref oh, .ref og, .ref od, .int reading, .int at_, .int wrongAt, .int number, .long hh])), (on, .inl (k 0, 401, .inl now))] → va_S A s.heap H locs → ∀ ls : Array Slot, lv_has ls 3 [(0, .ref o), (1, .int v1), (2, .int v2)] → W p l e (headSpec wk_X6_makesRoom rm_X6_makesRoom).room s m ([.ref o, .int a1] : List Value).toArray below meth c H locs 0 0 (MQ below (va_Qv (fun (_ : Unit) => True) (fun _ tq9 => va_P D vwCl [(o, .inr (6, [.ref on, .ref op, .int states, .ref orr, .ref ot, .int bytes, .ref oh, .ref og, .ref od, .int reading, .int at_, .int wrongAt, .int number, .long hh])), (on, .inl (k 0, 401, .inl res))] tq9.heap) A) ([.ref o, .int a1] : List Value).toArray s 0 0 A) (F0 m 48 ls [])) → ∀ (n : Nat) (v2 : Int32) (now : Nat → Int32), f_X6_makesRoom_L13 fu K v1 n v2 now = some res → ∀ (H : Heap) (locs : List Loc), va_P D vwCl [(o, .inr (6, [.ref on, .ref op, .int states, .ref orr, .ref ot, .int bytes, .ref oh, .ref og, .ref od, .int reading, .int at_, .int wrongAt, .int number, .long hh])), (on, .inl (k 0, 401, .inl now))] H → va_D A [(o, .inr (6, [.ref on, .ref op, .int states, .ref orr, .ref ot, .int bytes, .ref oh, .ref og, .ref od, .int reading, .int at_, .int wrongAt, .int number, .long hh])), (on, .inl (k 0, 401, .inl now))] → va_S A s.heap H locs → ∀ ls : Array Slot, lv_has ls 3 [(0, .ref o), (1, .int v1), (2, .int v2)] → W p l e (headSpec wk_X6_makesRoom rm_X6_makesRoom).room s m ([.ref o, .int a1] : List Value).toArray below meth c H locs 0 0 (MQ below (va_Qv (fun (_ : Unit) => True) (fun _ tq9 => va_P D vwCl [(o, .inr (6, [.ref on, .ref op, .int states, .ref orr, .ref ot, .int bytes, .ref oh, .ref og, .ref od, .int reading, .int at_, .int wrongAt, .int number, .long hh])), (on, .inl (k 0, 401, .inl res))] tq9.heap) A) ([.ref o, .int a1] : List Value).toArray s 0 0 A) (F0 m 13 ls []) := by
    intro v1 states bytes reading at_ wrongAt number hh K hKK n
    induction n with
    | zero =>
      intro v2 now h
      rw [f_X6_makesRoom_L13] at h
      cases h
    | succ n ih =>
      intro v2 now h H locs hP hD hS ls hl
      rw [f_X6_makesRoom_L13] at h
      refine lv_iload_n hx hb dX6_makesRoom_13 rfl (lv_at hl 2 rfl) ?_
      refine lv_bipush (v := 11) hx hb dX6_makesRoom_14 (by decide) ?_
      refine lv_iload_n hx hb dX6_makesRoom_16 rfl (lv_at hl 1 rfl) ?_
      refine lv_imul hx hb dX6_makesRoom_17 ?_
      refine lv_icmp_lt (tgt := 48) hx hb dX6_makesRoom_18 (by decide) (fun c1 => ?_) (fun c1 => ?_)
      · have h := zt h c1
        exact hKK _ _ h _ _ hP hD hS _ (lv_sub hl [0, 1, 2] rfl)
      · have h := zf h c1
        refine lv_aload_n hx hb dX6_makesRoom_21 rfl (lv_at hl 0 rfl) ?_
        refine va_get (D := D) (ci := 6) (v := .ref on) (C := RX6) (T := TX6) (N := 14) hx hb ht hiX6 hown hK hP 0 rfl rfl 0 (by decide) (ht _ wb765) (fun _ h9 => h9) rfl dX6_makesRoom_22 ?_
        refine lv_bipush (v := 33) hx hb dX6_makesRoom_25 (by decide) ?_
        refine lv_iload_n hx hb dX6_makesRoom_27 rfl (lv_at hl 2 rfl) ?_
        refine lv_iadd hx hb dX6_makesRoom_28 ?_
        refine lv_bipush (v := 11) hx hb dX6_makesRoom_29 (by decide) ?_
        refine lv_iadd hx hb dX6_makesRoom_31 ?_
        refine lv_aload_n hx hb dX6_makesRoom_32 rfl (lv_at hl 0 rfl) ?_
        refine va_get (D := D) (ci := 6) (v := .ref on) (C := RX6) (T := TX6) (N := 14) hx hb ht hiX6 hown hK hP 0 rfl rfl 0 (by decide) (ht _ wb765) (fun _ h9 => h9) rfl dX6_makesRoom_33 ?_
        refine lv_bipush (v := 33) hx hb dX6_makesRoom_36 (by decide) ?_
        refine lv_iload_n hx hb dX6_makesRoom_38 rfl (lv_at hl 2 rfl) ?_
        refine lv_iadd hx hb dX6_makesRoom_39 ?_
        obtain ⟨hi2, h⟩ := zg h
        refine va_iald hx hb hK hP 1 0 rfl rfl hi2 dX6_makesRoom_40 ?_
        obtain ⟨hi3, h⟩ := zg h
        refine va_iast hx hb hK hP hD hS 1 0 rfl rfl hi3 dX6_makesRoom_41 (fun H locs hP hD hS => ?_)
        have hP : va_P D vwCl [(o, .inr (6, [.ref on, .ref op, .int states, .ref orr, .ref ot, .int bytes, .ref oh, .ref og, .ref od, .int reading, .int at_, .int wrongAt, .int number, .long hh])), (on, .inl (k 0, 401, .inl (upd now (Int32.toNatClampNeg ((33 + v2) + 11)) (now (Int32.toNatClampNeg (33 + v2))))))] H := hP
        have hD : va_D A [(o, .inr (6, [.ref on, .ref op, .int states, .ref orr, .ref ot, .int bytes, .ref oh, .ref og, .ref od, .int reading, .int at_, .int wrongAt, .int number, .long hh])), (on, .inl (k 0, 401, .inl (upd now (Int32.toNatClampNeg ((33 + v2) + 11)) (now (Int32.toNatClampNeg (33 + v2))))))] := hD
        refine lv_iinc (v := v2 + (-1)) (lv' := [(2, .int (v2 + (-1))), (0, .ref o), (1, .int v1)]) hx hb dX6_makesRoom_42 hl (k := 2) rfl rfl (by decide) rfl (fun ls hl => ?_)
        refine lv_goto (tgt := 13) hx hb dX6_makesRoom_45 (by decide) ?_
        exact ih _ _ h _ _ hP hD hS _ (lv_sub hl [1, 2, 0] rfl)
  refine loop13 _ _ _ _ _ _ _ _ _ ?_ fu _ _ h _ _ hP hD hS _ (lv_sub hl [1, 2, 0] rfl)
  intro x1 x2 h H locs hP hD hS ls hl
  try dsimp only at h
  have hP : va_P D vwCl [(o, .inr (6, [.ref on, .ref op, .int states, .ref orr, .ref ot, .int bytes, .ref oh, .ref og, .ref od, .int reading, .int at_, .int wrongAt, .int number, .long hh])), (on, .inl (k 0, 401, .inl x2))] H := hP
  have hD : va_D A [(o, .inr (6, [.ref on, .ref op, .int states, .ref orr, .ref ot, .int bytes, .ref oh, .ref og, .ref od, .int reading, .int at_, .int wrongAt, .int number, .long hh])), (on, .inl (k 0, 401, .inl x2))] := hD
  have hl : lv_has ls 3 [(0, .ref o), (1, .int a1), (2, .int x1)] := hl
  refine lv_aload_n hx hb dX6_makesRoom_48 rfl (lv_at hl 0 rfl) ?_
  refine va_get (D := D) (ci := 6) (v := .ref on) (C := RX6) (T := TX6) (N := 14) hx hb ht hiX6 hown hK hP 0 rfl rfl 0 (by decide) (ht _ wb765) (fun _ h9 => h9) rfl dX6_makesRoom_49 ?_
  refine lv_bipush (v := 32) hx hb dX6_makesRoom_52 (by decide) ?_
  refine lv_dup2_11 hx hb dX6_makesRoom_54 rfl rfl ?_
  obtain ⟨hi4, h⟩ := zg h
  refine va_iald hx hb hK hP 1 0 rfl rfl hi4 dX6_makesRoom_55 ?_
  refine lv_iconst (v := 1) hx hb dX6_makesRoom_56 (by decide) ?_
  refine lv_iadd hx hb dX6_makesRoom_57 ?_
  obtain ⟨hi5, h⟩ := zg h
  refine va_iast hx hb hK hP hD hS 1 0 rfl rfl hi5 dX6_makesRoom_58 (fun H locs hP hD hS => ?_)
  have hP : va_P D vwCl [(o, .inr (6, [.ref on, .ref op, .int states, .ref orr, .ref ot, .int bytes, .ref oh, .ref og, .ref od, .int reading, .int at_, .int wrongAt, .int number, .long hh])), (on, .inl (k 0, 401, .inl (upd x2 (Int32.toNatClampNeg 32) ((x2 (Int32.toNatClampNeg 32)) + 1))))] H := hP
  have hD : va_D A [(o, .inr (6, [.ref on, .ref op, .int states, .ref orr, .ref ot, .int bytes, .ref oh, .ref og, .ref od, .int reading, .int at_, .int wrongAt, .int number, .long hh])), (on, .inl (k 0, 401, .inl (upd x2 (Int32.toNatClampNeg 32) ((x2 (Int32.toNatClampNeg 32)) + 1))))] := hD
  obtain rfl := Option.some.inj h
  exact W.vret hx hb hr (fun t ht9 hW => ⟨⟨(), rfl, trivial, zend ht9 hP⟩, hS.F ht9⟩) hS.2.2 dX6_makesRoom_59
def f_X6_closesUp_L16 (fu : Nat) (K : Int32 → (Nat → Int32) → Option ((Nat → Int32)))  : Nat → Int32 → (Nat → Int32) → Option ((Nat → Int32))
  | 0, _, _ => none
  | n + 1, v2, now =>
  if zok 32 401 then (if (11 * (now (Int32.toNatClampNeg 32))) ≤ v2 then (K v2 now) else (if zok ((33 + v2) + 11) 401 then (if zok (33 + v2) 401 then (f_X6_closesUp_L16 fu K  n (v2 + 1) (upd now (Int32.toNatClampNeg (33 + v2)) (now (Int32.toNatClampNeg ((33 + v2) + 11))))) else none) else none)) else none
def f_X6_closesUp (fu : Nat) (now : Nat → Int32) (a1 : Int32) : Option ((Nat → Int32)) :=
  if zok 32 401 then (if zok 32 401 then (f_X6_closesUp_L16 fu (fun (x1 : Int32) (x2 : Nat → Int32) => some (x2))  fu (11 * a1) (upd now (Int32.toNatClampNeg 32) ((now (Int32.toNatClampNeg 32)) - 1))) else none) else none
abbrev wk_X6_closesUp : List Cond := Cond.code yX6_closesUp cX6_closesUp 3 none :: WB
abbrev rm_X6_closesUp : Room := { frames := 0, cells := 0, slots := 0, locals := 0 }
set_option maxHeartbeats 4000000 in
set_option maxRecDepth 100000 in
theorem c_X6_closesUp (l : Launch) (D : va_G) (k : Nat → Nat) (o on op orr ot oh og od : Nat) (states : Int32) (bytes : Int32) (reading : Int32) (at_ : Int32) (wrongAt : Int32) (number : Int32) (hh : Int64) (now : Nat → Int32) (a1 : Int32) (fu : Nat) {res : (Nat → Int32)} (h : f_X6_closesUp fu now a1 = some res) : Cv l yX6_closesUp wk_X6_closesUp rm_X6_closesUp D k [.ref o, .int a1] [(o, .inr (6, [.ref on, .ref op, .int states, .ref orr, .ref ot, .int bytes, .ref oh, .ref og, .ref od, .int reading, .int at_, .int wrongAt, .int number, .long hh])), (on, .inl (k 0, 401, .inl now))] [(o, .inr (6, [.ref on, .ref op, .int states, .ref orr, .ref ot, .int bytes, .ref oh, .ref og, .ref od, .int reading, .int at_, .int wrongAt, .int number, .long hh])), (on, .inl (k 0, 401, .inl res))] := by
  unfold Cv
  intro sz
  refine Met.ofW (cc := cX6_closesUp) (maxL := 3) (ret := none) (by decide) rfl ?_
  intro p e s m args below meth c s₁ B hml hv
  obtain ⟨rfl, hsz, hP, hK, hD0, hm⟩ := hv
  have hx := B.exec
  have hb := B.bytes
  have hr := B.returns
  have ht : ∀ w ∈ WB, w.before _ s = true := fun w hw => atoms_spec (ws := wk_X6_closesUp) B.pre w (List.mem_cons_of_mem _ hw)
  have hown : s.vm.findClass RX6 = some m.cls := findClass_of_methodNamed B.named
  have hlocks := B.notSynchronized
  subst hsz
  have hD := hD0.self (sz := s.heap.size)
  generalize hAe : va_A [(o, .inr (6, [.ref on, .ref op, .int states, .ref orr, .ref ot, .int bytes, .ref oh, .ref og, .ref od, .int reading, .int at_, .int wrongAt, .int number, .long hh])), (on, .inl (k 0, 401, .inl now))] s.heap.size = A at hD hm ⊢
  have hA : ∀ q : Nat, s.heap.size ≤ q → A q := fun q h => by rw [← hAe]; exact Or.inr h
  have hS : va_S A s.heap s.heap [] := va_S.rf
  have hl := lv_entry ([.ref o, .int a1]) (n := 3) (Nat.le_of_ble_eq_true rfl)
  rw [lg_entry_eq]
  generalize (lg_sl ([.ref o, .int a1]) ++ List.replicate (3 - (lg_sl ([.ref o, .int a1])).length) Slot.unset).toArray = ls at hl ⊢
  have hl : lv_has ls 3 [(0, .ref o), (1, .int a1)] := hl
  obtain ⟨H, hH⟩ : ∃ H, H = s.heap := ⟨_, rfl⟩
  rw [← hH] at hP
  have hS : va_S A s.heap H [] := by rw [hH]; exact hS
  suffices hgo : W p l e _ s m _ below meth c H [] 0 0 _ _ by rw [hH] at hgo; exact hgo
  unfold f_X6_closesUp at h
  refine lv_aload_n hx hb dX6_closesUp_0 rfl (lv_at hl 0 rfl) ?_
  refine va_get (D := D) (ci := 6) (v := .ref on) (C := RX6) (T := TX6) (N := 14) hx hb ht hiX6 hown hK hP 0 rfl rfl 0 (by decide) (ht _ wb765) (fun _ h9 => h9) rfl dX6_closesUp_1 ?_
  refine lv_bipush (v := 32) hx hb dX6_closesUp_4 (by decide) ?_
  refine lv_dup2_11 hx hb dX6_closesUp_6 rfl rfl ?_
  obtain ⟨hi1, h⟩ := zg h
  refine va_iald hx hb hK hP 1 0 rfl rfl hi1 dX6_closesUp_7 ?_
  refine lv_iconst (v := 1) hx hb dX6_closesUp_8 (by decide) ?_
  refine lv_isub hx hb dX6_closesUp_9 ?_
  obtain ⟨hi2, h⟩ := zg h
  refine va_iast hx hb hK hP hD hS 1 0 rfl rfl hi2 dX6_closesUp_10 (fun H locs hP hD hS => ?_)
  have hP : va_P D vwCl [(o, .inr (6, [.ref on, .ref op, .int states, .ref orr, .ref ot, .int bytes, .ref oh, .ref og, .ref od, .int reading, .int at_, .int wrongAt, .int number, .long hh])), (on, .inl (k 0, 401, .inl (upd now (Int32.toNatClampNeg 32) ((now (Int32.toNatClampNeg 32)) - 1))))] H := hP
  have hD : va_D A [(o, .inr (6, [.ref on, .ref op, .int states, .ref orr, .ref ot, .int bytes, .ref oh, .ref og, .ref od, .int reading, .int at_, .int wrongAt, .int number, .long hh])), (on, .inl (k 0, 401, .inl (upd now (Int32.toNatClampNeg 32) ((now (Int32.toNatClampNeg 32)) - 1))))] := hD
  refine lv_bipush (v := 11) hx hb dX6_closesUp_11 (by decide) ?_
  refine lv_iload_n hx hb dX6_closesUp_13 rfl (lv_at hl 1 rfl) ?_
  refine lv_imul hx hb dX6_closesUp_14 ?_
  refine lv_istore_n (lv' := [(2, .int (11 * a1)), (0, .ref o), (1, .int a1)]) hx hb dX6_closesUp_15 rfl hl (by decide) rfl (fun ls hl => ?_)
  have loop16 : ∀ (v1 : Int32) (states : Int32) (bytes : Int32) (reading : Int32) (at_ : Int32) (wrongAt : Int32) (number : Int32) (hh : Int64), ∀ (K : Int32 → (Nat → Int32) → Option ((Nat → Int32))), (∀ (v2 : Int32) (now : Nat → Int32), K v2 now = some res → ∀ (H : Heap) (locs : List Loc), va_P D vwCl [(o, .inr (6, [.ref on, .ref op, .int states, .ref orr, .ref ot, .int bytes, .ref oh, .ref og, .ref od, .int reading, .int at_, .int wrongAt, .int number, .long hh])), (on, .inl (k 0, 401, .inl now))] H → va_D A [(o, .inr (6, [.ref on, .ref op, .int states, .ref orr, .ref ot, .int bytes, .ref oh, .ref og, .ref od, .int reading, .int at_, .int wrongAt, .int number, .long hh])), (on, .inl (k 0, 401, .inl now))] → va_S A s.heap H locs → ∀ ls : Array Slot, lv_has ls 3 [(0, .ref o), (1, .int v1), (2, .int v2)] → W p l e (headSpec wk_X6_closesUp rm_X6_closesUp).room s m ([.ref o, .int a1] : List Value).toArray below meth c H locs 0 0 (MQ below (va_Qv (fun (_ : Unit) => True) (fun _ tq9 => va_P D vwCl [(o, .inr (6, [.ref on, .ref op, .int states, .ref orr, .ref ot, .int bytes, .ref oh, .ref og, .ref od, .int reading, .int at_, .int wrongAt, .int number, .long hh])), (on, .inl (k 0, 401, .inl res))] tq9.heap) A) ([.ref o, .int a1] : List Value).toArray s 0 0 A) (F0 m 57 ls [])) → ∀ (n : Nat) (v2 : Int32) (now : Nat → Int32), f_X6_closesUp_L16 fu K  n v2 now = some res → ∀ (H : Heap) (locs : List Loc), va_P D vwCl [(o, .inr (6, [.ref on, .ref op, .int states, .ref orr, .ref ot, .int bytes, .ref oh, .ref og, .ref od, .int reading, .int at_, .int wrongAt, .int number, .long hh])), (on, .inl (k 0, 401, .inl now))] H → va_D A [(o, .inr (6, [.ref on, .ref op, .int states, .ref orr, .ref ot, .int bytes, .ref oh, .ref og, .ref od, .int reading, .int at_, .int wrongAt, .int number, .long hh])), (on, .inl (k 0, 401, .inl now))] → va_S A s.heap H locs → ∀ ls : Array Slot, lv_has ls 3 [(0, .ref o), (1, .int v1), (2, .int v2)] → W p l e (headSpec wk_X6_closesUp rm_X6_closesUp).room s m ([.ref o, .int a1] : List Value).toArray below meth c H locs 0 0 (MQ below (va_Qv (fun (_ : Unit) => True) (fun _ tq9 => va_P D vwCl [(o, .inr (6, [.ref on, .ref op, .int states, .ref orr, .ref ot, .int bytes, .ref oh, .ref og, .ref od, .int reading, .int at_, .int wrongAt, .int number, .long hh])), (on, .inl (k 0, 401, .inl res))] tq9.heap) A) ([.ref o, .int a1] : List Value).toArray s 0 0 A) (F0 m 16 ls []) := by
    intro v1 states bytes reading at_ wrongAt number hh K hKK n
    induction n with
    | zero =>
      intro v2 now h
      rw [f_X6_closesUp_L16] at h
      cases h
    | succ n ih =>
      intro v2 now h H locs hP hD hS ls hl
      rw [f_X6_closesUp_L16] at h
      refine lv_iload_n hx hb dX6_closesUp_16 rfl (lv_at hl 2 rfl) ?_
      refine lv_bipush (v := 11) hx hb dX6_closesUp_17 (by decide) ?_
      refine lv_aload_n hx hb dX6_closesUp_19 rfl (lv_at hl 0 rfl) ?_
      refine va_get (D := D) (ci := 6) (v := .ref on) (C := RX6) (T := TX6) (N := 14) hx hb ht hiX6 hown hK hP 0 rfl rfl 0 (by decide) (ht _ wb765) (fun _ h9 => h9) rfl dX6_closesUp_20 ?_
      refine lv_bipush (v := 32) hx hb dX6_closesUp_23 (by decide) ?_
      obtain ⟨hi3, h⟩ := zg h
      refine va_iald hx hb hK hP 1 0 rfl rfl hi3 dX6_closesUp_25 ?_
      refine lv_imul hx hb dX6_closesUp_26 ?_
      refine lv_icmp_ge (tgt := 57) hx hb dX6_closesUp_27 (by decide) (fun c1 => ?_) (fun c1 => ?_)
      · have h := zt h c1
        exact hKK _ _ h _ _ hP hD hS _ (lv_sub hl [0, 1, 2] rfl)
      · have h := zf h c1
        refine lv_aload_n hx hb dX6_closesUp_30 rfl (lv_at hl 0 rfl) ?_
        refine va_get (D := D) (ci := 6) (v := .ref on) (C := RX6) (T := TX6) (N := 14) hx hb ht hiX6 hown hK hP 0 rfl rfl 0 (by decide) (ht _ wb765) (fun _ h9 => h9) rfl dX6_closesUp_31 ?_
        refine lv_bipush (v := 33) hx hb dX6_closesUp_34 (by decide) ?_
        refine lv_iload_n hx hb dX6_closesUp_36 rfl (lv_at hl 2 rfl) ?_
        refine lv_iadd hx hb dX6_closesUp_37 ?_
        refine lv_aload_n hx hb dX6_closesUp_38 rfl (lv_at hl 0 rfl) ?_
        refine va_get (D := D) (ci := 6) (v := .ref on) (C := RX6) (T := TX6) (N := 14) hx hb ht hiX6 hown hK hP 0 rfl rfl 0 (by decide) (ht _ wb765) (fun _ h9 => h9) rfl dX6_closesUp_39 ?_
        refine lv_bipush (v := 33) hx hb dX6_closesUp_42 (by decide) ?_
        refine lv_iload_n hx hb dX6_closesUp_44 rfl (lv_at hl 2 rfl) ?_
        refine lv_iadd hx hb dX6_closesUp_45 ?_
        refine lv_bipush (v := 11) hx hb dX6_closesUp_46 (by decide) ?_
        refine lv_iadd hx hb dX6_closesUp_48 ?_
        obtain ⟨hi4, h⟩ := zg h
        refine va_iald hx hb hK hP 1 0 rfl rfl hi4 dX6_closesUp_49 ?_
        obtain ⟨hi5, h⟩ := zg h
        refine va_iast hx hb hK hP hD hS 1 0 rfl rfl hi5 dX6_closesUp_50 (fun H locs hP hD hS => ?_)
        have hP : va_P D vwCl [(o, .inr (6, [.ref on, .ref op, .int states, .ref orr, .ref ot, .int bytes, .ref oh, .ref og, .ref od, .int reading, .int at_, .int wrongAt, .int number, .long hh])), (on, .inl (k 0, 401, .inl (upd now (Int32.toNatClampNeg (33 + v2)) (now (Int32.toNatClampNeg ((33 + v2) + 11))))))] H := hP
        have hD : va_D A [(o, .inr (6, [.ref on, .ref op, .int states, .ref orr, .ref ot, .int bytes, .ref oh, .ref og, .ref od, .int reading, .int at_, .int wrongAt, .int number, .long hh])), (on, .inl (k 0, 401, .inl (upd now (Int32.toNatClampNeg (33 + v2)) (now (Int32.toNatClampNeg ((33 + v2) + 11))))))] := hD
        refine lv_iinc (v := v2 + 1) (lv' := [(2, .int (v2 + 1)), (0, .ref o), (1, .int v1)]) hx hb dX6_closesUp_51 hl (k := 2) rfl rfl (by decide) rfl (fun ls hl => ?_)
        refine lv_goto (tgt := 16) hx hb dX6_closesUp_54 (by decide) ?_
        exact ih _ _ h _ _ hP hD hS _ (lv_sub hl [1, 2, 0] rfl)
  refine loop16 _ _ _ _ _ _ _ _ _ ?_ fu _ _ h _ _ hP hD hS _ (lv_sub hl [1, 2, 0] rfl)
  intro x1 x2 h H locs hP hD hS ls hl
  try dsimp only at h
  have hP : va_P D vwCl [(o, .inr (6, [.ref on, .ref op, .int states, .ref orr, .ref ot, .int bytes, .ref oh, .ref og, .ref od, .int reading, .int at_, .int wrongAt, .int number, .long hh])), (on, .inl (k 0, 401, .inl x2))] H := hP
  have hD : va_D A [(o, .inr (6, [.ref on, .ref op, .int states, .ref orr, .ref ot, .int bytes, .ref oh, .ref og, .ref od, .int reading, .int at_, .int wrongAt, .int number, .long hh])), (on, .inl (k 0, 401, .inl x2))] := hD
  have hl : lv_has ls 3 [(0, .ref o), (1, .int a1), (2, .int x1)] := hl
  obtain rfl := Option.some.inj h
  exact W.vret hx hb hr (fun t ht9 hW => ⟨⟨(), rfl, trivial, zend ht9 hP⟩, hS.F ht9⟩) hS.2.2 dX6_closesUp_57
def f_X6_rule (fu : Nat) (states : Int32) (now : Nat → Int32) (past : Nat → Int32) (refused : Nat → Int32) (a1 : Int32) (a2 : Int32) : Option (Int32 × Int32 × (Nat → Int32) × (Nat → Int32) × (Nat → Int32)) :=
  if zok 32 401 then ((f_X6_in  a1 0 (now (Int32.toNatClampNeg 32))).bind fun r1 => if (zB r1) = 0 then ((f_X6_bad refused ).bind fun r2 => some (r2.1, states, now, past, r2.2)) else ((f_X6_in  a2 0 2).bind fun r3 => if (zB r3) = 0 then ((f_X6_bad refused ).bind fun r8 => some (r8.1, states, now, past, r8.2)) else (if zok 32 401 then (if (now (Int32.toNatClampNeg 32)) = 12 then ((f_X6_full refused ).bind fun r7 => some (r7.1, states, now, past, r7.2)) else ((f_X6_remembers fu states now past ).bind fun r4 => (f_X6_makesRoom fu now a1).bind fun r5 => (f_X6_begins fu 401 r5 (33 + (11 * a1)) a2).bind fun r6 => if zok 32 401 then (some (r6 (Int32.toNatClampNeg 32), r4.1, r6, r4.2, refused)) else none)) else none))) else none
abbrev wk_X6_rule : List Cond := Cond.code yX6_rule cX6_rule 3 (some .int) :: WB
abbrev rm_X6_rule : Room := { frames := 1, cells := 0, slots := 0, locals := 23 }
set_option maxHeartbeats 4000000 in
set_option maxRecDepth 100000 in
theorem c_X6_rule (l : Launch) (D : va_G) (k : Nat → Nat) (o on op orr ot oh og od : Nat) (states : Int32) (bytes : Int32) (reading : Int32) (at_ : Int32) (wrongAt : Int32) (number : Int32) (hh : Int64) (now : Nat → Int32) (past : Nat → Int32) (refused : Nat → Int32) (a1 : Int32) (a2 : Int32) (fu : Nat) {res : Int32 × Int32 × (Nat → Int32) × (Nat → Int32) × (Nat → Int32)} (h : f_X6_rule fu states now past refused a1 a2 = some res) : Ci l yX6_rule wk_X6_rule rm_X6_rule D k [.ref o, .int a1, .int a2] [(o, .inr (6, [.ref on, .ref op, .int states, .ref orr, .ref ot, .int bytes, .ref oh, .ref og, .ref od, .int reading, .int at_, .int wrongAt, .int number, .long hh])), (on, .inl (k 0, 401, .inl now)), (op, .inl (k 0, 2005, .inl past)), (orr, .inl (k 0, 3, .inl refused))] [(o, .inr (6, [.ref on, .ref op, .int res.2.1, .ref orr, .ref ot, .int bytes, .ref oh, .ref og, .ref od, .int reading, .int at_, .int wrongAt, .int number, .long hh])), (on, .inl (k 0, 401, .inl res.2.2.1)), (op, .inl (k 0, 2005, .inl res.2.2.2.1)), (orr, .inl (k 0, 3, .inl res.2.2.2.2))] res.1 := by
  unfold Ci
  intro sz
  refine Met.ofW (cc := cX6_rule) (maxL := 3) (ret := (some .int)) (by decide) rfl ?_
  intro p e s m args below meth c s₁ B hml hv
  obtain ⟨rfl, hsz, hP, hK, hD0, hm⟩ := hv
  have hx := B.exec
  have hb := B.bytes
  have hr := B.returns
  have ht : ∀ w ∈ WB, w.before _ s = true := fun w hw => atoms_spec (ws := wk_X6_rule) B.pre w (List.mem_cons_of_mem _ hw)
  have hown : s.vm.findClass RX6 = some m.cls := findClass_of_methodNamed B.named
  have hlocks := B.notSynchronized
  subst hsz
  have hD := hD0.self (sz := s.heap.size)
  generalize hAe : va_A [(o, .inr (6, [.ref on, .ref op, .int states, .ref orr, .ref ot, .int bytes, .ref oh, .ref og, .ref od, .int reading, .int at_, .int wrongAt, .int number, .long hh])), (on, .inl (k 0, 401, .inl now)), (op, .inl (k 0, 2005, .inl past)), (orr, .inl (k 0, 3, .inl refused))] s.heap.size = A at hD hm ⊢
  have hA : ∀ q : Nat, s.heap.size ≤ q → A q := fun q h => by rw [← hAe]; exact Or.inr h
  have hS : va_S A s.heap s.heap [] := va_S.rf
  have hl := lv_entry ([.ref o, .int a1, .int a2]) (n := 3) (Nat.le_of_ble_eq_true rfl)
  rw [lg_entry_eq]
  generalize (lg_sl ([.ref o, .int a1, .int a2]) ++ List.replicate (3 - (lg_sl ([.ref o, .int a1, .int a2])).length) Slot.unset).toArray = ls at hl ⊢
  have hl : lv_has ls 3 [(0, .ref o), (1, .int a1), (2, .int a2)] := hl
  obtain ⟨H, hH⟩ : ∃ H, H = s.heap := ⟨_, rfl⟩
  rw [← hH] at hP
  have hS : va_S A s.heap H [] := by rw [hH]; exact hS
  suffices hgo : W p l e _ s m _ below meth c H [] 0 0 _ _ by rw [hH] at hgo; exact hgo
  unfold f_X6_rule at h
  refine lv_iload_n hx hb dX6_rule_0 rfl (lv_at hl 1 rfl) ?_
  refine lv_iconst (v := 0) hx hb dX6_rule_1 (by decide) ?_
  refine lv_aload_n hx hb dX6_rule_2 rfl (lv_at hl 0 rfl) ?_
  refine va_get (D := D) (ci := 6) (v := .ref on) (C := RX6) (T := TX6) (N := 14) hx hb ht hiX6 hown hK hP 0 rfl rfl 0 (by decide) (ht _ wb765) (fun _ h9 => h9) rfl dX6_rule_3 ?_
  refine lv_bipush (v := 32) hx hb dX6_rule_6 (by decide) ?_
  obtain ⟨hi1, h⟩ := zg h
  refine va_iald hx hb hK hP 1 0 rfl rfl hi1 dX6_rule_8 ?_
  obtain ⟨r1, h1, h⟩ := zb h
  refine zi (zrS (As := [.int a1, .int 0, .int (now (Int32.toNatClampNeg 32))]) (rest := []) ⟨hx, hb, hml, hown, ht⟩ (c_X6_in l D k   a1 0 (now (Int32.toNatClampNeg 32)) h1 _) (va_cwS 3 ht (gdS wb820 wb821 wb80 wb822) rfl rfl rfl (by decide +kernel) ⟨Nat.le_of_ble_eq_true rfl, Nat.le_of_ble_eq_true rfl⟩) hK hP hD hS hA hm [] rfl rfl rfl hl.1 rfl (Nat.le_of_ble_eq_true rfl) dX6_rule_9 ⟨Nat.le_refl _, Nat.le_refl _⟩) hP hD hS hA [] rfl rfl (fun H locs hP hD hS => ?_)
  have hP : va_P D vwCl [(o, .inr (6, [.ref on, .ref op, .int states, .ref orr, .ref ot, .int bytes, .ref oh, .ref og, .ref od, .int reading, .int at_, .int wrongAt, .int number, .long hh])), (on, .inl (k 0, 401, .inl now)), (op, .inl (k 0, 2005, .inl past)), (orr, .inl (k 0, 3, .inl refused))] H := hP
  have hD : va_D A [(o, .inr (6, [.ref on, .ref op, .int states, .ref orr, .ref ot, .int bytes, .ref oh, .ref og, .ref od, .int reading, .int at_, .int wrongAt, .int number, .long hh])), (on, .inl (k 0, 401, .inl now)), (op, .inl (k 0, 2005, .inl past)), (orr, .inl (k 0, 3, .inl refused))] := hD
  refine lv_if_eq (tgt := 24) hx hb dX6_rule_12 (by decide) (fun c3 => ?_) (fun c3 => ?_)
  · have h := zt h c3
    refine lv_aload_n hx hb dX6_rule_24 rfl (lv_at hl 0 rfl) ?_
    obtain ⟨r2, h2, h⟩ := zb h
    refine zi (zrV (C := RX6) (T := TX6) (N := 14) (As := []) (rest := []) ⟨hx, hb, hml, hown, ht⟩ (c_X6_bad l D k o on op orr ot oh og od states bytes reading at_ wrongAt number hh refused  h2 _) (cwV 0 ht (gdV wb826 wb828 wb29 wb80 wb829) rfl rfl rfl (by decide +kernel) ⟨Nat.le_of_ble_eq_true rfl, Nat.le_of_ble_eq_true rfl⟩) hK hP hD hS hA hm [0, 3] rfl rfl 0 6 rfl rfl rfl hl.1 rfl (Nat.le_of_ble_eq_true rfl) dX6_rule_25 ⟨Nat.le_refl _, Nat.le_refl _⟩) hP hD hS hA [0, 3] rfl rfl (fun H locs hP hD hS => ?_)
    have hP : va_P D vwCl [(o, .inr (6, [.ref on, .ref op, .int states, .ref orr, .ref ot, .int bytes, .ref oh, .ref og, .ref od, .int reading, .int at_, .int wrongAt, .int number, .long hh])), (on, .inl (k 0, 401, .inl now)), (op, .inl (k 0, 2005, .inl past)), (orr, .inl (k 0, 3, .inl r2.2))] H := hP
    have hD : va_D A [(o, .inr (6, [.ref on, .ref op, .int states, .ref orr, .ref ot, .int bytes, .ref oh, .ref og, .ref od, .int reading, .int at_, .int wrongAt, .int number, .long hh])), (on, .inl (k 0, 401, .inl now)), (op, .inl (k 0, 2005, .inl past)), (orr, .inl (k 0, 3, .inl r2.2))] := hD
    obtain rfl := Option.some.inj h
    exact W.iret (v := r2.1) hx hb hr (fun t ht9 hW => ⟨⟨_, (), rfl, rfl, zend ht9 hP⟩, hS.F ht9⟩) hS.2.2 dX6_rule_28
  · have h := zf h c3
    refine lv_iload_n hx hb dX6_rule_15 rfl (lv_at hl 2 rfl) ?_
    refine lv_iconst (v := 0) hx hb dX6_rule_16 (by decide) ?_
    refine lv_iconst (v := 2) hx hb dX6_rule_17 (by decide) ?_
    obtain ⟨r3, h3, h⟩ := zb h
    refine zi (zrS (As := [.int a2, .int 0, .int 2]) (rest := []) ⟨hx, hb, hml, hown, ht⟩ (c_X6_in l D k   a2 0 2 h3 _) (va_cwS 3 ht (gdS wb820 wb821 wb80 wb822) rfl rfl rfl (by decide +kernel) ⟨Nat.le_of_ble_eq_true rfl, Nat.le_of_ble_eq_true rfl⟩) hK hP hD hS hA hm [] rfl rfl rfl hl.1 rfl (Nat.le_of_ble_eq_true rfl) dX6_rule_18 ⟨Nat.le_refl _, Nat.le_refl _⟩) hP hD hS hA [] rfl rfl (fun H locs hP hD hS => ?_)
    have hP : va_P D vwCl [(o, .inr (6, [.ref on, .ref op, .int states, .ref orr, .ref ot, .int bytes, .ref oh, .ref og, .ref od, .int reading, .int at_, .int wrongAt, .int number, .long hh])), (on, .inl (k 0, 401, .inl now)), (op, .inl (k 0, 2005, .inl past)), (orr, .inl (k 0, 3, .inl refused))] H := hP
    have hD : va_D A [(o, .inr (6, [.ref on, .ref op, .int states, .ref orr, .ref ot, .int bytes, .ref oh, .ref og, .ref od, .int reading, .int at_, .int wrongAt, .int number, .long hh])), (on, .inl (k 0, 401, .inl now)), (op, .inl (k 0, 2005, .inl past)), (orr, .inl (k 0, 3, .inl refused))] := hD
    refine lv_if_ne (tgt := 29) hx hb dX6_rule_21 (by decide) (fun c2 => ?_) (fun c2 => ?_)
    · have h := zf h c2
      refine lv_aload_n hx hb dX6_rule_29 rfl (lv_at hl 0 rfl) ?_
      refine va_get (D := D) (ci := 6) (v := .ref on) (C := RX6) (T := TX6) (N := 14) hx hb ht hiX6 hown hK hP 0 rfl rfl 0 (by decide) (ht _ wb765) (fun _ h9 => h9) rfl dX6_rule_30 ?_
      refine lv_bipush (v := 32) hx hb dX6_rule_33 (by decide) ?_
      obtain ⟨hi2, h⟩ := zg h
      refine va_iald hx hb hK hP 1 0 rfl rfl hi2 dX6_rule_35 ?_
      refine lv_bipush (v := 12) hx hb dX6_rule_36 (by decide) ?_
      refine lv_icmp_ne (tgt := 46) hx hb dX6_rule_38 (by decide) (fun c1 => ?_) (fun c1 => ?_)
      · have h := zf h c1
        refine lv_aload_n hx hb dX6_rule_46 rfl (lv_at hl 0 rfl) ?_
        obtain ⟨r4, h4, h⟩ := zb h
        refine zv (zrV (C := RX6) (T := TX6) (N := 14) (As := []) (rest := []) ⟨hx, hb, hml, hown, ht⟩ (c_X6_remembers l D k o on op orr ot oh og od states bytes reading at_ wrongAt number hh now past  fu h4 _) (cwV 0 ht (gdV wb830 wb832 wb30 wb80 wb833) rfl rfl rfl (by decide +kernel) ⟨Nat.le_of_ble_eq_true rfl, Nat.le_of_ble_eq_true rfl⟩) hK hP hD hS hA hm [0, 1, 2] rfl rfl 0 6 rfl rfl rfl hl.1 rfl (Nat.le_of_ble_eq_true rfl) dX6_rule_47 ⟨Nat.le_refl _, Nat.le_refl _⟩) hP hD hS hA [0, 1, 2] rfl rfl (fun H locs hP hD hS => ?_)
        have hP : va_P D vwCl [(o, .inr (6, [.ref on, .ref op, .int r4.1, .ref orr, .ref ot, .int bytes, .ref oh, .ref og, .ref od, .int reading, .int at_, .int wrongAt, .int number, .long hh])), (on, .inl (k 0, 401, .inl now)), (op, .inl (k 0, 2005, .inl r4.2)), (orr, .inl (k 0, 3, .inl refused))] H := hP
        have hD : va_D A [(o, .inr (6, [.ref on, .ref op, .int r4.1, .ref orr, .ref ot, .int bytes, .ref oh, .ref og, .ref od, .int reading, .int at_, .int wrongAt, .int number, .long hh])), (on, .inl (k 0, 401, .inl now)), (op, .inl (k 0, 2005, .inl r4.2)), (orr, .inl (k 0, 3, .inl refused))] := hD
        refine lv_aload_n hx hb dX6_rule_50 rfl (lv_at hl 0 rfl) ?_
        refine lv_iload_n hx hb dX6_rule_51 rfl (lv_at hl 1 rfl) ?_
        obtain ⟨r5, h5, h⟩ := zb h
        refine zv (zrV (C := RX6) (T := TX6) (N := 14) (As := [.int a1]) (rest := []) ⟨hx, hb, hml, hown, ht⟩ (c_X6_makesRoom l D k o on op orr ot oh og od r4.1 bytes reading at_ wrongAt number hh now a1 fu h5 _) (cwV 1 ht (gdV wb846 wb848 wb32 wb80 wb849) rfl rfl rfl (by decide +kernel) ⟨Nat.le_of_ble_eq_true rfl, Nat.le_of_ble_eq_true rfl⟩) hK hP hD hS hA hm [0, 1] rfl rfl 0 6 rfl rfl rfl hl.1 rfl (Nat.le_of_ble_eq_true rfl) dX6_rule_52 ⟨Nat.le_refl _, Nat.le_refl _⟩) hP hD hS hA [0, 1] rfl rfl (fun H locs hP hD hS => ?_)
        have hP : va_P D vwCl [(o, .inr (6, [.ref on, .ref op, .int r4.1, .ref orr, .ref ot, .int bytes, .ref oh, .ref og, .ref od, .int reading, .int at_, .int wrongAt, .int number, .long hh])), (on, .inl (k 0, 401, .inl r5)), (op, .inl (k 0, 2005, .inl r4.2)), (orr, .inl (k 0, 3, .inl refused))] H := hP
        have hD : va_D A [(o, .inr (6, [.ref on, .ref op, .int r4.1, .ref orr, .ref ot, .int bytes, .ref oh, .ref og, .ref od, .int reading, .int at_, .int wrongAt, .int number, .long hh])), (on, .inl (k 0, 401, .inl r5)), (op, .inl (k 0, 2005, .inl r4.2)), (orr, .inl (k 0, 3, .inl refused))] := hD
        refine lv_aload_n hx hb dX6_rule_55 rfl (lv_at hl 0 rfl) ?_
        refine va_get (D := D) (ci := 6) (v := .ref on) (C := RX6) (T := TX6) (N := 14) hx hb ht hiX6 hown hK hP 0 rfl rfl 0 (by decide) (ht _ wb765) (fun _ h9 => h9) rfl dX6_rule_56 ?_
        refine lv_bipush (v := 33) hx hb dX6_rule_59 (by decide) ?_
        refine lv_bipush (v := 11) hx hb dX6_rule_61 (by decide) ?_
        refine lv_iload_n hx hb dX6_rule_63 rfl (lv_at hl 1 rfl) ?_
        refine lv_imul hx hb dX6_rule_64 ?_
        refine lv_iadd hx hb dX6_rule_65 ?_
        refine lv_iload_n hx hb dX6_rule_66 rfl (lv_at hl 2 rfl) ?_
        obtain ⟨r6, h6, h⟩ := zb h
        refine zv (zrS (As := [.ref on, .int (33 + (11 * a1)), .int a2]) (rest := []) ⟨hx, hb, hml, hown, ht⟩ (c_X6_begins l D k on 401 r5 (33 + (11 * a1)) a2 fu h6 _) (va_cwS 3 ht (gdS wb850 wb851 wb80 wb852) rfl rfl rfl (by decide +kernel) ⟨Nat.le_of_ble_eq_true rfl, Nat.le_of_ble_eq_true rfl⟩) hK hP hD hS hA hm [1] rfl rfl rfl hl.1 rfl (Nat.le_of_ble_eq_true rfl) dX6_rule_67 ⟨Nat.le_refl _, Nat.le_refl _⟩) hP hD hS hA [1] rfl rfl (fun H locs hP hD hS => ?_)
        have hP : va_P D vwCl [(o, .inr (6, [.ref on, .ref op, .int r4.1, .ref orr, .ref ot, .int bytes, .ref oh, .ref og, .ref od, .int reading, .int at_, .int wrongAt, .int number, .long hh])), (on, .inl (k 0, 401, .inl r6)), (op, .inl (k 0, 2005, .inl r4.2)), (orr, .inl (k 0, 3, .inl refused))] H := hP
        have hD : va_D A [(o, .inr (6, [.ref on, .ref op, .int r4.1, .ref orr, .ref ot, .int bytes, .ref oh, .ref og, .ref od, .int reading, .int at_, .int wrongAt, .int number, .long hh])), (on, .inl (k 0, 401, .inl r6)), (op, .inl (k 0, 2005, .inl r4.2)), (orr, .inl (k 0, 3, .inl refused))] := hD
        refine lv_aload_n hx hb dX6_rule_70 rfl (lv_at hl 0 rfl) ?_
        refine va_get (D := D) (ci := 6) (v := .ref on) (C := RX6) (T := TX6) (N := 14) hx hb ht hiX6 hown hK hP 0 rfl rfl 0 (by decide) (ht _ wb765) (fun _ h9 => h9) rfl dX6_rule_71 ?_
        refine lv_bipush (v := 32) hx hb dX6_rule_74 (by decide) ?_
        obtain ⟨hi3, h⟩ := zg h
        refine va_iald hx hb hK hP 1 0 rfl rfl hi3 dX6_rule_76 ?_
        obtain rfl := Option.some.inj h
        exact W.iret (v := r6 (Int32.toNatClampNeg 32)) hx hb hr (fun t ht9 hW => ⟨⟨_, (), rfl, rfl, zend ht9 hP⟩, hS.F ht9⟩) hS.2.2 dX6_rule_77
      · have h := zt h c1
        refine lv_aload_n hx hb dX6_rule_41 rfl (lv_at hl 0 rfl) ?_
        obtain ⟨r7, h7, h⟩ := zb h
        refine zi (zrV (C := RX6) (T := TX6) (N := 14) (As := []) (rest := []) ⟨hx, hb, hml, hown, ht⟩ (c_X6_full l D k o on op orr ot oh og od states bytes reading at_ wrongAt number hh refused  h7 _) (cwV 0 ht (gdV wb842 wb844 wb31 wb80 wb845) rfl rfl rfl (by decide +kernel) ⟨Nat.le_of_ble_eq_true rfl, Nat.le_of_ble_eq_true rfl⟩) hK hP hD hS hA hm [0, 3] rfl rfl 0 6 rfl rfl rfl hl.1 rfl (Nat.le_of_ble_eq_true rfl) dX6_rule_42 ⟨Nat.le_refl _, Nat.le_refl _⟩) hP hD hS hA [0, 3] rfl rfl (fun H locs hP hD hS => ?_)
        have hP : va_P D vwCl [(o, .inr (6, [.ref on, .ref op, .int states, .ref orr, .ref ot, .int bytes, .ref oh, .ref og, .ref od, .int reading, .int at_, .int wrongAt, .int number, .long hh])), (on, .inl (k 0, 401, .inl now)), (op, .inl (k 0, 2005, .inl past)), (orr, .inl (k 0, 3, .inl r7.2))] H := hP
        have hD : va_D A [(o, .inr (6, [.ref on, .ref op, .int states, .ref orr, .ref ot, .int bytes, .ref oh, .ref og, .ref od, .int reading, .int at_, .int wrongAt, .int number, .long hh])), (on, .inl (k 0, 401, .inl now)), (op, .inl (k 0, 2005, .inl past)), (orr, .inl (k 0, 3, .inl r7.2))] := hD
        obtain rfl := Option.some.inj h
        exact W.iret (v := r7.1) hx hb hr (fun t ht9 hW => ⟨⟨_, (), rfl, rfl, zend ht9 hP⟩, hS.F ht9⟩) hS.2.2 dX6_rule_45
    · have h := zt h c2
      refine lv_aload_n hx hb dX6_rule_24 rfl (lv_at hl 0 rfl) ?_
      obtain ⟨r8, h8, h⟩ := zb h
      refine zi (zrV (C := RX6) (T := TX6) (N := 14) (As := []) (rest := []) ⟨hx, hb, hml, hown, ht⟩ (c_X6_bad l D k o on op orr ot oh og od states bytes reading at_ wrongAt number hh refused  h8 _) (cwV 0 ht (gdV wb826 wb828 wb29 wb80 wb829) rfl rfl rfl (by decide +kernel) ⟨Nat.le_of_ble_eq_true rfl, Nat.le_of_ble_eq_true rfl⟩) hK hP hD hS hA hm [0, 3] rfl rfl 0 6 rfl rfl rfl hl.1 rfl (Nat.le_of_ble_eq_true rfl) dX6_rule_25 ⟨Nat.le_refl _, Nat.le_refl _⟩) hP hD hS hA [0, 3] rfl rfl (fun H locs hP hD hS => ?_)
      have hP : va_P D vwCl [(o, .inr (6, [.ref on, .ref op, .int states, .ref orr, .ref ot, .int bytes, .ref oh, .ref og, .ref od, .int reading, .int at_, .int wrongAt, .int number, .long hh])), (on, .inl (k 0, 401, .inl now)), (op, .inl (k 0, 2005, .inl past)), (orr, .inl (k 0, 3, .inl r8.2))] H := hP
      have hD : va_D A [(o, .inr (6, [.ref on, .ref op, .int states, .ref orr, .ref ot, .int bytes, .ref oh, .ref og, .ref od, .int reading, .int at_, .int wrongAt, .int number, .long hh])), (on, .inl (k 0, 401, .inl now)), (op, .inl (k 0, 2005, .inl past)), (orr, .inl (k 0, 3, .inl r8.2))] := hD
      obtain rfl := Option.some.inj h
      exact W.iret (v := r8.1) hx hb hr (fun t ht9 hW => ⟨⟨_, (), rfl, rfl, zend ht9 hP⟩, hS.F ht9⟩) hS.2.2 dX6_rule_28
def f_X6_sets (fu : Nat) (states : Int32) (now : Nat → Int32) (past : Nat → Int32) (refused : Nat → Int32) (a1 : Int32) (a2 : Int32) (a3 : Int32) : Option (Int32 × Int32 × (Nat → Int32) × (Nat → Int32) × (Nat → Int32)) :=
  (f_X6_isRule now a1).bind fun r1 => if (zB r1) = 0 then ((f_X6_bad refused ).bind fun r2 => some (r2.1, states, now, past, r2.2)) else ((f_X6_in  a2 0 9).bind fun r3 => if (zB r3) = 0 then ((f_X6_bad refused ).bind fun r4 => some (r4.1, states, now, past, r4.2)) else ((f_X6_mostOf  a2).bind fun r5 => (f_X6_in  a3 0 r5).bind fun r6 => if (zB r6) = 0 then ((f_X6_bad refused ).bind fun r8 => some (r8.1, states, now, past, r8.2)) else ((f_X6_remembers fu states now past ).bind fun r7 => if zok ((33 + (11 * a1)) + a2) 401 then (if zok ((33 + (11 * a1)) + a2) 401 then (some (now (Int32.toNatClampNeg ((33 + (11 * a1)) + a2)), r7.1, upd now (Int32.toNatClampNeg ((33 + (11 * a1)) + a2)) a3, r7.2, refused)) else none) else none)))
abbrev wk_X6_sets : List Cond := Cond.code yX6_sets cX6_sets 6 (some .int) :: WB
abbrev rm_X6_sets : Room := { frames := 2, cells := 0, slots := 0, locals := 43 }
set_option maxHeartbeats 4000000 in
set_option maxRecDepth 100000 in
theorem c_X6_sets (l : Launch) (D : va_G) (k : Nat → Nat) (o on op orr ot oh og od : Nat) (states : Int32) (bytes : Int32) (reading : Int32) (at_ : Int32) (wrongAt : Int32) (number : Int32) (hh : Int64) (now : Nat → Int32) (past : Nat → Int32) (refused : Nat → Int32) (a1 : Int32) (a2 : Int32) (a3 : Int32) (fu : Nat) {res : Int32 × Int32 × (Nat → Int32) × (Nat → Int32) × (Nat → Int32)} (h : f_X6_sets fu states now past refused a1 a2 a3 = some res) : Ci l yX6_sets wk_X6_sets rm_X6_sets D k [.ref o, .int a1, .int a2, .int a3] [(o, .inr (6, [.ref on, .ref op, .int states, .ref orr, .ref ot, .int bytes, .ref oh, .ref og, .ref od, .int reading, .int at_, .int wrongAt, .int number, .long hh])), (on, .inl (k 0, 401, .inl now)), (op, .inl (k 0, 2005, .inl past)), (orr, .inl (k 0, 3, .inl refused))] [(o, .inr (6, [.ref on, .ref op, .int res.2.1, .ref orr, .ref ot, .int bytes, .ref oh, .ref og, .ref od, .int reading, .int at_, .int wrongAt, .int number, .long hh])), (on, .inl (k 0, 401, .inl res.2.2.1)), (op, .inl (k 0, 2005, .inl res.2.2.2.1)), (orr, .inl (k 0, 3, .inl res.2.2.2.2))] res.1 := by
  unfold Ci
  intro sz
  refine Met.ofW (cc := cX6_sets) (maxL := 6) (ret := (some .int)) (by decide) rfl ?_
  intro p e s m args below meth c s₁ B hml hv
  obtain ⟨rfl, hsz, hP, hK, hD0, hm⟩ := hv
  have hx := B.exec
  have hb := B.bytes
  have hr := B.returns
  have ht : ∀ w ∈ WB, w.before _ s = true := fun w hw => atoms_spec (ws := wk_X6_sets) B.pre w (List.mem_cons_of_mem _ hw)
  have hown : s.vm.findClass RX6 = some m.cls := findClass_of_methodNamed B.named
  have hlocks := B.notSynchronized
  subst hsz
  have hD := hD0.self (sz := s.heap.size)
  generalize hAe : va_A [(o, .inr (6, [.ref on, .ref op, .int states, .ref orr, .ref ot, .int bytes, .ref oh, .ref og, .ref od, .int reading, .int at_, .int wrongAt, .int number, .long hh])), (on, .inl (k 0, 401, .inl now)), (op, .inl (k 0, 2005, .inl past)), (orr, .inl (k 0, 3, .inl refused))] s.heap.size = A at hD hm ⊢
  have hA : ∀ q : Nat, s.heap.size ≤ q → A q := fun q h => by rw [← hAe]; exact Or.inr h
  have hS : va_S A s.heap s.heap [] := va_S.rf
  have hl := lv_entry ([.ref o, .int a1, .int a2, .int a3]) (n := 6) (Nat.le_of_ble_eq_true rfl)
  rw [lg_entry_eq]
  generalize (lg_sl ([.ref o, .int a1, .int a2, .int a3]) ++ List.replicate (6 - (lg_sl ([.ref o, .int a1, .int a2, .int a3])).length) Slot.unset).toArray = ls at hl ⊢
  have hl : lv_has ls 6 [(0, .ref o), (1, .int a1), (2, .int a2), (3, .int a3)] := hl
  obtain ⟨H, hH⟩ : ∃ H, H = s.heap := ⟨_, rfl⟩
  rw [← hH] at hP
  have hS : va_S A s.heap H [] := by rw [hH]; exact hS
  suffices hgo : W p l e _ s m _ below meth c H [] 0 0 _ _ by rw [hH] at hgo; exact hgo
  unfold f_X6_sets at h
  refine lv_aload_n hx hb dX6_sets_0 rfl (lv_at hl 0 rfl) ?_
  refine lv_iload_n hx hb dX6_sets_1 rfl (lv_at hl 1 rfl) ?_
  obtain ⟨r1, h1, h⟩ := zb h
  refine zi (zrV (C := RX6) (T := TX6) (N := 14) (As := [.int a1]) (rest := []) ⟨hx, hb, hml, hown, ht⟩ (c_X6_isRule l D k o on op orr ot oh og od states bytes reading at_ wrongAt number hh now a1 h1 _) (cwV 1 ht (gdV wb857 wb859 wb33 wb80 wb860) rfl rfl rfl (by decide +kernel) ⟨Nat.le_of_ble_eq_true rfl, Nat.le_of_ble_eq_true rfl⟩) hK hP hD hS hA hm [0, 1] rfl rfl 0 6 rfl rfl rfl hl.1 rfl (Nat.le_of_ble_eq_true rfl) dX6_sets_2 ⟨Nat.le_refl _, Nat.le_refl _⟩) hP hD hS hA [0, 1] rfl rfl (fun H locs hP hD hS => ?_)
  have hP : va_P D vwCl [(o, .inr (6, [.ref on, .ref op, .int states, .ref orr, .ref ot, .int bytes, .ref oh, .ref og, .ref od, .int reading, .int at_, .int wrongAt, .int number, .long hh])), (on, .inl (k 0, 401, .inl now)), (op, .inl (k 0, 2005, .inl past)), (orr, .inl (k 0, 3, .inl refused))] H := hP
  have hD : va_D A [(o, .inr (6, [.ref on, .ref op, .int states, .ref orr, .ref ot, .int bytes, .ref oh, .ref og, .ref od, .int reading, .int at_, .int wrongAt, .int number, .long hh])), (on, .inl (k 0, 401, .inl now)), (op, .inl (k 0, 2005, .inl past)), (orr, .inl (k 0, 3, .inl refused))] := hD
  refine lv_if_eq (tgt := 30) hx hb dX6_sets_5 (by decide) (fun c3 => ?_) (fun c3 => ?_)
  · have h := zt h c3
    refine lv_aload_n hx hb dX6_sets_30 rfl (lv_at hl 0 rfl) ?_
    obtain ⟨r2, h2, h⟩ := zb h
    refine zi (zrV (C := RX6) (T := TX6) (N := 14) (As := []) (rest := []) ⟨hx, hb, hml, hown, ht⟩ (c_X6_bad l D k o on op orr ot oh og od states bytes reading at_ wrongAt number hh refused  h2 _) (cwV 0 ht (gdV wb826 wb828 wb29 wb80 wb829) rfl rfl rfl (by decide +kernel) ⟨Nat.le_of_ble_eq_true rfl, Nat.le_of_ble_eq_true rfl⟩) hK hP hD hS hA hm [0, 3] rfl rfl 0 6 rfl rfl rfl hl.1 rfl (Nat.le_of_ble_eq_true rfl) dX6_sets_31 ⟨Nat.le_refl _, Nat.le_refl _⟩) hP hD hS hA [0, 3] rfl rfl (fun H locs hP hD hS => ?_)
    have hP : va_P D vwCl [(o, .inr (6, [.ref on, .ref op, .int states, .ref orr, .ref ot, .int bytes, .ref oh, .ref og, .ref od, .int reading, .int at_, .int wrongAt, .int number, .long hh])), (on, .inl (k 0, 401, .inl now)), (op, .inl (k 0, 2005, .inl past)), (orr, .inl (k 0, 3, .inl r2.2))] H := hP
    have hD : va_D A [(o, .inr (6, [.ref on, .ref op, .int states, .ref orr, .ref ot, .int bytes, .ref oh, .ref og, .ref od, .int reading, .int at_, .int wrongAt, .int number, .long hh])), (on, .inl (k 0, 401, .inl now)), (op, .inl (k 0, 2005, .inl past)), (orr, .inl (k 0, 3, .inl r2.2))] := hD
    obtain rfl := Option.some.inj h
    exact W.iret (v := r2.1) hx hb hr (fun t ht9 hW => ⟨⟨_, (), rfl, rfl, zend ht9 hP⟩, hS.F ht9⟩) hS.2.2 dX6_sets_34
  · have h := zf h c3
    refine lv_iload_n hx hb dX6_sets_8 rfl (lv_at hl 2 rfl) ?_
    refine lv_iconst (v := 0) hx hb dX6_sets_9 (by decide) ?_
    refine lv_bipush (v := 9) hx hb dX6_sets_10 (by decide) ?_
    obtain ⟨r3, h3, h⟩ := zb h
    refine zi (zrS (As := [.int a2, .int 0, .int 9]) (rest := []) ⟨hx, hb, hml, hown, ht⟩ (c_X6_in l D k   a2 0 9 h3 _) (va_cwS 3 ht (gdS wb820 wb821 wb80 wb822) rfl rfl rfl (by decide +kernel) ⟨Nat.le_of_ble_eq_true rfl, Nat.le_of_ble_eq_true rfl⟩) hK hP hD hS hA hm [] rfl rfl rfl hl.1 rfl (Nat.le_of_ble_eq_true rfl) dX6_sets_12 ⟨Nat.le_refl _, Nat.le_refl _⟩) hP hD hS hA [] rfl rfl (fun H locs hP hD hS => ?_)
    have hP : va_P D vwCl [(o, .inr (6, [.ref on, .ref op, .int states, .ref orr, .ref ot, .int bytes, .ref oh, .ref og, .ref od, .int reading, .int at_, .int wrongAt, .int number, .long hh])), (on, .inl (k 0, 401, .inl now)), (op, .inl (k 0, 2005, .inl past)), (orr, .inl (k 0, 3, .inl refused))] H := hP
    have hD : va_D A [(o, .inr (6, [.ref on, .ref op, .int states, .ref orr, .ref ot, .int bytes, .ref oh, .ref og, .ref od, .int reading, .int at_, .int wrongAt, .int number, .long hh])), (on, .inl (k 0, 401, .inl now)), (op, .inl (k 0, 2005, .inl past)), (orr, .inl (k 0, 3, .inl refused))] := hD
    refine lv_if_eq (tgt := 30) hx hb dX6_sets_15 (by decide) (fun c2 => ?_) (fun c2 => ?_)
    · have h := zt h c2
      refine lv_aload_n hx hb dX6_sets_30 rfl (lv_at hl 0 rfl) ?_
      obtain ⟨r4, h4, h⟩ := zb h
      refine zi (zrV (C := RX6) (T := TX6) (N := 14) (As := []) (rest := []) ⟨hx, hb, hml, hown, ht⟩ (c_X6_bad l D k o on op orr ot oh og od states bytes reading at_ wrongAt number hh refused  h4 _) (cwV 0 ht (gdV wb826 wb828 wb29 wb80 wb829) rfl rfl rfl (by decide +kernel) ⟨Nat.le_of_ble_eq_true rfl, Nat.le_of_ble_eq_true rfl⟩) hK hP hD hS hA hm [0, 3] rfl rfl 0 6 rfl rfl rfl hl.1 rfl (Nat.le_of_ble_eq_true rfl) dX6_sets_31 ⟨Nat.le_refl _, Nat.le_refl _⟩) hP hD hS hA [0, 3] rfl rfl (fun H locs hP hD hS => ?_)
      have hP : va_P D vwCl [(o, .inr (6, [.ref on, .ref op, .int states, .ref orr, .ref ot, .int bytes, .ref oh, .ref og, .ref od, .int reading, .int at_, .int wrongAt, .int number, .long hh])), (on, .inl (k 0, 401, .inl now)), (op, .inl (k 0, 2005, .inl past)), (orr, .inl (k 0, 3, .inl r4.2))] H := hP
      have hD : va_D A [(o, .inr (6, [.ref on, .ref op, .int states, .ref orr, .ref ot, .int bytes, .ref oh, .ref og, .ref od, .int reading, .int at_, .int wrongAt, .int number, .long hh])), (on, .inl (k 0, 401, .inl now)), (op, .inl (k 0, 2005, .inl past)), (orr, .inl (k 0, 3, .inl r4.2))] := hD
      obtain rfl := Option.some.inj h
      exact W.iret (v := r4.1) hx hb hr (fun t ht9 hW => ⟨⟨_, (), rfl, rfl, zend ht9 hP⟩, hS.F ht9⟩) hS.2.2 dX6_sets_34
    · have h := zf h c2
      refine lv_iload_n hx hb dX6_sets_18 rfl (lv_at hl 3 rfl) ?_
      refine lv_iconst (v := 0) hx hb dX6_sets_19 (by decide) ?_
      refine lv_iload_n hx hb dX6_sets_20 rfl (lv_at hl 2 rfl) ?_
      obtain ⟨r5, h5, h⟩ := zb h
      refine zi (zrS (As := [.int a2]) (rest := [.int 0, .int a3]) ⟨hx, hb, hml, hown, ht⟩ (c_X6_mostOf l D k   a2 h5 _) (va_cwS 1 ht (gdS wb861 wb862 wb80 wb863) rfl rfl rfl (by decide +kernel) ⟨Nat.le_of_ble_eq_true rfl, Nat.le_of_ble_eq_true rfl⟩) hK hP hD hS hA hm [] rfl rfl rfl hl.1 rfl (Nat.le_of_ble_eq_true rfl) dX6_sets_21 ⟨Nat.le_refl _, Nat.le_refl _⟩) hP hD hS hA [] rfl rfl (fun H locs hP hD hS => ?_)
      have hP : va_P D vwCl [(o, .inr (6, [.ref on, .ref op, .int states, .ref orr, .ref ot, .int bytes, .ref oh, .ref og, .ref od, .int reading, .int at_, .int wrongAt, .int number, .long hh])), (on, .inl (k 0, 401, .inl now)), (op, .inl (k 0, 2005, .inl past)), (orr, .inl (k 0, 3, .inl refused))] H := hP
      have hD : va_D A [(o, .inr (6, [.ref on, .ref op, .int states, .ref orr, .ref ot, .int bytes, .ref oh, .ref og, .ref od, .int reading, .int at_, .int wrongAt, .int number, .long hh])), (on, .inl (k 0, 401, .inl now)), (op, .inl (k 0, 2005, .inl past)), (orr, .inl (k 0, 3, .inl refused))] := hD
      obtain ⟨r6, h6, h⟩ := zb h
      refine zi (zrS (As := [.int a3, .int 0, .int r5]) (rest := []) ⟨hx, hb, hml, hown, ht⟩ (c_X6_in l D k   a3 0 r5 h6 _) (va_cwS 3 ht (gdS wb820 wb821 wb80 wb822) rfl rfl rfl (by decide +kernel) ⟨Nat.le_of_ble_eq_true rfl, Nat.le_of_ble_eq_true rfl⟩) hK hP hD hS hA hm [] rfl rfl rfl hl.1 rfl (Nat.le_of_ble_eq_true rfl) dX6_sets_24 ⟨Nat.le_refl _, Nat.le_refl _⟩) hP hD hS hA [] rfl rfl (fun H locs hP hD hS => ?_)
      have hP : va_P D vwCl [(o, .inr (6, [.ref on, .ref op, .int states, .ref orr, .ref ot, .int bytes, .ref oh, .ref og, .ref od, .int reading, .int at_, .int wrongAt, .int number, .long hh])), (on, .inl (k 0, 401, .inl now)), (op, .inl (k 0, 2005, .inl past)), (orr, .inl (k 0, 3, .inl refused))] H := hP
      have hD : va_D A [(o, .inr (6, [.ref on, .ref op, .int states, .ref orr, .ref ot, .int bytes, .ref oh, .ref og, .ref od, .int reading, .int at_, .int wrongAt, .int number, .long hh])), (on, .inl (k 0, 401, .inl now)), (op, .inl (k 0, 2005, .inl past)), (orr, .inl (k 0, 3, .inl refused))] := hD
      refine lv_if_ne (tgt := 35) hx hb dX6_sets_27 (by decide) (fun c1 => ?_) (fun c1 => ?_)
      · have h := zf h c1
        refine lv_aload_n hx hb dX6_sets_35 rfl (lv_at hl 0 rfl) ?_
        obtain ⟨r7, h7, h⟩ := zb h
        refine zv (zrV (C := RX6) (T := TX6) (N := 14) (As := []) (rest := []) ⟨hx, hb, hml, hown, ht⟩ (c_X6_remembers l D k o on op orr ot oh og od states bytes reading at_ wrongAt number hh now past  fu h7 _) (cwV 0 ht (gdV wb830 wb832 wb30 wb80 wb833) rfl rfl rfl (by decide +kernel) ⟨Nat.le_of_ble_eq_true rfl, Nat.le_of_ble_eq_true rfl⟩) hK hP hD hS hA hm [0, 1, 2] rfl rfl 0 6 rfl rfl rfl hl.1 rfl (Nat.le_of_ble_eq_true rfl) dX6_sets_36 ⟨Nat.le_refl _, Nat.le_refl _⟩) hP hD hS hA [0, 1, 2] rfl rfl (fun H locs hP hD hS => ?_)
        have hP : va_P D vwCl [(o, .inr (6, [.ref on, .ref op, .int r7.1, .ref orr, .ref ot, .int bytes, .ref oh, .ref og, .ref od, .int reading, .int at_, .int wrongAt, .int number, .long hh])), (on, .inl (k 0, 401, .inl now)), (op, .inl (k 0, 2005, .inl r7.2)), (orr, .inl (k 0, 3, .inl refused))] H := hP
        have hD : va_D A [(o, .inr (6, [.ref on, .ref op, .int r7.1, .ref orr, .ref ot, .int bytes, .ref oh, .ref og, .ref od, .int reading, .int at_, .int wrongAt, .int number, .long hh])), (on, .inl (k 0, 401, .inl now)), (op, .inl (k 0, 2005, .inl r7.2)), (orr, .inl (k 0, 3, .inl refused))] := hD
        refine lv_bipush (v := 33) hx hb dX6_sets_39 (by decide) ?_
        refine lv_bipush (v := 11) hx hb dX6_sets_41 (by decide) ?_
        refine lv_iload_n hx hb dX6_sets_43 rfl (lv_at hl 1 rfl) ?_
        refine lv_imul hx hb dX6_sets_44 ?_
        refine lv_iadd hx hb dX6_sets_45 ?_
        refine lv_iload_n hx hb dX6_sets_46 rfl (lv_at hl 2 rfl) ?_
        refine lv_iadd hx hb dX6_sets_47 ?_
        refine lv_istore (lv' := [(4, .int ((33 + (11 * a1)) + a2)), (0, .ref o), (1, .int a1), (2, .int a2), (3, .int a3)]) hx hb dX6_sets_48 hl (by decide) rfl (fun ls hl => ?_)
        refine lv_aload_n hx hb dX6_sets_50 rfl (lv_at hl 1 rfl) ?_
        refine va_get (D := D) (ci := 6) (v := .ref on) (C := RX6) (T := TX6) (N := 14) hx hb ht hiX6 hown hK hP 0 rfl rfl 0 (by decide) (ht _ wb765) (fun _ h9 => h9) rfl dX6_sets_51 ?_
        refine lv_iload hx hb dX6_sets_54 (lv_at hl 0 rfl) ?_
        obtain ⟨hi1, h⟩ := zg h
        refine va_iald hx hb hK hP 1 0 rfl rfl hi1 dX6_sets_56 ?_
        refine lv_istore (lv' := [(5, .int (now (Int32.toNatClampNeg ((33 + (11 * a1)) + a2)))), (4, .int ((33 + (11 * a1)) + a2)), (0, .ref o), (1, .int a1), (2, .int a2), (3, .int a3)]) hx hb dX6_sets_57 hl (by decide) rfl (fun ls hl => ?_)
        refine lv_aload_n hx hb dX6_sets_59 rfl (lv_at hl 2 rfl) ?_
        refine va_get (D := D) (ci := 6) (v := .ref on) (C := RX6) (T := TX6) (N := 14) hx hb ht hiX6 hown hK hP 0 rfl rfl 0 (by decide) (ht _ wb765) (fun _ h9 => h9) rfl dX6_sets_60 ?_
        refine lv_iload hx hb dX6_sets_63 (lv_at hl 1 rfl) ?_
        refine lv_iload_n hx hb dX6_sets_65 rfl (lv_at hl 5 rfl) ?_
        obtain ⟨hi2, h⟩ := zg h
        refine va_iast hx hb hK hP hD hS 1 0 rfl rfl hi2 dX6_sets_66 (fun H locs hP hD hS => ?_)
        have hP : va_P D vwCl [(o, .inr (6, [.ref on, .ref op, .int r7.1, .ref orr, .ref ot, .int bytes, .ref oh, .ref og, .ref od, .int reading, .int at_, .int wrongAt, .int number, .long hh])), (on, .inl (k 0, 401, .inl (upd now (Int32.toNatClampNeg ((33 + (11 * a1)) + a2)) a3))), (op, .inl (k 0, 2005, .inl r7.2)), (orr, .inl (k 0, 3, .inl refused))] H := hP
        have hD : va_D A [(o, .inr (6, [.ref on, .ref op, .int r7.1, .ref orr, .ref ot, .int bytes, .ref oh, .ref og, .ref od, .int reading, .int at_, .int wrongAt, .int number, .long hh])), (on, .inl (k 0, 401, .inl (upd now (Int32.toNatClampNeg ((33 + (11 * a1)) + a2)) a3))), (op, .inl (k 0, 2005, .inl r7.2)), (orr, .inl (k 0, 3, .inl refused))] := hD
        refine lv_iload hx hb dX6_sets_67 (lv_at hl 0 rfl) ?_
        obtain rfl := Option.some.inj h
        exact W.iret (v := now (Int32.toNatClampNeg ((33 + (11 * a1)) + a2))) hx hb hr (fun t ht9 hW => ⟨⟨_, (), rfl, rfl, zend ht9 hP⟩, hS.F ht9⟩) hS.2.2 dX6_sets_69
      · have h := zt h c1
        refine lv_aload_n hx hb dX6_sets_30 rfl (lv_at hl 0 rfl) ?_
        obtain ⟨r8, h8, h⟩ := zb h
        refine zi (zrV (C := RX6) (T := TX6) (N := 14) (As := []) (rest := []) ⟨hx, hb, hml, hown, ht⟩ (c_X6_bad l D k o on op orr ot oh og od states bytes reading at_ wrongAt number hh refused  h8 _) (cwV 0 ht (gdV wb826 wb828 wb29 wb80 wb829) rfl rfl rfl (by decide +kernel) ⟨Nat.le_of_ble_eq_true rfl, Nat.le_of_ble_eq_true rfl⟩) hK hP hD hS hA hm [0, 3] rfl rfl 0 6 rfl rfl rfl hl.1 rfl (Nat.le_of_ble_eq_true rfl) dX6_sets_31 ⟨Nat.le_refl _, Nat.le_refl _⟩) hP hD hS hA [0, 3] rfl rfl (fun H locs hP hD hS => ?_)
        have hP : va_P D vwCl [(o, .inr (6, [.ref on, .ref op, .int states, .ref orr, .ref ot, .int bytes, .ref oh, .ref og, .ref od, .int reading, .int at_, .int wrongAt, .int number, .long hh])), (on, .inl (k 0, 401, .inl now)), (op, .inl (k 0, 2005, .inl past)), (orr, .inl (k 0, 3, .inl r8.2))] H := hP
        have hD : va_D A [(o, .inr (6, [.ref on, .ref op, .int states, .ref orr, .ref ot, .int bytes, .ref oh, .ref og, .ref od, .int reading, .int at_, .int wrongAt, .int number, .long hh])), (on, .inl (k 0, 401, .inl now)), (op, .inl (k 0, 2005, .inl past)), (orr, .inl (k 0, 3, .inl r8.2))] := hD
        obtain rfl := Option.some.inj h
        exact W.iret (v := r8.1) hx hb hr (fun t ht9 hW => ⟨⟨_, (), rfl, rfl, zend ht9 hP⟩, hS.F ht9⟩) hS.2.2 dX6_sets_34
def f_X6_drops (fu : Nat) (states : Int32) (now : Nat → Int32) (past : Nat → Int32) (refused : Nat → Int32) (a1 : Int32) : Option (Int32 × Int32 × (Nat → Int32) × (Nat → Int32) × (Nat → Int32)) :=
  (f_X6_isRule now a1).bind fun r1 => if (zB r1) = 0 then ((f_X6_bad refused ).bind fun r4 => some (r4.1, states, now, past, r4.2)) else ((f_X6_remembers fu states now past ).bind fun r2 => (f_X6_closesUp fu now a1).bind fun r3 => if zok 32 401 then (some (r3 (Int32.toNatClampNeg 32), r2.1, r3, r2.2, refused)) else none)
abbrev wk_X6_drops : List Cond := Cond.code yX6_drops cX6_drops 2 (some .int) :: WB
abbrev rm_X6_drops : Room := { frames := 2, cells := 0, slots := 0, locals := 43 }
set_option maxHeartbeats 4000000 in
set_option maxRecDepth 100000 in
theorem c_X6_drops (l : Launch) (D : va_G) (k : Nat → Nat) (o on op orr ot oh og od : Nat) (states : Int32) (bytes : Int32) (reading : Int32) (at_ : Int32) (wrongAt : Int32) (number : Int32) (hh : Int64) (now : Nat → Int32) (past : Nat → Int32) (refused : Nat → Int32) (a1 : Int32) (fu : Nat) {res : Int32 × Int32 × (Nat → Int32) × (Nat → Int32) × (Nat → Int32)} (h : f_X6_drops fu states now past refused a1 = some res) : Ci l yX6_drops wk_X6_drops rm_X6_drops D k [.ref o, .int a1] [(o, .inr (6, [.ref on, .ref op, .int states, .ref orr, .ref ot, .int bytes, .ref oh, .ref og, .ref od, .int reading, .int at_, .int wrongAt, .int number, .long hh])), (on, .inl (k 0, 401, .inl now)), (op, .inl (k 0, 2005, .inl past)), (orr, .inl (k 0, 3, .inl refused))] [(o, .inr (6, [.ref on, .ref op, .int res.2.1, .ref orr, .ref ot, .int bytes, .ref oh, .ref og, .ref od, .int reading, .int at_, .int wrongAt, .int number, .long hh])), (on, .inl (k 0, 401, .inl res.2.2.1)), (op, .inl (k 0, 2005, .inl res.2.2.2.1)), (orr, .inl (k 0, 3, .inl res.2.2.2.2))] res.1 := by
  unfold Ci
  intro sz
  refine Met.ofW (cc := cX6_drops) (maxL := 2) (ret := (some .int)) (by decide) rfl ?_
  intro p e s m args below meth c s₁ B hml hv
  obtain ⟨rfl, hsz, hP, hK, hD0, hm⟩ := hv
  have hx := B.exec
  have hb := B.bytes
  have hr := B.returns
  have ht : ∀ w ∈ WB, w.before _ s = true := fun w hw => atoms_spec (ws := wk_X6_drops) B.pre w (List.mem_cons_of_mem _ hw)
  have hown : s.vm.findClass RX6 = some m.cls := findClass_of_methodNamed B.named
  have hlocks := B.notSynchronized
  subst hsz
  have hD := hD0.self (sz := s.heap.size)
  generalize hAe : va_A [(o, .inr (6, [.ref on, .ref op, .int states, .ref orr, .ref ot, .int bytes, .ref oh, .ref og, .ref od, .int reading, .int at_, .int wrongAt, .int number, .long hh])), (on, .inl (k 0, 401, .inl now)), (op, .inl (k 0, 2005, .inl past)), (orr, .inl (k 0, 3, .inl refused))] s.heap.size = A at hD hm ⊢
  have hA : ∀ q : Nat, s.heap.size ≤ q → A q := fun q h => by rw [← hAe]; exact Or.inr h
  have hS : va_S A s.heap s.heap [] := va_S.rf
  have hl := lv_entry ([.ref o, .int a1]) (n := 2) (Nat.le_of_ble_eq_true rfl)
  rw [lg_entry_eq]
  generalize (lg_sl ([.ref o, .int a1]) ++ List.replicate (2 - (lg_sl ([.ref o, .int a1])).length) Slot.unset).toArray = ls at hl ⊢
  have hl : lv_has ls 2 [(0, .ref o), (1, .int a1)] := hl
  obtain ⟨H, hH⟩ : ∃ H, H = s.heap := ⟨_, rfl⟩
  rw [← hH] at hP
  have hS : va_S A s.heap H [] := by rw [hH]; exact hS
  suffices hgo : W p l e _ s m _ below meth c H [] 0 0 _ _ by rw [hH] at hgo; exact hgo
  unfold f_X6_drops at h
  refine lv_aload_n hx hb dX6_drops_0 rfl (lv_at hl 0 rfl) ?_
  refine lv_iload_n hx hb dX6_drops_1 rfl (lv_at hl 1 rfl) ?_
  obtain ⟨r1, h1, h⟩ := zb h
  refine zi (zrV (C := RX6) (T := TX6) (N := 14) (As := [.int a1]) (rest := []) ⟨hx, hb, hml, hown, ht⟩ (c_X6_isRule l D k o on op orr ot oh og od states bytes reading at_ wrongAt number hh now a1 h1 _) (cwV 1 ht (gdV wb857 wb859 wb33 wb80 wb860) rfl rfl rfl (by decide +kernel) ⟨Nat.le_of_ble_eq_true rfl, Nat.le_of_ble_eq_true rfl⟩) hK hP hD hS hA hm [0, 1] rfl rfl 0 6 rfl rfl rfl hl.1 rfl (Nat.le_of_ble_eq_true rfl) dX6_drops_2 ⟨Nat.le_refl _, Nat.le_refl _⟩) hP hD hS hA [0, 1] rfl rfl (fun H locs hP hD hS => ?_)
  have hP : va_P D vwCl [(o, .inr (6, [.ref on, .ref op, .int states, .ref orr, .ref ot, .int bytes, .ref oh, .ref og, .ref od, .int reading, .int at_, .int wrongAt, .int number, .long hh])), (on, .inl (k 0, 401, .inl now)), (op, .inl (k 0, 2005, .inl past)), (orr, .inl (k 0, 3, .inl refused))] H := hP
  have hD : va_D A [(o, .inr (6, [.ref on, .ref op, .int states, .ref orr, .ref ot, .int bytes, .ref oh, .ref og, .ref od, .int reading, .int at_, .int wrongAt, .int number, .long hh])), (on, .inl (k 0, 401, .inl now)), (op, .inl (k 0, 2005, .inl past)), (orr, .inl (k 0, 3, .inl refused))] := hD
  refine lv_if_ne (tgt := 13) hx hb dX6_drops_5 (by decide) (fun c1 => ?_) (fun c1 => ?_)
  · have h := zf h c1
    refine lv_aload_n hx hb dX6_drops_13 rfl (lv_at hl 0 rfl) ?_
    obtain ⟨r2, h2, h⟩ := zb h
    refine zv (zrV (C := RX6) (T := TX6) (N := 14) (As := []) (rest := []) ⟨hx, hb, hml, hown, ht⟩ (c_X6_remembers l D k o on op orr ot oh og od states bytes reading at_ wrongAt number hh now past  fu h2 _) (cwV 0 ht (gdV wb830 wb832 wb30 wb80 wb833) rfl rfl rfl (by decide +kernel) ⟨Nat.le_of_ble_eq_true rfl, Nat.le_of_ble_eq_true rfl⟩) hK hP hD hS hA hm [0, 1, 2] rfl rfl 0 6 rfl rfl rfl hl.1 rfl (Nat.le_of_ble_eq_true rfl) dX6_drops_14 ⟨Nat.le_refl _, Nat.le_refl _⟩) hP hD hS hA [0, 1, 2] rfl rfl (fun H locs hP hD hS => ?_)
    have hP : va_P D vwCl [(o, .inr (6, [.ref on, .ref op, .int r2.1, .ref orr, .ref ot, .int bytes, .ref oh, .ref og, .ref od, .int reading, .int at_, .int wrongAt, .int number, .long hh])), (on, .inl (k 0, 401, .inl now)), (op, .inl (k 0, 2005, .inl r2.2)), (orr, .inl (k 0, 3, .inl refused))] H := hP
    have hD : va_D A [(o, .inr (6, [.ref on, .ref op, .int r2.1, .ref orr, .ref ot, .int bytes, .ref oh, .ref og, .ref od, .int reading, .int at_, .int wrongAt, .int number, .long hh])), (on, .inl (k 0, 401, .inl now)), (op, .inl (k 0, 2005, .inl r2.2)), (orr, .inl (k 0, 3, .inl refused))] := hD
    refine lv_aload_n hx hb dX6_drops_17 rfl (lv_at hl 0 rfl) ?_
    refine lv_iload_n hx hb dX6_drops_18 rfl (lv_at hl 1 rfl) ?_
    obtain ⟨r3, h3, h⟩ := zb h
    refine zv (zrV (C := RX6) (T := TX6) (N := 14) (As := [.int a1]) (rest := []) ⟨hx, hb, hml, hown, ht⟩ (c_X6_closesUp l D k o on op orr ot oh og od r2.1 bytes reading at_ wrongAt number hh now a1 fu h3 _) (cwV 1 ht (gdV wb868 wb870 wb34 wb80 wb871) rfl rfl rfl (by decide +kernel) ⟨Nat.le_of_ble_eq_true rfl, Nat.le_of_ble_eq_true rfl⟩) hK hP hD hS hA hm [0, 1] rfl rfl 0 6 rfl rfl rfl hl.1 rfl (Nat.le_of_ble_eq_true rfl) dX6_drops_19 ⟨Nat.le_refl _, Nat.le_refl _⟩) hP hD hS hA [0, 1] rfl rfl (fun H locs hP hD hS => ?_)
    have hP : va_P D vwCl [(o, .inr (6, [.ref on, .ref op, .int r2.1, .ref orr, .ref ot, .int bytes, .ref oh, .ref og, .ref od, .int reading, .int at_, .int wrongAt, .int number, .long hh])), (on, .inl (k 0, 401, .inl r3)), (op, .inl (k 0, 2005, .inl r2.2)), (orr, .inl (k 0, 3, .inl refused))] H := hP
    have hD : va_D A [(o, .inr (6, [.ref on, .ref op, .int r2.1, .ref orr, .ref ot, .int bytes, .ref oh, .ref og, .ref od, .int reading, .int at_, .int wrongAt, .int number, .long hh])), (on, .inl (k 0, 401, .inl r3)), (op, .inl (k 0, 2005, .inl r2.2)), (orr, .inl (k 0, 3, .inl refused))] := hD
    refine lv_aload_n hx hb dX6_drops_22 rfl (lv_at hl 0 rfl) ?_
    refine va_get (D := D) (ci := 6) (v := .ref on) (C := RX6) (T := TX6) (N := 14) hx hb ht hiX6 hown hK hP 0 rfl rfl 0 (by decide) (ht _ wb765) (fun _ h9 => h9) rfl dX6_drops_23 ?_
    refine lv_bipush (v := 32) hx hb dX6_drops_26 (by decide) ?_
    obtain ⟨hi1, h⟩ := zg h
    refine va_iald hx hb hK hP 1 0 rfl rfl hi1 dX6_drops_28 ?_
    obtain rfl := Option.some.inj h
    exact W.iret (v := r3 (Int32.toNatClampNeg 32)) hx hb hr (fun t ht9 hW => ⟨⟨_, (), rfl, rfl, zend ht9 hP⟩, hS.F ht9⟩) hS.2.2 dX6_drops_29
  · have h := zt h c1
    refine lv_aload_n hx hb dX6_drops_8 rfl (lv_at hl 0 rfl) ?_
    obtain ⟨r4, h4, h⟩ := zb h
    refine zi (zrV (C := RX6) (T := TX6) (N := 14) (As := []) (rest := []) ⟨hx, hb, hml, hown, ht⟩ (c_X6_bad l D k o on op orr ot oh og od states bytes reading at_ wrongAt number hh refused  h4 _) (cwV 0 ht (gdV wb826 wb828 wb29 wb80 wb829) rfl rfl rfl (by decide +kernel) ⟨Nat.le_of_ble_eq_true rfl, Nat.le_of_ble_eq_true rfl⟩) hK hP hD hS hA hm [0, 3] rfl rfl 0 6 rfl rfl rfl hl.1 rfl (Nat.le_of_ble_eq_true rfl) dX6_drops_9 ⟨Nat.le_refl _, Nat.le_refl _⟩) hP hD hS hA [0, 3] rfl rfl (fun H locs hP hD hS => ?_)
    have hP : va_P D vwCl [(o, .inr (6, [.ref on, .ref op, .int states, .ref orr, .ref ot, .int bytes, .ref oh, .ref og, .ref od, .int reading, .int at_, .int wrongAt, .int number, .long hh])), (on, .inl (k 0, 401, .inl now)), (op, .inl (k 0, 2005, .inl past)), (orr, .inl (k 0, 3, .inl r4.2))] H := hP
    have hD : va_D A [(o, .inr (6, [.ref on, .ref op, .int states, .ref orr, .ref ot, .int bytes, .ref oh, .ref og, .ref od, .int reading, .int at_, .int wrongAt, .int number, .long hh])), (on, .inl (k 0, 401, .inl now)), (op, .inl (k 0, 2005, .inl past)), (orr, .inl (k 0, 3, .inl r4.2))] := hD
    obtain rfl := Option.some.inj h
    exact W.iret (v := r4.1) hx hb hr (fun t ht9 hW => ⟨⟨_, (), rfl, rfl, zend ht9 hP⟩, hS.F ht9⟩) hS.2.2 dX6_drops_12
def f_X6_moves_L27 (fu : Nat) (K : Int32 → (Nat → Int32) → Option (Int32 × Int32 × (Nat → Int32) × (Nat → Int32) × (Nat → Int32) × (Nat → Int32))) (v1 : Int32) (now : Nat → Int32) : Nat → Int32 → (Nat → Int32) → Option (Int32 × Int32 × (Nat → Int32) × (Nat → Int32) × (Nat → Int32) × (Nat → Int32))
  | 0, _, _ => none
  | n + 1, v3, held =>
  if 11 ≤ v3 then (K v3 held) else (if zok ((33 + (11 * v1)) + v3) 401 then (if zok v3 11 then (f_X6_moves_L27 fu K v1 now n (v3 + 1) (upd held (Int32.toNatClampNeg v3) (now (Int32.toNatClampNeg ((33 + (11 * v1)) + v3))))) else none) else none)
def f_X6_moves_L71 (fu : Nat) (K : Int32 → (Nat → Int32) → Option (Int32 × Int32 × (Nat → Int32) × (Nat → Int32) × (Nat → Int32) × (Nat → Int32))) (v2 : Int32) (held : Nat → Int32) : Nat → Int32 → (Nat → Int32) → Option (Int32 × Int32 × (Nat → Int32) × (Nat → Int32) × (Nat → Int32) × (Nat → Int32))
  | 0, _, _ => none
  | n + 1, v3, now =>
  if 11 ≤ v3 then (K v3 now) else (if zok v3 11 then (if zok ((33 + (11 * v2)) + v3) 401 then (f_X6_moves_L71 fu K v2 held n (v3 + 1) (upd now (Int32.toNatClampNeg ((33 + (11 * v2)) + v3)) (held (Int32.toNatClampNeg v3)))) else none) else none)
def f_X6_moves (fu : Nat) (states : Int32) (now : Nat → Int32) (past : Nat → Int32) (refused : Nat → Int32) (held : Nat → Int32) (a1 : Int32) (a2 : Int32) : Option (Int32 × Int32 × (Nat → Int32) × (Nat → Int32) × (Nat → Int32) × (Nat → Int32)) :=
  (f_X6_isRule now a1).bind fun r1 => if (zB r1) = 0 then ((f_X6_bad refused ).bind fun r2 => some (r2.1, states, now, past, r2.2, held)) else ((f_X6_isRule now a2).bind fun r3 => if (zB r3) = 0 then ((f_X6_bad refused ).bind fun r7 => some (r7.1, states, now, past, r7.2, held)) else ((f_X6_remembers fu states now past ).bind fun r4 => f_X6_moves_L27 fu (fun (x1 : Int32) (x2 : Nat → Int32) => (f_X6_closesUp fu now a1).bind fun r5 => (f_X6_makesRoom fu r5 a2).bind fun r6 => f_X6_moves_L71 fu (fun (x3 : Int32) (x4 : Nat → Int32) => some (a1, r4.1, x4, r4.2, refused, x2)) a2 x2 fu 0 r6) a1 now fu 0 held))
abbrev wk_X6_moves : List Cond := Cond.code yX6_moves cX6_moves 4 (some .int) :: WB
abbrev rm_X6_moves : Room := { frames := 2, cells := 0, slots := 0, locals := 43 }
set_option maxHeartbeats 4000000 in
set_option maxRecDepth 100000 in
theorem c_X6_moves (l : Launch) (D : va_G) (k : Nat → Nat) (o on op orr ot oh og od : Nat) (states : Int32) (bytes : Int32) (reading : Int32) (at_ : Int32) (wrongAt : Int32) (number : Int32) (hh : Int64) (now : Nat → Int32) (past : Nat → Int32) (refused : Nat → Int32) (held : Nat → Int32) (a1 : Int32) (a2 : Int32) (fu : Nat) {res : Int32 × Int32 × (Nat → Int32) × (Nat → Int32) × (Nat → Int32) × (Nat → Int32)} (h : f_X6_moves fu states now past refused held a1 a2 = some res) : Ci l yX6_moves wk_X6_moves rm_X6_moves D k [.ref o, .int a1, .int a2] [(o, .inr (6, [.ref on, .ref op, .int states, .ref orr, .ref ot, .int bytes, .ref oh, .ref og, .ref od, .int reading, .int at_, .int wrongAt, .int number, .long hh])), (on, .inl (k 0, 401, .inl now)), (op, .inl (k 0, 2005, .inl past)), (orr, .inl (k 0, 3, .inl refused)), (oh, .inl (k 0, 11, .inl held))] [(o, .inr (6, [.ref on, .ref op, .int res.2.1, .ref orr, .ref ot, .int bytes, .ref oh, .ref og, .ref od, .int reading, .int at_, .int wrongAt, .int number, .long hh])), (on, .inl (k 0, 401, .inl res.2.2.1)), (op, .inl (k 0, 2005, .inl res.2.2.2.1)), (orr, .inl (k 0, 3, .inl res.2.2.2.2.1)), (oh, .inl (k 0, 11, .inl res.2.2.2.2.2))] res.1 := by
  unfold Ci
  intro sz
  refine Met.ofW (cc := cX6_moves) (maxL := 4) (ret := (some .int)) (by decide) rfl ?_
  intro p e s m args below meth c s₁ B hml hv
  obtain ⟨rfl, hsz, hP, hK, hD0, hm⟩ := hv
  have hx := B.exec
  have hb := B.bytes
  have hr := B.returns
  have ht : ∀ w ∈ WB, w.before _ s = true := fun w hw => atoms_spec (ws := wk_X6_moves) B.pre w (List.mem_cons_of_mem _ hw)
  have hown : s.vm.findClass RX6 = some m.cls := findClass_of_methodNamed B.named
  have hlocks := B.notSynchronized
  subst hsz
  have hD := hD0.self (sz := s.heap.size)
  generalize hAe : va_A [(o, .inr (6, [.ref on, .ref op, .int states, .ref orr, .ref ot, .int bytes, .ref oh, .ref og, .ref od, .int reading, .int at_, .int wrongAt, .int number, .long hh])), (on, .inl (k 0, 401, .inl now)), (op, .inl (k 0, 2005, .inl past)), (orr, .inl (k 0, 3, .inl refused)), (oh, .inl (k 0, 11, .inl held))] s.heap.size = A at hD hm ⊢
  have hA : ∀ q : Nat, s.heap.size ≤ q → A q := fun q h => by rw [← hAe]; exact Or.inr h
  have hS : va_S A s.heap s.heap [] := va_S.rf
  have hl := lv_entry ([.ref o, .int a1, .int a2]) (n := 4) (Nat.le_of_ble_eq_true rfl)
  rw [lg_entry_eq]
  generalize (lg_sl ([.ref o, .int a1, .int a2]) ++ List.replicate (4 - (lg_sl ([.ref o, .int a1, .int a2])).length) Slot.unset).toArray = ls at hl ⊢
  have hl : lv_has ls 4 [(0, .ref o), (1, .int a1), (2, .int a2)] := hl
  obtain ⟨H, hH⟩ : ∃ H, H = s.heap := ⟨_, rfl⟩
  rw [← hH] at hP
  have hS : va_S A s.heap H [] := by rw [hH]; exact hS
  suffices hgo : W p l e _ s m _ below meth c H [] 0 0 _ _ by rw [hH] at hgo; exact hgo
  unfold f_X6_moves at h
  refine lv_aload_n hx hb dX6_moves_0 rfl (lv_at hl 0 rfl) ?_
  refine lv_iload_n hx hb dX6_moves_1 rfl (lv_at hl 1 rfl) ?_
  obtain ⟨r1, h1, h⟩ := zb h
  refine zi (zrV (C := RX6) (T := TX6) (N := 14) (As := [.int a1]) (rest := []) ⟨hx, hb, hml, hown, ht⟩ (c_X6_isRule l D k o on op orr ot oh og od states bytes reading at_ wrongAt number hh now a1 h1 _) (cwV 1 ht (gdV wb857 wb859 wb33 wb80 wb860) rfl rfl rfl (by decide +kernel) ⟨Nat.le_of_ble_eq_true rfl, Nat.le_of_ble_eq_true rfl⟩) hK hP hD hS hA hm [0, 1] rfl rfl 0 6 rfl rfl rfl hl.1 rfl (Nat.le_of_ble_eq_true rfl) dX6_moves_2 ⟨Nat.le_refl _, Nat.le_refl _⟩) hP hD hS hA [0, 1] rfl rfl (fun H locs hP hD hS => ?_)
  have hP : va_P D vwCl [(o, .inr (6, [.ref on, .ref op, .int states, .ref orr, .ref ot, .int bytes, .ref oh, .ref og, .ref od, .int reading, .int at_, .int wrongAt, .int number, .long hh])), (on, .inl (k 0, 401, .inl now)), (op, .inl (k 0, 2005, .inl past)), (orr, .inl (k 0, 3, .inl refused)), (oh, .inl (k 0, 11, .inl held))] H := hP
  have hD : va_D A [(o, .inr (6, [.ref on, .ref op, .int states, .ref orr, .ref ot, .int bytes, .ref oh, .ref og, .ref od, .int reading, .int at_, .int wrongAt, .int number, .long hh])), (on, .inl (k 0, 401, .inl now)), (op, .inl (k 0, 2005, .inl past)), (orr, .inl (k 0, 3, .inl refused)), (oh, .inl (k 0, 11, .inl held))] := hD
  refine lv_if_eq (tgt := 16) hx hb dX6_moves_5 (by decide) (fun c4 => ?_) (fun c4 => ?_)
  · have h := zt h c4
    refine lv_aload_n hx hb dX6_moves_16 rfl (lv_at hl 0 rfl) ?_
    obtain ⟨r2, h2, h⟩ := zb h
    refine zi (zrV (C := RX6) (T := TX6) (N := 14) (As := []) (rest := []) ⟨hx, hb, hml, hown, ht⟩ (c_X6_bad l D k o on op orr ot oh og od states bytes reading at_ wrongAt number hh refused  h2 _) (cwV 0 ht (gdV wb826 wb828 wb29 wb80 wb829) rfl rfl rfl (by decide +kernel) ⟨Nat.le_of_ble_eq_true rfl, Nat.le_of_ble_eq_true rfl⟩) hK hP hD hS hA hm [0, 3] rfl rfl 0 6 rfl rfl rfl hl.1 rfl (Nat.le_of_ble_eq_true rfl) dX6_moves_17 ⟨Nat.le_refl _, Nat.le_refl _⟩) hP hD hS hA [0, 3] rfl rfl (fun H locs hP hD hS => ?_)
    have hP : va_P D vwCl [(o, .inr (6, [.ref on, .ref op, .int states, .ref orr, .ref ot, .int bytes, .ref oh, .ref og, .ref od, .int reading, .int at_, .int wrongAt, .int number, .long hh])), (on, .inl (k 0, 401, .inl now)), (op, .inl (k 0, 2005, .inl past)), (orr, .inl (k 0, 3, .inl r2.2)), (oh, .inl (k 0, 11, .inl held))] H := hP
    have hD : va_D A [(o, .inr (6, [.ref on, .ref op, .int states, .ref orr, .ref ot, .int bytes, .ref oh, .ref og, .ref od, .int reading, .int at_, .int wrongAt, .int number, .long hh])), (on, .inl (k 0, 401, .inl now)), (op, .inl (k 0, 2005, .inl past)), (orr, .inl (k 0, 3, .inl r2.2)), (oh, .inl (k 0, 11, .inl held))] := hD
    obtain rfl := Option.some.inj h
    exact W.iret (v := r2.1) hx hb hr (fun t ht9 hW => ⟨⟨_, (), rfl, rfl, zend ht9 hP⟩, hS.F ht9⟩) hS.2.2 dX6_moves_20
  · have h := zf h c4
    refine lv_aload_n hx hb dX6_moves_8 rfl (lv_at hl 0 rfl) ?_
    refine lv_iload_n hx hb dX6_moves_9 rfl (lv_at hl 2 rfl) ?_
    obtain ⟨r3, h3, h⟩ := zb h
    refine zi (zrV (C := RX6) (T := TX6) (N := 14) (As := [.int a2]) (rest := []) ⟨hx, hb, hml, hown, ht⟩ (c_X6_isRule l D k o on op orr ot oh og od states bytes reading at_ wrongAt number hh now a2 h3 _) (cwV 1 ht (gdV wb857 wb859 wb33 wb80 wb860) rfl rfl rfl (by decide +kernel) ⟨Nat.le_of_ble_eq_true rfl, Nat.le_of_ble_eq_true rfl⟩) hK hP hD hS hA hm [0, 1] rfl rfl 0 6 rfl rfl rfl hl.1 rfl (Nat.le_of_ble_eq_true rfl) dX6_moves_10 ⟨Nat.le_refl _, Nat.le_refl _⟩) hP hD hS hA [0, 1] rfl rfl (fun H locs hP hD hS => ?_)
    have hP : va_P D vwCl [(o, .inr (6, [.ref on, .ref op, .int states, .ref orr, .ref ot, .int bytes, .ref oh, .ref og, .ref od, .int reading, .int at_, .int wrongAt, .int number, .long hh])), (on, .inl (k 0, 401, .inl now)), (op, .inl (k 0, 2005, .inl past)), (orr, .inl (k 0, 3, .inl refused)), (oh, .inl (k 0, 11, .inl held))] H := hP
    have hD : va_D A [(o, .inr (6, [.ref on, .ref op, .int states, .ref orr, .ref ot, .int bytes, .ref oh, .ref og, .ref od, .int reading, .int at_, .int wrongAt, .int number, .long hh])), (on, .inl (k 0, 401, .inl now)), (op, .inl (k 0, 2005, .inl past)), (orr, .inl (k 0, 3, .inl refused)), (oh, .inl (k 0, 11, .inl held))] := hD
    refine lv_if_ne (tgt := 21) hx hb dX6_moves_13 (by decide) (fun c3 => ?_) (fun c3 => ?_)
    · have h := zf h c3
      refine lv_aload_n hx hb dX6_moves_21 rfl (lv_at hl 0 rfl) ?_
      obtain ⟨r4, h4, h⟩ := zb h
      refine zv (zrV (C := RX6) (T := TX6) (N := 14) (As := []) (rest := []) ⟨hx, hb, hml, hown, ht⟩ (c_X6_remembers l D k o on op orr ot oh og od states bytes reading at_ wrongAt number hh now past  fu h4 _) (cwV 0 ht (gdV wb830 wb832 wb30 wb80 wb833) rfl rfl rfl (by decide +kernel) ⟨Nat.le_of_ble_eq_true rfl, Nat.le_of_ble_eq_true rfl⟩) hK hP hD hS hA hm [0, 1, 2] rfl rfl 0 6 rfl rfl rfl hl.1 rfl (Nat.le_of_ble_eq_true rfl) dX6_moves_22 ⟨Nat.le_refl _, Nat.le_refl _⟩) hP hD hS hA [0, 1, 2] rfl rfl (fun H locs hP hD hS => ?_)
      have hP : va_P D vwCl [(o, .inr (6, [.ref on, .ref op, .int r4.1, .ref orr, .ref ot, .int bytes, .ref oh, .ref og, .ref od, .int reading, .int at_, .int wrongAt, .int number, .long hh])), (on, .inl (k 0, 401, .inl now)), (op, .inl (k 0, 2005, .inl r4.2)), (orr, .inl (k 0, 3, .inl refused)), (oh, .inl (k 0, 11, .inl held))] H := hP
      have hD : va_D A [(o, .inr (6, [.ref on, .ref op, .int r4.1, .ref orr, .ref ot, .int bytes, .ref oh, .ref og, .ref od, .int reading, .int at_, .int wrongAt, .int number, .long hh])), (on, .inl (k 0, 401, .inl now)), (op, .inl (k 0, 2005, .inl r4.2)), (orr, .inl (k 0, 3, .inl refused)), (oh, .inl (k 0, 11, .inl held))] := hD
      refine lv_iconst (v := 0) hx hb dX6_moves_25 (by decide) ?_
      refine lv_istore_n (lv' := [(3, .int 0), (0, .ref o), (1, .int a1), (2, .int a2)]) hx hb dX6_moves_26 rfl hl (by decide) rfl (fun ls hl => ?_)
      have loop27 : ∀ (v1 : Int32) (v2 : Int32) (states : Int32) (bytes : Int32) (reading : Int32) (at_ : Int32) (wrongAt : Int32) (number : Int32) (hh : Int64) (now : Nat → Int32) (past : Nat → Int32) (refused : Nat → Int32), ∀ (K : Int32 → (Nat → Int32) → Option (Int32 × Int32 × (Nat → Int32) × (Nat → Int32) × (Nat → Int32) × (Nat → Int32))), (∀ (v3 : Int32) (held : Nat → Int32), K v3 held = some res → ∀ (H : Heap) (locs : List Loc), va_P D vwCl [(o, .inr (6, [.ref on, .ref op, .int states, .ref orr, .ref ot, .int bytes, .ref oh, .ref og, .ref od, .int reading, .int at_, .int wrongAt, .int number, .long hh])), (on, .inl (k 0, 401, .inl now)), (op, .inl (k 0, 2005, .inl past)), (orr, .inl (k 0, 3, .inl refused)), (oh, .inl (k 0, 11, .inl held))] H → va_D A [(o, .inr (6, [.ref on, .ref op, .int states, .ref orr, .ref ot, .int bytes, .ref oh, .ref og, .ref od, .int reading, .int at_, .int wrongAt, .int number, .long hh])), (on, .inl (k 0, 401, .inl now)), (op, .inl (k 0, 2005, .inl past)), (orr, .inl (k 0, 3, .inl refused)), (oh, .inl (k 0, 11, .inl held))] → va_S A s.heap H locs → ∀ ls : Array Slot, lv_has ls 4 [(0, .ref o), (1, .int v1), (2, .int v2), (3, .int v3)] → W p l e (headSpec wk_X6_moves rm_X6_moves).room s m ([.ref o, .int a1, .int a2] : List Value).toArray below meth c H locs 0 0 (MQ below (va_Qi (fun xq9 (_ : Unit) => xq9 = res.1) (fun _ tq9 => va_P D vwCl [(o, .inr (6, [.ref on, .ref op, .int res.2.1, .ref orr, .ref ot, .int bytes, .ref oh, .ref og, .ref od, .int reading, .int at_, .int wrongAt, .int number, .long hh])), (on, .inl (k 0, 401, .inl res.2.2.1)), (op, .inl (k 0, 2005, .inl res.2.2.2.1)), (orr, .inl (k 0, 3, .inl res.2.2.2.2.1)), (oh, .inl (k 0, 11, .inl res.2.2.2.2.2))] tq9.heap) A) ([.ref o, .int a1, .int a2] : List Value).toArray s 0 0 A) (F0 m 59 ls [])) → ∀ (n : Nat) (v3 : Int32) (held : Nat → Int32), f_X6_moves_L27 fu K v1 now n v3 held = some res → ∀ (H : Heap) (locs : List Loc), va_P D vwCl [(o, .inr (6, [.ref on, .ref op, .int states, .ref orr, .ref ot, .int bytes, .ref oh, .ref og, .ref od, .int reading, .int at_, .int wrongAt, .int number, .long hh])), (on, .inl (k 0, 401, .inl now)), (op, .inl (k 0, 2005, .inl past)), (orr, .inl (k 0, 3, .inl refused)), (oh, .inl (k 0, 11, .inl held))] H → va_D A [(o, .inr (6, [.ref on, .ref op, .int states, .ref orr, .ref ot, .int bytes, .ref oh, .ref og, .ref od, .int reading, .int at_, .int wrongAt, .int number, .long hh])), (on, .inl (k 0, 401, .inl now)), (op, .inl (k 0, 2005, .inl past)), (orr, .inl (k 0, 3, .inl refused)), (oh, .inl (k 0, 11, .inl held))] → va_S A s.heap H locs → ∀ ls : Array Slot, lv_has ls 4 [(0, .ref o), (1, .int v1), (2, .int v2), (3, .int v3)] → W p l e (headSpec wk_X6_moves rm_X6_moves).room s m ([.ref o, .int a1, .int a2] : List Value).toArray below meth c H locs 0 0 (MQ below (va_Qi (fun xq9 (_ : Unit) => xq9 = res.1) (fun _ tq9 => va_P D vwCl [(o, .inr (6, [.ref on, .ref op, .int res.2.1, .ref orr, .ref ot, .int bytes, .ref oh, .ref og, .ref od, .int reading, .int at_, .int wrongAt, .int number, .long hh])), (on, .inl (k 0, 401, .inl res.2.2.1)), (op, .inl (k 0, 2005, .inl res.2.2.2.1)), (orr, .inl (k 0, 3, .inl res.2.2.2.2.1)), (oh, .inl (k 0, 11, .inl res.2.2.2.2.2))] tq9.heap) A) ([.ref o, .int a1, .int a2] : List Value).toArray s 0 0 A) (F0 m 27 ls []) := by
        intro v1 v2 states bytes reading at_ wrongAt number hh now past refused K hKK n
        induction n with
        | zero =>
          intro v3 held h
          rw [f_X6_moves_L27] at h
          cases h
        | succ n ih =>
          intro v3 held h H locs hP hD hS ls hl
          rw [f_X6_moves_L27] at h
          refine lv_iload_n hx hb dX6_moves_27 rfl (lv_at hl 3 rfl) ?_
          refine lv_bipush (v := 11) hx hb dX6_moves_28 (by decide) ?_
          refine lv_icmp_ge (tgt := 59) hx hb dX6_moves_30 (by decide) (fun c1 => ?_) (fun c1 => ?_)
          · have h := zt h c1
            exact hKK _ _ h _ _ hP hD hS _ (lv_sub hl [0, 1, 2, 3] rfl)
          · have h := zf h c1
            refine lv_aload_n hx hb dX6_moves_33 rfl (lv_at hl 0 rfl) ?_
            refine va_get (D := D) (ci := 6) (v := .ref oh) (C := RX6) (T := TX6) (N := 14) hx hb ht hiX6 hown hK hP 0 rfl rfl 6 (by decide) (ht _ wb771) (fun _ h9 => h9) rfl dX6_moves_34 ?_
            refine lv_iload_n hx hb dX6_moves_37 rfl (lv_at hl 3 rfl) ?_
            refine lv_aload_n hx hb dX6_moves_38 rfl (lv_at hl 0 rfl) ?_
            refine va_get (D := D) (ci := 6) (v := .ref on) (C := RX6) (T := TX6) (N := 14) hx hb ht hiX6 hown hK hP 0 rfl rfl 0 (by decide) (ht _ wb765) (fun _ h9 => h9) rfl dX6_moves_39 ?_
            refine lv_bipush (v := 33) hx hb dX6_moves_42 (by decide) ?_
            refine lv_bipush (v := 11) hx hb dX6_moves_44 (by decide) ?_
            refine lv_iload_n hx hb dX6_moves_46 rfl (lv_at hl 1 rfl) ?_
            refine lv_imul hx hb dX6_moves_47 ?_
            refine lv_iadd hx hb dX6_moves_48 ?_
            refine lv_iload_n hx hb dX6_moves_49 rfl (lv_at hl 3 rfl) ?_
            refine lv_iadd hx hb dX6_moves_50 ?_
            obtain ⟨hi1, h⟩ := zg h
            refine va_iald hx hb hK hP 1 0 rfl rfl hi1 dX6_moves_51 ?_
            obtain ⟨hi2, h⟩ := zg h
            refine va_iast hx hb hK hP hD hS 4 0 rfl rfl hi2 dX6_moves_52 (fun H locs hP hD hS => ?_)
            have hP : va_P D vwCl [(o, .inr (6, [.ref on, .ref op, .int states, .ref orr, .ref ot, .int bytes, .ref oh, .ref og, .ref od, .int reading, .int at_, .int wrongAt, .int number, .long hh])), (on, .inl (k 0, 401, .inl now)), (op, .inl (k 0, 2005, .inl past)), (orr, .inl (k 0, 3, .inl refused)), (oh, .inl (k 0, 11, .inl (upd held (Int32.toNatClampNeg v3) (now (Int32.toNatClampNeg ((33 + (11 * v1)) + v3))))))] H := hP
            have hD : va_D A [(o, .inr (6, [.ref on, .ref op, .int states, .ref orr, .ref ot, .int bytes, .ref oh, .ref og, .ref od, .int reading, .int at_, .int wrongAt, .int number, .long hh])), (on, .inl (k 0, 401, .inl now)), (op, .inl (k 0, 2005, .inl past)), (orr, .inl (k 0, 3, .inl refused)), (oh, .inl (k 0, 11, .inl (upd held (Int32.toNatClampNeg v3) (now (Int32.toNatClampNeg ((33 + (11 * v1)) + v3))))))] := hD
            refine lv_iinc (v := v3 + 1) (lv' := [(3, .int (v3 + 1)), (0, .ref o), (1, .int v1), (2, .int v2)]) hx hb dX6_moves_53 hl (k := 3) rfl rfl (by decide) rfl (fun ls hl => ?_)
            refine lv_goto (tgt := 27) hx hb dX6_moves_56 (by decide) ?_
            exact ih _ _ h _ _ hP hD hS _ (lv_sub hl [1, 2, 3, 0] rfl)
      refine loop27 _ _ _ _ _ _ _ _ _ _ _ _ _ ?_ fu _ _ h _ _ hP hD hS _ (lv_sub hl [1, 2, 3, 0] rfl)
      intro x1 x2 h H locs hP hD hS ls hl
      try dsimp only at h
      have hP : va_P D vwCl [(o, .inr (6, [.ref on, .ref op, .int r4.1, .ref orr, .ref ot, .int bytes, .ref oh, .ref og, .ref od, .int reading, .int at_, .int wrongAt, .int number, .long hh])), (on, .inl (k 0, 401, .inl now)), (op, .inl (k 0, 2005, .inl r4.2)), (orr, .inl (k 0, 3, .inl refused)), (oh, .inl (k 0, 11, .inl x2))] H := hP
      have hD : va_D A [(o, .inr (6, [.ref on, .ref op, .int r4.1, .ref orr, .ref ot, .int bytes, .ref oh, .ref og, .ref od, .int reading, .int at_, .int wrongAt, .int number, .long hh])), (on, .inl (k 0, 401, .inl now)), (op, .inl (k 0, 2005, .inl r4.2)), (orr, .inl (k 0, 3, .inl refused)), (oh, .inl (k 0, 11, .inl x2))] := hD
      have hl : lv_has ls 4 [(0, .ref o), (1, .int a1), (2, .int a2), (3, .int x1)] := hl
      refine lv_aload_n hx hb dX6_moves_59 rfl (lv_at hl 0 rfl) ?_
      refine lv_iload_n hx hb dX6_moves_60 rfl (lv_at hl 1 rfl) ?_
      obtain ⟨r5, h5, h⟩ := zb h
      refine zv (zrV (C := RX6) (T := TX6) (N := 14) (As := [.int a1]) (rest := []) ⟨hx, hb, hml, hown, ht⟩ (c_X6_closesUp l D k o on op orr ot oh og od r4.1 bytes reading at_ wrongAt number hh now a1 fu h5 _) (cwV 1 ht (gdV wb868 wb870 wb34 wb80 wb871) rfl rfl rfl (by decide +kernel) ⟨Nat.le_of_ble_eq_true rfl, Nat.le_of_ble_eq_true rfl⟩) hK hP hD hS hA hm [0, 1] rfl rfl 0 6 rfl rfl rfl hl.1 rfl (Nat.le_of_ble_eq_true rfl) dX6_moves_61 ⟨Nat.le_refl _, Nat.le_refl _⟩) hP hD hS hA [0, 1] rfl rfl (fun H locs hP hD hS => ?_)
      have hP : va_P D vwCl [(o, .inr (6, [.ref on, .ref op, .int r4.1, .ref orr, .ref ot, .int bytes, .ref oh, .ref og, .ref od, .int reading, .int at_, .int wrongAt, .int number, .long hh])), (on, .inl (k 0, 401, .inl r5)), (op, .inl (k 0, 2005, .inl r4.2)), (orr, .inl (k 0, 3, .inl refused)), (oh, .inl (k 0, 11, .inl x2))] H := hP
      have hD : va_D A [(o, .inr (6, [.ref on, .ref op, .int r4.1, .ref orr, .ref ot, .int bytes, .ref oh, .ref og, .ref od, .int reading, .int at_, .int wrongAt, .int number, .long hh])), (on, .inl (k 0, 401, .inl r5)), (op, .inl (k 0, 2005, .inl r4.2)), (orr, .inl (k 0, 3, .inl refused)), (oh, .inl (k 0, 11, .inl x2))] := hD
      refine lv_aload_n hx hb dX6_moves_64 rfl (lv_at hl 0 rfl) ?_
      refine lv_iload_n hx hb dX6_moves_65 rfl (lv_at hl 2 rfl) ?_
      obtain ⟨r6, h6, h⟩ := zb h
      refine zv (zrV (C := RX6) (T := TX6) (N := 14) (As := [.int a2]) (rest := []) ⟨hx, hb, hml, hown, ht⟩ (c_X6_makesRoom l D k o on op orr ot oh og od r4.1 bytes reading at_ wrongAt number hh r5 a2 fu h6 _) (cwV 1 ht (gdV wb846 wb848 wb32 wb80 wb849) rfl rfl rfl (by decide +kernel) ⟨Nat.le_of_ble_eq_true rfl, Nat.le_of_ble_eq_true rfl⟩) hK hP hD hS hA hm [0, 1] rfl rfl 0 6 rfl rfl rfl hl.1 rfl (Nat.le_of_ble_eq_true rfl) dX6_moves_66 ⟨Nat.le_refl _, Nat.le_refl _⟩) hP hD hS hA [0, 1] rfl rfl (fun H locs hP hD hS => ?_)
      have hP : va_P D vwCl [(o, .inr (6, [.ref on, .ref op, .int r4.1, .ref orr, .ref ot, .int bytes, .ref oh, .ref og, .ref od, .int reading, .int at_, .int wrongAt, .int number, .long hh])), (on, .inl (k 0, 401, .inl r6)), (op, .inl (k 0, 2005, .inl r4.2)), (orr, .inl (k 0, 3, .inl refused)), (oh, .inl (k 0, 11, .inl x2))] H := hP
      have hD : va_D A [(o, .inr (6, [.ref on, .ref op, .int r4.1, .ref orr, .ref ot, .int bytes, .ref oh, .ref og, .ref od, .int reading, .int at_, .int wrongAt, .int number, .long hh])), (on, .inl (k 0, 401, .inl r6)), (op, .inl (k 0, 2005, .inl r4.2)), (orr, .inl (k 0, 3, .inl refused)), (oh, .inl (k 0, 11, .inl x2))] := hD
      refine lv_iconst (v := 0) hx hb dX6_moves_69 (by decide) ?_
      refine lv_istore_n (lv' := [(3, .int 0), (0, .ref o), (1, .int a1), (2, .int a2)]) hx hb dX6_moves_70 rfl hl (by decide) rfl (fun ls hl => ?_)
      have loop71 : ∀ (v1 : Int32) (v2 : Int32) (states : Int32) (bytes : Int32) (reading : Int32) (at_ : Int32) (wrongAt : Int32) (number : Int32) (hh : Int64) (past : Nat → Int32) (refused : Nat → Int32) (held : Nat → Int32), ∀ (K : Int32 → (Nat → Int32) → Option (Int32 × Int32 × (Nat → Int32) × (Nat → Int32) × (Nat → Int32) × (Nat → Int32))), (∀ (v3 : Int32) (now : Nat → Int32), K v3 now = some res → ∀ (H : Heap) (locs : List Loc), va_P D vwCl [(o, .inr (6, [.ref on, .ref op, .int states, .ref orr, .ref ot, .int bytes, .ref oh, .ref og, .ref od, .int reading, .int at_, .int wrongAt, .int number, .long hh])), (on, .inl (k 0, 401, .inl now)), (op, .inl (k 0, 2005, .inl past)), (orr, .inl (k 0, 3, .inl refused)), (oh, .inl (k 0, 11, .inl held))] H → va_D A [(o, .inr (6, [.ref on, .ref op, .int states, .ref orr, .ref ot, .int bytes, .ref oh, .ref og, .ref od, .int reading, .int at_, .int wrongAt, .int number, .long hh])), (on, .inl (k 0, 401, .inl now)), (op, .inl (k 0, 2005, .inl past)), (orr, .inl (k 0, 3, .inl refused)), (oh, .inl (k 0, 11, .inl held))] → va_S A s.heap H locs → ∀ ls : Array Slot, lv_has ls 4 [(0, .ref o), (1, .int v1), (2, .int v2), (3, .int v3)] → W p l e (headSpec wk_X6_moves rm_X6_moves).room s m ([.ref o, .int a1, .int a2] : List Value).toArray below meth c H locs 0 0 (MQ below (va_Qi (fun xq9 (_ : Unit) => xq9 = res.1) (fun _ tq9 => va_P D vwCl [(o, .inr (6, [.ref on, .ref op, .int res.2.1, .ref orr, .ref ot, .int bytes, .ref oh, .ref og, .ref od, .int reading, .int at_, .int wrongAt, .int number, .long hh])), (on, .inl (k 0, 401, .inl res.2.2.1)), (op, .inl (k 0, 2005, .inl res.2.2.2.1)), (orr, .inl (k 0, 3, .inl res.2.2.2.2.1)), (oh, .inl (k 0, 11, .inl res.2.2.2.2.2))] tq9.heap) A) ([.ref o, .int a1, .int a2] : List Value).toArray s 0 0 A) (F0 m 103 ls [])) → ∀ (n : Nat) (v3 : Int32) (now : Nat → Int32), f_X6_moves_L71 fu K v2 held n v3 now = some res → ∀ (H : Heap) (locs : List Loc), va_P D vwCl [(o, .inr (6, [.ref on, .ref op, .int states, .ref orr, .ref ot, .int bytes, .ref oh, .ref og, .ref od, .int reading, .int at_, .int wrongAt, .int number, .long hh])), (on, .inl (k 0, 401, .inl now)), (op, .inl (k 0, 2005, .inl past)), (orr, .inl (k 0, 3, .inl refused)), (oh, .inl (k 0, 11, .inl held))] H → va_D A [(o, .inr (6, [.ref on, .ref op, .int states, .ref orr, .ref ot, .int bytes, .ref oh, .ref og, .ref od, .int reading, .int at_, .int wrongAt, .int number, .long hh])), (on, .inl (k 0, 401, .inl now)), (op, .inl (k 0, 2005, .inl past)), (orr, .inl (k 0, 3, .inl refused)), (oh, .inl (k 0, 11, .inl held))] → va_S A s.heap H locs → ∀ ls : Array Slot, lv_has ls 4 [(0, .ref o), (1, .int v1), (2, .int v2), (3, .int v3)] → W p l e (headSpec wk_X6_moves rm_X6_moves).room s m ([.ref o, .int a1, .int a2] : List Value).toArray below meth c H locs 0 0 (MQ below (va_Qi (fun xq9 (_ : Unit) => xq9 = res.1) (fun _ tq9 => va_P D vwCl [(o, .inr (6, [.ref on, .ref op, .int res.2.1, .ref orr, .ref ot, .int bytes, .ref oh, .ref og, .ref od, .int reading, .int at_, .int wrongAt, .int number, .long hh])), (on, .inl (k 0, 401, .inl res.2.2.1)), (op, .inl (k 0, 2005, .inl res.2.2.2.1)), (orr, .inl (k 0, 3, .inl res.2.2.2.2.1)), (oh, .inl (k 0, 11, .inl res.2.2.2.2.2))] tq9.heap) A) ([.ref o, .int a1, .int a2] : List Value).toArray s 0 0 A) (F0 m 71 ls []) := by
        intro v1 v2 states bytes reading at_ wrongAt number hh past refused held K hKK n
        induction n with
        | zero =>
          intro v3 now h
          rw [f_X6_moves_L71] at h
          cases h
        | succ n ih =>
          intro v3 now h H locs hP hD hS ls hl
          rw [f_X6_moves_L71] at h
          refine lv_iload_n hx hb dX6_moves_71 rfl (lv_at hl 3 rfl) ?_
          refine lv_bipush (v := 11) hx hb dX6_moves_72 (by decide) ?_
          refine lv_icmp_ge (tgt := 103) hx hb dX6_moves_74 (by decide) (fun c2 => ?_) (fun c2 => ?_)
          · have h := zt h c2
            exact hKK _ _ h _ _ hP hD hS _ (lv_sub hl [0, 1, 2, 3] rfl)
          · have h := zf h c2
            refine lv_aload_n hx hb dX6_moves_77 rfl (lv_at hl 0 rfl) ?_
            refine va_get (D := D) (ci := 6) (v := .ref on) (C := RX6) (T := TX6) (N := 14) hx hb ht hiX6 hown hK hP 0 rfl rfl 0 (by decide) (ht _ wb765) (fun _ h9 => h9) rfl dX6_moves_78 ?_
            refine lv_bipush (v := 33) hx hb dX6_moves_81 (by decide) ?_
            refine lv_bipush (v := 11) hx hb dX6_moves_83 (by decide) ?_
            refine lv_iload_n hx hb dX6_moves_85 rfl (lv_at hl 2 rfl) ?_
            refine lv_imul hx hb dX6_moves_86 ?_
            refine lv_iadd hx hb dX6_moves_87 ?_
            refine lv_iload_n hx hb dX6_moves_88 rfl (lv_at hl 3 rfl) ?_
            refine lv_iadd hx hb dX6_moves_89 ?_
            refine lv_aload_n hx hb dX6_moves_90 rfl (lv_at hl 0 rfl) ?_
            refine va_get (D := D) (ci := 6) (v := .ref oh) (C := RX6) (T := TX6) (N := 14) hx hb ht hiX6 hown hK hP 0 rfl rfl 6 (by decide) (ht _ wb771) (fun _ h9 => h9) rfl dX6_moves_91 ?_
            refine lv_iload_n hx hb dX6_moves_94 rfl (lv_at hl 3 rfl) ?_
            obtain ⟨hi3, h⟩ := zg h
            refine va_iald hx hb hK hP 4 0 rfl rfl hi3 dX6_moves_95 ?_
            obtain ⟨hi4, h⟩ := zg h
            refine va_iast hx hb hK hP hD hS 1 0 rfl rfl hi4 dX6_moves_96 (fun H locs hP hD hS => ?_)
            have hP : va_P D vwCl [(o, .inr (6, [.ref on, .ref op, .int states, .ref orr, .ref ot, .int bytes, .ref oh, .ref og, .ref od, .int reading, .int at_, .int wrongAt, .int number, .long hh])), (on, .inl (k 0, 401, .inl (upd now (Int32.toNatClampNeg ((33 + (11 * v2)) + v3)) (held (Int32.toNatClampNeg v3))))), (op, .inl (k 0, 2005, .inl past)), (orr, .inl (k 0, 3, .inl refused)), (oh, .inl (k 0, 11, .inl held))] H := hP
            have hD : va_D A [(o, .inr (6, [.ref on, .ref op, .int states, .ref orr, .ref ot, .int bytes, .ref oh, .ref og, .ref od, .int reading, .int at_, .int wrongAt, .int number, .long hh])), (on, .inl (k 0, 401, .inl (upd now (Int32.toNatClampNeg ((33 + (11 * v2)) + v3)) (held (Int32.toNatClampNeg v3))))), (op, .inl (k 0, 2005, .inl past)), (orr, .inl (k 0, 3, .inl refused)), (oh, .inl (k 0, 11, .inl held))] := hD
            refine lv_iinc (v := v3 + 1) (lv' := [(3, .int (v3 + 1)), (0, .ref o), (1, .int v1), (2, .int v2)]) hx hb dX6_moves_97 hl (k := 3) rfl rfl (by decide) rfl (fun ls hl => ?_)
            refine lv_goto (tgt := 71) hx hb dX6_moves_100 (by decide) ?_
            exact ih _ _ h _ _ hP hD hS _ (lv_sub hl [1, 2, 3, 0] rfl)
      refine loop71 _ _ _ _ _ _ _ _ _ _ _ _ _ ?_ fu _ _ h _ _ hP hD hS _ (lv_sub hl [1, 2, 3, 0] rfl)
      intro x3 x4 h H locs hP hD hS ls hl
      try dsimp only at h
      have hP : va_P D vwCl [(o, .inr (6, [.ref on, .ref op, .int r4.1, .ref orr, .ref ot, .int bytes, .ref oh, .ref og, .ref od, .int reading, .int at_, .int wrongAt, .int number, .long hh])), (on, .inl (k 0, 401, .inl x4)), (op, .inl (k 0, 2005, .inl r4.2)), (orr, .inl (k 0, 3, .inl refused)), (oh, .inl (k 0, 11, .inl x2))] H := hP
      have hD : va_D A [(o, .inr (6, [.ref on, .ref op, .int r4.1, .ref orr, .ref ot, .int bytes, .ref oh, .ref og, .ref od, .int reading, .int at_, .int wrongAt, .int number, .long hh])), (on, .inl (k 0, 401, .inl x4)), (op, .inl (k 0, 2005, .inl r4.2)), (orr, .inl (k 0, 3, .inl refused)), (oh, .inl (k 0, 11, .inl x2))] := hD
      have hl : lv_has ls 4 [(0, .ref o), (1, .int a1), (2, .int a2), (3, .int x3)] := hl
      refine lv_iload_n hx hb dX6_moves_103 rfl (lv_at hl 1 rfl) ?_
      obtain rfl := Option.some.inj h
      exact W.iret (v := a1) hx hb hr (fun t ht9 hW => ⟨⟨_, (), rfl, rfl, zend ht9 hP⟩, hS.F ht9⟩) hS.2.2 dX6_moves_104
    · have h := zt h c3
      refine lv_aload_n hx hb dX6_moves_16 rfl (lv_at hl 0 rfl) ?_
      obtain ⟨r7, h7, h⟩ := zb h
      refine zi (zrV (C := RX6) (T := TX6) (N := 14) (As := []) (rest := []) ⟨hx, hb, hml, hown, ht⟩ (c_X6_bad l D k o on op orr ot oh og od states bytes reading at_ wrongAt number hh refused  h7 _) (cwV 0 ht (gdV wb826 wb828 wb29 wb80 wb829) rfl rfl rfl (by decide +kernel) ⟨Nat.le_of_ble_eq_true rfl, Nat.le_of_ble_eq_true rfl⟩) hK hP hD hS hA hm [0, 3] rfl rfl 0 6 rfl rfl rfl hl.1 rfl (Nat.le_of_ble_eq_true rfl) dX6_moves_17 ⟨Nat.le_refl _, Nat.le_refl _⟩) hP hD hS hA [0, 3] rfl rfl (fun H locs hP hD hS => ?_)
      have hP : va_P D vwCl [(o, .inr (6, [.ref on, .ref op, .int states, .ref orr, .ref ot, .int bytes, .ref oh, .ref og, .ref od, .int reading, .int at_, .int wrongAt, .int number, .long hh])), (on, .inl (k 0, 401, .inl now)), (op, .inl (k 0, 2005, .inl past)), (orr, .inl (k 0, 3, .inl r7.2)), (oh, .inl (k 0, 11, .inl held))] H := hP
      have hD : va_D A [(o, .inr (6, [.ref on, .ref op, .int states, .ref orr, .ref ot, .int bytes, .ref oh, .ref og, .ref od, .int reading, .int at_, .int wrongAt, .int number, .long hh])), (on, .inl (k 0, 401, .inl now)), (op, .inl (k 0, 2005, .inl past)), (orr, .inl (k 0, 3, .inl r7.2)), (oh, .inl (k 0, 11, .inl held))] := hD
      obtain rfl := Option.some.inj h
      exact W.iret (v := r7.1) hx hb hr (fun t ht9 hW => ⟨⟨_, (), rfl, rfl, zend ht9 hP⟩, hS.F ht9⟩) hS.2.2 dX6_moves_20
def f_X6_of (now : Nat → Int32) (refused : Nat → Int32) (a1 : Int32) (a2 : Int32) : Option (Int32 × (Nat → Int32)) :=
  (f_X6_isRule now a1).bind fun r1 => if (zB r1) = 0 then ((f_X6_bad refused ).bind fun r2 => some (r2.1, r2.2)) else ((f_X6_in  a2 0 10).bind fun r3 => if (zB r3) = 0 then ((f_X6_bad refused ).bind fun r4 => some (r4.1, r4.2)) else (if zok ((33 + (11 * a1)) + a2) 401 then (some (now (Int32.toNatClampNeg ((33 + (11 * a1)) + a2)), refused)) else none))
abbrev wk_X6_of : List Cond := Cond.code yX6_of cX6_of 3 (some .int) :: WB
abbrev rm_X6_of : Room := { frames := 2, cells := 0, slots := 0, locals := 43 }
set_option maxHeartbeats 4000000 in
set_option maxRecDepth 100000 in
theorem c_X6_of (l : Launch) (D : va_G) (k : Nat → Nat) (o on op orr ot oh og od : Nat) (states : Int32) (bytes : Int32) (reading : Int32) (at_ : Int32) (wrongAt : Int32) (number : Int32) (hh : Int64) (now : Nat → Int32) (refused : Nat → Int32) (a1 : Int32) (a2 : Int32) {res : Int32 × (Nat → Int32)} (h : f_X6_of now refused a1 a2 = some res) : Ci l yX6_of wk_X6_of rm_X6_of D k [.ref o, .int a1, .int a2] [(o, .inr (6, [.ref on, .ref op, .int states, .ref orr, .ref ot, .int bytes, .ref oh, .ref og, .ref od, .int reading, .int at_, .int wrongAt, .int number, .long hh])), (on, .inl (k 0, 401, .inl now)), (orr, .inl (k 0, 3, .inl refused))] [(o, .inr (6, [.ref on, .ref op, .int states, .ref orr, .ref ot, .int bytes, .ref oh, .ref og, .ref od, .int reading, .int at_, .int wrongAt, .int number, .long hh])), (on, .inl (k 0, 401, .inl now)), (orr, .inl (k 0, 3, .inl res.2))] res.1 := by
  unfold Ci
  intro sz
  refine Met.ofW (cc := cX6_of) (maxL := 3) (ret := (some .int)) (by decide) rfl ?_
  intro p e s m args below meth c s₁ B hml hv
  obtain ⟨rfl, hsz, hP, hK, hD0, hm⟩ := hv
  have hx := B.exec
  have hb := B.bytes
  have hr := B.returns
  have ht : ∀ w ∈ WB, w.before _ s = true := fun w hw => atoms_spec (ws := wk_X6_of) B.pre w (List.mem_cons_of_mem _ hw)
  have hown : s.vm.findClass RX6 = some m.cls := findClass_of_methodNamed B.named
  have hlocks := B.notSynchronized
  subst hsz
  have hD := hD0.self (sz := s.heap.size)
  generalize hAe : va_A [(o, .inr (6, [.ref on, .ref op, .int states, .ref orr, .ref ot, .int bytes, .ref oh, .ref og, .ref od, .int reading, .int at_, .int wrongAt, .int number, .long hh])), (on, .inl (k 0, 401, .inl now)), (orr, .inl (k 0, 3, .inl refused))] s.heap.size = A at hD hm ⊢
  have hA : ∀ q : Nat, s.heap.size ≤ q → A q := fun q h => by rw [← hAe]; exact Or.inr h
  have hS : va_S A s.heap s.heap [] := va_S.rf
  have hl := lv_entry ([.ref o, .int a1, .int a2]) (n := 3) (Nat.le_of_ble_eq_true rfl)
  rw [lg_entry_eq]
  generalize (lg_sl ([.ref o, .int a1, .int a2]) ++ List.replicate (3 - (lg_sl ([.ref o, .int a1, .int a2])).length) Slot.unset).toArray = ls at hl ⊢
  have hl : lv_has ls 3 [(0, .ref o), (1, .int a1), (2, .int a2)] := hl
  obtain ⟨H, hH⟩ : ∃ H, H = s.heap := ⟨_, rfl⟩
  rw [← hH] at hP
  have hS : va_S A s.heap H [] := by rw [hH]; exact hS
  suffices hgo : W p l e _ s m _ below meth c H [] 0 0 _ _ by rw [hH] at hgo; exact hgo
  unfold f_X6_of at h
  refine lv_aload_n hx hb dX6_of_0 rfl (lv_at hl 0 rfl) ?_
  refine lv_iload_n hx hb dX6_of_1 rfl (lv_at hl 1 rfl) ?_
  obtain ⟨r1, h1, h⟩ := zb h
  refine zi (zrV (C := RX6) (T := TX6) (N := 14) (As := [.int a1]) (rest := []) ⟨hx, hb, hml, hown, ht⟩ (c_X6_isRule l D k o on op orr ot oh og od states bytes reading at_ wrongAt number hh now a1 h1 _) (cwV 1 ht (gdV wb857 wb859 wb33 wb80 wb860) rfl rfl rfl (by decide +kernel) ⟨Nat.le_of_ble_eq_true rfl, Nat.le_of_ble_eq_true rfl⟩) hK hP hD hS hA hm [0, 1] rfl rfl 0 6 rfl rfl rfl hl.1 rfl (Nat.le_of_ble_eq_true rfl) dX6_of_2 ⟨Nat.le_refl _, Nat.le_refl _⟩) hP hD hS hA [0, 1] rfl rfl (fun H locs hP hD hS => ?_)
  have hP : va_P D vwCl [(o, .inr (6, [.ref on, .ref op, .int states, .ref orr, .ref ot, .int bytes, .ref oh, .ref og, .ref od, .int reading, .int at_, .int wrongAt, .int number, .long hh])), (on, .inl (k 0, 401, .inl now)), (orr, .inl (k 0, 3, .inl refused))] H := hP
  have hD : va_D A [(o, .inr (6, [.ref on, .ref op, .int states, .ref orr, .ref ot, .int bytes, .ref oh, .ref og, .ref od, .int reading, .int at_, .int wrongAt, .int number, .long hh])), (on, .inl (k 0, 401, .inl now)), (orr, .inl (k 0, 3, .inl refused))] := hD
  refine lv_if_eq (tgt := 35) hx hb dX6_of_5 (by decide) (fun c2 => ?_) (fun c2 => ?_)
  · have h := zt h c2
    refine lv_aload_n hx hb dX6_of_35 rfl (lv_at hl 0 rfl) ?_
    obtain ⟨r2, h2, h⟩ := zb h
    refine zi (zrV (C := RX6) (T := TX6) (N := 14) (As := []) (rest := []) ⟨hx, hb, hml, hown, ht⟩ (c_X6_bad l D k o on op orr ot oh og od states bytes reading at_ wrongAt number hh refused  h2 _) (cwV 0 ht (gdV wb826 wb828 wb29 wb80 wb829) rfl rfl rfl (by decide +kernel) ⟨Nat.le_of_ble_eq_true rfl, Nat.le_of_ble_eq_true rfl⟩) hK hP hD hS hA hm [0, 2] rfl rfl 0 6 rfl rfl rfl hl.1 rfl (Nat.le_of_ble_eq_true rfl) dX6_of_36 ⟨Nat.le_refl _, Nat.le_refl _⟩) hP hD hS hA [0, 2] rfl rfl (fun H locs hP hD hS => ?_)
    have hP : va_P D vwCl [(o, .inr (6, [.ref on, .ref op, .int states, .ref orr, .ref ot, .int bytes, .ref oh, .ref og, .ref od, .int reading, .int at_, .int wrongAt, .int number, .long hh])), (on, .inl (k 0, 401, .inl now)), (orr, .inl (k 0, 3, .inl r2.2))] H := hP
    have hD : va_D A [(o, .inr (6, [.ref on, .ref op, .int states, .ref orr, .ref ot, .int bytes, .ref oh, .ref og, .ref od, .int reading, .int at_, .int wrongAt, .int number, .long hh])), (on, .inl (k 0, 401, .inl now)), (orr, .inl (k 0, 3, .inl r2.2))] := hD
    obtain rfl := Option.some.inj h
    exact W.iret (v := r2.1) hx hb hr (fun t ht9 hW => ⟨⟨_, (), rfl, rfl, zend ht9 hP⟩, hS.F ht9⟩) hS.2.2 dX6_of_39
  · have h := zf h c2
    refine lv_iload_n hx hb dX6_of_8 rfl (lv_at hl 2 rfl) ?_
    refine lv_iconst (v := 0) hx hb dX6_of_9 (by decide) ?_
    refine lv_bipush (v := 10) hx hb dX6_of_10 (by decide) ?_
    obtain ⟨r3, h3, h⟩ := zb h
    refine zi (zrS (As := [.int a2, .int 0, .int 10]) (rest := []) ⟨hx, hb, hml, hown, ht⟩ (c_X6_in l D k   a2 0 10 h3 _) (va_cwS 3 ht (gdS wb820 wb821 wb80 wb822) rfl rfl rfl (by decide +kernel) ⟨Nat.le_of_ble_eq_true rfl, Nat.le_of_ble_eq_true rfl⟩) hK hP hD hS hA hm [] rfl rfl rfl hl.1 rfl (Nat.le_of_ble_eq_true rfl) dX6_of_12 ⟨Nat.le_refl _, Nat.le_refl _⟩) hP hD hS hA [] rfl rfl (fun H locs hP hD hS => ?_)
    have hP : va_P D vwCl [(o, .inr (6, [.ref on, .ref op, .int states, .ref orr, .ref ot, .int bytes, .ref oh, .ref og, .ref od, .int reading, .int at_, .int wrongAt, .int number, .long hh])), (on, .inl (k 0, 401, .inl now)), (orr, .inl (k 0, 3, .inl refused))] H := hP
    have hD : va_D A [(o, .inr (6, [.ref on, .ref op, .int states, .ref orr, .ref ot, .int bytes, .ref oh, .ref og, .ref od, .int reading, .int at_, .int wrongAt, .int number, .long hh])), (on, .inl (k 0, 401, .inl now)), (orr, .inl (k 0, 3, .inl refused))] := hD
    refine lv_if_eq (tgt := 35) hx hb dX6_of_15 (by decide) (fun c1 => ?_) (fun c1 => ?_)
    · have h := zt h c1
      refine lv_aload_n hx hb dX6_of_35 rfl (lv_at hl 0 rfl) ?_
      obtain ⟨r4, h4, h⟩ := zb h
      refine zi (zrV (C := RX6) (T := TX6) (N := 14) (As := []) (rest := []) ⟨hx, hb, hml, hown, ht⟩ (c_X6_bad l D k o on op orr ot oh og od states bytes reading at_ wrongAt number hh refused  h4 _) (cwV 0 ht (gdV wb826 wb828 wb29 wb80 wb829) rfl rfl rfl (by decide +kernel) ⟨Nat.le_of_ble_eq_true rfl, Nat.le_of_ble_eq_true rfl⟩) hK hP hD hS hA hm [0, 2] rfl rfl 0 6 rfl rfl rfl hl.1 rfl (Nat.le_of_ble_eq_true rfl) dX6_of_36 ⟨Nat.le_refl _, Nat.le_refl _⟩) hP hD hS hA [0, 2] rfl rfl (fun H locs hP hD hS => ?_)
      have hP : va_P D vwCl [(o, .inr (6, [.ref on, .ref op, .int states, .ref orr, .ref ot, .int bytes, .ref oh, .ref og, .ref od, .int reading, .int at_, .int wrongAt, .int number, .long hh])), (on, .inl (k 0, 401, .inl now)), (orr, .inl (k 0, 3, .inl r4.2))] H := hP
      have hD : va_D A [(o, .inr (6, [.ref on, .ref op, .int states, .ref orr, .ref ot, .int bytes, .ref oh, .ref og, .ref od, .int reading, .int at_, .int wrongAt, .int number, .long hh])), (on, .inl (k 0, 401, .inl now)), (orr, .inl (k 0, 3, .inl r4.2))] := hD
      obtain rfl := Option.some.inj h
      exact W.iret (v := r4.1) hx hb hr (fun t ht9 hW => ⟨⟨_, (), rfl, rfl, zend ht9 hP⟩, hS.F ht9⟩) hS.2.2 dX6_of_39
    · have h := zf h c1
      refine lv_aload_n hx hb dX6_of_18 rfl (lv_at hl 0 rfl) ?_
      refine va_get (D := D) (ci := 6) (v := .ref on) (C := RX6) (T := TX6) (N := 14) hx hb ht hiX6 hown hK hP 0 rfl rfl 0 (by decide) (ht _ wb765) (fun _ h9 => h9) rfl dX6_of_19 ?_
      refine lv_bipush (v := 33) hx hb dX6_of_22 (by decide) ?_
      refine lv_bipush (v := 11) hx hb dX6_of_24 (by decide) ?_
      refine lv_iload_n hx hb dX6_of_26 rfl (lv_at hl 1 rfl) ?_
      refine lv_imul hx hb dX6_of_27 ?_
      refine lv_iadd hx hb dX6_of_28 ?_
      refine lv_iload_n hx hb dX6_of_29 rfl (lv_at hl 2 rfl) ?_
      refine lv_iadd hx hb dX6_of_30 ?_
      obtain ⟨hi1, h⟩ := zg h
      refine va_iald hx hb hK hP 1 0 rfl rfl hi1 dX6_of_31 ?_
      refine lv_goto (tgt := 39) hx hb dX6_of_32 (by decide) ?_
      obtain rfl := Option.some.inj h
      exact W.iret (v := now (Int32.toNatClampNeg ((33 + (11 * a1)) + a2))) hx hb hr (fun t ht9 hW => ⟨⟨_, (), rfl, rfl, zend ht9 hP⟩, hS.F ht9⟩) hS.2.2 dX6_of_39
def f_X6_lays_L2 (fu : Nat) (K : Int32 → (Nat → Int32) → Option ((Nat → Int32))) (v1 : Int32) (v2 : Int32) : Nat → Int32 → (Nat → Int32) → Option ((Nat → Int32))
  | 0, _, _ => none
  | n + 1, v3, now =>
  if 132 ≤ v3 then (K v3 now) else (if (v3 - v3 / 11 * 11) = 10 then (if zok (v2 + v3) 401 then (f_X6_lays_L2 fu K v1 v2 n (v3 + 1) (upd now (Int32.toNatClampNeg (v2 + v3)) 0)) else none) else (if zok (v1 + v3) 401 then (if zok (v2 + v3) 401 then (f_X6_lays_L2 fu K v1 v2 n (v3 + 1) (upd now (Int32.toNatClampNeg (v2 + v3)) (now (Int32.toNatClampNeg (v1 + v3))))) else none) else none))
def f_X6_lays (fu : Nat) (now : Nat → Int32) (a1 : Int32) (a2 : Int32) : Option ((Nat → Int32)) :=
  f_X6_lays_L2 fu (fun (x1 : Int32) (x2 : Nat → Int32) => some (x2)) a1 a2 fu 0 now
abbrev wk_X6_lays : List Cond := Cond.code yX6_lays cX6_lays 4 none :: WB
abbrev rm_X6_lays : Room := { frames := 0, cells := 0, slots := 0, locals := 0 }
set_option maxHeartbeats 4000000 in
set_option maxRecDepth 100000 in
theorem c_X6_lays (l : Launch) (D : va_G) (k : Nat → Nat) (o on op orr ot oh og od : Nat) (states : Int32) (bytes : Int32) (reading : Int32) (at_ : Int32) (wrongAt : Int32) (number : Int32) (hh : Int64) (now : Nat → Int32) (a1 : Int32) (a2 : Int32) (fu : Nat) {res : (Nat → Int32)} (h : f_X6_lays fu now a1 a2 = some res) : Cv l yX6_lays wk_X6_lays rm_X6_lays D k [.ref o, .int a1, .int a2] [(o, .inr (6, [.ref on, .ref op, .int states, .ref orr, .ref ot, .int bytes, .ref oh, .ref og, .ref od, .int reading, .int at_, .int wrongAt, .int number, .long hh])), (on, .inl (k 0, 401, .inl now))] [(o, .inr (6, [.ref on, .ref op, .int states, .ref orr, .ref ot, .int bytes, .ref oh, .ref og, .ref od, .int reading, .int at_, .int wrongAt, .int number, .long hh])), (on, .inl (k 0, 401, .inl res))] := by
  unfold Cv
  intro sz
  refine Met.ofW (cc := cX6_lays) (maxL := 4) (ret := none) (by decide) rfl ?_
  intro p e s m args below meth c s₁ B hml hv
  obtain ⟨rfl, hsz, hP, hK, hD0, hm⟩ := hv
  have hx := B.exec
  have hb := B.bytes
  have hr := B.returns
  have ht : ∀ w ∈ WB, w.before _ s = true := fun w hw => atoms_spec (ws := wk_X6_lays) B.pre w (List.mem_cons_of_mem _ hw)
  have hown : s.vm.findClass RX6 = some m.cls := findClass_of_methodNamed B.named
  have hlocks := B.notSynchronized
  subst hsz
  have hD := hD0.self (sz := s.heap.size)
  generalize hAe : va_A [(o, .inr (6, [.ref on, .ref op, .int states, .ref orr, .ref ot, .int bytes, .ref oh, .ref og, .ref od, .int reading, .int at_, .int wrongAt, .int number, .long hh])), (on, .inl (k 0, 401, .inl now))] s.heap.size = A at hD hm ⊢
  have hA : ∀ q : Nat, s.heap.size ≤ q → A q := fun q h => by rw [← hAe]; exact Or.inr h
  have hS : va_S A s.heap s.heap [] := va_S.rf
  have hl := lv_entry ([.ref o, .int a1, .int a2]) (n := 4) (Nat.le_of_ble_eq_true rfl)
  rw [lg_entry_eq]
  generalize (lg_sl ([.ref o, .int a1, .int a2]) ++ List.replicate (4 - (lg_sl ([.ref o, .int a1, .int a2])).length) Slot.unset).toArray = ls at hl ⊢
  have hl : lv_has ls 4 [(0, .ref o), (1, .int a1), (2, .int a2)] := hl
  obtain ⟨H, hH⟩ : ∃ H, H = s.heap := ⟨_, rfl⟩
  rw [← hH] at hP
  have hS : va_S A s.heap H [] := by rw [hH]; exact hS
  suffices hgo : W p l e _ s m _ below meth c H [] 0 0 _ _ by rw [hH] at hgo; exact hgo
  unfold f_X6_lays at h
  refine lv_iconst (v := 0) hx hb dX6_lays_0 (by decide) ?_
  refine lv_istore_n (lv' := [(3, .int 0), (0, .ref o), (1, .int a1), (2, .int a2)]) hx hb dX6_lays_1 rfl hl (by decide) rfl (fun ls hl => ?_)
  have loop2 : ∀ (v1 : Int32) (v2 : Int32) (states : Int32) (bytes : Int32) (reading : Int32) (at_ : Int32) (wrongAt : Int32) (number : Int32) (hh : Int64), ∀ (K : Int32 → (Nat → Int32) → Option ((Nat → Int32))), (∀ (v3 : Int32) (now : Nat → Int32), K v3 now = some res → ∀ (H : Heap) (locs : List Loc), va_P D vwCl [(o, .inr (6, [.ref on, .ref op, .int states, .ref orr, .ref ot, .int bytes, .ref oh, .ref og, .ref od, .int reading, .int at_, .int wrongAt, .int number, .long hh])), (on, .inl (k 0, 401, .inl now))] H → va_D A [(o, .inr (6, [.ref on, .ref op, .int states, .ref orr, .ref ot, .int bytes, .ref oh, .ref og, .ref od, .int reading, .int at_, .int wrongAt, .int number, .long hh])), (on, .inl (k 0, 401, .inl now))] → va_S A s.heap H locs → ∀ ls : Array Slot, lv_has ls 4 [(0, .ref o), (1, .int v1), (2, .int v2), (3, .int v3)] → W p l e (headSpec wk_X6_lays rm_X6_lays).room s m ([.ref o, .int a1, .int a2] : List Value).toArray below meth c H locs 0 0 (MQ below (va_Qv (fun (_ : Unit) => True) (fun _ tq9 => va_P D vwCl [(o, .inr (6, [.ref on, .ref op, .int states, .ref orr, .ref ot, .int bytes, .ref oh, .ref og, .ref od, .int reading, .int at_, .int wrongAt, .int number, .long hh])), (on, .inl (k 0, 401, .inl res))] tq9.heap) A) ([.ref o, .int a1, .int a2] : List Value).toArray s 0 0 A) (F0 m 44 ls [])) → ∀ (n : Nat) (v3 : Int32) (now : Nat → Int32), f_X6_lays_L2 fu K v1 v2 n v3 now = some res → ∀ (H : Heap) (locs : List Loc), va_P D vwCl [(o, .inr (6, [.ref on, .ref op, .int states, .ref orr, .ref ot, .int bytes, .ref oh, .ref og, .ref od, .int reading, .int at_, .int wrongAt, .int number, .long hh])), (on, .inl (k 0, 401, .inl now))] H → va_D A [(o, .inr (6, [.ref on, .ref op, .int states, .ref orr, .ref ot, .int bytes, .ref oh, .ref og, .ref od, .int reading, .int at_, .int wrongAt, .int number, .long hh])), (on, .inl (k 0, 401, .inl now))] → va_S A s.heap H locs → ∀ ls : Array Slot, lv_has ls 4 [(0, .ref o), (1, .int v1), (2, .int v2), (3, .int v3)] → W p l e (headSpec wk_X6_lays rm_X6_lays).room s m ([.ref o, .int a1, .int a2] : List Value).toArray below meth c H locs 0 0 (MQ below (va_Qv (fun (_ : Unit) => True) (fun _ tq9 => va_P D vwCl [(o, .inr (6, [.ref on, .ref op, .int states, .ref orr, .ref ot, .int bytes, .ref oh, .ref og, .ref od, .int reading, .int at_, .int wrongAt, .int number, .long hh])), (on, .inl (k 0, 401, .inl res))] tq9.heap) A) ([.ref o, .int a1, .int a2] : List Value).toArray s 0 0 A) (F0 m 2 ls []) := by
    intro v1 v2 states bytes reading at_ wrongAt number hh K hKK n
    induction n with
    | zero =>
      intro v3 now h
      rw [f_X6_lays_L2] at h
      cases h
    | succ n ih =>
      intro v3 now h H locs hP hD hS ls hl
      rw [f_X6_lays_L2] at h
      refine lv_iload_n hx hb dX6_lays_2 rfl (lv_at hl 3 rfl) ?_
      refine lv_sipush (v := 132) hx hb dX6_lays_3 (by decide) ?_
      refine lv_icmp_ge (tgt := 44) hx hb dX6_lays_6 (by decide) (fun c2 => ?_) (fun c2 => ?_)
      · have h := zt h c2
        exact hKK _ _ h _ _ hP hD hS _ (lv_sub hl [0, 1, 2, 3] rfl)
      · have h := zf h c2
        refine lv_aload_n hx hb dX6_lays_9 rfl (lv_at hl 0 rfl) ?_
        refine va_get (D := D) (ci := 6) (v := .ref on) (C := RX6) (T := TX6) (N := 14) hx hb ht hiX6 hown hK hP 0 rfl rfl 0 (by decide) (ht _ wb765) (fun _ h9 => h9) rfl dX6_lays_10 ?_
        refine lv_iload_n hx hb dX6_lays_13 rfl (lv_at hl 2 rfl) ?_
        refine lv_iload_n hx hb dX6_lays_14 rfl (lv_at hl 3 rfl) ?_
        refine lv_iadd hx hb dX6_lays_15 ?_
        refine lv_iload_n hx hb dX6_lays_16 rfl (lv_at hl 3 rfl) ?_
        refine lv_bipush (v := 11) hx hb dX6_lays_17 (by decide) ?_
        refine lv_irem hx hb dX6_lays_19 (by decide) ?_
        refine lv_bipush (v := 10) hx hb dX6_lays_20 (by decide) ?_
        refine lv_icmp_ne (tgt := 29) hx hb dX6_lays_22 (by decide) (fun c1 => ?_) (fun c1 => ?_)
        · have h := zf h c1
          refine lv_aload_n hx hb dX6_lays_29 rfl (lv_at hl 0 rfl) ?_
          refine va_get (D := D) (ci := 6) (v := .ref on) (C := RX6) (T := TX6) (N := 14) hx hb ht hiX6 hown hK hP 0 rfl rfl 0 (by decide) (ht _ wb765) (fun _ h9 => h9) rfl dX6_lays_30 ?_
          refine lv_iload_n hx hb dX6_lays_33 rfl (lv_at hl 1 rfl) ?_
          refine lv_iload_n hx hb dX6_lays_34 rfl (lv_at hl 3 rfl) ?_
          refine lv_iadd hx hb dX6_lays_35 ?_
          obtain ⟨hi1, h⟩ := zg h
          refine va_iald hx hb hK hP 1 0 rfl rfl hi1 dX6_lays_36 ?_
          obtain ⟨hi2, h⟩ := zg h
          refine va_iast hx hb hK hP hD hS 1 0 rfl rfl hi2 dX6_lays_37 (fun H locs hP hD hS => ?_)
          have hP : va_P D vwCl [(o, .inr (6, [.ref on, .ref op, .int states, .ref orr, .ref ot, .int bytes, .ref oh, .ref og, .ref od, .int reading, .int at_, .int wrongAt, .int number, .long hh])), (on, .inl (k 0, 401, .inl (upd now (Int32.toNatClampNeg (v2 + v3)) (now (Int32.toNatClampNeg (v1 + v3))))))] H := hP
          have hD : va_D A [(o, .inr (6, [.ref on, .ref op, .int states, .ref orr, .ref ot, .int bytes, .ref oh, .ref og, .ref od, .int reading, .int at_, .int wrongAt, .int number, .long hh])), (on, .inl (k 0, 401, .inl (upd now (Int32.toNatClampNeg (v2 + v3)) (now (Int32.toNatClampNeg (v1 + v3))))))] := hD
          refine lv_iinc (v := v3 + 1) (lv' := [(3, .int (v3 + 1)), (0, .ref o), (1, .int v1), (2, .int v2)]) hx hb dX6_lays_38 hl (k := 3) rfl rfl (by decide) rfl (fun ls hl => ?_)
          refine lv_goto (tgt := 2) hx hb dX6_lays_41 (by decide) ?_
          exact ih _ _ h _ _ hP hD hS _ (lv_sub hl [1, 2, 3, 0] rfl)
        · have h := zt h c1
          refine lv_iconst (v := 0) hx hb dX6_lays_25 (by decide) ?_
          refine lv_goto (tgt := 37) hx hb dX6_lays_26 (by decide) ?_
          obtain ⟨hi3, h⟩ := zg h
          refine va_iast hx hb hK hP hD hS 1 0 rfl rfl hi3 dX6_lays_37 (fun H locs hP hD hS => ?_)
          have hP : va_P D vwCl [(o, .inr (6, [.ref on, .ref op, .int states, .ref orr, .ref ot, .int bytes, .ref oh, .ref og, .ref od, .int reading, .int at_, .int wrongAt, .int number, .long hh])), (on, .inl (k 0, 401, .inl (upd now (Int32.toNatClampNeg (v2 + v3)) 0)))] H := hP
          have hD : va_D A [(o, .inr (6, [.ref on, .ref op, .int states, .ref orr, .ref ot, .int bytes, .ref oh, .ref og, .ref od, .int reading, .int at_, .int wrongAt, .int number, .long hh])), (on, .inl (k 0, 401, .inl (upd now (Int32.toNatClampNeg (v2 + v3)) 0)))] := hD
          refine lv_iinc (v := v3 + 1) (lv' := [(3, .int (v3 + 1)), (0, .ref o), (1, .int v1), (2, .int v2)]) hx hb dX6_lays_38 hl (k := 3) rfl rfl (by decide) rfl (fun ls hl => ?_)
          refine lv_goto (tgt := 2) hx hb dX6_lays_41 (by decide) ?_
          exact ih _ _ h _ _ hP hD hS _ (lv_sub hl [1, 2, 3, 0] rfl)
  refine loop2 _ _ _ _ _ _ _ _ _ _ ?_ fu _ _ h _ _ hP hD hS _ (lv_sub hl [1, 2, 3, 0] rfl)
  intro x1 x2 h H locs hP hD hS ls hl
  try dsimp only at h
  have hP : va_P D vwCl [(o, .inr (6, [.ref on, .ref op, .int states, .ref orr, .ref ot, .int bytes, .ref oh, .ref og, .ref od, .int reading, .int at_, .int wrongAt, .int number, .long hh])), (on, .inl (k 0, 401, .inl x2))] H := hP
  have hD : va_D A [(o, .inr (6, [.ref on, .ref op, .int states, .ref orr, .ref ot, .int bytes, .ref oh, .ref og, .ref od, .int reading, .int at_, .int wrongAt, .int number, .long hh])), (on, .inl (k 0, 401, .inl x2))] := hD
  have hl : lv_has ls 4 [(0, .ref o), (1, .int a1), (2, .int a2), (3, .int x1)] := hl
  obtain rfl := Option.some.inj h
  exact W.vret hx hb hr (fun t ht9 hW => ⟨⟨(), rfl, trivial, zend ht9 hP⟩, hS.F ht9⟩) hS.2.2 dX6_lays_44
def f_X6_keeps (fu : Nat) (states : Int32) (now : Nat → Int32) (past : Nat → Int32)  : Option (Int32 × Int32 × (Nat → Int32) × (Nat → Int32)) :=
  (f_X6_remembers fu states now past ).bind fun r1 => if zok 32 401 then (if zok 165 401 then ((f_X6_lays fu (upd now (Int32.toNatClampNeg 165) (now (Int32.toNatClampNeg 32))) 33 166).bind fun r2 => if zok 32 401 then (some (r2 (Int32.toNatClampNeg 32), r1.1, r2, r1.2)) else none) else none) else none
abbrev wk_X6_keeps : List Cond := Cond.code yX6_keeps cX6_keeps 1 (some .int) :: WB
abbrev rm_X6_keeps : Room := { frames := 1, cells := 0, slots := 0, locals := 23 }
set_option maxHeartbeats 4000000 in
set_option maxRecDepth 100000 in
theorem c_X6_keeps (l : Launch) (D : va_G) (k : Nat → Nat) (o on op orr ot oh og od : Nat) (states : Int32) (bytes : Int32) (reading : Int32) (at_ : Int32) (wrongAt : Int32) (number : Int32) (hh : Int64) (now : Nat → Int32) (past : Nat → Int32)  (fu : Nat) {res : Int32 × Int32 × (Nat → Int32) × (Nat → Int32)} (h : f_X6_keeps fu states now past  = some res) : Ci l yX6_keeps wk_X6_keeps rm_X6_keeps D k [.ref o] [(o, .inr (6, [.ref on, .ref op, .int states, .ref orr, .ref ot, .int bytes, .ref oh, .ref og, .ref od, .int reading, .int at_, .int wrongAt, .int number, .long hh])), (on, .inl (k 0, 401, .inl now)), (op, .inl (k 0, 2005, .inl past))] [(o, .inr (6, [.ref on, .ref op, .int res.2.1, .ref orr, .ref ot, .int bytes, .ref oh, .ref og, .ref od, .int reading, .int at_, .int wrongAt, .int number, .long hh])), (on, .inl (k 0, 401, .inl res.2.2.1)), (op, .inl (k 0, 2005, .inl res.2.2.2))] res.1 := by
  unfold Ci
  intro sz
  refine Met.ofW (cc := cX6_keeps) (maxL := 1) (ret := (some .int)) (by decide) rfl ?_
  intro p e s m args below meth c s₁ B hml hv
  obtain ⟨rfl, hsz, hP, hK, hD0, hm⟩ := hv
  have hx := B.exec
  have hb := B.bytes
  have hr := B.returns
  have ht : ∀ w ∈ WB, w.before _ s = true := fun w hw => atoms_spec (ws := wk_X6_keeps) B.pre w (List.mem_cons_of_mem _ hw)
  have hown : s.vm.findClass RX6 = some m.cls := findClass_of_methodNamed B.named
  have hlocks := B.notSynchronized
  subst hsz
  have hD := hD0.self (sz := s.heap.size)
  generalize hAe : va_A [(o, .inr (6, [.ref on, .ref op, .int states, .ref orr, .ref ot, .int bytes, .ref oh, .ref og, .ref od, .int reading, .int at_, .int wrongAt, .int number, .long hh])), (on, .inl (k 0, 401, .inl now)), (op, .inl (k 0, 2005, .inl past))] s.heap.size = A at hD hm ⊢
  have hA : ∀ q : Nat, s.heap.size ≤ q → A q := fun q h => by rw [← hAe]; exact Or.inr h
  have hS : va_S A s.heap s.heap [] := va_S.rf
  have hl := lv_entry ([.ref o]) (n := 1) (Nat.le_of_ble_eq_true rfl)
  rw [lg_entry_eq]
  generalize (lg_sl ([.ref o]) ++ List.replicate (1 - (lg_sl ([.ref o])).length) Slot.unset).toArray = ls at hl ⊢
  have hl : lv_has ls 1 [(0, .ref o)] := hl
  obtain ⟨H, hH⟩ : ∃ H, H = s.heap := ⟨_, rfl⟩
  rw [← hH] at hP
  have hS : va_S A s.heap H [] := by rw [hH]; exact hS
  suffices hgo : W p l e _ s m _ below meth c H [] 0 0 _ _ by rw [hH] at hgo; exact hgo
  unfold f_X6_keeps at h
  refine lv_aload_n hx hb dX6_keeps_0 rfl (lv_at hl 0 rfl) ?_
  obtain ⟨r1, h1, h⟩ := zb h
  refine zv (zrV (C := RX6) (T := TX6) (N := 14) (As := []) (rest := []) ⟨hx, hb, hml, hown, ht⟩ (c_X6_remembers l D k o on op orr ot oh og od states bytes reading at_ wrongAt number hh now past  fu h1 _) (cwV 0 ht (gdV wb830 wb832 wb30 wb80 wb833) rfl rfl rfl (by decide +kernel) ⟨Nat.le_of_ble_eq_true rfl, Nat.le_of_ble_eq_true rfl⟩) hK hP hD hS hA hm [0, 1, 2] rfl rfl 0 6 rfl rfl rfl hl.1 rfl (Nat.le_of_ble_eq_true rfl) dX6_keeps_1 ⟨Nat.le_refl _, Nat.le_refl _⟩) hP hD hS hA [0, 1, 2] rfl rfl (fun H locs hP hD hS => ?_)
  have hP : va_P D vwCl [(o, .inr (6, [.ref on, .ref op, .int r1.1, .ref orr, .ref ot, .int bytes, .ref oh, .ref og, .ref od, .int reading, .int at_, .int wrongAt, .int number, .long hh])), (on, .inl (k 0, 401, .inl now)), (op, .inl (k 0, 2005, .inl r1.2))] H := hP
  have hD : va_D A [(o, .inr (6, [.ref on, .ref op, .int r1.1, .ref orr, .ref ot, .int bytes, .ref oh, .ref og, .ref od, .int reading, .int at_, .int wrongAt, .int number, .long hh])), (on, .inl (k 0, 401, .inl now)), (op, .inl (k 0, 2005, .inl r1.2))] := hD
  refine lv_aload_n hx hb dX6_keeps_4 rfl (lv_at hl 0 rfl) ?_
  refine va_get (D := D) (ci := 6) (v := .ref on) (C := RX6) (T := TX6) (N := 14) hx hb ht hiX6 hown hK hP 0 rfl rfl 0 (by decide) (ht _ wb765) (fun _ h9 => h9) rfl dX6_keeps_5 ?_
  refine lv_sipush (v := 165) hx hb dX6_keeps_8 (by decide) ?_
  refine lv_aload_n hx hb dX6_keeps_11 rfl (lv_at hl 0 rfl) ?_
  refine va_get (D := D) (ci := 6) (v := .ref on) (C := RX6) (T := TX6) (N := 14) hx hb ht hiX6 hown hK hP 0 rfl rfl 0 (by decide) (ht _ wb765) (fun _ h9 => h9) rfl dX6_keeps_12 ?_
  refine lv_bipush (v := 32) hx hb dX6_keeps_15 (by decide) ?_
  obtain ⟨hi1, h⟩ := zg h
  refine va_iald hx hb hK hP 1 0 rfl rfl hi1 dX6_keeps_17 ?_
  obtain ⟨hi2, h⟩ := zg h
  refine va_iast hx hb hK hP hD hS 1 0 rfl rfl hi2 dX6_keeps_18 (fun H locs hP hD hS => ?_)
  have hP : va_P D vwCl [(o, .inr (6, [.ref on, .ref op, .int r1.1, .ref orr, .ref ot, .int bytes, .ref oh, .ref og, .ref od, .int reading, .int at_, .int wrongAt, .int number, .long hh])), (on, .inl (k 0, 401, .inl (upd now (Int32.toNatClampNeg 165) (now (Int32.toNatClampNeg 32))))), (op, .inl (k 0, 2005, .inl r1.2))] H := hP
  have hD : va_D A [(o, .inr (6, [.ref on, .ref op, .int r1.1, .ref orr, .ref ot, .int bytes, .ref oh, .ref og, .ref od, .int reading, .int at_, .int wrongAt, .int number, .long hh])), (on, .inl (k 0, 401, .inl (upd now (Int32.toNatClampNeg 165) (now (Int32.toNatClampNeg 32))))), (op, .inl (k 0, 2005, .inl r1.2))] := hD
  refine lv_aload_n hx hb dX6_keeps_19 rfl (lv_at hl 0 rfl) ?_
  refine lv_bipush (v := 33) hx hb dX6_keeps_20 (by decide) ?_
  refine lv_sipush (v := 166) hx hb dX6_keeps_22 (by decide) ?_
  obtain ⟨r2, h2, h⟩ := zb h
  refine zv (zrV (C := RX6) (T := TX6) (N := 14) (As := [.int 33, .int 166]) (rest := []) ⟨hx, hb, hml, hown, ht⟩ (c_X6_lays l D k o on op orr ot oh og od r1.1 bytes reading at_ wrongAt number hh (upd now (Int32.toNatClampNeg 165) (now (Int32.toNatClampNeg 32))) 33 166 fu h2 _) (cwV 2 ht (gdV wb884 wb886 wb35 wb80 wb887) rfl rfl rfl (by decide +kernel) ⟨Nat.le_of_ble_eq_true rfl, Nat.le_of_ble_eq_true rfl⟩) hK hP hD hS hA hm [0, 1] rfl rfl 0 6 rfl rfl rfl hl.1 rfl (Nat.le_of_ble_eq_true rfl) dX6_keeps_25 ⟨Nat.le_refl _, Nat.le_refl _⟩) hP hD hS hA [0, 1] rfl rfl (fun H locs hP hD hS => ?_)
  have hP : va_P D vwCl [(o, .inr (6, [.ref on, .ref op, .int r1.1, .ref orr, .ref ot, .int bytes, .ref oh, .ref og, .ref od, .int reading, .int at_, .int wrongAt, .int number, .long hh])), (on, .inl (k 0, 401, .inl r2)), (op, .inl (k 0, 2005, .inl r1.2))] H := hP
  have hD : va_D A [(o, .inr (6, [.ref on, .ref op, .int r1.1, .ref orr, .ref ot, .int bytes, .ref oh, .ref og, .ref od, .int reading, .int at_, .int wrongAt, .int number, .long hh])), (on, .inl (k 0, 401, .inl r2)), (op, .inl (k 0, 2005, .inl r1.2))] := hD
  refine lv_aload_n hx hb dX6_keeps_28 rfl (lv_at hl 0 rfl) ?_
  refine va_get (D := D) (ci := 6) (v := .ref on) (C := RX6) (T := TX6) (N := 14) hx hb ht hiX6 hown hK hP 0 rfl rfl 0 (by decide) (ht _ wb765) (fun _ h9 => h9) rfl dX6_keeps_29 ?_
  refine lv_bipush (v := 32) hx hb dX6_keeps_32 (by decide) ?_
  obtain ⟨hi3, h⟩ := zg h
  refine va_iald hx hb hK hP 1 0 rfl rfl hi3 dX6_keeps_34 ?_
  obtain rfl := Option.some.inj h
  exact W.iret (v := r2 (Int32.toNatClampNeg 32)) hx hb hr (fun t ht9 hW => ⟨⟨_, (), rfl, rfl, zend ht9 hP⟩, hS.F ht9⟩) hS.2.2 dX6_keeps_35
def f_X6_takes (fu : Nat) (states : Int32) (now : Nat → Int32) (past : Nat → Int32)  : Option (Int32 × Int32 × (Nat → Int32) × (Nat → Int32)) :=
  (f_X6_remembers fu states now past ).bind fun r1 => if zok 165 401 then (if zok 32 401 then ((f_X6_lays fu (upd now (Int32.toNatClampNeg 32) (now (Int32.toNatClampNeg 165))) 166 33).bind fun r2 => if zok 32 401 then (some (r2 (Int32.toNatClampNeg 32), r1.1, r2, r1.2)) else none) else none) else none
abbrev wk_X6_takes : List Cond := Cond.code yX6_takes cX6_takes 1 (some .int) :: WB
abbrev rm_X6_takes : Room := { frames := 1, cells := 0, slots := 0, locals := 23 }
set_option maxHeartbeats 4000000 in
set_option maxRecDepth 100000 in
theorem c_X6_takes (l : Launch) (D : va_G) (k : Nat → Nat) (o on op orr ot oh og od : Nat) (states : Int32) (bytes : Int32) (reading : Int32) (at_ : Int32) (wrongAt : Int32) (number : Int32) (hh : Int64) (now : Nat → Int32) (past : Nat → Int32)  (fu : Nat) {res : Int32 × Int32 × (Nat → Int32) × (Nat → Int32)} (h : f_X6_takes fu states now past  = some res) : Ci l yX6_takes wk_X6_takes rm_X6_takes D k [.ref o] [(o, .inr (6, [.ref on, .ref op, .int states, .ref orr, .ref ot, .int bytes, .ref oh, .ref og, .ref od, .int reading, .int at_, .int wrongAt, .int number, .long hh])), (on, .inl (k 0, 401, .inl now)), (op, .inl (k 0, 2005, .inl past))] [(o, .inr (6, [.ref on, .ref op, .int res.2.1, .ref orr, .ref ot, .int bytes, .ref oh, .ref og, .ref od, .int reading, .int at_, .int wrongAt, .int number, .long hh])), (on, .inl (k 0, 401, .inl res.2.2.1)), (op, .inl (k 0, 2005, .inl res.2.2.2))] res.1 := by
  unfold Ci
  intro sz
  refine Met.ofW (cc := cX6_takes) (maxL := 1) (ret := (some .int)) (by decide) rfl ?_
  intro p e s m args below meth c s₁ B hml hv
  obtain ⟨rfl, hsz, hP, hK, hD0, hm⟩ := hv
  have hx := B.exec
  have hb := B.bytes
  have hr := B.returns
  have ht : ∀ w ∈ WB, w.before _ s = true := fun w hw => atoms_spec (ws := wk_X6_takes) B.pre w (List.mem_cons_of_mem _ hw)
  have hown : s.vm.findClass RX6 = some m.cls := findClass_of_methodNamed B.named
  have hlocks := B.notSynchronized
  subst hsz
  have hD := hD0.self (sz := s.heap.size)
  generalize hAe : va_A [(o, .inr (6, [.ref on, .ref op, .int states, .ref orr, .ref ot, .int bytes, .ref oh, .ref og, .ref od, .int reading, .int at_, .int wrongAt, .int number, .long hh])), (on, .inl (k 0, 401, .inl now)), (op, .inl (k 0, 2005, .inl past))] s.heap.size = A at hD hm ⊢
  have hA : ∀ q : Nat, s.heap.size ≤ q → A q := fun q h => by rw [← hAe]; exact Or.inr h
  have hS : va_S A s.heap s.heap [] := va_S.rf
  have hl := lv_entry ([.ref o]) (n := 1) (Nat.le_of_ble_eq_true rfl)
  rw [lg_entry_eq]
  generalize (lg_sl ([.ref o]) ++ List.replicate (1 - (lg_sl ([.ref o])).length) Slot.unset).toArray = ls at hl ⊢
  have hl : lv_has ls 1 [(0, .ref o)] := hl
  obtain ⟨H, hH⟩ : ∃ H, H = s.heap := ⟨_, rfl⟩
  rw [← hH] at hP
  have hS : va_S A s.heap H [] := by rw [hH]; exact hS
  suffices hgo : W p l e _ s m _ below meth c H [] 0 0 _ _ by rw [hH] at hgo; exact hgo
  unfold f_X6_takes at h
  refine lv_aload_n hx hb dX6_takes_0 rfl (lv_at hl 0 rfl) ?_
  obtain ⟨r1, h1, h⟩ := zb h
  refine zv (zrV (C := RX6) (T := TX6) (N := 14) (As := []) (rest := []) ⟨hx, hb, hml, hown, ht⟩ (c_X6_remembers l D k o on op orr ot oh og od states bytes reading at_ wrongAt number hh now past  fu h1 _) (cwV 0 ht (gdV wb830 wb832 wb30 wb80 wb833) rfl rfl rfl (by decide +kernel) ⟨Nat.le_of_ble_eq_true rfl, Nat.le_of_ble_eq_true rfl⟩) hK hP hD hS hA hm [0, 1, 2] rfl rfl 0 6 rfl rfl rfl hl.1 rfl (Nat.le_of_ble_eq_true rfl) dX6_takes_1 ⟨Nat.le_refl _, Nat.le_refl _⟩) hP hD hS hA [0, 1, 2] rfl rfl (fun H locs hP hD hS => ?_)
  have hP : va_P D vwCl [(o, .inr (6, [.ref on, .ref op, .int r1.1, .ref orr, .ref ot, .int bytes, .ref oh, .ref og, .ref od, .int reading, .int at_, .int wrongAt, .int number, .long hh])), (on, .inl (k 0, 401, .inl now)), (op, .inl (k 0, 2005, .inl r1.2))] H := hP
  have hD : va_D A [(o, .inr (6, [.ref on, .ref op, .int r1.1, .ref orr, .ref ot, .int bytes, .ref oh, .ref og, .ref od, .int reading, .int at_, .int wrongAt, .int number, .long hh])), (on, .inl (k 0, 401, .inl now)), (op, .inl (k 0, 2005, .inl r1.2))] := hD
  refine lv_aload_n hx hb dX6_takes_4 rfl (lv_at hl 0 rfl) ?_
  refine va_get (D := D) (ci := 6) (v := .ref on) (C := RX6) (T := TX6) (N := 14) hx hb ht hiX6 hown hK hP 0 rfl rfl 0 (by decide) (ht _ wb765) (fun _ h9 => h9) rfl dX6_takes_5 ?_
  refine lv_bipush (v := 32) hx hb dX6_takes_8 (by decide) ?_
  refine lv_aload_n hx hb dX6_takes_10 rfl (lv_at hl 0 rfl) ?_
  refine va_get (D := D) (ci := 6) (v := .ref on) (C := RX6) (T := TX6) (N := 14) hx hb ht hiX6 hown hK hP 0 rfl rfl 0 (by decide) (ht _ wb765) (fun _ h9 => h9) rfl dX6_takes_11 ?_
  refine lv_sipush (v := 165) hx hb dX6_takes_14 (by decide) ?_
  obtain ⟨hi1, h⟩ := zg h
  refine va_iald hx hb hK hP 1 0 rfl rfl hi1 dX6_takes_17 ?_
  obtain ⟨hi2, h⟩ := zg h
  refine va_iast hx hb hK hP hD hS 1 0 rfl rfl hi2 dX6_takes_18 (fun H locs hP hD hS => ?_)
  have hP : va_P D vwCl [(o, .inr (6, [.ref on, .ref op, .int r1.1, .ref orr, .ref ot, .int bytes, .ref oh, .ref og, .ref od, .int reading, .int at_, .int wrongAt, .int number, .long hh])), (on, .inl (k 0, 401, .inl (upd now (Int32.toNatClampNeg 32) (now (Int32.toNatClampNeg 165))))), (op, .inl (k 0, 2005, .inl r1.2))] H := hP
  have hD : va_D A [(o, .inr (6, [.ref on, .ref op, .int r1.1, .ref orr, .ref ot, .int bytes, .ref oh, .ref og, .ref od, .int reading, .int at_, .int wrongAt, .int number, .long hh])), (on, .inl (k 0, 401, .inl (upd now (Int32.toNatClampNeg 32) (now (Int32.toNatClampNeg 165))))), (op, .inl (k 0, 2005, .inl r1.2))] := hD
  refine lv_aload_n hx hb dX6_takes_19 rfl (lv_at hl 0 rfl) ?_
  refine lv_sipush (v := 166) hx hb dX6_takes_20 (by decide) ?_
  refine lv_bipush (v := 33) hx hb dX6_takes_23 (by decide) ?_
  obtain ⟨r2, h2, h⟩ := zb h
  refine zv (zrV (C := RX6) (T := TX6) (N := 14) (As := [.int 166, .int 33]) (rest := []) ⟨hx, hb, hml, hown, ht⟩ (c_X6_lays l D k o on op orr ot oh og od r1.1 bytes reading at_ wrongAt number hh (upd now (Int32.toNatClampNeg 32) (now (Int32.toNatClampNeg 165))) 166 33 fu h2 _) (cwV 2 ht (gdV wb884 wb886 wb35 wb80 wb887) rfl rfl rfl (by decide +kernel) ⟨Nat.le_of_ble_eq_true rfl, Nat.le_of_ble_eq_true rfl⟩) hK hP hD hS hA hm [0, 1] rfl rfl 0 6 rfl rfl rfl hl.1 rfl (Nat.le_of_ble_eq_true rfl) dX6_takes_25 ⟨Nat.le_refl _, Nat.le_refl _⟩) hP hD hS hA [0, 1] rfl rfl (fun H locs hP hD hS => ?_)
  have hP : va_P D vwCl [(o, .inr (6, [.ref on, .ref op, .int r1.1, .ref orr, .ref ot, .int bytes, .ref oh, .ref og, .ref od, .int reading, .int at_, .int wrongAt, .int number, .long hh])), (on, .inl (k 0, 401, .inl r2)), (op, .inl (k 0, 2005, .inl r1.2))] H := hP
  have hD : va_D A [(o, .inr (6, [.ref on, .ref op, .int r1.1, .ref orr, .ref ot, .int bytes, .ref oh, .ref og, .ref od, .int reading, .int at_, .int wrongAt, .int number, .long hh])), (on, .inl (k 0, 401, .inl r2)), (op, .inl (k 0, 2005, .inl r1.2))] := hD
  refine lv_aload_n hx hb dX6_takes_28 rfl (lv_at hl 0 rfl) ?_
  refine va_get (D := D) (ci := 6) (v := .ref on) (C := RX6) (T := TX6) (N := 14) hx hb ht hiX6 hown hK hP 0 rfl rfl 0 (by decide) (ht _ wb765) (fun _ h9 => h9) rfl dX6_takes_29 ?_
  refine lv_bipush (v := 32) hx hb dX6_takes_32 (by decide) ?_
  obtain ⟨hi3, h⟩ := zg h
  refine va_iald hx hb hK hP 1 0 rfl rfl hi3 dX6_takes_34 ?_
  obtain rfl := Option.some.inj h
  exact W.iret (v := r2 (Int32.toNatClampNeg 32)) hx hb hr (fun t ht9 hW => ⟨⟨_, (), rfl, rfl, zend ht9 hP⟩, hS.F ht9⟩) hS.2.2 dX6_takes_35
def f_X6_isOf (now : Nat → Int32) (a1 : Int32) (a2 : Int32) (a3 : Int32) : Option (Bool) :=
  if zok (a1 + a2) 401 then (if zok ((a1 + a2) + 1) 401 then ((f_X6_in  a3 (now (Int32.toNatClampNeg (a1 + a2))) (now (Int32.toNatClampNeg ((a1 + a2) + 1)))).bind fun r1 => some (r1)) else none) else none
abbrev wk_X6_isOf : List Cond := Cond.code yX6_isOf cX6_isOf 4 (some .boolean) :: WB
abbrev rm_X6_isOf : Room := { frames := 1, cells := 0, slots := 0, locals := 22 }
set_option maxHeartbeats 4000000 in
set_option maxRecDepth 100000 in
theorem c_X6_isOf (l : Launch) (D : va_G) (k : Nat → Nat) (o on op orr ot oh og od : Nat) (states : Int32) (bytes : Int32) (reading : Int32) (at_ : Int32) (wrongAt : Int32) (number : Int32) (hh : Int64) (now : Nat → Int32) (a1 : Int32) (a2 : Int32) (a3 : Int32) {res : Bool} (h : f_X6_isOf now a1 a2 a3 = some res) : Ci l yX6_isOf wk_X6_isOf rm_X6_isOf D k [.ref o, .int a1, .int a2, .int a3] [(o, .inr (6, [.ref on, .ref op, .int states, .ref orr, .ref ot, .int bytes, .ref oh, .ref og, .ref od, .int reading, .int at_, .int wrongAt, .int number, .long hh])), (on, .inl (k 0, 401, .inl now))] [(o, .inr (6, [.ref on, .ref op, .int states, .ref orr, .ref ot, .int bytes, .ref oh, .ref og, .ref od, .int reading, .int at_, .int wrongAt, .int number, .long hh])), (on, .inl (k 0, 401, .inl now))] (zB res) := by
  unfold Ci
  intro sz
  refine Met.ofW (cc := cX6_isOf) (maxL := 4) (ret := (some .boolean)) (by decide) rfl ?_
  intro p e s m args below meth c s₁ B hml hv
  obtain ⟨rfl, hsz, hP, hK, hD0, hm⟩ := hv
  have hx := B.exec
  have hb := B.bytes
  have hr := B.returns
  have ht : ∀ w ∈ WB, w.before _ s = true := fun w hw => atoms_spec (ws := wk_X6_isOf) B.pre w (List.mem_cons_of_mem _ hw)
  have hown : s.vm.findClass RX6 = some m.cls := findClass_of_methodNamed B.named
  have hlocks := B.notSynchronized
  subst hsz
  have hD := hD0.self (sz := s.heap.size)
  generalize hAe : va_A [(o, .inr (6, [.ref on, .ref op, .int states, .ref orr, .ref ot, .int bytes, .ref oh, .ref og, .ref od, .int reading, .int at_, .int wrongAt, .int number, .long hh])), (on, .inl (k 0, 401, .inl now))] s.heap.size = A at hD hm ⊢
  have hA : ∀ q : Nat, s.heap.size ≤ q → A q := fun q h => by rw [← hAe]; exact Or.inr h
  have hS : va_S A s.heap s.heap [] := va_S.rf
  have hl := lv_entry ([.ref o, .int a1, .int a2, .int a3]) (n := 4) (Nat.le_of_ble_eq_true rfl)
  rw [lg_entry_eq]
  generalize (lg_sl ([.ref o, .int a1, .int a2, .int a3]) ++ List.replicate (4 - (lg_sl ([.ref o, .int a1, .int a2, .int a3])).length) Slot.unset).toArray = ls at hl ⊢
  have hl : lv_has ls 4 [(0, .ref o), (1, .int a1), (2, .int a2), (3, .int a3)] := hl
  obtain ⟨H, hH⟩ : ∃ H, H = s.heap := ⟨_, rfl⟩
  rw [← hH] at hP
  have hS : va_S A s.heap H [] := by rw [hH]; exact hS
  suffices hgo : W p l e _ s m _ below meth c H [] 0 0 _ _ by rw [hH] at hgo; exact hgo
  unfold f_X6_isOf at h
  refine lv_iload_n hx hb dX6_isOf_0 rfl (lv_at hl 3 rfl) ?_
  refine lv_aload_n hx hb dX6_isOf_1 rfl (lv_at hl 0 rfl) ?_
  refine va_get (D := D) (ci := 6) (v := .ref on) (C := RX6) (T := TX6) (N := 14) hx hb ht hiX6 hown hK hP 0 rfl rfl 0 (by decide) (ht _ wb765) (fun _ h9 => h9) rfl dX6_isOf_2 ?_
  refine lv_iload_n hx hb dX6_isOf_5 rfl (lv_at hl 1 rfl) ?_
  refine lv_iload_n hx hb dX6_isOf_6 rfl (lv_at hl 2 rfl) ?_
  refine lv_iadd hx hb dX6_isOf_7 ?_
  obtain ⟨hi1, h⟩ := zg h
  refine va_iald hx hb hK hP 1 0 rfl rfl hi1 dX6_isOf_8 ?_
  refine lv_aload_n hx hb dX6_isOf_9 rfl (lv_at hl 0 rfl) ?_
  refine va_get (D := D) (ci := 6) (v := .ref on) (C := RX6) (T := TX6) (N := 14) hx hb ht hiX6 hown hK hP 0 rfl rfl 0 (by decide) (ht _ wb765) (fun _ h9 => h9) rfl dX6_isOf_10 ?_
  refine lv_iload_n hx hb dX6_isOf_13 rfl (lv_at hl 1 rfl) ?_
  refine lv_iload_n hx hb dX6_isOf_14 rfl (lv_at hl 2 rfl) ?_
  refine lv_iadd hx hb dX6_isOf_15 ?_
  refine lv_iconst (v := 1) hx hb dX6_isOf_16 (by decide) ?_
  refine lv_iadd hx hb dX6_isOf_17 ?_
  obtain ⟨hi2, h⟩ := zg h
  refine va_iald hx hb hK hP 1 0 rfl rfl hi2 dX6_isOf_18 ?_
  obtain ⟨r1, h1, h⟩ := zb h
  refine zi (zrS (As := [.int a3, .int (now (Int32.toNatClampNeg (a1 + a2))), .int (now (Int32.toNatClampNeg ((a1 + a2) + 1)))]) (rest := []) ⟨hx, hb, hml, hown, ht⟩ (c_X6_in l D k   a3 (now (Int32.toNatClampNeg (a1 + a2))) (now (Int32.toNatClampNeg ((a1 + a2) + 1))) h1 _) (va_cwS 3 ht (gdS wb820 wb821 wb80 wb822) rfl rfl rfl (by decide +kernel) ⟨Nat.le_of_ble_eq_true rfl, Nat.le_of_ble_eq_true rfl⟩) hK hP hD hS hA hm [] rfl rfl rfl hl.1 rfl (Nat.le_of_ble_eq_true rfl) dX6_isOf_19 ⟨Nat.le_refl _, Nat.le_refl _⟩) hP hD hS hA [] rfl rfl (fun H locs hP hD hS => ?_)
  have hP : va_P D vwCl [(o, .inr (6, [.ref on, .ref op, .int states, .ref orr, .ref ot, .int bytes, .ref oh, .ref og, .ref od, .int reading, .int at_, .int wrongAt, .int number, .long hh])), (on, .inl (k 0, 401, .inl now))] H := hP
  have hD : va_D A [(o, .inr (6, [.ref on, .ref op, .int states, .ref orr, .ref ot, .int bytes, .ref oh, .ref og, .ref od, .int reading, .int at_, .int wrongAt, .int number, .long hh])), (on, .inl (k 0, 401, .inl now))] := hD
  obtain rfl := Option.some.inj h
  exact W.zret (v := zB r1) (ty := .boolean) hx hb hr (zB_nar _) (fun t ht9 hW => ⟨⟨_, (), rfl, rfl, zend ht9 hP⟩, hS.F ht9⟩) hS.2.2 dX6_isOf_22
def f_X6_isFrom (now : Nat → Int32) (a1 : Int32) (a2 : Int32) : Option (Bool) :=
  if a1 = 6 then (some (true)) else (if zok (0 + a2) 401 then (if a1 = (now (Int32.toNatClampNeg (0 + a2))) then (some (true)) else (some (false))) else none)
abbrev wk_X6_isFrom : List Cond := Cond.code yX6_isFrom cX6_isFrom 3 (some .boolean) :: WB
abbrev rm_X6_isFrom : Room := { frames := 0, cells := 0, slots := 0, locals := 0 }
set_option maxHeartbeats 4000000 in
set_option maxRecDepth 100000 in
theorem c_X6_isFrom (l : Launch) (D : va_G) (k : Nat → Nat) (o on op orr ot oh og od : Nat) (states : Int32) (bytes : Int32) (reading : Int32) (at_ : Int32) (wrongAt : Int32) (number : Int32) (hh : Int64) (now : Nat → Int32) (a1 : Int32) (a2 : Int32) {res : Bool} (h : f_X6_isFrom now a1 a2 = some res) : Ci l yX6_isFrom wk_X6_isFrom rm_X6_isFrom D k [.ref o, .int a1, .int a2] [(o, .inr (6, [.ref on, .ref op, .int states, .ref orr, .ref ot, .int bytes, .ref oh, .ref og, .ref od, .int reading, .int at_, .int wrongAt, .int number, .long hh])), (on, .inl (k 0, 401, .inl now))] [(o, .inr (6, [.ref on, .ref op, .int states, .ref orr, .ref ot, .int bytes, .ref oh, .ref og, .ref od, .int reading, .int at_, .int wrongAt, .int number, .long hh])), (on, .inl (k 0, 401, .inl now))] (zB res) := by
  unfold Ci
  intro sz
  refine Met.ofW (cc := cX6_isFrom) (maxL := 3) (ret := (some .boolean)) (by decide) rfl ?_
  intro p e s m args below meth c s₁ B hml hv
  obtain ⟨rfl, hsz, hP, hK, hD0, hm⟩ := hv
  have hx := B.exec
  have hb := B.bytes
  have hr := B.returns
  have ht : ∀ w ∈ WB, w.before _ s = true := fun w hw => atoms_spec (ws := wk_X6_isFrom) B.pre w (List.mem_cons_of_mem _ hw)
  have hown : s.vm.findClass RX6 = some m.cls := findClass_of_methodNamed B.named
  have hlocks := B.notSynchronized
  subst hsz
  have hD := hD0.self (sz := s.heap.size)
  generalize hAe : va_A [(o, .inr (6, [.ref on, .ref op, .int states, .ref orr, .ref ot, .int bytes, .ref oh, .ref og, .ref od, .int reading, .int at_, .int wrongAt, .int number, .long hh])), (on, .inl (k 0, 401, .inl now))] s.heap.size = A at hD hm ⊢
  have hA : ∀ q : Nat, s.heap.size ≤ q → A q := fun q h => by rw [← hAe]; exact Or.inr h
  have hS : va_S A s.heap s.heap [] := va_S.rf
  have hl := lv_entry ([.ref o, .int a1, .int a2]) (n := 3) (Nat.le_of_ble_eq_true rfl)
  rw [lg_entry_eq]
  generalize (lg_sl ([.ref o, .int a1, .int a2]) ++ List.replicate (3 - (lg_sl ([.ref o, .int a1, .int a2])).length) Slot.unset).toArray = ls at hl ⊢
  have hl : lv_has ls 3 [(0, .ref o), (1, .int a1), (2, .int a2)] := hl
  obtain ⟨H, hH⟩ : ∃ H, H = s.heap := ⟨_, rfl⟩
  rw [← hH] at hP
  have hS : va_S A s.heap H [] := by rw [hH]; exact hS
  suffices hgo : W p l e _ s m _ below meth c H [] 0 0 _ _ by rw [hH] at hgo; exact hgo
  unfold f_X6_isFrom at h
  refine lv_iload_n hx hb dX6_isFrom_0 rfl (lv_at hl 1 rfl) ?_
  refine lv_bipush (v := 6) hx hb dX6_isFrom_1 (by decide) ?_
  refine lv_icmp_eq (tgt := 18) hx hb dX6_isFrom_3 (by decide) (fun c2 => ?_) (fun c2 => ?_)
  · have h := zt h c2
    refine lv_iconst (v := 1) hx hb dX6_isFrom_18 (by decide) ?_
    refine lv_goto (tgt := 23) hx hb dX6_isFrom_19 (by decide) ?_
    obtain rfl := Option.some.inj h
    exact W.zret (v := 1) (ty := .boolean) hx hb hr (rfl) (fun t ht9 hW => ⟨⟨_, (), rfl, rfl, zend ht9 hP⟩, hS.F ht9⟩) hS.2.2 dX6_isFrom_23
  · have h := zf h c2
    refine lv_iload_n hx hb dX6_isFrom_6 rfl (lv_at hl 1 rfl) ?_
    refine lv_aload_n hx hb dX6_isFrom_7 rfl (lv_at hl 0 rfl) ?_
    refine va_get (D := D) (ci := 6) (v := .ref on) (C := RX6) (T := TX6) (N := 14) hx hb ht hiX6 hown hK hP 0 rfl rfl 0 (by decide) (ht _ wb765) (fun _ h9 => h9) rfl dX6_isFrom_8 ?_
    refine lv_iconst (v := 0) hx hb dX6_isFrom_11 (by decide) ?_
    refine lv_iload_n hx hb dX6_isFrom_12 rfl (lv_at hl 2 rfl) ?_
    refine lv_iadd hx hb dX6_isFrom_13 ?_
    obtain ⟨hi1, h⟩ := zg h
    refine va_iald hx hb hK hP 1 0 rfl rfl hi1 dX6_isFrom_14 ?_
    refine lv_icmp_ne (tgt := 22) hx hb dX6_isFrom_15 (by decide) (fun c1 => ?_) (fun c1 => ?_)
    · have h := zf h c1
      refine lv_iconst (v := 0) hx hb dX6_isFrom_22 (by decide) ?_
      obtain rfl := Option.some.inj h
      exact W.zret (v := 0) (ty := .boolean) hx hb hr (rfl) (fun t ht9 hW => ⟨⟨_, (), rfl, rfl, zend ht9 hP⟩, hS.F ht9⟩) hS.2.2 dX6_isFrom_23
    · have h := zt h c1
      refine lv_iconst (v := 1) hx hb dX6_isFrom_18 (by decide) ?_
      refine lv_goto (tgt := 23) hx hb dX6_isFrom_19 (by decide) ?_
      obtain rfl := Option.some.inj h
      exact W.zret (v := 1) (ty := .boolean) hx hb hr (rfl) (fun t ht9 hW => ⟨⟨_, (), rfl, rfl, zend ht9 hP⟩, hS.F ht9⟩) hS.2.2 dX6_isFrom_23
def f_X6_findsFitting_L3 (fu : Nat) (K : Int32 → (Nat → Int32) → Option ((Nat → Int32))) (v3 : Int32) : Nat → Int32 → (Nat → Int32) → Option ((Nat → Int32))
  | 0, _, _ => none
  | n + 1, v4, fitting =>
  if 82 ≤ v4 then (K v4 fitting) else (if zok (v3 + v4) 164 then (f_X6_findsFitting_L3 fu K v3 n (v4 + 1) (upd fitting (Int32.toNatClampNeg (v3 + v4)) 0)) else none)
def f_X6_findsFitting_L47 (fu : Nat) (K : Int32 → (Nat → Int32) → Option ((Nat → Int32))) (v3 : Int32) (v4 : Int32) (v5 : Int32) (now : Nat → Int32) : Nat → Int32 → (Nat → Int32) → Option ((Nat → Int32))
  | 0, _, _ => none
  | n + 1, v6, fitting =>
  if 32 ≤ v6 then (K v6 fitting) else (if zok (v3 + v6) 164 then (if zok (v5 + 0) 401 then ((f_X6_isFrom now (now (Int32.toNatClampNeg (v5 + 0))) v6).bind fun r1 => if (zB r1) = 0 then (if zok (v3 + v6) 164 then (if zok ((v3 + 32) + v6) 164 then (if zok (v5 + 1) 401 then ((f_X6_isFrom now (now (Int32.toNatClampNeg (v5 + 1))) v6).bind fun r2 => if (zB r2) = 0 then (if zok ((v3 + 32) + v6) 164 then (f_X6_findsFitting_L47 fu K v3 v4 v5 now n (v6 + 1) (upd (upd fitting (Int32.toNatClampNeg (v3 + v6)) ((fitting (Int32.toNatClampNeg (v3 + v6))) ||| 0)) (Int32.toNatClampNeg ((v3 + 32) + v6)) (((upd fitting (Int32.toNatClampNeg (v3 + v6)) ((fitting (Int32.toNatClampNeg (v3 + v6))) ||| 0)) (Int32.toNatClampNeg ((v3 + 32) + v6))) ||| 0))) else none) else ((f_X6_isOf now v5 4 v6).bind fun r3 => if (zB r3) = 0 then (if zok ((v3 + 32) + v6) 164 then (f_X6_findsFitting_L47 fu K v3 v4 v5 now n (v6 + 1) (upd (upd fitting (Int32.toNatClampNeg (v3 + v6)) ((fitting (Int32.toNatClampNeg (v3 + v6))) ||| 0)) (Int32.toNatClampNeg ((v3 + 32) + v6)) (((upd fitting (Int32.toNatClampNeg (v3 + v6)) ((fitting (Int32.toNatClampNeg (v3 + v6))) ||| 0)) (Int32.toNatClampNeg ((v3 + 32) + v6))) ||| 0))) else none) else (if zok ((v3 + 32) + v6) 164 then (f_X6_findsFitting_L47 fu K v3 v4 v5 now n (v6 + 1) (upd (upd fitting (Int32.toNatClampNeg (v3 + v6)) ((fitting (Int32.toNatClampNeg (v3 + v6))) ||| 0)) (Int32.toNatClampNeg ((v3 + 32) + v6)) (((upd fitting (Int32.toNatClampNeg (v3 + v6)) ((fitting (Int32.toNatClampNeg (v3 + v6))) ||| 0)) (Int32.toNatClampNeg ((v3 + 32) + v6))) ||| (1 <<< (v4 &&& 31))))) else none))) else none) else none) else none) else ((f_X6_isOf now v5 2 v6).bind fun r4 => if (zB r4) = 0 then (if zok (v3 + v6) 164 then (if zok ((v3 + 32) + v6) 164 then (if zok (v5 + 1) 401 then ((f_X6_isFrom now (now (Int32.toNatClampNeg (v5 + 1))) v6).bind fun r5 => if (zB r5) = 0 then (if zok ((v3 + 32) + v6) 164 then (f_X6_findsFitting_L47 fu K v3 v4 v5 now n (v6 + 1) (upd (upd fitting (Int32.toNatClampNeg (v3 + v6)) ((fitting (Int32.toNatClampNeg (v3 + v6))) ||| 0)) (Int32.toNatClampNeg ((v3 + 32) + v6)) (((upd fitting (Int32.toNatClampNeg (v3 + v6)) ((fitting (Int32.toNatClampNeg (v3 + v6))) ||| 0)) (Int32.toNatClampNeg ((v3 + 32) + v6))) ||| 0))) else none) else ((f_X6_isOf now v5 4 v6).bind fun r6 => if (zB r6) = 0 then (if zok ((v3 + 32) + v6) 164 then (f_X6_findsFitting_L47 fu K v3 v4 v5 now n (v6 + 1) (upd (upd fitting (Int32.toNatClampNeg (v3 + v6)) ((fitting (Int32.toNatClampNeg (v3 + v6))) ||| 0)) (Int32.toNatClampNeg ((v3 + 32) + v6)) (((upd fitting (Int32.toNatClampNeg (v3 + v6)) ((fitting (Int32.toNatClampNeg (v3 + v6))) ||| 0)) (Int32.toNatClampNeg ((v3 + 32) + v6))) ||| 0))) else none) else (if zok ((v3 + 32) + v6) 164 then (f_X6_findsFitting_L47 fu K v3 v4 v5 now n (v6 + 1) (upd (upd fitting (Int32.toNatClampNeg (v3 + v6)) ((fitting (Int32.toNatClampNeg (v3 + v6))) ||| 0)) (Int32.toNatClampNeg ((v3 + 32) + v6)) (((upd fitting (Int32.toNatClampNeg (v3 + v6)) ((fitting (Int32.toNatClampNeg (v3 + v6))) ||| 0)) (Int32.toNatClampNeg ((v3 + 32) + v6))) ||| (1 <<< (v4 &&& 31))))) else none))) else none) else none) else none) else (if zok (v3 + v6) 164 then (if zok ((v3 + 32) + v6) 164 then (if zok (v5 + 1) 401 then ((f_X6_isFrom now (now (Int32.toNatClampNeg (v5 + 1))) v6).bind fun r7 => if (zB r7) = 0 then (if zok ((v3 + 32) + v6) 164 then (f_X6_findsFitting_L47 fu K v3 v4 v5 now n (v6 + 1) (upd (upd fitting (Int32.toNatClampNeg (v3 + v6)) ((fitting (Int32.toNatClampNeg (v3 + v6))) ||| (1 <<< (v4 &&& 31)))) (Int32.toNatClampNeg ((v3 + 32) + v6)) (((upd fitting (Int32.toNatClampNeg (v3 + v6)) ((fitting (Int32.toNatClampNeg (v3 + v6))) ||| (1 <<< (v4 &&& 31)))) (Int32.toNatClampNeg ((v3 + 32) + v6))) ||| 0))) else none) else ((f_X6_isOf now v5 4 v6).bind fun r8 => if (zB r8) = 0 then (if zok ((v3 + 32) + v6) 164 then (f_X6_findsFitting_L47 fu K v3 v4 v5 now n (v6 + 1) (upd (upd fitting (Int32.toNatClampNeg (v3 + v6)) ((fitting (Int32.toNatClampNeg (v3 + v6))) ||| (1 <<< (v4 &&& 31)))) (Int32.toNatClampNeg ((v3 + 32) + v6)) (((upd fitting (Int32.toNatClampNeg (v3 + v6)) ((fitting (Int32.toNatClampNeg (v3 + v6))) ||| (1 <<< (v4 &&& 31)))) (Int32.toNatClampNeg ((v3 + 32) + v6))) ||| 0))) else none) else (if zok ((v3 + 32) + v6) 164 then (f_X6_findsFitting_L47 fu K v3 v4 v5 now n (v6 + 1) (upd (upd fitting (Int32.toNatClampNeg (v3 + v6)) ((fitting (Int32.toNatClampNeg (v3 + v6))) ||| (1 <<< (v4 &&& 31)))) (Int32.toNatClampNeg ((v3 + 32) + v6)) (((upd fitting (Int32.toNatClampNeg (v3 + v6)) ((fitting (Int32.toNatClampNeg (v3 + v6))) ||| (1 <<< (v4 &&& 31)))) (Int32.toNatClampNeg ((v3 + 32) + v6))) ||| (1 <<< (v4 &&& 31))))) else none))) else none) else none) else none))) else none) else none)
def f_X6_findsFitting_L166 (fu : Nat) (K : Int32 → (Nat → Int32) → Option ((Nat → Int32))) (v3 : Int32) (v4 : Int32) (v5 : Int32) (now : Nat → Int32) : Nat → Int32 → (Nat → Int32) → Option ((Nat → Int32))
  | 0, _, _ => none
  | n + 1, v6, fitting =>
  if 16 ≤ v6 then (K v6 fitting) else (if zok ((v3 + 64) + v6) 164 then ((f_X6_isOf now v5 6 v6).bind fun r9 => if (zB r9) = 0 then (if zok ((v3 + 64) + v6) 164 then (f_X6_findsFitting_L166 fu K v3 v4 v5 now n (v6 + 1) (upd fitting (Int32.toNatClampNeg ((v3 + 64) + v6)) ((fitting (Int32.toNatClampNeg ((v3 + 64) + v6))) ||| 0))) else none) else (if zok ((v3 + 64) + v6) 164 then (f_X6_findsFitting_L166 fu K v3 v4 v5 now n (v6 + 1) (upd fitting (Int32.toNatClampNeg ((v3 + 64) + v6)) ((fitting (Int32.toNatClampNeg ((v3 + 64) + v6))) ||| (1 <<< (v4 &&& 31))))) else none)) else none)
def f_X6_findsFitting_L218 (fu : Nat) (K : Int32 → (Nat → Int32) → Option ((Nat → Int32))) (v3 : Int32) (v4 : Int32) (v5 : Int32) (now : Nat → Int32) : Nat → Int32 → (Nat → Int32) → Option ((Nat → Int32))
  | 0, _, _ => none
  | n + 1, v6, fitting =>
  if 2 ≤ v6 then (K v6 fitting) else (if zok ((v3 + 80) + v6) 164 then (if zok (v5 + 8) 401 then (if (now (Int32.toNatClampNeg (v5 + 8))) = 2 then (if zok ((v3 + 80) + v6) 164 then (f_X6_findsFitting_L218 fu K v3 v4 v5 now n (v6 + 1) (upd fitting (Int32.toNatClampNeg ((v3 + 80) + v6)) ((fitting (Int32.toNatClampNeg ((v3 + 80) + v6))) ||| (1 <<< (v4 &&& 31))))) else none) else (if zok (v5 + 8) 401 then (if (now (Int32.toNatClampNeg (v5 + 8))) = v6 then (if zok ((v3 + 80) + v6) 164 then (f_X6_findsFitting_L218 fu K v3 v4 v5 now n (v6 + 1) (upd fitting (Int32.toNatClampNeg ((v3 + 80) + v6)) ((fitting (Int32.toNatClampNeg ((v3 + 80) + v6))) ||| (1 <<< (v4 &&& 31))))) else none) else (if zok ((v3 + 80) + v6) 164 then (f_X6_findsFitting_L218 fu K v3 v4 v5 now n (v6 + 1) (upd fitting (Int32.toNatClampNeg ((v3 + 80) + v6)) ((fitting (Int32.toNatClampNeg ((v3 + 80) + v6))) ||| 0))) else none)) else none)) else none) else none)
def f_X6_findsFitting_L29 (fu : Nat) (K : Int32 → (Nat → Int32) → Option ((Nat → Int32))) (v1 : Int32) (v2 : Int32) (v3 : Int32) (now : Nat → Int32) : Nat → Int32 → (Nat → Int32) → Option ((Nat → Int32))
  | 0, _, _ => none
  | n + 1, v4, fitting =>
  if v2 ≤ v4 then (K v4 fitting) else (f_X6_findsFitting_L47 fu (fun (x3 : Int32) (x4 : Nat → Int32) => f_X6_findsFitting_L166 fu (fun (x5 : Int32) (x6 : Nat → Int32) => f_X6_findsFitting_L218 fu (fun (x7 : Int32) (x8 : Nat → Int32) => f_X6_findsFitting_L29 fu K v1 v2 v3 now n (v4 + 1) x8) v3 v4 (v1 + (11 * v4)) now fu 0 x6) v3 v4 (v1 + (11 * v4)) now fu 0 x4) v3 v4 (v1 + (11 * v4)) now fu 0 fitting)
def f_X6_findsFitting (fu : Nat) (now : Nat → Int32) (fitting : Nat → Int32) (a1 : Int32) (a2 : Int32) (a3 : Int32) : Option ((Nat → Int32)) :=
  f_X6_findsFitting_L3 fu (fun (x1 : Int32) (x2 : Nat → Int32) => f_X6_findsFitting_L29 fu (fun (x9 : Int32) (x10 : Nat → Int32) => some (x10)) a1 a2 a3 now fu 0 x2) a3 fu 0 fitting
abbrev wk_X6_findsFitting : List Cond := Cond.code yX6_findsFitting cX6_findsFitting 7 none :: WB
abbrev rm_X6_findsFitting : Room := { frames := 2, cells := 0, slots := 0, locals := 45 }
set_option maxHeartbeats 4000000 in
set_option maxRecDepth 100000 in
theorem c_X6_findsFitting (l : Launch) (D : va_G) (k : Nat → Nat) (o on op orr ot oh og od : Nat) (states : Int32) (bytes : Int32) (reading : Int32) (at_ : Int32) (wrongAt : Int32) (number : Int32) (hh : Int64) (now : Nat → Int32) (fitting : Nat → Int32) (a1 : Int32) (a2 : Int32) (a3 : Int32) (fu : Nat) {res : (Nat → Int32)} (h : f_X6_findsFitting fu now fitting a1 a2 a3 = some res) : Cv l yX6_findsFitting wk_X6_findsFitting rm_X6_findsFitting D k [.ref o, .int a1, .int a2, .int a3] [(o, .inr (6, [.ref on, .ref op, .int states, .ref orr, .ref ot, .int bytes, .ref oh, .ref og, .ref od, .int reading, .int at_, .int wrongAt, .int number, .long hh])), (on, .inl (k 0, 401, .inl now)), (og, .inl (k 0, 164, .inl fitting))] [(o, .inr (6, [.ref on, .ref op, .int states, .ref orr, .ref ot, .int bytes, .ref oh, .ref og, .ref od, .int reading, .int at_, .int wrongAt, .int number, .long hh])), (on, .inl (k 0, 401, .inl now)), (og, .inl (k 0, 164, .inl res))] := by
  unfold Cv
  intro sz
  refine Met.ofW (cc := cX6_findsFitting) (maxL := 7) (ret := none) (by decide) rfl ?_
  intro p e s m args below meth c s₁ B hml hv
  obtain ⟨rfl, hsz, hP, hK, hD0, hm⟩ := hv
  have hx := B.exec
  have hb := B.bytes
  have hr := B.returns
  have ht : ∀ w ∈ WB, w.before _ s = true := fun w hw => atoms_spec (ws := wk_X6_findsFitting) B.pre w (List.mem_cons_of_mem _ hw)
  have hown : s.vm.findClass RX6 = some m.cls := findClass_of_methodNamed B.named
  have hlocks := B.notSynchronized
  subst hsz
  have hD := hD0.self (sz := s.heap.size)
  generalize hAe : va_A [(o, .inr (6, [.ref on, .ref op, .int states, .ref orr, .ref ot, .int bytes, .ref oh, .ref og, .ref od, .int reading, .int at_, .int wrongAt, .int number, .long hh])), (on, .inl (k 0, 401, .inl now)), (og, .inl (k 0, 164, .inl fitting))] s.heap.size = A at hD hm ⊢
  have hA : ∀ q : Nat, s.heap.size ≤ q → A q := fun q h => by rw [← hAe]; exact Or.inr h
  have hS : va_S A s.heap s.heap [] := va_S.rf
  have hl := lv_entry ([.ref o, .int a1, .int a2, .int a3]) (n := 7) (Nat.le_of_ble_eq_true rfl)
  rw [lg_entry_eq]
  generalize (lg_sl ([.ref o, .int a1, .int a2, .int a3]) ++ List.replicate (7 - (lg_sl ([.ref o, .int a1, .int a2, .int a3])).length) Slot.unset).toArray = ls at hl ⊢
  have hl : lv_has ls 7 [(0, .ref o), (1, .int a1), (2, .int a2), (3, .int a3)] := hl
  obtain ⟨H, hH⟩ : ∃ H, H = s.heap := ⟨_, rfl⟩
  rw [← hH] at hP
  have hS : va_S A s.heap H [] := by rw [hH]; exact hS
  suffices hgo : W p l e _ s m _ below meth c H [] 0 0 _ _ by rw [hH] at hgo; exact hgo
  unfold f_X6_findsFitting at h
  refine lv_iconst (v := 0) hx hb dX6_findsFitting_0 (by decide) ?_
  refine lv_istore (lv' := [(4, .int 0), (0, .ref o), (1, .int a1), (2, .int a2), (3, .int a3)]) hx hb dX6_findsFitting_1 hl (by decide) rfl (fun ls hl => ?_)
  have loop3 : ∀ (v1 : Int32) (v2 : Int32) (v3 : Int32) (states : Int32) (bytes : Int32) (reading : Int32) (at_ : Int32) (wrongAt : Int32) (number : Int32) (hh : Int64) (now : Nat → Int32), ∀ (K : Int32 → (Nat → Int32) → Option ((Nat → Int32))), (∀ (v4 : Int32) (fitting : Nat → Int32), K v4 fitting = some res → ∀ (H : Heap) (locs : List Loc), va_P D vwCl [(o, .inr (6, [.ref on, .ref op, .int states, .ref orr, .ref ot, .int bytes, .ref oh, .ref og, .ref od, .int reading, .int at_, .int wrongAt, .int number, .long hh])), (on, .inl (k 0, 401, .inl now)), (og, .inl (k 0, 164, .inl fitting))] H → va_D A [(o, .inr (6, [.ref on, .ref op, .int states, .ref orr, .ref ot, .int bytes, .ref oh, .ref og, .ref od, .int reading, .int at_, .int wrongAt, .int number, .long hh])), (on, .inl (k 0, 401, .inl now)), (og, .inl (k 0, 164, .inl fitting))] → va_S A s.heap H locs → ∀ ls : Array Slot, lv_has ls 7 [(0, .ref o), (1, .int v1), (2, .int v2), (3, .int v3), (4, .int v4)] → W p l e (headSpec wk_X6_findsFitting rm_X6_findsFitting).room s m ([.ref o, .int a1, .int a2, .int a3] : List Value).toArray below meth c H locs 0 0 (MQ below (va_Qv (fun (_ : Unit) => True) (fun _ tq9 => va_P D vwCl [(o, .inr (6, [.ref on, .ref op, .int states, .ref orr, .ref ot, .int bytes, .ref oh, .ref og, .ref od, .int reading, .int at_, .int wrongAt, .int number, .long hh])), (on, .inl (k 0, 401, .inl now)), (og, .inl (k 0, 164, .inl res))] tq9.heap) A) ([.ref o, .int a1, .int a2, .int a3] : List Value).toArray s 0 0 A) (F0 m 26 ls [])) → ∀ (n : Nat) (v4 : Int32) (fitting : Nat → Int32), f_X6_findsFitting_L3 fu K v3 n v4 fitting = some res → ∀ (H : Heap) (locs : List Loc), va_P D vwCl [(o, .inr (6, [.ref on, .ref op, .int states, .ref orr, .ref ot, .int bytes, .ref oh, .ref og, .ref od, .int reading, .int at_, .int wrongAt, .int number, .long hh])), (on, .inl (k 0, 401, .inl now)), (og, .inl (k 0, 164, .inl fitting))] H → va_D A [(o, .inr (6, [.ref on, .ref op, .int states, .ref orr, .ref ot, .int bytes, .ref oh, .ref og, .ref od, .int reading, .int at_, .int wrongAt, .int number, .long hh])), (on, .inl (k 0, 401, .inl now)), (og, .inl (k 0, 164, .inl fitting))] → va_S A s.heap H locs → ∀ ls : Array Slot, lv_has ls 7 [(0, .ref o), (1, .int v1), (2, .int v2), (3, .int v3), (4, .int v4)] → W p l e (headSpec wk_X6_findsFitting rm_X6_findsFitting).room s m ([.ref o, .int a1, .int a2, .int a3] : List Value).toArray below meth c H locs 0 0 (MQ below (va_Qv (fun (_ : Unit) => True) (fun _ tq9 => va_P D vwCl [(o, .inr (6, [.ref on, .ref op, .int states, .ref orr, .ref ot, .int bytes, .ref oh, .ref og, .ref od, .int reading, .int at_, .int wrongAt, .int number, .long hh])), (on, .inl (k 0, 401, .inl now)), (og, .inl (k 0, 164, .inl res))] tq9.heap) A) ([.ref o, .int a1, .int a2, .int a3] : List Value).toArray s 0 0 A) (F0 m 3 ls []) := by
    intro v1 v2 v3 states bytes reading at_ wrongAt number hh now K hKK n
    induction n with
    | zero =>
      intro v4 fitting h
      rw [f_X6_findsFitting_L3] at h
      cases h
    | succ n ih =>
      intro v4 fitting h H locs hP hD hS ls hl
      rw [f_X6_findsFitting_L3] at h
      refine lv_iload hx hb dX6_findsFitting_3 (lv_at hl 4 rfl) ?_
      refine lv_bipush (v := 82) hx hb dX6_findsFitting_5 (by decide) ?_
      refine lv_icmp_ge (tgt := 26) hx hb dX6_findsFitting_7 (by decide) (fun c1 => ?_) (fun c1 => ?_)
      · have h := zt h c1
        exact hKK _ _ h _ _ hP hD hS _ (lv_sub hl [0, 1, 2, 3, 4] rfl)
      · have h := zf h c1
        refine lv_aload_n hx hb dX6_findsFitting_10 rfl (lv_at hl 0 rfl) ?_
        refine va_get (D := D) (ci := 6) (v := .ref og) (C := RX6) (T := TX6) (N := 14) hx hb ht hiX6 hown hK hP 0 rfl rfl 7 (by decide) (ht _ wb772) (fun _ h9 => h9) rfl dX6_findsFitting_11 ?_
        refine lv_iload_n hx hb dX6_findsFitting_14 rfl (lv_at hl 3 rfl) ?_
        refine lv_iload hx hb dX6_findsFitting_15 (lv_at hl 4 rfl) ?_
        refine lv_iadd hx hb dX6_findsFitting_17 ?_
        refine lv_iconst (v := 0) hx hb dX6_findsFitting_18 (by decide) ?_
        obtain ⟨hi1, h⟩ := zg h
        refine va_iast hx hb hK hP hD hS 2 0 rfl rfl hi1 dX6_findsFitting_19 (fun H locs hP hD hS => ?_)
        have hP : va_P D vwCl [(o, .inr (6, [.ref on, .ref op, .int states, .ref orr, .ref ot, .int bytes, .ref oh, .ref og, .ref od, .int reading, .int at_, .int wrongAt, .int number, .long hh])), (on, .inl (k 0, 401, .inl now)), (og, .inl (k 0, 164, .inl (upd fitting (Int32.toNatClampNeg (v3 + v4)) 0)))] H := hP
        have hD : va_D A [(o, .inr (6, [.ref on, .ref op, .int states, .ref orr, .ref ot, .int bytes, .ref oh, .ref og, .ref od, .int reading, .int at_, .int wrongAt, .int number, .long hh])), (on, .inl (k 0, 401, .inl now)), (og, .inl (k 0, 164, .inl (upd fitting (Int32.toNatClampNeg (v3 + v4)) 0)))] := hD
        refine lv_iinc (v := v4 + 1) (lv' := [(4, .int (v4 + 1)), (0, .ref o), (1, .int v1), (2, .int v2), (3, .int v3)]) hx hb dX6_findsFitting_20 hl (k := 4) rfl rfl (by decide) rfl (fun ls hl => ?_)
        refine lv_goto (tgt := 3) hx hb dX6_findsFitting_23 (by decide) ?_
        exact ih _ _ h _ _ hP hD hS _ (lv_sub hl [1, 2, 3, 4, 0] rfl)
  refine loop3 _ _ _ _ _ _ _ _ _ _ _ _ ?_ fu _ _ h _ _ hP hD hS _ (lv_sub hl [1, 2, 3, 4, 0] rfl)
  intro x1 x2 h H locs hP hD hS ls hl
  try dsimp only at h
  have hP : va_P D vwCl [(o, .inr (6, [.ref on, .ref op, .int states, .ref orr, .ref ot, .int bytes, .ref oh, .ref og, .ref od, .int reading, .int at_, .int wrongAt, .int number, .long hh])), (on, .inl (k 0, 401, .inl now)), (og, .inl (k 0, 164, .inl x2))] H := hP
  have hD : va_D A [(o, .inr (6, [.ref on, .ref op, .int states, .ref orr, .ref ot, .int bytes, .ref oh, .ref og, .ref od, .int reading, .int at_, .int wrongAt, .int number, .long hh])), (on, .inl (k 0, 401, .inl now)), (og, .inl (k 0, 164, .inl x2))] := hD
  have hl : lv_has ls 7 [(0, .ref o), (1, .int a1), (2, .int a2), (3, .int a3), (4, .int x1)] := hl
  refine lv_iconst (v := 0) hx hb dX6_findsFitting_26 (by decide) ?_
  refine lv_istore (lv' := [(4, .int 0), (0, .ref o), (1, .int a1), (2, .int a2), (3, .int a3)]) hx hb dX6_findsFitting_27 hl (by decide) rfl (fun ls hl => ?_)
  have loop29 : ∀ (v1 : Int32) (v2 : Int32) (v3 : Int32) (states : Int32) (bytes : Int32) (reading : Int32) (at_ : Int32) (wrongAt : Int32) (number : Int32) (hh : Int64) (now : Nat → Int32), ∀ (K : Int32 → (Nat → Int32) → Option ((Nat → Int32))), (∀ (v4 : Int32) (fitting : Nat → Int32), K v4 fitting = some res → ∀ (H : Heap) (locs : List Loc), va_P D vwCl [(o, .inr (6, [.ref on, .ref op, .int states, .ref orr, .ref ot, .int bytes, .ref oh, .ref og, .ref od, .int reading, .int at_, .int wrongAt, .int number, .long hh])), (on, .inl (k 0, 401, .inl now)), (og, .inl (k 0, 164, .inl fitting))] H → va_D A [(o, .inr (6, [.ref on, .ref op, .int states, .ref orr, .ref ot, .int bytes, .ref oh, .ref og, .ref od, .int reading, .int at_, .int wrongAt, .int number, .long hh])), (on, .inl (k 0, 401, .inl now)), (og, .inl (k 0, 164, .inl fitting))] → va_S A s.heap H locs → ∀ ls : Array Slot, lv_has ls 7 [(0, .ref o), (1, .int v1), (2, .int v2), (3, .int v3), (4, .int v4)] → W p l e (headSpec wk_X6_findsFitting rm_X6_findsFitting).room s m ([.ref o, .int a1, .int a2, .int a3] : List Value).toArray below meth c H locs 0 0 (MQ below (va_Qv (fun (_ : Unit) => True) (fun _ tq9 => va_P D vwCl [(o, .inr (6, [.ref on, .ref op, .int states, .ref orr, .ref ot, .int bytes, .ref oh, .ref og, .ref od, .int reading, .int at_, .int wrongAt, .int number, .long hh])), (on, .inl (k 0, 401, .inl now)), (og, .inl (k 0, 164, .inl res))] tq9.heap) A) ([.ref o, .int a1, .int a2, .int a3] : List Value).toArray s 0 0 A) (F0 m 288 ls [])) → ∀ (n : Nat) (v4 : Int32) (fitting : Nat → Int32), f_X6_findsFitting_L29 fu K v1 v2 v3 now n v4 fitting = some res → ∀ (H : Heap) (locs : List Loc), va_P D vwCl [(o, .inr (6, [.ref on, .ref op, .int states, .ref orr, .ref ot, .int bytes, .ref oh, .ref og, .ref od, .int reading, .int at_, .int wrongAt, .int number, .long hh])), (on, .inl (k 0, 401, .inl now)), (og, .inl (k 0, 164, .inl fitting))] H → va_D A [(o, .inr (6, [.ref on, .ref op, .int states, .ref orr, .ref ot, .int bytes, .ref oh, .ref og, .ref od, .int reading, .int at_, .int wrongAt, .int number, .long hh])), (on, .inl (k 0, 401, .inl now)), (og, .inl (k 0, 164, .inl fitting))] → va_S A s.heap H locs → ∀ ls : Array Slot, lv_has ls 7 [(0, .ref o), (1, .int v1), (2, .int v2), (3, .int v3), (4, .int v4)] → W p l e (headSpec wk_X6_findsFitting rm_X6_findsFitting).room s m ([.ref o, .int a1, .int a2, .int a3] : List Value).toArray below meth c H locs 0 0 (MQ below (va_Qv (fun (_ : Unit) => True) (fun _ tq9 => va_P D vwCl [(o, .inr (6, [.ref on, .ref op, .int states, .ref orr, .ref ot, .int bytes, .ref oh, .ref og, .ref od, .int reading, .int at_, .int wrongAt, .int number, .long hh])), (on, .inl (k 0, 401, .inl now)), (og, .inl (k 0, 164, .inl res))] tq9.heap) A) ([.ref o, .int a1, .int a2, .int a3] : List Value).toArray s 0 0 A) (F0 m 29 ls []) := by
    intro v1 v2 v3 states bytes reading at_ wrongAt number hh now K hKK n
    induction n with
    | zero =>
      intro v4 fitting h
      rw [f_X6_findsFitting_L29] at h
      cases h
    | succ n ih =>
      intro v4 fitting h H locs hP hD hS ls hl
      rw [f_X6_findsFitting_L29] at h
      refine lv_iload hx hb dX6_findsFitting_29 (lv_at hl 4 rfl) ?_
      refine lv_iload_n hx hb dX6_findsFitting_31 rfl (lv_at hl 2 rfl) ?_
      refine lv_icmp_ge (tgt := 288) hx hb dX6_findsFitting_32 (by decide) (fun c16 => ?_) (fun c16 => ?_)
      · have h := zt h c16
        exact hKK _ _ h _ _ hP hD hS _ (lv_sub hl [0, 1, 2, 3, 4] rfl)
      · have h := zf h c16
        refine lv_iload_n hx hb dX6_findsFitting_35 rfl (lv_at hl 1 rfl) ?_
        refine lv_bipush (v := 11) hx hb dX6_findsFitting_36 (by decide) ?_
        refine lv_iload hx hb dX6_findsFitting_38 (lv_at hl 4 rfl) ?_
        refine lv_imul hx hb dX6_findsFitting_40 ?_
        refine lv_iadd hx hb dX6_findsFitting_41 ?_
        refine lv_istore (lv' := [(5, .int (v1 + (11 * v4))), (0, .ref o), (1, .int v1), (2, .int v2), (3, .int v3), (4, .int v4)]) hx hb dX6_findsFitting_42 hl (by decide) rfl (fun ls hl => ?_)
        refine lv_iconst (v := 0) hx hb dX6_findsFitting_44 (by decide) ?_
        refine lv_istore (lv' := [(6, .int 0), (5, .int (v1 + (11 * v4))), (0, .ref o), (1, .int v1), (2, .int v2), (3, .int v3), (4, .int v4)]) hx hb dX6_findsFitting_45 hl (by decide) rfl (fun ls hl => ?_)
        have loop47 : ∀ (v1 : Int32) (v2 : Int32) (v3 : Int32) (v4 : Int32) (v5 : Int32) (states : Int32) (bytes : Int32) (reading : Int32) (at_ : Int32) (wrongAt : Int32) (number : Int32) (hh : Int64) (now : Nat → Int32), ∀ (K : Int32 → (Nat → Int32) → Option ((Nat → Int32))), (∀ (v6 : Int32) (fitting : Nat → Int32), K v6 fitting = some res → ∀ (H : Heap) (locs : List Loc), va_P D vwCl [(o, .inr (6, [.ref on, .ref op, .int states, .ref orr, .ref ot, .int bytes, .ref oh, .ref og, .ref od, .int reading, .int at_, .int wrongAt, .int number, .long hh])), (on, .inl (k 0, 401, .inl now)), (og, .inl (k 0, 164, .inl fitting))] H → va_D A [(o, .inr (6, [.ref on, .ref op, .int states, .ref orr, .ref ot, .int bytes, .ref oh, .ref og, .ref od, .int reading, .int at_, .int wrongAt, .int number, .long hh])), (on, .inl (k 0, 401, .inl now)), (og, .inl (k 0, 164, .inl fitting))] → va_S A s.heap H locs → ∀ ls : Array Slot, lv_has ls 7 [(0, .ref o), (1, .int v1), (2, .int v2), (3, .int v3), (4, .int v4), (5, .int v5), (6, .int v6)] → W p l e (headSpec wk_X6_findsFitting rm_X6_findsFitting).room s m ([.ref o, .int a1, .int a2, .int a3] : List Value).toArray below meth c H locs 0 0 (MQ below (va_Qv (fun (_ : Unit) => True) (fun _ tq9 => va_P D vwCl [(o, .inr (6, [.ref on, .ref op, .int states, .ref orr, .ref ot, .int bytes, .ref oh, .ref og, .ref od, .int reading, .int at_, .int wrongAt, .int number, .long hh])), (on, .inl (k 0, 401, .inl now)), (og, .inl (k 0, 164, .inl res))] tq9.heap) A) ([.ref o, .int a1, .int a2, .int a3] : List Value).toArray s 0 0 A) (F0 m 163 ls [])) → ∀ (n : Nat) (v6 : Int32) (fitting : Nat → Int32), f_X6_findsFitting_L47 fu K v3 v4 v5 now n v6 fitting = some res → ∀ (H : Heap) (locs : List Loc), va_P D vwCl [(o, .inr (6, [.ref on, .ref op, .int states, .ref orr, .ref ot, .int bytes, .ref oh, .ref og, .ref od, .int reading, .int at_, .int wrongAt, .int number, .long hh])), (on, .inl (k 0, 401, .inl now)), (og, .inl (k 0, 164, .inl fitting))] H → va_D A [(o, .inr (6, [.ref on, .ref op, .int states, .ref orr, .ref ot, .int bytes, .ref oh, .ref og, .ref od, .int reading, .int at_, .int wrongAt, .int number, .long hh])), (on, .inl (k 0, 401, .inl now)), (og, .inl (k 0, 164, .inl fitting))] → va_S A s.heap H locs → ∀ ls : Array Slot, lv_has ls 7 [(0, .ref o), (1, .int v1), (2, .int v2), (3, .int v3), (4, .int v4), (5, .int v5), (6, .int v6)] → W p l e (headSpec wk_X6_findsFitting rm_X6_findsFitting).room s m ([.ref o, .int a1, .int a2, .int a3] : List Value).toArray below meth c H locs 0 0 (MQ below (va_Qv (fun (_ : Unit) => True) (fun _ tq9 => va_P D vwCl [(o, .inr (6, [.ref on, .ref op, .int states, .ref orr, .ref ot, .int bytes, .ref oh, .ref og, .ref od, .int reading, .int at_, .int wrongAt, .int number, .long hh])), (on, .inl (k 0, 401, .inl now)), (og, .inl (k 0, 164, .inl res))] tq9.heap) A) ([.ref o, .int a1, .int a2, .int a3] : List Value).toArray s 0 0 A) (F0 m 47 ls []) := by
          intro v1 v2 v3 v4 v5 states bytes reading at_ wrongAt number hh now K hKK n
          induction n with
          | zero =>
            intro v6 fitting h
            rw [f_X6_findsFitting_L47] at h
            cases h
          | succ n ih =>
            intro v6 fitting h H locs hP hD hS ls hl
            rw [f_X6_findsFitting_L47] at h
            refine lv_iload hx hb dX6_findsFitting_47 (lv_at hl 6 rfl) ?_
            refine lv_bipush (v := 32) hx hb dX6_findsFitting_49 (by decide) ?_
            refine lv_icmp_ge (tgt := 163) hx hb dX6_findsFitting_51 (by decide) (fun c10 => ?_) (fun c10 => ?_)
            · have h := zt h c10
              exact hKK _ _ h _ _ hP hD hS _ (lv_sub hl [0, 1, 2, 3, 4, 5, 6] rfl)
            · have h := zf h c10
              refine lv_aload_n hx hb dX6_findsFitting_54 rfl (lv_at hl 0 rfl) ?_
              refine va_get (D := D) (ci := 6) (v := .ref og) (C := RX6) (T := TX6) (N := 14) hx hb ht hiX6 hown hK hP 0 rfl rfl 7 (by decide) (ht _ wb772) (fun _ h9 => h9) rfl dX6_findsFitting_55 ?_
              refine lv_iload_n hx hb dX6_findsFitting_58 rfl (lv_at hl 3 rfl) ?_
              refine lv_iload hx hb dX6_findsFitting_59 (lv_at hl 6 rfl) ?_
              refine lv_iadd hx hb dX6_findsFitting_61 ?_
              refine lv_dup2_11 hx hb dX6_findsFitting_62 rfl rfl ?_
              obtain ⟨hi2, h⟩ := zg h
              refine va_iald hx hb hK hP 2 0 rfl rfl hi2 dX6_findsFitting_63 ?_
              refine lv_aload_n hx hb dX6_findsFitting_64 rfl (lv_at hl 0 rfl) ?_
              refine lv_aload_n hx hb dX6_findsFitting_65 rfl (lv_at hl 0 rfl) ?_
              refine va_get (D := D) (ci := 6) (v := .ref on) (C := RX6) (T := TX6) (N := 14) hx hb ht hiX6 hown hK hP 0 rfl rfl 0 (by decide) (ht _ wb765) (fun _ h9 => h9) rfl dX6_findsFitting_66 ?_
              refine lv_iload hx hb dX6_findsFitting_69 (lv_at hl 5 rfl) ?_
              refine lv_iconst (v := 0) hx hb dX6_findsFitting_71 (by decide) ?_
              refine lv_iadd hx hb dX6_findsFitting_72 ?_
              obtain ⟨hi3, h⟩ := zg h
              refine va_iald hx hb hK hP 1 0 rfl rfl hi3 dX6_findsFitting_73 ?_
              refine lv_iload hx hb dX6_findsFitting_74 (lv_at hl 6 rfl) ?_
              obtain ⟨r1, h1, h⟩ := zb h
              refine zi (zrV (C := RX6) (T := TX6) (N := 14) (As := [.int (now (Int32.toNatClampNeg (v5 + 0))), .int v6]) (rest := [.int (fitting (Int32.toNatClampNeg (v3 + v6))), .int (v3 + v6), .ref og]) ⟨hx, hb, hml, hown, ht⟩ (c_X6_isFrom l D k o on op orr ot oh og od states bytes reading at_ wrongAt number hh now (now (Int32.toNatClampNeg (v5 + 0))) v6 h1 _) (cwV 2 ht (gdV wb907 wb909 wb38 wb80 wb910) rfl rfl rfl (by decide +kernel) ⟨Nat.le_of_ble_eq_true rfl, Nat.le_of_ble_eq_true rfl⟩) hK hP hD hS hA hm [0, 1] rfl rfl 0 6 rfl rfl rfl hl.1 rfl (Nat.le_of_ble_eq_true rfl) dX6_findsFitting_76 ⟨Nat.le_refl _, Nat.le_refl _⟩) hP hD hS hA [0, 1] rfl rfl (fun H locs hP hD hS => ?_)
              have hP : va_P D vwCl [(o, .inr (6, [.ref on, .ref op, .int states, .ref orr, .ref ot, .int bytes, .ref oh, .ref og, .ref od, .int reading, .int at_, .int wrongAt, .int number, .long hh])), (on, .inl (k 0, 401, .inl now)), (og, .inl (k 0, 164, .inl fitting))] H := hP
              have hD : va_D A [(o, .inr (6, [.ref on, .ref op, .int states, .ref orr, .ref ot, .int bytes, .ref oh, .ref og, .ref od, .int reading, .int at_, .int wrongAt, .int number, .long hh])), (on, .inl (k 0, 401, .inl now)), (og, .inl (k 0, 164, .inl fitting))] := hD
              refine lv_if_eq (tgt := 101) hx hb dX6_findsFitting_79 (by decide) (fun c9 => ?_) (fun c9 => ?_)
              · have h := zt h c9
                refine lv_iconst (v := 0) hx hb dX6_findsFitting_101 (by decide) ?_
                refine lv_ior hx hb dX6_findsFitting_102 ?_
                obtain ⟨hi4, h⟩ := zg h
                refine va_iast hx hb hK hP hD hS 2 0 rfl rfl hi4 dX6_findsFitting_103 (fun H locs hP hD hS => ?_)
                have hP : va_P D vwCl [(o, .inr (6, [.ref on, .ref op, .int states, .ref orr, .ref ot, .int bytes, .ref oh, .ref og, .ref od, .int reading, .int at_, .int wrongAt, .int number, .long hh])), (on, .inl (k 0, 401, .inl now)), (og, .inl (k 0, 164, .inl (upd fitting (Int32.toNatClampNeg (v3 + v6)) ((fitting (Int32.toNatClampNeg (v3 + v6))) ||| 0))))] H := hP
                have hD : va_D A [(o, .inr (6, [.ref on, .ref op, .int states, .ref orr, .ref ot, .int bytes, .ref oh, .ref og, .ref od, .int reading, .int at_, .int wrongAt, .int number, .long hh])), (on, .inl (k 0, 401, .inl now)), (og, .inl (k 0, 164, .inl (upd fitting (Int32.toNatClampNeg (v3 + v6)) ((fitting (Int32.toNatClampNeg (v3 + v6))) ||| 0))))] := hD
                refine lv_aload_n hx hb dX6_findsFitting_104 rfl (lv_at hl 0 rfl) ?_
                refine va_get (D := D) (ci := 6) (v := .ref og) (C := RX6) (T := TX6) (N := 14) hx hb ht hiX6 hown hK hP 0 rfl rfl 7 (by decide) (ht _ wb772) (fun _ h9 => h9) rfl dX6_findsFitting_105 ?_
                refine lv_iload_n hx hb dX6_findsFitting_108 rfl (lv_at hl 3 rfl) ?_
                refine lv_bipush (v := 32) hx hb dX6_findsFitting_109 (by decide) ?_
                refine lv_iadd hx hb dX6_findsFitting_111 ?_
                refine lv_iload hx hb dX6_findsFitting_112 (lv_at hl 6 rfl) ?_
                refine lv_iadd hx hb dX6_findsFitting_114 ?_
                refine lv_dup2_11 hx hb dX6_findsFitting_115 rfl rfl ?_
                obtain ⟨hi5, h⟩ := zg h
                refine va_iald hx hb hK hP 2 0 rfl rfl hi5 dX6_findsFitting_116 ?_
                refine lv_aload_n hx hb dX6_findsFitting_117 rfl (lv_at hl 0 rfl) ?_
                refine lv_aload_n hx hb dX6_findsFitting_118 rfl (lv_at hl 0 rfl) ?_
                refine va_get (D := D) (ci := 6) (v := .ref on) (C := RX6) (T := TX6) (N := 14) hx hb ht hiX6 hown hK hP 0 rfl rfl 0 (by decide) (ht _ wb765) (fun _ h9 => h9) rfl dX6_findsFitting_119 ?_
                refine lv_iload hx hb dX6_findsFitting_122 (lv_at hl 5 rfl) ?_
                refine lv_iconst (v := 1) hx hb dX6_findsFitting_124 (by decide) ?_
                refine lv_iadd hx hb dX6_findsFitting_125 ?_
                obtain ⟨hi6, h⟩ := zg h
                refine va_iald hx hb hK hP 1 0 rfl rfl hi6 dX6_findsFitting_126 ?_
                refine lv_iload hx hb dX6_findsFitting_127 (lv_at hl 6 rfl) ?_
                obtain ⟨r2, h2, h⟩ := zb h
                refine zi (zrV (C := RX6) (T := TX6) (N := 14) (As := [.int (now (Int32.toNatClampNeg (v5 + 1))), .int v6]) (rest := [.int ((upd fitting (Int32.toNatClampNeg (v3 + v6)) ((fitting (Int32.toNatClampNeg (v3 + v6))) ||| 0)) (Int32.toNatClampNeg ((v3 + 32) + v6))), .int ((v3 + 32) + v6), .ref og]) ⟨hx, hb, hml, hown, ht⟩ (c_X6_isFrom l D k o on op orr ot oh og od states bytes reading at_ wrongAt number hh now (now (Int32.toNatClampNeg (v5 + 1))) v6 h2 _) (cwV 2 ht (gdV wb907 wb909 wb38 wb80 wb910) rfl rfl rfl (by decide +kernel) ⟨Nat.le_of_ble_eq_true rfl, Nat.le_of_ble_eq_true rfl⟩) hK hP hD hS hA hm [0, 1] rfl rfl 0 6 rfl rfl rfl hl.1 rfl (Nat.le_of_ble_eq_true rfl) dX6_findsFitting_129 ⟨Nat.le_refl _, Nat.le_refl _⟩) hP hD hS hA [0, 1] rfl rfl (fun H locs hP hD hS => ?_)
                have hP : va_P D vwCl [(o, .inr (6, [.ref on, .ref op, .int states, .ref orr, .ref ot, .int bytes, .ref oh, .ref og, .ref od, .int reading, .int at_, .int wrongAt, .int number, .long hh])), (on, .inl (k 0, 401, .inl now)), (og, .inl (k 0, 164, .inl (upd fitting (Int32.toNatClampNeg (v3 + v6)) ((fitting (Int32.toNatClampNeg (v3 + v6))) ||| 0))))] H := hP
                have hD : va_D A [(o, .inr (6, [.ref on, .ref op, .int states, .ref orr, .ref ot, .int bytes, .ref oh, .ref og, .ref od, .int reading, .int at_, .int wrongAt, .int number, .long hh])), (on, .inl (k 0, 401, .inl now)), (og, .inl (k 0, 164, .inl (upd fitting (Int32.toNatClampNeg (v3 + v6)) ((fitting (Int32.toNatClampNeg (v3 + v6))) ||| 0))))] := hD
                refine lv_if_eq (tgt := 154) hx hb dX6_findsFitting_132 (by decide) (fun c3 => ?_) (fun c3 => ?_)
                · have h := zt h c3
                  refine lv_iconst (v := 0) hx hb dX6_findsFitting_154 (by decide) ?_
                  refine lv_ior hx hb dX6_findsFitting_155 ?_
                  obtain ⟨hi7, h⟩ := zg h
                  refine va_iast hx hb hK hP hD hS 2 0 rfl rfl hi7 dX6_findsFitting_156 (fun H locs hP hD hS => ?_)
                  have hP : va_P D vwCl [(o, .inr (6, [.ref on, .ref op, .int states, .ref orr, .ref ot, .int bytes, .ref oh, .ref og, .ref od, .int reading, .int at_, .int wrongAt, .int number, .long hh])), (on, .inl (k 0, 401, .inl now)), (og, .inl (k 0, 164, .inl (upd (upd fitting (Int32.toNatClampNeg (v3 + v6)) ((fitting (Int32.toNatClampNeg (v3 + v6))) ||| 0)) (Int32.toNatClampNeg ((v3 + 32) + v6)) (((upd fitting (Int32.toNatClampNeg (v3 + v6)) ((fitting (Int32.toNatClampNeg (v3 + v6))) ||| 0)) (Int32.toNatClampNeg ((v3 + 32) + v6))) ||| 0))))] H := hP
                  have hD : va_D A [(o, .inr (6, [.ref on, .ref op, .int states, .ref orr, .ref ot, .int bytes, .ref oh, .ref og, .ref od, .int reading, .int at_, .int wrongAt, .int number, .long hh])), (on, .inl (k 0, 401, .inl now)), (og, .inl (k 0, 164, .inl (upd (upd fitting (Int32.toNatClampNeg (v3 + v6)) ((fitting (Int32.toNatClampNeg (v3 + v6))) ||| 0)) (Int32.toNatClampNeg ((v3 + 32) + v6)) (((upd fitting (Int32.toNatClampNeg (v3 + v6)) ((fitting (Int32.toNatClampNeg (v3 + v6))) ||| 0)) (Int32.toNatClampNeg ((v3 + 32) + v6))) ||| 0))))] := hD
                  refine lv_iinc (v := v6 + 1) (lv' := [(6, .int (v6 + 1)), (0, .ref o), (1, .int v1), (2, .int v2), (3, .int v3), (4, .int v4), (5, .int v5)]) hx hb dX6_findsFitting_157 hl (k := 6) rfl rfl (by decide) rfl (fun ls hl => ?_)
                  refine lv_goto (tgt := 47) hx hb dX6_findsFitting_160 (by decide) ?_
                  exact ih _ _ h _ _ hP hD hS _ (lv_sub hl [1, 2, 3, 4, 5, 6, 0] rfl)
                · have h := zf h c3
                  refine lv_aload_n hx hb dX6_findsFitting_135 rfl (lv_at hl 0 rfl) ?_
                  refine lv_iload hx hb dX6_findsFitting_136 (lv_at hl 5 rfl) ?_
                  refine lv_iconst (v := 4) hx hb dX6_findsFitting_138 (by decide) ?_
                  refine lv_iload hx hb dX6_findsFitting_139 (lv_at hl 6 rfl) ?_
                  obtain ⟨r3, h3, h⟩ := zb h
                  refine zi (zrV (C := RX6) (T := TX6) (N := 14) (As := [.int v5, .int 4, .int v6]) (rest := [.int ((upd fitting (Int32.toNatClampNeg (v3 + v6)) ((fitting (Int32.toNatClampNeg (v3 + v6))) ||| 0)) (Int32.toNatClampNeg ((v3 + 32) + v6))), .int ((v3 + 32) + v6), .ref og]) ⟨hx, hb, hml, hown, ht⟩ (c_X6_isOf l D k o on op orr ot oh og od states bytes reading at_ wrongAt number hh now v5 4 v6 h3 _) (cwV 3 ht (gdV wb911 wb913 wb39 wb80 wb914) rfl rfl rfl (by decide +kernel) ⟨Nat.le_of_ble_eq_true rfl, Nat.le_of_ble_eq_true rfl⟩) hK hP hD hS hA hm [0, 1] rfl rfl 0 6 rfl rfl rfl hl.1 rfl (Nat.le_of_ble_eq_true rfl) dX6_findsFitting_141 ⟨Nat.le_refl _, Nat.le_refl _⟩) hP hD hS hA [0, 1] rfl rfl (fun H locs hP hD hS => ?_)
                  have hP : va_P D vwCl [(o, .inr (6, [.ref on, .ref op, .int states, .ref orr, .ref ot, .int bytes, .ref oh, .ref og, .ref od, .int reading, .int at_, .int wrongAt, .int number, .long hh])), (on, .inl (k 0, 401, .inl now)), (og, .inl (k 0, 164, .inl (upd fitting (Int32.toNatClampNeg (v3 + v6)) ((fitting (Int32.toNatClampNeg (v3 + v6))) ||| 0))))] H := hP
                  have hD : va_D A [(o, .inr (6, [.ref on, .ref op, .int states, .ref orr, .ref ot, .int bytes, .ref oh, .ref og, .ref od, .int reading, .int at_, .int wrongAt, .int number, .long hh])), (on, .inl (k 0, 401, .inl now)), (og, .inl (k 0, 164, .inl (upd fitting (Int32.toNatClampNeg (v3 + v6)) ((fitting (Int32.toNatClampNeg (v3 + v6))) ||| 0))))] := hD
                  refine lv_if_eq (tgt := 154) hx hb dX6_findsFitting_144 (by decide) (fun c2 => ?_) (fun c2 => ?_)
                  · have h := zt h c2
                    refine lv_iconst (v := 0) hx hb dX6_findsFitting_154 (by decide) ?_
                    refine lv_ior hx hb dX6_findsFitting_155 ?_
                    obtain ⟨hi8, h⟩ := zg h
                    refine va_iast hx hb hK hP hD hS 2 0 rfl rfl hi8 dX6_findsFitting_156 (fun H locs hP hD hS => ?_)
                    have hP : va_P D vwCl [(o, .inr (6, [.ref on, .ref op, .int states, .ref orr, .ref ot, .int bytes, .ref oh, .ref og, .ref od, .int reading, .int at_, .int wrongAt, .int number, .long hh])), (on, .inl (k 0, 401, .inl now)), (og, .inl (k 0, 164, .inl (upd (upd fitting (Int32.toNatClampNeg (v3 + v6)) ((fitting (Int32.toNatClampNeg (v3 + v6))) ||| 0)) (Int32.toNatClampNeg ((v3 + 32) + v6)) (((upd fitting (Int32.toNatClampNeg (v3 + v6)) ((fitting (Int32.toNatClampNeg (v3 + v6))) ||| 0)) (Int32.toNatClampNeg ((v3 + 32) + v6))) ||| 0))))] H := hP
                    have hD : va_D A [(o, .inr (6, [.ref on, .ref op, .int states, .ref orr, .ref ot, .int bytes, .ref oh, .ref og, .ref od, .int reading, .int at_, .int wrongAt, .int number, .long hh])), (on, .inl (k 0, 401, .inl now)), (og, .inl (k 0, 164, .inl (upd (upd fitting (Int32.toNatClampNeg (v3 + v6)) ((fitting (Int32.toNatClampNeg (v3 + v6))) ||| 0)) (Int32.toNatClampNeg ((v3 + 32) + v6)) (((upd fitting (Int32.toNatClampNeg (v3 + v6)) ((fitting (Int32.toNatClampNeg (v3 + v6))) ||| 0)) (Int32.toNatClampNeg ((v3 + 32) + v6))) ||| 0))))] := hD
                    refine lv_iinc (v := v6 + 1) (lv' := [(6, .int (v6 + 1)), (0, .ref o), (1, .int v1), (2, .int v2), (3, .int v3), (4, .int v4), (5, .int v5)]) hx hb dX6_findsFitting_157 hl (k := 6) rfl rfl (by decide) rfl (fun ls hl => ?_)
                    refine lv_goto (tgt := 47) hx hb dX6_findsFitting_160 (by decide) ?_
                    exact ih _ _ h _ _ hP hD hS _ (lv_sub hl [1, 2, 3, 4, 5, 6, 0] rfl)
                  · have h := zf h c2
                    refine lv_iconst (v := 1) hx hb dX6_findsFitting_147 (by decide) ?_
                    refine lv_iload hx hb dX6_findsFitting_148 (lv_at hl 4 rfl) ?_
                    refine lv_ishl hx hb dX6_findsFitting_150 ?_
                    refine lv_goto (tgt := 155) hx hb dX6_findsFitting_151 (by decide) ?_
                    refine lv_ior hx hb dX6_findsFitting_155 ?_
                    obtain ⟨hi9, h⟩ := zg h
                    refine va_iast hx hb hK hP hD hS 2 0 rfl rfl hi9 dX6_findsFitting_156 (fun H locs hP hD hS => ?_)
                    have hP : va_P D vwCl [(o, .inr (6, [.ref on, .ref op, .int states, .ref orr, .ref ot, .int bytes, .ref oh, .ref og, .ref od, .int reading, .int at_, .int wrongAt, .int number, .long hh])), (on, .inl (k 0, 401, .inl now)), (og, .inl (k 0, 164, .inl (upd (upd fitting (Int32.toNatClampNeg (v3 + v6)) ((fitting (Int32.toNatClampNeg (v3 + v6))) ||| 0)) (Int32.toNatClampNeg ((v3 + 32) + v6)) (((upd fitting (Int32.toNatClampNeg (v3 + v6)) ((fitting (Int32.toNatClampNeg (v3 + v6))) ||| 0)) (Int32.toNatClampNeg ((v3 + 32) + v6))) ||| (1 <<< (v4 &&& 31))))))] H := hP
                    have hD : va_D A [(o, .inr (6, [.ref on, .ref op, .int states, .ref orr, .ref ot, .int bytes, .ref oh, .ref og, .ref od, .int reading, .int at_, .int wrongAt, .int number, .long hh])), (on, .inl (k 0, 401, .inl now)), (og, .inl (k 0, 164, .inl (upd (upd fitting (Int32.toNatClampNeg (v3 + v6)) ((fitting (Int32.toNatClampNeg (v3 + v6))) ||| 0)) (Int32.toNatClampNeg ((v3 + 32) + v6)) (((upd fitting (Int32.toNatClampNeg (v3 + v6)) ((fitting (Int32.toNatClampNeg (v3 + v6))) ||| 0)) (Int32.toNatClampNeg ((v3 + 32) + v6))) ||| (1 <<< (v4 &&& 31))))))] := hD
                    refine lv_iinc (v := v6 + 1) (lv' := [(6, .int (v6 + 1)), (0, .ref o), (1, .int v1), (2, .int v2), (3, .int v3), (4, .int v4), (5, .int v5)]) hx hb dX6_findsFitting_157 hl (k := 6) rfl rfl (by decide) rfl (fun ls hl => ?_)
                    refine lv_goto (tgt := 47) hx hb dX6_findsFitting_160 (by decide) ?_
                    exact ih _ _ h _ _ hP hD hS _ (lv_sub hl [1, 2, 3, 4, 5, 6, 0] rfl)
              · have h := zf h c9
                refine lv_aload_n hx hb dX6_findsFitting_82 rfl (lv_at hl 0 rfl) ?_
                refine lv_iload hx hb dX6_findsFitting_83 (lv_at hl 5 rfl) ?_
                refine lv_iconst (v := 2) hx hb dX6_findsFitting_85 (by decide) ?_
                refine lv_iload hx hb dX6_findsFitting_86 (lv_at hl 6 rfl) ?_
                obtain ⟨r4, h4, h⟩ := zb h
                refine zi (zrV (C := RX6) (T := TX6) (N := 14) (As := [.int v5, .int 2, .int v6]) (rest := [.int (fitting (Int32.toNatClampNeg (v3 + v6))), .int (v3 + v6), .ref og]) ⟨hx, hb, hml, hown, ht⟩ (c_X6_isOf l D k o on op orr ot oh og od states bytes reading at_ wrongAt number hh now v5 2 v6 h4 _) (cwV 3 ht (gdV wb911 wb913 wb39 wb80 wb914) rfl rfl rfl (by decide +kernel) ⟨Nat.le_of_ble_eq_true rfl, Nat.le_of_ble_eq_true rfl⟩) hK hP hD hS hA hm [0, 1] rfl rfl 0 6 rfl rfl rfl hl.1 rfl (Nat.le_of_ble_eq_true rfl) dX6_findsFitting_88 ⟨Nat.le_refl _, Nat.le_refl _⟩) hP hD hS hA [0, 1] rfl rfl (fun H locs hP hD hS => ?_)
                have hP : va_P D vwCl [(o, .inr (6, [.ref on, .ref op, .int states, .ref orr, .ref ot, .int bytes, .ref oh, .ref og, .ref od, .int reading, .int at_, .int wrongAt, .int number, .long hh])), (on, .inl (k 0, 401, .inl now)), (og, .inl (k 0, 164, .inl fitting))] H := hP
                have hD : va_D A [(o, .inr (6, [.ref on, .ref op, .int states, .ref orr, .ref ot, .int bytes, .ref oh, .ref og, .ref od, .int reading, .int at_, .int wrongAt, .int number, .long hh])), (on, .inl (k 0, 401, .inl now)), (og, .inl (k 0, 164, .inl fitting))] := hD
                refine lv_if_eq (tgt := 101) hx hb dX6_findsFitting_91 (by decide) (fun c8 => ?_) (fun c8 => ?_)
                · have h := zt h c8
                  refine lv_iconst (v := 0) hx hb dX6_findsFitting_101 (by decide) ?_
                  refine lv_ior hx hb dX6_findsFitting_102 ?_
                  obtain ⟨hi10, h⟩ := zg h
                  refine va_iast hx hb hK hP hD hS 2 0 rfl rfl hi10 dX6_findsFitting_103 (fun H locs hP hD hS => ?_)
                  have hP : va_P D vwCl [(o, .inr (6, [.ref on, .ref op, .int states, .ref orr, .ref ot, .int bytes, .ref oh, .ref og, .ref od, .int reading, .int at_, .int wrongAt, .int number, .long hh])), (on, .inl (k 0, 401, .inl now)), (og, .inl (k 0, 164, .inl (upd fitting (Int32.toNatClampNeg (v3 + v6)) ((fitting (Int32.toNatClampNeg (v3 + v6))) ||| 0))))] H := hP
                  have hD : va_D A [(o, .inr (6, [.ref on, .ref op, .int states, .ref orr, .ref ot, .int bytes, .ref oh, .ref og, .ref od, .int reading, .int at_, .int wrongAt, .int number, .long hh])), (on, .inl (k 0, 401, .inl now)), (og, .inl (k 0, 164, .inl (upd fitting (Int32.toNatClampNeg (v3 + v6)) ((fitting (Int32.toNatClampNeg (v3 + v6))) ||| 0))))] := hD
                  refine lv_aload_n hx hb dX6_findsFitting_104 rfl (lv_at hl 0 rfl) ?_
                  refine va_get (D := D) (ci := 6) (v := .ref og) (C := RX6) (T := TX6) (N := 14) hx hb ht hiX6 hown hK hP 0 rfl rfl 7 (by decide) (ht _ wb772) (fun _ h9 => h9) rfl dX6_findsFitting_105 ?_
                  refine lv_iload_n hx hb dX6_findsFitting_108 rfl (lv_at hl 3 rfl) ?_
                  refine lv_bipush (v := 32) hx hb dX6_findsFitting_109 (by decide) ?_
                  refine lv_iadd hx hb dX6_findsFitting_111 ?_
                  refine lv_iload hx hb dX6_findsFitting_112 (lv_at hl 6 rfl) ?_
                  refine lv_iadd hx hb dX6_findsFitting_114 ?_
                  refine lv_dup2_11 hx hb dX6_findsFitting_115 rfl rfl ?_
                  obtain ⟨hi11, h⟩ := zg h
                  refine va_iald hx hb hK hP 2 0 rfl rfl hi11 dX6_findsFitting_116 ?_
                  refine lv_aload_n hx hb dX6_findsFitting_117 rfl (lv_at hl 0 rfl) ?_
                  refine lv_aload_n hx hb dX6_findsFitting_118 rfl (lv_at hl 0 rfl) ?_
                  refine va_get (D := D) (ci := 6) (v := .ref on) (C := RX6) (T := TX6) (N := 14) hx hb ht hiX6 hown hK hP 0 rfl rfl 0 (by decide) (ht _ wb765) (fun _ h9 => h9) rfl dX6_findsFitting_119 ?_
                  refine lv_iload hx hb dX6_findsFitting_122 (lv_at hl 5 rfl) ?_
                  refine lv_iconst (v := 1) hx hb dX6_findsFitting_124 (by decide) ?_
                  refine lv_iadd hx hb dX6_findsFitting_125 ?_
                  obtain ⟨hi12, h⟩ := zg h
                  refine va_iald hx hb hK hP 1 0 rfl rfl hi12 dX6_findsFitting_126 ?_
                  refine lv_iload hx hb dX6_findsFitting_127 (lv_at hl 6 rfl) ?_
                  obtain ⟨r5, h5, h⟩ := zb h
                  refine zi (zrV (C := RX6) (T := TX6) (N := 14) (As := [.int (now (Int32.toNatClampNeg (v5 + 1))), .int v6]) (rest := [.int ((upd fitting (Int32.toNatClampNeg (v3 + v6)) ((fitting (Int32.toNatClampNeg (v3 + v6))) ||| 0)) (Int32.toNatClampNeg ((v3 + 32) + v6))), .int ((v3 + 32) + v6), .ref og]) ⟨hx, hb, hml, hown, ht⟩ (c_X6_isFrom l D k o on op orr ot oh og od states bytes reading at_ wrongAt number hh now (now (Int32.toNatClampNeg (v5 + 1))) v6 h5 _) (cwV 2 ht (gdV wb907 wb909 wb38 wb80 wb910) rfl rfl rfl (by decide +kernel) ⟨Nat.le_of_ble_eq_true rfl, Nat.le_of_ble_eq_true rfl⟩) hK hP hD hS hA hm [0, 1] rfl rfl 0 6 rfl rfl rfl hl.1 rfl (Nat.le_of_ble_eq_true rfl) dX6_findsFitting_129 ⟨Nat.le_refl _, Nat.le_refl _⟩) hP hD hS hA [0, 1] rfl rfl (fun H locs hP hD hS => ?_)
                  have hP : va_P D vwCl [(o, .inr (6, [.ref on, .ref op, .int states, .ref orr, .ref ot, .int bytes, .ref oh, .ref og, .ref od, .int reading, .int at_, .int wrongAt, .int number, .long hh])), (on, .inl (k 0, 401, .inl now)), (og, .inl (k 0, 164, .inl (upd fitting (Int32.toNatClampNeg (v3 + v6)) ((fitting (Int32.toNatClampNeg (v3 + v6))) ||| 0))))] H := hP
                  have hD : va_D A [(o, .inr (6, [.ref on, .ref op, .int states, .ref orr, .ref ot, .int bytes, .ref oh, .ref og, .ref od, .int reading, .int at_, .int wrongAt, .int number, .long hh])), (on, .inl (k 0, 401, .inl now)), (og, .inl (k 0, 164, .inl (upd fitting (Int32.toNatClampNeg (v3 + v6)) ((fitting (Int32.toNatClampNeg (v3 + v6))) ||| 0))))] := hD
                  refine lv_if_eq (tgt := 154) hx hb dX6_findsFitting_132 (by decide) (fun c5 => ?_) (fun c5 => ?_)
                  · have h := zt h c5
                    refine lv_iconst (v := 0) hx hb dX6_findsFitting_154 (by decide) ?_
                    refine lv_ior hx hb dX6_findsFitting_155 ?_
                    obtain ⟨hi13, h⟩ := zg h
                    refine va_iast hx hb hK hP hD hS 2 0 rfl rfl hi13 dX6_findsFitting_156 (fun H locs hP hD hS => ?_)
                    have hP : va_P D vwCl [(o, .inr (6, [.ref on, .ref op, .int states, .ref orr, .ref ot, .int bytes, .ref oh, .ref og, .ref od, .int reading, .int at_, .int wrongAt, .int number, .long hh])), (on, .inl (k 0, 401, .inl now)), (og, .inl (k 0, 164, .inl (upd (upd fitting (Int32.toNatClampNeg (v3 + v6)) ((fitting (Int32.toNatClampNeg (v3 + v6))) ||| 0)) (Int32.toNatClampNeg ((v3 + 32) + v6)) (((upd fitting (Int32.toNatClampNeg (v3 + v6)) ((fitting (Int32.toNatClampNeg (v3 + v6))) ||| 0)) (Int32.toNatClampNeg ((v3 + 32) + v6))) ||| 0))))] H := hP
                    have hD : va_D A [(o, .inr (6, [.ref on, .ref op, .int states, .ref orr, .ref ot, .int bytes, .ref oh, .ref og, .ref od, .int reading, .int at_, .int wrongAt, .int number, .long hh])), (on, .inl (k 0, 401, .inl now)), (og, .inl (k 0, 164, .inl (upd (upd fitting (Int32.toNatClampNeg (v3 + v6)) ((fitting (Int32.toNatClampNeg (v3 + v6))) ||| 0)) (Int32.toNatClampNeg ((v3 + 32) + v6)) (((upd fitting (Int32.toNatClampNeg (v3 + v6)) ((fitting (Int32.toNatClampNeg (v3 + v6))) ||| 0)) (Int32.toNatClampNeg ((v3 + 32) + v6))) ||| 0))))] := hD
                    refine lv_iinc (v := v6 + 1) (lv' := [(6, .int (v6 + 1)), (0, .ref o), (1, .int v1), (2, .int v2), (3, .int v3), (4, .int v4), (5, .int v5)]) hx hb dX6_findsFitting_157 hl (k := 6) rfl rfl (by decide) rfl (fun ls hl => ?_)
                    refine lv_goto (tgt := 47) hx hb dX6_findsFitting_160 (by decide) ?_
                    exact ih _ _ h _ _ hP hD hS _ (lv_sub hl [1, 2, 3, 4, 5, 6, 0] rfl)
                  · have h := zf h c5
                    refine lv_aload_n hx hb dX6_findsFitting_135 rfl (lv_at hl 0 rfl) ?_
                    refine lv_iload hx hb dX6_findsFitting_136 (lv_at hl 5 rfl) ?_
                    refine lv_iconst (v := 4) hx hb dX6_findsFitting_138 (by decide) ?_
                    refine lv_iload hx hb dX6_findsFitting_139 (lv_at hl 6 rfl) ?_
                    obtain ⟨r6, h6, h⟩ := zb h
                    refine zi (zrV (C := RX6) (T := TX6) (N := 14) (As := [.int v5, .int 4, .int v6]) (rest := [.int ((upd fitting (Int32.toNatClampNeg (v3 + v6)) ((fitting (Int32.toNatClampNeg (v3 + v6))) ||| 0)) (Int32.toNatClampNeg ((v3 + 32) + v6))), .int ((v3 + 32) + v6), .ref og]) ⟨hx, hb, hml, hown, ht⟩ (c_X6_isOf l D k o on op orr ot oh og od states bytes reading at_ wrongAt number hh now v5 4 v6 h6 _) (cwV 3 ht (gdV wb911 wb913 wb39 wb80 wb914) rfl rfl rfl (by decide +kernel) ⟨Nat.le_of_ble_eq_true rfl, Nat.le_of_ble_eq_true rfl⟩) hK hP hD hS hA hm [0, 1] rfl rfl 0 6 rfl rfl rfl hl.1 rfl (Nat.le_of_ble_eq_true rfl) dX6_findsFitting_141 ⟨Nat.le_refl _, Nat.le_refl _⟩) hP hD hS hA [0, 1] rfl rfl (fun H locs hP hD hS => ?_)
                    have hP : va_P D vwCl [(o, .inr (6, [.ref on, .ref op, .int states, .ref orr, .ref ot, .int bytes, .ref oh, .ref og, .ref od, .int reading, .int at_, .int wrongAt, .int number, .long hh])), (on, .inl (k 0, 401, .inl now)), (og, .inl (k 0, 164, .inl (upd fitting (Int32.toNatClampNeg (v3 + v6)) ((fitting (Int32.toNatClampNeg (v3 + v6))) ||| 0))))] H := hP
                    have hD : va_D A [(o, .inr (6, [.ref on, .ref op, .int states, .ref orr, .ref ot, .int bytes, .ref oh, .ref og, .ref od, .int reading, .int at_, .int wrongAt, .int number, .long hh])), (on, .inl (k 0, 401, .inl now)), (og, .inl (k 0, 164, .inl (upd fitting (Int32.toNatClampNeg (v3 + v6)) ((fitting (Int32.toNatClampNeg (v3 + v6))) ||| 0))))] := hD
                    refine lv_if_eq (tgt := 154) hx hb dX6_findsFitting_144 (by decide) (fun c4 => ?_) (fun c4 => ?_)
                    · have h := zt h c4
                      refine lv_iconst (v := 0) hx hb dX6_findsFitting_154 (by decide) ?_
                      refine lv_ior hx hb dX6_findsFitting_155 ?_
                      obtain ⟨hi14, h⟩ := zg h
                      refine va_iast hx hb hK hP hD hS 2 0 rfl rfl hi14 dX6_findsFitting_156 (fun H locs hP hD hS => ?_)
                      have hP : va_P D vwCl [(o, .inr (6, [.ref on, .ref op, .int states, .ref orr, .ref ot, .int bytes, .ref oh, .ref og, .ref od, .int reading, .int at_, .int wrongAt, .int number, .long hh])), (on, .inl (k 0, 401, .inl now)), (og, .inl (k 0, 164, .inl (upd (upd fitting (Int32.toNatClampNeg (v3 + v6)) ((fitting (Int32.toNatClampNeg (v3 + v6))) ||| 0)) (Int32.toNatClampNeg ((v3 + 32) + v6)) (((upd fitting (Int32.toNatClampNeg (v3 + v6)) ((fitting (Int32.toNatClampNeg (v3 + v6))) ||| 0)) (Int32.toNatClampNeg ((v3 + 32) + v6))) ||| 0))))] H := hP
                      have hD : va_D A [(o, .inr (6, [.ref on, .ref op, .int states, .ref orr, .ref ot, .int bytes, .ref oh, .ref og, .ref od, .int reading, .int at_, .int wrongAt, .int number, .long hh])), (on, .inl (k 0, 401, .inl now)), (og, .inl (k 0, 164, .inl (upd (upd fitting (Int32.toNatClampNeg (v3 + v6)) ((fitting (Int32.toNatClampNeg (v3 + v6))) ||| 0)) (Int32.toNatClampNeg ((v3 + 32) + v6)) (((upd fitting (Int32.toNatClampNeg (v3 + v6)) ((fitting (Int32.toNatClampNeg (v3 + v6))) ||| 0)) (Int32.toNatClampNeg ((v3 + 32) + v6))) ||| 0))))] := hD
                      refine lv_iinc (v := v6 + 1) (lv' := [(6, .int (v6 + 1)), (0, .ref o), (1, .int v1), (2, .int v2), (3, .int v3), (4, .int v4), (5, .int v5)]) hx hb dX6_findsFitting_157 hl (k := 6) rfl rfl (by decide) rfl (fun ls hl => ?_)
                      refine lv_goto (tgt := 47) hx hb dX6_findsFitting_160 (by decide) ?_
                      exact ih _ _ h _ _ hP hD hS _ (lv_sub hl [1, 2, 3, 4, 5, 6, 0] rfl)
                    · have h := zf h c4
                      refine lv_iconst (v := 1) hx hb dX6_findsFitting_147 (by decide) ?_
                      refine lv_iload hx hb dX6_findsFitting_148 (lv_at hl 4 rfl) ?_
                      refine lv_ishl hx hb dX6_findsFitting_150 ?_
                      refine lv_goto (tgt := 155) hx hb dX6_findsFitting_151 (by decide) ?_
                      refine lv_ior hx hb dX6_findsFitting_155 ?_
                      obtain ⟨hi15, h⟩ := zg h
                      refine va_iast hx hb hK hP hD hS 2 0 rfl rfl hi15 dX6_findsFitting_156 (fun H locs hP hD hS => ?_)
                      have hP : va_P D vwCl [(o, .inr (6, [.ref on, .ref op, .int states, .ref orr, .ref ot, .int bytes, .ref oh, .ref og, .ref od, .int reading, .int at_, .int wrongAt, .int number, .long hh])), (on, .inl (k 0, 401, .inl now)), (og, .inl (k 0, 164, .inl (upd (upd fitting (Int32.toNatClampNeg (v3 + v6)) ((fitting (Int32.toNatClampNeg (v3 + v6))) ||| 0)) (Int32.toNatClampNeg ((v3 + 32) + v6)) (((upd fitting (Int32.toNatClampNeg (v3 + v6)) ((fitting (Int32.toNatClampNeg (v3 + v6))) ||| 0)) (Int32.toNatClampNeg ((v3 + 32) + v6))) ||| (1 <<< (v4 &&& 31))))))] H := hP
                      have hD : va_D A [(o, .inr (6, [.ref on, .ref op, .int states, .ref orr, .ref ot, .int bytes, .ref oh, .ref og, .ref od, .int reading, .int at_, .int wrongAt, .int number, .long hh])), (on, .inl (k 0, 401, .inl now)), (og, .inl (k 0, 164, .inl (upd (upd fitting (Int32.toNatClampNeg (v3 + v6)) ((fitting (Int32.toNatClampNeg (v3 + v6))) ||| 0)) (Int32.toNatClampNeg ((v3 + 32) + v6)) (((upd fitting (Int32.toNatClampNeg (v3 + v6)) ((fitting (Int32.toNatClampNeg (v3 + v6))) ||| 0)) (Int32.toNatClampNeg ((v3 + 32) + v6))) ||| (1 <<< (v4 &&& 31))))))] := hD
                      refine lv_iinc (v := v6 + 1) (lv' := [(6, .int (v6 + 1)), (0, .ref o), (1, .int v1), (2, .int v2), (3, .int v3), (4, .int v4), (5, .int v5)]) hx hb dX6_findsFitting_157 hl (k := 6) rfl rfl (by decide) rfl (fun ls hl => ?_)
                      refine lv_goto (tgt := 47) hx hb dX6_findsFitting_160 (by decide) ?_
                      exact ih _ _ h _ _ hP hD hS _ (lv_sub hl [1, 2, 3, 4, 5, 6, 0] rfl)
                · have h := zf h c8
                  refine lv_iconst (v := 1) hx hb dX6_findsFitting_94 (by decide) ?_
                  refine lv_iload hx hb dX6_findsFitting_95 (lv_at hl 4 rfl) ?_
                  refine lv_ishl hx hb dX6_findsFitting_97 ?_
                  refine lv_goto (tgt := 102) hx hb dX6_findsFitting_98 (by decide) ?_
                  refine lv_ior hx hb dX6_findsFitting_102 ?_
                  obtain ⟨hi16, h⟩ := zg h
                  refine va_iast hx hb hK hP hD hS 2 0 rfl rfl hi16 dX6_findsFitting_103 (fun H locs hP hD hS => ?_)
                  have hP : va_P D vwCl [(o, .inr (6, [.ref on, .ref op, .int states, .ref orr, .ref ot, .int bytes, .ref oh, .ref og, .ref od, .int reading, .int at_, .int wrongAt, .int number, .long hh])), (on, .inl (k 0, 401, .inl now)), (og, .inl (k 0, 164, .inl (upd fitting (Int32.toNatClampNeg (v3 + v6)) ((fitting (Int32.toNatClampNeg (v3 + v6))) ||| (1 <<< (v4 &&& 31))))))] H := hP
                  have hD : va_D A [(o, .inr (6, [.ref on, .ref op, .int states, .ref orr, .ref ot, .int bytes, .ref oh, .ref og, .ref od, .int reading, .int at_, .int wrongAt, .int number, .long hh])), (on, .inl (k 0, 401, .inl now)), (og, .inl (k 0, 164, .inl (upd fitting (Int32.toNatClampNeg (v3 + v6)) ((fitting (Int32.toNatClampNeg (v3 + v6))) ||| (1 <<< (v4 &&& 31))))))] := hD
                  refine lv_aload_n hx hb dX6_findsFitting_104 rfl (lv_at hl 0 rfl) ?_
                  refine va_get (D := D) (ci := 6) (v := .ref og) (C := RX6) (T := TX6) (N := 14) hx hb ht hiX6 hown hK hP 0 rfl rfl 7 (by decide) (ht _ wb772) (fun _ h9 => h9) rfl dX6_findsFitting_105 ?_
                  refine lv_iload_n hx hb dX6_findsFitting_108 rfl (lv_at hl 3 rfl) ?_
                  refine lv_bipush (v := 32) hx hb dX6_findsFitting_109 (by decide) ?_
                  refine lv_iadd hx hb dX6_findsFitting_111 ?_
                  refine lv_iload hx hb dX6_findsFitting_112 (lv_at hl 6 rfl) ?_
                  refine lv_iadd hx hb dX6_findsFitting_114 ?_
                  refine lv_dup2_11 hx hb dX6_findsFitting_115 rfl rfl ?_
                  obtain ⟨hi17, h⟩ := zg h
                  refine va_iald hx hb hK hP 2 0 rfl rfl hi17 dX6_findsFitting_116 ?_
                  refine lv_aload_n hx hb dX6_findsFitting_117 rfl (lv_at hl 0 rfl) ?_
                  refine lv_aload_n hx hb dX6_findsFitting_118 rfl (lv_at hl 0 rfl) ?_
                  refine va_get (D := D) (ci := 6) (v := .ref on) (C := RX6) (T := TX6) (N := 14) hx hb ht hiX6 hown hK hP 0 rfl rfl 0 (by decide) (ht _ wb765) (fun _ h9 => h9) rfl dX6_findsFitting_119 ?_
                  refine lv_iload hx hb dX6_findsFitting_122 (lv_at hl 5 rfl) ?_
                  refine lv_iconst (v := 1) hx hb dX6_findsFitting_124 (by decide) ?_
                  refine lv_iadd hx hb dX6_findsFitting_125 ?_
                  obtain ⟨hi18, h⟩ := zg h
                  refine va_iald hx hb hK hP 1 0 rfl rfl hi18 dX6_findsFitting_126 ?_
                  refine lv_iload hx hb dX6_findsFitting_127 (lv_at hl 6 rfl) ?_
                  obtain ⟨r7, h7, h⟩ := zb h
                  refine zi (zrV (C := RX6) (T := TX6) (N := 14) (As := [.int (now (Int32.toNatClampNeg (v5 + 1))), .int v6]) (rest := [.int ((upd fitting (Int32.toNatClampNeg (v3 + v6)) ((fitting (Int32.toNatClampNeg (v3 + v6))) ||| (1 <<< (v4 &&& 31)))) (Int32.toNatClampNeg ((v3 + 32) + v6))), .int ((v3 + 32) + v6), .ref og]) ⟨hx, hb, hml, hown, ht⟩ (c_X6_isFrom l D k o on op orr ot oh og od states bytes reading at_ wrongAt number hh now (now (Int32.toNatClampNeg (v5 + 1))) v6 h7 _) (cwV 2 ht (gdV wb907 wb909 wb38 wb80 wb910) rfl rfl rfl (by decide +kernel) ⟨Nat.le_of_ble_eq_true rfl, Nat.le_of_ble_eq_true rfl⟩) hK hP hD hS hA hm [0, 1] rfl rfl 0 6 rfl rfl rfl hl.1 rfl (Nat.le_of_ble_eq_true rfl) dX6_findsFitting_129 ⟨Nat.le_refl _, Nat.le_refl _⟩) hP hD hS hA [0, 1] rfl rfl (fun H locs hP hD hS => ?_)
                  have hP : va_P D vwCl [(o, .inr (6, [.ref on, .ref op, .int states, .ref orr, .ref ot, .int bytes, .ref oh, .ref og, .ref od, .int reading, .int at_, .int wrongAt, .int number, .long hh])), (on, .inl (k 0, 401, .inl now)), (og, .inl (k 0, 164, .inl (upd fitting (Int32.toNatClampNeg (v3 + v6)) ((fitting (Int32.toNatClampNeg (v3 + v6))) ||| (1 <<< (v4 &&& 31))))))] H := hP
                  have hD : va_D A [(o, .inr (6, [.ref on, .ref op, .int states, .ref orr, .ref ot, .int bytes, .ref oh, .ref og, .ref od, .int reading, .int at_, .int wrongAt, .int number, .long hh])), (on, .inl (k 0, 401, .inl now)), (og, .inl (k 0, 164, .inl (upd fitting (Int32.toNatClampNeg (v3 + v6)) ((fitting (Int32.toNatClampNeg (v3 + v6))) ||| (1 <<< (v4 &&& 31))))))] := hD
                  refine lv_if_eq (tgt := 154) hx hb dX6_findsFitting_132 (by decide) (fun c7 => ?_) (fun c7 => ?_)
                  · have h := zt h c7
                    refine lv_iconst (v := 0) hx hb dX6_findsFitting_154 (by decide) ?_
                    refine lv_ior hx hb dX6_findsFitting_155 ?_
                    obtain ⟨hi19, h⟩ := zg h
                    refine va_iast hx hb hK hP hD hS 2 0 rfl rfl hi19 dX6_findsFitting_156 (fun H locs hP hD hS => ?_)
                    have hP : va_P D vwCl [(o, .inr (6, [.ref on, .ref op, .int states, .ref orr, .ref ot, .int bytes, .ref oh, .ref og, .ref od, .int reading, .int at_, .int wrongAt, .int number, .long hh])), (on, .inl (k 0, 401, .inl now)), (og, .inl (k 0, 164, .inl (upd (upd fitting (Int32.toNatClampNeg (v3 + v6)) ((fitting (Int32.toNatClampNeg (v3 + v6))) ||| (1 <<< (v4 &&& 31)))) (Int32.toNatClampNeg ((v3 + 32) + v6)) (((upd fitting (Int32.toNatClampNeg (v3 + v6)) ((fitting (Int32.toNatClampNeg (v3 + v6))) ||| (1 <<< (v4 &&& 31)))) (Int32.toNatClampNeg ((v3 + 32) + v6))) ||| 0))))] H := hP
                    have hD : va_D A [(o, .inr (6, [.ref on, .ref op, .int states, .ref orr, .ref ot, .int bytes, .ref oh, .ref og, .ref od, .int reading, .int at_, .int wrongAt, .int number, .long hh])), (on, .inl (k 0, 401, .inl now)), (og, .inl (k 0, 164, .inl (upd (upd fitting (Int32.toNatClampNeg (v3 + v6)) ((fitting (Int32.toNatClampNeg (v3 + v6))) ||| (1 <<< (v4 &&& 31)))) (Int32.toNatClampNeg ((v3 + 32) + v6)) (((upd fitting (Int32.toNatClampNeg (v3 + v6)) ((fitting (Int32.toNatClampNeg (v3 + v6))) ||| (1 <<< (v4 &&& 31)))) (Int32.toNatClampNeg ((v3 + 32) + v6))) ||| 0))))] := hD
                    refine lv_iinc (v := v6 + 1) (lv' := [(6, .int (v6 + 1)), (0, .ref o), (1, .int v1), (2, .int v2), (3, .int v3), (4, .int v4), (5, .int v5)]) hx hb dX6_findsFitting_157 hl (k := 6) rfl rfl (by decide) rfl (fun ls hl => ?_)
                    refine lv_goto (tgt := 47) hx hb dX6_findsFitting_160 (by decide) ?_
                    exact ih _ _ h _ _ hP hD hS _ (lv_sub hl [1, 2, 3, 4, 5, 6, 0] rfl)
                  · have h := zf h c7
                    refine lv_aload_n hx hb dX6_findsFitting_135 rfl (lv_at hl 0 rfl) ?_
                    refine lv_iload hx hb dX6_findsFitting_136 (lv_at hl 5 rfl) ?_
                    refine lv_iconst (v := 4) hx hb dX6_findsFitting_138 (by decide) ?_
                    refine lv_iload hx hb dX6_findsFitting_139 (lv_at hl 6 rfl) ?_
                    obtain ⟨r8, h8, h⟩ := zb h
                    refine zi (zrV (C := RX6) (T := TX6) (N := 14) (As := [.int v5, .int 4, .int v6]) (rest := [.int ((upd fitting (Int32.toNatClampNeg (v3 + v6)) ((fitting (Int32.toNatClampNeg (v3 + v6))) ||| (1 <<< (v4 &&& 31)))) (Int32.toNatClampNeg ((v3 + 32) + v6))), .int ((v3 + 32) + v6), .ref og]) ⟨hx, hb, hml, hown, ht⟩ (c_X6_isOf l D k o on op orr ot oh og od states bytes reading at_ wrongAt number hh now v5 4 v6 h8 _) (cwV 3 ht (gdV wb911 wb913 wb39 wb80 wb914) rfl rfl rfl (by decide +kernel) ⟨Nat.le_of_ble_eq_true rfl, Nat.le_of_ble_eq_true rfl⟩) hK hP hD hS hA hm [0, 1] rfl rfl 0 6 rfl rfl rfl hl.1 rfl (Nat.le_of_ble_eq_true rfl) dX6_findsFitting_141 ⟨Nat.le_refl _, Nat.le_refl _⟩) hP hD hS hA [0, 1] rfl rfl (fun H locs hP hD hS => ?_)
                    have hP : va_P D vwCl [(o, .inr (6, [.ref on, .ref op, .int states, .ref orr, .ref ot, .int bytes, .ref oh, .ref og, .ref od, .int reading, .int at_, .int wrongAt, .int number, .long hh])), (on, .inl (k 0, 401, .inl now)), (og, .inl (k 0, 164, .inl (upd fitting (Int32.toNatClampNeg (v3 + v6)) ((fitting (Int32.toNatClampNeg (v3 + v6))) ||| (1 <<< (v4 &&& 31))))))] H := hP
                    have hD : va_D A [(o, .inr (6, [.ref on, .ref op, .int states, .ref orr, .ref ot, .int bytes, .ref oh, .ref og, .ref od, .int reading, .int at_, .int wrongAt, .int number, .long hh])), (on, .inl (k 0, 401, .inl now)), (og, .inl (k 0, 164, .inl (upd fitting (Int32.toNatClampNeg (v3 + v6)) ((fitting (Int32.toNatClampNeg (v3 + v6))) ||| (1 <<< (v4 &&& 31))))))] := hD
                    refine lv_if_eq (tgt := 154) hx hb dX6_findsFitting_144 (by decide) (fun c6 => ?_) (fun c6 => ?_)
                    · have h := zt h c6
                      refine lv_iconst (v := 0) hx hb dX6_findsFitting_154 (by decide) ?_
                      refine lv_ior hx hb dX6_findsFitting_155 ?_
                      obtain ⟨hi20, h⟩ := zg h
                      refine va_iast hx hb hK hP hD hS 2 0 rfl rfl hi20 dX6_findsFitting_156 (fun H locs hP hD hS => ?_)
                      have hP : va_P D vwCl [(o, .inr (6, [.ref on, .ref op, .int states, .ref orr, .ref ot, .int bytes, .ref oh, .ref og, .ref od, .int reading, .int at_, .int wrongAt, .int number, .long hh])), (on, .inl (k 0, 401, .inl now)), (og, .inl (k 0, 164, .inl (upd (upd fitting (Int32.toNatClampNeg (v3 + v6)) ((fitting (Int32.toNatClampNeg (v3 + v6))) ||| (1 <<< (v4 &&& 31)))) (Int32.toNatClampNeg ((v3 + 32) + v6)) (((upd fitting (Int32.toNatClampNeg (v3 + v6)) ((fitting (Int32.toNatClampNeg (v3 + v6))) ||| (1 <<< (v4 &&& 31)))) (Int32.toNatClampNeg ((v3 + 32) + v6))) ||| 0))))] H := hP
                      have hD : va_D A [(o, .inr (6, [.ref on, .ref op, .int states, .ref orr, .ref ot, .int bytes, .ref oh, .ref og, .ref od, .int reading, .int at_, .int wrongAt, .int number, .long hh])), (on, .inl (k 0, 401, .inl now)), (og, .inl (k 0, 164, .inl (upd (upd fitting (Int32.toNatClampNeg (v3 + v6)) ((fitting (Int32.toNatClampNeg (v3 + v6))) ||| (1 <<< (v4 &&& 31)))) (Int32.toNatClampNeg ((v3 + 32) + v6)) (((upd fitting (Int32.toNatClampNeg (v3 + v6)) ((fitting (Int32.toNatClampNeg (v3 + v6))) ||| (1 <<< (v4 &&& 31)))) (Int32.toNatClampNeg ((v3 + 32) + v6))) ||| 0))))] := hD
                      refine lv_iinc (v := v6 + 1) (lv' := [(6, .int (v6 + 1)), (0, .ref o), (1, .int v1), (2, .int v2), (3, .int v3), (4, .int v4), (5, .int v5)]) hx hb dX6_findsFitting_157 hl (k := 6) rfl rfl (by decide) rfl (fun ls hl => ?_)
                      refine lv_goto (tgt := 47) hx hb dX6_findsFitting_160 (by decide) ?_
                      exact ih _ _ h _ _ hP hD hS _ (lv_sub hl [1, 2, 3, 4, 5, 6, 0] rfl)
                    · have h := zf h c6
                      refine lv_iconst (v := 1) hx hb dX6_findsFitting_147 (by decide) ?_
                      refine lv_iload hx hb dX6_findsFitting_148 (lv_at hl 4 rfl) ?_
                      refine lv_ishl hx hb dX6_findsFitting_150 ?_
                      refine lv_goto (tgt := 155) hx hb dX6_findsFitting_151 (by decide) ?_
                      refine lv_ior hx hb dX6_findsFitting_155 ?_
                      obtain ⟨hi21, h⟩ := zg h
                      refine va_iast hx hb hK hP hD hS 2 0 rfl rfl hi21 dX6_findsFitting_156 (fun H locs hP hD hS => ?_)
                      have hP : va_P D vwCl [(o, .inr (6, [.ref on, .ref op, .int states, .ref orr, .ref ot, .int bytes, .ref oh, .ref og, .ref od, .int reading, .int at_, .int wrongAt, .int number, .long hh])), (on, .inl (k 0, 401, .inl now)), (og, .inl (k 0, 164, .inl (upd (upd fitting (Int32.toNatClampNeg (v3 + v6)) ((fitting (Int32.toNatClampNeg (v3 + v6))) ||| (1 <<< (v4 &&& 31)))) (Int32.toNatClampNeg ((v3 + 32) + v6)) (((upd fitting (Int32.toNatClampNeg (v3 + v6)) ((fitting (Int32.toNatClampNeg (v3 + v6))) ||| (1 <<< (v4 &&& 31)))) (Int32.toNatClampNeg ((v3 + 32) + v6))) ||| (1 <<< (v4 &&& 31))))))] H := hP
                      have hD : va_D A [(o, .inr (6, [.ref on, .ref op, .int states, .ref orr, .ref ot, .int bytes, .ref oh, .ref og, .ref od, .int reading, .int at_, .int wrongAt, .int number, .long hh])), (on, .inl (k 0, 401, .inl now)), (og, .inl (k 0, 164, .inl (upd (upd fitting (Int32.toNatClampNeg (v3 + v6)) ((fitting (Int32.toNatClampNeg (v3 + v6))) ||| (1 <<< (v4 &&& 31)))) (Int32.toNatClampNeg ((v3 + 32) + v6)) (((upd fitting (Int32.toNatClampNeg (v3 + v6)) ((fitting (Int32.toNatClampNeg (v3 + v6))) ||| (1 <<< (v4 &&& 31)))) (Int32.toNatClampNeg ((v3 + 32) + v6))) ||| (1 <<< (v4 &&& 31))))))] := hD
                      refine lv_iinc (v := v6 + 1) (lv' := [(6, .int (v6 + 1)), (0, .ref o), (1, .int v1), (2, .int v2), (3, .int v3), (4, .int v4), (5, .int v5)]) hx hb dX6_findsFitting_157 hl (k := 6) rfl rfl (by decide) rfl (fun ls hl => ?_)
                      refine lv_goto (tgt := 47) hx hb dX6_findsFitting_160 (by decide) ?_
                      exact ih _ _ h _ _ hP hD hS _ (lv_sub hl [1, 2, 3, 4, 5, 6, 0] rfl)
        refine loop47 _ _ _ _ _ _ _ _ _ _ _ _ _ _ ?_ fu _ _ h _ _ hP hD hS _ (lv_sub hl [2, 3, 4, 5, 6, 1, 0] rfl)
        intro x3 x4 h H locs hP hD hS ls hl
        try dsimp only at h
        have hP : va_P D vwCl [(o, .inr (6, [.ref on, .ref op, .int states, .ref orr, .ref ot, .int bytes, .ref oh, .ref og, .ref od, .int reading, .int at_, .int wrongAt, .int number, .long hh])), (on, .inl (k 0, 401, .inl now)), (og, .inl (k 0, 164, .inl x4))] H := hP
        have hD : va_D A [(o, .inr (6, [.ref on, .ref op, .int states, .ref orr, .ref ot, .int bytes, .ref oh, .ref og, .ref od, .int reading, .int at_, .int wrongAt, .int number, .long hh])), (on, .inl (k 0, 401, .inl now)), (og, .inl (k 0, 164, .inl x4))] := hD
        have hl : lv_has ls 7 [(0, .ref o), (1, .int v1), (2, .int v2), (3, .int v3), (4, .int v4), (5, .int (v1 + (11 * v4))), (6, .int x3)] := hl
        refine lv_iconst (v := 0) hx hb dX6_findsFitting_163 (by decide) ?_
        refine lv_istore (lv' := [(6, .int 0), (0, .ref o), (1, .int v1), (2, .int v2), (3, .int v3), (4, .int v4), (5, .int (v1 + (11 * v4)))]) hx hb dX6_findsFitting_164 hl (by decide) rfl (fun ls hl => ?_)
        have loop166 : ∀ (v1 : Int32) (v2 : Int32) (v3 : Int32) (v4 : Int32) (v5 : Int32) (states : Int32) (bytes : Int32) (reading : Int32) (at_ : Int32) (wrongAt : Int32) (number : Int32) (hh : Int64) (now : Nat → Int32), ∀ (K : Int32 → (Nat → Int32) → Option ((Nat → Int32))), (∀ (v6 : Int32) (fitting : Nat → Int32), K v6 fitting = some res → ∀ (H : Heap) (locs : List Loc), va_P D vwCl [(o, .inr (6, [.ref on, .ref op, .int states, .ref orr, .ref ot, .int bytes, .ref oh, .ref og, .ref od, .int reading, .int at_, .int wrongAt, .int number, .long hh])), (on, .inl (k 0, 401, .inl now)), (og, .inl (k 0, 164, .inl fitting))] H → va_D A [(o, .inr (6, [.ref on, .ref op, .int states, .ref orr, .ref ot, .int bytes, .ref oh, .ref og, .ref od, .int reading, .int at_, .int wrongAt, .int number, .long hh])), (on, .inl (k 0, 401, .inl now)), (og, .inl (k 0, 164, .inl fitting))] → va_S A s.heap H locs → ∀ ls : Array Slot, lv_has ls 7 [(0, .ref o), (1, .int v1), (2, .int v2), (3, .int v3), (4, .int v4), (5, .int v5), (6, .int v6)] → W p l e (headSpec wk_X6_findsFitting rm_X6_findsFitting).room s m ([.ref o, .int a1, .int a2, .int a3] : List Value).toArray below meth c H locs 0 0 (MQ below (va_Qv (fun (_ : Unit) => True) (fun _ tq9 => va_P D vwCl [(o, .inr (6, [.ref on, .ref op, .int states, .ref orr, .ref ot, .int bytes, .ref oh, .ref og, .ref od, .int reading, .int at_, .int wrongAt, .int number, .long hh])), (on, .inl (k 0, 401, .inl now)), (og, .inl (k 0, 164, .inl res))] tq9.heap) A) ([.ref o, .int a1, .int a2, .int a3] : List Value).toArray s 0 0 A) (F0 m 215 ls [])) → ∀ (n : Nat) (v6 : Int32) (fitting : Nat → Int32), f_X6_findsFitting_L166 fu K v3 v4 v5 now n v6 fitting = some res → ∀ (H : Heap) (locs : List Loc), va_P D vwCl [(o, .inr (6, [.ref on, .ref op, .int states, .ref orr, .ref ot, .int bytes, .ref oh, .ref og, .ref od, .int reading, .int at_, .int wrongAt, .int number, .long hh])), (on, .inl (k 0, 401, .inl now)), (og, .inl (k 0, 164, .inl fitting))] H → va_D A [(o, .inr (6, [.ref on, .ref op, .int states, .ref orr, .ref ot, .int bytes, .ref oh, .ref og, .ref od, .int reading, .int at_, .int wrongAt, .int number, .long hh])), (on, .inl (k 0, 401, .inl now)), (og, .inl (k 0, 164, .inl fitting))] → va_S A s.heap H locs → ∀ ls : Array Slot, lv_has ls 7 [(0, .ref o), (1, .int v1), (2, .int v2), (3, .int v3), (4, .int v4), (5, .int v5), (6, .int v6)] → W p l e (headSpec wk_X6_findsFitting rm_X6_findsFitting).room s m ([.ref o, .int a1, .int a2, .int a3] : List Value).toArray below meth c H locs 0 0 (MQ below (va_Qv (fun (_ : Unit) => True) (fun _ tq9 => va_P D vwCl [(o, .inr (6, [.ref on, .ref op, .int states, .ref orr, .ref ot, .int bytes, .ref oh, .ref og, .ref od, .int reading, .int at_, .int wrongAt, .int number, .long hh])), (on, .inl (k 0, 401, .inl now)), (og, .inl (k 0, 164, .inl res))] tq9.heap) A) ([.ref o, .int a1, .int a2, .int a3] : List Value).toArray s 0 0 A) (F0 m 166 ls []) := by
          intro v1 v2 v3 v4 v5 states bytes reading at_ wrongAt number hh now K hKK n
          induction n with
          | zero =>
            intro v6 fitting h
            rw [f_X6_findsFitting_L166] at h
            cases h
          | succ n ih =>
            intro v6 fitting h H locs hP hD hS ls hl
            rw [f_X6_findsFitting_L166] at h
            refine lv_iload hx hb dX6_findsFitting_166 (lv_at hl 6 rfl) ?_
            refine lv_bipush (v := 16) hx hb dX6_findsFitting_168 (by decide) ?_
            refine lv_icmp_ge (tgt := 215) hx hb dX6_findsFitting_170 (by decide) (fun c12 => ?_) (fun c12 => ?_)
            · have h := zt h c12
              exact hKK _ _ h _ _ hP hD hS _ (lv_sub hl [0, 1, 2, 3, 4, 5, 6] rfl)
            · have h := zf h c12
              refine lv_aload_n hx hb dX6_findsFitting_173 rfl (lv_at hl 0 rfl) ?_
              refine va_get (D := D) (ci := 6) (v := .ref og) (C := RX6) (T := TX6) (N := 14) hx hb ht hiX6 hown hK hP 0 rfl rfl 7 (by decide) (ht _ wb772) (fun _ h9 => h9) rfl dX6_findsFitting_174 ?_
              refine lv_iload_n hx hb dX6_findsFitting_177 rfl (lv_at hl 3 rfl) ?_
              refine lv_bipush (v := 64) hx hb dX6_findsFitting_178 (by decide) ?_
              refine lv_iadd hx hb dX6_findsFitting_180 ?_
              refine lv_iload hx hb dX6_findsFitting_181 (lv_at hl 6 rfl) ?_
              refine lv_iadd hx hb dX6_findsFitting_183 ?_
              refine lv_dup2_11 hx hb dX6_findsFitting_184 rfl rfl ?_
              obtain ⟨hi22, h⟩ := zg h
              refine va_iald hx hb hK hP 2 0 rfl rfl hi22 dX6_findsFitting_185 ?_
              refine lv_aload_n hx hb dX6_findsFitting_186 rfl (lv_at hl 0 rfl) ?_
              refine lv_iload hx hb dX6_findsFitting_187 (lv_at hl 5 rfl) ?_
              refine lv_bipush (v := 6) hx hb dX6_findsFitting_189 (by decide) ?_
              refine lv_iload hx hb dX6_findsFitting_191 (lv_at hl 6 rfl) ?_
              obtain ⟨r9, h9, h⟩ := zb h
              refine zi (zrV (C := RX6) (T := TX6) (N := 14) (As := [.int v5, .int 6, .int v6]) (rest := [.int (fitting (Int32.toNatClampNeg ((v3 + 64) + v6))), .int ((v3 + 64) + v6), .ref og]) ⟨hx, hb, hml, hown, ht⟩ (c_X6_isOf l D k o on op orr ot oh og od states bytes reading at_ wrongAt number hh now v5 6 v6 h9 _) (cwV 3 ht (gdV wb911 wb913 wb39 wb80 wb914) rfl rfl rfl (by decide +kernel) ⟨Nat.le_of_ble_eq_true rfl, Nat.le_of_ble_eq_true rfl⟩) hK hP hD hS hA hm [0, 1] rfl rfl 0 6 rfl rfl rfl hl.1 rfl (Nat.le_of_ble_eq_true rfl) dX6_findsFitting_193 ⟨Nat.le_refl _, Nat.le_refl _⟩) hP hD hS hA [0, 1] rfl rfl (fun H locs hP hD hS => ?_)
              have hP : va_P D vwCl [(o, .inr (6, [.ref on, .ref op, .int states, .ref orr, .ref ot, .int bytes, .ref oh, .ref og, .ref od, .int reading, .int at_, .int wrongAt, .int number, .long hh])), (on, .inl (k 0, 401, .inl now)), (og, .inl (k 0, 164, .inl fitting))] H := hP
              have hD : va_D A [(o, .inr (6, [.ref on, .ref op, .int states, .ref orr, .ref ot, .int bytes, .ref oh, .ref og, .ref od, .int reading, .int at_, .int wrongAt, .int number, .long hh])), (on, .inl (k 0, 401, .inl now)), (og, .inl (k 0, 164, .inl fitting))] := hD
              refine lv_if_eq (tgt := 206) hx hb dX6_findsFitting_196 (by decide) (fun c11 => ?_) (fun c11 => ?_)
              · have h := zt h c11
                refine lv_iconst (v := 0) hx hb dX6_findsFitting_206 (by decide) ?_
                refine lv_ior hx hb dX6_findsFitting_207 ?_
                obtain ⟨hi23, h⟩ := zg h
                refine va_iast hx hb hK hP hD hS 2 0 rfl rfl hi23 dX6_findsFitting_208 (fun H locs hP hD hS => ?_)
                have hP : va_P D vwCl [(o, .inr (6, [.ref on, .ref op, .int states, .ref orr, .ref ot, .int bytes, .ref oh, .ref og, .ref od, .int reading, .int at_, .int wrongAt, .int number, .long hh])), (on, .inl (k 0, 401, .inl now)), (og, .inl (k 0, 164, .inl (upd fitting (Int32.toNatClampNeg ((v3 + 64) + v6)) ((fitting (Int32.toNatClampNeg ((v3 + 64) + v6))) ||| 0))))] H := hP
                have hD : va_D A [(o, .inr (6, [.ref on, .ref op, .int states, .ref orr, .ref ot, .int bytes, .ref oh, .ref og, .ref od, .int reading, .int at_, .int wrongAt, .int number, .long hh])), (on, .inl (k 0, 401, .inl now)), (og, .inl (k 0, 164, .inl (upd fitting (Int32.toNatClampNeg ((v3 + 64) + v6)) ((fitting (Int32.toNatClampNeg ((v3 + 64) + v6))) ||| 0))))] := hD
                refine lv_iinc (v := v6 + 1) (lv' := [(6, .int (v6 + 1)), (0, .ref o), (1, .int v1), (2, .int v2), (3, .int v3), (4, .int v4), (5, .int v5)]) hx hb dX6_findsFitting_209 hl (k := 6) rfl rfl (by decide) rfl (fun ls hl => ?_)
                refine lv_goto (tgt := 166) hx hb dX6_findsFitting_212 (by decide) ?_
                exact ih _ _ h _ _ hP hD hS _ (lv_sub hl [1, 2, 3, 4, 5, 6, 0] rfl)
              · have h := zf h c11
                refine lv_iconst (v := 1) hx hb dX6_findsFitting_199 (by decide) ?_
                refine lv_iload hx hb dX6_findsFitting_200 (lv_at hl 4 rfl) ?_
                refine lv_ishl hx hb dX6_findsFitting_202 ?_
                refine lv_goto (tgt := 207) hx hb dX6_findsFitting_203 (by decide) ?_
                refine lv_ior hx hb dX6_findsFitting_207 ?_
                obtain ⟨hi24, h⟩ := zg h
                refine va_iast hx hb hK hP hD hS 2 0 rfl rfl hi24 dX6_findsFitting_208 (fun H locs hP hD hS => ?_)
                have hP : va_P D vwCl [(o, .inr (6, [.ref on, .ref op, .int states, .ref orr, .ref ot, .int bytes, .ref oh, .ref og, .ref od, .int reading, .int at_, .int wrongAt, .int number, .long hh])), (on, .inl (k 0, 401, .inl now)), (og, .inl (k 0, 164, .inl (upd fitting (Int32.toNatClampNeg ((v3 + 64) + v6)) ((fitting (Int32.toNatClampNeg ((v3 + 64) + v6))) ||| (1 <<< (v4 &&& 31))))))] H := hP
                have hD : va_D A [(o, .inr (6, [.ref on, .ref op, .int states, .ref orr, .ref ot, .int bytes, .ref oh, .ref og, .ref od, .int reading, .int at_, .int wrongAt, .int number, .long hh])), (on, .inl (k 0, 401, .inl now)), (og, .inl (k 0, 164, .inl (upd fitting (Int32.toNatClampNeg ((v3 + 64) + v6)) ((fitting (Int32.toNatClampNeg ((v3 + 64) + v6))) ||| (1 <<< (v4 &&& 31))))))] := hD
                refine lv_iinc (v := v6 + 1) (lv' := [(6, .int (v6 + 1)), (0, .ref o), (1, .int v1), (2, .int v2), (3, .int v3), (4, .int v4), (5, .int v5)]) hx hb dX6_findsFitting_209 hl (k := 6) rfl rfl (by decide) rfl (fun ls hl => ?_)
                refine lv_goto (tgt := 166) hx hb dX6_findsFitting_212 (by decide) ?_
                exact ih _ _ h _ _ hP hD hS _ (lv_sub hl [1, 2, 3, 4, 5, 6, 0] rfl)
        refine loop166 _ _ _ _ _ _ _ _ _ _ _ _ _ _ ?_ fu _ _ h _ _ hP hD hS _ (lv_sub hl [1, 2, 3, 4, 5, 6, 0] rfl)
        intro x5 x6 h H locs hP hD hS ls hl
        try dsimp only at h
        have hP : va_P D vwCl [(o, .inr (6, [.ref on, .ref op, .int states, .ref orr, .ref ot, .int bytes, .ref oh, .ref og, .ref od, .int reading, .int at_, .int wrongAt, .int number, .long hh])), (on, .inl (k 0, 401, .inl now)), (og, .inl (k 0, 164, .inl x6))] H := hP
        have hD : va_D A [(o, .inr (6, [.ref on, .ref op, .int states, .ref orr, .ref ot, .int bytes, .ref oh, .ref og, .ref od, .int reading, .int at_, .int wrongAt, .int number, .long hh])), (on, .inl (k 0, 401, .inl now)), (og, .inl (k 0, 164, .inl x6))] := hD
        have hl : lv_has ls 7 [(0, .ref o), (1, .int v1), (2, .int v2), (3, .int v3), (4, .int v4), (5, .int (v1 + (11 * v4))), (6, .int x5)] := hl
        refine lv_iconst (v := 0) hx hb dX6_findsFitting_215 (by decide) ?_
        refine lv_istore (lv' := [(6, .int 0), (0, .ref o), (1, .int v1), (2, .int v2), (3, .int v3), (4, .int v4), (5, .int (v1 + (11 * v4)))]) hx hb dX6_findsFitting_216 hl (by decide) rfl (fun ls hl => ?_)
        have loop218 : ∀ (v1 : Int32) (v2 : Int32) (v3 : Int32) (v4 : Int32) (v5 : Int32) (states : Int32) (bytes : Int32) (reading : Int32) (at_ : Int32) (wrongAt : Int32) (number : Int32) (hh : Int64) (now : Nat → Int32), ∀ (K : Int32 → (Nat → Int32) → Option ((Nat → Int32))), (∀ (v6 : Int32) (fitting : Nat → Int32), K v6 fitting = some res → ∀ (H : Heap) (locs : List Loc), va_P D vwCl [(o, .inr (6, [.ref on, .ref op, .int states, .ref orr, .ref ot, .int bytes, .ref oh, .ref og, .ref od, .int reading, .int at_, .int wrongAt, .int number, .long hh])), (on, .inl (k 0, 401, .inl now)), (og, .inl (k 0, 164, .inl fitting))] H → va_D A [(o, .inr (6, [.ref on, .ref op, .int states, .ref orr, .ref ot, .int bytes, .ref oh, .ref og, .ref od, .int reading, .int at_, .int wrongAt, .int number, .long hh])), (on, .inl (k 0, 401, .inl now)), (og, .inl (k 0, 164, .inl fitting))] → va_S A s.heap H locs → ∀ ls : Array Slot, lv_has ls 7 [(0, .ref o), (1, .int v1), (2, .int v2), (3, .int v3), (4, .int v4), (5, .int v5), (6, .int v6)] → W p l e (headSpec wk_X6_findsFitting rm_X6_findsFitting).room s m ([.ref o, .int a1, .int a2, .int a3] : List Value).toArray below meth c H locs 0 0 (MQ below (va_Qv (fun (_ : Unit) => True) (fun _ tq9 => va_P D vwCl [(o, .inr (6, [.ref on, .ref op, .int states, .ref orr, .ref ot, .int bytes, .ref oh, .ref og, .ref od, .int reading, .int at_, .int wrongAt, .int number, .long hh])), (on, .inl (k 0, 401, .inl now)), (og, .inl (k 0, 164, .inl res))] tq9.heap) A) ([.ref o, .int a1, .int a2, .int a3] : List Value).toArray s 0 0 A) (F0 m 282 ls [])) → ∀ (n : Nat) (v6 : Int32) (fitting : Nat → Int32), f_X6_findsFitting_L218 fu K v3 v4 v5 now n v6 fitting = some res → ∀ (H : Heap) (locs : List Loc), va_P D vwCl [(o, .inr (6, [.ref on, .ref op, .int states, .ref orr, .ref ot, .int bytes, .ref oh, .ref og, .ref od, .int reading, .int at_, .int wrongAt, .int number, .long hh])), (on, .inl (k 0, 401, .inl now)), (og, .inl (k 0, 164, .inl fitting))] H → va_D A [(o, .inr (6, [.ref on, .ref op, .int states, .ref orr, .ref ot, .int bytes, .ref oh, .ref og, .ref od, .int reading, .int at_, .int wrongAt, .int number, .long hh])), (on, .inl (k 0, 401, .inl now)), (og, .inl (k 0, 164, .inl fitting))] → va_S A s.heap H locs → ∀ ls : Array Slot, lv_has ls 7 [(0, .ref o), (1, .int v1), (2, .int v2), (3, .int v3), (4, .int v4), (5, .int v5), (6, .int v6)] → W p l e (headSpec wk_X6_findsFitting rm_X6_findsFitting).room s m ([.ref o, .int a1, .int a2, .int a3] : List Value).toArray below meth c H locs 0 0 (MQ below (va_Qv (fun (_ : Unit) => True) (fun _ tq9 => va_P D vwCl [(o, .inr (6, [.ref on, .ref op, .int states, .ref orr, .ref ot, .int bytes, .ref oh, .ref og, .ref od, .int reading, .int at_, .int wrongAt, .int number, .long hh])), (on, .inl (k 0, 401, .inl now)), (og, .inl (k 0, 164, .inl res))] tq9.heap) A) ([.ref o, .int a1, .int a2, .int a3] : List Value).toArray s 0 0 A) (F0 m 218 ls []) := by
          intro v1 v2 v3 v4 v5 states bytes reading at_ wrongAt number hh now K hKK n
          induction n with
          | zero =>
            intro v6 fitting h
            rw [f_X6_findsFitting_L218] at h
            cases h
          | succ n ih =>
            intro v6 fitting h H locs hP hD hS ls hl
            rw [f_X6_findsFitting_L218] at h
            refine lv_iload hx hb dX6_findsFitting_218 (lv_at hl 6 rfl) ?_
            refine lv_iconst (v := 2) hx hb dX6_findsFitting_220 (by decide) ?_
            refine lv_icmp_ge (tgt := 282) hx hb dX6_findsFitting_221 (by decide) (fun c15 => ?_) (fun c15 => ?_)
            · have h := zt h c15
              exact hKK _ _ h _ _ hP hD hS _ (lv_sub hl [0, 1, 2, 3, 4, 5, 6] rfl)
            · have h := zf h c15
              refine lv_aload_n hx hb dX6_findsFitting_224 rfl (lv_at hl 0 rfl) ?_
              refine va_get (D := D) (ci := 6) (v := .ref og) (C := RX6) (T := TX6) (N := 14) hx hb ht hiX6 hown hK hP 0 rfl rfl 7 (by decide) (ht _ wb772) (fun _ h9 => h9) rfl dX6_findsFitting_225 ?_
              refine lv_iload_n hx hb dX6_findsFitting_228 rfl (lv_at hl 3 rfl) ?_
              refine lv_bipush (v := 80) hx hb dX6_findsFitting_229 (by decide) ?_
              refine lv_iadd hx hb dX6_findsFitting_231 ?_
              refine lv_iload hx hb dX6_findsFitting_232 (lv_at hl 6 rfl) ?_
              refine lv_iadd hx hb dX6_findsFitting_234 ?_
              refine lv_dup2_11 hx hb dX6_findsFitting_235 rfl rfl ?_
              obtain ⟨hi25, h⟩ := zg h
              refine va_iald hx hb hK hP 2 0 rfl rfl hi25 dX6_findsFitting_236 ?_
              refine lv_aload_n hx hb dX6_findsFitting_237 rfl (lv_at hl 0 rfl) ?_
              refine va_get (D := D) (ci := 6) (v := .ref on) (C := RX6) (T := TX6) (N := 14) hx hb ht hiX6 hown hK hP 0 rfl rfl 0 (by decide) (ht _ wb765) (fun _ h9 => h9) rfl dX6_findsFitting_238 ?_
              refine lv_iload hx hb dX6_findsFitting_241 (lv_at hl 5 rfl) ?_
              refine lv_bipush (v := 8) hx hb dX6_findsFitting_243 (by decide) ?_
              refine lv_iadd hx hb dX6_findsFitting_245 ?_
              obtain ⟨hi26, h⟩ := zg h
              refine va_iald hx hb hK hP 1 0 rfl rfl hi26 dX6_findsFitting_246 ?_
              refine lv_iconst (v := 2) hx hb dX6_findsFitting_247 (by decide) ?_
              refine lv_icmp_eq (tgt := 266) hx hb dX6_findsFitting_248 (by decide) (fun c14 => ?_) (fun c14 => ?_)
              · have h := zt h c14
                refine lv_iconst (v := 1) hx hb dX6_findsFitting_266 (by decide) ?_
                refine lv_iload hx hb dX6_findsFitting_267 (lv_at hl 4 rfl) ?_
                refine lv_ishl hx hb dX6_findsFitting_269 ?_
                refine lv_goto (tgt := 274) hx hb dX6_findsFitting_270 (by decide) ?_
                refine lv_ior hx hb dX6_findsFitting_274 ?_
                obtain ⟨hi27, h⟩ := zg h
                refine va_iast hx hb hK hP hD hS 2 0 rfl rfl hi27 dX6_findsFitting_275 (fun H locs hP hD hS => ?_)
                have hP : va_P D vwCl [(o, .inr (6, [.ref on, .ref op, .int states, .ref orr, .ref ot, .int bytes, .ref oh, .ref og, .ref od, .int reading, .int at_, .int wrongAt, .int number, .long hh])), (on, .inl (k 0, 401, .inl now)), (og, .inl (k 0, 164, .inl (upd fitting (Int32.toNatClampNeg ((v3 + 80) + v6)) ((fitting (Int32.toNatClampNeg ((v3 + 80) + v6))) ||| (1 <<< (v4 &&& 31))))))] H := hP
                have hD : va_D A [(o, .inr (6, [.ref on, .ref op, .int states, .ref orr, .ref ot, .int bytes, .ref oh, .ref og, .ref od, .int reading, .int at_, .int wrongAt, .int number, .long hh])), (on, .inl (k 0, 401, .inl now)), (og, .inl (k 0, 164, .inl (upd fitting (Int32.toNatClampNeg ((v3 + 80) + v6)) ((fitting (Int32.toNatClampNeg ((v3 + 80) + v6))) ||| (1 <<< (v4 &&& 31))))))] := hD
                refine lv_iinc (v := v6 + 1) (lv' := [(6, .int (v6 + 1)), (0, .ref o), (1, .int v1), (2, .int v2), (3, .int v3), (4, .int v4), (5, .int v5)]) hx hb dX6_findsFitting_276 hl (k := 6) rfl rfl (by decide) rfl (fun ls hl => ?_)
                refine lv_goto (tgt := 218) hx hb dX6_findsFitting_279 (by decide) ?_
                exact ih _ _ h _ _ hP hD hS _ (lv_sub hl [1, 2, 3, 4, 5, 6, 0] rfl)
              · have h := zf h c14
                refine lv_aload_n hx hb dX6_findsFitting_251 rfl (lv_at hl 0 rfl) ?_
                refine va_get (D := D) (ci := 6) (v := .ref on) (C := RX6) (T := TX6) (N := 14) hx hb ht hiX6 hown hK hP 0 rfl rfl 0 (by decide) (ht _ wb765) (fun _ h9 => h9) rfl dX6_findsFitting_252 ?_
                refine lv_iload hx hb dX6_findsFitting_255 (lv_at hl 5 rfl) ?_
                refine lv_bipush (v := 8) hx hb dX6_findsFitting_257 (by decide) ?_
                refine lv_iadd hx hb dX6_findsFitting_259 ?_
                obtain ⟨hi28, h⟩ := zg h
                refine va_iald hx hb hK hP 1 0 rfl rfl hi28 dX6_findsFitting_260 ?_
                refine lv_iload hx hb dX6_findsFitting_261 (lv_at hl 6 rfl) ?_
                refine lv_icmp_ne (tgt := 273) hx hb dX6_findsFitting_263 (by decide) (fun c13 => ?_) (fun c13 => ?_)
                · have h := zf h c13
                  refine lv_iconst (v := 0) hx hb dX6_findsFitting_273 (by decide) ?_
                  refine lv_ior hx hb dX6_findsFitting_274 ?_
                  obtain ⟨hi29, h⟩ := zg h
                  refine va_iast hx hb hK hP hD hS 2 0 rfl rfl hi29 dX6_findsFitting_275 (fun H locs hP hD hS => ?_)
                  have hP : va_P D vwCl [(o, .inr (6, [.ref on, .ref op, .int states, .ref orr, .ref ot, .int bytes, .ref oh, .ref og, .ref od, .int reading, .int at_, .int wrongAt, .int number, .long hh])), (on, .inl (k 0, 401, .inl now)), (og, .inl (k 0, 164, .inl (upd fitting (Int32.toNatClampNeg ((v3 + 80) + v6)) ((fitting (Int32.toNatClampNeg ((v3 + 80) + v6))) ||| 0))))] H := hP
                  have hD : va_D A [(o, .inr (6, [.ref on, .ref op, .int states, .ref orr, .ref ot, .int bytes, .ref oh, .ref og, .ref od, .int reading, .int at_, .int wrongAt, .int number, .long hh])), (on, .inl (k 0, 401, .inl now)), (og, .inl (k 0, 164, .inl (upd fitting (Int32.toNatClampNeg ((v3 + 80) + v6)) ((fitting (Int32.toNatClampNeg ((v3 + 80) + v6))) ||| 0))))] := hD
                  refine lv_iinc (v := v6 + 1) (lv' := [(6, .int (v6 + 1)), (0, .ref o), (1, .int v1), (2, .int v2), (3, .int v3), (4, .int v4), (5, .int v5)]) hx hb dX6_findsFitting_276 hl (k := 6) rfl rfl (by decide) rfl (fun ls hl => ?_)
                  refine lv_goto (tgt := 218) hx hb dX6_findsFitting_279 (by decide) ?_
                  exact ih _ _ h _ _ hP hD hS _ (lv_sub hl [1, 2, 3, 4, 5, 6, 0] rfl)
                · have h := zt h c13
                  refine lv_iconst (v := 1) hx hb dX6_findsFitting_266 (by decide) ?_
                  refine lv_iload hx hb dX6_findsFitting_267 (lv_at hl 4 rfl) ?_
                  refine lv_ishl hx hb dX6_findsFitting_269 ?_
                  refine lv_goto (tgt := 274) hx hb dX6_findsFitting_270 (by decide) ?_
                  refine lv_ior hx hb dX6_findsFitting_274 ?_
                  obtain ⟨hi30, h⟩ := zg h
                  refine va_iast hx hb hK hP hD hS 2 0 rfl rfl hi30 dX6_findsFitting_275 (fun H locs hP hD hS => ?_)
                  have hP : va_P D vwCl [(o, .inr (6, [.ref on, .ref op, .int states, .ref orr, .ref ot, .int bytes, .ref oh, .ref og, .ref od, .int reading, .int at_, .int wrongAt, .int number, .long hh])), (on, .inl (k 0, 401, .inl now)), (og, .inl (k 0, 164, .inl (upd fitting (Int32.toNatClampNeg ((v3 + 80) + v6)) ((fitting (Int32.toNatClampNeg ((v3 + 80) + v6))) ||| (1 <<< (v4 &&& 31))))))] H := hP
                  have hD : va_D A [(o, .inr (6, [.ref on, .ref op, .int states, .ref orr, .ref ot, .int bytes, .ref oh, .ref og, .ref od, .int reading, .int at_, .int wrongAt, .int number, .long hh])), (on, .inl (k 0, 401, .inl now)), (og, .inl (k 0, 164, .inl (upd fitting (Int32.toNatClampNeg ((v3 + 80) + v6)) ((fitting (Int32.toNatClampNeg ((v3 + 80) + v6))) ||| (1 <<< (v4 &&& 31))))))] := hD
                  refine lv_iinc (v := v6 + 1) (lv' := [(6, .int (v6 + 1)), (0, .ref o), (1, .int v1), (2, .int v2), (3, .int v3), (4, .int v4), (5, .int v5)]) hx hb dX6_findsFitting_276 hl (k := 6) rfl rfl (by decide) rfl (fun ls hl => ?_)
                  refine lv_goto (tgt := 218) hx hb dX6_findsFitting_279 (by decide) ?_
                  exact ih _ _ h _ _ hP hD hS _ (lv_sub hl [1, 2, 3, 4, 5, 6, 0] rfl)
        refine loop218 _ _ _ _ _ _ _ _ _ _ _ _ _ _ ?_ fu _ _ h _ _ hP hD hS _ (lv_sub hl [1, 2, 3, 4, 5, 6, 0] rfl)
        intro x7 x8 h H locs hP hD hS ls hl
        try dsimp only at h
        have hP : va_P D vwCl [(o, .inr (6, [.ref on, .ref op, .int states, .ref orr, .ref ot, .int bytes, .ref oh, .ref og, .ref od, .int reading, .int at_, .int wrongAt, .int number, .long hh])), (on, .inl (k 0, 401, .inl now)), (og, .inl (k 0, 164, .inl x8))] H := hP
        have hD : va_D A [(o, .inr (6, [.ref on, .ref op, .int states, .ref orr, .ref ot, .int bytes, .ref oh, .ref og, .ref od, .int reading, .int at_, .int wrongAt, .int number, .long hh])), (on, .inl (k 0, 401, .inl now)), (og, .inl (k 0, 164, .inl x8))] := hD
        have hl : lv_has ls 7 [(0, .ref o), (1, .int v1), (2, .int v2), (3, .int v3), (4, .int v4), (5, .int (v1 + (11 * v4))), (6, .int x7)] := hl
        refine lv_iinc (v := v4 + 1) (lv' := [(4, .int (v4 + 1)), (0, .ref o), (1, .int v1), (2, .int v2), (3, .int v3), (5, .int (v1 + (11 * v4))), (6, .int x7)]) hx hb dX6_findsFitting_282 hl (k := 4) rfl rfl (by decide) rfl (fun ls hl => ?_)
        refine lv_goto (tgt := 29) hx hb dX6_findsFitting_285 (by decide) ?_
        exact ih _ _ h _ _ hP hD hS _ (lv_sub hl [1, 2, 3, 4, 0] rfl)
  refine loop29 _ _ _ _ _ _ _ _ _ _ _ _ ?_ fu _ _ h _ _ hP hD hS _ (lv_sub hl [1, 2, 3, 4, 0] rfl)
  intro x9 x10 h H locs hP hD hS ls hl
  try dsimp only at h
  have hP : va_P D vwCl [(o, .inr (6, [.ref on, .ref op, .int states, .ref orr, .ref ot, .int bytes, .ref oh, .ref og, .ref od, .int reading, .int at_, .int wrongAt, .int number, .long hh])), (on, .inl (k 0, 401, .inl now)), (og, .inl (k 0, 164, .inl x10))] H := hP
  have hD : va_D A [(o, .inr (6, [.ref on, .ref op, .int states, .ref orr, .ref ot, .int bytes, .ref oh, .ref og, .ref od, .int reading, .int at_, .int wrongAt, .int number, .long hh])), (on, .inl (k 0, 401, .inl now)), (og, .inl (k 0, 164, .inl x10))] := hD
  have hl : lv_has ls 7 [(0, .ref o), (1, .int a1), (2, .int a2), (3, .int a3), (4, .int x9)] := hl
  obtain rfl := Option.some.inj h
  exact W.vret hx hb hr (fun t ht9 hW => ⟨⟨(), rfl, trivial, zend ht9 hP⟩, hS.F ht9⟩) hS.2.2 dX6_findsFitting_288
def f_X6_findsNow (fu : Nat) (now : Nat → Int32) (fitting : Nat → Int32)  : Option ((Nat → Int32)) :=
  if zok 32 401 then ((f_X6_findsFitting fu now fitting 33 (now (Int32.toNatClampNeg 32)) 0).bind fun r1 => some (r1)) else none
abbrev wk_X6_findsNow : List Cond := Cond.code yX6_findsNow cX6_findsNow 1 none :: WB
abbrev rm_X6_findsNow : Room := { frames := 3, cells := 0, slots := 0, locals := 71 }
set_option maxHeartbeats 4000000 in
set_option maxRecDepth 100000 in
theorem c_X6_findsNow (l : Launch) (D : va_G) (k : Nat → Nat) (o on op orr ot oh og od : Nat) (states : Int32) (bytes : Int32) (reading : Int32) (at_ : Int32) (wrongAt : Int32) (number : Int32) (hh : Int64) (now : Nat → Int32) (fitting : Nat → Int32)  (fu : Nat) {res : (Nat → Int32)} (h : f_X6_findsNow fu now fitting  = some res) : Cv l yX6_findsNow wk_X6_findsNow rm_X6_findsNow D k [.ref o] [(o, .inr (6, [.ref on, .ref op, .int states, .ref orr, .ref ot, .int bytes, .ref oh, .ref og, .ref od, .int reading, .int at_, .int wrongAt, .int number, .long hh])), (on, .inl (k 0, 401, .inl now)), (og, .inl (k 0, 164, .inl fitting))] [(o, .inr (6, [.ref on, .ref op, .int states, .ref orr, .ref ot, .int bytes, .ref oh, .ref og, .ref od, .int reading, .int at_, .int wrongAt, .int number, .long hh])), (on, .inl (k 0, 401, .inl now)), (og, .inl (k 0, 164, .inl res))] := by
  unfold Cv
  intro sz
  refine Met.ofW (cc := cX6_findsNow) (maxL := 1) (ret := none) (by decide) rfl ?_
  intro p e s m args below meth c s₁ B hml hv
  obtain ⟨rfl, hsz, hP, hK, hD0, hm⟩ := hv
  have hx := B.exec
  have hb := B.bytes
  have hr := B.returns
  have ht : ∀ w ∈ WB, w.before _ s = true := fun w hw => atoms_spec (ws := wk_X6_findsNow) B.pre w (List.mem_cons_of_mem _ hw)
  have hown : s.vm.findClass RX6 = some m.cls := findClass_of_methodNamed B.named
  have hlocks := B.notSynchronized
  subst hsz
  have hD := hD0.self (sz := s.heap.size)
  generalize hAe : va_A [(o, .inr (6, [.ref on, .ref op, .int states, .ref orr, .ref ot, .int bytes, .ref oh, .ref og, .ref od, .int reading, .int at_, .int wrongAt, .int number, .long hh])), (on, .inl (k 0, 401, .inl now)), (og, .inl (k 0, 164, .inl fitting))] s.heap.size = A at hD hm ⊢
  have hA : ∀ q : Nat, s.heap.size ≤ q → A q := fun q h => by rw [← hAe]; exact Or.inr h
  have hS : va_S A s.heap s.heap [] := va_S.rf
  have hl := lv_entry ([.ref o]) (n := 1) (Nat.le_of_ble_eq_true rfl)
  rw [lg_entry_eq]
  generalize (lg_sl ([.ref o]) ++ List.replicate (1 - (lg_sl ([.ref o])).length) Slot.unset).toArray = ls at hl ⊢
  have hl : lv_has ls 1 [(0, .ref o)] := hl
  obtain ⟨H, hH⟩ : ∃ H, H = s.heap := ⟨_, rfl⟩
  rw [← hH] at hP
  have hS : va_S A s.heap H [] := by rw [hH]; exact hS
  suffices hgo : W p l e _ s m _ below meth c H [] 0 0 _ _ by rw [hH] at hgo; exact hgo
  unfold f_X6_findsNow at h
  refine lv_aload_n hx hb dX6_findsNow_0 rfl (lv_at hl 0 rfl) ?_
  refine lv_bipush (v := 33) hx hb dX6_findsNow_1 (by decide) ?_
  refine lv_aload_n hx hb dX6_findsNow_3 rfl (lv_at hl 0 rfl) ?_
  refine va_get (D := D) (ci := 6) (v := .ref on) (C := RX6) (T := TX6) (N := 14) hx hb ht hiX6 hown hK hP 0 rfl rfl 0 (by decide) (ht _ wb765) (fun _ h9 => h9) rfl dX6_findsNow_4 ?_
  refine lv_bipush (v := 32) hx hb dX6_findsNow_7 (by decide) ?_
  obtain ⟨hi1, h⟩ := zg h
  refine va_iald hx hb hK hP 1 0 rfl rfl hi1 dX6_findsNow_9 ?_
  refine lv_iconst (v := 0) hx hb dX6_findsNow_10 (by decide) ?_
  obtain ⟨r1, h1, h⟩ := zb h
  refine zv (zrV (C := RX6) (T := TX6) (N := 14) (As := [.int 33, .int (now (Int32.toNatClampNeg 32)), .int 0]) (rest := []) ⟨hx, hb, hml, hown, ht⟩ (c_X6_findsFitting l D k o on op orr ot oh og od states bytes reading at_ wrongAt number hh now fitting 33 (now (Int32.toNatClampNeg 32)) 0 fu h1 _) (cwV 3 ht (gdV wb903 wb905 wb37 wb80 wb906) rfl rfl rfl (by decide +kernel) ⟨Nat.le_of_ble_eq_true rfl, Nat.le_of_ble_eq_true rfl⟩) hK hP hD hS hA hm [0, 1, 2] rfl rfl 0 6 rfl rfl rfl hl.1 rfl (Nat.le_of_ble_eq_true rfl) dX6_findsNow_11 ⟨Nat.le_refl _, Nat.le_refl _⟩) hP hD hS hA [0, 1, 2] rfl rfl (fun H locs hP hD hS => ?_)
  have hP : va_P D vwCl [(o, .inr (6, [.ref on, .ref op, .int states, .ref orr, .ref ot, .int bytes, .ref oh, .ref og, .ref od, .int reading, .int at_, .int wrongAt, .int number, .long hh])), (on, .inl (k 0, 401, .inl now)), (og, .inl (k 0, 164, .inl r1))] H := hP
  have hD : va_D A [(o, .inr (6, [.ref on, .ref op, .int states, .ref orr, .ref ot, .int bytes, .ref oh, .ref og, .ref od, .int reading, .int at_, .int wrongAt, .int number, .long hh])), (on, .inl (k 0, 401, .inl now)), (og, .inl (k 0, 164, .inl r1))] := hD
  obtain rfl := Option.some.inj h
  exact W.vret hx hb hr (fun t ht9 hW => ⟨⟨(), rfl, trivial, zend ht9 hP⟩, hS.F ht9⟩) hS.2.2 dX6_findsNow_14
def f_X6_fits (fitting : Nat → Int32) (a1 : Int32) (a2 : Int32) : Option (Int32) :=
  (f_X6_sourceOf  a2).bind fun r1 => if zok (a1 + r1) 164 then ((f_X6_goalOf  a2).bind fun r2 => if zok ((a1 + 32) + r2) 164 then ((f_X6_portOf  a2).bind fun r3 => if zok ((a1 + 64) + r3) 164 then (if zok ((a1 + 80) + (a2 - a2 / 2 * 2)) 164 then (some ((((fitting (Int32.toNatClampNeg (a1 + r1))) &&& (fitting (Int32.toNatClampNeg ((a1 + 32) + r2)))) &&& (fitting (Int32.toNatClampNeg ((a1 + 64) + r3)))) &&& (fitting (Int32.toNatClampNeg ((a1 + 80) + (a2 - a2 / 2 * 2)))))) else none) else none) else none) else none
abbrev wk_X6_fits : List Cond := Cond.code yX6_fits cX6_fits 3 (some .int) :: WB
abbrev rm_X6_fits : Room := { frames := 1, cells := 0, slots := 0, locals := 20 }
set_option maxHeartbeats 4000000 in
set_option maxRecDepth 100000 in
theorem c_X6_fits (l : Launch) (D : va_G) (k : Nat → Nat) (o on op orr ot oh og od : Nat) (states : Int32) (bytes : Int32) (reading : Int32) (at_ : Int32) (wrongAt : Int32) (number : Int32) (hh : Int64) (fitting : Nat → Int32) (a1 : Int32) (a2 : Int32) {res : Int32} (h : f_X6_fits fitting a1 a2 = some res) : Ci l yX6_fits wk_X6_fits rm_X6_fits D k [.ref o, .int a1, .int a2] [(o, .inr (6, [.ref on, .ref op, .int states, .ref orr, .ref ot, .int bytes, .ref oh, .ref og, .ref od, .int reading, .int at_, .int wrongAt, .int number, .long hh])), (og, .inl (k 0, 164, .inl fitting))] [(o, .inr (6, [.ref on, .ref op, .int states, .ref orr, .ref ot, .int bytes, .ref oh, .ref og, .ref od, .int reading, .int at_, .int wrongAt, .int number, .long hh])), (og, .inl (k 0, 164, .inl fitting))] res := by
  unfold Ci
  intro sz
  refine Met.ofW (cc := cX6_fits) (maxL := 3) (ret := (some .int)) (by decide) rfl ?_
  intro p e s m args below meth c s₁ B hml hv
  obtain ⟨rfl, hsz, hP, hK, hD0, hm⟩ := hv
  have hx := B.exec
  have hb := B.bytes
  have hr := B.returns
  have ht : ∀ w ∈ WB, w.before _ s = true := fun w hw => atoms_spec (ws := wk_X6_fits) B.pre w (List.mem_cons_of_mem _ hw)
  have hown : s.vm.findClass RX6 = some m.cls := findClass_of_methodNamed B.named
  have hlocks := B.notSynchronized
  subst hsz
  have hD := hD0.self (sz := s.heap.size)
  generalize hAe : va_A [(o, .inr (6, [.ref on, .ref op, .int states, .ref orr, .ref ot, .int bytes, .ref oh, .ref og, .ref od, .int reading, .int at_, .int wrongAt, .int number, .long hh])), (og, .inl (k 0, 164, .inl fitting))] s.heap.size = A at hD hm ⊢
  have hA : ∀ q : Nat, s.heap.size ≤ q → A q := fun q h => by rw [← hAe]; exact Or.inr h
  have hS : va_S A s.heap s.heap [] := va_S.rf
  have hl := lv_entry ([.ref o, .int a1, .int a2]) (n := 3) (Nat.le_of_ble_eq_true rfl)
  rw [lg_entry_eq]
  generalize (lg_sl ([.ref o, .int a1, .int a2]) ++ List.replicate (3 - (lg_sl ([.ref o, .int a1, .int a2])).length) Slot.unset).toArray = ls at hl ⊢
  have hl : lv_has ls 3 [(0, .ref o), (1, .int a1), (2, .int a2)] := hl
  obtain ⟨H, hH⟩ : ∃ H, H = s.heap := ⟨_, rfl⟩
  rw [← hH] at hP
  have hS : va_S A s.heap H [] := by rw [hH]; exact hS
  suffices hgo : W p l e _ s m _ below meth c H [] 0 0 _ _ by rw [hH] at hgo; exact hgo
  unfold f_X6_fits at h
  refine lv_aload_n hx hb dX6_fits_0 rfl (lv_at hl 0 rfl) ?_
  refine va_get (D := D) (ci := 6) (v := .ref og) (C := RX6) (T := TX6) (N := 14) hx hb ht hiX6 hown hK hP 0 rfl rfl 7 (by decide) (ht _ wb772) (fun _ h9 => h9) rfl dX6_fits_1 ?_
  refine lv_iload_n hx hb dX6_fits_4 rfl (lv_at hl 1 rfl) ?_
  refine lv_iload_n hx hb dX6_fits_5 rfl (lv_at hl 2 rfl) ?_
  obtain ⟨r1, h1, h⟩ := zb h
  refine zi (zrS (As := [.int a2]) (rest := [.int a1, .ref og]) ⟨hx, hb, hml, hown, ht⟩ (c_X6_sourceOf l D k   a2 h1 _) (va_cwS 1 ht (gdS wb922 wb923 wb80 wb924) rfl rfl rfl (by decide +kernel) ⟨Nat.le_of_ble_eq_true rfl, Nat.le_of_ble_eq_true rfl⟩) hK hP hD hS hA hm [] rfl rfl rfl hl.1 rfl (Nat.le_of_ble_eq_true rfl) dX6_fits_6 ⟨Nat.le_refl _, Nat.le_refl _⟩) hP hD hS hA [] rfl rfl (fun H locs hP hD hS => ?_)
  have hP : va_P D vwCl [(o, .inr (6, [.ref on, .ref op, .int states, .ref orr, .ref ot, .int bytes, .ref oh, .ref og, .ref od, .int reading, .int at_, .int wrongAt, .int number, .long hh])), (og, .inl (k 0, 164, .inl fitting))] H := hP
  have hD : va_D A [(o, .inr (6, [.ref on, .ref op, .int states, .ref orr, .ref ot, .int bytes, .ref oh, .ref og, .ref od, .int reading, .int at_, .int wrongAt, .int number, .long hh])), (og, .inl (k 0, 164, .inl fitting))] := hD
  refine lv_iadd hx hb dX6_fits_9 ?_
  obtain ⟨hi1, h⟩ := zg h
  refine va_iald hx hb hK hP 1 0 rfl rfl hi1 dX6_fits_10 ?_
  refine lv_aload_n hx hb dX6_fits_11 rfl (lv_at hl 0 rfl) ?_
  refine va_get (D := D) (ci := 6) (v := .ref og) (C := RX6) (T := TX6) (N := 14) hx hb ht hiX6 hown hK hP 0 rfl rfl 7 (by decide) (ht _ wb772) (fun _ h9 => h9) rfl dX6_fits_12 ?_
  refine lv_iload_n hx hb dX6_fits_15 rfl (lv_at hl 1 rfl) ?_
  refine lv_bipush (v := 32) hx hb dX6_fits_16 (by decide) ?_
  refine lv_iadd hx hb dX6_fits_18 ?_
  refine lv_iload_n hx hb dX6_fits_19 rfl (lv_at hl 2 rfl) ?_
  obtain ⟨r2, h2, h⟩ := zb h
  refine zi (zrS (As := [.int a2]) (rest := [.int (a1 + 32), .ref og, .int (fitting (Int32.toNatClampNeg (a1 + r1)))]) ⟨hx, hb, hml, hown, ht⟩ (c_X6_goalOf l D k   a2 h2 _) (va_cwS 1 ht (gdS wb925 wb926 wb80 wb927) rfl rfl rfl (by decide +kernel) ⟨Nat.le_of_ble_eq_true rfl, Nat.le_of_ble_eq_true rfl⟩) hK hP hD hS hA hm [] rfl rfl rfl hl.1 rfl (Nat.le_of_ble_eq_true rfl) dX6_fits_20 ⟨Nat.le_refl _, Nat.le_refl _⟩) hP hD hS hA [] rfl rfl (fun H locs hP hD hS => ?_)
  have hP : va_P D vwCl [(o, .inr (6, [.ref on, .ref op, .int states, .ref orr, .ref ot, .int bytes, .ref oh, .ref og, .ref od, .int reading, .int at_, .int wrongAt, .int number, .long hh])), (og, .inl (k 0, 164, .inl fitting))] H := hP
  have hD : va_D A [(o, .inr (6, [.ref on, .ref op, .int states, .ref orr, .ref ot, .int bytes, .ref oh, .ref og, .ref od, .int reading, .int at_, .int wrongAt, .int number, .long hh])), (og, .inl (k 0, 164, .inl fitting))] := hD
  refine lv_iadd hx hb dX6_fits_23 ?_
  obtain ⟨hi2, h⟩ := zg h
  refine va_iald hx hb hK hP 1 0 rfl rfl hi2 dX6_fits_24 ?_
  refine lv_iand hx hb dX6_fits_25 ?_
  refine lv_aload_n hx hb dX6_fits_26 rfl (lv_at hl 0 rfl) ?_
  refine va_get (D := D) (ci := 6) (v := .ref og) (C := RX6) (T := TX6) (N := 14) hx hb ht hiX6 hown hK hP 0 rfl rfl 7 (by decide) (ht _ wb772) (fun _ h9 => h9) rfl dX6_fits_27 ?_
  refine lv_iload_n hx hb dX6_fits_30 rfl (lv_at hl 1 rfl) ?_
  refine lv_bipush (v := 64) hx hb dX6_fits_31 (by decide) ?_
  refine lv_iadd hx hb dX6_fits_33 ?_
  refine lv_iload_n hx hb dX6_fits_34 rfl (lv_at hl 2 rfl) ?_
  obtain ⟨r3, h3, h⟩ := zb h
  refine zi (zrS (As := [.int a2]) (rest := [.int (a1 + 64), .ref og, .int ((fitting (Int32.toNatClampNeg (a1 + r1))) &&& (fitting (Int32.toNatClampNeg ((a1 + 32) + r2))))]) ⟨hx, hb, hml, hown, ht⟩ (c_X6_portOf l D k   a2 h3 _) (va_cwS 1 ht (gdS wb928 wb929 wb80 wb930) rfl rfl rfl (by decide +kernel) ⟨Nat.le_of_ble_eq_true rfl, Nat.le_of_ble_eq_true rfl⟩) hK hP hD hS hA hm [] rfl rfl rfl hl.1 rfl (Nat.le_of_ble_eq_true rfl) dX6_fits_35 ⟨Nat.le_refl _, Nat.le_refl _⟩) hP hD hS hA [] rfl rfl (fun H locs hP hD hS => ?_)
  have hP : va_P D vwCl [(o, .inr (6, [.ref on, .ref op, .int states, .ref orr, .ref ot, .int bytes, .ref oh, .ref og, .ref od, .int reading, .int at_, .int wrongAt, .int number, .long hh])), (og, .inl (k 0, 164, .inl fitting))] H := hP
  have hD : va_D A [(o, .inr (6, [.ref on, .ref op, .int states, .ref orr, .ref ot, .int bytes, .ref oh, .ref og, .ref od, .int reading, .int at_, .int wrongAt, .int number, .long hh])), (og, .inl (k 0, 164, .inl fitting))] := hD
  refine lv_iadd hx hb dX6_fits_38 ?_
  obtain ⟨hi3, h⟩ := zg h
  refine va_iald hx hb hK hP 1 0 rfl rfl hi3 dX6_fits_39 ?_
  refine lv_iand hx hb dX6_fits_40 ?_
  refine lv_aload_n hx hb dX6_fits_41 rfl (lv_at hl 0 rfl) ?_
  refine va_get (D := D) (ci := 6) (v := .ref og) (C := RX6) (T := TX6) (N := 14) hx hb ht hiX6 hown hK hP 0 rfl rfl 7 (by decide) (ht _ wb772) (fun _ h9 => h9) rfl dX6_fits_42 ?_
  refine lv_iload_n hx hb dX6_fits_45 rfl (lv_at hl 1 rfl) ?_
  refine lv_bipush (v := 80) hx hb dX6_fits_46 (by decide) ?_
  refine lv_iadd hx hb dX6_fits_48 ?_
  refine lv_iload_n hx hb dX6_fits_49 rfl (lv_at hl 2 rfl) ?_
  refine lv_iconst (v := 2) hx hb dX6_fits_50 (by decide) ?_
  refine lv_irem hx hb dX6_fits_51 (by decide) ?_
  refine lv_iadd hx hb dX6_fits_52 ?_
  obtain ⟨hi4, h⟩ := zg h
  refine va_iald hx hb hK hP 1 0 rfl rfl hi4 dX6_fits_53 ?_
  refine lv_iand hx hb dX6_fits_54 ?_
  obtain rfl := Option.some.inj h
  exact W.iret (v := (((fitting (Int32.toNatClampNeg (a1 + r1))) &&& (fitting (Int32.toNatClampNeg ((a1 + 32) + r2)))) &&& (fitting (Int32.toNatClampNeg ((a1 + 64) + r3)))) &&& (fitting (Int32.toNatClampNeg ((a1 + 80) + (a2 - a2 / 2 * 2))))) hx hb hr (fun t ht9 hW => ⟨⟨_, (), rfl, rfl, zend ht9 hP⟩, hS.F ht9⟩) hS.2.2 dX6_fits_55
def f_X6_actionBy (fu : Nat) (now : Nat → Int32) (a1 : Int32) (a2 : Int32) : Option (Int32) :=
  (f_X6_firstOf fu  a2).bind fun r1 => if 0 ≤ r1 then (if zok ((a1 + (11 * r1)) + 9) 401 then (some (now (Int32.toNatClampNeg ((a1 + (11 * r1)) + 9)))) else none) else (some (0))
abbrev wk_X6_actionBy : List Cond := Cond.code yX6_actionBy cX6_actionBy 4 (some .int) :: WB
abbrev rm_X6_actionBy : Room := { frames := 1, cells := 0, slots := 0, locals := 21 }
set_option maxHeartbeats 4000000 in
set_option maxRecDepth 100000 in
theorem c_X6_actionBy (l : Launch) (D : va_G) (k : Nat → Nat) (o on op orr ot oh og od : Nat) (states : Int32) (bytes : Int32) (reading : Int32) (at_ : Int32) (wrongAt : Int32) (number : Int32) (hh : Int64) (now : Nat → Int32) (a1 : Int32) (a2 : Int32) (fu : Nat) {res : Int32} (h : f_X6_actionBy fu now a1 a2 = some res) : Ci l yX6_actionBy wk_X6_actionBy rm_X6_actionBy D k [.ref o, .int a1, .int a2] [(o, .inr (6, [.ref on, .ref op, .int states, .ref orr, .ref ot, .int bytes, .ref oh, .ref og, .ref od, .int reading, .int at_, .int wrongAt, .int number, .long hh])), (on, .inl (k 0, 401, .inl now))] [(o, .inr (6, [.ref on, .ref op, .int states, .ref orr, .ref ot, .int bytes, .ref oh, .ref og, .ref od, .int reading, .int at_, .int wrongAt, .int number, .long hh])), (on, .inl (k 0, 401, .inl now))] res := by
  unfold Ci
  intro sz
  refine Met.ofW (cc := cX6_actionBy) (maxL := 4) (ret := (some .int)) (by decide) rfl ?_
  intro p e s m args below meth c s₁ B hml hv
  obtain ⟨rfl, hsz, hP, hK, hD0, hm⟩ := hv
  have hx := B.exec
  have hb := B.bytes
  have hr := B.returns
  have ht : ∀ w ∈ WB, w.before _ s = true := fun w hw => atoms_spec (ws := wk_X6_actionBy) B.pre w (List.mem_cons_of_mem _ hw)
  have hown : s.vm.findClass RX6 = some m.cls := findClass_of_methodNamed B.named
  have hlocks := B.notSynchronized
  subst hsz
  have hD := hD0.self (sz := s.heap.size)
  generalize hAe : va_A [(o, .inr (6, [.ref on, .ref op, .int states, .ref orr, .ref ot, .int bytes, .ref oh, .ref og, .ref od, .int reading, .int at_, .int wrongAt, .int number, .long hh])), (on, .inl (k 0, 401, .inl now))] s.heap.size = A at hD hm ⊢
  have hA : ∀ q : Nat, s.heap.size ≤ q → A q := fun q h => by rw [← hAe]; exact Or.inr h
  have hS : va_S A s.heap s.heap [] := va_S.rf
  have hl := lv_entry ([.ref o, .int a1, .int a2]) (n := 4) (Nat.le_of_ble_eq_true rfl)
  rw [lg_entry_eq]
  generalize (lg_sl ([.ref o, .int a1, .int a2]) ++ List.replicate (4 - (lg_sl ([.ref o, .int a1, .int a2])).length) Slot.unset).toArray = ls at hl ⊢
  have hl : lv_has ls 4 [(0, .ref o), (1, .int a1), (2, .int a2)] := hl
  obtain ⟨H, hH⟩ : ∃ H, H = s.heap := ⟨_, rfl⟩
  rw [← hH] at hP
  have hS : va_S A s.heap H [] := by rw [hH]; exact hS
  suffices hgo : W p l e _ s m _ below meth c H [] 0 0 _ _ by rw [hH] at hgo; exact hgo
  unfold f_X6_actionBy at h
  refine lv_iload_n hx hb dX6_actionBy_0 rfl (lv_at hl 2 rfl) ?_
  obtain ⟨r1, h1, h⟩ := zb h
  refine zi (zrS (As := [.int a2]) (rest := []) ⟨hx, hb, hml, hown, ht⟩ (c_X6_firstOf l D k   a2 fu h1 _) (va_cwS 1 ht (gdS wb931 wb932 wb80 wb933) rfl rfl rfl (by decide +kernel) ⟨Nat.le_of_ble_eq_true rfl, Nat.le_of_ble_eq_true rfl⟩) hK hP hD hS hA hm [] rfl rfl rfl hl.1 rfl (Nat.le_of_ble_eq_true rfl) dX6_actionBy_1 ⟨Nat.le_refl _, Nat.le_refl _⟩) hP hD hS hA [] rfl rfl (fun H locs hP hD hS => ?_)
  have hP : va_P D vwCl [(o, .inr (6, [.ref on, .ref op, .int states, .ref orr, .ref ot, .int bytes, .ref oh, .ref og, .ref od, .int reading, .int at_, .int wrongAt, .int number, .long hh])), (on, .inl (k 0, 401, .inl now))] H := hP
  have hD : va_D A [(o, .inr (6, [.ref on, .ref op, .int states, .ref orr, .ref ot, .int bytes, .ref oh, .ref og, .ref od, .int reading, .int at_, .int wrongAt, .int number, .long hh])), (on, .inl (k 0, 401, .inl now))] := hD
  refine lv_istore_n (lv' := [(3, .int r1), (0, .ref o), (1, .int a1), (2, .int a2)]) hx hb dX6_actionBy_4 rfl hl (by decide) rfl (fun ls hl => ?_)
  refine lv_iload_n hx hb dX6_actionBy_5 rfl (lv_at hl 0 rfl) ?_
  refine lv_if_ge (tgt := 13) hx hb dX6_actionBy_6 (by decide) (fun c1 => ?_) (fun c1 => ?_)
  · have h := zt h c1
    refine lv_aload_n hx hb dX6_actionBy_13 rfl (lv_at hl 1 rfl) ?_
    refine va_get (D := D) (ci := 6) (v := .ref on) (C := RX6) (T := TX6) (N := 14) hx hb ht hiX6 hown hK hP 0 rfl rfl 0 (by decide) (ht _ wb765) (fun _ h9 => h9) rfl dX6_actionBy_14 ?_
    refine lv_iload_n hx hb dX6_actionBy_17 rfl (lv_at hl 2 rfl) ?_
    refine lv_bipush (v := 11) hx hb dX6_actionBy_18 (by decide) ?_
    refine lv_iload_n hx hb dX6_actionBy_20 rfl (lv_at hl 0 rfl) ?_
    refine lv_imul hx hb dX6_actionBy_21 ?_
    refine lv_iadd hx hb dX6_actionBy_22 ?_
    refine lv_bipush (v := 9) hx hb dX6_actionBy_23 (by decide) ?_
    refine lv_iadd hx hb dX6_actionBy_25 ?_
    obtain ⟨hi1, h⟩ := zg h
    refine va_iald hx hb hK hP 1 0 rfl rfl hi1 dX6_actionBy_26 ?_
    obtain rfl := Option.some.inj h
    exact W.iret (v := now (Int32.toNatClampNeg ((a1 + (11 * r1)) + 9))) hx hb hr (fun t ht9 hW => ⟨⟨_, (), rfl, rfl, zend ht9 hP⟩, hS.F ht9⟩) hS.2.2 dX6_actionBy_27
  · have h := zf h c1
    refine lv_iconst (v := 0) hx hb dX6_actionBy_9 (by decide) ?_
    refine lv_goto (tgt := 27) hx hb dX6_actionBy_10 (by decide) ?_
    obtain rfl := Option.some.inj h
    exact W.iret (v := 0) hx hb hr (fun t ht9 hW => ⟨⟨_, (), rfl, rfl, zend ht9 hP⟩, hS.F ht9⟩) hS.2.2 dX6_actionBy_27
