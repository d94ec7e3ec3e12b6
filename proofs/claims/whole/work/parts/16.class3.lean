def f_X4_length (txn : Int32)  : Option (Int32) :=
  some (txn)
abbrev wk_X4_length : List Cond := Cond.code yX4_length cX4_length 1 (some .int) :: WB
abbrev rm_X4_length : Room := { frames := 0, cells := 0, slots := 0, locals := 0 }
set_option maxHeartbeats 4000000 in
set_option maxRecDepth 100000 in
theorem c_X4_length (l : Launch) (D : va_G) (k : Nat → Nat) (tx txb txt : Nat) (txn : Int32) (txp : Int32) (txg : Int32) (txe : Int32)  {res : Int32} (h : f_X4_length txn  = some res) : Ci l yX4_length wk_X4_length rm_X4_length D k [.ref tx] [(tx, .inr (4, [.ref txb, .ref txt, .int txn, .int txp, .int txg, .int txe]))] [(tx, .inr (4, [.ref txb, .ref txt, .int txn, .int txp, .int txg, .int txe]))] res := by
  unfold Ci
  intro sz
  refine Met.ofW (cc := cX4_length) (maxL := 1) (ret := (some .int)) (by decide) rfl ?_
  intro p e s m args below meth c s₁ B hml hv
  obtain ⟨rfl, hsz, hP, hK, hD0, hm⟩ := hv
  have hx := B.exec
  have hb := B.bytes
  have hr := B.returns
  have ht : ∀ w ∈ WB, w.before _ s = true := fun w hw => atoms_spec (ws := wk_X4_length) B.pre w (List.mem_cons_of_mem _ hw)
  have hown : s.vm.findClass RX4 = some m.cls := findClass_of_methodNamed B.named
  have hlocks := B.notSynchronized
  subst hsz
  have hD := hD0.self (sz := s.heap.size)
  generalize hAe : va_A [(tx, .inr (4, [.ref txb, .ref txt, .int txn, .int txp, .int txg, .int txe]))] s.heap.size = A at hD hm ⊢
  have hA : ∀ q : Nat, s.heap.size ≤ q → A q := fun q h => by rw [← hAe]; exact Or.inr h
  have hS : va_S A s.heap s.heap [] := va_S.rf
  have hl := lv_entry ([.ref tx]) (n := 1) (Nat.le_of_ble_eq_true rfl)
  rw [lg_entry_eq]
  generalize (lg_sl ([.ref tx]) ++ List.replicate (1 - (lg_sl ([.ref tx])).length) Slot.unset).toArray = ls at hl ⊢
  have hl : lv_has ls 1 [(0, .ref tx)] := hl
  obtain ⟨H, hH⟩ : ∃ H, H = s.heap := ⟨_, rfl⟩
  rw [← hH] at hP
  have hS : va_S A s.heap H [] := by rw [hH]; exact hS
  suffices hgo : W p l e _ s m _ below meth c H [] 0 0 _ _ by rw [hH] at hgo; exact hgo
  unfold f_X4_length at h
  refine lv_aload_n hx hb dX4_length_0 rfl (lv_at hl 0 rfl) ?_
  refine va_get (D := D) (ci := 4) (v := .int txn) (C := RX4) (T := TX4) (N := 6) hx hb ht hiX4 hown hK hP 0 rfl rfl 2 (by decide) (ht _ wb191) (fun _ h9 => h9) rfl dX4_length_1 ?_
  obtain rfl := Option.some.inj h
  exact W.iret (v := txn) hx hb hr (fun t ht9 hW => ⟨⟨_, (), rfl, rfl, zend ht9 hP⟩, hS.F ht9⟩) hS.2.2 dX4_length_4
def f_X4_append (txn : Int32) (txbf : Nat → Int32) (a1 : Int32) : Option (Int32 × (Nat → Int32)) :=
  (f_X5_within  txn 0 119).bind fun r1 => if (zB r1) = 0 then (some (txn, txbf)) else (if zok txn 120 then (some (txn + 1, upd txbf (Int32.toNatClampNeg txn) a1)) else none)
abbrev wk_X4_append : List Cond := Cond.code yX4_append cX4_append 2 none :: WB
abbrev rm_X4_append : Room := { frames := 1, cells := 0, slots := 0, locals := 22 }
set_option maxHeartbeats 4000000 in
set_option maxRecDepth 100000 in
theorem c_X4_append (l : Launch) (D : va_G) (k : Nat → Nat) (tx txb txt : Nat) (txn : Int32) (txp : Int32) (txg : Int32) (txe : Int32) (txbf : Nat → Int32) (a1 : Int32) {res : Int32 × (Nat → Int32)} (h : f_X4_append txn txbf a1 = some res) : Cv l yX4_append wk_X4_append rm_X4_append D k [.ref tx, .int a1] [(tx, .inr (4, [.ref txb, .ref txt, .int txn, .int txp, .int txg, .int txe])), (txb, .inl (k 0, 120, .inl txbf))] [(tx, .inr (4, [.ref txb, .ref txt, .int res.1, .int txp, .int txg, .int txe])), (txb, .inl (k 0, 120, .inl res.2))] := by
  unfold Cv
  intro sz
  refine Met.ofW (cc := cX4_append) (maxL := 2) (ret := none) (by decide) rfl ?_
  intro p e s m args below meth c s₁ B hml hv
  obtain ⟨rfl, hsz, hP, hK, hD0, hm⟩ := hv
  have hx := B.exec
  have hb := B.bytes
  have hr := B.returns
  have ht : ∀ w ∈ WB, w.before _ s = true := fun w hw => atoms_spec (ws := wk_X4_append) B.pre w (List.mem_cons_of_mem _ hw)
  have hown : s.vm.findClass RX4 = some m.cls := findClass_of_methodNamed B.named
  have hlocks := B.notSynchronized
  subst hsz
  have hD := hD0.self (sz := s.heap.size)
  generalize hAe : va_A [(tx, .inr (4, [.ref txb, .ref txt, .int txn, .int txp, .int txg, .int txe])), (txb, .inl (k 0, 120, .inl txbf))] s.heap.size = A at hD hm ⊢
  have hA : ∀ q : Nat, s.heap.size ≤ q → A q := fun q h => by rw [← hAe]; exact Or.inr h
  have hS : va_S A s.heap s.heap [] := va_S.rf
  have hl := lv_entry ([.ref tx, .int a1]) (n := 2) (Nat.le_of_ble_eq_true rfl)
  rw [lg_entry_eq]
  generalize (lg_sl ([.ref tx, .int a1]) ++ List.replicate (2 - (lg_sl ([.ref tx, .int a1])).length) Slot.unset).toArray = ls at hl ⊢
  have hl : lv_has ls 2 [(0, .ref tx), (1, .int a1)] := hl
  obtain ⟨H, hH⟩ : ∃ H, H = s.heap := ⟨_, rfl⟩
  rw [← hH] at hP
  have hS : va_S A s.heap H [] := by rw [hH]; exact hS
  suffices hgo : W p l e _ s m _ below meth c H [] 0 0 _ _ by rw [hH] at hgo; exact hgo
  unfold f_X4_append at h
  refine lv_aload_n hx hb dX4_append_0 rfl (lv_at hl 0 rfl) ?_
  refine va_get (D := D) (ci := 4) (v := .int txn) (C := RX4) (T := TX4) (N := 6) hx hb ht hiX4 hown hK hP 0 rfl rfl 2 (by decide) (ht _ wb191) (fun _ h9 => h9) rfl dX4_append_1 ?_
  refine lv_iconst (v := 0) hx hb dX4_append_4 (by decide) ?_
  refine lv_bipush (v := 119) hx hb dX4_append_5 (by decide) ?_
  obtain ⟨r1, h1, h⟩ := zb h
  refine zi (zrN (As := [.int txn, .int 0, .int 119]) (rest := []) ⟨hx, hb, hml, hown, ht⟩ (c_X5_within l D k   txn 0 119 h1 _) ⟨va_cnB 3 ht (gdN wb270) rfl rfl rfl (hm.1 _ (List.mem_of_getElem? (i := 19) rfl)) (ht _ wb72) (by decide +kernel) ⟨Nat.le_of_ble_eq_true rfl, Nat.le_of_ble_eq_true rfl⟩, ht _ wb269, trivial⟩ hK hP hD hS hA hm [] rfl rfl rfl hl.1 rfl (Nat.le_of_ble_eq_true rfl) dX4_append_7 ⟨Nat.le_refl _, Nat.le_refl _⟩) hP hD hS hA [] rfl rfl (fun H locs hP hD hS => ?_)
  have hP : va_P D vwCl [(tx, .inr (4, [.ref txb, .ref txt, .int txn, .int txp, .int txg, .int txe])), (txb, .inl (k 0, 120, .inl txbf))] H := hP
  have hD : va_D A [(tx, .inr (4, [.ref txb, .ref txt, .int txn, .int txp, .int txg, .int txe])), (txb, .inl (k 0, 120, .inl txbf))] := hD
  refine lv_if_eq (tgt := 33) hx hb dX4_append_10 (by decide) (fun c1 => ?_) (fun c1 => ?_)
  · have h := zt h c1
    obtain rfl := Option.some.inj h
    exact W.vret hx hb hr (fun t ht9 hW => ⟨⟨(), rfl, trivial, zend ht9 hP⟩, hS.F ht9⟩) hS.2.2 dX4_append_33
  · have h := zf h c1
    refine lv_aload_n hx hb dX4_append_13 rfl (lv_at hl 0 rfl) ?_
    refine va_get (D := D) (ci := 4) (v := .ref txb) (C := RX4) (T := TX4) (N := 6) hx hb ht hiX4 hown hK hP 0 rfl rfl 0 (by decide) (ht _ wb188) (fun _ h9 => h9) rfl dX4_append_14 ?_
    refine lv_aload_n hx hb dX4_append_17 rfl (lv_at hl 0 rfl) ?_
    refine va_get (D := D) (ci := 4) (v := .int txn) (C := RX4) (T := TX4) (N := 6) hx hb ht hiX4 hown hK hP 0 rfl rfl 2 (by decide) (ht _ wb191) (fun _ h9 => h9) rfl dX4_append_18 ?_
    refine lv_iload_n hx hb dX4_append_21 rfl (lv_at hl 1 rfl) ?_
    obtain ⟨hi1, h⟩ := zg h
    refine va_iast hx hb hK hP hD hS 1 0 rfl rfl hi1 dX4_append_22 (fun H locs hP hD hS => ?_)
    have hP : va_P D vwCl [(tx, .inr (4, [.ref txb, .ref txt, .int txn, .int txp, .int txg, .int txe])), (txb, .inl (k 0, 120, .inl (upd txbf (Int32.toNatClampNeg txn) a1)))] H := hP
    have hD : va_D A [(tx, .inr (4, [.ref txb, .ref txt, .int txn, .int txp, .int txg, .int txe])), (txb, .inl (k 0, 120, .inl (upd txbf (Int32.toNatClampNeg txn) a1)))] := hD
    refine lv_aload_n hx hb dX4_append_23 rfl (lv_at hl 0 rfl) ?_
    refine lv_dup hx hb dX4_append_24 rfl ?_
    refine va_get (D := D) (ci := 4) (v := .int txn) (C := RX4) (T := TX4) (N := 6) hx hb ht hiX4 hown hK hP 0 rfl rfl 2 (by decide) (ht _ wb191) (fun _ h9 => h9) rfl dX4_append_25 ?_
    refine lv_iconst (v := 1) hx hb dX4_append_28 (by decide) ?_
    refine lv_iadd hx hb dX4_append_29 ?_
    refine va_put (D := D) (ci := 4) (v := .int (txn + 1)) (ty := .int) (C := RX4) (T := TX4) (N := 6) hx hb ht hiX4 tyX4 tyX4_ok nmX4 hown hK hP hD hS 0 rfl rfl 2 (by decide) (ht _ wb191) (fun _ h9 => h9) rfl (by decide +kernel) rfl rfl (Nat.le_of_ble_eq_true rfl) dX4_append_30 (fun H locs hP hD hS => ?_)
    have hP : va_P D vwCl [(tx, .inr (4, [.ref txb, .ref txt, .int (txn + 1), .int txp, .int txg, .int txe])), (txb, .inl (k 0, 120, .inl (upd txbf (Int32.toNatClampNeg txn) a1)))] H := hP
    have hD : va_D A [(tx, .inr (4, [.ref txb, .ref txt, .int (txn + 1), .int txp, .int txg, .int txe])), (txb, .inl (k 0, 120, .inl (upd txbf (Int32.toNatClampNeg txn) a1)))] := hD
    obtain rfl := Option.some.inj h
    exact W.vret hx hb hr (fun t ht9 hW => ⟨⟨(), rfl, trivial, zend ht9 hP⟩, hS.F ht9⟩) hS.2.2 dX4_append_33
def f_X4_empty   : Option (Int32) :=
  some (0)
abbrev wk_X4_empty : List Cond := Cond.code yX4_empty cX4_empty 1 none :: WB
abbrev rm_X4_empty : Room := { frames := 0, cells := 0, slots := 0, locals := 0 }
set_option maxHeartbeats 4000000 in
set_option maxRecDepth 100000 in
theorem c_X4_empty (l : Launch) (D : va_G) (k : Nat → Nat) (tx txb txt : Nat) (txn : Int32) (txp : Int32) (txg : Int32) (txe : Int32)  {res : Int32} (h : f_X4_empty   = some res) : Cv l yX4_empty wk_X4_empty rm_X4_empty D k [.ref tx] [(tx, .inr (4, [.ref txb, .ref txt, .int txn, .int txp, .int txg, .int txe]))] [(tx, .inr (4, [.ref txb, .ref txt, .int res, .int txp, .int txg, .int txe]))] := by
  unfold Cv
  intro sz
  refine Met.ofW (cc := cX4_empty) (maxL := 1) (ret := none) (by decide) rfl ?_
  intro p e s m args below meth c s₁ B hml hv
  obtain ⟨rfl, hsz, hP, hK, hD0, hm⟩ := hv
  have hx := B.exec
  have hb := B.bytes
  have hr := B.returns
  have ht : ∀ w ∈ WB, w.before _ s = true := fun w hw => atoms_spec (ws := wk_X4_empty) B.pre w (List.mem_cons_of_mem _ hw)
  have hown : s.vm.findClass RX4 = some m.cls := findClass_of_methodNamed B.named
  have hlocks := B.notSynchronized
  subst hsz
  have hD := hD0.self (sz := s.heap.size)
  generalize hAe : va_A [(tx, .inr (4, [.ref txb, .ref txt, .int txn, .int txp, .int txg, .int txe]))] s.heap.size = A at hD hm ⊢
  have hA : ∀ q : Nat, s.heap.size ≤ q → A q := fun q h => by rw [← hAe]; exact Or.inr h
  have hS : va_S A s.heap s.heap [] := va_S.rf
  have hl := lv_entry ([.ref tx]) (n := 1) (Nat.le_of_ble_eq_true rfl)
  rw [lg_entry_eq]
  generalize (lg_sl ([.ref tx]) ++ List.replicate (1 - (lg_sl ([.ref tx])).length) Slot.unset).toArray = ls at hl ⊢
  have hl : lv_has ls 1 [(0, .ref tx)] := hl
  obtain ⟨H, hH⟩ : ∃ H, H = s.heap := ⟨_, rfl⟩
  rw [← hH] at hP
  have hS : va_S A s.heap H [] := by rw [hH]; exact hS
  suffices hgo : W p l e _ s m _ below meth c H [] 0 0 _ _ by rw [hH] at hgo; exact hgo
  unfold f_X4_empty at h
  refine lv_aload_n hx hb dX4_empty_0 rfl (lv_at hl 0 rfl) ?_
  refine lv_iconst (v := 0) hx hb dX4_empty_1 (by decide) ?_
  refine va_put (D := D) (ci := 4) (v := .int 0) (ty := .int) (C := RX4) (T := TX4) (N := 6) hx hb ht hiX4 tyX4 tyX4_ok nmX4 hown hK hP hD hS 0 rfl rfl 2 (by decide) (ht _ wb191) (fun _ h9 => h9) rfl (by decide +kernel) rfl rfl (Nat.le_of_ble_eq_true rfl) dX4_empty_2 (fun H locs hP hD hS => ?_)
  have hP : va_P D vwCl [(tx, .inr (4, [.ref txb, .ref txt, .int 0, .int txp, .int txg, .int txe]))] H := hP
  have hD : va_D A [(tx, .inr (4, [.ref txb, .ref txt, .int 0, .int txp, .int txg, .int txe]))] := hD
  obtain rfl := Option.some.inj h
  exact W.vret hx hb hr (fun t ht9 hW => ⟨⟨(), rfl, trivial, zend ht9 hP⟩, hS.F ht9⟩) hS.2.2 dX4_empty_5
def f_X4_byteAt (txn : Int32) (txbf : Nat → Int32) (a1 : Int32) : Option (Int32) :=
  if a1 < 0 then (some ((-1))) else (if txn ≤ a1 then (some ((-1))) else (if 120 ≤ a1 then (some ((-1))) else (if zok a1 120 then (some (txbf (Int32.toNatClampNeg a1))) else none)))
abbrev wk_X4_byteAt : List Cond := Cond.code yX4_byteAt cX4_byteAt 2 (some .int) :: WB
abbrev rm_X4_byteAt : Room := { frames := 0, cells := 0, slots := 0, locals := 0 }
set_option maxHeartbeats 4000000 in
set_option maxRecDepth 100000 in
theorem c_X4_byteAt (l : Launch) (D : va_G) (k : Nat → Nat) (tx txb txt : Nat) (txn : Int32) (txp : Int32) (txg : Int32) (txe : Int32) (txbf : Nat → Int32) (a1 : Int32) {res : Int32} (h : f_X4_byteAt txn txbf a1 = some res) : Ci l yX4_byteAt wk_X4_byteAt rm_X4_byteAt D k [.ref tx, .int a1] [(tx, .inr (4, [.ref txb, .ref txt, .int txn, .int txp, .int txg, .int txe])), (txb, .inl (k 0, 120, .inl txbf))] [(tx, .inr (4, [.ref txb, .ref txt, .int txn, .int txp, .int txg, .int txe])), (txb, .inl (k 0, 120, .inl txbf))] res := by
  unfold Ci
  intro sz
  refine Met.ofW (cc := cX4_byteAt) (maxL := 2) (ret := (some .int)) (by decide) rfl ?_
  intro p e s m args below meth c s₁ B hml hv
  obtain ⟨rfl, hsz, hP, hK, hD0, hm⟩ := hv
  have hx := B.exec
  have hb := B.bytes
  have hr := B.returns
  have ht : ∀ w ∈ WB, w.before _ s = true := fun w hw => atoms_spec (ws := wk_X4_byteAt) B.pre w (List.mem_cons_of_mem _ hw)
  have hown : s.vm.findClass RX4 = some m.cls := findClass_of_methodNamed B.named
  have hlocks := B.notSynchronized
  subst hsz
  have hD := hD0.self (sz := s.heap.size)
  generalize hAe : va_A [(tx, .inr (4, [.ref txb, .ref txt, .int txn, .int txp, .int txg, .int txe])), (txb, .inl (k 0, 120, .inl txbf))] s.heap.size = A at hD hm ⊢
  have hA : ∀ q : Nat, s.heap.size ≤ q → A q := fun q h => by rw [← hAe]; exact Or.inr h
  have hS : va_S A s.heap s.heap [] := va_S.rf
  have hl := lv_entry ([.ref tx, .int a1]) (n := 2) (Nat.le_of_ble_eq_true rfl)
  rw [lg_entry_eq]
  generalize (lg_sl ([.ref tx, .int a1]) ++ List.replicate (2 - (lg_sl ([.ref tx, .int a1])).length) Slot.unset).toArray = ls at hl ⊢
  have hl : lv_has ls 2 [(0, .ref tx), (1, .int a1)] := hl
  obtain ⟨H, hH⟩ : ∃ H, H = s.heap := ⟨_, rfl⟩
  rw [← hH] at hP
  have hS : va_S A s.heap H [] := by rw [hH]; exact hS
  suffices hgo : W p l e _ s m _ below meth c H [] 0 0 _ _ by rw [hH] at hgo; exact hgo
  unfold f_X4_byteAt at h
  refine lv_iload_n hx hb dX4_byteAt_0 rfl (lv_at hl 1 rfl) ?_
  refine lv_if_lt (tgt := 27) hx hb dX4_byteAt_1 (by decide) (fun c3 => ?_) (fun c3 => ?_)
  · have h := zt h c3
    refine lv_iconst (v := (-1)) hx hb dX4_byteAt_27 (by decide) ?_
    obtain rfl := Option.some.inj h
    exact W.iret (v := (-1)) hx hb hr (fun t ht9 hW => ⟨⟨_, (), rfl, rfl, zend ht9 hP⟩, hS.F ht9⟩) hS.2.2 dX4_byteAt_28
  · have h := zf h c3
    refine lv_iload_n hx hb dX4_byteAt_4 rfl (lv_at hl 1 rfl) ?_
    refine lv_aload_n hx hb dX4_byteAt_5 rfl (lv_at hl 0 rfl) ?_
    refine va_get (D := D) (ci := 4) (v := .int txn) (C := RX4) (T := TX4) (N := 6) hx hb ht hiX4 hown hK hP 0 rfl rfl 2 (by decide) (ht _ wb191) (fun _ h9 => h9) rfl dX4_byteAt_6 ?_
    refine lv_icmp_ge (tgt := 27) hx hb dX4_byteAt_9 (by decide) (fun c2 => ?_) (fun c2 => ?_)
    · have h := zt h c2
      refine lv_iconst (v := (-1)) hx hb dX4_byteAt_27 (by decide) ?_
      obtain rfl := Option.some.inj h
      exact W.iret (v := (-1)) hx hb hr (fun t ht9 hW => ⟨⟨_, (), rfl, rfl, zend ht9 hP⟩, hS.F ht9⟩) hS.2.2 dX4_byteAt_28
    · have h := zf h c2
      refine lv_iload_n hx hb dX4_byteAt_12 rfl (lv_at hl 1 rfl) ?_
      refine lv_bipush (v := 120) hx hb dX4_byteAt_13 (by decide) ?_
      refine lv_icmp_ge (tgt := 27) hx hb dX4_byteAt_15 (by decide) (fun c1 => ?_) (fun c1 => ?_)
      · have h := zt h c1
        refine lv_iconst (v := (-1)) hx hb dX4_byteAt_27 (by decide) ?_
        obtain rfl := Option.some.inj h
        exact W.iret (v := (-1)) hx hb hr (fun t ht9 hW => ⟨⟨_, (), rfl, rfl, zend ht9 hP⟩, hS.F ht9⟩) hS.2.2 dX4_byteAt_28
      · have h := zf h c1
        refine lv_aload_n hx hb dX4_byteAt_18 rfl (lv_at hl 0 rfl) ?_
        refine va_get (D := D) (ci := 4) (v := .ref txb) (C := RX4) (T := TX4) (N := 6) hx hb ht hiX4 hown hK hP 0 rfl rfl 0 (by decide) (ht _ wb188) (fun _ h9 => h9) rfl dX4_byteAt_19 ?_
        refine lv_iload_n hx hb dX4_byteAt_22 rfl (lv_at hl 1 rfl) ?_
        obtain ⟨hi1, h⟩ := zg h
        refine va_iald hx hb hK hP 1 0 rfl rfl hi1 dX4_byteAt_23 ?_
        refine lv_goto (tgt := 28) hx hb dX4_byteAt_24 (by decide) ?_
        obtain rfl := Option.some.inj h
        exact W.iret (v := txbf (Int32.toNatClampNeg a1)) hx hb hr (fun t ht9 hW => ⟨⟨_, (), rfl, rfl, zend ht9 hP⟩, hS.F ht9⟩) hS.2.2 dX4_byteAt_28
def f_X4_skipBlanks_L0 (fu : Nat) (K : Int32 → Option (Int32)) (txn : Int32) (txbf : Nat → Int32) : Nat → Int32 → Option (Int32)
  | 0, _ => none
  | n + 1, txp =>
  if txn ≤ txp then (K txp) else ((f_X4_byteAt txn txbf txp).bind fun r1 => if r1 = 32 then (f_X4_skipBlanks_L0 fu K txn txbf n (txp + 1)) else (K txp))
def f_X4_skipBlanks (fu : Nat) (txn : Int32) (txp : Int32) (txbf : Nat → Int32)  : Option (Int32) :=
  f_X4_skipBlanks_L0 fu (fun (x1 : Int32) => some (x1)) txn txbf fu txp
abbrev wk_X4_skipBlanks : List Cond := Cond.code yX4_skipBlanks cX4_skipBlanks 1 none :: WB
abbrev rm_X4_skipBlanks : Room := { frames := 1, cells := 0, slots := 0, locals := 21 }
set_option maxHeartbeats 4000000 in
set_option maxRecDepth 100000 in
theorem c_X4_skipBlanks (l : Launch) (D : va_G) (k : Nat → Nat) (tx txb txt : Nat) (txn : Int32) (txp : Int32) (txg : Int32) (txe : Int32) (txbf : Nat → Int32)  (fu : Nat) {res : Int32} (h : f_X4_skipBlanks fu txn txp txbf  = some res) : Cv l yX4_skipBlanks wk_X4_skipBlanks rm_X4_skipBlanks D k [.ref tx] [(tx, .inr (4, [.ref txb, .ref txt, .int txn, .int txp, .int txg, .int txe])), (txb, .inl (k 0, 120, .inl txbf))] [(tx, .inr (4, [.ref txb, .ref txt, .int txn, .int res, .int txg, .int txe])), (txb, .inl (k 0, 120, .inl txbf))] := by
  unfold Cv
  intro sz
  refine Met.ofW (cc := cX4_skipBlanks) (maxL := 1) (ret := none) (by decide) rfl ?_
  intro p e s m args below meth c s₁ B hml hv
  obtain ⟨rfl, hsz, hP, hK, hD0, hm⟩ := hv
  have hx := B.exec
  have hb := B.bytes
  have hr := B.returns
  have ht : ∀ w ∈ WB, w.before _ s = true := fun w hw => atoms_spec (ws := wk_X4_skipBlanks) B.pre w (List.mem_cons_of_mem _ hw)
  have hown : s.vm.findClass RX4 = some m.cls := findClass_of_methodNamed B.named
  have hlocks := B.notSynchronized
  subst hsz
  have hD := hD0.self (sz := s.heap.size)
  generalize hAe : va_A [(tx, .inr (4, [.ref txb, .ref txt, .int txn, .int txp, .int txg, .int txe])), (txb, .inl (k 0, 120, .inl txbf))] s.heap.size = A at hD hm ⊢
  have hA : ∀ q : Nat, s.heap.size ≤ q → A q := fun q h => by rw [← hAe]; exact Or.inr h
  have hS : va_S A s.heap s.heap [] := va_S.rf
  have hl := lv_entry ([.ref tx]) (n := 1) (Nat.le_of_ble_eq_true rfl)
  rw [lg_entry_eq]
  generalize (lg_sl ([.ref tx]) ++ List.replicate (1 - (lg_sl ([.ref tx])).length) Slot.unset).toArray = ls at hl ⊢
  have hl : lv_has ls 1 [(0, .ref tx)] := hl
  obtain ⟨H, hH⟩ : ∃ H, H = s.heap := ⟨_, rfl⟩
  rw [← hH] at hP
  have hS : va_S A s.heap H [] := by rw [hH]; exact hS
  suffices hgo : W p l e _ s m _ below meth c H [] 0 0 _ _ by rw [hH] at hgo; exact hgo
  unfold f_X4_skipBlanks at h
  have loop0 : ∀ (txn : Int32) (txg : Int32) (txe : Int32) (txbf : Nat → Int32), ∀ (K : Int32 → Option (Int32)), (∀ (txp : Int32), K txp = some res → ∀ (H : Heap) (locs : List Loc), va_P D vwCl [(tx, .inr (4, [.ref txb, .ref txt, .int txn, .int txp, .int txg, .int txe])), (txb, .inl (k 0, 120, .inl txbf))] H → va_D A [(tx, .inr (4, [.ref txb, .ref txt, .int txn, .int txp, .int txg, .int txe])), (txb, .inl (k 0, 120, .inl txbf))] → va_S A s.heap H locs → ∀ ls : Array Slot, lv_has ls 1 [(0, .ref tx)] → W p l e (headSpec wk_X4_skipBlanks rm_X4_skipBlanks).room s m ([.ref tx] : List Value).toArray below meth c H locs 0 0 (MQ below (va_Qv (fun (_ : Unit) => True) (fun _ tq9 => va_P D vwCl [(tx, .inr (4, [.ref txb, .ref txt, .int txn, .int res, .int txg, .int txe])), (txb, .inl (k 0, 120, .inl txbf))] tq9.heap) A) ([.ref tx] : List Value).toArray s 0 0 A) (F0 m 37 ls [])) → ∀ (n : Nat) (txp : Int32), f_X4_skipBlanks_L0 fu K txn txbf n txp = some res → ∀ (H : Heap) (locs : List Loc), va_P D vwCl [(tx, .inr (4, [.ref txb, .ref txt, .int txn, .int txp, .int txg, .int txe])), (txb, .inl (k 0, 120, .inl txbf))] H → va_D A [(tx, .inr (4, [.ref txb, .ref txt, .int txn, .int txp, .int txg, .int txe])), (txb, .inl (k 0, 120, .inl txbf))] → va_S A s.heap H locs → ∀ ls : Array Slot, lv_has ls 1 [(0, .ref tx)] → W p l e (headSpec wk_X4_skipBlanks rm_X4_skipBlanks).room s m ([.ref tx] : List Value).toArray below meth c H locs 0 0 (MQ below (va_Qv (fun (_ : Unit) => True) (fun _ tq9 => va_P D vwCl [(tx, .inr (4, [.ref txb, .ref txt, .int txn, .int res, .int txg, .int txe])), (txb, .inl (k 0, 120, .inl txbf))] tq9.heap) A) ([.ref tx] : List Value).toArray s 0 0 A) (F0 m 0 ls []) := by
    intro txn txg txe txbf K hKK n
    induction n with
    | zero =>
      intro txp h
      rw [f_X4_skipBlanks_L0] at h
      cases h
    | succ n ih =>
      intro txp h H locs hP hD hS ls hl
      rw [f_X4_skipBlanks_L0] at h
      refine lv_aload_n hx hb dX4_skipBlanks_0 rfl (lv_at hl 0 rfl) ?_
      refine va_get (D := D) (ci := 4) (v := .int txp) (C := RX4) (T := TX4) (N := 6) hx hb ht hiX4 hown hK hP 0 rfl rfl 3 (by decide) (ht _ wb192) (fun _ h9 => h9) rfl dX4_skipBlanks_1 ?_
      refine lv_aload_n hx hb dX4_skipBlanks_4 rfl (lv_at hl 0 rfl) ?_
      refine va_get (D := D) (ci := 4) (v := .int txn) (C := RX4) (T := TX4) (N := 6) hx hb ht hiX4 hown hK hP 0 rfl rfl 2 (by decide) (ht _ wb191) (fun _ h9 => h9) rfl dX4_skipBlanks_5 ?_
      refine lv_icmp_ge (tgt := 37) hx hb dX4_skipBlanks_8 (by decide) (fun c2 => ?_) (fun c2 => ?_)
      · have h := zt h c2
        exact hKK _ h _ _ hP hD hS _ (lv_sub hl [0] rfl)
      · have h := zf h c2
        refine lv_aload_n hx hb dX4_skipBlanks_11 rfl (lv_at hl 0 rfl) ?_
        refine lv_aload_n hx hb dX4_skipBlanks_12 rfl (lv_at hl 0 rfl) ?_
        refine va_get (D := D) (ci := 4) (v := .int txp) (C := RX4) (T := TX4) (N := 6) hx hb ht hiX4 hown hK hP 0 rfl rfl 3 (by decide) (ht _ wb192) (fun _ h9 => h9) rfl dX4_skipBlanks_13 ?_
        obtain ⟨r1, h1, h⟩ := zb h
        refine zi (zrV (C := RX4) (T := TX4) (N := 6) (As := [.int txp]) (rest := []) ⟨hx, hb, hml, hown, ht⟩ (c_X4_byteAt l D k tx txb txt txn txp txg txe txbf txp h1 _) (cwV 1 ht (gdV wb629 wb631 wb21 wb78 wb632) rfl rfl rfl (by decide +kernel) ⟨Nat.le_of_ble_eq_true rfl, Nat.le_of_ble_eq_true rfl⟩) hK hP hD hS hA hm [0, 1] rfl rfl 0 4 rfl rfl rfl hl.1 rfl (Nat.le_of_ble_eq_true rfl) dX4_skipBlanks_16 ⟨Nat.le_refl _, Nat.le_refl _⟩) hP hD hS hA [0, 1] rfl rfl (fun H locs hP hD hS => ?_)
        have hP : va_P D vwCl [(tx, .inr (4, [.ref txb, .ref txt, .int txn, .int txp, .int txg, .int txe])), (txb, .inl (k 0, 120, .inl txbf))] H := hP
        have hD : va_D A [(tx, .inr (4, [.ref txb, .ref txt, .int txn, .int txp, .int txg, .int txe])), (txb, .inl (k 0, 120, .inl txbf))] := hD
        refine lv_bipush (v := 32) hx hb dX4_skipBlanks_19 (by decide) ?_
        refine lv_icmp_ne (tgt := 37) hx hb dX4_skipBlanks_21 (by decide) (fun c1 => ?_) (fun c1 => ?_)
        · have h := zf h c1
          exact hKK _ h _ _ hP hD hS _ (lv_sub hl [0] rfl)
        · have h := zt h c1
          refine lv_aload_n hx hb dX4_skipBlanks_24 rfl (lv_at hl 0 rfl) ?_
          refine lv_dup hx hb dX4_skipBlanks_25 rfl ?_
          refine va_get (D := D) (ci := 4) (v := .int txp) (C := RX4) (T := TX4) (N := 6) hx hb ht hiX4 hown hK hP 0 rfl rfl 3 (by decide) (ht _ wb192) (fun _ h9 => h9) rfl dX4_skipBlanks_26 ?_
          refine lv_iconst (v := 1) hx hb dX4_skipBlanks_29 (by decide) ?_
          refine lv_iadd hx hb dX4_skipBlanks_30 ?_
          refine va_put (D := D) (ci := 4) (v := .int (txp + 1)) (ty := .int) (C := RX4) (T := TX4) (N := 6) hx hb ht hiX4 tyX4 tyX4_ok nmX4 hown hK hP hD hS 0 rfl rfl 3 (by decide) (ht _ wb192) (fun _ h9 => h9) rfl (by decide +kernel) rfl rfl (Nat.le_of_ble_eq_true rfl) dX4_skipBlanks_31 (fun H locs hP hD hS => ?_)
          have hP : va_P D vwCl [(tx, .inr (4, [.ref txb, .ref txt, .int txn, .int (txp + 1), .int txg, .int txe])), (txb, .inl (k 0, 120, .inl txbf))] H := hP
          have hD : va_D A [(tx, .inr (4, [.ref txb, .ref txt, .int txn, .int (txp + 1), .int txg, .int txe])), (txb, .inl (k 0, 120, .inl txbf))] := hD
          refine lv_goto (tgt := 0) hx hb dX4_skipBlanks_34 (by decide) ?_
          exact ih _ h _ _ hP hD hS _ (lv_sub hl [0] rfl)
  refine loop0 _ _ _ _ _ ?_ fu _ h _ _ hP hD hS _ (lv_sub hl [0] rfl)
  intro x1 h H locs hP hD hS ls hl
  try dsimp only at h
  have hP : va_P D vwCl [(tx, .inr (4, [.ref txb, .ref txt, .int txn, .int x1, .int txg, .int txe])), (txb, .inl (k 0, 120, .inl txbf))] H := hP
  have hD : va_D A [(tx, .inr (4, [.ref txb, .ref txt, .int txn, .int x1, .int txg, .int txe])), (txb, .inl (k 0, 120, .inl txbf))] := hD
  have hl : lv_has ls 1 [(0, .ref tx)] := hl
  obtain rfl := Option.some.inj h
  exact W.vret hx hb hr (fun t ht9 hW => ⟨⟨(), rfl, trivial, zend ht9 hP⟩, hS.F ht9⟩) hS.2.2 dX4_skipBlanks_37
def f_X4_isLetter  (a1 : Int32) : Option (Bool) :=
  if a1 < 97 then (some (false)) else (if 122 < a1 then (some (false)) else (some (true)))
abbrev wk_X4_isLetter : List Cond := Cond.code yX4_isLetter cX4_isLetter 1 (some .boolean) :: WB
abbrev rm_X4_isLetter : Room := { frames := 0, cells := 0, slots := 0, locals := 0 }
set_option maxHeartbeats 4000000 in
set_option maxRecDepth 100000 in
theorem c_X4_isLetter (l : Launch) (D : va_G) (k : Nat → Nat)  (a1 : Int32) {res : Bool} (h : f_X4_isLetter  a1 = some res) : Ci l yX4_isLetter wk_X4_isLetter rm_X4_isLetter D k [.int a1] [] [] (zB res) := by
  unfold Ci
  intro sz
  refine Met.ofW (cc := cX4_isLetter) (maxL := 1) (ret := (some .boolean)) (by decide) rfl ?_
  intro p e s m args below meth c s₁ B hml hv
  obtain ⟨rfl, hsz, hP, hK, hD0, hm⟩ := hv
  have hx := B.exec
  have hb := B.bytes
  have hr := B.returns
  have ht : ∀ w ∈ WB, w.before _ s = true := fun w hw => atoms_spec (ws := wk_X4_isLetter) B.pre w (List.mem_cons_of_mem _ hw)
  have hown : s.vm.findClass RX4 = some m.cls := findClass_of_methodNamed B.named
  have hlocks := B.notSynchronized
  subst hsz
  have hD := hD0.self (sz := s.heap.size)
  generalize hAe : va_A [] s.heap.size = A at hD hm ⊢
  have hA : ∀ q : Nat, s.heap.size ≤ q → A q := fun q h => by rw [← hAe]; exact Or.inr h
  have hS : va_S A s.heap s.heap [] := va_S.rf
  have hl := lv_entry ([.int a1]) (n := 1) (Nat.le_of_ble_eq_true rfl)
  rw [lg_entry_eq]
  generalize (lg_sl ([.int a1]) ++ List.replicate (1 - (lg_sl ([.int a1])).length) Slot.unset).toArray = ls at hl ⊢
  have hl : lv_has ls 1 [(0, .int a1)] := hl
  obtain ⟨H, hH⟩ : ∃ H, H = s.heap := ⟨_, rfl⟩
  rw [← hH] at hP
  have hS : va_S A s.heap H [] := by rw [hH]; exact hS
  suffices hgo : W p l e _ s m _ below meth c H [] 0 0 _ _ by rw [hH] at hgo; exact hgo
  unfold f_X4_isLetter at h
  refine lv_iload_n hx hb dX4_isLetter_0 rfl (lv_at hl 0 rfl) ?_
  refine lv_bipush (v := 97) hx hb dX4_isLetter_1 (by decide) ?_
  refine lv_icmp_lt (tgt := 16) hx hb dX4_isLetter_3 (by decide) (fun c2 => ?_) (fun c2 => ?_)
  · have h := zt h c2
    refine lv_iconst (v := 0) hx hb dX4_isLetter_16 (by decide) ?_
    obtain rfl := Option.some.inj h
    exact W.zret (v := 0) (ty := .boolean) hx hb hr (rfl) (fun t ht9 hW => ⟨⟨_, (), rfl, rfl, zend ht9 hP⟩, hS.F ht9⟩) hS.2.2 dX4_isLetter_17
  · have h := zf h c2
    refine lv_iload_n hx hb dX4_isLetter_6 rfl (lv_at hl 0 rfl) ?_
    refine lv_bipush (v := 122) hx hb dX4_isLetter_7 (by decide) ?_
    refine lv_icmp_gt (tgt := 16) hx hb dX4_isLetter_9 (by decide) (fun c1 => ?_) (fun c1 => ?_)
    · have h := zt h c1
      refine lv_iconst (v := 0) hx hb dX4_isLetter_16 (by decide) ?_
      obtain rfl := Option.some.inj h
      exact W.zret (v := 0) (ty := .boolean) hx hb hr (rfl) (fun t ht9 hW => ⟨⟨_, (), rfl, rfl, zend ht9 hP⟩, hS.F ht9⟩) hS.2.2 dX4_isLetter_17
    · have h := zf h c1
      refine lv_iconst (v := 1) hx hb dX4_isLetter_12 (by decide) ?_
      refine lv_goto (tgt := 17) hx hb dX4_isLetter_13 (by decide) ?_
      obtain rfl := Option.some.inj h
      exact W.zret (v := 1) (ty := .boolean) hx hb hr (rfl) (fun t ht9 hW => ⟨⟨_, (), rfl, rfl, zend ht9 hP⟩, hS.F ht9⟩) hS.2.2 dX4_isLetter_17
def f_X4_isDigit  (a1 : Int32) : Option (Bool) :=
  if a1 < 48 then (some (false)) else (if 57 < a1 then (some (false)) else (some (true)))
abbrev wk_X4_isDigit : List Cond := Cond.code yX4_isDigit cX4_isDigit 1 (some .boolean) :: WB
abbrev rm_X4_isDigit : Room := { frames := 0, cells := 0, slots := 0, locals := 0 }
set_option maxHeartbeats 4000000 in
set_option maxRecDepth 100000 in
theorem c_X4_isDigit (l : Launch) (D : va_G) (k : Nat → Nat)  (a1 : Int32) {res : Bool} (h : f_X4_isDigit  a1 = some res) : Ci l yX4_isDigit wk_X4_isDigit rm_X4_isDigit D k [.int a1] [] [] (zB res) := by
  unfold Ci
  intro sz
  refine Met.ofW (cc := cX4_isDigit) (maxL := 1) (ret := (some .boolean)) (by decide) rfl ?_
  intro p e s m args below meth c s₁ B hml hv
  obtain ⟨rfl, hsz, hP, hK, hD0, hm⟩ := hv
  have hx := B.exec
  have hb := B.bytes
  have hr := B.returns
  have ht : ∀ w ∈ WB, w.before _ s = true := fun w hw => atoms_spec (ws := wk_X4_isDigit) B.pre w (List.mem_cons_of_mem _ hw)
  have hown : s.vm.findClass RX4 = some m.cls := findClass_of_methodNamed B.named
  have hlocks := B.notSynchronized
  subst hsz
  have hD := hD0.self (sz := s.heap.size)
  generalize hAe : va_A [] s.heap.size = A at hD hm ⊢
  have hA : ∀ q : Nat, s.heap.size ≤ q → A q := fun q h => by rw [← hAe]; exact Or.inr h
  have hS : va_S A s.heap s.heap [] := va_S.rf
  have hl := lv_entry ([.int a1]) (n := 1) (Nat.le_of_ble_eq_true rfl)
  rw [lg_entry_eq]
  generalize (lg_sl ([.int a1]) ++ List.replicate (1 - (lg_sl ([.int a1])).length) Slot.unset).toArray = ls at hl ⊢
  have hl : lv_has ls 1 [(0, .int a1)] := hl
  obtain ⟨H, hH⟩ : ∃ H, H = s.heap := ⟨_, rfl⟩
  rw [← hH] at hP
  have hS : va_S A s.heap H [] := by rw [hH]; exact hS
  suffices hgo : W p l e _ s m _ below meth c H [] 0 0 _ _ by rw [hH] at hgo; exact hgo
  unfold f_X4_isDigit at h
  refine lv_iload_n hx hb dX4_isDigit_0 rfl (lv_at hl 0 rfl) ?_
  refine lv_bipush (v := 48) hx hb dX4_isDigit_1 (by decide) ?_
  refine lv_icmp_lt (tgt := 16) hx hb dX4_isDigit_3 (by decide) (fun c2 => ?_) (fun c2 => ?_)
  · have h := zt h c2
    refine lv_iconst (v := 0) hx hb dX4_isDigit_16 (by decide) ?_
    obtain rfl := Option.some.inj h
    exact W.zret (v := 0) (ty := .boolean) hx hb hr (rfl) (fun t ht9 hW => ⟨⟨_, (), rfl, rfl, zend ht9 hP⟩, hS.F ht9⟩) hS.2.2 dX4_isDigit_17
  · have h := zf h c2
    refine lv_iload_n hx hb dX4_isDigit_6 rfl (lv_at hl 0 rfl) ?_
    refine lv_bipush (v := 57) hx hb dX4_isDigit_7 (by decide) ?_
    refine lv_icmp_gt (tgt := 16) hx hb dX4_isDigit_9 (by decide) (fun c1 => ?_) (fun c1 => ?_)
    · have h := zt h c1
      refine lv_iconst (v := 0) hx hb dX4_isDigit_16 (by decide) ?_
      obtain rfl := Option.some.inj h
      exact W.zret (v := 0) (ty := .boolean) hx hb hr (rfl) (fun t ht9 hW => ⟨⟨_, (), rfl, rfl, zend ht9 hP⟩, hS.F ht9⟩) hS.2.2 dX4_isDigit_17
    · have h := zf h c1
      refine lv_iconst (v := 1) hx hb dX4_isDigit_12 (by decide) ?_
      refine lv_goto (tgt := 17) hx hb dX4_isDigit_13 (by decide) ?_
      obtain rfl := Option.some.inj h
      exact W.zret (v := 1) (ty := .boolean) hx hb hr (rfl) (fun t ht9 hW => ⟨⟨_, (), rfl, rfl, zend ht9 hP⟩, hS.F ht9⟩) hS.2.2 dX4_isDigit_17
def f_X4_readNumber_L7 (fu : Nat) (K : Int32 → Int32 → Option (Int32 × Int32 × Int32)) (v2 : Int32) (txn : Int32) (txbf : Nat → Int32) : Nat → Int32 → Int32 → Option (Int32 × Int32 × Int32)
  | 0, _, _ => none
  | n + 1, v3, txp =>
  if (v2 + 2) ≤ txp then (K v3 txp) else ((f_X4_byteAt txn txbf txp).bind fun r1 => (f_X4_isDigit  r1).bind fun r2 => if (zB r2) = 0 then (K v3 txp) else ((f_X4_byteAt txn txbf txp).bind fun r3 => f_X4_readNumber_L7 fu K v2 txn txbf n (((10 * v3) + r3) - 48) (txp + 1)))
def f_X4_readNumber (fu : Nat) (txn : Int32) (txp : Int32) (txe : Int32) (txbf : Nat → Int32) (a1 : Int32) : Option (Int32 × Int32 × Int32) :=
  f_X4_readNumber_L7 fu (fun (x1 : Int32) (x2 : Int32) => if x2 = txp then (some (x1, x2, x2)) else ((f_X4_byteAt txn txbf x2).bind fun r4 => (f_X4_isDigit  r4).bind fun r5 => if (zB r5) = 0 then (if x1 ≤ a1 then (some (x1, x2, txe)) else (some (x1, x2, txp))) else (some (x1, x2, x2)))) txp txn txbf fu 0 txp
abbrev wk_X4_readNumber : List Cond := Cond.code yX4_readNumber cX4_readNumber 4 (some .int) :: WB
abbrev rm_X4_readNumber : Room := { frames := 1, cells := 0, slots := 0, locals := 21 }
set_option maxHeartbeats 4000000 in
set_option maxRecDepth 100000 in
theorem c_X4_readNumber (l : Launch) (D : va_G) (k : Nat → Nat) (tx txb txt : Nat) (txn : Int32) (txp : Int32) (txg : Int32) (txe : Int32) (txbf : Nat → Int32) (a1 : Int32) (fu : Nat) {res : Int32 × Int32 × Int32} (h : f_X4_readNumber fu txn txp txe txbf a1 = some res) : Ci l yX4_readNumber wk_X4_readNumber rm_X4_readNumber D k [.ref tx, .int a1] [(tx, .inr (4, [.ref txb, .ref txt, .int txn, .int txp, .int txg, .int txe])), (txb, .inl (k 0, 120, .inl txbf))] [(tx, .inr (4, [.ref txb, .ref txt, .int txn, .int res.2.1, .int txg, .int res.2.2])), (txb, .inl (k 0, 120, .inl txbf))] res.1 := by
  unfold Ci
  intro sz
  refine Met.ofW (cc := cX4_readNumber) (maxL := 4) (ret := (some .int)) (by decide) rfl ?_
  intro p e s m args below meth c s₁ B hml hv
  obtain ⟨rfl, hsz, hP, hK, hD0, hm⟩ := hv
  have hx := B.exec
  have hb := B.bytes
  have hr := B.returns
  have ht : ∀ w ∈ WB, w.before _ s = true := fun w hw => atoms_spec (ws := wk_X4_readNumber) B.pre w (List.mem_cons_of_mem _ hw)
  have hown : s.vm.findClass RX4 = some m.cls := findClass_of_methodNamed B.named
  have hlocks := B.notSynchronized
  subst hsz
  have hD := hD0.self (sz := s.heap.size)
  generalize hAe : va_A [(tx, .inr (4, [.ref txb, .ref txt, .int txn, .int txp, .int txg, .int txe])), (txb, .inl (k 0, 120, .inl txbf))] s.heap.size = A at hD hm ⊢
  have hA : ∀ q : Nat, s.heap.size ≤ q → A q := fun q h => by rw [← hAe]; exact Or.inr h
  have hS : va_S A s.heap s.heap [] := va_S.rf
  have hl := lv_entry ([.ref tx, .int a1]) (n := 4) (Nat.le_of_ble_eq_true rfl)
  rw [lg_entry_eq]
  generalize (lg_sl ([.ref tx, .int a1]) ++ List.replicate (4 - (lg_sl ([.ref tx, .int a1])).length) Slot.unset).toArray = ls at hl ⊢
  have hl : lv_has ls 4 [(0, .ref tx), (1, .int a1)] := hl
  obtain ⟨H, hH⟩ : ∃ H, H = s.heap := ⟨_, rfl⟩
  rw [← hH] at hP
  have hS : va_S A s.heap H [] := by rw [hH]; exact hS
  suffices hgo : W p l e _ s m _ below meth c H [] 0 0 _ _ by rw [hH] at hgo; exact hgo
  unfold f_X4_readNumber at h
  refine lv_aload_n hx hb dX4_readNumber_0 rfl (lv_at hl 0 rfl) ?_
  refine va_get (D := D) (ci := 4) (v := .int txp) (C := RX4) (T := TX4) (N := 6) hx hb ht hiX4 hown hK hP 0 rfl rfl 3 (by decide) (ht _ wb192) (fun _ h9 => h9) rfl dX4_readNumber_1 ?_
  refine lv_istore_n (lv' := [(2, .int txp), (0, .ref tx), (1, .int a1)]) hx hb dX4_readNumber_4 rfl hl (by decide) rfl (fun ls hl => ?_)
  refine lv_iconst (v := 0) hx hb dX4_readNumber_5 (by decide) ?_
  refine lv_istore_n (lv' := [(3, .int 0), (2, .int txp), (0, .ref tx), (1, .int a1)]) hx hb dX4_readNumber_6 rfl hl (by decide) rfl (fun ls hl => ?_)
  have loop7 : ∀ (v1 : Int32) (v2 : Int32) (txn : Int32) (txg : Int32) (txe : Int32) (txbf : Nat → Int32), ∀ (K : Int32 → Int32 → Option (Int32 × Int32 × Int32)), (∀ (v3 : Int32) (txp : Int32), K v3 txp = some res → ∀ (H : Heap) (locs : List Loc), va_P D vwCl [(tx, .inr (4, [.ref txb, .ref txt, .int txn, .int txp, .int txg, .int txe])), (txb, .inl (k 0, 120, .inl txbf))] H → va_D A [(tx, .inr (4, [.ref txb, .ref txt, .int txn, .int txp, .int txg, .int txe])), (txb, .inl (k 0, 120, .inl txbf))] → va_S A s.heap H locs → ∀ ls : Array Slot, lv_has ls 4 [(0, .ref tx), (1, .int v1), (2, .int v2), (3, .int v3)] → W p l e (headSpec wk_X4_readNumber rm_X4_readNumber).room s m ([.ref tx, .int a1] : List Value).toArray below meth c H locs 0 0 (MQ below (va_Qi (fun xq9 (_ : Unit) => xq9 = res.1) (fun _ tq9 => va_P D vwCl [(tx, .inr (4, [.ref txb, .ref txt, .int txn, .int res.2.1, .int txg, .int res.2.2])), (txb, .inl (k 0, 120, .inl txbf))] tq9.heap) A) ([.ref tx, .int a1] : List Value).toArray s 0 0 A) (F0 m 61 ls [])) → ∀ (n : Nat) (v3 : Int32) (txp : Int32), f_X4_readNumber_L7 fu K v2 txn txbf n v3 txp = some res → ∀ (H : Heap) (locs : List Loc), va_P D vwCl [(tx, .inr (4, [.ref txb, .ref txt, .int txn, .int txp, .int txg, .int txe])), (txb, .inl (k 0, 120, .inl txbf))] H → va_D A [(tx, .inr (4, [.ref txb, .ref txt, .int txn, .int txp, .int txg, .int txe])), (txb, .inl (k 0, 120, .inl txbf))] → va_S A s.heap H locs → ∀ ls : Array Slot, lv_has ls 4 [(0, .ref tx), (1, .int v1), (2, .int v2), (3, .int v3)] → W p l e (headSpec wk_X4_readNumber rm_X4_readNumber).room s m ([.ref tx, .int a1] : List Value).toArray below meth c H locs 0 0 (MQ below (va_Qi (fun xq9 (_ : Unit) => xq9 = res.1) (fun _ tq9 => va_P D vwCl [(tx, .inr (4, [.ref txb, .ref txt, .int txn, .int res.2.1, .int txg, .int res.2.2])), (txb, .inl (k 0, 120, .inl txbf))] tq9.heap) A) ([.ref tx, .int a1] : List Value).toArray s 0 0 A) (F0 m 7 ls []) := by
    intro v1 v2 txn txg txe txbf K hKK n
    induction n with
    | zero =>
      intro v3 txp h
      rw [f_X4_readNumber_L7] at h
      cases h
    | succ n ih =>
      intro v3 txp h H locs hP hD hS ls hl
      rw [f_X4_readNumber_L7] at h
      refine lv_aload_n hx hb dX4_readNumber_7 rfl (lv_at hl 0 rfl) ?_
      refine va_get (D := D) (ci := 4) (v := .int txp) (C := RX4) (T := TX4) (N := 6) hx hb ht hiX4 hown hK hP 0 rfl rfl 3 (by decide) (ht _ wb192) (fun _ h9 => h9) rfl dX4_readNumber_8 ?_
      refine lv_iload_n hx hb dX4_readNumber_11 rfl (lv_at hl 2 rfl) ?_
      refine lv_iconst (v := 2) hx hb dX4_readNumber_12 (by decide) ?_
      refine lv_iadd hx hb dX4_readNumber_13 ?_
      refine lv_icmp_ge (tgt := 61) hx hb dX4_readNumber_14 (by decide) (fun c2 => ?_) (fun c2 => ?_)
      · have h := zt h c2
        exact hKK _ _ h _ _ hP hD hS _ (lv_sub hl [0, 1, 2, 3] rfl)
      · have h := zf h c2
        refine lv_aload_n hx hb dX4_readNumber_17 rfl (lv_at hl 0 rfl) ?_
        refine lv_aload_n hx hb dX4_readNumber_18 rfl (lv_at hl 0 rfl) ?_
        refine va_get (D := D) (ci := 4) (v := .int txp) (C := RX4) (T := TX4) (N := 6) hx hb ht hiX4 hown hK hP 0 rfl rfl 3 (by decide) (ht _ wb192) (fun _ h9 => h9) rfl dX4_readNumber_19 ?_
        obtain ⟨r1, h1, h⟩ := zb h
        refine zi (zrV (C := RX4) (T := TX4) (N := 6) (As := [.int txp]) (rest := []) ⟨hx, hb, hml, hown, ht⟩ (c_X4_byteAt l D k tx txb txt txn txp txg txe txbf txp h1 _) (cwV 1 ht (gdV wb629 wb631 wb21 wb78 wb632) rfl rfl rfl (by decide +kernel) ⟨Nat.le_of_ble_eq_true rfl, Nat.le_of_ble_eq_true rfl⟩) hK hP hD hS hA hm [0, 1] rfl rfl 0 4 rfl rfl rfl hl.1 rfl (Nat.le_of_ble_eq_true rfl) dX4_readNumber_22 ⟨Nat.le_refl _, Nat.le_refl _⟩) hP hD hS hA [0, 1] rfl rfl (fun H locs hP hD hS => ?_)
        have hP : va_P D vwCl [(tx, .inr (4, [.ref txb, .ref txt, .int txn, .int txp, .int txg, .int txe])), (txb, .inl (k 0, 120, .inl txbf))] H := hP
        have hD : va_D A [(tx, .inr (4, [.ref txb, .ref txt, .int txn, .int txp, .int txg, .int txe])), (txb, .inl (k 0, 120, .inl txbf))] := hD
        obtain ⟨r2, h2, h⟩ := zb h
        refine zi (zrS (As := [.int r1]) (rest := []) ⟨hx, hb, hml, hown, ht⟩ (c_X4_isDigit l D k   r1 h2 _) (va_cwS 1 ht (gdS wb725 wb726 wb78 wb727) rfl rfl rfl (by decide +kernel) ⟨Nat.le_of_ble_eq_true rfl, Nat.le_of_ble_eq_true rfl⟩) hK hP hD hS hA hm [] rfl rfl rfl hl.1 rfl (Nat.le_of_ble_eq_true rfl) dX4_readNumber_25 ⟨Nat.le_refl _, Nat.le_refl _⟩) hP hD hS hA [] rfl rfl (fun H locs hP hD hS => ?_)
        have hP : va_P D vwCl [(tx, .inr (4, [.ref txb, .ref txt, .int txn, .int txp, .int txg, .int txe])), (txb, .inl (k 0, 120, .inl txbf))] H := hP
        have hD : va_D A [(tx, .inr (4, [.ref txb, .ref txt, .int txn, .int txp, .int txg, .int txe])), (txb, .inl (k 0, 120, .inl txbf))] := hD
        refine lv_if_eq (tgt := 61) hx hb dX4_readNumber_28 (by decide) (fun c1 => ?_) (fun c1 => ?_)
        · have h := zt h c1
          exact hKK _ _ h _ _ hP hD hS _ (lv_sub hl [0, 1, 2, 3] rfl)
        · have h := zf h c1
          refine lv_bipush (v := 10) hx hb dX4_readNumber_31 (by decide) ?_
          refine lv_iload_n hx hb dX4_readNumber_33 rfl (lv_at hl 3 rfl) ?_
          refine lv_imul hx hb dX4_readNumber_34 ?_
          refine lv_aload_n hx hb dX4_readNumber_35 rfl (lv_at hl 0 rfl) ?_
          refine lv_aload_n hx hb dX4_readNumber_36 rfl (lv_at hl 0 rfl) ?_
          refine va_get (D := D) (ci := 4) (v := .int txp) (C := RX4) (T := TX4) (N := 6) hx hb ht hiX4 hown hK hP 0 rfl rfl 3 (by decide) (ht _ wb192) (fun _ h9 => h9) rfl dX4_readNumber_37 ?_
          obtain ⟨r3, h3, h⟩ := zb h
          refine zi (zrV (C := RX4) (T := TX4) (N := 6) (As := [.int txp]) (rest := [.int (10 * v3)]) ⟨hx, hb, hml, hown, ht⟩ (c_X4_byteAt l D k tx txb txt txn txp txg txe txbf txp h3 _) (cwV 1 ht (gdV wb629 wb631 wb21 wb78 wb632) rfl rfl rfl (by decide +kernel) ⟨Nat.le_of_ble_eq_true rfl, Nat.le_of_ble_eq_true rfl⟩) hK hP hD hS hA hm [0, 1] rfl rfl 0 4 rfl rfl rfl hl.1 rfl (Nat.le_of_ble_eq_true rfl) dX4_readNumber_40 ⟨Nat.le_refl _, Nat.le_refl _⟩) hP hD hS hA [0, 1] rfl rfl (fun H locs hP hD hS => ?_)
          have hP : va_P D vwCl [(tx, .inr (4, [.ref txb, .ref txt, .int txn, .int txp, .int txg, .int txe])), (txb, .inl (k 0, 120, .inl txbf))] H := hP
          have hD : va_D A [(tx, .inr (4, [.ref txb, .ref txt, .int txn, .int txp, .int txg, .int txe])), (txb, .inl (k 0, 120, .inl txbf))] := hD
          refine lv_iadd hx hb dX4_readNumber_43 ?_
          refine lv_bipush (v := 48) hx hb dX4_readNumber_44 (by decide) ?_
          refine lv_isub hx hb dX4_readNumber_46 ?_
          refine lv_istore_n (lv' := [(3, .int (((10 * v3) + r3) - 48)), (0, .ref tx), (1, .int v1), (2, .int v2)]) hx hb dX4_readNumber_47 rfl hl (by decide) rfl (fun ls hl => ?_)
          refine lv_aload_n hx hb dX4_readNumber_48 rfl (lv_at hl 1 rfl) ?_
          refine lv_dup hx hb dX4_readNumber_49 rfl ?_
          refine va_get (D := D) (ci := 4) (v := .int txp) (C := RX4) (T := TX4) (N := 6) hx hb ht hiX4 hown hK hP 0 rfl rfl 3 (by decide) (ht _ wb192) (fun _ h9 => h9) rfl dX4_readNumber_50 ?_
          refine lv_iconst (v := 1) hx hb dX4_readNumber_53 (by decide) ?_
          refine lv_iadd hx hb dX4_readNumber_54 ?_
          refine va_put (D := D) (ci := 4) (v := .int (txp + 1)) (ty := .int) (C := RX4) (T := TX4) (N := 6) hx hb ht hiX4 tyX4 tyX4_ok nmX4 hown hK hP hD hS 0 rfl rfl 3 (by decide) (ht _ wb192) (fun _ h9 => h9) rfl (by decide +kernel) rfl rfl (Nat.le_of_ble_eq_true rfl) dX4_readNumber_55 (fun H locs hP hD hS => ?_)
          have hP : va_P D vwCl [(tx, .inr (4, [.ref txb, .ref txt, .int txn, .int (txp + 1), .int txg, .int txe])), (txb, .inl (k 0, 120, .inl txbf))] H := hP
          have hD : va_D A [(tx, .inr (4, [.ref txb, .ref txt, .int txn, .int (txp + 1), .int txg, .int txe])), (txb, .inl (k 0, 120, .inl txbf))] := hD
          refine lv_goto (tgt := 7) hx hb dX4_readNumber_58 (by decide) ?_
          exact ih _ _ h _ _ hP hD hS _ (lv_sub hl [1, 2, 3, 0] rfl)
  refine loop7 _ _ _ _ _ _ _ ?_ fu _ _ h _ _ hP hD hS _ (lv_sub hl [2, 3, 1, 0] rfl)
  intro x1 x2 h H locs hP hD hS ls hl
  try dsimp only at h
  have hP : va_P D vwCl [(tx, .inr (4, [.ref txb, .ref txt, .int txn, .int x2, .int txg, .int txe])), (txb, .inl (k 0, 120, .inl txbf))] H := hP
  have hD : va_D A [(tx, .inr (4, [.ref txb, .ref txt, .int txn, .int x2, .int txg, .int txe])), (txb, .inl (k 0, 120, .inl txbf))] := hD
  have hl : lv_has ls 4 [(0, .ref tx), (1, .int a1), (2, .int txp), (3, .int x1)] := hl
  refine lv_aload_n hx hb dX4_readNumber_61 rfl (lv_at hl 0 rfl) ?_
  refine va_get (D := D) (ci := 4) (v := .int x2) (C := RX4) (T := TX4) (N := 6) hx hb ht hiX4 hown hK hP 0 rfl rfl 3 (by decide) (ht _ wb192) (fun _ h9 => h9) rfl dX4_readNumber_62 ?_
  refine lv_iload_n hx hb dX4_readNumber_65 rfl (lv_at hl 2 rfl) ?_
  refine lv_icmp_eq (tgt := 83) hx hb dX4_readNumber_66 (by decide) (fun c5 => ?_) (fun c5 => ?_)
  · have h := zt h c5
    refine lv_aload_n hx hb dX4_readNumber_83 rfl (lv_at hl 0 rfl) ?_
    refine lv_aload_n hx hb dX4_readNumber_84 rfl (lv_at hl 0 rfl) ?_
    refine va_get (D := D) (ci := 4) (v := .int x2) (C := RX4) (T := TX4) (N := 6) hx hb ht hiX4 hown hK hP 0 rfl rfl 3 (by decide) (ht _ wb192) (fun _ h9 => h9) rfl dX4_readNumber_85 ?_
    refine va_put (D := D) (ci := 4) (v := .int x2) (ty := .int) (C := RX4) (T := TX4) (N := 6) hx hb ht hiX4 tyX4 tyX4_ok nmX4 hown hK hP hD hS 0 rfl rfl 5 (by decide) (ht _ wb194) (fun _ h9 => h9) rfl (by decide +kernel) rfl rfl (Nat.le_of_ble_eq_true rfl) dX4_readNumber_88 (fun H locs hP hD hS => ?_)
    have hP : va_P D vwCl [(tx, .inr (4, [.ref txb, .ref txt, .int txn, .int x2, .int txg, .int x2])), (txb, .inl (k 0, 120, .inl txbf))] H := hP
    have hD : va_D A [(tx, .inr (4, [.ref txb, .ref txt, .int txn, .int x2, .int txg, .int x2])), (txb, .inl (k 0, 120, .inl txbf))] := hD
    refine lv_goto (tgt := 104) hx hb dX4_readNumber_91 (by decide) ?_
    refine lv_iload_n hx hb dX4_readNumber_104 rfl (lv_at hl 3 rfl) ?_
    obtain rfl := Option.some.inj h
    exact W.iret (v := x1) hx hb hr (fun t ht9 hW => ⟨⟨_, (), rfl, rfl, zend ht9 hP⟩, hS.F ht9⟩) hS.2.2 dX4_readNumber_105
  · have h := zf h c5
    refine lv_aload_n hx hb dX4_readNumber_69 rfl (lv_at hl 0 rfl) ?_
    refine lv_aload_n hx hb dX4_readNumber_70 rfl (lv_at hl 0 rfl) ?_
    refine va_get (D := D) (ci := 4) (v := .int x2) (C := RX4) (T := TX4) (N := 6) hx hb ht hiX4 hown hK hP 0 rfl rfl 3 (by decide) (ht _ wb192) (fun _ h9 => h9) rfl dX4_readNumber_71 ?_
    obtain ⟨r4, h4, h⟩ := zb h
    refine zi (zrV (C := RX4) (T := TX4) (N := 6) (As := [.int x2]) (rest := []) ⟨hx, hb, hml, hown, ht⟩ (c_X4_byteAt l D k tx txb txt txn x2 txg txe txbf x2 h4 _) (cwV 1 ht (gdV wb629 wb631 wb21 wb78 wb632) rfl rfl rfl (by decide +kernel) ⟨Nat.le_of_ble_eq_true rfl, Nat.le_of_ble_eq_true rfl⟩) hK hP hD hS hA hm [0, 1] rfl rfl 0 4 rfl rfl rfl hl.1 rfl (Nat.le_of_ble_eq_true rfl) dX4_readNumber_74 ⟨Nat.le_refl _, Nat.le_refl _⟩) hP hD hS hA [0, 1] rfl rfl (fun H locs hP hD hS => ?_)
    have hP : va_P D vwCl [(tx, .inr (4, [.ref txb, .ref txt, .int txn, .int x2, .int txg, .int txe])), (txb, .inl (k 0, 120, .inl txbf))] H := hP
    have hD : va_D A [(tx, .inr (4, [.ref txb, .ref txt, .int txn, .int x2, .int txg, .int txe])), (txb, .inl (k 0, 120, .inl txbf))] := hD
    obtain ⟨r5, h5, h⟩ := zb h
    refine zi (zrS (As := [.int r4]) (rest := []) ⟨hx, hb, hml, hown, ht⟩ (c_X4_isDigit l D k   r4 h5 _) (va_cwS 1 ht (gdS wb725 wb726 wb78 wb727) rfl rfl rfl (by decide +kernel) ⟨Nat.le_of_ble_eq_true rfl, Nat.le_of_ble_eq_true rfl⟩) hK hP hD hS hA hm [] rfl rfl rfl hl.1 rfl (Nat.le_of_ble_eq_true rfl) dX4_readNumber_77 ⟨Nat.le_refl _, Nat.le_refl _⟩) hP hD hS hA [] rfl rfl (fun H locs hP hD hS => ?_)
    have hP : va_P D vwCl [(tx, .inr (4, [.ref txb, .ref txt, .int txn, .int x2, .int txg, .int txe])), (txb, .inl (k 0, 120, .inl txbf))] H := hP
    have hD : va_D A [(tx, .inr (4, [.ref txb, .ref txt, .int txn, .int x2, .int txg, .int txe])), (txb, .inl (k 0, 120, .inl txbf))] := hD
    refine lv_if_eq (tgt := 94) hx hb dX4_readNumber_80 (by decide) (fun c4 => ?_) (fun c4 => ?_)
    · have h := zt h c4
      refine lv_iload_n hx hb dX4_readNumber_94 rfl (lv_at hl 3 rfl) ?_
      refine lv_iload_n hx hb dX4_readNumber_95 rfl (lv_at hl 1 rfl) ?_
      refine lv_icmp_le (tgt := 104) hx hb dX4_readNumber_96 (by decide) (fun c3 => ?_) (fun c3 => ?_)
      · have h := zt h c3
        refine lv_iload_n hx hb dX4_readNumber_104 rfl (lv_at hl 3 rfl) ?_
        obtain rfl := Option.some.inj h
        exact W.iret (v := x1) hx hb hr (fun t ht9 hW => ⟨⟨_, (), rfl, rfl, zend ht9 hP⟩, hS.F ht9⟩) hS.2.2 dX4_readNumber_105
      · have h := zf h c3
        refine lv_aload_n hx hb dX4_readNumber_99 rfl (lv_at hl 0 rfl) ?_
        refine lv_iload_n hx hb dX4_readNumber_100 rfl (lv_at hl 2 rfl) ?_
        refine va_put (D := D) (ci := 4) (v := .int txp) (ty := .int) (C := RX4) (T := TX4) (N := 6) hx hb ht hiX4 tyX4 tyX4_ok nmX4 hown hK hP hD hS 0 rfl rfl 5 (by decide) (ht _ wb194) (fun _ h9 => h9) rfl (by decide +kernel) rfl rfl (Nat.le_of_ble_eq_true rfl) dX4_readNumber_101 (fun H locs hP hD hS => ?_)
        have hP : va_P D vwCl [(tx, .inr (4, [.ref txb, .ref txt, .int txn, .int x2, .int txg, .int txp])), (txb, .inl (k 0, 120, .inl txbf))] H := hP
        have hD : va_D A [(tx, .inr (4, [.ref txb, .ref txt, .int txn, .int x2, .int txg, .int txp])), (txb, .inl (k 0, 120, .inl txbf))] := hD
        refine lv_iload_n hx hb dX4_readNumber_104 rfl (lv_at hl 3 rfl) ?_
        obtain rfl := Option.some.inj h
        exact W.iret (v := x1) hx hb hr (fun t ht9 hW => ⟨⟨_, (), rfl, rfl, zend ht9 hP⟩, hS.F ht9⟩) hS.2.2 dX4_readNumber_105
    · have h := zf h c4
      refine lv_aload_n hx hb dX4_readNumber_83 rfl (lv_at hl 0 rfl) ?_
      refine lv_aload_n hx hb dX4_readNumber_84 rfl (lv_at hl 0 rfl) ?_
      refine va_get (D := D) (ci := 4) (v := .int x2) (C := RX4) (T := TX4) (N := 6) hx hb ht hiX4 hown hK hP 0 rfl rfl 3 (by decide) (ht _ wb192) (fun _ h9 => h9) rfl dX4_readNumber_85 ?_
      refine va_put (D := D) (ci := 4) (v := .int x2) (ty := .int) (C := RX4) (T := TX4) (N := 6) hx hb ht hiX4 tyX4 tyX4_ok nmX4 hown hK hP hD hS 0 rfl rfl 5 (by decide) (ht _ wb194) (fun _ h9 => h9) rfl (by decide +kernel) rfl rfl (Nat.le_of_ble_eq_true rfl) dX4_readNumber_88 (fun H locs hP hD hS => ?_)
      have hP : va_P D vwCl [(tx, .inr (4, [.ref txb, .ref txt, .int txn, .int x2, .int txg, .int x2])), (txb, .inl (k 0, 120, .inl txbf))] H := hP
      have hD : va_D A [(tx, .inr (4, [.ref txb, .ref txt, .int txn, .int x2, .int txg, .int x2])), (txb, .inl (k 0, 120, .inl txbf))] := hD
      refine lv_goto (tgt := 104) hx hb dX4_readNumber_91 (by decide) ?_
      refine lv_iload_n hx hb dX4_readNumber_104 rfl (lv_at hl 3 rfl) ?_
      obtain rfl := Option.some.inj h
      exact W.iret (v := x1) hx hb hr (fun t ht9 hW => ⟨⟨_, (), rfl, rfl, zend ht9 hP⟩, hS.F ht9⟩) hS.2.2 dX4_readNumber_105
def f_X4_readNumbers_L3 (fu : Nat) (K : Int32 → Int32 → Int32 → (Nat → Int32) → Option (Int32 × Int32 × (Nat → Int32))) (v1 : Int32) (v3 : Int32) (txn : Int32) (txbf : Nat → Int32) (txts : Int32) : Nat → Int32 → Int32 → Int32 → (Nat → Int32) → Option (Int32 × Int32 × (Nat → Int32))
  | 0, _, _, _, _ => none
  | n + 1, v4, txp, txe, txtf =>
  if v3 < v4 then (K v4 txp txe txtf) else (if txe = (-1) then ((f_X4_skipBlanks fu txn txp txbf ).bind fun r1 => (f_X5_greatestNumber  v4).bind fun r2 => (f_X4_readNumber fu txn r1 txe txbf r2).bind fun r3 => (f_X3_put 11 txts 132 txtf v1 v4 r3.1).bind fun r4 => f_X4_readNumbers_L3 fu K v1 v3 txn txbf txts n (v4 + 1) r3.2.1 r3.2.2 r4) else (K v4 txp txe txtf))
def f_X4_readNumbers (fu : Nat) (txn : Int32) (txp : Int32) (txe : Int32) (txbf : Nat → Int32) (txts : Int32) (txtf : Nat → Int32) (a1 : Int32) (a2 : Int32) (a3 : Int32) : Option (Int32 × Int32 × (Nat → Int32)) :=
  f_X4_readNumbers_L3 fu (fun (x1 : Int32) (x2 : Int32) (x3 : Int32) (x4 : Nat → Int32) => some (x2, x3, x4)) a1 a3 txn txbf txts fu a2 txp txe txtf
abbrev wk_X4_readNumbers : List Cond := Cond.code yX4_readNumbers cX4_readNumbers 5 none :: WB
abbrev rm_X4_readNumbers : Room := { frames := 2, cells := 0, slots := 0, locals := 45 }
set_option maxHeartbeats 4000000 in
set_option maxRecDepth 100000 in
theorem c_X4_readNumbers (l : Launch) (D : va_G) (k : Nat → Nat) (tx txb txt txtc : Nat) (txn : Int32) (txp : Int32) (txg : Int32) (txe : Int32) (txbf : Nat → Int32) (txts : Int32) (txtf : Nat → Int32) (a1 : Int32) (a2 : Int32) (a3 : Int32) (fu : Nat) {res : Int32 × Int32 × (Nat → Int32)} (h : f_X4_readNumbers fu txn txp txe txbf txts txtf a1 a2 a3 = some res) : Cv l yX4_readNumbers wk_X4_readNumbers rm_X4_readNumbers D k [.ref tx, .int a1, .int a2, .int a3] [(tx, .inr (4, [.ref txb, .ref txt, .int txn, .int txp, .int txg, .int txe])), (txb, .inl (k 0, 120, .inl txbf)), (txt, .inr (3, [.int 12, .int 11, .ref txtc, .int txts])), (txtc, .inl (k 0, 132, .inl txtf))] [(tx, .inr (4, [.ref txb, .ref txt, .int txn, .int res.1, .int txg, .int res.2.1])), (txb, .inl (k 0, 120, .inl txbf)), (txt, .inr (3, [.int 12, .int 11, .ref txtc, .int txts])), (txtc, .inl (k 0, 132, .inl res.2.2))] := by
  unfold Cv
  intro sz
  refine Met.ofW (cc := cX4_readNumbers) (maxL := 5) (ret := none) (by decide) rfl ?_
  intro p e s m args below meth c s₁ B hml hv
  obtain ⟨rfl, hsz, hP, hK, hD0, hm⟩ := hv
  have hx := B.exec
  have hb := B.bytes
  have hr := B.returns
  have ht : ∀ w ∈ WB, w.before _ s = true := fun w hw => atoms_spec (ws := wk_X4_readNumbers) B.pre w (List.mem_cons_of_mem _ hw)
  have hown : s.vm.findClass RX4 = some m.cls := findClass_of_methodNamed B.named
  have hlocks := B.notSynchronized
  subst hsz
  have hD := hD0.self (sz := s.heap.size)
  generalize hAe : va_A [(tx, .inr (4, [.ref txb, .ref txt, .int txn, .int txp, .int txg, .int txe])), (txb, .inl (k 0, 120, .inl txbf)), (txt, .inr (3, [.int 12, .int 11, .ref txtc, .int txts])), (txtc, .inl (k 0, 132, .inl txtf))] s.heap.size = A at hD hm ⊢
  have hA : ∀ q : Nat, s.heap.size ≤ q → A q := fun q h => by rw [← hAe]; exact Or.inr h
  have hS : va_S A s.heap s.heap [] := va_S.rf
  have hl := lv_entry ([.ref tx, .int a1, .int a2, .int a3]) (n := 5) (Nat.le_of_ble_eq_true rfl)
  rw [lg_entry_eq]
  generalize (lg_sl ([.ref tx, .int a1, .int a2, .int a3]) ++ List.replicate (5 - (lg_sl ([.ref tx, .int a1, .int a2, .int a3])).length) Slot.unset).toArray = ls at hl ⊢
  have hl : lv_has ls 5 [(0, .ref tx), (1, .int a1), (2, .int a2), (3, .int a3)] := hl
  obtain ⟨H, hH⟩ : ∃ H, H = s.heap := ⟨_, rfl⟩
  rw [← hH] at hP
  have hS : va_S A s.heap H [] := by rw [hH]; exact hS
  suffices hgo : W p l e _ s m _ below meth c H [] 0 0 _ _ by rw [hH] at hgo; exact hgo
  unfold f_X4_readNumbers at h
  refine lv_iload_n hx hb dX4_readNumbers_0 rfl (lv_at hl 2 rfl) ?_
  refine lv_istore (lv' := [(4, .int a2), (0, .ref tx), (1, .int a1), (2, .int a2), (3, .int a3)]) hx hb dX4_readNumbers_1 hl (by decide) rfl (fun ls hl => ?_)
  have loop3 : ∀ (v1 : Int32) (v2 : Int32) (v3 : Int32) (txn : Int32) (txg : Int32) (txbf : Nat → Int32) (txts : Int32), ∀ (K : Int32 → Int32 → Int32 → (Nat → Int32) → Option (Int32 × Int32 × (Nat → Int32))), (∀ (v4 : Int32) (txp : Int32) (txe : Int32) (txtf : Nat → Int32), K v4 txp txe txtf = some res → ∀ (H : Heap) (locs : List Loc), va_P D vwCl [(tx, .inr (4, [.ref txb, .ref txt, .int txn, .int txp, .int txg, .int txe])), (txb, .inl (k 0, 120, .inl txbf)), (txt, .inr (3, [.int 12, .int 11, .ref txtc, .int txts])), (txtc, .inl (k 0, 132, .inl txtf))] H → va_D A [(tx, .inr (4, [.ref txb, .ref txt, .int txn, .int txp, .int txg, .int txe])), (txb, .inl (k 0, 120, .inl txbf)), (txt, .inr (3, [.int 12, .int 11, .ref txtc, .int txts])), (txtc, .inl (k 0, 132, .inl txtf))] → va_S A s.heap H locs → ∀ ls : Array Slot, lv_has ls 5 [(0, .ref tx), (1, .int v1), (2, .int v2), (3, .int v3), (4, .int v4)] → W p l e (headSpec wk_X4_readNumbers rm_X4_readNumbers).room s m ([.ref tx, .int a1, .int a2, .int a3] : List Value).toArray below meth c H locs 0 0 (MQ below (va_Qv (fun (_ : Unit) => True) (fun _ tq9 => va_P D vwCl [(tx, .inr (4, [.ref txb, .ref txt, .int txn, .int res.1, .int txg, .int res.2.1])), (txb, .inl (k 0, 120, .inl txbf)), (txt, .inr (3, [.int 12, .int 11, .ref txtc, .int txts])), (txtc, .inl (k 0, 132, .inl res.2.2))] tq9.heap) A) ([.ref tx, .int a1, .int a2, .int a3] : List Value).toArray s 0 0 A) (F0 m 46 ls [])) → ∀ (n : Nat) (v4 : Int32) (txp : Int32) (txe : Int32) (txtf : Nat → Int32), f_X4_readNumbers_L3 fu K v1 v3 txn txbf txts n v4 txp txe txtf = some res → ∀ (H : Heap) (locs : List Loc), va_P D vwCl [(tx, .inr (4, [.ref txb, .ref txt, .int txn, .int txp, .int txg, .int txe])), (txb, .inl (k 0, 120, .inl txbf)), (txt, .inr (3, [.int 12, .int 11, .ref txtc, .int txts])), (txtc, .inl (k 0, 132, .inl txtf))] H → va_D A [(tx, .inr (4, [.ref txb, .ref txt, .int txn, .int txp, .int txg, .int txe])), (txb, .inl (k 0, 120, .inl txbf)), (txt, .inr (3, [.int 12, .int 11, .ref txtc, .int txts])), (txtc, .inl (k 0, 132, .inl txtf))] → va_S A s.heap H locs → ∀ ls : Array Slot, lv_has ls 5 [(0, .ref tx), (1, .int v1), (2, .int v2), (3, .int v3), (4, .int v4)] → W p l e (headSpec wk_X4_readNumbers rm_X4_readNumbers).room s m ([.ref tx, .int a1, .int a2, .int a3] : List Value).toArray below meth c H locs 0 0 (MQ below (va_Qv (fun (_ : Unit) => True) (fun _ tq9 => va_P D vwCl [(tx, .inr (4, [.ref txb, .ref txt, .int txn, .int res.1, .int txg, .int res.2.1])), (txb, .inl (k 0, 120, .inl txbf)), (txt, .inr (3, [.int 12, .int 11, .ref txtc, .int txts])), (txtc, .inl (k 0, 132, .inl res.2.2))] tq9.heap) A) ([.ref tx, .int a1, .int a2, .int a3] : List Value).toArray s 0 0 A) (F0 m 3 ls []) := by
    intro v1 v2 v3 txn txg txbf txts K hKK n
    induction n with
    | zero =>
      intro v4 txp txe txtf h
      rw [f_X4_readNumbers_L3] at h
      cases h
    | succ n ih =>
      intro v4 txp txe txtf h H locs hP hD hS ls hl
      rw [f_X4_readNumbers_L3] at h
      refine lv_iload hx hb dX4_readNumbers_3 (lv_at hl 4 rfl) ?_
      refine lv_iload_n hx hb dX4_readNumbers_5 rfl (lv_at hl 3 rfl) ?_
      refine lv_icmp_gt (tgt := 46) hx hb dX4_readNumbers_6 (by decide) (fun c2 => ?_) (fun c2 => ?_)
      · have h := zt h c2
        exact hKK _ _ _ _ h _ _ hP hD hS _ (lv_sub hl [0, 1, 2, 3, 4] rfl)
      · have h := zf h c2
        refine lv_aload_n hx hb dX4_readNumbers_9 rfl (lv_at hl 0 rfl) ?_
        refine va_get (D := D) (ci := 4) (v := .int txe) (C := RX4) (T := TX4) (N := 6) hx hb ht hiX4 hown hK hP 0 rfl rfl 5 (by decide) (ht _ wb194) (fun _ h9 => h9) rfl dX4_readNumbers_10 ?_
        refine lv_iconst (v := (-1)) hx hb dX4_readNumbers_13 (by decide) ?_
        refine lv_icmp_ne (tgt := 46) hx hb dX4_readNumbers_14 (by decide) (fun c1 => ?_) (fun c1 => ?_)
        · have h := zf h c1
          exact hKK _ _ _ _ h _ _ hP hD hS _ (lv_sub hl [0, 1, 2, 3, 4] rfl)
        · have h := zt h c1
          refine lv_aload_n hx hb dX4_readNumbers_17 rfl (lv_at hl 0 rfl) ?_
          obtain ⟨r1, h1, h⟩ := zb h
          refine zv (zrV (C := RX4) (T := TX4) (N := 6) (As := []) (rest := []) ⟨hx, hb, hml, hown, ht⟩ (c_X4_skipBlanks l D k tx txb txt txn txp txg txe txbf  fu h1 _) (cwV 0 ht (gdV wb625 wb627 wb20 wb78 wb628) rfl rfl rfl (by decide +kernel) ⟨Nat.le_of_ble_eq_true rfl, Nat.le_of_ble_eq_true rfl⟩) hK hP hD hS hA hm [0, 1] rfl rfl 0 4 rfl rfl rfl hl.1 rfl (Nat.le_of_ble_eq_true rfl) dX4_readNumbers_18 ⟨Nat.le_refl _, Nat.le_refl _⟩) hP hD hS hA [0, 1] rfl rfl (fun H locs hP hD hS => ?_)
          have hP : va_P D vwCl [(tx, .inr (4, [.ref txb, .ref txt, .int txn, .int r1, .int txg, .int txe])), (txb, .inl (k 0, 120, .inl txbf)), (txt, .inr (3, [.int 12, .int 11, .ref txtc, .int txts])), (txtc, .inl (k 0, 132, .inl txtf))] H := hP
          have hD : va_D A [(tx, .inr (4, [.ref txb, .ref txt, .int txn, .int r1, .int txg, .int txe])), (txb, .inl (k 0, 120, .inl txbf)), (txt, .inr (3, [.int 12, .int 11, .ref txtc, .int txts])), (txtc, .inl (k 0, 132, .inl txtf))] := hD
          refine lv_aload_n hx hb dX4_readNumbers_21 rfl (lv_at hl 0 rfl) ?_
          refine va_get (D := D) (ci := 4) (v := .ref txt) (C := RX4) (T := TX4) (N := 6) hx hb ht hiX4 hown hK hP 0 rfl rfl 1 (by decide) (ht _ wb189) (fun _ h9 => h9) rfl dX4_readNumbers_22 ?_
          refine lv_iload_n hx hb dX4_readNumbers_25 rfl (lv_at hl 1 rfl) ?_
          refine lv_iload hx hb dX4_readNumbers_26 (lv_at hl 4 rfl) ?_
          refine lv_aload_n hx hb dX4_readNumbers_28 rfl (lv_at hl 0 rfl) ?_
          refine lv_iload hx hb dX4_readNumbers_29 (lv_at hl 4 rfl) ?_
          obtain ⟨r2, h2, h⟩ := zb h
          refine zi (zrN (As := [.int v4]) (rest := [.ref tx, .int v4, .int v1, .ref txt]) ⟨hx, hb, hml, hown, ht⟩ (c_X5_greatestNumber l D k   v4 h2 _) ⟨va_cnB 1 ht (gdN wb340) rfl rfl rfl (hm.1 _ (List.mem_of_getElem? (i := 21) rfl)) (ht _ wb72) (by decide +kernel) ⟨Nat.le_of_ble_eq_true rfl, Nat.le_of_ble_eq_true rfl⟩, ht _ wb339, trivial⟩ hK hP hD hS hA hm [] rfl rfl rfl hl.1 rfl (Nat.le_of_ble_eq_true rfl) dX4_readNumbers_31 ⟨Nat.le_refl _, Nat.le_refl _⟩) hP hD hS hA [] rfl rfl (fun H locs hP hD hS => ?_)
          have hP : va_P D vwCl [(tx, .inr (4, [.ref txb, .ref txt, .int txn, .int r1, .int txg, .int txe])), (txb, .inl (k 0, 120, .inl txbf)), (txt, .inr (3, [.int 12, .int 11, .ref txtc, .int txts])), (txtc, .inl (k 0, 132, .inl txtf))] H := hP
          have hD : va_D A [(tx, .inr (4, [.ref txb, .ref txt, .int txn, .int r1, .int txg, .int txe])), (txb, .inl (k 0, 120, .inl txbf)), (txt, .inr (3, [.int 12, .int 11, .ref txtc, .int txts])), (txtc, .inl (k 0, 132, .inl txtf))] := hD
          obtain ⟨r3, h3, h⟩ := zb h
          refine zi (zrV (C := RX4) (T := TX4) (N := 6) (As := [.int r2]) (rest := [.int v4, .int v1, .ref txt]) ⟨hx, hb, hml, hown, ht⟩ (c_X4_readNumber l D k tx txb txt txn r1 txg txe txbf r2 fu h3 _) (cwV 1 ht (gdV wb721 wb723 wb27 wb78 wb724) rfl rfl rfl (by decide +kernel) ⟨Nat.le_of_ble_eq_true rfl, Nat.le_of_ble_eq_true rfl⟩) hK hP hD hS hA hm [0, 1] rfl rfl 0 4 rfl rfl rfl hl.1 rfl (Nat.le_of_ble_eq_true rfl) dX4_readNumbers_34 ⟨Nat.le_refl _, Nat.le_refl _⟩) hP hD hS hA [0, 1] rfl rfl (fun H locs hP hD hS => ?_)
          have hP : va_P D vwCl [(tx, .inr (4, [.ref txb, .ref txt, .int txn, .int r3.2.1, .int txg, .int r3.2.2])), (txb, .inl (k 0, 120, .inl txbf)), (txt, .inr (3, [.int 12, .int 11, .ref txtc, .int txts])), (txtc, .inl (k 0, 132, .inl txtf))] H := hP
          have hD : va_D A [(tx, .inr (4, [.ref txb, .ref txt, .int txn, .int r3.2.1, .int txg, .int r3.2.2])), (txb, .inl (k 0, 120, .inl txbf)), (txt, .inr (3, [.int 12, .int 11, .ref txtc, .int txts])), (txtc, .inl (k 0, 132, .inl txtf))] := hD
          obtain ⟨r4, h4, h⟩ := zb h
          refine zv (zrV (C := RX3) (T := TX3) (N := 4) (As := [.int v1, .int v4, .int r3.1]) (rest := []) ⟨hx, hb, hml, hown, ht⟩ (c_X3_put l D k txt txtc 12 11 txts 132 txtf v1 v4 r3.1 h4 _) (cwV 3 ht (gdV wb728 wb323 wb324 wb74 wb325) rfl rfl rfl (by decide +kernel) ⟨Nat.le_of_ble_eq_true rfl, Nat.le_of_ble_eq_true rfl⟩) hK hP hD hS hA hm [2, 3] rfl rfl 2 3 rfl rfl rfl hl.1 rfl (Nat.le_of_ble_eq_true rfl) dX4_readNumbers_37 ⟨Nat.le_refl _, Nat.le_refl _⟩) hP hD hS hA [2, 3] rfl rfl (fun H locs hP hD hS => ?_)
          have hP : va_P D vwCl [(tx, .inr (4, [.ref txb, .ref txt, .int txn, .int r3.2.1, .int txg, .int r3.2.2])), (txb, .inl (k 0, 120, .inl txbf)), (txt, .inr (3, [.int 12, .int 11, .ref txtc, .int txts])), (txtc, .inl (k 0, 132, .inl r4))] H := hP
          have hD : va_D A [(tx, .inr (4, [.ref txb, .ref txt, .int txn, .int r3.2.1, .int txg, .int r3.2.2])), (txb, .inl (k 0, 120, .inl txbf)), (txt, .inr (3, [.int 12, .int 11, .ref txtc, .int txts])), (txtc, .inl (k 0, 132, .inl r4))] := hD
          refine lv_iinc (v := v4 + 1) (lv' := [(4, .int (v4 + 1)), (0, .ref tx), (1, .int v1), (2, .int v2), (3, .int v3)]) hx hb dX4_readNumbers_40 hl (k := 4) rfl rfl (by decide) rfl (fun ls hl => ?_)
          refine lv_goto (tgt := 3) hx hb dX4_readNumbers_43 (by decide) ?_
          exact ih _ _ _ _ h _ _ hP hD hS _ (lv_sub hl [1, 2, 3, 4, 0] rfl)
  refine loop3 _ _ _ _ _ _ _ _ ?_ fu _ _ _ _ h _ _ hP hD hS _ (lv_sub hl [1, 2, 3, 4, 0] rfl)
  intro x1 x2 x3 x4 h H locs hP hD hS ls hl
  try dsimp only at h
  have hP : va_P D vwCl [(tx, .inr (4, [.ref txb, .ref txt, .int txn, .int x2, .int txg, .int x3])), (txb, .inl (k 0, 120, .inl txbf)), (txt, .inr (3, [.int 12, .int 11, .ref txtc, .int txts])), (txtc, .inl (k 0, 132, .inl x4))] H := hP
  have hD : va_D A [(tx, .inr (4, [.ref txb, .ref txt, .int txn, .int x2, .int txg, .int x3])), (txb, .inl (k 0, 120, .inl txbf)), (txt, .inr (3, [.int 12, .int 11, .ref txtc, .int txts])), (txtc, .inl (k 0, 132, .inl x4))] := hD
  have hl : lv_has ls 5 [(0, .ref tx), (1, .int a1), (2, .int a2), (3, .int a3), (4, .int x1)] := hl
  obtain rfl := Option.some.inj h
  exact W.vret hx hb hr (fun t ht9 hW => ⟨⟨(), rfl, trivial, zend ht9 hP⟩, hS.F ht9⟩) hS.2.2 dX4_readNumbers_46
def f_X0_size (yhs : Int32)  : Option (Int32) :=
  some (yhs)
abbrev wk_X0_size : List Cond := Cond.code yX0_size cX0_size 1 (some .int) :: WB
abbrev rm_X0_size : Room := { frames := 0, cells := 0, slots := 0, locals := 0 }
set_option maxHeartbeats 4000000 in
set_option maxRecDepth 100000 in
theorem c_X0_size (l : Launch) (D : va_G) (k : Nat → Nat) (yh yhr : Nat) (yhs : Int32) (yhn : Int32)  {res : Int32} (h : f_X0_size yhs  = some res) : Ci l yX0_size wk_X0_size rm_X0_size D k [.ref yh] [(yh, .inr (0, [.ref yhr, .int yhs, .int yhn]))] [(yh, .inr (0, [.ref yhr, .int yhs, .int yhn]))] res := by
  unfold Ci
  intro sz
  refine Met.ofW (cc := cX0_size) (maxL := 1) (ret := (some .int)) (by decide) rfl ?_
  intro p e s m args below meth c s₁ B hml hv
  obtain ⟨rfl, hsz, hP, hK, hD0, hm⟩ := hv
  have hx := B.exec
  have hb := B.bytes
  have hr := B.returns
  have ht : ∀ w ∈ WB, w.before _ s = true := fun w hw => atoms_spec (ws := wk_X0_size) B.pre w (List.mem_cons_of_mem _ hw)
  have hown : s.vm.findClass RX0 = some m.cls := findClass_of_methodNamed B.named
  have hlocks := B.notSynchronized
  subst hsz
  have hD := hD0.self (sz := s.heap.size)
  generalize hAe : va_A [(yh, .inr (0, [.ref yhr, .int yhs, .int yhn]))] s.heap.size = A at hD hm ⊢
  have hA : ∀ q : Nat, s.heap.size ≤ q → A q := fun q h => by rw [← hAe]; exact Or.inr h
  have hS : va_S A s.heap s.heap [] := va_S.rf
  have hl := lv_entry ([.ref yh]) (n := 1) (Nat.le_of_ble_eq_true rfl)
  rw [lg_entry_eq]
  generalize (lg_sl ([.ref yh]) ++ List.replicate (1 - (lg_sl ([.ref yh])).length) Slot.unset).toArray = ls at hl ⊢
  have hl : lv_has ls 1 [(0, .ref yh)] := hl
  obtain ⟨H, hH⟩ : ∃ H, H = s.heap := ⟨_, rfl⟩
  rw [← hH] at hP
  have hS : va_S A s.heap H [] := by rw [hH]; exact hS
  suffices hgo : W p l e _ s m _ below meth c H [] 0 0 _ _ by rw [hH] at hgo; exact hgo
  unfold f_X0_size at h
  refine lv_aload_n hx hb dX0_size_0 rfl (lv_at hl 0 rfl) ?_
  refine va_get (D := D) (ci := 0) (v := .int yhs) (C := RX0) (T := TX0) (N := 3) hx hb ht hiX0 hown hK hP 0 rfl rfl 1 (by decide) (ht _ wb171) (fun _ h9 => h9) rfl dX0_size_1 ?_
  obtain rfl := Option.some.inj h
  exact W.iret (v := yhs) hx hb hr (fun t ht9 hW => ⟨⟨_, (), rfl, rfl, zend ht9 hP⟩, hS.F ht9⟩) hS.2.2 dX0_size_4
def f_X5_isRule (esrs : Int32) (a1 : Int32) : Option (Bool) :=
  (f_X3_size esrs ).bind fun r1 => (f_X5_within  a1 0 (r1 - 1)).bind fun r2 => some (r2)
abbrev wk_X5_isRule : List Cond := Cond.code yX5_isRule cX5_isRule 2 (some .boolean) :: WB
abbrev rm_X5_isRule : Room := { frames := 1, cells := 0, slots := 0, locals := 22 }
set_option maxHeartbeats 4000000 in
set_option maxRecDepth 100000 in
theorem c_X5_isRule (l : Launch) (D : va_G) (k : Nat → Nat) (zq es yh tx gp gq esz esr esk esf esa esp est esrc : Nat) (b0 : Int32) (b1 : Int32) (b2 : Int32) (estm : Int32) (esrs : Int32) (esrf : Nat → Int32) (a1 : Int32) {res : Bool} (h : f_X5_isRule esrs a1 = some res) : Ci l yX5_isRule wk_X5_isRule rm_X5_isRule D k [.ref zq, .int a1] [(zq, .inr (5, [.ref es, .ref yh, .ref tx, .ref gp, .ref gq, .int b0, .int b1, .int b2])), (es, .inr (2, [.ref esz, .ref esr, .ref esk, .ref esf, .ref esa, .ref esp, .ref est, .int estm])), (esr, .inr (3, [.int 12, .int 11, .ref esrc, .int esrs])), (esrc, .inl (k 0, 132, .inl esrf))] [(zq, .inr (5, [.ref es, .ref yh, .ref tx, .ref gp, .ref gq, .int b0, .int b1, .int b2])), (es, .inr (2, [.ref esz, .ref esr, .ref esk, .ref esf, .ref esa, .ref esp, .ref est, .int estm])), (esr, .inr (3, [.int 12, .int 11, .ref esrc, .int esrs])), (esrc, .inl (k 0, 132, .inl esrf))] (zB res) := by
  unfold Ci
  intro sz
  refine Met.ofW (cc := cX5_isRule) (maxL := 2) (ret := (some .boolean)) (by decide) rfl ?_
  intro p e s m args below meth c s₁ B hml hv
  obtain ⟨rfl, hsz, hP, hK, hD0, hm⟩ := hv
  have hx := B.exec
  have hb := B.bytes
  have hr := B.returns
  have ht : ∀ w ∈ WB, w.before _ s = true := fun w hw => atoms_spec (ws := wk_X5_isRule) B.pre w (List.mem_cons_of_mem _ hw)
  have hown : s.vm.findClass RX5 = some m.cls := findClass_of_methodNamed B.named
  have hlocks := B.notSynchronized
  subst hsz
  have hD := hD0.self (sz := s.heap.size)
  generalize hAe : va_A [(zq, .inr (5, [.ref es, .ref yh, .ref tx, .ref gp, .ref gq, .int b0, .int b1, .int b2])), (es, .inr (2, [.ref esz, .ref esr, .ref esk, .ref esf, .ref esa, .ref esp, .ref est, .int estm])), (esr, .inr (3, [.int 12, .int 11, .ref esrc, .int esrs])), (esrc, .inl (k 0, 132, .inl esrf))] s.heap.size = A at hD hm ⊢
  have hA : ∀ q : Nat, s.heap.size ≤ q → A q := fun q h => by rw [← hAe]; exact Or.inr h
  have hS : va_S A s.heap s.heap [] := va_S.rf
  have hl := lv_entry ([.ref zq, .int a1]) (n := 2) (Nat.le_of_ble_eq_true rfl)
  rw [lg_entry_eq]
  generalize (lg_sl ([.ref zq, .int a1]) ++ List.replicate (2 - (lg_sl ([.ref zq, .int a1])).length) Slot.unset).toArray = ls at hl ⊢
  have hl : lv_has ls 2 [(0, .ref zq), (1, .int a1)] := hl
  obtain ⟨H, hH⟩ : ∃ H, H = s.heap := ⟨_, rfl⟩
  rw [← hH] at hP
  have hS : va_S A s.heap H [] := by rw [hH]; exact hS
  suffices hgo : W p l e _ s m _ below meth c H [] 0 0 _ _ by rw [hH] at hgo; exact hgo
  unfold f_X5_isRule at h
  refine lv_iload_n hx hb dX5_isRule_0 rfl (lv_at hl 1 rfl) ?_
  refine lv_iconst (v := 0) hx hb dX5_isRule_1 (by decide) ?_
  refine lv_aload_n hx hb dX5_isRule_2 rfl (lv_at hl 0 rfl) ?_
  refine va_get (D := D) (ci := 5) (v := .ref es) (C := RX5) (T := TX5) (N := 8) hx hb ht hiX5 hown hK hP 0 rfl rfl 0 (by decide) (ht _ wb239) (fun _ h9 => h9) rfl dX5_isRule_3 ?_
  refine va_getN (D := D) (ci := 2) (v := .ref esr) (C := RX2) (T := TX2) (N := 8) hx hb ht hiX2 hown hK hP 1 rfl rfl 1 (by decide) (va_Nw.use rfl (hm.1 _ (List.mem_of_getElem? (i := 2) rfl))) (fun _ h9 => h9) rfl dX5_isRule_6 ?_
  obtain ⟨r1, h1, h⟩ := zb h
  refine zi (zrV (C := RX3) (T := TX3) (N := 4) (As := []) (rest := [.int 0, .int a1]) ⟨hx, hb, hml, hown, ht⟩ (c_X3_size l D k esr esrc 12 11 esrs 132 esrf  h1 _) (cwV 0 ht (gdV wb304 wb305 wb306 wb74 wb307) rfl rfl rfl (by decide +kernel) ⟨Nat.le_of_ble_eq_true rfl, Nat.le_of_ble_eq_true rfl⟩) hK hP hD hS hA hm [2, 3] rfl rfl 2 3 rfl rfl rfl hl.1 rfl (Nat.le_of_ble_eq_true rfl) dX5_isRule_9 ⟨Nat.le_refl _, Nat.le_refl _⟩) hP hD hS hA [2, 3] rfl rfl (fun H locs hP hD hS => ?_)
  have hP : va_P D vwCl [(zq, .inr (5, [.ref es, .ref yh, .ref tx, .ref gp, .ref gq, .int b0, .int b1, .int b2])), (es, .inr (2, [.ref esz, .ref esr, .ref esk, .ref esf, .ref esa, .ref esp, .ref est, .int estm])), (esr, .inr (3, [.int 12, .int 11, .ref esrc, .int esrs])), (esrc, .inl (k 0, 132, .inl esrf))] H := hP
  have hD : va_D A [(zq, .inr (5, [.ref es, .ref yh, .ref tx, .ref gp, .ref gq, .int b0, .int b1, .int b2])), (es, .inr (2, [.ref esz, .ref esr, .ref esk, .ref esf, .ref esa, .ref esp, .ref est, .int estm])), (esr, .inr (3, [.int 12, .int 11, .ref esrc, .int esrs])), (esrc, .inl (k 0, 132, .inl esrf))] := hD
  refine lv_iconst (v := 1) hx hb dX5_isRule_12 (by decide) ?_
  refine lv_isub hx hb dX5_isRule_13 ?_
  obtain ⟨r2, h2, h⟩ := zb h
  refine zi (zrS (As := [.int a1, .int 0, .int (r1 - 1)]) (rest := []) ⟨hx, hb, hml, hown, ht⟩ (c_X5_within l D k   a1 0 (r1 - 1) h2 _) (va_cwS 3 ht (gdS wb268 wb269 wb72 wb270) rfl rfl rfl (by decide +kernel) ⟨Nat.le_of_ble_eq_true rfl, Nat.le_of_ble_eq_true rfl⟩) hK hP hD hS hA hm [] rfl rfl rfl hl.1 rfl (Nat.le_of_ble_eq_true rfl) dX5_isRule_14 ⟨Nat.le_refl _, Nat.le_refl _⟩) hP hD hS hA [] rfl rfl (fun H locs hP hD hS => ?_)
  have hP : va_P D vwCl [(zq, .inr (5, [.ref es, .ref yh, .ref tx, .ref gp, .ref gq, .int b0, .int b1, .int b2])), (es, .inr (2, [.ref esz, .ref esr, .ref esk, .ref esf, .ref esa, .ref esp, .ref est, .int estm])), (esr, .inr (3, [.int 12, .int 11, .ref esrc, .int esrs])), (esrc, .inl (k 0, 132, .inl esrf))] H := hP
  have hD : va_D A [(zq, .inr (5, [.ref es, .ref yh, .ref tx, .ref gp, .ref gq, .int b0, .int b1, .int b2])), (es, .inr (2, [.ref esz, .ref esr, .ref esk, .ref esf, .ref esa, .ref esp, .ref est, .int estm])), (esr, .inr (3, [.int 12, .int 11, .ref esrc, .int esrs])), (esrc, .inl (k 0, 132, .inl esrf))] := hD
  obtain rfl := Option.some.inj h
  exact W.zret (v := zB r2) (ty := .boolean) hx hb hr (zB_nar _) (fun t ht9 hW => ⟨⟨_, (), rfl, rfl, zend ht9 hP⟩, hS.F ht9⟩) hS.2.2 dX5_isRule_17
def f_X5_isFlow (esfs : Int32) (a1 : Int32) : Option (Bool) :=
  (f_X3_size esfs ).bind fun r1 => (f_X5_within  a1 0 (r1 - 1)).bind fun r2 => some (r2)
abbrev wk_X5_isFlow : List Cond := Cond.code yX5_isFlow cX5_isFlow 2 (some .boolean) :: WB
abbrev rm_X5_isFlow : Room := { frames := 1, cells := 0, slots := 0, locals := 22 }
set_option maxHeartbeats 4000000 in
set_option maxRecDepth 100000 in
theorem c_X5_isFlow (l : Launch) (D : va_G) (k : Nat → Nat) (zq es yh tx gp gq esz esr esk esf esa esp est esfc : Nat) (b0 : Int32) (b1 : Int32) (b2 : Int32) (estm : Int32) (esfs : Int32) (esff : Nat → Int32) (a1 : Int32) {res : Bool} (h : f_X5_isFlow esfs a1 = some res) : Ci l yX5_isFlow wk_X5_isFlow rm_X5_isFlow D k [.ref zq, .int a1] [(zq, .inr (5, [.ref es, .ref yh, .ref tx, .ref gp, .ref gq, .int b0, .int b1, .int b2])), (es, .inr (2, [.ref esz, .ref esr, .ref esk, .ref esf, .ref esa, .ref esp, .ref est, .int estm])), (esf, .inr (3, [.int 8, .int 7, .ref esfc, .int esfs])), (esfc, .inl (k 0, 56, .inl esff))] [(zq, .inr (5, [.ref es, .ref yh, .ref tx, .ref gp, .ref gq, .int b0, .int b1, .int b2])), (es, .inr (2, [.ref esz, .ref esr, .ref esk, .ref esf, .ref esa, .ref esp, .ref est, .int estm])), (esf, .inr (3, [.int 8, .int 7, .ref esfc, .int esfs])), (esfc, .inl (k 0, 56, .inl esff))] (zB res) := by
  unfold Ci
  intro sz
  refine Met.ofW (cc := cX5_isFlow) (maxL := 2) (ret := (some .boolean)) (by decide) rfl ?_
  intro p e s m args below meth c s₁ B hml hv
  obtain ⟨rfl, hsz, hP, hK, hD0, hm⟩ := hv
  have hx := B.exec
  have hb := B.bytes
  have hr := B.returns
  have ht : ∀ w ∈ WB, w.before _ s = true := fun w hw => atoms_spec (ws := wk_X5_isFlow) B.pre w (List.mem_cons_of_mem _ hw)
  have hown : s.vm.findClass RX5 = some m.cls := findClass_of_methodNamed B.named
  have hlocks := B.notSynchronized
  subst hsz
  have hD := hD0.self (sz := s.heap.size)
  generalize hAe : va_A [(zq, .inr (5, [.ref es, .ref yh, .ref tx, .ref gp, .ref gq, .int b0, .int b1, .int b2])), (es, .inr (2, [.ref esz, .ref esr, .ref esk, .ref esf, .ref esa, .ref esp, .ref est, .int estm])), (esf, .inr (3, [.int 8, .int 7, .ref esfc, .int esfs])), (esfc, .inl (k 0, 56, .inl esff))] s.heap.size = A at hD hm ⊢
  have hA : ∀ q : Nat, s.heap.size ≤ q → A q := fun q h => by rw [← hAe]; exact Or.inr h
  have hS : va_S A s.heap s.heap [] := va_S.rf
  have hl := lv_entry ([.ref zq, .int a1]) (n := 2) (Nat.le_of_ble_eq_true rfl)
  rw [lg_entry_eq]
  generalize (lg_sl ([.ref zq, .int a1]) ++ List.replicate (2 - (lg_sl ([.ref zq, .int a1])).length) Slot.unset).toArray = ls at hl ⊢
  have hl : lv_has ls 2 [(0, .ref zq), (1, .int a1)] := hl
  obtain ⟨H, hH⟩ : ∃ H, H = s.heap := ⟨_, rfl⟩
  rw [← hH] at hP
  have hS : va_S A s.heap H [] := by rw [hH]; exact hS
  suffices hgo : W p l e _ s m _ below meth c H [] 0 0 _ _ by rw [hH] at hgo; exact hgo
  unfold f_X5_isFlow at h
  refine lv_iload_n hx hb dX5_isFlow_0 rfl (lv_at hl 1 rfl) ?_
  refine lv_iconst (v := 0) hx hb dX5_isFlow_1 (by decide) ?_
  refine lv_aload_n hx hb dX5_isFlow_2 rfl (lv_at hl 0 rfl) ?_
  refine va_get (D := D) (ci := 5) (v := .ref es) (C := RX5) (T := TX5) (N := 8) hx hb ht hiX5 hown hK hP 0 rfl rfl 0 (by decide) (ht _ wb239) (fun _ h9 => h9) rfl dX5_isFlow_3 ?_
  refine va_getN (D := D) (ci := 2) (v := .ref esf) (C := RX2) (T := TX2) (N := 8) hx hb ht hiX2 hown hK hP 1 rfl rfl 3 (by decide) (va_Nw.use rfl (hm.1 _ (List.mem_of_getElem? (i := 4) rfl))) (fun _ h9 => h9) rfl dX5_isFlow_6 ?_
  obtain ⟨r1, h1, h⟩ := zb h
  refine zi (zrV (C := RX3) (T := TX3) (N := 4) (As := []) (rest := [.int 0, .int a1]) ⟨hx, hb, hml, hown, ht⟩ (c_X3_size l D k esf esfc 8 7 esfs 56 esff  h1 _) (cwV 0 ht (gdV wb304 wb305 wb306 wb74 wb307) rfl rfl rfl (by decide +kernel) ⟨Nat.le_of_ble_eq_true rfl, Nat.le_of_ble_eq_true rfl⟩) hK hP hD hS hA hm [2, 3] rfl rfl 2 3 rfl rfl rfl hl.1 rfl (Nat.le_of_ble_eq_true rfl) dX5_isFlow_9 ⟨Nat.le_refl _, Nat.le_refl _⟩) hP hD hS hA [2, 3] rfl rfl (fun H locs hP hD hS => ?_)
  have hP : va_P D vwCl [(zq, .inr (5, [.ref es, .ref yh, .ref tx, .ref gp, .ref gq, .int b0, .int b1, .int b2])), (es, .inr (2, [.ref esz, .ref esr, .ref esk, .ref esf, .ref esa, .ref esp, .ref est, .int estm])), (esf, .inr (3, [.int 8, .int 7, .ref esfc, .int esfs])), (esfc, .inl (k 0, 56, .inl esff))] H := hP
  have hD : va_D A [(zq, .inr (5, [.ref es, .ref yh, .ref tx, .ref gp, .ref gq, .int b0, .int b1, .int b2])), (es, .inr (2, [.ref esz, .ref esr, .ref esk, .ref esf, .ref esa, .ref esp, .ref est, .int estm])), (esf, .inr (3, [.int 8, .int 7, .ref esfc, .int esfs])), (esfc, .inl (k 0, 56, .inl esff))] := hD
  refine lv_iconst (v := 1) hx hb dX5_isFlow_12 (by decide) ?_
  refine lv_isub hx hb dX5_isFlow_13 ?_
  obtain ⟨r2, h2, h⟩ := zb h
  refine zi (zrS (As := [.int a1, .int 0, .int (r1 - 1)]) (rest := []) ⟨hx, hb, hml, hown, ht⟩ (c_X5_within l D k   a1 0 (r1 - 1) h2 _) (va_cwS 3 ht (gdS wb268 wb269 wb72 wb270) rfl rfl rfl (by decide +kernel) ⟨Nat.le_of_ble_eq_true rfl, Nat.le_of_ble_eq_true rfl⟩) hK hP hD hS hA hm [] rfl rfl rfl hl.1 rfl (Nat.le_of_ble_eq_true rfl) dX5_isFlow_14 ⟨Nat.le_refl _, Nat.le_refl _⟩) hP hD hS hA [] rfl rfl (fun H locs hP hD hS => ?_)
  have hP : va_P D vwCl [(zq, .inr (5, [.ref es, .ref yh, .ref tx, .ref gp, .ref gq, .int b0, .int b1, .int b2])), (es, .inr (2, [.ref esz, .ref esr, .ref esk, .ref esf, .ref esa, .ref esp, .ref est, .int estm])), (esf, .inr (3, [.int 8, .int 7, .ref esfc, .int esfs])), (esfc, .inl (k 0, 56, .inl esff))] H := hP
  have hD : va_D A [(zq, .inr (5, [.ref es, .ref yh, .ref tx, .ref gp, .ref gq, .int b0, .int b1, .int b2])), (es, .inr (2, [.ref esz, .ref esr, .ref esk, .ref esf, .ref esa, .ref esp, .ref est, .int estm])), (esf, .inr (3, [.int 8, .int 7, .ref esfc, .int esfs])), (esfc, .inl (k 0, 56, .inl esff))] := hD
  obtain rfl := Option.some.inj h
  exact W.zret (v := zB r2) (ty := .boolean) hx hb hr (zB_nar _) (fun t ht9 hW => ⟨⟨_, (), rfl, rfl, zend ht9 hP⟩, hS.F ht9⟩) hS.2.2 dX5_isFlow_17
def f_X5_fails (b0 : Int32) (b1 : Int32) (b2 : Int32) (a1 : Int32) : Option (Int32 × Int32 × Int32 × Int32) :=
  if a1 = (-2) then (some (a1, b0 + 1, b1, b2)) else (if a1 = (-3) then (some (a1, b0, b1 + 1, b2)) else (some (a1, b0, b1, b2 + 1)))
abbrev wk_X5_fails : List Cond := Cond.code yX5_fails cX5_fails 2 (some .int) :: WB
abbrev rm_X5_fails : Room := { frames := 0, cells := 0, slots := 0, locals := 0 }
set_option maxHeartbeats 4000000 in
set_option maxRecDepth 100000 in
theorem c_X5_fails (l : Launch) (D : va_G) (k : Nat → Nat) (zq es yh tx gp gq : Nat) (b0 : Int32) (b1 : Int32) (b2 : Int32) (a1 : Int32) {res : Int32 × Int32 × Int32 × Int32} (h : f_X5_fails b0 b1 b2 a1 = some res) : Ci l yX5_fails wk_X5_fails rm_X5_fails D k [.ref zq, .int a1] [(zq, .inr (5, [.ref es, .ref yh, .ref tx, .ref gp, .ref gq, .int b0, .int b1, .int b2]))] [(zq, .inr (5, [.ref es, .ref yh, .ref tx, .ref gp, .ref gq, .int res.2.1, .int res.2.2.1, .int res.2.2.2]))] res.1 := by
  unfold Ci
  intro sz
  refine Met.ofW (cc := cX5_fails) (maxL := 2) (ret := (some .int)) (by decide) rfl ?_
  intro p e s m args below meth c s₁ B hml hv
  obtain ⟨rfl, hsz, hP, hK, hD0, hm⟩ := hv
  have hx := B.exec
  have hb := B.bytes
  have hr := B.returns
  have ht : ∀ w ∈ WB, w.before _ s = true := fun w hw => atoms_spec (ws := wk_X5_fails) B.pre w (List.mem_cons_of_mem _ hw)
  have hown : s.vm.findClass RX5 = some m.cls := findClass_of_methodNamed B.named
  have hlocks := B.notSynchronized
  subst hsz
  have hD := hD0.self (sz := s.heap.size)
  generalize hAe : va_A [(zq, .inr (5, [.ref es, .ref yh, .ref tx, .ref gp, .ref gq, .int b0, .int b1, .int b2]))] s.heap.size = A at hD hm ⊢
  have hA : ∀ q : Nat, s.heap.size ≤ q → A q := fun q h => by rw [← hAe]; exact Or.inr h
  have hS : va_S A s.heap s.heap [] := va_S.rf
  have hl := lv_entry ([.ref zq, .int a1]) (n := 2) (Nat.le_of_ble_eq_true rfl)
  rw [lg_entry_eq]
  generalize (lg_sl ([.ref zq, .int a1]) ++ List.replicate (2 - (lg_sl ([.ref zq, .int a1])).length) Slot.unset).toArray = ls at hl ⊢
  have hl : lv_has ls 2 [(0, .ref zq), (1, .int a1)] := hl
  obtain ⟨H, hH⟩ : ∃ H, H = s.heap := ⟨_, rfl⟩
  rw [← hH] at hP
  have hS : va_S A s.heap H [] := by rw [hH]; exact hS
  suffices hgo : W p l e _ s m _ below meth c H [] 0 0 _ _ by rw [hH] at hgo; exact hgo
  unfold f_X5_fails at h
  refine lv_iload_n hx hb dX5_fails_0 rfl (lv_at hl 1 rfl) ?_
  refine lv_bipush (v := (-2)) hx hb dX5_fails_1 (by decide) ?_
  refine lv_icmp_ne (tgt := 19) hx hb dX5_fails_3 (by decide) (fun c2 => ?_) (fun c2 => ?_)
  · have h := zf h c2
    refine lv_iload_n hx hb dX5_fails_19 rfl (lv_at hl 1 rfl) ?_
    refine lv_bipush (v := (-3)) hx hb dX5_fails_20 (by decide) ?_
    refine lv_icmp_ne (tgt := 38) hx hb dX5_fails_22 (by decide) (fun c1 => ?_) (fun c1 => ?_)
    · have h := zf h c1
      refine lv_aload_n hx hb dX5_fails_38 rfl (lv_at hl 0 rfl) ?_
      refine lv_dup hx hb dX5_fails_39 rfl ?_
      refine va_get (D := D) (ci := 5) (v := .int b2) (C := RX5) (T := TX5) (N := 8) hx hb ht hiX5 hown hK hP 0 rfl rfl 7 (by decide) (ht _ wb246) (fun _ h9 => h9) rfl dX5_fails_40 ?_
      refine lv_iconst (v := 1) hx hb dX5_fails_43 (by decide) ?_
      refine lv_iadd hx hb dX5_fails_44 ?_
      refine va_put (D := D) (ci := 5) (v := .int (b2 + 1)) (ty := .int) (C := RX5) (T := TX5) (N := 8) hx hb ht hiX5 tyX5 tyX5_ok nmX5 hown hK hP hD hS 0 rfl rfl 7 (by decide) (ht _ wb246) (fun _ h9 => h9) rfl (by decide +kernel) rfl rfl (Nat.le_of_ble_eq_true rfl) dX5_fails_45 (fun H locs hP hD hS => ?_)
      have hP : va_P D vwCl [(zq, .inr (5, [.ref es, .ref yh, .ref tx, .ref gp, .ref gq, .int b0, .int b1, .int (b2 + 1)]))] H := hP
      have hD : va_D A [(zq, .inr (5, [.ref es, .ref yh, .ref tx, .ref gp, .ref gq, .int b0, .int b1, .int (b2 + 1)]))] := hD
      refine lv_iload_n hx hb dX5_fails_48 rfl (lv_at hl 1 rfl) ?_
      obtain rfl := Option.some.inj h
      exact W.iret (v := a1) hx hb hr (fun t ht9 hW => ⟨⟨_, (), rfl, rfl, zend ht9 hP⟩, hS.F ht9⟩) hS.2.2 dX5_fails_49
    · have h := zt h c1
      refine lv_aload_n hx hb dX5_fails_25 rfl (lv_at hl 0 rfl) ?_
      refine lv_dup hx hb dX5_fails_26 rfl ?_
      refine va_get (D := D) (ci := 5) (v := .int b1) (C := RX5) (T := TX5) (N := 8) hx hb ht hiX5 hown hK hP 0 rfl rfl 6 (by decide) (ht _ wb245) (fun _ h9 => h9) rfl dX5_fails_27 ?_
      refine lv_iconst (v := 1) hx hb dX5_fails_30 (by decide) ?_
      refine lv_iadd hx hb dX5_fails_31 ?_
      refine va_put (D := D) (ci := 5) (v := .int (b1 + 1)) (ty := .int) (C := RX5) (T := TX5) (N := 8) hx hb ht hiX5 tyX5 tyX5_ok nmX5 hown hK hP hD hS 0 rfl rfl 6 (by decide) (ht _ wb245) (fun _ h9 => h9) rfl (by decide +kernel) rfl rfl (Nat.le_of_ble_eq_true rfl) dX5_fails_32 (fun H locs hP hD hS => ?_)
      have hP : va_P D vwCl [(zq, .inr (5, [.ref es, .ref yh, .ref tx, .ref gp, .ref gq, .int b0, .int (b1 + 1), .int b2]))] H := hP
      have hD : va_D A [(zq, .inr (5, [.ref es, .ref yh, .ref tx, .ref gp, .ref gq, .int b0, .int (b1 + 1), .int b2]))] := hD
      refine lv_goto (tgt := 48) hx hb dX5_fails_35 (by decide) ?_
      refine lv_iload_n hx hb dX5_fails_48 rfl (lv_at hl 1 rfl) ?_
      obtain rfl := Option.some.inj h
      exact W.iret (v := a1) hx hb hr (fun t ht9 hW => ⟨⟨_, (), rfl, rfl, zend ht9 hP⟩, hS.F ht9⟩) hS.2.2 dX5_fails_49
  · have h := zt h c2
    refine lv_aload_n hx hb dX5_fails_6 rfl (lv_at hl 0 rfl) ?_
    refine lv_dup hx hb dX5_fails_7 rfl ?_
    refine va_get (D := D) (ci := 5) (v := .int b0) (C := RX5) (T := TX5) (N := 8) hx hb ht hiX5 hown hK hP 0 rfl rfl 5 (by decide) (ht _ wb244) (fun _ h9 => h9) rfl dX5_fails_8 ?_
    refine lv_iconst (v := 1) hx hb dX5_fails_11 (by decide) ?_
    refine lv_iadd hx hb dX5_fails_12 ?_
    refine va_put (D := D) (ci := 5) (v := .int (b0 + 1)) (ty := .int) (C := RX5) (T := TX5) (N := 8) hx hb ht hiX5 tyX5 tyX5_ok nmX5 hown hK hP hD hS 0 rfl rfl 5 (by decide) (ht _ wb244) (fun _ h9 => h9) rfl (by decide +kernel) rfl rfl (Nat.le_of_ble_eq_true rfl) dX5_fails_13 (fun H locs hP hD hS => ?_)
    have hP : va_P D vwCl [(zq, .inr (5, [.ref es, .ref yh, .ref tx, .ref gp, .ref gq, .int (b0 + 1), .int b1, .int b2]))] H := hP
    have hD : va_D A [(zq, .inr (5, [.ref es, .ref yh, .ref tx, .ref gp, .ref gq, .int (b0 + 1), .int b1, .int b2]))] := hD
    refine lv_goto (tgt := 48) hx hb dX5_fails_16 (by decide) ?_
    refine lv_iload_n hx hb dX5_fails_48 rfl (lv_at hl 1 rfl) ?_
    obtain rfl := Option.some.inj h
    exact W.iret (v := a1) hx hb hr (fun t ht9 hW => ⟨⟨_, (), rfl, rfl, zend ht9 hP⟩, hS.F ht9⟩) hS.2.2 dX5_fails_49
def f_X5_tellChange (fu : Nat) (eszo : Nat → Int32) (esrs : Int32) (esrf : Nat → Int32) (esks : Int32) (eskf : Nat → Int32) (a1 : Int32) (a2 : Int32) : Option (Int32) :=
  if a2 = 1 then (some (a1 / 1024)) else (if a2 = 2 then (some ((a1 / 32) - (a1 / 32) / 32 * 32)) else (if a2 = 3 then (some ((a1 / 2) - (a1 / 2) / 16 * 16)) else (if a2 = 4 then (some (a1 - a1 / 2 * 2)) else (if a2 = 5 then ((f_X2_actionFor fu eszo 11 esks 132 eskf (a1 / 1024) ((a1 / 32) - (a1 / 32) / 32 * 32) ((a1 / 2) - (a1 / 2) / 16 * 16) (a1 - a1 / 2 * 2)).bind fun r2 => some (r2)) else ((f_X2_actionFor fu eszo 11 esrs 132 esrf (a1 / 1024) ((a1 / 32) - (a1 / 32) / 32 * 32) ((a1 / 2) - (a1 / 2) / 16 * 16) (a1 - a1 / 2 * 2)).bind fun r1 => some (r1))))))
abbrev wk_X5_tellChange : List Cond := Cond.code yX5_tellChange cX5_tellChange 7 (some .int) :: WB
abbrev rm_X5_tellChange : Room := { frames := 5, cells := 0, slots := 0, locals := 125 }
set_option maxHeartbeats 4000000 in
set_option maxRecDepth 100000 in
theorem c_X5_tellChange (l : Launch) (D : va_G) (k : Nat → Nat) (zq es yh tx gp gq esz esr esk esf esa esp est esrc eskc : Nat) (b0 : Int32) (b1 : Int32) (b2 : Int32) (estm : Int32) (eszo : Nat → Int32) (esrs : Int32) (esrf : Nat → Int32) (esks : Int32) (eskf : Nat → Int32) (a1 : Int32) (a2 : Int32) (fu : Nat) {res : Int32} (h : f_X5_tellChange fu eszo esrs esrf esks eskf a1 a2 = some res) : Ci l yX5_tellChange wk_X5_tellChange rm_X5_tellChange D k [.ref zq, .int a1, .int a2] [(zq, .inr (5, [.ref es, .ref yh, .ref tx, .ref gp, .ref gq, .int b0, .int b1, .int b2])), (es, .inr (2, [.ref esz, .ref esr, .ref esk, .ref esf, .ref esa, .ref esp, .ref est, .int estm])), (esz, .inl (k 0, 32, .inl eszo)), (esr, .inr (3, [.int 12, .int 11, .ref esrc, .int esrs])), (esrc, .inl (k 0, 132, .inl esrf)), (esk, .inr (3, [.int 12, .int 11, .ref eskc, .int esks])), (eskc, .inl (k 0, 132, .inl eskf))] [(zq, .inr (5, [.ref es, .ref yh, .ref tx, .ref gp, .ref gq, .int b0, .int b1, .int b2])), (es, .inr (2, [.ref esz, .ref esr, .ref esk, .ref esf, .ref esa, .ref esp, .ref est, .int estm])), (esz, .inl (k 0, 32, .inl eszo)), (esr, .inr (3, [.int 12, .int 11, .ref esrc, .int esrs])), (esrc, .inl (k 0, 132, .inl esrf)), (esk, .inr (3, [.int 12, .int 11, .ref eskc, .int esks])), (eskc, .inl (k 0, 132, .inl eskf))] res := by
  unfold Ci
  intro sz
  refine Met.ofW (cc := cX5_tellChange) (maxL := 7) (ret := (some .int)) (by decide) rfl ?_
  intro p e s m args below meth c s₁ B hml hv
  obtain ⟨rfl, hsz, hP, hK, hD0, hm⟩ := hv
  have hx := B.exec
  have hb := B.bytes
  have hr := B.returns
  have ht : ∀ w ∈ WB, w.before _ s = true := fun w hw => atoms_spec (ws := wk_X5_tellChange) B.pre w (List.mem_cons_of_mem _ hw)
  have hown : s.vm.findClass RX5 = some m.cls := findClass_of_methodNamed B.named
  have hlocks := B.notSynchronized
  subst hsz
  have hD := hD0.self (sz := s.heap.size)
  generalize hAe : va_A [(zq, .inr (5, [.ref es, .ref yh, .ref tx, .ref gp, .ref gq, .int b0, .int b1, .int b2])), (es, .inr (2, [.ref esz, .ref esr, .ref esk, .ref esf, .ref esa, .ref esp, .ref est, .int estm])), (esz, .inl (k 0, 32, .inl eszo)), (esr, .inr (3, [.int 12, .int 11, .ref esrc, .int esrs])), (esrc, .inl (k 0, 132, .inl esrf)), (esk, .inr (3, [.int 12, .int 11, .ref eskc, .int esks])), (eskc, .inl (k 0, 132, .inl eskf))] s.heap.size = A at hD hm ⊢
  have hA : ∀ q : Nat, s.heap.size ≤ q → A q := fun q h => by rw [← hAe]; exact Or.inr h
  have hS : va_S A s.heap s.heap [] := va_S.rf
  have hl := lv_entry ([.ref zq, .int a1, .int a2]) (n := 7) (Nat.le_of_ble_eq_true rfl)
  rw [lg_entry_eq]
  generalize (lg_sl ([.ref zq, .int a1, .int a2]) ++ List.replicate (7 - (lg_sl ([.ref zq, .int a1, .int a2])).length) Slot.unset).toArray = ls at hl ⊢
  have hl : lv_has ls 7 [(0, .ref zq), (1, .int a1), (2, .int a2)] := hl
  obtain ⟨H, hH⟩ : ∃ H, H = s.heap := ⟨_, rfl⟩
  rw [← hH] at hP
  have hS : va_S A s.heap H [] := by rw [hH]; exact hS
  suffices hgo : W p l e _ s m _ below meth c H [] 0 0 _ _ by rw [hH] at hgo; exact hgo
  unfold f_X5_tellChange at h
  refine lv_iload_n hx hb dX5_tellChange_0 rfl (lv_at hl 1 rfl) ?_
  refine lv_sipush (v := 1024) hx hb dX5_tellChange_1 (by decide) ?_
  refine lv_idiv hx hb dX5_tellChange_4 (by decide) ?_
  refine lv_istore_n (lv' := [(3, .int (a1 / 1024)), (0, .ref zq), (1, .int a1), (2, .int a2)]) hx hb dX5_tellChange_5 rfl hl (by decide) rfl (fun ls hl => ?_)
  refine lv_iload_n hx hb dX5_tellChange_6 rfl (lv_at hl 2 rfl) ?_
  refine lv_bipush (v := 32) hx hb dX5_tellChange_7 (by decide) ?_
  refine lv_idiv hx hb dX5_tellChange_9 (by decide) ?_
  refine lv_bipush (v := 32) hx hb dX5_tellChange_10 (by decide) ?_
  refine lv_irem hx hb dX5_tellChange_12 (by decide) ?_
  refine lv_istore (lv' := [(4, .int ((a1 / 32) - (a1 / 32) / 32 * 32)), (3, .int (a1 / 1024)), (0, .ref zq), (1, .int a1), (2, .int a2)]) hx hb dX5_tellChange_13 hl (by decide) rfl (fun ls hl => ?_)
  refine lv_iload_n hx hb dX5_tellChange_15 rfl (lv_at hl 3 rfl) ?_
  refine lv_iconst (v := 2) hx hb dX5_tellChange_16 (by decide) ?_
  refine lv_idiv hx hb dX5_tellChange_17 (by decide) ?_
  refine lv_bipush (v := 16) hx hb dX5_tellChange_18 (by decide) ?_
  refine lv_irem hx hb dX5_tellChange_20 (by decide) ?_
  refine lv_istore (lv' := [(5, .int ((a1 / 2) - (a1 / 2) / 16 * 16)), (4, .int ((a1 / 32) - (a1 / 32) / 32 * 32)), (3, .int (a1 / 1024)), (0, .ref zq), (1, .int a1), (2, .int a2)]) hx hb dX5_tellChange_21 hl (by decide) rfl (fun ls hl => ?_)
  refine lv_iload_n hx hb dX5_tellChange_23 rfl (lv_at hl 4 rfl) ?_
  refine lv_iconst (v := 2) hx hb dX5_tellChange_24 (by decide) ?_
  refine lv_irem hx hb dX5_tellChange_25 (by decide) ?_
  refine lv_istore (lv' := [(6, .int (a1 - a1 / 2 * 2)), (5, .int ((a1 / 2) - (a1 / 2) / 16 * 16)), (4, .int ((a1 / 32) - (a1 / 32) / 32 * 32)), (3, .int (a1 / 1024)), (0, .ref zq), (1, .int a1), (2, .int a2)]) hx hb dX5_tellChange_26 hl (by decide) rfl (fun ls hl => ?_)
  refine lv_iload_n hx hb dX5_tellChange_28 rfl (lv_at hl 6 rfl) ?_
  by_cases c1 : a2 = 1
  · have h := zt h c1
    refine lv_tableIn (off := 35) (tgt := 64) hx hb dX5_tellChange_29 (by rw [c1]; decide) (by rw [c1]; decide) (by rw [c1]; rfl) (by decide) ?_
    refine lv_iload_n hx hb dX5_tellChange_64 rfl (lv_at hl 3 rfl) ?_
    obtain rfl := Option.some.inj h
    exact W.iret (v := a1 / 1024) hx hb hr (fun t ht9 hW => ⟨⟨_, (), rfl, rfl, zend ht9 hP⟩, hS.F ht9⟩) hS.2.2 dX5_tellChange_65
  · have h := zf h c1
    by_cases c2 : a2 = 2
    · have h := zt h c2
      refine lv_tableIn (off := 37) (tgt := 66) hx hb dX5_tellChange_29 (by rw [c2]; decide) (by rw [c2]; decide) (by rw [c2]; rfl) (by decide) ?_
      refine lv_iload hx hb dX5_tellChange_66 (lv_at hl 2 rfl) ?_
      obtain rfl := Option.some.inj h
      exact W.iret (v := (a1 / 32) - (a1 / 32) / 32 * 32) hx hb hr (fun t ht9 hW => ⟨⟨_, (), rfl, rfl, zend ht9 hP⟩, hS.F ht9⟩) hS.2.2 dX5_tellChange_68
    · have h := zf h c2
      by_cases c3 : a2 = 3
      · have h := zt h c3
        refine lv_tableIn (off := 40) (tgt := 69) hx hb dX5_tellChange_29 (by rw [c3]; decide) (by rw [c3]; decide) (by rw [c3]; rfl) (by decide) ?_
        refine lv_iload hx hb dX5_tellChange_69 (lv_at hl 1 rfl) ?_
        obtain rfl := Option.some.inj h
        exact W.iret (v := (a1 / 2) - (a1 / 2) / 16 * 16) hx hb hr (fun t ht9 hW => ⟨⟨_, (), rfl, rfl, zend ht9 hP⟩, hS.F ht9⟩) hS.2.2 dX5_tellChange_71
      · have h := zf h c3
        by_cases c4 : a2 = 4
        · have h := zt h c4
          refine lv_tableIn (off := 43) (tgt := 72) hx hb dX5_tellChange_29 (by rw [c4]; decide) (by rw [c4]; decide) (by rw [c4]; rfl) (by decide) ?_
          refine lv_iload hx hb dX5_tellChange_72 (lv_at hl 0 rfl) ?_
          obtain rfl := Option.some.inj h
          exact W.iret (v := a1 - a1 / 2 * 2) hx hb hr (fun t ht9 hW => ⟨⟨_, (), rfl, rfl, zend ht9 hP⟩, hS.F ht9⟩) hS.2.2 dX5_tellChange_74
        · have h := zf h c4
          by_cases c5 : a2 = 5
          · have h := zt h c5
            refine lv_tableIn (off := 46) (tgt := 75) hx hb dX5_tellChange_29 (by rw [c5]; decide) (by rw [c5]; decide) (by rw [c5]; rfl) (by decide) ?_
            refine lv_aload_n hx hb dX5_tellChange_75 rfl (lv_at hl 4 rfl) ?_
            refine va_get (D := D) (ci := 5) (v := .ref es) (C := RX5) (T := TX5) (N := 8) hx hb ht hiX5 hown hK hP 0 rfl rfl 0 (by decide) (ht _ wb239) (fun _ h9 => h9) rfl dX5_tellChange_76 ?_
            refine lv_aload_n hx hb dX5_tellChange_79 rfl (lv_at hl 4 rfl) ?_
            refine va_get (D := D) (ci := 5) (v := .ref es) (C := RX5) (T := TX5) (N := 8) hx hb ht hiX5 hown hK hP 0 rfl rfl 0 (by decide) (ht _ wb239) (fun _ h9 => h9) rfl dX5_tellChange_80 ?_
            refine va_getN (D := D) (ci := 2) (v := .ref esk) (C := RX2) (T := TX2) (N := 8) hx hb ht hiX2 hown hK hP 1 rfl rfl 2 (by decide) (va_Nw.use rfl (hm.1 _ (List.mem_of_getElem? (i := 3) rfl))) (fun _ h9 => h9) rfl dX5_tellChange_83 ?_
            refine lv_iload_n hx hb dX5_tellChange_86 rfl (lv_at hl 3 rfl) ?_
            refine lv_iload hx hb dX5_tellChange_87 (lv_at hl 2 rfl) ?_
            refine lv_iload hx hb dX5_tellChange_89 (lv_at hl 1 rfl) ?_
            refine lv_iload hx hb dX5_tellChange_91 (lv_at hl 0 rfl) ?_
            obtain ⟨r2, h2, h⟩ := zb h
            refine zi (zrV (C := RX2) (T := TX2) (N := 8) (As := [.ref esk, .int (a1 / 1024), .int ((a1 / 32) - (a1 / 32) / 32 * 32), .int ((a1 / 2) - (a1 / 2) / 16 * 16), .int (a1 - a1 / 2 * 2)]) (rest := []) ⟨hx, hb, hml, hown, ht⟩ (c_X2_actionFor l D k es esz esr esk esf esa esp est esk eskc estm eszo 12 11 esks 132 eskf (a1 / 1024) ((a1 / 32) - (a1 / 32) / 32 * 32) ((a1 / 2) - (a1 / 2) / 16 * 16) (a1 - a1 / 2 * 2) fu h2 _) (cwV 5 ht (gdV wb492 wb493 wb494 wb73 wb495) rfl rfl rfl (by decide +kernel) ⟨Nat.le_of_ble_eq_true rfl, Nat.le_of_ble_eq_true rfl⟩) hK hP hD hS hA hm [1, 2, 5, 6] rfl rfl 1 2 rfl rfl rfl hl.1 rfl (Nat.le_of_ble_eq_true rfl) dX5_tellChange_93 ⟨Nat.le_refl _, Nat.le_refl _⟩) hP hD hS hA [1, 2, 5, 6] rfl rfl (fun H locs hP hD hS => ?_)
            have hP : va_P D vwCl [(zq, .inr (5, [.ref es, .ref yh, .ref tx, .ref gp, .ref gq, .int b0, .int b1, .int b2])), (es, .inr (2, [.ref esz, .ref esr, .ref esk, .ref esf, .ref esa, .ref esp, .ref est, .int estm])), (esz, .inl (k 0, 32, .inl eszo)), (esr, .inr (3, [.int 12, .int 11, .ref esrc, .int esrs])), (esrc, .inl (k 0, 132, .inl esrf)), (esk, .inr (3, [.int 12, .int 11, .ref eskc, .int esks])), (eskc, .inl (k 0, 132, .inl eskf))] H := hP
            have hD : va_D A [(zq, .inr (5, [.ref es, .ref yh, .ref tx, .ref gp, .ref gq, .int b0, .int b1, .int b2])), (es, .inr (2, [.ref esz, .ref esr, .ref esk, .ref esf, .ref esa, .ref esp, .ref est, .int estm])), (esz, .inl (k 0, 32, .inl eszo)), (esr, .inr (3, [.int 12, .int 11, .ref esrc, .int esrs])), (esrc, .inl (k 0, 132, .inl esrf)), (esk, .inr (3, [.int 12, .int 11, .ref eskc, .int esks])), (eskc, .inl (k 0, 132, .inl eskf))] := hD
            obtain rfl := Option.some.inj h
            exact W.iret (v := r2) hx hb hr (fun t ht9 hW => ⟨⟨_, (), rfl, rfl, zend ht9 hP⟩, hS.F ht9⟩) hS.2.2 dX5_tellChange_96
          · have h := zf h c5
            refine lv_tableOut (tgt := 97) hx hb dX5_tellChange_29 (by have e0 : (Int32.toInt a2) ≠ 1 := fun q => c1 (Int32.toInt_inj.mp (by rw [q]; rfl)); have e1 : (Int32.toInt a2) ≠ 2 := fun q => c2 (Int32.toInt_inj.mp (by rw [q]; rfl)); have e2 : (Int32.toInt a2) ≠ 3 := fun q => c3 (Int32.toInt_inj.mp (by rw [q]; rfl)); have e3 : (Int32.toInt a2) ≠ 4 := fun q => c4 (Int32.toInt_inj.mp (by rw [q]; rfl)); have e4 : (Int32.toInt a2) ≠ 5 := fun q => c5 (Int32.toInt_inj.mp (by rw [q]; rfl)); omega) (by decide) ?_
            refine lv_aload_n hx hb dX5_tellChange_97 rfl (lv_at hl 4 rfl) ?_
            refine va_get (D := D) (ci := 5) (v := .ref es) (C := RX5) (T := TX5) (N := 8) hx hb ht hiX5 hown hK hP 0 rfl rfl 0 (by decide) (ht _ wb239) (fun _ h9 => h9) rfl dX5_tellChange_98 ?_
            refine lv_aload_n hx hb dX5_tellChange_101 rfl (lv_at hl 4 rfl) ?_
            refine va_get (D := D) (ci := 5) (v := .ref es) (C := RX5) (T := TX5) (N := 8) hx hb ht hiX5 hown hK hP 0 rfl rfl 0 (by decide) (ht _ wb239) (fun _ h9 => h9) rfl dX5_tellChange_102 ?_
            refine va_getN (D := D) (ci := 2) (v := .ref esr) (C := RX2) (T := TX2) (N := 8) hx hb ht hiX2 hown hK hP 1 rfl rfl 1 (by decide) (va_Nw.use rfl (hm.1 _ (List.mem_of_getElem? (i := 2) rfl))) (fun _ h9 => h9) rfl dX5_tellChange_105 ?_
            refine lv_iload_n hx hb dX5_tellChange_108 rfl (lv_at hl 3 rfl) ?_
            refine lv_iload hx hb dX5_tellChange_109 (lv_at hl 2 rfl) ?_
            refine lv_iload hx hb dX5_tellChange_111 (lv_at hl 1 rfl) ?_
            refine lv_iload hx hb dX5_tellChange_113 (lv_at hl 0 rfl) ?_
            obtain ⟨r1, h1, h⟩ := zb h
            refine zi (zrV (C := RX2) (T := TX2) (N := 8) (As := [.ref esr, .int (a1 / 1024), .int ((a1 / 32) - (a1 / 32) / 32 * 32), .int ((a1 / 2) - (a1 / 2) / 16 * 16), .int (a1 - a1 / 2 * 2)]) (rest := []) ⟨hx, hb, hml, hown, ht⟩ (c_X2_actionFor l D k es esz esr esk esf esa esp est esr esrc estm eszo 12 11 esrs 132 esrf (a1 / 1024) ((a1 / 32) - (a1 / 32) / 32 * 32) ((a1 / 2) - (a1 / 2) / 16 * 16) (a1 - a1 / 2 * 2) fu h1 _) (cwV 5 ht (gdV wb492 wb493 wb494 wb73 wb495) rfl rfl rfl (by decide +kernel) ⟨Nat.le_of_ble_eq_true rfl, Nat.le_of_ble_eq_true rfl⟩) hK hP hD hS hA hm [1, 2, 3, 4] rfl rfl 1 2 rfl rfl rfl hl.1 rfl (Nat.le_of_ble_eq_true rfl) dX5_tellChange_115 ⟨Nat.le_refl _, Nat.le_refl _⟩) hP hD hS hA [1, 2, 3, 4] rfl rfl (fun H locs hP hD hS => ?_)
            have hP : va_P D vwCl [(zq, .inr (5, [.ref es, .ref yh, .ref tx, .ref gp, .ref gq, .int b0, .int b1, .int b2])), (es, .inr (2, [.ref esz, .ref esr, .ref esk, .ref esf, .ref esa, .ref esp, .ref est, .int estm])), (esz, .inl (k 0, 32, .inl eszo)), (esr, .inr (3, [.int 12, .int 11, .ref esrc, .int esrs])), (esrc, .inl (k 0, 132, .inl esrf)), (esk, .inr (3, [.int 12, .int 11, .ref eskc, .int esks])), (eskc, .inl (k 0, 132, .inl eskf))] H := hP
            have hD : va_D A [(zq, .inr (5, [.ref es, .ref yh, .ref tx, .ref gp, .ref gq, .int b0, .int b1, .int b2])), (es, .inr (2, [.ref esz, .ref esr, .ref esk, .ref esf, .ref esa, .ref esp, .ref est, .int estm])), (esz, .inl (k 0, 32, .inl eszo)), (esr, .inr (3, [.int 12, .int 11, .ref esrc, .int esrs])), (esrc, .inl (k 0, 132, .inl esrf)), (esk, .inr (3, [.int 12, .int 11, .ref eskc, .int esks])), (eskc, .inl (k 0, 132, .inl eskf))] := hD
            obtain rfl := Option.some.inj h
            exact W.iret (v := r1) hx hb hr (fun t ht9 hW => ⟨⟨_, (), rfl, rfl, zend ht9 hP⟩, hS.F ht9⟩) hS.2.2 dX5_tellChange_118
def f_X5_makeRoom_L4 (fu : Nat) (K : Int32 → Int32 → Option (Bool × Int32 × (Nat → Int32))) (esfs : Int32) (esff : Nat → Int32) : Nat → Int32 → Int32 → Option (Bool × Int32 × (Nat → Int32))
  | 0, _, _ => none
  | n + 1, v1, v2 =>
  (f_X3_size esfs ).bind fun r1 => if r1 ≤ v2 then (K v1 v2) else ((f_X3_get 7 esfs 56 esff v2 4).bind fun r2 => if r2 = 1 then (if v1 = (-1) then (f_X5_makeRoom_L4 fu K esfs esff n v2 (v2 + 1)) else ((f_X3_get 7 esfs 56 esff v2 5).bind fun r3 => (f_X3_get 7 esfs 56 esff v1 5).bind fun r4 => if r4 ≤ r3 then (f_X5_makeRoom_L4 fu K esfs esff n v1 (v2 + 1)) else (f_X5_makeRoom_L4 fu K esfs esff n v2 (v2 + 1)))) else (if r2 = 6 then (if v1 = (-1) then (f_X5_makeRoom_L4 fu K esfs esff n v2 (v2 + 1)) else ((f_X3_get 7 esfs 56 esff v2 5).bind fun r5 => (f_X3_get 7 esfs 56 esff v1 5).bind fun r6 => if r6 ≤ r5 then (f_X5_makeRoom_L4 fu K esfs esff n v1 (v2 + 1)) else (f_X5_makeRoom_L4 fu K esfs esff n v2 (v2 + 1)))) else (f_X5_makeRoom_L4 fu K esfs esff n v1 (v2 + 1))))
def f_X5_makeRoom (fu : Nat) (esfs : Int32) (esff : Nat → Int32)  : Option (Bool × Int32 × (Nat → Int32)) :=
  f_X5_makeRoom_L4 fu (fun (x1 : Int32) (x2 : Int32) => if x1 = (-1) then (some (false, esfs, esff)) else ((f_X3_remove 7 esfs 56 esff x1).bind fun r7 => some (true, r7.1, r7.2))) esfs esff fu (-1) 0
abbrev wk_X5_makeRoom : List Cond := Cond.code yX5_makeRoom cX5_makeRoom 4 (some .boolean) :: WB
abbrev rm_X5_makeRoom : Room := { frames := 2, cells := 0, slots := 0, locals := 69 }
set_option maxHeartbeats 4000000 in
set_option maxRecDepth 100000 in
theorem c_X5_makeRoom (l : Launch) (D : va_G) (k : Nat → Nat) (zq es yh tx gp gq esz esr esk esf esa esp est esfc : Nat) (b0 : Int32) (b1 : Int32) (b2 : Int32) (estm : Int32) (esfs : Int32) (esff : Nat → Int32)  (fu : Nat) {res : Bool × Int32 × (Nat → Int32)} (h : f_X5_makeRoom fu esfs esff  = some res) : Ci l yX5_makeRoom wk_X5_makeRoom rm_X5_makeRoom D k [.ref zq] [(zq, .inr (5, [.ref es, .ref yh, .ref tx, .ref gp, .ref gq, .int b0, .int b1, .int b2])), (es, .inr (2, [.ref esz, .ref esr, .ref esk, .ref esf, .ref esa, .ref esp, .ref est, .int estm])), (esf, .inr (3, [.int 8, .int 7, .ref esfc, .int esfs])), (esfc, .inl (k 0, 56, .inl esff))] [(zq, .inr (5, [.ref es, .ref yh, .ref tx, .ref gp, .ref gq, .int b0, .int b1, .int b2])), (es, .inr (2, [.ref esz, .ref esr, .ref esk, .ref esf, .ref esa, .ref esp, .ref est, .int estm])), (esf, .inr (3, [.int 8, .int 7, .ref esfc, .int res.2.1])), (esfc, .inl (k 0, 56, .inl res.2.2))] (zB res.1) := by
  unfold Ci
  intro sz
  refine Met.ofW (cc := cX5_makeRoom) (maxL := 4) (ret := (some .boolean)) (by decide) rfl ?_
  intro p e s m args below meth c s₁ B hml hv
  obtain ⟨rfl, hsz, hP, hK, hD0, hm⟩ := hv
  have hx := B.exec
  have hb := B.bytes
  have hr := B.returns
  have ht : ∀ w ∈ WB, w.before _ s = true := fun w hw => atoms_spec (ws := wk_X5_makeRoom) B.pre w (List.mem_cons_of_mem _ hw)
  have hown : s.vm.findClass RX5 = some m.cls := findClass_of_methodNamed B.named
  have hlocks := B.notSynchronized
  subst hsz
  have hD := hD0.self (sz := s.heap.size)
  generalize hAe : va_A [(zq, .inr (5, [.ref es, .ref yh, .ref tx, .ref gp, .ref gq, .int b0, .int b1, .int b2])), (es, .inr (2, [.ref esz, .ref esr, .ref esk, .ref esf, .ref esa, .ref esp, .ref est, .int estm])), (esf, .inr (3, [.int 8, .int 7, .ref esfc, .int esfs])), (esfc, .inl (k 0, 56, .inl esff))] s.heap.size = A at hD hm ⊢
  have hA : ∀ q : Nat, s.heap.size ≤ q → A q := fun q h => by rw [← hAe]; exact Or.inr h
  have hS : va_S A s.heap s.heap [] := va_S.rf
  have hl := lv_entry ([.ref zq]) (n := 4) (Nat.le_of_ble_eq_true rfl)
  rw [lg_entry_eq]
  generalize (lg_sl ([.ref zq]) ++ List.replicate (4 - (lg_sl ([.ref zq])).length) Slot.unset).toArray = ls at hl ⊢
  have hl : lv_has ls 4 [(0, .ref zq)] := hl
  obtain ⟨H, hH⟩ : ∃ H, H = s.heap := ⟨_, rfl⟩
  rw [← hH] at hP
  have hS : va_S A s.heap H [] := by rw [hH]; exact hS
  suffices hgo : W p l e _ s m _ below meth c H [] 0 0 _ _ by rw [hH] at hgo; exact hgo
  unfold f_X5_makeRoom at h
  refine lv_iconst (v := (-1)) hx hb dX5_makeRoom_0 (by decide) ?_
  refine lv_istore_n (lv' := [(1, .int (-1)), (0, .ref zq)]) hx hb dX5_makeRoom_1 rfl hl (by decide) rfl (fun ls hl => ?_)
  refine lv_iconst (v := 0) hx hb dX5_makeRoom_2 (by decide) ?_
  refine lv_istore_n (lv' := [(2, .int 0), (1, .int (-1)), (0, .ref zq)]) hx hb dX5_makeRoom_3 rfl hl (by decide) rfl (fun ls hl => ?_)
  have loop4 : ∀ (b0 : Int32) (b1 : Int32) (b2 : Int32) (estm : Int32) (esfs : Int32) (esff : Nat → Int32), ∀ (K : Int32 → Int32 → Option (Bool × Int32 × (Nat → Int32))), (∀ (v1 : Int32) (v2 : Int32), K v1 v2 = some res → ∀ (H : Heap) (locs : List Loc), va_P D vwCl [(zq, .inr (5, [.ref es, .ref yh, .ref tx, .ref gp, .ref gq, .int b0, .int b1, .int b2])), (es, .inr (2, [.ref esz, .ref esr, .ref esk, .ref esf, .ref esa, .ref esp, .ref est, .int estm])), (esf, .inr (3, [.int 8, .int 7, .ref esfc, .int esfs])), (esfc, .inl (k 0, 56, .inl esff))] H → va_D A [(zq, .inr (5, [.ref es, .ref yh, .ref tx, .ref gp, .ref gq, .int b0, .int b1, .int b2])), (es, .inr (2, [.ref esz, .ref esr, .ref esk, .ref esf, .ref esa, .ref esp, .ref est, .int estm])), (esf, .inr (3, [.int 8, .int 7, .ref esfc, .int esfs])), (esfc, .inl (k 0, 56, .inl esff))] → va_S A s.heap H locs → ∀ ls : Array Slot, lv_has ls 4 [(0, .ref zq), (1, .int v1), (2, .int v2)] → W p l e (headSpec wk_X5_makeRoom rm_X5_makeRoom).room s m ([.ref zq] : List Value).toArray below meth c H locs 0 0 (MQ below (va_Qi (fun xq9 (_ : Unit) => xq9 = zB res.1) (fun _ tq9 => va_P D vwCl [(zq, .inr (5, [.ref es, .ref yh, .ref tx, .ref gp, .ref gq, .int b0, .int b1, .int b2])), (es, .inr (2, [.ref esz, .ref esr, .ref esk, .ref esf, .ref esa, .ref esp, .ref est, .int estm])), (esf, .inr (3, [.int 8, .int 7, .ref esfc, .int res.2.1])), (esfc, .inl (k 0, 56, .inl res.2.2))] tq9.heap) A) ([.ref zq] : List Value).toArray s 0 0 A) (F0 m 85 ls [])) → ∀ (n : Nat) (v1 : Int32) (v2 : Int32), f_X5_makeRoom_L4 fu K esfs esff n v1 v2 = some res → ∀ (H : Heap) (locs : List Loc), va_P D vwCl [(zq, .inr (5, [.ref es, .ref yh, .ref tx, .ref gp, .ref gq, .int b0, .int b1, .int b2])), (es, .inr (2, [.ref esz, .ref esr, .ref esk, .ref esf, .ref esa, .ref esp, .ref est, .int estm])), (esf, .inr (3, [.int 8, .int 7, .ref esfc, .int esfs])), (esfc, .inl (k 0, 56, .inl esff))] H → va_D A [(zq, .inr (5, [.ref es, .ref yh, .ref tx, .ref gp, .ref gq, .int b0, .int b1, .int b2])), (es, .inr (2, [.ref esz, .ref esr, .ref esk, .ref esf, .ref esa, .ref esp, .ref est, .int estm])), (esf, .inr (3, [.int 8, .int 7, .ref esfc, .int esfs])), (esfc, .inl (k 0, 56, .inl esff))] → va_S A s.heap H locs → ∀ ls : Array Slot, lv_has ls 4 [(0, .ref zq), (1, .int v1), (2, .int v2)] → W p l e (headSpec wk_X5_makeRoom rm_X5_makeRoom).room s m ([.ref zq] : List Value).toArray below meth c H locs 0 0 (MQ below (va_Qi (fun xq9 (_ : Unit) => xq9 = zB res.1) (fun _ tq9 => va_P D vwCl [(zq, .inr (5, [.ref es, .ref yh, .ref tx, .ref gp, .ref gq, .int b0, .int b1, .int b2])), (es, .inr (2, [.ref esz, .ref esr, .ref esk, .ref esf, .ref esa, .ref esp, .ref est, .int estm])), (esf, .inr (3, [.int 8, .int 7, .ref esfc, .int res.2.1])), (esfc, .inl (k 0, 56, .inl res.2.2))] tq9.heap) A) ([.ref zq] : List Value).toArray s 0 0 A) (F0 m 4 ls []) := by
    intro b0 b1 b2 estm esfs esff K hKK n
    induction n with
    | zero =>
      intro v1 v2 h
      rw [f_X5_makeRoom_L4] at h
      cases h
    | succ n ih =>
      intro v1 v2 h H locs hP hD hS ls hl
      rw [f_X5_makeRoom_L4] at h
      refine lv_iload_n hx hb dX5_makeRoom_4 rfl (lv_at hl 2 rfl) ?_
      refine lv_aload_n hx hb dX5_makeRoom_5 rfl (lv_at hl 0 rfl) ?_
      refine va_get (D := D) (ci := 5) (v := .ref es) (C := RX5) (T := TX5) (N := 8) hx hb ht hiX5 hown hK hP 0 rfl rfl 0 (by decide) (ht _ wb239) (fun _ h9 => h9) rfl dX5_makeRoom_6 ?_
      refine va_getN (D := D) (ci := 2) (v := .ref esf) (C := RX2) (T := TX2) (N := 8) hx hb ht hiX2 hown hK hP 1 rfl rfl 3 (by decide) (va_Nw.use rfl (hm.1 _ (List.mem_of_getElem? (i := 4) rfl))) (fun _ h9 => h9) rfl dX5_makeRoom_9 ?_
      obtain ⟨r1, h1, h⟩ := zb h
      refine zi (zrV (C := RX3) (T := TX3) (N := 4) (As := []) (rest := [.int v2]) ⟨hx, hb, hml, hown, ht⟩ (c_X3_size l D k esf esfc 8 7 esfs 56 esff  h1 _) (cwV 0 ht (gdV wb304 wb305 wb306 wb74 wb307) rfl rfl rfl (by decide +kernel) ⟨Nat.le_of_ble_eq_true rfl, Nat.le_of_ble_eq_true rfl⟩) hK hP hD hS hA hm [2, 3] rfl rfl 2 3 rfl rfl rfl hl.1 rfl (Nat.le_of_ble_eq_true rfl) dX5_makeRoom_12 ⟨Nat.le_refl _, Nat.le_refl _⟩) hP hD hS hA [2, 3] rfl rfl (fun H locs hP hD hS => ?_)
      have hP : va_P D vwCl [(zq, .inr (5, [.ref es, .ref yh, .ref tx, .ref gp, .ref gq, .int b0, .int b1, .int b2])), (es, .inr (2, [.ref esz, .ref esr, .ref esk, .ref esf, .ref esa, .ref esp, .ref est, .int estm])), (esf, .inr (3, [.int 8, .int 7, .ref esfc, .int esfs])), (esfc, .inl (k 0, 56, .inl esff))] H := hP
      have hD : va_D A [(zq, .inr (5, [.ref es, .ref yh, .ref tx, .ref gp, .ref gq, .int b0, .int b1, .int b2])), (es, .inr (2, [.ref esz, .ref esr, .ref esk, .ref esf, .ref esa, .ref esp, .ref est, .int estm])), (esf, .inr (3, [.int 8, .int 7, .ref esfc, .int esfs])), (esfc, .inl (k 0, 56, .inl esff))] := hD
      refine lv_icmp_ge (tgt := 85) hx hb dX5_makeRoom_15 (by decide) (fun c7 => ?_) (fun c7 => ?_)
      · have h := zt h c7
        exact hKK _ _ h _ _ hP hD hS _ (lv_sub hl [0, 1, 2] rfl)
      · have h := zf h c7
        refine lv_aload_n hx hb dX5_makeRoom_18 rfl (lv_at hl 0 rfl) ?_
        refine va_get (D := D) (ci := 5) (v := .ref es) (C := RX5) (T := TX5) (N := 8) hx hb ht hiX5 hown hK hP 0 rfl rfl 0 (by decide) (ht _ wb239) (fun _ h9 => h9) rfl dX5_makeRoom_19 ?_
        refine va_getN (D := D) (ci := 2) (v := .ref esf) (C := RX2) (T := TX2) (N := 8) hx hb ht hiX2 hown hK hP 1 rfl rfl 3 (by decide) (va_Nw.use rfl (hm.1 _ (List.mem_of_getElem? (i := 4) rfl))) (fun _ h9 => h9) rfl dX5_makeRoom_22 ?_
        refine lv_iload_n hx hb dX5_makeRoom_25 rfl (lv_at hl 2 rfl) ?_
        refine lv_iconst (v := 4) hx hb dX5_makeRoom_26 (by decide) ?_
        obtain ⟨r2, h2, h⟩ := zb h
        refine zi (zrV (C := RX3) (T := TX3) (N := 4) (As := [.int v2, .int 4]) (rest := []) ⟨hx, hb, hml, hown, ht⟩ (c_X3_get l D k esf esfc 8 7 esfs 56 esff v2 4 h2 _) (cwV 2 ht (gdV wb343 wb344 wb345 wb74 wb346) rfl rfl rfl (by decide +kernel) ⟨Nat.le_of_ble_eq_true rfl, Nat.le_of_ble_eq_true rfl⟩) hK hP hD hS hA hm [2, 3] rfl rfl 2 3 rfl rfl rfl hl.1 rfl (Nat.le_of_ble_eq_true rfl) dX5_makeRoom_27 ⟨Nat.le_refl _, Nat.le_refl _⟩) hP hD hS hA [2, 3] rfl rfl (fun H locs hP hD hS => ?_)
        have hP : va_P D vwCl [(zq, .inr (5, [.ref es, .ref yh, .ref tx, .ref gp, .ref gq, .int b0, .int b1, .int b2])), (es, .inr (2, [.ref esz, .ref esr, .ref esk, .ref esf, .ref esa, .ref esp, .ref est, .int estm])), (esf, .inr (3, [.int 8, .int 7, .ref esfc, .int esfs])), (esfc, .inl (k 0, 56, .inl esff))] H := hP
        have hD : va_D A [(zq, .inr (5, [.ref es, .ref yh, .ref tx, .ref gp, .ref gq, .int b0, .int b1, .int b2])), (es, .inr (2, [.ref esz, .ref esr, .ref esk, .ref esf, .ref esa, .ref esp, .ref est, .int estm])), (esf, .inr (3, [.int 8, .int 7, .ref esfc, .int esfs])), (esfc, .inl (k 0, 56, .inl esff))] := hD
        refine lv_istore_n (lv' := [(3, .int r2), (0, .ref zq), (1, .int v1), (2, .int v2)]) hx hb dX5_makeRoom_30 rfl hl (by decide) rfl (fun ls hl => ?_)
        refine lv_iload_n hx hb dX5_makeRoom_31 rfl (lv_at hl 0 rfl) ?_
        refine lv_iconst (v := 1) hx hb dX5_makeRoom_32 (by decide) ?_
        refine lv_icmp_eq (tgt := 45) hx hb dX5_makeRoom_33 (by decide) (fun c6 => ?_) (fun c6 => ?_)
        · have h := zt h c6
          refine lv_iload_n hx hb dX5_makeRoom_45 rfl (lv_at hl 2 rfl) ?_
          refine lv_iconst (v := (-1)) hx hb dX5_makeRoom_46 (by decide) ?_
          refine lv_icmp_eq (tgt := 77) hx hb dX5_makeRoom_47 (by decide) (fun c2 => ?_) (fun c2 => ?_)
          · have h := zt h c2
            refine lv_iload_n hx hb dX5_makeRoom_77 rfl (lv_at hl 3 rfl) ?_
            refine lv_istore_n (lv' := [(1, .int v2), (3, .int r2), (0, .ref zq), (2, .int v2)]) hx hb dX5_makeRoom_78 rfl hl (by decide) rfl (fun ls hl => ?_)
            refine lv_iinc (v := v2 + 1) (lv' := [(2, .int (v2 + 1)), (1, .int v2), (3, .int r2), (0, .ref zq)]) hx hb dX5_makeRoom_79 hl (k := 3) rfl rfl (by decide) rfl (fun ls hl => ?_)
            refine lv_goto (tgt := 4) hx hb dX5_makeRoom_82 (by decide) ?_
            exact ih _ _ h _ _ hP hD hS _ (lv_sub hl [3, 1, 0] rfl)
          · have h := zf h c2
            refine lv_aload_n hx hb dX5_makeRoom_50 rfl (lv_at hl 1 rfl) ?_
            refine va_get (D := D) (ci := 5) (v := .ref es) (C := RX5) (T := TX5) (N := 8) hx hb ht hiX5 hown hK hP 0 rfl rfl 0 (by decide) (ht _ wb239) (fun _ h9 => h9) rfl dX5_makeRoom_51 ?_
            refine va_getN (D := D) (ci := 2) (v := .ref esf) (C := RX2) (T := TX2) (N := 8) hx hb ht hiX2 hown hK hP 1 rfl rfl 3 (by decide) (va_Nw.use rfl (hm.1 _ (List.mem_of_getElem? (i := 4) rfl))) (fun _ h9 => h9) rfl dX5_makeRoom_54 ?_
            refine lv_iload_n hx hb dX5_makeRoom_57 rfl (lv_at hl 3 rfl) ?_
            refine lv_iconst (v := 5) hx hb dX5_makeRoom_58 (by decide) ?_
            obtain ⟨r3, h3, h⟩ := zb h
            refine zi (zrV (C := RX3) (T := TX3) (N := 4) (As := [.int v2, .int 5]) (rest := []) ⟨hx, hb, hml, hown, ht⟩ (c_X3_get l D k esf esfc 8 7 esfs 56 esff v2 5 h3 _) (cwV 2 ht (gdV wb343 wb344 wb345 wb74 wb346) rfl rfl rfl (by decide +kernel) ⟨Nat.le_of_ble_eq_true rfl, Nat.le_of_ble_eq_true rfl⟩) hK hP hD hS hA hm [2, 3] rfl rfl 2 3 rfl rfl rfl hl.1 rfl (Nat.le_of_ble_eq_true rfl) dX5_makeRoom_59 ⟨Nat.le_refl _, Nat.le_refl _⟩) hP hD hS hA [2, 3] rfl rfl (fun H locs hP hD hS => ?_)
            have hP : va_P D vwCl [(zq, .inr (5, [.ref es, .ref yh, .ref tx, .ref gp, .ref gq, .int b0, .int b1, .int b2])), (es, .inr (2, [.ref esz, .ref esr, .ref esk, .ref esf, .ref esa, .ref esp, .ref est, .int estm])), (esf, .inr (3, [.int 8, .int 7, .ref esfc, .int esfs])), (esfc, .inl (k 0, 56, .inl esff))] H := hP
            have hD : va_D A [(zq, .inr (5, [.ref es, .ref yh, .ref tx, .ref gp, .ref gq, .int b0, .int b1, .int b2])), (es, .inr (2, [.ref esz, .ref esr, .ref esk, .ref esf, .ref esa, .ref esp, .ref est, .int estm])), (esf, .inr (3, [.int 8, .int 7, .ref esfc, .int esfs])), (esfc, .inl (k 0, 56, .inl esff))] := hD
            refine lv_aload_n hx hb dX5_makeRoom_62 rfl (lv_at hl 1 rfl) ?_
            refine va_get (D := D) (ci := 5) (v := .ref es) (C := RX5) (T := TX5) (N := 8) hx hb ht hiX5 hown hK hP 0 rfl rfl 0 (by decide) (ht _ wb239) (fun _ h9 => h9) rfl dX5_makeRoom_63 ?_
            refine va_getN (D := D) (ci := 2) (v := .ref esf) (C := RX2) (T := TX2) (N := 8) hx hb ht hiX2 hown hK hP 1 rfl rfl 3 (by decide) (va_Nw.use rfl (hm.1 _ (List.mem_of_getElem? (i := 4) rfl))) (fun _ h9 => h9) rfl dX5_makeRoom_66 ?_
            refine lv_iload_n hx hb dX5_makeRoom_69 rfl (lv_at hl 2 rfl) ?_
            refine lv_iconst (v := 5) hx hb dX5_makeRoom_70 (by decide) ?_
            obtain ⟨r4, h4, h⟩ := zb h
            refine zi (zrV (C := RX3) (T := TX3) (N := 4) (As := [.int v1, .int 5]) (rest := [.int r3]) ⟨hx, hb, hml, hown, ht⟩ (c_X3_get l D k esf esfc 8 7 esfs 56 esff v1 5 h4 _) (cwV 2 ht (gdV wb343 wb344 wb345 wb74 wb346) rfl rfl rfl (by decide +kernel) ⟨Nat.le_of_ble_eq_true rfl, Nat.le_of_ble_eq_true rfl⟩) hK hP hD hS hA hm [2, 3] rfl rfl 2 3 rfl rfl rfl hl.1 rfl (Nat.le_of_ble_eq_true rfl) dX5_makeRoom_71 ⟨Nat.le_refl _, Nat.le_refl _⟩) hP hD hS hA [2, 3] rfl rfl (fun H locs hP hD hS => ?_)
            have hP : va_P D vwCl [(zq, .inr (5, [.ref es, .ref yh, .ref tx, .ref gp, .ref gq, .int b0, .int b1, .int b2])), (es, .inr (2, [.ref esz, .ref esr, .ref esk, .ref esf, .ref esa, .ref esp, .ref est, .int estm])), (esf, .inr (3, [.int 8, .int 7, .ref esfc, .int esfs])), (esfc, .inl (k 0, 56, .inl esff))] H := hP
            have hD : va_D A [(zq, .inr (5, [.ref es, .ref yh, .ref tx, .ref gp, .ref gq, .int b0, .int b1, .int b2])), (es, .inr (2, [.ref esz, .ref esr, .ref esk, .ref esf, .ref esa, .ref esp, .ref est, .int estm])), (esf, .inr (3, [.int 8, .int 7, .ref esfc, .int esfs])), (esfc, .inl (k 0, 56, .inl esff))] := hD
            refine lv_icmp_ge (tgt := 79) hx hb dX5_makeRoom_74 (by decide) (fun c1 => ?_) (fun c1 => ?_)
            · have h := zt h c1
              refine lv_iinc (v := v2 + 1) (lv' := [(2, .int (v2 + 1)), (3, .int r2), (0, .ref zq), (1, .int v1)]) hx hb dX5_makeRoom_79 hl (k := 3) rfl rfl (by decide) rfl (fun ls hl => ?_)
              refine lv_goto (tgt := 4) hx hb dX5_makeRoom_82 (by decide) ?_
              exact ih _ _ h _ _ hP hD hS _ (lv_sub hl [2, 3, 0] rfl)
            · have h := zf h c1
              refine lv_iload_n hx hb dX5_makeRoom_77 rfl (lv_at hl 3 rfl) ?_
              refine lv_istore_n (lv' := [(1, .int v2), (3, .int r2), (0, .ref zq), (2, .int v2)]) hx hb dX5_makeRoom_78 rfl hl (by decide) rfl (fun ls hl => ?_)
              refine lv_iinc (v := v2 + 1) (lv' := [(2, .int (v2 + 1)), (1, .int v2), (3, .int r2), (0, .ref zq)]) hx hb dX5_makeRoom_79 hl (k := 3) rfl rfl (by decide) rfl (fun ls hl => ?_)
              refine lv_goto (tgt := 4) hx hb dX5_makeRoom_82 (by decide) ?_
              exact ih _ _ h _ _ hP hD hS _ (lv_sub hl [3, 1, 0] rfl)
        · have h := zf h c6
          refine lv_iload_n hx hb dX5_makeRoom_36 rfl (lv_at hl 0 rfl) ?_
          refine lv_bipush (v := 6) hx hb dX5_makeRoom_37 (by decide) ?_
          refine lv_icmp_eq (tgt := 45) hx hb dX5_makeRoom_39 (by decide) (fun c5 => ?_) (fun c5 => ?_)
          · have h := zt h c5
            refine lv_iload_n hx hb dX5_makeRoom_45 rfl (lv_at hl 2 rfl) ?_
            refine lv_iconst (v := (-1)) hx hb dX5_makeRoom_46 (by decide) ?_
            refine lv_icmp_eq (tgt := 77) hx hb dX5_makeRoom_47 (by decide) (fun c4 => ?_) (fun c4 => ?_)
            · have h := zt h c4
              refine lv_iload_n hx hb dX5_makeRoom_77 rfl (lv_at hl 3 rfl) ?_
              refine lv_istore_n (lv' := [(1, .int v2), (3, .int r2), (0, .ref zq), (2, .int v2)]) hx hb dX5_makeRoom_78 rfl hl (by decide) rfl (fun ls hl => ?_)
              refine lv_iinc (v := v2 + 1) (lv' := [(2, .int (v2 + 1)), (1, .int v2), (3, .int r2), (0, .ref zq)]) hx hb dX5_makeRoom_79 hl (k := 3) rfl rfl (by decide) rfl (fun ls hl => ?_)
              refine lv_goto (tgt := 4) hx hb dX5_makeRoom_82 (by decide) ?_
              exact ih _ _ h _ _ hP hD hS _ (lv_sub hl [3, 1, 0] rfl)
            · have h := zf h c4
              refine lv_aload_n hx hb dX5_makeRoom_50 rfl (lv_at hl 1 rfl) ?_
              refine va_get (D := D) (ci := 5) (v := .ref es) (C := RX5) (T := TX5) (N := 8) hx hb ht hiX5 hown hK hP 0 rfl rfl 0 (by decide) (ht _ wb239) (fun _ h9 => h9) rfl dX5_makeRoom_51 ?_
              refine va_getN (D := D) (ci := 2) (v := .ref esf) (C := RX2) (T := TX2) (N := 8) hx hb ht hiX2 hown hK hP 1 rfl rfl 3 (by decide) (va_Nw.use rfl (hm.1 _ (List.mem_of_getElem? (i := 4) rfl))) (fun _ h9 => h9) rfl dX5_makeRoom_54 ?_
              refine lv_iload_n hx hb dX5_makeRoom_57 rfl (lv_at hl 3 rfl) ?_
              refine lv_iconst (v := 5) hx hb dX5_makeRoom_58 (by decide) ?_
              obtain ⟨r5, h5, h⟩ := zb h
              refine zi (zrV (C := RX3) (T := TX3) (N := 4) (As := [.int v2, .int 5]) (rest := []) ⟨hx, hb, hml, hown, ht⟩ (c_X3_get l D k esf esfc 8 7 esfs 56 esff v2 5 h5 _) (cwV 2 ht (gdV wb343 wb344 wb345 wb74 wb346) rfl rfl rfl (by decide +kernel) ⟨Nat.le_of_ble_eq_true rfl, Nat.le_of_ble_eq_true rfl⟩) hK hP hD hS hA hm [2, 3] rfl rfl 2 3 rfl rfl rfl hl.1 rfl (Nat.le_of_ble_eq_true rfl) dX5_makeRoom_59 ⟨Nat.le_refl _, Nat.le_refl _⟩) hP hD hS hA [2, 3] rfl rfl (fun H locs hP hD hS => ?_)
              have hP : va_P D vwCl [(zq, .inr (5, [.ref es, .ref yh, .ref tx, .ref gp, .ref gq, .int b0, .int b1, .int b2])), (es, .inr (2, [.ref esz, .ref esr, .ref esk, .ref esf, .ref esa, .ref esp, .ref est, .int estm])), (esf, .inr (3, [.int 8, .int 7, .ref esfc, .int esfs])), (esfc, .inl (k 0, 56, .inl esff))] H := hP
              have hD : va_D A [(zq, .inr (5, [.ref es, .ref yh, .ref tx, .ref gp, .ref gq, .int b0, .int b1, .int b2])), (es, .inr (2, [.ref esz, .ref esr, .ref esk, .ref esf, .ref esa, .ref esp, .ref est, .int estm])), (esf, .inr (3, [.int 8, .int 7, .ref esfc, .int esfs])), (esfc, .inl (k 0, 56, .inl esff))] := hD
              refine lv_aload_n hx hb dX5_makeRoom_62 rfl (lv_at hl 1 rfl) ?_
              refine va_get (D := D) (ci := 5) (v := .ref es) (C := RX5) (T := TX5) (N := 8) hx hb ht hiX5 hown hK hP 0 rfl rfl 0 (by decide) (ht _ wb239) (fun _ h9 => h9) rfl dX5_makeRoom_63 ?_
              refine va_getN (D := D) (ci := 2) (v := .ref esf) (C := RX2) (T := TX2) (N := 8) hx hb ht hiX2 hown hK hP 1 rfl rfl 3 (by decide) (va_Nw.use rfl (hm.1 _ (List.mem_of_getElem? (i := 4) rfl))) (fun _ h9 => h9) rfl dX5_makeRoom_66 ?_
              refine lv_iload_n hx hb dX5_makeRoom_69 rfl (lv_at hl 2 rfl) ?_
              refine lv_iconst (v := 5) hx hb dX5_makeRoom_70 (by decide) ?_
              obtain ⟨r6, h6, h⟩ := zb h
              refine zi (zrV (C := RX3) (T := TX3) (N := 4) (As := [.int v1, .int 5]) (rest := [.int r5]) ⟨hx, hb, hml, hown, ht⟩ (c_X3_get l D k esf esfc 8 7 esfs 56 esff v1 5 h6 _) (cwV 2 ht (gdV wb343 wb344 wb345 wb74 wb346) rfl rfl rfl (by decide +kernel) ⟨Nat.le_of_ble_eq_true rfl, Nat.le_of_ble_eq_true rfl⟩) hK hP hD hS hA hm [2, 3] rfl rfl 2 3 rfl rfl rfl hl.1 rfl (Nat.le_of_ble_eq_true rfl) dX5_makeRoom_71 ⟨Nat.le_refl _, Nat.le_refl _⟩) hP hD hS hA [2, 3] rfl rfl (fun H locs hP hD hS => ?_)
              have hP : va_P D vwCl [(zq, .inr (5, [.ref es, .ref yh, .ref tx, .ref gp, .ref gq, .int b0, .int b1, .int b2])), (es, .inr (2, [.ref esz, .ref esr, .ref esk, .ref esf, .ref esa, .ref esp, .ref est, .int estm])), (esf, .inr (3, [.int 8, .int 7, .ref esfc, .int esfs])), (esfc, .inl (k 0, 56, .inl esff))] H := hP
              have hD : va_D A [(zq, .inr (5, [.ref es, .ref yh, .ref tx, .ref gp, .ref gq, .int b0, .int b1, .int b2])), (es, .inr (2, [.ref esz, .ref esr, .ref esk, .ref esf, .ref esa, .ref esp, .ref est, .int estm])), (esf, .inr (3, [.int 8, .int 7, .ref esfc, .int esfs])), (esfc, .inl (k 0, 56, .inl esff))] := hD
              refine lv_icmp_ge (tgt := 79) hx hb dX5_makeRoom_74 (by decide) (fun c3 => ?_) (fun c3 => ?_)
              · have h := zt h c3
                refine lv_iinc (v := v2 + 1) (lv' := [(2, .int (v2 + 1)), (3, .int r2), (0, .ref zq), (1, .int v1)]) hx hb dX5_makeRoom_79 hl (k := 3) rfl rfl (by decide) rfl (fun ls hl => ?_)
                refine lv_goto (tgt := 4) hx hb dX5_makeRoom_82 (by decide) ?_
                exact ih _ _ h _ _ hP hD hS _ (lv_sub hl [2, 3, 0] rfl)
              · have h := zf h c3
                refine lv_iload_n hx hb dX5_makeRoom_77 rfl (lv_at hl 3 rfl) ?_
                refine lv_istore_n (lv' := [(1, .int v2), (3, .int r2), (0, .ref zq), (2, .int v2)]) hx hb dX5_makeRoom_78 rfl hl (by decide) rfl (fun ls hl => ?_)
                refine lv_iinc (v := v2 + 1) (lv' := [(2, .int (v2 + 1)), (1, .int v2), (3, .int r2), (0, .ref zq)]) hx hb dX5_makeRoom_79 hl (k := 3) rfl rfl (by decide) rfl (fun ls hl => ?_)
                refine lv_goto (tgt := 4) hx hb dX5_makeRoom_82 (by decide) ?_
                exact ih _ _ h _ _ hP hD hS _ (lv_sub hl [3, 1, 0] rfl)
          · have h := zf h c5
            refine lv_goto (tgt := 79) hx hb dX5_makeRoom_42 (by decide) ?_
            refine lv_iinc (v := v2 + 1) (lv' := [(2, .int (v2 + 1)), (3, .int r2), (0, .ref zq), (1, .int v1)]) hx hb dX5_makeRoom_79 hl (k := 3) rfl rfl (by decide) rfl (fun ls hl => ?_)
            refine lv_goto (tgt := 4) hx hb dX5_makeRoom_82 (by decide) ?_
            exact ih _ _ h _ _ hP hD hS _ (lv_sub hl [2, 3, 0] rfl)
  refine loop4 _ _ _ _ _ _ _ ?_ fu _ _ h _ _ hP hD hS _ (lv_sub hl [2, 1, 0] rfl)
  intro x1 x2 h H locs hP hD hS ls hl
  try dsimp only at h
  have hP : va_P D vwCl [(zq, .inr (5, [.ref es, .ref yh, .ref tx, .ref gp, .ref gq, .int b0, .int b1, .int b2])), (es, .inr (2, [.ref esz, .ref esr, .ref esk, .ref esf, .ref esa, .ref esp, .ref est, .int estm])), (esf, .inr (3, [.int 8, .int 7, .ref esfc, .int esfs])), (esfc, .inl (k 0, 56, .inl esff))] H := hP
  have hD : va_D A [(zq, .inr (5, [.ref es, .ref yh, .ref tx, .ref gp, .ref gq, .int b0, .int b1, .int b2])), (es, .inr (2, [.ref esz, .ref esr, .ref esk, .ref esf, .ref esa, .ref esp, .ref est, .int estm])), (esf, .inr (3, [.int 8, .int 7, .ref esfc, .int esfs])), (esfc, .inl (k 0, 56, .inl esff))] := hD
  have hl : lv_has ls 4 [(0, .ref zq), (1, .int x1), (2, .int x2)] := hl
  refine lv_iload_n hx hb dX5_makeRoom_85 rfl (lv_at hl 1 rfl) ?_
  refine lv_iconst (v := (-1)) hx hb dX5_makeRoom_86 (by decide) ?_
  refine lv_icmp_ne (tgt := 92) hx hb dX5_makeRoom_87 (by decide) (fun c8 => ?_) (fun c8 => ?_)
  · have h := zf h c8
    refine lv_aload_n hx hb dX5_makeRoom_92 rfl (lv_at hl 0 rfl) ?_
    refine va_get (D := D) (ci := 5) (v := .ref es) (C := RX5) (T := TX5) (N := 8) hx hb ht hiX5 hown hK hP 0 rfl rfl 0 (by decide) (ht _ wb239) (fun _ h9 => h9) rfl dX5_makeRoom_93 ?_
    refine va_getN (D := D) (ci := 2) (v := .ref esf) (C := RX2) (T := TX2) (N := 8) hx hb ht hiX2 hown hK hP 1 rfl rfl 3 (by decide) (va_Nw.use rfl (hm.1 _ (List.mem_of_getElem? (i := 4) rfl))) (fun _ h9 => h9) rfl dX5_makeRoom_96 ?_
    refine lv_iload_n hx hb dX5_makeRoom_99 rfl (lv_at hl 1 rfl) ?_
    obtain ⟨r7, h7, h⟩ := zb h
    refine zv (zrV (C := RX3) (T := TX3) (N := 4) (As := [.int x1]) (rest := []) ⟨hx, hb, hml, hown, ht⟩ (c_X3_remove l D k esf esfc 8 7 esfs 56 esff x1 h7 _) (cwV 1 ht (gdV wb351 wb352 wb353 wb74 wb354) rfl rfl rfl (by decide +kernel) ⟨Nat.le_of_ble_eq_true rfl, Nat.le_of_ble_eq_true rfl⟩) hK hP hD hS hA hm [2, 3] rfl rfl 2 3 rfl rfl rfl hl.1 rfl (Nat.le_of_ble_eq_true rfl) dX5_makeRoom_100 ⟨Nat.le_refl _, Nat.le_refl _⟩) hP hD hS hA [2, 3] rfl rfl (fun H locs hP hD hS => ?_)
    have hP : va_P D vwCl [(zq, .inr (5, [.ref es, .ref yh, .ref tx, .ref gp, .ref gq, .int b0, .int b1, .int b2])), (es, .inr (2, [.ref esz, .ref esr, .ref esk, .ref esf, .ref esa, .ref esp, .ref est, .int estm])), (esf, .inr (3, [.int 8, .int 7, .ref esfc, .int r7.1])), (esfc, .inl (k 0, 56, .inl r7.2))] H := hP
    have hD : va_D A [(zq, .inr (5, [.ref es, .ref yh, .ref tx, .ref gp, .ref gq, .int b0, .int b1, .int b2])), (es, .inr (2, [.ref esz, .ref esr, .ref esk, .ref esf, .ref esa, .ref esp, .ref est, .int estm])), (esf, .inr (3, [.int 8, .int 7, .ref esfc, .int r7.1])), (esfc, .inl (k 0, 56, .inl r7.2))] := hD
    refine lv_iconst (v := 1) hx hb dX5_makeRoom_103 (by decide) ?_
    obtain rfl := Option.some.inj h
    exact W.zret (v := 1) (ty := .boolean) hx hb hr (rfl) (fun t ht9 hW => ⟨⟨_, (), rfl, rfl, zend ht9 hP⟩, hS.F ht9⟩) hS.2.2 dX5_makeRoom_104
  · have h := zt h c8
    refine lv_iconst (v := 0) hx hb dX5_makeRoom_90 (by decide) ?_
    obtain rfl := Option.some.inj h
    exact W.zret (v := 0) (ty := .boolean) hx hb hr (rfl) (fun t ht9 hW => ⟨⟨_, (), rfl, rfl, zend ht9 hP⟩, hS.F ht9⟩) hS.2.2 dX5_makeRoom_91
def f_X5_openFlow (fu : Nat) (estm : Int32) (esfs : Int32) (esff : Nat → Int32) (espf : Nat → Int32) (a1 : Int32) (a2 : Int32) (a3 : Int32) (a4 : Int32) : Option (Int32 × Int32 × (Nat → Int32)) :=
  (f_X3_isFull 8 esfs ).bind fun r1 => if (zB r1) = 0 then ((f_X5_appendCase 8 7 esfs 56 esff a1 a2 a3 a4).bind fun r2 => (f_X3_size r2.1 ).bind fun r3 => (f_X3_put 7 r2.1 56 r2.2 (r3 - 1) 6 (-1)).bind fun r4 => if a4 = 0 then ((f_X2_enterStage estm r2.1 r4 espf (r3 - 1) 1).bind fun r6 => some (1, r2.1, r6)) else ((f_X2_enterStage estm r2.1 r4 espf (r3 - 1) 6).bind fun r5 => some (1, r2.1, r5))) else ((f_X5_makeRoom fu esfs esff ).bind fun r7 => if (zB r7.1) = 0 then (some (4, r7.2.1, r7.2.2)) else ((f_X5_appendCase 8 7 r7.2.1 56 r7.2.2 a1 a2 a3 a4).bind fun r8 => (f_X3_size r8.1 ).bind fun r9 => (f_X3_put 7 r8.1 56 r8.2 (r9 - 1) 6 (-1)).bind fun r10 => if a4 = 0 then ((f_X2_enterStage estm r8.1 r10 espf (r9 - 1) 1).bind fun r12 => some (1, r8.1, r12)) else ((f_X2_enterStage estm r8.1 r10 espf (r9 - 1) 6).bind fun r11 => some (1, r8.1, r11))))
abbrev wk_X5_openFlow : List Cond := Cond.code yX5_openFlow cX5_openFlow 6 (some .int) :: WB
abbrev rm_X5_openFlow : Room := { frames := 3, cells := 0, slots := 0, locals := 94 }
set_option maxHeartbeats 4000000 in
set_option maxRecDepth 100000 in
theorem c_X5_openFlow (l : Launch) (D : va_G) (k : Nat → Nat) (zq es yh tx gp gq esz esr esk esf esa esp est esfc : Nat) (b0 : Int32) (b1 : Int32) (b2 : Int32) (estm : Int32) (esfs : Int32) (esff : Nat → Int32) (espf : Nat → Int32) (a1 : Int32) (a2 : Int32) (a3 : Int32) (a4 : Int32) (fu : Nat) {res : Int32 × Int32 × (Nat → Int32)} (h : f_X5_openFlow fu estm esfs esff espf a1 a2 a3 a4 = some res) : Ci l yX5_openFlow wk_X5_openFlow rm_X5_openFlow D k [.ref zq, .int a1, .int a2, .int a3, .int a4] [(zq, .inr (5, [.ref es, .ref yh, .ref tx, .ref gp, .ref gq, .int b0, .int b1, .int b2])), (es, .inr (2, [.ref esz, .ref esr, .ref esk, .ref esf, .ref esa, .ref esp, .ref est, .int estm])), (esf, .inr (3, [.int 8, .int 7, .ref esfc, .int esfs])), (esfc, .inl (k 0, 56, .inl esff)), (esp, .inl (k 0, 7, .inl espf))] [(zq, .inr (5, [.ref es, .ref yh, .ref tx, .ref gp, .ref gq, .int b0, .int b1, .int b2])), (es, .inr (2, [.ref esz, .ref esr, .ref esk, .ref esf, .ref esa, .ref esp, .ref est, .int estm])), (esf, .inr (3, [.int 8, .int 7, .ref esfc, .int res.2.1])), (esfc, .inl (k 0, 56, .inl res.2.2)), (esp, .inl (k 0, 7, .inl espf))] res.1 := by
  unfold Ci
  intro sz
  refine Met.ofW (cc := cX5_openFlow) (maxL := 6) (ret := (some .int)) (by decide) rfl ?_
  intro p e s m args below meth c s₁ B hml hv
  obtain ⟨rfl, hsz, hP, hK, hD0, hm⟩ := hv
  have hx := B.exec
  have hb := B.bytes
  have hr := B.returns
  have ht : ∀ w ∈ WB, w.before _ s = true := fun w hw => atoms_spec (ws := wk_X5_openFlow) B.pre w (List.mem_cons_of_mem _ hw)
  have hown : s.vm.findClass RX5 = some m.cls := findClass_of_methodNamed B.named
  have hlocks := B.notSynchronized
  subst hsz
  have hD := hD0.self (sz := s.heap.size)
  generalize hAe : va_A [(zq, .inr (5, [.ref es, .ref yh, .ref tx, .ref gp, .ref gq, .int b0, .int b1, .int b2])), (es, .inr (2, [.ref esz, .ref esr, .ref esk, .ref esf, .ref esa, .ref esp, .ref est, .int estm])), (esf, .inr (3, [.int 8, .int 7, .ref esfc, .int esfs])), (esfc, .inl (k 0, 56, .inl esff)), (esp, .inl (k 0, 7, .inl espf))] s.heap.size = A at hD hm ⊢
  have hA : ∀ q : Nat, s.heap.size ≤ q → A q := fun q h => by rw [← hAe]; exact Or.inr h
  have hS : va_S A s.heap s.heap [] := va_S.rf
  have hl := lv_entry ([.ref zq, .int a1, .int a2, .int a3, .int a4]) (n := 6) (Nat.le_of_ble_eq_true rfl)
  rw [lg_entry_eq]
  generalize (lg_sl ([.ref zq, .int a1, .int a2, .int a3, .int a4]) ++ List.replicate (6 - (lg_sl ([.ref zq, .int a1, .int a2, .int a3, .int a4])).length) Slot.unset).toArray = ls at hl ⊢
  have hl : lv_has ls 6 [(0, .ref zq), (1, .int a1), (2, .int a2), (3, .int a3), (4, .int a4)] := hl
  obtain ⟨H, hH⟩ : ∃ H, H = s.heap := ⟨_, rfl⟩
  rw [← hH] at hP
  have hS : va_S A s.heap H [] := by rw [hH]; exact hS
  suffices hgo : W p l e _ s m _ below meth c H [] 0 0 _ _ by rw [hH] at hgo; exact hgo
  unfold f_X5_openFlow at h
  refine lv_aload_n hx hb dX5_openFlow_0 rfl (lv_at hl 0 rfl) ?_
  refine va_get (D := D) (ci := 5) (v := .ref es) (C := RX5) (T := TX5) (N := 8) hx hb ht hiX5 hown hK hP 0 rfl rfl 0 (by decide) (ht _ wb239) (fun _ h9 => h9) rfl dX5_openFlow_1 ?_
  refine va_getN (D := D) (ci := 2) (v := .ref esf) (C := RX2) (T := TX2) (N := 8) hx hb ht hiX2 hown hK hP 1 rfl rfl 3 (by decide) (va_Nw.use rfl (hm.1 _ (List.mem_of_getElem? (i := 4) rfl))) (fun _ h9 => h9) rfl dX5_openFlow_4 ?_
  obtain ⟨r1, h1, h⟩ := zb h
  refine zi (zrV (C := RX3) (T := TX3) (N := 4) (As := []) (rest := []) ⟨hx, hb, hml, hown, ht⟩ (c_X3_isFull l D k esf esfc 8 7 esfs 56 esff  h1 _) (cwV 0 ht (gdV wb308 wb309 wb310 wb74 wb311) rfl rfl rfl (by decide +kernel) ⟨Nat.le_of_ble_eq_true rfl, Nat.le_of_ble_eq_true rfl⟩) hK hP hD hS hA hm [2, 3] rfl rfl 2 3 rfl rfl rfl hl.1 rfl (Nat.le_of_ble_eq_true rfl) dX5_openFlow_7 ⟨Nat.le_refl _, Nat.le_refl _⟩) hP hD hS hA [2, 3] rfl rfl (fun H locs hP hD hS => ?_)
  have hP : va_P D vwCl [(zq, .inr (5, [.ref es, .ref yh, .ref tx, .ref gp, .ref gq, .int b0, .int b1, .int b2])), (es, .inr (2, [.ref esz, .ref esr, .ref esk, .ref esf, .ref esa, .ref esp, .ref est, .int estm])), (esf, .inr (3, [.int 8, .int 7, .ref esfc, .int esfs])), (esfc, .inl (k 0, 56, .inl esff)), (esp, .inl (k 0, 7, .inl espf))] H := hP
  have hD : va_D A [(zq, .inr (5, [.ref es, .ref yh, .ref tx, .ref gp, .ref gq, .int b0, .int b1, .int b2])), (es, .inr (2, [.ref esz, .ref esr, .ref esk, .ref esf, .ref esa, .ref esp, .ref est, .int estm])), (esf, .inr (3, [.int 8, .int 7, .ref esfc, .int esfs])), (esfc, .inl (k 0, 56, .inl esff)), (esp, .inl (k 0, 7, .inl espf))] := hD
  refine lv_if_eq (tgt := 22) hx hb dX5_openFlow_10 (by decide) (fun c4 => ?_) (fun c4 => ?_)
  · have h := zt h c4
    refine lv_aload_n hx hb dX5_openFlow_22 rfl (lv_at hl 0 rfl) ?_
    refine va_get (D := D) (ci := 5) (v := .ref es) (C := RX5) (T := TX5) (N := 8) hx hb ht hiX5 hown hK hP 0 rfl rfl 0 (by decide) (ht _ wb239) (fun _ h9 => h9) rfl dX5_openFlow_23 ?_
    refine va_getN (D := D) (ci := 2) (v := .ref esf) (C := RX2) (T := TX2) (N := 8) hx hb ht hiX2 hown hK hP 1 rfl rfl 3 (by decide) (va_Nw.use rfl (hm.1 _ (List.mem_of_getElem? (i := 4) rfl))) (fun _ h9 => h9) rfl dX5_openFlow_26 ?_
    refine lv_iload_n hx hb dX5_openFlow_29 rfl (lv_at hl 1 rfl) ?_
    refine lv_iload_n hx hb dX5_openFlow_30 rfl (lv_at hl 2 rfl) ?_
    refine lv_iload_n hx hb dX5_openFlow_31 rfl (lv_at hl 3 rfl) ?_
    refine lv_iload hx hb dX5_openFlow_32 (lv_at hl 4 rfl) ?_
    obtain ⟨r2, h2, h⟩ := zb h
    refine zv (zrS (As := [.ref esf, .int a1, .int a2, .int a3, .int a4]) (rest := []) ⟨hx, hb, hml, hown, ht⟩ (c_X5_appendCase l D k esf esfc 8 7 esfs 56 esff a1 a2 a3 a4 h2 _) (va_cwS 5 ht (gdS wb546 wb547 wb72 wb548) rfl rfl rfl (by decide +kernel) ⟨Nat.le_of_ble_eq_true rfl, Nat.le_of_ble_eq_true rfl⟩) hK hP hD hS hA hm [2, 3] rfl rfl rfl hl.1 rfl (Nat.le_of_ble_eq_true rfl) dX5_openFlow_34 ⟨Nat.le_refl _, Nat.le_refl _⟩) hP hD hS hA [2, 3] rfl rfl (fun H locs hP hD hS => ?_)
    have hP : va_P D vwCl [(zq, .inr (5, [.ref es, .ref yh, .ref tx, .ref gp, .ref gq, .int b0, .int b1, .int b2])), (es, .inr (2, [.ref esz, .ref esr, .ref esk, .ref esf, .ref esa, .ref esp, .ref est, .int estm])), (esf, .inr (3, [.int 8, .int 7, .ref esfc, .int r2.1])), (esfc, .inl (k 0, 56, .inl r2.2)), (esp, .inl (k 0, 7, .inl espf))] H := hP
    have hD : va_D A [(zq, .inr (5, [.ref es, .ref yh, .ref tx, .ref gp, .ref gq, .int b0, .int b1, .int b2])), (es, .inr (2, [.ref esz, .ref esr, .ref esk, .ref esf, .ref esa, .ref esp, .ref est, .int estm])), (esf, .inr (3, [.int 8, .int 7, .ref esfc, .int r2.1])), (esfc, .inl (k 0, 56, .inl r2.2)), (esp, .inl (k 0, 7, .inl espf))] := hD
    refine lv_aload_n hx hb dX5_openFlow_37 rfl (lv_at hl 0 rfl) ?_
    refine va_get (D := D) (ci := 5) (v := .ref es) (C := RX5) (T := TX5) (N := 8) hx hb ht hiX5 hown hK hP 0 rfl rfl 0 (by decide) (ht _ wb239) (fun _ h9 => h9) rfl dX5_openFlow_38 ?_
    refine va_getN (D := D) (ci := 2) (v := .ref esf) (C := RX2) (T := TX2) (N := 8) hx hb ht hiX2 hown hK hP 1 rfl rfl 3 (by decide) (va_Nw.use rfl (hm.1 _ (List.mem_of_getElem? (i := 4) rfl))) (fun _ h9 => h9) rfl dX5_openFlow_41 ?_
    obtain ⟨r3, h3, h⟩ := zb h
    refine zi (zrV (C := RX3) (T := TX3) (N := 4) (As := []) (rest := []) ⟨hx, hb, hml, hown, ht⟩ (c_X3_size l D k esf esfc 8 7 r2.1 56 r2.2  h3 _) (cwV 0 ht (gdV wb304 wb305 wb306 wb74 wb307) rfl rfl rfl (by decide +kernel) ⟨Nat.le_of_ble_eq_true rfl, Nat.le_of_ble_eq_true rfl⟩) hK hP hD hS hA hm [2, 3] rfl rfl 2 3 rfl rfl rfl hl.1 rfl (Nat.le_of_ble_eq_true rfl) dX5_openFlow_44 ⟨Nat.le_refl _, Nat.le_refl _⟩) hP hD hS hA [2, 3] rfl rfl (fun H locs hP hD hS => ?_)
    have hP : va_P D vwCl [(zq, .inr (5, [.ref es, .ref yh, .ref tx, .ref gp, .ref gq, .int b0, .int b1, .int b2])), (es, .inr (2, [.ref esz, .ref esr, .ref esk, .ref esf, .ref esa, .ref esp, .ref est, .int estm])), (esf, .inr (3, [.int 8, .int 7, .ref esfc, .int r2.1])), (esfc, .inl (k 0, 56, .inl r2.2)), (esp, .inl (k 0, 7, .inl espf))] H := hP
    have hD : va_D A [(zq, .inr (5, [.ref es, .ref yh, .ref tx, .ref gp, .ref gq, .int b0, .int b1, .int b2])), (es, .inr (2, [.ref esz, .ref esr, .ref esk, .ref esf, .ref esa, .ref esp, .ref est, .int estm])), (esf, .inr (3, [.int 8, .int 7, .ref esfc, .int r2.1])), (esfc, .inl (k 0, 56, .inl r2.2)), (esp, .inl (k 0, 7, .inl espf))] := hD
    refine lv_iconst (v := 1) hx hb dX5_openFlow_47 (by decide) ?_
    refine lv_isub hx hb dX5_openFlow_48 ?_
    refine lv_istore (lv' := [(5, .int (r3 - 1)), (0, .ref zq), (1, .int a1), (2, .int a2), (3, .int a3), (4, .int a4)]) hx hb dX5_openFlow_49 hl (by decide) rfl (fun ls hl => ?_)
    refine lv_aload_n hx hb dX5_openFlow_51 rfl (lv_at hl 1 rfl) ?_
    refine va_get (D := D) (ci := 5) (v := .ref es) (C := RX5) (T := TX5) (N := 8) hx hb ht hiX5 hown hK hP 0 rfl rfl 0 (by decide) (ht _ wb239) (fun _ h9 => h9) rfl dX5_openFlow_52 ?_
    refine va_getN (D := D) (ci := 2) (v := .ref esf) (C := RX2) (T := TX2) (N := 8) hx hb ht hiX2 hown hK hP 1 rfl rfl 3 (by decide) (va_Nw.use rfl (hm.1 _ (List.mem_of_getElem? (i := 4) rfl))) (fun _ h9 => h9) rfl dX5_openFlow_55 ?_
    refine lv_iload hx hb dX5_openFlow_58 (lv_at hl 0 rfl) ?_
    refine lv_bipush (v := 6) hx hb dX5_openFlow_60 (by decide) ?_
    refine lv_iconst (v := (-1)) hx hb dX5_openFlow_62 (by decide) ?_
    obtain ⟨r4, h4, h⟩ := zb h
    refine zv (zrV (C := RX3) (T := TX3) (N := 4) (As := [.int (r3 - 1), .int 6, .int (-1)]) (rest := []) ⟨hx, hb, hml, hown, ht⟩ (c_X3_put l D k esf esfc 8 7 r2.1 56 r2.2 (r3 - 1) 6 (-1) h4 _) (cwV 3 ht (gdV wb322 wb323 wb324 wb74 wb325) rfl rfl rfl (by decide +kernel) ⟨Nat.le_of_ble_eq_true rfl, Nat.le_of_ble_eq_true rfl⟩) hK hP hD hS hA hm [2, 3] rfl rfl 2 3 rfl rfl rfl hl.1 rfl (Nat.le_of_ble_eq_true rfl) dX5_openFlow_63 ⟨Nat.le_refl _, Nat.le_refl _⟩) hP hD hS hA [2, 3] rfl rfl (fun H locs hP hD hS => ?_)
    have hP : va_P D vwCl [(zq, .inr (5, [.ref es, .ref yh, .ref tx, .ref gp, .ref gq, .int b0, .int b1, .int b2])), (es, .inr (2, [.ref esz, .ref esr, .ref esk, .ref esf, .ref esa, .ref esp, .ref est, .int estm])), (esf, .inr (3, [.int 8, .int 7, .ref esfc, .int r2.1])), (esfc, .inl (k 0, 56, .inl r4)), (esp, .inl (k 0, 7, .inl espf))] H := hP
    have hD : va_D A [(zq, .inr (5, [.ref es, .ref yh, .ref tx, .ref gp, .ref gq, .int b0, .int b1, .int b2])), (es, .inr (2, [.ref esz, .ref esr, .ref esk, .ref esf, .ref esa, .ref esp, .ref est, .int estm])), (esf, .inr (3, [.int 8, .int 7, .ref esfc, .int r2.1])), (esfc, .inl (k 0, 56, .inl r4)), (esp, .inl (k 0, 7, .inl espf))] := hD
    refine lv_aload_n hx hb dX5_openFlow_66 rfl (lv_at hl 1 rfl) ?_
    refine va_get (D := D) (ci := 5) (v := .ref es) (C := RX5) (T := TX5) (N := 8) hx hb ht hiX5 hown hK hP 0 rfl rfl 0 (by decide) (ht _ wb239) (fun _ h9 => h9) rfl dX5_openFlow_67 ?_
    refine lv_iload hx hb dX5_openFlow_70 (lv_at hl 0 rfl) ?_
    refine lv_iload hx hb dX5_openFlow_72 (lv_at hl 5 rfl) ?_
    refine lv_if_ne (tgt := 81) hx hb dX5_openFlow_74 (by decide) (fun c1 => ?_) (fun c1 => ?_)
    · have h := zf h c1
      refine lv_bipush (v := 6) hx hb dX5_openFlow_81 (by decide) ?_
      obtain ⟨r5, h5, h⟩ := zb h
      refine zv (zrV (C := RX2) (T := TX2) (N := 8) (As := [.int (r3 - 1), .int 6]) (rest := []) ⟨hx, hb, hml, hown, ht⟩ (c_X2_enterStage l D k es esz esr esk esf esa esp est esfc estm r2.1 r4 espf (r3 - 1) 6 h5 _) (cwV 2 ht (gdV wb529 wb530 wb531 wb73 wb532) rfl rfl rfl (by decide +kernel) ⟨Nat.le_of_ble_eq_true rfl, Nat.le_of_ble_eq_true rfl⟩) hK hP hD hS hA hm [1, 2, 3, 4] rfl rfl 1 2 rfl rfl rfl hl.1 rfl (Nat.le_of_ble_eq_true rfl) dX5_openFlow_83 ⟨Nat.le_refl _, Nat.le_refl _⟩) hP hD hS hA [1, 2, 3, 4] rfl rfl (fun H locs hP hD hS => ?_)
      have hP : va_P D vwCl [(zq, .inr (5, [.ref es, .ref yh, .ref tx, .ref gp, .ref gq, .int b0, .int b1, .int b2])), (es, .inr (2, [.ref esz, .ref esr, .ref esk, .ref esf, .ref esa, .ref esp, .ref est, .int estm])), (esf, .inr (3, [.int 8, .int 7, .ref esfc, .int r2.1])), (esfc, .inl (k 0, 56, .inl r5)), (esp, .inl (k 0, 7, .inl espf))] H := hP
      have hD : va_D A [(zq, .inr (5, [.ref es, .ref yh, .ref tx, .ref gp, .ref gq, .int b0, .int b1, .int b2])), (es, .inr (2, [.ref esz, .ref esr, .ref esk, .ref esf, .ref esa, .ref esp, .ref est, .int estm])), (esf, .inr (3, [.int 8, .int 7, .ref esfc, .int r2.1])), (esfc, .inl (k 0, 56, .inl r5)), (esp, .inl (k 0, 7, .inl espf))] := hD
      refine lv_iconst (v := 1) hx hb dX5_openFlow_86 (by decide) ?_
      obtain rfl := Option.some.inj h
      exact W.iret (v := 1) hx hb hr (fun t ht9 hW => ⟨⟨_, (), rfl, rfl, zend ht9 hP⟩, hS.F ht9⟩) hS.2.2 dX5_openFlow_87
    · have h := zt h c1
      refine lv_iconst (v := 1) hx hb dX5_openFlow_77 (by decide) ?_
      refine lv_goto (tgt := 83) hx hb dX5_openFlow_78 (by decide) ?_
      obtain ⟨r6, h6, h⟩ := zb h
      refine zv (zrV (C := RX2) (T := TX2) (N := 8) (As := [.int (r3 - 1), .int 1]) (rest := []) ⟨hx, hb, hml, hown, ht⟩ (c_X2_enterStage l D k es esz esr esk esf esa esp est esfc estm r2.1 r4 espf (r3 - 1) 1 h6 _) (cwV 2 ht (gdV wb529 wb530 wb531 wb73 wb532) rfl rfl rfl (by decide +kernel) ⟨Nat.le_of_ble_eq_true rfl, Nat.le_of_ble_eq_true rfl⟩) hK hP hD hS hA hm [1, 2, 3, 4] rfl rfl 1 2 rfl rfl rfl hl.1 rfl (Nat.le_of_ble_eq_true rfl) dX5_openFlow_83 ⟨Nat.le_refl _, Nat.le_refl _⟩) hP hD hS hA [1, 2, 3, 4] rfl rfl (fun H locs hP hD hS => ?_)
      have hP : va_P D vwCl [(zq, .inr (5, [.ref es, .ref yh, .ref tx, .ref gp, .ref gq, .int b0, .int b1, .int b2])), (es, .inr (2, [.ref esz, .ref esr, .ref esk, .ref esf, .ref esa, .ref esp, .ref est, .int estm])), (esf, .inr (3, [.int 8, .int 7, .ref esfc, .int r2.1])), (esfc, .inl (k 0, 56, .inl r6)), (esp, .inl (k 0, 7, .inl espf))] H := hP
      have hD : va_D A [(zq, .inr (5, [.ref es, .ref yh, .ref tx, .ref gp, .ref gq, .int b0, .int b1, .int b2])), (es, .inr (2, [.ref esz, .ref esr, .ref esk, .ref esf, .ref esa, .ref esp, .ref est, .int estm])), (esf, .inr (3, [.int 8, .int 7, .ref esfc, .int r2.1])), (esfc, .inl (k 0, 56, .inl r6)), (esp, .inl (k 0, 7, .inl espf))] := hD
      refine lv_iconst (v := 1) hx hb dX5_openFlow_86 (by decide) ?_
      obtain rfl := Option.some.inj h
      exact W.iret (v := 1) hx hb hr (fun t ht9 hW => ⟨⟨_, (), rfl, rfl, zend ht9 hP⟩, hS.F ht9⟩) hS.2.2 dX5_openFlow_87
  · have h := zf h c4
    refine lv_aload_n hx hb dX5_openFlow_13 rfl (lv_at hl 0 rfl) ?_
    obtain ⟨r7, h7, h⟩ := zb h
    refine zi (zrV (C := RX5) (T := TX5) (N := 8) (As := []) (rest := []) ⟨hx, hb, hml, hown, ht⟩ (c_X5_makeRoom l D k zq es yh tx gp gq esz esr esk esf esa esp est esfc b0 b1 b2 estm esfs esff  fu h7 _) (cwV 0 ht (gdV wb542 wb544 wb16 wb72 wb545) rfl rfl rfl (by decide +kernel) ⟨Nat.le_of_ble_eq_true rfl, Nat.le_of_ble_eq_true rfl⟩) hK hP hD hS hA hm [0, 1, 2, 3] rfl rfl 0 5 rfl rfl rfl hl.1 rfl (Nat.le_of_ble_eq_true rfl) dX5_openFlow_14 ⟨Nat.le_refl _, Nat.le_refl _⟩) hP hD hS hA [0, 1, 2, 3] rfl rfl (fun H locs hP hD hS => ?_)
    have hP : va_P D vwCl [(zq, .inr (5, [.ref es, .ref yh, .ref tx, .ref gp, .ref gq, .int b0, .int b1, .int b2])), (es, .inr (2, [.ref esz, .ref esr, .ref esk, .ref esf, .ref esa, .ref esp, .ref est, .int estm])), (esf, .inr (3, [.int 8, .int 7, .ref esfc, .int r7.2.1])), (esfc, .inl (k 0, 56, .inl r7.2.2)), (esp, .inl (k 0, 7, .inl espf))] H := hP
    have hD : va_D A [(zq, .inr (5, [.ref es, .ref yh, .ref tx, .ref gp, .ref gq, .int b0, .int b1, .int b2])), (es, .inr (2, [.ref esz, .ref esr, .ref esk, .ref esf, .ref esa, .ref esp, .ref est, .int estm])), (esf, .inr (3, [.int 8, .int 7, .ref esfc, .int r7.2.1])), (esfc, .inl (k 0, 56, .inl r7.2.2)), (esp, .inl (k 0, 7, .inl espf))] := hD
    refine lv_if_ne (tgt := 22) hx hb dX5_openFlow_17 (by decide) (fun c3 => ?_) (fun c3 => ?_)
    · have h := zf h c3
      refine lv_aload_n hx hb dX5_openFlow_22 rfl (lv_at hl 0 rfl) ?_
      refine va_get (D := D) (ci := 5) (v := .ref es) (C := RX5) (T := TX5) (N := 8) hx hb ht hiX5 hown hK hP 0 rfl rfl 0 (by decide) (ht _ wb239) (fun _ h9 => h9) rfl dX5_openFlow_23 ?_
      refine va_getN (D := D) (ci := 2) (v := .ref esf) (C := RX2) (T := TX2) (N := 8) hx hb ht hiX2 hown hK hP 1 rfl rfl 3 (by decide) (va_Nw.use rfl (hm.1 _ (List.mem_of_getElem? (i := 4) rfl))) (fun _ h9 => h9) rfl dX5_openFlow_26 ?_
      refine lv_iload_n hx hb dX5_openFlow_29 rfl (lv_at hl 1 rfl) ?_
      refine lv_iload_n hx hb dX5_openFlow_30 rfl (lv_at hl 2 rfl) ?_
      refine lv_iload_n hx hb dX5_openFlow_31 rfl (lv_at hl 3 rfl) ?_
      refine lv_iload hx hb dX5_openFlow_32 (lv_at hl 4 rfl) ?_
      obtain ⟨r8, h8, h⟩ := zb h
      refine zv (zrS (As := [.ref esf, .int a1, .int a2, .int a3, .int a4]) (rest := []) ⟨hx, hb, hml, hown, ht⟩ (c_X5_appendCase l D k esf esfc 8 7 r7.2.1 56 r7.2.2 a1 a2 a3 a4 h8 _) (va_cwS 5 ht (gdS wb546 wb547 wb72 wb548) rfl rfl rfl (by decide +kernel) ⟨Nat.le_of_ble_eq_true rfl, Nat.le_of_ble_eq_true rfl⟩) hK hP hD hS hA hm [2, 3] rfl rfl rfl hl.1 rfl (Nat.le_of_ble_eq_true rfl) dX5_openFlow_34 ⟨Nat.le_refl _, Nat.le_refl _⟩) hP hD hS hA [2, 3] rfl rfl (fun H locs hP hD hS => ?_)
      have hP : va_P D vwCl [(zq, .inr (5, [.ref es, .ref yh, .ref tx, .ref gp, .ref gq, .int b0, .int b1, .int b2])), (es, .inr (2, [.ref esz, .ref esr, .ref esk, .ref esf, .ref esa, .ref esp, .ref est, .int estm])), (esf, .inr (3, [.int 8, .int 7, .ref esfc, .int r8.1])), (esfc, .inl (k 0, 56, .inl r8.2)), (esp, .inl (k 0, 7, .inl espf))] H := hP
      have hD : va_D A [(zq, .inr (5, [.ref es, .ref yh, .ref tx, .ref gp, .ref gq, .int b0, .int b1, .int b2])), (es, .inr (2, [.ref esz, .ref esr, .ref esk, .ref esf, .ref esa, .ref esp, .ref est, .int estm])), (esf, .inr (3, [.int 8, .int 7, .ref esfc, .int r8.1])), (esfc, .inl (k 0, 56, .inl r8.2)), (esp, .inl (k 0, 7, .inl espf))] := hD
      refine lv_aload_n hx hb dX5_openFlow_37 rfl (lv_at hl 0 rfl) ?_
      refine va_get (D := D) (ci := 5) (v := .ref es) (C := RX5) (T := TX5) (N := 8) hx hb ht hiX5 hown hK hP 0 rfl rfl 0 (by decide) (ht _ wb239) (fun _ h9 => h9) rfl dX5_openFlow_38 ?_
      refine va_getN (D := D) (ci := 2) (v := .ref esf) (C := RX2) (T := TX2) (N := 8) hx hb ht hiX2 hown hK hP 1 rfl rfl 3 (by decide) (va_Nw.use rfl (hm.1 _ (List.mem_of_getElem? (i := 4) rfl))) (fun _ h9 => h9) rfl dX5_openFlow_41 ?_
      obtain ⟨r9, h9, h⟩ := zb h
      refine zi (zrV (C := RX3) (T := TX3) (N := 4) (As := []) (rest := []) ⟨hx, hb, hml, hown, ht⟩ (c_X3_size l D k esf esfc 8 7 r8.1 56 r8.2  h9 _) (cwV 0 ht (gdV wb304 wb305 wb306 wb74 wb307) rfl rfl rfl (by decide +kernel) ⟨Nat.le_of_ble_eq_true rfl, Nat.le_of_ble_eq_true rfl⟩) hK hP hD hS hA hm [2, 3] rfl rfl 2 3 rfl rfl rfl hl.1 rfl (Nat.le_of_ble_eq_true rfl) dX5_openFlow_44 ⟨Nat.le_refl _, Nat.le_refl _⟩) hP hD hS hA [2, 3] rfl rfl (fun H locs hP hD hS => ?_)
      have hP : va_P D vwCl [(zq, .inr (5, [.ref es, .ref yh, .ref tx, .ref gp, .ref gq, .int b0, .int b1, .int b2])), (es, .inr (2, [.ref esz, .ref esr, .ref esk, .ref esf, .ref esa, .ref esp, .ref est, .int estm])), (esf, .inr (3, [.int 8, .int 7, .ref esfc, .int r8.1])), (esfc, .inl (k 0, 56, .inl r8.2)), (esp, .inl (k 0, 7, .inl espf))] H := hP
      have hD : va_D A [(zq, .inr (5, [.ref es, .ref yh, .ref tx, .ref gp, .ref gq, .int b0, .int b1, .int b2])), (es, .inr (2, [.ref esz, .ref esr, .ref esk, .ref esf, .ref esa, .ref esp, .ref est, .int estm])), (esf, .inr (3, [.int 8, .int 7, .ref esfc, .int r8.1])), (esfc, .inl (k 0, 56, .inl r8.2)), (esp, .inl (k 0, 7, .inl espf))] := hD
      refine lv_iconst (v := 1) hx hb dX5_openFlow_47 (by decide) ?_
      refine lv_isub hx hb dX5_openFlow_48 ?_
      refine lv_istore (lv' := [(5, .int (r9 - 1)), (0, .ref zq), (1, .int a1), (2, .int a2), (3, .int a3), (4, .int a4)]) hx hb dX5_openFlow_49 hl (by decide) rfl (fun ls hl => ?_)
      refine lv_aload_n hx hb dX5_openFlow_51 rfl (lv_at hl 1 rfl) ?_
      refine va_get (D := D) (ci := 5) (v := .ref es) (C := RX5) (T := TX5) (N := 8) hx hb ht hiX5 hown hK hP 0 rfl rfl 0 (by decide) (ht _ wb239) (fun _ h9 => h9) rfl dX5_openFlow_52 ?_
      refine va_getN (D := D) (ci := 2) (v := .ref esf) (C := RX2) (T := TX2) (N := 8) hx hb ht hiX2 hown hK hP 1 rfl rfl 3 (by decide) (va_Nw.use rfl (hm.1 _ (List.mem_of_getElem? (i := 4) rfl))) (fun _ h9 => h9) rfl dX5_openFlow_55 ?_
      refine lv_iload hx hb dX5_openFlow_58 (lv_at hl 0 rfl) ?_
      refine lv_bipush (v := 6) hx hb dX5_openFlow_60 (by decide) ?_
      refine lv_iconst (v := (-1)) hx hb dX5_openFlow_62 (by decide) ?_
      obtain ⟨r10, h10, h⟩ := zb h
      refine zv (zrV (C := RX3) (T := TX3) (N := 4) (As := [.int (r9 - 1), .int 6, .int (-1)]) (rest := []) ⟨hx, hb, hml, hown, ht⟩ (c_X3_put l D k esf esfc 8 7 r8.1 56 r8.2 (r9 - 1) 6 (-1) h10 _) (cwV 3 ht (gdV wb322 wb323 wb324 wb74 wb325) rfl rfl rfl (by decide +kernel) ⟨Nat.le_of_ble_eq_true rfl, Nat.le_of_ble_eq_true rfl⟩) hK hP hD hS hA hm [2, 3] rfl rfl 2 3 rfl rfl rfl hl.1 rfl (Nat.le_of_ble_eq_true rfl) dX5_openFlow_63 ⟨Nat.le_refl _, Nat.le_refl _⟩) hP hD hS hA [2, 3] rfl rfl (fun H locs hP hD hS => ?_)
      have hP : va_P D vwCl [(zq, .inr (5, [.ref es, .ref yh, .ref tx, .ref gp, .ref gq, .int b0, .int b1, .int b2])), (es, .inr (2, [.ref esz, .ref esr, .ref esk, .ref esf, .ref esa, .ref esp, .ref est, .int estm])), (esf, .inr (3, [.int 8, .int 7, .ref esfc, .int r8.1])), (esfc, .inl (k 0, 56, .inl r10)), (esp, .inl (k 0, 7, .inl espf))] H := hP
      have hD : va_D A [(zq, .inr (5, [.ref es, .ref yh, .ref tx, .ref gp, .ref gq, .int b0, .int b1, .int b2])), (es, .inr (2, [.ref esz, .ref esr, .ref esk, .ref esf, .ref esa, .ref esp, .ref est, .int estm])), (esf, .inr (3, [.int 8, .int 7, .ref esfc, .int r8.1])), (esfc, .inl (k 0, 56, .inl r10)), (esp, .inl (k 0, 7, .inl espf))] := hD
      refine lv_aload_n hx hb dX5_openFlow_66 rfl (lv_at hl 1 rfl) ?_
      refine va_get (D := D) (ci := 5) (v := .ref es) (C := RX5) (T := TX5) (N := 8) hx hb ht hiX5 hown hK hP 0 rfl rfl 0 (by decide) (ht _ wb239) (fun _ h9 => h9) rfl dX5_openFlow_67 ?_
      refine lv_iload hx hb dX5_openFlow_70 (lv_at hl 0 rfl) ?_
      refine lv_iload hx hb dX5_openFlow_72 (lv_at hl 5 rfl) ?_
      refine lv_if_ne (tgt := 81) hx hb dX5_openFlow_74 (by decide) (fun c2 => ?_) (fun c2 => ?_)
      · have h := zf h c2
        refine lv_bipush (v := 6) hx hb dX5_openFlow_81 (by decide) ?_
        obtain ⟨r11, h11, h⟩ := zb h
        refine zv (zrV (C := RX2) (T := TX2) (N := 8) (As := [.int (r9 - 1), .int 6]) (rest := []) ⟨hx, hb, hml, hown, ht⟩ (c_X2_enterStage l D k es esz esr esk esf esa esp est esfc estm r8.1 r10 espf (r9 - 1) 6 h11 _) (cwV 2 ht (gdV wb529 wb530 wb531 wb73 wb532) rfl rfl rfl (by decide +kernel) ⟨Nat.le_of_ble_eq_true rfl, Nat.le_of_ble_eq_true rfl⟩) hK hP hD hS hA hm [1, 2, 3, 4] rfl rfl 1 2 rfl rfl rfl hl.1 rfl (Nat.le_of_ble_eq_true rfl) dX5_openFlow_83 ⟨Nat.le_refl _, Nat.le_refl _⟩) hP hD hS hA [1, 2, 3, 4] rfl rfl (fun H locs hP hD hS => ?_)
        have hP : va_P D vwCl [(zq, .inr (5, [.ref es, .ref yh, .ref tx, .ref gp, .ref gq, .int b0, .int b1, .int b2])), (es, .inr (2, [.ref esz, .ref esr, .ref esk, .ref esf, .ref esa, .ref esp, .ref est, .int estm])), (esf, .inr (3, [.int 8, .int 7, .ref esfc, .int r8.1])), (esfc, .inl (k 0, 56, .inl r11)), (esp, .inl (k 0, 7, .inl espf))] H := hP
        have hD : va_D A [(zq, .inr (5, [.ref es, .ref yh, .ref tx, .ref gp, .ref gq, .int b0, .int b1, .int b2])), (es, .inr (2, [.ref esz, .ref esr, .ref esk, .ref esf, .ref esa, .ref esp, .ref est, .int estm])), (esf, .inr (3, [.int 8, .int 7, .ref esfc, .int r8.1])), (esfc, .inl (k 0, 56, .inl r11)), (esp, .inl (k 0, 7, .inl espf))] := hD
        refine lv_iconst (v := 1) hx hb dX5_openFlow_86 (by decide) ?_
        obtain rfl := Option.some.inj h
        exact W.iret (v := 1) hx hb hr (fun t ht9 hW => ⟨⟨_, (), rfl, rfl, zend ht9 hP⟩, hS.F ht9⟩) hS.2.2 dX5_openFlow_87
      · have h := zt h c2
        refine lv_iconst (v := 1) hx hb dX5_openFlow_77 (by decide) ?_
        refine lv_goto (tgt := 83) hx hb dX5_openFlow_78 (by decide) ?_
        obtain ⟨r12, h12, h⟩ := zb h
        refine zv (zrV (C := RX2) (T := TX2) (N := 8) (As := [.int (r9 - 1), .int 1]) (rest := []) ⟨hx, hb, hml, hown, ht⟩ (c_X2_enterStage l D k es esz esr esk esf esa esp est esfc estm r8.1 r10 espf (r9 - 1) 1 h12 _) (cwV 2 ht (gdV wb529 wb530 wb531 wb73 wb532) rfl rfl rfl (by decide +kernel) ⟨Nat.le_of_ble_eq_true rfl, Nat.le_of_ble_eq_true rfl⟩) hK hP hD hS hA hm [1, 2, 3, 4] rfl rfl 1 2 rfl rfl rfl hl.1 rfl (Nat.le_of_ble_eq_true rfl) dX5_openFlow_83 ⟨Nat.le_refl _, Nat.le_refl _⟩) hP hD hS hA [1, 2, 3, 4] rfl rfl (fun H locs hP hD hS => ?_)
        have hP : va_P D vwCl [(zq, .inr (5, [.ref es, .ref yh, .ref tx, .ref gp, .ref gq, .int b0, .int b1, .int b2])), (es, .inr (2, [.ref esz, .ref esr, .ref esk, .ref esf, .ref esa, .ref esp, .ref est, .int estm])), (esf, .inr (3, [.int 8, .int 7, .ref esfc, .int r8.1])), (esfc, .inl (k 0, 56, .inl r12)), (esp, .inl (k 0, 7, .inl espf))] H := hP
        have hD : va_D A [(zq, .inr (5, [.ref es, .ref yh, .ref tx, .ref gp, .ref gq, .int b0, .int b1, .int b2])), (es, .inr (2, [.ref esz, .ref esr, .ref esk, .ref esf, .ref esa, .ref esp, .ref est, .int estm])), (esf, .inr (3, [.int 8, .int 7, .ref esfc, .int r8.1])), (esfc, .inl (k 0, 56, .inl r12)), (esp, .inl (k 0, 7, .inl espf))] := hD
        refine lv_iconst (v := 1) hx hb dX5_openFlow_86 (by decide) ?_
        obtain rfl := Option.some.inj h
        exact W.iret (v := 1) hx hb hr (fun t ht9 hW => ⟨⟨_, (), rfl, rfl, zend ht9 hP⟩, hS.F ht9⟩) hS.2.2 dX5_openFlow_87
    · have h := zt h c3
      refine lv_iconst (v := 4) hx hb dX5_openFlow_20 (by decide) ?_
      obtain rfl := Option.some.inj h
      exact W.iret (v := 4) hx hb hr (fun t ht9 hW => ⟨⟨_, (), rfl, rfl, zend ht9 hP⟩, hS.F ht9⟩) hS.2.2 dX5_openFlow_21
def f_X5_askForFlow (fu : Nat) (eszo : Nat → Int32) (esrs : Int32) (esrf : Nat → Int32) (esas : Int32) (esaf : Nat → Int32) (a1 : Int32) (a2 : Int32) (a3 : Int32) (a4 : Int32) : Option (Int32 × (Nat → Int32) × Int32 × (Nat → Int32)) :=
  (f_X3_rowOfCase fu 5 esas 30 esaf a1 a2 a3 a4).bind fun r1 => if r1 = (-1) then ((f_X2_ruleFor fu eszo 11 esrs 132 esrf a1 a2 a3 a4).bind fun r2 => if r2 = (-1) then (some (0, esrf, esas, esaf)) else ((f_X3_get 11 esrs 132 esrf r2 10).bind fun r3 => (f_X3_put 11 esrs 132 esrf r2 10 (r3 + 1)).bind fun r4 => (f_X3_get 11 esrs 132 r4 r2 9).bind fun r5 => some (r5, r4, esas, esaf))) else ((f_X3_remove 5 esas 30 esaf r1).bind fun r6 => some (1, esrf, r6.1, r6.2))
abbrev wk_X5_askForFlow : List Cond := Cond.code yX5_askForFlow cX5_askForFlow 7 (some .int) :: WB
abbrev rm_X5_askForFlow : Room := { frames := 4, cells := 0, slots := 0, locals := 99 }
set_option maxHeartbeats 4000000 in
set_option maxRecDepth 100000 in
theorem c_X5_askForFlow (l : Launch) (D : va_G) (k : Nat → Nat) (zq es yh tx gp gq esz esr esk esf esa esp est esrc esac : Nat) (b0 : Int32) (b1 : Int32) (b2 : Int32) (estm : Int32) (eszo : Nat → Int32) (esrs : Int32) (esrf : Nat → Int32) (esas : Int32) (esaf : Nat → Int32) (a1 : Int32) (a2 : Int32) (a3 : Int32) (a4 : Int32) (fu : Nat) {res : Int32 × (Nat → Int32) × Int32 × (Nat → Int32)} (h : f_X5_askForFlow fu eszo esrs esrf esas esaf a1 a2 a3 a4 = some res) : Ci l yX5_askForFlow wk_X5_askForFlow rm_X5_askForFlow D k [.ref zq, .int a1, .int a2, .int a3, .int a4] [(zq, .inr (5, [.ref es, .ref yh, .ref tx, .ref gp, .ref gq, .int b0, .int b1, .int b2])), (es, .inr (2, [.ref esz, .ref esr, .ref esk, .ref esf, .ref esa, .ref esp, .ref est, .int estm])), (esz, .inl (k 0, 32, .inl eszo)), (esr, .inr (3, [.int 12, .int 11, .ref esrc, .int esrs])), (esrc, .inl (k 0, 132, .inl esrf)), (esa, .inr (3, [.int 6, .int 5, .ref esac, .int esas])), (esac, .inl (k 0, 30, .inl esaf))] [(zq, .inr (5, [.ref es, .ref yh, .ref tx, .ref gp, .ref gq, .int b0, .int b1, .int b2])), (es, .inr (2, [.ref esz, .ref esr, .ref esk, .ref esf, .ref esa, .ref esp, .ref est, .int estm])), (esz, .inl (k 0, 32, .inl eszo)), (esr, .inr (3, [.int 12, .int 11, .ref esrc, .int esrs])), (esrc, .inl (k 0, 132, .inl res.2.1)), (esa, .inr (3, [.int 6, .int 5, .ref esac, .int res.2.2.1])), (esac, .inl (k 0, 30, .inl res.2.2.2))] res.1 := by
  unfold Ci
  intro sz
  refine Met.ofW (cc := cX5_askForFlow) (maxL := 7) (ret := (some .int)) (by decide) rfl ?_
  intro p e s m args below meth c s₁ B hml hv
  obtain ⟨rfl, hsz, hP, hK, hD0, hm⟩ := hv
  have hx := B.exec
  have hb := B.bytes
  have hr := B.returns
  have ht : ∀ w ∈ WB, w.before _ s = true := fun w hw => atoms_spec (ws := wk_X5_askForFlow) B.pre w (List.mem_cons_of_mem _ hw)
  have hown : s.vm.findClass RX5 = some m.cls := findClass_of_methodNamed B.named
  have hlocks := B.notSynchronized
  subst hsz
  have hD := hD0.self (sz := s.heap.size)
  generalize hAe : va_A [(zq, .inr (5, [.ref es, .ref yh, .ref tx, .ref gp, .ref gq, .int b0, .int b1, .int b2])), (es, .inr (2, [.ref esz, .ref esr, .ref esk, .ref esf, .ref esa, .ref esp, .ref est, .int estm])), (esz, .inl (k 0, 32, .inl eszo)), (esr, .inr (3, [.int 12, .int 11, .ref esrc, .int esrs])), (esrc, .inl (k 0, 132, .inl esrf)), (esa, .inr (3, [.int 6, .int 5, .ref esac, .int esas])), (esac, .inl (k 0, 30, .inl esaf))] s.heap.size = A at hD hm ⊢
  have hA : ∀ q : Nat, s.heap.size ≤ q → A q := fun q h => by rw [← hAe]; exact Or.inr h
  have hS : va_S A s.heap s.heap [] := va_S.rf
  have hl := lv_entry ([.ref zq, .int a1, .int a2, .int a3, .int a4]) (n := 7) (Nat.le_of_ble_eq_true rfl)
  rw [lg_entry_eq]
  generalize (lg_sl ([.ref zq, .int a1, .int a2, .int a3, .int a4]) ++ List.replicate (7 - (lg_sl ([.ref zq, .int a1, .int a2, .int a3, .int a4])).length) Slot.unset).toArray = ls at hl ⊢
  have hl : lv_has ls 7 [(0, .ref zq), (1, .int a1), (2, .int a2), (3, .int a3), (4, .int a4)] := hl
  obtain ⟨H, hH⟩ : ∃ H, H = s.heap := ⟨_, rfl⟩
  rw [← hH] at hP
  have hS : va_S A s.heap H [] := by rw [hH]; exact hS
  suffices hgo : W p l e _ s m _ below meth c H [] 0 0 _ _ by rw [hH] at hgo; exact hgo
  unfold f_X5_askForFlow at h
  refine lv_aload_n hx hb dX5_askForFlow_0 rfl (lv_at hl 0 rfl) ?_
  refine va_get (D := D) (ci := 5) (v := .ref es) (C := RX5) (T := TX5) (N := 8) hx hb ht hiX5 hown hK hP 0 rfl rfl 0 (by decide) (ht _ wb239) (fun _ h9 => h9) rfl dX5_askForFlow_1 ?_
  refine va_getN (D := D) (ci := 2) (v := .ref esa) (C := RX2) (T := TX2) (N := 8) hx hb ht hiX2 hown hK hP 1 rfl rfl 4 (by decide) (va_Nw.use rfl (hm.1 _ (List.mem_of_getElem? (i := 5) rfl))) (fun _ h9 => h9) rfl dX5_askForFlow_4 ?_
  refine lv_iload_n hx hb dX5_askForFlow_7 rfl (lv_at hl 1 rfl) ?_
  refine lv_iload_n hx hb dX5_askForFlow_8 rfl (lv_at hl 2 rfl) ?_
  refine lv_iload_n hx hb dX5_askForFlow_9 rfl (lv_at hl 3 rfl) ?_
  refine lv_iload hx hb dX5_askForFlow_10 (lv_at hl 4 rfl) ?_
  obtain ⟨r1, h1, h⟩ := zb h
  refine zi (zrV (C := RX3) (T := TX3) (N := 4) (As := [.int a1, .int a2, .int a3, .int a4]) (rest := []) ⟨hx, hb, hml, hown, ht⟩ (c_X3_rowOfCase l D k esa esac 6 5 esas 30 esaf a1 a2 a3 a4 fu h1 _) (cwV 4 ht (gdV wb518 wb519 wb520 wb74 wb521) rfl rfl rfl (by decide +kernel) ⟨Nat.le_of_ble_eq_true rfl, Nat.le_of_ble_eq_true rfl⟩) hK hP hD hS hA hm [5, 6] rfl rfl 5 3 rfl rfl rfl hl.1 rfl (Nat.le_of_ble_eq_true rfl) dX5_askForFlow_12 ⟨Nat.le_refl _, Nat.le_refl _⟩) hP hD hS hA [5, 6] rfl rfl (fun H locs hP hD hS => ?_)
  have hP : va_P D vwCl [(zq, .inr (5, [.ref es, .ref yh, .ref tx, .ref gp, .ref gq, .int b0, .int b1, .int b2])), (es, .inr (2, [.ref esz, .ref esr, .ref esk, .ref esf, .ref esa, .ref esp, .ref est, .int estm])), (esz, .inl (k 0, 32, .inl eszo)), (esr, .inr (3, [.int 12, .int 11, .ref esrc, .int esrs])), (esrc, .inl (k 0, 132, .inl esrf)), (esa, .inr (3, [.int 6, .int 5, .ref esac, .int esas])), (esac, .inl (k 0, 30, .inl esaf))] H := hP
  have hD : va_D A [(zq, .inr (5, [.ref es, .ref yh, .ref tx, .ref gp, .ref gq, .int b0, .int b1, .int b2])), (es, .inr (2, [.ref esz, .ref esr, .ref esk, .ref esf, .ref esa, .ref esp, .ref est, .int estm])), (esz, .inl (k 0, 32, .inl eszo)), (esr, .inr (3, [.int 12, .int 11, .ref esrc, .int esrs])), (esrc, .inl (k 0, 132, .inl esrf)), (esa, .inr (3, [.int 6, .int 5, .ref esac, .int esas])), (esac, .inl (k 0, 30, .inl esaf))] := hD
  refine lv_istore (lv' := [(5, .int r1), (0, .ref zq), (1, .int a1), (2, .int a2), (3, .int a3), (4, .int a4)]) hx hb dX5_askForFlow_15 hl (by decide) rfl (fun ls hl => ?_)
  refine lv_iload hx hb dX5_askForFlow_17 (lv_at hl 0 rfl) ?_
  refine lv_iconst (v := (-1)) hx hb dX5_askForFlow_19 (by decide) ?_
  refine lv_icmp_eq (tgt := 37) hx hb dX5_askForFlow_20 (by decide) (fun c2 => ?_) (fun c2 => ?_)
  · have h := zt h c2
    refine lv_aload_n hx hb dX5_askForFlow_37 rfl (lv_at hl 1 rfl) ?_
    refine va_get (D := D) (ci := 5) (v := .ref es) (C := RX5) (T := TX5) (N := 8) hx hb ht hiX5 hown hK hP 0 rfl rfl 0 (by decide) (ht _ wb239) (fun _ h9 => h9) rfl dX5_askForFlow_38 ?_
    refine lv_aload_n hx hb dX5_askForFlow_41 rfl (lv_at hl 1 rfl) ?_
    refine va_get (D := D) (ci := 5) (v := .ref es) (C := RX5) (T := TX5) (N := 8) hx hb ht hiX5 hown hK hP 0 rfl rfl 0 (by decide) (ht _ wb239) (fun _ h9 => h9) rfl dX5_askForFlow_42 ?_
    refine va_getN (D := D) (ci := 2) (v := .ref esr) (C := RX2) (T := TX2) (N := 8) hx hb ht hiX2 hown hK hP 1 rfl rfl 1 (by decide) (va_Nw.use rfl (hm.1 _ (List.mem_of_getElem? (i := 2) rfl))) (fun _ h9 => h9) rfl dX5_askForFlow_45 ?_
    refine lv_iload_n hx hb dX5_askForFlow_48 rfl (lv_at hl 2 rfl) ?_
    refine lv_iload_n hx hb dX5_askForFlow_49 rfl (lv_at hl 3 rfl) ?_
    refine lv_iload_n hx hb dX5_askForFlow_50 rfl (lv_at hl 4 rfl) ?_
    refine lv_iload hx hb dX5_askForFlow_51 (lv_at hl 5 rfl) ?_
    obtain ⟨r2, h2, h⟩ := zb h
    refine zi (zrV (C := RX2) (T := TX2) (N := 8) (As := [.ref esr, .int a1, .int a2, .int a3, .int a4]) (rest := []) ⟨hx, hb, hml, hown, ht⟩ (c_X2_ruleFor l D k es esz esr esk esf esa esp est esr esrc estm eszo 12 11 esrs 132 esrf a1 a2 a3 a4 fu h2 _) (cwV 5 ht (gdV wb388 wb389 wb390 wb73 wb391) rfl rfl rfl (by decide +kernel) ⟨Nat.le_of_ble_eq_true rfl, Nat.le_of_ble_eq_true rfl⟩) hK hP hD hS hA hm [1, 2, 3, 4] rfl rfl 1 2 rfl rfl rfl hl.1 rfl (Nat.le_of_ble_eq_true rfl) dX5_askForFlow_53 ⟨Nat.le_refl _, Nat.le_refl _⟩) hP hD hS hA [1, 2, 3, 4] rfl rfl (fun H locs hP hD hS => ?_)
    have hP : va_P D vwCl [(zq, .inr (5, [.ref es, .ref yh, .ref tx, .ref gp, .ref gq, .int b0, .int b1, .int b2])), (es, .inr (2, [.ref esz, .ref esr, .ref esk, .ref esf, .ref esa, .ref esp, .ref est, .int estm])), (esz, .inl (k 0, 32, .inl eszo)), (esr, .inr (3, [.int 12, .int 11, .ref esrc, .int esrs])), (esrc, .inl (k 0, 132, .inl esrf)), (esa, .inr (3, [.int 6, .int 5, .ref esac, .int esas])), (esac, .inl (k 0, 30, .inl esaf))] H := hP
    have hD : va_D A [(zq, .inr (5, [.ref es, .ref yh, .ref tx, .ref gp, .ref gq, .int b0, .int b1, .int b2])), (es, .inr (2, [.ref esz, .ref esr, .ref esk, .ref esf, .ref esa, .ref esp, .ref est, .int estm])), (esz, .inl (k 0, 32, .inl eszo)), (esr, .inr (3, [.int 12, .int 11, .ref esrc, .int esrs])), (esrc, .inl (k 0, 132, .inl esrf)), (esa, .inr (3, [.int 6, .int 5, .ref esac, .int esas])), (esac, .inl (k 0, 30, .inl esaf))] := hD
    refine lv_istore (lv' := [(6, .int r2), (5, .int r1), (0, .ref zq), (1, .int a1), (2, .int a2), (3, .int a3), (4, .int a4)]) hx hb dX5_askForFlow_56 hl (by decide) rfl (fun ls hl => ?_)
    refine lv_iload hx hb dX5_askForFlow_58 (lv_at hl 0 rfl) ?_
    refine lv_iconst (v := (-1)) hx hb dX5_askForFlow_60 (by decide) ?_
    refine lv_icmp_ne (tgt := 66) hx hb dX5_askForFlow_61 (by decide) (fun c1 => ?_) (fun c1 => ?_)
    · have h := zf h c1
      refine lv_aload_n hx hb dX5_askForFlow_66 rfl (lv_at hl 2 rfl) ?_
      refine va_get (D := D) (ci := 5) (v := .ref es) (C := RX5) (T := TX5) (N := 8) hx hb ht hiX5 hown hK hP 0 rfl rfl 0 (by decide) (ht _ wb239) (fun _ h9 => h9) rfl dX5_askForFlow_67 ?_
      refine va_getN (D := D) (ci := 2) (v := .ref esr) (C := RX2) (T := TX2) (N := 8) hx hb ht hiX2 hown hK hP 1 rfl rfl 1 (by decide) (va_Nw.use rfl (hm.1 _ (List.mem_of_getElem? (i := 2) rfl))) (fun _ h9 => h9) rfl dX5_askForFlow_70 ?_
      refine lv_iload hx hb dX5_askForFlow_73 (lv_at hl 0 rfl) ?_
      refine lv_bipush (v := 10) hx hb dX5_askForFlow_75 (by decide) ?_
      refine lv_aload_n hx hb dX5_askForFlow_77 rfl (lv_at hl 2 rfl) ?_
      refine va_get (D := D) (ci := 5) (v := .ref es) (C := RX5) (T := TX5) (N := 8) hx hb ht hiX5 hown hK hP 0 rfl rfl 0 (by decide) (ht _ wb239) (fun _ h9 => h9) rfl dX5_askForFlow_78 ?_
      refine va_getN (D := D) (ci := 2) (v := .ref esr) (C := RX2) (T := TX2) (N := 8) hx hb ht hiX2 hown hK hP 1 rfl rfl 1 (by decide) (va_Nw.use rfl (hm.1 _ (List.mem_of_getElem? (i := 2) rfl))) (fun _ h9 => h9) rfl dX5_askForFlow_81 ?_
      refine lv_iload hx hb dX5_askForFlow_84 (lv_at hl 0 rfl) ?_
      refine lv_bipush (v := 10) hx hb dX5_askForFlow_86 (by decide) ?_
      obtain ⟨r3, h3, h⟩ := zb h
      refine zi (zrV (C := RX3) (T := TX3) (N := 4) (As := [.int r2, .int 10]) (rest := [.int 10, .int r2, .ref esr]) ⟨hx, hb, hml, hown, ht⟩ (c_X3_get l D k esr esrc 12 11 esrs 132 esrf r2 10 h3 _) (cwV 2 ht (gdV wb343 wb344 wb345 wb74 wb346) rfl rfl rfl (by decide +kernel) ⟨Nat.le_of_ble_eq_true rfl, Nat.le_of_ble_eq_true rfl⟩) hK hP hD hS hA hm [3, 4] rfl rfl 3 3 rfl rfl rfl hl.1 rfl (Nat.le_of_ble_eq_true rfl) dX5_askForFlow_88 ⟨Nat.le_refl _, Nat.le_refl _⟩) hP hD hS hA [3, 4] rfl rfl (fun H locs hP hD hS => ?_)
      have hP : va_P D vwCl [(zq, .inr (5, [.ref es, .ref yh, .ref tx, .ref gp, .ref gq, .int b0, .int b1, .int b2])), (es, .inr (2, [.ref esz, .ref esr, .ref esk, .ref esf, .ref esa, .ref esp, .ref est, .int estm])), (esz, .inl (k 0, 32, .inl eszo)), (esr, .inr (3, [.int 12, .int 11, .ref esrc, .int esrs])), (esrc, .inl (k 0, 132, .inl esrf)), (esa, .inr (3, [.int 6, .int 5, .ref esac, .int esas])), (esac, .inl (k 0, 30, .inl esaf))] H := hP
      have hD : va_D A [(zq, .inr (5, [.ref es, .ref yh, .ref tx, .ref gp, .ref gq, .int b0, .int b1, .int b2])), (es, .inr (2, [.ref esz, .ref esr, .ref esk, .ref esf, .ref esa, .ref esp, .ref est, .int estm])), (esz, .inl (k 0, 32, .inl eszo)), (esr, .inr (3, [.int 12, .int 11, .ref esrc, .int esrs])), (esrc, .inl (k 0, 132, .inl esrf)), (esa, .inr (3, [.int 6, .int 5, .ref esac, .int esas])), (esac, .inl (k 0, 30, .inl esaf))] := hD
      refine lv_iconst (v := 1) hx hb dX5_askForFlow_91 (by decide) ?_
      refine lv_iadd hx hb dX5_askForFlow_92 ?_
      obtain ⟨r4, h4, h⟩ := zb h
      refine zv (zrV (C := RX3) (T := TX3) (N := 4) (As := [.int r2, .int 10, .int (r3 + 1)]) (rest := []) ⟨hx, hb, hml, hown, ht⟩ (c_X3_put l D k esr esrc 12 11 esrs 132 esrf r2 10 (r3 + 1) h4 _) (cwV 3 ht (gdV wb322 wb323 wb324 wb74 wb325) rfl rfl rfl (by decide +kernel) ⟨Nat.le_of_ble_eq_true rfl, Nat.le_of_ble_eq_true rfl⟩) hK hP hD hS hA hm [3, 4] rfl rfl 3 3 rfl rfl rfl hl.1 rfl (Nat.le_of_ble_eq_true rfl) dX5_askForFlow_93 ⟨Nat.le_refl _, Nat.le_refl _⟩) hP hD hS hA [3, 4] rfl rfl (fun H locs hP hD hS => ?_)
      have hP : va_P D vwCl [(zq, .inr (5, [.ref es, .ref yh, .ref tx, .ref gp, .ref gq, .int b0, .int b1, .int b2])), (es, .inr (2, [.ref esz, .ref esr, .ref esk, .ref esf, .ref esa, .ref esp, .ref est, .int estm])), (esz, .inl (k 0, 32, .inl eszo)), (esr, .inr (3, [.int 12, .int 11, .ref esrc, .int esrs])), (esrc, .inl (k 0, 132, .inl r4)), (esa, .inr (3, [.int 6, .int 5, .ref esac, .int esas])), (esac, .inl (k 0, 30, .inl esaf))] H := hP
      have hD : va_D A [(zq, .inr (5, [.ref es, .ref yh, .ref tx, .ref gp, .ref gq, .int b0, .int b1, .int b2])), (es, .inr (2, [.ref esz, .ref esr, .ref esk, .ref esf, .ref esa, .ref esp, .ref est, .int estm])), (esz, .inl (k 0, 32, .inl eszo)), (esr, .inr (3, [.int 12, .int 11, .ref esrc, .int esrs])), (esrc, .inl (k 0, 132, .inl r4)), (esa, .inr (3, [.int 6, .int 5, .ref esac, .int esas])), (esac, .inl (k 0, 30, .inl esaf))] := hD
      refine lv_aload_n hx hb dX5_askForFlow_96 rfl (lv_at hl 2 rfl) ?_
      refine va_get (D := D) (ci := 5) (v := .ref es) (C := RX5) (T := TX5) (N := 8) hx hb ht hiX5 hown hK hP 0 rfl rfl 0 (by decide) (ht _ wb239) (fun _ h9 => h9) rfl dX5_askForFlow_97 ?_
      refine va_getN (D := D) (ci := 2) (v := .ref esr) (C := RX2) (T := TX2) (N := 8) hx hb ht hiX2 hown hK hP 1 rfl rfl 1 (by decide) (va_Nw.use rfl (hm.1 _ (List.mem_of_getElem? (i := 2) rfl))) (fun _ h9 => h9) rfl dX5_askForFlow_100 ?_
      refine lv_iload hx hb dX5_askForFlow_103 (lv_at hl 0 rfl) ?_
      refine lv_bipush (v := 9) hx hb dX5_askForFlow_105 (by decide) ?_
      obtain ⟨r5, h5, h⟩ := zb h
      refine zi (zrV (C := RX3) (T := TX3) (N := 4) (As := [.int r2, .int 9]) (rest := []) ⟨hx, hb, hml, hown, ht⟩ (c_X3_get l D k esr esrc 12 11 esrs 132 r4 r2 9 h5 _) (cwV 2 ht (gdV wb343 wb344 wb345 wb74 wb346) rfl rfl rfl (by decide +kernel) ⟨Nat.le_of_ble_eq_true rfl, Nat.le_of_ble_eq_true rfl⟩) hK hP hD hS hA hm [3, 4] rfl rfl 3 3 rfl rfl rfl hl.1 rfl (Nat.le_of_ble_eq_true rfl) dX5_askForFlow_107 ⟨Nat.le_refl _, Nat.le_refl _⟩) hP hD hS hA [3, 4] rfl rfl (fun H locs hP hD hS => ?_)
      have hP : va_P D vwCl [(zq, .inr (5, [.ref es, .ref yh, .ref tx, .ref gp, .ref gq, .int b0, .int b1, .int b2])), (es, .inr (2, [.ref esz, .ref esr, .ref esk, .ref esf, .ref esa, .ref esp, .ref est, .int estm])), (esz, .inl (k 0, 32, .inl eszo)), (esr, .inr (3, [.int 12, .int 11, .ref esrc, .int esrs])), (esrc, .inl (k 0, 132, .inl r4)), (esa, .inr (3, [.int 6, .int 5, .ref esac, .int esas])), (esac, .inl (k 0, 30, .inl esaf))] H := hP
      have hD : va_D A [(zq, .inr (5, [.ref es, .ref yh, .ref tx, .ref gp, .ref gq, .int b0, .int b1, .int b2])), (es, .inr (2, [.ref esz, .ref esr, .ref esk, .ref esf, .ref esa, .ref esp, .ref est, .int estm])), (esz, .inl (k 0, 32, .inl eszo)), (esr, .inr (3, [.int 12, .int 11, .ref esrc, .int esrs])), (esrc, .inl (k 0, 132, .inl r4)), (esa, .inr (3, [.int 6, .int 5, .ref esac, .int esas])), (esac, .inl (k 0, 30, .inl esaf))] := hD
      obtain rfl := Option.some.inj h
      exact W.iret (v := r5) hx hb hr (fun t ht9 hW => ⟨⟨_, (), rfl, rfl, zend ht9 hP⟩, hS.F ht9⟩) hS.2.2 dX5_askForFlow_110
    · have h := zt h c1
      refine lv_iconst (v := 0) hx hb dX5_askForFlow_64 (by decide) ?_
      obtain rfl := Option.some.inj h
      exact W.iret (v := 0) hx hb hr (fun t ht9 hW => ⟨⟨_, (), rfl, rfl, zend ht9 hP⟩, hS.F ht9⟩) hS.2.2 dX5_askForFlow_65
  · have h := zf h c2
    refine lv_aload_n hx hb dX5_askForFlow_23 rfl (lv_at hl 1 rfl) ?_
    refine va_get (D := D) (ci := 5) (v := .ref es) (C := RX5) (T := TX5) (N := 8) hx hb ht hiX5 hown hK hP 0 rfl rfl 0 (by decide) (ht _ wb239) (fun _ h9 => h9) rfl dX5_askForFlow_24 ?_
    refine va_getN (D := D) (ci := 2) (v := .ref esa) (C := RX2) (T := TX2) (N := 8) hx hb ht hiX2 hown hK hP 1 rfl rfl 4 (by decide) (va_Nw.use rfl (hm.1 _ (List.mem_of_getElem? (i := 5) rfl))) (fun _ h9 => h9) rfl dX5_askForFlow_27 ?_
    refine lv_iload hx hb dX5_askForFlow_30 (lv_at hl 0 rfl) ?_
    obtain ⟨r6, h6, h⟩ := zb h
    refine zv (zrV (C := RX3) (T := TX3) (N := 4) (As := [.int r1]) (rest := []) ⟨hx, hb, hml, hown, ht⟩ (c_X3_remove l D k esa esac 6 5 esas 30 esaf r1 h6 _) (cwV 1 ht (gdV wb351 wb352 wb353 wb74 wb354) rfl rfl rfl (by decide +kernel) ⟨Nat.le_of_ble_eq_true rfl, Nat.le_of_ble_eq_true rfl⟩) hK hP hD hS hA hm [5, 6] rfl rfl 5 3 rfl rfl rfl hl.1 rfl (Nat.le_of_ble_eq_true rfl) dX5_askForFlow_32 ⟨Nat.le_refl _, Nat.le_refl _⟩) hP hD hS hA [5, 6] rfl rfl (fun H locs hP hD hS => ?_)
    have hP : va_P D vwCl [(zq, .inr (5, [.ref es, .ref yh, .ref tx, .ref gp, .ref gq, .int b0, .int b1, .int b2])), (es, .inr (2, [.ref esz, .ref esr, .ref esk, .ref esf, .ref esa, .ref esp, .ref est, .int estm])), (esz, .inl (k 0, 32, .inl eszo)), (esr, .inr (3, [.int 12, .int 11, .ref esrc, .int esrs])), (esrc, .inl (k 0, 132, .inl esrf)), (esa, .inr (3, [.int 6, .int 5, .ref esac, .int r6.1])), (esac, .inl (k 0, 30, .inl r6.2))] H := hP
    have hD : va_D A [(zq, .inr (5, [.ref es, .ref yh, .ref tx, .ref gp, .ref gq, .int b0, .int b1, .int b2])), (es, .inr (2, [.ref esz, .ref esr, .ref esk, .ref esf, .ref esa, .ref esp, .ref est, .int estm])), (esz, .inl (k 0, 32, .inl eszo)), (esr, .inr (3, [.int 12, .int 11, .ref esrc, .int esrs])), (esrc, .inl (k 0, 132, .inl esrf)), (esa, .inr (3, [.int 6, .int 5, .ref esac, .int r6.1])), (esac, .inl (k 0, 30, .inl r6.2))] := hD
    refine lv_iconst (v := 1) hx hb dX5_askForFlow_35 (by decide) ?_
    obtain rfl := Option.some.inj h
    exact W.iret (v := 1) hx hb hr (fun t ht9 hW => ⟨⟨_, (), rfl, rfl, zend ht9 hP⟩, hS.F ht9⟩) hS.2.2 dX5_askForFlow_36
def f_X5_continueFlow (estm : Int32) (esfs : Int32) (esff : Nat → Int32) (espf : Nat → Int32) (a1 : Int32) (a2 : Int32) (a3 : Int32) : Option (Int32 × Int32 × (Nat → Int32)) :=
  if a3 = 4 then ((f_X3_remove 7 esfs 56 esff a1).bind fun r8 => some (1, r8.1, r8.2)) else ((f_X3_get 7 esfs 56 esff a1 4).bind fun r1 => (f_X3_get 7 esfs 56 esff a1 6).bind fun r2 => (f_X5_nextStage  r1 a2 r2 a3).bind fun r3 => if r3 = (-1) then (some (3, esfs, esff)) else (if r1 = 3 then (if r3 = 4 then ((f_X3_put 7 esfs 56 esff a1 6 a2).bind fun r6 => (f_X2_enterStage estm esfs r6 espf a1 r3).bind fun r7 => some (1, esfs, r7)) else ((f_X2_enterStage estm esfs esff espf a1 r3).bind fun r5 => some (1, esfs, r5))) else ((f_X2_enterStage estm esfs esff espf a1 r3).bind fun r4 => some (1, esfs, r4))))
abbrev wk_X5_continueFlow : List Cond := Cond.code yX5_continueFlow cX5_continueFlow 6 (some .int) :: WB
abbrev rm_X5_continueFlow : Room := { frames := 3, cells := 0, slots := 0, locals := 69 }
set_option maxHeartbeats 4000000 in
set_option maxRecDepth 100000 in
theorem c_X5_continueFlow (l : Launch) (D : va_G) (k : Nat → Nat) (zq es yh tx gp gq esz esr esk esf esa esp est esfc : Nat) (b0 : Int32) (b1 : Int32) (b2 : Int32) (estm : Int32) (esfs : Int32) (esff : Nat → Int32) (espf : Nat → Int32) (a1 : Int32) (a2 : Int32) (a3 : Int32) {res : Int32 × Int32 × (Nat → Int32)} (h : f_X5_continueFlow estm esfs esff espf a1 a2 a3 = some res) : Ci l yX5_continueFlow wk_X5_continueFlow rm_X5_continueFlow D k [.ref zq, .int a1, .int a2, .int a3] [(zq, .inr (5, [.ref es, .ref yh, .ref tx, .ref gp, .ref gq, .int b0, .int b1, .int b2])), (es, .inr (2, [.ref esz, .ref esr, .ref esk, .ref esf, .ref esa, .ref esp, .ref est, .int estm])), (esf, .inr (3, [.int 8, .int 7, .ref esfc, .int esfs])), (esfc, .inl (k 0, 56, .inl esff)), (esp, .inl (k 0, 7, .inl espf))] [(zq, .inr (5, [.ref es, .ref yh, .ref tx, .ref gp, .ref gq, .int b0, .int b1, .int b2])), (es, .inr (2, [.ref esz, .ref esr, .ref esk, .ref esf, .ref esa, .ref esp, .ref est, .int estm])), (esf, .inr (3, [.int 8, .int 7, .ref esfc, .int res.2.1])), (esfc, .inl (k 0, 56, .inl res.2.2)), (esp, .inl (k 0, 7, .inl espf))] res.1 := by
  unfold Ci
  intro sz
  refine Met.ofW (cc := cX5_continueFlow) (maxL := 6) (ret := (some .int)) (by decide) rfl ?_
  intro p e s m args below meth c s₁ B hml hv
  obtain ⟨rfl, hsz, hP, hK, hD0, hm⟩ := hv
  have hx := B.exec
  have hb := B.bytes
  have hr := B.returns
  have ht : ∀ w ∈ WB, w.before _ s = true := fun w hw => atoms_spec (ws := wk_X5_continueFlow) B.pre w (List.mem_cons_of_mem _ hw)
  have hown : s.vm.findClass RX5 = some m.cls := findClass_of_methodNamed B.named
  have hlocks := B.notSynchronized
  subst hsz
  have hD := hD0.self (sz := s.heap.size)
  generalize hAe : va_A [(zq, .inr (5, [.ref es, .ref yh, .ref tx, .ref gp, .ref gq, .int b0, .int b1, .int b2])), (es, .inr (2, [.ref esz, .ref esr, .ref esk, .ref esf, .ref esa, .ref esp, .ref est, .int estm])), (esf, .inr (3, [.int 8, .int 7, .ref esfc, .int esfs])), (esfc, .inl (k 0, 56, .inl esff)), (esp, .inl (k 0, 7, .inl espf))] s.heap.size = A at hD hm ⊢
  have hA : ∀ q : Nat, s.heap.size ≤ q → A q := fun q h => by rw [← hAe]; exact Or.inr h
  have hS : va_S A s.heap s.heap [] := va_S.rf
  have hl := lv_entry ([.ref zq, .int a1, .int a2, .int a3]) (n := 6) (Nat.le_of_ble_eq_true rfl)
  rw [lg_entry_eq]
  generalize (lg_sl ([.ref zq, .int a1, .int a2, .int a3]) ++ List.replicate (6 - (lg_sl ([.ref zq, .int a1, .int a2, .int a3])).length) Slot.unset).toArray = ls at hl ⊢
  have hl : lv_has ls 6 [(0, .ref zq), (1, .int a1), (2, .int a2), (3, .int a3)] := hl
  obtain ⟨H, hH⟩ : ∃ H, H = s.heap := ⟨_, rfl⟩
  rw [← hH] at hP
  have hS : va_S A s.heap H [] := by rw [hH]; exact hS
  suffices hgo : W p l e _ s m _ below meth c H [] 0 0 _ _ by rw [hH] at hgo; exact hgo
  unfold f_X5_continueFlow at h
  refine lv_iload_n hx hb dX5_continueFlow_0 rfl (lv_at hl 3 rfl) ?_
  refine lv_iconst (v := 4) hx hb dX5_continueFlow_1 (by decide) ?_
  refine lv_icmp_ne (tgt := 18) hx hb dX5_continueFlow_2 (by decide) (fun c4 => ?_) (fun c4 => ?_)
  · have h := zf h c4
    refine lv_aload_n hx hb dX5_continueFlow_18 rfl (lv_at hl 0 rfl) ?_
    refine va_get (D := D) (ci := 5) (v := .ref es) (C := RX5) (T := TX5) (N := 8) hx hb ht hiX5 hown hK hP 0 rfl rfl 0 (by decide) (ht _ wb239) (fun _ h9 => h9) rfl dX5_continueFlow_19 ?_
    refine va_getN (D := D) (ci := 2) (v := .ref esf) (C := RX2) (T := TX2) (N := 8) hx hb ht hiX2 hown hK hP 1 rfl rfl 3 (by decide) (va_Nw.use rfl (hm.1 _ (List.mem_of_getElem? (i := 4) rfl))) (fun _ h9 => h9) rfl dX5_continueFlow_22 ?_
    refine lv_iload_n hx hb dX5_continueFlow_25 rfl (lv_at hl 1 rfl) ?_
    refine lv_iconst (v := 4) hx hb dX5_continueFlow_26 (by decide) ?_
    obtain ⟨r1, h1, h⟩ := zb h
    refine zi (zrV (C := RX3) (T := TX3) (N := 4) (As := [.int a1, .int 4]) (rest := []) ⟨hx, hb, hml, hown, ht⟩ (c_X3_get l D k esf esfc 8 7 esfs 56 esff a1 4 h1 _) (cwV 2 ht (gdV wb343 wb344 wb345 wb74 wb346) rfl rfl rfl (by decide +kernel) ⟨Nat.le_of_ble_eq_true rfl, Nat.le_of_ble_eq_true rfl⟩) hK hP hD hS hA hm [2, 3] rfl rfl 2 3 rfl rfl rfl hl.1 rfl (Nat.le_of_ble_eq_true rfl) dX5_continueFlow_27 ⟨Nat.le_refl _, Nat.le_refl _⟩) hP hD hS hA [2, 3] rfl rfl (fun H locs hP hD hS => ?_)
    have hP : va_P D vwCl [(zq, .inr (5, [.ref es, .ref yh, .ref tx, .ref gp, .ref gq, .int b0, .int b1, .int b2])), (es, .inr (2, [.ref esz, .ref esr, .ref esk, .ref esf, .ref esa, .ref esp, .ref est, .int estm])), (esf, .inr (3, [.int 8, .int 7, .ref esfc, .int esfs])), (esfc, .inl (k 0, 56, .inl esff)), (esp, .inl (k 0, 7, .inl espf))] H := hP
    have hD : va_D A [(zq, .inr (5, [.ref es, .ref yh, .ref tx, .ref gp, .ref gq, .int b0, .int b1, .int b2])), (es, .inr (2, [.ref esz, .ref esr, .ref esk, .ref esf, .ref esa, .ref esp, .ref est, .int estm])), (esf, .inr (3, [.int 8, .int 7, .ref esfc, .int esfs])), (esfc, .inl (k 0, 56, .inl esff)), (esp, .inl (k 0, 7, .inl espf))] := hD
    refine lv_istore (lv' := [(4, .int r1), (0, .ref zq), (1, .int a1), (2, .int a2), (3, .int a3)]) hx hb dX5_continueFlow_30 hl (by decide) rfl (fun ls hl => ?_)
    refine lv_iload hx hb dX5_continueFlow_32 (lv_at hl 0 rfl) ?_
    refine lv_iload_n hx hb dX5_continueFlow_34 rfl (lv_at hl 3 rfl) ?_
    refine lv_aload_n hx hb dX5_continueFlow_35 rfl (lv_at hl 1 rfl) ?_
    refine va_get (D := D) (ci := 5) (v := .ref es) (C := RX5) (T := TX5) (N := 8) hx hb ht hiX5 hown hK hP 0 rfl rfl 0 (by decide) (ht _ wb239) (fun _ h9 => h9) rfl dX5_continueFlow_36 ?_
    refine va_getN (D := D) (ci := 2) (v := .ref esf) (C := RX2) (T := TX2) (N := 8) hx hb ht hiX2 hown hK hP 1 rfl rfl 3 (by decide) (va_Nw.use rfl (hm.1 _ (List.mem_of_getElem? (i := 4) rfl))) (fun _ h9 => h9) rfl dX5_continueFlow_39 ?_
    refine lv_iload_n hx hb dX5_continueFlow_42 rfl (lv_at hl 2 rfl) ?_
    refine lv_bipush (v := 6) hx hb dX5_continueFlow_43 (by decide) ?_
    obtain ⟨r2, h2, h⟩ := zb h
    refine zi (zrV (C := RX3) (T := TX3) (N := 4) (As := [.int a1, .int 6]) (rest := [.int a2, .int r1]) ⟨hx, hb, hml, hown, ht⟩ (c_X3_get l D k esf esfc 8 7 esfs 56 esff a1 6 h2 _) (cwV 2 ht (gdV wb343 wb344 wb345 wb74 wb346) rfl rfl rfl (by decide +kernel) ⟨Nat.le_of_ble_eq_true rfl, Nat.le_of_ble_eq_true rfl⟩) hK hP hD hS hA hm [2, 3] rfl rfl 2 3 rfl rfl rfl hl.1 rfl (Nat.le_of_ble_eq_true rfl) dX5_continueFlow_45 ⟨Nat.le_refl _, Nat.le_refl _⟩) hP hD hS hA [2, 3] rfl rfl (fun H locs hP hD hS => ?_)
    have hP : va_P D vwCl [(zq, .inr (5, [.ref es, .ref yh, .ref tx, .ref gp, .ref gq, .int b0, .int b1, .int b2])), (es, .inr (2, [.ref esz, .ref esr, .ref esk, .ref esf, .ref esa, .ref esp, .ref est, .int estm])), (esf, .inr (3, [.int 8, .int 7, .ref esfc, .int esfs])), (esfc, .inl (k 0, 56, .inl esff)), (esp, .inl (k 0, 7, .inl espf))] H := hP
    have hD : va_D A [(zq, .inr (5, [.ref es, .ref yh, .ref tx, .ref gp, .ref gq, .int b0, .int b1, .int b2])), (es, .inr (2, [.ref esz, .ref esr, .ref esk, .ref esf, .ref esa, .ref esp, .ref est, .int estm])), (esf, .inr (3, [.int 8, .int 7, .ref esfc, .int esfs])), (esfc, .inl (k 0, 56, .inl esff)), (esp, .inl (k 0, 7, .inl espf))] := hD
    refine lv_iload_n hx hb dX5_continueFlow_48 rfl (lv_at hl 4 rfl) ?_
    obtain ⟨r3, h3, h⟩ := zb h
    refine zi (zrS (As := [.int r1, .int a2, .int r2, .int a3]) (rest := []) ⟨hx, hb, hml, hown, ht⟩ (c_X5_nextStage l D k   r1 a2 r2 a3 h3 _) (va_cwS 4 ht (gdS wb526 wb527 wb72 wb528) rfl rfl rfl (by decide +kernel) ⟨Nat.le_of_ble_eq_true rfl, Nat.le_of_ble_eq_true rfl⟩) hK hP hD hS hA hm [] rfl rfl rfl hl.1 rfl (Nat.le_of_ble_eq_true rfl) dX5_continueFlow_49 ⟨Nat.le_refl _, Nat.le_refl _⟩) hP hD hS hA [] rfl rfl (fun H locs hP hD hS => ?_)
    have hP : va_P D vwCl [(zq, .inr (5, [.ref es, .ref yh, .ref tx, .ref gp, .ref gq, .int b0, .int b1, .int b2])), (es, .inr (2, [.ref esz, .ref esr, .ref esk, .ref esf, .ref esa, .ref esp, .ref est, .int estm])), (esf, .inr (3, [.int 8, .int 7, .ref esfc, .int esfs])), (esfc, .inl (k 0, 56, .inl esff)), (esp, .inl (k 0, 7, .inl espf))] H := hP
    have hD : va_D A [(zq, .inr (5, [.ref es, .ref yh, .ref tx, .ref gp, .ref gq, .int b0, .int b1, .int b2])), (es, .inr (2, [.ref esz, .ref esr, .ref esk, .ref esf, .ref esa, .ref esp, .ref est, .int estm])), (esf, .inr (3, [.int 8, .int 7, .ref esfc, .int esfs])), (esfc, .inl (k 0, 56, .inl esff)), (esp, .inl (k 0, 7, .inl espf))] := hD
    refine lv_istore (lv' := [(5, .int r3), (4, .int r1), (0, .ref zq), (1, .int a1), (2, .int a2), (3, .int a3)]) hx hb dX5_continueFlow_52 hl (by decide) rfl (fun ls hl => ?_)
    refine lv_iload hx hb dX5_continueFlow_54 (lv_at hl 0 rfl) ?_
    refine lv_iconst (v := (-1)) hx hb dX5_continueFlow_56 (by decide) ?_
    refine lv_icmp_ne (tgt := 62) hx hb dX5_continueFlow_57 (by decide) (fun c3 => ?_) (fun c3 => ?_)
    · have h := zf h c3
      refine lv_iload hx hb dX5_continueFlow_62 (lv_at hl 1 rfl) ?_
      refine lv_iconst (v := 3) hx hb dX5_continueFlow_64 (by decide) ?_
      refine lv_icmp_ne (tgt := 88) hx hb dX5_continueFlow_65 (by decide) (fun c2 => ?_) (fun c2 => ?_)
      · have h := zf h c2
        refine lv_aload_n hx hb dX5_continueFlow_88 rfl (lv_at hl 2 rfl) ?_
        refine va_get (D := D) (ci := 5) (v := .ref es) (C := RX5) (T := TX5) (N := 8) hx hb ht hiX5 hown hK hP 0 rfl rfl 0 (by decide) (ht _ wb239) (fun _ h9 => h9) rfl dX5_continueFlow_89 ?_
        refine lv_iload_n hx hb dX5_continueFlow_92 rfl (lv_at hl 3 rfl) ?_
        refine lv_iload hx hb dX5_continueFlow_93 (lv_at hl 0 rfl) ?_
        obtain ⟨r4, h4, h⟩ := zb h
        refine zv (zrV (C := RX2) (T := TX2) (N := 8) (As := [.int a1, .int r3]) (rest := []) ⟨hx, hb, hml, hown, ht⟩ (c_X2_enterStage l D k es esz esr esk esf esa esp est esfc estm esfs esff espf a1 r3 h4 _) (cwV 2 ht (gdV wb529 wb530 wb531 wb73 wb532) rfl rfl rfl (by decide +kernel) ⟨Nat.le_of_ble_eq_true rfl, Nat.le_of_ble_eq_true rfl⟩) hK hP hD hS hA hm [1, 2, 3, 4] rfl rfl 1 2 rfl rfl rfl hl.1 rfl (Nat.le_of_ble_eq_true rfl) dX5_continueFlow_95 ⟨Nat.le_refl _, Nat.le_refl _⟩) hP hD hS hA [1, 2, 3, 4] rfl rfl (fun H locs hP hD hS => ?_)
        have hP : va_P D vwCl [(zq, .inr (5, [.ref es, .ref yh, .ref tx, .ref gp, .ref gq, .int b0, .int b1, .int b2])), (es, .inr (2, [.ref esz, .ref esr, .ref esk, .ref esf, .ref esa, .ref esp, .ref est, .int estm])), (esf, .inr (3, [.int 8, .int 7, .ref esfc, .int esfs])), (esfc, .inl (k 0, 56, .inl r4)), (esp, .inl (k 0, 7, .inl espf))] H := hP
        have hD : va_D A [(zq, .inr (5, [.ref es, .ref yh, .ref tx, .ref gp, .ref gq, .int b0, .int b1, .int b2])), (es, .inr (2, [.ref esz, .ref esr, .ref esk, .ref esf, .ref esa, .ref esp, .ref est, .int estm])), (esf, .inr (3, [.int 8, .int 7, .ref esfc, .int esfs])), (esfc, .inl (k 0, 56, .inl r4)), (esp, .inl (k 0, 7, .inl espf))] := hD
        refine lv_iconst (v := 1) hx hb dX5_continueFlow_98 (by decide) ?_
        obtain rfl := Option.some.inj h
        exact W.iret (v := 1) hx hb hr (fun t ht9 hW => ⟨⟨_, (), rfl, rfl, zend ht9 hP⟩, hS.F ht9⟩) hS.2.2 dX5_continueFlow_99
      · have h := zt h c2
        refine lv_iload hx hb dX5_continueFlow_68 (lv_at hl 0 rfl) ?_
        refine lv_iconst (v := 4) hx hb dX5_continueFlow_70 (by decide) ?_
        refine lv_icmp_ne (tgt := 88) hx hb dX5_continueFlow_71 (by decide) (fun c1 => ?_) (fun c1 => ?_)
        · have h := zf h c1
          refine lv_aload_n hx hb dX5_continueFlow_88 rfl (lv_at hl 2 rfl) ?_
          refine va_get (D := D) (ci := 5) (v := .ref es) (C := RX5) (T := TX5) (N := 8) hx hb ht hiX5 hown hK hP 0 rfl rfl 0 (by decide) (ht _ wb239) (fun _ h9 => h9) rfl dX5_continueFlow_89 ?_
          refine lv_iload_n hx hb dX5_continueFlow_92 rfl (lv_at hl 3 rfl) ?_
          refine lv_iload hx hb dX5_continueFlow_93 (lv_at hl 0 rfl) ?_
          obtain ⟨r5, h5, h⟩ := zb h
          refine zv (zrV (C := RX2) (T := TX2) (N := 8) (As := [.int a1, .int r3]) (rest := []) ⟨hx, hb, hml, hown, ht⟩ (c_X2_enterStage l D k es esz esr esk esf esa esp est esfc estm esfs esff espf a1 r3 h5 _) (cwV 2 ht (gdV wb529 wb530 wb531 wb73 wb532) rfl rfl rfl (by decide +kernel) ⟨Nat.le_of_ble_eq_true rfl, Nat.le_of_ble_eq_true rfl⟩) hK hP hD hS hA hm [1, 2, 3, 4] rfl rfl 1 2 rfl rfl rfl hl.1 rfl (Nat.le_of_ble_eq_true rfl) dX5_continueFlow_95 ⟨Nat.le_refl _, Nat.le_refl _⟩) hP hD hS hA [1, 2, 3, 4] rfl rfl (fun H locs hP hD hS => ?_)
          have hP : va_P D vwCl [(zq, .inr (5, [.ref es, .ref yh, .ref tx, .ref gp, .ref gq, .int b0, .int b1, .int b2])), (es, .inr (2, [.ref esz, .ref esr, .ref esk, .ref esf, .ref esa, .ref esp, .ref est, .int estm])), (esf, .inr (3, [.int 8, .int 7, .ref esfc, .int esfs])), (esfc, .inl (k 0, 56, .inl r5)), (esp, .inl (k 0, 7, .inl espf))] H := hP
          have hD : va_D A [(zq, .inr (5, [.ref es, .ref yh, .ref tx, .ref gp, .ref gq, .int b0, .int b1, .int b2])), (es, .inr (2, [.ref esz, .ref esr, .ref esk, .ref esf, .ref esa, .ref esp, .ref est, .int estm])), (esf, .inr (3, [.int 8, .int 7, .ref esfc, .int esfs])), (esfc, .inl (k 0, 56, .inl r5)), (esp, .inl (k 0, 7, .inl espf))] := hD
          refine lv_iconst (v := 1) hx hb dX5_continueFlow_98 (by decide) ?_
          obtain rfl := Option.some.inj h
          exact W.iret (v := 1) hx hb hr (fun t ht9 hW => ⟨⟨_, (), rfl, rfl, zend ht9 hP⟩, hS.F ht9⟩) hS.2.2 dX5_continueFlow_99
        · have h := zt h c1
          refine lv_aload_n hx hb dX5_continueFlow_74 rfl (lv_at hl 2 rfl) ?_
          refine va_get (D := D) (ci := 5) (v := .ref es) (C := RX5) (T := TX5) (N := 8) hx hb ht hiX5 hown hK hP 0 rfl rfl 0 (by decide) (ht _ wb239) (fun _ h9 => h9) rfl dX5_continueFlow_75 ?_
          refine va_getN (D := D) (ci := 2) (v := .ref esf) (C := RX2) (T := TX2) (N := 8) hx hb ht hiX2 hown hK hP 1 rfl rfl 3 (by decide) (va_Nw.use rfl (hm.1 _ (List.mem_of_getElem? (i := 4) rfl))) (fun _ h9 => h9) rfl dX5_continueFlow_78 ?_
          refine lv_iload_n hx hb dX5_continueFlow_81 rfl (lv_at hl 3 rfl) ?_
          refine lv_bipush (v := 6) hx hb dX5_continueFlow_82 (by decide) ?_
          refine lv_iload_n hx hb dX5_continueFlow_84 rfl (lv_at hl 4 rfl) ?_
          obtain ⟨r6, h6, h⟩ := zb h
          refine zv (zrV (C := RX3) (T := TX3) (N := 4) (As := [.int a1, .int 6, .int a2]) (rest := []) ⟨hx, hb, hml, hown, ht⟩ (c_X3_put l D k esf esfc 8 7 esfs 56 esff a1 6 a2 h6 _) (cwV 3 ht (gdV wb322 wb323 wb324 wb74 wb325) rfl rfl rfl (by decide +kernel) ⟨Nat.le_of_ble_eq_true rfl, Nat.le_of_ble_eq_true rfl⟩) hK hP hD hS hA hm [2, 3] rfl rfl 2 3 rfl rfl rfl hl.1 rfl (Nat.le_of_ble_eq_true rfl) dX5_continueFlow_85 ⟨Nat.le_refl _, Nat.le_refl _⟩) hP hD hS hA [2, 3] rfl rfl (fun H locs hP hD hS => ?_)
          have hP : va_P D vwCl [(zq, .inr (5, [.ref es, .ref yh, .ref tx, .ref gp, .ref gq, .int b0, .int b1, .int b2])), (es, .inr (2, [.ref esz, .ref esr, .ref esk, .ref esf, .ref esa, .ref esp, .ref est, .int estm])), (esf, .inr (3, [.int 8, .int 7, .ref esfc, .int esfs])), (esfc, .inl (k 0, 56, .inl r6)), (esp, .inl (k 0, 7, .inl espf))] H := hP
          have hD : va_D A [(zq, .inr (5, [.ref es, .ref yh, .ref tx, .ref gp, .ref gq, .int b0, .int b1, .int b2])), (es, .inr (2, [.ref esz, .ref esr, .ref esk, .ref esf, .ref esa, .ref esp, .ref est, .int estm])), (esf, .inr (3, [.int 8, .int 7, .ref esfc, .int esfs])), (esfc, .inl (k 0, 56, .inl r6)), (esp, .inl (k 0, 7, .inl espf))] := hD
          refine lv_aload_n hx hb dX5_continueFlow_88 rfl (lv_at hl 2 rfl) ?_
          refine va_get (D := D) (ci := 5) (v := .ref es) (C := RX5) (T := TX5) (N := 8) hx hb ht hiX5 hown hK hP 0 rfl rfl 0 (by decide) (ht _ wb239) (fun _ h9 => h9) rfl dX5_continueFlow_89 ?_
          refine lv_iload_n hx hb dX5_continueFlow_92 rfl (lv_at hl 3 rfl) ?_
          refine lv_iload hx hb dX5_continueFlow_93 (lv_at hl 0 rfl) ?_
          obtain ⟨r7, h7, h⟩ := zb h
          refine zv (zrV (C := RX2) (T := TX2) (N := 8) (As := [.int a1, .int r3]) (rest := []) ⟨hx, hb, hml, hown, ht⟩ (c_X2_enterStage l D k es esz esr esk esf esa esp est esfc estm esfs r6 espf a1 r3 h7 _) (cwV 2 ht (gdV wb529 wb530 wb531 wb73 wb532) rfl rfl rfl (by decide +kernel) ⟨Nat.le_of_ble_eq_true rfl, Nat.le_of_ble_eq_true rfl⟩) hK hP hD hS hA hm [1, 2, 3, 4] rfl rfl 1 2 rfl rfl rfl hl.1 rfl (Nat.le_of_ble_eq_true rfl) dX5_continueFlow_95 ⟨Nat.le_refl _, Nat.le_refl _⟩) hP hD hS hA [1, 2, 3, 4] rfl rfl (fun H locs hP hD hS => ?_)
          have hP : va_P D vwCl [(zq, .inr (5, [.ref es, .ref yh, .ref tx, .ref gp, .ref gq, .int b0, .int b1, .int b2])), (es, .inr (2, [.ref esz, .ref esr, .ref esk, .ref esf, .ref esa, .ref esp, .ref est, .int estm])), (esf, .inr (3, [.int 8, .int 7, .ref esfc, .int esfs])), (esfc, .inl (k 0, 56, .inl r7)), (esp, .inl (k 0, 7, .inl espf))] H := hP
          have hD : va_D A [(zq, .inr (5, [.ref es, .ref yh, .ref tx, .ref gp, .ref gq, .int b0, .int b1, .int b2])), (es, .inr (2, [.ref esz, .ref esr, .ref esk, .ref esf, .ref esa, .ref esp, .ref est, .int estm])), (esf, .inr (3, [.int 8, .int 7, .ref esfc, .int esfs])), (esfc, .inl (k 0, 56, .inl r7)), (esp, .inl (k 0, 7, .inl espf))] := hD
          refine lv_iconst (v := 1) hx hb dX5_continueFlow_98 (by decide) ?_
          obtain rfl := Option.some.inj h
          exact W.iret (v := 1) hx hb hr (fun t ht9 hW => ⟨⟨_, (), rfl, rfl, zend ht9 hP⟩, hS.F ht9⟩) hS.2.2 dX5_continueFlow_99
    · have h := zt h c3
      refine lv_iconst (v := 3) hx hb dX5_continueFlow_60 (by decide) ?_
      obtain rfl := Option.some.inj h
      exact W.iret (v := 3) hx hb hr (fun t ht9 hW => ⟨⟨_, (), rfl, rfl, zend ht9 hP⟩, hS.F ht9⟩) hS.2.2 dX5_continueFlow_61
  · have h := zt h c4
    refine lv_aload_n hx hb dX5_continueFlow_5 rfl (lv_at hl 0 rfl) ?_
    refine va_get (D := D) (ci := 5) (v := .ref es) (C := RX5) (T := TX5) (N := 8) hx hb ht hiX5 hown hK hP 0 rfl rfl 0 (by decide) (ht _ wb239) (fun _ h9 => h9) rfl dX5_continueFlow_6 ?_
    refine va_getN (D := D) (ci := 2) (v := .ref esf) (C := RX2) (T := TX2) (N := 8) hx hb ht hiX2 hown hK hP 1 rfl rfl 3 (by decide) (va_Nw.use rfl (hm.1 _ (List.mem_of_getElem? (i := 4) rfl))) (fun _ h9 => h9) rfl dX5_continueFlow_9 ?_
    refine lv_iload_n hx hb dX5_continueFlow_12 rfl (lv_at hl 1 rfl) ?_
    obtain ⟨r8, h8, h⟩ := zb h
    refine zv (zrV (C := RX3) (T := TX3) (N := 4) (As := [.int a1]) (rest := []) ⟨hx, hb, hml, hown, ht⟩ (c_X3_remove l D k esf esfc 8 7 esfs 56 esff a1 h8 _) (cwV 1 ht (gdV wb351 wb352 wb353 wb74 wb354) rfl rfl rfl (by decide +kernel) ⟨Nat.le_of_ble_eq_true rfl, Nat.le_of_ble_eq_true rfl⟩) hK hP hD hS hA hm [2, 3] rfl rfl 2 3 rfl rfl rfl hl.1 rfl (Nat.le_of_ble_eq_true rfl) dX5_continueFlow_13 ⟨Nat.le_refl _, Nat.le_refl _⟩) hP hD hS hA [2, 3] rfl rfl (fun H locs hP hD hS => ?_)
    have hP : va_P D vwCl [(zq, .inr (5, [.ref es, .ref yh, .ref tx, .ref gp, .ref gq, .int b0, .int b1, .int b2])), (es, .inr (2, [.ref esz, .ref esr, .ref esk, .ref esf, .ref esa, .ref esp, .ref est, .int estm])), (esf, .inr (3, [.int 8, .int 7, .ref esfc, .int r8.1])), (esfc, .inl (k 0, 56, .inl r8.2)), (esp, .inl (k 0, 7, .inl espf))] H := hP
    have hD : va_D A [(zq, .inr (5, [.ref es, .ref yh, .ref tx, .ref gp, .ref gq, .int b0, .int b1, .int b2])), (es, .inr (2, [.ref esz, .ref esr, .ref esk, .ref esf, .ref esa, .ref esp, .ref est, .int estm])), (esf, .inr (3, [.int 8, .int 7, .ref esfc, .int r8.1])), (esfc, .inl (k 0, 56, .inl r8.2)), (esp, .inl (k 0, 7, .inl espf))] := hD
    refine lv_iconst (v := 1) hx hb dX5_continueFlow_16 (by decide) ?_
    obtain rfl := Option.some.inj h
    exact W.iret (v := 1) hx hb hr (fun t ht9 hW => ⟨⟨_, (), rfl, rfl, zend ht9 hP⟩, hS.F ht9⟩) hS.2.2 dX5_continueFlow_17
def f_X5_handleLetter (fu : Nat) (estm : Int32) (eszo : Nat → Int32) (esrs : Int32) (esrf : Nat → Int32) (esfs : Int32) (esff : Nat → Int32) (esas : Int32) (esaf : Nat → Int32) (espf : Nat → Int32) (a1 : Int32) (a2 : Int32) (a3 : Int32) (a4 : Int32) (a5 : Int32) : Option (Int32 × (Nat → Int32) × Int32 × (Nat → Int32) × Int32 × (Nat → Int32)) :=
  (f_X3_rowOfCase fu 7 esfs 56 esff a1 a2 a3 a4).bind fun r1 => if r1 = (-1) then ((f_X3_rowOfCase fu 7 esfs 56 esff a2 a1 a3 a4).bind fun r2 => if r2 = (-1) then (if a4 = 0 then (if a5 = 0 then ((f_X5_askForFlow fu eszo esrs esrf esas esaf a1 a2 a3 a4).bind fun r5 => if r5.1 = 1 then ((f_X5_openFlow fu estm esfs esff espf a1 a2 a3 a4).bind fun r6 => some (r6.1, r5.2.1, r6.2.1, r6.2.2, r5.2.2.1, r5.2.2.2)) else (some (r5.1, r5.2.1, esfs, esff, r5.2.2.1, r5.2.2.2))) else (some (3, esrf, esfs, esff, esas, esaf))) else (if a5 = 2 then ((f_X5_askForFlow fu eszo esrs esrf esas esaf a1 a2 a3 a4).bind fun r3 => if r3.1 = 1 then ((f_X5_openFlow fu estm esfs esff espf a1 a2 a3 a4).bind fun r4 => some (r4.1, r3.2.1, r4.2.1, r4.2.2, r3.2.2.1, r3.2.2.2)) else (some (r3.1, r3.2.1, esfs, esff, r3.2.2.1, r3.2.2.2))) else (some (3, esrf, esfs, esff, esas, esaf)))) else ((f_X5_continueFlow estm esfs esff espf r2 1 a5).bind fun r7 => some (r7.1, esrf, r7.2.1, r7.2.2, esas, esaf))) else ((f_X5_continueFlow estm esfs esff espf r1 0 a5).bind fun r8 => some (r8.1, esrf, r8.2.1, r8.2.2, esas, esaf))
abbrev wk_X5_handleLetter : List Cond := Cond.code yX5_handleLetter cX5_handleLetter 9 (some .int) :: WB
abbrev rm_X5_handleLetter : Room := { frames := 5, cells := 0, slots := 0, locals := 125 }
set_option maxHeartbeats 4000000 in
set_option maxRecDepth 100000 in
theorem c_X5_handleLetter (l : Launch) (D : va_G) (k : Nat → Nat) (zq es yh tx gp gq esz esr esk esf esa esp est esrc esfc esac : Nat) (b0 : Int32) (b1 : Int32) (b2 : Int32) (estm : Int32) (eszo : Nat → Int32) (esrs : Int32) (esrf : Nat → Int32) (esfs : Int32) (esff : Nat → Int32) (esas : Int32) (esaf : Nat → Int32) (espf : Nat → Int32) (a1 : Int32) (a2 : Int32) (a3 : Int32) (a4 : Int32) (a5 : Int32) (fu : Nat) {res : Int32 × (Nat → Int32) × Int32 × (Nat → Int32) × Int32 × (Nat → Int32)} (h : f_X5_handleLetter fu estm eszo esrs esrf esfs esff esas esaf espf a1 a2 a3 a4 a5 = some res) : Ci l yX5_handleLetter wk_X5_handleLetter rm_X5_handleLetter D k [.ref zq, .int a1, .int a2, .int a3, .int a4, .int a5] [(zq, .inr (5, [.ref es, .ref yh, .ref tx, .ref gp, .ref gq, .int b0, .int b1, .int b2])), (es, .inr (2, [.ref esz, .ref esr, .ref esk, .ref esf, .ref esa, .ref esp, .ref est, .int estm])), (esz, .inl (k 0, 32, .inl eszo)), (esr, .inr (3, [.int 12, .int 11, .ref esrc, .int esrs])), (esrc, .inl (k 0, 132, .inl esrf)), (esf, .inr (3, [.int 8, .int 7, .ref esfc, .int esfs])), (esfc, .inl (k 0, 56, .inl esff)), (esa, .inr (3, [.int 6, .int 5, .ref esac, .int esas])), (esac, .inl (k 0, 30, .inl esaf)), (esp, .inl (k 0, 7, .inl espf))] [(zq, .inr (5, [.ref es, .ref yh, .ref tx, .ref gp, .ref gq, .int b0, .int b1, .int b2])), (es, .inr (2, [.ref esz, .ref esr, .ref esk, .ref esf, .ref esa, .ref esp, .ref est, .int estm])), (esz, .inl (k 0, 32, .inl eszo)), (esr, .inr (3, [.int 12, .int 11, .ref esrc, .int esrs])), (esrc, .inl (k 0, 132, .inl res.2.1)), (esf, .inr (3, [.int 8, .int 7, .ref esfc, .int res.2.2.1])), (esfc, .inl (k 0, 56, .inl res.2.2.2.1)), (esa, .inr (3, [.int 6, .int 5, .ref esac, .int res.2.2.2.2.1])), (esac, .inl (k 0, 30, .inl res.2.2.2.2.2)), (esp, .inl (k 0, 7, .inl espf))] res.1 := by
  unfold Ci
  intro sz
  refine Met.ofW (cc := cX5_handleLetter) (maxL := 9) (ret := (some .int)) (by decide) rfl ?_
  intro p e s m args below meth c s₁ B hml hv
  obtain ⟨rfl, hsz, hP, hK, hD0, hm⟩ := hv
  have hx := B.exec
  have hb := B.bytes
  have hr := B.returns
  have ht : ∀ w ∈ WB, w.before _ s = true := fun w hw => atoms_spec (ws := wk_X5_handleLetter) B.pre w (List.mem_cons_of_mem _ hw)
  have hown : s.vm.findClass RX5 = some m.cls := findClass_of_methodNamed B.named
  have hlocks := B.notSynchronized
  subst hsz
  have hD := hD0.self (sz := s.heap.size)
  generalize hAe : va_A [(zq, .inr (5, [.ref es, .ref yh, .ref tx, .ref gp, .ref gq, .int b0, .int b1, .int b2])), (es, .inr (2, [.ref esz, .ref esr, .ref esk, .ref esf, .ref esa, .ref esp, .ref est, .int estm])), (esz, .inl (k 0, 32, .inl eszo)), (esr, .inr (3, [.int 12, .int 11, .ref esrc, .int esrs])), (esrc, .inl (k 0, 132, .inl esrf)), (esf, .inr (3, [.int 8, .int 7, .ref esfc, .int esfs])), (esfc, .inl (k 0, 56, .inl esff)), (esa, .inr (3, [.int 6, .int 5, .ref esac, .int esas])), (esac, .inl (k 0, 30, .inl esaf)), (esp, .inl (k 0, 7, .inl espf))] s.heap.size = A at hD hm ⊢
  have hA : ∀ q : Nat, s.heap.size ≤ q → A q := fun q h => by rw [← hAe]; exact Or.inr h
  have hS : va_S A s.heap s.heap [] := va_S.rf
  have hl := lv_entry ([.ref zq, .int a1, .int a2, .int a3, .int a4, .int a5]) (n := 9) (Nat.le_of_ble_eq_true rfl)
  rw [lg_entry_eq]
  generalize (lg_sl ([.ref zq, .int a1, .int a2, .int a3, .int a4, .int a5]) ++ List.replicate (9 - (lg_sl ([.ref zq, .int a1, .int a2, .int a3, .int a4, .int a5])).length) Slot.unset).toArray = ls at hl ⊢
  have hl : lv_has ls 9 [(0, .ref zq), (1, .int a1), (2, .int a2), (3, .int a3), (4, .int a4), (5, .int a5)] := hl
  obtain ⟨H, hH⟩ : ∃ H, H = s.heap := ⟨_, rfl⟩
  rw [← hH] at hP
  have hS : va_S A s.heap H [] := by rw [hH]; exact hS
  suffices hgo : W p l e _ s m _ below meth c H [] 0 0 _ _ by rw [hH] at hgo; exact hgo
  unfold f_X5_handleLetter at h
  refine lv_aload_n hx hb dX5_handleLetter_0 rfl (lv_at hl 0 rfl) ?_
  refine va_get (D := D) (ci := 5) (v := .ref es) (C := RX5) (T := TX5) (N := 8) hx hb ht hiX5 hown hK hP 0 rfl rfl 0 (by decide) (ht _ wb239) (fun _ h9 => h9) rfl dX5_handleLetter_1 ?_
  refine va_getN (D := D) (ci := 2) (v := .ref esf) (C := RX2) (T := TX2) (N := 8) hx hb ht hiX2 hown hK hP 1 rfl rfl 3 (by decide) (va_Nw.use rfl (hm.1 _ (List.mem_of_getElem? (i := 4) rfl))) (fun _ h9 => h9) rfl dX5_handleLetter_4 ?_
  refine lv_iload_n hx hb dX5_handleLetter_7 rfl (lv_at hl 1 rfl) ?_
  refine lv_iload_n hx hb dX5_handleLetter_8 rfl (lv_at hl 2 rfl) ?_
  refine lv_iload_n hx hb dX5_handleLetter_9 rfl (lv_at hl 3 rfl) ?_
  refine lv_iload hx hb dX5_handleLetter_10 (lv_at hl 4 rfl) ?_
  obtain ⟨r1, h1, h⟩ := zb h
  refine zi (zrV (C := RX3) (T := TX3) (N := 4) (As := [.int a1, .int a2, .int a3, .int a4]) (rest := []) ⟨hx, hb, hml, hown, ht⟩ (c_X3_rowOfCase l D k esf esfc 8 7 esfs 56 esff a1 a2 a3 a4 fu h1 _) (cwV 4 ht (gdV wb518 wb519 wb520 wb74 wb521) rfl rfl rfl (by decide +kernel) ⟨Nat.le_of_ble_eq_true rfl, Nat.le_of_ble_eq_true rfl⟩) hK hP hD hS hA hm [5, 6] rfl rfl 5 3 rfl rfl rfl hl.1 rfl (Nat.le_of_ble_eq_true rfl) dX5_handleLetter_12 ⟨Nat.le_refl _, Nat.le_refl _⟩) hP hD hS hA [5, 6] rfl rfl (fun H locs hP hD hS => ?_)
  have hP : va_P D vwCl [(zq, .inr (5, [.ref es, .ref yh, .ref tx, .ref gp, .ref gq, .int b0, .int b1, .int b2])), (es, .inr (2, [.ref esz, .ref esr, .ref esk, .ref esf, .ref esa, .ref esp, .ref est, .int estm])), (esz, .inl (k 0, 32, .inl eszo)), (esr, .inr (3, [.int 12, .int 11, .ref esrc, .int esrs])), (esrc, .inl (k 0, 132, .inl esrf)), (esf, .inr (3, [.int 8, .int 7, .ref esfc, .int esfs])), (esfc, .inl (k 0, 56, .inl esff)), (esa, .inr (3, [.int 6, .int 5, .ref esac, .int esas])), (esac, .inl (k 0, 30, .inl esaf)), (esp, .inl (k 0, 7, .inl espf))] H := hP
  have hD : va_D A [(zq, .inr (5, [.ref es, .ref yh, .ref tx, .ref gp, .ref gq, .int b0, .int b1, .int b2])), (es, .inr (2, [.ref esz, .ref esr, .ref esk, .ref esf, .ref esa, .ref esp, .ref est, .int estm])), (esz, .inl (k 0, 32, .inl eszo)), (esr, .inr (3, [.int 12, .int 11, .ref esrc, .int esrs])), (esrc, .inl (k 0, 132, .inl esrf)), (esf, .inr (3, [.int 8, .int 7, .ref esfc, .int esfs])), (esfc, .inl (k 0, 56, .inl esff)), (esa, .inr (3, [.int 6, .int 5, .ref esac, .int esas])), (esac, .inl (k 0, 30, .inl esaf)), (esp, .inl (k 0, 7, .inl espf))] := hD
  refine lv_istore (lv' := [(6, .int r1), (0, .ref zq), (1, .int a1), (2, .int a2), (3, .int a3), (4, .int a4), (5, .int a5)]) hx hb dX5_handleLetter_15 hl (by decide) rfl (fun ls hl => ?_)
  refine lv_iload hx hb dX5_handleLetter_17 (lv_at hl 0 rfl) ?_
  refine lv_iconst (v := (-1)) hx hb dX5_handleLetter_19 (by decide) ?_
  refine lv_icmp_eq (tgt := 33) hx hb dX5_handleLetter_20 (by decide) (fun c7 => ?_) (fun c7 => ?_)
  · have h := zt h c7
    refine lv_aload_n hx hb dX5_handleLetter_33 rfl (lv_at hl 1 rfl) ?_
    refine va_get (D := D) (ci := 5) (v := .ref es) (C := RX5) (T := TX5) (N := 8) hx hb ht hiX5 hown hK hP 0 rfl rfl 0 (by decide) (ht _ wb239) (fun _ h9 => h9) rfl dX5_handleLetter_34 ?_
    refine va_getN (D := D) (ci := 2) (v := .ref esf) (C := RX2) (T := TX2) (N := 8) hx hb ht hiX2 hown hK hP 1 rfl rfl 3 (by decide) (va_Nw.use rfl (hm.1 _ (List.mem_of_getElem? (i := 4) rfl))) (fun _ h9 => h9) rfl dX5_handleLetter_37 ?_
    refine lv_iload_n hx hb dX5_handleLetter_40 rfl (lv_at hl 3 rfl) ?_
    refine lv_iload_n hx hb dX5_handleLetter_41 rfl (lv_at hl 2 rfl) ?_
    refine lv_iload_n hx hb dX5_handleLetter_42 rfl (lv_at hl 4 rfl) ?_
    refine lv_iload hx hb dX5_handleLetter_43 (lv_at hl 5 rfl) ?_
    obtain ⟨r2, h2, h⟩ := zb h
    refine zi (zrV (C := RX3) (T := TX3) (N := 4) (As := [.int a2, .int a1, .int a3, .int a4]) (rest := []) ⟨hx, hb, hml, hown, ht⟩ (c_X3_rowOfCase l D k esf esfc 8 7 esfs 56 esff a2 a1 a3 a4 fu h2 _) (cwV 4 ht (gdV wb518 wb519 wb520 wb74 wb521) rfl rfl rfl (by decide +kernel) ⟨Nat.le_of_ble_eq_true rfl, Nat.le_of_ble_eq_true rfl⟩) hK hP hD hS hA hm [5, 6] rfl rfl 5 3 rfl rfl rfl hl.1 rfl (Nat.le_of_ble_eq_true rfl) dX5_handleLetter_45 ⟨Nat.le_refl _, Nat.le_refl _⟩) hP hD hS hA [5, 6] rfl rfl (fun H locs hP hD hS => ?_)
    have hP : va_P D vwCl [(zq, .inr (5, [.ref es, .ref yh, .ref tx, .ref gp, .ref gq, .int b0, .int b1, .int b2])), (es, .inr (2, [.ref esz, .ref esr, .ref esk, .ref esf, .ref esa, .ref esp, .ref est, .int estm])), (esz, .inl (k 0, 32, .inl eszo)), (esr, .inr (3, [.int 12, .int 11, .ref esrc, .int esrs])), (esrc, .inl (k 0, 132, .inl esrf)), (esf, .inr (3, [.int 8, .int 7, .ref esfc, .int esfs])), (esfc, .inl (k 0, 56, .inl esff)), (esa, .inr (3, [.int 6, .int 5, .ref esac, .int esas])), (esac, .inl (k 0, 30, .inl esaf)), (esp, .inl (k 0, 7, .inl espf))] H := hP
    have hD : va_D A [(zq, .inr (5, [.ref es, .ref yh, .ref tx, .ref gp, .ref gq, .int b0, .int b1, .int b2])), (es, .inr (2, [.ref esz, .ref esr, .ref esk, .ref esf, .ref esa, .ref esp, .ref est, .int estm])), (esz, .inl (k 0, 32, .inl eszo)), (esr, .inr (3, [.int 12, .int 11, .ref esrc, .int esrs])), (esrc, .inl (k 0, 132, .inl esrf)), (esf, .inr (3, [.int 8, .int 7, .ref esfc, .int esfs])), (esfc, .inl (k 0, 56, .inl esff)), (esa, .inr (3, [.int 6, .int 5, .ref esac, .int esas])), (esac, .inl (k 0, 30, .inl esaf)), (esp, .inl (k 0, 7, .inl espf))] := hD
    refine lv_istore (lv' := [(7, .int r2), (6, .int r1), (0, .ref zq), (1, .int a1), (2, .int a2), (3, .int a3), (4, .int a4), (5, .int a5)]) hx hb dX5_handleLetter_48 hl (by decide) rfl (fun ls hl => ?_)
    refine lv_iload hx hb dX5_handleLetter_50 (lv_at hl 0 rfl) ?_
    refine lv_iconst (v := (-1)) hx hb dX5_handleLetter_52 (by decide) ?_
    refine lv_icmp_eq (tgt := 66) hx hb dX5_handleLetter_53 (by decide) (fun c6 => ?_) (fun c6 => ?_)
    · have h := zt h c6
      refine lv_iload hx hb dX5_handleLetter_66 (lv_at hl 7 rfl) ?_
      refine lv_iload hx hb dX5_handleLetter_68 (lv_at hl 6 rfl) ?_
      refine lv_if_ne (tgt := 77) hx hb dX5_handleLetter_70 (by decide) (fun c5 => ?_) (fun c5 => ?_)
      · have h := zf h c5
        refine lv_iconst (v := 2) hx hb dX5_handleLetter_77 (by decide) ?_
        refine lv_icmp_eq (tgt := 83) hx hb dX5_handleLetter_78 (by decide) (fun c2 => ?_) (fun c2 => ?_)
        · have h := zt h c2
          refine lv_aload_n hx hb dX5_handleLetter_83 rfl (lv_at hl 2 rfl) ?_
          refine lv_iload_n hx hb dX5_handleLetter_84 rfl (lv_at hl 3 rfl) ?_
          refine lv_iload_n hx hb dX5_handleLetter_85 rfl (lv_at hl 4 rfl) ?_
          refine lv_iload_n hx hb dX5_handleLetter_86 rfl (lv_at hl 5 rfl) ?_
          refine lv_iload hx hb dX5_handleLetter_87 (lv_at hl 6 rfl) ?_
          obtain ⟨r3, h3, h⟩ := zb h
          refine zi (zrV (C := RX5) (T := TX5) (N := 8) (As := [.int a1, .int a2, .int a3, .int a4]) (rest := []) ⟨hx, hb, hml, hown, ht⟩ (c_X5_askForFlow l D k zq es yh tx gp gq esz esr esk esf esa esp est esrc esac b0 b1 b2 estm eszo esrs esrf esas esaf a1 a2 a3 a4 fu h3 _) (cwV 4 ht (gdV wb534 wb536 wb14 wb72 wb537) rfl rfl rfl (by decide +kernel) ⟨Nat.le_of_ble_eq_true rfl, Nat.le_of_ble_eq_true rfl⟩) hK hP hD hS hA hm [0, 1, 2, 3, 4, 7, 8] rfl rfl 0 5 rfl rfl rfl hl.1 rfl (Nat.le_of_ble_eq_true rfl) dX5_handleLetter_89 ⟨Nat.le_refl _, Nat.le_refl _⟩) hP hD hS hA [0, 1, 2, 3, 4, 7, 8] rfl rfl (fun H locs hP hD hS => ?_)
          have hP : va_P D vwCl [(zq, .inr (5, [.ref es, .ref yh, .ref tx, .ref gp, .ref gq, .int b0, .int b1, .int b2])), (es, .inr (2, [.ref esz, .ref esr, .ref esk, .ref esf, .ref esa, .ref esp, .ref est, .int estm])), (esz, .inl (k 0, 32, .inl eszo)), (esr, .inr (3, [.int 12, .int 11, .ref esrc, .int esrs])), (esrc, .inl (k 0, 132, .inl r3.2.1)), (esf, .inr (3, [.int 8, .int 7, .ref esfc, .int esfs])), (esfc, .inl (k 0, 56, .inl esff)), (esa, .inr (3, [.int 6, .int 5, .ref esac, .int r3.2.2.1])), (esac, .inl (k 0, 30, .inl r3.2.2.2)), (esp, .inl (k 0, 7, .inl espf))] H := hP
          have hD : va_D A [(zq, .inr (5, [.ref es, .ref yh, .ref tx, .ref gp, .ref gq, .int b0, .int b1, .int b2])), (es, .inr (2, [.ref esz, .ref esr, .ref esk, .ref esf, .ref esa, .ref esp, .ref est, .int estm])), (esz, .inl (k 0, 32, .inl eszo)), (esr, .inr (3, [.int 12, .int 11, .ref esrc, .int esrs])), (esrc, .inl (k 0, 132, .inl r3.2.1)), (esf, .inr (3, [.int 8, .int 7, .ref esfc, .int esfs])), (esfc, .inl (k 0, 56, .inl esff)), (esa, .inr (3, [.int 6, .int 5, .ref esac, .int r3.2.2.1])), (esac, .inl (k 0, 30, .inl r3.2.2.2)), (esp, .inl (k 0, 7, .inl espf))] := hD
          refine lv_istore (lv' := [(8, .int r3.1), (7, .int r2), (6, .int r1), (0, .ref zq), (1, .int a1), (2, .int a2), (3, .int a3), (4, .int a4), (5, .int a5)]) hx hb dX5_handleLetter_92 hl (by decide) rfl (fun ls hl => ?_)
          refine lv_iload hx hb dX5_handleLetter_94 (lv_at hl 0 rfl) ?_
          refine lv_iconst (v := 1) hx hb dX5_handleLetter_96 (by decide) ?_
          refine lv_icmp_ne (tgt := 112) hx hb dX5_handleLetter_97 (by decide) (fun c1 => ?_) (fun c1 => ?_)
          · have h := zf h c1
            refine lv_iload hx hb dX5_handleLetter_112 (lv_at hl 0 rfl) ?_
            obtain rfl := Option.some.inj h
            exact W.iret (v := r3.1) hx hb hr (fun t ht9 hW => ⟨⟨_, (), rfl, rfl, zend ht9 hP⟩, hS.F ht9⟩) hS.2.2 dX5_handleLetter_114
          · have h := zt h c1
            refine lv_aload_n hx hb dX5_handleLetter_100 rfl (lv_at hl 3 rfl) ?_
            refine lv_iload_n hx hb dX5_handleLetter_101 rfl (lv_at hl 4 rfl) ?_
            refine lv_iload_n hx hb dX5_handleLetter_102 rfl (lv_at hl 5 rfl) ?_
            refine lv_iload_n hx hb dX5_handleLetter_103 rfl (lv_at hl 6 rfl) ?_
            refine lv_iload hx hb dX5_handleLetter_104 (lv_at hl 7 rfl) ?_
            obtain ⟨r4, h4, h⟩ := zb h
            refine zi (zrV (C := RX5) (T := TX5) (N := 8) (As := [.int a1, .int a2, .int a3, .int a4]) (rest := []) ⟨hx, hb, hml, hown, ht⟩ (c_X5_openFlow l D k zq es yh tx gp gq esz esr esk esf esa esp est esfc b0 b1 b2 estm esfs esff espf a1 a2 a3 a4 fu h4 _) (cwV 4 ht (gdV wb538 wb540 wb15 wb72 wb541) rfl rfl rfl (by decide +kernel) ⟨Nat.le_of_ble_eq_true rfl, Nat.le_of_ble_eq_true rfl⟩) hK hP hD hS hA hm [0, 1, 5, 6, 9] rfl rfl 0 5 rfl rfl rfl hl.1 rfl (Nat.le_of_ble_eq_true rfl) dX5_handleLetter_106 ⟨Nat.le_refl _, Nat.le_refl _⟩) hP hD hS hA [0, 1, 5, 6, 9] rfl rfl (fun H locs hP hD hS => ?_)
            have hP : va_P D vwCl [(zq, .inr (5, [.ref es, .ref yh, .ref tx, .ref gp, .ref gq, .int b0, .int b1, .int b2])), (es, .inr (2, [.ref esz, .ref esr, .ref esk, .ref esf, .ref esa, .ref esp, .ref est, .int estm])), (esz, .inl (k 0, 32, .inl eszo)), (esr, .inr (3, [.int 12, .int 11, .ref esrc, .int esrs])), (esrc, .inl (k 0, 132, .inl r3.2.1)), (esf, .inr (3, [.int 8, .int 7, .ref esfc, .int r4.2.1])), (esfc, .inl (k 0, 56, .inl r4.2.2)), (esa, .inr (3, [.int 6, .int 5, .ref esac, .int r3.2.2.1])), (esac, .inl (k 0, 30, .inl r3.2.2.2)), (esp, .inl (k 0, 7, .inl espf))] H := hP
            have hD : va_D A [(zq, .inr (5, [.ref es, .ref yh, .ref tx, .ref gp, .ref gq, .int b0, .int b1, .int b2])), (es, .inr (2, [.ref esz, .ref esr, .ref esk, .ref esf, .ref esa, .ref esp, .ref est, .int estm])), (esz, .inl (k 0, 32, .inl eszo)), (esr, .inr (3, [.int 12, .int 11, .ref esrc, .int esrs])), (esrc, .inl (k 0, 132, .inl r3.2.1)), (esf, .inr (3, [.int 8, .int 7, .ref esfc, .int r4.2.1])), (esfc, .inl (k 0, 56, .inl r4.2.2)), (esa, .inr (3, [.int 6, .int 5, .ref esac, .int r3.2.2.1])), (esac, .inl (k 0, 30, .inl r3.2.2.2)), (esp, .inl (k 0, 7, .inl espf))] := hD
            refine lv_goto (tgt := 114) hx hb dX5_handleLetter_109 (by decide) ?_
            obtain rfl := Option.some.inj h
            exact W.iret (v := r4.1) hx hb hr (fun t ht9 hW => ⟨⟨_, (), rfl, rfl, zend ht9 hP⟩, hS.F ht9⟩) hS.2.2 dX5_handleLetter_114
        · have h := zf h c2
          refine lv_iconst (v := 3) hx hb dX5_handleLetter_81 (by decide) ?_
          obtain rfl := Option.some.inj h
          exact W.iret (v := 3) hx hb hr (fun t ht9 hW => ⟨⟨_, (), rfl, rfl, zend ht9 hP⟩, hS.F ht9⟩) hS.2.2 dX5_handleLetter_82
      · have h := zt h c5
        refine lv_iconst (v := 0) hx hb dX5_handleLetter_73 (by decide) ?_
        refine lv_goto (tgt := 78) hx hb dX5_handleLetter_74 (by decide) ?_
        refine lv_icmp_eq (tgt := 83) hx hb dX5_handleLetter_78 (by decide) (fun c4 => ?_) (fun c4 => ?_)
        · have h := zt h c4
          refine lv_aload_n hx hb dX5_handleLetter_83 rfl (lv_at hl 2 rfl) ?_
          refine lv_iload_n hx hb dX5_handleLetter_84 rfl (lv_at hl 3 rfl) ?_
          refine lv_iload_n hx hb dX5_handleLetter_85 rfl (lv_at hl 4 rfl) ?_
          refine lv_iload_n hx hb dX5_handleLetter_86 rfl (lv_at hl 5 rfl) ?_
          refine lv_iload hx hb dX5_handleLetter_87 (lv_at hl 6 rfl) ?_
          obtain ⟨r5, h5, h⟩ := zb h
          refine zi (zrV (C := RX5) (T := TX5) (N := 8) (As := [.int a1, .int a2, .int a3, .int a4]) (rest := []) ⟨hx, hb, hml, hown, ht⟩ (c_X5_askForFlow l D k zq es yh tx gp gq esz esr esk esf esa esp est esrc esac b0 b1 b2 estm eszo esrs esrf esas esaf a1 a2 a3 a4 fu h5 _) (cwV 4 ht (gdV wb534 wb536 wb14 wb72 wb537) rfl rfl rfl (by decide +kernel) ⟨Nat.le_of_ble_eq_true rfl, Nat.le_of_ble_eq_true rfl⟩) hK hP hD hS hA hm [0, 1, 2, 3, 4, 7, 8] rfl rfl 0 5 rfl rfl rfl hl.1 rfl (Nat.le_of_ble_eq_true rfl) dX5_handleLetter_89 ⟨Nat.le_refl _, Nat.le_refl _⟩) hP hD hS hA [0, 1, 2, 3, 4, 7, 8] rfl rfl (fun H locs hP hD hS => ?_)
          have hP : va_P D vwCl [(zq, .inr (5, [.ref es, .ref yh, .ref tx, .ref gp, .ref gq, .int b0, .int b1, .int b2])), (es, .inr (2, [.ref esz, .ref esr, .ref esk, .ref esf, .ref esa, .ref esp, .ref est, .int estm])), (esz, .inl (k 0, 32, .inl eszo)), (esr, .inr (3, [.int 12, .int 11, .ref esrc, .int esrs])), (esrc, .inl (k 0, 132, .inl r5.2.1)), (esf, .inr (3, [.int 8, .int 7, .ref esfc, .int esfs])), (esfc, .inl (k 0, 56, .inl esff)), (esa, .inr (3, [.int 6, .int 5, .ref esac, .int r5.2.2.1])), (esac, .inl (k 0, 30, .inl r5.2.2.2)), (esp, .inl (k 0, 7, .inl espf))] H := hP
          have hD : va_D A [(zq, .inr (5, [.ref es, .ref yh, .ref tx, .ref gp, .ref gq, .int b0, .int b1, .int b2])), (es, .inr (2, [.ref esz, .ref esr, .ref esk, .ref esf, .ref esa, .ref esp, .ref est, .int estm])), (esz, .inl (k 0, 32, .inl eszo)), (esr, .inr (3, [.int 12, .int 11, .ref esrc, .int esrs])), (esrc, .inl (k 0, 132, .inl r5.2.1)), (esf, .inr (3, [.int 8, .int 7, .ref esfc, .int esfs])), (esfc, .inl (k 0, 56, .inl esff)), (esa, .inr (3, [.int 6, .int 5, .ref esac, .int r5.2.2.1])), (esac, .inl (k 0, 30, .inl r5.2.2.2)), (esp, .inl (k 0, 7, .inl espf))] := hD
          refine lv_istore (lv' := [(8, .int r5.1), (7, .int r2), (6, .int r1), (0, .ref zq), (1, .int a1), (2, .int a2), (3, .int a3), (4, .int a4), (5, .int a5)]) hx hb dX5_handleLetter_92 hl (by decide) rfl (fun ls hl => ?_)
          refine lv_iload hx hb dX5_handleLetter_94 (lv_at hl 0 rfl) ?_
          refine lv_iconst (v := 1) hx hb dX5_handleLetter_96 (by decide) ?_
          refine lv_icmp_ne (tgt := 112) hx hb dX5_handleLetter_97 (by decide) (fun c3 => ?_) (fun c3 => ?_)
          · have h := zf h c3
            refine lv_iload hx hb dX5_handleLetter_112 (lv_at hl 0 rfl) ?_
            obtain rfl := Option.some.inj h
            exact W.iret (v := r5.1) hx hb hr (fun t ht9 hW => ⟨⟨_, (), rfl, rfl, zend ht9 hP⟩, hS.F ht9⟩) hS.2.2 dX5_handleLetter_114
          · have h := zt h c3
            refine lv_aload_n hx hb dX5_handleLetter_100 rfl (lv_at hl 3 rfl) ?_
            refine lv_iload_n hx hb dX5_handleLetter_101 rfl (lv_at hl 4 rfl) ?_
            refine lv_iload_n hx hb dX5_handleLetter_102 rfl (lv_at hl 5 rfl) ?_
            refine lv_iload_n hx hb dX5_handleLetter_103 rfl (lv_at hl 6 rfl) ?_
            refine lv_iload hx hb dX5_handleLetter_104 (lv_at hl 7 rfl) ?_
            obtain ⟨r6, h6, h⟩ := zb h
            refine zi (zrV (C := RX5) (T := TX5) (N := 8) (As := [.int a1, .int a2, .int a3, .int a4]) (rest := []) ⟨hx, hb, hml, hown, ht⟩ (c_X5_openFlow l D k zq es yh tx gp gq esz esr esk esf esa esp est esfc b0 b1 b2 estm esfs esff espf a1 a2 a3 a4 fu h6 _) (cwV 4 ht (gdV wb538 wb540 wb15 wb72 wb541) rfl rfl rfl (by decide +kernel) ⟨Nat.le_of_ble_eq_true rfl, Nat.le_of_ble_eq_true rfl⟩) hK hP hD hS hA hm [0, 1, 5, 6, 9] rfl rfl 0 5 rfl rfl rfl hl.1 rfl (Nat.le_of_ble_eq_true rfl) dX5_handleLetter_106 ⟨Nat.le_refl _, Nat.le_refl _⟩) hP hD hS hA [0, 1, 5, 6, 9] rfl rfl (fun H locs hP hD hS => ?_)
            have hP : va_P D vwCl [(zq, .inr (5, [.ref es, .ref yh, .ref tx, .ref gp, .ref gq, .int b0, .int b1, .int b2])), (es, .inr (2, [.ref esz, .ref esr, .ref esk, .ref esf, .ref esa, .ref esp, .ref est, .int estm])), (esz, .inl (k 0, 32, .inl eszo)), (esr, .inr (3, [.int 12, .int 11, .ref esrc, .int esrs])), (esrc, .inl (k 0, 132, .inl r5.2.1)), (esf, .inr (3, [.int 8, .int 7, .ref esfc, .int r6.2.1])), (esfc, .inl (k 0, 56, .inl r6.2.2)), (esa, .inr (3, [.int 6, .int 5, .ref esac, .int r5.2.2.1])), (esac, .inl (k 0, 30, .inl r5.2.2.2)), (esp, .inl (k 0, 7, .inl espf))] H := hP
            have hD : va_D A [(zq, .inr (5, [.ref es, .ref yh, .ref tx, .ref gp, .ref gq, .int b0, .int b1, .int b2])), (es, .inr (2, [.ref esz, .ref esr, .ref esk, .ref esf, .ref esa, .ref esp, .ref est, .int estm])), (esz, .inl (k 0, 32, .inl eszo)), (esr, .inr (3, [.int 12, .int 11, .ref esrc, .int esrs])), (esrc, .inl (k 0, 132, .inl r5.2.1)), (esf, .inr (3, [.int 8, .int 7, .ref esfc, .int r6.2.1])), (esfc, .inl (k 0, 56, .inl r6.2.2)), (esa, .inr (3, [.int 6, .int 5, .ref esac, .int r5.2.2.1])), (esac, .inl (k 0, 30, .inl r5.2.2.2)), (esp, .inl (k 0, 7, .inl espf))] := hD
            refine lv_goto (tgt := 114) hx hb dX5_handleLetter_109 (by decide) ?_
            obtain rfl := Option.some.inj h
            exact W.iret (v := r6.1) hx hb hr (fun t ht9 hW => ⟨⟨_, (), rfl, rfl, zend ht9 hP⟩, hS.F ht9⟩) hS.2.2 dX5_handleLetter_114
        · have h := zf h c4
          refine lv_iconst (v := 3) hx hb dX5_handleLetter_81 (by decide) ?_
          obtain rfl := Option.some.inj h
          exact W.iret (v := 3) hx hb hr (fun t ht9 hW => ⟨⟨_, (), rfl, rfl, zend ht9 hP⟩, hS.F ht9⟩) hS.2.2 dX5_handleLetter_82
    · have h := zf h c6
      refine lv_aload_n hx hb dX5_handleLetter_56 rfl (lv_at hl 2 rfl) ?_
      refine lv_iload hx hb dX5_handleLetter_57 (lv_at hl 0 rfl) ?_
      refine lv_iconst (v := 1) hx hb dX5_handleLetter_59 (by decide) ?_
      refine lv_iload hx hb dX5_handleLetter_60 (lv_at hl 7 rfl) ?_
      obtain ⟨r7, h7, h⟩ := zb h
      refine zi (zrV (C := RX5) (T := TX5) (N := 8) (As := [.int r2, .int 1, .int a5]) (rest := []) ⟨hx, hb, hml, hown, ht⟩ (c_X5_continueFlow l D k zq es yh tx gp gq esz esr esk esf esa esp est esfc b0 b1 b2 estm esfs esff espf r2 1 a5 h7 _) (cwV 3 ht (gdV wb522 wb524 wb13 wb72 wb525) rfl rfl rfl (by decide +kernel) ⟨Nat.le_of_ble_eq_true rfl, Nat.le_of_ble_eq_true rfl⟩) hK hP hD hS hA hm [0, 1, 5, 6, 9] rfl rfl 0 5 rfl rfl rfl hl.1 rfl (Nat.le_of_ble_eq_true rfl) dX5_handleLetter_62 ⟨Nat.le_refl _, Nat.le_refl _⟩) hP hD hS hA [0, 1, 5, 6, 9] rfl rfl (fun H locs hP hD hS => ?_)
      have hP : va_P D vwCl [(zq, .inr (5, [.ref es, .ref yh, .ref tx, .ref gp, .ref gq, .int b0, .int b1, .int b2])), (es, .inr (2, [.ref esz, .ref esr, .ref esk, .ref esf, .ref esa, .ref esp, .ref est, .int estm])), (esz, .inl (k 0, 32, .inl eszo)), (esr, .inr (3, [.int 12, .int 11, .ref esrc, .int esrs])), (esrc, .inl (k 0, 132, .inl esrf)), (esf, .inr (3, [.int 8, .int 7, .ref esfc, .int r7.2.1])), (esfc, .inl (k 0, 56, .inl r7.2.2)), (esa, .inr (3, [.int 6, .int 5, .ref esac, .int esas])), (esac, .inl (k 0, 30, .inl esaf)), (esp, .inl (k 0, 7, .inl espf))] H := hP
      have hD : va_D A [(zq, .inr (5, [.ref es, .ref yh, .ref tx, .ref gp, .ref gq, .int b0, .int b1, .int b2])), (es, .inr (2, [.ref esz, .ref esr, .ref esk, .ref esf, .ref esa, .ref esp, .ref est, .int estm])), (esz, .inl (k 0, 32, .inl eszo)), (esr, .inr (3, [.int 12, .int 11, .ref esrc, .int esrs])), (esrc, .inl (k 0, 132, .inl esrf)), (esf, .inr (3, [.int 8, .int 7, .ref esfc, .int r7.2.1])), (esfc, .inl (k 0, 56, .inl r7.2.2)), (esa, .inr (3, [.int 6, .int 5, .ref esac, .int esas])), (esac, .inl (k 0, 30, .inl esaf)), (esp, .inl (k 0, 7, .inl espf))] := hD
      obtain rfl := Option.some.inj h
      exact W.iret (v := r7.1) hx hb hr (fun t ht9 hW => ⟨⟨_, (), rfl, rfl, zend ht9 hP⟩, hS.F ht9⟩) hS.2.2 dX5_handleLetter_65
  · have h := zf h c7
    refine lv_aload_n hx hb dX5_handleLetter_23 rfl (lv_at hl 1 rfl) ?_
    refine lv_iload hx hb dX5_handleLetter_24 (lv_at hl 0 rfl) ?_
    refine lv_iconst (v := 0) hx hb dX5_handleLetter_26 (by decide) ?_
    refine lv_iload hx hb dX5_handleLetter_27 (lv_at hl 6 rfl) ?_
    obtain ⟨r8, h8, h⟩ := zb h
    refine zi (zrV (C := RX5) (T := TX5) (N := 8) (As := [.int r1, .int 0, .int a5]) (rest := []) ⟨hx, hb, hml, hown, ht⟩ (c_X5_continueFlow l D k zq es yh tx gp gq esz esr esk esf esa esp est esfc b0 b1 b2 estm esfs esff espf r1 0 a5 h8 _) (cwV 3 ht (gdV wb522 wb524 wb13 wb72 wb525) rfl rfl rfl (by decide +kernel) ⟨Nat.le_of_ble_eq_true rfl, Nat.le_of_ble_eq_true rfl⟩) hK hP hD hS hA hm [0, 1, 5, 6, 9] rfl rfl 0 5 rfl rfl rfl hl.1 rfl (Nat.le_of_ble_eq_true rfl) dX5_handleLetter_29 ⟨Nat.le_refl _, Nat.le_refl _⟩) hP hD hS hA [0, 1, 5, 6, 9] rfl rfl (fun H locs hP hD hS => ?_)
    have hP : va_P D vwCl [(zq, .inr (5, [.ref es, .ref yh, .ref tx, .ref gp, .ref gq, .int b0, .int b1, .int b2])), (es, .inr (2, [.ref esz, .ref esr, .ref esk, .ref esf, .ref esa, .ref esp, .ref est, .int estm])), (esz, .inl (k 0, 32, .inl eszo)), (esr, .inr (3, [.int 12, .int 11, .ref esrc, .int esrs])), (esrc, .inl (k 0, 132, .inl esrf)), (esf, .inr (3, [.int 8, .int 7, .ref esfc, .int r8.2.1])), (esfc, .inl (k 0, 56, .inl r8.2.2)), (esa, .inr (3, [.int 6, .int 5, .ref esac, .int esas])), (esac, .inl (k 0, 30, .inl esaf)), (esp, .inl (k 0, 7, .inl espf))] H := hP
    have hD : va_D A [(zq, .inr (5, [.ref es, .ref yh, .ref tx, .ref gp, .ref gq, .int b0, .int b1, .int b2])), (es, .inr (2, [.ref esz, .ref esr, .ref esk, .ref esf, .ref esa, .ref esp, .ref est, .int estm])), (esz, .inl (k 0, 32, .inl eszo)), (esr, .inr (3, [.int 12, .int 11, .ref esrc, .int esrs])), (esrc, .inl (k 0, 132, .inl esrf)), (esf, .inr (3, [.int 8, .int 7, .ref esfc, .int r8.2.1])), (esfc, .inl (k 0, 56, .inl r8.2.2)), (esa, .inr (3, [.int 6, .int 5, .ref esac, .int esas])), (esac, .inl (k 0, 30, .inl esaf)), (esp, .inl (k 0, 7, .inl espf))] := hD
    obtain rfl := Option.some.inj h
    exact W.iret (v := r8.1) hx hb hr (fun t ht9 hW => ⟨⟨_, (), rfl, rfl, zend ht9 hP⟩, hS.F ht9⟩) hS.2.2 dX5_handleLetter_32
def f_X5_actionOfFlow (fu : Nat) (eszo : Nat → Int32) (esrs : Int32) (esrf : Nat → Int32) (esfs : Int32) (esff : Nat → Int32) (a1 : Int32) : Option (Int32) :=
  (f_X3_get 7 esfs 56 esff a1 0).bind fun r1 => (f_X3_get 7 esfs 56 esff a1 1).bind fun r2 => (f_X3_get 7 esfs 56 esff a1 2).bind fun r3 => (f_X3_get 7 esfs 56 esff a1 3).bind fun r4 => (f_X2_actionFor fu eszo 11 esrs 132 esrf r1 r2 r3 r4).bind fun r5 => some (r5)
abbrev wk_X5_actionOfFlow : List Cond := Cond.code yX5_actionOfFlow cX5_actionOfFlow 2 (some .int) :: WB
abbrev rm_X5_actionOfFlow : Room := { frames := 5, cells := 0, slots := 0, locals := 125 }
set_option maxHeartbeats 4000000 in
set_option maxRecDepth 100000 in
theorem c_X5_actionOfFlow (l : Launch) (D : va_G) (k : Nat → Nat) (zq es yh tx gp gq esz esr esk esf esa esp est esrc esfc : Nat) (b0 : Int32) (b1 : Int32) (b2 : Int32) (estm : Int32) (eszo : Nat → Int32) (esrs : Int32) (esrf : Nat → Int32) (esfs : Int32) (esff : Nat → Int32) (a1 : Int32) (fu : Nat) {res : Int32} (h : f_X5_actionOfFlow fu eszo esrs esrf esfs esff a1 = some res) : Ci l yX5_actionOfFlow wk_X5_actionOfFlow rm_X5_actionOfFlow D k [.ref zq, .int a1] [(zq, .inr (5, [.ref es, .ref yh, .ref tx, .ref gp, .ref gq, .int b0, .int b1, .int b2])), (es, .inr (2, [.ref esz, .ref esr, .ref esk, .ref esf, .ref esa, .ref esp, .ref est, .int estm])), (esz, .inl (k 0, 32, .inl eszo)), (esr, .inr (3, [.int 12, .int 11, .ref esrc, .int esrs])), (esrc, .inl (k 0, 132, .inl esrf)), (esf, .inr (3, [.int 8, .int 7, .ref esfc, .int esfs])), (esfc, .inl (k 0, 56, .inl esff))] [(zq, .inr (5, [.ref es, .ref yh, .ref tx, .ref gp, .ref gq, .int b0, .int b1, .int b2])), (es, .inr (2, [.ref esz, .ref esr, .ref esk, .ref esf, .ref esa, .ref esp, .ref est, .int estm])), (esz, .inl (k 0, 32, .inl eszo)), (esr, .inr (3, [.int 12, .int 11, .ref esrc, .int esrs])), (esrc, .inl (k 0, 132, .inl esrf)), (esf, .inr (3, [.int 8, .int 7, .ref esfc, .int esfs])), (esfc, .inl (k 0, 56, .inl esff))] res := by
  unfold Ci
  intro sz
  refine Met.ofW (cc := cX5_actionOfFlow) (maxL := 2) (ret := (some .int)) (by decide) rfl ?_
  intro p e s m args below meth c s₁ B hml hv
  obtain ⟨rfl, hsz, hP, hK, hD0, hm⟩ := hv
  have hx := B.exec
  have hb := B.bytes
  have hr := B.returns
  have ht : ∀ w ∈ WB, w.before _ s = true := fun w hw => atoms_spec (ws := wk_X5_actionOfFlow) B.pre w (List.mem_cons_of_mem _ hw)
  have hown : s.vm.findClass RX5 = some m.cls := findClass_of_methodNamed B.named
  have hlocks := B.notSynchronized
  subst hsz
  have hD := hD0.self (sz := s.heap.size)
  generalize hAe : va_A [(zq, .inr (5, [.ref es, .ref yh, .ref tx, .ref gp, .ref gq, .int b0, .int b1, .int b2])), (es, .inr (2, [.ref esz, .ref esr, .ref esk, .ref esf, .ref esa, .ref esp, .ref est, .int estm])), (esz, .inl (k 0, 32, .inl eszo)), (esr, .inr (3, [.int 12, .int 11, .ref esrc, .int esrs])), (esrc, .inl (k 0, 132, .inl esrf)), (esf, .inr (3, [.int 8, .int 7, .ref esfc, .int esfs])), (esfc, .inl (k 0, 56, .inl esff))] s.heap.size = A at hD hm ⊢
  have hA : ∀ q : Nat, s.heap.size ≤ q → A q := fun q h => by rw [← hAe]; exact Or.inr h
  have hS : va_S A s.heap s.heap [] := va_S.rf
  have hl := lv_entry ([.ref zq, .int a1]) (n := 2) (Nat.le_of_ble_eq_true rfl)
  rw [lg_entry_eq]
  generalize (lg_sl ([.ref zq, .int a1]) ++ List.replicate (2 - (lg_sl ([.ref zq, .int a1])).length) Slot.unset).toArray = ls at hl ⊢
  have hl : lv_has ls 2 [(0, .ref zq), (1, .int a1)] := hl
  obtain ⟨H, hH⟩ : ∃ H, H = s.heap := ⟨_, rfl⟩
  rw [← hH] at hP
  have hS : va_S A s.heap H [] := by rw [hH]; exact hS
  suffices hgo : W p l e _ s m _ below meth c H [] 0 0 _ _ by rw [hH] at hgo; exact hgo
  unfold f_X5_actionOfFlow at h
  refine lv_aload_n hx hb dX5_actionOfFlow_0 rfl (lv_at hl 0 rfl) ?_
  refine va_get (D := D) (ci := 5) (v := .ref es) (C := RX5) (T := TX5) (N := 8) hx hb ht hiX5 hown hK hP 0 rfl rfl 0 (by decide) (ht _ wb239) (fun _ h9 => h9) rfl dX5_actionOfFlow_1 ?_
  refine lv_aload_n hx hb dX5_actionOfFlow_4 rfl (lv_at hl 0 rfl) ?_
  refine va_get (D := D) (ci := 5) (v := .ref es) (C := RX5) (T := TX5) (N := 8) hx hb ht hiX5 hown hK hP 0 rfl rfl 0 (by decide) (ht _ wb239) (fun _ h9 => h9) rfl dX5_actionOfFlow_5 ?_
  refine va_getN (D := D) (ci := 2) (v := .ref esr) (C := RX2) (T := TX2) (N := 8) hx hb ht hiX2 hown hK hP 1 rfl rfl 1 (by decide) (va_Nw.use rfl (hm.1 _ (List.mem_of_getElem? (i := 2) rfl))) (fun _ h9 => h9) rfl dX5_actionOfFlow_8 ?_
  refine lv_aload_n hx hb dX5_actionOfFlow_11 rfl (lv_at hl 0 rfl) ?_
  refine va_get (D := D) (ci := 5) (v := .ref es) (C := RX5) (T := TX5) (N := 8) hx hb ht hiX5 hown hK hP 0 rfl rfl 0 (by decide) (ht _ wb239) (fun _ h9 => h9) rfl dX5_actionOfFlow_12 ?_
  refine va_getN (D := D) (ci := 2) (v := .ref esf) (C := RX2) (T := TX2) (N := 8) hx hb ht hiX2 hown hK hP 1 rfl rfl 3 (by decide) (va_Nw.use rfl (hm.1 _ (List.mem_of_getElem? (i := 4) rfl))) (fun _ h9 => h9) rfl dX5_actionOfFlow_15 ?_
  refine lv_iload_n hx hb dX5_actionOfFlow_18 rfl (lv_at hl 1 rfl) ?_
  refine lv_iconst (v := 0) hx hb dX5_actionOfFlow_19 (by decide) ?_
  obtain ⟨r1, h1, h⟩ := zb h
  refine zi (zrV (C := RX3) (T := TX3) (N := 4) (As := [.int a1, .int 0]) (rest := [.ref esr, .ref es]) ⟨hx, hb, hml, hown, ht⟩ (c_X3_get l D k esf esfc 8 7 esfs 56 esff a1 0 h1 _) (cwV 2 ht (gdV wb343 wb344 wb345 wb74 wb346) rfl rfl rfl (by decide +kernel) ⟨Nat.le_of_ble_eq_true rfl, Nat.le_of_ble_eq_true rfl⟩) hK hP hD hS hA hm [5, 6] rfl rfl 5 3 rfl rfl rfl hl.1 rfl (Nat.le_of_ble_eq_true rfl) dX5_actionOfFlow_20 ⟨Nat.le_refl _, Nat.le_refl _⟩) hP hD hS hA [5, 6] rfl rfl (fun H locs hP hD hS => ?_)
  have hP : va_P D vwCl [(zq, .inr (5, [.ref es, .ref yh, .ref tx, .ref gp, .ref gq, .int b0, .int b1, .int b2])), (es, .inr (2, [.ref esz, .ref esr, .ref esk, .ref esf, .ref esa, .ref esp, .ref est, .int estm])), (esz, .inl (k 0, 32, .inl eszo)), (esr, .inr (3, [.int 12, .int 11, .ref esrc, .int esrs])), (esrc, .inl (k 0, 132, .inl esrf)), (esf, .inr (3, [.int 8, .int 7, .ref esfc, .int esfs])), (esfc, .inl (k 0, 56, .inl esff))] H := hP
  have hD : va_D A [(zq, .inr (5, [.ref es, .ref yh, .ref tx, .ref gp, .ref gq, .int b0, .int b1, .int b2])), (es, .inr (2, [.ref esz, .ref esr, .ref esk, .ref esf, .ref esa, .ref esp, .ref est, .int estm])), (esz, .inl (k 0, 32, .inl eszo)), (esr, .inr (3, [.int 12, .int 11, .ref esrc, .int esrs])), (esrc, .inl (k 0, 132, .inl esrf)), (esf, .inr (3, [.int 8, .int 7, .ref esfc, .int esfs])), (esfc, .inl (k 0, 56, .inl esff))] := hD
  refine lv_aload_n hx hb dX5_actionOfFlow_23 rfl (lv_at hl 0 rfl) ?_
  refine va_get (D := D) (ci := 5) (v := .ref es) (C := RX5) (T := TX5) (N := 8) hx hb ht hiX5 hown hK hP 0 rfl rfl 0 (by decide) (ht _ wb239) (fun _ h9 => h9) rfl dX5_actionOfFlow_24 ?_
  refine va_getN (D := D) (ci := 2) (v := .ref esf) (C := RX2) (T := TX2) (N := 8) hx hb ht hiX2 hown hK hP 1 rfl rfl 3 (by decide) (va_Nw.use rfl (hm.1 _ (List.mem_of_getElem? (i := 4) rfl))) (fun _ h9 => h9) rfl dX5_actionOfFlow_27 ?_
  refine lv_iload_n hx hb dX5_actionOfFlow_30 rfl (lv_at hl 1 rfl) ?_
  refine lv_iconst (v := 1) hx hb dX5_actionOfFlow_31 (by decide) ?_
  obtain ⟨r2, h2, h⟩ := zb h
  refine zi (zrV (C := RX3) (T := TX3) (N := 4) (As := [.int a1, .int 1]) (rest := [.int r1, .ref esr, .ref es]) ⟨hx, hb, hml, hown, ht⟩ (c_X3_get l D k esf esfc 8 7 esfs 56 esff a1 1 h2 _) (cwV 2 ht (gdV wb343 wb344 wb345 wb74 wb346) rfl rfl rfl (by decide +kernel) ⟨Nat.le_of_ble_eq_true rfl, Nat.le_of_ble_eq_true rfl⟩) hK hP hD hS hA hm [5, 6] rfl rfl 5 3 rfl rfl rfl hl.1 rfl (Nat.le_of_ble_eq_true rfl) dX5_actionOfFlow_32 ⟨Nat.le_refl _, Nat.le_refl _⟩) hP hD hS hA [5, 6] rfl rfl (fun H locs hP hD hS => ?_)
  have hP : va_P D vwCl [(zq, .inr (5, [.ref es, .ref yh, .ref tx, .ref gp, .ref gq, .int b0, .int b1, .int b2])), (es, .inr (2, [.ref esz, .ref esr, .ref esk, .ref esf, .ref esa, .ref esp, .ref est, .int estm])), (esz, .inl (k 0, 32, .inl eszo)), (esr, .inr (3, [.int 12, .int 11, .ref esrc, .int esrs])), (esrc, .inl (k 0, 132, .inl esrf)), (esf, .inr (3, [.int 8, .int 7, .ref esfc, .int esfs])), (esfc, .inl (k 0, 56, .inl esff))] H := hP
  have hD : va_D A [(zq, .inr (5, [.ref es, .ref yh, .ref tx, .ref gp, .ref gq, .int b0, .int b1, .int b2])), (es, .inr (2, [.ref esz, .ref esr, .ref esk, .ref esf, .ref esa, .ref esp, .ref est, .int estm])), (esz, .inl (k 0, 32, .inl eszo)), (esr, .inr (3, [.int 12, .int 11, .ref esrc, .int esrs])), (esrc, .inl (k 0, 132, .inl esrf)), (esf, .inr (3, [.int 8, .int 7, .ref esfc, .int esfs])), (esfc, .inl (k 0, 56, .inl esff))] := hD
  refine lv_aload_n hx hb dX5_actionOfFlow_35 rfl (lv_at hl 0 rfl) ?_
  refine va_get (D := D) (ci := 5) (v := .ref es) (C := RX5) (T := TX5) (N := 8) hx hb ht hiX5 hown hK hP 0 rfl rfl 0 (by decide) (ht _ wb239) (fun _ h9 => h9) rfl dX5_actionOfFlow_36 ?_
  refine va_getN (D := D) (ci := 2) (v := .ref esf) (C := RX2) (T := TX2) (N := 8) hx hb ht hiX2 hown hK hP 1 rfl rfl 3 (by decide) (va_Nw.use rfl (hm.1 _ (List.mem_of_getElem? (i := 4) rfl))) (fun _ h9 => h9) rfl dX5_actionOfFlow_39 ?_
  refine lv_iload_n hx hb dX5_actionOfFlow_42 rfl (lv_at hl 1 rfl) ?_
  refine lv_iconst (v := 2) hx hb dX5_actionOfFlow_43 (by decide) ?_
  obtain ⟨r3, h3, h⟩ := zb h
  refine zi (zrV (C := RX3) (T := TX3) (N := 4) (As := [.int a1, .int 2]) (rest := [.int r2, .int r1, .ref esr, .ref es]) ⟨hx, hb, hml, hown, ht⟩ (c_X3_get l D k esf esfc 8 7 esfs 56 esff a1 2 h3 _) (cwV 2 ht (gdV wb343 wb344 wb345 wb74 wb346) rfl rfl rfl (by decide +kernel) ⟨Nat.le_of_ble_eq_true rfl, Nat.le_of_ble_eq_true rfl⟩) hK hP hD hS hA hm [5, 6] rfl rfl 5 3 rfl rfl rfl hl.1 rfl (Nat.le_of_ble_eq_true rfl) dX5_actionOfFlow_44 ⟨Nat.le_refl _, Nat.le_refl _⟩) hP hD hS hA [5, 6] rfl rfl (fun H locs hP hD hS => ?_)
  have hP : va_P D vwCl [(zq, .inr (5, [.ref es, .ref yh, .ref tx, .ref gp, .ref gq, .int b0, .int b1, .int b2])), (es, .inr (2, [.ref esz, .ref esr, .ref esk, .ref esf, .ref esa, .ref esp, .ref est, .int estm])), (esz, .inl (k 0, 32, .inl eszo)), (esr, .inr (3, [.int 12, .int 11, .ref esrc, .int esrs])), (esrc, .inl (k 0, 132, .inl esrf)), (esf, .inr (3, [.int 8, .int 7, .ref esfc, .int esfs])), (esfc, .inl (k 0, 56, .inl esff))] H := hP
  have hD : va_D A [(zq, .inr (5, [.ref es, .ref yh, .ref tx, .ref gp, .ref gq, .int b0, .int b1, .int b2])), (es, .inr (2, [.ref esz, .ref esr, .ref esk, .ref esf, .ref esa, .ref esp, .ref est, .int estm])), (esz, .inl (k 0, 32, .inl eszo)), (esr, .inr (3, [.int 12, .int 11, .ref esrc, .int esrs])), (esrc, .inl (k 0, 132, .inl esrf)), (esf, .inr (3, [.int 8, .int 7, .ref esfc, .int esfs])), (esfc, .inl (k 0, 56, .inl esff))] := hD
  refine lv_aload_n hx hb dX5_actionOfFlow_47 rfl (lv_at hl 0 rfl) ?_
  refine va_get (D := D) (ci := 5) (v := .ref es) (C := RX5) (T := TX5) (N := 8) hx hb ht hiX5 hown hK hP 0 rfl rfl 0 (by decide) (ht _ wb239) (fun _ h9 => h9) rfl dX5_actionOfFlow_48 ?_
  refine va_getN (D := D) (ci := 2) (v := .ref esf) (C := RX2) (T := TX2) (N := 8) hx hb ht hiX2 hown hK hP 1 rfl rfl 3 (by decide) (va_Nw.use rfl (hm.1 _ (List.mem_of_getElem? (i := 4) rfl))) (fun _ h9 => h9) rfl dX5_actionOfFlow_51 ?_
  refine lv_iload_n hx hb dX5_actionOfFlow_54 rfl (lv_at hl 1 rfl) ?_
  refine lv_iconst (v := 3) hx hb dX5_actionOfFlow_55 (by decide) ?_
  obtain ⟨r4, h4, h⟩ := zb h
  refine zi (zrV (C := RX3) (T := TX3) (N := 4) (As := [.int a1, .int 3]) (rest := [.int r3, .int r2, .int r1, .ref esr, .ref es]) ⟨hx, hb, hml, hown, ht⟩ (c_X3_get l D k esf esfc 8 7 esfs 56 esff a1 3 h4 _) (cwV 2 ht (gdV wb343 wb344 wb345 wb74 wb346) rfl rfl rfl (by decide +kernel) ⟨Nat.le_of_ble_eq_true rfl, Nat.le_of_ble_eq_true rfl⟩) hK hP hD hS hA hm [5, 6] rfl rfl 5 3 rfl rfl rfl hl.1 rfl (Nat.le_of_ble_eq_true rfl) dX5_actionOfFlow_56 ⟨Nat.le_refl _, Nat.le_refl _⟩) hP hD hS hA [5, 6] rfl rfl (fun H locs hP hD hS => ?_)
  have hP : va_P D vwCl [(zq, .inr (5, [.ref es, .ref yh, .ref tx, .ref gp, .ref gq, .int b0, .int b1, .int b2])), (es, .inr (2, [.ref esz, .ref esr, .ref esk, .ref esf, .ref esa, .ref esp, .ref est, .int estm])), (esz, .inl (k 0, 32, .inl eszo)), (esr, .inr (3, [.int 12, .int 11, .ref esrc, .int esrs])), (esrc, .inl (k 0, 132, .inl esrf)), (esf, .inr (3, [.int 8, .int 7, .ref esfc, .int esfs])), (esfc, .inl (k 0, 56, .inl esff))] H := hP
  have hD : va_D A [(zq, .inr (5, [.ref es, .ref yh, .ref tx, .ref gp, .ref gq, .int b0, .int b1, .int b2])), (es, .inr (2, [.ref esz, .ref esr, .ref esk, .ref esf, .ref esa, .ref esp, .ref est, .int estm])), (esz, .inl (k 0, 32, .inl eszo)), (esr, .inr (3, [.int 12, .int 11, .ref esrc, .int esrs])), (esrc, .inl (k 0, 132, .inl esrf)), (esf, .inr (3, [.int 8, .int 7, .ref esfc, .int esfs])), (esfc, .inl (k 0, 56, .inl esff))] := hD
  obtain ⟨r5, h5, h⟩ := zb h
  refine zi (zrV (C := RX2) (T := TX2) (N := 8) (As := [.ref esr, .int r1, .int r2, .int r3, .int r4]) (rest := []) ⟨hx, hb, hml, hown, ht⟩ (c_X2_actionFor l D k es esz esr esk esf esa esp est esr esrc estm eszo 12 11 esrs 132 esrf r1 r2 r3 r4 fu h5 _) (cwV 5 ht (gdV wb492 wb493 wb494 wb73 wb495) rfl rfl rfl (by decide +kernel) ⟨Nat.le_of_ble_eq_true rfl, Nat.le_of_ble_eq_true rfl⟩) hK hP hD hS hA hm [1, 2, 3, 4] rfl rfl 1 2 rfl rfl rfl hl.1 rfl (Nat.le_of_ble_eq_true rfl) dX5_actionOfFlow_59 ⟨Nat.le_refl _, Nat.le_refl _⟩) hP hD hS hA [1, 2, 3, 4] rfl rfl (fun H locs hP hD hS => ?_)
  have hP : va_P D vwCl [(zq, .inr (5, [.ref es, .ref yh, .ref tx, .ref gp, .ref gq, .int b0, .int b1, .int b2])), (es, .inr (2, [.ref esz, .ref esr, .ref esk, .ref esf, .ref esa, .ref esp, .ref est, .int estm])), (esz, .inl (k 0, 32, .inl eszo)), (esr, .inr (3, [.int 12, .int 11, .ref esrc, .int esrs])), (esrc, .inl (k 0, 132, .inl esrf)), (esf, .inr (3, [.int 8, .int 7, .ref esfc, .int esfs])), (esfc, .inl (k 0, 56, .inl esff))] H := hP
  have hD : va_D A [(zq, .inr (5, [.ref es, .ref yh, .ref tx, .ref gp, .ref gq, .int b0, .int b1, .int b2])), (es, .inr (2, [.ref esz, .ref esr, .ref esk, .ref esf, .ref esa, .ref esp, .ref est, .int estm])), (esz, .inl (k 0, 32, .inl eszo)), (esr, .inr (3, [.int 12, .int 11, .ref esrc, .int esrs])), (esrc, .inl (k 0, 132, .inl esrf)), (esf, .inr (3, [.int 8, .int 7, .ref esfc, .int esfs])), (esfc, .inl (k 0, 56, .inl esff))] := hD
  obtain rfl := Option.some.inj h
  exact W.iret (v := r5) hx hb hr (fun t ht9 hW => ⟨⟨_, (), rfl, rfl, zend ht9 hP⟩, hS.F ht9⟩) hS.2.2 dX5_actionOfFlow_62
def f_X5_removeOver_L10 (fu : Nat) (K : Int32 → Int32 → (Nat → Int32) → Option (Int32 × Int32 × (Nat → Int32))) (v2 : Int32) (estm : Int32) (tw : Int32) (tn : Nat) : Nat → Int32 → Int32 → (Nat → Int32) → Option (Int32 × Int32 × (Nat → Int32))
  | 0, _, _, _ => none
  | n + 1, v4, ts, tf =>
  if v4 < 0 then (K v4 ts tf) else ((f_X3_get tw ts tn tf v4 v2).bind fun r2 => if estm < r2 then (f_X5_removeOver_L10 fu K v2 estm tw tn n (v4 + (-1)) ts tf) else ((f_X3_remove tw ts tn tf v4).bind fun r3 => f_X5_removeOver_L10 fu K v2 estm tw tn n (v4 + (-1)) r3.1 r3.2))
def f_X5_removeOver (fu : Nat) (estm : Int32) (tw : Int32) (ts : Int32) (tn : Nat) (tf : Nat → Int32) (a1 : Int32) : Option (Int32 × Int32 × (Nat → Int32)) :=
  (f_X3_size ts ).bind fun r1 => f_X5_removeOver_L10 fu (fun (x1 : Int32) (x2 : Int32) (x3 : Nat → Int32) => (f_X3_size x2 ).bind fun r4 => some (r1 - r4, x2, x3)) a1 estm tw tn fu (r1 - 1) ts tf
abbrev wk_X5_removeOver : List Cond := Cond.code yX5_removeOver cX5_removeOver 5 (some .int) :: WB
abbrev rm_X5_removeOver : Room := { frames := 2, cells := 0, slots := 0, locals := 69 }
set_option maxHeartbeats 4000000 in
set_option maxRecDepth 100000 in
theorem c_X5_removeOver (l : Launch) (D : va_G) (k : Nat → Nat) (zq es yh tx gp gq esz esr esk esf esa esp est t tc : Nat) (b0 : Int32) (b1 : Int32) (b2 : Int32) (estm : Int32) (tl : Int32) (tw : Int32) (ts : Int32) (tn : Nat) (tf : Nat → Int32) (a1 : Int32) (fu : Nat) {res : Int32 × Int32 × (Nat → Int32)} (h : f_X5_removeOver fu estm tw ts tn tf a1 = some res) : Ci l yX5_removeOver wk_X5_removeOver rm_X5_removeOver D k [.ref zq, .ref t, .int a1] [(zq, .inr (5, [.ref es, .ref yh, .ref tx, .ref gp, .ref gq, .int b0, .int b1, .int b2])), (es, .inr (2, [.ref esz, .ref esr, .ref esk, .ref esf, .ref esa, .ref esp, .ref est, .int estm])), (t, .inr (3, [.int tl, .int tw, .ref tc, .int ts])), (tc, .inl (k 0, tn, .inl tf))] [(zq, .inr (5, [.ref es, .ref yh, .ref tx, .ref gp, .ref gq, .int b0, .int b1, .int b2])), (es, .inr (2, [.ref esz, .ref esr, .ref esk, .ref esf, .ref esa, .ref esp, .ref est, .int estm])), (t, .inr (3, [.int tl, .int tw, .ref tc, .int res.2.1])), (tc, .inl (k 0, tn, .inl res.2.2))] res.1 := by
  unfold Ci
  intro sz
  refine Met.ofW (cc := cX5_removeOver) (maxL := 5) (ret := (some .int)) (by decide) rfl ?_
  intro p e s m args below meth c s₁ B hml hv
  obtain ⟨rfl, hsz, hP, hK, hD0, hm⟩ := hv
  have hx := B.exec
  have hb := B.bytes
  have hr := B.returns
  have ht : ∀ w ∈ WB, w.before _ s = true := fun w hw => atoms_spec (ws := wk_X5_removeOver) B.pre w (List.mem_cons_of_mem _ hw)
  have hown : s.vm.findClass RX5 = some m.cls := findClass_of_methodNamed B.named
  have hlocks := B.notSynchronized
  subst hsz
  have hD := hD0.self (sz := s.heap.size)
  generalize hAe : va_A [(zq, .inr (5, [.ref es, .ref yh, .ref tx, .ref gp, .ref gq, .int b0, .int b1, .int b2])), (es, .inr (2, [.ref esz, .ref esr, .ref esk, .ref esf, .ref esa, .ref esp, .ref est, .int estm])), (t, .inr (3, [.int tl, .int tw, .ref tc, .int ts])), (tc, .inl (k 0, tn, .inl tf))] s.heap.size = A at hD hm ⊢
  have hA : ∀ q : Nat, s.heap.size ≤ q → A q := fun q h => by rw [← hAe]; exact Or.inr h
  have hS : va_S A s.heap s.heap [] := va_S.rf
  have hl := lv_entry ([.ref zq, .ref t, .int a1]) (n := 5) (Nat.le_of_ble_eq_true rfl)
  rw [lg_entry_eq]
  generalize (lg_sl ([.ref zq, .ref t, .int a1]) ++ List.replicate (5 - (lg_sl ([.ref zq, .ref t, .int a1])).length) Slot.unset).toArray = ls at hl ⊢
  have hl : lv_has ls 5 [(0, .ref zq), (1, .ref t), (2, .int a1)] := hl
  obtain ⟨H, hH⟩ : ∃ H, H = s.heap := ⟨_, rfl⟩
  rw [← hH] at hP
  have hS : va_S A s.heap H [] := by rw [hH]; exact hS
  suffices hgo : W p l e _ s m _ below meth c H [] 0 0 _ _ by rw [hH] at hgo; exact hgo
  unfold f_X5_removeOver at h
  refine lv_aload_n hx hb dX5_removeOver_0 rfl (lv_at hl 1 rfl) ?_
  obtain ⟨r1, h1, h⟩ := zb h
  refine zi (zrV (C := RX3) (T := TX3) (N := 4) (As := []) (rest := []) ⟨hx, hb, hml, hown, ht⟩ (c_X3_size l D k t tc tl tw ts tn tf  h1 _) (cwV 0 ht (gdV wb304 wb305 wb306 wb74 wb307) rfl rfl rfl (by decide +kernel) ⟨Nat.le_of_ble_eq_true rfl, Nat.le_of_ble_eq_true rfl⟩) hK hP hD hS hA hm [2, 3] rfl rfl 2 3 rfl rfl rfl hl.1 rfl (Nat.le_of_ble_eq_true rfl) dX5_removeOver_1 ⟨Nat.le_refl _, Nat.le_refl _⟩) hP hD hS hA [2, 3] rfl rfl (fun H locs hP hD hS => ?_)
  have hP : va_P D vwCl [(zq, .inr (5, [.ref es, .ref yh, .ref tx, .ref gp, .ref gq, .int b0, .int b1, .int b2])), (es, .inr (2, [.ref esz, .ref esr, .ref esk, .ref esf, .ref esa, .ref esp, .ref est, .int estm])), (t, .inr (3, [.int tl, .int tw, .ref tc, .int ts])), (tc, .inl (k 0, tn, .inl tf))] H := hP
  have hD : va_D A [(zq, .inr (5, [.ref es, .ref yh, .ref tx, .ref gp, .ref gq, .int b0, .int b1, .int b2])), (es, .inr (2, [.ref esz, .ref esr, .ref esk, .ref esf, .ref esa, .ref esp, .ref est, .int estm])), (t, .inr (3, [.int tl, .int tw, .ref tc, .int ts])), (tc, .inl (k 0, tn, .inl tf))] := hD
  refine lv_istore_n (lv' := [(3, .int r1), (0, .ref zq), (1, .ref t), (2, .int a1)]) hx hb dX5_removeOver_4 rfl hl (by decide) rfl (fun ls hl => ?_)
  refine lv_iload_n hx hb dX5_removeOver_5 rfl (lv_at hl 0 rfl) ?_
  refine lv_iconst (v := 1) hx hb dX5_removeOver_6 (by decide) ?_
  refine lv_isub hx hb dX5_removeOver_7 ?_
  refine lv_istore (lv' := [(4, .int (r1 - 1)), (3, .int r1), (0, .ref zq), (1, .ref t), (2, .int a1)]) hx hb dX5_removeOver_8 hl (by decide) rfl (fun ls hl => ?_)
  have loop10 : ∀ (v2 : Int32) (v3 : Int32) (b0 : Int32) (b1 : Int32) (b2 : Int32) (estm : Int32) (tl : Int32) (tw : Int32) (tn : Nat), ∀ (K : Int32 → Int32 → (Nat → Int32) → Option (Int32 × Int32 × (Nat → Int32))), (∀ (v4 : Int32) (ts : Int32) (tf : Nat → Int32), K v4 ts tf = some res → ∀ (H : Heap) (locs : List Loc), va_P D vwCl [(zq, .inr (5, [.ref es, .ref yh, .ref tx, .ref gp, .ref gq, .int b0, .int b1, .int b2])), (es, .inr (2, [.ref esz, .ref esr, .ref esk, .ref esf, .ref esa, .ref esp, .ref est, .int estm])), (t, .inr (3, [.int tl, .int tw, .ref tc, .int ts])), (tc, .inl (k 0, tn, .inl tf))] H → va_D A [(zq, .inr (5, [.ref es, .ref yh, .ref tx, .ref gp, .ref gq, .int b0, .int b1, .int b2])), (es, .inr (2, [.ref esz, .ref esr, .ref esk, .ref esf, .ref esa, .ref esp, .ref est, .int estm])), (t, .inr (3, [.int tl, .int tw, .ref tc, .int ts])), (tc, .inl (k 0, tn, .inl tf))] → va_S A s.heap H locs → ∀ ls : Array Slot, lv_has ls 5 [(0, .ref zq), (1, .ref t), (2, .int v2), (3, .int v3), (4, .int v4)] → W p l e (headSpec wk_X5_removeOver rm_X5_removeOver).room s m ([.ref zq, .ref t, .int a1] : List Value).toArray below meth c H locs 0 0 (MQ below (va_Qi (fun xq9 (_ : Unit) => xq9 = res.1) (fun _ tq9 => va_P D vwCl [(zq, .inr (5, [.ref es, .ref yh, .ref tx, .ref gp, .ref gq, .int b0, .int b1, .int b2])), (es, .inr (2, [.ref esz, .ref esr, .ref esk, .ref esf, .ref esa, .ref esp, .ref est, .int estm])), (t, .inr (3, [.int tl, .int tw, .ref tc, .int res.2.1])), (tc, .inl (k 0, tn, .inl res.2.2))] tq9.heap) A) ([.ref zq, .ref t, .int a1] : List Value).toArray s 0 0 A) (F0 m 44 ls [])) → ∀ (n : Nat) (v4 : Int32) (ts : Int32) (tf : Nat → Int32), f_X5_removeOver_L10 fu K v2 estm tw tn n v4 ts tf = some res → ∀ (H : Heap) (locs : List Loc), va_P D vwCl [(zq, .inr (5, [.ref es, .ref yh, .ref tx, .ref gp, .ref gq, .int b0, .int b1, .int b2])), (es, .inr (2, [.ref esz, .ref esr, .ref esk, .ref esf, .ref esa, .ref esp, .ref est, .int estm])), (t, .inr (3, [.int tl, .int tw, .ref tc, .int ts])), (tc, .inl (k 0, tn, .inl tf))] H → va_D A [(zq, .inr (5, [.ref es, .ref yh, .ref tx, .ref gp, .ref gq, .int b0, .int b1, .int b2])), (es, .inr (2, [.ref esz, .ref esr, .ref esk, .ref esf, .ref esa, .ref esp, .ref est, .int estm])), (t, .inr (3, [.int tl, .int tw, .ref tc, .int ts])), (tc, .inl (k 0, tn, .inl tf))] → va_S A s.heap H locs → ∀ ls : Array Slot, lv_has ls 5 [(0, .ref zq), (1, .ref t), (2, .int v2), (3, .int v3), (4, .int v4)] → W p l e (headSpec wk_X5_removeOver rm_X5_removeOver).room s m ([.ref zq, .ref t, .int a1] : List Value).toArray below meth c H locs 0 0 (MQ below (va_Qi (fun xq9 (_ : Unit) => xq9 = res.1) (fun _ tq9 => va_P D vwCl [(zq, .inr (5, [.ref es, .ref yh, .ref tx, .ref gp, .ref gq, .int b0, .int b1, .int b2])), (es, .inr (2, [.ref esz, .ref esr, .ref esk, .ref esf, .ref esa, .ref esp, .ref est, .int estm])), (t, .inr (3, [.int tl, .int tw, .ref tc, .int res.2.1])), (tc, .inl (k 0, tn, .inl res.2.2))] tq9.heap) A) ([.ref zq, .ref t, .int a1] : List Value).toArray s 0 0 A) (F0 m 10 ls []) := by
    intro v2 v3 b0 b1 b2 estm tl tw tn K hKK n
    induction n with
    | zero =>
      intro v4 ts tf h
      rw [f_X5_removeOver_L10] at h
      cases h
    | succ n ih =>
      intro v4 ts tf h H locs hP hD hS ls hl
      rw [f_X5_removeOver_L10] at h
      refine lv_iload hx hb dX5_removeOver_10 (lv_at hl 4 rfl) ?_
      refine lv_if_lt (tgt := 44) hx hb dX5_removeOver_12 (by decide) (fun c2 => ?_) (fun c2 => ?_)
      · have h := zt h c2
        exact hKK _ _ _ h _ _ hP hD hS _ (lv_sub hl [0, 1, 2, 3, 4] rfl)
      · have h := zf h c2
        refine lv_aload_n hx hb dX5_removeOver_15 rfl (lv_at hl 1 rfl) ?_
        refine lv_iload hx hb dX5_removeOver_16 (lv_at hl 4 rfl) ?_
        refine lv_iload_n hx hb dX5_removeOver_18 rfl (lv_at hl 2 rfl) ?_
        obtain ⟨r2, h2, h⟩ := zb h
        refine zi (zrV (C := RX3) (T := TX3) (N := 4) (As := [.int v4, .int v2]) (rest := []) ⟨hx, hb, hml, hown, ht⟩ (c_X3_get l D k t tc tl tw ts tn tf v4 v2 h2 _) (cwV 2 ht (gdV wb343 wb344 wb345 wb74 wb346) rfl rfl rfl (by decide +kernel) ⟨Nat.le_of_ble_eq_true rfl, Nat.le_of_ble_eq_true rfl⟩) hK hP hD hS hA hm [2, 3] rfl rfl 2 3 rfl rfl rfl hl.1 rfl (Nat.le_of_ble_eq_true rfl) dX5_removeOver_19 ⟨Nat.le_refl _, Nat.le_refl _⟩) hP hD hS hA [2, 3] rfl rfl (fun H locs hP hD hS => ?_)
        have hP : va_P D vwCl [(zq, .inr (5, [.ref es, .ref yh, .ref tx, .ref gp, .ref gq, .int b0, .int b1, .int b2])), (es, .inr (2, [.ref esz, .ref esr, .ref esk, .ref esf, .ref esa, .ref esp, .ref est, .int estm])), (t, .inr (3, [.int tl, .int tw, .ref tc, .int ts])), (tc, .inl (k 0, tn, .inl tf))] H := hP
        have hD : va_D A [(zq, .inr (5, [.ref es, .ref yh, .ref tx, .ref gp, .ref gq, .int b0, .int b1, .int b2])), (es, .inr (2, [.ref esz, .ref esr, .ref esk, .ref esf, .ref esa, .ref esp, .ref est, .int estm])), (t, .inr (3, [.int tl, .int tw, .ref tc, .int ts])), (tc, .inl (k 0, tn, .inl tf))] := hD
        refine lv_aload_n hx hb dX5_removeOver_22 rfl (lv_at hl 0 rfl) ?_
        refine va_get (D := D) (ci := 5) (v := .ref es) (C := RX5) (T := TX5) (N := 8) hx hb ht hiX5 hown hK hP 0 rfl rfl 0 (by decide) (ht _ wb239) (fun _ h9 => h9) rfl dX5_removeOver_23 ?_
        refine va_getN (D := D) (ci := 2) (v := .int estm) (C := RX2) (T := TX2) (N := 8) hx hb ht hiX2 hown hK hP 1 rfl rfl 7 (by decide) (va_Nw.use rfl (hm.1 _ (List.mem_of_getElem? (i := 8) rfl))) (fun _ h9 => h9) rfl dX5_removeOver_26 ?_
        refine lv_icmp_gt (tgt := 38) hx hb dX5_removeOver_29 (by decide) (fun c1 => ?_) (fun c1 => ?_)
        · have h := zt h c1
          refine lv_iinc (v := v4 + (-1)) (lv' := [(4, .int (v4 + (-1))), (0, .ref zq), (1, .ref t), (2, .int v2), (3, .int v3)]) hx hb dX5_removeOver_38 hl (k := 4) rfl rfl (by decide) rfl (fun ls hl => ?_)
          refine lv_goto (tgt := 10) hx hb dX5_removeOver_41 (by decide) ?_
          exact ih _ _ _ h _ _ hP hD hS _ (lv_sub hl [1, 2, 3, 4, 0] rfl)
        · have h := zf h c1
          refine lv_aload_n hx hb dX5_removeOver_32 rfl (lv_at hl 1 rfl) ?_
          refine lv_iload hx hb dX5_removeOver_33 (lv_at hl 4 rfl) ?_
          obtain ⟨r3, h3, h⟩ := zb h
          refine zv (zrV (C := RX3) (T := TX3) (N := 4) (As := [.int v4]) (rest := []) ⟨hx, hb, hml, hown, ht⟩ (c_X3_remove l D k t tc tl tw ts tn tf v4 h3 _) (cwV 1 ht (gdV wb351 wb352 wb353 wb74 wb354) rfl rfl rfl (by decide +kernel) ⟨Nat.le_of_ble_eq_true rfl, Nat.le_of_ble_eq_true rfl⟩) hK hP hD hS hA hm [2, 3] rfl rfl 2 3 rfl rfl rfl hl.1 rfl (Nat.le_of_ble_eq_true rfl) dX5_removeOver_35 ⟨Nat.le_refl _, Nat.le_refl _⟩) hP hD hS hA [2, 3] rfl rfl (fun H locs hP hD hS => ?_)
          have hP : va_P D vwCl [(zq, .inr (5, [.ref es, .ref yh, .ref tx, .ref gp, .ref gq, .int b0, .int b1, .int b2])), (es, .inr (2, [.ref esz, .ref esr, .ref esk, .ref esf, .ref esa, .ref esp, .ref est, .int estm])), (t, .inr (3, [.int tl, .int tw, .ref tc, .int r3.1])), (tc, .inl (k 0, tn, .inl r3.2))] H := hP
          have hD : va_D A [(zq, .inr (5, [.ref es, .ref yh, .ref tx, .ref gp, .ref gq, .int b0, .int b1, .int b2])), (es, .inr (2, [.ref esz, .ref esr, .ref esk, .ref esf, .ref esa, .ref esp, .ref est, .int estm])), (t, .inr (3, [.int tl, .int tw, .ref tc, .int r3.1])), (tc, .inl (k 0, tn, .inl r3.2))] := hD
          refine lv_iinc (v := v4 + (-1)) (lv' := [(4, .int (v4 + (-1))), (0, .ref zq), (1, .ref t), (2, .int v2), (3, .int v3)]) hx hb dX5_removeOver_38 hl (k := 4) rfl rfl (by decide) rfl (fun ls hl => ?_)
          refine lv_goto (tgt := 10) hx hb dX5_removeOver_41 (by decide) ?_
          exact ih _ _ _ h _ _ hP hD hS _ (lv_sub hl [1, 2, 3, 4, 0] rfl)
  refine loop10 _ _ _ _ _ _ _ _ _ _ ?_ fu _ _ _ h _ _ hP hD hS _ (lv_sub hl [2, 3, 4, 1, 0] rfl)
  intro x1 x2 x3 h H locs hP hD hS ls hl
  try dsimp only at h
  have hP : va_P D vwCl [(zq, .inr (5, [.ref es, .ref yh, .ref tx, .ref gp, .ref gq, .int b0, .int b1, .int b2])), (es, .inr (2, [.ref esz, .ref esr, .ref esk, .ref esf, .ref esa, .ref esp, .ref est, .int estm])), (t, .inr (3, [.int tl, .int tw, .ref tc, .int x2])), (tc, .inl (k 0, tn, .inl x3))] H := hP
  have hD : va_D A [(zq, .inr (5, [.ref es, .ref yh, .ref tx, .ref gp, .ref gq, .int b0, .int b1, .int b2])), (es, .inr (2, [.ref esz, .ref esr, .ref esk, .ref esf, .ref esa, .ref esp, .ref est, .int estm])), (t, .inr (3, [.int tl, .int tw, .ref tc, .int x2])), (tc, .inl (k 0, tn, .inl x3))] := hD
  have hl : lv_has ls 5 [(0, .ref zq), (1, .ref t), (2, .int a1), (3, .int r1), (4, .int x1)] := hl
  refine lv_iload_n hx hb dX5_removeOver_44 rfl (lv_at hl 3 rfl) ?_
  refine lv_aload_n hx hb dX5_removeOver_45 rfl (lv_at hl 1 rfl) ?_
  obtain ⟨r4, h4, h⟩ := zb h
  refine zi (zrV (C := RX3) (T := TX3) (N := 4) (As := []) (rest := [.int r1]) ⟨hx, hb, hml, hown, ht⟩ (c_X3_size l D k t tc tl tw x2 tn x3  h4 _) (cwV 0 ht (gdV wb304 wb305 wb306 wb74 wb307) rfl rfl rfl (by decide +kernel) ⟨Nat.le_of_ble_eq_true rfl, Nat.le_of_ble_eq_true rfl⟩) hK hP hD hS hA hm [2, 3] rfl rfl 2 3 rfl rfl rfl hl.1 rfl (Nat.le_of_ble_eq_true rfl) dX5_removeOver_46 ⟨Nat.le_refl _, Nat.le_refl _⟩) hP hD hS hA [2, 3] rfl rfl (fun H locs hP hD hS => ?_)
  have hP : va_P D vwCl [(zq, .inr (5, [.ref es, .ref yh, .ref tx, .ref gp, .ref gq, .int b0, .int b1, .int b2])), (es, .inr (2, [.ref esz, .ref esr, .ref esk, .ref esf, .ref esa, .ref esp, .ref est, .int estm])), (t, .inr (3, [.int tl, .int tw, .ref tc, .int x2])), (tc, .inl (k 0, tn, .inl x3))] H := hP
  have hD : va_D A [(zq, .inr (5, [.ref es, .ref yh, .ref tx, .ref gp, .ref gq, .int b0, .int b1, .int b2])), (es, .inr (2, [.ref esz, .ref esr, .ref esk, .ref esf, .ref esa, .ref esp, .ref est, .int estm])), (t, .inr (3, [.int tl, .int tw, .ref tc, .int x2])), (tc, .inl (k 0, tn, .inl x3))] := hD
  refine lv_isub hx hb dX5_removeOver_49 ?_
  obtain rfl := Option.some.inj h
  exact W.iret (v := r1 - r4) hx hb hr (fun t ht9 hW => ⟨⟨_, (), rfl, rfl, zend ht9 hP⟩, hS.F ht9⟩) hS.2.2 dX5_removeOver_50
