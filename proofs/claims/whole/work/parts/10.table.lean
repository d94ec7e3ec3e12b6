def f_X5_within  (a1 : Int32) (a2 : Int32) (a3 : Int32) : Option (Bool) :=
  if a1 < a2 then (some (false)) else (if a3 < a1 then (some (false)) else (some (true)))
abbrev wk_X5_within : List Cond := Cond.code yX5_within cX5_within 3 (some .boolean) :: WB
abbrev rm_X5_within : Room := { frames := 0, cells := 0, slots := 0, locals := 0 }
set_option maxHeartbeats 4000000 in
set_option maxRecDepth 100000 in
theorem c_X5_within (l : Launch) (D : va_G) (k : Nat → Nat)  (a1 : Int32) (a2 : Int32) (a3 : Int32) {res : Bool} (h : f_X5_within  a1 a2 a3 = some res) : Ci l yX5_within wk_X5_within rm_X5_within D k [.int a1, .int a2, .int a3] [] [] (zB res) := by
  unfold Ci
  intro sz
  refine Met.ofW (cc := cX5_within) (maxL := 3) (ret := (some .boolean)) (by decide) rfl ?_
  intro p e s m args below meth c s₁ B hml hv
  obtain ⟨rfl, hsz, hP, hK, hD0, hm⟩ := hv
  have hx := B.exec
  have hb := B.bytes
  have hr := B.returns
  have ht : ∀ w ∈ WB, w.before _ s = true := fun w hw => atoms_spec (ws := wk_X5_within) B.pre w (List.mem_cons_of_mem _ hw)
  have hown : s.vm.findClass RX5 = some m.cls := findClass_of_methodNamed B.named
  have hlocks := B.notSynchronized
  subst hsz
  have hD := hD0.self (sz := s.heap.size)
  generalize hAe : va_A [] s.heap.size = A at hD hm ⊢
  have hA : ∀ q : Nat, s.heap.size ≤ q → A q := fun q h => by rw [← hAe]; exact Or.inr h
  have hS : va_S A s.heap s.heap [] := va_S.rf
  have hl := lv_entry ([.int a1, .int a2, .int a3]) (n := 3) (Nat.le_of_ble_eq_true rfl)
  rw [lg_entry_eq]
  generalize (lg_sl ([.int a1, .int a2, .int a3]) ++ List.replicate (3 - (lg_sl ([.int a1, .int a2, .int a3])).length) Slot.unset).toArray = ls at hl ⊢
  have hl : lv_has ls 3 [(0, .int a1), (1, .int a2), (2, .int a3)] := hl
  obtain ⟨H, hH⟩ : ∃ H, H = s.heap := ⟨_, rfl⟩
  rw [← hH] at hP
  have hS : va_S A s.heap H [] := by rw [hH]; exact hS
  suffices hgo : W p l e _ s m _ below meth c H [] 0 0 _ _ by rw [hH] at hgo; exact hgo
  unfold f_X5_within at h
  refine lv_iload_n hx hb dX5_within_0 rfl (lv_at hl 0 rfl) ?_
  refine lv_iload_n hx hb dX5_within_1 rfl (lv_at hl 1 rfl) ?_
  refine lv_icmp_lt (tgt := 14) hx hb dX5_within_2 (by decide) (fun c2 => ?_) (fun c2 => ?_)
  · have h := zt h c2
    refine lv_iconst (v := 0) hx hb dX5_within_14 (by decide) ?_
    obtain rfl := Option.some.inj h
    exact W.zret (v := 0) (ty := .boolean) hx hb hr (rfl) (fun t ht9 hW => ⟨⟨_, (), rfl, rfl, zend ht9 hP⟩, hS.F ht9⟩) hS.2.2 dX5_within_15
  · have h := zf h c2
    refine lv_iload_n hx hb dX5_within_5 rfl (lv_at hl 0 rfl) ?_
    refine lv_iload_n hx hb dX5_within_6 rfl (lv_at hl 2 rfl) ?_
    refine lv_icmp_gt (tgt := 14) hx hb dX5_within_7 (by decide) (fun c1 => ?_) (fun c1 => ?_)
    · have h := zt h c1
      refine lv_iconst (v := 0) hx hb dX5_within_14 (by decide) ?_
      obtain rfl := Option.some.inj h
      exact W.zret (v := 0) (ty := .boolean) hx hb hr (rfl) (fun t ht9 hW => ⟨⟨_, (), rfl, rfl, zend ht9 hP⟩, hS.F ht9⟩) hS.2.2 dX5_within_15
    · have h := zf h c1
      refine lv_iconst (v := 1) hx hb dX5_within_10 (by decide) ?_
      refine lv_goto (tgt := 15) hx hb dX5_within_11 (by decide) ?_
      obtain rfl := Option.some.inj h
      exact W.zret (v := 1) (ty := .boolean) hx hb hr (rfl) (fun t ht9 hW => ⟨⟨_, (), rfl, rfl, zend ht9 hP⟩, hS.F ht9⟩) hS.2.2 dX5_within_15
def f_X3_size (ts : Int32)  : Option (Int32) :=
  some (ts)
abbrev wk_X3_size : List Cond := Cond.code yX3_size cX3_size 1 (some .int) :: WB
abbrev rm_X3_size : Room := { frames := 0, cells := 0, slots := 0, locals := 0 }
set_option maxHeartbeats 4000000 in
set_option maxRecDepth 100000 in
theorem c_X3_size (l : Launch) (D : va_G) (k : Nat → Nat) (t tc : Nat) (tl : Int32) (tw : Int32) (ts : Int32) (tn : Nat) (tf : Nat → Int32)  {res : Int32} (h : f_X3_size ts  = some res) : Ci l yX3_size wk_X3_size rm_X3_size D k [.ref t] [(t, .inr (3, [.int tl, .int tw, .ref tc, .int ts])), (tc, .inl (k 0, tn, .inl tf))] [(t, .inr (3, [.int tl, .int tw, .ref tc, .int ts])), (tc, .inl (k 0, tn, .inl tf))] res := by
  unfold Ci
  intro sz
  refine Met.ofW (cc := cX3_size) (maxL := 1) (ret := (some .int)) (by decide) rfl ?_
  intro p e s m args below meth c s₁ B hml hv
  obtain ⟨rfl, hsz, hP, hK, hD0, hm⟩ := hv
  have hx := B.exec
  have hb := B.bytes
  have hr := B.returns
  have ht : ∀ w ∈ WB, w.before _ s = true := fun w hw => atoms_spec (ws := wk_X3_size) B.pre w (List.mem_cons_of_mem _ hw)
  have hown : s.vm.findClass RX3 = some m.cls := findClass_of_methodNamed B.named
  have hlocks := B.notSynchronized
  subst hsz
  have hD := hD0.self (sz := s.heap.size)
  generalize hAe : va_A [(t, .inr (3, [.int tl, .int tw, .ref tc, .int ts])), (tc, .inl (k 0, tn, .inl tf))] s.heap.size = A at hD hm ⊢
  have hA : ∀ q : Nat, s.heap.size ≤ q → A q := fun q h => by rw [← hAe]; exact Or.inr h
  have hS : va_S A s.heap s.heap [] := va_S.rf
  have hl := lv_entry ([.ref t]) (n := 1) (Nat.le_of_ble_eq_true rfl)
  rw [lg_entry_eq]
  generalize (lg_sl ([.ref t]) ++ List.replicate (1 - (lg_sl ([.ref t])).length) Slot.unset).toArray = ls at hl ⊢
  have hl : lv_has ls 1 [(0, .ref t)] := hl
  obtain ⟨H, hH⟩ : ∃ H, H = s.heap := ⟨_, rfl⟩
  rw [← hH] at hP
  have hS : va_S A s.heap H [] := by rw [hH]; exact hS
  suffices hgo : W p l e _ s m _ below meth c H [] 0 0 _ _ by rw [hH] at hgo; exact hgo
  unfold f_X3_size at h
  refine lv_aload_n hx hb dX3_size_0 rfl (lv_at hl 0 rfl) ?_
  refine va_get (D := D) (ci := 3) (v := .int ts) (C := RX3) (T := TX3) (N := 4) hx hb ht hiX3 hown hK hP 0 rfl rfl 3 (by decide) (ht _ wb112) (fun _ h9 => h9) rfl dX3_size_1 ?_
  obtain rfl := Option.some.inj h
  exact W.iret (v := ts) hx hb hr (fun t ht9 hW => ⟨⟨_, (), rfl, rfl, zend ht9 hP⟩, hS.F ht9⟩) hS.2.2 dX3_size_4
def f_X3_isFull (tl : Int32) (ts : Int32)  : Option (Bool) :=
  if ts < tl then (some (false)) else (some (true))
abbrev wk_X3_isFull : List Cond := Cond.code yX3_isFull cX3_isFull 1 (some .boolean) :: WB
abbrev rm_X3_isFull : Room := { frames := 0, cells := 0, slots := 0, locals := 0 }
set_option maxHeartbeats 4000000 in
set_option maxRecDepth 100000 in
theorem c_X3_isFull (l : Launch) (D : va_G) (k : Nat → Nat) (t tc : Nat) (tl : Int32) (tw : Int32) (ts : Int32) (tn : Nat) (tf : Nat → Int32)  {res : Bool} (h : f_X3_isFull tl ts  = some res) : Ci l yX3_isFull wk_X3_isFull rm_X3_isFull D k [.ref t] [(t, .inr (3, [.int tl, .int tw, .ref tc, .int ts])), (tc, .inl (k 0, tn, .inl tf))] [(t, .inr (3, [.int tl, .int tw, .ref tc, .int ts])), (tc, .inl (k 0, tn, .inl tf))] (zB res) := by
  unfold Ci
  intro sz
  refine Met.ofW (cc := cX3_isFull) (maxL := 1) (ret := (some .boolean)) (by decide) rfl ?_
  intro p e s m args below meth c s₁ B hml hv
  obtain ⟨rfl, hsz, hP, hK, hD0, hm⟩ := hv
  have hx := B.exec
  have hb := B.bytes
  have hr := B.returns
  have ht : ∀ w ∈ WB, w.before _ s = true := fun w hw => atoms_spec (ws := wk_X3_isFull) B.pre w (List.mem_cons_of_mem _ hw)
  have hown : s.vm.findClass RX3 = some m.cls := findClass_of_methodNamed B.named
  have hlocks := B.notSynchronized
  subst hsz
  have hD := hD0.self (sz := s.heap.size)
  generalize hAe : va_A [(t, .inr (3, [.int tl, .int tw, .ref tc, .int ts])), (tc, .inl (k 0, tn, .inl tf))] s.heap.size = A at hD hm ⊢
  have hA : ∀ q : Nat, s.heap.size ≤ q → A q := fun q h => by rw [← hAe]; exact Or.inr h
  have hS : va_S A s.heap s.heap [] := va_S.rf
  have hl := lv_entry ([.ref t]) (n := 1) (Nat.le_of_ble_eq_true rfl)
  rw [lg_entry_eq]
  generalize (lg_sl ([.ref t]) ++ List.replicate (1 - (lg_sl ([.ref t])).length) Slot.unset).toArray = ls at hl ⊢
  have hl : lv_has ls 1 [(0, .ref t)] := hl
  obtain ⟨H, hH⟩ : ∃ H, H = s.heap := ⟨_, rfl⟩
  rw [← hH] at hP
  have hS : va_S A s.heap H [] := by rw [hH]; exact hS
  suffices hgo : W p l e _ s m _ below meth c H [] 0 0 _ _ by rw [hH] at hgo; exact hgo
  unfold f_X3_isFull at h
  refine lv_aload_n hx hb dX3_isFull_0 rfl (lv_at hl 0 rfl) ?_
  refine va_get (D := D) (ci := 3) (v := .int ts) (C := RX3) (T := TX3) (N := 4) hx hb ht hiX3 hown hK hP 0 rfl rfl 3 (by decide) (ht _ wb112) (fun _ h9 => h9) rfl dX3_isFull_1 ?_
  refine lv_aload_n hx hb dX3_isFull_4 rfl (lv_at hl 0 rfl) ?_
  refine va_get (D := D) (ci := 3) (v := .int tl) (C := RX3) (T := TX3) (N := 4) hx hb ht hiX3 hown hK hP 0 rfl rfl 0 (by decide) (ht _ wb109) (fun _ h9 => h9) rfl dX3_isFull_5 ?_
  refine lv_icmp_lt (tgt := 15) hx hb dX3_isFull_8 (by decide) (fun c1 => ?_) (fun c1 => ?_)
  · have h := zt h c1
    refine lv_iconst (v := 0) hx hb dX3_isFull_15 (by decide) ?_
    obtain rfl := Option.some.inj h
    exact W.zret (v := 0) (ty := .boolean) hx hb hr (rfl) (fun t ht9 hW => ⟨⟨_, (), rfl, rfl, zend ht9 hP⟩, hS.F ht9⟩) hS.2.2 dX3_isFull_16
  · have h := zf h c1
    refine lv_iconst (v := 1) hx hb dX3_isFull_11 (by decide) ?_
    refine lv_goto (tgt := 16) hx hb dX3_isFull_12 (by decide) ?_
    obtain rfl := Option.some.inj h
    exact W.zret (v := 1) (ty := .boolean) hx hb hr (rfl) (fun t ht9 hW => ⟨⟨_, (), rfl, rfl, zend ht9 hP⟩, hS.F ht9⟩) hS.2.2 dX3_isFull_16
def f_X3_empty   : Option (Int32) :=
  some (0)
abbrev wk_X3_empty : List Cond := Cond.code yX3_empty cX3_empty 1 none :: WB
abbrev rm_X3_empty : Room := { frames := 0, cells := 0, slots := 0, locals := 0 }
set_option maxHeartbeats 4000000 in
set_option maxRecDepth 100000 in
theorem c_X3_empty (l : Launch) (D : va_G) (k : Nat → Nat) (t tc : Nat) (tl : Int32) (tw : Int32) (ts : Int32) (tn : Nat) (tf : Nat → Int32)  {res : Int32} (h : f_X3_empty   = some res) : Cv l yX3_empty wk_X3_empty rm_X3_empty D k [.ref t] [(t, .inr (3, [.int tl, .int tw, .ref tc, .int ts])), (tc, .inl (k 0, tn, .inl tf))] [(t, .inr (3, [.int tl, .int tw, .ref tc, .int res])), (tc, .inl (k 0, tn, .inl tf))] := by
  unfold Cv
  intro sz
  refine Met.ofW (cc := cX3_empty) (maxL := 1) (ret := none) (by decide) rfl ?_
  intro p e s m args below meth c s₁ B hml hv
  obtain ⟨rfl, hsz, hP, hK, hD0, hm⟩ := hv
  have hx := B.exec
  have hb := B.bytes
  have hr := B.returns
  have ht : ∀ w ∈ WB, w.before _ s = true := fun w hw => atoms_spec (ws := wk_X3_empty) B.pre w (List.mem_cons_of_mem _ hw)
  have hown : s.vm.findClass RX3 = some m.cls := findClass_of_methodNamed B.named
  have hlocks := B.notSynchronized
  subst hsz
  have hD := hD0.self (sz := s.heap.size)
  generalize hAe : va_A [(t, .inr (3, [.int tl, .int tw, .ref tc, .int ts])), (tc, .inl (k 0, tn, .inl tf))] s.heap.size = A at hD hm ⊢
  have hA : ∀ q : Nat, s.heap.size ≤ q → A q := fun q h => by rw [← hAe]; exact Or.inr h
  have hS : va_S A s.heap s.heap [] := va_S.rf
  have hl := lv_entry ([.ref t]) (n := 1) (Nat.le_of_ble_eq_true rfl)
  rw [lg_entry_eq]
  generalize (lg_sl ([.ref t]) ++ List.replicate (1 - (lg_sl ([.ref t])).length) Slot.unset).toArray = ls at hl ⊢
  have hl : lv_has ls 1 [(0, .ref t)] := hl
  obtain ⟨H, hH⟩ : ∃ H, H = s.heap := ⟨_, rfl⟩
  rw [← hH] at hP
  have hS : va_S A s.heap H [] := by rw [hH]; exact hS
  suffices hgo : W p l e _ s m _ below meth c H [] 0 0 _ _ by rw [hH] at hgo; exact hgo
  unfold f_X3_empty at h
  refine lv_aload_n hx hb dX3_empty_0 rfl (lv_at hl 0 rfl) ?_
  refine lv_iconst (v := 0) hx hb dX3_empty_1 (by decide) ?_
  refine va_put (D := D) (ci := 3) (v := .int 0) (ty := .int) (C := RX3) (T := TX3) (N := 4) hx hb ht hiX3 tyX3 tyX3_ok nmX3 hown hK hP hD hS 0 rfl rfl 3 (by decide) (ht _ wb112) (fun _ h9 => h9) rfl (by decide +kernel) rfl rfl (Nat.le_of_ble_eq_true rfl) dX3_empty_2 (fun H locs hP hD hS => ?_)
  have hP : va_P D vwCl [(t, .inr (3, [.int tl, .int tw, .ref tc, .int 0])), (tc, .inl (k 0, tn, .inl tf))] H := hP
  have hD : va_D A [(t, .inr (3, [.int tl, .int tw, .ref tc, .int 0])), (tc, .inl (k 0, tn, .inl tf))] := hD
  obtain rfl := Option.some.inj h
  exact W.vret hx hb hr (fun t ht9 hW => ⟨⟨(), rfl, trivial, zend ht9 hP⟩, hS.F ht9⟩) hS.2.2 dX3_empty_5
def f_X3_has (tw : Int32) (ts : Int32) (a1 : Int32) (a2 : Int32) : Option (Bool) :=
  if a1 < 0 then (some (false)) else (if ts ≤ a1 then (some (false)) else (if a2 < 0 then (some (false)) else (if tw ≤ a2 then (some (false)) else (some (true)))))
abbrev wk_X3_has : List Cond := Cond.code yX3_has cX3_has 3 (some .boolean) :: WB
abbrev rm_X3_has : Room := { frames := 0, cells := 0, slots := 0, locals := 0 }
set_option maxHeartbeats 4000000 in
set_option maxRecDepth 100000 in
theorem c_X3_has (l : Launch) (D : va_G) (k : Nat → Nat) (t tc : Nat) (tl : Int32) (tw : Int32) (ts : Int32) (tn : Nat) (tf : Nat → Int32) (a1 : Int32) (a2 : Int32) {res : Bool} (h : f_X3_has tw ts a1 a2 = some res) : Ci l yX3_has wk_X3_has rm_X3_has D k [.ref t, .int a1, .int a2] [(t, .inr (3, [.int tl, .int tw, .ref tc, .int ts])), (tc, .inl (k 0, tn, .inl tf))] [(t, .inr (3, [.int tl, .int tw, .ref tc, .int ts])), (tc, .inl (k 0, tn, .inl tf))] (zB res) := by
  unfold Ci
  intro sz
  refine Met.ofW (cc := cX3_has) (maxL := 3) (ret := (some .boolean)) (by decide) rfl ?_
  intro p e s m args below meth c s₁ B hml hv
  obtain ⟨rfl, hsz, hP, hK, hD0, hm⟩ := hv
  have hx := B.exec
  have hb := B.bytes
  have hr := B.returns
  have ht : ∀ w ∈ WB, w.before _ s = true := fun w hw => atoms_spec (ws := wk_X3_has) B.pre w (List.mem_cons_of_mem _ hw)
  have hown : s.vm.findClass RX3 = some m.cls := findClass_of_methodNamed B.named
  have hlocks := B.notSynchronized
  subst hsz
  have hD := hD0.self (sz := s.heap.size)
  generalize hAe : va_A [(t, .inr (3, [.int tl, .int tw, .ref tc, .int ts])), (tc, .inl (k 0, tn, .inl tf))] s.heap.size = A at hD hm ⊢
  have hA : ∀ q : Nat, s.heap.size ≤ q → A q := fun q h => by rw [← hAe]; exact Or.inr h
  have hS : va_S A s.heap s.heap [] := va_S.rf
  have hl := lv_entry ([.ref t, .int a1, .int a2]) (n := 3) (Nat.le_of_ble_eq_true rfl)
  rw [lg_entry_eq]
  generalize (lg_sl ([.ref t, .int a1, .int a2]) ++ List.replicate (3 - (lg_sl ([.ref t, .int a1, .int a2])).length) Slot.unset).toArray = ls at hl ⊢
  have hl : lv_has ls 3 [(0, .ref t), (1, .int a1), (2, .int a2)] := hl
  obtain ⟨H, hH⟩ : ∃ H, H = s.heap := ⟨_, rfl⟩
  rw [← hH] at hP
  have hS : va_S A s.heap H [] := by rw [hH]; exact hS
  suffices hgo : W p l e _ s m _ below meth c H [] 0 0 _ _ by rw [hH] at hgo; exact hgo
  unfold f_X3_has at h
  refine lv_iload_n hx hb dX3_has_0 rfl (lv_at hl 1 rfl) ?_
  refine lv_if_lt (tgt := 28) hx hb dX3_has_1 (by decide) (fun c4 => ?_) (fun c4 => ?_)
  · have h := zt h c4
    refine lv_iconst (v := 0) hx hb dX3_has_28 (by decide) ?_
    obtain rfl := Option.some.inj h
    exact W.zret (v := 0) (ty := .boolean) hx hb hr (rfl) (fun t ht9 hW => ⟨⟨_, (), rfl, rfl, zend ht9 hP⟩, hS.F ht9⟩) hS.2.2 dX3_has_29
  · have h := zf h c4
    refine lv_iload_n hx hb dX3_has_4 rfl (lv_at hl 1 rfl) ?_
    refine lv_aload_n hx hb dX3_has_5 rfl (lv_at hl 0 rfl) ?_
    refine va_get (D := D) (ci := 3) (v := .int ts) (C := RX3) (T := TX3) (N := 4) hx hb ht hiX3 hown hK hP 0 rfl rfl 3 (by decide) (ht _ wb112) (fun _ h9 => h9) rfl dX3_has_6 ?_
    refine lv_icmp_ge (tgt := 28) hx hb dX3_has_9 (by decide) (fun c3 => ?_) (fun c3 => ?_)
    · have h := zt h c3
      refine lv_iconst (v := 0) hx hb dX3_has_28 (by decide) ?_
      obtain rfl := Option.some.inj h
      exact W.zret (v := 0) (ty := .boolean) hx hb hr (rfl) (fun t ht9 hW => ⟨⟨_, (), rfl, rfl, zend ht9 hP⟩, hS.F ht9⟩) hS.2.2 dX3_has_29
    · have h := zf h c3
      refine lv_iload_n hx hb dX3_has_12 rfl (lv_at hl 2 rfl) ?_
      refine lv_if_lt (tgt := 28) hx hb dX3_has_13 (by decide) (fun c2 => ?_) (fun c2 => ?_)
      · have h := zt h c2
        refine lv_iconst (v := 0) hx hb dX3_has_28 (by decide) ?_
        obtain rfl := Option.some.inj h
        exact W.zret (v := 0) (ty := .boolean) hx hb hr (rfl) (fun t ht9 hW => ⟨⟨_, (), rfl, rfl, zend ht9 hP⟩, hS.F ht9⟩) hS.2.2 dX3_has_29
      · have h := zf h c2
        refine lv_iload_n hx hb dX3_has_16 rfl (lv_at hl 2 rfl) ?_
        refine lv_aload_n hx hb dX3_has_17 rfl (lv_at hl 0 rfl) ?_
        refine va_get (D := D) (ci := 3) (v := .int tw) (C := RX3) (T := TX3) (N := 4) hx hb ht hiX3 hown hK hP 0 rfl rfl 1 (by decide) (ht _ wb110) (fun _ h9 => h9) rfl dX3_has_18 ?_
        refine lv_icmp_ge (tgt := 28) hx hb dX3_has_21 (by decide) (fun c1 => ?_) (fun c1 => ?_)
        · have h := zt h c1
          refine lv_iconst (v := 0) hx hb dX3_has_28 (by decide) ?_
          obtain rfl := Option.some.inj h
          exact W.zret (v := 0) (ty := .boolean) hx hb hr (rfl) (fun t ht9 hW => ⟨⟨_, (), rfl, rfl, zend ht9 hP⟩, hS.F ht9⟩) hS.2.2 dX3_has_29
        · have h := zf h c1
          refine lv_iconst (v := 1) hx hb dX3_has_24 (by decide) ?_
          refine lv_goto (tgt := 29) hx hb dX3_has_25 (by decide) ?_
          obtain rfl := Option.some.inj h
          exact W.zret (v := 1) (ty := .boolean) hx hb hr (rfl) (fun t ht9 hW => ⟨⟨_, (), rfl, rfl, zend ht9 hP⟩, hS.F ht9⟩) hS.2.2 dX3_has_29
def f_X3_get (tw : Int32) (ts : Int32) (tn : Nat) (tf : Nat → Int32) (a1 : Int32) (a2 : Int32) : Option (Int32) :=
  (f_X3_has tw ts a1 a2).bind fun r1 => if (zB r1) = 0 then (some (0)) else (if zok ((a1 * tw) + a2) tn then (some (tf (Int32.toNatClampNeg ((a1 * tw) + a2)))) else none)
abbrev wk_X3_get : List Cond := Cond.code yX3_get cX3_get 3 (some .int) :: WB
abbrev rm_X3_get : Room := { frames := 1, cells := 0, slots := 0, locals := 22 }
set_option maxHeartbeats 4000000 in
set_option maxRecDepth 100000 in
theorem c_X3_get (l : Launch) (D : va_G) (k : Nat → Nat) (t tc : Nat) (tl : Int32) (tw : Int32) (ts : Int32) (tn : Nat) (tf : Nat → Int32) (a1 : Int32) (a2 : Int32) {res : Int32} (h : f_X3_get tw ts tn tf a1 a2 = some res) : Ci l yX3_get wk_X3_get rm_X3_get D k [.ref t, .int a1, .int a2] [(t, .inr (3, [.int tl, .int tw, .ref tc, .int ts])), (tc, .inl (k 0, tn, .inl tf))] [(t, .inr (3, [.int tl, .int tw, .ref tc, .int ts])), (tc, .inl (k 0, tn, .inl tf))] res := by
  unfold Ci
  intro sz
  refine Met.ofW (cc := cX3_get) (maxL := 3) (ret := (some .int)) (by decide) rfl ?_
  intro p e s m args below meth c s₁ B hml hv
  obtain ⟨rfl, hsz, hP, hK, hD0, hm⟩ := hv
  have hx := B.exec
  have hb := B.bytes
  have hr := B.returns
  have ht : ∀ w ∈ WB, w.before _ s = true := fun w hw => atoms_spec (ws := wk_X3_get) B.pre w (List.mem_cons_of_mem _ hw)
  have hown : s.vm.findClass RX3 = some m.cls := findClass_of_methodNamed B.named
  have hlocks := B.notSynchronized
  subst hsz
  have hD := hD0.self (sz := s.heap.size)
  generalize hAe : va_A [(t, .inr (3, [.int tl, .int tw, .ref tc, .int ts])), (tc, .inl (k 0, tn, .inl tf))] s.heap.size = A at hD hm ⊢
  have hA : ∀ q : Nat, s.heap.size ≤ q → A q := fun q h => by rw [← hAe]; exact Or.inr h
  have hS : va_S A s.heap s.heap [] := va_S.rf
  have hl := lv_entry ([.ref t, .int a1, .int a2]) (n := 3) (Nat.le_of_ble_eq_true rfl)
  rw [lg_entry_eq]
  generalize (lg_sl ([.ref t, .int a1, .int a2]) ++ List.replicate (3 - (lg_sl ([.ref t, .int a1, .int a2])).length) Slot.unset).toArray = ls at hl ⊢
  have hl : lv_has ls 3 [(0, .ref t), (1, .int a1), (2, .int a2)] := hl
  obtain ⟨H, hH⟩ : ∃ H, H = s.heap := ⟨_, rfl⟩
  rw [← hH] at hP
  have hS : va_S A s.heap H [] := by rw [hH]; exact hS
  suffices hgo : W p l e _ s m _ below meth c H [] 0 0 _ _ by rw [hH] at hgo; exact hgo
  unfold f_X3_get at h
  refine lv_aload_n hx hb dX3_get_0 rfl (lv_at hl 0 rfl) ?_
  refine lv_iload_n hx hb dX3_get_1 rfl (lv_at hl 1 rfl) ?_
  refine lv_iload_n hx hb dX3_get_2 rfl (lv_at hl 2 rfl) ?_
  obtain ⟨r1, h1, h⟩ := zb h
  refine zi (zrV (C := RX3) (T := TX3) (N := 4) (As := [.int a1, .int a2]) (rest := []) ⟨hx, hb, hml, hown, ht⟩ (c_X3_has l D k t tc tl tw ts tn tf a1 a2 h1 _) (cwV 2 ht (gdV wb326 wb328 wb2 wb74 wb329) rfl rfl rfl (by decide +kernel) ⟨Nat.le_of_ble_eq_true rfl, Nat.le_of_ble_eq_true rfl⟩) hK hP hD hS hA hm [0, 1] rfl rfl 0 3 rfl rfl rfl hl.1 rfl (Nat.le_of_ble_eq_true rfl) dX3_get_3 ⟨Nat.le_refl _, Nat.le_refl _⟩) hP hD hS hA [0, 1] rfl rfl (fun H locs hP hD hS => ?_)
  have hP : va_P D vwCl [(t, .inr (3, [.int tl, .int tw, .ref tc, .int ts])), (tc, .inl (k 0, tn, .inl tf))] H := hP
  have hD : va_D A [(t, .inr (3, [.int tl, .int tw, .ref tc, .int ts])), (tc, .inl (k 0, tn, .inl tf))] := hD
  refine lv_if_eq (tgt := 25) hx hb dX3_get_6 (by decide) (fun c1 => ?_) (fun c1 => ?_)
  · have h := zt h c1
    refine lv_iconst (v := 0) hx hb dX3_get_25 (by decide) ?_
    obtain rfl := Option.some.inj h
    exact W.iret (v := 0) hx hb hr (fun t ht9 hW => ⟨⟨_, (), rfl, rfl, zend ht9 hP⟩, hS.F ht9⟩) hS.2.2 dX3_get_26
  · have h := zf h c1
    refine lv_aload_n hx hb dX3_get_9 rfl (lv_at hl 0 rfl) ?_
    refine va_get (D := D) (ci := 3) (v := .ref tc) (C := RX3) (T := TX3) (N := 4) hx hb ht hiX3 hown hK hP 0 rfl rfl 2 (by decide) (ht _ wb111) (fun _ h9 => h9) rfl dX3_get_10 ?_
    refine lv_iload_n hx hb dX3_get_13 rfl (lv_at hl 1 rfl) ?_
    refine lv_aload_n hx hb dX3_get_14 rfl (lv_at hl 0 rfl) ?_
    refine va_get (D := D) (ci := 3) (v := .int tw) (C := RX3) (T := TX3) (N := 4) hx hb ht hiX3 hown hK hP 0 rfl rfl 1 (by decide) (ht _ wb110) (fun _ h9 => h9) rfl dX3_get_15 ?_
    refine lv_imul hx hb dX3_get_18 ?_
    refine lv_iload_n hx hb dX3_get_19 rfl (lv_at hl 2 rfl) ?_
    refine lv_iadd hx hb dX3_get_20 ?_
    obtain ⟨hi1, h⟩ := zg h
    refine va_iald hx hb hK hP 1 0 rfl rfl hi1 dX3_get_21 ?_
    refine lv_goto (tgt := 26) hx hb dX3_get_22 (by decide) ?_
    obtain rfl := Option.some.inj h
    exact W.iret (v := tf (Int32.toNatClampNeg ((a1 * tw) + a2))) hx hb hr (fun t ht9 hW => ⟨⟨_, (), rfl, rfl, zend ht9 hP⟩, hS.F ht9⟩) hS.2.2 dX3_get_26
def f_X3_put (tw : Int32) (ts : Int32) (tn : Nat) (tf : Nat → Int32) (a1 : Int32) (a2 : Int32) (a3 : Int32) : Option ((Nat → Int32)) :=
  (f_X3_has tw ts a1 a2).bind fun r1 => if (zB r1) = 0 then (some (tf)) else (if zok ((a1 * tw) + a2) tn then (some (upd tf (Int32.toNatClampNeg ((a1 * tw) + a2)) a3)) else none)
abbrev wk_X3_put : List Cond := Cond.code yX3_put cX3_put 4 none :: WB
abbrev rm_X3_put : Room := { frames := 1, cells := 0, slots := 0, locals := 22 }
set_option maxHeartbeats 4000000 in
set_option maxRecDepth 100000 in
theorem c_X3_put (l : Launch) (D : va_G) (k : Nat → Nat) (t tc : Nat) (tl : Int32) (tw : Int32) (ts : Int32) (tn : Nat) (tf : Nat → Int32) (a1 : Int32) (a2 : Int32) (a3 : Int32) {res : (Nat → Int32)} (h : f_X3_put tw ts tn tf a1 a2 a3 = some res) : Cv l yX3_put wk_X3_put rm_X3_put D k [.ref t, .int a1, .int a2, .int a3] [(t, .inr (3, [.int tl, .int tw, .ref tc, .int ts])), (tc, .inl (k 0, tn, .inl tf))] [(t, .inr (3, [.int tl, .int tw, .ref tc, .int ts])), (tc, .inl (k 0, tn, .inl res))] := by
  unfold Cv
  intro sz
  refine Met.ofW (cc := cX3_put) (maxL := 4) (ret := none) (by decide) rfl ?_
  intro p e s m args below meth c s₁ B hml hv
  obtain ⟨rfl, hsz, hP, hK, hD0, hm⟩ := hv
  have hx := B.exec
  have hb := B.bytes
  have hr := B.returns
  have ht : ∀ w ∈ WB, w.before _ s = true := fun w hw => atoms_spec (ws := wk_X3_put) B.pre w (List.mem_cons_of_mem _ hw)
  have hown : s.vm.findClass RX3 = some m.cls := findClass_of_methodNamed B.named
  have hlocks := B.notSynchronized
  subst hsz
  have hD := hD0.self (sz := s.heap.size)
  generalize hAe : va_A [(t, .inr (3, [.int tl, .int tw, .ref tc, .int ts])), (tc, .inl (k 0, tn, .inl tf))] s.heap.size = A at hD hm ⊢
  have hA : ∀ q : Nat, s.heap.size ≤ q → A q := fun q h => by rw [← hAe]; exact Or.inr h
  have hS : va_S A s.heap s.heap [] := va_S.rf
  have hl := lv_entry ([.ref t, .int a1, .int a2, .int a3]) (n := 4) (Nat.le_of_ble_eq_true rfl)
  rw [lg_entry_eq]
  generalize (lg_sl ([.ref t, .int a1, .int a2, .int a3]) ++ List.replicate (4 - (lg_sl ([.ref t, .int a1, .int a2, .int a3])).length) Slot.unset).toArray = ls at hl ⊢
  have hl : lv_has ls 4 [(0, .ref t), (1, .int a1), (2, .int a2), (3, .int a3)] := hl
  obtain ⟨H, hH⟩ : ∃ H, H = s.heap := ⟨_, rfl⟩
  rw [← hH] at hP
  have hS : va_S A s.heap H [] := by rw [hH]; exact hS
  suffices hgo : W p l e _ s m _ below meth c H [] 0 0 _ _ by rw [hH] at hgo; exact hgo
  unfold f_X3_put at h
  refine lv_aload_n hx hb dX3_put_0 rfl (lv_at hl 0 rfl) ?_
  refine lv_iload_n hx hb dX3_put_1 rfl (lv_at hl 1 rfl) ?_
  refine lv_iload_n hx hb dX3_put_2 rfl (lv_at hl 2 rfl) ?_
  obtain ⟨r1, h1, h⟩ := zb h
  refine zi (zrV (C := RX3) (T := TX3) (N := 4) (As := [.int a1, .int a2]) (rest := []) ⟨hx, hb, hml, hown, ht⟩ (c_X3_has l D k t tc tl tw ts tn tf a1 a2 h1 _) (cwV 2 ht (gdV wb326 wb328 wb2 wb74 wb329) rfl rfl rfl (by decide +kernel) ⟨Nat.le_of_ble_eq_true rfl, Nat.le_of_ble_eq_true rfl⟩) hK hP hD hS hA hm [0, 1] rfl rfl 0 3 rfl rfl rfl hl.1 rfl (Nat.le_of_ble_eq_true rfl) dX3_put_3 ⟨Nat.le_refl _, Nat.le_refl _⟩) hP hD hS hA [0, 1] rfl rfl (fun H locs hP hD hS => ?_)
  have hP : va_P D vwCl [(t, .inr (3, [.int tl, .int tw, .ref tc, .int ts])), (tc, .inl (k 0, tn, .inl tf))] H := hP
  have hD : va_D A [(t, .inr (3, [.int tl, .int tw, .ref tc, .int ts])), (tc, .inl (k 0, tn, .inl tf))] := hD
  refine lv_if_eq (tgt := 23) hx hb dX3_put_6 (by decide) (fun c1 => ?_) (fun c1 => ?_)
  · have h := zt h c1
    obtain rfl := Option.some.inj h
    exact W.vret hx hb hr (fun t ht9 hW => ⟨⟨(), rfl, trivial, zend ht9 hP⟩, hS.F ht9⟩) hS.2.2 dX3_put_23
  · have h := zf h c1
    refine lv_aload_n hx hb dX3_put_9 rfl (lv_at hl 0 rfl) ?_
    refine va_get (D := D) (ci := 3) (v := .ref tc) (C := RX3) (T := TX3) (N := 4) hx hb ht hiX3 hown hK hP 0 rfl rfl 2 (by decide) (ht _ wb111) (fun _ h9 => h9) rfl dX3_put_10 ?_
    refine lv_iload_n hx hb dX3_put_13 rfl (lv_at hl 1 rfl) ?_
    refine lv_aload_n hx hb dX3_put_14 rfl (lv_at hl 0 rfl) ?_
    refine va_get (D := D) (ci := 3) (v := .int tw) (C := RX3) (T := TX3) (N := 4) hx hb ht hiX3 hown hK hP 0 rfl rfl 1 (by decide) (ht _ wb110) (fun _ h9 => h9) rfl dX3_put_15 ?_
    refine lv_imul hx hb dX3_put_18 ?_
    refine lv_iload_n hx hb dX3_put_19 rfl (lv_at hl 2 rfl) ?_
    refine lv_iadd hx hb dX3_put_20 ?_
    refine lv_iload_n hx hb dX3_put_21 rfl (lv_at hl 3 rfl) ?_
    obtain ⟨hi1, h⟩ := zg h
    refine va_iast hx hb hK hP hD hS 1 0 rfl rfl hi1 dX3_put_22 (fun H locs hP hD hS => ?_)
    have hP : va_P D vwCl [(t, .inr (3, [.int tl, .int tw, .ref tc, .int ts])), (tc, .inl (k 0, tn, .inl (upd tf (Int32.toNatClampNeg ((a1 * tw) + a2)) a3)))] H := hP
    have hD : va_D A [(t, .inr (3, [.int tl, .int tw, .ref tc, .int ts])), (tc, .inl (k 0, tn, .inl (upd tf (Int32.toNatClampNeg ((a1 * tw) + a2)) a3)))] := hD
    obtain rfl := Option.some.inj h
    exact W.vret hx hb hr (fun t ht9 hW => ⟨⟨(), rfl, trivial, zend ht9 hP⟩, hS.F ht9⟩) hS.2.2 dX3_put_23
def f_X3_insert (tl : Int32) (tw : Int32) (ts : Int32) (tn : Nat) (tf : Nat → Int32) (a1 : Int32) : Option (Int32 × (Nat → Int32)) :=
  (f_X3_isFull tl ts ).bind fun r1 => if (zB r1) = 0 then (if a1 < 0 then (some (ts, tf)) else (if a1 ≤ ts then (if zcp (a1 * tw) ((a1 + 1) * tw) ((ts - a1) * tw) tn tn then (some (ts + 1, va_cpy tf tf (Int32.toNatClampNeg (a1 * tw)) (Int32.toNatClampNeg ((a1 + 1) * tw)) (Int32.toNatClampNeg ((ts - a1) * tw)))) else none) else (some (ts, tf)))) else (some (ts, tf))
abbrev wk_X3_insert : List Cond := Cond.code yX3_insert cX3_insert 2 none :: WB
abbrev rm_X3_insert : Room := { frames := 1, cells := 0, slots := 0, locals := 48 }
set_option maxHeartbeats 4000000 in
set_option maxRecDepth 100000 in
theorem c_X3_insert (l : Launch) (D : va_G) (k : Nat → Nat) (t tc : Nat) (tl : Int32) (tw : Int32) (ts : Int32) (tn : Nat) (tf : Nat → Int32) (a1 : Int32) {res : Int32 × (Nat → Int32)} (h : f_X3_insert tl tw ts tn tf a1 = some res) : Cv l yX3_insert wk_X3_insert rm_X3_insert D k [.ref t, .int a1] [(t, .inr (3, [.int tl, .int tw, .ref tc, .int ts])), (tc, .inl (k 0, tn, .inl tf))] [(t, .inr (3, [.int tl, .int tw, .ref tc, .int res.1])), (tc, .inl (k 0, tn, .inl res.2))] := by
  unfold Cv
  intro sz
  refine Met.ofW (cc := cX3_insert) (maxL := 2) (ret := none) (by decide) rfl ?_
  intro p e s m args below meth c s₁ B hml hv
  obtain ⟨rfl, hsz, hP, hK, hD0, hm⟩ := hv
  have hx := B.exec
  have hb := B.bytes
  have hr := B.returns
  have ht : ∀ w ∈ WB, w.before _ s = true := fun w hw => atoms_spec (ws := wk_X3_insert) B.pre w (List.mem_cons_of_mem _ hw)
  have hown : s.vm.findClass RX3 = some m.cls := findClass_of_methodNamed B.named
  have hlocks := B.notSynchronized
  subst hsz
  have hD := hD0.self (sz := s.heap.size)
  generalize hAe : va_A [(t, .inr (3, [.int tl, .int tw, .ref tc, .int ts])), (tc, .inl (k 0, tn, .inl tf))] s.heap.size = A at hD hm ⊢
  have hA : ∀ q : Nat, s.heap.size ≤ q → A q := fun q h => by rw [← hAe]; exact Or.inr h
  have hS : va_S A s.heap s.heap [] := va_S.rf
  have hl := lv_entry ([.ref t, .int a1]) (n := 2) (Nat.le_of_ble_eq_true rfl)
  rw [lg_entry_eq]
  generalize (lg_sl ([.ref t, .int a1]) ++ List.replicate (2 - (lg_sl ([.ref t, .int a1])).length) Slot.unset).toArray = ls at hl ⊢
  have hl : lv_has ls 2 [(0, .ref t), (1, .int a1)] := hl
  obtain ⟨H, hH⟩ : ∃ H, H = s.heap := ⟨_, rfl⟩
  rw [← hH] at hP
  have hS : va_S A s.heap H [] := by rw [hH]; exact hS
  suffices hgo : W p l e _ s m _ below meth c H [] 0 0 _ _ by rw [hH] at hgo; exact hgo
  unfold f_X3_insert at h
  refine lv_aload_n hx hb dX3_insert_0 rfl (lv_at hl 0 rfl) ?_
  obtain ⟨r1, h1, h⟩ := zb h
  refine zi (zrV (C := RX3) (T := TX3) (N := 4) (As := []) (rest := []) ⟨hx, hb, hml, hown, ht⟩ (c_X3_isFull l D k t tc tl tw ts tn tf  h1 _) (cwV 0 ht (gdV wb319 wb309 wb310 wb74 wb311) rfl rfl rfl (by decide +kernel) ⟨Nat.le_of_ble_eq_true rfl, Nat.le_of_ble_eq_true rfl⟩) hK hP hD hS hA hm [0, 1] rfl rfl 0 3 rfl rfl rfl hl.1 rfl (Nat.le_of_ble_eq_true rfl) dX3_insert_1 ⟨Nat.le_refl _, Nat.le_refl _⟩) hP hD hS hA [0, 1] rfl rfl (fun H locs hP hD hS => ?_)
  have hP : va_P D vwCl [(t, .inr (3, [.int tl, .int tw, .ref tc, .int ts])), (tc, .inl (k 0, tn, .inl tf))] H := hP
  have hD : va_D A [(t, .inr (3, [.int tl, .int tw, .ref tc, .int ts])), (tc, .inl (k 0, tn, .inl tf))] := hD
  refine lv_if_ne (tgt := 19) hx hb dX3_insert_4 (by decide) (fun c3 => ?_) (fun c3 => ?_)
  · have h := zf h c3
    obtain rfl := Option.some.inj h
    exact W.vret hx hb hr (fun t ht9 hW => ⟨⟨(), rfl, trivial, zend ht9 hP⟩, hS.F ht9⟩) hS.2.2 dX3_insert_19
  · have h := zt h c3
    refine lv_iload_n hx hb dX3_insert_7 rfl (lv_at hl 1 rfl) ?_
    refine lv_if_lt (tgt := 19) hx hb dX3_insert_8 (by decide) (fun c2 => ?_) (fun c2 => ?_)
    · have h := zt h c2
      obtain rfl := Option.some.inj h
      exact W.vret hx hb hr (fun t ht9 hW => ⟨⟨(), rfl, trivial, zend ht9 hP⟩, hS.F ht9⟩) hS.2.2 dX3_insert_19
    · have h := zf h c2
      refine lv_iload_n hx hb dX3_insert_11 rfl (lv_at hl 1 rfl) ?_
      refine lv_aload_n hx hb dX3_insert_12 rfl (lv_at hl 0 rfl) ?_
      refine va_get (D := D) (ci := 3) (v := .int ts) (C := RX3) (T := TX3) (N := 4) hx hb ht hiX3 hown hK hP 0 rfl rfl 3 (by decide) (ht _ wb112) (fun _ h9 => h9) rfl dX3_insert_13 ?_
      refine lv_icmp_le (tgt := 20) hx hb dX3_insert_16 (by decide) (fun c1 => ?_) (fun c1 => ?_)
      · have h := zt h c1
        refine lv_aload_n hx hb dX3_insert_20 rfl (lv_at hl 0 rfl) ?_
        refine va_get (D := D) (ci := 3) (v := .ref tc) (C := RX3) (T := TX3) (N := 4) hx hb ht hiX3 hown hK hP 0 rfl rfl 2 (by decide) (ht _ wb111) (fun _ h9 => h9) rfl dX3_insert_21 ?_
        refine lv_iload_n hx hb dX3_insert_24 rfl (lv_at hl 1 rfl) ?_
        refine lv_aload_n hx hb dX3_insert_25 rfl (lv_at hl 0 rfl) ?_
        refine va_get (D := D) (ci := 3) (v := .int tw) (C := RX3) (T := TX3) (N := 4) hx hb ht hiX3 hown hK hP 0 rfl rfl 1 (by decide) (ht _ wb110) (fun _ h9 => h9) rfl dX3_insert_26 ?_
        refine lv_imul hx hb dX3_insert_29 ?_
        refine lv_aload_n hx hb dX3_insert_30 rfl (lv_at hl 0 rfl) ?_
        refine va_get (D := D) (ci := 3) (v := .ref tc) (C := RX3) (T := TX3) (N := 4) hx hb ht hiX3 hown hK hP 0 rfl rfl 2 (by decide) (ht _ wb111) (fun _ h9 => h9) rfl dX3_insert_31 ?_
        refine lv_iload_n hx hb dX3_insert_34 rfl (lv_at hl 1 rfl) ?_
        refine lv_iconst (v := 1) hx hb dX3_insert_35 (by decide) ?_
        refine lv_iadd hx hb dX3_insert_36 ?_
        refine lv_aload_n hx hb dX3_insert_37 rfl (lv_at hl 0 rfl) ?_
        refine va_get (D := D) (ci := 3) (v := .int tw) (C := RX3) (T := TX3) (N := 4) hx hb ht hiX3 hown hK hP 0 rfl rfl 1 (by decide) (ht _ wb110) (fun _ h9 => h9) rfl dX3_insert_38 ?_
        refine lv_imul hx hb dX3_insert_41 ?_
        refine lv_aload_n hx hb dX3_insert_42 rfl (lv_at hl 0 rfl) ?_
        refine va_get (D := D) (ci := 3) (v := .int ts) (C := RX3) (T := TX3) (N := 4) hx hb ht hiX3 hown hK hP 0 rfl rfl 3 (by decide) (ht _ wb112) (fun _ h9 => h9) rfl dX3_insert_43 ?_
        refine lv_iload_n hx hb dX3_insert_46 rfl (lv_at hl 1 rfl) ?_
        refine lv_isub hx hb dX3_insert_47 ?_
        refine lv_aload_n hx hb dX3_insert_48 rfl (lv_at hl 0 rfl) ?_
        refine va_get (D := D) (ci := 3) (v := .int tw) (C := RX3) (T := TX3) (N := 4) hx hb ht hiX3 hown hK hP 0 rfl rfl 1 (by decide) (ht _ wb110) (fun _ h9 => h9) rfl dX3_insert_49 ?_
        refine lv_imul hx hb dX3_insert_52 ?_
        obtain ⟨ha1, h⟩ := zcp_in h
        refine va_copyi hx hb (hml.trans hl.1.symm) hown (ht _ wb292) (ht _ wb127) (ht _ wb126) (ht _ wb76) hK hP hD hS 1 1 0 0 rfl rfl rfl rfl rfl ha1.1 ha1.2.1 ha1.2.2.1 ha1.2.2.2.1 ha1.2.2.2.2 (fun _ _ => rfl) (Nat.le_of_ble_eq_true rfl) (by decide) dX3_insert_53 (fun H locs hP hD hS => ?_)
        have hP : va_P D vwCl [(t, .inr (3, [.int tl, .int tw, .ref tc, .int ts])), (tc, .inl (k 0, tn, .inl (va_cpy tf tf (Int32.toNatClampNeg (a1 * tw)) (Int32.toNatClampNeg ((a1 + 1) * tw)) (Int32.toNatClampNeg ((ts - a1) * tw)))))] H := hP
        have hD : va_D A [(t, .inr (3, [.int tl, .int tw, .ref tc, .int ts])), (tc, .inl (k 0, tn, .inl (va_cpy tf tf (Int32.toNatClampNeg (a1 * tw)) (Int32.toNatClampNeg ((a1 + 1) * tw)) (Int32.toNatClampNeg ((ts - a1) * tw)))))] := hD
        refine lv_aload_n hx hb dX3_insert_56 rfl (lv_at hl 0 rfl) ?_
        refine lv_dup hx hb dX3_insert_57 rfl ?_
        refine va_get (D := D) (ci := 3) (v := .int ts) (C := RX3) (T := TX3) (N := 4) hx hb ht hiX3 hown hK hP 0 rfl rfl 3 (by decide) (ht _ wb112) (fun _ h9 => h9) rfl dX3_insert_58 ?_
        refine lv_iconst (v := 1) hx hb dX3_insert_61 (by decide) ?_
        refine lv_iadd hx hb dX3_insert_62 ?_
        refine va_put (D := D) (ci := 3) (v := .int (ts + 1)) (ty := .int) (C := RX3) (T := TX3) (N := 4) hx hb ht hiX3 tyX3 tyX3_ok nmX3 hown hK hP hD hS 0 rfl rfl 3 (by decide) (ht _ wb112) (fun _ h9 => h9) rfl (by decide +kernel) rfl rfl (Nat.le_of_ble_eq_true rfl) dX3_insert_63 (fun H locs hP hD hS => ?_)
        have hP : va_P D vwCl [(t, .inr (3, [.int tl, .int tw, .ref tc, .int (ts + 1)])), (tc, .inl (k 0, tn, .inl (va_cpy tf tf (Int32.toNatClampNeg (a1 * tw)) (Int32.toNatClampNeg ((a1 + 1) * tw)) (Int32.toNatClampNeg ((ts - a1) * tw)))))] H := hP
        have hD : va_D A [(t, .inr (3, [.int tl, .int tw, .ref tc, .int (ts + 1)])), (tc, .inl (k 0, tn, .inl (va_cpy tf tf (Int32.toNatClampNeg (a1 * tw)) (Int32.toNatClampNeg ((a1 + 1) * tw)) (Int32.toNatClampNeg ((ts - a1) * tw)))))] := hD
        obtain rfl := Option.some.inj h
        exact W.vret hx hb hr (fun t ht9 hW => ⟨⟨(), rfl, trivial, zend ht9 hP⟩, hS.F ht9⟩) hS.2.2 dX3_insert_66
      · have h := zf h c1
        obtain rfl := Option.some.inj h
        exact W.vret hx hb hr (fun t ht9 hW => ⟨⟨(), rfl, trivial, zend ht9 hP⟩, hS.F ht9⟩) hS.2.2 dX3_insert_19
def f_X3_remove (tw : Int32) (ts : Int32) (tn : Nat) (tf : Nat → Int32) (a1 : Int32) : Option (Int32 × (Nat → Int32)) :=
  if a1 < 0 then (some (ts, tf)) else (if a1 < ts then (if zcp ((a1 + 1) * tw) (a1 * tw) (((ts - 1) - a1) * tw) tn tn then (some (ts - 1, va_cpy tf tf (Int32.toNatClampNeg ((a1 + 1) * tw)) (Int32.toNatClampNeg (a1 * tw)) (Int32.toNatClampNeg (((ts - 1) - a1) * tw)))) else none) else (some (ts, tf)))
abbrev wk_X3_remove : List Cond := Cond.code yX3_remove cX3_remove 2 none :: WB
abbrev rm_X3_remove : Room := { frames := 1, cells := 0, slots := 0, locals := 48 }
set_option maxHeartbeats 4000000 in
set_option maxRecDepth 100000 in
theorem c_X3_remove (l : Launch) (D : va_G) (k : Nat → Nat) (t tc : Nat) (tl : Int32) (tw : Int32) (ts : Int32) (tn : Nat) (tf : Nat → Int32) (a1 : Int32) {res : Int32 × (Nat → Int32)} (h : f_X3_remove tw ts tn tf a1 = some res) : Cv l yX3_remove wk_X3_remove rm_X3_remove D k [.ref t, .int a1] [(t, .inr (3, [.int tl, .int tw, .ref tc, .int ts])), (tc, .inl (k 0, tn, .inl tf))] [(t, .inr (3, [.int tl, .int tw, .ref tc, .int res.1])), (tc, .inl (k 0, tn, .inl res.2))] := by
  unfold Cv
  intro sz
  refine Met.ofW (cc := cX3_remove) (maxL := 2) (ret := none) (by decide) rfl ?_
  intro p e s m args below meth c s₁ B hml hv
  obtain ⟨rfl, hsz, hP, hK, hD0, hm⟩ := hv
  have hx := B.exec
  have hb := B.bytes
  have hr := B.returns
  have ht : ∀ w ∈ WB, w.before _ s = true := fun w hw => atoms_spec (ws := wk_X3_remove) B.pre w (List.mem_cons_of_mem _ hw)
  have hown : s.vm.findClass RX3 = some m.cls := findClass_of_methodNamed B.named
  have hlocks := B.notSynchronized
  subst hsz
  have hD := hD0.self (sz := s.heap.size)
  generalize hAe : va_A [(t, .inr (3, [.int tl, .int tw, .ref tc, .int ts])), (tc, .inl (k 0, tn, .inl tf))] s.heap.size = A at hD hm ⊢
  have hA : ∀ q : Nat, s.heap.size ≤ q → A q := fun q h => by rw [← hAe]; exact Or.inr h
  have hS : va_S A s.heap s.heap [] := va_S.rf
  have hl := lv_entry ([.ref t, .int a1]) (n := 2) (Nat.le_of_ble_eq_true rfl)
  rw [lg_entry_eq]
  generalize (lg_sl ([.ref t, .int a1]) ++ List.replicate (2 - (lg_sl ([.ref t, .int a1])).length) Slot.unset).toArray = ls at hl ⊢
  have hl : lv_has ls 2 [(0, .ref t), (1, .int a1)] := hl
  obtain ⟨H, hH⟩ : ∃ H, H = s.heap := ⟨_, rfl⟩
  rw [← hH] at hP
  have hS : va_S A s.heap H [] := by rw [hH]; exact hS
  suffices hgo : W p l e _ s m _ below meth c H [] 0 0 _ _ by rw [hH] at hgo; exact hgo
  unfold f_X3_remove at h
  refine lv_iload_n hx hb dX3_remove_0 rfl (lv_at hl 1 rfl) ?_
  refine lv_if_lt (tgt := 12) hx hb dX3_remove_1 (by decide) (fun c2 => ?_) (fun c2 => ?_)
  · have h := zt h c2
    obtain rfl := Option.some.inj h
    exact W.vret hx hb hr (fun t ht9 hW => ⟨⟨(), rfl, trivial, zend ht9 hP⟩, hS.F ht9⟩) hS.2.2 dX3_remove_12
  · have h := zf h c2
    refine lv_iload_n hx hb dX3_remove_4 rfl (lv_at hl 1 rfl) ?_
    refine lv_aload_n hx hb dX3_remove_5 rfl (lv_at hl 0 rfl) ?_
    refine va_get (D := D) (ci := 3) (v := .int ts) (C := RX3) (T := TX3) (N := 4) hx hb ht hiX3 hown hK hP 0 rfl rfl 3 (by decide) (ht _ wb112) (fun _ h9 => h9) rfl dX3_remove_6 ?_
    refine lv_icmp_lt (tgt := 13) hx hb dX3_remove_9 (by decide) (fun c1 => ?_) (fun c1 => ?_)
    · have h := zt h c1
      refine lv_aload_n hx hb dX3_remove_13 rfl (lv_at hl 0 rfl) ?_
      refine lv_dup hx hb dX3_remove_14 rfl ?_
      refine va_get (D := D) (ci := 3) (v := .int ts) (C := RX3) (T := TX3) (N := 4) hx hb ht hiX3 hown hK hP 0 rfl rfl 3 (by decide) (ht _ wb112) (fun _ h9 => h9) rfl dX3_remove_15 ?_
      refine lv_iconst (v := 1) hx hb dX3_remove_18 (by decide) ?_
      refine lv_isub hx hb dX3_remove_19 ?_
      refine va_put (D := D) (ci := 3) (v := .int (ts - 1)) (ty := .int) (C := RX3) (T := TX3) (N := 4) hx hb ht hiX3 tyX3 tyX3_ok nmX3 hown hK hP hD hS 0 rfl rfl 3 (by decide) (ht _ wb112) (fun _ h9 => h9) rfl (by decide +kernel) rfl rfl (Nat.le_of_ble_eq_true rfl) dX3_remove_20 (fun H locs hP hD hS => ?_)
      have hP : va_P D vwCl [(t, .inr (3, [.int tl, .int tw, .ref tc, .int (ts - 1)])), (tc, .inl (k 0, tn, .inl tf))] H := hP
      have hD : va_D A [(t, .inr (3, [.int tl, .int tw, .ref tc, .int (ts - 1)])), (tc, .inl (k 0, tn, .inl tf))] := hD
      refine lv_aload_n hx hb dX3_remove_23 rfl (lv_at hl 0 rfl) ?_
      refine va_get (D := D) (ci := 3) (v := .ref tc) (C := RX3) (T := TX3) (N := 4) hx hb ht hiX3 hown hK hP 0 rfl rfl 2 (by decide) (ht _ wb111) (fun _ h9 => h9) rfl dX3_remove_24 ?_
      refine lv_iload_n hx hb dX3_remove_27 rfl (lv_at hl 1 rfl) ?_
      refine lv_iconst (v := 1) hx hb dX3_remove_28 (by decide) ?_
      refine lv_iadd hx hb dX3_remove_29 ?_
      refine lv_aload_n hx hb dX3_remove_30 rfl (lv_at hl 0 rfl) ?_
      refine va_get (D := D) (ci := 3) (v := .int tw) (C := RX3) (T := TX3) (N := 4) hx hb ht hiX3 hown hK hP 0 rfl rfl 1 (by decide) (ht _ wb110) (fun _ h9 => h9) rfl dX3_remove_31 ?_
      refine lv_imul hx hb dX3_remove_34 ?_
      refine lv_aload_n hx hb dX3_remove_35 rfl (lv_at hl 0 rfl) ?_
      refine va_get (D := D) (ci := 3) (v := .ref tc) (C := RX3) (T := TX3) (N := 4) hx hb ht hiX3 hown hK hP 0 rfl rfl 2 (by decide) (ht _ wb111) (fun _ h9 => h9) rfl dX3_remove_36 ?_
      refine lv_iload_n hx hb dX3_remove_39 rfl (lv_at hl 1 rfl) ?_
      refine lv_aload_n hx hb dX3_remove_40 rfl (lv_at hl 0 rfl) ?_
      refine va_get (D := D) (ci := 3) (v := .int tw) (C := RX3) (T := TX3) (N := 4) hx hb ht hiX3 hown hK hP 0 rfl rfl 1 (by decide) (ht _ wb110) (fun _ h9 => h9) rfl dX3_remove_41 ?_
      refine lv_imul hx hb dX3_remove_44 ?_
      refine lv_aload_n hx hb dX3_remove_45 rfl (lv_at hl 0 rfl) ?_
      refine va_get (D := D) (ci := 3) (v := .int (ts - 1)) (C := RX3) (T := TX3) (N := 4) hx hb ht hiX3 hown hK hP 0 rfl rfl 3 (by decide) (ht _ wb112) (fun _ h9 => h9) rfl dX3_remove_46 ?_
      refine lv_iload_n hx hb dX3_remove_49 rfl (lv_at hl 1 rfl) ?_
      refine lv_isub hx hb dX3_remove_50 ?_
      refine lv_aload_n hx hb dX3_remove_51 rfl (lv_at hl 0 rfl) ?_
      refine va_get (D := D) (ci := 3) (v := .int tw) (C := RX3) (T := TX3) (N := 4) hx hb ht hiX3 hown hK hP 0 rfl rfl 1 (by decide) (ht _ wb110) (fun _ h9 => h9) rfl dX3_remove_52 ?_
      refine lv_imul hx hb dX3_remove_55 ?_
      obtain ⟨ha1, h⟩ := zcp_in h
      refine va_copyi hx hb (hml.trans hl.1.symm) hown (ht _ wb292) (ht _ wb127) (ht _ wb126) (ht _ wb76) hK hP hD hS 1 1 0 0 rfl rfl rfl rfl rfl ha1.1 ha1.2.1 ha1.2.2.1 ha1.2.2.2.1 ha1.2.2.2.2 (fun _ _ => rfl) (Nat.le_of_ble_eq_true rfl) (by decide) dX3_remove_56 (fun H locs hP hD hS => ?_)
      have hP : va_P D vwCl [(t, .inr (3, [.int tl, .int tw, .ref tc, .int (ts - 1)])), (tc, .inl (k 0, tn, .inl (va_cpy tf tf (Int32.toNatClampNeg ((a1 + 1) * tw)) (Int32.toNatClampNeg (a1 * tw)) (Int32.toNatClampNeg (((ts - 1) - a1) * tw)))))] H := hP
      have hD : va_D A [(t, .inr (3, [.int tl, .int tw, .ref tc, .int (ts - 1)])), (tc, .inl (k 0, tn, .inl (va_cpy tf tf (Int32.toNatClampNeg ((a1 + 1) * tw)) (Int32.toNatClampNeg (a1 * tw)) (Int32.toNatClampNeg (((ts - 1) - a1) * tw)))))] := hD
      obtain rfl := Option.some.inj h
      exact W.vret hx hb hr (fun t ht9 hW => ⟨⟨(), rfl, trivial, zend ht9 hP⟩, hS.F ht9⟩) hS.2.2 dX3_remove_59
    · have h := zf h c1
      obtain rfl := Option.some.inj h
      exact W.vret hx hb hr (fun t ht9 hW => ⟨⟨(), rfl, trivial, zend ht9 hP⟩, hS.F ht9⟩) hS.2.2 dX3_remove_12
def f_X3_exchange_L2 (fu : Nat) (K : Int32 → (Nat → Int32) → Option ((Nat → Int32))) (v1 : Int32) (v2 : Int32) (tw : Int32) (ts : Int32) (tn : Nat) : Nat → Int32 → (Nat → Int32) → Option ((Nat → Int32))
  | 0, _, _ => none
  | n + 1, v3, tf =>
  if tw ≤ v3 then (K v3 tf) else ((f_X3_get tw ts tn tf v1 v3).bind fun r1 => (f_X3_get tw ts tn tf v2 v3).bind fun r2 => (f_X3_put tw ts tn tf v1 v3 r2).bind fun r3 => (f_X3_put tw ts tn r3 v2 v3 r1).bind fun r4 => f_X3_exchange_L2 fu K v1 v2 tw ts tn n (v3 + 1) r4)
def f_X3_exchange (fu : Nat) (tw : Int32) (ts : Int32) (tn : Nat) (tf : Nat → Int32) (a1 : Int32) (a2 : Int32) : Option ((Nat → Int32)) :=
  f_X3_exchange_L2 fu (fun (x1 : Int32) (x2 : Nat → Int32) => some (x2)) a1 a2 tw ts tn fu 0 tf
abbrev wk_X3_exchange : List Cond := Cond.code yX3_exchange cX3_exchange 5 none :: WB
abbrev rm_X3_exchange : Room := { frames := 2, cells := 0, slots := 0, locals := 45 }
set_option maxHeartbeats 4000000 in
set_option maxRecDepth 100000 in
theorem c_X3_exchange (l : Launch) (D : va_G) (k : Nat → Nat) (t tc : Nat) (tl : Int32) (tw : Int32) (ts : Int32) (tn : Nat) (tf : Nat → Int32) (a1 : Int32) (a2 : Int32) (fu : Nat) {res : (Nat → Int32)} (h : f_X3_exchange fu tw ts tn tf a1 a2 = some res) : Cv l yX3_exchange wk_X3_exchange rm_X3_exchange D k [.ref t, .int a1, .int a2] [(t, .inr (3, [.int tl, .int tw, .ref tc, .int ts])), (tc, .inl (k 0, tn, .inl tf))] [(t, .inr (3, [.int tl, .int tw, .ref tc, .int ts])), (tc, .inl (k 0, tn, .inl res))] := by
  unfold Cv
  intro sz
  refine Met.ofW (cc := cX3_exchange) (maxL := 5) (ret := none) (by decide) rfl ?_
  intro p e s m args below meth c s₁ B hml hv
  obtain ⟨rfl, hsz, hP, hK, hD0, hm⟩ := hv
  have hx := B.exec
  have hb := B.bytes
  have hr := B.returns
  have ht : ∀ w ∈ WB, w.before _ s = true := fun w hw => atoms_spec (ws := wk_X3_exchange) B.pre w (List.mem_cons_of_mem _ hw)
  have hown : s.vm.findClass RX3 = some m.cls := findClass_of_methodNamed B.named
  have hlocks := B.notSynchronized
  subst hsz
  have hD := hD0.self (sz := s.heap.size)
  generalize hAe : va_A [(t, .inr (3, [.int tl, .int tw, .ref tc, .int ts])), (tc, .inl (k 0, tn, .inl tf))] s.heap.size = A at hD hm ⊢
  have hA : ∀ q : Nat, s.heap.size ≤ q → A q := fun q h => by rw [← hAe]; exact Or.inr h
  have hS : va_S A s.heap s.heap [] := va_S.rf
  have hl := lv_entry ([.ref t, .int a1, .int a2]) (n := 5) (Nat.le_of_ble_eq_true rfl)
  rw [lg_entry_eq]
  generalize (lg_sl ([.ref t, .int a1, .int a2]) ++ List.replicate (5 - (lg_sl ([.ref t, .int a1, .int a2])).length) Slot.unset).toArray = ls at hl ⊢
  have hl : lv_has ls 5 [(0, .ref t), (1, .int a1), (2, .int a2)] := hl
  obtain ⟨H, hH⟩ : ∃ H, H = s.heap := ⟨_, rfl⟩
  rw [← hH] at hP
  have hS : va_S A s.heap H [] := by rw [hH]; exact hS
  suffices hgo : W p l e _ s m _ below meth c H [] 0 0 _ _ by rw [hH] at hgo; exact hgo
  unfold f_X3_exchange at h
  refine lv_iconst (v := 0) hx hb dX3_exchange_0 (by decide) ?_
  refine lv_istore_n (lv' := [(3, .int 0), (0, .ref t), (1, .int a1), (2, .int a2)]) hx hb dX3_exchange_1 rfl hl (by decide) rfl (fun ls hl => ?_)
  have loop2 : ∀ (v1 : Int32) (v2 : Int32) (tl : Int32) (tw : Int32) (ts : Int32) (tn : Nat), ∀ (K : Int32 → (Nat → Int32) → Option ((Nat → Int32))), (∀ (v3 : Int32) (tf : Nat → Int32), K v3 tf = some res → ∀ (H : Heap) (locs : List Loc), va_P D vwCl [(t, .inr (3, [.int tl, .int tw, .ref tc, .int ts])), (tc, .inl (k 0, tn, .inl tf))] H → va_D A [(t, .inr (3, [.int tl, .int tw, .ref tc, .int ts])), (tc, .inl (k 0, tn, .inl tf))] → va_S A s.heap H locs → ∀ ls : Array Slot, lv_has ls 5 [(0, .ref t), (1, .int v1), (2, .int v2), (3, .int v3)] → W p l e (headSpec wk_X3_exchange rm_X3_exchange).room s m ([.ref t, .int a1, .int a2] : List Value).toArray below meth c H locs 0 0 (MQ below (va_Qv (fun (_ : Unit) => True) (fun _ tq9 => va_P D vwCl [(t, .inr (3, [.int tl, .int tw, .ref tc, .int ts])), (tc, .inl (k 0, tn, .inl res))] tq9.heap) A) ([.ref t, .int a1, .int a2] : List Value).toArray s 0 0 A) (F0 m 44 ls [])) → ∀ (n : Nat) (v3 : Int32) (tf : Nat → Int32), f_X3_exchange_L2 fu K v1 v2 tw ts tn n v3 tf = some res → ∀ (H : Heap) (locs : List Loc), va_P D vwCl [(t, .inr (3, [.int tl, .int tw, .ref tc, .int ts])), (tc, .inl (k 0, tn, .inl tf))] H → va_D A [(t, .inr (3, [.int tl, .int tw, .ref tc, .int ts])), (tc, .inl (k 0, tn, .inl tf))] → va_S A s.heap H locs → ∀ ls : Array Slot, lv_has ls 5 [(0, .ref t), (1, .int v1), (2, .int v2), (3, .int v3)] → W p l e (headSpec wk_X3_exchange rm_X3_exchange).room s m ([.ref t, .int a1, .int a2] : List Value).toArray below meth c H locs 0 0 (MQ below (va_Qv (fun (_ : Unit) => True) (fun _ tq9 => va_P D vwCl [(t, .inr (3, [.int tl, .int tw, .ref tc, .int ts])), (tc, .inl (k 0, tn, .inl res))] tq9.heap) A) ([.ref t, .int a1, .int a2] : List Value).toArray s 0 0 A) (F0 m 2 ls []) := by
    intro v1 v2 tl tw ts tn K hKK n
    induction n with
    | zero =>
      intro v3 tf h
      rw [f_X3_exchange_L2] at h
      cases h
    | succ n ih =>
      intro v3 tf h H locs hP hD hS ls hl
      rw [f_X3_exchange_L2] at h
      refine lv_iload_n hx hb dX3_exchange_2 rfl (lv_at hl 3 rfl) ?_
      refine lv_aload_n hx hb dX3_exchange_3 rfl (lv_at hl 0 rfl) ?_
      refine va_get (D := D) (ci := 3) (v := .int tw) (C := RX3) (T := TX3) (N := 4) hx hb ht hiX3 hown hK hP 0 rfl rfl 1 (by decide) (ht _ wb110) (fun _ h9 => h9) rfl dX3_exchange_4 ?_
      refine lv_icmp_ge (tgt := 44) hx hb dX3_exchange_7 (by decide) (fun c1 => ?_) (fun c1 => ?_)
      · have h := zt h c1
        exact hKK _ _ h _ _ hP hD hS _ (lv_sub hl [0, 1, 2, 3] rfl)
      · have h := zf h c1
        refine lv_aload_n hx hb dX3_exchange_10 rfl (lv_at hl 0 rfl) ?_
        refine lv_iload_n hx hb dX3_exchange_11 rfl (lv_at hl 1 rfl) ?_
        refine lv_iload_n hx hb dX3_exchange_12 rfl (lv_at hl 3 rfl) ?_
        obtain ⟨r1, h1, h⟩ := zb h
        refine zi (zrV (C := RX3) (T := TX3) (N := 4) (As := [.int v1, .int v3]) (rest := []) ⟨hx, hb, hml, hown, ht⟩ (c_X3_get l D k t tc tl tw ts tn tf v1 v3 h1 _) (cwV 2 ht (gdV wb363 wb344 wb345 wb74 wb346) rfl rfl rfl (by decide +kernel) ⟨Nat.le_of_ble_eq_true rfl, Nat.le_of_ble_eq_true rfl⟩) hK hP hD hS hA hm [0, 1] rfl rfl 0 3 rfl rfl rfl hl.1 rfl (Nat.le_of_ble_eq_true rfl) dX3_exchange_13 ⟨Nat.le_refl _, Nat.le_refl _⟩) hP hD hS hA [0, 1] rfl rfl (fun H locs hP hD hS => ?_)
        have hP : va_P D vwCl [(t, .inr (3, [.int tl, .int tw, .ref tc, .int ts])), (tc, .inl (k 0, tn, .inl tf))] H := hP
        have hD : va_D A [(t, .inr (3, [.int tl, .int tw, .ref tc, .int ts])), (tc, .inl (k 0, tn, .inl tf))] := hD
        refine lv_istore (lv' := [(4, .int r1), (0, .ref t), (1, .int v1), (2, .int v2), (3, .int v3)]) hx hb dX3_exchange_16 hl (by decide) rfl (fun ls hl => ?_)
        refine lv_aload_n hx hb dX3_exchange_18 rfl (lv_at hl 1 rfl) ?_
        refine lv_iload_n hx hb dX3_exchange_19 rfl (lv_at hl 2 rfl) ?_
        refine lv_iload_n hx hb dX3_exchange_20 rfl (lv_at hl 4 rfl) ?_
        refine lv_aload_n hx hb dX3_exchange_21 rfl (lv_at hl 1 rfl) ?_
        refine lv_iload_n hx hb dX3_exchange_22 rfl (lv_at hl 3 rfl) ?_
        refine lv_iload_n hx hb dX3_exchange_23 rfl (lv_at hl 4 rfl) ?_
        obtain ⟨r2, h2, h⟩ := zb h
        refine zi (zrV (C := RX3) (T := TX3) (N := 4) (As := [.int v2, .int v3]) (rest := [.int v3, .int v1, .ref t]) ⟨hx, hb, hml, hown, ht⟩ (c_X3_get l D k t tc tl tw ts tn tf v2 v3 h2 _) (cwV 2 ht (gdV wb363 wb344 wb345 wb74 wb346) rfl rfl rfl (by decide +kernel) ⟨Nat.le_of_ble_eq_true rfl, Nat.le_of_ble_eq_true rfl⟩) hK hP hD hS hA hm [0, 1] rfl rfl 0 3 rfl rfl rfl hl.1 rfl (Nat.le_of_ble_eq_true rfl) dX3_exchange_24 ⟨Nat.le_refl _, Nat.le_refl _⟩) hP hD hS hA [0, 1] rfl rfl (fun H locs hP hD hS => ?_)
        have hP : va_P D vwCl [(t, .inr (3, [.int tl, .int tw, .ref tc, .int ts])), (tc, .inl (k 0, tn, .inl tf))] H := hP
        have hD : va_D A [(t, .inr (3, [.int tl, .int tw, .ref tc, .int ts])), (tc, .inl (k 0, tn, .inl tf))] := hD
        obtain ⟨r3, h3, h⟩ := zb h
        refine zv (zrV (C := RX3) (T := TX3) (N := 4) (As := [.int v1, .int v3, .int r2]) (rest := []) ⟨hx, hb, hml, hown, ht⟩ (c_X3_put l D k t tc tl tw ts tn tf v1 v3 r2 h3 _) (cwV 3 ht (gdV wb364 wb323 wb324 wb74 wb325) rfl rfl rfl (by decide +kernel) ⟨Nat.le_of_ble_eq_true rfl, Nat.le_of_ble_eq_true rfl⟩) hK hP hD hS hA hm [0, 1] rfl rfl 0 3 rfl rfl rfl hl.1 rfl (Nat.le_of_ble_eq_true rfl) dX3_exchange_27 ⟨Nat.le_refl _, Nat.le_refl _⟩) hP hD hS hA [0, 1] rfl rfl (fun H locs hP hD hS => ?_)
        have hP : va_P D vwCl [(t, .inr (3, [.int tl, .int tw, .ref tc, .int ts])), (tc, .inl (k 0, tn, .inl r3))] H := hP
        have hD : va_D A [(t, .inr (3, [.int tl, .int tw, .ref tc, .int ts])), (tc, .inl (k 0, tn, .inl r3))] := hD
        refine lv_aload_n hx hb dX3_exchange_30 rfl (lv_at hl 1 rfl) ?_
        refine lv_iload_n hx hb dX3_exchange_31 rfl (lv_at hl 3 rfl) ?_
        refine lv_iload_n hx hb dX3_exchange_32 rfl (lv_at hl 4 rfl) ?_
        refine lv_iload hx hb dX3_exchange_33 (lv_at hl 0 rfl) ?_
        obtain ⟨r4, h4, h⟩ := zb h
        refine zv (zrV (C := RX3) (T := TX3) (N := 4) (As := [.int v2, .int v3, .int r1]) (rest := []) ⟨hx, hb, hml, hown, ht⟩ (c_X3_put l D k t tc tl tw ts tn r3 v2 v3 r1 h4 _) (cwV 3 ht (gdV wb364 wb323 wb324 wb74 wb325) rfl rfl rfl (by decide +kernel) ⟨Nat.le_of_ble_eq_true rfl, Nat.le_of_ble_eq_true rfl⟩) hK hP hD hS hA hm [0, 1] rfl rfl 0 3 rfl rfl rfl hl.1 rfl (Nat.le_of_ble_eq_true rfl) dX3_exchange_35 ⟨Nat.le_refl _, Nat.le_refl _⟩) hP hD hS hA [0, 1] rfl rfl (fun H locs hP hD hS => ?_)
        have hP : va_P D vwCl [(t, .inr (3, [.int tl, .int tw, .ref tc, .int ts])), (tc, .inl (k 0, tn, .inl r4))] H := hP
        have hD : va_D A [(t, .inr (3, [.int tl, .int tw, .ref tc, .int ts])), (tc, .inl (k 0, tn, .inl r4))] := hD
        refine lv_iinc (v := v3 + 1) (lv' := [(3, .int (v3 + 1)), (4, .int r1), (0, .ref t), (1, .int v1), (2, .int v2)]) hx hb dX3_exchange_38 hl (k := 4) rfl rfl (by decide) rfl (fun ls hl => ?_)
        refine lv_goto (tgt := 2) hx hb dX3_exchange_41 (by decide) ?_
        exact ih _ _ h _ _ hP hD hS _ (lv_sub hl [2, 3, 4, 0] rfl)
  refine loop2 _ _ _ _ _ _ _ ?_ fu _ _ h _ _ hP hD hS _ (lv_sub hl [1, 2, 3, 0] rfl)
  intro x1 x2 h H locs hP hD hS ls hl
  try dsimp only at h
  have hP : va_P D vwCl [(t, .inr (3, [.int tl, .int tw, .ref tc, .int ts])), (tc, .inl (k 0, tn, .inl x2))] H := hP
  have hD : va_D A [(t, .inr (3, [.int tl, .int tw, .ref tc, .int ts])), (tc, .inl (k 0, tn, .inl x2))] := hD
  have hl : lv_has ls 5 [(0, .ref t), (1, .int a1), (2, .int a2), (3, .int x1)] := hl
  obtain rfl := Option.some.inj h
  exact W.vret hx hb hr (fun t ht9 hW => ⟨⟨(), rfl, trivial, zend ht9 hP⟩, hS.F ht9⟩) hS.2.2 dX3_exchange_44
def f_X3_rowOfCase_L3 (fu : Nat) (K : Int32 → Option (Int32)) (v1 : Int32) (v2 : Int32) (v3 : Int32) (v4 : Int32) (tw : Int32) (ts : Int32) (tn : Nat) (tf : Nat → Int32) : Nat → Int32 → Option (Int32)
  | 0, _ => none
  | n + 1, v5 =>
  if ts ≤ v5 then (K v5) else ((f_X3_get tw ts tn tf v5 0).bind fun r1 => if r1 = v1 then ((f_X3_get tw ts tn tf v5 1).bind fun r2 => if r2 = v2 then ((f_X3_get tw ts tn tf v5 2).bind fun r3 => if r3 = v3 then ((f_X3_get tw ts tn tf v5 3).bind fun r4 => if r4 = v4 then (some (v5)) else (f_X3_rowOfCase_L3 fu K v1 v2 v3 v4 tw ts tn tf n (v5 + 1))) else (f_X3_rowOfCase_L3 fu K v1 v2 v3 v4 tw ts tn tf n (v5 + 1))) else (f_X3_rowOfCase_L3 fu K v1 v2 v3 v4 tw ts tn tf n (v5 + 1))) else (f_X3_rowOfCase_L3 fu K v1 v2 v3 v4 tw ts tn tf n (v5 + 1)))
def f_X3_rowOfCase (fu : Nat) (tw : Int32) (ts : Int32) (tn : Nat) (tf : Nat → Int32) (a1 : Int32) (a2 : Int32) (a3 : Int32) (a4 : Int32) : Option (Int32) :=
  f_X3_rowOfCase_L3 fu (fun (x1 : Int32) => some ((-1))) a1 a2 a3 a4 tw ts tn tf fu 0
abbrev wk_X3_rowOfCase : List Cond := Cond.code yX3_rowOfCase cX3_rowOfCase 6 (some .int) :: WB
abbrev rm_X3_rowOfCase : Room := { frames := 2, cells := 0, slots := 0, locals := 44 }
set_option maxHeartbeats 4000000 in
set_option maxRecDepth 100000 in
theorem c_X3_rowOfCase (l : Launch) (D : va_G) (k : Nat → Nat) (t tc : Nat) (tl : Int32) (tw : Int32) (ts : Int32) (tn : Nat) (tf : Nat → Int32) (a1 : Int32) (a2 : Int32) (a3 : Int32) (a4 : Int32) (fu : Nat) {res : Int32} (h : f_X3_rowOfCase fu tw ts tn tf a1 a2 a3 a4 = some res) : Ci l yX3_rowOfCase wk_X3_rowOfCase rm_X3_rowOfCase D k [.ref t, .int a1, .int a2, .int a3, .int a4] [(t, .inr (3, [.int tl, .int tw, .ref tc, .int ts])), (tc, .inl (k 0, tn, .inl tf))] [(t, .inr (3, [.int tl, .int tw, .ref tc, .int ts])), (tc, .inl (k 0, tn, .inl tf))] res := by
  unfold Ci
  intro sz
  refine Met.ofW (cc := cX3_rowOfCase) (maxL := 6) (ret := (some .int)) (by decide) rfl ?_
  intro p e s m args below meth c s₁ B hml hv
  obtain ⟨rfl, hsz, hP, hK, hD0, hm⟩ := hv
  have hx := B.exec
  have hb := B.bytes
  have hr := B.returns
  have ht : ∀ w ∈ WB, w.before _ s = true := fun w hw => atoms_spec (ws := wk_X3_rowOfCase) B.pre w (List.mem_cons_of_mem _ hw)
  have hown : s.vm.findClass RX3 = some m.cls := findClass_of_methodNamed B.named
  have hlocks := B.notSynchronized
  subst hsz
  have hD := hD0.self (sz := s.heap.size)
  generalize hAe : va_A [(t, .inr (3, [.int tl, .int tw, .ref tc, .int ts])), (tc, .inl (k 0, tn, .inl tf))] s.heap.size = A at hD hm ⊢
  have hA : ∀ q : Nat, s.heap.size ≤ q → A q := fun q h => by rw [← hAe]; exact Or.inr h
  have hS : va_S A s.heap s.heap [] := va_S.rf
  have hl := lv_entry ([.ref t, .int a1, .int a2, .int a3, .int a4]) (n := 6) (Nat.le_of_ble_eq_true rfl)
  rw [lg_entry_eq]
  generalize (lg_sl ([.ref t, .int a1, .int a2, .int a3, .int a4]) ++ List.replicate (6 - (lg_sl ([.ref t, .int a1, .int a2, .int a3, .int a4])).length) Slot.unset).toArray = ls at hl ⊢
  have hl : lv_has ls 6 [(0, .ref t), (1, .int a1), (2, .int a2), (3, .int a3), (4, .int a4)] := hl
  obtain ⟨H, hH⟩ : ∃ H, H = s.heap := ⟨_, rfl⟩
  rw [← hH] at hP
  have hS : va_S A s.heap H [] := by rw [hH]; exact hS
  suffices hgo : W p l e _ s m _ below meth c H [] 0 0 _ _ by rw [hH] at hgo; exact hgo
  unfold f_X3_rowOfCase at h
  refine lv_iconst (v := 0) hx hb dX3_rowOfCase_0 (by decide) ?_
  refine lv_istore (lv' := [(5, .int 0), (0, .ref t), (1, .int a1), (2, .int a2), (3, .int a3), (4, .int a4)]) hx hb dX3_rowOfCase_1 hl (by decide) rfl (fun ls hl => ?_)
  have loop3 : ∀ (v1 : Int32) (v2 : Int32) (v3 : Int32) (v4 : Int32) (tl : Int32) (tw : Int32) (ts : Int32) (tn : Nat) (tf : Nat → Int32), ∀ (K : Int32 → Option (Int32)), (∀ (v5 : Int32), K v5 = some res → ∀ (H : Heap) (locs : List Loc), va_P D vwCl [(t, .inr (3, [.int tl, .int tw, .ref tc, .int ts])), (tc, .inl (k 0, tn, .inl tf))] H → va_D A [(t, .inr (3, [.int tl, .int tw, .ref tc, .int ts])), (tc, .inl (k 0, tn, .inl tf))] → va_S A s.heap H locs → ∀ ls : Array Slot, lv_has ls 6 [(0, .ref t), (1, .int v1), (2, .int v2), (3, .int v3), (4, .int v4), (5, .int v5)] → W p l e (headSpec wk_X3_rowOfCase rm_X3_rowOfCase).room s m ([.ref t, .int a1, .int a2, .int a3, .int a4] : List Value).toArray below meth c H locs 0 0 (MQ below (va_Qi (fun xq9 (_ : Unit) => xq9 = res) (fun _ tq9 => va_P D vwCl [(t, .inr (3, [.int tl, .int tw, .ref tc, .int ts])), (tc, .inl (k 0, tn, .inl tf))] tq9.heap) A) ([.ref t, .int a1, .int a2, .int a3, .int a4] : List Value).toArray s 0 0 A) (F0 m 66 ls [])) → ∀ (n : Nat) (v5 : Int32), f_X3_rowOfCase_L3 fu K v1 v2 v3 v4 tw ts tn tf n v5 = some res → ∀ (H : Heap) (locs : List Loc), va_P D vwCl [(t, .inr (3, [.int tl, .int tw, .ref tc, .int ts])), (tc, .inl (k 0, tn, .inl tf))] H → va_D A [(t, .inr (3, [.int tl, .int tw, .ref tc, .int ts])), (tc, .inl (k 0, tn, .inl tf))] → va_S A s.heap H locs → ∀ ls : Array Slot, lv_has ls 6 [(0, .ref t), (1, .int v1), (2, .int v2), (3, .int v3), (4, .int v4), (5, .int v5)] → W p l e (headSpec wk_X3_rowOfCase rm_X3_rowOfCase).room s m ([.ref t, .int a1, .int a2, .int a3, .int a4] : List Value).toArray below meth c H locs 0 0 (MQ below (va_Qi (fun xq9 (_ : Unit) => xq9 = res) (fun _ tq9 => va_P D vwCl [(t, .inr (3, [.int tl, .int tw, .ref tc, .int ts])), (tc, .inl (k 0, tn, .inl tf))] tq9.heap) A) ([.ref t, .int a1, .int a2, .int a3, .int a4] : List Value).toArray s 0 0 A) (F0 m 3 ls []) := by
    intro v1 v2 v3 v4 tl tw ts tn tf K hKK n
    induction n with
    | zero =>
      intro v5 h
      rw [f_X3_rowOfCase_L3] at h
      cases h
    | succ n ih =>
      intro v5 h H locs hP hD hS ls hl
      rw [f_X3_rowOfCase_L3] at h
      refine lv_iload hx hb dX3_rowOfCase_3 (lv_at hl 5 rfl) ?_
      refine lv_aload_n hx hb dX3_rowOfCase_5 rfl (lv_at hl 0 rfl) ?_
      refine va_get (D := D) (ci := 3) (v := .int ts) (C := RX3) (T := TX3) (N := 4) hx hb ht hiX3 hown hK hP 0 rfl rfl 3 (by decide) (ht _ wb112) (fun _ h9 => h9) rfl dX3_rowOfCase_6 ?_
      refine lv_icmp_ge (tgt := 66) hx hb dX3_rowOfCase_9 (by decide) (fun c5 => ?_) (fun c5 => ?_)
      · have h := zt h c5
        exact hKK _ h _ _ hP hD hS _ (lv_sub hl [0, 1, 2, 3, 4, 5] rfl)
      · have h := zf h c5
        refine lv_aload_n hx hb dX3_rowOfCase_12 rfl (lv_at hl 0 rfl) ?_
        refine lv_iload hx hb dX3_rowOfCase_13 (lv_at hl 5 rfl) ?_
        refine lv_iconst (v := 0) hx hb dX3_rowOfCase_15 (by decide) ?_
        obtain ⟨r1, h1, h⟩ := zb h
        refine zi (zrV (C := RX3) (T := TX3) (N := 4) (As := [.int v5, .int 0]) (rest := []) ⟨hx, hb, hml, hown, ht⟩ (c_X3_get l D k t tc tl tw ts tn tf v5 0 h1 _) (cwV 2 ht (gdV wb363 wb344 wb345 wb74 wb346) rfl rfl rfl (by decide +kernel) ⟨Nat.le_of_ble_eq_true rfl, Nat.le_of_ble_eq_true rfl⟩) hK hP hD hS hA hm [0, 1] rfl rfl 0 3 rfl rfl rfl hl.1 rfl (Nat.le_of_ble_eq_true rfl) dX3_rowOfCase_16 ⟨Nat.le_refl _, Nat.le_refl _⟩) hP hD hS hA [0, 1] rfl rfl (fun H locs hP hD hS => ?_)
        have hP : va_P D vwCl [(t, .inr (3, [.int tl, .int tw, .ref tc, .int ts])), (tc, .inl (k 0, tn, .inl tf))] H := hP
        have hD : va_D A [(t, .inr (3, [.int tl, .int tw, .ref tc, .int ts])), (tc, .inl (k 0, tn, .inl tf))] := hD
        refine lv_iload_n hx hb dX3_rowOfCase_19 rfl (lv_at hl 1 rfl) ?_
        refine lv_icmp_ne (tgt := 60) hx hb dX3_rowOfCase_20 (by decide) (fun c4 => ?_) (fun c4 => ?_)
        · have h := zf h c4
          refine lv_iinc (v := v5 + 1) (lv' := [(5, .int (v5 + 1)), (0, .ref t), (1, .int v1), (2, .int v2), (3, .int v3), (4, .int v4)]) hx hb dX3_rowOfCase_60 hl (k := 5) rfl rfl (by decide) rfl (fun ls hl => ?_)
          refine lv_goto (tgt := 3) hx hb dX3_rowOfCase_63 (by decide) ?_
          exact ih _ h _ _ hP hD hS _ (lv_sub hl [1, 2, 3, 4, 5, 0] rfl)
        · have h := zt h c4
          refine lv_aload_n hx hb dX3_rowOfCase_23 rfl (lv_at hl 0 rfl) ?_
          refine lv_iload hx hb dX3_rowOfCase_24 (lv_at hl 5 rfl) ?_
          refine lv_iconst (v := 1) hx hb dX3_rowOfCase_26 (by decide) ?_
          obtain ⟨r2, h2, h⟩ := zb h
          refine zi (zrV (C := RX3) (T := TX3) (N := 4) (As := [.int v5, .int 1]) (rest := []) ⟨hx, hb, hml, hown, ht⟩ (c_X3_get l D k t tc tl tw ts tn tf v5 1 h2 _) (cwV 2 ht (gdV wb363 wb344 wb345 wb74 wb346) rfl rfl rfl (by decide +kernel) ⟨Nat.le_of_ble_eq_true rfl, Nat.le_of_ble_eq_true rfl⟩) hK hP hD hS hA hm [0, 1] rfl rfl 0 3 rfl rfl rfl hl.1 rfl (Nat.le_of_ble_eq_true rfl) dX3_rowOfCase_27 ⟨Nat.le_refl _, Nat.le_refl _⟩) hP hD hS hA [0, 1] rfl rfl (fun H locs hP hD hS => ?_)
          have hP : va_P D vwCl [(t, .inr (3, [.int tl, .int tw, .ref tc, .int ts])), (tc, .inl (k 0, tn, .inl tf))] H := hP
          have hD : va_D A [(t, .inr (3, [.int tl, .int tw, .ref tc, .int ts])), (tc, .inl (k 0, tn, .inl tf))] := hD
          refine lv_iload_n hx hb dX3_rowOfCase_30 rfl (lv_at hl 2 rfl) ?_
          refine lv_icmp_ne (tgt := 60) hx hb dX3_rowOfCase_31 (by decide) (fun c3 => ?_) (fun c3 => ?_)
          · have h := zf h c3
            refine lv_iinc (v := v5 + 1) (lv' := [(5, .int (v5 + 1)), (0, .ref t), (1, .int v1), (2, .int v2), (3, .int v3), (4, .int v4)]) hx hb dX3_rowOfCase_60 hl (k := 5) rfl rfl (by decide) rfl (fun ls hl => ?_)
            refine lv_goto (tgt := 3) hx hb dX3_rowOfCase_63 (by decide) ?_
            exact ih _ h _ _ hP hD hS _ (lv_sub hl [1, 2, 3, 4, 5, 0] rfl)
          · have h := zt h c3
            refine lv_aload_n hx hb dX3_rowOfCase_34 rfl (lv_at hl 0 rfl) ?_
            refine lv_iload hx hb dX3_rowOfCase_35 (lv_at hl 5 rfl) ?_
            refine lv_iconst (v := 2) hx hb dX3_rowOfCase_37 (by decide) ?_
            obtain ⟨r3, h3, h⟩ := zb h
            refine zi (zrV (C := RX3) (T := TX3) (N := 4) (As := [.int v5, .int 2]) (rest := []) ⟨hx, hb, hml, hown, ht⟩ (c_X3_get l D k t tc tl tw ts tn tf v5 2 h3 _) (cwV 2 ht (gdV wb363 wb344 wb345 wb74 wb346) rfl rfl rfl (by decide +kernel) ⟨Nat.le_of_ble_eq_true rfl, Nat.le_of_ble_eq_true rfl⟩) hK hP hD hS hA hm [0, 1] rfl rfl 0 3 rfl rfl rfl hl.1 rfl (Nat.le_of_ble_eq_true rfl) dX3_rowOfCase_38 ⟨Nat.le_refl _, Nat.le_refl _⟩) hP hD hS hA [0, 1] rfl rfl (fun H locs hP hD hS => ?_)
            have hP : va_P D vwCl [(t, .inr (3, [.int tl, .int tw, .ref tc, .int ts])), (tc, .inl (k 0, tn, .inl tf))] H := hP
            have hD : va_D A [(t, .inr (3, [.int tl, .int tw, .ref tc, .int ts])), (tc, .inl (k 0, tn, .inl tf))] := hD
            refine lv_iload_n hx hb dX3_rowOfCase_41 rfl (lv_at hl 3 rfl) ?_
            refine lv_icmp_ne (tgt := 60) hx hb dX3_rowOfCase_42 (by decide) (fun c2 => ?_) (fun c2 => ?_)
            · have h := zf h c2
              refine lv_iinc (v := v5 + 1) (lv' := [(5, .int (v5 + 1)), (0, .ref t), (1, .int v1), (2, .int v2), (3, .int v3), (4, .int v4)]) hx hb dX3_rowOfCase_60 hl (k := 5) rfl rfl (by decide) rfl (fun ls hl => ?_)
              refine lv_goto (tgt := 3) hx hb dX3_rowOfCase_63 (by decide) ?_
              exact ih _ h _ _ hP hD hS _ (lv_sub hl [1, 2, 3, 4, 5, 0] rfl)
            · have h := zt h c2
              refine lv_aload_n hx hb dX3_rowOfCase_45 rfl (lv_at hl 0 rfl) ?_
              refine lv_iload hx hb dX3_rowOfCase_46 (lv_at hl 5 rfl) ?_
              refine lv_iconst (v := 3) hx hb dX3_rowOfCase_48 (by decide) ?_
              obtain ⟨r4, h4, h⟩ := zb h
              refine zi (zrV (C := RX3) (T := TX3) (N := 4) (As := [.int v5, .int 3]) (rest := []) ⟨hx, hb, hml, hown, ht⟩ (c_X3_get l D k t tc tl tw ts tn tf v5 3 h4 _) (cwV 2 ht (gdV wb363 wb344 wb345 wb74 wb346) rfl rfl rfl (by decide +kernel) ⟨Nat.le_of_ble_eq_true rfl, Nat.le_of_ble_eq_true rfl⟩) hK hP hD hS hA hm [0, 1] rfl rfl 0 3 rfl rfl rfl hl.1 rfl (Nat.le_of_ble_eq_true rfl) dX3_rowOfCase_49 ⟨Nat.le_refl _, Nat.le_refl _⟩) hP hD hS hA [0, 1] rfl rfl (fun H locs hP hD hS => ?_)
              have hP : va_P D vwCl [(t, .inr (3, [.int tl, .int tw, .ref tc, .int ts])), (tc, .inl (k 0, tn, .inl tf))] H := hP
              have hD : va_D A [(t, .inr (3, [.int tl, .int tw, .ref tc, .int ts])), (tc, .inl (k 0, tn, .inl tf))] := hD
              refine lv_iload hx hb dX3_rowOfCase_52 (lv_at hl 4 rfl) ?_
              refine lv_icmp_ne (tgt := 60) hx hb dX3_rowOfCase_54 (by decide) (fun c1 => ?_) (fun c1 => ?_)
              · have h := zf h c1
                refine lv_iinc (v := v5 + 1) (lv' := [(5, .int (v5 + 1)), (0, .ref t), (1, .int v1), (2, .int v2), (3, .int v3), (4, .int v4)]) hx hb dX3_rowOfCase_60 hl (k := 5) rfl rfl (by decide) rfl (fun ls hl => ?_)
                refine lv_goto (tgt := 3) hx hb dX3_rowOfCase_63 (by decide) ?_
                exact ih _ h _ _ hP hD hS _ (lv_sub hl [1, 2, 3, 4, 5, 0] rfl)
              · have h := zt h c1
                refine lv_iload hx hb dX3_rowOfCase_57 (lv_at hl 5 rfl) ?_
                obtain rfl := Option.some.inj h
                exact W.iret (v := v5) hx hb hr (fun t ht9 hW => ⟨⟨_, (), rfl, rfl, zend ht9 hP⟩, hS.F ht9⟩) hS.2.2 dX3_rowOfCase_59
  refine loop3 _ _ _ _ _ _ _ _ _ _ ?_ fu _ h _ _ hP hD hS _ (lv_sub hl [1, 2, 3, 4, 5, 0] rfl)
  intro x1 h H locs hP hD hS ls hl
  try dsimp only at h
  have hP : va_P D vwCl [(t, .inr (3, [.int tl, .int tw, .ref tc, .int ts])), (tc, .inl (k 0, tn, .inl tf))] H := hP
  have hD : va_D A [(t, .inr (3, [.int tl, .int tw, .ref tc, .int ts])), (tc, .inl (k 0, tn, .inl tf))] := hD
  have hl : lv_has ls 6 [(0, .ref t), (1, .int a1), (2, .int a2), (3, .int a3), (4, .int a4), (5, .int x1)] := hl
  refine lv_iconst (v := (-1)) hx hb dX3_rowOfCase_66 (by decide) ?_
  obtain rfl := Option.some.inj h
  exact W.iret (v := (-1)) hx hb hr (fun t ht9 hW => ⟨⟨_, (), rfl, rfl, zend ht9 hP⟩, hS.F ht9⟩) hS.2.2 dX3_rowOfCase_67
def f_X3_copyFrom (ts : Int32) (tn : Nat) (tf : Nat → Int32) (us : Int32) (un : Nat) (uf : Nat → Int32)  : Option (Int32 × (Nat → Int32)) :=
  if (nI un) = (nI tn) then (if zcp 0 0 (nI tn) un tn then (some (us, va_cpy uf tf (Int32.toNatClampNeg 0) (Int32.toNatClampNeg 0) (Int32.toNatClampNeg (nI tn)))) else none) else (some (ts, tf))
abbrev wk_X3_copyFrom : List Cond := Cond.code yX3_copyFrom cX3_copyFrom 2 none :: WB
abbrev rm_X3_copyFrom : Room := { frames := 1, cells := 0, slots := 0, locals := 48 }
set_option maxHeartbeats 4000000 in
set_option maxRecDepth 100000 in
theorem c_X3_copyFrom (l : Launch) (D : va_G) (k : Nat → Nat) (t tc u uc : Nat) (tl : Int32) (tw : Int32) (ts : Int32) (tn : Nat) (tf : Nat → Int32) (ul : Int32) (uw : Int32) (us : Int32) (un : Nat) (uf : Nat → Int32)  {res : Int32 × (Nat → Int32)} (h : f_X3_copyFrom ts tn tf us un uf  = some res) : Cv l yX3_copyFrom wk_X3_copyFrom rm_X3_copyFrom D k [.ref t, .ref u] [(t, .inr (3, [.int tl, .int tw, .ref tc, .int ts])), (tc, .inl (k 0, tn, .inl tf)), (u, .inr (3, [.int ul, .int uw, .ref uc, .int us])), (uc, .inl (k 0, un, .inl uf))] [(t, .inr (3, [.int tl, .int tw, .ref tc, .int res.1])), (tc, .inl (k 0, tn, .inl res.2)), (u, .inr (3, [.int ul, .int uw, .ref uc, .int us])), (uc, .inl (k 0, un, .inl uf))] := by
  unfold Cv
  intro sz
  refine Met.ofW (cc := cX3_copyFrom) (maxL := 2) (ret := none) (by decide) rfl ?_
  intro p e s m args below meth c s₁ B hml hv
  obtain ⟨rfl, hsz, hP, hK, hD0, hm⟩ := hv
  have hx := B.exec
  have hb := B.bytes
  have hr := B.returns
  have ht : ∀ w ∈ WB, w.before _ s = true := fun w hw => atoms_spec (ws := wk_X3_copyFrom) B.pre w (List.mem_cons_of_mem _ hw)
  have hown : s.vm.findClass RX3 = some m.cls := findClass_of_methodNamed B.named
  have hlocks := B.notSynchronized
  subst hsz
  have hD := hD0.self (sz := s.heap.size)
  generalize hAe : va_A [(t, .inr (3, [.int tl, .int tw, .ref tc, .int ts])), (tc, .inl (k 0, tn, .inl tf)), (u, .inr (3, [.int ul, .int uw, .ref uc, .int us])), (uc, .inl (k 0, un, .inl uf))] s.heap.size = A at hD hm ⊢
  have hA : ∀ q : Nat, s.heap.size ≤ q → A q := fun q h => by rw [← hAe]; exact Or.inr h
  have hS : va_S A s.heap s.heap [] := va_S.rf
  have hl := lv_entry ([.ref t, .ref u]) (n := 2) (Nat.le_of_ble_eq_true rfl)
  rw [lg_entry_eq]
  generalize (lg_sl ([.ref t, .ref u]) ++ List.replicate (2 - (lg_sl ([.ref t, .ref u])).length) Slot.unset).toArray = ls at hl ⊢
  have hl : lv_has ls 2 [(0, .ref t), (1, .ref u)] := hl
  obtain ⟨H, hH⟩ : ∃ H, H = s.heap := ⟨_, rfl⟩
  rw [← hH] at hP
  have hS : va_S A s.heap H [] := by rw [hH]; exact hS
  suffices hgo : W p l e _ s m _ below meth c H [] 0 0 _ _ by rw [hH] at hgo; exact hgo
  unfold f_X3_copyFrom at h
  refine lv_aload_n hx hb dX3_copyFrom_0 rfl (lv_at hl 1 rfl) ?_
  refine va_get (D := D) (ci := 3) (v := .ref uc) (C := RX3) (T := TX3) (N := 4) hx hb ht hiX3 hown hK hP 2 rfl rfl 2 (by decide) (ht _ wb111) (fun _ h9 => h9) rfl dX3_copyFrom_1 ?_
  refine va_alen (v := nI un) hx hb hK hP 3 0 rfl rfl rfl dX3_copyFrom_4 ?_
  refine lv_aload_n hx hb dX3_copyFrom_5 rfl (lv_at hl 0 rfl) ?_
  refine va_get (D := D) (ci := 3) (v := .ref tc) (C := RX3) (T := TX3) (N := 4) hx hb ht hiX3 hown hK hP 0 rfl rfl 2 (by decide) (ht _ wb111) (fun _ h9 => h9) rfl dX3_copyFrom_6 ?_
  refine va_alen (v := nI tn) hx hb hK hP 1 0 rfl rfl rfl dX3_copyFrom_9 ?_
  refine lv_icmp_eq (tgt := 14) hx hb dX3_copyFrom_10 (by decide) (fun c1 => ?_) (fun c1 => ?_)
  · have h := zt h c1
    refine lv_aload_n hx hb dX3_copyFrom_14 rfl (lv_at hl 1 rfl) ?_
    refine va_get (D := D) (ci := 3) (v := .ref uc) (C := RX3) (T := TX3) (N := 4) hx hb ht hiX3 hown hK hP 2 rfl rfl 2 (by decide) (ht _ wb111) (fun _ h9 => h9) rfl dX3_copyFrom_15 ?_
    refine lv_iconst (v := 0) hx hb dX3_copyFrom_18 (by decide) ?_
    refine lv_aload_n hx hb dX3_copyFrom_19 rfl (lv_at hl 0 rfl) ?_
    refine va_get (D := D) (ci := 3) (v := .ref tc) (C := RX3) (T := TX3) (N := 4) hx hb ht hiX3 hown hK hP 0 rfl rfl 2 (by decide) (ht _ wb111) (fun _ h9 => h9) rfl dX3_copyFrom_20 ?_
    refine lv_iconst (v := 0) hx hb dX3_copyFrom_23 (by decide) ?_
    refine lv_aload_n hx hb dX3_copyFrom_24 rfl (lv_at hl 0 rfl) ?_
    refine va_get (D := D) (ci := 3) (v := .ref tc) (C := RX3) (T := TX3) (N := 4) hx hb ht hiX3 hown hK hP 0 rfl rfl 2 (by decide) (ht _ wb111) (fun _ h9 => h9) rfl dX3_copyFrom_25 ?_
    refine va_alen (v := nI tn) hx hb hK hP 1 0 rfl rfl rfl dX3_copyFrom_28 ?_
    obtain ⟨ha1, h⟩ := zcp_in h
    refine va_copyi hx hb (hml.trans hl.1.symm) hown (ht _ wb292) (ht _ wb127) (ht _ wb126) (ht _ wb76) hK hP hD hS 3 1 0 0 rfl rfl rfl rfl rfl ha1.1 ha1.2.1 ha1.2.2.1 ha1.2.2.2.1 ha1.2.2.2.2 (fun _ _ => rfl) (Nat.le_of_ble_eq_true rfl) (by decide) dX3_copyFrom_29 (fun H locs hP hD hS => ?_)
    have hP : va_P D vwCl [(t, .inr (3, [.int tl, .int tw, .ref tc, .int ts])), (tc, .inl (k 0, tn, .inl (va_cpy uf tf (Int32.toNatClampNeg 0) (Int32.toNatClampNeg 0) (Int32.toNatClampNeg (nI tn))))), (u, .inr (3, [.int ul, .int uw, .ref uc, .int us])), (uc, .inl (k 0, un, .inl uf))] H := hP
    have hD : va_D A [(t, .inr (3, [.int tl, .int tw, .ref tc, .int ts])), (tc, .inl (k 0, tn, .inl (va_cpy uf tf (Int32.toNatClampNeg 0) (Int32.toNatClampNeg 0) (Int32.toNatClampNeg (nI tn))))), (u, .inr (3, [.int ul, .int uw, .ref uc, .int us])), (uc, .inl (k 0, un, .inl uf))] := hD
    refine lv_aload_n hx hb dX3_copyFrom_32 rfl (lv_at hl 0 rfl) ?_
    refine lv_aload_n hx hb dX3_copyFrom_33 rfl (lv_at hl 1 rfl) ?_
    refine va_get (D := D) (ci := 3) (v := .int us) (C := RX3) (T := TX3) (N := 4) hx hb ht hiX3 hown hK hP 2 rfl rfl 3 (by decide) (ht _ wb112) (fun _ h9 => h9) rfl dX3_copyFrom_34 ?_
    refine va_put (D := D) (ci := 3) (v := .int us) (ty := .int) (C := RX3) (T := TX3) (N := 4) hx hb ht hiX3 tyX3 tyX3_ok nmX3 hown hK hP hD hS 0 rfl rfl 3 (by decide) (ht _ wb112) (fun _ h9 => h9) rfl (by decide +kernel) rfl rfl (Nat.le_of_ble_eq_true rfl) dX3_copyFrom_37 (fun H locs hP hD hS => ?_)
    have hP : va_P D vwCl [(t, .inr (3, [.int tl, .int tw, .ref tc, .int us])), (tc, .inl (k 0, tn, .inl (va_cpy uf tf (Int32.toNatClampNeg 0) (Int32.toNatClampNeg 0) (Int32.toNatClampNeg (nI tn))))), (u, .inr (3, [.int ul, .int uw, .ref uc, .int us])), (uc, .inl (k 0, un, .inl uf))] H := hP
    have hD : va_D A [(t, .inr (3, [.int tl, .int tw, .ref tc, .int us])), (tc, .inl (k 0, tn, .inl (va_cpy uf tf (Int32.toNatClampNeg 0) (Int32.toNatClampNeg 0) (Int32.toNatClampNeg (nI tn))))), (u, .inr (3, [.int ul, .int uw, .ref uc, .int us])), (uc, .inl (k 0, un, .inl uf))] := hD
    obtain rfl := Option.some.inj h
    exact W.vret hx hb hr (fun t ht9 hW => ⟨⟨(), rfl, trivial, zend ht9 hP⟩, hS.F ht9⟩) hS.2.2 dX3_copyFrom_40
  · have h := zf h c1
    obtain rfl := Option.some.inj h
    exact W.vret hx hb hr (fun t ht9 hW => ⟨⟨(), rfl, trivial, zend ht9 hP⟩, hS.F ht9⟩) hS.2.2 dX3_copyFrom_13
def f_X3_mixInto_L17 (fu : Nat) (K : Int64 → Int32 → Option (Int64)) (v5 : Int32) (tw : Int32) (ts : Int32) (tn : Nat) (tf : Nat → Int32) : Nat → Int64 → Int32 → Option (Int64)
  | 0, _, _ => none
  | n + 1, v3, v6 =>
  if tw ≤ v6 then (K v3 v6) else ((f_X3_get tw ts tn tf v5 v6).bind fun r1 => f_X3_mixInto_L17 fu K v5 tw ts tn tf n ((31 * v3) + (Int32.toInt64 r1)) (v6 + 1))
def f_X3_mixInto_L5 (fu : Nat) (K : Int64 → Int32 → Option (Int64)) (tw : Int32) (ts : Int32) (tn : Nat) (tf : Nat → Int32) : Nat → Int64 → Int32 → Option (Int64)
  | 0, _, _ => none
  | n + 1, v3, v5 =>
  if ts ≤ v5 then (K v3 v5) else (f_X3_mixInto_L17 fu (fun (x1 : Int64) (x2 : Int32) => f_X3_mixInto_L5 fu K tw ts tn tf n x1 (v5 + 1)) v5 tw ts tn tf fu v3 0)
def f_X3_mixInto (fu : Nat) (tw : Int32) (ts : Int32) (tn : Nat) (tf : Nat → Int32) (a1 : Int64) : Option (Int64) :=
  f_X3_mixInto_L5 fu (fun (x3 : Int64) (x4 : Int32) => some (x3)) tw ts tn tf fu a1 0
abbrev wk_X3_mixInto : List Cond := Cond.code yX3_mixInto cX3_mixInto 7 (some .long) :: WB
abbrev rm_X3_mixInto : Room := { frames := 2, cells := 0, slots := 0, locals := 44 }
set_option maxHeartbeats 4000000 in
set_option maxRecDepth 100000 in
theorem c_X3_mixInto (l : Launch) (D : va_G) (k : Nat → Nat) (t tc : Nat) (tl : Int32) (tw : Int32) (ts : Int32) (tn : Nat) (tf : Nat → Int32) (a1 : Int64) (fu : Nat) {res : Int64} (h : f_X3_mixInto fu tw ts tn tf a1 = some res) : Cl l yX3_mixInto wk_X3_mixInto rm_X3_mixInto D k [.ref t, .long a1] [(t, .inr (3, [.int tl, .int tw, .ref tc, .int ts])), (tc, .inl (k 0, tn, .inl tf))] [(t, .inr (3, [.int tl, .int tw, .ref tc, .int ts])), (tc, .inl (k 0, tn, .inl tf))] res := by
  unfold Cl
  intro sz
  refine Met.ofW (cc := cX3_mixInto) (maxL := 7) (ret := (some .long)) (by decide) rfl ?_
  intro p e s m args below meth c s₁ B hml hv
  obtain ⟨rfl, hsz, hP, hK, hD0, hm⟩ := hv
  have hx := B.exec
  have hb := B.bytes
  have hr := B.returns
  have ht : ∀ w ∈ WB, w.before _ s = true := fun w hw => atoms_spec (ws := wk_X3_mixInto) B.pre w (List.mem_cons_of_mem _ hw)
  have hown : s.vm.findClass RX3 = some m.cls := findClass_of_methodNamed B.named
  have hlocks := B.notSynchronized
  subst hsz
  have hD := hD0.self (sz := s.heap.size)
  generalize hAe : va_A [(t, .inr (3, [.int tl, .int tw, .ref tc, .int ts])), (tc, .inl (k 0, tn, .inl tf))] s.heap.size = A at hD hm ⊢
  have hA : ∀ q : Nat, s.heap.size ≤ q → A q := fun q h => by rw [← hAe]; exact Or.inr h
  have hS : va_S A s.heap s.heap [] := va_S.rf
  have hl := lv_entry ([.ref t, .long a1]) (n := 7) (Nat.le_of_ble_eq_true rfl)
  rw [lg_entry_eq]
  generalize (lg_sl ([.ref t, .long a1]) ++ List.replicate (7 - (lg_sl ([.ref t, .long a1])).length) Slot.unset).toArray = ls at hl ⊢
  have hl : lv_has ls 7 [(0, .ref t), (1, .long a1)] := hl
  obtain ⟨H, hH⟩ : ∃ H, H = s.heap := ⟨_, rfl⟩
  rw [← hH] at hP
  have hS : va_S A s.heap H [] := by rw [hH]; exact hS
  suffices hgo : W p l e _ s m _ below meth c H [] 0 0 _ _ by rw [hH] at hgo; exact hgo
  unfold f_X3_mixInto at h
  refine lv_lload_n hx hb dX3_mixInto_0 rfl (lv_at hl 1 rfl) ?_
  refine lv_lstore_n (lv' := [(3, .long a1), (0, .ref t), (1, .long a1)]) hx hb dX3_mixInto_1 rfl hl (by decide) rfl (fun ls hl => ?_)
  refine lv_iconst (v := 0) hx hb dX3_mixInto_2 (by decide) ?_
  refine lv_istore (lv' := [(5, .int 0), (3, .long a1), (0, .ref t), (1, .long a1)]) hx hb dX3_mixInto_3 hl (by decide) rfl (fun ls hl => ?_)
  have loop5 : ∀ (v1 : Int64) (tl : Int32) (tw : Int32) (ts : Int32) (tn : Nat) (tf : Nat → Int32), ∀ (K : Int64 → Int32 → Option (Int64)), (∀ (v3 : Int64) (v5 : Int32), K v3 v5 = some res → ∀ (H : Heap) (locs : List Loc), va_P D vwCl [(t, .inr (3, [.int tl, .int tw, .ref tc, .int ts])), (tc, .inl (k 0, tn, .inl tf))] H → va_D A [(t, .inr (3, [.int tl, .int tw, .ref tc, .int ts])), (tc, .inl (k 0, tn, .inl tf))] → va_S A s.heap H locs → ∀ ls : Array Slot, lv_has ls 7 [(0, .ref t), (1, .long v1), (3, .long v3), (5, .int v5)] → W p l e (headSpec wk_X3_mixInto rm_X3_mixInto).room s m ([.ref t, .long a1] : List Value).toArray below meth c H locs 0 0 (MQ below (va_Ql (fun xq9 (_ : Unit) => xq9 = res) (fun _ tq9 => va_P D vwCl [(t, .inr (3, [.int tl, .int tw, .ref tc, .int ts])), (tc, .inl (k 0, tn, .inl tf))] tq9.heap) A) ([.ref t, .long a1] : List Value).toArray s 0 0 A) (F0 m 54 ls [])) → ∀ (n : Nat) (v3 : Int64) (v5 : Int32), f_X3_mixInto_L5 fu K tw ts tn tf n v3 v5 = some res → ∀ (H : Heap) (locs : List Loc), va_P D vwCl [(t, .inr (3, [.int tl, .int tw, .ref tc, .int ts])), (tc, .inl (k 0, tn, .inl tf))] H → va_D A [(t, .inr (3, [.int tl, .int tw, .ref tc, .int ts])), (tc, .inl (k 0, tn, .inl tf))] → va_S A s.heap H locs → ∀ ls : Array Slot, lv_has ls 7 [(0, .ref t), (1, .long v1), (3, .long v3), (5, .int v5)] → W p l e (headSpec wk_X3_mixInto rm_X3_mixInto).room s m ([.ref t, .long a1] : List Value).toArray below meth c H locs 0 0 (MQ below (va_Ql (fun xq9 (_ : Unit) => xq9 = res) (fun _ tq9 => va_P D vwCl [(t, .inr (3, [.int tl, .int tw, .ref tc, .int ts])), (tc, .inl (k 0, tn, .inl tf))] tq9.heap) A) ([.ref t, .long a1] : List Value).toArray s 0 0 A) (F0 m 5 ls []) := by
    intro v1 tl tw ts tn tf K hKK n
    induction n with
    | zero =>
      intro v3 v5 h
      rw [f_X3_mixInto_L5] at h
      cases h
    | succ n ih =>
      intro v3 v5 h H locs hP hD hS ls hl
      rw [f_X3_mixInto_L5] at h
      refine lv_iload hx hb dX3_mixInto_5 (lv_at hl 3 rfl) ?_
      refine lv_aload_n hx hb dX3_mixInto_7 rfl (lv_at hl 0 rfl) ?_
      refine va_get (D := D) (ci := 3) (v := .int ts) (C := RX3) (T := TX3) (N := 4) hx hb ht hiX3 hown hK hP 0 rfl rfl 3 (by decide) (ht _ wb112) (fun _ h9 => h9) rfl dX3_mixInto_8 ?_
      refine lv_icmp_ge (tgt := 54) hx hb dX3_mixInto_11 (by decide) (fun c2 => ?_) (fun c2 => ?_)
      · have h := zt h c2
        exact hKK _ _ h _ _ hP hD hS _ (lv_sub hl [0, 1, 2, 3] rfl)
      · have h := zf h c2
        refine lv_iconst (v := 0) hx hb dX3_mixInto_14 (by decide) ?_
        refine lv_istore (lv' := [(6, .int 0), (0, .ref t), (1, .long v1), (3, .long v3), (5, .int v5)]) hx hb dX3_mixInto_15 hl (by decide) rfl (fun ls hl => ?_)
        have loop17 : ∀ (v1 : Int64) (v5 : Int32) (tl : Int32) (tw : Int32) (ts : Int32) (tn : Nat) (tf : Nat → Int32), ∀ (K : Int64 → Int32 → Option (Int64)), (∀ (v3 : Int64) (v6 : Int32), K v3 v6 = some res → ∀ (H : Heap) (locs : List Loc), va_P D vwCl [(t, .inr (3, [.int tl, .int tw, .ref tc, .int ts])), (tc, .inl (k 0, tn, .inl tf))] H → va_D A [(t, .inr (3, [.int tl, .int tw, .ref tc, .int ts])), (tc, .inl (k 0, tn, .inl tf))] → va_S A s.heap H locs → ∀ ls : Array Slot, lv_has ls 7 [(0, .ref t), (1, .long v1), (3, .long v3), (5, .int v5), (6, .int v6)] → W p l e (headSpec wk_X3_mixInto rm_X3_mixInto).room s m ([.ref t, .long a1] : List Value).toArray below meth c H locs 0 0 (MQ below (va_Ql (fun xq9 (_ : Unit) => xq9 = res) (fun _ tq9 => va_P D vwCl [(t, .inr (3, [.int tl, .int tw, .ref tc, .int ts])), (tc, .inl (k 0, tn, .inl tf))] tq9.heap) A) ([.ref t, .long a1] : List Value).toArray s 0 0 A) (F0 m 48 ls [])) → ∀ (n : Nat) (v3 : Int64) (v6 : Int32), f_X3_mixInto_L17 fu K v5 tw ts tn tf n v3 v6 = some res → ∀ (H : Heap) (locs : List Loc), va_P D vwCl [(t, .inr (3, [.int tl, .int tw, .ref tc, .int ts])), (tc, .inl (k 0, tn, .inl tf))] H → va_D A [(t, .inr (3, [.int tl, .int tw, .ref tc, .int ts])), (tc, .inl (k 0, tn, .inl tf))] → va_S A s.heap H locs → ∀ ls : Array Slot, lv_has ls 7 [(0, .ref t), (1, .long v1), (3, .long v3), (5, .int v5), (6, .int v6)] → W p l e (headSpec wk_X3_mixInto rm_X3_mixInto).room s m ([.ref t, .long a1] : List Value).toArray below meth c H locs 0 0 (MQ below (va_Ql (fun xq9 (_ : Unit) => xq9 = res) (fun _ tq9 => va_P D vwCl [(t, .inr (3, [.int tl, .int tw, .ref tc, .int ts])), (tc, .inl (k 0, tn, .inl tf))] tq9.heap) A) ([.ref t, .long a1] : List Value).toArray s 0 0 A) (F0 m 17 ls []) := by
          intro v1 v5 tl tw ts tn tf K hKK n
          induction n with
          | zero =>
            intro v3 v6 h
            rw [f_X3_mixInto_L17] at h
            cases h
          | succ n ih =>
            intro v3 v6 h H locs hP hD hS ls hl
            rw [f_X3_mixInto_L17] at h
            refine lv_iload hx hb dX3_mixInto_17 (lv_at hl 4 rfl) ?_
            refine lv_aload_n hx hb dX3_mixInto_19 rfl (lv_at hl 0 rfl) ?_
            refine va_get (D := D) (ci := 3) (v := .int tw) (C := RX3) (T := TX3) (N := 4) hx hb ht hiX3 hown hK hP 0 rfl rfl 1 (by decide) (ht _ wb110) (fun _ h9 => h9) rfl dX3_mixInto_20 ?_
            refine lv_icmp_ge (tgt := 48) hx hb dX3_mixInto_23 (by decide) (fun c1 => ?_) (fun c1 => ?_)
            · have h := zt h c1
              exact hKK _ _ h _ _ hP hD hS _ (lv_sub hl [0, 1, 2, 3, 4] rfl)
            · have h := zf h c1
              refine lv_ldc2 (v := 31) hx hb hown (ht _ wb758) dX3_mixInto_26 ?_
              refine lv_lload_n hx hb dX3_mixInto_29 rfl (lv_at hl 2 rfl) ?_
              refine lv_lmul hx hb dX3_mixInto_30 ?_
              refine lv_aload_n hx hb dX3_mixInto_31 rfl (lv_at hl 0 rfl) ?_
              refine lv_iload hx hb dX3_mixInto_32 (lv_at hl 3 rfl) ?_
              refine lv_iload hx hb dX3_mixInto_34 (lv_at hl 4 rfl) ?_
              obtain ⟨r1, h1, h⟩ := zb h
              refine zi (zrV (C := RX3) (T := TX3) (N := 4) (As := [.int v5, .int v6]) (rest := [.long (31 * v3)]) ⟨hx, hb, hml, hown, ht⟩ (c_X3_get l D k t tc tl tw ts tn tf v5 v6 h1 _) (cwV 2 ht (gdV wb363 wb344 wb345 wb74 wb346) rfl rfl rfl (by decide +kernel) ⟨Nat.le_of_ble_eq_true rfl, Nat.le_of_ble_eq_true rfl⟩) hK hP hD hS hA hm [0, 1] rfl rfl 0 3 rfl rfl rfl hl.1 rfl (Nat.le_of_ble_eq_true rfl) dX3_mixInto_36 ⟨Nat.le_refl _, Nat.le_refl _⟩) hP hD hS hA [0, 1] rfl rfl (fun H locs hP hD hS => ?_)
              have hP : va_P D vwCl [(t, .inr (3, [.int tl, .int tw, .ref tc, .int ts])), (tc, .inl (k 0, tn, .inl tf))] H := hP
              have hD : va_D A [(t, .inr (3, [.int tl, .int tw, .ref tc, .int ts])), (tc, .inl (k 0, tn, .inl tf))] := hD
              refine lv_i2l (v := Int32.toInt64 r1) hx hb dX3_mixInto_39 rfl ?_
              refine lv_ladd hx hb dX3_mixInto_40 ?_
              refine lv_lstore_n (lv' := [(3, .long ((31 * v3) + (Int32.toInt64 r1))), (0, .ref t), (1, .long v1), (5, .int v5), (6, .int v6)]) hx hb dX3_mixInto_41 rfl hl (by decide) rfl (fun ls hl => ?_)
              refine lv_iinc (v := v6 + 1) (lv' := [(6, .int (v6 + 1)), (3, .long ((31 * v3) + (Int32.toInt64 r1))), (0, .ref t), (1, .long v1), (5, .int v5)]) hx hb dX3_mixInto_42 hl (k := 4) rfl rfl (by decide) rfl (fun ls hl => ?_)
              refine lv_goto (tgt := 17) hx hb dX3_mixInto_45 (by decide) ?_
              exact ih _ _ h _ _ hP hD hS _ (lv_sub hl [2, 3, 1, 4, 0] rfl)
        refine loop17 _ _ _ _ _ _ _ _ ?_ fu _ _ h _ _ hP hD hS _ (lv_sub hl [1, 2, 3, 4, 0] rfl)
        intro x1 x2 h H locs hP hD hS ls hl
        try dsimp only at h
        have hP : va_P D vwCl [(t, .inr (3, [.int tl, .int tw, .ref tc, .int ts])), (tc, .inl (k 0, tn, .inl tf))] H := hP
        have hD : va_D A [(t, .inr (3, [.int tl, .int tw, .ref tc, .int ts])), (tc, .inl (k 0, tn, .inl tf))] := hD
        have hl : lv_has ls 7 [(0, .ref t), (1, .long v1), (3, .long x1), (5, .int v5), (6, .int x2)] := hl
        refine lv_iinc (v := v5 + 1) (lv' := [(5, .int (v5 + 1)), (0, .ref t), (1, .long v1), (3, .long x1), (6, .int x2)]) hx hb dX3_mixInto_48 hl (k := 3) rfl rfl (by decide) rfl (fun ls hl => ?_)
        refine lv_goto (tgt := 5) hx hb dX3_mixInto_51 (by decide) ?_
        exact ih _ _ h _ _ hP hD hS _ (lv_sub hl [1, 2, 3, 0] rfl)
  refine loop5 _ _ _ _ _ _ _ ?_ fu _ _ h _ _ hP hD hS _ (lv_sub hl [2, 3, 1, 0] rfl)
  intro x3 x4 h H locs hP hD hS ls hl
  try dsimp only at h
  have hP : va_P D vwCl [(t, .inr (3, [.int tl, .int tw, .ref tc, .int ts])), (tc, .inl (k 0, tn, .inl tf))] H := hP
  have hD : va_D A [(t, .inr (3, [.int tl, .int tw, .ref tc, .int ts])), (tc, .inl (k 0, tn, .inl tf))] := hD
  have hl : lv_has ls 7 [(0, .ref t), (1, .long a1), (3, .long x3), (5, .int x4)] := hl
  refine lv_lload_n hx hb dX3_mixInto_54 rfl (lv_at hl 2 rfl) ?_
  obtain rfl := Option.some.inj h
  exact W.lret (v := x3) hx hb hr (fun t ht9 hW => ⟨⟨_, (), rfl, rfl, zend ht9 hP⟩, hS.F ht9⟩) hS.2.2 dX3_mixInto_55
