def f_J0_coder_7d493  (w : Nat) : Option (Int32) :=
  some (0)
abbrev wk_J0_coder_7d493 : List Cond := Cond.code yJ0_coder_7d493 cJ0_coder_7d493 1 (some .byte) :: WB
abbrev rm_J0_coder_7d493 : Room := { frames := 0, cells := 0, slots := 0, locals := 0 }
set_option maxHeartbeats 4000000 in
set_option maxRecDepth 100000 in
theorem c_J0_coder_7d493 (l : Launch) (D : va_G) (k : Nat → Nat)  (w : Nat) (hw_w : w < 10) {res : Int32} (h : f_J0_coder_7d493  w = some res) : Ci l yJ0_coder_7d493 wk_J0_coder_7d493 rm_J0_coder_7d493 D k [.ref (k (10 + w))] [] [] res := by
  unfold Ci
  intro sz
  refine Met.ofW (cc := cJ0_coder_7d493) (maxL := 1) (ret := (some .byte)) (by decide) rfl ?_
  intro p e s m args below meth c s₁ B hml hv
  obtain ⟨rfl, hsz, hP, hK, hD0, hm⟩ := hv
  have hx := B.exec
  have hb := B.bytes
  have hr := B.returns
  have ht : ∀ w ∈ WB, w.before _ s = true := fun w hw => atoms_spec (ws := wk_J0_coder_7d493) B.pre w (List.mem_cons_of_mem _ hw)
  have hown : s.vm.findClass RJ0 = some m.cls := findClass_of_methodNamed B.named
  have hlocks := B.notSynchronized
  subst hsz
  have hD := hD0.self (sz := s.heap.size)
  generalize hAe : va_A [] s.heap.size = A at hD hm ⊢
  have hA : ∀ q : Nat, s.heap.size ≤ q → A q := fun q h => by rw [← hAe]; exact Or.inr h
  have hS : va_S A s.heap s.heap [] := va_S.rf
  have hl := lv_entry ([.ref (k (10 + w))]) (n := 1) (Nat.le_of_ble_eq_true rfl)
  rw [lg_entry_eq]
  generalize (lg_sl ([.ref (k (10 + w))]) ++ List.replicate (1 - (lg_sl ([.ref (k (10 + w))])).length) Slot.unset).toArray = ls at hl ⊢
  have hl : lv_has ls 1 [(0, .ref (k (10 + w)))] := hl
  obtain ⟨H, hH⟩ : ∃ H, H = s.heap := ⟨_, rfl⟩
  rw [← hH] at hP
  have hS : va_S A s.heap H [] := by rw [hH]; exact hS
  suffices hgo : W p l e _ s m _ below meth c H [] 0 0 _ _ by rw [hH] at hgo; exact hgo
  unfold f_J0_coder_7d493 at h
  refine va_gets hx hb hm.2.2.2.2.1 hS hown (ht _ wb666) (fun _ h9 => h9) dJ0_coder_7d493_0 ?_
  refine lv_if_eq (tgt := 13) hx hb dJ0_coder_7d493_3 (by decide) (fun c9 => absurd c9 (by decide)) (fun _ => ?_)
  refine lv_aload_n hx hb dJ0_coder_7d493_6 rfl (lv_at hl 0 rfl) ?_
  refine vk_getf hx hb (hm.2.2.2.2.2.2.2.1.1 w hw_w).2.1 hS hown (ht _ wb1141) (fun _ h9 => h9) dJ0_coder_7d493_7 ?_
  refine W.eq (g2 := F0 m 10 ls [.int 0]) rfl ?_
  refine lv_goto (tgt := 14) hx hb dJ0_coder_7d493_10 (by decide) ?_
  obtain rfl := Option.some.inj h
  exact W.zret (v := 0) (ty := .byte) hx hb hr (rfl) (fun t ht9 hW => ⟨⟨_, (), rfl, rfl, zend ht9 hP⟩, hS.F ht9⟩) hS.2.2 dJ0_coder_7d493_14
def f_J0_isLatin1_aae02  (w : Nat) : Option (Bool) :=
  some (true)
abbrev wk_J0_isLatin1_aae02 : List Cond := Cond.code yJ0_isLatin1_aae02 cJ0_isLatin1_aae02 1 (some .boolean) :: WB
abbrev rm_J0_isLatin1_aae02 : Room := { frames := 0, cells := 0, slots := 0, locals := 0 }
set_option maxHeartbeats 4000000 in
set_option maxRecDepth 100000 in
theorem c_J0_isLatin1_aae02 (l : Launch) (D : va_G) (k : Nat → Nat)  (w : Nat) (hw_w : w < 10) {res : Bool} (h : f_J0_isLatin1_aae02  w = some res) : Ci l yJ0_isLatin1_aae02 wk_J0_isLatin1_aae02 rm_J0_isLatin1_aae02 D k [.ref (k (10 + w))] [] [] (zB res) := by
  unfold Ci
  intro sz
  refine Met.ofW (cc := cJ0_isLatin1_aae02) (maxL := 1) (ret := (some .boolean)) (by decide) rfl ?_
  intro p e s m args below meth c s₁ B hml hv
  obtain ⟨rfl, hsz, hP, hK, hD0, hm⟩ := hv
  have hx := B.exec
  have hb := B.bytes
  have hr := B.returns
  have ht : ∀ w ∈ WB, w.before _ s = true := fun w hw => atoms_spec (ws := wk_J0_isLatin1_aae02) B.pre w (List.mem_cons_of_mem _ hw)
  have hown : s.vm.findClass RJ0 = some m.cls := findClass_of_methodNamed B.named
  have hlocks := B.notSynchronized
  subst hsz
  have hD := hD0.self (sz := s.heap.size)
  generalize hAe : va_A [] s.heap.size = A at hD hm ⊢
  have hA : ∀ q : Nat, s.heap.size ≤ q → A q := fun q h => by rw [← hAe]; exact Or.inr h
  have hS : va_S A s.heap s.heap [] := va_S.rf
  have hl := lv_entry ([.ref (k (10 + w))]) (n := 1) (Nat.le_of_ble_eq_true rfl)
  rw [lg_entry_eq]
  generalize (lg_sl ([.ref (k (10 + w))]) ++ List.replicate (1 - (lg_sl ([.ref (k (10 + w))])).length) Slot.unset).toArray = ls at hl ⊢
  have hl : lv_has ls 1 [(0, .ref (k (10 + w)))] := hl
  obtain ⟨H, hH⟩ : ∃ H, H = s.heap := ⟨_, rfl⟩
  rw [← hH] at hP
  have hS : va_S A s.heap H [] := by rw [hH]; exact hS
  suffices hgo : W p l e _ s m _ below meth c H [] 0 0 _ _ by rw [hH] at hgo; exact hgo
  unfold f_J0_isLatin1_aae02 at h
  refine va_gets hx hb hm.2.2.2.2.1 hS hown (ht _ wb666) (fun _ h9 => h9) dJ0_isLatin1_aae02_0 ?_
  refine lv_if_eq (tgt := 17) hx hb dJ0_isLatin1_aae02_3 (by decide) (fun c9 => absurd c9 (by decide)) (fun _ => ?_)
  refine lv_aload_n hx hb dJ0_isLatin1_aae02_6 rfl (lv_at hl 0 rfl) ?_
  refine vk_getf hx hb (hm.2.2.2.2.2.2.2.1.1 w hw_w).2.1 hS hown (ht _ wb1141) (fun _ h9 => h9) dJ0_isLatin1_aae02_7 ?_
  refine W.eq (g2 := F0 m 10 ls [.int 0]) rfl ?_
  refine lv_if_ne (tgt := 17) hx hb dJ0_isLatin1_aae02_10 (by decide) (fun c9 => absurd (by decide) c9) (fun _ => ?_)
  refine lv_iconst (v := 1) hx hb dJ0_isLatin1_aae02_13 (by decide) ?_
  refine lv_goto (tgt := 18) hx hb dJ0_isLatin1_aae02_14 (by decide) ?_
  obtain rfl := Option.some.inj h
  exact W.zret (v := 1) (ty := .boolean) hx hb hr (rfl) (fun t ht9 hW => ⟨⟨_, (), rfl, rfl, zend ht9 hP⟩, hS.F ht9⟩) hS.2.2 dJ0_isLatin1_aae02_18
def f_J0_length_8abf5  (w : Nat) : Option (Int32) :=
  (f_J0_coder_7d493  w).bind fun r1 => some ((nI (zSl.getD w 0)) >>> (r1 &&& 31))
abbrev wk_J0_length_8abf5 : List Cond := Cond.code yJ0_length_8abf5 cJ0_length_8abf5 1 (some .int) :: WB
abbrev rm_J0_length_8abf5 : Room := { frames := 1, cells := 0, slots := 0, locals := 20 }
set_option maxHeartbeats 4000000 in
set_option maxRecDepth 100000 in
theorem c_J0_length_8abf5 (l : Launch) (D : va_G) (k : Nat → Nat)  (w : Nat) (hw_w : w < 10) {res : Int32} (h : f_J0_length_8abf5  w = some res) : Ci l yJ0_length_8abf5 wk_J0_length_8abf5 rm_J0_length_8abf5 D k [.ref (k (10 + w))] [] [] res := by
  unfold Ci
  intro sz
  refine Met.ofW (cc := cJ0_length_8abf5) (maxL := 1) (ret := (some .int)) (by decide) rfl ?_
  intro p e s m args below meth c s₁ B hml hv
  obtain ⟨rfl, hsz, hP, hK, hD0, hm⟩ := hv
  have hx := B.exec
  have hb := B.bytes
  have hr := B.returns
  have ht : ∀ w ∈ WB, w.before _ s = true := fun w hw => atoms_spec (ws := wk_J0_length_8abf5) B.pre w (List.mem_cons_of_mem _ hw)
  have hown : s.vm.findClass RJ0 = some m.cls := findClass_of_methodNamed B.named
  have hlocks := B.notSynchronized
  subst hsz
  have hD := hD0.self (sz := s.heap.size)
  generalize hAe : va_A [] s.heap.size = A at hD hm ⊢
  have hA : ∀ q : Nat, s.heap.size ≤ q → A q := fun q h => by rw [← hAe]; exact Or.inr h
  have hS : va_S A s.heap s.heap [] := va_S.rf
  have hl := lv_entry ([.ref (k (10 + w))]) (n := 1) (Nat.le_of_ble_eq_true rfl)
  rw [lg_entry_eq]
  generalize (lg_sl ([.ref (k (10 + w))]) ++ List.replicate (1 - (lg_sl ([.ref (k (10 + w))])).length) Slot.unset).toArray = ls at hl ⊢
  have hl : lv_has ls 1 [(0, .ref (k (10 + w)))] := hl
  obtain ⟨H, hH⟩ : ∃ H, H = s.heap := ⟨_, rfl⟩
  rw [← hH] at hP
  have hS : va_S A s.heap H [] := by rw [hH]; exact hS
  suffices hgo : W p l e _ s m _ below meth c H [] 0 0 _ _ by rw [hH] at hgo; exact hgo
  unfold f_J0_length_8abf5 at h
  refine lv_aload_n hx hb dJ0_length_8abf5_0 rfl (lv_at hl 0 rfl) ?_
  refine vk_getf hx hb (hm.2.2.2.2.2.2.2.1.1 w hw_w).2.2.1 hS hown (ht _ wb1140) (fun _ h9 => h9) dJ0_length_8abf5_1 ?_
  refine W.eq (g2 := F0 m 4 ls [.ref (k (20 + w))]) rfl ?_
  refine va_tlen (v := nI (zSl.getD w 0)) hx hb (hm.2.2.2.2.2.2.2.1.1 w hw_w).2.2.2 hS rfl dJ0_length_8abf5_4 ?_
  refine lv_aload_n hx hb dJ0_length_8abf5_5 rfl (lv_at hl 0 rfl) ?_
  obtain ⟨r1, h1, h⟩ := zb h
  refine zi (zrVs (C := RJ0) (As := []) (rest := [.int (nI (zSl.getD w 0))]) ⟨hx, hb, hml, hown, ht⟩ (c_J0_coder_7d493 l D k   w hw_w h1 _) (cwV 0 ht (gdV wb662 wb663 wb664 wb82 wb665) rfl rfl rfl (by decide +kernel) ⟨Nat.le_of_ble_eq_true rfl, Nat.le_of_ble_eq_true rfl⟩) hK hP hD hS hA hm [] rfl rfl (vk_recv (adK := fun i => k (10 + i)) (adV := fun i => k (20 + i)) (i := w) hm.2.2.2.2.2.2.2.1 hw_w hS) rfl hl.1 rfl (Nat.le_of_ble_eq_true rfl) dJ0_length_8abf5_6 ⟨Nat.le_refl _, Nat.le_refl _⟩) hP hD hS hA [] rfl rfl (fun H locs hP hD hS => ?_)
  have hP : va_P D vwCl [] H := hP
  have hD : va_D A [] := hD
  refine lv_ishr hx hb dJ0_length_8abf5_9 ?_
  obtain rfl := Option.some.inj h
  exact W.iret (v := (nI (zSl.getD w 0)) >>> (r1 &&& 31)) hx hb hr (fun t ht9 hW => ⟨⟨_, (), rfl, rfl, zend ht9 hP⟩, hS.F ht9⟩) hS.2.2 dJ0_length_8abf5_10
def f_J3_checkIndex_8e157_n  (a1 : Int32) (a2 : Int32) : Option (Int32) :=
  if a1 < 0 then (none) else (if a1 < a2 then (some (a1)) else (none))
abbrev wk_J3_checkIndex_8e157_n : List Cond := Cond.code yJ3_checkIndex_8e157 cJ3_checkIndex_8e157 3 (some .int) :: WB
abbrev rm_J3_checkIndex_8e157_n : Room := { frames := 0, cells := 0, slots := 0, locals := 0 }
set_option maxHeartbeats 4000000 in
set_option maxRecDepth 100000 in
theorem c_J3_checkIndex_8e157_n (l : Launch) (D : va_G) (k : Nat → Nat)  (a1 : Int32) (a2 : Int32) {res : Int32} (h : f_J3_checkIndex_8e157_n  a1 a2 = some res) : Ci l yJ3_checkIndex_8e157 wk_J3_checkIndex_8e157_n rm_J3_checkIndex_8e157_n D k [.int a1, .int a2, .null] [] [] res := by
  unfold Ci
  intro sz
  refine Met.ofW (cc := cJ3_checkIndex_8e157) (maxL := 3) (ret := (some .int)) (by decide) rfl ?_
  intro p e s m args below meth c s₁ B hml hv
  obtain ⟨rfl, hsz, hP, hK, hD0, hm⟩ := hv
  have hx := B.exec
  have hb := B.bytes
  have hr := B.returns
  have ht : ∀ w ∈ WB, w.before _ s = true := fun w hw => atoms_spec (ws := wk_J3_checkIndex_8e157_n) B.pre w (List.mem_cons_of_mem _ hw)
  have hown : s.vm.findClass RJ3 = some m.cls := findClass_of_methodNamed B.named
  have hlocks := B.notSynchronized
  subst hsz
  have hD := hD0.self (sz := s.heap.size)
  generalize hAe : va_A [] s.heap.size = A at hD hm ⊢
  have hA : ∀ q : Nat, s.heap.size ≤ q → A q := fun q h => by rw [← hAe]; exact Or.inr h
  have hS : va_S A s.heap s.heap [] := va_S.rf
  have hl := lv_entry ([.int a1, .int a2, .null]) (n := 3) (Nat.le_of_ble_eq_true rfl)
  rw [lg_entry_eq]
  generalize (lg_sl ([.int a1, .int a2, .null]) ++ List.replicate (3 - (lg_sl ([.int a1, .int a2, .null])).length) Slot.unset).toArray = ls at hl ⊢
  have hl : lv_has ls 3 [(0, .int a1), (1, .int a2), (2, .null)] := hl
  obtain ⟨H, hH⟩ : ∃ H, H = s.heap := ⟨_, rfl⟩
  rw [← hH] at hP
  have hS : va_S A s.heap H [] := by rw [hH]; exact hS
  suffices hgo : W p l e _ s m _ below meth c H [] 0 0 _ _ by rw [hH] at hgo; exact hgo
  unfold f_J3_checkIndex_8e157_n at h
  refine lv_iload_n hx hb dJ3_checkIndex_8e157_0 rfl (lv_at hl 0 rfl) ?_
  refine lv_if_lt (tgt := 9) hx hb dJ3_checkIndex_8e157_1 (by decide) (fun c2 => ?_) (fun c2 => ?_)
  · have h := zt h c2
    cases h
  · have h := zf h c2
    refine lv_iload_n hx hb dJ3_checkIndex_8e157_4 rfl (lv_at hl 0 rfl) ?_
    refine lv_iload_n hx hb dJ3_checkIndex_8e157_5 rfl (lv_at hl 1 rfl) ?_
    refine lv_icmp_lt (tgt := 16) hx hb dJ3_checkIndex_8e157_6 (by decide) (fun c1 => ?_) (fun c1 => ?_)
    · have h := zt h c1
      refine lv_iload_n hx hb dJ3_checkIndex_8e157_16 rfl (lv_at hl 0 rfl) ?_
      obtain rfl := Option.some.inj h
      exact W.iret (v := a1) hx hb hr (fun t ht9 hW => ⟨⟨_, (), rfl, rfl, zend ht9 hP⟩, hS.F ht9⟩) hS.2.2 dJ3_checkIndex_8e157_17
    · have h := zf h c1
      cases h

abbrev wk_J3_checkIndex_8e157_r : List Cond := Cond.code yJ3_checkIndex_8e157 cJ3_checkIndex_8e157 3 (some .int) :: WB
abbrev rm_J3_checkIndex_8e157_r : Room := { frames := 0, cells := 0, slots := 0, locals := 0 }
set_option maxHeartbeats 4000000 in
set_option maxRecDepth 100000 in
theorem c_J3_checkIndex_8e157_r (l : Launch) (D : va_G) (k : Nat → Nat) (t9 : Nat)  (a1 : Int32) (a2 : Int32) {res : Int32} (h : f_J3_checkIndex_8e157_n  a1 a2 = some res) : Ci l yJ3_checkIndex_8e157 wk_J3_checkIndex_8e157_r rm_J3_checkIndex_8e157_r D k [.int a1, .int a2, .ref t9] [] [] res := by
  unfold Ci
  intro sz
  refine Met.ofW (cc := cJ3_checkIndex_8e157) (maxL := 3) (ret := (some .int)) (by decide) rfl ?_
  intro p e s m args below meth c s₁ B hml hv
  obtain ⟨rfl, hsz, hP, hK, hD0, hm⟩ := hv
  have hx := B.exec
  have hb := B.bytes
  have hr := B.returns
  have ht : ∀ w ∈ WB, w.before _ s = true := fun w hw => atoms_spec (ws := wk_J3_checkIndex_8e157_r) B.pre w (List.mem_cons_of_mem _ hw)
  have hown : s.vm.findClass RJ3 = some m.cls := findClass_of_methodNamed B.named
  have hlocks := B.notSynchronized
  subst hsz
  have hD := hD0.self (sz := s.heap.size)
  generalize hAe : va_A [] s.heap.size = A at hD hm ⊢
  have hA : ∀ q : Nat, s.heap.size ≤ q → A q := fun q h => by rw [← hAe]; exact Or.inr h
  have hS : va_S A s.heap s.heap [] := va_S.rf
  have hl := lv_entry ([.int a1, .int a2, .ref t9]) (n := 3) (Nat.le_of_ble_eq_true rfl)
  rw [lg_entry_eq]
  generalize (lg_sl ([.int a1, .int a2, .ref t9]) ++ List.replicate (3 - (lg_sl ([.int a1, .int a2, .ref t9])).length) Slot.unset).toArray = ls at hl ⊢
  have hl : lv_has ls 3 [(0, .int a1), (1, .int a2), (2, .ref t9)] := hl
  obtain ⟨H, hH⟩ : ∃ H, H = s.heap := ⟨_, rfl⟩
  rw [← hH] at hP
  have hS : va_S A s.heap H [] := by rw [hH]; exact hS
  suffices hgo : W p l e _ s m _ below meth c H [] 0 0 _ _ by rw [hH] at hgo; exact hgo
  unfold f_J3_checkIndex_8e157_n at h
  refine lv_iload_n hx hb dJ3_checkIndex_8e157_0 rfl (lv_at hl 0 rfl) ?_
  refine lv_if_lt (tgt := 9) hx hb dJ3_checkIndex_8e157_1 (by decide) (fun c2 => ?_) (fun c2 => ?_)
  · have h := zt h c2
    cases h
  · have h := zf h c2
    refine lv_iload_n hx hb dJ3_checkIndex_8e157_4 rfl (lv_at hl 0 rfl) ?_
    refine lv_iload_n hx hb dJ3_checkIndex_8e157_5 rfl (lv_at hl 1 rfl) ?_
    refine lv_icmp_lt (tgt := 16) hx hb dJ3_checkIndex_8e157_6 (by decide) (fun c1 => ?_) (fun c1 => ?_)
    · have h := zt h c1
      refine lv_iload_n hx hb dJ3_checkIndex_8e157_16 rfl (lv_at hl 0 rfl) ?_
      obtain rfl := Option.some.inj h
      exact W.iret (v := a1) hx hb hr (fun t ht9 hW => ⟨⟨_, (), rfl, rfl, zend ht9 hP⟩, hS.F ht9⟩) hS.2.2 dJ3_checkIndex_8e157_17
    · have h := zf h c1
      cases h
def f_J0_checkIndex_df160  (a1 : Int32) (a2 : Int32) : Option (Unit) :=
  (f_J3_checkIndex_8e157_n  a1 a2).bind fun r1 => some ()
abbrev wk_J0_checkIndex_df160 : List Cond := Cond.code yJ0_checkIndex_df160 cJ0_checkIndex_df160 2 none :: WB
abbrev rm_J0_checkIndex_df160 : Room := { frames := 1, cells := 0, slots := 0, locals := 22 }
set_option maxHeartbeats 4000000 in
set_option maxRecDepth 100000 in
theorem c_J0_checkIndex_df160 (l : Launch) (D : va_G) (k : Nat → Nat)  (a1 : Int32) (a2 : Int32) {res : Unit} (h : f_J0_checkIndex_df160  a1 a2 = some res) : Cv l yJ0_checkIndex_df160 wk_J0_checkIndex_df160 rm_J0_checkIndex_df160 D k [.int a1, .int a2] [] [] := by
  unfold Cv
  intro sz
  refine Met.ofW (cc := cJ0_checkIndex_df160) (maxL := 2) (ret := none) (by decide) rfl ?_
  intro p e s m args below meth c s₁ B hml hv
  obtain ⟨rfl, hsz, hP, hK, hD0, hm⟩ := hv
  have hx := B.exec
  have hb := B.bytes
  have hr := B.returns
  have ht : ∀ w ∈ WB, w.before _ s = true := fun w hw => atoms_spec (ws := wk_J0_checkIndex_df160) B.pre w (List.mem_cons_of_mem _ hw)
  have hown : s.vm.findClass RJ0 = some m.cls := findClass_of_methodNamed B.named
  have hlocks := B.notSynchronized
  subst hsz
  have hD := hD0.self (sz := s.heap.size)
  generalize hAe : va_A [] s.heap.size = A at hD hm ⊢
  have hA : ∀ q : Nat, s.heap.size ≤ q → A q := fun q h => by rw [← hAe]; exact Or.inr h
  have hS : va_S A s.heap s.heap [] := va_S.rf
  have hl := lv_entry ([.int a1, .int a2]) (n := 2) (Nat.le_of_ble_eq_true rfl)
  rw [lg_entry_eq]
  generalize (lg_sl ([.int a1, .int a2]) ++ List.replicate (2 - (lg_sl ([.int a1, .int a2])).length) Slot.unset).toArray = ls at hl ⊢
  have hl : lv_has ls 2 [(0, .int a1), (1, .int a2)] := hl
  obtain ⟨H, hH⟩ : ∃ H, H = s.heap := ⟨_, rfl⟩
  rw [← hH] at hP
  have hS : va_S A s.heap H [] := by rw [hH]; exact hS
  suffices hgo : W p l e _ s m _ below meth c H [] 0 0 _ _ by rw [hH] at hgo; exact hgo
  unfold f_J0_checkIndex_df160 at h
  refine lv_iload_n hx hb dJ0_checkIndex_df160_0 rfl (lv_at hl 0 rfl) ?_
  refine lv_iload_n hx hb dJ0_checkIndex_df160_1 rfl (lv_at hl 1 rfl) ?_
  rcases hm.2.2.2.2.2.1 with hz | ⟨t9, hz⟩
  ·
    refine va_gets hx hb hz hS hown (ht _ wb682) (fun _ h9 => h9) dJ0_checkIndex_df160_2 ?_
    obtain ⟨r1, h1, h⟩ := zb h
    refine zi (zrS (As := [.int a1, .int a2, .null]) (rest := []) ⟨hx, hb, hml, hown, ht⟩ (c_J3_checkIndex_8e157_n l D k   a1 a2 h1 _) (va_cwS 3 ht (gdS wb684 wb685 wb84 wb686) rfl rfl rfl (by decide +kernel) ⟨Nat.le_of_ble_eq_true rfl, Nat.le_of_ble_eq_true rfl⟩) hK hP hD hS hA hm [] rfl rfl rfl hl.1 rfl (Nat.le_of_ble_eq_true rfl) dJ0_checkIndex_df160_5 ⟨Nat.le_refl _, Nat.le_refl _⟩) hP hD hS hA [] rfl rfl (fun H locs hP hD hS => ?_)
    have hP : va_P D vwCl [] H := hP
    have hD : va_D A [] := hD
    refine lv_pop hx hb dJ0_checkIndex_df160_8 rfl ?_
    obtain rfl := Option.some.inj h
    exact W.vret hx hb hr (fun t ht9 hW => ⟨⟨(), rfl, trivial, zend ht9 hP⟩, hS.F ht9⟩) hS.2.2 dJ0_checkIndex_df160_9
  ·
    refine va_gets hx hb hz hS hown (ht _ wb682) (fun _ h9 => h9) dJ0_checkIndex_df160_2 ?_
    obtain ⟨r2, h2, h⟩ := zb h
    refine zi (zrS (As := [.int a1, .int a2, .ref t9]) (rest := []) ⟨hx, hb, hml, hown, ht⟩ (c_J3_checkIndex_8e157_r l D k t9  a1 a2 h2 _) (va_cwS 3 ht (gdS wb684 wb685 wb84 wb686) rfl rfl rfl (by decide +kernel) ⟨Nat.le_of_ble_eq_true rfl, Nat.le_of_ble_eq_true rfl⟩) hK hP hD hS hA hm [] rfl rfl rfl hl.1 rfl (Nat.le_of_ble_eq_true rfl) dJ0_checkIndex_df160_5 ⟨Nat.le_refl _, Nat.le_refl _⟩) hP hD hS hA [] rfl rfl (fun H locs hP hD hS => ?_)
    have hP : va_P D vwCl [] H := hP
    have hD : va_D A [] := hD
    refine lv_pop hx hb dJ0_checkIndex_df160_8 rfl ?_
    obtain rfl := Option.some.inj h
    exact W.vret hx hb hr (fun t ht9 hW => ⟨⟨(), rfl, trivial, zend ht9 hP⟩, hS.F ht9⟩) hS.2.2 dJ0_checkIndex_df160_9
def f_J1_charAt_3b067  (w : Nat) (a1 : Int32) : Option (Int32) :=
  (f_J0_checkIndex_df160  a1 (nI (zSl.getD w 0))).bind fun r1 => if zok a1 (zSl.getD w 0) then (some (zi2c (((zSb.getD w []).getD (Int32.toNatClampNeg a1) 0) &&& 255))) else none
abbrev wk_J1_charAt_3b067 : List Cond := Cond.code yJ1_charAt_3b067 cJ1_charAt_3b067 2 (some .char) :: WB
abbrev rm_J1_charAt_3b067 : Room := { frames := 2, cells := 0, slots := 0, locals := 43 }
set_option maxHeartbeats 4000000 in
set_option maxRecDepth 100000 in
theorem c_J1_charAt_3b067 (l : Launch) (D : va_G) (k : Nat → Nat)  (w : Nat) (a1 : Int32) (hw_w : w < 10) {res : Int32} (h : f_J1_charAt_3b067  w a1 = some res) : Ci l yJ1_charAt_3b067 wk_J1_charAt_3b067 rm_J1_charAt_3b067 D k [.ref (k (20 + w)), .int a1] [] [] res := by
  unfold Ci
  intro sz
  refine Met.ofW (cc := cJ1_charAt_3b067) (maxL := 2) (ret := (some .char)) (by decide) rfl ?_
  intro p e s m args below meth c s₁ B hml hv
  obtain ⟨rfl, hsz, hP, hK, hD0, hm⟩ := hv
  have hx := B.exec
  have hb := B.bytes
  have hr := B.returns
  have ht : ∀ w ∈ WB, w.before _ s = true := fun w hw => atoms_spec (ws := wk_J1_charAt_3b067) B.pre w (List.mem_cons_of_mem _ hw)
  have hown : s.vm.findClass RJ1 = some m.cls := findClass_of_methodNamed B.named
  have hlocks := B.notSynchronized
  subst hsz
  have hD := hD0.self (sz := s.heap.size)
  generalize hAe : va_A [] s.heap.size = A at hD hm ⊢
  have hA : ∀ q : Nat, s.heap.size ≤ q → A q := fun q h => by rw [← hAe]; exact Or.inr h
  have hS : va_S A s.heap s.heap [] := va_S.rf
  have hl := lv_entry ([.ref (k (20 + w)), .int a1]) (n := 2) (Nat.le_of_ble_eq_true rfl)
  rw [lg_entry_eq]
  generalize (lg_sl ([.ref (k (20 + w)), .int a1]) ++ List.replicate (2 - (lg_sl ([.ref (k (20 + w)), .int a1])).length) Slot.unset).toArray = ls at hl ⊢
  have hl : lv_has ls 2 [(0, .ref (k (20 + w))), (1, .int a1)] := hl
  obtain ⟨H, hH⟩ : ∃ H, H = s.heap := ⟨_, rfl⟩
  rw [← hH] at hP
  have hS : va_S A s.heap H [] := by rw [hH]; exact hS
  suffices hgo : W p l e _ s m _ below meth c H [] 0 0 _ _ by rw [hH] at hgo; exact hgo
  unfold f_J1_charAt_3b067 at h
  refine lv_iload_n hx hb dJ1_charAt_3b067_0 rfl (lv_at hl 1 rfl) ?_
  refine lv_aload_n hx hb dJ1_charAt_3b067_1 rfl (lv_at hl 0 rfl) ?_
  refine va_tlen (v := nI (zSl.getD w 0)) hx hb (hm.2.2.2.2.2.2.2.1.1 w hw_w).2.2.2 hS rfl dJ1_charAt_3b067_2 ?_
  obtain ⟨r1, h1, h⟩ := zb h
  refine zv (zrS (As := [.int a1, .int (nI (zSl.getD w 0))]) (rest := []) ⟨hx, hb, hml, hown, ht⟩ (c_J0_checkIndex_df160 l D k   a1 (nI (zSl.getD w 0)) h1 _) (va_cwS 2 ht (gdS wb679 wb680 wb82 wb681) rfl rfl rfl (by decide +kernel) ⟨Nat.le_of_ble_eq_true rfl, Nat.le_of_ble_eq_true rfl⟩) hK hP hD hS hA hm [] rfl rfl rfl hl.1 rfl (Nat.le_of_ble_eq_true rfl) dJ1_charAt_3b067_3 ⟨Nat.le_refl _, Nat.le_refl _⟩) hP hD hS hA [] rfl rfl (fun H locs hP hD hS => ?_)
  have hP : va_P D vwCl [] H := hP
  have hD : va_D A [] := hD
  refine lv_aload_n hx hb dJ1_charAt_3b067_6 rfl (lv_at hl 0 rfl) ?_
  refine lv_iload_n hx hb dJ1_charAt_3b067_7 rfl (lv_at hl 1 rfl) ?_
  obtain ⟨hi1, h⟩ := zg h
  refine va_tb hx hb (hm.2.2.2.2.2.2.2.1.1 w hw_w).2.2.2 hS hi1 rfl dJ1_charAt_3b067_8 ?_
  refine lv_sipush (v := 255) hx hb dJ1_charAt_3b067_9 (by decide) ?_
  refine lv_iand hx hb dJ1_charAt_3b067_12 ?_
  refine lv_i2c (v := zi2c (((zSb.getD w []).getD (Int32.toNatClampNeg a1) 0) &&& 255)) hx hb dJ1_charAt_3b067_13 rfl ?_
  obtain rfl := Option.some.inj h
  exact W.zret (v := zi2c (((zSb.getD w []).getD (Int32.toNatClampNeg a1) 0) &&& 255)) (ty := .char) hx hb hr (zi2c_nar _) (fun t ht9 hW => ⟨⟨_, (), rfl, rfl, zend ht9 hP⟩, hS.F ht9⟩) hS.2.2 dJ1_charAt_3b067_14
theorem nar_J1 {w : Nat} {a r : Int32} (h : f_J1_charAt_3b067 w a = some r) : narrow .char (.int r) = .int r := by
  unfold f_J1_charAt_3b067 at h
  obtain ⟨_, _, h⟩ := zb h
  obtain ⟨_, h⟩ := zg h
  obtain rfl := Option.some.inj h
  exact zi2c_nar _
def f_J0_charAt_5068e  (w : Nat) (a1 : Int32) : Option (Int32) :=
  (f_J0_isLatin1_aae02  w).bind fun r1 => if (zB r1) = 0 then (none) else ((f_J1_charAt_3b067  w a1).bind fun r2 => some (r2))
abbrev wk_J0_charAt_5068e : List Cond := Cond.code yJ0_charAt_5068e cJ0_charAt_5068e 2 (some .char) :: WB
abbrev rm_J0_charAt_5068e : Room := { frames := 3, cells := 0, slots := 0, locals := 64 }
set_option maxHeartbeats 4000000 in
set_option maxRecDepth 100000 in
theorem c_J0_charAt_5068e (l : Launch) (D : va_G) (k : Nat → Nat)  (w : Nat) (a1 : Int32) (hw_w : w < 10) {res : Int32} (h : f_J0_charAt_5068e  w a1 = some res) : Ci l yJ0_charAt_5068e wk_J0_charAt_5068e rm_J0_charAt_5068e D k [.ref (k (10 + w)), .int a1] [] [] res := by
  unfold Ci
  intro sz
  refine Met.ofW (cc := cJ0_charAt_5068e) (maxL := 2) (ret := (some .char)) (by decide) rfl ?_
  intro p e s m args below meth c s₁ B hml hv
  obtain ⟨rfl, hsz, hP, hK, hD0, hm⟩ := hv
  have hx := B.exec
  have hb := B.bytes
  have hr := B.returns
  have ht : ∀ w ∈ WB, w.before _ s = true := fun w hw => atoms_spec (ws := wk_J0_charAt_5068e) B.pre w (List.mem_cons_of_mem _ hw)
  have hown : s.vm.findClass RJ0 = some m.cls := findClass_of_methodNamed B.named
  have hlocks := B.notSynchronized
  subst hsz
  have hD := hD0.self (sz := s.heap.size)
  generalize hAe : va_A [] s.heap.size = A at hD hm ⊢
  have hA : ∀ q : Nat, s.heap.size ≤ q → A q := fun q h => by rw [← hAe]; exact Or.inr h
  have hS : va_S A s.heap s.heap [] := va_S.rf
  have hl := lv_entry ([.ref (k (10 + w)), .int a1]) (n := 2) (Nat.le_of_ble_eq_true rfl)
  rw [lg_entry_eq]
  generalize (lg_sl ([.ref (k (10 + w)), .int a1]) ++ List.replicate (2 - (lg_sl ([.ref (k (10 + w)), .int a1])).length) Slot.unset).toArray = ls at hl ⊢
  have hl : lv_has ls 2 [(0, .ref (k (10 + w))), (1, .int a1)] := hl
  obtain ⟨H, hH⟩ : ∃ H, H = s.heap := ⟨_, rfl⟩
  rw [← hH] at hP
  have hS : va_S A s.heap H [] := by rw [hH]; exact hS
  suffices hgo : W p l e _ s m _ below meth c H [] 0 0 _ _ by rw [hH] at hgo; exact hgo
  unfold f_J0_charAt_5068e at h
  refine lv_aload_n hx hb dJ0_charAt_5068e_0 rfl (lv_at hl 0 rfl) ?_
  obtain ⟨r1, h1, h⟩ := zb h
  refine zi (zrVs (C := RJ0) (As := []) (rest := []) ⟨hx, hb, hml, hown, ht⟩ (c_J0_isLatin1_aae02 l D k   w hw_w h1 _) (cwV 0 ht (gdV wb672 wb673 wb674 wb82 wb675) rfl rfl rfl (by decide +kernel) ⟨Nat.le_of_ble_eq_true rfl, Nat.le_of_ble_eq_true rfl⟩) hK hP hD hS hA hm [] rfl rfl (vk_recv (adK := fun i => k (10 + i)) (adV := fun i => k (20 + i)) (i := w) hm.2.2.2.2.2.2.2.1 hw_w hS) rfl hl.1 rfl (Nat.le_of_ble_eq_true rfl) dJ0_charAt_5068e_1 ⟨Nat.le_refl _, Nat.le_refl _⟩) hP hD hS hA [] rfl rfl (fun H locs hP hD hS => ?_)
  have hP : va_P D vwCl [] H := hP
  have hD : va_D A [] := hD
  refine lv_if_eq (tgt := 16) hx hb dJ0_charAt_5068e_4 (by decide) (fun c1 => ?_) (fun c1 => ?_)
  · have h := zt h c1
    cases h
  · have h := zf h c1
    refine lv_aload_n hx hb dJ0_charAt_5068e_7 rfl (lv_at hl 0 rfl) ?_
    refine vk_getf hx hb (hm.2.2.2.2.2.2.2.1.1 w hw_w).2.2.1 hS hown (ht _ wb1140) (fun _ h9 => h9) dJ0_charAt_5068e_8 ?_
    refine W.eq (g2 := F0 m 11 ls [.ref (k (20 + w))]) rfl ?_
    refine lv_iload_n hx hb dJ0_charAt_5068e_11 rfl (lv_at hl 1 rfl) ?_
    obtain ⟨r2, h2, h⟩ := zb h
    refine zi (zrS (As := [.ref (k (20 + w)), .int a1]) (rest := []) ⟨hx, hb, hml, hown, ht⟩ (c_J1_charAt_3b067 l D k   w a1 hw_w h2 _) (va_cwS 2 ht (gdS wb676 wb677 wb83 wb678) rfl rfl rfl (by decide +kernel) ⟨Nat.le_of_ble_eq_true rfl, Nat.le_of_ble_eq_true rfl⟩) hK hP hD hS hA hm [] rfl rfl rfl hl.1 rfl (Nat.le_of_ble_eq_true rfl) dJ0_charAt_5068e_12 ⟨Nat.le_refl _, Nat.le_refl _⟩) hP hD hS hA [] rfl rfl (fun H locs hP hD hS => ?_)
    have hP : va_P D vwCl [] H := hP
    have hD : va_D A [] := hD
    obtain rfl := Option.some.inj h
    exact W.zret (v := r2) (ty := .char) hx hb hr (nar_J1 h2) (fun t ht9 hW => ⟨⟨_, (), rfl, rfl, zend ht9 hP⟩, hS.F ht9⟩) hS.2.2 dJ0_charAt_5068e_15
def f_X4_nameOf  (a1 : Int32) : Option (Nat) :=
  if a1 = 0 then (some (0)) else (if a1 = 1 then (some (1)) else (if a1 = 2 then (some (2)) else (if a1 = 3 then (some (3)) else (if a1 = 4 then (some (4)) else (if a1 = 5 then (some (5)) else (if a1 = 6 then (some (6)) else (if a1 = 7 then (some (7)) else (if a1 = 8 then (some (8)) else (some (9))))))))))
abbrev wk_X4_nameOf : List Cond := Cond.code yX4_nameOf cX4_nameOf 1 (some (.object "java/lang/String")) :: WB
abbrev rm_X4_nameOf : Room := { frames := 0, cells := 0, slots := 0, locals := 0 }
set_option maxHeartbeats 4000000 in
set_option maxRecDepth 100000 in
theorem c_X4_nameOf (l : Launch) (D : va_G) (k : Nat → Nat)  (a1 : Int32) {res : Nat} (h : f_X4_nameOf  a1 = some res) : Cr l yX4_nameOf wk_X4_nameOf rm_X4_nameOf D k [.int a1] [] [] (k (10 + res)) := by
  unfold Cr
  intro sz
  refine Met.ofW (cc := cX4_nameOf) (maxL := 1) (ret := (some (.object "java/lang/String"))) (by decide) rfl ?_
  intro p e s m args below meth c s₁ B hml hv
  obtain ⟨rfl, hsz, hP, hK, hD0, hm⟩ := hv
  have hx := B.exec
  have hb := B.bytes
  have hr := B.returns
  have ht : ∀ w ∈ WB, w.before _ s = true := fun w hw => atoms_spec (ws := wk_X4_nameOf) B.pre w (List.mem_cons_of_mem _ hw)
  have hown : s.vm.findClass RX4 = some m.cls := findClass_of_methodNamed B.named
  have hlocks := B.notSynchronized
  subst hsz
  have hD := hD0.self (sz := s.heap.size)
  generalize hAe : va_A [] s.heap.size = A at hD hm ⊢
  have hA : ∀ q : Nat, s.heap.size ≤ q → A q := fun q h => by rw [← hAe]; exact Or.inr h
  have hS : va_S A s.heap s.heap [] := va_S.rf
  have hl := lv_entry ([.int a1]) (n := 1) (Nat.le_of_ble_eq_true rfl)
  rw [lg_entry_eq]
  generalize (lg_sl ([.int a1]) ++ List.replicate (1 - (lg_sl ([.int a1])).length) Slot.unset).toArray = ls at hl ⊢
  have hl : lv_has ls 1 [(0, .int a1)] := hl
  obtain ⟨H, hH⟩ : ∃ H, H = s.heap := ⟨_, rfl⟩
  rw [← hH] at hP
  have hS : va_S A s.heap H [] := by rw [hH]; exact hS
  suffices hgo : W p l e _ s m _ below meth c H [] 0 0 _ _ by rw [hH] at hgo; exact hgo
  unfold f_X4_nameOf at h
  refine lv_iload_n hx hb dX4_nameOf_0 rfl (lv_at hl 0 rfl) ?_
  by_cases c1 : a1 = 0
  · have h := zt h c1
    refine lv_tableIn (off := 51) (tgt := 52) hx hb dX4_nameOf_1 (by rw [c1]; decide) (by rw [c1]; decide) (by rw [c1]; rfl) (by decide) ?_
    refine va_ldcS (tx := "deny") (q := k (10 + 0)) hx hb hown (hm.2.2.2.2.2.2.1 0 (by decide)) dX4_nameOf_52 ?_
    obtain rfl := Option.some.inj h
    exact W.aret (v := .ref (k (10 + 0))) hx hb hr (Or.inl ⟨_, rfl⟩) (Or.inr ⟨_, rfl⟩) (fun t ht9 hW => ⟨⟨(), _, rfl, trivial, rfl, zend ht9 hP⟩, hS.F ht9⟩) hS.2.2 dX4_nameOf_54
  · have h := zf h c1
    by_cases c2 : a1 = 1
    · have h := zt h c2
      refine lv_tableIn (off := 54) (tgt := 55) hx hb dX4_nameOf_1 (by rw [c2]; decide) (by rw [c2]; decide) (by rw [c2]; rfl) (by decide) ?_
      refine va_ldcS (tx := "allow") (q := k (10 + 1)) hx hb hown (hm.2.2.2.2.2.2.1 1 (by decide)) dX4_nameOf_55 ?_
      obtain rfl := Option.some.inj h
      exact W.aret (v := .ref (k (10 + 1))) hx hb hr (Or.inl ⟨_, rfl⟩) (Or.inr ⟨_, rfl⟩) (fun t ht9 hW => ⟨⟨(), _, rfl, trivial, rfl, zend ht9 hP⟩, hS.F ht9⟩) hS.2.2 dX4_nameOf_57
    · have h := zf h c2
      by_cases c3 : a1 = 2
      · have h := zt h c3
        refine lv_tableIn (off := 57) (tgt := 58) hx hb dX4_nameOf_1 (by rw [c3]; decide) (by rw [c3]; decide) (by rw [c3]; rfl) (by decide) ?_
        refine va_ldcS (tx := "reject") (q := k (10 + 2)) hx hb hown (hm.2.2.2.2.2.2.1 2 (by decide)) dX4_nameOf_58 ?_
        obtain rfl := Option.some.inj h
        exact W.aret (v := .ref (k (10 + 2))) hx hb hr (Or.inl ⟨_, rfl⟩) (Or.inr ⟨_, rfl⟩) (fun t ht9 hW => ⟨⟨(), _, rfl, trivial, rfl, zend ht9 hP⟩, hS.F ht9⟩) hS.2.2 dX4_nameOf_60
      · have h := zf h c3
        by_cases c4 : a1 = 3
        · have h := zt h c4
          refine lv_tableIn (off := 60) (tgt := 61) hx hb dX4_nameOf_1 (by rw [c4]; decide) (by rw [c4]; decide) (by rw [c4]; rfl) (by decide) ?_
          refine va_ldcS (tx := "from") (q := k (10 + 3)) hx hb hown (hm.2.2.2.2.2.2.1 3 (by decide)) dX4_nameOf_61 ?_
          obtain rfl := Option.some.inj h
          exact W.aret (v := .ref (k (10 + 3))) hx hb hr (Or.inl ⟨_, rfl⟩) (Or.inr ⟨_, rfl⟩) (fun t ht9 hW => ⟨⟨(), _, rfl, trivial, rfl, zend ht9 hP⟩, hS.F ht9⟩) hS.2.2 dX4_nameOf_63
        · have h := zf h c4
          by_cases c5 : a1 = 4
          · have h := zt h c5
            refine lv_tableIn (off := 63) (tgt := 64) hx hb dX4_nameOf_1 (by rw [c5]; decide) (by rw [c5]; decide) (by rw [c5]; rfl) (by decide) ?_
            refine va_ldcS (tx := "to") (q := k (10 + 4)) hx hb hown (hm.2.2.2.2.2.2.1 4 (by decide)) dX4_nameOf_64 ?_
            obtain rfl := Option.some.inj h
            exact W.aret (v := .ref (k (10 + 4))) hx hb hr (Or.inl ⟨_, rfl⟩) (Or.inr ⟨_, rfl⟩) (fun t ht9 hW => ⟨⟨(), _, rfl, trivial, rfl, zend ht9 hP⟩, hS.F ht9⟩) hS.2.2 dX4_nameOf_66
          · have h := zf h c5
            by_cases c6 : a1 = 5
            · have h := zt h c6
              refine lv_tableIn (off := 66) (tgt := 67) hx hb dX4_nameOf_1 (by rw [c6]; decide) (by rw [c6]; decide) (by rw [c6]; rfl) (by decide) ?_
              refine va_ldcS (tx := "src") (q := k (10 + 5)) hx hb hown (hm.2.2.2.2.2.2.1 5 (by decide)) dX4_nameOf_67 ?_
              obtain rfl := Option.some.inj h
              exact W.aret (v := .ref (k (10 + 5))) hx hb hr (Or.inl ⟨_, rfl⟩) (Or.inr ⟨_, rfl⟩) (fun t ht9 hW => ⟨⟨(), _, rfl, trivial, rfl, zend ht9 hP⟩, hS.F ht9⟩) hS.2.2 dX4_nameOf_69
            · have h := zf h c6
              by_cases c7 : a1 = 6
              · have h := zt h c7
                refine lv_tableIn (off := 69) (tgt := 70) hx hb dX4_nameOf_1 (by rw [c7]; decide) (by rw [c7]; decide) (by rw [c7]; rfl) (by decide) ?_
                refine va_ldcS (tx := "dst") (q := k (10 + 6)) hx hb hown (hm.2.2.2.2.2.2.1 6 (by decide)) dX4_nameOf_70 ?_
                obtain rfl := Option.some.inj h
                exact W.aret (v := .ref (k (10 + 6))) hx hb hr (Or.inl ⟨_, rfl⟩) (Or.inr ⟨_, rfl⟩) (fun t ht9 hW => ⟨⟨(), _, rfl, trivial, rfl, zend ht9 hP⟩, hS.F ht9⟩) hS.2.2 dX4_nameOf_72
              · have h := zf h c7
                by_cases c8 : a1 = 7
                · have h := zt h c8
                  refine lv_tableIn (off := 72) (tgt := 73) hx hb dX4_nameOf_1 (by rw [c8]; decide) (by rw [c8]; decide) (by rw [c8]; rfl) (by decide) ?_
                  refine va_ldcS (tx := "port") (q := k (10 + 7)) hx hb hown (hm.2.2.2.2.2.2.1 7 (by decide)) dX4_nameOf_73 ?_
                  obtain rfl := Option.some.inj h
                  exact W.aret (v := .ref (k (10 + 7))) hx hb hr (Or.inl ⟨_, rfl⟩) (Or.inr ⟨_, rfl⟩) (fun t ht9 hW => ⟨⟨(), _, rfl, trivial, rfl, zend ht9 hP⟩, hS.F ht9⟩) hS.2.2 dX4_nameOf_75
                · have h := zf h c8
                  by_cases c9 : a1 = 8
                  · have h := zt h c9
                    refine lv_tableIn (off := 75) (tgt := 76) hx hb dX4_nameOf_1 (by rw [c9]; decide) (by rw [c9]; decide) (by rw [c9]; rfl) (by decide) ?_
                    refine va_ldcS (tx := "stream") (q := k (10 + 8)) hx hb hown (hm.2.2.2.2.2.2.1 8 (by decide)) dX4_nameOf_76 ?_
                    obtain rfl := Option.some.inj h
                    exact W.aret (v := .ref (k (10 + 8))) hx hb hr (Or.inl ⟨_, rfl⟩) (Or.inr ⟨_, rfl⟩) (fun t ht9 hW => ⟨⟨(), _, rfl, trivial, rfl, zend ht9 hP⟩, hS.F ht9⟩) hS.2.2 dX4_nameOf_78
                  · have h := zf h c9
                    refine lv_tableOut (tgt := 79) hx hb dX4_nameOf_1 (by have e0 : (Int32.toInt a1) ≠ 0 := fun q => c1 (Int32.toInt_inj.mp (by rw [q]; rfl)); have e1 : (Int32.toInt a1) ≠ 1 := fun q => c2 (Int32.toInt_inj.mp (by rw [q]; rfl)); have e2 : (Int32.toInt a1) ≠ 2 := fun q => c3 (Int32.toInt_inj.mp (by rw [q]; rfl)); have e3 : (Int32.toInt a1) ≠ 3 := fun q => c4 (Int32.toInt_inj.mp (by rw [q]; rfl)); have e4 : (Int32.toInt a1) ≠ 4 := fun q => c5 (Int32.toInt_inj.mp (by rw [q]; rfl)); have e5 : (Int32.toInt a1) ≠ 5 := fun q => c6 (Int32.toInt_inj.mp (by rw [q]; rfl)); have e6 : (Int32.toInt a1) ≠ 6 := fun q => c7 (Int32.toInt_inj.mp (by rw [q]; rfl)); have e7 : (Int32.toInt a1) ≠ 7 := fun q => c8 (Int32.toInt_inj.mp (by rw [q]; rfl)); have e8 : (Int32.toInt a1) ≠ 8 := fun q => c9 (Int32.toInt_inj.mp (by rw [q]; rfl)); omega) (by decide) ?_
                    refine va_ldcS (tx := "single") (q := k (10 + 9)) hx hb hown (hm.2.2.2.2.2.2.1 9 (by decide)) dX4_nameOf_79 ?_
                    obtain rfl := Option.some.inj h
                    exact W.aret (v := .ref (k (10 + 9))) hx hb hr (Or.inl ⟨_, rfl⟩) (Or.inr ⟨_, rfl⟩) (fun t ht9 hW => ⟨⟨(), _, rfl, trivial, rfl, zend ht9 hP⟩, hS.F ht9⟩) hS.2.2 dX4_nameOf_81
def f_X4_standsHere_L2 (fu : Nat) (K : Int32 → Option (Bool)) (w : Nat) (txn : Int32) (txp : Int32) (txbf : Nat → Int32) : Nat → Int32 → Option (Bool)
  | 0, _ => none
  | n + 1, v2 =>
  (f_J0_length_8abf5  w).bind fun r1 => if r1 ≤ v2 then (K v2) else ((f_X4_byteAt txn txbf (txp + v2)).bind fun r2 => (f_J0_charAt_5068e  w v2).bind fun r3 => if r2 = r3 then (f_X4_standsHere_L2 fu K w txn txp txbf n (v2 + 1)) else (some (false)))
def f_X4_standsHere (fu : Nat) (txn : Int32) (txp : Int32) (txbf : Nat → Int32) (w : Nat) : Option (Bool) :=
  f_X4_standsHere_L2 fu (fun (x1 : Int32) => (f_J0_length_8abf5  w).bind fun r4 => (f_X4_byteAt txn txbf (txp + r4)).bind fun r5 => (f_X4_isLetter  r5).bind fun r6 => if (zB r6) = 0 then (some (true)) else (some (false))) w txn txp txbf fu 0
abbrev wk_X4_standsHere : List Cond := Cond.code yX4_standsHere cX4_standsHere 3 (some .boolean) :: WB
abbrev rm_X4_standsHere : Room := { frames := 4, cells := 0, slots := 0, locals := 85 }
set_option maxHeartbeats 4000000 in
set_option maxRecDepth 100000 in
theorem c_X4_standsHere (l : Launch) (D : va_G) (k : Nat → Nat) (tx txb txt : Nat) (txn : Int32) (txp : Int32) (txg : Int32) (txe : Int32) (txbf : Nat → Int32) (w : Nat) (fu : Nat) (hw_w : w < 10) {res : Bool} (h : f_X4_standsHere fu txn txp txbf w = some res) : Ci l yX4_standsHere wk_X4_standsHere rm_X4_standsHere D k [.ref tx, .ref (k (10 + w))] [(tx, .inr (4, [.ref txb, .ref txt, .int txn, .int txp, .int txg, .int txe])), (txb, .inl (k 0, 120, .inl txbf))] [(tx, .inr (4, [.ref txb, .ref txt, .int txn, .int txp, .int txg, .int txe])), (txb, .inl (k 0, 120, .inl txbf))] (zB res) := by
  unfold Ci
  intro sz
  refine Met.ofW (cc := cX4_standsHere) (maxL := 3) (ret := (some .boolean)) (by decide) rfl ?_
  intro p e s m args below meth c s₁ B hml hv
  obtain ⟨rfl, hsz, hP, hK, hD0, hm⟩ := hv
  have hx := B.exec
  have hb := B.bytes
  have hr := B.returns
  have ht : ∀ w ∈ WB, w.before _ s = true := fun w hw => atoms_spec (ws := wk_X4_standsHere) B.pre w (List.mem_cons_of_mem _ hw)
  have hown : s.vm.findClass RX4 = some m.cls := findClass_of_methodNamed B.named
  have hlocks := B.notSynchronized
  subst hsz
  have hD := hD0.self (sz := s.heap.size)
  generalize hAe : va_A [(tx, .inr (4, [.ref txb, .ref txt, .int txn, .int txp, .int txg, .int txe])), (txb, .inl (k 0, 120, .inl txbf))] s.heap.size = A at hD hm ⊢
  have hA : ∀ q : Nat, s.heap.size ≤ q → A q := fun q h => by rw [← hAe]; exact Or.inr h
  have hS : va_S A s.heap s.heap [] := va_S.rf
  have hl := lv_entry ([.ref tx, .ref (k (10 + w))]) (n := 3) (Nat.le_of_ble_eq_true rfl)
  rw [lg_entry_eq]
  generalize (lg_sl ([.ref tx, .ref (k (10 + w))]) ++ List.replicate (3 - (lg_sl ([.ref tx, .ref (k (10 + w))])).length) Slot.unset).toArray = ls at hl ⊢
  have hl : lv_has ls 3 [(0, .ref tx), (1, .ref (k (10 + w)))] := hl
  obtain ⟨H, hH⟩ : ∃ H, H = s.heap := ⟨_, rfl⟩
  rw [← hH] at hP
  have hS : va_S A s.heap H [] := by rw [hH]; exact hS
  suffices hgo : W p l e _ s m _ below meth c H [] 0 0 _ _ by rw [hH] at hgo; exact hgo
  unfold f_X4_standsHere at h
  refine lv_iconst (v := 0) hx hb dX4_standsHere_0 (by decide) ?_
  refine lv_istore_n (lv' := [(2, .int 0), (0, .ref tx), (1, .ref (k (10 + w)))]) hx hb dX4_standsHere_1 rfl hl (by decide) rfl (fun ls hl => ?_)
  have loop2 : ∀ (txn : Int32) (txp : Int32) (txg : Int32) (txe : Int32) (txbf : Nat → Int32), ∀ (K : Int32 → Option (Bool)), (∀ (v2 : Int32), K v2 = some res → ∀ (H : Heap) (locs : List Loc), va_P D vwCl [(tx, .inr (4, [.ref txb, .ref txt, .int txn, .int txp, .int txg, .int txe])), (txb, .inl (k 0, 120, .inl txbf))] H → va_D A [(tx, .inr (4, [.ref txb, .ref txt, .int txn, .int txp, .int txg, .int txe])), (txb, .inl (k 0, 120, .inl txbf))] → va_S A s.heap H locs → ∀ ls : Array Slot, lv_has ls 3 [(0, .ref tx), (1, .ref (k (10 + w))), (2, .int v2)] → W p l e (headSpec wk_X4_standsHere rm_X4_standsHere).room s m ([.ref tx, .ref (k (10 + w))] : List Value).toArray below meth c H locs 0 0 (MQ below (va_Qi (fun xq9 (_ : Unit) => xq9 = zB res) (fun _ tq9 => va_P D vwCl [(tx, .inr (4, [.ref txb, .ref txt, .int txn, .int txp, .int txg, .int txe])), (txb, .inl (k 0, 120, .inl txbf))] tq9.heap) A) ([.ref tx, .ref (k (10 + w))] : List Value).toArray s 0 0 A) (F0 m 36 ls [])) → ∀ (n : Nat) (v2 : Int32), f_X4_standsHere_L2 fu K w txn txp txbf n v2 = some res → ∀ (H : Heap) (locs : List Loc), va_P D vwCl [(tx, .inr (4, [.ref txb, .ref txt, .int txn, .int txp, .int txg, .int txe])), (txb, .inl (k 0, 120, .inl txbf))] H → va_D A [(tx, .inr (4, [.ref txb, .ref txt, .int txn, .int txp, .int txg, .int txe])), (txb, .inl (k 0, 120, .inl txbf))] → va_S A s.heap H locs → ∀ ls : Array Slot, lv_has ls 3 [(0, .ref tx), (1, .ref (k (10 + w))), (2, .int v2)] → W p l e (headSpec wk_X4_standsHere rm_X4_standsHere).room s m ([.ref tx, .ref (k (10 + w))] : List Value).toArray below meth c H locs 0 0 (MQ below (va_Qi (fun xq9 (_ : Unit) => xq9 = zB res) (fun _ tq9 => va_P D vwCl [(tx, .inr (4, [.ref txb, .ref txt, .int txn, .int txp, .int txg, .int txe])), (txb, .inl (k 0, 120, .inl txbf))] tq9.heap) A) ([.ref tx, .ref (k (10 + w))] : List Value).toArray s 0 0 A) (F0 m 2 ls []) := by
    intro txn txp txg txe txbf K hKK n
    induction n with
    | zero =>
      intro v2 h
      rw [f_X4_standsHere_L2] at h
      cases h
    | succ n ih =>
      intro v2 h H locs hP hD hS ls hl
      rw [f_X4_standsHere_L2] at h
      refine lv_iload_n hx hb dX4_standsHere_2 rfl (lv_at hl 2 rfl) ?_
      refine lv_aload_n hx hb dX4_standsHere_3 rfl (lv_at hl 1 rfl) ?_
      obtain ⟨r1, h1, h⟩ := zb h
      refine zi (zrVs (C := RJ0) (As := []) (rest := [.int v2]) ⟨hx, hb, hml, hown, ht⟩ (c_J0_length_8abf5 l D k   w hw_w h1 _) (cwV 0 ht (gdV wb658 wb659 wb660 wb82 wb661) rfl rfl rfl (by decide +kernel) ⟨Nat.le_of_ble_eq_true rfl, Nat.le_of_ble_eq_true rfl⟩) hK hP hD hS hA hm [] rfl rfl (vk_recv (adK := fun i => k (10 + i)) (adV := fun i => k (20 + i)) (i := w) hm.2.2.2.2.2.2.2.1 hw_w hS) rfl hl.1 rfl (Nat.le_of_ble_eq_true rfl) dX4_standsHere_4 ⟨Nat.le_refl _, Nat.le_refl _⟩) hP hD hS hA [] rfl rfl (fun H locs hP hD hS => ?_)
      have hP : va_P D vwCl [(tx, .inr (4, [.ref txb, .ref txt, .int txn, .int txp, .int txg, .int txe])), (txb, .inl (k 0, 120, .inl txbf))] H := hP
      have hD : va_D A [(tx, .inr (4, [.ref txb, .ref txt, .int txn, .int txp, .int txg, .int txe])), (txb, .inl (k 0, 120, .inl txbf))] := hD
      refine lv_icmp_ge (tgt := 36) hx hb dX4_standsHere_7 (by decide) (fun c2 => ?_) (fun c2 => ?_)
      · have h := zt h c2
        exact hKK _ h _ _ hP hD hS _ (lv_sub hl [0, 1, 2] rfl)
      · have h := zf h c2
        refine lv_aload_n hx hb dX4_standsHere_10 rfl (lv_at hl 0 rfl) ?_
        refine lv_aload_n hx hb dX4_standsHere_11 rfl (lv_at hl 0 rfl) ?_
        refine va_get (D := D) (ci := 4) (v := .int txp) (C := RX4) (T := TX4) (N := 6) hx hb ht hiX4 hown hK hP 0 rfl rfl 3 (by decide) (ht _ wb192) (fun _ h9 => h9) rfl dX4_standsHere_12 ?_
        refine lv_iload_n hx hb dX4_standsHere_15 rfl (lv_at hl 2 rfl) ?_
        refine lv_iadd hx hb dX4_standsHere_16 ?_
        obtain ⟨r2, h2, h⟩ := zb h
        refine zi (zrV (C := RX4) (T := TX4) (N := 6) (As := [.int (txp + v2)]) (rest := []) ⟨hx, hb, hml, hown, ht⟩ (c_X4_byteAt l D k tx txb txt txn txp txg txe txbf (txp + v2) h2 _) (cwV 1 ht (gdV wb629 wb631 wb21 wb78 wb632) rfl rfl rfl (by decide +kernel) ⟨Nat.le_of_ble_eq_true rfl, Nat.le_of_ble_eq_true rfl⟩) hK hP hD hS hA hm [0, 1] rfl rfl 0 4 rfl rfl rfl hl.1 rfl (Nat.le_of_ble_eq_true rfl) dX4_standsHere_17 ⟨Nat.le_refl _, Nat.le_refl _⟩) hP hD hS hA [0, 1] rfl rfl (fun H locs hP hD hS => ?_)
        have hP : va_P D vwCl [(tx, .inr (4, [.ref txb, .ref txt, .int txn, .int txp, .int txg, .int txe])), (txb, .inl (k 0, 120, .inl txbf))] H := hP
        have hD : va_D A [(tx, .inr (4, [.ref txb, .ref txt, .int txn, .int txp, .int txg, .int txe])), (txb, .inl (k 0, 120, .inl txbf))] := hD
        refine lv_aload_n hx hb dX4_standsHere_20 rfl (lv_at hl 1 rfl) ?_
        refine lv_iload_n hx hb dX4_standsHere_21 rfl (lv_at hl 2 rfl) ?_
        obtain ⟨r3, h3, h⟩ := zb h
        refine zi (zrVs (C := RJ0) (As := [.int v2]) (rest := [.int r2]) ⟨hx, hb, hml, hown, ht⟩ (c_J0_charAt_5068e l D k   w v2 hw_w h3 _) (cwV 1 ht (gdV wb668 wb669 wb670 wb82 wb671) rfl rfl rfl (by decide +kernel) ⟨Nat.le_of_ble_eq_true rfl, Nat.le_of_ble_eq_true rfl⟩) hK hP hD hS hA hm [] rfl rfl (vk_recv (adK := fun i => k (10 + i)) (adV := fun i => k (20 + i)) (i := w) hm.2.2.2.2.2.2.2.1 hw_w hS) rfl hl.1 rfl (Nat.le_of_ble_eq_true rfl) dX4_standsHere_22 ⟨Nat.le_refl _, Nat.le_refl _⟩) hP hD hS hA [] rfl rfl (fun H locs hP hD hS => ?_)
        have hP : va_P D vwCl [(tx, .inr (4, [.ref txb, .ref txt, .int txn, .int txp, .int txg, .int txe])), (txb, .inl (k 0, 120, .inl txbf))] H := hP
        have hD : va_D A [(tx, .inr (4, [.ref txb, .ref txt, .int txn, .int txp, .int txg, .int txe])), (txb, .inl (k 0, 120, .inl txbf))] := hD
        refine lv_icmp_eq (tgt := 30) hx hb dX4_standsHere_25 (by decide) (fun c1 => ?_) (fun c1 => ?_)
        · have h := zt h c1
          refine lv_iinc (v := v2 + 1) (lv' := [(2, .int (v2 + 1)), (0, .ref tx), (1, .ref (k (10 + w)))]) hx hb dX4_standsHere_30 hl (k := 2) rfl rfl (by decide) rfl (fun ls hl => ?_)
          refine lv_goto (tgt := 2) hx hb dX4_standsHere_33 (by decide) ?_
          exact ih _ h _ _ hP hD hS _ (lv_sub hl [1, 2, 0] rfl)
        · have h := zf h c1
          refine lv_iconst (v := 0) hx hb dX4_standsHere_28 (by decide) ?_
          obtain rfl := Option.some.inj h
          exact W.zret (v := 0) (ty := .boolean) hx hb hr (rfl) (fun t ht9 hW => ⟨⟨_, (), rfl, rfl, zend ht9 hP⟩, hS.F ht9⟩) hS.2.2 dX4_standsHere_29
  refine loop2 _ _ _ _ _ _ ?_ fu _ h _ _ hP hD hS _ (lv_sub hl [1, 2, 0] rfl)
  intro x1 h H locs hP hD hS ls hl
  try dsimp only at h
  have hP : va_P D vwCl [(tx, .inr (4, [.ref txb, .ref txt, .int txn, .int txp, .int txg, .int txe])), (txb, .inl (k 0, 120, .inl txbf))] H := hP
  have hD : va_D A [(tx, .inr (4, [.ref txb, .ref txt, .int txn, .int txp, .int txg, .int txe])), (txb, .inl (k 0, 120, .inl txbf))] := hD
  have hl : lv_has ls 3 [(0, .ref tx), (1, .ref (k (10 + w))), (2, .int x1)] := hl
  refine lv_aload_n hx hb dX4_standsHere_36 rfl (lv_at hl 0 rfl) ?_
  refine lv_aload_n hx hb dX4_standsHere_37 rfl (lv_at hl 0 rfl) ?_
  refine va_get (D := D) (ci := 4) (v := .int txp) (C := RX4) (T := TX4) (N := 6) hx hb ht hiX4 hown hK hP 0 rfl rfl 3 (by decide) (ht _ wb192) (fun _ h9 => h9) rfl dX4_standsHere_38 ?_
  refine lv_aload_n hx hb dX4_standsHere_41 rfl (lv_at hl 1 rfl) ?_
  obtain ⟨r4, h4, h⟩ := zb h
  refine zi (zrVs (C := RJ0) (As := []) (rest := [.int txp, .ref tx]) ⟨hx, hb, hml, hown, ht⟩ (c_J0_length_8abf5 l D k   w hw_w h4 _) (cwV 0 ht (gdV wb658 wb659 wb660 wb82 wb661) rfl rfl rfl (by decide +kernel) ⟨Nat.le_of_ble_eq_true rfl, Nat.le_of_ble_eq_true rfl⟩) hK hP hD hS hA hm [] rfl rfl (vk_recv (adK := fun i => k (10 + i)) (adV := fun i => k (20 + i)) (i := w) hm.2.2.2.2.2.2.2.1 hw_w hS) rfl hl.1 rfl (Nat.le_of_ble_eq_true rfl) dX4_standsHere_42 ⟨Nat.le_refl _, Nat.le_refl _⟩) hP hD hS hA [] rfl rfl (fun H locs hP hD hS => ?_)
  have hP : va_P D vwCl [(tx, .inr (4, [.ref txb, .ref txt, .int txn, .int txp, .int txg, .int txe])), (txb, .inl (k 0, 120, .inl txbf))] H := hP
  have hD : va_D A [(tx, .inr (4, [.ref txb, .ref txt, .int txn, .int txp, .int txg, .int txe])), (txb, .inl (k 0, 120, .inl txbf))] := hD
  refine lv_iadd hx hb dX4_standsHere_45 ?_
  obtain ⟨r5, h5, h⟩ := zb h
  refine zi (zrV (C := RX4) (T := TX4) (N := 6) (As := [.int (txp + r4)]) (rest := []) ⟨hx, hb, hml, hown, ht⟩ (c_X4_byteAt l D k tx txb txt txn txp txg txe txbf (txp + r4) h5 _) (cwV 1 ht (gdV wb629 wb631 wb21 wb78 wb632) rfl rfl rfl (by decide +kernel) ⟨Nat.le_of_ble_eq_true rfl, Nat.le_of_ble_eq_true rfl⟩) hK hP hD hS hA hm [0, 1] rfl rfl 0 4 rfl rfl rfl hl.1 rfl (Nat.le_of_ble_eq_true rfl) dX4_standsHere_46 ⟨Nat.le_refl _, Nat.le_refl _⟩) hP hD hS hA [0, 1] rfl rfl (fun H locs hP hD hS => ?_)
  have hP : va_P D vwCl [(tx, .inr (4, [.ref txb, .ref txt, .int txn, .int txp, .int txg, .int txe])), (txb, .inl (k 0, 120, .inl txbf))] H := hP
  have hD : va_D A [(tx, .inr (4, [.ref txb, .ref txt, .int txn, .int txp, .int txg, .int txe])), (txb, .inl (k 0, 120, .inl txbf))] := hD
  obtain ⟨r6, h6, h⟩ := zb h
  refine zi (zrS (As := [.int r5]) (rest := []) ⟨hx, hb, hml, hown, ht⟩ (c_X4_isLetter l D k   r5 h6 _) (va_cwS 1 ht (gdS wb706 wb707 wb78 wb708) rfl rfl rfl (by decide +kernel) ⟨Nat.le_of_ble_eq_true rfl, Nat.le_of_ble_eq_true rfl⟩) hK hP hD hS hA hm [] rfl rfl rfl hl.1 rfl (Nat.le_of_ble_eq_true rfl) dX4_standsHere_49 ⟨Nat.le_refl _, Nat.le_refl _⟩) hP hD hS hA [] rfl rfl (fun H locs hP hD hS => ?_)
  have hP : va_P D vwCl [(tx, .inr (4, [.ref txb, .ref txt, .int txn, .int txp, .int txg, .int txe])), (txb, .inl (k 0, 120, .inl txbf))] H := hP
  have hD : va_D A [(tx, .inr (4, [.ref txb, .ref txt, .int txn, .int txp, .int txg, .int txe])), (txb, .inl (k 0, 120, .inl txbf))] := hD
  refine lv_if_ne (tgt := 59) hx hb dX4_standsHere_52 (by decide) (fun c3 => ?_) (fun c3 => ?_)
  · have h := zf h c3
    refine lv_iconst (v := 0) hx hb dX4_standsHere_59 (by decide) ?_
    obtain rfl := Option.some.inj h
    exact W.zret (v := 0) (ty := .boolean) hx hb hr (rfl) (fun t ht9 hW => ⟨⟨_, (), rfl, rfl, zend ht9 hP⟩, hS.F ht9⟩) hS.2.2 dX4_standsHere_60
  · have h := zt h c3
    refine lv_iconst (v := 1) hx hb dX4_standsHere_55 (by decide) ?_
    refine lv_goto (tgt := 60) hx hb dX4_standsHere_56 (by decide) ?_
    obtain rfl := Option.some.inj h
    exact W.zret (v := 1) (ty := .boolean) hx hb hr (rfl) (fun t ht9 hW => ⟨⟨_, (), rfl, rfl, zend ht9 hP⟩, hS.F ht9⟩) hS.2.2 dX4_standsHere_60
def f_X4_readWord_L2 (fu : Nat) (K : Int32 → Option (Int32 × Int32)) (txn : Int32) (txp : Int32) (txbf : Nat → Int32) : Nat → Int32 → Option (Int32 × Int32)
  | 0, _ => none
  | n + 1, v1 =>
  if 10 ≤ v1 then (K v1) else ((f_X4_nameOf  v1).bind fun r1 => if r1 < 10 then ((f_X4_standsHere fu txn txp txbf r1).bind fun r2 => if (zB r2) = 0 then (f_X4_readWord_L2 fu K txn txp txbf n (v1 + 1)) else ((f_J0_length_8abf5  r1).bind fun r3 => some (v1, txp + r3))) else none)
def f_X4_readWord (fu : Nat) (txn : Int32) (txp : Int32) (txbf : Nat → Int32)  : Option (Int32 × Int32) :=
  f_X4_readWord_L2 fu (fun (x1 : Int32) => some ((-1), txp)) txn txp txbf fu 0
abbrev wk_X4_readWord : List Cond := Cond.code yX4_readWord cX4_readWord 3 (some .int) :: WB
abbrev rm_X4_readWord : Room := { frames := 5, cells := 0, slots := 0, locals := 107 }
set_option maxHeartbeats 4000000 in
set_option maxRecDepth 100000 in
theorem c_X4_readWord (l : Launch) (D : va_G) (k : Nat → Nat) (tx txb txt : Nat) (txn : Int32) (txp : Int32) (txg : Int32) (txe : Int32) (txbf : Nat → Int32)  (fu : Nat) {res : Int32 × Int32} (h : f_X4_readWord fu txn txp txbf  = some res) : Ci l yX4_readWord wk_X4_readWord rm_X4_readWord D k [.ref tx] [(tx, .inr (4, [.ref txb, .ref txt, .int txn, .int txp, .int txg, .int txe])), (txb, .inl (k 0, 120, .inl txbf))] [(tx, .inr (4, [.ref txb, .ref txt, .int txn, .int res.2, .int txg, .int txe])), (txb, .inl (k 0, 120, .inl txbf))] res.1 := by
  unfold Ci
  intro sz
  refine Met.ofW (cc := cX4_readWord) (maxL := 3) (ret := (some .int)) (by decide) rfl ?_
  intro p e s m args below meth c s₁ B hml hv
  obtain ⟨rfl, hsz, hP, hK, hD0, hm⟩ := hv
  have hx := B.exec
  have hb := B.bytes
  have hr := B.returns
  have ht : ∀ w ∈ WB, w.before _ s = true := fun w hw => atoms_spec (ws := wk_X4_readWord) B.pre w (List.mem_cons_of_mem _ hw)
  have hown : s.vm.findClass RX4 = some m.cls := findClass_of_methodNamed B.named
  have hlocks := B.notSynchronized
  subst hsz
  have hD := hD0.self (sz := s.heap.size)
  generalize hAe : va_A [(tx, .inr (4, [.ref txb, .ref txt, .int txn, .int txp, .int txg, .int txe])), (txb, .inl (k 0, 120, .inl txbf))] s.heap.size = A at hD hm ⊢
  have hA : ∀ q : Nat, s.heap.size ≤ q → A q := fun q h => by rw [← hAe]; exact Or.inr h
  have hS : va_S A s.heap s.heap [] := va_S.rf
  have hl := lv_entry ([.ref tx]) (n := 3) (Nat.le_of_ble_eq_true rfl)
  rw [lg_entry_eq]
  generalize (lg_sl ([.ref tx]) ++ List.replicate (3 - (lg_sl ([.ref tx])).length) Slot.unset).toArray = ls at hl ⊢
  have hl : lv_has ls 3 [(0, .ref tx)] := hl
  obtain ⟨H, hH⟩ : ∃ H, H = s.heap := ⟨_, rfl⟩
  rw [← hH] at hP
  have hS : va_S A s.heap H [] := by rw [hH]; exact hS
  suffices hgo : W p l e _ s m _ below meth c H [] 0 0 _ _ by rw [hH] at hgo; exact hgo
  unfold f_X4_readWord at h
  refine lv_iconst (v := 0) hx hb dX4_readWord_0 (by decide) ?_
  refine lv_istore_n (lv' := [(1, .int 0), (0, .ref tx)]) hx hb dX4_readWord_1 rfl hl (by decide) rfl (fun ls hl => ?_)
  have loop2 : ∀ (txn : Int32) (txp : Int32) (txg : Int32) (txe : Int32) (txbf : Nat → Int32), ∀ (K : Int32 → Option (Int32 × Int32)), (∀ (v1 : Int32), K v1 = some res → ∀ (H : Heap) (locs : List Loc), va_P D vwCl [(tx, .inr (4, [.ref txb, .ref txt, .int txn, .int txp, .int txg, .int txe])), (txb, .inl (k 0, 120, .inl txbf))] H → va_D A [(tx, .inr (4, [.ref txb, .ref txt, .int txn, .int txp, .int txg, .int txe])), (txb, .inl (k 0, 120, .inl txbf))] → va_S A s.heap H locs → ∀ ls : Array Slot, lv_has ls 3 [(0, .ref tx), (1, .int v1)] → W p l e (headSpec wk_X4_readWord rm_X4_readWord).room s m ([.ref tx] : List Value).toArray below meth c H locs 0 0 (MQ below (va_Qi (fun xq9 (_ : Unit) => xq9 = res.1) (fun _ tq9 => va_P D vwCl [(tx, .inr (4, [.ref txb, .ref txt, .int txn, .int res.2, .int txg, .int txe])), (txb, .inl (k 0, 120, .inl txbf))] tq9.heap) A) ([.ref tx] : List Value).toArray s 0 0 A) (F0 m 42 ls [])) → ∀ (n : Nat) (v1 : Int32), f_X4_readWord_L2 fu K txn txp txbf n v1 = some res → ∀ (H : Heap) (locs : List Loc), va_P D vwCl [(tx, .inr (4, [.ref txb, .ref txt, .int txn, .int txp, .int txg, .int txe])), (txb, .inl (k 0, 120, .inl txbf))] H → va_D A [(tx, .inr (4, [.ref txb, .ref txt, .int txn, .int txp, .int txg, .int txe])), (txb, .inl (k 0, 120, .inl txbf))] → va_S A s.heap H locs → ∀ ls : Array Slot, lv_has ls 3 [(0, .ref tx), (1, .int v1)] → W p l e (headSpec wk_X4_readWord rm_X4_readWord).room s m ([.ref tx] : List Value).toArray below meth c H locs 0 0 (MQ below (va_Qi (fun xq9 (_ : Unit) => xq9 = res.1) (fun _ tq9 => va_P D vwCl [(tx, .inr (4, [.ref txb, .ref txt, .int txn, .int res.2, .int txg, .int txe])), (txb, .inl (k 0, 120, .inl txbf))] tq9.heap) A) ([.ref tx] : List Value).toArray s 0 0 A) (F0 m 2 ls []) := by
    intro txn txp txg txe txbf K hKK n
    induction n with
    | zero =>
      intro v1 h
      rw [f_X4_readWord_L2] at h
      cases h
    | succ n ih =>
      intro v1 h H locs hP hD hS ls hl
      rw [f_X4_readWord_L2] at h
      refine lv_iload_n hx hb dX4_readWord_2 rfl (lv_at hl 1 rfl) ?_
      refine lv_bipush (v := 10) hx hb dX4_readWord_3 (by decide) ?_
      refine lv_icmp_ge (tgt := 42) hx hb dX4_readWord_5 (by decide) (fun c2 => ?_) (fun c2 => ?_)
      · have h := zt h c2
        exact hKK _ h _ _ hP hD hS _ (lv_sub hl [0, 1] rfl)
      · have h := zf h c2
        refine lv_iload_n hx hb dX4_readWord_8 rfl (lv_at hl 1 rfl) ?_
        obtain ⟨r1, h1, h⟩ := zb h
        refine zr (zrS (As := [.int v1]) (rest := []) ⟨hx, hb, hml, hown, ht⟩ (c_X4_nameOf l D k   v1 h1 _) (va_cwS 1 ht (gdS wb641 wb642 wb78 wb643) rfl rfl rfl (by decide +kernel) ⟨Nat.le_of_ble_eq_true rfl, Nat.le_of_ble_eq_true rfl⟩) hK hP hD hS hA hm [] rfl rfl rfl hl.1 rfl (Nat.le_of_ble_eq_true rfl) dX4_readWord_9 ⟨Nat.le_refl _, Nat.le_refl _⟩) hP hD hS hA [] rfl rfl (fun H locs hP hD hS => ?_)
        have hP : va_P D vwCl [(tx, .inr (4, [.ref txb, .ref txt, .int txn, .int txp, .int txg, .int txe])), (txb, .inl (k 0, 120, .inl txbf))] H := hP
        have hD : va_D A [(tx, .inr (4, [.ref txb, .ref txt, .int txn, .int txp, .int txg, .int txe])), (txb, .inl (k 0, 120, .inl txbf))] := hD
        refine lv_astore_n (lv' := [(2, .ref (k (10 + r1))), (0, .ref tx), (1, .int v1)]) hx hb dX4_readWord_12 rfl hl (by decide) rfl (fun ls hl => ?_)
        refine lv_aload_n hx hb dX4_readWord_13 rfl (lv_at hl 1 rfl) ?_
        refine lv_aload_n hx hb dX4_readWord_14 rfl (lv_at hl 0 rfl) ?_
        obtain ⟨hw1, h⟩ := zw h
        obtain ⟨r2, h2, h⟩ := zb h
        refine zi (zrV (C := RX4) (T := TX4) (N := 6) (As := [.ref (k (10 + r1))]) (rest := []) ⟨hx, hb, hml, hown, ht⟩ (c_X4_standsHere l D k tx txb txt txn txp txg txe txbf r1 fu hw1 h2 _) (cwV 1 ht (gdV wb654 wb656 wb24 wb78 wb657) rfl rfl rfl (by decide +kernel) ⟨Nat.le_of_ble_eq_true rfl, Nat.le_of_ble_eq_true rfl⟩) hK hP hD hS hA hm [0, 1] rfl rfl 0 4 rfl rfl rfl hl.1 rfl (Nat.le_of_ble_eq_true rfl) dX4_readWord_15 ⟨Nat.le_refl _, Nat.le_refl _⟩) hP hD hS hA [0, 1] rfl rfl (fun H locs hP hD hS => ?_)
        have hP : va_P D vwCl [(tx, .inr (4, [.ref txb, .ref txt, .int txn, .int txp, .int txg, .int txe])), (txb, .inl (k 0, 120, .inl txbf))] H := hP
        have hD : va_D A [(tx, .inr (4, [.ref txb, .ref txt, .int txn, .int txp, .int txg, .int txe])), (txb, .inl (k 0, 120, .inl txbf))] := hD
        refine lv_if_eq (tgt := 36) hx hb dX4_readWord_18 (by decide) (fun c1 => ?_) (fun c1 => ?_)
        · have h := zt h c1
          refine lv_iinc (v := v1 + 1) (lv' := [(1, .int (v1 + 1)), (2, .ref (k (10 + r1))), (0, .ref tx)]) hx hb dX4_readWord_36 hl (k := 2) rfl rfl (by decide) rfl (fun ls hl => ?_)
          refine lv_goto (tgt := 2) hx hb dX4_readWord_39 (by decide) ?_
          exact ih _ h _ _ hP hD hS _ (lv_sub hl [2, 0] rfl)
        · have h := zf h c1
          refine lv_aload_n hx hb dX4_readWord_21 rfl (lv_at hl 1 rfl) ?_
          refine lv_dup hx hb dX4_readWord_22 rfl ?_
          refine va_get (D := D) (ci := 4) (v := .int txp) (C := RX4) (T := TX4) (N := 6) hx hb ht hiX4 hown hK hP 0 rfl rfl 3 (by decide) (ht _ wb192) (fun _ h9 => h9) rfl dX4_readWord_23 ?_
          refine lv_aload_n hx hb dX4_readWord_26 rfl (lv_at hl 0 rfl) ?_
          obtain ⟨r3, h3, h⟩ := zb h
          refine zi (zrVs (C := RJ0) (As := []) (rest := [.int txp, .ref tx]) ⟨hx, hb, hml, hown, ht⟩ (c_J0_length_8abf5 l D k   r1 hw1 h3 _) (cwV 0 ht (gdV wb658 wb659 wb660 wb82 wb661) rfl rfl rfl (by decide +kernel) ⟨Nat.le_of_ble_eq_true rfl, Nat.le_of_ble_eq_true rfl⟩) hK hP hD hS hA hm [] rfl rfl (vk_recv (adK := fun i => k (10 + i)) (adV := fun i => k (20 + i)) (i := r1) hm.2.2.2.2.2.2.2.1 hw1 hS) rfl hl.1 rfl (Nat.le_of_ble_eq_true rfl) dX4_readWord_27 ⟨Nat.le_refl _, Nat.le_refl _⟩) hP hD hS hA [] rfl rfl (fun H locs hP hD hS => ?_)
          have hP : va_P D vwCl [(tx, .inr (4, [.ref txb, .ref txt, .int txn, .int txp, .int txg, .int txe])), (txb, .inl (k 0, 120, .inl txbf))] H := hP
          have hD : va_D A [(tx, .inr (4, [.ref txb, .ref txt, .int txn, .int txp, .int txg, .int txe])), (txb, .inl (k 0, 120, .inl txbf))] := hD
          refine lv_iadd hx hb dX4_readWord_30 ?_
          refine va_put (D := D) (ci := 4) (v := .int (txp + r3)) (ty := .int) (C := RX4) (T := TX4) (N := 6) hx hb ht hiX4 tyX4 tyX4_ok nmX4 hown hK hP hD hS 0 rfl rfl 3 (by decide) (ht _ wb192) (fun _ h9 => h9) rfl (by decide +kernel) rfl rfl (Nat.le_of_ble_eq_true rfl) dX4_readWord_31 (fun H locs hP hD hS => ?_)
          have hP : va_P D vwCl [(tx, .inr (4, [.ref txb, .ref txt, .int txn, .int (txp + r3), .int txg, .int txe])), (txb, .inl (k 0, 120, .inl txbf))] H := hP
          have hD : va_D A [(tx, .inr (4, [.ref txb, .ref txt, .int txn, .int (txp + r3), .int txg, .int txe])), (txb, .inl (k 0, 120, .inl txbf))] := hD
          refine lv_iload_n hx hb dX4_readWord_34 rfl (lv_at hl 2 rfl) ?_
          obtain rfl := Option.some.inj h
          exact W.iret (v := v1) hx hb hr (fun t ht9 hW => ⟨⟨_, (), rfl, rfl, zend ht9 hP⟩, hS.F ht9⟩) hS.2.2 dX4_readWord_35
  refine loop2 _ _ _ _ _ _ ?_ fu _ h _ _ hP hD hS _ (lv_sub hl [1, 0] rfl)
  intro x1 h H locs hP hD hS ls hl
  try dsimp only at h
  have hP : va_P D vwCl [(tx, .inr (4, [.ref txb, .ref txt, .int txn, .int txp, .int txg, .int txe])), (txb, .inl (k 0, 120, .inl txbf))] H := hP
  have hD : va_D A [(tx, .inr (4, [.ref txb, .ref txt, .int txn, .int txp, .int txg, .int txe])), (txb, .inl (k 0, 120, .inl txbf))] := hD
  have hl : lv_has ls 3 [(0, .ref tx), (1, .int x1)] := hl
  refine lv_iconst (v := (-1)) hx hb dX4_readWord_42 (by decide) ?_
  obtain rfl := Option.some.inj h
  exact W.iret (v := (-1)) hx hb hr (fun t ht9 hW => ⟨⟨_, (), rfl, rfl, zend ht9 hP⟩, hS.F ht9⟩) hS.2.2 dX4_readWord_43
def f_X4_readPart (fu : Nat) (txn : Int32) (txp : Int32) (txg : Int32) (txe : Int32) (txbf : Nat → Int32) (txts : Int32) (txtf : Nat → Int32) (a1 : Int32) : Option (Int32 × Int32 × Int32 × (Nat → Int32)) :=
  (f_X4_readWord fu txn txp txbf ).bind fun r1 => if ((zmin r1.1 8) - 3) < 0 then (some (r1.2, txg, txp, txtf)) else (if ((zus txg ((zmin r1.1 8) - 3)) &&& 1) = 1 then (some (r1.2, txg, txp, txtf)) else (if r1.1 = 3 then ((f_X4_readNumbers fu txn r1.2 txe txbf txts txtf a1 0 0).bind fun r8 => some (r8.1, txg ||| (1 <<< (((zmin r1.1 8) - 3) &&& 31)), r8.2.1, r8.2.2)) else (if r1.1 = 4 then ((f_X4_readNumbers fu txn r1.2 txe txbf txts txtf a1 1 1).bind fun r7 => some (r7.1, txg ||| (1 <<< (((zmin r1.1 8) - 3) &&& 31)), r7.2.1, r7.2.2)) else (if r1.1 = 5 then ((f_X4_readNumbers fu txn r1.2 txe txbf txts txtf a1 2 3).bind fun r6 => some (r6.1, txg ||| (1 <<< (((zmin r1.1 8) - 3) &&& 31)), r6.2.1, r6.2.2)) else (if r1.1 = 6 then ((f_X4_readNumbers fu txn r1.2 txe txbf txts txtf a1 4 5).bind fun r5 => some (r5.1, txg ||| (1 <<< (((zmin r1.1 8) - 3) &&& 31)), r5.2.1, r5.2.2)) else (if r1.1 = 7 then ((f_X4_readNumbers fu txn r1.2 txe txbf txts txtf a1 6 7).bind fun r4 => some (r4.1, txg ||| (1 <<< (((zmin r1.1 8) - 3) &&& 31)), r4.2.1, r4.2.2)) else (if r1.1 = 8 then ((f_X3_put 11 txts 132 txtf a1 8 0).bind fun r3 => some (r1.2, txg ||| (1 <<< (((zmin r1.1 8) - 3) &&& 31)), txe, r3)) else ((f_X3_put 11 txts 132 txtf a1 8 1).bind fun r2 => some (r1.2, txg ||| (1 <<< (((zmin r1.1 8) - 3) &&& 31)), txe, r2)))))))))
abbrev wk_X4_readPart : List Cond := Cond.code yX4_readPart cX4_readPart 5 none :: WB
abbrev rm_X4_readPart : Room := { frames := 6, cells := 0, slots := 0, locals := 129 }
set_option maxHeartbeats 4000000 in
set_option maxRecDepth 100000 in
theorem c_X4_readPart (l : Launch) (D : va_G) (k : Nat → Nat) (tx txb txt txtc : Nat) (txn : Int32) (txp : Int32) (txg : Int32) (txe : Int32) (txbf : Nat → Int32) (txts : Int32) (txtf : Nat → Int32) (a1 : Int32) (fu : Nat) {res : Int32 × Int32 × Int32 × (Nat → Int32)} (h : f_X4_readPart fu txn txp txg txe txbf txts txtf a1 = some res) : Cv l yX4_readPart wk_X4_readPart rm_X4_readPart D k [.ref tx, .int a1] [(tx, .inr (4, [.ref txb, .ref txt, .int txn, .int txp, .int txg, .int txe])), (txb, .inl (k 0, 120, .inl txbf)), (txt, .inr (3, [.int 12, .int 11, .ref txtc, .int txts])), (txtc, .inl (k 0, 132, .inl txtf))] [(tx, .inr (4, [.ref txb, .ref txt, .int txn, .int res.1, .int res.2.1, .int res.2.2.1])), (txb, .inl (k 0, 120, .inl txbf)), (txt, .inr (3, [.int 12, .int 11, .ref txtc, .int txts])), (txtc, .inl (k 0, 132, .inl res.2.2.2))] := by
  unfold Cv
  intro sz
  refine Met.ofW (cc := cX4_readPart) (maxL := 5) (ret := none) (by decide) rfl ?_
  intro p e s m args below meth c s₁ B hml hv
  obtain ⟨rfl, hsz, hP, hK, hD0, hm⟩ := hv
  have hx := B.exec
  have hb := B.bytes
  have hr := B.returns
  have ht : ∀ w ∈ WB, w.before _ s = true := fun w hw => atoms_spec (ws := wk_X4_readPart) B.pre w (List.mem_cons_of_mem _ hw)
  have hown : s.vm.findClass RX4 = some m.cls := findClass_of_methodNamed B.named
  have hlocks := B.notSynchronized
  subst hsz
  have hD := hD0.self (sz := s.heap.size)
  generalize hAe : va_A [(tx, .inr (4, [.ref txb, .ref txt, .int txn, .int txp, .int txg, .int txe])), (txb, .inl (k 0, 120, .inl txbf)), (txt, .inr (3, [.int 12, .int 11, .ref txtc, .int txts])), (txtc, .inl (k 0, 132, .inl txtf))] s.heap.size = A at hD hm ⊢
  have hA : ∀ q : Nat, s.heap.size ≤ q → A q := fun q h => by rw [← hAe]; exact Or.inr h
  have hS : va_S A s.heap s.heap [] := va_S.rf
  have hl := lv_entry ([.ref tx, .int a1]) (n := 5) (Nat.le_of_ble_eq_true rfl)
  rw [lg_entry_eq]
  generalize (lg_sl ([.ref tx, .int a1]) ++ List.replicate (5 - (lg_sl ([.ref tx, .int a1])).length) Slot.unset).toArray = ls at hl ⊢
  have hl : lv_has ls 5 [(0, .ref tx), (1, .int a1)] := hl
  obtain ⟨H, hH⟩ : ∃ H, H = s.heap := ⟨_, rfl⟩
  rw [← hH] at hP
  have hS : va_S A s.heap H [] := by rw [hH]; exact hS
  suffices hgo : W p l e _ s m _ below meth c H [] 0 0 _ _ by rw [hH] at hgo; exact hgo
  unfold f_X4_readPart at h
  refine lv_aload_n hx hb dX4_readPart_0 rfl (lv_at hl 0 rfl) ?_
  refine va_get (D := D) (ci := 4) (v := .int txp) (C := RX4) (T := TX4) (N := 6) hx hb ht hiX4 hown hK hP 0 rfl rfl 3 (by decide) (ht _ wb192) (fun _ h9 => h9) rfl dX4_readPart_1 ?_
  refine lv_istore_n (lv' := [(2, .int txp), (0, .ref tx), (1, .int a1)]) hx hb dX4_readPart_4 rfl hl (by decide) rfl (fun ls hl => ?_)
  refine lv_aload_n hx hb dX4_readPart_5 rfl (lv_at hl 1 rfl) ?_
  obtain ⟨r1, h1, h⟩ := zb h
  refine zi (zrV (C := RX4) (T := TX4) (N := 6) (As := []) (rest := []) ⟨hx, hb, hml, hown, ht⟩ (c_X4_readWord l D k tx txb txt txn txp txg txe txbf  fu h1 _) (cwV 0 ht (gdV wb637 wb639 wb23 wb78 wb640) rfl rfl rfl (by decide +kernel) ⟨Nat.le_of_ble_eq_true rfl, Nat.le_of_ble_eq_true rfl⟩) hK hP hD hS hA hm [0, 1] rfl rfl 0 4 rfl rfl rfl hl.1 rfl (Nat.le_of_ble_eq_true rfl) dX4_readPart_6 ⟨Nat.le_refl _, Nat.le_refl _⟩) hP hD hS hA [0, 1] rfl rfl (fun H locs hP hD hS => ?_)
  have hP : va_P D vwCl [(tx, .inr (4, [.ref txb, .ref txt, .int txn, .int r1.2, .int txg, .int txe])), (txb, .inl (k 0, 120, .inl txbf)), (txt, .inr (3, [.int 12, .int 11, .ref txtc, .int txts])), (txtc, .inl (k 0, 132, .inl txtf))] H := hP
  have hD : va_D A [(tx, .inr (4, [.ref txb, .ref txt, .int txn, .int r1.2, .int txg, .int txe])), (txb, .inl (k 0, 120, .inl txbf)), (txt, .inr (3, [.int 12, .int 11, .ref txtc, .int txts])), (txtc, .inl (k 0, 132, .inl txtf))] := hD
  refine lv_istore_n (lv' := [(3, .int r1.1), (2, .int txp), (0, .ref tx), (1, .int a1)]) hx hb dX4_readPart_9 rfl hl (by decide) rfl (fun ls hl => ?_)
  refine lv_iload_n hx hb dX4_readPart_10 rfl (lv_at hl 0 rfl) ?_
  refine lv_bipush (v := 8) hx hb dX4_readPart_11 (by decide) ?_
  refine va_mmin hx hb (hml.trans hl.1.symm) hown (ht _ wb715) (ht _ wb294) (ht _ wb75) (ht _ wb295) (Nat.le_of_ble_eq_true rfl) (Nat.le_of_ble_eq_true rfl) (Nat.le_refl _) (Nat.le_refl _) dX4_readPart_13 ?_
  refine W.eq (g2 := F0 m 16 ls [.int (zmin r1.1 8)]) rfl ?_
  refine lv_iconst (v := 3) hx hb dX4_readPart_16 (by decide) ?_
  refine lv_isub hx hb dX4_readPart_17 ?_
  refine lv_istore (lv' := [(4, .int ((zmin r1.1 8) - 3)), (3, .int r1.1), (2, .int txp), (0, .ref tx), (1, .int a1)]) hx hb dX4_readPart_18 hl (by decide) rfl (fun ls hl => ?_)
  refine lv_iload hx hb dX4_readPart_20 (lv_at hl 0 rfl) ?_
  refine lv_if_lt (tgt := 38) hx hb dX4_readPart_22 (by decide) (fun c8 => ?_) (fun c8 => ?_)
  · have h := zt h c8
    refine lv_aload_n hx hb dX4_readPart_38 rfl (lv_at hl 3 rfl) ?_
    refine lv_iload_n hx hb dX4_readPart_39 rfl (lv_at hl 2 rfl) ?_
    refine va_put (D := D) (ci := 4) (v := .int txp) (ty := .int) (C := RX4) (T := TX4) (N := 6) hx hb ht hiX4 tyX4 tyX4_ok nmX4 hown hK hP hD hS 0 rfl rfl 5 (by decide) (ht _ wb194) (fun _ h9 => h9) rfl (by decide +kernel) rfl rfl (Nat.le_of_ble_eq_true rfl) dX4_readPart_40 (fun H locs hP hD hS => ?_)
    have hP : va_P D vwCl [(tx, .inr (4, [.ref txb, .ref txt, .int txn, .int r1.2, .int txg, .int txp])), (txb, .inl (k 0, 120, .inl txbf)), (txt, .inr (3, [.int 12, .int 11, .ref txtc, .int txts])), (txtc, .inl (k 0, 132, .inl txtf))] H := hP
    have hD : va_D A [(tx, .inr (4, [.ref txb, .ref txt, .int txn, .int r1.2, .int txg, .int txp])), (txb, .inl (k 0, 120, .inl txbf)), (txt, .inr (3, [.int 12, .int 11, .ref txtc, .int txts])), (txtc, .inl (k 0, 132, .inl txtf))] := hD
    obtain rfl := Option.some.inj h
    exact W.vret hx hb hr (fun t ht9 hW => ⟨⟨(), rfl, trivial, zend ht9 hP⟩, hS.F ht9⟩) hS.2.2 dX4_readPart_43
  · have h := zf h c8
    refine lv_aload_n hx hb dX4_readPart_25 rfl (lv_at hl 3 rfl) ?_
    refine va_get (D := D) (ci := 4) (v := .int txg) (C := RX4) (T := TX4) (N := 6) hx hb ht hiX4 hown hK hP 0 rfl rfl 4 (by decide) (ht _ wb193) (fun _ h9 => h9) rfl dX4_readPart_26 ?_
    refine lv_iload hx hb dX4_readPart_29 (lv_at hl 0 rfl) ?_
    refine lv_iushr (v := zus txg ((zmin r1.1 8) - 3)) hx hb dX4_readPart_31 rfl ?_
    refine lv_iconst (v := 1) hx hb dX4_readPart_32 (by decide) ?_
    refine lv_iand hx hb dX4_readPart_33 ?_
    refine lv_iconst (v := 1) hx hb dX4_readPart_34 (by decide) ?_
    refine lv_icmp_ne (tgt := 44) hx hb dX4_readPart_35 (by decide) (fun c7 => ?_) (fun c7 => ?_)
    · have h := zf h c7
      refine lv_aload_n hx hb dX4_readPart_44 rfl (lv_at hl 3 rfl) ?_
      refine lv_dup hx hb dX4_readPart_45 rfl ?_
      refine va_get (D := D) (ci := 4) (v := .int txg) (C := RX4) (T := TX4) (N := 6) hx hb ht hiX4 hown hK hP 0 rfl rfl 4 (by decide) (ht _ wb193) (fun _ h9 => h9) rfl dX4_readPart_46 ?_
      refine lv_iconst (v := 1) hx hb dX4_readPart_49 (by decide) ?_
      refine lv_iload hx hb dX4_readPart_50 (lv_at hl 0 rfl) ?_
      refine lv_ishl hx hb dX4_readPart_52 ?_
      refine lv_ior hx hb dX4_readPart_53 ?_
      refine va_put (D := D) (ci := 4) (v := .int (txg ||| (1 <<< (((zmin r1.1 8) - 3) &&& 31)))) (ty := .int) (C := RX4) (T := TX4) (N := 6) hx hb ht hiX4 tyX4 tyX4_ok nmX4 hown hK hP hD hS 0 rfl rfl 4 (by decide) (ht _ wb193) (fun _ h9 => h9) rfl (by decide +kernel) rfl rfl (Nat.le_of_ble_eq_true rfl) dX4_readPart_54 (fun H locs hP hD hS => ?_)
      have hP : va_P D vwCl [(tx, .inr (4, [.ref txb, .ref txt, .int txn, .int r1.2, .int (txg ||| (1 <<< (((zmin r1.1 8) - 3) &&& 31))), .int txe])), (txb, .inl (k 0, 120, .inl txbf)), (txt, .inr (3, [.int 12, .int 11, .ref txtc, .int txts])), (txtc, .inl (k 0, 132, .inl txtf))] H := hP
      have hD : va_D A [(tx, .inr (4, [.ref txb, .ref txt, .int txn, .int r1.2, .int (txg ||| (1 <<< (((zmin r1.1 8) - 3) &&& 31))), .int txe])), (txb, .inl (k 0, 120, .inl txbf)), (txt, .inr (3, [.int 12, .int 11, .ref txtc, .int txts])), (txtc, .inl (k 0, 132, .inl txtf))] := hD
      refine lv_iload_n hx hb dX4_readPart_57 rfl (lv_at hl 1 rfl) ?_
      by_cases c2 : r1.1 = 3
      · have h := zt h c2
        refine lv_tableIn (off := 34) (tgt := 92) hx hb dX4_readPart_58 (by rw [c2]; decide) (by rw [c2]; decide) (by rw [c2]; rfl) (by decide) ?_
        refine lv_aload_n hx hb dX4_readPart_92 rfl (lv_at hl 3 rfl) ?_
        refine lv_iload_n hx hb dX4_readPart_93 rfl (lv_at hl 4 rfl) ?_
        refine lv_iconst (v := 0) hx hb dX4_readPart_94 (by decide) ?_
        refine lv_iconst (v := 0) hx hb dX4_readPart_95 (by decide) ?_
        obtain ⟨r8, h8, h⟩ := zb h
        refine zv (zrV (C := RX4) (T := TX4) (N := 6) (As := [.int a1, .int 0, .int 0]) (rest := []) ⟨hx, hb, hml, hown, ht⟩ (c_X4_readNumbers l D k tx txb txt txtc txn r1.2 (txg ||| (1 <<< (((zmin r1.1 8) - 3) &&& 31))) txe txbf txts txtf a1 0 0 fu h8 _) (cwV 3 ht (gdV wb716 wb718 wb26 wb78 wb719) rfl rfl rfl (by decide +kernel) ⟨Nat.le_of_ble_eq_true rfl, Nat.le_of_ble_eq_true rfl⟩) hK hP hD hS hA hm [0, 1, 2, 3] rfl rfl 0 4 rfl rfl rfl hl.1 rfl (Nat.le_of_ble_eq_true rfl) dX4_readPart_96 ⟨Nat.le_refl _, Nat.le_refl _⟩) hP hD hS hA [0, 1, 2, 3] rfl rfl (fun H locs hP hD hS => ?_)
        have hP : va_P D vwCl [(tx, .inr (4, [.ref txb, .ref txt, .int txn, .int r8.1, .int (txg ||| (1 <<< (((zmin r1.1 8) - 3) &&& 31))), .int r8.2.1])), (txb, .inl (k 0, 120, .inl txbf)), (txt, .inr (3, [.int 12, .int 11, .ref txtc, .int txts])), (txtc, .inl (k 0, 132, .inl r8.2.2))] H := hP
        have hD : va_D A [(tx, .inr (4, [.ref txb, .ref txt, .int txn, .int r8.1, .int (txg ||| (1 <<< (((zmin r1.1 8) - 3) &&& 31))), .int r8.2.1])), (txb, .inl (k 0, 120, .inl txbf)), (txt, .inr (3, [.int 12, .int 11, .ref txtc, .int txts])), (txtc, .inl (k 0, 132, .inl r8.2.2))] := hD
        refine lv_goto (tgt := 165) hx hb dX4_readPart_99 (by decide) ?_
        obtain rfl := Option.some.inj h
        exact W.vret hx hb hr (fun t ht9 hW => ⟨⟨(), rfl, trivial, zend ht9 hP⟩, hS.F ht9⟩) hS.2.2 dX4_readPart_165
      · have h := zf h c2
        by_cases c3 : r1.1 = 4
        · have h := zt h c3
          refine lv_tableIn (off := 44) (tgt := 102) hx hb dX4_readPart_58 (by rw [c3]; decide) (by rw [c3]; decide) (by rw [c3]; rfl) (by decide) ?_
          refine lv_aload_n hx hb dX4_readPart_102 rfl (lv_at hl 3 rfl) ?_
          refine lv_iload_n hx hb dX4_readPart_103 rfl (lv_at hl 4 rfl) ?_
          refine lv_iconst (v := 1) hx hb dX4_readPart_104 (by decide) ?_
          refine lv_iconst (v := 1) hx hb dX4_readPart_105 (by decide) ?_
          obtain ⟨r7, h7, h⟩ := zb h
          refine zv (zrV (C := RX4) (T := TX4) (N := 6) (As := [.int a1, .int 1, .int 1]) (rest := []) ⟨hx, hb, hml, hown, ht⟩ (c_X4_readNumbers l D k tx txb txt txtc txn r1.2 (txg ||| (1 <<< (((zmin r1.1 8) - 3) &&& 31))) txe txbf txts txtf a1 1 1 fu h7 _) (cwV 3 ht (gdV wb716 wb718 wb26 wb78 wb719) rfl rfl rfl (by decide +kernel) ⟨Nat.le_of_ble_eq_true rfl, Nat.le_of_ble_eq_true rfl⟩) hK hP hD hS hA hm [0, 1, 2, 3] rfl rfl 0 4 rfl rfl rfl hl.1 rfl (Nat.le_of_ble_eq_true rfl) dX4_readPart_106 ⟨Nat.le_refl _, Nat.le_refl _⟩) hP hD hS hA [0, 1, 2, 3] rfl rfl (fun H locs hP hD hS => ?_)
          have hP : va_P D vwCl [(tx, .inr (4, [.ref txb, .ref txt, .int txn, .int r7.1, .int (txg ||| (1 <<< (((zmin r1.1 8) - 3) &&& 31))), .int r7.2.1])), (txb, .inl (k 0, 120, .inl txbf)), (txt, .inr (3, [.int 12, .int 11, .ref txtc, .int txts])), (txtc, .inl (k 0, 132, .inl r7.2.2))] H := hP
          have hD : va_D A [(tx, .inr (4, [.ref txb, .ref txt, .int txn, .int r7.1, .int (txg ||| (1 <<< (((zmin r1.1 8) - 3) &&& 31))), .int r7.2.1])), (txb, .inl (k 0, 120, .inl txbf)), (txt, .inr (3, [.int 12, .int 11, .ref txtc, .int txts])), (txtc, .inl (k 0, 132, .inl r7.2.2))] := hD
          refine lv_goto (tgt := 165) hx hb dX4_readPart_109 (by decide) ?_
          obtain rfl := Option.some.inj h
          exact W.vret hx hb hr (fun t ht9 hW => ⟨⟨(), rfl, trivial, zend ht9 hP⟩, hS.F ht9⟩) hS.2.2 dX4_readPart_165
        · have h := zf h c3
          by_cases c4 : r1.1 = 5
          · have h := zt h c4
            refine lv_tableIn (off := 54) (tgt := 112) hx hb dX4_readPart_58 (by rw [c4]; decide) (by rw [c4]; decide) (by rw [c4]; rfl) (by decide) ?_
            refine lv_aload_n hx hb dX4_readPart_112 rfl (lv_at hl 3 rfl) ?_
            refine lv_iload_n hx hb dX4_readPart_113 rfl (lv_at hl 4 rfl) ?_
            refine lv_iconst (v := 2) hx hb dX4_readPart_114 (by decide) ?_
            refine lv_iconst (v := 3) hx hb dX4_readPart_115 (by decide) ?_
            obtain ⟨r6, h6, h⟩ := zb h
            refine zv (zrV (C := RX4) (T := TX4) (N := 6) (As := [.int a1, .int 2, .int 3]) (rest := []) ⟨hx, hb, hml, hown, ht⟩ (c_X4_readNumbers l D k tx txb txt txtc txn r1.2 (txg ||| (1 <<< (((zmin r1.1 8) - 3) &&& 31))) txe txbf txts txtf a1 2 3 fu h6 _) (cwV 3 ht (gdV wb716 wb718 wb26 wb78 wb719) rfl rfl rfl (by decide +kernel) ⟨Nat.le_of_ble_eq_true rfl, Nat.le_of_ble_eq_true rfl⟩) hK hP hD hS hA hm [0, 1, 2, 3] rfl rfl 0 4 rfl rfl rfl hl.1 rfl (Nat.le_of_ble_eq_true rfl) dX4_readPart_116 ⟨Nat.le_refl _, Nat.le_refl _⟩) hP hD hS hA [0, 1, 2, 3] rfl rfl (fun H locs hP hD hS => ?_)
            have hP : va_P D vwCl [(tx, .inr (4, [.ref txb, .ref txt, .int txn, .int r6.1, .int (txg ||| (1 <<< (((zmin r1.1 8) - 3) &&& 31))), .int r6.2.1])), (txb, .inl (k 0, 120, .inl txbf)), (txt, .inr (3, [.int 12, .int 11, .ref txtc, .int txts])), (txtc, .inl (k 0, 132, .inl r6.2.2))] H := hP
            have hD : va_D A [(tx, .inr (4, [.ref txb, .ref txt, .int txn, .int r6.1, .int (txg ||| (1 <<< (((zmin r1.1 8) - 3) &&& 31))), .int r6.2.1])), (txb, .inl (k 0, 120, .inl txbf)), (txt, .inr (3, [.int 12, .int 11, .ref txtc, .int txts])), (txtc, .inl (k 0, 132, .inl r6.2.2))] := hD
            refine lv_goto (tgt := 165) hx hb dX4_readPart_119 (by decide) ?_
            obtain rfl := Option.some.inj h
            exact W.vret hx hb hr (fun t ht9 hW => ⟨⟨(), rfl, trivial, zend ht9 hP⟩, hS.F ht9⟩) hS.2.2 dX4_readPart_165
          · have h := zf h c4
            by_cases c5 : r1.1 = 6
            · have h := zt h c5
              refine lv_tableIn (off := 64) (tgt := 122) hx hb dX4_readPart_58 (by rw [c5]; decide) (by rw [c5]; decide) (by rw [c5]; rfl) (by decide) ?_
              refine lv_aload_n hx hb dX4_readPart_122 rfl (lv_at hl 3 rfl) ?_
              refine lv_iload_n hx hb dX4_readPart_123 rfl (lv_at hl 4 rfl) ?_
              refine lv_iconst (v := 4) hx hb dX4_readPart_124 (by decide) ?_
              refine lv_iconst (v := 5) hx hb dX4_readPart_125 (by decide) ?_
              obtain ⟨r5, h5, h⟩ := zb h
              refine zv (zrV (C := RX4) (T := TX4) (N := 6) (As := [.int a1, .int 4, .int 5]) (rest := []) ⟨hx, hb, hml, hown, ht⟩ (c_X4_readNumbers l D k tx txb txt txtc txn r1.2 (txg ||| (1 <<< (((zmin r1.1 8) - 3) &&& 31))) txe txbf txts txtf a1 4 5 fu h5 _) (cwV 3 ht (gdV wb716 wb718 wb26 wb78 wb719) rfl rfl rfl (by decide +kernel) ⟨Nat.le_of_ble_eq_true rfl, Nat.le_of_ble_eq_true rfl⟩) hK hP hD hS hA hm [0, 1, 2, 3] rfl rfl 0 4 rfl rfl rfl hl.1 rfl (Nat.le_of_ble_eq_true rfl) dX4_readPart_126 ⟨Nat.le_refl _, Nat.le_refl _⟩) hP hD hS hA [0, 1, 2, 3] rfl rfl (fun H locs hP hD hS => ?_)
              have hP : va_P D vwCl [(tx, .inr (4, [.ref txb, .ref txt, .int txn, .int r5.1, .int (txg ||| (1 <<< (((zmin r1.1 8) - 3) &&& 31))), .int r5.2.1])), (txb, .inl (k 0, 120, .inl txbf)), (txt, .inr (3, [.int 12, .int 11, .ref txtc, .int txts])), (txtc, .inl (k 0, 132, .inl r5.2.2))] H := hP
              have hD : va_D A [(tx, .inr (4, [.ref txb, .ref txt, .int txn, .int r5.1, .int (txg ||| (1 <<< (((zmin r1.1 8) - 3) &&& 31))), .int r5.2.1])), (txb, .inl (k 0, 120, .inl txbf)), (txt, .inr (3, [.int 12, .int 11, .ref txtc, .int txts])), (txtc, .inl (k 0, 132, .inl r5.2.2))] := hD
              refine lv_goto (tgt := 165) hx hb dX4_readPart_129 (by decide) ?_
              obtain rfl := Option.some.inj h
              exact W.vret hx hb hr (fun t ht9 hW => ⟨⟨(), rfl, trivial, zend ht9 hP⟩, hS.F ht9⟩) hS.2.2 dX4_readPart_165
            · have h := zf h c5
              by_cases c6 : r1.1 = 7
              · have h := zt h c6
                refine lv_tableIn (off := 74) (tgt := 132) hx hb dX4_readPart_58 (by rw [c6]; decide) (by rw [c6]; decide) (by rw [c6]; rfl) (by decide) ?_
                refine lv_aload_n hx hb dX4_readPart_132 rfl (lv_at hl 3 rfl) ?_
                refine lv_iload_n hx hb dX4_readPart_133 rfl (lv_at hl 4 rfl) ?_
                refine lv_bipush (v := 6) hx hb dX4_readPart_134 (by decide) ?_
                refine lv_bipush (v := 7) hx hb dX4_readPart_136 (by decide) ?_
                obtain ⟨r4, h4, h⟩ := zb h
                refine zv (zrV (C := RX4) (T := TX4) (N := 6) (As := [.int a1, .int 6, .int 7]) (rest := []) ⟨hx, hb, hml, hown, ht⟩ (c_X4_readNumbers l D k tx txb txt txtc txn r1.2 (txg ||| (1 <<< (((zmin r1.1 8) - 3) &&& 31))) txe txbf txts txtf a1 6 7 fu h4 _) (cwV 3 ht (gdV wb716 wb718 wb26 wb78 wb719) rfl rfl rfl (by decide +kernel) ⟨Nat.le_of_ble_eq_true rfl, Nat.le_of_ble_eq_true rfl⟩) hK hP hD hS hA hm [0, 1, 2, 3] rfl rfl 0 4 rfl rfl rfl hl.1 rfl (Nat.le_of_ble_eq_true rfl) dX4_readPart_138 ⟨Nat.le_refl _, Nat.le_refl _⟩) hP hD hS hA [0, 1, 2, 3] rfl rfl (fun H locs hP hD hS => ?_)
                have hP : va_P D vwCl [(tx, .inr (4, [.ref txb, .ref txt, .int txn, .int r4.1, .int (txg ||| (1 <<< (((zmin r1.1 8) - 3) &&& 31))), .int r4.2.1])), (txb, .inl (k 0, 120, .inl txbf)), (txt, .inr (3, [.int 12, .int 11, .ref txtc, .int txts])), (txtc, .inl (k 0, 132, .inl r4.2.2))] H := hP
                have hD : va_D A [(tx, .inr (4, [.ref txb, .ref txt, .int txn, .int r4.1, .int (txg ||| (1 <<< (((zmin r1.1 8) - 3) &&& 31))), .int r4.2.1])), (txb, .inl (k 0, 120, .inl txbf)), (txt, .inr (3, [.int 12, .int 11, .ref txtc, .int txts])), (txtc, .inl (k 0, 132, .inl r4.2.2))] := hD
                refine lv_goto (tgt := 165) hx hb dX4_readPart_141 (by decide) ?_
                obtain rfl := Option.some.inj h
                exact W.vret hx hb hr (fun t ht9 hW => ⟨⟨(), rfl, trivial, zend ht9 hP⟩, hS.F ht9⟩) hS.2.2 dX4_readPart_165
              · have h := zf h c6
                refine lv_tableOut (tgt := 144) hx hb dX4_readPart_58 (by have e0 : (Int32.toInt r1.1) ≠ 3 := fun q => c2 (Int32.toInt_inj.mp (by rw [q]; rfl)); have e1 : (Int32.toInt r1.1) ≠ 4 := fun q => c3 (Int32.toInt_inj.mp (by rw [q]; rfl)); have e2 : (Int32.toInt r1.1) ≠ 5 := fun q => c4 (Int32.toInt_inj.mp (by rw [q]; rfl)); have e3 : (Int32.toInt r1.1) ≠ 6 := fun q => c5 (Int32.toInt_inj.mp (by rw [q]; rfl)); have e4 : (Int32.toInt r1.1) ≠ 7 := fun q => c6 (Int32.toInt_inj.mp (by rw [q]; rfl)); omega) (by decide) ?_
                refine lv_aload_n hx hb dX4_readPart_144 rfl (lv_at hl 3 rfl) ?_
                refine va_get (D := D) (ci := 4) (v := .ref txt) (C := RX4) (T := TX4) (N := 6) hx hb ht hiX4 hown hK hP 0 rfl rfl 1 (by decide) (ht _ wb189) (fun _ h9 => h9) rfl dX4_readPart_145 ?_
                refine lv_iload_n hx hb dX4_readPart_148 rfl (lv_at hl 4 rfl) ?_
                refine lv_bipush (v := 8) hx hb dX4_readPart_149 (by decide) ?_
                refine lv_iload_n hx hb dX4_readPart_151 rfl (lv_at hl 1 rfl) ?_
                refine lv_bipush (v := 8) hx hb dX4_readPart_152 (by decide) ?_
                refine lv_icmp_ne (tgt := 161) hx hb dX4_readPart_154 (by decide) (fun c1 => ?_) (fun c1 => ?_)
                · have h := zf h c1
                  refine lv_iconst (v := 1) hx hb dX4_readPart_161 (by decide) ?_
                  obtain ⟨r2, h2, h⟩ := zb h
                  refine zv (zrV (C := RX3) (T := TX3) (N := 4) (As := [.int a1, .int 8, .int 1]) (rest := []) ⟨hx, hb, hml, hown, ht⟩ (c_X3_put l D k txt txtc 12 11 txts 132 txtf a1 8 1 h2 _) (cwV 3 ht (gdV wb728 wb323 wb324 wb74 wb325) rfl rfl rfl (by decide +kernel) ⟨Nat.le_of_ble_eq_true rfl, Nat.le_of_ble_eq_true rfl⟩) hK hP hD hS hA hm [2, 3] rfl rfl 2 3 rfl rfl rfl hl.1 rfl (Nat.le_of_ble_eq_true rfl) dX4_readPart_162 ⟨Nat.le_refl _, Nat.le_refl _⟩) hP hD hS hA [2, 3] rfl rfl (fun H locs hP hD hS => ?_)
                  have hP : va_P D vwCl [(tx, .inr (4, [.ref txb, .ref txt, .int txn, .int r1.2, .int (txg ||| (1 <<< (((zmin r1.1 8) - 3) &&& 31))), .int txe])), (txb, .inl (k 0, 120, .inl txbf)), (txt, .inr (3, [.int 12, .int 11, .ref txtc, .int txts])), (txtc, .inl (k 0, 132, .inl r2))] H := hP
                  have hD : va_D A [(tx, .inr (4, [.ref txb, .ref txt, .int txn, .int r1.2, .int (txg ||| (1 <<< (((zmin r1.1 8) - 3) &&& 31))), .int txe])), (txb, .inl (k 0, 120, .inl txbf)), (txt, .inr (3, [.int 12, .int 11, .ref txtc, .int txts])), (txtc, .inl (k 0, 132, .inl r2))] := hD
                  obtain rfl := Option.some.inj h
                  exact W.vret hx hb hr (fun t ht9 hW => ⟨⟨(), rfl, trivial, zend ht9 hP⟩, hS.F ht9⟩) hS.2.2 dX4_readPart_165
                · have h := zt h c1
                  refine lv_iconst (v := 0) hx hb dX4_readPart_157 (by decide) ?_
                  refine lv_goto (tgt := 162) hx hb dX4_readPart_158 (by decide) ?_
                  obtain ⟨r3, h3, h⟩ := zb h
                  refine zv (zrV (C := RX3) (T := TX3) (N := 4) (As := [.int a1, .int 8, .int 0]) (rest := []) ⟨hx, hb, hml, hown, ht⟩ (c_X3_put l D k txt txtc 12 11 txts 132 txtf a1 8 0 h3 _) (cwV 3 ht (gdV wb728 wb323 wb324 wb74 wb325) rfl rfl rfl (by decide +kernel) ⟨Nat.le_of_ble_eq_true rfl, Nat.le_of_ble_eq_true rfl⟩) hK hP hD hS hA hm [2, 3] rfl rfl 2 3 rfl rfl rfl hl.1 rfl (Nat.le_of_ble_eq_true rfl) dX4_readPart_162 ⟨Nat.le_refl _, Nat.le_refl _⟩) hP hD hS hA [2, 3] rfl rfl (fun H locs hP hD hS => ?_)
                  have hP : va_P D vwCl [(tx, .inr (4, [.ref txb, .ref txt, .int txn, .int r1.2, .int (txg ||| (1 <<< (((zmin r1.1 8) - 3) &&& 31))), .int txe])), (txb, .inl (k 0, 120, .inl txbf)), (txt, .inr (3, [.int 12, .int 11, .ref txtc, .int txts])), (txtc, .inl (k 0, 132, .inl r3))] H := hP
                  have hD : va_D A [(tx, .inr (4, [.ref txb, .ref txt, .int txn, .int r1.2, .int (txg ||| (1 <<< (((zmin r1.1 8) - 3) &&& 31))), .int txe])), (txb, .inl (k 0, 120, .inl txbf)), (txt, .inr (3, [.int 12, .int 11, .ref txtc, .int txts])), (txtc, .inl (k 0, 132, .inl r3))] := hD
                  obtain rfl := Option.some.inj h
                  exact W.vret hx hb hr (fun t ht9 hW => ⟨⟨(), rfl, trivial, zend ht9 hP⟩, hS.F ht9⟩) hS.2.2 dX4_readPart_165
    · have h := zt h c7
      refine lv_aload_n hx hb dX4_readPart_38 rfl (lv_at hl 3 rfl) ?_
      refine lv_iload_n hx hb dX4_readPart_39 rfl (lv_at hl 2 rfl) ?_
      refine va_put (D := D) (ci := 4) (v := .int txp) (ty := .int) (C := RX4) (T := TX4) (N := 6) hx hb ht hiX4 tyX4 tyX4_ok nmX4 hown hK hP hD hS 0 rfl rfl 5 (by decide) (ht _ wb194) (fun _ h9 => h9) rfl (by decide +kernel) rfl rfl (Nat.le_of_ble_eq_true rfl) dX4_readPart_40 (fun H locs hP hD hS => ?_)
      have hP : va_P D vwCl [(tx, .inr (4, [.ref txb, .ref txt, .int txn, .int r1.2, .int txg, .int txp])), (txb, .inl (k 0, 120, .inl txbf)), (txt, .inr (3, [.int 12, .int 11, .ref txtc, .int txts])), (txtc, .inl (k 0, 132, .inl txtf))] H := hP
      have hD : va_D A [(tx, .inr (4, [.ref txb, .ref txt, .int txn, .int r1.2, .int txg, .int txp])), (txb, .inl (k 0, 120, .inl txbf)), (txt, .inr (3, [.int 12, .int 11, .ref txtc, .int txts])), (txtc, .inl (k 0, 132, .inl txtf))] := hD
      obtain rfl := Option.some.inj h
      exact W.vret hx hb hr (fun t ht9 hW => ⟨⟨(), rfl, trivial, zend ht9 hP⟩, hS.F ht9⟩) hS.2.2 dX4_readPart_43
def f_X4_readRule_L47 (fu : Nat) (K : Int32 → Int32 → Int32 → Int32 → (Nat → Int32) → Option (Int32 × Int32 × Int32 × Int32 × (Nat → Int32))) (txn : Int32) (txbf : Nat → Int32) (txts : Int32) : Nat → Int32 → Int32 → Int32 → Int32 → (Nat → Int32) → Option (Int32 × Int32 × Int32 × Int32 × (Nat → Int32))
  | 0, _, _, _, _, _ => none
  | n + 1, v3, txp, txg, txe, txtf =>
  if 6 < v3 then (K v3 txp txg txe txtf) else (if txe = (-1) then ((f_X4_skipBlanks fu txn txp txbf ).bind fun r5 => (f_X4_byteAt txn txbf r5).bind fun r6 => if r6 = 59 then (some (r5 + 1, txg, txe, txts, txtf)) else ((f_X3_size txts ).bind fun r7 => (f_X4_readPart fu txn r5 txg txe txbf txts txtf (r7 - 1)).bind fun r8 => f_X4_readRule_L47 fu K txn txbf txts n (v3 + 1) r8.1 r8.2.1 r8.2.2.1 r8.2.2.2)) else (K v3 txp txg txe txtf))
def f_X4_readRule (fu : Nat) (txn : Int32) (txp : Int32) (txg : Int32) (txe : Int32) (txbf : Nat → Int32) (txts : Int32) (txtf : Nat → Int32)  : Option (Int32 × Int32 × Int32 × Int32 × (Nat → Int32)) :=
  (f_X4_readWord fu txn txp txbf ).bind fun r1 => (f_X5_within  r1.1 0 2).bind fun r2 => if (zB r2) = 0 then (some (r1.2, txg, txp, txts, txtf)) else ((f_X3_size txts ).bind fun r3 => (f_X5_insertAnyRule fu 12 11 txts 132 txtf r3 r1.1).bind fun r4 => f_X4_readRule_L47 fu (fun (x1 : Int32) (x2 : Int32) (x3 : Int32) (x4 : Int32) (x5 : Nat → Int32) => some (x2, x3, x4, r4.1, x5)) txn txbf r4.1 fu 0 r1.2 0 txe r4.2)
abbrev wk_X4_readRule : List Cond := Cond.code yX4_readRule cX4_readRule 4 none :: WB
abbrev rm_X4_readRule : Room := { frames := 7, cells := 0, slots := 0, locals := 153 }
set_option maxHeartbeats 4000000 in
set_option maxRecDepth 100000 in
theorem c_X4_readRule (l : Launch) (D : va_G) (k : Nat → Nat) (tx txb txt txtc : Nat) (txn : Int32) (txp : Int32) (txg : Int32) (txe : Int32) (txbf : Nat → Int32) (txts : Int32) (txtf : Nat → Int32)  (fu : Nat) {res : Int32 × Int32 × Int32 × Int32 × (Nat → Int32)} (h : f_X4_readRule fu txn txp txg txe txbf txts txtf  = some res) : Cv l yX4_readRule wk_X4_readRule rm_X4_readRule D k [.ref tx] [(tx, .inr (4, [.ref txb, .ref txt, .int txn, .int txp, .int txg, .int txe])), (txb, .inl (k 0, 120, .inl txbf)), (txt, .inr (3, [.int 12, .int 11, .ref txtc, .int txts])), (txtc, .inl (k 0, 132, .inl txtf))] [(tx, .inr (4, [.ref txb, .ref txt, .int txn, .int res.1, .int res.2.1, .int res.2.2.1])), (txb, .inl (k 0, 120, .inl txbf)), (txt, .inr (3, [.int 12, .int 11, .ref txtc, .int res.2.2.2.1])), (txtc, .inl (k 0, 132, .inl res.2.2.2.2))] := by
  unfold Cv
  intro sz
  refine Met.ofW (cc := cX4_readRule) (maxL := 4) (ret := none) (by decide) rfl ?_
  intro p e s m args below meth c s₁ B hml hv
  obtain ⟨rfl, hsz, hP, hK, hD0, hm⟩ := hv
  have hx := B.exec
  have hb := B.bytes
  have hr := B.returns
  have ht : ∀ w ∈ WB, w.before _ s = true := fun w hw => atoms_spec (ws := wk_X4_readRule) B.pre w (List.mem_cons_of_mem _ hw)
  have hown : s.vm.findClass RX4 = some m.cls := findClass_of_methodNamed B.named
  have hlocks := B.notSynchronized
  subst hsz
  have hD := hD0.self (sz := s.heap.size)
  generalize hAe : va_A [(tx, .inr (4, [.ref txb, .ref txt, .int txn, .int txp, .int txg, .int txe])), (txb, .inl (k 0, 120, .inl txbf)), (txt, .inr (3, [.int 12, .int 11, .ref txtc, .int txts])), (txtc, .inl (k 0, 132, .inl txtf))] s.heap.size = A at hD hm ⊢
  have hA : ∀ q : Nat, s.heap.size ≤ q → A q := fun q h => by rw [← hAe]; exact Or.inr h
  have hS : va_S A s.heap s.heap [] := va_S.rf
  have hl := lv_entry ([.ref tx]) (n := 4) (Nat.le_of_ble_eq_true rfl)
  rw [lg_entry_eq]
  generalize (lg_sl ([.ref tx]) ++ List.replicate (4 - (lg_sl ([.ref tx])).length) Slot.unset).toArray = ls at hl ⊢
  have hl : lv_has ls 4 [(0, .ref tx)] := hl
  obtain ⟨H, hH⟩ : ∃ H, H = s.heap := ⟨_, rfl⟩
  rw [← hH] at hP
  have hS : va_S A s.heap H [] := by rw [hH]; exact hS
  suffices hgo : W p l e _ s m _ below meth c H [] 0 0 _ _ by rw [hH] at hgo; exact hgo
  unfold f_X4_readRule at h
  refine lv_aload_n hx hb dX4_readRule_0 rfl (lv_at hl 0 rfl) ?_
  refine va_get (D := D) (ci := 4) (v := .int txp) (C := RX4) (T := TX4) (N := 6) hx hb ht hiX4 hown hK hP 0 rfl rfl 3 (by decide) (ht _ wb192) (fun _ h9 => h9) rfl dX4_readRule_1 ?_
  refine lv_istore_n (lv' := [(1, .int txp), (0, .ref tx)]) hx hb dX4_readRule_4 rfl hl (by decide) rfl (fun ls hl => ?_)
  refine lv_aload_n hx hb dX4_readRule_5 rfl (lv_at hl 1 rfl) ?_
  obtain ⟨r1, h1, h⟩ := zb h
  refine zi (zrV (C := RX4) (T := TX4) (N := 6) (As := []) (rest := []) ⟨hx, hb, hml, hown, ht⟩ (c_X4_readWord l D k tx txb txt txn txp txg txe txbf  fu h1 _) (cwV 0 ht (gdV wb637 wb639 wb23 wb78 wb640) rfl rfl rfl (by decide +kernel) ⟨Nat.le_of_ble_eq_true rfl, Nat.le_of_ble_eq_true rfl⟩) hK hP hD hS hA hm [0, 1] rfl rfl 0 4 rfl rfl rfl hl.1 rfl (Nat.le_of_ble_eq_true rfl) dX4_readRule_6 ⟨Nat.le_refl _, Nat.le_refl _⟩) hP hD hS hA [0, 1] rfl rfl (fun H locs hP hD hS => ?_)
  have hP : va_P D vwCl [(tx, .inr (4, [.ref txb, .ref txt, .int txn, .int r1.2, .int txg, .int txe])), (txb, .inl (k 0, 120, .inl txbf)), (txt, .inr (3, [.int 12, .int 11, .ref txtc, .int txts])), (txtc, .inl (k 0, 132, .inl txtf))] H := hP
  have hD : va_D A [(tx, .inr (4, [.ref txb, .ref txt, .int txn, .int r1.2, .int txg, .int txe])), (txb, .inl (k 0, 120, .inl txbf)), (txt, .inr (3, [.int 12, .int 11, .ref txtc, .int txts])), (txtc, .inl (k 0, 132, .inl txtf))] := hD
  refine lv_istore_n (lv' := [(2, .int r1.1), (1, .int txp), (0, .ref tx)]) hx hb dX4_readRule_9 rfl hl (by decide) rfl (fun ls hl => ?_)
  refine lv_iload_n hx hb dX4_readRule_10 rfl (lv_at hl 0 rfl) ?_
  refine lv_iconst (v := 0) hx hb dX4_readRule_11 (by decide) ?_
  refine lv_iconst (v := 2) hx hb dX4_readRule_12 (by decide) ?_
  obtain ⟨r2, h2, h⟩ := zb h
  refine zi (zrN (As := [.int r1.1, .int 0, .int 2]) (rest := []) ⟨hx, hb, hml, hown, ht⟩ (c_X5_within l D k   r1.1 0 2 h2 _) ⟨va_cnB 3 ht (gdN wb270) rfl rfl rfl (hm.1 _ (List.mem_of_getElem? (i := 19) rfl)) (ht _ wb72) (by decide +kernel) ⟨Nat.le_of_ble_eq_true rfl, Nat.le_of_ble_eq_true rfl⟩, ht _ wb269, trivial⟩ hK hP hD hS hA hm [] rfl rfl rfl hl.1 rfl (Nat.le_of_ble_eq_true rfl) dX4_readRule_13 ⟨Nat.le_refl _, Nat.le_refl _⟩) hP hD hS hA [] rfl rfl (fun H locs hP hD hS => ?_)
  have hP : va_P D vwCl [(tx, .inr (4, [.ref txb, .ref txt, .int txn, .int r1.2, .int txg, .int txe])), (txb, .inl (k 0, 120, .inl txbf)), (txt, .inr (3, [.int 12, .int 11, .ref txtc, .int txts])), (txtc, .inl (k 0, 132, .inl txtf))] H := hP
  have hD : va_D A [(tx, .inr (4, [.ref txb, .ref txt, .int txn, .int r1.2, .int txg, .int txe])), (txb, .inl (k 0, 120, .inl txbf)), (txt, .inr (3, [.int 12, .int 11, .ref txtc, .int txts])), (txtc, .inl (k 0, 132, .inl txtf))] := hD
  refine lv_if_ne (tgt := 25) hx hb dX4_readRule_16 (by decide) (fun c4 => ?_) (fun c4 => ?_)
  · have h := zf h c4
    refine lv_aload_n hx hb dX4_readRule_25 rfl (lv_at hl 2 rfl) ?_
    refine va_get (D := D) (ci := 4) (v := .ref txt) (C := RX4) (T := TX4) (N := 6) hx hb ht hiX4 hown hK hP 0 rfl rfl 1 (by decide) (ht _ wb189) (fun _ h9 => h9) rfl dX4_readRule_26 ?_
    refine lv_aload_n hx hb dX4_readRule_29 rfl (lv_at hl 2 rfl) ?_
    refine va_get (D := D) (ci := 4) (v := .ref txt) (C := RX4) (T := TX4) (N := 6) hx hb ht hiX4 hown hK hP 0 rfl rfl 1 (by decide) (ht _ wb189) (fun _ h9 => h9) rfl dX4_readRule_30 ?_
    obtain ⟨r3, h3, h⟩ := zb h
    refine zi (zrV (C := RX3) (T := TX3) (N := 4) (As := []) (rest := [.ref txt]) ⟨hx, hb, hml, hown, ht⟩ (c_X3_size l D k txt txtc 12 11 txts 132 txtf  h3 _) (cwV 0 ht (gdV wb709 wb305 wb306 wb74 wb307) rfl rfl rfl (by decide +kernel) ⟨Nat.le_of_ble_eq_true rfl, Nat.le_of_ble_eq_true rfl⟩) hK hP hD hS hA hm [2, 3] rfl rfl 2 3 rfl rfl rfl hl.1 rfl (Nat.le_of_ble_eq_true rfl) dX4_readRule_33 ⟨Nat.le_refl _, Nat.le_refl _⟩) hP hD hS hA [2, 3] rfl rfl (fun H locs hP hD hS => ?_)
    have hP : va_P D vwCl [(tx, .inr (4, [.ref txb, .ref txt, .int txn, .int r1.2, .int txg, .int txe])), (txb, .inl (k 0, 120, .inl txbf)), (txt, .inr (3, [.int 12, .int 11, .ref txtc, .int txts])), (txtc, .inl (k 0, 132, .inl txtf))] H := hP
    have hD : va_D A [(tx, .inr (4, [.ref txb, .ref txt, .int txn, .int r1.2, .int txg, .int txe])), (txb, .inl (k 0, 120, .inl txbf)), (txt, .inr (3, [.int 12, .int 11, .ref txtc, .int txts])), (txtc, .inl (k 0, 132, .inl txtf))] := hD
    refine lv_iload_n hx hb dX4_readRule_36 rfl (lv_at hl 0 rfl) ?_
    obtain ⟨r4, h4, h⟩ := zb h
    refine zv (zrN (As := [.ref txt, .int r3, .int r1.1]) (rest := []) ⟨hx, hb, hml, hown, ht⟩ (c_X5_insertAnyRule l D k txt txtc 12 11 txts 132 txtf r3 r1.1 fu h4 _) ⟨va_cnB 3 ht (gdN wb314) rfl rfl rfl (hm.1 _ (List.mem_of_getElem? (i := 20) rfl)) (ht _ wb72) (by decide +kernel) ⟨Nat.le_of_ble_eq_true rfl, Nat.le_of_ble_eq_true rfl⟩, ht _ wb313, trivial⟩ hK hP hD hS hA hm [2, 3] rfl rfl rfl hl.1 rfl (Nat.le_of_ble_eq_true rfl) dX4_readRule_37 ⟨Nat.le_refl _, Nat.le_refl _⟩) hP hD hS hA [2, 3] rfl rfl (fun H locs hP hD hS => ?_)
    have hP : va_P D vwCl [(tx, .inr (4, [.ref txb, .ref txt, .int txn, .int r1.2, .int txg, .int txe])), (txb, .inl (k 0, 120, .inl txbf)), (txt, .inr (3, [.int 12, .int 11, .ref txtc, .int r4.1])), (txtc, .inl (k 0, 132, .inl r4.2))] H := hP
    have hD : va_D A [(tx, .inr (4, [.ref txb, .ref txt, .int txn, .int r1.2, .int txg, .int txe])), (txb, .inl (k 0, 120, .inl txbf)), (txt, .inr (3, [.int 12, .int 11, .ref txtc, .int r4.1])), (txtc, .inl (k 0, 132, .inl r4.2))] := hD
    refine lv_aload_n hx hb dX4_readRule_40 rfl (lv_at hl 2 rfl) ?_
    refine lv_iconst (v := 0) hx hb dX4_readRule_41 (by decide) ?_
    refine va_put (D := D) (ci := 4) (v := .int 0) (ty := .int) (C := RX4) (T := TX4) (N := 6) hx hb ht hiX4 tyX4 tyX4_ok nmX4 hown hK hP hD hS 0 rfl rfl 4 (by decide) (ht _ wb193) (fun _ h9 => h9) rfl (by decide +kernel) rfl rfl (Nat.le_of_ble_eq_true rfl) dX4_readRule_42 (fun H locs hP hD hS => ?_)
    have hP : va_P D vwCl [(tx, .inr (4, [.ref txb, .ref txt, .int txn, .int r1.2, .int 0, .int txe])), (txb, .inl (k 0, 120, .inl txbf)), (txt, .inr (3, [.int 12, .int 11, .ref txtc, .int r4.1])), (txtc, .inl (k 0, 132, .inl r4.2))] H := hP
    have hD : va_D A [(tx, .inr (4, [.ref txb, .ref txt, .int txn, .int r1.2, .int 0, .int txe])), (txb, .inl (k 0, 120, .inl txbf)), (txt, .inr (3, [.int 12, .int 11, .ref txtc, .int r4.1])), (txtc, .inl (k 0, 132, .inl r4.2))] := hD
    refine lv_iconst (v := 0) hx hb dX4_readRule_45 (by decide) ?_
    refine lv_istore_n (lv' := [(3, .int 0), (2, .int r1.1), (1, .int txp), (0, .ref tx)]) hx hb dX4_readRule_46 rfl hl (by decide) rfl (fun ls hl => ?_)
    have loop47 : ∀ (v1 : Int32) (v2 : Int32) (txn : Int32) (txbf : Nat → Int32) (txts : Int32), ∀ (K : Int32 → Int32 → Int32 → Int32 → (Nat → Int32) → Option (Int32 × Int32 × Int32 × Int32 × (Nat → Int32))), (∀ (v3 : Int32) (txp : Int32) (txg : Int32) (txe : Int32) (txtf : Nat → Int32), K v3 txp txg txe txtf = some res → ∀ (H : Heap) (locs : List Loc), va_P D vwCl [(tx, .inr (4, [.ref txb, .ref txt, .int txn, .int txp, .int txg, .int txe])), (txb, .inl (k 0, 120, .inl txbf)), (txt, .inr (3, [.int 12, .int 11, .ref txtc, .int txts])), (txtc, .inl (k 0, 132, .inl txtf))] H → va_D A [(tx, .inr (4, [.ref txb, .ref txt, .int txn, .int txp, .int txg, .int txe])), (txb, .inl (k 0, 120, .inl txbf)), (txt, .inr (3, [.int 12, .int 11, .ref txtc, .int txts])), (txtc, .inl (k 0, 132, .inl txtf))] → va_S A s.heap H locs → ∀ ls : Array Slot, lv_has ls 4 [(0, .ref tx), (1, .int v1), (2, .int v2), (3, .int v3)] → W p l e (headSpec wk_X4_readRule rm_X4_readRule).room s m ([.ref tx] : List Value).toArray below meth c H locs 0 0 (MQ below (va_Qv (fun (_ : Unit) => True) (fun _ tq9 => va_P D vwCl [(tx, .inr (4, [.ref txb, .ref txt, .int txn, .int res.1, .int res.2.1, .int res.2.2.1])), (txb, .inl (k 0, 120, .inl txbf)), (txt, .inr (3, [.int 12, .int 11, .ref txtc, .int res.2.2.2.1])), (txtc, .inl (k 0, 132, .inl res.2.2.2.2))] tq9.heap) A) ([.ref tx] : List Value).toArray s 0 0 A) (F0 m 108 ls [])) → ∀ (n : Nat) (v3 : Int32) (txp : Int32) (txg : Int32) (txe : Int32) (txtf : Nat → Int32), f_X4_readRule_L47 fu K txn txbf txts n v3 txp txg txe txtf = some res → ∀ (H : Heap) (locs : List Loc), va_P D vwCl [(tx, .inr (4, [.ref txb, .ref txt, .int txn, .int txp, .int txg, .int txe])), (txb, .inl (k 0, 120, .inl txbf)), (txt, .inr (3, [.int 12, .int 11, .ref txtc, .int txts])), (txtc, .inl (k 0, 132, .inl txtf))] H → va_D A [(tx, .inr (4, [.ref txb, .ref txt, .int txn, .int txp, .int txg, .int txe])), (txb, .inl (k 0, 120, .inl txbf)), (txt, .inr (3, [.int 12, .int 11, .ref txtc, .int txts])), (txtc, .inl (k 0, 132, .inl txtf))] → va_S A s.heap H locs → ∀ ls : Array Slot, lv_has ls 4 [(0, .ref tx), (1, .int v1), (2, .int v2), (3, .int v3)] → W p l e (headSpec wk_X4_readRule rm_X4_readRule).room s m ([.ref tx] : List Value).toArray below meth c H locs 0 0 (MQ below (va_Qv (fun (_ : Unit) => True) (fun _ tq9 => va_P D vwCl [(tx, .inr (4, [.ref txb, .ref txt, .int txn, .int res.1, .int res.2.1, .int res.2.2.1])), (txb, .inl (k 0, 120, .inl txbf)), (txt, .inr (3, [.int 12, .int 11, .ref txtc, .int res.2.2.2.1])), (txtc, .inl (k 0, 132, .inl res.2.2.2.2))] tq9.heap) A) ([.ref tx] : List Value).toArray s 0 0 A) (F0 m 47 ls []) := by
      intro v1 v2 txn txbf txts K hKK n
      induction n with
      | zero =>
        intro v3 txp txg txe txtf h
        rw [f_X4_readRule_L47] at h
        cases h
      | succ n ih =>
        intro v3 txp txg txe txtf h H locs hP hD hS ls hl
        rw [f_X4_readRule_L47] at h
        refine lv_iload_n hx hb dX4_readRule_47 rfl (lv_at hl 3 rfl) ?_
        refine lv_bipush (v := 6) hx hb dX4_readRule_48 (by decide) ?_
        refine lv_icmp_gt (tgt := 108) hx hb dX4_readRule_50 (by decide) (fun c3 => ?_) (fun c3 => ?_)
        · have h := zt h c3
          exact hKK _ _ _ _ _ h _ _ hP hD hS _ (lv_sub hl [0, 1, 2, 3] rfl)
        · have h := zf h c3
          refine lv_aload_n hx hb dX4_readRule_53 rfl (lv_at hl 0 rfl) ?_
          refine va_get (D := D) (ci := 4) (v := .int txe) (C := RX4) (T := TX4) (N := 6) hx hb ht hiX4 hown hK hP 0 rfl rfl 5 (by decide) (ht _ wb194) (fun _ h9 => h9) rfl dX4_readRule_54 ?_
          refine lv_iconst (v := (-1)) hx hb dX4_readRule_57 (by decide) ?_
          refine lv_icmp_ne (tgt := 108) hx hb dX4_readRule_58 (by decide) (fun c2 => ?_) (fun c2 => ?_)
          · have h := zf h c2
            exact hKK _ _ _ _ _ h _ _ hP hD hS _ (lv_sub hl [0, 1, 2, 3] rfl)
          · have h := zt h c2
            refine lv_aload_n hx hb dX4_readRule_61 rfl (lv_at hl 0 rfl) ?_
            obtain ⟨r5, h5, h⟩ := zb h
            refine zv (zrV (C := RX4) (T := TX4) (N := 6) (As := []) (rest := []) ⟨hx, hb, hml, hown, ht⟩ (c_X4_skipBlanks l D k tx txb txt txn txp txg txe txbf  fu h5 _) (cwV 0 ht (gdV wb625 wb627 wb20 wb78 wb628) rfl rfl rfl (by decide +kernel) ⟨Nat.le_of_ble_eq_true rfl, Nat.le_of_ble_eq_true rfl⟩) hK hP hD hS hA hm [0, 1] rfl rfl 0 4 rfl rfl rfl hl.1 rfl (Nat.le_of_ble_eq_true rfl) dX4_readRule_62 ⟨Nat.le_refl _, Nat.le_refl _⟩) hP hD hS hA [0, 1] rfl rfl (fun H locs hP hD hS => ?_)
            have hP : va_P D vwCl [(tx, .inr (4, [.ref txb, .ref txt, .int txn, .int r5, .int txg, .int txe])), (txb, .inl (k 0, 120, .inl txbf)), (txt, .inr (3, [.int 12, .int 11, .ref txtc, .int txts])), (txtc, .inl (k 0, 132, .inl txtf))] H := hP
            have hD : va_D A [(tx, .inr (4, [.ref txb, .ref txt, .int txn, .int r5, .int txg, .int txe])), (txb, .inl (k 0, 120, .inl txbf)), (txt, .inr (3, [.int 12, .int 11, .ref txtc, .int txts])), (txtc, .inl (k 0, 132, .inl txtf))] := hD
            refine lv_aload_n hx hb dX4_readRule_65 rfl (lv_at hl 0 rfl) ?_
            refine lv_aload_n hx hb dX4_readRule_66 rfl (lv_at hl 0 rfl) ?_
            refine va_get (D := D) (ci := 4) (v := .int r5) (C := RX4) (T := TX4) (N := 6) hx hb ht hiX4 hown hK hP 0 rfl rfl 3 (by decide) (ht _ wb192) (fun _ h9 => h9) rfl dX4_readRule_67 ?_
            obtain ⟨r6, h6, h⟩ := zb h
            refine zi (zrV (C := RX4) (T := TX4) (N := 6) (As := [.int r5]) (rest := []) ⟨hx, hb, hml, hown, ht⟩ (c_X4_byteAt l D k tx txb txt txn r5 txg txe txbf r5 h6 _) (cwV 1 ht (gdV wb629 wb631 wb21 wb78 wb632) rfl rfl rfl (by decide +kernel) ⟨Nat.le_of_ble_eq_true rfl, Nat.le_of_ble_eq_true rfl⟩) hK hP hD hS hA hm [0, 1] rfl rfl 0 4 rfl rfl rfl hl.1 rfl (Nat.le_of_ble_eq_true rfl) dX4_readRule_70 ⟨Nat.le_refl _, Nat.le_refl _⟩) hP hD hS hA [0, 1] rfl rfl (fun H locs hP hD hS => ?_)
            have hP : va_P D vwCl [(tx, .inr (4, [.ref txb, .ref txt, .int txn, .int r5, .int txg, .int txe])), (txb, .inl (k 0, 120, .inl txbf)), (txt, .inr (3, [.int 12, .int 11, .ref txtc, .int txts])), (txtc, .inl (k 0, 132, .inl txtf))] H := hP
            have hD : va_D A [(tx, .inr (4, [.ref txb, .ref txt, .int txn, .int r5, .int txg, .int txe])), (txb, .inl (k 0, 120, .inl txbf)), (txt, .inr (3, [.int 12, .int 11, .ref txtc, .int txts])), (txtc, .inl (k 0, 132, .inl txtf))] := hD
            refine lv_bipush (v := 59) hx hb dX4_readRule_73 (by decide) ?_
            refine lv_icmp_ne (tgt := 89) hx hb dX4_readRule_75 (by decide) (fun c1 => ?_) (fun c1 => ?_)
            · have h := zf h c1
              refine lv_aload_n hx hb dX4_readRule_89 rfl (lv_at hl 0 rfl) ?_
              refine lv_aload_n hx hb dX4_readRule_90 rfl (lv_at hl 0 rfl) ?_
              refine va_get (D := D) (ci := 4) (v := .ref txt) (C := RX4) (T := TX4) (N := 6) hx hb ht hiX4 hown hK hP 0 rfl rfl 1 (by decide) (ht _ wb189) (fun _ h9 => h9) rfl dX4_readRule_91 ?_
              obtain ⟨r7, h7, h⟩ := zb h
              refine zi (zrV (C := RX3) (T := TX3) (N := 4) (As := []) (rest := [.ref tx]) ⟨hx, hb, hml, hown, ht⟩ (c_X3_size l D k txt txtc 12 11 txts 132 txtf  h7 _) (cwV 0 ht (gdV wb709 wb305 wb306 wb74 wb307) rfl rfl rfl (by decide +kernel) ⟨Nat.le_of_ble_eq_true rfl, Nat.le_of_ble_eq_true rfl⟩) hK hP hD hS hA hm [2, 3] rfl rfl 2 3 rfl rfl rfl hl.1 rfl (Nat.le_of_ble_eq_true rfl) dX4_readRule_94 ⟨Nat.le_refl _, Nat.le_refl _⟩) hP hD hS hA [2, 3] rfl rfl (fun H locs hP hD hS => ?_)
              have hP : va_P D vwCl [(tx, .inr (4, [.ref txb, .ref txt, .int txn, .int r5, .int txg, .int txe])), (txb, .inl (k 0, 120, .inl txbf)), (txt, .inr (3, [.int 12, .int 11, .ref txtc, .int txts])), (txtc, .inl (k 0, 132, .inl txtf))] H := hP
              have hD : va_D A [(tx, .inr (4, [.ref txb, .ref txt, .int txn, .int r5, .int txg, .int txe])), (txb, .inl (k 0, 120, .inl txbf)), (txt, .inr (3, [.int 12, .int 11, .ref txtc, .int txts])), (txtc, .inl (k 0, 132, .inl txtf))] := hD
              refine lv_iconst (v := 1) hx hb dX4_readRule_97 (by decide) ?_
              refine lv_isub hx hb dX4_readRule_98 ?_
              obtain ⟨r8, h8, h⟩ := zb h
              refine zv (zrV (C := RX4) (T := TX4) (N := 6) (As := [.int (r7 - 1)]) (rest := []) ⟨hx, hb, hml, hown, ht⟩ (c_X4_readPart l D k tx txb txt txtc txn r5 txg txe txbf txts txtf (r7 - 1) fu h8 _) (cwV 1 ht (gdV wb711 wb713 wb25 wb78 wb714) rfl rfl rfl (by decide +kernel) ⟨Nat.le_of_ble_eq_true rfl, Nat.le_of_ble_eq_true rfl⟩) hK hP hD hS hA hm [0, 1, 2, 3] rfl rfl 0 4 rfl rfl rfl hl.1 rfl (Nat.le_of_ble_eq_true rfl) dX4_readRule_99 ⟨Nat.le_refl _, Nat.le_refl _⟩) hP hD hS hA [0, 1, 2, 3] rfl rfl (fun H locs hP hD hS => ?_)
              have hP : va_P D vwCl [(tx, .inr (4, [.ref txb, .ref txt, .int txn, .int r8.1, .int r8.2.1, .int r8.2.2.1])), (txb, .inl (k 0, 120, .inl txbf)), (txt, .inr (3, [.int 12, .int 11, .ref txtc, .int txts])), (txtc, .inl (k 0, 132, .inl r8.2.2.2))] H := hP
              have hD : va_D A [(tx, .inr (4, [.ref txb, .ref txt, .int txn, .int r8.1, .int r8.2.1, .int r8.2.2.1])), (txb, .inl (k 0, 120, .inl txbf)), (txt, .inr (3, [.int 12, .int 11, .ref txtc, .int txts])), (txtc, .inl (k 0, 132, .inl r8.2.2.2))] := hD
              refine lv_iinc (v := v3 + 1) (lv' := [(3, .int (v3 + 1)), (0, .ref tx), (1, .int v1), (2, .int v2)]) hx hb dX4_readRule_102 hl (k := 3) rfl rfl (by decide) rfl (fun ls hl => ?_)
              refine lv_goto (tgt := 47) hx hb dX4_readRule_105 (by decide) ?_
              exact ih _ _ _ _ _ h _ _ hP hD hS _ (lv_sub hl [1, 2, 3, 0] rfl)
            · have h := zt h c1
              refine lv_aload_n hx hb dX4_readRule_78 rfl (lv_at hl 0 rfl) ?_
              refine lv_dup hx hb dX4_readRule_79 rfl ?_
              refine va_get (D := D) (ci := 4) (v := .int r5) (C := RX4) (T := TX4) (N := 6) hx hb ht hiX4 hown hK hP 0 rfl rfl 3 (by decide) (ht _ wb192) (fun _ h9 => h9) rfl dX4_readRule_80 ?_
              refine lv_iconst (v := 1) hx hb dX4_readRule_83 (by decide) ?_
              refine lv_iadd hx hb dX4_readRule_84 ?_
              refine va_put (D := D) (ci := 4) (v := .int (r5 + 1)) (ty := .int) (C := RX4) (T := TX4) (N := 6) hx hb ht hiX4 tyX4 tyX4_ok nmX4 hown hK hP hD hS 0 rfl rfl 3 (by decide) (ht _ wb192) (fun _ h9 => h9) rfl (by decide +kernel) rfl rfl (Nat.le_of_ble_eq_true rfl) dX4_readRule_85 (fun H locs hP hD hS => ?_)
              have hP : va_P D vwCl [(tx, .inr (4, [.ref txb, .ref txt, .int txn, .int (r5 + 1), .int txg, .int txe])), (txb, .inl (k 0, 120, .inl txbf)), (txt, .inr (3, [.int 12, .int 11, .ref txtc, .int txts])), (txtc, .inl (k 0, 132, .inl txtf))] H := hP
              have hD : va_D A [(tx, .inr (4, [.ref txb, .ref txt, .int txn, .int (r5 + 1), .int txg, .int txe])), (txb, .inl (k 0, 120, .inl txbf)), (txt, .inr (3, [.int 12, .int 11, .ref txtc, .int txts])), (txtc, .inl (k 0, 132, .inl txtf))] := hD
              obtain rfl := Option.some.inj h
              exact W.vret hx hb hr (fun t ht9 hW => ⟨⟨(), rfl, trivial, zend ht9 hP⟩, hS.F ht9⟩) hS.2.2 dX4_readRule_88
    refine loop47 _ _ _ _ _ _ ?_ fu _ _ _ _ _ h _ _ hP hD hS _ (lv_sub hl [3, 2, 1, 0] rfl)
    intro x1 x2 x3 x4 x5 h H locs hP hD hS ls hl
    try dsimp only at h
    have hP : va_P D vwCl [(tx, .inr (4, [.ref txb, .ref txt, .int txn, .int x2, .int x3, .int x4])), (txb, .inl (k 0, 120, .inl txbf)), (txt, .inr (3, [.int 12, .int 11, .ref txtc, .int r4.1])), (txtc, .inl (k 0, 132, .inl x5))] H := hP
    have hD : va_D A [(tx, .inr (4, [.ref txb, .ref txt, .int txn, .int x2, .int x3, .int x4])), (txb, .inl (k 0, 120, .inl txbf)), (txt, .inr (3, [.int 12, .int 11, .ref txtc, .int r4.1])), (txtc, .inl (k 0, 132, .inl x5))] := hD
    have hl : lv_has ls 4 [(0, .ref tx), (1, .int txp), (2, .int r1.1), (3, .int x1)] := hl
    obtain rfl := Option.some.inj h
    exact W.vret hx hb hr (fun t ht9 hW => ⟨⟨(), rfl, trivial, zend ht9 hP⟩, hS.F ht9⟩) hS.2.2 dX4_readRule_108
  · have h := zt h c4
    refine lv_aload_n hx hb dX4_readRule_19 rfl (lv_at hl 2 rfl) ?_
    refine lv_iload_n hx hb dX4_readRule_20 rfl (lv_at hl 1 rfl) ?_
    refine va_put (D := D) (ci := 4) (v := .int txp) (ty := .int) (C := RX4) (T := TX4) (N := 6) hx hb ht hiX4 tyX4 tyX4_ok nmX4 hown hK hP hD hS 0 rfl rfl 5 (by decide) (ht _ wb194) (fun _ h9 => h9) rfl (by decide +kernel) rfl rfl (Nat.le_of_ble_eq_true rfl) dX4_readRule_21 (fun H locs hP hD hS => ?_)
    have hP : va_P D vwCl [(tx, .inr (4, [.ref txb, .ref txt, .int txn, .int r1.2, .int txg, .int txp])), (txb, .inl (k 0, 120, .inl txbf)), (txt, .inr (3, [.int 12, .int 11, .ref txtc, .int txts])), (txtc, .inl (k 0, 132, .inl txtf))] H := hP
    have hD : va_D A [(tx, .inr (4, [.ref txb, .ref txt, .int txn, .int r1.2, .int txg, .int txp])), (txb, .inl (k 0, 120, .inl txbf)), (txt, .inr (3, [.int 12, .int 11, .ref txtc, .int txts])), (txtc, .inl (k 0, 132, .inl txtf))] := hD
    obtain rfl := Option.some.inj h
    exact W.vret hx hb hr (fun t ht9 hW => ⟨⟨(), rfl, trivial, zend ht9 hP⟩, hS.F ht9⟩) hS.2.2 dX4_readRule_24
def f_X4_findRules_L19 (fu : Nat) (K : Int32 → Int32 → Int32 → Int32 → Int32 → (Nat → Int32) → Option (Int32 × Int32 × Int32 × Int32 × Int32 × (Nat → Int32))) (txn : Int32) (txbf : Nat → Int32) : Nat → Int32 → Int32 → Int32 → Int32 → Int32 → (Nat → Int32) → Option (Int32 × Int32 × Int32 × Int32 × Int32 × (Nat → Int32))
  | 0, _, _, _, _, _, _ => none
  | n + 1, v1, txp, txg, txe, txts, txtf =>
  if 12 < v1 then (K v1 txp txg txe txts txtf) else (if txe = (-1) then ((f_X4_skipBlanks fu txn txp txbf ).bind fun r2 => if r2 < txn then (if v1 = 12 then (f_X4_findRules_L19 fu K txn txbf n (v1 + 1) r2 txg r2 txts txtf) else ((f_X4_readRule fu txn r2 txg txe txbf txts txtf ).bind fun r3 => f_X4_findRules_L19 fu K txn txbf n (v1 + 1) r3.1 r3.2.1 r3.2.2.1 r3.2.2.2.1 r3.2.2.2.2)) else (some ((-1), r2, txg, txe, txts, txtf))) else (K v1 txp txg txe txts txtf))
def f_X4_findRules (fu : Nat) (txn : Int32) (txg : Int32) (txbf : Nat → Int32) (txtf : Nat → Int32)  : Option (Int32 × Int32 × Int32 × Int32 × Int32 × (Nat → Int32)) :=
  (f_X3_empty  ).bind fun r1 => f_X4_findRules_L19 fu (fun (x1 : Int32) (x2 : Int32) (x3 : Int32) (x4 : Int32) (x5 : Int32) (x6 : Nat → Int32) => some (x4, x2, x3, x4, x5, x6)) txn txbf fu 0 0 txg (-1) r1 txtf
abbrev wk_X4_findRules : List Cond := Cond.code yX4_findRules cX4_findRules 2 (some .int) :: WB
abbrev rm_X4_findRules : Room := { frames := 8, cells := 0, slots := 0, locals := 176 }
set_option maxHeartbeats 4000000 in
set_option maxRecDepth 100000 in
theorem c_X4_findRules (l : Launch) (D : va_G) (k : Nat → Nat) (tx txb txt txtc : Nat) (txn : Int32) (txp : Int32) (txg : Int32) (txe : Int32) (txbf : Nat → Int32) (txts : Int32) (txtf : Nat → Int32)  (fu : Nat) {res : Int32 × Int32 × Int32 × Int32 × Int32 × (Nat → Int32)} (h : f_X4_findRules fu txn txg txbf txtf  = some res) : Ci l yX4_findRules wk_X4_findRules rm_X4_findRules D k [.ref tx] [(tx, .inr (4, [.ref txb, .ref txt, .int txn, .int txp, .int txg, .int txe])), (txb, .inl (k 0, 120, .inl txbf)), (txt, .inr (3, [.int 12, .int 11, .ref txtc, .int txts])), (txtc, .inl (k 0, 132, .inl txtf))] [(tx, .inr (4, [.ref txb, .ref txt, .int txn, .int res.2.1, .int res.2.2.1, .int res.2.2.2.1])), (txb, .inl (k 0, 120, .inl txbf)), (txt, .inr (3, [.int 12, .int 11, .ref txtc, .int res.2.2.2.2.1])), (txtc, .inl (k 0, 132, .inl res.2.2.2.2.2))] res.1 := by
  unfold Ci
  intro sz
  refine Met.ofW (cc := cX4_findRules) (maxL := 2) (ret := (some .int)) (by decide) rfl ?_
  intro p e s m args below meth c s₁ B hml hv
  obtain ⟨rfl, hsz, hP, hK, hD0, hm⟩ := hv
  have hx := B.exec
  have hb := B.bytes
  have hr := B.returns
  have ht : ∀ w ∈ WB, w.before _ s = true := fun w hw => atoms_spec (ws := wk_X4_findRules) B.pre w (List.mem_cons_of_mem _ hw)
  have hown : s.vm.findClass RX4 = some m.cls := findClass_of_methodNamed B.named
  have hlocks := B.notSynchronized
  subst hsz
  have hD := hD0.self (sz := s.heap.size)
  generalize hAe : va_A [(tx, .inr (4, [.ref txb, .ref txt, .int txn, .int txp, .int txg, .int txe])), (txb, .inl (k 0, 120, .inl txbf)), (txt, .inr (3, [.int 12, .int 11, .ref txtc, .int txts])), (txtc, .inl (k 0, 132, .inl txtf))] s.heap.size = A at hD hm ⊢
  have hA : ∀ q : Nat, s.heap.size ≤ q → A q := fun q h => by rw [← hAe]; exact Or.inr h
  have hS : va_S A s.heap s.heap [] := va_S.rf
  have hl := lv_entry ([.ref tx]) (n := 2) (Nat.le_of_ble_eq_true rfl)
  rw [lg_entry_eq]
  generalize (lg_sl ([.ref tx]) ++ List.replicate (2 - (lg_sl ([.ref tx])).length) Slot.unset).toArray = ls at hl ⊢
  have hl : lv_has ls 2 [(0, .ref tx)] := hl
  obtain ⟨H, hH⟩ : ∃ H, H = s.heap := ⟨_, rfl⟩
  rw [← hH] at hP
  have hS : va_S A s.heap H [] := by rw [hH]; exact hS
  suffices hgo : W p l e _ s m _ below meth c H [] 0 0 _ _ by rw [hH] at hgo; exact hgo
  unfold f_X4_findRules at h
  refine lv_aload_n hx hb dX4_findRules_0 rfl (lv_at hl 0 rfl) ?_
  refine va_get (D := D) (ci := 4) (v := .ref txt) (C := RX4) (T := TX4) (N := 6) hx hb ht hiX4 hown hK hP 0 rfl rfl 1 (by decide) (ht _ wb189) (fun _ h9 => h9) rfl dX4_findRules_1 ?_
  obtain ⟨r1, h1, h⟩ := zb h
  refine zv (zrV (C := RX3) (T := TX3) (N := 4) (As := []) (rest := []) ⟨hx, hb, hml, hown, ht⟩ (c_X3_empty l D k txt txtc 12 11 txts 132 txtf  h1 _) (cwV 0 ht (gdV wb621 wb622 wb623 wb74 wb624) rfl rfl rfl (by decide +kernel) ⟨Nat.le_of_ble_eq_true rfl, Nat.le_of_ble_eq_true rfl⟩) hK hP hD hS hA hm [2, 3] rfl rfl 2 3 rfl rfl rfl hl.1 rfl (Nat.le_of_ble_eq_true rfl) dX4_findRules_4 ⟨Nat.le_refl _, Nat.le_refl _⟩) hP hD hS hA [2, 3] rfl rfl (fun H locs hP hD hS => ?_)
  have hP : va_P D vwCl [(tx, .inr (4, [.ref txb, .ref txt, .int txn, .int txp, .int txg, .int txe])), (txb, .inl (k 0, 120, .inl txbf)), (txt, .inr (3, [.int 12, .int 11, .ref txtc, .int r1])), (txtc, .inl (k 0, 132, .inl txtf))] H := hP
  have hD : va_D A [(tx, .inr (4, [.ref txb, .ref txt, .int txn, .int txp, .int txg, .int txe])), (txb, .inl (k 0, 120, .inl txbf)), (txt, .inr (3, [.int 12, .int 11, .ref txtc, .int r1])), (txtc, .inl (k 0, 132, .inl txtf))] := hD
  refine lv_aload_n hx hb dX4_findRules_7 rfl (lv_at hl 0 rfl) ?_
  refine lv_iconst (v := 0) hx hb dX4_findRules_8 (by decide) ?_
  refine va_put (D := D) (ci := 4) (v := .int 0) (ty := .int) (C := RX4) (T := TX4) (N := 6) hx hb ht hiX4 tyX4 tyX4_ok nmX4 hown hK hP hD hS 0 rfl rfl 3 (by decide) (ht _ wb192) (fun _ h9 => h9) rfl (by decide +kernel) rfl rfl (Nat.le_of_ble_eq_true rfl) dX4_findRules_9 (fun H locs hP hD hS => ?_)
  have hP : va_P D vwCl [(tx, .inr (4, [.ref txb, .ref txt, .int txn, .int 0, .int txg, .int txe])), (txb, .inl (k 0, 120, .inl txbf)), (txt, .inr (3, [.int 12, .int 11, .ref txtc, .int r1])), (txtc, .inl (k 0, 132, .inl txtf))] H := hP
  have hD : va_D A [(tx, .inr (4, [.ref txb, .ref txt, .int txn, .int 0, .int txg, .int txe])), (txb, .inl (k 0, 120, .inl txbf)), (txt, .inr (3, [.int 12, .int 11, .ref txtc, .int r1])), (txtc, .inl (k 0, 132, .inl txtf))] := hD
  refine lv_aload_n hx hb dX4_findRules_12 rfl (lv_at hl 0 rfl) ?_
  refine lv_iconst (v := (-1)) hx hb dX4_findRules_13 (by decide) ?_
  refine va_put (D := D) (ci := 4) (v := .int (-1)) (ty := .int) (C := RX4) (T := TX4) (N := 6) hx hb ht hiX4 tyX4 tyX4_ok nmX4 hown hK hP hD hS 0 rfl rfl 5 (by decide) (ht _ wb194) (fun _ h9 => h9) rfl (by decide +kernel) rfl rfl (Nat.le_of_ble_eq_true rfl) dX4_findRules_14 (fun H locs hP hD hS => ?_)
  have hP : va_P D vwCl [(tx, .inr (4, [.ref txb, .ref txt, .int txn, .int 0, .int txg, .int (-1)])), (txb, .inl (k 0, 120, .inl txbf)), (txt, .inr (3, [.int 12, .int 11, .ref txtc, .int r1])), (txtc, .inl (k 0, 132, .inl txtf))] H := hP
  have hD : va_D A [(tx, .inr (4, [.ref txb, .ref txt, .int txn, .int 0, .int txg, .int (-1)])), (txb, .inl (k 0, 120, .inl txbf)), (txt, .inr (3, [.int 12, .int 11, .ref txtc, .int r1])), (txtc, .inl (k 0, 132, .inl txtf))] := hD
  refine lv_iconst (v := 0) hx hb dX4_findRules_17 (by decide) ?_
  refine lv_istore_n (lv' := [(1, .int 0), (0, .ref tx)]) hx hb dX4_findRules_18 rfl hl (by decide) rfl (fun ls hl => ?_)
  have loop19 : ∀ (txn : Int32) (txbf : Nat → Int32), ∀ (K : Int32 → Int32 → Int32 → Int32 → Int32 → (Nat → Int32) → Option (Int32 × Int32 × Int32 × Int32 × Int32 × (Nat → Int32))), (∀ (v1 : Int32) (txp : Int32) (txg : Int32) (txe : Int32) (txts : Int32) (txtf : Nat → Int32), K v1 txp txg txe txts txtf = some res → ∀ (H : Heap) (locs : List Loc), va_P D vwCl [(tx, .inr (4, [.ref txb, .ref txt, .int txn, .int txp, .int txg, .int txe])), (txb, .inl (k 0, 120, .inl txbf)), (txt, .inr (3, [.int 12, .int 11, .ref txtc, .int txts])), (txtc, .inl (k 0, 132, .inl txtf))] H → va_D A [(tx, .inr (4, [.ref txb, .ref txt, .int txn, .int txp, .int txg, .int txe])), (txb, .inl (k 0, 120, .inl txbf)), (txt, .inr (3, [.int 12, .int 11, .ref txtc, .int txts])), (txtc, .inl (k 0, 132, .inl txtf))] → va_S A s.heap H locs → ∀ ls : Array Slot, lv_has ls 2 [(0, .ref tx), (1, .int v1)] → W p l e (headSpec wk_X4_findRules rm_X4_findRules).room s m ([.ref tx] : List Value).toArray below meth c H locs 0 0 (MQ below (va_Qi (fun xq9 (_ : Unit) => xq9 = res.1) (fun _ tq9 => va_P D vwCl [(tx, .inr (4, [.ref txb, .ref txt, .int txn, .int res.2.1, .int res.2.2.1, .int res.2.2.2.1])), (txb, .inl (k 0, 120, .inl txbf)), (txt, .inr (3, [.int 12, .int 11, .ref txtc, .int res.2.2.2.2.1])), (txtc, .inl (k 0, 132, .inl res.2.2.2.2.2))] tq9.heap) A) ([.ref tx] : List Value).toArray s 0 0 A) (F0 m 77 ls [])) → ∀ (n : Nat) (v1 : Int32) (txp : Int32) (txg : Int32) (txe : Int32) (txts : Int32) (txtf : Nat → Int32), f_X4_findRules_L19 fu K txn txbf n v1 txp txg txe txts txtf = some res → ∀ (H : Heap) (locs : List Loc), va_P D vwCl [(tx, .inr (4, [.ref txb, .ref txt, .int txn, .int txp, .int txg, .int txe])), (txb, .inl (k 0, 120, .inl txbf)), (txt, .inr (3, [.int 12, .int 11, .ref txtc, .int txts])), (txtc, .inl (k 0, 132, .inl txtf))] H → va_D A [(tx, .inr (4, [.ref txb, .ref txt, .int txn, .int txp, .int txg, .int txe])), (txb, .inl (k 0, 120, .inl txbf)), (txt, .inr (3, [.int 12, .int 11, .ref txtc, .int txts])), (txtc, .inl (k 0, 132, .inl txtf))] → va_S A s.heap H locs → ∀ ls : Array Slot, lv_has ls 2 [(0, .ref tx), (1, .int v1)] → W p l e (headSpec wk_X4_findRules rm_X4_findRules).room s m ([.ref tx] : List Value).toArray below meth c H locs 0 0 (MQ below (va_Qi (fun xq9 (_ : Unit) => xq9 = res.1) (fun _ tq9 => va_P D vwCl [(tx, .inr (4, [.ref txb, .ref txt, .int txn, .int res.2.1, .int res.2.2.1, .int res.2.2.2.1])), (txb, .inl (k 0, 120, .inl txbf)), (txt, .inr (3, [.int 12, .int 11, .ref txtc, .int res.2.2.2.2.1])), (txtc, .inl (k 0, 132, .inl res.2.2.2.2.2))] tq9.heap) A) ([.ref tx] : List Value).toArray s 0 0 A) (F0 m 19 ls []) := by
    intro txn txbf K hKK n
    induction n with
    | zero =>
      intro v1 txp txg txe txts txtf h
      rw [f_X4_findRules_L19] at h
      cases h
    | succ n ih =>
      intro v1 txp txg txe txts txtf h H locs hP hD hS ls hl
      rw [f_X4_findRules_L19] at h
      refine lv_iload_n hx hb dX4_findRules_19 rfl (lv_at hl 1 rfl) ?_
      refine lv_bipush (v := 12) hx hb dX4_findRules_20 (by decide) ?_
      refine lv_icmp_gt (tgt := 77) hx hb dX4_findRules_22 (by decide) (fun c4 => ?_) (fun c4 => ?_)
      · have h := zt h c4
        exact hKK _ _ _ _ _ _ h _ _ hP hD hS _ (lv_sub hl [0, 1] rfl)
      · have h := zf h c4
        refine lv_aload_n hx hb dX4_findRules_25 rfl (lv_at hl 0 rfl) ?_
        refine va_get (D := D) (ci := 4) (v := .int txe) (C := RX4) (T := TX4) (N := 6) hx hb ht hiX4 hown hK hP 0 rfl rfl 5 (by decide) (ht _ wb194) (fun _ h9 => h9) rfl dX4_findRules_26 ?_
        refine lv_iconst (v := (-1)) hx hb dX4_findRules_29 (by decide) ?_
        refine lv_icmp_ne (tgt := 77) hx hb dX4_findRules_30 (by decide) (fun c3 => ?_) (fun c3 => ?_)
        · have h := zf h c3
          exact hKK _ _ _ _ _ _ h _ _ hP hD hS _ (lv_sub hl [0, 1] rfl)
        · have h := zt h c3
          refine lv_aload_n hx hb dX4_findRules_33 rfl (lv_at hl 0 rfl) ?_
          obtain ⟨r2, h2, h⟩ := zb h
          refine zv (zrV (C := RX4) (T := TX4) (N := 6) (As := []) (rest := []) ⟨hx, hb, hml, hown, ht⟩ (c_X4_skipBlanks l D k tx txb txt txn txp txg txe txbf  fu h2 _) (cwV 0 ht (gdV wb625 wb627 wb20 wb78 wb628) rfl rfl rfl (by decide +kernel) ⟨Nat.le_of_ble_eq_true rfl, Nat.le_of_ble_eq_true rfl⟩) hK hP hD hS hA hm [0, 1] rfl rfl 0 4 rfl rfl rfl hl.1 rfl (Nat.le_of_ble_eq_true rfl) dX4_findRules_34 ⟨Nat.le_refl _, Nat.le_refl _⟩) hP hD hS hA [0, 1] rfl rfl (fun H locs hP hD hS => ?_)
          have hP : va_P D vwCl [(tx, .inr (4, [.ref txb, .ref txt, .int txn, .int r2, .int txg, .int txe])), (txb, .inl (k 0, 120, .inl txbf)), (txt, .inr (3, [.int 12, .int 11, .ref txtc, .int txts])), (txtc, .inl (k 0, 132, .inl txtf))] H := hP
          have hD : va_D A [(tx, .inr (4, [.ref txb, .ref txt, .int txn, .int r2, .int txg, .int txe])), (txb, .inl (k 0, 120, .inl txbf)), (txt, .inr (3, [.int 12, .int 11, .ref txtc, .int txts])), (txtc, .inl (k 0, 132, .inl txtf))] := hD
          refine lv_aload_n hx hb dX4_findRules_37 rfl (lv_at hl 0 rfl) ?_
          refine va_get (D := D) (ci := 4) (v := .int r2) (C := RX4) (T := TX4) (N := 6) hx hb ht hiX4 hown hK hP 0 rfl rfl 3 (by decide) (ht _ wb192) (fun _ h9 => h9) rfl dX4_findRules_38 ?_
          refine lv_aload_n hx hb dX4_findRules_41 rfl (lv_at hl 0 rfl) ?_
          refine va_get (D := D) (ci := 4) (v := .int txn) (C := RX4) (T := TX4) (N := 6) hx hb ht hiX4 hown hK hP 0 rfl rfl 2 (by decide) (ht _ wb191) (fun _ h9 => h9) rfl dX4_findRules_42 ?_
          refine lv_icmp_lt (tgt := 50) hx hb dX4_findRules_45 (by decide) (fun c2 => ?_) (fun c2 => ?_)
          · have h := zt h c2
            refine lv_iload_n hx hb dX4_findRules_50 rfl (lv_at hl 1 rfl) ?_
            refine lv_bipush (v := 12) hx hb dX4_findRules_51 (by decide) ?_
            refine lv_icmp_ne (tgt := 67) hx hb dX4_findRules_53 (by decide) (fun c1 => ?_) (fun c1 => ?_)
            · have h := zf h c1
              refine lv_aload_n hx hb dX4_findRules_67 rfl (lv_at hl 0 rfl) ?_
              obtain ⟨r3, h3, h⟩ := zb h
              refine zv (zrV (C := RX4) (T := TX4) (N := 6) (As := []) (rest := []) ⟨hx, hb, hml, hown, ht⟩ (c_X4_readRule l D k tx txb txt txtc txn r2 txg txe txbf txts txtf  fu h3 _) (cwV 0 ht (gdV wb633 wb635 wb22 wb78 wb636) rfl rfl rfl (by decide +kernel) ⟨Nat.le_of_ble_eq_true rfl, Nat.le_of_ble_eq_true rfl⟩) hK hP hD hS hA hm [0, 1, 2, 3] rfl rfl 0 4 rfl rfl rfl hl.1 rfl (Nat.le_of_ble_eq_true rfl) dX4_findRules_68 ⟨Nat.le_refl _, Nat.le_refl _⟩) hP hD hS hA [0, 1, 2, 3] rfl rfl (fun H locs hP hD hS => ?_)
              have hP : va_P D vwCl [(tx, .inr (4, [.ref txb, .ref txt, .int txn, .int r3.1, .int r3.2.1, .int r3.2.2.1])), (txb, .inl (k 0, 120, .inl txbf)), (txt, .inr (3, [.int 12, .int 11, .ref txtc, .int r3.2.2.2.1])), (txtc, .inl (k 0, 132, .inl r3.2.2.2.2))] H := hP
              have hD : va_D A [(tx, .inr (4, [.ref txb, .ref txt, .int txn, .int r3.1, .int r3.2.1, .int r3.2.2.1])), (txb, .inl (k 0, 120, .inl txbf)), (txt, .inr (3, [.int 12, .int 11, .ref txtc, .int r3.2.2.2.1])), (txtc, .inl (k 0, 132, .inl r3.2.2.2.2))] := hD
              refine lv_iinc (v := v1 + 1) (lv' := [(1, .int (v1 + 1)), (0, .ref tx)]) hx hb dX4_findRules_71 hl (k := 1) rfl rfl (by decide) rfl (fun ls hl => ?_)
              refine lv_goto (tgt := 19) hx hb dX4_findRules_74 (by decide) ?_
              exact ih _ _ _ _ _ _ h _ _ hP hD hS _ (lv_sub hl [1, 0] rfl)
            · have h := zt h c1
              refine lv_aload_n hx hb dX4_findRules_56 rfl (lv_at hl 0 rfl) ?_
              refine lv_aload_n hx hb dX4_findRules_57 rfl (lv_at hl 0 rfl) ?_
              refine va_get (D := D) (ci := 4) (v := .int r2) (C := RX4) (T := TX4) (N := 6) hx hb ht hiX4 hown hK hP 0 rfl rfl 3 (by decide) (ht _ wb192) (fun _ h9 => h9) rfl dX4_findRules_58 ?_
              refine va_put (D := D) (ci := 4) (v := .int r2) (ty := .int) (C := RX4) (T := TX4) (N := 6) hx hb ht hiX4 tyX4 tyX4_ok nmX4 hown hK hP hD hS 0 rfl rfl 5 (by decide) (ht _ wb194) (fun _ h9 => h9) rfl (by decide +kernel) rfl rfl (Nat.le_of_ble_eq_true rfl) dX4_findRules_61 (fun H locs hP hD hS => ?_)
              have hP : va_P D vwCl [(tx, .inr (4, [.ref txb, .ref txt, .int txn, .int r2, .int txg, .int r2])), (txb, .inl (k 0, 120, .inl txbf)), (txt, .inr (3, [.int 12, .int 11, .ref txtc, .int txts])), (txtc, .inl (k 0, 132, .inl txtf))] H := hP
              have hD : va_D A [(tx, .inr (4, [.ref txb, .ref txt, .int txn, .int r2, .int txg, .int r2])), (txb, .inl (k 0, 120, .inl txbf)), (txt, .inr (3, [.int 12, .int 11, .ref txtc, .int txts])), (txtc, .inl (k 0, 132, .inl txtf))] := hD
              refine lv_goto (tgt := 71) hx hb dX4_findRules_64 (by decide) ?_
              refine lv_iinc (v := v1 + 1) (lv' := [(1, .int (v1 + 1)), (0, .ref tx)]) hx hb dX4_findRules_71 hl (k := 1) rfl rfl (by decide) rfl (fun ls hl => ?_)
              refine lv_goto (tgt := 19) hx hb dX4_findRules_74 (by decide) ?_
              exact ih _ _ _ _ _ _ h _ _ hP hD hS _ (lv_sub hl [1, 0] rfl)
          · have h := zf h c2
            refine lv_iconst (v := (-1)) hx hb dX4_findRules_48 (by decide) ?_
            obtain rfl := Option.some.inj h
            exact W.iret (v := (-1)) hx hb hr (fun t ht9 hW => ⟨⟨_, (), rfl, rfl, zend ht9 hP⟩, hS.F ht9⟩) hS.2.2 dX4_findRules_49
  refine loop19 _ _ _ ?_ fu _ _ _ _ _ _ h _ _ hP hD hS _ (lv_sub hl [1, 0] rfl)
  intro x1 x2 x3 x4 x5 x6 h H locs hP hD hS ls hl
  try dsimp only at h
  have hP : va_P D vwCl [(tx, .inr (4, [.ref txb, .ref txt, .int txn, .int x2, .int x3, .int x4])), (txb, .inl (k 0, 120, .inl txbf)), (txt, .inr (3, [.int 12, .int 11, .ref txtc, .int x5])), (txtc, .inl (k 0, 132, .inl x6))] H := hP
  have hD : va_D A [(tx, .inr (4, [.ref txb, .ref txt, .int txn, .int x2, .int x3, .int x4])), (txb, .inl (k 0, 120, .inl txbf)), (txt, .inr (3, [.int 12, .int 11, .ref txtc, .int x5])), (txtc, .inl (k 0, 132, .inl x6))] := hD
  have hl : lv_has ls 2 [(0, .ref tx), (1, .int x1)] := hl
  refine lv_aload_n hx hb dX4_findRules_77 rfl (lv_at hl 0 rfl) ?_
  refine va_get (D := D) (ci := 4) (v := .int x4) (C := RX4) (T := TX4) (N := 6) hx hb ht hiX4 hown hK hP 0 rfl rfl 5 (by decide) (ht _ wb194) (fun _ h9 => h9) rfl dX4_findRules_78 ?_
  obtain rfl := Option.some.inj h
  exact W.iret (v := x4) hx hb hr (fun t ht9 hW => ⟨⟨_, (), rfl, rfl, zend ht9 hP⟩, hS.F ht9⟩) hS.2.2 dX4_findRules_81
def f_X0_at (rg : Nat → Nat) (a1 : Int32) : Option (Nat) :=
  (f_X5_within  a1 0 4).bind fun r1 => if (zB r1) = 0 then (none) else (if zok a1 5 then (some (rg (Int32.toNatClampNeg a1))) else none)
abbrev wk_X0_at : List Cond := Cond.code yX0_at cX0_at 2 (some (.object "ZoneGuard$State")) :: WB
abbrev rm_X0_at : Room := { frames := 1, cells := 0, slots := 0, locals := 22 }
set_option maxHeartbeats 4000000 in
set_option maxRecDepth 100000 in
theorem c_X0_at (l : Launch) (D : va_G) (k : Nat → Nat) (yh yhr : Nat) (yhs : Int32) (yhn : Int32) (rg : Nat → Nat) (a1 : Int32) {res : Nat} (h : f_X0_at rg a1 = some res) : Cr l yX0_at wk_X0_at rm_X0_at D k [.ref yh, .int a1] [(yh, .inr (0, [.ref yhr, .int yhs, .int yhn])), (yhr, .inl (k 1, 5, .inr (.inr (.inr (.inr (fun j => some (rg j)))))))] [(yh, .inr (0, [.ref yhr, .int yhs, .int yhn])), (yhr, .inl (k 1, 5, .inr (.inr (.inr (.inr (fun j => some (rg j)))))))] res := by
  unfold Cr
  intro sz
  refine Met.ofW (cc := cX0_at) (maxL := 2) (ret := (some (.object "ZoneGuard$State"))) (by decide) rfl ?_
  intro p e s m args below meth c s₁ B hml hv
  obtain ⟨rfl, hsz, hP, hK, hD0, hm⟩ := hv
  have hx := B.exec
  have hb := B.bytes
  have hr := B.returns
  have ht : ∀ w ∈ WB, w.before _ s = true := fun w hw => atoms_spec (ws := wk_X0_at) B.pre w (List.mem_cons_of_mem _ hw)
  have hown : s.vm.findClass RX0 = some m.cls := findClass_of_methodNamed B.named
  have hlocks := B.notSynchronized
  subst hsz
  have hD := hD0.self (sz := s.heap.size)
  generalize hAe : va_A [(yh, .inr (0, [.ref yhr, .int yhs, .int yhn])), (yhr, .inl (k 1, 5, .inr (.inr (.inr (.inr (fun j => some (rg j)))))))] s.heap.size = A at hD hm ⊢
  have hA : ∀ q : Nat, s.heap.size ≤ q → A q := fun q h => by rw [← hAe]; exact Or.inr h
  have hS : va_S A s.heap s.heap [] := va_S.rf
  have hl := lv_entry ([.ref yh, .int a1]) (n := 2) (Nat.le_of_ble_eq_true rfl)
  rw [lg_entry_eq]
  generalize (lg_sl ([.ref yh, .int a1]) ++ List.replicate (2 - (lg_sl ([.ref yh, .int a1])).length) Slot.unset).toArray = ls at hl ⊢
  have hl : lv_has ls 2 [(0, .ref yh), (1, .int a1)] := hl
  obtain ⟨H, hH⟩ : ∃ H, H = s.heap := ⟨_, rfl⟩
  rw [← hH] at hP
  have hS : va_S A s.heap H [] := by rw [hH]; exact hS
  suffices hgo : W p l e _ s m _ below meth c H [] 0 0 _ _ by rw [hH] at hgo; exact hgo
  unfold f_X0_at at h
  refine lv_iload_n hx hb dX0_at_0 rfl (lv_at hl 1 rfl) ?_
  refine lv_iconst (v := 0) hx hb dX0_at_1 (by decide) ?_
  refine lv_iconst (v := 4) hx hb dX0_at_2 (by decide) ?_
  obtain ⟨r1, h1, h⟩ := zb h
  refine zi (zrN (As := [.int a1, .int 0, .int 4]) (rest := []) ⟨hx, hb, hml, hown, ht⟩ (c_X5_within l D k   a1 0 4 h1 _) ⟨va_cnB 3 ht (gdN wb270) rfl rfl rfl (hm.1 _ (List.mem_of_getElem? (i := 12) rfl)) (ht _ wb72) (by decide +kernel) ⟨Nat.le_of_ble_eq_true rfl, Nat.le_of_ble_eq_true rfl⟩, ht _ wb269, trivial⟩ hK hP hD hS hA hm [] rfl rfl rfl hl.1 rfl (Nat.le_of_ble_eq_true rfl) dX0_at_3 ⟨Nat.le_refl _, Nat.le_refl _⟩) hP hD hS hA [] rfl rfl (fun H locs hP hD hS => ?_)
  have hP : va_P D vwCl [(yh, .inr (0, [.ref yhr, .int yhs, .int yhn])), (yhr, .inl (k 1, 5, .inr (.inr (.inr (.inr (fun j => some (rg j)))))))] H := hP
  have hD : va_D A [(yh, .inr (0, [.ref yhr, .int yhs, .int yhn])), (yhr, .inl (k 1, 5, .inr (.inr (.inr (.inr (fun j => some (rg j)))))))] := hD
  refine lv_if_eq (tgt := 18) hx hb dX0_at_6 (by decide) (fun c1 => ?_) (fun c1 => ?_)
  · have h := zt h c1
    cases h
  · have h := zf h c1
    refine lv_aload_n hx hb dX0_at_9 rfl (lv_at hl 0 rfl) ?_
    refine va_get (D := D) (ci := 0) (v := .ref yhr) (C := RX0) (T := TX0) (N := 3) hx hb ht hiX0 hown hK hP 0 rfl rfl 0 (by decide) (ht _ wb170) (fun _ h9 => h9) rfl dX0_at_10 ?_
    refine lv_iload_n hx hb dX0_at_13 rfl (lv_at hl 1 rfl) ?_
    obtain ⟨hi1, h⟩ := zg h
    refine va_aldq hx hb hK hP 1 1 rfl rfl hi1 dX0_at_14 ?_
    refine lv_goto (tgt := 19) hx hb dX0_at_15 (by decide) ?_
    obtain rfl := Option.some.inj h
    exact W.aret (v := .ref (rg (Int32.toNatClampNeg a1))) hx hb hr (Or.inl ⟨_, rfl⟩) (Or.inr ⟨_, rfl⟩) (fun t ht9 hW => ⟨⟨(), _, rfl, trivial, rfl, zend ht9 hP⟩, hS.F ht9⟩) hS.2.2 dX0_at_19
