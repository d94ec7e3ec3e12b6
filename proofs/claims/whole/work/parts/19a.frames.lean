/-! worlds by membership: parts at an end of a world, and worlds in another order -/
theorem P_mem {D : va_G} {cl : List vw_C} {ws : va_W} {H : Heap} : va_P D cl ws H ↔ ∀ q ∈ ws, va_at D cl q H := by
  constructor
  · intro h q hq
    obtain ⟨i, hi⟩ := List.getElem?_of_mem hq
    exact h i q hi
  · intro h k q hk
    exact h q (List.mem_of_getElem? hk)
theorem A_mem {ws : va_W} {sz q : Nat} : va_A ws sz q ↔ (∃ e, (q, e) ∈ ws) ∨ sz ≤ q := by
  constructor
  · rintro (⟨k, e, h⟩ | h)
    · exact Or.inl ⟨e, List.mem_of_getElem? h⟩
    · exact Or.inr h
  · rintro (⟨e, h⟩ | h)
    · obtain ⟨i, hi⟩ := List.getElem?_of_mem h
      exact Or.inl ⟨i, e, hi⟩
    · exact Or.inr h
theorem D_nd {A : Nat → Prop} {ws : va_W} : va_D A ws ↔ (ws.map Prod.fst).Nodup ∧ ∀ q ∈ ws, A q.1 := by
  constructor
  · intro h
    refine ⟨List.pairwise_iff_getElem.mpr (fun i j hi hj hij he => ?_), fun q hq => ?_⟩
    · rw [List.length_map] at hi hj
      rw [List.getElem_map, List.getElem_map] at he
      have := h.1 i j _ _ (List.getElem?_eq_getElem hi) (List.getElem?_eq_getElem hj) he
      omega
    · obtain ⟨i, hi⟩ := List.getElem?_of_mem hq
      exact h.2 i q hi
  · rintro ⟨h1, h2⟩
    refine ⟨fun i j x y hi hj hxy => ?_, fun k q hk => h2 q (List.mem_of_getElem? hk)⟩
    have h1 := List.pairwise_iff_getElem.mp h1
    obtain ⟨li, ei⟩ := List.getElem?_eq_some_iff.mp hi
    obtain ⟨lj, ej⟩ := List.getElem?_eq_some_iff.mp hj
    rcases Nat.lt_trichotomy i j with q | q | q
    · exact absurd (by rw [List.getElem_map, List.getElem_map, ei, ej]; exact hxy) (h1 i j (by rw [List.length_map]; exact li) (by rw [List.length_map]; exact lj) q)
    · exact q
    · exact absurd (by rw [List.getElem_map, List.getElem_map, ei, ej]; exact hxy.symm) (h1 j i (by rw [List.length_map]; exact lj) (by rw [List.length_map]; exact li) q)
theorem P_app {D : va_G} {cl : List vw_C} {a b : va_W} {H : Heap} : va_P D cl (a ++ b) H ↔ va_P D cl a H ∧ va_P D cl b H := by
  rw [P_mem, P_mem, P_mem]
  constructor
  · intro h
    exact ⟨fun q hq => h q (List.mem_append_left _ hq), fun q hq => h q (List.mem_append_right _ hq)⟩
  · rintro ⟨h1, h2⟩ q hq
    exact (List.mem_append.mp hq).elim (h1 q) (h2 q)
theorem P_perm {D : va_G} {cl : List vw_C} {a b : va_W} {H : Heap} (hp : a.Perm b) (h : va_P D cl a H) : va_P D cl b H := P_mem.mpr fun q hq => P_mem.mp h q (hp.mem_iff.mpr hq)
theorem D_perm {A : Nat → Prop} {a b : va_W} (hp : a.Perm b) (h : va_D A a) : va_D A b := by
  rw [D_nd] at h ⊢
  exact ⟨(hp.map Prod.fst).nodup_iff.mp h.1, fun q hq => h.2 q (hp.mem_iff.mpr hq)⟩
theorem A_perm {a b : va_W} (hp : a.Perm b) {sz q : Nat} (h : va_A a sz q) : va_A b sz q := by
  rw [A_mem] at h ⊢
  rcases h with ⟨e, h⟩ | h
  · exact Or.inl ⟨e, hp.mem_iff.mp h⟩
  · exact Or.inr h
theorem D_app {A : Nat → Prop} {a b : va_W} (h : va_D A (a ++ b)) : va_D A a ∧ va_D A b ∧ ∀ p ∈ a, ∀ q ∈ b, p.1 ≠ q.1 := by
  rw [D_nd] at h
  obtain ⟨h1, h2⟩ := h
  rw [List.map_append, List.nodup_append] at h1
  refine ⟨D_nd.mpr ⟨h1.1, fun q hq => h2 q (List.mem_append_left _ hq)⟩, D_nd.mpr ⟨h1.2.1, fun q hq => h2 q (List.mem_append_right _ hq)⟩, fun p hp q hq => ?_⟩
  exact h1.2.2 p.1 (List.mem_map_of_mem hp) q.1 (List.mem_map_of_mem hq)
theorem A_sub {A : Nat → Prop} {ws : va_W} {sz : Nat} (hD : va_D A ws) (hA : ∀ q, sz ≤ q → A q) {q : Nat} (h : va_A ws sz q) : A q := by
  rw [A_mem] at h
  rcases h with ⟨e, h⟩ | h
  · exact (D_nd.mp hD).2 (q, e) h
  · exact hA q h
/-- behind a call whose world is the end of the caller's -/
theorem zJoinE {A0 : Nat → Prop} {D : va_G} {cl : List vw_C} {pre wc wc' : va_W} {H H1 : Heap} (hP : va_P D cl (pre ++ wc) H) (hD : va_D A0 (pre ++ wc)) (hf : wc'.map Prod.fst = wc.map Prod.fst)
    (hk : ∀ q : Nat, q < H.size → ¬ va_A wc H.size q → H1[q]? = H[q]?) (hP1 : va_P D cl wc' H1) : va_P D cl (pre ++ wc') H1 ∧ va_D A0 (pre ++ wc') := by
  obtain ⟨p1, p2⟩ := P_app.mp hP
  obtain ⟨d1, d2, d3⟩ := D_app hD
  refine ⟨P_app.mpr ⟨P_mem.mpr fun q hq => ?_, hP1⟩, zD_of hD (fun k q hq => ?_)⟩
  · have h := P_mem.mp p1 q hq
    refine h.kept (hk q.1 h.lt (fun hA => ?_))
    rcases A_mem.mp hA with ⟨e, he⟩ | he
    · exact d3 q hq _ he rfl
    · exact absurd h.lt (by omega)
  · exact zFstAt (w := pre ++ wc) (w' := pre ++ wc') (by rw [List.map_append, List.map_append, hf]) hq
section ZE
variable {p : Program} {l : Launch} {e : Env} {R : Room} {s : State} {m : MethodId} {args : Array Value} {below : List Frame} {meth : Method} {c : Code} {H : Heap} {locs : List Loc} {cells slots : Nat} {Q : State → Prop}
variable {y : MethodName} {bytes cc : ByteArray} {maxL nL n index : Nat} {ret : Option FieldType} {wy Ts : List Cond} {rm : Room} {own C : String} {b : Nat} {As rest st0 : List Value} {pc : Nat} {ls : Array Slot}
variable {D : va_G} {k : Nat → Nat} {A : Nat → Prop} {pre wc wc' : va_W}
theorem zvE {a : Array Value} (hr : va_Run p l e R s m args below meth c H locs cells slots 0 0 (F0 m pc ls st0) rest (va_Qv (fun (_ : Unit) => True) (fun _ t => va_P D vwCl wc' t.heap) (va_A wc H.size) a) (va_A wc H.size)) (hP : va_P D vwCl (pre ++ wc) H) (hD : va_D A (pre ++ wc)) (hS : va_S A s.heap H locs) (hA : ∀ q, s.heap.size ≤ q → A q) (hf : wc'.map Prod.fst = wc.map Prod.fst)
    (kk : ∀ (H1 : Heap) (locs1 : List Loc), va_P D vwCl (pre ++ wc') H1 → va_D A (pre ++ wc') → va_S A s.heap H1 locs1 → W p l e R s m args below meth c H1 locs1 cells slots Q (F0 m (pc + 3) ls rest)) : W p l e R s m args below meth c H locs cells slots Q (F0 m pc ls st0) := by
  have hF : ∀ q, va_A wc H.size q → A q := fun q h => A_sub (D_app hD).2.1 (fun q hq => hA q (Nat.le_trans hS.1 hq)) h
  refine va_callv hr hS (fun q _ h => hF q h) hF (fun u t H1 locs1 ht hvm hx hB hz hk hS1 => ?_)
  rw [ht] at hB
  obtain ⟨g1, g2⟩ := zJoinE hP hD hf hk hB
  exact kk H1 locs1 g1 g2 hS1
variable {Qc : Array Value → State → Outcome → State → Prop}
theorem zPreE {U : State} (hP : va_P D vwCl (pre ++ wc) H) (hD : va_D A (pre ++ wc)) (hK : va_K D vwCl (tyA k) s) (hS : va_S A s.heap H locs) (hA : ∀ q, s.heap.size ≤ q → A q) (hm : amb k A s s.heap) (hU : U.heap = H) (hW : s.WarmedH U.vm) : cP D k wc H.size U := by
  refine ⟨by rw [hU], by rw [hU]; exact (P_app.mp hP).2, va_K.moved hW.alike hK, (D_app hD).2.1.weaken (fun _ _ _ _ => trivial), ?_⟩
  rw [hU]
  exact ((hm.kept hS.2.1).narrow (fun q h => A_sub (D_app hD).2.1 (fun q hq => hA q (Nat.le_trans hS.1 hq)) h)).warm hW
theorem zrVE (S : CallFix p m c cc nL s args Ts own) (hM : Met l y wy rm (va_Pc (.ref b :: As) (cP D k wc H.size)) Qc 0 0 (va_A wc H.size)) (cw : CallW R s args own C index y bytes maxL ret wy rm 0 0 n) (hK : va_K D vwCl (tyA k) s) (hP : va_P D vwCl (pre ++ wc) H) (hD : va_D A (pre ++ wc)) (hS : va_S A s.heap H locs) (hA : ∀ q, s.heap.size ≤ q → A q) (hm : amb k A s s.heap)
    (q0 ci : Nat) {T : u_T} {N : Nat} {fs : List Value} (hc : vwCl[ci]? = some (C, T, N)) (he : (pre ++ wc)[q0]? = some (b, .inr (ci, fs))) (hn : As.length = n) (hsize : ls.size = nL) (hstack : st0 = As.reverse ++ .ref b :: rest) (hW : (rest.map fun v => v.category).sum ≤ 8) (hdg : decode cc pc = .ok (.invokevirtual index, 3)) (hcs : cells ≤ R.cells ∧ slots ≤ R.slots) :
    va_Run p l e R s m args below meth c H locs cells slots 0 0 (F0 m pc ls st0) rest (Qc (Value.ref b :: As).toArray) (va_A wc H.size) :=
  va_runV (As := As) (rest := rest) (g := F0 m pc ls st0) S hM cw ⟨cP.blind, va_recv hK hP hc he, fun U hU hWm => ⟨rfl, zPreE hP hD hK hS hA hm hU hWm⟩⟩ rfl hn hsize hstack (lv_room (rest := st0) hW) hdg hcs
end ZE
/-- a contract over more cells, and over cells in another order -/
theorem Cv_more {l : Launch} {y : MethodName} {wy : List Cond} {rm : Room} {D : va_G} {k : Nat → Nat} {av : List Value} {wc wc' wr : va_W} (h : Cv l y wy rm D k av wc wc') (hf : wc'.map Prod.fst = wc.map Prod.fst) : Cv l y wy rm D k av (wr ++ wc) (wr ++ wc') := by
  intro sz p e ha hc hk s m args below hfr happ hpre hK
  obtain ⟨rfl, hsz, hP, hKk, hD, hm⟩ := hpre
  subst hsz
  have hsub : ∀ q, va_A wc s.heap.size q → va_A (wr ++ wc) s.heap.size q := by
    intro q hq
    rw [A_mem] at hq ⊢
    rcases hq with ⟨e2, hh⟩ | hh
    · exact Or.inl ⟨e2, List.mem_append_right _ hh⟩
    · exact Or.inr hh
  obtain ⟨n, oc, h1, h2, h3, hQ⟩ := h s.heap.size p e ha hc hk s m _ below hfr happ ⟨rfl, rfl, (P_app.mp hP).2, hKk, (D_app hD).2.1, hm.narrow hsub⟩ hK
  refine ⟨n, oc, h1, h2, h3, ?_⟩
  obtain ⟨⟨⟨u, ho, _, hB⟩, hF⟩, L, hFE, hL⟩ := hQ
  obtain ⟨g1, g2⟩ := zJoinE hP hD hf hF.2 hB
  exact ⟨⟨⟨(), ho, trivial, g1⟩, ⟨hF.1, fun q h1 h2 => hF.2 q h1 (fun z => h2 (hsub q z))⟩⟩, L, hFE, fun q hq => hsub _ (hL q hq)⟩
theorem Cv_perm {l : Launch} {y : MethodName} {wy : List Cond} {rm : Room} {D : va_G} {k : Nat → Nat} {av : List Value} {wc wc' ws ws' : va_W} (h : Cv l y wy rm D k av wc wc') (hp : ws.Perm wc) (hp' : wc'.Perm ws') : Cv l y wy rm D k av ws ws' := by
  intro sz p e ha hc hk s m args below hfr happ hpre hK
  obtain ⟨rfl, hsz, hP, hKk, hD, hm⟩ := hpre
  have hsub : ∀ q, va_A wc sz q → va_A ws sz q := fun q h => A_perm hp.symm h
  obtain ⟨n, oc, h1, h2, h3, hQ⟩ := h sz p e ha hc hk s m _ below hfr happ ⟨rfl, hsz, P_perm hp hP, hKk, D_perm hp hD, hm.narrow hsub⟩ hK
  refine ⟨n, oc, h1, h2, h3, ?_⟩
  obtain ⟨⟨⟨u, ho, _, hB⟩, hF⟩, L, hFE, hL⟩ := hQ
  exact ⟨⟨⟨(), ho, trivial, P_perm hp' hB⟩, ⟨hF.1, fun q h1 h2 => hF.2 q h1 (fun z => h2 (hsub q z))⟩⟩, L, hFE, fun q hq => hsub _ (hL q hq)⟩
