theorem Ci_frame {l : Launch} {y : MethodName} {wy : List Cond} {rm : Room} {D : va_G} {k : Nat → Nat} {av : List Value} {wc wc' ws : va_W} {r : Int32} (h : Ci l y wy rm D k av wc wc' r) (isC : List Nat) (hnd : va_nd isC = true) (hC : isC.map (fun i => ws[i]?) = wc.map some) (hf : wc'.map Prod.fst = wc.map Prod.fst) : Ci l y wy rm D k av ws (zUp ws isC wc') r := by
  intro sz p e ha hc hk s m args below hfr happ hpre hK
  obtain ⟨rfl, hsz, hP, hKk, hD, hm⟩ := hpre
  subst hsz
  have hsub : ∀ q, va_A wc s.heap.size q → va_A ws s.heap.size q := by
    intro q hq
    rcases hq with ⟨k2, e2, hh⟩ | hh
    · obtain ⟨i, _, hi⟩ := zMapAt hC hh
      exact Or.inl ⟨i, e2, hi⟩
    · exact Or.inr hh
  obtain ⟨n, oc, h1, h2, h3, hQ⟩ := h s.heap.size p e ha hc hk s m _ below hfr happ ⟨rfl, rfl, zPc hP hC, hKk, hD.sub isC hnd hC, hm.narrow hsub⟩ hK
  refine ⟨n, oc, h1, h2, h3, ?_⟩
  obtain ⟨⟨⟨x, u, ho, hx, hB⟩, hF⟩, L, hFE, hL⟩ := hQ
  obtain ⟨g1, g2⟩ := zJoin hP hD isC hC hf hF.2 hB
  exact ⟨⟨⟨x, (), ho, hx, g1⟩, ⟨hF.1, fun q h1 h2 => hF.2 q h1 (fun z => h2 (hsub q z))⟩⟩, L, hFE, fun q hq => hsub _ (hL q hq)⟩
theorem Ci_to {l : Launch} {y : MethodName} {wy : List Cond} {rm : Room} {D : va_G} {k : Nat → Nat} {av : List Value} {ws w0 w1 w2 : va_W} {r : Int32} (h : Ci l y wy rm D k av w0 w1 r) (e0 : w0 = ws) (e : w1 = w2) : Ci l y wy rm D k av ws w2 r := e0 ▸ e ▸ h
theorem Cl_frame {l : Launch} {y : MethodName} {wy : List Cond} {rm : Room} {D : va_G} {k : Nat → Nat} {av : List Value} {wc wc' ws : va_W} {r : Int64} (h : Cl l y wy rm D k av wc wc' r) (isC : List Nat) (hnd : va_nd isC = true) (hC : isC.map (fun i => ws[i]?) = wc.map some) (hf : wc'.map Prod.fst = wc.map Prod.fst) : Cl l y wy rm D k av ws (zUp ws isC wc') r := by
  intro sz p e ha hc hk s m args below hfr happ hpre hK
  obtain ⟨rfl, hsz, hP, hKk, hD, hm⟩ := hpre
  subst hsz
  have hsub : ∀ q, va_A wc s.heap.size q → va_A ws s.heap.size q := by
    intro q hq
    rcases hq with ⟨k2, e2, hh⟩ | hh
    · obtain ⟨i, _, hi⟩ := zMapAt hC hh
      exact Or.inl ⟨i, e2, hi⟩
    · exact Or.inr hh
  obtain ⟨n, oc, h1, h2, h3, hQ⟩ := h s.heap.size p e ha hc hk s m _ below hfr happ ⟨rfl, rfl, zPc hP hC, hKk, hD.sub isC hnd hC, hm.narrow hsub⟩ hK
  refine ⟨n, oc, h1, h2, h3, ?_⟩
  obtain ⟨⟨⟨x, u, ho, hx, hB⟩, hF⟩, L, hFE, hL⟩ := hQ
  obtain ⟨g1, g2⟩ := zJoin hP hD isC hC hf hF.2 hB
  exact ⟨⟨⟨x, (), ho, hx, g1⟩, ⟨hF.1, fun q h1 h2 => hF.2 q h1 (fun z => h2 (hsub q z))⟩⟩, L, hFE, fun q hq => hsub _ (hL q hq)⟩
theorem Cl_to {l : Launch} {y : MethodName} {wy : List Cond} {rm : Room} {D : va_G} {k : Nat → Nat} {av : List Value} {ws w0 w1 w2 : va_W} {r : Int64} (h : Cl l y wy rm D k av w0 w1 r) (e0 : w0 = ws) (e : w1 = w2) : Cl l y wy rm D k av ws w2 r := e0 ▸ e ▸ h
theorem Ci_more {l : Launch} {y : MethodName} {wy : List Cond} {rm : Room} {D : va_G} {k : Nat → Nat} {av : List Value} {wc wc' wr : va_W} {r : Int32} (h : Ci l y wy rm D k av wc wc' r) (hf : wc'.map Prod.fst = wc.map Prod.fst) : Ci l y wy rm D k av (wr ++ wc) (wr ++ wc') r := by
  intro sz p e ha hc hk s m args below hfr happ hpre hK
  obtain ⟨rfl, hsz, hP, hKk, hD, hm⟩ := hpre
  subst hsz
  have hsub : ∀ q, va_A wc s.heap.size q → va_A (wr ++ wc) s.heap.size q := by
    intro q hq
    rw [A_mem] at hq ⊢
    rcases hq with ⟨e2, hh⟩ | hh
    · exact Or.inl ⟨e2, List.mem_append_right _ hh⟩
    · exact Or.inr hh
  obtain ⟨n, oc, h1, h2, h3, hQ⟩ := h s.heap.size p e ha hc hk s m _ below hfr happ ⟨rfl, rfl, (P_app.mp hP).2, hKk, (D_app hD).2.1, hm.narrow hsub⟩ hK
  refine ⟨n, oc, h1, h2, h3, ?_⟩
  obtain ⟨⟨⟨x, u, ho, hx, hB⟩, hF⟩, L, hFE, hL⟩ := hQ
  obtain ⟨g1, g2⟩ := zJoinE hP hD hf hF.2 hB
  exact ⟨⟨⟨x, (), ho, hx, g1⟩, ⟨hF.1, fun q h1 h2 => hF.2 q h1 (fun z => h2 (hsub q z))⟩⟩, L, hFE, fun q hq => hsub _ (hL q hq)⟩
theorem Ci_perm {l : Launch} {y : MethodName} {wy : List Cond} {rm : Room} {D : va_G} {k : Nat → Nat} {av : List Value} {wc wc' ws ws' : va_W} {r : Int32} (h : Ci l y wy rm D k av wc wc' r) (hp : ws.Perm wc) (hp' : wc'.Perm ws') : Ci l y wy rm D k av ws ws' r := by
  intro sz p e ha hc hk s m args below hfr happ hpre hK
  obtain ⟨rfl, hsz, hP, hKk, hD, hm⟩ := hpre
  have hsub : ∀ q, va_A wc sz q → va_A ws sz q := fun q h => A_perm hp.symm h
  obtain ⟨n, oc, h1, h2, h3, hQ⟩ := h sz p e ha hc hk s m _ below hfr happ ⟨rfl, hsz, P_perm hp hP, hKk, D_perm hp hD, hm.narrow hsub⟩ hK
  refine ⟨n, oc, h1, h2, h3, ?_⟩
  obtain ⟨⟨⟨x, u, ho, hx, hB⟩, hF⟩, L, hFE, hL⟩ := hQ
  exact ⟨⟨⟨x, (), ho, hx, P_perm hp' hB⟩, ⟨hF.1, fun q h1 h2 => hF.2 q h1 (fun z => h2 (hsub q z))⟩⟩, L, hFE, fun q hq => hsub _ (hL q hq)⟩
/-- the whole world: the reference, two pictures, the text, the object, its history, its state, the ring -/
def WW (k ad : Nat → Nat) (g : Nat → Nat → Nat) (states bytes reading at_ wrongAt number gpsz gpsn gpal gpre gqsz gqsn gqal gqre txn txp txg txe txts b0 b1 b2 yhs yhn estm esrs esks esfs esas : Int32) (hh : Int64) (now past refused held fitting text rread gpfa gpfb gpfc gpfd gqfa gqfb gqfc gqfd txbf txtf eszo esrf eskf esff esaf espf estf : Nat → Int32) (R : Nat → Nat → Nat → Int32) : va_W := (ad 0, .inr (6, [.ref (ad 1), .ref (ad 2), .int states, .ref (ad 3), .ref (ad 6), .int bytes, .ref (ad 4), .ref (ad 5), .ref (ad 7), .int reading, .int at_, .int wrongAt, .int number, .long hh])) :: (ad 1, .inl (k 0, 401, .inl now)) :: (ad 2, .inl (k 0, 2005, .inl past)) :: (ad 3, .inl (k 0, 3, .inl refused)) :: (ad 4, .inl (k 0, 11, .inl held)) :: (ad 5, .inl (k 0, 164, .inl fitting)) :: (ad 6, .inl (k 0, 120, .inl text)) :: (ad 7, .inl (k 0, 132, .inl rread)) :: (ad 8, .inr (1, [.ref (ad 9), .ref (ad 10), .ref (ad 11), .ref (ad 12), .int gpsz, .int gpsn, .int gpal, .int gpre])) :: (ad 9, .inl (k 0, 32, .inl gpfa)) :: (ad 10, .inl (k 0, 32, .inl gpfb)) :: (ad 11, .inl (k 0, 12, .inl gpfc)) :: (ad 12, .inl (k 0, 12, .inl gpfd)) :: (ad 13, .inr (1, [.ref (ad 14), .ref (ad 15), .ref (ad 16), .ref (ad 17), .int gqsz, .int gqsn, .int gqal, .int gqre])) :: (ad 14, .inl (k 0, 32, .inl gqfa)) :: (ad 15, .inl (k 0, 32, .inl gqfb)) :: (ad 16, .inl (k 0, 12, .inl gqfc)) :: (ad 17, .inl (k 0, 12, .inl gqfd)) :: (ad 18, .inr (4, [.ref (ad 19), .ref (ad 20), .int txn, .int txp, .int txg, .int txe])) :: (ad 19, .inl (k 0, 120, .inl txbf)) :: (ad 20, .inr (3, [.int 12, .int 11, .ref (ad 21), .int txts])) :: (ad 21, .inl (k 0, 132, .inl txtf)) :: (ad 22, .inr (5, [.ref (ad 25), .ref (ad 23), .ref (ad 18), .ref (ad 8), .ref (ad 13), .int b0, .int b1, .int b2])) :: (ad 23, .inr (0, [.ref (ad 24), .int yhs, .int yhn])) :: (ad 24, .inl (k 1, 5, .inr (.inr (.inr (.inr (fun j => some (g j 0))))))) :: (ad 25, .inr (2, [.ref (ad 26), .ref (ad 27), .ref (ad 29), .ref (ad 31), .ref (ad 33), .ref (ad 35), .ref (ad 36), .int estm])) :: (ad 26, .inl (k 0, 32, .inl eszo)) :: (ad 27, .inr (3, [.int 12, .int 11, .ref (ad 28), .int esrs])) :: (ad 28, .inl (k 0, 132, .inl esrf)) :: (ad 29, .inr (3, [.int 12, .int 11, .ref (ad 30), .int esks])) :: (ad 30, .inl (k 0, 132, .inl eskf)) :: (ad 31, .inr (3, [.int 8, .int 7, .ref (ad 32), .int esfs])) :: (ad 32, .inl (k 0, 56, .inl esff)) :: (ad 33, .inr (3, [.int 6, .int 5, .ref (ad 34), .int esas])) :: (ad 34, .inl (k 0, 30, .inl esaf)) :: (ad 35, .inl (k 0, 7, .inl espf)) :: (ad 36, .inl (k 0, 6, .inl estf)) :: rgX k g R
/-- both objects are there -/
def RV (x o : Nat) (ws : va_W) : Prop := (∃ (i : Nat) (fs : List Value), ws[i]? = some ((x, .inr (5, fs)) : Nat × va_E)) ∧ ∃ (i : Nat) (fs : List Value), ws[i]? = some ((o, .inr (6, fs)) : Nat × va_E)
/-- the law's invariant: the contents of both sides agree -/
def INV (k : Nat → Nat) (x o : Nat) (ws : va_W) : Prop := ∃ (ad : Nat → Nat) (g : Nat → Nat → Nat) (states bytes reading at_ wrongAt number gpsz gpsn gpal gpre gqsz gqsn gqal gqre txn txp txg txe txts b0 b1 b2 yhs yhn estm esrs esks esfs esas : Int32) (hh : Int64) (now past refused held fitting text rread gpfa gpfb gpfc gpfd gqfa gqfb gqfc gqfd txbf txtf eszo esrf eskf esff esaf espf estf : Nat → Int32) (R : Nat → Nat → Nat → Int32), ws = (WW k ad g states bytes reading at_ wrongAt number gpsz gpsn gpal gpre gqsz gqsn gqal gqre txn txp txg txe txts b0 b1 b2 yhs yhn estm esrs esks esfs esas hh now past refused held fitting text rread gpfa gpfb gpfc gpfd gqfa gqfb gqfc gqfd txbf txtf eszo esrf eskf esff esaf espf estf R) ∧ x = ad 22 ∧ o = ad 0 ∧ SR (pk12 estm eszo esrs esrf esks eskf esfs esff esas esaf espf estf) now ∧ HR R yhs yhn states past ∧ CR b0 b1 b2 refused ∧ TR txn txbf bytes text
section LW
variable {k ad : Nat → Nat} {g : Nat → Nat → Nat} {states bytes reading at_ wrongAt number gpsz gpsn gpal gpre gqsz gqsn gqal gqre txn txp txg txe txts b0 b1 b2 yhs yhn estm esrs esks esfs esas : Int32} {hh : Int64} {now past refused held fitting text rread gpfa gpfb gpfc gpfd gqfa gqfb gqfc gqfd txbf txtf eszo esrf eskf esff esaf espf estf : Nat → Int32} {R : Nat → Nat → Nat → Int32}
variable {states' bytes' reading' at_' wrongAt' number' gpsz' gpsn' gpal' gpre' gqsz' gqsn' gqal' gqre' txn' txp' txg' txe' txts' b0' b1' b2' yhs' yhn' estm' esrs' esks' esfs' esas' : Int32} {hh' : Int64} {now' past' refused' held' fitting' text' rread' gpfa' gpfb' gpfc' gpfd' gqfa' gqfb' gqfc' gqfd' txbf' txtf' eszo' esrf' eskf' esff' esaf' espf' estf' : Nat → Int32} {R' : Nat → Nat → Nat → Int32}
theorem WW_fst : (WW k ad g states' bytes' reading' at_' wrongAt' number' gpsz' gpsn' gpal' gpre' gqsz' gqsn' gqal' gqre' txn' txp' txg' txe' txts' b0' b1' b2' yhs' yhn' estm' esrs' esks' esfs' esas' hh' now' past' refused' held' fitting' text' rread' gpfa' gpfb' gpfc' gpfd' gqfa' gqfb' gqfc' gqfd' txbf' txtf' eszo' esrf' eskf' esff' esaf' espf' estf' R').map Prod.fst = (WW k ad g states bytes reading at_ wrongAt number gpsz gpsn gpal gpre gqsz gqsn gqal gqre txn txp txg txe txts b0 b1 b2 yhs yhn estm esrs esks esfs esas hh now past refused held fitting text rread gpfa gpfb gpfc gpfd gqfa gqfb gqfc gqfd txbf txtf eszo esrf eskf esff esaf espf estf R).map Prod.fst := rfl
theorem WW_rv : RV (ad 22) (ad 0) (WW k ad g states bytes reading at_ wrongAt number gpsz gpsn gpal gpre gqsz gqsn gqal gqre txn txp txg txe txts b0 b1 b2 yhs yhn estm esrs esks esfs esas hh now past refused held fitting text rread gpfa gpfb gpfc gpfd gqfa gqfb gqfc gqfd txbf txtf eszo esrf eskf esff esaf espf estf R) := ⟨⟨22, _, rfl⟩, ⟨0, _, rfl⟩⟩
end LW
