/-- the cells of a remembered state, number j of the ring -/
def rgc (k : Nat → Nat) (g : Nat → Nat → Nat) (R : Nat → Nat → Nat → Int32) (j : Nat) : va_W := [((g j 0), .inr (2, [.ref (g j 1), .ref (g j 2), .ref (g j 4), .ref (g j 6), .ref (g j 8), .ref (g j 10), .ref (g j 11), .int (R j 7 0)])), ((g j 1), .inl (k 0, 32, .inl (R j 0))), ((g j 2), .inr (3, [.int 12, .int 11, .ref (g j 3), .int (R j 7 1)])), ((g j 3), .inl (k 0, 132, .inl (R j 1))), ((g j 4), .inr (3, [.int 12, .int 11, .ref (g j 5), .int (R j 7 2)])), ((g j 5), .inl (k 0, 132, .inl (R j 2))), ((g j 6), .inr (3, [.int 8, .int 7, .ref (g j 7), .int (R j 7 3)])), ((g j 7), .inl (k 0, 56, .inl (R j 3))), ((g j 8), .inr (3, [.int 6, .int 5, .ref (g j 9), .int (R j 7 4)])), ((g j 9), .inl (k 0, 30, .inl (R j 4))), ((g j 10), .inl (k 0, 7, .inl (R j 5))), ((g j 11), .inl (k 0, 6, .inl (R j 6)))]
def rgX (k : Nat → Nat) (g : Nat → Nat → Nat) (R : Nat → Nat → Nat → Int32) : va_W := rgc k g R 0 ++ (rgc k g R 1 ++ (rgc k g R 2 ++ (rgc k g R 3 ++ rgc k g R 4)))
def pk12 (tm : Int32) (zo : Nat → Int32) (rs : Int32) (rf : Nat → Int32) (ks : Int32) (kf : Nat → Int32) (fs : Int32) (ff : Nat → Int32) (as : Int32) (af pf tf : Nat → Int32) : Nat → Nat → Int32 := fun i => match i with
  | 0 => zo
  | 1 => rf
  | 2 => kf
  | 3 => ff
  | 4 => af
  | 5 => pf
  | 6 => tf
  | _ => fun j => match j with
    | 0 => tm
    | 1 => rs
    | 2 => ks
    | 3 => fs
    | _ => as
theorem rgX_fst (k : Nat → Nat) (g : Nat → Nat → Nat) (R R' : Nat → Nat → Nat → Int32) : (rgX k g R').map Prod.fst = (rgX k g R).map Prod.fst := rfl
theorem Cv_frame {l : Launch} {y : MethodName} {wy : List Cond} {rm : Room} {D : va_G} {k : Nat → Nat} {av : List Value} {wc wc' ws : va_W} (h : Cv l y wy rm D k av wc wc') (isC : List Nat) (hnd : va_nd isC = true) (hC : isC.map (fun i => ws[i]?) = wc.map some) (hf : wc'.map Prod.fst = wc.map Prod.fst) : Cv l y wy rm D k av ws (zUp ws isC wc') := by
  intro sz p e ha hc hk s m args below hfr happ hpre hK
  obtain ⟨rfl, hsz, hP, hKk, hD, hm⟩ := hpre
  subst hsz
  have hsub : ∀ q, va_A wc s.heap.size q → va_A ws s.heap.size q := by
    intro q hq
    rcases hq with ⟨k2, e2, hh⟩ | hh
    · obtain ⟨i, _, hi⟩ := zMapAt hC hh
      exact Or.inl ⟨i, e2, hi⟩
    · exact Or.inr hh
  obtain ⟨n, oc, h1, h2, h3, hQ⟩ := h s.heap.size p e ha hc hk s m _ below hfr happ ⟨rfl, rfl, zPc hP hC, hKk, hD.sub isC hnd hC, hm.narrow hsub⟩ hK
  refine ⟨n, oc, h1, h2, h3, ?_⟩
  obtain ⟨⟨⟨u, ho, _, hB⟩, hF⟩, L, hFE, hL⟩ := hQ
  obtain ⟨g1, g2⟩ := zJoin hP hD isC hC hf hF.2 hB
  exact ⟨⟨⟨(), ho, trivial, g1⟩, ⟨hF.1, fun q h1 h2 => hF.2 q h1 (fun z => h2 (hsub q z))⟩⟩, L, hFE, fun q hq => hsub _ (hL q hq)⟩
theorem Cv_to {l : Launch} {y : MethodName} {wy : List Cond} {rm : Room} {D : va_G} {k : Nat → Nat} {av : List Value} {ws w1 w2 : va_W} (h : Cv l y wy rm D k av ws w1) (e : w1 = w2) : Cv l y wy rm D k av ws w2 := e ▸ h
theorem f_at_map (g : Nat → Nat → Nat) (x : Int32) {i : Nat} (h : f_X0_at (fun j => j) x = some i) : f_X0_at (fun j => g j 0) x = some (g i 0) := by
  unfold f_X0_at at h ⊢
  obtain ⟨b, h1, h⟩ := zb h
  rw [h1]
  show (if zB b = 0 then none else if zok x 5 then some (g (Int32.toNatClampNeg x) 0) else none) = _
  by_cases hb : zB b = 0
  · rw [if_pos hb] at h; cases h
  · rw [if_neg hb] at h ⊢
    by_cases hz : zok x 5 = true
    · rw [if_pos hz] at h ⊢
      have e : Int32.toNatClampNeg x = i := Option.some.inj h
      rw [e]
    · rw [if_neg hz] at h; cases h
theorem f_at_in {x : Int32} {i : Nat} (h : f_X0_at (fun j => j) x = some i) : i < 5 ∧ x = nI i := by
  unfold f_X0_at at h
  obtain ⟨b, h1, h⟩ := zb h
  by_cases hb : zB b = 0
  · rw [if_pos hb] at h; cases h
  · rw [if_neg hb] at h
    obtain ⟨hin, h⟩ := zg h
    obtain ⟨j, hj, rfl⟩ := vp_in_of hin (by decide)
    rw [nI_clamp (by omega)] at h
    obtain rfl := Option.some.inj h
    exact ⟨hj, rfl⟩
def f_X0_remember (yhs : Int32) (yhn : Int32) (estm : Int32) (eszo : Nat → Int32) (esrs : Int32) (esrf : Nat → Int32) (esks : Int32) (eskf : Nat → Int32) (esfs : Int32) (esff : Nat → Int32) (esas : Int32) (esaf : Nat → Int32) (espf : Nat → Int32) (estf : Nat → Int32) (R : Nat → Nat → Nat → Int32) : Option (Int32 × Int32 × (Nat → Nat → Nat → Int32)) :=
  (f_X0_remember_1 yhs yhn (fun j => j) (R (Int32.toNatClampNeg yhn) 0) (R (Int32.toNatClampNeg yhn) 7 1) (R (Int32.toNatClampNeg yhn) 1) (R (Int32.toNatClampNeg yhn) 7 2) (R (Int32.toNatClampNeg yhn) 2) (R (Int32.toNatClampNeg yhn) 7 3) (R (Int32.toNatClampNeg yhn) 3) (R (Int32.toNatClampNeg yhn) 7 4) (R (Int32.toNatClampNeg yhn) 4) (R (Int32.toNatClampNeg yhn) 5) (R (Int32.toNatClampNeg yhn) 6) estm eszo esrs esrf esks eskf esfs esff esas esaf espf estf (Int32.toNatClampNeg yhn)).bind fun r => some (r.1, r.2.1, fun j => if j = (Int32.toNatClampNeg yhn) then pk12 r.2.2.1 r.2.2.2.1 r.2.2.2.2.1 r.2.2.2.2.2.1 r.2.2.2.2.2.2.1 r.2.2.2.2.2.2.2.1 r.2.2.2.2.2.2.2.2.1 r.2.2.2.2.2.2.2.2.2.1 r.2.2.2.2.2.2.2.2.2.2.1 r.2.2.2.2.2.2.2.2.2.2.2.1 r.2.2.2.2.2.2.2.2.2.2.2.2.1 r.2.2.2.2.2.2.2.2.2.2.2.2.2 else R j)
def zlat (yhn : Int32) : Int32 := if yhn = 0 then 4 else yhn - 1
def f_X0_restore (yhs : Int32) (yhn : Int32) (estm : Int32) (eszo : Nat → Int32) (esrs : Int32) (esrf : Nat → Int32) (esks : Int32) (eskf : Nat → Int32) (esfs : Int32) (esff : Nat → Int32) (esas : Int32) (esaf : Nat → Int32) (espf : Nat → Int32) (estf : Nat → Int32) (R : Nat → Nat → Nat → Int32) : Option (Int32 × Int32 × Int32 × (Nat → Int32) × Int32 × (Nat → Int32) × Int32 × (Nat → Int32) × Int32 × (Nat → Int32) × Int32 × (Nat → Int32) × (Nat → Int32) × (Nat → Int32)) :=
  f_X0_restore_1 yhs yhn (fun j => j) estm eszo esrs esrf esks eskf esfs esff esas esaf espf estf (R (Int32.toNatClampNeg (zlat yhn)) 7 0) (R (Int32.toNatClampNeg (zlat yhn)) 0) (R (Int32.toNatClampNeg (zlat yhn)) 7 1) (R (Int32.toNatClampNeg (zlat yhn)) 1) (R (Int32.toNatClampNeg (zlat yhn)) 7 2) (R (Int32.toNatClampNeg (zlat yhn)) 2) (R (Int32.toNatClampNeg (zlat yhn)) 7 3) (R (Int32.toNatClampNeg (zlat yhn)) 3) (R (Int32.toNatClampNeg (zlat yhn)) 7 4) (R (Int32.toNatClampNeg (zlat yhn)) 4) (R (Int32.toNatClampNeg (zlat yhn)) 5) (R (Int32.toNatClampNeg (zlat yhn)) 6) (Int32.toNatClampNeg (zlat yhn))
theorem rem_g (g : Nat → Nat → Nat) (yhs : Int32) (yhn : Int32) (estm : Int32) (eszo : Nat → Int32) (esrs : Int32) (esrf : Nat → Int32) (esks : Int32) (eskf : Nat → Int32) (esfs : Int32) (esff : Nat → Int32) (esas : Int32) (esaf : Nat → Int32) (espf : Nat → Int32) (estf : Nat → Int32) (ewtm : Int32) (ewzo : Nat → Int32) (ewrs : Int32) (ewrf : Nat → Int32) (ewks : Int32) (ewkf : Nat → Int32) (ewfs : Int32) (ewff : Nat → Int32) (ewas : Int32) (ewaf : Nat → Int32) (ewpf : Nat → Int32) (ewtf : Nat → Int32) (i : Nat) {r : Int32 × Int32 × Int32 × (Nat → Int32) × Int32 × (Nat → Int32) × Int32 × (Nat → Int32) × Int32 × (Nat → Int32) × Int32 × (Nat → Int32) × (Nat → Int32) × (Nat → Int32)} (h : f_X0_remember_1 yhs yhn (fun j => j) ewzo ewrs ewrf ewks ewkf ewfs ewff ewas ewaf ewpf ewtf estm eszo esrs esrf esks eskf esfs esff esas esaf espf estf i = some r) : f_X0_remember_1 yhs yhn (fun j => g j 0) ewzo ewrs ewrf ewks ewkf ewfs ewff ewas ewaf ewpf ewtf estm eszo esrs esrf esks eskf esfs esff esas esaf espf estf (g i 0) = some r ∧ i < 5 ∧ yhn = nI i := by
  unfold f_X0_remember_1 at h ⊢
  obtain ⟨r1, h1, h⟩ := zb h
  obtain ⟨hi, h2⟩ := zw h
  subst hi
  refine ⟨?_, f_at_in h1⟩
  rw [f_at_map g yhn h1]
  exact (if_pos rfl).trans h2
theorem res_g (g : Nat → Nat → Nat) (yhs : Int32) (yhn : Int32) (estm : Int32) (eszo : Nat → Int32) (esrs : Int32) (esrf : Nat → Int32) (esks : Int32) (eskf : Nat → Int32) (esfs : Int32) (esff : Nat → Int32) (esas : Int32) (esaf : Nat → Int32) (espf : Nat → Int32) (estf : Nat → Int32) (ewtm : Int32) (ewzo : Nat → Int32) (ewrs : Int32) (ewrf : Nat → Int32) (ewks : Int32) (ewkf : Nat → Int32) (ewfs : Int32) (ewff : Nat → Int32) (ewas : Int32) (ewaf : Nat → Int32) (ewpf : Nat → Int32) (ewtf : Nat → Int32) (i : Nat) {r : Int32 × Int32 × Int32 × (Nat → Int32) × Int32 × (Nat → Int32) × Int32 × (Nat → Int32) × Int32 × (Nat → Int32) × Int32 × (Nat → Int32) × (Nat → Int32) × (Nat → Int32)} (h : f_X0_restore_1 yhs yhn (fun j => j) estm eszo esrs esrf esks eskf esfs esff esas esaf espf estf ewtm ewzo ewrs ewrf ewks ewkf ewfs ewff ewas ewaf ewpf ewtf i = some r) : f_X0_restore_1 yhs yhn (fun j => g j 0) estm eszo esrs esrf esks eskf esfs esff esas esaf espf estf ewtm ewzo ewrs ewrf ewks ewkf ewfs ewff ewas ewaf ewpf ewtf (g i 0) = some r ∧ i < 5 ∧ zlat yhn = nI i := by
  unfold f_X0_restore_1 at h ⊢
  unfold zlat
  by_cases hc : yhn = 0
  · rw [if_pos hc] at h ⊢
    rw [if_pos hc]
    obtain ⟨r1, h1, h⟩ := zb h
    obtain ⟨hi, h2⟩ := zw h
    subst hi
    refine ⟨?_, f_at_in h1⟩
    rw [f_at_map g _ h1]
    exact (if_pos rfl).trans h2
  · rw [if_neg hc] at h ⊢
    rw [if_neg hc]
    obtain ⟨r1, h1, h⟩ := zb h
    obtain ⟨hi, h2⟩ := zw h
    subst hi
    refine ⟨?_, f_at_in h1⟩
    rw [f_at_map g _ h1]
    exact (if_pos rfl).trans h2
theorem five {j : Nat} (h : j < 5) : j = 0 ∨ j = 1 ∨ j = 2 ∨ j = 3 ∨ j = 4 := by omega
theorem pm (A2 E r w X : va_W) (h : X.Perm (r ++ w)) : (A2 ++ (E ++ X)).Perm (w ++ (A2 ++ (r ++ E))) := by
  have h1 : (A2 ++ (E ++ X)).Perm (A2 ++ (E ++ (r ++ w))) := (h.append_left E).append_left A2
  have h2 : (E ++ (r ++ w)).Perm ((r ++ E) ++ w) := by
    rw [← List.append_assoc]
    exact (List.perm_append_comm).append_right w
  have h3 : (A2 ++ ((r ++ E) ++ w)).Perm (w ++ (A2 ++ (r ++ E))) := by
    rw [← List.append_assoc]
    exact List.perm_append_comm
  exact h1.trans ((h2.append_left A2).trans h3)
theorem pm2 (A2 E r w X : va_W) (h : X.Perm (r ++ w)) : (A2 ++ (E ++ X)).Perm (w ++ (A2 ++ (E ++ r))) := by
  have h1 : (A2 ++ (E ++ X)).Perm (A2 ++ (E ++ (r ++ w))) := (h.append_left E).append_left A2
  have h3 : (A2 ++ (E ++ (r ++ w))).Perm (w ++ (A2 ++ (E ++ r))) := by
    rw [← List.append_assoc E, ← List.append_assoc A2]
    exact List.perm_append_comm
  exact h1.trans h3
def rgw (k : Nat → Nat) (g : Nat → Nat → Nat) (R : Nat → Nat → Nat → Int32) (j : Nat) : va_W := match j with
  | 0 => rgc k g R 1 ++ (rgc k g R 2 ++ (rgc k g R 3 ++ rgc k g R 4))
  | 1 => rgc k g R 0 ++ (rgc k g R 2 ++ (rgc k g R 3 ++ rgc k g R 4))
  | 2 => rgc k g R 0 ++ (rgc k g R 1 ++ (rgc k g R 3 ++ rgc k g R 4))
  | 3 => rgc k g R 0 ++ (rgc k g R 1 ++ (rgc k g R 2 ++ rgc k g R 4))
  | _ => rgc k g R 0 ++ (rgc k g R 1 ++ (rgc k g R 2 ++ rgc k g R 3))
theorem rgp {α : Type} (a b c d e : List α) : (a ++ (b ++ (c ++ (d ++ e)))).Perm (b ++ (a ++ (c ++ (d ++ e)))) ∧ (a ++ (b ++ (c ++ (d ++ e)))).Perm (c ++ (a ++ (b ++ (d ++ e)))) ∧ (a ++ (b ++ (c ++ (d ++ e)))).Perm (d ++ (a ++ (b ++ (c ++ e)))) ∧ (a ++ (b ++ (c ++ (d ++ e)))).Perm (e ++ (a ++ (b ++ (c ++ d)))) := by
  have s : ∀ x y z : List α, (x ++ (y ++ z)).Perm (y ++ (x ++ z)) := fun x y z => List.perm_append_comm_assoc x y z
  refine ⟨s a b _, ((s b c _).append_left a).trans (s a c _), (((s c d _).append_left b).append_left a).trans (((s b d _).append_left a).trans (s a d _)), ?_⟩
  exact ((((List.perm_append_comm (l₁ := d) (l₂ := e)).append_left c).append_left b).append_left a).trans ((((s c e _).append_left b).append_left a).trans (((s b e _).append_left a).trans (s a e _)))
theorem rgX_p (k : Nat → Nat) (g : Nat → Nat → Nat) (R : Nat → Nat → Nat → Int32) {j : Nat} (hj : j < 5) : (rgX k g R).Perm (rgc k g R j ++ rgw k g R j) := by
  have h := rgp (rgc k g R 0) (rgc k g R 1) (rgc k g R 2) (rgc k g R 3) (rgc k g R 4)
  rcases five hj with rfl | rfl | rfl | rfl | rfl
  · exact List.Perm.refl _
  · exact h.1
  · exact h.2.1
  · exact h.2.2.1
  · exact h.2.2.2
theorem rgw_upd (k : Nat → Nat) (g : Nat → Nat → Nat) (R : Nat → Nat → Nat → Int32) (q : Nat → Nat → Int32) {j : Nat} (hj : j < 5) : rgw k g (fun i => if i = j then q else R i) j = rgw k g R j := by
  rcases five hj with rfl | rfl | rfl | rfl | rfl <;> rfl
theorem rgc_upd (k : Nat → Nat) (g : Nat → Nat → Nat) (R : Nat → Nat → Nat → Int32) (q : Nat → Nat → Int32) (j : Nat) : rgc k g (fun i => if i = j then q else R i) j = rgc k g (fun _ => q) j := by
  simp only [rgc, if_true]
set_option maxHeartbeats 4000000 in
set_option maxRecDepth 100000 in
theorem c_X0_remember (l : Launch) (D : va_G) (k : Nat → Nat) (yh yhr es esz esr esk esf esa esp est esrc eskc esfc esac : Nat) (g : Nat → Nat → Nat) (yhs : Int32) (yhn : Int32) (estm : Int32) (eszo : Nat → Int32) (esrs : Int32) (esrf : Nat → Int32) (esks : Int32) (eskf : Nat → Int32) (esfs : Int32) (esff : Nat → Int32) (esas : Int32) (esaf : Nat → Int32) (espf : Nat → Int32) (estf : Nat → Int32) (R : Nat → Nat → Nat → Int32) {res : Int32 × Int32 × (Nat → Nat → Nat → Int32)} (h : f_X0_remember yhs yhn estm eszo esrs esrf esks eskf esfs esff esas esaf espf estf R = some res) : Cv l yX0_remember wk_X0_remember_1 rm_X0_remember_1 D k [.ref yh, .ref es] ([(yh, .inr (0, [.ref yhr, .int yhs, .int yhn])), (yhr, .inl (k 1, 5, .inr (.inr (.inr (.inr (fun j => some (g j 0))))))), (es, .inr (2, [.ref esz, .ref esr, .ref esk, .ref esf, .ref esa, .ref esp, .ref est, .int estm])), (esz, .inl (k 0, 32, .inl eszo)), (esr, .inr (3, [.int 12, .int 11, .ref esrc, .int esrs])), (esrc, .inl (k 0, 132, .inl esrf)), (esk, .inr (3, [.int 12, .int 11, .ref eskc, .int esks])), (eskc, .inl (k 0, 132, .inl eskf)), (esf, .inr (3, [.int 8, .int 7, .ref esfc, .int esfs])), (esfc, .inl (k 0, 56, .inl esff)), (esa, .inr (3, [.int 6, .int 5, .ref esac, .int esas])), (esac, .inl (k 0, 30, .inl esaf)), (esp, .inl (k 0, 7, .inl espf)), (est, .inl (k 0, 6, .inl estf))] ++ rgX k g R) ([(yh, .inr (0, [.ref yhr, .int res.1, .int res.2.1])), (yhr, .inl (k 1, 5, .inr (.inr (.inr (.inr (fun j => some (g j 0))))))), (es, .inr (2, [.ref esz, .ref esr, .ref esk, .ref esf, .ref esa, .ref esp, .ref est, .int estm])), (esz, .inl (k 0, 32, .inl eszo)), (esr, .inr (3, [.int 12, .int 11, .ref esrc, .int esrs])), (esrc, .inl (k 0, 132, .inl esrf)), (esk, .inr (3, [.int 12, .int 11, .ref eskc, .int esks])), (eskc, .inl (k 0, 132, .inl eskf)), (esf, .inr (3, [.int 8, .int 7, .ref esfc, .int esfs])), (esfc, .inl (k 0, 56, .inl esff)), (esa, .inr (3, [.int 6, .int 5, .ref esac, .int esas])), (esac, .inl (k 0, 30, .inl esaf)), (esp, .inl (k 0, 7, .inl espf)), (est, .inl (k 0, 6, .inl estf))] ++ rgX k g res.2.2) := by
  unfold f_X0_remember at h
  obtain ⟨r, h1, h⟩ := zb h
  obtain rfl := Option.some.inj h
  obtain ⟨h2, hj, hn⟩ := rem_g g yhs yhn estm eszo esrs esrf esks eskf esfs esff esas esaf espf estf (R (Int32.toNatClampNeg yhn) 7 0) (R (Int32.toNatClampNeg yhn) 0) (R (Int32.toNatClampNeg yhn) 7 1) (R (Int32.toNatClampNeg yhn) 1) (R (Int32.toNatClampNeg yhn) 7 2) (R (Int32.toNatClampNeg yhn) 2) (R (Int32.toNatClampNeg yhn) 7 3) (R (Int32.toNatClampNeg yhn) 3) (R (Int32.toNatClampNeg yhn) 7 4) (R (Int32.toNatClampNeg yhn) 4) (R (Int32.toNatClampNeg yhn) 5) (R (Int32.toNatClampNeg yhn) 6) (Int32.toNatClampNeg yhn) h1
  generalize (Int32.toNatClampNeg yhn) = j at h2 hj hn ⊢
  have hc := c_X0_remember_1 l D k yh yhr (g j 0) (g j 1) (g j 2) (g j 4) (g j 6) (g j 8) (g j 10) (g j 11) (g j 3) (g j 5) (g j 7) (g j 9) es esz esr esk esf esa esp est esrc eskc esfc esac yhs yhn (fun j => g j 0) (R j 7 0) (R j 0) (R j 7 1) (R j 1) (R j 7 2) (R j 2) (R j 7 3) (R j 3) (R j 7 4) (R j 4) (R j 5) (R j 6) estm eszo esrs esrf esks eskf esfs esff esas esaf espf estf h2
  have hq := rgX_p k g R hj
  have hq2 := rgX_p k g (fun i => if i = j then pk12 r.2.2.1 r.2.2.2.1 r.2.2.2.2.1 r.2.2.2.2.2.1 r.2.2.2.2.2.2.1 r.2.2.2.2.2.2.2.1 r.2.2.2.2.2.2.2.2.1 r.2.2.2.2.2.2.2.2.2.1 r.2.2.2.2.2.2.2.2.2.2.1 r.2.2.2.2.2.2.2.2.2.2.2.1 r.2.2.2.2.2.2.2.2.2.2.2.2.1 r.2.2.2.2.2.2.2.2.2.2.2.2.2 else R i) hj
  rw [rgw_upd k g R _ hj, rgc_upd] at hq2
  exact Cv_perm (Cv_more (wr := rgw k g R j) hc rfl) (pm [(yh, .inr (0, [.ref yhr, .int yhs, .int yhn])), (yhr, .inl (k 1, 5, .inr (.inr (.inr (.inr (fun j => some (g j 0)))))))] [(es, .inr (2, [.ref esz, .ref esr, .ref esk, .ref esf, .ref esa, .ref esp, .ref est, .int estm])), (esz, .inl (k 0, 32, .inl eszo)), (esr, .inr (3, [.int 12, .int 11, .ref esrc, .int esrs])), (esrc, .inl (k 0, 132, .inl esrf)), (esk, .inr (3, [.int 12, .int 11, .ref eskc, .int esks])), (eskc, .inl (k 0, 132, .inl eskf)), (esf, .inr (3, [.int 8, .int 7, .ref esfc, .int esfs])), (esfc, .inl (k 0, 56, .inl esff)), (esa, .inr (3, [.int 6, .int 5, .ref esac, .int esas])), (esac, .inl (k 0, 30, .inl esaf)), (esp, .inl (k 0, 7, .inl espf)), (est, .inl (k 0, 6, .inl estf))] (rgc k g R j) (rgw k g R j) _ hq) (pm [(yh, .inr (0, [.ref yhr, .int r.1, .int r.2.1])), (yhr, .inl (k 1, 5, .inr (.inr (.inr (.inr (fun j => some (g j 0)))))))] [(es, .inr (2, [.ref esz, .ref esr, .ref esk, .ref esf, .ref esa, .ref esp, .ref est, .int estm])), (esz, .inl (k 0, 32, .inl eszo)), (esr, .inr (3, [.int 12, .int 11, .ref esrc, .int esrs])), (esrc, .inl (k 0, 132, .inl esrf)), (esk, .inr (3, [.int 12, .int 11, .ref eskc, .int esks])), (eskc, .inl (k 0, 132, .inl eskf)), (esf, .inr (3, [.int 8, .int 7, .ref esfc, .int esfs])), (esfc, .inl (k 0, 56, .inl esff)), (esa, .inr (3, [.int 6, .int 5, .ref esac, .int esas])), (esac, .inl (k 0, 30, .inl esaf)), (esp, .inl (k 0, 7, .inl espf)), (est, .inl (k 0, 6, .inl estf))] (rgc k g (fun _ => pk12 r.2.2.1 r.2.2.2.1 r.2.2.2.2.1 r.2.2.2.2.2.1 r.2.2.2.2.2.2.1 r.2.2.2.2.2.2.2.1 r.2.2.2.2.2.2.2.2.1 r.2.2.2.2.2.2.2.2.2.1 r.2.2.2.2.2.2.2.2.2.2.1 r.2.2.2.2.2.2.2.2.2.2.2.1 r.2.2.2.2.2.2.2.2.2.2.2.2.1 r.2.2.2.2.2.2.2.2.2.2.2.2.2) j) (rgw k g R j) _ hq2).symm
set_option maxHeartbeats 4000000 in
set_option maxRecDepth 100000 in
theorem c_X0_restore (l : Launch) (D : va_G) (k : Nat → Nat) (yh yhr es esz esr esk esf esa esp est esrc eskc esfc esac : Nat) (g : Nat → Nat → Nat) (yhs : Int32) (yhn : Int32) (estm : Int32) (eszo : Nat → Int32) (esrs : Int32) (esrf : Nat → Int32) (esks : Int32) (eskf : Nat → Int32) (esfs : Int32) (esff : Nat → Int32) (esas : Int32) (esaf : Nat → Int32) (espf : Nat → Int32) (estf : Nat → Int32) (R : Nat → Nat → Nat → Int32) {res : Int32 × Int32 × Int32 × (Nat → Int32) × Int32 × (Nat → Int32) × Int32 × (Nat → Int32) × Int32 × (Nat → Int32) × Int32 × (Nat → Int32) × (Nat → Int32) × (Nat → Int32)} (h : f_X0_restore yhs yhn estm eszo esrs esrf esks eskf esfs esff esas esaf espf estf R = some res) : Cv l yX0_restore wk_X0_restore_1 rm_X0_restore_1 D k [.ref yh, .ref es] ([(yh, .inr (0, [.ref yhr, .int yhs, .int yhn])), (yhr, .inl (k 1, 5, .inr (.inr (.inr (.inr (fun j => some (g j 0))))))), (es, .inr (2, [.ref esz, .ref esr, .ref esk, .ref esf, .ref esa, .ref esp, .ref est, .int estm])), (esz, .inl (k 0, 32, .inl eszo)), (esr, .inr (3, [.int 12, .int 11, .ref esrc, .int esrs])), (esrc, .inl (k 0, 132, .inl esrf)), (esk, .inr (3, [.int 12, .int 11, .ref eskc, .int esks])), (eskc, .inl (k 0, 132, .inl eskf)), (esf, .inr (3, [.int 8, .int 7, .ref esfc, .int esfs])), (esfc, .inl (k 0, 56, .inl esff)), (esa, .inr (3, [.int 6, .int 5, .ref esac, .int esas])), (esac, .inl (k 0, 30, .inl esaf)), (esp, .inl (k 0, 7, .inl espf)), (est, .inl (k 0, 6, .inl estf))] ++ rgX k g R) ([(yh, .inr (0, [.ref yhr, .int res.1, .int res.2.1])), (yhr, .inl (k 1, 5, .inr (.inr (.inr (.inr (fun j => some (g j 0))))))), (es, .inr (2, [.ref esz, .ref esr, .ref esk, .ref esf, .ref esa, .ref esp, .ref est, .int res.2.2.1])), (esz, .inl (k 0, 32, .inl res.2.2.2.1)), (esr, .inr (3, [.int 12, .int 11, .ref esrc, .int res.2.2.2.2.1])), (esrc, .inl (k 0, 132, .inl res.2.2.2.2.2.1)), (esk, .inr (3, [.int 12, .int 11, .ref eskc, .int res.2.2.2.2.2.2.1])), (eskc, .inl (k 0, 132, .inl res.2.2.2.2.2.2.2.1)), (esf, .inr (3, [.int 8, .int 7, .ref esfc, .int res.2.2.2.2.2.2.2.2.1])), (esfc, .inl (k 0, 56, .inl res.2.2.2.2.2.2.2.2.2.1)), (esa, .inr (3, [.int 6, .int 5, .ref esac, .int res.2.2.2.2.2.2.2.2.2.2.1])), (esac, .inl (k 0, 30, .inl res.2.2.2.2.2.2.2.2.2.2.2.1)), (esp, .inl (k 0, 7, .inl res.2.2.2.2.2.2.2.2.2.2.2.2.1)), (est, .inl (k 0, 6, .inl res.2.2.2.2.2.2.2.2.2.2.2.2.2))] ++ rgX k g R) := by
  unfold f_X0_restore at h
  obtain ⟨h2, hj, hn⟩ := res_g g yhs yhn estm eszo esrs esrf esks eskf esfs esff esas esaf espf estf (R (Int32.toNatClampNeg (zlat yhn)) 7 0) (R (Int32.toNatClampNeg (zlat yhn)) 0) (R (Int32.toNatClampNeg (zlat yhn)) 7 1) (R (Int32.toNatClampNeg (zlat yhn)) 1) (R (Int32.toNatClampNeg (zlat yhn)) 7 2) (R (Int32.toNatClampNeg (zlat yhn)) 2) (R (Int32.toNatClampNeg (zlat yhn)) 7 3) (R (Int32.toNatClampNeg (zlat yhn)) 3) (R (Int32.toNatClampNeg (zlat yhn)) 7 4) (R (Int32.toNatClampNeg (zlat yhn)) 4) (R (Int32.toNatClampNeg (zlat yhn)) 5) (R (Int32.toNatClampNeg (zlat yhn)) 6) (Int32.toNatClampNeg (zlat yhn)) h
  generalize (Int32.toNatClampNeg (zlat yhn)) = j at h2 hj hn ⊢
  have hc := c_X0_restore_1 l D k yh yhr es esz esr esk esf esa esp est esrc eskc esfc esac (g j 0) (g j 1) (g j 2) (g j 4) (g j 6) (g j 8) (g j 10) (g j 11) (g j 3) (g j 5) (g j 7) (g j 9) yhs yhn (fun j => g j 0) estm eszo esrs esrf esks eskf esfs esff esas esaf espf estf (R j 7 0) (R j 0) (R j 7 1) (R j 1) (R j 7 2) (R j 2) (R j 7 3) (R j 3) (R j 7 4) (R j 4) (R j 5) (R j 6) h2
  have hq := rgX_p k g R hj
  exact Cv_perm (Cv_more (wr := rgw k g R j) hc rfl) (pm2 [(yh, .inr (0, [.ref yhr, .int yhs, .int yhn])), (yhr, .inl (k 1, 5, .inr (.inr (.inr (.inr (fun j => some (g j 0)))))))] [(es, .inr (2, [.ref esz, .ref esr, .ref esk, .ref esf, .ref esa, .ref esp, .ref est, .int estm])), (esz, .inl (k 0, 32, .inl eszo)), (esr, .inr (3, [.int 12, .int 11, .ref esrc, .int esrs])), (esrc, .inl (k 0, 132, .inl esrf)), (esk, .inr (3, [.int 12, .int 11, .ref eskc, .int esks])), (eskc, .inl (k 0, 132, .inl eskf)), (esf, .inr (3, [.int 8, .int 7, .ref esfc, .int esfs])), (esfc, .inl (k 0, 56, .inl esff)), (esa, .inr (3, [.int 6, .int 5, .ref esac, .int esas])), (esac, .inl (k 0, 30, .inl esaf)), (esp, .inl (k 0, 7, .inl espf)), (est, .inl (k 0, 6, .inl estf))] (rgc k g R j) (rgw k g R j) _ hq) (pm2 [(yh, .inr (0, [.ref yhr, .int res.1, .int res.2.1])), (yhr, .inl (k 1, 5, .inr (.inr (.inr (.inr (fun j => some (g j 0)))))))] [(es, .inr (2, [.ref esz, .ref esr, .ref esk, .ref esf, .ref esa, .ref esp, .ref est, .int res.2.2.1])), (esz, .inl (k 0, 32, .inl res.2.2.2.1)), (esr, .inr (3, [.int 12, .int 11, .ref esrc, .int res.2.2.2.2.1])), (esrc, .inl (k 0, 132, .inl res.2.2.2.2.2.1)), (esk, .inr (3, [.int 12, .int 11, .ref eskc, .int res.2.2.2.2.2.2.1])), (eskc, .inl (k 0, 132, .inl res.2.2.2.2.2.2.2.1)), (esf, .inr (3, [.int 8, .int 7, .ref esfc, .int res.2.2.2.2.2.2.2.2.1])), (esfc, .inl (k 0, 56, .inl res.2.2.2.2.2.2.2.2.2.1)), (esa, .inr (3, [.int 6, .int 5, .ref esac, .int res.2.2.2.2.2.2.2.2.2.2.1])), (esac, .inl (k 0, 30, .inl res.2.2.2.2.2.2.2.2.2.2.2.1)), (esp, .inl (k 0, 7, .inl res.2.2.2.2.2.2.2.2.2.2.2.2.1)), (est, .inl (k 0, 6, .inl res.2.2.2.2.2.2.2.2.2.2.2.2.2))] (rgc k g R j) (rgw k g R j) _ hq).symm
