/-! watch, lacks -/
def R_wat (s : Mem) (v f vt l r : Int32) (t : Mem) : Prop := cs (iS s v ∧ WchOK s v.toNatClampNeg f vt) (cs (nW s = 10) (No s (-4) r t) (r = nI (nW s) ∧ t = watM s v f vt l)) (No s (-2) r t)
theorem watM_n (s : Mem) (v f vt l : Int32) {q : Nat} (h : q < 26 ∨ 30 < q) : (watM s v f vt l).2 q = s.2 q := by
  unfold watM
  rw [mF_2]
  simp (disch := omega) only [mA_2n]
theorem watM_x (s : Mem) (v f vt l : Int32) {q w : Nat} (h : 26 ≤ q ∧ q ≤ 30) (hw : w ≠ nW s) : (watM s v f vt l).2 q w = s.2 q w := by
  unfold watM
  rw [mF_2]
  rcases (show q = 26 ∨ q = 27 ∨ q = 28 ∨ q = 29 ∨ q = 30 by omega) with rfl | rfl | rfl | rfl | rfl <;> simp (disch := first | decide | assumption) only [mA_2s, mA_2n, pk_un]
theorem watM_s (s : Mem) (v f vt l : Int32) : (watM s v f vt l).2 26 (nW s) = v ∧ (watM s v f vt l).2 27 (nW s) = f ∧ (watM s v f vt l).2 28 (nW s) = vt ∧ (watM s v f vt l).2 29 (nW s) = l ∧ (watM s v f vt l).2 30 (nW s) = 0 := by
  unfold watM
  rw [mF_2]
  refine ⟨?_, ?_, ?_, ?_, ?_⟩ <;> simp (disch := first | decide | assumption) only [mA_2s, mA_2n, pk_us]
theorem watM_1 (s : Mem) (v f vt l : Int32) {q : Nat} (h : q ≠ 25) : (watM s v f vt l).1 q = s.1 q := by
  unfold watM
  rw [mF_1n _ _ h]
  rfl
theorem watM_W {s : Mem} {v f vt l : Int32} (h : nW s < 10) : nW (watM s v f vt l) = nW s + 1 := by
  have e : nW (watM s v f vt l) = ((watM s v f vt l).1 25).toNatClampNeg := rfl
  rw [e]
  unfold watM
  rw [mF_1s]
  exact cl _ (by omega)
theorem PW.grow {g : Gm} {h : Hp} {s : Mem} {L : List Value} {u x y : Nat → Int32} {v f vt l : Int32} (l1 : L.length = 10) (hn : nW s < 10) (C6 : Cl g h 6 (26, L.set (nW s) (.ref (g.2 (700 + nW s))))) (old : ∀ w, w < nW s → L[w]? = some (.ref (g.2 (700 + w))) ∧ PWi g h s w) (Ca : Cl g h (700 + nW s) (11, [.int v, .int f, .int vt, .int l, .ref (g.2 (800 + nW s)), .ref (g.2 (900 + nW s)), .ref (g.2 (1000 + nW s)), .int 0])) (Cb : Cl g h (800 + nW s) (20, arrL 40 u)) (Cc : Cl g h (900 + nW s) (20, arrL 40 x)) (Cd : Cl g h (1000 + nW s) (20, arrL 40 y)) : PW g h (watM s v f vt l) := by
  refine ⟨_, by rw [List.length_set]; exact l1, C6, fun w hw => ?_⟩
  rw [watM_W hn] at hw
  by_cases z : w = nW s
  · subst z
    obtain ⟨a, b, c, d, e⟩ := watM_s s v f vt l
    refine ⟨List.getElem?_set_self (by omega), ?_, u, x, y, Cb, Cc, Cd, fun i hi => ?_⟩
    · rw [a, b, c, d, e]; exact Ca
    · have e0 : wc (watM s v f vt l) (nW s) = 0 := by unfold wc; rw [e]; rfl
      omega
  · obtain ⟨o1, W1, u', x', y', W2, W3, W4, W5⟩ := old w (by omega)
    refine ⟨by rw [List.getElem?_set_ne (by omega)]; exact o1, ?_, u', x', y', W2, W3, W4, fun i hi => ?_⟩
    · rw [watM_x _ _ _ _ _ (by omega) z, watM_x _ _ _ _ _ (by omega) z, watM_x _ _ _ _ _ (by omega) z, watM_x _ _ _ _ _ (by omega) z, watM_x _ _ _ _ _ (by omega) z]; exact W1
    · have e0 : wc (watM s v f vt l) w = wc s w := by unfold wc; rw [watM_x _ _ _ _ _ (by omega) z]
      rw [e0] at hi
      rw [watM_n _ _ _ _ _ (by omega)]
      exact W5 i hi
theorem tl_watch (G : Gk) {g : Gm} {h : Hp} {s : Mem} (R : RB g h s) (hm : Sm s) (ivw : IvW s) {v f vt l : Int32} {l5 : Option Value} (hvt : vt = 0 ∨ vt = 1) (hlt : nW s < 10) : V G fe_watch (pI fun r h' => r = nI (nW s) ∧ Nx g h h' (watM s v f vt l)) h 4 128 64 [some (.ref (g.2 2)), some (.int v), some (.int f), some (.int vt), some (.int l), l5] [] := by
  have X := R.1
  obtain ⟨RX, RS, RO, RP, ⟨L, l1, l2, l3⟩, RZ⟩ := id R
  have hX0 : h (g.2 2) = some (12, xfs g (s.1 0) (s.1 8) (s.1 33) (nI (nW s))) := by have := X.1; rw [ivw.1] at this; exact this
  refine V.need (cr := (0 + 3) + 1) (sr := (0 + 120) + 8) ?_ (by decide) (by decide)
  refine V_aload_n d_fe_watch_64 rfl rfl ?_
  refine V_getf d_fe_watch_65 fl_fe_29 (by first | assumption | exact X.1 | exact hu_self _ _ _ | (simp (disch := first | assumption | (apply Ne.symm; assumption)) only [hu_self, hu_ne]; assumption)) rfl ?_
  refine V_aload_n d_fe_watch_68 rfl rfl ?_
  refine V_getf d_fe_watch_69 fl_fe_298 hX0 rfl ?_
  refine V_new (M := fe_watch) d_fe_watch_72 nw_fe_27 (fun q72 hq72 => ?_)
  refine V_dup d_fe_watch_75 rfl ?_
  refine V_iload_n d_fe_watch_76 rfl rfl ?_
  refine V_iload_n d_fe_watch_77 rfl rfl ?_
  refine V_iload_n d_fe_watch_78 rfl rfl ?_
  refine V_iload d_fe_watch_79 rfl ?_
  refine V_callI (N := wa_init) d_fe_watch_81 ml_fe_444 mdf_wa_init wi_wa_init rfl rfl (sp_wa_init G (hu_self _ _ _) v f vt l hvt) rfl rfl (by decide) (by decide) (Nat.le_of_ble_eq_true rfl) rfl rfl (kN fun h81 ⟨q, p, u, hq, hp, hu1, nqp, nqu, npu, e81⟩ => ?_)
  have n1 : q72 ≠ q := fun z => by rw [← z, hu_self] at hq; cases hq
  have n2 : q72 ≠ p := fun z => by rw [← z, hu_self] at hp; cases hp
  have n3 : q72 ≠ u := fun z => by rw [← z, hu_self] at hu1; cases hu1
  rw [hu_ne _ _ (Ne.symm n1)] at hq
  rw [hu_ne _ _ (Ne.symm n2)] at hp
  rw [hu_ne _ _ (Ne.symm n3)] at hu1
  have e81' : h81 = hu (hu (hu (hu h q (20, arrL 40 (fun _ => 0))) p (20, arrL 40 (fun _ => 0))) u (20, arrL 40 (fun _ => 0))) q72 (11, [.int v, .int f, .int vt, .int l, .ref q, .ref p, .ref u, .int 0]) := by rw [e81]; funext z; unfold hu; by_cases e1 : z = q72; (simp only [e1, if_true]); (simp only [e1, if_false])
  subst e81'
  have S0 := Stq.fresh (g := g) hq (800 + nW s) (20, arrL 40 (fun _ => 0))
  obtain ⟨Sa, Ca, Cc, Cd⟩ := Stq.tri (g := ug g q (800 + nW s)) (h := hu h q (20, arrL 40 (fun _ => 0))) (700 + nW s) (900 + nW s) (1000 + nW s) (11, [.int v, .int f, .int vt, .int l, .ref q, .ref p, .ref u, .int 0]) (20, arrL 40 (fun _ => 0)) (20, arrL 40 (fun _ => 0)) (by rw [hu_ne _ _ (Ne.symm nqp)]; exact hp) (by rw [hu_ne _ _ (Ne.symm nqu)]; exact hu1) (by rw [hu_ne _ _ n1]; exact hq72) n2 n3 npu (by omega) (by omega) (by omega)
  have Cb := (Cl.fresh g h q (800 + nW s) (20, arrL 40 (fun _ => 0))).st Sa ⟨by omega, by omega, by omega⟩
  have nX : g.2 2 ≠ q72 := fne hX0 hq72
  have nX1 : g.2 2 ≠ q := fne hX0 hq
  have nX2 : g.2 2 ≠ p := fne hX0 hp
  have nX3 : g.2 2 ≠ u := fne hX0 hu1
  have n6 : g.2 6 ≠ q72 := fne l2.1 hq72
  have n61 : g.2 6 ≠ q := fne l2.1 hq
  have n62 : g.2 6 ≠ p := fne l2.1 hp
  have n63 : g.2 6 ≠ u := fne l2.1 hu1
  have n26 : g.2 2 ≠ g.2 6 := X.ne l2 (by omega)
  refine V_aast (nW s) d_fe_watch_84 (by rw [hu_ne _ _ n6, hu_ne _ _ n63, hu_ne _ _ n62, hu_ne _ _ n61]; exact l2.1) (hu_self _ _ _) rfl rfl (by omega) (by omega) ?_
  refine V_aload_n d_fe_watch_85 rfl rfl ?_
  refine V_dup d_fe_watch_86 rfl ?_
  refine V_getf d_fe_watch_87 fl_fe_298 (by rw [hu_ne _ _ n26, hu_ne _ _ nX, hu_ne _ _ nX3, hu_ne _ _ nX2, hu_ne _ _ nX1]; exact hX0) rfl ?_
  refine V_dup_x1 d_fe_watch_90 rfl rfl ?_
  refine V_iconst (v := 1) d_fe_watch_91 (by decide) ?_
  refine V_iadd d_fe_watch_92 ?_
  rw [nI_1]
  refine V_putf d_fe_watch_93 fp_fe_298 rfl rfl (by rw [hu_ne _ _ n26, hu_ne _ _ nX, hu_ne _ _ nX3, hu_ne _ _ nX2, hu_ne _ _ nX1]; exact hX0) ?_
  refine V_ireturn d_fe_watch_96 rfl ?_
  refine ⟨_, rfl, rfl, ?_⟩
  have g2 : ∀ r, r ≠ 700 + nW s → r ≠ 800 + nW s → r ≠ 900 + nW s → r ≠ 1000 + nW s → (ug (ug (ug (ug g q (800 + nW s)) p (900 + nW s)) u (1000 + nW s)) q72 (700 + nW s)).2 r = g.2 r := fun r r1 r2 r3 r4 => by rw [ug_2n _ _ r1, ug_2n _ _ r4, ug_2n _ _ r3, ug_2n _ _ r2]
  have ga : (ug (ug (ug (ug g q (800 + nW s)) p (900 + nW s)) u (1000 + nW s)) q72 (700 + nW s)).2 (700 + nW s) = q72 := ug_2 _ _ _
  have gb : (ug (ug (ug (ug g q (800 + nW s)) p (900 + nW s)) u (1000 + nW s)) q72 (700 + nW s)).2 (800 + nW s) = q := by rw [ug_2n _ _ (by omega), ug_2n _ _ (by omega), ug_2n _ _ (by omega), ug_2]
  have gc : (ug (ug (ug (ug g q (800 + nW s)) p (900 + nW s)) u (1000 + nW s)) q72 (700 + nW s)).2 (900 + nW s) = p := by rw [ug_2n _ _ (by omega), ug_2n _ _ (by omega), ug_2]
  have gd : (ug (ug (ug (ug g q (800 + nW s)) p (900 + nW s)) u (1000 + nW s)) q72 (700 + nW s)).2 (1000 + nW s) = u := by rw [ug_2n _ _ (by omega), ug_2]
  have Sb : Stq g h (fun r => r ≠ 700 + nW s ∧ r ≠ 800 + nW s ∧ r ≠ 900 + nW s ∧ r ≠ 1000 + nW s) _ _ := (S0.mo (fun r hr => hr.2.1)).tr (Sa.mo (fun r hr => ⟨hr.1, hr.2.2.1, hr.2.2.2⟩))
  have C6 := l2.st Sb ⟨by omega, by omega, by omega, by omega⟩
  have S6 := Stq.put (h := hu (hu (hu (hu h q (20, arrL 40 (fun _ => 0))) p (20, arrL 40 (fun _ => 0))) u (20, arrL 40 (fun _ => 0))) q72 (11, [.int v, .int f, .int vt, .int l, .ref q, .ref p, .ref u, .int 0])) C6.2 (26, L.set (nW s) (.ref q72))
  have C6' := Cl.put (h := hu (hu (hu (hu h q (20, arrL 40 (fun _ => 0))) p (20, arrL 40 (fun _ => 0))) u (20, arrL 40 (fun _ => 0))) q72 (11, [.int v, .int f, .int vt, .int l, .ref q, .ref p, .ref u, .int 0])) C6.2 (26, L.set (nW s) (.ref q72))
  have Cx := (Cl.st X Sb ⟨by omega, by omega, by omega, by omega⟩).st S6 (by omega)
  rw [g2 6 (by omega) (by omega) (by omega) (by omega)] at S6 C6' Cx
  have S7 := Stq.put (h := hu (hu (hu (hu (hu h q (20, arrL 40 (fun _ => 0))) p (20, arrL 40 (fun _ => 0))) u (20, arrL 40 (fun _ => 0))) q72 (11, [.int v, .int f, .int vt, .int l, .ref q, .ref p, .ref u, .int 0])) (g.2 6) (26, L.set (nW s) (.ref q72))) Cx.2 (12, xfs g (s.1 0) (s.1 8) (s.1 33) (nI (nW s + 1)))
  have Cx' := Cl.put (h := hu (hu (hu (hu (hu h q (20, arrL 40 (fun _ => 0))) p (20, arrL 40 (fun _ => 0))) u (20, arrL 40 (fun _ => 0))) q72 (11, [.int v, .int f, .int vt, .int l, .ref q, .ref p, .ref u, .int 0])) (g.2 6) (26, L.set (nW s) (.ref q72))) Cx.2 (12, xfs g (s.1 0) (s.1 8) (s.1 33) (nI (nW s + 1)))
  rw [g2 2 (by omega) (by omega) (by omega) (by omega)] at S7 Cx'
  have St : Stq g h (fun r => r ≠ 2 ∧ r ≠ 6 ∧ r ≠ 700 + nW s ∧ r ≠ 800 + nW s ∧ r ≠ 900 + nW s ∧ r ≠ 1000 + nW s) _ _ := ((Sb.mo (fun r hr => hr.2.2)).tr (S6.mo (fun r hr => hr.2.1))).tr (S7.mo (fun r hr => hr.1))
  have e1 : ∀ q, q ≠ 25 → (watM s v f vt l).1 q = s.1 q := fun q hq => watM_1 s v f vt l hq
  have e25 : (watM s v f vt l).1 25 = nI (nW s + 1) := by unfold watM; rw [mF_1s]
  have e2 : ∀ q, q < 26 ∨ 30 < q → (watM s v f vt l).2 q = s.2 q := fun q hq => watM_n s v f vt l hq
  refine ⟨_, ⟨?_, ?_, ?_, ?_, ?_, ?_⟩, St.mo (fun r hr => by unfold KH at hr; omega), g2 2 (by omega) (by omega) (by omega) (by omega)⟩
  · (unfold PX; rw [e1 0 (by omega), e1 8 (by omega), e1 33 (by omega), e25, g2 3 (by omega) (by omega) (by omega) (by omega), g2 4 (by omega) (by omega) (by omega) (by omega), g2 5 (by omega) (by omega) (by omega) (by omega), g2 6 (by omega) (by omega) (by omega) (by omega), g2 7 (by omega) (by omega) (by omega) (by omega), g2 8 (by omega) (by omega) (by omega) (by omega), g2 9 (by omega) (by omega) (by omega) (by omega), g2 12 (by omega) (by omega) (by omega) (by omega), g2 16 (by omega) (by omega) (by omega) (by omega), g2 17 (by omega) (by omega) (by omega) (by omega)]; exact Cx')
  · exact (RS.st hm.1 St (by omega) (by omega) (fun r _ _ => by omega)).co (by unfold nS; rw [e1 0 (by omega)]) (fun i _ => ⟨by rw [e2 1 (by omega)], by rw [e2 2 (by omega)], by unfold uS nS nO; rw [e1 0 (by omega), e1 8 (by omega), e2 1 (by omega), e2 9 (by omega)], fun j _ => by unfold fdS; rw [e2 3 (by omega), e2 4 (by omega), e2 5 (by omega), e2 6 (by omega), e2 7 (by omega)]⟩)
  · exact (RO.st hm.2.1 St (by omega) (by omega) (fun r _ _ => by omega)).co (by unfold nO; rw [e1 8 (by omega)]) (fun o _ => by rw [e2 9 (by omega)]) (fun o _ => by unfold nf; rw [e2 2 (by omega)]) (fun o f _ _ => ⟨by unfold rowN sh; rw [e2 3 (by omega), e2 9 (by omega), e2 10 (by omega)], fun i _ => by unfold rowF sh; rw [e2 3 (by omega), e2 9 (by omega), e2 10 (by omega), e2 11 (by omega)]⟩)
  · exact (RP.st hm.2.2.1 St (by omega) (fun r _ _ => by have := hm.2.2.1; omega)).co (by unfold nP; rw [e1 33 (by omega)]) (fun p _ => ⟨by rw [e2 34 (by omega)], fun i _ => ⟨by rw [e2 35 (by omega)], by rw [e2 36 (by omega)]⟩⟩)
  · exact PW.grow l1 hlt (by rw [ga]; exact C6'.st S7 (by omega)) (fun x hx => ⟨by rw [g2 (700 + x) (by omega) (by omega) (by omega) (by omega)]; exact (l3 x hx).1, (l3 x hx).2.st St (by omega) (by omega) (by omega) (by omega)⟩) (by rw [gb, gc, gd]; exact (Ca.st S6 (by omega)).st S7 (by omega)) ((Cb.st S6 (by omega)).st S7 (by omega)) ((Cc.st S6 (by omega)).st S7 (by omega)) ((Cd.st S6 (by omega)).st S7 (by omega))
  · exact RZ.st St (fun r _ _ => by omega)
theorem sp_fe_watch (G : Gk) {g : Gm} {h : Hp} {s : Mem} (R : RB g h s) (hm : Sm s) (ivs : IvS s) (ivw : IvW s) (v f vt l : Int32) (hvt : vt = 0 ∨ vt = 1) : Ct G fe_watch [.ref (g.2 2), .int v, .int f, .int vt, .int l] h (pI fun r h' => ∀ r' t, R_wat s v f vt l r' t → r = r' ∧ Nx g h h' t) := by
  have X := R.1
  have n10 := ivs.2.1
  have w10 := ivw.2.1
  obtain ⟨L0, a1, a2, a3⟩ := R.2.1
  obtain ⟨RX, RS, RO, RP, ⟨L, l1, l2, l3⟩, RZ⟩ := id R
  have hX0 : h (g.2 2) = some (12, xfs g (s.1 0) (s.1 8) (s.1 33) (nI (nW s))) := by have := X.1; rw [ivw.1] at this; exact this
  refine Ct.ofL (M := fe_watch) (lv := [some (.ref (g.2 2)), some (.int v), some (.int f), some (.int vt), some (.int l), none]) mdf_fe_watch rfl (Nat.le_of_ble_eq_true rfl) rfl ?_
  refine V_aload_n d_fe_watch_0 rfl rfl ?_
  refine V_iload_n d_fe_watch_1 rfl rfl ?_
  refine V_callV (N := fe_isShape) d_fe_watch_2 ml_fe_68 mdf_fe_isShape wi_fe_isShape wz_fe_isShape (sp_fe_isShape G X ivs _) (by first | assumption | exact X.1 | exact hu_self _ _ _ | (simp (disch := first | assumption | (apply Ne.symm; assumption)) only [hu_self, hu_ne]; assumption)) ⟨_, rfl, rfl⟩ rfl rfl (by decide) (by decide) (Nat.le_of_ble_eq_true rfl) rfl rfl (kI fun r2 h2 ⟨e2, f2⟩ => ?_)
  subst e2 f2
  refine V_if_ne d_fe_watch_5 (fun c5 => ?_) (fun c5 => ?_)
  · skip
    obtain ⟨i, hi, rfl⟩ := b01_ne c5
    have hR0 : ∀ r' t, R_wat s (nI i) f vt l r' t → _ := fun r' t (hR : R_wat s (nI i) f vt l r' t) => by unfold R_wat at hR; rw [cl i (by omega)] at hR; exact hR
    refine V_aload_n d_fe_watch_11 rfl rfl ?_
    refine V_getf d_fe_watch_12 fl_fe_11 (by first | assumption | exact X.1 | exact hu_self _ _ _ | (simp (disch := first | assumption | (apply Ne.symm; assumption)) only [hu_self, hu_ne]; assumption)) rfl ?_
    refine V_iload_n d_fe_watch_15 rfl rfl ?_
    refine V_aald i d_fe_watch_16 a2.1 (by decide) (by decide) rfl (by omega) (a3 i hi).1 ?_
    refine V_iload_n d_fe_watch_17 rfl rfl ?_
    refine V_callV (N := sh_fieldAt) d_fe_watch_18 ml_fe_105 mdf_sh_fieldAt wi_sh_fieldAt wz_sh_fieldAt (sp_fe_fieldAt G ivs hi (a3 i hi).2 f) (a3 i hi).2.1.1 ⟨_, rfl, rfl⟩ rfl rfl (by decide) (by decide) (Nat.le_of_ble_eq_true rfl) rfl rfl (kQ fun r18 h18 ⟨e18, z18⟩ => ?_)
    subst e18
    rcases z18 with ⟨no, rfl⟩ | ⟨j, c, hj, rfl, im, rfl⟩
    · skip
      refine V_astoreN d_fe_watch_21 (by decide) rfl rfl ?_
      dsimp only [List.set]
      refine V_aloadN d_fe_watch_23 rfl ?_
      refine V_ifnullN d_fe_watch_25 ?_
      refine V_bipush (v := -2) d_fe_watch_49 (by decide) ?_
      refine V_ireturn d_fe_watch_51 rfl ?_
      refine ⟨_, rfl, fun r' t hR => ?_⟩
      obtain ⟨w1, w2⟩ := (hR0 r' t hR).f (fun q => by obtain ⟨j, h1, h2, _⟩ := q.2; exact no j h1 h2)
      exact ⟨w1.symm, Nx.rf R w2.co⟩
    · skip
      refine V_astore d_fe_watch_21 (by decide) rfl rfl ?_
      dsimp only [List.set]
      refine V_aload d_fe_watch_23 rfl ?_
      refine V_ifnull d_fe_watch_25 ?_
      have n8 := (ivs.2.2.1 i hi).2
      have hW : ∀ j', j' < nf s i → nI j = nI j' → j' = j := fun j' h1 h2 => (nI_inj8 (by omega) (by omega) h2).symm
      refine V_aload d_fe_watch_28 rfl ?_
      refine V_getf d_fe_watch_30 fl_fe_109 im.1 rfl ?_
      refine V_iconst (v := 3) d_fe_watch_33 (by decide) ?_
      refine V_icmp_eq d_fe_watch_34 (fun c34 => ?_) (fun c34 => ?_)
      · skip
        refine V_bipush (v := -2) d_fe_watch_49 (by decide) ?_
        refine V_ireturn d_fe_watch_51 rfl ?_
        refine ⟨_, rfl, fun r' t hR => ?_⟩
        obtain ⟨w1, w2⟩ := (hR0 r' t hR).f (fun q => by obtain ⟨j', h1, h2, h3, _⟩ := q.2; rw [hW j' h1 h2] at h3; exact h3 c34)
        exact ⟨w1.symm, Nx.rf R w2.co⟩
      · skip
        refine V_iload_n d_fe_watch_37 rfl rfl ?_
        refine V_if_eq d_fe_watch_38 (fun c38 => ?_) (fun c38 => ?_)
        · skip
          have hok : WchOK s i (nI j) vt := ⟨j, hj, rfl, c34, Or.inl c38⟩
          refine V_aload_n d_fe_watch_52 rfl rfl ?_
          refine V_getf d_fe_watch_53 fl_fe_298 hX0 rfl ?_
          refine V_bipush (v := 10) d_fe_watch_56 (by decide) ?_
          refine V_icmp_lt d_fe_watch_58 (fun c58 => ?_) (fun c58 => ?_)
          · skip
            have hlt : nW s < 10 := by rcases Nat.lt_or_ge (nW s) 10 with z | z; exact z; exact absurd c58 (by rw [show nW s = 10 by omega]; decide)
            refine (tl_watch G R hm ivw hvt hlt).mono (fun x h' hp => ?_)
            obtain ⟨r, e, er, hN⟩ := hp
            refine ⟨r, e, fun r' t hR => ?_⟩
            obtain ⟨w1, w2⟩ := ((hR0 r' t hR).t ⟨⟨i, hi, rfl⟩, hok⟩).f (by omega)
            subst w2
            exact ⟨by rw [er, w1], hN⟩
          · skip
            refine V_bipush (v := -4) d_fe_watch_61 (by decide) ?_
            refine V_ireturn d_fe_watch_63 rfl ?_
            refine ⟨_, rfl, fun r' t hR => ?_⟩
            have e10 : nW s = 10 := (by rcases Nat.lt_or_ge (nW s) 10 with z | z; exact absurd (nI_lt z (by omega)) c58; omega)
            obtain ⟨w1, w2⟩ := ((hR0 r' t hR).t ⟨⟨i, hi, rfl⟩, hok⟩).t e10
            exact ⟨w1.symm, Nx.rf R w2.co⟩
        · skip
          refine V_aload d_fe_watch_41 rfl ?_
          refine V_getf d_fe_watch_43 fl_fe_109 im.1 rfl ?_
          refine V_if_eq d_fe_watch_46 (fun c46 => ?_) (fun c46 => ?_)
          · skip
            have hok : WchOK s i (nI j) vt := ⟨j, hj, rfl, c34, Or.inr c46⟩
            refine V_aload_n d_fe_watch_52 rfl rfl ?_
            refine V_getf d_fe_watch_53 fl_fe_298 hX0 rfl ?_
            refine V_bipush (v := 10) d_fe_watch_56 (by decide) ?_
            refine V_icmp_lt d_fe_watch_58 (fun c58 => ?_) (fun c58 => ?_)
            · skip
              have hlt : nW s < 10 := by rcases Nat.lt_or_ge (nW s) 10 with z | z; exact z; exact absurd c58 (by rw [show nW s = 10 by omega]; decide)
              refine (tl_watch G R hm ivw hvt hlt).mono (fun x h' hp => ?_)
              obtain ⟨r, e, er, hN⟩ := hp
              refine ⟨r, e, fun r' t hR => ?_⟩
              obtain ⟨w1, w2⟩ := ((hR0 r' t hR).t ⟨⟨i, hi, rfl⟩, hok⟩).f (by omega)
              subst w2
              exact ⟨by rw [er, w1], hN⟩
            · skip
              refine V_bipush (v := -4) d_fe_watch_61 (by decide) ?_
              refine V_ireturn d_fe_watch_63 rfl ?_
              refine ⟨_, rfl, fun r' t hR => ?_⟩
              have e10 : nW s = 10 := (by rcases Nat.lt_or_ge (nW s) 10 with z | z; exact absurd (nI_lt z (by omega)) c58; omega)
              obtain ⟨w1, w2⟩ := ((hR0 r' t hR).t ⟨⟨i, hi, rfl⟩, hok⟩).t e10
              exact ⟨w1.symm, Nx.rf R w2.co⟩
          · skip
            refine V_bipush (v := -2) d_fe_watch_49 (by decide) ?_
            refine V_ireturn d_fe_watch_51 rfl ?_
            refine ⟨_, rfl, fun r' t hR => ?_⟩
            obtain ⟨w1, w2⟩ := (hR0 r' t hR).f (fun q => by obtain ⟨j', h1, h2, h3, h4⟩ := q.2; rw [hW j' h1 h2] at h4; exact h4.elim c38 c46)
            exact ⟨w1.symm, Nx.rf R w2.co⟩
  · skip
    refine V_bipush (v := -2) d_fe_watch_8 (by decide) ?_
    refine V_ireturn d_fe_watch_10 rfl ?_
    refine ⟨_, rfl, fun r' t hR => ?_⟩
    obtain ⟨w1, w2⟩ := hR.f (fun q => b01_e c5 q.1)
    exact ⟨w1.symm, Nx.rf R w2.co⟩
/-- a derived field has no flags -/
def IvK (s : Mem) : Prop := ∀ i j, i < nS s → j < nf s i → s.2 3 (8 * i + j) = 3 → s.2 7 (8 * i + j) = 0
theorem lp_lk2 (G : Gk) {g : Gm} {h : Hp} {s : Mem} (R : RB g h s) (ivs : IvS s) (ivo : IvO s) (ivf : IvF s) (ivv : IvV s) (ivk : IvK s) {o : Nat} (ho : o < nO s) (post : Option Value → Hp → Prop)
    (K : ∀ (l4 : Option Value), V G fe_lacks post h 0 0 74 [some (.ref (g.2 2)), some (.int (lkO s (o + 1))), some (.int (nI o)), some (.ref (g.2 (100 + sh s o))), l4] []) : ∀ (c f : Nat), f + c = nf s (sh s o) →
    V G fe_lacks post h 0 0 30 [some (.ref (g.2 2)), some (.int (lkO s o + lkF s o f)), some (.int (nI o)), some (.ref (g.2 (100 + sh s o))), some (.int (nI f))] [] := by
  have X := R.1
  have n60 := ivo.2.1
  obtain ⟨es, hs⟩ := ivo.2.2 o ho
  have n8 := (ivs.2.2.1 _ hs).2
  obtain ⟨L, l1, l2, l3⟩ := R.2.1
  obtain ⟨T, t1, t2, t3⟩ := R.2.2.1
  obtain ⟨a, u1, u2, W, w1, w2, w3⟩ := t3 o ho
  obtain ⟨L2, m1, m2, m3⟩ := (l3 _ hs).2.2
  have hsh := (l3 _ hs).2.at ivs hs
  intro c
  induction c with
  | zero =>
    intro f hf
    obtain rfl : f = nf s (sh s o) := by omega
    refine V_iload d_fe_lacks_30 rfl ?_
    refine V_aload_n d_fe_lacks_32 rfl rfl ?_
    refine V_getf d_fe_lacks_33 fl_fe_120 hsh rfl ?_
    refine V_icmp_ge d_fe_lacks_36 (fun c36 => ?_) (fun c36 => ?_)
    · skip
      exact K _
    · skip
      exact absurd (ltN c36 (by omega)) (by omega)
  | succ c ih =>
    intro f hf
    obtain ⟨af, x1, x2⟩ := m3 f (by omega)
    obtain ⟨ar, y1, y2⟩ := w3 f (by omega)
    refine V_iload d_fe_lacks_30 rfl ?_
    refine V_aload_n d_fe_lacks_32 rfl rfl ?_
    refine V_getf d_fe_lacks_33 fl_fe_120 hsh rfl ?_
    refine V_icmp_ge d_fe_lacks_36 (fun c36 => ?_) (fun c36 => ?_)
    · skip
      exact absurd (geN c36 (by omega)) (by omega)
    · skip
      refine V_aload_n d_fe_lacks_39 rfl rfl ?_
      refine V_getf d_fe_lacks_40 fl_fe_144 hsh rfl ?_
      refine V_iload d_fe_lacks_43 rfl ?_
      refine V_aald f d_fe_lacks_45 m2.1 (by decide) (by decide) rfl (by omega) x1 ?_
      refine V_iconst (v := 1) d_fe_lacks_46 (by decide) ?_
      refine V_callV (N := fd_has) d_fe_lacks_47 ml_fe_240 mdf_fd_has wi_fd_has wz_fd_has (sp_fd_has G x2.1 1) x2.1 ⟨_, rfl, rfl⟩ rfl rfl (by decide) (by decide) (Nat.le_of_ble_eq_true rfl) rfl rfl (kI fun r47 h47 ⟨e47, f47⟩ => ?_)
      subst e47 f47
      refine V_if_eq d_fe_lacks_50 (fun c50 => ?_) (fun c50 => ?_)
      · skip
        refine V_iinc (v := _) d_fe_lacks_68 rfl rfl (by decide) rfl rfl ?_
        dsimp only [List.set]
        refine V_goto d_fe_lacks_71 ?_
        rw [show Int32.ofInt 1 = 1 from rfl, nI_1]
        have e : lkF s o (f + 1) = lkF s o f := by rw [lkF, if_neg (fun z => b01_e c50 ((and1 _).mp z.1))]; exact Int32.add_zero _
        rw [← e]
        exact ih (f + 1) (by omega)
      · skip
        have hk : s.2 3 (8 * sh s o + f) ≠ 3 := fun z => b01_ne c50 (by rw [ivk _ f hs (by omega) z]; rfl)
        refine V_aload_n d_fe_lacks_53 rfl rfl ?_
        refine V_iload_n d_fe_lacks_54 rfl rfl ?_
        refine V_iload d_fe_lacks_55 rfl ?_
        refine V_callV (N := fe_valueOf) d_fe_lacks_57 ml_fe_156 mdf_fe_valueOf wi_fe_valueOf wz_fe_valueOf (sp_fe_valueP G X R.2.1 ivs ivo ho (by omega) hk t2.1 u1 u2.1 w2.1 y1 y2.1 row_pos) (by first | assumption | exact X.1 | exact hu_self _ _ _ | (simp (disch := first | assumption | (apply Ne.symm; assumption)) only [hu_self, hu_ne]; assumption)) ⟨_, rfl, rfl⟩ rfl rfl (by decide) (by decide) (Nat.le_of_ble_eq_true rfl) rfl rfl (kI fun r57 h57 ⟨e57, f57⟩ => ?_)
        subst e57 f57
        rw [plain_eq ivo ivf ivv ho (by omega) hk]
        refine V_ldc d_fe_lacks_60 kc_fe_87 ?_
        refine V_icmp_ne d_fe_lacks_62 (fun c62 => ?_) (fun c62 => ?_)
        · skip
          refine V_iinc (v := _) d_fe_lacks_68 rfl rfl (by decide) rfl rfl ?_
          dsimp only [List.set]
          refine V_goto d_fe_lacks_71 ?_
          rw [show Int32.ofInt 1 = 1 from rfl, nI_1]
          have e : lkF s o (f + 1) = lkF s o f := by rw [lkF, if_neg (fun z => c62 z.2)]; exact Int32.add_zero _
          rw [← e]
          exact ih (f + 1) (by omega)
        · skip
          refine V_iinc (v := _) d_fe_lacks_65 rfl rfl (by decide) rfl rfl ?_
          dsimp only [List.set]
          refine V_iinc (v := _) d_fe_lacks_68 rfl rfl (by decide) rfl rfl ?_
          dsimp only [List.set]
          refine V_goto d_fe_lacks_71 ?_
          rw [show Int32.ofInt 1 = 1 from rfl, nI_1]
          have e : lkF s o (f + 1) = lkF s o f + 1 := by rw [lkF, if_pos ⟨(and1 _).mpr (b01_ne c50), c62⟩]
          rw [Int32.add_assoc, ← e]
          exact ih (f + 1) (by omega)
theorem lp_lk1 (G : Gk) {g : Gm} {h : Hp} {s : Mem} (R : RB g h s) (ivs : IvS s) (ivo : IvO s) (ivf : IvF s) (ivv : IvV s) (ivk : IvK s) : ∀ (c o : Nat) (l3 l4 : Option Value), o + c = nO s →
    V G fe_lacks (pI fun r h' => h = h' ∧ r = lkO s (nO s)) h 0 0 4 [some (.ref (g.2 2)), some (.int (lkO s o)), some (.int (nI o)), l3, l4] [] := by
  have X := R.1
  have n60 := ivo.2.1
  have n10 := ivs.2.1
  obtain ⟨L, l1, l2, l3⟩ := R.2.1
  obtain ⟨T, t1, t2, t3⟩ := R.2.2.1
  intro c
  induction c with
  | zero =>
    intro o l4 l5 hf
    obtain rfl : o = nO s := by omega
    refine V_iload_n d_fe_lacks_4 rfl rfl ?_
    refine V_aload_n d_fe_lacks_5 rfl rfl ?_
    refine V_getf d_fe_lacks_6 fl_fe_134 (by first | assumption | exact X.1 | exact hu_self _ _ _ | (simp (disch := first | assumption | (apply Ne.symm; assumption)) only [hu_self, hu_ne]; assumption)) rfl ?_
    rw [ivo.1]
    refine V_icmp_ge d_fe_lacks_9 (fun c9 => ?_) (fun c9 => ?_)
    · skip
      refine V_iload_n d_fe_lacks_80 rfl rfl ?_
      refine V_ireturn d_fe_lacks_81 rfl ?_
      exact ⟨_, rfl, rfl, rfl⟩
    · skip
      exact absurd (ltN c9 (by omega)) (by omega)
  | succ c ih =>
    intro o l4 l5 hf
    obtain ⟨a, u1, u2, W, w1, w2, w3⟩ := t3 o (by omega)
    obtain ⟨es, hs⟩ := ivo.2.2 o (by omega)
    refine V_iload_n d_fe_lacks_4 rfl rfl ?_
    refine V_aload_n d_fe_lacks_5 rfl rfl ?_
    refine V_getf d_fe_lacks_6 fl_fe_134 (by first | assumption | exact X.1 | exact hu_self _ _ _ | (simp (disch := first | assumption | (apply Ne.symm; assumption)) only [hu_self, hu_ne]; assumption)) rfl ?_
    rw [ivo.1]
    refine V_icmp_ge d_fe_lacks_9 (fun c9 => ?_) (fun c9 => ?_)
    · skip
      exact absurd (geN c9 (by omega)) (by omega)
    · skip
      refine V_aload_n d_fe_lacks_12 rfl rfl ?_
      refine V_getf d_fe_lacks_13 fl_fe_11 (by first | assumption | exact X.1 | exact hu_self _ _ _ | (simp (disch := first | assumption | (apply Ne.symm; assumption)) only [hu_self, hu_ne]; assumption)) rfl ?_
      refine V_aload_n d_fe_lacks_16 rfl rfl ?_
      refine V_getf d_fe_lacks_17 fl_fe_17 (by first | assumption | exact X.1 | exact hu_self _ _ _ | (simp (disch := first | assumption | (apply Ne.symm; assumption)) only [hu_self, hu_ne]; assumption)) rfl ?_
      refine V_iload_n d_fe_lacks_20 rfl rfl ?_
      refine V_aald o d_fe_lacks_21 t2.1 (by decide) (by decide) rfl (by omega) u1 ?_
      refine V_getf d_fe_lacks_22 fl_fe_163 u2.1 rfl ?_
      refine V_aald (sh s o) d_fe_lacks_25 l2.1 (by decide) (by decide) es (by omega) (l3 _ hs).1 ?_
      refine V_astore_n d_fe_lacks_26 rfl (by decide) rfl rfl ?_
      dsimp only [List.set]
      refine V_iconst (v := 0) d_fe_lacks_27 (by decide) ?_
      refine V_istore d_fe_lacks_28 (by decide) rfl rfl ?_
      dsimp only [List.set]
      have e0 : lkO s o = lkO s o + lkF s o 0 := (Int32.add_zero _).symm
      rw [e0]
      refine lp_lk2 G R ivs ivo ivf ivv ivk (by omega) _ (fun l5 => ?_) (nf s (sh s o)) 0 (by omega)
      refine V_iinc d_fe_lacks_74 rfl rfl (by decide) rfl rfl ?_
      dsimp only [List.set]
      refine V_goto d_fe_lacks_77 ?_
      rw [show Int32.ofInt 1 = 1 from rfl, nI_1]
      exact ih (o + 1) _ _ (by omega)
theorem sp_fe_lacks (G : Gk) {g : Gm} {h : Hp} {s : Mem} (R : RB g h s) (ivs : IvS s) (ivo : IvO s) (ivf : IvF s) (ivv : IvV s) (ivk : IvK s) : Ct G fe_lacks [.ref (g.2 2)] h (pI fun r h' => h = h' ∧ r = lkO s (nO s)) := by
  refine Ct.ofL (M := fe_lacks) (lv := [some (.ref (g.2 2)), none, none, none, none]) mdf_fe_lacks rfl (Nat.le_of_ble_eq_true rfl) rfl ?_
  refine V_iconst (v := 0) d_fe_lacks_0 (by decide) ?_
  refine V_istore_n d_fe_lacks_1 rfl (by decide) rfl rfl ?_
  dsimp only [List.set]
  refine V_iconst (v := 0) d_fe_lacks_2 (by decide) ?_
  refine V_istore_n d_fe_lacks_3 rfl (by decide) rfl rfl ?_
  dsimp only [List.set]
  exact lp_lk1 G R ivs ivo ivf ivv ivk (nO s) 0 none none (by omega)
