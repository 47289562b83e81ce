/-! fault, watch, note, count, lacks -/
theorem nx_ok {s : Mem} (ivs : IvS s) (ivf : IvF s) {st : Int32} {x : Nat} {k n : Int32} (hx : x < nS s) (hok : StOK s k n) (hs : stands s st x k n) : (nxSt s x k n = 0 ∨ nxSt s x k n = 1 ∨ nxSt s x k n = 2) ∧ nxSh s x k n < nS s := by
  have n10 := ivs.2.1
  unfold stands at hs
  by_cases k0 : k = 0
  · subst k0
    rw [if_pos rfl] at hs
    obtain ⟨j, hj, rfl⟩ := inF.ix ivs hx hs.2
    have n8 := (ivs.2.2.1 x hx).2
    unfold nxSh nxSt
    simp only [if_true]
    rw [cl j (by omega)]
    rcases ivf x hx j hj with y | ⟨y | y, tt, h1, h2⟩ | ⟨y, _⟩
    · rw [y]; exact ⟨Or.inl rfl, hx⟩
    · rw [y, h2]; exact ⟨Or.inr (Or.inl rfl), by show (nI tt).toNatClampNeg < nS s; rw [cl tt (by omega)]; exact h1⟩
    · rw [y, h2]; exact ⟨Or.inr (Or.inr rfl), by show (nI tt).toNatClampNeg < nS s; rw [cl tt (by omega)]; exact h1⟩
    · rw [y]; exact ⟨Or.inl rfl, hx⟩
  · unfold nxSh nxSt
    rw [if_neg k0, if_neg k0]
    refine ⟨Or.inr (Or.inl rfl), ?_⟩
    by_cases k4 : k = 4
    · rw [if_pos k4]
      obtain ⟨m, hm, e⟩ := (isSh_iff ivs n).mp (hok.2.2.2 k4)
      rw [e, cl m (by omega)]
      exact hm
    · rw [if_neg k4]; exact hx
theorem atO_ne {st : Int32} {x : Nat} (hx : x < 10) : atO st x ≠ -1 := by
  unfold atO
  split
  · exact nI_m1 (by omega)
  · split
    · exact nI_m1 (by omega)
    · exact nI_m1 (by omega)
theorem lp_cflt (G : Gk) {g : Gm} {h : Hp} {s : Mem} (R : RB g h s) (ivs : IvS s) (ivf : IvF s) (ivp : IvP s) {p : Nat} (hp : p < nP s) {v1 v2 : Int32} (Rs : Int32) : ∀ (n i : Nat) (st : Int32) (x : Nat), i + n = sp s p → x < nS s → (st = 0 ∨ st = 1 ∨ st = 2) → Rs = fltF s p n i st x →
    V G fe_fault (pI fun r h' => h = h' ∧ r = Rs) h 0 0 32 [some (.ref (g.2 2)), some (.int v1), some (.int v2), some (.ref (g.2 (400 + p))), some (.int (atO st x)), some (.int (nI i))] [] := by
  have X := R.1
  have n10 := ivs.2.1
  obtain ⟨L, l1, l2, l3⟩ := R.2.2.2.1
  obtain ⟨esp, h5, hst⟩ := ivp.2.2 p hp
  obtain ⟨P1, u, w, P2, P3, P4⟩ := (l3 p hp).2
  rw [esp] at P1
  intro n
  induction n with
  | zero =>
    intro i st x hi hx hs hR
    obtain rfl : i = sp s p := by omega
    refine V_iload d_fe_fault_32 rfl ?_
    refine V_aload_n d_fe_fault_34 rfl rfl ?_
    refine V_getf d_fe_fault_35 fl_fe_378 P1.1 rfl ?_
    refine V_icmp_ge d_fe_fault_38 (fun c38 => ?_) (fun c38 => ?_)
    · skip
      refine V_iconst (v := -1) d_fe_fault_78 (by decide) ?_
      refine V_ireturn d_fe_fault_79 rfl ?_
      exact ⟨_, rfl, rfl, hR.symm⟩
    · skip
      exact absurd (ltN c38 (by omega)) (by omega)
  | succ n ih =>
    intro i st x hi hx hs hR
    obtain ⟨eu, ew⟩ := P4 i (by omega)
    have hok := hst i (by omega)
    refine V_iload d_fe_fault_32 rfl ?_
    refine V_aload_n d_fe_fault_34 rfl rfl ?_
    refine V_getf d_fe_fault_35 fl_fe_378 P1.1 rfl ?_
    refine V_icmp_ge d_fe_fault_38 (fun c38 => ?_) (fun c38 => ?_)
    · skip
      exact absurd (geN c38 (by omega)) (by omega)
    · skip
      refine V_aload_n d_fe_fault_41 rfl rfl ?_
      refine V_iload d_fe_fault_42 rfl ?_
      refine V_aload_n d_fe_fault_44 rfl rfl ?_
      refine V_getf d_fe_fault_45 fl_fe_381 P1.1 rfl ?_
      refine V_iload d_fe_fault_48 rfl ?_
      refine V_iald i d_fe_fault_50 P2.1 rfl (by omega) (arrL_get _ (by omega)) ?_
      rw [eu]
      refine V_aload_n d_fe_fault_51 rfl rfl ?_
      refine V_getf d_fe_fault_52 fl_fe_384 P1.1 rfl ?_
      refine V_iload d_fe_fault_55 rfl ?_
      refine V_iald i d_fe_fault_57 P3.1 rfl (by omega) (arrL_get _ (by omega)) ?_
      rw [ew]
      refine V_callV (N := fe_judge) d_fe_fault_58 ml_fe_387 mdf_fe_judge wi_fe_judge wz_fe_judge (sp_fe_judge G R ivs ivf hs hx hok) (by first | assumption | exact X.1 | exact hu_self _ _ _ | (simp (disch := first | assumption | (apply Ne.symm; assumption)) only [hu_self, hu_ne]; assumption)) ⟨_, rfl, rfl⟩ rfl rfl (by decide) (by decide) (Nat.le_of_ble_eq_true rfl) rfl rfl (kI fun r58 h58 ⟨e58, z58⟩ => ?_)
      subst e58
      unfold fltF at hR
      refine V_istore d_fe_fault_61 (by decide) rfl rfl ?_
      dsimp only [List.set]
      refine V_iload d_fe_fault_63 rfl ?_
      refine V_iconst (v := -1) d_fe_fault_65 (by decide) ?_
      refine V_icmp_ne d_fe_fault_66 (fun c66 => ?_) (fun c66 => ?_)
      · skip
        refine V_iinc (v := _) d_fe_fault_72 rfl rfl (by decide) rfl rfl ?_
        dsimp only [List.set]
        refine V_goto d_fe_fault_75 ?_
        have hstd : stands s st x (s.2 35 (5 * p + i)) (s.2 36 (5 * p + i)) := Classical.byContradiction fun q => c66 (z58.f q)
        rw [show Int32.ofInt 1 = 1 from rfl, nI_1, z58.t hstd]
        rw [if_pos hstd] at hR
        obtain ⟨a, b⟩ := nx_ok ivs ivf hx hok hstd
        exact ih (i + 1) _ _ (by omega) b a hR
      · skip
        refine V_iload d_fe_fault_69 rfl ?_
        refine V_ireturn d_fe_fault_71 rfl ?_
        refine ⟨_, rfl, rfl, ?_⟩
        rw [hR, if_neg (fun q => by have := z58.t q; rw [c66] at this; exact atO_ne (by have := (nx_ok ivs ivf hx hok q).2; omega) this.symm)]
def R_flt (s : Mem) (v x r : Int32) : Prop := cs (iP s v ∧ iS s x) (r = fltF s v.toNatClampNeg (sp s v.toNatClampNeg) 0 1 x.toNatClampNeg) (r = -2)
theorem sp_fe_fault (G : Gk) {g : Gm} {h : Hp} {s : Mem} (R : RB g h s) (ivs : IvS s) (ivf : IvF s) (ivp : IvP s) (v x : Int32) : Ct G fe_fault [.ref (g.2 2), .int v, .int x] h (pI fun r h' => h = h' ∧ R_flt s v x r) := by
  have X := R.1
  have n10 := ivs.2.1
  have n16 := ivp.2.1
  obtain ⟨L, l1, l2, l3⟩ := R.2.2.2.1
  refine Ct.ofL (M := fe_fault) (lv := [some (.ref (g.2 2)), some (.int v), some (.int x), none, none, none]) mdf_fe_fault rfl (Nat.le_of_ble_eq_true rfl) rfl ?_
  refine V_aload_n d_fe_fault_0 rfl rfl ?_
  refine V_iload_n d_fe_fault_1 rfl rfl ?_
  refine V_callV (N := fe_isPath) d_fe_fault_2 ml_fe_372 mdf_fe_isPath wi_fe_isPath wz_fe_isPath (sp_fe_isPath G X ivp v) (by first | assumption | exact X.1 | exact hu_self _ _ _ | (simp (disch := first | assumption | (apply Ne.symm; assumption)) only [hu_self, hu_ne]; assumption)) ⟨_, rfl, rfl⟩ rfl rfl (by decide) (by decide) (Nat.le_of_ble_eq_true rfl) rfl rfl (kI fun r2 h2 ⟨e2, f2⟩ => ?_)
  subst e2 f2
  refine V_if_eq d_fe_fault_5 (fun c5 => ?_) (fun c5 => ?_)
  · skip
    refine V_bipush (v := -2) d_fe_fault_16 (by decide) ?_
    refine V_ireturn d_fe_fault_18 rfl ?_
    exact ⟨_, rfl, rfl, cs.mf (fun q => b01_e c5 q.1) rfl⟩
  · skip
    refine V_aload_n d_fe_fault_8 rfl rfl ?_
    refine V_iload_n d_fe_fault_9 rfl rfl ?_
    refine V_callV (N := fe_isShape) d_fe_fault_10 ml_fe_68 mdf_fe_isShape wi_fe_isShape wz_fe_isShape (sp_fe_isShape G X ivs _) (by first | assumption | exact X.1 | exact hu_self _ _ _ | (simp (disch := first | assumption | (apply Ne.symm; assumption)) only [hu_self, hu_ne]; assumption)) ⟨_, rfl, rfl⟩ rfl rfl (by decide) (by decide) (Nat.le_of_ble_eq_true rfl) rfl rfl (kI fun r10 h10 ⟨e10, f10⟩ => ?_)
    subst e10 f10
    refine V_if_ne d_fe_fault_13 (fun c13 => ?_) (fun c13 => ?_)
    · skip
      obtain ⟨p, hp, rfl⟩ := b01_ne c5
      obtain ⟨i, hi, rfl⟩ := b01_ne c13
      refine V_aload_n d_fe_fault_19 rfl rfl ?_
      refine V_getf d_fe_fault_20 fl_fe_23 (by first | assumption | exact X.1 | exact hu_self _ _ _ | (simp (disch := first | assumption | (apply Ne.symm; assumption)) only [hu_self, hu_ne]; assumption)) rfl ?_
      refine V_iload_n d_fe_fault_23 rfl rfl ?_
      refine V_aald p d_fe_fault_24 l2.1 (by decide) (by decide) rfl (by omega) (l3 p hp).1 ?_
      refine V_astore_n d_fe_fault_25 rfl (by decide) rfl rfl ?_
      dsimp only [List.set]
      refine V_iload_n d_fe_fault_26 rfl rfl ?_
      refine V_istore d_fe_fault_27 (by decide) rfl rfl ?_
      dsimp only [List.set]
      refine V_iconst (v := 0) d_fe_fault_29 (by decide) ?_
      refine V_istore d_fe_fault_30 (by decide) rfl rfl ?_
      dsimp only [List.set]
      exact (lp_cflt G R ivs ivf ivp hp _ (sp s p) 0 1 i (by omega) hi (Or.inr (Or.inl rfl)) rfl).mono (fun v' h' ⟨r, e, z1, z2⟩ => ⟨r, e, z1, cs.mt ⟨⟨p, hp, rfl⟩, ⟨i, hi, rfl⟩⟩ (by rw [cl p (by omega), cl i (by omega)]; exact z2)⟩)
    · skip
      refine V_bipush (v := -2) d_fe_fault_16 (by decide) ?_
      refine V_ireturn d_fe_fault_18 rfl ?_
      exact ⟨_, rfl, rfl, cs.mf (fun q => b01_e c13 q.2) rfl⟩
theorem sp_fe_count (G : Gk) {g : Gm} {h : Hp} {s : Mem} (R : RC G g h s) (ivh : IvH s) (w : Int32) : Ct G fe_count [.ref (g.2 2), .int w] h (pI fun r h' => h = h' ∧ r = cntM s w) := by
  have X := R.1.1
  obtain ⟨hz, dn, un, v, q1, q2, q3, q4, q5, q6, q7, q8⟩ := R.2
  obtain ⟨mcd, dd, hdd⟩ := q2.o
  obtain ⟨mcu, du, hdu⟩ := q3.o
  rcases q8 with ⟨z1, rfl⟩ | ⟨z1, x, es, rfl, y2, y3, y4, y5⟩
  · skip
    refine Ct.ofL (M := fe_count) (lv := [some (.ref (g.2 2)), some (.int w)]) mdf_fe_count rfl (Nat.le_of_ble_eq_true rfl) rfl ?_
    refine V_iload_n d_fe_count_0 rfl rfl ?_
    by_cases w1_0 : w = 0
    · skip
      subst w1_0
      refine V_tableIn (off := 43) (tgt := 44) d_fe_count_1 (by decide) (by decide) rfl (by decide) ?_
      refine V_aload_n d_fe_count_44 rfl rfl ?_
      refine V_getf d_fe_count_45 fl_fe_72 (by first | assumption | exact X.1 | exact hu_self _ _ _ | (simp (disch := first | assumption | (apply Ne.symm; assumption)) only [hu_self, hu_ne]; assumption)) rfl ?_
      refine V_ireturn d_fe_count_48 rfl ?_
      exact ⟨_, rfl, rfl, rfl⟩
    by_cases w1_1 : w = 1
    · skip
      subst w1_1
      refine V_tableIn (off := 48) (tgt := 49) d_fe_count_1 (by decide) (by decide) rfl (by decide) ?_
      refine V_aload_n d_fe_count_49 rfl rfl ?_
      refine V_getf d_fe_count_50 fl_fe_134 (by first | assumption | exact X.1 | exact hu_self _ _ _ | (simp (disch := first | assumption | (apply Ne.symm; assumption)) only [hu_self, hu_ne]; assumption)) rfl ?_
      refine V_ireturn d_fe_count_53 rfl ?_
      exact ⟨_, rfl, rfl, rfl⟩
    by_cases w1_2 : w = 2
    · skip
      subst w1_2
      refine V_tableIn (off := 53) (tgt := 54) d_fe_count_1 (by decide) (by decide) rfl (by decide) ?_
      refine V_aload_n d_fe_count_54 rfl rfl ?_
      refine V_getf d_fe_count_55 fl_fe_368 (by first | assumption | exact X.1 | exact hu_self _ _ _ | (simp (disch := first | assumption | (apply Ne.symm; assumption)) only [hu_self, hu_ne]; assumption)) rfl ?_
      refine V_ireturn d_fe_count_58 rfl ?_
      exact ⟨_, rfl, rfl, rfl⟩
    by_cases w1_3 : w = 3
    · skip
      subst w1_3
      refine V_tableIn (off := 58) (tgt := 59) d_fe_count_1 (by decide) (by decide) rfl (by decide) ?_
      refine V_aload_n d_fe_count_59 rfl rfl ?_
      refine V_getf d_fe_count_60 fl_fe_36 (by first | assumption | exact X.1 | exact hu_self _ _ _ | (simp (disch := first | assumption | (apply Ne.symm; assumption)) only [hu_self, hu_ne]; assumption)) rfl ?_
      refine V_getf d_fe_count_63 fl_fe_281 q1.1 rfl ?_
      refine V_callV (N := al_size) d_fe_count_66 ml_fe_275 mdf_al_size wi_al_size wz_al_size (sp_ls_size G q2) hdd ⟨_, rfl, rfl⟩ rfl rfl (by decide) (by decide) (Nat.le_of_ble_eq_true rfl) rfl rfl (kI fun r66 h66 ⟨e66, f66⟩ => ?_)
      subst e66 f66
      rw [q4, ← ivh.2.2.1]
      refine V_ireturn d_fe_count_69 rfl ?_
      exact ⟨_, rfl, rfl, rfl⟩
    by_cases w1_4 : w = 4
    · skip
      subst w1_4
      refine V_tableIn (off := 69) (tgt := 70) d_fe_count_1 (by decide) (by decide) rfl (by decide) ?_
      refine V_aload_n d_fe_count_70 rfl rfl ?_
      refine V_getf d_fe_count_71 fl_fe_36 (by first | assumption | exact X.1 | exact hu_self _ _ _ | (simp (disch := first | assumption | (apply Ne.symm; assumption)) only [hu_self, hu_ne]; assumption)) rfl ?_
      refine V_getf d_fe_count_74 fl_fe_288 q1.1 rfl ?_
      refine V_callV (N := al_size) d_fe_count_77 ml_fe_275 mdf_al_size wi_al_size wz_al_size (sp_ls_size G q3) hdu ⟨_, rfl, rfl⟩ rfl rfl (by decide) (by decide) (Nat.le_of_ble_eq_true rfl) rfl rfl (kI fun r77 h77 ⟨e77, f77⟩ => ?_)
      subst e77 f77
      rw [q5]
      refine V_ireturn d_fe_count_80 rfl ?_
      exact ⟨_, rfl, rfl, rfl⟩
    by_cases w1_5 : w = 5
    · skip
      subst w1_5
      refine V_tableIn (off := 80) (tgt := 81) d_fe_count_1 (by decide) (by decide) rfl (by decide) ?_
      refine V_aload_n d_fe_count_81 rfl rfl ?_
      refine V_getf d_fe_count_82 fl_fe_36 (by first | assumption | exact X.1 | exact hu_self _ _ _ | (simp (disch := first | assumption | (apply Ne.symm; assumption)) only [hu_self, hu_ne]; assumption)) rfl ?_
      refine V_getf d_fe_count_85 fl_fe_255 q1.1 rfl ?_
      refine V_ifnonnullN d_fe_count_88 ?_
      refine V_iconst (v := -1) d_fe_count_91 (by decide) ?_
      refine V_goto d_fe_count_92 ?_
      refine V_ireturn d_fe_count_108 rfl ?_
      exact ⟨_, rfl, rfl, by unfold cntM; simp [z1]⟩
    by_cases w1_6 : w = 6
    · skip
      subst w1_6
      refine V_tableIn (off := 108) (tgt := 109) d_fe_count_1 (by decide) (by decide) rfl (by decide) ?_
      refine V_aload_n d_fe_count_109 rfl rfl ?_
      refine V_getf d_fe_count_110 fl_fe_298 (by first | assumption | exact X.1 | exact hu_self _ _ _ | (simp (disch := first | assumption | (apply Ne.symm; assumption)) only [hu_self, hu_ne]; assumption)) rfl ?_
      refine V_ireturn d_fe_count_113 rfl ?_
      exact ⟨_, rfl, rfl, rfl⟩
    refine V_tableOut (tgt := 114) d_fe_count_1 (sw_out (n := 6) (fun k hk => by rcases (show k = 0 ∨ k = 1 ∨ k = 2 ∨ k = 3 ∨ k = 4 ∨ k = 5 ∨ k = 6 by omega) with rfl | rfl | rfl | rfl | rfl | rfl | rfl; exact w1_0; exact w1_1; exact w1_2; exact w1_3; exact w1_4; exact w1_5; exact w1_6)) (by decide) ?_
    refine V_bipush (v := -2) d_fe_count_114 (by decide) ?_
    refine V_ireturn d_fe_count_116 rfl ?_
    exact ⟨_, rfl, rfl, by unfold cntM; rw [if_neg w1_0, if_neg w1_1, if_neg w1_2, if_neg w1_3, if_neg w1_4, if_neg w1_5, if_neg w1_6]⟩
  · obtain ⟨mce, de, hde⟩ := y3.o
    refine Ct.ofL (M := fe_count) (lv := [some (.ref (g.2 2)), some (.int w)]) mdf_fe_count rfl (Nat.le_of_ble_eq_true rfl) rfl ?_
    refine V_iload_n d_fe_count_0 rfl rfl ?_
    by_cases w1_0 : w = 0
    · skip
      subst w1_0
      refine V_tableIn (off := 43) (tgt := 44) d_fe_count_1 (by decide) (by decide) rfl (by decide) ?_
      refine V_aload_n d_fe_count_44 rfl rfl ?_
      refine V_getf d_fe_count_45 fl_fe_72 (by first | assumption | exact X.1 | exact hu_self _ _ _ | (simp (disch := first | assumption | (apply Ne.symm; assumption)) only [hu_self, hu_ne]; assumption)) rfl ?_
      refine V_ireturn d_fe_count_48 rfl ?_
      exact ⟨_, rfl, rfl, rfl⟩
    by_cases w1_1 : w = 1
    · skip
      subst w1_1
      refine V_tableIn (off := 48) (tgt := 49) d_fe_count_1 (by decide) (by decide) rfl (by decide) ?_
      refine V_aload_n d_fe_count_49 rfl rfl ?_
      refine V_getf d_fe_count_50 fl_fe_134 (by first | assumption | exact X.1 | exact hu_self _ _ _ | (simp (disch := first | assumption | (apply Ne.symm; assumption)) only [hu_self, hu_ne]; assumption)) rfl ?_
      refine V_ireturn d_fe_count_53 rfl ?_
      exact ⟨_, rfl, rfl, rfl⟩
    by_cases w1_2 : w = 2
    · skip
      subst w1_2
      refine V_tableIn (off := 53) (tgt := 54) d_fe_count_1 (by decide) (by decide) rfl (by decide) ?_
      refine V_aload_n d_fe_count_54 rfl rfl ?_
      refine V_getf d_fe_count_55 fl_fe_368 (by first | assumption | exact X.1 | exact hu_self _ _ _ | (simp (disch := first | assumption | (apply Ne.symm; assumption)) only [hu_self, hu_ne]; assumption)) rfl ?_
      refine V_ireturn d_fe_count_58 rfl ?_
      exact ⟨_, rfl, rfl, rfl⟩
    by_cases w1_3 : w = 3
    · skip
      subst w1_3
      refine V_tableIn (off := 58) (tgt := 59) d_fe_count_1 (by decide) (by decide) rfl (by decide) ?_
      refine V_aload_n d_fe_count_59 rfl rfl ?_
      refine V_getf d_fe_count_60 fl_fe_36 (by first | assumption | exact X.1 | exact hu_self _ _ _ | (simp (disch := first | assumption | (apply Ne.symm; assumption)) only [hu_self, hu_ne]; assumption)) rfl ?_
      refine V_getf d_fe_count_63 fl_fe_281 q1.1 rfl ?_
      refine V_callV (N := al_size) d_fe_count_66 ml_fe_275 mdf_al_size wi_al_size wz_al_size (sp_ls_size G q2) hdd ⟨_, rfl, rfl⟩ rfl rfl (by decide) (by decide) (Nat.le_of_ble_eq_true rfl) rfl rfl (kI fun r66 h66 ⟨e66, f66⟩ => ?_)
      subst e66 f66
      rw [q4, ← ivh.2.2.1]
      refine V_ireturn d_fe_count_69 rfl ?_
      exact ⟨_, rfl, rfl, rfl⟩
    by_cases w1_4 : w = 4
    · skip
      subst w1_4
      refine V_tableIn (off := 69) (tgt := 70) d_fe_count_1 (by decide) (by decide) rfl (by decide) ?_
      refine V_aload_n d_fe_count_70 rfl rfl ?_
      refine V_getf d_fe_count_71 fl_fe_36 (by first | assumption | exact X.1 | exact hu_self _ _ _ | (simp (disch := first | assumption | (apply Ne.symm; assumption)) only [hu_self, hu_ne]; assumption)) rfl ?_
      refine V_getf d_fe_count_74 fl_fe_288 q1.1 rfl ?_
      refine V_callV (N := al_size) d_fe_count_77 ml_fe_275 mdf_al_size wi_al_size wz_al_size (sp_ls_size G q3) hdu ⟨_, rfl, rfl⟩ rfl rfl (by decide) (by decide) (Nat.le_of_ble_eq_true rfl) rfl rfl (kI fun r77 h77 ⟨e77, f77⟩ => ?_)
      subst e77 f77
      rw [q5]
      refine V_ireturn d_fe_count_80 rfl ?_
      exact ⟨_, rfl, rfl, rfl⟩
    by_cases w1_5 : w = 5
    · skip
      subst w1_5
      refine V_tableIn (off := 80) (tgt := 81) d_fe_count_1 (by decide) (by decide) rfl (by decide) ?_
      refine V_aload_n d_fe_count_81 rfl rfl ?_
      refine V_getf d_fe_count_82 fl_fe_36 (by first | assumption | exact X.1 | exact hu_self _ _ _ | (simp (disch := first | assumption | (apply Ne.symm; assumption)) only [hu_self, hu_ne]; assumption)) rfl ?_
      refine V_getf d_fe_count_85 fl_fe_255 q1.1 rfl ?_
      refine V_ifnonnull d_fe_count_88 ?_
      refine V_aload_n d_fe_count_95 rfl rfl ?_
      refine V_getf d_fe_count_96 fl_fe_36 (by first | assumption | exact X.1 | exact hu_self _ _ _ | (simp (disch := first | assumption | (apply Ne.symm; assumption)) only [hu_self, hu_ne]; assumption)) rfl ?_
      refine V_getf d_fe_count_99 fl_fe_255 q1.1 rfl ?_
      refine V_getf d_fe_count_102 fl_fe_262 y2.1 rfl ?_
      refine V_callV (N := al_size) d_fe_count_105 ml_fe_275 mdf_al_size wi_al_size wz_al_size (sp_ls_size G y3) hde ⟨_, rfl, rfl⟩ rfl rfl (by decide) (by decide) (Nat.le_of_ble_eq_true rfl) rfl rfl (kI fun r105 h105 ⟨e105, f105⟩ => ?_)
      subst e105 f105
      rw [y4]
      refine V_ireturn d_fe_count_108 rfl ?_
      exact ⟨_, rfl, rfl, by unfold cntM; simp [z1]⟩
    by_cases w1_6 : w = 6
    · skip
      subst w1_6
      refine V_tableIn (off := 108) (tgt := 109) d_fe_count_1 (by decide) (by decide) rfl (by decide) ?_
      refine V_aload_n d_fe_count_109 rfl rfl ?_
      refine V_getf d_fe_count_110 fl_fe_298 (by first | assumption | exact X.1 | exact hu_self _ _ _ | (simp (disch := first | assumption | (apply Ne.symm; assumption)) only [hu_self, hu_ne]; assumption)) rfl ?_
      refine V_ireturn d_fe_count_113 rfl ?_
      exact ⟨_, rfl, rfl, rfl⟩
    refine V_tableOut (tgt := 114) d_fe_count_1 (sw_out (n := 6) (fun k hk => by rcases (show k = 0 ∨ k = 1 ∨ k = 2 ∨ k = 3 ∨ k = 4 ∨ k = 5 ∨ k = 6 by omega) with rfl | rfl | rfl | rfl | rfl | rfl | rfl; exact w1_0; exact w1_1; exact w1_2; exact w1_3; exact w1_4; exact w1_5; exact w1_6)) (by decide) ?_
    refine V_bipush (v := -2) d_fe_count_114 (by decide) ?_
    refine V_ireturn d_fe_count_116 rfl ?_
    exact ⟨_, rfl, rfl, by unfold cntM; rw [if_neg w1_0, if_neg w1_1, if_neg w1_2, if_neg w1_3, if_neg w1_4, if_neg w1_5, if_neg w1_6]⟩
theorem sp_fe_note (G : Gk) {g : Gm} {h : Hp} {s : Mem} (R : RB g h s) (ivw : IvW s) (v k w : Int32) : Ct G fe_note [.ref (g.2 2), .int v, .int k, .int w] h (pI fun r h' => h = h' ∧ r = noteM s v k w) := by
  have X := R.1
  have n10 := ivw.2.1
  obtain ⟨L, l1, l2, l3⟩ := R.2.2.2.2.1
  have hv0 : (0 ≤ v ∧ v ≤ s.1 25 - 1) ↔ ∃ i, i < nW s ∧ v = nI i := ⟨fun q => ix_of ivw.1 (by omega) q, fun ⟨i, a, b⟩ => Classical.byContradiction fun q => ix_no ivw.1 (by omega) q i a b⟩
  refine Ct.ofL (M := fe_note) (lv := [some (.ref (g.2 2)), some (.int v), some (.int k), some (.int w), none]) mdf_fe_note rfl (Nat.le_of_ble_eq_true rfl) rfl ?_
  refine V_iload_n d_fe_note_0 rfl rfl ?_
  refine V_if_lt d_fe_note_1 (fun c1 => ?_) (fun c1 => ?_)
  · skip
    refine V_bipush (v := -2) d_fe_note_21 (by decide) ?_
    refine V_ireturn d_fe_note_23 rfl ?_
    exact ⟨_, rfl, rfl, by rw [noteM, if_neg (fun q => absurd q.1.1 (Int32.not_le.mpr c1))]⟩
  · skip
    refine V_iload_n d_fe_note_4 rfl rfl ?_
    refine V_aload_n d_fe_note_5 rfl rfl ?_
    refine V_getf d_fe_note_6 fl_fe_298 (by first | assumption | exact X.1 | exact hu_self _ _ _ | (simp (disch := first | assumption | (apply Ne.symm; assumption)) only [hu_self, hu_ne]; assumption)) rfl ?_
    rw [ivw.1]
    refine V_icmp_ge d_fe_note_9 (fun c9 => ?_) (fun c9 => ?_)
    · skip
      refine V_bipush (v := -2) d_fe_note_21 (by decide) ?_
      refine V_ireturn d_fe_note_23 rfl ?_
      refine ⟨_, rfl, rfl, ?_⟩
      rw [noteM, if_neg (fun q => ?_)]
      obtain ⟨i, a, b⟩ := hv0.mp q.1
      rw [b] at c9
      exact nI_ge a (by omega) c9
    · skip
      refine V_iload_n d_fe_note_12 rfl rfl ?_
      refine V_if_lt d_fe_note_13 (fun c13 => ?_) (fun c13 => ?_)
      · skip
        refine V_bipush (v := -2) d_fe_note_21 (by decide) ?_
        refine V_ireturn d_fe_note_23 rfl ?_
        exact ⟨_, rfl, rfl, by rw [noteM, if_neg (fun q => absurd q.2.1 (Int32.not_le.mpr c13))]⟩
      · skip
        refine V_iload_n d_fe_note_16 rfl rfl ?_
        refine V_iconst (v := 2) d_fe_note_17 (by decide) ?_
        refine V_icmp_le d_fe_note_18 (fun c18 => ?_) (fun c18 => ?_)
        · skip
          obtain ⟨i, hi, rfl⟩ := ix_lt c1 c9 (by omega)
          have hv := hv0.mpr ⟨i, hi, rfl⟩
          obtain ⟨_, _, ewc, w40⟩ := ivw.2.2 i hi
          obtain ⟨W1, u, a, b, W2, W3, W4, W5⟩ := (l3 i hi).2
          rw [ewc] at W1
          have hk0 : (0 ≤ k ∧ k ≤ s.2 30 i - 1) ↔ ∃ j, j < wc s i ∧ k = nI j := ⟨fun q => ix_of ewc (by omega) q, fun ⟨j, a, b⟩ => Classical.byContradiction fun q => ix_no ewc (by omega) q j a b⟩
          have hw : 0 ≤ w ∧ w ≤ 2 := ⟨Int32.not_lt.mp c13, c18⟩
          refine V_aload_n d_fe_note_24 rfl rfl ?_
          refine V_getf d_fe_note_25 fl_fe_29 (by first | assumption | exact X.1 | exact hu_self _ _ _ | (simp (disch := first | assumption | (apply Ne.symm; assumption)) only [hu_self, hu_ne]; assumption)) rfl ?_
          refine V_iload_n d_fe_note_28 rfl rfl ?_
          refine V_aald i d_fe_note_29 l2.1 (by decide) (by decide) rfl (by omega) (l3 i hi).1 ?_
          refine V_astore d_fe_note_30 (by decide) rfl rfl ?_
          dsimp only [List.set]
          refine V_iload_n d_fe_note_32 rfl rfl ?_
          refine V_if_lt d_fe_note_33 (fun c33 => ?_) (fun c33 => ?_)
          · skip
            refine V_iconst (v := -1) d_fe_note_45 (by decide) ?_
            refine V_ireturn d_fe_note_46 rfl ?_
            exact ⟨_, rfl, rfl, by rw [noteM, if_pos ⟨hv, hw⟩, cl i (by omega), if_neg (fun q => absurd q.1 (Int32.not_le.mpr c33))]⟩
          · skip
            refine V_iload_n d_fe_note_36 rfl rfl ?_
            refine V_aload d_fe_note_37 rfl ?_
            refine V_getf d_fe_note_39 fl_fe_447 W1.1 rfl ?_
            refine V_icmp_lt d_fe_note_42 (fun c42 => ?_) (fun c42 => ?_)
            · skip
              obtain ⟨j, hj, rfl⟩ := ix_lt c33 (Int32.not_le.mpr c42) (by omega)
              obtain ⟨y1, y2, y3⟩ := W5 j hj
              obtain ⟨m, hm, rfl⟩ := ixle (n := 2) (by omega) hw
              have hN : ∀ r, r = s.2 31 (3 * (40 * i + j) + m) → r = noteM s (nI i) (nI j) (nI m) := fun r e => by rw [noteM, if_pos ⟨hv, hw⟩, cl i (by omega), cl j (by omega), cl m (by omega), if_pos (hk0.mpr ⟨j, hj, rfl⟩)]; exact e
              refine V_iload_n d_fe_note_47 rfl rfl ?_
              rcases (show m = 0 ∨ m = 1 ∨ m = 2 by omega) with rfl | rfl | rfl
              · skip
                refine V_lookup (off := 28) (tgt := 76) d_fe_note_48 (by decide) (by decide) (by decide) ?_
                refine V_aload d_fe_note_76 rfl ?_
                refine V_getf d_fe_note_78 fl_fe_448 W1.1 rfl ?_
                refine V_iload_n d_fe_note_81 rfl rfl ?_
                refine V_iald j d_fe_note_82 W2.1 rfl (by omega) (arrL_get _ (by omega)) ?_
                refine V_ireturn d_fe_note_83 rfl ?_
                exact ⟨_, rfl, rfl, hN _ (by rw [y1]; rfl)⟩
              · skip
                refine V_lookup (off := 36) (tgt := 84) d_fe_note_48 (by decide) (by decide) (by decide) ?_
                refine V_aload d_fe_note_84 rfl ?_
                refine V_getf d_fe_note_86 fl_fe_449 W1.1 rfl ?_
                refine V_iload_n d_fe_note_89 rfl rfl ?_
                refine V_iald j d_fe_note_90 W3.1 rfl (by omega) (arrL_get _ (by omega)) ?_
                refine V_ireturn d_fe_note_91 rfl ?_
                exact ⟨_, rfl, rfl, hN _ y2⟩
              · skip
                refine V_lookup (off := 44) (tgt := 92) d_fe_note_48 (by decide) (by decide) (by decide) ?_
                refine V_aload d_fe_note_92 rfl ?_
                refine V_getf d_fe_note_94 fl_fe_452 W1.1 rfl ?_
                refine V_iload_n d_fe_note_97 rfl rfl ?_
                refine V_iald j d_fe_note_98 W4.1 rfl (by omega) (arrL_get _ (by omega)) ?_
                refine V_ireturn d_fe_note_99 rfl ?_
                exact ⟨_, rfl, rfl, hN _ y3⟩
            · skip
              refine V_iconst (v := -1) d_fe_note_45 (by decide) ?_
              refine V_ireturn d_fe_note_46 rfl ?_
              refine ⟨_, rfl, rfl, ?_⟩
              rw [noteM, if_pos ⟨hv, hw⟩, cl i (by omega), if_neg (fun q => ?_)]
              obtain ⟨j, a, b⟩ := hk0.mp q
              rw [b] at c42
              exact c42 (nI_lt a (by omega))
        · skip
          refine V_bipush (v := -2) d_fe_note_21 (by decide) ?_
          refine V_ireturn d_fe_note_23 rfl ?_
          exact ⟨_, rfl, rfl, by rw [noteM, if_neg (fun q => c18 q.2.2)]⟩
