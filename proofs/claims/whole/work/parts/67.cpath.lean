/-! paths: path, step, fault -/
abbrev iP (s : Mem) (v : Int32) : Prop := ∃ p, p < nP s ∧ v = nI p
theorem sp_fe_isPath (G : Gk) {g : Gm} {h : Hp} {s : Mem} (X : PX g h s) (ivp : IvP s) (v : Int32) : Ct G fe_isPath [.ref (g.2 2), .int v] h (pI fun r h' => h = h' ∧ r = b01 (iP s v)) := by
  have n16 := ivp.2.1
  refine Ct.ofL (M := fe_isPath) (lv := [some (.ref (g.2 2)), some (.int v)]) mdf_fe_isPath rfl (Nat.le_of_ble_eq_true rfl) rfl ?_
  refine V_iload_n d_fe_isPath_0 rfl rfl ?_
  refine V_if_lt d_fe_isPath_1 (fun c1 => ?_) (fun c1 => ?_)
  · skip
    refine V_iconst (v := 0) d_fe_isPath_16 (by decide) ?_
    refine V_zreturn d_fe_isPath_17 rfl (by first | exact Or.inl rfl | exact Or.inr rfl) ?_
    exact ⟨_, rfl, rfl, (b01_f (fun ⟨i, h1, h2⟩ => by subst h2; exact nI_pos (by omega) c1)).symm⟩
  · skip
    refine V_iload_n d_fe_isPath_4 rfl rfl ?_
    refine V_aload_n d_fe_isPath_5 rfl rfl ?_
    refine V_getf d_fe_isPath_6 fl_fe_368 X.1 rfl ?_
    rw [ivp.1]
    refine V_icmp_ge d_fe_isPath_9 (fun c9 => ?_) (fun c9 => ?_)
    · skip
      refine V_iconst (v := 0) d_fe_isPath_16 (by decide) ?_
      refine V_zreturn d_fe_isPath_17 rfl (by first | exact Or.inl rfl | exact Or.inr rfl) ?_
      exact ⟨_, rfl, rfl, (b01_f (fun ⟨i, h1, h2⟩ => by subst h2; exact nI_ge h1 (by omega) c9)).symm⟩
    · skip
      refine V_iconst (v := 1) d_fe_isPath_12 (by decide) ?_
      refine V_goto d_fe_isPath_13 ?_
      refine V_zreturn d_fe_isPath_17 rfl (by first | exact Or.inl rfl | exact Or.inr rfl) ?_
      exact ⟨_, rfl, rfl, (b01_t (ix_lt c1 c9 (by omega))).symm⟩
theorem r5 {k : Int32} (h : 0 ≤ k ∧ k ≤ 4) : k = 0 ∨ k = 1 ∨ k = 2 ∨ k = 3 ∨ k = 4 := by
  obtain ⟨i, hi, rfl⟩ := ixle (n := 4) (by omega) h
  rcases (show i = 0 ∨ i = 1 ∨ i = 2 ∨ i = 3 ∨ i = 4 by omega) with rfl | rfl | rfl | rfl | rfl
  · exact Or.inl rfl
  · exact Or.inr (Or.inl rfl)
  · exact Or.inr (Or.inr (Or.inl rfl))
  · exact Or.inr (Or.inr (Or.inr (Or.inl rfl)))
  · exact Or.inr (Or.inr (Or.inr (Or.inr rfl)))
theorem sp_fe_isStep (G : Gk) {g : Gm} {h : Hp} {s : Mem} (X : PX g h s) (ivs : IvS s) (k n : Int32) : Ct G fe_isStep [.ref (g.2 2), .int k, .int n] h (pI fun r h' => h = h' ∧ r = b01 (StOK s k n)) := by
  refine Ct.ofL (M := fe_isStep) (lv := [some (.ref (g.2 2)), some (.int k), some (.int n)]) mdf_fe_isStep rfl (Nat.le_of_ble_eq_true rfl) rfl ?_
  refine V_iload_n d_fe_isStep_0 rfl rfl ?_
  by_cases w1_0 : k = 0
  · skip
    subst w1_0
    refine V_tableIn (off := 35) (tgt := 36) d_fe_isStep_1 (by decide) (by decide) rfl (by decide) ?_
    refine V_iload_n d_fe_isStep_36 rfl rfl ?_
    refine V_if_lt d_fe_isStep_37 (fun c37 => ?_) (fun c37 => ?_)
    · skip
      refine V_iconst (v := 0) d_fe_isStep_50 (by decide) ?_
      refine V_zreturn d_fe_isStep_51 rfl (by first | exact Or.inl rfl | exact Or.inr rfl) ?_
      exact ⟨_, rfl, rfl, (b01_f (fun q => absurd (q.2.1 rfl).1 (Int32.not_le.mpr c37))).symm⟩
    · skip
      refine V_iload_n d_fe_isStep_40 rfl rfl ?_
      refine V_bipush (v := 8) d_fe_isStep_41 (by decide) ?_
      refine V_icmp_ge d_fe_isStep_43 (fun c43 => ?_) (fun c43 => ?_)
      · skip
        refine V_iconst (v := 0) d_fe_isStep_50 (by decide) ?_
        refine V_zreturn d_fe_isStep_51 rfl (by first | exact Or.inl rfl | exact Or.inr rfl) ?_
        exact ⟨_, rfl, rfl, (b01_f (fun q => absurd (Int32.lt_of_lt_of_le (show (7 : Int32) < 8 by decide) c43) (Int32.not_lt.mpr (q.2.1 rfl).2))).symm⟩
      · skip
        refine V_iconst (v := 1) d_fe_isStep_46 (by decide) ?_
        refine V_goto d_fe_isStep_47 ?_
        refine V_zreturn d_fe_isStep_51 rfl (by first | exact Or.inl rfl | exact Or.inr rfl) ?_
        refine ⟨_, rfl, rfl, (b01_t ⟨⟨by decide, by decide⟩, fun _ => ?_, fun e => absurd e (by decide), fun e => absurd e (by decide)⟩).symm⟩
        obtain ⟨i, hi, rfl⟩ := ix_lt (n := 8) c37 c43 (by omega)
        exact ⟨Int32.not_lt.mp c37, nI_le (b := 7) (by omega) (by omega)⟩
  by_cases w1_1 : k = 1
  · skip
    subst w1_1
    refine V_tableIn (off := 51) (tgt := 52) d_fe_isStep_1 (by decide) (by decide) rfl (by decide) ?_
    refine V_iload_n d_fe_isStep_52 rfl rfl ?_
    refine V_if_lt d_fe_isStep_53 (fun c53 => ?_) (fun c53 => ?_)
    · skip
      refine V_iconst (v := 0) d_fe_isStep_66 (by decide) ?_
      refine V_zreturn d_fe_isStep_67 rfl (by first | exact Or.inl rfl | exact Or.inr rfl) ?_
      exact ⟨_, rfl, rfl, (b01_f (fun q => absurd (q.2.2.1 rfl).1 (Int32.not_le.mpr c53))).symm⟩
    · skip
      refine V_iload_n d_fe_isStep_56 rfl rfl ?_
      refine V_bipush (v := 6) d_fe_isStep_57 (by decide) ?_
      refine V_icmp_ge d_fe_isStep_59 (fun c59 => ?_) (fun c59 => ?_)
      · skip
        refine V_iconst (v := 0) d_fe_isStep_66 (by decide) ?_
        refine V_zreturn d_fe_isStep_67 rfl (by first | exact Or.inl rfl | exact Or.inr rfl) ?_
        exact ⟨_, rfl, rfl, (b01_f (fun q => absurd (Int32.lt_of_lt_of_le (show (5 : Int32) < 6 by decide) c59) (Int32.not_lt.mpr (q.2.2.1 rfl).2))).symm⟩
      · skip
        refine V_iconst (v := 1) d_fe_isStep_62 (by decide) ?_
        refine V_goto d_fe_isStep_63 ?_
        refine V_zreturn d_fe_isStep_67 rfl (by first | exact Or.inl rfl | exact Or.inr rfl) ?_
        refine ⟨_, rfl, rfl, (b01_t ⟨⟨by decide, by decide⟩, fun e => absurd e (by decide), fun _ => ?_, fun e => absurd e (by decide)⟩).symm⟩
        obtain ⟨i, hi, rfl⟩ := ix_lt (n := 6) c53 c59 (by omega)
        exact ⟨Int32.not_lt.mp c53, nI_le (b := 5) (by omega) (by omega)⟩
  by_cases w1_2 : k = 2
  · skip
    subst w1_2
    refine V_tableIn (off := 73) (tgt := 74) d_fe_isStep_1 (by decide) (by decide) rfl (by decide) ?_
    refine V_iload_n d_fe_isStep_74 rfl rfl ?_
    refine V_iconst (v := 2) d_fe_isStep_75 (by decide) ?_
    refine V_icmp_eq d_fe_isStep_76 (fun c76 => ?_) (fun c76 => ?_)
    · skip
      refine V_iconst (v := 1) d_fe_isStep_84 (by decide) ?_
      refine V_goto d_fe_isStep_85 ?_
      refine V_zreturn d_fe_isStep_89 rfl (by first | exact Or.inl rfl | exact Or.inr rfl) ?_
      first | exact absurd c76 w1_2 | exact absurd c81 w1_3 | exact ⟨_, rfl, rfl, (b01_f (fun q => (r5 q.1).elim w1_0 (fun q => q.elim w1_1 (fun q => q.elim w1_2 (fun q => q.elim w1_3 w1_4))))).symm⟩ | exact ⟨_, rfl, rfl, (b01_t ⟨⟨by decide, by decide⟩, fun e => absurd e (by decide), fun e => absurd e (by decide), fun e => absurd e (by decide)⟩).symm⟩ | exact absurd rfl c76 | exact absurd rfl c81
    · skip
      refine V_iload_n d_fe_isStep_79 rfl rfl ?_
      refine V_iconst (v := 3) d_fe_isStep_80 (by decide) ?_
      refine V_icmp_ne d_fe_isStep_81 (fun c81 => ?_) (fun c81 => ?_)
      · skip
        refine V_iconst (v := 0) d_fe_isStep_88 (by decide) ?_
        refine V_zreturn d_fe_isStep_89 rfl (by first | exact Or.inl rfl | exact Or.inr rfl) ?_
        first | exact absurd c76 w1_2 | exact absurd c81 w1_3 | exact ⟨_, rfl, rfl, (b01_f (fun q => (r5 q.1).elim w1_0 (fun q => q.elim w1_1 (fun q => q.elim w1_2 (fun q => q.elim w1_3 w1_4))))).symm⟩ | exact ⟨_, rfl, rfl, (b01_t ⟨⟨by decide, by decide⟩, fun e => absurd e (by decide), fun e => absurd e (by decide), fun e => absurd e (by decide)⟩).symm⟩ | exact absurd rfl c76 | exact absurd rfl c81
      · skip
        refine V_iconst (v := 1) d_fe_isStep_84 (by decide) ?_
        refine V_goto d_fe_isStep_85 ?_
        refine V_zreturn d_fe_isStep_89 rfl (by first | exact Or.inl rfl | exact Or.inr rfl) ?_
        first | exact absurd c76 w1_2 | exact absurd c81 w1_3 | exact ⟨_, rfl, rfl, (b01_f (fun q => (r5 q.1).elim w1_0 (fun q => q.elim w1_1 (fun q => q.elim w1_2 (fun q => q.elim w1_3 w1_4))))).symm⟩ | exact ⟨_, rfl, rfl, (b01_t ⟨⟨by decide, by decide⟩, fun e => absurd e (by decide), fun e => absurd e (by decide), fun e => absurd e (by decide)⟩).symm⟩ | exact absurd rfl c76 | exact absurd rfl c81
  by_cases w1_3 : k = 3
  · skip
    subst w1_3
    refine V_tableIn (off := 73) (tgt := 74) d_fe_isStep_1 (by decide) (by decide) rfl (by decide) ?_
    refine V_iload_n d_fe_isStep_74 rfl rfl ?_
    refine V_iconst (v := 2) d_fe_isStep_75 (by decide) ?_
    refine V_icmp_eq d_fe_isStep_76 (fun c76 => ?_) (fun c76 => ?_)
    · skip
      refine V_iconst (v := 1) d_fe_isStep_84 (by decide) ?_
      refine V_goto d_fe_isStep_85 ?_
      refine V_zreturn d_fe_isStep_89 rfl (by first | exact Or.inl rfl | exact Or.inr rfl) ?_
      first | exact absurd c76 w1_2 | exact absurd c81 w1_3 | exact ⟨_, rfl, rfl, (b01_f (fun q => (r5 q.1).elim w1_0 (fun q => q.elim w1_1 (fun q => q.elim w1_2 (fun q => q.elim w1_3 w1_4))))).symm⟩ | exact ⟨_, rfl, rfl, (b01_t ⟨⟨by decide, by decide⟩, fun e => absurd e (by decide), fun e => absurd e (by decide), fun e => absurd e (by decide)⟩).symm⟩ | exact absurd rfl c76 | exact absurd rfl c81
    · skip
      refine V_iload_n d_fe_isStep_79 rfl rfl ?_
      refine V_iconst (v := 3) d_fe_isStep_80 (by decide) ?_
      refine V_icmp_ne d_fe_isStep_81 (fun c81 => ?_) (fun c81 => ?_)
      · skip
        refine V_iconst (v := 0) d_fe_isStep_88 (by decide) ?_
        refine V_zreturn d_fe_isStep_89 rfl (by first | exact Or.inl rfl | exact Or.inr rfl) ?_
        first | exact absurd c76 w1_2 | exact absurd c81 w1_3 | exact ⟨_, rfl, rfl, (b01_f (fun q => (r5 q.1).elim w1_0 (fun q => q.elim w1_1 (fun q => q.elim w1_2 (fun q => q.elim w1_3 w1_4))))).symm⟩ | exact ⟨_, rfl, rfl, (b01_t ⟨⟨by decide, by decide⟩, fun e => absurd e (by decide), fun e => absurd e (by decide), fun e => absurd e (by decide)⟩).symm⟩ | exact absurd rfl c76 | exact absurd rfl c81
      · skip
        refine V_iconst (v := 1) d_fe_isStep_84 (by decide) ?_
        refine V_goto d_fe_isStep_85 ?_
        refine V_zreturn d_fe_isStep_89 rfl (by first | exact Or.inl rfl | exact Or.inr rfl) ?_
        first | exact absurd c76 w1_2 | exact absurd c81 w1_3 | exact ⟨_, rfl, rfl, (b01_f (fun q => (r5 q.1).elim w1_0 (fun q => q.elim w1_1 (fun q => q.elim w1_2 (fun q => q.elim w1_3 w1_4))))).symm⟩ | exact ⟨_, rfl, rfl, (b01_t ⟨⟨by decide, by decide⟩, fun e => absurd e (by decide), fun e => absurd e (by decide), fun e => absurd e (by decide)⟩).symm⟩ | exact absurd rfl c76 | exact absurd rfl c81
  by_cases w1_4 : k = 4
  · skip
    subst w1_4
    refine V_tableIn (off := 67) (tgt := 68) d_fe_isStep_1 (by decide) (by decide) rfl (by decide) ?_
    refine V_aload_n d_fe_isStep_68 rfl rfl ?_
    refine V_iload_n d_fe_isStep_69 rfl rfl ?_
    refine V_callV (N := fe_isShape) d_fe_isStep_70 ml_fe_68 mdf_fe_isShape wi_fe_isShape wz_fe_isShape (sp_fe_isShape G X ivs _) (by first | assumption | exact X.1 | exact hu_self _ _ _ | (simp (disch := first | assumption | (apply Ne.symm; assumption)) only [hu_self, hu_ne]; assumption)) ⟨_, rfl, rfl⟩ rfl rfl (by decide) (by decide) (Nat.le_of_ble_eq_true rfl) rfl rfl (kI fun r70 h70 ⟨e70, f70⟩ => ?_)
    subst e70 f70
    refine V_zreturn d_fe_isStep_73 rfl (b01_or _) ?_
    exact ⟨_, rfl, rfl, b01_i ⟨fun q => ⟨⟨by decide, by decide⟩, fun e => absurd e (by decide), fun e => absurd e (by decide), fun _ => (isSh_iff ivs n).mpr q⟩, fun q => (isSh_iff ivs n).mp (q.2.2.2 rfl)⟩⟩
  refine V_tableOut (tgt := 74) d_fe_isStep_1 (sw_out (n := 4) (fun k hk => by rcases (show k = 0 ∨ k = 1 ∨ k = 2 ∨ k = 3 ∨ k = 4 by omega) with rfl | rfl | rfl | rfl | rfl; exact w1_0; exact w1_1; exact w1_2; exact w1_3; exact w1_4)) (by decide) ?_
  refine V_iload_n d_fe_isStep_74 rfl rfl ?_
  refine V_iconst (v := 2) d_fe_isStep_75 (by decide) ?_
  refine V_icmp_eq d_fe_isStep_76 (fun c76 => ?_) (fun c76 => ?_)
  · skip
    refine V_iconst (v := 1) d_fe_isStep_84 (by decide) ?_
    refine V_goto d_fe_isStep_85 ?_
    refine V_zreturn d_fe_isStep_89 rfl (by first | exact Or.inl rfl | exact Or.inr rfl) ?_
    first | exact absurd c76 w1_2 | exact absurd c81 w1_3 | exact ⟨_, rfl, rfl, (b01_f (fun q => (r5 q.1).elim w1_0 (fun q => q.elim w1_1 (fun q => q.elim w1_2 (fun q => q.elim w1_3 w1_4))))).symm⟩ | exact ⟨_, rfl, rfl, (b01_t ⟨⟨by decide, by decide⟩, fun e => absurd e (by decide), fun e => absurd e (by decide), fun e => absurd e (by decide)⟩).symm⟩ | exact absurd rfl c76 | exact absurd rfl c81
  · skip
    refine V_iload_n d_fe_isStep_79 rfl rfl ?_
    refine V_iconst (v := 3) d_fe_isStep_80 (by decide) ?_
    refine V_icmp_ne d_fe_isStep_81 (fun c81 => ?_) (fun c81 => ?_)
    · skip
      refine V_iconst (v := 0) d_fe_isStep_88 (by decide) ?_
      refine V_zreturn d_fe_isStep_89 rfl (by first | exact Or.inl rfl | exact Or.inr rfl) ?_
      first | exact absurd c76 w1_2 | exact absurd c81 w1_3 | exact ⟨_, rfl, rfl, (b01_f (fun q => (r5 q.1).elim w1_0 (fun q => q.elim w1_1 (fun q => q.elim w1_2 (fun q => q.elim w1_3 w1_4))))).symm⟩ | exact ⟨_, rfl, rfl, (b01_t ⟨⟨by decide, by decide⟩, fun e => absurd e (by decide), fun e => absurd e (by decide), fun e => absurd e (by decide)⟩).symm⟩ | exact absurd rfl c76 | exact absurd rfl c81
    · skip
      refine V_iconst (v := 1) d_fe_isStep_84 (by decide) ?_
      refine V_goto d_fe_isStep_85 ?_
      refine V_zreturn d_fe_isStep_89 rfl (by first | exact Or.inl rfl | exact Or.inr rfl) ?_
      first | exact absurd c76 w1_2 | exact absurd c81 w1_3 | exact ⟨_, rfl, rfl, (b01_f (fun q => (r5 q.1).elim w1_0 (fun q => q.elim w1_1 (fun q => q.elim w1_2 (fun q => q.elim w1_3 w1_4))))).symm⟩ | exact ⟨_, rfl, rfl, (b01_t ⟨⟨by decide, by decide⟩, fun e => absurd e (by decide), fun e => absurd e (by decide), fun e => absurd e (by decide)⟩).symm⟩ | exact absurd rfl c76 | exact absurd rfl c81
def R_pth (s : Mem) (r : Int32) (t : Mem) : Prop := cs (nP s = 16) (No s (-4) r t) (r = nI (nP s) ∧ t = mF (mA s 34 (nP s) 0) 33 (nI (nP s + 1)))
theorem Stq.tri {g : Gm} {h : Hp} {q p u : Nat} (r r1 r2 : Nat) (c c1 c2 : Nat × List Value) (hq : h q = none) (hp : h p = none) (hu' : h u = none) (n1 : u ≠ q) (n2 : u ≠ p) (n3 : q ≠ p) (m1 : r ≠ r1) (m2 : r ≠ r2) (m3 : r1 ≠ r2) : Stq g h (fun x => x ≠ r ∧ x ≠ r1 ∧ x ≠ r2) (ug (ug (ug g q r1) p r2) u r) (hu (hu (hu h q c1) p c2) u c) ∧ Cl (ug (ug (ug g q r1) p r2) u r) (hu (hu (hu h q c1) p c2) u c) r c ∧ Cl (ug (ug (ug g q r1) p r2) u r) (hu (hu (hu h q c1) p c2) u c) r1 c1 ∧ Cl (ug (ug (ug g q r1) p r2) u r) (hu (hu (hu h q c1) p c2) u c) r2 c2 := by
  have S1 : Stq g h (fun x => x ≠ r1) (ug g q r1) (hu h q c1) := Stq.fresh hq r1 c1
  have S2 : Stq (ug g q r1) (hu h q c1) (fun x => x ≠ r2) (ug (ug g q r1) p r2) (hu (hu h q c1) p c2) := Stq.fresh (by rw [hu_ne _ _ (Ne.symm n3)]; exact hp) r2 c2
  have S3 : Stq (ug (ug g q r1) p r2) (hu (hu h q c1) p c2) (fun x => x ≠ r) (ug (ug (ug g q r1) p r2) u r) (hu (hu (hu h q c1) p c2) u c) := Stq.fresh (by rw [hu_ne _ _ n2, hu_ne _ _ n1]; exact hu') r c
  exact ⟨((S1.mo (fun x hx => hx.2.1)).tr (S2.mo (fun x hx => hx.2.2))).tr (S3.mo (fun x hx => hx.1)), Cl.fresh _ _ _ _ _, ((Cl.fresh g h q r1 c1).st S2 m3).st S3 (Ne.symm m1), (Cl.fresh _ _ p r2 c2).st S3 (Ne.symm m2)⟩
theorem PP.grow {g : Gm} {h : Hp} {s : Mem} {L : List Value} {u v : Nat → Int32} (l1 : L.length = 16) (hn : nP s < 16) (C5 : Cl g h 5 (23, L.set (nP s) (.ref (g.2 (400 + nP s))))) (old : ∀ x, x < nP s → L[x]? = some (.ref (g.2 (400 + x))) ∧ PPi g h s x) (Ca : Cl g h (400 + nP s) (6, [.ref (g.2 (500 + nP s)), .ref (g.2 (600 + nP s)), .int 0])) (Cb : Cl g h (500 + nP s) (20, arrL 5 u)) (Cc : Cl g h (600 + nP s) (20, arrL 5 v)) : PP g h (mF (mA s 34 (nP s) 0) 33 (nI (nP s + 1))) := by
  have e2 : ∀ q, q ≠ 34 → (mF (mA s 34 (nP s) 0) 33 (nI (nP s + 1))).2 q = s.2 q := fun q hq => by rw [mF_2, mA_2n _ _ _ hq]
  have e34 : (mF (mA s 34 (nP s) 0) 33 (nI (nP s + 1))).2 34 = upd (s.2 34) (nP s) 0 := by rw [mF_2, mA_2s]
  have enP : nP (mF (mA s 34 (nP s) 0) 33 (nI (nP s + 1))) = nP s + 1 := by
    have e : nP (mF (mA s 34 (nP s) 0) 33 (nI (nP s + 1))) = ((mF (mA s 34 (nP s) 0) 33 (nI (nP s + 1))).1 33).toNatClampNeg := rfl
    rw [e, mF_1s]
    exact cl _ (by omega)
  refine ⟨_, by rw [List.length_set]; exact l1, C5, fun x hx => ?_⟩
  rw [enP] at hx
  by_cases z : x = nP s
  · subst z
    refine ⟨List.getElem?_set_self (by omega), ?_, u, v, Cb, Cc, fun i hi => ?_⟩
    · rw [e34, pk_us]; exact Ca
    · unfold sp at hi
      rw [e34, pk_us] at hi
      exact absurd hi (Nat.not_lt_zero _)
  · obtain ⟨o1, W1, u, v, W2, W3, W4⟩ := old x (by omega)
    refine ⟨by rw [List.getElem?_set_ne (by omega)]; exact o1, by rw [e34, pk_un z]; exact W1, u, v, W2, W3, fun i hi => ?_⟩
    unfold sp at hi
    rw [e34, pk_un z] at hi
    rw [e2 35 (by omega), e2 36 (by omega)]
    exact W4 i hi
theorem sp_fe_path (G : Gk) {g : Gm} {h : Hp} {s : Mem} (R : RB g h s) (hm : Sm s) (ivp : IvP s) : Ct G fe_path [.ref (g.2 2)] h (pI fun r h' => ∀ r' t, R_pth s r' t → r = r' ∧ Nx g h h' t) := by
  have X := R.1
  have n16 := ivp.2.1
  obtain ⟨RX, RS, RO, ⟨L, l1, l2, l3⟩, RW, RZ⟩ := id R
  have hX0 : h (g.2 2) = some (12, xfs g (s.1 0) (s.1 8) (nI (nP s)) (s.1 25)) := by have := X.1; rw [ivp.1] at this; exact this
  refine Ct.ofL (M := fe_path) (lv := [some (.ref (g.2 2))]) mdf_fe_path rfl (Nat.le_of_ble_eq_true rfl) rfl ?_
  refine V_aload_n d_fe_path_0 rfl rfl ?_
  refine V_getf d_fe_path_1 fl_fe_368 hX0 rfl ?_
  refine V_bipush (v := 16) d_fe_path_4 (by decide) ?_
  refine V_icmp_lt d_fe_path_6 (fun c6 => ?_) (fun c6 => ?_)
  · skip
    have hlt : nP s < 16 := by rcases Nat.lt_or_ge (nP s) 16 with z | z; exact z; exact absurd c6 (by rw [show nP s = 16 by omega]; decide)
    refine V.need (cr := (0 + 2) + 1) (sr := (0 + 10) + 3) ?_ (by decide) (by decide)
    refine V_aload_n d_fe_path_12 rfl rfl ?_
    refine V_getf d_fe_path_13 fl_fe_23 (by first | assumption | exact X.1 | exact hu_self _ _ _ | (simp (disch := first | assumption | (apply Ne.symm; assumption)) only [hu_self, hu_ne]; assumption)) rfl ?_
    refine V_aload_n d_fe_path_16 rfl rfl ?_
    refine V_getf d_fe_path_17 fl_fe_368 hX0 rfl ?_
    refine V_new (M := fe_path) d_fe_path_20 nw_fe_21 (fun q20 hq20 => ?_)
    refine V_dup d_fe_path_23 rfl ?_
    refine V_callN (N := pt_init) d_fe_path_24 ml_fe_371 mdf_pt_init wi_pt_init rfl rfl (sp_pt_init G (hu_self _ _ _)) rfl rfl (by decide) (by decide) (Nat.le_of_ble_eq_true rfl) rfl rfl (kN fun h24 ⟨q, p, hq, hp, nqp, e24⟩ => ?_)
    have n1 : q20 ≠ q := fun z => by rw [← z, hu_self] at hq; cases hq
    have n2 : q20 ≠ p := fun z => by rw [← z, hu_self] at hp; cases hp
    rw [hu_ne _ _ (Ne.symm n1)] at hq
    rw [hu_ne _ _ (Ne.symm n2)] at hp
    have e24' : h24 = hu (hu (hu h q (20, arrL 5 (fun _ => 0))) p (20, arrL 5 (fun _ => 0))) q20 (6, [.ref q, .ref p, .int 0]) := by rw [e24]; funext z; unfold hu; by_cases e1 : z = q20; (simp only [e1, if_true]); (simp only [e1, if_false])
    subst e24'
    obtain ⟨Sa, Ca, Cb, Cc⟩ := Stq.tri (g := g) (400 + nP s) (500 + nP s) (600 + nP s) (6, [.ref q, .ref p, .int 0]) (20, arrL 5 (fun _ => 0)) (20, arrL 5 (fun _ => 0)) hq hp hq20 n1 n2 nqp (by omega) (by omega) (by omega)
    have nX1 : g.2 2 ≠ q20 := fne hX0 hq20
    have nX2 : g.2 2 ≠ q := fne hX0 hq
    have nX3 : g.2 2 ≠ p := fne hX0 hp
    have n51 : g.2 5 ≠ q20 := fne l2.1 hq20
    have n52 : g.2 5 ≠ q := fne l2.1 hq
    have n53 : g.2 5 ≠ p := fne l2.1 hp
    have n25 : g.2 2 ≠ g.2 5 := X.ne l2 (by omega)
    refine V_aast (nP s) d_fe_path_27 (by rw [hu_ne _ _ n51, hu_ne _ _ n53, hu_ne _ _ n52]; exact l2.1) (hu_self _ _ _) rfl rfl (by omega) (by omega) ?_
    refine V_aload_n d_fe_path_28 rfl rfl ?_
    refine V_dup d_fe_path_29 rfl ?_
    refine V_getf d_fe_path_30 fl_fe_368 (by rw [hu_ne _ _ n25, hu_ne _ _ nX1, hu_ne _ _ nX3, hu_ne _ _ nX2]; exact hX0) rfl ?_
    refine V_dup_x1 d_fe_path_33 rfl rfl ?_
    refine V_iconst (v := 1) d_fe_path_34 (by decide) ?_
    refine V_iadd d_fe_path_35 ?_
    rw [nI_1]
    refine V_putf d_fe_path_36 fp_fe_368 rfl rfl (by rw [hu_ne _ _ n25, hu_ne _ _ nX1, hu_ne _ _ nX3, hu_ne _ _ nX2]; exact hX0) ?_
    refine V_ireturn d_fe_path_39 rfl ?_
    refine ⟨_, rfl, fun r' t hR => ?_⟩
    obtain ⟨w1, rfl⟩ := hR.f (by omega)
    have g2 : ∀ r, r ≠ 400 + nP s → r ≠ 500 + nP s → r ≠ 600 + nP s → (ug (ug (ug g q (500 + nP s)) p (600 + nP s)) q20 (400 + nP s)).2 r = g.2 r := fun r r1 r2 r3 => by rw [ug_2n _ _ r1, ug_2n _ _ r3, ug_2n _ _ r2]
    have ga : (ug (ug (ug g q (500 + nP s)) p (600 + nP s)) q20 (400 + nP s)).2 (400 + nP s) = q20 := ug_2 _ _ _
    have gb : (ug (ug (ug g q (500 + nP s)) p (600 + nP s)) q20 (400 + nP s)).2 (500 + nP s) = q := by rw [ug_2n _ _ (by omega), ug_2n _ _ (by omega), ug_2]
    have gc : (ug (ug (ug g q (500 + nP s)) p (600 + nP s)) q20 (400 + nP s)).2 (600 + nP s) = p := by rw [ug_2n _ _ (by omega), ug_2]
    have C5 := l2.st Sa ⟨by omega, by omega, by omega⟩
    have S5 := Stq.put (h := hu (hu (hu h q (20, arrL 5 (fun _ => 0))) p (20, arrL 5 (fun _ => 0))) q20 (6, [.ref q, .ref p, .int 0])) C5.2 (23, L.set (nP s) (.ref q20))
    have C5' := Cl.put (h := hu (hu (hu h q (20, arrL 5 (fun _ => 0))) p (20, arrL 5 (fun _ => 0))) q20 (6, [.ref q, .ref p, .int 0])) C5.2 (23, L.set (nP s) (.ref q20))
    have Cx := (Cl.st X Sa ⟨by omega, by omega, by omega⟩).st S5 (by omega)
    rw [g2 5 (by omega) (by omega) (by omega)] at S5 C5' Cx
    have S6 := Stq.put (h := hu (hu (hu (hu h q (20, arrL 5 (fun _ => 0))) p (20, arrL 5 (fun _ => 0))) q20 (6, [.ref q, .ref p, .int 0])) (g.2 5) (23, L.set (nP s) (.ref q20))) Cx.2 (12, xfs g (s.1 0) (s.1 8) (nI (nP s + 1)) (s.1 25))
    have Cx' := Cl.put (h := hu (hu (hu (hu h q (20, arrL 5 (fun _ => 0))) p (20, arrL 5 (fun _ => 0))) q20 (6, [.ref q, .ref p, .int 0])) (g.2 5) (23, L.set (nP s) (.ref q20))) Cx.2 (12, xfs g (s.1 0) (s.1 8) (nI (nP s + 1)) (s.1 25))
    rw [g2 2 (by omega) (by omega) (by omega)] at S6 Cx'
    have St : Stq g h (fun r => r ≠ 2 ∧ r ≠ 5 ∧ r ≠ 400 + nP s ∧ r ≠ 500 + nP s ∧ r ≠ 600 + nP s) _ _ := ((Sa.mo (fun r hr => hr.2.2)).tr (S5.mo (fun r hr => hr.2.1))).tr (S6.mo (fun r hr => hr.1))
    have e1 : ∀ q, q ≠ 33 → (mF (mA s 34 (nP s) 0) 33 (nI (nP s + 1))).1 q = s.1 q := fun q hq => mF_1n _ _ hq
    have e2 : ∀ q, q ≠ 34 → (mF (mA s 34 (nP s) 0) 33 (nI (nP s + 1))).2 q = s.2 q := fun q hq => by rw [mF_2, mA_2n _ _ _ hq]
    have e34 : (mF (mA s 34 (nP s) 0) 33 (nI (nP s + 1))).2 34 = upd (s.2 34) (nP s) 0 := by rw [mF_2, mA_2s]
    have enP : nP (mF (mA s 34 (nP s) 0) 33 (nI (nP s + 1))) = nP s + 1 := by have e : nP (mF (mA s 34 (nP s) 0) 33 (nI (nP s + 1))) = ((mF (mA s 34 (nP s) 0) 33 (nI (nP s + 1))).1 33).toNatClampNeg := rfl; rw [e, mF_1s]; exact cl _ (by omega)
    refine ⟨w1.symm, _, ⟨?_, ?_, ?_, ?_, ?_, ?_⟩, St.mo (fun r hr => by unfold KH at hr; omega), g2 2 (by omega) (by omega) (by omega)⟩
    · (unfold PX; rw [e1 0 (by omega), e1 8 (by omega), e1 25 (by omega), mF_1s, g2 3 (by omega) (by omega) (by omega), g2 4 (by omega) (by omega) (by omega), g2 5 (by omega) (by omega) (by omega), g2 6 (by omega) (by omega) (by omega), g2 7 (by omega) (by omega) (by omega), g2 8 (by omega) (by omega) (by omega), g2 9 (by omega) (by omega) (by omega), g2 12 (by omega) (by omega) (by omega), g2 16 (by omega) (by omega) (by omega), g2 17 (by omega) (by omega) (by omega)]; exact Cx')
    · exact (RS.st hm.1 St (by omega) (by omega) (fun r _ _ => by omega)).co (by unfold nS; rw [e1 0 (by omega)]) (fun i _ => ⟨by rw [e2 1 (by omega)], by rw [e2 2 (by omega)], by unfold uS nS nO; rw [e1 0 (by omega), e1 8 (by omega), e2 1 (by omega), e2 9 (by omega)], fun j _ => by unfold fdS; rw [e2 3 (by omega), e2 4 (by omega), e2 5 (by omega), e2 6 (by omega), e2 7 (by omega)]⟩)
    · exact (RO.st hm.2.1 St (by omega) (by omega) (fun r _ _ => by omega)).co (by unfold nO; rw [e1 8 (by omega)]) (fun o _ => by rw [e2 9 (by omega)]) (fun o _ => by unfold nf; rw [e2 2 (by omega)]) (fun o f _ _ => ⟨by unfold rowN sh; rw [e2 3 (by omega), e2 9 (by omega), e2 10 (by omega)], fun i _ => by unfold rowF sh; rw [e2 3 (by omega), e2 9 (by omega), e2 10 (by omega), e2 11 (by omega)]⟩)
    · exact PP.grow l1 hlt (by rw [ga]; exact C5'.st S6 (by omega)) (fun x hx => ⟨by rw [g2 (400 + x) (by omega) (by omega) (by omega)]; exact (l3 x hx).1, (l3 x hx).2.st St (by omega) (by omega) (by omega)⟩) (by rw [gb, gc]; exact (Ca.st S5 (by omega)).st S6 (by omega)) ((Cb.st S5 (by omega)).st S6 (by omega)) ((Cc.st S5 (by omega)).st S6 (by omega))
    · exact (RW.st hm.2.2.2 St (by omega) (fun r _ _ => by omega)).co (e1 25 (by omega)) (e2 26 (by omega)) (e2 27 (by omega)) (e2 28 (by omega)) (e2 29 (by omega)) (e2 30 (by omega)) (e2 31 (by omega))
    · exact RZ.st St (fun r _ _ => by omega)
  · skip
    refine V_bipush (v := -4) d_fe_path_9 (by decide) ?_
    refine V_ireturn d_fe_path_11 rfl ?_
    refine ⟨_, rfl, fun r' t hR => ?_⟩
    have e10 : nP s = 16 := (by rcases Nat.lt_or_ge (nP s) 16 with z | z; exact absurd (nI_lt z (by omega)) c6; omega)
    obtain ⟨w1, w2⟩ := hR.t e10
    exact ⟨w1.symm, Nx.rf R w2.co⟩
def R_stp (s : Mem) (v k n r : Int32) (t : Mem) : Prop := cs (iP s v ∧ StOK s k n) (cs (sp s v.toNatClampNeg = 5) (No s (-4) r t) (r = nI (sp s v.toNatClampNeg + 1) ∧ t = mA (mA (mA s 35 (5 * v.toNatClampNeg + sp s v.toNatClampNeg) k) 36 (5 * v.toNatClampNeg + sp s v.toNatClampNeg) n) 34 v.toNatClampNeg (nI (sp s v.toNatClampNeg + 1)))) (No s (-2) r t)
theorem RB.step {g : Gm} {h h' : Hp} {s : Mem} (R : RB g h s) (hm : Sm s) (ivp : IvP s) {p : Nat} {u v : Nat → Int32} {k n : Int32} (hp : p < nP s) (h5 : sp s p < 5) (hu' : ∀ i, i < sp s p → u i = s.2 35 (5 * p + i) ∧ v i = s.2 36 (5 * p + i)) (S : Stq g h (fun r => r ≠ 400 + p ∧ r ≠ 500 + p ∧ r ≠ 600 + p) g h') (c4 : Cl g h' (400 + p) (6, [.ref (g.2 (500 + p)), .ref (g.2 (600 + p)), .int (nI (sp s p + 1))])) (c5 : Cl g h' (500 + p) (20, arrL 5 (upd u (sp s p) k))) (c6 : Cl g h' (600 + p) (20, arrL 5 (upd v (sp s p) n))) : Nx g h h' (mA (mA (mA s 35 (5 * p + sp s p) k) 36 (5 * p + sp s p) n) 34 p (nI (sp s p + 1))) := by
  obtain ⟨RX, RS, RO, ⟨L, l1, l2, l3⟩, RW, RZ⟩ := R
  have n16 := ivp.2.1
  have e2 : ∀ q, q ≠ 34 → q ≠ 35 → q ≠ 36 → (mA (mA (mA s 35 (5 * p + sp s p) k) 36 (5 * p + sp s p) n) 34 p (nI (sp s p + 1))).2 q = s.2 q := fun q a b c => by rw [mA_2n _ _ _ a, mA_2n _ _ _ c, mA_2n _ _ _ b]
  have e34 : (mA (mA (mA s 35 (5 * p + sp s p) k) 36 (5 * p + sp s p) n) 34 p (nI (sp s p + 1))).2 34 = upd (s.2 34) p (nI (sp s p + 1)) := by rw [mA_2s, mA_2n _ _ _ (by omega), mA_2n _ _ _ (by omega)]
  have e35 : (mA (mA (mA s 35 (5 * p + sp s p) k) 36 (5 * p + sp s p) n) 34 p (nI (sp s p + 1))).2 35 = upd (s.2 35) (5 * p + sp s p) k := by rw [mA_2n _ _ _ (by omega), mA_2n _ _ _ (by omega), mA_2s]
  have e36 : (mA (mA (mA s 35 (5 * p + sp s p) k) 36 (5 * p + sp s p) n) 34 p (nI (sp s p + 1))).2 36 = upd (s.2 36) (5 * p + sp s p) n := by rw [mA_2n _ _ _ (by omega), mA_2s, mA_2n _ _ _ (by omega)]
  refine ⟨g, ⟨?_, ?_, ?_, ?_, ?_, ?_⟩, S.mo (fun r hr => by unfold KH at hr; omega), rfl⟩
  · exact (RX.sg S (by omega)).co rfl rfl rfl rfl
  · exact (RS.st hm.1 S (by omega) (by omega) (fun r _ _ => by omega)).co rfl (fun i _ => ⟨by rw [e2 1 (by omega) (by omega) (by omega)], by rw [e2 2 (by omega) (by omega) (by omega)], by unfold uS; rw [e2 1 (by omega) (by omega) (by omega), e2 9 (by omega) (by omega) (by omega)]; exact Iff.rfl, fun j _ => by unfold fdS; rw [e2 3 (by omega) (by omega) (by omega), e2 4 (by omega) (by omega) (by omega), e2 5 (by omega) (by omega) (by omega), e2 6 (by omega) (by omega) (by omega), e2 7 (by omega) (by omega) (by omega)]⟩)
  · exact (RO.st hm.2.1 S (by omega) (by omega) (fun r _ _ => by omega)).co rfl (fun o _ => by rw [e2 9 (by omega) (by omega) (by omega)]) (fun o _ => by unfold nf; rw [e2 2 (by omega) (by omega) (by omega)]) (fun o f _ _ => ⟨by unfold rowN sh; rw [e2 3 (by omega) (by omega) (by omega), e2 9 (by omega) (by omega) (by omega), e2 10 (by omega) (by omega) (by omega)], fun i _ => by unfold rowF sh; rw [e2 3 (by omega) (by omega) (by omega), e2 9 (by omega) (by omega) (by omega), e2 10 (by omega) (by omega) (by omega), e2 11 (by omega) (by omega) (by omega)]⟩)
  · refine ⟨L, l1, l2.st S (by omega), fun x hx => ⟨(l3 x hx).1, ?_⟩⟩
    have hx' : x < nP s := hx
    by_cases z : x = p
    · subst z
      have esp : sp (mA (mA (mA s 35 (5 * x + sp s x) k) 36 (5 * x + sp s x) n) 34 x (nI (sp s x + 1))) x = sp s x + 1 := by
        have e : sp (mA (mA (mA s 35 (5 * x + sp s x) k) 36 (5 * x + sp s x) n) 34 x (nI (sp s x + 1))) x = ((mA (mA (mA s 35 (5 * x + sp s x) k) 36 (5 * x + sp s x) n) 34 x (nI (sp s x + 1))).2 34 x).toNatClampNeg := rfl
        rw [e, e34, pk_us]
        exact cl _ (by omega)
      refine ⟨by rw [e34, pk_us]; exact c4, _, _, c5, c6, fun i hi => ?_⟩
      rw [esp] at hi
      rw [e35, e36]
      by_cases y : i = sp s x
      · subst y; rw [pk_us, pk_us, pk_us, pk_us]; exact ⟨rfl, rfl⟩
      · rw [pk_un y, pk_un y, pk_un (by omega), pk_un (by omega)]; exact hu' i (by omega)
    · obtain ⟨W1, u', v', W2, W3, W4⟩ := (l3 x hx').2.st S (by omega) (by omega) (by omega)
      refine ⟨by rw [e34, pk_un z]; exact W1, u', v', W2, W3, fun i hi => ?_⟩
      have ex : sp (mA (mA (mA s 35 (5 * p + sp s p) k) 36 (5 * p + sp s p) n) 34 p (nI (sp s p + 1))) x = sp s x := by
        have e : sp (mA (mA (mA s 35 (5 * p + sp s p) k) 36 (5 * p + sp s p) n) 34 p (nI (sp s p + 1))) x = ((mA (mA (mA s 35 (5 * p + sp s p) k) 36 (5 * p + sp s p) n) 34 p (nI (sp s p + 1))).2 34 x).toNatClampNeg := rfl
        rw [e, e34, pk_un z]
        rfl
      rw [ex] at hi
      have h5x := (ivp.2.2 x hx').2.1
      rw [e35, e36, pk_un (by omega), pk_un (by omega)]
      exact W4 i hi
  · exact (RW.st hm.2.2.2 S (by omega) (fun r _ _ => by omega)).co rfl (e2 26 (by omega) (by omega) (by omega)) (e2 27 (by omega) (by omega) (by omega)) (e2 28 (by omega) (by omega) (by omega)) (e2 29 (by omega) (by omega) (by omega)) (e2 30 (by omega) (by omega) (by omega)) (e2 31 (by omega) (by omega) (by omega))
  · exact RZ.st S (fun r _ _ => by omega)
theorem sp_fe_step (G : Gk) {g : Gm} {h : Hp} {s : Mem} (R : RB g h s) (hm : Sm s) (ivs : IvS s) (ivp : IvP s) (v k n : Int32) : Ct G fe_step [.ref (g.2 2), .int v, .int k, .int n] h (pI fun r h' => ∀ r' t, R_stp s v k n r' t → r = r' ∧ Nx g h h' t) := by
  have X := R.1
  have n16 := ivp.2.1
  obtain ⟨L, l1, l2, l3⟩ := R.2.2.2.1
  refine Ct.ofL (M := fe_step) (lv := [some (.ref (g.2 2)), some (.int v), some (.int k), some (.int n)]) mdf_fe_step rfl (Nat.le_of_ble_eq_true rfl) rfl ?_
  refine V_aload_n d_fe_step_0 rfl rfl ?_
  refine V_iload_n d_fe_step_1 rfl rfl ?_
  refine V_callV (N := fe_isPath) d_fe_step_2 ml_fe_372 mdf_fe_isPath wi_fe_isPath wz_fe_isPath (sp_fe_isPath G X ivp v) (by first | assumption | exact X.1 | exact hu_self _ _ _ | (simp (disch := first | assumption | (apply Ne.symm; assumption)) only [hu_self, hu_ne]; assumption)) ⟨_, rfl, rfl⟩ rfl rfl (by decide) (by decide) (Nat.le_of_ble_eq_true rfl) rfl rfl (kI fun r2 h2 ⟨e2, f2⟩ => ?_)
  subst e2 f2
  refine V_if_eq d_fe_step_5 (fun c5 => ?_) (fun c5 => ?_)
  · skip
    refine V_bipush (v := -2) d_fe_step_17 (by decide) ?_
    refine V_ireturn d_fe_step_19 rfl ?_
    refine ⟨_, rfl, fun r' t hR => ?_⟩
    obtain ⟨w1, w2⟩ := hR.f (fun q => b01_e c5 q.1)
    exact ⟨w1.symm, Nx.rf R w2.co⟩
  · skip
    refine V_aload_n d_fe_step_8 rfl rfl ?_
    refine V_iload_n d_fe_step_9 rfl rfl ?_
    refine V_iload_n d_fe_step_10 rfl rfl ?_
    refine V_callV (N := fe_isStep) d_fe_step_11 ml_fe_375 mdf_fe_isStep wi_fe_isStep wz_fe_isStep (sp_fe_isStep G X ivs k n) (by first | assumption | exact X.1 | exact hu_self _ _ _ | (simp (disch := first | assumption | (apply Ne.symm; assumption)) only [hu_self, hu_ne]; assumption)) ⟨_, rfl, rfl⟩ rfl rfl (by decide) (by decide) (Nat.le_of_ble_eq_true rfl) rfl rfl (kI fun r11 h11 ⟨e11, f11⟩ => ?_)
    subst e11 f11
    refine V_if_ne d_fe_step_14 (fun c14 => ?_) (fun c14 => ?_)
    · skip
      obtain ⟨p, hp, rfl⟩ := b01_ne c5
      have hst := b01_ne c14
      obtain ⟨esp, h5, _⟩ := ivp.2.2 p hp
      obtain ⟨P1, u, w, P2, P3, P4⟩ := (l3 p hp).2
      rw [esp] at P1
      have hR0 : ∀ r' t, R_stp s (nI p) k n r' t → _ := fun r' t (hR : R_stp s (nI p) k n r' t) => by unfold R_stp at hR; rw [cl p (by omega)] at hR; exact hR.t ⟨⟨p, hp, rfl⟩, hst⟩
      refine V_aload_n d_fe_step_20 rfl rfl ?_
      refine V_getf d_fe_step_21 fl_fe_23 (by first | assumption | exact X.1 | exact hu_self _ _ _ | (simp (disch := first | assumption | (apply Ne.symm; assumption)) only [hu_self, hu_ne]; assumption)) rfl ?_
      refine V_iload_n d_fe_step_24 rfl rfl ?_
      refine V_aald p d_fe_step_25 l2.1 (by decide) (by decide) rfl (by omega) (l3 p hp).1 ?_
      refine V_getf d_fe_step_26 fl_fe_378 P1.1 rfl ?_
      refine V_iconst (v := 5) d_fe_step_29 (by decide) ?_
      refine V_icmp_lt d_fe_step_30 (fun c30 => ?_) (fun c30 => ?_)
      · skip
        have hlt : sp s p < 5 := by rcases Nat.lt_or_ge (sp s p) 5 with z | z; exact z; exact absurd c30 (by rw [show sp s p = 5 by omega]; decide)
        refine V_aload_n d_fe_step_36 rfl rfl ?_
        refine V_getf d_fe_step_37 fl_fe_23 (by first | assumption | exact X.1 | exact hu_self _ _ _ | (simp (disch := first | assumption | (apply Ne.symm; assumption)) only [hu_self, hu_ne]; assumption)) rfl ?_
        refine V_iload_n d_fe_step_40 rfl rfl ?_
        refine V_aald p d_fe_step_41 l2.1 (by decide) (by decide) rfl (by omega) (l3 p hp).1 ?_
        refine V_iload_n d_fe_step_42 rfl rfl ?_
        refine V_iload_n d_fe_step_43 rfl rfl ?_
        refine V_callV (N := pt_append) d_fe_step_44 ml_fe_379 mdf_pt_append wi_pt_append wz_pt_append (sp_pt_append G P1.1 P2.1 P3.1 (P2.ne P3 (by omega)) hlt k n) P1.1 ⟨_, rfl, rfl⟩ rfl rfl (by decide) (by decide) (Nat.le_of_ble_eq_true rfl) rfl rfl (kI fun r44 h44 ⟨e44, d1, d2, d3, d4⟩ => ?_)
        refine V_ireturn d_fe_step_47 rfl ?_
        refine ⟨_, rfl, fun r' t hR => ?_⟩
        obtain ⟨w1, rfl⟩ := (hR0 r' t hR).f (by omega)
        have S : Stq g h (fun r => r ≠ 400 + p ∧ r ≠ 500 + p ∧ r ≠ 600 + p) g h44 := Stq.of (fun y _ hy => d4 y (fun e => hy.1 (by rw [e]; exact P1.2)) (fun e => hy.2.1 (by rw [e]; exact P2.2)) (fun e => hy.2.2 (by rw [e]; exact P3.2)))
        exact ⟨by rw [e44, w1], R.step hm ivp hp hlt P4 S ⟨d1, P1.2⟩ ⟨d2, P2.2⟩ ⟨d3, P3.2⟩⟩
      · skip
        refine V_bipush (v := -4) d_fe_step_33 (by decide) ?_
        refine V_ireturn d_fe_step_35 rfl ?_
        refine ⟨_, rfl, fun r' t hR => ?_⟩
        have e5 : sp s p = 5 := (by rcases Nat.lt_or_ge (sp s p) 5 with z | z; exact absurd (nI_lt z (by omega)) c30; omega)
        obtain ⟨w1, w2⟩ := (hR0 r' t hR).t e5
        exact ⟨w1.symm, Nx.rf R w2.co⟩
    · skip
      refine V_bipush (v := -2) d_fe_step_17 (by decide) ?_
      refine V_ireturn d_fe_step_19 rfl ?_
      refine ⟨_, rfl, fun r' t hR => ?_⟩
      obtain ⟨w1, w2⟩ := hR.f (fun q => b01_e c14 q.2)
      exact ⟨w1.symm, Nx.rf R w2.co⟩
/-- where a judged path stands, as the class writes it -/
def atO (st : Int32) (x : Nat) : Int32 := if st = 1 then nI x else if st = 2 then nI (10 + x) else nI 20
theorem sp_fe_judgeN (G : Gk) (h : Hp) : Ct G fe_judgeField [.null] h (pI fun r h' => h = h' ∧ r = -1) := by
  refine Ct.ofL (M := fe_judgeField) (lv := [some (.null)]) mdf_fe_judgeField rfl (Nat.le_of_ble_eq_true rfl) rfl ?_
  refine V_aload_nN d_fe_judgeField_0 rfl rfl ?_
  refine V_ifnonnullN d_fe_judgeField_1 ?_
  refine V_iconst (v := -1) d_fe_judgeField_4 (by decide) ?_
  refine V_ireturn d_fe_judgeField_5 rfl ?_
  exact ⟨_, rfl, rfl, rfl⟩
theorem sp_fe_judgeR (G : Gk) {h : Hp} {c : Nat} {k a b y fl : Int32} (hc : h c = some (2, fdV k a b y fl)) : Ct G fe_judgeField [.ref c] h (pI fun r h' => h = h' ∧ r = if k = 1 then a else if k = 2 then 10 + a else 20) := by
  refine Ct.ofL (M := fe_judgeField) (lv := [some (.ref c)]) mdf_fe_judgeField rfl (Nat.le_of_ble_eq_true rfl) rfl ?_
  refine V_aload_n d_fe_judgeField_0 rfl rfl ?_
  refine V_ifnonnull d_fe_judgeField_1 ?_
  refine V_aload_n d_fe_judgeField_6 rfl rfl ?_
  refine V_getf d_fe_judgeField_7 fl_fe_109 (by first | assumption | exact X.1 | exact hu_self _ _ _ | (simp (disch := first | assumption | (apply Ne.symm; assumption)) only [hu_self, hu_ne]; assumption)) rfl ?_
  refine V_iconst (v := 1) d_fe_judgeField_10 (by decide) ?_
  refine V_icmp_ne d_fe_judgeField_11 (fun c11 => ?_) (fun c11 => ?_)
  · skip
    refine V_aload_n d_fe_judgeField_19 rfl rfl ?_
    refine V_getf d_fe_judgeField_20 fl_fe_109 (by first | assumption | exact X.1 | exact hu_self _ _ _ | (simp (disch := first | assumption | (apply Ne.symm; assumption)) only [hu_self, hu_ne]; assumption)) rfl ?_
    refine V_iconst (v := 2) d_fe_judgeField_23 (by decide) ?_
    refine V_icmp_ne d_fe_judgeField_24 (fun c24 => ?_) (fun c24 => ?_)
    · skip
      refine V_bipush (v := 20) d_fe_judgeField_37 (by decide) ?_
      refine V_ireturn d_fe_judgeField_39 rfl ?_
      exact ⟨_, rfl, rfl, by rw [if_neg c11, if_neg c24]⟩
    · skip
      refine V_bipush (v := 10) d_fe_judgeField_27 (by decide) ?_
      refine V_aload_n d_fe_judgeField_29 rfl rfl ?_
      refine V_getf d_fe_judgeField_30 fl_fe_112 (by first | assumption | exact X.1 | exact hu_self _ _ _ | (simp (disch := first | assumption | (apply Ne.symm; assumption)) only [hu_self, hu_ne]; assumption)) rfl ?_
      refine V_iadd d_fe_judgeField_33 ?_
      refine V_goto d_fe_judgeField_34 ?_
      refine V_ireturn d_fe_judgeField_39 rfl ?_
      exact ⟨_, rfl, rfl, by rw [if_neg c11, if_pos c24]⟩
  · skip
    refine V_aload_n d_fe_judgeField_14 rfl rfl ?_
    refine V_getf d_fe_judgeField_15 fl_fe_112 (by first | assumption | exact X.1 | exact hu_self _ _ _ | (simp (disch := first | assumption | (apply Ne.symm; assumption)) only [hu_self, hu_ne]; assumption)) rfl ?_
    refine V_ireturn d_fe_judgeField_18 rfl ?_
    exact ⟨_, rfl, rfl, by rw [if_pos c11]⟩
theorem sp_fe_judge (G : Gk) {g : Gm} {h : Hp} {s : Mem} (R : RB g h s) (ivs : IvS s) (ivf : IvF s) {st : Int32} {x : Nat} {k n : Int32} (hst : st = 0 ∨ st = 1 ∨ st = 2) (hx : x < nS s) (hok : StOK s k n) : Ct G fe_judge [.ref (g.2 2), .int (atO st x), .int k, .int n] h (pI fun r h' => h = h' ∧ cs (stands s st x k n) (r = atO (nxSt s x k n) (nxSh s x k n)) (r = -1)) := by
  have X := R.1
  have n10 := ivs.2.1
  obtain ⟨L, l1, l2, l3⟩ := R.2.1
  have h1 : ¬ (10 : Int32) ≤ atO st x → st = 1 := fun q => by
    rcases hst with e | e | e
    · rw [e] at q; exact absurd (show (10 : Int32) ≤ nI 20 by decide) q
    · exact e
    · rw [e] at q; exact absurd (show (10 : Int32) ≤ nI (10 + x) from nI_le (a := 10) (by omega) (by omega)) q
  have h2 : (10 : Int32) ≤ atO st x → st ≠ 1 := fun q e => by
    rw [e] at q
    exact nI_ge (a := x) (b := 10) (by omega) (by omega) q
  have h3 : (20 : Int32) ≤ atO st x → st ≠ 2 := fun q e => by
    rw [e] at q
    exact nI_ge (a := 10 + x) (b := 20) (by omega) (by omega) q
  have h4 : ¬ (20 : Int32) ≤ atO st x → st ≠ 1 → st = 2 := fun q z => by
    rcases hst with e | e | e
    · rw [e] at q; exact absurd (show (20 : Int32) ≤ nI 20 by decide) q
    · exact absurd e z
    · exact e
  have e1 : st = 1 → atO st x = nI x := fun e => if_pos e
  rcases r5 hok.1 with rfl | rfl | rfl | rfl | rfl
  · skip
    refine Ct.ofL (M := fe_judge) (lv := [some (.ref (g.2 2)), some (.int (atO st x)), some (.int 0), some (.int n), none]) mdf_fe_judge rfl (Nat.le_of_ble_eq_true rfl) rfl ?_
    refine V_iload_n d_fe_judge_0 rfl rfl ?_
    refine V_bipush (v := 10) d_fe_judge_1 (by decide) ?_
    refine V_icmp_ge d_fe_judge_3 (fun c3 => ?_) (fun c3 => ?_)
    · skip
      refine V_iconst (v := 0) d_fe_judge_10 (by decide) ?_
      refine V_istore d_fe_judge_11 (by decide) rfl rfl ?_
      dsimp only [List.set]
      refine V_iload_n d_fe_judge_13 rfl rfl ?_
      refine V_lookup (off := 26) (tgt := 40) d_fe_judge_14 (by decide) (by decide) (by decide) ?_
      refine V_iload d_fe_judge_40 rfl ?_
      refine V_if_eq d_fe_judge_42 (fun c42 => ?_) (fun c42 => ?_)
      · skip
        refine V_iconst (v := -1) d_fe_judge_61 (by decide) ?_
        refine V_ireturn d_fe_judge_62 rfl ?_
        exact ⟨_, rfl, rfl, cs.mf (fun q => h2 c3 (by unfold stands at q; rw [if_pos rfl] at q; exact q.1)) rfl⟩
      · skip
        exact absurd rfl c42
    · skip
      refine V_iconst (v := 1) d_fe_judge_6 (by decide) ?_
      refine V_goto d_fe_judge_7 ?_
      refine V_istore d_fe_judge_11 (by decide) rfl rfl ?_
      dsimp only [List.set]
      refine V_iload_n d_fe_judge_13 rfl rfl ?_
      refine V_lookup (off := 26) (tgt := 40) d_fe_judge_14 (by decide) (by decide) (by decide) ?_
      refine V_iload d_fe_judge_40 rfl ?_
      refine V_if_eq d_fe_judge_42 (fun c42 => ?_) (fun c42 => ?_)
      · skip
        exact absurd c42 (by decide)
      · skip
        have st1 := h1 c3
        refine V_aload_n d_fe_judge_45 rfl rfl ?_
        refine V_getf d_fe_judge_46 fl_fe_11 (by first | assumption | exact X.1 | exact hu_self _ _ _ | (simp (disch := first | assumption | (apply Ne.symm; assumption)) only [hu_self, hu_ne]; assumption)) rfl ?_
        refine V_iload_n d_fe_judge_49 rfl rfl ?_
        refine V_aald x d_fe_judge_50 l2.1 (by decide) (by decide) (e1 st1) (by omega) (l3 x hx).1 ?_
        refine V_iload_n d_fe_judge_51 rfl rfl ?_
        refine V_callV (N := sh_fieldAt) d_fe_judge_52 ml_fe_105 mdf_sh_fieldAt wi_sh_fieldAt wz_sh_fieldAt (sp_fe_fieldAt G ivs hx (l3 x hx).2 n) (l3 x hx).2.1.1 ⟨_, rfl, rfl⟩ rfl rfl (by decide) (by decide) (Nat.le_of_ble_eq_true rfl) rfl rfl (kQ fun r52 h52 ⟨e52, z52⟩ => ?_)
        subst e52
        rcases z52 with ⟨no, rfl⟩ | ⟨j, c, hj, rfl, im, rfl⟩
        · skip
          refine V_callS (N := fe_judgeField) d_fe_judge_55 ml_fe_400 mdf_fe_judgeField ws_fe_judgeField (sp_fe_judgeN G h) rfl rfl (by decide) (by decide) (Nat.le_of_ble_eq_true rfl) rfl rfl (kI fun r55 h55 ⟨e55, f55⟩ => ?_)
          subst e55 f55
          refine V_goto d_fe_judge_58 ?_
          refine V_ireturn d_fe_judge_62 rfl ?_
          exact ⟨_, rfl, rfl, cs.mf (fun q => by unfold stands at q; rw [if_pos rfl] at q; obtain ⟨j, a, b⟩ := inF.ix ivs hx q.2; exact no j a b) rfl⟩
        · skip
          refine V_callS (N := fe_judgeField) d_fe_judge_55 ml_fe_400 mdf_fe_judgeField ws_fe_judgeField (sp_fe_judgeR G im.1) rfl rfl (by decide) (by decide) (Nat.le_of_ble_eq_true rfl) rfl rfl (kI fun r55 h55 ⟨e55, f55⟩ => ?_)
          subst e55 f55
          refine V_goto d_fe_judge_58 ?_
          refine V_ireturn d_fe_judge_62 rfl ?_
          refine ⟨_, rfl, rfl, cs.mt (by unfold stands; rw [if_pos rfl]; exact ⟨st1, inF_i ivs hx hj⟩) ?_⟩
          have n8 := (ivs.2.2.1 x hx).2
          unfold nxSt nxSh nxSt
          simp only [if_true]
          rw [cl j (by omega)]
          rcases ivf x hx j hj with y | ⟨y | y, tt, h1, h2⟩ | ⟨y, _⟩
          · (rw [y]; rfl)
          · (rw [y, h2]; show nI tt = nI (nI tt).toNatClampNeg; rw [cl tt (by omega)])
          · (rw [y, h2]; show 10 + nI tt = nI (10 + (nI tt).toNatClampNeg); rw [cl tt (by omega), show (10 : Int32) = nI 10 from rfl, nI_add])
          · (rw [y]; rfl)
  · skip
    refine Ct.ofL (M := fe_judge) (lv := [some (.ref (g.2 2)), some (.int (atO st x)), some (.int 1), some (.int n), none]) mdf_fe_judge rfl (Nat.le_of_ble_eq_true rfl) rfl ?_
    refine V_iload_n d_fe_judge_0 rfl rfl ?_
    refine V_bipush (v := 10) d_fe_judge_1 (by decide) ?_
    refine V_icmp_ge d_fe_judge_3 (fun c3 => ?_) (fun c3 => ?_)
    · skip
      refine V_iconst (v := 0) d_fe_judge_10 (by decide) ?_
      refine V_istore d_fe_judge_11 (by decide) rfl rfl ?_
      dsimp only [List.set]
      refine V_iload_n d_fe_judge_13 rfl rfl ?_
      refine V_lookup (off := 69) (tgt := 83) d_fe_judge_14 (by decide) (by decide) (by decide) ?_
      refine V_iload d_fe_judge_83 rfl ?_
      refine V_if_ne d_fe_judge_85 (fun c85 => ?_) (fun c85 => ?_)
      · skip
        exact absurd rfl c85
      · skip
        refine V_iload_n d_fe_judge_88 rfl rfl ?_
        refine V_bipush (v := 20) d_fe_judge_89 (by decide) ?_
        refine V_icmp_ge d_fe_judge_91 (fun c91 => ?_) (fun c91 => ?_)
        · skip
          refine V_iconst (v := -1) d_fe_judge_101 (by decide) ?_
          refine V_ireturn d_fe_judge_102 rfl ?_
          refine ⟨_, rfl, rfl, cs.mf (fun q => ?_) rfl⟩
          unfold stands at q
          rw [if_neg (by decide), if_neg (by decide)] at q
          exact h3 c91 q
        · skip
          refine V_iload_n d_fe_judge_94 rfl rfl ?_
          refine V_bipush (v := 10) d_fe_judge_95 (by decide) ?_
          refine V_isub d_fe_judge_97 ?_
          refine V_goto d_fe_judge_98 ?_
          refine V_ireturn d_fe_judge_102 rfl ?_
          have st2 := h4 c91 (h2 c3)
          refine ⟨_, rfl, rfl, cs.mt (by unfold stands; rw [if_neg (by decide), if_neg (by decide)]; exact st2) ?_⟩
          rw [st2]
          show nI (10 + x) - 10 = nI x
          rw [show (10 : Int32) = nI 10 from rfl, pk_sub (by omega), show 10 + x - 10 = x by omega]
    · skip
      refine V_iconst (v := 1) d_fe_judge_6 (by decide) ?_
      refine V_goto d_fe_judge_7 ?_
      refine V_istore d_fe_judge_11 (by decide) rfl rfl ?_
      dsimp only [List.set]
      refine V_iload_n d_fe_judge_13 rfl rfl ?_
      refine V_lookup (off := 69) (tgt := 83) d_fe_judge_14 (by decide) (by decide) (by decide) ?_
      refine V_iload d_fe_judge_83 rfl ?_
      refine V_if_ne d_fe_judge_85 (fun c85 => ?_) (fun c85 => ?_)
      · skip
        refine V_iconst (v := -1) d_fe_judge_101 (by decide) ?_
        refine V_ireturn d_fe_judge_102 rfl ?_
        refine ⟨_, rfl, rfl, cs.mf (fun q => ?_) rfl⟩
        unfold stands at q
        rw [if_neg (by decide), if_neg (by decide)] at q
        rw [h1 c3] at q
        exact absurd q (by decide)
      · skip
        exact absurd c85 (by decide)
  · skip
    refine Ct.ofL (M := fe_judge) (lv := [some (.ref (g.2 2)), some (.int (atO st x)), some (.int 2), some (.int n), none]) mdf_fe_judge rfl (Nat.le_of_ble_eq_true rfl) rfl ?_
    refine V_iload_n d_fe_judge_0 rfl rfl ?_
    refine V_bipush (v := 10) d_fe_judge_1 (by decide) ?_
    refine V_icmp_ge d_fe_judge_3 (fun c3 => ?_) (fun c3 => ?_)
    · skip
      refine V_iconst (v := 0) d_fe_judge_10 (by decide) ?_
      refine V_istore d_fe_judge_11 (by decide) rfl rfl ?_
      dsimp only [List.set]
      refine V_iload_n d_fe_judge_13 rfl rfl ?_
      refine V_lookup (off := 69) (tgt := 83) d_fe_judge_14 (by decide) (by decide) (by decide) ?_
      refine V_iload d_fe_judge_83 rfl ?_
      refine V_if_ne d_fe_judge_85 (fun c85 => ?_) (fun c85 => ?_)
      · skip
        exact absurd rfl c85
      · skip
        refine V_iload_n d_fe_judge_88 rfl rfl ?_
        refine V_bipush (v := 20) d_fe_judge_89 (by decide) ?_
        refine V_icmp_ge d_fe_judge_91 (fun c91 => ?_) (fun c91 => ?_)
        · skip
          refine V_iconst (v := -1) d_fe_judge_101 (by decide) ?_
          refine V_ireturn d_fe_judge_102 rfl ?_
          refine ⟨_, rfl, rfl, cs.mf (fun q => ?_) rfl⟩
          unfold stands at q
          rw [if_neg (by decide), if_neg (by decide)] at q
          exact h3 c91 q
        · skip
          refine V_iload_n d_fe_judge_94 rfl rfl ?_
          refine V_bipush (v := 10) d_fe_judge_95 (by decide) ?_
          refine V_isub d_fe_judge_97 ?_
          refine V_goto d_fe_judge_98 ?_
          refine V_ireturn d_fe_judge_102 rfl ?_
          have st2 := h4 c91 (h2 c3)
          refine ⟨_, rfl, rfl, cs.mt (by unfold stands; rw [if_neg (by decide), if_neg (by decide)]; exact st2) ?_⟩
          rw [st2]
          show nI (10 + x) - 10 = nI x
          rw [show (10 : Int32) = nI 10 from rfl, pk_sub (by omega), show 10 + x - 10 = x by omega]
    · skip
      refine V_iconst (v := 1) d_fe_judge_6 (by decide) ?_
      refine V_goto d_fe_judge_7 ?_
      refine V_istore d_fe_judge_11 (by decide) rfl rfl ?_
      dsimp only [List.set]
      refine V_iload_n d_fe_judge_13 rfl rfl ?_
      refine V_lookup (off := 69) (tgt := 83) d_fe_judge_14 (by decide) (by decide) (by decide) ?_
      refine V_iload d_fe_judge_83 rfl ?_
      refine V_if_ne d_fe_judge_85 (fun c85 => ?_) (fun c85 => ?_)
      · skip
        refine V_iconst (v := -1) d_fe_judge_101 (by decide) ?_
        refine V_ireturn d_fe_judge_102 rfl ?_
        refine ⟨_, rfl, rfl, cs.mf (fun q => ?_) rfl⟩
        unfold stands at q
        rw [if_neg (by decide), if_neg (by decide)] at q
        rw [h1 c3] at q
        exact absurd q (by decide)
      · skip
        exact absurd c85 (by decide)
  · skip
    refine Ct.ofL (M := fe_judge) (lv := [some (.ref (g.2 2)), some (.int (atO st x)), some (.int 3), some (.int n), none]) mdf_fe_judge rfl (Nat.le_of_ble_eq_true rfl) rfl ?_
    refine V_iload_n d_fe_judge_0 rfl rfl ?_
    refine V_bipush (v := 10) d_fe_judge_1 (by decide) ?_
    refine V_icmp_ge d_fe_judge_3 (fun c3 => ?_) (fun c3 => ?_)
    · skip
      refine V_iconst (v := 0) d_fe_judge_10 (by decide) ?_
      refine V_istore d_fe_judge_11 (by decide) rfl rfl ?_
      dsimp only [List.set]
      refine V_iload_n d_fe_judge_13 rfl rfl ?_
      refine V_lookup (off := 69) (tgt := 83) d_fe_judge_14 (by decide) (by decide) (by decide) ?_
      refine V_iload d_fe_judge_83 rfl ?_
      refine V_if_ne d_fe_judge_85 (fun c85 => ?_) (fun c85 => ?_)
      · skip
        exact absurd rfl c85
      · skip
        refine V_iload_n d_fe_judge_88 rfl rfl ?_
        refine V_bipush (v := 20) d_fe_judge_89 (by decide) ?_
        refine V_icmp_ge d_fe_judge_91 (fun c91 => ?_) (fun c91 => ?_)
        · skip
          refine V_iconst (v := -1) d_fe_judge_101 (by decide) ?_
          refine V_ireturn d_fe_judge_102 rfl ?_
          refine ⟨_, rfl, rfl, cs.mf (fun q => ?_) rfl⟩
          unfold stands at q
          rw [if_neg (by decide), if_neg (by decide)] at q
          exact h3 c91 q
        · skip
          refine V_iload_n d_fe_judge_94 rfl rfl ?_
          refine V_bipush (v := 10) d_fe_judge_95 (by decide) ?_
          refine V_isub d_fe_judge_97 ?_
          refine V_goto d_fe_judge_98 ?_
          refine V_ireturn d_fe_judge_102 rfl ?_
          have st2 := h4 c91 (h2 c3)
          refine ⟨_, rfl, rfl, cs.mt (by unfold stands; rw [if_neg (by decide), if_neg (by decide)]; exact st2) ?_⟩
          rw [st2]
          show nI (10 + x) - 10 = nI x
          rw [show (10 : Int32) = nI 10 from rfl, pk_sub (by omega), show 10 + x - 10 = x by omega]
    · skip
      refine V_iconst (v := 1) d_fe_judge_6 (by decide) ?_
      refine V_goto d_fe_judge_7 ?_
      refine V_istore d_fe_judge_11 (by decide) rfl rfl ?_
      dsimp only [List.set]
      refine V_iload_n d_fe_judge_13 rfl rfl ?_
      refine V_lookup (off := 69) (tgt := 83) d_fe_judge_14 (by decide) (by decide) (by decide) ?_
      refine V_iload d_fe_judge_83 rfl ?_
      refine V_if_ne d_fe_judge_85 (fun c85 => ?_) (fun c85 => ?_)
      · skip
        refine V_iconst (v := -1) d_fe_judge_101 (by decide) ?_
        refine V_ireturn d_fe_judge_102 rfl ?_
        refine ⟨_, rfl, rfl, cs.mf (fun q => ?_) rfl⟩
        unfold stands at q
        rw [if_neg (by decide), if_neg (by decide)] at q
        rw [h1 c3] at q
        exact absurd q (by decide)
      · skip
        exact absurd c85 (by decide)
  · skip
    refine Ct.ofL (M := fe_judge) (lv := [some (.ref (g.2 2)), some (.int (atO st x)), some (.int 4), some (.int n), none]) mdf_fe_judge rfl (Nat.le_of_ble_eq_true rfl) rfl ?_
    refine V_iload_n d_fe_judge_0 rfl rfl ?_
    refine V_bipush (v := 10) d_fe_judge_1 (by decide) ?_
    refine V_icmp_ge d_fe_judge_3 (fun c3 => ?_) (fun c3 => ?_)
    · skip
      refine V_iconst (v := 0) d_fe_judge_10 (by decide) ?_
      refine V_istore d_fe_judge_11 (by decide) rfl rfl ?_
      dsimp only [List.set]
      refine V_iload_n d_fe_judge_13 rfl rfl ?_
      refine V_lookup (off := 49) (tgt := 63) d_fe_judge_14 (by decide) (by decide) (by decide) ?_
      refine V_iload d_fe_judge_63 rfl ?_
      refine V_if_eq d_fe_judge_65 (fun c65 => ?_) (fun c65 => ?_)
      · skip
        refine V_iconst (v := -1) d_fe_judge_81 (by decide) ?_
        refine V_ireturn d_fe_judge_82 rfl ?_
        exact ⟨_, rfl, rfl, cs.mf (fun q => h2 c3 (by unfold stands at q; rw [if_neg (by decide), if_pos rfl] at q; exact q.1)) rfl⟩
      · skip
        exact absurd rfl c65
    · skip
      refine V_iconst (v := 1) d_fe_judge_6 (by decide) ?_
      refine V_goto d_fe_judge_7 ?_
      refine V_istore d_fe_judge_11 (by decide) rfl rfl ?_
      dsimp only [List.set]
      refine V_iload_n d_fe_judge_13 rfl rfl ?_
      refine V_lookup (off := 49) (tgt := 63) d_fe_judge_14 (by decide) (by decide) (by decide) ?_
      refine V_iload d_fe_judge_63 rfl ?_
      refine V_if_eq d_fe_judge_65 (fun c65 => ?_) (fun c65 => ?_)
      · skip
        exact absurd c65 (by decide)
      · skip
        have st1 := h1 c3
        obtain ⟨m, hm, rfl⟩ := (isSh_iff ivs n).mp (hok.2.2.2 rfl)
        rw [e1 st1]
        refine V_aload_n d_fe_judge_68 rfl rfl ?_
        refine V_iload_n d_fe_judge_69 rfl rfl ?_
        refine V_iload_n d_fe_judge_70 rfl rfl ?_
        refine V_callV (N := fe_isOf) d_fe_judge_71 ml_fe_232 mdf_fe_isOf wi_fe_isOf wz_fe_isOf (sp_fe_isOf G X R.2.1 ivs (nI m) (nI x) (nI_m1 (by omega)) (Or.inr ⟨m, hm, rfl⟩)) (by first | assumption | exact X.1 | exact hu_self _ _ _ | (simp (disch := first | assumption | (apply Ne.symm; assumption)) only [hu_self, hu_ne]; assumption)) ⟨_, rfl, rfl⟩ rfl rfl (by decide) (by decide) (Nat.le_of_ble_eq_true rfl) rfl rfl (kI fun r71 h71 ⟨e71, f71⟩ => ?_)
        subst e71 f71
        refine V_if_eq d_fe_judge_74 (fun c74 => ?_) (fun c74 => ?_)
        · skip
          refine V_iconst (v := -1) d_fe_judge_81 (by decide) ?_
          refine V_ireturn d_fe_judge_82 rfl ?_
          exact ⟨_, rfl, rfl, cs.mf (fun q => b01_e c74 (by unfold stands at q; rw [if_neg (by decide), if_pos rfl] at q; exact q.2)) rfl⟩
        · skip
          refine V_iload_n d_fe_judge_77 rfl rfl ?_
          refine V_goto d_fe_judge_78 ?_
          refine V_ireturn d_fe_judge_82 rfl ?_
          refine ⟨_, rfl, rfl, cs.mt (by unfold stands; rw [if_neg (by decide), if_pos rfl]; exact ⟨st1, b01_ne c74⟩) ?_⟩
          show nI m = nI (nI m).toNatClampNeg
          rw [cl m (by omega)]
