/-! digest -/
theorem kn_st {s : Mem} {o : Nat} {K0 : Nat → Int32} {f : Nat} : ∀ n, f < n → kn s o K0 n f = kn s o K0 (f + 1) f := by
  intro n
  induction n with
  | zero => intro h; omega
  | succ n ih =>
    intro h
    by_cases e : f = n
    · subst e; rfl
    · rw [kn, pk_un e]
      exact ih (by omega)
theorem lp_dgL (G : Gk) {h : Hp} {x t a r n y : Nat} {b a0 : Int64} {s : Mem} {f : Nat} (hr : h r = some (20, arrL n (fun i => s.2 11 (6 * y + i)))) (n6 : n ≤ 6) (post : Option Value → Hp → Prop)
    (K : ∀ (l10 l11 : Option Value), V G fe_digestOf post h 0 0 133 [some (.ref x), some (.ref t), some (.long b), none, some (.ref a), some (.long (dgL s y a0 n)), none, some (.int (nI f)), some (.ref r), some (.int (nI n)), l10, l11] []) : ∀ (c i : Nat) (l11 : Option Value), i + c = n →
    V G fe_digestOf post h 0 0 101 [some (.ref x), some (.ref t), some (.long b), none, some (.ref a), some (.long (dgL s y a0 i)), none, some (.int (nI f)), some (.ref r), some (.int (nI n)), some (.int (nI i)), l11] [] := by
  intro c
  induction c with
  | zero =>
    intro i l11 hi
    obtain rfl : i = n := by omega
    refine V_iload d_fe_digestOf_101 rfl ?_
    refine V_iload d_fe_digestOf_103 rfl ?_
    refine V_icmp_ge d_fe_digestOf_105 (fun c105 => ?_) (fun c105 => ?_)
    · skip
      exact K _ _
    · skip
      exact absurd (ltN c105 (by omega)) (by omega)
  | succ c ih =>
    intro i l11 hi
    refine V_iload d_fe_digestOf_101 rfl ?_
    refine V_iload d_fe_digestOf_103 rfl ?_
    refine V_icmp_ge d_fe_digestOf_105 (fun c105 => ?_) (fun c105 => ?_)
    · skip
      exact absurd (geN c105 (by omega)) (by omega)
    · skip
      refine V_aload d_fe_digestOf_108 rfl ?_
      refine V_iload d_fe_digestOf_110 rfl ?_
      refine V_iald i d_fe_digestOf_112 hr rfl (by omega) (arrL_get _ (by omega)) ?_
      refine V_istore d_fe_digestOf_113 (by decide) rfl rfl ?_
      dsimp only [List.set]
      refine V_ldc2 d_fe_digestOf_115 kc_fe_461 ?_
      refine V_lload d_fe_digestOf_118 rfl ?_
      refine V_lmul d_fe_digestOf_120 ?_
      refine V_iload d_fe_digestOf_121 rfl ?_
      refine V_i2l d_fe_digestOf_123 ?_
      refine V_ladd d_fe_digestOf_124 ?_
      refine V_lstore d_fe_digestOf_125 (by decide) rfl rfl ?_
      dsimp only [List.set]
      refine V_iinc (v := _) d_fe_digestOf_127 rfl rfl (by decide) rfl rfl ?_
      dsimp only [List.set]
      refine V_goto d_fe_digestOf_130 ?_
      rw [show Int32.ofInt 1 = 1 from rfl, nI_1]
      exact ih (i + 1) _ (by omega)
theorem lp_dgF (G : Gk) {g : Gm} {h : Hp} {s : Mem} (R : RB g h s) (ivs : IvS s) (ivo : IvO s) (ivv : IvV s) {o t : Nat} {b a0 : Int64} {K : Nat → Int32} (ho : o < nO s) (ht : h t = some (10, [.int (s.2 9 o), .ref (g.2 (300 + o))])) (hv : h (g.2 7) = some (20, arrL 8 K)) (hK : ∀ f, f < nf s (sh s o) → K f = valV s o f) : ∀ (c f : Nat) (l8 l9 l10 l11 : Option Value), f + c = nf s (sh s o) →
    V G fe_digestOf (pL fun r h' => h = h' ∧ r = dgF s o a0 (nf s (sh s o))) h 0 0 39 [some (.ref (g.2 2)), some (.ref t), some (.long b), none, some (.ref (g.2 (100 + sh s o))), some (.long (dgF s o a0 f)), none, some (.int (nI f)), l8, l9, l10, l11] [] := by
  have X := R.1
  have n60 := ivo.2.1
  obtain ⟨es, hs⟩ := ivo.2.2 o ho
  have n8 := (ivs.2.2.1 _ hs).2
  obtain ⟨L, l1, l2, l3⟩ := R.2.1
  obtain ⟨T, t1, t2, t3⟩ := R.2.2.1
  obtain ⟨a, u1, u2, W, w1, w2, w3⟩ := t3 o ho
  obtain ⟨L2, m1, m2, m3⟩ := (l3 _ hs).2.2
  have hsh := (l3 _ hs).2.at ivs hs
  intro c
  induction c with
  | zero =>
    intro f l8 l9 l10 l11 hf
    obtain rfl : f = nf s (sh s o) := by omega
    refine V_iload d_fe_digestOf_39 rfl ?_
    refine V_aload d_fe_digestOf_41 rfl ?_
    refine V_getf d_fe_digestOf_43 fl_fe_120 hsh rfl ?_
    refine V_icmp_ge d_fe_digestOf_46 (fun c46 => ?_) (fun c46 => ?_)
    · skip
      refine V_lload d_fe_digestOf_139 rfl ?_
      refine V_lreturn d_fe_digestOf_141 rfl ?_
      exact ⟨_, rfl, rfl, rfl⟩
    · skip
      exact absurd (ltN c46 (by omega)) (by omega)
  | succ c ih =>
    intro f l8 l9 l10 l11 hf
    obtain ⟨af, x1, x2⟩ := m3 f (by omega)
    obtain ⟨ar, y1, y2⟩ := w3 f (by omega)
    refine V_iload d_fe_digestOf_39 rfl ?_
    refine V_aload d_fe_digestOf_41 rfl ?_
    refine V_getf d_fe_digestOf_43 fl_fe_120 hsh rfl ?_
    refine V_icmp_ge d_fe_digestOf_46 (fun c46 => ?_) (fun c46 => ?_)
    · skip
      exact absurd (geN c46 (by omega)) (by omega)
    · skip
      refine V_ldc2 d_fe_digestOf_49 kc_fe_461 ?_
      refine V_lload d_fe_digestOf_52 rfl ?_
      refine V_lmul d_fe_digestOf_54 ?_
      refine V_aload_n d_fe_digestOf_55 rfl rfl ?_
      refine V_getf d_fe_digestOf_56 fl_fe_64 (by first | assumption | exact X.1 | exact hu_self _ _ _ | (simp (disch := first | assumption | (apply Ne.symm; assumption)) only [hu_self, hu_ne]; assumption)) rfl ?_
      refine V_iload d_fe_digestOf_59 rfl ?_
      refine V_iald f d_fe_digestOf_61 hv rfl (by omega) (arrL_get _ (by omega)) ?_
      rw [hK f (by omega)]
      refine V_i2l d_fe_digestOf_62 ?_
      refine V_ladd d_fe_digestOf_63 ?_
      refine V_lstore d_fe_digestOf_64 (by decide) rfl rfl ?_
      dsimp only [List.set]
      refine V_aload d_fe_digestOf_66 rfl ?_
      refine V_getf d_fe_digestOf_68 fl_fe_144 hsh rfl ?_
      refine V_iload d_fe_digestOf_71 rfl ?_
      refine V_aald f d_fe_digestOf_73 m2.1 (by decide) (by decide) rfl (by omega) x1 ?_
      refine V_getf d_fe_digestOf_74 fl_fe_109 x2.1 rfl ?_
      refine V_iconst (v := 2) d_fe_digestOf_77 (by decide) ?_
      refine V_icmp_eq d_fe_digestOf_78 (fun c78 => ?_) (fun c78 => ?_)
      · skip
        obtain ⟨len, q1, q2, q3, q4, q5, q6⟩ := row2 ivv ho (by omega) c78
        rw [q4, q5] at y2
        refine V_aload_n d_fe_digestOf_84 rfl rfl ?_
        refine V_getf d_fe_digestOf_85 fl_fe_140 ht rfl ?_
        refine V_iload d_fe_digestOf_88 rfl ?_
        refine V_aald f d_fe_digestOf_90 w2.1 (by decide) (by decide) rfl (by omega) y1 ?_
        refine V_astore d_fe_digestOf_91 (by decide) rfl rfl ?_
        dsimp only [List.set]
        refine V_aload d_fe_digestOf_93 rfl ?_
        refine V_alen d_fe_digestOf_95 y2.1 (by decide) (by decide) ?_
        rw [arrL_len]
        refine V_istore d_fe_digestOf_96 (by decide) rfl rfl ?_
        dsimp only [List.set]
        refine V_iconst (v := 0) d_fe_digestOf_98 (by decide) ?_
        refine V_istore d_fe_digestOf_99 (by decide) rfl rfl ?_
        dsimp only [List.set]
        refine lp_dgL G y2.1 q1 _ (fun l10 l11 => ?_) len 0 _ (by omega)
        refine V_iinc d_fe_digestOf_133 rfl rfl (by decide) rfl rfl ?_
        dsimp only [List.set]
        refine V_goto d_fe_digestOf_136 ?_
        rw [show Int32.ofInt 1 = 1 from rfl, nI_1]
        have e : dgF s o a0 (f + 1) = dgL s (8 * o + f) (31 * dgF s o a0 f + (valV s o f).toInt64) len := by rw [dgF, if_pos c78, q2, cl len (by omega)]
        rw [← e]
        exact ih (f + 1) _ _ _ _ (by omega)
      · skip
        refine V_goto d_fe_digestOf_81 ?_
        refine V_iinc (v := _) d_fe_digestOf_133 rfl rfl (by decide) rfl rfl ?_
        dsimp only [List.set]
        refine V_goto d_fe_digestOf_136 ?_
        rw [show Int32.ofInt 1 = 1 from rfl, nI_1]
        have e : dgF s o a0 (f + 1) = 31 * dgF s o a0 f + (valV s o f).toInt64 := by rw [dgF, if_neg c78]
        rw [← e]
        exact ih (f + 1) _ _ _ _ (by omega)
theorem sp_fe_digestOf (G : Gk) {g : Gm} {h : Hp} {s : Mem} (R : RB g h s) (hm : Sm s) (ivs : IvS s) (ivo : IvO s) (ivf : IvF s) (ivv : IvV s) (ivt : IvT s) {o t : Nat} (ho : o < nO s) (ht : h t = some (10, [.int (s.2 9 o), .ref (g.2 (300 + o))])) (b : Int64) : Ct G fe_digestOf [.ref (g.2 2), .ref t, .long b] h (pL fun r h' => r = dgF s o (31 * b + (s.2 9 o).toInt64) (nf s (sh s o)) ∧ RB g h' s ∧ Stq g h nSc g h') := by
  have X := R.1
  have n10 := ivs.2.1
  obtain ⟨es, hs⟩ := ivo.2.2 o ho
  obtain ⟨L, l1, l2, l3⟩ := R.2.1
  have hsh := (l3 _ hs).2.at ivs hs
  refine Ct.of (M := fe_digestOf) (lv := [some (.ref (g.2 2)), some (.ref t), some (.long b), none, none, none, none, none, none, none, none, none]) mdf_fe_digestOf.2.2.1 (Nat.le_of_ble_eq_true rfl) (fun i v hi => ?_) ?_
  · rcases (show i = 0 ∨ i = 1 ∨ i = 2 ∨ 3 ≤ i by omega) with e | e | e | e
    · subst e; cases hi; exact List.mem_cons_self
    · subst e; cases hi; exact List.mem_cons_of_mem _ List.mem_cons_self
    · subst e; cases hi; exact List.mem_cons_of_mem _ (List.mem_cons_of_mem _ List.mem_cons_self)
    · exfalso
      rcases (show i = 3 ∨ i = 4 ∨ i = 5 ∨ i = 6 ∨ i = 7 ∨ i = 8 ∨ i = 9 ∨ i = 10 ∨ i = 11 ∨ 12 ≤ i by omega) with z | z | z | z | z | z | z | z | z | z
      all_goals first | (subst z; cases hi) | (rw [List.getElem?_eq_none (by simpa using z)] at hi; cases hi)
  refine V_aload_n d_fe_digestOf_0 rfl rfl ?_
  refine V_getf d_fe_digestOf_1 fl_fe_11 (by first | assumption | exact X.1 | exact hu_self _ _ _ | (simp (disch := first | assumption | (apply Ne.symm; assumption)) only [hu_self, hu_ne]; assumption)) rfl ?_
  refine V_aload_n d_fe_digestOf_4 rfl rfl ?_
  refine V_getf d_fe_digestOf_5 fl_fe_163 ht rfl ?_
  refine V_aald (sh s o) d_fe_digestOf_8 l2.1 (by decide) (by decide) es (by omega) (l3 _ hs).1 ?_
  refine V_astore d_fe_digestOf_9 (by decide) rfl rfl ?_
  dsimp only [List.set]
  refine V_aload_n d_fe_digestOf_11 rfl rfl ?_
  refine V_aload_n d_fe_digestOf_12 rfl rfl ?_
  refine V_aload d_fe_digestOf_13 rfl ?_
  refine V_getf d_fe_digestOf_15 fl_fe_120 hsh rfl ?_
  refine V_iconst (v := 1) d_fe_digestOf_18 (by decide) ?_
  refine V_isub d_fe_digestOf_19 ?_
  refine V_callV (N := fe_fillValues) d_fe_digestOf_20 ml_fe_183 mdf_fe_fillValues wi_fe_fillValues wz_fe_fillValues (sp_fe_fillValues G R hm ivs ivo ivf ivv ivt ho (n := nf s (sh s o)) (Nat.le_refl _) ht) (by first | assumption | exact X.1 | exact hu_self _ _ _ | (simp (disch := first | assumption | (apply Ne.symm; assumption)) only [hu_self, hu_ne]; assumption)) ⟨_, rfl, rfl⟩ rfl rfl (by decide) (by decide) (Nat.le_of_ble_eq_true rfl) rfl rfl (kN fun h20 ⟨K0, e20⟩ => ?_)
  subst e20
  obtain ⟨R1, S1⟩ := R.vl hm (kn s o K0 (nf s (sh s o)))
  have ht1 : hu h (g.2 7) (20, arrL 8 (kn s o K0 (nf s (sh s o)))) t = some (10, [.int (s.2 9 o), .ref (g.2 (300 + o))]) := by obtain ⟨z, q⟩ := R.2.2.2.2.2.1; rw [hu_ne _ _ (kne ht q.1 (by decide))]; exact ht
  refine V_ldc2 d_fe_digestOf_23 kc_fe_461 ?_
  refine V_lload_n d_fe_digestOf_26 rfl rfl ?_
  refine V_lmul d_fe_digestOf_27 ?_
  refine V_aload_n d_fe_digestOf_28 rfl rfl ?_
  refine V_getf d_fe_digestOf_29 fl_fe_163 ht1 rfl ?_
  refine V_i2l d_fe_digestOf_32 ?_
  refine V_ladd d_fe_digestOf_33 ?_
  refine V_lstore d_fe_digestOf_34 (by decide) rfl rfl ?_
  dsimp only [List.set]
  refine V_iconst (v := 0) d_fe_digestOf_36 (by decide) ?_
  refine V_istore d_fe_digestOf_37 (by decide) rfl rfl ?_
  dsimp only [List.set]
  exact (lp_dgF G R1 ivs ivo ivv (a0 := 31 * b + (s.2 9 o).toInt64) ho ht1 (hu_self _ _ _) (fun f hf => by rw [kn_st _ hf]; exact kn_indep ivs ivo ivf ho K0 (fun _ => 0) (f + 1) (by omega) f (by omega)) (nf s (sh s o)) 0 none none none none (by omega)).mono (fun v h' ⟨r, e, z1, z2⟩ => ⟨r, e, z2, by rw [← z1]; exact R1, by rw [← z1]; exact S1⟩)
theorem lp_dgO (G : Gk) {g : Gm} {h0 : Hp} {s : Mem} (RC0 : RC G g h0 s) (hm : Sm s) (ivs : IvS s) (ivo : IvO s) (ivf : IvF s) (ivv : IvV s) (ivt : IvT s) : ∀ (c o : Nat) (h : Hp), o + c = nO s → RB g h s → Stq g h0 nSc g h →
    V G fe_digest (pL fun r h' => r = digM s ∧ RB g h' s ∧ Stq g h0 nSc g h') h 0 0 6 [some (.ref (g.2 2)), some (.long (dgO s o)), none, some (.int (nI o))] [] := by
  have n60 := ivo.2.1
  have n10 := ivs.2.1
  intro c
  induction c with
  | zero =>
    intro o h hf R S
    have X := R.1
    obtain rfl : o = nO s := by omega
    have H := (RC0.sc R S).2
    obtain ⟨hz, dn, un, v, q1, q2, q3, q4, q5, _⟩ := H
    obtain ⟨mcd, dd, hdd⟩ := q2.o
    obtain ⟨mcu, du, hdu⟩ := q3.o
    refine V_iload_n d_fe_digest_6 rfl rfl ?_
    refine V_aload_n d_fe_digest_7 rfl rfl ?_
    refine V_getf d_fe_digest_8 fl_fe_134 (by first | assumption | exact X.1 | exact hu_self _ _ _ | (simp (disch := first | assumption | (apply Ne.symm; assumption)) only [hu_self, hu_ne]; assumption)) rfl ?_
    rw [ivo.1]
    refine V_icmp_ge d_fe_digest_11 (fun c11 => ?_) (fun c11 => ?_)
    · skip
      refine V_ldc2 d_fe_digest_32 kc_fe_461 ?_
      refine V_lload_n d_fe_digest_35 rfl rfl ?_
      refine V_lmul d_fe_digest_36 ?_
      refine V_aload_n d_fe_digest_37 rfl rfl ?_
      refine V_getf d_fe_digest_38 fl_fe_36 (by first | assumption | exact X.1 | exact hu_self _ _ _ | (simp (disch := first | assumption | (apply Ne.symm; assumption)) only [hu_self, hu_ne]; assumption)) rfl ?_
      refine V_getf d_fe_digest_41 fl_fe_281 q1.1 rfl ?_
      refine V_callV (N := al_size) d_fe_digest_44 ml_fe_275 mdf_al_size wi_al_size wz_al_size (sp_ls_size G q2) hdd ⟨_, rfl, rfl⟩ rfl rfl (by decide) (by decide) (Nat.le_of_ble_eq_true rfl) rfl rfl (kI fun r44 h44 ⟨e44, f44⟩ => ?_)
      subst e44 f44
      rw [q4]
      refine V_i2l d_fe_digest_47 ?_
      refine V_ladd d_fe_digest_48 ?_
      refine V_lstore_n d_fe_digest_49 rfl (by decide) rfl rfl ?_
      dsimp only [List.set]
      refine V_ldc2 d_fe_digest_50 kc_fe_461 ?_
      refine V_lload_n d_fe_digest_53 rfl rfl ?_
      refine V_lmul d_fe_digest_54 ?_
      refine V_aload_n d_fe_digest_55 rfl rfl ?_
      refine V_getf d_fe_digest_56 fl_fe_36 (by first | assumption | exact X.1 | exact hu_self _ _ _ | (simp (disch := first | assumption | (apply Ne.symm; assumption)) only [hu_self, hu_ne]; assumption)) rfl ?_
      refine V_getf d_fe_digest_59 fl_fe_288 q1.1 rfl ?_
      refine V_callV (N := al_size) d_fe_digest_62 ml_fe_275 mdf_al_size wi_al_size wz_al_size (sp_ls_size G q3) hdu ⟨_, rfl, rfl⟩ rfl rfl (by decide) (by decide) (Nat.le_of_ble_eq_true rfl) rfl rfl (kI fun r62 h62 ⟨e62, f62⟩ => ?_)
      subst e62 f62
      rw [q5]
      refine V_i2l d_fe_digest_65 ?_
      refine V_ladd d_fe_digest_66 ?_
      refine V_lreturn d_fe_digest_67 rfl ?_
      exact ⟨_, rfl, rfl, R, S⟩
    · skip
      exact absurd (ltN c11 (by omega)) (by omega)
  | succ c ih =>
    intro o h hf R S
    have X := R.1
    obtain ⟨T, t1, t2, t3⟩ := R.2.2.1
    obtain ⟨a, u1, u2, _⟩ := t3 o (by omega)
    refine V_iload_n d_fe_digest_6 rfl rfl ?_
    refine V_aload_n d_fe_digest_7 rfl rfl ?_
    refine V_getf d_fe_digest_8 fl_fe_134 (by first | assumption | exact X.1 | exact hu_self _ _ _ | (simp (disch := first | assumption | (apply Ne.symm; assumption)) only [hu_self, hu_ne]; assumption)) rfl ?_
    rw [ivo.1]
    refine V_icmp_ge d_fe_digest_11 (fun c11 => ?_) (fun c11 => ?_)
    · skip
      exact absurd (geN c11 (by omega)) (by omega)
    · skip
      refine V_aload_n d_fe_digest_14 rfl rfl ?_
      refine V_aload_n d_fe_digest_15 rfl rfl ?_
      refine V_getf d_fe_digest_16 fl_fe_17 (by first | assumption | exact X.1 | exact hu_self _ _ _ | (simp (disch := first | assumption | (apply Ne.symm; assumption)) only [hu_self, hu_ne]; assumption)) rfl ?_
      refine V_iload_n d_fe_digest_19 rfl rfl ?_
      refine V_aald o d_fe_digest_20 t2.1 (by decide) (by decide) rfl (by omega) u1 ?_
      refine V_lload_n d_fe_digest_21 rfl rfl ?_
      refine V_callV (N := fe_digestOf) d_fe_digest_22 ml_fe_457 mdf_fe_digestOf wi_fe_digestOf wz_fe_digestOf (sp_fe_digestOf G R hm ivs ivo ivf ivv ivt (o := o) (by omega) u2.1 _) (by first | assumption | exact X.1 | exact hu_self _ _ _ | (simp (disch := first | assumption | (apply Ne.symm; assumption)) only [hu_self, hu_ne]; assumption)) ⟨_, rfl, rfl⟩ rfl rfl (by decide) (by decide) (Nat.le_of_ble_eq_true rfl) rfl rfl (kL fun r22 h22 ⟨e22, R1, S1⟩ => ?_)
      refine V_lstore_n d_fe_digest_25 rfl (by decide) rfl rfl ?_
      dsimp only [List.set]
      refine V_iinc (v := _) d_fe_digest_26 rfl rfl (by decide) rfl rfl ?_
      dsimp only [List.set]
      refine V_goto d_fe_digest_29 ?_
      rw [show Int32.ofInt 1 = 1 from rfl, nI_1, e22]
      exact ih (o + 1) h22 (by omega) R1 (S.tr S1)
theorem sp_fe_digest (G : Gk) {g : Gm} {h : Hp} {s : Mem} (R : RC G g h s) (hm : Sm s) (ivs : IvS s) (ivo : IvO s) (ivf : IvF s) (ivv : IvV s) (ivt : IvT s) : Ct G fe_digest [.ref (g.2 2)] h (pL fun r h' => r = digM s ∧ RB g h' s ∧ Stq g h nSc g h') := by
  refine Ct.ofL (M := fe_digest) (lv := [some (.ref (g.2 2)), none, none, none]) mdf_fe_digest rfl (Nat.le_of_ble_eq_true rfl) rfl ?_
  refine V_ldc2 d_fe_digest_0 kc_fe_455 ?_
  refine V_lstore_n d_fe_digest_3 rfl (by decide) rfl rfl ?_
  dsimp only [List.set]
  refine V_iconst (v := 0) d_fe_digest_4 (by decide) ?_
  refine V_istore_n d_fe_digest_5 rfl (by decide) rfl rfl ?_
  dsimp only [List.set]
  exact lp_dgO G R hm ivs ivo ivf ivv ivt (nO s) 0 h (by omega) R.1 (Stq.rf _ _ _)
