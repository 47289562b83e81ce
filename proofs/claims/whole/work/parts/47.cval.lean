/-! values: fieldOf, timesIn, total, ofTwo, derive, fillValues, valueOf, get, element, shapeOf -/
def FdO (g : Gm) (h : Hp) (s : Mem) (v f : Int32) (r : Option Nat) : Prop := (¬ hasF s v f ∧ r = none) ∨ ∃ o j c, o < nO s ∧ v = nI o ∧ j < nf s (sh s o) ∧ f = nI j ∧ Im g h c (2, fdS s (sh s o) j) ∧ r = some c
theorem sp_fe_fieldOf (G : Gk) {g : Gm} {h : Hp} {s : Mem} (R : RB g h s) (ivs : IvS s) (ivo : IvO s) (v f : Int32) : Ct G fe_fieldOf [.ref (g.2 2), .int v, .int f] h (pQ fun r h' => h = h' ∧ FdO g h s v f r) := by
  have X := R.1
  obtain ⟨L, l1, l2, l3⟩ := R.2.1
  obtain ⟨T, t1, t2, t3⟩ := R.2.2.1
  have n10 := ivs.2.1
  have n60 := ivo.2.1
  refine Ct.ofL (M := fe_fieldOf) (lv := [some (.ref (g.2 2)), some (.int v), some (.int f)]) mdf_fe_fieldOf rfl (Nat.le_of_ble_eq_true rfl) rfl ?_
  refine V_aload_n d_fe_fieldOf_0 rfl rfl ?_
  refine V_iload_n d_fe_fieldOf_1 rfl rfl ?_
  refine V_callV (N := fe_isThing) d_fe_fieldOf_2 ml_fe_160 mdf_fe_isThing wi_fe_isThing wz_fe_isThing (sp_fe_isThing G X ivo _) (by first | assumption | exact X.1 | exact hu_self _ _ _ | (simp (disch := first | assumption | (apply Ne.symm; assumption)) only [hu_self, hu_ne]; assumption)) ⟨_, rfl, rfl⟩ rfl rfl (by decide) (by decide) (Nat.le_of_ble_eq_true rfl) rfl rfl (kI fun r2 h2 ⟨e2, f2⟩ => ?_)
  subst e2 f2
  refine V_if_eq d_fe_fieldOf_5 (fun c5 => ?_) (fun c5 => ?_)
  · skip
    refine V_null d_fe_fieldOf_29 ?_
    refine V_areturn d_fe_fieldOf_30 rfl (by first | exact Or.inl ⟨_, rfl⟩ | exact Or.inr ⟨_, rfl⟩) (by first | exact Or.inl rfl | exact Or.inr ⟨_, rfl⟩) ?_
    exact ⟨none, rfl, rfl, Or.inl ⟨fun ⟨o, j, h1, h2, h3, h4⟩ => b01_e c5 ⟨o, h1, h2⟩, rfl⟩⟩
  · skip
    obtain ⟨o, ho, rfl⟩ := b01_ne c5
    obtain ⟨a, u1, u2, W, w1, w2, w3⟩ := t3 o ho
    obtain ⟨es, hs⟩ := ivo.2.2 o ho
    refine V_aload_n d_fe_fieldOf_8 rfl rfl ?_
    refine V_getf d_fe_fieldOf_9 fl_fe_11 (by first | assumption | exact X.1 | exact hu_self _ _ _ | (simp (disch := first | assumption | (apply Ne.symm; assumption)) only [hu_self, hu_ne]; assumption)) rfl ?_
    refine V_aload_n d_fe_fieldOf_12 rfl rfl ?_
    refine V_getf d_fe_fieldOf_13 fl_fe_17 (by first | assumption | exact X.1 | exact hu_self _ _ _ | (simp (disch := first | assumption | (apply Ne.symm; assumption)) only [hu_self, hu_ne]; assumption)) rfl ?_
    refine V_iload_n d_fe_fieldOf_16 rfl rfl ?_
    refine V_aald o d_fe_fieldOf_17 t2.1 (by decide) (by decide) rfl (by omega) u1 ?_
    refine V_getf d_fe_fieldOf_18 fl_fe_163 u2.1 rfl ?_
    refine V_aald (sh s o) d_fe_fieldOf_21 l2.1 (by decide) (by decide) es (by omega) (l3 _ hs).1 ?_
    refine V_iload_n d_fe_fieldOf_22 rfl rfl ?_
    refine V_callV (N := sh_fieldAt) d_fe_fieldOf_23 ml_fe_105 mdf_sh_fieldAt wi_sh_fieldAt wz_sh_fieldAt (sp_fe_fieldAt G ivs hs (l3 _ hs).2 f) (l3 _ hs).2.1.1 ⟨_, rfl, rfl⟩ rfl rfl (by decide) (by decide) (Nat.le_of_ble_eq_true rfl) rfl rfl (kQ fun r23 h23 ⟨e23, z23⟩ => ?_)
    subst e23
    rcases z23 with ⟨no, rfl⟩ | ⟨j, c, hj, rfl, im, rfl⟩
    · skip
      refine V_goto d_fe_fieldOf_26 ?_
      refine V_areturn d_fe_fieldOf_30 rfl (by first | exact Or.inl ⟨_, rfl⟩ | exact Or.inr ⟨_, rfl⟩) (by first | exact Or.inl rfl | exact Or.inr ⟨_, rfl⟩) ?_
      exact ⟨none, rfl, rfl, Or.inl ⟨fun ⟨o', j, h1, h2, h3, h4⟩ => by rw [← nI_inj8 (by omega) (by omega) h2] at h3; exact no j h3 h4, rfl⟩⟩
    · skip
      refine V_goto d_fe_fieldOf_26 ?_
      refine V_areturn d_fe_fieldOf_30 rfl (by first | exact Or.inl ⟨_, rfl⟩ | exact Or.inr ⟨_, rfl⟩) (by first | exact Or.inl rfl | exact Or.inr ⟨_, rfl⟩) ?_
      exact ⟨some c, rfl, rfl, Or.inr ⟨o, j, c, ho, rfl, hj, rfl, im, rfl⟩⟩
def tmI (F : Nat → Int32) (u : Int32) : Nat → Int32
  | 0 => 0
  | i + 1 => tmI F u i + (if F i = u then 1 else 0)
theorem lp_times (G : Gk) {h : Hp} {r n : Nat} {F : Nat → Int32} (u : Int32) (hr : h r = some (20, arrL n F)) (n100 : n < 1000) : ∀ (c i : Nat) (l6 : Option Value), i + c = n →
    V G fe_timesIn (pI fun r h' => h = h' ∧ r = tmI F u n) h 0 0 11 [some (.ref r), some (.int u), some (.int (tmI F u i)), some (.ref r), some (.int (nI n)), some (.int (nI i)), l6] [] := by
  intro c
  induction c with
  | zero =>
    intro i l6 hi
    obtain rfl : i = n := by omega
    refine V_iload d_fe_timesIn_11 rfl ?_
    refine V_iload d_fe_timesIn_13 rfl ?_
    refine V_icmp_ge d_fe_timesIn_15 (fun c15 => ?_) (fun c15 => ?_)
    · skip
      refine V_iload_n d_fe_timesIn_39 rfl rfl ?_
      refine V_ireturn d_fe_timesIn_40 rfl ?_
      exact ⟨_, rfl, rfl, rfl⟩
    · skip
      exact absurd (ltN c15 (by omega)) (by omega)
  | succ c ih =>
    intro i l6 hi
    refine V_iload d_fe_timesIn_11 rfl ?_
    refine V_iload d_fe_timesIn_13 rfl ?_
    refine V_icmp_ge d_fe_timesIn_15 (fun c15 => ?_) (fun c15 => ?_)
    · skip
      exact absurd (geN c15 (by omega)) (by omega)
    · skip
      refine V_aload_n d_fe_timesIn_18 rfl rfl ?_
      refine V_iload d_fe_timesIn_19 rfl ?_
      refine V_iald i d_fe_timesIn_21 (by first | assumption | exact X.1 | exact hu_self _ _ _ | (simp (disch := first | assumption | (apply Ne.symm; assumption)) only [hu_self, hu_ne]; assumption)) rfl (by omega) (by first | assumption | exact arrL_get _ (by omega)) ?_
      refine V_istore d_fe_timesIn_22 (by decide) rfl rfl ?_
      dsimp only [List.set]
      refine V_iload d_fe_timesIn_24 rfl ?_
      refine V_iload_n d_fe_timesIn_26 rfl rfl ?_
      refine V_icmp_ne d_fe_timesIn_27 (fun c27 => ?_) (fun c27 => ?_)
      · skip
        refine V_iinc (v := _) d_fe_timesIn_33 rfl rfl (by decide) rfl rfl ?_
        dsimp only [List.set]
        refine V_goto d_fe_timesIn_36 ?_
        rw [show Int32.ofInt 1 = 1 from rfl, nI_1]
        have e : tmI F u (i + 1) = tmI F u i := by rw [tmI, if_neg c27]; exact Int32.add_zero _
        rw [← e]
        exact ih (i + 1) _ (by omega)
      · skip
        refine V_iinc (v := _) d_fe_timesIn_30 rfl rfl (by decide) rfl rfl ?_
        dsimp only [List.set]
        refine V_iinc (v := _) d_fe_timesIn_33 rfl rfl (by decide) rfl rfl ?_
        dsimp only [List.set]
        refine V_goto d_fe_timesIn_36 ?_
        rw [show Int32.ofInt 1 = 1 from rfl, nI_1]
        have e : tmI F u (i + 1) = tmI F u i + 1 := by rw [tmI, if_pos c27]
        rw [← e]
        exact ih (i + 1) _ (by omega)
theorem sp_fe_timesIn (G : Gk) {h : Hp} {r n : Nat} {F : Nat → Int32} (u : Int32) (hr : h r = some (20, arrL n F)) (n100 : n < 1000) : Ct G fe_timesIn [.ref r, .int u] h (pI fun r h' => h = h' ∧ r = tmI F u n) := by
  refine Ct.ofL (M := fe_timesIn) (lv := [some (.ref r), some (.int u), none, none, none, none, none]) mdf_fe_timesIn rfl (Nat.le_of_ble_eq_true rfl) rfl ?_
  refine V_iconst (v := 0) d_fe_timesIn_0 (by decide) ?_
  refine V_istore_n d_fe_timesIn_1 rfl (by decide) rfl rfl ?_
  dsimp only [List.set]
  refine V_aload_n d_fe_timesIn_2 rfl rfl ?_
  refine V_astore_n d_fe_timesIn_3 rfl (by decide) rfl rfl ?_
  dsimp only [List.set]
  refine V_aload_n d_fe_timesIn_4 rfl rfl ?_
  refine V_alen d_fe_timesIn_5 (by first | assumption | exact X.1 | exact hu_self _ _ _ | (simp (disch := first | assumption | (apply Ne.symm; assumption)) only [hu_self, hu_ne]; assumption)) (by decide) (by decide) ?_
  rw [arrL_len]
  refine V_istore d_fe_timesIn_6 (by decide) rfl rfl ?_
  dsimp only [List.set]
  refine V_iconst (v := 0) d_fe_timesIn_8 (by decide) ?_
  refine V_istore d_fe_timesIn_9 (by decide) rfl rfl ?_
  dsimp only [List.set]
  exact lp_times G u hr n100 n 0 none (by omega)
theorem lp_ctot (G : Gk) {g : Gm} {h : Hp} {s : Mem} (R : RB g h s) (ivo : IvO s) {r y len b : Nat} (hr : h r = some (20, arrL len (fun i => s.2 11 (6 * y + i)))) (h6 : len ≤ 6) (hb : b < 8) (hT : ∀ i, i < len → ∃ t, t < nO s ∧ s.2 11 (6 * y + i) = nI t ∧ b < nf s (sh s t) ∧ s.2 3 (8 * sh s t + b) = 0) : ∀ (c i : Nat) (l7 l8 : Option Value), i + c = len →
    V G fe_total (pI fun r h' => h = h' ∧ r = totF s y b len) h 0 0 13 [some (.ref (g.2 2)), some (.ref r), some (.int (nI b)), some (.int (totF s y b i)), some (.ref r), some (.int (nI len)), some (.int (nI i)), l7, l8] [] := by
  have X := R.1
  obtain ⟨T, t1, t2, t3⟩ := R.2.2.1
  have n60 := ivo.2.1
  intro c
  induction c with
  | zero =>
    intro i l7 l8 hi
    obtain rfl : i = len := by omega
    refine V_iload d_fe_total_13 rfl ?_
    refine V_iload d_fe_total_15 rfl ?_
    refine V_icmp_ge d_fe_total_17 (fun c17 => ?_) (fun c17 => ?_)
    · skip
      refine V_iload_n d_fe_total_61 rfl rfl ?_
      refine V_ireturn d_fe_total_62 rfl ?_
      exact ⟨_, rfl, rfl, rfl⟩
    · skip
      exact absurd (ltN c17 (by omega)) (by omega)
  | succ c ih =>
    intro i l7 l8 hi
    obtain ⟨t, ht, et, hbt, hk⟩ := hT i (by omega)
    obtain ⟨a, u1, u2, W, w1, w2, w3⟩ := t3 t ht
    obtain ⟨a2, v1, v2⟩ := w3 b hbt
    have eN : rowN s t b = 1 := by unfold rowN rwN; rw [hk]; rfl
    have eF : rowF s t b 0 = s.2 10 (8 * t + b) := by unfold rowF rwF; rw [hk]; rfl
    rw [eN] at v2
    refine V_iload d_fe_total_13 rfl ?_
    refine V_iload d_fe_total_15 rfl ?_
    refine V_icmp_ge d_fe_total_17 (fun c17 => ?_) (fun c17 => ?_)
    · skip
      exact absurd (geN c17 (by omega)) (by omega)
    · skip
      refine V_aload d_fe_total_20 rfl ?_
      refine V_iload d_fe_total_22 rfl ?_
      refine V_iald i d_fe_total_24 hr rfl (by omega) (arrL_get _ (by omega)) ?_
      refine V_istore d_fe_total_25 (by decide) rfl rfl ?_
      dsimp only [List.set]
      refine V_aload_n d_fe_total_27 rfl rfl ?_
      refine V_getf d_fe_total_28 fl_fe_17 (by first | assumption | exact X.1 | exact hu_self _ _ _ | (simp (disch := first | assumption | (apply Ne.symm; assumption)) only [hu_self, hu_ne]; assumption)) rfl ?_
      refine V_iload d_fe_total_31 rfl ?_
      refine V_aald t d_fe_total_33 t2.1 (by decide) (by decide) et (by omega) u1 ?_
      refine V_getf d_fe_total_34 fl_fe_140 u2.1 rfl ?_
      refine V_iload_n d_fe_total_37 rfl rfl ?_
      refine V_aald b d_fe_total_38 w2.1 (by decide) (by decide) rfl (by omega) v1 ?_
      refine V_iconst (v := 0) d_fe_total_39 (by decide) ?_
      refine V_iald 0 d_fe_total_40 v2.1 rfl (by omega) (arrL_get _ (by omega)) ?_
      rw [eF]
      refine V_istore d_fe_total_41 (by decide) rfl rfl ?_
      dsimp only [List.set]
      refine V_iload d_fe_total_43 rfl ?_
      refine V_ldc d_fe_total_45 kc_fe_87 ?_
      refine V_icmp_eq d_fe_total_47 (fun c47 => ?_) (fun c47 => ?_)
      · skip
        refine V_iinc (v := _) d_fe_total_55 rfl rfl (by decide) rfl rfl ?_
        dsimp only [List.set]
        refine V_goto d_fe_total_58 ?_
        rw [show Int32.ofInt 1 = 1 from rfl, nI_1]
        have e : totF s y b (i + 1) = totF s y b i := by rw [totF, et, cl t (by omega), if_pos c47]; exact Int32.add_zero _
        rw [← e]
        exact ih (i + 1) _ _ (by omega)
      · skip
        refine V_iload_n d_fe_total_50 rfl rfl ?_
        refine V_iload d_fe_total_51 rfl ?_
        refine V_iadd d_fe_total_53 ?_
        refine V_istore_n d_fe_total_54 rfl (by decide) rfl rfl ?_
        dsimp only [List.set]
        refine V_iinc (v := _) d_fe_total_55 rfl rfl (by decide) rfl rfl ?_
        dsimp only [List.set]
        refine V_goto d_fe_total_58 ?_
        rw [show Int32.ofInt 1 = 1 from rfl, nI_1]
        have e : totF s y b (i + 1) = totF s y b i + s.2 10 (8 * t + b) := by rw [totF, et, cl t (by omega), if_neg c47]
        rw [← e]
        exact ih (i + 1) _ _ (by omega)
theorem sp_fe_total (G : Gk) {g : Gm} {h : Hp} {s : Mem} (R : RB g h s) (ivo : IvO s) {r y len b : Nat} (hr : h r = some (20, arrL len (fun i => s.2 11 (6 * y + i)))) (h6 : len ≤ 6) (hb : b < 8) (hT : ∀ i, i < len → ∃ t, t < nO s ∧ s.2 11 (6 * y + i) = nI t ∧ b < nf s (sh s t) ∧ s.2 3 (8 * sh s t + b) = 0) : Ct G fe_total [.ref (g.2 2), .ref r, .int (nI b)] h (pI fun r h' => h = h' ∧ r = totF s y b len) := by
  refine Ct.ofL (M := fe_total) (lv := [some (.ref (g.2 2)), some (.ref r), some (.int (nI b)), none, none, none, none, none, none]) mdf_fe_total rfl (Nat.le_of_ble_eq_true rfl) rfl ?_
  refine V_iconst (v := 0) d_fe_total_0 (by decide) ?_
  refine V_istore_n d_fe_total_1 rfl (by decide) rfl rfl ?_
  dsimp only [List.set]
  refine V_aload_n d_fe_total_2 rfl rfl ?_
  refine V_astore d_fe_total_3 (by decide) rfl rfl ?_
  dsimp only [List.set]
  refine V_aload d_fe_total_5 rfl ?_
  refine V_alen d_fe_total_7 (by first | assumption | exact X.1 | exact hu_self _ _ _ | (simp (disch := first | assumption | (apply Ne.symm; assumption)) only [hu_self, hu_ne]; assumption)) (by decide) (by decide) ?_
  rw [arrL_len]
  refine V_istore d_fe_total_8 (by decide) rfl rfl ?_
  dsimp only [List.set]
  refine V_iconst (v := 0) d_fe_total_10 (by decide) ?_
  refine V_istore d_fe_total_11 (by decide) rfl rfl ?_
  dsimp only [List.set]
  exact lp_ctot G R ivo hr h6 hb hT len 0 none none (by omega)
theorem max_sym (a b : Int32) : (if a < b then b else a) = (if b < a then a else b) := by
  by_cases h1 : a < b
  · rw [if_pos h1, if_neg (fun q => Int32.lt_irrefl (Int32.lt_trans h1 q))]
  · rw [if_neg h1]
    by_cases h2 : b < a
    · rw [if_pos h2]
    · rw [if_neg h2]
      exact Int32.le_antisymm (Int32.not_lt.mp h2) (Int32.not_lt.mp h1)
def of2 (c a b : Int32) : Int32 := if a = MISS ∨ b = MISS ∨ (c = 2 ∧ b = 0) then MISS else if c = 0 then a + b else if c = 1 then (if b < a then a else b) else a / b
theorem sp_fe_ofTwo (G : Gk) (h : Hp) (c a b : Int32) (hc : c = 0 ∨ c = 1 ∨ c = 2) : Ct G fe_ofTwo [.int c, .int a, .int b] h (pI fun r h' => h = h' ∧ r = of2 c a b) := by
  refine Ct.ofL (M := fe_ofTwo) (lv := [some (.int c), some (.int a), some (.int b)]) mdf_fe_ofTwo rfl (Nat.le_of_ble_eq_true rfl) rfl ?_
  refine V_iload_n d_fe_ofTwo_0 rfl rfl ?_
  refine V_ldc d_fe_ofTwo_1 kc_fe_87 ?_
  refine V_icmp_eq d_fe_ofTwo_3 (fun c3 => ?_) (fun c3 => ?_)
  · skip
    refine V_ldc d_fe_ofTwo_12 kc_fe_87 ?_
    refine V_ireturn d_fe_ofTwo_14 rfl ?_
    exact ⟨_, rfl, rfl, by unfold of2; rw [if_pos (Or.inl c3)]⟩
  · skip
    refine V_iload_n d_fe_ofTwo_6 rfl rfl ?_
    refine V_ldc d_fe_ofTwo_7 kc_fe_87 ?_
    refine V_icmp_ne d_fe_ofTwo_9 (fun c9 => ?_) (fun c9 => ?_)
    · skip
      refine V_iload_n d_fe_ofTwo_15 rfl rfl ?_
      refine V_if_ne d_fe_ofTwo_16 (fun c16 => ?_) (fun c16 => ?_)
      · skip
        refine V_iload_n d_fe_ofTwo_23 rfl rfl ?_
        refine V_iconst (v := 1) d_fe_ofTwo_24 (by decide) ?_
        refine V_icmp_ne d_fe_ofTwo_25 (fun c25 => ?_) (fun c25 => ?_)
        · skip
          refine V_iload_n d_fe_ofTwo_34 rfl rfl ?_
          refine V_if_ne d_fe_ofTwo_35 (fun c35 => ?_) (fun c35 => ?_)
          · skip
            have hc2 : c = 2 := hc.elim (fun q => absurd q c16) (fun q => q.elim (fun q => absurd q c25) id)
            refine V_iload_n d_fe_ofTwo_43 rfl rfl ?_
            refine V_iload_n d_fe_ofTwo_44 rfl rfl ?_
            refine V_idiv d_fe_ofTwo_45 c35 ?_
            refine V_ireturn d_fe_ofTwo_46 rfl ?_
            exact ⟨_, rfl, rfl, by unfold of2; rw [if_neg (fun q => q.elim c3 (fun q => q.elim c9 (fun q => c35 q.2))), if_neg c16, if_neg c25]⟩
          · skip
            have hc2 : c = 2 := hc.elim (fun q => absurd q c16) (fun q => q.elim (fun q => absurd q c25) id)
            refine V_ldc d_fe_ofTwo_38 kc_fe_87 ?_
            refine V_goto d_fe_ofTwo_40 ?_
            refine V_ireturn d_fe_ofTwo_46 rfl ?_
            exact ⟨_, rfl, rfl, by unfold of2; rw [if_pos (Or.inr (Or.inr ⟨hc2, c35⟩))]⟩
        · skip
          refine V_iload_n d_fe_ofTwo_28 rfl rfl ?_
          refine V_iload_n d_fe_ofTwo_29 rfl rfl ?_
          refine V_mmax d_fe_ofTwo_30 ml_fe_201 (by decide) (Nat.le_of_ble_eq_true rfl) ?_
          refine V_ireturn d_fe_ofTwo_33 rfl ?_
          refine ⟨_, rfl, rfl, ?_⟩
          have hn : ¬ (a = MISS ∨ b = MISS ∨ (c = 2 ∧ b = 0)) := fun q => q.elim c3 (fun q => q.elim c9 (fun q => by rw [c25] at q; exact absurd q.1 (by decide)))
          unfold of2
          rw [if_neg hn, if_neg c16, if_pos c25, max_sym]
      · skip
        refine V_iload_n d_fe_ofTwo_19 rfl rfl ?_
        refine V_iload_n d_fe_ofTwo_20 rfl rfl ?_
        refine V_iadd d_fe_ofTwo_21 ?_
        refine V_ireturn d_fe_ofTwo_22 rfl ?_
        exact ⟨_, rfl, rfl, by unfold of2; rw [if_neg (fun q => q.elim c3 (fun q => q.elim c9 (fun q => by rw [c16] at q; exact absurd q.1 (by decide)))), if_pos c16]⟩
    · skip
      refine V_ldc d_fe_ofTwo_12 kc_fe_87 ?_
      refine V_ireturn d_fe_ofTwo_14 rfl ?_
      exact ⟨_, rfl, rfl, by unfold of2; rw [if_pos (Or.inr (Or.inl c9))]⟩
/-- what a derived field that adds a list's numbers relies on -/
def IvT (s : Mem) : Prop := ∀ o j f y, o < nO s → j < nf s (sh s o) → s.2 3 (8 * sh s o + j) = 3 → s.2 4 (8 * sh s o + j) = 4 → s.2 5 (8 * sh s o + j) = nI f → s.2 6 (8 * sh s o + j) = nI y → f < 8 → y < 8 → ∀ i, i < (s.2 10 (8 * o + f)).toNatClampNeg → ∀ t, t < nO s → s.2 11 (6 * (8 * o + f) + i) = nI t → y < nf s (sh s t) ∧ s.2 3 (8 * sh s t + y) = 0
theorem sp_fe_derive (G : Gk) {g : Gm} {h : Hp} {s : Mem} (R : RB g h s) (ivs : IvS s) (ivo : IvO s) (ivf : IvF s) (ivv : IvV s) (ivt : IvT s) {o j t c : Nat} {K : Nat → Int32} (ho : o < nO s) (hj : j < nf s (sh s o)) (hk : s.2 3 (8 * sh s o + j) = 3) (ht : h t = some (10, [.int (s.2 9 o), .ref (g.2 (300 + o))])) (hc : h c = some (2, fdS s (sh s o) j)) (hv : h (g.2 7) = some (20, arrL 8 K)) (hK : ∀ f, f < j → s.2 3 (8 * sh s o + f) = 2 → K f = s.2 10 (8 * o + f)) :
    Ct G fe_derive [.ref (g.2 2), .ref (g.2 (100 + sh s o)), .ref t, .ref c] h (pI fun r h' => h = h' ∧ r = follM s o K (8 * sh s o + j)) := by
  have X := R.1
  obtain ⟨L, l1, l2, l3⟩ := R.2.1
  obtain ⟨T, t1, t2, t3⟩ := R.2.2.1
  obtain ⟨a, u1, u2, W, w1, w2, w3⟩ := t3 o ho
  obtain ⟨es, hs⟩ := ivo.2.2 o ho
  obtain ⟨L2, m1, m2, m3⟩ := (l3 _ hs).2.2
  have n8 := (ivs.2.2.1 _ hs).2
  have n60 := ivo.2.1
  rcases ivf _ hs j hj with e | ⟨e, _⟩ | ⟨_, cd, f, hcd, hfj, e4, e5, hg, h34, h4⟩
  · rw [hk] at e; exact absurd e (by decide)
  · rw [hk] at e; rcases e with e | e <;> exact absurd e (by decide)
  have hsh := (l3 _ hs).2.1.1
  have hfd : s.2 5 (8 * sh s o + j) = nI f := e5
  have cf : (s.2 5 (8 * sh s o + j)).toNatClampNeg = f := by rw [e5]; exact cl f (by omega)
  refine Ct.ofL (M := fe_derive) (lv := [some (.ref (g.2 2)), some (.ref (g.2 (100 + sh s o))), some (.ref t), some (.ref c), none, none]) mdf_fe_derive rfl (Nat.le_of_ble_eq_true rfl) rfl ?_
  refine V_aload_n d_fe_derive_0 rfl rfl ?_
  refine V_getf d_fe_derive_1 fl_fe_64 (by first | assumption | exact X.1 | exact hu_self _ _ _ | (simp (disch := first | assumption | (apply Ne.symm; assumption)) only [hu_self, hu_ne]; assumption)) rfl ?_
  refine V_aload_n d_fe_derive_4 rfl rfl ?_
  refine V_getf d_fe_derive_5 fl_fe_115 hc rfl ?_
  refine V_iald f d_fe_derive_8 hv e5 (by omega) (arrL_get _ (by omega)) ?_
  refine V_istore d_fe_derive_9 (by decide) rfl rfl ?_
  dsimp only [List.set]
  refine V_aload_n d_fe_derive_11 rfl rfl ?_
  refine V_getf d_fe_derive_12 fl_fe_112 hc rfl ?_
  rw [e4]
  rcases (show cd = 0 ∨ cd = 1 ∨ cd = 2 ∨ cd = 3 ∨ cd = 4 ∨ cd = 5 by omega) with rfl | rfl | rfl | rfl | rfl | rfl
  · skip
    refine V_tableOut (tgt := 98) d_fe_derive_15 (by decide) (by decide) ?_
    obtain ⟨y, hy, e6, _, _⟩ := hg (by omega)
    have cy : (s.2 6 (8 * sh s o + j)).toNatClampNeg = y := by rw [e6]; exact cl y (by omega)
    refine V_aload_n d_fe_derive_98 rfl rfl ?_
    refine V_getf d_fe_derive_99 fl_fe_112 hc rfl ?_
    rw [show s.2 4 (8 * sh s o + j) = _ from e4]
    refine V_iload d_fe_derive_102 rfl ?_
    refine V_aload_n d_fe_derive_104 rfl rfl ?_
    refine V_getf d_fe_derive_105 fl_fe_64 (by first | assumption | exact X.1 | exact hu_self _ _ _ | (simp (disch := first | assumption | (apply Ne.symm; assumption)) only [hu_self, hu_ne]; assumption)) rfl ?_
    refine V_aload_n d_fe_derive_108 rfl rfl ?_
    refine V_getf d_fe_derive_109 fl_fe_191 hc rfl ?_
    refine V_iald y d_fe_derive_112 hv e6 (by omega) (arrL_get _ (by omega)) ?_
    refine V_callS (N := fe_ofTwo) d_fe_derive_113 ml_fe_197 mdf_fe_ofTwo ws_fe_ofTwo (sp_fe_ofTwo G h _ _ _ (by first | exact Or.inl rfl | exact Or.inr (Or.inl rfl) | exact Or.inr (Or.inr rfl))) rfl rfl (by decide) (by decide) (Nat.le_of_ble_eq_true rfl) rfl rfl (kI fun r113 h113 ⟨e113, f113⟩ => ?_)
    subst e113 f113
    refine V_ireturn d_fe_derive_116 rfl ?_
    refine ⟨_, rfl, rfl, ?_⟩
    unfold follM
    simp only [cf, cy, e4]
    rfl
  · skip
    refine V_tableOut (tgt := 98) d_fe_derive_15 (by decide) (by decide) ?_
    obtain ⟨y, hy, e6, _, _⟩ := hg (by omega)
    have cy : (s.2 6 (8 * sh s o + j)).toNatClampNeg = y := by rw [e6]; exact cl y (by omega)
    refine V_aload_n d_fe_derive_98 rfl rfl ?_
    refine V_getf d_fe_derive_99 fl_fe_112 hc rfl ?_
    rw [show s.2 4 (8 * sh s o + j) = _ from e4]
    refine V_iload d_fe_derive_102 rfl ?_
    refine V_aload_n d_fe_derive_104 rfl rfl ?_
    refine V_getf d_fe_derive_105 fl_fe_64 (by first | assumption | exact X.1 | exact hu_self _ _ _ | (simp (disch := first | assumption | (apply Ne.symm; assumption)) only [hu_self, hu_ne]; assumption)) rfl ?_
    refine V_aload_n d_fe_derive_108 rfl rfl ?_
    refine V_getf d_fe_derive_109 fl_fe_191 hc rfl ?_
    refine V_iald y d_fe_derive_112 hv e6 (by omega) (arrL_get _ (by omega)) ?_
    refine V_callS (N := fe_ofTwo) d_fe_derive_113 ml_fe_197 mdf_fe_ofTwo ws_fe_ofTwo (sp_fe_ofTwo G h _ _ _ (by first | exact Or.inl rfl | exact Or.inr (Or.inl rfl) | exact Or.inr (Or.inr rfl))) rfl rfl (by decide) (by decide) (Nat.le_of_ble_eq_true rfl) rfl rfl (kI fun r113 h113 ⟨e113, f113⟩ => ?_)
    subst e113 f113
    refine V_ireturn d_fe_derive_116 rfl ?_
    refine ⟨_, rfl, rfl, ?_⟩
    unfold follM
    simp only [cf, cy, e4]
    rfl
  · skip
    refine V_tableOut (tgt := 98) d_fe_derive_15 (by decide) (by decide) ?_
    obtain ⟨y, hy, e6, _, _⟩ := hg (by omega)
    have cy : (s.2 6 (8 * sh s o + j)).toNatClampNeg = y := by rw [e6]; exact cl y (by omega)
    refine V_aload_n d_fe_derive_98 rfl rfl ?_
    refine V_getf d_fe_derive_99 fl_fe_112 hc rfl ?_
    rw [show s.2 4 (8 * sh s o + j) = _ from e4]
    refine V_iload d_fe_derive_102 rfl ?_
    refine V_aload_n d_fe_derive_104 rfl rfl ?_
    refine V_getf d_fe_derive_105 fl_fe_64 (by first | assumption | exact X.1 | exact hu_self _ _ _ | (simp (disch := first | assumption | (apply Ne.symm; assumption)) only [hu_self, hu_ne]; assumption)) rfl ?_
    refine V_aload_n d_fe_derive_108 rfl rfl ?_
    refine V_getf d_fe_derive_109 fl_fe_191 hc rfl ?_
    refine V_iald y d_fe_derive_112 hv e6 (by omega) (arrL_get _ (by omega)) ?_
    refine V_callS (N := fe_ofTwo) d_fe_derive_113 ml_fe_197 mdf_fe_ofTwo ws_fe_ofTwo (sp_fe_ofTwo G h _ _ _ (by first | exact Or.inl rfl | exact Or.inr (Or.inl rfl) | exact Or.inr (Or.inr rfl))) rfl rfl (by decide) (by decide) (Nat.le_of_ble_eq_true rfl) rfl rfl (kI fun r113 h113 ⟨e113, f113⟩ => ?_)
    subst e113 f113
    refine V_ireturn d_fe_derive_116 rfl ?_
    refine ⟨_, rfl, rfl, ?_⟩
    unfold follM
    simp only [cf, cy, e4]
    rfl
  · skip
    refine V_tableIn (off := 25) (tgt := 40) d_fe_derive_15 (by decide) (by decide) rfl (by decide) ?_
    refine V_iload d_fe_derive_40 rfl ?_
    refine V_ireturn d_fe_derive_42 rfl ?_
    refine ⟨_, rfl, rfl, ?_⟩
    unfold follM
    simp only [cf, e4]
    rfl
  · skip
    refine V_tableIn (off := 28) (tgt := 43) d_fe_derive_15 (by decide) (by decide) rfl (by decide) ?_
    obtain ⟨tt, y, htt, ett, hy, e6, hk0⟩ := h4 rfl
    have hk2 := h34 (Or.inr rfl)
    have cy : (s.2 6 (8 * sh s o + j)).toNatClampNeg = y := by rw [e6]; have := (ivs.2.2.1 _ htt).2; exact cl y (by omega)
    have hy8 : y < 8 := by have := (ivs.2.2.1 _ htt).2; omega
    obtain ⟨len, q1, q2, q3⟩ := (ivv o ho f (by omega)).2 hk2
    obtain ⟨a3, x1, x2⟩ := w3 f (by omega)
    have eN : rowN s o f = len := by unfold rowN rwN; rw [hk2, if_pos rfl, q2, cl len (by omega)]
    have eF : rowF s o f = fun i => s.2 11 (6 * (8 * o + f) + i) := by unfold rowF; funext z; unfold rwF; rw [hk2, if_pos rfl]
    rw [eN, eF] at x2
    refine V_aload_n d_fe_derive_43 rfl rfl ?_
    refine V_aload_n d_fe_derive_44 rfl rfl ?_
    refine V_getf d_fe_derive_45 fl_fe_140 ht rfl ?_
    refine V_aload_n d_fe_derive_48 rfl rfl ?_
    refine V_getf d_fe_derive_49 fl_fe_115 hc rfl ?_
    refine V_aald f d_fe_derive_52 w2.1 (by decide) (by decide) e5 (by omega) x1 ?_
    refine V_aload_n d_fe_derive_53 rfl rfl ?_
    refine V_getf d_fe_derive_54 fl_fe_191 hc rfl ?_
    rw [show s.2 6 (8 * sh s o + j) = _ from e6]
    refine V_callV (N := fe_total) d_fe_derive_57 ml_fe_194 mdf_fe_total wi_fe_total wz_fe_total (sp_fe_total G R ivo x2.1 q1 hy8 (fun i hi => by obtain ⟨u, z1, z2⟩ := q3 i hi; obtain ⟨z3, z4⟩ := ivt o j f y ho hj hk e4 e5 e6 (by omega) hy8 i (by rw [q2, cl len (by omega)]; exact hi) u z1 z2; exact ⟨u, z1, z2, z3, z4⟩)) (by first | assumption | exact X.1 | exact hu_self _ _ _ | (simp (disch := first | assumption | (apply Ne.symm; assumption)) only [hu_self, hu_ne]; assumption)) ⟨_, rfl, rfl⟩ rfl rfl (by decide) (by decide) (Nat.le_of_ble_eq_true rfl) rfl rfl (kI fun r57 h57 ⟨e57, f57⟩ => ?_)
    subst e57 f57
    refine V_ireturn d_fe_derive_60 rfl ?_
    refine ⟨_, rfl, rfl, ?_⟩
    unfold follM
    simp only [cf, cy, e4, q2, cl len (show len < 1000000 by omega)]
    rfl
  · skip
    refine V_tableIn (off := 46) (tgt := 61) d_fe_derive_15 (by decide) (by decide) rfl (by decide) ?_
    obtain ⟨a3, x1, x2⟩ := m3 f (by omega)
    refine V_aload_n d_fe_derive_61 rfl rfl ?_
    refine V_getf d_fe_derive_62 fl_fe_144 hsh rfl ?_
    refine V_aload_n d_fe_derive_65 rfl rfl ?_
    refine V_getf d_fe_derive_66 fl_fe_115 hc rfl ?_
    refine V_aald f d_fe_derive_69 m2.1 (by decide) (by decide) e5 (by omega) x1 ?_
    refine V_getf d_fe_derive_70 fl_fe_109 x2.1 rfl ?_
    refine V_iconst (v := 2) d_fe_derive_73 (by decide) ?_
    refine V_icmp_ne d_fe_derive_74 (fun c74 => ?_) (fun c74 => ?_)
    · skip
      refine V_ldc d_fe_derive_81 kc_fe_87 ?_
      refine V_istore d_fe_derive_83 (by decide) rfl rfl ?_
      dsimp only [List.set]
      refine V_iload d_fe_derive_85 rfl ?_
      refine V_iload d_fe_derive_87 rfl ?_
      refine V_icmp_ne d_fe_derive_89 (fun c89 => ?_) (fun c89 => ?_)
      · skip
        refine V_iconst (v := 1) d_fe_derive_96 (by decide) ?_
        refine V_ireturn d_fe_derive_97 rfl ?_
        refine ⟨_, rfl, rfl, ?_⟩
        unfold follM
        simp only [cf, e4]
        rw [if_pos (show nI 5 = 5 from rfl), if_neg c74, if_neg c89]
      · skip
        refine V_iconst (v := 0) d_fe_derive_92 (by decide) ?_
        refine V_goto d_fe_derive_93 ?_
        refine V_ireturn d_fe_derive_97 rfl ?_
        refine ⟨_, rfl, rfl, ?_⟩
        unfold follM
        simp only [cf, e4]
        rw [if_pos (show nI 5 = 5 from rfl), if_neg c74, if_pos c89]
    · skip
      refine V_iconst (v := 0) d_fe_derive_77 (by decide) ?_
      refine V_goto d_fe_derive_78 ?_
      refine V_istore d_fe_derive_83 (by decide) rfl rfl ?_
      dsimp only [List.set]
      refine V_iload d_fe_derive_85 rfl ?_
      refine V_iload d_fe_derive_87 rfl ?_
      refine V_icmp_ne d_fe_derive_89 (fun c89 => ?_) (fun c89 => ?_)
      · skip
        refine V_iconst (v := 1) d_fe_derive_96 (by decide) ?_
        refine V_ireturn d_fe_derive_97 rfl ?_
        obtain ⟨len, q1, q2, q3⟩ := (ivv o ho f (by omega)).2 c74
        have ek := hK f hfj c74
        rw [q2] at ek
        refine ⟨_, rfl, rfl, ?_⟩
        unfold follM
        simp only [cf, e4]
        rw [if_pos (show nI 5 = 5 from rfl), if_pos c74, ek, if_pos (show (0 : Int32) < nI len from nI_lt (a := 0) (by rcases Nat.eq_zero_or_pos len with z | z; (rw [ek, z] at c89; exact absurd rfl c89); exact z) (by omega))]
      · skip
        refine V_iconst (v := 0) d_fe_derive_92 (by decide) ?_
        refine V_goto d_fe_derive_93 ?_
        refine V_ireturn d_fe_derive_97 rfl ?_
        refine ⟨_, rfl, rfl, ?_⟩
        unfold follM
        simp only [cf, e4]
        rw [if_pos (show nI 5 = 5 from rfl), if_pos c74, c89]
        rfl
theorem plain_eq {s : Mem} (ivo : IvO s) (ivf : IvF s) (ivv : IvV s) {o j : Nat} (ho : o < nO s) (hj : j < nf s (sh s o)) (hk : s.2 3 (8 * sh s o + j) ≠ 3) : plV (s.2 3 (8 * sh s o + j)) (rowN s o j) (rowF s o j) = s.2 10 (8 * o + j) := by
  unfold plV rowN rowF rwN rwF
  rcases ivf _ (ivo.2.2 o ho).2 j hj with e | ⟨e | e, _⟩ | ⟨e, _⟩
  · rw [e]; rfl
  · rw [e]; rfl
  · obtain ⟨n, q1, q2, _⟩ := (ivv o ho j hj).2 e
    rw [e, q2]
    show nI (nI n).toNatClampNeg = nI n
    rw [cl n (by omega)]
  · exact absurd e hk
theorem row_pos {s : Mem} {o j : Nat} (hk : s.2 3 (8 * sh s o + j) = 0 ∨ s.2 3 (8 * sh s o + j) = 1) : 0 < rowN s o j := by
  unfold rowN rwN
  rcases hk with e | e <;> rw [e] <;> exact Nat.one_pos
theorem RB.vl {g : Gm} {h : Hp} {s : Mem} (R : RB g h s) (hm : Sm s) (K : Nat → Int32) : RB g (hu h (g.2 7) (20, arrL 8 K)) s ∧ Stq g h nSc g (hu h (g.2 7) (20, arrL 8 K)) := by
  obtain ⟨f, c7⟩ := R.2.2.2.2.2.1
  have S : Stq g h (fun r => r ≠ 7) g (hu h (g.2 7) (20, arrL 8 K)) := Stq.put c7.2 _
  have S2 := S.mo (E := nSc) (fun r hr => by unfold nSc at hr; omega)
  obtain ⟨b, zr⟩ := R.2.2.2.2.2.2.1
  obtain ⟨P, zp⟩ := R.2.2.2.2.2.2.2.1
  exact ⟨R.sc hm S2 ⟨⟨K, Cl.put c7.2 _⟩, ⟨b, zr.st S (by omega) (by omega) (by omega)⟩, ⟨P, zp.st S (by omega) (by omega) (by omega) (by omega)⟩, R.2.2.2.2.2.2.2.2.1.st S (by omega) (by omega) (by omega), R.2.2.2.2.2.2.2.2.2.st S (by omega) (by omega) (by omega)⟩, S2⟩
theorem kn_list {s : Mem} (o : Nat) (K0 : Nat → Int32) {f : Nat} (hk : s.2 3 (8 * sh s o + f) = 2) : ∀ n, f < n → kn s o K0 n f = s.2 10 (8 * o + f) := by
  intro n
  induction n with
  | zero => intro h; omega
  | succ n ih =>
    intro h
    rw [kn]
    by_cases e : f = n
    · subst e
      rw [pk_us, if_neg (by rw [hk]; decide)]
    · rw [pk_un e]
      exact ih (by omega)
theorem gt_last {n f : Nat} (hn : n < 1000) (hf : f < 1000) : nI n - 1 < nI f ↔ n ≤ f := by
  rcases Nat.eq_zero_or_pos n with e | e
  · subst e
    refine ⟨fun _ => Nat.zero_le _, fun _ => ?_⟩
    have : ¬ nI f < 0 := nI_pos (by omega)
    exact Int32.lt_of_lt_of_le (show nI 0 - 1 < 0 by decide) (Int32.not_lt.mp this)
  · rw [ixm e]
    exact ⟨fun q => Nat.not_lt.mp (fun z => by
      have := nI_le (a := f) (b := n - 1) (by omega) (by omega)
      exact Int32.lt_irrefl (Int32.lt_of_lt_of_le q this)), fun q => nI_lt (by omega) (by omega)⟩
theorem lp_fill (G : Gk) {g : Gm} {h : Hp} {s : Mem} (R : RB g h s) (hm : Sm s) (ivs : IvS s) (ivo : IvO s) (ivf : IvF s) (ivv : IvV s) (ivt : IvT s) {o t n : Nat} {K0 : Nat → Int32} (ho : o < nO s) (hn : n ≤ nf s (sh s o)) (ht : h t = some (10, [.int (s.2 9 o), .ref (g.2 (300 + o))])) : ∀ (c f : Nat) (l5 : Option Value), f + c = n →
    V G fe_fillValues (pN fun h' => h' = hu h (g.2 7) (20, arrL 8 (kn s o K0 n))) (hu h (g.2 7) (20, arrL 8 (kn s o K0 f))) 0 0 13 [some (.ref (g.2 2)), some (.ref t), some (.int (nI n - 1)), some (.ref (g.2 (100 + sh s o))), some (.int (nI f)), l5] [] := by
  have n60 := ivo.2.1
  obtain ⟨es, hs⟩ := ivo.2.2 o ho
  have n8 := (ivs.2.2.1 _ hs).2
  intro c
  induction c with
  | zero =>
    intro f l5 hf
    obtain rfl : f = n := by omega
    refine V_iload d_fe_fillValues_13 rfl ?_
    refine V_iload_n d_fe_fillValues_15 rfl rfl ?_
    refine V_icmp_gt d_fe_fillValues_16 (fun c16 => ?_) (fun c16 => ?_)
    · skip
      refine V_return d_fe_fillValues_82 rfl ?_
      exact ⟨rfl, rfl⟩
    · skip
      exact absurd ((gt_last (by omega) (by omega)).mpr (Nat.le_refl _)) c16
  | succ c ih =>
    intro f l5 hf
    obtain ⟨R1, S1⟩ := R.vl hm (kn s o K0 f)
    have X := R1.1
    obtain ⟨L, l1, l2, l3⟩ := R1.2.1
    obtain ⟨T, t1, t2, t3⟩ := R1.2.2.1
    obtain ⟨a, u1, u2, W, w1, w2, w3⟩ := t3 o ho
    obtain ⟨L2, m1, m2, m3⟩ := (l3 _ hs).2.2
    have hsh := (l3 _ hs).2.at ivs hs
    obtain ⟨af, x1, x2⟩ := m3 f (by omega)
    obtain ⟨ar, y1, y2⟩ := w3 f (by omega)
    have h7 : g.1 (g.2 7) = 7 := by obtain ⟨z, q⟩ := R.2.2.2.2.2.1; exact q.2
    have ht1 : hu h (g.2 7) (20, arrL 8 (kn s o K0 f)) t = some (10, [.int (s.2 9 o), .ref (g.2 (300 + o))]) := by
      obtain ⟨z, q⟩ := R.2.2.2.2.2.1
      rw [hu_ne _ _ (kne ht q.1 (by decide))]; exact ht
    refine V_iload d_fe_fillValues_13 rfl ?_
    refine V_iload_n d_fe_fillValues_15 rfl rfl ?_
    refine V_icmp_gt d_fe_fillValues_16 (fun c16 => ?_) (fun c16 => ?_)
    · skip
      exact absurd ((gt_last (by omega) (by omega)).mp c16) (by omega)
    · skip
      refine V_iload d_fe_fillValues_19 rfl ?_
      refine V_aload_n d_fe_fillValues_21 rfl rfl ?_
      refine V_getf d_fe_fillValues_22 fl_fe_120 hsh rfl ?_
      refine V_icmp_ge d_fe_fillValues_25 (fun c25 => ?_) (fun c25 => ?_)
      · skip
        exact absurd (geN c25 (by omega)) (by omega)
      · skip
        refine V_aload_n d_fe_fillValues_28 rfl rfl ?_
        refine V_getf d_fe_fillValues_29 fl_fe_144 hsh rfl ?_
        refine V_iload d_fe_fillValues_32 rfl ?_
        refine V_aald f d_fe_fillValues_34 m2.1 (by decide) (by decide) rfl (by omega) x1 ?_
        refine V_astore d_fe_fillValues_35 (by decide) rfl rfl ?_
        dsimp only [List.set]
        refine V_aload_n d_fe_fillValues_37 rfl rfl ?_
        refine V_getf d_fe_fillValues_38 fl_fe_64 (by first | assumption | exact X.1 | exact hu_self _ _ _ | (simp (disch := first | assumption | (apply Ne.symm; assumption)) only [hu_self, hu_ne]; assumption)) rfl ?_
        refine V_iload d_fe_fillValues_41 rfl ?_
        refine V_aload d_fe_fillValues_43 rfl ?_
        refine V_getf d_fe_fillValues_45 fl_fe_109 x2.1 rfl ?_
        refine V_iconst (v := 3) d_fe_fillValues_48 (by decide) ?_
        refine V_icmp_ne d_fe_fillValues_49 (fun c49 => ?_) (fun c49 => ?_)
        · skip
          refine V_aload d_fe_fillValues_63 rfl ?_
          refine V_aload_n d_fe_fillValues_65 rfl rfl ?_
          refine V_getf d_fe_fillValues_66 fl_fe_140 ht1 rfl ?_
          refine V_iload d_fe_fillValues_69 rfl ?_
          refine V_aald f d_fe_fillValues_71 w2.1 (by decide) (by decide) rfl (by omega) y1 ?_
          refine V_callV (N := fd_plainValue) d_fe_fillValues_72 ml_fe_179 mdf_fd_plainValue wi_fd_plainValue wz_fd_plainValue (sp_fd_plainValue G x2.1 y2.1 row_pos) x2.1 ⟨_, rfl, rfl⟩ rfl rfl (by decide) (by decide) (Nat.le_of_ble_eq_true rfl) rfl rfl (kI fun r72 h72 ⟨e72, f72⟩ => ?_)
          subst e72 f72
          rw [plain_eq ivo ivf ivv ho (by omega) c49]
          refine V_iast f d_fe_fillValues_75 (hu_self _ _ _) rfl (by omega) (by rw [arrL_len]; omega) ?_
          rw [hu_hu, arrL_set _ _ (by omega)]
          refine V_iinc (v := _) d_fe_fillValues_76 rfl rfl (by decide) rfl rfl ?_
          dsimp only [List.set]
          refine V_goto d_fe_fillValues_79 ?_
          rw [show Int32.ofInt 1 = 1 from rfl, nI_1]
          have e : ∀ x, x = (if s.2 3 (8 * sh s o + f) = 3 then follM s o (kn s o K0 f) (8 * sh s o + f) else s.2 10 (8 * o + f)) → upd (kn s o K0 f) f x = kn s o K0 (f + 1) := fun x hx => by rw [hx]; rfl
          first | rw [e _ (if_pos c49).symm] | rw [e _ (if_neg c49).symm]
          exact ih (f + 1) _ (by omega)
        · skip
          refine V_aload_n d_fe_fillValues_52 rfl rfl ?_
          refine V_aload_n d_fe_fillValues_53 rfl rfl ?_
          refine V_aload_n d_fe_fillValues_54 rfl rfl ?_
          refine V_aload d_fe_fillValues_55 rfl ?_
          refine V_callV (N := fe_derive) d_fe_fillValues_57 ml_fe_187 mdf_fe_derive wi_fe_derive wz_fe_derive (sp_fe_derive G R1 ivs ivo ivf ivv ivt ho (by omega) c49 ht1 x2.1 (hu_self _ _ _) (fun f' hf' hk' => kn_list o K0 hk' f hf')) (by first | assumption | exact X.1 | exact hu_self _ _ _ | (simp (disch := first | assumption | (apply Ne.symm; assumption)) only [hu_self, hu_ne]; assumption)) ⟨_, rfl, rfl⟩ rfl rfl (by decide) (by decide) (Nat.le_of_ble_eq_true rfl) rfl rfl (kI fun r57 h57 ⟨e57, f57⟩ => ?_)
          subst e57 f57
          refine V_goto d_fe_fillValues_60 ?_
          refine V_iast f d_fe_fillValues_75 (hu_self _ _ _) rfl (by omega) (by rw [arrL_len]; omega) ?_
          rw [hu_hu, arrL_set _ _ (by omega)]
          refine V_iinc (v := _) d_fe_fillValues_76 rfl rfl (by decide) rfl rfl ?_
          dsimp only [List.set]
          refine V_goto d_fe_fillValues_79 ?_
          rw [show Int32.ofInt 1 = 1 from rfl, nI_1]
          have e : ∀ x, x = (if s.2 3 (8 * sh s o + f) = 3 then follM s o (kn s o K0 f) (8 * sh s o + f) else s.2 10 (8 * o + f)) → upd (kn s o K0 f) f x = kn s o K0 (f + 1) := fun x hx => by rw [hx]; rfl
          first | rw [e _ (if_pos c49).symm] | rw [e _ (if_neg c49).symm]
          exact ih (f + 1) _ (by omega)
theorem sp_fe_fillValues (G : Gk) {g : Gm} {h : Hp} {s : Mem} (R : RB g h s) (hm : Sm s) (ivs : IvS s) (ivo : IvO s) (ivf : IvF s) (ivv : IvV s) (ivt : IvT s) {o t n : Nat} (ho : o < nO s) (hn : n ≤ nf s (sh s o)) (ht : h t = some (10, [.int (s.2 9 o), .ref (g.2 (300 + o))])) :
    Ct G fe_fillValues [.ref (g.2 2), .ref t, .int (nI n - 1)] h (pN fun h' => ∃ K0, h' = hu h (g.2 7) (20, arrL 8 (kn s o K0 n))) := by
  have X := R.1
  obtain ⟨L, l1, l2, l3⟩ := R.2.1
  obtain ⟨es, hs⟩ := ivo.2.2 o ho
  have n10 := ivs.2.1
  obtain ⟨K0, c7⟩ := R.2.2.2.2.2.1
  have hh : h = hu h (g.2 7) (20, arrL 8 (kn s o K0 0)) := by
    funext z
    unfold hu
    split
    · rename_i e; rw [e]; exact c7.1
    · rfl
  refine Ct.ofL (M := fe_fillValues) (lv := [some (.ref (g.2 2)), some (.ref t), some (.int (nI n - 1)), none, none, none]) mdf_fe_fillValues rfl (Nat.le_of_ble_eq_true rfl) rfl ?_
  refine V_aload_n d_fe_fillValues_0 rfl rfl ?_
  refine V_getf d_fe_fillValues_1 fl_fe_11 (by first | assumption | exact X.1 | exact hu_self _ _ _ | (simp (disch := first | assumption | (apply Ne.symm; assumption)) only [hu_self, hu_ne]; assumption)) rfl ?_
  refine V_aload_n d_fe_fillValues_4 rfl rfl ?_
  refine V_getf d_fe_fillValues_5 fl_fe_163 (by first | assumption | exact X.1 | exact hu_self _ _ _ | (simp (disch := first | assumption | (apply Ne.symm; assumption)) only [hu_self, hu_ne]; assumption)) rfl ?_
  refine V_aald (sh s o) d_fe_fillValues_8 l2.1 (by decide) (by decide) es (by omega) (l3 _ hs).1 ?_
  refine V_astore_n d_fe_fillValues_9 rfl (by decide) rfl rfl ?_
  dsimp only [List.set]
  refine V_iconst (v := 0) d_fe_fillValues_10 (by decide) ?_
  refine V_istore d_fe_fillValues_11 (by decide) rfl rfl ?_
  dsimp only [List.set]
  have Q := lp_fill G R hm ivs ivo ivf ivv ivt (K0 := K0) ho hn ht n 0 none (by omega)
  rw [← hh] at Q
  exact Q.mono (fun v h' hp => ⟨hp.1, K0, hp.2⟩)
theorem sp_fe_valueOf (G : Gk) {g : Gm} {h : Hp} {s : Mem} (R : RB g h s) (hm : Sm s) (ivs : IvS s) (ivo : IvO s) (ivf : IvF s) (ivv : IvV s) (ivt : IvT s) {o j : Nat} (ho : o < nO s) (hj : j < nf s (sh s o)) :
    Ct G fe_valueOf [.ref (g.2 2), .int (nI o), .int (nI j)] h (pI fun r h' => r = valV s o j ∧ RB g h' s ∧ Stq g h nSc g h') := by
  have X := R.1
  obtain ⟨L, l1, l2, l3⟩ := R.2.1
  obtain ⟨es, hs⟩ := ivo.2.2 o ho
  have n10 := ivs.2.1
  have n60 := ivo.2.1
  have n8 := (ivs.2.2.1 _ hs).2
  obtain ⟨T, t1, t2, t3⟩ := R.2.2.1
  obtain ⟨a, u1, u2, W, w1, w2, w3⟩ := t3 o ho
  obtain ⟨L2, m1, m2, m3⟩ := (l3 _ hs).2.2
  have hsh := (l3 _ hs).2.at ivs hs
  obtain ⟨af, x1, x2⟩ := m3 j hj
  obtain ⟨ar, y1, y2⟩ := w3 j hj
  refine Ct.ofL (M := fe_valueOf) (lv := [some (.ref (g.2 2)), some (.int (nI o)), some (.int (nI j)), none, none]) mdf_fe_valueOf rfl (Nat.le_of_ble_eq_true rfl) rfl ?_
  refine V_aload_n d_fe_valueOf_0 rfl rfl ?_
  refine V_getf d_fe_valueOf_1 fl_fe_17 (by first | assumption | exact X.1 | exact hu_self _ _ _ | (simp (disch := first | assumption | (apply Ne.symm; assumption)) only [hu_self, hu_ne]; assumption)) rfl ?_
  refine V_iload_n d_fe_valueOf_4 rfl rfl ?_
  refine V_aald o d_fe_valueOf_5 t2.1 (by decide) (by decide) rfl (by omega) u1 ?_
  refine V_astore_n d_fe_valueOf_6 rfl (by decide) rfl rfl ?_
  dsimp only [List.set]
  refine V_aload_n d_fe_valueOf_7 rfl rfl ?_
  refine V_getf d_fe_valueOf_8 fl_fe_11 (by first | assumption | exact X.1 | exact hu_self _ _ _ | (simp (disch := first | assumption | (apply Ne.symm; assumption)) only [hu_self, hu_ne]; assumption)) rfl ?_
  refine V_aload_n d_fe_valueOf_11 rfl rfl ?_
  refine V_getf d_fe_valueOf_12 fl_fe_163 u2.1 rfl ?_
  refine V_aald (sh s o) d_fe_valueOf_15 l2.1 (by decide) (by decide) es (by omega) (l3 _ hs).1 ?_
  refine V_getf d_fe_valueOf_16 fl_fe_144 hsh rfl ?_
  refine V_iload_n d_fe_valueOf_19 rfl rfl ?_
  refine V_aald j d_fe_valueOf_20 m2.1 (by decide) (by decide) rfl (by omega) x1 ?_
  refine V_astore d_fe_valueOf_21 (by decide) rfl rfl ?_
  dsimp only [List.set]
  refine V_aload d_fe_valueOf_23 rfl ?_
  refine V_getf d_fe_valueOf_25 fl_fe_109 x2.1 rfl ?_
  refine V_iconst (v := 3) d_fe_valueOf_28 (by decide) ?_
  refine V_icmp_eq d_fe_valueOf_29 (fun c29 => ?_) (fun c29 => ?_)
  · skip
    refine V_aload_n d_fe_valueOf_44 rfl rfl ?_
    refine V_aload_n d_fe_valueOf_45 rfl rfl ?_
    refine V_iload_n d_fe_valueOf_46 rfl rfl ?_
    rw [show nI j = nI (j + 1) - 1 by rw [ixm (by omega)]; rfl]
    refine V_callV (N := fe_fillValues) d_fe_valueOf_47 ml_fe_183 mdf_fe_fillValues wi_fe_fillValues wz_fe_fillValues (sp_fe_fillValues G R hm ivs ivo ivf ivv ivt ho (n := j + 1) hj u2.1) (by first | assumption | exact X.1 | exact hu_self _ _ _ | (simp (disch := first | assumption | (apply Ne.symm; assumption)) only [hu_self, hu_ne]; assumption)) ⟨_, rfl, rfl⟩ rfl rfl (by decide) (by decide) (Nat.le_of_ble_eq_true rfl) rfl rfl (kN fun h47 ⟨K0, e47⟩ => ?_)
    subst e47
    obtain ⟨R1, S1⟩ := R.vl hm (kn s o K0 (j + 1))
    have X := R1.1
    refine V_aload_n d_fe_valueOf_50 rfl rfl ?_
    refine V_getf d_fe_valueOf_51 fl_fe_64 (by first | assumption | exact X.1 | exact hu_self _ _ _ | (simp (disch := first | assumption | (apply Ne.symm; assumption)) only [hu_self, hu_ne]; assumption)) rfl ?_
    refine V_iload_n d_fe_valueOf_54 rfl rfl ?_
    refine V_iald j d_fe_valueOf_55 (hu_self _ _ _) (by rw [ixm (by omega)]; rfl) (by omega) (arrL_get _ (by omega)) ?_
    refine V_ireturn d_fe_valueOf_56 rfl ?_
    exact ⟨_, rfl, kn_indep ivs ivo ivf ho K0 (fun _ => 0) (j + 1) (by omega) j (by omega), R1, S1⟩
  · skip
    refine V_aload d_fe_valueOf_32 rfl ?_
    refine V_aload_n d_fe_valueOf_34 rfl rfl ?_
    refine V_getf d_fe_valueOf_35 fl_fe_140 u2.1 rfl ?_
    refine V_iload_n d_fe_valueOf_38 rfl rfl ?_
    refine V_aald j d_fe_valueOf_39 w2.1 (by decide) (by decide) rfl (by omega) y1 ?_
    refine V_callV (N := fd_plainValue) d_fe_valueOf_40 ml_fe_179 mdf_fd_plainValue wi_fd_plainValue wz_fd_plainValue (sp_fd_plainValue G x2.1 y2.1 row_pos) x2.1 ⟨_, rfl, rfl⟩ rfl rfl (by decide) (by decide) (Nat.le_of_ble_eq_true rfl) rfl rfl (kI fun r40 h40 ⟨e40, f40⟩ => ?_)
    subst e40 f40
    refine V_ireturn d_fe_valueOf_43 rfl ?_
    exact ⟨_, rfl, by rw [plain_eq ivo ivf ivv ho hj c29]; unfold valV; rw [kn, pk_us, if_neg c29], R, Stq.rf _ _ _⟩
theorem sp_fe_get (G : Gk) {g : Gm} {h : Hp} {s : Mem} (R : RB g h s) (hm : Sm s) (ivs : IvS s) (ivo : IvO s) (ivf : IvF s) (ivv : IvV s) (ivt : IvT s) (v f : Int32) :
    Ct G fe_get [.ref (g.2 2), .int v, .int f] h (pI fun r h' => r = getM s v f ∧ RB g h' s ∧ Stq g h nSc g h') := by
  have X := R.1
  have n60 := ivo.2.1
  refine Ct.ofL (M := fe_get) (lv := [some (.ref (g.2 2)), some (.int v), some (.int f)]) mdf_fe_get rfl (Nat.le_of_ble_eq_true rfl) rfl ?_
  refine V_aload_n d_fe_get_0 rfl rfl ?_
  refine V_iload_n d_fe_get_1 rfl rfl ?_
  refine V_iload_n d_fe_get_2 rfl rfl ?_
  refine V_callV (N := fe_fieldOf) d_fe_get_3 ml_fe_152 mdf_fe_fieldOf wi_fe_fieldOf wz_fe_fieldOf (sp_fe_fieldOf G R ivs ivo v f) (by first | assumption | exact X.1 | exact hu_self _ _ _ | (simp (disch := first | assumption | (apply Ne.symm; assumption)) only [hu_self, hu_ne]; assumption)) ⟨_, rfl, rfl⟩ rfl rfl (by decide) (by decide) (Nat.le_of_ble_eq_true rfl) rfl rfl (kQ fun r3 h3 ⟨e3, z3⟩ => ?_)
  subst e3
  rcases z3 with ⟨no, rfl⟩ | ⟨o, j, c, ho, rfl, hj, rfl, im, rfl⟩
  · skip
    refine V_ifnonnullN d_fe_get_6 ?_
    refine V_iconst (v := -1) d_fe_get_9 (by decide) ?_
    refine V_goto d_fe_get_10 ?_
    refine V_ireturn d_fe_get_19 rfl ?_
    exact ⟨_, rfl, by rw [getM, if_neg no], R, Stq.rf _ _ _⟩
  · skip
    refine V_ifnonnull d_fe_get_6 ?_
    refine V_aload_n d_fe_get_13 rfl rfl ?_
    refine V_iload_n d_fe_get_14 rfl rfl ?_
    refine V_iload_n d_fe_get_15 rfl rfl ?_
    refine V_callV (N := fe_valueOf) d_fe_get_16 ml_fe_156 mdf_fe_valueOf wi_fe_valueOf wz_fe_valueOf (sp_fe_valueOf G R hm ivs ivo ivf ivv ivt ho hj) (by first | assumption | exact X.1 | exact hu_self _ _ _ | (simp (disch := first | assumption | (apply Ne.symm; assumption)) only [hu_self, hu_ne]; assumption)) ⟨_, rfl, rfl⟩ rfl rfl (by decide) (by decide) (Nat.le_of_ble_eq_true rfl) rfl rfl (kI fun r16 h16 p16 => ?_)
    refine V_ireturn d_fe_get_19 rfl ?_
    have n8 := (ivs.2.2.1 _ (ivo.2.2 o ho).2).2
    exact ⟨_, rfl, by rw [getM, if_pos ⟨o, j, ho, rfl, hj, rfl⟩, cl o (by omega), cl j (by omega)]; exact p16.1, p16.2⟩
def eltC (s : Mem) (v f i : Int32) : Prop := ∃ o j n k, o < nO s ∧ v = nI o ∧ j < nf s (sh s o) ∧ f = nI j ∧ s.2 3 (8 * sh s o + j) = 2 ∧ s.2 10 (8 * o + j) = nI n ∧ n ≤ 6 ∧ k < n ∧ i = nI k
def R_elt (s : Mem) (v f i : Int32) (r : Int32) : Prop := cs (iO s v) (cs (eltC s v f i) (r = s.2 11 (6 * (8 * v.toNatClampNeg + f.toNatClampNeg) + i.toNatClampNeg)) (r = -1)) (r = -2)
theorem sp_fe_element (G : Gk) {g : Gm} {h : Hp} {s : Mem} (R : RB g h s) (ivs : IvS s) (ivo : IvO s) (ivv : IvV s) (v f i : Int32) : Ct G fe_element [.ref (g.2 2), .int v, .int f, .int i] h (pI fun r h' => h = h' ∧ R_elt s v f i r) := by
  have X := R.1
  have n60 := ivo.2.1
  obtain ⟨T, t1, t2, t3⟩ := R.2.2.1
  refine Ct.ofL (M := fe_element) (lv := [some (.ref (g.2 2)), some (.int v), some (.int f), some (.int i), none, none]) mdf_fe_element rfl (Nat.le_of_ble_eq_true rfl) rfl ?_
  refine V_aload_n d_fe_element_0 rfl rfl ?_
  refine V_iload_n d_fe_element_1 rfl rfl ?_
  refine V_callV (N := fe_isThing) d_fe_element_2 ml_fe_160 mdf_fe_isThing wi_fe_isThing wz_fe_isThing (sp_fe_isThing G X ivo _) (by first | assumption | exact X.1 | exact hu_self _ _ _ | (simp (disch := first | assumption | (apply Ne.symm; assumption)) only [hu_self, hu_ne]; assumption)) ⟨_, rfl, rfl⟩ rfl rfl (by decide) (by decide) (Nat.le_of_ble_eq_true rfl) rfl rfl (kI fun r2 h2 ⟨e2, f2⟩ => ?_)
  subst e2 f2
  refine V_if_ne d_fe_element_5 (fun c5 => ?_) (fun c5 => ?_)
  · skip
    refine V_aload_n d_fe_element_11 rfl rfl ?_
    refine V_iload_n d_fe_element_12 rfl rfl ?_
    refine V_iload_n d_fe_element_13 rfl rfl ?_
    refine V_callV (N := fe_fieldOf) d_fe_element_14 ml_fe_152 mdf_fe_fieldOf wi_fe_fieldOf wz_fe_fieldOf (sp_fe_fieldOf G R ivs ivo v f) (by first | assumption | exact X.1 | exact hu_self _ _ _ | (simp (disch := first | assumption | (apply Ne.symm; assumption)) only [hu_self, hu_ne]; assumption)) ⟨_, rfl, rfl⟩ rfl rfl (by decide) (by decide) (Nat.le_of_ble_eq_true rfl) rfl rfl (kQ fun r14 h14 ⟨e14, z14⟩ => ?_)
    subst e14
    rcases z14 with ⟨no, rfl⟩ | ⟨o, j, c, ho, rfl, hj, rfl, im, rfl⟩
    · skip
      refine V_astoreN d_fe_element_17 (by decide) rfl rfl ?_
      dsimp only [List.set]
      refine V_aloadN d_fe_element_19 rfl ?_
      refine V_ifnullN d_fe_element_21 ?_
      refine V_iconst (v := -1) d_fe_element_33 (by decide) ?_
      refine V_ireturn d_fe_element_34 rfl ?_
      exact ⟨_, rfl, rfl, cs.mt (b01_ne c5) (cs.mf (fun ⟨o, j, n, k, h1, h2, h3, h4, _⟩ => no ⟨o, j, h1, h2, h3, h4⟩) rfl)⟩
    · skip
      refine V_astore d_fe_element_17 (by decide) rfl rfl ?_
      dsimp only [List.set]
      refine V_aload d_fe_element_19 rfl ?_
      refine V_ifnull d_fe_element_21 ?_
      have n8 := (ivs.2.2.1 _ (ivo.2.2 o ho).2).2
      refine V_aload d_fe_element_24 rfl ?_
      refine V_getf d_fe_element_26 fl_fe_109 im.1 rfl ?_
      refine V_iconst (v := 2) d_fe_element_29 (by decide) ?_
      refine V_icmp_eq d_fe_element_30 (fun c30 => ?_) (fun c30 => ?_)
      · skip
        obtain ⟨len, q1, q2, q3⟩ := (ivv o ho j hj).2 c30
        obtain ⟨a, u1, u2, W, w1, w2, w3⟩ := t3 o ho
        obtain ⟨a3, x1, x2⟩ := w3 j hj
        have eN : rowN s o j = len := by unfold rowN rwN; rw [c30, if_pos rfl, q2, cl len (by omega)]
        have eF : rowF s o j = fun i => s.2 11 (6 * (8 * o + j) + i) := by unfold rowF; funext z; unfold rwF; rw [c30, if_pos rfl]
        rw [eN, eF] at x2
        have hE : eltC s (nI o) (nI j) i ↔ ∃ k, k < len ∧ i = nI k := ⟨fun ⟨o', j', n, k, h1, h2, h3, h4, h5, h6, h7, h8, h9⟩ => ⟨k, by rw [← nI_inj8 (by omega) (by omega) h2] at h6 h3; rw [← nI_inj8 (by omega) (by omega) h4, q2] at h6; rw [nI_inj8 (by omega) (by omega) h6]; exact h8, h9⟩, fun ⟨k, z1, z2⟩ => ⟨o, j, len, k, ho, rfl, hj, rfl, c30, q2, q1, z1, z2⟩⟩
        refine V_aload_n d_fe_element_35 rfl rfl ?_
        refine V_getf d_fe_element_36 fl_fe_17 (by first | assumption | exact X.1 | exact hu_self _ _ _ | (simp (disch := first | assumption | (apply Ne.symm; assumption)) only [hu_self, hu_ne]; assumption)) rfl ?_
        refine V_iload_n d_fe_element_39 rfl rfl ?_
        refine V_aald o d_fe_element_40 t2.1 (by decide) (by decide) rfl (by omega) u1 ?_
        refine V_getf d_fe_element_41 fl_fe_140 u2.1 rfl ?_
        refine V_iload_n d_fe_element_44 rfl rfl ?_
        refine V_aald j d_fe_element_45 w2.1 (by decide) (by decide) rfl (by omega) x1 ?_
        refine V_astore d_fe_element_46 (by decide) rfl rfl ?_
        dsimp only [List.set]
        refine V_iload_n d_fe_element_48 rfl rfl ?_
        refine V_if_lt d_fe_element_49 (fun c49 => ?_) (fun c49 => ?_)
        · skip
          refine V_iconst (v := -1) d_fe_element_66 (by decide) ?_
          refine V_ireturn d_fe_element_67 rfl ?_
          refine ⟨_, rfl, rfl, cs.mt (b01_ne c5) (cs.mf (fun q => ?_) rfl)⟩
          obtain ⟨k, z1, z2⟩ := hE.mp q
          subst z2
          exact nI_pos (by omega) c49
        · skip
          refine V_iload_n d_fe_element_52 rfl rfl ?_
          refine V_aload d_fe_element_53 rfl ?_
          refine V_alen d_fe_element_55 x2.1 (by decide) (by decide) ?_
          rw [arrL_len]
          refine V_icmp_ge d_fe_element_56 (fun c56 => ?_) (fun c56 => ?_)
          · skip
            refine V_iconst (v := -1) d_fe_element_66 (by decide) ?_
            refine V_ireturn d_fe_element_67 rfl ?_
            refine ⟨_, rfl, rfl, cs.mt (b01_ne c5) (cs.mf (fun q => ?_) rfl)⟩
            obtain ⟨k, z1, z2⟩ := hE.mp q
            subst z2
            exact nI_ge z1 (by omega) c56
          · skip
            obtain ⟨k, hk, rfl⟩ := ix_lt c49 c56 (by omega)
            refine V_aload d_fe_element_59 rfl ?_
            refine V_iload_n d_fe_element_61 rfl rfl ?_
            refine V_iald k d_fe_element_62 x2.1 rfl (by omega) (arrL_get _ hk) ?_
            refine V_goto d_fe_element_63 ?_
            refine V_ireturn d_fe_element_67 rfl ?_
            exact ⟨_, rfl, rfl, cs.mt (b01_ne c5) (cs.mt (hE.mpr ⟨k, hk, rfl⟩) (by rw [cl o (by omega), cl j (by omega), cl k (by omega)]))⟩
      · skip
        refine V_iconst (v := -1) d_fe_element_33 (by decide) ?_
        refine V_ireturn d_fe_element_34 rfl ?_
        refine ⟨_, rfl, rfl, cs.mt (b01_ne c5) (cs.mf (fun ⟨o', j', n, k, h1, h2, h3, h4, h5, _⟩ => ?_) rfl)⟩
        rw [← nI_inj8 (by omega) (by omega) h2] at h3 h5
        rw [← nI_inj8 (by omega) (by omega) h4] at h5
        exact c30 h5
  · skip
    refine V_bipush (v := -2) d_fe_element_8 (by decide) ?_
    refine V_ireturn d_fe_element_10 rfl ?_
    exact ⟨_, rfl, rfl, cs.mf (b01_e c5) rfl⟩
theorem sp_fe_shapeOf (G : Gk) {g : Gm} {h : Hp} {s : Mem} (R : RB g h s) (ivo : IvO s) (v : Int32) : Ct G fe_shapeOf [.ref (g.2 2), .int v] h (pI fun r h' => h = h' ∧ cs (iO s v) (r = s.2 9 v.toNatClampNeg) (r = -2)) := by
  have X := R.1
  have n60 := ivo.2.1
  obtain ⟨T, t1, t2, t3⟩ := R.2.2.1
  refine Ct.ofL (M := fe_shapeOf) (lv := [some (.ref (g.2 2)), some (.int v)]) mdf_fe_shapeOf rfl (Nat.le_of_ble_eq_true rfl) rfl ?_
  refine V_aload_n d_fe_shapeOf_0 rfl rfl ?_
  refine V_iload_n d_fe_shapeOf_1 rfl rfl ?_
  refine V_callV (N := fe_isThing) d_fe_shapeOf_2 ml_fe_160 mdf_fe_isThing wi_fe_isThing wz_fe_isThing (sp_fe_isThing G X ivo _) (by first | assumption | exact X.1 | exact hu_self _ _ _ | (simp (disch := first | assumption | (apply Ne.symm; assumption)) only [hu_self, hu_ne]; assumption)) ⟨_, rfl, rfl⟩ rfl rfl (by decide) (by decide) (Nat.le_of_ble_eq_true rfl) rfl rfl (kI fun r2 h2 ⟨e2, f2⟩ => ?_)
  subst e2 f2
  refine V_if_eq d_fe_shapeOf_5 (fun c5 => ?_) (fun c5 => ?_)
  · skip
    refine V_bipush (v := -2) d_fe_shapeOf_20 (by decide) ?_
    refine V_ireturn d_fe_shapeOf_22 rfl ?_
    exact ⟨_, rfl, rfl, cs.mf (b01_e c5) rfl⟩
  · skip
    obtain ⟨o, ho, rfl⟩ := b01_ne c5
    obtain ⟨a, u1, u2, W, w1, w2, w3⟩ := t3 o ho
    refine V_aload_n d_fe_shapeOf_8 rfl rfl ?_
    refine V_getf d_fe_shapeOf_9 fl_fe_17 (by first | assumption | exact X.1 | exact hu_self _ _ _ | (simp (disch := first | assumption | (apply Ne.symm; assumption)) only [hu_self, hu_ne]; assumption)) rfl ?_
    refine V_iload_n d_fe_shapeOf_12 rfl rfl ?_
    refine V_aald o d_fe_shapeOf_13 t2.1 (by decide) (by decide) rfl (by omega) u1 ?_
    refine V_getf d_fe_shapeOf_14 fl_fe_163 u2.1 rfl ?_
    refine V_goto d_fe_shapeOf_17 ?_
    refine V_ireturn d_fe_shapeOf_22 rfl ?_
    exact ⟨_, rfl, rfl, cs.mt (b01_ne c5) (by rw [cl o (by omega)])⟩
