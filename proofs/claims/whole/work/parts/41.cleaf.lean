/-! the class's small parts -/
theorem ix_lt {v : Int32} {n : Nat} (h0 : ¬ v < 0) (h1 : ¬ nI n ≤ v) (hn : n < 1000000) : ∃ j, j < n ∧ v = nI j := by
  obtain ⟨i, hi, rfl⟩ := ixle hn ⟨Int32.not_lt.mp h0, Int32.le_of_lt (Int32.not_le.mp h1)⟩
  exact ⟨i, Nat.lt_of_le_of_ne hi (fun e => h1 (by rw [e]; exact Int32.le_refl _)), rfl⟩
/-- a Field's cell -/
def fdV (k a b g fl : Int32) : List Value := [.int k, .int a, .int b, .int g, .int fl]
theorem sp_fd_init (G : Gk) {h : Hp} {a : Nat} (ha : h a = some (2, dfl 2)) (k v w g fl : Int32) : Ct G fd_init [.ref a, .int k, .int v, .int w, .int g, .int fl] h (pN fun h' => h' = hu h a (2, fdV k v w g fl)) := by
  refine Ct.ofL (M := fd_init) (lv := [some (.ref a), some (.int k), some (.int v), some (.int w), some (.int g), some (.int fl)]) mdf_fd_init rfl (Nat.le_of_ble_eq_true rfl) rfl ?_
  refine V_aload_n d_fd_init_0 rfl rfl ?_
  refine V_objinit d_fd_init_1 ml_fd_3 (by decide) (Nat.le_of_ble_eq_true rfl) ?_
  refine V_aload_n d_fd_init_4 rfl rfl ?_
  refine V_iload_n d_fd_init_5 rfl rfl ?_
  refine V_putF d_fd_init_6 fp_fd_9 rfl rfl rfl (by first | assumption | exact hu_self _ _ _ | (simp (disch := first | assumption | (apply Ne.symm; assumption)) only [hu_self, hu_ne]; assumption)) ?_
  refine V_aload_n d_fd_init_9 rfl rfl ?_
  refine V_iload_n d_fd_init_10 rfl rfl ?_
  refine V_putF d_fd_init_11 fp_fd_15 rfl rfl rfl (by first | assumption | exact hu_self _ _ _ | (simp (disch := first | assumption | (apply Ne.symm; assumption)) only [hu_self, hu_ne]; assumption)) ?_
  refine V_aload_n d_fd_init_14 rfl rfl ?_
  refine V_iload_n d_fd_init_15 rfl rfl ?_
  refine V_putF d_fd_init_16 fp_fd_18 rfl rfl rfl (by first | assumption | exact hu_self _ _ _ | (simp (disch := first | assumption | (apply Ne.symm; assumption)) only [hu_self, hu_ne]; assumption)) ?_
  refine V_aload_n d_fd_init_19 rfl rfl ?_
  refine V_iload d_fd_init_20 rfl ?_
  refine V_putF d_fd_init_22 fp_fd_21 rfl rfl rfl (by first | assumption | exact hu_self _ _ _ | (simp (disch := first | assumption | (apply Ne.symm; assumption)) only [hu_self, hu_ne]; assumption)) ?_
  refine V_aload_n d_fd_init_25 rfl rfl ?_
  refine V_iload d_fd_init_26 rfl ?_
  refine V_putF d_fd_init_28 fp_fd_24 rfl rfl rfl (by first | assumption | exact hu_self _ _ _ | (simp (disch := first | assumption | (apply Ne.symm; assumption)) only [hu_self, hu_ne]; assumption)) ?_
  refine V_return d_fd_init_31 rfl ?_
  exact ⟨rfl, by simp only [hu_hu]; rfl⟩
theorem sp_fd_has (G : Gk) {h : Hp} {a : Nat} {k v w g fl : Int32} (ha : h a = some (2, fdV k v w g fl)) (x : Int32) : Ct G fd_has [.ref a, .int x] h (pI fun r h' => h = h' ∧ r = b01 (fl &&& x ≠ 0)) := by
  refine Ct.ofL (M := fd_has) (lv := [some (.ref a), some (.int x)]) mdf_fd_has rfl (Nat.le_of_ble_eq_true rfl) rfl ?_
  refine V_aload_n d_fd_has_0 rfl rfl ?_
  refine V_getf d_fd_has_1 fl_fd_24 (by first | assumption | exact hu_self _ _ _ | (simp (disch := first | assumption | (apply Ne.symm; assumption)) only [hu_self, hu_ne]; assumption)) rfl ?_
  refine V_iload_n d_fd_has_4 rfl rfl ?_
  refine V_iand d_fd_has_5 ?_
  refine V_if_eq d_fd_has_6 (fun c6 => ?_) (fun c6 => ?_)
  · skip
    refine V_iconst (v := 0) d_fd_has_13 (by decide) ?_
    refine V_zreturn d_fd_has_14 rfl (by first | exact Or.inl rfl | exact Or.inr rfl) ?_
    exact ⟨_, rfl, rfl, (b01_f (fun q => q c6)).symm⟩
  · skip
    refine V_iconst (v := 1) d_fd_has_9 (by decide) ?_
    refine V_goto d_fd_has_10 ?_
    refine V_zreturn d_fd_has_14 rfl (by first | exact Or.inl rfl | exact Or.inr rfl) ?_
    exact ⟨_, rfl, rfl, (b01_t c6).symm⟩
theorem sp_fd_isNumeric (G : Gk) {h : Hp} {a : Nat} {k v w g fl : Int32} (ha : h a = some (2, fdV k v w g fl)) : Ct G fd_isNumeric [.ref a] h (pI fun r h' => h = h' ∧ r = b01 (k = 0 ∨ k = 3)) := by
  refine Ct.ofL (M := fd_isNumeric) (lv := [some (.ref a)]) mdf_fd_isNumeric rfl (Nat.le_of_ble_eq_true rfl) rfl ?_
  refine V_aload_n d_fd_isNumeric_0 rfl rfl ?_
  refine V_getf d_fd_isNumeric_1 fl_fd_9 (by first | assumption | exact hu_self _ _ _ | (simp (disch := first | assumption | (apply Ne.symm; assumption)) only [hu_self, hu_ne]; assumption)) rfl ?_
  refine V_if_eq d_fd_isNumeric_4 (fun c4 => ?_) (fun c4 => ?_)
  · skip
    refine V_iconst (v := 1) d_fd_isNumeric_15 (by decide) ?_
    refine V_goto d_fd_isNumeric_16 ?_
    refine V_zreturn d_fd_isNumeric_20 rfl (by first | exact Or.inl rfl | exact Or.inr rfl) ?_
    exact ⟨_, rfl, rfl, (b01_t (Or.inl c4)).symm⟩
  · skip
    refine V_aload_n d_fd_isNumeric_7 rfl rfl ?_
    refine V_getf d_fd_isNumeric_8 fl_fd_9 (by first | assumption | exact hu_self _ _ _ | (simp (disch := first | assumption | (apply Ne.symm; assumption)) only [hu_self, hu_ne]; assumption)) rfl ?_
    refine V_iconst (v := 3) d_fd_isNumeric_11 (by decide) ?_
    refine V_icmp_ne d_fd_isNumeric_12 (fun c12 => ?_) (fun c12 => ?_)
    · skip
      refine V_iconst (v := 0) d_fd_isNumeric_19 (by decide) ?_
      refine V_zreturn d_fd_isNumeric_20 rfl (by first | exact Or.inl rfl | exact Or.inr rfl) ?_
      exact ⟨_, rfl, rfl, (b01_f (fun q => q.elim c4 c12)).symm⟩
    · skip
      refine V_iconst (v := 1) d_fd_isNumeric_15 (by decide) ?_
      refine V_goto d_fd_isNumeric_16 ?_
      refine V_zreturn d_fd_isNumeric_20 rfl (by first | exact Or.inl rfl | exact Or.inr rfl) ?_
      exact ⟨_, rfl, rfl, (b01_t (Or.inr c12)).symm⟩
theorem sp_fd_leads (G : Gk) {h : Hp} {a : Nat} {k v w g fl : Int32} (ha : h a = some (2, fdV k v w g fl)) : Ct G fd_leads [.ref a] h (pI fun r h' => h = h' ∧ r = b01 (k = 1 ∨ k = 2)) := by
  refine Ct.ofL (M := fd_leads) (lv := [some (.ref a)]) mdf_fd_leads rfl (Nat.le_of_ble_eq_true rfl) rfl ?_
  refine V_aload_n d_fd_leads_0 rfl rfl ?_
  refine V_getf d_fd_leads_1 fl_fd_9 (by first | assumption | exact hu_self _ _ _ | (simp (disch := first | assumption | (apply Ne.symm; assumption)) only [hu_self, hu_ne]; assumption)) rfl ?_
  refine V_iconst (v := 1) d_fd_leads_4 (by decide) ?_
  refine V_icmp_eq d_fd_leads_5 (fun c5 => ?_) (fun c5 => ?_)
  · skip
    refine V_iconst (v := 1) d_fd_leads_16 (by decide) ?_
    refine V_goto d_fd_leads_17 ?_
    refine V_zreturn d_fd_leads_21 rfl (by first | exact Or.inl rfl | exact Or.inr rfl) ?_
    exact ⟨_, rfl, rfl, (b01_t (Or.inl c5)).symm⟩
  · skip
    refine V_aload_n d_fd_leads_8 rfl rfl ?_
    refine V_getf d_fd_leads_9 fl_fd_9 (by first | assumption | exact hu_self _ _ _ | (simp (disch := first | assumption | (apply Ne.symm; assumption)) only [hu_self, hu_ne]; assumption)) rfl ?_
    refine V_iconst (v := 2) d_fd_leads_12 (by decide) ?_
    refine V_icmp_ne d_fd_leads_13 (fun c13 => ?_) (fun c13 => ?_)
    · skip
      refine V_iconst (v := 0) d_fd_leads_20 (by decide) ?_
      refine V_zreturn d_fd_leads_21 rfl (by first | exact Or.inl rfl | exact Or.inr rfl) ?_
      exact ⟨_, rfl, rfl, (b01_f (fun q => q.elim c5 c13)).symm⟩
    · skip
      refine V_iconst (v := 1) d_fd_leads_16 (by decide) ?_
      refine V_goto d_fd_leads_17 ?_
      refine V_zreturn d_fd_leads_21 rfl (by first | exact Or.inl rfl | exact Or.inr rfl) ?_
      exact ⟨_, rfl, rfl, (b01_t (Or.inr c13)).symm⟩
theorem sp_fd_holdsOn (G : Gk) {h : Hp} {a : Nat} {k v w g fl : Int32} (ha : h a = some (2, fdV k v w g fl)) : Ct G fd_holdsOn [.ref a] h (pI fun r h' => h = h' ∧ r = b01 ((k = 1 ∨ k = 2) ∧ fl &&& 4 = 0)) := by
  refine Ct.ofL (M := fd_holdsOn) (lv := [some (.ref a)]) mdf_fd_holdsOn rfl (Nat.le_of_ble_eq_true rfl) rfl ?_
  refine V_aload_n d_fd_holdsOn_0 rfl rfl ?_
  refine V_callV (N := fd_leads) d_fd_holdsOn_1 ml_fd_27 mdf_fd_leads wi_fd_leads wz_fd_leads (sp_fd_leads G ha) (by first | assumption | exact hu_self _ _ _ | (simp (disch := first | assumption | (apply Ne.symm; assumption)) only [hu_self, hu_ne]; assumption)) ⟨_, rfl, rfl⟩ rfl rfl (by decide) (by decide) (Nat.le_of_ble_eq_true rfl) rfl rfl (kI fun r1 h1 ⟨e1, f1⟩ => ?_)
  subst e1 f1
  refine V_if_eq d_fd_holdsOn_4 (fun c4 => ?_) (fun c4 => ?_)
  · skip
    refine V_iconst (v := 0) d_fd_holdsOn_19 (by decide) ?_
    refine V_zreturn d_fd_holdsOn_20 rfl (by first | exact Or.inl rfl | exact Or.inr rfl) ?_
    exact ⟨_, rfl, rfl, (b01_f (fun q => b01_e c4 q.1)).symm⟩
  · skip
    refine V_aload_n d_fd_holdsOn_7 rfl rfl ?_
    refine V_iconst (v := 4) d_fd_holdsOn_8 (by decide) ?_
    refine V_callV (N := fd_has) d_fd_holdsOn_9 ml_fd_31 mdf_fd_has wi_fd_has wz_fd_has (sp_fd_has G ha 4) (by first | assumption | exact hu_self _ _ _ | (simp (disch := first | assumption | (apply Ne.symm; assumption)) only [hu_self, hu_ne]; assumption)) ⟨_, rfl, rfl⟩ rfl rfl (by decide) (by decide) (Nat.le_of_ble_eq_true rfl) rfl rfl (kI fun r9 h9 ⟨e9, f9⟩ => ?_)
    subst e9 f9
    refine V_if_ne d_fd_holdsOn_12 (fun c12 => ?_) (fun c12 => ?_)
    · skip
      refine V_iconst (v := 0) d_fd_holdsOn_19 (by decide) ?_
      refine V_zreturn d_fd_holdsOn_20 rfl (by first | exact Or.inl rfl | exact Or.inr rfl) ?_
      exact ⟨_, rfl, rfl, (b01_f (fun q => b01_ne c12 q.2)).symm⟩
    · skip
      refine V_iconst (v := 1) d_fd_holdsOn_15 (by decide) ?_
      refine V_goto d_fd_holdsOn_16 ?_
      refine V_zreturn d_fd_holdsOn_20 rfl (by first | exact Or.inl rfl | exact Or.inr rfl) ?_
      exact ⟨_, rfl, rfl, (b01_t ⟨b01_ne c4, Classical.not_not.mp (b01_e c12)⟩).symm⟩
/-- a row's numbers, by kind: a number or link one, a list its places -/
def rwN (k v : Int32) : Nat := if k = 2 then v.toNatClampNeg else if k = 3 then 0 else 1
def rwF (k v : Int32) (P : Nat → Int32) (i : Nat) : Int32 := if k = 2 then P i else v
def rwL (k v : Int32) (P : Nat → Int32) : List Value := arrL (rwN k v) (rwF k v P)
theorem sp_fd_firstRow (G : Gk) {h : Hp} {a : Nat} {k v w g fl : Int32} (ha : h a = some (2, fdV k v w g fl)) : Ct G fd_firstRow [.ref a] h (pR fun r h' => h r = none ∧ h' = hu h r (20, arrL (if k = 0 ∨ k = 1 then 1 else 0) (fun _ => MISS))) := by
  refine Ct.ofL (M := fd_firstRow) (lv := [some (.ref a)]) mdf_fd_firstRow rfl (Nat.le_of_ble_eq_true rfl) rfl ?_
  refine V_aload_n d_fd_firstRow_0 rfl rfl ?_
  refine V_getf d_fd_firstRow_1 fl_fd_9 (by first | assumption | exact hu_self _ _ _ | (simp (disch := first | assumption | (apply Ne.symm; assumption)) only [hu_self, hu_ne]; assumption)) rfl ?_
  refine V_if_eq d_fd_firstRow_4 (fun c4 => ?_) (fun c4 => ?_)
  · skip
    refine V_iconst (v := 1) d_fd_firstRow_15 (by decide) ?_
    refine V_newI (M := fd_firstRow) 1 d_fd_firstRow_16 rfl (by omega) (fun q16 hq16 => ?_)
    refine V_dup d_fd_firstRow_18 rfl ?_
    refine V_iconst (v := 0) d_fd_firstRow_19 (by decide) ?_
    refine V_ldc d_fd_firstRow_20 kc_fd_35 ?_
    refine V_iast 0 d_fd_firstRow_22 (by first | assumption | exact hu_self _ _ _ | (simp (disch := first | assumption | (apply Ne.symm; assumption)) only [hu_self, hu_ne]; assumption)) rfl (by omega) (by decide) ?_
    refine V_goto d_fd_firstRow_23 ?_
    refine V_areturn d_fd_firstRow_29 rfl (by first | exact Or.inl ⟨_, rfl⟩ | exact Or.inr ⟨_, rfl⟩) (by first | exact Or.inl rfl | exact Or.inr ⟨_, rfl⟩) ?_
    exact ⟨_, rfl, hq16, by rw [if_pos (Or.inl c4), hu_hu]; rfl⟩
  · skip
    refine V_aload_n d_fd_firstRow_7 rfl rfl ?_
    refine V_getf d_fd_firstRow_8 fl_fd_9 (by first | assumption | exact hu_self _ _ _ | (simp (disch := first | assumption | (apply Ne.symm; assumption)) only [hu_self, hu_ne]; assumption)) rfl ?_
    refine V_iconst (v := 1) d_fd_firstRow_11 (by decide) ?_
    refine V_icmp_ne d_fd_firstRow_12 (fun c12 => ?_) (fun c12 => ?_)
    · skip
      refine V_iconst (v := 0) d_fd_firstRow_26 (by decide) ?_
      refine V.need (cr := 0 + 1) (sr := 0 + 0) ?_ (by decide) (by decide)
      refine V_newI (M := fd_firstRow) 0 d_fd_firstRow_27 rfl (by omega) (fun q27 hq27 => ?_)
      refine V_areturn d_fd_firstRow_29 rfl (by first | exact Or.inl ⟨_, rfl⟩ | exact Or.inr ⟨_, rfl⟩) (by first | exact Or.inl rfl | exact Or.inr ⟨_, rfl⟩) ?_
      exact ⟨_, rfl, hq27, by rw [if_neg (fun q => q.elim c4 c12)]; rfl⟩
    · skip
      refine V_iconst (v := 1) d_fd_firstRow_15 (by decide) ?_
      refine V_newI (M := fd_firstRow) 1 d_fd_firstRow_16 rfl (by omega) (fun q16 hq16 => ?_)
      refine V_dup d_fd_firstRow_18 rfl ?_
      refine V_iconst (v := 0) d_fd_firstRow_19 (by decide) ?_
      refine V_ldc d_fd_firstRow_20 kc_fd_35 ?_
      refine V_iast 0 d_fd_firstRow_22 (by first | assumption | exact hu_self _ _ _ | (simp (disch := first | assumption | (apply Ne.symm; assumption)) only [hu_self, hu_ne]; assumption)) rfl (by omega) (by decide) ?_
      refine V_goto d_fd_firstRow_23 ?_
      refine V_areturn d_fd_firstRow_29 rfl (by first | exact Or.inl ⟨_, rfl⟩ | exact Or.inr ⟨_, rfl⟩) (by first | exact Or.inl rfl | exact Or.inr ⟨_, rfl⟩) ?_
      exact ⟨_, rfl, hq16, by rw [if_pos (Or.inr c12), hu_hu]; rfl⟩
/-- what a row shows, by kind -/
def plV (k : Int32) (n : Nat) (F : Nat → Int32) : Int32 := if k = 0 ∨ k = 1 then F 0 else nI n
theorem sp_fd_plainValue (G : Gk) {h : Hp} {a b n : Nat} {k v w g fl : Int32} {F : Nat → Int32} (ha : h a = some (2, fdV k v w g fl)) (hb : h b = some (20, arrL n F)) (h1 : k = 0 ∨ k = 1 → 0 < n) : Ct G fd_plainValue [.ref a, .ref b] h (pI fun r h' => h = h' ∧ r = plV k n F) := by
  refine Ct.ofL (M := fd_plainValue) (lv := [some (.ref a), some (.ref b)]) mdf_fd_plainValue rfl (Nat.le_of_ble_eq_true rfl) rfl ?_
  refine V_aload_n d_fd_plainValue_0 rfl rfl ?_
  refine V_getf d_fd_plainValue_1 fl_fd_9 (by first | assumption | exact hu_self _ _ _ | (simp (disch := first | assumption | (apply Ne.symm; assumption)) only [hu_self, hu_ne]; assumption)) rfl ?_
  refine V_if_eq d_fd_plainValue_4 (fun c4 => ?_) (fun c4 => ?_)
  · skip
    refine V_aload_n d_fd_plainValue_15 rfl rfl ?_
    refine V_iconst (v := 0) d_fd_plainValue_16 (by decide) ?_
    refine V_iald 0 d_fd_plainValue_17 hb rfl (by omega) (arrL_get _ (h1 (Or.inl c4))) ?_
    refine V_goto d_fd_plainValue_18 ?_
    refine V_ireturn d_fd_plainValue_23 rfl ?_
    exact ⟨_, rfl, rfl, by unfold plV; rw [if_pos (Or.inl c4)]⟩
  · skip
    refine V_aload_n d_fd_plainValue_7 rfl rfl ?_
    refine V_getf d_fd_plainValue_8 fl_fd_9 (by first | assumption | exact hu_self _ _ _ | (simp (disch := first | assumption | (apply Ne.symm; assumption)) only [hu_self, hu_ne]; assumption)) rfl ?_
    refine V_iconst (v := 1) d_fd_plainValue_11 (by decide) ?_
    refine V_icmp_ne d_fd_plainValue_12 (fun c12 => ?_) (fun c12 => ?_)
    · skip
      refine V_aload_n d_fd_plainValue_21 rfl rfl ?_
      refine V_alen d_fd_plainValue_22 (by first | assumption | exact hu_self _ _ _ | (simp (disch := first | assumption | (apply Ne.symm; assumption)) only [hu_self, hu_ne]; assumption)) (by decide) (by decide) ?_
      rw [arrL_len]
      refine V_ireturn d_fd_plainValue_23 rfl ?_
      exact ⟨_, rfl, rfl, by unfold plV; rw [if_neg (fun q => q.elim c4 c12)]⟩
    · skip
      refine V_aload_n d_fd_plainValue_15 rfl rfl ?_
      refine V_iconst (v := 0) d_fd_plainValue_16 (by decide) ?_
      refine V_iald 0 d_fd_plainValue_17 hb rfl (by omega) (arrL_get _ (h1 (Or.inr c12))) ?_
      refine V_goto d_fd_plainValue_18 ?_
      refine V_ireturn d_fd_plainValue_23 rfl ?_
      exact ⟨_, rfl, rfl, by unfold plV; rw [if_pos (Or.inr c12)]⟩
theorem sp_sh_init (G : Gk) {h : Hp} {a : Nat} (ha : h a = some (8, dfl 8)) (v : Int32) : Ct G sh_init [.ref a, .int v] h (pN fun h' => ∃ q, h q = none ∧ h' = hu (hu h q (22, List.replicate 8 .null)) a (8, [.int v, .ref q, .int 0, .int 0])) := by
  refine Ct.ofL (M := sh_init) (lv := [some (.ref a), some (.int v)]) mdf_sh_init rfl (Nat.le_of_ble_eq_true rfl) rfl ?_
  refine V_aload_n d_sh_init_0 rfl rfl ?_
  refine V_objinit d_sh_init_1 ml_sh_3 (by decide) (Nat.le_of_ble_eq_true rfl) ?_
  refine V_aload_n d_sh_init_4 rfl rfl ?_
  refine V_iload_n d_sh_init_5 rfl rfl ?_
  refine V_putF d_sh_init_6 fp_sh_9 rfl rfl rfl (by first | assumption | exact hu_self _ _ _ | (simp (disch := first | assumption | (apply Ne.symm; assumption)) only [hu_self, hu_ne]; assumption)) ?_
  refine V_aload_n d_sh_init_9 rfl rfl ?_
  refine V_bipush (v := 8) d_sh_init_10 (by decide) ?_
  refine V.need (cr := 0 + 1) (sr := 0 + 8) ?_ (by decide) (by decide)
  refine V_anew (M := sh_init) 8 d_sh_init_12 an_sh_15 rfl (by omega) (fun q12 hq12 => ?_)
  have nq : a ≠ q12 := fun z => by rw [← z, hu_self] at hq12; cases hq12
  have hq : h q12 = none := by rw [hu_ne _ _ (Ne.symm nq)] at hq12; exact hq12
  refine V_putF d_sh_init_15 fp_sh_17 rfl rfl rfl (by rw [hu_ne _ _ nq, hu_self]) ?_
  refine V_return d_sh_init_18 rfl ?_
  refine ⟨rfl, q12, hq, ?_⟩
  funext b
  by_cases e : b = a
  · (subst e; rw [hu_self, hu_self]; rfl)
  · (by_cases e2 : b = q12; (subst e2; rw [hu_ne _ _ e, hu_self, hu_ne _ _ e, hu_self]); (rw [hu_ne _ _ e, hu_ne _ _ e2, hu_ne _ _ e, hu_ne _ _ e, hu_ne _ _ e2]))
theorem sp_sh_append (G : Gk) {h : Hp} {a b c n : Nat} {vs ws : List Value} {v cl : Int32} (ha : h a = some (8, [.int v, .ref b, .int (nI n), .int cl])) (hb : h b = some (22, vs)) (hc : h c = some (2, ws)) (hn : n < vs.length) (h8 : n < 100) : Ct G sh_append [.ref a, .ref c] h (pI fun r h' => r = nI n ∧ h' = hu (hu h b (22, vs.set n (.ref c))) a (8, [.int v, .ref b, .int (nI (n + 1)), .int cl])) := by
  have nab : a ≠ b := kne ha hb (by decide)
  refine Ct.ofL (M := sh_append) (lv := [some (.ref a), some (.ref c)]) mdf_sh_append rfl (Nat.le_of_ble_eq_true rfl) rfl ?_
  refine V_aload_n d_sh_append_0 rfl rfl ?_
  refine V_getf d_sh_append_1 fl_sh_17 (by first | assumption | exact hu_self _ _ _ | (simp (disch := first | assumption | (apply Ne.symm; assumption)) only [hu_self, hu_ne]; assumption)) rfl ?_
  refine V_aload_n d_sh_append_4 rfl rfl ?_
  refine V_getf d_sh_append_5 fl_sh_21 (by first | assumption | exact hu_self _ _ _ | (simp (disch := first | assumption | (apply Ne.symm; assumption)) only [hu_self, hu_ne]; assumption)) rfl ?_
  refine V_aload_n d_sh_append_8 rfl rfl ?_
  refine V_aast n d_sh_append_9 hb hc rfl rfl (by omega) hn ?_
  refine V_aload_n d_sh_append_10 rfl rfl ?_
  refine V_dup d_sh_append_11 rfl ?_
  refine V_getf d_sh_append_12 fl_sh_21 (by first | assumption | exact hu_self _ _ _ | (simp (disch := first | assumption | (apply Ne.symm; assumption)) only [hu_self, hu_ne]; assumption)) rfl ?_
  refine V_dup_x1 d_sh_append_15 rfl rfl ?_
  refine V_iconst (v := 1) d_sh_append_16 (by decide) ?_
  refine V_iadd d_sh_append_17 ?_
  refine V_putf d_sh_append_18 fp_sh_21 rfl rfl (by first | assumption | exact hu_self _ _ _ | (simp (disch := first | assumption | (apply Ne.symm; assumption)) only [hu_self, hu_ne]; assumption)) ?_
  refine V_ireturn d_sh_append_21 rfl ?_
  exact ⟨_, rfl, rfl, by rw [nI_1]; rfl⟩
theorem sp_sh_fieldAt (G : Gk) {h : Hp} {a b n : Nat} {vs : List Value} {v cl : Int32} (ha : h a = some (8, [.int v, .ref b, .int (nI n), .int cl])) (hb : h b = some (22, vs)) (h8 : n < 100) (hf : ∀ j, j < n → ∃ c, vs[j]? = some (.ref c)) (f : Int32) : Ct G sh_fieldAt [.ref a, .int f] h (pQ fun r h' => h = h' ∧ (((∀ j, j < n → f ≠ nI j) ∧ r = none) ∨ ∃ j c, j < n ∧ f = nI j ∧ vs[j]? = some (.ref c) ∧ r = some c)) := by
  refine Ct.ofL (M := sh_fieldAt) (lv := [some (.ref a), some (.int f)]) mdf_sh_fieldAt rfl (Nat.le_of_ble_eq_true rfl) rfl ?_
  refine V_iload_n d_sh_fieldAt_0 rfl rfl ?_
  refine V_if_lt d_sh_fieldAt_1 (fun c1 => ?_) (fun c1 => ?_)
  · skip
    refine V_null d_sh_fieldAt_21 ?_
    refine V_areturn d_sh_fieldAt_22 rfl (by first | exact Or.inl ⟨_, rfl⟩ | exact Or.inr ⟨_, rfl⟩) (by first | exact Or.inl rfl | exact Or.inr ⟨_, rfl⟩) ?_
    refine ⟨none, rfl, rfl, Or.inl ⟨fun j hj e => ?_, rfl⟩⟩
    subst e
    exact nI_pos (by omega) c1
  · skip
    refine V_iload_n d_sh_fieldAt_4 rfl rfl ?_
    refine V_aload_n d_sh_fieldAt_5 rfl rfl ?_
    refine V_getf d_sh_fieldAt_6 fl_sh_21 (by first | assumption | exact hu_self _ _ _ | (simp (disch := first | assumption | (apply Ne.symm; assumption)) only [hu_self, hu_ne]; assumption)) rfl ?_
    refine V_icmp_ge d_sh_fieldAt_9 (fun c9 => ?_) (fun c9 => ?_)
    · skip
      refine V_null d_sh_fieldAt_21 ?_
      refine V_areturn d_sh_fieldAt_22 rfl (by first | exact Or.inl ⟨_, rfl⟩ | exact Or.inr ⟨_, rfl⟩) (by first | exact Or.inl rfl | exact Or.inr ⟨_, rfl⟩) ?_
      refine ⟨none, rfl, rfl, Or.inl ⟨fun j hj e => ?_, rfl⟩⟩
      subst e
      exact nI_ge hj (by omega) c9
    · skip
      obtain ⟨j, hj, rfl⟩ := ix_lt c1 c9 (by omega)
      obtain ⟨c, hcj⟩ := hf j hj
      refine V_aload_n d_sh_fieldAt_12 rfl rfl ?_
      refine V_getf d_sh_fieldAt_13 fl_sh_17 (by first | assumption | exact hu_self _ _ _ | (simp (disch := first | assumption | (apply Ne.symm; assumption)) only [hu_self, hu_ne]; assumption)) rfl ?_
      refine V_iload_n d_sh_fieldAt_16 rfl rfl ?_
      refine V_aald j d_sh_fieldAt_17 (by first | assumption | exact hu_self _ _ _ | (simp (disch := first | assumption | (apply Ne.symm; assumption)) only [hu_self, hu_ne]; assumption)) (by decide) (by decide) rfl (by omega) (by assumption) ?_
      refine V_goto d_sh_fieldAt_18 ?_
      refine V_areturn d_sh_fieldAt_22 rfl (by first | exact Or.inl ⟨_, rfl⟩ | exact Or.inr ⟨_, rfl⟩) (by first | exact Or.inl rfl | exact Or.inr ⟨_, rfl⟩) ?_
      exact ⟨some c, rfl, rfl, Or.inr ⟨j, c, hj, rfl, hcj, rfl⟩⟩
theorem lp_inh (G : Gk) {h : Hp} {a b c d n : Nat} {ws : List Value} {v v2 cl cl2 : Int32} (hc : h c = some (8, [.int v2, .ref d, .int (nI n), .int cl2])) (hd : h d = some (22, ws)) (n8 : n ≤ 8) (hw : ∀ j, j < n → ∃ e w, ws[j]? = some (.ref e) ∧ h e = some (2, w)) (nca : c ≠ a) (ndb : d ≠ b) (nab : a ≠ b) (nbc : c ≠ b) (nda : d ≠ a) (hfa : ∀ e w, h e = some (2, w) → e ≠ a ∧ e ≠ b) : ∀ (k i : Nat) (L : List Value), i + k = n → L.length = 8 → (∀ j, j < i → L[j]? = ws[j]?) →
    V G sh_inherit (pN fun h' => ∃ L, L.length = 8 ∧ (∀ j, j < n → L[j]? = ws[j]?) ∧ h' = hu (hu h b (22, L)) a (8, [.int v, .ref b, .int (nI n), .int cl])) (hu (hu h b (22, L)) a (8, [.int v, .ref b, .int (nI i), .int cl])) 0 0 2 [some (.ref a), some (.ref c), some (.int (nI i))] [] := by
  intro k
  induction k with
  | zero =>
    intro i L hi hL hf
    obtain rfl : i = n := by omega
    refine V_iload_n d_sh_inherit_2 rfl rfl ?_
    refine V_aload_n d_sh_inherit_3 rfl rfl ?_
    refine V_getf d_sh_inherit_4 fl_sh_21 (by first | assumption | exact hu_self _ _ _ | (simp (disch := first | assumption | (apply Ne.symm; assumption)) only [hu_self, hu_ne]; assumption)) rfl ?_
    refine V_icmp_ge d_sh_inherit_7 (fun c7 => ?_) (fun c7 => ?_)
    · skip
      refine V_return d_sh_inherit_27 rfl ?_
      exact ⟨rfl, L, hL, hf, rfl⟩
    · skip
      exact absurd (ltN c7 (by omega)) (by omega)
  | succ k ih =>
    intro i L hi hL hf
    obtain ⟨e, w, he, hew⟩ := hw i (by omega)
    obtain ⟨nea, neb⟩ := hfa e w hew
    refine V_iload_n d_sh_inherit_2 rfl rfl ?_
    refine V_aload_n d_sh_inherit_3 rfl rfl ?_
    refine V_getf d_sh_inherit_4 fl_sh_21 (by first | assumption | exact hu_self _ _ _ | (simp (disch := first | assumption | (apply Ne.symm; assumption)) only [hu_self, hu_ne]; assumption)) rfl ?_
    refine V_icmp_ge d_sh_inherit_7 (fun c7 => ?_) (fun c7 => ?_)
    · skip
      exact absurd (geN c7 (by omega)) (by omega)
    · skip
      refine V_aload_n d_sh_inherit_10 rfl rfl ?_
      refine V_aload_n d_sh_inherit_11 rfl rfl ?_
      refine V_getf d_sh_inherit_12 fl_sh_17 (by first | assumption | exact hu_self _ _ _ | (simp (disch := first | assumption | (apply Ne.symm; assumption)) only [hu_self, hu_ne]; assumption)) rfl ?_
      refine V_iload_n d_sh_inherit_15 rfl rfl ?_
      refine V_aald i d_sh_inherit_16 (by first | assumption | exact hu_self _ _ _ | (simp (disch := first | assumption | (apply Ne.symm; assumption)) only [hu_self, hu_ne]; assumption)) (by decide) (by decide) rfl (by omega) he ?_
      refine V_callV (N := sh_append) d_sh_inherit_17 ml_sh_24 mdf_sh_append wi_sh_append wz_sh_append (sp_sh_append G (b := b) (vs := L) (n := i) (v := v) (cl := cl) (hu_self _ _ _) (by rw [hu_ne _ _ (Ne.symm nab), hu_self]) (by rw [hu_ne _ _ nea, hu_ne _ _ neb]; exact hew) (by omega) (by omega)) (by first | assumption | exact hu_self _ _ _ | (simp (disch := first | assumption | (apply Ne.symm; assumption)) only [hu_self, hu_ne]; assumption)) ⟨_, rfl, rfl⟩ rfl rfl (by decide) (by decide) (Nat.le_of_ble_eq_true rfl) rfl rfl (kI fun r17 h17 ⟨e17, f17⟩ => ?_)
      subst e17 f17
      refine V_pop d_sh_inherit_20 rfl ?_
      refine V_iinc (v := _) d_sh_inherit_21 rfl rfl (by decide) rfl rfl ?_
      dsimp only [List.set]
      refine V_goto d_sh_inherit_24 ?_
      rw [show Int32.ofInt 1 = 1 from rfl, nI_1]
      have hh : hu (hu (hu (hu h b (22, L)) a (8, [.int v, .ref b, .int (nI i), .int cl])) b (22, L.set i (.ref e))) a (8, [.int v, .ref b, .int (nI (i + 1)), .int cl]) = hu (hu h b (22, L.set i (.ref e))) a (8, [.int v, .ref b, .int (nI (i + 1)), .int cl]) := (by funext z; unfold hu; split; rfl; split; rfl; rfl)
      rw [hh]
      refine ih (i + 1) _ (by omega) (by rw [List.length_set]; exact hL) (fun j hj => ?_)
      by_cases z : j = i
      · (subst z; rw [List.getElem?_set_self (by omega), he])
      · (rw [List.getElem?_set_ne (by omega)]; exact hf j (by omega))
theorem sp_sh_inherit (G : Gk) {h : Hp} {a b c d n : Nat} {vs ws : List Value} {v v2 cl cl2 : Int32} (ha : h a = some (8, [.int v, .ref b, .int 0, .int cl])) (hb : h b = some (22, vs)) (hvs : vs.length = 8) (hc : h c = some (8, [.int v2, .ref d, .int (nI n), .int cl2])) (hd : h d = some (22, ws)) (nca : c ≠ a) (ndb : d ≠ b) (n8 : n ≤ 8) (hw : ∀ j, j < n → ∃ e w, ws[j]? = some (.ref e) ∧ h e = some (2, w)) :
    Ct G sh_inherit [.ref a, .ref c] h (pN fun h' => ∃ L, L.length = 8 ∧ (∀ j, j < n → L[j]? = ws[j]?) ∧ h' = hu (hu h b (22, L)) a (8, [.int v, .ref b, .int (nI n), .int cl])) := by
  have nab : a ≠ b := kne ha hb (by decide)
  have hh : h = hu (hu h b (22, vs)) a (8, [.int v, .ref b, .int (nI 0), .int cl]) := by
    funext z
    unfold hu
    split
    · rename_i e; subst e; exact ha
    · split
      · rename_i e; subst e; exact hb
      · rfl
  refine Ct.ofL (M := sh_inherit) (lv := [some (.ref a), some (.ref c), none]) mdf_sh_inherit rfl (Nat.le_of_ble_eq_true rfl) rfl ?_
  refine V_iconst (v := 0) d_sh_inherit_0 (by decide) ?_
  refine V_istore_n d_sh_inherit_1 rfl (by decide) rfl rfl ?_
  dsimp only [List.set]
  have L := lp_inh G (a := a) (b := b) (v := v) (cl := cl) hc hd n8 hw nca ndb nab (kne hc hb (by decide)) (kne hd ha (by decide)) (fun e w he => ⟨kne he ha (by decide), kne he hb (by decide)⟩) n 0 vs (by omega) hvs (fun j hj => by omega)
  rw [← hh] at L
  exact L
theorem sp_th_init (G : Gk) {h : Hp} {a n : Nat} (ha : h a = some (10, dfl 10)) (v : Int32) (hn : n ≤ 8) : Ct G th_init [.ref a, .int v, .int (nI n)] h (pN fun h' => ∃ q, h q = none ∧ h' = hu (hu h q (28, List.replicate n .null)) a (10, [.int v, .ref q])) := by
  refine Ct.ofL (M := th_init) (lv := [some (.ref a), some (.int v), some (.int (nI n))]) mdf_th_init rfl (Nat.le_of_ble_eq_true rfl) rfl ?_
  refine V_aload_n d_th_init_0 rfl rfl ?_
  refine V_objinit d_th_init_1 ml_th_1 (by decide) (Nat.le_of_ble_eq_true rfl) ?_
  refine V_aload_n d_th_init_4 rfl rfl ?_
  refine V_iload_n d_th_init_5 rfl rfl ?_
  refine V_putF d_th_init_6 fp_th_7 rfl rfl rfl (by first | assumption | exact hu_self _ _ _ | (simp (disch := first | assumption | (apply Ne.symm; assumption)) only [hu_self, hu_ne]; assumption)) ?_
  refine V_aload_n d_th_init_9 rfl rfl ?_
  refine V_iload_n d_th_init_10 rfl rfl ?_
  refine V.need (cr := 0 + 1) (sr := 0 + n) ?_ (by decide) (by show 0 + n ≤ 8; omega)
  refine V_anewA (M := th_init) n d_th_init_11 kl_th_13 ov_AI rfl (by omega) (fun q11 hq11 => ?_)
  have nq : a ≠ q11 := fun z => by rw [← z, hu_self] at hq11; cases hq11
  have hq : h q11 = none := by rw [hu_ne _ _ (Ne.symm nq)] at hq11; exact hq11
  refine V_putF d_th_init_14 fp_th_15 rfl rfl rfl (by rw [hu_ne _ _ nq, hu_self]) ?_
  refine V_return d_th_init_17 rfl ?_
  refine ⟨rfl, q11, hq, ?_⟩
  funext z
  unfold hu
  split
  · rfl
  · (split; rfl; rfl)
theorem sp_ed_init (G : Gk) {h : Hp} {a b c : Nat} (ha : h a = some (1, dfl 1)) (v w : Int32) : Ct G ed_init [.ref a, .int v, .int w, .ref b, .ref c] h (pN fun h' => h' = hu h a (1, [.int v, .int w, .ref b, .ref c])) := by
  refine Ct.ofL (M := ed_init) (lv := [some (.ref a), some (.int v), some (.int w), some (.ref b), some (.ref c)]) mdf_ed_init rfl (Nat.le_of_ble_eq_true rfl) rfl ?_
  refine V_aload_n d_ed_init_0 rfl rfl ?_
  refine V_objinit d_ed_init_1 ml_ed_1 (by decide) (Nat.le_of_ble_eq_true rfl) ?_
  refine V_aload_n d_ed_init_4 rfl rfl ?_
  refine V_iload_n d_ed_init_5 rfl rfl ?_
  refine V_putF d_ed_init_6 fp_ed_7 rfl rfl rfl (by first | assumption | exact hu_self _ _ _ | (simp (disch := first | assumption | (apply Ne.symm; assumption)) only [hu_self, hu_ne]; assumption)) ?_
  refine V_aload_n d_ed_init_9 rfl rfl ?_
  refine V_iload_n d_ed_init_10 rfl rfl ?_
  refine V_putF d_ed_init_11 fp_ed_13 rfl rfl rfl (by first | assumption | exact hu_self _ _ _ | (simp (disch := first | assumption | (apply Ne.symm; assumption)) only [hu_self, hu_ne]; assumption)) ?_
  refine V_aload_n d_ed_init_14 rfl rfl ?_
  refine V_aload_n d_ed_init_15 rfl rfl ?_
  refine V_putF d_ed_init_16 fp_ed_16 rfl rfl rfl (by first | assumption | exact hu_self _ _ _ | (simp (disch := first | assumption | (apply Ne.symm; assumption)) only [hu_self, hu_ne]; assumption)) ?_
  refine V_aload_n d_ed_init_19 rfl rfl ?_
  refine V_aload d_ed_init_20 rfl ?_
  refine V_putF d_ed_init_22 fp_ed_20 rfl rfl rfl (by first | assumption | exact hu_self _ _ _ | (simp (disch := first | assumption | (apply Ne.symm; assumption)) only [hu_self, hu_ne]; assumption)) ?_
  refine V_return d_ed_init_25 rfl ?_
  exact ⟨rfl, by simp only [hu_hu]; rfl⟩
theorem Zr.put {G : Gk} {h : Hp} (hz : Zr G h) {q : Nat} (c : Nat × List Value) (hq : h q = none) : Zr G (hu h q c) := ⟨by rw [hu_ne _ _ (fne hz.1 hq)]; exact hz.1, by rw [hu_ne _ _ (fne hz.2 hq)]; exact hz.2⟩
theorem sp_gr_init (G : Gk) {h : Hp} (hz : Zr G h) {a : Nat} (ha : h a = some (3, dfl 3)) : Ct G gr_init [.ref a] h (pN fun h' => ∃ q, h q = none ∧ h' = hu (hu h q (0, [.int 0, .ref G.2.2.1, .int 0])) a (3, [.ref q])) := by
  refine Ct.ofL (M := gr_init) (lv := [some (.ref a)]) mdf_gr_init rfl (Nat.le_of_ble_eq_true rfl) rfl ?_
  refine V_aload_n d_gr_init_0 rfl rfl ?_
  refine V_objinit d_gr_init_1 ml_gr_1 (by decide) (Nat.le_of_ble_eq_true rfl) ?_
  refine V_aload_n d_gr_init_4 rfl rfl ?_
  refine V_new (M := gr_init) d_gr_init_5 nw_gr_7 (fun q5 hq5 => ?_)
  refine V_dup d_gr_init_8 rfl ?_
  refine V_callI (N := al_init) d_gr_init_9 ml_gr_9 mdf_al_init wi_al_init rfl rfl (sp_al_init G (hz.put _ hq5) (hu_self _ _ _)) rfl rfl (by decide) (by decide) (Nat.le_of_ble_eq_true rfl) rfl rfl (kN fun h9 e9 => ?_)
  subst e9
  rw [hu_hu]
  have nq : a ≠ q5 := fne ha hq5
  refine V_putF d_gr_init_12 fp_gr_10 rfl rfl rfl (by first | assumption | exact hu_self _ _ _ | (simp (disch := first | assumption | (apply Ne.symm; assumption)) only [hu_self, hu_ne]; assumption)) ?_
  refine V_return d_gr_init_15 rfl ?_
  exact ⟨rfl, q5, hq5, rfl⟩
theorem sp_hi_init (G : Gk) {h : Hp} (hz : Zr G h) {a : Nat} (ha : h a = some (4, dfl 4)) : Ct G hi_init [.ref a] h (pN fun h' => ∃ q p, h q = none ∧ h p = none ∧ q ≠ p ∧ h' = hu (hu (hu h q (0, [.int 0, .ref G.2.2.1, .int 0])) p (0, [.int 0, .ref G.2.2.1, .int 0])) a (4, [.ref q, .ref p, .null])) := by
  refine Ct.ofL (M := hi_init) (lv := [some (.ref a)]) mdf_hi_init rfl (Nat.le_of_ble_eq_true rfl) rfl ?_
  refine V_aload_n d_hi_init_0 rfl rfl ?_
  refine V_objinit d_hi_init_1 ml_hi_3 (by decide) (Nat.le_of_ble_eq_true rfl) ?_
  refine V_aload_n d_hi_init_4 rfl rfl ?_
  refine V_new (M := hi_init) d_hi_init_5 nw_hi_9 (fun q5 hq5 => ?_)
  refine V_dup d_hi_init_8 rfl ?_
  refine V_callI (N := al_init) d_hi_init_9 ml_hi_11 mdf_al_init wi_al_init rfl rfl (sp_al_init G (hz.put _ hq5) (hu_self _ _ _)) rfl rfl (by decide) (by decide) (Nat.le_of_ble_eq_true rfl) rfl rfl (kN fun h9 e9 => ?_)
  subst e9
  rw [hu_hu]
  have nq : a ≠ q5 := fne ha hq5
  refine V_putF d_hi_init_12 fp_hi_12 rfl rfl rfl (by first | assumption | exact hu_self _ _ _ | (simp (disch := first | assumption | (apply Ne.symm; assumption)) only [hu_self, hu_ne]; assumption)) ?_
  refine V_aload_n d_hi_init_15 rfl rfl ?_
  refine V_new (M := hi_init) d_hi_init_16 nw_hi_9 (fun q16 hq16 => ?_)
  have nq2 : a ≠ q16 := fun z => by rw [← z, hu_self] at hq16; cases hq16
  rw [hu_ne _ _ (Ne.symm nq2)] at hq16
  have nqq : q5 ≠ q16 := fun z => by rw [← z, hu_self] at hq16; cases hq16
  rw [hu_ne _ _ (Ne.symm nqq)] at hq16
  refine V_dup d_hi_init_19 rfl ?_
  refine V_callI (N := al_init) d_hi_init_20 ml_hi_11 mdf_al_init wi_al_init rfl rfl (sp_al_init G (show Zr G _ from ⟨by rw [hu_ne _ _ (fne hz.1 hq16), hu_ne _ _ (kne hz.1 ha (by decide)), hu_ne _ _ (fne hz.1 hq5)]; exact hz.1, by rw [hu_ne _ _ (fne hz.2 hq16), hu_ne _ _ (kne hz.2 ha (by decide)), hu_ne _ _ (fne hz.2 hq5)]; exact hz.2⟩) (hu_self _ _ _)) rfl rfl (by decide) (by decide) (Nat.le_of_ble_eq_true rfl) rfl rfl (kN fun h20 e20 => ?_)
  subst e20
  rw [hu_hu]
  refine V_putF d_hi_init_23 fp_hi_18 rfl rfl rfl (by rw [hu_ne _ _ nq2, hu_self]) ?_
  refine V_return d_hi_init_26 rfl ?_
  refine ⟨rfl, q5, q16, hq5, hq16, nqq, ?_⟩
  funext z
  unfold hu
  by_cases e1 : z = a
  · (simp only [e1, if_true]; rfl)
  · (simp only [e1, if_false])
theorem sp_pt_init (G : Gk) {h : Hp} {a : Nat} (ha : h a = some (6, dfl 6)) : Ct G pt_init [.ref a] h (pN fun h' => ∃ q p, h q = none ∧ h p = none ∧ q ≠ p ∧ h' = hu (hu (hu h q (20, arrL 5 (fun _ => 0))) p (20, arrL 5 (fun _ => 0))) a (6, [.ref q, .ref p, .int 0])) := by
  refine Ct.ofL (M := pt_init) (lv := [some (.ref a)]) mdf_pt_init rfl (Nat.le_of_ble_eq_true rfl) rfl ?_
  refine V_aload_n d_pt_init_0 rfl rfl ?_
  refine V_objinit d_pt_init_1 ml_pt_3 (by decide) (Nat.le_of_ble_eq_true rfl) ?_
  refine V_aload_n d_pt_init_4 rfl rfl ?_
  refine V_iconst (v := 5) d_pt_init_5 (by decide) ?_
  refine V.need (cr := (0 + 1) + 1) (sr := (0 + 5) + 5) ?_ (by decide) (by decide)
  refine V_newI (M := pt_init) 5 d_pt_init_6 rfl (by omega) (fun q6 hq6 => ?_)
  have nq : a ≠ q6 := fne ha hq6
  refine V_putF d_pt_init_8 fp_pt_9 rfl rfl rfl (by first | assumption | exact hu_self _ _ _ | (simp (disch := first | assumption | (apply Ne.symm; assumption)) only [hu_self, hu_ne]; assumption)) ?_
  refine V_aload_n d_pt_init_11 rfl rfl ?_
  refine V_iconst (v := 5) d_pt_init_12 (by decide) ?_
  refine V_newI (M := pt_init) 5 d_pt_init_13 rfl (by omega) (fun q13 hq13 => ?_)
  have nq2 : a ≠ q13 := fun z => by rw [← z, hu_self] at hq13; cases hq13
  rw [hu_ne _ _ (Ne.symm nq2)] at hq13
  have nqq : q6 ≠ q13 := fun z => by rw [← z, hu_self] at hq13; cases hq13
  rw [hu_ne _ _ (Ne.symm nqq)] at hq13
  refine V_putF d_pt_init_15 fp_pt_15 rfl rfl rfl (by rw [hu_ne _ _ nq2, hu_self]) ?_
  refine V_return d_pt_init_18 rfl ?_
  refine ⟨rfl, q6, q13, hq6, hq13, nqq, ?_⟩
  rw [← arrL_rep]
  funext z
  unfold hu
  by_cases e1 : z = a
  · (simp only [e1, if_true]; rfl)
  · (simp only [e1, if_false])
theorem sp_so_init (G : Gk) {h : Hp} {a : Nat} (ha : h a = some (9, dfl 9)) : Ct G so_init [.ref a] h (pN fun h' => ∃ q p, h q = none ∧ h p = none ∧ q ≠ p ∧ h' = hu (hu (hu h q (20, arrL 36 (fun _ => 0))) p (20, arrL 36 (fun _ => 0))) a (9, [.ref q, .ref p, .int 0])) := by
  refine Ct.ofL (M := so_init) (lv := [some (.ref a)]) mdf_so_init rfl (Nat.le_of_ble_eq_true rfl) rfl ?_
  refine V_aload_n d_so_init_0 rfl rfl ?_
  refine V_objinit d_so_init_1 ml_so_3 (by decide) (Nat.le_of_ble_eq_true rfl) ?_
  refine V_aload_n d_so_init_4 rfl rfl ?_
  refine V_bipush (v := 36) d_so_init_5 (by decide) ?_
  refine V.need (cr := (0 + 1) + 1) (sr := (0 + 36) + 36) ?_ (by decide) (by decide)
  refine V_newI (M := so_init) 36 d_so_init_7 rfl (by omega) (fun q7 hq7 => ?_)
  have nq : a ≠ q7 := fne ha hq7
  refine V_putF d_so_init_9 fp_so_9 rfl rfl rfl (by first | assumption | exact hu_self _ _ _ | (simp (disch := first | assumption | (apply Ne.symm; assumption)) only [hu_self, hu_ne]; assumption)) ?_
  refine V_aload_n d_so_init_12 rfl rfl ?_
  refine V_bipush (v := 36) d_so_init_13 (by decide) ?_
  refine V_newI (M := so_init) 36 d_so_init_15 rfl (by omega) (fun q15 hq15 => ?_)
  have nq2 : a ≠ q15 := fun z => by rw [← z, hu_self] at hq15; cases hq15
  rw [hu_ne _ _ (Ne.symm nq2)] at hq15
  have nqq : q7 ≠ q15 := fun z => by rw [← z, hu_self] at hq15; cases hq15
  rw [hu_ne _ _ (Ne.symm nqq)] at hq15
  refine V_putF d_so_init_17 fp_so_15 rfl rfl rfl (by rw [hu_ne _ _ nq2, hu_self]) ?_
  refine V_return d_so_init_20 rfl ?_
  refine ⟨rfl, q7, q15, hq7, hq15, nqq, ?_⟩
  rw [← arrL_rep]
  funext z
  unfold hu
  by_cases e1 : z = a
  · (simp only [e1, if_true]; rfl)
  · (simp only [e1, if_false])
theorem sp_re_init (G : Gk) {h : Hp} {a : Nat} (ha : h a = some (7, dfl 7)) : Ct G re_init [.ref a] h (pN fun h' => ∃ q p, h q = none ∧ h p = none ∧ q ≠ p ∧ h' = hu (hu (hu h q (20, arrL 60 (fun _ => 0))) p (20, arrL 60 (fun _ => 0))) a (7, [.ref q, .ref p, .int 0])) := by
  refine Ct.ofL (M := re_init) (lv := [some (.ref a)]) mdf_re_init rfl (Nat.le_of_ble_eq_true rfl) rfl ?_
  refine V_aload_n d_re_init_0 rfl rfl ?_
  refine V_objinit d_re_init_1 ml_re_3 (by decide) (Nat.le_of_ble_eq_true rfl) ?_
  refine V_aload_n d_re_init_4 rfl rfl ?_
  refine V_bipush (v := 60) d_re_init_5 (by decide) ?_
  refine V.need (cr := (0 + 1) + 1) (sr := (0 + 60) + 60) ?_ (by decide) (by decide)
  refine V_newI (M := re_init) 60 d_re_init_7 rfl (by omega) (fun q7 hq7 => ?_)
  have nq : a ≠ q7 := fne ha hq7
  refine V_putF d_re_init_9 fp_re_9 rfl rfl rfl (by first | assumption | exact hu_self _ _ _ | (simp (disch := first | assumption | (apply Ne.symm; assumption)) only [hu_self, hu_ne]; assumption)) ?_
  refine V_aload_n d_re_init_12 rfl rfl ?_
  refine V_bipush (v := 60) d_re_init_13 (by decide) ?_
  refine V_newI (M := re_init) 60 d_re_init_15 rfl (by omega) (fun q15 hq15 => ?_)
  have nq2 : a ≠ q15 := fun z => by rw [← z, hu_self] at hq15; cases hq15
  rw [hu_ne _ _ (Ne.symm nq2)] at hq15
  have nqq : q7 ≠ q15 := fun z => by rw [← z, hu_self] at hq15; cases hq15
  rw [hu_ne _ _ (Ne.symm nqq)] at hq15
  refine V_putF d_re_init_17 fp_re_15 rfl rfl rfl (by rw [hu_ne _ _ nq2, hu_self]) ?_
  refine V_return d_re_init_20 rfl ?_
  refine ⟨rfl, q7, q15, hq7, hq15, nqq, ?_⟩
  rw [← arrL_rep]
  funext z
  unfold hu
  by_cases e1 : z = a
  · (simp only [e1, if_true]; rfl)
  · (simp only [e1, if_false])
theorem sp_pa_init (G : Gk) {h : Hp} {a : Nat} (ha : h a = some (5, dfl 5)) : Ct G pa_init [.ref a] h (pN fun h' => ∃ q p u, h q = none ∧ h p = none ∧ h u = none ∧ q ≠ p ∧ q ≠ u ∧ p ≠ u ∧ h' = hu (hu (hu (hu h q (20, arrL 60 (fun _ => 0))) p (20, arrL 60 (fun _ => 0))) u (20, arrL 60 (fun _ => 0))) a (5, [.ref q, .ref p, .ref u, .int 0])) := by
  refine Ct.ofL (M := pa_init) (lv := [some (.ref a)]) mdf_pa_init rfl (Nat.le_of_ble_eq_true rfl) rfl ?_
  refine V_aload_n d_pa_init_0 rfl rfl ?_
  refine V_objinit d_pa_init_1 ml_pa_3 (by decide) (Nat.le_of_ble_eq_true rfl) ?_
  refine V_aload_n d_pa_init_4 rfl rfl ?_
  refine V_bipush (v := 60) d_pa_init_5 (by decide) ?_
  refine V.need (cr := (0 + 1 + 1) + 1) (sr := (0 + 60 + 60) + 60) ?_ (by decide) (by decide)
  refine V_newI (M := pa_init) 60 d_pa_init_7 rfl (by omega) (fun q7 hq7 => ?_)
  have nq : a ≠ q7 := fne ha hq7
  refine V_putF d_pa_init_9 fp_pa_9 rfl rfl rfl (by first | assumption | exact hu_self _ _ _ | (simp (disch := first | assumption | (apply Ne.symm; assumption)) only [hu_self, hu_ne]; assumption)) ?_
  refine V_aload_n d_pa_init_12 rfl rfl ?_
  refine V_bipush (v := 60) d_pa_init_13 (by decide) ?_
  refine V_newI (M := pa_init) 60 d_pa_init_15 rfl (by omega) (fun q15 hq15 => ?_)
  have nq2 : a ≠ q15 := fun z => by rw [← z, hu_self] at hq15; cases hq15
  rw [hu_ne _ _ (Ne.symm nq2)] at hq15
  have nqq : q7 ≠ q15 := fun z => by rw [← z, hu_self] at hq15; cases hq15
  rw [hu_ne _ _ (Ne.symm nqq)] at hq15
  refine V_putF d_pa_init_17 fp_pa_15 rfl rfl rfl (by rw [hu_ne _ _ nq2, hu_self]) ?_
  refine V_aload_n d_pa_init_20 rfl rfl ?_
  refine V_bipush (v := 60) d_pa_init_21 (by decide) ?_
  refine V_newI (M := pa_init) 60 d_pa_init_23 rfl (by omega) (fun q23 hq23 => ?_)
  have nq3 : a ≠ q23 := fun z => by rw [← z, hu_self] at hq23; cases hq23
  rw [hu_ne _ _ (Ne.symm nq3)] at hq23
  have nq4 : q15 ≠ q23 := fun z => by rw [← z, hu_self] at hq23; cases hq23
  rw [hu_ne _ _ (Ne.symm nq4), hu_ne _ _ (Ne.symm nq3)] at hq23
  have nq5 : q7 ≠ q23 := fun z => by rw [← z, hu_self] at hq23; cases hq23
  rw [hu_ne _ _ (Ne.symm nq5)] at hq23
  refine V_putF d_pa_init_25 fp_pa_18 rfl rfl rfl (by rw [hu_ne _ _ nq3, hu_self]) ?_
  refine V_return d_pa_init_28 rfl ?_
  refine ⟨rfl, q7, q15, q23, hq7, hq15, hq23, nqq, nq5, nq4, ?_⟩
  rw [← arrL_rep]
  funext z
  unfold hu
  by_cases e1 : z = a
  · (simp only [e1, if_true]; rfl)
  · (simp only [e1, if_false])
theorem sp_wa_init (G : Gk) {h : Hp} {a : Nat} (ha : h a = some (11, dfl 11)) (v f vt l : Int32) (hvt : vt = 0 ∨ vt = 1) : Ct G wa_init [.ref a, .int v, .int f, .int vt, .int l] h (pN fun h' => ∃ q p u, h q = none ∧ h p = none ∧ h u = none ∧ q ≠ p ∧ q ≠ u ∧ p ≠ u ∧ h' = hu (hu (hu (hu h q (20, arrL 40 (fun _ => 0))) p (20, arrL 40 (fun _ => 0))) u (20, arrL 40 (fun _ => 0))) a (11, [.int v, .int f, .int vt, .int l, .ref q, .ref p, .ref u, .int 0])) := by
  refine Ct.ofL (M := wa_init) (lv := [some (.ref a), some (.int v), some (.int f), some (.int vt), some (.int l)]) mdf_wa_init rfl (Nat.le_of_ble_eq_true rfl) rfl ?_
  refine V_aload_n d_wa_init_0 rfl rfl ?_
  refine V_objinit d_wa_init_1 ml_wa_3 (by decide) (Nat.le_of_ble_eq_true rfl) ?_
  refine V_aload_n d_wa_init_4 rfl rfl ?_
  refine V_bipush (v := 40) d_wa_init_5 (by decide) ?_
  refine V.need (cr := (0 + 1 + 1) + 1) (sr := (0 + 40 + 40) + 40) ?_ (by decide) (by decide)
  refine V_newI (M := wa_init) 40 d_wa_init_7 rfl (by omega) (fun q7 hq7 => ?_)
  have nq : a ≠ q7 := fne ha hq7
  refine V_putF d_wa_init_9 fp_wa_9 rfl rfl rfl (by first | assumption | exact hu_self _ _ _ | (simp (disch := first | assumption | (apply Ne.symm; assumption)) only [hu_self, hu_ne]; assumption)) ?_
  refine V_aload_n d_wa_init_12 rfl rfl ?_
  refine V_bipush (v := 40) d_wa_init_13 (by decide) ?_
  refine V_newI (M := wa_init) 40 d_wa_init_15 rfl (by omega) (fun q15 hq15 => ?_)
  have nq2 : a ≠ q15 := fun z => by rw [← z, hu_self] at hq15; cases hq15
  rw [hu_ne _ _ (Ne.symm nq2)] at hq15
  have nqq : q7 ≠ q15 := fun z => by rw [← z, hu_self] at hq15; cases hq15
  rw [hu_ne _ _ (Ne.symm nqq)] at hq15
  refine V_putF d_wa_init_17 fp_wa_15 rfl rfl rfl (by rw [hu_ne _ _ nq2, hu_self]) ?_
  refine V_aload_n d_wa_init_20 rfl rfl ?_
  refine V_bipush (v := 40) d_wa_init_21 (by decide) ?_
  refine V_newI (M := wa_init) 40 d_wa_init_23 rfl (by omega) (fun q23 hq23 => ?_)
  have nq3 : a ≠ q23 := fun z => by rw [← z, hu_self] at hq23; cases hq23
  rw [hu_ne _ _ (Ne.symm nq3)] at hq23
  have nq4 : q15 ≠ q23 := fun z => by rw [← z, hu_self] at hq23; cases hq23
  rw [hu_ne _ _ (Ne.symm nq4), hu_ne _ _ (Ne.symm nq3)] at hq23
  have nq5 : q7 ≠ q23 := fun z => by rw [← z, hu_self] at hq23; cases hq23
  rw [hu_ne _ _ (Ne.symm nq5)] at hq23
  refine V_putF d_wa_init_25 fp_wa_18 rfl rfl rfl (by rw [hu_ne _ _ nq3, hu_self]) ?_
  refine V_aload_n d_wa_init_28 rfl rfl ?_
  refine V_iload_n d_wa_init_29 rfl rfl ?_
  refine V_putF d_wa_init_30 fp_wa_21 rfl rfl rfl (by first | assumption | exact hu_self _ _ _ | (simp (disch := first | assumption | (apply Ne.symm; assumption)) only [hu_self, hu_ne]; assumption)) ?_
  refine V_aload_n d_wa_init_33 rfl rfl ?_
  refine V_iload_n d_wa_init_34 rfl rfl ?_
  refine V_putF d_wa_init_35 fp_wa_25 rfl rfl rfl (by first | assumption | exact hu_self _ _ _ | (simp (disch := first | assumption | (apply Ne.symm; assumption)) only [hu_self, hu_ne]; assumption)) ?_
  refine V_aload_n d_wa_init_38 rfl rfl ?_
  refine V_iload_n d_wa_init_39 rfl rfl ?_
  refine V_putF d_wa_init_40 fp_wa_28 rfl (by rcases hvt with rfl | rfl <;> rfl) (by rcases hvt with rfl | rfl <;> rfl) (hu_self _ _ _) ?_
  refine V_aload_n d_wa_init_43 rfl rfl ?_
  refine V_iload d_wa_init_44 rfl ?_
  refine V_putF d_wa_init_46 fp_wa_32 rfl rfl rfl (by first | assumption | exact hu_self _ _ _ | (simp (disch := first | assumption | (apply Ne.symm; assumption)) only [hu_self, hu_ne]; assumption)) ?_
  refine V_return d_wa_init_49 rfl ?_
  refine ⟨rfl, q7, q15, q23, hq7, hq15, hq23, nqq, nq5, nq4, ?_⟩
  rw [← arrL_rep]
  funext z
  unfold hu
  by_cases e1 : z = a
  · (simp only [e1, if_true]; rfl)
  · (simp only [e1, if_false])
