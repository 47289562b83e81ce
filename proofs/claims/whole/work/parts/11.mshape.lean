/-! the reference's shapes -/
def isOfF (ab : Nat → Int32) (o : Int32) : Nat → Int32 → Bool
  | 0, a => decide (a = o)
  | n + 1, a => if a = -1 ∨ a = o then decide (a = o) else isOfF ab o n (ab a.toNatClampNeg)
def isOf (s : Mem) (a o : Int32) : Bool := isOfF (s.2 1) o 10 a
abbrev isSh (s : Mem) (v : Int32) : Prop := 0 ≤ v ∧ v ≤ s.1 0 - 1
abbrev isOb (s : Mem) (v : Int32) : Prop := 0 ≤ v ∧ v ≤ s.1 8 - 1
theorem isSh.ix {s : Mem} {v : Int32} (iv : IvS s) (h : isSh s v) : ∃ i, i < nS s ∧ v = nI i := ix_of iv.1 (by have := iv.2.1; omega) h
theorem isOb.ix {s : Mem} {v : Int32} (iv : IvO s) (h : isOb s v) : ∃ i, i < nO s ∧ v = nI i := ix_of iv.1 (by have := iv.2.1; omega) h
theorem isSh.no {s : Mem} {v : Int32} (iv : IvS s) (h : ¬ isSh s v) : ∀ i, i < nS s → v ≠ nI i := ix_no iv.1 (by have := iv.2.1; omega) h
theorem isOb.no {s : Mem} {v : Int32} (iv : IvO s) (h : ¬ isOb s v) : ∀ i, i < nO s → v ≠ nI i := ix_no iv.1 (by have := iv.2.1; omega) h
theorem nI_m1 {k : Nat} (h : k < 1000000) : ¬ nI k = -1 := by
  intro e
  have h1 := congrArg Int32.toInt e
  rw [nI_toInt (by omega)] at h1
  exact absurd h1 (by have : (-1 : Int32).toInt = -1 := by decide
                      rw [this]; omega)
theorem lp_isOf (G : Gk) {h : Hp} {m : Nat} {am : Nat → Nat} {s : Mem} (r : RepM h m am s) (iv : IvS s) (a0 o : Int32) : ∀ (n : Nat) (a : Int32), (a = -1 ∨ ∃ k, k < n ∧ k < nS s ∧ a = nI k) →
    V G md_isOf (pI fun r h' => h = h' ∧ r = b01 (isOfF (s.2 1) o n a = true)) h 0 0 2 [some (.ref m), some (.int a0), some (.int o), some (.int a)] [] := by
  have h0 := r.obj
  intro n
  induction n with
  | zero =>
    intro a ha
    obtain rfl : a = -1 := by
      rcases ha with q | ⟨k, q, -⟩
      · exact q
      · omega
    refine V_iload_n d_md_isOf_2 rfl rfl ?_
    refine V_iconst (v := -1) d_md_isOf_3 (by decide) ?_
    refine V_icmp_eq d_md_isOf_4 (fun c4 => ?_) (fun c4 => ?_)
    · skip
      refine V_iload_n d_md_isOf_22 rfl rfl ?_
      refine V_iload_n d_md_isOf_23 rfl rfl ?_
      refine V_icmp_ne d_md_isOf_24 (fun c24 => ?_) (fun c24 => ?_)
      · skip
        refine V_iconst (v := 0) d_md_isOf_31 (by decide) ?_
        refine V_zreturn d_md_isOf_32 rfl (by first | exact Or.inl rfl | exact Or.inr rfl) ?_
        refine ⟨_, rfl, rfl, ?_⟩
        simp_all [isOfF, b01]
      · skip
        refine V_iconst (v := 1) d_md_isOf_27 (by decide) ?_
        refine V_goto d_md_isOf_28 ?_
        refine V_zreturn d_md_isOf_32 rfl (by first | exact Or.inl rfl | exact Or.inr rfl) ?_
        refine ⟨_, rfl, rfl, ?_⟩
        simp_all [isOfF, b01]
    · skip
      exact absurd rfl c4
  | succ n ih =>
    intro a ha
    refine V_iload_n d_md_isOf_2 rfl rfl ?_
    refine V_iconst (v := -1) d_md_isOf_3 (by decide) ?_
    refine V_icmp_eq d_md_isOf_4 (fun c4 => ?_) (fun c4 => ?_)
    · skip
      refine V_iload_n d_md_isOf_22 rfl rfl ?_
      refine V_iload_n d_md_isOf_23 rfl rfl ?_
      refine V_icmp_ne d_md_isOf_24 (fun c24 => ?_) (fun c24 => ?_)
      · skip
        refine V_iconst (v := 0) d_md_isOf_31 (by decide) ?_
        refine V_zreturn d_md_isOf_32 rfl (by first | exact Or.inl rfl | exact Or.inr rfl) ?_
        refine ⟨_, rfl, rfl, ?_⟩
        simp_all [isOfF, b01]
      · skip
        refine V_iconst (v := 1) d_md_isOf_27 (by decide) ?_
        refine V_goto d_md_isOf_28 ?_
        refine V_zreturn d_md_isOf_32 rfl (by first | exact Or.inl rfl | exact Or.inr rfl) ?_
        refine ⟨_, rfl, rfl, ?_⟩
        simp_all [isOfF, b01]
    · skip
      refine V_iload_n d_md_isOf_7 rfl rfl ?_
      refine V_iload_n d_md_isOf_8 rfl rfl ?_
      refine V_icmp_eq d_md_isOf_9 (fun c9 => ?_) (fun c9 => ?_)
      · skip
        refine V_iload_n d_md_isOf_22 rfl rfl ?_
        refine V_iload_n d_md_isOf_23 rfl rfl ?_
        refine V_icmp_ne d_md_isOf_24 (fun c24 => ?_) (fun c24 => ?_)
        · skip
          refine V_iconst (v := 0) d_md_isOf_31 (by decide) ?_
          refine V_zreturn d_md_isOf_32 rfl (by first | exact Or.inl rfl | exact Or.inr rfl) ?_
          refine ⟨_, rfl, rfl, ?_⟩
          simp_all [isOfF, b01]
        · skip
          refine V_iconst (v := 1) d_md_isOf_27 (by decide) ?_
          refine V_goto d_md_isOf_28 ?_
          refine V_zreturn d_md_isOf_32 rfl (by first | exact Or.inl rfl | exact Or.inr rfl) ?_
          refine ⟨_, rfl, rfl, ?_⟩
          simp_all [isOfF, b01]
      · skip
        obtain ⟨k, hk1, hk2, rfl⟩ : ∃ k, k < n + 1 ∧ k < nS s ∧ a = nI k := ha.resolve_left c4
        have h10 := iv.2.1
        refine V_aload_n d_md_isOf_12 rfl rfl ?_
        refine V_getf d_md_isOf_13 fl_md_7 r.obj rfl ?_
        refine V_iload_n d_md_isOf_16 rfl rfl ?_
        refine V_mald r d_md_isOf_17 (by first | with_reducible rfl | exact ix8 _ _ | exact ix6 _ _ | assumption) rfl rfl (by show _ < 10; omega) ?_
        refine V_istore_n d_md_isOf_18 rfl (by decide) rfl rfl ?_
        dsimp only [List.set]
        refine V_goto d_md_isOf_19 ?_
        have hc : (nI k).toNatClampNeg = k := nI_clamp (by omega)
        have hw : isOfF (s.2 1) o (n + 1) (nI k) = isOfF (s.2 1) o n (s.2 1 k) := by simp [isOfF, c4, c9, hc]
        rw [hw]
        exact ih _ ((iv.2.2.2 k hk2).imp id (fun ⟨j, q1, q2⟩ => ⟨j, by omega, by omega, q2⟩))
theorem sp_md_isOf (G : Gk) {h : Hp} {m : Nat} {am : Nat → Nat} {s : Mem} (r : RepM h m am s) (iv : IvS s) (a o : Int32) (ha : a = -1 ∨ ∃ k, k < nS s ∧ a = nI k) : Ct G md_isOf [.ref m, .int a, .int o] h (pI fun r h' => h = h' ∧ r = b01 (isOf s a o = true)) := by
  refine Ct.ofL (M := md_isOf) (lv := [some (.ref m), some (.int a), some (.int o), none]) mdf_md_isOf rfl (Nat.le_of_ble_eq_true rfl) rfl ?_
  refine V_iload_n d_md_isOf_0 rfl rfl ?_
  refine V_istore_n d_md_isOf_1 rfl (by decide) rfl rfl ?_
  dsimp only [List.set]
  exact lp_isOf G r iv a o 10 a (ha.imp id (fun ⟨k, q1, q2⟩ => ⟨k, by have := iv.2.1; omega, q1, q2⟩))
/-- against(i) -/
def agst (s : Mem) (i : Nat) : Int32 := if (∃ k, k < nS s ∧ s.2 1 k = nI i) ∨ (∃ o, o < nO s ∧ s.2 9 o = nI i) then -3 else if s.2 2 i = 8 then -4 else 0
theorem ltN {a b : Nat} (h : ¬ nI b ≤ nI a) (ha : a < 2147483648) : a < b := Nat.lt_of_not_le (fun q => h (nI_le q (by omega)))
theorem geN {a b : Nat} (h : nI b ≤ nI a) (hb : b < 2147483648) : b ≤ a := Nat.not_lt.mp (fun q => nI_ge q (by omega) h)
theorem eqN {a b : Nat} (h : nI a = nI b) (ha : a < 2147483648) (hb : b < 2147483648) : a = b := (nI_eq (by omega) (by omega)).mp h
theorem lp_against2 (G : Gk) {h : Hp} {m : Nat} {am : Nat → Nat} {s : Mem} (r : RepM h m am s) (ivs : IvS s) (ivo : IvO s) (i : Nat) (hi : i < nS s) (hn : ¬ ∃ k, k < nS s ∧ s.2 1 k = nI i) : ∀ (n j : Nat), j ≤ nO s → nO s + 1 ≤ j + n → (∀ o, o < j → s.2 9 o ≠ nI i) →
    V G md_against (pI fun r h' => h = h' ∧ r = agst s i) h 0 0 31 [some (.ref m), some (.int (nI i)), some (.int (nI j))] [] := by
  have h0 := r.obj
  have h10 := ivs.2.1
  have h60 := ivo.2.1
  intro n
  induction n with
  | zero => intro j h1 h2; exact absurd h2 (by omega)
  | succ n ih =>
    intro j h1 h2 hb
    refine V_iload_n d_md_against_31 rfl rfl ?_
    refine V_aload_n d_md_against_32 rfl rfl ?_
    refine V_getf d_md_against_33 fl_md_122 r.obj rfl ?_
    rw [ivo.1]
    refine V_icmp_ge d_md_against_36 (fun c36 => ?_) (fun c36 => ?_)
    · skip
      have hj := geN c36 (by omega)
      have hno : ¬ ∃ o, o < nO s ∧ s.2 9 o = nI i := fun ⟨o, q1, q2⟩ => hb o (by omega) q2
      refine V_aload_n d_md_against_58 rfl rfl ?_
      refine V_getf d_md_against_59 fl_md_13 r.obj rfl ?_
      refine V_iload_n d_md_against_62 rfl rfl ?_
      refine V_mald r d_md_against_63 (by first | with_reducible rfl | exact ix8 _ _ | exact ix6 _ _ | assumption) rfl rfl (by show _ < 10; omega) ?_
      refine V_bipush (v := 8) d_md_against_64 (by decide) ?_
      refine V_icmp_ne d_md_against_66 (fun c66 => ?_) (fun c66 => ?_)
      · skip
        refine V_iconst (v := 0) d_md_against_74 (by decide) ?_
        refine V_ireturn d_md_against_75 rfl ?_
        refine ⟨_, rfl, rfl, ?_⟩
        rw [agst, if_neg (fun q => q.elim hn hno)]
        simp [c66]
      · skip
        refine V_bipush (v := -4) d_md_against_69 (by decide) ?_
        refine V_goto d_md_against_71 ?_
        refine V_ireturn d_md_against_75 rfl ?_
        refine ⟨_, rfl, rfl, ?_⟩
        rw [agst, if_neg (fun q => q.elim hn hno)]
        simp [c66]
    · skip
      have hj := ltN c36 (by omega)
      refine V_aload_n d_md_against_39 rfl rfl ?_
      refine V_getf d_md_against_40 fl_md_31 r.obj rfl ?_
      refine V_iload_n d_md_against_43 rfl rfl ?_
      refine V_mald r d_md_against_44 (by first | with_reducible rfl | exact ix8 _ _ | exact ix6 _ _ | assumption) rfl rfl (by show _ < 60; omega) ?_
      refine V_iload_n d_md_against_45 rfl rfl ?_
      refine V_icmp_ne d_md_against_46 (fun c46 => ?_) (fun c46 => ?_)
      · skip
        refine V_iinc (v := _) d_md_against_52 rfl rfl (by decide) rfl rfl ?_
        dsimp only [List.set]
        refine V_goto d_md_against_55 ?_
        rw [show Int32.ofInt 1 = 1 from rfl, nI_1]
        exact ih (j + 1) (by omega) (by omega) (fun o q => by rcases Nat.lt_succ_iff_lt_or_eq.mp q with q | rfl; exact hb o q; exact c46)
      · skip
        refine V_bipush (v := -3) d_md_against_49 (by decide) ?_
        refine V_ireturn d_md_against_51 rfl ?_
        exact ⟨_, rfl, rfl, (if_pos (Or.inr ⟨j, hj, c46⟩)).symm⟩
theorem lp_against1 (G : Gk) {h : Hp} {m : Nat} {am : Nat → Nat} {s : Mem} (r : RepM h m am s) (ivs : IvS s) (ivo : IvO s) (i : Nat) (hi : i < nS s) : ∀ (n j : Nat), j ≤ nS s → nS s + 1 ≤ j + n → (∀ o, o < j → s.2 1 o ≠ nI i) →
    V G md_against (pI fun r h' => h = h' ∧ r = agst s i) h 0 0 2 [some (.ref m), some (.int (nI i)), some (.int (nI j))] [] := by
  have h0 := r.obj
  have h10 := ivs.2.1
  intro n
  induction n with
  | zero => intro j h1 h2; exact absurd h2 (by omega)
  | succ n ih =>
    intro j h1 h2 hb
    refine V_iload_n d_md_against_2 rfl rfl ?_
    refine V_aload_n d_md_against_3 rfl rfl ?_
    refine V_getf d_md_against_4 fl_md_110 r.obj rfl ?_
    rw [ivs.1]
    refine V_icmp_ge d_md_against_7 (fun c7 => ?_) (fun c7 => ?_)
    · skip
      have hj := geN c7 (by omega)
      have hno : ¬ ∃ o, o < nS s ∧ s.2 1 o = nI i := fun ⟨o, q1, q2⟩ => hb o (by omega) q2
      refine V_iconst (v := 0) d_md_against_29 (by decide) ?_
      refine V_istore_n d_md_against_30 rfl (by decide) rfl rfl ?_
      dsimp only [List.set]
      exact lp_against2 G r ivs ivo i hi hno (nO s + 1) 0 (by omega) (by omega) (fun o q => by omega)
    · skip
      have hj := ltN c7 (by omega)
      refine V_aload_n d_md_against_10 rfl rfl ?_
      refine V_getf d_md_against_11 fl_md_7 r.obj rfl ?_
      refine V_iload_n d_md_against_14 rfl rfl ?_
      refine V_mald r d_md_against_15 (by first | with_reducible rfl | exact ix8 _ _ | exact ix6 _ _ | assumption) rfl rfl (by show _ < 10; omega) ?_
      refine V_iload_n d_md_against_16 rfl rfl ?_
      refine V_icmp_ne d_md_against_17 (fun c17 => ?_) (fun c17 => ?_)
      · skip
        refine V_iinc (v := _) d_md_against_23 rfl rfl (by decide) rfl rfl ?_
        dsimp only [List.set]
        refine V_goto d_md_against_26 ?_
        rw [show Int32.ofInt 1 = 1 from rfl, nI_1]
        exact ih (j + 1) (by omega) (by omega) (fun o q => by rcases Nat.lt_succ_iff_lt_or_eq.mp q with q | rfl; exact hb o q; exact c17)
      · skip
        refine V_bipush (v := -3) d_md_against_20 (by decide) ?_
        refine V_ireturn d_md_against_22 rfl ?_
        exact ⟨_, rfl, rfl, (if_pos (Or.inl ⟨j, hj, c17⟩)).symm⟩
theorem sp_md_against (G : Gk) {h : Hp} {m : Nat} {am : Nat → Nat} {s : Mem} (r : RepM h m am s) (ivs : IvS s) (ivo : IvO s) (i : Nat) (hi : i < nS s) : Ct G md_against [.ref m, .int (nI i)] h (pI fun r h' => h = h' ∧ r = agst s i) := by
  refine Ct.ofL (M := md_against) (lv := [some (.ref m), some (.int (nI i)), none]) mdf_md_against rfl (Nat.le_of_ble_eq_true rfl) rfl ?_
  refine V_iconst (v := 0) d_md_against_0 (by decide) ?_
  refine V_istore_n d_md_against_1 rfl (by decide) rfl rfl ?_
  dsimp only [List.set]
  exact lp_against1 G r ivs ivo i hi (nS s + 1) 0 (by omega) (by omega) (fun o q => by omega)
/-- a field more -/
def addM (s : Mem) (i : Nat) (k a b c fl : Int32) : Mem := mA (mA (mA (mA (mA (mA s 3 (8 * i + nf s i) k) 4 (8 * i + nf s i) a) 5 (8 * i + nf s i) b) 6 (8 * i + nf s i) c) 7 (8 * i + nf s i) fl) 2 i (nI (nf s i + 1))
theorem sp_md_adds (G : Gk) {h : Hp} {m : Nat} {am : Nat → Nat} {s : Mem} (r : RepM h m am s) (ivs : IvS s) (ivo : IvO s) (i : Nat) (hi : i < nS s) (k a b c fl : Int32) : Ct G md_adds [.ref m, .int (nI i), .int k, .int a, .int b, .int c, .int fl] h
    (pI fun r h' => (agst s i ≠ 0 ∧ h = h' ∧ r = agst s i) ∨ (agst s i = 0 ∧ Mod h m am h' (addM s i k a b c fl) ∧ r = nI (nf s i))) := by
  have h0 := r.obj
  have h10 := ivs.2.1
  obtain ⟨hf1, hf2⟩ := ivs.2.2.1 i hi
  refine Ct.ofL (M := md_adds) (lv := [some (.ref m), some (.int (nI i)), some (.int k), some (.int a), some (.int b), some (.int c), some (.int fl), none, none]) mdf_md_adds rfl (Nat.le_of_ble_eq_true rfl) rfl ?_
  refine V_aload_n d_md_adds_0 rfl rfl ?_
  refine V_iload_n d_md_adds_1 rfl rfl ?_
  refine V_callV (N := md_against) d_md_adds_2 ml_md_125 mdf_md_against wi_md_against wz_md_against (sp_md_against G r ivs ivo i hi) r.obj ⟨_, rfl, rfl⟩ rfl rfl (by decide) (by decide) (Nat.le_of_ble_eq_true rfl) rfl rfl (kI fun r2 h2 ⟨e2, f2⟩ => ?_)
  subst e2 f2
  refine V_istore d_md_adds_5 (by decide) rfl rfl ?_
  dsimp only [List.set]
  refine V_iload d_md_adds_7 rfl ?_
  refine V_if_eq d_md_adds_9 (fun c9 => ?_) (fun c9 => ?_)
  · skip
    have h8 : nf s i < 8 := by
       unfold agst at c9
       split at c9
       · exact absurd c9 (by decide)
       · split at c9
         · exact absurd c9 (by decide)
         · rename_i q
           rw [hf1] at q
           rcases Nat.lt_or_ge (nf s i) 8 with z | z
           · exact z
           · exact absurd (by rw [show nf s i = 8 by omega]; rfl) q
    refine V_bipush (v := 8) d_md_adds_15 (by decide) ?_
    refine V_iload_n d_md_adds_17 rfl rfl ?_
    refine V_imul d_md_adds_18 ?_
    refine V_aload_n d_md_adds_19 rfl rfl ?_
    refine V_getf d_md_adds_20 fl_md_13 r.obj rfl ?_
    refine V_iload_n d_md_adds_23 rfl rfl ?_
    refine V_mald r d_md_adds_24 (by first | with_reducible rfl | exact ix8 _ _ | exact ix6 _ _ | assumption) rfl rfl (by show _ < 10; omega) ?_
    rw [hf1]
    refine V_iadd d_md_adds_25 ?_
    rw [ix8]
    refine V_istore d_md_adds_26 (by decide) rfl rfl ?_
    dsimp only [List.set]
    refine V_aload_n d_md_adds_28 rfl rfl ?_
    refine V_getf d_md_adds_29 fl_md_16 r.obj rfl ?_
    refine V_iload d_md_adds_32 rfl ?_
    refine V_iload_n d_md_adds_34 rfl rfl ?_
    refine V_mast r d_md_adds_35 (by first | with_reducible rfl | exact ix8 _ _ | exact ix6 _ _ | assumption) rfl rfl (by show _ < 80; omega) (fun h35 M35 => ?_)
    have R35 := M35.1
    refine V_aload_n d_md_adds_36 rfl rfl ?_
    refine V_getf d_md_adds_37 fl_md_19 R35.obj rfl ?_
    refine V_iload d_md_adds_40 rfl ?_
    refine V_iload_n d_md_adds_42 rfl rfl ?_
    refine V_mast R35 d_md_adds_43 (by first | with_reducible rfl | exact ix8 _ _ | exact ix6 _ _ | assumption) rfl rfl (by show _ < 80; omega) (fun h43 M43 => ?_)
    have R43 := M43.1
    refine V_aload_n d_md_adds_44 rfl rfl ?_
    refine V_getf d_md_adds_45 fl_md_22 R43.obj rfl ?_
    refine V_iload d_md_adds_48 rfl ?_
    refine V_iload d_md_adds_50 rfl ?_
    refine V_mast R43 d_md_adds_52 (by first | with_reducible rfl | exact ix8 _ _ | exact ix6 _ _ | assumption) rfl rfl (by show _ < 80; omega) (fun h52 M52 => ?_)
    have R52 := M52.1
    refine V_aload_n d_md_adds_53 rfl rfl ?_
    refine V_getf d_md_adds_54 fl_md_25 R52.obj rfl ?_
    refine V_iload d_md_adds_57 rfl ?_
    refine V_iload d_md_adds_59 rfl ?_
    refine V_mast R52 d_md_adds_61 (by first | with_reducible rfl | exact ix8 _ _ | exact ix6 _ _ | assumption) rfl rfl (by show _ < 80; omega) (fun h61 M61 => ?_)
    have R61 := M61.1
    refine V_aload_n d_md_adds_62 rfl rfl ?_
    refine V_getf d_md_adds_63 fl_md_28 R61.obj rfl ?_
    refine V_iload d_md_adds_66 rfl ?_
    refine V_iload d_md_adds_68 rfl ?_
    refine V_mast R61 d_md_adds_70 (by first | with_reducible rfl | exact ix8 _ _ | exact ix6 _ _ | assumption) rfl rfl (by show _ < 80; omega) (fun h70 M70 => ?_)
    have R70 := M70.1
    refine V_aload_n d_md_adds_71 rfl rfl ?_
    refine V_getf d_md_adds_72 fl_md_13 R70.obj rfl ?_
    refine V_iload_n d_md_adds_75 rfl rfl ?_
    refine V_dup2 d_md_adds_76 rfl rfl ?_
    refine V_mald R70 d_md_adds_77 (by first | with_reducible rfl | exact ix8 _ _ | exact ix6 _ _ | assumption) rfl rfl (by show _ < 10; omega) ?_
    simp (disch := first | decide | omega) only [mA_2s, mA_2n, mA_1, mF_2, mF_1s, mF_1n, pk_us, pk_un]
    rw [hf1]
    refine V_iconst (v := 1) d_md_adds_78 (by decide) ?_
    refine V_iadd d_md_adds_79 ?_
    rw [nI_1]
    refine V_mast R70 d_md_adds_80 (by first | with_reducible rfl | exact ix8 _ _ | exact ix6 _ _ | assumption) rfl rfl (by show _ < 10; omega) (fun h80 M80 => ?_)
    have R80 := M80.1
    refine V_aload_n d_md_adds_81 rfl rfl ?_
    refine V_getf d_md_adds_82 fl_md_13 R80.obj rfl ?_
    refine V_iload_n d_md_adds_85 rfl rfl ?_
    refine V_mald R80 d_md_adds_86 (by first | with_reducible rfl | exact ix8 _ _ | exact ix6 _ _ | assumption) rfl rfl (by show _ < 10; omega) ?_
    simp (disch := first | decide | omega) only [mA_2s, mA_2n, mA_1, mF_2, mF_1s, mF_1n, pk_us, pk_un]
    refine V_iconst (v := 1) d_md_adds_87 (by decide) ?_
    refine V_isub d_md_adds_88 ?_
    refine V_ireturn d_md_adds_89 rfl ?_
    refine ⟨_, rfl, Or.inr ⟨c9, (((((M35.trans M43).trans M52).trans M61).trans M70).trans M80), ?_⟩⟩
    rw [nI_pred]
  · skip
    refine V_iload d_md_adds_12 rfl ?_
    refine V_ireturn d_md_adds_14 rfl ?_
    exact ⟨_, rfl, Or.inl ⟨c9, rfl, rfl⟩⟩
/-- flags as a number -/
def flg (a b c : Int32) : Int32 := (if a = 0 then 0 else 1) + (if b = 0 then 0 else 2) + (if c = 0 then 0 else 4)
theorem sp_md_flag (G : Gk) (h : Hp) (a b c : Int32) : Ct G md_flag [.int a, .int b, .int c] h (pI fun r h' => h = h' ∧ r = flg a b c) := by
  refine Ct.ofL (M := md_flag) (lv := [some (.int a), some (.int b), some (.int c)]) mdf_md_flag rfl (Nat.le_of_ble_eq_true rfl) rfl ?_
  refine V_iload_n d_md_flag_0 rfl rfl ?_
  refine V_if_eq d_md_flag_1 (fun c1 => ?_) (fun c1 => ?_)
  · skip
    refine V_iconst (v := 0) d_md_flag_8 (by decide) ?_
    refine V_iload_n d_md_flag_9 rfl rfl ?_
    refine V_if_eq d_md_flag_10 (fun c10 => ?_) (fun c10 => ?_)
    · skip
      refine V_iconst (v := 0) d_md_flag_17 (by decide) ?_
      refine V_iadd d_md_flag_18 ?_
      refine V_iload_n d_md_flag_19 rfl rfl ?_
      refine V_if_eq d_md_flag_20 (fun c20 => ?_) (fun c20 => ?_)
      · skip
        refine V_iconst (v := 0) d_md_flag_27 (by decide) ?_
        refine V_iadd d_md_flag_28 ?_
        refine V_ireturn d_md_flag_29 rfl ?_
        refine ⟨_, rfl, rfl, ?_⟩
        simp [flg, *]
      · skip
        refine V_iconst (v := 4) d_md_flag_23 (by decide) ?_
        refine V_goto d_md_flag_24 ?_
        refine V_iadd d_md_flag_28 ?_
        refine V_ireturn d_md_flag_29 rfl ?_
        refine ⟨_, rfl, rfl, ?_⟩
        simp [flg, *]
    · skip
      refine V_iconst (v := 2) d_md_flag_13 (by decide) ?_
      refine V_goto d_md_flag_14 ?_
      refine V_iadd d_md_flag_18 ?_
      refine V_iload_n d_md_flag_19 rfl rfl ?_
      refine V_if_eq d_md_flag_20 (fun c20 => ?_) (fun c20 => ?_)
      · skip
        refine V_iconst (v := 0) d_md_flag_27 (by decide) ?_
        refine V_iadd d_md_flag_28 ?_
        refine V_ireturn d_md_flag_29 rfl ?_
        refine ⟨_, rfl, rfl, ?_⟩
        simp [flg, *]
      · skip
        refine V_iconst (v := 4) d_md_flag_23 (by decide) ?_
        refine V_goto d_md_flag_24 ?_
        refine V_iadd d_md_flag_28 ?_
        refine V_ireturn d_md_flag_29 rfl ?_
        refine ⟨_, rfl, rfl, ?_⟩
        simp [flg, *]
  · skip
    refine V_iconst (v := 1) d_md_flag_4 (by decide) ?_
    refine V_goto d_md_flag_5 ?_
    refine V_iload_n d_md_flag_9 rfl rfl ?_
    refine V_if_eq d_md_flag_10 (fun c10 => ?_) (fun c10 => ?_)
    · skip
      refine V_iconst (v := 0) d_md_flag_17 (by decide) ?_
      refine V_iadd d_md_flag_18 ?_
      refine V_iload_n d_md_flag_19 rfl rfl ?_
      refine V_if_eq d_md_flag_20 (fun c20 => ?_) (fun c20 => ?_)
      · skip
        refine V_iconst (v := 0) d_md_flag_27 (by decide) ?_
        refine V_iadd d_md_flag_28 ?_
        refine V_ireturn d_md_flag_29 rfl ?_
        refine ⟨_, rfl, rfl, ?_⟩
        simp [flg, *]
      · skip
        refine V_iconst (v := 4) d_md_flag_23 (by decide) ?_
        refine V_goto d_md_flag_24 ?_
        refine V_iadd d_md_flag_28 ?_
        refine V_ireturn d_md_flag_29 rfl ?_
        refine ⟨_, rfl, rfl, ?_⟩
        simp [flg, *]
    · skip
      refine V_iconst (v := 2) d_md_flag_13 (by decide) ?_
      refine V_goto d_md_flag_14 ?_
      refine V_iadd d_md_flag_18 ?_
      refine V_iload_n d_md_flag_19 rfl rfl ?_
      refine V_if_eq d_md_flag_20 (fun c20 => ?_) (fun c20 => ?_)
      · skip
        refine V_iconst (v := 0) d_md_flag_27 (by decide) ?_
        refine V_iadd d_md_flag_28 ?_
        refine V_ireturn d_md_flag_29 rfl ?_
        refine ⟨_, rfl, rfl, ?_⟩
        simp [flg, *]
      · skip
        refine V_iconst (v := 4) d_md_flag_23 (by decide) ?_
        refine V_goto d_md_flag_24 ?_
        refine V_iadd d_md_flag_28 ?_
        refine V_ireturn d_md_flag_29 rfl ?_
        refine ⟨_, rfl, rfl, ?_⟩
        simp [flg, *]
abbrev MISS : Int32 := -2147483648
theorem sp_md_number (G : Gk) {h : Hp} {m : Nat} {am : Nat → Nat} {s : Mem} (r : RepM h m am s) (ivs : IvS s) (ivo : IvO s) (v a b q1 q2 : Int32) : Ct G md_number [.ref m, .int v, .int a, .int b, .int q1, .int q2] h
    (pI fun r h' => ((¬ isSh s v ∨ b < a ∨ a = MISS) ∧ h = h' ∧ r = -2) ∨ (∃ i, i < nS s ∧ v = nI i ∧ ¬ b < a ∧ a ≠ MISS ∧ ((agst s i ≠ 0 ∧ h = h' ∧ r = agst s i) ∨ (agst s i = 0 ∧ Mod h m am h' (addM s i 0 a b (-1) (flg q1 q2 0)) ∧ r = nI (nf s i))))) := by
  have h0 := r.obj
  refine Ct.ofL (M := md_number) (lv := [some (.ref m), some (.int v), some (.int a), some (.int b), some (.int q1), some (.int q2)]) mdf_md_number rfl (Nat.le_of_ble_eq_true rfl) rfl ?_
  refine V_aload_n d_md_number_0 rfl rfl ?_
  refine V_iload_n d_md_number_1 rfl rfl ?_
  refine V_callV (N := md_isShape) d_md_number_2 ml_md_118 mdf_md_isShape wi_md_isShape wz_md_isShape (sp_md_isShape G r _) r.obj ⟨_, rfl, rfl⟩ rfl rfl (by decide) (by decide) (Nat.le_of_ble_eq_true rfl) rfl rfl (kI fun r2 h2 ⟨e2, f2⟩ => ?_)
  subst e2 f2
  refine V_if_eq d_md_number_5 (fun c5 => ?_) (fun c5 => ?_)
  · skip
    refine V_bipush (v := -2) d_md_number_19 (by decide) ?_
    refine V_ireturn d_md_number_21 rfl ?_
    exact ⟨_, rfl, Or.inl ⟨Or.inl (b01_e c5), rfl, rfl⟩⟩
  · skip
    refine V_iload_n d_md_number_8 rfl rfl ?_
    refine V_iload_n d_md_number_9 rfl rfl ?_
    refine V_icmp_gt d_md_number_10 (fun c10 => ?_) (fun c10 => ?_)
    · skip
      refine V_bipush (v := -2) d_md_number_19 (by decide) ?_
      refine V_ireturn d_md_number_21 rfl ?_
      exact ⟨_, rfl, Or.inl ⟨Or.inr (Or.inl c10), rfl, rfl⟩⟩
    · skip
      refine V_iload_n d_md_number_13 rfl rfl ?_
      refine V_ldc d_md_number_14 kc_md_129 ?_
      refine V_icmp_ne d_md_number_16 (fun c16 => ?_) (fun c16 => ?_)
      · skip
        obtain ⟨i, hi, rfl⟩ := isSh.ix ivs (b01_ne c5)
        refine V_aload_n d_md_number_22 rfl rfl ?_
        refine V_iload_n d_md_number_23 rfl rfl ?_
        refine V_iconst (v := 0) d_md_number_24 (by decide) ?_
        refine V_iload_n d_md_number_25 rfl rfl ?_
        refine V_iload_n d_md_number_26 rfl rfl ?_
        refine V_iconst (v := -1) d_md_number_27 (by decide) ?_
        refine V_iload d_md_number_28 rfl ?_
        refine V_iload d_md_number_30 rfl ?_
        refine V_iconst (v := 0) d_md_number_32 (by decide) ?_
        refine V_callS (N := md_flag) d_md_number_33 ml_md_130 mdf_md_flag ws_md_flag (sp_md_flag G _ _ _ _) rfl rfl (by decide) (by decide) (Nat.le_of_ble_eq_true rfl) rfl rfl (kI fun r33 h33 ⟨e33, f33⟩ => ?_)
        subst e33 f33
        refine V_callV (N := md_adds) d_md_number_36 ml_md_134 mdf_md_adds wi_md_adds wz_md_adds (sp_md_adds G r ivs ivo i hi _ _ _ _ _) r.obj ⟨_, rfl, rfl⟩ rfl rfl (by decide) (by decide) (Nat.le_of_ble_eq_true rfl) rfl rfl (kI fun r36 h36 hp36 => ?_)
        refine V_ireturn d_md_number_39 rfl ?_
        exact ⟨_, rfl, Or.inr ⟨i, hi, rfl, c10, c16, hp36⟩⟩
      · skip
        refine V_bipush (v := -2) d_md_number_19 (by decide) ?_
        refine V_ireturn d_md_number_21 rfl ?_
        exact ⟨_, rfl, Or.inl ⟨Or.inr (Or.inr c16), rfl, rfl⟩⟩
theorem sp_md_link (G : Gk) {h : Hp} {m : Nat} {am : Nat → Nat} {s : Mem} (r : RepM h m am s) (ivs : IvS s) (ivo : IvO s) (v t l q1 q2 q3 : Int32) : Ct G md_link [.ref m, .int v, .int t, .int l, .int q1, .int q2, .int q3] h
    (pI fun r h' => ((¬ isSh s v ∨ ¬ isSh s t ∨ (l ≠ 0 ∧ (q1 ≠ 0 ∨ q2 ≠ 0))) ∧ h = h' ∧ r = -2) ∨ (∃ i, i < nS s ∧ v = nI i ∧ isSh s t ∧ ¬ (l ≠ 0 ∧ (q1 ≠ 0 ∨ q2 ≠ 0)) ∧ ((agst s i ≠ 0 ∧ h = h' ∧ r = agst s i) ∨ (agst s i = 0 ∧ Mod h m am h' (addM s i (if l = 0 then 1 else 2) t (-1) (-1) (flg q1 q2 q3)) ∧ r = nI (nf s i))))) := by
  refine Ct.ofL (M := md_link) (lv := [some (.ref m), some (.int v), some (.int t), some (.int l), some (.int q1), some (.int q2), some (.int q3)]) mdf_md_link rfl (Nat.le_of_ble_eq_true rfl) rfl ?_
  refine V_aload_n d_md_link_0 rfl rfl ?_
  refine V_iload_n d_md_link_1 rfl rfl ?_
  refine V_callV (N := md_isShape) d_md_link_2 ml_md_118 mdf_md_isShape wi_md_isShape wz_md_isShape (sp_md_isShape G r _) r.obj ⟨_, rfl, rfl⟩ rfl rfl (by decide) (by decide) (Nat.le_of_ble_eq_true rfl) rfl rfl (kI fun r2 h2 ⟨e2, f2⟩ => ?_)
  subst e2 f2
  refine V_if_eq d_md_link_5 (fun c5 => ?_) (fun c5 => ?_)
  · skip
    refine V_bipush (v := -2) d_md_link_30 (by decide) ?_
    refine V_ireturn d_md_link_32 rfl ?_
    exact ⟨_, rfl, Or.inl ⟨Or.inl (b01_e c5), rfl, rfl⟩⟩
  · skip
    refine V_aload_n d_md_link_8 rfl rfl ?_
    refine V_iload_n d_md_link_9 rfl rfl ?_
    refine V_callV (N := md_isShape) d_md_link_10 ml_md_118 mdf_md_isShape wi_md_isShape wz_md_isShape (sp_md_isShape G r _) r.obj ⟨_, rfl, rfl⟩ rfl rfl (by decide) (by decide) (Nat.le_of_ble_eq_true rfl) rfl rfl (kI fun r10 h10 ⟨e10, f10⟩ => ?_)
    subst e10 f10
    refine V_if_eq d_md_link_13 (fun c13 => ?_) (fun c13 => ?_)
    · skip
      refine V_bipush (v := -2) d_md_link_30 (by decide) ?_
      refine V_ireturn d_md_link_32 rfl ?_
      exact ⟨_, rfl, Or.inl ⟨Or.inr (Or.inl (b01_e c13)), rfl, rfl⟩⟩
    · skip
      refine V_iload_n d_md_link_16 rfl rfl ?_
      refine V_if_eq d_md_link_17 (fun c17 => ?_) (fun c17 => ?_)
      · skip
        obtain ⟨i, hi, rfl⟩ := isSh.ix ivs (b01_ne c5)
        refine V_aload_n d_md_link_33 rfl rfl ?_
        refine V_iload_n d_md_link_34 rfl rfl ?_
        refine V_iload_n d_md_link_35 rfl rfl ?_
        refine V_if_eq d_md_link_36 (fun c36 => ?_) (fun c36 => ?_)
        · skip
          refine V_iconst (v := 1) d_md_link_43 (by decide) ?_
          refine V_iload_n d_md_link_44 rfl rfl ?_
          refine V_iconst (v := -1) d_md_link_45 (by decide) ?_
          refine V_iconst (v := -1) d_md_link_46 (by decide) ?_
          refine V_iload d_md_link_47 rfl ?_
          refine V_iload d_md_link_49 rfl ?_
          refine V_iload d_md_link_51 rfl ?_
          refine V_callS (N := md_flag) d_md_link_53 ml_md_130 mdf_md_flag ws_md_flag (sp_md_flag G _ _ _ _) rfl rfl (by decide) (by decide) (Nat.le_of_ble_eq_true rfl) rfl rfl (kI fun r53 h53 ⟨e53, f53⟩ => ?_)
          subst e53 f53
          refine V_callV (N := md_adds) d_md_link_56 ml_md_134 mdf_md_adds wi_md_adds wz_md_adds (sp_md_adds G r ivs ivo i hi _ _ _ _ _) r.obj ⟨_, rfl, rfl⟩ rfl rfl (by decide) (by decide) (Nat.le_of_ble_eq_true rfl) rfl rfl (kI fun r56 h56 hp56 => ?_)
          refine V_ireturn d_md_link_59 rfl ?_
          refine ⟨_, rfl, Or.inr ⟨i, hi, rfl, b01_ne c13, (by simp_all), ?_⟩⟩
          simp_all
        · skip
          refine V_iconst (v := 2) d_md_link_39 (by decide) ?_
          refine V_goto d_md_link_40 ?_
          refine V_iload_n d_md_link_44 rfl rfl ?_
          refine V_iconst (v := -1) d_md_link_45 (by decide) ?_
          refine V_iconst (v := -1) d_md_link_46 (by decide) ?_
          refine V_iload d_md_link_47 rfl ?_
          refine V_iload d_md_link_49 rfl ?_
          refine V_iload d_md_link_51 rfl ?_
          refine V_callS (N := md_flag) d_md_link_53 ml_md_130 mdf_md_flag ws_md_flag (sp_md_flag G _ _ _ _) rfl rfl (by decide) (by decide) (Nat.le_of_ble_eq_true rfl) rfl rfl (kI fun r53 h53 ⟨e53, f53⟩ => ?_)
          subst e53 f53
          refine V_callV (N := md_adds) d_md_link_56 ml_md_134 mdf_md_adds wi_md_adds wz_md_adds (sp_md_adds G r ivs ivo i hi _ _ _ _ _) r.obj ⟨_, rfl, rfl⟩ rfl rfl (by decide) (by decide) (Nat.le_of_ble_eq_true rfl) rfl rfl (kI fun r56 h56 hp56 => ?_)
          refine V_ireturn d_md_link_59 rfl ?_
          refine ⟨_, rfl, Or.inr ⟨i, hi, rfl, b01_ne c13, (by simp_all), ?_⟩⟩
          simp_all
      · skip
        refine V_iload d_md_link_20 rfl ?_
        refine V_if_ne d_md_link_22 (fun c22 => ?_) (fun c22 => ?_)
        · skip
          refine V_bipush (v := -2) d_md_link_30 (by decide) ?_
          refine V_ireturn d_md_link_32 rfl ?_
          exact ⟨_, rfl, Or.inl ⟨Or.inr (Or.inr ⟨c17, Or.inl c22⟩), rfl, rfl⟩⟩
        · skip
          refine V_iload d_md_link_25 rfl ?_
          refine V_if_eq d_md_link_27 (fun c27 => ?_) (fun c27 => ?_)
          · skip
            obtain ⟨i, hi, rfl⟩ := isSh.ix ivs (b01_ne c5)
            refine V_aload_n d_md_link_33 rfl rfl ?_
            refine V_iload_n d_md_link_34 rfl rfl ?_
            refine V_iload_n d_md_link_35 rfl rfl ?_
            refine V_if_eq d_md_link_36 (fun c36 => ?_) (fun c36 => ?_)
            · skip
              refine V_iconst (v := 1) d_md_link_43 (by decide) ?_
              refine V_iload_n d_md_link_44 rfl rfl ?_
              refine V_iconst (v := -1) d_md_link_45 (by decide) ?_
              refine V_iconst (v := -1) d_md_link_46 (by decide) ?_
              refine V_iload d_md_link_47 rfl ?_
              refine V_iload d_md_link_49 rfl ?_
              refine V_iload d_md_link_51 rfl ?_
              refine V_callS (N := md_flag) d_md_link_53 ml_md_130 mdf_md_flag ws_md_flag (sp_md_flag G _ _ _ _) rfl rfl (by decide) (by decide) (Nat.le_of_ble_eq_true rfl) rfl rfl (kI fun r53 h53 ⟨e53, f53⟩ => ?_)
              subst e53 f53
              refine V_callV (N := md_adds) d_md_link_56 ml_md_134 mdf_md_adds wi_md_adds wz_md_adds (sp_md_adds G r ivs ivo i hi _ _ _ _ _) r.obj ⟨_, rfl, rfl⟩ rfl rfl (by decide) (by decide) (Nat.le_of_ble_eq_true rfl) rfl rfl (kI fun r56 h56 hp56 => ?_)
              refine V_ireturn d_md_link_59 rfl ?_
              refine ⟨_, rfl, Or.inr ⟨i, hi, rfl, b01_ne c13, (by simp_all), ?_⟩⟩
              simp_all
            · skip
              refine V_iconst (v := 2) d_md_link_39 (by decide) ?_
              refine V_goto d_md_link_40 ?_
              refine V_iload_n d_md_link_44 rfl rfl ?_
              refine V_iconst (v := -1) d_md_link_45 (by decide) ?_
              refine V_iconst (v := -1) d_md_link_46 (by decide) ?_
              refine V_iload d_md_link_47 rfl ?_
              refine V_iload d_md_link_49 rfl ?_
              refine V_iload d_md_link_51 rfl ?_
              refine V_callS (N := md_flag) d_md_link_53 ml_md_130 mdf_md_flag ws_md_flag (sp_md_flag G _ _ _ _) rfl rfl (by decide) (by decide) (Nat.le_of_ble_eq_true rfl) rfl rfl (kI fun r53 h53 ⟨e53, f53⟩ => ?_)
              subst e53 f53
              refine V_callV (N := md_adds) d_md_link_56 ml_md_134 mdf_md_adds wi_md_adds wz_md_adds (sp_md_adds G r ivs ivo i hi _ _ _ _ _) r.obj ⟨_, rfl, rfl⟩ rfl rfl (by decide) (by decide) (Nat.le_of_ble_eq_true rfl) rfl rfl (kI fun r56 h56 hp56 => ?_)
              refine V_ireturn d_md_link_59 rfl ?_
              refine ⟨_, rfl, Or.inr ⟨i, hi, rfl, b01_ne c13, (by simp_all), ?_⟩⟩
              simp_all
          · skip
            refine V_bipush (v := -2) d_md_link_30 (by decide) ?_
            refine V_ireturn d_md_link_32 rfl ?_
            exact ⟨_, rfl, Or.inl ⟨Or.inr (Or.inr ⟨c17, Or.inr c27⟩), rfl, rfl⟩⟩
abbrev inF (s : Mem) (i : Nat) (f : Int32) : Prop := 0 ≤ f ∧ f ≤ s.2 2 i - 1
def numF (s : Mem) (i : Nat) (f : Int32) : Prop := ∃ j, j < nf s i ∧ f = nI j ∧ (s.2 3 (8 * i + j) = 0 ∨ s.2 3 (8 * i + j) = 3)
def kindF (s : Mem) (i : Nat) (f k : Int32) : Prop := ∃ j, j < nf s i ∧ f = nI j ∧ s.2 3 (8 * i + j) = k
theorem inF.ix {s : Mem} {i : Nat} {f : Int32} (ivs : IvS s) (hi : i < nS s) (h : inF s i f) : ∃ j, j < nf s i ∧ f = nI j := ix_of (ivs.2.2.1 i hi).1 (by have := (ivs.2.2.1 i hi).2; omega) h
theorem inF.no {s : Mem} {i : Nat} {f : Int32} (ivs : IvS s) (hi : i < nS s) (h : ¬ inF s i f) : ∀ j, j < nf s i → f ≠ nI j := ix_no (ivs.2.2.1 i hi).1 (by have := (ivs.2.2.1 i hi).2; omega) h
theorem nI_inj8 {a b : Nat} (ha : a < 1000000) (hb : b < 1000000) (h : nI a = nI b) : a = b := eqN h (by omega) (by omega)
theorem sp_md_isNumeric (G : Gk) {h : Hp} {m : Nat} {am : Nat → Nat} {s : Mem} (r : RepM h m am s) (ivs : IvS s) (i : Nat) (hi : i < nS s) (f : Int32) : Ct G md_isNumeric [.ref m, .int (nI i), .int f] h (pI fun r h' => h = h' ∧ r = b01 (numF s i f)) := by
  have h10 := ivs.2.1
  obtain ⟨hf1, hf2⟩ := ivs.2.2.1 i hi
  refine Ct.ofL (M := md_isNumeric) (lv := [some (.ref m), some (.int (nI i)), some (.int f)]) mdf_md_isNumeric rfl (Nat.le_of_ble_eq_true rfl) rfl ?_
  refine V_iload_n d_md_isNumeric_0 rfl rfl ?_
  refine V_iconst (v := 0) d_md_isNumeric_1 (by decide) ?_
  refine V_aload_n d_md_isNumeric_2 rfl rfl ?_
  refine V_getf d_md_isNumeric_3 fl_md_13 r.obj rfl ?_
  refine V_iload_n d_md_isNumeric_6 rfl rfl ?_
  refine V_mald r d_md_isNumeric_7 (by first | with_reducible rfl | exact ix8 _ _ | exact ix6 _ _ | assumption) rfl rfl (by show _ < 10; omega) ?_
  refine V_iconst (v := 1) d_md_isNumeric_8 (by decide) ?_
  refine V_isub d_md_isNumeric_9 ?_
  refine V_callS (N := md_in) d_md_isNumeric_10 ml_md_114 mdf_md_in ws_md_in (sp_md_in G _ _ _ _) rfl rfl (by decide) (by decide) (Nat.le_of_ble_eq_true rfl) rfl rfl (kI fun r10 h10 ⟨e10, f10⟩ => ?_)
  subst e10 f10
  refine V_if_eq d_md_isNumeric_13 (fun c13 => ?_) (fun c13 => ?_)
  · skip
    refine V_iconst (v := 0) d_md_isNumeric_49 (by decide) ?_
    refine V_zreturn d_md_isNumeric_50 rfl (by first | exact Or.inl rfl | exact Or.inr rfl) ?_
    refine ⟨_, rfl, rfl, (b01_f ?_).symm⟩
    rintro ⟨j, q1, q2, -⟩
    exact inF.no ivs hi (b01_e c13) j q1 q2
  · skip
    obtain ⟨j, hj, rfl⟩ := inF.ix ivs hi (b01_ne c13)
    refine V_aload_n d_md_isNumeric_16 rfl rfl ?_
    refine V_getf d_md_isNumeric_17 fl_md_16 r.obj rfl ?_
    refine V_bipush (v := 8) d_md_isNumeric_20 (by decide) ?_
    refine V_iload_n d_md_isNumeric_22 rfl rfl ?_
    refine V_imul d_md_isNumeric_23 ?_
    refine V_iload_n d_md_isNumeric_24 rfl rfl ?_
    refine V_iadd d_md_isNumeric_25 ?_
    refine V_mald r d_md_isNumeric_26 (by first | with_reducible rfl | exact ix8 _ _ | exact ix6 _ _ | assumption) rfl rfl (by show _ < 80; omega) ?_
    refine V_if_eq d_md_isNumeric_27 (fun c27 => ?_) (fun c27 => ?_)
    · skip
      refine V_iconst (v := 1) d_md_isNumeric_45 (by decide) ?_
      refine V_goto d_md_isNumeric_46 ?_
      refine V_zreturn d_md_isNumeric_50 rfl (by first | exact Or.inl rfl | exact Or.inr rfl) ?_
      exact ⟨_, rfl, rfl, (b01_t ⟨j, hj, rfl, Or.inl c27⟩).symm⟩
    · skip
      refine V_aload_n d_md_isNumeric_30 rfl rfl ?_
      refine V_getf d_md_isNumeric_31 fl_md_16 r.obj rfl ?_
      refine V_bipush (v := 8) d_md_isNumeric_34 (by decide) ?_
      refine V_iload_n d_md_isNumeric_36 rfl rfl ?_
      refine V_imul d_md_isNumeric_37 ?_
      refine V_iload_n d_md_isNumeric_38 rfl rfl ?_
      refine V_iadd d_md_isNumeric_39 ?_
      refine V_mald r d_md_isNumeric_40 (by first | with_reducible rfl | exact ix8 _ _ | exact ix6 _ _ | assumption) rfl rfl (by show _ < 80; omega) ?_
      refine V_iconst (v := 3) d_md_isNumeric_41 (by decide) ?_
      refine V_icmp_ne d_md_isNumeric_42 (fun c42 => ?_) (fun c42 => ?_)
      · skip
        refine V_iconst (v := 0) d_md_isNumeric_49 (by decide) ?_
        refine V_zreturn d_md_isNumeric_50 rfl (by first | exact Or.inl rfl | exact Or.inr rfl) ?_
        refine ⟨_, rfl, rfl, (b01_f ?_).symm⟩
        rintro ⟨j', q1, q2, q3⟩
        obtain rfl := nI_inj8 (by omega) (by omega) q2
        exact q3.elim c27 c42
      · skip
        refine V_iconst (v := 1) d_md_isNumeric_45 (by decide) ?_
        refine V_goto d_md_isNumeric_46 ?_
        refine V_zreturn d_md_isNumeric_50 rfl (by first | exact Or.inl rfl | exact Or.inr rfl) ?_
        exact ⟨_, rfl, rfl, (b01_t ⟨j, hj, rfl, Or.inr c42⟩).symm⟩
theorem sp_md_isKind (G : Gk) {h : Hp} {m : Nat} {am : Nat → Nat} {s : Mem} (r : RepM h m am s) (ivs : IvS s) (i : Nat) (hi : i < nS s) (f k : Int32) : Ct G md_isKind [.ref m, .int (nI i), .int f, .int k] h (pI fun r h' => h = h' ∧ r = b01 (kindF s i f k)) := by
  have h10 := ivs.2.1
  obtain ⟨hf1, hf2⟩ := ivs.2.2.1 i hi
  refine Ct.ofL (M := md_isKind) (lv := [some (.ref m), some (.int (nI i)), some (.int f), some (.int k)]) mdf_md_isKind rfl (Nat.le_of_ble_eq_true rfl) rfl ?_
  refine V_iload_n d_md_isKind_0 rfl rfl ?_
  refine V_iconst (v := 0) d_md_isKind_1 (by decide) ?_
  refine V_aload_n d_md_isKind_2 rfl rfl ?_
  refine V_getf d_md_isKind_3 fl_md_13 r.obj rfl ?_
  refine V_iload_n d_md_isKind_6 rfl rfl ?_
  refine V_mald r d_md_isKind_7 (by first | with_reducible rfl | exact ix8 _ _ | exact ix6 _ _ | assumption) rfl rfl (by show _ < 10; omega) ?_
  refine V_iconst (v := 1) d_md_isKind_8 (by decide) ?_
  refine V_isub d_md_isKind_9 ?_
  refine V_callS (N := md_in) d_md_isKind_10 ml_md_114 mdf_md_in ws_md_in (sp_md_in G _ _ _ _) rfl rfl (by decide) (by decide) (Nat.le_of_ble_eq_true rfl) rfl rfl (kI fun r10 h10 ⟨e10, f10⟩ => ?_)
  subst e10 f10
  refine V_if_eq d_md_isKind_13 (fun c13 => ?_) (fun c13 => ?_)
  · skip
    refine V_iconst (v := 0) d_md_isKind_35 (by decide) ?_
    refine V_zreturn d_md_isKind_36 rfl (by first | exact Or.inl rfl | exact Or.inr rfl) ?_
    refine ⟨_, rfl, rfl, (b01_f ?_).symm⟩
    rintro ⟨j, q1, q2, -⟩
    exact inF.no ivs hi (b01_e c13) j q1 q2
  · skip
    obtain ⟨j, hj, rfl⟩ := inF.ix ivs hi (b01_ne c13)
    refine V_aload_n d_md_isKind_16 rfl rfl ?_
    refine V_getf d_md_isKind_17 fl_md_16 r.obj rfl ?_
    refine V_bipush (v := 8) d_md_isKind_20 (by decide) ?_
    refine V_iload_n d_md_isKind_22 rfl rfl ?_
    refine V_imul d_md_isKind_23 ?_
    refine V_iload_n d_md_isKind_24 rfl rfl ?_
    refine V_iadd d_md_isKind_25 ?_
    refine V_mald r d_md_isKind_26 (by first | with_reducible rfl | exact ix8 _ _ | exact ix6 _ _ | assumption) rfl rfl (by show _ < 80; omega) ?_
    refine V_iload_n d_md_isKind_27 rfl rfl ?_
    refine V_icmp_ne d_md_isKind_28 (fun c28 => ?_) (fun c28 => ?_)
    · skip
      refine V_iconst (v := 0) d_md_isKind_35 (by decide) ?_
      refine V_zreturn d_md_isKind_36 rfl (by first | exact Or.inl rfl | exact Or.inr rfl) ?_
      refine ⟨_, rfl, rfl, (b01_f ?_).symm⟩
      rintro ⟨j', q1, q2, q3⟩
      obtain rfl := nI_inj8 (by omega) (by omega) q2
      exact c28 q3
    · skip
      refine V_iconst (v := 1) d_md_isKind_31 (by decide) ?_
      refine V_goto d_md_isKind_32 ?_
      refine V_zreturn d_md_isKind_36 rfl (by first | exact Or.inl rfl | exact Or.inr rfl) ?_
      exact ⟨_, rfl, rfl, (b01_t ⟨j, hj, rfl, c28⟩).symm⟩
/-- a field's numbers are as they should be -/
def FOK (s : Mem) (i j : Nat) : Prop :=
  s.2 3 (8 * i + j) = 0 ∨ ((s.2 3 (8 * i + j) = 1 ∨ s.2 3 (8 * i + j) = 2) ∧ ∃ t, t < nS s ∧ s.2 4 (8 * i + j) = nI t) ∨
  (s.2 3 (8 * i + j) = 3 ∧ ∃ c f, c ≤ 5 ∧ f < j ∧ s.2 4 (8 * i + j) = nI c ∧ s.2 5 (8 * i + j) = nI f ∧
    (c ≤ 2 → ∃ g, g < j ∧ s.2 6 (8 * i + j) = nI g ∧ (s.2 3 (8 * i + f) = 0 ∨ s.2 3 (8 * i + f) = 3) ∧ (s.2 3 (8 * i + g) = 0 ∨ s.2 3 (8 * i + g) = 3)) ∧
    ((c = 3 ∨ c = 4) → s.2 3 (8 * i + f) = 2) ∧ (c = 4 → ∃ t g, t < nS s ∧ s.2 4 (8 * i + f) = nI t ∧ g < nf s t ∧ s.2 6 (8 * i + j) = nI g ∧ s.2 3 (8 * t + g) = 0))
def IvF (s : Mem) : Prop := ∀ i, i < nS s → ∀ j, j < nf s i → FOK s i j
theorem IvF.to {s : Mem} (iv : IvF s) {i j : Nat} (hi : i < nS s) (hj : j < nf s i) (hk : s.2 3 (8 * i + j) = 1 ∨ s.2 3 (8 * i + j) = 2) : ∃ t, t < nS s ∧ s.2 4 (8 * i + j) = nI t := by
  rcases iv i hi j hj with q | ⟨-, q⟩ | ⟨q, -⟩
  · rcases hk with hk | hk <;> (rw [q] at hk; exact absurd hk (by decide))
  · exact q
  · rcases hk with hk | hk <;> (rw [q] at hk; exact absurd hk (by decide))
def mayF (s : Mem) (i : Nat) (c f g : Int32) : Prop := ((c = 0 ∨ c = 1 ∨ c = 2) ∧ numF s i f ∧ numF s i g) ∨ (c = 3 ∧ kindF s i f 2) ∨ (c = 4 ∧ kindF s i f 2 ∧ ∃ j t, j < nf s i ∧ f = nI j ∧ t < nS s ∧ s.2 4 (8 * i + j) = nI t ∧ kindF s t g 0) ∨ (c = 5 ∧ inF s i f)
theorem sp_md_mayFollow (G : Gk) {h : Hp} {m : Nat} {am : Nat → Nat} {s : Mem} (r : RepM h m am s) (ivs : IvS s) (ivf : IvF s) (i : Nat) (hi : i < nS s) (c f g : Int32) : Ct G md_mayFollow [.ref m, .int (nI i), .int c, .int f, .int g] h (pI fun r h' => h = h' ∧ r = b01 (mayF s i c f g)) := by
  have h10 := ivs.2.1
  obtain ⟨hf1, hf2⟩ := ivs.2.2.1 i hi
  refine Ct.ofL (M := md_mayFollow) (lv := [some (.ref m), some (.int (nI i)), some (.int c), some (.int f), some (.int g)]) mdf_md_mayFollow rfl (Nat.le_of_ble_eq_true rfl) rfl ?_
  refine V_iload_n d_md_mayFollow_0 rfl rfl ?_
  by_cases w1_0 : c = 0
  · skip
    subst w1_0
    refine V_tableIn (off := 39) (tgt := 40) d_md_mayFollow_1 (by decide) (by decide) rfl (by decide) ?_
    refine V_aload_n d_md_mayFollow_40 rfl rfl ?_
    refine V_iload_n d_md_mayFollow_41 rfl rfl ?_
    refine V_iload_n d_md_mayFollow_42 rfl rfl ?_
    refine V_callV (N := md_isNumeric) d_md_mayFollow_43 ml_md_138 mdf_md_isNumeric wi_md_isNumeric wz_md_isNumeric (sp_md_isNumeric G r ivs i hi _) r.obj ⟨_, rfl, rfl⟩ rfl rfl (by decide) (by decide) (Nat.le_of_ble_eq_true rfl) rfl rfl (kI fun r43 h43 ⟨e43, f43⟩ => ?_)
    subst e43 f43
    refine V_if_eq d_md_mayFollow_46 (fun c46 => ?_) (fun c46 => ?_)
    · skip
      refine V_iconst (v := 0) d_md_mayFollow_63 (by decide) ?_
      refine V_zreturn d_md_mayFollow_64 rfl (by first | exact Or.inl rfl | exact Or.inr rfl) ?_
      refine ⟨_, rfl, rfl, ?_⟩
      first | exact (b01_t (Or.inl ⟨by simp, b01_ne c46, b01_ne c56⟩)).symm | (refine (b01_f (fun q => ?_)).symm; simp [mayF] at q; first | exact b01_e c46 q.1 | exact b01_e c56 q.2)
    · skip
      refine V_aload_n d_md_mayFollow_49 rfl rfl ?_
      refine V_iload_n d_md_mayFollow_50 rfl rfl ?_
      refine V_iload d_md_mayFollow_51 rfl ?_
      refine V_callV (N := md_isNumeric) d_md_mayFollow_53 ml_md_138 mdf_md_isNumeric wi_md_isNumeric wz_md_isNumeric (sp_md_isNumeric G r ivs i hi _) r.obj ⟨_, rfl, rfl⟩ rfl rfl (by decide) (by decide) (Nat.le_of_ble_eq_true rfl) rfl rfl (kI fun r53 h53 ⟨e53, f53⟩ => ?_)
      subst e53 f53
      refine V_if_eq d_md_mayFollow_56 (fun c56 => ?_) (fun c56 => ?_)
      · skip
        refine V_iconst (v := 0) d_md_mayFollow_63 (by decide) ?_
        refine V_zreturn d_md_mayFollow_64 rfl (by first | exact Or.inl rfl | exact Or.inr rfl) ?_
        refine ⟨_, rfl, rfl, ?_⟩
        first | exact (b01_t (Or.inl ⟨by simp, b01_ne c46, b01_ne c56⟩)).symm | (refine (b01_f (fun q => ?_)).symm; simp [mayF] at q; first | exact b01_e c46 q.1 | exact b01_e c56 q.2)
      · skip
        refine V_iconst (v := 1) d_md_mayFollow_59 (by decide) ?_
        refine V_goto d_md_mayFollow_60 ?_
        refine V_zreturn d_md_mayFollow_64 rfl (by first | exact Or.inl rfl | exact Or.inr rfl) ?_
        refine ⟨_, rfl, rfl, ?_⟩
        first | exact (b01_t (Or.inl ⟨by simp, b01_ne c46, b01_ne c56⟩)).symm | (refine (b01_f (fun q => ?_)).symm; simp [mayF] at q; first | exact b01_e c46 q.1 | exact b01_e c56 q.2)
  by_cases w1_1 : c = 1
  · skip
    subst w1_1
    refine V_tableIn (off := 39) (tgt := 40) d_md_mayFollow_1 (by decide) (by decide) rfl (by decide) ?_
    refine V_aload_n d_md_mayFollow_40 rfl rfl ?_
    refine V_iload_n d_md_mayFollow_41 rfl rfl ?_
    refine V_iload_n d_md_mayFollow_42 rfl rfl ?_
    refine V_callV (N := md_isNumeric) d_md_mayFollow_43 ml_md_138 mdf_md_isNumeric wi_md_isNumeric wz_md_isNumeric (sp_md_isNumeric G r ivs i hi _) r.obj ⟨_, rfl, rfl⟩ rfl rfl (by decide) (by decide) (Nat.le_of_ble_eq_true rfl) rfl rfl (kI fun r43 h43 ⟨e43, f43⟩ => ?_)
    subst e43 f43
    refine V_if_eq d_md_mayFollow_46 (fun c46 => ?_) (fun c46 => ?_)
    · skip
      refine V_iconst (v := 0) d_md_mayFollow_63 (by decide) ?_
      refine V_zreturn d_md_mayFollow_64 rfl (by first | exact Or.inl rfl | exact Or.inr rfl) ?_
      refine ⟨_, rfl, rfl, ?_⟩
      first | exact (b01_t (Or.inl ⟨by simp, b01_ne c46, b01_ne c56⟩)).symm | (refine (b01_f (fun q => ?_)).symm; simp [mayF] at q; first | exact b01_e c46 q.1 | exact b01_e c56 q.2)
    · skip
      refine V_aload_n d_md_mayFollow_49 rfl rfl ?_
      refine V_iload_n d_md_mayFollow_50 rfl rfl ?_
      refine V_iload d_md_mayFollow_51 rfl ?_
      refine V_callV (N := md_isNumeric) d_md_mayFollow_53 ml_md_138 mdf_md_isNumeric wi_md_isNumeric wz_md_isNumeric (sp_md_isNumeric G r ivs i hi _) r.obj ⟨_, rfl, rfl⟩ rfl rfl (by decide) (by decide) (Nat.le_of_ble_eq_true rfl) rfl rfl (kI fun r53 h53 ⟨e53, f53⟩ => ?_)
      subst e53 f53
      refine V_if_eq d_md_mayFollow_56 (fun c56 => ?_) (fun c56 => ?_)
      · skip
        refine V_iconst (v := 0) d_md_mayFollow_63 (by decide) ?_
        refine V_zreturn d_md_mayFollow_64 rfl (by first | exact Or.inl rfl | exact Or.inr rfl) ?_
        refine ⟨_, rfl, rfl, ?_⟩
        first | exact (b01_t (Or.inl ⟨by simp, b01_ne c46, b01_ne c56⟩)).symm | (refine (b01_f (fun q => ?_)).symm; simp [mayF] at q; first | exact b01_e c46 q.1 | exact b01_e c56 q.2)
      · skip
        refine V_iconst (v := 1) d_md_mayFollow_59 (by decide) ?_
        refine V_goto d_md_mayFollow_60 ?_
        refine V_zreturn d_md_mayFollow_64 rfl (by first | exact Or.inl rfl | exact Or.inr rfl) ?_
        refine ⟨_, rfl, rfl, ?_⟩
        first | exact (b01_t (Or.inl ⟨by simp, b01_ne c46, b01_ne c56⟩)).symm | (refine (b01_f (fun q => ?_)).symm; simp [mayF] at q; first | exact b01_e c46 q.1 | exact b01_e c56 q.2)
  by_cases w1_2 : c = 2
  · skip
    subst w1_2
    refine V_tableIn (off := 39) (tgt := 40) d_md_mayFollow_1 (by decide) (by decide) rfl (by decide) ?_
    refine V_aload_n d_md_mayFollow_40 rfl rfl ?_
    refine V_iload_n d_md_mayFollow_41 rfl rfl ?_
    refine V_iload_n d_md_mayFollow_42 rfl rfl ?_
    refine V_callV (N := md_isNumeric) d_md_mayFollow_43 ml_md_138 mdf_md_isNumeric wi_md_isNumeric wz_md_isNumeric (sp_md_isNumeric G r ivs i hi _) r.obj ⟨_, rfl, rfl⟩ rfl rfl (by decide) (by decide) (Nat.le_of_ble_eq_true rfl) rfl rfl (kI fun r43 h43 ⟨e43, f43⟩ => ?_)
    subst e43 f43
    refine V_if_eq d_md_mayFollow_46 (fun c46 => ?_) (fun c46 => ?_)
    · skip
      refine V_iconst (v := 0) d_md_mayFollow_63 (by decide) ?_
      refine V_zreturn d_md_mayFollow_64 rfl (by first | exact Or.inl rfl | exact Or.inr rfl) ?_
      refine ⟨_, rfl, rfl, ?_⟩
      first | exact (b01_t (Or.inl ⟨by simp, b01_ne c46, b01_ne c56⟩)).symm | (refine (b01_f (fun q => ?_)).symm; simp [mayF] at q; first | exact b01_e c46 q.1 | exact b01_e c56 q.2)
    · skip
      refine V_aload_n d_md_mayFollow_49 rfl rfl ?_
      refine V_iload_n d_md_mayFollow_50 rfl rfl ?_
      refine V_iload d_md_mayFollow_51 rfl ?_
      refine V_callV (N := md_isNumeric) d_md_mayFollow_53 ml_md_138 mdf_md_isNumeric wi_md_isNumeric wz_md_isNumeric (sp_md_isNumeric G r ivs i hi _) r.obj ⟨_, rfl, rfl⟩ rfl rfl (by decide) (by decide) (Nat.le_of_ble_eq_true rfl) rfl rfl (kI fun r53 h53 ⟨e53, f53⟩ => ?_)
      subst e53 f53
      refine V_if_eq d_md_mayFollow_56 (fun c56 => ?_) (fun c56 => ?_)
      · skip
        refine V_iconst (v := 0) d_md_mayFollow_63 (by decide) ?_
        refine V_zreturn d_md_mayFollow_64 rfl (by first | exact Or.inl rfl | exact Or.inr rfl) ?_
        refine ⟨_, rfl, rfl, ?_⟩
        first | exact (b01_t (Or.inl ⟨by simp, b01_ne c46, b01_ne c56⟩)).symm | (refine (b01_f (fun q => ?_)).symm; simp [mayF] at q; first | exact b01_e c46 q.1 | exact b01_e c56 q.2)
      · skip
        refine V_iconst (v := 1) d_md_mayFollow_59 (by decide) ?_
        refine V_goto d_md_mayFollow_60 ?_
        refine V_zreturn d_md_mayFollow_64 rfl (by first | exact Or.inl rfl | exact Or.inr rfl) ?_
        refine ⟨_, rfl, rfl, ?_⟩
        first | exact (b01_t (Or.inl ⟨by simp, b01_ne c46, b01_ne c56⟩)).symm | (refine (b01_f (fun q => ?_)).symm; simp [mayF] at q; first | exact b01_e c46 q.1 | exact b01_e c56 q.2)
  by_cases w1_3 : c = 3
  · skip
    subst w1_3
    refine V_tableIn (off := 64) (tgt := 65) d_md_mayFollow_1 (by decide) (by decide) rfl (by decide) ?_
    refine V_aload_n d_md_mayFollow_65 rfl rfl ?_
    refine V_iload_n d_md_mayFollow_66 rfl rfl ?_
    refine V_iload_n d_md_mayFollow_67 rfl rfl ?_
    refine V_iconst (v := 2) d_md_mayFollow_68 (by decide) ?_
    refine V_callV (N := md_isKind) d_md_mayFollow_69 ml_md_142 mdf_md_isKind wi_md_isKind wz_md_isKind (sp_md_isKind G r ivs i hi _ _) r.obj ⟨_, rfl, rfl⟩ rfl rfl (by decide) (by decide) (Nat.le_of_ble_eq_true rfl) rfl rfl (kI fun r69 h69 ⟨e69, f69⟩ => ?_)
    subst e69 f69
    refine V_zreturn d_md_mayFollow_72 rfl (b01_or _) ?_
    exact ⟨_, rfl, rfl, b01_i (by simp [mayF])⟩
  by_cases w1_4 : c = 4
  · skip
    subst w1_4
    refine V_tableIn (off := 72) (tgt := 73) d_md_mayFollow_1 (by decide) (by decide) rfl (by decide) ?_
    refine V_aload_n d_md_mayFollow_73 rfl rfl ?_
    refine V_iload_n d_md_mayFollow_74 rfl rfl ?_
    refine V_iload_n d_md_mayFollow_75 rfl rfl ?_
    refine V_iconst (v := 2) d_md_mayFollow_76 (by decide) ?_
    refine V_callV (N := md_isKind) d_md_mayFollow_77 ml_md_142 mdf_md_isKind wi_md_isKind wz_md_isKind (sp_md_isKind G r ivs i hi _ _) r.obj ⟨_, rfl, rfl⟩ rfl rfl (by decide) (by decide) (Nat.le_of_ble_eq_true rfl) rfl rfl (kI fun r77 h77 ⟨e77, f77⟩ => ?_)
    subst e77 f77
    refine V_if_eq d_md_mayFollow_80 (fun c80 => ?_) (fun c80 => ?_)
    · skip
      refine V_iconst (v := 0) d_md_mayFollow_108 (by decide) ?_
      refine V_zreturn d_md_mayFollow_109 rfl (by first | exact Or.inl rfl | exact Or.inr rfl) ?_
      refine ⟨_, rfl, rfl, (b01_f (fun q => b01_e c80 ?_)).symm⟩
      simp [mayF] at q
      exact q.1
    · skip
      obtain ⟨j, hj, rfl, hk2⟩ := b01_ne c80
      obtain ⟨t, ht, htt⟩ := ivf.to hi hj (Or.inr hk2)
      refine V_aload_n d_md_mayFollow_83 rfl rfl ?_
      refine V_aload_n d_md_mayFollow_84 rfl rfl ?_
      refine V_getf d_md_mayFollow_85 fl_md_19 r.obj rfl ?_
      refine V_bipush (v := 8) d_md_mayFollow_88 (by decide) ?_
      refine V_iload_n d_md_mayFollow_90 rfl rfl ?_
      refine V_imul d_md_mayFollow_91 ?_
      refine V_iload_n d_md_mayFollow_92 rfl rfl ?_
      refine V_iadd d_md_mayFollow_93 ?_
      refine V_mald r d_md_mayFollow_94 (by first | with_reducible rfl | exact ix8 _ _ | exact ix6 _ _ | assumption) rfl rfl (by show _ < 80; omega) ?_
      rw [htt]
      refine V_iload d_md_mayFollow_95 rfl ?_
      refine V_iconst (v := 0) d_md_mayFollow_97 (by decide) ?_
      refine V_callV (N := md_isKind) d_md_mayFollow_98 ml_md_142 mdf_md_isKind wi_md_isKind wz_md_isKind (sp_md_isKind G r ivs t ht _ _) r.obj ⟨_, rfl, rfl⟩ rfl rfl (by decide) (by decide) (Nat.le_of_ble_eq_true rfl) rfl rfl (kI fun r98 h98 ⟨e98, f98⟩ => ?_)
      subst e98 f98
      refine V_if_eq d_md_mayFollow_101 (fun c101 => ?_) (fun c101 => ?_)
      · skip
        refine V_iconst (v := 0) d_md_mayFollow_108 (by decide) ?_
        refine V_zreturn d_md_mayFollow_109 rfl (by first | exact Or.inl rfl | exact Or.inr rfl) ?_
        refine ⟨_, rfl, rfl, (b01_f (fun q => b01_e c101 ?_)).symm⟩
        simp [mayF] at q
        obtain ⟨-, j2, q1, q2, t2, q3, q4, q5⟩ := q
        obtain rfl := nI_inj8 (by omega) (by omega) q2
        obtain rfl := nI_inj8 (by omega) (by omega) (htt.symm.trans q4)
        exact q5
      · skip
        refine V_iconst (v := 1) d_md_mayFollow_104 (by decide) ?_
        refine V_goto d_md_mayFollow_105 ?_
        refine V_zreturn d_md_mayFollow_109 rfl (by first | exact Or.inl rfl | exact Or.inr rfl) ?_
        exact ⟨_, rfl, rfl, (b01_t (Or.inr (Or.inr (Or.inl ⟨rfl, b01_ne c80, j, t, hj, rfl, ht, htt, b01_ne c101⟩)))).symm⟩
  by_cases w1_5 : c = 5
  · skip
    subst w1_5
    refine V_tableIn (off := 109) (tgt := 110) d_md_mayFollow_1 (by decide) (by decide) rfl (by decide) ?_
    refine V_iload_n d_md_mayFollow_110 rfl rfl ?_
    refine V_iconst (v := 0) d_md_mayFollow_111 (by decide) ?_
    refine V_aload_n d_md_mayFollow_112 rfl rfl ?_
    refine V_getf d_md_mayFollow_113 fl_md_13 r.obj rfl ?_
    refine V_iload_n d_md_mayFollow_116 rfl rfl ?_
    refine V_mald r d_md_mayFollow_117 (by first | with_reducible rfl | exact ix8 _ _ | exact ix6 _ _ | assumption) rfl rfl (by show _ < 10; omega) ?_
    refine V_iconst (v := 1) d_md_mayFollow_118 (by decide) ?_
    refine V_isub d_md_mayFollow_119 ?_
    refine V_callS (N := md_in) d_md_mayFollow_120 ml_md_114 mdf_md_in ws_md_in (sp_md_in G _ _ _ _) rfl rfl (by decide) (by decide) (Nat.le_of_ble_eq_true rfl) rfl rfl (kI fun r120 h120 ⟨e120, f120⟩ => ?_)
    subst e120 f120
    refine V_zreturn d_md_mayFollow_123 rfl (b01_or _) ?_
    exact ⟨_, rfl, rfl, b01_i (by simp [mayF])⟩
  refine V_tableOut (tgt := 124) d_md_mayFollow_1 (sw_out (n := 5) (fun k hk => by rcases (show k = 0 ∨ k = 1 ∨ k = 2 ∨ k = 3 ∨ k = 4 ∨ k = 5 by omega) with rfl | rfl | rfl | rfl | rfl | rfl; exact w1_0; exact w1_1; exact w1_2; exact w1_3; exact w1_4; exact w1_5)) (by decide) ?_
  refine V_iconst (v := 0) d_md_mayFollow_124 (by decide) ?_
  refine V_zreturn d_md_mayFollow_125 rfl (by first | exact Or.inl rfl | exact Or.inr rfl) ?_
  refine ⟨_, rfl, rfl, (b01_f ?_).symm⟩
  simp [mayF, *]
