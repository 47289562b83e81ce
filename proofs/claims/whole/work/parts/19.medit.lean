/-! pieces of the reference's edits: isReadOnly, isVetoed, wouldLoop, keeps, puts, notes, doneEnd -/
theorem ix7 (e : Nat) : (7 : Int32) * nI e = nI (7 * e) := by rw [show (7 : Int32) = nI 7 from rfl, pk_mul]
theorem ix71 (e k : Nat) : (7 : Int32) * nI e + 1 + nI k = nI (7 * e + 1 + k) := by rw [ix7, nI_1, nI_add]
def nW (s : Mem) : Nat := (s.1 25).toNatClampNeg
def wc (s : Mem) (w : Nat) : Nat := (s.2 30 w).toNatClampNeg
def IvW (s : Mem) : Prop := s.1 25 = nI (nW s) ∧ nW s ≤ 10 ∧ ∀ w, w < nW s → (∃ i, i < nS s ∧ s.2 26 w = nI i) ∧ (∃ j, j < 8 ∧ s.2 27 w = nI j) ∧ s.2 30 w = nI (wc s w) ∧ wc s w ≤ 40
theorem sp_md_isReadOnly (G : Gk) {h : Hp} {m : Nat} {am : Nat → Nat} {s : Mem} (r : RepM h m am s) (ivs : IvS s) (ivo : IvO s) (o f : Nat) (ho : o < nO s) (hf : f < nf s (sh s o)) (al : Int32) : Ct G md_isReadOnly [.ref m, .int (nI o), .int (nI f), .int al] h (pI fun r h' => h = h' ∧ r = b01 (0 < s.2 7 (8 * sh s o + f) &&& 2 ∧ (al ≠ 0 ∨ s.2 10 (8 * o + f) ≠ MISS))) := by
  have h10 := ivs.2.1
  have h60 := ivo.2.1
  obtain ⟨hs1, hs2⟩ := ivo.2.2 o ho
  obtain ⟨hf1, hf2⟩ := ivs.2.2.1 _ hs2
  refine Ct.ofL (M := md_isReadOnly) (lv := [some (.ref m), some (.int (nI o)), some (.int (nI f)), some (.int al)]) mdf_md_isReadOnly rfl (Nat.le_of_ble_eq_true rfl) rfl ?_
  refine V_aload_n d_md_isReadOnly_0 rfl rfl ?_
  refine V_getf d_md_isReadOnly_1 fl_md_28 r.obj rfl ?_
  refine V_aload_n d_md_isReadOnly_4 rfl rfl ?_
  refine V_iload_n d_md_isReadOnly_5 rfl rfl ?_
  refine V_iload_n d_md_isReadOnly_6 rfl rfl ?_
  refine V_callV (N := md_by) d_md_isReadOnly_7 ml_md_156 mdf_md_by wi_md_by wz_md_by (sp_md_by' G r o f (sh s o) (by omega) hs1) r.obj ⟨_, rfl, rfl⟩ rfl rfl (by decide) (by decide) (Nat.le_of_ble_eq_true rfl) rfl rfl (kI fun r7 h7 ⟨e7, f7⟩ => ?_)
  subst e7 f7
  refine V_mald r d_md_isReadOnly_10 (by first | with_reducible rfl | exact ix8 _ _ | exact ix6 _ _ | assumption) rfl rfl (by show _ < 80; omega) ?_
  refine V_iconst (v := 2) d_md_isReadOnly_11 (by decide) ?_
  refine V_iand d_md_isReadOnly_12 ?_
  refine V_if_le d_md_isReadOnly_13 (fun c13 => ?_) (fun c13 => ?_)
  · skip
    refine V_iconst (v := 0) d_md_isReadOnly_40 (by decide) ?_
    refine V_zreturn d_md_isReadOnly_41 rfl (by first | exact Or.inl rfl | exact Or.inr rfl) ?_
    exact ⟨_, rfl, rfl, (b01_f (fun q => absurd q.1 (Int32.not_lt.mpr c13))).symm⟩
  · skip
    refine V_iload_n d_md_isReadOnly_16 rfl rfl ?_
    refine V_if_ne d_md_isReadOnly_17 (fun c17 => ?_) (fun c17 => ?_)
    · skip
      refine V_iconst (v := 1) d_md_isReadOnly_36 (by decide) ?_
      refine V_goto d_md_isReadOnly_37 ?_
      refine V_zreturn d_md_isReadOnly_41 rfl (by first | exact Or.inl rfl | exact Or.inr rfl) ?_
      exact ⟨_, rfl, rfl, (b01_t ⟨Int32.not_le.mp c13, Or.inl c17⟩).symm⟩
    · skip
      refine V_aload_n d_md_isReadOnly_20 rfl rfl ?_
      refine V_getf d_md_isReadOnly_21 fl_md_34 r.obj rfl ?_
      refine V_aload_n d_md_isReadOnly_24 rfl rfl ?_
      refine V_iload_n d_md_isReadOnly_25 rfl rfl ?_
      refine V_iload_n d_md_isReadOnly_26 rfl rfl ?_
      refine V_callV (N := md_at) d_md_isReadOnly_27 ml_md_152 mdf_md_at wi_md_at wz_md_at (sp_md_at G _ _ _ _) r.obj ⟨_, rfl, rfl⟩ rfl rfl (by decide) (by decide) (Nat.le_of_ble_eq_true rfl) rfl rfl (kI fun r27 h27 ⟨e27, f27⟩ => ?_)
      subst e27 f27
      refine V_mald r d_md_isReadOnly_30 (by first | with_reducible rfl | exact ix8 _ _ | exact ix6 _ _ | assumption) rfl rfl (by show _ < 480; omega) ?_
      refine V_ldc d_md_isReadOnly_31 kc_md_129 ?_
      refine V_icmp_eq d_md_isReadOnly_33 (fun c33 => ?_) (fun c33 => ?_)
      · skip
        refine V_iconst (v := 0) d_md_isReadOnly_40 (by decide) ?_
        refine V_zreturn d_md_isReadOnly_41 rfl (by first | exact Or.inl rfl | exact Or.inr rfl) ?_
        exact ⟨_, rfl, rfl, (b01_f (fun q => q.2.elim (fun z => z c17) (fun z => z c33))).symm⟩
      · skip
        refine V_iconst (v := 1) d_md_isReadOnly_36 (by decide) ?_
        refine V_goto d_md_isReadOnly_37 ?_
        refine V_zreturn d_md_isReadOnly_41 rfl (by first | exact Or.inl rfl | exact Or.inr rfl) ?_
        exact ⟨_, rfl, rfl, (b01_t ⟨Int32.not_le.mp c13, Or.inr c33⟩).symm⟩
def seesW (s : Mem) (o f w : Nat) : Prop := s.2 27 w = nI f ∧ isOf s (nI (sh s o)) (s.2 26 w) = true
def vetM (s : Mem) (o f : Nat) (v : Int32) (n : Nat) : Prop := ∃ w, w < n ∧ s.2 28 w ≠ 0 ∧ seesW s o f w ∧ s.2 29 w < v
theorem lp_vet (G : Gk) {h : Hp} {m : Nat} {am : Nat → Nat} {s : Mem} (r : RepM h m am s) (ivs : IvS s) (ivo : IvO s) (ivw : IvW s) (o f : Nat) (ho : o < nO s) (v : Int32) : ∀ (n w : Nat), w ≤ nW s → nW s + 1 ≤ w + n → ¬ vetM s o f v w →
    V G md_isVetoed (pI fun r h' => h = h' ∧ r = b01 (vetM s o f v (nW s))) h 0 0 3 [some (.ref m), some (.int (nI o)), some (.int (nI f)), some (.int v), some (.int (nI w))] [] := by
  have h10 := ivw.2.1
  have h60 := ivo.2.1
  obtain ⟨hs1, hs2⟩ := ivo.2.2 o ho
  intro n
  induction n with
  | zero => intro w h1 h2; exact absurd h2 (by omega)
  | succ n ih =>
    intro w hq1 hq2 hno
    have step : ¬ (s.2 28 w ≠ 0 ∧ seesW s o f w ∧ s.2 29 w < v) → ¬ vetM s o f v (w + 1) := by
      rintro q ⟨u, q1, q2⟩
      rcases Nat.lt_succ_iff_lt_or_eq.mp q1 with z | rfl
      · exact hno ⟨u, z, q2⟩
      · exact q q2
    refine V_iload d_md_isVetoed_3 rfl ?_
    refine V_aload_n d_md_isVetoed_5 rfl rfl ?_
    refine V_getf d_md_isVetoed_6 fl_md_188 r.obj rfl ?_
    rw [ivw.1]
    refine V_icmp_ge d_md_isVetoed_9 (fun c9 => ?_) (fun c9 => ?_)
    · skip
      obtain rfl : w = nW s := by have := geN c9 (by omega); omega
      refine V_iconst (v := 0) d_md_isVetoed_72 (by decide) ?_
      refine V_zreturn d_md_isVetoed_73 rfl (by first | exact Or.inl rfl | exact Or.inr rfl) ?_
      exact ⟨_, rfl, rfl, (b01_f hno).symm⟩
    · skip
      have hlt := ltN c9 (by omega)
      refine V_aload_n d_md_isVetoed_12 rfl rfl ?_
      refine V_getf d_md_isVetoed_13 fl_md_67 r.obj rfl ?_
      refine V_iload d_md_isVetoed_16 rfl ?_
      refine V_mbld r d_md_isVetoed_18 (by first | with_reducible rfl | exact ix8 _ _ | exact ix6 _ _ | assumption) rfl rfl (by show _ < 10; omega) ?_
      refine V_if_eq d_md_isVetoed_19 (fun c19 => ?_) (fun c19 => ?_)
      · skip
        refine V_iinc (v := _) d_md_isVetoed_66 rfl rfl (by decide) rfl rfl ?_
        dsimp only [List.set]
        refine V_goto d_md_isVetoed_69 ?_
        rw [show Int32.ofInt 1 = 1 from rfl, nI_1]
        exact ih (w + 1) (by omega) (by omega) (step (fun q => q.1 c19))
      · skip
        refine V_aload_n d_md_isVetoed_22 rfl rfl ?_
        refine V_getf d_md_isVetoed_23 fl_md_64 r.obj rfl ?_
        refine V_iload d_md_isVetoed_26 rfl ?_
        refine V_mald r d_md_isVetoed_28 (by first | with_reducible rfl | exact ix8 _ _ | exact ix6 _ _ | assumption) rfl rfl (by show _ < 10; omega) ?_
        refine V_iload_n d_md_isVetoed_29 rfl rfl ?_
        refine V_icmp_ne d_md_isVetoed_30 (fun c30 => ?_) (fun c30 => ?_)
        · skip
          refine V_iinc (v := _) d_md_isVetoed_66 rfl rfl (by decide) rfl rfl ?_
          dsimp only [List.set]
          refine V_goto d_md_isVetoed_69 ?_
          rw [show Int32.ofInt 1 = 1 from rfl, nI_1]
          exact ih (w + 1) (by omega) (by omega) (step (fun q => c30 q.2.1.1))
        · skip
          refine V_aload_n d_md_isVetoed_33 rfl rfl ?_
          refine V_aload_n d_md_isVetoed_34 rfl rfl ?_
          refine V_getf d_md_isVetoed_35 fl_md_31 r.obj rfl ?_
          refine V_iload_n d_md_isVetoed_38 rfl rfl ?_
          refine V_mald r d_md_isVetoed_39 (by first | with_reducible rfl | exact ix8 _ _ | exact ix6 _ _ | assumption) rfl rfl (by show _ < 60; omega) ?_
          rw [hs1]
          refine V_aload_n d_md_isVetoed_40 rfl rfl ?_
          refine V_getf d_md_isVetoed_41 fl_md_61 r.obj rfl ?_
          refine V_iload d_md_isVetoed_44 rfl ?_
          refine V_mald r d_md_isVetoed_46 (by first | with_reducible rfl | exact ix8 _ _ | exact ix6 _ _ | assumption) rfl rfl (by show _ < 10; omega) ?_
          refine V_callV (N := md_isOf) d_md_isVetoed_47 ml_md_191 mdf_md_isOf wi_md_isOf wz_md_isOf (sp_md_isOf G r ivs _ _ (Or.inr ⟨sh s o, hs2, rfl⟩)) r.obj ⟨_, rfl, rfl⟩ rfl rfl (by decide) (by decide) (Nat.le_of_ble_eq_true rfl) rfl rfl (kI fun r47 h47 ⟨e47, f47⟩ => ?_)
          subst e47 f47
          refine V_if_eq d_md_isVetoed_50 (fun c50 => ?_) (fun c50 => ?_)
          · skip
            refine V_iinc (v := _) d_md_isVetoed_66 rfl rfl (by decide) rfl rfl ?_
            dsimp only [List.set]
            refine V_goto d_md_isVetoed_69 ?_
            rw [show Int32.ofInt 1 = 1 from rfl, nI_1]
            exact ih (w + 1) (by omega) (by omega) (step (fun q => b01_e c50 q.2.1.2))
          · skip
            refine V_iload_n d_md_isVetoed_53 rfl rfl ?_
            refine V_aload_n d_md_isVetoed_54 rfl rfl ?_
            refine V_getf d_md_isVetoed_55 fl_md_71 r.obj rfl ?_
            refine V_iload d_md_isVetoed_58 rfl ?_
            refine V_mald r d_md_isVetoed_60 (by first | with_reducible rfl | exact ix8 _ _ | exact ix6 _ _ | assumption) rfl rfl (by show _ < 10; omega) ?_
            refine V_icmp_le d_md_isVetoed_61 (fun c61 => ?_) (fun c61 => ?_)
            · skip
              refine V_iinc (v := _) d_md_isVetoed_66 rfl rfl (by decide) rfl rfl ?_
              dsimp only [List.set]
              refine V_goto d_md_isVetoed_69 ?_
              rw [show Int32.ofInt 1 = 1 from rfl, nI_1]
              exact ih (w + 1) (by omega) (by omega) (step (fun q => absurd q.2.2 (Int32.not_lt.mpr c61)))
            · skip
              refine V_iconst (v := 1) d_md_isVetoed_64 (by decide) ?_
              refine V_zreturn d_md_isVetoed_65 rfl (by first | exact Or.inl rfl | exact Or.inr rfl) ?_
              exact ⟨_, rfl, rfl, (b01_t ⟨w, hlt, c19, ⟨c30, b01_ne c50⟩, Int32.not_le.mp c61⟩).symm⟩
theorem sp_md_isVetoed (G : Gk) {h : Hp} {m : Nat} {am : Nat → Nat} {s : Mem} (r : RepM h m am s) (ivs : IvS s) (ivo : IvO s) (ivw : IvW s) (o f : Nat) (ho : o < nO s) (v : Int32) : Ct G md_isVetoed [.ref m, .int (nI o), .int (nI f), .int v] h (pI fun r h' => h = h' ∧ r = b01 (vetM s o f v (nW s))) := by
  refine Ct.ofL (M := md_isVetoed) (lv := [some (.ref m), some (.int (nI o)), some (.int (nI f)), some (.int v), none]) mdf_md_isVetoed rfl (Nat.le_of_ble_eq_true rfl) rfl ?_
  refine V_iconst (v := 0) d_md_isVetoed_0 (by decide) ?_
  refine V_istore d_md_isVetoed_1 (by decide) rfl rfl ?_
  dsimp only [List.set]
  exact lp_vet G r ivs ivo ivw o f ho v (nW s + 1) 0 (by omega) (by omega) (fun ⟨w, q, _⟩ => by omega)
theorem sp_md_wouldLoop (G : Gk) {h : Hp} {m : Nat} {am : Nat → Nat} {s : Mem} (r : RepM h m am s) (ivs : IvS s) (ivo : IvO s) (ivv : IvV s) (o x u : Nat) (ho : o < nO s) (hx : x < 80) (hu : u < nO s) : Ct G md_wouldLoop [.ref m, .int (nI o), .int (nI x), .int (nI u)] h
    (pI fun r h' => (Mod h m am h' s ∨ Mod h m am h' (sB s (heldB s u))) ∧ r = b01 (s.2 7 x &&& 4 = 0 ∧ (o = u ∨ (heldB s u).2.2 o ≠ -1))) := by
  have h60 := ivo.2.1
  refine Ct.ofL (M := md_wouldLoop) (lv := [some (.ref m), some (.int (nI o)), some (.int (nI x)), some (.int (nI u))]) mdf_md_wouldLoop rfl (Nat.le_of_ble_eq_true rfl) rfl ?_
  refine V_aload_n d_md_wouldLoop_0 rfl rfl ?_
  refine V_getf d_md_wouldLoop_1 fl_md_28 r.obj rfl ?_
  refine V_iload_n d_md_wouldLoop_4 rfl rfl ?_
  refine V_mald r d_md_wouldLoop_5 (by first | with_reducible rfl | exact ix8 _ _ | exact ix6 _ _ | assumption) rfl rfl (by show _ < 80; omega) ?_
  refine V_iconst (v := 4) d_md_wouldLoop_6 (by decide) ?_
  refine V_iand d_md_wouldLoop_7 ?_
  refine V_if_ne d_md_wouldLoop_8 (fun c8 => ?_) (fun c8 => ?_)
  · skip
    refine V_iconst (v := 0) d_md_wouldLoop_29 (by decide) ?_
    refine V_zreturn d_md_wouldLoop_30 rfl (by first | exact Or.inl rfl | exact Or.inr rfl) ?_
    exact ⟨_, rfl, Or.inl (Mod.rf r), (b01_f (fun q => c8 q.1)).symm⟩
  · skip
    refine V_iload_n d_md_wouldLoop_11 rfl rfl ?_
    refine V_iload_n d_md_wouldLoop_12 rfl rfl ?_
    refine V_icmp_eq d_md_wouldLoop_13 (fun c13 => ?_) (fun c13 => ?_)
    · skip
      refine V_iconst (v := 1) d_md_wouldLoop_25 (by decide) ?_
      refine V_goto d_md_wouldLoop_26 ?_
      refine V_zreturn d_md_wouldLoop_30 rfl (by first | exact Or.inl rfl | exact Or.inr rfl) ?_
      exact ⟨_, rfl, Or.inl (Mod.rf r), (b01_t ⟨c8, Or.inl (nI_inj8 (by omega) (by omega) c13)⟩).symm⟩
    · skip
      refine V_aload_n d_md_wouldLoop_16 rfl rfl ?_
      refine V_iload_n d_md_wouldLoop_17 rfl rfl ?_
      refine V_iload_n d_md_wouldLoop_18 rfl rfl ?_
      refine V_callV (N := md_isHeld) d_md_wouldLoop_19 ml_md_185 mdf_md_isHeld wi_md_isHeld wz_md_isHeld (sp_md_isHeld G r ivs ivo ivv u o hu ho) r.obj ⟨_, rfl, rfl⟩ rfl rfl (by decide) (by decide) (Nat.le_of_ble_eq_true rfl) rfl rfl (kI fun r19 h19 ⟨M19, e19⟩ => ?_)
      subst e19
      refine V_if_eq d_md_wouldLoop_22 (fun c22 => ?_) (fun c22 => ?_)
      · skip
        refine V_iconst (v := 0) d_md_wouldLoop_29 (by decide) ?_
        refine V_zreturn d_md_wouldLoop_30 rfl (by first | exact Or.inl rfl | exact Or.inr rfl) ?_
        exact ⟨_, rfl, Or.inr M19, (b01_f (fun q => q.2.elim (fun z => c13 (by rw [z])) (fun z => b01_e c22 z))).symm⟩
      · skip
        refine V_iconst (v := 1) d_md_wouldLoop_25 (by decide) ?_
        refine V_goto d_md_wouldLoop_26 ?_
        refine V_zreturn d_md_wouldLoop_30 rfl (by first | exact Or.inl rfl | exact Or.inr rfl) ?_
        exact ⟨_, rfl, Or.inr M19, (b01_t ⟨c8, Or.inr (b01_ne c22)⟩).symm⟩
def KeepE (s : Mem) (j e x n : Nat) (t : Mem) : Prop := t.1 = s.1 ∧ (∀ q, q ≠ j → t.2 q = s.2 q) ∧ (∀ i, i < 7 * e ∨ 7 * e + 7 ≤ i → t.2 j i = s.2 j i) ∧ t.2 j (7 * e) = s.2 10 x ∧ ∀ k, k < n → t.2 j (7 * e + 1 + k) = s.2 11 (6 * x + k)
def PutE (s : Mem) (j e x n : Nat) (t : Mem) : Prop := t.1 = s.1 ∧ (∀ q, q ≠ 10 → q ≠ 11 → t.2 q = s.2 q) ∧ t.2 10 = upd (s.2 10) x (s.2 j (7 * e)) ∧ (∀ i, i < 6 * x ∨ 6 * x + 6 ≤ i → t.2 11 i = s.2 11 i) ∧ ∀ k, k < n → t.2 11 (6 * x + k) = s.2 j (7 * e + 1 + k)
theorem lp_keeps18 (G : Gk) {m : Nat} {am : Nat → Nat} {s : Mem} {h0 : Hp} (e x : Nat) (he : e < 700) (hx : x < 480) : ∀ (n k : Nat) (h : Hp) (t : Mem), k ≤ 6 → 7 ≤ k + n → Mod h0 m am h t → KeepE s 18 e x k t →
    V G md_keeps (pN fun h' => ∃ t, Mod h0 m am h' t ∧ KeepE s 18 e x 6 t) h 0 0 15 [some (.ref m), some (.ref (am 18)), some (.int (nI e)), some (.int (nI x)), some (.int (nI k))] [] := by
  intro n
  induction n with
  | zero => intro k h t h1 h2; exact absurd h2 (by omega)
  | succ n ih =>
    intro k h t hq1 hq2 hM hs
    have r := hM.1
    refine V_iload d_md_keeps_15 rfl ?_
    refine V_bipush (v := 6) d_md_keeps_17 (by decide) ?_
    refine V_icmp_ge d_md_keeps_19 (fun c19 => ?_) (fun c19 => ?_)
    · skip
      obtain rfl : k = 6 := by have : 6 ≤ k := geN c19 (by decide); omega
      refine V_return d_md_keeps_51 rfl ?_
      exact ⟨rfl, t, hM, hs⟩
    · skip
      have hlt : k < 6 := ltN c19 (by omega)
      refine V_aload_n d_md_keeps_22 rfl rfl ?_
      refine V_bipush (v := 7) d_md_keeps_23 (by decide) ?_
      refine V_iload_n d_md_keeps_25 rfl rfl ?_
      refine V_imul d_md_keeps_26 ?_
      refine V_iconst (v := 1) d_md_keeps_27 (by decide) ?_
      refine V_iadd d_md_keeps_28 ?_
      refine V_iload d_md_keeps_29 rfl ?_
      refine V_iadd d_md_keeps_31 ?_
      refine V_aload_n d_md_keeps_32 rfl rfl ?_
      refine V_getf d_md_keeps_33 fl_md_37 r.obj rfl ?_
      refine V_bipush (v := 6) d_md_keeps_36 (by decide) ?_
      refine V_iload_n d_md_keeps_38 rfl rfl ?_
      refine V_imul d_md_keeps_39 ?_
      refine V_iload d_md_keeps_40 rfl ?_
      refine V_iadd d_md_keeps_42 ?_
      refine V_mald r d_md_keeps_43 (by first | with_reducible rfl | exact ix8 _ _ | exact ix6 _ _ | assumption) rfl rfl (by show _ < 2880; omega) ?_
      refine V_mast (j := 18) r d_md_keeps_44 (ix71 e k) rfl rfl (by show _ < 4900; omega) (fun h44 M44 => ?_)
      refine V_iinc (v := _) d_md_keeps_45 rfl rfl (by decide) rfl rfl ?_
      dsimp only [List.set]
      refine V_goto d_md_keeps_48 ?_
      rw [show Int32.ofInt 1 = 1 from rfl, nI_1]
      refine ih (k + 1) _ _ (by omega) (by omega) (hM.trans M44) ⟨hs.1, fun q hq => by rw [mA_2n _ _ _ hq]; exact hs.2.1 q hq, fun i hi => by rw [mA_2s, pk_un (by omega)]; exact hs.2.2.1 i hi, by rw [mA_2s, pk_un (by omega)]; exact hs.2.2.2.1, fun i hi => ?_⟩
      rw [mA_2s]
      by_cases z : i = k
      · subst z; rw [pk_us, hs.2.1 11 (by decide)]
      · rw [pk_un (by omega)]; exact hs.2.2.2.2 i (by omega)
theorem sp_md_keeps18 (G : Gk) {h : Hp} {m : Nat} {am : Nat → Nat} {s : Mem} (r : RepM h m am s) (e x : Nat) (he : e < 700) (hx : x < 480) : Ct G md_keeps [.ref m, .ref (am 18), .int (nI e), .int (nI x)] h (pN fun h' => ∃ t, Mod h m am h' t ∧ KeepE s 18 e x 6 t) := by
  refine Ct.ofL (M := md_keeps) (lv := [some (.ref m), some (.ref (am 18)), some (.int (nI e)), some (.int (nI x)), none]) mdf_md_keeps rfl (Nat.le_of_ble_eq_true rfl) rfl ?_
  refine V_aload_n d_md_keeps_0 rfl rfl ?_
  refine V_bipush (v := 7) d_md_keeps_1 (by decide) ?_
  refine V_iload_n d_md_keeps_3 rfl rfl ?_
  refine V_imul d_md_keeps_4 ?_
  refine V_aload_n d_md_keeps_5 rfl rfl ?_
  refine V_getf d_md_keeps_6 fl_md_34 r.obj rfl ?_
  refine V_iload_n d_md_keeps_9 rfl rfl ?_
  refine V_mald r d_md_keeps_10 (by first | with_reducible rfl | exact ix8 _ _ | exact ix6 _ _ | assumption) rfl rfl (by show _ < 480; omega) ?_
  refine V_mast (j := 18) r d_md_keeps_11 (ix7 e) rfl rfl (by show _ < 4900; omega) (fun h11 M11 => ?_)
  refine V_iconst (v := 0) d_md_keeps_12 (by decide) ?_
  refine V_istore d_md_keeps_13 (by decide) rfl rfl ?_
  dsimp only [List.set]
  refine lp_keeps18 G e x he hx 7 0 _ _ (by omega) (by omega) M11 ⟨rfl, fun q hq => mA_2n _ _ _ hq, fun i hi => by rw [mA_2s, pk_un (by omega)], by rw [mA_2s, pk_us], fun i hi => by omega⟩
theorem lp_puts18 (G : Gk) {m : Nat} {am : Nat → Nat} {s : Mem} {h0 : Hp} (e x : Nat) (he : e < 700) (hx : x < 480) : ∀ (n k : Nat) (h : Hp) (t : Mem), k ≤ 6 → 7 ≤ k + n → Mod h0 m am h t → PutE s 18 e x k t →
    V G md_puts (pN fun h' => ∃ t, Mod h0 m am h' t ∧ PutE s 18 e x 6 t) h 0 0 15 [some (.ref m), some (.ref (am 18)), some (.int (nI e)), some (.int (nI x)), some (.int (nI k))] [] := by
  intro n
  induction n with
  | zero => intro k h t h1 h2; exact absurd h2 (by omega)
  | succ n ih =>
    intro k h t hq1 hq2 hM hs
    have r := hM.1
    refine V_iload d_md_puts_15 rfl ?_
    refine V_bipush (v := 6) d_md_puts_17 (by decide) ?_
    refine V_icmp_ge d_md_puts_19 (fun c19 => ?_) (fun c19 => ?_)
    · skip
      obtain rfl : k = 6 := by have : 6 ≤ k := geN c19 (by decide); omega
      refine V_return d_md_puts_51 rfl ?_
      exact ⟨rfl, t, hM, hs⟩
    · skip
      have hlt : k < 6 := ltN c19 (by omega)
      refine V_aload_n d_md_puts_22 rfl rfl ?_
      refine V_getf d_md_puts_23 fl_md_37 r.obj rfl ?_
      refine V_bipush (v := 6) d_md_puts_26 (by decide) ?_
      refine V_iload_n d_md_puts_28 rfl rfl ?_
      refine V_imul d_md_puts_29 ?_
      refine V_iload d_md_puts_30 rfl ?_
      refine V_iadd d_md_puts_32 ?_
      refine V_aload_n d_md_puts_33 rfl rfl ?_
      refine V_bipush (v := 7) d_md_puts_34 (by decide) ?_
      refine V_iload_n d_md_puts_36 rfl rfl ?_
      refine V_imul d_md_puts_37 ?_
      refine V_iconst (v := 1) d_md_puts_38 (by decide) ?_
      refine V_iadd d_md_puts_39 ?_
      refine V_iload d_md_puts_40 rfl ?_
      refine V_iadd d_md_puts_42 ?_
      refine V_mald (j := 18) r d_md_puts_43 (ix71 e k) rfl rfl (by show _ < 4900; omega) ?_
      rw [hs.2.1 18 (by decide) (by decide)]
      refine V_mast r d_md_puts_44 (by first | with_reducible rfl | exact ix8 _ _ | exact ix6 _ _ | assumption) rfl rfl (by show _ < 2880; omega) (fun h44 M44 => ?_)
      have R44 := M44.1
      refine V_iinc (v := _) d_md_puts_45 rfl rfl (by decide) rfl rfl ?_
      dsimp only [List.set]
      refine V_goto d_md_puts_48 ?_
      rw [show Int32.ofInt 1 = 1 from rfl, nI_1]
      refine ih (k + 1) _ _ (by omega) (by omega) (hM.trans M44) ⟨hs.1, fun q h1 h2 => by rw [mA_2n _ _ _ h2]; exact hs.2.1 q h1 h2, by rw [mA_2n _ _ _ (by decide)]; exact hs.2.2.1, fun i hi => by rw [mA_2s, pk_un (by omega)]; exact hs.2.2.2.1 i hi, fun i hi => ?_⟩
      rw [mA_2s]
      by_cases z : i = k
      · subst z; rw [pk_us]
      · rw [pk_un (by omega)]; exact hs.2.2.2.2 i (by omega)
theorem sp_md_puts18 (G : Gk) {h : Hp} {m : Nat} {am : Nat → Nat} {s : Mem} (r : RepM h m am s) (e x : Nat) (he : e < 700) (hx : x < 480) : Ct G md_puts [.ref m, .ref (am 18), .int (nI e), .int (nI x)] h (pN fun h' => ∃ t, Mod h m am h' t ∧ PutE s 18 e x 6 t) := by
  refine Ct.ofL (M := md_puts) (lv := [some (.ref m), some (.ref (am 18)), some (.int (nI e)), some (.int (nI x)), none]) mdf_md_puts rfl (Nat.le_of_ble_eq_true rfl) rfl ?_
  refine V_aload_n d_md_puts_0 rfl rfl ?_
  refine V_getf d_md_puts_1 fl_md_34 r.obj rfl ?_
  refine V_iload_n d_md_puts_4 rfl rfl ?_
  refine V_aload_n d_md_puts_5 rfl rfl ?_
  refine V_bipush (v := 7) d_md_puts_6 (by decide) ?_
  refine V_iload_n d_md_puts_8 rfl rfl ?_
  refine V_imul d_md_puts_9 ?_
  refine V_mald (j := 18) r d_md_puts_10 (ix7 e) rfl rfl (by show _ < 4900; omega) ?_
  refine V_mast r d_md_puts_11 (by first | with_reducible rfl | exact ix8 _ _ | exact ix6 _ _ | assumption) rfl rfl (by show _ < 480; omega) (fun h11 M11 => ?_)
  have R11 := M11.1
  refine V_iconst (v := 0) d_md_puts_12 (by decide) ?_
  refine V_istore d_md_puts_13 (by decide) rfl rfl ?_
  dsimp only [List.set]
  refine lp_puts18 G e x he hx 7 0 _ _ (by omega) (by omega) M11 ⟨rfl, fun q h1 h2 => mA_2n _ _ _ h1, mA_2s _ _ _ _, fun i hi => by rw [mA_2n _ _ _ (by decide)], fun i hi => by omega⟩
theorem lp_keeps19 (G : Gk) {m : Nat} {am : Nat → Nat} {s : Mem} {h0 : Hp} (e x : Nat) (he : e < 700) (hx : x < 480) : ∀ (n k : Nat) (h : Hp) (t : Mem), k ≤ 6 → 7 ≤ k + n → Mod h0 m am h t → KeepE s 19 e x k t →
    V G md_keeps (pN fun h' => ∃ t, Mod h0 m am h' t ∧ KeepE s 19 e x 6 t) h 0 0 15 [some (.ref m), some (.ref (am 19)), some (.int (nI e)), some (.int (nI x)), some (.int (nI k))] [] := by
  intro n
  induction n with
  | zero => intro k h t h1 h2; exact absurd h2 (by omega)
  | succ n ih =>
    intro k h t hq1 hq2 hM hs
    have r := hM.1
    refine V_iload d_md_keeps_15 rfl ?_
    refine V_bipush (v := 6) d_md_keeps_17 (by decide) ?_
    refine V_icmp_ge d_md_keeps_19 (fun c19 => ?_) (fun c19 => ?_)
    · skip
      obtain rfl : k = 6 := by have : 6 ≤ k := geN c19 (by decide); omega
      refine V_return d_md_keeps_51 rfl ?_
      exact ⟨rfl, t, hM, hs⟩
    · skip
      have hlt : k < 6 := ltN c19 (by omega)
      refine V_aload_n d_md_keeps_22 rfl rfl ?_
      refine V_bipush (v := 7) d_md_keeps_23 (by decide) ?_
      refine V_iload_n d_md_keeps_25 rfl rfl ?_
      refine V_imul d_md_keeps_26 ?_
      refine V_iconst (v := 1) d_md_keeps_27 (by decide) ?_
      refine V_iadd d_md_keeps_28 ?_
      refine V_iload d_md_keeps_29 rfl ?_
      refine V_iadd d_md_keeps_31 ?_
      refine V_aload_n d_md_keeps_32 rfl rfl ?_
      refine V_getf d_md_keeps_33 fl_md_37 r.obj rfl ?_
      refine V_bipush (v := 6) d_md_keeps_36 (by decide) ?_
      refine V_iload_n d_md_keeps_38 rfl rfl ?_
      refine V_imul d_md_keeps_39 ?_
      refine V_iload d_md_keeps_40 rfl ?_
      refine V_iadd d_md_keeps_42 ?_
      refine V_mald r d_md_keeps_43 (by first | with_reducible rfl | exact ix8 _ _ | exact ix6 _ _ | assumption) rfl rfl (by show _ < 2880; omega) ?_
      refine V_mast (j := 19) r d_md_keeps_44 (ix71 e k) rfl rfl (by show _ < 4900; omega) (fun h44 M44 => ?_)
      refine V_iinc (v := _) d_md_keeps_45 rfl rfl (by decide) rfl rfl ?_
      dsimp only [List.set]
      refine V_goto d_md_keeps_48 ?_
      rw [show Int32.ofInt 1 = 1 from rfl, nI_1]
      refine ih (k + 1) _ _ (by omega) (by omega) (hM.trans M44) ⟨hs.1, fun q hq => by rw [mA_2n _ _ _ hq]; exact hs.2.1 q hq, fun i hi => by rw [mA_2s, pk_un (by omega)]; exact hs.2.2.1 i hi, by rw [mA_2s, pk_un (by omega)]; exact hs.2.2.2.1, fun i hi => ?_⟩
      rw [mA_2s]
      by_cases z : i = k
      · subst z; rw [pk_us, hs.2.1 11 (by decide)]
      · rw [pk_un (by omega)]; exact hs.2.2.2.2 i (by omega)
theorem sp_md_keeps19 (G : Gk) {h : Hp} {m : Nat} {am : Nat → Nat} {s : Mem} (r : RepM h m am s) (e x : Nat) (he : e < 700) (hx : x < 480) : Ct G md_keeps [.ref m, .ref (am 19), .int (nI e), .int (nI x)] h (pN fun h' => ∃ t, Mod h m am h' t ∧ KeepE s 19 e x 6 t) := by
  refine Ct.ofL (M := md_keeps) (lv := [some (.ref m), some (.ref (am 19)), some (.int (nI e)), some (.int (nI x)), none]) mdf_md_keeps rfl (Nat.le_of_ble_eq_true rfl) rfl ?_
  refine V_aload_n d_md_keeps_0 rfl rfl ?_
  refine V_bipush (v := 7) d_md_keeps_1 (by decide) ?_
  refine V_iload_n d_md_keeps_3 rfl rfl ?_
  refine V_imul d_md_keeps_4 ?_
  refine V_aload_n d_md_keeps_5 rfl rfl ?_
  refine V_getf d_md_keeps_6 fl_md_34 r.obj rfl ?_
  refine V_iload_n d_md_keeps_9 rfl rfl ?_
  refine V_mald r d_md_keeps_10 (by first | with_reducible rfl | exact ix8 _ _ | exact ix6 _ _ | assumption) rfl rfl (by show _ < 480; omega) ?_
  refine V_mast (j := 19) r d_md_keeps_11 (ix7 e) rfl rfl (by show _ < 4900; omega) (fun h11 M11 => ?_)
  refine V_iconst (v := 0) d_md_keeps_12 (by decide) ?_
  refine V_istore d_md_keeps_13 (by decide) rfl rfl ?_
  dsimp only [List.set]
  refine lp_keeps19 G e x he hx 7 0 _ _ (by omega) (by omega) M11 ⟨rfl, fun q hq => mA_2n _ _ _ hq, fun i hi => by rw [mA_2s, pk_un (by omega)], by rw [mA_2s, pk_us], fun i hi => by omega⟩
theorem lp_puts19 (G : Gk) {m : Nat} {am : Nat → Nat} {s : Mem} {h0 : Hp} (e x : Nat) (he : e < 700) (hx : x < 480) : ∀ (n k : Nat) (h : Hp) (t : Mem), k ≤ 6 → 7 ≤ k + n → Mod h0 m am h t → PutE s 19 e x k t →
    V G md_puts (pN fun h' => ∃ t, Mod h0 m am h' t ∧ PutE s 19 e x 6 t) h 0 0 15 [some (.ref m), some (.ref (am 19)), some (.int (nI e)), some (.int (nI x)), some (.int (nI k))] [] := by
  intro n
  induction n with
  | zero => intro k h t h1 h2; exact absurd h2 (by omega)
  | succ n ih =>
    intro k h t hq1 hq2 hM hs
    have r := hM.1
    refine V_iload d_md_puts_15 rfl ?_
    refine V_bipush (v := 6) d_md_puts_17 (by decide) ?_
    refine V_icmp_ge d_md_puts_19 (fun c19 => ?_) (fun c19 => ?_)
    · skip
      obtain rfl : k = 6 := by have : 6 ≤ k := geN c19 (by decide); omega
      refine V_return d_md_puts_51 rfl ?_
      exact ⟨rfl, t, hM, hs⟩
    · skip
      have hlt : k < 6 := ltN c19 (by omega)
      refine V_aload_n d_md_puts_22 rfl rfl ?_
      refine V_getf d_md_puts_23 fl_md_37 r.obj rfl ?_
      refine V_bipush (v := 6) d_md_puts_26 (by decide) ?_
      refine V_iload_n d_md_puts_28 rfl rfl ?_
      refine V_imul d_md_puts_29 ?_
      refine V_iload d_md_puts_30 rfl ?_
      refine V_iadd d_md_puts_32 ?_
      refine V_aload_n d_md_puts_33 rfl rfl ?_
      refine V_bipush (v := 7) d_md_puts_34 (by decide) ?_
      refine V_iload_n d_md_puts_36 rfl rfl ?_
      refine V_imul d_md_puts_37 ?_
      refine V_iconst (v := 1) d_md_puts_38 (by decide) ?_
      refine V_iadd d_md_puts_39 ?_
      refine V_iload d_md_puts_40 rfl ?_
      refine V_iadd d_md_puts_42 ?_
      refine V_mald (j := 19) r d_md_puts_43 (ix71 e k) rfl rfl (by show _ < 4900; omega) ?_
      rw [hs.2.1 19 (by decide) (by decide)]
      refine V_mast r d_md_puts_44 (by first | with_reducible rfl | exact ix8 _ _ | exact ix6 _ _ | assumption) rfl rfl (by show _ < 2880; omega) (fun h44 M44 => ?_)
      have R44 := M44.1
      refine V_iinc (v := _) d_md_puts_45 rfl rfl (by decide) rfl rfl ?_
      dsimp only [List.set]
      refine V_goto d_md_puts_48 ?_
      rw [show Int32.ofInt 1 = 1 from rfl, nI_1]
      refine ih (k + 1) _ _ (by omega) (by omega) (hM.trans M44) ⟨hs.1, fun q h1 h2 => by rw [mA_2n _ _ _ h2]; exact hs.2.1 q h1 h2, by rw [mA_2n _ _ _ (by decide)]; exact hs.2.2.1, fun i hi => by rw [mA_2s, pk_un (by omega)]; exact hs.2.2.2.1 i hi, fun i hi => ?_⟩
      rw [mA_2s]
      by_cases z : i = k
      · subst z; rw [pk_us]
      · rw [pk_un (by omega)]; exact hs.2.2.2.2 i (by omega)
theorem sp_md_puts19 (G : Gk) {h : Hp} {m : Nat} {am : Nat → Nat} {s : Mem} (r : RepM h m am s) (e x : Nat) (he : e < 700) (hx : x < 480) : Ct G md_puts [.ref m, .ref (am 19), .int (nI e), .int (nI x)] h (pN fun h' => ∃ t, Mod h m am h' t ∧ PutE s 19 e x 6 t) := by
  refine Ct.ofL (M := md_puts) (lv := [some (.ref m), some (.ref (am 19)), some (.int (nI e)), some (.int (nI x)), none]) mdf_md_puts rfl (Nat.le_of_ble_eq_true rfl) rfl ?_
  refine V_aload_n d_md_puts_0 rfl rfl ?_
  refine V_getf d_md_puts_1 fl_md_34 r.obj rfl ?_
  refine V_iload_n d_md_puts_4 rfl rfl ?_
  refine V_aload_n d_md_puts_5 rfl rfl ?_
  refine V_bipush (v := 7) d_md_puts_6 (by decide) ?_
  refine V_iload_n d_md_puts_8 rfl rfl ?_
  refine V_imul d_md_puts_9 ?_
  refine V_mald (j := 19) r d_md_puts_10 (ix7 e) rfl rfl (by show _ < 4900; omega) ?_
  refine V_mast r d_md_puts_11 (by first | with_reducible rfl | exact ix8 _ _ | exact ix6 _ _ | assumption) rfl rfl (by show _ < 480; omega) (fun h11 M11 => ?_)
  have R11 := M11.1
  refine V_iconst (v := 0) d_md_puts_12 (by decide) ?_
  refine V_istore d_md_puts_13 (by decide) rfl rfl ?_
  dsimp only [List.set]
  refine lp_puts19 G e x he hx 7 0 _ _ (by omega) (by omega) M11 ⟨rfl, fun q h1 h2 => mA_2n _ _ _ h1, mA_2s _ _ _ _, fun i hi => by rw [mA_2n _ _ _ (by decide)], fun i hi => by omega⟩
