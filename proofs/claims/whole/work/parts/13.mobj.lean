/-! the reference's objects -/
def hasF (s : Mem) (v f : Int32) : Prop := ∃ o j, o < nO s ∧ v = nI o ∧ j < nf s (sh s o) ∧ f = nI j
theorem sp_md_hasField (G : Gk) {h : Hp} {m : Nat} {am : Nat → Nat} {s : Mem} (r : RepM h m am s) (ivs : IvS s) (ivo : IvO s) (v f : Int32) : Ct G md_hasField [.ref m, .int v, .int f] h (pI fun r h' => h = h' ∧ r = b01 (hasF s v f)) := by
  have h10 := ivs.2.1
  have h60 := ivo.2.1
  refine Ct.ofL (M := md_hasField) (lv := [some (.ref m), some (.int v), some (.int f)]) mdf_md_hasField rfl (Nat.le_of_ble_eq_true rfl) rfl ?_
  refine V_aload_n d_md_hasField_0 rfl rfl ?_
  refine V_iload_n d_md_hasField_1 rfl rfl ?_
  refine V_callV (N := md_isObject) d_md_hasField_2 ml_md_149 mdf_md_isObject wi_md_isObject wz_md_isObject (sp_md_isObject G r _) r.obj ⟨_, rfl, rfl⟩ rfl rfl (by decide) (by decide) (Nat.le_of_ble_eq_true rfl) rfl rfl (kI fun r2 h2 ⟨e2, f2⟩ => ?_)
  subst e2 f2
  refine V_if_eq d_md_hasField_5 (fun c5 => ?_) (fun c5 => ?_)
  · skip
    refine V_iconst (v := 0) d_md_hasField_33 (by decide) ?_
    refine V_zreturn d_md_hasField_34 rfl (by first | exact Or.inl rfl | exact Or.inr rfl) ?_
    refine ⟨_, rfl, rfl, (b01_f ?_).symm⟩
    rintro ⟨o, j, q1, q2, -⟩
    exact isOb.no ivo (b01_e c5) o q1 q2
  · skip
    obtain ⟨o, ho, rfl⟩ := isOb.ix ivo (b01_ne c5)
    obtain ⟨hs1, hs2⟩ := ivo.2.2 o ho
    refine V_iload_n d_md_hasField_8 rfl rfl ?_
    refine V_iconst (v := 0) d_md_hasField_9 (by decide) ?_
    refine V_aload_n d_md_hasField_10 rfl rfl ?_
    refine V_getf d_md_hasField_11 fl_md_13 r.obj rfl ?_
    refine V_aload_n d_md_hasField_14 rfl rfl ?_
    refine V_getf d_md_hasField_15 fl_md_31 r.obj rfl ?_
    refine V_iload_n d_md_hasField_18 rfl rfl ?_
    refine V_mald r d_md_hasField_19 (by first | with_reducible rfl | exact ix8 _ _ | exact ix6 _ _ | assumption) rfl rfl (by show _ < 60; omega) ?_
    rw [hs1]
    refine V_mald r d_md_hasField_20 (by first | with_reducible rfl | exact ix8 _ _ | exact ix6 _ _ | assumption) rfl rfl (by show _ < 10; omega) ?_
    refine V_iconst (v := 1) d_md_hasField_21 (by decide) ?_
    refine V_isub d_md_hasField_22 ?_
    refine V_callS (N := md_in) d_md_hasField_23 ml_md_114 mdf_md_in ws_md_in (sp_md_in G _ _ _ _) rfl rfl (by decide) (by decide) (Nat.le_of_ble_eq_true rfl) rfl rfl (kI fun r23 h23 ⟨e23, f23⟩ => ?_)
    subst e23 f23
    refine V_if_eq d_md_hasField_26 (fun c26 => ?_) (fun c26 => ?_)
    · skip
      refine V_iconst (v := 0) d_md_hasField_33 (by decide) ?_
      refine V_zreturn d_md_hasField_34 rfl (by first | exact Or.inl rfl | exact Or.inr rfl) ?_
      refine ⟨_, rfl, rfl, (b01_f ?_).symm⟩
      rintro ⟨o2, j, q1, q2, q3, q4⟩
      obtain rfl := nI_inj8 (by omega) (by omega) q2
      exact inF.no ivs hs2 (b01_e c26) j q3 q4
    · skip
      refine V_iconst (v := 1) d_md_hasField_29 (by decide) ?_
      refine V_goto d_md_hasField_30 ?_
      refine V_zreturn d_md_hasField_34 rfl (by first | exact Or.inl rfl | exact Or.inr rfl) ?_
      obtain ⟨j, hj, rfl⟩ := inF.ix ivs hs2 (b01_ne c26)
      exact ⟨_, rfl, rfl, (b01_t ⟨o, j, ho, rfl, hj, rfl⟩).symm⟩
theorem sp_md_by' (G : Gk) {h : Hp} {m : Nat} {am : Nat → Nat} {s : Mem} (r : RepM h m am s) (o f i : Nat) (ho : o < 60) (hs : s.2 9 o = nI i) : Ct G md_by [.ref m, .int (nI o), .int (nI f)] h (pI fun r h' => h = h' ∧ r = nI (8 * i + f)) := by
  refine Ct.ofL (M := md_by) (lv := [some (.ref m), some (.int (nI o)), some (.int (nI f))]) mdf_md_by rfl (Nat.le_of_ble_eq_true rfl) rfl ?_
  refine V_bipush (v := 8) d_md_by_0 (by decide) ?_
  refine V_aload_n d_md_by_2 rfl rfl ?_
  refine V_getf d_md_by_3 fl_md_31 r.obj rfl ?_
  refine V_iload_n d_md_by_6 rfl rfl ?_
  refine V_mald r d_md_by_7 (by first | with_reducible rfl | exact ix8 _ _ | exact ix6 _ _ | assumption) rfl rfl (by show _ < 60; omega) ?_
  rw [hs]
  refine V_imul d_md_by_8 ?_
  refine V_iload_n d_md_by_9 rfl rfl ?_
  refine V_iadd d_md_by_10 ?_
  refine V_ireturn d_md_by_11 rfl ?_
  exact ⟨_, rfl, rfl, ix8 _ _⟩
theorem sp_md_shapeOf (G : Gk) {h : Hp} {m : Nat} {am : Nat → Nat} {s : Mem} (r : RepM h m am s) (ivo : IvO s) (v : Int32) : Ct G md_shapeOf [.ref m, .int v] h (pI fun r h' => h = h' ∧ ((¬ isOb s v ∧ r = -2) ∨ ∃ o, o < nO s ∧ v = nI o ∧ r = nI (sh s o))) := by
  have h60 := ivo.2.1
  refine Ct.ofL (M := md_shapeOf) (lv := [some (.ref m), some (.int v)]) mdf_md_shapeOf rfl (Nat.le_of_ble_eq_true rfl) rfl ?_
  refine V_aload_n d_md_shapeOf_0 rfl rfl ?_
  refine V_iload_n d_md_shapeOf_1 rfl rfl ?_
  refine V_callV (N := md_isObject) d_md_shapeOf_2 ml_md_149 mdf_md_isObject wi_md_isObject wz_md_isObject (sp_md_isObject G r _) r.obj ⟨_, rfl, rfl⟩ rfl rfl (by decide) (by decide) (Nat.le_of_ble_eq_true rfl) rfl rfl (kI fun r2 h2 ⟨e2, f2⟩ => ?_)
  subst e2 f2
  refine V_if_eq d_md_shapeOf_5 (fun c5 => ?_) (fun c5 => ?_)
  · skip
    refine V_bipush (v := -2) d_md_shapeOf_17 (by decide) ?_
    refine V_ireturn d_md_shapeOf_19 rfl ?_
    exact ⟨_, rfl, rfl, Or.inl ⟨b01_e c5, rfl⟩⟩
  · skip
    obtain ⟨o, ho, rfl⟩ := isOb.ix ivo (b01_ne c5)
    refine V_aload_n d_md_shapeOf_8 rfl rfl ?_
    refine V_getf d_md_shapeOf_9 fl_md_31 r.obj rfl ?_
    refine V_iload_n d_md_shapeOf_12 rfl rfl ?_
    refine V_mald r d_md_shapeOf_13 (by first | with_reducible rfl | exact ix8 _ _ | exact ix6 _ _ | assumption) rfl rfl (by show _ < 60; omega) ?_
    refine V_goto d_md_shapeOf_14 ?_
    refine V_ireturn d_md_shapeOf_19 rfl ?_
    exact ⟨_, rfl, rfl, Or.inr ⟨o, ho, rfl, (ivo.2.2 o ho).1⟩⟩
/-- an object more, of shape i; its numbers up to f are set, up to g as the fields want -/
def mkM (s : Mem) (i f g : Nat) (t : Mem) : Prop := t.1 = s.1 ∧ t.2 9 = upd (s.2 9) (nO s) (nI i) ∧ (∀ j, j ≠ 9 → j ≠ 10 → t.2 j = s.2 j) ∧ (∀ x, x < 8 * nO s ∨ 8 * nO s + 8 ≤ x → t.2 10 x = s.2 10 x) ∧ ∀ y, y < f → t.2 10 (8 * nO s + y) = if y < g ∧ s.2 3 (8 * i + y) = 2 then 0 else MISS
theorem mkM.step1 {s t : Mem} {i f : Nat} (hf : f < 8) (hs : mkM s i f 0 t) : mkM s i (f + 1) 0 (mA t 10 (8 * nO s + f) MISS) := by
  obtain ⟨h1, h2, h3, h4, h5⟩ := hs
  refine ⟨h1, by rw [mA_2n _ _ _ (by decide)]; exact h2, fun j q1 q2 => by rw [mA_2n _ _ _ q2]; exact h3 j q1 q2, fun x q => ?_, fun y q => ?_⟩
  · rw [mA_2s, pk_un (by omega)]; exact h4 x q
  · rw [mA_2s]
    by_cases e : y = f
    · subst e; rw [pk_us, if_neg (by omega)]
    · rw [pk_un (by omega)]; exact h5 y (by omega)
theorem mkM.step2 {s t : Mem} {i g : Nat} (hg : g < 8) (hs : mkM s i 8 g t) {v : Int32} (hv : v = if s.2 3 (8 * i + g) = 2 then 0 else MISS) : mkM s i 8 (g + 1) (mA t 10 (8 * nO s + g) v) := by
  obtain ⟨h1, h2, h3, h4, h5⟩ := hs
  refine ⟨h1, by rw [mA_2n _ _ _ (by decide)]; exact h2, fun j q1 q2 => by rw [mA_2n _ _ _ q2]; exact h3 j q1 q2, fun x q => ?_, fun y q => ?_⟩
  · rw [mA_2s, pk_un (by omega)]; exact h4 x q
  · rw [mA_2s]
    by_cases e : y = g
    · subst e; rw [pk_us, hv]
      simp
    · rw [pk_un (by omega), h5 y q]
      by_cases z : y < g
      · simp [z, show y < g + 1 by omega]
      · simp [z, show ¬ y < g + 1 by omega]
def mkE (s : Mem) (i : Nat) (t : Mem) : Prop := ∃ t0, mkM s i 8 (nf s i) t0 ∧ t = mF t0 8 (nI (nO s + 1))
theorem lp_makes2 (G : Gk) {m : Nat} {am : Nat → Nat} {s : Mem} {h0 : Hp} (ivs : IvS s) (ivo : IvO s) (h9 : nO s < 60) (i : Nat) (hi : i < nS s) : ∀ (n f : Nat) (h : Hp) (t : Mem), f ≤ nf s i → nf s i + 1 ≤ f + n → Mod h0 m am h t → mkM s i 8 f t →
    V G md_makes (pI fun r h' => ∃ t, Mod h0 m am h' t ∧ mkE s i t ∧ r = nI (nO s)) h 0 0 41 [some (.ref m), some (.int (nI i)), some (.int (nI (nO s))), some (.int (nI f))] [] := by
  have h10 := ivs.2.1
  obtain ⟨hf1, hf2⟩ := ivs.2.2.1 i hi
  intro n
  induction n with
  | zero => intro f h t h1 h2; exact absurd h2 (by omega)
  | succ n ih =>
    intro f h t hq1 hq2 hM hs
    have r := hM.1
    have e2 : t.2 2 i = nI (nf s i) := by rw [hs.2.2.1 2 (by decide) (by decide)]; exact hf1
    have e9 : t.2 9 (nO s) = nI i := by rw [hs.2.1, pk_us]
    have e8 : t.1 8 = nI (nO s) := by rw [hs.1]; exact ivo.1
    refine V_iload_n d_md_makes_41 rfl rfl ?_
    refine V_aload_n d_md_makes_42 rfl rfl ?_
    refine V_getf d_md_makes_43 fl_md_13 r.obj rfl ?_
    refine V_iload_n d_md_makes_46 rfl rfl ?_
    refine V_mald r d_md_makes_47 (by first | with_reducible rfl | exact ix8 _ _ | exact ix6 _ _ | assumption) rfl rfl (by show _ < 10; omega) ?_
    rw [e2]
    refine V_icmp_ge d_md_makes_48 (fun c48 => ?_) (fun c48 => ?_)
    · skip
      have hfk := geN c48 (by omega)
      obtain rfl : f = nf s i := by omega
      refine V_aload_n d_md_makes_89 rfl rfl ?_
      refine V_dup d_md_makes_90 rfl ?_
      refine V_getf d_md_makes_91 fl_md_122 r.obj rfl ?_
      rw [e8]
      refine V_iconst (v := 1) d_md_makes_94 (by decide) ?_
      refine V_iadd d_md_makes_95 ?_
      rw [nI_1]
      refine V_mput (j := 8) r d_md_makes_96 fp_md_122 rfl rfl (by decide) (fun h96 M96 => ?_)
      have R96 := M96.1
      refine V_iload_n d_md_makes_99 rfl rfl ?_
      refine V_ireturn d_md_makes_100 rfl ?_
      exact ⟨_, rfl, _, hM.trans M96, ⟨t, hs, rfl⟩, rfl⟩
    · skip
      have hlt := ltN c48 (by omega)
      refine V_aload_n d_md_makes_51 rfl rfl ?_
      refine V_getf d_md_makes_52 fl_md_34 r.obj rfl ?_
      refine V_aload_n d_md_makes_55 rfl rfl ?_
      refine V_iload_n d_md_makes_56 rfl rfl ?_
      refine V_iload_n d_md_makes_57 rfl rfl ?_
      refine V_callV (N := md_at) d_md_makes_58 ml_md_152 mdf_md_at wi_md_at wz_md_at (sp_md_at G _ _ _ _) r.obj ⟨_, rfl, rfl⟩ rfl rfl (by decide) (by decide) (Nat.le_of_ble_eq_true rfl) rfl rfl (kI fun r58 h58 ⟨e58, f58⟩ => ?_)
      subst e58 f58
      refine V_aload_n d_md_makes_61 rfl rfl ?_
      refine V_getf d_md_makes_62 fl_md_16 r.obj rfl ?_
      refine V_aload_n d_md_makes_65 rfl rfl ?_
      refine V_iload_n d_md_makes_66 rfl rfl ?_
      refine V_iload_n d_md_makes_67 rfl rfl ?_
      refine V_callV (N := md_by) d_md_makes_68 ml_md_156 mdf_md_by wi_md_by wz_md_by (sp_md_by' G r _ _ i (by omega) e9) r.obj ⟨_, rfl, rfl⟩ rfl rfl (by decide) (by decide) (Nat.le_of_ble_eq_true rfl) rfl rfl (kI fun r68 h68 ⟨e68, f68⟩ => ?_)
      subst e68 f68
      refine V_mald r d_md_makes_71 (by first | with_reducible rfl | exact ix8 _ _ | exact ix6 _ _ | assumption) rfl rfl (by show _ < 80; omega) ?_
      rw [hs.2.2.1 3 (by decide) (by decide)]
      refine V_iconst (v := 2) d_md_makes_72 (by decide) ?_
      refine V_icmp_ne d_md_makes_73 (fun c73 => ?_) (fun c73 => ?_)
      · skip
        refine V_ldc d_md_makes_80 kc_md_129 ?_
        refine V_mast r d_md_makes_82 (by first | with_reducible rfl | exact ix8 _ _ | exact ix6 _ _ | assumption) rfl rfl (by show _ < 480; omega) (fun h82 M82 => ?_)
        have R82 := M82.1
        refine V_iinc (v := _) d_md_makes_83 rfl rfl (by decide) rfl rfl ?_
        dsimp only [List.set]
        refine V_goto d_md_makes_86 ?_
        rw [show Int32.ofInt 1 = 1 from rfl, nI_1]
        refine ih (f + 1) _ _ (by omega) (by omega) (hM.trans M82) (hs.step2 (by omega) ?_)
        simp [c73, MISS]
      · skip
        refine V_iconst (v := 0) d_md_makes_76 (by decide) ?_
        refine V_goto d_md_makes_77 ?_
        refine V_mast r d_md_makes_82 (by first | with_reducible rfl | exact ix8 _ _ | exact ix6 _ _ | assumption) rfl rfl (by show _ < 480; omega) (fun h82 M82 => ?_)
        have R82 := M82.1
        refine V_iinc (v := _) d_md_makes_83 rfl rfl (by decide) rfl rfl ?_
        dsimp only [List.set]
        refine V_goto d_md_makes_86 ?_
        rw [show Int32.ofInt 1 = 1 from rfl, nI_1]
        refine ih (f + 1) _ _ (by omega) (by omega) (hM.trans M82) (hs.step2 (by omega) ?_)
        simp [c73, MISS]
theorem lp_makes1 (G : Gk) {m : Nat} {am : Nat → Nat} {s : Mem} {h0 : Hp} (ivs : IvS s) (ivo : IvO s) (h9 : nO s < 60) (i : Nat) (hi : i < nS s) : ∀ (n f : Nat) (h : Hp) (t : Mem), f ≤ 8 → 9 ≤ f + n → Mod h0 m am h t → mkM s i f 0 t →
    V G md_makes (pI fun r h' => ∃ t, Mod h0 m am h' t ∧ mkE s i t ∧ r = nI (nO s)) h 0 0 14 [some (.ref m), some (.int (nI i)), some (.int (nI (nO s))), some (.int (nI f))] [] := by
  intro n
  induction n with
  | zero => intro f h t h1 h2; exact absurd h2 (by omega)
  | succ n ih =>
    intro f h t hq1 hq2 hM hs
    have r := hM.1
    refine V_iload_n d_md_makes_14 rfl rfl ?_
    refine V_bipush (v := 8) d_md_makes_15 (by decide) ?_
    refine V_icmp_ge d_md_makes_17 (fun c17 => ?_) (fun c17 => ?_)
    · skip
      have hfk : 8 ≤ f := geN c17 (by decide)
      obtain rfl : f = 8 := by omega
      refine V_iconst (v := 0) d_md_makes_39 (by decide) ?_
      refine V_istore_n d_md_makes_40 rfl (by decide) rfl rfl ?_
      dsimp only [List.set]
      exact lp_makes2 G ivs ivo h9 i hi (nf s i + 1) 0 _ _ (by omega) (by omega) hM hs
    · skip
      have hlt : f < 8 := ltN c17 (by omega)
      refine V_aload_n d_md_makes_20 rfl rfl ?_
      refine V_getf d_md_makes_21 fl_md_34 r.obj rfl ?_
      refine V_aload_n d_md_makes_24 rfl rfl ?_
      refine V_iload_n d_md_makes_25 rfl rfl ?_
      refine V_iload_n d_md_makes_26 rfl rfl ?_
      refine V_callV (N := md_at) d_md_makes_27 ml_md_152 mdf_md_at wi_md_at wz_md_at (sp_md_at G _ _ _ _) r.obj ⟨_, rfl, rfl⟩ rfl rfl (by decide) (by decide) (Nat.le_of_ble_eq_true rfl) rfl rfl (kI fun r27 h27 ⟨e27, f27⟩ => ?_)
      subst e27 f27
      refine V_ldc d_md_makes_30 kc_md_129 ?_
      refine V_mast r d_md_makes_32 (by first | with_reducible rfl | exact ix8 _ _ | exact ix6 _ _ | assumption) rfl rfl (by show _ < 480; omega) (fun h32 M32 => ?_)
      have R32 := M32.1
      refine V_iinc (v := _) d_md_makes_33 rfl rfl (by decide) rfl rfl ?_
      dsimp only [List.set]
      refine V_goto d_md_makes_36 ?_
      rw [show Int32.ofInt 1 = 1 from rfl, nI_1]
      exact ih (f + 1) _ _ (by omega) (by omega) (hM.trans M32) (hs.step1 hlt)
theorem sp_md_makes (G : Gk) {h : Hp} {m : Nat} {am : Nat → Nat} {s : Mem} (r : RepM h m am s) (ivs : IvS s) (ivo : IvO s) (h9 : nO s < 60) (i : Nat) (hi : i < nS s) : Ct G md_makes [.ref m, .int (nI i)] h (pI fun r h' => ∃ t, Mod h m am h' t ∧ mkE s i t ∧ r = nI (nO s)) := by
  refine Ct.ofL (M := md_makes) (lv := [some (.ref m), some (.int (nI i)), none, none]) mdf_md_makes rfl (Nat.le_of_ble_eq_true rfl) rfl ?_
  refine V_aload_n d_md_makes_0 rfl rfl ?_
  refine V_getf d_md_makes_1 fl_md_122 r.obj rfl ?_
  rw [ivo.1]
  refine V_istore_n d_md_makes_4 rfl (by decide) rfl rfl ?_
  dsimp only [List.set]
  refine V_aload_n d_md_makes_5 rfl rfl ?_
  refine V_getf d_md_makes_6 fl_md_31 r.obj rfl ?_
  refine V_iload_n d_md_makes_9 rfl rfl ?_
  refine V_iload_n d_md_makes_10 rfl rfl ?_
  refine V_mast r d_md_makes_11 (by first | with_reducible rfl | exact ix8 _ _ | exact ix6 _ _ | assumption) rfl rfl (by show _ < 60; omega) (fun h11 M11 => ?_)
  have R11 := M11.1
  refine V_iconst (v := 0) d_md_makes_12 (by decide) ?_
  refine V_istore_n d_md_makes_13 rfl (by decide) rfl rfl ?_
  dsimp only [List.set]
  refine lp_makes1 G ivs ivo h9 i hi 9 0 _ _ (by omega) (by omega) M11 ⟨rfl, mA_2s _ _ _ _, fun j q1 q2 => mA_2n _ _ _ q1, fun x q => by rw [mA_2n _ _ _ (by decide)], fun y q => by omega⟩
theorem sp_md_object (G : Gk) {h : Hp} {m : Nat} {am : Nat → Nat} {s : Mem} (r : RepM h m am s) (ivs : IvS s) (ivo : IvO s) (v : Int32) : Ct G md_object [.ref m, .int v] h
    (pI fun r h' => (¬ isSh s v ∧ h = h' ∧ r = -2) ∨ (∃ i, i < nS s ∧ v = nI i ∧ ((nO s = 60 ∧ h = h' ∧ r = -4) ∨ (nO s < 60 ∧ ∃ t, Mod h m am h' t ∧ mkE s i t ∧ r = nI (nO s))))) := by
  have h60 := ivo.2.1
  refine Ct.ofL (M := md_object) (lv := [some (.ref m), some (.int v)]) mdf_md_object rfl (Nat.le_of_ble_eq_true rfl) rfl ?_
  refine V_aload_n d_md_object_0 rfl rfl ?_
  refine V_iload_n d_md_object_1 rfl rfl ?_
  refine V_callV (N := md_isShape) d_md_object_2 ml_md_118 mdf_md_isShape wi_md_isShape wz_md_isShape (sp_md_isShape G r _) r.obj ⟨_, rfl, rfl⟩ rfl rfl (by decide) (by decide) (Nat.le_of_ble_eq_true rfl) rfl rfl (kI fun r2 h2 ⟨e2, f2⟩ => ?_)
  subst e2 f2
  refine V_if_ne d_md_object_5 (fun c5 => ?_) (fun c5 => ?_)
  · skip
    obtain ⟨i, hi, rfl⟩ := isSh.ix ivs (b01_ne c5)
    refine V_aload_n d_md_object_11 rfl rfl ?_
    refine V_getf d_md_object_12 fl_md_122 r.obj rfl ?_
    rw [ivo.1]
    refine V_bipush (v := 60) d_md_object_15 (by decide) ?_
    refine V_icmp_ne d_md_object_17 (fun c17 => ?_) (fun c17 => ?_)
    · skip
      have h9 : nO s < 60 := by rcases Nat.lt_or_ge (nO s) 60 with q | q; exact q; exact absurd (by rw [show nO s = 60 by omega]; rfl) c17
      refine V_aload_n d_md_object_25 rfl rfl ?_
      refine V_iload_n d_md_object_26 rfl rfl ?_
      refine V_callV (N := md_makes) d_md_object_27 ml_md_159 mdf_md_makes wi_md_makes wz_md_makes (sp_md_makes G r ivs ivo h9 i hi) r.obj ⟨_, rfl, rfl⟩ rfl rfl (by decide) (by decide) (Nat.le_of_ble_eq_true rfl) rfl rfl (kI fun r27 h27 hp27 => ?_)
      refine V_ireturn d_md_object_30 rfl ?_
      exact ⟨_, rfl, Or.inr ⟨i, hi, rfl, Or.inr ⟨h9, hp27⟩⟩⟩
    · skip
      refine V_bipush (v := -4) d_md_object_20 (by decide) ?_
      refine V_goto d_md_object_22 ?_
      refine V_ireturn d_md_object_30 rfl ?_
      exact ⟨_, rfl, Or.inr ⟨i, hi, rfl, Or.inl ⟨eqN c17 (by omega) (by decide), rfl, rfl⟩⟩⟩
  · skip
    refine V_bipush (v := -2) d_md_object_8 (by decide) ?_
    refine V_ireturn d_md_object_10 rfl ?_
    exact ⟨_, rfl, Or.inl ⟨b01_e c5, rfl, rfl⟩⟩
