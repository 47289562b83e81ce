/-! watch, note, lacks, count, holders of the reference -/
def WchOK (s : Mem) (i : Nat) (f vt : Int32) : Prop := ∃ j, j < nf s i ∧ f = nI j ∧ s.2 3 (8 * i + j) ≠ 3 ∧ (vt = 0 ∨ s.2 3 (8 * i + j) = 0)
def watM (s : Mem) (i f vt l : Int32) : Mem := mF (mA (mA (mA (mA (mA s 26 (nW s) i) 27 (nW s) f) 28 (nW s) vt) 29 (nW s) l) 30 (nW s) 0) 25 (nI (nW s + 1))
theorem sp_md_watch (G : Gk) {h : Hp} {m : Nat} {am : Nat → Nat} {s : Mem} (r : RepM h m am s) (ivs : IvS s) (ivw : IvW s) (v f vt l : Int32) (hvt : vt = 0 ∨ vt = 1) : Ct G md_watch [.ref m, .int v, .int f, .int vt, .int l] h
    (pI fun r h' => (¬ (∃ i, i < nS s ∧ v = nI i ∧ WchOK s i f vt) ∧ h = h' ∧ r = -2) ∨ ∃ i, i < nS s ∧ v = nI i ∧ WchOK s i f vt ∧ ((nW s = 10 ∧ h = h' ∧ r = -4) ∨ (nW s < 10 ∧ Mod h m am h' (watM s v f vt l) ∧ r = nI (nW s)))) := by
  have h10 := ivs.2.1
  obtain ⟨h25, hw10, -⟩ := ivw
  have tail : ∀ i, i < nS s → v = nI i → WchOK s i f vt → V G md_watch (pI fun r h' => (¬ (∃ i, i < nS s ∧ v = nI i ∧ WchOK s i f vt) ∧ h = h' ∧ r = -2) ∨ ∃ i, i < nS s ∧ v = nI i ∧ WchOK s i f vt ∧ ((nW s = 10 ∧ h = h' ∧ r = -4) ∨ (nW s < 10 ∧ Mod h m am h' (watM s v f vt l) ∧ r = nI (nW s)))) h 0 0 60 [some (.ref m), some (.int v), some (.int f), some (.int vt), some (.int l)] [] := by
    intro i hi ev hok
    refine V_aload_n d_md_watch_60 rfl rfl ?_
    refine V_getf d_md_watch_61 fl_md_188 r.obj rfl ?_
    rw [h25]
    refine V_bipush (v := 10) d_md_watch_64 (by decide) ?_
    refine V_icmp_ne d_md_watch_66 (fun c66 => ?_) (fun c66 => ?_)
    · skip
      have hlt : nW s < 10 := by rcases Nat.lt_or_ge (nW s) 10 with q | q; exact q; exact absurd (by rw [show nW s = 10 by omega]; rfl) c66
      refine V_aload_n d_md_watch_72 rfl rfl ?_
      refine V_getf d_md_watch_73 fl_md_61 r.obj rfl ?_
      refine V_aload_n d_md_watch_76 rfl rfl ?_
      refine V_getf d_md_watch_77 fl_md_188 r.obj rfl ?_
      rw [h25]
      refine V_iload_n d_md_watch_80 rfl rfl ?_
      refine V_mast r d_md_watch_81 (by first | with_reducible rfl | exact ix8 _ _ | exact ix6 _ _ | assumption) rfl rfl (by show _ < 10; omega) (fun h81 M81 => ?_)
      have R81 := M81.1
      refine V_aload_n d_md_watch_82 rfl rfl ?_
      refine V_getf d_md_watch_83 fl_md_64 R81.obj rfl ?_
      refine V_aload_n d_md_watch_86 rfl rfl ?_
      refine V_getf d_md_watch_87 fl_md_188 R81.obj rfl ?_
      rw [mA_1, h25]
      refine V_iload_n d_md_watch_90 rfl rfl ?_
      refine V_mast R81 d_md_watch_91 (by first | with_reducible rfl | exact ix8 _ _ | exact ix6 _ _ | assumption) rfl rfl (by show _ < 10; omega) (fun h91 M91 => ?_)
      have R91 := M91.1
      refine V_aload_n d_md_watch_92 rfl rfl ?_
      refine V_getf d_md_watch_93 fl_md_67 R91.obj rfl ?_
      refine V_aload_n d_md_watch_96 rfl rfl ?_
      refine V_getf d_md_watch_97 fl_md_188 R91.obj rfl ?_
      rw [mA_1, mA_1, h25]
      refine V_iload_n d_md_watch_100 rfl rfl ?_
      refine V_mbst R91 d_md_watch_101 (by first | with_reducible rfl | exact ix8 _ _ | exact ix6 _ _ | assumption) rfl rfl (by show _ < 10; omega) (by rcases hvt with rfl | rfl <;> rfl) (fun h101 M101 => ?_)
      have R101 := M101.1
      refine V_aload_n d_md_watch_102 rfl rfl ?_
      refine V_getf d_md_watch_103 fl_md_71 R101.obj rfl ?_
      refine V_aload_n d_md_watch_106 rfl rfl ?_
      refine V_getf d_md_watch_107 fl_md_188 R101.obj rfl ?_
      rw [mA_1, mA_1, mA_1, h25]
      refine V_iload d_md_watch_110 rfl ?_
      refine V_mast R101 d_md_watch_112 (by first | with_reducible rfl | exact ix8 _ _ | exact ix6 _ _ | assumption) rfl rfl (by show _ < 10; omega) (fun h112 M112 => ?_)
      have R112 := M112.1
      refine V_aload_n d_md_watch_113 rfl rfl ?_
      refine V_getf d_md_watch_114 fl_md_74 R112.obj rfl ?_
      refine V_aload_n d_md_watch_117 rfl rfl ?_
      refine V_getf d_md_watch_118 fl_md_188 R112.obj rfl ?_
      rw [mA_1, mA_1, mA_1, mA_1, h25]
      refine V_iconst (v := 0) d_md_watch_121 (by decide) ?_
      refine V_mast R112 d_md_watch_122 (by first | with_reducible rfl | exact ix8 _ _ | exact ix6 _ _ | assumption) rfl rfl (by show _ < 10; omega) (fun h122 M122 => ?_)
      have R122 := M122.1
      refine V_aload_n d_md_watch_123 rfl rfl ?_
      refine V_dup d_md_watch_124 rfl ?_
      refine V_getf d_md_watch_125 fl_md_188 R122.obj rfl ?_
      rw [mA_1, mA_1, mA_1, mA_1, mA_1, h25]
      refine V_iconst (v := 1) d_md_watch_128 (by decide) ?_
      refine V_iadd d_md_watch_129 ?_
      rw [nI_1]
      refine V_mput (j := 25) R122 d_md_watch_130 fp_md_188 rfl rfl (by decide) (fun h130 M130 => ?_)
      have R130 := M130.1
      refine V_aload_n d_md_watch_133 rfl rfl ?_
      refine V_getf d_md_watch_134 fl_md_188 R130.obj rfl ?_
      rw [mF_1s]
      refine V_iconst (v := 1) d_md_watch_137 (by decide) ?_
      refine V_isub d_md_watch_138 ?_
      rw [nI_pred]
      refine V_ireturn d_md_watch_139 rfl ?_
      exact ⟨_, rfl, Or.inr ⟨i, hi, ev, hok, Or.inr ⟨hlt, ((((M81.trans M91).trans M101).trans M112).trans M122).trans M130, rfl⟩⟩⟩
    · skip
      refine V_bipush (v := -4) d_md_watch_69 (by decide) ?_
      refine V_ireturn d_md_watch_71 rfl ?_
      exact ⟨_, rfl, Or.inr ⟨i, hi, ev, hok, Or.inl ⟨eqN c66 (by omega) (by decide), rfl, rfl⟩⟩⟩
  refine Ct.ofL (M := md_watch) (lv := [some (.ref m), some (.int v), some (.int f), some (.int vt), some (.int l)]) mdf_md_watch rfl (Nat.le_of_ble_eq_true rfl) rfl ?_
  refine V_aload_n d_md_watch_0 rfl rfl ?_
  refine V_iload_n d_md_watch_1 rfl rfl ?_
  refine V_callV (N := md_isShape) d_md_watch_2 ml_md_118 mdf_md_isShape wi_md_isShape wz_md_isShape (sp_md_isShape G r _) r.obj ⟨_, rfl, rfl⟩ rfl rfl (by decide) (by decide) (Nat.le_of_ble_eq_true rfl) rfl rfl (kI fun r2 h2 ⟨e2, f2⟩ => ?_)
  subst e2 f2
  refine V_if_eq d_md_watch_5 (fun c5 => ?_) (fun c5 => ?_)
  · skip
    refine V_bipush (v := -2) d_md_watch_57 (by decide) ?_
    refine V_ireturn d_md_watch_59 rfl ?_
    refine ⟨_, rfl, Or.inl ⟨?_, rfl, rfl⟩⟩
    rintro ⟨i, q1, q2, -⟩
    exact isSh.no ivs (b01_e c5) i q1 q2
  · skip
    obtain ⟨i, hi, rfl⟩ := isSh.ix ivs (b01_ne c5)
    have hf8 := (ivs.2.2.1 i hi).2
    refine V_iload_n d_md_watch_8 rfl rfl ?_
    refine V_iconst (v := 0) d_md_watch_9 (by decide) ?_
    refine V_aload_n d_md_watch_10 rfl rfl ?_
    refine V_getf d_md_watch_11 fl_md_13 r.obj rfl ?_
    refine V_iload_n d_md_watch_14 rfl rfl ?_
    refine V_mald r d_md_watch_15 (by first | with_reducible rfl | exact ix8 _ _ | exact ix6 _ _ | assumption) rfl rfl (by show _ < 10; omega) ?_
    refine V_iconst (v := 1) d_md_watch_16 (by decide) ?_
    refine V_isub d_md_watch_17 ?_
    refine V_callS (N := md_in) d_md_watch_18 ml_md_114 mdf_md_in ws_md_in (sp_md_in G _ _ _ _) rfl rfl (by decide) (by decide) (Nat.le_of_ble_eq_true rfl) rfl rfl (kI fun r18 h18 ⟨e18, f18⟩ => ?_)
    subst e18 f18
    refine V_if_eq d_md_watch_21 (fun c21 => ?_) (fun c21 => ?_)
    · skip
      refine V_bipush (v := -2) d_md_watch_57 (by decide) ?_
      refine V_ireturn d_md_watch_59 rfl ?_
      refine ⟨_, rfl, Or.inl ⟨?_, rfl, rfl⟩⟩
      rintro ⟨i', q1, q2, j, q3, q4, -⟩
      obtain rfl := nI_inj8 (by omega) (by omega) q2
      exact inF.no ivs hi (b01_e c21) j q3 q4
    · skip
      obtain ⟨j, hj, rfl⟩ := inF.ix ivs hi (b01_ne c21)
      refine V_aload_n d_md_watch_24 rfl rfl ?_
      refine V_getf d_md_watch_25 fl_md_16 r.obj rfl ?_
      refine V_bipush (v := 8) d_md_watch_28 (by decide) ?_
      refine V_iload_n d_md_watch_30 rfl rfl ?_
      refine V_imul d_md_watch_31 ?_
      refine V_iload_n d_md_watch_32 rfl rfl ?_
      refine V_iadd d_md_watch_33 ?_
      refine V_mald r d_md_watch_34 (by first | with_reducible rfl | exact ix8 _ _ | exact ix6 _ _ | assumption) rfl rfl (by show _ < 80; omega) ?_
      refine V_iconst (v := 3) d_md_watch_35 (by decide) ?_
      refine V_icmp_eq d_md_watch_36 (fun c36 => ?_) (fun c36 => ?_)
      · skip
        refine V_bipush (v := -2) d_md_watch_57 (by decide) ?_
        refine V_ireturn d_md_watch_59 rfl ?_
        refine ⟨_, rfl, Or.inl ⟨?_, rfl, rfl⟩⟩
        rintro ⟨i', q1, q2, j', q3, q4, q5, -⟩
        obtain rfl := nI_inj8 (by omega) (by omega) q2
        obtain rfl := nI_inj8 (by omega) (by omega) q4
        exact q5 c36
      · skip
        refine V_iload_n d_md_watch_39 rfl rfl ?_
        refine V_if_eq d_md_watch_40 (fun c40 => ?_) (fun c40 => ?_)
        · skip
          exact tail i hi rfl ⟨j, hj, rfl, c36, Or.inl c40⟩
        · skip
          refine V_aload_n d_md_watch_43 rfl rfl ?_
          refine V_getf d_md_watch_44 fl_md_16 r.obj rfl ?_
          refine V_bipush (v := 8) d_md_watch_47 (by decide) ?_
          refine V_iload_n d_md_watch_49 rfl rfl ?_
          refine V_imul d_md_watch_50 ?_
          refine V_iload_n d_md_watch_51 rfl rfl ?_
          refine V_iadd d_md_watch_52 ?_
          refine V_mald r d_md_watch_53 (by first | with_reducible rfl | exact ix8 _ _ | exact ix6 _ _ | assumption) rfl rfl (by show _ < 80; omega) ?_
          refine V_if_eq d_md_watch_54 (fun c54 => ?_) (fun c54 => ?_)
          · skip
            exact tail i hi rfl ⟨j, hj, rfl, c36, Or.inr c54⟩
          · skip
            refine V_bipush (v := -2) d_md_watch_57 (by decide) ?_
            refine V_ireturn d_md_watch_59 rfl ?_
            refine ⟨_, rfl, Or.inl ⟨?_, rfl, rfl⟩⟩
            rintro ⟨i', q1, q2, j', q3, q4, -, q5⟩
            obtain rfl := nI_inj8 (by omega) (by omega) q2
            obtain rfl := nI_inj8 (by omega) (by omega) q4
            exact q5.elim c40 c54
noncomputable def noteM (s : Mem) (v k w : Int32) : Int32 := @ite _ ((0 ≤ v ∧ v ≤ s.1 25 - 1) ∧ (0 ≤ w ∧ w ≤ 2)) (Classical.propDecidable _) (@ite _ (0 ≤ k ∧ k ≤ s.2 30 v.toNatClampNeg - 1) (Classical.propDecidable _) (s.2 31 (3 * (40 * v.toNatClampNeg + k.toNatClampNeg) + w.toNatClampNeg)) (-1)) (-2)
theorem sp_md_note (G : Gk) {h : Hp} {m : Nat} {am : Nat → Nat} {s : Mem} (r : RepM h m am s) (ivw : IvW s) (v k w : Int32) : Ct G md_note [.ref m, .int v, .int k, .int w] h (pI fun r h' => h = h' ∧ r = noteM s v k w) := by
  obtain ⟨h25, hw10, hw⟩ := id ivw
  refine Ct.ofL (M := md_note) (lv := [some (.ref m), some (.int v), some (.int k), some (.int w)]) mdf_md_note rfl (Nat.le_of_ble_eq_true rfl) rfl ?_
  refine V_iload_n d_md_note_0 rfl rfl ?_
  refine V_iconst (v := 0) d_md_note_1 (by decide) ?_
  refine V_aload_n d_md_note_2 rfl rfl ?_
  refine V_getf d_md_note_3 fl_md_188 r.obj rfl ?_
  refine V_iconst (v := 1) d_md_note_6 (by decide) ?_
  refine V_isub d_md_note_7 ?_
  refine V_callS (N := md_in) d_md_note_8 ml_md_114 mdf_md_in ws_md_in (sp_md_in G _ _ _ _) rfl rfl (by decide) (by decide) (Nat.le_of_ble_eq_true rfl) rfl rfl (kI fun r8 h8 ⟨e8, f8⟩ => ?_)
  subst e8 f8
  refine V_if_eq d_md_note_11 (fun c11 => ?_) (fun c11 => ?_)
  · skip
    refine V_bipush (v := -2) d_md_note_23 (by decide) ?_
    refine V_ireturn d_md_note_25 rfl ?_
    refine ⟨_, rfl, rfl, ?_⟩
    rw [noteM, if_neg (fun q => b01_e c11 q.1)]
  · skip
    refine V_iload_n d_md_note_14 rfl rfl ?_
    refine V_iconst (v := 0) d_md_note_15 (by decide) ?_
    refine V_iconst (v := 2) d_md_note_16 (by decide) ?_
    refine V_callS (N := md_in) d_md_note_17 ml_md_114 mdf_md_in ws_md_in (sp_md_in G _ _ _ _) rfl rfl (by decide) (by decide) (Nat.le_of_ble_eq_true rfl) rfl rfl (kI fun r17 h17 ⟨e17, f17⟩ => ?_)
    subst e17 f17
    refine V_if_ne d_md_note_20 (fun c20 => ?_) (fun c20 => ?_)
    · skip
      have q1 := b01_ne c11
      have q2 := b01_ne c20
      obtain ⟨i, hi, rfl⟩ := ix_of h25 (by omega) (b01_ne c11)
      obtain ⟨u, hu, rfl⟩ := ixle (n := 2) (by decide) (b01_ne c20)
      have ci := cl i (by omega)
      obtain ⟨-, -, hc1, hc2⟩ := hw i hi
      have cu := cl u (by omega)
      refine V_iload_n d_md_note_26 rfl rfl ?_
      refine V_iconst (v := 0) d_md_note_27 (by decide) ?_
      refine V_aload_n d_md_note_28 rfl rfl ?_
      refine V_getf d_md_note_29 fl_md_74 r.obj rfl ?_
      refine V_iload_n d_md_note_32 rfl rfl ?_
      refine V_mald r d_md_note_33 (by first | with_reducible rfl | exact ix8 _ _ | exact ix6 _ _ | assumption) rfl rfl (by show _ < 10; omega) ?_
      refine V_iconst (v := 1) d_md_note_34 (by decide) ?_
      refine V_isub d_md_note_35 ?_
      refine V_callS (N := md_in) d_md_note_36 ml_md_114 mdf_md_in ws_md_in (sp_md_in G _ _ _ _) rfl rfl (by decide) (by decide) (Nat.le_of_ble_eq_true rfl) rfl rfl (kI fun r36 h36 ⟨e36, f36⟩ => ?_)
      subst e36 f36
      refine V_if_eq d_md_note_39 (fun c39 => ?_) (fun c39 => ?_)
      · skip
        refine V_iconst (v := -1) d_md_note_60 (by decide) ?_
        refine V_ireturn d_md_note_61 rfl ?_
        refine ⟨_, rfl, rfl, ?_⟩
        rw [noteM, if_pos ⟨q1, q2⟩, ci, if_neg (b01_e c39)]
      · skip
        have q3 := b01_ne c39
        obtain ⟨j, hj, rfl⟩ := ix_of hc1 (by omega) (b01_ne c39)
        have cj := cl j (by omega)
        refine V_aload_n d_md_note_42 rfl rfl ?_
        refine V_getf d_md_note_43 fl_md_77 r.obj rfl ?_
        refine V_iconst (v := 3) d_md_note_46 (by decide) ?_
        refine V_bipush (v := 40) d_md_note_47 (by decide) ?_
        refine V_iload_n d_md_note_49 rfl rfl ?_
        refine V_imul d_md_note_50 ?_
        rw [show (40 : Int32) * nI i = nI (40 * i) from pk_mul 40 i]
        refine V_iload_n d_md_note_51 rfl rfl ?_
        refine V_iadd d_md_note_52 ?_
        rw [nI_add]
        refine V_imul d_md_note_53 ?_
        rw [show (3 : Int32) * nI (40 * i + j) = nI (3 * (40 * i + j)) from pk_mul 3 _]
        refine V_iload_n d_md_note_54 rfl rfl ?_
        refine V_iadd d_md_note_55 ?_
        rw [nI_add]
        refine V_mald r d_md_note_56 (by first | with_reducible rfl | exact ix8 _ _ | exact ix6 _ _ | assumption) rfl rfl (by show _ < 1200; omega) ?_
        refine V_goto d_md_note_57 ?_
        refine V_ireturn d_md_note_61 rfl ?_
        refine ⟨_, rfl, rfl, ?_⟩
        rw [noteM, if_pos ⟨q1, q2⟩, ci, if_pos q3, cj, cu]
    · skip
      refine V_bipush (v := -2) d_md_note_23 (by decide) ?_
      refine V_ireturn d_md_note_25 rfl ?_
      refine ⟨_, rfl, rfl, ?_⟩
      rw [noteM, if_neg (fun q => b01_e c20 q.2)]
def cntM (s : Mem) (w : Int32) : Int32 := if w = 0 then s.1 0 else if w = 1 then s.1 8 else if w = 2 then s.1 33 else if w = 3 then s.1 21 else if w = 4 then nI (nEn s - nD s) else if w = 5 then (if s.1 23 = 0 then -1 else nI (gsz s)) else if w = 6 then s.1 25 else -2
theorem sp_md_count (G : Gk) {h : Hp} {m : Nat} {am : Nat → Nat} {s : Mem} (r : RepM h m am s) (ivh : IvH s) (ivg : IvG s) (w : Int32) : Ct G md_count [.ref m, .int w] h (pI fun r h' => h = h' ∧ r = cntM s w) := by
  obtain ⟨h16, h20, h21, hde, hn60, hg, hE, hen, hmo⟩ := id ivh
  refine Ct.ofL (M := md_count) (lv := [some (.ref m), some (.int w)]) mdf_md_count rfl (Nat.le_of_ble_eq_true rfl) rfl ?_
  refine V_iload_n d_md_count_0 rfl rfl ?_
  by_cases w1_0 : w = 0
  · skip
    subst w1_0
    refine V_tableIn (off := 43) (tgt := 44) d_md_count_1 (by decide) (by decide) rfl (by decide) ?_
    refine V_aload_n d_md_count_44 rfl rfl ?_
    refine V_getf d_md_count_45 fl_md_110 r.obj rfl ?_
    refine V_ireturn d_md_count_48 rfl ?_
    exact ⟨_, rfl, rfl, rfl⟩
  by_cases w1_1 : w = 1
  · skip
    subst w1_1
    refine V_tableIn (off := 48) (tgt := 49) d_md_count_1 (by decide) (by decide) rfl (by decide) ?_
    refine V_aload_n d_md_count_49 rfl rfl ?_
    refine V_getf d_md_count_50 fl_md_122 r.obj rfl ?_
    refine V_ireturn d_md_count_53 rfl ?_
    exact ⟨_, rfl, rfl, rfl⟩
  by_cases w1_2 : w = 2
  · skip
    subst w1_2
    refine V_tableIn (off := 53) (tgt := 54) d_md_count_1 (by decide) (by decide) rfl (by decide) ?_
    refine V_aload_n d_md_count_54 rfl rfl ?_
    refine V_getf d_md_count_55 fl_md_257 r.obj rfl ?_
    refine V_ireturn d_md_count_58 rfl ?_
    exact ⟨_, rfl, rfl, rfl⟩
  by_cases w1_3 : w = 3
  · skip
    subst w1_3
    refine V_tableIn (off := 58) (tgt := 59) d_md_count_1 (by decide) (by decide) rfl (by decide) ?_
    refine V_aload_n d_md_count_59 rfl rfl ?_
    refine V_getf d_md_count_60 fl_md_194 r.obj rfl ?_
    refine V_ireturn d_md_count_63 rfl ?_
    exact ⟨_, rfl, rfl, rfl⟩
  by_cases w1_4 : w = 4
  · skip
    subst w1_4
    refine V_tableIn (off := 63) (tgt := 64) d_md_count_1 (by decide) (by decide) rfl (by decide) ?_
    refine V_aload_n d_md_count_64 rfl rfl ?_
    refine V_getf d_md_count_65 fl_md_197 r.obj rfl ?_
    rw [h20]
    refine V_aload_n d_md_count_68 rfl rfl ?_
    refine V_getf d_md_count_69 fl_md_194 r.obj rfl ?_
    rw [h21]
    refine V_isub d_md_count_72 ?_
    rw [pk_sub hde]
    refine V_ireturn d_md_count_73 rfl ?_
    exact ⟨_, rfl, rfl, rfl⟩
  by_cases w1_5 : w = 5
  · skip
    subst w1_5
    refine V_tableIn (off := 73) (tgt := 74) d_md_count_1 (by decide) (by decide) rfl (by decide) ?_
    refine V_aload_n d_md_count_74 rfl rfl ?_
    refine V_getf d_md_count_75 fl_md_214 r.obj rfl ?_
    refine V_if_eq d_md_count_78 (fun c78 => ?_) (fun c78 => ?_)
    · skip
      refine V_iconst (v := -1) d_md_count_88 (by decide) ?_
      refine V_ireturn d_md_count_89 rfl ?_
      refine ⟨_, rfl, rfl, ?_⟩
      rw [show cntM s 5 = if s.1 23 = 0 then -1 else nI (gsz s) from rfl, if_pos c78]
    · skip
      refine V_aload_n d_md_count_81 rfl rfl ?_
      refine V_callV (N := md_groupSize) d_md_count_82 ml_md_247 mdf_md_groupSize wi_md_groupSize wz_md_groupSize (sp_md_groupSize G r ivh ivg) r.obj ⟨_, rfl, rfl⟩ rfl rfl (by decide) (by decide) (Nat.le_of_ble_eq_true rfl) rfl rfl (kI fun r82 h82 ⟨e82, f82⟩ => ?_)
      subst e82 f82
      refine V_goto d_md_count_85 ?_
      refine V_ireturn d_md_count_89 rfl ?_
      refine ⟨_, rfl, rfl, ?_⟩
      rw [show cntM s 5 = if s.1 23 = 0 then -1 else nI (gsz s) from rfl, if_neg c78]
  by_cases w1_6 : w = 6
  · skip
    subst w1_6
    refine V_tableIn (off := 89) (tgt := 90) d_md_count_1 (by decide) (by decide) rfl (by decide) ?_
    refine V_aload_n d_md_count_90 rfl rfl ?_
    refine V_getf d_md_count_91 fl_md_188 r.obj rfl ?_
    refine V_ireturn d_md_count_94 rfl ?_
    exact ⟨_, rfl, rfl, rfl⟩
  refine V_tableOut (tgt := 95) d_md_count_1 (sw_out (n := 6) (fun k hk => by rcases (show k = 0 ∨ k = 1 ∨ k = 2 ∨ k = 3 ∨ k = 4 ∨ k = 5 ∨ k = 6 by omega) with rfl | rfl | rfl | rfl | rfl | rfl | rfl; exact w1_0; exact w1_1; exact w1_2; exact w1_3; exact w1_4; exact w1_5; exact w1_6)) (by decide) ?_
  refine V_bipush (v := -2) d_md_count_95 (by decide) ?_
  refine V_ireturn d_md_count_97 rfl ?_
  refine ⟨_, rfl, rfl, ?_⟩
  simp [cntM, *]
def lkF (s : Mem) (o : Nat) : Nat → Int32
  | 0 => 0
  | f + 1 => lkF s o f + (if 0 < s.2 7 (8 * sh s o + f) &&& 1 ∧ s.2 10 (8 * o + f) = MISS then 1 else 0)
def lkO (s : Mem) : Nat → Int32
  | 0 => 0
  | o + 1 => lkO s o + lkF s o (nf s (sh s o))
theorem lp_lacks2 (G : Gk) {h : Hp} {m : Nat} {am : Nat → Nat} {s : Mem} (r : RepM h m am s) (ivs : IvS s) (ivo : IvO s) (A : Int32) (o : Nat) (ho : o < nO s) (post : Option Value → Hp → Prop) (K : ∀ l3, V G md_lacks post h 0 0 75 [some (.ref m), some (.int (A + lkF s o (nf s (sh s o)))), some (.int (nI o)), l3] []) : ∀ (c f : Nat), f + c = nf s (sh s o) →
    V G md_lacks post h 0 0 14 [some (.ref m), some (.int (A + lkF s o f)), some (.int (nI o)), some (.int (nI f))] [] := by
  have h10 := ivs.2.1
  have h60 := ivo.2.1
  obtain ⟨hs1, hs2⟩ := ivo.2.2 o ho
  obtain ⟨hf1, hf8⟩ := ivs.2.2.1 _ hs2
  have hoo : IvO s ∧ o < nO s := ⟨ivo, ho⟩
  intro c
  induction c with
  | zero =>
    intro f hf
    refine V_iload_n d_md_lacks_14 rfl rfl ?_
    refine V_aload_n d_md_lacks_15 rfl rfl ?_
    refine V_getf d_md_lacks_16 fl_md_13 r.obj rfl ?_
    refine V_aload_n d_md_lacks_19 rfl rfl ?_
    refine V_getf d_md_lacks_20 fl_md_31 r.obj rfl ?_
    refine V_iload_n d_md_lacks_23 rfl rfl ?_
    refine V_mald r d_md_lacks_24 (by first | with_reducible rfl | exact ix8 _ _ | exact ix6 _ _ | assumption) rfl rfl (by show _ < 60; omega) ?_
    rw [hs1]
    refine V_mald r d_md_lacks_25 (by first | with_reducible rfl | exact ix8 _ _ | exact ix6 _ _ | assumption) rfl rfl (by show _ < 10; omega) ?_
    rw [hf1]
    refine V_icmp_ge d_md_lacks_26 (fun c26 => ?_) (fun c26 => ?_)
    · skip
      obtain rfl : f = nf s (sh s o) := by omega
      exact K _
    · skip
      exact absurd (ltN c26 (by omega)) (by omega)
  | succ c ih =>
    intro f hf
    refine V_iload_n d_md_lacks_14 rfl rfl ?_
    refine V_aload_n d_md_lacks_15 rfl rfl ?_
    refine V_getf d_md_lacks_16 fl_md_13 r.obj rfl ?_
    refine V_aload_n d_md_lacks_19 rfl rfl ?_
    refine V_getf d_md_lacks_20 fl_md_31 r.obj rfl ?_
    refine V_iload_n d_md_lacks_23 rfl rfl ?_
    refine V_mald r d_md_lacks_24 (by first | with_reducible rfl | exact ix8 _ _ | exact ix6 _ _ | assumption) rfl rfl (by show _ < 60; omega) ?_
    rw [hs1]
    refine V_mald r d_md_lacks_25 (by first | with_reducible rfl | exact ix8 _ _ | exact ix6 _ _ | assumption) rfl rfl (by show _ < 10; omega) ?_
    rw [hf1]
    refine V_icmp_ge d_md_lacks_26 (fun c26 => ?_) (fun c26 => ?_)
    · skip
      exact absurd (geN c26 (by omega)) (by omega)
    · skip
      refine V_iload_n d_md_lacks_29 rfl rfl ?_
      refine V_aload_n d_md_lacks_30 rfl rfl ?_
      refine V_getf d_md_lacks_31 fl_md_28 r.obj rfl ?_
      refine V_aload_n d_md_lacks_34 rfl rfl ?_
      refine V_iload_n d_md_lacks_35 rfl rfl ?_
      refine V_iload_n d_md_lacks_36 rfl rfl ?_
      refine V_callV (N := md_by) d_md_lacks_37 ml_md_156 mdf_md_by wi_md_by wz_md_by (sp_md_by G r _ _ (by first | assumption | exact ⟨by assumption, by assumption⟩)) r.obj ⟨_, rfl, rfl⟩ rfl rfl (by decide) (by decide) (Nat.le_of_ble_eq_true rfl) rfl rfl (kI fun r37 h37 ⟨e37, f37⟩ => ?_)
      subst e37 f37
      refine V_mald r d_md_lacks_40 (by first | with_reducible rfl | exact ix8 _ _ | exact ix6 _ _ | assumption) rfl rfl (by show _ < 80; omega) ?_
      refine V_iconst (v := 1) d_md_lacks_41 (by decide) ?_
      refine V_iand d_md_lacks_42 ?_
      refine V_if_le d_md_lacks_43 (fun c43 => ?_) (fun c43 => ?_)
      · skip
        refine V_iconst (v := 0) d_md_lacks_66 (by decide) ?_
        refine V_iadd d_md_lacks_67 ?_
        refine V_istore_n d_md_lacks_68 rfl (by decide) rfl rfl ?_
        dsimp only [List.set]
        refine V_iinc (v := _) d_md_lacks_69 rfl rfl (by decide) rfl rfl ?_
        dsimp only [List.set]
        refine V_goto d_md_lacks_72 ?_
        rw [show Int32.ofInt 1 = 1 from rfl, nI_1, Int32.add_assoc]
        have := ih (f + 1) (by omega)
        rw [lkF, if_neg (fun q => absurd q.1 (Int32.not_lt.mpr c43))] at this
        exact this
      · skip
        refine V_aload_n d_md_lacks_46 rfl rfl ?_
        refine V_getf d_md_lacks_47 fl_md_34 r.obj rfl ?_
        refine V_aload_n d_md_lacks_50 rfl rfl ?_
        refine V_iload_n d_md_lacks_51 rfl rfl ?_
        refine V_iload_n d_md_lacks_52 rfl rfl ?_
        refine V_callV (N := md_at) d_md_lacks_53 ml_md_152 mdf_md_at wi_md_at wz_md_at (sp_md_at G _ _ _ _) r.obj ⟨_, rfl, rfl⟩ rfl rfl (by decide) (by decide) (Nat.le_of_ble_eq_true rfl) rfl rfl (kI fun r53 h53 ⟨e53, f53⟩ => ?_)
        subst e53 f53
        refine V_mald r d_md_lacks_56 (by first | with_reducible rfl | exact ix8 _ _ | exact ix6 _ _ | assumption) rfl rfl (by show _ < 480; omega) ?_
        refine V_ldc d_md_lacks_57 kc_md_129 ?_
        refine V_icmp_ne d_md_lacks_59 (fun c59 => ?_) (fun c59 => ?_)
        · skip
          refine V_iconst (v := 0) d_md_lacks_66 (by decide) ?_
          refine V_iadd d_md_lacks_67 ?_
          refine V_istore_n d_md_lacks_68 rfl (by decide) rfl rfl ?_
          dsimp only [List.set]
          refine V_iinc (v := _) d_md_lacks_69 rfl rfl (by decide) rfl rfl ?_
          dsimp only [List.set]
          refine V_goto d_md_lacks_72 ?_
          rw [show Int32.ofInt 1 = 1 from rfl, nI_1, Int32.add_assoc]
          have := ih (f + 1) (by omega)
          rw [lkF, if_neg (fun q => c59 q.2)] at this
          exact this
        · skip
          refine V_iconst (v := 1) d_md_lacks_62 (by decide) ?_
          refine V_goto d_md_lacks_63 ?_
          refine V_iadd d_md_lacks_67 ?_
          refine V_istore_n d_md_lacks_68 rfl (by decide) rfl rfl ?_
          dsimp only [List.set]
          refine V_iinc (v := _) d_md_lacks_69 rfl rfl (by decide) rfl rfl ?_
          dsimp only [List.set]
          refine V_goto d_md_lacks_72 ?_
          rw [show Int32.ofInt 1 = 1 from rfl, nI_1, Int32.add_assoc]
          have := ih (f + 1) (by omega)
          rw [lkF, if_pos ⟨Int32.not_le.mp c43, c59⟩] at this
          exact this
theorem lp_lacks1 (G : Gk) {h : Hp} {m : Nat} {am : Nat → Nat} {s : Mem} (r : RepM h m am s) (ivs : IvS s) (ivo : IvO s) : ∀ (c o : Nat) (l3 : Option Value), o + c = nO s →
    V G md_lacks (pI fun r h' => h = h' ∧ r = lkO s (nO s)) h 0 0 4 [some (.ref m), some (.int (lkO s o)), some (.int (nI o)), l3] [] := by
  have h60 := ivo.2.1
  intro c
  induction c with
  | zero =>
    intro o l3 ho
    refine V_iload_n d_md_lacks_4 rfl rfl ?_
    refine V_aload_n d_md_lacks_5 rfl rfl ?_
    refine V_getf d_md_lacks_6 fl_md_122 r.obj rfl ?_
    rw [ivo.1]
    refine V_icmp_ge d_md_lacks_9 (fun c9 => ?_) (fun c9 => ?_)
    · skip
      refine V_iload_n d_md_lacks_81 rfl rfl ?_
      refine V_ireturn d_md_lacks_82 rfl ?_
      obtain rfl : o = nO s := by omega
      exact ⟨_, rfl, rfl, rfl⟩
    · skip
      exact absurd (ltN c9 (by omega)) (by omega)
  | succ c ih =>
    intro o l3 ho
    refine V_iload_n d_md_lacks_4 rfl rfl ?_
    refine V_aload_n d_md_lacks_5 rfl rfl ?_
    refine V_getf d_md_lacks_6 fl_md_122 r.obj rfl ?_
    rw [ivo.1]
    refine V_icmp_ge d_md_lacks_9 (fun c9 => ?_) (fun c9 => ?_)
    · skip
      exact absurd (geN c9 (by omega)) (by omega)
    · skip
      refine V_iconst (v := 0) d_md_lacks_12 (by decide) ?_
      refine V_istore_n d_md_lacks_13 rfl (by decide) rfl rfl ?_
      dsimp only [List.set]
      have key := lp_lacks2 G r ivs ivo (lkO s o) o (by omega) (pI fun r h' => h = h' ∧ r = lkO s (nO s)) (fun l3 => ?_) (nf s (sh s o)) 0 (by omega)
      · (rw [show lkO s o + lkF s o 0 = lkO s o from Int32.add_zero _] at key; exact key)
      refine V_iinc d_md_lacks_75 rfl rfl (by decide) rfl rfl ?_
      dsimp only [List.set]
      refine V_goto d_md_lacks_78 ?_
      rw [show Int32.ofInt 1 = 1 from rfl, nI_1]
      exact ih (o + 1) _ (by omega)
theorem sp_md_lacks (G : Gk) {h : Hp} {m : Nat} {am : Nat → Nat} {s : Mem} (r : RepM h m am s) (ivs : IvS s) (ivo : IvO s) : Ct G md_lacks [.ref m] h (pI fun r h' => h = h' ∧ r = lkO s (nO s)) := by
  refine Ct.ofL (M := md_lacks) (lv := [some (.ref m), none, none, none]) mdf_md_lacks rfl (Nat.le_of_ble_eq_true rfl) rfl ?_
  refine V_iconst (v := 0) d_md_lacks_0 (by decide) ?_
  refine V_istore_n d_md_lacks_1 rfl (by decide) rfl rfl ?_
  dsimp only [List.set]
  refine V_iconst (v := 0) d_md_lacks_2 (by decide) ?_
  refine V_istore_n d_md_lacks_3 rfl (by decide) rfl rfl ?_
  dsimp only [List.set]
  exact lp_lacks1 G r ivs ivo (nO s) 0 _ (by omega)
