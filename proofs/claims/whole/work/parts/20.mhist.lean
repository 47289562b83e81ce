/-! the reference's history: doneEnd, notes, begins, enters -/
def nE (s : Mem) : Nat := (s.1 16).toNatClampNeg
def nEn (s : Mem) : Nat := (s.1 20).toNatClampNeg
def nD (s : Mem) : Nat := (s.1 21).toNatClampNeg
def en (s : Mem) (k : Nat) : Nat := (s.2 22 k).toNatClampNeg
def dEnd (s : Mem) : Nat := if nD s = 0 then 0 else en s (nD s - 1)
/-- the numbers of the history -/
def IvH (s : Mem) : Prop := s.1 16 = nI (nE s) ∧ s.1 20 = nI (nEn s) ∧ s.1 21 = nI (nD s) ∧ nD s ≤ nEn s ∧ nEn s ≤ 60 ∧ (s.1 23 = 0 ∨ s.1 23 = 1) ∧ nE s < 690 ∧ (∀ k, k < nEn s → s.2 22 k = nI (en s k) ∧ en s k ≤ nE s) ∧ (∀ k, k + 1 < nEn s → en s k ≤ en s (k + 1))
theorem ixm {a : Nat} (h : 0 < a) : nI a - 1 = nI (a - 1) := by
  have := pk_sub (a := a) (b := 1) h
  exact this
theorem geN_le {a b : Nat} (h : nI a ≤ nI b) (ha : a < 2147483648) : a ≤ b := Nat.not_lt.mp (fun q => nI_ge q (by omega) h)
theorem sp_md_doneEnd' (G : Gk) {h : Hp} {m : Nat} {am : Nat → Nat} {s s0 : Mem} (r : RepM h m am s) (h21 : s.1 21 = nI (nD s0)) (h60 : nD s0 ≤ 60) (hen : ∀ k, k < nD s0 → s.2 22 k = nI (en s0 k)) : Ct G md_doneEnd [.ref m] h (pI fun r h' => h = h' ∧ r = nI (dEnd s0)) := by
  refine Ct.ofL (M := md_doneEnd) (lv := [some (.ref m)]) mdf_md_doneEnd rfl (Nat.le_of_ble_eq_true rfl) rfl ?_
  refine V_aload_n d_md_doneEnd_0 rfl rfl ?_
  refine V_getf d_md_doneEnd_1 fl_md_194 r.obj rfl ?_
  rw [h21]
  refine V_if_ne d_md_doneEnd_4 (fun c4 => ?_) (fun c4 => ?_)
  · skip
    have hd : 0 < nD s0 := by rcases Nat.eq_zero_or_pos (nD s0) with q | q; exact absurd (by rw [q]; rfl) c4; exact q
    refine V_aload_n d_md_doneEnd_11 rfl rfl ?_
    refine V_getf d_md_doneEnd_12 fl_md_58 r.obj rfl ?_
    refine V_aload_n d_md_doneEnd_15 rfl rfl ?_
    refine V_getf d_md_doneEnd_16 fl_md_194 r.obj rfl ?_
    rw [h21]
    refine V_iconst (v := 1) d_md_doneEnd_19 (by decide) ?_
    refine V_isub d_md_doneEnd_20 ?_
    rw [ixm hd]
    refine V_mald r d_md_doneEnd_21 (by first | with_reducible rfl | exact ix8 _ _ | exact ix6 _ _ | assumption) rfl rfl (by show _ < 61; omega) ?_
    refine V_ireturn d_md_doneEnd_22 rfl ?_
    refine ⟨_, rfl, rfl, ?_⟩
    rw [dEnd, if_neg (by omega)]
    exact hen _ (by omega)
  · skip
    refine V_iconst (v := 0) d_md_doneEnd_7 (by decide) ?_
    refine V_goto d_md_doneEnd_8 ?_
    refine V_ireturn d_md_doneEnd_22 rfl ?_
    refine ⟨_, rfl, rfl, ?_⟩
    rw [dEnd, if_pos (eqN (a := nD s0) (b := 0) c4 (by omega) (by decide))]
    rfl
theorem sp_md_doneEnd (G : Gk) {h : Hp} {m : Nat} {am : Nat → Nat} {s : Mem} (r : RepM h m am s) (ivh : IvH s) : Ct G md_doneEnd [.ref m] h (pI fun r h' => h = h' ∧ r = nI (dEnd s)) := by
  obtain ⟨h16, h20, h21, hde, h60, hg, hE, hen, hmo⟩ := ivh
  refine Ct.ofL (M := md_doneEnd) (lv := [some (.ref m)]) mdf_md_doneEnd rfl (Nat.le_of_ble_eq_true rfl) rfl ?_
  refine V_aload_n d_md_doneEnd_0 rfl rfl ?_
  refine V_getf d_md_doneEnd_1 fl_md_194 r.obj rfl ?_
  rw [h21]
  refine V_if_ne d_md_doneEnd_4 (fun c4 => ?_) (fun c4 => ?_)
  · skip
    have hd : 0 < nD s := by rcases Nat.eq_zero_or_pos (nD s) with q | q; exact absurd (by rw [q]; rfl) c4; exact q
    refine V_aload_n d_md_doneEnd_11 rfl rfl ?_
    refine V_getf d_md_doneEnd_12 fl_md_58 r.obj rfl ?_
    refine V_aload_n d_md_doneEnd_15 rfl rfl ?_
    refine V_getf d_md_doneEnd_16 fl_md_194 r.obj rfl ?_
    rw [h21]
    refine V_iconst (v := 1) d_md_doneEnd_19 (by decide) ?_
    refine V_isub d_md_doneEnd_20 ?_
    rw [ixm hd]
    refine V_mald r d_md_doneEnd_21 (by first | with_reducible rfl | exact ix8 _ _ | exact ix6 _ _ | assumption) rfl rfl (by show _ < 61; omega) ?_
    refine V_ireturn d_md_doneEnd_22 rfl ?_
    refine ⟨_, rfl, rfl, ?_⟩
    rw [dEnd, if_neg (by omega)]
    exact (hen _ (by omega)).1
  · skip
    refine V_iconst (v := 0) d_md_doneEnd_7 (by decide) ?_
    refine V_goto d_md_doneEnd_8 ?_
    refine V_ireturn d_md_doneEnd_22 rfl ?_
    refine ⟨_, rfl, rfl, ?_⟩
    rw [dEnd, if_pos (eqN (a := nD s) (b := 0) c4 (by omega) (by decide))]
    rfl
/-- a watch notes, up to number k -/
def NoteE (s : Mem) (o f : Nat) (a : Int32) (k : Nat) (t : Mem) : Prop := t.1 = s.1 ∧ (∀ q, q ≠ 30 → q ≠ 31 → t.2 q = s.2 q) ∧
  (∀ w, w < k → seesW s o f w → wc s w < 40 → t.2 30 w = nI (wc s w + 1) ∧ t.2 31 (3 * (40 * w + wc s w)) = nI o ∧ t.2 31 (3 * (40 * w + wc s w) + 1) = a ∧ t.2 31 (3 * (40 * w + wc s w) + 2) = s.2 10 (8 * o + f)) ∧
  (∀ w, (k ≤ w ∨ ¬ (seesW s o f w ∧ wc s w < 40)) → t.2 30 w = s.2 30 w) ∧
  (∀ i, (∀ w, w < k → seesW s o f w → wc s w < 40 → ¬ (3 * (40 * w + wc s w) ≤ i ∧ i < 3 * (40 * w + wc s w) + 3)) → t.2 31 i = s.2 31 i)
theorem NoteE.skip {s t : Mem} {o f k : Nat} {a : Int32} (h : NoteE s o f a k t) (hk : ¬ (seesW s o f k ∧ wc s k < 40)) : NoteE s o f a (k + 1) t := by
  obtain ⟨h1, h2, h3, h4, h5⟩ := h
  refine ⟨h1, h2, fun w q1 q2 q3 => ?_, fun w q => h4 w (q.imp (fun z => by omega) id), fun i q => h5 i (fun w z => q w (by omega))⟩
  rcases Nat.lt_succ_iff_lt_or_eq.mp q1 with z | rfl
  · exact h3 w z q2 q3
  · exact absurd ⟨q2, q3⟩ hk
theorem NoteE.put {s t : Mem} {o f k : Nat} {a : Int32} (h : NoteE s o f a k t) (hk : seesW s o f k) (hc : wc s k < 40) :
    NoteE s o f a (k + 1) (mA (mA (mA (mA t 31 (3 * (40 * k + wc s k)) (nI o)) 31 (3 * (40 * k + wc s k) + 1) a) 31 (3 * (40 * k + wc s k) + 2) (s.2 10 (8 * o + f))) 30 k (nI (wc s k + 1))) := by
  obtain ⟨h1, h2, h3, h4, h5⟩ := h
  have e31 : (mA (mA (mA (mA t 31 (3 * (40 * k + wc s k)) (nI o)) 31 (3 * (40 * k + wc s k) + 1) a) 31 (3 * (40 * k + wc s k) + 2) (s.2 10 (8 * o + f))) 30 k (nI (wc s k + 1))).2 31 = upd (upd (upd (t.2 31) (3 * (40 * k + wc s k)) (nI o)) (3 * (40 * k + wc s k) + 1) a) (3 * (40 * k + wc s k) + 2) (s.2 10 (8 * o + f)) := by
    rw [mA_2n _ _ _ (by decide), mA_2s, mA_2s, mA_2s]
  have e30 : (mA (mA (mA (mA t 31 (3 * (40 * k + wc s k)) (nI o)) 31 (3 * (40 * k + wc s k) + 1) a) 31 (3 * (40 * k + wc s k) + 2) (s.2 10 (8 * o + f))) 30 k (nI (wc s k + 1))).2 30 = upd (t.2 30) k (nI (wc s k + 1)) := by
    rw [mA_2s, mA_2n _ _ _ (by decide), mA_2n _ _ _ (by decide), mA_2n _ _ _ (by decide)]
  refine ⟨h1, fun q q1 q2 => by rw [mA_2n _ _ _ q1, mA_2n _ _ _ q2, mA_2n _ _ _ q2, mA_2n _ _ _ q2]; exact h2 q q1 q2, fun w q1 q2 q3 => ?_, fun w q => ?_, fun i q => ?_⟩
  · rw [e30, e31]
    rcases Nat.lt_succ_iff_lt_or_eq.mp q1 with z | rfl
    · obtain ⟨g1, g2, g3, g4⟩ := h3 w z q2 q3
      refine ⟨by rw [pk_un (by omega)]; exact g1, ?_, ?_, ?_⟩
      · rw [pk_un (by omega), pk_un (by omega), pk_un (by omega)]; exact g2
      · rw [pk_un (by omega), pk_un (by omega), pk_un (by omega)]; exact g3
      · rw [pk_un (by omega), pk_un (by omega), pk_un (by omega)]; exact g4
    · refine ⟨pk_us, ?_, ?_, ?_⟩
      · rw [pk_un (by omega), pk_un (by omega), pk_us]
      · rw [pk_un (by omega), pk_us]
      · rw [pk_us]
  · rw [e30]
    have hne : w ≠ k := by
      rintro rfl
      rcases q with z | z
      · omega
      · exact z ⟨hk, hc⟩
    rw [pk_un hne]
    exact h4 w (q.imp (fun z => by omega) id)
  · rw [e31]
    have := q k (by omega) hk hc
    rw [pk_un (by omega), pk_un (by omega), pk_un (by omega)]
    exact h5 i (fun w z => q w (by omega))
theorem isOfF_congr {ab ab2 : Nat → Int32} (h : ab = ab2) (o : Int32) (n : Nat) (a : Int32) : isOfF ab o n a = isOfF ab2 o n a := by rw [h]
theorem lp_notes (G : Gk) {m : Nat} {am : Nat → Nat} {s : Mem} {h0 : Hp} (ivs : IvS s) (ivo : IvO s) (ivw : IvW s) (o f : Nat) (ho : o < nO s) (hf : f < 8) (a : Int32) : ∀ (n k : Nat) (h : Hp) (t : Mem) (l5 : Option Value), k ≤ nW s → nW s + 1 ≤ k + n → Mod h0 m am h t → NoteE s o f a k t →
    V G md_notes (pN fun h' => ∃ t, Mod h0 m am h' t ∧ NoteE s o f a (nW s) t) h 0 0 3 [some (.ref m), some (.int (nI o)), some (.int (nI f)), some (.int a), some (.int (nI k)), l5] [] := by
  have h10 := ivw.2.1
  have h60 := ivo.2.1
  obtain ⟨hs1, hs2⟩ := ivo.2.2 o ho
  intro n
  induction n with
  | zero => intro k h t l5 h1 h2; exact absurd h2 (by omega)
  | succ n ih =>
    intro k h t l5 hq1 hq2 hM hs
    have r := hM.1
    have e25 : t.1 25 = nI (nW s) := by rw [hs.1]; exact ivw.1
    have e30 : t.2 30 k = s.2 30 k := hs.2.2.2.1 k (Or.inl (Nat.le_refl _))
    have i1 : IvS t := by
      have a0 : t.1 0 = s.1 0 := by rw [hs.1]
      have a1 := hs.2.1 1 (by decide) (by decide)
      have a2 := hs.2.1 2 (by decide) (by decide)
      unfold IvS nS nf at *
      rw [a0, a1, a2]
      exact ivs
    have eS : nS t = nS s := by unfold nS; rw [hs.1]
    have eI : ∀ u v, isOf t u v = isOf s u v := fun u v => isOfF_congr (hs.2.1 1 (by decide) (by decide)) v 10 u
    refine V_iload d_md_notes_3 rfl ?_
    refine V_aload_n d_md_notes_5 rfl rfl ?_
    refine V_getf d_md_notes_6 fl_md_188 r.obj rfl ?_
    rw [e25]
    refine V_icmp_ge d_md_notes_9 (fun c9 => ?_) (fun c9 => ?_)
    · skip
      obtain rfl : k = nW s := by have := geN c9 (by omega); omega
      refine V_return d_md_notes_127 rfl ?_
      exact ⟨rfl, t, hM, hs⟩
    · skip
      have hlt := ltN c9 (by omega)
      obtain ⟨⟨wi, hwi1, hwi2⟩, -, hc1, hc2⟩ := ivw.2.2 k hlt
      refine V_aload_n d_md_notes_12 rfl rfl ?_
      refine V_getf d_md_notes_13 fl_md_64 r.obj rfl ?_
      refine V_iload d_md_notes_16 rfl ?_
      refine V_mald r d_md_notes_18 (by first | with_reducible rfl | exact ix8 _ _ | exact ix6 _ _ | assumption) rfl rfl (by show _ < 10; omega) ?_
      rw [hs.2.1 27 (by decide) (by decide)]
      refine V_iload_n d_md_notes_19 rfl rfl ?_
      refine V_icmp_ne d_md_notes_20 (fun c20 => ?_) (fun c20 => ?_)
      · skip
        refine V_iinc (v := _) d_md_notes_121 rfl rfl (by decide) rfl rfl ?_
        dsimp only [List.set]
        refine V_goto d_md_notes_124 ?_
        rw [show Int32.ofInt 1 = 1 from rfl, nI_1]
        exact ih (k + 1) _ _ _ (by omega) (by omega) hM (hs.skip (fun q => c20 q.1.1))
      · skip
        refine V_aload_n d_md_notes_23 rfl rfl ?_
        refine V_aload_n d_md_notes_24 rfl rfl ?_
        refine V_getf d_md_notes_25 fl_md_31 r.obj rfl ?_
        refine V_iload_n d_md_notes_28 rfl rfl ?_
        refine V_mald r d_md_notes_29 (by first | with_reducible rfl | exact ix8 _ _ | exact ix6 _ _ | assumption) rfl rfl (by show _ < 60; omega) ?_
        rw [hs.2.1 9 (by decide) (by decide), hs1]
        refine V_aload_n d_md_notes_30 rfl rfl ?_
        refine V_getf d_md_notes_31 fl_md_61 r.obj rfl ?_
        refine V_iload d_md_notes_34 rfl ?_
        refine V_mald r d_md_notes_36 (by first | with_reducible rfl | exact ix8 _ _ | exact ix6 _ _ | assumption) rfl rfl (by show _ < 10; omega) ?_
        rw [hs.2.1 26 (by decide) (by decide)]
        refine V_callV (N := md_isOf) d_md_notes_37 ml_md_191 mdf_md_isOf wi_md_isOf wz_md_isOf (sp_md_isOf G r i1 _ _ (Or.inr ⟨sh s o, by rw [eS]; exact hs2, rfl⟩)) r.obj ⟨_, rfl, rfl⟩ rfl rfl (by decide) (by decide) (Nat.le_of_ble_eq_true rfl) rfl rfl (kI fun r37 h37 ⟨e37, f37⟩ => ?_)
        subst e37 f37
        rw [eI]
        refine V_if_eq d_md_notes_40 (fun c40 => ?_) (fun c40 => ?_)
        · skip
          refine V_iinc (v := _) d_md_notes_121 rfl rfl (by decide) rfl rfl ?_
          dsimp only [List.set]
          refine V_goto d_md_notes_124 ?_
          rw [show Int32.ofInt 1 = 1 from rfl, nI_1]
          exact ih (k + 1) _ _ _ (by omega) (by omega) hM (hs.skip (fun q => b01_e c40 q.1.2))
        · skip
          refine V_aload_n d_md_notes_43 rfl rfl ?_
          refine V_getf d_md_notes_44 fl_md_74 r.obj rfl ?_
          refine V_iload d_md_notes_47 rfl ?_
          refine V_mald r d_md_notes_49 (by first | with_reducible rfl | exact ix8 _ _ | exact ix6 _ _ | assumption) rfl rfl (by show _ < 10; omega) ?_
          rw [e30, hc1]
          refine V_bipush (v := 40) d_md_notes_50 (by decide) ?_
          refine V_icmp_ge d_md_notes_52 (fun c52 => ?_) (fun c52 => ?_)
          · skip
            refine V_iinc (v := _) d_md_notes_121 rfl rfl (by decide) rfl rfl ?_
            dsimp only [List.set]
            refine V_goto d_md_notes_124 ?_
            rw [show Int32.ofInt 1 = 1 from rfl, nI_1]
            exact ih (k + 1) _ _ _ (by omega) (by omega) hM (hs.skip (fun q => absurd (geN (b := 40) (a := wc s k) c52 (by decide)) (by omega)))
          · skip
            have hsee : seesW s o f k := ⟨c20, b01_ne c40⟩
            have hc40 : wc s k < 40 := Nat.lt_of_not_le (fun q => c52 (nI_le q (by omega)))
            refine V_iconst (v := 3) d_md_notes_55 (by decide) ?_
            refine V_bipush (v := 40) d_md_notes_56 (by decide) ?_
            refine V_iload d_md_notes_58 rfl ?_
            refine V_imul d_md_notes_60 ?_
            refine V_aload_n d_md_notes_61 rfl rfl ?_
            refine V_getf d_md_notes_62 fl_md_74 r.obj rfl ?_
            refine V_iload d_md_notes_65 rfl ?_
            refine V_mald r d_md_notes_67 (by first | with_reducible rfl | exact ix8 _ _ | exact ix6 _ _ | assumption) rfl rfl (by show _ < 10; omega) ?_
            rw [e30, hc1]
            refine V_iadd d_md_notes_68 ?_
            rw [show (40 : Int32) * nI k = nI (40 * k) from pk_mul 40 k, nI_add]
            refine V_imul d_md_notes_69 ?_
            rw [show (3 : Int32) * nI (40 * k + wc s k) = nI (3 * (40 * k + wc s k)) from pk_mul 3 _]
            refine V_istore d_md_notes_70 (by decide) rfl rfl ?_
            dsimp only [List.set]
            refine V_aload_n d_md_notes_72 rfl rfl ?_
            refine V_getf d_md_notes_73 fl_md_77 r.obj rfl ?_
            refine V_iload d_md_notes_76 rfl ?_
            refine V_iload_n d_md_notes_78 rfl rfl ?_
            refine V_mast r d_md_notes_79 (by first | with_reducible rfl | exact ix8 _ _ | exact ix6 _ _ | assumption) rfl rfl (by show _ < 1200; omega) (fun h79 M79 => ?_)
            have R79 := M79.1
            refine V_aload_n d_md_notes_80 rfl rfl ?_
            refine V_getf d_md_notes_81 fl_md_77 R79.obj rfl ?_
            refine V_iload d_md_notes_84 rfl ?_
            refine V_iconst (v := 1) d_md_notes_86 (by decide) ?_
            refine V_iadd d_md_notes_87 ?_
            rw [nI_1]
            refine V_iload_n d_md_notes_88 rfl rfl ?_
            refine V_mast R79 d_md_notes_89 (by first | with_reducible rfl | exact ix8 _ _ | exact ix6 _ _ | assumption) rfl rfl (by show _ < 1200; omega) (fun h89 M89 => ?_)
            have R89 := M89.1
            refine V_aload_n d_md_notes_90 rfl rfl ?_
            refine V_getf d_md_notes_91 fl_md_77 R89.obj rfl ?_
            refine V_iload d_md_notes_94 rfl ?_
            refine V_iconst (v := 2) d_md_notes_96 (by decide) ?_
            refine V_iadd d_md_notes_97 ?_
            rw [show nI (3 * (40 * k + wc s k)) + 2 = nI (3 * (40 * k + wc s k) + 2) from nI_add _ 2]
            refine V_aload_n d_md_notes_98 rfl rfl ?_
            refine V_getf d_md_notes_99 fl_md_34 R89.obj rfl ?_
            refine V_aload_n d_md_notes_102 rfl rfl ?_
            refine V_iload_n d_md_notes_103 rfl rfl ?_
            refine V_iload_n d_md_notes_104 rfl rfl ?_
            refine V_callV (N := md_at) d_md_notes_105 ml_md_152 mdf_md_at wi_md_at wz_md_at (sp_md_at G _ _ _ _) R89.obj ⟨_, rfl, rfl⟩ rfl rfl (by decide) (by decide) (Nat.le_of_ble_eq_true rfl) rfl rfl (kI fun r105 h105 ⟨e105, f105⟩ => ?_)
            subst e105 f105
            refine V_mald R89 d_md_notes_108 (by first | with_reducible rfl | exact ix8 _ _ | exact ix6 _ _ | assumption) rfl rfl (by show _ < 480; omega) ?_
            simp (disch := first | decide | omega) only [mA_2s, mA_2n, mA_1, mF_2, mF_1s, mF_1n, pk_us, pk_un]
            rw [hs.2.1 10 (by decide) (by decide)]
            refine V_mast R89 d_md_notes_109 (by first | with_reducible rfl | exact ix8 _ _ | exact ix6 _ _ | assumption) rfl rfl (by show _ < 1200; omega) (fun h109 M109 => ?_)
            have R109 := M109.1
            refine V_aload_n d_md_notes_110 rfl rfl ?_
            refine V_getf d_md_notes_111 fl_md_74 R109.obj rfl ?_
            refine V_iload d_md_notes_114 rfl ?_
            refine V_dup2 d_md_notes_116 rfl rfl ?_
            refine V_mald R109 d_md_notes_117 (by first | with_reducible rfl | exact ix8 _ _ | exact ix6 _ _ | assumption) rfl rfl (by show _ < 10; omega) ?_
            simp (disch := first | decide | omega) only [mA_2s, mA_2n, mA_1, mF_2, mF_1s, mF_1n, pk_us, pk_un]
            rw [e30, hc1]
            refine V_iconst (v := 1) d_md_notes_118 (by decide) ?_
            refine V_iadd d_md_notes_119 ?_
            rw [nI_1]
            refine V_mast R109 d_md_notes_120 (by first | with_reducible rfl | exact ix8 _ _ | exact ix6 _ _ | assumption) rfl rfl (by show _ < 10; omega) (fun h120 M120 => ?_)
            have R120 := M120.1
            refine V_iinc (v := _) d_md_notes_121 rfl rfl (by decide) rfl rfl ?_
            dsimp only [List.set]
            refine V_goto d_md_notes_124 ?_
            rw [show Int32.ofInt 1 = 1 from rfl, nI_1]
            exact ih (k + 1) _ _ _ (by omega) (by omega) ((((hM.trans M79).trans M89).trans M109).trans M120) (hs.put hsee hc40)
theorem sp_md_notes (G : Gk) {h : Hp} {m : Nat} {am : Nat → Nat} {s : Mem} (r : RepM h m am s) (ivs : IvS s) (ivo : IvO s) (ivw : IvW s) (o f : Nat) (ho : o < nO s) (hf : f < 8) (a : Int32) : Ct G md_notes [.ref m, .int (nI o), .int (nI f), .int a] h (pN fun h' => ∃ t, Mod h m am h' t ∧ NoteE s o f a (nW s) t) := by
  refine Ct.ofL (M := md_notes) (lv := [some (.ref m), some (.int (nI o)), some (.int (nI f)), some (.int a), none, none]) mdf_md_notes rfl (Nat.le_of_ble_eq_true rfl) rfl ?_
  refine V_iconst (v := 0) d_md_notes_0 (by decide) ?_
  refine V_istore d_md_notes_1 (by decide) rfl rfl ?_
  dsimp only [List.set]
  exact lp_notes G ivs ivo ivw o f ho hf a (nW s + 1) 0 _ _ _ (by omega) (by omega) (Mod.rf r) ⟨rfl, fun _ _ _ => rfl, fun w q => by omega, fun _ _ => rfl, fun _ _ => rfl⟩
/-- what was undone is cut off -/
def cutM (s : Mem) : Mem := if nD s < nEn s then mF (mF s 20 (nI (nD s))) 16 (nI (dEnd s)) else s
def nE' (s : Mem) : Nat := if nD s < nEn s then dEnd s else nE s
theorem dEnd_le {s : Mem} (ivh : IvH s) : dEnd s ≤ nE s := by
  unfold dEnd
  split
  · omega
  · exact (ivh.2.2.2.2.2.2.2.1 _ (by have := ivh.2.2.2.1; omega)).2
theorem sp_md_begins (G : Gk) {h : Hp} {m : Nat} {am : Nat → Nat} {s : Mem} (r : RepM h m am s) (ivo : IvO s) (ivh : IvH s) (o f : Nat) (ho : o < nO s) (hf : f < 8) : Ct G md_begins [.ref m, .int (nI o), .int (nI f)] h
    (pN fun h' => ∃ t, Mod h m am h' t ∧ KeepE (mA (cutM s) 17 (nE' s) (nI (8 * o + f))) 18 (nE' s) (8 * o + f) 6 t) := by
  have h60 := ivo.2.1
  have hdE := dEnd_le ivh
  obtain ⟨h16, h20, h21, hde, hn60, hg, hE, hen, hmo⟩ := id ivh
  refine Ct.ofL (M := md_begins) (lv := [some (.ref m), some (.int (nI o)), some (.int (nI f))]) mdf_md_begins rfl (Nat.le_of_ble_eq_true rfl) rfl ?_
  refine V_aload_n d_md_begins_0 rfl rfl ?_
  refine V_getf d_md_begins_1 fl_md_197 r.obj rfl ?_
  rw [h20]
  refine V_aload_n d_md_begins_4 rfl rfl ?_
  refine V_getf d_md_begins_5 fl_md_194 r.obj rfl ?_
  rw [h21]
  refine V_icmp_le d_md_begins_8 (fun c8 => ?_) (fun c8 => ?_)
  · skip
    refine V_aload_n d_md_begins_27 rfl rfl ?_
    refine V_getf d_md_begins_28 fl_md_49 r.obj rfl ?_
    refine V_aload_n d_md_begins_31 rfl rfl ?_
    refine V_getf d_md_begins_32 fl_md_204 r.obj rfl ?_
    rw [h16]
    refine V_aload_n d_md_begins_35 rfl rfl ?_
    refine V_iload_n d_md_begins_36 rfl rfl ?_
    refine V_iload_n d_md_begins_37 rfl rfl ?_
    refine V_callV (N := md_at) d_md_begins_38 ml_md_152 mdf_md_at wi_md_at wz_md_at (sp_md_at G _ _ _ _) r.obj ⟨_, rfl, rfl⟩ rfl rfl (by decide) (by decide) (Nat.le_of_ble_eq_true rfl) rfl rfl (kI fun r38 h38 ⟨e38, f38⟩ => ?_)
    subst e38 f38
    refine V_mast r d_md_begins_41 (by first | with_reducible rfl | exact ix8 _ _ | exact ix6 _ _ | assumption) rfl rfl (by show _ < 700; omega) (fun h41 M41 => ?_)
    have R41 := M41.1
    refine V_aload_n d_md_begins_42 rfl rfl ?_
    refine V_aload_n d_md_begins_43 rfl rfl ?_
    refine V_getf d_md_begins_44 fl_md_52 R41.obj rfl ?_
    refine V_aload_n d_md_begins_47 rfl rfl ?_
    refine V_getf d_md_begins_48 fl_md_204 R41.obj rfl ?_
    rw [mA_1, h16]
    refine V_aload_n d_md_begins_51 rfl rfl ?_
    refine V_iload_n d_md_begins_52 rfl rfl ?_
    refine V_iload_n d_md_begins_53 rfl rfl ?_
    refine V_callV (N := md_at) d_md_begins_54 ml_md_152 mdf_md_at wi_md_at wz_md_at (sp_md_at G _ _ _ _) R41.obj ⟨_, rfl, rfl⟩ rfl rfl (by decide) (by decide) (Nat.le_of_ble_eq_true rfl) rfl rfl (kI fun r54 h54 ⟨e54, f54⟩ => ?_)
    subst e54 f54
    refine V_callV (N := md_keeps) d_md_begins_57 ml_md_207 mdf_md_keeps wi_md_keeps wz_md_keeps (sp_md_keeps18 G R41 _ _ (by omega) (by omega)) R41.obj ⟨_, rfl, rfl⟩ rfl rfl (by decide) (by decide) (Nat.le_of_ble_eq_true rfl) rfl rfl (kN fun h57 ⟨t, M57, K57⟩ => ?_)
    refine V_return d_md_begins_60 rfl ?_
    refine ⟨rfl, t, M41.trans M57, ?_⟩
    rw [show cutM s = s from if_neg (fun q => absurd (geN_le c8 (by omega)) (by omega)), show nE' s = nE s from if_neg (fun q => absurd (geN_le c8 (by omega)) (by omega))]
    exact K57
  · skip
    have hlt : nD s < nEn s := Nat.lt_of_not_le (fun q => c8 (nI_le q (by omega)))
    have ec : cutM s = mF (mF s 20 (nI (nD s))) 16 (nI (dEnd s)) := if_pos hlt
    have ee : nE' s = dEnd s := if_pos hlt
    refine V_aload_n d_md_begins_11 rfl rfl ?_
    refine V_aload_n d_md_begins_12 rfl rfl ?_
    refine V_getf d_md_begins_13 fl_md_194 r.obj rfl ?_
    rw [h21]
    refine V_mput (j := 20) r d_md_begins_16 fp_md_197 rfl rfl (by decide) (fun h16 M16 => ?_)
    have R16 := M16.1
    refine V_aload_n d_md_begins_19 rfl rfl ?_
    refine V_aload_n d_md_begins_20 rfl rfl ?_
    refine V_callV (N := md_doneEnd) d_md_begins_21 ml_md_200 mdf_md_doneEnd wi_md_doneEnd wz_md_doneEnd (sp_md_doneEnd' G R16 (by rw [mF_1n _ _ (by decide)]; exact h21) (by omega) (fun k hk => (hen k (by omega)).1)) R16.obj ⟨_, rfl, rfl⟩ rfl rfl (by decide) (by decide) (Nat.le_of_ble_eq_true rfl) rfl rfl (kI fun r21 h21' ⟨e21, f21⟩ => ?_)
    subst e21 f21
    refine V_mput (j := 16) R16 d_md_begins_24 fp_md_204 rfl rfl (by decide) (fun h24 M24 => ?_)
    have R24 := M24.1
    refine V_aload_n d_md_begins_27 rfl rfl ?_
    refine V_getf d_md_begins_28 fl_md_49 R24.obj rfl ?_
    refine V_aload_n d_md_begins_31 rfl rfl ?_
    refine V_getf d_md_begins_32 fl_md_204 R24.obj rfl ?_
    rw [mF_1s]
    refine V_aload_n d_md_begins_35 rfl rfl ?_
    refine V_iload_n d_md_begins_36 rfl rfl ?_
    refine V_iload_n d_md_begins_37 rfl rfl ?_
    refine V_callV (N := md_at) d_md_begins_38 ml_md_152 mdf_md_at wi_md_at wz_md_at (sp_md_at G _ _ _ _) R24.obj ⟨_, rfl, rfl⟩ rfl rfl (by decide) (by decide) (Nat.le_of_ble_eq_true rfl) rfl rfl (kI fun r38 h38 ⟨e38, f38⟩ => ?_)
    subst e38 f38
    refine V_mast R24 d_md_begins_41 (by first | with_reducible rfl | exact ix8 _ _ | exact ix6 _ _ | assumption) rfl rfl (by show _ < 700; omega) (fun h41 M41 => ?_)
    have R41 := M41.1
    refine V_aload_n d_md_begins_42 rfl rfl ?_
    refine V_aload_n d_md_begins_43 rfl rfl ?_
    refine V_getf d_md_begins_44 fl_md_52 R41.obj rfl ?_
    refine V_aload_n d_md_begins_47 rfl rfl ?_
    refine V_getf d_md_begins_48 fl_md_204 R41.obj rfl ?_
    rw [mA_1, mF_1s]
    refine V_aload_n d_md_begins_51 rfl rfl ?_
    refine V_iload_n d_md_begins_52 rfl rfl ?_
    refine V_iload_n d_md_begins_53 rfl rfl ?_
    refine V_callV (N := md_at) d_md_begins_54 ml_md_152 mdf_md_at wi_md_at wz_md_at (sp_md_at G _ _ _ _) R41.obj ⟨_, rfl, rfl⟩ rfl rfl (by decide) (by decide) (Nat.le_of_ble_eq_true rfl) rfl rfl (kI fun r54 h54 ⟨e54, f54⟩ => ?_)
    subst e54 f54
    refine V_callV (N := md_keeps) d_md_begins_57 ml_md_207 mdf_md_keeps wi_md_keeps wz_md_keeps (sp_md_keeps18 G R41 _ _ (by omega) (by omega)) R41.obj ⟨_, rfl, rfl⟩ rfl rfl (by decide) (by decide) (Nat.le_of_ble_eq_true rfl) rfl rfl (kN fun h57 ⟨t, M57, K57⟩ => ?_)
    refine V_return d_md_begins_60 rfl ?_
    refine ⟨rfl, t, ((M16.trans M24).trans M41).trans M57, ?_⟩
    rw [ec, ee]
    exact K57
