/-! sort of the reference -/
noncomputable def wgt (s : Mem) (t g : Nat) : Int32 := @ite _ (numF s (sh s t) (nI g)) (Classical.propDecidable _) (valV s t g) MISS
def ahd (a b fl : Int32) : Prop := a ≠ MISS ∧ (b = MISS ∨ (if fl = 0 then a < b else b < a))
theorem sp_md_isAhead (G : Gk) (h : Hp) (a b fl : Int32) : Ct G md_isAhead [.int a, .int b, .int fl] h (pI fun r h' => h = h' ∧ r = b01 (ahd a b fl)) := by
  refine Ct.ofL (M := md_isAhead) (lv := [some (.int a), some (.int b), some (.int fl)]) mdf_md_isAhead rfl (Nat.le_of_ble_eq_true rfl) rfl ?_
  refine V_iload_n d_md_isAhead_0 rfl rfl ?_
  refine V_ldc d_md_isAhead_1 kc_md_129 ?_
  refine V_icmp_eq d_md_isAhead_3 (fun c3 => ?_) (fun c3 => ?_)
  · skip
    refine V_iconst (v := 0) d_md_isAhead_33 (by decide) ?_
    refine V_zreturn d_md_isAhead_34 rfl (by first | exact Or.inl rfl | exact Or.inr rfl) ?_
    exact ⟨_, rfl, rfl, (b01_f (fun q => q.1 c3)).symm⟩
  · skip
    refine V_iload_n d_md_isAhead_6 rfl rfl ?_
    refine V_ldc d_md_isAhead_7 kc_md_129 ?_
    refine V_icmp_eq d_md_isAhead_9 (fun c9 => ?_) (fun c9 => ?_)
    · skip
      refine V_iconst (v := 1) d_md_isAhead_29 (by decide) ?_
      refine V_goto d_md_isAhead_30 ?_
      refine V_zreturn d_md_isAhead_34 rfl (by first | exact Or.inl rfl | exact Or.inr rfl) ?_
      exact ⟨_, rfl, rfl, (b01_t ⟨c3, Or.inl c9⟩).symm⟩
    · skip
      refine V_iload_n d_md_isAhead_12 rfl rfl ?_
      refine V_if_eq d_md_isAhead_13 (fun c13 => ?_) (fun c13 => ?_)
      · skip
        refine V_iload_n d_md_isAhead_24 rfl rfl ?_
        refine V_iload_n d_md_isAhead_25 rfl rfl ?_
        refine V_icmp_ge d_md_isAhead_26 (fun c26 => ?_) (fun c26 => ?_)
        · skip
          refine V_iconst (v := 0) d_md_isAhead_33 (by decide) ?_
          refine V_zreturn d_md_isAhead_34 rfl (by first | exact Or.inl rfl | exact Or.inr rfl) ?_
          refine ⟨_, rfl, rfl, (b01_f (fun q => ?_)).symm⟩
          have q2 := q.2.resolve_left c9
          rw [if_pos c13] at q2
          exact absurd q2 (Int32.not_lt.mpr c26)
        · skip
          refine V_iconst (v := 1) d_md_isAhead_29 (by decide) ?_
          refine V_goto d_md_isAhead_30 ?_
          refine V_zreturn d_md_isAhead_34 rfl (by first | exact Or.inl rfl | exact Or.inr rfl) ?_
          refine ⟨_, rfl, rfl, (b01_t ⟨c3, Or.inr ?_⟩).symm⟩
          rw [if_pos c13]
          exact Int32.not_le.mp c26
      · skip
        refine V_iload_n d_md_isAhead_16 rfl rfl ?_
        refine V_iload_n d_md_isAhead_17 rfl rfl ?_
        refine V_icmp_le d_md_isAhead_18 (fun c18 => ?_) (fun c18 => ?_)
        · skip
          refine V_iconst (v := 0) d_md_isAhead_33 (by decide) ?_
          refine V_zreturn d_md_isAhead_34 rfl (by first | exact Or.inl rfl | exact Or.inr rfl) ?_
          refine ⟨_, rfl, rfl, (b01_f (fun q => ?_)).symm⟩
          have q2 := q.2.resolve_left c9
          rw [if_neg c13] at q2
          exact absurd q2 (Int32.not_lt.mpr c18)
        · skip
          refine V_goto d_md_isAhead_21 ?_
          refine V_iconst (v := 1) d_md_isAhead_29 (by decide) ?_
          refine V_goto d_md_isAhead_30 ?_
          refine V_zreturn d_md_isAhead_34 rfl (by first | exact Or.inl rfl | exact Or.inr rfl) ?_
          refine ⟨_, rfl, rfl, (b01_t ⟨c3, Or.inr ?_⟩).symm⟩
          rw [if_neg c13]
          exact Int32.not_le.mp c18
theorem sp_md_weightOf (G : Gk) {h : Hp} {m : Nat} {am : Nat → Nat} {s : Mem} (r : RepM h m am s) (ivs : IvS s) (ivo : IvO s) (ivf : IvF s) (ivv : IvV s) (o g : Nat) (ho : o < nO s) (hg : g < 8) : Ct G md_weightOf [.ref m, .int (nI o), .int (nI g)] h (pI fun r h' => ∃ K, Mod h m am h' (sK s K) ∧ r = wgt s o g) := by
  have h10 := ivs.2.1
  have h60 := ivo.2.1
  obtain ⟨hs1, hs2⟩ := ivo.2.2 o ho
  obtain ⟨hf1, hf2⟩ := ivs.2.2.1 _ hs2
  refine Ct.ofL (M := md_weightOf) (lv := [some (.ref m), some (.int (nI o)), some (.int (nI g))]) mdf_md_weightOf rfl (Nat.le_of_ble_eq_true rfl) rfl ?_
  refine V_iload_n d_md_weightOf_0 rfl rfl ?_
  refine V_iconst (v := 0) d_md_weightOf_1 (by decide) ?_
  refine V_aload_n d_md_weightOf_2 rfl rfl ?_
  refine V_getf d_md_weightOf_3 fl_md_13 r.obj rfl ?_
  refine V_aload_n d_md_weightOf_6 rfl rfl ?_
  refine V_getf d_md_weightOf_7 fl_md_31 r.obj rfl ?_
  refine V_iload_n d_md_weightOf_10 rfl rfl ?_
  refine V_mald r d_md_weightOf_11 (by first | with_reducible rfl | exact ix8 _ _ | exact ix6 _ _ | assumption) rfl rfl (by show _ < 60; omega) ?_
  rw [hs1]
  refine V_mald r d_md_weightOf_12 (by first | with_reducible rfl | exact ix8 _ _ | exact ix6 _ _ | assumption) rfl rfl (by show _ < 10; omega) ?_
  refine V_iconst (v := 1) d_md_weightOf_13 (by decide) ?_
  refine V_isub d_md_weightOf_14 ?_
  refine V_callS (N := md_in) d_md_weightOf_15 ml_md_114 mdf_md_in ws_md_in (sp_md_in G _ _ _ _) rfl rfl (by decide) (by decide) (Nat.le_of_ble_eq_true rfl) rfl rfl (kI fun r15 h15 ⟨e15, f15⟩ => ?_)
  subst e15 f15
  refine V_if_eq d_md_weightOf_18 (fun c18 => ?_) (fun c18 => ?_)
  · skip
    refine V_ldc d_md_weightOf_59 kc_md_129 ?_
    refine V_ireturn d_md_weightOf_61 rfl ?_
    refine ⟨_, rfl, s.2 12, by rw [sK_self]; exact Mod.rf r, ?_⟩
    rw [wgt, if_neg]
    rintro ⟨j, q1, q2, -⟩
    exact inF.no ivs hs2 (b01_e c18) j q1 q2
  · skip
    obtain ⟨j, hj, ej⟩ := inF.ix ivs hs2 (b01_ne c18)
    obtain rfl := nI_inj8 (by omega) (by omega) ej
    refine V_aload_n d_md_weightOf_21 rfl rfl ?_
    refine V_getf d_md_weightOf_22 fl_md_16 r.obj rfl ?_
    refine V_aload_n d_md_weightOf_25 rfl rfl ?_
    refine V_iload_n d_md_weightOf_26 rfl rfl ?_
    refine V_iload_n d_md_weightOf_27 rfl rfl ?_
    refine V_callV (N := md_by) d_md_weightOf_28 ml_md_156 mdf_md_by wi_md_by wz_md_by (sp_md_by' G r o g (sh s o) (by omega) hs1) r.obj ⟨_, rfl, rfl⟩ rfl rfl (by decide) (by decide) (Nat.le_of_ble_eq_true rfl) rfl rfl (kI fun r28 h28 ⟨e28, f28⟩ => ?_)
    subst e28 f28
    refine V_mald r d_md_weightOf_31 (by first | with_reducible rfl | exact ix8 _ _ | exact ix6 _ _ | assumption) rfl rfl (by show _ < 80; omega) ?_
    refine V_if_eq d_md_weightOf_32 (fun c32 => ?_) (fun c32 => ?_)
    · skip
      refine V_aload_n d_md_weightOf_50 rfl rfl ?_
      refine V_iload_n d_md_weightOf_51 rfl rfl ?_
      refine V_iload_n d_md_weightOf_52 rfl rfl ?_
      refine V_callV (N := md_valueOf) d_md_weightOf_53 ml_md_172 mdf_md_valueOf wi_md_valueOf wz_md_valueOf (sp_md_valueOf G r ivs ivo ivf ivv o g ho hj) r.obj ⟨_, rfl, rfl⟩ rfl rfl (by decide) (by decide) (Nat.le_of_ble_eq_true rfl) rfl rfl (kI fun r53 h53 ⟨K, M53, e53⟩ => ?_)
      refine V_goto d_md_weightOf_56 ?_
      refine V_ireturn d_md_weightOf_61 rfl ?_
      exact ⟨_, rfl, K, M53, by rw [wgt, if_pos ⟨g, hj, rfl, Or.inl c32⟩]; exact e53⟩
    · skip
      refine V_aload_n d_md_weightOf_35 rfl rfl ?_
      refine V_getf d_md_weightOf_36 fl_md_16 r.obj rfl ?_
      refine V_aload_n d_md_weightOf_39 rfl rfl ?_
      refine V_iload_n d_md_weightOf_40 rfl rfl ?_
      refine V_iload_n d_md_weightOf_41 rfl rfl ?_
      refine V_callV (N := md_by) d_md_weightOf_42 ml_md_156 mdf_md_by wi_md_by wz_md_by (sp_md_by' G r o g (sh s o) (by omega) hs1) r.obj ⟨_, rfl, rfl⟩ rfl rfl (by decide) (by decide) (Nat.le_of_ble_eq_true rfl) rfl rfl (kI fun r42 h42 ⟨e42, f42⟩ => ?_)
      subst e42 f42
      refine V_mald r d_md_weightOf_45 (by first | with_reducible rfl | exact ix8 _ _ | exact ix6 _ _ | assumption) rfl rfl (by show _ < 80; omega) ?_
      refine V_iconst (v := 3) d_md_weightOf_46 (by decide) ?_
      refine V_icmp_ne d_md_weightOf_47 (fun c47 => ?_) (fun c47 => ?_)
      · skip
        refine V_ldc d_md_weightOf_59 kc_md_129 ?_
        refine V_ireturn d_md_weightOf_61 rfl ?_
        refine ⟨_, rfl, s.2 12, by rw [sK_self]; exact Mod.rf r, ?_⟩
        rw [wgt, if_neg]
        rintro ⟨j, q1, q2, q3⟩
        obtain rfl := nI_inj8 (by omega) (by omega) q2
        exact q3.elim c32 c47
      · skip
        refine V_aload_n d_md_weightOf_50 rfl rfl ?_
        refine V_iload_n d_md_weightOf_51 rfl rfl ?_
        refine V_iload_n d_md_weightOf_52 rfl rfl ?_
        refine V_callV (N := md_valueOf) d_md_weightOf_53 ml_md_172 mdf_md_valueOf wi_md_valueOf wz_md_valueOf (sp_md_valueOf G r ivs ivo ivf ivv o g ho hj) r.obj ⟨_, rfl, rfl⟩ rfl rfl (by decide) (by decide) (Nat.le_of_ble_eq_true rfl) rfl rfl (kI fun r53 h53 ⟨K, M53, e53⟩ => ?_)
        refine V_goto d_md_weightOf_56 ?_
        refine V_ireturn d_md_weightOf_61 rfl ?_
        exact ⟨_, rfl, K, M53, by rw [wgt, if_pos ⟨g, hj, rfl, Or.inr c47⟩]; exact e53⟩
theorem totF_congr {s t : Mem} (h10 : t.2 10 = s.2 10) (h11 : t.2 11 = s.2 11) (y g : Nat) : ∀ n, totF t y g n = totF s y g n
  | 0 => rfl
  | n + 1 => by rw [totF, totF, totF_congr h10 h11 y g n, h10, h11]
theorem valV_congr {s t : Mem} (h3 : t.2 3 = s.2 3) (h4 : t.2 4 = s.2 4) (h5 : t.2 5 = s.2 5) (h6 : t.2 6 = s.2 6) (h9 : t.2 9 = s.2 9) (h10 : t.2 10 = s.2 10) (h11 : t.2 11 = s.2 11) (o : Nat) : ∀ j, valV t o j = valV s o j := by
  have hsh : sh t o = sh s o := by unfold sh; rw [h9]
  have hfo : ∀ K x, follM t o K x = follM s o K x := by
    intro K x
    unfold follM
    simp only [h3, h4, h5, h6, h10, hsh, totF_congr h10 h11]
  have hkn : ∀ K0 f, kn t o K0 f = kn s o K0 f := by
    intro K0 f
    induction f with
    | zero => rfl
    | succ f ih => rw [kn, kn, ih, hsh, h3, h10, hfo]
  intro j
  unfold valV
  rw [hkn]
theorem wgt_congr {s t : Mem} (h2 : t.2 2 = s.2 2) (h3 : t.2 3 = s.2 3) (h4 : t.2 4 = s.2 4) (h5 : t.2 5 = s.2 5) (h6 : t.2 6 = s.2 6) (h9 : t.2 9 = s.2 9) (h10 : t.2 10 = s.2 10) (h11 : t.2 11 = s.2 11) (o g : Nat) : wgt t o g = wgt s o g := by
  have hsh : sh t o = sh s o := by unfold sh; rw [h9]
  have hnum : numF t (sh t o) (nI g) = numF s (sh s o) (nI g) := by
    unfold numF nf
    rw [hsh, h2, h3]
  unfold wgt
  rw [hnum, valV_congr h3 h4 h5 h6 h9 h10 h11]
theorem IvF.of {s t : Mem} (iv : IvF s) (a0 : t.1 0 = s.1 0) (a2 : t.2 2 = s.2 2) (a3 : t.2 3 = s.2 3) (a4 : t.2 4 = s.2 4) (a5 : t.2 5 = s.2 5) (a6 : t.2 6 = s.2 6) : IvF t := by
  unfold IvF FOK nS nf at *
  rw [a0, a2, a3, a4, a5, a6]
  exact iv
theorem IvV.of {s t : Mem} (iv : IvV s) (a8 : t.1 8 = s.1 8) (a2 : t.2 2 = s.2 2) (a3 : t.2 3 = s.2 3) (a9 : t.2 9 = s.2 9) (a10 : t.2 10 = s.2 10) (a11 : t.2 11 = s.2 11) : IvV t := by
  unfold IvV VOK nO nf sh at *
  rw [a8, a2, a3, a9, a10, a11]
  exact iv
theorem IvF.sc {s t : Mem} (iv : IvF s) (h : Sc s t) : IvF t := iv.of (h.1 0 rfl) (h.2 2 rfl) (h.2 3 rfl) (h.2 4 rfl) (h.2 5 rfl) (h.2 6 rfl)
theorem IvV.sc {s t : Mem} (iv : IvV s) (h : Sc s t) : IvV t := iv.of (h.1 8 rfl) (h.2 2 rfl) (h.2 3 rfl) (h.2 9 rfl) (h.2 10 rfl) (h.2 11 rfl)
/-- insertion from place k down -/
noncomputable def insF (fl W O : Int32) : Nat → (Nat → Int32) → (Nat → Int32) → (Nat → Int32) × (Nat → Int32)
  | 0, w, p => (upd w 0 W, upd p 0 O)
  | k + 1, w, p => @ite _ (ahd W (w k) fl) (Classical.propDecidable _) (insF fl W O k (upd w (k + 1) (w k)) (upd p (k + 1) (p k))) (upd w (k + 1) W, upd p (k + 1) O)
noncomputable def srtF (fl : Int32) (w p : Nat → Int32) : Nat → (Nat → Int32) × (Nat → Int32)
  | 0 => (w, p)
  | i + 1 => insF fl ((srtF fl w p i).1 i) ((srtF fl w p i).2 i) i (srtF fl w p i).1 (srtF fl w p i).2
def SrtR (s : Mem) (y : Nat) (w p : Nat → Int32) (t : Mem) : Prop := t.1 = s.1 ∧ (∀ q, q ≠ 11 → q ≠ 12 → q ≠ 32 → t.2 q = s.2 q) ∧ (∀ x, x < 6 * y ∨ 6 * y + 6 ≤ x → t.2 11 x = s.2 11 x) ∧ (∀ k, k < 6 → t.2 11 (6 * y + k) = p k) ∧ ∀ k, k < 6 → t.2 32 k = w k
theorem SrtR.putw {s t : Mem} {y : Nat} {w p : Nat → Int32} (h : SrtR s y w p t) (k : Nat) (v : Int32) : SrtR s y (upd w k v) p (mA t 32 k v) := by
  obtain ⟨h1, h2, h3, h4, h5⟩ := h
  refine ⟨h1, fun q a b c => by rw [mA_2n _ _ _ c]; exact h2 q a b c, fun x hx => by rw [mA_2n _ _ _ (by decide)]; exact h3 x hx, fun x hx => by rw [mA_2n _ _ _ (by decide)]; exact h4 x hx, fun x hx => ?_⟩
  rw [mA_2s]
  by_cases e : x = k
  · subst e; rw [pk_us, pk_us]
  · rw [pk_un e, pk_un e]; exact h5 x hx
theorem SrtR.putp {s t : Mem} {y : Nat} {w p : Nat → Int32} (h : SrtR s y w p t) (k : Nat) (hk : k < 6) (v : Int32) : SrtR s y w (upd p k v) (mA t 11 (6 * y + k) v) := by
  obtain ⟨h1, h2, h3, h4, h5⟩ := h
  refine ⟨h1, fun q a b c => by rw [mA_2n _ _ _ a]; exact h2 q a b c, fun x hx => by rw [mA_2s, pk_un (by omega)]; exact h3 x hx, fun x hx => ?_, fun x hx => by rw [mA_2n _ _ _ (by decide)]; exact h5 x hx⟩
  rw [mA_2s]
  by_cases e : x = k
  · subst e; rw [pk_us, pk_us]
  · rw [pk_un (by omega), pk_un e]; exact h4 x hx
theorem lp_srt2 (G : Gk) {m : Nat} {am : Nat → Nat} {s : Mem} {h0 : Hp} {post : Option Value → Hp → Prop} (y i : Nat) (hy : y < 480) (hi : i < 6) (a1 a2 a3 : Int32) (fl O W : Int32) (wF pF : Nat → Int32)
    (K : ∀ (h : Hp) (l9 : Option Value) (t : Mem), Mod h0 m am h t → SrtR s y wF pF t → V G md_sort post h 0 0 244 [some (.ref m), some (.int a1), some (.int a2), some (.int a3), some (.int fl), some (.int (nI y)), some (.int (nI i)), some (.int O), some (.int W), l9] []) :
    ∀ (k : Nat) (h : Hp) (t : Mem) (w p : Nat → Int32), k ≤ i → insF fl W O k w p = (wF, pF) → Mod h0 m am h t → SrtR s y w p t →
    V G md_sort post h 0 0 146 [some (.ref m), some (.int a1), some (.int a2), some (.int a3), some (.int fl), some (.int (nI y)), some (.int (nI i)), some (.int O), some (.int W), some (.int (nI k))] [] := by
  intro k
  induction k with
  | zero =>
    intro h t w p hk he hM hs
    have r := hM.1
    rw [insF] at he
    have e1 := congrArg Prod.fst he
    have e2 := congrArg Prod.snd he
    dsimp only at e1 e2
    refine V_iload d_md_sort_146 rfl ?_
    refine V_if_le d_md_sort_148 (fun c148 => ?_) (fun c148 => ?_)
    · skip
      refine V_aload_n d_md_sort_220 rfl rfl ?_
      refine V_getf d_md_sort_221 fl_md_80 r.obj rfl ?_
      refine V_iload d_md_sort_224 rfl ?_
      refine V_iload d_md_sort_226 rfl ?_
      refine V_mast r d_md_sort_228 (by first | with_reducible rfl | exact ix8 _ _ | exact ix6 _ _ | assumption) rfl rfl (by show _ < 6; omega) (fun h228 M228 => ?_)
      have R228 := M228.1
      refine V_aload_n d_md_sort_229 rfl rfl ?_
      refine V_getf d_md_sort_230 fl_md_37 R228.obj rfl ?_
      refine V_bipush (v := 6) d_md_sort_233 (by decide) ?_
      refine V_iload d_md_sort_235 rfl ?_
      refine V_imul d_md_sort_237 ?_
      refine V_iload d_md_sort_238 rfl ?_
      refine V_iadd d_md_sort_240 ?_
      rw [ix6]
      refine V_iload d_md_sort_241 rfl ?_
      refine V_mast R228 d_md_sort_243 (by first | with_reducible rfl | exact ix8 _ _ | exact ix6 _ _ | assumption) rfl rfl (by show _ < 2880; omega) (fun h243 M243 => ?_)
      have R243 := M243.1
      exact K _ _ _ ((hM.trans M228).trans M243) (by rw [← e1, ← e2]; exact (hs.putw 0 W).putp 0 (by decide) O)
    · skip
      exact absurd (show nI 0 ≤ 0 by decide) c148
  | succ k ih =>
    intro h t w p hk he hM hs
    have r := hM.1
    rw [insF] at he
    refine V_iload d_md_sort_146 rfl ?_
    refine V_if_le d_md_sort_148 (fun c148 => ?_) (fun c148 => ?_)
    · skip
      exact absurd c148 (nI_nle (by omega) (by omega))
    · skip
      refine V_iload d_md_sort_151 rfl ?_
      refine V_aload_n d_md_sort_153 rfl rfl ?_
      refine V_getf d_md_sort_154 fl_md_80 r.obj rfl ?_
      refine V_iload d_md_sort_157 rfl ?_
      refine V_iconst (v := 1) d_md_sort_159 (by decide) ?_
      refine V_isub d_md_sort_160 ?_
      rw [nI_pred]
      refine V_mald r d_md_sort_161 (by first | with_reducible rfl | exact ix8 _ _ | exact ix6 _ _ | assumption) rfl rfl (by show _ < 6; omega) ?_
      rw [hs.2.2.2.2 k (by omega)]
      refine V_iload d_md_sort_162 rfl ?_
      refine V_callS (N := md_isAhead) d_md_sort_164 ml_md_241 mdf_md_isAhead ws_md_isAhead (sp_md_isAhead G _ _ _ _) rfl rfl (by decide) (by decide) (Nat.le_of_ble_eq_true rfl) rfl rfl (kI fun r164 h164 ⟨e164, f164⟩ => ?_)
      subst e164 f164
      refine V_if_eq d_md_sort_167 (fun c167 => ?_) (fun c167 => ?_)
      · skip
        rw [if_neg (b01_e c167)] at he
        have e1 := congrArg Prod.fst he
        have e2 := congrArg Prod.snd he
        dsimp only at e1 e2
        refine V_aload_n d_md_sort_220 rfl rfl ?_
        refine V_getf d_md_sort_221 fl_md_80 r.obj rfl ?_
        refine V_iload d_md_sort_224 rfl ?_
        refine V_iload d_md_sort_226 rfl ?_
        refine V_mast r d_md_sort_228 (by first | with_reducible rfl | exact ix8 _ _ | exact ix6 _ _ | assumption) rfl rfl (by show _ < 6; omega) (fun h228 M228 => ?_)
        have R228 := M228.1
        refine V_aload_n d_md_sort_229 rfl rfl ?_
        refine V_getf d_md_sort_230 fl_md_37 R228.obj rfl ?_
        refine V_bipush (v := 6) d_md_sort_233 (by decide) ?_
        refine V_iload d_md_sort_235 rfl ?_
        refine V_imul d_md_sort_237 ?_
        refine V_iload d_md_sort_238 rfl ?_
        refine V_iadd d_md_sort_240 ?_
        rw [ix6]
        refine V_iload d_md_sort_241 rfl ?_
        refine V_mast R228 d_md_sort_243 (by first | with_reducible rfl | exact ix8 _ _ | exact ix6 _ _ | assumption) rfl rfl (by show _ < 2880; omega) (fun h243 M243 => ?_)
        have R243 := M243.1
        exact K _ _ _ ((hM.trans M228).trans M243) (by rw [← e1, ← e2]; exact (hs.putw (k + 1) W).putp (k + 1) (by omega) O)
      · skip
        rw [if_pos (b01_ne c167)] at he
        refine V_aload_n d_md_sort_170 rfl rfl ?_
        refine V_getf d_md_sort_171 fl_md_80 r.obj rfl ?_
        refine V_iload d_md_sort_174 rfl ?_
        refine V_aload_n d_md_sort_176 rfl rfl ?_
        refine V_getf d_md_sort_177 fl_md_80 r.obj rfl ?_
        refine V_iload d_md_sort_180 rfl ?_
        refine V_iconst (v := 1) d_md_sort_182 (by decide) ?_
        refine V_isub d_md_sort_183 ?_
        rw [nI_pred]
        refine V_mald r d_md_sort_184 (by first | with_reducible rfl | exact ix8 _ _ | exact ix6 _ _ | assumption) rfl rfl (by show _ < 6; omega) ?_
        rw [hs.2.2.2.2 k (by omega)]
        refine V_mast r d_md_sort_185 (by first | with_reducible rfl | exact ix8 _ _ | exact ix6 _ _ | assumption) rfl rfl (by show _ < 6; omega) (fun h185 M185 => ?_)
        have R185 := M185.1
        refine V_aload_n d_md_sort_186 rfl rfl ?_
        refine V_getf d_md_sort_187 fl_md_37 R185.obj rfl ?_
        refine V_bipush (v := 6) d_md_sort_190 (by decide) ?_
        refine V_iload d_md_sort_192 rfl ?_
        refine V_imul d_md_sort_194 ?_
        refine V_iload d_md_sort_195 rfl ?_
        refine V_iadd d_md_sort_197 ?_
        rw [ix6]
        refine V_aload_n d_md_sort_198 rfl rfl ?_
        refine V_getf d_md_sort_199 fl_md_37 R185.obj rfl ?_
        refine V_bipush (v := 6) d_md_sort_202 (by decide) ?_
        refine V_iload d_md_sort_204 rfl ?_
        refine V_imul d_md_sort_206 ?_
        refine V_iload d_md_sort_207 rfl ?_
        refine V_iadd d_md_sort_209 ?_
        rw [ix6]
        refine V_iconst (v := 1) d_md_sort_210 (by decide) ?_
        refine V_isub d_md_sort_211 ?_
        rw [show 6 * y + (k + 1) = (6 * y + k) + 1 by omega, nI_pred]
        refine V_mald R185 d_md_sort_212 (by first | with_reducible rfl | exact ix8 _ _ | exact ix6 _ _ | assumption) rfl rfl (by show _ < 2880; omega) ?_
        rw [mA_2n _ _ _ (by decide), hs.2.2.2.1 k (by omega)]
        refine V_mast R185 d_md_sort_213 (by first | with_reducible rfl | exact ix8 _ _ | exact ix6 _ _ | assumption) rfl rfl (by show _ < 2880; omega) (fun h213 M213 => ?_)
        have R213 := M213.1
        refine V_iinc (v := _) d_md_sort_214 rfl rfl (by decide) rfl rfl ?_
        dsimp only [List.set]
        refine V_goto d_md_sort_217 ?_
        rw [show Int32.ofInt (-1) = -1 from rfl, sb_m1 (show 0 < k + 1 by omega), show k + 1 - 1 = k by omega]
        exact ih _ _ _ _ (by omega) he ((hM.trans M185).trans M213) ((hs.putw (k + 1) (w k)).putp (k + 1) (by omega) (p k))
