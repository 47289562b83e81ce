/-! copy of the reference -/
noncomputable def cpd (B : Nat → Int32) (n0 : Nat) (v : Int32) : Int32 := @ite _ (v = MISS ∨ B v.toNatClampNeg = -1) (Classical.propDecidable _) v (nI n0 + B v.toNatClampNeg)
theorem sp_md_copied (G : Gk) {h : Hp} {m : Nat} {am : Nat → Nat} {t : Mem} (r : RepM h m am t) (n0 : Nat) (v : Int32) (hv : v = MISS ∨ ∃ i, i < 60 ∧ v = nI i) : Ct G md_copied [.ref m, .int v, .int (nI n0)] h (pI fun r h' => h = h' ∧ r = cpd (t.2 14) n0 v) := by
  refine Ct.ofL (M := md_copied) (lv := [some (.ref m), some (.int v), some (.int (nI n0))]) mdf_md_copied rfl (Nat.le_of_ble_eq_true rfl) rfl ?_
  refine V_iload_n d_md_copied_0 rfl rfl ?_
  refine V_ldc d_md_copied_1 kc_md_129 ?_
  refine V_icmp_eq d_md_copied_3 (fun c3 => ?_) (fun c3 => ?_)
  · skip
    refine V_iload_n d_md_copied_16 rfl rfl ?_
    refine V_goto d_md_copied_17 ?_
    refine V_ireturn d_md_copied_28 rfl ?_
    refine ⟨_, rfl, rfl, ?_⟩
    rw [cpd, if_pos (Or.inl c3)]
  · skip
    obtain ⟨i, hi, rfl⟩ := hv.resolve_left c3
    have ci := cl i (by omega)
    refine V_aload_n d_md_copied_6 rfl rfl ?_
    refine V_getf d_md_copied_7 fl_md_46 r.obj rfl ?_
    refine V_iload_n d_md_copied_10 rfl rfl ?_
    refine V_mald r d_md_copied_11 (by first | with_reducible rfl | exact ix8 _ _ | exact ix6 _ _ | assumption) rfl rfl (by show _ < 60; omega) ?_
    refine V_iconst (v := -1) d_md_copied_12 (by decide) ?_
    refine V_icmp_ne d_md_copied_13 (fun c13 => ?_) (fun c13 => ?_)
    · skip
      refine V_iload_n d_md_copied_20 rfl rfl ?_
      refine V_aload_n d_md_copied_21 rfl rfl ?_
      refine V_getf d_md_copied_22 fl_md_46 r.obj rfl ?_
      refine V_iload_n d_md_copied_25 rfl rfl ?_
      refine V_mald r d_md_copied_26 (by first | with_reducible rfl | exact ix8 _ _ | exact ix6 _ _ | assumption) rfl rfl (by show _ < 60; omega) ?_
      refine V_iadd d_md_copied_27 ?_
      refine V_ireturn d_md_copied_28 rfl ?_
      refine ⟨_, rfl, rfl, ?_⟩
      rw [cpd, ci, if_neg (fun q => q.elim c3 c13)]
    · skip
      refine V_iload_n d_md_copied_16 rfl rfl ?_
      refine V_goto d_md_copied_17 ?_
      refine V_ireturn d_md_copied_28 rfl ?_
      refine ⟨_, rfl, rfl, ?_⟩
      rw [cpd, ci, if_pos (Or.inr c13)]
def orow (b : Bf) (k : Nat) : Nat := (b.2.1 k).toNatClampNeg
/-- field f of the k-th copy -/
def CpF (s : Mem) (b : Bf) (k f : Nat) (t : Mem) : Prop := (t.2 10 (8 * (nO s + k) + f) = if s.2 3 (8 * sh s (orow b k) + f) = 1 then cpd b.2.2 (nO s) (s.2 10 (8 * orow b k + f)) else s.2 10 (8 * orow b k + f)) ∧
  (s.2 3 (8 * sh s (orow b k) + f) = 2 → ∀ i, i < 6 → i < (s.2 10 (8 * orow b k + f)).toNatClampNeg → t.2 11 (6 * (8 * (nO s + k) + f) + i) = cpd b.2.2 (nO s) (s.2 11 (6 * (8 * orow b k + f) + i)))
/-- c objects made, k of them filled, of the next one f fields -/
def Cp (s : Mem) (b : Bf) (c k f : Nat) (t : Mem) : Prop := t.1 8 = nI (nO s + c) ∧ (∀ q, q ≠ 8 → t.1 q = (sB s b).1 q) ∧ (∀ q, q ≠ 9 → q ≠ 10 → q ≠ 11 → t.2 q = (sB s b).2 q) ∧ (∀ i, i < nO s → t.2 9 i = s.2 9 i) ∧ (∀ j, j < c → t.2 9 (nO s + j) = s.2 9 (orow b j)) ∧
  (∀ x, x < 8 * nO s → t.2 10 x = s.2 10 x) ∧ (∀ x, x < 48 * nO s → t.2 11 x = s.2 11 x) ∧ (∀ j, j < k → ∀ g, g < nf s (sh s (orow b j)) → CpF s b j g t) ∧ ∀ g, g < f → CpF s b k g t
theorem Cp.next {s t : Mem} {b : Bf} {c k : Nat} (h : Cp s b c k (nf s (sh s (orow b k))) t) : Cp s b c (k + 1) 0 t := by
  obtain ⟨h1, h2, h3, h4, h5, h6, h7, h8, h9⟩ := h
  refine ⟨h1, h2, h3, h4, h5, h6, h7, fun j hj => ?_, fun g hg => by omega⟩
  rcases Nat.lt_succ_iff_lt_or_eq.mp hj with q | rfl
  · exact h8 j q
  · exact h9
theorem Cp.ivs {s t : Mem} {b : Bf} {c k f : Nat} (h : Cp s b c k f t) (ivs : IvS s) : IvS t := by
  obtain ⟨h1, h2, h3, -⟩ := h
  exact ivs.of (by rw [h2 0 (by decide), sB_1 _ _ (by decide)]) (by rw [h3 1 (by decide) (by decide) (by decide), sB_2 _ _ (by decide) (by decide)]) (by rw [h3 2 (by decide) (by decide) (by decide), sB_2 _ _ (by decide) (by decide)])
theorem Cp.ivo {s t : Mem} {b : Bf} {c k f : Nat} (h : Cp s b c k f t) (ivo : IvO s) (hb : bOK (nO s) b) (hc : c ≤ b.1) (h60 : nO s + c ≤ 60) : IvO t ∧ nO t = nO s + c ∧ nS t = nS s := by
  obtain ⟨h1, h2, h3, h4, h5, -⟩ := h
  have e0 : nO t = nO s + c := by have : nO t = (t.1 8).toNatClampNeg := rfl; rw [this, h1]; exact cl _ (by omega)
  have eS : nS t = nS s := by unfold nS; rw [h2 0 (by decide), sB_1 _ _ (by decide)]
  refine ⟨⟨by rw [h1, e0], by omega, fun o ho => ?_⟩, e0, eS⟩
  rw [e0] at ho
  rw [eS]
  by_cases q : o < nO s
  · have := ivo.2.2 o q
    unfold sh at this ⊢
    rw [h4 o q]
    exact this
  · have e := h5 (o - nO s) (by omega)
    rw [show nO s + (o - nO s) = o by omega] at e
    obtain ⟨u, hu, e1, -⟩ := hb.1 (o - nO s) (by omega)
    have eu : orow b (o - nO s) = u := by unfold orow; rw [e1]; exact cl u (by omega)
    have := ivo.2.2 u hu
    unfold sh at this ⊢
    rw [e, eu]
    exact this
theorem Cp.mk {s t u : Mem} {b : Bf} {k i : Nat} (h : Cp s b k k 0 t) (e0 : nO t = nO s + k) (hi : s.2 9 (orow b k) = nI i) (hm : mkE t i u) (h8b : ∀ j, j < k → nf s (sh s (orow b j)) ≤ 8) : Cp s b (k + 1) k 0 u := by
  obtain ⟨h1, h2, h3, h4, h5, h6', h7, h8, h9⟩ := h
  obtain ⟨t0, ⟨g1, g2, g3, g4, g5⟩, rfl⟩ := hm
  rw [e0] at g2 g4 ⊢
  refine ⟨mF_1s _ _ _, fun q hq => by rw [mF_1n _ _ hq, g1]; exact h2 q hq, fun q a b c => by rw [mF_2, g3 q a b]; exact h3 q a b c, fun i hi => by rw [mF_2, g2, pk_un (by omega)]; exact h4 i hi, fun j hj => ?_, fun x hx => by rw [mF_2, g4 x (by omega)]; exact h6' x hx, fun x hx => by rw [mF_2, g3 11 (by decide) (by decide)]; exact h7 x hx, fun j hj g hg => ?_, fun g hg => by omega⟩
  · rw [mF_2, g2]
    rcases Nat.lt_succ_iff_lt_or_eq.mp hj with q | rfl
    · rw [pk_un (by omega)]; exact h5 j q
    · rw [pk_us, hi]
  · obtain ⟨f1, f2⟩ := h8 j hj g hg
    refine ⟨?_, fun z i hi hi2 => ?_⟩
    · rw [mF_2, ← f1]
      exact g4 _ (by have := h8b j hj; omega)
    · rw [mF_2, g3 11 (by decide) (by decide)]; exact f2 z i hi hi2
theorem Cp.put {s t u : Mem} {b : Bf} {k f : Nat} {w : Int32} (h : Cp s b (k + 1) k f t) (hf : f < 8) (h8b : ∀ j, j < k → nf s (sh s (orow b j)) ≤ 8) (hw : w = if s.2 3 (8 * sh s (orow b k) + f) = 1 then cpd b.2.2 (nO s) (s.2 10 (8 * orow b k + f)) else s.2 10 (8 * orow b k + f)) (u1 : u.1 = t.1) (u2 : ∀ q, q ≠ 10 → q ≠ 11 → u.2 q = t.2 q) (u3 : u.2 10 = upd (t.2 10) (8 * (nO s + k) + f) w)
    (u4 : ∀ x, x < 6 * (8 * (nO s + k) + f) ∨ 6 * (8 * (nO s + k) + f) + 6 ≤ x → u.2 11 x = t.2 11 x) (u5 : s.2 3 (8 * sh s (orow b k) + f) = 2 → ∀ i, i < 6 → i < (s.2 10 (8 * orow b k + f)).toNatClampNeg → u.2 11 (6 * (8 * (nO s + k) + f) + i) = cpd b.2.2 (nO s) (s.2 11 (6 * (8 * orow b k + f) + i))) : Cp s b (k + 1) k (f + 1) u := by
  obtain ⟨h1, h2, h3, h4, h5, h6, h7, h8, h9⟩ := h
  refine ⟨by rw [u1]; exact h1, fun q hq => by rw [u1]; exact h2 q hq, fun q a b c => by rw [u2 q b c]; exact h3 q a b c, fun i hi => by rw [u2 9 (by decide) (by decide)]; exact h4 i hi, fun j hj => by rw [u2 9 (by decide) (by decide)]; exact h5 j hj, fun x hx => by rw [u3, pk_un (by omega)]; exact h6 x hx, fun x hx => by rw [u4 x (by omega)]; exact h7 x hx, fun j hj g hg => ?_, fun g hg => ?_⟩
  · obtain ⟨f1, f2⟩ := h8 j hj g hg
    have := h8b j hj
    exact ⟨by rw [u3, pk_un (by omega)]; exact f1, fun z i hi hi2 => by rw [u4 _ (by omega)]; exact f2 z i hi hi2⟩
  · rcases Nat.lt_succ_iff_lt_or_eq.mp hg with q | rfl
    · obtain ⟨f1, f2⟩ := h9 g q
      exact ⟨by rw [u3, pk_un (by omega)]; exact f1, fun z i hi hi2 => by rw [u4 _ (by omega)]; exact f2 z i hi hi2⟩
    · exact ⟨by rw [u3, pk_us]; exact hw, u5⟩
theorem lp_cp3 (G : Gk) {m : Nat} {am : Nat → Nat} {h0 : Hp} {s t1 : Mem} (b : Bf) (k f oo len : Nat) (v1 : Int32) (hoo : oo < nO s) (hk : nO s + k < 60) (hf : f < 8) (h6 : len ≤ 6) (hp : ∀ i, i < len → ∃ u, u < nO s ∧ s.2 11 (6 * (8 * oo + f) + i) = nI u) (e14 : t1.2 14 = b.2.2) (e11 : ∀ x, x < 48 * nO s → t1.2 11 x = s.2 11 x) (post : Option Value → Hp → Prop)
    (K : ∀ h t l9, Mod h0 m am h t → t.1 = t1.1 → (∀ q, q ≠ 11 → t.2 q = t1.2 q) → (∀ x, x < 6 * (8 * (nO s + k) + f) ∨ 6 * (8 * (nO s + k) + f) + 6 ≤ x → t.2 11 x = t1.2 11 x) → (∀ i, i < len → t.2 11 (6 * (8 * (nO s + k) + f) + i) = cpd b.2.2 (nO s) (s.2 11 (6 * (8 * oo + f) + i))) →
      V G md_copy post h 0 0 215 [some (.ref m), some (.int v1), some (.int (nI (nO s))), some (.int (nI k)), some (.int (nI oo)), some (.int (nI (nO s + k))), some (.int (nI f)), some (.int (nI len)), some (.int 2), l9] []) : ∀ (c i : Nat) (h : Hp) (t : Mem), i + c = len → Mod h0 m am h t → t.1 = t1.1 → (∀ q, q ≠ 11 → t.2 q = t1.2 q) → (∀ x, x < 6 * (8 * (nO s + k) + f) ∨ 6 * (8 * (nO s + k) + f) + 6 ≤ x → t.2 11 x = t1.2 11 x) → (∀ j, j < i → t.2 11 (6 * (8 * (nO s + k) + f) + j) = cpd b.2.2 (nO s) (s.2 11 (6 * (8 * oo + f) + j))) →
    V G md_copy post h 0 0 153 [some (.ref m), some (.int v1), some (.int (nI (nO s))), some (.int (nI k)), some (.int (nI oo)), some (.int (nI (nO s + k))), some (.int (nI f)), some (.int (nI len)), some (.int 2), some (.int (nI i))] [] := by
  intro c
  induction c with
  | zero =>
    intro i h t hi hM a1 a2 a3 a4
    have r := hM.1
    refine V_iload d_md_copy_153 rfl ?_
    refine V_iconst (v := 2) d_md_copy_155 (by decide) ?_
    refine V_icmp_ne d_md_copy_156 (fun c156 => ?_) (fun c156 => ?_)
    · skip
      exact absurd rfl c156
    · skip
      refine V_iload d_md_copy_159 rfl ?_
      refine V_iload d_md_copy_161 rfl ?_
      refine V_icmp_ge d_md_copy_163 (fun c163 => ?_) (fun c163 => ?_)
      · skip
        obtain rfl : i = len := by omega
        exact K _ _ _ hM a1 a2 a3 a4
      · skip
        exact absurd (ltN c163 (by omega)) (by omega)
  | succ c ih =>
    intro i h t hi hM a1 a2 a3 a4
    have r := hM.1
    obtain ⟨u, hu, eu⟩ := hp i (by omega)
    have e14' : t.2 14 = b.2.2 := by rw [a2 14 (by decide)]; exact e14
    have e11' : t.2 11 (6 * (8 * oo + f) + i) = nI u := by rw [a3 _ (by omega), e11 _ (by omega)]; exact eu
    refine V_iload d_md_copy_153 rfl ?_
    refine V_iconst (v := 2) d_md_copy_155 (by decide) ?_
    refine V_icmp_ne d_md_copy_156 (fun c156 => ?_) (fun c156 => ?_)
    · skip
      exact absurd rfl c156
    · skip
      refine V_iload d_md_copy_159 rfl ?_
      refine V_iload d_md_copy_161 rfl ?_
      refine V_icmp_ge d_md_copy_163 (fun c163 => ?_) (fun c163 => ?_)
      · skip
        exact absurd (geN c163 (by omega)) (by omega)
      · skip
        refine V_aload_n d_md_copy_166 rfl rfl ?_
        refine V_getf d_md_copy_167 fl_md_37 r.obj rfl ?_
        refine V_bipush (v := 6) d_md_copy_170 (by decide) ?_
        refine V_aload_n d_md_copy_172 rfl rfl ?_
        refine V_iload d_md_copy_173 rfl ?_
        refine V_iload d_md_copy_175 rfl ?_
        refine V_callV (N := md_at) d_md_copy_177 ml_md_152 mdf_md_at wi_md_at wz_md_at (sp_md_at G _ _ _ _) r.obj ⟨_, rfl, rfl⟩ rfl rfl (by decide) (by decide) (Nat.le_of_ble_eq_true rfl) rfl rfl (kI fun r177 h177 ⟨e177, f177⟩ => ?_)
        subst e177 f177
        refine V_imul d_md_copy_180 ?_
        refine V_iload d_md_copy_181 rfl ?_
        refine V_iadd d_md_copy_183 ?_
        rw [ix6]
        refine V_aload_n d_md_copy_184 rfl rfl ?_
        refine V_aload_n d_md_copy_185 rfl rfl ?_
        refine V_getf d_md_copy_186 fl_md_37 r.obj rfl ?_
        refine V_bipush (v := 6) d_md_copy_189 (by decide) ?_
        refine V_aload_n d_md_copy_191 rfl rfl ?_
        refine V_iload d_md_copy_192 rfl ?_
        refine V_iload d_md_copy_194 rfl ?_
        refine V_callV (N := md_at) d_md_copy_196 ml_md_152 mdf_md_at wi_md_at wz_md_at (sp_md_at G _ _ _ _) r.obj ⟨_, rfl, rfl⟩ rfl rfl (by decide) (by decide) (Nat.le_of_ble_eq_true rfl) rfl rfl (kI fun r196 h196 ⟨e196, f196⟩ => ?_)
        subst e196 f196
        refine V_imul d_md_copy_199 ?_
        refine V_iload d_md_copy_200 rfl ?_
        refine V_iadd d_md_copy_202 ?_
        rw [ix6]
        refine V_mald r d_md_copy_203 (by first | with_reducible rfl | exact ix8 _ _ | exact ix6 _ _ | assumption) rfl rfl (by show _ < 2880; omega) ?_
        rw [e11']
        refine V_iload_n d_md_copy_204 rfl rfl ?_
        refine V_callV (N := md_copied) d_md_copy_205 ml_md_286 mdf_md_copied wi_md_copied wz_md_copied (sp_md_copied G r (nO s) (nI u) (Or.inr ⟨u, by omega, rfl⟩)) r.obj ⟨_, rfl, rfl⟩ rfl rfl (by decide) (by decide) (Nat.le_of_ble_eq_true rfl) rfl rfl (kI fun r205 h205 ⟨e205, f205⟩ => ?_)
        subst e205 f205
        rw [e14']
        refine V_mast r d_md_copy_208 (by first | with_reducible rfl | exact ix8 _ _ | exact ix6 _ _ | assumption) rfl rfl (by show _ < 2880; omega) (fun h208 M208 => ?_)
        have R208 := M208.1
        refine V_iinc (v := _) d_md_copy_209 rfl rfl (by decide) rfl rfl ?_
        dsimp only [List.set]
        refine V_goto d_md_copy_212 ?_
        rw [show Int32.ofInt 1 = 1 from rfl, nI_1]
        refine ih (i + 1) _ _ (by omega) (hM.trans M208) a1 (fun q hq => by rw [mA_2n _ _ _ hq]; exact a2 q hq) (fun x hx => by rw [mA_2s, pk_un (by omega)]; exact a3 x hx) (fun j hj => ?_)
        rw [mA_2s]
        exact (Nat.lt_succ_iff_lt_or_eq.mp hj).elim (fun q => by rw [pk_un (by omega)]; exact a4 j q) (fun q => by subst q; rw [pk_us, eu])
theorem lp_cp2 (G : Gk) {m : Nat} {am : Nat → Nat} {h0 : Hp} {s : Mem} (ivs : IvS s) (ivo : IvO s) (ivv : IvV s) (b : Bf) (k oo : Nat) (v1 : Int32) (hoo : oo < nO s) (eoo : orow b k = oo) (hk : nO s + k < 60) (h8b : ∀ j, j < k → nf s (sh s (orow b j)) ≤ 8) (post : Option Value → Hp → Prop)
    (K : ∀ h t l4 l5 l6 l7 l8 l9, Mod h0 m am h t → Cp s b (k + 1) (k + 1) 0 t → V G md_copy post h 0 0 221 [some (.ref m), some (.int v1), some (.int (nI (nO s))), some (.int (nI k)), l4, l5, l6, l7, l8, l9] []) : ∀ (c f : Nat) (h : Hp) (t : Mem) (l7 l8 l9 : Option Value), f + c = nf s (sh s oo) → Mod h0 m am h t → Cp s b (k + 1) k f t →
    V G md_copy post h 0 0 72 [some (.ref m), some (.int v1), some (.int (nI (nO s))), some (.int (nI k)), some (.int (nI oo)), some (.int (nI (nO s + k))), some (.int (nI f)), l7, l8, l9] [] := by
  have h10 := ivs.2.1
  obtain ⟨hs1, hs2⟩ := ivo.2.2 oo hoo
  obtain ⟨hf1, hf8⟩ := ivs.2.2.1 _ hs2
  intro c
  induction c with
  | zero =>
    intro f h t l7 l8 l9 hf hM hC
    have r := hM.1
    have e9 : t.2 9 oo = nI (sh s oo) := by rw [hC.2.2.2.1 oo hoo]; exact hs1
    have e2 : t.2 2 (sh s oo) = nI (nf s (sh s oo)) := by rw [hC.2.2.1 2 (by decide) (by decide) (by decide), sB_2 _ _ (by decide) (by decide)]; exact hf1
    refine V_iload d_md_copy_72 rfl ?_
    refine V_aload_n d_md_copy_74 rfl rfl ?_
    refine V_getf d_md_copy_75 fl_md_13 r.obj rfl ?_
    refine V_aload_n d_md_copy_78 rfl rfl ?_
    refine V_getf d_md_copy_79 fl_md_31 r.obj rfl ?_
    refine V_iload d_md_copy_82 rfl ?_
    refine V_mald r d_md_copy_84 (by first | with_reducible rfl | exact ix8 _ _ | exact ix6 _ _ | assumption) rfl rfl (by show _ < 60; omega) ?_
    rw [e9]
    refine V_mald r d_md_copy_85 (by first | with_reducible rfl | exact ix8 _ _ | exact ix6 _ _ | assumption) rfl rfl (by show _ < 10; omega) ?_
    rw [e2]
    refine V_icmp_ge d_md_copy_86 (fun c86 => ?_) (fun c86 => ?_)
    · skip
      obtain rfl : f = nf s (sh s oo) := by omega
      rw [← eoo] at hC
      exact K _ _ _ _ _ _ _ _ hM hC.next
    · skip
      exact absurd (ltN c86 (by omega)) (by omega)
  | succ c ih =>
    intro f h t l7 l8 l9 hf hM hC
    have r := hM.1
    have e9 : t.2 9 oo = nI (sh s oo) := by rw [hC.2.2.2.1 oo hoo]; exact hs1
    have e2 : t.2 2 (sh s oo) = nI (nf s (sh s oo)) := by rw [hC.2.2.1 2 (by decide) (by decide) (by decide), sB_2 _ _ (by decide) (by decide)]; exact hf1
    have e3 : t.2 3 = s.2 3 := by rw [hC.2.2.1 3 (by decide) (by decide) (by decide), sB_2 _ _ (by decide) (by decide)]
    have e14 : t.2 14 = b.2.2 := by rw [hC.2.2.1 14 (by decide) (by decide) (by decide), sB_14]
    have e10 : t.2 10 (8 * oo + f) = s.2 10 (8 * oo + f) := hC.2.2.2.2.2.1 _ (by omega)
    have vok := ivv oo hoo f (by omega)
    have nxt : ∀ (h1 : Hp) (u : Mem) (l7 l8 l9 : Option Value), Mod h0 m am h1 u → Cp s b (k + 1) k (f + 1) u → V G md_copy post h1 0 0 215 [some (.ref m), some (.int v1), some (.int (nI (nO s))), some (.int (nI k)), some (.int (nI oo)), some (.int (nI (nO s + k))), some (.int (nI f)), l7, l8, l9] [] := by
      intro h1 u l7 l8 l9 M1 C1
      refine V_iinc (v := _) d_md_copy_215 rfl rfl (by decide) rfl rfl ?_
      dsimp only [List.set]
      refine V_goto d_md_copy_218 ?_
      rw [show Int32.ofInt 1 = 1 from rfl, nI_1]
      exact ih (f + 1) _ _ _ _ _ (by omega) M1 C1
    have lst : ∀ (w v kk : Int32) (h1 : Hp), s.2 3 (8 * sh s oo + f) = kk → s.2 10 (8 * oo + f) = v → Mod h0 m am h1 (mA t 10 (8 * (nO s + k) + f) w) → (w = if s.2 3 (8 * sh s (orow b k) + f) = 1 then cpd b.2.2 (nO s) (s.2 10 (8 * orow b k + f)) else s.2 10 (8 * orow b k + f)) → V G md_copy post h1 0 0 153 [some (.ref m), some (.int v1), some (.int (nI (nO s))), some (.int (nI k)), some (.int (nI oo)), some (.int (nI (nO s + k))), some (.int (nI f)), some (.int v), some (.int kk), some (.int (nI 0))] [] := by
      intro w v kk h1 hkk hv M1 hw
      by_cases h2 : kk = 2
      · subst h2
        obtain ⟨len, h6, hl, hp⟩ := vok.2 hkk
        obtain rfl : v = nI len := hv.symm.trans hl
        refine lp_cp3 G b k f oo len v1 hoo hk (by omega) h6 hp (by rw [mA_2n _ _ _ (by decide)]; exact e14) (fun x hx => by rw [mA_2n _ _ _ (by decide)]; exact hC.2.2.2.2.2.2.1 x hx) post (fun h2 u l9 M2 a1 a2 a3 a4 => ?_) len 0 _ _ (by omega) M1 rfl (fun _ _ => rfl) (fun _ _ => rfl) (fun j hj => by omega)
        refine nxt _ u _ _ _ M2 (hC.put (by omega) h8b hw (by rw [a1]; rfl) (fun q c d => by rw [a2 q d, mA_2n _ _ _ c]) (by rw [a2 10 (by decide), mA_2s]) (fun x hx => by rw [a3 x hx, mA_2n _ _ _ (by decide)]) (fun _ i _ hi => ?_))
        rw [eoo, hv, cl len (by omega)] at hi
        rw [eoo]
        exact a4 i hi
      · skip
        refine V_iload d_md_copy_153 rfl ?_
        refine V_iconst (v := 2) d_md_copy_155 (by decide) ?_
        refine V_icmp_ne d_md_copy_156 (fun c156 => ?_) (fun c156 => ?_)
        · skip
          exact nxt _ _ _ _ _ M1 (hC.put (by omega) h8b hw rfl (fun q c d => mA_2n _ _ _ c) (mA_2s _ _ _ _) (fun x hx => by rw [mA_2n _ _ _ (by decide)]) (fun q => absurd (by rw [eoo] at q; exact hkk.symm.trans q) h2))
        · skip
          exact absurd c156 h2
    refine V_iload d_md_copy_72 rfl ?_
    refine V_aload_n d_md_copy_74 rfl rfl ?_
    refine V_getf d_md_copy_75 fl_md_13 r.obj rfl ?_
    refine V_aload_n d_md_copy_78 rfl rfl ?_
    refine V_getf d_md_copy_79 fl_md_31 r.obj rfl ?_
    refine V_iload d_md_copy_82 rfl ?_
    refine V_mald r d_md_copy_84 (by first | with_reducible rfl | exact ix8 _ _ | exact ix6 _ _ | assumption) rfl rfl (by show _ < 60; omega) ?_
    rw [e9]
    refine V_mald r d_md_copy_85 (by first | with_reducible rfl | exact ix8 _ _ | exact ix6 _ _ | assumption) rfl rfl (by show _ < 10; omega) ?_
    rw [e2]
    refine V_icmp_ge d_md_copy_86 (fun c86 => ?_) (fun c86 => ?_)
    · skip
      exact absurd (geN c86 (by omega)) (by omega)
    · skip
      refine V_aload_n d_md_copy_89 rfl rfl ?_
      refine V_getf d_md_copy_90 fl_md_34 r.obj rfl ?_
      refine V_aload_n d_md_copy_93 rfl rfl ?_
      refine V_iload d_md_copy_94 rfl ?_
      refine V_iload d_md_copy_96 rfl ?_
      refine V_callV (N := md_at) d_md_copy_98 ml_md_152 mdf_md_at wi_md_at wz_md_at (sp_md_at G _ _ _ _) r.obj ⟨_, rfl, rfl⟩ rfl rfl (by decide) (by decide) (Nat.le_of_ble_eq_true rfl) rfl rfl (kI fun r98 h98 ⟨e98, f98⟩ => ?_)
      subst e98 f98
      refine V_mald r d_md_copy_101 (by first | with_reducible rfl | exact ix8 _ _ | exact ix6 _ _ | assumption) rfl rfl (by show _ < 480; omega) ?_
      rw [e10]
      refine V_istore d_md_copy_102 (by decide) rfl rfl ?_
      dsimp only [List.set]
      refine V_aload_n d_md_copy_104 rfl rfl ?_
      refine V_getf d_md_copy_105 fl_md_16 r.obj rfl ?_
      refine V_aload_n d_md_copy_108 rfl rfl ?_
      refine V_iload d_md_copy_109 rfl ?_
      refine V_iload d_md_copy_111 rfl ?_
      refine V_callV (N := md_by) d_md_copy_113 ml_md_156 mdf_md_by wi_md_by wz_md_by (sp_md_by' G r oo f (sh s oo) (by omega) e9) r.obj ⟨_, rfl, rfl⟩ rfl rfl (by decide) (by decide) (Nat.le_of_ble_eq_true rfl) rfl rfl (kI fun r113 h113 ⟨e113, f113⟩ => ?_)
      subst e113 f113
      refine V_mald r d_md_copy_116 (by first | with_reducible rfl | exact ix8 _ _ | exact ix6 _ _ | assumption) rfl rfl (by show _ < 80; omega) ?_
      rw [e3]
      refine V_istore d_md_copy_117 (by decide) rfl rfl ?_
      dsimp only [List.set]
      refine V_aload_n d_md_copy_119 rfl rfl ?_
      refine V_getf d_md_copy_120 fl_md_34 r.obj rfl ?_
      refine V_aload_n d_md_copy_123 rfl rfl ?_
      refine V_iload d_md_copy_124 rfl ?_
      refine V_iload d_md_copy_126 rfl ?_
      refine V_callV (N := md_at) d_md_copy_128 ml_md_152 mdf_md_at wi_md_at wz_md_at (sp_md_at G _ _ _ _) r.obj ⟨_, rfl, rfl⟩ rfl rfl (by decide) (by decide) (Nat.le_of_ble_eq_true rfl) rfl rfl (kI fun r128 h128 ⟨e128, f128⟩ => ?_)
      subst e128 f128
      refine V_iload d_md_copy_131 rfl ?_
      refine V_iconst (v := 1) d_md_copy_133 (by decide) ?_
      refine V_icmp_ne d_md_copy_134 (fun c134 => ?_) (fun c134 => ?_)
      · skip
        refine V_iload d_md_copy_147 rfl ?_
        refine V_mast r d_md_copy_149 (by first | with_reducible rfl | exact ix8 _ _ | exact ix6 _ _ | assumption) rfl rfl (by show _ < 480; omega) (fun h149 M149 => ?_)
        have R149 := M149.1
        refine V_iconst (v := 0) d_md_copy_150 (by decide) ?_
        refine V_istore d_md_copy_151 (by decide) rfl rfl ?_
        dsimp only [List.set]
        exact lst _ _ _ _ rfl rfl (hM.trans M149) (by rw [eoo, if_neg c134])
      · skip
        refine V_aload_n d_md_copy_137 rfl rfl ?_
        refine V_iload d_md_copy_138 rfl ?_
        refine V_iload_n d_md_copy_140 rfl rfl ?_
        refine V_callV (N := md_copied) d_md_copy_141 ml_md_286 mdf_md_copied wi_md_copied wz_md_copied (sp_md_copied G r (nO s) _ ((vok.1 c134).imp id (fun ⟨u, hu, e⟩ => ⟨u, by omega, e⟩))) r.obj ⟨_, rfl, rfl⟩ rfl rfl (by decide) (by decide) (Nat.le_of_ble_eq_true rfl) rfl rfl (kI fun r141 h141 ⟨e141, f141⟩ => ?_)
        subst e141 f141
        rw [e14]
        refine V_goto d_md_copy_144 ?_
        refine V_mast r d_md_copy_149 (by first | with_reducible rfl | exact ix8 _ _ | exact ix6 _ _ | assumption) rfl rfl (by show _ < 480; omega) (fun h149 M149 => ?_)
        have R149 := M149.1
        refine V_iconst (v := 0) d_md_copy_150 (by decide) ?_
        refine V_istore d_md_copy_151 (by decide) rfl rfl ?_
        dsimp only [List.set]
        exact lst _ _ _ _ rfl rfl (hM.trans M149) (by rw [eoo, if_pos c134])
theorem lp_cp1 (G : Gk) {m : Nat} {am : Nat → Nat} {h0 : Hp} {s : Mem} (ivs : IvS s) (ivo : IvO s) (ivv : IvV s) (b : Bf) (hb : bOK (nO s) b) (h60 : nO s + b.1 ≤ 60) (v1 : Int32) : ∀ (c k : Nat) (h : Hp) (t : Mem) (l4 l5 l6 l7 l8 l9 : Option Value), k + c = b.1 → Mod h0 m am h t → Cp s b k k 0 t →
    V G md_copy (pI fun r h' => (∃ t, Mod h0 m am h' t ∧ Cp s b b.1 b.1 0 t) ∧ r = nI (nO s)) h 0 0 40 [some (.ref m), some (.int v1), some (.int (nI (nO s))), some (.int (nI k)), l4, l5, l6, l7, l8, l9] [] := by
  have h10 := ivs.2.1
  have h8b : ∀ j, j < b.1 → nf s (sh s (orow b j)) ≤ 8 := by
    intro j hj
    obtain ⟨u, hu, e1, -⟩ := hb.1 j hj
    have eu : orow b j = u := by unfold orow; rw [e1]; exact cl u (by omega)
    rw [eu]
    exact (ivs.2.2.1 _ (ivo.2.2 u hu).2).2
  intro c
  induction c with
  | zero =>
    intro k h t l4 l5 l6 l7 l8 l9 hk hM hC
    have r := hM.1
    have e15 : t.1 15 = nI b.1 := by rw [hC.2.1 15 (by decide), sB_15]
    refine V_iload_n d_md_copy_40 rfl rfl ?_
    refine V_aload_n d_md_copy_41 rfl rfl ?_
    refine V_getf d_md_copy_42 fl_md_175 r.obj rfl ?_
    rw [e15]
    refine V_icmp_ge d_md_copy_45 (fun c45 => ?_) (fun c45 => ?_)
    · skip
      refine V_iload_n d_md_copy_227 rfl rfl ?_
      refine V_ireturn d_md_copy_228 rfl ?_
      obtain rfl : k = b.1 := by omega
      exact ⟨_, rfl, ⟨t, hM, hC⟩, rfl⟩
    · skip
      exact absurd (ltN c45 (by omega)) (by omega)
  | succ c ih =>
    intro k h t l4 l5 l6 l7 l8 l9 hk hM hC
    have r := hM.1
    obtain ⟨u, hu, e1, -⟩ := hb.1 k (by omega)
    have eu : orow b k = u := by unfold orow; rw [e1]; exact cl u (by omega)
    obtain ⟨hs1, hs2⟩ := ivo.2.2 u hu
    have e15 : t.1 15 = nI b.1 := by rw [hC.2.1 15 (by decide), sB_15]
    have e13 : t.2 13 k = nI u := by rw [hC.2.2.1 13 (by decide) (by decide) (by decide), sB_13]; exact e1
    have e9 : t.2 9 u = nI (sh s u) := by rw [hC.2.2.2.1 u hu]; exact hs1
    obtain ⟨j2, eO, eS⟩ := hC.ivo ivo hb (by omega) (by omega)
    refine V_iload_n d_md_copy_40 rfl rfl ?_
    refine V_aload_n d_md_copy_41 rfl rfl ?_
    refine V_getf d_md_copy_42 fl_md_175 r.obj rfl ?_
    rw [e15]
    refine V_icmp_ge d_md_copy_45 (fun c45 => ?_) (fun c45 => ?_)
    · skip
      exact absurd (geN c45 (by omega)) (by omega)
    · skip
      refine V_aload_n d_md_copy_48 rfl rfl ?_
      refine V_getf d_md_copy_49 fl_md_43 r.obj rfl ?_
      refine V_iload_n d_md_copy_52 rfl rfl ?_
      refine V_mald r d_md_copy_53 (by first | with_reducible rfl | exact ix8 _ _ | exact ix6 _ _ | assumption) rfl rfl (by show _ < 60; omega) ?_
      rw [e13]
      refine V_istore d_md_copy_54 (by decide) rfl rfl ?_
      dsimp only [List.set]
      refine V_aload_n d_md_copy_56 rfl rfl ?_
      refine V_aload_n d_md_copy_57 rfl rfl ?_
      refine V_getf d_md_copy_58 fl_md_31 r.obj rfl ?_
      refine V_iload d_md_copy_61 rfl ?_
      refine V_mald r d_md_copy_63 (by first | with_reducible rfl | exact ix8 _ _ | exact ix6 _ _ | assumption) rfl rfl (by show _ < 60; omega) ?_
      rw [e9]
      refine V_callV (N := md_makes) d_md_copy_64 ml_md_159 mdf_md_makes wi_md_makes wz_md_makes (sp_md_makes G r (hC.ivs ivs) j2 (by omega) (sh s u) (by rw [eS]; exact hs2)) r.obj ⟨_, rfl, rfl⟩ rfl rfl (by decide) (by decide) (Nat.le_of_ble_eq_true rfl) rfl rfl (kI fun r64 h64 ⟨t1, M64, K64, e64⟩ => ?_)
      subst e64
      rw [eO]
      refine V_istore d_md_copy_67 (by decide) rfl rfl ?_
      dsimp only [List.set]
      refine V_iconst (v := 0) d_md_copy_69 (by decide) ?_
      refine V_istore d_md_copy_70 (by decide) rfl rfl ?_
      dsimp only [List.set]
      refine lp_cp2 G ivs ivo ivv b k u v1 hu eu (by omega) (fun j hj => h8b j (by omega)) _ (fun h2 t2 l4 l5 l6 l7 l8 l9 M2 C2 => ?_) (nf s (sh s u)) 0 _ _ _ _ _ (by omega) (hM.trans M64) (hC.mk eO (by rw [eu]; exact hs1) K64 (fun j hj => h8b j (by omega)))
      refine V_iinc d_md_copy_221 rfl rfl (by decide) rfl rfl ?_
      dsimp only [List.set]
      refine V_goto d_md_copy_224 ?_
      rw [show Int32.ofInt 1 = 1 from rfl, nI_1]
      exact ih (k + 1) _ _ _ _ _ _ _ _ (by omega) M2 C2
theorem findB_ok {s : Mem} (ivo : IvO s) (ivv : IvV s) (o : Nat) (ho : o < nO s) : bOK (nO s) (findB s o) := bLoop_ok ivo ivv 61 0 _ ((bStart_ok s).add (by have := ivo.2.1; omega) (Or.inr ⟨o, ho, rfl⟩))
theorem sp_md_copy (G : Gk) {h : Hp} {m : Nat} {am : Nat → Nat} {s : Mem} (r : RepM h m am s) (ivs : IvS s) (ivo : IvO s) (ivv : IvV s) (v : Int32) : Ct G md_copy [.ref m, .int v] h
    (pI fun r h' => (¬ isOb s v ∧ h = h' ∧ r = -2) ∨ ∃ o, o < nO s ∧ v = nI o ∧ ((60 < nO s + (findB s o).1 ∧ (∃ t, Mod h m am h' t ∧ Sc s t) ∧ r = -4) ∨ (nO s + (findB s o).1 ≤ 60 ∧ (∃ t, Mod h m am h' t ∧ Cp s (findB s o) (findB s o).1 (findB s o).1 0 t) ∧ r = nI (nO s)))) := by
  have h60 := ivo.2.1
  refine Ct.ofL (M := md_copy) (lv := [some (.ref m), some (.int v), none, none, none, none, none, none, none, none]) mdf_md_copy rfl (Nat.le_of_ble_eq_true rfl) rfl ?_
  refine V_aload_n d_md_copy_0 rfl rfl ?_
  refine V_iload_n d_md_copy_1 rfl rfl ?_
  refine V_callV (N := md_isObject) d_md_copy_2 ml_md_149 mdf_md_isObject wi_md_isObject wz_md_isObject (sp_md_isObject G r _) r.obj ⟨_, rfl, rfl⟩ rfl rfl (by decide) (by decide) (Nat.le_of_ble_eq_true rfl) rfl rfl (kI fun r2 h2 ⟨e2, f2⟩ => ?_)
  subst e2 f2
  refine V_if_ne d_md_copy_5 (fun c5 => ?_) (fun c5 => ?_)
  · skip
    obtain ⟨o, ho, rfl⟩ := isOb.ix ivo (b01_ne c5)
    have hb := findB_ok ivo ivv o ho
    have hb60 := hb.le (by omega)
    refine V_aload_n d_md_copy_11 rfl rfl ?_
    refine V_iload_n d_md_copy_12 rfl rfl ?_
    refine V_callV (N := md_findHeld) d_md_copy_13 ml_md_283 mdf_md_findHeld wi_md_findHeld wz_md_findHeld (sp_md_findHeld G r ivs ivo ivv o ho) r.obj ⟨_, rfl, rfl⟩ rfl rfl (by decide) (by decide) (Nat.le_of_ble_eq_true rfl) rfl rfl (kN fun h13 M13 => ?_)
    have R13 := M13.1
    refine V_aload_n d_md_copy_16 rfl rfl ?_
    refine V_getf d_md_copy_17 fl_md_122 R13.obj rfl ?_
    rw [sB_1 _ _ (by decide), ivo.1]
    refine V_aload_n d_md_copy_20 rfl rfl ?_
    refine V_getf d_md_copy_21 fl_md_175 R13.obj rfl ?_
    rw [sB_15]
    refine V_iadd d_md_copy_24 ?_
    rw [nI_add]
    refine V_bipush (v := 60) d_md_copy_25 (by decide) ?_
    refine V_icmp_le d_md_copy_27 (fun c27 => ?_) (fun c27 => ?_)
    · skip
      have hle : nO s + (findB s o).1 ≤ 60 := geN_le c27 (by omega)
      refine V_aload_n d_md_copy_33 rfl rfl ?_
      refine V_getf d_md_copy_34 fl_md_122 R13.obj rfl ?_
      rw [sB_1 _ _ (by decide), ivo.1]
      refine V_istore_n d_md_copy_37 rfl (by decide) rfl rfl ?_
      dsimp only [List.set]
      refine V_iconst (v := 0) d_md_copy_38 (by decide) ?_
      refine V_istore_n d_md_copy_39 rfl (by decide) rfl rfl ?_
      dsimp only [List.set]
      refine V.mono (lp_cp1 G ivs ivo ivv (findB s o) hb hle (nI o) (findB s o).1 0 _ _ _ _ _ _ _ _ (by omega) M13 ⟨?_, fun q _ => rfl, fun q _ _ _ => rfl, fun i _ => by rw [sB_2 _ _ (by decide) (by decide)], fun j hj => by omega, fun x _ => by rw [sB_2 _ _ (by decide) (by decide)], fun x _ => by rw [sB_2 _ _ (by decide) (by decide)], fun j hj => by omega, fun g hg => by omega⟩) (fun v' h' q => ?_)
      · (rw [sB_1 _ _ (by decide)]; exact ivo.1)
      · (obtain ⟨r', q1, q2, q3⟩ := q; exact ⟨r', q1, Or.inr ⟨o, ho, rfl, Or.inr ⟨hle, q2, q3⟩⟩⟩)
    · skip
      refine V_bipush (v := -4) d_md_copy_30 (by decide) ?_
      refine V_ireturn d_md_copy_32 rfl ?_
      exact ⟨_, rfl, Or.inr ⟨o, ho, rfl, Or.inl ⟨Nat.lt_of_not_le (fun q => c27 (nI_le q (by decide))), ⟨_, M13, Sc.sB _ _⟩, rfl⟩⟩⟩
  · skip
    refine V_bipush (v := -2) d_md_copy_8 (by decide) ?_
    refine V_ireturn d_md_copy_10 rfl ?_
    exact ⟨_, rfl, Or.inl ⟨b01_e c5, rfl, rfl⟩⟩
