/-! insert, remove of the reference -/
theorem ixle {v : Int32} {n : Nat} (hn : n < 1000000) (h : 0 ≤ v ∧ v ≤ nI n) : ∃ i, i ≤ n ∧ v = nI i := by
  obtain ⟨h1, h2⟩ := h
  obtain ⟨j, hj, rfl⟩ := nI_of (x := v) (fun q => by simp only [Int32.le_iff_toInt_le, Int32.lt_iff_toInt_lt] at *; omega)
  exact ⟨j, geN_le h2 (by omega), rfl⟩
theorem ixleno {v : Int32} {n : Nat} (hn : n < 1000000) (h : ¬ (0 ≤ v ∧ v ≤ nI n)) : ∀ i, i ≤ n → v ≠ nI i := by
  rintro i hi rfl
  exact h ⟨nI_pos' (by omega), nI_le hi (by omega)⟩
def InsM (s : Mem) (y len i : Nat) (u : Int32) (t : Mem) : Prop := t.1 = s.1 ∧ (∀ q, q ≠ 10 → q ≠ 11 → t.2 q = s.2 q) ∧ t.2 10 = upd (s.2 10) y (nI (len + 1)) ∧ (∀ x, x < 6 * y ∨ 6 * y + 6 ≤ x → t.2 11 x = s.2 11 x) ∧ (∀ k, k < i → t.2 11 (6 * y + k) = s.2 11 (6 * y + k)) ∧ t.2 11 (6 * y + i) = u ∧ ∀ k, i ≤ k → k < len → t.2 11 (6 * y + k + 1) = s.2 11 (6 * y + k)
def RemM (s : Mem) (y len i : Nat) (t : Mem) : Prop := t.1 = s.1 ∧ (∀ q, q ≠ 10 → q ≠ 11 → t.2 q = s.2 q) ∧ t.2 10 = upd (s.2 10) y (nI (len - 1)) ∧ (∀ x, x < 6 * y ∨ 6 * y + 6 ≤ x → t.2 11 x = s.2 11 x) ∧ (∀ k, k < i → t.2 11 (6 * y + k) = s.2 11 (6 * y + k)) ∧ ∀ k, i ≤ k → k < len - 1 → t.2 11 (6 * y + k) = s.2 11 (6 * y + k + 1)
def InsI (s : Mem) (y len k : Nat) (t : Mem) : Prop := t.1 = s.1 ∧ (∀ q, q ≠ 11 → t.2 q = s.2 q) ∧ (∀ x, x < 6 * y ∨ 6 * y + 6 ≤ x → t.2 11 x = s.2 11 x) ∧ (∀ x, x ≤ k → t.2 11 (6 * y + x) = s.2 11 (6 * y + x)) ∧ ∀ x, k ≤ x → x < len → t.2 11 (6 * y + x + 1) = s.2 11 (6 * y + x)
theorem lp_ins (G : Gk) {m : Nat} {am : Nat → Nat} {s : Mem} {h0 : Hp} {post : Option Value → Hp → Prop} (o f x y len i u : Nat) (hy : y < 480) (h6 : len < 6) (hi : i ≤ len) (K : ∀ (h : Hp) (t : Mem), Mod h0 m am h t → InsI s y len i t → V G md_insert post h 0 0 175 [some (.ref m), some (.int (nI o)), some (.int (nI f)), some (.int (nI i)), some (.int (nI u)), some (.int (nI x)), some (.int (nI y)), some (.int (nI i))] []) : ∀ (n k : Nat) (h : Hp) (t : Mem), k = i + n → k ≤ len → Mod h0 m am h t → InsI s y len k t →
    V G md_insert post h 0 0 135 [some (.ref m), some (.int (nI o)), some (.int (nI f)), some (.int (nI i)), some (.int (nI u)), some (.int (nI x)), some (.int (nI y)), some (.int (nI k))] [] := by
  intro n
  induction n with
  | zero =>
    intro k h t hk hl hM hs
    obtain rfl : k = i := by omega
    have r := hM.1
    refine V_iload d_md_insert_135 rfl ?_
    refine V_iload_n d_md_insert_137 rfl rfl ?_
    refine V_icmp_le d_md_insert_138 (fun c138 => ?_) (fun c138 => ?_)
    · skip
      exact K _ _ hM hs
    · skip
      exact absurd (nI_le (Nat.le_refl k) (by omega)) c138
  | succ n ih =>
    intro k h t hk hl hM hs
    have r := hM.1
    refine V_iload d_md_insert_135 rfl ?_
    refine V_iload_n d_md_insert_137 rfl rfl ?_
    refine V_icmp_le d_md_insert_138 (fun c138 => ?_) (fun c138 => ?_)
    · skip
      exact absurd (geN_le c138 (by omega)) (by omega)
    · skip
      refine V_aload_n d_md_insert_141 rfl rfl ?_
      refine V_getf d_md_insert_142 fl_md_37 r.obj rfl ?_
      refine V_bipush (v := 6) d_md_insert_145 (by decide) ?_
      refine V_iload d_md_insert_147 rfl ?_
      refine V_imul d_md_insert_149 ?_
      refine V_iload d_md_insert_150 rfl ?_
      refine V_iadd d_md_insert_152 ?_
      rw [ix6]
      refine V_aload_n d_md_insert_153 rfl rfl ?_
      refine V_getf d_md_insert_154 fl_md_37 r.obj rfl ?_
      refine V_bipush (v := 6) d_md_insert_157 (by decide) ?_
      refine V_iload d_md_insert_159 rfl ?_
      refine V_imul d_md_insert_161 ?_
      refine V_iload d_md_insert_162 rfl ?_
      refine V_iadd d_md_insert_164 ?_
      rw [ix6]
      refine V_iconst (v := 1) d_md_insert_165 (by decide) ?_
      refine V_isub d_md_insert_166 ?_
      rw [ixm (show 0 < 6 * y + k by omega)]
      refine V_mald r d_md_insert_167 (by first | with_reducible rfl | exact ix8 _ _ | exact ix6 _ _ | assumption) rfl rfl (by show _ < 2880; omega) ?_
      rw [show 6 * y + k - 1 = 6 * y + (k - 1) by omega, hs.2.2.2.1 (k - 1) (by omega)]
      refine V_mast r d_md_insert_168 (by first | with_reducible rfl | exact ix8 _ _ | exact ix6 _ _ | assumption) rfl rfl (by show _ < 2880; omega) (fun h168 M168 => ?_)
      have R168 := M168.1
      refine V_iinc (v := _) d_md_insert_169 rfl rfl (by decide) rfl rfl ?_
      dsimp only [List.set]
      refine V_goto d_md_insert_172 ?_
      rw [show Int32.ofInt (-1) = -1 from rfl, sb_m1 (show 0 < k by omega)]
      refine ih (k - 1) _ _ (by omega) (by omega) (hM.trans M168) ⟨hs.1, fun q hq => by rw [mA_2n _ _ _ hq]; exact hs.2.1 q hq, fun z hz => by rw [mA_2s, pk_un (by omega)]; exact hs.2.2.1 z hz, fun z hz => by rw [mA_2s, pk_un (by omega)]; exact hs.2.2.2.1 z (by omega), fun z hz1 hz2 => ?_⟩
      rw [mA_2s]
      by_cases e : z = k - 1
      · subst e; rw [show 6 * y + (k - 1) + 1 = 6 * y + k by omega, pk_us]
      · rw [pk_un (by omega)]; exact hs.2.2.2.2 z (by omega) hz2
def RemI (s : Mem) (y len i k : Nat) (t : Mem) : Prop := t.1 = s.1 ∧ (∀ q, q ≠ 10 → q ≠ 11 → t.2 q = s.2 q) ∧ t.2 10 = upd (s.2 10) y (nI (len - 1)) ∧ (∀ x, x < 6 * y ∨ 6 * y + 6 ≤ x → t.2 11 x = s.2 11 x) ∧ (∀ x, x < i ∨ k ≤ x → t.2 11 (6 * y + x) = s.2 11 (6 * y + x)) ∧ ∀ x, i ≤ x → x < k → t.2 11 (6 * y + x) = s.2 11 (6 * y + x + 1)
theorem lp_rem (G : Gk) {m : Nat} {am : Nat → Nat} {s : Mem} {h0 : Hp} {post : Option Value → Hp → Prop} (o f y len i : Nat) (hy : y < 480) (h6 : len ≤ 6) (hi : i < len) (K : ∀ (h : Hp) (t : Mem), Mod h0 m am h t → RemI s y len i (len - 1) t → V G md_remove post h 0 0 124 [some (.ref m), some (.int (nI o)), some (.int (nI f)), some (.int (nI i)), some (.int (nI y)), some (.int (nI (len - 1)))] []) : ∀ (n k : Nat) (h : Hp) (t : Mem), i ≤ k → k + n = len - 1 → Mod h0 m am h t → RemI s y len i k t →
    V G md_remove post h 0 0 78 [some (.ref m), some (.int (nI o)), some (.int (nI f)), some (.int (nI i)), some (.int (nI y)), some (.int (nI k))] [] := by
  intro n
  induction n with
  | zero =>
    intro k h t hk hl hM hs
    have r := hM.1
    obtain rfl : k = len - 1 := by omega
    refine V_iload d_md_remove_78 rfl ?_
    refine V_aload_n d_md_remove_80 rfl rfl ?_
    refine V_getf d_md_remove_81 fl_md_34 r.obj rfl ?_
    refine V_iload d_md_remove_84 rfl ?_
    refine V_mald r d_md_remove_86 (by first | with_reducible rfl | exact ix8 _ _ | exact ix6 _ _ | assumption) rfl rfl (by show _ < 480; omega) ?_
    rw [hs.2.2.1, pk_us]
    refine V_icmp_ge d_md_remove_87 (fun c87 => ?_) (fun c87 => ?_)
    · skip
      exact K _ _ hM hs
    · skip
      exact absurd (nI_le (Nat.le_refl _) (by omega)) c87
  | succ n ih =>
    intro k h t hk hl hM hs
    have r := hM.1
    refine V_iload d_md_remove_78 rfl ?_
    refine V_aload_n d_md_remove_80 rfl rfl ?_
    refine V_getf d_md_remove_81 fl_md_34 r.obj rfl ?_
    refine V_iload d_md_remove_84 rfl ?_
    refine V_mald r d_md_remove_86 (by first | with_reducible rfl | exact ix8 _ _ | exact ix6 _ _ | assumption) rfl rfl (by show _ < 480; omega) ?_
    rw [hs.2.2.1, pk_us]
    refine V_icmp_ge d_md_remove_87 (fun c87 => ?_) (fun c87 => ?_)
    · skip
      exact absurd (geN c87 (by omega)) (by omega)
    · skip
      refine V_aload_n d_md_remove_90 rfl rfl ?_
      refine V_getf d_md_remove_91 fl_md_37 r.obj rfl ?_
      refine V_bipush (v := 6) d_md_remove_94 (by decide) ?_
      refine V_iload d_md_remove_96 rfl ?_
      refine V_imul d_md_remove_98 ?_
      refine V_iload d_md_remove_99 rfl ?_
      refine V_iadd d_md_remove_101 ?_
      rw [ix6]
      refine V_aload_n d_md_remove_102 rfl rfl ?_
      refine V_getf d_md_remove_103 fl_md_37 r.obj rfl ?_
      refine V_bipush (v := 6) d_md_remove_106 (by decide) ?_
      refine V_iload d_md_remove_108 rfl ?_
      refine V_imul d_md_remove_110 ?_
      refine V_iload d_md_remove_111 rfl ?_
      refine V_iadd d_md_remove_113 ?_
      rw [ix6]
      refine V_iconst (v := 1) d_md_remove_114 (by decide) ?_
      refine V_iadd d_md_remove_115 ?_
      rw [nI_1]
      refine V_mald r d_md_remove_116 (by first | with_reducible rfl | exact ix8 _ _ | exact ix6 _ _ | assumption) rfl rfl (by show _ < 2880; omega) ?_
      rw [show 6 * y + k + 1 = 6 * y + (k + 1) by omega, hs.2.2.2.2.1 (k + 1) (by omega)]
      refine V_mast r d_md_remove_117 (by first | with_reducible rfl | exact ix8 _ _ | exact ix6 _ _ | assumption) rfl rfl (by show _ < 2880; omega) (fun h117 M117 => ?_)
      have R117 := M117.1
      refine V_iinc (v := _) d_md_remove_118 rfl rfl (by decide) rfl rfl ?_
      dsimp only [List.set]
      refine V_goto d_md_remove_121 ?_
      rw [show Int32.ofInt 1 = 1 from rfl, nI_1]
      refine ih (k + 1) _ _ (by omega) (by omega) (hM.trans M117) ⟨hs.1, fun q a b => by rw [mA_2n _ _ _ b]; exact hs.2.1 q a b, by rw [mA_2n _ _ _ (by decide)]; exact hs.2.2.1, fun z hz => by rw [mA_2s, pk_un (by omega)]; exact hs.2.2.2.1 z hz, fun z hz => by rw [mA_2s, pk_un (by omega)]; exact hs.2.2.2.2.1 z (by omega), fun z hz1 hz2 => ?_⟩
      rw [mA_2s]
      by_cases e : z = k
      · subst e; rw [pk_us]; rfl
      · rw [pk_un (by omega)]; exact hs.2.2.2.2.2 z hz1 (by omega)
def InsE (s : Mem) (o f len i : Nat) (u : Int32) (t : Mem) : Prop := ∃ t0 t1, BegE s o f t0 ∧ InsM t0 (8 * o + f) len i u t1 ∧ EndE t1 o f t
def RemE (s : Mem) (o f len i : Nat) (t : Mem) : Prop := ∃ t0 t1, BegE s o f t0 ∧ RemM t0 (8 * o + f) len i t1 ∧ EndE t1 o f t
theorem tail_rem (G : Gk) {m : Nat} {am : Nat → Nat} {s t0 t : Mem} {h0 h : Hp} {post : Option Value → Hp → Prop} (ivs : IvS s) (ivo : IvO s) (ivw : IvW s) (ivh : IvH s) (hE8 : nE s < 680) (o f : Nat) (ho : o < nO s) (hf : f < 8) (i len : Nat) (hB : BegE s o f t0) (hM : Mod h0 m am h t) (hs : RemM t0 (8 * o + f) len i t) (l4 l5 : Option Value) (K : ∀ t' h', Mod h0 m am h' t' → EndE t o f t' → post (some (.int 1)) h') :
    V G md_remove post h 0 0 124 [some (.ref m), some (.int (nI o)), some (.int (nI f)), some (.int (nI i)), l4, l5] [] := by
  have r := hM.1
  refine V_aload_n d_md_remove_124 rfl rfl ?_
  refine V_iload_n d_md_remove_125 rfl rfl ?_
  refine V_iload_n d_md_remove_126 rfl rfl ?_
  refine V_callV (N := md_ends) d_md_remove_127 ml_md_232 mdf_md_ends wi_md_ends wz_md_ends (sp_md_ends' G hM ivs ivo ivw ivh hE8 o f ho hf hB hs.1 hs.2.1) r.obj ⟨_, rfl, rfl⟩ rfl rfl (by decide) (by decide) (Nat.le_of_ble_eq_true rfl) rfl rfl (kI fun r127 h127 ⟨e127, t', M127, E127⟩ => ?_)
  subst e127
  refine V_ireturn d_md_remove_130 rfl ?_
  exact K t' _ M127 E127
theorem tail_ins (G : Gk) {m : Nat} {am : Nat → Nat} {s t0 t : Mem} {h0 h : Hp} {post : Option Value → Hp → Prop} (ivs : IvS s) (ivo : IvO s) (ivw : IvW s) (ivh : IvH s) (hE8 : nE s < 680) (o f x : Nat) (ho : o < nO s) (hf : f < 8) (i len u : Nat) (hi : i ≤ len) (h6 : len < 6) (hy : 8 * o + f < 480) (h10 : t0.2 10 (8 * o + f) = nI len) (hB : BegE s o f t0) (hM : Mod h0 m am h t) (hs : InsI t0 (8 * o + f) len i t) (K : ∀ t1 t' h', InsM t0 (8 * o + f) len i (nI u) t1 → Mod h0 m am h' t' → EndE t1 o f t' → post (some (.int 1)) h') :
    V G md_insert post h 0 0 175 [some (.ref m), some (.int (nI o)), some (.int (nI f)), some (.int (nI i)), some (.int (nI u)), some (.int (nI x)), some (.int (nI (8 * o + f))), some (.int (nI i))] [] := by
  have r := hM.1
  refine V_aload_n d_md_insert_175 rfl rfl ?_
  refine V_getf d_md_insert_176 fl_md_37 r.obj rfl ?_
  refine V_bipush (v := 6) d_md_insert_179 (by decide) ?_
  refine V_iload d_md_insert_181 rfl ?_
  refine V_imul d_md_insert_183 ?_
  refine V_iload_n d_md_insert_184 rfl rfl ?_
  refine V_iadd d_md_insert_185 ?_
  rw [ix6]
  refine V_iload d_md_insert_186 rfl ?_
  refine V_mast r d_md_insert_188 (by first | with_reducible rfl | exact ix8 _ _ | exact ix6 _ _ | assumption) rfl rfl (by show _ < 2880; omega) (fun h188 M188 => ?_)
  have R188 := M188.1
  refine V_aload_n d_md_insert_189 rfl rfl ?_
  refine V_getf d_md_insert_190 fl_md_34 R188.obj rfl ?_
  refine V_iload d_md_insert_193 rfl ?_
  refine V_dup2 d_md_insert_195 rfl rfl ?_
  refine V_mald R188 d_md_insert_196 (by first | with_reducible rfl | exact ix8 _ _ | exact ix6 _ _ | assumption) rfl rfl (by show _ < 480; omega) ?_
  simp (disch := first | decide | omega) only [mA_2s, mA_2n, mA_1, mF_2, mF_1s, mF_1n, pk_us, pk_un]
  rw [hs.2.1 10 (by decide), h10]
  refine V_iconst (v := 1) d_md_insert_197 (by decide) ?_
  refine V_iadd d_md_insert_198 ?_
  rw [nI_1]
  refine V_mast R188 d_md_insert_199 (by first | with_reducible rfl | exact ix8 _ _ | exact ix6 _ _ | assumption) rfl rfl (by show _ < 480; omega) (fun h199 M199 => ?_)
  have R199 := M199.1
  refine V_aload_n d_md_insert_200 rfl rfl ?_
  refine V_iload_n d_md_insert_201 rfl rfl ?_
  refine V_iload_n d_md_insert_202 rfl rfl ?_
  refine V_callV (N := md_ends) d_md_insert_203 ml_md_232 mdf_md_ends wi_md_ends wz_md_ends (sp_md_ends' G ((hM.trans M188).trans M199) ivs ivo ivw ivh hE8 o f ho hf hB (by rw [mA_1, mA_1]; exact hs.1) (fun q a b => by rw [mA_2n _ _ _ a, mA_2n _ _ _ b]; exact hs.2.1 q b)) R199.obj ⟨_, rfl, rfl⟩ rfl rfl (by decide) (by decide) (Nat.le_of_ble_eq_true rfl) rfl rfl (kI fun r203 h203 ⟨e203, t', M203, E203⟩ => ?_)
  subst e203
  refine V_ireturn d_md_insert_206 rfl ?_
  refine K (mA (mA t 11 (6 * (8 * o + f) + i) (nI u)) 10 (8 * o + f) (nI (len + 1))) t' _ ⟨hs.1, fun q a b => by rw [mA_2n _ _ _ a, mA_2n _ _ _ b]; exact hs.2.1 q b, ?_, fun z hz => ?_, fun k hk => ?_, ?_, fun k hk1 hk2 => ?_⟩ M203 E203
  · rw [mA_2s, mA_2n _ _ _ (by decide), hs.2.1 10 (by decide)]
  · rw [mA_2n _ _ _ (by decide), mA_2s, pk_un (by omega)]; exact hs.2.2.1 z hz
  · rw [mA_2n _ _ _ (by decide), mA_2s, pk_un (by omega)]; exact hs.2.2.2.1 k (by omega)
  · rw [mA_2n _ _ _ (by decide), mA_2s, pk_us]
  · rw [mA_2n _ _ _ (by decide), mA_2s, pk_un (by omega)]; exact hs.2.2.2.2 k hk1 hk2
theorem sp_md_remove (G : Gk) {h : Hp} {m : Nat} {am : Nat → Nat} {s : Mem} (r : RepM h m am s) (ivs : IvS s) (ivo : IvO s) (ivv : IvV s) (ivw : IvW s) (ivh : IvH s) (hE8 : nE s < 680) (v1 v2 v : Int32) : Ct G md_remove [.ref m, .int v1, .int v2, .int v] h
    (pI fun r h' => (¬ hasF s v1 v2 ∧ h = h' ∧ r = -2) ∨ ∃ o f, o < nO s ∧ f < nf s (sh s o) ∧ v1 = nI o ∧ v2 = nI f ∧
      ((s.2 3 (8 * sh s o + f) ≠ 2 ∧ h = h' ∧ r = -6) ∨ (s.2 3 (8 * sh s o + f) = 2 ∧ ∃ len, len ≤ 6 ∧ s.2 10 (8 * o + f) = nI len ∧
        (((∀ i, i < len → v ≠ nI i) ∧ h = h' ∧ r = -8) ∨ ∃ i, i < len ∧ v = nI i ∧ r = 1 ∧ ∃ t, Mod h m am h' t ∧ RemE s o f len i t)))) := by
  have h10 := ivs.2.1
  have h60 := ivo.2.1
  refine Ct.ofL (M := md_remove) (lv := [some (.ref m), some (.int v1), some (.int v2), some (.int v), none, none]) mdf_md_remove rfl (Nat.le_of_ble_eq_true rfl) rfl ?_
  refine V_aload_n d_md_remove_0 rfl rfl ?_
  refine V_iload_n d_md_remove_1 rfl rfl ?_
  refine V_iload_n d_md_remove_2 rfl rfl ?_
  refine V_callV (N := md_hasField) d_md_remove_3 ml_md_169 mdf_md_hasField wi_md_hasField wz_md_hasField (sp_md_hasField G r ivs ivo _ _) r.obj ⟨_, rfl, rfl⟩ rfl rfl (by decide) (by decide) (Nat.le_of_ble_eq_true rfl) rfl rfl (kI fun r3 h3 ⟨e3, f3⟩ => ?_)
  subst e3 f3
  refine V_if_ne d_md_remove_6 (fun c6 => ?_) (fun c6 => ?_)
  · skip
    obtain ⟨o, f, ho, rfl, hf, rfl⟩ := b01_ne c6
    obtain ⟨hs1, hs2⟩ := ivo.2.2 o ho
    have hf8 := (ivs.2.2.1 _ hs2).2
    refine V_aload_n d_md_remove_12 rfl rfl ?_
    refine V_iload_n d_md_remove_13 rfl rfl ?_
    refine V_iload_n d_md_remove_14 rfl rfl ?_
    refine V_callV (N := md_at) d_md_remove_15 ml_md_152 mdf_md_at wi_md_at wz_md_at (sp_md_at G _ _ _ _) r.obj ⟨_, rfl, rfl⟩ rfl rfl (by decide) (by decide) (Nat.le_of_ble_eq_true rfl) rfl rfl (kI fun r15 h15 ⟨e15, f15⟩ => ?_)
    subst e15 f15
    refine V_istore d_md_remove_18 (by decide) rfl rfl ?_
    dsimp only [List.set]
    refine V_aload_n d_md_remove_20 rfl rfl ?_
    refine V_getf d_md_remove_21 fl_md_16 r.obj rfl ?_
    refine V_aload_n d_md_remove_24 rfl rfl ?_
    refine V_iload_n d_md_remove_25 rfl rfl ?_
    refine V_iload_n d_md_remove_26 rfl rfl ?_
    refine V_callV (N := md_by) d_md_remove_27 ml_md_156 mdf_md_by wi_md_by wz_md_by (sp_md_by' G r o f (sh s o) (by omega) hs1) r.obj ⟨_, rfl, rfl⟩ rfl rfl (by decide) (by decide) (Nat.le_of_ble_eq_true rfl) rfl rfl (kI fun r27 h27 ⟨e27, f27⟩ => ?_)
    subst e27 f27
    refine V_mald r d_md_remove_30 (by first | with_reducible rfl | exact ix8 _ _ | exact ix6 _ _ | assumption) rfl rfl (by show _ < 80; omega) ?_
    refine V_iconst (v := 2) d_md_remove_31 (by decide) ?_
    refine V_icmp_eq d_md_remove_32 (fun c32 => ?_) (fun c32 => ?_)
    · skip
      obtain ⟨len, hl6, hl, -⟩ := (ivv o ho f hf).2 c32
      refine V_iload_n d_md_remove_38 rfl rfl ?_
      refine V_iconst (v := 0) d_md_remove_39 (by decide) ?_
      refine V_aload_n d_md_remove_40 rfl rfl ?_
      refine V_getf d_md_remove_41 fl_md_34 r.obj rfl ?_
      refine V_iload d_md_remove_44 rfl ?_
      refine V_mald r d_md_remove_46 (by first | with_reducible rfl | exact ix8 _ _ | exact ix6 _ _ | assumption) rfl rfl (by show _ < 480; omega) ?_
      rw [hl]
      refine V_iconst (v := 1) d_md_remove_47 (by decide) ?_
      refine V_isub d_md_remove_48 ?_
      refine V_callS (N := md_in) d_md_remove_49 ml_md_114 mdf_md_in ws_md_in (sp_md_in G _ _ _ _) rfl rfl (by decide) (by decide) (Nat.le_of_ble_eq_true rfl) rfl rfl (kI fun r49 h49 ⟨e49, f49⟩ => ?_)
      subst e49 f49
      refine V_if_ne d_md_remove_52 (fun c52 => ?_) (fun c52 => ?_)
      · skip
        obtain ⟨i, hi, rfl⟩ := ix_of rfl (by omega) (b01_ne c52)
        refine V_aload_n d_md_remove_58 rfl rfl ?_
        refine V_iload_n d_md_remove_59 rfl rfl ?_
        refine V_iload_n d_md_remove_60 rfl rfl ?_
        refine V_callV (N := md_begins) d_md_remove_61 ml_md_228 mdf_md_begins wi_md_begins wz_md_begins (sp_md_begins G r ivo ivh o f ho (by omega)) r.obj ⟨_, rfl, rfl⟩ rfl rfl (by decide) (by decide) (Nat.le_of_ble_eq_true rfl) rfl rfl (kN fun h61 ⟨t0, M61, B61⟩ => ?_)
        have R61 := M61.1
        have e10 : t0.2 10 (8 * o + f) = nI len := by rw [BegE.a B61 (by decide) (by decide)]; exact hl
        refine V_aload_n d_md_remove_64 rfl rfl ?_
        refine V_getf d_md_remove_65 fl_md_34 R61.obj rfl ?_
        refine V_iload d_md_remove_68 rfl ?_
        refine V_dup2 d_md_remove_70 rfl rfl ?_
        refine V_mald R61 d_md_remove_71 (by first | with_reducible rfl | exact ix8 _ _ | exact ix6 _ _ | assumption) rfl rfl (by show _ < 480; omega) ?_
        rw [e10]
        refine V_iconst (v := 1) d_md_remove_72 (by decide) ?_
        refine V_isub d_md_remove_73 ?_
        rw [ixm (show 0 < len by omega)]
        refine V_mast R61 d_md_remove_74 (by first | with_reducible rfl | exact ix8 _ _ | exact ix6 _ _ | assumption) rfl rfl (by show _ < 480; omega) (fun h74 M74 => ?_)
        have R74 := M74.1
        refine V_iload_n d_md_remove_75 rfl rfl ?_
        refine V_istore d_md_remove_76 (by decide) rfl rfl ?_
        dsimp only [List.set]
        refine lp_rem G (s := t0) o f (8 * o + f) len i (by omega) hl6 hi (fun h1 t1 M1 S1 => ?_) (len - 1 - i) i _ _ (Nat.le_refl _) (by omega) (M61.trans M74) ⟨rfl, fun q a b => mA_2n _ _ _ a, mA_2s _ _ _ _, fun z hz => by rw [mA_2n _ _ _ (by decide)], fun z hz => by rw [mA_2n _ _ _ (by decide)], fun z hz1 hz2 => by omega⟩
        refine tail_rem G ivs ivo ivw ivh hE8 o f ho (by omega) i len B61 M1 ⟨S1.1, S1.2.1, S1.2.2.1, S1.2.2.2.1, fun k hk => S1.2.2.2.2.1 k (Or.inl hk), S1.2.2.2.2.2⟩ _ _ (fun t' h' q1 q2 => ?_)
        exact ⟨_, rfl, Or.inr ⟨o, f, ho, hf, rfl, rfl, Or.inr ⟨c32, len, hl6, hl, Or.inr ⟨i, hi, rfl, rfl, t', q1, t0, t1, B61, ⟨S1.1, S1.2.1, S1.2.2.1, S1.2.2.2.1, fun k hk => S1.2.2.2.2.1 k (Or.inl hk), S1.2.2.2.2.2⟩, q2⟩⟩⟩⟩
      · skip
        refine V_bipush (v := -8) d_md_remove_55 (by decide) ?_
        refine V_ireturn d_md_remove_57 rfl ?_
        exact ⟨_, rfl, Or.inr ⟨o, f, ho, hf, rfl, rfl, Or.inr ⟨c32, len, hl6, hl, Or.inl ⟨ix_no rfl (by omega) (b01_e c52), rfl, rfl⟩⟩⟩⟩
    · skip
      refine V_bipush (v := -6) d_md_remove_35 (by decide) ?_
      refine V_ireturn d_md_remove_37 rfl ?_
      exact ⟨_, rfl, Or.inr ⟨o, f, ho, hf, rfl, rfl, Or.inl ⟨c32, rfl, rfl⟩⟩⟩
  · skip
    refine V_bipush (v := -2) d_md_remove_9 (by decide) ?_
    refine V_ireturn d_md_remove_11 rfl ?_
    exact ⟨_, rfl, Or.inl ⟨b01_e c6, rfl, rfl⟩⟩
theorem sp_md_insert (G : Gk) {h : Hp} {m : Nat} {am : Nat → Nat} {s : Mem} (r : RepM h m am s) (ivs : IvS s) (ivo : IvO s) (ivv : IvV s) (ivw : IvW s) (ivh : IvH s) (hE8 : nE s < 680) (v1 v2 v w : Int32) : Ct G md_insert [.ref m, .int v1, .int v2, .int v, .int w] h
    (pI fun r h' => ((¬ hasF s v1 v2 ∨ ¬ isOb s w) ∧ h = h' ∧ r = -2) ∨ ∃ o f u, o < nO s ∧ f < nf s (sh s o) ∧ u < nO s ∧ v1 = nI o ∧ v2 = nI f ∧ w = nI u ∧
      ((s.2 3 (8 * sh s o + f) ≠ 2 ∧ h = h' ∧ r = -6) ∨ (s.2 3 (8 * sh s o + f) = 2 ∧ ∃ len, len ≤ 6 ∧ s.2 10 (8 * o + f) = nI len ∧
        (((len = 6 ∨ ∀ i, i ≤ len → v ≠ nI i) ∧ h = h' ∧ r = -8) ∨ ∃ i, len < 6 ∧ i ≤ len ∧ v = nI i ∧
          ((isOf s (nI (sh s u)) (s.2 4 (8 * sh s o + f)) = false ∧ h = h' ∧ r = -9) ∨ (isOf s (nI (sh s u)) (s.2 4 (8 * sh s o + f)) = true ∧ ∃ s', Sc s s' ∧
            ((loopM s o (8 * sh s o + f) u ∧ Mod h m am h' s' ∧ r = -10) ∨ (¬ loopM s o (8 * sh s o + f) u ∧ r = 1 ∧ ∃ t, Mod h m am h' t ∧ InsE s' o f len i (nI u) t)))))))) := by
  have h10 := ivs.2.1
  have h60 := ivo.2.1
  refine Ct.ofL (M := md_insert) (lv := [some (.ref m), some (.int v1), some (.int v2), some (.int v), some (.int w), none, none, none]) mdf_md_insert rfl (Nat.le_of_ble_eq_true rfl) rfl ?_
  refine V_aload_n d_md_insert_0 rfl rfl ?_
  refine V_iload_n d_md_insert_1 rfl rfl ?_
  refine V_iload_n d_md_insert_2 rfl rfl ?_
  refine V_callV (N := md_hasField) d_md_insert_3 ml_md_169 mdf_md_hasField wi_md_hasField wz_md_hasField (sp_md_hasField G r ivs ivo _ _) r.obj ⟨_, rfl, rfl⟩ rfl rfl (by decide) (by decide) (Nat.le_of_ble_eq_true rfl) rfl rfl (kI fun r3 h3 ⟨e3, f3⟩ => ?_)
  subst e3 f3
  refine V_if_eq d_md_insert_6 (fun c6 => ?_) (fun c6 => ?_)
  · skip
    refine V_bipush (v := -2) d_md_insert_18 (by decide) ?_
    refine V_ireturn d_md_insert_20 rfl ?_
    exact ⟨_, rfl, Or.inl ⟨Or.inl (b01_e c6), rfl, rfl⟩⟩
  · skip
    refine V_aload_n d_md_insert_9 rfl rfl ?_
    refine V_iload d_md_insert_10 rfl ?_
    refine V_callV (N := md_isObject) d_md_insert_12 ml_md_149 mdf_md_isObject wi_md_isObject wz_md_isObject (sp_md_isObject G r _) r.obj ⟨_, rfl, rfl⟩ rfl rfl (by decide) (by decide) (Nat.le_of_ble_eq_true rfl) rfl rfl (kI fun r12 h12 ⟨e12, f12⟩ => ?_)
    subst e12 f12
    refine V_if_ne d_md_insert_15 (fun c15 => ?_) (fun c15 => ?_)
    · skip
      obtain ⟨o, f, ho, rfl, hf, rfl⟩ := b01_ne c6
      obtain ⟨u, hu, rfl⟩ := isOb.ix ivo (b01_ne c15)
      obtain ⟨hs1, hs2⟩ := ivo.2.2 o ho
      obtain ⟨hu1, hu2⟩ := ivo.2.2 u hu
      have hf8 := (ivs.2.2.1 _ hs2).2
      refine V_aload_n d_md_insert_21 rfl rfl ?_
      refine V_iload_n d_md_insert_22 rfl rfl ?_
      refine V_iload_n d_md_insert_23 rfl rfl ?_
      refine V_callV (N := md_by) d_md_insert_24 ml_md_156 mdf_md_by wi_md_by wz_md_by (sp_md_by' G r o f (sh s o) (by omega) hs1) r.obj ⟨_, rfl, rfl⟩ rfl rfl (by decide) (by decide) (Nat.le_of_ble_eq_true rfl) rfl rfl (kI fun r24 h24 ⟨e24, f24⟩ => ?_)
      subst e24 f24
      refine V_istore d_md_insert_27 (by decide) rfl rfl ?_
      dsimp only [List.set]
      refine V_aload_n d_md_insert_29 rfl rfl ?_
      refine V_iload_n d_md_insert_30 rfl rfl ?_
      refine V_iload_n d_md_insert_31 rfl rfl ?_
      refine V_callV (N := md_at) d_md_insert_32 ml_md_152 mdf_md_at wi_md_at wz_md_at (sp_md_at G _ _ _ _) r.obj ⟨_, rfl, rfl⟩ rfl rfl (by decide) (by decide) (Nat.le_of_ble_eq_true rfl) rfl rfl (kI fun r32 h32 ⟨e32, f32⟩ => ?_)
      subst e32 f32
      refine V_istore d_md_insert_35 (by decide) rfl rfl ?_
      dsimp only [List.set]
      refine V_aload_n d_md_insert_37 rfl rfl ?_
      refine V_getf d_md_insert_38 fl_md_16 r.obj rfl ?_
      refine V_iload d_md_insert_41 rfl ?_
      refine V_mald r d_md_insert_43 (by first | with_reducible rfl | exact ix8 _ _ | exact ix6 _ _ | assumption) rfl rfl (by show _ < 80; omega) ?_
      refine V_iconst (v := 2) d_md_insert_44 (by decide) ?_
      refine V_icmp_eq d_md_insert_45 (fun c45 => ?_) (fun c45 => ?_)
      · skip
        obtain ⟨len, hl6, hl, -⟩ := (ivv o ho f hf).2 c45
        refine V_iload_n d_md_insert_51 rfl rfl ?_
        refine V_iconst (v := 0) d_md_insert_52 (by decide) ?_
        refine V_aload_n d_md_insert_53 rfl rfl ?_
        refine V_getf d_md_insert_54 fl_md_34 r.obj rfl ?_
        refine V_iload d_md_insert_57 rfl ?_
        refine V_mald r d_md_insert_59 (by first | with_reducible rfl | exact ix8 _ _ | exact ix6 _ _ | assumption) rfl rfl (by show _ < 480; omega) ?_
        rw [hl]
        refine V_callS (N := md_in) d_md_insert_60 ml_md_114 mdf_md_in ws_md_in (sp_md_in G _ _ _ _) rfl rfl (by decide) (by decide) (Nat.le_of_ble_eq_true rfl) rfl rfl (kI fun r60 h60 ⟨e60, f60⟩ => ?_)
        subst e60 f60
        refine V_if_eq d_md_insert_63 (fun c63 => ?_) (fun c63 => ?_)
        · skip
          refine V_bipush (v := -8) d_md_insert_78 (by decide) ?_
          refine V_ireturn d_md_insert_80 rfl ?_
          exact ⟨_, rfl, Or.inr ⟨o, f, u, ho, hf, hu, rfl, rfl, rfl, Or.inr ⟨c45, len, hl6, hl, Or.inl ⟨Or.inr (ixleno (by omega) (b01_e c63)), rfl, rfl⟩⟩⟩⟩
        · skip
          obtain ⟨i, hi, rfl⟩ := ixle (by omega) (b01_ne c63)
          refine V_aload_n d_md_insert_66 rfl rfl ?_
          refine V_getf d_md_insert_67 fl_md_34 r.obj rfl ?_
          refine V_iload d_md_insert_70 rfl ?_
          refine V_mald r d_md_insert_72 (by first | with_reducible rfl | exact ix8 _ _ | exact ix6 _ _ | assumption) rfl rfl (by show _ < 480; omega) ?_
          rw [hl]
          refine V_bipush (v := 6) d_md_insert_73 (by decide) ?_
          refine V_icmp_ne d_md_insert_75 (fun c75 => ?_) (fun c75 => ?_)
          · skip
            have hl5 : len < 6 := by rcases Nat.lt_or_ge len 6 with q | q; exact q; exact absurd (by rw [show len = 6 by omega]; rfl) c75
            refine V_aload_n d_md_insert_81 rfl rfl ?_
            refine V_aload_n d_md_insert_82 rfl rfl ?_
            refine V_getf d_md_insert_83 fl_md_31 r.obj rfl ?_
            refine V_iload d_md_insert_86 rfl ?_
            refine V_mald r d_md_insert_88 (by first | with_reducible rfl | exact ix8 _ _ | exact ix6 _ _ | assumption) rfl rfl (by show _ < 60; omega) ?_
            rw [hu1]
            refine V_aload_n d_md_insert_89 rfl rfl ?_
            refine V_getf d_md_insert_90 fl_md_19 r.obj rfl ?_
            refine V_iload d_md_insert_93 rfl ?_
            refine V_mald r d_md_insert_95 (by first | with_reducible rfl | exact ix8 _ _ | exact ix6 _ _ | assumption) rfl rfl (by show _ < 80; omega) ?_
            refine V_callV (N := md_isOf) d_md_insert_96 ml_md_191 mdf_md_isOf wi_md_isOf wz_md_isOf (sp_md_isOf G r ivs _ _ (Or.inr ⟨sh s u, hu2, rfl⟩)) r.obj ⟨_, rfl, rfl⟩ rfl rfl (by decide) (by decide) (Nat.le_of_ble_eq_true rfl) rfl rfl (kI fun r96 h96 ⟨e96, f96⟩ => ?_)
            subst e96 f96
            refine V_if_ne d_md_insert_99 (fun c99 => ?_) (fun c99 => ?_)
            · skip
              refine V_aload_n d_md_insert_105 rfl rfl ?_
              refine V_iload_n d_md_insert_106 rfl rfl ?_
              refine V_iload d_md_insert_107 rfl ?_
              refine V_iload d_md_insert_109 rfl ?_
              refine V_callV (N := md_wouldLoop) d_md_insert_111 ml_md_235 mdf_md_wouldLoop wi_md_wouldLoop wz_md_wouldLoop (sp_md_wouldLoop' G r ivs ivo ivv o _ u ho (by omega) hu) r.obj ⟨_, rfl, rfl⟩ rfl rfl (by decide) (by decide) (Nat.le_of_ble_eq_true rfl) rfl rfl (kI fun r111 h111 ⟨s', M111, S111, e111⟩ => ?_)
              subst e111
              have R111 := M111.1
              have eO : nO s' = nO s := S111.nO
              refine V_if_eq d_md_insert_114 (fun c114 => ?_) (fun c114 => ?_)
              · skip
                refine V_aload_n d_md_insert_120 rfl rfl ?_
                refine V_iload_n d_md_insert_121 rfl rfl ?_
                refine V_iload_n d_md_insert_122 rfl rfl ?_
                refine V_callV (N := md_begins) d_md_insert_123 ml_md_228 mdf_md_begins wi_md_begins wz_md_begins (sp_md_begins G R111 (ivo.sc S111) (ivh.sc S111) o f (by rw [eO]; exact ho) (by omega)) R111.obj ⟨_, rfl, rfl⟩ rfl rfl (by decide) (by decide) (Nat.le_of_ble_eq_true rfl) rfl rfl (kN fun h123 ⟨t0, M123, B123⟩ => ?_)
                have R123 := M123.1
                have e10 : t0.2 10 (8 * o + f) = nI len := by rw [BegE.a B123 (by decide) (by decide), S111.2 10 rfl]; exact hl
                refine V_aload_n d_md_insert_126 rfl rfl ?_
                refine V_getf d_md_insert_127 fl_md_34 R123.obj rfl ?_
                refine V_iload d_md_insert_130 rfl ?_
                refine V_mald R123 d_md_insert_132 (by first | with_reducible rfl | exact ix8 _ _ | exact ix6 _ _ | assumption) rfl rfl (by show _ < 480; omega) ?_
                rw [e10]
                refine V_istore d_md_insert_133 (by decide) rfl rfl ?_
                dsimp only [List.set]
                refine lp_ins G (s := t0) o f _ (8 * o + f) len i u (by omega) hl5 hi (fun h1 t1 M1 S1 => ?_) (len - i) len _ _ (by omega) (Nat.le_refl _) (M111.trans M123) ⟨rfl, fun _ _ => rfl, fun _ _ => rfl, fun _ _ => rfl, fun z hz1 hz2 => by omega⟩
                refine tail_ins G (ivs.sc S111) (ivo.sc S111) (ivw.sc S111) (ivh.sc S111) (by unfold nE at *; rw [S111.1 16 rfl]; exact hE8) o f _ (by rw [eO]; exact ho) (by omega) i len u hi hl5 (by omega) e10 B123 M1 S1 (fun t2 t' h' q1 q2 q3 => ?_)
                exact ⟨_, rfl, Or.inr ⟨o, f, u, ho, hf, hu, rfl, rfl, rfl, Or.inr ⟨c45, len, hl6, hl, Or.inr ⟨i, hl5, hi, rfl, Or.inr ⟨b01_ne c99, s', S111, Or.inr ⟨b01_e c114, rfl, t', q2, t0, t2, B123, q1, q3⟩⟩⟩⟩⟩⟩
              · skip
                refine V_bipush (v := -10) d_md_insert_117 (by decide) ?_
                refine V_ireturn d_md_insert_119 rfl ?_
                exact ⟨_, rfl, Or.inr ⟨o, f, u, ho, hf, hu, rfl, rfl, rfl, Or.inr ⟨c45, len, hl6, hl, Or.inr ⟨i, hl5, hi, rfl, Or.inr ⟨b01_ne c99, s', S111, Or.inl ⟨b01_ne c114, M111, rfl⟩⟩⟩⟩⟩⟩
            · skip
              refine V_bipush (v := -9) d_md_insert_102 (by decide) ?_
              refine V_ireturn d_md_insert_104 rfl ?_
              exact ⟨_, rfl, Or.inr ⟨o, f, u, ho, hf, hu, rfl, rfl, rfl, Or.inr ⟨c45, len, hl6, hl, Or.inr ⟨i, hl5, hi, rfl, Or.inl ⟨by simpa using b01_e c99, rfl, rfl⟩⟩⟩⟩⟩
          · skip
            refine V_bipush (v := -8) d_md_insert_78 (by decide) ?_
            refine V_ireturn d_md_insert_80 rfl ?_
            exact ⟨_, rfl, Or.inr ⟨o, f, u, ho, hf, hu, rfl, rfl, rfl, Or.inr ⟨c45, len, hl6, hl, Or.inl ⟨Or.inl (eqN (b := 6) c75 (by omega) (by decide)), rfl, rfl⟩⟩⟩⟩
      · skip
        refine V_bipush (v := -6) d_md_insert_48 (by decide) ?_
        refine V_ireturn d_md_insert_50 rfl ?_
        exact ⟨_, rfl, Or.inr ⟨o, f, u, ho, hf, hu, rfl, rfl, rfl, Or.inl ⟨c45, rfl, rfl⟩⟩⟩
    · skip
      refine V_bipush (v := -2) d_md_insert_18 (by decide) ?_
      refine V_ireturn d_md_insert_20 rfl ?_
      exact ⟨_, rfl, Or.inl ⟨Or.inr (b01_e c15), rfl, rfl⟩⟩
