/-! the reference's history: enters, ends -/
theorem ixs (g d : Nat) : nI (g + d) - nI g = nI d := by
  have := pk_sub (a := g + d) (b := g) (by omega)
  rw [this]; congr 1; omega
theorem ix7k (d k : Nat) : (7 : Int32) * nI d + nI k = nI (7 * d + k) := by rw [ix7, nI_add]
/-- behind d edits moved down by g; of the next one k numbers -/
def ShI (s : Mem) (g d k a : Nat) (t : Mem) : Prop := t.1 = s.1 ∧ (∀ q, q ≠ 17 → q ≠ 18 → q ≠ 19 → t.2 q = s.2 q) ∧ (∀ i, i < a → t.2 17 i = s.2 17 (i + g)) ∧ (∀ i, a ≤ i → t.2 17 i = s.2 17 i) ∧
  (∀ i, i < d → ∀ q, q < 7 → t.2 18 (7 * i + q) = s.2 18 (7 * (i + g) + q) ∧ t.2 19 (7 * i + q) = s.2 19 (7 * (i + g) + q)) ∧
  (∀ q, q < k → t.2 18 (7 * d + q) = s.2 18 (7 * (d + g) + q) ∧ t.2 19 (7 * d + q) = s.2 19 (7 * (d + g) + q)) ∧ (∀ x, 7 * d + k ≤ x → t.2 18 x = s.2 18 x ∧ t.2 19 x = s.2 19 x)
theorem ShI.next {s t : Mem} {g d a : Nat} (h : ShI s g d 7 a t) : ShI s g (d + 1) 0 a t := by
  obtain ⟨h1, h2, h3, h4, h5, h6, h7⟩ := h
  refine ⟨h1, h2, h3, h4, fun i hi q hq => ?_, fun q hq => by omega, fun x hx => h7 x (by omega)⟩
  rcases Nat.lt_succ_iff_lt_or_eq.mp hi with z | rfl
  · exact h5 i z q hq
  · exact h6 q hq
theorem ShI.one {s t : Mem} {g d : Nat} (h : ShI s g d 0 d t) : ShI s g d 0 (d + 1) (mA t 17 d (s.2 17 (d + g))) := by
  obtain ⟨h1, h2, h3, h4, h5, h6, h7⟩ := h
  refine ⟨h1, fun q a b c => by rw [mA_2n _ _ _ a]; exact h2 q a b c, fun i hi => ?_, fun i hi => ?_, fun i hi q hq => ?_, fun q hq => by omega, fun x hx => ?_⟩
  · rw [mA_2s]
    rcases Nat.lt_succ_iff_lt_or_eq.mp hi with z | rfl
    · rw [pk_un (by omega)]; exact h3 i z
    · rw [pk_us]
  · rw [mA_2s, pk_un (by omega)]; exact h4 i (by omega)
  · rw [mA_2n _ _ _ (by decide), mA_2n _ _ _ (by decide)]; exact h5 i hi q hq
  · rw [mA_2n _ _ _ (by decide), mA_2n _ _ _ (by decide)]; exact h7 x hx
theorem ShI.two {s t : Mem} {g d k a : Nat} (hk : k < 7) (h : ShI s g d k a t) : ShI s g d (k + 1) a (mA (mA t 18 (7 * d + k) (s.2 18 (7 * (d + g) + k))) 19 (7 * d + k) (s.2 19 (7 * (d + g) + k))) := by
  obtain ⟨h1, h2, h3, h4, h5, h6, h7⟩ := h
  have e18 : (mA (mA t 18 (7 * d + k) (s.2 18 (7 * (d + g) + k))) 19 (7 * d + k) (s.2 19 (7 * (d + g) + k))).2 18 = upd (t.2 18) (7 * d + k) (s.2 18 (7 * (d + g) + k)) := by rw [mA_2n _ _ _ (by decide), mA_2s]
  have e19 : (mA (mA t 18 (7 * d + k) (s.2 18 (7 * (d + g) + k))) 19 (7 * d + k) (s.2 19 (7 * (d + g) + k))).2 19 = upd (t.2 19) (7 * d + k) (s.2 19 (7 * (d + g) + k)) := by rw [mA_2s, mA_2n _ _ _ (by decide)]
  refine ⟨h1, fun q a b c => by rw [mA_2n _ _ _ c, mA_2n _ _ _ b]; exact h2 q a b c, fun i hi => by rw [mA_2n _ _ _ (by decide), mA_2n _ _ _ (by decide)]; exact h3 i hi, fun i hi => by rw [mA_2n _ _ _ (by decide), mA_2n _ _ _ (by decide)]; exact h4 i hi, fun i hi q hq => ?_, fun q hq => ?_, fun x hx => ?_⟩
  · rw [e18, e19, pk_un (by omega), pk_un (by omega)]; exact h5 i hi q hq
  · rw [e18, e19]
    rcases Nat.lt_succ_iff_lt_or_eq.mp hq with z | rfl
    · rw [pk_un (by omega), pk_un (by omega)]; exact h6 q z
    · rw [pk_us, pk_us]; exact ⟨rfl, rfl⟩
  · rw [e18, e19, pk_un (by omega), pk_un (by omega)]; exact h7 x (by omega)
/-- the entries' ends moved down, up to k -/
def EnI (s : Mem) (g k : Nat) (t : Mem) : Prop := t.1 = s.1 ∧ (∀ q, q ≠ 22 → t.2 q = s.2 q) ∧ (∀ i, i < k → t.2 22 i = nI (en s (i + 1) - g)) ∧ (∀ i, k ≤ i → t.2 22 i = s.2 22 i)
def EntE (s t : Mem) : Prop := ∃ g n, ((nEn s = 60 ∧ g = en s 0 ∧ n = 59 ∧ ∀ k, k < 59 → t.2 22 k = nI (en s (k + 1) - g)) ∨ (nEn s < 60 ∧ g = 0 ∧ n = nEn s ∧ ∀ k, k < n → t.2 22 k = s.2 22 k)) ∧
  t.1 16 = nI (nE s - g) ∧ t.1 20 = nI (n + 1) ∧ t.1 21 = nI (n + 1) ∧ (∀ q, q ≠ 16 → q ≠ 20 → q ≠ 21 → t.1 q = s.1 q) ∧ (∀ q, q ≠ 17 → q ≠ 18 → q ≠ 19 → q ≠ 22 → t.2 q = s.2 q) ∧
  (∀ i, i < nE s - g → t.2 17 i = s.2 17 (i + g) ∧ ∀ k, k < 7 → t.2 18 (7 * i + k) = s.2 18 (7 * (i + g) + k) ∧ t.2 19 (7 * i + k) = s.2 19 (7 * (i + g) + k)) ∧ t.2 22 n = nI (nE s - g)
theorem tail_ent (G : Gk) {m : Nat} {am : Nat → Nat} {t : Mem} {h0 h : Hp} (hM : Mod h0 m am h t) (n e : Nat) (hn : n ≤ 60) (h20 : t.1 20 = nI n) (h16 : t.1 16 = nI e) (l1 l2 l3 : Option Value) :
    V G md_enters (pN fun h' => Mod h0 m am h' (mF (mF (mA t 22 n (nI e)) 20 (nI (n + 1))) 21 (nI (n + 1)))) h 0 0 158 [some (.ref m), l1, l2, l3] [] := by
  have r := hM.1
  refine V_aload_n d_md_enters_158 rfl rfl ?_
  refine V_getf d_md_enters_159 fl_md_58 r.obj rfl ?_
  refine V_aload_n d_md_enters_162 rfl rfl ?_
  refine V_getf d_md_enters_163 fl_md_197 r.obj rfl ?_
  rw [h20]
  refine V_aload_n d_md_enters_166 rfl rfl ?_
  refine V_getf d_md_enters_167 fl_md_204 r.obj rfl ?_
  rw [h16]
  refine V_mast r d_md_enters_170 (by first | with_reducible rfl | exact ix8 _ _ | exact ix6 _ _ | assumption) rfl rfl (by show _ < 61; omega) (fun h170 M170 => ?_)
  have R170 := M170.1
  refine V_aload_n d_md_enters_171 rfl rfl ?_
  refine V_dup d_md_enters_172 rfl ?_
  refine V_getf d_md_enters_173 fl_md_197 R170.obj rfl ?_
  rw [mA_1, h20]
  refine V_iconst (v := 1) d_md_enters_176 (by decide) ?_
  refine V_iadd d_md_enters_177 ?_
  rw [nI_1]
  refine V_mput (j := 20) R170 d_md_enters_178 fp_md_197 rfl rfl (by decide) (fun h178 M178 => ?_)
  have R178 := M178.1
  refine V_aload_n d_md_enters_181 rfl rfl ?_
  refine V_aload_n d_md_enters_182 rfl rfl ?_
  refine V_getf d_md_enters_183 fl_md_197 R178.obj rfl ?_
  rw [mF_1s]
  refine V_mput (j := 21) R178 d_md_enters_186 fp_md_194 rfl rfl (by decide) (fun h186 M186 => ?_)
  have R186 := M186.1
  refine V_return d_md_enters_189 rfl ?_
  exact ⟨rfl, ((hM.trans M170).trans M178).trans M186⟩
theorem lp_ent3 (G : Gk) {m : Nat} {am : Nat → Nat} {s0 s : Mem} {h0 : Hp} (g : Nat) (hen : ∀ k, k < 60 → s.2 22 k = nI (en s k) ∧ g ≤ en s k) (l3 : Option Value) (K : ∀ (h : Hp) (l2 : Option Value) (t : Mem), Mod h0 m am h t → EnI s g 59 t → V G md_enters (pN fun h' => ∃ t, Mod h0 m am h' t ∧ EntE s0 t) h 0 0 138 [some (.ref m), some (.int (nI g)), l2, l3] []) : ∀ (n k : Nat) (h : Hp) (t : Mem), 1 ≤ k → k ≤ 60 → 61 ≤ k + n → Mod h0 m am h t → EnI s g (k - 1) t →
    V G md_enters (pN fun h' => ∃ t, Mod h0 m am h' t ∧ EntE s0 t) h 0 0 110 [some (.ref m), some (.int (nI g)), some (.int (nI k)), l3] [] := by
  intro n
  induction n with
  | zero => intro k h t h1 h2 h3; exact absurd h3 (by omega)
  | succ n ih =>
    intro k h t hk1 hk2 hq hM hs
    have r := hM.1
    refine V_iload_n d_md_enters_110 rfl rfl ?_
    refine V_bipush (v := 60) d_md_enters_111 (by decide) ?_
    refine V_icmp_ge d_md_enters_113 (fun c113 => ?_) (fun c113 => ?_)
    · skip
      obtain rfl : k = 60 := by have : 60 ≤ k := geN c113 (by decide); omega
      exact K _ _ _ hM hs
    · skip
      have hlt : k < 60 := ltN c113 (by omega)
      refine V_aload_n d_md_enters_116 rfl rfl ?_
      refine V_getf d_md_enters_117 fl_md_58 r.obj rfl ?_
      refine V_iload_n d_md_enters_120 rfl rfl ?_
      refine V_iconst (v := 1) d_md_enters_121 (by decide) ?_
      refine V_isub d_md_enters_122 ?_
      rw [ixm hk1]
      refine V_aload_n d_md_enters_123 rfl rfl ?_
      refine V_getf d_md_enters_124 fl_md_58 r.obj rfl ?_
      refine V_iload_n d_md_enters_127 rfl rfl ?_
      refine V_mald r d_md_enters_128 (by first | with_reducible rfl | exact ix8 _ _ | exact ix6 _ _ | assumption) rfl rfl (by show _ < 61; omega) ?_
      rw [hs.2.2.2 k (by omega), (hen k hlt).1]
      refine V_iload_n d_md_enters_129 rfl rfl ?_
      refine V_isub d_md_enters_130 ?_
      rw [pk_sub (hen k hlt).2]
      refine V_mast r d_md_enters_131 (by first | with_reducible rfl | exact ix8 _ _ | exact ix6 _ _ | assumption) rfl rfl (by show _ < 61; omega) (fun h131 M131 => ?_)
      have R131 := M131.1
      refine V_iinc (v := _) d_md_enters_132 rfl rfl (by decide) rfl rfl ?_
      dsimp only [List.set]
      refine V_goto d_md_enters_135 ?_
      rw [show Int32.ofInt 1 = 1 from rfl, nI_1]
      refine ih (k + 1) _ _ (by omega) (by omega) (by omega) (hM.trans M131) ⟨hs.1, fun q hq => by rw [mA_2n _ _ _ hq]; exact hs.2.1 q hq, fun i hi => ?_, fun i hi => by rw [mA_2s, pk_un (by omega)]; exact hs.2.2.2 i (by omega)⟩
      rw [mA_2s]
      by_cases z : i = k - 1
      · subst z; rw [pk_us, show k - 1 + 1 = k by omega]
      · rw [pk_un (by omega)]; exact hs.2.2.1 i (by omega)
theorem lp_ent2 (G : Gk) {m : Nat} {am : Nat → Nat} {s : Mem} {h0 : Hp} {post : Option Value → Hp → Prop} (g d : Nat) (hb : g + d < 690) (K : ∀ (h : Hp) (l3 : Option Value) (t : Mem), Mod h0 m am h t → ShI s g (d + 1) 0 (d + 1) t → V G md_enters post h 0 0 102 [some (.ref m), some (.int (nI g)), some (.int (nI (g + d))), l3] []) : ∀ (n k : Nat) (h : Hp) (t : Mem), k ≤ 7 → 8 ≤ k + n → Mod h0 m am h t → ShI s g d k (d + 1) t →
    V G md_enters post h 0 0 42 [some (.ref m), some (.int (nI g)), some (.int (nI (g + d))), some (.int (nI k))] [] := by
  intro n
  induction n with
  | zero => intro k h t h1 h2; exact absurd h2 (by omega)
  | succ n ih =>
    intro k h t hk hq hM hs
    have r := hM.1
    refine V_iload_n d_md_enters_42 rfl rfl ?_
    refine V_bipush (v := 7) d_md_enters_43 (by decide) ?_
    refine V_icmp_ge d_md_enters_45 (fun c45 => ?_) (fun c45 => ?_)
    · skip
      obtain rfl : k = 7 := by have : 7 ≤ k := geN c45 (by decide); omega
      exact K _ _ _ hM hs.next
    · skip
      have hlt : k < 7 := ltN c45 (by omega)
      have e18 := (hs.2.2.2.2.2.2 (7 * (g + d) + k) (by omega))
      rw [show 7 * (g + d) + k = 7 * (d + g) + k by omega] at e18
      refine V_aload_n d_md_enters_48 rfl rfl ?_
      refine V_getf d_md_enters_49 fl_md_52 r.obj rfl ?_
      refine V_bipush (v := 7) d_md_enters_52 (by decide) ?_
      refine V_iload_n d_md_enters_54 rfl rfl ?_
      refine V_iload_n d_md_enters_55 rfl rfl ?_
      refine V_isub d_md_enters_56 ?_
      rw [ixs]
      refine V_imul d_md_enters_57 ?_
      refine V_iload_n d_md_enters_58 rfl rfl ?_
      refine V_iadd d_md_enters_59 ?_
      rw [ix7k]
      refine V_aload_n d_md_enters_60 rfl rfl ?_
      refine V_getf d_md_enters_61 fl_md_52 r.obj rfl ?_
      refine V_bipush (v := 7) d_md_enters_64 (by decide) ?_
      refine V_iload_n d_md_enters_66 rfl rfl ?_
      refine V_imul d_md_enters_67 ?_
      refine V_iload_n d_md_enters_68 rfl rfl ?_
      refine V_iadd d_md_enters_69 ?_
      rw [ix7k]
      refine V_mald r d_md_enters_70 (by first | with_reducible rfl | exact ix8 _ _ | exact ix6 _ _ | assumption) rfl rfl (by show _ < 4900; omega) ?_
      rw [show 7 * (g + d) + k = 7 * (d + g) + k by omega, e18.1]
      refine V_mast r d_md_enters_71 (by first | with_reducible rfl | exact ix8 _ _ | exact ix6 _ _ | assumption) rfl rfl (by show _ < 4900; omega) (fun h71 M71 => ?_)
      have R71 := M71.1
      refine V_aload_n d_md_enters_72 rfl rfl ?_
      refine V_getf d_md_enters_73 fl_md_55 R71.obj rfl ?_
      refine V_bipush (v := 7) d_md_enters_76 (by decide) ?_
      refine V_iload_n d_md_enters_78 rfl rfl ?_
      refine V_iload_n d_md_enters_79 rfl rfl ?_
      refine V_isub d_md_enters_80 ?_
      rw [ixs]
      refine V_imul d_md_enters_81 ?_
      refine V_iload_n d_md_enters_82 rfl rfl ?_
      refine V_iadd d_md_enters_83 ?_
      rw [ix7k]
      refine V_aload_n d_md_enters_84 rfl rfl ?_
      refine V_getf d_md_enters_85 fl_md_55 R71.obj rfl ?_
      refine V_bipush (v := 7) d_md_enters_88 (by decide) ?_
      refine V_iload_n d_md_enters_90 rfl rfl ?_
      refine V_imul d_md_enters_91 ?_
      refine V_iload_n d_md_enters_92 rfl rfl ?_
      refine V_iadd d_md_enters_93 ?_
      rw [ix7k]
      refine V_mald R71 d_md_enters_94 (by first | with_reducible rfl | exact ix8 _ _ | exact ix6 _ _ | assumption) rfl rfl (by show _ < 4900; omega) ?_
      simp (disch := first | decide | omega) only [mA_2s, mA_2n, mA_1, mF_2, mF_1s, mF_1n, pk_us, pk_un]
      rw [show 7 * (g + d) + k = 7 * (d + g) + k by omega, e18.2]
      refine V_mast R71 d_md_enters_95 (by first | with_reducible rfl | exact ix8 _ _ | exact ix6 _ _ | assumption) rfl rfl (by show _ < 4900; omega) (fun h95 M95 => ?_)
      have R95 := M95.1
      refine V_iinc (v := _) d_md_enters_96 rfl rfl (by decide) rfl rfl ?_
      dsimp only [List.set]
      refine V_goto d_md_enters_99 ?_
      rw [show Int32.ofInt 1 = 1 from rfl, nI_1]
      exact ih (k + 1) _ _ (by omega) (by omega) ((hM.trans M71).trans M95) (hs.two hlt)
theorem lp_ent1 (G : Gk) {m : Nat} {am : Nat → Nat} {s : Mem} {h0 : Hp} {post : Option Value → Hp → Prop} (g e : Nat) (hge : g ≤ e) (hb : e < 690) (h16 : s.1 16 = nI e) (K : ∀ (h : Hp) (l3 : Option Value) (t : Mem), Mod h0 m am h t → ShI s g (e - g) 0 (e - g) t → V G md_enters post h 0 0 108 [some (.ref m), some (.int (nI g)), some (.int (nI e)), l3] []) : ∀ (n d : Nat) (h : Hp) (t : Mem) (l3 : Option Value), g + d ≤ e → e + 1 ≤ g + d + n → Mod h0 m am h t → ShI s g d 0 d t →
    V G md_enters post h 0 0 18 [some (.ref m), some (.int (nI g)), some (.int (nI (g + d))), l3] [] := by
  intro n
  induction n with
  | zero => intro d h t l3 h1 h2; exact absurd h2 (by omega)
  | succ n ih =>
    intro d h t l3 hd hq hM hs
    have r := hM.1
    have e16 : t.1 16 = nI e := by rw [hs.1]; exact h16
    refine V_iload_n d_md_enters_18 rfl rfl ?_
    refine V_aload_n d_md_enters_19 rfl rfl ?_
    refine V_getf d_md_enters_20 fl_md_204 r.obj rfl ?_
    rw [e16]
    refine V_icmp_ge d_md_enters_23 (fun c23 => ?_) (fun c23 => ?_)
    · skip
      obtain rfl : d = e - g := by have := geN c23 (by omega); omega
      rw [show g + (e - g) = e by omega]
      exact K _ _ _ hM hs
    · skip
      have hlt := ltN c23 (by omega)
      have e38 : t.2 17 (g + d) = s.2 17 (d + g) := by rw [hs.2.2.2.1 (g + d) (by omega), show g + d = d + g by omega]
      refine V_aload_n d_md_enters_26 rfl rfl ?_
      refine V_getf d_md_enters_27 fl_md_49 r.obj rfl ?_
      refine V_iload_n d_md_enters_30 rfl rfl ?_
      refine V_iload_n d_md_enters_31 rfl rfl ?_
      refine V_isub d_md_enters_32 ?_
      rw [ixs]
      refine V_aload_n d_md_enters_33 rfl rfl ?_
      refine V_getf d_md_enters_34 fl_md_49 r.obj rfl ?_
      refine V_iload_n d_md_enters_37 rfl rfl ?_
      refine V_mald r d_md_enters_38 (by first | with_reducible rfl | exact ix8 _ _ | exact ix6 _ _ | assumption) rfl rfl (by show _ < 700; omega) ?_
      rw [e38]
      refine V_mast r d_md_enters_39 (by first | with_reducible rfl | exact ix8 _ _ | exact ix6 _ _ | assumption) rfl rfl (by show _ < 700; omega) (fun h39 M39 => ?_)
      have R39 := M39.1
      refine V_iconst (v := 0) d_md_enters_40 (by decide) ?_
      refine V_istore_n d_md_enters_41 rfl (by decide) rfl rfl ?_
      dsimp only [List.set]
      refine lp_ent2 G g d (by omega) (fun h1 l3 t1 M1 S1 => ?_) 8 0 _ _ (by omega) (by omega) (hM.trans M39) (by have := hs.one; exact this)
      refine V_iinc d_md_enters_102 rfl rfl (by decide) rfl rfl ?_
      dsimp only [List.set]
      refine V_goto d_md_enters_105 ?_
      rw [show Int32.ofInt 1 = 1 from rfl, nI_1]
      exact ih (d + 1) _ _ _ (by omega) (by omega) M1 S1
theorem en_mono {s : Mem} (ivh : IvH s) : ∀ k, k < nEn s → en s 0 ≤ en s k
  | 0, _ => Nat.le_refl _
  | k + 1, h => Nat.le_trans (en_mono ivh k (by omega)) (ivh.2.2.2.2.2.2.2.2 k h)
theorem tail_ent60 (G : Gk) {h : Hp} {m : Nat} {am : Nat → Nat} {s : Mem} (r : RepM h m am s) (ivh : IvH s) (h60 : nEn s = 60) (l3 : Option Value) :
    V G md_enters (pN fun h' => ∃ t, Mod h m am h' t ∧ EntE s t) h 0 0 18 [some (.ref m), some (.int (nI (en s 0))), some (.int (nI (en s 0))), l3] [] := by
  obtain ⟨h16, h20, h21, hde, hn60, hg, hE, hen, hmo⟩ := id ivh
  have hg0 := (hen 0 (by omega)).2
  refine lp_ent1 G (en s 0) (nE s) hg0 hE h16 (fun h1 l3 t1 M1 S1 => ?_) (nE s + 1) 0 _ _ _ (by omega) (by omega) (Mod.rf r) ⟨rfl, fun _ _ _ _ => rfl, fun i hi => by omega, fun _ _ => rfl, fun i hi => by omega, fun q hq => by omega, fun _ _ => ⟨rfl, rfl⟩⟩
  have r1 := M1.1
  have e22 : t1.2 22 = s.2 22 := S1.2.1 22 (by decide) (by decide) (by decide)
  have een : ∀ k, en t1 k = en s k := fun k => by unfold en; rw [e22]
  refine V_iconst (v := 1) d_md_enters_108 (by decide) ?_
  refine V_istore_n d_md_enters_109 rfl (by decide) rfl rfl ?_
  dsimp only [List.set]
  refine lp_ent3 G (s := t1) (s0 := s) (en s 0) (fun k hk => by rw [e22, een]; exact ⟨(hen k (by omega)).1, en_mono ivh k (by omega)⟩) _ (fun h2 l2 t2 M2 S2 => ?_) 60 1 _ _ (by omega) (by omega) (by omega) M1 ⟨rfl, fun _ _ => rfl, fun i hi => by omega, fun _ _ => rfl⟩
  have r2 := M2.1
  have e16 : t2.1 16 = nI (nE s) := by rw [S2.1, S1.1]; exact h16
  have e20 : t2.1 20 = nI 60 := by rw [S2.1, S1.1, h20, h60]
  refine V_aload_n d_md_enters_138 rfl rfl ?_
  refine V_dup d_md_enters_139 rfl ?_
  refine V_getf d_md_enters_140 fl_md_204 r2.obj rfl ?_
  rw [e16]
  refine V_iload_n d_md_enters_143 rfl rfl ?_
  refine V_isub d_md_enters_144 ?_
  rw [pk_sub hg0]
  refine V_mput (j := 16) r2 d_md_enters_145 fp_md_204 rfl rfl (by decide) (fun h145 M145 => ?_)
  have R145 := M145.1
  refine V_aload_n d_md_enters_148 rfl rfl ?_
  refine V_dup d_md_enters_149 rfl ?_
  refine V_getf d_md_enters_150 fl_md_197 R145.obj rfl ?_
  rw [mF_1n _ _ (by decide), e20]
  refine V_iconst (v := 1) d_md_enters_153 (by decide) ?_
  refine V_isub d_md_enters_154 ?_
  rw [show nI 60 - 1 = nI 59 from rfl]
  refine V_mput (j := 20) R145 d_md_enters_155 fp_md_197 rfl rfl (by decide) (fun h155 M155 => ?_)
  have R155 := M155.1
  refine V.mono (tail_ent G ((M2.trans M145).trans M155) 59 (nE s - en s 0) (by decide) (by rw [mF_1s]) (by rw [mF_1n _ _ (by decide), mF_1s]) _ _ _) (fun v h' q => ?_)
  obtain ⟨q1, q2⟩ := q
  refine ⟨q1, _, q2, en s 0, 59, Or.inl ⟨h60, rfl, rfl, fun k hk => ?_⟩, ?_, ?_, ?_, fun q a b c => ?_, fun q a b c d => ?_, fun i hi => ?_, ?_⟩
  · rw [mF_2, mF_2, mA_2s, pk_un (by omega), mF_2, mF_2, S2.2.2.1 k hk, een]
  · rw [mF_1n _ _ (by decide), mF_1n _ _ (by decide), mA_1, mF_1n _ _ (by decide), mF_1s]
  · rw [mF_1n _ _ (by decide), mF_1s]
  · rw [mF_1s]
  · rw [mF_1n _ _ c, mF_1n _ _ b, mA_1, mF_1n _ _ b, mF_1n _ _ a, S2.1, S1.1]
  · rw [mF_2, mF_2, mA_2n _ _ _ d, mF_2, mF_2, S2.2.1 q d, S1.2.1 q a b c]
  · rw [mF_2, mF_2, mA_2n _ _ _ (by decide), mA_2n _ _ _ (by decide), mA_2n _ _ _ (by decide), mF_2, mF_2, S2.2.1 17 (by decide), S2.2.1 18 (by decide), S2.2.1 19 (by decide)]; exact ⟨S1.2.2.1 i hi, fun k hk => S1.2.2.2.2.1 i hi k hk⟩
  · rw [mF_2, mF_2, mA_2s, pk_us]
theorem sp_md_enters (G : Gk) {h : Hp} {m : Nat} {am : Nat → Nat} {s : Mem} (r : RepM h m am s) (ivh : IvH s) : Ct G md_enters [.ref m] h (pN fun h' => ∃ t, Mod h m am h' t ∧ EntE s t) := by
  obtain ⟨h16, h20, h21, hde, hn60, hg, hE, hen, hmo⟩ := id ivh
  refine Ct.ofL (M := md_enters) (lv := [some (.ref m), none, none, none]) mdf_md_enters rfl (Nat.le_of_ble_eq_true rfl) rfl ?_
  refine V_aload_n d_md_enters_0 rfl rfl ?_
  refine V_getf d_md_enters_1 fl_md_197 r.obj rfl ?_
  rw [h20]
  refine V_bipush (v := 60) d_md_enters_4 (by decide) ?_
  refine V_icmp_ne d_md_enters_6 (fun c6 => ?_) (fun c6 => ?_)
  · skip
    have hlt : nEn s < 60 := by rcases Nat.lt_or_ge (nEn s) 60 with q | q; exact q; exact absurd (by rw [show nEn s = 60 by omega]; rfl) c6
    refine V.mono (tail_ent G (Mod.rf r) (nEn s) (nE s) hn60 h20 h16 _ _ _) (fun v h' q => ?_)
    obtain ⟨q1, q2⟩ := q
    refine ⟨q1, _, q2, 0, nEn s, Or.inr ⟨hlt, rfl, rfl, fun k hk => ?_⟩, ?_, ?_, ?_, fun q a b c => ?_, fun q a b c d => ?_, fun i hi => ?_, ?_⟩
    · rw [mF_2, mF_2, mA_2s, pk_un (by omega)]
    · rw [mF_1n _ _ (by decide), mF_1n _ _ (by decide), mA_1]; exact h16
    · rw [mF_1n _ _ (by decide), mF_1s]
    · rw [mF_1s]
    · rw [mF_1n _ _ c, mF_1n _ _ b, mA_1]
    · rw [mF_2, mF_2, mA_2n _ _ _ d]
    · rw [mF_2, mF_2, mA_2n _ _ _ (by decide), mA_2n _ _ _ (by decide), mA_2n _ _ _ (by decide)]; exact ⟨rfl, fun k _ => ⟨rfl, rfl⟩⟩
    · rw [mF_2, mF_2, mA_2s, pk_us]; rfl
  · skip
    have h60 : nEn s = 60 := eqN c6 (by omega) (by decide)
    refine V_aload_n d_md_enters_9 rfl rfl ?_
    refine V_getf d_md_enters_10 fl_md_58 r.obj rfl ?_
    refine V_iconst (v := 0) d_md_enters_13 (by decide) ?_
    refine V_mald r d_md_enters_14 (show (0 : Int32) = nI 0 from rfl) rfl rfl (by show _ < 61; omega) ?_
    rw [(hen 0 (by omega)).1]
    refine V_istore_n d_md_enters_15 rfl (by decide) rfl rfl ?_
    dsimp only [List.set]
    refine V_iload_n d_md_enters_16 rfl rfl ?_
    refine V_istore_n d_md_enters_17 rfl (by decide) rfl rfl ?_
    dsimp only [List.set]
    exact tail_ent60 G r ivh h60 _
theorem endsH {s t1 t2 : Mem} {o f x : Nat} {a : Int32} {k : Nat} (ivh : IvH s) (hE : nE s < 680) (K : KeepE s 19 (nE s) x 6 t1) (N : NoteE t1 o f a k t2) : IvH (mF t2 16 (nI (nE s + 1))) := by
  obtain ⟨h16, h20, h21, hde, hn60, hg, -, hen, hmo⟩ := ivh
  have e1 : ∀ q, q ≠ 16 → (mF t2 16 (nI (nE s + 1))).1 q = s.1 q := fun q hq => by rw [mF_1n _ _ hq, N.1, K.1]
  have e2 : (mF t2 16 (nI (nE s + 1))).2 22 = s.2 22 := by rw [mF_2, N.2.1 22 (by decide) (by decide), K.2.1 22 (by decide)]
  have a1 : nE (mF t2 16 (nI (nE s + 1))) = nE s + 1 := by unfold nE; rw [mF_1s]; exact cl _ (by unfold nE at hE; omega)
  have a2 : nEn (mF t2 16 (nI (nE s + 1))) = nEn s := by unfold nEn; rw [e1 20 (by decide)]
  have a3 : nD (mF t2 16 (nI (nE s + 1))) = nD s := by unfold nD; rw [e1 21 (by decide)]
  have a4 : ∀ k, en (mF t2 16 (nI (nE s + 1))) k = en s k := fun k => by unfold en; rw [e2]
  refine ⟨by rw [mF_1s, a1], by rw [e1 20 (by decide), a2]; exact h20, by rw [e1 21 (by decide), a3]; exact h21, by rw [a2, a3]; exact hde, by rw [a2]; exact hn60, by rw [e1 23 (by decide)]; exact hg, by rw [a1]; omega, fun k hk => ?_, fun k hk => ?_⟩
  · rw [a2] at hk
    rw [e2, a4, a1]
    exact ⟨(hen k hk).1, by have := (hen k hk).2; omega⟩
  · rw [a2] at hk
    rw [a4, a4]
    exact hmo k hk
theorem sp_md_ends (G : Gk) {h : Hp} {m : Nat} {am : Nat → Nat} {s : Mem} (r : RepM h m am s) (ivs : IvS s) (ivo : IvO s) (ivw : IvW s) (ivh : IvH s) (hE8 : nE s < 680) (o f : Nat) (ho : o < nO s) (hf : f < 8) : Ct G md_ends [.ref m, .int (nI o), .int (nI f)] h
    (pI fun r h' => r = 1 ∧ ∃ t1 t2 t, KeepE s 19 (nE s) (8 * o + f) 6 t1 ∧ NoteE t1 o f (s.2 18 (7 * nE s)) (nW s) t2 ∧ Mod h m am h' t ∧ ((s.1 23 ≠ 0 ∧ t = mF t2 16 (nI (nE s + 1))) ∨ (s.1 23 = 0 ∧ EntE (mF t2 16 (nI (nE s + 1))) t))) := by
  have h60 := ivo.2.1
  obtain ⟨h16, h20, h21, hde, hn60, hg, hE, hen, hmo⟩ := id ivh
  refine Ct.ofL (M := md_ends) (lv := [some (.ref m), some (.int (nI o)), some (.int (nI f))]) mdf_md_ends rfl (Nat.le_of_ble_eq_true rfl) rfl ?_
  refine V_aload_n d_md_ends_0 rfl rfl ?_
  refine V_aload_n d_md_ends_1 rfl rfl ?_
  refine V_getf d_md_ends_2 fl_md_55 r.obj rfl ?_
  refine V_aload_n d_md_ends_5 rfl rfl ?_
  refine V_getf d_md_ends_6 fl_md_204 r.obj rfl ?_
  rw [h16]
  refine V_aload_n d_md_ends_9 rfl rfl ?_
  refine V_iload_n d_md_ends_10 rfl rfl ?_
  refine V_iload_n d_md_ends_11 rfl rfl ?_
  refine V_callV (N := md_at) d_md_ends_12 ml_md_152 mdf_md_at wi_md_at wz_md_at (sp_md_at G _ _ _ _) r.obj ⟨_, rfl, rfl⟩ rfl rfl (by decide) (by decide) (Nat.le_of_ble_eq_true rfl) rfl rfl (kI fun r12 h12 ⟨e12, f12⟩ => ?_)
  subst e12 f12
  refine V_callV (N := md_keeps) d_md_ends_15 ml_md_207 mdf_md_keeps wi_md_keeps wz_md_keeps (sp_md_keeps19 G r _ _ (by omega) (by omega)) r.obj ⟨_, rfl, rfl⟩ rfl rfl (by decide) (by decide) (Nat.le_of_ble_eq_true rfl) rfl rfl (kN fun h15 ⟨t1, M15, K15⟩ => ?_)
  have R15 := M15.1
  have j1 : IvS t1 := by
     have a0 : t1.1 0 = s.1 0 := by rw [K15.1]
     have a1 := K15.2.1 1 (by decide)
     have a2 := K15.2.1 2 (by decide)
     unfold IvS nS nf at *
     rw [a0, a1, a2]
     exact ivs
  have j2 : IvO t1 := by
     have a0 : t1.1 0 = s.1 0 := by rw [K15.1]
     have a8 : t1.1 8 = s.1 8 := by rw [K15.1]
     have a9 := K15.2.1 9 (by decide)
     unfold IvO nS nO sh at *
     rw [a0, a8, a9]
     exact ivo
  have j3 : IvW t1 := by
     have a0 : t1.1 0 = s.1 0 := by rw [K15.1]
     have a25 : t1.1 25 = s.1 25 := by rw [K15.1]
     have b1 := K15.2.1 26 (by decide)
     have b2 := K15.2.1 27 (by decide)
     have b3 := K15.2.1 30 (by decide)
     unfold IvW nS nW wc at *
     rw [a0, a25, b1, b2, b3]
     exact ivw
  have eO : nO t1 = nO s := by unfold nO; rw [K15.1]
  have eW : nW t1 = nW s := by unfold nW; rw [K15.1]
  refine V_aload_n d_md_ends_18 rfl rfl ?_
  refine V_iload_n d_md_ends_19 rfl rfl ?_
  refine V_iload_n d_md_ends_20 rfl rfl ?_
  refine V_aload_n d_md_ends_21 rfl rfl ?_
  refine V_getf d_md_ends_22 fl_md_52 R15.obj rfl ?_
  refine V_bipush (v := 7) d_md_ends_25 (by decide) ?_
  refine V_aload_n d_md_ends_27 rfl rfl ?_
  refine V_getf d_md_ends_28 fl_md_204 R15.obj rfl ?_
  rw [K15.1, h16]
  refine V_imul d_md_ends_31 ?_
  refine V_mald R15 d_md_ends_32 (ix7 _) rfl rfl (by show _ < 4900; omega) ?_
  rw [K15.2.1 18 (by decide)]
  refine V_callV (N := md_notes) d_md_ends_33 ml_md_211 mdf_md_notes wi_md_notes wz_md_notes (sp_md_notes G R15 j1 j2 j3 o f (by rw [eO]; exact ho) hf _) R15.obj ⟨_, rfl, rfl⟩ rfl rfl (by decide) (by decide) (Nat.le_of_ble_eq_true rfl) rfl rfl (kN fun h33 ⟨t2, M33, N33⟩ => ?_)
  have R33 := M33.1
  rw [eW] at N33
  refine V_aload_n d_md_ends_36 rfl rfl ?_
  refine V_dup d_md_ends_37 rfl ?_
  refine V_getf d_md_ends_38 fl_md_204 R33.obj rfl ?_
  rw [N33.1, K15.1, h16]
  refine V_iconst (v := 1) d_md_ends_41 (by decide) ?_
  refine V_iadd d_md_ends_42 ?_
  rw [nI_1]
  refine V_mput (j := 16) R33 d_md_ends_43 fp_md_204 rfl rfl (by decide) (fun h43 M43 => ?_)
  have R43 := M43.1
  refine V_aload_n d_md_ends_46 rfl rfl ?_
  refine V_getf d_md_ends_47 fl_md_214 R43.obj rfl ?_
  rw [mF_1n _ _ (by decide), N33.1, K15.1]
  refine V_if_ne d_md_ends_50 (fun c50 => ?_) (fun c50 => ?_)
  · skip
    refine V_iconst (v := 1) d_md_ends_57 (by decide) ?_
    refine V_ireturn d_md_ends_58 rfl ?_
    exact ⟨_, rfl, rfl, t1, t2, _, K15, N33, (M15.trans M33).trans M43, Or.inl ⟨c50, rfl⟩⟩
  · skip
    refine V_aload_n d_md_ends_53 rfl rfl ?_
    refine V_callV (N := md_enters) d_md_ends_54 ml_md_218 mdf_md_enters wi_md_enters wz_md_enters (sp_md_enters G R43 (endsH ivh hE8 K15 N33)) R43.obj ⟨_, rfl, rfl⟩ rfl rfl (by decide) (by decide) (Nat.le_of_ble_eq_true rfl) rfl rfl (kN fun h54 ⟨t, M54, E54⟩ => ?_)
    refine V_iconst (v := 1) d_md_ends_57 (by decide) ?_
    refine V_ireturn d_md_ends_58 rfl ?_
    exact ⟨_, rfl, rfl, t1, t2, _, K15, N33, ((M15.trans M33).trans M43).trans M54, Or.inr ⟨c50, E54⟩⟩
