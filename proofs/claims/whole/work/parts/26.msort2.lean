/-! sort of the reference, whole -/
theorem sp_md_ends2 (G : Gk) {h h0 : Hp} {m : Nat} {am : Nat → Nat} {s t0 t : Mem} (hM : Mod h0 m am h t) (ivs : IvS s) (ivo : IvO s) (ivw : IvW s) (ivh : IvH s) (hE8 : nE s < 680) (o f : Nat) (ho : o < nO s) (hf : f < 8) (hB : BegE s o f t0) (ht1 : t.1 = t0.1) (ht2 : ∀ q, q ≠ 11 → q ≠ 12 → q ≠ 32 → t.2 q = t0.2 q) :
    Ct G md_ends [.ref m, .int (nI o), .int (nI f)] h (pI fun r h' => r = 1 ∧ ∃ t', Mod h0 m am h' t' ∧ EndE t o f t') := by
  have hdE := dEnd_le ivh
  obtain ⟨ih, a1, a2, a3⟩ := hB.n ivh
  have hE' : nE' s ≤ nE s := by unfold nE'; split <;> omega
  have j1 : IvS t := ivs.of (by rw [ht1, hB.f (by decide) (by decide)]) (by rw [ht2 _ (by decide) (by decide) (by decide), hB.a (by decide) (by decide)]) (by rw [ht2 _ (by decide) (by decide) (by decide), hB.a (by decide) (by decide)])
  have j2 : IvO t := ivo.of (by rw [ht1, hB.f (by decide) (by decide)]) (by rw [ht1, hB.f (by decide) (by decide)]) (by rw [ht2 _ (by decide) (by decide) (by decide), hB.a (by decide) (by decide)])
  have j3 : IvW t := ivw.of (by rw [ht1, hB.f (by decide) (by decide)]) (by rw [ht1, hB.f (by decide) (by decide)]) (by rw [ht2 _ (by decide) (by decide) (by decide), hB.a (by decide) (by decide)]) (by rw [ht2 _ (by decide) (by decide) (by decide), hB.a (by decide) (by decide)]) (by rw [ht2 _ (by decide) (by decide) (by decide), hB.a (by decide) (by decide)])
  have j4 : IvH t := ih.of (by rw [ht1]) (by rw [ht1]) (by rw [ht1]) (by rw [ht1]) (by rw [ht2 _ (by decide) (by decide) (by decide)])
  have eO : nO t = nO s := by unfold nO; rw [ht1, hB.f (by decide) (by decide)]
  have eE : nE t = nE' s := by unfold nE; rw [ht1]; exact a1
  refine Ct.mono (sp_md_ends G hM.1 j1 j2 j3 j4 (by omega) o f (by rw [eO]; exact ho) hf) (fun v h' q => ?_)
  obtain ⟨r', q1, q2, t1, t2, t', q3, q4, q5, q6⟩ := q
  exact ⟨r', q1, q2, t', hM.trans q5, t1, t2, q3, q4, q6⟩
theorem SrtR.known {s t : Mem} {y : Nat} {w p : Nat → Int32} (h : SrtR s y w p t) (K : Nat → Int32) : SrtR s y w p (sK t K) := by
  obtain ⟨h1, h2, h3, h4, h5⟩ := h
  have e : ∀ q, q ≠ 12 → (sK t K).2 q = t.2 q := fun q hq => (va_up_ne t.2 K hq : va_up t.2 12 K q = _)
  exact ⟨h1, fun q a b c => by rw [e q b]; exact h2 q a b c, fun x hx => by rw [e 11 (by decide)]; exact h3 x hx, fun x hx => by rw [e 11 (by decide)]; exact h4 x hx, fun x hx => by rw [e 32 (by decide)]; exact h5 x hx⟩
theorem SrtR.pl {s t : Mem} {y : Nat} {w : Nat → Int32} (h : SrtR s y w (fun k => s.2 11 (6 * y + k)) t) : t.2 11 = s.2 11 := by
  funext x
  by_cases q : x < 6 * y ∨ 6 * y + 6 ≤ x
  · exact h.2.2.1 x q
  · have e : t.2 11 (6 * y + (x - 6 * y)) = s.2 11 (6 * y + (x - 6 * y)) := h.2.2.2.1 (x - 6 * y) (by omega)
    rw [show 6 * y + (x - 6 * y) = x by omega] at e
    exact e
theorem lp_srtO (G : Gk) {m : Nat} {am : Nat → Nat} {s : Mem} {h0 : Hp} {post : Option Value → Hp → Prop} (y len : Nat) (hy : y < 480) (h6 : len ≤ 6) (hl : s.2 10 y = nI len) (a1 a2 a3 : Int32) (fl : Int32) (w0 p0 : Nat → Int32)
    (K : ∀ (h : Hp) (l6 l7 l8 l9 : Option Value) (t : Mem), Mod h0 m am h t → SrtR s y (srtF fl w0 p0 len).1 (srtF fl w0 p0 len).2 t → V G md_sort post h 0 0 250 [some (.ref m), some (.int a1), some (.int a2), some (.int a3), some (.int fl), some (.int (nI y)), l6, l7, l8, l9] []) :
    ∀ (n i : Nat) (h : Hp) (t : Mem) (l7 l8 l9 : Option Value), i ≤ len → len + 1 ≤ i + n → Mod h0 m am h t → SrtR s y (srtF fl w0 p0 i).1 (srtF fl w0 p0 i).2 t →
    V G md_sort post h 0 0 106 [some (.ref m), some (.int a1), some (.int a2), some (.int a3), some (.int fl), some (.int (nI y)), some (.int (nI i)), l7, l8, l9] [] := by
  intro n
  induction n with
  | zero => intro i h t l7 l8 l9 h1 h2; exact absurd h2 (by omega)
  | succ n ih =>
    intro i h t l7 l8 l9 hi hn hM hs
    have r := hM.1
    refine V_iload d_md_sort_106 rfl ?_
    refine V_aload_n d_md_sort_108 rfl rfl ?_
    refine V_getf d_md_sort_109 fl_md_34 r.obj rfl ?_
    refine V_iload d_md_sort_112 rfl ?_
    refine V_mald r d_md_sort_114 (by first | with_reducible rfl | exact ix8 _ _ | exact ix6 _ _ | assumption) rfl rfl (by show _ < 480; omega) ?_
    rw [hs.2.1 10 (by decide) (by decide) (by decide), hl]
    refine V_icmp_ge d_md_sort_115 (fun c115 => ?_) (fun c115 => ?_)
    · skip
      obtain rfl : i = len := by have := geN c115 (by omega); omega
      exact K _ _ _ _ _ _ hM hs
    · skip
      have hlt := ltN c115 (by omega)
      refine V_aload_n d_md_sort_118 rfl rfl ?_
      refine V_getf d_md_sort_119 fl_md_37 r.obj rfl ?_
      refine V_bipush (v := 6) d_md_sort_122 (by decide) ?_
      refine V_iload d_md_sort_124 rfl ?_
      refine V_imul d_md_sort_126 ?_
      refine V_iload d_md_sort_127 rfl ?_
      refine V_iadd d_md_sort_129 ?_
      rw [ix6]
      refine V_mald r d_md_sort_130 (by first | with_reducible rfl | exact ix8 _ _ | exact ix6 _ _ | assumption) rfl rfl (by show _ < 2880; omega) ?_
      rw [hs.2.2.2.1 i (by omega)]
      refine V_istore d_md_sort_131 (by decide) rfl rfl ?_
      dsimp only [List.set]
      refine V_aload_n d_md_sort_133 rfl rfl ?_
      refine V_getf d_md_sort_134 fl_md_80 r.obj rfl ?_
      refine V_iload d_md_sort_137 rfl ?_
      refine V_mald r d_md_sort_139 (by first | with_reducible rfl | exact ix8 _ _ | exact ix6 _ _ | assumption) rfl rfl (by show _ < 6; omega) ?_
      rw [hs.2.2.2.2 i (by omega)]
      refine V_istore d_md_sort_140 (by decide) rfl rfl ?_
      dsimp only [List.set]
      refine V_iload d_md_sort_142 rfl ?_
      refine V_istore d_md_sort_144 (by decide) rfl rfl ?_
      dsimp only [List.set]
      refine lp_srt2 G y i hy (by omega) a1 a2 a3 fl _ _ (srtF fl w0 p0 (i + 1)).1 (srtF fl w0 p0 (i + 1)).2 (fun h1 l9 t1 M1 S1 => ?_) i _ _ _ _ (Nat.le_refl _) rfl hM hs
      refine V_iinc d_md_sort_244 rfl rfl (by decide) rfl rfl ?_
      dsimp only [List.set]
      refine V_goto d_md_sort_247 ?_
      rw [show Int32.ofInt 1 = 1 from rfl, nI_1]
      exact ih (i + 1) _ _ _ _ _ (by omega) (by omega) M1 S1
theorem lp_srtW (G : Gk) {m : Nat} {am : Nat → Nat} {s : Mem} {h0 : Hp} {post : Option Value → Hp → Prop} (ivs : IvS s) (ivo : IvO s) (ivf : IvF s) (ivv : IvV s) (y len g : Nat) (hy : y < 480) (hg : g < 8) (h6 : len ≤ 6) (hl : s.2 10 y = nI len) (hp : ∀ i, i < len → ∃ t, t < nO s ∧ s.2 11 (6 * y + i) = nI t) (a1 a2 : Int32) (fl : Int32)
    (K : ∀ (h : Hp) (l6 : Option Value) (t : Mem) (w : Nat → Int32), Mod h0 m am h t → SrtR s y w (fun k => s.2 11 (6 * y + k)) t → (∀ k, k < len → w k = wgt s (s.2 11 (6 * y + k)).toNatClampNeg g) → V G md_sort post h 0 0 103 [some (.ref m), some (.int a1), some (.int a2), some (.int (nI g)), some (.int fl), some (.int (nI y)), l6, none, none, none] []) :
    ∀ (n i : Nat) (h : Hp) (t : Mem) (w : Nat → Int32), i ≤ len → len + 1 ≤ i + n → Mod h0 m am h t → SrtR s y w (fun k => s.2 11 (6 * y + k)) t → (∀ k, k < i → w k = wgt s (s.2 11 (6 * y + k)).toNatClampNeg g) →
    V G md_sort post h 0 0 60 [some (.ref m), some (.int a1), some (.int a2), some (.int (nI g)), some (.int fl), some (.int (nI y)), some (.int (nI i)), none, none, none] [] := by
  have h60 := ivo.2.1
  intro n
  induction n with
  | zero => intro i h t w h1 h2; exact absurd h2 (by omega)
  | succ n ih =>
    intro i h t w hi hn hM hs hw
    have r := hM.1
    have e11 := hs.pl
    have e : ∀ q, q ≠ 11 → q ≠ 12 → q ≠ 32 → t.2 q = s.2 q := hs.2.1
    have j1 : IvS t := ivs.of (by rw [hs.1]) (e 1 (by decide) (by decide) (by decide)) (e 2 (by decide) (by decide) (by decide))
    have j2 : IvO t := ivo.of (by rw [hs.1]) (by rw [hs.1]) (e 9 (by decide) (by decide) (by decide))
    have j3 : IvF t := ivf.of (by rw [hs.1]) (e 2 (by decide) (by decide) (by decide)) (e 3 (by decide) (by decide) (by decide)) (e 4 (by decide) (by decide) (by decide)) (e 5 (by decide) (by decide) (by decide)) (e 6 (by decide) (by decide) (by decide))
    have j4 : IvV t := ivv.of (by rw [hs.1]) (e 2 (by decide) (by decide) (by decide)) (e 3 (by decide) (by decide) (by decide)) (e 9 (by decide) (by decide) (by decide)) (e 10 (by decide) (by decide) (by decide)) e11
    have eO : nO t = nO s := by unfold nO; rw [hs.1]
    refine V_iload d_md_sort_60 rfl ?_
    refine V_aload_n d_md_sort_62 rfl rfl ?_
    refine V_getf d_md_sort_63 fl_md_34 r.obj rfl ?_
    refine V_iload d_md_sort_66 rfl ?_
    refine V_mald r d_md_sort_68 (by first | with_reducible rfl | exact ix8 _ _ | exact ix6 _ _ | assumption) rfl rfl (by show _ < 480; omega) ?_
    rw [hs.2.1 10 (by decide) (by decide) (by decide), hl]
    refine V_icmp_ge d_md_sort_69 (fun c69 => ?_) (fun c69 => ?_)
    · skip
      obtain rfl : i = len := by have := geN c69 (by omega); omega
      exact K _ _ _ _ hM hs hw
    · skip
      have hlt := ltN c69 (by omega)
      obtain ⟨u, hu, eu⟩ := hp i hlt
      refine V_aload_n d_md_sort_72 rfl rfl ?_
      refine V_getf d_md_sort_73 fl_md_80 r.obj rfl ?_
      refine V_iload d_md_sort_76 rfl ?_
      refine V_aload_n d_md_sort_78 rfl rfl ?_
      refine V_aload_n d_md_sort_79 rfl rfl ?_
      refine V_getf d_md_sort_80 fl_md_37 r.obj rfl ?_
      refine V_bipush (v := 6) d_md_sort_83 (by decide) ?_
      refine V_iload d_md_sort_85 rfl ?_
      refine V_imul d_md_sort_87 ?_
      refine V_iload d_md_sort_88 rfl ?_
      refine V_iadd d_md_sort_90 ?_
      rw [ix6]
      refine V_mald r d_md_sort_91 (by first | with_reducible rfl | exact ix8 _ _ | exact ix6 _ _ | assumption) rfl rfl (by show _ < 2880; omega) ?_
      rw [e11, eu]
      refine V_iload_n d_md_sort_92 rfl rfl ?_
      refine V_callV (N := md_weightOf) d_md_sort_93 ml_md_238 mdf_md_weightOf wi_md_weightOf wz_md_weightOf (sp_md_weightOf G r j1 j2 j3 j4 u g (by rw [eO]; exact hu) hg) r.obj ⟨_, rfl, rfl⟩ rfl rfl (by decide) (by decide) (Nat.le_of_ble_eq_true rfl) rfl rfl (kI fun r93 h93 ⟨K0, M93, e93⟩ => ?_)
      have R93 := M93.1
      rw [wgt_congr (e 2 (by decide) (by decide) (by decide)) (e 3 (by decide) (by decide) (by decide)) (e 4 (by decide) (by decide) (by decide)) (e 5 (by decide) (by decide) (by decide)) (e 6 (by decide) (by decide) (by decide)) (e 9 (by decide) (by decide) (by decide)) (e 10 (by decide) (by decide) (by decide)) e11] at e93
      subst e93
      refine V_mast R93 d_md_sort_96 (by first | with_reducible rfl | exact ix8 _ _ | exact ix6 _ _ | assumption) rfl rfl (by show _ < 6; omega) (fun h96 M96 => ?_)
      have R96 := M96.1
      refine V_iinc (v := _) d_md_sort_97 rfl rfl (by decide) rfl rfl ?_
      dsimp only [List.set]
      refine V_goto d_md_sort_100 ?_
      rw [show Int32.ofInt 1 = 1 from rfl, nI_1]
      refine ih (i + 1) _ _ _ (by omega) (by omega) ((hM.trans M93).trans M96) ((hs.known K0).putw i (wgt s u g)) (fun k hk => ?_)
      by_cases z : k = i
      · subst z; rw [pk_us, eu, cl u (by omega)]
      · rw [pk_un z]; exact hw k (by omega)
/-- a list is put in order, as an edit -/
def SrtE (s : Mem) (o f g len : Nat) (fl : Int32) (t : Mem) : Prop := ∃ t0 t1 w, BegE s o f t0 ∧ (∀ k, k < len → w k = wgt s (s.2 11 (6 * (8 * o + f) + k)).toNatClampNeg g) ∧ SrtR t0 (8 * o + f) (srtF fl w (fun k => s.2 11 (6 * (8 * o + f) + k)) len).1 (srtF fl w (fun k => s.2 11 (6 * (8 * o + f) + k)) len).2 t1 ∧ EndE t1 o f t
theorem tail_srt (G : Gk) {m : Nat} {am : Nat → Nat} {s t0 t : Mem} {h0 h : Hp} {post : Option Value → Hp → Prop} (ivs : IvS s) (ivo : IvO s) (ivw : IvW s) (ivh : IvH s) (hE8 : nE s < 680) (o f : Nat) (ho : o < nO s) (hf : f < 8) (hB : BegE s o f t0) (hM : Mod h0 m am h t) (ht1 : t.1 = t0.1) (ht2 : ∀ q, q ≠ 11 → q ≠ 12 → q ≠ 32 → t.2 q = t0.2 q) (l3 l4 l5 l6 l7 l8 l9 : Option Value) (K : ∀ t' h', Mod h0 m am h' t' → EndE t o f t' → post (some (.int 1)) h') :
    V G md_sort post h 0 0 250 [some (.ref m), some (.int (nI o)), some (.int (nI f)), l3, l4, l5, l6, l7, l8, l9] [] := by
  have r := hM.1
  refine V_aload_n d_md_sort_250 rfl rfl ?_
  refine V_iload_n d_md_sort_251 rfl rfl ?_
  refine V_iload_n d_md_sort_252 rfl rfl ?_
  refine V_callV (N := md_ends) d_md_sort_253 ml_md_232 mdf_md_ends wi_md_ends wz_md_ends (sp_md_ends2 G hM ivs ivo ivw ivh hE8 o f ho hf hB ht1 ht2) r.obj ⟨_, rfl, rfl⟩ rfl rfl (by decide) (by decide) (Nat.le_of_ble_eq_true rfl) rfl rfl (kI fun r253 h253 ⟨e253, t', M253, E253⟩ => ?_)
  subst e253
  refine V_ireturn d_md_sort_256 rfl ?_
  exact K t' _ M253 E253
theorem sp_md_sort (G : Gk) {h : Hp} {m : Nat} {am : Nat → Nat} {s : Mem} (r : RepM h m am s) (ivs : IvS s) (ivo : IvO s) (ivf : IvF s) (ivv : IvV s) (ivw : IvW s) (ivh : IvH s) (hE8 : nE s < 680) (v1 v2 v fl : Int32) : Ct G md_sort [.ref m, .int v1, .int v2, .int v, .int fl] h
    (pI fun r h' => (¬ hasF s v1 v2 ∧ h = h' ∧ r = -2) ∨ ∃ o f, o < nO s ∧ f < nf s (sh s o) ∧ v1 = nI o ∧ v2 = nI f ∧
      ((s.2 3 (8 * sh s o + f) ≠ 2 ∧ h = h' ∧ r = -6) ∨ (s.2 3 (8 * sh s o + f) = 2 ∧ ∃ len, len ≤ 6 ∧ s.2 10 (8 * o + f) = nI len ∧
        (((∀ g, g ≤ 7 → v ≠ nI g) ∧ h = h' ∧ r = -8) ∨ ∃ g, g ≤ 7 ∧ v = nI g ∧ r = 1 ∧ ∃ t, Mod h m am h' t ∧ SrtE s o f g len fl t)))) := by
  have h10 := ivs.2.1
  have h60 := ivo.2.1
  refine Ct.ofL (M := md_sort) (lv := [some (.ref m), some (.int v1), some (.int v2), some (.int v), some (.int fl), none, none, none, none, none]) mdf_md_sort rfl (Nat.le_of_ble_eq_true rfl) rfl ?_
  refine V_aload_n d_md_sort_0 rfl rfl ?_
  refine V_iload_n d_md_sort_1 rfl rfl ?_
  refine V_iload_n d_md_sort_2 rfl rfl ?_
  refine V_callV (N := md_hasField) d_md_sort_3 ml_md_169 mdf_md_hasField wi_md_hasField wz_md_hasField (sp_md_hasField G r ivs ivo _ _) r.obj ⟨_, rfl, rfl⟩ rfl rfl (by decide) (by decide) (Nat.le_of_ble_eq_true rfl) rfl rfl (kI fun r3 h3 ⟨e3, f3⟩ => ?_)
  subst e3 f3
  refine V_if_ne d_md_sort_6 (fun c6 => ?_) (fun c6 => ?_)
  · skip
    obtain ⟨o, f, ho, rfl, hf, rfl⟩ := b01_ne c6
    obtain ⟨hs1, hs2⟩ := ivo.2.2 o ho
    have hf8 := (ivs.2.2.1 _ hs2).2
    refine V_aload_n d_md_sort_12 rfl rfl ?_
    refine V_iload_n d_md_sort_13 rfl rfl ?_
    refine V_iload_n d_md_sort_14 rfl rfl ?_
    refine V_callV (N := md_at) d_md_sort_15 ml_md_152 mdf_md_at wi_md_at wz_md_at (sp_md_at G _ _ _ _) r.obj ⟨_, rfl, rfl⟩ rfl rfl (by decide) (by decide) (Nat.le_of_ble_eq_true rfl) rfl rfl (kI fun r15 h15 ⟨e15, f15⟩ => ?_)
    subst e15 f15
    refine V_istore d_md_sort_18 (by decide) rfl rfl ?_
    dsimp only [List.set]
    refine V_aload_n d_md_sort_20 rfl rfl ?_
    refine V_getf d_md_sort_21 fl_md_16 r.obj rfl ?_
    refine V_aload_n d_md_sort_24 rfl rfl ?_
    refine V_iload_n d_md_sort_25 rfl rfl ?_
    refine V_iload_n d_md_sort_26 rfl rfl ?_
    refine V_callV (N := md_by) d_md_sort_27 ml_md_156 mdf_md_by wi_md_by wz_md_by (sp_md_by' G r o f (sh s o) (by omega) hs1) r.obj ⟨_, rfl, rfl⟩ rfl rfl (by decide) (by decide) (Nat.le_of_ble_eq_true rfl) rfl rfl (kI fun r27 h27 ⟨e27, f27⟩ => ?_)
    subst e27 f27
    refine V_mald r d_md_sort_30 (by first | with_reducible rfl | exact ix8 _ _ | exact ix6 _ _ | assumption) rfl rfl (by show _ < 80; omega) ?_
    refine V_iconst (v := 2) d_md_sort_31 (by decide) ?_
    refine V_icmp_eq d_md_sort_32 (fun c32 => ?_) (fun c32 => ?_)
    · skip
      obtain ⟨len, hl6, hl, hp⟩ := (ivv o ho f hf).2 c32
      refine V_iload_n d_md_sort_38 rfl rfl ?_
      refine V_iconst (v := 0) d_md_sort_39 (by decide) ?_
      refine V_bipush (v := 7) d_md_sort_40 (by decide) ?_
      refine V_callS (N := md_in) d_md_sort_42 ml_md_114 mdf_md_in ws_md_in (sp_md_in G _ _ _ _) rfl rfl (by decide) (by decide) (Nat.le_of_ble_eq_true rfl) rfl rfl (kI fun r42 h42 ⟨e42, f42⟩ => ?_)
      subst e42 f42
      refine V_if_ne d_md_sort_45 (fun c45 => ?_) (fun c45 => ?_)
      · skip
        obtain ⟨g, hg, rfl⟩ := ixle (n := 7) (by omega) (b01_ne c45)
        refine V_aload_n d_md_sort_51 rfl rfl ?_
        refine V_iload_n d_md_sort_52 rfl rfl ?_
        refine V_iload_n d_md_sort_53 rfl rfl ?_
        refine V_callV (N := md_begins) d_md_sort_54 ml_md_228 mdf_md_begins wi_md_begins wz_md_begins (sp_md_begins G r ivo ivh o f ho (by omega)) r.obj ⟨_, rfl, rfl⟩ rfl rfl (by decide) (by decide) (Nat.le_of_ble_eq_true rfl) rfl rfl (kN fun h54 ⟨t0, M54, B54⟩ => ?_)
        have R54 := M54.1
        have ea : ∀ q, q ≠ 17 → q ≠ 18 → t0.2 q = s.2 q := fun q a b => BegE.a B54 a b
        have ef : ∀ q, q ≠ 16 → q ≠ 20 → t0.1 q = s.1 q := fun q a b => BegE.f B54 a b
        have k1 : IvS t0 := ivs.of (ef 0 (by decide) (by decide)) (ea 1 (by decide) (by decide)) (ea 2 (by decide) (by decide))
        have k2 : IvO t0 := ivo.of (ef 0 (by decide) (by decide)) (ef 8 (by decide) (by decide)) (ea 9 (by decide) (by decide))
        have k3 : IvF t0 := ivf.of (ef 0 (by decide) (by decide)) (ea 2 (by decide) (by decide)) (ea 3 (by decide) (by decide)) (ea 4 (by decide) (by decide)) (ea 5 (by decide) (by decide)) (ea 6 (by decide) (by decide))
        have k4 : IvV t0 := ivv.of (ef 8 (by decide) (by decide)) (ea 2 (by decide) (by decide)) (ea 3 (by decide) (by decide)) (ea 9 (by decide) (by decide)) (ea 10 (by decide) (by decide)) (ea 11 (by decide) (by decide))
        have eO : nO t0 = nO s := by unfold nO; rw [ef 8 (by decide) (by decide)]
        have hwg : ∀ u, wgt t0 u g = wgt s u g := fun u => wgt_congr (ea 2 (by decide) (by decide)) (ea 3 (by decide) (by decide)) (ea 4 (by decide) (by decide)) (ea 5 (by decide) (by decide)) (ea 6 (by decide) (by decide)) (ea 9 (by decide) (by decide)) (ea 10 (by decide) (by decide)) (ea 11 (by decide) (by decide)) u g
        refine V_iconst (v := 0) d_md_sort_57 (by decide) ?_
        refine V_istore d_md_sort_58 (by decide) rfl rfl ?_
        dsimp only [List.set]
        refine lp_srtW G (s := t0) k1 k2 k3 k4 (8 * o + f) len g (by omega) (by omega) hl6 (by rw [ea 10 (by decide) (by decide)]; exact hl) (fun i hi => by rw [ea 11 (by decide) (by decide), eO]; exact hp i hi) (nI o) (nI f) fl (fun h1 l6 t1 w M1 S1 W1 => ?_) (len + 1) 0 _ _ (fun k => t0.2 32 k) (by omega) (by omega) M54 ⟨rfl, fun _ _ _ _ => rfl, fun _ _ => rfl, fun _ _ => rfl, fun _ _ => rfl⟩ (fun k hk => by omega)
        refine V_iconst (v := 0) d_md_sort_103 (by decide) ?_
        refine V_istore d_md_sort_104 (by decide) rfl rfl ?_
        dsimp only [List.set]
        rw [ea 11 (by decide) (by decide)] at S1 W1
        refine lp_srtO G (s := t0) (8 * o + f) len (by omega) hl6 (by rw [ea 10 (by decide) (by decide)]; exact hl) (nI o) (nI f) (nI g) fl w (fun k => s.2 11 (6 * (8 * o + f) + k)) (fun h2 l6 l7 l8 l9 t2 M2 S2 => ?_) (len + 1) 0 _ _ _ _ _ (by omega) (by omega) M1 S1
        refine tail_srt G ivs ivo ivw ivh hE8 o f ho (by omega) B54 M2 S2.1 S2.2.1 _ _ _ _ _ _ _ (fun t' h' q1 q2 => ?_)
        exact ⟨_, rfl, Or.inr ⟨o, f, ho, hf, rfl, rfl, Or.inr ⟨c32, len, hl6, hl, Or.inr ⟨g, hg, rfl, rfl, t', q1, t0, t2, w, B54, fun k hk => by rw [W1 k hk, hwg], S2, q2⟩⟩⟩⟩
      · skip
        refine V_bipush (v := -8) d_md_sort_48 (by decide) ?_
        refine V_ireturn d_md_sort_50 rfl ?_
        exact ⟨_, rfl, Or.inr ⟨o, f, ho, hf, rfl, rfl, Or.inr ⟨c32, len, hl6, hl, Or.inl ⟨ixleno (n := 7) (by omega) (b01_e c45), rfl, rfl⟩⟩⟩⟩
    · skip
      refine V_bipush (v := -6) d_md_sort_35 (by decide) ?_
      refine V_ireturn d_md_sort_37 rfl ?_
      exact ⟨_, rfl, Or.inr ⟨o, f, ho, hf, rfl, rfl, Or.inl ⟨c32, rfl, rfl⟩⟩⟩
  · skip
    refine V_bipush (v := -2) d_md_sort_9 (by decide) ?_
    refine V_ireturn d_md_sort_11 rfl ?_
    exact ⟨_, rfl, Or.inl ⟨b01_e c6, rfl, rfl⟩⟩
