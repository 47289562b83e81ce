/-! the reference's walks: matched, walkField, walkList -/
abbrev Spt : Type := Int32 × Int32
def AtL (A B : Nat → Int32) (L : List Spt) : Prop := ∀ k x, L[k]? = some x → A k = x.1 ∧ B k = x.2
def NX (L : List Spt) (t : Mem) : Prop := t.1 40 = nI L.length ∧ AtL (t.2 41) (t.2 42) L
def FW (L : List Spt) (t : Mem) : Prop := t.1 37 = nI L.length ∧ AtL (t.2 38) (t.2 39) L
def KpW (t u : Mem) : Prop := (∀ q, q ≠ 40 → u.1 q = t.1 q) ∧ ∀ q, q ≠ 41 → q ≠ 42 → u.2 q = t.2 q
theorem KpW.rf (t : Mem) : KpW t t := ⟨fun _ _ => rfl, fun _ _ _ => rfl⟩
theorem KpW.trans {s t u : Mem} (a : KpW s t) (b : KpW t u) : KpW s u := ⟨fun q h => (b.1 q h).trans (a.1 q h), fun q h h2 => (b.2 q h h2).trans (a.2 q h h2)⟩
theorem KpW.sc {t u : Mem} (a : KpW t u) : Sc t u := ⟨fun q h => a.1 q (by rintro rfl; exact absurd h (by decide)), fun q h => a.2 q (by rintro rfl; exact absurd h (by decide)) (by rintro rfl; exact absurd h (by decide))⟩
theorem AtL.snoc {A B : Nat → Int32} {L : List Spt} (h : AtL A B L) (a b : Int32) : AtL (upd A L.length a) (upd B L.length b) (L ++ [(a, b)]) := by
  intro k x hk
  by_cases e : k < L.length
  · rw [List.getElem?_append_left e] at hk
    rw [pk_un (by omega), pk_un (by omega)]
    exact h k x hk
  · have hl := (List.getElem?_eq_some_iff.mp hk).1
    rw [List.length_append] at hl
    obtain rfl : k = L.length := by simp at hl; omega
    rw [List.getElem?_append_right (Nat.le_refl _), Nat.sub_self] at hk
    obtain rfl : (a, b) = x := by simpa using hk
    rw [pk_us, pk_us]
    exact ⟨rfl, rfl⟩
theorem sp_md_matched (G : Gk) {h : Hp} {m : Nat} {am : Nat → Nat} {t : Mem} {L : List Spt} (r : RepM h m am t) (hn : NX L t) (hl : L.length < 500) (a b : Int32) : Ct G md_matched [.ref m, .int a, .int b] h (pN fun h' => ∃ u, Mod h m am h' u ∧ NX (L ++ [(a, b)]) u ∧ KpW t u) := by
  obtain ⟨h40, hat⟩ := hn
  refine Ct.ofL (M := md_matched) (lv := [some (.ref m), some (.int a), some (.int b)]) mdf_md_matched rfl (Nat.le_of_ble_eq_true rfl) rfl ?_
  refine V_aload_n d_md_matched_0 rfl rfl ?_
  refine V_getf d_md_matched_1 fl_md_263 r.obj rfl ?_
  rw [h40]
  refine V_sipush (v := 500) d_md_matched_4 (by decide) ?_
  refine V_icmp_ge d_md_matched_7 (fun c7 => ?_) (fun c7 => ?_)
  · skip
    exact absurd (geN (b := 500) c7 (by decide)) (by omega)
  · skip
    refine V_aload_n d_md_matched_10 rfl rfl ?_
    refine V_getf d_md_matched_11 fl_md_98 r.obj rfl ?_
    refine V_aload_n d_md_matched_14 rfl rfl ?_
    refine V_getf d_md_matched_15 fl_md_263 r.obj rfl ?_
    rw [h40]
    refine V_iload_n d_md_matched_18 rfl rfl ?_
    refine V_mast r d_md_matched_19 (by first | with_reducible rfl | exact ix8 _ _ | exact ix6 _ _ | assumption) rfl rfl (by show _ < 600; omega) (fun h19 M19 => ?_)
    have R19 := M19.1
    refine V_aload_n d_md_matched_20 rfl rfl ?_
    refine V_getf d_md_matched_21 fl_md_101 R19.obj rfl ?_
    refine V_aload_n d_md_matched_24 rfl rfl ?_
    refine V_getf d_md_matched_25 fl_md_263 R19.obj rfl ?_
    rw [mA_1, h40]
    refine V_iload_n d_md_matched_28 rfl rfl ?_
    refine V_mast R19 d_md_matched_29 (by first | with_reducible rfl | exact ix8 _ _ | exact ix6 _ _ | assumption) rfl rfl (by show _ < 600; omega) (fun h29 M29 => ?_)
    have R29 := M29.1
    refine V_aload_n d_md_matched_30 rfl rfl ?_
    refine V_dup d_md_matched_31 rfl ?_
    refine V_getf d_md_matched_32 fl_md_263 R29.obj rfl ?_
    rw [mA_1, mA_1, h40]
    refine V_iconst (v := 1) d_md_matched_35 (by decide) ?_
    refine V_iadd d_md_matched_36 ?_
    rw [nI_1]
    refine V_mput (j := 40) R29 d_md_matched_37 fp_md_263 rfl rfl (by decide) (fun h37 M37 => ?_)
    have R37 := M37.1
    refine V_return d_md_matched_40 rfl ?_
    refine ⟨rfl, _, (M19.trans M29).trans M37, ⟨?_, ?_⟩, fun q hq => ?_, fun q h1 h2 => ?_⟩
    · rw [mF_1s, List.length_append]; rfl
    · rw [mF_2, show (mA (mA t 41 L.length a) 42 L.length b).2 41 = upd (t.2 41) L.length a by rw [mA_2n _ _ _ (by decide), mA_2s], show (mA (mA t 41 L.length a) 42 L.length b).2 42 = upd (t.2 42) L.length b by rw [mA_2s, mA_2n _ _ _ (by decide)]]; exact hat.snoc a b
    · rw [mF_1n _ _ hq]; rfl
    · rw [mF_2, mA_2n _ _ _ h2, mA_2n _ _ _ h1]
noncomputable def fldW (s : Mem) (o : Nat) (n l : Int32) : List Spt := @ite _ (hasF s (nI o) n) (Classical.propDecidable _) (if s.2 3 (8 * sh s o + n.toNatClampNeg) = 1 ∧ l = 0 then (if s.2 10 (8 * o + n.toNatClampNeg) = MISS then [] else [(s.2 10 (8 * o + n.toNatClampNeg), -1)]) else [(nI o, n)]) []
theorem sp_md_walkField (G : Gk) {h : Hp} {m : Nat} {am : Nat → Nat} {t : Mem} {L : List Spt} (r : RepM h m am t) (ivs : IvS t) (ivo : IvO t) (hn : NX L t) (hl : L.length < 500) (o : Nat) (ho : o < nO t) (n l : Int32) : Ct G md_walkField [.ref m, .int (nI o), .int n, .int l] h (pN fun h' => ∃ u, Mod h m am h' u ∧ NX (L ++ fldW t o n l) u ∧ KpW t u) := by
  have h10 := ivs.2.1
  have h60 := ivo.2.1
  refine Ct.ofL (M := md_walkField) (lv := [some (.ref m), some (.int (nI o)), some (.int n), some (.int l)]) mdf_md_walkField rfl (Nat.le_of_ble_eq_true rfl) rfl ?_
  refine V_aload_n d_md_walkField_0 rfl rfl ?_
  refine V_iload_n d_md_walkField_1 rfl rfl ?_
  refine V_iload_n d_md_walkField_2 rfl rfl ?_
  refine V_callV (N := md_hasField) d_md_walkField_3 ml_md_169 mdf_md_hasField wi_md_hasField wz_md_hasField (sp_md_hasField G r ivs ivo _ _) r.obj ⟨_, rfl, rfl⟩ rfl rfl (by decide) (by decide) (Nat.le_of_ble_eq_true rfl) rfl rfl (kI fun r3 h3 ⟨e3, f3⟩ => ?_)
  subst e3 f3
  refine V_if_ne d_md_walkField_6 (fun c6 => ?_) (fun c6 => ?_)
  · skip
    have hh := b01_ne c6
    obtain ⟨o', f, ho', eo, hf, rfl⟩ := b01_ne c6
    obtain rfl := nI_inj8 (by omega) (by omega) eo
    obtain ⟨hs1, hs2⟩ := ivo.2.2 o ho
    have hf8 := (ivs.2.2.1 _ hs2).2
    have cf := cl f (by omega)
    refine V_aload_n d_md_walkField_10 rfl rfl ?_
    refine V_getf d_md_walkField_11 fl_md_16 r.obj rfl ?_
    refine V_aload_n d_md_walkField_14 rfl rfl ?_
    refine V_iload_n d_md_walkField_15 rfl rfl ?_
    refine V_iload_n d_md_walkField_16 rfl rfl ?_
    refine V_callV (N := md_by) d_md_walkField_17 ml_md_156 mdf_md_by wi_md_by wz_md_by (sp_md_by' G r o f (sh t o) (by omega) hs1) r.obj ⟨_, rfl, rfl⟩ rfl rfl (by decide) (by decide) (Nat.le_of_ble_eq_true rfl) rfl rfl (kI fun r17 h17 ⟨e17, f17⟩ => ?_)
    subst e17 f17
    refine V_mald r d_md_walkField_20 (by first | with_reducible rfl | exact ix8 _ _ | exact ix6 _ _ | assumption) rfl rfl (by show _ < 80; omega) ?_
    refine V_iconst (v := 1) d_md_walkField_21 (by decide) ?_
    refine V_icmp_ne d_md_walkField_22 (fun c22 => ?_) (fun c22 => ?_)
    · skip
      refine V_aload_n d_md_walkField_64 rfl rfl ?_
      refine V_iload_n d_md_walkField_65 rfl rfl ?_
      refine V_iload_n d_md_walkField_66 rfl rfl ?_
      refine V_callV (N := md_matched) d_md_walkField_67 ml_md_266 mdf_md_matched wi_md_matched wz_md_matched (sp_md_matched G r hn hl _ _) r.obj ⟨_, rfl, rfl⟩ rfl rfl (by decide) (by decide) (Nat.le_of_ble_eq_true rfl) rfl rfl (kN fun h67 ⟨u, M67, N67, K67⟩ => ?_)
      refine V_return d_md_walkField_70 rfl ?_
      refine ⟨rfl, u, M67, ?_, K67⟩
      rw [fldW, if_pos hh, cf, if_neg (fun q => c22 q.1)]
      exact N67
    · skip
      refine V_iload_n d_md_walkField_25 rfl rfl ?_
      refine V_if_ne d_md_walkField_26 (fun c26 => ?_) (fun c26 => ?_)
      · skip
        refine V_aload_n d_md_walkField_64 rfl rfl ?_
        refine V_iload_n d_md_walkField_65 rfl rfl ?_
        refine V_iload_n d_md_walkField_66 rfl rfl ?_
        refine V_callV (N := md_matched) d_md_walkField_67 ml_md_266 mdf_md_matched wi_md_matched wz_md_matched (sp_md_matched G r hn hl _ _) r.obj ⟨_, rfl, rfl⟩ rfl rfl (by decide) (by decide) (Nat.le_of_ble_eq_true rfl) rfl rfl (kN fun h67 ⟨u, M67, N67, K67⟩ => ?_)
        refine V_return d_md_walkField_70 rfl ?_
        refine ⟨rfl, u, M67, ?_, K67⟩
        rw [fldW, if_pos hh, cf, if_neg (fun q => c26 q.2)]
        exact N67
      · skip
        refine V_aload_n d_md_walkField_29 rfl rfl ?_
        refine V_getf d_md_walkField_30 fl_md_34 r.obj rfl ?_
        refine V_aload_n d_md_walkField_33 rfl rfl ?_
        refine V_iload_n d_md_walkField_34 rfl rfl ?_
        refine V_iload_n d_md_walkField_35 rfl rfl ?_
        refine V_callV (N := md_at) d_md_walkField_36 ml_md_152 mdf_md_at wi_md_at wz_md_at (sp_md_at G _ _ _ _) r.obj ⟨_, rfl, rfl⟩ rfl rfl (by decide) (by decide) (Nat.le_of_ble_eq_true rfl) rfl rfl (kI fun r36 h36 ⟨e36, f36⟩ => ?_)
        subst e36 f36
        refine V_mald r d_md_walkField_39 (by first | with_reducible rfl | exact ix8 _ _ | exact ix6 _ _ | assumption) rfl rfl (by show _ < 480; omega) ?_
        refine V_ldc d_md_walkField_40 kc_md_129 ?_
        refine V_icmp_eq d_md_walkField_42 (fun c42 => ?_) (fun c42 => ?_)
        · skip
          refine V_return d_md_walkField_70 rfl ?_
          refine ⟨rfl, t, Mod.rf r, ?_, KpW.rf t⟩
          rw [fldW, if_pos hh, cf, if_pos ⟨c22, c26⟩, if_pos c42, List.append_nil]
          exact hn
        · skip
          refine V_aload_n d_md_walkField_45 rfl rfl ?_
          refine V_aload_n d_md_walkField_46 rfl rfl ?_
          refine V_getf d_md_walkField_47 fl_md_34 r.obj rfl ?_
          refine V_aload_n d_md_walkField_50 rfl rfl ?_
          refine V_iload_n d_md_walkField_51 rfl rfl ?_
          refine V_iload_n d_md_walkField_52 rfl rfl ?_
          refine V_callV (N := md_at) d_md_walkField_53 ml_md_152 mdf_md_at wi_md_at wz_md_at (sp_md_at G _ _ _ _) r.obj ⟨_, rfl, rfl⟩ rfl rfl (by decide) (by decide) (Nat.le_of_ble_eq_true rfl) rfl rfl (kI fun r53 h53 ⟨e53, f53⟩ => ?_)
          subst e53 f53
          refine V_mald r d_md_walkField_56 (by first | with_reducible rfl | exact ix8 _ _ | exact ix6 _ _ | assumption) rfl rfl (by show _ < 480; omega) ?_
          refine V_iconst (v := -1) d_md_walkField_57 (by decide) ?_
          refine V_callV (N := md_matched) d_md_walkField_58 ml_md_266 mdf_md_matched wi_md_matched wz_md_matched (sp_md_matched G r hn hl _ _) r.obj ⟨_, rfl, rfl⟩ rfl rfl (by decide) (by decide) (Nat.le_of_ble_eq_true rfl) rfl rfl (kN fun h58 ⟨u, M58, N58, K58⟩ => ?_)
          refine V_goto d_md_walkField_61 ?_
          refine V_return d_md_walkField_70 rfl ?_
          refine ⟨rfl, u, M58, ?_, K58⟩
          rw [fldW, if_pos hh, cf, if_pos ⟨c22, c26⟩, if_neg c42]
          exact N58
  · skip
    refine V_return d_md_walkField_9 rfl ?_
    refine ⟨rfl, t, Mod.rf r, ?_, KpW.rf t⟩
    rw [fldW, if_neg (b01_e c6), List.append_nil]
    exact hn
def lsP (P : Nat → Int32) (m : Nat) : Nat → Nat → List Spt
  | _, 0 => []
  | a, n + 1 => (if a < m then [(P a, -1)] else []) ++ lsP P m (a + 1) n
def lsN (k n : Int32) (m : Nat) : Nat × Nat := if k = 1 then (n.toNatClampNeg, 1) else if k = 2 then (m - 1, if m = 0 then 0 else 1) else (0, m)
def lstW (s : Mem) (o f : Nat) (k n : Int32) : List Spt := if s.2 3 (8 * sh s o + f) = 2 then lsP (fun i => s.2 11 (6 * (8 * o + f) + i)) (s.2 10 (8 * o + f)).toNatClampNeg (lsN k n (s.2 10 (8 * o + f)).toNatClampNeg).1 (lsN k n (s.2 10 (8 * o + f)).toNatClampNeg).2 else []
theorem lsP_len (P : Nat → Int32) (m : Nat) : ∀ n a, (lsP P m a n).length ≤ n
  | 0, _ => by simp [lsP]
  | n + 1, a => by
    have := lsP_len P m n (a + 1)
    simp only [lsP, List.length_append]
    split <;> simp <;> omega
theorem lp_wl (G : Gk) {m : Nat} {am : Nat → Nat} {s : Mem} {h0 : Hp} (ivo : IvO s) (o f len : Nat) (ho : o < nO s) (hf : f < 8) (h6 : len ≤ 6) (k n : Int32) (T : Int32) (b : Nat) (hb : b ≤ 6) (hT : T = nI b - 1) (LL : List Spt) (post : Option Value → Hp → Prop) (K : ∀ h' u, Mod h0 m am h' u → NX LL u → KpW s u → post none h') (l6 : Option Value) : ∀ (c a : Nat) (h : Hp) (t : Mem) (L : List Spt), (a + c = b) → Mod h0 m am h t → KpW s t → NX L t → L.length + c ≤ 500 → LL = L ++ lsP (fun i => s.2 11 (6 * (8 * o + f) + i)) len a c →
    V G md_walkList post h 0 0 74 [some (.ref m), some (.int (nI o)), some (.int (nI f)), some (.int k), some (.int n), some (.int (nI len)), l6, some (.int T), some (.int (nI a))] [] := by
  have h60 := ivo.2.1
  have hTI : T.toInt = (b : Int) - 1 := by rw [hT, show (1 : Int32) = nI 1 from rfl, pk_sub_toInt (by omega) (by decide)]; rfl
  intro c
  induction c with
  | zero =>
    intro a h t L ha hM hK hN hl hLL
    have r := hM.1
    refine V_iload d_md_walkList_74 rfl ?_
    refine V_iload d_md_walkList_76 rfl ?_
    refine V_icmp_gt d_md_walkList_78 (fun c78 => ?_) (fun c78 => ?_)
    · skip
      refine V_return d_md_walkList_122 rfl ?_
      exact K _ _ hM (by rw [hLL]; simp only [lsP, List.append_nil]; exact hN) hK |> fun q => q
    · skip
      exact absurd (by rw [Int32.lt_iff_toInt_lt, hTI, nI_toInt (by omega)]; omega) c78
  | succ c ih =>
    intro a h t L ha hM hK hN hl hLL
    have r := hM.1
    refine V_iload d_md_walkList_74 rfl ?_
    refine V_iload d_md_walkList_76 rfl ?_
    refine V_icmp_gt d_md_walkList_78 (fun c78 => ?_) (fun c78 => ?_)
    · skip
      exact absurd c78 (by rw [Int32.lt_iff_toInt_lt, hTI, nI_toInt (by omega)]; omega)
    · skip
      refine V_iload d_md_walkList_81 rfl ?_
      refine V_iconst (v := 0) d_md_walkList_83 (by decide) ?_
      refine V_iload d_md_walkList_84 rfl ?_
      refine V_iconst (v := 1) d_md_walkList_86 (by decide) ?_
      refine V_isub d_md_walkList_87 ?_
      refine V_callS (N := md_in) d_md_walkList_88 ml_md_114 mdf_md_in ws_md_in (sp_md_in G _ _ _ _) rfl rfl (by decide) (by decide) (Nat.le_of_ble_eq_true rfl) rfl rfl (kI fun r88 h88 ⟨e88, f88⟩ => ?_)
      subst e88 f88
      refine V_if_eq d_md_walkList_91 (fun c91 => ?_) (fun c91 => ?_)
      · skip
        refine V_iinc (v := _) d_md_walkList_116 rfl rfl (by decide) rfl rfl ?_
        dsimp only [List.set]
        refine V_goto d_md_walkList_119 ?_
        rw [show Int32.ofInt 1 = 1 from rfl, nI_1]
        refine ih (a + 1) _ _ L (by omega) hM hK hN (by omega) ?_
        rw [hLL]
        simp only [lsP]
        rw [if_neg (fun q => b01_e c91 ?_)]
        · rfl
        · exact ⟨nI_pos' (by omega), by rw [ixm (by omega)]; exact nI_le (by omega) (by omega)⟩
      · skip
        obtain ⟨a', ha', e⟩ : ∃ i, i < len ∧ nI a = nI i := ix_of (n := len) rfl (by omega) (b01_ne c91)
        obtain rfl := nI_inj8 (by omega) (by omega) e
        refine V_aload_n d_md_walkList_94 rfl rfl ?_
        refine V_aload_n d_md_walkList_95 rfl rfl ?_
        refine V_getf d_md_walkList_96 fl_md_37 r.obj rfl ?_
        refine V_bipush (v := 6) d_md_walkList_99 (by decide) ?_
        refine V_aload_n d_md_walkList_101 rfl rfl ?_
        refine V_iload_n d_md_walkList_102 rfl rfl ?_
        refine V_iload_n d_md_walkList_103 rfl rfl ?_
        refine V_callV (N := md_at) d_md_walkList_104 ml_md_152 mdf_md_at wi_md_at wz_md_at (sp_md_at G _ _ _ _) r.obj ⟨_, rfl, rfl⟩ rfl rfl (by decide) (by decide) (Nat.le_of_ble_eq_true rfl) rfl rfl (kI fun r104 h104 ⟨e104, f104⟩ => ?_)
        subst e104 f104
        refine V_imul d_md_walkList_107 ?_
        rw [show (6 : Int32) * nI (8 * o + f) = nI (6 * (8 * o + f)) from pk_mul 6 _]
        refine V_iload d_md_walkList_108 rfl ?_
        refine V_iadd d_md_walkList_110 ?_
        rw [nI_add]
        refine V_mald r d_md_walkList_111 (by first | with_reducible rfl | exact ix8 _ _ | exact ix6 _ _ | assumption) rfl rfl (by show _ < 2880; omega) ?_
        rw [hK.2 11 (by decide) (by decide)]
        refine V_iconst (v := -1) d_md_walkList_112 (by decide) ?_
        refine V_callV (N := md_matched) d_md_walkList_113 ml_md_266 mdf_md_matched wi_md_matched wz_md_matched (sp_md_matched G r hN (by omega) _ _) r.obj ⟨_, rfl, rfl⟩ rfl rfl (by decide) (by decide) (Nat.le_of_ble_eq_true rfl) rfl rfl (kN fun h113 ⟨u, M113, N113, K113⟩ => ?_)
        refine V_iinc (v := _) d_md_walkList_116 rfl rfl (by decide) rfl rfl ?_
        dsimp only [List.set]
        refine V_goto d_md_walkList_119 ?_
        rw [show Int32.ofInt 1 = 1 from rfl, nI_1]
        refine ih (a + 1) _ u _ (by omega) (hM.trans M113) (hK.trans K113) N113 (by rw [List.length_append]; simp; omega) ?_
        rw [hLL]
        simp only [lsP]
        rw [if_pos ha', List.append_assoc]
theorem lp_wl0 (G : Gk) {m : Nat} {am : Nat → Nat} {s : Mem} {h : Hp} (r : RepM h m am s) (o f : Nat) (k n : Int32) (post : Option Value → Hp → Prop) (K : post none h) (l6 : Option Value) :
    V G md_walkList post h 0 0 74 [some (.ref m), some (.int (nI o)), some (.int (nI f)), some (.int k), some (.int n), some (.int (nI 0)), l6, some (.int (nI 0 - 1)), some (.int (nI 0 - 1))] [] := by
  refine V_iload d_md_walkList_74 rfl ?_
  refine V_iload d_md_walkList_76 rfl ?_
  refine V_icmp_gt d_md_walkList_78 (fun c78 => ?_) (fun c78 => ?_)
  · skip
    exact absurd c78 (by decide)
  · skip
    refine V_iload d_md_walkList_81 rfl ?_
    refine V_iconst (v := 0) d_md_walkList_83 (by decide) ?_
    refine V_iload d_md_walkList_84 rfl ?_
    refine V_iconst (v := 1) d_md_walkList_86 (by decide) ?_
    refine V_isub d_md_walkList_87 ?_
    refine V_callS (N := md_in) d_md_walkList_88 ml_md_114 mdf_md_in ws_md_in (sp_md_in G _ _ _ _) rfl rfl (by decide) (by decide) (Nat.le_of_ble_eq_true rfl) rfl rfl (kI fun r88 h88 ⟨e88, f88⟩ => ?_)
    subst e88 f88
    refine V_if_eq d_md_walkList_91 (fun c91 => ?_) (fun c91 => ?_)
    · skip
      refine V_iinc (v := _) d_md_walkList_116 rfl rfl (by decide) rfl rfl ?_
      dsimp only [List.set]
      refine V_goto d_md_walkList_119 ?_
      refine V_iload d_md_walkList_74 rfl ?_
      refine V_iload d_md_walkList_76 rfl ?_
      refine V_icmp_gt d_md_walkList_78 (fun c78 => ?_) (fun c78 => ?_)
      · skip
        refine V_return d_md_walkList_122 rfl ?_
        exact K
      · skip
        exact absurd (by decide) c78
    · skip
      exact absurd (b01_ne c91).1 (by decide)
theorem sp_md_walkList (G : Gk) {h : Hp} {m : Nat} {am : Nat → Nat} {t : Mem} {L : List Spt} (r : RepM h m am t) (ivs : IvS t) (ivo : IvO t) (ivv : IvV t) (hn : NX L t) (hl : L.length < 490) (o f : Nat) (ho : o < nO t) (hf : f < nf t (sh t o)) (k n : Int32) (hk : (k = 1 ∧ 0 ≤ n ∧ n ≤ 5) ∨ k = 2 ∨ k = 3) : Ct G md_walkList [.ref m, .int (nI o), .int (nI f), .int k, .int n] h (pN fun h' => ∃ u, Mod h m am h' u ∧ NX (L ++ lstW t o f k n) u ∧ KpW t u) := by
  have h10 := ivs.2.1
  have h60 := ivo.2.1
  obtain ⟨hs1, hs2⟩ := ivo.2.2 o ho
  have hf8 := (ivs.2.2.1 _ hs2).2
  refine Ct.ofL (M := md_walkList) (lv := [some (.ref m), some (.int (nI o)), some (.int (nI f)), some (.int k), some (.int n), none, none, none, none]) mdf_md_walkList rfl (Nat.le_of_ble_eq_true rfl) rfl ?_
  refine V_aload_n d_md_walkList_0 rfl rfl ?_
  refine V_getf d_md_walkList_1 fl_md_16 r.obj rfl ?_
  refine V_aload_n d_md_walkList_4 rfl rfl ?_
  refine V_iload_n d_md_walkList_5 rfl rfl ?_
  refine V_iload_n d_md_walkList_6 rfl rfl ?_
  refine V_callV (N := md_by) d_md_walkList_7 ml_md_156 mdf_md_by wi_md_by wz_md_by (sp_md_by' G r o f (sh t o) (by omega) hs1) r.obj ⟨_, rfl, rfl⟩ rfl rfl (by decide) (by decide) (Nat.le_of_ble_eq_true rfl) rfl rfl (kI fun r7 h7 ⟨e7, f7⟩ => ?_)
  subst e7 f7
  refine V_mald r d_md_walkList_10 (by first | with_reducible rfl | exact ix8 _ _ | exact ix6 _ _ | assumption) rfl rfl (by show _ < 80; omega) ?_
  refine V_iconst (v := 2) d_md_walkList_11 (by decide) ?_
  refine V_icmp_eq d_md_walkList_12 (fun c12 => ?_) (fun c12 => ?_)
  · skip
    obtain ⟨len, h6, hl10, -⟩ := (ivv o ho f hf).2 c12
    have cll := cl len (by omega)
    have ew : lstW t o f k n = lsP (fun i => t.2 11 (6 * (8 * o + f) + i)) len (lsN k n len).1 (lsN k n len).2 := by rw [lstW, if_pos c12, hl10, cll]
    refine V_aload_n d_md_walkList_16 rfl rfl ?_
    refine V_getf d_md_walkList_17 fl_md_34 r.obj rfl ?_
    refine V_aload_n d_md_walkList_20 rfl rfl ?_
    refine V_iload_n d_md_walkList_21 rfl rfl ?_
    refine V_iload_n d_md_walkList_22 rfl rfl ?_
    refine V_callV (N := md_at) d_md_walkList_23 ml_md_152 mdf_md_at wi_md_at wz_md_at (sp_md_at G _ _ _ _) r.obj ⟨_, rfl, rfl⟩ rfl rfl (by decide) (by decide) (Nat.le_of_ble_eq_true rfl) rfl rfl (kI fun r23 h23 ⟨e23, f23⟩ => ?_)
    subst e23 f23
    refine V_mald r d_md_walkList_26 (by first | with_reducible rfl | exact ix8 _ _ | exact ix6 _ _ | assumption) rfl rfl (by show _ < 480; omega) ?_
    rw [hl10]
    refine V_istore d_md_walkList_27 (by decide) rfl rfl ?_
    dsimp only [List.set]
    refine V_iload_n d_md_walkList_29 rfl rfl ?_
    refine V_iconst (v := 1) d_md_walkList_30 (by decide) ?_
    refine V_icmp_ne d_md_walkList_31 (fun c31 => ?_) (fun c31 => ?_)
    · skip
      refine V_iload_n d_md_walkList_39 rfl rfl ?_
      refine V_iconst (v := 2) d_md_walkList_40 (by decide) ?_
      refine V_icmp_ne d_md_walkList_41 (fun c41 => ?_) (fun c41 => ?_)
      · skip
        refine V_iconst (v := 0) d_md_walkList_51 (by decide) ?_
        refine V_istore d_md_walkList_52 (by decide) rfl rfl ?_
        dsimp only [List.set]
        refine V_iload_n d_md_walkList_54 rfl rfl ?_
        refine V_iconst (v := 3) d_md_walkList_55 (by decide) ?_
        refine V_icmp_ne d_md_walkList_56 (fun c56 => ?_) (fun c56 => ?_)
        · skip
          refine V_iload d_md_walkList_66 rfl ?_
          refine V_istore d_md_walkList_68 (by decide) rfl rfl ?_
          dsimp only [List.set]
          refine V_iload d_md_walkList_70 rfl ?_
          refine V_istore d_md_walkList_72 (by decide) rfl rfl ?_
          dsimp only [List.set]
          exact absurd hk (by simp [c31, c41, c56])
        · skip
          refine V_iload d_md_walkList_59 rfl ?_
          refine V_iconst (v := 1) d_md_walkList_61 (by decide) ?_
          refine V_isub d_md_walkList_62 ?_
          refine V_goto d_md_walkList_63 ?_
          refine V_istore d_md_walkList_68 (by decide) rfl rfl ?_
          dsimp only [List.set]
          refine V_iload d_md_walkList_70 rfl ?_
          refine V_istore d_md_walkList_72 (by decide) rfl rfl ?_
          dsimp only [List.set]
          rw [show lsN k n len = (0, len) by simp [lsN, c31, c41]] at ew
          exact lp_wl G ivo o f len ho (by omega) h6 k n _ len h6 rfl (L ++ lstW t o f k n) _ (fun h' u q1 q2 q3 => ⟨rfl, u, q1, q2, q3⟩) _ len 0 _ _ L (by omega) (Mod.rf r) (KpW.rf t) hn (by omega) (by rw [ew])
      · skip
        refine V_iload d_md_walkList_44 rfl ?_
        refine V_iconst (v := 1) d_md_walkList_46 (by decide) ?_
        refine V_isub d_md_walkList_47 ?_
        refine V_goto d_md_walkList_48 ?_
        refine V_istore d_md_walkList_52 (by decide) rfl rfl ?_
        dsimp only [List.set]
        refine V_iload_n d_md_walkList_54 rfl rfl ?_
        refine V_iconst (v := 3) d_md_walkList_55 (by decide) ?_
        refine V_icmp_ne d_md_walkList_56 (fun c56 => ?_) (fun c56 => ?_)
        · skip
          refine V_iload d_md_walkList_66 rfl ?_
          refine V_istore d_md_walkList_68 (by decide) rfl rfl ?_
          dsimp only [List.set]
          refine V_iload d_md_walkList_70 rfl ?_
          refine V_istore d_md_walkList_72 (by decide) rfl rfl ?_
          dsimp only [List.set]
          rcases Nat.eq_zero_or_pos len with rfl | hpos
          · (refine lp_wl0 G r o f k n _ ⟨rfl, t, Mod.rf r, ?_, KpW.rf t⟩ _; rw [ew, show lsN k n 0 = (0, 0) by simp [lsN, c31, c41], show lsP (fun i => t.2 11 (6 * (8 * o + f) + i)) 0 (0, 0).1 (0, 0).2 = [] from rfl, List.append_nil]; exact hn)
          rw [show lsN k n len = (len - 1, 1) by simp [lsN, c41]; omega] at ew
          have key := lp_wl G ivo o f len ho (by omega) h6 k n (nI len - 1) len h6 rfl (L ++ lstW t o f k n) (pN fun h' => ∃ u, Mod h m am h' u ∧ NX (L ++ lstW t o f k n) u ∧ KpW t u) (fun h' u q1 q2 q3 => ⟨rfl, u, q1, q2, q3⟩) (some (.int (nI len - 1))) 1 (len - 1) h t L (by omega) (Mod.rf r) (KpW.rf t) hn (by omega) (by rw [ew])
          rw [← ixm hpos] at key
          exact key
        · skip
          refine V_iload d_md_walkList_59 rfl ?_
          refine V_iconst (v := 1) d_md_walkList_61 (by decide) ?_
          refine V_isub d_md_walkList_62 ?_
          refine V_goto d_md_walkList_63 ?_
          refine V_istore d_md_walkList_68 (by decide) rfl rfl ?_
          dsimp only [List.set]
          refine V_iload d_md_walkList_70 rfl ?_
          refine V_istore d_md_walkList_72 (by decide) rfl rfl ?_
          dsimp only [List.set]
          exact absurd (c41.symm.trans c56) (by decide)
    · skip
      refine V_iload d_md_walkList_34 rfl ?_
      refine V_goto d_md_walkList_36 ?_
      refine V_istore d_md_walkList_52 (by decide) rfl rfl ?_
      dsimp only [List.set]
      refine V_iload_n d_md_walkList_54 rfl rfl ?_
      refine V_iconst (v := 3) d_md_walkList_55 (by decide) ?_
      refine V_icmp_ne d_md_walkList_56 (fun c56 => ?_) (fun c56 => ?_)
      · skip
        refine V_iload d_md_walkList_66 rfl ?_
        refine V_istore d_md_walkList_68 (by decide) rfl rfl ?_
        dsimp only [List.set]
        refine V_iload d_md_walkList_70 rfl ?_
        refine V_istore d_md_walkList_72 (by decide) rfl rfl ?_
        dsimp only [List.set]
        obtain ⟨j, hj, rfl⟩ : ∃ j, j ≤ 5 ∧ n = nI j := hk.elim (fun q => ixle (n := 5) (by decide) q.2) (fun q => q.elim (fun q => absurd (c31.symm.trans q) (by decide)) (fun q => absurd (c31.symm.trans q) (by decide)))
        rw [show lsN k (nI j) len = (j, 1) by simp [lsN, c31, cl j (by omega)]] at ew
        exact lp_wl G ivo o f len ho (by omega) h6 k _ _ (j + 1) (by omega) (nI_pred j).symm (L ++ lstW t o f k (nI j)) _ (fun h' u q1 q2 q3 => ⟨rfl, u, q1, q2, q3⟩) _ 1 j _ _ L (by omega) (Mod.rf r) (KpW.rf t) hn (by omega) (by rw [ew])
      · skip
        refine V_iload d_md_walkList_59 rfl ?_
        refine V_iconst (v := 1) d_md_walkList_61 (by decide) ?_
        refine V_isub d_md_walkList_62 ?_
        refine V_goto d_md_walkList_63 ?_
        refine V_istore d_md_walkList_68 (by decide) rfl rfl ?_
        dsimp only [List.set]
        refine V_iload d_md_walkList_70 rfl ?_
        refine V_istore d_md_walkList_72 (by decide) rfl rfl ?_
        dsimp only [List.set]
        exact absurd (c31.symm.trans c56) (by decide)
  · skip
    refine V_return d_md_walkList_15 rfl ?_
    refine ⟨rfl, t, Mod.rf r, ?_, KpW.rf t⟩
    rw [lstW, if_neg c12, List.append_nil]
    exact hn
