/-! valueOf, get, element -/
def sK (s : Mem) (K : Nat → Int32) : Mem := (s.1, va_up s.2 12 K)
theorem sK_sK (s : Mem) (K K2 : Nat → Int32) : sK (sK s K) K2 = sK s K2 := by
  refine Prod.ext rfl (funext fun j => ?_)
  show va_up (va_up s.2 12 K) 12 K2 j = va_up s.2 12 K2 j
  simp only [va_up]
  split <;> rfl
theorem sK_self (s : Mem) : sK s (s.2 12) = s := by
  refine Prod.ext rfl (funext fun j => ?_)
  show va_up s.2 12 (s.2 12) j = s.2 j
  simp only [va_up]
  split
  · rename_i q; rw [q]
  · rfl
theorem sK_mA (s : Mem) (K : Nat → Int32) (i : Nat) (v : Int32) : mA (sK s K) 12 i v = sK s (upd K i v) := by
  refine Prod.ext rfl (funext fun j => ?_)
  show va_up (va_up s.2 12 K) 12 (upd (va_up s.2 12 K 12) i v) j = va_up s.2 12 (upd K i v) j
  simp only [va_up]
  split <;> simp
theorem totF_K (s : Mem) (K : Nat → Int32) (y g : Nat) : ∀ n, totF (sK s K) y g n = totF s y g n
  | 0 => rfl
  | n + 1 => by
    rw [totF, totF, totF_K s K y g n]
    rfl
theorem follM_K (s : Mem) (K K2 : Nat → Int32) (o x : Nat) : follM (sK s K) o K2 x = follM s o K2 x := by
  have h := fun y g n => totF_K s K y g n
  show (if s.2 4 x = 5 then _ else if s.2 4 x = 3 then _ else if s.2 4 x = 4 then totF (sK s K) (8 * o + (s.2 5 x).toNatClampNeg) (s.2 6 x).toNatClampNeg (s.2 10 (8 * o + (s.2 5 x).toNatClampNeg)).toNatClampNeg else _) = _
  rw [h]
  rfl
/-- what is known up to field f, with K0 known ahead -/
def kn (s : Mem) (o : Nat) (K0 : Nat → Int32) : Nat → Nat → Int32
  | 0 => K0
  | f + 1 => upd (kn s o K0 f) f (if s.2 3 (8 * sh s o + f) = 3 then follM s o (kn s o K0 f) (8 * sh s o + f) else s.2 10 (8 * o + f))
def valV (s : Mem) (o j : Nat) : Int32 := kn s o (fun _ => 0) (j + 1) j
theorem follM_congr {s : Mem} (ivs : IvS s) (ivo : IvO s) (ivf : IvF s) {o j : Nat} (ho : o < nO s) (hj : j < nf s (sh s o)) (hk : s.2 3 (8 * sh s o + j) = 3) {K K2 : Nat → Int32} (h : ∀ i, i < j → K i = K2 i) : follM s o K (8 * sh s o + j) = follM s o K2 (8 * sh s o + j) := by
  have h10 := ivs.2.1
  obtain ⟨hs1, hs2⟩ := ivo.2.2 o ho
  obtain ⟨hf1, hf2⟩ := ivs.2.2.1 _ hs2
  rcases ivf _ hs2 j hj with q | ⟨q, -⟩ | ⟨-, c, f, hc5, hfj, e4, e5, hc2, -⟩
  · rw [q] at hk; exact absurd hk (by decide)
  · rcases q with q | q <;> (rw [q] at hk; exact absurd hk (by decide))
  · have cf := cl f (by omega)
    unfold follM
    simp only [e4, e5, cf, h f hfj]
    by_cases hc : c ≤ 2
    · obtain ⟨g, hg, e6, -⟩ := hc2 hc
      have cg := cl g (by omega)
      simp only [e6, cg, h g hg]
    · rcases (show c = 3 ∨ c = 4 ∨ c = 5 by omega) with rfl | rfl | rfl
      · rw [if_neg (by decide), if_pos (by decide), if_neg (by decide), if_pos (by decide)]
      · rw [if_neg (by decide), if_neg (by decide), if_pos (by decide), if_neg (by decide), if_neg (by decide), if_pos (by decide)]
      · have e55 : nI 5 = 5 := rfl
        exact (if_pos e55).trans (if_pos e55).symm
theorem kn_indep {s : Mem} (ivs : IvS s) (ivo : IvO s) (ivf : IvF s) {o : Nat} (ho : o < nO s) (K0 K1 : Nat → Int32) : ∀ f, f ≤ nf s (sh s o) → ∀ i, i < f → kn s o K0 f i = kn s o K1 f i := by
  intro f
  induction f with
  | zero => intro _ i hi; omega
  | succ f ih =>
    intro hf i hi
    have ih' := ih (by omega)
    show upd _ f _ i = upd _ f _ i
    by_cases e : i = f
    · subst e
      rw [pk_us, pk_us]
      by_cases hk : s.2 3 (8 * sh s o + i) = 3
      · rw [if_pos hk, if_pos hk]
        exact follM_congr ivs ivo ivf ho (by omega) hk ih'
      · rw [if_neg hk, if_neg hk]
    · rw [pk_un e, pk_un e]
      exact ih' i (by omega)
theorem lp_valueOf (G : Gk) {m : Nat} {am : Nat → Nat} {s : Mem} {h0 : Hp} (ivs : IvS s) (ivo : IvO s) (ivf : IvF s) (ivv : IvV s) (o j : Nat) (ho : o < nO s) (hj : j < nf s (sh s o)) (K0 : Nat → Int32) : ∀ (n f : Nat) (h : Hp) (l4 : Option Value), f ≤ j + 1 → j + 2 ≤ f + n → Mod h0 m am h (sK s (kn s o K0 f)) →
    V G md_valueOf (pI fun r h' => ∃ K, Mod h0 m am h' (sK s K) ∧ r = valV s o j) h 0 0 2 [some (.ref m), some (.int (nI o)), some (.int (nI j)), some (.int (nI f)), l4] [] := by
  have h10 := ivs.2.1
  have h60 := ivo.2.1
  obtain ⟨hs1, hs2⟩ := ivo.2.2 o ho
  obtain ⟨hf1, hf2⟩ := ivs.2.2.1 _ hs2
  intro n
  induction n with
  | zero => intro f h l4 h1 h2; exact absurd h2 (by omega)
  | succ n ih =>
    intro f h l4 hq1 hq2 hM
    have r := hM.1
    have i1 : IvS (sK s (kn s o K0 f)) := ivs
    have i2 : IvO (sK s (kn s o K0 f)) := ivo
    have i3 : IvF (sK s (kn s o K0 f)) := ivf
    have i4 : IvV (sK s (kn s o K0 f)) := ivv
    have e12 : (sK s (kn s o K0 f)).2 12 = kn s o K0 f := (va_up_self s.2 12 (kn s o K0 f) : va_up s.2 12 (kn s o K0 f) 12 = _)
    refine V_iload_n d_md_valueOf_2 rfl rfl ?_
    refine V_iload_n d_md_valueOf_3 rfl rfl ?_
    refine V_icmp_gt d_md_valueOf_4 (fun c4 => ?_) (fun c4 => ?_)
    · skip
      have hge : j < f := Nat.lt_of_not_le (fun q => absurd c4 (nI_nlt q (by omega)))
      obtain rfl : f = j + 1 := by omega
      refine V_aload_n d_md_valueOf_59 rfl rfl ?_
      refine V_getf d_md_valueOf_60 fl_md_40 r.obj rfl ?_
      refine V_iload_n d_md_valueOf_63 rfl rfl ?_
      refine V_mald r d_md_valueOf_64 (by first | with_reducible rfl | exact ix8 _ _ | exact ix6 _ _ | assumption) rfl rfl (by show _ < 8; omega) ?_
      refine V_ireturn d_md_valueOf_65 rfl ?_
      refine ⟨_, rfl, _, hM, ?_⟩
      rw [e12]
      exact kn_indep ivs ivo ivf ho _ _ (j + 1) (by omega) j (by omega)
    · skip
      have hlt : f ≤ j := Nat.not_lt.mp (fun q => c4 (nI_lt q (by omega)))
      refine V_aload_n d_md_valueOf_7 rfl rfl ?_
      refine V_iload_n d_md_valueOf_8 rfl rfl ?_
      refine V_iload_n d_md_valueOf_9 rfl rfl ?_
      refine V_callV (N := md_by) d_md_valueOf_10 ml_md_156 mdf_md_by wi_md_by wz_md_by (sp_md_by' G r o f (sh s o) (by omega) hs1) r.obj ⟨_, rfl, rfl⟩ rfl rfl (by decide) (by decide) (Nat.le_of_ble_eq_true rfl) rfl rfl (kI fun r10 h10' ⟨e10, f10⟩ => ?_)
      subst e10 f10
      refine V_istore d_md_valueOf_13 (by decide) rfl rfl ?_
      dsimp only [List.set]
      refine V_aload_n d_md_valueOf_15 rfl rfl ?_
      refine V_getf d_md_valueOf_16 fl_md_40 r.obj rfl ?_
      refine V_iload_n d_md_valueOf_19 rfl rfl ?_
      refine V_aload_n d_md_valueOf_20 rfl rfl ?_
      refine V_getf d_md_valueOf_21 fl_md_16 r.obj rfl ?_
      refine V_iload d_md_valueOf_24 rfl ?_
      refine V_mald r d_md_valueOf_26 (by first | with_reducible rfl | exact ix8 _ _ | exact ix6 _ _ | assumption) rfl rfl (by show _ < 80; omega) ?_
      refine V_iconst (v := 3) d_md_valueOf_27 (by decide) ?_
      refine V_icmp_ne d_md_valueOf_28 (fun c28 => ?_) (fun c28 => ?_)
      · skip
        refine V_aload_n d_md_valueOf_41 rfl rfl ?_
        refine V_getf d_md_valueOf_42 fl_md_34 r.obj rfl ?_
        refine V_aload_n d_md_valueOf_45 rfl rfl ?_
        refine V_iload_n d_md_valueOf_46 rfl rfl ?_
        refine V_iload_n d_md_valueOf_47 rfl rfl ?_
        refine V_callV (N := md_at) d_md_valueOf_48 ml_md_152 mdf_md_at wi_md_at wz_md_at (sp_md_at G _ _ _ _) r.obj ⟨_, rfl, rfl⟩ rfl rfl (by decide) (by decide) (Nat.le_of_ble_eq_true rfl) rfl rfl (kI fun r48 h48 ⟨e48, f48⟩ => ?_)
        subst e48 f48
        refine V_mald r d_md_valueOf_51 (by first | with_reducible rfl | exact ix8 _ _ | exact ix6 _ _ | assumption) rfl rfl (by show _ < 480; omega) ?_
        refine V_mast r d_md_valueOf_52 (by first | with_reducible rfl | exact ix8 _ _ | exact ix6 _ _ | assumption) rfl rfl (by show _ < 8; omega) (fun h52 M52 => ?_)
        have R52 := M52.1
        refine V_iinc (v := _) d_md_valueOf_53 rfl rfl (by decide) rfl rfl ?_
        dsimp only [List.set]
        refine V_goto d_md_valueOf_56 ?_
        rw [show Int32.ofInt 1 = 1 from rfl, nI_1]
        rw [sK_mA] at M52
        refine ih (f + 1) _ _ (by omega) (by omega) ?_
        have ek : kn s o K0 (f + 1) = upd (kn s o K0 f) f (s.2 10 (8 * o + f)) := by rw [kn, if_neg (show ¬ s.2 3 (8 * sh s o + f) = 3 from c28)]
        rw [ek]
        exact hM.trans M52
      · skip
        refine V_aload_n d_md_valueOf_31 rfl rfl ?_
        refine V_iload_n d_md_valueOf_32 rfl rfl ?_
        refine V_iload d_md_valueOf_33 rfl ?_
        refine V_callV (N := md_followed) d_md_valueOf_35 ml_md_166 mdf_md_followed wi_md_followed wz_md_followed (sp_md_followed G r i1 i2 i3 i4 o f ho (by show f < nf s (sh s o); omega) c28) r.obj ⟨_, rfl, rfl⟩ rfl rfl (by decide) (by decide) (Nat.le_of_ble_eq_true rfl) rfl rfl (kI fun r35 h35 ⟨e35, f35⟩ => ?_)
        subst e35 f35
        rw [e12, show sh (sK s (kn s o K0 f)) o = sh s o from rfl, follM_K]
        refine V_goto d_md_valueOf_38 ?_
        refine V_mast r d_md_valueOf_52 (by first | with_reducible rfl | exact ix8 _ _ | exact ix6 _ _ | assumption) rfl rfl (by show _ < 8; omega) (fun h52 M52 => ?_)
        have R52 := M52.1
        refine V_iinc (v := _) d_md_valueOf_53 rfl rfl (by decide) rfl rfl ?_
        dsimp only [List.set]
        refine V_goto d_md_valueOf_56 ?_
        rw [show Int32.ofInt 1 = 1 from rfl, nI_1]
        rw [sK_mA] at M52
        refine ih (f + 1) _ _ (by omega) (by omega) ?_
        have ek : kn s o K0 (f + 1) = upd (kn s o K0 f) f (follM s o (kn s o K0 f) (8 * sh s o + f)) := by rw [kn, if_pos (show s.2 3 (8 * sh s o + f) = 3 from c28)]
        rw [ek]
        exact hM.trans M52
theorem sp_md_valueOf (G : Gk) {h : Hp} {m : Nat} {am : Nat → Nat} {s : Mem} (r : RepM h m am s) (ivs : IvS s) (ivo : IvO s) (ivf : IvF s) (ivv : IvV s) (o j : Nat) (ho : o < nO s) (hj : j < nf s (sh s o)) : Ct G md_valueOf [.ref m, .int (nI o), .int (nI j)] h (pI fun r h' => ∃ K, Mod h m am h' (sK s K) ∧ r = valV s o j) := by
  refine Ct.ofL (M := md_valueOf) (lv := [some (.ref m), some (.int (nI o)), some (.int (nI j)), none, none]) mdf_md_valueOf rfl (Nat.le_of_ble_eq_true rfl) rfl ?_
  refine V_iconst (v := 0) d_md_valueOf_0 (by decide) ?_
  refine V_istore_n d_md_valueOf_1 rfl (by decide) rfl rfl ?_
  dsimp only [List.set]
  exact lp_valueOf G ivs ivo ivf ivv o j ho hj (s.2 12) (j + 2) 0 _ _ (by omega) (by omega) (by rw [kn, sK_self]; exact Mod.rf r)
noncomputable def getM (s : Mem) (v f : Int32) : Int32 := @ite _ (hasF s v f) (Classical.propDecidable _) (valV s v.toNatClampNeg f.toNatClampNeg) (-1)
theorem sp_md_get (G : Gk) {h : Hp} {m : Nat} {am : Nat → Nat} {s : Mem} (r : RepM h m am s) (ivs : IvS s) (ivo : IvO s) (ivf : IvF s) (ivv : IvV s) (v f : Int32) : Ct G md_get [.ref m, .int v, .int f] h (pI fun r h' => ∃ K, Mod h m am h' (sK s K) ∧ r = getM s v f) := by
  have h10 := ivs.2.1
  have h60 := ivo.2.1
  refine Ct.ofL (M := md_get) (lv := [some (.ref m), some (.int v), some (.int f)]) mdf_md_get rfl (Nat.le_of_ble_eq_true rfl) rfl ?_
  refine V_aload_n d_md_get_0 rfl rfl ?_
  refine V_iload_n d_md_get_1 rfl rfl ?_
  refine V_iload_n d_md_get_2 rfl rfl ?_
  refine V_callV (N := md_hasField) d_md_get_3 ml_md_169 mdf_md_hasField wi_md_hasField wz_md_hasField (sp_md_hasField G r ivs ivo _ _) r.obj ⟨_, rfl, rfl⟩ rfl rfl (by decide) (by decide) (Nat.le_of_ble_eq_true rfl) rfl rfl (kI fun r3 h3 ⟨e3, f3⟩ => ?_)
  subst e3 f3
  refine V_if_eq d_md_get_6 (fun c6 => ?_) (fun c6 => ?_)
  · skip
    refine V_iconst (v := -1) d_md_get_18 (by decide) ?_
    refine V_ireturn d_md_get_19 rfl ?_
    refine ⟨_, rfl, s.2 12, by rw [sK_self]; exact Mod.rf r, ?_⟩
    rw [getM, if_neg (b01_e c6)]
  · skip
    have hh := b01_ne c6
    obtain ⟨o, j, ho, rfl, hj, rfl⟩ := b01_ne c6
    have hf8 := (ivs.2.2.1 _ (ivo.2.2 o ho).2).2
    refine V_aload_n d_md_get_9 rfl rfl ?_
    refine V_iload_n d_md_get_10 rfl rfl ?_
    refine V_iload_n d_md_get_11 rfl rfl ?_
    refine V_callV (N := md_valueOf) d_md_get_12 ml_md_172 mdf_md_valueOf wi_md_valueOf wz_md_valueOf (sp_md_valueOf G r ivs ivo ivf ivv o j ho hj) r.obj ⟨_, rfl, rfl⟩ rfl rfl (by decide) (by decide) (Nat.le_of_ble_eq_true rfl) rfl rfl (kI fun r12 h12 ⟨K, hM, e12⟩ => ?_)
    refine V_goto d_md_get_15 ?_
    refine V_ireturn d_md_get_19 rfl ?_
    refine ⟨_, rfl, K, hM, ?_⟩
    rw [getM, if_pos hh, cl o (by omega), cl j (by omega), e12]
theorem sp_md_element (G : Gk) {h : Hp} {m : Nat} {am : Nat → Nat} {s : Mem} (r : RepM h m am s) (ivs : IvS s) (ivo : IvO s) (ivv : IvV s) (v f i : Int32) : Ct G md_element [.ref m, .int v, .int f, .int i] h
    (pI fun r h' => h = h' ∧ ((¬ isOb s v ∧ r = -2) ∨ (isOb s v ∧ ¬ (∃ o j n k, o < nO s ∧ v = nI o ∧ j < nf s (sh s o) ∧ f = nI j ∧ s.2 3 (8 * sh s o + j) = 2 ∧ s.2 10 (8 * o + j) = nI n ∧ n ≤ 6 ∧ k < n ∧ i = nI k) ∧ r = -1) ∨
      (∃ o j n k, o < nO s ∧ v = nI o ∧ j < nf s (sh s o) ∧ f = nI j ∧ s.2 3 (8 * sh s o + j) = 2 ∧ s.2 10 (8 * o + j) = nI n ∧ n ≤ 6 ∧ k < n ∧ i = nI k ∧ r = s.2 11 (6 * (8 * o + j) + k)))) := by
  have h10 := ivs.2.1
  have h60 := ivo.2.1
  refine Ct.ofL (M := md_element) (lv := [some (.ref m), some (.int v), some (.int f), some (.int i)]) mdf_md_element rfl (Nat.le_of_ble_eq_true rfl) rfl ?_
  refine V_aload_n d_md_element_0 rfl rfl ?_
  refine V_iload_n d_md_element_1 rfl rfl ?_
  refine V_callV (N := md_isObject) d_md_element_2 ml_md_149 mdf_md_isObject wi_md_isObject wz_md_isObject (sp_md_isObject G r _) r.obj ⟨_, rfl, rfl⟩ rfl rfl (by decide) (by decide) (Nat.le_of_ble_eq_true rfl) rfl rfl (kI fun r2 h2 ⟨e2, f2⟩ => ?_)
  subst e2 f2
  refine V_if_ne d_md_element_5 (fun c5 => ?_) (fun c5 => ?_)
  · skip
    refine V_aload_n d_md_element_11 rfl rfl ?_
    refine V_iload_n d_md_element_12 rfl rfl ?_
    refine V_iload_n d_md_element_13 rfl rfl ?_
    refine V_callV (N := md_hasField) d_md_element_14 ml_md_169 mdf_md_hasField wi_md_hasField wz_md_hasField (sp_md_hasField G r ivs ivo _ _) r.obj ⟨_, rfl, rfl⟩ rfl rfl (by decide) (by decide) (Nat.le_of_ble_eq_true rfl) rfl rfl (kI fun r14 h14 ⟨e14, f14⟩ => ?_)
    subst e14 f14
    refine V_if_eq d_md_element_17 (fun c17 => ?_) (fun c17 => ?_)
    · skip
      refine V_iconst (v := -1) d_md_element_75 (by decide) ?_
      refine V_ireturn d_md_element_76 rfl ?_
      refine ⟨_, rfl, rfl, Or.inr (Or.inl ⟨b01_ne c5, ?_, rfl⟩)⟩
      rintro ⟨o, j, n, k, q1, q2, q3, q4, -⟩
      exact b01_e c17 ⟨o, j, q1, q2, q3, q4⟩
    · skip
      have hob := b01_ne c5
      obtain ⟨o, j, ho, rfl, hj, rfl⟩ := b01_ne c17
      obtain ⟨hs1, hs2⟩ := ivo.2.2 o ho
      have hf8 := (ivs.2.2.1 _ hs2).2
      have hoo : IvO s ∧ o < nO s := ⟨ivo, ho⟩
      refine V_aload_n d_md_element_20 rfl rfl ?_
      refine V_getf d_md_element_21 fl_md_16 r.obj rfl ?_
      refine V_aload_n d_md_element_24 rfl rfl ?_
      refine V_iload_n d_md_element_25 rfl rfl ?_
      refine V_iload_n d_md_element_26 rfl rfl ?_
      refine V_callV (N := md_by) d_md_element_27 ml_md_156 mdf_md_by wi_md_by wz_md_by (sp_md_by G r _ _ hoo) r.obj ⟨_, rfl, rfl⟩ rfl rfl (by decide) (by decide) (Nat.le_of_ble_eq_true rfl) rfl rfl (kI fun r27 h27 ⟨e27, f27⟩ => ?_)
      subst e27 f27
      refine V_mald r d_md_element_30 (by first | with_reducible rfl | exact ix8 _ _ | exact ix6 _ _ | assumption) rfl rfl (by show _ < 80; omega) ?_
      refine V_iconst (v := 2) d_md_element_31 (by decide) ?_
      refine V_icmp_ne d_md_element_32 (fun c32 => ?_) (fun c32 => ?_)
      · skip
        refine V_iconst (v := -1) d_md_element_75 (by decide) ?_
        refine V_ireturn d_md_element_76 rfl ?_
        refine ⟨_, rfl, rfl, Or.inr (Or.inl ⟨hob, ?_, rfl⟩)⟩
        rintro ⟨o2, j2, n, k, q1, q2, q3, q4, q5, -⟩
        obtain rfl := nI_inj8 (by omega) (by omega) q2
        have hf8' := (ivs.2.2.1 _ (ivo.2.2 _ q1).2).2
        obtain rfl := nI_inj8 (by omega) (by omega) q4
        exact c32 q5
      · skip
        obtain ⟨n, hn6, hn, hpl⟩ := (ivv o ho j hj).2 c32
        refine V_iload_n d_md_element_35 rfl rfl ?_
        refine V_iconst (v := 0) d_md_element_36 (by decide) ?_
        refine V_aload_n d_md_element_37 rfl rfl ?_
        refine V_getf d_md_element_38 fl_md_34 r.obj rfl ?_
        refine V_aload_n d_md_element_41 rfl rfl ?_
        refine V_iload_n d_md_element_42 rfl rfl ?_
        refine V_iload_n d_md_element_43 rfl rfl ?_
        refine V_callV (N := md_at) d_md_element_44 ml_md_152 mdf_md_at wi_md_at wz_md_at (sp_md_at G _ _ _ _) r.obj ⟨_, rfl, rfl⟩ rfl rfl (by decide) (by decide) (Nat.le_of_ble_eq_true rfl) rfl rfl (kI fun r44 h44 ⟨e44, f44⟩ => ?_)
        subst e44 f44
        refine V_mald r d_md_element_47 (by first | with_reducible rfl | exact ix8 _ _ | exact ix6 _ _ | assumption) rfl rfl (by show _ < 480; omega) ?_
        rw [hn]
        refine V_iconst (v := 1) d_md_element_48 (by decide) ?_
        refine V_isub d_md_element_49 ?_
        refine V_callS (N := md_in) d_md_element_50 ml_md_114 mdf_md_in ws_md_in (sp_md_in G _ _ _ _) rfl rfl (by decide) (by decide) (Nat.le_of_ble_eq_true rfl) rfl rfl (kI fun r50 h50 ⟨e50, f50⟩ => ?_)
        subst e50 f50
        refine V_if_eq d_md_element_53 (fun c53 => ?_) (fun c53 => ?_)
        · skip
          refine V_iconst (v := -1) d_md_element_75 (by decide) ?_
          refine V_ireturn d_md_element_76 rfl ?_
          refine ⟨_, rfl, rfl, Or.inr (Or.inl ⟨hob, ?_, rfl⟩)⟩
          rintro ⟨o2, j2, n2, k, q1, q2, q3, q4, q5, q6, q7, q8, q9⟩
          obtain rfl := nI_inj8 (by omega) (by omega) q2
          obtain rfl := nI_inj8 (by omega) (by omega) q4
          obtain rfl := nI_inj8 (by omega) (by omega) (hn.symm.trans q6)
          exact ix_no rfl (by omega) (b01_e c53) k q8 q9
        · skip
          obtain ⟨k, hk, rfl⟩ := ix_of rfl (by omega) (b01_ne c53)
          refine V_aload_n d_md_element_56 rfl rfl ?_
          refine V_getf d_md_element_57 fl_md_37 r.obj rfl ?_
          refine V_bipush (v := 6) d_md_element_60 (by decide) ?_
          refine V_aload_n d_md_element_62 rfl rfl ?_
          refine V_iload_n d_md_element_63 rfl rfl ?_
          refine V_iload_n d_md_element_64 rfl rfl ?_
          refine V_callV (N := md_at) d_md_element_65 ml_md_152 mdf_md_at wi_md_at wz_md_at (sp_md_at G _ _ _ _) r.obj ⟨_, rfl, rfl⟩ rfl rfl (by decide) (by decide) (Nat.le_of_ble_eq_true rfl) rfl rfl (kI fun r65 h65 ⟨e65, f65⟩ => ?_)
          subst e65 f65
          refine V_imul d_md_element_68 ?_
          refine V_iload_n d_md_element_69 rfl rfl ?_
          refine V_iadd d_md_element_70 ?_
          refine V_mald r d_md_element_71 (by first | with_reducible rfl | exact ix8 _ _ | exact ix6 _ _ | assumption) rfl rfl (by show _ < 2880; omega) ?_
          refine V_goto d_md_element_72 ?_
          refine V_ireturn d_md_element_76 rfl ?_
          exact ⟨_, rfl, rfl, Or.inr (Or.inr ⟨o, j, n, k, ho, rfl, hj, rfl, c32, hn, hn6, hk, rfl, rfl⟩)⟩
  · skip
    refine V_bipush (v := -2) d_md_element_8 (by decide) ?_
    refine V_ireturn d_md_element_10 rfl ?_
    exact ⟨_, rfl, rfl, Or.inl ⟨b01_e c5, rfl⟩⟩
