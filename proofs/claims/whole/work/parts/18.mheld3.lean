/-! findHeld, isHeld, holds -/
def sAt (s : Mem) (f : Nat → Int32) : Mem := (s.1, va_up s.2 14 f)
theorem sAt_mA (s : Mem) (f : Nat → Int32) (k : Nat) (v : Int32) : mA (sAt s f) 14 k v = sAt s (upd f k v) := by
  refine Prod.ext rfl (funext fun j => ?_)
  show va_up (va_up s.2 14 f) 14 (upd (va_up s.2 14 f 14) k v) j = va_up s.2 14 (upd f k v) j
  simp only [va_up]
  split <;> simp
theorem sAt_self (s : Mem) : sAt s (s.2 14) = s := by
  refine Prod.ext rfl (funext fun j => ?_)
  show va_up s.2 14 (s.2 14) j = s.2 j
  simp only [va_up]
  split
  · rename_i q; rw [q]
  · rfl
theorem sAt_sB (s : Mem) (f : Nat → Int32) : mF (sAt s f) 15 0 = sB s (0, s.2 13, f) := by
  refine Prod.ext rfl (funext fun j => ?_)
  show va_up s.2 14 f j = va_up (va_up s.2 13 (s.2 13)) 14 f j
  simp only [va_up]
  split
  · rfl
  · split
    · rename_i q; rw [q]
    · rfl
def clr (s : Mem) (k : Nat) : Nat → Int32 := fun t => if t < k then -1 else s.2 14 t
theorem clr_s (s : Mem) (k : Nat) : upd (clr s k) k (-1) = clr s (k + 1) := by
  funext t
  simp only [upd, clr]
  by_cases e : t = k
  · rw [if_pos e, if_pos (by omega)]
  · rw [if_neg e]
    by_cases q : t < k
    · rw [if_pos q, if_pos (by omega)]
    · rw [if_neg q, if_neg (by omega)]
theorem clr_0 (s : Mem) : clr s 0 = s.2 14 := by
  funext t
  simp [clr]
def bStart (s : Mem) : Bf := (0, s.2 13, clr s (nO s))
theorem bStart_ok (s : Mem) : bOK (nO s) (bStart s) := ⟨fun k hk => absurd hk (by simp [bStart]), fun t ht => Or.inl (by simp [bStart, clr, ht])⟩
noncomputable def findB (s : Mem) (o : Nat) : Bf := bLoop s 61 0 (bAdd (bStart s) (nI o))
noncomputable def heldB (s : Mem) (o : Nat) : Bf := bLoop s 61 0 (bHeld s o (bStart s))
theorem bLoop_ok {s : Mem} (ivo : IvO s) (ivv : IvV s) : ∀ n k b, bOK (nO s) b → bOK (nO s) (bLoop s n k b)
  | 0, _, _, hb => hb
  | n + 1, k, b, hb => by
    have h60 := ivo.2.1
    rw [bLoop]
    split
    · rename_i q
      obtain ⟨t, ht, e, -⟩ := hb.1 k q
      rw [e, cl t (by omega)]
      exact bLoop_ok ivo ivv n (k + 1) _ (bFld_ok ivo ivv ht hb _ (Nat.le_refl _))
    · exact hb
theorem lp_fh1 (G : Gk) {m : Nat} {am : Nat → Nat} {s : Mem} {h0 : Hp} {post : Option Value → Hp → Prop} (ivo : IvO s) (o : Nat) (K : ∀ (h : Hp) (l2 : Option Value), Mod h0 m am h (sAt s (clr s (nO s))) → V G md_findHeld post h 0 0 23 [some (.ref m), some (.int (nI o)), l2] []) : ∀ (n k : Nat) (h : Hp), k ≤ nO s → nO s + 1 ≤ k + n → Mod h0 m am h (sAt s (clr s k)) →
    V G md_findHeld post h 0 0 2 [some (.ref m), some (.int (nI o)), some (.int (nI k))] [] := by
  have h60 := ivo.2.1
  intro n
  induction n with
  | zero => intro k h h1 h2; exact absurd h2 (by omega)
  | succ n ih =>
    intro k h hq1 hq2 hM
    have r := hM.1
    have e8 : (sAt s (clr s k)).1 8 = nI (nO s) := ivo.1
    refine V_iload_n d_md_findHeld_2 rfl rfl ?_
    refine V_aload_n d_md_findHeld_3 rfl rfl ?_
    refine V_getf d_md_findHeld_4 fl_md_122 r.obj rfl ?_
    rw [e8]
    refine V_icmp_ge d_md_findHeld_7 (fun c7 => ?_) (fun c7 => ?_)
    · skip
      obtain rfl : k = nO s := by have := geN c7 (by omega); omega
      exact K _ _ hM
    · skip
      have hlt := ltN c7 (by omega)
      refine V_aload_n d_md_findHeld_10 rfl rfl ?_
      refine V_getf d_md_findHeld_11 fl_md_46 r.obj rfl ?_
      refine V_iload_n d_md_findHeld_14 rfl rfl ?_
      refine V_iconst (v := -1) d_md_findHeld_15 (by decide) ?_
      refine V_mast r d_md_findHeld_16 (by first | with_reducible rfl | exact ix8 _ _ | exact ix6 _ _ | assumption) rfl rfl (by show _ < 60; omega) (fun h16 M16 => ?_)
      have R16 := M16.1
      refine V_iinc (v := _) d_md_findHeld_17 rfl rfl (by decide) rfl rfl ?_
      dsimp only [List.set]
      refine V_goto d_md_findHeld_20 ?_
      rw [show Int32.ofInt 1 = 1 from rfl, nI_1]
      rw [sAt_mA, clr_s] at M16
      exact ih (k + 1) _ (by omega) (by omega) (hM.trans M16)
theorem lp_fh2 (G : Gk) {m : Nat} {am : Nat → Nat} {s : Mem} {h0 : Hp} (ivs : IvS s) (ivo : IvO s) (ivv : IvV s) (o : Nat) : ∀ (n k : Nat) (h : Hp) (b : Bf), bOK (nO s) b → 61 ≤ k + n → k ≤ 61 → Mod h0 m am h (sB s b) →
    V G md_findHeld (pN fun h' => Mod h0 m am h' (sB s (bLoop s n k b))) h 0 0 35 [some (.ref m), some (.int (nI o)), some (.int (nI k))] [] := by
  have h60 := ivo.2.1
  intro n
  induction n with
  | zero =>
    intro k h b hb hq hk hM
    have r := hM.1
    have hle := hb.le (by omega)
    refine V_iload_n d_md_findHeld_35 rfl rfl ?_
    refine V_aload_n d_md_findHeld_36 rfl rfl ?_
    refine V_getf d_md_findHeld_37 fl_md_175 r.obj rfl ?_
    rw [sB_15]
    refine V_icmp_ge d_md_findHeld_40 (fun c40 => ?_) (fun c40 => ?_)
    · skip
      refine V_return d_md_findHeld_59 rfl ?_
      exact ⟨rfl, hM⟩
    · skip
      exact absurd (nI_le (show b.1 ≤ k by omega) (by omega)) c40
  | succ n ih =>
    intro k h b hb hq hk hM
    have r := hM.1
    have hle := hb.le (by omega)
    refine V_iload_n d_md_findHeld_35 rfl rfl ?_
    refine V_aload_n d_md_findHeld_36 rfl rfl ?_
    refine V_getf d_md_findHeld_37 fl_md_175 r.obj rfl ?_
    rw [sB_15]
    refine V_icmp_ge d_md_findHeld_40 (fun c40 => ?_) (fun c40 => ?_)
    · skip
      have hge := geN c40 (by omega)
      have ek : bLoop s (n + 1) k b = b := by rw [bLoop, if_neg (by omega)]
      refine V_return d_md_findHeld_59 rfl ?_
      exact ⟨rfl, by rw [ek]; exact hM⟩
    · skip
      have hlt := ltN c40 (by omega)
      obtain ⟨t, ht, et, -⟩ := hb.1 k hlt
      refine V_aload_n d_md_findHeld_43 rfl rfl ?_
      refine V_aload_n d_md_findHeld_44 rfl rfl ?_
      refine V_getf d_md_findHeld_45 fl_md_43 r.obj rfl ?_
      refine V_iload_n d_md_findHeld_48 rfl rfl ?_
      refine V_mald r d_md_findHeld_49 (by first | with_reducible rfl | exact ix8 _ _ | exact ix6 _ _ | assumption) rfl rfl (by show _ < 60; omega) ?_
      rw [sB_13, et]
      refine V_callV (N := md_comesHeld) d_md_findHeld_50 ml_md_182 mdf_md_comesHeld wi_md_comesHeld wz_md_comesHeld (sp_md_comesHeld G r ivs ivo ivv hb t ht) r.obj ⟨_, rfl, rfl⟩ rfl rfl (by decide) (by decide) (Nat.le_of_ble_eq_true rfl) rfl rfl (kN fun h50 M50 => ?_)
      refine V_iinc (v := _) d_md_findHeld_53 rfl rfl (by decide) rfl rfl ?_
      dsimp only [List.set]
      refine V_goto d_md_findHeld_56 ?_
      rw [show Int32.ofInt 1 = 1 from rfl, nI_1]
      have ek : bLoop s (n + 1) k b = bLoop s n (k + 1) (bHeld s t b) := by rw [bLoop, if_pos hlt, et, cl t (by omega)]
      rw [ek]
      exact ih (k + 1) _ _ (bFld_ok ivo ivv ht hb _ (Nat.le_refl _)) (by omega) (by omega) (hM.trans M50)
theorem tail_fh (G : Gk) {h0 h : Hp} {m : Nat} {am : Nat → Nat} {s : Mem} (ivs : IvS s) (ivo : IvO s) (ivv : IvV s) (o : Nat) (ho : o < nO s) (hM : Mod h0 m am h (sAt s (clr s (nO s)))) (l2 : Option Value) : V G md_findHeld (pN fun h' => Mod h0 m am h' (sB s (findB s o))) h 0 0 23 [some (.ref m), some (.int (nI o)), l2] [] := by
  have h60 := ivo.2.1
  have r := hM.1
  refine V_aload_n d_md_findHeld_23 rfl rfl ?_
  refine V_iconst (v := 0) d_md_findHeld_24 (by decide) ?_
  refine V_mput (j := 15) r d_md_findHeld_25 fp_md_175 rfl rfl (by decide) (fun h25 M25 => ?_)
  have R25 := M25.1
  rw [sAt_sB] at M25 R25
  refine V_aload_n d_md_findHeld_28 rfl rfl ?_
  refine V_iload_n d_md_findHeld_29 rfl rfl ?_
  refine V_callV (N := md_comes) d_md_findHeld_30 ml_md_178 mdf_md_comes wi_md_comes wz_md_comes (sp_md_comes G R25 h60 (bStart_ok s) (nI o) (Or.inr ⟨o, ho, rfl⟩)) R25.obj ⟨_, rfl, rfl⟩ rfl rfl (by decide) (by decide) (Nat.le_of_ble_eq_true rfl) rfl rfl (kN fun h30 M30 => ?_)
  refine V_iconst (v := 0) d_md_findHeld_33 (by decide) ?_
  refine V_istore_n d_md_findHeld_34 rfl (by decide) rfl rfl ?_
  dsimp only [List.set]
  exact lp_fh2 G ivs ivo ivv o 61 0 _ _ ((bStart_ok s).add (by omega) (Or.inr ⟨o, ho, rfl⟩)) (by omega) (by omega) ((hM.trans M25).trans M30)
theorem sp_md_findHeld (G : Gk) {h : Hp} {m : Nat} {am : Nat → Nat} {s : Mem} (r : RepM h m am s) (ivs : IvS s) (ivo : IvO s) (ivv : IvV s) (o : Nat) (ho : o < nO s) : Ct G md_findHeld [.ref m, .int (nI o)] h (pN fun h' => Mod h m am h' (sB s (findB s o))) := by
  have h60 := ivo.2.1
  refine Ct.ofL (M := md_findHeld) (lv := [some (.ref m), some (.int (nI o)), none]) mdf_md_findHeld rfl (Nat.le_of_ble_eq_true rfl) rfl ?_
  refine V_iconst (v := 0) d_md_findHeld_0 (by decide) ?_
  refine V_istore_n d_md_findHeld_1 rfl (by decide) rfl rfl ?_
  dsimp only [List.set]
  refine lp_fh1 G (h0 := h) ivo o (fun h1 l2 M1 => ?_) (nO s + 1) 0 _ (by omega) (by omega) (by rw [clr_0, sAt_self]; exact Mod.rf r)
  have r1 := M1.1
  exact tail_fh G ivs ivo ivv o ho M1 l2
theorem lp_ih1 (G : Gk) {m : Nat} {am : Nat → Nat} {s : Mem} {h0 : Hp} {post : Option Value → Hp → Prop} (ivo : IvO s) (o u : Nat) (K : ∀ (h : Hp) (l2 : Option Value), Mod h0 m am h (sAt s (clr s (nO s))) → V G md_isHeld post h 0 0 23 [some (.ref m), some (.int (nI o)), some (.int (nI u)), l2] []) : ∀ (n k : Nat) (h : Hp), k ≤ nO s → nO s + 1 ≤ k + n → Mod h0 m am h (sAt s (clr s k)) →
    V G md_isHeld post h 0 0 2 [some (.ref m), some (.int (nI o)), some (.int (nI u)), some (.int (nI k))] [] := by
  have h60 := ivo.2.1
  intro n
  induction n with
  | zero => intro k h h1 h2; exact absurd h2 (by omega)
  | succ n ih =>
    intro k h hq1 hq2 hM
    have r := hM.1
    have e8 : (sAt s (clr s k)).1 8 = nI (nO s) := ivo.1
    refine V_iload_n d_md_isHeld_2 rfl rfl ?_
    refine V_aload_n d_md_isHeld_3 rfl rfl ?_
    refine V_getf d_md_isHeld_4 fl_md_122 r.obj rfl ?_
    rw [e8]
    refine V_icmp_ge d_md_isHeld_7 (fun c7 => ?_) (fun c7 => ?_)
    · skip
      obtain rfl : k = nO s := by have := geN c7 (by omega); omega
      exact K _ _ hM
    · skip
      have hlt := ltN c7 (by omega)
      refine V_aload_n d_md_isHeld_10 rfl rfl ?_
      refine V_getf d_md_isHeld_11 fl_md_46 r.obj rfl ?_
      refine V_iload_n d_md_isHeld_14 rfl rfl ?_
      refine V_iconst (v := -1) d_md_isHeld_15 (by decide) ?_
      refine V_mast r d_md_isHeld_16 (by first | with_reducible rfl | exact ix8 _ _ | exact ix6 _ _ | assumption) rfl rfl (by show _ < 60; omega) (fun h16 M16 => ?_)
      have R16 := M16.1
      refine V_iinc (v := _) d_md_isHeld_17 rfl rfl (by decide) rfl rfl ?_
      dsimp only [List.set]
      refine V_goto d_md_isHeld_20 ?_
      rw [show Int32.ofInt 1 = 1 from rfl, nI_1]
      rw [sAt_mA, clr_s] at M16
      exact ih (k + 1) _ (by omega) (by omega) (hM.trans M16)
theorem lp_ih2 (G : Gk) {m : Nat} {am : Nat → Nat} {s : Mem} {h0 : Hp} (ivs : IvS s) (ivo : IvO s) (ivv : IvV s) (o u : Nat) (hu : u < nO s) : ∀ (n k : Nat) (h : Hp) (b : Bf), bOK (nO s) b → 61 ≤ k + n → k ≤ 61 → Mod h0 m am h (sB s b) →
    V G md_isHeld (pI fun r h' => Mod h0 m am h' (sB s (bLoop s n k b)) ∧ r = b01 ((bLoop s n k b).2.2 u ≠ -1)) h 0 0 35 [some (.ref m), some (.int (nI o)), some (.int (nI u)), some (.int (nI k))] [] := by
  have h60 := ivo.2.1
  intro n
  induction n with
  | zero =>
    intro k h b hb hq hk hM
    have r := hM.1
    have hle := hb.le (by omega)
    refine V_iload_n d_md_isHeld_35 rfl rfl ?_
    refine V_aload_n d_md_isHeld_36 rfl rfl ?_
    refine V_getf d_md_isHeld_37 fl_md_175 r.obj rfl ?_
    rw [sB_15]
    refine V_icmp_ge d_md_isHeld_40 (fun c40 => ?_) (fun c40 => ?_)
    · skip
      refine V_aload_n d_md_isHeld_59 rfl rfl ?_
      refine V_getf d_md_isHeld_60 fl_md_46 r.obj rfl ?_
      refine V_iload_n d_md_isHeld_63 rfl rfl ?_
      refine V_mald r d_md_isHeld_64 (by first | with_reducible rfl | exact ix8 _ _ | exact ix6 _ _ | assumption) rfl rfl (by show _ < 60; omega) ?_
      rw [sB_14]
      refine V_iconst (v := -1) d_md_isHeld_65 (by decide) ?_
      refine V_icmp_eq d_md_isHeld_66 (fun c66 => ?_) (fun c66 => ?_)
      · skip
        refine V_iconst (v := 0) d_md_isHeld_73 (by decide) ?_
        refine V_zreturn d_md_isHeld_74 rfl (by first | exact Or.inl rfl | exact Or.inr rfl) ?_
        exact ⟨_, rfl, hM, (b01_f (fun q => q c66)).symm⟩
      · skip
        refine V_iconst (v := 1) d_md_isHeld_69 (by decide) ?_
        refine V_goto d_md_isHeld_70 ?_
        refine V_zreturn d_md_isHeld_74 rfl (by first | exact Or.inl rfl | exact Or.inr rfl) ?_
        exact ⟨_, rfl, hM, (b01_t c66).symm⟩
    · skip
      exact absurd (nI_le (show b.1 ≤ k by omega) (by omega)) c40
  | succ n ih =>
    intro k h b hb hq hk hM
    have r := hM.1
    have hle := hb.le (by omega)
    refine V_iload_n d_md_isHeld_35 rfl rfl ?_
    refine V_aload_n d_md_isHeld_36 rfl rfl ?_
    refine V_getf d_md_isHeld_37 fl_md_175 r.obj rfl ?_
    rw [sB_15]
    refine V_icmp_ge d_md_isHeld_40 (fun c40 => ?_) (fun c40 => ?_)
    · skip
      have hge := geN c40 (by omega)
      have ek : bLoop s (n + 1) k b = b := by rw [bLoop, if_neg (by omega)]
      refine V_aload_n d_md_isHeld_59 rfl rfl ?_
      refine V_getf d_md_isHeld_60 fl_md_46 r.obj rfl ?_
      refine V_iload_n d_md_isHeld_63 rfl rfl ?_
      refine V_mald r d_md_isHeld_64 (by first | with_reducible rfl | exact ix8 _ _ | exact ix6 _ _ | assumption) rfl rfl (by show _ < 60; omega) ?_
      rw [sB_14]
      refine V_iconst (v := -1) d_md_isHeld_65 (by decide) ?_
      refine V_icmp_eq d_md_isHeld_66 (fun c66 => ?_) (fun c66 => ?_)
      · skip
        refine V_iconst (v := 0) d_md_isHeld_73 (by decide) ?_
        refine V_zreturn d_md_isHeld_74 rfl (by first | exact Or.inl rfl | exact Or.inr rfl) ?_
        exact ⟨_, rfl, by rw [ek]; exact hM, by rw [ek]; exact (b01_f (fun q => q c66)).symm⟩
      · skip
        refine V_iconst (v := 1) d_md_isHeld_69 (by decide) ?_
        refine V_goto d_md_isHeld_70 ?_
        refine V_zreturn d_md_isHeld_74 rfl (by first | exact Or.inl rfl | exact Or.inr rfl) ?_
        exact ⟨_, rfl, by rw [ek]; exact hM, by rw [ek]; exact (b01_t c66).symm⟩
    · skip
      have hlt := ltN c40 (by omega)
      obtain ⟨t, ht, et, -⟩ := hb.1 k hlt
      refine V_aload_n d_md_isHeld_43 rfl rfl ?_
      refine V_aload_n d_md_isHeld_44 rfl rfl ?_
      refine V_getf d_md_isHeld_45 fl_md_43 r.obj rfl ?_
      refine V_iload_n d_md_isHeld_48 rfl rfl ?_
      refine V_mald r d_md_isHeld_49 (by first | with_reducible rfl | exact ix8 _ _ | exact ix6 _ _ | assumption) rfl rfl (by show _ < 60; omega) ?_
      rw [sB_13, et]
      refine V_callV (N := md_comesHeld) d_md_isHeld_50 ml_md_182 mdf_md_comesHeld wi_md_comesHeld wz_md_comesHeld (sp_md_comesHeld G r ivs ivo ivv hb t ht) r.obj ⟨_, rfl, rfl⟩ rfl rfl (by decide) (by decide) (Nat.le_of_ble_eq_true rfl) rfl rfl (kN fun h50 M50 => ?_)
      refine V_iinc (v := _) d_md_isHeld_53 rfl rfl (by decide) rfl rfl ?_
      dsimp only [List.set]
      refine V_goto d_md_isHeld_56 ?_
      rw [show Int32.ofInt 1 = 1 from rfl, nI_1]
      have ek : bLoop s (n + 1) k b = bLoop s n (k + 1) (bHeld s t b) := by rw [bLoop, if_pos hlt, et, cl t (by omega)]
      rw [ek]
      exact ih (k + 1) _ _ (bFld_ok ivo ivv ht hb _ (Nat.le_refl _)) (by omega) (by omega) (hM.trans M50)
theorem tail_ih (G : Gk) {h0 h : Hp} {m : Nat} {am : Nat → Nat} {s : Mem} (ivs : IvS s) (ivo : IvO s) (ivv : IvV s) (o u : Nat) (ho : o < nO s) (hu : u < nO s) (hM : Mod h0 m am h (sAt s (clr s (nO s)))) (l2 : Option Value) : V G md_isHeld (pI fun r h' => Mod h0 m am h' (sB s (heldB s o)) ∧ r = b01 ((heldB s o).2.2 u ≠ -1)) h 0 0 23 [some (.ref m), some (.int (nI o)), some (.int (nI u)), l2] [] := by
  have h60 := ivo.2.1
  have r := hM.1
  refine V_aload_n d_md_isHeld_23 rfl rfl ?_
  refine V_iconst (v := 0) d_md_isHeld_24 (by decide) ?_
  refine V_mput (j := 15) r d_md_isHeld_25 fp_md_175 rfl rfl (by decide) (fun h25 M25 => ?_)
  have R25 := M25.1
  rw [sAt_sB] at M25 R25
  refine V_aload_n d_md_isHeld_28 rfl rfl ?_
  refine V_iload_n d_md_isHeld_29 rfl rfl ?_
  refine V_callV (N := md_comesHeld) d_md_isHeld_30 ml_md_182 mdf_md_comesHeld wi_md_comesHeld wz_md_comesHeld (sp_md_comesHeld G R25 ivs ivo ivv (bStart_ok s) o ho) R25.obj ⟨_, rfl, rfl⟩ rfl rfl (by decide) (by decide) (Nat.le_of_ble_eq_true rfl) rfl rfl (kN fun h30 M30 => ?_)
  refine V_iconst (v := 0) d_md_isHeld_33 (by decide) ?_
  refine V_istore_n d_md_isHeld_34 rfl (by decide) rfl rfl ?_
  dsimp only [List.set]
  exact lp_ih2 G ivs ivo ivv o u hu 61 0 _ _ (bFld_ok ivo ivv ho (bStart_ok s) _ (Nat.le_refl _)) (by omega) (by omega) ((hM.trans M25).trans M30)
theorem sp_md_isHeld (G : Gk) {h : Hp} {m : Nat} {am : Nat → Nat} {s : Mem} (r : RepM h m am s) (ivs : IvS s) (ivo : IvO s) (ivv : IvV s) (o u : Nat) (ho : o < nO s) (hu : u < nO s) : Ct G md_isHeld [.ref m, .int (nI o), .int (nI u)] h (pI fun r h' => Mod h m am h' (sB s (heldB s o)) ∧ r = b01 ((heldB s o).2.2 u ≠ -1)) := by
  refine Ct.ofL (M := md_isHeld) (lv := [some (.ref m), some (.int (nI o)), some (.int (nI u)), none]) mdf_md_isHeld rfl (Nat.le_of_ble_eq_true rfl) rfl ?_
  refine V_iconst (v := 0) d_md_isHeld_0 (by decide) ?_
  refine V_istore_n d_md_isHeld_1 rfl (by decide) rfl rfl ?_
  dsimp only [List.set]
  refine lp_ih1 G (h0 := h) ivo o u (fun h1 l2 M1 => ?_) (nO s + 1) 0 _ (by omega) (by omega) (by rw [clr_0, sAt_self]; exact Mod.rf r)
  exact tail_ih G ivs ivo ivv o u ho hu M1 l2
theorem sp_md_holds (G : Gk) {h : Hp} {m : Nat} {am : Nat → Nat} {s : Mem} (r : RepM h m am s) (ivs : IvS s) (ivo : IvO s) (ivv : IvV s) (v w : Int32) : Ct G md_holds [.ref m, .int v, .int w] h
    (pI fun r h' => ((¬ isOb s v ∨ ¬ isOb s w) ∧ h = h' ∧ r = -2) ∨ ∃ o u, o < nO s ∧ u < nO s ∧ v = nI o ∧ w = nI u ∧ Mod h m am h' (sB s (heldB s o)) ∧ r = b01 ((heldB s o).2.2 u ≠ -1)) := by
  refine Ct.ofL (M := md_holds) (lv := [some (.ref m), some (.int v), some (.int w)]) mdf_md_holds rfl (Nat.le_of_ble_eq_true rfl) rfl ?_
  refine V_aload_n d_md_holds_0 rfl rfl ?_
  refine V_iload_n d_md_holds_1 rfl rfl ?_
  refine V_callV (N := md_isObject) d_md_holds_2 ml_md_149 mdf_md_isObject wi_md_isObject wz_md_isObject (sp_md_isObject G r _) r.obj ⟨_, rfl, rfl⟩ rfl rfl (by decide) (by decide) (Nat.le_of_ble_eq_true rfl) rfl rfl (kI fun r2 h2 ⟨e2, f2⟩ => ?_)
  subst e2 f2
  refine V_if_eq d_md_holds_5 (fun c5 => ?_) (fun c5 => ?_)
  · skip
    refine V_bipush (v := -2) d_md_holds_16 (by decide) ?_
    refine V_goto d_md_holds_18 ?_
    refine V_ireturn d_md_holds_35 rfl ?_
    exact ⟨_, rfl, Or.inl ⟨Or.inl (b01_e c5), rfl, rfl⟩⟩
  · skip
    refine V_aload_n d_md_holds_8 rfl rfl ?_
    refine V_iload_n d_md_holds_9 rfl rfl ?_
    refine V_callV (N := md_isObject) d_md_holds_10 ml_md_149 mdf_md_isObject wi_md_isObject wz_md_isObject (sp_md_isObject G r _) r.obj ⟨_, rfl, rfl⟩ rfl rfl (by decide) (by decide) (Nat.le_of_ble_eq_true rfl) rfl rfl (kI fun r10 h10 ⟨e10, f10⟩ => ?_)
    subst e10 f10
    refine V_if_ne d_md_holds_13 (fun c13 => ?_) (fun c13 => ?_)
    · skip
      obtain ⟨o, ho, rfl⟩ := isOb.ix ivo (b01_ne c5)
      obtain ⟨u, hu, rfl⟩ := isOb.ix ivo (b01_ne c13)
      refine V_aload_n d_md_holds_21 rfl rfl ?_
      refine V_iload_n d_md_holds_22 rfl rfl ?_
      refine V_iload_n d_md_holds_23 rfl rfl ?_
      refine V_callV (N := md_isHeld) d_md_holds_24 ml_md_185 mdf_md_isHeld wi_md_isHeld wz_md_isHeld (sp_md_isHeld G r ivs ivo ivv o u ho hu) r.obj ⟨_, rfl, rfl⟩ rfl rfl (by decide) (by decide) (Nat.le_of_ble_eq_true rfl) rfl rfl (kI fun r24 h24 ⟨M24, e24⟩ => ?_)
      subst e24
      refine V_if_eq d_md_holds_27 (fun c27 => ?_) (fun c27 => ?_)
      · skip
        refine V_iconst (v := 0) d_md_holds_34 (by decide) ?_
        refine V_ireturn d_md_holds_35 rfl ?_
        exact ⟨_, rfl, Or.inr ⟨o, u, ho, hu, rfl, rfl, M24, c27.symm⟩⟩
      · skip
        refine V_iconst (v := 1) d_md_holds_30 (by decide) ?_
        refine V_goto d_md_holds_31 ?_
        refine V_ireturn d_md_holds_35 rfl ?_
        exact ⟨_, rfl, Or.inr ⟨o, u, ho, hu, rfl, rfl, M24, (b01_t (b01_ne c27)).symm⟩⟩
    · skip
      refine V_bipush (v := -2) d_md_holds_16 (by decide) ?_
      refine V_goto d_md_holds_18 ?_
      refine V_ireturn d_md_holds_35 rfl ?_
      exact ⟨_, rfl, Or.inl ⟨Or.inr (b01_e c13), rfl, rfl⟩⟩
