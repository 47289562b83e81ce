/-! alike of the reference: the whole -/
def Alk (s : Mem) (o u : Nat) : Prop := ∃ R : Nat → Nat → Prop, R o u ∧ ∀ a b, R a b → a ≠ b → likeP s a b ∧ ∀ p, p ∈ prsF s a b (nf s (sh s a)) → R p.1 p.2
theorem aJ_sub {L : List Pr2} {p x : Pr2} (h : x ∈ aJ L p) : x ∈ L ∨ (x = p ∧ p.1 ≠ p.2) := by
  unfold aJ at h
  split at h
  · exact Or.inl h
  · next q =>
    rcases List.mem_append.mp h with z | z
    · exact Or.inl z
    · exact Or.inr ⟨List.mem_singleton.mp z, fun e => q (Or.inl e)⟩
theorem aJ_pre {L : List Pr2} {p x : Pr2} {k : Nat} (h : L[k]? = some x) : (aJ L p)[k]? = some x := by
  unfold aJ
  split
  · exact h
  · rw [List.getElem?_append_left (List.getElem?_eq_some_iff.mp h).1]; exact h
theorem aJ_cov (L : List Pr2) (p : Pr2) : p.1 = p.2 ∨ p ∈ aJ L p := by
  unfold aJ
  split
  · next q => exact q
  · exact Or.inr (List.mem_append_right _ (List.mem_singleton.mpr rfl))
theorem fJ_sub : ∀ (ps : List Pr2) {L : List Pr2} {x : Pr2}, x ∈ ps.foldl aJ L → x ∈ L ∨ (x ∈ ps ∧ x.1 ≠ x.2)
  | [], _, _, h => Or.inl h
  | p :: ps, L, x, h => by
    rcases fJ_sub ps h with z | ⟨z1, z2⟩
    · rcases aJ_sub z with y | ⟨rfl, y⟩
      · exact Or.inl y
      · exact Or.inr ⟨List.mem_cons_self .., y⟩
    · exact Or.inr ⟨List.mem_cons_of_mem _ z1, z2⟩
theorem fJ_pre : ∀ (ps : List Pr2) {L : List Pr2} {x : Pr2} {k : Nat}, L[k]? = some x → (ps.foldl aJ L)[k]? = some x
  | [], _, _, _, h => h
  | _ :: ps, _, _, _, h => fJ_pre ps (aJ_pre h)
theorem fJ_mem (ps : List Pr2) {L : List Pr2} {x : Pr2} (h : x ∈ L) : x ∈ ps.foldl aJ L := by
  obtain ⟨k, hk⟩ := List.mem_iff_getElem?.mp h
  exact List.mem_of_getElem? (fJ_pre ps hk)
theorem fJ_cov : ∀ (ps : List Pr2) (L : List Pr2) {p : Pr2}, p ∈ ps → p.1 = p.2 ∨ p ∈ ps.foldl aJ L
  | q :: ps, L, p, h => by
    rcases List.mem_cons.mp h with rfl | z
    · exact (aJ_cov L p).imp id (fun y => fJ_mem ps y)
    · exact fJ_cov ps (aJ L q) z
theorem prsF_ok {s : Mem} (ivs : IvS s) (ivo : IvO s) (ivv : IvV s) {a b : Nat} (ha : a < nO s) (hb : b < nO s) (hl : likeP s a b) {p : Pr2} : ∀ n, n ≤ nf s (sh s a) → p ∈ prsF s a b n → p.1 < nO s ∧ p.2 < nO s
  | 0, _, h => by simp [prsF] at h
  | f + 1, hn, h => by
    have h60 := ivo.2.1
    have eab : sh s b = sh s a := by unfold sh; rw [hl.1]
    rcases List.mem_append.mp h with z | z
    · exact prsF_ok ivs ivo ivv ha hb hl f (by omega) z
    · have voa := ivv a ha f (by omega)
      have vob := ivv b hb f (by rw [eab]; omega)
      rw [VOK, eab] at vob
      have hk := hl.2 f (by omega)
      unfold fldK at hk
      unfold fldP at z
      split at z
      · next h1 =>
        rw [if_pos h1] at hk
        split at z
        · simp at z
        · next hm =>
          obtain rfl := List.mem_singleton.mp z
          obtain ⟨x, hx, ex⟩ := (voa.1 h1).resolve_left hm
          obtain ⟨y, hy, ey⟩ := (vob.1 h1).resolve_left (fun q => hm (hk.mpr q))
          simp only [ex, ey, cl x (by omega), cl y (by omega)]
          exact ⟨hx, hy⟩
      · next h1 =>
        rw [if_neg h1] at hk
        split at z
        · next h2 =>
          rw [h2] at hk
          have e := hk.resolve_left (by decide)
          obtain ⟨len, h6, hl, hpa⟩ := voa.2 h2
          obtain ⟨len2, h62, hl2, hpb⟩ := vob.2 h2
          rw [hl, hl2] at e
          obtain rfl := nI_inj8 (by omega) (by omega) e
          rw [hl, cl len (by omega)] at z
          obtain ⟨i, hi, rfl⟩ := List.mem_map.mp z
          rw [List.mem_range] at hi
          obtain ⟨x, hx, ex⟩ := hpa i hi
          obtain ⟨y, hy, ey⟩ := hpb i hi
          simp only [ex, ey, cl x (by omega), cl y (by omega)]
          exact ⟨hx, hy⟩
        · simp at z
/-- the loop's invariant -/
def AI (s : Mem) (o u : Nat) (k : Nat) (L : List Pr2) : Prop := (o = u ∨ (o, u) ∈ L) ∧ (∀ x, x ∈ L → x.1 < nO s ∧ x.2 < nO s ∧ x.1 ≠ x.2) ∧ (∀ R : Nat → Nat → Prop, R o u → (∀ a b, R a b → a ≠ b → likeP s a b ∧ ∀ p, p ∈ prsF s a b (nf s (sh s a)) → R p.1 p.2) → ∀ x, x ∈ L → R x.1 x.2) ∧ ∀ (i : Nat) (x : Pr2), i < k → L[i]? = some x → likeP s x.1 x.2 ∧ ∀ p, p ∈ prsF s x.1 x.2 (nf s (sh s x.1)) → p.1 = p.2 ∨ p ∈ L
theorem AI.fin {s : Mem} {o u k : Nat} {L : List Pr2} (h : AI s o u k L) (hk : L.length ≤ k) : Alk s o u := by
  refine ⟨fun a b => a = b ∨ (a, b) ∈ L, h.1, fun a b hab hne => ?_⟩
  have hm := hab.resolve_left hne
  obtain ⟨i, hi⟩ := List.mem_iff_getElem?.mp hm
  have := h.2.2.2 i (a, b) (by have := (List.getElem?_eq_some_iff.mp hi).1; omega) hi
  exact this
theorem AI.no {s : Mem} {o u k : Nat} {L : List Pr2} (h : AI s o u k L) {x : Pr2} (hx : x ∈ L) (hn : ¬ likeP s x.1 x.2) : ¬ Alk s o u := by
  rintro ⟨R, h1, h2⟩
  exact hn (h2 _ _ (h.2.2.1 R h1 h2 x hx) (h.2.1 x hx).2.2).1
theorem AI.step {s : Mem} (ivs : IvS s) (ivo : IvO s) (ivv : IvV s) {o u k : Nat} {L : List Pr2} (h : AI s o u k L) {x : Pr2} (hx : L[k]? = some x) (hl : likeP s x.1 x.2) : AI s o u (k + 1) ((prsF s x.1 x.2 (nf s (sh s x.1))).foldl aJ L) := by
  have hm := List.mem_of_getElem? hx
  obtain ⟨b1, b2, b3⟩ := h.2.1 x hm
  refine ⟨h.1.imp id (fun z => fJ_mem _ z), fun y hy => ?_, fun R h1 h2 y hy => ?_, fun i y hi hy => ?_⟩
  · rcases fJ_sub _ hy with z | ⟨z1, z2⟩
    · exact h.2.1 y z
    · have := prsF_ok ivs ivo ivv b1 b2 hl _ (Nat.le_refl _) z1
      exact ⟨this.1, this.2, z2⟩
  · rcases fJ_sub _ hy with z | ⟨z1, z2⟩
    · exact h.2.2.1 R h1 h2 y z
    · exact (h2 _ _ (h.2.2.1 R h1 h2 x hm) b3).2 y z1
  · rcases Nat.lt_succ_iff_lt_or_eq.mp hi with z | rfl
    · have hlt : i < L.length := by have := (List.getElem?_eq_some_iff.mp hx).1; omega
      have e : L[i]? = some y := by
        have e1 := fJ_pre (prsF s x.1 x.2 (nf s (sh s x.1))) (List.getElem?_eq_getElem hlt)
        rw [hy] at e1
        rw [List.getElem?_eq_getElem hlt]
        exact e1.symm
      obtain ⟨g1, g2⟩ := h.2.2.2 i y z e
      exact ⟨g1, fun p hp => (g2 p hp).imp id (fun w => fJ_mem _ w)⟩
    · have e1 := fJ_pre (prsF s x.1 x.2 (nf s (sh s x.1))) hx
      rw [hy] at e1
      cases e1
      exact ⟨hl, fun p hp => fJ_cov _ _ hp⟩
theorem AI.start {s : Mem} {o u : Nat} (ho : o < nO s) (hu : u < nO s) : AI s o u 0 (aJ [] (o, u)) := by
  refine ⟨aJ_cov [] (o, u), fun x hx => ?_, fun R h1 h2 x hx => ?_, fun i x hi => by omega⟩
  · rcases aJ_sub hx with z | ⟨rfl, z⟩
    · simp at z
    · exact ⟨ho, hu, z⟩
  · rcases aJ_sub hx with z | ⟨rfl, z⟩
    · simp at z
    · exact h1
theorem lp_al1 (G : Gk) {m : Nat} {am : Nat → Nat} {h0 : Hp} {s : Mem} (v w : Int32) (post : Option Value → Hp → Prop) (K : ∀ h t l3, Mod h0 m am h t → Sc s t → (∀ i, i < 3600 → t.2 44 i = 0) → V G md_alike post h 0 0 41 [some (.ref m), some (.int v), some (.int w), l3] []) : ∀ (c k : Nat) (h : Hp) (t : Mem), k + c = 3600 → Mod h0 m am h t → Sc s t → (∀ i, i < k → t.2 44 i = 0) →
    V G md_alike post h 0 0 21 [some (.ref m), some (.int v), some (.int w), some (.int (nI k))] [] := by
  intro c
  induction c with
  | zero =>
    intro k h t hk hM hS hZ
    have r := hM.1
    refine V_iload_n d_md_alike_21 rfl rfl ?_
    refine V_sipush (v := 3600) d_md_alike_22 (by decide) ?_
    refine V_icmp_ge d_md_alike_25 (fun c25 => ?_) (fun c25 => ?_)
    · skip
      obtain rfl : k = 3600 := by omega
      exact K _ _ _ hM hS hZ
    · skip
      exact absurd (ltN (b := 3600) c25 (by omega)) (by omega)
  | succ c ih =>
    intro k h t hk hM hS hZ
    have r := hM.1
    refine V_iload_n d_md_alike_21 rfl rfl ?_
    refine V_sipush (v := 3600) d_md_alike_22 (by decide) ?_
    refine V_icmp_ge d_md_alike_25 (fun c25 => ?_) (fun c25 => ?_)
    · skip
      exact absurd (geN (b := 3600) c25 (by decide)) (by omega)
    · skip
      refine V_aload_n d_md_alike_28 rfl rfl ?_
      refine V_getf d_md_alike_29 fl_md_107 r.obj rfl ?_
      refine V_iload_n d_md_alike_32 rfl rfl ?_
      refine V_iconst (v := 0) d_md_alike_33 (by decide) ?_
      refine V_mbst r d_md_alike_34 (by first | with_reducible rfl | exact ix8 _ _ | exact ix6 _ _ | assumption) rfl rfl (by show _ < 3600; omega) rfl (fun h34 M34 => ?_)
      have R34 := M34.1
      refine V_iinc (v := _) d_md_alike_35 rfl rfl (by decide) rfl rfl ?_
      dsimp only [List.set]
      refine V_goto d_md_alike_38 ?_
      rw [show Int32.ofInt 1 = 1 from rfl, nI_1]
      refine ih (k + 1) _ _ (by omega) (hM.trans M34) (hS.trans ⟨fun q _ => rfl, fun q hq => mA_2n _ _ _ (by rintro rfl; exact absurd hq (by decide))⟩) (fun i hi => ?_)
      rw [mA_2s]
      exact (Nat.lt_succ_iff_lt_or_eq.mp hi).elim (fun q => by rw [pk_un (by omega)]; exact hZ i q) (fun q => by subst q; rw [pk_us])
theorem fJ_len (ps : List Pr2) (L : List Pr2) : L.length ≤ (ps.foldl aJ L).length := by
  rcases Nat.eq_zero_or_pos L.length with q | q
  · omega
  · have e := fJ_pre ps (List.getElem?_eq_getElem (l := L) (i := L.length - 1) (by omega))
    have := (List.getElem?_eq_some_iff.mp e).1
    omega
theorem lp_al2 (G : Gk) {m : Nat} {am : Nat → Nat} {h0 : Hp} {s : Mem} (ivs : IvS s) (ivo : IvO s) (ivv : IvV s) (o u : Nat) : ∀ (c k : Nat) (h : Hp) (t : Mem) (L : List Pr2), 3601 ≤ k + c → k ≤ L.length → Mod h0 m am h t → Sc s t → PR L t → AI s o u k L →
    V G md_alike (pI fun r h' => r = b01 (Alk s o u) ∧ ∃ t, Mod h0 m am h' t ∧ Sc s t) h 0 0 54 [some (.ref m), some (.int (nI o)), some (.int (nI u)), some (.int (nI k))] [] := by
  have h60 := ivo.2.1
  intro c
  induction c with
  | zero =>
    intro k h t L hk hkl hM hS hP hA
    exact absurd hP.1.le (by omega)
  | succ c ih =>
    intro k h t L hk hkl hM hS hP hA
    have r := hM.1
    have hle := hP.1.le
    refine V_iload_n d_md_alike_54 rfl rfl ?_
    refine V_aload_n d_md_alike_55 rfl rfl ?_
    refine V_getf d_md_alike_56 fl_md_289 r.obj rfl ?_
    rw [hP.2.1]
    refine V_icmp_ge d_md_alike_59 (fun c59 => ?_) (fun c59 => ?_)
    · skip
      refine V_iconst (v := 1) d_md_alike_95 (by decide) ?_
      refine V_ireturn d_md_alike_96 rfl ?_
      exact ⟨_, rfl, (b01_t (hA.fin (geN c59 (by omega)))).symm, t, hM, hS⟩
    · skip
      have hlt : k < L.length := ltN c59 (by omega)
      obtain ⟨x, hx⟩ : ∃ x, L[k]? = some x := ⟨_, List.getElem?_eq_getElem hlt⟩
      have e43 := hP.2.2.1 k x hx
      have hm := List.mem_of_getElem? hx
      obtain ⟨b1, b2, b3⟩ := hA.2.1 x hm
      refine V_aload_n d_md_alike_62 rfl rfl ?_
      refine V_aload_n d_md_alike_63 rfl rfl ?_
      refine V_getf d_md_alike_64 fl_md_104 r.obj rfl ?_
      refine V_iload_n d_md_alike_67 rfl rfl ?_
      refine V_mald r d_md_alike_68 (by first | with_reducible rfl | exact ix8 _ _ | exact ix6 _ _ | assumption) rfl rfl (by show _ < 3600; omega) ?_
      rw [e43]
      refine V_bipush (v := 60) d_md_alike_69 (by decide) ?_
      refine V_idiv d_md_alike_71 (by decide) ?_
      rw [show (60 : Int32) = nI 60 from rfl, pk_div (by omega) (by decide) (by decide), show (60 * x.1 + x.2) / 60 = x.1 by omega]
      refine V_aload_n d_md_alike_72 rfl rfl ?_
      refine V_getf d_md_alike_73 fl_md_104 r.obj rfl ?_
      refine V_iload_n d_md_alike_76 rfl rfl ?_
      refine V_mald r d_md_alike_77 (by first | with_reducible rfl | exact ix8 _ _ | exact ix6 _ _ | assumption) rfl rfl (by show _ < 3600; omega) ?_
      rw [e43]
      refine V_bipush (v := 60) d_md_alike_78 (by decide) ?_
      refine V_irem d_md_alike_80 (by decide) ?_
      rw [show (60 : Int32) = nI 60 from rfl, pk_rem (by omega) (by decide) (by decide), show (60 * x.1 + x.2) % 60 = x.2 by omega]
      refine V_callV (N := md_areLike) d_md_alike_81 ml_md_295 mdf_md_areLike wi_md_areLike wz_md_areLike (sp_md_areLike G r hS ivs ivo ivv x.1 x.2 b1 b2 L hP) r.obj ⟨_, rfl, rfl⟩ rfl rfl (by decide) (by decide) (Nat.le_of_ble_eq_true rfl) rfl rfl (kI fun r81 h81 ⟨e81, t1, M81, S81, P81⟩ => ?_)
      subst e81
      refine V_if_ne d_md_alike_84 (fun c84 => ?_) (fun c84 => ?_)
      · skip
        refine V_iinc (v := _) d_md_alike_89 rfl rfl (by decide) rfl rfl ?_
        dsimp only [List.set]
        refine V_goto d_md_alike_92 ?_
        rw [show Int32.ofInt 1 = 1 from rfl, nI_1]
        have hl := b01_ne c84
        exact ih (k + 1) _ t1 _ (by omega) (Nat.le_trans hlt (fJ_len _ _)) (hM.trans M81) S81 (P81 hl) (hA.step ivs ivo ivv hx hl)
      · skip
        refine V_iconst (v := 0) d_md_alike_87 (by decide) ?_
        refine V_ireturn d_md_alike_88 rfl ?_
        exact ⟨_, rfl, (b01_f (hA.no hm (b01_e c84))).symm, t1, hM.trans M81, S81⟩
theorem sp_md_alike (G : Gk) {h : Hp} {m : Nat} {am : Nat → Nat} {s : Mem} (r : RepM h m am s) (ivs : IvS s) (ivo : IvO s) (ivv : IvV s) (v w : Int32) : Ct G md_alike [.ref m, .int v, .int w] h
    (pI fun r h' => (¬ (isOb s v ∧ isOb s w) ∧ h = h' ∧ r = -2) ∨ ∃ o u, o < nO s ∧ u < nO s ∧ v = nI o ∧ w = nI u ∧ r = b01 (Alk s o u) ∧ ∃ t, Mod h m am h' t ∧ Sc s t) := by
  have h60 := ivo.2.1
  have fin : ∀ o u, o < nO s → u < nO s → ∀ h1 t1 l3, Mod h m am h1 t1 → Sc s t1 → (∀ i, i < 3600 → t1.2 44 i = 0) → V G md_alike (pI fun r h' => r = b01 (Alk s o u) ∧ ∃ t, Mod h m am h' t ∧ Sc s t) h1 0 0 41 [some (.ref m), some (.int (nI o)), some (.int (nI u)), l3] [] := by
    intro o u ho hu h1 t1 l3 M1 S1 Z1
    have R1 := M1.1
    have hP : PR [] (mF t1 45 0) := ⟨⟨fun i j x q => by simp at q, fun x q => by simp at q⟩, by rw [mF_1s]; rfl, fun k x q => by simp at q, fun a b ha hb => by rw [mF_2, Z1 _ (by omega)]; exact (b01_f (by simp)).symm⟩
    refine V_aload_n d_md_alike_41 rfl rfl ?_
    refine V_iconst (v := 0) d_md_alike_42 (by decide) ?_
    refine V_mput (j := 45) R1 d_md_alike_43 fp_md_289 rfl rfl (by decide) (fun h43 M43 => ?_)
    have R43 := M43.1
    refine V_aload_n d_md_alike_46 rfl rfl ?_
    refine V_iload_n d_md_alike_47 rfl rfl ?_
    refine V_iload_n d_md_alike_48 rfl rfl ?_
    refine V_callV (N := md_alsoAlike) d_md_alike_49 ml_md_292 mdf_md_alsoAlike wi_md_alsoAlike wz_md_alsoAlike (sp_md_alsoAlike G R43 hP o u (by omega) (by omega)) R43.obj ⟨_, rfl, rfl⟩ rfl rfl (by decide) (by decide) (Nat.le_of_ble_eq_true rfl) rfl rfl (kN fun h49 ⟨t2, M49, P49, K49⟩ => ?_)
    refine V_iconst (v := 0) d_md_alike_52 (by decide) ?_
    refine V_istore_n d_md_alike_53 rfl (by decide) rfl rfl ?_
    dsimp only [List.set]
    exact lp_al2 G ivs ivo ivv o u 3601 0 _ t2 _ (by omega) (by omega) ((M1.trans M43).trans M49) ((S1.trans ⟨fun q hq => mF_1n _ _ (by rintro rfl; exact absurd hq (by decide)), fun _ _ => rfl⟩).trans K49.sc) P49 (AI.start ho hu)
  refine Ct.ofL (M := md_alike) (lv := [some (.ref m), some (.int v), some (.int w), none]) mdf_md_alike rfl (Nat.le_of_ble_eq_true rfl) rfl ?_
  refine V_aload_n d_md_alike_0 rfl rfl ?_
  refine V_iload_n d_md_alike_1 rfl rfl ?_
  refine V_callV (N := md_isObject) d_md_alike_2 ml_md_149 mdf_md_isObject wi_md_isObject wz_md_isObject (sp_md_isObject G r _) r.obj ⟨_, rfl, rfl⟩ rfl rfl (by decide) (by decide) (Nat.le_of_ble_eq_true rfl) rfl rfl (kI fun r2 h2 ⟨e2, f2⟩ => ?_)
  subst e2 f2
  refine V_if_eq d_md_alike_5 (fun c5 => ?_) (fun c5 => ?_)
  · skip
    refine V_bipush (v := -2) d_md_alike_16 (by decide) ?_
    refine V_ireturn d_md_alike_18 rfl ?_
    exact ⟨_, rfl, Or.inl ⟨fun q => b01_e c5 q.1, rfl, rfl⟩⟩
  · skip
    refine V_aload_n d_md_alike_8 rfl rfl ?_
    refine V_iload_n d_md_alike_9 rfl rfl ?_
    refine V_callV (N := md_isObject) d_md_alike_10 ml_md_149 mdf_md_isObject wi_md_isObject wz_md_isObject (sp_md_isObject G r _) r.obj ⟨_, rfl, rfl⟩ rfl rfl (by decide) (by decide) (Nat.le_of_ble_eq_true rfl) rfl rfl (kI fun r10 h10 ⟨e10, f10⟩ => ?_)
    subst e10 f10
    refine V_if_ne d_md_alike_13 (fun c13 => ?_) (fun c13 => ?_)
    · skip
      refine V_iconst (v := 0) d_md_alike_19 (by decide) ?_
      refine V_istore_n d_md_alike_20 rfl (by decide) rfl rfl ?_
      dsimp only [List.set]
      obtain ⟨o, ho, rfl⟩ := isOb.ix ivo (b01_ne c5)
      obtain ⟨u, hu, rfl⟩ := isOb.ix ivo (b01_ne c13)
      refine V.mono (lp_al1 G (nI o) (nI u) _ (fin o u ho hu) 3600 0 _ _ (by omega) (Mod.rf r) (Sc.rf s) (fun i hi => by omega)) (fun v' h' q => ?_)
      obtain ⟨r', q1, q2, q3⟩ := q
      exact ⟨r', q1, Or.inr ⟨o, u, ho, hu, rfl, rfl, q2, q3⟩⟩
    · skip
      refine V_bipush (v := -2) d_md_alike_16 (by decide) ?_
      refine V_ireturn d_md_alike_18 rfl ?_
      exact ⟨_, rfl, Or.inl ⟨fun q => b01_e c13 q.2, rfl, rfl⟩⟩
