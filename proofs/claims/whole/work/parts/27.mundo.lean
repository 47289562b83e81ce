/-! begin, commit, abort, undo, redo of the reference -/
def gF (s : Mem) : Nat := (s.1 24).toNatClampNeg
def IvG (s : Mem) : Prop := s.1 24 = nI (gF s) ∧ gF s < 690
/-- each edit's place -/
def Eds (s : Mem) (k : Nat) : Prop := ∀ e, e < k → ∃ o f, o < nO s ∧ f < nf s (sh s o) ∧ s.2 17 e = nI (8 * o + f)
def IvE (s : Mem) : Prop := Eds s (nE s)
def gsz (s : Mem) : Nat := if gF s < nE s ∧ nEn s = nD s then nE s - gF s else 0
theorem gsz_le (s : Mem) : gsz s ≤ nE s := by unfold gsz; split <;> omega
theorem sp_md_begin (G : Gk) {h : Hp} {m : Nat} {am : Nat → Nat} {s : Mem} (r : RepM h m am s) (ivh : IvH s) : Ct G md_begin [.ref m] h
    (pI fun r h' => (s.1 23 ≠ 0 ∧ h = h' ∧ r = -3) ∨ (s.1 23 = 0 ∧ r = 1 ∧ Mod h m am h' (mF (mF s 23 1) 24 (nI (dEnd s))))) := by
  obtain ⟨h16, h20, h21, hde, hn60, hg, hE, hen, hmo⟩ := id ivh
  refine Ct.ofL (M := md_begin) (lv := [some (.ref m)]) mdf_md_begin rfl (Nat.le_of_ble_eq_true rfl) rfl ?_
  refine V_aload_n d_md_begin_0 rfl rfl ?_
  refine V_getf d_md_begin_1 fl_md_214 r.obj rfl ?_
  refine V_if_eq d_md_begin_4 (fun c4 => ?_) (fun c4 => ?_)
  · skip
    refine V_aload_n d_md_begin_10 rfl rfl ?_
    refine V_iconst (v := 1) d_md_begin_11 (by decide) ?_
    refine V_mput (j := 23) r d_md_begin_12 fp_md_214 rfl rfl (by decide) (fun h12 M12 => ?_)
    have R12 := M12.1
    refine V_aload_n d_md_begin_15 rfl rfl ?_
    refine V_aload_n d_md_begin_16 rfl rfl ?_
    refine V_callV (N := md_doneEnd) d_md_begin_17 ml_md_200 mdf_md_doneEnd wi_md_doneEnd wz_md_doneEnd (sp_md_doneEnd' G (s0 := s) R12 (by rw [mF_1n _ _ (by decide)]; exact h21) (by omega) (fun k hk => (hen k (by omega)).1)) R12.obj ⟨_, rfl, rfl⟩ rfl rfl (by decide) (by decide) (Nat.le_of_ble_eq_true rfl) rfl rfl (kI fun r21 h21' ⟨e21, f21⟩ => ?_)
    subst e21 f21
    refine V_mput (j := 24) R12 d_md_begin_20 fp_md_244 rfl rfl (by decide) (fun h20 M20 => ?_)
    have R20 := M20.1
    refine V_iconst (v := 1) d_md_begin_23 (by decide) ?_
    refine V_ireturn d_md_begin_24 rfl ?_
    exact ⟨_, rfl, Or.inr ⟨c4, rfl, M12.trans M20⟩⟩
  · skip
    refine V_bipush (v := -3) d_md_begin_7 (by decide) ?_
    refine V_ireturn d_md_begin_9 rfl ?_
    exact ⟨_, rfl, Or.inl ⟨c4, rfl, rfl⟩⟩
theorem sp_md_groupSize (G : Gk) {h : Hp} {m : Nat} {am : Nat → Nat} {s : Mem} (r : RepM h m am s) (ivh : IvH s) (ivg : IvG s) : Ct G md_groupSize [.ref m] h (pI fun r h' => h = h' ∧ r = nI (gsz s)) := by
  obtain ⟨h16, h20, h21, hde, hn60, hg, hE, hen, hmo⟩ := id ivh
  obtain ⟨h24, hgl⟩ := ivg
  refine Ct.ofL (M := md_groupSize) (lv := [some (.ref m)]) mdf_md_groupSize rfl (Nat.le_of_ble_eq_true rfl) rfl ?_
  refine V_aload_n d_md_groupSize_0 rfl rfl ?_
  refine V_getf d_md_groupSize_1 fl_md_204 r.obj rfl ?_
  rw [h16]
  refine V_aload_n d_md_groupSize_4 rfl rfl ?_
  refine V_getf d_md_groupSize_5 fl_md_244 r.obj rfl ?_
  rw [h24]
  refine V_icmp_le d_md_groupSize_8 (fun c8 => ?_) (fun c8 => ?_)
  · skip
    refine V_iconst (v := 0) d_md_groupSize_34 (by decide) ?_
    refine V_ireturn d_md_groupSize_35 rfl ?_
    refine ⟨_, rfl, rfl, ?_⟩
    rw [gsz, if_neg (fun q => absurd (geN_le c8 (by omega)) (by omega))]
    rfl
  · skip
    refine V_aload_n d_md_groupSize_11 rfl rfl ?_
    refine V_getf d_md_groupSize_12 fl_md_197 r.obj rfl ?_
    rw [h20]
    refine V_aload_n d_md_groupSize_15 rfl rfl ?_
    refine V_getf d_md_groupSize_16 fl_md_194 r.obj rfl ?_
    rw [h21]
    refine V_icmp_ne d_md_groupSize_19 (fun c19 => ?_) (fun c19 => ?_)
    · skip
      refine V_iconst (v := 0) d_md_groupSize_34 (by decide) ?_
      refine V_ireturn d_md_groupSize_35 rfl ?_
      refine ⟨_, rfl, rfl, ?_⟩
      rw [gsz, if_neg (fun q => c19 (by rw [q.2]))]
      rfl
    · skip
      refine V_aload_n d_md_groupSize_22 rfl rfl ?_
      refine V_getf d_md_groupSize_23 fl_md_204 r.obj rfl ?_
      rw [h16]
      refine V_aload_n d_md_groupSize_26 rfl rfl ?_
      refine V_getf d_md_groupSize_27 fl_md_244 r.obj rfl ?_
      rw [h24]
      have hlt : gF s < nE s := Nat.lt_of_not_le (fun q => c8 (nI_le q (by omega)))
      have heq : nEn s = nD s := eqN c19 (by omega) (by omega)
      refine V_isub d_md_groupSize_30 ?_
      rw [pk_sub (by omega)]
      refine V_goto d_md_groupSize_31 ?_
      refine V_ireturn d_md_groupSize_35 rfl ?_
      refine ⟨_, rfl, rfl, ?_⟩
      rw [gsz, if_pos ⟨hlt, heq⟩]
theorem IvH.g {s : Mem} (iv : IvH s) (v : Int32) (hv : v = 0 ∨ v = 1) : IvH (mF s 23 v) := by
  obtain ⟨h16, h20, h21, hde, hn60, hg, hE, hen, hmo⟩ := iv
  have a1 : nE (mF s 23 v) = nE s := by unfold nE; rw [mF_1n _ _ (by decide)]
  have a2 : nEn (mF s 23 v) = nEn s := by unfold nEn; rw [mF_1n _ _ (by decide)]
  have a3 : nD (mF s 23 v) = nD s := by unfold nD; rw [mF_1n _ _ (by decide)]
  have a4 : ∀ k, en (mF s 23 v) k = en s k := fun k => rfl
  refine ⟨by rw [mF_1n _ _ (by decide), a1]; exact h16, by rw [mF_1n _ _ (by decide), a2]; exact h20, by rw [mF_1n _ _ (by decide), a3]; exact h21, by rw [a2, a3]; exact hde, by rw [a2]; exact hn60, by rw [mF_1s]; exact hv, by rw [a1]; exact hE, fun k hk => ?_, fun k hk => ?_⟩
  · rw [a2] at hk; rw [mF_2, a4, a1]; exact hen k hk
  · rw [a2] at hk; rw [a4, a4]; exact hmo k hk
theorem sp_md_commit (G : Gk) {h : Hp} {m : Nat} {am : Nat → Nat} {s : Mem} (r : RepM h m am s) (ivh : IvH s) (ivg : IvG s) : Ct G md_commit [.ref m] h
    (pI fun r h' => (s.1 23 = 0 ∧ h = h' ∧ r = -3) ∨ (s.1 23 ≠ 0 ∧ r = nI (gsz s) ∧ ∃ t, Mod h m am h' t ∧ ((gsz s = 0 ∧ t = mF s 23 0) ∨ (0 < gsz s ∧ EntE (mF s 23 0) t)))) := by
  have hgs := gsz_le s
  have hE := ivh.2.2.2.2.2.2.1
  refine Ct.ofL (M := md_commit) (lv := [some (.ref m), none]) mdf_md_commit rfl (Nat.le_of_ble_eq_true rfl) rfl ?_
  refine V_aload_n d_md_commit_0 rfl rfl ?_
  refine V_getf d_md_commit_1 fl_md_214 r.obj rfl ?_
  refine V_if_ne d_md_commit_4 (fun c4 => ?_) (fun c4 => ?_)
  · skip
    refine V_aload_n d_md_commit_10 rfl rfl ?_
    refine V_callV (N := md_groupSize) d_md_commit_11 ml_md_247 mdf_md_groupSize wi_md_groupSize wz_md_groupSize (sp_md_groupSize G r ivh ivg) r.obj ⟨_, rfl, rfl⟩ rfl rfl (by decide) (by decide) (Nat.le_of_ble_eq_true rfl) rfl rfl (kI fun r11 h11 ⟨e11, f11⟩ => ?_)
    subst e11 f11
    refine V_istore_n d_md_commit_14 rfl (by decide) rfl rfl ?_
    dsimp only [List.set]
    refine V_aload_n d_md_commit_15 rfl rfl ?_
    refine V_iconst (v := 0) d_md_commit_16 (by decide) ?_
    refine V_mput (j := 23) r d_md_commit_17 fp_md_214 rfl rfl (by decide) (fun h17 M17 => ?_)
    have R17 := M17.1
    refine V_iload_n d_md_commit_20 rfl rfl ?_
    refine V_if_le d_md_commit_21 (fun c21 => ?_) (fun c21 => ?_)
    · skip
      refine V_iload_n d_md_commit_28 rfl rfl ?_
      refine V_ireturn d_md_commit_29 rfl ?_
      exact ⟨_, rfl, Or.inr ⟨c4, rfl, _, M17, Or.inl ⟨by have : gsz s ≤ 0 := geN_le (a := gsz s) (b := 0) c21 (by omega); omega, rfl⟩⟩⟩
    · skip
      refine V_aload_n d_md_commit_24 rfl rfl ?_
      refine V_callV (N := md_enters) d_md_commit_25 ml_md_218 mdf_md_enters wi_md_enters wz_md_enters (sp_md_enters G R17 (ivh.g 0 (Or.inl rfl))) R17.obj ⟨_, rfl, rfl⟩ rfl rfl (by decide) (by decide) (Nat.le_of_ble_eq_true rfl) rfl rfl (kN fun h25 ⟨t, M25, E25⟩ => ?_)
      refine V_iload_n d_md_commit_28 rfl rfl ?_
      refine V_ireturn d_md_commit_29 rfl ?_
      exact ⟨_, rfl, Or.inr ⟨c4, rfl, _, M17.trans M25, Or.inr ⟨Nat.pos_of_ne_zero (fun q => c21 (by rw [q]; decide)), E25⟩⟩⟩
  · skip
    refine V_bipush (v := -3) d_md_commit_7 (by decide) ?_
    refine V_ireturn d_md_commit_9 rfl ?_
    exact ⟨_, rfl, Or.inl ⟨c4, rfl, rfl⟩⟩
/-- edit e is taken back (j = 18) or done again (j = 19) -/
def GoE (s : Mem) (j e : Nat) (t : Mem) : Prop := ∃ o f t1, o < nO s ∧ f < nf s (sh s o) ∧ s.2 17 e = nI (8 * o + f) ∧ PutE s j e (8 * o + f) 6 t1 ∧ NoteE t1 o f (s.2 10 (8 * o + f)) (nW s) t
theorem NoteE.ivw {s t : Mem} {o f k : Nat} {a : Int32} (iv : IvW s) (h : NoteE s o f a k t) : IvW t := by
  obtain ⟨h1, h2, h3⟩ := iv
  have e1 : nW t = nW s := by unfold nW; rw [h.1]
  have eS : nS t = nS s := by unfold nS; rw [h.1]
  refine ⟨by rw [h.1, e1]; exact h1, by rw [e1]; exact h2, fun w hw => ?_⟩
  rw [e1] at hw
  obtain ⟨g1, g2, g3, g4⟩ := h3 w hw
  refine ⟨by rw [eS, h.2.1 26 (by decide) (by decide)]; exact g1, by rw [h.2.1 27 (by decide) (by decide)]; exact g2, ?_⟩
  by_cases q : w < k ∧ seesW s o f w ∧ wc s w < 40
  · have e3 := (h.2.2.1 w q.1 q.2.1 q.2.2).1
    have e4 : wc t w = wc s w + 1 := by
      have : wc t w = (t.2 30 w).toNatClampNeg := rfl
      rw [this, e3]; exact cl _ (by omega)
    rw [e4]; exact ⟨e3, by omega⟩
  · have e3 := h.2.2.2.1 w (by
      rcases Nat.lt_or_ge w k with z | z
      · exact Or.inr (fun y => q ⟨z, y⟩)
      · exact Or.inl z)
    have e4 : wc t w = wc s w := by unfold wc; rw [e3]
    rw [e4, e3]; exact ⟨g3, g4⟩
theorem GoE.f {s t : Mem} {j e : Nat} (h : GoE s j e t) : t.1 = s.1 := by
  obtain ⟨o, f, t1, -, -, -, h1, h2⟩ := h
  rw [h2.1, h1.1]
theorem GoE.a {s t : Mem} {j e q : Nat} (h : GoE s j e t) (q1 : q ≠ 10) (q2 : q ≠ 11) (q3 : q ≠ 30) (q4 : q ≠ 31) : t.2 q = s.2 q := by
  obtain ⟨o, f, t1, -, -, -, h1, h2⟩ := h
  rw [h2.2.1 q q3 q4, h1.2.1 q q1 q2]
theorem GoE.ivw {s t : Mem} {j e : Nat} (h : GoE s j e t) (iv : IvW s) : IvW t := by
  obtain ⟨o, f, t1, -, -, -, h1, h2⟩ := h
  exact h2.ivw (iv.of (by rw [h1.1]) (by rw [h1.1]) (h1.2.1 _ (by decide) (by decide)) (h1.2.1 _ (by decide) (by decide)) (h1.2.1 _ (by decide) (by decide)))
theorem div8 {o f : Nat} (hf : f < 8) : (8 * o + f) / 8 = o := by omega
theorem mod8 {o f : Nat} (hf : f < 8) : (8 * o + f) % 8 = f := by omega
theorem sp_md_goes (G : Gk) {h : Hp} {m : Nat} {am : Nat → Nat} {s : Mem} (r : RepM h m am s) (ivs : IvS s) (ivo : IvO s) (ivw : IvW s) (e : Nat) (b : Int32) (he : e < 700) (hp : ∃ o f, o < nO s ∧ f < nf s (sh s o) ∧ s.2 17 e = nI (8 * o + f)) : Ct G md_goes [.ref m, .int (nI e), .int b] h
    (pN fun h' => ∃ t, Mod h m am h' t ∧ GoE s (if b = 0 then 19 else 18) e t) := by
  have h60 := ivo.2.1
  obtain ⟨o, f, ho, hf, hof⟩ := hp
  have hf8 : f < 8 := by have := (ivs.2.2.1 _ (ivo.2.2 o ho).2).2; omega
  have tail : ∀ (h1 : Hp) (t1 : Mem) (j : Nat), Mod h m am h1 t1 → PutE s j e (8 * o + f) 6 t1 → (if b = 0 then 19 else 18) = j →
      V G md_goes (pN fun h' => ∃ t, Mod h m am h' t ∧ GoE s (if b = 0 then 19 else 18) e t) h1 0 0 36 [some (.ref m), some (.int (nI e)), some (.int b), some (.int (nI (8 * o + f))), some (.int (s.2 10 (8 * o + f)))] [] := by
    intro h1 t1 j M1 P1 hj
    rw [hj]
    have j1 : IvS t1 := ivs.of (by rw [P1.1]) (P1.2.1 _ (by decide) (by decide)) (P1.2.1 _ (by decide) (by decide))
    have j2 : IvO t1 := ivo.of (by rw [P1.1]) (by rw [P1.1]) (P1.2.1 _ (by decide) (by decide))
    have j3 : IvW t1 := ivw.of (by rw [P1.1]) (by rw [P1.1]) (P1.2.1 _ (by decide) (by decide)) (P1.2.1 _ (by decide) (by decide)) (P1.2.1 _ (by decide) (by decide))
    have eO : nO t1 = nO s := by unfold nO; rw [P1.1]
    have eW : nW t1 = nW s := by unfold nW; rw [P1.1]
    have R1 := M1.1
    refine V_aload_n d_md_goes_36 rfl rfl ?_
    refine V_iload_n d_md_goes_37 rfl rfl ?_
    refine V_bipush (v := 8) d_md_goes_38 (by decide) ?_
    refine V_idiv d_md_goes_40 (by decide) ?_
    rw [show (8 : Int32) = nI 8 from rfl, pk_div (by omega) (by decide) (by decide), div8 hf8]
    refine V_iload_n d_md_goes_41 rfl rfl ?_
    refine V_bipush (v := 8) d_md_goes_42 (by decide) ?_
    refine V_irem d_md_goes_44 (by decide) ?_
    rw [show (8 : Int32) = nI 8 from rfl, pk_rem (by omega) (by decide) (by decide), mod8 hf8]
    refine V_iload d_md_goes_45 rfl ?_
    refine V_callV (N := md_notes) d_md_goes_47 ml_md_211 mdf_md_notes wi_md_notes wz_md_notes (sp_md_notes G R1 j1 j2 j3 o f (by rw [eO]; exact ho) hf8 _) R1.obj ⟨_, rfl, rfl⟩ rfl rfl (by decide) (by decide) (Nat.le_of_ble_eq_true rfl) rfl rfl (kN fun h47 ⟨t, M47, N47⟩ => ?_)
    refine V_return d_md_goes_50 rfl ?_
    rw [eW] at N47
    exact ⟨rfl, t, M1.trans M47, o, f, t1, ho, hf, hof, P1, N47⟩
  refine Ct.ofL (M := md_goes) (lv := [some (.ref m), some (.int (nI e)), some (.int b), none, none]) mdf_md_goes rfl (Nat.le_of_ble_eq_true rfl) rfl ?_
  refine V_aload_n d_md_goes_0 rfl rfl ?_
  refine V_getf d_md_goes_1 fl_md_49 r.obj rfl ?_
  refine V_iload_n d_md_goes_4 rfl rfl ?_
  refine V_mald r d_md_goes_5 (by first | with_reducible rfl | exact ix8 _ _ | exact ix6 _ _ | assumption) rfl rfl (by show _ < 700; omega) ?_
  rw [hof]
  refine V_istore_n d_md_goes_6 rfl (by decide) rfl rfl ?_
  dsimp only [List.set]
  refine V_aload_n d_md_goes_7 rfl rfl ?_
  refine V_getf d_md_goes_8 fl_md_34 r.obj rfl ?_
  refine V_iload_n d_md_goes_11 rfl rfl ?_
  refine V_mald r d_md_goes_12 (by first | with_reducible rfl | exact ix8 _ _ | exact ix6 _ _ | assumption) rfl rfl (by show _ < 480; omega) ?_
  refine V_istore d_md_goes_13 (by decide) rfl rfl ?_
  dsimp only [List.set]
  refine V_aload_n d_md_goes_15 rfl rfl ?_
  refine V_iload_n d_md_goes_16 rfl rfl ?_
  refine V_if_eq d_md_goes_17 (fun c17 => ?_) (fun c17 => ?_)
  · skip
    refine V_aload_n d_md_goes_27 rfl rfl ?_
    refine V_getf d_md_goes_28 fl_md_55 r.obj rfl ?_
    refine V_iload_n d_md_goes_31 rfl rfl ?_
    refine V_iload_n d_md_goes_32 rfl rfl ?_
    refine V_callV (N := md_puts) d_md_goes_33 ml_md_250 mdf_md_puts wi_md_puts wz_md_puts (sp_md_puts19 G r e (8 * o + f) he (by omega)) r.obj ⟨_, rfl, rfl⟩ rfl rfl (by decide) (by decide) (Nat.le_of_ble_eq_true rfl) rfl rfl (kN fun h33 ⟨t1, M33, P33⟩ => ?_)
    exact tail _ t1 19 M33 P33 (if_pos c17)
  · skip
    refine V_aload_n d_md_goes_20 rfl rfl ?_
    refine V_getf d_md_goes_21 fl_md_52 r.obj rfl ?_
    refine V_goto d_md_goes_24 ?_
    refine V_iload_n d_md_goes_31 rfl rfl ?_
    refine V_iload_n d_md_goes_32 rfl rfl ?_
    refine V_callV (N := md_puts) d_md_goes_33 ml_md_250 mdf_md_puts wi_md_puts wz_md_puts (sp_md_puts18 G r e (8 * o + f) he (by omega)) r.obj ⟨_, rfl, rfl⟩ rfl rfl (by decide) (by decide) (Nat.le_of_ble_eq_true rfl) rfl rfl (kN fun h33 ⟨t1, M33, P33⟩ => ?_)
    exact tail _ t1 18 M33 P33 (if_neg c17)
/-- n edits taken back, from number k down -/
def UnE : Nat → Nat → Mem → Mem → Prop
  | 0, _, s, t => t = s
  | n + 1, k, s, t => ∃ t1, GoE s 18 (k - 1) t1 ∧ UnE n (k - 1) t1 t
/-- n edits done again, from number k up -/
def ReE : Nat → Nat → Mem → Mem → Prop
  | 0, _, s, t => t = s
  | n + 1, k, s, t => ∃ t1, GoE s 19 k t1 ∧ ReE n (k + 1) t1 t
/-- n edits taken back and forgotten -/
def AbE : Nat → Nat → Mem → Mem → Prop
  | 0, _, s, t => t = s
  | n + 1, k, s, t => ∃ t1, GoE (mF s 16 (nI (k - 1))) 18 (k - 1) t1 ∧ AbE n (k - 1) t1 t
theorem Eds.of {s t : Mem} {k k2 : Nat} (h : Eds s k) (hk : k2 ≤ k) (a8 : t.1 8 = s.1 8) (a2 : t.2 2 = s.2 2) (a9 : t.2 9 = s.2 9) (a17 : t.2 17 = s.2 17) : Eds t k2 := by
  intro e q
  obtain ⟨o, f, z1, z2, z3⟩ := h e (by omega)
  refine ⟨o, f, ?_, ?_, by rw [a17]; exact z3⟩
  · unfold nO at *; rw [a8]; exact z1
  · unfold nf sh at *; rw [a2, a9]; exact z2
theorem lp_abort (G : Gk) {m : Nat} {am : Nat → Nat} {h0 : Hp} (N : Nat) (hN : N < 690) (post : Option Value → Hp → Prop) : ∀ (n j k : Nat) (h : Hp) (s : Mem), j + n = N → n ≤ k → k < 690 → Mod h0 m am h s → IvS s → IvO s → IvW s → s.1 16 = nI k → Eds s k → (∀ h' t, Mod h0 m am h' t → AbE n k s t → post (some (.int (nI N))) h') →
    V G md_abort post h 0 0 22 [some (.ref m), some (.int (nI N)), some (.int (nI j))] [] := by
  intro n
  induction n with
  | zero =>
    intro j k h s h1 h2 h3 hM ivs ivo ivw h16 he K
    have r := hM.1
    refine V_iload_n d_md_abort_22 rfl rfl ?_
    refine V_iload_n d_md_abort_23 rfl rfl ?_
    refine V_icmp_ge d_md_abort_24 (fun c24 => ?_) (fun c24 => ?_)
    · skip
      refine V_iload_n d_md_abort_52 rfl rfl ?_
      refine V_ireturn d_md_abort_53 rfl ?_
      exact K _ _ hM rfl
    · skip
      exact absurd (ltN c24 (by omega)) (by omega)
  | succ n ih =>
    intro j k h s h1 h2 h3 hM ivs ivo ivw h16 he K
    have r := hM.1
    refine V_iload_n d_md_abort_22 rfl rfl ?_
    refine V_iload_n d_md_abort_23 rfl rfl ?_
    refine V_icmp_ge d_md_abort_24 (fun c24 => ?_) (fun c24 => ?_)
    · skip
      exact absurd (geN c24 (by omega)) (by omega)
    · skip
      refine V_aload_n d_md_abort_27 rfl rfl ?_
      refine V_dup d_md_abort_28 rfl ?_
      refine V_getf d_md_abort_29 fl_md_204 r.obj rfl ?_
      rw [h16]
      refine V_iconst (v := 1) d_md_abort_32 (by decide) ?_
      refine V_isub d_md_abort_33 ?_
      rw [ixm (by omega)]
      refine V_mput (j := 16) r d_md_abort_34 fp_md_204 rfl rfl (by decide) (fun h34 M34 => ?_)
      have R34 := M34.1
      refine V_aload_n d_md_abort_37 rfl rfl ?_
      refine V_aload_n d_md_abort_38 rfl rfl ?_
      refine V_getf d_md_abort_39 fl_md_204 R34.obj rfl ?_
      rw [mF_1s]
      refine V_iconst (v := 1) d_md_abort_42 (by decide) ?_
      refine V_callV (N := md_goes) d_md_abort_43 ml_md_253 mdf_md_goes wi_md_goes wz_md_goes (sp_md_goes G R34 (ivs.of (mF_1n _ _ (by decide)) rfl rfl) (ivo.of (mF_1n _ _ (by decide)) (mF_1n _ _ (by decide)) rfl) (ivw.of (mF_1n _ _ (by decide)) (mF_1n _ _ (by decide)) rfl rfl rfl) (k - 1) 1 (by omega) (he (k - 1) (by omega))) R34.obj ⟨_, rfl, rfl⟩ rfl rfl (by decide) (by decide) (Nat.le_of_ble_eq_true rfl) rfl rfl (kN fun h43 ⟨t, M43, G43⟩ => ?_)
      rw [if_neg (by decide)] at G43
      refine V_iinc (v := _) d_md_abort_46 rfl rfl (by decide) rfl rfl ?_
      dsimp only [List.set]
      refine V_goto d_md_abort_49 ?_
      rw [show Int32.ofInt 1 = 1 from rfl, nI_1]
      have e1 := G43.f
      refine ih (j + 1) (k - 1) _ t (by omega) (by omega) (by omega) ((hM.trans M34).trans M43) ?_ ?_ ?_ ?_ ?_ (fun h' t' q1 q2 => K h' t' q1 ⟨t, G43, q2⟩)
      · exact ivs.of (by rw [e1, mF_1n _ _ (by decide)]) (G43.a (by decide) (by decide) (by decide) (by decide)) (G43.a (by decide) (by decide) (by decide) (by decide))
      · exact ivo.of (by rw [e1, mF_1n _ _ (by decide)]) (by rw [e1, mF_1n _ _ (by decide)]) (G43.a (by decide) (by decide) (by decide) (by decide))
      · exact G43.ivw (ivw.of (mF_1n _ _ (by decide)) (mF_1n _ _ (by decide)) rfl rfl rfl)
      · rw [e1, mF_1s]
      · exact he.of (by omega) (by rw [e1, mF_1n _ _ (by decide)]) (G43.a (by decide) (by decide) (by decide) (by decide)) (G43.a (by decide) (by decide) (by decide) (by decide)) (G43.a (by decide) (by decide) (by decide) (by decide))
theorem sp_md_abort (G : Gk) {h : Hp} {m : Nat} {am : Nat → Nat} {s : Mem} (r : RepM h m am s) (ivs : IvS s) (ivo : IvO s) (ivw : IvW s) (ivh : IvH s) (ivg : IvG s) (ive : IvE s) : Ct G md_abort [.ref m] h
    (pI fun r h' => (s.1 23 = 0 ∧ h = h' ∧ r = -3) ∨ (s.1 23 ≠ 0 ∧ r = nI (gsz s) ∧ ∃ t, Mod h m am h' t ∧ AbE (gsz s) (nE s) (mF s 23 0) t)) := by
  have hgs := gsz_le s
  have hE := ivh.2.2.2.2.2.2.1
  refine Ct.ofL (M := md_abort) (lv := [some (.ref m), none, none]) mdf_md_abort rfl (Nat.le_of_ble_eq_true rfl) rfl ?_
  refine V_aload_n d_md_abort_0 rfl rfl ?_
  refine V_getf d_md_abort_1 fl_md_214 r.obj rfl ?_
  refine V_if_ne d_md_abort_4 (fun c4 => ?_) (fun c4 => ?_)
  · skip
    refine V_aload_n d_md_abort_10 rfl rfl ?_
    refine V_callV (N := md_groupSize) d_md_abort_11 ml_md_247 mdf_md_groupSize wi_md_groupSize wz_md_groupSize (sp_md_groupSize G r ivh ivg) r.obj ⟨_, rfl, rfl⟩ rfl rfl (by decide) (by decide) (Nat.le_of_ble_eq_true rfl) rfl rfl (kI fun r11 h11 ⟨e11, f11⟩ => ?_)
    subst e11 f11
    refine V_istore_n d_md_abort_14 rfl (by decide) rfl rfl ?_
    dsimp only [List.set]
    refine V_aload_n d_md_abort_15 rfl rfl ?_
    refine V_iconst (v := 0) d_md_abort_16 (by decide) ?_
    refine V_mput (j := 23) r d_md_abort_17 fp_md_214 rfl rfl (by decide) (fun h17 M17 => ?_)
    have R17 := M17.1
    refine V_iconst (v := 0) d_md_abort_20 (by decide) ?_
    refine V_istore_n d_md_abort_21 rfl (by decide) rfl rfl ?_
    dsimp only [List.set]
    exact lp_abort G (gsz s) (by omega) _ (gsz s) 0 (nE s) _ _ (by omega) hgs hE M17 (ivs.of (mF_1n _ _ (by decide)) rfl rfl) (ivo.of (mF_1n _ _ (by decide)) (mF_1n _ _ (by decide)) rfl) (ivw.of (mF_1n _ _ (by decide)) (mF_1n _ _ (by decide)) rfl rfl rfl) (by rw [mF_1n _ _ (by decide)]; exact ivh.1) (ive.of (Nat.le_refl _) (mF_1n _ _ (by decide)) rfl rfl rfl) (fun h' t q1 q2 => ⟨_, rfl, Or.inr ⟨c4, rfl, t, q1, q2⟩⟩)
  · skip
    refine V_bipush (v := -3) d_md_abort_7 (by decide) ?_
    refine V_ireturn d_md_abort_9 rfl ?_
    exact ⟨_, rfl, Or.inl ⟨c4, rfl, rfl⟩⟩
theorem lp_undo (G : Gk) {m : Nat} {am : Nat → Nat} {h0 : Hp} (a D : Nat) (ha : a < 690) (hD : 0 < D) (post : Option Value → Hp → Prop) : ∀ (n k : Nat) (h : Hp) (s : Mem), a + n = k → k < 690 → Mod h0 m am h s → IvS s → IvO s → IvW s → s.1 21 = nI D → Eds s k → (∀ h' t, Mod h0 m am h' (mF t 21 (nI (D - 1))) → UnE n k s t → post (some (.int (nI (D - 1)))) h') →
    V G md_undo post h 0 0 55 [some (.ref m), some (.int (nI a)), some (.int (nI k - 1))] [] := by
  intro n
  induction n with
  | zero =>
    intro k h s h1 h2 hM ivs ivo ivw h21 he K
    have r := hM.1
    have hlt : nI k - 1 < nI a := by
      obtain rfl : a = k := by omega
      rw [Int32.lt_iff_toInt_lt, show (1 : Int32) = nI 1 from rfl, pk_sub_toInt (by omega) (by decide), nI_toInt (by omega)]; omega
    refine V_iload_n d_md_undo_55 rfl rfl ?_
    refine V_iload_n d_md_undo_56 rfl rfl ?_
    refine V_icmp_lt d_md_undo_57 (fun c57 => ?_) (fun c57 => ?_)
    · skip
      refine V_aload_n d_md_undo_72 rfl rfl ?_
      refine V_dup d_md_undo_73 rfl ?_
      refine V_getf d_md_undo_74 fl_md_194 r.obj rfl ?_
      rw [h21]
      refine V_iconst (v := 1) d_md_undo_77 (by decide) ?_
      refine V_isub d_md_undo_78 ?_
      rw [ixm hD]
      refine V_mput (j := 21) r d_md_undo_79 fp_md_194 rfl rfl (by decide) (fun h79 M79 => ?_)
      have R79 := M79.1
      refine V_aload_n d_md_undo_82 rfl rfl ?_
      refine V_getf d_md_undo_83 fl_md_194 R79.obj rfl ?_
      rw [mF_1s]
      refine V_ireturn d_md_undo_86 rfl ?_
      exact K _ _ (hM.trans M79) rfl
    · skip
      exact absurd hlt c57
  | succ n ih =>
    intro k h s h1 h2 hM ivs ivo ivw h21 he K
    have r := hM.1
    rw [ixm (by omega)]
    refine V_iload_n d_md_undo_55 rfl rfl ?_
    refine V_iload_n d_md_undo_56 rfl rfl ?_
    refine V_icmp_lt d_md_undo_57 (fun c57 => ?_) (fun c57 => ?_)
    · skip
      exact absurd c57 (nI_nlt (by omega) (by omega))
    · skip
      refine V_aload_n d_md_undo_60 rfl rfl ?_
      refine V_iload_n d_md_undo_61 rfl rfl ?_
      refine V_iconst (v := 1) d_md_undo_62 (by decide) ?_
      refine V_callV (N := md_goes) d_md_undo_63 ml_md_253 mdf_md_goes wi_md_goes wz_md_goes (sp_md_goes G r ivs ivo ivw (k - 1) 1 (by omega) (he (k - 1) (by omega))) r.obj ⟨_, rfl, rfl⟩ rfl rfl (by decide) (by decide) (Nat.le_of_ble_eq_true rfl) rfl rfl (kN fun h63 ⟨t, M63, G63⟩ => ?_)
      rw [if_neg (by decide)] at G63
      refine V_iinc (v := _) d_md_undo_66 rfl rfl (by decide) rfl rfl ?_
      dsimp only [List.set]
      refine V_goto d_md_undo_69 ?_
      rw [show Int32.ofInt (-1) = -1 from rfl, show nI (k - 1) + -1 = nI (k - 1) - 1 from (Int32.sub_eq_add_neg ..).symm]
      have e1 := G63.f
      refine ih (k - 1) _ t (by omega) (by omega) (hM.trans M63) ?_ ?_ ?_ ?_ ?_ (fun h' t' q1 q2 => K h' t' q1 ⟨t, G63, q2⟩)
      · exact ivs.of (by rw [e1]) (G63.a (by decide) (by decide) (by decide) (by decide)) (G63.a (by decide) (by decide) (by decide) (by decide))
      · exact ivo.of (by rw [e1]) (by rw [e1]) (G63.a (by decide) (by decide) (by decide) (by decide))
      · exact G63.ivw ivw
      · rw [e1]; exact h21
      · exact he.of (by omega) (by rw [e1]) (G63.a (by decide) (by decide) (by decide) (by decide)) (G63.a (by decide) (by decide) (by decide) (by decide)) (G63.a (by decide) (by decide) (by decide) (by decide))
/-- where the entry below the k-th ends -/
def enB (s : Mem) (k : Nat) : Nat := if k = 0 then 0 else en s (k - 1)
theorem enB_le {s : Mem} (ivh : IvH s) {k : Nat} (hk : k < nEn s) : enB s k ≤ en s k := by
  unfold enB
  split
  · omega
  · have := ivh.2.2.2.2.2.2.2.2 (k - 1) (by omega)
    rw [show k - 1 + 1 = k by omega] at this
    exact this
theorem sp_md_undo (G : Gk) {h : Hp} {m : Nat} {am : Nat → Nat} {s : Mem} (r : RepM h m am s) (ivs : IvS s) (ivo : IvO s) (ivw : IvW s) (ivh : IvH s) (ive : IvE s) : Ct G md_undo [.ref m] h
    (pI fun r h' => ((s.1 23 ≠ 0 ∨ nD s = 0) ∧ h = h' ∧ r = -3) ∨ (s.1 23 = 0 ∧ 0 < nD s ∧ r = nI (nD s - 1) ∧ ∃ t, Mod h m am h' (mF t 21 (nI (nD s - 1))) ∧ UnE (en s (nD s - 1) - enB s (nD s - 1)) (en s (nD s - 1)) s t)) := by
  obtain ⟨h16, h20, h21, hde, hn60, hg, hE, hen, hmo⟩ := id ivh
  have tail : ∀ (a : Nat) (l2 : Option Value), 0 < nD s → s.1 23 = 0 → a = enB s (nD s - 1) → V G md_undo (pI fun r h' => ((s.1 23 ≠ 0 ∨ nD s = 0) ∧ h = h' ∧ r = -3) ∨ (s.1 23 = 0 ∧ 0 < nD s ∧ r = nI (nD s - 1) ∧ ∃ t, Mod h m am h' (mF t 21 (nI (nD s - 1))) ∧ UnE (en s (nD s - 1) - enB s (nD s - 1)) (en s (nD s - 1)) s t)) h 0 0 41 [some (.ref m), some (.int (nI a)), l2] [] := by
    intro a l2 hD hg0 ha
    have hle := enB_le ivh (k := nD s - 1) (by omega)
    have hle2 := (hen (nD s - 1) (by omega)).2
    refine V_aload_n d_md_undo_41 rfl rfl ?_
    refine V_getf d_md_undo_42 fl_md_58 r.obj rfl ?_
    refine V_aload_n d_md_undo_45 rfl rfl ?_
    refine V_getf d_md_undo_46 fl_md_194 r.obj rfl ?_
    rw [h21]
    refine V_iconst (v := 1) d_md_undo_49 (by decide) ?_
    refine V_isub d_md_undo_50 ?_
    rw [ixm hD]
    refine V_mald r d_md_undo_51 (by first | with_reducible rfl | exact ix8 _ _ | exact ix6 _ _ | assumption) rfl rfl (by show _ < 61; omega) ?_
    rw [(hen (nD s - 1) (by omega)).1]
    refine V_iconst (v := 1) d_md_undo_52 (by decide) ?_
    refine V_isub d_md_undo_53 ?_
    refine V_istore_n d_md_undo_54 rfl (by decide) rfl rfl ?_
    dsimp only [List.set]
    exact lp_undo G a (nD s) (by omega) hD _ (en s (nD s - 1) - enB s (nD s - 1)) (en s (nD s - 1)) _ _ (by omega) (by omega) (Mod.rf r) ivs ivo ivw h21 (ive.of (by omega) rfl rfl rfl rfl) (fun h' t q1 q2 => ⟨_, rfl, Or.inr ⟨hg0, hD, rfl, t, q1, q2⟩⟩)
  refine Ct.ofL (M := md_undo) (lv := [some (.ref m), none, none]) mdf_md_undo rfl (Nat.le_of_ble_eq_true rfl) rfl ?_
  refine V_aload_n d_md_undo_0 rfl rfl ?_
  refine V_getf d_md_undo_1 fl_md_214 r.obj rfl ?_
  refine V_if_ne d_md_undo_4 (fun c4 => ?_) (fun c4 => ?_)
  · skip
    refine V_bipush (v := -3) d_md_undo_14 (by decide) ?_
    refine V_ireturn d_md_undo_16 rfl ?_
    exact ⟨_, rfl, Or.inl ⟨Or.inl c4, rfl, rfl⟩⟩
  · skip
    refine V_aload_n d_md_undo_7 rfl rfl ?_
    refine V_getf d_md_undo_8 fl_md_194 r.obj rfl ?_
    rw [h21]
    refine V_if_ne d_md_undo_11 (fun c11 => ?_) (fun c11 => ?_)
    · skip
      have hD : 0 < nD s := Nat.pos_of_ne_zero (fun q => c11 (by rw [q]; rfl))
      refine V_aload_n d_md_undo_17 rfl rfl ?_
      refine V_getf d_md_undo_18 fl_md_194 r.obj rfl ?_
      rw [h21]
      refine V_iconst (v := 1) d_md_undo_21 (by decide) ?_
      refine V_icmp_ne d_md_undo_22 (fun c22 => ?_) (fun c22 => ?_)
      · skip
        have hD2 : nD s ≠ 1 := fun q => c22 (by rw [q]; rfl)
        refine V_aload_n d_md_undo_29 rfl rfl ?_
        refine V_getf d_md_undo_30 fl_md_58 r.obj rfl ?_
        refine V_aload_n d_md_undo_33 rfl rfl ?_
        refine V_getf d_md_undo_34 fl_md_194 r.obj rfl ?_
        rw [h21]
        refine V_iconst (v := 2) d_md_undo_37 (by decide) ?_
        refine V_isub d_md_undo_38 ?_
        rw [show nI (nD s) - 2 = nI (nD s - 2) from pk_sub (a := nD s) (b := 2) (by omega)]
        refine V_mald r d_md_undo_39 (by first | with_reducible rfl | exact ix8 _ _ | exact ix6 _ _ | assumption) rfl rfl (by show _ < 61; omega) ?_
        rw [(hen (nD s - 2) (by omega)).1]
        refine V_istore_n d_md_undo_40 rfl (by decide) rfl rfl ?_
        dsimp only [List.set]
        exact tail (en s (nD s - 2)) _ hD c4 (by unfold enB; rw [if_neg (by omega), show nD s - 1 - 1 = nD s - 2 by omega])
      · skip
        refine V_iconst (v := 0) d_md_undo_25 (by decide) ?_
        refine V_goto d_md_undo_26 ?_
        refine V_istore_n d_md_undo_40 rfl (by decide) rfl rfl ?_
        dsimp only [List.set]
        exact tail 0 _ hD c4 (by have : nD s = 1 := eqN (a := nD s) (b := 1) c22 (by omega) (by decide); unfold enB; rw [if_pos (by omega)])
    · skip
      refine V_bipush (v := -3) d_md_undo_14 (by decide) ?_
      refine V_ireturn d_md_undo_16 rfl ?_
      exact ⟨_, rfl, Or.inl ⟨Or.inr (eqN (a := nD s) (b := 0) c11 (by omega) (by decide)), rfl, rfl⟩⟩
theorem lp_redo (G : Gk) {m : Nat} {am : Nat → Nat} {h0 : Hp} (b D E : Nat) (hb : b < 690) (hDE : D < E) (hE : E ≤ 60) (post : Option Value → Hp → Prop) : ∀ (n k : Nat) (h : Hp) (s : Mem), k + n = b → Mod h0 m am h s → IvS s → IvO s → IvW s → s.1 21 = nI D → s.1 20 = nI E → s.2 22 D = nI b → Eds s b → (∀ h' t, Mod h0 m am h' (mF t 21 (nI (D + 1))) → ReE n k s t → post (some (.int (nI (E - (D + 1))))) h') →
    V G md_redo post h 0 0 26 [some (.ref m), some (.int (nI k))] [] := by
  intro n
  induction n with
  | zero =>
    intro k h s h1 hM ivs ivo ivw h21 h20 h22 he K
    have r := hM.1
    refine V_iload_n d_md_redo_26 rfl rfl ?_
    refine V_aload_n d_md_redo_27 rfl rfl ?_
    refine V_getf d_md_redo_28 fl_md_58 r.obj rfl ?_
    refine V_aload_n d_md_redo_31 rfl rfl ?_
    refine V_getf d_md_redo_32 fl_md_194 r.obj rfl ?_
    rw [h21]
    refine V_mald r d_md_redo_35 (by first | with_reducible rfl | exact ix8 _ _ | exact ix6 _ _ | assumption) rfl rfl (by show _ < 61; omega) ?_
    rw [h22]
    refine V_icmp_ge d_md_redo_36 (fun c36 => ?_) (fun c36 => ?_)
    · skip
      refine V_aload_n d_md_redo_51 rfl rfl ?_
      refine V_dup d_md_redo_52 rfl ?_
      refine V_getf d_md_redo_53 fl_md_194 r.obj rfl ?_
      rw [h21]
      refine V_iconst (v := 1) d_md_redo_56 (by decide) ?_
      refine V_iadd d_md_redo_57 ?_
      rw [nI_1]
      refine V_mput (j := 21) r d_md_redo_58 fp_md_194 rfl rfl (by decide) (fun h58 M58 => ?_)
      have R58 := M58.1
      refine V_aload_n d_md_redo_61 rfl rfl ?_
      refine V_getf d_md_redo_62 fl_md_197 R58.obj rfl ?_
      rw [mF_1n _ _ (by decide), h20]
      refine V_aload_n d_md_redo_65 rfl rfl ?_
      refine V_getf d_md_redo_66 fl_md_194 R58.obj rfl ?_
      rw [mF_1s]
      refine V_isub d_md_redo_69 ?_
      rw [pk_sub (by omega)]
      refine V_ireturn d_md_redo_70 rfl ?_
      exact K _ _ (hM.trans M58) rfl
    · skip
      exact absurd (ltN c36 (by omega)) (by omega)
  | succ n ih =>
    intro k h s h1 hM ivs ivo ivw h21 h20 h22 he K
    have r := hM.1
    refine V_iload_n d_md_redo_26 rfl rfl ?_
    refine V_aload_n d_md_redo_27 rfl rfl ?_
    refine V_getf d_md_redo_28 fl_md_58 r.obj rfl ?_
    refine V_aload_n d_md_redo_31 rfl rfl ?_
    refine V_getf d_md_redo_32 fl_md_194 r.obj rfl ?_
    rw [h21]
    refine V_mald r d_md_redo_35 (by first | with_reducible rfl | exact ix8 _ _ | exact ix6 _ _ | assumption) rfl rfl (by show _ < 61; omega) ?_
    rw [h22]
    refine V_icmp_ge d_md_redo_36 (fun c36 => ?_) (fun c36 => ?_)
    · skip
      exact absurd (geN c36 (by omega)) (by omega)
    · skip
      refine V_aload_n d_md_redo_39 rfl rfl ?_
      refine V_iload_n d_md_redo_40 rfl rfl ?_
      refine V_iconst (v := 0) d_md_redo_41 (by decide) ?_
      refine V_callV (N := md_goes) d_md_redo_42 ml_md_253 mdf_md_goes wi_md_goes wz_md_goes (sp_md_goes G r ivs ivo ivw k 0 (by omega) (he k (by omega))) r.obj ⟨_, rfl, rfl⟩ rfl rfl (by decide) (by decide) (Nat.le_of_ble_eq_true rfl) rfl rfl (kN fun h42 ⟨t, M42, G42⟩ => ?_)
      rw [if_pos (by decide)] at G42
      refine V_iinc (v := _) d_md_redo_45 rfl rfl (by decide) rfl rfl ?_
      dsimp only [List.set]
      refine V_goto d_md_redo_48 ?_
      rw [show Int32.ofInt 1 = 1 from rfl, nI_1]
      have e1 := G42.f
      refine ih (k + 1) _ t (by omega) (hM.trans M42) ?_ ?_ ?_ ?_ ?_ ?_ ?_ (fun h' t' q1 q2 => K h' t' q1 ⟨t, G42, q2⟩)
      · exact ivs.of (by rw [e1]) (G42.a (by decide) (by decide) (by decide) (by decide)) (G42.a (by decide) (by decide) (by decide) (by decide))
      · exact ivo.of (by rw [e1]) (by rw [e1]) (G42.a (by decide) (by decide) (by decide) (by decide))
      · exact G42.ivw ivw
      · rw [e1]; exact h21
      · rw [e1]; exact h20
      · rw [G42.a (by decide) (by decide) (by decide) (by decide)]; exact h22
      · exact he.of (by omega) (by rw [e1]) (G42.a (by decide) (by decide) (by decide) (by decide)) (G42.a (by decide) (by decide) (by decide) (by decide)) (G42.a (by decide) (by decide) (by decide) (by decide))
theorem sp_md_redo (G : Gk) {h : Hp} {m : Nat} {am : Nat → Nat} {s : Mem} (r : RepM h m am s) (ivs : IvS s) (ivo : IvO s) (ivw : IvW s) (ivh : IvH s) (ive : IvE s) : Ct G md_redo [.ref m] h
    (pI fun r h' => ((s.1 23 ≠ 0 ∨ nD s = nEn s) ∧ h = h' ∧ r = -3) ∨ (s.1 23 = 0 ∧ nD s < nEn s ∧ r = nI (nEn s - (nD s + 1)) ∧ ∃ t, Mod h m am h' (mF t 21 (nI (nD s + 1))) ∧ ReE (en s (nD s) - enB s (nD s)) (enB s (nD s)) s t)) := by
  obtain ⟨h16, h20, h21, hde, hn60, hg, hE, hen, hmo⟩ := id ivh
  refine Ct.ofL (M := md_redo) (lv := [some (.ref m), none]) mdf_md_redo rfl (Nat.le_of_ble_eq_true rfl) rfl ?_
  refine V_aload_n d_md_redo_0 rfl rfl ?_
  refine V_getf d_md_redo_1 fl_md_214 r.obj rfl ?_
  refine V_if_ne d_md_redo_4 (fun c4 => ?_) (fun c4 => ?_)
  · skip
    refine V_bipush (v := -3) d_md_redo_18 (by decide) ?_
    refine V_ireturn d_md_redo_20 rfl ?_
    exact ⟨_, rfl, Or.inl ⟨Or.inl c4, rfl, rfl⟩⟩
  · skip
    refine V_aload_n d_md_redo_7 rfl rfl ?_
    refine V_getf d_md_redo_8 fl_md_194 r.obj rfl ?_
    rw [h21]
    refine V_aload_n d_md_redo_11 rfl rfl ?_
    refine V_getf d_md_redo_12 fl_md_197 r.obj rfl ?_
    rw [h20]
    refine V_icmp_ne d_md_redo_15 (fun c15 => ?_) (fun c15 => ?_)
    · skip
      have hD : nD s < nEn s := by rcases Nat.lt_or_ge (nD s) (nEn s) with q | q; exact q; exact absurd (by rw [show nD s = nEn s by omega]) c15
      have hle := enB_le ivh hD
      have hle2 := (hen (nD s) hD).2
      refine V_aload_n d_md_redo_21 rfl rfl ?_
      refine V_callV (N := md_doneEnd) d_md_redo_22 ml_md_200 mdf_md_doneEnd wi_md_doneEnd wz_md_doneEnd (sp_md_doneEnd G r ivh) r.obj ⟨_, rfl, rfl⟩ rfl rfl (by decide) (by decide) (Nat.le_of_ble_eq_true rfl) rfl rfl (kI fun r22 h22 ⟨e22, f22⟩ => ?_)
      subst e22 f22
      rw [show dEnd s = enB s (nD s) from rfl]
      refine V_istore_n d_md_redo_25 rfl (by decide) rfl rfl ?_
      dsimp only [List.set]
      exact lp_redo G (en s (nD s)) (nD s) (nEn s) (by omega) hD hn60 _ (en s (nD s) - enB s (nD s)) (enB s (nD s)) _ _ (by omega) (Mod.rf r) ivs ivo ivw h21 h20 (hen _ hD).1 (ive.of (by omega) rfl rfl rfl rfl) (fun h' t q1 q2 => ⟨_, rfl, Or.inr ⟨c4, hD, rfl, t, q1, q2⟩⟩)
    · skip
      refine V_bipush (v := -3) d_md_redo_18 (by decide) ?_
      refine V_ireturn d_md_redo_20 rfl ?_
      exact ⟨_, rfl, Or.inl ⟨Or.inr (eqN c15 (by omega) (by omega)), rfl, rfl⟩⟩
