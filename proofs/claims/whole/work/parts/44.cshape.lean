/-! cases; what the class's memory hangs on; shapes -/
def cs (p a b : Prop) : Prop := (p ∧ a) ∨ (¬ p ∧ b)
theorem cs.t {p a b : Prop} (h : cs p a b) (hp : p) : a := h.elim (fun q => q.2) (fun q => absurd hp q.1)
theorem cs.f {p a b : Prop} (h : cs p a b) (hp : ¬ p) : b := h.elim (fun q => absurd q.1 hp) (fun q => q.2)
theorem cs.mt {p a b : Prop} (hp : p) (ha : a) : cs p a b := Or.inl ⟨hp, ha⟩
theorem cs.mf {p a b : Prop} (hp : ¬ p) (hb : b) : cs p a b := Or.inr ⟨hp, hb⟩
def coF (q : Nat) : Bool := q == 0 || q == 8 || q == 25 || q == 33
def coA (q : Nat) : Bool := decide (1 ≤ q ∧ q ≤ 7) || decide (9 ≤ q ∧ q ≤ 11) || decide (26 ≤ q ∧ q ≤ 31) || decide (34 ≤ q ∧ q ≤ 36)
def CoB (s t : Mem) : Prop := (∀ q, coF q = true → t.1 q = s.1 q) ∧ ∀ q, coA q = true → t.2 q = s.2 q
theorem Sc.co {s t : Mem} (h : Sc s t) : CoB s t := by
  refine ⟨fun q hq => h.1 q ?_, fun q hq => h.2 q ?_⟩
  · unfold coF at hq
    unfold scF
    simp only [Bool.or_eq_true, beq_iff_eq] at hq
    rcases hq with ((e | e) | e) | e <;> subst e <;> rfl
  · unfold coA at hq
    unfold scA
    simp only [Bool.or_eq_true, decide_eq_true_eq] at hq
    simp only [Bool.or_eq_false_iff, beq_eq_false_iff_ne, ne_eq]
    omega
theorem RB.co {g : Gm} {h : Hp} {s t : Mem} (R : RB g h s) (c : CoB s t) : RB g h t := by
  have e0 := c.1 0 rfl
  have e8 := c.1 8 rfl
  have e25 := c.1 25 rfl
  have e33 := c.1 33 rfl
  have a1 := c.2 1 rfl
  have a2 := c.2 2 rfl
  have a3 := c.2 3 rfl
  have a4 := c.2 4 rfl
  have a5 := c.2 5 rfl
  have a6 := c.2 6 rfl
  have a7 := c.2 7 rfl
  have a9 := c.2 9 rfl
  have a10 := c.2 10 rfl
  have a11 := c.2 11 rfl
  have a26 := c.2 26 rfl
  have a27 := c.2 27 rfl
  have a28 := c.2 28 rfl
  have a29 := c.2 29 rfl
  have a30 := c.2 30 rfl
  have a31 := c.2 31 rfl
  have a34 := c.2 34 rfl
  have a35 := c.2 35 rfl
  have a36 := c.2 36 rfl
  have en : nS t = nS s := by unfold nS; rw [e0]
  have eo : nO t = nO s := by unfold nO; rw [e8]
  have ew : nW t = nW s := by unfold nW; rw [e25]
  have ep : nP t = nP s := by unfold nP; rw [e33]
  have ef : nf t = nf s := by funext i; unfold nf; rw [a2]
  have es : sh t = sh s := by funext i; unfold sh; rw [a9]
  have ec : wc t = wc s := by funext i; unfold wc; rw [a30]
  have ez : sp t = sp s := by funext i; unfold sp; rw [a34]
  have eu : uS t = uS s := by funext i; unfold uS; rw [en, eo, a1, a9]
  have efd : fdS t = fdS s := by funext i j; unfold fdS; rw [a3, a4, a5, a6, a7]
  have er : rowN t = rowN s := by funext i j; unfold rowN; rw [a3, a10, es]
  have erf : rowF t = rowF s := by funext i j; unfold rowF; rw [a3, a10, a11, es]
  obtain ⟨q1, q2, q3, q4, q5, q6⟩ := R
  refine ⟨?_, ?_, ?_, ?_, ?_, q6⟩
  · unfold PX; rw [e0, e8, e25, e33]; exact q1
  · unfold PS PSi PSf; rw [en, a1, a2, eu, ef, efd]; exact q2
  · unfold PO POi; rw [eo, a9, ef, es, er, erf]; exact q3
  · unfold PP PPi; rw [ep, a34, ez, a35, a36]; exact q4
  · unfold PW PWi; rw [ew, a26, a27, a28, a29, a30, ec, a31]; exact q5
/-- the history's roles and others' -/
def KH (r : Nat) : Prop := r ≤ 1 ∨ r = 8 ∨ (22 ≤ r ∧ r ≤ 27)
/-- behind a call that leaves the history alone: the class's memory is t's -/
def Nx (g : Gm) (h h' : Hp) (t : Mem) : Prop := ∃ g', RB g' h' t ∧ Stq g h KH g' h' ∧ g'.2 2 = g.2 2
theorem Nx.rf {g : Gm} {h : Hp} {s t : Mem} (R : RB g h s) (c : CoB s t) : Nx g h h t := ⟨g, R.co c, Stq.rf _ _ _, rfl⟩
theorem Nx.sc {g : Gm} {h h' : Hp} {s t : Mem} (R : RB g h' s) (S : Stq g h nSc g h') (c : CoB s t) : Nx g h h' t := ⟨g, R.co c, S.mo (fun r hr => by unfold KH at hr; unfold nSc; omega), rfl⟩
abbrev iS (s : Mem) (v : Int32) : Prop := ∃ i, i < nS s ∧ v = nI i
abbrev iO (s : Mem) (v : Int32) : Prop := ∃ o, o < nO s ∧ v = nI o
theorem isSh_iff {s : Mem} (ivs : IvS s) (v : Int32) : isSh s v ↔ iS s v := ⟨fun q => q.ix ivs, fun ⟨i, h1, h2⟩ => Classical.byContradiction fun q => isSh.no ivs q i h1 h2⟩
theorem isOb_iff {s : Mem} (ivo : IvO s) (v : Int32) : isOb s v ↔ iO s v := ⟨fun q => q.ix ivo, fun ⟨i, h1, h2⟩ => Classical.byContradiction fun q => isOb.no ivo q i h1 h2⟩
theorem sp_fe_isShape (G : Gk) {g : Gm} {h : Hp} {s : Mem} (X : PX g h s) (ivs : IvS s) (v : Int32) : Ct G fe_isShape [.ref (g.2 2), .int v] h (pI fun r h' => h = h' ∧ r = b01 (iS s v)) := by
  have n10 := ivs.2.1
  refine Ct.ofL (M := fe_isShape) (lv := [some (.ref (g.2 2)), some (.int v)]) mdf_fe_isShape rfl (Nat.le_of_ble_eq_true rfl) rfl ?_
  refine V_iload_n d_fe_isShape_0 rfl rfl ?_
  refine V_if_lt d_fe_isShape_1 (fun c1 => ?_) (fun c1 => ?_)
  · skip
    refine V_iconst (v := 0) d_fe_isShape_16 (by decide) ?_
    refine V_zreturn d_fe_isShape_17 rfl (by first | exact Or.inl rfl | exact Or.inr rfl) ?_
    exact ⟨_, rfl, rfl, (b01_f (fun ⟨i, h1, h2⟩ => by subst h2; exact nI_pos (by omega) c1)).symm⟩
  · skip
    refine V_iload_n d_fe_isShape_4 rfl rfl ?_
    refine V_aload_n d_fe_isShape_5 rfl rfl ?_
    refine V_getf d_fe_isShape_6 fl_fe_72 X.1 rfl ?_
    rw [ivs.1]
    refine V_icmp_ge d_fe_isShape_9 (fun c9 => ?_) (fun c9 => ?_)
    · skip
      refine V_iconst (v := 0) d_fe_isShape_16 (by decide) ?_
      refine V_zreturn d_fe_isShape_17 rfl (by first | exact Or.inl rfl | exact Or.inr rfl) ?_
      exact ⟨_, rfl, rfl, (b01_f (fun ⟨i, h1, h2⟩ => by subst h2; exact nI_ge h1 (by omega) c9)).symm⟩
    · skip
      refine V_iconst (v := 1) d_fe_isShape_12 (by decide) ?_
      refine V_goto d_fe_isShape_13 ?_
      refine V_zreturn d_fe_isShape_17 rfl (by first | exact Or.inl rfl | exact Or.inr rfl) ?_
      exact ⟨_, rfl, rfl, (b01_t (ix_lt c1 c9 (by omega))).symm⟩
theorem sp_fe_isThing (G : Gk) {g : Gm} {h : Hp} {s : Mem} (X : PX g h s) (ivo : IvO s) (v : Int32) : Ct G fe_isThing [.ref (g.2 2), .int v] h (pI fun r h' => h = h' ∧ r = b01 (iO s v)) := by
  have n10 := ivo.2.1
  refine Ct.ofL (M := fe_isThing) (lv := [some (.ref (g.2 2)), some (.int v)]) mdf_fe_isThing rfl (Nat.le_of_ble_eq_true rfl) rfl ?_
  refine V_iload_n d_fe_isThing_0 rfl rfl ?_
  refine V_if_lt d_fe_isThing_1 (fun c1 => ?_) (fun c1 => ?_)
  · skip
    refine V_iconst (v := 0) d_fe_isThing_16 (by decide) ?_
    refine V_zreturn d_fe_isThing_17 rfl (by first | exact Or.inl rfl | exact Or.inr rfl) ?_
    exact ⟨_, rfl, rfl, (b01_f (fun ⟨i, h1, h2⟩ => by subst h2; exact nI_pos (by omega) c1)).symm⟩
  · skip
    refine V_iload_n d_fe_isThing_4 rfl rfl ?_
    refine V_aload_n d_fe_isThing_5 rfl rfl ?_
    refine V_getf d_fe_isThing_6 fl_fe_134 X.1 rfl ?_
    rw [ivo.1]
    refine V_icmp_ge d_fe_isThing_9 (fun c9 => ?_) (fun c9 => ?_)
    · skip
      refine V_iconst (v := 0) d_fe_isThing_16 (by decide) ?_
      refine V_zreturn d_fe_isThing_17 rfl (by first | exact Or.inl rfl | exact Or.inr rfl) ?_
      exact ⟨_, rfl, rfl, (b01_f (fun ⟨i, h1, h2⟩ => by subst h2; exact nI_ge h1 (by omega) c9)).symm⟩
    · skip
      refine V_iconst (v := 1) d_fe_isThing_12 (by decide) ?_
      refine V_goto d_fe_isThing_13 ?_
      refine V_zreturn d_fe_isThing_17 rfl (by first | exact Or.inl rfl | exact Or.inr rfl) ?_
      exact ⟨_, rfl, rfl, (b01_t (ix_lt c1 c9 (by omega))).symm⟩
theorem sp_fe_flags (G : Gk) (h : Hp) (a b c : Int32) : Ct G fe_flags [.int a, .int b, .int c] h (pI fun r h' => h = h' ∧ r = flg a b c) := by
  refine Ct.ofL (M := fe_flags) (lv := [some (.int a), some (.int b), some (.int c)]) mdf_fe_flags rfl (Nat.le_of_ble_eq_true rfl) rfl ?_
  refine V_iload_n d_fe_flags_0 rfl rfl ?_
  refine V_if_eq d_fe_flags_1 (fun c1 => ?_) (fun c1 => ?_)
  · skip
    refine V_iconst (v := 0) d_fe_flags_8 (by decide) ?_
    refine V_iload_n d_fe_flags_9 rfl rfl ?_
    refine V_if_eq d_fe_flags_10 (fun c10 => ?_) (fun c10 => ?_)
    · skip
      refine V_iconst (v := 0) d_fe_flags_17 (by decide) ?_
      refine V_iadd d_fe_flags_18 ?_
      refine V_iload_n d_fe_flags_19 rfl rfl ?_
      refine V_if_eq d_fe_flags_20 (fun c20 => ?_) (fun c20 => ?_)
      · skip
        refine V_iconst (v := 0) d_fe_flags_27 (by decide) ?_
        refine V_iadd d_fe_flags_28 ?_
        refine V_ireturn d_fe_flags_29 rfl ?_
        refine ⟨_, rfl, rfl, ?_⟩
        unfold flg
        simp only [*, if_true, if_false]
      · skip
        refine V_iconst (v := 4) d_fe_flags_23 (by decide) ?_
        refine V_goto d_fe_flags_24 ?_
        refine V_iadd d_fe_flags_28 ?_
        refine V_ireturn d_fe_flags_29 rfl ?_
        refine ⟨_, rfl, rfl, ?_⟩
        unfold flg
        simp only [*, if_true, if_false]
    · skip
      refine V_iconst (v := 2) d_fe_flags_13 (by decide) ?_
      refine V_goto d_fe_flags_14 ?_
      refine V_iadd d_fe_flags_18 ?_
      refine V_iload_n d_fe_flags_19 rfl rfl ?_
      refine V_if_eq d_fe_flags_20 (fun c20 => ?_) (fun c20 => ?_)
      · skip
        refine V_iconst (v := 0) d_fe_flags_27 (by decide) ?_
        refine V_iadd d_fe_flags_28 ?_
        refine V_ireturn d_fe_flags_29 rfl ?_
        refine ⟨_, rfl, rfl, ?_⟩
        unfold flg
        simp only [*, if_true, if_false]
      · skip
        refine V_iconst (v := 4) d_fe_flags_23 (by decide) ?_
        refine V_goto d_fe_flags_24 ?_
        refine V_iadd d_fe_flags_28 ?_
        refine V_ireturn d_fe_flags_29 rfl ?_
        refine ⟨_, rfl, rfl, ?_⟩
        unfold flg
        simp only [*, if_true, if_false]
  · skip
    refine V_iconst (v := 1) d_fe_flags_4 (by decide) ?_
    refine V_goto d_fe_flags_5 ?_
    refine V_iload_n d_fe_flags_9 rfl rfl ?_
    refine V_if_eq d_fe_flags_10 (fun c10 => ?_) (fun c10 => ?_)
    · skip
      refine V_iconst (v := 0) d_fe_flags_17 (by decide) ?_
      refine V_iadd d_fe_flags_18 ?_
      refine V_iload_n d_fe_flags_19 rfl rfl ?_
      refine V_if_eq d_fe_flags_20 (fun c20 => ?_) (fun c20 => ?_)
      · skip
        refine V_iconst (v := 0) d_fe_flags_27 (by decide) ?_
        refine V_iadd d_fe_flags_28 ?_
        refine V_ireturn d_fe_flags_29 rfl ?_
        refine ⟨_, rfl, rfl, ?_⟩
        unfold flg
        simp only [*, if_true, if_false]
      · skip
        refine V_iconst (v := 4) d_fe_flags_23 (by decide) ?_
        refine V_goto d_fe_flags_24 ?_
        refine V_iadd d_fe_flags_28 ?_
        refine V_ireturn d_fe_flags_29 rfl ?_
        refine ⟨_, rfl, rfl, ?_⟩
        unfold flg
        simp only [*, if_true, if_false]
    · skip
      refine V_iconst (v := 2) d_fe_flags_13 (by decide) ?_
      refine V_goto d_fe_flags_14 ?_
      refine V_iadd d_fe_flags_18 ?_
      refine V_iload_n d_fe_flags_19 rfl rfl ?_
      refine V_if_eq d_fe_flags_20 (fun c20 => ?_) (fun c20 => ?_)
      · skip
        refine V_iconst (v := 0) d_fe_flags_27 (by decide) ?_
        refine V_iadd d_fe_flags_28 ?_
        refine V_ireturn d_fe_flags_29 rfl ?_
        refine ⟨_, rfl, rfl, ?_⟩
        unfold flg
        simp only [*, if_true, if_false]
      · skip
        refine V_iconst (v := 4) d_fe_flags_23 (by decide) ?_
        refine V_goto d_fe_flags_24 ?_
        refine V_iadd d_fe_flags_28 ?_
        refine V_ireturn d_fe_flags_29 rfl ?_
        refine ⟨_, rfl, rfl, ?_⟩
        unfold flg
        simp only [*, if_true, if_false]
theorem sp_fe_addField (G : Gk) {h : Hp} {a b c n : Nat} {vs ws : List Value} {v cl : Int32} (ha : h a = some (8, [.int v, .ref b, .int (nI n), .int cl])) (hb : h b = some (22, vs)) (hc : h c = some (2, ws)) (hv : vs.length = 8) (h8 : n ≤ 8) : Ct G fe_addField [.ref a, .ref c] h
    (pI fun r h' => (cl ≠ 0 ∧ r = -3 ∧ h' = h) ∨ (cl = 0 ∧ n = 8 ∧ r = -4 ∧ h' = h) ∨ (cl = 0 ∧ n < 8 ∧ r = nI n ∧ h' = hu (hu h b (22, vs.set n (.ref c))) a (8, [.int v, .ref b, .int (nI (n + 1)), .int cl]))) := by
  refine Ct.ofL (M := fe_addField) (lv := [some (.ref a), some (.ref c)]) mdf_fe_addField rfl (Nat.le_of_ble_eq_true rfl) rfl ?_
  refine V_aload_n d_fe_addField_0 rfl rfl ?_
  refine V_getf d_fe_addField_1 fl_fe_83 (by first | assumption | exact hu_self _ _ _ | (simp (disch := first | assumption | (apply Ne.symm; assumption)) only [hu_self, hu_ne]; assumption)) rfl ?_
  refine V_if_eq d_fe_addField_4 (fun c4 => ?_) (fun c4 => ?_)
  · skip
    refine V_aload_n d_fe_addField_10 rfl rfl ?_
    refine V_getf d_fe_addField_11 fl_fe_120 (by first | assumption | exact hu_self _ _ _ | (simp (disch := first | assumption | (apply Ne.symm; assumption)) only [hu_self, hu_ne]; assumption)) rfl ?_
    refine V_bipush (v := 8) d_fe_addField_14 (by decide) ?_
    refine V_icmp_lt d_fe_addField_16 (fun c16 => ?_) (fun c16 => ?_)
    · skip
      have hn : n < 8 := by rcases Nat.lt_or_ge n 8 with w | w; exact w; exact absurd c16 (by rw [show n = 8 by omega]; decide)
      refine V_aload_n d_fe_addField_22 rfl rfl ?_
      refine V_aload_n d_fe_addField_23 rfl rfl ?_
      refine V_callV (N := sh_append) d_fe_addField_24 ml_fe_123 mdf_sh_append wi_sh_append wz_sh_append (sp_sh_append G ha hb hc (by omega) (by omega)) (by first | assumption | exact hu_self _ _ _ | (simp (disch := first | assumption | (apply Ne.symm; assumption)) only [hu_self, hu_ne]; assumption)) ⟨_, rfl, rfl⟩ rfl rfl (by decide) (by decide) (Nat.le_of_ble_eq_true rfl) rfl rfl (kI fun r24 h24 ⟨e24, f24⟩ => ?_)
      subst e24 f24
      refine V_ireturn d_fe_addField_27 rfl ?_
      exact ⟨_, rfl, Or.inr (Or.inr ⟨c4, hn, rfl, rfl⟩)⟩
    · skip
      refine V_bipush (v := -4) d_fe_addField_19 (by decide) ?_
      refine V_ireturn d_fe_addField_21 rfl ?_
      refine ⟨_, rfl, Or.inr (Or.inl ⟨c4, ?_, rfl, rfl⟩)⟩
      rcases Nat.lt_or_ge n 8 with w | w
      · exact absurd (nI_lt w (by omega)) c16
      · omega
  · skip
    refine V_bipush (v := -3) d_fe_addField_7 (by decide) ?_
    refine V_ireturn d_fe_addField_9 rfl ?_
    exact ⟨_, rfl, Or.inl ⟨c4, rfl, rfl⟩⟩
theorem PSi.at {g : Gm} {h : Hp} {s : Mem} {i : Nat} (ivs : IvS s) (hi : i < nS s) (H : PSi g h s i) : h (g.2 (100 + i)) = some (8, [.int (s.2 1 i), .ref (g.2 (200 + i)), .int (nI (nf s i)), .int (b01 (uS s i))]) := by
  have q := H.1.1
  rw [(ivs.2.2.1 i hi).1] at q
  exact q
/-- the field with this number, if there is one -/
def FdA (g : Gm) (h : Hp) (s : Mem) (i : Nat) (f : Int32) (r : Option Nat) : Prop := ((∀ j, j < nf s i → f ≠ nI j) ∧ r = none) ∨ ∃ j c, j < nf s i ∧ f = nI j ∧ Im g h c (2, fdS s i j) ∧ r = some c
theorem sp_fe_fieldAt (G : Gk) {g : Gm} {h : Hp} {s : Mem} {i : Nat} (ivs : IvS s) (hi : i < nS s) (H : PSi g h s i) (f : Int32) : Ct G sh_fieldAt [.ref (g.2 (100 + i)), .int f] h (pQ fun r h' => h = h' ∧ FdA g h s i f r) := by
  have n8 := (ivs.2.2.1 i hi).2
  obtain ⟨L, q1, q2, q3⟩ := H.2
  refine (sp_sh_fieldAt G (H.at ivs hi) q2.1 (by omega) (fun j hj => ?_) f).mono (fun v h' hv => ?_)
  · obtain ⟨a, z1, z2⟩ := q3 j hj
    exact ⟨a, z1⟩
  · obtain ⟨r, e, e2, z⟩ := hv
    refine ⟨r, e, e2, ?_⟩
    rcases z with z | ⟨j, c, z1, z2, z3, z4⟩
    · exact Or.inl z
    · obtain ⟨a, w1, w2⟩ := q3 j z1
      rw [w1] at z3
      cases z3
      exact Or.inr ⟨j, _, z1, z2, w2, z4⟩
theorem lp_cisOf (G : Gk) {g : Gm} {h : Hp} {s : Mem} (X : PX g h s) (S : PS g h s) (ivs : IvS s) (a0 o : Int32) (ho : o ≠ -1) : ∀ (c k : Nat) (a : Int32), k + c = 10 → (a = -1 ∨ ∃ i, i < c ∧ i < nS s ∧ a = nI i) →
    V G fe_isOf (pI fun r h' => h = h' ∧ r = b01 (isOfF (s.2 1) o c a = true)) h 0 0 5 [some (.ref (g.2 2)), some (.int a0), some (.int o), some (.int a), some (.int (nI k))] [] := by
  intro c
  induction c with
  | zero =>
    intro k a hk ha
    obtain rfl : k = 10 := by omega
    have ha1 : a = -1 := ha.elim id (fun ⟨i, h1, _⟩ => by omega)
    subst ha1
    refine V_iload d_fe_isOf_5 rfl ?_
    refine V_bipush (v := 10) d_fe_isOf_7 (by decide) ?_
    refine V_icmp_ge d_fe_isOf_9 (fun c9 => ?_) (fun c9 => ?_)
    · skip
      refine V_iconst (v := 0) d_fe_isOf_40 (by decide) ?_
      refine V_zreturn d_fe_isOf_41 rfl (by first | exact Or.inl rfl | exact Or.inr rfl) ?_
      refine ⟨_, rfl, rfl, (b01_f ?_).symm⟩
      rw [isOfF]
      simp only [decide_eq_true_eq]
      exact fun q => ho q.symm
    · skip
      exact absurd (by decide) c9
  | succ c ih =>
    intro k a hk ha
    obtain ⟨L, l1, l2, l3⟩ := S
    refine V_iload d_fe_isOf_5 rfl ?_
    refine V_bipush (v := 10) d_fe_isOf_7 (by decide) ?_
    refine V_icmp_ge d_fe_isOf_9 (fun c9 => ?_) (fun c9 => ?_)
    · skip
      exact absurd (geN (b := 10) c9 (by omega)) (by omega)
    · skip
      refine V_iload_n d_fe_isOf_12 rfl rfl ?_
      refine V_iconst (v := -1) d_fe_isOf_13 (by decide) ?_
      refine V_icmp_eq d_fe_isOf_14 (fun c14 => ?_) (fun c14 => ?_)
      · skip
        refine V_iconst (v := 0) d_fe_isOf_40 (by decide) ?_
        refine V_zreturn d_fe_isOf_41 rfl (by first | exact Or.inl rfl | exact Or.inr rfl) ?_
        refine ⟨_, rfl, rfl, (b01_f ?_).symm⟩
        rw [isOfF, if_pos (Or.inl c14)]
        simp only [decide_eq_true_eq]
        rw [c14]
        exact fun q => ho q.symm
      · skip
        refine V_iload_n d_fe_isOf_17 rfl rfl ?_
        refine V_iload_n d_fe_isOf_18 rfl rfl ?_
        refine V_icmp_ne d_fe_isOf_19 (fun c19 => ?_) (fun c19 => ?_)
        · skip
          obtain ⟨i, i1, i2, rfl⟩ := ha.resolve_left c14
          refine V_aload_n d_fe_isOf_24 rfl rfl ?_
          refine V_getf d_fe_isOf_25 fl_fe_11 X.1 rfl ?_
          refine V_iload_n d_fe_isOf_28 rfl rfl ?_
          refine V_aald i d_fe_isOf_29 l2.1 (by decide) (by decide) rfl (by omega) (l3 i i2).1 ?_
          refine V_getf d_fe_isOf_30 fl_fe_131 (l3 i i2).2.1.1 rfl ?_
          refine V_istore_n d_fe_isOf_33 rfl (by decide) rfl rfl ?_
          dsimp only [List.set]
          refine V_iinc (v := _) d_fe_isOf_34 rfl rfl (by decide) rfl rfl ?_
          dsimp only [List.set]
          refine V_goto d_fe_isOf_37 ?_
          rw [show Int32.ofInt 1 = 1 from rfl, nI_1]
          rw [isOfF, if_neg (fun q => q.elim c14 c19), cl i (by omega)]
          refine ih (k + 1) _ (by omega) ?_
          rcases ivs.2.2.2 i i2 with q | ⟨j, q1, q2⟩
          · exact Or.inl q
          · exact Or.inr ⟨j, by omega, by omega, q2⟩
        · skip
          refine V_iconst (v := 1) d_fe_isOf_22 (by decide) ?_
          refine V_zreturn d_fe_isOf_23 rfl (by first | exact Or.inl rfl | exact Or.inr rfl) ?_
          refine ⟨_, rfl, rfl, (b01_t ?_).symm⟩
          rw [isOfF, if_pos (Or.inr c19)]
          simp only [decide_eq_true_eq]
          exact c19
theorem sp_fe_isOf (G : Gk) {g : Gm} {h : Hp} {s : Mem} (X : PX g h s) (S : PS g h s) (ivs : IvS s) (a o : Int32) (ho : o ≠ -1) (ha : a = -1 ∨ ∃ i, i < nS s ∧ a = nI i) : Ct G fe_isOf [.ref (g.2 2), .int a, .int o] h (pI fun r h' => h = h' ∧ r = b01 (isOf s a o = true)) := by
  have n10 := ivs.2.1
  refine Ct.ofL (M := fe_isOf) (lv := [some (.ref (g.2 2)), some (.int a), some (.int o), none, none]) mdf_fe_isOf rfl (Nat.le_of_ble_eq_true rfl) rfl ?_
  refine V_iload_n d_fe_isOf_0 rfl rfl ?_
  refine V_istore_n d_fe_isOf_1 rfl (by decide) rfl rfl ?_
  dsimp only [List.set]
  refine V_iconst (v := 0) d_fe_isOf_2 (by decide) ?_
  refine V_istore d_fe_isOf_3 (by decide) rfl rfl ?_
  dsimp only [List.set]
  exact lp_cisOf G X S ivs a o ho 10 0 a (by omega) (ha.imp id (fun ⟨i, h1, h2⟩ => ⟨i, by omega, h1, h2⟩))
