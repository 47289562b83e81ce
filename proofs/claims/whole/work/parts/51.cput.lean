/-! sees, isVetoed, put -/
theorem IvW.s26 {s : Mem} (ivs : IvS s) (ivw : IvW s) {w : Nat} (hw : w < nW s) : s.2 26 w ≠ -1 := by
  obtain ⟨⟨i, h1, h2⟩, _⟩ := ivw.2.2 w hw
  rw [h2]
  exact nI_m1 (by have := ivs.2.1; omega)
theorem sp_fe_sees (G : Gk) {g : Gm} {h : Hp} {s : Mem} (X : PX g h s) (S : PS g h s) (ivs : IvS s) (ivo : IvO s) (ivw : IvW s) {o f w tt : Nat} {vs T : List Value} (t2 : h (g.2 4) = some (25, T)) (u1 : T[o]? = some (.ref tt)) (u2 : h tt = some (10, [.int (s.2 9 o), .ref (g.2 (300 + o))])) (ho : o < nO s) (hw : w < nW s) (hv : h (g.2 (700 + w)) = some (11, .int (s.2 26 w) :: .int (s.2 27 w) :: vs)) : Ct G fe_sees [.ref (g.2 2), .ref (g.2 (700 + w)), .int (nI o), .int (nI f)] h (pI fun r h' => h = h' ∧ r = b01 (seesW s o f w)) := by
  obtain ⟨es, hs⟩ := ivo.2.2 o ho
  have n60 := ivo.2.1
  refine Ct.ofL (M := fe_sees) (lv := [some (.ref (g.2 2)), some (.ref (g.2 (700 + w))), some (.int (nI o)), some (.int (nI f))]) mdf_fe_sees rfl (Nat.le_of_ble_eq_true rfl) rfl ?_
  refine V_aload_n d_fe_sees_0 rfl rfl ?_
  refine V_getf d_fe_sees_1 fl_fe_463 hv rfl ?_
  refine V_iload_n d_fe_sees_4 rfl rfl ?_
  refine V_icmp_ne d_fe_sees_5 (fun c5 => ?_) (fun c5 => ?_)
  · skip
    refine V_iconst (v := 0) d_fe_sees_32 (by decide) ?_
    refine V_zreturn d_fe_sees_33 rfl (by first | exact Or.inl rfl | exact Or.inr rfl) ?_
    exact ⟨_, rfl, rfl, (b01_f (fun q => c5 q.1)).symm⟩
  · skip
    refine V_aload_n d_fe_sees_8 rfl rfl ?_
    refine V_aload_n d_fe_sees_9 rfl rfl ?_
    refine V_getf d_fe_sees_10 fl_fe_17 (by first | assumption | exact X.1 | exact hu_self _ _ _ | (simp (disch := first | assumption | (apply Ne.symm; assumption)) only [hu_self, hu_ne]; assumption)) rfl ?_
    refine V_iload_n d_fe_sees_13 rfl rfl ?_
    refine V_aald o d_fe_sees_14 t2 (by decide) (by decide) rfl (by omega) u1 ?_
    refine V_getf d_fe_sees_15 fl_fe_163 u2 rfl ?_
    rw [es]
    refine V_aload_n d_fe_sees_18 rfl rfl ?_
    refine V_getf d_fe_sees_19 fl_fe_464 hv rfl ?_
    refine V_callV (N := fe_isOf) d_fe_sees_22 ml_fe_232 mdf_fe_isOf wi_fe_isOf wz_fe_isOf (sp_fe_isOf G X S ivs (nI (sh s o)) _ (ivw.s26 ivs hw) (Or.inr ⟨_, hs, rfl⟩)) (by first | assumption | exact X.1 | exact hu_self _ _ _ | (simp (disch := first | assumption | (apply Ne.symm; assumption)) only [hu_self, hu_ne]; assumption)) ⟨_, rfl, rfl⟩ rfl rfl (by decide) (by decide) (Nat.le_of_ble_eq_true rfl) rfl rfl (kI fun r22 h22 ⟨e22, f22⟩ => ?_)
    subst e22 f22
    refine V_if_eq d_fe_sees_25 (fun c25 => ?_) (fun c25 => ?_)
    · skip
      refine V_iconst (v := 0) d_fe_sees_32 (by decide) ?_
      refine V_zreturn d_fe_sees_33 rfl (by first | exact Or.inl rfl | exact Or.inr rfl) ?_
      exact ⟨_, rfl, rfl, (b01_f (fun q => b01_e c25 q.2)).symm⟩
    · skip
      refine V_iconst (v := 1) d_fe_sees_28 (by decide) ?_
      refine V_goto d_fe_sees_29 ?_
      refine V_zreturn d_fe_sees_33 rfl (by first | exact Or.inl rfl | exact Or.inr rfl) ?_
      exact ⟨_, rfl, rfl, (b01_t ⟨c5, b01_ne c25⟩).symm⟩
theorem lp_cvet (G : Gk) {g : Gm} {h : Hp} {s : Mem} (R : RB g h s) (ivs : IvS s) (ivo : IvO s) (ivw : IvW s) {o f : Nat} {v : Int32} (ho : o < nO s) : ∀ (c w : Nat) (l5 : Option Value), w + c = nW s → ¬ vetM s o f v w →
    V G fe_isVetoed (pI fun r h' => h = h' ∧ r = b01 (vetM s o f v (nW s))) h 0 0 3 [some (.ref (g.2 2)), some (.int (nI o)), some (.int (nI f)), some (.int v), some (.int (nI w)), l5] [] := by
  have X := R.1
  obtain ⟨L, l1, l2, l3⟩ := R.2.2.2.2.1
  obtain ⟨T, t1, t2, t3⟩ := R.2.2.1
  obtain ⟨tt, u1, u2, _⟩ := t3 o ho
  have n10 := ivw.2.1
  intro c
  induction c with
  | zero =>
    intro w l5 hw hno
    obtain rfl : w = nW s := by omega
    refine V_iload d_fe_isVetoed_3 rfl ?_
    refine V_aload_n d_fe_isVetoed_5 rfl rfl ?_
    refine V_getf d_fe_isVetoed_6 fl_fe_298 (by first | assumption | exact X.1 | exact hu_self _ _ _ | (simp (disch := first | assumption | (apply Ne.symm; assumption)) only [hu_self, hu_ne]; assumption)) rfl ?_
    rw [ivw.1]
    refine V_icmp_ge d_fe_isVetoed_9 (fun c9 => ?_) (fun c9 => ?_)
    · skip
      refine V_iconst (v := 0) d_fe_isVetoed_57 (by decide) ?_
      refine V_zreturn d_fe_isVetoed_58 rfl (by first | exact Or.inl rfl | exact Or.inr rfl) ?_
      exact ⟨_, rfl, rfl, (b01_f hno).symm⟩
    · skip
      exact absurd (ltN c9 (by omega)) (by omega)
  | succ c ih =>
    intro w l5 hw hno
    have W1 := (l3 w (by omega)).2.1.1
    have hstep : ¬ (s.2 28 w ≠ 0 ∧ seesW s o f w ∧ s.2 29 w < v) → ¬ vetM s o f v (w + 1) := fun q ⟨w', h1, h2⟩ => by
      by_cases e : w' = w
      · subst e; exact q h2
      · exact hno ⟨w', by omega, h2⟩
    refine V_iload d_fe_isVetoed_3 rfl ?_
    refine V_aload_n d_fe_isVetoed_5 rfl rfl ?_
    refine V_getf d_fe_isVetoed_6 fl_fe_298 (by first | assumption | exact X.1 | exact hu_self _ _ _ | (simp (disch := first | assumption | (apply Ne.symm; assumption)) only [hu_self, hu_ne]; assumption)) rfl ?_
    rw [ivw.1]
    refine V_icmp_ge d_fe_isVetoed_9 (fun c9 => ?_) (fun c9 => ?_)
    · skip
      exact absurd (geN c9 (by omega)) (by omega)
    · skip
      refine V_aload_n d_fe_isVetoed_12 rfl rfl ?_
      refine V_getf d_fe_isVetoed_13 fl_fe_29 (by first | assumption | exact X.1 | exact hu_self _ _ _ | (simp (disch := first | assumption | (apply Ne.symm; assumption)) only [hu_self, hu_ne]; assumption)) rfl ?_
      refine V_iload d_fe_isVetoed_16 rfl ?_
      refine V_aald w d_fe_isVetoed_18 l2.1 (by decide) (by decide) rfl (by omega) (l3 w (by omega)).1 ?_
      refine V_astore d_fe_isVetoed_19 (by decide) rfl rfl ?_
      dsimp only [List.set]
      refine V_aload d_fe_isVetoed_21 rfl ?_
      refine V_getf d_fe_isVetoed_23 fl_fe_301 W1 rfl ?_
      refine V_if_eq d_fe_isVetoed_26 (fun c26 => ?_) (fun c26 => ?_)
      · skip
        refine V_iinc (v := _) d_fe_isVetoed_51 rfl rfl (by decide) rfl rfl ?_
        dsimp only [List.set]
        refine V_goto d_fe_isVetoed_54 ?_
        rw [show Int32.ofInt 1 = 1 from rfl, nI_1]
        exact ih (w + 1) _ (by omega) (hstep (fun q => q.1 c26))
      · skip
        refine V_iload_n d_fe_isVetoed_29 rfl rfl ?_
        refine V_aload d_fe_isVetoed_30 rfl ?_
        refine V_getf d_fe_isVetoed_32 fl_fe_304 W1 rfl ?_
        refine V_icmp_le d_fe_isVetoed_35 (fun c35 => ?_) (fun c35 => ?_)
        · skip
          refine V_iinc (v := _) d_fe_isVetoed_51 rfl rfl (by decide) rfl rfl ?_
          dsimp only [List.set]
          refine V_goto d_fe_isVetoed_54 ?_
          rw [show Int32.ofInt 1 = 1 from rfl, nI_1]
          exact ih (w + 1) _ (by omega) (hstep (fun q => Int32.lt_irrefl (Int32.lt_of_lt_of_le q.2.2 c35)))
        · skip
          refine V_aload_n d_fe_isVetoed_38 rfl rfl ?_
          refine V_aload d_fe_isVetoed_39 rfl ?_
          refine V_iload_n d_fe_isVetoed_41 rfl rfl ?_
          refine V_iload_n d_fe_isVetoed_42 rfl rfl ?_
          refine V_callV (N := fe_sees) d_fe_isVetoed_43 ml_fe_307 mdf_fe_sees wi_fe_sees wz_fe_sees (sp_fe_sees G X R.2.1 ivs ivo ivw t2.1 u1 u2.1 ho (by omega) W1) (by first | assumption | exact X.1 | exact hu_self _ _ _ | (simp (disch := first | assumption | (apply Ne.symm; assumption)) only [hu_self, hu_ne]; assumption)) ⟨_, rfl, rfl⟩ rfl rfl (by decide) (by decide) (Nat.le_of_ble_eq_true rfl) rfl rfl (kI fun r43 h43 ⟨e43, f43⟩ => ?_)
          subst e43 f43
          refine V_if_eq d_fe_isVetoed_46 (fun c46 => ?_) (fun c46 => ?_)
          · skip
            refine V_iinc (v := _) d_fe_isVetoed_51 rfl rfl (by decide) rfl rfl ?_
            dsimp only [List.set]
            refine V_goto d_fe_isVetoed_54 ?_
            rw [show Int32.ofInt 1 = 1 from rfl, nI_1]
            exact ih (w + 1) _ (by omega) (hstep (fun q => b01_e c46 q.2.1))
          · skip
            refine V_iconst (v := 1) d_fe_isVetoed_49 (by decide) ?_
            refine V_zreturn d_fe_isVetoed_50 rfl (by first | exact Or.inl rfl | exact Or.inr rfl) ?_
            exact ⟨_, rfl, rfl, (b01_t ⟨w, by omega, c26, b01_ne c46, Int32.not_le.mp c35⟩).symm⟩
theorem sp_fe_isVetoed (G : Gk) {g : Gm} {h : Hp} {s : Mem} (R : RB g h s) (ivs : IvS s) (ivo : IvO s) (ivw : IvW s) {o f : Nat} (ho : o < nO s) (v : Int32) : Ct G fe_isVetoed [.ref (g.2 2), .int (nI o), .int (nI f), .int v] h (pI fun r h' => h = h' ∧ r = b01 (vetM s o f v (nW s))) := by
  refine Ct.ofL (M := fe_isVetoed) (lv := [some (.ref (g.2 2)), some (.int (nI o)), some (.int (nI f)), some (.int v), none, none]) mdf_fe_isVetoed rfl (Nat.le_of_ble_eq_true rfl) rfl ?_
  refine V_iconst (v := 0) d_fe_isVetoed_0 (by decide) ?_
  refine V_istore d_fe_isVetoed_1 (by decide) rfl rfl ?_
  dsimp only [List.set]
  exact lp_cvet G R ivs ivo ivw ho (nW s) 0 none (by omega) (fun ⟨w, h1, _⟩ => by omega)
/-- what a plain field shows, whatever row stands there -/
theorem sp_fe_valueP (G : Gk) {g : Gm} {h : Hp} {s : Mem} (X : PX g h s) (S : PS g h s) (ivs : IvS s) (ivo : IvO s) {o j t ar n : Nat} {F : Nat → Int32} {T W : List Value} (ho : o < nO s) (hj : j < nf s (sh s o)) (hk : s.2 3 (8 * sh s o + j) ≠ 3) (t2 : h (g.2 4) = some (25, T)) (u1 : T[o]? = some (.ref t)) (u2 : h t = some (10, [.int (s.2 9 o), .ref (g.2 (300 + o))])) (w2 : h (g.2 (300 + o)) = some (28, W)) (y1 : W[j]? = some (.ref ar)) (y2 : h ar = some (20, arrL n F)) (hp : s.2 3 (8 * sh s o + j) = 0 ∨ s.2 3 (8 * sh s o + j) = 1 → 0 < n) :
    Ct G fe_valueOf [.ref (g.2 2), .int (nI o), .int (nI j)] h (pI fun r h' => h = h' ∧ r = plV (s.2 3 (8 * sh s o + j)) n F) := by
  obtain ⟨L, l1, l2, l3⟩ := S
  obtain ⟨es, hs⟩ := ivo.2.2 o ho
  have n10 := ivs.2.1
  have n60 := ivo.2.1
  have n8 := (ivs.2.2.1 _ hs).2
  obtain ⟨L2, m1, m2, m3⟩ := (l3 _ hs).2.2
  have hsh := (l3 _ hs).2.at ivs hs
  obtain ⟨af, x1, x2⟩ := m3 j hj
  refine Ct.ofL (M := fe_valueOf) (lv := [some (.ref (g.2 2)), some (.int (nI o)), some (.int (nI j)), none, none]) mdf_fe_valueOf rfl (Nat.le_of_ble_eq_true rfl) rfl ?_
  refine V_aload_n d_fe_valueOf_0 rfl rfl ?_
  refine V_getf d_fe_valueOf_1 fl_fe_17 (by first | assumption | exact X.1 | exact hu_self _ _ _ | (simp (disch := first | assumption | (apply Ne.symm; assumption)) only [hu_self, hu_ne]; assumption)) rfl ?_
  refine V_iload_n d_fe_valueOf_4 rfl rfl ?_
  refine V_aald o d_fe_valueOf_5 t2 (by decide) (by decide) rfl (by omega) u1 ?_
  refine V_astore_n d_fe_valueOf_6 rfl (by decide) rfl rfl ?_
  dsimp only [List.set]
  refine V_aload_n d_fe_valueOf_7 rfl rfl ?_
  refine V_getf d_fe_valueOf_8 fl_fe_11 (by first | assumption | exact X.1 | exact hu_self _ _ _ | (simp (disch := first | assumption | (apply Ne.symm; assumption)) only [hu_self, hu_ne]; assumption)) rfl ?_
  refine V_aload_n d_fe_valueOf_11 rfl rfl ?_
  refine V_getf d_fe_valueOf_12 fl_fe_163 u2 rfl ?_
  refine V_aald (sh s o) d_fe_valueOf_15 l2.1 (by decide) (by decide) es (by omega) (l3 _ hs).1 ?_
  refine V_getf d_fe_valueOf_16 fl_fe_144 hsh rfl ?_
  refine V_iload_n d_fe_valueOf_19 rfl rfl ?_
  refine V_aald j d_fe_valueOf_20 m2.1 (by decide) (by decide) rfl (by omega) x1 ?_
  refine V_astore d_fe_valueOf_21 (by decide) rfl rfl ?_
  dsimp only [List.set]
  refine V_aload d_fe_valueOf_23 rfl ?_
  refine V_getf d_fe_valueOf_25 fl_fe_109 x2.1 rfl ?_
  refine V_iconst (v := 3) d_fe_valueOf_28 (by decide) ?_
  refine V_icmp_eq d_fe_valueOf_29 (fun c29 => ?_) (fun c29 => ?_)
  · skip
    exact absurd c29 hk
  · skip
    refine V_aload d_fe_valueOf_32 rfl ?_
    refine V_aload_n d_fe_valueOf_34 rfl rfl ?_
    refine V_getf d_fe_valueOf_35 fl_fe_140 u2 rfl ?_
    refine V_iload_n d_fe_valueOf_38 rfl rfl ?_
    refine V_aald j d_fe_valueOf_39 w2 (by decide) (by decide) rfl (by omega) y1 ?_
    refine V_callV (N := fd_plainValue) d_fe_valueOf_40 ml_fe_179 mdf_fd_plainValue wi_fd_plainValue wz_fd_plainValue (sp_fd_plainValue G x2.1 y2 hp) x2.1 ⟨_, rfl, rfl⟩ rfl rfl (by decide) (by decide) (Nat.le_of_ble_eq_true rfl) rfl rfl (kI fun r40 h40 ⟨e40, f40⟩ => ?_)
    subst e40 f40
    refine V_ireturn d_fe_valueOf_43 rfl ?_
    exact ⟨_, rfl, rfl, rfl⟩
/-- the memory with another row at (o, f) -/
def PutR (s : Mem) (o f n : Nat) (F : Nat → Int32) (t : Mem) : Prop := (∀ q, coF q = true → t.1 q = s.1 q) ∧ (∀ q, coA q = true → q ≠ 10 → q ≠ 11 → t.2 q = s.2 q) ∧ (∀ x, x ≠ 8 * o + f → t.2 10 x = s.2 10 x) ∧ (∀ x, x < 6 * (8 * o + f) ∨ 6 * (8 * o + f) + 6 ≤ x → t.2 11 x = s.2 11 x) ∧ t.2 10 (8 * o + f) = plV (s.2 3 (8 * sh s o + f)) n F ∧ (s.2 3 (8 * sh s o + f) = 2 → ∀ i, i < n → t.2 11 (6 * (8 * o + f) + i) = F i)
/-- a row's length is right for its kind -/
def LnOK (s : Mem) (o f n : Nat) : Prop := (s.2 3 (8 * sh s o + f) = 0 → n = 1) ∧ (s.2 3 (8 * sh s o + f) = 1 → n = 1) ∧ (s.2 3 (8 * sh s o + f) = 2 → n ≤ 6)
/-- a watch once it has been told -/
def PWe (g : Gm) (h : Hp) (s : Mem) (o f : Nat) (a b : Int32) (w : Nat) : Prop := cs (seesW s o f w ∧ wc s w < 40) (Cl g h (700 + w) (11, [.int (s.2 26 w), .int (s.2 27 w), .int (s.2 28 w), .int (s.2 29 w), .ref (g.2 (800 + w)), .ref (g.2 (900 + w)), .ref (g.2 (1000 + w)), .int (nI (wc s w + 1))]) ∧
  ∃ u v x, Cl g h (800 + w) (20, arrL 40 u) ∧ Cl g h (900 + w) (20, arrL 40 v) ∧ Cl g h (1000 + w) (20, arrL 40 x) ∧ (∀ i, i < wc s w → u i = s.2 31 (3 * (40 * w + i)) ∧ v i = s.2 31 (3 * (40 * w + i) + 1) ∧ x i = s.2 31 (3 * (40 * w + i) + 2)) ∧ u (wc s w) = nI o ∧ v (wc s w) = a ∧ x (wc s w) = b) (PWi g h s w)
theorem PWe.st {g g' : Gm} {h h' : Hp} {D : Nat → Prop} {s : Mem} {o f w : Nat} {a b : Int32} (H : PWe g h s o f a b w) (S : Stq g h D g' h') (h1 : D (700 + w)) (h2 : D (800 + w)) (h3 : D (900 + w)) (h4 : D (1000 + w)) : PWe g' h' s o f a b w := by
  rcases H with ⟨q, q1, u, v, x, q2, q3, q4, q5⟩ | ⟨q, q1⟩
  · refine cs.mt q ⟨?_, u, v, x, q2.st S h2, q3.st S h3, q4.st S h4, q5⟩
    rw [S.2 _ h2, S.2 _ h3, S.2 _ h4]
    exact q1.st S h1
  · exact cs.mf q (q1.st S h1 h2 h3 h4)
theorem lp_cput (G : Gk) {g : Gm} {h0 : Hp} {s : Mem} {o f : Nat} {a b : Int32} {l3 : Option Value} (X0 : PX g h0 s) (S0 : PS g h0 s) {tt : Nat} {T : List Value} (cT : Cl g h0 4 (25, T)) (u1 : T[o]? = some (.ref tt)) (u2 : Im g h0 tt (10, [.int (s.2 9 o), .ref (g.2 (300 + o))])) (ivs : IvS s) (ivo : IvO s) (ivw : IvW s) (ho : o < nO s) {L : List Value} (hL : L.length = 10) (hL6 : Cl g h0 6 (26, L)) (hLw : ∀ w, w < nW s → L[w]? = some (.ref (g.2 (700 + w)))) : ∀ (c w : Nat) (h : Hp), w + c = nW s → Stq g h0 (fun r => r < 700 ∨ 1100 ≤ r) g h → (∀ w', w' < w → PWe g h s o f a b w') → (∀ w', w ≤ w' → w' < nW s → PWi g h s w') →
    V G fe_put (pN fun h' => Stq g h0 (fun r => r < 700 ∨ 1100 ≤ r) g h' ∧ ∀ w, w < nW s → PWe g h' s o f a b w) h 0 0 31 [some (.ref (g.2 2)), some (.int (nI o)), some (.int (nI f)), l3, some (.int a), some (.int b), some (.int (nI w))] [] := by
  have n10 := ivw.2.1
  intro c
  induction c with
  | zero =>
    intro w h hw S hd hr
    obtain rfl : w = nW s := by omega
    have X := X0.sg S (by omega)
    refine V_iload d_fe_put_31 rfl ?_
    refine V_aload_n d_fe_put_33 rfl rfl ?_
    refine V_getf d_fe_put_34 fl_fe_298 (by first | assumption | exact X.1 | exact hu_self _ _ _ | (simp (disch := first | assumption | (apply Ne.symm; assumption)) only [hu_self, hu_ne]; assumption)) rfl ?_
    rw [ivw.1]
    refine V_icmp_ge d_fe_put_37 (fun c37 => ?_) (fun c37 => ?_)
    · skip
      refine V_return d_fe_put_77 rfl ?_
      exact ⟨rfl, S, hd⟩
    · skip
      exact absurd (ltN c37 (by omega)) (by omega)
  | succ c ih =>
    intro w h hw S hd hr
    have X := X0.sg S (by omega)
    have PSh := S0.st ivs.2.1 S (by omega) (by omega) (fun r _ _ => by omega)
    have Hw := hr w (Nat.le_refl _) (by omega)
    obtain ⟨W1, u, v, x, q1, q2, q3, q4⟩ := Hw
    obtain ⟨_, _, ewc, w40⟩ := ivw.2.2 w (by omega)
    rw [ewc] at W1
    have h6 := hL6.st S (by omega)
    refine V_iload d_fe_put_31 rfl ?_
    refine V_aload_n d_fe_put_33 rfl rfl ?_
    refine V_getf d_fe_put_34 fl_fe_298 (by first | assumption | exact X.1 | exact hu_self _ _ _ | (simp (disch := first | assumption | (apply Ne.symm; assumption)) only [hu_self, hu_ne]; assumption)) rfl ?_
    rw [ivw.1]
    refine V_icmp_ge d_fe_put_37 (fun c37 => ?_) (fun c37 => ?_)
    · skip
      exact absurd (geN c37 (by omega)) (by omega)
    · skip
      refine V_aload_n d_fe_put_40 rfl rfl ?_
      refine V_aload_n d_fe_put_41 rfl rfl ?_
      refine V_getf d_fe_put_42 fl_fe_29 (by first | assumption | exact X.1 | exact hu_self _ _ _ | (simp (disch := first | assumption | (apply Ne.symm; assumption)) only [hu_self, hu_ne]; assumption)) rfl ?_
      refine V_iload d_fe_put_45 rfl ?_
      refine V_aald w d_fe_put_47 h6.1 (by decide) (by decide) rfl (by omega) (hLw w (by omega)) ?_
      refine V_iload_n d_fe_put_48 rfl rfl ?_
      refine V_iload_n d_fe_put_49 rfl rfl ?_
      refine V_callV (N := fe_sees) d_fe_put_50 ml_fe_307 mdf_fe_sees wi_fe_sees wz_fe_sees (sp_fe_sees G X PSh ivs ivo ivw (cT.st S (by omega)).1 u1 (u2.st S (by omega)).1 ho (by omega) W1.1) (by first | assumption | exact X.1 | exact hu_self _ _ _ | (simp (disch := first | assumption | (apply Ne.symm; assumption)) only [hu_self, hu_ne]; assumption)) ⟨_, rfl, rfl⟩ rfl rfl (by decide) (by decide) (Nat.le_of_ble_eq_true rfl) rfl rfl (kI fun r50 h50 ⟨e50, f50⟩ => ?_)
      subst e50 f50
      refine V_if_eq d_fe_put_53 (fun c53 => ?_) (fun c53 => ?_)
      · skip
        refine V_iinc (v := _) d_fe_put_71 rfl rfl (by decide) rfl rfl ?_
        dsimp only [List.set]
        refine V_goto d_fe_put_74 ?_
        rw [show Int32.ofInt 1 = 1 from rfl, nI_1]
        refine ih (w + 1) h (by omega) S (fun w' hw' => ?_) (fun w' h1 h2 => hr w' (by omega) h2)
        by_cases e : w' = w
        · (subst e; exact cs.mf (fun q => b01_e c53 q.1) (hr w' (Nat.le_refl _) (by omega)))
        · exact hd w' (by omega)
      · skip
        refine V_aload_n d_fe_put_56 rfl rfl ?_
        refine V_getf d_fe_put_57 fl_fe_29 (by first | assumption | exact X.1 | exact hu_self _ _ _ | (simp (disch := first | assumption | (apply Ne.symm; assumption)) only [hu_self, hu_ne]; assumption)) rfl ?_
        refine V_iload d_fe_put_60 rfl ?_
        refine V_aald w d_fe_put_62 h6.1 (by decide) (by decide) rfl (by omega) (hLw w (by omega)) ?_
        refine V_iload_n d_fe_put_63 rfl rfl ?_
        refine V_iload d_fe_put_64 rfl ?_
        refine V_iload d_fe_put_66 rfl ?_
        refine V_callV (N := wa_write) d_fe_put_68 ml_fe_364 mdf_wa_write wi_wa_write wz_wa_write (sp_wa_write G W1.1 q1.1 q2.1 q3.1 (q1.ne q2 (by omega)) (q1.ne q3 (by omega)) (q2.ne q3 (by omega)) w40 (nI o) a b) W1.1 ⟨_, rfl, rfl⟩ rfl rfl (by decide) (by decide) (Nat.le_of_ble_eq_true rfl) rfl rfl (kN fun h68 p68 => ?_)
        refine V_iinc (v := _) d_fe_put_71 rfl rfl (by decide) rfl rfl ?_
        dsimp only [List.set]
        refine V_goto d_fe_put_74 ?_
        rw [show Int32.ofInt 1 = 1 from rfl, nI_1]
        rcases p68 with ⟨z1, z2⟩ | ⟨z1, z2, z3, z4, z5, z6⟩
        · (subst z2; refine ih (w + 1) h68 (by omega) S (fun w' hw' => ?_) (fun w' h1 h2 => hr w' (by omega) h2); by_cases e : w' = w; (subst e; exact cs.mf (fun q => by omega) (hr w' (Nat.le_refl _) (by omega))); exact hd w' (by omega))
        have S1 : Stq g h (fun r => r ≠ 700 + w ∧ r ≠ 800 + w ∧ r ≠ 900 + w ∧ r ≠ 1000 + w) g h68 := Stq.of (fun y _ hy => z6 y (fun e => hy.1 (by rw [e]; exact W1.2)) (fun e => hy.2.1 (by rw [e]; exact q1.2)) (fun e => hy.2.2.1 (by rw [e]; exact q2.2)) (fun e => hy.2.2.2 (by rw [e]; exact q3.2)))
        refine ih (w + 1) h68 (by omega) (S.tr (S1.mo (fun r hr => by omega))) (fun w' hw' => ?_) (fun w' h1 h2 => (hr w' (by omega) h2).st S1 (by omega) (by omega) (by omega) (by omega))
        by_cases e : w' = w
        · (subst e; exact cs.mt ⟨b01_ne c53, z1⟩ ⟨⟨z2, W1.2⟩, _, _, _, ⟨z3, q1.2⟩, ⟨z4, q2.2⟩, ⟨z5, q3.2⟩, fun i hi => by rw [pk_un (by omega), pk_un (by omega), pk_un (by omega)]; exact q4 i hi, pk_us, pk_us, pk_us⟩)
        · exact (hd w' (by omega)).st S1 (by omega) (by omega) (by omega) (by omega)
theorem PutR.ns {s t : Mem} {o f n : Nat} {F : Nat → Int32} (H : PutR s o f n F t) : nS t = nS s ∧ nO t = nO s ∧ nW t = nW s ∧ nP t = nP s ∧ nf t = nf s ∧ sh t = sh s := by
  refine ⟨?_, ?_, ?_, ?_, ?_, ?_⟩
  · unfold nS; rw [H.1 0 rfl]
  · unfold nO; rw [H.1 8 rfl]
  · unfold nW; rw [H.1 25 rfl]
  · unfold nP; rw [H.1 33 rfl]
  · funext i; unfold nf; rw [H.2.1 2 rfl (by omega) (by omega)]
  · funext i; unfold sh; rw [H.2.1 9 rfl (by omega) (by omega)]
/-- behind a change of a row and its notes: as far as the class sees it -/
theorem RB.put {g : Gm} {h h' : Hp} {s t1 t : Mem} (R : RB g h s) (hm : Sm s) (ivs : IvS s) (ivo : IvO s) (ivw : IvW s) (ivf : IvF s) (ivv : IvV s) {o f n ra tt : Nat} {F : Nat → Int32} {T W : List Value} (ho : o < nO s) (hf : f < nf s (sh s o)) (hk : s.2 3 (8 * sh s o + f) ≠ 3) (hn : LnOK s o f n) (hP : PutR s o f n F t1) (hN : NoteE t1 o f (s.2 10 (8 * o + f)) (nW s) t)
    (S : Stq g h (fun r => r ≠ 300 + o ∧ (r < 700 ∨ 1100 ≤ r)) g h') (cT : Cl g h 4 (25, T)) (u1 : T[o]? = some (.ref tt)) (u2 : Im g h tt (10, [.int (s.2 9 o), .ref (g.2 (300 + o))])) (hW : POi g h s o W) (c3 : Cl g h' (300 + o) (28, W.set f (.ref ra))) (ir : Im g h' ra (20, arrL n F)) (hw : ∀ w, w < nW s → PWe g h' s o f (s.2 10 (8 * o + f)) (plV (s.2 3 (8 * sh s o + f)) n F) w) : RB g h' t := by
  have n60 := ivo.2.1
  have n8 := (ivs.2.2.1 _ (ivo.2.2 o ho).2).2
  obtain ⟨z1, z2, z3, z4, z5, z6⟩ := hP.ns
  obtain ⟨N1, N2, N3, N4, N5⟩ := hN
  obtain ⟨P1, P2, P3, P4, P5, P6⟩ := hP
  have e1 : ∀ q, coF q = true → t.1 q = s.1 q := fun q hq => by rw [N1]; exact P1 q hq
  have e2 : ∀ q, coA q = true → q ≠ 10 → q ≠ 11 → q ≠ 30 → q ≠ 31 → t.2 q = s.2 q := fun q hq a b c d => by rw [N2 q c d]; exact P2 q hq a b
  have e10 : t.2 10 = t1.2 10 := N2 10 (by omega) (by omega)
  have e11 : t.2 11 = t1.2 11 := N2 11 (by omega) (by omega)
  have tS : nS t = nS s := by unfold nS; rw [e1 0 rfl]
  have tO : nO t = nO s := by unfold nO; rw [e1 8 rfl]
  have tP : nP t = nP s := by unfold nP; rw [e1 33 rfl]
  have tW : nW t = nW s := by unfold nW; rw [e1 25 rfl]
  have tf : nf t = nf s := by funext i; unfold nf; rw [e2 2 rfl (by omega) (by omega) (by omega) (by omega)]
  have ts : sh t = sh s := by funext i; unfold sh; rw [e2 9 rfl (by omega) (by omega) (by omega) (by omega)]
  have tu : uS t = uS s := by funext i; unfold uS; rw [tS, tO, e2 1 rfl (by omega) (by omega) (by omega) (by omega), e2 9 rfl (by omega) (by omega) (by omega) (by omega)]
  have tfd : fdS t = fdS s := by funext i j; unfold fdS; rw [e2 3 rfl (by omega) (by omega) (by omega) (by omega), e2 4 rfl (by omega) (by omega) (by omega) (by omega), e2 5 rfl (by omega) (by omega) (by omega) (by omega), e2 6 rfl (by omega) (by omega) (by omega) (by omega), e2 7 rfl (by omega) (by omega) (by omega) (by omega)]
  have t3 : t.2 3 = s.2 3 := e2 3 rfl (by omega) (by omega) (by omega) (by omega)
  have w1s : seesW t1 = seesW s := by
    funext a b c
    unfold seesW isOf
    rw [P2 27 rfl (by omega) (by omega), P2 26 rfl (by omega) (by omega), P2 1 rfl (by omega) (by omega), z6]
  have wcs : wc t1 = wc s := by funext i; unfold wc; rw [P2 30 rfl (by omega) (by omega)]
  have k0 : s.2 3 (8 * sh s o + f) = 0 ∨ s.2 3 (8 * sh s o + f) = 1 ∨ s.2 3 (8 * sh s o + f) = 2 := by
    rcases ivf _ (ivo.2.2 o ho).2 f hf with y | ⟨y | y, _⟩ | ⟨y, _⟩
    · exact Or.inl y
    · exact Or.inr (Or.inl y)
    · exact Or.inr (Or.inr y)
    · exact absurd y hk
  obtain ⟨RX, RS, ⟨T0, a1, a2, a3⟩, RP, RW, RZ⟩ := R
  have eT : T0 = T := by have := a2.1; rw [cT.1] at this; cases this; rfl
  subst eT
  refine ⟨?_, ?_, ?_, ?_, ?_, ?_⟩
  · exact (RX.sg S (by omega)).co (e1 0 rfl) (e1 8 rfl) (e1 33 rfl) (e1 25 rfl)
  · exact (RS.st hm.1 S (by omega) (by omega) (fun r _ _ => by omega)).co tS (fun i hi => ⟨by rw [e2 1 rfl (by omega) (by omega) (by omega) (by omega)], by rw [e2 2 rfl (by omega) (by omega) (by omega) (by omega)], by rw [tu], fun j _ => by rw [tfd]⟩)
  · refine ⟨T0, a1, cT.st S (by omega), fun o' ho' => ?_⟩
    rw [tO] at ho'
    by_cases z : o' = o
    · subst z
      refine ⟨tt, u1, by rw [e2 9 rfl (by omega) (by omega) (by omega) (by omega)]; exact u2.st S (by omega), W.set f (.ref ra), by rw [List.length_set, tf, ts]; exact hW.1, c3, fun f' hf' => ?_⟩
      rw [tf, ts] at hf'
      by_cases y : f' = f
      · subst y
        refine ⟨ra, List.getElem?_set_self (by rw [hW.1]; exact hf), ?_⟩
        have q1 : rowN t o' f' = n := by
          unfold rowN rwN
          rw [ts, t3, e10, P5]
          rcases k0 with y | y | y
          · rw [y]; exact (hn.1 y).symm
          · rw [y]; exact (hn.2.1 y).symm
          · rw [y, if_pos rfl]
            unfold plV
            rw [if_neg (by decide)]
            exact cl n (by have := hn.2.2 y; omega)
        have q2 : arrL (rowN t o' f') (rowF t o' f') = arrL n F := by
          rw [q1]
          refine arrL_congr (fun i hi => ?_)
          unfold rowF rwF
          rw [ts, t3, e10, e11, P5]
          rcases k0 with y | y | y
          · have := hn.1 y
            rw [y, if_neg (by decide)]
            unfold plV
            rw [if_pos (Or.inl rfl), show i = 0 by omega]
          · have := hn.2.1 y
            rw [y, if_neg (by decide)]
            unfold plV
            rw [if_pos (Or.inr rfl), show i = 0 by omega]
          · rw [if_pos y]
            exact P6 y i hi
        rw [q2]
        exact ir
      · obtain ⟨a, b1, b2⟩ := hW.2.2 f' hf'
        refine ⟨a, by rw [List.getElem?_set_ne (by omega)]; exact b1, ?_⟩
        have q1 : rowN t o' f' = rowN s o' f' := by unfold rowN; rw [ts, t3, e10, P3 _ (by omega)]
        have q2 : ∀ i, i < rowN s o' f' → rowF t o' f' i = rowF s o' f' i := by
          intro i hi
          unfold rowF rwF
          rw [ts, t3, e10, e11, P3 _ (by omega)]
          by_cases y2 : s.2 3 (8 * sh s o' + f') = 2
          · rw [if_pos y2, if_pos y2]
            have h6 := (row_in ivv ho' hf' (Or.inr y2)).2
            exact P4 _ (by omega)
          · rw [if_neg y2, if_neg y2]
        rw [q1, arrL_congr q2]
        exact b2.st S (by omega)
    · obtain ⟨b, b1, b2, W', b3, b4, b5⟩ := a3 o' ho'
      have n8' := (ivs.2.2.1 _ (ivo.2.2 o' ho').2).2
      refine ⟨b, b1, by rw [e2 9 rfl (by omega) (by omega) (by omega) (by omega)]; exact b2.st S (by omega), W', by rw [tf, ts]; exact b3, b4.st S (by omega), fun f' hf' => ?_⟩
      rw [tf, ts] at hf'
      obtain ⟨a, d1, d2⟩ := b5 f' hf'
      refine ⟨a, d1, ?_⟩
      have hne : 8 * o' + f' ≠ 8 * o + f := by omega
      have q1 : rowN t o' f' = rowN s o' f' := by unfold rowN; rw [ts, t3, e10, P3 _ hne]
      have q2 : ∀ i, i < rowN s o' f' → rowF t o' f' i = rowF s o' f' i := by
        intro i hi
        unfold rowF rwF
        rw [ts, t3, e10, e11, P3 _ hne]
        by_cases y2 : s.2 3 (8 * sh s o' + f') = 2
        · rw [if_pos y2, if_pos y2]
          have h6 := (row_in ivv ho' hf' (Or.inr y2)).2
          exact P4 _ (by omega)
        · rw [if_neg y2, if_neg y2]
      rw [q1, arrL_congr q2]
      exact d2.st S (by omega)
  · exact (RP.st hm.2.2.1 S (by omega) (fun r _ _ => by omega)).co tP (fun p _ => ⟨by rw [e2 34 rfl (by omega) (by omega) (by omega) (by omega)], fun j _ => ⟨by rw [e2 35 rfl (by omega) (by omega) (by omega) (by omega)], by rw [e2 36 rfl (by omega) (by omega) (by omega) (by omega)]⟩⟩)
  · obtain ⟨L, m1, m2, m3⟩ := RW
    refine ⟨L, m1, m2.st S (by omega), fun w hw' => ?_⟩
    rw [tW] at hw'
    obtain ⟨_, _, ewc, w40⟩ := ivw.2.2 w hw'
    refine ⟨(m3 w hw').1, ?_⟩
    unfold PWi
    rw [e2 26 rfl (by omega) (by omega) (by omega) (by omega), e2 27 rfl (by omega) (by omega) (by omega) (by omega), e2 28 rfl (by omega) (by omega) (by omega) (by omega), e2 29 rfl (by omega) (by omega) (by omega) (by omega)]
    rw [w1s, wcs] at N3 N4 N5
    have same : ∀ i c, c < 3 → i < wc s w → t.2 31 (3 * (40 * w + i) + c) = s.2 31 (3 * (40 * w + i) + c) := by
      intro i c hc hi
      rw [N5 _ (fun w' h1 h2 h3 => ?_), P2 31 rfl (by omega) (by omega)]
      by_cases e : w' = w
      · subst e; omega
      · omega
    by_cases hs : seesW s o f w ∧ wc s w < 40
    · obtain ⟨d1, u, v, x, d2, d3, d4, d5, d6, d7, d8⟩ := (hw w hw').t hs
      obtain ⟨n1, n2, n3, n4⟩ := N3 w hw' hs.1 hs.2
      have ew : wc t w = wc s w + 1 := by unfold wc at *; rw [n1]; exact cl _ (by omega)
      rw [n1]
      refine ⟨d1, u, v, x, d2, d3, d4, fun i hi => ?_⟩
      rw [ew] at hi
      by_cases e : i = wc s w
      · subst e
        rw [n2, n3, n4, P5]
        exact ⟨d6, d7, d8⟩
      · have hi' : i < wc s w := by omega
        have s0 := same i 0 (by omega) hi'
        rw [Nat.add_zero] at s0
        rw [s0, same i 1 (by omega) hi', same i 2 (by omega) hi']
        exact d5 i hi'
    · have d := (hw w hw').f hs
      obtain ⟨d1, u, v, x, d2, d3, d4, d5⟩ := d
      have n1 := N4 w (Or.inr hs)
      rw [P2 30 rfl (by omega) (by omega)] at n1
      have ew : wc t w = wc s w := by unfold wc; rw [n1]
      rw [n1]
      refine ⟨d1, u, v, x, d2, d3, d4, fun i hi => ?_⟩
      rw [ew] at hi
      have s0 := same i 0 (by omega) hi
      rw [Nat.add_zero] at s0
      rw [s0, same i 1 (by omega) hi, same i 2 (by omega) hi]
      exact d5 i hi
  · exact RZ.st S (fun r _ _ => by omega)
/-- put -/
theorem sp_fe_put (G : Gk) {g : Gm} {h : Hp} {s : Mem} (R : RB g h s) (hm : Sm s) (ivs : IvS s) (ivo : IvO s) (ivw : IvW s) (ivf : IvF s) (ivv : IvV s) {o f n ra : Nat} {F : Nat → Int32} (ho : o < nO s) (hf : f < nf s (sh s o)) (hk : s.2 3 (8 * sh s o + f) ≠ 3) (hn : LnOK s o f n) (ir : Im g h ra (20, arrL n F)) :
    Ct G fe_put [.ref (g.2 2), .int (nI o), .int (nI f), .ref ra] h (pN fun h' => (∀ t1 t, PutR s o f n F t1 → NoteE t1 o f (s.2 10 (8 * o + f)) (nW s) t → RB g h' t) ∧ Stq g h (fun r => r ≠ 300 + o ∧ (r < 700 ∨ 1100 ≤ r)) g h') := by
  have X := R.1
  obtain ⟨T, t1, t2, t3⟩ := R.2.2.1
  obtain ⟨tt, u1, u2, W, hW⟩ := t3 o ho
  obtain ⟨w1, w2, w3⟩ := hW
  obtain ⟨ar, y1, y2⟩ := w3 f hf
  have n60 := ivo.2.1
  have n8 := (ivs.2.2.1 _ (ivo.2.2 o ho).2).2
  have S1 := Stq.put (h := h) w2.2 (28, W.set f (.ref ra))
  have c3 := Cl.put (h := h) w2.2 (28, W.set f (.ref ra))
  have X1 := X.sg S1 (by omega)
  have PS1 := R.2.1.st hm.1 S1 (by omega) (by omega) (fun r _ _ => by omega)
  have t21 := t2.st S1 (by omega)
  have u21 := u2.st S1 (by omega)
  have ir1 := ir.st S1 (by omega)
  refine Ct.ofL (M := fe_put) (lv := [some (.ref (g.2 2)), some (.int (nI o)), some (.int (nI f)), some (.ref ra), none, none, none]) mdf_fe_put rfl (Nat.le_of_ble_eq_true rfl) rfl ?_
  refine V_aload_n d_fe_put_0 rfl rfl ?_
  refine V_iload_n d_fe_put_1 rfl rfl ?_
  refine V_iload_n d_fe_put_2 rfl rfl ?_
  refine V_callV (N := fe_valueOf) d_fe_put_3 ml_fe_156 mdf_fe_valueOf wi_fe_valueOf wz_fe_valueOf (sp_fe_valueP G X R.2.1 ivs ivo ho hf hk t2.1 u1 u2.1 w2.1 y1 y2.1 row_pos) (by first | assumption | exact X.1 | exact hu_self _ _ _ | (simp (disch := first | assumption | (apply Ne.symm; assumption)) only [hu_self, hu_ne]; assumption)) ⟨_, rfl, rfl⟩ rfl rfl (by decide) (by decide) (Nat.le_of_ble_eq_true rfl) rfl rfl (kI fun r3 h3 ⟨e3, f3⟩ => ?_)
  subst e3 f3
  rw [plain_eq ivo ivf ivv ho hf hk]
  refine V_istore d_fe_put_6 (by decide) rfl rfl ?_
  dsimp only [List.set]
  refine V_aload_n d_fe_put_8 rfl rfl ?_
  refine V_getf d_fe_put_9 fl_fe_17 (by first | assumption | exact X.1 | exact hu_self _ _ _ | (simp (disch := first | assumption | (apply Ne.symm; assumption)) only [hu_self, hu_ne]; assumption)) rfl ?_
  refine V_iload_n d_fe_put_12 rfl rfl ?_
  refine V_aald o d_fe_put_13 t2.1 (by decide) (by decide) rfl (by omega) u1 ?_
  refine V_getf d_fe_put_14 fl_fe_140 u2.1 rfl ?_
  refine V_iload_n d_fe_put_17 rfl rfl ?_
  refine V_aload_n d_fe_put_18 rfl rfl ?_
  refine V_aastA f d_fe_put_19 w2.1 ir.1 rfl (by omega) (by omega) ov_AI ?_
  refine V_aload_n d_fe_put_20 rfl rfl ?_
  refine V_iload_n d_fe_put_21 rfl rfl ?_
  refine V_iload_n d_fe_put_22 rfl rfl ?_
  refine V_callV (N := fe_valueOf) d_fe_put_23 ml_fe_156 mdf_fe_valueOf wi_fe_valueOf wz_fe_valueOf (sp_fe_valueP G X1 PS1 ivs ivo ho hf hk t21.1 u1 u21.1 c3.1 (List.getElem?_set_self (by omega)) ir1.1 (fun q => by rcases q with q | q; (rw [hn.1 q]; decide); (rw [hn.2.1 q]; decide))) X1.1 ⟨_, rfl, rfl⟩ rfl rfl (by decide) (by decide) (Nat.le_of_ble_eq_true rfl) rfl rfl (kI fun r23 h23 ⟨e23, f23⟩ => ?_)
  subst e23 f23
  refine V_istore d_fe_put_26 (by decide) rfl rfl ?_
  dsimp only [List.set]
  refine V_iconst (v := 0) d_fe_put_28 (by decide) ?_
  refine V_istore d_fe_put_29 (by decide) rfl rfl ?_
  dsimp only [List.set]
  obtain ⟨L, m1, m2, m3⟩ := R.2.2.2.2.1
  refine (lp_cput G (h0 := hu h (g.2 (300 + o)) (28, W.set f (.ref ra))) X1 PS1 t21 u1 u21 ivs ivo ivw ho m1 (m2.st S1 (by omega)) (fun w hw => (m3 w hw).1) (nW s) 0 _ (by omega) (Stq.rf _ _ _) (fun w' hw' => by omega) (fun w' _ hw' => (m3 w' hw').2.st S1 (by have := hm.2.2.2; omega) (by have := hm.2.2.2; omega) (by have := hm.2.2.2; omega) (by have := hm.2.2.2; omega))).mono (fun v h' hp => ?_)
  obtain ⟨e, S2, hw⟩ := hp
  have S : Stq g h (fun r => r ≠ 300 + o ∧ (r < 700 ∨ 1100 ≤ r)) g h' := (S1.mo (fun r hr => hr.1)).tr (S2.mo (fun r hr => hr.2))
  exact ⟨e, fun t1 t hP hN => R.put hm ivs ivo ivw ivf ivv ho hf hk hn hP hN S t2 u1 u2 ⟨w1, w2, w3⟩ (c3.st S2 (by omega)) (ir1.st S2 (by omega)) hw, S⟩
