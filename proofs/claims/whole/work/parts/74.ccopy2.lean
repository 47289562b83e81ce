/-! copy -/
theorem RB.things {g : Gm} {h : Hp} {s : Mem} {T : List Value} {i x : Nat} (R : RB g h s) (hm : Sm s) (C4 : Cl g h 4 (25, T)) (hi : nO s ≤ i) : RB g (hu h (g.2 4) (25, T.set i (.ref x))) s ∧ Stq g h (fun r => r ≠ 4) g (hu h (g.2 4) (25, T.set i (.ref x))) ∧ Cl g (hu h (g.2 4) (25, T.set i (.ref x))) 4 (25, T.set i (.ref x)) := by
  have S := Stq.put (h := h) C4.2 (25, T.set i (.ref x))
  have C := Cl.put (h := h) C4.2 (25, T.set i (.ref x))
  obtain ⟨RX, RS, ⟨T0, a1, a2, a3⟩, RP, RW, RZ⟩ := R
  have eT : T0 = T := by have := a2.1; rw [C4.1] at this; cases this; rfl
  subst eT
  refine ⟨⟨RX.sg S (by omega), RS.st hm.1 S (by omega) (by omega) (fun r _ _ => by omega), ⟨_, by rw [List.length_set]; exact a1, C, fun o ho => ?_⟩, RP.st hm.2.2.1 S (by omega) (fun r _ _ => by omega), RW.st hm.2.2.2 S (by omega) (fun r _ _ => by omega), RZ.st S (fun r _ _ => by omega)⟩, S, C⟩
  obtain ⟨t, b1, b2, W, b3⟩ := a3 o ho
  exact ⟨t, by rw [List.getElem?_set_ne (by omega)]; exact b1, b2.st S (by omega), W, b3.st S (by omega) (by omega)⟩
theorem RB.n3 {g g' : Gm} {h h' : Hp} {s : Mem} {m : Nat} (R : RB g h s) (hm : Sm s) (hmO : nO s ≤ m) (S : Stq g h (fun r => r ≠ 300 + m) g' h') (m60 : m < 60) : RB g' h' s := ⟨R.1.st S (by omega) (fun r _ _ => S.2 r (by omega)), R.2.1.st hm.1 S (by omega) (by omega) (fun r _ _ => by omega), R.2.2.1.stx hm.2.1 S (by omega) (by omega) (fun r h1 h2 => by omega), R.2.2.2.1.st hm.2.2.1 S (by omega) (fun r _ _ => by omega), R.2.2.2.2.1.st hm.2.2.2 S (by omega) (fun r _ _ => by omega), R.2.2.2.2.2.st S (fun r _ _ => by omega)⟩
/-- the roles that copy leaves alone -/
def cpD (n : Nat) (r : Nat) : Prop := r ≠ 2 ∧ r ≠ 4 ∧ (r < 300 + n ∨ 400 ≤ r) ∧ nSc r
def CpT (g : Gm) (h : Hp) (s : Mem) (b : Bf) (T : List Value) (k : Nat) : Prop := ∃ t, T[nO s + k]? = some (.ref t) ∧ NwT g h (nO s + k) t (s.2 9 (orow b k)) (nf s (sh s (orow b k))) (rowN s (orow b k)) (cpF s b (nO s) (orow b k))
theorem CpT.st {g g' : Gm} {h h' : Hp} {D : Nat → Prop} {s : Mem} {b : Bf} {T : List Value} {k : Nat} (H : CpT g h s b T k) (S : Stq g h D g' h') (h1 : D 1) (h3 : D (300 + (nO s + k))) : CpT g' h' s b T k := by
  obtain ⟨t, a, n⟩ := H
  exact ⟨t, a, n.st S h1 h3⟩
theorem CpT.set {g : Gm} {h : Hp} {s : Mem} {b : Bf} {T : List Value} {k i : Nat} {x : Value} (H : CpT g h s b T k) (hi : i ≠ nO s + k) : CpT g h s b (T.set i x) k := by
  obtain ⟨t, a, n⟩ := H
  exact ⟨t, by rw [List.getElem?_set_ne hi]; exact a, n⟩
theorem lp_copy (G : Gk) {s : Mem} {g0 : Gm} {h0 : Hp} {b : Bf} {v1 : Int32} (hm : Sm s) (ivs : IvS s) (ivo : IvO s) (ivf : IvF s) (ivv : IvV s) (hb : bOK (nO s) b) (hle : nO s + b.1 ≤ 60) (post : Option Value → Hp → Prop)
    (K : ∀ (g : Gm) (h : Hp) (T : List Value), RB g h s → ZR g h b → Stq g0 h0 (cpD (nO s)) g h → (∀ r, r < 300 → g.2 r = g0.2 r) → Cl g h 4 (25, T) → T.length = 60 → (∀ k, k < b.1 → CpT g h s b T k) → V G fe_copy post h 0 0 84 [some (.ref (g0.2 2)), some (.int v1), some (.int (nI (nO s))), some (.int (nI b.1))] []) :
    ∀ (c k : Nat) (g : Gm) (h : Hp) (T : List Value), k + c = b.1 → RB g h s → ZR g h b → Stq g0 h0 (cpD (nO s)) g h → (∀ r, r < 300 → g.2 r = g0.2 r) → Cl g h 4 (25, T) → T.length = 60 → (∀ k', k' < k → CpT g h s b T k') →
    V G fe_copy post h (10 * c) (58 * c) 40 [some (.ref (g0.2 2)), some (.int v1), some (.int (nI (nO s))), some (.int (nI k))] [] := by
  have n60 := ivo.2.1
  intro c
  induction c with
  | zero =>
    intro k g h T hk R Z S gr C4 hT hA
    obtain rfl : k = b.1 := by omega
    have X := R.1
    have hX := X.1
    rw [gr 2 (by omega)] at hX
    refine V_iload_n d_fe_copy_40 rfl rfl ?_
    refine V_aload_n d_fe_copy_41 rfl rfl ?_
    refine V_getf d_fe_copy_42 fl_fe_43 hX rfl ?_
    refine V_getf d_fe_copy_45 fl_fe_209 Z.1.1 rfl ?_
    refine V_icmp_ge d_fe_copy_48 (fun c48 => ?_) (fun c48 => ?_)
    · skip
      exact K g h T R Z S gr C4 hT hA
    · skip
      exact absurd (ltN c48 (by omega)) (by omega)
  | succ c ih =>
    intro k g h T hk R Z S gr C4 hT hA
    have X := R.1
    have hX := X.1
    rw [gr 2 (by omega)] at hX
    obtain ⟨o, ho, eo, _⟩ := hb.1 k (by omega)
    have er : orow b k = o := by unfold orow; rw [eo]; exact cl o (by omega)
    obtain ⟨T', a1, a2, a3⟩ := R.2.2.1
    have eT : T' = T := by have := a2.1; rw [C4.1] at this; cases this; rfl
    subst eT
    obtain ⟨t, u1, u2, _⟩ := a3 o ho
    have P74 := sp_fe_copyOf G (m := nO s + k) (n0 := nO s) R hm ivs ivo ivf ivv Z ho (by omega) (by omega) u2
    rw [gr 2 (by omega)] at P74
    refine V.need (cr := 10 * c + 10) (sr := 58 * c + 58) ?_ (by omega) (by omega)
    refine V_iload_n d_fe_copy_40 rfl rfl ?_
    refine V_aload_n d_fe_copy_41 rfl rfl ?_
    refine V_getf d_fe_copy_42 fl_fe_43 hX rfl ?_
    refine V_getf d_fe_copy_45 fl_fe_209 Z.1.1 rfl ?_
    refine V_icmp_ge d_fe_copy_48 (fun c48 => ?_) (fun c48 => ?_)
    · skip
      exact absurd (geN c48 (by omega)) (by omega)
    · skip
      refine V_aload_n d_fe_copy_51 rfl rfl ?_
      refine V_getf d_fe_copy_52 fl_fe_17 hX rfl ?_
      refine V_iload_n d_fe_copy_55 rfl rfl ?_
      refine V_iload_n d_fe_copy_56 rfl rfl ?_
      refine V_iadd d_fe_copy_57 ?_
      rw [nI_add]
      refine V_aload_n d_fe_copy_58 rfl rfl ?_
      refine V_aload_n d_fe_copy_59 rfl rfl ?_
      refine V_getf d_fe_copy_60 fl_fe_17 hX rfl ?_
      refine V_aload_n d_fe_copy_63 rfl rfl ?_
      refine V_getf d_fe_copy_64 fl_fe_43 hX rfl ?_
      refine V_getf d_fe_copy_67 fl_fe_210 Z.1.1 rfl ?_
      refine V_iload_n d_fe_copy_70 rfl rfl ?_
      refine V_iald k d_fe_copy_71 Z.2.1.1 rfl (by omega) (arrL_get _ (by omega)) ?_
      refine V_aald o d_fe_copy_72 a2.1 (by decide) (by decide) eo (by omega) u1 ?_
      refine V_iload_n d_fe_copy_73 rfl rfl ?_
      refine V_callV (N := fe_copyOf) d_fe_copy_74 ml_fe_417 mdf_fe_copyOf wi_fe_copyOf wz_fe_copyOf (P74) hX ⟨_, rfl, rfl⟩ rfl rfl (by decide) (by decide) (Nat.le_of_ble_eq_true rfl) rfl rfl (kR fun r74 h74 ⟨g', nt, S1, g1⟩ => ?_)
      have R1 := R.n3 hm (by omega) S1 (by omega)
      have C41 := a2.st S1 (by omega)
      have h41 : h74 (g.2 4) = some (25, T') := by have := C41.1; rw [g1 4 (by omega)] at this; exact this
      refine V_aast (nO s + k) d_fe_copy_77 h41 nt.1.1 rfl rfl (by omega) (by omega) ?_
      refine V_iinc (v := _) d_fe_copy_78 rfl rfl (by decide) rfl rfl ?_
      dsimp only [List.set]
      refine V_goto d_fe_copy_81 ?_
      rw [show Int32.ofInt 1 = 1 from rfl, nI_1]
      obtain ⟨R2, S2, C2⟩ := R1.things hm C41 (i := nO s + k) (x := r74) (by omega)
      rw [g1 4 (by omega)] at R2 S2 C2
      refine ih (k + 1) g' _ (T'.set (nO s + k) (.ref r74)) (by omega) R2 ((Z.st S1 (by omega) (by omega) (by omega)).st S2 (by omega) (by omega) (by omega)) ((S.tr (S1.mo (fun r hr => by unfold cpD at hr; omega))).tr (S2.mo (fun r hr => by unfold cpD at hr; omega))) (fun r hr => by rw [g1 r (by omega)]; exact gr r hr) C2 (by rw [List.length_set]; exact hT) (fun k' hk' => ?_)
      by_cases z : k' = k
      · (subst z; refine ⟨r74, List.getElem?_set_self (by omega), ?_⟩; rw [er]; exact nt.st S2 (by omega) (by omega))
      · (exact (((hA k' (by omega)).st S1 (by omega) (by omega)).st S2 (by omega) (by omega)).set (by omega))
