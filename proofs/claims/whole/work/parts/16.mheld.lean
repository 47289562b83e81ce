/-! what is held: comes, comesHeld, findHeld, isHeld, holds -/
/-- how many have come, the row of them, the place of each -/
abbrev Bf : Type := Nat × (Nat → Int32) × (Nat → Int32)
noncomputable def bAdd (b : Bf) (v : Int32) : Bf := @ite _ (v = MISS ∨ b.2.2 v.toNatClampNeg ≠ -1) (Classical.propDecidable _) b (b.1 + 1, upd b.2.1 b.1 v, upd b.2.2 v.toNatClampNeg (nI b.1))
noncomputable def bRow (s : Mem) (y : Nat) (b : Bf) : Nat → Bf
  | 0 => b
  | k + 1 => bAdd (bRow s y b k) (s.2 11 (6 * y + k))
noncomputable def bFld (s : Mem) (o : Nat) (b : Bf) : Nat → Bf
  | 0 => b
  | f + 1 => if s.2 7 (8 * sh s o + f) &&& 4 = 0 then (if s.2 3 (8 * sh s o + f) = 1 then bAdd (bFld s o b f) (s.2 10 (8 * o + f)) else if s.2 3 (8 * sh s o + f) = 2 then bRow s (8 * o + f) (bFld s o b f) (s.2 10 (8 * o + f)).toNatClampNeg else bFld s o b f) else bFld s o b f
noncomputable def bHeld (s : Mem) (o : Nat) (b : Bf) : Bf := bFld s o b (nf s (sh s o))
noncomputable def bLoop (s : Mem) : Nat → Nat → Bf → Bf
  | 0, _, b => b
  | n + 1, k, b => if k < b.1 then bLoop s n (k + 1) (bHeld s (b.2.1 k).toNatClampNeg b) else b
/-- each that has come is an object, at its place -/
def bOK (N : Nat) (b : Bf) : Prop := (∀ k, k < b.1 → ∃ t, t < N ∧ b.2.1 k = nI t ∧ b.2.2 t = nI k) ∧ (∀ t, t < N → b.2.2 t = -1 ∨ ∃ k, k < b.1 ∧ b.2.2 t = nI k ∧ b.2.1 k = nI t)
theorem php : ∀ (n c : Nat) (f : Nat → Nat), (∀ i, i < c → f i < n) → (∀ i j, i < c → j < c → f i = f j → i = j) → c ≤ n
  | 0, c, f, h1, _ => by
    rcases Nat.eq_zero_or_pos c with q | q
    · omega
    · exact absurd (h1 0 q) (by omega)
  | n + 1, c, f, h1, h2 => by
    rcases Nat.eq_zero_or_pos c with q | q
    · omega
    · obtain ⟨c, rfl⟩ : ∃ d, c = d + 1 := ⟨c - 1, by omega⟩
      have := php n c (fun i => if f i = n then f c else f i) (fun i hi => by
        have hi1 := h1 i (by omega)
        have hc1 := h1 c (by omega)
        split
        · rename_i e
          have : f c ≠ n := fun z => by have := h2 i c (by omega) (by omega) (e.trans z.symm); omega
          omega
        · omega) (fun i j hi hj e => by
        split at e <;> split at e
        · rename_i e1 e2; exact h2 i j (by omega) (by omega) (e1.trans e2.symm)
        · have := h2 c j (by omega) (by omega) e; omega
        · have := h2 i c (by omega) (by omega) e; omega
        · exact h2 i j (by omega) (by omega) e)
      omega
theorem bOK.le {N : Nat} (hN : N < 1000) {b : Bf} (h : bOK N b) : b.1 ≤ N := by
  refine php N b.1 (fun k => (b.2.1 k).toNatClampNeg) (fun k hk => ?_) (fun i j hi hj e => ?_)
  · obtain ⟨t, q1, q2, -⟩ := h.1 k hk
    rw [q2, cl t (by omega)]
    exact q1
  · obtain ⟨t, q1, q2, q3⟩ := h.1 i hi
    obtain ⟨t2, p1, p2, p3⟩ := h.1 j hj
    rw [q2, p2, cl t (by omega), cl t2 (by omega)] at e
    subst e
    have h4 := q3.symm.trans p3
    rcases Nat.lt_or_ge i 1000000 with z | z
    · rcases Nat.lt_or_ge j 1000000 with z2 | z2
      · exact nI_inj8 z z2 h4
      · exfalso
        have := php N (N + 1) (fun k => (b.2.1 k).toNatClampNeg) (fun k hk => by
          obtain ⟨t, q1, q2, -⟩ := h.1 k (by omega)
          rw [q2, cl t (by omega)]; exact q1) (fun a c ha hc e => by
          obtain ⟨t, q1, q2, q3⟩ := h.1 a (by omega)
          obtain ⟨t2, p1, p2, p3⟩ := h.1 c (by omega)
          rw [q2, p2, cl t (by omega), cl t2 (by omega)] at e
          subst e
          exact nI_inj8 (by omega) (by omega) (q3.symm.trans p3))
        omega
    · exfalso
      have := php N (N + 1) (fun k => (b.2.1 k).toNatClampNeg) (fun k hk => by
        obtain ⟨t, q1, q2, -⟩ := h.1 k (by omega)
        rw [q2, cl t (by omega)]; exact q1) (fun a c ha hc e => by
        obtain ⟨t, q1, q2, q3⟩ := h.1 a (by omega)
        obtain ⟨t2, p1, p2, p3⟩ := h.1 c (by omega)
        rw [q2, p2, cl t (by omega), cl t2 (by omega)] at e
        subst e
        exact nI_inj8 (by omega) (by omega) (q3.symm.trans p3))
      omega
theorem bAdd_no {b : Bf} {v : Int32} (h : v = MISS ∨ b.2.2 v.toNatClampNeg ≠ -1) : bAdd b v = b := if_pos h
theorem bAdd_yes {b : Bf} {t : Nat} (ht : t < 1000000) (hm : nI t ≠ MISS) (h : b.2.2 t = -1) : bAdd b (nI t) = (b.1 + 1, upd b.2.1 b.1 (nI t), upd b.2.2 t (nI b.1)) := by
  unfold bAdd
  rw [cl t ht]
  exact if_neg (fun q => q.elim hm (fun z => z h))
theorem nI_miss {t : Nat} (ht : t < 1000000) : nI t ≠ MISS := by
  intro e
  have h1 := congrArg Int32.toInt e
  rw [nI_toInt (by omega)] at h1
  exact absurd h1 (by have : (MISS : Int32).toInt = -2147483648 := by decide
                      rw [this]; omega)
theorem bOK.add {N : Nat} (hN : N < 1000) {b : Bf} (h : bOK N b) {v : Int32} (hv : v = MISS ∨ ∃ t, t < N ∧ v = nI t) : bOK N (bAdd b v) := by
  rcases hv with rfl | ⟨t, ht, rfl⟩
  · rw [bAdd_no (Or.inl rfl)]; exact h
  by_cases hb : b.2.2 t = -1
  · rw [bAdd_yes (by omega) (nI_miss (by omega)) hb]
    have hle := h.le hN
    refine ⟨fun k hk => ?_, fun u hu => ?_⟩
    · dsimp only at hk ⊢
      rcases Nat.lt_or_ge k b.1 with z | z
      · obtain ⟨u, q1, q2, q3⟩ := h.1 k z
        have hut : u ≠ t := fun e => by subst e; rw [hb] at q3; exact nI_m1 (by omega) q3.symm
        exact ⟨u, q1, by rw [pk_un (by omega)]; exact q2, by rw [pk_un hut]; exact q3⟩
      · obtain rfl : k = b.1 := by omega
        exact ⟨t, ht, pk_us, pk_us⟩
    · dsimp only
      by_cases hut : u = t
      · subst hut
        exact Or.inr ⟨b.1, by omega, pk_us, pk_us⟩
      · rw [pk_un hut]
        rcases h.2 u hu with q | ⟨k, q1, q2, q3⟩
        · exact Or.inl q
        · exact Or.inr ⟨k, by omega, q2, by rw [pk_un (by omega)]; exact q3⟩
  · rw [bAdd_no (Or.inr (by rw [cl t (by omega)]; exact hb))]; exact h
/-- the memory with what has come -/
def sB (s : Mem) (b : Bf) : Mem := (upd s.1 15 (nI b.1), va_up (va_up s.2 13 b.2.1) 14 b.2.2)
theorem sB_15 (s : Mem) (b : Bf) : (sB s b).1 15 = nI b.1 := (pk_us : upd s.1 15 (nI b.1) 15 = _)
theorem sB_13 (s : Mem) (b : Bf) : (sB s b).2 13 = b.2.1 := by
  show va_up (va_up s.2 13 b.2.1) 14 b.2.2 13 = _
  rw [va_up_ne _ _ (by decide), va_up_self]
theorem sB_14 (s : Mem) (b : Bf) : (sB s b).2 14 = b.2.2 := va_up_self (va_up s.2 13 b.2.1) 14 b.2.2
theorem sB_1 (s : Mem) (b : Bf) {j : Nat} (h : j ≠ 15) : (sB s b).1 j = s.1 j := (pk_un h : upd s.1 15 (nI b.1) j = _)
theorem sB_2 (s : Mem) (b : Bf) {j : Nat} (h : j ≠ 13) (h2 : j ≠ 14) : (sB s b).2 j = s.2 j := by
  show va_up (va_up s.2 13 b.2.1) 14 b.2.2 j = _
  rw [va_up_ne _ _ h2, va_up_ne _ _ h]
theorem sB_add (s : Mem) (b : Bf) (t : Nat) : mF (mA (mA (sB s b) 14 t (nI b.1)) 13 b.1 (nI t)) 15 (nI (b.1 + 1)) = sB s (b.1 + 1, upd b.2.1 b.1 (nI t), upd b.2.2 t (nI b.1)) := by
  refine Prod.ext (funext fun j => ?_) (funext fun j => ?_)
  · by_cases e : j = 15
    · subst e; rw [mF_1s, sB_15]
    · rw [mF_1n _ _ e, mA_1, mA_1, sB_1 _ _ e, sB_1 _ _ e]
  · rw [mF_2]
    by_cases e : j = 13
    · subst e; rw [mA_2s, mA_2n _ _ _ (by decide), sB_13, sB_13]
    · rw [mA_2n _ _ _ e]
      by_cases e2 : j = 14
      · subst e2; rw [mA_2s, sB_14, sB_14]
      · rw [mA_2n _ _ _ e2, sB_2 _ _ e e2, sB_2 _ _ e e2]
theorem sp_md_comes (G : Gk) {h : Hp} {m : Nat} {am : Nat → Nat} {s : Mem} {b : Bf} {N : Nat} (r : RepM h m am (sB s b)) (hN : N ≤ 60) (hb : bOK N b) (v : Int32) (hv : v = MISS ∨ ∃ t, t < N ∧ v = nI t) : Ct G md_comes [.ref m, .int v] h (pN fun h' => Mod h m am h' (sB s (bAdd b v))) := by
  have hle := hb.le (by omega)
  refine Ct.ofL (M := md_comes) (lv := [some (.ref m), some (.int v)]) mdf_md_comes rfl (Nat.le_of_ble_eq_true rfl) rfl ?_
  refine V_iload_n d_md_comes_0 rfl rfl ?_
  refine V_ldc d_md_comes_1 kc_md_129 ?_
  refine V_icmp_eq d_md_comes_3 (fun c3 => ?_) (fun c3 => ?_)
  · skip
    refine V_return d_md_comes_46 rfl ?_
    refine ⟨rfl, ?_⟩
    rw [bAdd_no (Or.inl c3)]
    exact Mod.rf r
  · skip
    obtain ⟨t, ht, rfl⟩ := hv.resolve_left c3
    refine V_aload_n d_md_comes_6 rfl rfl ?_
    refine V_getf d_md_comes_7 fl_md_46 r.obj rfl ?_
    refine V_iload_n d_md_comes_10 rfl rfl ?_
    refine V_mald r d_md_comes_11 (by first | with_reducible rfl | exact ix8 _ _ | exact ix6 _ _ | assumption) rfl rfl (by show _ < 60; omega) ?_
    rw [sB_14]
    refine V_iconst (v := -1) d_md_comes_12 (by decide) ?_
    refine V_icmp_ne d_md_comes_13 (fun c13 => ?_) (fun c13 => ?_)
    · skip
      refine V_return d_md_comes_46 rfl ?_
      refine ⟨rfl, ?_⟩
      rw [bAdd_no (Or.inr (by rw [cl t (by omega)]; exact c13))]
      exact Mod.rf r
    · skip
      have hlt : b.1 < 60 := by
         have h1 := (hb.add (by omega) (Or.inr ⟨t, ht, rfl⟩)).le (by omega)
         rw [bAdd_yes (by omega) (nI_miss (by omega)) c13] at h1
         dsimp only at h1
         omega
      refine V_aload_n d_md_comes_16 rfl rfl ?_
      refine V_getf d_md_comes_17 fl_md_46 r.obj rfl ?_
      refine V_iload_n d_md_comes_20 rfl rfl ?_
      refine V_aload_n d_md_comes_21 rfl rfl ?_
      refine V_getf d_md_comes_22 fl_md_175 r.obj rfl ?_
      rw [sB_15]
      refine V_mast r d_md_comes_25 (by first | with_reducible rfl | exact ix8 _ _ | exact ix6 _ _ | assumption) rfl rfl (by show _ < 60; omega) (fun h25 M25 => ?_)
      have R25 := M25.1
      refine V_aload_n d_md_comes_26 rfl rfl ?_
      refine V_getf d_md_comes_27 fl_md_43 R25.obj rfl ?_
      refine V_aload_n d_md_comes_30 rfl rfl ?_
      refine V_getf d_md_comes_31 fl_md_175 R25.obj rfl ?_
      rw [mA_1, sB_15]
      refine V_iload_n d_md_comes_34 rfl rfl ?_
      refine V_mast R25 d_md_comes_35 (by first | with_reducible rfl | exact ix8 _ _ | exact ix6 _ _ | assumption) rfl rfl (by show _ < 60; omega) (fun h35 M35 => ?_)
      have R35 := M35.1
      refine V_aload_n d_md_comes_36 rfl rfl ?_
      refine V_dup d_md_comes_37 rfl ?_
      refine V_getf d_md_comes_38 fl_md_175 R35.obj rfl ?_
      rw [mA_1, mA_1, sB_15]
      refine V_iconst (v := 1) d_md_comes_41 (by decide) ?_
      refine V_iadd d_md_comes_42 ?_
      rw [nI_1]
      refine V_mput (j := 15) R35 d_md_comes_43 fp_md_175 rfl rfl (by decide) (fun h43 M43 => ?_)
      have R43 := M43.1
      refine V_return d_md_comes_46 rfl ?_
      refine ⟨rfl, ?_⟩
      rw [bAdd_yes (by omega) (nI_miss (by omega)) c13, ← sB_add]
      exact (M25.trans M35).trans M43
