/-! ArrayList -/
theorem hu_hu (h : Hp) (a : Nat) (c c2 : Nat × List Value) : hu (hu h a c) a c2 = hu h a c2 := by
  funext b
  unfold hu
  by_cases e : b = a <;> simp [e]
theorem kne {h : Hp} {a b k k2 : Nat} {vs ws : List Value} (ha : h a = some (k, vs)) (hb : h b = some (k2, ws)) (hk : k ≠ k2) : a ≠ b := by
  rintro rfl
  rw [ha] at hb
  cases hb
  exact hk rfl
theorem fne {h : Hp} {a q : Nat} {c : Nat × List Value} (ha : h a = some c) (hq : h q = none) : a ≠ q := by
  rintro rfl
  rw [ha] at hq
  cases hq
def Zr (G : Gk) (h : Hp) : Prop := h G.2.2.2.1 = some (30, []) ∧ h G.2.2.1 = some (29, [])
def alV (es : List Nat) (cap : Nat) : List Value := es.map .ref ++ List.replicate (cap - es.length) .null
def ALr (G : Gk) (h : Hp) (a d : Nat) (es : List Nat) (cap : Nat) : Prop := (∃ mc, h a = some (0, [.int mc, .ref d, .int (nI es.length)])) ∧ es.length ≤ cap ∧ cap < 1000 ∧ ((0 < cap ∧ h d = some (27, alV es cap)) ∨ (cap = 0 ∧ d = G.2.2.1))
def eOs (h : Hp) (es : List Nat) : Prop := ∀ e, e ∈ es → ∃ kv ws, h e = some (kv, ws) ∧ (kv = 1 ∨ kv = 3)
theorem alV_len {es : List Nat} {cap : Nat} (h : es.length ≤ cap) : (alV es cap).length = cap := by simp [alV]; omega
theorem alV_get {es : List Nat} {cap i e : Nat} (h : es[i]? = some e) : (alV es cap)[i]? = some (.ref e) := by
  have := (List.getElem?_eq_some_iff.mp h).1
  unfold alV
  rw [List.getElem?_append_left (by simpa using this), List.getElem?_map, h]
  rfl
theorem alV_getN {es : List Nat} {cap i : Nat} (h : es.length ≤ i) (h2 : i < cap) : (alV es cap)[i]? = some .null := by
  unfold alV
  rw [List.getElem?_append_right (by simpa using h), List.getElem?_replicate, if_pos (by simp; omega)]
theorem alV_ext {vs : List Value} {es : List Nat} {cap : Nat} (hl : vs.length = cap) (he : es.length ≤ cap) (h1 : ∀ (i e : Nat), es[i]? = some e → vs[i]? = some (Value.ref e)) (h2 : ∀ (i : Nat), es.length ≤ i → i < cap → vs[i]? = some Value.null) : vs = alV es cap := by
  apply List.ext_getElem?
  intro i
  rcases Nat.lt_or_ge i es.length with q | q
  · rw [h1 i _ (List.getElem?_eq_getElem q), alV_get (List.getElem?_eq_getElem q)]
  · rcases Nat.lt_or_ge i cap with z | z
    · rw [h2 i q z, alV_getN q z]
    · rw [List.getElem?_eq_none (by omega), List.getElem?_eq_none (by rw [alV_len he]; omega)]
theorem alV_push {es : List Nat} {cap e : Nat} (h : es.length < cap) : (alV es cap).set es.length (.ref e) = alV (es ++ [e]) cap := by
  refine alV_ext (by rw [List.length_set, alV_len (by omega)]) (by simp; omega) (fun i x hx => ?_) (fun i hi hc => ?_)
  · rcases snoc_get hx with ⟨z1, z2⟩ | ⟨z1, z2⟩
    · rw [List.getElem?_set_ne (by omega), alV_get z2]
    · subst z1 z2
      rw [List.getElem?_set_self (by rw [alV_len (by omega)]; exact h)]
  · rw [List.length_append, List.length_singleton] at hi
    rw [List.getElem?_set_ne (by omega), alV_getN (by omega) hc]
theorem alV_eO {h : Hp} {es : List Nat} {cap : Nat} (he : eOs h es) : ∀ v, v ∈ alV es cap → eO h v := by
  intro v hv
  rcases List.mem_append.mp hv with q | q
  · obtain ⟨e, h1, rfl⟩ := List.mem_map.mp q
    obtain ⟨kv, ws, h2, h3⟩ := he e h1
    exact Or.inr ⟨e, kv, ws, rfl, h2, h3⟩
  · exact Or.inl (List.eq_of_mem_replicate q)
theorem sp_ac_init (G : Gk) (h : Hp) (x : Nat) : Ct G ac_init [.ref x] h (pN fun h' => h' = h) := by
  refine Ct.ofL (M := ac_init) (lv := [some (.ref x)]) mdf_ac_init rfl (Nat.le_of_ble_eq_true rfl) rfl ?_
  refine V_aload_n d_ac_init_0 rfl rfl ?_
  refine V_objinit d_ac_init_1 ml_ac_1 (by decide) (Nat.le_of_ble_eq_true rfl) ?_
  refine V_return d_ac_init_4 rfl ?_
  exact ⟨rfl, rfl⟩
theorem sp_ab_init (G : Gk) (h : Hp) {x : Nat} {u : Int32} {v w : Value} (hx : h x = some (0, [.int u, v, w])) : Ct G ab_init [.ref x] h (pN fun h' => h' = hu h x (0, [.int 0, v, w])) := by
  refine Ct.ofL (M := ab_init) (lv := [some (.ref x)]) mdf_ab_init rfl (Nat.le_of_ble_eq_true rfl) rfl ?_
  refine V_aload_n d_ab_init_0 rfl rfl ?_
  refine V_callI (N := ac_init) d_ab_init_1 ml_ab_1 mdf_ac_init wi_ac_init rfl rfl (sp_ac_init G h x) rfl rfl (by decide) (by decide) (Nat.le_of_ble_eq_true rfl) rfl rfl (kN fun h1 e1 => ?_)
  subst e1
  refine V_aload_n d_ab_init_4 rfl rfl ?_
  refine V_iconst (v := 0) d_ab_init_5 (by decide) ?_
  refine V_putf d_ab_init_6 fp_ab_7 rfl rfl (by first | assumption | exact hu_self _ _ _ | (simp (disch := first | assumption | (apply Ne.symm; assumption)) only [hu_self, hu_ne]; assumption)) ?_
  refine V_return d_ab_init_9 rfl ?_
  exact ⟨rfl, rfl⟩
theorem sp_al_init (G : Gk) {h : Hp} (hz : Zr G h) {x : Nat} (hx : h x = some (0, dfl 0)) : Ct G al_init [.ref x] h (pN fun h' => h' = hu h x (0, [.int 0, .ref G.2.2.1, .int 0])) := by
  have nz : G.2.2.2.1 ≠ x := kne hz.1 hx (by decide)
  refine Ct.ofL (M := al_init) (lv := [some (.ref x)]) mdf_al_init rfl (Nat.le_of_ble_eq_true rfl) rfl ?_
  refine V_aload_n d_al_init_0 rfl rfl ?_
  refine V_callI (N := ab_init) d_al_init_1 ml_al_1 mdf_ab_init wi_ab_init rfl rfl (sp_ab_init G h hx) rfl rfl (by decide) (by decide) (Nat.le_of_ble_eq_true rfl) rfl rfl (kN fun h1 e1 => ?_)
  subst e1
  refine V_aload_n d_al_init_4 rfl rfl ?_
  refine V_getsE d_al_init_5 rfl (by rw [hu_ne _ _ nz]; exact hz.1) ?_
  refine V_putf d_al_init_8 fp_al_9 rfl rfl (hu_self _ _ _) ?_
  refine V_return d_al_init_11 rfl ?_
  exact ⟨rfl, hu_hu _ _ _ _⟩
theorem sp_al_size (G : Gk) {h : Hp} {a d cap : Nat} {es : List Nat} (hA : ALr G h a d es cap) : Ct G al_size [.ref a] h (pI fun r h' => h = h' ∧ r = nI es.length) := by
  obtain ⟨⟨mc, ha⟩, -⟩ := hA
  refine Ct.ofL (M := al_size) (lv := [some (.ref a)]) mdf_al_size rfl (Nat.le_of_ble_eq_true rfl) rfl ?_
  refine V_aload_n d_al_size_0 rfl rfl ?_
  refine V_getf d_al_size_1 fl_al_48 (by first | assumption | exact hu_self _ _ _ | (simp (disch := first | assumption | (apply Ne.symm; assumption)) only [hu_self, hu_ne]; assumption)) rfl ?_
  refine V_ireturn d_al_size_4 rfl ?_
  exact ⟨_, rfl, rfl, rfl⟩
theorem sp_al_isEmpty (G : Gk) {h : Hp} {a d cap : Nat} {es : List Nat} (hA : ALr G h a d es cap) : Ct G al_isEmpty [.ref a] h (pI fun r h' => h = h' ∧ r = b01 (es = [])) := by
  obtain ⟨⟨mc, ha⟩, h1, h2, -⟩ := hA
  refine Ct.ofL (M := al_isEmpty) (lv := [some (.ref a)]) mdf_al_isEmpty rfl (Nat.le_of_ble_eq_true rfl) rfl ?_
  refine V_aload_n d_al_isEmpty_0 rfl rfl ?_
  refine V_getf d_al_isEmpty_1 fl_al_48 (by first | assumption | exact hu_self _ _ _ | (simp (disch := first | assumption | (apply Ne.symm; assumption)) only [hu_self, hu_ne]; assumption)) rfl ?_
  refine V_if_ne d_al_isEmpty_4 (fun c4 => ?_) (fun c4 => ?_)
  · skip
    refine V_iconst (v := 0) d_al_isEmpty_11 (by decide) ?_
    refine V_zreturn d_al_isEmpty_12 rfl (by first | exact Or.inl rfl | exact Or.inr rfl) ?_
    exact ⟨_, rfl, rfl, (b01_f (fun q => c4 (by rw [q]; rfl))).symm⟩
  · skip
    refine V_iconst (v := 1) d_al_isEmpty_7 (by decide) ?_
    refine V_goto d_al_isEmpty_8 ?_
    refine V_zreturn d_al_isEmpty_12 rfl (by first | exact Or.inl rfl | exact Or.inr rfl) ?_
    exact ⟨_, rfl, rfl, (b01_t (List.eq_nil_of_length_eq_zero (eqN (a := es.length) (b := 0) c4 (by omega) (by decide)))).symm⟩
theorem sp_pr_checkIndex (G : Gk) (h : Hp) (i n : Nat) (hi : i < n) (hn : n < 100000) : Ct G pr_checkIndex [.int (nI i), .int (nI n), .null] h (pI fun r h' => h = h' ∧ r = nI i) := by
  refine Ct.ofL (M := pr_checkIndex) (lv := [some (.int (nI i)), some (.int (nI n)), some (.null)]) mdf_pr_checkIndex rfl (Nat.le_of_ble_eq_true rfl) rfl ?_
  refine V_iload_n d_pr_checkIndex_0 rfl rfl ?_
  refine V_if_lt d_pr_checkIndex_1 (fun c1 => ?_) (fun c1 => ?_)
  · skip
    exact absurd c1 (nI_pos (by omega))
  · skip
    refine V_iload_n d_pr_checkIndex_4 rfl rfl ?_
    refine V_iload_n d_pr_checkIndex_5 rfl rfl ?_
    refine V_icmp_lt d_pr_checkIndex_6 (fun c6 => ?_) (fun c6 => ?_)
    · skip
      refine V_iload_n d_pr_checkIndex_16 rfl rfl ?_
      refine V_ireturn d_pr_checkIndex_17 rfl ?_
      exact ⟨_, rfl, rfl, rfl⟩
    · skip
      exact absurd (nI_lt hi (by omega)) c6
theorem sp_oj_checkIndex (G : Gk) (h : Hp) (i n : Nat) (hi : i < n) (hn : n < 100000) : Ct G oj_checkIndex [.int (nI i), .int (nI n)] h (pI fun r h' => h = h' ∧ r = nI i) := by
  refine Ct.ofL (M := oj_checkIndex) (lv := [some (.int (nI i)), some (.int (nI n))]) mdf_oj_checkIndex rfl (Nat.le_of_ble_eq_true rfl) rfl ?_
  refine V_iload_n d_oj_checkIndex_0 rfl rfl ?_
  refine V_iload_n d_oj_checkIndex_1 rfl rfl ?_
  refine V_null d_oj_checkIndex_2 ?_
  refine V_callS (N := pr_checkIndex) d_oj_checkIndex_3 ml_oj_105 mdf_pr_checkIndex ws_pr_checkIndex (sp_pr_checkIndex G h i n hi hn) rfl rfl (by decide) (by decide) (Nat.le_of_ble_eq_true rfl) rfl rfl (kI fun r3 h3 ⟨e3, f3⟩ => ?_)
  subst e3 f3
  refine V_ireturn d_oj_checkIndex_6 rfl ?_
  exact ⟨_, rfl, rfl, rfl⟩
theorem sp_al_elementData (G : Gk) {h : Hp} {a d cap i e : Nat} {es : List Nat} (hA : ALr G h a d es cap) (hi : es[i]? = some e) : Ct G al_elementData [.ref a, .int (nI i)] h (pR fun r h' => h = h' ∧ r = e) := by
  obtain ⟨⟨mc, ha⟩, h1, h2, h3⟩ := hA
  have hlt := (List.getElem?_eq_some_iff.mp hi).1
  have hd : h d = some (27, alV es cap) := h3.elim (fun q => q.2) (fun q => by omega)
  refine Ct.ofL (M := al_elementData) (lv := [some (.ref a), some (.int (nI i))]) mdf_al_elementData rfl (Nat.le_of_ble_eq_true rfl) rfl ?_
  refine V_aload_n d_al_elementData_0 rfl rfl ?_
  refine V_getf d_al_elementData_1 fl_al_9 (by first | assumption | exact hu_self _ _ _ | (simp (disch := first | assumption | (apply Ne.symm; assumption)) only [hu_self, hu_ne]; assumption)) rfl ?_
  refine V_iload_n d_al_elementData_4 rfl rfl ?_
  refine V_aald _ d_al_elementData_5 hd (by decide) (by decide) rfl (by omega) (alV_get hi) ?_
  refine V_areturn d_al_elementData_6 rfl (by first | exact Or.inl ⟨_, rfl⟩ | exact Or.inr ⟨_, rfl⟩) (by first | exact Or.inl rfl | exact Or.inr ⟨_, rfl⟩) ?_
  exact ⟨_, rfl, rfl, rfl⟩
theorem sp_al_get (G : Gk) {h : Hp} {a d cap i e : Nat} {es : List Nat} (hA : ALr G h a d es cap) (hi : es[i]? = some e) : Ct G al_get [.ref a, .int (nI i)] h (pR fun r h' => h = h' ∧ r = e) := by
  have hA0 := hA
  obtain ⟨⟨mc, ha⟩, h1, h2, h3⟩ := hA
  have hlt := (List.getElem?_eq_some_iff.mp hi).1
  refine Ct.ofL (M := al_get) (lv := [some (.ref a), some (.int (nI i))]) mdf_al_get rfl (Nat.le_of_ble_eq_true rfl) rfl ?_
  refine V_iload_n d_al_get_0 rfl rfl ?_
  refine V_aload_n d_al_get_1 rfl rfl ?_
  refine V_getf d_al_get_2 fl_al_48 (by first | assumption | exact hu_self _ _ _ | (simp (disch := first | assumption | (apply Ne.symm; assumption)) only [hu_self, hu_ne]; assumption)) rfl ?_
  refine V_callS (N := oj_checkIndex) d_al_get_5 ml_al_118 mdf_oj_checkIndex ws_oj_checkIndex (sp_oj_checkIndex G h i es.length hlt (by omega)) rfl rfl (by decide) (by decide) (Nat.le_of_ble_eq_true rfl) rfl rfl (kI fun r5 h5 ⟨e5, f5⟩ => ?_)
  subst e5 f5
  refine V_pop d_al_get_8 rfl ?_
  refine V_aload_n d_al_get_9 rfl rfl ?_
  refine V_iload_n d_al_get_10 rfl rfl ?_
  refine V_callV (N := al_elementData) d_al_get_11 ml_al_123 mdf_al_elementData wi_al_elementData wz_al_elementData (sp_al_elementData G hA0 hi) (by first | assumption | exact hu_self _ _ _ | (simp (disch := first | assumption | (apply Ne.symm; assumption)) only [hu_self, hu_ne]; assumption)) ⟨_, rfl, rfl⟩ rfl rfl (by decide) (by decide) (Nat.le_of_ble_eq_true rfl) rfl rfl (kR fun r11 h11 ⟨e11, f11⟩ => ?_)
  subst e11 f11
  refine V_areturn d_al_get_14 rfl (by first | exact Or.inl ⟨_, rfl⟩ | exact Or.inr ⟨_, rfl⟩) (by first | exact Or.inl rfl | exact Or.inr ⟨_, rfl⟩) ?_
  exact ⟨_, rfl, rfl, rfl⟩
theorem sp_as_newLength (G : Gk) (h : Hp) (n : Nat) (hn : n < 1000) : Ct G as_newLength [.int (nI n), .int (nI 1), .int (nI (n / 2))] h (pI fun r h' => h = h' ∧ ∃ k, (n < k ∧ k ≤ n + n / 2 + 1) ∧ r = nI k) := by
  obtain ⟨k, hk, ek⟩ : ∃ k, (n < k ∧ k ≤ n + n / 2 + 1) ∧ nI n + (if nI 1 < nI (n / 2) then nI (n / 2) else nI 1) = nI k := by
    split
    · next q =>
      have := (nI_ltI (by omega) (by omega)).mp q
      exact ⟨n + n / 2, by omega, nI_add _ _⟩
    · exact ⟨n + 1, by omega, nI_add _ _⟩
  refine Ct.ofL (M := as_newLength) (lv := [some (.int (nI n)), some (.int (nI 1)), some (.int (nI (n / 2))), none]) mdf_as_newLength rfl (Nat.le_of_ble_eq_true rfl) rfl ?_
  refine V_iload_n d_as_newLength_0 rfl rfl ?_
  refine V_iload_n d_as_newLength_1 rfl rfl ?_
  refine V_iload_n d_as_newLength_2 rfl rfl ?_
  refine V_mmax d_as_newLength_3 ml_as_194 (by decide) (Nat.le_of_ble_eq_true rfl) ?_
  refine V_iadd d_as_newLength_6 ?_
  rw [ek]
  refine V_istore_n d_as_newLength_7 rfl (by decide) rfl rfl ?_
  dsimp only [List.set]
  refine V_iconst (v := 0) d_as_newLength_8 (by decide) ?_
  refine V_iload_n d_as_newLength_9 rfl rfl ?_
  refine V_icmp_ge d_as_newLength_10 (fun c10 => ?_) (fun c10 => ?_)
  · skip
    exact absurd (geN_le (b := 0) c10 (by omega)) (by omega)
  · skip
    refine V_iload_n d_as_newLength_13 rfl rfl ?_
    refine V_ldc d_as_newLength_14 kc_as_200 ?_
    refine V_icmp_gt d_as_newLength_16 (fun c16 => ?_) (fun c16 => ?_)
    · skip
      exact absurd c16 (Int32.not_lt.mpr (nI_le (b := 2147483639) (by omega) (by decide)))
    · skip
      refine V_iload_n d_as_newLength_19 rfl rfl ?_
      refine V_ireturn d_as_newLength_20 rfl ?_
      exact ⟨_, rfl, rfl, k, hk, rfl⟩
theorem sp_ar_copyOf3 (G : Gk) {h : Hp} {d k0 : Nat} {es : List Nat} {cap : Nat} (hd : h d = some (27, alV es cap)) (he : es.length ≤ cap) (hes : eOs h es) (hc : cap < 1000) (hk : cap ≤ k0) (hk0 : k0 ≤ 800) : Ct G ar_copyOf3 [.ref d, .int (nI k0), .ref G.2.2.2.2.2] h (pR fun r h' => h r = none ∧ h' = hu h r (27, alV es k0)) := by
  refine Ct.ofL (M := ar_copyOf3) (lv := [some (.ref d), some (.int (nI k0)), some (.ref G.2.2.2.2.2), none]) mdf_ar_copyOf3 rfl (Nat.le_of_ble_eq_true rfl) rfl ?_
  refine V.need (cr := 0 + 1) (sr := 0 + k0) ?_ (Nat.le_of_ble_eq_true rfl) (by show 0 + k0 ≤ 800; omega)
  refine V_aload_n d_ar_copyOf3_0 rfl rfl ?_
  refine V_ldcM d_ar_copyOf3_1 kl_ar_110 ?_
  refine V_acmp_ne (rx := some _) (ry := some _) d_ar_copyOf3_3 (fun c3 => ?_) (fun c3 => ?_)
  · skip
    exact absurd rfl c3
  · skip
    refine V_iload_n d_ar_copyOf3_6 rfl rfl ?_
    refine V_anew (M := ar_copyOf3) k0 d_ar_copyOf3_7 an_ar_2 rfl (by omega) (fun q7 hq7 => ?_)
    have hd2 : hu h q7 (27, List.replicate k0 Value.null) d = some (27, alV es cap) := by rw [hu_ne _ _ (fne hd hq7)]; exact hd
    refine V_goto d_ar_copyOf3_10 ?_
    refine V_astore_n d_ar_copyOf3_24 rfl (by decide) rfl rfl ?_
    dsimp only [List.set]
    refine V_aload_n d_ar_copyOf3_25 rfl rfl ?_
    refine V_iconst (v := 0) d_ar_copyOf3_26 (by decide) ?_
    refine V_aload_n d_ar_copyOf3_27 rfl rfl ?_
    refine V_iconst (v := 0) d_ar_copyOf3_28 (by decide) ?_
    refine V_aload_n d_ar_copyOf3_29 rfl rfl ?_
    refine V_alen d_ar_copyOf3_30 hd2 (by decide) (by decide) ?_
    refine V_iload_n d_ar_copyOf3_31 rfl rfl ?_
    refine V_mmin d_ar_copyOf3_32 ml_ar_304 (by decide) (Nat.le_of_ble_eq_true rfl) ?_
    refine V_acpO 0 0 cap d_ar_copyOf3_35 ml_ar_150 hd2 (Or.inl rfl) (hu_self _ _ _) rfl rfl (by rw [alV_len he, if_neg (fun q => absurd ((nI_ltI (by omega) (by omega)).mp q) (by omega))]) (by rw [alV_len he]; omega) (by simp; omega) (by rw [alV_len he]; omega) (by simp; omega) (fun v hv => (alV_eO hes v hv).imp id (fun ⟨y, kv, ws, q1, q2, q3⟩ => ⟨y, kv, ws, q1, by rw [hu_ne _ _ (fne q2 hq7)]; exact q2, q3⟩)) (by decide) (Nat.le_of_ble_eq_true rfl) ?_
    rw [hu_hu]
    refine V_aload_n d_ar_copyOf3_38 rfl rfl ?_
    refine V_areturn d_ar_copyOf3_39 rfl (by first | exact Or.inl ⟨_, rfl⟩ | exact Or.inr ⟨_, rfl⟩) (by first | exact Or.inl rfl | exact Or.inr ⟨_, rfl⟩) ?_
    refine ⟨_, rfl, hq7, ?_⟩
    congr 2
    refine alV_ext (by rw [cpyL_len]; simp) (by omega) (fun i e hi => ?_) (fun i hi hc2 => ?_)
    · (have hlt := (List.getElem?_eq_some_iff.mp hi).1; rw [cpyL_get (by simp; omega), if_pos (by omega), List.getD_eq_getElem?_getD, Nat.zero_add, Nat.sub_zero, alV_get hi]; rfl)
    rw [cpyL_get (by simp; omega)]
    rcases Nat.lt_or_ge i cap with z | z
    · (rw [if_pos (by omega), List.getD_eq_getElem?_getD, Nat.zero_add, Nat.sub_zero, alV_getN hi (by omega)]; rfl)
    · (rw [if_neg (by omega), List.getD_eq_getElem?_getD, List.getElem?_replicate, if_pos (by omega)]; rfl)
theorem sp_ar_copyOf2 (G : Gk) {h : Hp} {d k0 : Nat} {es : List Nat} {cap : Nat} (hd : h d = some (27, alV es cap)) (he : es.length ≤ cap) (hes : eOs h es) (hc : cap < 1000) (hk : cap ≤ k0) (hk0 : k0 ≤ 800) : Ct G ar_copyOf2 [.ref d, .int (nI k0)] h (pR fun r h' => h r = none ∧ h' = hu h r (27, alV es k0)) := by
  refine Ct.ofL (M := ar_copyOf2) (lv := [some (.ref d), some (.int (nI k0))]) mdf_ar_copyOf2 rfl (Nat.le_of_ble_eq_true rfl) rfl ?_
  refine V_aload_n d_ar_copyOf2_0 rfl rfl ?_
  refine V_iload_n d_ar_copyOf2_1 rfl rfl ?_
  refine V_aload_n d_ar_copyOf2_2 rfl rfl ?_
  refine V_getC d_ar_copyOf2_3 ml_ar_86 hd (Or.inl rfl) (by decide) (Nat.le_of_ble_eq_true rfl) ?_
  refine V_callS (N := ar_copyOf3) d_ar_copyOf2_6 ml_ar_300 mdf_ar_copyOf3 ws_ar_copyOf3 (sp_ar_copyOf3 G hd he hes hc hk hk0) rfl rfl (by decide) (by decide) (Nat.le_of_ble_eq_true rfl) rfl rfl (kR fun r6 h6 p6 => ?_)
  refine V_areturn d_ar_copyOf2_9 rfl (by first | exact Or.inl ⟨_, rfl⟩ | exact Or.inr ⟨_, rfl⟩) (by first | exact Or.inl rfl | exact Or.inr ⟨_, rfl⟩) ?_
  exact ⟨_, rfl, p6⟩
/-- a list gets room: elementData becomes d', fresh -/
theorem sp_al_grow1 (G : Gk) {h : Hp} (hz : Zr G h) {a d cap : Nat} {es : List Nat} (hA : ALr G h a d es cap) (hes : eOs h es) (hn : cap = es.length) (h520 : es.length ≤ 520) : Ct G al_grow1 [.ref a, .int (nI (es.length + 1))] h (pR fun r h' => ∃ mc k, h r = none ∧ es.length < k ∧ k < 1000 ∧ h a = some (0, [.int mc, .ref d, .int (nI es.length)]) ∧ h' = hu (hu h r (27, alV es k)) a (0, [.int mc, .ref r, .int (nI es.length)])) := by
  obtain ⟨⟨mc, ha⟩, h1, h2, h3⟩ := hA
  refine Ct.ofL (M := al_grow1) (lv := [some (.ref a), some (.int (nI (es.length + 1))), none, none]) mdf_al_grow1 rfl (Nat.le_of_ble_eq_true rfl) rfl ?_
  rcases h3 with ⟨hc, hd⟩ | ⟨hc, hd⟩
  · skip
    refine V_aload_n d_al_grow1_0 rfl rfl ?_
    refine V_getf d_al_grow1_1 fl_al_9 (by first | assumption | exact hu_self _ _ _ | (simp (disch := first | assumption | (apply Ne.symm; assumption)) only [hu_self, hu_ne]; assumption)) rfl ?_
    refine V_alen d_al_grow1_4 hd (by decide) (by decide) ?_
    rw [alV_len h1]
    refine V_istore_n d_al_grow1_5 rfl (by decide) rfl rfl ?_
    dsimp only [List.set]
    refine V_iload_n d_al_grow1_6 rfl rfl ?_
    refine V_if_gt d_al_grow1_7 (fun c7 => ?_) (fun c7 => ?_)
    · skip
      subst hn
      refine V_iload_n d_al_grow1_20 rfl rfl ?_
      refine V_iload_n d_al_grow1_21 rfl rfl ?_
      refine V_iload_n d_al_grow1_22 rfl rfl ?_
      refine V_isub d_al_grow1_23 ?_
      rw [show nI (es.length + 1) - nI es.length = nI 1 from ixs _ _]
      refine V_iload_n d_al_grow1_24 rfl rfl ?_
      refine V_iconst (v := 1) d_al_grow1_25 (by decide) ?_
      refine V_ishr d_al_grow1_26 ?_
      rw [show (nI es.length) >>> ((1 : Int32) &&& 31) = nI (es.length / 2) from pk_shrN (by omega) ((1 : Int32) &&& 31) 1 (by decide)]
      refine V_callS (N := as_newLength) d_al_grow1_27 ml_al_73 mdf_as_newLength ws_as_newLength (sp_as_newLength G h es.length (by omega)) rfl rfl (by decide) (by decide) (Nat.le_of_ble_eq_true rfl) rfl rfl (kI fun r27 h27 ⟨e27, k, hk, f27⟩ => ?_)
      subst e27 f27
      refine V_istore_n d_al_grow1_30 rfl (by decide) rfl rfl ?_
      dsimp only [List.set]
      refine V_aload_n d_al_grow1_31 rfl rfl ?_
      refine V_aload_n d_al_grow1_32 rfl rfl ?_
      refine V_getf d_al_grow1_33 fl_al_9 (by first | assumption | exact hu_self _ _ _ | (simp (disch := first | assumption | (apply Ne.symm; assumption)) only [hu_self, hu_ne]; assumption)) rfl ?_
      refine V_iload_n d_al_grow1_36 rfl rfl ?_
      refine V_callS (N := ar_copyOf2) d_al_grow1_37 ml_al_66 mdf_ar_copyOf2 ws_ar_copyOf2 (sp_ar_copyOf2 G hd h1 hes h2 (by omega) (by omega)) rfl rfl (by decide) (by decide) (Nat.le_of_ble_eq_true rfl) rfl rfl (kR fun r37 h37 ⟨e37, f37⟩ => ?_)
      subst f37
      have ha2 : hu h r37 (27, alV es k) a = some (0, [.int mc, .ref d, .int (nI es.length)]) := by rw [hu_ne _ _ (fne ha e37)]; exact ha
      refine V_dup_x1 d_al_grow1_40 rfl rfl ?_
      refine V_putf d_al_grow1_41 fp_al_9 rfl rfl ha2 ?_
      refine V_areturn d_al_grow1_44 rfl (by first | exact Or.inl ⟨_, rfl⟩ | exact Or.inr ⟨_, rfl⟩) (by first | exact Or.inl rfl | exact Or.inr ⟨_, rfl⟩) ?_
      exact ⟨_, rfl, mc, k, e37, by omega, by omega, ha, rfl⟩
    · skip
      exact absurd (nI_lt (a := 0) hc (by omega)) c7
  · subst hd
    have e0 : es.length = 0 := by omega
    have hes0 : es = [] := List.eq_nil_of_length_eq_zero e0
    subst hes0
    refine V_aload_n d_al_grow1_0 rfl rfl ?_
    refine V_getf d_al_grow1_1 fl_al_9 (by first | assumption | exact hu_self _ _ _ | (simp (disch := first | assumption | (apply Ne.symm; assumption)) only [hu_self, hu_ne]; assumption)) rfl ?_
    refine V_alen d_al_grow1_4 hz.2 (by decide) (by decide) ?_
    refine V_istore_n d_al_grow1_5 rfl (by decide) rfl rfl ?_
    dsimp only [List.set]
    refine V_iload_n d_al_grow1_6 rfl rfl ?_
    refine V_if_gt d_al_grow1_7 (fun c7 => ?_) (fun c7 => ?_)
    · skip
      exact absurd c7 (by decide)
    · skip
      refine V_aload_n d_al_grow1_10 rfl rfl ?_
      refine V_getf d_al_grow1_11 fl_al_9 (by first | assumption | exact hu_self _ _ _ | (simp (disch := first | assumption | (apply Ne.symm; assumption)) only [hu_self, hu_ne]; assumption)) rfl ?_
      refine V_getsE d_al_grow1_14 rfl hz.1 ?_
      refine V_acmp_eq (rx := some _) (ry := some _) d_al_grow1_17 (fun c17 => ?_) (fun c17 => ?_)
      · skip
        refine V_aload_n d_al_grow1_45 rfl rfl ?_
        refine V_bipush (v := 10) d_al_grow1_46 (by decide) ?_
        refine V_iload_n d_al_grow1_48 rfl rfl ?_
        refine V_mmax d_al_grow1_49 ml_al_79 (by decide) (Nat.le_of_ble_eq_true rfl) ?_
        rw [show (if (10 : Int32) < nI (([] : List Nat).length + 1) then nI (([] : List Nat).length + 1) else 10) = nI 10 from rfl]
        refine V.need (cr := 0 + 1) (sr := 0 + 10) ?_ (by decide) (by decide)
        refine V_anew (M := al_grow1) 10 d_al_grow1_52 an_al_7 rfl (by omega) (fun q52 hq52 => ?_)
        refine V_dup_x1 d_al_grow1_55 rfl rfl ?_
        refine V_putf d_al_grow1_56 fp_al_9 rfl rfl (by rw [hu_ne _ _ (fne ha hq52)]; exact ha) ?_
        refine V_areturn d_al_grow1_59 rfl (by first | exact Or.inl ⟨_, rfl⟩ | exact Or.inr ⟨_, rfl⟩) (by first | exact Or.inl rfl | exact Or.inr ⟨_, rfl⟩) ?_
        exact ⟨_, rfl, mc, 10, hq52, by decide, by decide, ha, rfl⟩
      · skip
        exact absurd rfl c17
theorem sp_al_grow0 (G : Gk) {h : Hp} (hz : Zr G h) {a d cap : Nat} {es : List Nat} (hA : ALr G h a d es cap) (hes : eOs h es) (hn : cap = es.length) (h520 : es.length ≤ 520) : Ct G al_grow0 [.ref a] h (pR fun r h' => ∃ mc k, h r = none ∧ es.length < k ∧ k < 1000 ∧ h a = some (0, [.int mc, .ref d, .int (nI es.length)]) ∧ h' = hu (hu h r (27, alV es k)) a (0, [.int mc, .ref r, .int (nI es.length)])) := by
  have hA0 := hA
  obtain ⟨⟨mc, ha⟩, h1, h2, h3⟩ := hA
  refine Ct.ofL (M := al_grow0) (lv := [some (.ref a)]) mdf_al_grow0 rfl (Nat.le_of_ble_eq_true rfl) rfl ?_
  refine V_aload_n d_al_grow0_0 rfl rfl ?_
  refine V_aload_n d_al_grow0_1 rfl rfl ?_
  refine V_getf d_al_grow0_2 fl_al_48 (by first | assumption | exact hu_self _ _ _ | (simp (disch := first | assumption | (apply Ne.symm; assumption)) only [hu_self, hu_ne]; assumption)) rfl ?_
  refine V_iconst (v := 1) d_al_grow0_5 (by decide) ?_
  refine V_iadd d_al_grow0_6 ?_
  rw [nI_1]
  refine V_callV (N := al_grow1) d_al_grow0_7 ml_al_69 mdf_al_grow1 wi_al_grow1 wz_al_grow1 (sp_al_grow1 G hz hA0 hes hn h520) (by first | assumption | exact hu_self _ _ _ | (simp (disch := first | assumption | (apply Ne.symm; assumption)) only [hu_self, hu_ne]; assumption)) ⟨_, rfl, rfl⟩ rfl rfl (by decide) (by decide) (Nat.le_of_ble_eq_true rfl) rfl rfl (kR fun r7 h7 p7 => ?_)
  refine V_areturn d_al_grow0_10 rfl (by first | exact Or.inl ⟨_, rfl⟩ | exact Or.inr ⟨_, rfl⟩) (by first | exact Or.inl rfl | exact Or.inr ⟨_, rfl⟩) ?_
  exact ⟨_, rfl, p7⟩
/-- what a list's change leaves as it was -/
def FrL (h : Hp) (a d : Nat) (h' : Hp) : Prop := ∀ q, q ≠ a → q ≠ d → h q ≠ none → h' q = h q
def AddP (G : Gk) (h : Hp) (a d cap : Nat) (es : List Nat) (e : Nat) (h' : Hp) : Prop := ∃ d' cap', ALr G h' a d' (es ++ [e]) cap' ∧ ((d' = d ∧ cap' = cap ∧ 0 < cap) ∨ (h d' = none ∧ h' d = h d)) ∧ 0 < cap' ∧ FrL h a d h'
theorem sp_al_add3 (G : Gk) {h : Hp} (hz : Zr G h) {a d cap e kv : Nat} {es : List Nat} {ws : List Value} (hA : ALr G h a d es cap) (hes : eOs h es) (he : h e = some (kv, ws)) (hkv : kv = 1 ∨ kv = 3) (h520 : es.length ≤ 520) : Ct G al_add3 [.ref a, .ref e, .ref d, .int (nI es.length)] h (pN fun h' => AddP G h a d cap es e h') := by
  have hA0 := hA
  obtain ⟨⟨mc, ha⟩, h1, h2, h3⟩ := hA
  have hda : ∃ k vs, h d = some (k, vs) ∧ (k = 27 ∨ k = 29) ∧ vs.length = cap := by
    rcases h3 with ⟨q1, q2⟩ | ⟨q1, q2⟩
    · exact ⟨27, _, q2, Or.inl rfl, alV_len h1⟩
    · exact ⟨29, _, by rw [q2]; exact hz.2, Or.inr rfl, by rw [q1]; rfl⟩
  obtain ⟨kd, vd, hd, hkd, hvd⟩ := hda
  have nad : a ≠ d := kne ha hd (by omega)
  have nea : e ≠ a := kne he ha (by omega)
  refine Ct.ofL (M := al_add3) (lv := [some (.ref a), some (.ref e), some (.ref d), some (.int (nI es.length))]) mdf_al_add3 rfl (Nat.le_of_ble_eq_true rfl) rfl ?_
  refine V_iload_n d_al_add3_0 rfl rfl ?_
  refine V_aload_n d_al_add3_1 rfl rfl ?_
  refine (V_alen d_al_add3_2 hd (by omega) (by omega) ?_)
  rw [hvd]
  refine V_icmp_ne d_al_add3_3 (fun c3 => ?_) (fun c3 => ?_)
  · skip
    have hlt : es.length < cap := by rcases Nat.lt_or_ge es.length cap with q | q; exact q; exact absurd (by rw [show es.length = cap by omega]) c3
    have hd27 : h d = some (27, alV es cap) := h3.elim (fun q => q.2) (fun q => by omega)
    refine V_aload_n d_al_add3_11 rfl rfl ?_
    refine V_iload_n d_al_add3_12 rfl rfl ?_
    refine V_aload_n d_al_add3_13 rfl rfl ?_
    refine V_aastO es.length d_al_add3_14 hd27 he hkv rfl (by omega) (by rw [alV_len h1]; exact hlt) ?_
    rw [alV_push hlt]
    have ha2 : hu h d (27, alV (es ++ [e]) cap) a = some (0, [.int mc, .ref d, .int (nI es.length)]) := by rw [hu_ne _ _ nad]; exact ha
    refine V_aload_n d_al_add3_15 rfl rfl ?_
    refine V_iload_n d_al_add3_16 rfl rfl ?_
    refine V_iconst (v := 1) d_al_add3_17 (by decide) ?_
    refine V_iadd d_al_add3_18 ?_
    rw [nI_1]
    refine V_putf d_al_add3_19 fp_al_48 rfl rfl ha2 ?_
    refine V_return d_al_add3_22 rfl ?_
    refine ⟨rfl, d, cap, ⟨⟨mc, ?_⟩, ?_, h2, Or.inl ⟨by omega, ?_⟩⟩, Or.inl ⟨rfl, rfl, by omega⟩, by omega, fun q q1 q2 _ => ?_⟩
    · (rw [hu_self, List.length_append]; rfl)
    · (rw [List.length_append]; exact hlt)
    · (rw [hu_ne _ _ (Ne.symm nad), hu_self])
    · (rw [hu_ne _ _ q1, hu_ne _ _ q2])
  · skip
    refine V_aload_n d_al_add3_6 rfl rfl ?_
    refine V_callV (N := al_grow0) d_al_add3_7 ml_al_129 mdf_al_grow0 wi_al_grow0 wz_al_grow0 (sp_al_grow0 G hz hA0 hes (eqN c3 (by omega) (by omega)).symm h520) (by first | assumption | exact hu_self _ _ _ | (simp (disch := first | assumption | (apply Ne.symm; assumption)) only [hu_self, hu_ne]; assumption)) ⟨_, rfl, rfl⟩ rfl rfl (by decide) (by decide) (Nat.le_of_ble_eq_true rfl) rfl rfl (kR fun r7 h7 ⟨mc', k, e7, k1, k2, a7, f7⟩ => ?_)
    subst f7
    have nar : a ≠ r7 := fne ha e7
    have ner : e ≠ r7 := fne he e7
    have hr2 : hu (hu h r7 (27, alV es k)) a (0, [.int mc', .ref r7, .int (nI es.length)]) r7 = some (27, alV es k) := by rw [hu_ne _ _ (Ne.symm nar), hu_self]
    have he2 : hu (hu h r7 (27, alV es k)) a (0, [.int mc', .ref r7, .int (nI es.length)]) e = some (kv, ws) := by rw [hu_ne _ _ nea, hu_ne _ _ ner]; exact he
    refine V_astore_n d_al_add3_10 rfl (by decide) rfl rfl ?_
    dsimp only [List.set]
    refine V_aload_n d_al_add3_11 rfl rfl ?_
    refine V_iload_n d_al_add3_12 rfl rfl ?_
    refine V_aload_n d_al_add3_13 rfl rfl ?_
    refine V_aastO es.length d_al_add3_14 hr2 he2 hkv rfl (by omega) (by rw [alV_len (by omega)]; exact k1) ?_
    rw [alV_push k1]
    refine V_aload_n d_al_add3_15 rfl rfl ?_
    refine V_iload_n d_al_add3_16 rfl rfl ?_
    refine V_iconst (v := 1) d_al_add3_17 (by decide) ?_
    refine V_iadd d_al_add3_18 ?_
    rw [nI_1]
    refine V_putf d_al_add3_19 fp_al_48 rfl rfl (by rw [hu_ne _ _ nar, hu_self]) ?_
    refine V_return d_al_add3_22 rfl ?_
    refine ⟨rfl, r7, k, ⟨⟨mc', ?_⟩, ?_, k2, Or.inl ⟨by omega, ?_⟩⟩, Or.inr ⟨e7, ?_⟩, by omega, fun q q1 q2 q3 => ?_⟩
    · (rw [hu_self, List.length_append]; rfl)
    · (rw [List.length_append]; exact k1)
    · (rw [hu_ne _ _ (Ne.symm nar), hu_self])
    · (have : d ≠ r7 := fne hd e7; rw [hu_ne _ _ (Ne.symm nad), hu_ne _ _ this, hu_ne _ _ (Ne.symm nad), hu_ne _ _ this])
    · (have : q ≠ r7 := fun z => q3 (by rw [z]; exact e7); rw [hu_ne _ _ q1, hu_ne _ _ this, hu_ne _ _ q1, hu_ne _ _ this])
theorem sp_al_add1 (G : Gk) {h : Hp} (hz : Zr G h) {a d cap e kv : Nat} {es : List Nat} {ws : List Value} (hA : ALr G h a d es cap) (hes : eOs h es) (he : h e = some (kv, ws)) (hkv : kv = 1 ∨ kv = 3) (h520 : es.length ≤ 520) : Ct G al_add1 [.ref a, .ref e] h (pI fun r h' => r = 1 ∧ AddP G h a d cap es e h') := by
  obtain ⟨⟨mc, ha⟩, h1, h2, h3⟩ := hA
  have nz1 : G.2.2.2.1 ≠ a := kne hz.1 ha (by decide)
  have nz2 : G.2.2.1 ≠ a := kne hz.2 ha (by decide)
  have nea : e ≠ a := kne he ha (by omega)
  have nad : d ≠ a := by
    rcases h3 with ⟨q1, q2⟩ | ⟨q1, q2⟩
    · exact kne q2 ha (by decide)
    · rw [q2]; exact nz2
  have hA1 : ALr G (hu h a (0, [.int (mc + 1), .ref d, .int (nI es.length)])) a d es cap := ⟨⟨mc + 1, hu_self _ _ _⟩, h1, h2, h3.imp (fun q => ⟨q.1, by rw [hu_ne _ _ nad]; exact q.2⟩) id⟩
  have hes1 : eOs (hu h a (0, [.int (mc + 1), .ref d, .int (nI es.length)])) es := fun x hx => by
    obtain ⟨kv, ws, q1, q2⟩ := hes x hx
    exact ⟨kv, ws, by rw [hu_ne _ _ (kne q1 ha (by omega))]; exact q1, q2⟩
  refine Ct.ofL (M := al_add1) (lv := [some (.ref a), some (.ref e)]) mdf_al_add1 rfl (Nat.le_of_ble_eq_true rfl) rfl ?_
  refine V_aload_n d_al_add1_0 rfl rfl ?_
  refine V_dup d_al_add1_1 rfl ?_
  refine V_getf d_al_add1_2 fl_al_63 (by first | assumption | exact hu_self _ _ _ | (simp (disch := first | assumption | (apply Ne.symm; assumption)) only [hu_self, hu_ne]; assumption)) rfl ?_
  refine V_iconst (v := 1) d_al_add1_5 (by decide) ?_
  refine V_iadd d_al_add1_6 ?_
  refine V_putf d_al_add1_7 fp_al_63 rfl rfl (by first | assumption | exact hu_self _ _ _ | (simp (disch := first | assumption | (apply Ne.symm; assumption)) only [hu_self, hu_ne]; assumption)) ?_
  refine V_aload_n d_al_add1_10 rfl rfl ?_
  refine V_aload_n d_al_add1_11 rfl rfl ?_
  refine V_aload_n d_al_add1_12 rfl rfl ?_
  refine V_getf d_al_add1_13 fl_al_9 (hu_self _ _ _) rfl ?_
  refine V_aload_n d_al_add1_16 rfl rfl ?_
  refine V_getf d_al_add1_17 fl_al_48 (hu_self _ _ _) rfl ?_
  refine V_callV (N := al_add3) d_al_add1_20 ml_al_131 mdf_al_add3 wi_al_add3 wz_al_add3 (sp_al_add3 G ⟨by rw [hu_ne _ _ nz1]; exact hz.1, by rw [hu_ne _ _ nz2]; exact hz.2⟩ hA1 hes1 (by rw [hu_ne _ _ nea]; exact he) hkv h520) (hu_self _ _ _) ⟨_, rfl, rfl⟩ rfl rfl (by decide) (by decide) (Nat.le_of_ble_eq_true rfl) rfl rfl (kN fun h20 ⟨d', cap', p1, p2, p4, p3⟩ => ?_)
  refine V_iconst (v := 1) d_al_add1_23 (by decide) ?_
  refine V_zreturn d_al_add1_24 rfl (by first | exact Or.inl rfl | exact Or.inr rfl) ?_
  refine ⟨_, rfl, rfl, d', cap', p1, p2.imp id (fun ⟨q1, q2⟩ => ?_), p4, fun q q1 q2 q3 => ?_⟩
  · (rw [p3 q q1 q2 (by rw [hu_ne _ _ q1]; exact q3), hu_ne _ _ q1])
  · (have nda : d' ≠ a := (fun z => by rw [z, hu_self] at q1; cases q1); rw [hu_ne _ _ nda] at q1; rw [hu_ne _ _ nad] at q2; exact ⟨q1, q2⟩)
theorem alV_rem {es : List Nat} {cap i : Nat} (h : es.length ≤ cap) (hi : i < es.length) : (cpyL (alV es cap) (alV es cap) (i + 1) i (es.length - 1 - i)).set (es.length - 1) .null = alV (es.eraseIdx i) cap := by
  have hl : (es.eraseIdx i).length = es.length - 1 := by rw [List.length_eraseIdx, if_pos hi]
  refine alV_ext (by rw [List.length_set, cpyL_len, alV_len h]) (by omega) (fun j e hj => ?_) (fun j hj hc => ?_)
  · have hlt := (List.getElem?_eq_some_iff.mp hj).1
    rw [hl] at hlt
    rw [List.getElem?_set_ne (by omega), cpyL_get (by rw [alV_len h]; omega)]
    rw [List.getElem?_eraseIdx] at hj
    by_cases q : j < i
    · rw [if_pos q] at hj
      rw [if_neg (by omega), List.getD_eq_getElem?_getD, alV_get hj]
      rfl
    · rw [if_neg q] at hj
      rw [if_pos (by omega), List.getD_eq_getElem?_getD, show i + 1 + (j - i) = j + 1 by omega, alV_get hj]
      rfl
  · rw [hl] at hj
    by_cases q : j = es.length - 1
    · subst q
      rw [List.getElem?_set_self (by rw [cpyL_len, alV_len h]; omega)]
    · rw [List.getElem?_set_ne (by omega), cpyL_get (by rw [alV_len h]; omega), if_neg (by omega), List.getD_eq_getElem?_getD, alV_getN (by omega) hc]
      rfl
theorem alV_rem0 {es : List Nat} {cap : Nat} (h : es.length ≤ cap) (hi : 0 < es.length) : (alV es cap).set (es.length - 1) .null = alV (es.eraseIdx (es.length - 1)) cap := by
  have hl : (es.eraseIdx (es.length - 1)).length = es.length - 1 := by rw [List.length_eraseIdx, if_pos (by omega)]
  refine alV_ext (by rw [List.length_set, alV_len h]) (by omega) (fun j e hj => ?_) (fun j hj hc => ?_)
  · have hlt := (List.getElem?_eq_some_iff.mp hj).1
    rw [hl] at hlt
    rw [List.getElem?_set_ne (by omega)]
    rw [List.getElem?_eraseIdx, if_pos hlt] at hj
    exact alV_get hj
  · rw [hl] at hj
    by_cases q : j = es.length - 1
    · subst q
      rw [List.getElem?_set_self (by rw [alV_len h]; omega)]
    · rw [List.getElem?_set_ne (by omega), alV_getN (by omega) hc]
def dE (cap a d : Nat) : Nat := if cap = 0 then a else d
theorem FrL.of {h h' : Hp} {a d cap : Nat} (hc : 0 < cap) (f : FrL h a d h') : FrL h a (dE cap a d) h' := by
  unfold dE
  rw [if_neg (by omega)]
  exact f
def RemP (G : Gk) (h : Hp) (a d cap : Nat) (es : List Nat) (h' : Hp) : Prop := ALr G h' a d es cap ∧ FrL h a (dE cap a d) h'
theorem sp_al_fastRemove (G : Gk) {h : Hp} {a d cap i : Nat} {es : List Nat} (hA : ALr G h a d es cap) (hes : eOs h es) (hi : i < es.length) : Ct G al_fastRemove [.ref a, .ref d, .int (nI i)] h (pN fun h' => RemP G h a d cap (es.eraseIdx i) h') := by
  obtain ⟨⟨mc, ha⟩, h1, h2, h3⟩ := hA
  have hd : h d = some (27, alV es cap) := h3.elim (fun q => q.2) (fun q => by omega)
  have nda : d ≠ a := kne hd ha (by decide)
  have hl : (es.eraseIdx i).length = es.length - 1 := by rw [List.length_eraseIdx, if_pos hi]
  have hd1 : hu h a (0, [.int (mc + 1), .ref d, .int (nI es.length)]) d = some (27, alV es cap) := by rw [hu_ne _ _ nda]; exact hd
  refine Ct.ofL (M := al_fastRemove) (lv := [some (.ref a), some (.ref d), some (.int (nI i)), none]) mdf_al_fastRemove rfl (Nat.le_of_ble_eq_true rfl) rfl ?_
  refine V_aload_n d_al_fastRemove_0 rfl rfl ?_
  refine V_dup d_al_fastRemove_1 rfl ?_
  refine V_getf d_al_fastRemove_2 fl_al_63 (by first | assumption | exact hu_self _ _ _ | (simp (disch := first | assumption | (apply Ne.symm; assumption)) only [hu_self, hu_ne]; assumption)) rfl ?_
  refine V_iconst (v := 1) d_al_fastRemove_5 (by decide) ?_
  refine V_iadd d_al_fastRemove_6 ?_
  refine V_putf d_al_fastRemove_7 fp_al_63 rfl rfl (by first | assumption | exact hu_self _ _ _ | (simp (disch := first | assumption | (apply Ne.symm; assumption)) only [hu_self, hu_ne]; assumption)) ?_
  refine V_aload_n d_al_fastRemove_10 rfl rfl ?_
  refine V_getf d_al_fastRemove_11 fl_al_48 (hu_self _ _ _) rfl ?_
  refine V_iconst (v := 1) d_al_fastRemove_14 (by decide) ?_
  refine V_isub d_al_fastRemove_15 ?_
  rw [ixm (by omega)]
  refine V_dup d_al_fastRemove_16 rfl ?_
  refine V_istore_n d_al_fastRemove_17 rfl (by decide) rfl rfl ?_
  dsimp only [List.set]
  refine V_iload_n d_al_fastRemove_18 rfl rfl ?_
  refine V_icmp_le d_al_fastRemove_19 (fun c19 => ?_) (fun c19 => ?_)
  · skip
    obtain rfl : i = es.length - 1 := by have := geN_le c19 (by omega); omega
    refine V_aload_n d_al_fastRemove_34 rfl rfl ?_
    refine V_aload_n d_al_fastRemove_35 rfl rfl ?_
    refine V_iload_n d_al_fastRemove_36 rfl rfl ?_
    refine V_dup_x1 d_al_fastRemove_37 rfl rfl ?_
    refine V_putf d_al_fastRemove_38 fp_al_48 rfl rfl (hu_self _ _ _) ?_
    refine V_null d_al_fastRemove_41 ?_
    refine V_aastN (es.length - 1) d_al_fastRemove_42 (by rw [hu_ne _ _ nda]; exact hd1) rfl (by omega) (by rw [alV_len h1]; omega) ?_
    rw [alV_rem0 h1 (by omega), hu_hu]
    refine V_return d_al_fastRemove_43 rfl ?_
    refine ⟨rfl, ⟨⟨mc + 1, ?_⟩, by omega, h2, Or.inl ⟨by omega, hu_self _ _ _⟩⟩, FrL.of (by omega) (fun q q1 q2 _ => ?_)⟩
    · (rw [hu_ne _ _ (Ne.symm nda), hu_self, hl]; rfl)
    · (rw [hu_ne _ _ q2, hu_ne _ _ q1])
  · skip
    refine V_aload_n d_al_fastRemove_22 rfl rfl ?_
    refine V_iload_n d_al_fastRemove_23 rfl rfl ?_
    refine V_iconst (v := 1) d_al_fastRemove_24 (by decide) ?_
    refine V_iadd d_al_fastRemove_25 ?_
    rw [nI_1]
    refine V_aload_n d_al_fastRemove_26 rfl rfl ?_
    refine V_iload_n d_al_fastRemove_27 rfl rfl ?_
    refine V_iload_n d_al_fastRemove_28 rfl rfl ?_
    refine V_iload_n d_al_fastRemove_29 rfl rfl ?_
    refine V_isub d_al_fastRemove_30 ?_
    rw [pk_sub (by omega)]
    refine V_acpO (i + 1) i (es.length - 1 - i) d_al_fastRemove_31 ml_al_112 hd1 (Or.inl rfl) hd1 rfl rfl rfl (by rw [alV_len h1]; omega) (by rw [alV_len h1]; omega) (by rw [alV_len h1]; omega) (by rw [alV_len h1]; omega) (fun v hv => (alV_eO hes v hv).imp id (fun ⟨y, kv, ws, q1, q2, q3⟩ => ⟨y, kv, ws, q1, by rw [hu_ne _ _ (kne q2 ha (by omega))]; exact q2, q3⟩)) (by decide) (Nat.le_of_ble_eq_true rfl) ?_
    refine V_aload_n d_al_fastRemove_34 rfl rfl ?_
    refine V_aload_n d_al_fastRemove_35 rfl rfl ?_
    refine V_iload_n d_al_fastRemove_36 rfl rfl ?_
    refine V_dup_x1 d_al_fastRemove_37 rfl rfl ?_
    refine V_putf d_al_fastRemove_38 fp_al_48 rfl rfl (by rw [hu_ne _ _ (Ne.symm nda), hu_self]) ?_
    refine V_null d_al_fastRemove_41 ?_
    refine V_aastN (es.length - 1) d_al_fastRemove_42 (by rw [hu_ne _ _ nda, hu_self]) rfl (by omega) (by rw [cpyL_len, alV_len h1]; omega) ?_
    rw [alV_rem h1 hi]
    refine V_return d_al_fastRemove_43 rfl ?_
    refine ⟨rfl, ⟨⟨mc + 1, ?_⟩, by omega, h2, Or.inl ⟨by omega, hu_self _ _ _⟩⟩, FrL.of (by omega) (fun q q1 q2 _ => ?_)⟩
    · (rw [hu_ne _ _ (Ne.symm nda), hu_self, hl]; rfl)
    · (rw [hu_ne _ _ q2, hu_ne _ _ q1, hu_ne _ _ q2, hu_ne _ _ q1])
theorem sp_al_remove (G : Gk) {h : Hp} {a d cap i e : Nat} {es : List Nat} (hA : ALr G h a d es cap) (hes : eOs h es) (hi : es[i]? = some e) : Ct G al_remove [.ref a, .int (nI i)] h (pR fun r h' => r = e ∧ RemP G h a d cap (es.eraseIdx i) h') := by
  have hA0 := hA
  obtain ⟨⟨mc, ha⟩, h1, h2, h3⟩ := hA
  have hlt := (List.getElem?_eq_some_iff.mp hi).1
  have hd : h d = some (27, alV es cap) := h3.elim (fun q => q.2) (fun q => by omega)
  refine Ct.ofL (M := al_remove) (lv := [some (.ref a), some (.int (nI i)), none, none]) mdf_al_remove rfl (Nat.le_of_ble_eq_true rfl) rfl ?_
  refine V_iload_n d_al_remove_0 rfl rfl ?_
  refine V_aload_n d_al_remove_1 rfl rfl ?_
  refine V_getf d_al_remove_2 fl_al_48 (by first | assumption | exact hu_self _ _ _ | (simp (disch := first | assumption | (apply Ne.symm; assumption)) only [hu_self, hu_ne]; assumption)) rfl ?_
  refine V_callS (N := oj_checkIndex) d_al_remove_5 ml_al_118 mdf_oj_checkIndex ws_oj_checkIndex (sp_oj_checkIndex G h i es.length hlt (by omega)) rfl rfl (by decide) (by decide) (Nat.le_of_ble_eq_true rfl) rfl rfl (kI fun r5 h5 ⟨e5, f5⟩ => ?_)
  subst e5 f5
  refine V_pop d_al_remove_8 rfl ?_
  refine V_aload_n d_al_remove_9 rfl rfl ?_
  refine V_getf d_al_remove_10 fl_al_9 (by first | assumption | exact hu_self _ _ _ | (simp (disch := first | assumption | (apply Ne.symm; assumption)) only [hu_self, hu_ne]; assumption)) rfl ?_
  refine V_astore_n d_al_remove_13 rfl (by decide) rfl rfl ?_
  dsimp only [List.set]
  refine V_aload_n d_al_remove_14 rfl rfl ?_
  refine V_iload_n d_al_remove_15 rfl rfl ?_
  refine V_aald _ d_al_remove_16 hd (by decide) (by decide) rfl (by omega) (alV_get hi) ?_
  refine V_astore_n d_al_remove_17 rfl (by decide) rfl rfl ?_
  dsimp only [List.set]
  refine V_aload_n d_al_remove_18 rfl rfl ?_
  refine V_aload_n d_al_remove_19 rfl rfl ?_
  refine V_iload_n d_al_remove_20 rfl rfl ?_
  refine V_callV (N := al_fastRemove) d_al_remove_21 ml_al_144 mdf_al_fastRemove wi_al_fastRemove wz_al_fastRemove (sp_al_fastRemove G hA0 hes hlt) (by first | assumption | exact hu_self _ _ _ | (simp (disch := first | assumption | (apply Ne.symm; assumption)) only [hu_self, hu_ne]; assumption)) ⟨_, rfl, rfl⟩ rfl rfl (by decide) (by decide) (Nat.le_of_ble_eq_true rfl) rfl rfl (kN fun h21 p21 => ?_)
  refine V_aload_n d_al_remove_24 rfl rfl ?_
  refine V_areturn d_al_remove_25 rfl (by first | exact Or.inl ⟨_, rfl⟩ | exact Or.inr ⟨_, rfl⟩) (by first | exact Or.inl rfl | exact Or.inr ⟨_, rfl⟩) ?_
  exact ⟨_, rfl, rfl, p21⟩
theorem lp_clear (G : Gk) {h0 : Hp} {a d cap : Nat} {n : Nat} (hn : n ≤ cap) (hc : cap < 1000) (post : Option Value → Hp → Prop) (K : ∀ h, h d = some (27, List.replicate cap .null) → (∀ q, q ≠ d → h q = h0 q) → post none h) : ∀ (c i : Nat) (h : Hp) (vs : List Value), i + c = n → h d = some (27, vs) → vs.length = cap → (∀ j, j < cap → (j < i ∨ n ≤ j) → vs[j]? = some Value.null) → (∀ q, q ≠ d → h q = h0 q) →
    V G al_clear post h 0 0 27 [some (.ref a), some (.ref d), some (.int (nI n)), some (.int (nI i))] [] := by
  intro c
  induction c with
  | zero =>
    intro i h vs hi hd hl hv hf
    refine V_iload_n d_al_clear_27 rfl rfl ?_
    refine V_iload_n d_al_clear_28 rfl rfl ?_
    refine V_icmp_ge d_al_clear_29 (fun c29 => ?_) (fun c29 => ?_)
    · skip
      refine V_return d_al_clear_42 rfl ?_
      refine K h ?_ hf
      rw [hd]
      congr 2
      apply List.ext_getElem?
      intro j
      rcases Nat.lt_or_ge j cap with q | q
      · (rw [hv j q (by omega), List.getElem?_replicate, if_pos q])
      · (rw [List.getElem?_eq_none (by omega), List.getElem?_eq_none (by simp; omega)])
    · skip
      exact absurd (ltN c29 (by omega)) (by omega)
  | succ c ih =>
    intro i h vs hi hd hl hv hf
    refine V_iload_n d_al_clear_27 rfl rfl ?_
    refine V_iload_n d_al_clear_28 rfl rfl ?_
    refine V_icmp_ge d_al_clear_29 (fun c29 => ?_) (fun c29 => ?_)
    · skip
      exact absurd (geN c29 (by omega)) (by omega)
    · skip
      refine V_aload_n d_al_clear_32 rfl rfl ?_
      refine V_iload_n d_al_clear_33 rfl rfl ?_
      refine V_null d_al_clear_34 ?_
      refine V_aastN i d_al_clear_35 hd rfl (by omega) (by omega) ?_
      refine V_iinc (v := _) d_al_clear_36 rfl rfl (by decide) rfl rfl ?_
      dsimp only [List.set]
      refine V_goto d_al_clear_39 ?_
      rw [show Int32.ofInt 1 = 1 from rfl, nI_1]
      refine ih (i + 1) _ _ (by omega) (hu_self _ _ _) (by rw [List.length_set]; exact hl) (fun j hj hji => ?_) (fun q hq => by rw [hu_ne _ _ hq]; exact hf q hq)
      by_cases e : j = i
      · (subst e; rw [List.getElem?_set_self (by omega)])
      · (rw [List.getElem?_set_ne (by omega)]; exact hv j hj (by omega))
theorem clear0 (G : Gk) {h : Hp} {a : Nat} (d : Nat) (post : Option Value → Hp → Prop) (l : Int32) (K : post none h) : V G al_clear post h 0 0 27 [some (.ref a), some (.ref d), some (.int (nI 0)), some (.int 0)] [] := by
  refine V_iload_n d_al_clear_27 rfl rfl ?_
  refine V_iload_n d_al_clear_28 rfl rfl ?_
  refine V_icmp_ge d_al_clear_29 (fun c29 => ?_) (fun c29 => ?_)
  · skip
    refine V_return d_al_clear_42 rfl ?_
    exact K
  · skip
    exact absurd (by decide) c29
theorem sp_al_clear (G : Gk) {h : Hp} (hz : Zr G h) {a d cap : Nat} {es : List Nat} (hA : ALr G h a d es cap) : Ct G al_clear [.ref a] h (pN fun h' => RemP G h a d cap [] h') := by
  obtain ⟨⟨mc, ha⟩, h1, h2, h3⟩ := hA
  refine Ct.ofL (M := al_clear) (lv := [some (.ref a), none, none, none]) mdf_al_clear rfl (Nat.le_of_ble_eq_true rfl) rfl ?_
  refine V_aload_n d_al_clear_0 rfl rfl ?_
  refine V_dup d_al_clear_1 rfl ?_
  refine V_getf d_al_clear_2 fl_al_63 (by first | assumption | exact hu_self _ _ _ | (simp (disch := first | assumption | (apply Ne.symm; assumption)) only [hu_self, hu_ne]; assumption)) rfl ?_
  refine V_iconst (v := 1) d_al_clear_5 (by decide) ?_
  refine V_iadd d_al_clear_6 ?_
  refine V_putf d_al_clear_7 fp_al_63 rfl rfl (by first | assumption | exact hu_self _ _ _ | (simp (disch := first | assumption | (apply Ne.symm; assumption)) only [hu_self, hu_ne]; assumption)) ?_
  refine V_aload_n d_al_clear_10 rfl rfl ?_
  refine V_getf d_al_clear_11 fl_al_9 (hu_self _ _ _) rfl ?_
  refine V_astore_n d_al_clear_14 rfl (by decide) rfl rfl ?_
  dsimp only [List.set]
  refine V_aload_n d_al_clear_15 rfl rfl ?_
  refine V_getf d_al_clear_16 fl_al_48 (hu_self _ _ _) rfl ?_
  refine V_istore_n d_al_clear_19 rfl (by decide) rfl rfl ?_
  dsimp only [List.set]
  refine V_aload_n d_al_clear_20 rfl rfl ?_
  refine V_iconst (v := 0) d_al_clear_21 (by decide) ?_
  refine V_dup_x1 d_al_clear_22 rfl rfl ?_
  refine V_putf d_al_clear_23 fp_al_48 rfl rfl (hu_self _ _ _) ?_
  rw [hu_hu]
  refine V_istore_n d_al_clear_26 rfl (by decide) rfl rfl ?_
  dsimp only [List.set]
  rcases h3 with ⟨q1, q2⟩ | ⟨q1, q2⟩
  · (have nda : d ≠ a := kne q2 ha (by decide); exact lp_clear G h1 h2 _ (fun h' e1 e2 => ⟨rfl, ⟨⟨mc + 1, by rw [e2 a (Ne.symm nda), hu_self]; rfl⟩, Nat.zero_le _, h2, Or.inl ⟨q1, by rw [e1]; rfl⟩⟩, FrL.of q1 (fun q q3 q4 _ => by rw [e2 q q4, hu_ne _ _ q3])⟩) es.length 0 _ (alV es cap) (by omega) (by rw [hu_ne _ _ nda]; exact q2) (alV_len h1) (fun j hj hji => alV_getN (by omega) hj) (fun _ _ => rfl))
  have e0 : es = [] := List.eq_nil_of_length_eq_zero (by omega)
  subst e0
  exact clear0 G d _ 0 ⟨rfl, ⟨⟨mc + 1, hu_self _ _ _⟩, h1, h2, Or.inr ⟨q1, q2⟩⟩, fun q q3 q4 _ => hu_ne _ _ q3⟩
