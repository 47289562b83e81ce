/-! paths, spots, reach, pairs, watches: what changes them -/
def Fr3 (h : Hp) (a p q : Nat) (h' : Hp) : Prop := ∀ z, z ≠ a → z ≠ p → z ≠ q → h' z = h z
theorem sp_pt_append (G : Gk) {h : Hp} {a p q n : Nat} {f g : Nat → Int32} (ha : h a = some (6, [.ref p, .ref q, .int (nI n)])) (hp : h p = some (20, arrL 5 f)) (hq : h q = some (20, arrL 5 g)) (npq : p ≠ q) (hn : n < 5) (v w : Int32) : Ct G pt_append [.ref a, .int v, .int w] h
    (pI fun r h' => r = nI (n + 1) ∧ h' a = some (6, [.ref p, .ref q, .int (nI (n + 1))]) ∧ h' p = some (20, arrL 5 (upd f n v)) ∧ h' q = some (20, arrL 5 (upd g n w)) ∧ Fr3 h a p q h') := by
  have nap : a ≠ p := kne ha hp (by decide)
  have naq : a ≠ q := kne ha hq (by decide)
  refine Ct.ofL (M := pt_append) (lv := [some (.ref a), some (.int v), some (.int w)]) mdf_pt_append rfl (Nat.le_of_ble_eq_true rfl) rfl ?_
  refine V_aload_n d_pt_append_0 rfl rfl ?_
  refine V_getf d_pt_append_1 fl_pt_9 (by first | assumption | exact hu_self _ _ _ | (simp (disch := first | assumption | (apply Ne.symm; assumption)) only [hu_self, hu_ne]; assumption)) rfl ?_
  refine V_aload_n d_pt_append_4 rfl rfl ?_
  refine V_getf d_pt_append_5 fl_pt_18 (by first | assumption | exact hu_self _ _ _ | (simp (disch := first | assumption | (apply Ne.symm; assumption)) only [hu_self, hu_ne]; assumption)) rfl ?_
  refine V_iload_n d_pt_append_8 rfl rfl ?_
  refine V_iast n d_pt_append_9 (by first | assumption | exact hu_self _ _ _ | (simp (disch := first | assumption | (apply Ne.symm; assumption)) only [hu_self, hu_ne]; assumption)) rfl (by omega) (by first | assumption | (rw [arrL_len]; omega)) ?_
  rw [arrL_set _ _ hn]
  refine V_aload_n d_pt_append_10 rfl rfl ?_
  refine V_getf d_pt_append_11 fl_pt_15 (by first | assumption | exact hu_self _ _ _ | (simp (disch := first | assumption | (apply Ne.symm; assumption)) only [hu_self, hu_ne]; assumption)) rfl ?_
  refine V_aload_n d_pt_append_14 rfl rfl ?_
  refine V_getf d_pt_append_15 fl_pt_18 (by first | assumption | exact hu_self _ _ _ | (simp (disch := first | assumption | (apply Ne.symm; assumption)) only [hu_self, hu_ne]; assumption)) rfl ?_
  refine V_iload_n d_pt_append_18 rfl rfl ?_
  refine V_iast n d_pt_append_19 (by first | assumption | exact hu_self _ _ _ | (simp (disch := first | assumption | (apply Ne.symm; assumption)) only [hu_self, hu_ne]; assumption)) rfl (by omega) (by first | assumption | (rw [arrL_len]; omega)) ?_
  rw [arrL_set _ _ hn]
  refine V_aload_n d_pt_append_20 rfl rfl ?_
  refine V_dup d_pt_append_21 rfl ?_
  refine V_getf d_pt_append_22 fl_pt_18 (by first | assumption | exact hu_self _ _ _ | (simp (disch := first | assumption | (apply Ne.symm; assumption)) only [hu_self, hu_ne]; assumption)) rfl ?_
  refine V_iconst (v := 1) d_pt_append_25 (by decide) ?_
  refine V_iadd d_pt_append_26 ?_
  rw [nI_1]
  refine V_dup_x1 d_pt_append_27 rfl rfl ?_
  refine V_putf d_pt_append_28 fp_pt_18 rfl rfl (by first | assumption | exact hu_self _ _ _ | (simp (disch := first | assumption | (apply Ne.symm; assumption)) only [hu_self, hu_ne]; assumption)) ?_
  refine V_ireturn d_pt_append_31 rfl ?_
  refine ⟨_, rfl, rfl, hu_self _ _ _, ?_, ?_, fun z z1 z2 z3 => ?_⟩
  · (rw [hu_ne _ _ (Ne.symm nap), hu_ne _ _ npq, hu_self])
  · (rw [hu_ne _ _ (Ne.symm naq), hu_self])
  · (rw [hu_ne _ _ z1, hu_ne _ _ z3, hu_ne _ _ z2])
/-- spots at a with arrays p, q: a list of such -/
def SoR (h : Hp) (a p q : Nat) (L : List Spt) : Prop := ∃ f g, h a = some (9, [.ref p, .ref q, .int (nI L.length)]) ∧ h p = some (20, arrL 36 f) ∧ h q = some (20, arrL 36 g) ∧ p ≠ q ∧ AtL f g L
theorem sp_so_add (G : Gk) {h : Hp} {a p q : Nat} {L : List Spt} (hS : SoR h a p q L) (hn : L.length < 36) (v w : Int32) : Ct G so_add [.ref a, .int v, .int w] h
    (pN fun h' => SoR h' a p q (L ++ [(v, w)]) ∧ Fr3 h a p q h') := by
  obtain ⟨f, g, ha, hp, hq, npq, hA⟩ := hS
  have nap : a ≠ p := kne ha hp (by decide)
  have naq : a ≠ q := kne ha hq (by decide)
  refine Ct.ofL (M := so_add) (lv := [some (.ref a), some (.int v), some (.int w)]) mdf_so_add rfl (Nat.le_of_ble_eq_true rfl) rfl ?_
  refine V_aload_n d_so_add_0 rfl rfl ?_
  refine V_getf d_so_add_1 fl_so_18 (by first | assumption | exact hu_self _ _ _ | (simp (disch := first | assumption | (apply Ne.symm; assumption)) only [hu_self, hu_ne]; assumption)) rfl ?_
  refine V_bipush (v := 36) d_so_add_4 (by decide) ?_
  refine V_icmp_lt d_so_add_6 (fun c6 => ?_) (fun c6 => ?_)
  · skip
    refine V_aload_n d_so_add_10 rfl rfl ?_
    refine V_getf d_so_add_11 fl_so_9 (by first | assumption | exact hu_self _ _ _ | (simp (disch := first | assumption | (apply Ne.symm; assumption)) only [hu_self, hu_ne]; assumption)) rfl ?_
    refine V_aload_n d_so_add_14 rfl rfl ?_
    refine V_getf d_so_add_15 fl_so_18 (by first | assumption | exact hu_self _ _ _ | (simp (disch := first | assumption | (apply Ne.symm; assumption)) only [hu_self, hu_ne]; assumption)) rfl ?_
    refine V_iload_n d_so_add_18 rfl rfl ?_
    refine V_iast L.length d_so_add_19 (by first | assumption | exact hu_self _ _ _ | (simp (disch := first | assumption | (apply Ne.symm; assumption)) only [hu_self, hu_ne]; assumption)) rfl (by omega) (by first | assumption | (rw [arrL_len]; omega)) ?_
    rw [arrL_set _ _ hn]
    refine V_aload_n d_so_add_20 rfl rfl ?_
    refine V_getf d_so_add_21 fl_so_15 (by first | assumption | exact hu_self _ _ _ | (simp (disch := first | assumption | (apply Ne.symm; assumption)) only [hu_self, hu_ne]; assumption)) rfl ?_
    refine V_aload_n d_so_add_24 rfl rfl ?_
    refine V_getf d_so_add_25 fl_so_18 (by first | assumption | exact hu_self _ _ _ | (simp (disch := first | assumption | (apply Ne.symm; assumption)) only [hu_self, hu_ne]; assumption)) rfl ?_
    refine V_iload_n d_so_add_28 rfl rfl ?_
    refine V_iast L.length d_so_add_29 (by first | assumption | exact hu_self _ _ _ | (simp (disch := first | assumption | (apply Ne.symm; assumption)) only [hu_self, hu_ne]; assumption)) rfl (by omega) (by first | assumption | (rw [arrL_len]; omega)) ?_
    rw [arrL_set _ _ hn]
    refine V_aload_n d_so_add_30 rfl rfl ?_
    refine V_dup d_so_add_31 rfl ?_
    refine V_getf d_so_add_32 fl_so_18 (by first | assumption | exact hu_self _ _ _ | (simp (disch := first | assumption | (apply Ne.symm; assumption)) only [hu_self, hu_ne]; assumption)) rfl ?_
    refine V_iconst (v := 1) d_so_add_35 (by decide) ?_
    refine V_iadd d_so_add_36 ?_
    rw [nI_1]
    refine V_putf d_so_add_37 fp_so_18 rfl rfl (by first | assumption | exact hu_self _ _ _ | (simp (disch := first | assumption | (apply Ne.symm; assumption)) only [hu_self, hu_ne]; assumption)) ?_
    refine V_return d_so_add_40 rfl ?_
    refine ⟨rfl, ⟨upd f L.length v, upd g L.length w, ?_, ?_, ?_, npq, hA.snoc v w⟩, fun z z1 z2 z3 => ?_⟩
    · (rw [hu_self, List.length_append]; rfl)
    · (rw [hu_ne _ _ (Ne.symm nap), hu_ne _ _ npq, hu_self])
    · (rw [hu_ne _ _ (Ne.symm naq), hu_self])
    · (rw [hu_ne _ _ z1, hu_ne _ _ z3, hu_ne _ _ z2])
  · skip
    exact absurd (nI_lt hn (by omega)) c6
/-- reach at a with arrays p, q -/
def ReR (h : Hp) (a p q : Nat) (b : Bf) : Prop := h a = some (7, [.ref p, .ref q, .int (nI b.1)]) ∧ h p = some (20, arrL 60 b.2.1) ∧ h q = some (20, arrL 60 b.2.2) ∧ p ≠ q
theorem sp_re_add (G : Gk) {h : Hp} {a p q t : Nat} {b : Bf} (hR : ReR h a p q b) (ht : t < 60) (hb : b.2.2 t = -1 → b.1 < 60) : Ct G re_add [.ref a, .int (nI t)] h (pN fun h' => ReR h' a p q (bAdd b (nI t)) ∧ Fr3 h a p q h') := by
  obtain ⟨ha, hp, hq, npq⟩ := hR
  have nap : a ≠ p := kne ha hp (by decide)
  have naq : a ≠ q := kne ha hq (by decide)
  refine Ct.ofL (M := re_add) (lv := [some (.ref a), some (.int (nI t))]) mdf_re_add rfl (Nat.le_of_ble_eq_true rfl) rfl ?_
  refine V_aload_n d_re_add_0 rfl rfl ?_
  refine V_getf d_re_add_1 fl_re_15 (by first | assumption | exact hu_self _ _ _ | (simp (disch := first | assumption | (apply Ne.symm; assumption)) only [hu_self, hu_ne]; assumption)) rfl ?_
  refine V_iload_n d_re_add_4 rfl rfl ?_
  refine V_iald t d_re_add_5 (by first | assumption | exact hu_self _ _ _ | (simp (disch := first | assumption | (apply Ne.symm; assumption)) only [hu_self, hu_ne]; assumption)) rfl (by omega) (by first | assumption | exact arrL_get _ (by omega)) ?_
  refine V_iconst (v := -1) d_re_add_6 (by decide) ?_
  refine V_icmp_eq d_re_add_7 (fun c7 => ?_) (fun c7 => ?_)
  · skip
    have hn := hb c7
    refine V_aload_n d_re_add_11 rfl rfl ?_
    refine V_getf d_re_add_12 fl_re_15 (by first | assumption | exact hu_self _ _ _ | (simp (disch := first | assumption | (apply Ne.symm; assumption)) only [hu_self, hu_ne]; assumption)) rfl ?_
    refine V_iload_n d_re_add_15 rfl rfl ?_
    refine V_aload_n d_re_add_16 rfl rfl ?_
    refine V_getf d_re_add_17 fl_re_18 (by first | assumption | exact hu_self _ _ _ | (simp (disch := first | assumption | (apply Ne.symm; assumption)) only [hu_self, hu_ne]; assumption)) rfl ?_
    refine V_iast t d_re_add_20 (by first | assumption | exact hu_self _ _ _ | (simp (disch := first | assumption | (apply Ne.symm; assumption)) only [hu_self, hu_ne]; assumption)) rfl (by omega) (by first | assumption | (rw [arrL_len]; omega)) ?_
    rw [arrL_set _ _ ht]
    refine V_aload_n d_re_add_21 rfl rfl ?_
    refine V_getf d_re_add_22 fl_re_9 (by first | assumption | exact hu_self _ _ _ | (simp (disch := first | assumption | (apply Ne.symm; assumption)) only [hu_self, hu_ne]; assumption)) rfl ?_
    refine V_aload_n d_re_add_25 rfl rfl ?_
    refine V_getf d_re_add_26 fl_re_18 (by first | assumption | exact hu_self _ _ _ | (simp (disch := first | assumption | (apply Ne.symm; assumption)) only [hu_self, hu_ne]; assumption)) rfl ?_
    refine V_iload_n d_re_add_29 rfl rfl ?_
    refine V_iast b.1 d_re_add_30 (by first | assumption | exact hu_self _ _ _ | (simp (disch := first | assumption | (apply Ne.symm; assumption)) only [hu_self, hu_ne]; assumption)) rfl (by omega) (by first | assumption | (rw [arrL_len]; omega)) ?_
    rw [arrL_set _ _ hn]
    refine V_aload_n d_re_add_31 rfl rfl ?_
    refine V_dup d_re_add_32 rfl ?_
    refine V_getf d_re_add_33 fl_re_18 (by first | assumption | exact hu_self _ _ _ | (simp (disch := first | assumption | (apply Ne.symm; assumption)) only [hu_self, hu_ne]; assumption)) rfl ?_
    refine V_iconst (v := 1) d_re_add_36 (by decide) ?_
    refine V_iadd d_re_add_37 ?_
    rw [nI_1]
    refine V_putf d_re_add_38 fp_re_18 rfl rfl (by first | assumption | exact hu_self _ _ _ | (simp (disch := first | assumption | (apply Ne.symm; assumption)) only [hu_self, hu_ne]; assumption)) ?_
    refine V_return d_re_add_41 rfl ?_
    refine ⟨rfl, ?_, fun z z1 z2 z3 => ?_⟩
    · (rw [bAdd_yes (by omega) (nI_miss (by omega)) c7]; exact ⟨hu_self _ _ _, by rw [hu_ne _ _ (Ne.symm nap), hu_self], by rw [hu_ne _ _ (Ne.symm naq), hu_ne _ _ (Ne.symm npq), hu_self], npq⟩)
    · (rw [hu_ne _ _ z1, hu_ne _ _ z2, hu_ne _ _ z3])
  · skip
    refine V_return d_re_add_10 rfl ?_
    refine ⟨rfl, ?_, fun z _ _ _ => rfl⟩
    rw [bAdd_no (Or.inr (by rw [cl t (by omega)]; exact c7))]
    exact ⟨ha, hp, hq, npq⟩
noncomputable def bAll (b : Bf) (F : Nat → Int32) : Nat → Bf
  | 0 => b
  | n + 1 => bAdd (bAll b F n) (F n)
/-- each that comes is an object below N -/
def InN (N : Nat) (n : Nat) (F : Nat → Int32) : Prop := ∀ i, i < n → F i = MISS ∨ ∃ t, t < N ∧ F i = nI t
theorem bAll_ok {N : Nat} (hN : N < 1000) {b : Bf} (hb : bOK N b) {F : Nat → Int32} : ∀ n, InN N n F → bOK N (bAll b F n)
  | 0, _ => hb
  | n + 1, h => (bAll_ok hN hb n (fun i hi => h i (by omega))).add hN (h n (by omega))
/-- there is room for one that has not come -/
theorem bOK.room {N : Nat} (hN : N < 1000) {b : Bf} (h : bOK N b) {t : Nat} (ht : t < N) (hm : b.2.2 t = -1) : b.1 < N := by
  have h1 := (h.add hN (v := nI t) (Or.inr ⟨t, ht, rfl⟩)).le hN
  rw [bAdd_yes (by omega) (nI_miss (by omega)) hm] at h1
  exact h1
theorem Fr3.rf (h : Hp) (a p q : Nat) : Fr3 h a p q h := fun _ _ _ _ => rfl
theorem Fr3.tr {h h1 h2 : Hp} {a p q : Nat} (f : Fr3 h a p q h1) (g : Fr3 h1 a p q h2) : Fr3 h a p q h2 := fun z z1 z2 z3 => (g z z1 z2 z3).trans (f z z1 z2 z3)
theorem lp_addAll (G : Gk) {h0 : Hp} {a p q r N n : Nat} {b : Bf} {F : Nat → Int32} (hr : h0 r = some (20, arrL n F)) (nra : r ≠ a) (nrp : r ≠ p) (nrq : r ≠ q) (hN : N ≤ 60) (n100 : n < 1000) (hb : bOK N b) (hF : InN N n F) : ∀ (c i : Nat) (h : Hp) (l5 : Option Value), i + c = n → ReR h a p q (bAll b F i) → Fr3 h0 a p q h →
    V G re_addAll (pN fun h' => ReR h' a p q (bAll b F n) ∧ Fr3 h0 a p q h') h 0 0 8 [some (.ref a), some (.ref r), some (.ref r), some (.int (nI n)), some (.int (nI i)), l5] [] := by
  intro c
  induction c with
  | zero =>
    intro i h l5 hi hR hf
    obtain rfl : i = n := by omega
    refine V_iload d_re_addAll_8 rfl ?_
    refine V_iload_n d_re_addAll_10 rfl rfl ?_
    refine V_icmp_ge d_re_addAll_11 (fun c11 => ?_) (fun c11 => ?_)
    · skip
      refine V_return d_re_addAll_39 rfl ?_
      exact ⟨rfl, hR, hf⟩
    · skip
      exact absurd (ltN c11 (by omega)) (by omega)
  | succ c ih =>
    intro i h l5 hi hR hf
    have hr1 : h r = some (20, arrL n F) := by rw [hf r nra nrp nrq]; exact hr
    have hbi := bAll_ok (by omega) hb i (fun k hk => hF k (by omega))
    refine V_iload d_re_addAll_8 rfl ?_
    refine V_iload_n d_re_addAll_10 rfl rfl ?_
    refine V_icmp_ge d_re_addAll_11 (fun c11 => ?_) (fun c11 => ?_)
    · skip
      exact absurd (geN c11 (by omega)) (by omega)
    · skip
      refine V_aload_n d_re_addAll_14 rfl rfl ?_
      refine V_iload d_re_addAll_15 rfl ?_
      refine V_iald i d_re_addAll_17 (by first | assumption | exact hu_self _ _ _ | (simp (disch := first | assumption | (apply Ne.symm; assumption)) only [hu_self, hu_ne]; assumption)) rfl (by omega) (by first | assumption | exact arrL_get _ (by omega)) ?_
      refine V_istore d_re_addAll_18 (by decide) rfl rfl ?_
      dsimp only [List.set]
      refine V_iload d_re_addAll_20 rfl ?_
      refine V_ldc d_re_addAll_22 kc_re_26 ?_
      refine V_icmp_eq d_re_addAll_24 (fun c24 => ?_) (fun c24 => ?_)
      · skip
        refine V_iinc (v := _) d_re_addAll_33 rfl rfl (by decide) rfl rfl ?_
        dsimp only [List.set]
        refine V_goto d_re_addAll_36 ?_
        rw [show Int32.ofInt 1 = 1 from rfl, nI_1]
        refine ih (i + 1) h _ (by omega) ?_ hf
        rw [bAll, bAdd_no (Or.inl c24)]
        exact hR
      · skip
        obtain ⟨t, ht, et⟩ := (hF i (by omega)).resolve_left c24
        refine V_aload_n d_re_addAll_27 rfl rfl ?_
        refine V_iload d_re_addAll_28 rfl ?_
        rw [et]
        refine V_callV (N := re_add) d_re_addAll_30 ml_re_22 mdf_re_add wi_re_add wz_re_add (sp_re_add G hR (by omega) (fun z => by have := hbi.room (by omega) ht z; omega)) hR.1 ⟨_, rfl, rfl⟩ rfl rfl (by decide) (by decide) (Nat.le_of_ble_eq_true rfl) rfl rfl (kN fun h30 ⟨p30, f30⟩ => ?_)
        refine V_iinc (v := _) d_re_addAll_33 rfl rfl (by decide) rfl rfl ?_
        dsimp only [List.set]
        refine V_goto d_re_addAll_36 ?_
        rw [show Int32.ofInt 1 = 1 from rfl, nI_1]
        refine ih (i + 1) _ _ (by omega) ?_ (hf.tr f30)
        rw [bAll, et]
        exact p30
theorem sp_re_addAll (G : Gk) {h : Hp} {a p q r N n : Nat} {b : Bf} {F : Nat → Int32} (hR : ReR h a p q b) (hr : h r = some (20, arrL n F)) (nrp : r ≠ p) (nrq : r ≠ q) (hN : N ≤ 60) (n100 : n < 1000) (hb : bOK N b) (hF : InN N n F) : Ct G re_addAll [.ref a, .ref r] h (pN fun h' => ReR h' a p q (bAll b F n) ∧ Fr3 h a p q h') := by
  refine Ct.ofL (M := re_addAll) (lv := [some (.ref a), some (.ref r), none, none, none, none]) mdf_re_addAll rfl (Nat.le_of_ble_eq_true rfl) rfl ?_
  refine V_aload_n d_re_addAll_0 rfl rfl ?_
  refine V_astore_n d_re_addAll_1 rfl (by decide) rfl rfl ?_
  dsimp only [List.set]
  refine V_aload_n d_re_addAll_2 rfl rfl ?_
  refine V_alen d_re_addAll_3 (by first | assumption | exact hu_self _ _ _ | (simp (disch := first | assumption | (apply Ne.symm; assumption)) only [hu_self, hu_ne]; assumption)) (by decide) (by decide) ?_
  rw [arrL_len]
  refine V_istore_n d_re_addAll_4 rfl (by decide) rfl rfl ?_
  dsimp only [List.set]
  refine V_iconst (v := 0) d_re_addAll_5 (by decide) ?_
  refine V_istore d_re_addAll_6 (by decide) rfl rfl ?_
  dsimp only [List.set]
  exact lp_addAll G hr (kne hr hR.1 (by decide)) nrp nrq hN n100 hb hF n 0 h none (by omega) hR (Fr3.rf _ _ _ _)
theorem lp_rst (G : Gk) {h0 : Hp} {a p q t : Nat} {row : Nat → Int32} {n0 : Int32} (post : Option Value → Hp → Prop) (K : ∀ (h : Hp) (f : Nat → Int32), (∀ k, k < 60 → f k = -1) → h a = some (7, [.ref p, .ref q, .int n0]) → h q = some (20, arrL 60 f) → Fr3 h0 a p q h → h p = h0 p → V G re_start post h 0 0 21 [some (.ref a), some (.int (nI t)), some (.int (nI 60))] []) : ∀ (c i : Nat) (h : Hp) (f : Nat → Int32), i + c = 60 → (∀ k, k < i → f k = -1) → h a = some (7, [.ref p, .ref q, .int n0]) → h q = some (20, arrL 60 f) → q ≠ a → p ≠ q → Fr3 h0 a p q h → h p = h0 p →
    V G re_start post h 0 0 2 [some (.ref a), some (.int (nI t)), some (.int (nI i))] [] := by
  intro c
  induction c with
  | zero =>
    intro i h f hi hf ha hq nqa npq hF hp
    obtain rfl : i = 60 := by omega
    refine V_iload_n d_re_start_2 rfl rfl ?_
    refine V_bipush (v := 60) d_re_start_3 (by decide) ?_
    refine V_icmp_ge d_re_start_5 (fun c5 => ?_) (fun c5 => ?_)
    · skip
      exact K h f hf ha hq hF hp
    · skip
      exact absurd (by decide) c5
  | succ c ih =>
    intro i h f hi hf ha hq nqa npq hF hp
    refine V_iload_n d_re_start_2 rfl rfl ?_
    refine V_bipush (v := 60) d_re_start_3 (by decide) ?_
    refine V_icmp_ge d_re_start_5 (fun c5 => ?_) (fun c5 => ?_)
    · skip
      exact absurd (geN (b := 60) c5 (by omega)) (by omega)
    · skip
      refine V_aload_n d_re_start_8 rfl rfl ?_
      refine V_getf d_re_start_9 fl_re_15 (by first | assumption | exact hu_self _ _ _ | (simp (disch := first | assumption | (apply Ne.symm; assumption)) only [hu_self, hu_ne]; assumption)) rfl ?_
      refine V_iload_n d_re_start_12 rfl rfl ?_
      refine V_iconst (v := -1) d_re_start_13 (by decide) ?_
      refine V_iast i d_re_start_14 (by first | assumption | exact hu_self _ _ _ | (simp (disch := first | assumption | (apply Ne.symm; assumption)) only [hu_self, hu_ne]; assumption)) rfl (by omega) (by first | assumption | (rw [arrL_len]; omega)) ?_
      rw [arrL_set _ _ (by omega)]
      refine V_iinc (v := _) d_re_start_15 rfl rfl (by decide) rfl rfl ?_
      dsimp only [List.set]
      refine V_goto d_re_start_18 ?_
      rw [show Int32.ofInt 1 = 1 from rfl, nI_1]
      refine ih (i + 1) _ (upd f i (-1)) (by omega) (fun k hk => ?_) (by rw [hu_ne _ _ (Ne.symm nqa)]; exact ha) (hu_self _ _ _) nqa npq (fun z z1 z2 z3 => by rw [hu_ne _ _ z3]; exact hF z z1 z2 z3) (by rw [hu_ne _ _ npq]; exact hp)
      by_cases e : k = i
      · (subst e; exact pk_us)
      · (rw [pk_un e]; exact hf k (by omega))
theorem tl_rst (G : Gk) {h0 h1 : Hp} {a p q t : Nat} {row f : Nat → Int32} {n0 : Int32} (npq : p ≠ q) (ht : t < 60) (hf : ∀ k, k < 60 → f k = -1) (a1 : h1 a = some (7, [.ref p, .ref q, .int n0])) (q1 : h1 q = some (20, arrL 60 f)) (F1 : Fr3 h0 a p q h1) (hp1 : h1 p = some (20, arrL 60 row)) : V G re_start (pN fun h' => ∃ b0 : Bf, b0.1 = 0 ∧ (∀ k, k < 60 → b0.2.2 k = -1) ∧ ReR h' a p q (bAdd b0 (nI t)) ∧ Fr3 h0 a p q h') h1 0 0 21 [some (.ref a), some (.int (nI t)), some (.int (nI 60))] [] := by
  have nap : p ≠ a := kne hp1 a1 (by decide)
  have naq : q ≠ a := kne q1 a1 (by decide)
  refine V_aload_n d_re_start_21 rfl rfl ?_
  refine V_iconst (v := 0) d_re_start_22 (by decide) ?_
  refine V_putf d_re_start_23 fp_re_18 rfl rfl (by first | assumption | exact hu_self _ _ _ | (simp (disch := first | assumption | (apply Ne.symm; assumption)) only [hu_self, hu_ne]; assumption)) ?_
  refine V_aload_n d_re_start_26 rfl rfl ?_
  refine V_iload_n d_re_start_27 rfl rfl ?_
  refine V_callV (N := re_add) d_re_start_28 ml_re_22 mdf_re_add wi_re_add wz_re_add (sp_re_add G (b := (0, row, f)) ⟨hu_self _ _ _, by rw [hu_ne _ _ nap]; exact hp1, by rw [hu_ne _ _ naq]; exact q1, npq⟩ ht (fun _ => Nat.zero_lt_succ 59)) (by first | assumption | exact hu_self _ _ _ | (simp (disch := first | assumption | (apply Ne.symm; assumption)) only [hu_self, hu_ne]; assumption)) ⟨_, rfl, rfl⟩ rfl rfl (by decide) (by decide) (Nat.le_of_ble_eq_true rfl) rfl rfl (kN fun h28 ⟨p28, f28⟩ => ?_)
  refine V_return d_re_start_31 rfl ?_
  exact ⟨rfl, (0, row, f), rfl, hf, p28, fun z z1 z2 z3 => by rw [f28 z z1 z2 z3, hu_ne _ _ z1]; exact F1 z z1 z2 z3⟩
theorem sp_re_start (G : Gk) {h : Hp} {a p q t : Nat} {b : Bf} (hR : ReR h a p q b) (ht : t < 60) : Ct G re_start [.ref a, .int (nI t)] h (pN fun h' => ∃ b0 : Bf, b0.1 = 0 ∧ (∀ k, k < 60 → b0.2.2 k = -1) ∧ ReR h' a p q (bAdd b0 (nI t)) ∧ Fr3 h a p q h') := by
  obtain ⟨ha, hp, hq, npq⟩ := hR
  refine Ct.ofL (M := re_start) (lv := [some (.ref a), some (.int (nI t)), none]) mdf_re_start rfl (Nat.le_of_ble_eq_true rfl) rfl ?_
  refine V_iconst (v := 0) d_re_start_0 (by decide) ?_
  refine V_istore_n d_re_start_1 rfl (by decide) rfl rfl ?_
  dsimp only [List.set]
  exact lp_rst G (row := b.2.1) _ (fun h1 f hf a1 q1 F1 p1 => tl_rst G npq ht hf a1 q1 F1 (p1.trans hp)) 60 0 h b.2.2 (by omega) (fun k hk => by omega) ha hq (kne hq ha (by decide)) npq (Fr3.rf _ _ _ _) rfl
/-- pairs at a with arrays p, q, u: how many, left, right, families -/
abbrev Pj : Type := Nat × (Nat → Int32) × (Nat → Int32) × (Nat → Int32)
def PaR (h : Hp) (a p q u : Nat) (P : Pj) : Prop := h a = some (5, [.ref p, .ref q, .ref u, .int (nI P.1)]) ∧ h p = some (20, arrL 60 P.2.1) ∧ h q = some (20, arrL 60 P.2.2.1) ∧ h u = some (20, arrL 60 P.2.2.2) ∧ p ≠ q ∧ p ≠ u ∧ q ≠ u
def Fr4 (h : Hp) (a p q u : Nat) (h' : Hp) : Prop := ∀ z, z ≠ a → z ≠ p → z ≠ q → z ≠ u → h' z = h z
theorem lp_pst (G : Gk) {h0 : Hp} {a p q u : Nat} {P : Pj} (npu : p ≠ u) (nqu : q ≠ u) (npq : p ≠ q) (nua : u ≠ a) (nap : p ≠ a) (naq : q ≠ a) (hp : h0 p = some (20, arrL 60 P.2.1)) (hq : h0 q = some (20, arrL 60 P.2.2.1)) : ∀ (c i : Nat) (h : Hp) (f : Nat → Int32), i + c = 60 → (∀ k, k < i → f k = nI k) → h a = some (5, [.ref p, .ref q, .ref u, .int (nI P.1)]) → h u = some (20, arrL 60 f) → (∀ z, z ≠ u → h z = h0 z) →
    V G pa_start (pN fun h' => ∃ l r f, (∀ k, k < 60 → f k = nI k) ∧ PaR h' a p q u (0, l, r, f) ∧ Fr4 h0 a p q u h') h 0 0 2 [some (.ref a), some (.int (nI i))] [] := by
  intro c
  induction c with
  | zero =>
    intro i h f hi hf ha hu' hF
    obtain rfl : i = 60 := by omega
    refine V_iload_n d_pa_start_2 rfl rfl ?_
    refine V_bipush (v := 60) d_pa_start_3 (by decide) ?_
    refine V_icmp_ge d_pa_start_5 (fun c5 => ?_) (fun c5 => ?_)
    · skip
      refine V_aload_n d_pa_start_21 rfl rfl ?_
      refine V_iconst (v := 0) d_pa_start_22 (by decide) ?_
      refine V_putf d_pa_start_23 fp_pa_21 rfl rfl (by first | assumption | exact hu_self _ _ _ | (simp (disch := first | assumption | (apply Ne.symm; assumption)) only [hu_self, hu_ne]; assumption)) ?_
      refine V_return d_pa_start_26 rfl ?_
      exact ⟨rfl, P.2.1, P.2.2.1, f, hf, ⟨hu_self _ _ _, by rw [hu_ne _ _ nap, hF p npu]; exact hp, by rw [hu_ne _ _ naq, hF q nqu]; exact hq, by rw [hu_ne _ _ nua]; exact hu', npq, npu, nqu⟩, fun z z1 z2 z3 z4 => by rw [hu_ne _ _ z1, hF z z4]⟩
    · skip
      exact absurd (by decide) c5
  | succ c ih =>
    intro i h f hi hf ha hu' hF
    refine V_iload_n d_pa_start_2 rfl rfl ?_
    refine V_bipush (v := 60) d_pa_start_3 (by decide) ?_
    refine V_icmp_ge d_pa_start_5 (fun c5 => ?_) (fun c5 => ?_)
    · skip
      exact absurd (geN (b := 60) c5 (by omega)) (by omega)
    · skip
      refine V_aload_n d_pa_start_8 rfl rfl ?_
      refine V_getf d_pa_start_9 fl_pa_18 (by first | assumption | exact hu_self _ _ _ | (simp (disch := first | assumption | (apply Ne.symm; assumption)) only [hu_self, hu_ne]; assumption)) rfl ?_
      refine V_iload_n d_pa_start_12 rfl rfl ?_
      refine V_iload_n d_pa_start_13 rfl rfl ?_
      refine V_iast i d_pa_start_14 (by first | assumption | exact hu_self _ _ _ | (simp (disch := first | assumption | (apply Ne.symm; assumption)) only [hu_self, hu_ne]; assumption)) rfl (by omega) (by first | assumption | (rw [arrL_len]; omega)) ?_
      rw [arrL_set _ _ (by omega)]
      refine V_iinc (v := _) d_pa_start_15 rfl rfl (by decide) rfl rfl ?_
      dsimp only [List.set]
      refine V_goto d_pa_start_18 ?_
      rw [show Int32.ofInt 1 = 1 from rfl, nI_1]
      refine ih (i + 1) _ (upd f i (nI i)) (by omega) (fun k hk => ?_) (by rw [hu_ne _ _ (Ne.symm nua)]; exact ha) (hu_self _ _ _) (fun z z1 => by rw [hu_ne _ _ z1]; exact hF z z1)
      by_cases e : k = i
      · (subst e; exact pk_us)
      · (rw [pk_un e]; exact hf k (by omega))
theorem sp_pa_start (G : Gk) {h : Hp} {a p q u : Nat} {P : Pj} (hP : PaR h a p q u P) : Ct G pa_start [.ref a] h (pN fun h' => ∃ l r f, (∀ k, k < 60 → f k = nI k) ∧ PaR h' a p q u (0, l, r, f) ∧ Fr4 h a p q u h') := by
  obtain ⟨ha, hp, hq, hu', npq, npu, nqu⟩ := hP
  refine Ct.ofL (M := pa_start) (lv := [some (.ref a), none]) mdf_pa_start rfl (Nat.le_of_ble_eq_true rfl) rfl ?_
  refine V_iconst (v := 0) d_pa_start_0 (by decide) ?_
  refine V_istore_n d_pa_start_1 rfl (by decide) rfl rfl ?_
  dsimp only [List.set]
  exact lp_pst G npu nqu npq (kne hu' ha (by decide)) (kne hp ha (by decide)) (kne hq ha (by decide)) hp hq 60 0 h P.2.2.2 (by omega) (fun k hk => by omega) ha hu' (fun z _ => rfl)
noncomputable def pJn (P : Pj) (x y : Nat) : Pj := @ite _ (P.2.2.2 x = P.2.2.2 y) (Classical.propDecidable _) P (P.1 + 1, upd P.2.1 P.1 (nI x), upd P.2.2.1 P.1 (nI y), fun k => @ite _ (k < 60 ∧ P.2.2.2 k = P.2.2.2 y) (Classical.propDecidable _) (P.2.2.2 x) (P.2.2.2 k))
theorem lp_join (G : Gk) {h0 : Hp} {a p q u x y : Nat} {P : Pj} (npu : p ≠ u) (nqu : q ≠ u) (npq : p ≠ q) (nua : u ≠ a) (nap : p ≠ a) (naq : q ≠ a) (hp : h0 p = some (20, arrL 60 P.2.1)) (hq : h0 q = some (20, arrL 60 P.2.2.1)) (hne : ¬ P.2.2.2 x = P.2.2.2 y) (hn : P.1 < 60) : ∀ (c i : Nat) (h : Hp) (f : Nat → Int32), i + c = 60 → (∀ k, f k = @ite _ (k < i ∧ P.2.2.2 k = P.2.2.2 y) (Classical.propDecidable _) (P.2.2.2 x) (P.2.2.2 k)) → h a = some (5, [.ref p, .ref q, .ref u, .int (nI P.1)]) → h u = some (20, arrL 60 f) → (∀ z, z ≠ u → h z = h0 z) →
    V G pa_join (pN fun h' => PaR h' a p q u (pJn P x y) ∧ Fr4 h0 a p q u h') h 0 0 25 [some (.ref a), some (.int (nI x)), some (.int (nI y)), some (.int (P.2.2.2 x)), some (.int (P.2.2.2 y)), some (.int (nI i))] [] := by
  intro c
  induction c with
  | zero =>
    intro i h f hi hf ha hu' hF
    obtain rfl : i = 60 := by omega
    have hp1 : h p = some (20, arrL 60 P.2.1) := by rw [hF p npu]; exact hp
    have hq1 : h q = some (20, arrL 60 P.2.2.1) := by rw [hF q nqu]; exact hq
    obtain rfl : f = fun k => @ite _ (k < 60 ∧ P.2.2.2 k = P.2.2.2 y) (Classical.propDecidable _) (P.2.2.2 x) (P.2.2.2 k) := funext hf
    refine V_iload d_pa_join_25 rfl ?_
    refine V_bipush (v := 60) d_pa_join_27 (by decide) ?_
    refine V_icmp_ge d_pa_join_29 (fun c29 => ?_) (fun c29 => ?_)
    · skip
      refine V_aload_n d_pa_join_58 rfl rfl ?_
      refine V_getf d_pa_join_59 fl_pa_9 (by first | assumption | exact hu_self _ _ _ | (simp (disch := first | assumption | (apply Ne.symm; assumption)) only [hu_self, hu_ne]; assumption)) rfl ?_
      refine V_aload_n d_pa_join_62 rfl rfl ?_
      refine V_getf d_pa_join_63 fl_pa_21 (by first | assumption | exact hu_self _ _ _ | (simp (disch := first | assumption | (apply Ne.symm; assumption)) only [hu_self, hu_ne]; assumption)) rfl ?_
      refine V_iload_n d_pa_join_66 rfl rfl ?_
      refine V_iast P.1 d_pa_join_67 (by first | assumption | exact hu_self _ _ _ | (simp (disch := first | assumption | (apply Ne.symm; assumption)) only [hu_self, hu_ne]; assumption)) rfl (by omega) (by first | assumption | (rw [arrL_len]; omega)) ?_
      rw [arrL_set _ _ hn]
      refine V_aload_n d_pa_join_68 rfl rfl ?_
      refine V_getf d_pa_join_69 fl_pa_15 (by first | assumption | exact hu_self _ _ _ | (simp (disch := first | assumption | (apply Ne.symm; assumption)) only [hu_self, hu_ne]; assumption)) rfl ?_
      refine V_aload_n d_pa_join_72 rfl rfl ?_
      refine V_getf d_pa_join_73 fl_pa_21 (by first | assumption | exact hu_self _ _ _ | (simp (disch := first | assumption | (apply Ne.symm; assumption)) only [hu_self, hu_ne]; assumption)) rfl ?_
      refine V_iload_n d_pa_join_76 rfl rfl ?_
      refine V_iast P.1 d_pa_join_77 (by first | assumption | exact hu_self _ _ _ | (simp (disch := first | assumption | (apply Ne.symm; assumption)) only [hu_self, hu_ne]; assumption)) rfl (by omega) (by first | assumption | (rw [arrL_len]; omega)) ?_
      rw [arrL_set _ _ hn]
      refine V_aload_n d_pa_join_78 rfl rfl ?_
      refine V_dup d_pa_join_79 rfl ?_
      refine V_getf d_pa_join_80 fl_pa_21 (by first | assumption | exact hu_self _ _ _ | (simp (disch := first | assumption | (apply Ne.symm; assumption)) only [hu_self, hu_ne]; assumption)) rfl ?_
      refine V_iconst (v := 1) d_pa_join_83 (by decide) ?_
      refine V_iadd d_pa_join_84 ?_
      rw [nI_1]
      refine V_putf d_pa_join_85 fp_pa_21 rfl rfl (by first | assumption | exact hu_self _ _ _ | (simp (disch := first | assumption | (apply Ne.symm; assumption)) only [hu_self, hu_ne]; assumption)) ?_
      refine V_return d_pa_join_88 rfl ?_
      refine ⟨rfl, ?_, fun z z1 z2 z3 z4 => by rw [hu_ne _ _ z1, hu_ne _ _ z3, hu_ne _ _ z2, hF z z4]⟩
      unfold pJn
      rw [if_neg hne]
      exact ⟨hu_self _ _ _, by rw [hu_ne _ _ nap, hu_ne _ _ npq, hu_self], by rw [hu_ne _ _ naq, hu_self], by rw [hu_ne _ _ nua, hu_ne _ _ (Ne.symm nqu), hu_ne _ _ (Ne.symm npu)]; exact hu', npq, npu, nqu⟩
    · skip
      exact absurd (by decide) c29
  | succ c ih =>
    intro i h f hi hf ha hu' hF
    have hfi : f i = P.2.2.2 i := by rw [hf i, if_neg (fun z => by omega)]
    refine V_iload d_pa_join_25 rfl ?_
    refine V_bipush (v := 60) d_pa_join_27 (by decide) ?_
    refine V_icmp_ge d_pa_join_29 (fun c29 => ?_) (fun c29 => ?_)
    · skip
      exact absurd (geN (b := 60) c29 (by omega)) (by omega)
    · skip
      refine V_aload_n d_pa_join_32 rfl rfl ?_
      refine V_getf d_pa_join_33 fl_pa_18 (by first | assumption | exact hu_self _ _ _ | (simp (disch := first | assumption | (apply Ne.symm; assumption)) only [hu_self, hu_ne]; assumption)) rfl ?_
      refine V_iload d_pa_join_36 rfl ?_
      refine V_iald i d_pa_join_38 (by first | assumption | exact hu_self _ _ _ | (simp (disch := first | assumption | (apply Ne.symm; assumption)) only [hu_self, hu_ne]; assumption)) rfl (by omega) (by first | assumption | exact arrL_get _ (by omega)) ?_
      rw [hfi]
      refine V_iload d_pa_join_39 rfl ?_
      refine V_icmp_ne d_pa_join_41 (fun c41 => ?_) (fun c41 => ?_)
      · skip
        refine V_iinc (v := _) d_pa_join_52 rfl rfl (by decide) rfl rfl ?_
        dsimp only [List.set]
        refine V_goto d_pa_join_55 ?_
        rw [show Int32.ofInt 1 = 1 from rfl, nI_1]
        refine ih (i + 1) h f (by omega) (fun k => ?_) ha hu' hF
        rw [hf k]
        by_cases e : k = i
        · (subst e; rw [if_neg (fun z => by omega), if_neg (fun z => c41 z.2)])
        · (by_cases z : k < i ∧ P.2.2.2 k = P.2.2.2 y; (rw [if_pos z, if_pos ⟨by omega, z.2⟩]); (rw [if_neg z, if_neg (fun w => z ⟨by omega, w.2⟩)]))
      · skip
        refine V_aload_n d_pa_join_44 rfl rfl ?_
        refine V_getf d_pa_join_45 fl_pa_18 (by first | assumption | exact hu_self _ _ _ | (simp (disch := first | assumption | (apply Ne.symm; assumption)) only [hu_self, hu_ne]; assumption)) rfl ?_
        refine V_iload d_pa_join_48 rfl ?_
        refine V_iload_n d_pa_join_50 rfl rfl ?_
        refine V_iast i d_pa_join_51 (by first | assumption | exact hu_self _ _ _ | (simp (disch := first | assumption | (apply Ne.symm; assumption)) only [hu_self, hu_ne]; assumption)) rfl (by omega) (by first | assumption | (rw [arrL_len]; omega)) ?_
        rw [arrL_set _ _ (by omega)]
        refine V_iinc (v := _) d_pa_join_52 rfl rfl (by decide) rfl rfl ?_
        dsimp only [List.set]
        refine V_goto d_pa_join_55 ?_
        rw [show Int32.ofInt 1 = 1 from rfl, nI_1]
        refine ih (i + 1) _ (upd f i (P.2.2.2 x)) (by omega) (fun k => ?_) (by rw [hu_ne _ _ (Ne.symm nua)]; exact ha) (hu_self _ _ _) (fun z z1 => by rw [hu_ne _ _ z1]; exact hF z z1)
        by_cases e : k = i
        · (subst e; rw [pk_us, if_pos ⟨by omega, c41⟩])
        · (rw [pk_un e, hf k]; by_cases z : k < i ∧ P.2.2.2 k = P.2.2.2 y; (rw [if_pos z, if_pos ⟨by omega, z.2⟩]); (rw [if_neg z, if_neg (fun w => z ⟨by omega, w.2⟩)]))
theorem sp_pa_join (G : Gk) {h : Hp} {a p q u x y : Nat} {P : Pj} (hP : PaR h a p q u P) (hx : x < 60) (hy : y < 60) (hn : ¬ P.2.2.2 x = P.2.2.2 y → P.1 < 60) : Ct G pa_join [.ref a, .int (nI x), .int (nI y)] h (pN fun h' => PaR h' a p q u (pJn P x y) ∧ Fr4 h a p q u h') := by
  obtain ⟨ha, hp, hq, hu', npq, npu, nqu⟩ := hP
  refine Ct.ofL (M := pa_join) (lv := [some (.ref a), some (.int (nI x)), some (.int (nI y)), none, none, none]) mdf_pa_join rfl (Nat.le_of_ble_eq_true rfl) rfl ?_
  refine V_aload_n d_pa_join_0 rfl rfl ?_
  refine V_getf d_pa_join_1 fl_pa_18 (by first | assumption | exact hu_self _ _ _ | (simp (disch := first | assumption | (apply Ne.symm; assumption)) only [hu_self, hu_ne]; assumption)) rfl ?_
  refine V_iload_n d_pa_join_4 rfl rfl ?_
  refine V_iald x d_pa_join_5 (by first | assumption | exact hu_self _ _ _ | (simp (disch := first | assumption | (apply Ne.symm; assumption)) only [hu_self, hu_ne]; assumption)) rfl (by omega) (by first | assumption | exact arrL_get _ (by omega)) ?_
  refine V_istore_n d_pa_join_6 rfl (by decide) rfl rfl ?_
  dsimp only [List.set]
  refine V_aload_n d_pa_join_7 rfl rfl ?_
  refine V_getf d_pa_join_8 fl_pa_18 (by first | assumption | exact hu_self _ _ _ | (simp (disch := first | assumption | (apply Ne.symm; assumption)) only [hu_self, hu_ne]; assumption)) rfl ?_
  refine V_iload_n d_pa_join_11 rfl rfl ?_
  refine V_iald y d_pa_join_12 (by first | assumption | exact hu_self _ _ _ | (simp (disch := first | assumption | (apply Ne.symm; assumption)) only [hu_self, hu_ne]; assumption)) rfl (by omega) (by first | assumption | exact arrL_get _ (by omega)) ?_
  refine V_istore d_pa_join_13 (by decide) rfl rfl ?_
  dsimp only [List.set]
  refine V_iload_n d_pa_join_15 rfl rfl ?_
  refine V_iload d_pa_join_16 rfl ?_
  refine V_icmp_ne d_pa_join_18 (fun c18 => ?_) (fun c18 => ?_)
  · skip
    refine V_iconst (v := 0) d_pa_join_22 (by decide) ?_
    refine V_istore d_pa_join_23 (by decide) rfl rfl ?_
    dsimp only [List.set]
    exact lp_join G npu nqu npq (kne hu' ha (by decide)) (kne hp ha (by decide)) (kne hq ha (by decide)) hp hq c18 (hn c18) 60 0 h P.2.2.2 (by omega) (fun k => by rw [if_neg (fun z => by omega)]) ha hu' (fun z _ => rfl)
  · skip
    refine V_return d_pa_join_21 rfl ?_
    refine ⟨rfl, ?_, fun z _ _ _ _ => rfl⟩
    unfold pJn
    rw [if_pos c18]
    exact ⟨ha, hp, hq, hu', npq, npu, nqu⟩
theorem sp_wa_write (G : Gk) {h : Hp} {a p q u n : Nat} {f g k : Nat → Int32} {v1 v2 v3 v4 : Int32} (ha : h a = some (11, [.int v1, .int v2, .int v3, .int v4, .ref p, .ref q, .ref u, .int (nI n)])) (hp : h p = some (20, arrL 40 f)) (hq : h q = some (20, arrL 40 g)) (hu' : h u = some (20, arrL 40 k)) (npq : p ≠ q) (npu : p ≠ u) (nqu : q ≠ u) (n40 : n ≤ 40) (x y z : Int32) : Ct G wa_write [.ref a, .int x, .int y, .int z] h
    (pN fun h' => (n = 40 ∧ h' = h) ∨ (n < 40 ∧ h' a = some (11, [.int v1, .int v2, .int v3, .int v4, .ref p, .ref q, .ref u, .int (nI (n + 1))]) ∧ h' p = some (20, arrL 40 (upd f n x)) ∧ h' q = some (20, arrL 40 (upd g n y)) ∧ h' u = some (20, arrL 40 (upd k n z)) ∧ Fr4 h a p q u h')) := by
  have nap : p ≠ a := kne hp ha (by decide)
  have naq : q ≠ a := kne hq ha (by decide)
  have nau : u ≠ a := kne hu' ha (by decide)
  refine Ct.ofL (M := wa_write) (lv := [some (.ref a), some (.int x), some (.int y), some (.int z)]) mdf_wa_write rfl (Nat.le_of_ble_eq_true rfl) rfl ?_
  refine V_aload_n d_wa_write_0 rfl rfl ?_
  refine V_getf d_wa_write_1 fl_wa_35 (by first | assumption | exact hu_self _ _ _ | (simp (disch := first | assumption | (apply Ne.symm; assumption)) only [hu_self, hu_ne]; assumption)) rfl ?_
  refine V_bipush (v := 40) d_wa_write_4 (by decide) ?_
  refine V_icmp_lt d_wa_write_6 (fun c6 => ?_) (fun c6 => ?_)
  · skip
    have hn : n < 40 := by rcases Nat.lt_or_ge n 40 with w | w; exact w; exact absurd c6 (by rw [show n = 40 by omega]; decide)
    refine V_aload_n d_wa_write_10 rfl rfl ?_
    refine V_getf d_wa_write_11 fl_wa_9 (by first | assumption | exact hu_self _ _ _ | (simp (disch := first | assumption | (apply Ne.symm; assumption)) only [hu_self, hu_ne]; assumption)) rfl ?_
    refine V_aload_n d_wa_write_14 rfl rfl ?_
    refine V_getf d_wa_write_15 fl_wa_35 (by first | assumption | exact hu_self _ _ _ | (simp (disch := first | assumption | (apply Ne.symm; assumption)) only [hu_self, hu_ne]; assumption)) rfl ?_
    refine V_iload_n d_wa_write_18 rfl rfl ?_
    refine V_iast n d_wa_write_19 (by first | assumption | exact hu_self _ _ _ | (simp (disch := first | assumption | (apply Ne.symm; assumption)) only [hu_self, hu_ne]; assumption)) rfl (by omega) (by first | assumption | (rw [arrL_len]; omega)) ?_
    rw [arrL_set _ _ hn]
    refine V_aload_n d_wa_write_20 rfl rfl ?_
    refine V_getf d_wa_write_21 fl_wa_15 (by first | assumption | exact hu_self _ _ _ | (simp (disch := first | assumption | (apply Ne.symm; assumption)) only [hu_self, hu_ne]; assumption)) rfl ?_
    refine V_aload_n d_wa_write_24 rfl rfl ?_
    refine V_getf d_wa_write_25 fl_wa_35 (by first | assumption | exact hu_self _ _ _ | (simp (disch := first | assumption | (apply Ne.symm; assumption)) only [hu_self, hu_ne]; assumption)) rfl ?_
    refine V_iload_n d_wa_write_28 rfl rfl ?_
    refine V_iast n d_wa_write_29 (by first | assumption | exact hu_self _ _ _ | (simp (disch := first | assumption | (apply Ne.symm; assumption)) only [hu_self, hu_ne]; assumption)) rfl (by omega) (by first | assumption | (rw [arrL_len]; omega)) ?_
    rw [arrL_set _ _ hn]
    refine V_aload_n d_wa_write_30 rfl rfl ?_
    refine V_getf d_wa_write_31 fl_wa_18 (by first | assumption | exact hu_self _ _ _ | (simp (disch := first | assumption | (apply Ne.symm; assumption)) only [hu_self, hu_ne]; assumption)) rfl ?_
    refine V_aload_n d_wa_write_34 rfl rfl ?_
    refine V_getf d_wa_write_35 fl_wa_35 (by first | assumption | exact hu_self _ _ _ | (simp (disch := first | assumption | (apply Ne.symm; assumption)) only [hu_self, hu_ne]; assumption)) rfl ?_
    refine V_iload_n d_wa_write_38 rfl rfl ?_
    refine V_iast n d_wa_write_39 (by first | assumption | exact hu_self _ _ _ | (simp (disch := first | assumption | (apply Ne.symm; assumption)) only [hu_self, hu_ne]; assumption)) rfl (by omega) (by first | assumption | (rw [arrL_len]; omega)) ?_
    rw [arrL_set _ _ hn]
    refine V_aload_n d_wa_write_40 rfl rfl ?_
    refine V_dup d_wa_write_41 rfl ?_
    refine V_getf d_wa_write_42 fl_wa_35 (by first | assumption | exact hu_self _ _ _ | (simp (disch := first | assumption | (apply Ne.symm; assumption)) only [hu_self, hu_ne]; assumption)) rfl ?_
    refine V_iconst (v := 1) d_wa_write_45 (by decide) ?_
    refine V_iadd d_wa_write_46 ?_
    rw [nI_1]
    refine V_putf d_wa_write_47 fp_wa_35 rfl rfl (by first | assumption | exact hu_self _ _ _ | (simp (disch := first | assumption | (apply Ne.symm; assumption)) only [hu_self, hu_ne]; assumption)) ?_
    refine V_return d_wa_write_50 rfl ?_
    refine ⟨rfl, Or.inr ⟨hn, hu_self _ _ _, ?_, ?_, ?_, fun z z1 z2 z3 z4 => ?_⟩⟩
    · (rw [hu_ne _ _ nap, hu_ne _ _ npu, hu_ne _ _ npq, hu_self])
    · (rw [hu_ne _ _ naq, hu_ne _ _ nqu, hu_self])
    · (rw [hu_ne _ _ nau, hu_self])
    · (rw [hu_ne _ _ z1, hu_ne _ _ z4, hu_ne _ _ z3, hu_ne _ _ z2])
  · skip
    refine V_return d_wa_write_9 rfl ?_
    exact ⟨rfl, Or.inl ⟨by rcases Nat.lt_or_ge n 40 with w | w; exact absurd (nI_lt w (by omega)) c6; omega, rfl⟩⟩
