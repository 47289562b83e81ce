/-! alike of the reference -/
abbrev Pr2 : Type := Nat × Nat
def POK (L : List Pr2) : Prop := (∀ (i j : Nat) (x : Pr2), L[i]? = some x → L[j]? = some x → i = j) ∧ ∀ x, x ∈ L → x.1 < 60 ∧ x.2 < 60
noncomputable def aJ (L : List Pr2) (p : Pr2) : List Pr2 := @ite _ (p.1 = p.2 ∨ p ∈ L) (Classical.propDecidable _) L (L ++ [p])
theorem snoc_get {α : Type} {L : List α} {p x : α} {k : Nat} (h : (L ++ [p])[k]? = some x) : (k < L.length ∧ L[k]? = some x) ∨ (k = L.length ∧ x = p) := by
  rcases Nat.lt_or_ge k L.length with z | z
  · rw [List.getElem?_append_left z] at h
    exact Or.inl ⟨z, h⟩
  · have hl := (List.getElem?_eq_some_iff.mp h).1
    rw [List.length_append, List.length_singleton] at hl
    obtain rfl : k = L.length := by omega
    rw [List.getElem?_append_right z, Nat.sub_self] at h
    exact Or.inr ⟨rfl, by simpa using h.symm⟩
theorem POK.add {L : List Pr2} (h : POK L) {p : Pr2} (hp : p.1 < 60 ∧ p.2 < 60) : POK (aJ L p) := by
  unfold aJ
  split
  · exact h
  · next q =>
    refine ⟨fun i j x hi hj => ?_, fun x hx => ?_⟩
    · rcases snoc_get hi with ⟨z1, z2⟩ | ⟨z1, z2⟩ <;> rcases snoc_get hj with ⟨y1, y2⟩ | ⟨y1, y2⟩
      · exact h.1 i j x z2 y2
      · subst y2; exact absurd (Or.inr (List.mem_of_getElem? z2)) q
      · subst z2; exact absurd (Or.inr (List.mem_of_getElem? y2)) q
      · omega
    · rcases List.mem_append.mp hx with z | z
      · exact h.2 x z
      · obtain rfl := List.mem_singleton.mp z
        exact hp
theorem POK.le {L : List Pr2} (h : POK L) : L.length ≤ 3600 := by
  refine php 3600 L.length (fun i => 60 * (L[i]?.getD (0, 0)).1 + (L[i]?.getD (0, 0)).2) (fun i hi => ?_) (fun i j hi hj e => ?_)
  · have := h.2 L[i] (List.getElem_mem hi)
    simp only [List.getElem?_eq_getElem hi, Option.getD_some]
    omega
  · have a1 := h.2 L[i] (List.getElem_mem hi)
    have a2 := h.2 L[j] (List.getElem_mem hj)
    simp only [List.getElem?_eq_getElem hi, List.getElem?_eq_getElem hj, Option.getD_some] at e
    have : L[i] = L[j] := Prod.ext (by omega) (by omega)
    exact h.1 i j L[i] (List.getElem?_eq_getElem hi) (by rw [this]; exact List.getElem?_eq_getElem hj)
def PR (L : List Pr2) (t : Mem) : Prop := POK L ∧ t.1 45 = nI L.length ∧ (∀ (k : Nat) (x : Pr2), L[k]? = some x → t.2 43 k = nI (60 * x.1 + x.2)) ∧ ∀ a b, a < 60 → b < 60 → t.2 44 (60 * a + b) = b01 ((a, b) ∈ L)
def KpA (t u : Mem) : Prop := (∀ q, q ≠ 45 → u.1 q = t.1 q) ∧ ∀ q, q ≠ 43 → q ≠ 44 → u.2 q = t.2 q
theorem PR.put {L : List Pr2} {t : Mem} (h : PR L t) {a b : Nat} (ha : a < 60) (hb : b < 60) (hn : ¬ (a = b ∨ (a, b) ∈ L)) : PR (aJ L (a, b)) (mF (mA (mA t 44 (60 * a + b) 1) 43 L.length (nI (60 * a + b))) 45 (nI (L.length + 1))) := by
  obtain ⟨hok, h45, h43, h44⟩ := h
  have eJ : aJ L (a, b) = L ++ [(a, b)] := if_neg hn
  refine ⟨hok.add ⟨ha, hb⟩, ?_, fun k x hk => ?_, fun a' b' ha' hb' => ?_⟩
  · rw [eJ, mF_1s, List.length_append]; rfl
  · rw [eJ] at hk
    rw [mF_2, mA_2s, mA_2n _ _ _ (by decide)]
    rcases snoc_get hk with ⟨z1, z2⟩ | ⟨z1, z2⟩
    · rw [pk_un (by omega)]; exact h43 k x z2
    · subst z1 z2; rw [pk_us]
  · rw [mF_2, mA_2n _ _ _ (by decide), mA_2s, eJ]
    by_cases e : (a', b') = (a, b)
    · cases e
      rw [pk_us, b01_t (List.mem_append_right _ (List.mem_singleton.mpr rfl))]
    · have e2 : 60 * a' + b' ≠ 60 * a + b := fun z => e (Prod.ext (by show a' = a; omega) (by show b' = b; omega))
      rw [pk_un e2, h44 a' b' ha' hb']
      refine b01_i ⟨fun z => List.mem_append_left _ z, fun z => (List.mem_append.mp z).elim id (fun y => absurd (List.mem_singleton.mp y) e)⟩
theorem KpA.rf (t : Mem) : KpA t t := ⟨fun _ _ => rfl, fun _ _ _ => rfl⟩
theorem KpA.sc {t u : Mem} (a : KpA t u) : Sc t u := ⟨fun q h => a.1 q (by rintro rfl; exact absurd h (by decide)), fun q h => a.2 q (by rintro rfl; exact absurd h (by decide)) (by rintro rfl; exact absurd h (by decide))⟩
theorem ix60 (a b : Nat) : (60 : Int32) * nI a + nI b = nI (60 * a + b) := by
  rw [show (60 : Int32) = nI 60 from rfl, pk_mul, nI_add]
theorem sp_md_alsoAlike (G : Gk) {h : Hp} {m : Nat} {am : Nat → Nat} {t : Mem} {L : List Pr2} (r : RepM h m am t) (hL : PR L t) (a b : Nat) (ha : a < 60) (hb : b < 60) : Ct G md_alsoAlike [.ref m, .int (nI a), .int (nI b)] h (pN fun h' => ∃ u, Mod h m am h' u ∧ PR (aJ L (a, b)) u ∧ KpA t u) := by
  obtain ⟨hok, h45, h43, h44⟩ := id hL
  refine Ct.ofL (M := md_alsoAlike) (lv := [some (.ref m), some (.int (nI a)), some (.int (nI b)), none]) mdf_md_alsoAlike rfl (Nat.le_of_ble_eq_true rfl) rfl ?_
  refine V_bipush (v := 60) d_md_alsoAlike_0 (by decide) ?_
  refine V_iload_n d_md_alsoAlike_2 rfl rfl ?_
  refine V_imul d_md_alsoAlike_3 ?_
  refine V_iload_n d_md_alsoAlike_4 rfl rfl ?_
  refine V_iadd d_md_alsoAlike_5 ?_
  rw [ix60]
  refine V_istore_n d_md_alsoAlike_6 rfl (by decide) rfl rfl ?_
  dsimp only [List.set]
  refine V_iload_n d_md_alsoAlike_7 rfl rfl ?_
  refine V_iload_n d_md_alsoAlike_8 rfl rfl ?_
  refine V_icmp_eq d_md_alsoAlike_9 (fun c9 => ?_) (fun c9 => ?_)
  · skip
    refine V_return d_md_alsoAlike_48 rfl ?_
    refine ⟨rfl, t, Mod.rf r, ?_, KpA.rf t⟩
    rw [aJ, if_pos (Or.inl (nI_inj8 (by omega) (by omega) c9))]
    exact hL
  · skip
    refine V_aload_n d_md_alsoAlike_12 rfl rfl ?_
    refine V_getf d_md_alsoAlike_13 fl_md_107 r.obj rfl ?_
    refine V_iload_n d_md_alsoAlike_16 rfl rfl ?_
    refine V_mbld r d_md_alsoAlike_17 (by first | with_reducible rfl | exact ix8 _ _ | exact ix6 _ _ | assumption) rfl rfl (by show _ < 3600; omega) ?_
    rw [h44 a b ha hb]
    refine V_if_ne d_md_alsoAlike_18 (fun c18 => ?_) (fun c18 => ?_)
    · skip
      refine V_return d_md_alsoAlike_48 rfl ?_
      refine ⟨rfl, t, Mod.rf r, ?_, KpA.rf t⟩
      rw [aJ, if_pos (Or.inr (b01_ne c18))]
      exact hL
    · skip
      have hn : ¬ ((a, b).1 = (a, b).2 ∨ (a, b) ∈ L) := fun q => q.elim (fun (z : a = b) => c9 (by rw [z])) (b01_e c18)
      have eJ : aJ L (a, b) = L ++ [(a, b)] := if_neg hn
      have hok2 := hok.add (p := (a, b)) ⟨ha, hb⟩
      have hle := hok2.le
      rw [eJ, List.length_append, List.length_singleton] at hle
      refine V_aload_n d_md_alsoAlike_21 rfl rfl ?_
      refine V_getf d_md_alsoAlike_22 fl_md_107 r.obj rfl ?_
      refine V_iload_n d_md_alsoAlike_25 rfl rfl ?_
      refine V_iconst (v := 1) d_md_alsoAlike_26 (by decide) ?_
      refine V_mbst r d_md_alsoAlike_27 (by first | with_reducible rfl | exact ix8 _ _ | exact ix6 _ _ | assumption) rfl rfl (by show _ < 3600; omega) rfl (fun h27 M27 => ?_)
      have R27 := M27.1
      refine V_aload_n d_md_alsoAlike_28 rfl rfl ?_
      refine V_getf d_md_alsoAlike_29 fl_md_104 R27.obj rfl ?_
      refine V_aload_n d_md_alsoAlike_32 rfl rfl ?_
      refine V_getf d_md_alsoAlike_33 fl_md_289 R27.obj rfl ?_
      rw [mA_1, h45]
      refine V_iload_n d_md_alsoAlike_36 rfl rfl ?_
      refine V_mast R27 d_md_alsoAlike_37 (by first | with_reducible rfl | exact ix8 _ _ | exact ix6 _ _ | assumption) rfl rfl (by show _ < 3600; omega) (fun h37 M37 => ?_)
      have R37 := M37.1
      refine V_aload_n d_md_alsoAlike_38 rfl rfl ?_
      refine V_dup d_md_alsoAlike_39 rfl ?_
      refine V_getf d_md_alsoAlike_40 fl_md_289 R37.obj rfl ?_
      rw [mA_1, mA_1, h45]
      refine V_iconst (v := 1) d_md_alsoAlike_43 (by decide) ?_
      refine V_iadd d_md_alsoAlike_44 ?_
      rw [nI_1]
      refine V_mput (j := 45) R37 d_md_alsoAlike_45 fp_md_289 rfl rfl (by decide) (fun h45 M45 => ?_)
      have R45 := M45.1
      refine V_return d_md_alsoAlike_48 rfl ?_
      refine ⟨rfl, _, (M27.trans M37).trans M45, hL.put ha hb hn, fun q hq => ?_, fun q h1 h2 => ?_⟩
      · rw [mF_1n _ _ hq]; rfl
      · rw [mF_2, mA_2n _ _ _ h1, mA_2n _ _ _ h2]
/-- two objects are alike at a field, what must be alike then -/
def fldK (s : Mem) (a b f : Nat) : Prop := if s.2 3 (8 * sh s a + f) = 1 then (s.2 10 (8 * a + f) = MISS ↔ s.2 10 (8 * b + f) = MISS) else s.2 3 (8 * sh s a + f) = 3 ∨ s.2 10 (8 * a + f) = s.2 10 (8 * b + f)
def fldP (s : Mem) (a b f : Nat) : List Pr2 := if s.2 3 (8 * sh s a + f) = 1 then (if s.2 10 (8 * a + f) = MISS then [] else [((s.2 10 (8 * a + f)).toNatClampNeg, (s.2 10 (8 * b + f)).toNatClampNeg)]) else if s.2 3 (8 * sh s a + f) = 2 then (List.range (s.2 10 (8 * a + f)).toNatClampNeg).map (fun i => ((s.2 11 (6 * (8 * a + f) + i)).toNatClampNeg, (s.2 11 (6 * (8 * b + f) + i)).toNatClampNeg)) else []
def likeP (s : Mem) (a b : Nat) : Prop := s.2 9 a = s.2 9 b ∧ ∀ f, f < nf s (sh s a) → fldK s a b f
def prsF (s : Mem) (a b : Nat) : Nat → List Pr2
  | 0 => []
  | f + 1 => prsF s a b f ++ fldP s a b f
theorem lp_ar3 (G : Gk) {m : Nat} {am : Nat → Nat} {h0 : Hp} {s : Mem} (ivo : IvO s) (a b f len : Nat) (ha : a < nO s) (hb : b < nO s) (hf : f < 8) (h6 : len ≤ 6) (hpa : ∀ i, i < len → ∃ u, u < nO s ∧ s.2 11 (6 * (8 * a + f) + i) = nI u) (hpb : ∀ i, i < len → ∃ u, u < nO s ∧ s.2 11 (6 * (8 * b + f) + i) = nI u) (L : List Pr2) (w : Int32) (post : Option Value → Hp → Prop)
    (K : ∀ h t l7, Mod h0 m am h t → Sc s t → PR (((List.range len).map (fun i => ((s.2 11 (6 * (8 * a + f) + i)).toNatClampNeg, (s.2 11 (6 * (8 * b + f) + i)).toNatClampNeg))).foldl aJ L) t → V G md_areLike post h 0 0 205 [some (.ref m), some (.int (nI a)), some (.int (nI b)), some (.int (nI f)), some (.int (nI len)), some (.int w), some (.int 2), l7] []) : ∀ (c i : Nat) (h : Hp) (t : Mem), i + c = len → Mod h0 m am h t → Sc s t → PR (((List.range i).map (fun i => ((s.2 11 (6 * (8 * a + f) + i)).toNatClampNeg, (s.2 11 (6 * (8 * b + f) + i)).toNatClampNeg))).foldl aJ L) t →
    V G md_areLike post h 0 0 148 [some (.ref m), some (.int (nI a)), some (.int (nI b)), some (.int (nI f)), some (.int (nI len)), some (.int w), some (.int 2), some (.int (nI i))] [] := by
  have h60 := ivo.2.1
  intro c
  induction c with
  | zero =>
    intro i h t hi hM hS hP
    have r := hM.1
    refine V_iload d_md_areLike_148 rfl ?_
    refine V_iconst (v := 2) d_md_areLike_150 (by decide) ?_
    refine V_icmp_ne d_md_areLike_151 (fun c151 => ?_) (fun c151 => ?_)
    · skip
      exact absurd rfl c151
    · skip
      refine V_iload d_md_areLike_154 rfl ?_
      refine V_iload d_md_areLike_156 rfl ?_
      refine V_icmp_ge d_md_areLike_158 (fun c158 => ?_) (fun c158 => ?_)
      · skip
        obtain rfl : i = len := by omega
        exact K _ _ _ hM hS hP
      · skip
        exact absurd (ltN c158 (by omega)) (by omega)
  | succ c ih =>
    intro i h t hi hM hS hP
    have r := hM.1
    obtain ⟨x, hx, ex⟩ := hpa i (by omega)
    obtain ⟨y, hy, ey⟩ := hpb i (by omega)
    refine V_iload d_md_areLike_148 rfl ?_
    refine V_iconst (v := 2) d_md_areLike_150 (by decide) ?_
    refine V_icmp_ne d_md_areLike_151 (fun c151 => ?_) (fun c151 => ?_)
    · skip
      exact absurd rfl c151
    · skip
      refine V_iload d_md_areLike_154 rfl ?_
      refine V_iload d_md_areLike_156 rfl ?_
      refine V_icmp_ge d_md_areLike_158 (fun c158 => ?_) (fun c158 => ?_)
      · skip
        exact absurd (geN c158 (by omega)) (by omega)
      · skip
        refine V_aload_n d_md_areLike_161 rfl rfl ?_
        refine V_aload_n d_md_areLike_162 rfl rfl ?_
        refine V_getf d_md_areLike_163 fl_md_37 r.obj rfl ?_
        refine V_bipush (v := 6) d_md_areLike_166 (by decide) ?_
        refine V_aload_n d_md_areLike_168 rfl rfl ?_
        refine V_iload_n d_md_areLike_169 rfl rfl ?_
        refine V_iload_n d_md_areLike_170 rfl rfl ?_
        refine V_callV (N := md_at) d_md_areLike_171 ml_md_152 mdf_md_at wi_md_at wz_md_at (sp_md_at G _ _ _ _) r.obj ⟨_, rfl, rfl⟩ rfl rfl (by decide) (by decide) (Nat.le_of_ble_eq_true rfl) rfl rfl (kI fun r171 h171 ⟨e171, f171⟩ => ?_)
        subst e171 f171
        refine V_imul d_md_areLike_174 ?_
        refine V_iload d_md_areLike_175 rfl ?_
        refine V_iadd d_md_areLike_177 ?_
        rw [ix6]
        refine V_mald r d_md_areLike_178 (by first | with_reducible rfl | exact ix8 _ _ | exact ix6 _ _ | assumption) rfl rfl (by show _ < 2880; omega) ?_
        rw [hS.2 11 rfl, ex]
        refine V_aload_n d_md_areLike_179 rfl rfl ?_
        refine V_getf d_md_areLike_180 fl_md_37 r.obj rfl ?_
        refine V_bipush (v := 6) d_md_areLike_183 (by decide) ?_
        refine V_aload_n d_md_areLike_185 rfl rfl ?_
        refine V_iload_n d_md_areLike_186 rfl rfl ?_
        refine V_iload_n d_md_areLike_187 rfl rfl ?_
        refine V_callV (N := md_at) d_md_areLike_188 ml_md_152 mdf_md_at wi_md_at wz_md_at (sp_md_at G _ _ _ _) r.obj ⟨_, rfl, rfl⟩ rfl rfl (by decide) (by decide) (Nat.le_of_ble_eq_true rfl) rfl rfl (kI fun r188 h188 ⟨e188, f188⟩ => ?_)
        subst e188 f188
        refine V_imul d_md_areLike_191 ?_
        refine V_iload d_md_areLike_192 rfl ?_
        refine V_iadd d_md_areLike_194 ?_
        rw [ix6]
        refine V_mald r d_md_areLike_195 (by first | with_reducible rfl | exact ix8 _ _ | exact ix6 _ _ | assumption) rfl rfl (by show _ < 2880; omega) ?_
        rw [hS.2 11 rfl, ey]
        refine V_callV (N := md_alsoAlike) d_md_areLike_196 ml_md_292 mdf_md_alsoAlike wi_md_alsoAlike wz_md_alsoAlike (sp_md_alsoAlike G r hP x y (by omega) (by omega)) r.obj ⟨_, rfl, rfl⟩ rfl rfl (by decide) (by decide) (Nat.le_of_ble_eq_true rfl) rfl rfl (kN fun h196 ⟨u, M196, P196, K196⟩ => ?_)
        refine V_iinc (v := _) d_md_areLike_199 rfl rfl (by decide) rfl rfl ?_
        dsimp only [List.set]
        refine V_goto d_md_areLike_202 ?_
        rw [show Int32.ofInt 1 = 1 from rfl, nI_1]
        refine ih (i + 1) _ u (by omega) (hM.trans M196) (hS.trans K196.sc) ?_
        rw [List.range_succ, List.map_append, List.foldl_append]
        simp only [List.map_cons, List.map_nil, List.foldl_cons, List.foldl_nil]
        rw [ex, ey, cl x (by omega), cl y (by omega)]
        exact P196
theorem lp_ar2 (G : Gk) {m : Nat} {am : Nat → Nat} {h0 : Hp} {s : Mem} (ivs : IvS s) (ivo : IvO s) (ivv : IvV s) (a b : Nat) (ha : a < nO s) (hb : b < nO s) (hsh : s.2 9 a = s.2 9 b) (L : List Pr2) : ∀ (c f : Nat) (h : Hp) (t : Mem) (l4 l5 l6 l7 : Option Value), f + c = nf s (sh s a) → Mod h0 m am h t → Sc s t → PR ((prsF s a b f).foldl aJ L) t → (∀ g, g < f → fldK s a b g) →
    V G md_areLike (pI fun r h' => r = b01 (likeP s a b) ∧ ∃ u, Mod h0 m am h' u ∧ Sc s u ∧ (likeP s a b → PR ((prsF s a b (nf s (sh s a))).foldl aJ L) u)) h 0 0 19 [some (.ref m), some (.int (nI a)), some (.int (nI b)), some (.int (nI f)), l4, l5, l6, l7] [] := by
  have h10 := ivs.2.1
  have h60 := ivo.2.1
  obtain ⟨hs1, hs2⟩ := ivo.2.2 a ha
  obtain ⟨hf1, hf8⟩ := ivs.2.2.1 _ hs2
  have eab : sh s b = sh s a := by unfold sh; rw [hsh]
  intro c
  induction c with
  | zero =>
    intro f h t l4 l5 l6 l7 hf hM hS hP hK
    have r := hM.1
    refine V_iload_n d_md_areLike_19 rfl rfl ?_
    refine V_aload_n d_md_areLike_20 rfl rfl ?_
    refine V_getf d_md_areLike_21 fl_md_13 r.obj rfl ?_
    refine V_aload_n d_md_areLike_24 rfl rfl ?_
    refine V_getf d_md_areLike_25 fl_md_31 r.obj rfl ?_
    refine V_iload_n d_md_areLike_28 rfl rfl ?_
    refine V_mald r d_md_areLike_29 (by first | with_reducible rfl | exact ix8 _ _ | exact ix6 _ _ | assumption) rfl rfl (by show _ < 60; omega) ?_
    rw [hS.2 9 rfl, hs1]
    refine V_mald r d_md_areLike_30 (by first | with_reducible rfl | exact ix8 _ _ | exact ix6 _ _ | assumption) rfl rfl (by show _ < 10; omega) ?_
    rw [hS.2 2 rfl, hf1]
    refine V_icmp_ge d_md_areLike_31 (fun c31 => ?_) (fun c31 => ?_)
    · skip
      refine V_iconst (v := 1) d_md_areLike_211 (by decide) ?_
      refine V_zreturn d_md_areLike_212 rfl (by first | exact Or.inl rfl | exact Or.inr rfl) ?_
      obtain rfl : f = nf s (sh s a) := by omega
      have hl : likeP s a b := ⟨hsh, hK⟩
      exact ⟨_, rfl, (b01_t hl).symm, t, hM, hS, fun _ => hP⟩
    · skip
      exact absurd (ltN c31 (by omega)) (by omega)
  | succ c ih =>
    intro f h t l4 l5 l6 l7 hf hM hS hP hK
    have r := hM.1
    have voa := ivv a ha f (by omega)
    have vob := ivv b hb f (by rw [eab]; omega)
    rw [VOK, eab] at vob
    have nxt : ∀ (h1 : Hp) (u : Mem) (l4 l5 l6 l7 : Option Value), Mod h0 m am h1 u → Sc s u → fldK s a b f → PR ((fldP s a b f).foldl aJ ((prsF s a b f).foldl aJ L)) u → V G md_areLike (pI fun r h' => r = b01 (likeP s a b) ∧ ∃ u, Mod h0 m am h' u ∧ Sc s u ∧ (likeP s a b → PR ((prsF s a b (nf s (sh s a))).foldl aJ L) u)) h1 0 0 205 [some (.ref m), some (.int (nI a)), some (.int (nI b)), some (.int (nI f)), l4, l5, l6, l7] [] := by
      intro h1 u l4 l5 l6 l7 M1 S1 hk P1
      refine V_iinc (v := _) d_md_areLike_205 rfl rfl (by decide) rfl rfl ?_
      dsimp only [List.set]
      refine V_goto d_md_areLike_208 ?_
      rw [show Int32.ofInt 1 = 1 from rfl, nI_1]
      exact ih (f + 1) _ _ _ _ _ _ (by omega) M1 S1 (by rw [prsF, List.foldl_append]; exact P1) (fun g hg => (Nat.lt_succ_iff_lt_or_eq.mp hg).elim (hK g) (fun e => by rw [e]; exact hk))
    have fail : ¬ fldK s a b f → (pI fun r h' => r = b01 (likeP s a b) ∧ ∃ u, Mod h0 m am h' u ∧ Sc s u ∧ (likeP s a b → PR ((prsF s a b (nf s (sh s a))).foldl aJ L) u)) (some (.int 0)) h := by
      intro q
      have hn : ¬ likeP s a b := fun z => q (z.2 f (by omega))
      exact ⟨_, rfl, (b01_f hn).symm, t, hM, hS, fun z => absurd z hn⟩
    have lst : ∀ (v w k : Int32) (h1 : Hp) (u : Mem), s.2 10 (8 * a + f) = v → s.2 10 (8 * b + f) = w → s.2 3 (8 * sh s a + f) = k → fldK s a b f → Mod h0 m am h1 u → Sc s u → (k ≠ 2 → PR ((fldP s a b f).foldl aJ ((prsF s a b f).foldl aJ L)) u) → (k = 2 → PR ((prsF s a b f).foldl aJ L) u) → V G md_areLike (pI fun r h' => r = b01 (likeP s a b) ∧ ∃ u, Mod h0 m am h' u ∧ Sc s u ∧ (likeP s a b → PR ((prsF s a b (nf s (sh s a))).foldl aJ L) u)) h1 0 0 148 [some (.ref m), some (.int (nI a)), some (.int (nI b)), some (.int (nI f)), some (.int v), some (.int w), some (.int k), some (.int (nI 0))] [] := by
      intro v w k h1 u ev ew ek hk M1 S1 P1 P2
      by_cases h2 : k = 2
      · subst h2
        obtain ⟨len, h6, hl, hpa⟩ := voa.2 ek
        obtain ⟨len2, h62, hl2, hpb⟩ := vob.2 ek
        have hk0 := hk
        unfold fldK at hk
        rw [ek, if_neg (by decide)] at hk
        have evw := hk.resolve_left (by decide)
        rw [hl, hl2] at evw
        obtain rfl := nI_inj8 (by omega) (by omega) evw
        obtain rfl := ev.symm.trans hl
        refine lp_ar3 G ivo a b f len ha hb (by omega) h6 hpa hpb ((prsF s a b f).foldl aJ L) w _ (fun h2 t2 l7 M2 S2 P3 => nxt h2 t2 _ _ _ _ M2 S2 hk0 ?_) len 0 _ _ (by omega) M1 S1 (P2 rfl)
        unfold fldP
        rw [ek, if_neg (by decide), if_pos rfl, hl, cl len (by omega)]
        exact P3
      · skip
        refine V_iload d_md_areLike_148 rfl ?_
        refine V_iconst (v := 2) d_md_areLike_150 (by decide) ?_
        refine V_icmp_ne d_md_areLike_151 (fun c151 => ?_) (fun c151 => ?_)
        · skip
          exact nxt _ _ _ _ _ _ M1 S1 hk (P1 h2)
        · skip
          exact absurd c151 h2
    have pass : ∀ (v w k : Int32) (l7 : Option Value), s.2 10 (8 * a + f) = v → s.2 10 (8 * b + f) = w → s.2 3 (8 * sh s a + f) = k → fldK s a b f → V G md_areLike (pI fun r h' => r = b01 (likeP s a b) ∧ ∃ u, Mod h0 m am h' u ∧ Sc s u ∧ (likeP s a b → PR ((prsF s a b (nf s (sh s a))).foldl aJ L) u)) h 0 0 124 [some (.ref m), some (.int (nI a)), some (.int (nI b)), some (.int (nI f)), some (.int v), some (.int w), some (.int k), l7] [] := by
      intro v w k l7 ev ew ek hk
      have eP : fldP s a b f = if k = 1 then (if v = MISS then [] else [(v.toNatClampNeg, w.toNatClampNeg)]) else if k = 2 then (List.range v.toNatClampNeg).map (fun i => ((s.2 11 (6 * (8 * a + f) + i)).toNatClampNeg, (s.2 11 (6 * (8 * b + f) + i)).toNatClampNeg)) else [] := by
        unfold fldP; rw [ev, ew, ek]
      refine V_iload d_md_areLike_124 rfl ?_
      refine V_iconst (v := 1) d_md_areLike_126 (by decide) ?_
      refine V_icmp_ne d_md_areLike_127 (fun c127 => ?_) (fun c127 => ?_)
      · skip
        refine V_iconst (v := 0) d_md_areLike_145 (by decide) ?_
        refine V_istore d_md_areLike_146 (by decide) rfl rfl ?_
        dsimp only [List.set]
        exact lst _ _ _ _ _ ev ew ek hk hM hS (fun q => by rw [eP, if_neg c127, if_neg q]; exact hP) (fun _ => hP)
      · skip
        refine V_iload d_md_areLike_130 rfl ?_
        refine V_ldc d_md_areLike_132 kc_md_129 ?_
        refine V_icmp_eq d_md_areLike_134 (fun c134 => ?_) (fun c134 => ?_)
        · skip
          refine V_iconst (v := 0) d_md_areLike_145 (by decide) ?_
          refine V_istore d_md_areLike_146 (by decide) rfl rfl ?_
          dsimp only [List.set]
          exact lst _ _ _ _ _ ev ew ek hk hM hS (fun q => by rw [eP, if_pos c127, if_pos c134]; exact hP) (fun _ => hP)
        · skip
          obtain ⟨x, hx, ex⟩ : ∃ x, x < nO s ∧ v = nI x := by rw [← ev]; exact (voa.1 (ek.trans c127)).resolve_left (fun z => c134 (ev.symm.trans z))
          obtain ⟨y, hy, ey⟩ : ∃ y, y < nO s ∧ w = nI y := by rw [← ew]; exact (vob.1 (ek.trans c127)).resolve_left (fun z => by unfold fldK at hk; rw [ek, c127, if_pos rfl] at hk; exact c134 (ev.symm.trans (hk.mpr z)))
          subst ex ey
          refine V_aload_n d_md_areLike_137 rfl rfl ?_
          refine V_iload d_md_areLike_138 rfl ?_
          refine V_iload d_md_areLike_140 rfl ?_
          refine V_callV (N := md_alsoAlike) d_md_areLike_142 ml_md_292 mdf_md_alsoAlike wi_md_alsoAlike wz_md_alsoAlike (sp_md_alsoAlike G r hP x y (by omega) (by omega)) r.obj ⟨_, rfl, rfl⟩ rfl rfl (by decide) (by decide) (Nat.le_of_ble_eq_true rfl) rfl rfl (kN fun h142 ⟨u, M142, P142, K142⟩ => ?_)
          refine V_iconst (v := 0) d_md_areLike_145 (by decide) ?_
          refine V_istore d_md_areLike_146 (by decide) rfl rfl ?_
          dsimp only [List.set]
          exact lst _ _ _ _ _ ev ew ek hk (hM.trans M142) (hS.trans K142.sc) (fun q => by rw [eP, if_pos c127, if_neg c134, cl x (by omega), cl y (by omega)]; exact P142) (fun q => absurd (c127.symm.trans q) (by decide))
    refine V_iload_n d_md_areLike_19 rfl rfl ?_
    refine V_aload_n d_md_areLike_20 rfl rfl ?_
    refine V_getf d_md_areLike_21 fl_md_13 r.obj rfl ?_
    refine V_aload_n d_md_areLike_24 rfl rfl ?_
    refine V_getf d_md_areLike_25 fl_md_31 r.obj rfl ?_
    refine V_iload_n d_md_areLike_28 rfl rfl ?_
    refine V_mald r d_md_areLike_29 (by first | with_reducible rfl | exact ix8 _ _ | exact ix6 _ _ | assumption) rfl rfl (by show _ < 60; omega) ?_
    rw [hS.2 9 rfl, hs1]
    refine V_mald r d_md_areLike_30 (by first | with_reducible rfl | exact ix8 _ _ | exact ix6 _ _ | assumption) rfl rfl (by show _ < 10; omega) ?_
    rw [hS.2 2 rfl, hf1]
    refine V_icmp_ge d_md_areLike_31 (fun c31 => ?_) (fun c31 => ?_)
    · skip
      exact absurd (geN c31 (by omega)) (by omega)
    · skip
      refine V_aload_n d_md_areLike_34 rfl rfl ?_
      refine V_getf d_md_areLike_35 fl_md_34 r.obj rfl ?_
      refine V_aload_n d_md_areLike_38 rfl rfl ?_
      refine V_iload_n d_md_areLike_39 rfl rfl ?_
      refine V_iload_n d_md_areLike_40 rfl rfl ?_
      refine V_callV (N := md_at) d_md_areLike_41 ml_md_152 mdf_md_at wi_md_at wz_md_at (sp_md_at G _ _ _ _) r.obj ⟨_, rfl, rfl⟩ rfl rfl (by decide) (by decide) (Nat.le_of_ble_eq_true rfl) rfl rfl (kI fun r41 h41 ⟨e41, f41⟩ => ?_)
      subst e41 f41
      refine V_mald r d_md_areLike_44 (by first | with_reducible rfl | exact ix8 _ _ | exact ix6 _ _ | assumption) rfl rfl (by show _ < 480; omega) ?_
      rw [hS.2 10 rfl]
      refine V_istore d_md_areLike_45 (by decide) rfl rfl ?_
      dsimp only [List.set]
      refine V_aload_n d_md_areLike_47 rfl rfl ?_
      refine V_getf d_md_areLike_48 fl_md_34 r.obj rfl ?_
      refine V_aload_n d_md_areLike_51 rfl rfl ?_
      refine V_iload_n d_md_areLike_52 rfl rfl ?_
      refine V_iload_n d_md_areLike_53 rfl rfl ?_
      refine V_callV (N := md_at) d_md_areLike_54 ml_md_152 mdf_md_at wi_md_at wz_md_at (sp_md_at G _ _ _ _) r.obj ⟨_, rfl, rfl⟩ rfl rfl (by decide) (by decide) (Nat.le_of_ble_eq_true rfl) rfl rfl (kI fun r54 h54 ⟨e54, f54⟩ => ?_)
      subst e54 f54
      refine V_mald r d_md_areLike_57 (by first | with_reducible rfl | exact ix8 _ _ | exact ix6 _ _ | assumption) rfl rfl (by show _ < 480; omega) ?_
      rw [hS.2 10 rfl]
      refine V_istore d_md_areLike_58 (by decide) rfl rfl ?_
      dsimp only [List.set]
      refine V_aload_n d_md_areLike_60 rfl rfl ?_
      refine V_getf d_md_areLike_61 fl_md_16 r.obj rfl ?_
      refine V_aload_n d_md_areLike_64 rfl rfl ?_
      refine V_iload_n d_md_areLike_65 rfl rfl ?_
      refine V_iload_n d_md_areLike_66 rfl rfl ?_
      refine V_callV (N := md_by) d_md_areLike_67 ml_md_156 mdf_md_by wi_md_by wz_md_by (sp_md_by' G r a f (sh s a) (by omega) (by rw [hS.2 9 rfl]; exact hs1)) r.obj ⟨_, rfl, rfl⟩ rfl rfl (by decide) (by decide) (Nat.le_of_ble_eq_true rfl) rfl rfl (kI fun r67 h67 ⟨e67, f67⟩ => ?_)
      subst e67 f67
      refine V_mald r d_md_areLike_70 (by first | with_reducible rfl | exact ix8 _ _ | exact ix6 _ _ | assumption) rfl rfl (by show _ < 80; omega) ?_
      rw [hS.2 3 rfl]
      refine V_istore d_md_areLike_71 (by decide) rfl rfl ?_
      dsimp only [List.set]
      refine V_iload d_md_areLike_73 rfl ?_
      refine V_iconst (v := 1) d_md_areLike_75 (by decide) ?_
      refine V_icmp_ne d_md_areLike_76 (fun c76 => ?_) (fun c76 => ?_)
      · skip
        refine V_iload d_md_areLike_109 rfl ?_
        refine V_iconst (v := 3) d_md_areLike_111 (by decide) ?_
        refine V_icmp_eq d_md_areLike_112 (fun c112 => ?_) (fun c112 => ?_)
        · skip
          exact pass _ _ _ _ rfl rfl rfl (by unfold fldK; rw [if_neg c76]; exact Or.inl c112)
        · skip
          refine V_iload d_md_areLike_115 rfl ?_
          refine V_iload d_md_areLike_117 rfl ?_
          refine V_icmp_eq d_md_areLike_119 (fun c119 => ?_) (fun c119 => ?_)
          · skip
            exact pass _ _ _ _ rfl rfl rfl (by unfold fldK; rw [if_neg c76]; exact Or.inr c119)
          · skip
            refine V_iconst (v := 0) d_md_areLike_122 (by decide) ?_
            refine V_zreturn d_md_areLike_123 rfl (by first | exact Or.inl rfl | exact Or.inr rfl) ?_
            exact fail (by unfold fldK; rw [if_neg c76]; exact fun z => z.elim c112 c119)
      · skip
        refine V_iload d_md_areLike_79 rfl ?_
        refine V_ldc d_md_areLike_81 kc_md_129 ?_
        refine V_icmp_ne d_md_areLike_83 (fun c83 => ?_) (fun c83 => ?_)
        · skip
          refine V_iconst (v := 0) d_md_areLike_90 (by decide) ?_
          refine V_iload d_md_areLike_91 rfl ?_
          refine V_ldc d_md_areLike_93 kc_md_129 ?_
          refine V_icmp_ne d_md_areLike_95 (fun c95 => ?_) (fun c95 => ?_)
          · skip
            refine V_iconst (v := 0) d_md_areLike_102 (by decide) ?_
            refine V_icmp_eq d_md_areLike_103 (fun c103 => ?_) (fun c103 => ?_)
            · skip
              exact pass _ _ _ _ rfl rfl rfl (by unfold fldK; rw [if_pos c76]; exact ⟨fun z => absurd z c83, fun z => absurd z c95⟩)
            · skip
              refine V_goto d_md_areLike_106 ?_
              refine V_iconst (v := 0) d_md_areLike_122 (by decide) ?_
              refine V_zreturn d_md_areLike_123 rfl (by first | exact Or.inl rfl | exact Or.inr rfl) ?_
              exact absurd rfl c103
          · skip
            refine V_iconst (v := 1) d_md_areLike_98 (by decide) ?_
            refine V_goto d_md_areLike_99 ?_
            refine V_icmp_eq d_md_areLike_103 (fun c103 => ?_) (fun c103 => ?_)
            · skip
              exact absurd c103 (by decide)
            · skip
              refine V_goto d_md_areLike_106 ?_
              refine V_iconst (v := 0) d_md_areLike_122 (by decide) ?_
              refine V_zreturn d_md_areLike_123 rfl (by first | exact Or.inl rfl | exact Or.inr rfl) ?_
              exact fail (by unfold fldK; rw [if_pos c76]; exact fun z => c83 (z.mpr c95))
        · skip
          refine V_iconst (v := 1) d_md_areLike_86 (by decide) ?_
          refine V_goto d_md_areLike_87 ?_
          refine V_iload d_md_areLike_91 rfl ?_
          refine V_ldc d_md_areLike_93 kc_md_129 ?_
          refine V_icmp_ne d_md_areLike_95 (fun c95 => ?_) (fun c95 => ?_)
          · skip
            refine V_iconst (v := 0) d_md_areLike_102 (by decide) ?_
            refine V_icmp_eq d_md_areLike_103 (fun c103 => ?_) (fun c103 => ?_)
            · skip
              exact absurd c103 (by decide)
            · skip
              refine V_goto d_md_areLike_106 ?_
              refine V_iconst (v := 0) d_md_areLike_122 (by decide) ?_
              refine V_zreturn d_md_areLike_123 rfl (by first | exact Or.inl rfl | exact Or.inr rfl) ?_
              exact fail (by unfold fldK; rw [if_pos c76]; exact fun z => c95 (z.mp c83))
          · skip
            refine V_iconst (v := 1) d_md_areLike_98 (by decide) ?_
            refine V_goto d_md_areLike_99 ?_
            refine V_icmp_eq d_md_areLike_103 (fun c103 => ?_) (fun c103 => ?_)
            · skip
              exact pass _ _ _ _ rfl rfl rfl (by unfold fldK; rw [if_pos c76]; exact ⟨fun _ => c95, fun _ => c83⟩)
            · skip
              refine V_goto d_md_areLike_106 ?_
              refine V_iconst (v := 0) d_md_areLike_122 (by decide) ?_
              refine V_zreturn d_md_areLike_123 rfl (by first | exact Or.inl rfl | exact Or.inr rfl) ?_
              exact absurd rfl c103
theorem sp_md_areLike (G : Gk) {h : Hp} {m : Nat} {am : Nat → Nat} {s t : Mem} (r : RepM h m am t) (hS : Sc s t) (ivs : IvS s) (ivo : IvO s) (ivv : IvV s) (a b : Nat) (ha : a < nO s) (hb : b < nO s) (L : List Pr2) (hP : PR L t) : Ct G md_areLike [.ref m, .int (nI a), .int (nI b)] h
    (pI fun r h' => r = b01 (likeP s a b) ∧ ∃ u, Mod h m am h' u ∧ Sc s u ∧ (likeP s a b → PR ((prsF s a b (nf s (sh s a))).foldl aJ L) u)) := by
  have h60 := ivo.2.1
  refine Ct.ofL (M := md_areLike) (lv := [some (.ref m), some (.int (nI a)), some (.int (nI b)), none, none, none, none, none]) mdf_md_areLike rfl (Nat.le_of_ble_eq_true rfl) rfl ?_
  refine V_aload_n d_md_areLike_0 rfl rfl ?_
  refine V_getf d_md_areLike_1 fl_md_31 r.obj rfl ?_
  refine V_iload_n d_md_areLike_4 rfl rfl ?_
  refine V_mald r d_md_areLike_5 (by first | with_reducible rfl | exact ix8 _ _ | exact ix6 _ _ | assumption) rfl rfl (by show _ < 60; omega) ?_
  rw [hS.2 9 rfl]
  refine V_aload_n d_md_areLike_6 rfl rfl ?_
  refine V_getf d_md_areLike_7 fl_md_31 r.obj rfl ?_
  refine V_iload_n d_md_areLike_10 rfl rfl ?_
  refine V_mald r d_md_areLike_11 (by first | with_reducible rfl | exact ix8 _ _ | exact ix6 _ _ | assumption) rfl rfl (by show _ < 60; omega) ?_
  rw [hS.2 9 rfl]
  refine V_icmp_eq d_md_areLike_12 (fun c12 => ?_) (fun c12 => ?_)
  · skip
    refine V_iconst (v := 0) d_md_areLike_17 (by decide) ?_
    refine V_istore_n d_md_areLike_18 rfl (by decide) rfl rfl ?_
    dsimp only [List.set]
    exact lp_ar2 G ivs ivo ivv a b ha hb c12 L (nf s (sh s a)) 0 _ _ _ _ _ _ (by omega) (Mod.rf r) hS hP (fun g hg => by omega)
  · skip
    refine V_iconst (v := 0) d_md_areLike_15 (by decide) ?_
    refine V_zreturn d_md_areLike_16 rfl (by first | exact Or.inl rfl | exact Or.inr rfl) ?_
    have hn : ¬ likeP s a b := fun z => c12 z.1
    exact ⟨_, rfl, (b01_f hn).symm, t, Mod.rf r, hS, fun z => absurd z hn⟩
