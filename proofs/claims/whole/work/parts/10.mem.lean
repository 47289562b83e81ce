/-! THE MEMORY of the reference: its numbers F (by the field's number) and its arrays A (by the field's number); a state is the two -/
abbrev Mem : Type := (Nat → Int32) × (Nat → Nat → Int32)
def arrL (n : Nat) (f : Nat → Int32) : List Value := (List.range n).map (fun i => Value.int (f i))
theorem arrL_len (n : Nat) (f : Nat → Int32) : (arrL n f).length = n := by simp [arrL]
theorem arrL_get {n i : Nat} (f : Nat → Int32) (hi : i < n) : (arrL n f)[i]? = some (.int (f i)) := by simp [arrL, hi]
theorem arrL_set {n i : Nat} (f : Nat → Int32) (v : Int32) (hi : i < n) : (arrL n f).set i (.int v) = arrL n (upd f i v) := by
  apply List.ext_getElem?
  intro j
  by_cases e : i = j
  · subst e
    rw [List.getElem?_set_self (by rw [arrL_len]; exact hi), arrL_get _ hi]
    simp [upd]
  · rw [List.getElem?_set_ne e]
    by_cases hj : j < n
    · rw [arrL_get _ hj, arrL_get _ hj]
      simp [upd, Ne.symm e]
    · rw [List.getElem?_eq_none (by rw [arrL_len]; omega), List.getElem?_eq_none (by rw [arrL_len]; omega)]
theorem arrL_rep (n : Nat) : List.replicate n (Value.int 0) = arrL n (fun _ => 0) := by
  apply List.ext_getElem?
  intro j
  by_cases hj : j < n
  · rw [arrL_get _ hj, List.getElem?_replicate, if_pos hj]
  · rw [List.getElem?_eq_none (by simp; omega), List.getElem?_eq_none (by rw [arrL_len]; omega)]
/-- which fields are arrays, how long -/
def mlen : Nat → Nat
  | 1 => 10 | 2 => 10 | 3 => 80 | 4 => 80 | 5 => 80 | 6 => 80 | 7 => 80 | 9 => 60 | 10 => 480 | 11 => 2880 | 12 => 8 | 13 => 60 | 14 => 60
  | 17 => 700 | 18 => 4900 | 19 => 4900 | 22 => 61 | 26 => 10 | 27 => 10 | 28 => 10 | 29 => 10 | 30 => 10 | 31 => 1200 | 32 => 6
  | 34 => 16 | 35 => 80 | 36 => 80 | 38 => 600 | 39 => 600 | 41 => 600 | 42 => 600 | 43 => 3600 | 44 => 3600 | _ => 0
def isA (j : Nat) : Bool := decide (0 < mlen j)
def kA (j : Nat) : Nat := if j = 28 ∨ j = 44 then 21 else 20
def mfs (F : Nat → Int32) (am : Nat → Nat) : List Value := [.int (F 0), .ref (am 1), .ref (am 2), .ref (am 3), .ref (am 4), .ref (am 5), .ref (am 6), .ref (am 7), .int (F 8), .ref (am 9), .ref (am 10), .ref (am 11), .ref (am 12), .ref (am 13), .ref (am 14), .int (F 15), .int (F 16), .ref (am 17), .ref (am 18), .ref (am 19), .int (F 20), .int (F 21), .ref (am 22), .int (F 23), .int (F 24), .int (F 25), .ref (am 26), .ref (am 27), .ref (am 28), .ref (am 29), .ref (am 30), .ref (am 31), .ref (am 32), .int (F 33), .ref (am 34), .ref (am 35), .ref (am 36), .int (F 37), .ref (am 38), .ref (am 39), .int (F 40), .ref (am 41), .ref (am 42), .ref (am 43), .ref (am 44), .int (F 45)]
/-- the heap holds the reference at m, its arrays at am, with the memory s -/
def RepM (h : Hp) (m : Nat) (am : Nat → Nat) (s : Mem) : Prop := h m = some (13, mfs s.1 am) ∧ (∀ j, isA j = true → h (am j) = some (kA j, arrL (mlen j) (s.2 j))) ∧ (∀ i j, isA i = true → isA j = true → am i = am j → i = j)
/-- an address of the reference's -/
def MA (m : Nat) (am : Nat → Nat) (a : Nat) : Prop := a = m ∨ ∃ j, isA j = true ∧ a = am j
/-- behind a call of the reference: the memory is s', nothing else has changed -/
def Mod (h : Hp) (m : Nat) (am : Nat → Nat) (h' : Hp) (s' : Mem) : Prop := RepM h' m am s' ∧ ∀ a, ¬ MA m am a → h' a = h a
theorem RepM.obj {h : Hp} {m : Nat} {am : Nat → Nat} {s : Mem} (r : RepM h m am s) : h m = some (13, mfs s.1 am) := r.1
theorem RepM.arr {h : Hp} {m : Nat} {am : Nat → Nat} {s : Mem} (r : RepM h m am s) (j : Nat) (hj : isA j = true) (hk : kA j = 20) : h (am j) = some (20, arrL (mlen j) (s.2 j)) := by
  rw [← hk]; exact r.2.1 j hj
theorem RepM.arrZ {h : Hp} {m : Nat} {am : Nat → Nat} {s : Mem} (r : RepM h m am s) (j : Nat) (hj : isA j = true) (hk : kA j = 21) : h (am j) = some (21, arrL (mlen j) (s.2 j)) := by
  rw [← hk]; exact r.2.1 j hj
theorem kA_ne (j : Nat) : kA j ≠ 13 := by unfold kA; split <;> decide
theorem RepM.ne {h : Hp} {m : Nat} {am : Nat → Nat} {s : Mem} (r : RepM h m am s) {j : Nat} (hj : isA j = true) : am j ≠ m := by
  intro e
  have h1 := r.2.1 j hj
  rw [e, r.1] at h1
  simp only [Option.some.injEq, Prod.mk.injEq] at h1
  exact kA_ne j h1.1.symm
def mF (s : Mem) (j : Nat) (v : Int32) : Mem := (upd s.1 j v, s.2)
def mA (s : Mem) (j i : Nat) (v : Int32) : Mem := (s.1, va_up s.2 j (upd (s.2 j) i v))
theorem mA_2s (s : Mem) (j i : Nat) (v : Int32) : (mA s j i v).2 j = upd (s.2 j) i v := va_up_self _ _ _
theorem mA_2n (s : Mem) {j k : Nat} (i : Nat) (v : Int32) (h : k ≠ j) : (mA s j i v).2 k = s.2 k := va_up_ne _ _ h
theorem mA_1 (s : Mem) (j i : Nat) (v : Int32) : (mA s j i v).1 = s.1 := rfl
theorem mF_2 (s : Mem) (j : Nat) (v : Int32) : (mF s j v).2 = s.2 := rfl
theorem mF_1s (s : Mem) (j : Nat) (v : Int32) : (mF s j v).1 j = v := pk_us
theorem mF_1n (s : Mem) {j k : Nat} (v : Int32) (h : k ≠ j) : (mF s j v).1 k = s.1 k := pk_un h
theorem Mod.rf {h : Hp} {m : Nat} {am : Nat → Nat} {s : Mem} (r : RepM h m am s) : Mod h m am h s := ⟨r, fun _ _ => rfl⟩
theorem Mod.trans {h h1 h2 : Hp} {m : Nat} {am : Nat → Nat} {s1 s2 : Mem} (a : Mod h m am h1 s1) (b : Mod h1 m am h2 s2) : Mod h m am h2 s2 := ⟨b.1, fun q hq => (b.2 q hq).trans (a.2 q hq)⟩
theorem mfs_set (F : Nat → Int32) (am : Nat → Nat) (j : Nat) (v : Int32) (hj : j = 0 ∨ j = 8 ∨ j = 15 ∨ j = 16 ∨ j = 20 ∨ j = 21 ∨ j = 23 ∨ j = 24 ∨ j = 25 ∨ j = 33 ∨ j = 37 ∨ j = 40 ∨ j = 45) : (mfs F am).set j (.int v) = mfs (upd F j v) am := by
  rcases hj with rfl | rfl | rfl | rfl | rfl | rfl | rfl | rfl | rfl | rfl | rfl | rfl | rfl <;> rfl
theorem RepM.setF {h : Hp} {m : Nat} {am : Nat → Nat} {s : Mem} (r : RepM h m am s) (j : Nat) (v : Int32) (hj : j = 0 ∨ j = 8 ∨ j = 15 ∨ j = 16 ∨ j = 20 ∨ j = 21 ∨ j = 23 ∨ j = 24 ∨ j = 25 ∨ j = 33 ∨ j = 37 ∨ j = 40 ∨ j = 45) : Mod h m am (hu h m (13, (mfs s.1 am).set j (.int v))) (mF s j v) := by
  refine ⟨⟨by rw [hu_self, mfs_set _ _ _ _ hj]; rfl, fun i hi => ?_, r.2.2⟩, fun a ha => hu_ne _ _ (fun e => ha (Or.inl e))⟩
  rw [hu_ne _ _ (r.ne hi)]
  exact r.2.1 i hi
theorem RepM.setA {h : Hp} {m : Nat} {am : Nat → Nat} {s : Mem} (r : RepM h m am s) (j i k : Nat) (v : Int32) (hj : isA j = true) (hk : kA j = k) (hi : i < mlen j) : Mod h m am (hu h (am j) (k, (arrL (mlen j) (s.2 j)).set i (.int v))) (mA s j i v) := by
  subst hk
  refine ⟨⟨by rw [hu_ne _ _ (Ne.symm (r.ne hj))]; exact r.1, fun q hq => ?_, r.2.2⟩, fun a ha => hu_ne _ _ (fun e => ha (Or.inr ⟨j, hj, e⟩))⟩
  by_cases e : q = j
  · subst e
    rw [hu_self, arrL_set _ _ hi]
    simp [mA, va_up]
  · rw [hu_ne _ _ (fun z => e (r.2.2 q j hq hj z)), r.2.1 q hq]
    simp [mA, va_up, e]
theorem ix8 (i j : Nat) : (8 : Int32) * nI i + nI j = nI (8 * i + j) := by
  rw [show (8 : Int32) = nI 8 from rfl, pk_mul, nI_add]
theorem ix6 (i j : Nat) : (6 : Int32) * nI i + nI j = nI (6 * i + j) := by
  rw [show (6 : Int32) = nI 6 from rfl, pk_mul, nI_add]
section Rows
variable {G : Gk} {M : MI} {post : Option Value → Hp → Prop} {h : Hp} {cr sr pc pc2 : Nat} {lv : List (Option Value)} {st : List Value} {m : Nat} {am : Nat → Nat} {s : Mem}
theorem V_mald {i : Int32} {k j : Nat} (r : RepM h m am s) (d : DC M.2.1 pc .iaload 1 pc2) (hi : i = nI k) (hj : isA j = true) (hk20 : kA j = 20) (hk : k < mlen j) (kk : V G M post h cr sr pc2 lv (.int (s.2 j k) :: st)) : V G M post h cr sr pc lv (.int i :: .ref (am j) :: st) := by
  have hlt : mlen j ≤ 4900 := by unfold mlen; split <;> decide
  exact V_iald k d (r.arr j hj hk20) hi (by omega) (arrL_get _ hk) kk
theorem V_mbld {i : Int32} {k j : Nat} (r : RepM h m am s) (d : DC M.2.1 pc .baload 1 pc2) (hi : i = nI k) (hj : isA j = true) (hk20 : kA j = 21) (hk : k < mlen j) (kk : V G M post h cr sr pc2 lv (.int (s.2 j k) :: st)) : V G M post h cr sr pc lv (.int i :: .ref (am j) :: st) := by
  have hlt : mlen j ≤ 4900 := by unfold mlen; split <;> decide
  exact V_bald k d (r.arrZ j hj hk20) hi (by omega) (arrL_get _ hk) kk
theorem V_mast {i x : Int32} {k j : Nat} (r : RepM h m am s) (d : DC M.2.1 pc .iastore 1 pc2) (hi : i = nI k) (hj : isA j = true) (hk20 : kA j = 20) (hk : k < mlen j) (kk : ∀ h1, Mod h m am h1 (mA s j k x) → V G M post h1 cr sr pc2 lv st) : V G M post h cr sr pc lv (.int x :: .int i :: .ref (am j) :: st) := by
  have hlt : mlen j ≤ 4900 := by unfold mlen; split <;> decide
  exact V_iast k d (r.arr j hj hk20) hi (by omega) (by rw [arrL_len]; exact hk) (kk _ (r.setA j k 20 x hj hk20 hk))
theorem V_mbst {i x : Int32} {k j : Nat} (r : RepM h m am s) (d : DC M.2.1 pc .bastore 1 pc2) (hi : i = nI k) (hj : isA j = true) (hk20 : kA j = 21) (hk : k < mlen j) (hx : narrow .boolean (.int x) = .int x) (kk : ∀ h1, Mod h m am h1 (mA s j k x) → V G M post h1 cr sr pc2 lv st) : V G M post h cr sr pc lv (.int x :: .int i :: .ref (am j) :: st) := by
  have hlt : mlen j ≤ 4900 := by unfold mlen; split <;> decide
  exact V_zast k d (r.arrZ j hj hk20) hi (by omega) (by rw [arrL_len]; exact hk) hx (kk _ (r.setA j k 21 x hj hk20 hk))
theorem V_mput {j idx : Nat} {v : Int32} {ty : FieldType} (r : RepM h m am s) (d : DC M.2.1 pc (.putfield idx) 3 pc2) (fp : FP M.1.cls idx 13 j ty false) (hn : narrow ty (.int v) = .int v) (hfit : fits ty (.int v) = true) (hj : j = 0 ∨ j = 8 ∨ j = 15 ∨ j = 16 ∨ j = 20 ∨ j = 21 ∨ j = 23 ∨ j = 24 ∨ j = 25 ∨ j = 33 ∨ j = 37 ∨ j = 40 ∨ j = 45) (kk : ∀ h1, Mod h m am h1 (mF s j v) → V G M post h1 cr sr pc2 lv st) : V G M post h cr sr pc lv (.int v :: .ref m :: st) :=
  V_putf d fp hn hfit r.obj (kk _ (r.setF j v hj))
end Rows
theorem V.mono {G : Gk} {M : MI} {p1 p2 : Option Value → Hp → Prop} {h : Hp} {cr sr pc : Nat} {lv : List (Option Value)} {st : List Value} (k : V G M p1 h cr sr pc lv st) (hp : ∀ v h', p1 v h' → p2 v h') : V G M p2 h cr sr pc lv st := by
  intro p l e s m args below meth c A H locs cells slots ls S T hT X
  obtain ⟨t, q1, o, q2, q3, ⟨⟨v, h', q4, q5, q6⟩, q7⟩, q8⟩ := k p l e s m args below meth c A H locs cells slots ls S T hT X
  exact ⟨t, q1, o, q2, q3, ⟨⟨v, h', q4, hp v h' q5, q6⟩, q7⟩, q8⟩
/-- small numbers of the memory -/
def nS (s : Mem) : Nat := (s.1 0).toNatClampNeg
def nO (s : Mem) : Nat := (s.1 8).toNatClampNeg
def nf (s : Mem) (i : Nat) : Nat := (s.2 2 i).toNatClampNeg
def sh (s : Mem) (o : Nat) : Nat := (s.2 9 o).toNatClampNeg
def IvS (s : Mem) : Prop := s.1 0 = nI (nS s) ∧ nS s ≤ 10 ∧ (∀ i, i < nS s → s.2 2 i = nI (nf s i) ∧ nf s i ≤ 8) ∧ (∀ i, i < nS s → s.2 1 i = -1 ∨ ∃ k, k < i ∧ s.2 1 i = nI k)
def IvO (s : Mem) : Prop := s.1 8 = nI (nO s) ∧ nO s ≤ 60 ∧ (∀ o, o < nO s → s.2 9 o = nI (sh s o) ∧ sh s o < nS s)
/-- 1, 0 -/
noncomputable def b01 (p : Prop) : Int32 := @ite _ p (Classical.propDecidable p) 1 0
theorem b01_t {p : Prop} (h : p) : b01 p = 1 := if_pos h
theorem b01_f {p : Prop} (h : ¬ p) : b01 p = 0 := if_neg h
theorem b01_or (p : Prop) : b01 p = 0 ∨ b01 p = 1 := (Classical.em p).elim (fun h => Or.inr (b01_t h)) (fun h => Or.inl (b01_f h))
theorem b01_ne {p : Prop} (h : ¬ b01 p = 0) : p := Classical.byContradiction fun q => h (b01_f q)
theorem b01_e {p : Prop} (h : b01 p = 0) : ¬ p := fun q => by rw [b01_t q] at h; exact absurd h (by decide)
theorem b01_i {p q : Prop} (h : p ↔ q) : b01 p = b01 q := by rw [propext h]
theorem sw_out {x : Int32} {n : Nat} (h : ∀ k : Nat, k ≤ n → ¬ x = nI k) : x.toInt < 0 ∨ (n : Int) < x.toInt := by
  rcases Int.lt_or_le x.toInt 0 with q | q
  · exact Or.inl q
  rcases Int.lt_or_le (n : Int) x.toInt with q2 | q2
  · exact Or.inr q2
  obtain ⟨j, hj, rfl⟩ := nI_of (x := x) (fun z => by rw [Int32.lt_iff_toInt_lt] at z; have : (0 : Int32).toInt = 0 := by decide
                                                     omega)
  rw [nI_toInt hj] at q2
  exact absurd rfl (h j (by omega))
/-- from 0 to one below n: an index -/
theorem ix_of {v x : Int32} {n : Nat} (hx : x = nI n) (hn : n < 1000000) (h : 0 ≤ v ∧ v ≤ x - 1) : ∃ i, i < n ∧ v = nI i := by
  subst hx
  obtain ⟨h1, h2⟩ := h
  obtain ⟨j, hj, rfl⟩ := nI_of (x := v) (fun q => by simp only [Int32.le_iff_toInt_le, Int32.lt_iff_toInt_lt] at *; omega)
  refine ⟨j, ?_, rfl⟩
  rw [Int32.le_iff_toInt_le] at h2
  rw [show (1 : Int32) = nI 1 from rfl, pk_sub_toInt (by omega) (by decide), nI_toInt hj] at h2
  omega
theorem ix_no {v x : Int32} {n : Nat} (hx : x = nI n) (hn : n < 1000000) (h : ¬ (0 ≤ v ∧ v ≤ x - 1)) : ∀ i, i < n → v ≠ nI i := by
  subst hx
  rintro i hi rfl
  refine h ⟨nI_pos' (by omega), ?_⟩
  rw [Int32.le_iff_toInt_le, show (1 : Int32) = nI 1 from rfl, pk_sub_toInt (by omega) (by decide), nI_toInt (by omega)]
  omega
/-- in(v, low, high) -/
theorem sp_md_in (G : Gk) (h : Hp) (v a b : Int32) : Ct G md_in [.int v, .int a, .int b] h (pI fun r h' => h = h' ∧ r = b01 (a ≤ v ∧ v ≤ b)) := by
  refine Ct.ofL (M := md_in) (lv := [some (.int v), some (.int a), some (.int b)]) mdf_md_in rfl (Nat.le_of_ble_eq_true rfl) rfl ?_
  refine V_iload_n d_md_in_0 rfl rfl ?_
  refine V_iload_n d_md_in_1 rfl rfl ?_
  refine V_icmp_lt d_md_in_2 (fun c2 => ?_) (fun c2 => ?_)
  · skip
    refine V_iconst (v := 0) d_md_in_14 (by decide) ?_
    refine V_zreturn d_md_in_15 rfl (by first | exact Or.inl rfl | exact Or.inr rfl) ?_
    refine ⟨_, rfl, rfl, ?_⟩
    simp only [Int32.le_iff_toInt_le, Int32.lt_iff_toInt_lt, b01] at *
    split <;> first | rfl | (exfalso; omega)
  · skip
    refine V_iload_n d_md_in_5 rfl rfl ?_
    refine V_iload_n d_md_in_6 rfl rfl ?_
    refine V_icmp_gt d_md_in_7 (fun c7 => ?_) (fun c7 => ?_)
    · skip
      refine V_iconst (v := 0) d_md_in_14 (by decide) ?_
      refine V_zreturn d_md_in_15 rfl (by first | exact Or.inl rfl | exact Or.inr rfl) ?_
      refine ⟨_, rfl, rfl, ?_⟩
      simp only [Int32.le_iff_toInt_le, Int32.lt_iff_toInt_lt, b01] at *
      split <;> first | rfl | (exfalso; omega)
    · skip
      refine V_iconst (v := 1) d_md_in_10 (by decide) ?_
      refine V_goto d_md_in_11 ?_
      refine V_zreturn d_md_in_15 rfl (by first | exact Or.inl rfl | exact Or.inr rfl) ?_
      refine ⟨_, rfl, rfl, ?_⟩
      simp only [Int32.le_iff_toInt_le, Int32.lt_iff_toInt_lt, b01] at *
      split <;> first | rfl | (exfalso; omega)
theorem sp_md_isShape (G : Gk) {h : Hp} {m : Nat} {am : Nat → Nat} {s : Mem} (r : RepM h m am s) (v : Int32) : Ct G md_isShape [.ref m, .int v] h (pI fun r h' => h = h' ∧ r = b01 (0 ≤ v ∧ v ≤ s.1 0 - 1)) := by
  have h0 := r.obj
  refine Ct.ofL (M := md_isShape) (lv := [some (.ref m), some (.int v)]) mdf_md_isShape rfl (Nat.le_of_ble_eq_true rfl) rfl ?_
  refine V_iload_n d_md_isShape_0 rfl rfl ?_
  refine V_iconst (v := 0) d_md_isShape_1 (by decide) ?_
  refine V_aload_n d_md_isShape_2 rfl rfl ?_
  refine V_getf d_md_isShape_3 fl_md_110 r.obj rfl ?_
  refine V_iconst (v := 1) d_md_isShape_6 (by decide) ?_
  refine V_isub d_md_isShape_7 ?_
  refine V_callS (N := md_in) d_md_isShape_8 ml_md_114 mdf_md_in ws_md_in (sp_md_in G _ _ _ _) rfl rfl (by decide) (by decide) (Nat.le_of_ble_eq_true rfl) rfl rfl (kI fun r8 h8 ⟨e8, f8⟩ => ?_)
  subst e8 f8
  refine V_zreturn d_md_isShape_11 rfl (b01_or _) ?_
  exact ⟨_, rfl, rfl, rfl⟩
theorem sp_md_isObject (G : Gk) {h : Hp} {m : Nat} {am : Nat → Nat} {s : Mem} (r : RepM h m am s) (v : Int32) : Ct G md_isObject [.ref m, .int v] h (pI fun r h' => h = h' ∧ r = b01 (0 ≤ v ∧ v ≤ s.1 8 - 1)) := by
  have h0 := r.obj
  refine Ct.ofL (M := md_isObject) (lv := [some (.ref m), some (.int v)]) mdf_md_isObject rfl (Nat.le_of_ble_eq_true rfl) rfl ?_
  refine V_iload_n d_md_isObject_0 rfl rfl ?_
  refine V_iconst (v := 0) d_md_isObject_1 (by decide) ?_
  refine V_aload_n d_md_isObject_2 rfl rfl ?_
  refine V_getf d_md_isObject_3 fl_md_122 r.obj rfl ?_
  refine V_iconst (v := 1) d_md_isObject_6 (by decide) ?_
  refine V_isub d_md_isObject_7 ?_
  refine V_callS (N := md_in) d_md_isObject_8 ml_md_114 mdf_md_in ws_md_in (sp_md_in G _ _ _ _) rfl rfl (by decide) (by decide) (Nat.le_of_ble_eq_true rfl) rfl rfl (kI fun r8 h8 ⟨e8, f8⟩ => ?_)
  subst e8 f8
  refine V_zreturn d_md_isObject_11 rfl (b01_or _) ?_
  exact ⟨_, rfl, rfl, rfl⟩
theorem sp_md_at (G : Gk) (h : Hp) (m o f : Nat) : Ct G md_at [.ref m, .int (nI o), .int (nI f)] h (pI fun r h' => h = h' ∧ r = nI (8 * o + f)) := by
  refine Ct.ofL (M := md_at) (lv := [some (.ref m), some (.int (nI o)), some (.int (nI f))]) mdf_md_at rfl (Nat.le_of_ble_eq_true rfl) rfl ?_
  refine V_bipush (v := 8) d_md_at_0 (by decide) ?_
  refine V_iload_n d_md_at_2 rfl rfl ?_
  refine V_imul d_md_at_3 ?_
  refine V_iload_n d_md_at_4 rfl rfl ?_
  refine V_iadd d_md_at_5 ?_
  refine V_ireturn d_md_at_6 rfl ?_
  exact ⟨_, rfl, rfl, ix8 _ _⟩
theorem sp_md_by (G : Gk) {h : Hp} {m : Nat} {am : Nat → Nat} {s : Mem} (r : RepM h m am s) (o f : Nat) (ho : IvO s ∧ o < nO s) : Ct G md_by [.ref m, .int (nI o), .int (nI f)] h (pI fun r h' => h = h' ∧ r = nI (8 * sh s o + f)) := by
  have h0 := r.obj
  obtain ⟨⟨-, h60, hsh⟩, ho⟩ := ho
  refine Ct.ofL (M := md_by) (lv := [some (.ref m), some (.int (nI o)), some (.int (nI f))]) mdf_md_by rfl (Nat.le_of_ble_eq_true rfl) rfl ?_
  refine V_bipush (v := 8) d_md_by_0 (by decide) ?_
  refine V_aload_n d_md_by_2 rfl rfl ?_
  refine V_getf d_md_by_3 fl_md_31 r.obj rfl ?_
  refine V_iload_n d_md_by_6 rfl rfl ?_
  refine V_mald r d_md_by_7 (by first | with_reducible rfl | exact ix8 _ _ | exact ix6 _ _ | assumption) rfl rfl (by show _ < 60; omega) ?_
  rw [(hsh o ho).1]
  refine V_imul d_md_by_8 ?_
  refine V_iload_n d_md_by_9 rfl rfl ?_
  refine V_iadd d_md_by_10 ?_
  refine V_ireturn d_md_by_11 rfl ?_
  exact ⟨_, rfl, rfl, ix8 _ _⟩
