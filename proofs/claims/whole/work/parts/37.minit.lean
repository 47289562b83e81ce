/-! the reference's constructor -/
def s0M : Mem := (fun _ => 0, fun _ _ => 0)
/-- while it is built: the fields, the arrays made, all else as it was -/
def In (h0 : Hp) (x : Nat) (h : Hp) (fs : List Value) (D : List Pr2) : Prop := h x = some (13, fs) ∧ (∀ p, p ∈ D → h p.2 = some (kA p.1, arrL (mlen p.1) (fun _ => 0)) ∧ h0 p.2 = none ∧ p.2 ≠ x) ∧ (∀ p p', p ∈ D → p' ∈ D → p.2 = p'.2 → p = p') ∧ ∀ a, a ≠ x → (∀ p, p ∈ D → a ≠ p.2) → h a = h0 a
theorem In.step {h0 h : Hp} {x j q : Nat} {fs : List Value} {D : List Pr2} (I : In h0 x h fs D) (hq : h q = none) : In h0 x (hu (hu h q (kA j, List.replicate (mlen j) (.int 0))) x (13, fs.set j (.ref q))) (fs.set j (.ref q)) ((j, q) :: D) := by
  obtain ⟨h1, h2, h3, h4⟩ := I
  have nx : q ≠ x := fun e => by rw [e, h1] at hq; cases hq
  have nD : ∀ p, p ∈ D → p.2 ≠ q := fun p hp e => by have := (h2 p hp).1; rw [e, hq] at this; cases this
  refine ⟨hu_self _ _ _, fun p hp => ?_, fun p p' hp hp' e => ?_, fun a ha hD => ?_⟩
  · rcases List.mem_cons.mp hp with rfl | hp
    · refine ⟨?_, ?_, nx⟩
      · rw [hu_ne _ _ nx, hu_self, arrL_rep]
      · rw [← h4 q nx (fun p hp => Ne.symm (nD p hp))]; exact hq
    · rw [hu_ne _ _ (h2 p hp).2.2, hu_ne _ _ (nD p hp)]; exact h2 p hp
  · rcases List.mem_cons.mp hp with rfl | hp <;> rcases List.mem_cons.mp hp' with rfl | hp'
    · rfl
    · exact absurd e.symm (nD p' hp')
    · exact absurd e (nD p hp)
    · exact h3 p p' hp hp' e
  · rw [hu_ne _ _ ha, hu_ne _ _ (hD (j, q) (List.mem_cons_self ..))]
    exact h4 a ha (fun p hp => hD p (List.mem_cons_of_mem _ hp))
section Rows
variable {G : Gk} {M : MI} {post : Option Value → Hp → Prop} {h h0 : Hp} {cr sr pc pc1 pc2 : Nat} {lv : List (Option Value)} {st : List Value} {x : Nat} {fs : List Value} {D : List Pr2}
theorem mlen_le (j : Nat) : mlen j ≤ 100000 := by unfold mlen; split <;> decide
theorem V_mkI {j idx : Nat} {xv : Int32} {ty : FieldType} (I : In h0 x h fs D) (d1 : DC M.2.1 pc (.newarray .int) 2 pc1) (d2 : DC M.2.1 pc1 (.putfield idx) 3 pc2) (fp : FP M.1.cls idx 13 j ty true) (hini : M.1.name = "<init>") (hn : ∀ q, narrow ty (.ref q) = .ref q) (hfit : ∀ q, fits ty (.ref q) = true) {{n : Nat}} (hm : mlen j = n) (hx : xv = nI n) (hk : kA j = 20) (kk : ∀ h' q, In h0 x h' (fs.set j (.ref q)) ((j, q) :: D) → V G M post h' cr sr pc2 lv st) : V G M post h (cr + 1) (sr + n) pc lv (.int xv :: .ref x :: st) := by
  subst hm
  refine V_newI (mlen j) d1 hx (mlen_le j) (fun q hq => ?_)
  refine V_putF d2 fp hini (hn q) (hfit q) (by rw [hu_ne _ _ (fun e => by rw [← e, I.1] at hq; cases hq)]; exact I.1) ?_
  have := I.step (j := j) hq
  rw [hk] at this
  exact kk _ q this
theorem V_mkZ {j idx : Nat} {xv : Int32} {ty : FieldType} (I : In h0 x h fs D) (d1 : DC M.2.1 pc (.newarray .boolean) 2 pc1) (d2 : DC M.2.1 pc1 (.putfield idx) 3 pc2) (fp : FP M.1.cls idx 13 j ty true) (hini : M.1.name = "<init>") (hn : ∀ q, narrow ty (.ref q) = .ref q) (hfit : ∀ q, fits ty (.ref q) = true) {{n : Nat}} (hm : mlen j = n) (hx : xv = nI n) (hk : kA j = 21) (kk : ∀ h' q, In h0 x h' (fs.set j (.ref q)) ((j, q) :: D) → V G M post h' cr sr pc2 lv st) : V G M post h (cr + 1) (sr + n) pc lv (.int xv :: .ref x :: st) := by
  subst hm
  refine V_newZ (mlen j) d1 hx (mlen_le j) (fun q hq => ?_)
  refine V_putF d2 fp hini (hn q) (hfit q) (by rw [hu_ne _ _ (fun e => by rw [← e, I.1] at hq; cases hq)]; exact I.1) ?_
  have := I.step (j := j) hq
  rw [hk] at this
  exact kk _ q this
theorem V.need {cr2 sr2 : Nat} (k : V G M post h cr sr pc lv st) (h1 : cr ≤ cr2) (h2 : sr ≤ sr2) : V G M post h cr2 sr2 pc lv st := by
  intro p l e s m args below meth c A H locs cells slots ls S
  obtain ⟨C0, hH, hD, hS, hb, hl0⟩ := S
  exact k p l e s m args below meth c A H locs cells slots ls ⟨C0, hH, hD, hS, by omega, hl0⟩
end Rows
def amD (D : List Pr2) (j : Nat) : Nat := match D.find? (fun p => p.1 == j) with
  | some p => p.2
  | none => 0
theorem memD (q1 q2 q3 q4 q5 q6 q7 q9 q10 q11 q12 q13 q14 q17 q18 q19 q22 q26 q27 q28 q29 q30 q31 q32 q34 q35 q36 q38 q39 q41 q42 q43 q44 : Nat) : ∀ j, isA j = true → (j, amD [(44, q44), (43, q43), (42, q42), (41, q41), (39, q39), (38, q38), (36, q36), (35, q35), (34, q34), (32, q32), (31, q31), (30, q30), (29, q29), (28, q28), (27, q27), (26, q26), (22, q22), (19, q19), (18, q18), (17, q17), (14, q14), (13, q13), (12, q12), (11, q11), (10, q10), (9, q9), (7, q7), (6, q6), (5, q5), (4, q4), (3, q3), (2, q2), (1, q1)] j) ∈ [(44, q44), (43, q43), (42, q42), (41, q41), (39, q39), (38, q38), (36, q36), (35, q35), (34, q34), (32, q32), (31, q31), (30, q30), (29, q29), (28, q28), (27, q27), (26, q26), (22, q22), (19, q19), (18, q18), (17, q17), (14, q14), (13, q13), (12, q12), (11, q11), (10, q10), (9, q9), (7, q7), (6, q6), (5, q5), (4, q4), (3, q3), (2, q2), (1, q1)]
  | 0, h => absurd h (by decide)
  | 1, _ => List.mem_of_getElem? (i := 32) rfl
  | 2, _ => List.mem_of_getElem? (i := 31) rfl
  | 3, _ => List.mem_of_getElem? (i := 30) rfl
  | 4, _ => List.mem_of_getElem? (i := 29) rfl
  | 5, _ => List.mem_of_getElem? (i := 28) rfl
  | 6, _ => List.mem_of_getElem? (i := 27) rfl
  | 7, _ => List.mem_of_getElem? (i := 26) rfl
  | 8, h => absurd h (by decide)
  | 9, _ => List.mem_of_getElem? (i := 25) rfl
  | 10, _ => List.mem_of_getElem? (i := 24) rfl
  | 11, _ => List.mem_of_getElem? (i := 23) rfl
  | 12, _ => List.mem_of_getElem? (i := 22) rfl
  | 13, _ => List.mem_of_getElem? (i := 21) rfl
  | 14, _ => List.mem_of_getElem? (i := 20) rfl
  | 15, h => absurd h (by decide)
  | 16, h => absurd h (by decide)
  | 17, _ => List.mem_of_getElem? (i := 19) rfl
  | 18, _ => List.mem_of_getElem? (i := 18) rfl
  | 19, _ => List.mem_of_getElem? (i := 17) rfl
  | 20, h => absurd h (by decide)
  | 21, h => absurd h (by decide)
  | 22, _ => List.mem_of_getElem? (i := 16) rfl
  | 23, h => absurd h (by decide)
  | 24, h => absurd h (by decide)
  | 25, h => absurd h (by decide)
  | 26, _ => List.mem_of_getElem? (i := 15) rfl
  | 27, _ => List.mem_of_getElem? (i := 14) rfl
  | 28, _ => List.mem_of_getElem? (i := 13) rfl
  | 29, _ => List.mem_of_getElem? (i := 12) rfl
  | 30, _ => List.mem_of_getElem? (i := 11) rfl
  | 31, _ => List.mem_of_getElem? (i := 10) rfl
  | 32, _ => List.mem_of_getElem? (i := 9) rfl
  | 33, h => absurd h (by decide)
  | 34, _ => List.mem_of_getElem? (i := 8) rfl
  | 35, _ => List.mem_of_getElem? (i := 7) rfl
  | 36, _ => List.mem_of_getElem? (i := 6) rfl
  | 37, h => absurd h (by decide)
  | 38, _ => List.mem_of_getElem? (i := 5) rfl
  | 39, _ => List.mem_of_getElem? (i := 4) rfl
  | 40, h => absurd h (by decide)
  | 41, _ => List.mem_of_getElem? (i := 3) rfl
  | 42, _ => List.mem_of_getElem? (i := 2) rfl
  | 43, _ => List.mem_of_getElem? (i := 1) rfl
  | 44, _ => List.mem_of_getElem? (i := 0) rfl
  | 45, h => absurd h (by decide)
  | j + 46, h => absurd h (by simp [isA, mlen])
theorem dfl13 : dfl 13 = [.int 0, .null, .null, .null, .null, .null, .null, .null, .int 0, .null, .null, .null, .null, .null, .null, .int 0, .int 0, .null, .null, .null, .int 0, .int 0, .null, .int 0, .int 0, .int 0, .null, .null, .null, .null, .null, .null, .null, .int 0, .null, .null, .null, .int 0, .null, .null, .int 0, .null, .null, .null, .null, .int 0] := by decide
theorem sp_md_init (G : Gk) {h : Hp} {x : Nat} (hx : h x = some (13, dfl 13)) : Ct G md_init [.ref x] h (pN fun h' => ∃ am, RepM h' x am s0M ∧ (∀ j, isA j = true → h (am j) = none) ∧ ∀ a, a ≠ x → h a ≠ none → h' a = h a) := by
  rw [dfl13] at hx
  have I0 : In h x h _ [] := ⟨hx, fun p hp => by simp at hp, fun p p' hp => by simp at hp, fun _ _ _ => rfl⟩
  refine Ct.ofL (M := md_init) (lv := [some (.ref x)]) mdf_md_init rfl (Nat.le_of_ble_eq_true rfl) rfl ?_
  refine V.need (cr := 60) (sr := 26000) ?_ (Nat.le_of_ble_eq_true rfl) (Nat.le_of_ble_eq_true rfl)
  refine V_aload_n d_md_init_0 rfl rfl ?_
  refine V_objinit d_md_init_1 ml_md_1 (by decide) (Nat.le_of_ble_eq_true rfl) ?_
  refine V_aload_n d_md_init_4 rfl rfl ?_
  refine V_bipush (v := 10) d_md_init_5 (by decide) ?_
  refine V_mkI (M := md_init) (n := 10) (cr := 59) (sr := 25990) (j := 1) I0 d_md_init_7 d_md_init_9 fp_md_7 rfl (fun _ => rfl) (fun _ => rfl) rfl rfl rfl (fun h1 q1 I1 => ?_)
  clear I0
  dsimp only [List.set] at I1
  refine V_aload_n d_md_init_12 rfl rfl ?_
  refine V_bipush (v := 10) d_md_init_13 (by decide) ?_
  refine V_mkI (M := md_init) (n := 10) (cr := 58) (sr := 25980) (j := 2) I1 d_md_init_15 d_md_init_17 fp_md_13 rfl (fun _ => rfl) (fun _ => rfl) rfl rfl rfl (fun h2 q2 I2 => ?_)
  clear I1
  dsimp only [List.set] at I2
  refine V_aload_n d_md_init_20 rfl rfl ?_
  refine V_bipush (v := 80) d_md_init_21 (by decide) ?_
  refine V_mkI (M := md_init) (n := 80) (cr := 57) (sr := 25900) (j := 3) I2 d_md_init_23 d_md_init_25 fp_md_16 rfl (fun _ => rfl) (fun _ => rfl) rfl rfl rfl (fun h3 q3 I3 => ?_)
  clear I2
  dsimp only [List.set] at I3
  refine V_aload_n d_md_init_28 rfl rfl ?_
  refine V_bipush (v := 80) d_md_init_29 (by decide) ?_
  refine V_mkI (M := md_init) (n := 80) (cr := 56) (sr := 25820) (j := 4) I3 d_md_init_31 d_md_init_33 fp_md_19 rfl (fun _ => rfl) (fun _ => rfl) rfl rfl rfl (fun h4 q4 I4 => ?_)
  clear I3
  dsimp only [List.set] at I4
  refine V_aload_n d_md_init_36 rfl rfl ?_
  refine V_bipush (v := 80) d_md_init_37 (by decide) ?_
  refine V_mkI (M := md_init) (n := 80) (cr := 55) (sr := 25740) (j := 5) I4 d_md_init_39 d_md_init_41 fp_md_22 rfl (fun _ => rfl) (fun _ => rfl) rfl rfl rfl (fun h5 q5 I5 => ?_)
  clear I4
  dsimp only [List.set] at I5
  refine V_aload_n d_md_init_44 rfl rfl ?_
  refine V_bipush (v := 80) d_md_init_45 (by decide) ?_
  refine V_mkI (M := md_init) (n := 80) (cr := 54) (sr := 25660) (j := 6) I5 d_md_init_47 d_md_init_49 fp_md_25 rfl (fun _ => rfl) (fun _ => rfl) rfl rfl rfl (fun h6 q6 I6 => ?_)
  clear I5
  dsimp only [List.set] at I6
  refine V_aload_n d_md_init_52 rfl rfl ?_
  refine V_bipush (v := 80) d_md_init_53 (by decide) ?_
  refine V_mkI (M := md_init) (n := 80) (cr := 53) (sr := 25580) (j := 7) I6 d_md_init_55 d_md_init_57 fp_md_28 rfl (fun _ => rfl) (fun _ => rfl) rfl rfl rfl (fun h7 q7 I7 => ?_)
  clear I6
  dsimp only [List.set] at I7
  refine V_aload_n d_md_init_60 rfl rfl ?_
  refine V_bipush (v := 60) d_md_init_61 (by decide) ?_
  refine V_mkI (M := md_init) (n := 60) (cr := 52) (sr := 25520) (j := 9) I7 d_md_init_63 d_md_init_65 fp_md_31 rfl (fun _ => rfl) (fun _ => rfl) rfl rfl rfl (fun h9 q9 I9 => ?_)
  clear I7
  dsimp only [List.set] at I9
  refine V_aload_n d_md_init_68 rfl rfl ?_
  refine V_sipush (v := 480) d_md_init_69 (by decide) ?_
  refine V_mkI (M := md_init) (n := 480) (cr := 51) (sr := 25040) (j := 10) I9 d_md_init_72 d_md_init_74 fp_md_34 rfl (fun _ => rfl) (fun _ => rfl) rfl rfl rfl (fun h10 q10 I10 => ?_)
  clear I9
  dsimp only [List.set] at I10
  refine V_aload_n d_md_init_77 rfl rfl ?_
  refine V_sipush (v := 2880) d_md_init_78 (by decide) ?_
  refine V_mkI (M := md_init) (n := 2880) (cr := 50) (sr := 22160) (j := 11) I10 d_md_init_81 d_md_init_83 fp_md_37 rfl (fun _ => rfl) (fun _ => rfl) rfl rfl rfl (fun h11 q11 I11 => ?_)
  clear I10
  dsimp only [List.set] at I11
  refine V_aload_n d_md_init_86 rfl rfl ?_
  refine V_bipush (v := 8) d_md_init_87 (by decide) ?_
  refine V_mkI (M := md_init) (n := 8) (cr := 49) (sr := 22152) (j := 12) I11 d_md_init_89 d_md_init_91 fp_md_40 rfl (fun _ => rfl) (fun _ => rfl) rfl rfl rfl (fun h12 q12 I12 => ?_)
  clear I11
  dsimp only [List.set] at I12
  refine V_aload_n d_md_init_94 rfl rfl ?_
  refine V_bipush (v := 60) d_md_init_95 (by decide) ?_
  refine V_mkI (M := md_init) (n := 60) (cr := 48) (sr := 22092) (j := 13) I12 d_md_init_97 d_md_init_99 fp_md_43 rfl (fun _ => rfl) (fun _ => rfl) rfl rfl rfl (fun h13 q13 I13 => ?_)
  clear I12
  dsimp only [List.set] at I13
  refine V_aload_n d_md_init_102 rfl rfl ?_
  refine V_bipush (v := 60) d_md_init_103 (by decide) ?_
  refine V_mkI (M := md_init) (n := 60) (cr := 47) (sr := 22032) (j := 14) I13 d_md_init_105 d_md_init_107 fp_md_46 rfl (fun _ => rfl) (fun _ => rfl) rfl rfl rfl (fun h14 q14 I14 => ?_)
  clear I13
  dsimp only [List.set] at I14
  refine V_aload_n d_md_init_110 rfl rfl ?_
  refine V_sipush (v := 700) d_md_init_111 (by decide) ?_
  refine V_mkI (M := md_init) (n := 700) (cr := 46) (sr := 21332) (j := 17) I14 d_md_init_114 d_md_init_116 fp_md_49 rfl (fun _ => rfl) (fun _ => rfl) rfl rfl rfl (fun h17 q17 I17 => ?_)
  clear I14
  dsimp only [List.set] at I17
  refine V_aload_n d_md_init_119 rfl rfl ?_
  refine V_sipush (v := 4900) d_md_init_120 (by decide) ?_
  refine V_mkI (M := md_init) (n := 4900) (cr := 45) (sr := 16432) (j := 18) I17 d_md_init_123 d_md_init_125 fp_md_52 rfl (fun _ => rfl) (fun _ => rfl) rfl rfl rfl (fun h18 q18 I18 => ?_)
  clear I17
  dsimp only [List.set] at I18
  refine V_aload_n d_md_init_128 rfl rfl ?_
  refine V_sipush (v := 4900) d_md_init_129 (by decide) ?_
  refine V_mkI (M := md_init) (n := 4900) (cr := 44) (sr := 11532) (j := 19) I18 d_md_init_132 d_md_init_134 fp_md_55 rfl (fun _ => rfl) (fun _ => rfl) rfl rfl rfl (fun h19 q19 I19 => ?_)
  clear I18
  dsimp only [List.set] at I19
  refine V_aload_n d_md_init_137 rfl rfl ?_
  refine V_bipush (v := 61) d_md_init_138 (by decide) ?_
  refine V_mkI (M := md_init) (n := 61) (cr := 43) (sr := 11471) (j := 22) I19 d_md_init_140 d_md_init_142 fp_md_58 rfl (fun _ => rfl) (fun _ => rfl) rfl rfl rfl (fun h22 q22 I22 => ?_)
  clear I19
  dsimp only [List.set] at I22
  refine V_aload_n d_md_init_145 rfl rfl ?_
  refine V_bipush (v := 10) d_md_init_146 (by decide) ?_
  refine V_mkI (M := md_init) (n := 10) (cr := 42) (sr := 11461) (j := 26) I22 d_md_init_148 d_md_init_150 fp_md_61 rfl (fun _ => rfl) (fun _ => rfl) rfl rfl rfl (fun h26 q26 I26 => ?_)
  clear I22
  dsimp only [List.set] at I26
  refine V_aload_n d_md_init_153 rfl rfl ?_
  refine V_bipush (v := 10) d_md_init_154 (by decide) ?_
  refine V_mkI (M := md_init) (n := 10) (cr := 41) (sr := 11451) (j := 27) I26 d_md_init_156 d_md_init_158 fp_md_64 rfl (fun _ => rfl) (fun _ => rfl) rfl rfl rfl (fun h27 q27 I27 => ?_)
  clear I26
  dsimp only [List.set] at I27
  refine V_aload_n d_md_init_161 rfl rfl ?_
  refine V_bipush (v := 10) d_md_init_162 (by decide) ?_
  refine V_mkZ (M := md_init) (n := 10) (cr := 40) (sr := 11441) (j := 28) I27 d_md_init_164 d_md_init_166 fp_md_67 rfl (fun _ => rfl) (fun _ => rfl) rfl rfl rfl (fun h28 q28 I28 => ?_)
  clear I27
  dsimp only [List.set] at I28
  refine V_aload_n d_md_init_169 rfl rfl ?_
  refine V_bipush (v := 10) d_md_init_170 (by decide) ?_
  refine V_mkI (M := md_init) (n := 10) (cr := 39) (sr := 11431) (j := 29) I28 d_md_init_172 d_md_init_174 fp_md_71 rfl (fun _ => rfl) (fun _ => rfl) rfl rfl rfl (fun h29 q29 I29 => ?_)
  clear I28
  dsimp only [List.set] at I29
  refine V_aload_n d_md_init_177 rfl rfl ?_
  refine V_bipush (v := 10) d_md_init_178 (by decide) ?_
  refine V_mkI (M := md_init) (n := 10) (cr := 38) (sr := 11421) (j := 30) I29 d_md_init_180 d_md_init_182 fp_md_74 rfl (fun _ => rfl) (fun _ => rfl) rfl rfl rfl (fun h30 q30 I30 => ?_)
  clear I29
  dsimp only [List.set] at I30
  refine V_aload_n d_md_init_185 rfl rfl ?_
  refine V_sipush (v := 1200) d_md_init_186 (by decide) ?_
  refine V_mkI (M := md_init) (n := 1200) (cr := 37) (sr := 10221) (j := 31) I30 d_md_init_189 d_md_init_191 fp_md_77 rfl (fun _ => rfl) (fun _ => rfl) rfl rfl rfl (fun h31 q31 I31 => ?_)
  clear I30
  dsimp only [List.set] at I31
  refine V_aload_n d_md_init_194 rfl rfl ?_
  refine V_bipush (v := 6) d_md_init_195 (by decide) ?_
  refine V_mkI (M := md_init) (n := 6) (cr := 36) (sr := 10215) (j := 32) I31 d_md_init_197 d_md_init_199 fp_md_80 rfl (fun _ => rfl) (fun _ => rfl) rfl rfl rfl (fun h32 q32 I32 => ?_)
  clear I31
  dsimp only [List.set] at I32
  refine V_aload_n d_md_init_202 rfl rfl ?_
  refine V_bipush (v := 16) d_md_init_203 (by decide) ?_
  refine V_mkI (M := md_init) (n := 16) (cr := 35) (sr := 10199) (j := 34) I32 d_md_init_205 d_md_init_207 fp_md_83 rfl (fun _ => rfl) (fun _ => rfl) rfl rfl rfl (fun h34 q34 I34 => ?_)
  clear I32
  dsimp only [List.set] at I34
  refine V_aload_n d_md_init_210 rfl rfl ?_
  refine V_bipush (v := 80) d_md_init_211 (by decide) ?_
  refine V_mkI (M := md_init) (n := 80) (cr := 34) (sr := 10119) (j := 35) I34 d_md_init_213 d_md_init_215 fp_md_86 rfl (fun _ => rfl) (fun _ => rfl) rfl rfl rfl (fun h35 q35 I35 => ?_)
  clear I34
  dsimp only [List.set] at I35
  refine V_aload_n d_md_init_218 rfl rfl ?_
  refine V_bipush (v := 80) d_md_init_219 (by decide) ?_
  refine V_mkI (M := md_init) (n := 80) (cr := 33) (sr := 10039) (j := 36) I35 d_md_init_221 d_md_init_223 fp_md_89 rfl (fun _ => rfl) (fun _ => rfl) rfl rfl rfl (fun h36 q36 I36 => ?_)
  clear I35
  dsimp only [List.set] at I36
  refine V_aload_n d_md_init_226 rfl rfl ?_
  refine V_sipush (v := 600) d_md_init_227 (by decide) ?_
  refine V_mkI (M := md_init) (n := 600) (cr := 32) (sr := 9439) (j := 38) I36 d_md_init_230 d_md_init_232 fp_md_92 rfl (fun _ => rfl) (fun _ => rfl) rfl rfl rfl (fun h38 q38 I38 => ?_)
  clear I36
  dsimp only [List.set] at I38
  refine V_aload_n d_md_init_235 rfl rfl ?_
  refine V_sipush (v := 600) d_md_init_236 (by decide) ?_
  refine V_mkI (M := md_init) (n := 600) (cr := 31) (sr := 8839) (j := 39) I38 d_md_init_239 d_md_init_241 fp_md_95 rfl (fun _ => rfl) (fun _ => rfl) rfl rfl rfl (fun h39 q39 I39 => ?_)
  clear I38
  dsimp only [List.set] at I39
  refine V_aload_n d_md_init_244 rfl rfl ?_
  refine V_sipush (v := 600) d_md_init_245 (by decide) ?_
  refine V_mkI (M := md_init) (n := 600) (cr := 30) (sr := 8239) (j := 41) I39 d_md_init_248 d_md_init_250 fp_md_98 rfl (fun _ => rfl) (fun _ => rfl) rfl rfl rfl (fun h41 q41 I41 => ?_)
  clear I39
  dsimp only [List.set] at I41
  refine V_aload_n d_md_init_253 rfl rfl ?_
  refine V_sipush (v := 600) d_md_init_254 (by decide) ?_
  refine V_mkI (M := md_init) (n := 600) (cr := 29) (sr := 7639) (j := 42) I41 d_md_init_257 d_md_init_259 fp_md_101 rfl (fun _ => rfl) (fun _ => rfl) rfl rfl rfl (fun h42 q42 I42 => ?_)
  clear I41
  dsimp only [List.set] at I42
  refine V_aload_n d_md_init_262 rfl rfl ?_
  refine V_sipush (v := 3600) d_md_init_263 (by decide) ?_
  refine V_mkI (M := md_init) (n := 3600) (cr := 28) (sr := 4039) (j := 43) I42 d_md_init_266 d_md_init_268 fp_md_104 rfl (fun _ => rfl) (fun _ => rfl) rfl rfl rfl (fun h43 q43 I43 => ?_)
  clear I42
  dsimp only [List.set] at I43
  refine V_aload_n d_md_init_271 rfl rfl ?_
  refine V_sipush (v := 3600) d_md_init_272 (by decide) ?_
  refine V_mkZ (M := md_init) (n := 3600) (cr := 27) (sr := 439) (j := 44) I43 d_md_init_275 d_md_init_277 fp_md_107 rfl (fun _ => rfl) (fun _ => rfl) rfl rfl rfl (fun h44 q44 I44 => ?_)
  clear I43
  dsimp only [List.set] at I44
  refine V_return d_md_init_280 rfl ?_
  obtain ⟨a1, a2, a3, a4⟩ := I44
  have hm := memD q1 q2 q3 q4 q5 q6 q7 q9 q10 q11 q12 q13 q14 q17 q18 q19 q22 q26 q27 q28 q29 q30 q31 q32 q34 q35 q36 q38 q39 q41 q42 q43 q44
  refine ⟨rfl, amD [(44, q44), (43, q43), (42, q42), (41, q41), (39, q39), (38, q38), (36, q36), (35, q35), (34, q34), (32, q32), (31, q31), (30, q30), (29, q29), (28, q28), (27, q27), (26, q26), (22, q22), (19, q19), (18, q18), (17, q17), (14, q14), (13, q13), (12, q12), (11, q11), (10, q10), (9, q9), (7, q7), (6, q6), (5, q5), (4, q4), (3, q3), (2, q2), (1, q1)], ⟨a1, fun j hj => ?_, fun i j hi hj e => ?_⟩, fun j hj => ?_, fun a ha hn => ?_⟩
  · exact (a2 _ (hm j hj)).1
  · have := a3 _ _ (hm i hi) (hm j hj) e
    exact congrArg Prod.fst this
  · exact (a2 _ (hm j hj)).2.1
  · refine a4 a ha (fun p hp e => hn ?_)
    rw [e]
    exact (a2 p hp).2.1
