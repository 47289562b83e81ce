/-! the law, case by case (2) -/
theorem law_17 {G : Gk} {nm : String} {post : Option Value → Hp → Prop} {b L x m i n cr sr : Nat} {xs : Nat → Int32} {h : Hp} {s : Mem} (hL : L ≤ 3584) (hi : i + 6 < L) (hJ : LJ G b L xs x m h s) (I : Inv n s) (hn : n < 512) (K : ∀ h' t, LJ G b L xs x m h' t → Inv (n + 1) t → V G (la nm) post h' cr sr 1457 [some (.ref b), some (.ref x), some (.ref m), some (.int (nI i))] []) : V G (la nm) post h (cr + 600) (sr + 3480) 999 [some (.ref b), some (.ref x), some (.ref m), some (.int (nI i))] [] := by
  obtain ⟨g, am, rfl, R, Rm, hM, hb, hgb⟩ := hJ
  have IA := I.a hn
  refine V_exists (N := md_begin) d_la_law_1004 ml_la_92 mdf_md_begin wi_md_begin wz_md_begin (mc_begin G Rm IA) Rm.obj ⟨_, rfl, rfl⟩ rfl (Nat.le_of_ble_eq_true rfl) (by decide) rfl rfl (fun hE => ?_)
  obtain ⟨_, _, r0, _, t0, _, Q0⟩ := hE
  refine V.need (cr := cr + 2) (sr := sr + 4) ?_ (by omega) (by omega)
  refine V_aload_n d_la_law_999 rfl rfl ?_
  refine V_callV (N := fe_begin) d_la_law_1000 ml_la_88 mdf_fe_begin wi_fe_begin wz_fe_begin (xc_begin G R IA) R.1.1.1 ⟨_, rfl, rfl⟩ rfl rfl (Nat.le_of_ble_eq_true rfl) (by decide) (Nat.le_of_ble_eq_true rfl) rfl rfl (kI fun r1 h1 p1 => ?_)
  obtain ⟨g1, _, S1, _⟩ := (p1 r0 t0 Q0).2
  obtain ⟨Rm1, _⟩ := Rm.st hM S1
  have hb1 : h1 b = some (31, scrL L xs) := (S1.1 b (by rw [hb]; simp) hgb).1.trans hb
  refine V_aload_n d_la_law_1003 rfl rfl ?_
  refine V_callV (N := md_begin) d_la_law_1004 ml_la_92 mdf_md_begin wi_md_begin wz_md_begin (mc_begin G Rm1 IA) Rm1.obj ⟨_, rfl, rfl⟩ rfl rfl (Nat.le_of_ble_eq_true rfl) (by decide) (Nat.le_of_ble_eq_true rfl) rfl rfl (kI fun r2 h2 p2 => ?_)
  obtain ⟨t, M2, Q2⟩ := p2
  obtain ⟨e12, N2⟩ := p1 r2 t Q2
  have I2 : Inv (n + 1) t := I.begin Q2
  refine V_icmp_eq d_la_law_1007 (fun c => ?_) (fun c => absurd e12 c)
  exact K h2 t (LJ.next rfl Rm hM hb hgb I2.sm N2 M2) I2
theorem law_18 {G : Gk} {nm : String} {post : Option Value → Hp → Prop} {b L x m i n cr sr : Nat} {xs : Nat → Int32} {h : Hp} {s : Mem} (hL : L ≤ 3584) (hi : i + 6 < L) (hJ : LJ G b L xs x m h s) (I : Inv n s) (hn : n < 512) (K : ∀ h' t, LJ G b L xs x m h' t → Inv (n + 1) t → V G (la nm) post h' cr sr 1457 [some (.ref b), some (.ref x), some (.ref m), some (.int (nI i))] []) : V G (la nm) post h (cr + 600) (sr + 3480) 1012 [some (.ref b), some (.ref x), some (.ref m), some (.int (nI i))] [] := by
  obtain ⟨g, am, rfl, R, Rm, hM, hb, hgb⟩ := hJ
  have IA := I.a hn
  refine V_exists (N := md_commit) d_la_law_1017 ml_la_96 mdf_md_commit wi_md_commit wz_md_commit (mc_commit G Rm IA) Rm.obj ⟨_, rfl, rfl⟩ rfl (Nat.le_of_ble_eq_true rfl) (by decide) rfl rfl (fun hE => ?_)
  obtain ⟨_, _, r0, _, t0, _, Q0⟩ := hE
  refine V.need (cr := cr + 1) (sr := sr + 800) ?_ (by omega) (by omega)
  refine V_aload_n d_la_law_1012 rfl rfl ?_
  refine V_callV (N := fe_commit) d_la_law_1013 ml_la_93 mdf_fe_commit wi_fe_commit wz_fe_commit (xc_commit G R IA) R.1.1.1 ⟨_, rfl, rfl⟩ rfl rfl (Nat.le_of_ble_eq_true rfl) (by decide) (Nat.le_of_ble_eq_true rfl) rfl rfl (kI fun r1 h1 p1 => ?_)
  obtain ⟨g1, _, S1, _⟩ := (p1 r0 t0 Q0).2
  obtain ⟨Rm1, _⟩ := Rm.st hM S1
  have hb1 : h1 b = some (31, scrL L xs) := (S1.1 b (by rw [hb]; simp) hgb).1.trans hb
  refine V_aload_n d_la_law_1016 rfl rfl ?_
  refine V_callV (N := md_commit) d_la_law_1017 ml_la_96 mdf_md_commit wi_md_commit wz_md_commit (mc_commit G Rm1 IA) Rm1.obj ⟨_, rfl, rfl⟩ rfl rfl (Nat.le_of_ble_eq_true rfl) (by decide) (Nat.le_of_ble_eq_true rfl) rfl rfl (kI fun r2 h2 p2 => ?_)
  obtain ⟨t, M2, Q2⟩ := p2
  obtain ⟨e12, N2⟩ := p1 r2 t Q2
  have I2 : Inv (n + 1) t := I.commit Q2
  refine V_icmp_eq d_la_law_1020 (fun c => ?_) (fun c => absurd e12 c)
  exact K h2 t (LJ.next rfl Rm hM hb hgb I2.sm N2 M2) I2
theorem law_19 {G : Gk} {nm : String} {post : Option Value → Hp → Prop} {b L x m i n cr sr : Nat} {xs : Nat → Int32} {h : Hp} {s : Mem} (hL : L ≤ 3584) (hi : i + 6 < L) (hJ : LJ G b L xs x m h s) (I : Inv n s) (hn : n < 512) (K : ∀ h' t, LJ G b L xs x m h' t → Inv (n + 1) t → V G (la nm) post h' cr sr 1457 [some (.ref b), some (.ref x), some (.ref m), some (.int (nI i))] []) : V G (la nm) post h (cr + 600) (sr + 3480) 1025 [some (.ref b), some (.ref x), some (.ref m), some (.int (nI i))] [] := by
  obtain ⟨g, am, rfl, R, Rm, hM, hb, hgb⟩ := hJ
  have IA := I.a hn
  refine V_exists (N := md_abort) d_la_law_1030 ml_la_100 mdf_md_abort wi_md_abort wz_md_abort (mc_abort G Rm IA) Rm.obj ⟨_, rfl, rfl⟩ rfl (Nat.le_of_ble_eq_true rfl) (by decide) rfl rfl (fun hE => ?_)
  obtain ⟨_, _, r0, _, t0, _, Q0⟩ := hE
  refine V.need (cr := cr + 0) (sr := sr + 0) ?_ (by omega) (by omega)
  refine V_aload_n d_la_law_1025 rfl rfl ?_
  refine V_callV (N := fe_abort) d_la_law_1026 ml_la_97 mdf_fe_abort wi_fe_abort wz_fe_abort (xc_abort G R IA) R.1.1.1 ⟨_, rfl, rfl⟩ rfl rfl (Nat.le_of_ble_eq_true rfl) (by decide) (Nat.le_of_ble_eq_true rfl) rfl rfl (kI fun r1 h1 p1 => ?_)
  obtain ⟨g1, _, S1, _⟩ := (p1 r0 t0 Q0).2
  obtain ⟨Rm1, _⟩ := Rm.st hM S1
  have hb1 : h1 b = some (31, scrL L xs) := (S1.1 b (by rw [hb]; simp) hgb).1.trans hb
  refine V_aload_n d_la_law_1029 rfl rfl ?_
  refine V_callV (N := md_abort) d_la_law_1030 ml_la_100 mdf_md_abort wi_md_abort wz_md_abort (mc_abort G Rm1 IA) Rm1.obj ⟨_, rfl, rfl⟩ rfl rfl (Nat.le_of_ble_eq_true rfl) (by decide) (Nat.le_of_ble_eq_true rfl) rfl rfl (kI fun r2 h2 p2 => ?_)
  obtain ⟨t, M2, Q2⟩ := p2
  obtain ⟨e12, N2⟩ := p1 r2 t Q2
  have I2 : Inv (n + 1) t := I.abort Q2
  refine V_icmp_eq d_la_law_1033 (fun c => ?_) (fun c => absurd e12 c)
  exact K h2 t (LJ.next rfl Rm hM hb hgb I2.sm N2 M2) I2
theorem law_20 {G : Gk} {nm : String} {post : Option Value → Hp → Prop} {b L x m i n cr sr : Nat} {xs : Nat → Int32} {h : Hp} {s : Mem} (hL : L ≤ 3584) (hi : i + 6 < L) (hJ : LJ G b L xs x m h s) (I : Inv n s) (hn : n < 512) (K : ∀ h' t, LJ G b L xs x m h' t → Inv (n + 1) t → V G (la nm) post h' cr sr 1457 [some (.ref b), some (.ref x), some (.ref m), some (.int (nI i))] []) : V G (la nm) post h (cr + 600) (sr + 3480) 1038 [some (.ref b), some (.ref x), some (.ref m), some (.int (nI i))] [] := by
  obtain ⟨g, am, rfl, R, Rm, hM, hb, hgb⟩ := hJ
  have IA := I.a hn
  refine V_exists (N := md_undo) d_la_law_1043 ml_la_104 mdf_md_undo wi_md_undo wz_md_undo (mc_undo G Rm IA) Rm.obj ⟨_, rfl, rfl⟩ rfl (Nat.le_of_ble_eq_true rfl) (by decide) rfl rfl (fun hE => ?_)
  obtain ⟨_, _, r0, _, t0, _, Q0⟩ := hE
  refine V.need (cr := cr + 1) (sr := sr + 800) ?_ (by omega) (by omega)
  refine V_aload_n d_la_law_1038 rfl rfl ?_
  refine V_callV (N := fe_undo) d_la_law_1039 ml_la_101 mdf_fe_undo wi_fe_undo wz_fe_undo (xc_undo G R IA) R.1.1.1 ⟨_, rfl, rfl⟩ rfl rfl (Nat.le_of_ble_eq_true rfl) (by decide) (Nat.le_of_ble_eq_true rfl) rfl rfl (kI fun r1 h1 p1 => ?_)
  obtain ⟨g1, _, S1, _⟩ := (p1 r0 t0 Q0).2
  obtain ⟨Rm1, _⟩ := Rm.st hM S1
  have hb1 : h1 b = some (31, scrL L xs) := (S1.1 b (by rw [hb]; simp) hgb).1.trans hb
  refine V_aload_n d_la_law_1042 rfl rfl ?_
  refine V_callV (N := md_undo) d_la_law_1043 ml_la_104 mdf_md_undo wi_md_undo wz_md_undo (mc_undo G Rm1 IA) Rm1.obj ⟨_, rfl, rfl⟩ rfl rfl (Nat.le_of_ble_eq_true rfl) (by decide) (Nat.le_of_ble_eq_true rfl) rfl rfl (kI fun r2 h2 p2 => ?_)
  obtain ⟨t, M2, Q2⟩ := p2
  obtain ⟨e12, N2⟩ := p1 r2 t Q2
  have I2 : Inv (n + 1) t := I.undo Q2
  refine V_icmp_eq d_la_law_1046 (fun c => ?_) (fun c => absurd e12 c)
  exact K h2 t (LJ.next rfl Rm hM hb hgb I2.sm N2 M2) I2
theorem law_21 {G : Gk} {nm : String} {post : Option Value → Hp → Prop} {b L x m i n cr sr : Nat} {xs : Nat → Int32} {h : Hp} {s : Mem} (hL : L ≤ 3584) (hi : i + 6 < L) (hJ : LJ G b L xs x m h s) (I : Inv n s) (hn : n < 512) (K : ∀ h' t, LJ G b L xs x m h' t → Inv (n + 1) t → V G (la nm) post h' cr sr 1457 [some (.ref b), some (.ref x), some (.ref m), some (.int (nI i))] []) : V G (la nm) post h (cr + 600) (sr + 3480) 1051 [some (.ref b), some (.ref x), some (.ref m), some (.int (nI i))] [] := by
  obtain ⟨g, am, rfl, R, Rm, hM, hb, hgb⟩ := hJ
  have IA := I.a hn
  refine V_exists (N := md_redo) d_la_law_1056 ml_la_108 mdf_md_redo wi_md_redo wz_md_redo (mc_redo G Rm IA) Rm.obj ⟨_, rfl, rfl⟩ rfl (Nat.le_of_ble_eq_true rfl) (by decide) rfl rfl (fun hE => ?_)
  obtain ⟨_, _, r0, _, t0, _, Q0⟩ := hE
  refine V.need (cr := cr + 1) (sr := sr + 800) ?_ (by omega) (by omega)
  refine V_aload_n d_la_law_1051 rfl rfl ?_
  refine V_callV (N := fe_redo) d_la_law_1052 ml_la_105 mdf_fe_redo wi_fe_redo wz_fe_redo (xc_redo G R IA) R.1.1.1 ⟨_, rfl, rfl⟩ rfl rfl (Nat.le_of_ble_eq_true rfl) (by decide) (Nat.le_of_ble_eq_true rfl) rfl rfl (kI fun r1 h1 p1 => ?_)
  obtain ⟨g1, _, S1, _⟩ := (p1 r0 t0 Q0).2
  obtain ⟨Rm1, _⟩ := Rm.st hM S1
  have hb1 : h1 b = some (31, scrL L xs) := (S1.1 b (by rw [hb]; simp) hgb).1.trans hb
  refine V_aload_n d_la_law_1055 rfl rfl ?_
  refine V_callV (N := md_redo) d_la_law_1056 ml_la_108 mdf_md_redo wi_md_redo wz_md_redo (mc_redo G Rm1 IA) Rm1.obj ⟨_, rfl, rfl⟩ rfl rfl (Nat.le_of_ble_eq_true rfl) (by decide) (Nat.le_of_ble_eq_true rfl) rfl rfl (kI fun r2 h2 p2 => ?_)
  obtain ⟨t, M2, Q2⟩ := p2
  obtain ⟨e12, N2⟩ := p1 r2 t Q2
  have I2 : Inv (n + 1) t := I.redo Q2
  refine V_icmp_eq d_la_law_1059 (fun c => ?_) (fun c => absurd e12 c)
  exact K h2 t (LJ.next rfl Rm hM hb hgb I2.sm N2 M2) I2
theorem law_22 {G : Gk} {nm : String} {post : Option Value → Hp → Prop} {b L x m i n cr sr : Nat} {xs : Nat → Int32} {h : Hp} {s : Mem} (hL : L ≤ 3584) (hi : i + 6 < L) (hJ : LJ G b L xs x m h s) (I : Inv n s) (hn : n < 512) (K : ∀ h' t, LJ G b L xs x m h' t → Inv (n + 1) t → V G (la nm) post h' cr sr 1457 [some (.ref b), some (.ref x), some (.ref m), some (.int (nI i))] []) : V G (la nm) post h (cr + 600) (sr + 3480) 1064 [some (.ref b), some (.ref x), some (.ref m), some (.int (nI i))] [] := by
  obtain ⟨g, am, rfl, R, Rm, hM, hb, hgb⟩ := hJ
  have IA := I.a hn
  refine V_exists (N := md_path) d_la_law_1069 ml_la_112 mdf_md_path wi_md_path wz_md_path (mc_path G Rm IA) Rm.obj ⟨_, rfl, rfl⟩ rfl (Nat.le_of_ble_eq_true rfl) (by decide) rfl rfl (fun hE => ?_)
  obtain ⟨_, _, r0, _, t0, _, Q0⟩ := hE
  refine V.need (cr := cr + 3) (sr := sr + 13) ?_ (by omega) (by omega)
  refine V_aload_n d_la_law_1064 rfl rfl ?_
  refine V_callV (N := fe_path) d_la_law_1065 ml_la_109 mdf_fe_path wi_fe_path wz_fe_path (xc_path G R IA) R.1.1.1 ⟨_, rfl, rfl⟩ rfl rfl (Nat.le_of_ble_eq_true rfl) (by decide) (Nat.le_of_ble_eq_true rfl) rfl rfl (kI fun r1 h1 p1 => ?_)
  obtain ⟨g1, _, S1, _⟩ := (p1 r0 t0 Q0).2
  obtain ⟨Rm1, _⟩ := Rm.st hM S1
  have hb1 : h1 b = some (31, scrL L xs) := (S1.1 b (by rw [hb]; simp) hgb).1.trans hb
  refine V_aload_n d_la_law_1068 rfl rfl ?_
  refine V_callV (N := md_path) d_la_law_1069 ml_la_112 mdf_md_path wi_md_path wz_md_path (mc_path G Rm1 IA) Rm1.obj ⟨_, rfl, rfl⟩ rfl rfl (Nat.le_of_ble_eq_true rfl) (by decide) (Nat.le_of_ble_eq_true rfl) rfl rfl (kI fun r2 h2 p2 => ?_)
  obtain ⟨t, M2, Q2⟩ := p2
  obtain ⟨e12, N2⟩ := p1 r2 t Q2
  have I2 : Inv (n + 1) t := I.path Q2
  refine V_icmp_eq d_la_law_1072 (fun c => ?_) (fun c => absurd e12 c)
  exact K h2 t (LJ.next rfl Rm hM hb hgb I2.sm N2 M2) I2
theorem law_23 {G : Gk} {nm : String} {post : Option Value → Hp → Prop} {b L x m i n cr sr : Nat} {xs : Nat → Int32} {h : Hp} {s : Mem} (hL : L ≤ 3584) (hi : i + 6 < L) (hJ : LJ G b L xs x m h s) (I : Inv n s) (hn : n < 512) (K : ∀ h' t, LJ G b L xs x m h' t → Inv (n + 1) t → V G (la nm) post h' cr sr 1457 [some (.ref b), some (.ref x), some (.ref m), some (.int (nI i))] []) : V G (la nm) post h (cr + 600) (sr + 3480) 1077 [some (.ref b), some (.ref x), some (.ref m), some (.int (nI i))] [] := by
  obtain ⟨g, am, rfl, R, Rm, hM, hb, hgb⟩ := hJ
  have IA := I.a hn
  refine V_exists (N := md_step) d_la_law_1112 ml_la_116 mdf_md_step wi_md_step wz_md_step (mc_step G Rm IA (xs (i + 1)) (xs (i + 2)) (xs (i + 3))) Rm.obj ⟨_, rfl, rfl⟩ rfl (Nat.le_of_ble_eq_true rfl) (by decide) rfl rfl (fun hE => ?_)
  obtain ⟨_, _, r0, _, t0, _, Q0⟩ := hE
  refine V.need (cr := cr + 0) (sr := sr + 0) ?_ (by omega) (by omega)
  refine V_aload_n d_la_law_1077 rfl rfl ?_
  refine V_arg 1 d_la_law_1078 d_la_law_1079 d_la_law_1080 d_la_law_1081 d_la_law_1082 (by decide) hb hL (by omega) ?_
  refine V_arg 2 d_la_law_1083 d_la_law_1084 d_la_law_1085 d_la_law_1086 d_la_law_1087 (by decide) hb hL (by omega) ?_
  refine V_arg 3 d_la_law_1088 d_la_law_1089 d_la_law_1090 d_la_law_1091 d_la_law_1092 (by decide) hb hL (by omega) ?_
  refine V_callV (N := fe_step) d_la_law_1093 ml_la_113 mdf_fe_step wi_fe_step wz_fe_step (xc_step G R IA (xs (i + 1)) (xs (i + 2)) (xs (i + 3))) R.1.1.1 ⟨_, rfl, rfl⟩ rfl rfl (Nat.le_of_ble_eq_true rfl) (by decide) (Nat.le_of_ble_eq_true rfl) rfl rfl (kI fun r1 h1 p1 => ?_)
  obtain ⟨g1, _, S1, _⟩ := (p1 r0 t0 Q0).2
  obtain ⟨Rm1, _⟩ := Rm.st hM S1
  have hb1 : h1 b = some (31, scrL L xs) := (S1.1 b (by rw [hb]; simp) hgb).1.trans hb
  refine V_aload_n d_la_law_1096 rfl rfl ?_
  refine V_arg 1 d_la_law_1097 d_la_law_1098 d_la_law_1099 d_la_law_1100 d_la_law_1101 (by decide) hb1 hL (by omega) ?_
  refine V_arg 2 d_la_law_1102 d_la_law_1103 d_la_law_1104 d_la_law_1105 d_la_law_1106 (by decide) hb1 hL (by omega) ?_
  refine V_arg 3 d_la_law_1107 d_la_law_1108 d_la_law_1109 d_la_law_1110 d_la_law_1111 (by decide) hb1 hL (by omega) ?_
  refine V_callV (N := md_step) d_la_law_1112 ml_la_116 mdf_md_step wi_md_step wz_md_step (mc_step G Rm1 IA (xs (i + 1)) (xs (i + 2)) (xs (i + 3))) Rm1.obj ⟨_, rfl, rfl⟩ rfl rfl (Nat.le_of_ble_eq_true rfl) (by decide) (Nat.le_of_ble_eq_true rfl) rfl rfl (kI fun r2 h2 p2 => ?_)
  obtain ⟨t, M2, Q2⟩ := p2
  obtain ⟨e12, N2⟩ := p1 r2 t Q2
  have I2 : Inv (n + 1) t := I.step Q2
  refine V_icmp_eq d_la_law_1115 (fun c => ?_) (fun c => absurd e12 c)
  exact K h2 t (LJ.next rfl Rm hM hb hgb I2.sm N2 M2) I2
theorem law_24 {G : Gk} {nm : String} {post : Option Value → Hp → Prop} {b L x m i n cr sr : Nat} {xs : Nat → Int32} {h : Hp} {s : Mem} (hL : L ≤ 3584) (hi : i + 6 < L) (hJ : LJ G b L xs x m h s) (I : Inv n s) (hn : n < 512) (K : ∀ h' t, LJ G b L xs x m h' t → Inv (n + 1) t → V G (la nm) post h' cr sr 1457 [some (.ref b), some (.ref x), some (.ref m), some (.int (nI i))] []) : V G (la nm) post h (cr + 600) (sr + 3480) 1120 [some (.ref b), some (.ref x), some (.ref m), some (.int (nI i))] [] := by
  obtain ⟨g, am, rfl, R, Rm, hM, hb, hgb⟩ := hJ
  have IA := I.a hn
  refine V_exists (N := md_fault) d_la_law_1145 ml_la_120 mdf_md_fault wi_md_fault wz_md_fault (mc_fault G Rm IA (xs (i + 1)) (xs (i + 2))) Rm.obj ⟨_, rfl, rfl⟩ rfl (Nat.le_of_ble_eq_true rfl) (by decide) rfl rfl (fun hE => ?_)
  obtain ⟨_, _, r0, _, t0, _, Q0⟩ := hE
  refine V.need (cr := cr + 0) (sr := sr + 0) ?_ (by omega) (by omega)
  refine V_aload_n d_la_law_1120 rfl rfl ?_
  refine V_arg 1 d_la_law_1121 d_la_law_1122 d_la_law_1123 d_la_law_1124 d_la_law_1125 (by decide) hb hL (by omega) ?_
  refine V_arg 2 d_la_law_1126 d_la_law_1127 d_la_law_1128 d_la_law_1129 d_la_law_1130 (by decide) hb hL (by omega) ?_
  refine V_callV (N := fe_fault) d_la_law_1131 ml_la_117 mdf_fe_fault wi_fe_fault wz_fe_fault (xc_fault G R IA (xs (i + 1)) (xs (i + 2))) R.1.1.1 ⟨_, rfl, rfl⟩ rfl rfl (Nat.le_of_ble_eq_true rfl) (by decide) (Nat.le_of_ble_eq_true rfl) rfl rfl (kI fun r1 h1 p1 => ?_)
  obtain ⟨g1, _, S1, _⟩ := (p1 r0 t0 Q0).2
  obtain ⟨Rm1, _⟩ := Rm.st hM S1
  have hb1 : h1 b = some (31, scrL L xs) := (S1.1 b (by rw [hb]; simp) hgb).1.trans hb
  refine V_aload_n d_la_law_1134 rfl rfl ?_
  refine V_arg 1 d_la_law_1135 d_la_law_1136 d_la_law_1137 d_la_law_1138 d_la_law_1139 (by decide) hb1 hL (by omega) ?_
  refine V_arg 2 d_la_law_1140 d_la_law_1141 d_la_law_1142 d_la_law_1143 d_la_law_1144 (by decide) hb1 hL (by omega) ?_
  refine V_callV (N := md_fault) d_la_law_1145 ml_la_120 mdf_md_fault wi_md_fault wz_md_fault (mc_fault G Rm1 IA (xs (i + 1)) (xs (i + 2))) Rm1.obj ⟨_, rfl, rfl⟩ rfl rfl (Nat.le_of_ble_eq_true rfl) (by decide) (Nat.le_of_ble_eq_true rfl) rfl rfl (kI fun r2 h2 p2 => ?_)
  obtain ⟨t, M2, Q2⟩ := p2
  obtain ⟨e12, N2⟩ := p1 r2 t Q2
  have I2 : Inv (n + 1) t := I.sc Q2.2
  refine V_icmp_eq d_la_law_1148 (fun c => ?_) (fun c => absurd e12 c)
  exact K h2 t (LJ.next rfl Rm hM hb hgb I2.sm N2 M2) I2
theorem law_25 {G : Gk} {nm : String} {post : Option Value → Hp → Prop} {b L x m i n cr sr : Nat} {xs : Nat → Int32} {h : Hp} {s : Mem} (hL : L ≤ 3584) (hi : i + 6 < L) (hJ : LJ G b L xs x m h s) (I : Inv n s) (hn : n < 512) (K : ∀ h' t, LJ G b L xs x m h' t → Inv (n + 1) t → V G (la nm) post h' cr sr 1457 [some (.ref b), some (.ref x), some (.ref m), some (.int (nI i))] []) : V G (la nm) post h (cr + 600) (sr + 3480) 1153 [some (.ref b), some (.ref x), some (.ref m), some (.int (nI i))] [] := by
  obtain ⟨g, am, rfl, R, Rm, hM, hb, hgb⟩ := hJ
  have IA := I.a hn
  refine V_exists (N := md_matches) d_la_law_1178 ml_la_124 mdf_md_matches wi_md_matches wz_md_matches (mc_matches G Rm IA (xs (i + 1)) (xs (i + 2))) Rm.obj ⟨_, rfl, rfl⟩ rfl (Nat.le_of_ble_eq_true rfl) (by decide) rfl rfl (fun hE => ?_)
  obtain ⟨_, _, r0, _, t0, _, Q0⟩ := hE
  refine V.need (cr := cr + 0) (sr := sr + 0) ?_ (by omega) (by omega)
  refine V_aload_n d_la_law_1153 rfl rfl ?_
  refine V_arg 1 d_la_law_1154 d_la_law_1155 d_la_law_1156 d_la_law_1157 d_la_law_1158 (by decide) hb hL (by omega) ?_
  refine V_arg 2 d_la_law_1159 d_la_law_1160 d_la_law_1161 d_la_law_1162 d_la_law_1163 (by decide) hb hL (by omega) ?_
  refine V_callV (N := fe_matches) d_la_law_1164 ml_la_121 mdf_fe_matches wi_fe_matches wz_fe_matches (xc_matches G R IA (xs (i + 1)) (xs (i + 2))) R.1.1.1 ⟨_, rfl, rfl⟩ rfl rfl (Nat.le_of_ble_eq_true rfl) (by decide) (Nat.le_of_ble_eq_true rfl) rfl rfl (kI fun r1 h1 p1 => ?_)
  obtain ⟨g1, _, S1, _⟩ := (p1 r0 t0 Q0).2
  obtain ⟨Rm1, _⟩ := Rm.st hM S1
  have hb1 : h1 b = some (31, scrL L xs) := (S1.1 b (by rw [hb]; simp) hgb).1.trans hb
  refine V_aload_n d_la_law_1167 rfl rfl ?_
  refine V_arg 1 d_la_law_1168 d_la_law_1169 d_la_law_1170 d_la_law_1171 d_la_law_1172 (by decide) hb1 hL (by omega) ?_
  refine V_arg 2 d_la_law_1173 d_la_law_1174 d_la_law_1175 d_la_law_1176 d_la_law_1177 (by decide) hb1 hL (by omega) ?_
  refine V_callV (N := md_matches) d_la_law_1178 ml_la_124 mdf_md_matches wi_md_matches wz_md_matches (mc_matches G Rm1 IA (xs (i + 1)) (xs (i + 2))) Rm1.obj ⟨_, rfl, rfl⟩ rfl rfl (Nat.le_of_ble_eq_true rfl) (by decide) (Nat.le_of_ble_eq_true rfl) rfl rfl (kI fun r2 h2 p2 => ?_)
  obtain ⟨t, M2, Q2⟩ := p2
  obtain ⟨e12, N2⟩ := p1 r2 t Q2
  have I2 : Inv (n + 1) t := I.sc Q2.2
  refine V_icmp_eq d_la_law_1181 (fun c => ?_) (fun c => absurd e12 c)
  exact K h2 t (LJ.next rfl Rm hM hb hgb I2.sm N2 M2) I2
theorem law_26 {G : Gk} {nm : String} {post : Option Value → Hp → Prop} {b L x m i n cr sr : Nat} {xs : Nat → Int32} {h : Hp} {s : Mem} (hL : L ≤ 3584) (hi : i + 6 < L) (hJ : LJ G b L xs x m h s) (I : Inv n s) (hn : n < 512) (K : ∀ h' t, LJ G b L xs x m h' t → Inv (n + 1) t → V G (la nm) post h' cr sr 1457 [some (.ref b), some (.ref x), some (.ref m), some (.int (nI i))] []) : V G (la nm) post h (cr + 600) (sr + 3480) 1186 [some (.ref b), some (.ref x), some (.ref m), some (.int (nI i))] [] := by
  obtain ⟨g, am, rfl, R, Rm, hM, hb, hgb⟩ := hJ
  have IA := I.a hn
  refine V_exists (N := md_match) d_la_law_1231 ml_la_128 mdf_md_match wi_md_match wz_md_match (mc_match G Rm IA (xs (i + 1)) (xs (i + 2)) (xs (i + 3)) (xs (i + 4))) Rm.obj ⟨_, rfl, rfl⟩ rfl (Nat.le_of_ble_eq_true rfl) (by decide) rfl rfl (fun hE => ?_)
  obtain ⟨_, _, r0, _, t0, _, Q0⟩ := hE
  refine V.need (cr := cr + 0) (sr := sr + 0) ?_ (by omega) (by omega)
  refine V_aload_n d_la_law_1186 rfl rfl ?_
  refine V_arg 1 d_la_law_1187 d_la_law_1188 d_la_law_1189 d_la_law_1190 d_la_law_1191 (by decide) hb hL (by omega) ?_
  refine V_arg 2 d_la_law_1192 d_la_law_1193 d_la_law_1194 d_la_law_1195 d_la_law_1196 (by decide) hb hL (by omega) ?_
  refine V_arg 3 d_la_law_1197 d_la_law_1198 d_la_law_1199 d_la_law_1200 d_la_law_1201 (by decide) hb hL (by omega) ?_
  refine V_arg 4 d_la_law_1202 d_la_law_1203 d_la_law_1204 d_la_law_1205 d_la_law_1206 (by decide) hb hL (by omega) ?_
  refine V_callV (N := fe_match) d_la_law_1207 ml_la_125 mdf_fe_match wi_fe_match wz_fe_match (xc_match G R IA (xs (i + 1)) (xs (i + 2)) (xs (i + 3)) (xs (i + 4))) R.1.1.1 ⟨_, rfl, rfl⟩ rfl rfl (Nat.le_of_ble_eq_true rfl) (by decide) (Nat.le_of_ble_eq_true rfl) rfl rfl (kI fun r1 h1 p1 => ?_)
  obtain ⟨g1, _, S1, _⟩ := (p1 r0 t0 Q0).2
  obtain ⟨Rm1, _⟩ := Rm.st hM S1
  have hb1 : h1 b = some (31, scrL L xs) := (S1.1 b (by rw [hb]; simp) hgb).1.trans hb
  refine V_aload_n d_la_law_1210 rfl rfl ?_
  refine V_arg 1 d_la_law_1211 d_la_law_1212 d_la_law_1213 d_la_law_1214 d_la_law_1215 (by decide) hb1 hL (by omega) ?_
  refine V_arg 2 d_la_law_1216 d_la_law_1217 d_la_law_1218 d_la_law_1219 d_la_law_1220 (by decide) hb1 hL (by omega) ?_
  refine V_arg 3 d_la_law_1221 d_la_law_1222 d_la_law_1223 d_la_law_1224 d_la_law_1225 (by decide) hb1 hL (by omega) ?_
  refine V_arg 4 d_la_law_1226 d_la_law_1227 d_la_law_1228 d_la_law_1229 d_la_law_1230 (by decide) hb1 hL (by omega) ?_
  refine V_callV (N := md_match) d_la_law_1231 ml_la_128 mdf_md_match wi_md_match wz_md_match (mc_match G Rm1 IA (xs (i + 1)) (xs (i + 2)) (xs (i + 3)) (xs (i + 4))) Rm1.obj ⟨_, rfl, rfl⟩ rfl rfl (Nat.le_of_ble_eq_true rfl) (by decide) (Nat.le_of_ble_eq_true rfl) rfl rfl (kI fun r2 h2 p2 => ?_)
  obtain ⟨t, M2, Q2⟩ := p2
  obtain ⟨e12, N2⟩ := p1 r2 t Q2
  have I2 : Inv (n + 1) t := I.sc Q2.2
  refine V_icmp_eq d_la_law_1234 (fun c => ?_) (fun c => absurd e12 c)
  exact K h2 t (LJ.next rfl Rm hM hb hgb I2.sm N2 M2) I2
theorem law_27 {G : Gk} {nm : String} {post : Option Value → Hp → Prop} {b L x m i n cr sr : Nat} {xs : Nat → Int32} {h : Hp} {s : Mem} (hL : L ≤ 3584) (hi : i + 6 < L) (hJ : LJ G b L xs x m h s) (I : Inv n s) (hn : n < 512) (K : ∀ h' t, LJ G b L xs x m h' t → Inv (n + 1) t → V G (la nm) post h' cr sr 1457 [some (.ref b), some (.ref x), some (.ref m), some (.int (nI i))] []) : V G (la nm) post h (cr + 600) (sr + 3480) 1239 [some (.ref b), some (.ref x), some (.ref m), some (.int (nI i))] [] := by
  obtain ⟨g, am, rfl, R, Rm, hM, hb, hgb⟩ := hJ
  have IA := I.a hn
  refine V_exists (N := md_copy) d_la_law_1254 ml_la_132 mdf_md_copy wi_md_copy wz_md_copy (mc_copy G Rm IA (xs (i + 1))) Rm.obj ⟨_, rfl, rfl⟩ rfl (Nat.le_of_ble_eq_true rfl) (by decide) rfl rfl (fun hE => ?_)
  obtain ⟨_, _, r0, _, t0, _, Q0⟩ := hE
  refine V.need (cr := cr + 600) (sr := sr + 3480) ?_ (by omega) (by omega)
  refine V_aload_n d_la_law_1239 rfl rfl ?_
  refine V_arg 1 d_la_law_1240 d_la_law_1241 d_la_law_1242 d_la_law_1243 d_la_law_1244 (by decide) hb hL (by omega) ?_
  refine V_callV (N := fe_copy) d_la_law_1245 ml_la_129 mdf_fe_copy wi_fe_copy wz_fe_copy (xc_copy G R IA (xs (i + 1))) R.1.1.1 ⟨_, rfl, rfl⟩ rfl rfl (Nat.le_of_ble_eq_true rfl) (by decide) (Nat.le_of_ble_eq_true rfl) rfl rfl (kI fun r1 h1 p1 => ?_)
  obtain ⟨g1, _, S1, _⟩ := (p1 r0 t0 Q0).2
  obtain ⟨Rm1, _⟩ := Rm.st hM S1
  have hb1 : h1 b = some (31, scrL L xs) := (S1.1 b (by rw [hb]; simp) hgb).1.trans hb
  refine V_aload_n d_la_law_1248 rfl rfl ?_
  refine V_arg 1 d_la_law_1249 d_la_law_1250 d_la_law_1251 d_la_law_1252 d_la_law_1253 (by decide) hb1 hL (by omega) ?_
  refine V_callV (N := md_copy) d_la_law_1254 ml_la_132 mdf_md_copy wi_md_copy wz_md_copy (mc_copy G Rm1 IA (xs (i + 1))) Rm1.obj ⟨_, rfl, rfl⟩ rfl rfl (Nat.le_of_ble_eq_true rfl) (by decide) (Nat.le_of_ble_eq_true rfl) rfl rfl (kI fun r2 h2 p2 => ?_)
  obtain ⟨t, M2, Q2⟩ := p2
  obtain ⟨e12, N2⟩ := p1 r2 t Q2
  have I2 : Inv (n + 1) t := I.copy Q2
  refine V_icmp_eq d_la_law_1257 (fun c => ?_) (fun c => absurd e12 c)
  exact K h2 t (LJ.next rfl Rm hM hb hgb I2.sm N2 M2) I2
theorem law_28 {G : Gk} {nm : String} {post : Option Value → Hp → Prop} {b L x m i n cr sr : Nat} {xs : Nat → Int32} {h : Hp} {s : Mem} (hL : L ≤ 3584) (hi : i + 6 < L) (hJ : LJ G b L xs x m h s) (I : Inv n s) (hn : n < 512) (K : ∀ h' t, LJ G b L xs x m h' t → Inv (n + 1) t → V G (la nm) post h' cr sr 1457 [some (.ref b), some (.ref x), some (.ref m), some (.int (nI i))] []) : V G (la nm) post h (cr + 600) (sr + 3480) 1262 [some (.ref b), some (.ref x), some (.ref m), some (.int (nI i))] [] := by
  obtain ⟨g, am, rfl, R, Rm, hM, hb, hgb⟩ := hJ
  have IA := I.a hn
  refine V_exists (N := md_alike) d_la_law_1287 ml_la_136 mdf_md_alike wi_md_alike wz_md_alike (mc_alike G Rm IA (xs (i + 1)) (xs (i + 2))) Rm.obj ⟨_, rfl, rfl⟩ rfl (Nat.le_of_ble_eq_true rfl) (by decide) rfl rfl (fun hE => ?_)
  obtain ⟨_, _, r0, _, t0, _, Q0⟩ := hE
  refine V.need (cr := cr + 0) (sr := sr + 0) ?_ (by omega) (by omega)
  refine V_aload_n d_la_law_1262 rfl rfl ?_
  refine V_arg 1 d_la_law_1263 d_la_law_1264 d_la_law_1265 d_la_law_1266 d_la_law_1267 (by decide) hb hL (by omega) ?_
  refine V_arg 2 d_la_law_1268 d_la_law_1269 d_la_law_1270 d_la_law_1271 d_la_law_1272 (by decide) hb hL (by omega) ?_
  refine V_callV (N := fe_alike) d_la_law_1273 ml_la_133 mdf_fe_alike wi_fe_alike wz_fe_alike (xc_alike G R IA (xs (i + 1)) (xs (i + 2))) R.1.1.1 ⟨_, rfl, rfl⟩ rfl rfl (Nat.le_of_ble_eq_true rfl) (by decide) (Nat.le_of_ble_eq_true rfl) rfl rfl (kI fun r1 h1 p1 => ?_)
  obtain ⟨g1, _, S1, _⟩ := (p1 r0 t0 Q0).2
  obtain ⟨Rm1, _⟩ := Rm.st hM S1
  have hb1 : h1 b = some (31, scrL L xs) := (S1.1 b (by rw [hb]; simp) hgb).1.trans hb
  refine V_aload_n d_la_law_1276 rfl rfl ?_
  refine V_arg 1 d_la_law_1277 d_la_law_1278 d_la_law_1279 d_la_law_1280 d_la_law_1281 (by decide) hb1 hL (by omega) ?_
  refine V_arg 2 d_la_law_1282 d_la_law_1283 d_la_law_1284 d_la_law_1285 d_la_law_1286 (by decide) hb1 hL (by omega) ?_
  refine V_callV (N := md_alike) d_la_law_1287 ml_la_136 mdf_md_alike wi_md_alike wz_md_alike (mc_alike G Rm1 IA (xs (i + 1)) (xs (i + 2))) Rm1.obj ⟨_, rfl, rfl⟩ rfl rfl (Nat.le_of_ble_eq_true rfl) (by decide) (Nat.le_of_ble_eq_true rfl) rfl rfl (kI fun r2 h2 p2 => ?_)
  obtain ⟨t, M2, Q2⟩ := p2
  obtain ⟨e12, N2⟩ := p1 r2 t Q2
  have I2 : Inv (n + 1) t := I.sc Q2.2
  refine V_icmp_eq d_la_law_1290 (fun c => ?_) (fun c => absurd e12 c)
  exact K h2 t (LJ.next rfl Rm hM hb hgb I2.sm N2 M2) I2
theorem law_29 {G : Gk} {nm : String} {post : Option Value → Hp → Prop} {b L x m i n cr sr : Nat} {xs : Nat → Int32} {h : Hp} {s : Mem} (hL : L ≤ 3584) (hi : i + 6 < L) (hJ : LJ G b L xs x m h s) (I : Inv n s) (hn : n < 512) (K : ∀ h' t, LJ G b L xs x m h' t → Inv (n + 1) t → V G (la nm) post h' cr sr 1457 [some (.ref b), some (.ref x), some (.ref m), some (.int (nI i))] []) : V G (la nm) post h (cr + 600) (sr + 3480) 1295 [some (.ref b), some (.ref x), some (.ref m), some (.int (nI i))] [] := by
  obtain ⟨g, am, rfl, R, Rm, hM, hb, hgb⟩ := hJ
  have IA := I.a hn
  refine V_exists (N := md_watch) d_la_law_1356 ml_la_141 mdf_md_watch wi_md_watch wz_md_watch (mc_watch G Rm IA (xs (i + 1)) (xs (i + 2)) (bz (xs (i + 3))) (xs (i + 4)) (bz_or _)) Rm.obj ⟨_, rfl, rfl⟩ rfl (Nat.le_of_ble_eq_true rfl) (by decide) rfl rfl (fun hE => ?_)
  obtain ⟨_, _, r0, _, t0, _, Q0⟩ := hE
  refine V.need (cr := cr + 4) (sr := sr + 128) ?_ (by omega) (by omega)
  refine V_aload_n d_la_law_1295 rfl rfl ?_
  refine V_arg 1 d_la_law_1296 d_la_law_1297 d_la_law_1298 d_la_law_1299 d_la_law_1300 (by decide) hb hL (by omega) ?_
  refine V_arg 2 d_la_law_1301 d_la_law_1302 d_la_law_1303 d_la_law_1304 d_la_law_1305 (by decide) hb hL (by omega) ?_
  refine V_arg 3 d_la_law_1306 d_la_law_1307 d_la_law_1308 d_la_law_1309 d_la_law_1310 (by decide) hb hL (by omega) ?_
  refine V_bool d_la_law_1311 d_la_law_1314 d_la_law_1315 d_la_law_1318 ?_
  refine V_arg 4 d_la_law_1319 d_la_law_1320 d_la_law_1321 d_la_law_1322 d_la_law_1323 (by decide) hb hL (by omega) ?_
  refine V_callV (N := fe_watch) d_la_law_1324 ml_la_137 mdf_fe_watch wi_fe_watch wz_fe_watch (xc_watch G R IA (xs (i + 1)) (xs (i + 2)) (bz (xs (i + 3))) (xs (i + 4)) (bz_or _)) R.1.1.1 ⟨_, rfl, rfl⟩ rfl rfl (Nat.le_of_ble_eq_true rfl) (by decide) (Nat.le_of_ble_eq_true rfl) rfl rfl (kI fun r1 h1 p1 => ?_)
  obtain ⟨g1, _, S1, _⟩ := (p1 r0 t0 Q0).2
  obtain ⟨Rm1, _⟩ := Rm.st hM S1
  have hb1 : h1 b = some (31, scrL L xs) := (S1.1 b (by rw [hb]; simp) hgb).1.trans hb
  refine V_aload_n d_la_law_1327 rfl rfl ?_
  refine V_arg 1 d_la_law_1328 d_la_law_1329 d_la_law_1330 d_la_law_1331 d_la_law_1332 (by decide) hb1 hL (by omega) ?_
  refine V_arg 2 d_la_law_1333 d_la_law_1334 d_la_law_1335 d_la_law_1336 d_la_law_1337 (by decide) hb1 hL (by omega) ?_
  refine V_arg 3 d_la_law_1338 d_la_law_1339 d_la_law_1340 d_la_law_1341 d_la_law_1342 (by decide) hb1 hL (by omega) ?_
  refine V_bool d_la_law_1343 d_la_law_1346 d_la_law_1347 d_la_law_1350 ?_
  refine V_arg 4 d_la_law_1351 d_la_law_1352 d_la_law_1353 d_la_law_1354 d_la_law_1355 (by decide) hb1 hL (by omega) ?_
  refine V_callV (N := md_watch) d_la_law_1356 ml_la_141 mdf_md_watch wi_md_watch wz_md_watch (mc_watch G Rm1 IA (xs (i + 1)) (xs (i + 2)) (bz (xs (i + 3))) (xs (i + 4)) (bz_or _)) Rm1.obj ⟨_, rfl, rfl⟩ rfl rfl (Nat.le_of_ble_eq_true rfl) (by decide) (Nat.le_of_ble_eq_true rfl) rfl rfl (kI fun r2 h2 p2 => ?_)
  obtain ⟨t, M2, Q2⟩ := p2
  obtain ⟨e12, N2⟩ := p1 r2 t Q2
  have I2 : Inv (n + 1) t := I.watch Q2
  refine V_icmp_eq d_la_law_1359 (fun c => ?_) (fun c => absurd e12 c)
  exact K h2 t (LJ.next rfl Rm hM hb hgb I2.sm N2 M2) I2
theorem law_30 {G : Gk} {nm : String} {post : Option Value → Hp → Prop} {b L x m i n cr sr : Nat} {xs : Nat → Int32} {h : Hp} {s : Mem} (hL : L ≤ 3584) (hi : i + 6 < L) (hJ : LJ G b L xs x m h s) (I : Inv n s) (hn : n < 512) (K : ∀ h' t, LJ G b L xs x m h' t → Inv (n + 1) t → V G (la nm) post h' cr sr 1457 [some (.ref b), some (.ref x), some (.ref m), some (.int (nI i))] []) : V G (la nm) post h (cr + 600) (sr + 3480) 1364 [some (.ref b), some (.ref x), some (.ref m), some (.int (nI i))] [] := by
  obtain ⟨g, am, rfl, R, Rm, hM, hb, hgb⟩ := hJ
  have IA := I.a hn
  refine V_exists (N := md_note) d_la_law_1399 ml_la_145 mdf_md_note wi_md_note wz_md_note (mc_note G Rm IA (xs (i + 1)) (xs (i + 2)) (xs (i + 3))) Rm.obj ⟨_, rfl, rfl⟩ rfl (Nat.le_of_ble_eq_true rfl) (by decide) rfl rfl (fun hE => ?_)
  obtain ⟨_, _, r0, _, t0, _, Q0⟩ := hE
  refine V.need (cr := cr + 0) (sr := sr + 0) ?_ (by omega) (by omega)
  refine V_aload_n d_la_law_1364 rfl rfl ?_
  refine V_arg 1 d_la_law_1365 d_la_law_1366 d_la_law_1367 d_la_law_1368 d_la_law_1369 (by decide) hb hL (by omega) ?_
  refine V_arg 2 d_la_law_1370 d_la_law_1371 d_la_law_1372 d_la_law_1373 d_la_law_1374 (by decide) hb hL (by omega) ?_
  refine V_arg 3 d_la_law_1375 d_la_law_1376 d_la_law_1377 d_la_law_1378 d_la_law_1379 (by decide) hb hL (by omega) ?_
  refine V_callV (N := fe_note) d_la_law_1380 ml_la_142 mdf_fe_note wi_fe_note wz_fe_note (xc_note G R IA (xs (i + 1)) (xs (i + 2)) (xs (i + 3))) R.1.1.1 ⟨_, rfl, rfl⟩ rfl rfl (Nat.le_of_ble_eq_true rfl) (by decide) (Nat.le_of_ble_eq_true rfl) rfl rfl (kI fun r1 h1 p1 => ?_)
  obtain ⟨g1, _, S1, _⟩ := (p1 r0 t0 Q0).2
  obtain ⟨Rm1, _⟩ := Rm.st hM S1
  have hb1 : h1 b = some (31, scrL L xs) := (S1.1 b (by rw [hb]; simp) hgb).1.trans hb
  refine V_aload_n d_la_law_1383 rfl rfl ?_
  refine V_arg 1 d_la_law_1384 d_la_law_1385 d_la_law_1386 d_la_law_1387 d_la_law_1388 (by decide) hb1 hL (by omega) ?_
  refine V_arg 2 d_la_law_1389 d_la_law_1390 d_la_law_1391 d_la_law_1392 d_la_law_1393 (by decide) hb1 hL (by omega) ?_
  refine V_arg 3 d_la_law_1394 d_la_law_1395 d_la_law_1396 d_la_law_1397 d_la_law_1398 (by decide) hb1 hL (by omega) ?_
  refine V_callV (N := md_note) d_la_law_1399 ml_la_145 mdf_md_note wi_md_note wz_md_note (mc_note G Rm1 IA (xs (i + 1)) (xs (i + 2)) (xs (i + 3))) Rm1.obj ⟨_, rfl, rfl⟩ rfl rfl (Nat.le_of_ble_eq_true rfl) (by decide) (Nat.le_of_ble_eq_true rfl) rfl rfl (kI fun r2 h2 p2 => ?_)
  obtain ⟨t, M2, Q2⟩ := p2
  obtain ⟨e12, N2⟩ := p1 r2 t Q2
  have I2 : Inv (n + 1) t := I.sc Q2.2
  refine V_icmp_eq d_la_law_1402 (fun c => ?_) (fun c => absurd e12 c)
  exact K h2 t (LJ.next rfl Rm hM hb hgb I2.sm N2 M2) I2
theorem law_31 {G : Gk} {nm : String} {post : Option Value → Hp → Prop} {b L x m i n cr sr : Nat} {xs : Nat → Int32} {h : Hp} {s : Mem} (hL : L ≤ 3584) (hi : i + 6 < L) (hJ : LJ G b L xs x m h s) (I : Inv n s) (hn : n < 512) (K : ∀ h' t, LJ G b L xs x m h' t → Inv (n + 1) t → V G (la nm) post h' cr sr 1457 [some (.ref b), some (.ref x), some (.ref m), some (.int (nI i))] []) : V G (la nm) post h (cr + 600) (sr + 3480) 1407 [some (.ref b), some (.ref x), some (.ref m), some (.int (nI i))] [] := by
  obtain ⟨g, am, rfl, R, Rm, hM, hb, hgb⟩ := hJ
  have IA := I.a hn
  refine V_exists (N := md_lacks) d_la_law_1412 ml_la_149 mdf_md_lacks wi_md_lacks wz_md_lacks (mc_lacks G Rm IA) Rm.obj ⟨_, rfl, rfl⟩ rfl (Nat.le_of_ble_eq_true rfl) (by decide) rfl rfl (fun hE => ?_)
  obtain ⟨_, _, r0, _, t0, _, Q0⟩ := hE
  refine V.need (cr := cr + 0) (sr := sr + 0) ?_ (by omega) (by omega)
  refine V_aload_n d_la_law_1407 rfl rfl ?_
  refine V_callV (N := fe_lacks) d_la_law_1408 ml_la_146 mdf_fe_lacks wi_fe_lacks wz_fe_lacks (xc_lacks G R IA) R.1.1.1 ⟨_, rfl, rfl⟩ rfl rfl (Nat.le_of_ble_eq_true rfl) (by decide) (Nat.le_of_ble_eq_true rfl) rfl rfl (kI fun r1 h1 p1 => ?_)
  obtain ⟨g1, _, S1, _⟩ := (p1 r0 t0 Q0).2
  obtain ⟨Rm1, _⟩ := Rm.st hM S1
  have hb1 : h1 b = some (31, scrL L xs) := (S1.1 b (by rw [hb]; simp) hgb).1.trans hb
  refine V_aload_n d_la_law_1411 rfl rfl ?_
  refine V_callV (N := md_lacks) d_la_law_1412 ml_la_149 mdf_md_lacks wi_md_lacks wz_md_lacks (mc_lacks G Rm1 IA) Rm1.obj ⟨_, rfl, rfl⟩ rfl rfl (Nat.le_of_ble_eq_true rfl) (by decide) (Nat.le_of_ble_eq_true rfl) rfl rfl (kI fun r2 h2 p2 => ?_)
  obtain ⟨t, M2, Q2⟩ := p2
  obtain ⟨e12, N2⟩ := p1 r2 t Q2
  have I2 : Inv (n + 1) t := I.sc Q2.2
  refine V_icmp_eq d_la_law_1415 (fun c => ?_) (fun c => absurd e12 c)
  exact K h2 t (LJ.next rfl Rm hM hb hgb I2.sm N2 M2) I2
theorem law_32 {G : Gk} {nm : String} {post : Option Value → Hp → Prop} {b L x m i n cr sr : Nat} {xs : Nat → Int32} {h : Hp} {s : Mem} (hL : L ≤ 3584) (hi : i + 6 < L) (hJ : LJ G b L xs x m h s) (I : Inv n s) (hn : n < 512) (K : ∀ h' t, LJ G b L xs x m h' t → Inv (n + 1) t → V G (la nm) post h' cr sr 1457 [some (.ref b), some (.ref x), some (.ref m), some (.int (nI i))] []) : V G (la nm) post h (cr + 600) (sr + 3480) 1420 [some (.ref b), some (.ref x), some (.ref m), some (.int (nI i))] [] := by
  obtain ⟨g, am, rfl, R, Rm, hM, hb, hgb⟩ := hJ
  have IA := I.a hn
  refine V_exists (N := md_count) d_la_law_1435 ml_la_153 mdf_md_count wi_md_count wz_md_count (mc_count G Rm IA (xs (i + 1))) Rm.obj ⟨_, rfl, rfl⟩ rfl (Nat.le_of_ble_eq_true rfl) (by decide) rfl rfl (fun hE => ?_)
  obtain ⟨_, _, r0, _, t0, _, Q0⟩ := hE
  refine V.need (cr := cr + 0) (sr := sr + 0) ?_ (by omega) (by omega)
  refine V_aload_n d_la_law_1420 rfl rfl ?_
  refine V_arg 1 d_la_law_1421 d_la_law_1422 d_la_law_1423 d_la_law_1424 d_la_law_1425 (by decide) hb hL (by omega) ?_
  refine V_callV (N := fe_count) d_la_law_1426 ml_la_150 mdf_fe_count wi_fe_count wz_fe_count (xc_count G R IA (xs (i + 1))) R.1.1.1 ⟨_, rfl, rfl⟩ rfl rfl (Nat.le_of_ble_eq_true rfl) (by decide) (Nat.le_of_ble_eq_true rfl) rfl rfl (kI fun r1 h1 p1 => ?_)
  obtain ⟨g1, _, S1, _⟩ := (p1 r0 t0 Q0).2
  obtain ⟨Rm1, _⟩ := Rm.st hM S1
  have hb1 : h1 b = some (31, scrL L xs) := (S1.1 b (by rw [hb]; simp) hgb).1.trans hb
  refine V_aload_n d_la_law_1429 rfl rfl ?_
  refine V_arg 1 d_la_law_1430 d_la_law_1431 d_la_law_1432 d_la_law_1433 d_la_law_1434 (by decide) hb1 hL (by omega) ?_
  refine V_callV (N := md_count) d_la_law_1435 ml_la_153 mdf_md_count wi_md_count wz_md_count (mc_count G Rm1 IA (xs (i + 1))) Rm1.obj ⟨_, rfl, rfl⟩ rfl rfl (Nat.le_of_ble_eq_true rfl) (by decide) (Nat.le_of_ble_eq_true rfl) rfl rfl (kI fun r2 h2 p2 => ?_)
  obtain ⟨t, M2, Q2⟩ := p2
  obtain ⟨e12, N2⟩ := p1 r2 t Q2
  have I2 : Inv (n + 1) t := I.sc Q2.2
  refine V_icmp_eq d_la_law_1438 (fun c => ?_) (fun c => absurd e12 c)
  exact K h2 t (LJ.next rfl Rm hM hb hgb I2.sm N2 M2) I2
theorem law_33 {G : Gk} {nm : String} {post : Option Value → Hp → Prop} {b L x m i n cr sr : Nat} {xs : Nat → Int32} {h : Hp} {s : Mem} (hL : L ≤ 3584) (hi : i + 6 < L) (hJ : LJ G b L xs x m h s) (I : Inv n s) (hn : n < 512) (K : ∀ h' t, LJ G b L xs x m h' t → Inv (n + 1) t → V G (la nm) post h' cr sr 1457 [some (.ref b), some (.ref x), some (.ref m), some (.int (nI i))] []) : V G (la nm) post h (cr + 600) (sr + 3480) 1443 [some (.ref b), some (.ref x), some (.ref m), some (.int (nI i))] [] := by
  obtain ⟨g, am, rfl, R, Rm, hM, hb, hgb⟩ := hJ
  have IA := I.a hn
  refine V_exists (N := md_digest) d_la_law_1448 ml_la_158 mdf_md_digest wi_md_digest wz_md_digest (mc_digest G Rm IA) Rm.obj ⟨_, rfl, rfl⟩ rfl (Nat.le_of_ble_eq_true rfl) (by decide) rfl rfl (fun hE => ?_)
  obtain ⟨_, _, r0, _, t0, _, Q0⟩ := hE
  refine V.need (cr := cr + 0) (sr := sr + 0) ?_ (by omega) (by omega)
  refine V_aload_n d_la_law_1443 rfl rfl ?_
  refine V_callV (N := fe_digest) d_la_law_1444 ml_la_154 mdf_fe_digest wi_fe_digest wz_fe_digest (xc_digest G R IA) R.1.1.1 ⟨_, rfl, rfl⟩ rfl rfl (Nat.le_of_ble_eq_true rfl) (by decide) (Nat.le_of_ble_eq_true rfl) rfl rfl (kL fun r1 h1 p1 => ?_)
  obtain ⟨g1, _, S1, _⟩ := (p1 r0 t0 Q0).2
  obtain ⟨Rm1, _⟩ := Rm.st hM S1
  have hb1 : h1 b = some (31, scrL L xs) := (S1.1 b (by rw [hb]; simp) hgb).1.trans hb
  refine V_aload_n d_la_law_1447 rfl rfl ?_
  refine V_callV (N := md_digest) d_la_law_1448 ml_la_158 mdf_md_digest wi_md_digest wz_md_digest (mc_digest G Rm1 IA) Rm1.obj ⟨_, rfl, rfl⟩ rfl rfl (Nat.le_of_ble_eq_true rfl) (by decide) (Nat.le_of_ble_eq_true rfl) rfl rfl (kL fun r2 h2 p2 => ?_)
  obtain ⟨t, M2, Q2⟩ := p2
  obtain ⟨e12, N2⟩ := p1 r2 t Q2
  have I2 : Inv (n + 1) t := I.sc Q2.2
  refine V_lcmp d_la_law_1451 ?_
  have ec : lg_cmp r1 r2 = 0 := by rw [e12]; exact lg_cmp_self r2
  rw [ec]
  refine V_if_eq d_la_law_1452 (fun c => ?_) (fun c => absurd rfl c)
  exact K h2 t (LJ.next rfl Rm hM hb hgb I2.sm N2 M2) I2
