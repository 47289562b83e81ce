/-! commit -/
theorem ent_gr {G : Gk} {g : Gm} {h : Hp} {s t : Mem} {dn : List Nat} {y : Nat} (ivh : IvH s) (hl : dn.length = nEn s) (hg : ∀ k z, dn[k]? = some z → GrR G g h s z (enB s k) (en s k)) (hy : GrR G g h s y (enB s (nEn s)) (nE s)) (hB : enB s (nEn s) ≤ nE s) (hEnt : EntE s t) :
    nEn t = nD t ∧ (pshL dn y).length = nD t ∧ (∀ k z, (pshL dn y)[k]? = some z → GrR G g h t z (enB t k) (en t k)) ∧ t.1 23 = s.1 23 := by
  have E60 := ivh.2.2.2.2.1
  have h690 := ivh.2.2.2.2.2.2.1
  obtain ⟨g0, n0, hcase, e16, e20, e21, eF, eA, eR, e22⟩ := hEnt
  have enle : ∀ k, k < nEn s → en s k ≤ nE s := fun k hk => (ivh.2.2.2.2.2.2.2.1 k hk).2
  have hO : ObE s t := ObE.of (eF 8 (by omega) (by omega) (by omega)) (eA 2 (by omega) (by omega) (by omega) (by omega)) (eA 3 (by omega) (by omega) (by omega) (by omega)) (eA 9 (by omega) (by omega) (by omega) (by omega))
  have hsh : ∃ dl, n0 + dl = nEn s ∧ (∀ k, k < n0 → en t k + g0 = en s (k + dl) ∧ enB t k + g0 = enB s (k + dl)) ∧ enB t n0 + g0 = enB s (nEn s) ∧ (∀ k z, k < n0 → (pshL dn y)[k]? = some z → dn[k + dl]? = some z) ∧ (pshL dn y)[n0]? = some y ∧ (pshL dn y).length = n0 + 1 := by
    rcases hcase with ⟨c1, c2, c3, c4⟩ | ⟨c1, c2, c3, c4⟩
    · have hmono : ∀ k, k < 60 → g0 ≤ en s k := fun k hk => by rw [c2]; have := enc_mono ivh k 0 (by omega); rw [Nat.zero_add] at this; exact this
      have ent : ∀ k, k < 59 → en t k + g0 = en s (k + 1) := fun k hk => by
        have h1 : en t k = en s (k + 1) - g0 := by unfold en at *; rw [c4 k hk]; exact cl _ (by have := enle (k + 1) (by omega); unfold en at this; omega)
        have := hmono (k + 1) (by omega)
        omega
      have hps : pshL dn y = dn.eraseIdx 0 ++ [y] := by unfold pshL; rw [if_pos (by omega)]
      have hl1 : (dn.eraseIdx 0).length = 59 := by rw [List.length_eraseIdx, if_pos (by omega)]; omega
      refine ⟨1, by omega, fun k hk => ⟨ent k (by omega), ?_⟩, ?_, fun k z hk hz' => ?_, ?_, ?_⟩
      · unfold enB
        rw [if_neg (show ¬ k + 1 = 0 by omega), Nat.add_sub_cancel]
        by_cases z : k = 0
        · rw [if_pos z, z]; omega
        · rw [if_neg z]
          have := ent (k - 1) (by omega)
          rw [show k - 1 + 1 = k by omega] at this
          exact this
      · unfold enB
        rw [if_neg (by omega), c3, if_neg (by omega), c1]
        exact ent 58 (by omega)
      · rw [hps, List.getElem?_append_left (by omega), List.getElem?_eraseIdx, if_neg (by omega)] at hz'
        exact hz'
      · rw [hps, List.getElem?_append_right (by omega), hl1, c3]; rfl
      · rw [hps, List.length_append, hl1, c3]; rfl
    · have ent : ∀ k, k < n0 → en t k = en s k := fun k hk => by unfold en; rw [c4 k hk]
      have hps : pshL dn y = dn ++ [y] := by unfold pshL; rw [if_neg (by omega)]
      have entB : ∀ k, k ≤ n0 → enB t k = enB s k := fun k hk => by
        unfold enB
        by_cases z : k = 0
        · rw [if_pos z, if_pos z]
        · rw [if_neg z, if_neg z, ent (k - 1) (by omega)]
      refine ⟨0, by omega, fun k hk => ⟨by rw [ent k hk, c2]; rfl, by rw [entB k (by omega), c2]; rfl⟩, by rw [entB n0 (Nat.le_refl _), c2, c3]; rfl, fun k z hk hz' => ?_, ?_, ?_⟩
      · rw [hps, List.getElem?_append_left (by omega)] at hz'
        exact hz'
      · rw [hps, List.getElem?_append_right (by omega), hl, c3, Nat.sub_self]; rfl
      · rw [hps, List.length_append, hl, c3]; rfl
  obtain ⟨dl, s1, s2, s3, s4, s5, s6⟩ := hsh
  have n60 : n0 < 60 := by rcases hcase with ⟨_, _, c3, _⟩ | ⟨c1, _, c3, _⟩ <;> omega
  have eDt : nD t = n0 + 1 := by unfold nD; rw [e21]; exact cl _ (by omega)
  have eEt : nEn t = n0 + 1 := by unfold nEn; rw [e20]; exact cl _ (by omega)
  have enn : en t n0 = nE s - g0 := by unfold en; rw [e22]; exact cl _ (by omega)
  refine ⟨by rw [eEt, eDt], by rw [eDt]; exact s6, fun k z hk => ?_, eF 23 (by omega) (by omega) (by omega)⟩
  have hklt : k < n0 + 1 := by rw [← s6]; exact (List.getElem?_eq_some_iff.mp hk).1
  by_cases hkn : k = n0
  · subst hkn
    rw [s5] at hk
    cases hk
    refine hy.mv (Stq.rf g h (fun _ => True)) trivial hO (by rw [enn]; omega) (fun i hi => ?_)
    have hr := eR (enB t k + i) (by omega)
    rw [show enB t k + i + g0 = enB s (nEn s) + i by omega] at hr
    exact hr
  · have hk2 : k < n0 := by omega
    obtain ⟨a1, a2⟩ := s2 k hk2
    have a3 := enle (k + dl) (by omega)
    refine (hg (k + dl) z (s4 k z hk2 hk)).mv (Stq.rf g h (fun _ => True)) trivial hO (by omega) (fun i hi => ?_)
    have hr := eR (enB t k + i) (by omega)
    rw [show enB t k + i + g0 = enB s (k + dl) + i by omega] at hr
    exact hr
def R_com (s : Mem) (r : Int32) (t : Mem) : Prop := cs (s.1 23 = 0) (No s (-3) r t) (r = nI (gsz s) ∧ cs (gsz s = 0) (t = mF s 23 0) (EntE (mF s 23 0) t))
theorem sp_fe_commit (G : Gk) {g : Gm} {h : Hp} {s : Mem} (R : RC G g h s) (iv : Ivs s) : Ct G fe_commit [.ref (g.2 2)] h (pI fun r h' => ∀ r' t, R_com s r' t → r = r' ∧ Nc G g h h' t) := by
  obtain ⟨hm, ivs, ivo, ivf, ivv, ivt, ivw, ivh, ivx, h512⟩ := iv
  have X := R.1.1
  obtain ⟨hz, dn, un, v, q1, q2, q3, q4, q5, q6, q7, q8⟩ := R.2
  rcases q8 with ⟨z1, rfl⟩ | ⟨z1, x, es, rfl, y2, y3, y4, y5⟩
  · skip
    refine Ct.ofL (M := fe_commit) (lv := [some (.ref (g.2 2)), none]) mdf_fe_commit rfl (Nat.le_of_ble_eq_true rfl) rfl ?_
    refine V_aload_n d_fe_commit_0 rfl rfl ?_
    refine V_getf d_fe_commit_1 fl_fe_36 (by first | assumption | exact X.1 | exact hu_self _ _ _ | (simp (disch := first | assumption | (apply Ne.symm; assumption)) only [hu_self, hu_ne]; assumption)) rfl ?_
    refine V_getf d_fe_commit_4 fl_fe_255 q1.1 rfl ?_
    refine V_astore_nN d_fe_commit_7 rfl (by decide) rfl rfl ?_
    dsimp only [List.set]
    refine V_aload_nN d_fe_commit_8 rfl rfl ?_
    refine V_ifnonnullN d_fe_commit_9 ?_
    refine V_bipush (v := -3) d_fe_commit_12 (by decide) ?_
    refine V_ireturn d_fe_commit_14 rfl ?_
    refine ⟨_, rfl, fun r' t hR => ?_⟩
    obtain ⟨w1, w2⟩ := hR.t z1
    exact ⟨w1.symm, Nc.rf R w2⟩
  · have nX8 : g.2 2 ≠ g.2 8 := X.ne q1 (by omega)
    have S1 := Stq.put (h := h) q1.2 (4, [.ref (g.2 22), .ref (g.2 24), .null])
    have C8 := Cl.put (h := h) q1.2 (4, [.ref (g.2 22), .ref (g.2 24), .null])
    have y31 := y3.st S1 (by omega) (by omega)
    have X1 := X.sg S1 (by omega)
    obtain ⟨gi, Si, Li, ei⟩ := y31.im
    obtain ⟨mc, d, hd⟩ := y31.o
    have y21 := y2.st S1 (by omega)
    have S2 : Stq g h (fun r => r ≠ 8 ∧ r ≠ 26 ∧ r ≠ 27) gi (hu h (g.2 8) (4, [.ref (g.2 22), .ref (g.2 24), .null])) := (S1.mo (fun r hr => hr.1)).tr (Si.mo (fun r hr => ⟨hr.2.1, hr.2.2⟩))
    have C8i := C8.st Si (by omega)
    have Ix := y21.st Si (by omega)
    have e1 : ∀ q, q ≠ 23 → (mF s 23 0).1 q = s.1 q := fun q a => by rw [mF_1n _ _ a]
    have hco : CoB s (mF s 23 0) := ⟨fun q hq => e1 q (by unfold coF at hq; simp only [Bool.or_eq_true, beq_iff_eq] at hq; omega), fun q _ => rfl⟩
    have hO : ObE s (mF s 23 0) := ObE.of (e1 8 (by omega)) rfl rfl rfl
    have eD : nD (mF s 23 0) = nD s := by unfold nD; rw [e1 21 (by omega)]
    have eE : nEn (mF s 23 0) = nEn s := by unfold nEn; rw [e1 20 (by omega)]
    have enE : nE (mF s 23 0) = nE s := by unfold nE; rw [e1 16 (by omega)]
    have hgr : ∀ k z, dn[k]? = some z → GrR G gi (hu h (g.2 8) (4, [.ref (g.2 22), .ref (g.2 24), .null])) (mF s 23 0) z (enB s k) (en s k) := fun k z hk => (q6 k z hk).mv S2 (by omega) hO rfl (fun i _ => ⟨rfl, fun _ _ => ⟨rfl, rfl⟩⟩)
    refine Ct.ofL (M := fe_commit) (lv := [some (.ref (g.2 2)), none]) mdf_fe_commit rfl (Nat.le_of_ble_eq_true rfl) rfl ?_
    refine V_aload_n d_fe_commit_0 rfl rfl ?_
    refine V_getf d_fe_commit_1 fl_fe_36 (by first | assumption | exact X.1 | exact hu_self _ _ _ | (simp (disch := first | assumption | (apply Ne.symm; assumption)) only [hu_self, hu_ne]; assumption)) rfl ?_
    refine V_getf d_fe_commit_4 fl_fe_255 q1.1 rfl ?_
    refine V_astore_n d_fe_commit_7 rfl (by decide) rfl rfl ?_
    dsimp only [List.set]
    refine V_aload_n d_fe_commit_8 rfl rfl ?_
    refine V_ifnonnull d_fe_commit_9 ?_
    refine V_aload_n d_fe_commit_15 rfl rfl ?_
    refine V_getf d_fe_commit_16 fl_fe_36 X.1 rfl ?_
    refine V_null d_fe_commit_19 ?_
    refine V_putf d_fe_commit_20 fp_fe_255 rfl rfl q1.1 ?_
    refine V_aload_n d_fe_commit_23 rfl rfl ?_
    refine V_getf d_fe_commit_24 fl_fe_262 y21.1 rfl ?_
    refine V_callV (N := al_isEmpty) d_fe_commit_27 ml_fe_266 mdf_al_isEmpty wi_al_isEmpty wz_al_isEmpty (sp_ls_isEmpty G y31) hd ⟨_, rfl, rfl⟩ rfl rfl (by decide) (by decide) (Nat.le_of_ble_eq_true rfl) rfl rfl (kI fun r27 h27 ⟨e27, f27⟩ => ?_)
    subst e27 f27
    refine V_if_ne d_fe_commit_30 (fun c30 => ?_) (fun c30 => ?_)
    · skip
      refine V_aload_n d_fe_commit_41 rfl rfl ?_
      refine V_getf d_fe_commit_42 fl_fe_262 y21.1 rfl ?_
      refine V_callV (N := al_size) d_fe_commit_45 ml_fe_275 mdf_al_size wi_al_size wz_al_size (sp_ls_size G y31) hd ⟨_, rfl, rfl⟩ rfl rfl (by decide) (by decide) (Nat.le_of_ble_eq_true rfl) rfl rfl (kI fun r45 h45 ⟨e45, f45⟩ => ?_)
      subst e45 f45
      refine V_ireturn d_fe_commit_48 rfl ?_
      refine ⟨_, rfl, fun r' t hR => ?_⟩
      obtain ⟨w1, w2⟩ := hR.f z1
      have es0 := b01_ne c30
      have hg0 : gsz s = 0 := by rw [← y4, es0]; rfl
      have w3 := w2.t hg0
      subst w3
      refine ⟨by rw [w1, y4], gi, ⟨(R.1.st8 hm S2 (fun r hr => by omega) (by rw [ei])).co hco, hz.st S2 (by omega), dn, un, .null, ?_, q2.st S2 (by omega) (by omega), q3.st S2 (by omega) (by omega), by rw [eD]; exact q4, by rw [eD, eE]; exact q5, hgr, fun j x hx => ?_, Or.inl ⟨mF_1s _ _ _, rfl⟩⟩, S2.mo (fun r hr => by omega), by rw [ei]⟩
      · (rw [ei]; exact C8i)
      · (rw [eE]; exact (q7 j x hx).mv S2 (by omega) hO rfl (fun i _ => ⟨rfl, fun _ _ => ⟨rfl, rfl⟩⟩))
    · skip
      refine V_aload_n d_fe_commit_33 rfl rfl ?_
      refine V_getf d_fe_commit_34 fl_fe_36 X1.1 rfl ?_
      refine V_aload_n d_fe_commit_37 rfl rfl ?_
      have P38 := sp_hi_push G (ws := []) (v := .null) (hz.st S2 (by omega)) (by rw [ei]; exact C8i) (q2.st S2 (by omega) (by omega)) (fun k z hk => (hgr k z hk).o) Ix.1 (by have := ivh.2.2.2.1; have := ivh.2.2.2.2.1; omega) ⟨by rw [Ix.2]; decide, by rw [Ix.2]; decide⟩ (fun k z hk => by rw [(hgr k z hk).g1]; decide)
      rw [ei] at P38
      refine V_callV (N := hi_push) d_fe_commit_38 ml_fe_271 mdf_hi_push wi_hi_push wz_hi_push (P38) C8.1 ⟨_, rfl, rfl⟩ rfl rfl (by decide) (by decide) (Nat.le_of_ble_eq_true rfl) rfl rfl (kN fun h38 ⟨g4, p3, p4, p5⟩ => ?_)
      refine V_aload_n d_fe_commit_41 rfl rfl ?_
      refine V_getf d_fe_commit_42 fl_fe_262 (Ix.st p4 (by omega)).1 rfl ?_
      obtain ⟨d4, cap4, hA4⟩ := (Li.st p4 (by omega)).al
      obtain ⟨mc4, hd4⟩ := hA4.1
      refine V_callV (N := al_size) d_fe_commit_45 ml_fe_275 mdf_al_size wi_al_size wz_al_size (sp_al_size G hA4) hd4 ⟨_, rfl, rfl⟩ rfl rfl (by decide) (by decide) (Nat.le_of_ble_eq_true rfl) rfl rfl (kI fun r45 h45 ⟨e45, f45⟩ => ?_)
      subst e45 f45
      refine V_ireturn d_fe_commit_48 rfl ?_
      refine ⟨_, rfl, fun r' t hR => ?_⟩
      obtain ⟨w1, w2⟩ := hR.f z1
      have hne := b01_e c30
      have hg0 : ¬ gsz s = 0 := fun z => hne (List.eq_nil_of_length_eq_zero (by rw [y4]; exact z))
      have w3 := w2.f hg0
      have hgz : gF s < nE s ∧ nEn s = nD s := by by_cases z : gF s < nE s ∧ nEn s = nD s; exact z; exact absurd (if_neg z) hg0
      have hgs : gsz s = nE s - gF s := if_pos hgz
      have hgF := (ivx.2 z1).1
      have ivh0 : IvH (mF s 23 0) := ⟨by rw [e1 16 (by omega), enE]; exact ivh.1, by rw [e1 20 (by omega), eE]; exact ivh.2.1, by rw [e1 21 (by omega), eD]; exact ivh.2.2.1, by rw [eD, eE]; exact ivh.2.2.2.1, by rw [eE]; exact ivh.2.2.2.2.1, Or.inl (mF_1s _ _ _), by rw [enE]; exact ivh.2.2.2.2.2.2.1, by rw [eE, enE]; exact ivh.2.2.2.2.2.2.2.1, by rw [eE]; exact ivh.2.2.2.2.2.2.2.2⟩
      have hyg : GrR G gi (hu h (g.2 8) (4, [.ref (g.2 22), .ref (g.2 24), .null])) (mF s 23 0) x (enB s (nD s)) (nE s) := ⟨g.2 26, es, Ix, Li, by rw [y4, hgs, hgF], fun i z hz' => by have := (y5 i z hz').mv (t := mF s 23 0) S2 (by omega) hO rfl (fun _ _ => ⟨rfl, rfl⟩); rw [hgF] at this; exact this⟩
      obtain ⟨a1, a2, a3, a4⟩ := ent_gr ivh0 (by rw [eE, hgz.2]; exact q4) hgr (by rw [eE, hgz.2, enE]; exact hyg) (by rw [eE, hgz.2, enE]; show enB s (nD s) ≤ nE s; rw [← hgF]; omega) w3
      have hcot : CoB s t := hco.tr w3.co
      have un0 : un = [] := List.eq_nil_of_length_eq_zero (by rw [q5]; omega)
      have Sf : Stq g h (fun r => r ≠ 8 ∧ r ≠ 26 ∧ r ≠ 27 ∧ r ≠ 22 ∧ r ≠ 23) g4 h38 := (S2.mo (fun r hr => ⟨hr.1, hr.2.1, hr.2.2.1⟩)).tr (p4.mo (fun r hr => hr.2.2.2))
      have g4r : ∀ r, r ≠ 23 → g4.2 r = g.2 r := fun r hr => p5 r hr
      refine ⟨by rw [w1, y4], g4, ⟨(R.1.st8 hm Sf (fun r hr => by omega) (g4r 8 (by omega))).co hcot, (hz.st S2 (by omega)).st p4 (by omega), pshL dn x, [], .null, ?_, p3, ?_, a2, by rw [a1]; simp, fun k z hk => (a3 k z hk).st p4 (by omega), fun j z hj => by simp at hj, Or.inl ⟨by rw [a4]; exact mF_1s _ _ _, rfl⟩⟩, Sf.mo (fun r hr => by omega), g4r 2 (by omega)⟩
      · (rw [g4r 22 (by omega), g4r 24 (by omega)]; exact C8i.st p4 (by omega))
      · (rw [← un0]; exact (q3.st S2 (by omega) (by omega)).st p4 (by omega) (by omega))
