/-! undo, redo, abort -/
theorem GoE.same {s t : Mem} {j e : Nat} (H : GoE s j e t) : t.1 = s.1 ∧ ∀ q, q ≠ 10 → q ≠ 11 → q ≠ 30 → q ≠ 31 → t.2 q = s.2 q := by
  obtain ⟨o, f, t1, _, _, _, h4, h5⟩ := H
  exact ⟨h5.1.trans h4.1, fun q a b c d => (h5.2.1 q c d).trans (h4.2.1 q a b)⟩
/-- as far as the history and the objects' shapes go -/
def SaM (s t : Mem) : Prop := (∀ q, q ≠ 16 → t.1 q = s.1 q) ∧ ∀ q, q ≠ 10 → q ≠ 11 → q ≠ 30 → q ≠ 31 → t.2 q = s.2 q
theorem GoCh.same {b : Bool} : ∀ (n k : Nat) (s t : Mem), GoCh b n k s t → SaM s t
  | 0, _, s, t, h => by rw [show t = s from h]; exact ⟨fun _ _ => rfl, fun _ _ _ _ _ => rfl⟩
  | n + 1, k, s, t, ⟨t1, h1, h2⟩ => by
    obtain ⟨a1, a2⟩ := GoCh.same n (k - 1) t1 t h2
    obtain ⟨b1, b2⟩ := h1.same
    refine ⟨fun q hq => ?_, fun q c d e f => ?_⟩
    · rw [a1 q hq, b1]
      split
      · exact mF_1n _ _ hq
      · rfl
    · rw [a2 q c d e f, b2 q c d e f]
      split
      · rfl
      · rfl
theorem ReE.same : ∀ (n k : Nat) (s t : Mem), ReE n k s t → t.1 = s.1 ∧ SaM s t
  | 0, _, s, t, h => by rw [show t = s from h]; exact ⟨rfl, fun _ _ => rfl, fun _ _ _ _ _ => rfl⟩
  | n + 1, k, s, t, ⟨t1, h1, h2⟩ => by
    obtain ⟨a0, a1, a2⟩ := ReE.same n (k + 1) t1 t h2
    obtain ⟨b1, b2⟩ := h1.same
    exact ⟨a0.trans b1, fun q hq => by rw [a1 q hq, b1], fun q c d e f => by rw [a2 q c d e f, b2 q c d e f]⟩
theorem SaM.ob {s t : Mem} (h : SaM s t) : ObE s t := ObE.of (h.1 8 (by omega)) (h.2 2 (by omega) (by omega) (by omega) (by omega)) (h.2 3 (by omega) (by omega) (by omega) (by omega)) (h.2 9 (by omega) (by omega) (by omega) (by omega))
theorem SaM.gr {G : Gk} {g g' : Gm} {h h' : Hp} {D : Nat → Prop} {s t : Mem} {x lo hi : Nat} (H : GrR G g h s x lo hi) (S : Stq g h D g' h') (h1 : D 1) (hs : SaM s t) : GrR G g' h' t x lo hi :=
  H.mv S h1 hs.ob rfl (fun i _ => ⟨by rw [hs.2 17 (by omega) (by omega) (by omega) (by omega)], fun k _ => ⟨by rw [hs.2 18 (by omega) (by omega) (by omega) (by omega)], by rw [hs.2 19 (by omega) (by omega) (by omega) (by omega)]⟩⟩)
def IvD (s : Mem) : Prop := ∀ e, e < nE s → EdOK s e
def R_und (s : Mem) (r : Int32) (t : Mem) : Prop := cs (s.1 23 ≠ 0 ∨ nD s = 0) (No s (-3) r t) (r = nI (nD s - 1) ∧ ∃ t', UnE (en s (nD s - 1) - enB s (nD s - 1)) (en s (nD s - 1)) s t' ∧ t = mF t' 21 (nI (nD s - 1)))
theorem mF21.co (t : Mem) (v : Int32) : CoB t (mF t 21 v) := ⟨fun q hq => mF_1n _ _ (by unfold coF at hq; simp only [Bool.or_eq_true, beq_iff_eq] at hq; omega), fun q _ => by rw [mF_2]⟩
theorem Ivs.j {s : Mem} (iv : Ivs s) : Jv s := ⟨iv.1, iv.2.1, iv.2.2.1, iv.2.2.2.2.2.2.1, iv.2.2.2.1, iv.2.2.2.2.1⟩
theorem sp_fe_undo (G : Gk) {g : Gm} {h : Hp} {s : Mem} (R : RC G g h s) (iv : Ivs s) (ivd : IvD s) : Ct G fe_undo [.ref (g.2 2)] h (pI fun r h' => ∀ r' t, R_und s r' t → r = r' ∧ Nc G g h h' t) := by
  have J := iv.j
  obtain ⟨hm, ivs, ivo, ivf, ivv, ivt, ivw, ivh, ivx, h512⟩ := iv
  have X := R.1.1
  have D60 : nEn s ≤ 60 := ivh.2.2.2.2.1
  have DE := ivh.2.2.2.1
  obtain ⟨hz, dn, un, v, q1, q2, q3, q4, q5, q6, q7, q8⟩ := R.2
  obtain ⟨mcd, dd, hdd⟩ := q2.o
  rcases q8 with ⟨z1, rfl⟩ | ⟨z1, x, es, rfl, y2, y3, y4, y5⟩
  · skip
    refine Ct.ofL (M := fe_undo) (lv := [some (.ref (g.2 2)), none]) mdf_fe_undo rfl (Nat.le_of_ble_eq_true rfl) rfl ?_
    refine V_aload_n d_fe_undo_0 rfl rfl ?_
    refine V_getf d_fe_undo_1 fl_fe_36 (by first | assumption | exact X.1 | exact hu_self _ _ _ | (simp (disch := first | assumption | (apply Ne.symm; assumption)) only [hu_self, hu_ne]; assumption)) rfl ?_
    refine V_getf d_fe_undo_4 fl_fe_255 q1.1 rfl ?_
    refine V_ifnonnullN d_fe_undo_7 ?_
    refine V_aload_n d_fe_undo_10 rfl rfl ?_
    refine V_getf d_fe_undo_11 fl_fe_36 (by first | assumption | exact X.1 | exact hu_self _ _ _ | (simp (disch := first | assumption | (apply Ne.symm; assumption)) only [hu_self, hu_ne]; assumption)) rfl ?_
    refine V_getf d_fe_undo_14 fl_fe_281 q1.1 rfl ?_
    refine V_callV (N := al_isEmpty) d_fe_undo_17 ml_fe_266 mdf_al_isEmpty wi_al_isEmpty wz_al_isEmpty (sp_ls_isEmpty G q2) hdd ⟨_, rfl, rfl⟩ rfl rfl (by decide) (by decide) (Nat.le_of_ble_eq_true rfl) rfl rfl (kI fun r17 h17 ⟨e17, f17⟩ => ?_)
    subst e17 f17
    refine V_if_eq d_fe_undo_20 (fun c20 => ?_) (fun c20 => ?_)
    · skip
      have hpos : 0 < nD s := by rcases Nat.eq_zero_or_pos (nD s) with z | z; exact absurd (List.eq_nil_of_length_eq_zero (by rw [q4]; exact z)) (b01_e c20); exact z
      obtain ⟨x, hx⟩ : ∃ x, dn[nD s - 1]? = some x := ⟨_, List.getElem?_eq_getElem (by omega)⟩
      have Gx := q6 _ x hx
      obtain ⟨a, es, Ix, La, hlen, hed⟩ := Gx
      have hle := encB_le ivh (k := nD s - 1) (by omega)
      have hen := (ivh.2.2.2.2.2.2.2.1 (nD s - 1) (by omega)).2
      have h690 := ivh.2.2.2.2.2.2.1
      refine V_aload_n d_fe_undo_26 rfl rfl ?_
      refine V_getf d_fe_undo_27 fl_fe_36 (by first | assumption | exact X.1 | exact hu_self _ _ _ | (simp (disch := first | assumption | (apply Ne.symm; assumption)) only [hu_self, hu_ne]; assumption)) rfl ?_
      refine V_getf d_fe_undo_30 fl_fe_281 q1.1 rfl ?_
      refine V_aload_n d_fe_undo_33 rfl rfl ?_
      refine V_getf d_fe_undo_34 fl_fe_36 (by first | assumption | exact X.1 | exact hu_self _ _ _ | (simp (disch := first | assumption | (apply Ne.symm; assumption)) only [hu_self, hu_ne]; assumption)) rfl ?_
      refine V_getf d_fe_undo_37 fl_fe_281 q1.1 rfl ?_
      refine V_callV (N := al_size) d_fe_undo_40 ml_fe_275 mdf_al_size wi_al_size wz_al_size (sp_ls_size G q2) hdd ⟨_, rfl, rfl⟩ rfl rfl (by decide) (by decide) (Nat.le_of_ble_eq_true rfl) rfl rfl (kI fun r40 h40 ⟨e40, f40⟩ => ?_)
      subst e40 f40
      rw [q4]
      refine V_iconst (v := 1) d_fe_undo_43 (by decide) ?_
      refine V_isub d_fe_undo_44 ?_
      rw [ixm (by omega)]
      refine V_callV (N := al_remove) d_fe_undo_45 ml_fe_284 mdf_al_remove wi_al_remove wz_al_remove (ls_remove G q2 (eOs_g (fun k z hk => (q6 k z hk).o)) hx) hdd ⟨_, rfl, rfl⟩ rfl rfl (by decide) (by decide) (Nat.le_of_ble_eq_true rfl) rfl rfl (kR fun r45 h45 ⟨e45, p1, p2⟩ => ?_)
      subst e45
      have Ix1 := Ix.st p2 (by omega)
      refine V_castY d_fe_undo_48 Ix1.1 (show vwCl[3]? = some _ from rfl) kl_fe_259 wo_castable_2 ?_
      refine V_astore_n d_fe_undo_51 rfl (by decide) rfl rfl ?_
      dsimp only [List.set]
      have R1 := R.1.st hm p2 (fun r hr => by omega)
      have X1 := R1.1
      refine V_aload_n d_fe_undo_52 rfl rfl ?_
      refine V_aload_n d_fe_undo_53 rfl rfl ?_
      refine V_callV (N := fe_takeBack) d_fe_undo_54 ml_fe_278 mdf_fe_takeBack wi_fe_takeBack wz_fe_takeBack (sp_fe_takeBack G R1 J Ix1 (La.st p2 (by omega)) (by omega) (fun i y hy => (hed i y hy).st p2 (by omega)) (fun i hi => ivd _ (by omega))) X1.1 ⟨_, rfl, rfl⟩ rfl rfl (by decide) (by decide) (Nat.le_of_ble_eq_true rfl) rfl rfl (kN fun h54 ⟨p3, p4⟩ => ?_)
      have Sa : Stq g h (fun r => PutD r ∧ r ≠ 22 ∧ r ≠ 23) g h54 := (p2.mo (fun r hr => hr.2)).tr (p4.mo (fun r hr => hr.1))
      have d8 : PutD 8 ∧ 8 ≠ 22 ∧ 8 ≠ 23 := ⟨Or.inl (by omega), by omega, by omega⟩
      have d1 : PutD 1 ∧ 1 ≠ 22 ∧ 1 ≠ 23 := ⟨Or.inl (by omega), by omega, by omega⟩
      have X2 : PX g h54 s := X.sg Sa ⟨Or.inl (by omega), by omega, by omega⟩
      have C8 := q1.st Sa d8
      have q3a := q3.st Sa ⟨Or.inl (by omega), by omega, by omega⟩ ⟨Or.inl (by omega), by omega, by omega⟩
      obtain ⟨mcu, du, hdu⟩ := q3a.o
      have p1a := p1.st p4 (Or.inl (by omega)) (Or.inl (by omega))
      have Ix2 := Ix.st Sa d1
      refine V_aload_n d_fe_undo_57 rfl rfl ?_
      refine V_getf d_fe_undo_58 fl_fe_36 X2.1 rfl ?_
      refine V_getf d_fe_undo_61 fl_fe_288 C8.1 rfl ?_
      refine V_aload_n d_fe_undo_64 rfl rfl ?_
      refine V_callV (N := al_add1) d_fe_undo_65 ml_fe_291 mdf_al_add1 wi_al_add1 wz_al_add1 (ls_add G (hz.st Sa ⟨Or.inl (by omega), by omega, by omega⟩) q3a (by decide) (by decide) (by decide) (eOs_g (fun k z hk => ((q7 k z hk).st Sa d1).o)) Ix2.1 (Or.inr rfl) (by omega)) hdu ⟨_, rfl, rfl⟩ rfl rfl (by decide) (by decide) (Nat.le_of_ble_eq_true rfl) rfl rfl (kI fun r65 h65 ⟨e65, g', p5, p6, p7⟩ => ?_)
      have C8' := C8.st p6 (by omega)
      have p1b := p1a.st p6 (by omega) (by omega)
      have X3 := X2.st p6 (by omega) (fun r _ _ => p7 r (by omega))
      obtain ⟨mc6, d6, hd6⟩ := p1b.o
      have g2x : g'.2 2 = g.2 2 := p7 2 (by omega)
      refine V_pop d_fe_undo_68 rfl ?_
      rw [← g2x]
      refine V_aload_n d_fe_undo_69 rfl rfl ?_
      refine V_getf d_fe_undo_70 fl_fe_36 X3.1 rfl ?_
      refine V_getf d_fe_undo_73 fl_fe_281 (by rw [p7 8 (by omega)]; have := C8'.1; rw [p7 8 (by omega)] at this; exact this) rfl ?_
      rw [← p7 22 (by omega)]
      refine V_callV (N := al_size) d_fe_undo_76 ml_fe_275 mdf_al_size wi_al_size wz_al_size (sp_ls_size G p1b) hd6 ⟨_, rfl, rfl⟩ rfl rfl (by decide) (by decide) (Nat.le_of_ble_eq_true rfl) rfl rfl (kI fun r76 h76 ⟨e76, f76⟩ => ?_)
      subst e76 f76
      refine V_ireturn d_fe_undo_79 rfl ?_
      refine ⟨_, rfl, fun r' t hR => ?_⟩
      obtain ⟨w1, t', w2, rfl⟩ := hR.f (fun z => z.elim (fun z => z z1) (fun z => by omega))
      have ch := UnE.ch _ _ _ _ w2
      have sm := GoCh.same _ _ _ _ ch
      have RBt : RB g h54 t' := p3 false s t' ⟨rfl, fun _ _ => rfl⟩ (by rw [hlen, show enB s (nD s - 1) + (en s (nD s - 1) - enB s (nD s - 1)) = en s (nD s - 1) by omega]; exact ch)
      have hmt : Sm t' := by unfold Sm nS nO nP nW; rw [sm.1 0 (by omega), sm.1 8 (by omega), sm.1 33 (by omega), sm.1 25 (by omega)]; exact hm
      have e1 : ∀ q, q ≠ 16 → q ≠ 21 → (mF t' 21 (nI (nD s - 1))).1 q = s.1 q := fun q a b => by rw [mF_1n _ _ b]; exact sm.1 q a
      have eD : nD (mF t' 21 (nI (nD s - 1))) = nD s - 1 := by have e : nD (mF t' 21 (nI (nD s - 1))) = ((mF t' 21 (nI (nD s - 1))).1 21).toNatClampNeg := rfl; rw [e, mF_1s]; exact cl _ (by omega)
      have eE : nEn (mF t' 21 (nI (nD s - 1))) = nEn s := by unfold nEn; rw [e1 20 (by omega) (by omega)]
      have een : en (mF t' 21 (nI (nD s - 1))) = en s := by funext k; unfold en; rw [mF_2, sm.2 22 (by omega) (by omega) (by omega) (by omega)]
      have eB : enB (mF t' 21 (nI (nD s - 1))) = enB s := by funext k; unfold enB; rw [een]
      have grt : ∀ {z lo hi}, GrR G g h s z lo hi → GrR G g' h65 (mF t' 21 (nI (nD s - 1))) z lo hi := fun H => ((SaM.gr H Sa d1 sm).st p6 (by omega)).mv (Stq.rf _ _ (fun _ => True)) trivial (ObE.of (mF_1n _ _ (by omega)) rfl rfl rfl) rfl (fun i _ => ⟨rfl, fun _ _ => ⟨rfl, rfl⟩⟩)
      have hl1 : (dn.eraseIdx (nD s - 1)).length = nD s - 1 := by rw [List.length_eraseIdx, if_pos (by omega)]; omega
      refine ⟨by rw [w1, hl1], g', ⟨(RBt.st hmt p6 (fun r hr => by omega)).co (mF21.co _ _), (hz.st Sa ⟨Or.inl (by omega), by omega, by omega⟩).st p6 (by omega), dn.eraseIdx (nD s - 1), un ++ [r45], .null, ?_, p1b, p5, by rw [eD]; exact hl1, by rw [eD, eE, List.length_append, q5]; simp; omega, fun k z hk => ?_, fun j z hj => ?_, Or.inl ⟨by rw [e1 23 (by omega) (by omega)]; exact z1, rfl⟩⟩, (Sa.mo (fun r hr => by subst hr; exact ⟨Or.inl (by omega), by omega, by omega⟩)).tr (p6.mo (fun r hr => by omega)), g2x⟩
      · (rw [p7 22 (by omega), p7 24 (by omega)]; exact C8')
      · (rw [eB, een]; have hk2 := (List.getElem?_eq_some_iff.mp hk).1; rw [List.getElem?_eraseIdx, if_pos (by omega)] at hk; exact grt (q6 k z hk))
      · (rw [eB, een, eE]; rcases snoc_get hj with ⟨y1, y2⟩ | ⟨y1, y2⟩; exact grt (q7 j z y2); (subst y1 y2; rw [q5, show nEn s - 1 - (nEn s - nD s) = nD s - 1 by omega]; exact grt ⟨a, es, Ix, La, hlen, hed⟩))
    · skip
      refine V_bipush (v := -3) d_fe_undo_23 (by decide) ?_
      refine V_ireturn d_fe_undo_25 rfl ?_
      refine ⟨_, rfl, fun r' t hR => ?_⟩
      have d0 : nD s = 0 := by rw [← q4, b01_ne c20]; rfl
      obtain ⟨w1, w2⟩ := hR.t (Or.inr d0)
      exact ⟨w1.symm, Nc.rf R w2⟩
  · skip
    refine Ct.ofL (M := fe_undo) (lv := [some (.ref (g.2 2)), none]) mdf_fe_undo rfl (Nat.le_of_ble_eq_true rfl) rfl ?_
    refine V_aload_n d_fe_undo_0 rfl rfl ?_
    refine V_getf d_fe_undo_1 fl_fe_36 (by first | assumption | exact X.1 | exact hu_self _ _ _ | (simp (disch := first | assumption | (apply Ne.symm; assumption)) only [hu_self, hu_ne]; assumption)) rfl ?_
    refine V_getf d_fe_undo_4 fl_fe_255 q1.1 rfl ?_
    refine V_ifnonnull d_fe_undo_7 ?_
    refine V_bipush (v := -3) d_fe_undo_23 (by decide) ?_
    refine V_ireturn d_fe_undo_25 rfl ?_
    refine ⟨_, rfl, fun r' t hR => ?_⟩
    obtain ⟨w1, w2⟩ := hR.t (Or.inl z1)
    exact ⟨w1.symm, Nc.rf R w2⟩
def R_red (s : Mem) (r : Int32) (t : Mem) : Prop := cs (s.1 23 ≠ 0 ∨ nD s = nEn s) (No s (-3) r t) (r = nI (nEn s - (nD s + 1)) ∧ ∃ t', ReE (en s (nD s) - enB s (nD s)) (enB s (nD s)) s t' ∧ t = mF t' 21 (nI (nD s + 1)))
theorem sp_fe_redo (G : Gk) {g : Gm} {h : Hp} {s : Mem} (R : RC G g h s) (iv : Ivs s) (ivd : IvD s) : Ct G fe_redo [.ref (g.2 2)] h (pI fun r h' => ∀ r' t, R_red s r' t → r = r' ∧ Nc G g h h' t) := by
  have J := iv.j
  obtain ⟨hm, ivs, ivo, ivf, ivv, ivt, ivw, ivh, ivx, h512⟩ := iv
  have X := R.1.1
  have D60 : nEn s ≤ 60 := ivh.2.2.2.2.1
  have DE := ivh.2.2.2.1
  obtain ⟨hz, dn, un, v, q1, q2, q3, q4, q5, q6, q7, q8⟩ := R.2
  obtain ⟨mcd, dd, hdd⟩ := q3.o
  rcases q8 with ⟨z1, rfl⟩ | ⟨z1, x, es, rfl, y2, y3, y4, y5⟩
  · skip
    refine Ct.ofL (M := fe_redo) (lv := [some (.ref (g.2 2)), none]) mdf_fe_redo rfl (Nat.le_of_ble_eq_true rfl) rfl ?_
    refine V_aload_n d_fe_redo_0 rfl rfl ?_
    refine V_getf d_fe_redo_1 fl_fe_36 (by first | assumption | exact X.1 | exact hu_self _ _ _ | (simp (disch := first | assumption | (apply Ne.symm; assumption)) only [hu_self, hu_ne]; assumption)) rfl ?_
    refine V_getf d_fe_redo_4 fl_fe_255 q1.1 rfl ?_
    refine V_ifnonnullN d_fe_redo_7 ?_
    refine V_aload_n d_fe_redo_10 rfl rfl ?_
    refine V_getf d_fe_redo_11 fl_fe_36 (by first | assumption | exact X.1 | exact hu_self _ _ _ | (simp (disch := first | assumption | (apply Ne.symm; assumption)) only [hu_self, hu_ne]; assumption)) rfl ?_
    refine V_getf d_fe_redo_14 fl_fe_288 q1.1 rfl ?_
    refine V_callV (N := al_isEmpty) d_fe_redo_17 ml_fe_266 mdf_al_isEmpty wi_al_isEmpty wz_al_isEmpty (sp_ls_isEmpty G q3) hdd ⟨_, rfl, rfl⟩ rfl rfl (by decide) (by decide) (Nat.le_of_ble_eq_true rfl) rfl rfl (kI fun r17 h17 ⟨e17, f17⟩ => ?_)
    subst e17 f17
    refine V_if_eq d_fe_redo_20 (fun c20 => ?_) (fun c20 => ?_)
    · skip
      have hpos : nD s < nEn s := by rcases Nat.lt_or_ge (nD s) (nEn s) with z | z; exact z; exact absurd (List.eq_nil_of_length_eq_zero (by rw [q5]; omega)) (b01_e c20)
      obtain ⟨x, hx⟩ : ∃ x, un[nEn s - nD s - 1]? = some x := ⟨_, List.getElem?_eq_getElem (by omega)⟩
      have Gx := q7 _ x hx
      rw [show nEn s - 1 - (nEn s - nD s - 1) = nD s by omega] at Gx
      obtain ⟨a, es, Ix, La, hlen, hed⟩ := Gx
      have hle := encB_le ivh (k := nD s) (by omega)
      have hen := (ivh.2.2.2.2.2.2.2.1 (nD s) (by omega)).2
      have h690 := ivh.2.2.2.2.2.2.1
      refine V_aload_n d_fe_redo_26 rfl rfl ?_
      refine V_getf d_fe_redo_27 fl_fe_36 (by first | assumption | exact X.1 | exact hu_self _ _ _ | (simp (disch := first | assumption | (apply Ne.symm; assumption)) only [hu_self, hu_ne]; assumption)) rfl ?_
      refine V_getf d_fe_redo_30 fl_fe_288 q1.1 rfl ?_
      refine V_aload_n d_fe_redo_33 rfl rfl ?_
      refine V_getf d_fe_redo_34 fl_fe_36 (by first | assumption | exact X.1 | exact hu_self _ _ _ | (simp (disch := first | assumption | (apply Ne.symm; assumption)) only [hu_self, hu_ne]; assumption)) rfl ?_
      refine V_getf d_fe_redo_37 fl_fe_288 q1.1 rfl ?_
      refine V_callV (N := al_size) d_fe_redo_40 ml_fe_275 mdf_al_size wi_al_size wz_al_size (sp_ls_size G q3) hdd ⟨_, rfl, rfl⟩ rfl rfl (by decide) (by decide) (Nat.le_of_ble_eq_true rfl) rfl rfl (kI fun r40 h40 ⟨e40, f40⟩ => ?_)
      subst e40 f40
      rw [q5]
      refine V_iconst (v := 1) d_fe_redo_43 (by decide) ?_
      refine V_isub d_fe_redo_44 ?_
      rw [ixm (by omega)]
      refine V_callV (N := al_remove) d_fe_redo_45 ml_fe_284 mdf_al_remove wi_al_remove wz_al_remove (ls_remove G q3 (eOs_g (fun k z hk => (q7 k z hk).o)) hx) hdd ⟨_, rfl, rfl⟩ rfl rfl (by decide) (by decide) (Nat.le_of_ble_eq_true rfl) rfl rfl (kR fun r45 h45 ⟨e45, p1, p2⟩ => ?_)
      subst e45
      have Ix1 := Ix.st p2 (by omega)
      refine V_castY d_fe_redo_48 Ix1.1 (show vwCl[3]? = some _ from rfl) kl_fe_259 wo_castable_2 ?_
      refine V_astore_n d_fe_redo_51 rfl (by decide) rfl rfl ?_
      dsimp only [List.set]
      have R1 := R.1.st hm p2 (fun r hr => by omega)
      have X1 := R1.1
      refine V_aload_n d_fe_redo_52 rfl rfl ?_
      refine V_aload_n d_fe_redo_53 rfl rfl ?_
      refine V_callV (N := fe_doAgain) d_fe_redo_54 ml_fe_295 mdf_fe_doAgain wi_fe_doAgain wz_fe_doAgain (sp_fe_doAgain G R1 J Ix1 (La.st p2 (by omega)) (by omega) (fun i y hy => (hed i y hy).st p2 (by omega)) (fun i hi => ivd _ (by omega))) X1.1 ⟨_, rfl, rfl⟩ rfl rfl (by decide) (by decide) (Nat.le_of_ble_eq_true rfl) rfl rfl (kN fun h54 ⟨p3, p4⟩ => ?_)
      have Sa : Stq g h (fun r => PutD r ∧ r ≠ 24 ∧ r ≠ 25) g h54 := (p2.mo (fun r hr => hr.2)).tr (p4.mo (fun r hr => hr.1))
      have d8 : PutD 8 ∧ 8 ≠ 24 ∧ 8 ≠ 25 := ⟨Or.inl (by omega), by omega, by omega⟩
      have d1 : PutD 1 ∧ 1 ≠ 24 ∧ 1 ≠ 25 := ⟨Or.inl (by omega), by omega, by omega⟩
      have X2 : PX g h54 s := X.sg Sa ⟨Or.inl (by omega), by omega, by omega⟩
      have C8 := q1.st Sa d8
      have q2a := q2.st Sa ⟨Or.inl (by omega), by omega, by omega⟩ ⟨Or.inl (by omega), by omega, by omega⟩
      obtain ⟨mcu, du, hdu⟩ := q2a.o
      have p1a := p1.st p4 (Or.inl (by omega)) (Or.inl (by omega))
      have Ix2 := Ix.st Sa d1
      refine V_aload_n d_fe_redo_57 rfl rfl ?_
      refine V_getf d_fe_redo_58 fl_fe_36 X2.1 rfl ?_
      refine V_getf d_fe_redo_61 fl_fe_281 C8.1 rfl ?_
      refine V_aload_n d_fe_redo_64 rfl rfl ?_
      refine V_callV (N := al_add1) d_fe_redo_65 ml_fe_291 mdf_al_add1 wi_al_add1 wz_al_add1 (ls_add G (hz.st Sa ⟨Or.inl (by omega), by omega, by omega⟩) q2a (by decide) (by decide) (by decide) (eOs_g (fun k z hk => ((q6 k z hk).st Sa d1).o)) Ix2.1 (Or.inr rfl) (by omega)) hdu ⟨_, rfl, rfl⟩ rfl rfl (by decide) (by decide) (Nat.le_of_ble_eq_true rfl) rfl rfl (kI fun r65 h65 ⟨e65, g', p5, p6, p7⟩ => ?_)
      have C8' := C8.st p6 (by omega)
      have p1b := p1a.st p6 (by omega) (by omega)
      have X3 := X2.st p6 (by omega) (fun r _ _ => p7 r (by omega))
      obtain ⟨mc6, d6, hd6⟩ := p1b.o
      have g2x : g'.2 2 = g.2 2 := p7 2 (by omega)
      refine V_pop d_fe_redo_68 rfl ?_
      rw [← g2x]
      refine V_aload_n d_fe_redo_69 rfl rfl ?_
      refine V_getf d_fe_redo_70 fl_fe_36 X3.1 rfl ?_
      refine V_getf d_fe_redo_73 fl_fe_288 (by rw [p7 8 (by omega)]; have := C8'.1; rw [p7 8 (by omega)] at this; exact this) rfl ?_
      rw [← p7 24 (by omega)]
      refine V_callV (N := al_size) d_fe_redo_76 ml_fe_275 mdf_al_size wi_al_size wz_al_size (sp_ls_size G p1b) hd6 ⟨_, rfl, rfl⟩ rfl rfl (by decide) (by decide) (Nat.le_of_ble_eq_true rfl) rfl rfl (kI fun r76 h76 ⟨e76, f76⟩ => ?_)
      subst e76 f76
      refine V_ireturn d_fe_redo_79 rfl ?_
      refine ⟨_, rfl, fun r' t hR => ?_⟩
      obtain ⟨w1, t', w2, rfl⟩ := hR.f (fun z => z.elim (fun z => z z1) (fun z => by omega))
      obtain ⟨_, sm⟩ := ReE.same _ _ _ _ w2
      have RBt : RB g h54 t' := p3 t' (by rw [hlen]; exact w2)
      have hmt : Sm t' := by unfold Sm nS nO nP nW; rw [sm.1 0 (by omega), sm.1 8 (by omega), sm.1 33 (by omega), sm.1 25 (by omega)]; exact hm
      have e1 : ∀ q, q ≠ 16 → q ≠ 21 → (mF t' 21 (nI (nD s + 1))).1 q = s.1 q := fun q a b => by rw [mF_1n _ _ b]; exact sm.1 q a
      have eD : nD (mF t' 21 (nI (nD s + 1))) = nD s + 1 := by have e : nD (mF t' 21 (nI (nD s + 1))) = ((mF t' 21 (nI (nD s + 1))).1 21).toNatClampNeg := rfl; rw [e, mF_1s]; exact cl _ (by omega)
      have eE : nEn (mF t' 21 (nI (nD s + 1))) = nEn s := by unfold nEn; rw [e1 20 (by omega) (by omega)]
      have een : en (mF t' 21 (nI (nD s + 1))) = en s := by funext k; unfold en; rw [mF_2, sm.2 22 (by omega) (by omega) (by omega) (by omega)]
      have eB : enB (mF t' 21 (nI (nD s + 1))) = enB s := by funext k; unfold enB; rw [een]
      have grt : ∀ {z lo hi}, GrR G g h s z lo hi → GrR G g' h65 (mF t' 21 (nI (nD s + 1))) z lo hi := fun H => ((SaM.gr H Sa d1 sm).st p6 (by omega)).mv (Stq.rf _ _ (fun _ => True)) trivial (ObE.of (mF_1n _ _ (by omega)) rfl rfl rfl) rfl (fun i _ => ⟨rfl, fun _ _ => ⟨rfl, rfl⟩⟩)
      have hl1 : (un.eraseIdx (nEn s - nD s - 1)).length = nEn s - (nD s + 1) := by rw [List.length_eraseIdx, if_pos (by omega)]; omega
      refine ⟨by rw [w1, hl1], g', ⟨(RBt.st hmt p6 (fun r hr => by omega)).co (mF21.co _ _), (hz.st Sa ⟨Or.inl (by omega), by omega, by omega⟩).st p6 (by omega), dn ++ [r45], un.eraseIdx (nEn s - nD s - 1), .null, ?_, p5, p1b, by rw [eD, List.length_append, q4]; rfl, by rw [eD, eE]; exact hl1, fun k z hk => ?_, fun j z hj => ?_, Or.inl ⟨by rw [e1 23 (by omega) (by omega)]; exact z1, rfl⟩⟩, (Sa.mo (fun r hr => by subst hr; exact ⟨Or.inl (by omega), by omega, by omega⟩)).tr (p6.mo (fun r hr => by omega)), g2x⟩
      · (rw [p7 22 (by omega), p7 24 (by omega)]; exact C8')
      · (rw [eB, een]; rcases snoc_get hk with ⟨y1, y2⟩ | ⟨y1, y2⟩; exact grt (q6 k z y2); (subst y1 y2; rw [q4]; exact grt ⟨a, es, Ix, La, hlen, hed⟩))
      · (rw [eB, een, eE]; have hj2 := (List.getElem?_eq_some_iff.mp hj).1; rw [List.getElem?_eraseIdx, if_pos (by omega)] at hj; exact grt (q7 j z hj))
    · skip
      refine V_bipush (v := -3) d_fe_redo_23 (by decide) ?_
      refine V_ireturn d_fe_redo_25 rfl ?_
      refine ⟨_, rfl, fun r' t hR => ?_⟩
      have d0 : nD s = nEn s := by have : un.length = 0 := (by rw [b01_ne c20]; rfl); omega
      obtain ⟨w1, w2⟩ := hR.t (Or.inr d0)
      exact ⟨w1.symm, Nc.rf R w2⟩
  · skip
    refine Ct.ofL (M := fe_redo) (lv := [some (.ref (g.2 2)), none]) mdf_fe_redo rfl (Nat.le_of_ble_eq_true rfl) rfl ?_
    refine V_aload_n d_fe_redo_0 rfl rfl ?_
    refine V_getf d_fe_redo_1 fl_fe_36 (by first | assumption | exact X.1 | exact hu_self _ _ _ | (simp (disch := first | assumption | (apply Ne.symm; assumption)) only [hu_self, hu_ne]; assumption)) rfl ?_
    refine V_getf d_fe_redo_4 fl_fe_255 q1.1 rfl ?_
    refine V_ifnonnull d_fe_redo_7 ?_
    refine V_bipush (v := -3) d_fe_redo_23 (by decide) ?_
    refine V_ireturn d_fe_redo_25 rfl ?_
    refine ⟨_, rfl, fun r' t hR => ?_⟩
    obtain ⟨w1, w2⟩ := hR.t (Or.inl z1)
    exact ⟨w1.symm, Nc.rf R w2⟩
theorem m23_1 (s : Mem) {q : Nat} (h : q ≠ 23) : (mF s 23 0).1 q = s.1 q := mF_1n _ _ h
theorem m23_co (s : Mem) : CoB s (mF s 23 0) := ⟨fun q hq => m23_1 s (by unfold coF at hq; simp only [Bool.or_eq_true, beq_iff_eq] at hq; omega), fun q _ => rfl⟩
theorem m23_ob (s : Mem) : ObE s (mF s 23 0) := ObE.of (m23_1 s (by omega)) rfl rfl rfl
theorem m23_S (s : Mem) : nS (mF s 23 0) = nS s := by unfold nS; rw [m23_1 s (by omega)]
theorem m23_O (s : Mem) : nO (mF s 23 0) = nO s := by unfold nO; rw [m23_1 s (by omega)]
theorem m23_W (s : Mem) : nW (mF s 23 0) = nW s := by unfold nW; rw [m23_1 s (by omega)]
theorem m23_P (s : Mem) : nP (mF s 23 0) = nP s := by unfold nP; rw [m23_1 s (by omega)]
theorem m23_f (s : Mem) : nf (mF s 23 0) = nf s := rfl
theorem m23_s (s : Mem) : sh (mF s 23 0) = sh s := rfl
theorem m23_c (s : Mem) : wc (mF s 23 0) = wc s := rfl
theorem m23_2 (s : Mem) : (mF s 23 0).2 = s.2 := rfl
theorem Jv.m23 {s : Mem} (J : Jv s) : Jv (mF s 23 0) := by
  obtain ⟨hm, ivs, ivo, ivw, ivf, ivv⟩ := J
  refine ⟨by unfold Sm; rw [m23_S, m23_O, m23_P, m23_W]; exact hm, ?_, ?_, ?_, ?_, ?_⟩
  · unfold IvS; rw [m23_S, m23_1 s (by omega), m23_f, m23_2]; exact ivs
  · unfold IvO; rw [m23_S, m23_O, m23_1 s (by omega), m23_s, m23_2]; exact ivo
  · unfold IvW; rw [m23_S, m23_W, m23_1 s (by omega), m23_c, m23_2]; exact ivw
  · unfold IvF FOK; rw [m23_S, m23_f, m23_2]; exact ivf
  · unfold IvV VOK; rw [m23_O, m23_f, m23_s, m23_2]; exact ivv
theorem EdOK.m23 {s : Mem} {e : Nat} (H : EdOK s e) : EdOK (mF s 23 0) e := by
  unfold EdOK RwOK at *
  rw [m23_O, m23_f, m23_s, m23_2]
  exact H
def R_abt (s : Mem) (r : Int32) (t : Mem) : Prop := cs (s.1 23 = 0) (No s (-3) r t) (r = nI (gsz s) ∧ AbE (gsz s) (nE s) (mF s 23 0) t)
theorem sp_fe_abort (G : Gk) {g : Gm} {h : Hp} {s : Mem} (R : RC G g h s) (iv : Ivs s) (ivd : IvD s) : Ct G fe_abort [.ref (g.2 2)] h (pI fun r h' => ∀ r' t, R_abt s r' t → r = r' ∧ Nc G g h h' t) := by
  have J := iv.j
  obtain ⟨hm, ivs, ivo, ivf, ivv, ivt, ivw, ivh, ivx, h512⟩ := iv
  have X := R.1.1
  have h690 := ivh.2.2.2.2.2.2.1
  obtain ⟨hz, dn, un, v, q1, q2, q3, q4, q5, q6, q7, q8⟩ := R.2
  rcases q8 with ⟨z1, rfl⟩ | ⟨z1, x, es, rfl, y2, y3, y4, y5⟩
  · skip
    refine Ct.ofL (M := fe_abort) (lv := [some (.ref (g.2 2)), none]) mdf_fe_abort rfl (Nat.le_of_ble_eq_true rfl) rfl ?_
    refine V_aload_n d_fe_abort_0 rfl rfl ?_
    refine V_getf d_fe_abort_1 fl_fe_36 (by first | assumption | exact X.1 | exact hu_self _ _ _ | (simp (disch := first | assumption | (apply Ne.symm; assumption)) only [hu_self, hu_ne]; assumption)) rfl ?_
    refine V_getf d_fe_abort_4 fl_fe_255 q1.1 rfl ?_
    refine V_astore_nN d_fe_abort_7 rfl (by decide) rfl rfl ?_
    dsimp only [List.set]
    refine V_aload_nN d_fe_abort_8 rfl rfl ?_
    refine V_ifnonnullN d_fe_abort_9 ?_
    refine V_bipush (v := -3) d_fe_abort_12 (by decide) ?_
    refine V_ireturn d_fe_abort_14 rfl ?_
    refine ⟨_, rfl, fun r' t hR => ?_⟩
    obtain ⟨w1, w2⟩ := hR.t z1
    exact ⟨w1.symm, Nc.rf R w2⟩
  · have nX8 : g.2 2 ≠ g.2 8 := X.ne q1 (by omega)
    have S1 := Stq.put (h := h) q1.2 (4, [.ref (g.2 22), .ref (g.2 24), .null])
    have C8 := Cl.put (h := h) q1.2 (4, [.ref (g.2 22), .ref (g.2 24), .null])
    have y31 := y3.st S1 (by omega) (by omega)
    obtain ⟨gi, Si, Li, ei⟩ := y31.im
    have y21 := y2.st S1 (by omega)
    have S2 : Stq g h (fun r => r ≠ 8 ∧ r ≠ 26 ∧ r ≠ 27) gi (hu h (g.2 8) (4, [.ref (g.2 22), .ref (g.2 24), .null])) := (S1.mo (fun r hr => hr.1)).tr (Si.mo (fun r hr => ⟨hr.2.1, hr.2.2⟩))
    have C8i := C8.st Si (by omega)
    have Ix := y21.st Si (by omega)
    have Ri : RB gi (hu h (g.2 8) (4, [.ref (g.2 22), .ref (g.2 24), .null])) s := R.1.st8 hm S2 (fun r hr => by omega) (by rw [ei])
    have hgs : gsz s = 0 ∨ (gsz s = nE s - gF s ∧ gF s < nE s ∧ nEn s = nD s) := by
      by_cases z : gF s < nE s ∧ nEn s = nD s
      · exact Or.inr ⟨if_pos z, z⟩
      · exact Or.inl (if_neg z)
    have hco0 := m23_co s
    have hO0 := m23_ob s
    have J0 := J.m23
    have hok0 : ∀ e, EdOK s e → EdOK (mF s 23 0) e := fun e H => H.m23
    have P25 := sp_fe_takeBack G (lo := gF s) (Ri.co hco0) J0 Ix Li (by omega) (fun i y hy => (y5 i y hy).mv S2 (by omega) hO0 rfl (fun _ _ => ⟨rfl, rfl⟩)) (fun i hi => hok0 _ (ivd _ (by omega)))
    rw [ei] at P25
    have Xi := Ri.1.1
    rw [ei] at Xi
    refine Ct.ofL (M := fe_abort) (lv := [some (.ref (g.2 2)), none]) mdf_fe_abort rfl (Nat.le_of_ble_eq_true rfl) rfl ?_
    refine V_aload_n d_fe_abort_0 rfl rfl ?_
    refine V_getf d_fe_abort_1 fl_fe_36 (by first | assumption | exact X.1 | exact hu_self _ _ _ | (simp (disch := first | assumption | (apply Ne.symm; assumption)) only [hu_self, hu_ne]; assumption)) rfl ?_
    refine V_getf d_fe_abort_4 fl_fe_255 q1.1 rfl ?_
    refine V_astore_n d_fe_abort_7 rfl (by decide) rfl rfl ?_
    dsimp only [List.set]
    refine V_aload_n d_fe_abort_8 rfl rfl ?_
    refine V_ifnonnull d_fe_abort_9 ?_
    refine V_aload_n d_fe_abort_15 rfl rfl ?_
    refine V_getf d_fe_abort_16 fl_fe_36 X.1 rfl ?_
    refine V_null d_fe_abort_19 ?_
    refine V_putf d_fe_abort_20 fp_fe_255 rfl rfl q1.1 ?_
    refine V_aload_n d_fe_abort_23 rfl rfl ?_
    refine V_aload_n d_fe_abort_24 rfl rfl ?_
    refine V_callV (N := fe_takeBack) d_fe_abort_25 ml_fe_278 mdf_fe_takeBack wi_fe_takeBack wz_fe_takeBack (P25) Xi ⟨_, rfl, rfl⟩ rfl rfl (by decide) (by decide) (Nat.le_of_ble_eq_true rfl) rfl rfl (kN fun h25 ⟨p3, p4⟩ => ?_)
    refine V_aload_n d_fe_abort_28 rfl rfl ?_
    refine V_getf d_fe_abort_29 fl_fe_262 (Ix.st p4 (Or.inl (by omega))).1 rfl ?_
    obtain ⟨d4, cap4, hA4⟩ := (Li.st p4 (Or.inl (by omega))).al
    obtain ⟨mc4, hd4⟩ := hA4.1
    refine V_callV (N := al_size) d_fe_abort_32 ml_fe_275 mdf_al_size wi_al_size wz_al_size (sp_al_size G hA4) hd4 ⟨_, rfl, rfl⟩ rfl rfl (by decide) (by decide) (Nat.le_of_ble_eq_true rfl) rfl rfl (kI fun r32 h32 ⟨e32, f32⟩ => ?_)
    subst e32 f32
    refine V_ireturn d_fe_abort_35 rfl ?_
    refine ⟨_, rfl, fun r' t hR => ?_⟩
    obtain ⟨w1, w2⟩ := hR.f z1
    have ch := AbE.ch _ _ _ _ w2
    have sm := GoCh.same _ _ _ _ ch
    have e1 : ∀ q, q ≠ 16 → q ≠ 23 → t.1 q = s.1 q := fun q a b => by rw [sm.1 q a, mF_1n _ _ b]
    have sm' : ∀ q, q ≠ 10 → q ≠ 11 → q ≠ 30 → q ≠ 31 → t.2 q = s.2 q := fun q a b c d => sm.2 q a b c d
    have RBt : RB gi h25 t := by rcases hgs with z | ⟨z2, z3, z4⟩; (rw [z] at ch; have ch0 : t = mF s 23 0 := ch; exact p3 true (mF s 23 0) t ⟨rfl, fun _ _ => rfl⟩ (by rw [y4, z]; exact (show GoCh true 0 (gF s + 0) (mF s 23 0) t from ch0))); exact p3 true (mF s 23 0) t ⟨rfl, fun _ _ => rfl⟩ (by rw [y4, show gF s + gsz s = nE s by omega]; exact ch)
    have hO : ObE s t := ObE.of (e1 8 (by omega) (by omega)) (sm' 2 (by omega) (by omega) (by omega) (by omega)) (sm' 3 (by omega) (by omega) (by omega) (by omega)) (sm' 9 (by omega) (by omega) (by omega) (by omega))
    have eD : nD t = nD s := by unfold nD; rw [e1 21 (by omega) (by omega)]
    have eE : nEn t = nEn s := by unfold nEn; rw [e1 20 (by omega) (by omega)]
    have een : en t = en s := by funext k; unfold en; rw [sm' 22 (by omega) (by omega) (by omega) (by omega)]
    have eB : enB t = enB s := by funext k; unfold enB; rw [een]
    have Sf : Stq g h (fun r => PutD r ∧ r ≠ 8 ∧ r ≠ 26 ∧ r ≠ 27) gi h25 := (S2.mo (fun r hr => hr.2)).tr (p4.mo (fun r hr => hr.1))
    have grt : ∀ {z lo hi}, GrR G g h s z lo hi → GrR G gi h25 t z lo hi := fun H => H.mv Sf ⟨Or.inl (by omega), by omega, by omega, by omega⟩ hO rfl (fun i _ => ⟨by rw [sm' 17 (by omega) (by omega) (by omega) (by omega)], fun k _ => ⟨by rw [sm' 18 (by omega) (by omega) (by omega) (by omega)], by rw [sm' 19 (by omega) (by omega) (by omega) (by omega)]⟩⟩)
    refine ⟨by rw [w1, y4], gi, ⟨RBt, hz.st Sf ⟨Or.inl (by omega), by omega, by omega, by omega⟩, dn, un, .null, ?_, q2.st Sf ⟨Or.inl (by omega), by omega, by omega, by omega⟩ ⟨Or.inl (by omega), by omega, by omega, by omega⟩, q3.st Sf ⟨Or.inl (by omega), by omega, by omega, by omega⟩ ⟨Or.inl (by omega), by omega, by omega, by omega⟩, by rw [eD]; exact q4, by rw [eD, eE]; exact q5, fun k z hk => ?_, fun j z hj => ?_, Or.inl ⟨by rw [sm.1 23 (by omega), mF_1s], rfl⟩⟩, Sf.mo (fun r hr => by subst hr; exact ⟨Or.inl (by omega), by omega, by omega, by omega⟩), by rw [ei]⟩
    · (rw [ei]; exact C8i.st p4 (Or.inl (by omega)))
    · (rw [eB, een]; exact grt (q6 k z hk))
    · (rw [eB, een, eE]; exact grt (q7 j z hj))
