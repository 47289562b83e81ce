/-! the law: its start -/
def gz (g : Gm) (h : Hp) : Gm := (fun a => (h a).elim 0 (fun _ => g.1 a), g.2)
theorem gz_n {g : Gm} {h : Hp} {a : Nat} (e : h a = none) : (gz g h).1 a = 0 := by
  show (h a).elim 0 (fun _ => g.1 a) = 0
  rw [e]; rfl
theorem gz_s {g : Gm} {h : Hp} {a : Nat} (e : h a ≠ none) : (gz g h).1 a = g.1 a := by
  show (h a).elim 0 (fun _ => g.1 a) = g.1 a
  cases z : h a with
  | none => exact absurd z e
  | some c => rfl
theorem law_start {G : Gk} {nm : String} {b L : Nat} {xs : Nat → Int32} {h : Hp} (hL : L ≤ 3584) (hz : Zr G h) (hb : h b = some (31, scrL L xs)) : V G (la nm) (pI fun r _ => r = 1) h 600000 7302250 0 [some (.ref b), none, none, none] [] := by
  refine V.need (cr := 600 * 512 + 60 + 1 + 30 + 1) (sr := 3480 * 512 + 26000 + 46 + 700 + 14) ?_ (by omega) (by omega)
  refine V_new d_la_law_0 nw_la_7 (fun x hx => ?_)
  refine V_dup d_la_law_3 rfl ?_
  have hbx : b ≠ x := fun e => by rw [e, hx] at hb; cases hb
  refine V_callI (N := fe_init) (As := []) d_la_law_4 ml_la_9 mdf_fe_init wi_fe_init rfl rfl (sp_fe_init G (hu_self _ _ _) (hz.put _ hx)) rfl rfl (Nat.le_of_ble_eq_true rfl) (by decide) (Nat.le_of_ble_eq_true rfl) rfl rfl (kN fun h1 p1 => ?_)
  obtain ⟨g, eg, R, k1⟩ := p1
  refine V_astore_n d_la_law_7 rfl (Nat.le_of_ble_eq_true rfl) rfl rfl ?_
  refine V_new d_la_law_8 nw_la_10 (fun m hm => ?_)
  refine V_dup d_la_law_11 rfl ?_
  refine V_callI (N := md_init) (As := []) d_la_law_12 ml_la_12 mdf_md_init wi_md_init rfl rfl (sp_md_init G (hu_self _ _ _)) rfl rfl (Nat.le_of_ble_eq_true rfl) (by decide) (Nat.le_of_ble_eq_true rfl) rfl rfl (kN fun h2 p2 => ?_)
  obtain ⟨am, r2, n2, k2⟩ := p2
  refine V_astore_n d_la_law_15 rfl (Nat.le_of_ble_eq_true rfl) rfl rfl ?_
  refine V_iconst (v := nI (7 * 0)) d_la_law_16 (by decide) ?_
  refine V_istore_n d_la_law_17 rfl (Nat.le_of_ble_eq_true rfl) rfl rfl ?_
  have hb1 := k1 b hbx (by rw [hu_ne _ _ hbx, hb]; simp)
  rw [hu_ne _ _ hbx, hb] at hb1
  have old : ∀ a, h1 a ≠ none → h2 a = h1 a := fun a ha => by
    have e : a ≠ m := fun z => ha (by rw [z]; exact hm)
    rw [k2 a e (by rw [hu_ne _ _ e]; exact ha), hu_ne _ _ e]
  have S : Stq g h1 (fun _ => True) (gz g h1) h2 := ⟨fun a ha _ => ⟨old a ha, gz_s ha⟩, fun _ _ => rfl⟩
  have hb1n : h1 b ≠ none := by rw [hb1.1]; simp
  refine law_loop hL 512 0 h2 s0M rfl ⟨gz g h1, am, eg, R.st Inv.zero.sm S (fun _ _ => trivial), r2, fun a ha => ?_, by rw [old b hb1n]; exact hb1.1, by rw [gz_s hb1n]; exact hb1.2⟩ Inv.zero
  rcases ha with rfl | ⟨j, hj, rfl⟩
  · exact gz_n hm
  · have e := n2 j hj
    by_cases z : am j = m
    · rw [z]; exact gz_n hm
    · rw [hu_ne _ _ z] at e; exact gz_n e
