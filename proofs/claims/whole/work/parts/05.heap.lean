/-! heap rows, calls, ends -/
theorem cls_lt {k : Nat} {r : vw_C} (hc : vwCl[k]? = some r) : k < 14 := (List.getElem?_eq_some_iff.mp hc).1
theorem cls_all {P : Nat → vw_C → Prop} (h0 : P 0 (RJx4a65c, TJx4a65c, 3)) (h1 : P 1 (RX0, TX0, 4)) (h2 : P 2 (RX1, TX1, 5)) (h3 : P 3 (RX2, TX2, 1)) (h4 : P 4 (RX3, TX3, 3)) (h5 : P 5 (RX4, TX4, 4)) (h6 : P 6 (RX5, TX5, 3)) (h7 : P 7 (RX6, TX6, 3)) (h8 : P 8 (RX7, TX7, 4)) (h9 : P 9 (RX8, TX8, 3)) (h10 : P 10 (RX9, TX9, 2)) (h11 : P 11 (RX10, TX10, 8)) (h12 : P 12 (RX11, TX11, 14)) (h13 : P 13 (RX12, TX12, 46)) {k : Nat} {r : vw_C} (hc : vwCl[k]? = some r) : P k r := by
  match k, hc with
  | 0, hc => cases hc; exact h0
  | 1, hc => cases hc; exact h1
  | 2, hc => cases hc; exact h2
  | 3, hc => cases hc; exact h3
  | 4, hc => cases hc; exact h4
  | 5, hc => cases hc; exact h5
  | 6, hc => cases hc; exact h6
  | 7, hc => cases hc; exact h7
  | 8, hc => cases hc; exact h8
  | 9, hc => cases hc; exact h9
  | 10, hc => cases hc; exact h10
  | 11, hc => cases hc; exact h11
  | 12, hc => cases hc; exact h12
  | 13, hc => cases hc; exact h13
  | k + 14, hc => exact absurd (cls_lt hc) (by omega)
theorem lay_good {C : String} {T : u_T} {N : Nat} (h : ∀ w ∈ u_ws C T N, w ∈ lw_tbl) : ∀ w ∈ u_ws C T N, w ∈ tb := by
  intro w hw
  refine tb_in (h w hw) ?_
  obtain ⟨k, -, rfl⟩ := List.mem_map.mp hw
  unfold u_lay
  split <;> rfl
theorem lay_tb {k : Nat} {r : vw_C} (hc : vwCl[k]? = some r) : ∀ w ∈ u_ws r.1 r.2.1 r.2.2, w ∈ tb :=
  cls_all (P := fun _ r => ∀ w ∈ u_ws r.1 r.2.1 r.2.2, w ∈ tb) (lay_good tb_lay_0) (lay_good tb_lay_1) (lay_good tb_lay_2) (lay_good tb_lay_3) (lay_good tb_lay_4) (lay_good tb_lay_5) (lay_good tb_lay_6) (lay_good tb_lay_7) (lay_good tb_lay_8) (lay_good tb_lay_9) (lay_good tb_lay_10) (lay_good tb_lay_11) (lay_good tb_lay_12) (lay_good tb_lay_13) hc
/-- types of the fields, and their names are apart -/
def TyN (r : vw_C) : Prop := ∃ ty0 : Nat → FieldType, (∀ k, k < r.2.2 → parseFieldDescriptor (r.2.1 k).2.2.1 = some (ty0 k)) ∧ (∀ a, a < r.2.2 → ∀ b, b < r.2.2 → a ≠ b → (r.2.1 a).2.1 ≠ (r.2.1 b).2.1)
theorem cls_ty {k : Nat} {r : vw_C} (hc : vwCl[k]? = some r) : TyN r :=
  cls_all (P := fun _ r => TyN r) ⟨tyJx4a65c, tyJx4a65c_ok, nmJx4a65c⟩ ⟨tyX0, tyX0_ok, nmX0⟩ ⟨tyX1, tyX1_ok, nmX1⟩ ⟨tyX2, tyX2_ok, nmX2⟩ ⟨tyX3, tyX3_ok, nmX3⟩ ⟨tyX4, tyX4_ok, nmX4⟩ ⟨tyX5, tyX5_ok, nmX5⟩ ⟨tyX6, tyX6_ok, nmX6⟩ ⟨tyX7, tyX7_ok, nmX7⟩ ⟨tyX8, tyX8_ok, nmX8⟩ ⟨tyX9, tyX9_ok, nmX9⟩ ⟨tyX10, tyX10_ok, nmX10⟩ ⟨tyX11, tyX11_ok, nmX11⟩ ⟨tyX12, tyX12_ok, nmX12⟩ hc
def dfl : Nat → List Value
  | 0 => [.int 0, .null, .int 0]
  | 1 => [.int 0, .int 0, .null, .null]
  | 2 => [.int 0, .int 0, .int 0, .int 0, .int 0]
  | 3 => [.null]
  | 4 => [.null, .null, .null]
  | 5 => [.null, .null, .null, .int 0]
  | 6 => [.null, .null, .int 0]
  | 7 => [.null, .null, .int 0]
  | 8 => [.int 0, .null, .int 0, .int 0]
  | 9 => [.null, .null, .int 0]
  | 10 => [.int 0, .null]
  | 11 => [.int 0, .int 0, .int 0, .int 0, .null, .null, .null, .int 0]
  | 12 => [.null, .int 0, .null, .int 0, .null, .int 0, .null, .int 0, .null, .null, .null, .null, .null, .null]
  | _ => (List.range 46).map (fun j => defaultValue (tyX12 j))
def DfN (k : Nat) (r : vw_C) : Prop := (dfl k).length = r.2.2 ∧ ∃ ty0 : Nat → FieldType, (∀ k, k < r.2.2 → parseFieldDescriptor (r.2.1 k).2.2.1 = some (ty0 k)) ∧ ∀ j, j < r.2.2 → defaultValue (ty0 j) = vp_V (dfl k) j
theorem cls_df {k : Nat} {r : vw_C} (hc : vwCl[k]? = some r) : DfN k r :=
  cls_all (P := DfN) ⟨rfl, tyJx4a65c, tyJx4a65c_ok, by decide⟩ ⟨rfl, tyX0, tyX0_ok, by decide⟩ ⟨rfl, tyX1, tyX1_ok, by decide⟩ ⟨rfl, tyX2, tyX2_ok, by decide⟩ ⟨rfl, tyX3, tyX3_ok, by decide⟩ ⟨rfl, tyX4, tyX4_ok, by decide⟩ ⟨rfl, tyX5, tyX5_ok, by decide⟩ ⟨rfl, tyX6, tyX6_ok, by decide⟩ ⟨rfl, tyX7, tyX7_ok, by decide⟩ ⟨rfl, tyX8, tyX8_ok, by decide⟩ ⟨rfl, tyX9, tyX9_ok, by decide⟩ ⟨rfl, tyX10, tyX10_ok, by decide⟩ ⟨rfl, tyX11, tyX11_ok, by decide⟩ ⟨rfl, tyX12, tyX12_ok, by decide⟩ hc
def tyA : Nat → FieldType
  | 20 => .int
  | 21 => .boolean
  | 22 => .object "FieldEditor$Field"
  | 23 => .object "FieldEditor$Path"
  | 24 => .object "FieldEditor$Shape"
  | 25 => .object "FieldEditor$Thing"
  | 26 => .object "FieldEditor$Watch"
  | 27 => .object "java/lang/Object"
  | _ => .array .int
theorem tys_at (G : Gk) {k : Nat} (h1 : 20 ≤ k) (h2 : k < 29) : (tysG G)[k - 20]? = some (G.2.1 k, tyA k) := by
  rcases (show k = 20 ∨ k = 21 ∨ k = 22 ∨ k = 23 ∨ k = 24 ∨ k = 25 ∨ k = 26 ∨ k = 27 ∨ k = 28 by omega) with rfl | rfl | rfl | rfl | rfl | rfl | rfl | rfl | rfl <;> rfl
theorem aCell_size (c : ClassId) (vs : List Value) : (aCell c vs).slots.size = vs.length := arrV_size _ _ _
theorem aCell_read (c : ClassId) {vs : List Value} {j : Nat} {v : Value} (h : vs[j]? = some v) : (aCell c vs).slots[j]? = some v := by
  have hj := (List.getElem?_eq_some_iff.mp h).1
  unfold aCell
  rw [arrV_read _ _ hj, List.getD_eq_getElem?_getD, h]
  rfl
theorem aCell_store (c : ClassId) {vs : List Value} {j : Nat} (v : Value) (hj : j < vs.length) : (aCell c vs).setSlot j v = aCell c (vs.set j v) := by
  unfold aCell
  rw [arrV_store, List.length_set]
  congr 1
  funext q
  unfold updV
  by_cases e : q = j
  · subst e
    rw [if_pos rfl, List.getD_eq_getElem?_getD, List.getElem?_set_self hj]
    rfl
  · rw [if_neg e]
    dsimp only
    rw [List.getD_eq_getElem?_getD, List.getD_eq_getElem?_getD, List.getElem?_set_ne (Ne.symm e)]
theorem aCell_new (c : ClassId) (n : Nat) (x : Value) : arrV c n (fun _ => x) = aCell c (List.replicate n x) := by
  unfold aCell
  rw [List.length_replicate]
  unfold arrV
  congr 1
  congr 1
  funext j
  dsimp only
  rw [List.getD_eq_getElem?_getD, List.getElem?_replicate, if_pos j.2]
  rfl
theorem aCell_arr {G : Gk} {s : State} (hK : KK G s) {k : Nat} (h1 : 20 ≤ k) (h2 : k < 29) (vs : List Value) : s.isArrayOf (aCell (G.2.1 k) vs) (tyA k) := (hK.1.2 _ _ (tys_at G h1 h2)).1 _ _
theorem ix_in {j n : Nat} {i : Int32} (hi : i = nI j) (hj : j < 2147483648) (hn : j < n) : ¬ (i < 0 ∨ n ≤ i.toNatClampNeg) := by
  subst hi
  rintro (q | q)
  · exact nI_pos (by omega) q
  · rw [nI_clamp (by omega)] at q
    omega
section Rows
variable {G : Gk} {M : MI} {post : Option Value → Hp → Prop} {h : Hp} {cr sr pc pc2 : Nat} {lv : List (Option Value)} {st : List Value}
theorem V_getf {k j idx a : Nat} {vs : List Value} {v : Value} (d : DC M.2.1 pc (.getfield idx) 3 pc2) (fl : FL M.1.cls idx k j) (ha : h a = some (k, vs)) (hv : vs[j]? = some v) (kk : V G M post h cr sr pc2 lv (v :: st)) : V G M post h cr sr pc lv (.ref a :: st) := by
  intro p l e s m args below meth c A H locs cells slots ls S
  obtain ⟨d1, rfl⟩ := d
  obtain ⟨⟨C, T, N⟩, ref, hc, hj, hl, hsm⟩ := fl
  have hts := S.1.2.2.2.2.2.2.2.1
  have hK := S.1.2.2.2.2.2.2.2.2.1
  obtain ⟨r, h1, h2, h3⟩ := (S.2.1 a k vs ha).obj (cls_lt hc)
  refine va_get (D := G.1) (cl := vwCl) (tys := tysG G) (ws := [(a, .inr (k, vs))]) (ci := k) (v := v) (C := C) (T := T) (N := N) (ref := ref) S.1.1 S.1.2.1 hts (lay_tb hc) S.1.2.2.2.2.2.1 hK.1 (fun q x hx => ?_) 0 rfl hc j hj (hts _ (tb_in hl rfl)) (fun x hx => ?_) hv d1 (kk p l e s m args below meth c A H locs cells slots ls S)
  · have hq : q = 0 := by
      have := (List.getElem?_eq_some_iff.mp hx).1
      simpa using this
    subst hq
    cases hx
    exact ⟨r, h1, h2⟩
  · rcases hsm with e | e
    · rw [← e]; exact hx
    · exact u_same (hts _ (tb_in e rfl)) x hx
/-- a field that is written: its type, and whether it is final -/
def FP (own : String) (idx k j : Nat) (ty : FieldType) (fin : Bool) : Prop := FL own idx k j ∧ ∃ r : vw_C, vwCl[k]? = some r ∧ parseFieldDescriptor (r.2.1 j).2.2.1 = some ty ∧ (r.2.1 j).2.2.2 = fin ∧ (fin = true → (r.2.1 j).1 = own)
theorem V_putf {k j idx a : Nat} {vs : List Value} {v : Value} {ty : FieldType} (d : DC M.2.1 pc (.putfield idx) 3 pc2) (fp : FP M.1.cls idx k j ty false) (hn : narrow ty v = v) (hfit : fits ty v = true) (ha : h a = some (k, vs)) (kk : V G M post (hu h a (k, vs.set j v)) cr sr pc2 lv st) : V G M post h cr sr pc lv (v :: .ref a :: st) := by
  intro p l e s m args below meth c A H locs cells slots ls S
  obtain ⟨C0, hH, hD, hS, hb, hl0⟩ := S
  obtain ⟨d1, rfl⟩ := d
  obtain ⟨⟨⟨C, T, N⟩, ref, hc, hj, hl, hsm⟩, r0, hc0, hd, hfin, -⟩ := fp
  cases hc.symm.trans hc0
  have hts := C0.2.2.2.2.2.2.2.1
  have hK := C0.2.2.2.2.2.2.2.2.1
  have hk14 := cls_lt hc
  obtain ⟨r, h1, ⟨cell, q1, q2, q3, q4⟩, h3⟩ := (hH a k vs ha).obj hk14
  cases hc.symm.trans h1
  obtain ⟨ty0, hty, hnm⟩ := cls_ty hc
  have hap := va_apart (own := M.1.cls) (D := G.1) (cl := vwCl) (tys := tysG G) hts (lay_tb hc) ty0 hty hnm hK.1 hc
  obtain ⟨hSl, hfc, kC, hkC, hkind⟩ := hK.1.1 k _ hc
  obtain ⟨cf, kf, fi, f, hi, hsl⟩ := hSl j hj
  have hlay := hts _ (lay_tb hc _ (u_in_lay hj))
  unfold u_lay at hlay
  dsimp only at hfin hd
  rw [if_neg (by rw [hfin]; decide)] at hlay
  have hst := (u_facts hfc hkC (u_lays hts (lay_tb hc) hj) hi).1
  have h6 := u_store hfc hkC hkind hlay hi hd hn hfit
  have hsame : s.fieldFound? ref (T j).2.1 (T j).2.2.1 = some (cf, kf, fi, f) := by
    rcases hsm with e | e
    · dsimp only at e; rw [← e]; exact hi
    · exact u_same (hts _ (tb_in e rfl)) _ hi
  refine W.putK C0.1 C0.2.1 (f := f) ⟨C0.2.2.2.2.2.1, hts _ (tb_in hl rfl), ⟨_, _, _, hsame⟩, hst⟩ (by rw [q2]; exact h6) q1 q3 (by rw [hsl]; exact k2_hasslot (q4 j hj)) rfl rfl d1 fun H' e1 e2 e3 => ?_
  rw [hsl] at e1 ⊢
  have hAa : A a := hD a k vs ha (by omega)
  refine kk p l e s m args below meth c A H' _ cells slots ls ⟨C0, hH.put ?_ e3, hD.put _ hAa, hS.put e2 e3 hAa, hb, hl0⟩
  unfold cIs
  rw [if_pos hk14]
  exact ⟨_, hc, t_OB.to (V := updV (vp_V vs) j v) ⟨_, e1, q2, q3, t_set q4 hap hj v⟩ (fun q _ => vp_updV_set (by rw [h3]; exact hj) v q), by rw [List.length_set]; exact h3⟩
theorem V_putF {k j idx a : Nat} {vs : List Value} {v : Value} {ty : FieldType} (d : DC M.2.1 pc (.putfield idx) 3 pc2) (fp : FP M.1.cls idx k j ty true) (hini : M.1.name = "<init>") (hn : narrow ty v = v) (hfit : fits ty v = true) (ha : h a = some (k, vs)) (kk : V G M post (hu h a (k, vs.set j v)) cr sr pc2 lv st) : V G M post h cr sr pc lv (v :: .ref a :: st) := by
  intro p l e s m args below meth c A H locs cells slots ls S
  obtain ⟨C0, hH, hD, hS, hb, hl0⟩ := S
  obtain ⟨d1, rfl⟩ := d
  obtain ⟨⟨⟨C, T, N⟩, ref, hc, hj, hl, hsm⟩, r0, hc0, hd, hfin, hdecl⟩ := fp
  cases hc.symm.trans hc0
  have hts := C0.2.2.2.2.2.2.2.1
  have hK := C0.2.2.2.2.2.2.2.2.1
  have hk14 := cls_lt hc
  obtain ⟨r, h1, ⟨cell, q1, q2, q3, q4⟩, h3⟩ := (hH a k vs ha).obj hk14
  cases hc.symm.trans h1
  obtain ⟨ty0, hty, hnm⟩ := cls_ty hc
  have hap := va_apart (own := M.1.cls) (D := G.1) (cl := vwCl) (tys := tysG G) hts (lay_tb hc) ty0 hty hnm hK.1 hc
  obtain ⟨hSl, hfc, kC, hkC, hkind⟩ := hK.1.1 k _ hc
  obtain ⟨cf, kf, fi, f, hi, hsl⟩ := hSl j hj
  have hst := (u_facts hfc hkC (u_lays hts (lay_tb hc) hj) hi).1
  have h6 := u_fits hfc hkC hkind (u_lays hts (lay_tb hc) hj) hi hd hn hfit
  have hsame : s.fieldFound? ref (T j).2.1 (T j).2.2.1 = some (cf, kf, fi, f) := by
    rcases hsm with e | e
    · dsimp only at e; rw [← e]; exact hi
    · exact u_same (hts _ (tb_in e rfl)) _ hi
  have hlay := hts _ (lay_tb hc _ (u_in_lay hj))
  unfold u_lay at hlay
  dsimp only at hfin
  rw [if_pos hfin] at hlay
  have hcf : m.cls = cf := by
    obtain ⟨_, _, c', _, _, _, -, -, hf', -, -, -, hown2, -⟩ := Cond.laysFinal_spec hlay
    have e1 : c' = cf := by have := hi.symm.trans hf'; simp at this; exact this.1.symm
    have e2 := hdecl rfl
    dsimp only at e2
    rw [e2] at hown2
    rw [← e1]; exact Option.some.inj (C0.2.2.2.2.2.1.symm.trans hown2)
  refine W.putFinK C0.1 C0.2.1 C0.2.2.2.2.2.1 (hts _ (tb_in hl rfl)) hsame hst hcf (C0.2.2.2.2.2.2.1.trans hini) (by rw [q2]; exact h6) q1 q3 (by rw [hsl]; exact k2_hasslot (q4 j hj)) rfl rfl d1 fun H' e1 e2 e3 => ?_
  rw [hsl] at e1 ⊢
  have hAa : A a := hD a k vs ha (by omega)
  refine kk p l e s m args below meth c A H' _ cells slots ls ⟨C0, hH.put ?_ e3, hD.put _ hAa, hS.put e2 e3 hAa, hb, hl0⟩
  unfold cIs
  rw [if_pos hk14]
  exact ⟨_, hc, t_OB.to (V := updV (vp_V vs) j v) ⟨_, e1, q2, q3, t_set q4 hap hj v⟩ (fun q _ => vp_updV_set (by rw [h3]; exact hj) v q), by rw [List.length_set]; exact h3⟩
theorem V_iald {a : Nat} {vs : List Value} {i : Int32} {v : Value} (j : Nat) (d : DC M.2.1 pc .iaload 1 pc2) (ha : h a = some (20, vs)) (hi : i = nI j) (hj : j < 2147483648) (hv : vs[j]? = some v) (kk : V G M post h cr sr pc2 lv (v :: st)) : V G M post h cr sr pc lv (.int i :: .ref a :: st) := by
  intro p l e s m args below meth c A H locs cells slots ls S
  obtain ⟨d1, rfl⟩ := d
  have hK := S.1.2.2.2.2.2.2.2.2.1
  have hlt := (List.getElem?_eq_some_iff.mp hv).1
  refine W.iald (v := v) S.1.1 S.1.2.1 ((S.2.1 a 20 vs ha).arr (by decide) (by decide)) (aCell_arr hK (k := 20) (by decide) (by decide) vs) (fun q => by cases q) (by rw [aCell_size]; exact ix_in hi hj hlt) (by subst hi; rw [nI_clamp (by omega)]; exact aCell_read _ hv) rfl rfl d1 (kk p l e s m args below meth c A H locs cells slots ls S)
theorem V_bald {a : Nat} {vs : List Value} {i : Int32} {v : Value} (j : Nat) (d : DC M.2.1 pc .baload 1 pc2) (ha : h a = some (21, vs)) (hi : i = nI j) (hj : j < 2147483648) (hv : vs[j]? = some v) (kk : V G M post h cr sr pc2 lv (v :: st)) : V G M post h cr sr pc lv (.int i :: .ref a :: st) := by
  intro p l e s m args below meth c A H locs cells slots ls S
  obtain ⟨d1, rfl⟩ := d
  have hK := S.1.2.2.2.2.2.2.2.2.1
  have hlt := (List.getElem?_eq_some_iff.mp hv).1
  refine W.zald (v := v) S.1.1 S.1.2.1 ((S.2.1 a 21 vs ha).arr (by decide) (by decide)) (aCell_arr hK (k := 21) (by decide) (by decide) vs) (fun q => by cases q) (by rw [aCell_size]; exact ix_in hi hj hlt) (by subst hi; rw [nI_clamp (by omega)]; exact aCell_read _ hv) rfl rfl d1 (kk p l e s m args below meth c A H locs cells slots ls S)
theorem V_aald {a k : Nat} {vs : List Value} {i : Int32} {v : Value} (j : Nat) (d : DC M.2.1 pc .aaload 1 pc2) (ha : h a = some (k, vs)) (hk1 : 22 ≤ k) (hk2 : k < 29) (hi : i = nI j) (hj : j < 2147483648) (hv : vs[j]? = some v) (kk : V G M post h cr sr pc2 lv (v :: st)) : V G M post h cr sr pc lv (.int i :: .ref a :: st) := by
  intro p l e s m args below meth c A H locs cells slots ls S
  obtain ⟨d1, rfl⟩ := d
  have hK := S.1.2.2.2.2.2.2.2.2.1
  have hlt := (List.getElem?_eq_some_iff.mp hv).1
  have hcell := (S.2.1 a k vs ha).arr (by omega) (by omega)
  rw [if_neg (by omega)] at hcell
  have hty : (tyA k).isReference = true := by
    rcases (show k = 22 ∨ k = 23 ∨ k = 24 ∨ k = 25 ∨ k = 26 ∨ k = 27 ∨ k = 28 by omega) with rfl | rfl | rfl | rfl | rfl | rfl | rfl <;> rfl
  exact W.aald (v := v) S.1.1 S.1.2.1 hcell (aCell_arr hK (by omega) hk2 vs) hty (fun q => by cases q) (by rw [aCell_size]; exact ix_in hi hj hlt) (by subst hi; rw [nI_clamp (by omega)]; exact aCell_read _ hv) rfl rfl d1 (kk p l e s m args below meth c A H locs cells slots ls S)
theorem V_alen {a k : Nat} {vs : List Value} (d : DC M.2.1 pc .arraylength 1 pc2) (ha : h a = some (k, vs)) (hk1 : 20 ≤ k) (hk2 : k < 30) (kk : V G M post h cr sr pc2 lv (.int (nI vs.length) :: st)) : V G M post h cr sr pc lv (.ref a :: st) := by
  intro p l e s m args below meth c A H locs cells slots ls S
  obtain ⟨d1, rfl⟩ := d
  have hK := S.1.2.2.2.2.2.2.2.2.1
  by_cases h29 : k = 29
  · obtain ⟨cell, hcell, o1, -, o3, o4, -⟩ := (S.2.1 a k vs ha).old (by omega) (by omega)
    rw [if_pos h29] at o3
    have hA := aCell_arr hK (k := 27) (by decide) (by decide) vs
    exact W.alen (ty := tyA 27) (n := nI vs.length) S.1.1 S.1.2.1 hcell ⟨fun q e => (by rw [e] at o1; cases o1), by rw [o3]; exact hA.2⟩ o4 rfl rfl d1 (kk p l e s m args below meth c A H locs cells slots ls S)
  · have hcell := (S.2.1 a k vs ha).arr (by omega) (by omega)
    rw [if_neg h29] at hcell
    exact W.alen (n := nI vs.length) S.1.1 S.1.2.1 hcell (aCell_arr hK hk1 (by omega) vs) (by rw [aCell_size]; rfl) rfl rfl d1 (kk p l e s m args below meth c A H locs cells slots ls S)
theorem V_iast {a : Nat} {vs : List Value} {i x : Int32} (j : Nat) (d : DC M.2.1 pc .iastore 1 pc2) (ha : h a = some (20, vs)) (hi : i = nI j) (hj : j < 2147483648) (hv : j < vs.length) (kk : V G M post (hu h a (20, vs.set j (.int x))) cr sr pc2 lv st) : V G M post h cr sr pc lv (.int x :: .int i :: .ref a :: st) := by
  intro p l e s m args below meth c A H locs cells slots ls S
  obtain ⟨C0, hH, hD, hS, hb, hl0⟩ := S
  obtain ⟨d1, rfl⟩ := d
  have hK := C0.2.2.2.2.2.2.2.2.1
  have hAa : A a := hD a 20 vs ha (by decide)
  refine W.iast C0.1 C0.2.1 ((hH a 20 vs ha).arr (by decide) (by decide)) (aCell_arr hK (k := 20) (by decide) (by decide) vs) (fun q => by cases q) (by rw [aCell_size]; exact ix_in hi hj hv) rfl rfl d1 fun H' e1 e2 e3 => ?_
  refine kk p l e s m args below meth c A H' _ cells slots ls ⟨C0, hH.put (cIs.ofArr (by decide) (by decide) ?_) e3, hD.put _ hAa, hS.put e2 e3 hAa, hb, hl0⟩
  rw [e1]
  subst hi
  rw [nI_clamp (by omega)]
  exact congrArg some (aCell_store _ _ hv)
theorem V_zast {a : Nat} {vs : List Value} {i x : Int32} (j : Nat) (d : DC M.2.1 pc .bastore 1 pc2) (ha : h a = some (21, vs)) (hi : i = nI j) (hj : j < 2147483648) (hv : j < vs.length) (hx : narrow .boolean (.int x) = .int x) (kk : V G M post (hu h a (21, vs.set j (.int x))) cr sr pc2 lv st) : V G M post h cr sr pc lv (.int x :: .int i :: .ref a :: st) := by
  intro p l e s m args below meth c A H locs cells slots ls S
  obtain ⟨C0, hH, hD, hS, hb, hl0⟩ := S
  obtain ⟨d1, rfl⟩ := d
  have hK := C0.2.2.2.2.2.2.2.2.1
  have hAa : A a := hD a 21 vs ha (by decide)
  refine W.zast C0.1 C0.2.1 ((hH a 21 vs ha).arr (by decide) (by decide)) (aCell_arr hK (k := 21) (by decide) (by decide) vs) (fun q => by cases q) (by rw [aCell_size]; exact ix_in hi hj hv) rfl rfl d1 fun H' e1 e2 e3 => ?_
  refine kk p l e s m args below meth c A H' _ cells slots ls ⟨C0, hH.put (cIs.ofArr (by decide) (by decide) ?_) e3, hD.put _ hAa, hS.put e2 e3 hAa, hb, hl0⟩
  rw [e1, hx]
  subst hi
  rw [nI_clamp (by omega)]
  exact congrArg some (aCell_store _ _ hv)
theorem V_ireturn {v : Int32} (d : DC M.2.1 pc .ireturn 1 pc2) (hr : M.2.2.2.1 = some .int) (hp : post (some (.int v)) h) : V G M post h cr sr pc lv [.int v] := by
  intro p l e s m args below meth c A H locs cells slots ls S
  obtain ⟨C0, hH, hD, hS, hb, hl0⟩ := S
  refine W.widen (k := M.2.2.2.2.2.1) (n := M.2.2.2.2.2.2) (by omega) (by omega) ?_
  exact W.iret C0.1 C0.2.1 (C0.2.2.1.trans hr) (fun t ht hW => ⟨⟨_, h, rfl, hp, by rw [ht]; exact hH, hD⟩, hS.F ht⟩) hS.2.2 d.1 C0.2.2.2.2.1
theorem V_zreturn {v : Int32} (d : DC M.2.1 pc .ireturn 1 pc2) (hr : M.2.2.2.1 = some .boolean) (hv : v = 0 ∨ v = 1) (hp : post (some (.int v)) h) : V G M post h cr sr pc lv [.int v] := by
  intro p l e s m args below meth c A H locs cells slots ls S
  obtain ⟨C0, hH, hD, hS, hb, hl0⟩ := S
  refine W.widen (k := M.2.2.2.2.2.1) (n := M.2.2.2.2.2.2) (by omega) (by omega) ?_
  exact W.zret C0.1 C0.2.1 (C0.2.2.1.trans hr) (by rcases hv with rfl | rfl <;> rfl) (fun t ht hW => ⟨⟨_, h, rfl, hp, by rw [ht]; exact hH, hD⟩, hS.F ht⟩) hS.2.2 d.1 C0.2.2.2.2.1
theorem V_lreturn {v : Int64} (d : DC M.2.1 pc .lreturn 1 pc2) (hr : M.2.2.2.1 = some .long) (hp : post (some (.long v)) h) : V G M post h cr sr pc lv [.long v] := by
  intro p l e s m args below meth c A H locs cells slots ls S
  obtain ⟨C0, hH, hD, hS, hb, hl0⟩ := S
  refine W.widen (k := M.2.2.2.2.2.1) (n := M.2.2.2.2.2.2) (by omega) (by omega) ?_
  exact W.lret C0.1 C0.2.1 (C0.2.2.1.trans hr) (fun t ht hW => ⟨⟨_, h, rfl, hp, by rw [ht]; exact hH, hD⟩, hS.F ht⟩) hS.2.2 d.1 C0.2.2.2.2.1
theorem V_areturn {v : Value} {rt : FieldType} (d : DC M.2.1 pc .areturn 1 pc2) (hr : M.2.2.2.1 = some rt) (hrt : (∃ n, rt = .object n) ∨ ∃ t, rt = .array t) (hv : v = .null ∨ ∃ a, v = .ref a) (hp : post (some v) h) : V G M post h cr sr pc lv [v] := by
  intro p l e s m args below meth c A H locs cells slots ls S
  obtain ⟨C0, hH, hD, hS, hb, hl0⟩ := S
  refine W.widen (k := M.2.2.2.2.2.1) (n := M.2.2.2.2.2.2) (by omega) (by omega) ?_
  exact W.aret C0.1 C0.2.1 (C0.2.2.1.trans hr) hrt hv (fun t ht hW => ⟨⟨_, h, rfl, hp, by rw [ht]; exact hH, hD⟩, hS.F ht⟩) hS.2.2 d.1 C0.2.2.2.2.1
theorem V_return (d : DC M.2.1 pc .return_ 1 pc2) (hr : M.2.2.2.1 = none) (hp : post none h) : V G M post h cr sr pc lv [] := by
  intro p l e s m args below meth c A H locs cells slots ls S
  obtain ⟨C0, hH, hD, hS, hb, hl0⟩ := S
  refine W.widen (k := M.2.2.2.2.2.1) (n := M.2.2.2.2.2.2) (by omega) (by omega) ?_
  exact W.vret C0.1 C0.2.1 (C0.2.2.1.trans hr) (fun t ht hW => ⟨⟨_, h, rfl, hp, by rw [ht]; exact hH, hD⟩, hS.F ht⟩) hS.2.2 d.1 C0.2.2.2.2.1
end Rows
