/-! row() and at() leave the place for the next hard case -/
theorem hn_row {x y z : Int} {h : Hp} {r : Int} {h1 : Hp} (e : XX11_row x y z h = some (r, h1)) : h1 40 12 = h 40 12 := by
  have f : Fr (fun a _ => 17 ≤ a ∧ a ≤ 36) h (XX11_row x y z h) := by
    unfold XX11_row
    refine Fr_cal (fg_XX11_netOf _ (fun a i hh => hh.elim) _ (fun _ _ _ => rfl)) (fun r1 h2 ag_h2 => ?_)
    refine Fr_ite (Fr_some ag_h2) ?_
    refine Fr_asr (fun ha1 => ?_)
    refine Fr_cal (fg_XX8_isWire _ _ (fun a i hh => hh.elim) _ ag_h2) (fun r4 h5 ag_h5 => ?_)
    refine Fr_ite (Fr_some ag_h5) (Fr_ite (Fr_some ag_h5) (Fr_ite (Fr_some ag_h5) ?_))
    refine Fr_cal (fg_XX6_refresh _ (fun a i hh => by show 17 ≤ a ∧ a ≤ 36; omega) _ ag_h5) (fun r6 h7 ag_h7 => ?_)
    exact Fr_chk (Fr_chk (Fr_inb (Fr_inb (Fr_some ag_h7))))
  exact f r h1 e 40 12 (by omega)
theorem hn_at {x y : Int} {h : Hp} {r : Int} {h1 : Hp} (e : XX11_at x y h = some (r, h1)) : h1 40 12 = h 40 12 := by
  have f : Fr (fun _ _ => False) h (XX11_at x y h) := by
    unfold XX11_at
    refine Fr_cal (fg_XX11_isTape _ (fun a i hh => hh.elim) _ (fun _ _ _ => rfl)) (fun r1 h2 ag_h2 => ?_)
    refine Fr_ite (Fr_some ag_h2) ?_
    refine Fr_inb (Fr_nmP (fun u3 => Fr_asr (fun ha1 => ?_)))
    refine Fr_cal (fg_XX10_isRow _ (fun a i hh => hh.elim) _ ag_h2) (fun r4 h5 ag_h5 => ?_)
    refine Fr_ite (Fr_some ag_h5) ?_
    refine Fr_inb (Fr_nmP (fun u6 => Fr_asr (fun ha2 => ?_)))
    refine Fr_cal (fg_XX10_hasElement _ _ (fun a i hh => hh.elim) _ ag_h5) (fun r7 h8 ag_h8 => ?_)
    refine Fr_ite (Fr_some ag_h8) ?_
    exact Fr_inb (Fr_nmP (fun u9 => Fr_asr (fun ha3 => Fr_inb (Fr_some ag_h8))))
  exact f r h1 e 40 12 (fun hh => hh)
