theorem fg_XX12_thrown {W : Nat → Nat → Prop} {h0 : Hp} (hW : ∀ a i : Nat, (False) → W a i) (h : Hp) (ag_h : Ag W h0 h) : Fr W h0 (XX12_thrown  h) := by
  unfold XX12_thrown
  exact Fr_some ag_h
theorem fr_XX12_thrown {h : Hp} {r : Int} {h1 : Hp} (e : XX12_thrown  h = some (r, h1)) (a i : Nat) (hn : ¬ (False)) : h1 a i = h a i := fg_XX12_thrown (W := fun a i => False)  (fun _ _ hh => hh) h (fun _ _ _ => rfl) r h1 e a i hn
theorem fe_XX12_thrown {h : Hp} {r : Int} {h1 : Hp} (e : XX12_thrown  h = some (r, h1)) : h1 = h := funext (fun a => funext (fun i => fr_XX12_thrown e a i (fun hh => hh)))
theorem fg_XX12_in {W : Nat → Nat → Prop} {h0 : Hp} (x0 : Int) (x1 : Int) (x2 : Int) (hW : ∀ a i : Nat, (False) → W a i) (h : Hp) (ag_h : Ag W h0 h) : Fr W h0 (XX12_in x0 x1 x2 h) := by
  unfold XX12_in
  refine Fr_ite ?_ ?_
  · refine Fr_zb ?_
    exact Fr_some ag_h
  · refine Fr_ite ?_ ?_
    · refine Fr_zb ?_
      exact Fr_some ag_h
    · refine Fr_zb ?_
      exact Fr_some ag_h
theorem fr_XX12_in {x0 : Int} {x1 : Int} {x2 : Int} {h : Hp} {r : Int} {h1 : Hp} (e : XX12_in x0 x1 x2 h = some (r, h1)) (a i : Nat) (hn : ¬ (False)) : h1 a i = h a i := fg_XX12_in (W := fun a i => False) x0 x1 x2 (fun _ _ hh => hh) h (fun _ _ _ => rfl) r h1 e a i hn
theorem fe_XX12_in {x0 : Int} {x1 : Int} {x2 : Int} {h : Hp} {r : Int} {h1 : Hp} (e : XX12_in x0 x1 x2 h = some (r, h1)) : h1 = h := funext (fun a => funext (fun i => fr_XX12_in e a i (fun hh => hh)))
theorem fg_XX12_begun {W : Nat → Nat → Prop} {h0 : Hp} (hW : ∀ a i : Nat, (False) → W a i) (h : Hp) (ag_h : Ag W h0 h) : Fr W h0 (XX12_begun  h) := by
  unfold XX12_begun
  refine Fr_chk ?_
  exact Fr_some ag_h
theorem fr_XX12_begun {h : Hp} {r : Int} {h1 : Hp} (e : XX12_begun  h = some (r, h1)) (a i : Nat) (hn : ¬ (False)) : h1 a i = h a i := fg_XX12_begun (W := fun a i => False)  (fun _ _ hh => hh) h (fun _ _ _ => rfl) r h1 e a i hn
theorem fe_XX12_begun {h : Hp} {r : Int} {h1 : Hp} (e : XX12_begun  h = some (r, h1)) : h1 = h := funext (fun a => funext (fun i => fr_XX12_begun e a i (fun hh => hh)))
theorem fg_XX12_cases {W : Nat → Nat → Prop} {h0 : Hp} (hW : ∀ a i : Nat, (False) → W a i) (h : Hp) (ag_h : Ag W h0 h) : Fr W h0 (XX12_cases  h) := by
  unfold XX12_cases
  refine Fr_cal (fg_XX12_begun (fun a i hh => hh.elim) _ ag_h) (fun r1 h2 ag_h2 => ?_)
  exact Fr_some ag_h2
theorem fr_XX12_cases {h : Hp} {r : Int} {h1 : Hp} (e : XX12_cases  h = some (r, h1)) (a i : Nat) (hn : ¬ (False)) : h1 a i = h a i := fg_XX12_cases (W := fun a i => False)  (fun _ _ hh => hh) h (fun _ _ _ => rfl) r h1 e a i hn
theorem fe_XX12_cases {h : Hp} {r : Int} {h1 : Hp} (e : XX12_cases  h = some (r, h1)) : h1 = h := funext (fun a => funext (fun i => fr_XX12_cases e a i (fun hh => hh)))
theorem fg_XX12_isNet {W : Nat → Nat → Prop} {h0 : Hp} (x0 : Int) (hW : ∀ a i : Nat, (False) → W a i) (h : Hp) (ag_h : Ag W h0 h) : Fr W h0 (XX12_isNet x0 h) := by
  unfold XX12_isNet
  refine Fr_cal (fg_XX12_in _ _ _ (fun a i hh => hh.elim) _ ag_h) (fun r1 h2 ag_h2 => ?_)
  refine Fr_zb ?_
  exact Fr_some ag_h2
theorem fr_XX12_isNet {x0 : Int} {h : Hp} {r : Int} {h1 : Hp} (e : XX12_isNet x0 h = some (r, h1)) (a i : Nat) (hn : ¬ (False)) : h1 a i = h a i := fg_XX12_isNet (W := fun a i => False) x0 (fun _ _ hh => hh) h (fun _ _ _ => rfl) r h1 e a i hn
theorem fe_XX12_isNet {x0 : Int} {h : Hp} {r : Int} {h1 : Hp} (e : XX12_isNet x0 h = some (r, h1)) : h1 = h := funext (fun a => funext (fun i => fr_XX12_isNet e a i (fun hh => hh)))
theorem fg_XX12_wires {W : Nat → Nat → Prop} {h0 : Hp} (x0 : Int) (hW : ∀ a i : Nat, (False) → W a i) (h : Hp) (ag_h : Ag W h0 h) : Fr W h0 (XX12_wires x0 h) := by
  unfold XX12_wires
  refine Fr_cal (fg_XX12_begun (fun a i hh => hh.elim) _ ag_h) (fun r1 h2 ag_h2 => ?_)
  refine Fr_inb ?_
  refine Fr_chk ?_
  exact Fr_some ag_h2
theorem fr_XX12_wires {x0 : Int} {h : Hp} {r : Int} {h1 : Hp} (e : XX12_wires x0 h = some (r, h1)) (a i : Nat) (hn : ¬ (False)) : h1 a i = h a i := fg_XX12_wires (W := fun a i => False) x0 (fun _ _ hh => hh) h (fun _ _ _ => rfl) r h1 e a i hn
theorem fe_XX12_wires {x0 : Int} {h : Hp} {r : Int} {h1 : Hp} (e : XX12_wires x0 h = some (r, h1)) : h1 = h := funext (fun a => funext (fun i => fr_XX12_wires e a i (fun hh => hh)))
theorem fg_XX12_isWire {W : Nat → Nat → Prop} {h0 : Hp} (x0 : Int) (x1 : Int) (hW : ∀ a i : Nat, (False) → W a i) (h : Hp) (ag_h : Ag W h0 h) : Fr W h0 (XX12_isWire x0 x1 h) := by
  unfold XX12_isWire
  refine Fr_cal (fg_XX12_wires _ (fun a i hh => hh.elim) _ ag_h) (fun r1 h2 ag_h2 => ?_)
  refine Fr_chk ?_
  refine Fr_cal (fg_XX12_in _ _ _ (fun a i hh => hh.elim) _ ag_h2) (fun r3 h4 ag_h4 => ?_)
  refine Fr_zb ?_
  exact Fr_some ag_h4
theorem fr_XX12_isWire {x0 : Int} {x1 : Int} {h : Hp} {r : Int} {h1 : Hp} (e : XX12_isWire x0 x1 h = some (r, h1)) (a i : Nat) (hn : ¬ (False)) : h1 a i = h a i := fg_XX12_isWire (W := fun a i => False) x0 x1 (fun _ _ hh => hh) h (fun _ _ _ => rfl) r h1 e a i hn
theorem fe_XX12_isWire {x0 : Int} {x1 : Int} {h : Hp} {r : Int} {h1 : Hp} (e : XX12_isWire x0 x1 h = some (r, h1)) : h1 = h := funext (fun a => funext (fun i => fr_XX12_isWire e a i (fun hh => hh)))
theorem fg_XX12_isGate {W : Nat → Nat → Prop} {h0 : Hp} (x0 : Int) (x1 : Int) (hW : ∀ a i : Nat, (False) → W a i) (h : Hp) (ag_h : Ag W h0 h) : Fr W h0 (XX12_isGate x0 x1 h) := by
  unfold XX12_isGate
  refine Fr_cal (fg_XX12_begun (fun a i hh => hh.elim) _ ag_h) (fun r1 h2 ag_h2 => ?_)
  refine Fr_cal (fg_XX12_wires _ (fun a i hh => hh.elim) _ ag_h2) (fun r3 h4 ag_h4 => ?_)
  refine Fr_chk ?_
  refine Fr_cal (fg_XX12_in _ _ _ (fun a i hh => hh.elim) _ ag_h4) (fun r5 h6 ag_h6 => ?_)
  refine Fr_zb ?_
  exact Fr_some ag_h6
theorem fr_XX12_isGate {x0 : Int} {x1 : Int} {h : Hp} {r : Int} {h1 : Hp} (e : XX12_isGate x0 x1 h = some (r, h1)) (a i : Nat) (hn : ¬ (False)) : h1 a i = h a i := fg_XX12_isGate (W := fun a i => False) x0 x1 (fun _ _ hh => hh) h (fun _ _ _ => rfl) r h1 e a i hn
theorem fe_XX12_isGate {x0 : Int} {x1 : Int} {h : Hp} {r : Int} {h1 : Hp} (e : XX12_isGate x0 x1 h = some (r, h1)) : h1 = h := funext (fun a => funext (fun i => fr_XX12_isGate e a i (fun hh => hh)))
theorem fg_XX12_pinsOf {W : Nat → Nat → Prop} {h0 : Hp} (x0 : Int) (hW : ∀ a i : Nat, (False) → W a i) (h : Hp) (ag_h : Ag W h0 h) : Fr W h0 (XX12_pinsOf x0 h) := by
  unfold XX12_pinsOf
  refine Fr_ite ?_ ?_
  · exact Fr_some ag_h
  · refine Fr_ite ?_ ?_
    · refine Fr_ite ?_ ?_
      · exact Fr_some ag_h
      · exact Fr_some ag_h
    · exact Fr_some ag_h
theorem fr_XX12_pinsOf {x0 : Int} {h : Hp} {r : Int} {h1 : Hp} (e : XX12_pinsOf x0 h = some (r, h1)) (a i : Nat) (hn : ¬ (False)) : h1 a i = h a i := fg_XX12_pinsOf (W := fun a i => False) x0 (fun _ _ hh => hh) h (fun _ _ _ => rfl) r h1 e a i hn
theorem fe_XX12_pinsOf {x0 : Int} {h : Hp} {r : Int} {h1 : Hp} (e : XX12_pinsOf x0 h = some (r, h1)) : h1 = h := funext (fun a => funext (fun i => fr_XX12_pinsOf e a i (fun hh => hh)))
theorem fg_XX12_refuse {W : Nat → Nat → Prop} {h0 : Hp} (x0 : Int) (hW : ∀ a i : Nat, ((a = 143 ∧ i = 57)) → W a i) (h : Hp) (ag_h : Ag W h0 h) : Fr W h0 (XX12_refuse x0 h) := by
  unfold XX12_refuse
  refine Fr_chk ?_
  refine Fr_wr ag_h (hW _ _ (by omega)) (fun h1 ag_h1 => ?_)
  exact Fr_some ag_h1
theorem fr_XX12_refuse {x0 : Int} {h : Hp} {r : Int} {h1 : Hp} (e : XX12_refuse x0 h = some (r, h1)) (a i : Nat) (hn : ¬ ((a = 143 ∧ i = 57))) : h1 a i = h a i := fg_XX12_refuse (W := fun a i => (a = 143 ∧ i = 57)) x0 (fun _ _ hh => hh) h (fun _ _ _ => rfl) r h1 e a i hn
theorem fg_XX12_begin_b195 {W : Nat → Nat → Prop} {h0 : Hp} (self195 : Int → Hp → OR) (hs_self195 : ∀ (y0 : Int) (hh : Hp), Ag W h0 hh → Fr W h0 (self195 y0 hh)) (l4 : Int) (hW : ∀ a i : Nat, (a = 156 ∨ (a = 143 ∧ i = 12) ∨ (a = 143 ∧ i = 19) ∨ (a = 143 ∧ 21 ≤ i ∧ i ≤ 23) ∨ (a = 143 ∧ 36 ≤ i ∧ i ≤ 38) ∨ (a = 143 ∧ i = 57)) → W a i) (h : Hp) (ag_h : Ag W h0 h) : Fr W h0 (XX12_begin_b195 self195 l4 h) := by
  unfold XX12_begin_b195
  refine Fr_ite ?_ ?_
  · refine Fr_wr ag_h (hW _ _ (Or.inr (Or.inl (by omega)))) (fun h12 ag_h12 => ?_)
    refine Fr_wr ag_h12 (hW _ _ (Or.inr (Or.inr (Or.inl (by omega))))) (fun h13 ag_h13 => ?_)
    refine Fr_wr ag_h13 (hW _ _ (Or.inr (Or.inr (Or.inr (Or.inl (by omega)))))) (fun h14 ag_h14 => ?_)
    refine Fr_wr ag_h14 (hW _ _ (Or.inr (Or.inr (Or.inr (Or.inl (by omega)))))) (fun h15 ag_h15 => ?_)
    refine Fr_zb ?_
    refine Fr_wr ag_h15 (hW _ _ (Or.inr (Or.inr (Or.inr (Or.inl (by omega)))))) (fun h16 ag_h16 => ?_)
    refine Fr_wr ag_h16 (hW _ _ (Or.inr (Or.inr (Or.inr (Or.inr (Or.inl (by omega))))))) (fun h17 ag_h17 => ?_)
    refine Fr_wr ag_h17 (hW _ _ (Or.inr (Or.inr (Or.inr (Or.inr (Or.inl (by omega))))))) (fun h18 ag_h18 => ?_)
    refine Fr_wr ag_h18 (hW _ _ (Or.inr (Or.inr (Or.inr (Or.inr (Or.inl (by omega))))))) (fun h19 ag_h19 => ?_)
    refine Fr_wr ag_h19 (hW _ _ (Or.inr (Or.inr (Or.inr (Or.inr (Or.inr (by omega))))))) (fun h20 ag_h20 => ?_)
    refine Fr_cal (fg_XX12_cases (fun a i hh => hh.elim) _ ag_h20) (fun r21 h22 ag_h22 => ?_)
    exact Fr_some ag_h22
  · refine Fr_inb ?_
    refine Fr_wr ag_h (hW _ _ (Or.inl (by omega))) (fun h23 ag_h23 => ?_)
    refine Fr_chk ?_
    exact hs_self195 _ _ ag_h23
theorem fg_XX12_begin_L195 {W : Nat → Nat → Prop} {h0 : Hp} (l4 : Int) (hW : ∀ a i : Nat, (a = 156 ∨ (a = 143 ∧ i = 12) ∨ (a = 143 ∧ i = 19) ∨ (a = 143 ∧ 21 ≤ i ∧ i ≤ 23) ∨ (a = 143 ∧ 36 ≤ i ∧ i ≤ 38) ∨ (a = 143 ∧ i = 57)) → W a i) (h : Hp) (ag_h : Ag W h0 h) : Fr W h0 (XX12_begin_L195 l4 h) := by
  unfold XX12_begin_L195
  exact Fr_lup1 (fun self hs z0 hh ag => fg_XX12_begin_b195 self hs z0 hW hh ag) FU _ _ ag_h
theorem fg_XX12_begin_b155 {W : Nat → Nat → Prop} {h0 : Hp} (self155 : Int → Hp → OR) (hs_self155 : ∀ (y0 : Int) (hh : Hp), Ag W h0 hh → Fr W h0 (self155 y0 hh)) (l4 : Int) (hW : ∀ a i : Nat, ((150 ≤ a ∧ a ≤ 151) ∨ (156 ≤ a ∧ a ≤ 157) ∨ (a = 143 ∧ i = 12) ∨ (a = 143 ∧ i = 19) ∨ (a = 143 ∧ 21 ≤ i ∧ i ≤ 23) ∨ (a = 143 ∧ 36 ≤ i ∧ i ≤ 38) ∨ (a = 143 ∧ i = 57)) → W a i) (h : Hp) (ag_h : Ag W h0 h) : Fr W h0 (XX12_begin_b155 self155 l4 h) := by
  unfold XX12_begin_b155
  refine Fr_ite ?_ ?_
  · exact fg_XX12_begin_L195 _ (fun a i hh => hW a i ((fun q => q.elim (fun q => Or.inr (Or.inl (by omega))) (fun q => q.elim (fun q => Or.inr (Or.inr (Or.inl (by omega)))) (fun q => q.elim (fun q => Or.inr (Or.inr (Or.inr (Or.inl (by omega))))) (fun q => q.elim (fun q => Or.inr (Or.inr (Or.inr (Or.inr (Or.inl (by omega)))))) (fun q => q.elim (fun q => Or.inr (Or.inr (Or.inr (Or.inr (Or.inr (Or.inl (by omega))))))) (fun q => Or.inr (Or.inr (Or.inr (Or.inr (Or.inr (Or.inr (by omega)))))))))))) hh)) _ ag_h
  · refine Fr_inb ?_
    refine Fr_wr ag_h (hW _ _ (Or.inl (by omega))) (fun h24 ag_h24 => ?_)
    refine Fr_inb ?_
    refine Fr_wr ag_h24 (hW _ _ (Or.inl (by omega))) (fun h25 ag_h25 => ?_)
    refine Fr_inb ?_
    refine Fr_wr ag_h25 (hW _ _ (Or.inr (Or.inl (by omega)))) (fun h26 ag_h26 => ?_)
    refine Fr_chk ?_
    exact hs_self155 _ _ ag_h26
theorem fg_XX12_begin_L155 {W : Nat → Nat → Prop} {h0 : Hp} (l4 : Int) (hW : ∀ a i : Nat, ((150 ≤ a ∧ a ≤ 151) ∨ (156 ≤ a ∧ a ≤ 157) ∨ (a = 143 ∧ i = 12) ∨ (a = 143 ∧ i = 19) ∨ (a = 143 ∧ 21 ≤ i ∧ i ≤ 23) ∨ (a = 143 ∧ 36 ≤ i ∧ i ≤ 38) ∨ (a = 143 ∧ i = 57)) → W a i) (h : Hp) (ag_h : Ag W h0 h) : Fr W h0 (XX12_begin_L155 l4 h) := by
  unfold XX12_begin_L155
  exact Fr_lup1 (fun self hs z0 hh ag => fg_XX12_begin_b155 self hs z0 hW hh ag) FU _ _ ag_h
theorem fg_XX12_begin_b130 {W : Nat → Nat → Prop} {h0 : Hp} (self130 : Int → Hp → OR) (hs_self130 : ∀ (y0 : Int) (hh : Hp), Ag W h0 hh → Fr W h0 (self130 y0 hh)) (l4 : Int) (hW : ∀ a i : Nat, ((149 ≤ a ∧ a ≤ 151) ∨ (156 ≤ a ∧ a ≤ 157) ∨ (a = 143 ∧ i = 12) ∨ (a = 143 ∧ i = 19) ∨ (a = 143 ∧ 21 ≤ i ∧ i ≤ 23) ∨ (a = 143 ∧ 36 ≤ i ∧ i ≤ 38) ∨ (a = 143 ∧ i = 57)) → W a i) (h : Hp) (ag_h : Ag W h0 h) : Fr W h0 (XX12_begin_b130 self130 l4 h) := by
  unfold XX12_begin_b130
  refine Fr_ite ?_ ?_
  · exact fg_XX12_begin_L155 _ (fun a i hh => hW a i ((fun q => q.elim (fun q => Or.inl (by omega)) (fun q => q.elim (fun q => Or.inr (Or.inl (by omega))) (fun q => q.elim (fun q => Or.inr (Or.inr (Or.inl (by omega)))) (fun q => q.elim (fun q => Or.inr (Or.inr (Or.inr (Or.inl (by omega))))) (fun q => q.elim (fun q => Or.inr (Or.inr (Or.inr (Or.inr (Or.inl (by omega)))))) (fun q => q.elim (fun q => Or.inr (Or.inr (Or.inr (Or.inr (Or.inr (Or.inl (by omega))))))) (fun q => Or.inr (Or.inr (Or.inr (Or.inr (Or.inr (Or.inr (by omega))))))))))))) hh)) _ ag_h
  · refine Fr_inb ?_
    refine Fr_zb ?_
    refine Fr_wr ag_h (hW _ _ (Or.inl (by omega))) (fun h27 ag_h27 => ?_)
    refine Fr_chk ?_
    exact hs_self130 _ _ ag_h27
theorem fg_XX12_begin_L130 {W : Nat → Nat → Prop} {h0 : Hp} (l4 : Int) (hW : ∀ a i : Nat, ((149 ≤ a ∧ a ≤ 151) ∨ (156 ≤ a ∧ a ≤ 157) ∨ (a = 143 ∧ i = 12) ∨ (a = 143 ∧ i = 19) ∨ (a = 143 ∧ 21 ≤ i ∧ i ≤ 23) ∨ (a = 143 ∧ 36 ≤ i ∧ i ≤ 38) ∨ (a = 143 ∧ i = 57)) → W a i) (h : Hp) (ag_h : Ag W h0 h) : Fr W h0 (XX12_begin_L130 l4 h) := by
  unfold XX12_begin_L130
  exact Fr_lup1 (fun self hs z0 hh ag => fg_XX12_begin_b130 self hs z0 hW hh ag) FU _ _ ag_h
theorem fg_XX12_begin_b107 {W : Nat → Nat → Prop} {h0 : Hp} (self107 : Int → Hp → OR) (hs_self107 : ∀ (y0 : Int) (hh : Hp), Ag W h0 hh → Fr W h0 (self107 y0 hh)) (l4 : Int) (hW : ∀ a i : Nat, ((148 ≤ a ∧ a ≤ 151) ∨ (156 ≤ a ∧ a ≤ 157) ∨ (a = 143 ∧ i = 12) ∨ (a = 143 ∧ i = 19) ∨ (a = 143 ∧ 21 ≤ i ∧ i ≤ 23) ∨ (a = 143 ∧ 36 ≤ i ∧ i ≤ 38) ∨ (a = 143 ∧ i = 57)) → W a i) (h : Hp) (ag_h : Ag W h0 h) : Fr W h0 (XX12_begin_b107 self107 l4 h) := by
  unfold XX12_begin_b107
  refine Fr_ite ?_ ?_
  · exact fg_XX12_begin_L130 _ (fun a i hh => hW a i ((fun q => q.elim (fun q => Or.inl (by omega)) (fun q => q.elim (fun q => Or.inr (Or.inl (by omega))) (fun q => q.elim (fun q => Or.inr (Or.inr (Or.inl (by omega)))) (fun q => q.elim (fun q => Or.inr (Or.inr (Or.inr (Or.inl (by omega))))) (fun q => q.elim (fun q => Or.inr (Or.inr (Or.inr (Or.inr (Or.inl (by omega)))))) (fun q => q.elim (fun q => Or.inr (Or.inr (Or.inr (Or.inr (Or.inr (Or.inl (by omega))))))) (fun q => Or.inr (Or.inr (Or.inr (Or.inr (Or.inr (Or.inr (by omega))))))))))))) hh)) _ ag_h
  · refine Fr_inb ?_
    refine Fr_wr ag_h (hW _ _ (Or.inl (by omega))) (fun h28 ag_h28 => ?_)
    refine Fr_chk ?_
    exact hs_self107 _ _ ag_h28
theorem fg_XX12_begin_L107 {W : Nat → Nat → Prop} {h0 : Hp} (l4 : Int) (hW : ∀ a i : Nat, ((148 ≤ a ∧ a ≤ 151) ∨ (156 ≤ a ∧ a ≤ 157) ∨ (a = 143 ∧ i = 12) ∨ (a = 143 ∧ i = 19) ∨ (a = 143 ∧ 21 ≤ i ∧ i ≤ 23) ∨ (a = 143 ∧ 36 ≤ i ∧ i ≤ 38) ∨ (a = 143 ∧ i = 57)) → W a i) (h : Hp) (ag_h : Ag W h0 h) : Fr W h0 (XX12_begin_L107 l4 h) := by
  unfold XX12_begin_L107
  exact Fr_lup1 (fun self hs z0 hh ag => fg_XX12_begin_b107 self hs z0 hW hh ag) FU _ _ ag_h
theorem fg_XX12_begin_b83 {W : Nat → Nat → Prop} {h0 : Hp} (self83 : Int → Hp → OR) (hs_self83 : ∀ (y0 : Int) (hh : Hp), Ag W h0 hh → Fr W h0 (self83 y0 hh)) (l4 : Int) (hW : ∀ a i : Nat, ((147 ≤ a ∧ a ≤ 151) ∨ (156 ≤ a ∧ a ≤ 157) ∨ (a = 143 ∧ i = 12) ∨ (a = 143 ∧ i = 19) ∨ (a = 143 ∧ 21 ≤ i ∧ i ≤ 23) ∨ (a = 143 ∧ 36 ≤ i ∧ i ≤ 38) ∨ (a = 143 ∧ i = 57)) → W a i) (h : Hp) (ag_h : Ag W h0 h) : Fr W h0 (XX12_begin_b83 self83 l4 h) := by
  unfold XX12_begin_b83
  refine Fr_ite ?_ ?_
  · exact fg_XX12_begin_L107 _ (fun a i hh => hW a i ((fun q => q.elim (fun q => Or.inl (by omega)) (fun q => q.elim (fun q => Or.inr (Or.inl (by omega))) (fun q => q.elim (fun q => Or.inr (Or.inr (Or.inl (by omega)))) (fun q => q.elim (fun q => Or.inr (Or.inr (Or.inr (Or.inl (by omega))))) (fun q => q.elim (fun q => Or.inr (Or.inr (Or.inr (Or.inr (Or.inl (by omega)))))) (fun q => q.elim (fun q => Or.inr (Or.inr (Or.inr (Or.inr (Or.inr (Or.inl (by omega))))))) (fun q => Or.inr (Or.inr (Or.inr (Or.inr (Or.inr (Or.inr (by omega))))))))))))) hh)) _ ag_h
  · refine Fr_inb ?_
    refine Fr_wr ag_h (hW _ _ (Or.inl (by omega))) (fun h29 ag_h29 => ?_)
    refine Fr_chk ?_
    exact hs_self83 _ _ ag_h29
theorem fg_XX12_begin_L83 {W : Nat → Nat → Prop} {h0 : Hp} (l4 : Int) (hW : ∀ a i : Nat, ((147 ≤ a ∧ a ≤ 151) ∨ (156 ≤ a ∧ a ≤ 157) ∨ (a = 143 ∧ i = 12) ∨ (a = 143 ∧ i = 19) ∨ (a = 143 ∧ 21 ≤ i ∧ i ≤ 23) ∨ (a = 143 ∧ 36 ≤ i ∧ i ≤ 38) ∨ (a = 143 ∧ i = 57)) → W a i) (h : Hp) (ag_h : Ag W h0 h) : Fr W h0 (XX12_begin_L83 l4 h) := by
  unfold XX12_begin_L83
  exact Fr_lup1 (fun self hs z0 hh ag => fg_XX12_begin_b83 self hs z0 hW hh ag) FU _ _ ag_h
theorem fg_XX12_begin_b60 {W : Nat → Nat → Prop} {h0 : Hp} (self60 : Int → Hp → OR) (hs_self60 : ∀ (y0 : Int) (hh : Hp), Ag W h0 hh → Fr W h0 (self60 y0 hh)) (l4 : Int) (hW : ∀ a i : Nat, (a = 144 ∨ (147 ≤ a ∧ a ≤ 151) ∨ (156 ≤ a ∧ a ≤ 157) ∨ (a = 143 ∧ i = 12) ∨ (a = 143 ∧ i = 19) ∨ (a = 143 ∧ 21 ≤ i ∧ i ≤ 23) ∨ (a = 143 ∧ 36 ≤ i ∧ i ≤ 38) ∨ (a = 143 ∧ i = 57)) → W a i) (h : Hp) (ag_h : Ag W h0 h) : Fr W h0 (XX12_begin_b60 self60 l4 h) := by
  unfold XX12_begin_b60
  refine Fr_ite ?_ ?_
  · exact fg_XX12_begin_L83 _ (fun a i hh => hW a i ((fun q => q.elim (fun q => Or.inr (Or.inl (by omega))) (fun q => q.elim (fun q => Or.inr (Or.inr (Or.inl (by omega)))) (fun q => q.elim (fun q => Or.inr (Or.inr (Or.inr (Or.inl (by omega))))) (fun q => q.elim (fun q => Or.inr (Or.inr (Or.inr (Or.inr (Or.inl (by omega)))))) (fun q => q.elim (fun q => Or.inr (Or.inr (Or.inr (Or.inr (Or.inr (Or.inl (by omega))))))) (fun q => q.elim (fun q => Or.inr (Or.inr (Or.inr (Or.inr (Or.inr (Or.inr (Or.inl (by omega)))))))) (fun q => Or.inr (Or.inr (Or.inr (Or.inr (Or.inr (Or.inr (Or.inr (by omega)))))))))))))) hh)) _ ag_h
  · refine Fr_inb ?_
    refine Fr_wr ag_h (hW _ _ (Or.inl (by omega))) (fun h30 ag_h30 => ?_)
    refine Fr_chk ?_
    exact hs_self60 _ _ ag_h30
theorem fg_XX12_begin_L60 {W : Nat → Nat → Prop} {h0 : Hp} (l4 : Int) (hW : ∀ a i : Nat, (a = 144 ∨ (147 ≤ a ∧ a ≤ 151) ∨ (156 ≤ a ∧ a ≤ 157) ∨ (a = 143 ∧ i = 12) ∨ (a = 143 ∧ i = 19) ∨ (a = 143 ∧ 21 ≤ i ∧ i ≤ 23) ∨ (a = 143 ∧ 36 ≤ i ∧ i ≤ 38) ∨ (a = 143 ∧ i = 57)) → W a i) (h : Hp) (ag_h : Ag W h0 h) : Fr W h0 (XX12_begin_L60 l4 h) := by
  unfold XX12_begin_L60
  exact Fr_lup1 (fun self hs z0 hh ag => fg_XX12_begin_b60 self hs z0 hW hh ag) FU _ _ ag_h
theorem fg_XX12_begin {W : Nat → Nat → Prop} {h0 : Hp} (x0 : Int) (x1 : Int) (x2 : Int) (hW : ∀ a i : Nat, (a = 144 ∨ (147 ≤ a ∧ a ≤ 151) ∨ (156 ≤ a ∧ a ≤ 157) ∨ (a = 143 ∧ 1 ≤ i ∧ i ≤ 3) ∨ (a = 143 ∧ i = 12) ∨ (a = 143 ∧ i = 19) ∨ (a = 143 ∧ 21 ≤ i ∧ i ≤ 23) ∨ (a = 143 ∧ 36 ≤ i ∧ i ≤ 38) ∨ (a = 143 ∧ i = 57)) → W a i) (h : Hp) (ag_h : Ag W h0 h) : Fr W h0 (XX12_begin x0 x1 x2 h) := by
  unfold XX12_begin
  refine Fr_cal (fg_XX12_in _ _ _ (fun a i hh => hh.elim) _ ag_h) (fun r1 h2 ag_h2 => ?_)
  refine Fr_ite ?_ ?_
  · exact Fr_some ag_h2
  · refine Fr_cal (fg_XX12_in _ _ _ (fun a i hh => hh.elim) _ ag_h2) (fun r3 h4 ag_h4 => ?_)
    refine Fr_ite ?_ ?_
    · exact Fr_some ag_h4
    · refine Fr_cal (fg_XX12_in _ _ _ (fun a i hh => hh.elim) _ ag_h4) (fun r5 h6 ag_h6 => ?_)
      refine Fr_ite ?_ ?_
      · exact Fr_some ag_h6
      · refine Fr_chk ?_
        refine Fr_cal (fg_XX12_in _ _ _ (fun a i hh => hh.elim) _ ag_h6) (fun r7 h8 ag_h8 => ?_)
        refine Fr_ite ?_ ?_
        · exact Fr_some ag_h8
        · refine Fr_wr ag_h8 (hW _ _ (Or.inr (Or.inr (Or.inr (Or.inl (by omega)))))) (fun h9 ag_h9 => ?_)
          refine Fr_wr ag_h9 (hW _ _ (Or.inr (Or.inr (Or.inr (Or.inl (by omega)))))) (fun h10 ag_h10 => ?_)
          refine Fr_wr ag_h10 (hW _ _ (Or.inr (Or.inr (Or.inr (Or.inl (by omega)))))) (fun h11 ag_h11 => ?_)
          exact fg_XX12_begin_L60 _ (fun a i hh => hW a i ((fun q => q.elim (fun q => Or.inl (by omega)) (fun q => q.elim (fun q => Or.inr (Or.inl (by omega))) (fun q => q.elim (fun q => Or.inr (Or.inr (Or.inl (by omega)))) (fun q => q.elim (fun q => Or.inr (Or.inr (Or.inr (Or.inr (Or.inl (by omega)))))) (fun q => q.elim (fun q => Or.inr (Or.inr (Or.inr (Or.inr (Or.inr (Or.inl (by omega))))))) (fun q => q.elim (fun q => Or.inr (Or.inr (Or.inr (Or.inr (Or.inr (Or.inr (Or.inl (by omega)))))))) (fun q => q.elim (fun q => Or.inr (Or.inr (Or.inr (Or.inr (Or.inr (Or.inr (Or.inr (Or.inl (by omega))))))))) (fun q => Or.inr (Or.inr (Or.inr (Or.inr (Or.inr (Or.inr (Or.inr (Or.inr (by omega)))))))))))))))) hh)) _ ag_h11
theorem fr_XX12_begin {x0 : Int} {x1 : Int} {x2 : Int} {h : Hp} {r : Int} {h1 : Hp} (e : XX12_begin x0 x1 x2 h = some (r, h1)) (a i : Nat) (hn : ¬ (a = 144 ∨ (147 ≤ a ∧ a ≤ 151) ∨ (156 ≤ a ∧ a ≤ 157) ∨ (a = 143 ∧ 1 ≤ i ∧ i ≤ 3) ∨ (a = 143 ∧ i = 12) ∨ (a = 143 ∧ i = 19) ∨ (a = 143 ∧ 21 ≤ i ∧ i ≤ 23) ∨ (a = 143 ∧ 36 ≤ i ∧ i ≤ 38) ∨ (a = 143 ∧ i = 57))) : h1 a i = h a i := fg_XX12_begin (W := fun a i => a = 144 ∨ (147 ≤ a ∧ a ≤ 151) ∨ (156 ≤ a ∧ a ≤ 157) ∨ (a = 143 ∧ 1 ≤ i ∧ i ≤ 3) ∨ (a = 143 ∧ i = 12) ∨ (a = 143 ∧ i = 19) ∨ (a = 143 ∧ 21 ≤ i ∧ i ≤ 23) ∨ (a = 143 ∧ 36 ≤ i ∧ i ≤ 38) ∨ (a = 143 ∧ i = 57)) x0 x1 x2 (fun _ _ hh => hh) h (fun _ _ _ => rfl) r h1 e a i hn
theorem fg_XX12_changed_p18 {W : Nat → Nat → Prop} {h0 : Hp} (s1 : Int) (hW : ∀ a i : Nat, ((a = 143 ∧ i = 36)) → W a i) (h : Hp) (ag_h : Ag W h0 h) : Fr W h0 (XX12_changed_p18 s1 h) := by
  unfold XX12_changed_p18
  refine Fr_wr ag_h (hW _ _ (by omega)) (fun h2 ag_h2 => ?_)
  exact Fr_some ag_h2
theorem fg_XX12_changed {W : Nat → Nat → Prop} {h0 : Hp} (x0 : Int) (hW : ∀ a i : Nat, ((a = 143 ∧ i = 23) ∨ (a = 143 ∧ i = 36)) → W a i) (h : Hp) (ag_h : Ag W h0 h) : Fr W h0 (XX12_changed x0 h) := by
  unfold XX12_changed
  refine Fr_zb ?_
  refine Fr_wr ag_h (hW _ _ (Or.inl (by omega))) (fun h1 ag_h1 => ?_)
  refine Fr_ite ?_ ?_
  · exact fg_XX12_changed_p18 _ (fun a i hh => hW a i (Or.inr (by omega))) _ ag_h1
  · exact fg_XX12_changed_p18 _ (fun a i hh => hW a i (Or.inr (by omega))) _ ag_h1
theorem fr_XX12_changed {x0 : Int} {h : Hp} {r : Int} {h1 : Hp} (e : XX12_changed x0 h = some (r, h1)) (a i : Nat) (hn : ¬ ((a = 143 ∧ i = 23) ∨ (a = 143 ∧ i = 36))) : h1 a i = h a i := fg_XX12_changed (W := fun a i => (a = 143 ∧ i = 23) ∨ (a = 143 ∧ i = 36)) x0 (fun _ _ hh => hh) h (fun _ _ _ => rfl) r h1 e a i hn
theorem fg_XX12_makes_p91 {W : Nat → Nat → Prop} {h0 : Hp} (l1 : Int) (hW : ∀ a i : Nat, (a = 144) → W a i) (h : Hp) (ag_h : Ag W h0 h) : Fr W h0 (XX12_makes_p91 l1 h) := by
  unfold XX12_makes_p91
  refine Fr_inb ?_
  refine Fr_chk ?_
  refine Fr_inb ?_
  refine Fr_wr ag_h (hW _ _ (by omega)) (fun h7 ag_h7 => ?_)
  exact Fr_some ag_h7
theorem fg_XX12_makes {W : Nat → Nat → Prop} {h0 : Hp} (x0 : Int) (x1 : Int) (x2 : Int) (x3 : Int) (x4 : Int) (hW : ∀ a i : Nat, ((144 ≤ a ∧ a ≤ 146) ∨ (150 ≤ a ∧ a ≤ 151)) → W a i) (h : Hp) (ag_h : Ag W h0 h) : Fr W h0 (XX12_makes x0 x1 x2 x3 x4 h) := by
  unfold XX12_makes
  refine Fr_cal (fg_XX12_wires _ (fun a i hh => hh.elim) _ ag_h) (fun r1 h2 ag_h2 => ?_)
  refine Fr_chk ?_
  refine Fr_chk ?_
  refine Fr_inb ?_
  refine Fr_wr ag_h2 (hW _ _ (Or.inl (by omega))) (fun h3 ag_h3 => ?_)
  refine Fr_chk ?_
  refine Fr_chk ?_
  refine Fr_chk ?_
  refine Fr_inb ?_
  refine Fr_wr ag_h3 (hW _ _ (Or.inl (by omega))) (fun h4 ag_h4 => ?_)
  refine Fr_chk ?_
  refine Fr_chk ?_
  refine Fr_chk ?_
  refine Fr_chk ?_
  refine Fr_inb ?_
  refine Fr_wr ag_h4 (hW _ _ (Or.inl (by omega))) (fun h5 ag_h5 => ?_)
  refine Fr_chk ?_
  refine Fr_chk ?_
  refine Fr_chk ?_
  refine Fr_chk ?_
  refine Fr_inb ?_
  refine Fr_wr ag_h5 (hW _ _ (Or.inl (by omega))) (fun h6 ag_h6 => ?_)
  refine Fr_ite ?_ ?_
  · refine Fr_inb ?_
    refine Fr_wr ag_h6 (hW _ _ (Or.inr (by omega))) (fun h8 ag_h8 => ?_)
    refine Fr_inb ?_
    refine Fr_wr ag_h8 (hW _ _ (Or.inr (by omega))) (fun h9 ag_h9 => ?_)
    exact fg_XX12_makes_p91 _ (fun a i hh => hW a i (Or.inl (by omega))) _ ag_h9
  · exact fg_XX12_makes_p91 _ (fun a i hh => hW a i (Or.inl (by omega))) _ ag_h6
theorem fr_XX12_makes {x0 : Int} {x1 : Int} {x2 : Int} {x3 : Int} {x4 : Int} {h : Hp} {r : Int} {h1 : Hp} (e : XX12_makes x0 x1 x2 x3 x4 h = some (r, h1)) (a i : Nat) (hn : ¬ ((144 ≤ a ∧ a ≤ 146) ∨ (150 ≤ a ∧ a ≤ 151))) : h1 a i = h a i := fg_XX12_makes (W := fun a i => (144 ≤ a ∧ a ≤ 146) ∨ (150 ≤ a ∧ a ≤ 151)) x0 x1 x2 x3 x4 (fun _ _ hh => hh) h (fun _ _ _ => rfl) r h1 e a i hn
theorem fg_XX12_fits {W : Nat → Nat → Prop} {h0 : Hp} (x0 : Int) (x1 : Int) (x2 : Int) (hW : ∀ a i : Nat, (False) → W a i) (h : Hp) (ag_h : Ag W h0 h) : Fr W h0 (XX12_fits x0 x1 x2 h) := by
  unfold XX12_fits
  refine Fr_ite ?_ ?_
  · refine Fr_ite ?_ ?_
    · refine Fr_zb ?_
      exact Fr_some ag_h
    · refine Fr_zb ?_
      exact Fr_some ag_h
  · refine Fr_cal (fg_XX12_isWire _ _ (fun a i hh => hh.elim) _ ag_h) (fun r1 h2 ag_h2 => ?_)
    refine Fr_zb ?_
    exact Fr_some ag_h2
theorem fr_XX12_fits {x0 : Int} {x1 : Int} {x2 : Int} {h : Hp} {r : Int} {h1 : Hp} (e : XX12_fits x0 x1 x2 h = some (r, h1)) (a i : Nat) (hn : ¬ (False)) : h1 a i = h a i := fg_XX12_fits (W := fun a i => False) x0 x1 x2 (fun _ _ hh => hh) h (fun _ _ _ => rfl) r h1 e a i hn
theorem fe_XX12_fits {x0 : Int} {x1 : Int} {x2 : Int} {h : Hp} {r : Int} {h1 : Hp} (e : XX12_fits x0 x1 x2 h = some (r, h1)) : h1 = h := funext (fun a => funext (fun i => fr_XX12_fits e a i (fun hh => hh)))
theorem fg_XX12_gate_p105 {W : Nat → Nat → Prop} {h0 : Hp} (l1 : Int) (l2 : Int) (l3 : Int) (l4 : Int) (l5 : Int) (s0 : Int) (s1 : Int) (hW : ∀ a i : Nat, ((144 ≤ a ∧ a ≤ 146) ∨ (150 ≤ a ∧ a ≤ 151) ∨ (a = 143 ∧ i = 23) ∨ (a = 143 ∧ i = 36)) → W a i) (h : Hp) (ag_h : Ag W h0 h) : Fr W h0 (XX12_gate_p105 l1 l2 l3 l4 l5 s0 s1 h) := by
  unfold XX12_gate_p105
  refine Fr_ite ?_ ?_
  · exact Fr_some ag_h
  · refine Fr_cal (fg_XX12_makes _ _ _ _ _ (fun a i hh => hW a i ((fun q => q.elim (fun q => Or.inl (by omega)) (fun q => Or.inr (Or.inl (by omega)))) hh)) _ ag_h) (fun r13 h14 ag_h14 => ?_)
    refine Fr_cal (fg_XX12_changed _ (fun a i hh => hW a i ((fun q => q.elim (fun q => Or.inr (Or.inr (Or.inl (by omega)))) (fun q => Or.inr (Or.inr (Or.inr (by omega))))) hh)) _ ag_h14) (fun r15 h16 ag_h16 => ?_)
    refine Fr_cal (fg_XX12_wires _ (fun a i hh => hh.elim) _ ag_h16) (fun r17 h18 ag_h18 => ?_)
    refine Fr_chk ?_
    exact Fr_some ag_h18
theorem fg_XX12_gate_p78 {W : Nat → Nat → Prop} {h0 : Hp} (l1 : Int) (l2 : Int) (l3 : Int) (l4 : Int) (l5 : Int) (s1 : Int) (s2 : Int) (hW : ∀ a i : Nat, ((144 ≤ a ∧ a ≤ 146) ∨ (150 ≤ a ∧ a ≤ 151) ∨ (a = 143 ∧ i = 23) ∨ (a = 143 ∧ i = 36)) → W a i) (h : Hp) (ag_h : Ag W h0 h) : Fr W h0 (XX12_gate_p78 l1 l2 l3 l4 l5 s1 s2 h) := by
  unfold XX12_gate_p78
  refine Fr_cal (fg_XX12_fits _ _ _ (fun a i hh => hh.elim) _ ag_h) (fun r11 h12 ag_h12 => ?_)
  refine Fr_ite ?_ ?_
  · exact Fr_some ag_h12
  · refine Fr_inb ?_
    refine Fr_ite ?_ ?_
    · exact fg_XX12_gate_p105 _ _ _ _ _ _ _ (fun a i hh => hW a i ((fun q => q.elim (fun q => Or.inl (by omega)) (fun q => q.elim (fun q => Or.inr (Or.inl (by omega))) (fun q => q.elim (fun q => Or.inr (Or.inr (Or.inl (by omega)))) (fun q => Or.inr (Or.inr (Or.inr (by omega))))))) hh)) _ ag_h12
    · exact fg_XX12_gate_p105 _ _ _ _ _ _ _ (fun a i hh => hW a i ((fun q => q.elim (fun q => Or.inl (by omega)) (fun q => q.elim (fun q => Or.inr (Or.inl (by omega))) (fun q => q.elim (fun q => Or.inr (Or.inr (Or.inl (by omega)))) (fun q => Or.inr (Or.inr (Or.inr (by omega))))))) hh)) _ ag_h12
theorem fg_XX12_gate_p57 {W : Nat → Nat → Prop} {h0 : Hp} (l1 : Int) (l2 : Int) (l3 : Int) (l4 : Int) (l5 : Int) (l6 : Int) (s1 : Int) (s2 : Int) (hW : ∀ a i : Nat, ((144 ≤ a ∧ a ≤ 146) ∨ (150 ≤ a ∧ a ≤ 151) ∨ (a = 143 ∧ i = 23) ∨ (a = 143 ∧ i = 36)) → W a i) (h : Hp) (ag_h : Ag W h0 h) : Fr W h0 (XX12_gate_p57 l1 l2 l3 l4 l5 l6 s1 s2 h) := by
  unfold XX12_gate_p57
  refine Fr_cal (fg_XX12_fits _ _ _ (fun a i hh => hh.elim) _ ag_h) (fun r9 h10 ag_h10 => ?_)
  refine Fr_ite ?_ ?_
  · exact Fr_some ag_h10
  · refine Fr_ite ?_ ?_
    · exact fg_XX12_gate_p78 _ _ _ _ _ _ _ (fun a i hh => hW a i ((fun q => q.elim (fun q => Or.inl (by omega)) (fun q => q.elim (fun q => Or.inr (Or.inl (by omega))) (fun q => q.elim (fun q => Or.inr (Or.inr (Or.inl (by omega)))) (fun q => Or.inr (Or.inr (Or.inr (by omega))))))) hh)) _ ag_h10
    · exact fg_XX12_gate_p78 _ _ _ _ _ _ _ (fun a i hh => hW a i ((fun q => q.elim (fun q => Or.inl (by omega)) (fun q => q.elim (fun q => Or.inr (Or.inl (by omega))) (fun q => q.elim (fun q => Or.inr (Or.inr (Or.inl (by omega)))) (fun q => Or.inr (Or.inr (Or.inr (by omega))))))) hh)) _ ag_h10
theorem fg_XX12_gate_p37 {W : Nat → Nat → Prop} {h0 : Hp} (l1 : Int) (l2 : Int) (l3 : Int) (l4 : Int) (l5 : Int) (l6 : Int) (s1 : Int) (s2 : Int) (hW : ∀ a i : Nat, ((144 ≤ a ∧ a ≤ 146) ∨ (150 ≤ a ∧ a ≤ 151) ∨ (a = 143 ∧ i = 23) ∨ (a = 143 ∧ i = 36)) → W a i) (h : Hp) (ag_h : Ag W h0 h) : Fr W h0 (XX12_gate_p37 l1 l2 l3 l4 l5 l6 s1 s2 h) := by
  unfold XX12_gate_p37
  refine Fr_cal (fg_XX12_fits _ _ _ (fun a i hh => hh.elim) _ ag_h) (fun r7 h8 ag_h8 => ?_)
  refine Fr_ite ?_ ?_
  · exact Fr_some ag_h8
  · refine Fr_ite ?_ ?_
    · exact fg_XX12_gate_p57 _ _ _ _ _ _ _ _ (fun a i hh => hW a i ((fun q => q.elim (fun q => Or.inl (by omega)) (fun q => q.elim (fun q => Or.inr (Or.inl (by omega))) (fun q => q.elim (fun q => Or.inr (Or.inr (Or.inl (by omega)))) (fun q => Or.inr (Or.inr (Or.inr (by omega))))))) hh)) _ ag_h8
    · exact fg_XX12_gate_p57 _ _ _ _ _ _ _ _ (fun a i hh => hW a i ((fun q => q.elim (fun q => Or.inl (by omega)) (fun q => q.elim (fun q => Or.inr (Or.inl (by omega))) (fun q => q.elim (fun q => Or.inr (Or.inr (Or.inl (by omega)))) (fun q => Or.inr (Or.inr (Or.inr (by omega))))))) hh)) _ ag_h8
theorem fg_XX12_gate {W : Nat → Nat → Prop} {h0 : Hp} (x0 : Int) (x1 : Int) (x2 : Int) (x3 : Int) (x4 : Int) (hW : ∀ a i : Nat, ((144 ≤ a ∧ a ≤ 146) ∨ (150 ≤ a ∧ a ≤ 151) ∨ (a = 143 ∧ i = 23) ∨ (a = 143 ∧ i = 36)) → W a i) (h : Hp) (ag_h : Ag W h0 h) : Fr W h0 (XX12_gate x0 x1 x2 x3 x4 h) := by
  unfold XX12_gate
  refine Fr_cal (fg_XX12_isNet _ (fun a i hh => hh.elim) _ ag_h) (fun r1 h2 ag_h2 => ?_)
  refine Fr_ite ?_ ?_
  · exact Fr_some ag_h2
  · refine Fr_cal (fg_XX12_in _ _ _ (fun a i hh => hh.elim) _ ag_h2) (fun r3 h4 ag_h4 => ?_)
    refine Fr_ite ?_ ?_
    · exact Fr_some ag_h4
    · refine Fr_cal (fg_XX12_pinsOf _ (fun a i hh => hh.elim) _ ag_h4) (fun r5 h6 ag_h6 => ?_)
      refine Fr_ite ?_ ?_
      · exact fg_XX12_gate_p37 _ _ _ _ _ _ _ _ (fun a i hh => hW a i ((fun q => q.elim (fun q => Or.inl (by omega)) (fun q => q.elim (fun q => Or.inr (Or.inl (by omega))) (fun q => q.elim (fun q => Or.inr (Or.inr (Or.inl (by omega)))) (fun q => Or.inr (Or.inr (Or.inr (by omega))))))) hh)) _ ag_h6
      · exact fg_XX12_gate_p37 _ _ _ _ _ _ _ _ (fun a i hh => hW a i ((fun q => q.elim (fun q => Or.inl (by omega)) (fun q => q.elim (fun q => Or.inr (Or.inl (by omega))) (fun q => q.elim (fun q => Or.inr (Or.inr (Or.inl (by omega)))) (fun q => Or.inr (Or.inr (Or.inr (by omega))))))) hh)) _ ag_h6
theorem fr_XX12_gate {x0 : Int} {x1 : Int} {x2 : Int} {x3 : Int} {x4 : Int} {h : Hp} {r : Int} {h1 : Hp} (e : XX12_gate x0 x1 x2 x3 x4 h = some (r, h1)) (a i : Nat) (hn : ¬ ((144 ≤ a ∧ a ≤ 146) ∨ (150 ≤ a ∧ a ≤ 151) ∨ (a = 143 ∧ i = 23) ∨ (a = 143 ∧ i = 36))) : h1 a i = h a i := fg_XX12_gate (W := fun a i => (144 ≤ a ∧ a ≤ 146) ∨ (150 ≤ a ∧ a ≤ 151) ∨ (a = 143 ∧ i = 23) ∨ (a = 143 ∧ i = 36)) x0 x1 x2 x3 x4 (fun _ _ hh => hh) h (fun _ _ _ => rfl) r h1 e a i hn
theorem fg_XX12_looks_p140 {W : Nat → Nat → Prop} {h0 : Hp} (self32 : Int → Int → Hp → OR) (hs_self32 : ∀ (y0 y1 : Int) (hh : Hp), Ag W h0 hh → Fr W h0 (self32 y0 y1 hh)) (self44 : Int → Int → Int → Hp → OR) (hs_self44 : ∀ (y0 y1 y2 : Int) (hh : Hp), Ag W h0 hh → Fr W h0 (self44 y0 y1 y2 hh)) (l1 : Int) (l3 : Int) (l4 : Int) (hW : ∀ a i : Nat, (False) → W a i) (h : Hp) (ag_h : Ag W h0 h) : Fr W h0 (XX12_looks_p140 self32 self44 l1 l3 l4 h) := by
  unfold XX12_looks_p140
  refine Fr_chk ?_
  exact hs_self44 _ _ _ _ ag_h
theorem fg_XX12_looks_p125 {W : Nat → Nat → Prop} {h0 : Hp} (self32 : Int → Int → Hp → OR) (hs_self32 : ∀ (y0 y1 : Int) (hh : Hp), Ag W h0 hh → Fr W h0 (self32 y0 y1 hh)) (self44 : Int → Int → Int → Hp → OR) (hs_self44 : ∀ (y0 y1 y2 : Int) (hh : Hp), Ag W h0 hh → Fr W h0 (self44 y0 y1 y2 hh)) (self57 : Int → Int → Int → Int → Hp → OR) (hs_self57 : ∀ (y0 y1 y2 y3 : Int) (hh : Hp), Ag W h0 hh → Fr W h0 (self57 y0 y1 y2 y3 hh)) (l1 : Int) (l4 : Int) (l5 : Int) (l6 : Int) (s0 : Int) (hW : ∀ a i : Nat, (a = 185) → W a i) (h : Hp) (ag_h : Ag W h0 h) : Fr W h0 (XX12_looks_p125 self32 self44 self57 l1 l4 l5 l6 s0 h) := by
  unfold XX12_looks_p125
  refine Fr_inb ?_
  refine Fr_zb ?_
  refine Fr_wr ag_h (hW _ _ (by omega)) (fun h8 ag_h8 => ?_)
  refine Fr_chk ?_
  exact hs_self57 _ _ _ _ _ ag_h8
theorem fg_XX12_looks_p120 {W : Nat → Nat → Prop} {h0 : Hp} (self32 : Int → Int → Hp → OR) (hs_self32 : ∀ (y0 y1 : Int) (hh : Hp), Ag W h0 hh → Fr W h0 (self32 y0 y1 hh)) (self44 : Int → Int → Int → Hp → OR) (hs_self44 : ∀ (y0 y1 y2 : Int) (hh : Hp), Ag W h0 hh → Fr W h0 (self44 y0 y1 y2 hh)) (self57 : Int → Int → Int → Int → Hp → OR) (hs_self57 : ∀ (y0 y1 y2 y3 : Int) (hh : Hp), Ag W h0 hh → Fr W h0 (self57 y0 y1 y2 y3 hh)) (l1 : Int) (l4 : Int) (l5 : Int) (l6 : Int) (hW : ∀ a i : Nat, (a = 185) → W a i) (h : Hp) (ag_h : Ag W h0 h) : Fr W h0 (XX12_looks_p120 self32 self44 self57 l1 l4 l5 l6 h) := by
  unfold XX12_looks_p120
  exact fg_XX12_looks_p125 _ hs_self32 _ hs_self44 _ hs_self57 _ _ _ _ _ (fun a i hh => hW a i (by omega)) _ ag_h
theorem fg_XX12_looks_b57 {W : Nat → Nat → Prop} {h0 : Hp} (self32 : Int → Int → Hp → OR) (hs_self32 : ∀ (y0 y1 : Int) (hh : Hp), Ag W h0 hh → Fr W h0 (self32 y0 y1 hh)) (self44 : Int → Int → Int → Hp → OR) (hs_self44 : ∀ (y0 y1 y2 : Int) (hh : Hp), Ag W h0 hh → Fr W h0 (self44 y0 y1 y2 hh)) (self57 : Int → Int → Int → Int → Hp → OR) (hs_self57 : ∀ (y0 y1 y2 y3 : Int) (hh : Hp), Ag W h0 hh → Fr W h0 (self57 y0 y1 y2 y3 hh)) (l1 : Int) (l3 : Int) (l4 : Int) (l5 : Int) (hW : ∀ a i : Nat, (a = 185) → W a i) (h : Hp) (ag_h : Ag W h0 h) : Fr W h0 (XX12_looks_b57 self32 self44 self57 l1 l3 l4 l5 h) := by
  unfold XX12_looks_b57
  refine Fr_chk ?_
  refine Fr_chk ?_
  refine Fr_inb ?_
  refine Fr_cal (fg_XX12_pinsOf _ (fun a i hh => hh.elim) _ ag_h) (fun r5 h6 ag_h6 => ?_)
  refine Fr_ite ?_ ?_
  · exact fg_XX12_looks_p140 _ hs_self32 _ hs_self44 _ _ _ (fun a i hh => hh.elim) _ ag_h6
  · refine Fr_inb ?_
    refine Fr_ite ?_ ?_
    · exact fg_XX12_looks_p140 _ hs_self32 _ hs_self44 _ _ _ (fun a i hh => hh.elim) _ ag_h6
    · refine Fr_chk ?_
      refine Fr_chk ?_
      refine Fr_chk ?_
      refine Fr_chk ?_
      refine Fr_inb ?_
      refine Fr_nm (fun v7 => ?_)
      refine Fr_ite ?_ ?_
      · refine Fr_inb ?_
        refine Fr_ite ?_ ?_
        · exact fg_XX12_looks_p120 _ hs_self32 _ hs_self44 _ hs_self57 _ _ _ _ (fun a i hh => hW a i (by omega)) _ ag_h6
        · exact fg_XX12_looks_p125 _ hs_self32 _ hs_self44 _ hs_self57 _ _ _ _ _ (fun a i hh => hW a i (by omega)) _ ag_h6
      · exact fg_XX12_looks_p120 _ hs_self32 _ hs_self44 _ hs_self57 _ _ _ _ (fun a i hh => hW a i (by omega)) _ ag_h6
theorem fg_XX12_looks_L57 {W : Nat → Nat → Prop} {h0 : Hp} (self32 : Int → Int → Hp → OR) (hs_self32 : ∀ (y0 y1 : Int) (hh : Hp), Ag W h0 hh → Fr W h0 (self32 y0 y1 hh)) (self44 : Int → Int → Int → Hp → OR) (hs_self44 : ∀ (y0 y1 y2 : Int) (hh : Hp), Ag W h0 hh → Fr W h0 (self44 y0 y1 y2 hh)) (l1 : Int) (l3 : Int) (l4 : Int) (l5 : Int) (hW : ∀ a i : Nat, (a = 185) → W a i) (h : Hp) (ag_h : Ag W h0 h) : Fr W h0 (XX12_looks_L57 self32 self44 l1 l3 l4 l5 h) := by
  unfold XX12_looks_L57
  exact Fr_lup4 (fun self hs z0 z1 z2 z3 hh ag => fg_XX12_looks_b57 self32 hs_self32 self44 hs_self44 self hs z0 z1 z2 z3 hW hh ag) FU _ _ _ _ _ ag_h
theorem fg_XX12_looks_b44 {W : Nat → Nat → Prop} {h0 : Hp} (self32 : Int → Int → Hp → OR) (hs_self32 : ∀ (y0 y1 : Int) (hh : Hp), Ag W h0 hh → Fr W h0 (self32 y0 y1 hh)) (self44 : Int → Int → Int → Hp → OR) (hs_self44 : ∀ (y0 y1 y2 : Int) (hh : Hp), Ag W h0 hh → Fr W h0 (self44 y0 y1 y2 hh)) (l1 : Int) (l3 : Int) (l4 : Int) (hW : ∀ a i : Nat, (a = 185) → W a i) (h : Hp) (ag_h : Ag W h0 h) : Fr W h0 (XX12_looks_b44 self32 self44 l1 l3 l4 h) := by
  unfold XX12_looks_b44
  refine Fr_cal (fg_XX12_wires _ (fun a i hh => hh.elim) _ ag_h) (fun r3 h4 ag_h4 => ?_)
  refine Fr_ite ?_ ?_
  · exact hs_self32 _ _ _ ag_h4
  · exact fg_XX12_looks_L57 _ hs_self32 _ hs_self44 _ _ _ _ (fun a i hh => hW a i (by omega)) _ ag_h4
theorem fg_XX12_looks_L44 {W : Nat → Nat → Prop} {h0 : Hp} (self32 : Int → Int → Hp → OR) (hs_self32 : ∀ (y0 y1 : Int) (hh : Hp), Ag W h0 hh → Fr W h0 (self32 y0 y1 hh)) (l1 : Int) (l3 : Int) (l4 : Int) (hW : ∀ a i : Nat, (a = 185) → W a i) (h : Hp) (ag_h : Ag W h0 h) : Fr W h0 (XX12_looks_L44 self32 l1 l3 l4 h) := by
  unfold XX12_looks_L44
  exact Fr_lup3 (fun self hs z0 z1 z2 hh ag => fg_XX12_looks_b44 self32 hs_self32 self hs z0 z1 z2 hW hh ag) FU _ _ _ _ ag_h
theorem fg_XX12_looks_b32 {W : Nat → Nat → Prop} {h0 : Hp} (self32 : Int → Int → Hp → OR) (hs_self32 : ∀ (y0 y1 : Int) (hh : Hp), Ag W h0 hh → Fr W h0 (self32 y0 y1 hh)) (l1 : Int) (l3 : Int) (hW : ∀ a i : Nat, (a = 185) → W a i) (h : Hp) (ag_h : Ag W h0 h) : Fr W h0 (XX12_looks_b32 self32 l1 l3 h) := by
  unfold XX12_looks_b32
  refine Fr_ite ?_ ?_
  · exact Fr_some ag_h
  · refine Fr_cal (fg_XX12_begun (fun a i hh => hh.elim) _ ag_h) (fun r1 h2 ag_h2 => ?_)
    exact fg_XX12_looks_L44 _ hs_self32 _ _ _ (fun a i hh => hW a i (by omega)) _ ag_h2
theorem fg_XX12_looks_L32 {W : Nat → Nat → Prop} {h0 : Hp} (l1 : Int) (l3 : Int) (hW : ∀ a i : Nat, (a = 185) → W a i) (h : Hp) (ag_h : Ag W h0 h) : Fr W h0 (XX12_looks_L32 l1 l3 h) := by
  unfold XX12_looks_L32
  exact Fr_lup2 (fun self hs z0 z1 hh ag => fg_XX12_looks_b32 self hs z0 z1 hW hh ag) FU _ _ _ ag_h
theorem fg_XX12_looks_p23 {W : Nat → Nat → Prop} {h0 : Hp} (self2 : Int → Int → Int → Hp → OR) (hs_self2 : ∀ (y0 y1 y2 : Int) (hh : Hp), Ag W h0 hh → Fr W h0 (self2 y0 y1 y2 hh)) (l1 : Int) (l2 : Int) (l3 : Int) (s1 : Int) (s2 : Int) (hW : ∀ a i : Nat, (a = 185) → W a i) (h : Hp) (ag_h : Ag W h0 h) : Fr W h0 (XX12_looks_p23 self2 l1 l2 l3 s1 s2 h) := by
  unfold XX12_looks_p23
  refine Fr_inb ?_
  refine Fr_zb ?_
  refine Fr_wr ag_h (hW _ _ (by omega)) (fun h9 ag_h9 => ?_)
  refine Fr_chk ?_
  exact hs_self2 _ _ _ _ ag_h9
theorem fg_XX12_looks_b2 {W : Nat → Nat → Prop} {h0 : Hp} (self2 : Int → Int → Int → Hp → OR) (hs_self2 : ∀ (y0 y1 y2 : Int) (hh : Hp), Ag W h0 hh → Fr W h0 (self2 y0 y1 y2 hh)) (l1 : Int) (l2 : Int) (l3 : Int) (hW : ∀ a i : Nat, (a = 185) → W a i) (h : Hp) (ag_h : Ag W h0 h) : Fr W h0 (XX12_looks_b2 self2 l1 l2 l3 h) := by
  unfold XX12_looks_b2
  refine Fr_ite ?_ ?_
  · exact fg_XX12_looks_L32 _ _ (fun a i hh => hW a i (by omega)) _ ag_h
  · refine Fr_ite ?_ ?_
    · exact fg_XX12_looks_p23 _ hs_self2 _ _ _ _ _ (fun a i hh => hW a i (by omega)) _ ag_h
    · exact fg_XX12_looks_p23 _ hs_self2 _ _ _ _ _ (fun a i hh => hW a i (by omega)) _ ag_h
theorem fg_XX12_looks_L2 {W : Nat → Nat → Prop} {h0 : Hp} (l1 : Int) (l2 : Int) (l3 : Int) (hW : ∀ a i : Nat, (a = 185) → W a i) (h : Hp) (ag_h : Ag W h0 h) : Fr W h0 (XX12_looks_L2 l1 l2 l3 h) := by
  unfold XX12_looks_L2
  exact Fr_lup3 (fun self hs z0 z1 z2 hh ag => fg_XX12_looks_b2 self hs z0 z1 z2 hW hh ag) FU _ _ _ _ ag_h
theorem fg_XX12_looks {W : Nat → Nat → Prop} {h0 : Hp} (x0 : Int) (x1 : Int) (hW : ∀ a i : Nat, (a = 185) → W a i) (h : Hp) (ag_h : Ag W h0 h) : Fr W h0 (XX12_looks x0 x1 h) := by
  unfold XX12_looks
  exact fg_XX12_looks_L2 _ _ _ (fun a i hh => hW a i (by omega)) _ ag_h
theorem fr_XX12_looks {x0 : Int} {x1 : Int} {h : Hp} {r : Int} {h1 : Hp} (e : XX12_looks x0 x1 h = some (r, h1)) (a i : Nat) (hn : ¬ (a = 185)) : h1 a i = h a i := fg_XX12_looks (W := fun a i => a = 185) x0 x1 (fun _ _ hh => hh) h (fun _ _ _ => rfl) r h1 e a i hn
theorem fg_XX12_doesHang {W : Nat → Nat → Prop} {h0 : Hp} (x0 : Int) (x1 : Int) (x2 : Int) (hW : ∀ a i : Nat, (a = 185) → W a i) (h : Hp) (ag_h : Ag W h0 h) : Fr W h0 (XX12_doesHang x0 x1 x2 h) := by
  unfold XX12_doesHang
  refine Fr_cal (fg_XX12_looks _ _ (fun a i hh => hW a i (by omega)) _ ag_h) (fun r1 h2 ag_h2 => ?_)
  refine Fr_inb ?_
  refine Fr_zb ?_
  exact Fr_some ag_h2
theorem fr_XX12_doesHang {x0 : Int} {x1 : Int} {x2 : Int} {h : Hp} {r : Int} {h1 : Hp} (e : XX12_doesHang x0 x1 x2 h = some (r, h1)) (a i : Nat) (hn : ¬ (a = 185)) : h1 a i = h a i := fg_XX12_doesHang (W := fun a i => a = 185) x0 x1 x2 (fun _ _ hh => hh) h (fun _ _ _ => rfl) r h1 e a i hn
theorem fg_XX12_rewire {W : Nat → Nat → Prop} {h0 : Hp} (x0 : Int) (x1 : Int) (x2 : Int) (x3 : Int) (hW : ∀ a i : Nat, (a = 146 ∨ a = 185 ∨ (a = 143 ∧ i = 23) ∨ (a = 143 ∧ i = 36)) → W a i) (h : Hp) (ag_h : Ag W h0 h) : Fr W h0 (XX12_rewire x0 x1 x2 x3 h) := by
  unfold XX12_rewire
  refine Fr_cal (fg_XX12_isNet _ (fun a i hh => hh.elim) _ ag_h) (fun r1 h2 ag_h2 => ?_)
  refine Fr_ite ?_ ?_
  · exact Fr_some ag_h2
  · refine Fr_cal (fg_XX12_isGate _ _ (fun a i hh => hh.elim) _ ag_h2) (fun r3 h4 ag_h4 => ?_)
    refine Fr_ite ?_ ?_
    · exact Fr_some ag_h4
    · refine Fr_chk ?_
      refine Fr_chk ?_
      refine Fr_inb ?_
      refine Fr_cal (fg_XX12_pinsOf _ (fun a i hh => hh.elim) _ ag_h4) (fun r5 h6 ag_h6 => ?_)
      refine Fr_chk ?_
      refine Fr_cal (fg_XX12_in _ _ _ (fun a i hh => hh.elim) _ ag_h6) (fun r7 h8 ag_h8 => ?_)
      refine Fr_ite ?_ ?_
      · exact Fr_some ag_h8
      · refine Fr_cal (fg_XX12_isWire _ _ (fun a i hh => hh.elim) _ ag_h8) (fun r9 h10 ag_h10 => ?_)
        refine Fr_ite ?_ ?_
        · exact Fr_some ag_h10
        · refine Fr_cal (fg_XX12_doesHang _ _ _ (fun a i hh => hW a i (Or.inr (Or.inl (by omega)))) _ ag_h10) (fun r11 h12 ag_h12 => ?_)
          refine Fr_ite ?_ ?_
          · refine Fr_chk ?_
            refine Fr_chk ?_
            refine Fr_chk ?_
            refine Fr_chk ?_
            refine Fr_nm (fun v13 => ?_)
            refine Fr_inb ?_
            refine Fr_nm (fun v14 => ?_)
            refine Fr_inb ?_
            refine Fr_wr ag_h12 (hW _ _ (Or.inl (by omega))) (fun h15 ag_h15 => ?_)
            refine Fr_cal (fg_XX12_changed _ (fun a i hh => hW a i ((fun q => q.elim (fun q => Or.inr (Or.inr (Or.inl (by omega)))) (fun q => Or.inr (Or.inr (Or.inr (by omega))))) hh)) _ ag_h15) (fun r16 h17 ag_h17 => ?_)
            exact Fr_some ag_h17
          · exact Fr_some ag_h12
theorem fr_XX12_rewire {x0 : Int} {x1 : Int} {x2 : Int} {x3 : Int} {h : Hp} {r : Int} {h1 : Hp} (e : XX12_rewire x0 x1 x2 x3 h = some (r, h1)) (a i : Nat) (hn : ¬ (a = 146 ∨ a = 185 ∨ (a = 143 ∧ i = 23) ∨ (a = 143 ∧ i = 36))) : h1 a i = h a i := fg_XX12_rewire (W := fun a i => a = 146 ∨ a = 185 ∨ (a = 143 ∧ i = 23) ∨ (a = 143 ∧ i = 36)) x0 x1 x2 x3 (fun _ _ hh => hh) h (fun _ _ _ => rfl) r h1 e a i hn
theorem fg_XX12_out {W : Nat → Nat → Prop} {h0 : Hp} (x0 : Int) (x1 : Int) (x2 : Int) (hW : ∀ a i : Nat, (a = 147 ∨ (a = 143 ∧ i = 23) ∨ (a = 143 ∧ i = 36)) → W a i) (h : Hp) (ag_h : Ag W h0 h) : Fr W h0 (XX12_out x0 x1 x2 h) := by
  unfold XX12_out
  refine Fr_cal (fg_XX12_isNet _ (fun a i hh => hh.elim) _ ag_h) (fun r1 h2 ag_h2 => ?_)
  refine Fr_ite ?_ ?_
  · exact Fr_some ag_h2
  · refine Fr_chk ?_
    refine Fr_cal (fg_XX12_in _ _ _ (fun a i hh => hh.elim) _ ag_h2) (fun r3 h4 ag_h4 => ?_)
    refine Fr_ite ?_ ?_
    · exact Fr_some ag_h4
    · refine Fr_cal (fg_XX12_isWire _ _ (fun a i hh => hh.elim) _ ag_h4) (fun r5 h6 ag_h6 => ?_)
      refine Fr_ite ?_ ?_
      · exact Fr_some ag_h6
      · refine Fr_chk ?_
        refine Fr_chk ?_
        refine Fr_inb ?_
        refine Fr_nm (fun v7 => ?_)
        refine Fr_chk ?_
        refine Fr_chk ?_
        refine Fr_inb ?_
        refine Fr_wr ag_h6 (hW _ _ (Or.inl (by omega))) (fun h8 ag_h8 => ?_)
        refine Fr_cal (fg_XX12_changed _ (fun a i hh => hW a i ((fun q => q.elim (fun q => Or.inr (Or.inl (by omega))) (fun q => Or.inr (Or.inr (by omega)))) hh)) _ ag_h8) (fun r9 h10 ag_h10 => ?_)
        exact Fr_some ag_h10
theorem fr_XX12_out {x0 : Int} {x1 : Int} {x2 : Int} {h : Hp} {r : Int} {h1 : Hp} (e : XX12_out x0 x1 x2 h = some (r, h1)) (a i : Nat) (hn : ¬ (a = 147 ∨ (a = 143 ∧ i = 23) ∨ (a = 143 ∧ i = 36))) : h1 a i = h a i := fg_XX12_out (W := fun a i => a = 147 ∨ (a = 143 ∧ i = 23) ∨ (a = 143 ∧ i = 36)) x0 x1 x2 (fun _ _ hh => hh) h (fun _ _ _ => rfl) r h1 e a i hn
theorem fg_XX12_next {W : Nat → Nat → Prop} {h0 : Hp} (x0 : Int) (x1 : Int) (x2 : Int) (hW : ∀ a i : Nat, (a = 148 ∨ (a = 143 ∧ i = 23) ∨ (a = 143 ∧ i = 36)) → W a i) (h : Hp) (ag_h : Ag W h0 h) : Fr W h0 (XX12_next x0 x1 x2 h) := by
  unfold XX12_next
  refine Fr_cal (fg_XX12_isNet _ (fun a i hh => hh.elim) _ ag_h) (fun r1 h2 ag_h2 => ?_)
  refine Fr_ite ?_ ?_
  · exact Fr_some ag_h2
  · refine Fr_chk ?_
    refine Fr_cal (fg_XX12_in _ _ _ (fun a i hh => hh.elim) _ ag_h2) (fun r3 h4 ag_h4 => ?_)
    refine Fr_ite ?_ ?_
    · exact Fr_some ag_h4
    · refine Fr_cal (fg_XX12_isWire _ _ (fun a i hh => hh.elim) _ ag_h4) (fun r5 h6 ag_h6 => ?_)
      refine Fr_ite ?_ ?_
      · exact Fr_some ag_h6
      · refine Fr_chk ?_
        refine Fr_chk ?_
        refine Fr_inb ?_
        refine Fr_nm (fun v7 => ?_)
        refine Fr_chk ?_
        refine Fr_chk ?_
        refine Fr_inb ?_
        refine Fr_wr ag_h6 (hW _ _ (Or.inl (by omega))) (fun h8 ag_h8 => ?_)
        refine Fr_cal (fg_XX12_changed _ (fun a i hh => hW a i ((fun q => q.elim (fun q => Or.inr (Or.inl (by omega))) (fun q => Or.inr (Or.inr (by omega)))) hh)) _ ag_h8) (fun r9 h10 ag_h10 => ?_)
        exact Fr_some ag_h10
theorem fr_XX12_next {x0 : Int} {x1 : Int} {x2 : Int} {h : Hp} {r : Int} {h1 : Hp} (e : XX12_next x0 x1 x2 h = some (r, h1)) (a i : Nat) (hn : ¬ (a = 148 ∨ (a = 143 ∧ i = 23) ∨ (a = 143 ∧ i = 36))) : h1 a i = h a i := fg_XX12_next (W := fun a i => a = 148 ∨ (a = 143 ∧ i = 23) ∨ (a = 143 ∧ i = 36)) x0 x1 x2 (fun _ _ hh => hh) h (fun _ _ _ => rfl) r h1 e a i hn
theorem fg_XX12_isCase {W : Nat → Nat → Prop} {h0 : Hp} (x0 : Int) (hW : ∀ a i : Nat, (False) → W a i) (h : Hp) (ag_h : Ag W h0 h) : Fr W h0 (XX12_isCase x0 h) := by
  unfold XX12_isCase
  refine Fr_cal (fg_XX12_cases (fun a i hh => hh.elim) _ ag_h) (fun r1 h2 ag_h2 => ?_)
  refine Fr_chk ?_
  refine Fr_cal (fg_XX12_in _ _ _ (fun a i hh => hh.elim) _ ag_h2) (fun r3 h4 ag_h4 => ?_)
  refine Fr_zb ?_
  exact Fr_some ag_h4
theorem fr_XX12_isCase {x0 : Int} {h : Hp} {r : Int} {h1 : Hp} (e : XX12_isCase x0 h = some (r, h1)) (a i : Nat) (hn : ¬ (False)) : h1 a i = h a i := fg_XX12_isCase (W := fun a i => False) x0 (fun _ _ hh => hh) h (fun _ _ _ => rfl) r h1 e a i hn
theorem fe_XX12_isCase {x0 : Int} {h : Hp} {r : Int} {h1 : Hp} (e : XX12_isCase x0 h = some (r, h1)) : h1 = h := funext (fun a => funext (fun i => fr_XX12_isCase e a i (fun hh => hh)))
theorem fg_XX12_free_p29 {W : Nat → Nat → Prop} {h0 : Hp} (l1 : Int) (s1 : Int) (s2 : Int) (hW : ∀ a i : Nat, (a = 149 ∨ (a = 143 ∧ i = 23)) → W a i) (h : Hp) (ag_h : Ag W h0 h) : Fr W h0 (XX12_free_p29 l1 s1 s2 h) := by
  unfold XX12_free_p29
  refine Fr_inb ?_
  refine Fr_zb ?_
  refine Fr_wr ag_h (hW _ _ (Or.inl (by omega))) (fun h3 ag_h3 => ?_)
  refine Fr_zb ?_
  refine Fr_wr ag_h3 (hW _ _ (Or.inr (by omega))) (fun h4 ag_h4 => ?_)
  refine Fr_inb ?_
  refine Fr_ite ?_ ?_
  · exact Fr_some ag_h4
  · exact Fr_some ag_h4
theorem fg_XX12_free {W : Nat → Nat → Prop} {h0 : Hp} (x0 : Int) (hW : ∀ a i : Nat, (a = 149 ∨ (a = 143 ∧ i = 23)) → W a i) (h : Hp) (ag_h : Ag W h0 h) : Fr W h0 (XX12_free x0 h) := by
  unfold XX12_free
  refine Fr_cal (fg_XX12_isCase _ (fun a i hh => hh.elim) _ ag_h) (fun r1 h2 ag_h2 => ?_)
  refine Fr_ite ?_ ?_
  · exact Fr_some ag_h2
  · refine Fr_inb ?_
    refine Fr_ite ?_ ?_
    · exact fg_XX12_free_p29 _ _ _ (fun a i hh => hW a i ((fun q => q.elim (fun q => Or.inl (by omega)) (fun q => Or.inr (by omega))) hh)) _ ag_h2
    · exact fg_XX12_free_p29 _ _ _ (fun a i hh => hW a i ((fun q => q.elim (fun q => Or.inl (by omega)) (fun q => Or.inr (by omega))) hh)) _ ag_h2
theorem fr_XX12_free {x0 : Int} {h : Hp} {r : Int} {h1 : Hp} (e : XX12_free x0 h = some (r, h1)) (a i : Nat) (hn : ¬ (a = 149 ∨ (a = 143 ∧ i = 23))) : h1 a i = h a i := fg_XX12_free (W := fun a i => a = 149 ∨ (a = 143 ∧ i = 23)) x0 (fun _ _ hh => hh) h (fun _ _ _ => rfl) r h1 e a i hn
theorem fg_XX12_hangs {W : Nat → Nat → Prop} {h0 : Hp} (x0 : Int) (x1 : Int) (x2 : Int) (hW : ∀ a i : Nat, (a = 185) → W a i) (h : Hp) (ag_h : Ag W h0 h) : Fr W h0 (XX12_hangs x0 x1 x2 h) := by
  unfold XX12_hangs
  refine Fr_cal (fg_XX12_isNet _ (fun a i hh => hh.elim) _ ag_h) (fun r1 h2 ag_h2 => ?_)
  refine Fr_ite ?_ ?_
  · exact Fr_some ag_h2
  · refine Fr_cal (fg_XX12_isWire _ _ (fun a i hh => hh.elim) _ ag_h2) (fun r3 h4 ag_h4 => ?_)
    refine Fr_ite ?_ ?_
    · exact Fr_some ag_h4
    · refine Fr_cal (fg_XX12_isWire _ _ (fun a i hh => hh.elim) _ ag_h4) (fun r5 h6 ag_h6 => ?_)
      refine Fr_ite ?_ ?_
      · exact Fr_some ag_h6
      · refine Fr_cal (fg_XX12_doesHang _ _ _ (fun a i hh => hW a i (by omega)) _ ag_h6) (fun r7 h8 ag_h8 => ?_)
        refine Fr_ite ?_ ?_
        · exact Fr_some ag_h8
        · exact Fr_some ag_h8
theorem fr_XX12_hangs {x0 : Int} {x1 : Int} {x2 : Int} {h : Hp} {r : Int} {h1 : Hp} (e : XX12_hangs x0 x1 x2 h = some (r, h1)) (a i : Nat) (hn : ¬ (a = 185)) : h1 a i = h a i := fg_XX12_hangs (W := fun a i => a = 185) x0 x1 x2 (fun _ _ hh => hh) h (fun _ _ _ => rfl) r h1 e a i hn
theorem fg_XX12_sorts_p158 {W : Nat → Nat → Prop} {h0 : Hp} (self35 : Int → Int → Hp → OR) (hs_self35 : ∀ (y0 y1 : Int) (hh : Hp), Ag W h0 hh → Fr W h0 (self35 y0 y1 hh)) (self50 : Int → Int → Int → Hp → OR) (hs_self50 : ∀ (y0 y1 y2 : Int) (hh : Hp), Ag W h0 hh → Fr W h0 (self50 y0 y1 y2 hh)) (l1 : Int) (l2 : Int) (l3 : Int) (hW : ∀ a i : Nat, (False) → W a i) (h : Hp) (ag_h : Ag W h0 h) : Fr W h0 (XX12_sorts_p158 self35 self50 l1 l2 l3 h) := by
  unfold XX12_sorts_p158
  refine Fr_chk ?_
  exact hs_self50 _ _ _ _ ag_h
theorem fg_XX12_sorts_p131 {W : Nat → Nat → Prop} {h0 : Hp} (self35 : Int → Int → Hp → OR) (hs_self35 : ∀ (y0 y1 : Int) (hh : Hp), Ag W h0 hh → Fr W h0 (self35 y0 y1 hh)) (self50 : Int → Int → Int → Hp → OR) (hs_self50 : ∀ (y0 y1 y2 : Int) (hh : Hp), Ag W h0 hh → Fr W h0 (self50 y0 y1 y2 hh)) (l1 : Int) (l2 : Int) (l3 : Int) (l4 : Int) (hW : ∀ a i : Nat, ((186 ≤ a ∧ a ≤ 187)) → W a i) (h : Hp) (ag_h : Ag W h0 h) : Fr W h0 (XX12_sorts_p131 self35 self50 l1 l2 l3 l4 h) := by
  unfold XX12_sorts_p131
  refine Fr_ite ?_ ?_
  · exact fg_XX12_sorts_p158 _ hs_self35 _ hs_self50 _ _ _ (fun a i hh => hh.elim) _ ag_h
  · refine Fr_inb ?_
    refine Fr_zb ?_
    refine Fr_wr ag_h (hW _ _ (by omega)) (fun h7 ag_h7 => ?_)
    refine Fr_chk ?_
    refine Fr_chk ?_
    refine Fr_inb ?_
    refine Fr_wr ag_h7 (hW _ _ (by omega)) (fun h8 ag_h8 => ?_)
    refine Fr_chk ?_
    exact fg_XX12_sorts_p158 _ hs_self35 _ hs_self50 _ _ _ (fun a i hh => hh.elim) _ ag_h8
theorem fg_XX12_sorts_b78 {W : Nat → Nat → Prop} {h0 : Hp} (self35 : Int → Int → Hp → OR) (hs_self35 : ∀ (y0 y1 : Int) (hh : Hp), Ag W h0 hh → Fr W h0 (self35 y0 y1 hh)) (self50 : Int → Int → Int → Hp → OR) (hs_self50 : ∀ (y0 y1 y2 : Int) (hh : Hp), Ag W h0 hh → Fr W h0 (self50 y0 y1 y2 hh)) (self78 : Int → Int → Int → Int → Int → Hp → OR) (hs_self78 : ∀ (y0 y1 y2 y3 y4 : Int) (hh : Hp), Ag W h0 hh → Fr W h0 (self78 y0 y1 y2 y3 y4 hh)) (l1 : Int) (l2 : Int) (l3 : Int) (l4 : Int) (l5 : Int) (hW : ∀ a i : Nat, ((186 ≤ a ∧ a ≤ 187)) → W a i) (h : Hp) (ag_h : Ag W h0 h) : Fr W h0 (XX12_sorts_b78 self35 self50 self78 l1 l2 l3 l4 l5 h) := by
  unfold XX12_sorts_b78
  refine Fr_chk ?_
  refine Fr_chk ?_
  refine Fr_inb ?_
  refine Fr_cal (fg_XX12_pinsOf _ (fun a i hh => hh.elim) _ ag_h) (fun r5 h6 ag_h6 => ?_)
  refine Fr_ite ?_ ?_
  · exact fg_XX12_sorts_p131 _ hs_self35 _ hs_self50 _ _ _ _ (fun a i hh => hW a i (by omega)) _ ag_h6
  · refine Fr_ite ?_ ?_
    · exact fg_XX12_sorts_p131 _ hs_self35 _ hs_self50 _ _ _ _ (fun a i hh => hW a i (by omega)) _ ag_h6
    · refine Fr_chk ?_
      refine Fr_chk ?_
      refine Fr_chk ?_
      refine Fr_chk ?_
      refine Fr_inb ?_
      refine Fr_inb ?_
      refine Fr_nm (fun v9 => ?_)
      refine Fr_chk ?_
      exact hs_self78 _ _ _ _ _ _ ag_h6
theorem fg_XX12_sorts_L78 {W : Nat → Nat → Prop} {h0 : Hp} (self35 : Int → Int → Hp → OR) (hs_self35 : ∀ (y0 y1 : Int) (hh : Hp), Ag W h0 hh → Fr W h0 (self35 y0 y1 hh)) (self50 : Int → Int → Int → Hp → OR) (hs_self50 : ∀ (y0 y1 y2 : Int) (hh : Hp), Ag W h0 hh → Fr W h0 (self50 y0 y1 y2 hh)) (l1 : Int) (l2 : Int) (l3 : Int) (l4 : Int) (l5 : Int) (hW : ∀ a i : Nat, ((186 ≤ a ∧ a ≤ 187)) → W a i) (h : Hp) (ag_h : Ag W h0 h) : Fr W h0 (XX12_sorts_L78 self35 self50 l1 l2 l3 l4 l5 h) := by
  unfold XX12_sorts_L78
  exact Fr_lup5 (fun self hs z0 z1 z2 z3 z4 hh ag => fg_XX12_sorts_b78 self35 hs_self35 self50 hs_self50 self hs z0 z1 z2 z3 z4 hW hh ag) FU _ _ _ _ _ _ ag_h
theorem fg_XX12_sorts_p73 {W : Nat → Nat → Prop} {h0 : Hp} (self35 : Int → Int → Hp → OR) (hs_self35 : ∀ (y0 y1 : Int) (hh : Hp), Ag W h0 hh → Fr W h0 (self35 y0 y1 hh)) (self50 : Int → Int → Int → Hp → OR) (hs_self50 : ∀ (y0 y1 y2 : Int) (hh : Hp), Ag W h0 hh → Fr W h0 (self50 y0 y1 y2 hh)) (l1 : Int) (l2 : Int) (l3 : Int) (s0 : Int) (hW : ∀ a i : Nat, ((186 ≤ a ∧ a ≤ 187)) → W a i) (h : Hp) (ag_h : Ag W h0 h) : Fr W h0 (XX12_sorts_p73 self35 self50 l1 l2 l3 s0 h) := by
  unfold XX12_sorts_p73
  exact fg_XX12_sorts_L78 _ hs_self35 _ hs_self50 _ _ _ _ _ (fun a i hh => hW a i (by omega)) _ ag_h
theorem fg_XX12_sorts_b50 {W : Nat → Nat → Prop} {h0 : Hp} (self35 : Int → Int → Hp → OR) (hs_self35 : ∀ (y0 y1 : Int) (hh : Hp), Ag W h0 hh → Fr W h0 (self35 y0 y1 hh)) (self50 : Int → Int → Int → Hp → OR) (hs_self50 : ∀ (y0 y1 y2 : Int) (hh : Hp), Ag W h0 hh → Fr W h0 (self50 y0 y1 y2 hh)) (l1 : Int) (l2 : Int) (l3 : Int) (hW : ∀ a i : Nat, ((186 ≤ a ∧ a ≤ 187)) → W a i) (h : Hp) (ag_h : Ag W h0 h) : Fr W h0 (XX12_sorts_b50 self35 self50 l1 l2 l3 h) := by
  unfold XX12_sorts_b50
  refine Fr_cal (fg_XX12_wires _ (fun a i hh => hh.elim) _ ag_h) (fun r3 h4 ag_h4 => ?_)
  refine Fr_ite ?_ ?_
  · exact hs_self35 _ _ _ ag_h4
  · refine Fr_inb ?_
    refine Fr_ite ?_ ?_
    · exact fg_XX12_sorts_p73 _ hs_self35 _ hs_self50 _ _ _ _ (fun a i hh => hW a i (by omega)) _ ag_h4
    · exact fg_XX12_sorts_p73 _ hs_self35 _ hs_self50 _ _ _ _ (fun a i hh => hW a i (by omega)) _ ag_h4
theorem fg_XX12_sorts_L50 {W : Nat → Nat → Prop} {h0 : Hp} (self35 : Int → Int → Hp → OR) (hs_self35 : ∀ (y0 y1 : Int) (hh : Hp), Ag W h0 hh → Fr W h0 (self35 y0 y1 hh)) (l1 : Int) (l2 : Int) (l3 : Int) (hW : ∀ a i : Nat, ((186 ≤ a ∧ a ≤ 187)) → W a i) (h : Hp) (ag_h : Ag W h0 h) : Fr W h0 (XX12_sorts_L50 self35 l1 l2 l3 h) := by
  unfold XX12_sorts_L50
  exact Fr_lup3 (fun self hs z0 z1 z2 hh ag => fg_XX12_sorts_b50 self35 hs_self35 self hs z0 z1 z2 hW hh ag) FU _ _ _ _ ag_h
theorem fg_XX12_sorts_b35 {W : Nat → Nat → Prop} {h0 : Hp} (self35 : Int → Int → Hp → OR) (hs_self35 : ∀ (y0 y1 : Int) (hh : Hp), Ag W h0 hh → Fr W h0 (self35 y0 y1 hh)) (l1 : Int) (l2 : Int) (hW : ∀ a i : Nat, ((186 ≤ a ∧ a ≤ 187)) → W a i) (h : Hp) (ag_h : Ag W h0 h) : Fr W h0 (XX12_sorts_b35 self35 l1 l2 h) := by
  unfold XX12_sorts_b35
  refine Fr_inb ?_
  refine Fr_ite ?_ ?_
  · exact Fr_some ag_h
  · refine Fr_cal (fg_XX12_begun (fun a i hh => hh.elim) _ ag_h) (fun r1 h2 ag_h2 => ?_)
    exact fg_XX12_sorts_L50 _ hs_self35 _ _ _ (fun a i hh => hW a i (by omega)) _ ag_h2
theorem fg_XX12_sorts_L35 {W : Nat → Nat → Prop} {h0 : Hp} (l1 : Int) (l2 : Int) (hW : ∀ a i : Nat, ((186 ≤ a ∧ a ≤ 187)) → W a i) (h : Hp) (ag_h : Ag W h0 h) : Fr W h0 (XX12_sorts_L35 l1 l2 h) := by
  unfold XX12_sorts_L35
  exact Fr_lup2 (fun self hs z0 z1 hh ag => fg_XX12_sorts_b35 self hs z0 z1 hW hh ag) FU _ _ _ ag_h
theorem fg_XX12_sorts_p26 {W : Nat → Nat → Prop} {h0 : Hp} (self2 : Int → Int → Hp → OR) (hs_self2 : ∀ (y0 y1 : Int) (hh : Hp), Ag W h0 hh → Fr W h0 (self2 y0 y1 hh)) (l1 : Int) (l2 : Int) (s1 : Int) (s2 : Int) (hW : ∀ a i : Nat, (a = 187) → W a i) (h : Hp) (ag_h : Ag W h0 h) : Fr W h0 (XX12_sorts_p26 self2 l1 l2 s1 s2 h) := by
  unfold XX12_sorts_p26
  refine Fr_inb ?_
  refine Fr_zb ?_
  refine Fr_wr ag_h (hW _ _ (by omega)) (fun h12 ag_h12 => ?_)
  refine Fr_chk ?_
  exact hs_self2 _ _ _ ag_h12
theorem fg_XX12_sorts_b2 {W : Nat → Nat → Prop} {h0 : Hp} (self2 : Int → Int → Hp → OR) (hs_self2 : ∀ (y0 y1 : Int) (hh : Hp), Ag W h0 hh → Fr W h0 (self2 y0 y1 hh)) (l1 : Int) (l2 : Int) (hW : ∀ a i : Nat, ((186 ≤ a ∧ a ≤ 187)) → W a i) (h : Hp) (ag_h : Ag W h0 h) : Fr W h0 (XX12_sorts_b2 self2 l1 l2 h) := by
  unfold XX12_sorts_b2
  refine Fr_ite ?_ ?_
  · exact fg_XX12_sorts_L35 _ _ (fun a i hh => hW a i (by omega)) _ ag_h
  · refine Fr_cal (fg_XX12_begun (fun a i hh => hh.elim) _ ag_h) (fun r10 h11 ag_h11 => ?_)
    refine Fr_ite ?_ ?_
    · exact fg_XX12_sorts_p26 _ hs_self2 _ _ _ _ (fun a i hh => hW a i (by omega)) _ ag_h11
    · exact fg_XX12_sorts_p26 _ hs_self2 _ _ _ _ (fun a i hh => hW a i (by omega)) _ ag_h11
theorem fg_XX12_sorts_L2 {W : Nat → Nat → Prop} {h0 : Hp} (l1 : Int) (l2 : Int) (hW : ∀ a i : Nat, ((186 ≤ a ∧ a ≤ 187)) → W a i) (h : Hp) (ag_h : Ag W h0 h) : Fr W h0 (XX12_sorts_L2 l1 l2 h) := by
  unfold XX12_sorts_L2
  exact Fr_lup2 (fun self hs z0 z1 hh ag => fg_XX12_sorts_b2 self hs z0 z1 hW hh ag) FU _ _ _ ag_h
theorem fg_XX12_sorts {W : Nat → Nat → Prop} {h0 : Hp} (x0 : Int) (hW : ∀ a i : Nat, ((186 ≤ a ∧ a ≤ 187)) → W a i) (h : Hp) (ag_h : Ag W h0 h) : Fr W h0 (XX12_sorts x0 h) := by
  unfold XX12_sorts
  exact fg_XX12_sorts_L2 _ _ (fun a i hh => hW a i (by omega)) _ ag_h
theorem fr_XX12_sorts {x0 : Int} {h : Hp} {r : Int} {h1 : Hp} (e : XX12_sorts x0 h = some (r, h1)) (a i : Nat) (hn : ¬ ((186 ≤ a ∧ a ≤ 187))) : h1 a i = h a i := fg_XX12_sorts (W := fun a i => (186 ≤ a ∧ a ≤ 187)) x0 (fun _ _ hh => hh) h (fun _ _ _ => rfl) r h1 e a i hn
theorem fg_XX12_inputWord_p36 {W : Nat → Nat → Prop} {h0 : Hp} (self5 : Int → Int → Int → Int → Hp → OR) (hs_self5 : ∀ (y0 y1 y2 y3 : Int) (hh : Hp), Ag W h0 hh → Fr W h0 (self5 y0 y1 y2 y3 hh)) (l0 : Int) (l1 : Int) (l4 : Int) (s0 : Int) (s1 : Int) (hW : ∀ a i : Nat, (False) → W a i) (h : Hp) (ag_h : Ag W h0 h) : Fr W h0 (XX12_inputWord_p36 self5 l0 l1 l4 s0 s1 h) := by
  unfold XX12_inputWord_p36
  refine Fr_nm (fun v1 => ?_)
  refine Fr_chk ?_
  exact hs_self5 _ _ _ _ _ ag_h
theorem fg_XX12_inputWord_b5 {W : Nat → Nat → Prop} {h0 : Hp} (self5 : Int → Int → Int → Int → Hp → OR) (hs_self5 : ∀ (y0 y1 y2 y3 : Int) (hh : Hp), Ag W h0 hh → Fr W h0 (self5 y0 y1 y2 y3 hh)) (l0 : Int) (l1 : Int) (l2 : Int) (l4 : Int) (hW : ∀ a i : Nat, (False) → W a i) (h : Hp) (ag_h : Ag W h0 h) : Fr W h0 (XX12_inputWord_b5 self5 l0 l1 l2 l4 h) := by
  unfold XX12_inputWord_b5
  refine Fr_ite ?_ ?_
  · exact Fr_some ag_h
  · refine Fr_chk ?_
    refine Fr_chk ?_
    refine Fr_ite ?_ ?_
    · exact fg_XX12_inputWord_p36 _ hs_self5 _ _ _ _ _ (fun a i hh => hh.elim) _ ag_h
    · exact fg_XX12_inputWord_p36 _ hs_self5 _ _ _ _ _ (fun a i hh => hh.elim) _ ag_h
theorem fg_XX12_inputWord_L5 {W : Nat → Nat → Prop} {h0 : Hp} (l0 : Int) (l1 : Int) (l2 : Int) (l4 : Int) (hW : ∀ a i : Nat, (False) → W a i) (h : Hp) (ag_h : Ag W h0 h) : Fr W h0 (XX12_inputWord_L5 l0 l1 l2 l4 h) := by
  unfold XX12_inputWord_L5
  exact Fr_lup4 (fun self hs z0 z1 z2 z3 hh ag => fg_XX12_inputWord_b5 self hs z0 z1 z2 z3 hW hh ag) FU _ _ _ _ _ ag_h
theorem fg_XX12_inputWord {W : Nat → Nat → Prop} {h0 : Hp} (x0 : Int) (x1 : Int) (hW : ∀ a i : Nat, (False) → W a i) (h : Hp) (ag_h : Ag W h0 h) : Fr W h0 (XX12_inputWord x0 x1 h) := by
  unfold XX12_inputWord
  exact fg_XX12_inputWord_L5 _ _ _ _ (fun a i hh => hh.elim) _ ag_h
theorem fr_XX12_inputWord {x0 : Int} {x1 : Int} {h : Hp} {r : Int} {h1 : Hp} (e : XX12_inputWord x0 x1 h = some (r, h1)) (a i : Nat) (hn : ¬ (False)) : h1 a i = h a i := fg_XX12_inputWord (W := fun a i => False) x0 x1 (fun _ _ hh => hh) h (fun _ _ _ => rfl) r h1 e a i hn
theorem fe_XX12_inputWord {x0 : Int} {x1 : Int} {h : Hp} {r : Int} {h1 : Hp} (e : XX12_inputWord x0 x1 h = some (r, h1)) : h1 = h := funext (fun a => funext (fun i => fr_XX12_inputWord e a i (fun hh => hh)))
theorem fg_XX12_two {W : Nat → Nat → Prop} {h0 : Hp} (x0 : Int) (x1 : Int) (x2 : Int) (hW : ∀ a i : Nat, (False) → W a i) (h : Hp) (ag_h : Ag W h0 h) : Fr W h0 (XX12_two x0 x1 x2 h) := by
  unfold XX12_two
  refine Fr_ite ?_ ?_
  · exact Fr_some ag_h
  · refine Fr_ite ?_ ?_
    · exact Fr_some ag_h
    · refine Fr_ite ?_ ?_
      · exact Fr_some ag_h
      · refine Fr_ite ?_ ?_
        · exact Fr_some ag_h
        · exact Fr_some ag_h
theorem fr_XX12_two {x0 : Int} {x1 : Int} {x2 : Int} {h : Hp} {r : Int} {h1 : Hp} (e : XX12_two x0 x1 x2 h = some (r, h1)) (a i : Nat) (hn : ¬ (False)) : h1 a i = h a i := fg_XX12_two (W := fun a i => False) x0 x1 x2 (fun _ _ hh => hh) h (fun _ _ _ => rfl) r h1 e a i hn
theorem fe_XX12_two {x0 : Int} {x1 : Int} {x2 : Int} {h : Hp} {r : Int} {h1 : Hp} (e : XX12_two x0 x1 x2 h = some (r, h1)) : h1 = h := funext (fun a => funext (fun i => fr_XX12_two e a i (fun hh => hh)))
theorem fg_XX12_worked_p132 {W : Nat → Nat → Prop} {h0 : Hp} (l5 : Int) (l6 : Int) (l8 : Int) (s0 : Int) (hW : ∀ a i : Nat, (False) → W a i) (h : Hp) (ag_h : Ag W h0 h) : Fr W h0 (XX12_worked_p132 l5 l6 l8 s0 h) := by
  unfold XX12_worked_p132
  refine Fr_ite ?_ ?_
  · exact Fr_some ag_h
  · refine Fr_ite ?_ ?_
    · exact Fr_some ag_h
    · refine Fr_ite ?_ ?_
      · exact Fr_some ag_h
      · refine Fr_ite ?_ ?_
        · exact Fr_some ag_h
        · refine Fr_cal (fg_XX12_two _ _ _ (fun a i hh => hh.elim) _ ag_h) (fun r9 h10 ag_h10 => ?_)
          exact Fr_some ag_h10
theorem fg_XX12_worked_p92 {W : Nat → Nat → Prop} {h0 : Hp} (l1 : Int) (l3 : Int) (l4 : Int) (l5 : Int) (l6 : Int) (s0 : Int) (hW : ∀ a i : Nat, (False) → W a i) (h : Hp) (ag_h : Ag W h0 h) : Fr W h0 (XX12_worked_p92 l1 l3 l4 l5 l6 s0 h) := by
  unfold XX12_worked_p92
  refine Fr_cal (fg_XX12_pinsOf _ (fun a i hh => hh.elim) _ ag_h) (fun r7 h8 ag_h8 => ?_)
  refine Fr_ite ?_ ?_
  · exact fg_XX12_worked_p132 _ _ _ _ (fun a i hh => hh.elim) _ ag_h8
  · refine Fr_chk ?_
    refine Fr_chk ?_
    refine Fr_chk ?_
    refine Fr_inb ?_
    refine Fr_chk ?_
    refine Fr_chk ?_
    refine Fr_chk ?_
    refine Fr_inb ?_
    exact fg_XX12_worked_p132 _ _ _ _ (fun a i hh => hh.elim) _ ag_h8
theorem fg_XX12_worked_p52 {W : Nat → Nat → Prop} {h0 : Hp} (l1 : Int) (l3 : Int) (l4 : Int) (l5 : Int) (s0 : Int) (hW : ∀ a i : Nat, (False) → W a i) (h : Hp) (ag_h : Ag W h0 h) : Fr W h0 (XX12_worked_p52 l1 l3 l4 l5 s0 h) := by
  unfold XX12_worked_p52
  refine Fr_cal (fg_XX12_pinsOf _ (fun a i hh => hh.elim) _ ag_h) (fun r5 h6 ag_h6 => ?_)
  refine Fr_ite ?_ ?_
  · exact fg_XX12_worked_p92 _ _ _ _ _ _ (fun a i hh => hh.elim) _ ag_h6
  · refine Fr_chk ?_
    refine Fr_chk ?_
    refine Fr_chk ?_
    refine Fr_inb ?_
    refine Fr_chk ?_
    refine Fr_chk ?_
    refine Fr_chk ?_
    refine Fr_inb ?_
    exact fg_XX12_worked_p92 _ _ _ _ _ _ (fun a i hh => hh.elim) _ ag_h6
theorem fg_XX12_worked {W : Nat → Nat → Prop} {h0 : Hp} (x0 : Int) (x1 : Int) (x2 : Int) (hW : ∀ a i : Nat, (False) → W a i) (h : Hp) (ag_h : Ag W h0 h) : Fr W h0 (XX12_worked x0 x1 x2 h) := by
  unfold XX12_worked
  refine Fr_chk ?_
  refine Fr_chk ?_
  refine Fr_nm (fun v1 => ?_)
  refine Fr_inb ?_
  refine Fr_nm (fun v2 => ?_)
  refine Fr_cal (fg_XX12_pinsOf _ (fun a i hh => hh.elim) _ ag_h) (fun r3 h4 ag_h4 => ?_)
  refine Fr_ite ?_ ?_
  · exact fg_XX12_worked_p52 _ _ _ _ _ (fun a i hh => hh.elim) _ ag_h4
  · refine Fr_chk ?_
    refine Fr_chk ?_
    refine Fr_inb ?_
    refine Fr_chk ?_
    refine Fr_chk ?_
    refine Fr_chk ?_
    refine Fr_inb ?_
    exact fg_XX12_worked_p52 _ _ _ _ _ (fun a i hh => hh.elim) _ ag_h4
theorem fr_XX12_worked {x0 : Int} {x1 : Int} {x2 : Int} {h : Hp} {r : Int} {h1 : Hp} (e : XX12_worked x0 x1 x2 h = some (r, h1)) (a i : Nat) (hn : ¬ (False)) : h1 a i = h a i := fg_XX12_worked (W := fun a i => False) x0 x1 x2 (fun _ _ hh => hh) h (fun _ _ _ => rfl) r h1 e a i hn
theorem fe_XX12_worked {x0 : Int} {x1 : Int} {x2 : Int} {h : Hp} {r : Int} {h1 : Hp} (e : XX12_worked x0 x1 x2 h = some (r, h1)) : h1 = h := funext (fun a => funext (fun i => fr_XX12_worked e a i (fun hh => hh)))
theorem fg_XX12_begins_b17 {W : Nat → Nat → Prop} {h0 : Hp} (self7 : Int → Int → Hp → OR) (hs_self7 : ∀ (y0 y1 : Int) (hh : Hp), Ag W h0 hh → Fr W h0 (self7 y0 y1 hh)) (self17 : Int → Int → Int → Hp → OR) (hs_self17 : ∀ (y0 y1 y2 : Int) (hh : Hp), Ag W h0 hh → Fr W h0 (self17 y0 y1 y2 hh)) (l1 : Int) (l2 : Int) (l3 : Int) (hW : ∀ a i : Nat, (a = 188) → W a i) (h : Hp) (ag_h : Ag W h0 h) : Fr W h0 (XX12_begins_b17 self7 self17 l1 l2 l3 h) := by
  unfold XX12_begins_b17
  refine Fr_ite ?_ ?_
  · refine Fr_chk ?_
    exact hs_self7 _ _ _ ag_h
  · refine Fr_chk ?_
    refine Fr_chk ?_
    refine Fr_chk ?_
    refine Fr_chk ?_
    refine Fr_cal (fg_XX12_inputWord _ _ (fun a i hh => hh.elim) _ ag_h) (fun r5 h6 ag_h6 => ?_)
    refine Fr_inb ?_
    refine Fr_wr ag_h6 (hW _ _ (by omega)) (fun h7 ag_h7 => ?_)
    refine Fr_chk ?_
    exact hs_self17 _ _ _ _ ag_h7
theorem fg_XX12_begins_L17 {W : Nat → Nat → Prop} {h0 : Hp} (self7 : Int → Int → Hp → OR) (hs_self7 : ∀ (y0 y1 : Int) (hh : Hp), Ag W h0 hh → Fr W h0 (self7 y0 y1 hh)) (l1 : Int) (l2 : Int) (l3 : Int) (hW : ∀ a i : Nat, (a = 188) → W a i) (h : Hp) (ag_h : Ag W h0 h) : Fr W h0 (XX12_begins_L17 self7 l1 l2 l3 h) := by
  unfold XX12_begins_L17
  exact Fr_lup3 (fun self hs z0 z1 z2 hh ag => fg_XX12_begins_b17 self7 hs_self7 self hs z0 z1 z2 hW hh ag) FU _ _ _ _ ag_h
theorem fg_XX12_begins_b7 {W : Nat → Nat → Prop} {h0 : Hp} (self7 : Int → Int → Hp → OR) (hs_self7 : ∀ (y0 y1 : Int) (hh : Hp), Ag W h0 hh → Fr W h0 (self7 y0 y1 hh)) (l1 : Int) (l2 : Int) (hW : ∀ a i : Nat, (a = 188) → W a i) (h : Hp) (ag_h : Ag W h0 h) : Fr W h0 (XX12_begins_b7 self7 l1 l2 h) := by
  unfold XX12_begins_b7
  refine Fr_cal (fg_XX12_begun (fun a i hh => hh.elim) _ ag_h) (fun r3 h4 ag_h4 => ?_)
  refine Fr_ite ?_ ?_
  · exact Fr_some ag_h4
  · exact fg_XX12_begins_L17 _ hs_self7 _ _ _ (fun a i hh => hW a i (by omega)) _ ag_h4
theorem fg_XX12_begins_L7 {W : Nat → Nat → Prop} {h0 : Hp} (l1 : Int) (l2 : Int) (hW : ∀ a i : Nat, (a = 188) → W a i) (h : Hp) (ag_h : Ag W h0 h) : Fr W h0 (XX12_begins_L7 l1 l2 h) := by
  unfold XX12_begins_L7
  exact Fr_lup2 (fun self hs z0 z1 hh ag => fg_XX12_begins_b7 self hs z0 z1 hW hh ag) FU _ _ _ ag_h
theorem fg_XX12_begins {W : Nat → Nat → Prop} {h0 : Hp} (x0 : Int) (hW : ∀ a i : Nat, ((186 ≤ a ∧ a ≤ 188)) → W a i) (h : Hp) (ag_h : Ag W h0 h) : Fr W h0 (XX12_begins x0 h) := by
  unfold XX12_begins
  refine Fr_cal (fg_XX12_sorts _ (fun a i hh => hW a i (by omega)) _ ag_h) (fun r1 h2 ag_h2 => ?_)
  exact fg_XX12_begins_L7 _ _ (fun a i hh => hW a i (by omega)) _ ag_h2
theorem fr_XX12_begins {x0 : Int} {h : Hp} {r : Int} {h1 : Hp} (e : XX12_begins x0 h = some (r, h1)) (a i : Nat) (hn : ¬ ((186 ≤ a ∧ a ≤ 188))) : h1 a i = h a i := fg_XX12_begins (W := fun a i => (186 ≤ a ∧ a ≤ 188)) x0 (fun _ _ hh => hh) h (fun _ _ _ => rfl) r h1 e a i hn
theorem fg_XX12_works_p130 {W : Nat → Nat → Prop} {h0 : Hp} (self2 : Int → Int → Hp → OR) (hs_self2 : ∀ (y0 y1 : Int) (hh : Hp), Ag W h0 hh → Fr W h0 (self2 y0 y1 hh)) (self72 : Int → Int → Int → Int → Int → Hp → OR) (hs_self72 : ∀ (y0 y1 y2 y3 y4 : Int) (hh : Hp), Ag W h0 hh → Fr W h0 (self72 y0 y1 y2 y3 y4 hh)) (l1 : Int) (l2 : Int) (l3 : Int) (l4 : Int) (l5 : Int) (s1 : Int) (s2 : Int) (hW : ∀ a i : Nat, (a = 188) → W a i) (h : Hp) (ag_h : Ag W h0 h) : Fr W h0 (XX12_works_p130 self2 self72 l1 l2 l3 l4 l5 s1 s2 h) := by
  unfold XX12_works_p130
  refine Fr_inb ?_
  refine Fr_wr ag_h (hW _ _ (by omega)) (fun h2 ag_h2 => ?_)
  refine Fr_chk ?_
  exact hs_self72 _ _ _ _ _ _ ag_h2
theorem fg_XX12_works_b72 {W : Nat → Nat → Prop} {h0 : Hp} (self2 : Int → Int → Hp → OR) (hs_self2 : ∀ (y0 y1 : Int) (hh : Hp), Ag W h0 hh → Fr W h0 (self2 y0 y1 hh)) (self72 : Int → Int → Int → Int → Int → Hp → OR) (hs_self72 : ∀ (y0 y1 y2 y3 y4 : Int) (hh : Hp), Ag W h0 hh → Fr W h0 (self72 y0 y1 y2 y3 y4 hh)) (l1 : Int) (l2 : Int) (l3 : Int) (l4 : Int) (l5 : Int) (hW : ∀ a i : Nat, (a = 188) → W a i) (h : Hp) (ag_h : Ag W h0 h) : Fr W h0 (XX12_works_b72 self2 self72 l1 l2 l3 l4 l5 h) := by
  unfold XX12_works_b72
  refine Fr_ite ?_ ?_
  · refine Fr_chk ?_
    exact hs_self2 _ _ _ ag_h
  · refine Fr_chk ?_
    refine Fr_chk ?_
    refine Fr_chk ?_
    refine Fr_chk ?_
    refine Fr_ite ?_ ?_
    · refine Fr_cal (fg_XX12_worked _ _ _ (fun a i hh => hh.elim) _ ag_h) (fun r3 h4 ag_h4 => ?_)
      exact fg_XX12_works_p130 _ hs_self2 _ hs_self72 _ _ _ _ _ _ _ (fun a i hh => hW a i (by omega)) _ ag_h4
    · refine Fr_ite ?_ ?_
      · exact fg_XX12_works_p130 _ hs_self2 _ hs_self72 _ _ _ _ _ _ _ (fun a i hh => hW a i (by omega)) _ ag_h
      · exact fg_XX12_works_p130 _ hs_self2 _ hs_self72 _ _ _ _ _ _ _ (fun a i hh => hW a i (by omega)) _ ag_h
theorem fg_XX12_works_L72 {W : Nat → Nat → Prop} {h0 : Hp} (self2 : Int → Int → Hp → OR) (hs_self2 : ∀ (y0 y1 : Int) (hh : Hp), Ag W h0 hh → Fr W h0 (self2 y0 y1 hh)) (l1 : Int) (l2 : Int) (l3 : Int) (l4 : Int) (l5 : Int) (hW : ∀ a i : Nat, (a = 188) → W a i) (h : Hp) (ag_h : Ag W h0 h) : Fr W h0 (XX12_works_L72 self2 l1 l2 l3 l4 l5 h) := by
  unfold XX12_works_L72
  exact Fr_lup5 (fun self hs z0 z1 z2 z3 z4 hh ag => fg_XX12_works_b72 self2 hs_self2 self hs z0 z1 z2 z3 z4 hW hh ag) FU _ _ _ _ _ _ ag_h
theorem fg_XX12_works_p69 {W : Nat → Nat → Prop} {h0 : Hp} (self2 : Int → Int → Hp → OR) (hs_self2 : ∀ (y0 y1 : Int) (hh : Hp), Ag W h0 hh → Fr W h0 (self2 y0 y1 hh)) (l1 : Int) (l2 : Int) (l3 : Int) (l4 : Int) (hW : ∀ a i : Nat, (a = 188) → W a i) (h : Hp) (ag_h : Ag W h0 h) : Fr W h0 (XX12_works_p69 self2 l1 l2 l3 l4 h) := by
  unfold XX12_works_p69
  exact fg_XX12_works_L72 _ hs_self2 _ _ _ _ _ (fun a i hh => hW a i (by omega)) _ ag_h
theorem fg_XX12_works_p61 {W : Nat → Nat → Prop} {h0 : Hp} (self2 : Int → Int → Hp → OR) (hs_self2 : ∀ (y0 y1 : Int) (hh : Hp), Ag W h0 hh → Fr W h0 (self2 y0 y1 hh)) (self30 : Int → Int → Int → Int → Int → Hp → OR) (hs_self30 : ∀ (y0 y1 y2 y3 y4 : Int) (hh : Hp), Ag W h0 hh → Fr W h0 (self30 y0 y1 y2 y3 y4 hh)) (l1 : Int) (l2 : Int) (l3 : Int) (l5 : Int) (s0 : Int) (hW : ∀ a i : Nat, (False) → W a i) (h : Hp) (ag_h : Ag W h0 h) : Fr W h0 (XX12_works_p61 self2 self30 l1 l2 l3 l5 s0 h) := by
  unfold XX12_works_p61
  refine Fr_chk ?_
  exact hs_self30 _ _ _ _ _ _ ag_h
theorem fg_XX12_works_b30 {W : Nat → Nat → Prop} {h0 : Hp} (self2 : Int → Int → Hp → OR) (hs_self2 : ∀ (y0 y1 : Int) (hh : Hp), Ag W h0 hh → Fr W h0 (self2 y0 y1 hh)) (self30 : Int → Int → Int → Int → Int → Hp → OR) (hs_self30 : ∀ (y0 y1 y2 y3 y4 : Int) (hh : Hp), Ag W h0 hh → Fr W h0 (self30 y0 y1 y2 y3 y4 hh)) (l1 : Int) (l2 : Int) (l3 : Int) (l4 : Int) (l5 : Int) (hW : ∀ a i : Nat, (a = 188) → W a i) (h : Hp) (ag_h : Ag W h0 h) : Fr W h0 (XX12_works_b30 self2 self30 l1 l2 l3 l4 l5 h) := by
  unfold XX12_works_b30
  refine Fr_ite ?_ ?_
  · exact fg_XX12_works_p69 _ hs_self2 _ _ _ _ (fun a i hh => hW a i (by omega)) _ ag_h
  · refine Fr_ite ?_ ?_
    · refine Fr_inb ?_
      refine Fr_ite ?_ ?_
      · exact fg_XX12_works_p61 _ hs_self2 _ hs_self30 _ _ _ _ _ (fun a i hh => hh.elim) _ ag_h
      · exact fg_XX12_works_p61 _ hs_self2 _ hs_self30 _ _ _ _ _ (fun a i hh => hh.elim) _ ag_h
    · exact fg_XX12_works_p69 _ hs_self2 _ _ _ _ (fun a i hh => hW a i (by omega)) _ ag_h
theorem fg_XX12_works_L30 {W : Nat → Nat → Prop} {h0 : Hp} (self2 : Int → Int → Hp → OR) (hs_self2 : ∀ (y0 y1 : Int) (hh : Hp), Ag W h0 hh → Fr W h0 (self2 y0 y1 hh)) (l1 : Int) (l2 : Int) (l3 : Int) (l4 : Int) (l5 : Int) (hW : ∀ a i : Nat, (a = 188) → W a i) (h : Hp) (ag_h : Ag W h0 h) : Fr W h0 (XX12_works_L30 self2 l1 l2 l3 l4 l5 h) := by
  unfold XX12_works_L30
  exact Fr_lup5 (fun self hs z0 z1 z2 z3 z4 hh ag => fg_XX12_works_b30 self2 hs_self2 self hs z0 z1 z2 z3 z4 hW hh ag) FU _ _ _ _ _ _ ag_h
theorem fg_XX12_works_b2 {W : Nat → Nat → Prop} {h0 : Hp} (self2 : Int → Int → Hp → OR) (hs_self2 : ∀ (y0 y1 : Int) (hh : Hp), Ag W h0 hh → Fr W h0 (self2 y0 y1 hh)) (l1 : Int) (l2 : Int) (hW : ∀ a i : Nat, (a = 188) → W a i) (h : Hp) (ag_h : Ag W h0 h) : Fr W h0 (XX12_works_b2 self2 l1 l2 h) := by
  unfold XX12_works_b2
  refine Fr_inb ?_
  refine Fr_ite ?_ ?_
  · exact Fr_some ag_h
  · refine Fr_chk ?_
    refine Fr_chk ?_
    refine Fr_inb ?_
    refine Fr_nm (fun v1 => ?_)
    exact fg_XX12_works_L30 _ hs_self2 _ _ _ _ _ (fun a i hh => hW a i (by omega)) _ ag_h
theorem fg_XX12_works_L2 {W : Nat → Nat → Prop} {h0 : Hp} (l1 : Int) (l2 : Int) (hW : ∀ a i : Nat, (a = 188) → W a i) (h : Hp) (ag_h : Ag W h0 h) : Fr W h0 (XX12_works_L2 l1 l2 h) := by
  unfold XX12_works_L2
  exact Fr_lup2 (fun self hs z0 z1 hh ag => fg_XX12_works_b2 self hs z0 z1 hW hh ag) FU _ _ _ ag_h
theorem fg_XX12_works {W : Nat → Nat → Prop} {h0 : Hp} (x0 : Int) (hW : ∀ a i : Nat, (a = 188) → W a i) (h : Hp) (ag_h : Ag W h0 h) : Fr W h0 (XX12_works x0 h) := by
  unfold XX12_works
  exact fg_XX12_works_L2 _ _ (fun a i hh => hW a i (by omega)) _ ag_h
theorem fr_XX12_works {x0 : Int} {h : Hp} {r : Int} {h1 : Hp} (e : XX12_works x0 h = some (r, h1)) (a i : Nat) (hn : ¬ (a = 188)) : h1 a i = h a i := fg_XX12_works (W := fun a i => a = 188) x0 (fun _ _ hh => hh) h (fun _ _ _ => rfl) r h1 e a i hn
theorem fg_XX12_knows {W : Nat → Nat → Prop} {h0 : Hp} (x0 : Int) (hW : ∀ a i : Nat, ((186 ≤ a ∧ a ≤ 188) ∨ (a = 143 ∧ i = 63)) → W a i) (h : Hp) (ag_h : Ag W h0 h) : Fr W h0 (XX12_knows x0 h) := by
  unfold XX12_knows
  refine Fr_wr ag_h (hW _ _ (Or.inr (by omega))) (fun h1 ag_h1 => ?_)
  refine Fr_cal (fg_XX12_begins _ (fun a i hh => hW a i (Or.inl (by omega))) _ ag_h1) (fun r2 h3 ag_h3 => ?_)
  refine Fr_cal (fg_XX12_works _ (fun a i hh => hW a i (Or.inl (by omega))) _ ag_h3) (fun r4 h5 ag_h5 => ?_)
  exact Fr_some ag_h5
theorem fr_XX12_knows {x0 : Int} {h : Hp} {r : Int} {h1 : Hp} (e : XX12_knows x0 h = some (r, h1)) (a i : Nat) (hn : ¬ ((186 ≤ a ∧ a ≤ 188) ∨ (a = 143 ∧ i = 63))) : h1 a i = h a i := fg_XX12_knows (W := fun a i => (186 ≤ a ∧ a ≤ 188) ∨ (a = 143 ∧ i = 63)) x0 (fun _ _ hh => hh) h (fun _ _ _ => rfl) r h1 e a i hn
theorem fg_XX12_isAt {W : Nat → Nat → Prop} {h0 : Hp} (x0 : Int) (x1 : Int) (x2 : Int) (hW : ∀ a i : Nat, (False) → W a i) (h : Hp) (ag_h : Ag W h0 h) : Fr W h0 (XX12_isAt x0 x1 x2 h) := by
  unfold XX12_isAt
  refine Fr_chk ?_
  refine Fr_chk ?_
  refine Fr_chk ?_
  refine Fr_chk ?_
  refine Fr_chk ?_
  refine Fr_inb ?_
  refine Fr_chk ?_
  refine Fr_ite ?_ ?_
  · refine Fr_zb ?_
    exact Fr_some ag_h
  · refine Fr_zb ?_
    exact Fr_some ag_h
theorem fr_XX12_isAt {x0 : Int} {x1 : Int} {x2 : Int} {h : Hp} {r : Int} {h1 : Hp} (e : XX12_isAt x0 x1 x2 h = some (r, h1)) (a i : Nat) (hn : ¬ (False)) : h1 a i = h a i := fg_XX12_isAt (W := fun a i => False) x0 x1 x2 (fun _ _ hh => hh) h (fun _ _ _ => rfl) r h1 e a i hn
theorem fe_XX12_isAt {x0 : Int} {x1 : Int} {x2 : Int} {h : Hp} {r : Int} {h1 : Hp} (e : XX12_isAt x0 x1 x2 h = some (r, h1)) : h1 = h := funext (fun a => funext (fun i => fr_XX12_isAt e a i (fun hh => hh)))
theorem fg_XX12_value {W : Nat → Nat → Prop} {h0 : Hp} (x0 : Int) (x1 : Int) (x2 : Int) (hW : ∀ a i : Nat, ((186 ≤ a ∧ a ≤ 188) ∨ (a = 143 ∧ i = 63)) → W a i) (h : Hp) (ag_h : Ag W h0 h) : Fr W h0 (XX12_value x0 x1 x2 h) := by
  unfold XX12_value
  refine Fr_cal (fg_XX12_isNet _ (fun a i hh => hh.elim) _ ag_h) (fun r1 h2 ag_h2 => ?_)
  refine Fr_ite ?_ ?_
  · exact Fr_some ag_h2
  · refine Fr_cal (fg_XX12_isWire _ _ (fun a i hh => hh.elim) _ ag_h2) (fun r3 h4 ag_h4 => ?_)
    refine Fr_ite ?_ ?_
    · exact Fr_some ag_h4
    · refine Fr_cal (fg_XX12_isCase _ (fun a i hh => hh.elim) _ ag_h4) (fun r5 h6 ag_h6 => ?_)
      refine Fr_ite ?_ ?_
      · exact Fr_some ag_h6
      · refine Fr_cal (fg_XX12_knows _ (fun a i hh => hW a i ((fun q => q.elim (fun q => Or.inl (by omega)) (fun q => Or.inr (by omega))) hh)) _ ag_h6) (fun r7 h8 ag_h8 => ?_)
        refine Fr_cal (fg_XX12_isAt _ _ _ (fun a i hh => hh.elim) _ ag_h8) (fun r9 h10 ag_h10 => ?_)
        refine Fr_ite ?_ ?_
        · exact Fr_some ag_h10
        · exact Fr_some ag_h10
theorem fr_XX12_value {x0 : Int} {x1 : Int} {x2 : Int} {h : Hp} {r : Int} {h1 : Hp} (e : XX12_value x0 x1 x2 h = some (r, h1)) (a i : Nat) (hn : ¬ ((186 ≤ a ∧ a ≤ 188) ∨ (a = 143 ∧ i = 63))) : h1 a i = h a i := fg_XX12_value (W := fun a i => (186 ≤ a ∧ a ≤ 188) ∨ (a = 143 ∧ i = 63)) x0 x1 x2 (fun _ _ hh => hh) h (fun _ _ _ => rfl) r h1 e a i hn
theorem fg_XX12_row_p30 {W : Nat → Nat → Prop} {h0 : Hp} (hW : ∀ a i : Nat, ((a = 143 ∧ i = 0)) → W a i) (h : Hp) (ag_h : Ag W h0 h) : Fr W h0 (XX12_row_p30  h) := by
  unfold XX12_row_p30
  refine Fr_wr ag_h (hW _ _ (by omega)) (fun h4 ag_h4 => ?_)
  exact Fr_some ag_h4
theorem fg_XX12_row_p96 {W : Nat → Nat → Prop} {h0 : Hp} (self51 : Int → Int → Int → Int → Int → Hp → OR) (hs_self51 : ∀ (y0 y1 y2 y3 y4 : Int) (hh : Hp), Ag W h0 hh → Fr W h0 (self51 y0 y1 y2 y3 y4 hh)) (l1 : Int) (l2 : Int) (l3 : Int) (l6 : Int) (s0 : Int) (s1 : Int) (hW : ∀ a i : Nat, (False) → W a i) (h : Hp) (ag_h : Ag W h0 h) : Fr W h0 (XX12_row_p96 self51 l1 l2 l3 l6 s0 s1 h) := by
  unfold XX12_row_p96
  refine Fr_nm (fun v16 => ?_)
  refine Fr_chk ?_
  exact hs_self51 _ _ _ _ _ _ ag_h
theorem fg_XX12_row_b51 {W : Nat → Nat → Prop} {h0 : Hp} (self51 : Int → Int → Int → Int → Int → Hp → OR) (hs_self51 : ∀ (y0 y1 y2 y3 y4 : Int) (hh : Hp), Ag W h0 hh → Fr W h0 (self51 y0 y1 y2 y3 y4 hh)) (l1 : Int) (l2 : Int) (l3 : Int) (l4 : Int) (l6 : Int) (hW : ∀ a i : Nat, (False) → W a i) (h : Hp) (ag_h : Ag W h0 h) : Fr W h0 (XX12_row_b51 self51 l1 l2 l3 l4 l6 h) := by
  unfold XX12_row_b51
  refine Fr_chk ?_
  refine Fr_chk ?_
  refine Fr_ite ?_ ?_
  · exact Fr_some ag_h
  · refine Fr_cal (fg_XX12_cases (fun a i hh => hh.elim) _ ag_h) (fun r12 h13 ag_h13 => ?_)
    refine Fr_ite ?_ ?_
    · exact Fr_some ag_h13
    · refine Fr_cal (fg_XX12_isAt _ _ _ (fun a i hh => hh.elim) _ ag_h13) (fun r14 h15 ag_h15 => ?_)
      refine Fr_ite ?_ ?_
      · exact fg_XX12_row_p96 _ hs_self51 _ _ _ _ _ _ (fun a i hh => hh.elim) _ ag_h15
      · refine Fr_chk ?_
        exact fg_XX12_row_p96 _ hs_self51 _ _ _ _ _ _ (fun a i hh => hh.elim) _ ag_h15
theorem fg_XX12_row_L51 {W : Nat → Nat → Prop} {h0 : Hp} (l1 : Int) (l2 : Int) (l3 : Int) (l4 : Int) (l6 : Int) (hW : ∀ a i : Nat, (False) → W a i) (h : Hp) (ag_h : Ag W h0 h) : Fr W h0 (XX12_row_L51 l1 l2 l3 l4 l6 h) := by
  unfold XX12_row_L51
  exact Fr_lup5 (fun self hs z0 z1 z2 z3 z4 hh ag => fg_XX12_row_b51 self hs z0 z1 z2 z3 z4 hW hh ag) FU _ _ _ _ _ _ ag_h
theorem fg_XX12_row {W : Nat → Nat → Prop} {h0 : Hp} (x0 : Int) (x1 : Int) (x2 : Int) (hW : ∀ a i : Nat, ((186 ≤ a ∧ a ≤ 188) ∨ (a = 143 ∧ i = 0) ∨ (a = 143 ∧ i = 63)) → W a i) (h : Hp) (ag_h : Ag W h0 h) : Fr W h0 (XX12_row x0 x1 x2 h) := by
  unfold XX12_row
  refine Fr_wr ag_h (hW _ _ (Or.inr (Or.inl (by omega)))) (fun h1 ag_h1 => ?_)
  refine Fr_cal (fg_XX12_isNet _ (fun a i hh => hh.elim) _ ag_h1) (fun r2 h3 ag_h3 => ?_)
  refine Fr_ite ?_ ?_
  · exact fg_XX12_row_p30 (fun a i hh => hW a i (Or.inr (Or.inl (by omega)))) _ ag_h3
  · refine Fr_cal (fg_XX12_isWire _ _ (fun a i hh => hh.elim) _ ag_h3) (fun r5 h6 ag_h6 => ?_)
    refine Fr_ite ?_ ?_
    · exact fg_XX12_row_p30 (fun a i hh => hW a i (Or.inr (Or.inl (by omega)))) _ ag_h6
    · refine Fr_cal (fg_XX12_in _ _ _ (fun a i hh => hh.elim) _ ag_h6) (fun r7 h8 ag_h8 => ?_)
      refine Fr_ite ?_ ?_
      · exact fg_XX12_row_p30 (fun a i hh => hW a i (Or.inr (Or.inl (by omega)))) _ ag_h8
      · refine Fr_cal (fg_XX12_knows _ (fun a i hh => hW a i ((fun q => q.elim (fun q => Or.inl (by omega)) (fun q => Or.inr (Or.inr (by omega)))) hh)) _ ag_h8) (fun r9 h10 ag_h10 => ?_)
        refine Fr_chk ?_
        refine Fr_nm (fun v11 => ?_)
        exact fg_XX12_row_L51 _ _ _ _ _ (fun a i hh => hh.elim) _ ag_h10
theorem fr_XX12_row {x0 : Int} {x1 : Int} {x2 : Int} {h : Hp} {r : Int} {h1 : Hp} (e : XX12_row x0 x1 x2 h = some (r, h1)) (a i : Nat) (hn : ¬ ((186 ≤ a ∧ a ≤ 188) ∨ (a = 143 ∧ i = 0) ∨ (a = 143 ∧ i = 63))) : h1 a i = h a i := fg_XX12_row (W := fun a i => (186 ≤ a ∧ a ≤ 188) ∨ (a = 143 ∧ i = 0) ∨ (a = 143 ∧ i = 63)) x0 x1 x2 (fun _ _ hh => hh) h (fun _ _ _ => rfl) r h1 e a i hn
theorem fg_XX12_observed {W : Nat → Nat → Prop} {h0 : Hp} (hW : ∀ a i : Nat, (False) → W a i) (h : Hp) (ag_h : Ag W h0 h) : Fr W h0 (XX12_observed  h) := by
  unfold XX12_observed
  refine Fr_chk ?_
  exact Fr_some ag_h
theorem fr_XX12_observed {h : Hp} {r : Int} {h1 : Hp} (e : XX12_observed  h = some (r, h1)) (a i : Nat) (hn : ¬ (False)) : h1 a i = h a i := fg_XX12_observed (W := fun a i => False)  (fun _ _ hh => hh) h (fun _ _ _ => rfl) r h1 e a i hn
theorem fe_XX12_observed {h : Hp} {r : Int} {h1 : Hp} (e : XX12_observed  h = some (r, h1)) : h1 = h := funext (fun a => funext (fun i => fr_XX12_observed e a i (fun hh => hh)))
theorem fg_XX12_seen {W : Nat → Nat → Prop} {h0 : Hp} (x0 : Int) (x1 : Int) (hW : ∀ a i : Nat, (False) → W a i) (h : Hp) (ag_h : Ag W h0 h) : Fr W h0 (XX12_seen x0 x1 h) := by
  unfold XX12_seen
  refine Fr_ite ?_ ?_
  · refine Fr_chk ?_
    refine Fr_chk ?_
    refine Fr_chk ?_
    refine Fr_inb ?_
    exact Fr_some ag_h
  · refine Fr_chk ?_
    refine Fr_chk ?_
    refine Fr_inb ?_
    exact Fr_some ag_h
theorem fr_XX12_seen {x0 : Int} {x1 : Int} {h : Hp} {r : Int} {h1 : Hp} (e : XX12_seen x0 x1 h = some (r, h1)) (a i : Nat) (hn : ¬ (False)) : h1 a i = h a i := fg_XX12_seen (W := fun a i => False) x0 x1 (fun _ _ hh => hh) h (fun _ _ _ => rfl) r h1 e a i hn
theorem fe_XX12_seen {x0 : Int} {x1 : Int} {h : Hp} {r : Int} {h1 : Hp} (e : XX12_seen x0 x1 h = some (r, h1)) : h1 = h := funext (fun a => funext (fun i => fr_XX12_seen e a i (fun hh => hh)))
theorem fg_XX12_areOne_p48 {W : Nat → Nat → Prop} {h0 : Hp} (self4 : Int → Int → Int → Hp → OR) (hs_self4 : ∀ (y0 y1 y2 : Int) (hh : Hp), Ag W h0 hh → Fr W h0 (self4 y0 y1 y2 hh)) (l1 : Int) (l3 : Int) (s0 : Int) (hW : ∀ a i : Nat, (False) → W a i) (h : Hp) (ag_h : Ag W h0 h) : Fr W h0 (XX12_areOne_p48 self4 l1 l3 s0 h) := by
  unfold XX12_areOne_p48
  refine Fr_chk ?_
  exact hs_self4 _ _ _ _ ag_h
theorem fg_XX12_areOne_p47 {W : Nat → Nat → Prop} {h0 : Hp} (self4 : Int → Int → Int → Hp → OR) (hs_self4 : ∀ (y0 y1 y2 : Int) (hh : Hp), Ag W h0 hh → Fr W h0 (self4 y0 y1 y2 hh)) (l1 : Int) (l3 : Int) (hW : ∀ a i : Nat, (False) → W a i) (h : Hp) (ag_h : Ag W h0 h) : Fr W h0 (XX12_areOne_p47 self4 l1 l3 h) := by
  unfold XX12_areOne_p47
  exact fg_XX12_areOne_p48 _ hs_self4 _ _ _ (fun a i hh => hh.elim) _ ag_h
theorem fg_XX12_areOne_b4 {W : Nat → Nat → Prop} {h0 : Hp} (self4 : Int → Int → Int → Hp → OR) (hs_self4 : ∀ (y0 y1 y2 : Int) (hh : Hp), Ag W h0 hh → Fr W h0 (self4 y0 y1 y2 hh)) (l1 : Int) (l2 : Int) (l3 : Int) (hW : ∀ a i : Nat, (False) → W a i) (h : Hp) (ag_h : Ag W h0 h) : Fr W h0 (XX12_areOne_b4 self4 l1 l2 l3 h) := by
  unfold XX12_areOne_b4
  refine Fr_cal (fg_XX12_observed (fun a i hh => hh.elim) _ ag_h) (fun r1 h2 ag_h2 => ?_)
  refine Fr_ite ?_ ?_
  · refine Fr_zb ?_
    exact Fr_some ag_h2
  · refine Fr_ite ?_ ?_
    · exact fg_XX12_areOne_p47 _ hs_self4 _ _ (fun a i hh => hh.elim) _ ag_h2
    · refine Fr_cal (fg_XX12_seen _ _ (fun a i hh => hh.elim) _ ag_h2) (fun r3 h4 ag_h4 => ?_)
      refine Fr_cal (fg_XX12_isAt _ _ _ (fun a i hh => hh.elim) _ ag_h4) (fun r5 h6 ag_h6 => ?_)
      refine Fr_cal (fg_XX12_seen _ _ (fun a i hh => hh.elim) _ ag_h6) (fun r7 h8 ag_h8 => ?_)
      refine Fr_cal (fg_XX12_isAt _ _ _ (fun a i hh => hh.elim) _ ag_h8) (fun r9 h10 ag_h10 => ?_)
      refine Fr_ite ?_ ?_
      · exact fg_XX12_areOne_p48 _ hs_self4 _ _ _ (fun a i hh => hh.elim) _ ag_h10
      · exact fg_XX12_areOne_p47 _ hs_self4 _ _ (fun a i hh => hh.elim) _ ag_h10
theorem fg_XX12_areOne_L4 {W : Nat → Nat → Prop} {h0 : Hp} (l1 : Int) (l2 : Int) (l3 : Int) (hW : ∀ a i : Nat, (False) → W a i) (h : Hp) (ag_h : Ag W h0 h) : Fr W h0 (XX12_areOne_L4 l1 l2 l3 h) := by
  unfold XX12_areOne_L4
  exact Fr_lup3 (fun self hs z0 z1 z2 hh ag => fg_XX12_areOne_b4 self hs z0 z1 z2 hW hh ag) FU _ _ _ _ ag_h
theorem fg_XX12_areOne {W : Nat → Nat → Prop} {h0 : Hp} (x0 : Int) (hW : ∀ a i : Nat, (False) → W a i) (h : Hp) (ag_h : Ag W h0 h) : Fr W h0 (XX12_areOne x0 h) := by
  unfold XX12_areOne
  exact fg_XX12_areOne_L4 _ _ _ (fun a i hh => hh.elim) _ ag_h
theorem fr_XX12_areOne {x0 : Int} {h : Hp} {r : Int} {h1 : Hp} (e : XX12_areOne x0 h = some (r, h1)) (a i : Nat) (hn : ¬ (False)) : h1 a i = h a i := fg_XX12_areOne (W := fun a i => False) x0 (fun _ _ hh => hh) h (fun _ _ _ => rfl) r h1 e a i hn
theorem fe_XX12_areOne {x0 : Int} {h : Hp} {r : Int} {h1 : Hp} (e : XX12_areOne x0 h = some (r, h1)) : h1 = h := funext (fun a => funext (fun i => fr_XX12_areOne e a i (fun hh => hh)))
theorem fg_XX12_differ_p39 {W : Nat → Nat → Prop} {h0 : Hp} (self12 : Int → Hp → OR) (hs_self12 : ∀ (y0 : Int) (hh : Hp), Ag W h0 hh → Fr W h0 (self12 y0 hh)) (l1 : Int) (hW : ∀ a i : Nat, (False) → W a i) (h : Hp) (ag_h : Ag W h0 h) : Fr W h0 (XX12_differ_p39 self12 l1 h) := by
  unfold XX12_differ_p39
  refine Fr_chk ?_
  exact hs_self12 _ _ ag_h
theorem fg_XX12_differ_b12 {W : Nat → Nat → Prop} {h0 : Hp} (self12 : Int → Hp → OR) (hs_self12 : ∀ (y0 : Int) (hh : Hp), Ag W h0 hh → Fr W h0 (self12 y0 hh)) (l1 : Int) (hW : ∀ a i : Nat, (False) → W a i) (h : Hp) (ag_h : Ag W h0 h) : Fr W h0 (XX12_differ_b12 self12 l1 h) := by
  unfold XX12_differ_b12
  refine Fr_cal (fg_XX12_cases (fun a i hh => hh.elim) _ ag_h) (fun r5 h6 ag_h6 => ?_)
  refine Fr_ite ?_ ?_
  · exact Fr_some ag_h6
  · refine Fr_inb ?_
    refine Fr_ite ?_ ?_
    · refine Fr_cal (fg_XX12_areOne _ (fun a i hh => hh.elim) _ ag_h6) (fun r7 h8 ag_h8 => ?_)
      refine Fr_ite ?_ ?_
      · exact Fr_some ag_h8
      · exact fg_XX12_differ_p39 _ hs_self12 _ (fun a i hh => hh.elim) _ ag_h8
    · exact fg_XX12_differ_p39 _ hs_self12 _ (fun a i hh => hh.elim) _ ag_h6
theorem fg_XX12_differ_L12 {W : Nat → Nat → Prop} {h0 : Hp} (l1 : Int) (hW : ∀ a i : Nat, (False) → W a i) (h : Hp) (ag_h : Ag W h0 h) : Fr W h0 (XX12_differ_L12 l1 h) := by
  unfold XX12_differ_L12
  exact Fr_lup1 (fun self hs z0 hh ag => fg_XX12_differ_b12 self hs z0 hW hh ag) FU _ _ ag_h
theorem fg_XX12_differ {W : Nat → Nat → Prop} {h0 : Hp} (hW : ∀ a i : Nat, ((186 ≤ a ∧ a ≤ 188) ∨ (a = 143 ∧ i = 63)) → W a i) (h : Hp) (ag_h : Ag W h0 h) : Fr W h0 (XX12_differ  h) := by
  unfold XX12_differ
  refine Fr_cal (fg_XX12_knows _ (fun a i hh => hW a i ((fun q => q.elim (fun q => Or.inl (by omega)) (fun q => Or.inr (by omega))) hh)) _ ag_h) (fun r1 h2 ag_h2 => ?_)
  refine Fr_cal (fg_XX12_knows _ (fun a i hh => hW a i ((fun q => q.elim (fun q => Or.inl (by omega)) (fun q => Or.inr (by omega))) hh)) _ ag_h2) (fun r3 h4 ag_h4 => ?_)
  exact fg_XX12_differ_L12 _ (fun a i hh => hh.elim) _ ag_h4
theorem fr_XX12_differ {h : Hp} {r : Int} {h1 : Hp} (e : XX12_differ  h = some (r, h1)) (a i : Nat) (hn : ¬ ((186 ≤ a ∧ a ≤ 188) ∨ (a = 143 ∧ i = 63))) : h1 a i = h a i := fg_XX12_differ (W := fun a i => (186 ≤ a ∧ a ≤ 188) ∨ (a = 143 ∧ i = 63))  (fun _ _ hh => hh) h (fun _ _ _ => rfl) r h1 e a i hn
theorem fg_XX12_arePoints_p57 {W : Nat → Nat → Prop} {h0 : Hp} (l2 : Int) (l3 : Int) (s0 : Int) (hW : ∀ a i : Nat, (False) → W a i) (h : Hp) (ag_h : Ag W h0 h) : Fr W h0 (XX12_arePoints_p57 l2 l3 s0 h) := by
  unfold XX12_arePoints_p57
  refine Fr_ite ?_ ?_
  · exact Fr_some ag_h
  · refine Fr_ite ?_ ?_
    · exact Fr_some ag_h
    · refine Fr_ite ?_ ?_
      · exact Fr_some ag_h
      · exact Fr_some ag_h
theorem fg_XX12_arePoints_p56 {W : Nat → Nat → Prop} {h0 : Hp} (l2 : Int) (l3 : Int) (hW : ∀ a i : Nat, (False) → W a i) (h : Hp) (ag_h : Ag W h0 h) : Fr W h0 (XX12_arePoints_p56 l2 l3 h) := by
  unfold XX12_arePoints_p56
  exact fg_XX12_arePoints_p57 _ _ _ (fun a i hh => hh.elim) _ ag_h
theorem fg_XX12_arePoints_p52 {W : Nat → Nat → Prop} {h0 : Hp} (l2 : Int) (l3 : Int) (hW : ∀ a i : Nat, (False) → W a i) (h : Hp) (ag_h : Ag W h0 h) : Fr W h0 (XX12_arePoints_p52 l2 l3 h) := by
  unfold XX12_arePoints_p52
  exact fg_XX12_arePoints_p57 _ _ _ (fun a i hh => hh.elim) _ ag_h
theorem fg_XX12_arePoints_p28 {W : Nat → Nat → Prop} {h0 : Hp} (l2 : Int) (l3 : Int) (hW : ∀ a i : Nat, (False) → W a i) (h : Hp) (ag_h : Ag W h0 h) : Fr W h0 (XX12_arePoints_p28 l2 l3 h) := by
  unfold XX12_arePoints_p28
  refine Fr_ite ?_ ?_
  · exact fg_XX12_arePoints_p52 _ _ (fun a i hh => hh.elim) _ ag_h
  · refine Fr_ite ?_ ?_
    · exact fg_XX12_arePoints_p56 _ _ (fun a i hh => hh.elim) _ ag_h
    · refine Fr_cal (fg_XX12_isGate _ _ (fun a i hh => hh.elim) _ ag_h) (fun r3 h4 ag_h4 => ?_)
      refine Fr_ite ?_ ?_
      · exact fg_XX12_arePoints_p56 _ _ (fun a i hh => hh.elim) _ ag_h4
      · refine Fr_ite ?_ ?_
        · exact fg_XX12_arePoints_p56 _ _ (fun a i hh => hh.elim) _ ag_h4
        · exact fg_XX12_arePoints_p52 _ _ (fun a i hh => hh.elim) _ ag_h4
theorem fg_XX12_arePoints {W : Nat → Nat → Prop} {h0 : Hp} (x0 : Int) (x1 : Int) (x2 : Int) (hW : ∀ a i : Nat, (False) → W a i) (h : Hp) (ag_h : Ag W h0 h) : Fr W h0 (XX12_arePoints x0 x1 x2 h) := by
  unfold XX12_arePoints
  refine Fr_cal (fg_XX12_isGate _ _ (fun a i hh => hh.elim) _ ag_h) (fun r1 h2 ag_h2 => ?_)
  refine Fr_ite ?_ ?_
  · exact fg_XX12_arePoints_p56 _ _ (fun a i hh => hh.elim) _ ag_h2
  · refine Fr_ite ?_ ?_
    · exact fg_XX12_arePoints_p28 _ _ (fun a i hh => hh.elim) _ ag_h2
    · refine Fr_cal (fg_XX12_isGate _ _ (fun a i hh => hh.elim) _ ag_h2) (fun r5 h6 ag_h6 => ?_)
      refine Fr_ite ?_ ?_
      · exact fg_XX12_arePoints_p56 _ _ (fun a i hh => hh.elim) _ ag_h6
      · refine Fr_ite ?_ ?_
        · exact fg_XX12_arePoints_p56 _ _ (fun a i hh => hh.elim) _ ag_h6
        · exact fg_XX12_arePoints_p28 _ _ (fun a i hh => hh.elim) _ ag_h6
theorem fr_XX12_arePoints {x0 : Int} {x1 : Int} {x2 : Int} {h : Hp} {r : Int} {h1 : Hp} (e : XX12_arePoints x0 x1 x2 h = some (r, h1)) (a i : Nat) (hn : ¬ (False)) : h1 a i = h a i := fg_XX12_arePoints (W := fun a i => False) x0 x1 x2 (fun _ _ hh => hh) h (fun _ _ _ => rfl) r h1 e a i hn
theorem fe_XX12_arePoints {x0 : Int} {x1 : Int} {x2 : Int} {h : Hp} {r : Int} {h1 : Hp} (e : XX12_arePoints x0 x1 x2 h = some (r, h1)) : h1 = h := funext (fun a => funext (fun i => fr_XX12_arePoints e a i (fun hh => hh)))
theorem fg_XX12_mendings_b67 {W : Nat → Nat → Prop} {h0 : Hp} (self30 : Int → Int → Hp → OR) (hs_self30 : ∀ (y0 y1 : Int) (hh : Hp), Ag W h0 hh → Fr W h0 (self30 y0 y1 hh)) (self53 : Int → Int → Int → Hp → OR) (hs_self53 : ∀ (y0 y1 y2 : Int) (hh : Hp), Ag W h0 hh → Fr W h0 (self53 y0 y1 y2 hh)) (self67 : Int → Int → Int → Int → Int → Hp → OR) (hs_self67 : ∀ (y0 y1 y2 y3 y4 : Int) (hh : Hp), Ag W h0 hh → Fr W h0 (self67 y0 y1 y2 y3 y4 hh)) (l4 : Int) (l5 : Int) (l6 : Int) (l7 : Int) (l9 : Int) (hW : ∀ a i : Nat, (a = 190) → W a i) (h : Hp) (ag_h : Ag W h0 h) : Fr W h0 (XX12_mendings_b67 self30 self53 self67 l4 l5 l6 l7 l9 h) := by
  unfold XX12_mendings_b67
  refine Fr_cal (fg_XX12_observed (fun a i hh => hh.elim) _ ag_h) (fun r9 h10 ag_h10 => ?_)
  refine Fr_ite ?_ ?_
  · refine Fr_chk ?_
    refine Fr_chk ?_
    refine Fr_inb ?_
    refine Fr_wr ag_h10 (hW _ _ (by omega)) (fun h11 ag_h11 => ?_)
    refine Fr_chk ?_
    exact hs_self53 _ _ _ _ ag_h11
  · refine Fr_cal (fg_XX12_seen _ _ (fun a i hh => hh.elim) _ ag_h10) (fun r12 h13 ag_h13 => ?_)
    refine Fr_chk ?_
    refine Fr_chk ?_
    refine Fr_inb ?_
    refine Fr_cal (fg_XX12_seen _ _ (fun a i hh => hh.elim) _ ag_h13) (fun r14 h15 ag_h15 => ?_)
    refine Fr_chk ?_
    refine Fr_chk ?_
    refine Fr_chk ?_
    refine Fr_inb ?_
    refine Fr_nm (fun v16 => ?_)
    refine Fr_chk ?_
    exact hs_self67 _ _ _ _ _ _ ag_h15
theorem fg_XX12_mendings_L67 {W : Nat → Nat → Prop} {h0 : Hp} (self30 : Int → Int → Hp → OR) (hs_self30 : ∀ (y0 y1 : Int) (hh : Hp), Ag W h0 hh → Fr W h0 (self30 y0 y1 hh)) (self53 : Int → Int → Int → Hp → OR) (hs_self53 : ∀ (y0 y1 y2 : Int) (hh : Hp), Ag W h0 hh → Fr W h0 (self53 y0 y1 y2 hh)) (l4 : Int) (l5 : Int) (l6 : Int) (l7 : Int) (l9 : Int) (hW : ∀ a i : Nat, (a = 190) → W a i) (h : Hp) (ag_h : Ag W h0 h) : Fr W h0 (XX12_mendings_L67 self30 self53 l4 l5 l6 l7 l9 h) := by
  unfold XX12_mendings_L67
  exact Fr_lup5 (fun self hs z0 z1 z2 z3 z4 hh ag => fg_XX12_mendings_b67 self30 hs_self30 self53 hs_self53 self hs z0 z1 z2 z3 z4 hW hh ag) FU _ _ _ _ _ _ ag_h
theorem fg_XX12_mendings_b53 {W : Nat → Nat → Prop} {h0 : Hp} (self30 : Int → Int → Hp → OR) (hs_self30 : ∀ (y0 y1 : Int) (hh : Hp), Ag W h0 hh → Fr W h0 (self30 y0 y1 hh)) (self53 : Int → Int → Int → Hp → OR) (hs_self53 : ∀ (y0 y1 y2 : Int) (hh : Hp), Ag W h0 hh → Fr W h0 (self53 y0 y1 y2 hh)) (l4 : Int) (l5 : Int) (l6 : Int) (hW : ∀ a i : Nat, (a = 190) → W a i) (h : Hp) (ag_h : Ag W h0 h) : Fr W h0 (XX12_mendings_b53 self30 self53 l4 l5 l6 h) := by
  unfold XX12_mendings_b53
  refine Fr_ite ?_ ?_
  · refine Fr_chk ?_
    exact hs_self30 _ _ _ ag_h
  · exact fg_XX12_mendings_L67 _ hs_self30 _ hs_self53 _ _ _ _ _ (fun a i hh => hW a i (by omega)) _ ag_h
theorem fg_XX12_mendings_L53 {W : Nat → Nat → Prop} {h0 : Hp} (self30 : Int → Int → Hp → OR) (hs_self30 : ∀ (y0 y1 : Int) (hh : Hp), Ag W h0 hh → Fr W h0 (self30 y0 y1 hh)) (l4 : Int) (l5 : Int) (l6 : Int) (hW : ∀ a i : Nat, (a = 190) → W a i) (h : Hp) (ag_h : Ag W h0 h) : Fr W h0 (XX12_mendings_L53 self30 l4 l5 l6 h) := by
  unfold XX12_mendings_L53
  exact Fr_lup3 (fun self hs z0 z1 z2 hh ag => fg_XX12_mendings_b53 self30 hs_self30 self hs z0 z1 z2 hW hh ag) FU _ _ _ _ ag_h
theorem fg_XX12_mendings_b30 {W : Nat → Nat → Prop} {h0 : Hp} (self30 : Int → Int → Hp → OR) (hs_self30 : ∀ (y0 y1 : Int) (hh : Hp), Ag W h0 hh → Fr W h0 (self30 y0 y1 hh)) (l4 : Int) (l5 : Int) (hW : ∀ a i : Nat, (a = 188 ∨ a = 190 ∨ (a = 143 ∧ 63 ≤ i ∧ i ≤ 64)) → W a i) (h : Hp) (ag_h : Ag W h0 h) : Fr W h0 (XX12_mendings_b30 self30 l4 l5 h) := by
  unfold XX12_mendings_b30
  refine Fr_ite ?_ ?_
  · refine Fr_wr ag_h (hW _ _ (Or.inr (Or.inr (by omega)))) (fun h5 ag_h5 => ?_)
    exact Fr_some ag_h5
  · refine Fr_wr ag_h (hW _ _ (Or.inr (Or.inr (by omega)))) (fun h6 ag_h6 => ?_)
    refine Fr_cal (fg_XX12_works _ (fun a i hh => hW a i (Or.inl (by omega))) _ ag_h6) (fun r7 h8 ag_h8 => ?_)
    exact fg_XX12_mendings_L53 _ hs_self30 _ _ _ (fun a i hh => hW a i (Or.inr (Or.inl (by omega)))) _ ag_h8
theorem fg_XX12_mendings_L30 {W : Nat → Nat → Prop} {h0 : Hp} (l4 : Int) (l5 : Int) (hW : ∀ a i : Nat, (a = 188 ∨ a = 190 ∨ (a = 143 ∧ 63 ≤ i ∧ i ≤ 64)) → W a i) (h : Hp) (ag_h : Ag W h0 h) : Fr W h0 (XX12_mendings_L30 l4 l5 h) := by
  unfold XX12_mendings_L30
  exact Fr_lup2 (fun self hs z0 z1 hh ag => fg_XX12_mendings_b30 self hs z0 z1 hW hh ag) FU _ _ _ ag_h
theorem fg_XX12_mendings {W : Nat → Nat → Prop} {h0 : Hp} (x0 : Int) (x1 : Int) (x2 : Int) (x3 : Int) (hW : ∀ a i : Nat, ((188 ≤ a ∧ a ≤ 190) ∨ (a = 143 ∧ 63 ≤ i ∧ i ≤ 64)) → W a i) (h : Hp) (ag_h : Ag W h0 h) : Fr W h0 (XX12_mendings x0 x1 x2 x3 h) := by
  unfold XX12_mendings
  refine Fr_inb ?_
  refine Fr_wr ag_h (hW _ _ (Or.inl (by omega))) (fun h1 ag_h1 => ?_)
  refine Fr_inb ?_
  refine Fr_wr ag_h1 (hW _ _ (Or.inl (by omega))) (fun h2 ag_h2 => ?_)
  refine Fr_inb ?_
  refine Fr_wr ag_h2 (hW _ _ (Or.inl (by omega))) (fun h3 ag_h3 => ?_)
  refine Fr_wr ag_h3 (hW _ _ (Or.inr (by omega))) (fun h4 ag_h4 => ?_)
  exact fg_XX12_mendings_L30 _ _ (fun a i hh => hW a i ((fun q => q.elim (fun q => Or.inl (by omega)) (fun q => q.elim (fun q => Or.inl (by omega)) (fun q => Or.inr (by omega)))) hh)) _ ag_h4
theorem fr_XX12_mendings {x0 : Int} {x1 : Int} {x2 : Int} {x3 : Int} {h : Hp} {r : Int} {h1 : Hp} (e : XX12_mendings x0 x1 x2 x3 h = some (r, h1)) (a i : Nat) (hn : ¬ ((188 ≤ a ∧ a ≤ 190) ∨ (a = 143 ∧ 63 ≤ i ∧ i ≤ 64))) : h1 a i = h a i := fg_XX12_mendings (W := fun a i => (188 ≤ a ∧ a ≤ 190) ∨ (a = 143 ∧ 63 ≤ i ∧ i ≤ 64)) x0 x1 x2 x3 (fun _ _ hh => hh) h (fun _ _ _ => rfl) r h1 e a i hn
theorem fg_XX12_prepares {W : Nat → Nat → Prop} {h0 : Hp} (hW : ∀ a i : Nat, ((186 ≤ a ∧ a ≤ 188) ∨ (a = 143 ∧ i = 63)) → W a i) (h : Hp) (ag_h : Ag W h0 h) : Fr W h0 (XX12_prepares  h) := by
  unfold XX12_prepares
  refine Fr_cal (fg_XX12_knows _ (fun a i hh => hW a i ((fun q => q.elim (fun q => Or.inl (by omega)) (fun q => Or.inr (by omega))) hh)) _ ag_h) (fun r1 h2 ag_h2 => ?_)
  refine Fr_wr ag_h2 (hW _ _ (Or.inr (by omega))) (fun h3 ag_h3 => ?_)
  refine Fr_cal (fg_XX12_begins _ (fun a i hh => hW a i (Or.inl (by omega))) _ ag_h3) (fun r4 h5 ag_h5 => ?_)
  exact Fr_some ag_h5
theorem fr_XX12_prepares {h : Hp} {r : Int} {h1 : Hp} (e : XX12_prepares  h = some (r, h1)) (a i : Nat) (hn : ¬ ((186 ≤ a ∧ a ≤ 188) ∨ (a = 143 ∧ i = 63))) : h1 a i = h a i := fg_XX12_prepares (W := fun a i => (186 ≤ a ∧ a ≤ 188) ∨ (a = 143 ∧ i = 63))  (fun _ _ hh => hh) h (fun _ _ _ => rfl) r h1 e a i hn
theorem fg_XX12_doesMend {W : Nat → Nat → Prop} {h0 : Hp} (x0 : Int) (x1 : Int) (hW : ∀ a i : Nat, (False) → W a i) (h : Hp) (ag_h : Ag W h0 h) : Fr W h0 (XX12_doesMend x0 x1 h) := by
  unfold XX12_doesMend
  refine Fr_chk ?_
  refine Fr_chk ?_
  refine Fr_chk ?_
  refine Fr_inb ?_
  refine Fr_chk ?_
  refine Fr_ite ?_ ?_
  · refine Fr_zb ?_
    exact Fr_some ag_h
  · refine Fr_zb ?_
    exact Fr_some ag_h
theorem fr_XX12_doesMend {x0 : Int} {x1 : Int} {h : Hp} {r : Int} {h1 : Hp} (e : XX12_doesMend x0 x1 h = some (r, h1)) (a i : Nat) (hn : ¬ (False)) : h1 a i = h a i := fg_XX12_doesMend (W := fun a i => False) x0 x1 (fun _ _ hh => hh) h (fun _ _ _ => rfl) r h1 e a i hn
theorem fe_XX12_doesMend {x0 : Int} {x1 : Int} {h : Hp} {r : Int} {h1 : Hp} (e : XX12_doesMend x0 x1 h = some (r, h1)) : h1 = h := funext (fun a => funext (fun i => fr_XX12_doesMend e a i (fun hh => hh)))
theorem fg_XX12_leastMend_b2 {W : Nat → Nat → Prop} {h0 : Hp} (self2 : Int → Int → Int → Hp → OR) (hs_self2 : ∀ (y0 y1 y2 : Int) (hh : Hp), Ag W h0 hh → Fr W h0 (self2 y0 y1 y2 hh)) (l1 : Int) (l2 : Int) (l3 : Int) (hW : ∀ a i : Nat, (False) → W a i) (h : Hp) (ag_h : Ag W h0 h) : Fr W h0 (XX12_leastMend_b2 self2 l1 l2 l3 h) := by
  unfold XX12_leastMend_b2
  refine Fr_ite ?_ ?_
  · exact Fr_some ag_h
  · refine Fr_cal (fg_XX12_doesMend _ _ (fun a i hh => hh.elim) _ ag_h) (fun r1 h2 ag_h2 => ?_)
    refine Fr_ite ?_ ?_
    · refine Fr_chk ?_
      exact hs_self2 _ _ _ _ ag_h2
    · exact Fr_some ag_h2
theorem fg_XX12_leastMend_L2 {W : Nat → Nat → Prop} {h0 : Hp} (l1 : Int) (l2 : Int) (l3 : Int) (hW : ∀ a i : Nat, (False) → W a i) (h : Hp) (ag_h : Ag W h0 h) : Fr W h0 (XX12_leastMend_L2 l1 l2 l3 h) := by
  unfold XX12_leastMend_L2
  exact Fr_lup3 (fun self hs z0 z1 z2 hh ag => fg_XX12_leastMend_b2 self hs z0 z1 z2 hW hh ag) FU _ _ _ _ ag_h
theorem fg_XX12_leastMend {W : Nat → Nat → Prop} {h0 : Hp} (x0 : Int) (x1 : Int) (hW : ∀ a i : Nat, (False) → W a i) (h : Hp) (ag_h : Ag W h0 h) : Fr W h0 (XX12_leastMend x0 x1 h) := by
  unfold XX12_leastMend
  exact fg_XX12_leastMend_L2 _ _ _ (fun a i hh => hh.elim) _ ag_h
theorem fr_XX12_leastMend {x0 : Int} {x1 : Int} {h : Hp} {r : Int} {h1 : Hp} (e : XX12_leastMend x0 x1 h = some (r, h1)) (a i : Nat) (hn : ¬ (False)) : h1 a i = h a i := fg_XX12_leastMend (W := fun a i => False) x0 x1 (fun _ _ hh => hh) h (fun _ _ _ => rfl) r h1 e a i hn
theorem fe_XX12_leastMend {x0 : Int} {x1 : Int} {h : Hp} {r : Int} {h1 : Hp} (e : XX12_leastMend x0 x1 h = some (r, h1)) : h1 = h := funext (fun a => funext (fun i => fr_XX12_leastMend e a i (fun hh => hh)))
theorem fg_XX12_lacking_p31 {W : Nat → Nat → Prop} {h0 : Hp} (self2 : Int → Int → Hp → OR) (hs_self2 : ∀ (y0 y1 : Int) (hh : Hp), Ag W h0 hh → Fr W h0 (self2 y0 y1 hh)) (l1 : Int) (l2 : Int) (hW : ∀ a i : Nat, (False) → W a i) (h : Hp) (ag_h : Ag W h0 h) : Fr W h0 (XX12_lacking_p31 self2 l1 l2 h) := by
  unfold XX12_lacking_p31
  refine Fr_chk ?_
  exact hs_self2 _ _ _ ag_h
theorem fg_XX12_lacking_b2 {W : Nat → Nat → Prop} {h0 : Hp} (self2 : Int → Int → Hp → OR) (hs_self2 : ∀ (y0 y1 : Int) (hh : Hp), Ag W h0 hh → Fr W h0 (self2 y0 y1 hh)) (l1 : Int) (l2 : Int) (hW : ∀ a i : Nat, (False) → W a i) (h : Hp) (ag_h : Ag W h0 h) : Fr W h0 (XX12_lacking_b2 self2 l1 l2 h) := by
  unfold XX12_lacking_b2
  refine Fr_cal (fg_XX12_cases (fun a i hh => hh.elim) _ ag_h) (fun r1 h2 ag_h2 => ?_)
  refine Fr_ite ?_ ?_
  · exact Fr_some ag_h2
  · refine Fr_inb ?_
    refine Fr_ite ?_ ?_
    · refine Fr_cal (fg_XX12_leastMend _ _ (fun a i hh => hh.elim) _ ag_h2) (fun r3 h4 ag_h4 => ?_)
      refine Fr_ite ?_ ?_
      · exact Fr_some ag_h4
      · exact fg_XX12_lacking_p31 _ hs_self2 _ _ (fun a i hh => hh.elim) _ ag_h4
    · exact fg_XX12_lacking_p31 _ hs_self2 _ _ (fun a i hh => hh.elim) _ ag_h2
theorem fg_XX12_lacking_L2 {W : Nat → Nat → Prop} {h0 : Hp} (l1 : Int) (l2 : Int) (hW : ∀ a i : Nat, (False) → W a i) (h : Hp) (ag_h : Ag W h0 h) : Fr W h0 (XX12_lacking_L2 l1 l2 h) := by
  unfold XX12_lacking_L2
  exact Fr_lup2 (fun self hs z0 z1 hh ag => fg_XX12_lacking_b2 self hs z0 z1 hW hh ag) FU _ _ _ ag_h
theorem fg_XX12_lacking {W : Nat → Nat → Prop} {h0 : Hp} (x0 : Int) (hW : ∀ a i : Nat, (False) → W a i) (h : Hp) (ag_h : Ag W h0 h) : Fr W h0 (XX12_lacking x0 h) := by
  unfold XX12_lacking
  exact fg_XX12_lacking_L2 _ _ (fun a i hh => hh.elim) _ ag_h
theorem fr_XX12_lacking {x0 : Int} {h : Hp} {r : Int} {h1 : Hp} (e : XX12_lacking x0 h = some (r, h1)) (a i : Nat) (hn : ¬ (False)) : h1 a i = h a i := fg_XX12_lacking (W := fun a i => False) x0 (fun _ _ hh => hh) h (fun _ _ _ => rfl) r h1 e a i hn
theorem fe_XX12_lacking {x0 : Int} {h : Hp} {r : Int} {h1 : Hp} (e : XX12_lacking x0 h = some (r, h1)) : h1 = h := funext (fun a => funext (fun i => fr_XX12_lacking e a i (fun hh => hh)))
theorem fg_XX12_enough {W : Nat → Nat → Prop} {h0 : Hp} (x0 : Int) (x1 : Int) (x2 : Int) (hW : ∀ a i : Nat, ((186 ≤ a ∧ a ≤ 190) ∨ (a = 143 ∧ 63 ≤ i ∧ i ≤ 64)) → W a i) (h : Hp) (ag_h : Ag W h0 h) : Fr W h0 (XX12_enough x0 x1 x2 h) := by
  unfold XX12_enough
  refine Fr_cal (fg_XX12_arePoints _ _ _ (fun a i hh => hh.elim) _ ag_h) (fun r1 h2 ag_h2 => ?_)
  refine Fr_ite ?_ ?_
  · exact Fr_some ag_h2
  · refine Fr_cal (fg_XX12_prepares (fun a i hh => hW a i ((fun q => q.elim (fun q => Or.inl (by omega)) (fun q => Or.inr (by omega))) hh)) _ ag_h2) (fun r3 h4 ag_h4 => ?_)
    refine Fr_cal (fg_XX12_mendings _ _ _ _ (fun a i hh => hW a i ((fun q => q.elim (fun q => Or.inl (by omega)) (fun q => Or.inr (by omega))) hh)) _ ag_h4) (fun r5 h6 ag_h6 => ?_)
    refine Fr_cal (fg_XX12_lacking _ (fun a i hh => hh.elim) _ ag_h6) (fun r7 h8 ag_h8 => ?_)
    exact Fr_some ag_h8
theorem fr_XX12_enough {x0 : Int} {x1 : Int} {x2 : Int} {h : Hp} {r : Int} {h1 : Hp} (e : XX12_enough x0 x1 x2 h = some (r, h1)) (a i : Nat) (hn : ¬ ((186 ≤ a ∧ a ≤ 190) ∨ (a = 143 ∧ 63 ≤ i ∧ i ≤ 64))) : h1 a i = h a i := fg_XX12_enough (W := fun a i => (186 ≤ a ∧ a ≤ 190) ∨ (a = 143 ∧ 63 ≤ i ∧ i ≤ 64)) x0 x1 x2 (fun _ _ hh => hh) h (fun _ _ _ => rfl) r h1 e a i hn
theorem fg_XX12_areEnough {W : Nat → Nat → Prop} {h0 : Hp} (x0 : Int) (x1 : Int) (x2 : Int) (x3 : Int) (hW : ∀ a i : Nat, (a = 158 ∨ (188 ≤ a ∧ a ≤ 190) ∨ (a = 143 ∧ i = 19) ∨ (a = 143 ∧ 63 ≤ i ∧ i ≤ 64)) → W a i) (h : Hp) (ag_h : Ag W h0 h) : Fr W h0 (XX12_areEnough x0 x1 x2 x3 h) := by
  unfold XX12_areEnough
  refine Fr_cal (fg_XX12_mendings _ _ _ _ (fun a i hh => hW a i ((fun q => q.elim (fun q => Or.inr (Or.inl (by omega))) (fun q => Or.inr (Or.inr (Or.inr (by omega))))) hh)) _ ag_h) (fun r1 h2 ag_h2 => ?_)
  refine Fr_cal (fg_XX12_lacking _ (fun a i hh => hh.elim) _ ag_h2) (fun r3 h4 ag_h4 => ?_)
  refine Fr_ite ?_ ?_
  · refine Fr_wr ag_h4 (hW _ _ (Or.inr (Or.inr (Or.inl (by omega))))) (fun h5 ag_h5 => ?_)
    refine Fr_inb ?_
    refine Fr_wr ag_h5 (hW _ _ (Or.inl (by omega))) (fun h6 ag_h6 => ?_)
    refine Fr_inb ?_
    refine Fr_wr ag_h6 (hW _ _ (Or.inl (by omega))) (fun h7 ag_h7 => ?_)
    refine Fr_inb ?_
    refine Fr_wr ag_h7 (hW _ _ (Or.inl (by omega))) (fun h8 ag_h8 => ?_)
    refine Fr_zb ?_
    exact Fr_some ag_h8
  · refine Fr_zb ?_
    exact Fr_some ag_h4
theorem fr_XX12_areEnough {x0 : Int} {x1 : Int} {x2 : Int} {x3 : Int} {h : Hp} {r : Int} {h1 : Hp} (e : XX12_areEnough x0 x1 x2 x3 h = some (r, h1)) (a i : Nat) (hn : ¬ (a = 158 ∨ (188 ≤ a ∧ a ≤ 190) ∨ (a = 143 ∧ i = 19) ∨ (a = 143 ∧ 63 ≤ i ∧ i ≤ 64))) : h1 a i = h a i := fg_XX12_areEnough (W := fun a i => a = 158 ∨ (188 ≤ a ∧ a ≤ 190) ∨ (a = 143 ∧ i = 19) ∨ (a = 143 ∧ 63 ≤ i ∧ i ≤ 64)) x0 x1 x2 x3 (fun _ _ hh => hh) h (fun _ _ _ => rfl) r h1 e a i hn
theorem fg_XX12_points_b146 {W : Nat → Nat → Prop} {h0 : Hp} (self119 : Int → Int → Int → Hp → OR) (hs_self119 : ∀ (y0 y1 y2 : Int) (hh : Hp), Ag W h0 hh → Fr W h0 (self119 y0 y1 y2 hh)) (self134 : Int → Int → Int → Int → Hp → OR) (hs_self134 : ∀ (y0 y1 y2 y3 : Int) (hh : Hp), Ag W h0 hh → Fr W h0 (self134 y0 y1 y2 y3 hh)) (self146 : Int → Int → Int → Int → Int → Hp → OR) (hs_self146 : ∀ (y0 y1 y2 y3 y4 : Int) (hh : Hp), Ag W h0 hh → Fr W h0 (self146 y0 y1 y2 y3 y4 hh)) (l1 : Int) (l2 : Int) (l3 : Int) (l4 : Int) (l5 : Int) (hW : ∀ a i : Nat, (a = 158 ∨ (188 ≤ a ∧ a ≤ 190) ∨ (a = 143 ∧ i = 19) ∨ (a = 143 ∧ 63 ≤ i ∧ i ≤ 64)) → W a i) (h : Hp) (ag_h : Ag W h0 h) : Fr W h0 (XX12_points_b146 self119 self134 self146 l1 l2 l3 l4 l5 h) := by
  unfold XX12_points_b146
  refine Fr_ite ?_ ?_
  · refine Fr_chk ?_
    exact hs_self134 _ _ _ _ _ ag_h
  · refine Fr_cal (fg_XX12_areEnough _ _ _ _ (fun a i hh => hW a i ((fun q => q.elim (fun q => Or.inl (by omega)) (fun q => q.elim (fun q => Or.inr (Or.inl (by omega))) (fun q => q.elim (fun q => Or.inr (Or.inr (Or.inl (by omega)))) (fun q => Or.inr (Or.inr (Or.inr (by omega))))))) hh)) _ ag_h) (fun r17 h18 ag_h18 => ?_)
    refine Fr_ite ?_ ?_
    · refine Fr_chk ?_
      exact hs_self146 _ _ _ _ _ _ ag_h18
    · exact Fr_some ag_h18
theorem fg_XX12_points_L146 {W : Nat → Nat → Prop} {h0 : Hp} (self119 : Int → Int → Int → Hp → OR) (hs_self119 : ∀ (y0 y1 y2 : Int) (hh : Hp), Ag W h0 hh → Fr W h0 (self119 y0 y1 y2 hh)) (self134 : Int → Int → Int → Int → Hp → OR) (hs_self134 : ∀ (y0 y1 y2 y3 : Int) (hh : Hp), Ag W h0 hh → Fr W h0 (self134 y0 y1 y2 y3 hh)) (l1 : Int) (l2 : Int) (l3 : Int) (l4 : Int) (l5 : Int) (hW : ∀ a i : Nat, (a = 158 ∨ (188 ≤ a ∧ a ≤ 190) ∨ (a = 143 ∧ i = 19) ∨ (a = 143 ∧ 63 ≤ i ∧ i ≤ 64)) → W a i) (h : Hp) (ag_h : Ag W h0 h) : Fr W h0 (XX12_points_L146 self119 self134 l1 l2 l3 l4 l5 h) := by
  unfold XX12_points_L146
  exact Fr_lup5 (fun self hs z0 z1 z2 z3 z4 hh ag => fg_XX12_points_b146 self119 hs_self119 self134 hs_self134 self hs z0 z1 z2 z3 z4 hW hh ag) FU _ _ _ _ _ _ ag_h
theorem fg_XX12_points_b134 {W : Nat → Nat → Prop} {h0 : Hp} (self119 : Int → Int → Int → Hp → OR) (hs_self119 : ∀ (y0 y1 y2 : Int) (hh : Hp), Ag W h0 hh → Fr W h0 (self119 y0 y1 y2 hh)) (self134 : Int → Int → Int → Int → Hp → OR) (hs_self134 : ∀ (y0 y1 y2 y3 : Int) (hh : Hp), Ag W h0 hh → Fr W h0 (self134 y0 y1 y2 y3 hh)) (l1 : Int) (l2 : Int) (l3 : Int) (l4 : Int) (hW : ∀ a i : Nat, (a = 158 ∨ (188 ≤ a ∧ a ≤ 190) ∨ (a = 143 ∧ i = 19) ∨ (a = 143 ∧ 63 ≤ i ∧ i ≤ 64)) → W a i) (h : Hp) (ag_h : Ag W h0 h) : Fr W h0 (XX12_points_b134 self119 self134 l1 l2 l3 l4 h) := by
  unfold XX12_points_b134
  refine Fr_ite ?_ ?_
  · refine Fr_chk ?_
    exact hs_self119 _ _ _ _ ag_h
  · refine Fr_chk ?_
    refine Fr_nm (fun v16 => ?_)
    exact fg_XX12_points_L146 _ hs_self119 _ hs_self134 _ _ _ _ _ (fun a i hh => hW a i ((fun q => q.elim (fun q => Or.inl (by omega)) (fun q => q.elim (fun q => Or.inr (Or.inl (by omega))) (fun q => q.elim (fun q => Or.inr (Or.inr (Or.inl (by omega)))) (fun q => Or.inr (Or.inr (Or.inr (by omega))))))) hh)) _ ag_h
theorem fg_XX12_points_L134 {W : Nat → Nat → Prop} {h0 : Hp} (self119 : Int → Int → Int → Hp → OR) (hs_self119 : ∀ (y0 y1 y2 : Int) (hh : Hp), Ag W h0 hh → Fr W h0 (self119 y0 y1 y2 hh)) (l1 : Int) (l2 : Int) (l3 : Int) (l4 : Int) (hW : ∀ a i : Nat, (a = 158 ∨ (188 ≤ a ∧ a ≤ 190) ∨ (a = 143 ∧ i = 19) ∨ (a = 143 ∧ 63 ≤ i ∧ i ≤ 64)) → W a i) (h : Hp) (ag_h : Ag W h0 h) : Fr W h0 (XX12_points_L134 self119 l1 l2 l3 l4 h) := by
  unfold XX12_points_L134
  exact Fr_lup4 (fun self hs z0 z1 z2 z3 hh ag => fg_XX12_points_b134 self119 hs_self119 self hs z0 z1 z2 z3 hW hh ag) FU _ _ _ _ _ ag_h
theorem fg_XX12_points_b119 {W : Nat → Nat → Prop} {h0 : Hp} (self119 : Int → Int → Int → Hp → OR) (hs_self119 : ∀ (y0 y1 y2 : Int) (hh : Hp), Ag W h0 hh → Fr W h0 (self119 y0 y1 y2 hh)) (l1 : Int) (l2 : Int) (l3 : Int) (hW : ∀ a i : Nat, (a = 158 ∨ (188 ≤ a ∧ a ≤ 190) ∨ (a = 143 ∧ i = 19) ∨ (a = 143 ∧ 63 ≤ i ∧ i ≤ 64)) → W a i) (h : Hp) (ag_h : Ag W h0 h) : Fr W h0 (XX12_points_b119 self119 l1 l2 l3 h) := by
  unfold XX12_points_b119
  refine Fr_ite ?_ ?_
  · exact Fr_some ag_h
  · refine Fr_ite ?_ ?_
    · exact Fr_some ag_h
    · refine Fr_chk ?_
      refine Fr_nm (fun v15 => ?_)
      exact fg_XX12_points_L134 _ hs_self119 _ _ _ _ (fun a i hh => hW a i ((fun q => q.elim (fun q => Or.inl (by omega)) (fun q => q.elim (fun q => Or.inr (Or.inl (by omega))) (fun q => q.elim (fun q => Or.inr (Or.inr (Or.inl (by omega)))) (fun q => Or.inr (Or.inr (Or.inr (by omega))))))) hh)) _ ag_h
theorem fg_XX12_points_L119 {W : Nat → Nat → Prop} {h0 : Hp} (l1 : Int) (l2 : Int) (l3 : Int) (hW : ∀ a i : Nat, (a = 158 ∨ (188 ≤ a ∧ a ≤ 190) ∨ (a = 143 ∧ i = 19) ∨ (a = 143 ∧ 63 ≤ i ∧ i ≤ 64)) → W a i) (h : Hp) (ag_h : Ag W h0 h) : Fr W h0 (XX12_points_L119 l1 l2 l3 h) := by
  unfold XX12_points_L119
  exact Fr_lup3 (fun self hs z0 z1 z2 hh ag => fg_XX12_points_b119 self hs z0 z1 z2 hW hh ag) FU _ _ _ _ ag_h
theorem fg_XX12_points_p114 {W : Nat → Nat → Prop} {h0 : Hp} (l1 : Int) (l2 : Int) (hW : ∀ a i : Nat, (a = 158 ∨ (188 ≤ a ∧ a ≤ 190) ∨ (a = 143 ∧ i = 19) ∨ (a = 143 ∧ 63 ≤ i ∧ i ≤ 64)) → W a i) (h : Hp) (ag_h : Ag W h0 h) : Fr W h0 (XX12_points_p114 l1 l2 h) := by
  unfold XX12_points_p114
  refine Fr_cal (fg_XX12_begun (fun a i hh => hh.elim) _ ag_h) (fun r13 h14 ag_h14 => ?_)
  exact fg_XX12_points_L119 _ _ _ (fun a i hh => hW a i ((fun q => q.elim (fun q => Or.inl (by omega)) (fun q => q.elim (fun q => Or.inr (Or.inl (by omega))) (fun q => q.elim (fun q => Or.inr (Or.inr (Or.inl (by omega)))) (fun q => Or.inr (Or.inr (Or.inr (by omega))))))) hh)) _ ag_h14
theorem fg_XX12_points_b82 {W : Nat → Nat → Prop} {h0 : Hp} (self67 : Int → Int → Int → Hp → OR) (hs_self67 : ∀ (y0 y1 y2 : Int) (hh : Hp), Ag W h0 hh → Fr W h0 (self67 y0 y1 y2 hh)) (self82 : Int → Int → Int → Int → Hp → OR) (hs_self82 : ∀ (y0 y1 y2 y3 : Int) (hh : Hp), Ag W h0 hh → Fr W h0 (self82 y0 y1 y2 y3 hh)) (l1 : Int) (l2 : Int) (l3 : Int) (l4 : Int) (hW : ∀ a i : Nat, (a = 158 ∨ (188 ≤ a ∧ a ≤ 190) ∨ (a = 143 ∧ i = 19) ∨ (a = 143 ∧ 63 ≤ i ∧ i ≤ 64)) → W a i) (h : Hp) (ag_h : Ag W h0 h) : Fr W h0 (XX12_points_b82 self67 self82 l1 l2 l3 l4 h) := by
  unfold XX12_points_b82
  refine Fr_ite ?_ ?_
  · refine Fr_chk ?_
    exact hs_self67 _ _ _ _ ag_h
  · refine Fr_cal (fg_XX12_areEnough _ _ _ _ (fun a i hh => hW a i ((fun q => q.elim (fun q => Or.inl (by omega)) (fun q => q.elim (fun q => Or.inr (Or.inl (by omega))) (fun q => q.elim (fun q => Or.inr (Or.inr (Or.inl (by omega)))) (fun q => Or.inr (Or.inr (Or.inr (by omega))))))) hh)) _ ag_h) (fun r20 h21 ag_h21 => ?_)
    refine Fr_ite ?_ ?_
    · refine Fr_chk ?_
      exact hs_self82 _ _ _ _ _ ag_h21
    · exact Fr_some ag_h21
theorem fg_XX12_points_L82 {W : Nat → Nat → Prop} {h0 : Hp} (self67 : Int → Int → Int → Hp → OR) (hs_self67 : ∀ (y0 y1 y2 : Int) (hh : Hp), Ag W h0 hh → Fr W h0 (self67 y0 y1 y2 hh)) (l1 : Int) (l2 : Int) (l3 : Int) (l4 : Int) (hW : ∀ a i : Nat, (a = 158 ∨ (188 ≤ a ∧ a ≤ 190) ∨ (a = 143 ∧ i = 19) ∨ (a = 143 ∧ 63 ≤ i ∧ i ≤ 64)) → W a i) (h : Hp) (ag_h : Ag W h0 h) : Fr W h0 (XX12_points_L82 self67 l1 l2 l3 l4 h) := by
  unfold XX12_points_L82
  exact Fr_lup4 (fun self hs z0 z1 z2 z3 hh ag => fg_XX12_points_b82 self67 hs_self67 self hs z0 z1 z2 z3 hW hh ag) FU _ _ _ _ _ ag_h
theorem fg_XX12_points_b67 {W : Nat → Nat → Prop} {h0 : Hp} (self67 : Int → Int → Int → Hp → OR) (hs_self67 : ∀ (y0 y1 y2 : Int) (hh : Hp), Ag W h0 hh → Fr W h0 (self67 y0 y1 y2 hh)) (l1 : Int) (l2 : Int) (l3 : Int) (hW : ∀ a i : Nat, (a = 158 ∨ (188 ≤ a ∧ a ≤ 190) ∨ (a = 143 ∧ i = 19) ∨ (a = 143 ∧ 63 ≤ i ∧ i ≤ 64)) → W a i) (h : Hp) (ag_h : Ag W h0 h) : Fr W h0 (XX12_points_b67 self67 l1 l2 l3 h) := by
  unfold XX12_points_b67
  refine Fr_ite ?_ ?_
  · exact fg_XX12_points_p114 _ _ (fun a i hh => hW a i ((fun q => q.elim (fun q => Or.inl (by omega)) (fun q => q.elim (fun q => Or.inr (Or.inl (by omega))) (fun q => q.elim (fun q => Or.inr (Or.inr (Or.inl (by omega)))) (fun q => Or.inr (Or.inr (Or.inr (by omega))))))) hh)) _ ag_h
  · refine Fr_ite ?_ ?_
    · exact fg_XX12_points_p114 _ _ (fun a i hh => hW a i ((fun q => q.elim (fun q => Or.inl (by omega)) (fun q => q.elim (fun q => Or.inr (Or.inl (by omega))) (fun q => q.elim (fun q => Or.inr (Or.inr (Or.inl (by omega)))) (fun q => Or.inr (Or.inr (Or.inr (by omega))))))) hh)) _ ag_h
    · refine Fr_chk ?_
      refine Fr_nm (fun v19 => ?_)
      exact fg_XX12_points_L82 _ hs_self67 _ _ _ _ (fun a i hh => hW a i ((fun q => q.elim (fun q => Or.inl (by omega)) (fun q => q.elim (fun q => Or.inr (Or.inl (by omega))) (fun q => q.elim (fun q => Or.inr (Or.inr (Or.inl (by omega)))) (fun q => Or.inr (Or.inr (Or.inr (by omega))))))) hh)) _ ag_h
theorem fg_XX12_points_L67 {W : Nat → Nat → Prop} {h0 : Hp} (l1 : Int) (l2 : Int) (l3 : Int) (hW : ∀ a i : Nat, (a = 158 ∨ (188 ≤ a ∧ a ≤ 190) ∨ (a = 143 ∧ i = 19) ∨ (a = 143 ∧ 63 ≤ i ∧ i ≤ 64)) → W a i) (h : Hp) (ag_h : Ag W h0 h) : Fr W h0 (XX12_points_L67 l1 l2 l3 h) := by
  unfold XX12_points_L67
  exact Fr_lup3 (fun self hs z0 z1 z2 hh ag => fg_XX12_points_b67 self hs z0 z1 z2 hW hh ag) FU _ _ _ _ ag_h
theorem fg_XX12_points_b38 {W : Nat → Nat → Prop} {h0 : Hp} (self38 : Int → Int → Int → Hp → OR) (hs_self38 : ∀ (y0 y1 y2 : Int) (hh : Hp), Ag W h0 hh → Fr W h0 (self38 y0 y1 y2 hh)) (l1 : Int) (l2 : Int) (l3 : Int) (hW : ∀ a i : Nat, (a = 158 ∨ (188 ≤ a ∧ a ≤ 190) ∨ (a = 143 ∧ i = 19) ∨ (a = 143 ∧ 63 ≤ i ∧ i ≤ 64)) → W a i) (h : Hp) (ag_h : Ag W h0 h) : Fr W h0 (XX12_points_b38 self38 l1 l2 l3 h) := by
  unfold XX12_points_b38
  refine Fr_ite ?_ ?_
  · refine Fr_cal (fg_XX12_begun (fun a i hh => hh.elim) _ ag_h) (fun r11 h12 ag_h12 => ?_)
    exact fg_XX12_points_L67 _ _ _ (fun a i hh => hW a i ((fun q => q.elim (fun q => Or.inl (by omega)) (fun q => q.elim (fun q => Or.inr (Or.inl (by omega))) (fun q => q.elim (fun q => Or.inr (Or.inr (Or.inl (by omega)))) (fun q => Or.inr (Or.inr (Or.inr (by omega))))))) hh)) _ ag_h12
  · refine Fr_cal (fg_XX12_areEnough _ _ _ _ (fun a i hh => hW a i ((fun q => q.elim (fun q => Or.inl (by omega)) (fun q => q.elim (fun q => Or.inr (Or.inl (by omega))) (fun q => q.elim (fun q => Or.inr (Or.inr (Or.inl (by omega)))) (fun q => Or.inr (Or.inr (Or.inr (by omega))))))) hh)) _ ag_h) (fun r22 h23 ag_h23 => ?_)
    refine Fr_ite ?_ ?_
    · refine Fr_chk ?_
      exact hs_self38 _ _ _ _ ag_h23
    · exact Fr_some ag_h23
theorem fg_XX12_points_L38 {W : Nat → Nat → Prop} {h0 : Hp} (l1 : Int) (l2 : Int) (l3 : Int) (hW : ∀ a i : Nat, (a = 158 ∨ (188 ≤ a ∧ a ≤ 190) ∨ (a = 143 ∧ i = 19) ∨ (a = 143 ∧ 63 ≤ i ∧ i ≤ 64)) → W a i) (h : Hp) (ag_h : Ag W h0 h) : Fr W h0 (XX12_points_L38 l1 l2 l3 h) := by
  unfold XX12_points_L38
  exact Fr_lup3 (fun self hs z0 z1 z2 hh ag => fg_XX12_points_b38 self hs z0 z1 z2 hW hh ag) FU _ _ _ _ ag_h
theorem fg_XX12_points {W : Nat → Nat → Prop} {h0 : Hp} (x0 : Int) (hW : ∀ a i : Nat, (a = 158 ∨ (186 ≤ a ∧ a ≤ 190) ∨ (a = 143 ∧ i = 19) ∨ (a = 143 ∧ 63 ≤ i ∧ i ≤ 64)) → W a i) (h : Hp) (ag_h : Ag W h0 h) : Fr W h0 (XX12_points x0 h) := by
  unfold XX12_points
  refine Fr_cal (fg_XX12_in _ _ _ (fun a i hh => hh.elim) _ ag_h) (fun r1 h2 ag_h2 => ?_)
  refine Fr_ite ?_ ?_
  · exact Fr_some ag_h2
  · refine Fr_cal (fg_XX12_differ (fun a i hh => hW a i ((fun q => q.elim (fun q => Or.inr (Or.inl (by omega))) (fun q => Or.inr (Or.inr (Or.inr (by omega))))) hh)) _ ag_h2) (fun r3 h4 ag_h4 => ?_)
    refine Fr_ite ?_ ?_
    · exact Fr_some ag_h4
    · refine Fr_cal (fg_XX12_prepares (fun a i hh => hW a i ((fun q => q.elim (fun q => Or.inr (Or.inl (by omega))) (fun q => Or.inr (Or.inr (Or.inr (by omega))))) hh)) _ ag_h4) (fun r5 h6 ag_h6 => ?_)
      refine Fr_cal (fg_XX12_wires _ (fun a i hh => hh.elim) _ ag_h6) (fun r7 h8 ag_h8 => ?_)
      refine Fr_cal (fg_XX12_begun (fun a i hh => hh.elim) _ ag_h8) (fun r9 h10 ag_h10 => ?_)
      exact fg_XX12_points_L38 _ _ _ (fun a i hh => hW a i ((fun q => q.elim (fun q => Or.inl (by omega)) (fun q => q.elim (fun q => Or.inr (Or.inl (by omega))) (fun q => q.elim (fun q => Or.inr (Or.inr (Or.inl (by omega)))) (fun q => Or.inr (Or.inr (Or.inr (by omega))))))) hh)) _ ag_h10
theorem fr_XX12_points {x0 : Int} {h : Hp} {r : Int} {h1 : Hp} (e : XX12_points x0 h = some (r, h1)) (a i : Nat) (hn : ¬ (a = 158 ∨ (186 ≤ a ∧ a ≤ 190) ∨ (a = 143 ∧ i = 19) ∨ (a = 143 ∧ 63 ≤ i ∧ i ≤ 64))) : h1 a i = h a i := fg_XX12_points (W := fun a i => a = 158 ∨ (186 ≤ a ∧ a ≤ 190) ∨ (a = 143 ∧ i = 19) ∨ (a = 143 ∧ 63 ≤ i ∧ i ≤ 64)) x0 (fun _ _ hh => hh) h (fun _ _ _ => rfl) r h1 e a i hn
theorem fg_XX12_point {W : Nat → Nat → Prop} {h0 : Hp} (x0 : Int) (hW : ∀ a i : Nat, (False) → W a i) (h : Hp) (ag_h : Ag W h0 h) : Fr W h0 (XX12_point x0 h) := by
  unfold XX12_point
  refine Fr_chk ?_
  refine Fr_cal (fg_XX12_in _ _ _ (fun a i hh => hh.elim) _ ag_h) (fun r1 h2 ag_h2 => ?_)
  refine Fr_ite ?_ ?_
  · exact Fr_some ag_h2
  · refine Fr_inb ?_
    exact Fr_some ag_h2
theorem fr_XX12_point {x0 : Int} {h : Hp} {r : Int} {h1 : Hp} (e : XX12_point x0 h = some (r, h1)) (a i : Nat) (hn : ¬ (False)) : h1 a i = h a i := fg_XX12_point (W := fun a i => False) x0 (fun _ _ hh => hh) h (fun _ _ _ => rfl) r h1 e a i hn
theorem fe_XX12_point {x0 : Int} {h : Hp} {r : Int} {h1 : Hp} (e : XX12_point x0 h = some (r, h1)) : h1 = h := funext (fun a => funext (fun i => fr_XX12_point e a i (fun hh => hh)))
theorem fg_XX12_mend {W : Nat → Nat → Prop} {h0 : Hp} (x0 : Int) (x1 : Int) (x2 : Int) (x3 : Int) (hW : ∀ a i : Nat, ((186 ≤ a ∧ a ≤ 190) ∨ (a = 143 ∧ 63 ≤ i ∧ i ≤ 64)) → W a i) (h : Hp) (ag_h : Ag W h0 h) : Fr W h0 (XX12_mend x0 x1 x2 x3 h) := by
  unfold XX12_mend
  refine Fr_cal (fg_XX12_arePoints _ _ _ (fun a i hh => hh.elim) _ ag_h) (fun r1 h2 ag_h2 => ?_)
  refine Fr_ite ?_ ?_
  · exact Fr_some ag_h2
  · refine Fr_cal (fg_XX12_isCase _ (fun a i hh => hh.elim) _ ag_h2) (fun r3 h4 ag_h4 => ?_)
    refine Fr_ite ?_ ?_
    · exact Fr_some ag_h4
    · refine Fr_cal (fg_XX12_prepares (fun a i hh => hW a i ((fun q => q.elim (fun q => Or.inl (by omega)) (fun q => Or.inr (by omega))) hh)) _ ag_h4) (fun r5 h6 ag_h6 => ?_)
      refine Fr_cal (fg_XX12_mendings _ _ _ _ (fun a i hh => hW a i ((fun q => q.elim (fun q => Or.inl (by omega)) (fun q => Or.inr (by omega))) hh)) _ ag_h6) (fun r7 h8 ag_h8 => ?_)
      refine Fr_cal (fg_XX12_leastMend _ _ (fun a i hh => hh.elim) _ ag_h8) (fun r9 h10 ag_h10 => ?_)
      refine Fr_ite ?_ ?_
      · exact Fr_some ag_h10
      · exact Fr_some ag_h10
theorem fr_XX12_mend {x0 : Int} {x1 : Int} {x2 : Int} {x3 : Int} {h : Hp} {r : Int} {h1 : Hp} (e : XX12_mend x0 x1 x2 x3 h = some (r, h1)) (a i : Nat) (hn : ¬ ((186 ≤ a ∧ a ≤ 190) ∨ (a = 143 ∧ 63 ≤ i ∧ i ≤ 64))) : h1 a i = h a i := fg_XX12_mend (W := fun a i => (186 ≤ a ∧ a ≤ 190) ∨ (a = 143 ∧ 63 ≤ i ∧ i ≤ 64)) x0 x1 x2 x3 (fun _ _ hh => hh) h (fun _ _ _ => rfl) r h1 e a i hn
theorem fg_XX12_isTape {W : Nat → Nat → Prop} {h0 : Hp} (x0 : Int) (hW : ∀ a i : Nat, (False) → W a i) (h : Hp) (ag_h : Ag W h0 h) : Fr W h0 (XX12_isTape x0 h) := by
  unfold XX12_isTape
  refine Fr_cal (fg_XX12_in _ _ _ (fun a i hh => hh.elim) _ ag_h) (fun r1 h2 ag_h2 => ?_)
  refine Fr_zb ?_
  exact Fr_some ag_h2
theorem fr_XX12_isTape {x0 : Int} {h : Hp} {r : Int} {h1 : Hp} (e : XX12_isTape x0 h = some (r, h1)) (a i : Nat) (hn : ¬ (False)) : h1 a i = h a i := fg_XX12_isTape (W := fun a i => False) x0 (fun _ _ hh => hh) h (fun _ _ _ => rfl) r h1 e a i hn
theorem fe_XX12_isTape {x0 : Int} {h : Hp} {r : Int} {h1 : Hp} (e : XX12_isTape x0 h = some (r, h1)) : h1 = h := funext (fun a => funext (fun i => fr_XX12_isTape e a i (fun hh => hh)))
theorem fg_XX12_witness_p117 {W : Nat → Nat → Prop} {h0 : Hp} (self73 : Int → Int → Int → Hp → OR) (hs_self73 : ∀ (y0 y1 y2 : Int) (hh : Hp), Ag W h0 hh → Fr W h0 (self73 y0 y1 y2 hh)) (l1 : Int) (l5 : Int) (l6 : Int) (s1 : Int) (s2 : Int) (hW : ∀ a i : Nat, (a = 173) → W a i) (h : Hp) (ag_h : Ag W h0 h) : Fr W h0 (XX12_witness_p117 self73 l1 l5 l6 s1 s2 h) := by
  unfold XX12_witness_p117
  refine Fr_inb ?_
  refine Fr_wr ag_h (hW _ _ (by omega)) (fun h21 ag_h21 => ?_)
  refine Fr_chk ?_
  exact hs_self73 _ _ _ _ ag_h21
theorem fg_XX12_witness_b73 {W : Nat → Nat → Prop} {h0 : Hp} (self73 : Int → Int → Int → Hp → OR) (hs_self73 : ∀ (y0 y1 y2 : Int) (hh : Hp), Ag W h0 hh → Fr W h0 (self73 y0 y1 y2 hh)) (l1 : Int) (l5 : Int) (l6 : Int) (hW : ∀ a i : Nat, (a = 173) → W a i) (h : Hp) (ag_h : Ag W h0 h) : Fr W h0 (XX12_witness_b73 self73 l1 l5 l6 h) := by
  unfold XX12_witness_b73
  refine Fr_cal (fg_XX12_cases (fun a i hh => hh.elim) _ ag_h) (fun r15 h16 ag_h16 => ?_)
  refine Fr_ite ?_ ?_
  · refine Fr_cal (fg_XX12_cases (fun a i hh => hh.elim) _ ag_h16) (fun r17 h18 ag_h18 => ?_)
    exact Fr_some ag_h18
  · refine Fr_chk ?_
    refine Fr_chk ?_
    refine Fr_inb ?_
    refine Fr_ite ?_ ?_
    · refine Fr_cal (fg_XX12_leastMend _ _ (fun a i hh => hh.elim) _ ag_h16) (fun r19 h20 ag_h20 => ?_)
      exact fg_XX12_witness_p117 _ hs_self73 _ _ _ _ _ (fun a i hh => hW a i (by omega)) _ ag_h20
    · exact fg_XX12_witness_p117 _ hs_self73 _ _ _ _ _ (fun a i hh => hW a i (by omega)) _ ag_h16
theorem fg_XX12_witness_L73 {W : Nat → Nat → Prop} {h0 : Hp} (l1 : Int) (l5 : Int) (l6 : Int) (hW : ∀ a i : Nat, (a = 173) → W a i) (h : Hp) (ag_h : Ag W h0 h) : Fr W h0 (XX12_witness_L73 l1 l5 l6 h) := by
  unfold XX12_witness_L73
  exact Fr_lup3 (fun self hs z0 z1 z2 hh ag => fg_XX12_witness_b73 self hs z0 z1 z2 hW hh ag) FU _ _ _ _ ag_h
theorem fg_XX12_witness {W : Nat → Nat → Prop} {h0 : Hp} (x0 : Int) (x1 : Int) (x2 : Int) (x3 : Int) (hW : ∀ a i : Nat, ((171 ≤ a ∧ a ≤ 173) ∨ (186 ≤ a ∧ a ≤ 190) ∨ (a = 143 ∧ 63 ≤ i ∧ i ≤ 64)) → W a i) (h : Hp) (ag_h : Ag W h0 h) : Fr W h0 (XX12_witness x0 x1 x2 x3 h) := by
  unfold XX12_witness
  refine Fr_cal (fg_XX12_arePoints _ _ _ (fun a i hh => hh.elim) _ ag_h) (fun r1 h2 ag_h2 => ?_)
  refine Fr_cal (fg_XX12_isTape _ (fun a i hh => hh.elim) _ ag_h2) (fun r3 h4 ag_h4 => ?_)
  refine Fr_ite ?_ ?_
  · exact Fr_some ag_h4
  · refine Fr_ite ?_ ?_
    · exact Fr_some ag_h4
    · refine Fr_cal (fg_XX12_prepares (fun a i hh => hW a i ((fun q => q.elim (fun q => Or.inr (Or.inl (by omega))) (fun q => Or.inr (Or.inr (by omega)))) hh)) _ ag_h4) (fun r5 h6 ag_h6 => ?_)
      refine Fr_cal (fg_XX12_mendings _ _ _ _ (fun a i hh => hW a i ((fun q => q.elim (fun q => Or.inr (Or.inl (by omega))) (fun q => Or.inr (Or.inr (by omega)))) hh)) _ ag_h6) (fun r7 h8 ag_h8 => ?_)
      refine Fr_cal (fg_XX12_lacking _ (fun a i hh => hh.elim) _ ag_h8) (fun r9 h10 ag_h10 => ?_)
      refine Fr_ite ?_ ?_
      · refine Fr_inb ?_
        refine Fr_wr ag_h10 (hW _ _ (Or.inl (by omega))) (fun h11 ag_h11 => ?_)
        refine Fr_cal (fg_XX12_cases (fun a i hh => hh.elim) _ ag_h11) (fun r12 h13 ag_h13 => ?_)
        refine Fr_inb ?_
        refine Fr_wr ag_h13 (hW _ _ (Or.inl (by omega))) (fun h14 ag_h14 => ?_)
        exact fg_XX12_witness_L73 _ _ _ (fun a i hh => hW a i (Or.inl (by omega))) _ ag_h14
      · exact Fr_some ag_h10
theorem fr_XX12_witness {x0 : Int} {x1 : Int} {x2 : Int} {x3 : Int} {h : Hp} {r : Int} {h1 : Hp} (e : XX12_witness x0 x1 x2 x3 h = some (r, h1)) (a i : Nat) (hn : ¬ ((171 ≤ a ∧ a ≤ 173) ∨ (186 ≤ a ∧ a ≤ 190) ∨ (a = 143 ∧ 63 ≤ i ∧ i ≤ 64))) : h1 a i = h a i := fg_XX12_witness (W := fun a i => (171 ≤ a ∧ a ≤ 173) ∨ (186 ≤ a ∧ a ≤ 190) ∨ (a = 143 ∧ 63 ≤ i ∧ i ≤ 64)) x0 x1 x2 x3 (fun _ _ hh => hh) h (fun _ _ _ => rfl) r h1 e a i hn
theorem fg_XX12_judge_p159 {W : Nat → Nat → Prop} {h0 : Hp} (self74 : Int → Int → Int → Hp → OR) (hs_self74 : ∀ (y0 y1 y2 : Int) (hh : Hp), Ag W h0 hh → Fr W h0 (self74 y0 y1 y2 hh)) (l1 : Int) (l5 : Int) (l6 : Int) (hW : ∀ a i : Nat, (False) → W a i) (h : Hp) (ag_h : Ag W h0 h) : Fr W h0 (XX12_judge_p159 self74 l1 l5 l6 h) := by
  unfold XX12_judge_p159
  refine Fr_chk ?_
  exact hs_self74 _ _ _ _ ag_h
theorem fg_XX12_judge_b74 {W : Nat → Nat → Prop} {h0 : Hp} (self74 : Int → Int → Int → Hp → OR) (hs_self74 : ∀ (y0 y1 y2 : Int) (hh : Hp), Ag W h0 hh → Fr W h0 (self74 y0 y1 y2 hh)) (l1 : Int) (l5 : Int) (l6 : Int) (hW : ∀ a i : Nat, ((a = 143 ∧ i = 57)) → W a i) (h : Hp) (ag_h : Ag W h0 h) : Fr W h0 (XX12_judge_b74 self74 l1 l5 l6 h) := by
  unfold XX12_judge_b74
  refine Fr_cal (fg_XX12_cases (fun a i hh => hh.elim) _ ag_h) (fun r9 h10 ag_h10 => ?_)
  refine Fr_ite ?_ ?_
  · exact Fr_some ag_h10
  · refine Fr_inb ?_
    refine Fr_ite ?_ ?_
    · refine Fr_inb ?_
      refine Fr_ite ?_ ?_
      · refine Fr_chk ?_
        refine Fr_chk ?_
        refine Fr_inb ?_
        refine Fr_nm (fun v11 => ?_)
        refine Fr_ite ?_ ?_
        · exact Fr_some ag_h10
        · refine Fr_ite ?_ ?_
          · exact Fr_some ag_h10
          · refine Fr_cal (fg_XX12_doesMend _ _ (fun a i hh => hh.elim) _ ag_h10) (fun r12 h13 ag_h13 => ?_)
            refine Fr_ite ?_ ?_
            · exact Fr_some ag_h13
            · exact fg_XX12_judge_p159 _ hs_self74 _ _ _ (fun a i hh => hh.elim) _ ag_h13
      · refine Fr_cal (fg_XX12_refuse _ (fun a i hh => hW a i (by omega)) _ ag_h10) (fun r14 h15 ag_h15 => ?_)
        exact Fr_some ag_h15
    · exact fg_XX12_judge_p159 _ hs_self74 _ _ _ (fun a i hh => hh.elim) _ ag_h10
theorem fg_XX12_judge_L74 {W : Nat → Nat → Prop} {h0 : Hp} (l1 : Int) (l5 : Int) (l6 : Int) (hW : ∀ a i : Nat, ((a = 143 ∧ i = 57)) → W a i) (h : Hp) (ag_h : Ag W h0 h) : Fr W h0 (XX12_judge_L74 l1 l5 l6 h) := by
  unfold XX12_judge_L74
  exact Fr_lup3 (fun self hs z0 z1 z2 hh ag => fg_XX12_judge_b74 self hs z0 z1 z2 hW hh ag) FU _ _ _ _ ag_h
theorem fg_XX12_judge {W : Nat → Nat → Prop} {h0 : Hp} (x0 : Int) (x1 : Int) (x2 : Int) (x3 : Int) (hW : ∀ a i : Nat, ((186 ≤ a ∧ a ≤ 190) ∨ (a = 143 ∧ i = 57) ∨ (a = 143 ∧ 63 ≤ i ∧ i ≤ 64)) → W a i) (h : Hp) (ag_h : Ag W h0 h) : Fr W h0 (XX12_judge x0 x1 x2 x3 h) := by
  unfold XX12_judge
  refine Fr_cal (fg_XX12_arePoints _ _ _ (fun a i hh => hh.elim) _ ag_h) (fun r1 h2 ag_h2 => ?_)
  refine Fr_cal (fg_XX12_isTape _ (fun a i hh => hh.elim) _ ag_h2) (fun r3 h4 ag_h4 => ?_)
  refine Fr_ite ?_ ?_
  · exact Fr_some ag_h4
  · refine Fr_ite ?_ ?_
    · exact Fr_some ag_h4
    · refine Fr_inb ?_
      refine Fr_ite ?_ ?_
      · refine Fr_cal (fg_XX12_refuse _ (fun a i hh => hW a i (Or.inr (Or.inl (by omega)))) _ ag_h4) (fun r18 h19 ag_h19 => ?_)
        exact Fr_some ag_h19
      · refine Fr_inb ?_
        refine Fr_ite ?_ ?_
        · refine Fr_cal (fg_XX12_prepares (fun a i hh => hW a i ((fun q => q.elim (fun q => Or.inl (by omega)) (fun q => Or.inr (Or.inr (by omega)))) hh)) _ ag_h4) (fun r5 h6 ag_h6 => ?_)
          refine Fr_cal (fg_XX12_mendings _ _ _ _ (fun a i hh => hW a i ((fun q => q.elim (fun q => Or.inl (by omega)) (fun q => Or.inr (Or.inr (by omega)))) hh)) _ ag_h6) (fun r7 h8 ag_h8 => ?_)
          exact fg_XX12_judge_L74 _ _ _ (fun a i hh => hW a i (Or.inr (Or.inl (by omega)))) _ ag_h8
        · refine Fr_cal (fg_XX12_refuse _ (fun a i hh => hW a i (Or.inr (Or.inl (by omega)))) _ ag_h4) (fun r16 h17 ag_h17 => ?_)
          exact Fr_some ag_h17
theorem fr_XX12_judge {x0 : Int} {x1 : Int} {x2 : Int} {x3 : Int} {h : Hp} {r : Int} {h1 : Hp} (e : XX12_judge x0 x1 x2 x3 h = some (r, h1)) (a i : Nat) (hn : ¬ ((186 ≤ a ∧ a ≤ 190) ∨ (a = 143 ∧ i = 57) ∨ (a = 143 ∧ 63 ≤ i ∧ i ≤ 64))) : h1 a i = h a i := fg_XX12_judge (W := fun a i => (186 ≤ a ∧ a ≤ 190) ∨ (a = 143 ∧ i = 57) ∨ (a = 143 ∧ 63 ≤ i ∧ i ≤ 64)) x0 x1 x2 x3 (fun _ _ hh => hh) h (fun _ _ _ => rfl) r h1 e a i hn
theorem fg_XX12_functions {W : Nat → Nat → Prop} {h0 : Hp} (x0 : Int) (hW : ∀ a i : Nat, (False) → W a i) (h : Hp) (ag_h : Ag W h0 h) : Fr W h0 (XX12_functions x0 h) := by
  unfold XX12_functions
  exact Fr_some ag_h
theorem fr_XX12_functions {x0 : Int} {h : Hp} {r : Int} {h1 : Hp} (e : XX12_functions x0 h = some (r, h1)) (a i : Nat) (hn : ¬ (False)) : h1 a i = h a i := fg_XX12_functions (W := fun a i => False) x0 (fun _ _ hh => hh) h (fun _ _ _ => rfl) r h1 e a i hn
theorem fe_XX12_functions {x0 : Int} {h : Hp} {r : Int} {h1 : Hp} (e : XX12_functions x0 h = some (r, h1)) : h1 = h := funext (fun a => funext (fun i => fr_XX12_functions e a i (fun hh => hh)))
theorem fg_XX12_projection_b4 {W : Nat → Nat → Prop} {h0 : Hp} (self4 : Int → Int → Int → Int → Hp → OR) (hs_self4 : ∀ (y0 y1 y2 y3 : Int) (hh : Hp), Ag W h0 hh → Fr W h0 (self4 y0 y1 y2 y3 hh)) (l0 : Int) (l1 : Int) (l2 : Int) (l3 : Int) (hW : ∀ a i : Nat, (False) → W a i) (h : Hp) (ag_h : Ag W h0 h) : Fr W h0 (XX12_projection_b4 self4 l0 l1 l2 l3 h) := by
  unfold XX12_projection_b4
  refine Fr_ite ?_ ?_
  · exact Fr_some ag_h
  · refine Fr_nm (fun v1 => ?_)
    refine Fr_chk ?_
    exact hs_self4 _ _ _ _ _ ag_h
theorem fg_XX12_projection_L4 {W : Nat → Nat → Prop} {h0 : Hp} (l0 : Int) (l1 : Int) (l2 : Int) (l3 : Int) (hW : ∀ a i : Nat, (False) → W a i) (h : Hp) (ag_h : Ag W h0 h) : Fr W h0 (XX12_projection_L4 l0 l1 l2 l3 h) := by
  unfold XX12_projection_L4
  exact Fr_lup4 (fun self hs z0 z1 z2 z3 hh ag => fg_XX12_projection_b4 self hs z0 z1 z2 z3 hW hh ag) FU _ _ _ _ _ ag_h
theorem fg_XX12_projection {W : Nat → Nat → Prop} {h0 : Hp} (x0 : Int) (x1 : Int) (hW : ∀ a i : Nat, (False) → W a i) (h : Hp) (ag_h : Ag W h0 h) : Fr W h0 (XX12_projection x0 x1 h) := by
  unfold XX12_projection
  exact fg_XX12_projection_L4 _ _ _ _ (fun a i hh => hh.elim) _ ag_h
theorem fr_XX12_projection {x0 : Int} {x1 : Int} {h : Hp} {r : Int} {h1 : Hp} (e : XX12_projection x0 x1 h = some (r, h1)) (a i : Nat) (hn : ¬ (False)) : h1 a i = h a i := fg_XX12_projection (W := fun a i => False) x0 x1 (fun _ _ hh => hh) h (fun _ _ _ => rfl) r h1 e a i hn
theorem fe_XX12_projection {x0 : Int} {x1 : Int} {h : Hp} {r : Int} {h1 : Hp} (e : XX12_projection x0 x1 h = some (r, h1)) : h1 = h := funext (fun a => funext (fun i => fr_XX12_projection e a i (fun hh => hh)))
theorem fg_XX12_joined {W : Nat → Nat → Prop} {h0 : Hp} (x0 : Int) (x1 : Int) (x2 : Int) (x3 : Int) (hW : ∀ a i : Nat, (False) → W a i) (h : Hp) (ag_h : Ag W h0 h) : Fr W h0 (XX12_joined x0 x1 x2 x3 h) := by
  unfold XX12_joined
  refine Fr_cal (fg_XX12_two _ _ _ (fun a i hh => hh.elim) _ ag_h) (fun r1 h2 ag_h2 => ?_)
  exact Fr_some ag_h2
theorem fr_XX12_joined {x0 : Int} {x1 : Int} {x2 : Int} {x3 : Int} {h : Hp} {r : Int} {h1 : Hp} (e : XX12_joined x0 x1 x2 x3 h = some (r, h1)) (a i : Nat) (hn : ¬ (False)) : h1 a i = h a i := fg_XX12_joined (W := fun a i => False) x0 x1 x2 x3 (fun _ _ hh => hh) h (fun _ _ _ => rfl) r h1 e a i hn
theorem fe_XX12_joined {x0 : Int} {x1 : Int} {x2 : Int} {x3 : Int} {h : Hp} {r : Int} {h1 : Hp} (e : XX12_joined x0 x1 x2 x3 h = some (r, h1)) : h1 = h := funext (fun a => funext (fun i => fr_XX12_joined e a i (fun hh => hh)))
theorem fg_XX12_lacks_p28 {W : Nat → Nat → Prop} {h0 : Hp} (self4 : Int → Int → Int → Hp → OR) (hs_self4 : ∀ (y0 y1 y2 : Int) (hh : Hp), Ag W h0 hh → Fr W h0 (self4 y0 y1 y2 hh)) (l1 : Int) (l3 : Int) (s0 : Int) (hW : ∀ a i : Nat, (False) → W a i) (h : Hp) (ag_h : Ag W h0 h) : Fr W h0 (XX12_lacks_p28 self4 l1 l3 s0 h) := by
  unfold XX12_lacks_p28
  refine Fr_chk ?_
  exact hs_self4 _ _ _ _ ag_h
theorem fg_XX12_lacks_p23 {W : Nat → Nat → Prop} {h0 : Hp} (self4 : Int → Int → Int → Hp → OR) (hs_self4 : ∀ (y0 y1 y2 : Int) (hh : Hp), Ag W h0 hh → Fr W h0 (self4 y0 y1 y2 hh)) (l1 : Int) (l3 : Int) (hW : ∀ a i : Nat, (False) → W a i) (h : Hp) (ag_h : Ag W h0 h) : Fr W h0 (XX12_lacks_p23 self4 l1 l3 h) := by
  unfold XX12_lacks_p23
  exact fg_XX12_lacks_p28 _ hs_self4 _ _ _ (fun a i hh => hh.elim) _ ag_h
theorem fg_XX12_lacks_b4 {W : Nat → Nat → Prop} {h0 : Hp} (self4 : Int → Int → Int → Hp → OR) (hs_self4 : ∀ (y0 y1 y2 : Int) (hh : Hp), Ag W h0 hh → Fr W h0 (self4 y0 y1 y2 hh)) (l1 : Int) (l2 : Int) (l3 : Int) (hW : ∀ a i : Nat, (False) → W a i) (h : Hp) (ag_h : Ag W h0 h) : Fr W h0 (XX12_lacks_b4 self4 l1 l2 l3 h) := by
  unfold XX12_lacks_b4
  refine Fr_ite ?_ ?_
  · refine Fr_zb ?_
    exact Fr_some ag_h
  · refine Fr_ite ?_ ?_
    · refine Fr_inb ?_
      refine Fr_ite ?_ ?_
      · exact fg_XX12_lacks_p23 _ hs_self4 _ _ (fun a i hh => hh.elim) _ ag_h
      · exact fg_XX12_lacks_p28 _ hs_self4 _ _ _ (fun a i hh => hh.elim) _ ag_h
    · exact fg_XX12_lacks_p23 _ hs_self4 _ _ (fun a i hh => hh.elim) _ ag_h
theorem fg_XX12_lacks_L4 {W : Nat → Nat → Prop} {h0 : Hp} (l1 : Int) (l2 : Int) (l3 : Int) (hW : ∀ a i : Nat, (False) → W a i) (h : Hp) (ag_h : Ag W h0 h) : Fr W h0 (XX12_lacks_L4 l1 l2 l3 h) := by
  unfold XX12_lacks_L4
  exact Fr_lup3 (fun self hs z0 z1 z2 hh ag => fg_XX12_lacks_b4 self hs z0 z1 z2 hW hh ag) FU _ _ _ _ ag_h
theorem fg_XX12_lacks {W : Nat → Nat → Prop} {h0 : Hp} (x0 : Int) (hW : ∀ a i : Nat, (False) → W a i) (h : Hp) (ag_h : Ag W h0 h) : Fr W h0 (XX12_lacks x0 h) := by
  unfold XX12_lacks
  exact fg_XX12_lacks_L4 _ _ _ (fun a i hh => hh.elim) _ ag_h
theorem fr_XX12_lacks {x0 : Int} {h : Hp} {r : Int} {h1 : Hp} (e : XX12_lacks x0 h = some (r, h1)) (a i : Nat) (hn : ¬ (False)) : h1 a i = h a i := fg_XX12_lacks (W := fun a i => False) x0 (fun _ _ hh => hh) h (fun _ _ _ => rfl) r h1 e a i hn
theorem fe_XX12_lacks {x0 : Int} {h : Hp} {r : Int} {h1 : Hp} (e : XX12_lacks x0 h = some (r, h1)) : h1 = h := funext (fun a => funext (fun i => fr_XX12_lacks e a i (fun hh => hh)))
theorem fg_XX12_joins_p159 {W : Nat → Nat → Prop} {h0 : Hp} (self2 : Int → Int → Int → Hp → OR) (hs_self2 : ∀ (y0 y1 y2 : Int) (hh : Hp), Ag W h0 hh → Fr W h0 (self2 y0 y1 y2 hh)) (l1 : Int) (l2 : Int) (l3 : Int) (hW : ∀ a i : Nat, (False) → W a i) (h : Hp) (ag_h : Ag W h0 h) : Fr W h0 (XX12_joins_p159 self2 l1 l2 l3 h) := by
  unfold XX12_joins_p159
  refine Fr_chk ?_
  exact hs_self2 _ _ _ _ ag_h
theorem fg_XX12_joins_p153 {W : Nat → Nat → Prop} {h0 : Hp} (self2 : Int → Int → Int → Hp → OR) (hs_self2 : ∀ (y0 y1 y2 : Int) (hh : Hp), Ag W h0 hh → Fr W h0 (self2 y0 y1 y2 hh)) (self43 : Int → Int → Int → Int → Hp → OR) (hs_self43 : ∀ (y0 y1 y2 y3 : Int) (hh : Hp), Ag W h0 hh → Fr W h0 (self43 y0 y1 y2 y3 hh)) (l1 : Int) (l2 : Int) (l3 : Int) (l4 : Int) (hW : ∀ a i : Nat, (False) → W a i) (h : Hp) (ag_h : Ag W h0 h) : Fr W h0 (XX12_joins_p153 self2 self43 l1 l2 l3 l4 h) := by
  unfold XX12_joins_p153
  refine Fr_chk ?_
  exact hs_self43 _ _ _ _ _ ag_h
theorem fg_XX12_joins_p146 {W : Nat → Nat → Prop} {h0 : Hp} (self2 : Int → Int → Int → Hp → OR) (hs_self2 : ∀ (y0 y1 y2 : Int) (hh : Hp), Ag W h0 hh → Fr W h0 (self2 y0 y1 y2 hh)) (self43 : Int → Int → Int → Int → Hp → OR) (hs_self43 : ∀ (y0 y1 y2 y3 : Int) (hh : Hp), Ag W h0 hh → Fr W h0 (self43 y0 y1 y2 y3 hh)) (self71 : Int → Int → Int → Int → Int → Hp → OR) (hs_self71 : ∀ (y0 y1 y2 y3 y4 : Int) (hh : Hp), Ag W h0 hh → Fr W h0 (self71 y0 y1 y2 y3 y4 hh)) (l1 : Int) (l2 : Int) (l3 : Int) (l4 : Int) (l5 : Int) (s1 : Int) (s2 : Int) (hW : ∀ a i : Nat, (a = 191) → W a i) (h : Hp) (ag_h : Ag W h0 h) : Fr W h0 (XX12_joins_p146 self2 self43 self71 l1 l2 l3 l4 l5 s1 s2 h) := by
  unfold XX12_joins_p146
  refine Fr_inb ?_
  refine Fr_wr ag_h (hW _ _ (by omega)) (fun h3 ag_h3 => ?_)
  refine Fr_chk ?_
  exact hs_self71 _ _ _ _ _ _ ag_h3
theorem fg_XX12_joins_b71 {W : Nat → Nat → Prop} {h0 : Hp} (self2 : Int → Int → Int → Hp → OR) (hs_self2 : ∀ (y0 y1 y2 : Int) (hh : Hp), Ag W h0 hh → Fr W h0 (self2 y0 y1 y2 hh)) (self43 : Int → Int → Int → Int → Hp → OR) (hs_self43 : ∀ (y0 y1 y2 y3 : Int) (hh : Hp), Ag W h0 hh → Fr W h0 (self43 y0 y1 y2 y3 hh)) (self71 : Int → Int → Int → Int → Int → Hp → OR) (hs_self71 : ∀ (y0 y1 y2 y3 y4 : Int) (hh : Hp), Ag W h0 hh → Fr W h0 (self71 y0 y1 y2 y3 y4 hh)) (l1 : Int) (l2 : Int) (l3 : Int) (l4 : Int) (l5 : Int) (hW : ∀ a i : Nat, (a = 191) → W a i) (h : Hp) (ag_h : Ag W h0 h) : Fr W h0 (XX12_joins_b71 self2 self43 self71 l1 l2 l3 l4 l5 h) := by
  unfold XX12_joins_b71
  refine Fr_ite ?_ ?_
  · exact fg_XX12_joins_p153 _ hs_self2 _ hs_self43 _ _ _ _ (fun a i hh => hh.elim) _ ag_h
  · refine Fr_inb ?_
    refine Fr_ite ?_ ?_
    · exact fg_XX12_joins_p153 _ hs_self2 _ hs_self43 _ _ _ _ (fun a i hh => hh.elim) _ ag_h
    · refine Fr_inb ?_
      refine Fr_inb ?_
      refine Fr_chk ?_
      refine Fr_chk ?_
      refine Fr_ite ?_ ?_
      · refine Fr_cal (fg_XX12_joined _ _ _ _ (fun a i hh => hh.elim) _ ag_h) (fun r1 h2 ag_h2 => ?_)
        refine Fr_inb ?_
        refine Fr_ite ?_ ?_
        · exact fg_XX12_joins_p146 _ hs_self2 _ hs_self43 _ hs_self71 _ _ _ _ _ _ _ (fun a i hh => hW a i (by omega)) _ ag_h2
        · refine Fr_inb ?_
          exact fg_XX12_joins_p146 _ hs_self2 _ hs_self43 _ hs_self71 _ _ _ _ _ _ _ (fun a i hh => hW a i (by omega)) _ ag_h2
      · exact fg_XX12_joins_p153 _ hs_self2 _ hs_self43 _ _ _ _ (fun a i hh => hh.elim) _ ag_h
theorem fg_XX12_joins_L71 {W : Nat → Nat → Prop} {h0 : Hp} (self2 : Int → Int → Int → Hp → OR) (hs_self2 : ∀ (y0 y1 y2 : Int) (hh : Hp), Ag W h0 hh → Fr W h0 (self2 y0 y1 y2 hh)) (self43 : Int → Int → Int → Int → Hp → OR) (hs_self43 : ∀ (y0 y1 y2 y3 : Int) (hh : Hp), Ag W h0 hh → Fr W h0 (self43 y0 y1 y2 y3 hh)) (l1 : Int) (l2 : Int) (l3 : Int) (l4 : Int) (l5 : Int) (hW : ∀ a i : Nat, (a = 191) → W a i) (h : Hp) (ag_h : Ag W h0 h) : Fr W h0 (XX12_joins_L71 self2 self43 l1 l2 l3 l4 l5 h) := by
  unfold XX12_joins_L71
  exact Fr_lup5 (fun self hs z0 z1 z2 z3 z4 hh ag => fg_XX12_joins_b71 self2 hs_self2 self43 hs_self43 self hs z0 z1 z2 z3 z4 hW hh ag) FU _ _ _ _ _ _ ag_h
theorem fg_XX12_joins_b43 {W : Nat → Nat → Prop} {h0 : Hp} (self2 : Int → Int → Int → Hp → OR) (hs_self2 : ∀ (y0 y1 y2 : Int) (hh : Hp), Ag W h0 hh → Fr W h0 (self2 y0 y1 y2 hh)) (self43 : Int → Int → Int → Int → Hp → OR) (hs_self43 : ∀ (y0 y1 y2 y3 : Int) (hh : Hp), Ag W h0 hh → Fr W h0 (self43 y0 y1 y2 y3 hh)) (l1 : Int) (l2 : Int) (l3 : Int) (l4 : Int) (hW : ∀ a i : Nat, (a = 191) → W a i) (h : Hp) (ag_h : Ag W h0 h) : Fr W h0 (XX12_joins_b43 self2 self43 l1 l2 l3 l4 h) := by
  unfold XX12_joins_b43
  refine Fr_ite ?_ ?_
  · exact fg_XX12_joins_p159 _ hs_self2 _ _ _ (fun a i hh => hh.elim) _ ag_h
  · refine Fr_inb ?_
    refine Fr_ite ?_ ?_
    · exact fg_XX12_joins_p159 _ hs_self2 _ _ _ (fun a i hh => hh.elim) _ ag_h
    · refine Fr_inb ?_
      refine Fr_ite ?_ ?_
      · exact fg_XX12_joins_p159 _ hs_self2 _ _ _ (fun a i hh => hh.elim) _ ag_h
      · exact fg_XX12_joins_L71 _ hs_self2 _ hs_self43 _ _ _ _ _ (fun a i hh => hW a i (by omega)) _ ag_h
theorem fg_XX12_joins_L43 {W : Nat → Nat → Prop} {h0 : Hp} (self2 : Int → Int → Int → Hp → OR) (hs_self2 : ∀ (y0 y1 y2 : Int) (hh : Hp), Ag W h0 hh → Fr W h0 (self2 y0 y1 y2 hh)) (l1 : Int) (l2 : Int) (l3 : Int) (l4 : Int) (hW : ∀ a i : Nat, (a = 191) → W a i) (h : Hp) (ag_h : Ag W h0 h) : Fr W h0 (XX12_joins_L43 self2 l1 l2 l3 l4 h) := by
  unfold XX12_joins_L43
  exact Fr_lup4 (fun self hs z0 z1 z2 z3 hh ag => fg_XX12_joins_b43 self2 hs_self2 self hs z0 z1 z2 z3 hW hh ag) FU _ _ _ _ _ ag_h
theorem fg_XX12_joins_p40 {W : Nat → Nat → Prop} {h0 : Hp} (self2 : Int → Int → Int → Hp → OR) (hs_self2 : ∀ (y0 y1 y2 : Int) (hh : Hp), Ag W h0 hh → Fr W h0 (self2 y0 y1 y2 hh)) (l1 : Int) (l2 : Int) (l3 : Int) (hW : ∀ a i : Nat, (a = 191) → W a i) (h : Hp) (ag_h : Ag W h0 h) : Fr W h0 (XX12_joins_p40 self2 l1 l2 l3 h) := by
  unfold XX12_joins_p40
  exact fg_XX12_joins_L43 _ hs_self2 _ _ _ _ (fun a i hh => hW a i (by omega)) _ ag_h
theorem fg_XX12_joins_b2 {W : Nat → Nat → Prop} {h0 : Hp} (self2 : Int → Int → Int → Hp → OR) (hs_self2 : ∀ (y0 y1 y2 : Int) (hh : Hp), Ag W h0 hh → Fr W h0 (self2 y0 y1 y2 hh)) (l1 : Int) (l2 : Int) (l3 : Int) (hW : ∀ a i : Nat, (a = 191) → W a i) (h : Hp) (ag_h : Ag W h0 h) : Fr W h0 (XX12_joins_b2 self2 l1 l2 l3 h) := by
  unfold XX12_joins_b2
  refine Fr_ite ?_ ?_
  · exact Fr_some ag_h
  · refine Fr_inb ?_
    refine Fr_chk ?_
    refine Fr_ite ?_ ?_
    · refine Fr_inb ?_
      refine Fr_ite ?_ ?_
      · refine Fr_inb ?_
        refine Fr_wr ag_h (hW _ _ (by omega)) (fun h4 ag_h4 => ?_)
        exact fg_XX12_joins_p40 _ hs_self2 _ _ _ (fun a i hh => hW a i (by omega)) _ ag_h4
      · exact fg_XX12_joins_p40 _ hs_self2 _ _ _ (fun a i hh => hW a i (by omega)) _ ag_h
    · exact fg_XX12_joins_p40 _ hs_self2 _ _ _ (fun a i hh => hW a i (by omega)) _ ag_h
theorem fg_XX12_joins_L2 {W : Nat → Nat → Prop} {h0 : Hp} (l1 : Int) (l2 : Int) (l3 : Int) (hW : ∀ a i : Nat, (a = 191) → W a i) (h : Hp) (ag_h : Ag W h0 h) : Fr W h0 (XX12_joins_L2 l1 l2 l3 h) := by
  unfold XX12_joins_L2
  exact Fr_lup3 (fun self hs z0 z1 z2 hh ag => fg_XX12_joins_b2 self hs z0 z1 z2 hW hh ag) FU _ _ _ _ ag_h
theorem fg_XX12_joins {W : Nat → Nat → Prop} {h0 : Hp} (x0 : Int) (x1 : Int) (hW : ∀ a i : Nat, (a = 191) → W a i) (h : Hp) (ag_h : Ag W h0 h) : Fr W h0 (XX12_joins x0 x1 h) := by
  unfold XX12_joins
  exact fg_XX12_joins_L2 _ _ _ (fun a i hh => hW a i (by omega)) _ ag_h
theorem fr_XX12_joins {x0 : Int} {x1 : Int} {h : Hp} {r : Int} {h1 : Hp} (e : XX12_joins x0 x1 h = some (r, h1)) (a i : Nat) (hn : ¬ (a = 191)) : h1 a i = h a i := fg_XX12_joins (W := fun a i => a = 191) x0 x1 (fun _ _ hh => hh) h (fun _ _ _ => rfl) r h1 e a i hn
theorem fg_XX12_reckons_b135 {W : Nat → Nat → Prop} {h0 : Hp} (self135 : Int → Int → Int → Hp → OR) (hs_self135 : ∀ (y0 y1 y2 : Int) (hh : Hp), Ag W h0 hh → Fr W h0 (self135 y0 y1 y2 hh)) (l1 : Int) (l2 : Int) (l3 : Int) (hW : ∀ a i : Nat, (a = 191) → W a i) (h : Hp) (ag_h : Ag W h0 h) : Fr W h0 (XX12_reckons_b135 self135 l1 l2 l3 h) := by
  unfold XX12_reckons_b135
  refine Fr_ite ?_ ?_
  · exact Fr_some ag_h
  · refine Fr_chk ?_
    refine Fr_chk ?_
    refine Fr_inb ?_
    refine Fr_inb ?_
    refine Fr_wr ag_h (hW _ _ (by omega)) (fun h4 ag_h4 => ?_)
    refine Fr_chk ?_
    exact hs_self135 _ _ _ _ ag_h4
theorem fg_XX12_reckons_L135 {W : Nat → Nat → Prop} {h0 : Hp} (l1 : Int) (l2 : Int) (l3 : Int) (hW : ∀ a i : Nat, (a = 191) → W a i) (h : Hp) (ag_h : Ag W h0 h) : Fr W h0 (XX12_reckons_L135 l1 l2 l3 h) := by
  unfold XX12_reckons_L135
  exact Fr_lup3 (fun self hs z0 z1 z2 hh ag => fg_XX12_reckons_b135 self hs z0 z1 z2 hW hh ag) FU _ _ _ _ ag_h
theorem fg_XX12_reckons_p133 {W : Nat → Nat → Prop} {h0 : Hp} (l1 : Int) (l2 : Int) (hW : ∀ a i : Nat, (a = 191) → W a i) (h : Hp) (ag_h : Ag W h0 h) : Fr W h0 (XX12_reckons_p133 l1 l2 h) := by
  unfold XX12_reckons_p133
  exact fg_XX12_reckons_L135 _ _ _ (fun a i hh => hW a i (by omega)) _ ag_h
theorem fg_XX12_reckons_b104 {W : Nat → Nat → Prop} {h0 : Hp} (self104 : Int → Int → Int → Hp → OR) (hs_self104 : ∀ (y0 y1 y2 : Int) (hh : Hp), Ag W h0 hh → Fr W h0 (self104 y0 y1 y2 hh)) (l1 : Int) (l2 : Int) (l3 : Int) (hW : ∀ a i : Nat, (a = 191 ∨ a = 193) → W a i) (h : Hp) (ag_h : Ag W h0 h) : Fr W h0 (XX12_reckons_b104 self104 l1 l2 l3 h) := by
  unfold XX12_reckons_b104
  refine Fr_ite ?_ ?_
  · exact fg_XX12_reckons_p133 _ _ (fun a i hh => hW a i (Or.inl (by omega))) _ ag_h
  · refine Fr_chk ?_
    refine Fr_chk ?_
    refine Fr_inb ?_
    refine Fr_inb ?_
    refine Fr_wr ag_h (hW _ _ (Or.inr (by omega))) (fun h8 ag_h8 => ?_)
    refine Fr_chk ?_
    exact hs_self104 _ _ _ _ ag_h8
theorem fg_XX12_reckons_L104 {W : Nat → Nat → Prop} {h0 : Hp} (l1 : Int) (l2 : Int) (l3 : Int) (hW : ∀ a i : Nat, (a = 191 ∨ a = 193) → W a i) (h : Hp) (ag_h : Ag W h0 h) : Fr W h0 (XX12_reckons_L104 l1 l2 l3 h) := by
  unfold XX12_reckons_L104
  exact Fr_lup3 (fun self hs z0 z1 z2 hh ag => fg_XX12_reckons_b104 self hs z0 z1 z2 hW hh ag) FU _ _ _ _ ag_h
theorem fg_XX12_reckons_b82 {W : Nat → Nat → Prop} {h0 : Hp} (self82 : Int → Int → Int → Hp → OR) (hs_self82 : ∀ (y0 y1 y2 : Int) (hh : Hp), Ag W h0 hh → Fr W h0 (self82 y0 y1 y2 hh)) (l1 : Int) (l2 : Int) (l3 : Int) (hW : ∀ a i : Nat, (a = 191 ∨ a = 193) → W a i) (h : Hp) (ag_h : Ag W h0 h) : Fr W h0 (XX12_reckons_b82 self82 l1 l2 l3 h) := by
  unfold XX12_reckons_b82
  refine Fr_cal (fg_XX12_lacks _ (fun a i hh => hh.elim) _ ag_h) (fun r6 h7 ag_h7 => ?_)
  refine Fr_ite ?_ ?_
  · exact fg_XX12_reckons_L104 _ _ _ (fun a i hh => hW a i ((fun q => q.elim (fun q => Or.inl (by omega)) (fun q => Or.inr (by omega))) hh)) _ ag_h7
  · refine Fr_cal (fg_XX12_joins _ _ (fun a i hh => hW a i (Or.inl (by omega))) _ ag_h7) (fun r9 h10 ag_h10 => ?_)
    refine Fr_chk ?_
    exact hs_self82 _ _ _ _ ag_h10
theorem fg_XX12_reckons_L82 {W : Nat → Nat → Prop} {h0 : Hp} (l1 : Int) (l2 : Int) (l3 : Int) (hW : ∀ a i : Nat, (a = 191 ∨ a = 193) → W a i) (h : Hp) (ag_h : Ag W h0 h) : Fr W h0 (XX12_reckons_L82 l1 l2 l3 h) := by
  unfold XX12_reckons_L82
  exact Fr_lup3 (fun self hs z0 z1 z2 hh ag => fg_XX12_reckons_b82 self hs z0 z1 z2 hW hh ag) FU _ _ _ _ ag_h
theorem fg_XX12_reckons_b58 {W : Nat → Nat → Prop} {h0 : Hp} (self58 : Int → Int → Int → Hp → OR) (hs_self58 : ∀ (y0 y1 y2 : Int) (hh : Hp), Ag W h0 hh → Fr W h0 (self58 y0 y1 y2 hh)) (l1 : Int) (l2 : Int) (l3 : Int) (hW : ∀ a i : Nat, (a = 191 ∨ a = 193) → W a i) (h : Hp) (ag_h : Ag W h0 h) : Fr W h0 (XX12_reckons_b58 self58 l1 l2 l3 h) := by
  unfold XX12_reckons_b58
  refine Fr_ite ?_ ?_
  · exact fg_XX12_reckons_L82 _ _ _ (fun a i hh => hW a i ((fun q => q.elim (fun q => Or.inl (by omega)) (fun q => Or.inr (by omega))) hh)) _ ag_h
  · refine Fr_cal (fg_XX12_projection _ _ (fun a i hh => hh.elim) _ ag_h) (fun r11 h12 ag_h12 => ?_)
    refine Fr_inb ?_
    refine Fr_wr ag_h12 (hW _ _ (Or.inl (by omega))) (fun h13 ag_h13 => ?_)
    refine Fr_chk ?_
    exact hs_self58 _ _ _ _ ag_h13
theorem fg_XX12_reckons_L58 {W : Nat → Nat → Prop} {h0 : Hp} (l1 : Int) (l2 : Int) (l3 : Int) (hW : ∀ a i : Nat, (a = 191 ∨ a = 193) → W a i) (h : Hp) (ag_h : Ag W h0 h) : Fr W h0 (XX12_reckons_L58 l1 l2 l3 h) := by
  unfold XX12_reckons_L58
  exact Fr_lup3 (fun self hs z0 z1 z2 hh ag => fg_XX12_reckons_b58 self hs z0 z1 z2 hW hh ag) FU _ _ _ _ ag_h
theorem fg_XX12_reckons_p49 {W : Nat → Nat → Prop} {h0 : Hp} (self25 : Int → Int → Int → Hp → OR) (hs_self25 : ∀ (y0 y1 y2 : Int) (hh : Hp), Ag W h0 hh → Fr W h0 (self25 y0 y1 y2 hh)) (l1 : Int) (l2 : Int) (l3 : Int) (s1 : Int) (s2 : Int) (hW : ∀ a i : Nat, (a = 191) → W a i) (h : Hp) (ag_h : Ag W h0 h) : Fr W h0 (XX12_reckons_p49 self25 l1 l2 l3 s1 s2 h) := by
  unfold XX12_reckons_p49
  refine Fr_inb ?_
  refine Fr_wr ag_h (hW _ _ (by omega)) (fun h14 ag_h14 => ?_)
  refine Fr_chk ?_
  exact hs_self25 _ _ _ _ ag_h14
theorem fg_XX12_reckons_p44 {W : Nat → Nat → Prop} {h0 : Hp} (self25 : Int → Int → Int → Hp → OR) (hs_self25 : ∀ (y0 y1 y2 : Int) (hh : Hp), Ag W h0 hh → Fr W h0 (self25 y0 y1 y2 hh)) (l1 : Int) (l2 : Int) (l3 : Int) (s1 : Int) (hW : ∀ a i : Nat, (a = 191) → W a i) (h : Hp) (ag_h : Ag W h0 h) : Fr W h0 (XX12_reckons_p44 self25 l1 l2 l3 s1 h) := by
  unfold XX12_reckons_p44
  exact fg_XX12_reckons_p49 _ hs_self25 _ _ _ _ _ (fun a i hh => hW a i (by omega)) _ ag_h
theorem fg_XX12_reckons_b25 {W : Nat → Nat → Prop} {h0 : Hp} (self25 : Int → Int → Int → Hp → OR) (hs_self25 : ∀ (y0 y1 y2 : Int) (hh : Hp), Ag W h0 hh → Fr W h0 (self25 y0 y1 y2 hh)) (l1 : Int) (l2 : Int) (l3 : Int) (hW : ∀ a i : Nat, (a = 191 ∨ a = 193) → W a i) (h : Hp) (ag_h : Ag W h0 h) : Fr W h0 (XX12_reckons_b25 self25 l1 l2 l3 h) := by
  unfold XX12_reckons_b25
  refine Fr_ite ?_ ?_
  · exact fg_XX12_reckons_L58 _ _ _ (fun a i hh => hW a i ((fun q => q.elim (fun q => Or.inl (by omega)) (fun q => Or.inr (by omega))) hh)) _ ag_h
  · refine Fr_ite ?_ ?_
    · exact fg_XX12_reckons_p44 _ hs_self25 _ _ _ _ (fun a i hh => hW a i (Or.inl (by omega))) _ ag_h
    · refine Fr_ite ?_ ?_
      · exact fg_XX12_reckons_p44 _ hs_self25 _ _ _ _ (fun a i hh => hW a i (Or.inl (by omega))) _ ag_h
      · exact fg_XX12_reckons_p49 _ hs_self25 _ _ _ _ _ (fun a i hh => hW a i (Or.inl (by omega))) _ ag_h
theorem fg_XX12_reckons_L25 {W : Nat → Nat → Prop} {h0 : Hp} (l1 : Int) (l2 : Int) (l3 : Int) (hW : ∀ a i : Nat, (a = 191 ∨ a = 193) → W a i) (h : Hp) (ag_h : Ag W h0 h) : Fr W h0 (XX12_reckons_L25 l1 l2 l3 h) := by
  unfold XX12_reckons_L25
  exact Fr_lup3 (fun self hs z0 z1 z2 hh ag => fg_XX12_reckons_b25 self hs z0 z1 z2 hW hh ag) FU _ _ _ _ ag_h
theorem fg_XX12_reckons {W : Nat → Nat → Prop} {h0 : Hp} (x0 : Int) (hW : ∀ a i : Nat, ((191 ≤ a ∧ a ≤ 193)) → W a i) (h : Hp) (ag_h : Ag W h0 h) : Fr W h0 (XX12_reckons x0 h) := by
  unfold XX12_reckons
  refine Fr_cal (fg_XX12_functions _ (fun a i hh => hh.elim) _ ag_h) (fun r1 h2 ag_h2 => ?_)
  refine Fr_chk ?_
  refine Fr_nm (fun v3 => ?_)
  refine Fr_inb ?_
  refine Fr_ite ?_ ?_
  · refine Fr_inb ?_
    refine Fr_zb ?_
    refine Fr_wr ag_h2 (hW _ _ (by omega)) (fun h5 ag_h5 => ?_)
    exact fg_XX12_reckons_L25 _ _ _ (fun a i hh => hW a i ((fun q => q.elim (fun q => by omega) (fun q => by omega)) hh)) _ ag_h5
  · exact fg_XX12_reckons_p133 _ _ (fun a i hh => hW a i (by omega)) _ ag_h2
theorem fr_XX12_reckons {x0 : Int} {h : Hp} {r : Int} {h1 : Hp} (e : XX12_reckons x0 h = some (r, h1)) (a i : Nat) (hn : ¬ ((191 ≤ a ∧ a ≤ 193))) : h1 a i = h a i := fg_XX12_reckons (W := fun a i => (191 ≤ a ∧ a ≤ 193)) x0 (fun _ _ hh => hh) h (fun _ _ _ => rfl) r h1 e a i hn
theorem fg_XX12_grows {W : Nat → Nat → Prop} {h0 : Hp} (x0 : Int) (x1 : Int) (x2 : Int) (x3 : Int) (hW : ∀ a i : Nat, ((162 ≤ a ∧ a ≤ 166) ∨ (a = 143 ∧ i = 27)) → W a i) (h : Hp) (ag_h : Ag W h0 h) : Fr W h0 (XX12_grows x0 x1 x2 x3 h) := by
  unfold XX12_grows
  refine Fr_inb ?_
  refine Fr_wr ag_h (hW _ _ (Or.inl (by omega))) (fun h1 ag_h1 => ?_)
  refine Fr_inb ?_
  refine Fr_wr ag_h1 (hW _ _ (Or.inl (by omega))) (fun h2 ag_h2 => ?_)
  refine Fr_inb ?_
  refine Fr_wr ag_h2 (hW _ _ (Or.inl (by omega))) (fun h3 ag_h3 => ?_)
  refine Fr_inb ?_
  refine Fr_wr ag_h3 (hW _ _ (Or.inl (by omega))) (fun h4 ag_h4 => ?_)
  refine Fr_inb ?_
  refine Fr_wr ag_h4 (hW _ _ (Or.inl (by omega))) (fun h5 ag_h5 => ?_)
  refine Fr_chk ?_
  refine Fr_wr ag_h5 (hW _ _ (Or.inr (by omega))) (fun h6 ag_h6 => ?_)
  refine Fr_chk ?_
  exact Fr_some ag_h6
theorem fr_XX12_grows {x0 : Int} {x1 : Int} {x2 : Int} {x3 : Int} {h : Hp} {r : Int} {h1 : Hp} (e : XX12_grows x0 x1 x2 x3 h = some (r, h1)) (a i : Nat) (hn : ¬ ((162 ≤ a ∧ a ≤ 166) ∨ (a = 143 ∧ i = 27))) : h1 a i = h a i := fg_XX12_grows (W := fun a i => (162 ≤ a ∧ a ≤ 166) ∨ (a = 143 ∧ i = 27)) x0 x1 x2 x3 (fun _ _ hh => hh) h (fun _ _ _ => rfl) r h1 e a i hn
theorem fg_XX12_trees_p18 {W : Nat → Nat → Prop} {h0 : Hp} (rec : Int → Int → Int → Hp → OR) (hs_rec : ∀ (y0 y1 y2 : Int) (hh : Hp), Ag W h0 hh → Fr W h0 (rec y0 y1 y2 hh)) (l2 : Int) (hW : ∀ a i : Nat, (False) → W a i) (h : Hp) (ag_h : Ag W h0 h) : Fr W h0 (XX12_trees_p18 rec l2 h) := by
  unfold XX12_trees_p18
  refine Fr_ite ?_ ?_
  · exact Fr_some ag_h
  · exact Fr_some ag_h
theorem fg_XX12_trees_p204 {W : Nat → Nat → Prop} {h0 : Hp} (rec : Int → Int → Int → Hp → OR) (hs_rec : ∀ (y0 y1 y2 : Int) (hh : Hp), Ag W h0 hh → Fr W h0 (rec y0 y1 y2 hh)) (self105 : Int → Int → Int → Int → Int → Hp → OR) (hs_self105 : ∀ (y0 y1 y2 y3 y4 : Int) (hh : Hp), Ag W h0 hh → Fr W h0 (self105 y0 y1 y2 y3 y4 hh)) (self114 : Int → Int → Int → Int → Int → Int → Hp → OR) (hs_self114 : ∀ (y0 y1 y2 y3 y4 y5 : Int) (hh : Hp), Ag W h0 hh → Fr W h0 (self114 y0 y1 y2 y3 y4 y5 hh)) (self124 : Int → Int → Int → Int → Int → Int → Int → Hp → OR) (hs_self124 : ∀ (y0 y1 y2 y3 y4 y5 y6 : Int) (hh : Hp), Ag W h0 hh → Fr W h0 (self124 y0 y1 y2 y3 y4 y5 y6 hh)) (l1 : Int) (l2 : Int) (l3 : Int) (l4 : Int) (l5 : Int) (l6 : Int) (l7 : Int) (hW : ∀ a i : Nat, (False) → W a i) (h : Hp) (ag_h : Ag W h0 h) : Fr W h0 (XX12_trees_p204 rec self105 self114 self124 l1 l2 l3 l4 l5 l6 l7 h) := by
  unfold XX12_trees_p204
  refine Fr_chk ?_
  exact hs_self124 _ _ _ _ _ _ _ _ ag_h
theorem fg_XX12_trees_b124 {W : Nat → Nat → Prop} {h0 : Hp} (rec : Int → Int → Int → Hp → OR) (hs_rec : ∀ (y0 y1 y2 : Int) (hh : Hp), Ag W h0 hh → Fr W h0 (rec y0 y1 y2 hh)) (self105 : Int → Int → Int → Int → Int → Hp → OR) (hs_self105 : ∀ (y0 y1 y2 y3 y4 : Int) (hh : Hp), Ag W h0 hh → Fr W h0 (self105 y0 y1 y2 y3 y4 hh)) (self114 : Int → Int → Int → Int → Int → Int → Hp → OR) (hs_self114 : ∀ (y0 y1 y2 y3 y4 y5 : Int) (hh : Hp), Ag W h0 hh → Fr W h0 (self114 y0 y1 y2 y3 y4 y5 hh)) (self124 : Int → Int → Int → Int → Int → Int → Int → Hp → OR) (hs_self124 : ∀ (y0 y1 y2 y3 y4 y5 y6 : Int) (hh : Hp), Ag W h0 hh → Fr W h0 (self124 y0 y1 y2 y3 y4 y5 y6 hh)) (l1 : Int) (l2 : Int) (l3 : Int) (l4 : Int) (l5 : Int) (l6 : Int) (l7 : Int) (hW : ∀ a i : Nat, ((162 ≤ a ∧ a ≤ 166) ∨ (a = 143 ∧ i = 27)) → W a i) (h : Hp) (ag_h : Ag W h0 h) : Fr W h0 (XX12_trees_b124 rec self105 self114 self124 l1 l2 l3 l4 l5 l6 l7 h) := by
  unfold XX12_trees_b124
  refine Fr_ite ?_ ?_
  · refine Fr_chk ?_
    exact hs_self114 _ _ _ _ _ _ _ ag_h
  · refine Fr_inb ?_
    refine Fr_inb ?_
    refine Fr_chk ?_
    refine Fr_inb ?_
    refine Fr_chk ?_
    refine Fr_ite ?_ ?_
    · refine Fr_cal (fg_XX12_joined _ _ _ _ (fun a i hh => hh.elim) _ ag_h) (fun r4 h5 ag_h5 => ?_)
      refine Fr_ite ?_ ?_
      · refine Fr_cal (hs_rec _ _ _ _ ag_h5) (fun r6 h7 ag_h7 => ?_)
        refine Fr_cal (hs_rec _ _ _ _ ag_h7) (fun r8 h9 ag_h9 => ?_)
        refine Fr_cal (fg_XX12_grows _ _ _ _ (fun a i hh => hW a i ((fun q => q.elim (fun q => Or.inl (by omega)) (fun q => Or.inr (by omega))) hh)) _ ag_h9) (fun r10 h11 ag_h11 => ?_)
        exact Fr_some ag_h11
      · exact fg_XX12_trees_p204 _ hs_rec _ hs_self105 _ hs_self114 _ hs_self124 _ _ _ _ _ _ _ (fun a i hh => hh.elim) _ ag_h5
    · exact fg_XX12_trees_p204 _ hs_rec _ hs_self105 _ hs_self114 _ hs_self124 _ _ _ _ _ _ _ (fun a i hh => hh.elim) _ ag_h
theorem fg_XX12_trees_L124 {W : Nat → Nat → Prop} {h0 : Hp} (rec : Int → Int → Int → Hp → OR) (hs_rec : ∀ (y0 y1 y2 : Int) (hh : Hp), Ag W h0 hh → Fr W h0 (rec y0 y1 y2 hh)) (self105 : Int → Int → Int → Int → Int → Hp → OR) (hs_self105 : ∀ (y0 y1 y2 y3 y4 : Int) (hh : Hp), Ag W h0 hh → Fr W h0 (self105 y0 y1 y2 y3 y4 hh)) (self114 : Int → Int → Int → Int → Int → Int → Hp → OR) (hs_self114 : ∀ (y0 y1 y2 y3 y4 y5 : Int) (hh : Hp), Ag W h0 hh → Fr W h0 (self114 y0 y1 y2 y3 y4 y5 hh)) (l1 : Int) (l2 : Int) (l3 : Int) (l4 : Int) (l5 : Int) (l6 : Int) (l7 : Int) (hW : ∀ a i : Nat, ((162 ≤ a ∧ a ≤ 166) ∨ (a = 143 ∧ i = 27)) → W a i) (h : Hp) (ag_h : Ag W h0 h) : Fr W h0 (XX12_trees_L124 rec self105 self114 l1 l2 l3 l4 l5 l6 l7 h) := by
  unfold XX12_trees_L124
  exact Fr_lup7 (fun self hs z0 z1 z2 z3 z4 z5 z6 hh ag => fg_XX12_trees_b124 rec hs_rec self105 hs_self105 self114 hs_self114 self hs z0 z1 z2 z3 z4 z5 z6 hW hh ag) FU _ _ _ _ _ _ _ _ ag_h
theorem fg_XX12_trees_b114 {W : Nat → Nat → Prop} {h0 : Hp} (rec : Int → Int → Int → Hp → OR) (hs_rec : ∀ (y0 y1 y2 : Int) (hh : Hp), Ag W h0 hh → Fr W h0 (rec y0 y1 y2 hh)) (self105 : Int → Int → Int → Int → Int → Hp → OR) (hs_self105 : ∀ (y0 y1 y2 y3 y4 : Int) (hh : Hp), Ag W h0 hh → Fr W h0 (self105 y0 y1 y2 y3 y4 hh)) (self114 : Int → Int → Int → Int → Int → Int → Hp → OR) (hs_self114 : ∀ (y0 y1 y2 y3 y4 y5 : Int) (hh : Hp), Ag W h0 hh → Fr W h0 (self114 y0 y1 y2 y3 y4 y5 hh)) (l1 : Int) (l2 : Int) (l3 : Int) (l4 : Int) (l5 : Int) (l6 : Int) (hW : ∀ a i : Nat, ((162 ≤ a ∧ a ≤ 166) ∨ (a = 143 ∧ i = 27)) → W a i) (h : Hp) (ag_h : Ag W h0 h) : Fr W h0 (XX12_trees_b114 rec self105 self114 l1 l2 l3 l4 l5 l6 h) := by
  unfold XX12_trees_b114
  refine Fr_ite ?_ ?_
  · refine Fr_chk ?_
    exact hs_self105 _ _ _ _ _ _ ag_h
  · exact fg_XX12_trees_L124 _ hs_rec _ hs_self105 _ hs_self114 _ _ _ _ _ _ _ (fun a i hh => hW a i ((fun q => q.elim (fun q => Or.inl (by omega)) (fun q => Or.inr (by omega))) hh)) _ ag_h
theorem fg_XX12_trees_L114 {W : Nat → Nat → Prop} {h0 : Hp} (rec : Int → Int → Int → Hp → OR) (hs_rec : ∀ (y0 y1 y2 : Int) (hh : Hp), Ag W h0 hh → Fr W h0 (rec y0 y1 y2 hh)) (self105 : Int → Int → Int → Int → Int → Hp → OR) (hs_self105 : ∀ (y0 y1 y2 y3 y4 : Int) (hh : Hp), Ag W h0 hh → Fr W h0 (self105 y0 y1 y2 y3 y4 hh)) (l1 : Int) (l2 : Int) (l3 : Int) (l4 : Int) (l5 : Int) (l6 : Int) (hW : ∀ a i : Nat, ((162 ≤ a ∧ a ≤ 166) ∨ (a = 143 ∧ i = 27)) → W a i) (h : Hp) (ag_h : Ag W h0 h) : Fr W h0 (XX12_trees_L114 rec self105 l1 l2 l3 l4 l5 l6 h) := by
  unfold XX12_trees_L114
  exact Fr_lup6 (fun self hs z0 z1 z2 z3 z4 z5 hh ag => fg_XX12_trees_b114 rec hs_rec self105 hs_self105 self hs z0 z1 z2 z3 z4 z5 hW hh ag) FU _ _ _ _ _ _ _ ag_h
theorem fg_XX12_trees_b105 {W : Nat → Nat → Prop} {h0 : Hp} (rec : Int → Int → Int → Hp → OR) (hs_rec : ∀ (y0 y1 y2 : Int) (hh : Hp), Ag W h0 hh → Fr W h0 (rec y0 y1 y2 hh)) (self105 : Int → Int → Int → Int → Int → Hp → OR) (hs_self105 : ∀ (y0 y1 y2 y3 y4 : Int) (hh : Hp), Ag W h0 hh → Fr W h0 (self105 y0 y1 y2 y3 y4 hh)) (l1 : Int) (l2 : Int) (l3 : Int) (l4 : Int) (l5 : Int) (hW : ∀ a i : Nat, ((162 ≤ a ∧ a ≤ 166) ∨ (a = 143 ∧ i = 27)) → W a i) (h : Hp) (ag_h : Ag W h0 h) : Fr W h0 (XX12_trees_b105 rec self105 l1 l2 l3 l4 l5 h) := by
  unfold XX12_trees_b105
  refine Fr_ite ?_ ?_
  · exact Fr_some ag_h
  · exact fg_XX12_trees_L114 _ hs_rec _ hs_self105 _ _ _ _ _ _ (fun a i hh => hW a i ((fun q => q.elim (fun q => Or.inl (by omega)) (fun q => Or.inr (by omega))) hh)) _ ag_h
theorem fg_XX12_trees_L105 {W : Nat → Nat → Prop} {h0 : Hp} (rec : Int → Int → Int → Hp → OR) (hs_rec : ∀ (y0 y1 y2 : Int) (hh : Hp), Ag W h0 hh → Fr W h0 (rec y0 y1 y2 hh)) (l1 : Int) (l2 : Int) (l3 : Int) (l4 : Int) (l5 : Int) (hW : ∀ a i : Nat, ((162 ≤ a ∧ a ≤ 166) ∨ (a = 143 ∧ i = 27)) → W a i) (h : Hp) (ag_h : Ag W h0 h) : Fr W h0 (XX12_trees_L105 rec l1 l2 l3 l4 l5 h) := by
  unfold XX12_trees_L105
  exact Fr_lup5 (fun self hs z0 z1 z2 z3 z4 hh ag => fg_XX12_trees_b105 rec hs_rec self hs z0 z1 z2 z3 z4 hW hh ag) FU _ _ _ _ _ _ ag_h
theorem fg_XX12_trees_b35 {W : Nat → Nat → Prop} {h0 : Hp} (rec : Int → Int → Int → Hp → OR) (hs_rec : ∀ (y0 y1 y2 : Int) (hh : Hp), Ag W h0 hh → Fr W h0 (rec y0 y1 y2 hh)) (self35 : Int → Int → Int → Int → Int → Hp → OR) (hs_self35 : ∀ (y0 y1 y2 y3 y4 : Int) (hh : Hp), Ag W h0 hh → Fr W h0 (self35 y0 y1 y2 y3 y4 hh)) (l1 : Int) (l2 : Int) (l3 : Int) (l4 : Int) (l5 : Int) (hW : ∀ a i : Nat, ((162 ≤ a ∧ a ≤ 166) ∨ (a = 143 ∧ i = 27)) → W a i) (h : Hp) (ag_h : Ag W h0 h) : Fr W h0 (XX12_trees_b35 rec self35 l1 l2 l3 l4 l5 h) := by
  unfold XX12_trees_b35
  refine Fr_ite ?_ ?_
  · refine Fr_inb ?_
    refine Fr_inb ?_
    refine Fr_chk ?_
    refine Fr_ite ?_ ?_
    · refine Fr_cal (hs_rec _ _ _ _ ag_h) (fun r12 h13 ag_h13 => ?_)
      refine Fr_cal (fg_XX12_grows _ _ _ _ (fun a i hh => hW a i ((fun q => q.elim (fun q => Or.inl (by omega)) (fun q => Or.inr (by omega))) hh)) _ ag_h13) (fun r14 h15 ag_h15 => ?_)
      exact Fr_some ag_h15
    · exact fg_XX12_trees_L105 _ hs_rec _ _ _ _ _ (fun a i hh => hW a i ((fun q => q.elim (fun q => Or.inl (by omega)) (fun q => Or.inr (by omega))) hh)) _ ag_h
  · refine Fr_cal (fg_XX12_projection _ _ (fun a i hh => hh.elim) _ ag_h) (fun r16 h17 ag_h17 => ?_)
    refine Fr_ite ?_ ?_
    · refine Fr_chk ?_
      exact Fr_some ag_h17
    · refine Fr_chk ?_
      exact hs_self35 _ _ _ _ _ _ ag_h17
theorem fg_XX12_trees_L35 {W : Nat → Nat → Prop} {h0 : Hp} (rec : Int → Int → Int → Hp → OR) (hs_rec : ∀ (y0 y1 y2 : Int) (hh : Hp), Ag W h0 hh → Fr W h0 (rec y0 y1 y2 hh)) (l1 : Int) (l2 : Int) (l3 : Int) (l4 : Int) (l5 : Int) (hW : ∀ a i : Nat, ((162 ≤ a ∧ a ≤ 166) ∨ (a = 143 ∧ i = 27)) → W a i) (h : Hp) (ag_h : Ag W h0 h) : Fr W h0 (XX12_trees_L35 rec l1 l2 l3 l4 l5 h) := by
  unfold XX12_trees_L35
  exact Fr_lup5 (fun self hs z0 z1 z2 z3 z4 hh ag => fg_XX12_trees_b35 rec hs_rec self hs z0 z1 z2 z3 z4 hW hh ag) FU _ _ _ _ _ _ ag_h
theorem fg_XX12_trees_r {W : Nat → Nat → Prop} {h0 : Hp} (rec : Int → Int → Int → Hp → OR) (hs_rec : ∀ (y0 y1 y2 : Int) (hh : Hp), Ag W h0 hh → Fr W h0 (rec y0 y1 y2 hh)) (x0 : Int) (x1 : Int) (x2 : Int) (hW : ∀ a i : Nat, ((162 ≤ a ∧ a ≤ 166) ∨ (a = 143 ∧ i = 27)) → W a i) (h : Hp) (ag_h : Ag W h0 h) : Fr W h0 (XX12_trees_r rec x0 x1 x2 h) := by
  unfold XX12_trees_r
  refine Fr_cal (fg_XX12_functions _ (fun a i hh => hh.elim) _ ag_h) (fun r1 h2 ag_h2 => ?_)
  refine Fr_chk ?_
  refine Fr_nm (fun v3 => ?_)
  refine Fr_ite ?_ ?_
  · exact fg_XX12_trees_p18 _ hs_rec _ (fun a i hh => hh.elim) _ ag_h2
  · refine Fr_ite ?_ ?_
    · exact fg_XX12_trees_p18 _ hs_rec _ (fun a i hh => hh.elim) _ ag_h2
    · exact fg_XX12_trees_L35 _ hs_rec _ _ _ _ _ (fun a i hh => hW a i ((fun q => q.elim (fun q => Or.inl (by omega)) (fun q => Or.inr (by omega))) hh)) _ ag_h2
theorem fg_XX12_trees {W : Nat → Nat → Prop} {h0 : Hp} (hW : ∀ a i : Nat, ((162 ≤ a ∧ a ≤ 166) ∨ (a = 143 ∧ i = 27)) → W a i) (n : Nat) : ∀ (x0 x1 x2 : Int) (h : Hp) (ag_h : Ag W h0 h), Fr W h0 (XX12_trees n x0 x1 x2 h) := by
  induction n with
  | zero => intro x0 x1 x2 h _ r h1 e; exact absurd e (by simp [XX12_trees])
  | succ n ih => intro x0 x1 x2 h ag_h; exact fg_XX12_trees_r (XX12_trees n) ih x0 x1 x2 hW h ag_h
theorem fr_XX12_trees {n : Nat} {x0 : Int} {x1 : Int} {x2 : Int} {h : Hp} {r : Int} {h1 : Hp} (e : XX12_trees n x0 x1 x2 h = some (r, h1)) (a i : Nat) (hn : ¬ ((162 ≤ a ∧ a ≤ 166) ∨ (a = 143 ∧ i = 27))) : h1 a i = h a i := fg_XX12_trees (W := fun a i => (162 ≤ a ∧ a ≤ 166) ∨ (a = 143 ∧ i = 27)) (fun _ _ hh => hh) n x0 x1 x2 h (fun _ _ _ => rfl) r h1 e a i hn
theorem fg_XX12_cost {W : Nat → Nat → Prop} {h0 : Hp} (x0 : Int) (x1 : Int) (hW : ∀ a i : Nat, ((191 ≤ a ∧ a ≤ 193)) → W a i) (h : Hp) (ag_h : Ag W h0 h) : Fr W h0 (XX12_cost x0 x1 h) := by
  unfold XX12_cost
  refine Fr_cal (fg_XX12_in _ _ _ (fun a i hh => hh.elim) _ ag_h) (fun r1 h2 ag_h2 => ?_)
  refine Fr_ite ?_ ?_
  · exact Fr_some ag_h2
  · refine Fr_cal (fg_XX12_functions _ (fun a i hh => hh.elim) _ ag_h2) (fun r3 h4 ag_h4 => ?_)
    refine Fr_chk ?_
    refine Fr_cal (fg_XX12_in _ _ _ (fun a i hh => hh.elim) _ ag_h4) (fun r5 h6 ag_h6 => ?_)
    refine Fr_ite ?_ ?_
    · exact Fr_some ag_h6
    · refine Fr_cal (fg_XX12_reckons _ (fun a i hh => hW a i (by omega)) _ ag_h6) (fun r7 h8 ag_h8 => ?_)
      refine Fr_inb ?_
      exact Fr_some ag_h8
theorem fr_XX12_cost {x0 : Int} {x1 : Int} {h : Hp} {r : Int} {h1 : Hp} (e : XX12_cost x0 x1 h = some (r, h1)) (a i : Nat) (hn : ¬ ((191 ≤ a ∧ a ≤ 193))) : h1 a i = h a i := fg_XX12_cost (W := fun a i => (191 ≤ a ∧ a ≤ 193)) x0 x1 (fun _ _ hh => hh) h (fun _ _ _ => rfl) r h1 e a i hn
theorem fg_XX12_pattern_p36 {W : Nat → Nat → Prop} {h0 : Hp} (self5 : Int → Int → Int → Int → Hp → OR) (hs_self5 : ∀ (y0 y1 y2 y3 : Int) (hh : Hp), Ag W h0 hh → Fr W h0 (self5 y0 y1 y2 y3 hh)) (l1 : Int) (l2 : Int) (l4 : Int) (s0 : Int) (s1 : Int) (hW : ∀ a i : Nat, (False) → W a i) (h : Hp) (ag_h : Ag W h0 h) : Fr W h0 (XX12_pattern_p36 self5 l1 l2 l4 s0 s1 h) := by
  unfold XX12_pattern_p36
  refine Fr_nm (fun v3 => ?_)
  refine Fr_chk ?_
  exact hs_self5 _ _ _ _ _ ag_h
theorem fg_XX12_pattern_b5 {W : Nat → Nat → Prop} {h0 : Hp} (self5 : Int → Int → Int → Int → Hp → OR) (hs_self5 : ∀ (y0 y1 y2 y3 : Int) (hh : Hp), Ag W h0 hh → Fr W h0 (self5 y0 y1 y2 y3 hh)) (l1 : Int) (l2 : Int) (l3 : Int) (l4 : Int) (hW : ∀ a i : Nat, (False) → W a i) (h : Hp) (ag_h : Ag W h0 h) : Fr W h0 (XX12_pattern_b5 self5 l1 l2 l3 l4 h) := by
  unfold XX12_pattern_b5
  refine Fr_ite ?_ ?_
  · exact Fr_some ag_h
  · refine Fr_inb ?_
    refine Fr_cal (fg_XX12_isAt _ _ _ (fun a i hh => hh.elim) _ ag_h) (fun r1 h2 ag_h2 => ?_)
    refine Fr_ite ?_ ?_
    · exact fg_XX12_pattern_p36 _ hs_self5 _ _ _ _ _ (fun a i hh => hh.elim) _ ag_h2
    · exact fg_XX12_pattern_p36 _ hs_self5 _ _ _ _ _ (fun a i hh => hh.elim) _ ag_h2
theorem fg_XX12_pattern_L5 {W : Nat → Nat → Prop} {h0 : Hp} (l1 : Int) (l2 : Int) (l3 : Int) (l4 : Int) (hW : ∀ a i : Nat, (False) → W a i) (h : Hp) (ag_h : Ag W h0 h) : Fr W h0 (XX12_pattern_L5 l1 l2 l3 l4 h) := by
  unfold XX12_pattern_L5
  exact Fr_lup4 (fun self hs z0 z1 z2 z3 hh ag => fg_XX12_pattern_b5 self hs z0 z1 z2 z3 hW hh ag) FU _ _ _ _ _ ag_h
theorem fg_XX12_pattern {W : Nat → Nat → Prop} {h0 : Hp} (x0 : Int) (x1 : Int) (hW : ∀ a i : Nat, (False) → W a i) (h : Hp) (ag_h : Ag W h0 h) : Fr W h0 (XX12_pattern x0 x1 h) := by
  unfold XX12_pattern
  exact fg_XX12_pattern_L5 _ _ _ _ (fun a i hh => hh.elim) _ ag_h
theorem fr_XX12_pattern {x0 : Int} {x1 : Int} {h : Hp} {r : Int} {h1 : Hp} (e : XX12_pattern x0 x1 h = some (r, h1)) (a i : Nat) (hn : ¬ (False)) : h1 a i = h a i := fg_XX12_pattern (W := fun a i => False) x0 x1 (fun _ _ hh => hh) h (fun _ _ _ => rfl) r h1 e a i hn
theorem fe_XX12_pattern {x0 : Int} {x1 : Int} {h : Hp} {r : Int} {h1 : Hp} (e : XX12_pattern x0 x1 h = some (r, h1)) : h1 = h := funext (fun a => funext (fun i => fr_XX12_pattern e a i (fun hh => hh)))
theorem fg_XX12_clashes_p26 {W : Nat → Nat → Prop} {h0 : Hp} (self2 : Int → Int → Int → Hp → OR) (hs_self2 : ∀ (y0 y1 y2 : Int) (hh : Hp), Ag W h0 hh → Fr W h0 (self2 y0 y1 y2 hh)) (l1 : Int) (l2 : Int) (l3 : Int) (hW : ∀ a i : Nat, (False) → W a i) (h : Hp) (ag_h : Ag W h0 h) : Fr W h0 (XX12_clashes_p26 self2 l1 l2 l3 h) := by
  unfold XX12_clashes_p26
  refine Fr_chk ?_
  exact hs_self2 _ _ _ _ ag_h
theorem fg_XX12_clashes_b2 {W : Nat → Nat → Prop} {h0 : Hp} (self2 : Int → Int → Int → Hp → OR) (hs_self2 : ∀ (y0 y1 y2 : Int) (hh : Hp), Ag W h0 hh → Fr W h0 (self2 y0 y1 y2 hh)) (l1 : Int) (l2 : Int) (l3 : Int) (hW : ∀ a i : Nat, ((a = 143 ∧ 21 ≤ i ∧ i ≤ 22)) → W a i) (h : Hp) (ag_h : Ag W h0 h) : Fr W h0 (XX12_clashes_b2 self2 l1 l2 l3 h) := by
  unfold XX12_clashes_b2
  refine Fr_inb ?_
  refine Fr_ite ?_ ?_
  · refine Fr_cal (fg_XX12_pattern _ _ (fun a i hh => hh.elim) _ ag_h) (fun r1 h2 ag_h2 => ?_)
    refine Fr_cal (fg_XX12_pattern _ _ (fun a i hh => hh.elim) _ ag_h2) (fun r3 h4 ag_h4 => ?_)
    refine Fr_ite ?_ ?_
    · refine Fr_wr ag_h4 (hW _ _ (by omega)) (fun h5 ag_h5 => ?_)
      refine Fr_wr ag_h5 (hW _ _ (by omega)) (fun h6 ag_h6 => ?_)
      exact Fr_some ag_h6
    · exact fg_XX12_clashes_p26 _ hs_self2 _ _ _ (fun a i hh => hh.elim) _ ag_h4
  · exact fg_XX12_clashes_p26 _ hs_self2 _ _ _ (fun a i hh => hh.elim) _ ag_h
theorem fg_XX12_clashes_L2 {W : Nat → Nat → Prop} {h0 : Hp} (l1 : Int) (l2 : Int) (l3 : Int) (hW : ∀ a i : Nat, ((a = 143 ∧ 21 ≤ i ∧ i ≤ 22)) → W a i) (h : Hp) (ag_h : Ag W h0 h) : Fr W h0 (XX12_clashes_L2 l1 l2 l3 h) := by
  unfold XX12_clashes_L2
  exact Fr_lup3 (fun self hs z0 z1 z2 hh ag => fg_XX12_clashes_b2 self hs z0 z1 z2 hW hh ag) FU _ _ _ _ ag_h
theorem fg_XX12_clashes {W : Nat → Nat → Prop} {h0 : Hp} (x0 : Int) (x1 : Int) (hW : ∀ a i : Nat, ((a = 143 ∧ 21 ≤ i ∧ i ≤ 22)) → W a i) (h : Hp) (ag_h : Ag W h0 h) : Fr W h0 (XX12_clashes x0 x1 h) := by
  unfold XX12_clashes
  exact fg_XX12_clashes_L2 _ _ _ (fun a i hh => hW a i (by omega)) _ ag_h
theorem fr_XX12_clashes {x0 : Int} {x1 : Int} {h : Hp} {r : Int} {h1 : Hp} (e : XX12_clashes x0 x1 h = some (r, h1)) (a i : Nat) (hn : ¬ ((a = 143 ∧ 21 ≤ i ∧ i ≤ 22))) : h1 a i = h a i := fg_XX12_clashes (W := fun a i => (a = 143 ∧ 21 ≤ i ∧ i ≤ 22)) x0 x1 (fun _ _ hh => hh) h (fun _ _ _ => rfl) r h1 e a i hn
theorem fg_XX12_single_p96 {W : Nat → Nat → Prop} {h0 : Hp} (self4 : Int → Int → Int → Hp → OR) (hs_self4 : ∀ (y0 y1 y2 : Int) (hh : Hp), Ag W h0 hh → Fr W h0 (self4 y0 y1 y2 hh)) (l1 : Int) (l2 : Int) (l3 : Int) (hW : ∀ a i : Nat, (False) → W a i) (h : Hp) (ag_h : Ag W h0 h) : Fr W h0 (XX12_single_p96 self4 l1 l2 l3 h) := by
  unfold XX12_single_p96
  refine Fr_chk ?_
  exact hs_self4 _ _ _ _ ag_h
theorem fg_XX12_single_p84 {W : Nat → Nat → Prop} {h0 : Hp} (self4 : Int → Int → Int → Hp → OR) (hs_self4 : ∀ (y0 y1 y2 : Int) (hh : Hp), Ag W h0 hh → Fr W h0 (self4 y0 y1 y2 hh)) (l1 : Int) (l3 : Int) (hW : ∀ a i : Nat, ((a = 143 ∧ i = 71)) → W a i) (h : Hp) (ag_h : Ag W h0 h) : Fr W h0 (XX12_single_p84 self4 l1 l3 h) := by
  unfold XX12_single_p84
  refine Fr_inb ?_
  refine Fr_nm (fun v3 => ?_)
  refine Fr_wr ag_h (hW _ _ (by omega)) (fun h4 ag_h4 => ?_)
  exact fg_XX12_single_p96 _ hs_self4 _ _ _ (fun a i hh => hh.elim) _ ag_h4
theorem fg_XX12_single_p56 {W : Nat → Nat → Prop} {h0 : Hp} (self4 : Int → Int → Int → Hp → OR) (hs_self4 : ∀ (y0 y1 y2 : Int) (hh : Hp), Ag W h0 hh → Fr W h0 (self4 y0 y1 y2 hh)) (self18 : Int → Int → Int → Int → Int → Hp → OR) (hs_self18 : ∀ (y0 y1 y2 y3 y4 : Int) (hh : Hp), Ag W h0 hh → Fr W h0 (self18 y0 y1 y2 y3 y4 hh)) (l1 : Int) (l2 : Int) (l3 : Int) (l5 : Int) (s0 : Int) (hW : ∀ a i : Nat, (False) → W a i) (h : Hp) (ag_h : Ag W h0 h) : Fr W h0 (XX12_single_p56 self4 self18 l1 l2 l3 l5 s0 h) := by
  unfold XX12_single_p56
  refine Fr_chk ?_
  exact hs_self18 _ _ _ _ _ _ ag_h
theorem fg_XX12_single_p55 {W : Nat → Nat → Prop} {h0 : Hp} (self4 : Int → Int → Int → Hp → OR) (hs_self4 : ∀ (y0 y1 y2 : Int) (hh : Hp), Ag W h0 hh → Fr W h0 (self4 y0 y1 y2 hh)) (self18 : Int → Int → Int → Int → Int → Hp → OR) (hs_self18 : ∀ (y0 y1 y2 y3 y4 : Int) (hh : Hp), Ag W h0 hh → Fr W h0 (self18 y0 y1 y2 y3 y4 hh)) (l1 : Int) (l2 : Int) (l3 : Int) (l5 : Int) (hW : ∀ a i : Nat, (False) → W a i) (h : Hp) (ag_h : Ag W h0 h) : Fr W h0 (XX12_single_p55 self4 self18 l1 l2 l3 l5 h) := by
  unfold XX12_single_p55
  exact fg_XX12_single_p56 _ hs_self4 _ hs_self18 _ _ _ _ _ (fun a i hh => hh.elim) _ ag_h
theorem fg_XX12_single_b18 {W : Nat → Nat → Prop} {h0 : Hp} (self4 : Int → Int → Int → Hp → OR) (hs_self4 : ∀ (y0 y1 y2 : Int) (hh : Hp), Ag W h0 hh → Fr W h0 (self4 y0 y1 y2 hh)) (self18 : Int → Int → Int → Int → Int → Hp → OR) (hs_self18 : ∀ (y0 y1 y2 y3 y4 : Int) (hh : Hp), Ag W h0 hh → Fr W h0 (self18 y0 y1 y2 y3 y4 hh)) (l1 : Int) (l2 : Int) (l3 : Int) (l4 : Int) (l5 : Int) (hW : ∀ a i : Nat, ((a = 143 ∧ i = 71)) → W a i) (h : Hp) (ag_h : Ag W h0 h) : Fr W h0 (XX12_single_b18 self4 self18 l1 l2 l3 l4 l5 h) := by
  unfold XX12_single_b18
  refine Fr_ite ?_ ?_
  · refine Fr_ite ?_ ?_
    · exact fg_XX12_single_p96 _ hs_self4 _ _ _ (fun a i hh => hh.elim) _ ag_h
    · refine Fr_ite ?_ ?_
      · exact fg_XX12_single_p84 _ hs_self4 _ _ (fun a i hh => hW a i (by omega)) _ ag_h
      · refine Fr_inb ?_
        refine Fr_ite ?_ ?_
        · exact fg_XX12_single_p96 _ hs_self4 _ _ _ (fun a i hh => hh.elim) _ ag_h
        · exact fg_XX12_single_p84 _ hs_self4 _ _ (fun a i hh => hW a i (by omega)) _ ag_h
  · refine Fr_ite ?_ ?_
    · exact fg_XX12_single_p55 _ hs_self4 _ hs_self18 _ _ _ _ (fun a i hh => hh.elim) _ ag_h
    · refine Fr_inb ?_
      refine Fr_ite ?_ ?_
      · exact fg_XX12_single_p56 _ hs_self4 _ hs_self18 _ _ _ _ _ (fun a i hh => hh.elim) _ ag_h
      · exact fg_XX12_single_p55 _ hs_self4 _ hs_self18 _ _ _ _ (fun a i hh => hh.elim) _ ag_h
theorem fg_XX12_single_L18 {W : Nat → Nat → Prop} {h0 : Hp} (self4 : Int → Int → Int → Hp → OR) (hs_self4 : ∀ (y0 y1 y2 : Int) (hh : Hp), Ag W h0 hh → Fr W h0 (self4 y0 y1 y2 hh)) (l1 : Int) (l2 : Int) (l3 : Int) (l4 : Int) (l5 : Int) (hW : ∀ a i : Nat, ((a = 143 ∧ i = 71)) → W a i) (h : Hp) (ag_h : Ag W h0 h) : Fr W h0 (XX12_single_L18 self4 l1 l2 l3 l4 l5 h) := by
  unfold XX12_single_L18
  exact Fr_lup5 (fun self hs z0 z1 z2 z3 z4 hh ag => fg_XX12_single_b18 self4 hs_self4 self hs z0 z1 z2 z3 z4 hW hh ag) FU _ _ _ _ _ _ ag_h
theorem fg_XX12_single_b4 {W : Nat → Nat → Prop} {h0 : Hp} (self4 : Int → Int → Int → Hp → OR) (hs_self4 : ∀ (y0 y1 y2 : Int) (hh : Hp), Ag W h0 hh → Fr W h0 (self4 y0 y1 y2 hh)) (l1 : Int) (l2 : Int) (l3 : Int) (hW : ∀ a i : Nat, ((a = 143 ∧ i = 71)) → W a i) (h : Hp) (ag_h : Ag W h0 h) : Fr W h0 (XX12_single_b4 self4 l1 l2 l3 h) := by
  unfold XX12_single_b4
  refine Fr_cal (fg_XX12_functions _ (fun a i hh => hh.elim) _ ag_h) (fun r1 h2 ag_h2 => ?_)
  refine Fr_ite ?_ ?_
  · exact Fr_some ag_h2
  · exact fg_XX12_single_L18 _ hs_self4 _ _ _ _ _ (fun a i hh => hW a i (by omega)) _ ag_h2
theorem fg_XX12_single_L4 {W : Nat → Nat → Prop} {h0 : Hp} (l1 : Int) (l2 : Int) (l3 : Int) (hW : ∀ a i : Nat, ((a = 143 ∧ i = 71)) → W a i) (h : Hp) (ag_h : Ag W h0 h) : Fr W h0 (XX12_single_L4 l1 l2 l3 h) := by
  unfold XX12_single_L4
  exact Fr_lup3 (fun self hs z0 z1 z2 hh ag => fg_XX12_single_b4 self hs z0 z1 z2 hW hh ag) FU _ _ _ _ ag_h
theorem fg_XX12_single {W : Nat → Nat → Prop} {h0 : Hp} (x0 : Int) (hW : ∀ a i : Nat, ((a = 143 ∧ i = 71)) → W a i) (h : Hp) (ag_h : Ag W h0 h) : Fr W h0 (XX12_single x0 h) := by
  unfold XX12_single
  exact fg_XX12_single_L4 _ _ _ (fun a i hh => hW a i (by omega)) _ ag_h
theorem fr_XX12_single {x0 : Int} {h : Hp} {r : Int} {h1 : Hp} (e : XX12_single x0 h = some (r, h1)) (a i : Nat) (hn : ¬ ((a = 143 ∧ i = 71))) : h1 a i = h a i := fg_XX12_single (W := fun a i => (a = 143 ∧ i = 71)) x0 (fun _ _ hh => hh) h (fun _ _ _ => rfl) r h1 e a i hn
theorem fg_XX12_both_p144 {W : Nat → Nat → Prop} {h0 : Hp} (self4 : Int → Int → Int → Hp → OR) (hs_self4 : ∀ (y0 y1 y2 : Int) (hh : Hp), Ag W h0 hh → Fr W h0 (self4 y0 y1 y2 hh)) (self15 : Int → Int → Int → Int → Hp → OR) (hs_self15 : ∀ (y0 y1 y2 y3 : Int) (hh : Hp), Ag W h0 hh → Fr W h0 (self15 y0 y1 y2 y3 hh)) (l1 : Int) (l2 : Int) (l3 : Int) (l4 : Int) (hW : ∀ a i : Nat, (False) → W a i) (h : Hp) (ag_h : Ag W h0 h) : Fr W h0 (XX12_both_p144 self4 self15 l1 l2 l3 l4 h) := by
  unfold XX12_both_p144
  refine Fr_chk ?_
  exact hs_self15 _ _ _ _ _ ag_h
theorem fg_XX12_both_p113 {W : Nat → Nat → Prop} {h0 : Hp} (self4 : Int → Int → Int → Hp → OR) (hs_self4 : ∀ (y0 y1 y2 : Int) (hh : Hp), Ag W h0 hh → Fr W h0 (self4 y0 y1 y2 hh)) (self15 : Int → Int → Int → Int → Hp → OR) (hs_self15 : ∀ (y0 y1 y2 y3 : Int) (hh : Hp), Ag W h0 hh → Fr W h0 (self15 y0 y1 y2 y3 hh)) (l1 : Int) (l2 : Int) (l3 : Int) (l4 : Int) (l5 : Int) (hW : ∀ a i : Nat, ((a = 143 ∧ 71 ≤ i ∧ i ≤ 72)) → W a i) (h : Hp) (ag_h : Ag W h0 h) : Fr W h0 (XX12_both_p113 self4 self15 l1 l2 l3 l4 l5 h) := by
  unfold XX12_both_p113
  refine Fr_ite ?_ ?_
  · exact fg_XX12_both_p144 _ hs_self4 _ hs_self15 _ _ _ _ (fun a i hh => hh.elim) _ ag_h
  · refine Fr_inb ?_
    refine Fr_inb ?_
    refine Fr_chk ?_
    refine Fr_nm (fun v5 => ?_)
    refine Fr_wr ag_h (hW _ _ (by omega)) (fun h6 ag_h6 => ?_)
    refine Fr_wr ag_h6 (hW _ _ (by omega)) (fun h7 ag_h7 => ?_)
    exact fg_XX12_both_p144 _ hs_self4 _ hs_self15 _ _ _ _ (fun a i hh => hh.elim) _ ag_h7
theorem fg_XX12_both_p105 {W : Nat → Nat → Prop} {h0 : Hp} (self4 : Int → Int → Int → Hp → OR) (hs_self4 : ∀ (y0 y1 y2 : Int) (hh : Hp), Ag W h0 hh → Fr W h0 (self4 y0 y1 y2 hh)) (self15 : Int → Int → Int → Int → Hp → OR) (hs_self15 : ∀ (y0 y1 y2 y3 : Int) (hh : Hp), Ag W h0 hh → Fr W h0 (self15 y0 y1 y2 y3 hh)) (self57 : Int → Int → Int → Int → Int → Int → Hp → OR) (hs_self57 : ∀ (y0 y1 y2 y3 y4 y5 : Int) (hh : Hp), Ag W h0 hh → Fr W h0 (self57 y0 y1 y2 y3 y4 y5 hh)) (l1 : Int) (l2 : Int) (l3 : Int) (l4 : Int) (l6 : Int) (s0 : Int) (hW : ∀ a i : Nat, (False) → W a i) (h : Hp) (ag_h : Ag W h0 h) : Fr W h0 (XX12_both_p105 self4 self15 self57 l1 l2 l3 l4 l6 s0 h) := by
  unfold XX12_both_p105
  refine Fr_chk ?_
  exact hs_self57 _ _ _ _ _ _ _ ag_h
theorem fg_XX12_both_b57 {W : Nat → Nat → Prop} {h0 : Hp} (self4 : Int → Int → Int → Hp → OR) (hs_self4 : ∀ (y0 y1 y2 : Int) (hh : Hp), Ag W h0 hh → Fr W h0 (self4 y0 y1 y2 hh)) (self15 : Int → Int → Int → Int → Hp → OR) (hs_self15 : ∀ (y0 y1 y2 y3 : Int) (hh : Hp), Ag W h0 hh → Fr W h0 (self15 y0 y1 y2 y3 hh)) (self57 : Int → Int → Int → Int → Int → Int → Hp → OR) (hs_self57 : ∀ (y0 y1 y2 y3 y4 y5 : Int) (hh : Hp), Ag W h0 hh → Fr W h0 (self57 y0 y1 y2 y3 y4 y5 hh)) (l1 : Int) (l2 : Int) (l3 : Int) (l4 : Int) (l5 : Int) (l6 : Int) (hW : ∀ a i : Nat, ((a = 143 ∧ 71 ≤ i ∧ i ≤ 72)) → W a i) (h : Hp) (ag_h : Ag W h0 h) : Fr W h0 (XX12_both_b57 self4 self15 self57 l1 l2 l3 l4 l5 l6 h) := by
  unfold XX12_both_b57
  refine Fr_ite ?_ ?_
  · exact fg_XX12_both_p113 _ hs_self4 _ hs_self15 _ _ _ _ _ (fun a i hh => hW a i (by omega)) _ ag_h
  · refine Fr_ite ?_ ?_
    · exact fg_XX12_both_p113 _ hs_self4 _ hs_self15 _ _ _ _ _ (fun a i hh => hW a i (by omega)) _ ag_h
    · refine Fr_inb ?_
      refine Fr_chk ?_
      refine Fr_chk ?_
      refine Fr_ite ?_ ?_
      · exact fg_XX12_both_p105 _ hs_self4 _ hs_self15 _ hs_self57 _ _ _ _ _ _ (fun a i hh => hh.elim) _ ag_h
      · exact fg_XX12_both_p105 _ hs_self4 _ hs_self15 _ hs_self57 _ _ _ _ _ _ (fun a i hh => hh.elim) _ ag_h
theorem fg_XX12_both_L57 {W : Nat → Nat → Prop} {h0 : Hp} (self4 : Int → Int → Int → Hp → OR) (hs_self4 : ∀ (y0 y1 y2 : Int) (hh : Hp), Ag W h0 hh → Fr W h0 (self4 y0 y1 y2 hh)) (self15 : Int → Int → Int → Int → Hp → OR) (hs_self15 : ∀ (y0 y1 y2 y3 : Int) (hh : Hp), Ag W h0 hh → Fr W h0 (self15 y0 y1 y2 y3 hh)) (l1 : Int) (l2 : Int) (l3 : Int) (l4 : Int) (l5 : Int) (l6 : Int) (hW : ∀ a i : Nat, ((a = 143 ∧ 71 ≤ i ∧ i ≤ 72)) → W a i) (h : Hp) (ag_h : Ag W h0 h) : Fr W h0 (XX12_both_L57 self4 self15 l1 l2 l3 l4 l5 l6 h) := by
  unfold XX12_both_L57
  exact Fr_lup6 (fun self hs z0 z1 z2 z3 z4 z5 hh ag => fg_XX12_both_b57 self4 hs_self4 self15 hs_self15 self hs z0 z1 z2 z3 z4 z5 hW hh ag) FU _ _ _ _ _ _ _ ag_h
theorem fg_XX12_both_p52 {W : Nat → Nat → Prop} {h0 : Hp} (self4 : Int → Int → Int → Hp → OR) (hs_self4 : ∀ (y0 y1 y2 : Int) (hh : Hp), Ag W h0 hh → Fr W h0 (self4 y0 y1 y2 hh)) (self15 : Int → Int → Int → Int → Hp → OR) (hs_self15 : ∀ (y0 y1 y2 y3 : Int) (hh : Hp), Ag W h0 hh → Fr W h0 (self15 y0 y1 y2 y3 hh)) (l1 : Int) (l2 : Int) (l3 : Int) (l4 : Int) (s0 : Int) (hW : ∀ a i : Nat, ((a = 143 ∧ 71 ≤ i ∧ i ≤ 72)) → W a i) (h : Hp) (ag_h : Ag W h0 h) : Fr W h0 (XX12_both_p52 self4 self15 l1 l2 l3 l4 s0 h) := by
  unfold XX12_both_p52
  exact fg_XX12_both_L57 _ hs_self4 _ hs_self15 _ _ _ _ _ _ (fun a i hh => hW a i (by omega)) _ ag_h
theorem fg_XX12_both_p47 {W : Nat → Nat → Prop} {h0 : Hp} (self4 : Int → Int → Int → Hp → OR) (hs_self4 : ∀ (y0 y1 y2 : Int) (hh : Hp), Ag W h0 hh → Fr W h0 (self4 y0 y1 y2 hh)) (self15 : Int → Int → Int → Int → Hp → OR) (hs_self15 : ∀ (y0 y1 y2 y3 : Int) (hh : Hp), Ag W h0 hh → Fr W h0 (self15 y0 y1 y2 y3 hh)) (l1 : Int) (l2 : Int) (l3 : Int) (l4 : Int) (hW : ∀ a i : Nat, ((a = 143 ∧ 71 ≤ i ∧ i ≤ 72)) → W a i) (h : Hp) (ag_h : Ag W h0 h) : Fr W h0 (XX12_both_p47 self4 self15 l1 l2 l3 l4 h) := by
  unfold XX12_both_p47
  exact fg_XX12_both_p52 _ hs_self4 _ hs_self15 _ _ _ _ _ (fun a i hh => hW a i (by omega)) _ ag_h
theorem fg_XX12_both_b15 {W : Nat → Nat → Prop} {h0 : Hp} (self4 : Int → Int → Int → Hp → OR) (hs_self4 : ∀ (y0 y1 y2 : Int) (hh : Hp), Ag W h0 hh → Fr W h0 (self4 y0 y1 y2 hh)) (self15 : Int → Int → Int → Int → Hp → OR) (hs_self15 : ∀ (y0 y1 y2 y3 : Int) (hh : Hp), Ag W h0 hh → Fr W h0 (self15 y0 y1 y2 y3 hh)) (l1 : Int) (l2 : Int) (l3 : Int) (l4 : Int) (hW : ∀ a i : Nat, ((a = 143 ∧ 71 ≤ i ∧ i ≤ 72)) → W a i) (h : Hp) (ag_h : Ag W h0 h) : Fr W h0 (XX12_both_b15 self4 self15 l1 l2 l3 l4 h) := by
  unfold XX12_both_b15
  refine Fr_cal (fg_XX12_functions _ (fun a i hh => hh.elim) _ ag_h) (fun r3 h4 ag_h4 => ?_)
  refine Fr_ite ?_ ?_
  · refine Fr_chk ?_
    exact hs_self4 _ _ _ _ ag_h4
  · refine Fr_ite ?_ ?_
    · exact fg_XX12_both_p47 _ hs_self4 _ hs_self15 _ _ _ _ (fun a i hh => hW a i (by omega)) _ ag_h4
    · refine Fr_inb ?_
      refine Fr_inb ?_
      refine Fr_chk ?_
      refine Fr_ite ?_ ?_
      · exact fg_XX12_both_p52 _ hs_self4 _ hs_self15 _ _ _ _ _ (fun a i hh => hW a i (by omega)) _ ag_h4
      · exact fg_XX12_both_p47 _ hs_self4 _ hs_self15 _ _ _ _ (fun a i hh => hW a i (by omega)) _ ag_h4
theorem fg_XX12_both_L15 {W : Nat → Nat → Prop} {h0 : Hp} (self4 : Int → Int → Int → Hp → OR) (hs_self4 : ∀ (y0 y1 y2 : Int) (hh : Hp), Ag W h0 hh → Fr W h0 (self4 y0 y1 y2 hh)) (l1 : Int) (l2 : Int) (l3 : Int) (l4 : Int) (hW : ∀ a i : Nat, ((a = 143 ∧ 71 ≤ i ∧ i ≤ 72)) → W a i) (h : Hp) (ag_h : Ag W h0 h) : Fr W h0 (XX12_both_L15 self4 l1 l2 l3 l4 h) := by
  unfold XX12_both_L15
  exact Fr_lup4 (fun self hs z0 z1 z2 z3 hh ag => fg_XX12_both_b15 self4 hs_self4 self hs z0 z1 z2 z3 hW hh ag) FU _ _ _ _ _ ag_h
theorem fg_XX12_both_b4 {W : Nat → Nat → Prop} {h0 : Hp} (self4 : Int → Int → Int → Hp → OR) (hs_self4 : ∀ (y0 y1 y2 : Int) (hh : Hp), Ag W h0 hh → Fr W h0 (self4 y0 y1 y2 hh)) (l1 : Int) (l2 : Int) (l3 : Int) (hW : ∀ a i : Nat, ((a = 143 ∧ 71 ≤ i ∧ i ≤ 72)) → W a i) (h : Hp) (ag_h : Ag W h0 h) : Fr W h0 (XX12_both_b4 self4 l1 l2 l3 h) := by
  unfold XX12_both_b4
  refine Fr_cal (fg_XX12_functions _ (fun a i hh => hh.elim) _ ag_h) (fun r1 h2 ag_h2 => ?_)
  refine Fr_ite ?_ ?_
  · exact Fr_some ag_h2
  · exact fg_XX12_both_L15 _ hs_self4 _ _ _ _ (fun a i hh => hW a i (by omega)) _ ag_h2
theorem fg_XX12_both_L4 {W : Nat → Nat → Prop} {h0 : Hp} (l1 : Int) (l2 : Int) (l3 : Int) (hW : ∀ a i : Nat, ((a = 143 ∧ 71 ≤ i ∧ i ≤ 72)) → W a i) (h : Hp) (ag_h : Ag W h0 h) : Fr W h0 (XX12_both_L4 l1 l2 l3 h) := by
  unfold XX12_both_L4
  exact Fr_lup3 (fun self hs z0 z1 z2 hh ag => fg_XX12_both_b4 self hs z0 z1 z2 hW hh ag) FU _ _ _ _ ag_h
theorem fg_XX12_both {W : Nat → Nat → Prop} {h0 : Hp} (x0 : Int) (hW : ∀ a i : Nat, ((a = 143 ∧ 71 ≤ i ∧ i ≤ 72)) → W a i) (h : Hp) (ag_h : Ag W h0 h) : Fr W h0 (XX12_both x0 h) := by
  unfold XX12_both
  exact fg_XX12_both_L4 _ _ _ (fun a i hh => hW a i (by omega)) _ ag_h
theorem fr_XX12_both {x0 : Int} {h : Hp} {r : Int} {h1 : Hp} (e : XX12_both x0 h = some (r, h1)) (a i : Nat) (hn : ¬ ((a = 143 ∧ 71 ≤ i ∧ i ≤ 72))) : h1 a i = h a i := fg_XX12_both (W := fun a i => (a = 143 ∧ 71 ≤ i ∧ i ≤ 72)) x0 (fun _ _ hh => hh) h (fun _ _ _ => rfl) r h1 e a i hn
theorem fg_XX12_finds_p153 {W : Nat → Nat → Prop} {h0 : Hp} (self50 : Int → Int → Int → Int → Hp → OR) (hs_self50 : ∀ (y0 y1 y2 y3 : Int) (hh : Hp), Ag W h0 hh → Fr W h0 (self50 y0 y1 y2 y3 hh)) (l3 : Int) (l4 : Int) (l5 : Int) (l6 : Int) (hW : ∀ a i : Nat, (False) → W a i) (h : Hp) (ag_h : Ag W h0 h) : Fr W h0 (XX12_finds_p153 self50 l3 l4 l5 l6 h) := by
  unfold XX12_finds_p153
  refine Fr_chk ?_
  exact hs_self50 _ _ _ _ _ ag_h
theorem fg_XX12_finds_p119 {W : Nat → Nat → Prop} {h0 : Hp} (self50 : Int → Int → Int → Int → Hp → OR) (hs_self50 : ∀ (y0 y1 y2 y3 : Int) (hh : Hp), Ag W h0 hh → Fr W h0 (self50 y0 y1 y2 y3 hh)) (self82 : Int → Int → Int → Int → Int → Int → Hp → OR) (hs_self82 : ∀ (y0 y1 y2 y3 y4 y5 : Int) (hh : Hp), Ag W h0 hh → Fr W h0 (self82 y0 y1 y2 y3 y4 y5 hh)) (l3 : Int) (l4 : Int) (l5 : Int) (l6 : Int) (l7 : Int) (l8 : Int) (s1 : Int) (s2 : Int) (s3 : Int) (hW : ∀ a i : Nat, (a = 194) → W a i) (h : Hp) (ag_h : Ag W h0 h) : Fr W h0 (XX12_finds_p119 self50 self82 l3 l4 l5 l6 l7 l8 s1 s2 s3 h) := by
  unfold XX12_finds_p119
  refine Fr_inb ?_
  refine Fr_wr ag_h (hW _ _ (by omega)) (fun h21 ag_h21 => ?_)
  refine Fr_chk ?_
  exact hs_self82 _ _ _ _ _ _ _ ag_h21
theorem fg_XX12_finds_b82 {W : Nat → Nat → Prop} {h0 : Hp} (self50 : Int → Int → Int → Int → Hp → OR) (hs_self50 : ∀ (y0 y1 y2 y3 : Int) (hh : Hp), Ag W h0 hh → Fr W h0 (self50 y0 y1 y2 y3 hh)) (self82 : Int → Int → Int → Int → Int → Int → Hp → OR) (hs_self82 : ∀ (y0 y1 y2 y3 y4 y5 : Int) (hh : Hp), Ag W h0 hh → Fr W h0 (self82 y0 y1 y2 y3 y4 y5 hh)) (l3 : Int) (l4 : Int) (l5 : Int) (l6 : Int) (l7 : Int) (l8 : Int) (hW : ∀ a i : Nat, (a = 194 ∨ (a = 143 ∧ 21 ≤ i ∧ i ≤ 22)) → W a i) (h : Hp) (ag_h : Ag W h0 h) : Fr W h0 (XX12_finds_b82 self50 self82 l3 l4 l5 l6 l7 l8 h) := by
  unfold XX12_finds_b82
  refine Fr_ite ?_ ?_
  · refine Fr_inb ?_
    refine Fr_ite ?_ ?_
    · refine Fr_ite ?_ ?_
      · exact Fr_some ag_h
      · refine Fr_cal (fg_XX12_clashes _ _ (fun a i hh => hW a i (Or.inr (by omega))) _ ag_h) (fun r17 h18 ag_h18 => ?_)
        exact Fr_some ag_h18
    · exact fg_XX12_finds_p153 _ hs_self50 _ _ _ _ (fun a i hh => hh.elim) _ ag_h
  · refine Fr_inb ?_
    refine Fr_cal (fg_XX12_doesMend _ _ (fun a i hh => hh.elim) _ ag_h) (fun r19 h20 ag_h20 => ?_)
    refine Fr_ite ?_ ?_
    · exact fg_XX12_finds_p119 _ hs_self50 _ hs_self82 _ _ _ _ _ _ _ _ _ (fun a i hh => hW a i (Or.inl (by omega))) _ ag_h20
    · exact fg_XX12_finds_p119 _ hs_self50 _ hs_self82 _ _ _ _ _ _ _ _ _ (fun a i hh => hW a i (Or.inl (by omega))) _ ag_h20
theorem fg_XX12_finds_L82 {W : Nat → Nat → Prop} {h0 : Hp} (self50 : Int → Int → Int → Int → Hp → OR) (hs_self50 : ∀ (y0 y1 y2 y3 : Int) (hh : Hp), Ag W h0 hh → Fr W h0 (self50 y0 y1 y2 y3 hh)) (l3 : Int) (l4 : Int) (l5 : Int) (l6 : Int) (l7 : Int) (l8 : Int) (hW : ∀ a i : Nat, (a = 194 ∨ (a = 143 ∧ 21 ≤ i ∧ i ≤ 22)) → W a i) (h : Hp) (ag_h : Ag W h0 h) : Fr W h0 (XX12_finds_L82 self50 l3 l4 l5 l6 l7 l8 h) := by
  unfold XX12_finds_L82
  exact Fr_lup6 (fun self hs z0 z1 z2 z3 z4 z5 hh ag => fg_XX12_finds_b82 self50 hs_self50 self hs z0 z1 z2 z3 z4 z5 hW hh ag) FU _ _ _ _ _ _ _ ag_h
theorem fg_XX12_finds_b50 {W : Nat → Nat → Prop} {h0 : Hp} (self50 : Int → Int → Int → Int → Hp → OR) (hs_self50 : ∀ (y0 y1 y2 y3 : Int) (hh : Hp), Ag W h0 hh → Fr W h0 (self50 y0 y1 y2 y3 hh)) (l3 : Int) (l4 : Int) (l5 : Int) (l6 : Int) (hW : ∀ a i : Nat, ((191 ≤ a ∧ a ≤ 194) ∨ (a = 143 ∧ 21 ≤ i ∧ i ≤ 22) ∨ (a = 143 ∧ 71 ≤ i ∧ i ≤ 72)) → W a i) (h : Hp) (ag_h : Ag W h0 h) : Fr W h0 (XX12_finds_b50 self50 l3 l4 l5 l6 h) := by
  unfold XX12_finds_b50
  refine Fr_cal (fg_XX12_cases (fun a i hh => hh.elim) _ ag_h) (fun r7 h8 ag_h8 => ?_)
  refine Fr_ite ?_ ?_
  · refine Fr_cal (fg_XX12_reckons _ (fun a i hh => hW a i (Or.inl (by omega))) _ ag_h8) (fun r9 h10 ag_h10 => ?_)
    refine Fr_ite ?_ ?_
    · refine Fr_cal (fg_XX12_single _ (fun a i hh => hW a i (Or.inr (Or.inr (by omega)))) _ ag_h10) (fun r13 h14 ag_h14 => ?_)
      exact Fr_some ag_h14
    · refine Fr_cal (fg_XX12_both _ (fun a i hh => hW a i (Or.inr (Or.inr (by omega)))) _ ag_h10) (fun r11 h12 ag_h12 => ?_)
      exact Fr_some ag_h12
  · refine Fr_inb ?_
    refine Fr_ite ?_ ?_
    · refine Fr_cal (fg_XX12_pattern _ _ (fun a i hh => hh.elim) _ ag_h8) (fun r15 h16 ag_h16 => ?_)
      exact fg_XX12_finds_L82 _ hs_self50 _ _ _ _ _ _ (fun a i hh => hW a i ((fun q => q.elim (fun q => Or.inl (by omega)) (fun q => Or.inr (Or.inl (by omega)))) hh)) _ ag_h16
    · exact fg_XX12_finds_p153 _ hs_self50 _ _ _ _ (fun a i hh => hh.elim) _ ag_h8
theorem fg_XX12_finds_L50 {W : Nat → Nat → Prop} {h0 : Hp} (l3 : Int) (l4 : Int) (l5 : Int) (l6 : Int) (hW : ∀ a i : Nat, ((191 ≤ a ∧ a ≤ 194) ∨ (a = 143 ∧ 21 ≤ i ∧ i ≤ 22) ∨ (a = 143 ∧ 71 ≤ i ∧ i ≤ 72)) → W a i) (h : Hp) (ag_h : Ag W h0 h) : Fr W h0 (XX12_finds_L50 l3 l4 l5 l6 h) := by
  unfold XX12_finds_L50
  exact Fr_lup4 (fun self hs z0 z1 z2 z3 hh ag => fg_XX12_finds_b50 self hs z0 z1 z2 z3 hW hh ag) FU _ _ _ _ _ ag_h
theorem fg_XX12_finds_b20 {W : Nat → Nat → Prop} {h0 : Hp} (self20 : Int → Int → Int → Int → Hp → OR) (hs_self20 : ∀ (y0 y1 y2 y3 : Int) (hh : Hp), Ag W h0 hh → Fr W h0 (self20 y0 y1 y2 y3 hh)) (l3 : Int) (l4 : Int) (l5 : Int) (l6 : Int) (hW : ∀ a i : Nat, ((191 ≤ a ∧ a ≤ 194) ∨ (a = 143 ∧ 21 ≤ i ∧ i ≤ 22) ∨ (a = 143 ∧ 71 ≤ i ∧ i ≤ 72)) → W a i) (h : Hp) (ag_h : Ag W h0 h) : Fr W h0 (XX12_finds_b20 self20 l3 l4 l5 l6 h) := by
  unfold XX12_finds_b20
  refine Fr_ite ?_ ?_
  · exact fg_XX12_finds_L50 _ _ _ _ (fun a i hh => hW a i ((fun q => q.elim (fun q => Or.inl (by omega)) (fun q => q.elim (fun q => Or.inr (Or.inl (by omega))) (fun q => Or.inr (Or.inr (by omega))))) hh)) _ ag_h
  · refine Fr_chk ?_
    refine Fr_inb ?_
    refine Fr_wr ag_h (hW _ _ (Or.inl (by omega))) (fun h22 ag_h22 => ?_)
    refine Fr_chk ?_
    exact hs_self20 _ _ _ _ _ ag_h22
theorem fg_XX12_finds_L20 {W : Nat → Nat → Prop} {h0 : Hp} (l3 : Int) (l4 : Int) (l5 : Int) (l6 : Int) (hW : ∀ a i : Nat, ((191 ≤ a ∧ a ≤ 194) ∨ (a = 143 ∧ 21 ≤ i ∧ i ≤ 22) ∨ (a = 143 ∧ 71 ≤ i ∧ i ≤ 72)) → W a i) (h : Hp) (ag_h : Ag W h0 h) : Fr W h0 (XX12_finds_L20 l3 l4 l5 l6 h) := by
  unfold XX12_finds_L20
  exact Fr_lup4 (fun self hs z0 z1 z2 z3 hh ag => fg_XX12_finds_b20 self hs z0 z1 z2 z3 hW hh ag) FU _ _ _ _ _ ag_h
theorem fg_XX12_finds {W : Nat → Nat → Prop} {h0 : Hp} (x0 : Int) (x1 : Int) (x2 : Int) (x3 : Int) (x4 : Int) (hW : ∀ a i : Nat, ((186 ≤ a ∧ a ≤ 194) ∨ (a = 143 ∧ 21 ≤ i ∧ i ≤ 22) ∨ (a = 143 ∧ 63 ≤ i ∧ i ≤ 64) ∨ (a = 143 ∧ 71 ≤ i ∧ i ≤ 72)) → W a i) (h : Hp) (ag_h : Ag W h0 h) : Fr W h0 (XX12_finds x0 x1 x2 x3 x4 h) := by
  unfold XX12_finds
  refine Fr_cal (fg_XX12_prepares (fun a i hh => hW a i ((fun q => q.elim (fun q => Or.inl (by omega)) (fun q => Or.inr (Or.inr (Or.inl (by omega))))) hh)) _ ag_h) (fun r1 h2 ag_h2 => ?_)
  refine Fr_cal (fg_XX12_mendings _ _ _ _ (fun a i hh => hW a i ((fun q => q.elim (fun q => Or.inl (by omega)) (fun q => Or.inr (Or.inr (Or.inl (by omega))))) hh)) _ ag_h2) (fun r3 h4 ag_h4 => ?_)
  refine Fr_cal (fg_XX12_knows _ (fun a i hh => hW a i ((fun q => q.elim (fun q => Or.inl (by omega)) (fun q => Or.inr (Or.inr (Or.inl (by omega))))) hh)) _ ag_h4) (fun r5 h6 ag_h6 => ?_)
  exact fg_XX12_finds_L20 _ _ _ _ (fun a i hh => hW a i ((fun q => q.elim (fun q => Or.inl (by omega)) (fun q => q.elim (fun q => Or.inr (Or.inl (by omega))) (fun q => Or.inr (Or.inr (Or.inr (by omega)))))) hh)) _ ag_h6
theorem fr_XX12_finds {x0 : Int} {x1 : Int} {x2 : Int} {x3 : Int} {x4 : Int} {h : Hp} {r : Int} {h1 : Hp} (e : XX12_finds x0 x1 x2 x3 x4 h = some (r, h1)) (a i : Nat) (hn : ¬ ((186 ≤ a ∧ a ≤ 194) ∨ (a = 143 ∧ 21 ≤ i ∧ i ≤ 22) ∨ (a = 143 ∧ 63 ≤ i ∧ i ≤ 64) ∨ (a = 143 ∧ 71 ≤ i ∧ i ≤ 72))) : h1 a i = h a i := fg_XX12_finds (W := fun a i => (186 ≤ a ∧ a ≤ 194) ∨ (a = 143 ∧ 21 ≤ i ∧ i ≤ 22) ∨ (a = 143 ∧ 63 ≤ i ∧ i ≤ 64) ∨ (a = 143 ∧ 71 ≤ i ∧ i ≤ 72)) x0 x1 x2 x3 x4 (fun _ _ hh => hh) h (fun _ _ _ => rfl) r h1 e a i hn
theorem fg_XX12_keepsPatch_b99 {W : Nat → Nat → Prop} {h0 : Hp} (self99 : Int → Int → Int → Hp → OR) (hs_self99 : ∀ (y0 y1 y2 : Int) (hh : Hp), Ag W h0 hh → Fr W h0 (self99 y0 y1 y2 hh)) (l3 : Int) (l4 : Int) (l5 : Int) (hW : ∀ a i : Nat, ((162 ≤ a ∧ a ≤ 166) ∨ (a = 143 ∧ i = 27)) → W a i) (h : Hp) (ag_h : Ag W h0 h) : Fr W h0 (XX12_keepsPatch_b99 self99 l3 l4 l5 h) := by
  unfold XX12_keepsPatch_b99
  refine Fr_ite ?_ ?_
  · exact Fr_some ag_h
  · refine Fr_inb ?_
    refine Fr_cal (fg_XX12_trees (fun a i hh => hW a i ((fun q => q.elim (fun q => Or.inl (by omega)) (fun q => Or.inr (by omega))) hh)) _ _ _ _ _ ag_h) (fun r12 h13 ag_h13 => ?_)
    refine Fr_chk ?_
    exact hs_self99 _ _ _ _ ag_h13
theorem fg_XX12_keepsPatch_L99 {W : Nat → Nat → Prop} {h0 : Hp} (l3 : Int) (l4 : Int) (l5 : Int) (hW : ∀ a i : Nat, ((162 ≤ a ∧ a ≤ 166) ∨ (a = 143 ∧ i = 27)) → W a i) (h : Hp) (ag_h : Ag W h0 h) : Fr W h0 (XX12_keepsPatch_L99 l3 l4 l5 h) := by
  unfold XX12_keepsPatch_L99
  exact Fr_lup3 (fun self hs z0 z1 z2 hh ag => fg_XX12_keepsPatch_b99 self hs z0 z1 z2 hW hh ag) FU _ _ _ _ ag_h
theorem fg_XX12_keepsPatch_b63 {W : Nat → Nat → Prop} {h0 : Hp} (self63 : Int → Int → Int → Hp → OR) (hs_self63 : ∀ (y0 y1 y2 : Int) (hh : Hp), Ag W h0 hh → Fr W h0 (self63 y0 y1 y2 hh)) (l3 : Int) (l4 : Int) (l5 : Int) (hW : ∀ a i : Nat, (a = 160 ∨ (162 ≤ a ∧ a ≤ 166) ∨ (191 ≤ a ∧ a ≤ 193) ∨ (a = 143 ∧ i = 27)) → W a i) (h : Hp) (ag_h : Ag W h0 h) : Fr W h0 (XX12_keepsPatch_b63 self63 l3 l4 l5 h) := by
  unfold XX12_keepsPatch_b63
  refine Fr_ite ?_ ?_
  · refine Fr_cal (fg_XX12_reckons _ (fun a i hh => hW a i (Or.inr (Or.inr (Or.inl (by omega))))) _ ag_h) (fun r10 h11 ag_h11 => ?_)
    exact fg_XX12_keepsPatch_L99 _ _ _ (fun a i hh => hW a i ((fun q => q.elim (fun q => Or.inr (Or.inl (by omega))) (fun q => Or.inr (Or.inr (Or.inr (by omega))))) hh)) _ ag_h11
  · refine Fr_inb ?_
    refine Fr_inb ?_
    refine Fr_wr ag_h (hW _ _ (Or.inl (by omega))) (fun h14 ag_h14 => ?_)
    refine Fr_chk ?_
    exact hs_self63 _ _ _ _ ag_h14
theorem fg_XX12_keepsPatch_L63 {W : Nat → Nat → Prop} {h0 : Hp} (l3 : Int) (l4 : Int) (l5 : Int) (hW : ∀ a i : Nat, (a = 160 ∨ (162 ≤ a ∧ a ≤ 166) ∨ (191 ≤ a ∧ a ≤ 193) ∨ (a = 143 ∧ i = 27)) → W a i) (h : Hp) (ag_h : Ag W h0 h) : Fr W h0 (XX12_keepsPatch_L63 l3 l4 l5 h) := by
  unfold XX12_keepsPatch_L63
  exact Fr_lup3 (fun self hs z0 z1 z2 hh ag => fg_XX12_keepsPatch_b63 self hs z0 z1 z2 hW hh ag) FU _ _ _ _ ag_h
theorem fg_XX12_keepsPatch {W : Nat → Nat → Prop} {h0 : Hp} (x0 : Int) (x1 : Int) (x2 : Int) (x3 : Int) (hW : ∀ a i : Nat, ((159 ≤ a ∧ a ≤ 166) ∨ (191 ≤ a ∧ a ≤ 193) ∨ (a = 143 ∧ 23 ≤ i ∧ i ≤ 27)) → W a i) (h : Hp) (ag_h : Ag W h0 h) : Fr W h0 (XX12_keepsPatch x0 x1 x2 x3 h) := by
  unfold XX12_keepsPatch
  refine Fr_zb ?_
  refine Fr_wr ag_h (hW _ _ (Or.inr (Or.inr (by omega)))) (fun h1 ag_h1 => ?_)
  refine Fr_zb ?_
  refine Fr_wr ag_h1 (hW _ _ (Or.inr (Or.inr (by omega)))) (fun h2 ag_h2 => ?_)
  refine Fr_wr ag_h2 (hW _ _ (Or.inr (Or.inr (by omega)))) (fun h3 ag_h3 => ?_)
  refine Fr_wr ag_h3 (hW _ _ (Or.inr (Or.inr (by omega)))) (fun h4 ag_h4 => ?_)
  refine Fr_wr ag_h4 (hW _ _ (Or.inr (Or.inr (by omega)))) (fun h5 ag_h5 => ?_)
  refine Fr_inb ?_
  refine Fr_wr ag_h5 (hW _ _ (Or.inl (by omega))) (fun h6 ag_h6 => ?_)
  refine Fr_inb ?_
  refine Fr_wr ag_h6 (hW _ _ (Or.inl (by omega))) (fun h7 ag_h7 => ?_)
  refine Fr_inb ?_
  refine Fr_wr ag_h7 (hW _ _ (Or.inl (by omega))) (fun h8 ag_h8 => ?_)
  refine Fr_inb ?_
  refine Fr_wr ag_h8 (hW _ _ (Or.inl (by omega))) (fun h9 ag_h9 => ?_)
  exact fg_XX12_keepsPatch_L63 _ _ _ (fun a i hh => hW a i ((fun q => q.elim (fun q => Or.inl (by omega)) (fun q => q.elim (fun q => Or.inl (by omega)) (fun q => q.elim (fun q => Or.inr (Or.inl (by omega))) (fun q => Or.inr (Or.inr (by omega)))))) hh)) _ ag_h9
theorem fr_XX12_keepsPatch {x0 : Int} {x1 : Int} {x2 : Int} {x3 : Int} {h : Hp} {r : Int} {h1 : Hp} (e : XX12_keepsPatch x0 x1 x2 x3 h = some (r, h1)) (a i : Nat) (hn : ¬ ((159 ≤ a ∧ a ≤ 166) ∨ (191 ≤ a ∧ a ≤ 193) ∨ (a = 143 ∧ 23 ≤ i ∧ i ≤ 27))) : h1 a i = h a i := fg_XX12_keepsPatch (W := fun a i => (159 ≤ a ∧ a ≤ 166) ∨ (191 ≤ a ∧ a ≤ 193) ∨ (a = 143 ∧ 23 ≤ i ∧ i ≤ 27)) x0 x1 x2 x3 (fun _ _ hh => hh) h (fun _ _ _ => rfl) r h1 e a i hn
theorem fg_XX12_patch_p226 {W : Nat → Nat → Prop} {h0 : Hp} (self180 : Int → Int → Int → Int → Int → Hp → OR) (hs_self180 : ∀ (y0 y1 y2 y3 y4 : Int) (hh : Hp), Ag W h0 hh → Fr W h0 (self180 y0 y1 y2 y3 y4 hh)) (l1 : Int) (l2 : Int) (l6 : Int) (l7 : Int) (l9 : Int) (hW : ∀ a i : Nat, (False) → W a i) (h : Hp) (ag_h : Ag W h0 h) : Fr W h0 (XX12_patch_p226 self180 l1 l2 l6 l7 l9 h) := by
  unfold XX12_patch_p226
  refine Fr_chk ?_
  exact hs_self180 _ _ _ _ _ _ ag_h
theorem fg_XX12_patch_b180 {W : Nat → Nat → Prop} {h0 : Hp} (self180 : Int → Int → Int → Int → Int → Hp → OR) (hs_self180 : ∀ (y0 y1 y2 y3 y4 : Int) (hh : Hp), Ag W h0 hh → Fr W h0 (self180 y0 y1 y2 y3 y4 hh)) (l1 : Int) (l2 : Int) (l6 : Int) (l7 : Int) (l9 : Int) (hW : ∀ a i : Nat, ((159 ≤ a ∧ a ≤ 166) ∨ (185 ≤ a ∧ a ≤ 194) ∨ (a = 143 ∧ 21 ≤ i ∧ i ≤ 27) ∨ (a = 143 ∧ 63 ≤ i ∧ i ≤ 64) ∨ (a = 143 ∧ 71 ≤ i ∧ i ≤ 72)) → W a i) (h : Hp) (ag_h : Ag W h0 h) : Fr W h0 (XX12_patch_b180 self180 l1 l2 l6 l7 l9 h) := by
  unfold XX12_patch_b180
  refine Fr_ite ?_ ?_
  · refine Fr_cal (fg_XX12_finds _ _ _ _ _ (fun a i hh => hW a i ((fun q => q.elim (fun q => Or.inr (Or.inl (by omega))) (fun q => q.elim (fun q => Or.inr (Or.inr (Or.inl (by omega)))) (fun q => q.elim (fun q => Or.inr (Or.inr (Or.inr (Or.inl (by omega))))) (fun q => Or.inr (Or.inr (Or.inr (Or.inr (by omega)))))))) hh)) _ ag_h) (fun r6 h7 ag_h7 => ?_)
    refine Fr_zb ?_
    refine Fr_wr ag_h7 (hW _ _ (Or.inr (Or.inr (Or.inl (by omega))))) (fun h8 ag_h8 => ?_)
    refine Fr_ite ?_ ?_
    · exact Fr_some ag_h8
    · refine Fr_cal (fg_XX12_keepsPatch _ _ _ _ (fun a i hh => hW a i ((fun q => q.elim (fun q => Or.inl (by omega)) (fun q => q.elim (fun q => Or.inr (Or.inl (by omega))) (fun q => Or.inr (Or.inr (Or.inl (by omega)))))) hh)) _ ag_h8) (fun r9 h10 ag_h10 => ?_)
      exact Fr_some ag_h10
  · refine Fr_inb ?_
    refine Fr_cal (fg_XX12_looks _ _ (fun a i hh => hW a i (Or.inr (Or.inl (by omega)))) _ ag_h) (fun r11 h12 ag_h12 => ?_)
    refine Fr_inb ?_
    refine Fr_ite ?_ ?_
    · refine Fr_ite ?_ ?_
      · exact fg_XX12_patch_p226 _ hs_self180 _ _ _ _ _ (fun a i hh => hh.elim) _ ag_h12
      · refine Fr_inb ?_
        refine Fr_ite ?_ ?_
        · exact fg_XX12_patch_p226 _ hs_self180 _ _ _ _ _ (fun a i hh => hh.elim) _ ag_h12
        · exact Fr_some ag_h12
    · exact Fr_some ag_h12
theorem fg_XX12_patch_L180 {W : Nat → Nat → Prop} {h0 : Hp} (l1 : Int) (l2 : Int) (l6 : Int) (l7 : Int) (l9 : Int) (hW : ∀ a i : Nat, ((159 ≤ a ∧ a ≤ 166) ∨ (185 ≤ a ∧ a ≤ 194) ∨ (a = 143 ∧ 21 ≤ i ∧ i ≤ 27) ∨ (a = 143 ∧ 63 ≤ i ∧ i ≤ 64) ∨ (a = 143 ∧ 71 ≤ i ∧ i ≤ 72)) → W a i) (h : Hp) (ag_h : Ag W h0 h) : Fr W h0 (XX12_patch_L180 l1 l2 l6 l7 l9 h) := by
  unfold XX12_patch_L180
  exact Fr_lup5 (fun self hs z0 z1 z2 z3 z4 hh ag => fg_XX12_patch_b180 self hs z0 z1 z2 z3 z4 hW hh ag) FU _ _ _ _ _ _ ag_h
theorem fg_XX12_patch_p145 {W : Nat → Nat → Prop} {h0 : Hp} (l1 : Int) (l2 : Int) (l3 : Int) (l4 : Int) (l5 : Int) (l6 : Int) (l7 : Int) (s0 : Int) (hW : ∀ a i : Nat, ((159 ≤ a ∧ a ≤ 166) ∨ (185 ≤ a ∧ a ≤ 195) ∨ (a = 143 ∧ 21 ≤ i ∧ i ≤ 27) ∨ (a = 143 ∧ 63 ≤ i ∧ i ≤ 64) ∨ (a = 143 ∧ 71 ≤ i ∧ i ≤ 72)) → W a i) (h : Hp) (ag_h : Ag W h0 h) : Fr W h0 (XX12_patch_p145 l1 l2 l3 l4 l5 l6 l7 s0 h) := by
  unfold XX12_patch_p145
  refine Fr_ite ?_ ?_
  · exact Fr_some ag_h
  · refine Fr_inb ?_
    refine Fr_wr ag_h (hW _ _ (Or.inr (Or.inl (by omega)))) (fun h3 ag_h3 => ?_)
    refine Fr_inb ?_
    refine Fr_wr ag_h3 (hW _ _ (Or.inr (Or.inl (by omega)))) (fun h4 ag_h4 => ?_)
    refine Fr_inb ?_
    refine Fr_wr ag_h4 (hW _ _ (Or.inr (Or.inl (by omega)))) (fun h5 ag_h5 => ?_)
    exact fg_XX12_patch_L180 _ _ _ _ _ (fun a i hh => hW a i ((fun q => q.elim (fun q => Or.inl (by omega)) (fun q => q.elim (fun q => Or.inr (Or.inl (by omega))) (fun q => q.elim (fun q => Or.inr (Or.inr (Or.inl (by omega)))) (fun q => q.elim (fun q => Or.inr (Or.inr (Or.inr (Or.inl (by omega))))) (fun q => Or.inr (Or.inr (Or.inr (Or.inr (by omega))))))))) hh)) _ ag_h5
theorem fg_XX12_patch_p144 {W : Nat → Nat → Prop} {h0 : Hp} (l1 : Int) (l2 : Int) (l3 : Int) (l4 : Int) (l5 : Int) (l6 : Int) (l7 : Int) (hW : ∀ a i : Nat, ((159 ≤ a ∧ a ≤ 166) ∨ (185 ≤ a ∧ a ≤ 195) ∨ (a = 143 ∧ 21 ≤ i ∧ i ≤ 27) ∨ (a = 143 ∧ 63 ≤ i ∧ i ≤ 64) ∨ (a = 143 ∧ 71 ≤ i ∧ i ≤ 72)) → W a i) (h : Hp) (ag_h : Ag W h0 h) : Fr W h0 (XX12_patch_p144 l1 l2 l3 l4 l5 l6 l7 h) := by
  unfold XX12_patch_p144
  exact fg_XX12_patch_p145 _ _ _ _ _ _ _ _ (fun a i hh => hW a i ((fun q => q.elim (fun q => Or.inl (by omega)) (fun q => q.elim (fun q => Or.inr (Or.inl (by omega))) (fun q => q.elim (fun q => Or.inr (Or.inr (Or.inl (by omega)))) (fun q => q.elim (fun q => Or.inr (Or.inr (Or.inr (Or.inl (by omega))))) (fun q => Or.inr (Or.inr (Or.inr (Or.inr (by omega))))))))) hh)) _ ag_h
theorem fg_XX12_patch_p140 {W : Nat → Nat → Prop} {h0 : Hp} (l1 : Int) (l2 : Int) (l3 : Int) (l4 : Int) (l5 : Int) (l6 : Int) (l7 : Int) (hW : ∀ a i : Nat, ((159 ≤ a ∧ a ≤ 166) ∨ (185 ≤ a ∧ a ≤ 195) ∨ (a = 143 ∧ 21 ≤ i ∧ i ≤ 27) ∨ (a = 143 ∧ 63 ≤ i ∧ i ≤ 64) ∨ (a = 143 ∧ 71 ≤ i ∧ i ≤ 72)) → W a i) (h : Hp) (ag_h : Ag W h0 h) : Fr W h0 (XX12_patch_p140 l1 l2 l3 l4 l5 l6 l7 h) := by
  unfold XX12_patch_p140
  exact fg_XX12_patch_p145 _ _ _ _ _ _ _ _ (fun a i hh => hW a i ((fun q => q.elim (fun q => Or.inl (by omega)) (fun q => q.elim (fun q => Or.inr (Or.inl (by omega))) (fun q => q.elim (fun q => Or.inr (Or.inr (Or.inl (by omega)))) (fun q => q.elim (fun q => Or.inr (Or.inr (Or.inr (Or.inl (by omega))))) (fun q => Or.inr (Or.inr (Or.inr (Or.inr (by omega))))))))) hh)) _ ag_h
theorem fg_XX12_patch_p117 {W : Nat → Nat → Prop} {h0 : Hp} (l1 : Int) (l2 : Int) (l3 : Int) (l4 : Int) (l5 : Int) (l6 : Int) (l7 : Int) (hW : ∀ a i : Nat, ((159 ≤ a ∧ a ≤ 166) ∨ (185 ≤ a ∧ a ≤ 195) ∨ (a = 143 ∧ 21 ≤ i ∧ i ≤ 27) ∨ (a = 143 ∧ 63 ≤ i ∧ i ≤ 64) ∨ (a = 143 ∧ 71 ≤ i ∧ i ≤ 72)) → W a i) (h : Hp) (ag_h : Ag W h0 h) : Fr W h0 (XX12_patch_p117 l1 l2 l3 l4 l5 l6 l7 h) := by
  unfold XX12_patch_p117
  refine Fr_ite ?_ ?_
  · exact fg_XX12_patch_p140 _ _ _ _ _ _ _ (fun a i hh => hW a i ((fun q => q.elim (fun q => Or.inl (by omega)) (fun q => q.elim (fun q => Or.inr (Or.inl (by omega))) (fun q => q.elim (fun q => Or.inr (Or.inr (Or.inl (by omega)))) (fun q => q.elim (fun q => Or.inr (Or.inr (Or.inr (Or.inl (by omega))))) (fun q => Or.inr (Or.inr (Or.inr (Or.inr (by omega))))))))) hh)) _ ag_h
  · refine Fr_cal (fg_XX12_isWire _ _ (fun a i hh => hh.elim) _ ag_h) (fun r13 h14 ag_h14 => ?_)
    refine Fr_ite ?_ ?_
    · exact fg_XX12_patch_p144 _ _ _ _ _ _ _ (fun a i hh => hW a i ((fun q => q.elim (fun q => Or.inl (by omega)) (fun q => q.elim (fun q => Or.inr (Or.inl (by omega))) (fun q => q.elim (fun q => Or.inr (Or.inr (Or.inl (by omega)))) (fun q => q.elim (fun q => Or.inr (Or.inr (Or.inr (Or.inl (by omega))))) (fun q => Or.inr (Or.inr (Or.inr (Or.inr (by omega))))))))) hh)) _ ag_h14
    · refine Fr_ite ?_ ?_
      · exact fg_XX12_patch_p144 _ _ _ _ _ _ _ (fun a i hh => hW a i ((fun q => q.elim (fun q => Or.inl (by omega)) (fun q => q.elim (fun q => Or.inr (Or.inl (by omega))) (fun q => q.elim (fun q => Or.inr (Or.inr (Or.inl (by omega)))) (fun q => q.elim (fun q => Or.inr (Or.inr (Or.inr (Or.inl (by omega))))) (fun q => Or.inr (Or.inr (Or.inr (Or.inr (by omega))))))))) hh)) _ ag_h14
      · exact fg_XX12_patch_p140 _ _ _ _ _ _ _ (fun a i hh => hW a i ((fun q => q.elim (fun q => Or.inl (by omega)) (fun q => q.elim (fun q => Or.inr (Or.inl (by omega))) (fun q => q.elim (fun q => Or.inr (Or.inr (Or.inl (by omega)))) (fun q => q.elim (fun q => Or.inr (Or.inr (Or.inr (Or.inl (by omega))))) (fun q => Or.inr (Or.inr (Or.inr (Or.inr (by omega))))))))) hh)) _ ag_h14
theorem fg_XX12_patch_p95 {W : Nat → Nat → Prop} {h0 : Hp} (l1 : Int) (l2 : Int) (l3 : Int) (l4 : Int) (l5 : Int) (l6 : Int) (l7 : Int) (hW : ∀ a i : Nat, ((159 ≤ a ∧ a ≤ 166) ∨ (185 ≤ a ∧ a ≤ 195) ∨ (a = 143 ∧ 21 ≤ i ∧ i ≤ 27) ∨ (a = 143 ∧ 63 ≤ i ∧ i ≤ 64) ∨ (a = 143 ∧ 71 ≤ i ∧ i ≤ 72)) → W a i) (h : Hp) (ag_h : Ag W h0 h) : Fr W h0 (XX12_patch_p95 l1 l2 l3 l4 l5 l6 l7 h) := by
  unfold XX12_patch_p95
  refine Fr_ite ?_ ?_
  · exact fg_XX12_patch_p117 _ _ _ _ _ _ _ (fun a i hh => hW a i ((fun q => q.elim (fun q => Or.inl (by omega)) (fun q => q.elim (fun q => Or.inr (Or.inl (by omega))) (fun q => q.elim (fun q => Or.inr (Or.inr (Or.inl (by omega)))) (fun q => q.elim (fun q => Or.inr (Or.inr (Or.inr (Or.inl (by omega))))) (fun q => Or.inr (Or.inr (Or.inr (Or.inr (by omega))))))))) hh)) _ ag_h
  · refine Fr_cal (fg_XX12_isWire _ _ (fun a i hh => hh.elim) _ ag_h) (fun r15 h16 ag_h16 => ?_)
    refine Fr_ite ?_ ?_
    · exact fg_XX12_patch_p144 _ _ _ _ _ _ _ (fun a i hh => hW a i ((fun q => q.elim (fun q => Or.inl (by omega)) (fun q => q.elim (fun q => Or.inr (Or.inl (by omega))) (fun q => q.elim (fun q => Or.inr (Or.inr (Or.inl (by omega)))) (fun q => q.elim (fun q => Or.inr (Or.inr (Or.inr (Or.inl (by omega))))) (fun q => Or.inr (Or.inr (Or.inr (Or.inr (by omega))))))))) hh)) _ ag_h16
    · refine Fr_ite ?_ ?_
      · exact fg_XX12_patch_p144 _ _ _ _ _ _ _ (fun a i hh => hW a i ((fun q => q.elim (fun q => Or.inl (by omega)) (fun q => q.elim (fun q => Or.inr (Or.inl (by omega))) (fun q => q.elim (fun q => Or.inr (Or.inr (Or.inl (by omega)))) (fun q => q.elim (fun q => Or.inr (Or.inr (Or.inr (Or.inl (by omega))))) (fun q => Or.inr (Or.inr (Or.inr (Or.inr (by omega))))))))) hh)) _ ag_h16
      · exact fg_XX12_patch_p117 _ _ _ _ _ _ _ (fun a i hh => hW a i ((fun q => q.elim (fun q => Or.inl (by omega)) (fun q => q.elim (fun q => Or.inr (Or.inl (by omega))) (fun q => q.elim (fun q => Or.inr (Or.inr (Or.inl (by omega)))) (fun q => q.elim (fun q => Or.inr (Or.inr (Or.inr (Or.inl (by omega))))) (fun q => Or.inr (Or.inr (Or.inr (Or.inr (by omega))))))))) hh)) _ ag_h16
theorem fg_XX12_patch_p74 {W : Nat → Nat → Prop} {h0 : Hp} (l1 : Int) (l2 : Int) (l3 : Int) (l4 : Int) (l5 : Int) (l6 : Int) (l7 : Int) (s0 : Int) (hW : ∀ a i : Nat, ((159 ≤ a ∧ a ≤ 166) ∨ (185 ≤ a ∧ a ≤ 195) ∨ (a = 143 ∧ 21 ≤ i ∧ i ≤ 27) ∨ (a = 143 ∧ 63 ≤ i ∧ i ≤ 64) ∨ (a = 143 ∧ 71 ≤ i ∧ i ≤ 72)) → W a i) (h : Hp) (ag_h : Ag W h0 h) : Fr W h0 (XX12_patch_p74 l1 l2 l3 l4 l5 l6 l7 s0 h) := by
  unfold XX12_patch_p74
  refine Fr_ite ?_ ?_
  · exact fg_XX12_patch_p144 _ _ _ _ _ _ _ (fun a i hh => hW a i ((fun q => q.elim (fun q => Or.inl (by omega)) (fun q => q.elim (fun q => Or.inr (Or.inl (by omega))) (fun q => q.elim (fun q => Or.inr (Or.inr (Or.inl (by omega)))) (fun q => q.elim (fun q => Or.inr (Or.inr (Or.inr (Or.inl (by omega))))) (fun q => Or.inr (Or.inr (Or.inr (Or.inr (by omega))))))))) hh)) _ ag_h
  · refine Fr_ite ?_ ?_
    · exact fg_XX12_patch_p95 _ _ _ _ _ _ _ (fun a i hh => hW a i ((fun q => q.elim (fun q => Or.inl (by omega)) (fun q => q.elim (fun q => Or.inr (Or.inl (by omega))) (fun q => q.elim (fun q => Or.inr (Or.inr (Or.inl (by omega)))) (fun q => q.elim (fun q => Or.inr (Or.inr (Or.inr (Or.inl (by omega))))) (fun q => Or.inr (Or.inr (Or.inr (Or.inr (by omega))))))))) hh)) _ ag_h
    · refine Fr_cal (fg_XX12_isWire _ _ (fun a i hh => hh.elim) _ ag_h) (fun r17 h18 ag_h18 => ?_)
      refine Fr_ite ?_ ?_
      · exact fg_XX12_patch_p144 _ _ _ _ _ _ _ (fun a i hh => hW a i ((fun q => q.elim (fun q => Or.inl (by omega)) (fun q => q.elim (fun q => Or.inr (Or.inl (by omega))) (fun q => q.elim (fun q => Or.inr (Or.inr (Or.inl (by omega)))) (fun q => q.elim (fun q => Or.inr (Or.inr (Or.inr (Or.inl (by omega))))) (fun q => Or.inr (Or.inr (Or.inr (Or.inr (by omega))))))))) hh)) _ ag_h18
      · exact fg_XX12_patch_p95 _ _ _ _ _ _ _ (fun a i hh => hW a i ((fun q => q.elim (fun q => Or.inl (by omega)) (fun q => q.elim (fun q => Or.inr (Or.inl (by omega))) (fun q => q.elim (fun q => Or.inr (Or.inr (Or.inl (by omega)))) (fun q => q.elim (fun q => Or.inr (Or.inr (Or.inr (Or.inl (by omega))))) (fun q => Or.inr (Or.inr (Or.inr (Or.inr (by omega))))))))) hh)) _ ag_h18
theorem fg_XX12_patch_p73 {W : Nat → Nat → Prop} {h0 : Hp} (l1 : Int) (l2 : Int) (l3 : Int) (l4 : Int) (l5 : Int) (l6 : Int) (l7 : Int) (hW : ∀ a i : Nat, ((159 ≤ a ∧ a ≤ 166) ∨ (185 ≤ a ∧ a ≤ 195) ∨ (a = 143 ∧ 21 ≤ i ∧ i ≤ 27) ∨ (a = 143 ∧ 63 ≤ i ∧ i ≤ 64) ∨ (a = 143 ∧ 71 ≤ i ∧ i ≤ 72)) → W a i) (h : Hp) (ag_h : Ag W h0 h) : Fr W h0 (XX12_patch_p73 l1 l2 l3 l4 l5 l6 l7 h) := by
  unfold XX12_patch_p73
  exact fg_XX12_patch_p74 _ _ _ _ _ _ _ _ (fun a i hh => hW a i ((fun q => q.elim (fun q => Or.inl (by omega)) (fun q => q.elim (fun q => Or.inr (Or.inl (by omega))) (fun q => q.elim (fun q => Or.inr (Or.inr (Or.inl (by omega)))) (fun q => q.elim (fun q => Or.inr (Or.inr (Or.inr (Or.inl (by omega))))) (fun q => Or.inr (Or.inr (Or.inr (Or.inr (by omega))))))))) hh)) _ ag_h
theorem fg_XX12_patch_p69 {W : Nat → Nat → Prop} {h0 : Hp} (l1 : Int) (l2 : Int) (l3 : Int) (l4 : Int) (l5 : Int) (l6 : Int) (l7 : Int) (hW : ∀ a i : Nat, ((159 ≤ a ∧ a ≤ 166) ∨ (185 ≤ a ∧ a ≤ 195) ∨ (a = 143 ∧ 21 ≤ i ∧ i ≤ 27) ∨ (a = 143 ∧ 63 ≤ i ∧ i ≤ 64) ∨ (a = 143 ∧ 71 ≤ i ∧ i ≤ 72)) → W a i) (h : Hp) (ag_h : Ag W h0 h) : Fr W h0 (XX12_patch_p69 l1 l2 l3 l4 l5 l6 l7 h) := by
  unfold XX12_patch_p69
  exact fg_XX12_patch_p74 _ _ _ _ _ _ _ _ (fun a i hh => hW a i ((fun q => q.elim (fun q => Or.inl (by omega)) (fun q => q.elim (fun q => Or.inr (Or.inl (by omega))) (fun q => q.elim (fun q => Or.inr (Or.inr (Or.inl (by omega)))) (fun q => q.elim (fun q => Or.inr (Or.inr (Or.inr (Or.inl (by omega))))) (fun q => Or.inr (Or.inr (Or.inr (Or.inr (by omega))))))))) hh)) _ ag_h
theorem fg_XX12_patch_p57 {W : Nat → Nat → Prop} {h0 : Hp} (l1 : Int) (l2 : Int) (l3 : Int) (l4 : Int) (l5 : Int) (l6 : Int) (l7 : Int) (hW : ∀ a i : Nat, ((159 ≤ a ∧ a ≤ 166) ∨ (185 ≤ a ∧ a ≤ 195) ∨ (a = 143 ∧ 21 ≤ i ∧ i ≤ 27) ∨ (a = 143 ∧ 63 ≤ i ∧ i ≤ 64) ∨ (a = 143 ∧ 71 ≤ i ∧ i ≤ 72)) → W a i) (h : Hp) (ag_h : Ag W h0 h) : Fr W h0 (XX12_patch_p57 l1 l2 l3 l4 l5 l6 l7 h) := by
  unfold XX12_patch_p57
  refine Fr_ite ?_ ?_
  · refine Fr_ite ?_ ?_
    · exact fg_XX12_patch_p69 _ _ _ _ _ _ _ (fun a i hh => hW a i ((fun q => q.elim (fun q => Or.inl (by omega)) (fun q => q.elim (fun q => Or.inr (Or.inl (by omega))) (fun q => q.elim (fun q => Or.inr (Or.inr (Or.inl (by omega)))) (fun q => q.elim (fun q => Or.inr (Or.inr (Or.inr (Or.inl (by omega))))) (fun q => Or.inr (Or.inr (Or.inr (Or.inr (by omega))))))))) hh)) _ ag_h
    · exact fg_XX12_patch_p73 _ _ _ _ _ _ _ (fun a i hh => hW a i ((fun q => q.elim (fun q => Or.inl (by omega)) (fun q => q.elim (fun q => Or.inr (Or.inl (by omega))) (fun q => q.elim (fun q => Or.inr (Or.inr (Or.inl (by omega)))) (fun q => q.elim (fun q => Or.inr (Or.inr (Or.inr (Or.inl (by omega))))) (fun q => Or.inr (Or.inr (Or.inr (Or.inr (by omega))))))))) hh)) _ ag_h
  · exact fg_XX12_patch_p69 _ _ _ _ _ _ _ (fun a i hh => hW a i ((fun q => q.elim (fun q => Or.inl (by omega)) (fun q => q.elim (fun q => Or.inr (Or.inl (by omega))) (fun q => q.elim (fun q => Or.inr (Or.inr (Or.inl (by omega)))) (fun q => q.elim (fun q => Or.inr (Or.inr (Or.inr (Or.inl (by omega))))) (fun q => Or.inr (Or.inr (Or.inr (Or.inr (by omega))))))))) hh)) _ ag_h
theorem fg_XX12_patch_p39 {W : Nat → Nat → Prop} {h0 : Hp} (l1 : Int) (l2 : Int) (l3 : Int) (l4 : Int) (l5 : Int) (l6 : Int) (s0 : Int) (hW : ∀ a i : Nat, ((159 ≤ a ∧ a ≤ 166) ∨ (185 ≤ a ∧ a ≤ 195) ∨ (a = 143 ∧ 21 ≤ i ∧ i ≤ 27) ∨ (a = 143 ∧ 63 ≤ i ∧ i ≤ 64) ∨ (a = 143 ∧ 71 ≤ i ∧ i ≤ 72)) → W a i) (h : Hp) (ag_h : Ag W h0 h) : Fr W h0 (XX12_patch_p39 l1 l2 l3 l4 l5 l6 s0 h) := by
  unfold XX12_patch_p39
  refine Fr_ite ?_ ?_
  · exact fg_XX12_patch_p73 _ _ _ _ _ _ _ (fun a i hh => hW a i ((fun q => q.elim (fun q => Or.inl (by omega)) (fun q => q.elim (fun q => Or.inr (Or.inl (by omega))) (fun q => q.elim (fun q => Or.inr (Or.inr (Or.inl (by omega)))) (fun q => q.elim (fun q => Or.inr (Or.inr (Or.inr (Or.inl (by omega))))) (fun q => Or.inr (Or.inr (Or.inr (Or.inr (by omega))))))))) hh)) _ ag_h
  · refine Fr_ite ?_ ?_
    · refine Fr_ite ?_ ?_
      · exact fg_XX12_patch_p57 _ _ _ _ _ _ _ (fun a i hh => hW a i ((fun q => q.elim (fun q => Or.inl (by omega)) (fun q => q.elim (fun q => Or.inr (Or.inl (by omega))) (fun q => q.elim (fun q => Or.inr (Or.inr (Or.inl (by omega)))) (fun q => q.elim (fun q => Or.inr (Or.inr (Or.inr (Or.inl (by omega))))) (fun q => Or.inr (Or.inr (Or.inr (Or.inr (by omega))))))))) hh)) _ ag_h
      · exact fg_XX12_patch_p73 _ _ _ _ _ _ _ (fun a i hh => hW a i ((fun q => q.elim (fun q => Or.inl (by omega)) (fun q => q.elim (fun q => Or.inr (Or.inl (by omega))) (fun q => q.elim (fun q => Or.inr (Or.inr (Or.inl (by omega)))) (fun q => q.elim (fun q => Or.inr (Or.inr (Or.inr (Or.inl (by omega))))) (fun q => Or.inr (Or.inr (Or.inr (Or.inr (by omega))))))))) hh)) _ ag_h
    · exact fg_XX12_patch_p57 _ _ _ _ _ _ _ (fun a i hh => hW a i ((fun q => q.elim (fun q => Or.inl (by omega)) (fun q => q.elim (fun q => Or.inr (Or.inl (by omega))) (fun q => q.elim (fun q => Or.inr (Or.inr (Or.inl (by omega)))) (fun q => q.elim (fun q => Or.inr (Or.inr (Or.inr (Or.inl (by omega))))) (fun q => Or.inr (Or.inr (Or.inr (Or.inr (by omega))))))))) hh)) _ ag_h
theorem fg_XX12_patch {W : Nat → Nat → Prop} {h0 : Hp} (x0 : Int) (x1 : Int) (x2 : Int) (x3 : Int) (x4 : Int) (hW : ∀ a i : Nat, ((159 ≤ a ∧ a ≤ 166) ∨ (185 ≤ a ∧ a ≤ 195) ∨ (a = 143 ∧ 21 ≤ i ∧ i ≤ 27) ∨ (a = 143 ∧ 63 ≤ i ∧ i ≤ 64) ∨ (a = 143 ∧ 71 ≤ i ∧ i ≤ 72)) → W a i) (h : Hp) (ag_h : Ag W h0 h) : Fr W h0 (XX12_patch x0 x1 x2 x3 x4 h) := by
  unfold XX12_patch
  refine Fr_cal (fg_XX12_arePoints _ _ _ (fun a i hh => hh.elim) _ ag_h) (fun r1 h2 ag_h2 => ?_)
  refine Fr_ite ?_ ?_
  · exact fg_XX12_patch_p39 _ _ _ _ _ _ _ (fun a i hh => hW a i ((fun q => q.elim (fun q => Or.inl (by omega)) (fun q => q.elim (fun q => Or.inr (Or.inl (by omega))) (fun q => q.elim (fun q => Or.inr (Or.inr (Or.inl (by omega)))) (fun q => q.elim (fun q => Or.inr (Or.inr (Or.inr (Or.inl (by omega))))) (fun q => Or.inr (Or.inr (Or.inr (Or.inr (by omega))))))))) hh)) _ ag_h2
  · refine Fr_ite ?_ ?_
    · exact fg_XX12_patch_p39 _ _ _ _ _ _ _ (fun a i hh => hW a i ((fun q => q.elim (fun q => Or.inl (by omega)) (fun q => q.elim (fun q => Or.inr (Or.inl (by omega))) (fun q => q.elim (fun q => Or.inr (Or.inr (Or.inl (by omega)))) (fun q => q.elim (fun q => Or.inr (Or.inr (Or.inr (Or.inl (by omega))))) (fun q => Or.inr (Or.inr (Or.inr (Or.inr (by omega))))))))) hh)) _ ag_h2
    · refine Fr_ite ?_ ?_
      · exact fg_XX12_patch_p39 _ _ _ _ _ _ _ (fun a i hh => hW a i ((fun q => q.elim (fun q => Or.inl (by omega)) (fun q => q.elim (fun q => Or.inr (Or.inl (by omega))) (fun q => q.elim (fun q => Or.inr (Or.inr (Or.inl (by omega)))) (fun q => q.elim (fun q => Or.inr (Or.inr (Or.inr (Or.inl (by omega))))) (fun q => Or.inr (Or.inr (Or.inr (Or.inr (by omega))))))))) hh)) _ ag_h2
      · exact fg_XX12_patch_p39 _ _ _ _ _ _ _ (fun a i hh => hW a i ((fun q => q.elim (fun q => Or.inl (by omega)) (fun q => q.elim (fun q => Or.inr (Or.inl (by omega))) (fun q => q.elim (fun q => Or.inr (Or.inr (Or.inl (by omega)))) (fun q => q.elim (fun q => Or.inr (Or.inr (Or.inr (Or.inl (by omega))))) (fun q => Or.inr (Or.inr (Or.inr (Or.inr (by omega))))))))) hh)) _ ag_h2
theorem fr_XX12_patch {x0 : Int} {x1 : Int} {x2 : Int} {x3 : Int} {x4 : Int} {h : Hp} {r : Int} {h1 : Hp} (e : XX12_patch x0 x1 x2 x3 x4 h = some (r, h1)) (a i : Nat) (hn : ¬ ((159 ≤ a ∧ a ≤ 166) ∨ (185 ≤ a ∧ a ≤ 195) ∨ (a = 143 ∧ 21 ≤ i ∧ i ≤ 27) ∨ (a = 143 ∧ 63 ≤ i ∧ i ≤ 64) ∨ (a = 143 ∧ 71 ≤ i ∧ i ≤ 72))) : h1 a i = h a i := fg_XX12_patch (W := fun a i => (159 ≤ a ∧ a ≤ 166) ∨ (185 ≤ a ∧ a ≤ 195) ∨ (a = 143 ∧ 21 ≤ i ∧ i ≤ 27) ∨ (a = 143 ∧ 63 ≤ i ∧ i ≤ 64) ∨ (a = 143 ∧ 71 ≤ i ∧ i ≤ 72)) x0 x1 x2 x3 x4 (fun _ _ hh => hh) h (fun _ _ _ => rfl) r h1 e a i hn
theorem fg_XX12_clash {W : Nat → Nat → Prop} {h0 : Hp} (x0 : Int) (hW : ∀ a i : Nat, (False) → W a i) (h : Hp) (ag_h : Ag W h0 h) : Fr W h0 (XX12_clash x0 h) := by
  unfold XX12_clash
  refine Fr_ite ?_ ?_
  · exact Fr_some ag_h
  · refine Fr_ite ?_ ?_
    · exact Fr_some ag_h
    · exact Fr_some ag_h
theorem fr_XX12_clash {x0 : Int} {h : Hp} {r : Int} {h1 : Hp} (e : XX12_clash x0 h = some (r, h1)) (a i : Nat) (hn : ¬ (False)) : h1 a i = h a i := fg_XX12_clash (W := fun a i => False) x0 (fun _ _ hh => hh) h (fun _ _ _ => rfl) r h1 e a i hn
theorem fe_XX12_clash {x0 : Int} {h : Hp} {r : Int} {h1 : Hp} (e : XX12_clash x0 h = some (r, h1)) : h1 = h := funext (fun a => funext (fun i => fr_XX12_clash e a i (fun hh => hh)))
theorem fg_XX12_marked_p26 {W : Nat → Nat → Prop} {h0 : Hp} (self4 : Int → Int → Hp → OR) (hs_self4 : ∀ (y0 y1 : Int) (hh : Hp), Ag W h0 hh → Fr W h0 (self4 y0 y1 hh)) (l2 : Int) (s0 : Int) (s1 : Int) (hW : ∀ a i : Nat, (False) → W a i) (h : Hp) (ag_h : Ag W h0 h) : Fr W h0 (XX12_marked_p26 self4 l2 s0 s1 h) := by
  unfold XX12_marked_p26
  refine Fr_chk ?_
  refine Fr_nm (fun v1 => ?_)
  refine Fr_chk ?_
  exact hs_self4 _ _ _ ag_h
theorem fg_XX12_marked_b4 {W : Nat → Nat → Prop} {h0 : Hp} (self4 : Int → Int → Hp → OR) (hs_self4 : ∀ (y0 y1 : Int) (hh : Hp), Ag W h0 hh → Fr W h0 (self4 y0 y1 hh)) (l1 : Int) (l2 : Int) (hW : ∀ a i : Nat, (False) → W a i) (h : Hp) (ag_h : Ag W h0 h) : Fr W h0 (XX12_marked_b4 self4 l1 l2 h) := by
  unfold XX12_marked_b4
  refine Fr_ite ?_ ?_
  · exact Fr_some ag_h
  · refine Fr_inb ?_
    refine Fr_ite ?_ ?_
    · exact fg_XX12_marked_p26 _ hs_self4 _ _ _ (fun a i hh => hh.elim) _ ag_h
    · exact fg_XX12_marked_p26 _ hs_self4 _ _ _ (fun a i hh => hh.elim) _ ag_h
theorem fg_XX12_marked_L4 {W : Nat → Nat → Prop} {h0 : Hp} (l1 : Int) (l2 : Int) (hW : ∀ a i : Nat, (False) → W a i) (h : Hp) (ag_h : Ag W h0 h) : Fr W h0 (XX12_marked_L4 l1 l2 h) := by
  unfold XX12_marked_L4
  exact Fr_lup2 (fun self hs z0 z1 hh ag => fg_XX12_marked_b4 self hs z0 z1 hW hh ag) FU _ _ _ ag_h
theorem fg_XX12_marked {W : Nat → Nat → Prop} {h0 : Hp} (hW : ∀ a i : Nat, (False) → W a i) (h : Hp) (ag_h : Ag W h0 h) : Fr W h0 (XX12_marked  h) := by
  unfold XX12_marked
  exact fg_XX12_marked_L4 _ _ (fun a i hh => hh.elim) _ ag_h
theorem fr_XX12_marked {h : Hp} {r : Int} {h1 : Hp} (e : XX12_marked  h = some (r, h1)) (a i : Nat) (hn : ¬ (False)) : h1 a i = h a i := fg_XX12_marked (W := fun a i => False)  (fun _ _ hh => hh) h (fun _ _ _ => rfl) r h1 e a i hn
theorem fe_XX12_marked {h : Hp} {r : Int} {h1 : Hp} (e : XX12_marked  h = some (r, h1)) : h1 = h := funext (fun a => funext (fun i => fr_XX12_marked e a i (fun hh => hh)))
theorem fg_XX12_mark_p48 {W : Nat → Nat → Prop} {h0 : Hp} (l1 : Int) (l2 : Int) (hW : ∀ a i : Nat, (a = 157) → W a i) (h : Hp) (ag_h : Ag W h0 h) : Fr W h0 (XX12_mark_p48 l1 l2 h) := by
  unfold XX12_mark_p48
  refine Fr_inb ?_
  refine Fr_wr ag_h (hW _ _ (by omega)) (fun h5 ag_h5 => ?_)
  refine Fr_cal (fg_XX12_marked (fun a i hh => hh.elim) _ ag_h5) (fun r6 h7 ag_h7 => ?_)
  exact Fr_some ag_h7
theorem fg_XX12_mark {W : Nat → Nat → Prop} {h0 : Hp} (x0 : Int) (x1 : Int) (hW : ∀ a i : Nat, (a = 157) → W a i) (h : Hp) (ag_h : Ag W h0 h) : Fr W h0 (XX12_mark x0 x1 h) := by
  unfold XX12_mark
  refine Fr_cal (fg_XX12_isWire _ _ (fun a i hh => hh.elim) _ ag_h) (fun r1 h2 ag_h2 => ?_)
  refine Fr_ite ?_ ?_
  · exact Fr_some ag_h2
  · refine Fr_cal (fg_XX12_in _ _ _ (fun a i hh => hh.elim) _ ag_h2) (fun r3 h4 ag_h4 => ?_)
    refine Fr_ite ?_ ?_
    · exact Fr_some ag_h4
    · refine Fr_ite ?_ ?_
      · exact fg_XX12_mark_p48 _ _ (fun a i hh => hW a i (by omega)) _ ag_h4
      · refine Fr_inb ?_
        refine Fr_ite ?_ ?_
        · refine Fr_cal (fg_XX12_marked (fun a i hh => hh.elim) _ ag_h4) (fun r8 h9 ag_h9 => ?_)
          refine Fr_ite ?_ ?_
          · exact Fr_some ag_h9
          · exact fg_XX12_mark_p48 _ _ (fun a i hh => hW a i (by omega)) _ ag_h9
        · exact fg_XX12_mark_p48 _ _ (fun a i hh => hW a i (by omega)) _ ag_h4
theorem fr_XX12_mark {x0 : Int} {x1 : Int} {h : Hp} {r : Int} {h1 : Hp} (e : XX12_mark x0 x1 h = some (r, h1)) (a i : Nat) (hn : ¬ (a = 157)) : h1 a i = h a i := fg_XX12_mark (W := fun a i => a = 157) x0 x1 (fun _ _ hh => hh) h (fun _ _ _ => rfl) r h1 e a i hn
theorem fg_XX12_tries_b91 {W : Nat → Nat → Prop} {h0 : Hp} (self91 : Int → Int → Hp → OR) (hs_self91 : ∀ (y0 y1 : Int) (hh : Hp), Ag W h0 hh → Fr W h0 (self91 y0 y1 hh)) (l2 : Int) (l5 : Int) (hW : ∀ a i : Nat, (a = 196) → W a i) (h : Hp) (ag_h : Ag W h0 h) : Fr W h0 (XX12_tries_b91 self91 l2 l5 h) := by
  unfold XX12_tries_b91
  refine Fr_ite ?_ ?_
  · exact Fr_some ag_h
  · refine Fr_inb ?_
    refine Fr_inb ?_
    refine Fr_wr ag_h (hW _ _ (by omega)) (fun h5 ag_h5 => ?_)
    refine Fr_chk ?_
    exact hs_self91 _ _ _ ag_h5
theorem fg_XX12_tries_L91 {W : Nat → Nat → Prop} {h0 : Hp} (l2 : Int) (l5 : Int) (hW : ∀ a i : Nat, (a = 196) → W a i) (h : Hp) (ag_h : Ag W h0 h) : Fr W h0 (XX12_tries_L91 l2 l5 h) := by
  unfold XX12_tries_L91
  exact Fr_lup2 (fun self hs z0 z1 hh ag => fg_XX12_tries_b91 self hs z0 z1 hW hh ag) FU _ _ _ ag_h
theorem fg_XX12_tries_p72 {W : Nat → Nat → Prop} {h0 : Hp} (l2 : Int) (l3 : Int) (l4 : Int) (hW : ∀ a i : Nat, (a = 196 ∨ (a = 143 ∧ 73 ≤ i ∧ i ≤ 74)) → W a i) (h : Hp) (ag_h : Ag W h0 h) : Fr W h0 (XX12_tries_p72 l2 l3 l4 h) := by
  unfold XX12_tries_p72
  refine Fr_chk ?_
  refine Fr_chk ?_
  refine Fr_wr ag_h (hW _ _ (Or.inr (by omega))) (fun h3 ag_h3 => ?_)
  refine Fr_wr ag_h3 (hW _ _ (Or.inr (by omega))) (fun h4 ag_h4 => ?_)
  exact fg_XX12_tries_L91 _ _ (fun a i hh => hW a i (Or.inl (by omega))) _ ag_h4
theorem fg_XX12_tries_b5 {W : Nat → Nat → Prop} {h0 : Hp} (self5 : Int → Int → Int → Int → Hp → OR) (hs_self5 : ∀ (y0 y1 y2 y3 : Int) (hh : Hp), Ag W h0 hh → Fr W h0 (self5 y0 y1 y2 y3 hh)) (l1 : Int) (l2 : Int) (l3 : Int) (l4 : Int) (hW : ∀ a i : Nat, ((186 ≤ a ∧ a ≤ 194) ∨ a = 196 ∨ (a = 143 ∧ 21 ≤ i ∧ i ≤ 22) ∨ (a = 143 ∧ 63 ≤ i ∧ i ≤ 64) ∨ (a = 143 ∧ 71 ≤ i ∧ i ≤ 74)) → W a i) (h : Hp) (ag_h : Ag W h0 h) : Fr W h0 (XX12_tries_b5 self5 l1 l2 l3 l4 h) := by
  unfold XX12_tries_b5
  refine Fr_ite ?_ ?_
  · refine Fr_cal (fg_XX12_finds _ _ _ _ _ (fun a i hh => hW a i ((fun q => q.elim (fun q => Or.inl (by omega)) (fun q => q.elim (fun q => Or.inr (Or.inr (Or.inl (by omega)))) (fun q => q.elim (fun q => Or.inr (Or.inr (Or.inr (Or.inl (by omega))))) (fun q => Or.inr (Or.inr (Or.inr (Or.inr (by omega)))))))) hh)) _ ag_h) (fun r1 h2 ag_h2 => ?_)
    refine Fr_ite ?_ ?_
    · exact Fr_some ag_h2
    · refine Fr_ite ?_ ?_
      · exact fg_XX12_tries_p72 _ _ _ (fun a i hh => hW a i ((fun q => q.elim (fun q => Or.inr (Or.inl (by omega))) (fun q => Or.inr (Or.inr (Or.inr (Or.inr (by omega)))))) hh)) _ ag_h2
      · refine Fr_chk ?_
        refine Fr_chk ?_
        refine Fr_ite ?_ ?_
        · exact Fr_some ag_h2
        · exact fg_XX12_tries_p72 _ _ _ (fun a i hh => hW a i ((fun q => q.elim (fun q => Or.inr (Or.inl (by omega))) (fun q => Or.inr (Or.inr (Or.inr (Or.inr (by omega)))))) hh)) _ ag_h2
  · refine Fr_inb ?_
    refine Fr_inb ?_
    refine Fr_chk ?_
    refine Fr_nm (fun v6 => ?_)
    refine Fr_chk ?_
    exact hs_self5 _ _ _ _ _ ag_h
theorem fg_XX12_tries_L5 {W : Nat → Nat → Prop} {h0 : Hp} (l1 : Int) (l2 : Int) (l3 : Int) (l4 : Int) (hW : ∀ a i : Nat, ((186 ≤ a ∧ a ≤ 194) ∨ a = 196 ∨ (a = 143 ∧ 21 ≤ i ∧ i ≤ 22) ∨ (a = 143 ∧ 63 ≤ i ∧ i ≤ 64) ∨ (a = 143 ∧ 71 ≤ i ∧ i ≤ 74)) → W a i) (h : Hp) (ag_h : Ag W h0 h) : Fr W h0 (XX12_tries_L5 l1 l2 l3 l4 h) := by
  unfold XX12_tries_L5
  exact Fr_lup4 (fun self hs z0 z1 z2 z3 hh ag => fg_XX12_tries_b5 self hs z0 z1 z2 z3 hW hh ag) FU _ _ _ _ _ ag_h
theorem fg_XX12_tries {W : Nat → Nat → Prop} {h0 : Hp} (x0 : Int) (x1 : Int) (hW : ∀ a i : Nat, ((186 ≤ a ∧ a ≤ 194) ∨ a = 196 ∨ (a = 143 ∧ 21 ≤ i ∧ i ≤ 22) ∨ (a = 143 ∧ 63 ≤ i ∧ i ≤ 64) ∨ (a = 143 ∧ 71 ≤ i ∧ i ≤ 74)) → W a i) (h : Hp) (ag_h : Ag W h0 h) : Fr W h0 (XX12_tries x0 x1 h) := by
  unfold XX12_tries
  exact fg_XX12_tries_L5 _ _ _ _ (fun a i hh => hW a i ((fun q => q.elim (fun q => Or.inl (by omega)) (fun q => q.elim (fun q => Or.inr (Or.inl (by omega))) (fun q => q.elim (fun q => Or.inr (Or.inr (Or.inl (by omega)))) (fun q => q.elim (fun q => Or.inr (Or.inr (Or.inr (Or.inl (by omega))))) (fun q => Or.inr (Or.inr (Or.inr (Or.inr (by omega))))))))) hh)) _ ag_h
theorem fr_XX12_tries {x0 : Int} {x1 : Int} {h : Hp} {r : Int} {h1 : Hp} (e : XX12_tries x0 x1 h = some (r, h1)) (a i : Nat) (hn : ¬ ((186 ≤ a ∧ a ≤ 194) ∨ a = 196 ∨ (a = 143 ∧ 21 ≤ i ∧ i ≤ 22) ∨ (a = 143 ∧ 63 ≤ i ∧ i ≤ 64) ∨ (a = 143 ∧ 71 ≤ i ∧ i ≤ 74))) : h1 a i = h a i := fg_XX12_tries (W := fun a i => (186 ≤ a ∧ a ≤ 194) ∨ a = 196 ∨ (a = 143 ∧ 21 ≤ i ∧ i ≤ 22) ∨ (a = 143 ∧ 63 ≤ i ∧ i ≤ 64) ∨ (a = 143 ∧ 71 ≤ i ∧ i ≤ 74)) x0 x1 (fun _ _ hh => hh) h (fun _ _ _ => rfl) r h1 e a i hn
theorem fg_XX12_best_b273 {W : Nat → Nat → Prop} {h0 : Hp} (self273 : Int → Int → Hp → OR) (hs_self273 : ∀ (y0 y1 : Int) (hh : Hp), Ag W h0 hh → Fr W h0 (self273 y0 y1 hh)) (l1 : Int) (l3 : Int) (hW : ∀ a i : Nat, ((159 ≤ a ∧ a ≤ 166) ∨ (186 ≤ a ∧ a ≤ 195) ∨ (a = 143 ∧ 21 ≤ i ∧ i ≤ 27) ∨ (a = 143 ∧ 63 ≤ i ∧ i ≤ 64) ∨ (a = 143 ∧ 71 ≤ i ∧ i ≤ 72)) → W a i) (h : Hp) (ag_h : Ag W h0 h) : Fr W h0 (XX12_best_b273 self273 l1 l3 h) := by
  unfold XX12_best_b273
  refine Fr_ite ?_ ?_
  · refine Fr_cal (fg_XX12_finds _ _ _ _ _ (fun a i hh => hW a i ((fun q => q.elim (fun q => Or.inr (Or.inl (by omega))) (fun q => q.elim (fun q => Or.inr (Or.inr (Or.inl (by omega)))) (fun q => q.elim (fun q => Or.inr (Or.inr (Or.inr (Or.inl (by omega))))) (fun q => Or.inr (Or.inr (Or.inr (Or.inr (by omega)))))))) hh)) _ ag_h) (fun r9 h10 ag_h10 => ?_)
    refine Fr_cal (fg_XX12_keepsPatch _ _ _ _ (fun a i hh => hW a i ((fun q => q.elim (fun q => Or.inl (by omega)) (fun q => q.elim (fun q => Or.inr (Or.inl (by omega))) (fun q => Or.inr (Or.inr (Or.inl (by omega)))))) hh)) _ ag_h10) (fun r11 h12 ag_h12 => ?_)
    exact Fr_some ag_h12
  · refine Fr_inb ?_
    refine Fr_inb ?_
    refine Fr_wr ag_h (hW _ _ (Or.inr (Or.inl (by omega)))) (fun h13 ag_h13 => ?_)
    refine Fr_chk ?_
    exact hs_self273 _ _ _ ag_h13
theorem fg_XX12_best_L273 {W : Nat → Nat → Prop} {h0 : Hp} (l1 : Int) (l3 : Int) (hW : ∀ a i : Nat, ((159 ≤ a ∧ a ≤ 166) ∨ (186 ≤ a ∧ a ≤ 195) ∨ (a = 143 ∧ 21 ≤ i ∧ i ≤ 27) ∨ (a = 143 ∧ 63 ≤ i ∧ i ≤ 64) ∨ (a = 143 ∧ 71 ≤ i ∧ i ≤ 72)) → W a i) (h : Hp) (ag_h : Ag W h0 h) : Fr W h0 (XX12_best_L273 l1 l3 h) := by
  unfold XX12_best_L273
  exact Fr_lup2 (fun self hs z0 z1 hh ag => fg_XX12_best_b273 self hs z0 z1 hW hh ag) FU _ _ _ ag_h
theorem fg_XX12_best_b192 {W : Nat → Nat → Prop} {h0 : Hp} (self170 : Int → Int → Int → Hp → OR) (hs_self170 : ∀ (y0 y1 y2 : Int) (hh : Hp), Ag W h0 hh → Fr W h0 (self170 y0 y1 y2 hh)) (self180 : Int → Int → Int → Int → Hp → OR) (hs_self180 : ∀ (y0 y1 y2 y3 : Int) (hh : Hp), Ag W h0 hh → Fr W h0 (self180 y0 y1 y2 y3 hh)) (self192 : Int → Int → Int → Int → Int → Hp → OR) (hs_self192 : ∀ (y0 y1 y2 y3 y4 : Int) (hh : Hp), Ag W h0 hh → Fr W h0 (self192 y0 y1 y2 y3 y4 hh)) (l1 : Int) (l2 : Int) (l3 : Int) (l4 : Int) (l5 : Int) (hW : ∀ a i : Nat, ((186 ≤ a ∧ a ≤ 196) ∨ (a = 143 ∧ 21 ≤ i ∧ i ≤ 22) ∨ (a = 143 ∧ 63 ≤ i ∧ i ≤ 64) ∨ (a = 143 ∧ 71 ≤ i ∧ i ≤ 74)) → W a i) (h : Hp) (ag_h : Ag W h0 h) : Fr W h0 (XX12_best_b192 self170 self180 self192 l1 l2 l3 l4 l5 h) := by
  unfold XX12_best_b192
  refine Fr_ite ?_ ?_
  · refine Fr_chk ?_
    exact hs_self180 _ _ _ _ _ ag_h
  · refine Fr_inb ?_
    refine Fr_inb ?_
    refine Fr_wr ag_h (hW _ _ (Or.inl (by omega))) (fun h16 ag_h16 => ?_)
    refine Fr_inb ?_
    refine Fr_inb ?_
    refine Fr_wr ag_h16 (hW _ _ (Or.inl (by omega))) (fun h17 ag_h17 => ?_)
    refine Fr_inb ?_
    refine Fr_inb ?_
    refine Fr_wr ag_h17 (hW _ _ (Or.inl (by omega))) (fun h18 ag_h18 => ?_)
    refine Fr_cal (fg_XX12_tries _ _ (fun a i hh => hW a i ((fun q => q.elim (fun q => Or.inl (by omega)) (fun q => q.elim (fun q => Or.inl (by omega)) (fun q => q.elim (fun q => Or.inr (Or.inl (by omega))) (fun q => q.elim (fun q => Or.inr (Or.inr (Or.inl (by omega)))) (fun q => Or.inr (Or.inr (Or.inr (by omega)))))))) hh)) _ ag_h18) (fun r19 h20 ag_h20 => ?_)
    refine Fr_chk ?_
    exact hs_self192 _ _ _ _ _ _ ag_h20
theorem fg_XX12_best_L192 {W : Nat → Nat → Prop} {h0 : Hp} (self170 : Int → Int → Int → Hp → OR) (hs_self170 : ∀ (y0 y1 y2 : Int) (hh : Hp), Ag W h0 hh → Fr W h0 (self170 y0 y1 y2 hh)) (self180 : Int → Int → Int → Int → Hp → OR) (hs_self180 : ∀ (y0 y1 y2 y3 : Int) (hh : Hp), Ag W h0 hh → Fr W h0 (self180 y0 y1 y2 y3 hh)) (l1 : Int) (l2 : Int) (l3 : Int) (l4 : Int) (l5 : Int) (hW : ∀ a i : Nat, ((186 ≤ a ∧ a ≤ 196) ∨ (a = 143 ∧ 21 ≤ i ∧ i ≤ 22) ∨ (a = 143 ∧ 63 ≤ i ∧ i ≤ 64) ∨ (a = 143 ∧ 71 ≤ i ∧ i ≤ 74)) → W a i) (h : Hp) (ag_h : Ag W h0 h) : Fr W h0 (XX12_best_L192 self170 self180 l1 l2 l3 l4 l5 h) := by
  unfold XX12_best_L192
  exact Fr_lup5 (fun self hs z0 z1 z2 z3 z4 hh ag => fg_XX12_best_b192 self170 hs_self170 self180 hs_self180 self hs z0 z1 z2 z3 z4 hW hh ag) FU _ _ _ _ _ _ ag_h
theorem fg_XX12_best_b180 {W : Nat → Nat → Prop} {h0 : Hp} (self170 : Int → Int → Int → Hp → OR) (hs_self170 : ∀ (y0 y1 y2 : Int) (hh : Hp), Ag W h0 hh → Fr W h0 (self170 y0 y1 y2 hh)) (self180 : Int → Int → Int → Int → Hp → OR) (hs_self180 : ∀ (y0 y1 y2 y3 : Int) (hh : Hp), Ag W h0 hh → Fr W h0 (self180 y0 y1 y2 y3 hh)) (l1 : Int) (l2 : Int) (l3 : Int) (l4 : Int) (hW : ∀ a i : Nat, ((186 ≤ a ∧ a ≤ 196) ∨ (a = 143 ∧ 21 ≤ i ∧ i ≤ 22) ∨ (a = 143 ∧ 63 ≤ i ∧ i ≤ 64) ∨ (a = 143 ∧ 71 ≤ i ∧ i ≤ 74)) → W a i) (h : Hp) (ag_h : Ag W h0 h) : Fr W h0 (XX12_best_b180 self170 self180 l1 l2 l3 l4 h) := by
  unfold XX12_best_b180
  refine Fr_ite ?_ ?_
  · refine Fr_chk ?_
    exact hs_self170 _ _ _ _ ag_h
  · refine Fr_chk ?_
    refine Fr_nm (fun v15 => ?_)
    exact fg_XX12_best_L192 _ hs_self170 _ hs_self180 _ _ _ _ _ (fun a i hh => hW a i ((fun q => q.elim (fun q => Or.inl (by omega)) (fun q => q.elim (fun q => Or.inr (Or.inl (by omega))) (fun q => q.elim (fun q => Or.inr (Or.inr (Or.inl (by omega)))) (fun q => Or.inr (Or.inr (Or.inr (by omega))))))) hh)) _ ag_h
theorem fg_XX12_best_L180 {W : Nat → Nat → Prop} {h0 : Hp} (self170 : Int → Int → Int → Hp → OR) (hs_self170 : ∀ (y0 y1 y2 : Int) (hh : Hp), Ag W h0 hh → Fr W h0 (self170 y0 y1 y2 hh)) (l1 : Int) (l2 : Int) (l3 : Int) (l4 : Int) (hW : ∀ a i : Nat, ((186 ≤ a ∧ a ≤ 196) ∨ (a = 143 ∧ 21 ≤ i ∧ i ≤ 22) ∨ (a = 143 ∧ 63 ≤ i ∧ i ≤ 64) ∨ (a = 143 ∧ 71 ≤ i ∧ i ≤ 74)) → W a i) (h : Hp) (ag_h : Ag W h0 h) : Fr W h0 (XX12_best_L180 self170 l1 l2 l3 l4 h) := by
  unfold XX12_best_L180
  exact Fr_lup4 (fun self hs z0 z1 z2 z3 hh ag => fg_XX12_best_b180 self170 hs_self170 self hs z0 z1 z2 z3 hW hh ag) FU _ _ _ _ _ ag_h
theorem fg_XX12_best_b170 {W : Nat → Nat → Prop} {h0 : Hp} (self170 : Int → Int → Int → Hp → OR) (hs_self170 : ∀ (y0 y1 y2 : Int) (hh : Hp), Ag W h0 hh → Fr W h0 (self170 y0 y1 y2 hh)) (l1 : Int) (l2 : Int) (l3 : Int) (hW : ∀ a i : Nat, ((159 ≤ a ∧ a ≤ 166) ∨ (186 ≤ a ∧ a ≤ 196) ∨ (a = 143 ∧ 21 ≤ i ∧ i ≤ 27) ∨ (a = 143 ∧ 63 ≤ i ∧ i ≤ 64) ∨ (a = 143 ∧ 71 ≤ i ∧ i ≤ 74)) → W a i) (h : Hp) (ag_h : Ag W h0 h) : Fr W h0 (XX12_best_b170 self170 l1 l2 l3 h) := by
  unfold XX12_best_b170
  refine Fr_ite ?_ ?_
  · refine Fr_ite ?_ ?_
    · exact Fr_some ag_h
    · exact fg_XX12_best_L273 _ _ (fun a i hh => hW a i ((fun q => q.elim (fun q => Or.inl (by omega)) (fun q => q.elim (fun q => Or.inr (Or.inl (by omega))) (fun q => q.elim (fun q => Or.inr (Or.inr (Or.inl (by omega)))) (fun q => q.elim (fun q => Or.inr (Or.inr (Or.inr (Or.inl (by omega))))) (fun q => Or.inr (Or.inr (Or.inr (Or.inr (by omega))))))))) hh)) _ ag_h
  · refine Fr_chk ?_
    refine Fr_nm (fun v14 => ?_)
    exact fg_XX12_best_L180 _ hs_self170 _ _ _ _ (fun a i hh => hW a i ((fun q => q.elim (fun q => Or.inr (Or.inl (by omega))) (fun q => q.elim (fun q => Or.inr (Or.inr (Or.inl (by omega)))) (fun q => q.elim (fun q => Or.inr (Or.inr (Or.inr (Or.inl (by omega))))) (fun q => Or.inr (Or.inr (Or.inr (Or.inr (by omega)))))))) hh)) _ ag_h
theorem fg_XX12_best_L170 {W : Nat → Nat → Prop} {h0 : Hp} (l1 : Int) (l2 : Int) (l3 : Int) (hW : ∀ a i : Nat, ((159 ≤ a ∧ a ≤ 166) ∨ (186 ≤ a ∧ a ≤ 196) ∨ (a = 143 ∧ 21 ≤ i ∧ i ≤ 27) ∨ (a = 143 ∧ 63 ≤ i ∧ i ≤ 64) ∨ (a = 143 ∧ 71 ≤ i ∧ i ≤ 74)) → W a i) (h : Hp) (ag_h : Ag W h0 h) : Fr W h0 (XX12_best_L170 l1 l2 l3 h) := by
  unfold XX12_best_L170
  exact Fr_lup3 (fun self hs z0 z1 z2 hh ag => fg_XX12_best_b170 self hs z0 z1 z2 hW hh ag) FU _ _ _ _ ag_h
theorem fg_XX12_best_b119 {W : Nat → Nat → Prop} {h0 : Hp} (self109 : Int → Int → Int → Hp → OR) (hs_self109 : ∀ (y0 y1 y2 : Int) (hh : Hp), Ag W h0 hh → Fr W h0 (self109 y0 y1 y2 hh)) (self119 : Int → Int → Int → Int → Hp → OR) (hs_self119 : ∀ (y0 y1 y2 y3 : Int) (hh : Hp), Ag W h0 hh → Fr W h0 (self119 y0 y1 y2 y3 hh)) (l1 : Int) (l2 : Int) (l3 : Int) (l4 : Int) (hW : ∀ a i : Nat, ((186 ≤ a ∧ a ≤ 196) ∨ (a = 143 ∧ 21 ≤ i ∧ i ≤ 22) ∨ (a = 143 ∧ 63 ≤ i ∧ i ≤ 64) ∨ (a = 143 ∧ 71 ≤ i ∧ i ≤ 74)) → W a i) (h : Hp) (ag_h : Ag W h0 h) : Fr W h0 (XX12_best_b119 self109 self119 l1 l2 l3 l4 h) := by
  unfold XX12_best_b119
  refine Fr_ite ?_ ?_
  · refine Fr_chk ?_
    exact hs_self109 _ _ _ _ ag_h
  · refine Fr_inb ?_
    refine Fr_inb ?_
    refine Fr_wr ag_h (hW _ _ (Or.inl (by omega))) (fun h22 ag_h22 => ?_)
    refine Fr_inb ?_
    refine Fr_inb ?_
    refine Fr_wr ag_h22 (hW _ _ (Or.inl (by omega))) (fun h23 ag_h23 => ?_)
    refine Fr_cal (fg_XX12_tries _ _ (fun a i hh => hW a i ((fun q => q.elim (fun q => Or.inl (by omega)) (fun q => q.elim (fun q => Or.inl (by omega)) (fun q => q.elim (fun q => Or.inr (Or.inl (by omega))) (fun q => q.elim (fun q => Or.inr (Or.inr (Or.inl (by omega)))) (fun q => Or.inr (Or.inr (Or.inr (by omega)))))))) hh)) _ ag_h23) (fun r24 h25 ag_h25 => ?_)
    refine Fr_chk ?_
    exact hs_self119 _ _ _ _ _ ag_h25
theorem fg_XX12_best_L119 {W : Nat → Nat → Prop} {h0 : Hp} (self109 : Int → Int → Int → Hp → OR) (hs_self109 : ∀ (y0 y1 y2 : Int) (hh : Hp), Ag W h0 hh → Fr W h0 (self109 y0 y1 y2 hh)) (l1 : Int) (l2 : Int) (l3 : Int) (l4 : Int) (hW : ∀ a i : Nat, ((186 ≤ a ∧ a ≤ 196) ∨ (a = 143 ∧ 21 ≤ i ∧ i ≤ 22) ∨ (a = 143 ∧ 63 ≤ i ∧ i ≤ 64) ∨ (a = 143 ∧ 71 ≤ i ∧ i ≤ 74)) → W a i) (h : Hp) (ag_h : Ag W h0 h) : Fr W h0 (XX12_best_L119 self109 l1 l2 l3 l4 h) := by
  unfold XX12_best_L119
  exact Fr_lup4 (fun self hs z0 z1 z2 z3 hh ag => fg_XX12_best_b119 self109 hs_self109 self hs z0 z1 z2 z3 hW hh ag) FU _ _ _ _ _ ag_h
theorem fg_XX12_best_b109 {W : Nat → Nat → Prop} {h0 : Hp} (self109 : Int → Int → Int → Hp → OR) (hs_self109 : ∀ (y0 y1 y2 : Int) (hh : Hp), Ag W h0 hh → Fr W h0 (self109 y0 y1 y2 hh)) (l1 : Int) (l2 : Int) (l3 : Int) (hW : ∀ a i : Nat, ((159 ≤ a ∧ a ≤ 166) ∨ (186 ≤ a ∧ a ≤ 196) ∨ (a = 143 ∧ 21 ≤ i ∧ i ≤ 27) ∨ (a = 143 ∧ 63 ≤ i ∧ i ≤ 64) ∨ (a = 143 ∧ 71 ≤ i ∧ i ≤ 74)) → W a i) (h : Hp) (ag_h : Ag W h0 h) : Fr W h0 (XX12_best_b109 self109 l1 l2 l3 h) := by
  unfold XX12_best_b109
  refine Fr_ite ?_ ?_
  · exact fg_XX12_best_L170 _ _ _ (fun a i hh => hW a i ((fun q => q.elim (fun q => Or.inl (by omega)) (fun q => q.elim (fun q => Or.inr (Or.inl (by omega))) (fun q => q.elim (fun q => Or.inr (Or.inr (Or.inl (by omega)))) (fun q => q.elim (fun q => Or.inr (Or.inr (Or.inr (Or.inl (by omega))))) (fun q => Or.inr (Or.inr (Or.inr (Or.inr (by omega))))))))) hh)) _ ag_h
  · refine Fr_chk ?_
    refine Fr_nm (fun v21 => ?_)
    exact fg_XX12_best_L119 _ hs_self109 _ _ _ _ (fun a i hh => hW a i ((fun q => q.elim (fun q => Or.inr (Or.inl (by omega))) (fun q => q.elim (fun q => Or.inr (Or.inr (Or.inl (by omega)))) (fun q => q.elim (fun q => Or.inr (Or.inr (Or.inr (Or.inl (by omega))))) (fun q => Or.inr (Or.inr (Or.inr (Or.inr (by omega)))))))) hh)) _ ag_h
theorem fg_XX12_best_L109 {W : Nat → Nat → Prop} {h0 : Hp} (l1 : Int) (l2 : Int) (l3 : Int) (hW : ∀ a i : Nat, ((159 ≤ a ∧ a ≤ 166) ∨ (186 ≤ a ∧ a ≤ 196) ∨ (a = 143 ∧ 21 ≤ i ∧ i ≤ 27) ∨ (a = 143 ∧ 63 ≤ i ∧ i ≤ 64) ∨ (a = 143 ∧ 71 ≤ i ∧ i ≤ 74)) → W a i) (h : Hp) (ag_h : Ag W h0 h) : Fr W h0 (XX12_best_L109 l1 l2 l3 h) := by
  unfold XX12_best_L109
  exact Fr_lup3 (fun self hs z0 z1 z2 hh ag => fg_XX12_best_b109 self hs z0 z1 z2 hW hh ag) FU _ _ _ _ ag_h
theorem fg_XX12_best_b78 {W : Nat → Nat → Prop} {h0 : Hp} (self78 : Int → Int → Int → Hp → OR) (hs_self78 : ∀ (y0 y1 y2 : Int) (hh : Hp), Ag W h0 hh → Fr W h0 (self78 y0 y1 y2 hh)) (l1 : Int) (l2 : Int) (l3 : Int) (hW : ∀ a i : Nat, ((159 ≤ a ∧ a ≤ 166) ∨ (186 ≤ a ∧ a ≤ 196) ∨ (a = 143 ∧ 21 ≤ i ∧ i ≤ 27) ∨ (a = 143 ∧ 63 ≤ i ∧ i ≤ 64) ∨ (a = 143 ∧ 71 ≤ i ∧ i ≤ 74)) → W a i) (h : Hp) (ag_h : Ag W h0 h) : Fr W h0 (XX12_best_b78 self78 l1 l2 l3 h) := by
  unfold XX12_best_b78
  refine Fr_ite ?_ ?_
  · exact fg_XX12_best_L109 _ _ _ (fun a i hh => hW a i ((fun q => q.elim (fun q => Or.inl (by omega)) (fun q => q.elim (fun q => Or.inr (Or.inl (by omega))) (fun q => q.elim (fun q => Or.inr (Or.inr (Or.inl (by omega)))) (fun q => q.elim (fun q => Or.inr (Or.inr (Or.inr (Or.inl (by omega))))) (fun q => Or.inr (Or.inr (Or.inr (Or.inr (by omega))))))))) hh)) _ ag_h
  · refine Fr_inb ?_
    refine Fr_inb ?_
    refine Fr_wr ag_h (hW _ _ (Or.inr (Or.inl (by omega)))) (fun h26 ag_h26 => ?_)
    refine Fr_cal (fg_XX12_tries _ _ (fun a i hh => hW a i ((fun q => q.elim (fun q => Or.inr (Or.inl (by omega))) (fun q => q.elim (fun q => Or.inr (Or.inl (by omega))) (fun q => q.elim (fun q => Or.inr (Or.inr (Or.inl (by omega)))) (fun q => q.elim (fun q => Or.inr (Or.inr (Or.inr (Or.inl (by omega))))) (fun q => Or.inr (Or.inr (Or.inr (Or.inr (by omega))))))))) hh)) _ ag_h26) (fun r27 h28 ag_h28 => ?_)
    refine Fr_chk ?_
    exact hs_self78 _ _ _ _ ag_h28
theorem fg_XX12_best_L78 {W : Nat → Nat → Prop} {h0 : Hp} (l1 : Int) (l2 : Int) (l3 : Int) (hW : ∀ a i : Nat, ((159 ≤ a ∧ a ≤ 166) ∨ (186 ≤ a ∧ a ≤ 196) ∨ (a = 143 ∧ 21 ≤ i ∧ i ≤ 27) ∨ (a = 143 ∧ 63 ≤ i ∧ i ≤ 64) ∨ (a = 143 ∧ 71 ≤ i ∧ i ≤ 74)) → W a i) (h : Hp) (ag_h : Ag W h0 h) : Fr W h0 (XX12_best_L78 l1 l2 l3 h) := by
  unfold XX12_best_L78
  exact Fr_lup3 (fun self hs z0 z1 z2 hh ag => fg_XX12_best_b78 self hs z0 z1 z2 hW hh ag) FU _ _ _ _ ag_h
theorem fg_XX12_best_p54 {W : Nat → Nat → Prop} {h0 : Hp} (self15 : Int → Int → Int → Hp → OR) (hs_self15 : ∀ (y0 y1 y2 : Int) (hh : Hp), Ag W h0 hh → Fr W h0 (self15 y0 y1 y2 hh)) (l1 : Int) (l2 : Int) (l3 : Int) (hW : ∀ a i : Nat, (False) → W a i) (h : Hp) (ag_h : Ag W h0 h) : Fr W h0 (XX12_best_p54 self15 l1 l2 l3 h) := by
  unfold XX12_best_p54
  refine Fr_chk ?_
  exact hs_self15 _ _ _ _ ag_h
theorem fg_XX12_best_b15 {W : Nat → Nat → Prop} {h0 : Hp} (self15 : Int → Int → Int → Hp → OR) (hs_self15 : ∀ (y0 y1 y2 : Int) (hh : Hp), Ag W h0 hh → Fr W h0 (self15 y0 y1 y2 hh)) (l1 : Int) (l2 : Int) (l3 : Int) (hW : ∀ a i : Nat, ((159 ≤ a ∧ a ≤ 166) ∨ (185 ≤ a ∧ a ≤ 197) ∨ (a = 143 ∧ 21 ≤ i ∧ i ≤ 27) ∨ (a = 143 ∧ 63 ≤ i ∧ i ≤ 64) ∨ (a = 143 ∧ 71 ≤ i ∧ i ≤ 74)) → W a i) (h : Hp) (ag_h : Ag W h0 h) : Fr W h0 (XX12_best_b15 self15 l1 l2 l3 h) := by
  unfold XX12_best_b15
  refine Fr_cal (fg_XX12_wires _ (fun a i hh => hh.elim) _ ag_h) (fun r3 h4 ag_h4 => ?_)
  refine Fr_ite ?_ ?_
  · refine Fr_zb ?_
    refine Fr_wr ag_h4 (hW _ _ (Or.inr (Or.inr (Or.inl (by omega))))) (fun h5 ag_h5 => ?_)
    refine Fr_wr ag_h5 (hW _ _ (Or.inr (Or.inr (Or.inr (Or.inr (by omega)))))) (fun h6 ag_h6 => ?_)
    refine Fr_cal (fg_XX12_tries _ _ (fun a i hh => hW a i ((fun q => q.elim (fun q => Or.inr (Or.inl (by omega))) (fun q => q.elim (fun q => Or.inr (Or.inl (by omega))) (fun q => q.elim (fun q => Or.inr (Or.inr (Or.inl (by omega)))) (fun q => q.elim (fun q => Or.inr (Or.inr (Or.inr (Or.inl (by omega))))) (fun q => Or.inr (Or.inr (Or.inr (Or.inr (by omega))))))))) hh)) _ ag_h6) (fun r7 h8 ag_h8 => ?_)
    exact fg_XX12_best_L78 _ _ _ (fun a i hh => hW a i ((fun q => q.elim (fun q => Or.inl (by omega)) (fun q => q.elim (fun q => Or.inr (Or.inl (by omega))) (fun q => q.elim (fun q => Or.inr (Or.inr (Or.inl (by omega)))) (fun q => q.elim (fun q => Or.inr (Or.inr (Or.inr (Or.inl (by omega))))) (fun q => Or.inr (Or.inr (Or.inr (Or.inr (by omega))))))))) hh)) _ ag_h8
  · refine Fr_inb ?_
    refine Fr_ite ?_ ?_
    · exact fg_XX12_best_p54 _ hs_self15 _ _ _ (fun a i hh => hh.elim) _ ag_h4
    · refine Fr_cal (fg_XX12_doesHang _ _ _ (fun a i hh => hW a i (Or.inr (Or.inl (by omega)))) _ ag_h4) (fun r29 h30 ag_h30 => ?_)
      refine Fr_ite ?_ ?_
      · refine Fr_inb ?_
        refine Fr_wr ag_h30 (hW _ _ (Or.inr (Or.inl (by omega)))) (fun h31 ag_h31 => ?_)
        refine Fr_chk ?_
        exact fg_XX12_best_p54 _ hs_self15 _ _ _ (fun a i hh => hh.elim) _ ag_h31
      · exact fg_XX12_best_p54 _ hs_self15 _ _ _ (fun a i hh => hh.elim) _ ag_h30
theorem fg_XX12_best_L15 {W : Nat → Nat → Prop} {h0 : Hp} (l1 : Int) (l2 : Int) (l3 : Int) (hW : ∀ a i : Nat, ((159 ≤ a ∧ a ≤ 166) ∨ (185 ≤ a ∧ a ≤ 197) ∨ (a = 143 ∧ 21 ≤ i ∧ i ≤ 27) ∨ (a = 143 ∧ 63 ≤ i ∧ i ≤ 64) ∨ (a = 143 ∧ 71 ≤ i ∧ i ≤ 74)) → W a i) (h : Hp) (ag_h : Ag W h0 h) : Fr W h0 (XX12_best_L15 l1 l2 l3 h) := by
  unfold XX12_best_L15
  exact Fr_lup3 (fun self hs z0 z1 z2 hh ag => fg_XX12_best_b15 self hs z0 z1 z2 hW hh ag) FU _ _ _ _ ag_h
theorem fg_XX12_best {W : Nat → Nat → Prop} {h0 : Hp} (x0 : Int) (hW : ∀ a i : Nat, ((159 ≤ a ∧ a ≤ 166) ∨ (185 ≤ a ∧ a ≤ 197) ∨ (a = 143 ∧ 21 ≤ i ∧ i ≤ 27) ∨ (a = 143 ∧ 63 ≤ i ∧ i ≤ 64) ∨ (a = 143 ∧ 71 ≤ i ∧ i ≤ 74)) → W a i) (h : Hp) (ag_h : Ag W h0 h) : Fr W h0 (XX12_best x0 h) := by
  unfold XX12_best
  refine Fr_cal (fg_XX12_isGate _ _ (fun a i hh => hh.elim) _ ag_h) (fun r1 h2 ag_h2 => ?_)
  refine Fr_ite ?_ ?_
  · exact Fr_some ag_h2
  · exact fg_XX12_best_L15 _ _ _ (fun a i hh => hW a i ((fun q => q.elim (fun q => Or.inl (by omega)) (fun q => q.elim (fun q => Or.inr (Or.inl (by omega))) (fun q => q.elim (fun q => Or.inr (Or.inr (Or.inl (by omega)))) (fun q => q.elim (fun q => Or.inr (Or.inr (Or.inr (Or.inl (by omega))))) (fun q => Or.inr (Or.inr (Or.inr (Or.inr (by omega))))))))) hh)) _ ag_h2
theorem fr_XX12_best {x0 : Int} {h : Hp} {r : Int} {h1 : Hp} (e : XX12_best x0 h = some (r, h1)) (a i : Nat) (hn : ¬ ((159 ≤ a ∧ a ≤ 166) ∨ (185 ≤ a ∧ a ≤ 197) ∨ (a = 143 ∧ 21 ≤ i ∧ i ≤ 27) ∨ (a = 143 ∧ 63 ≤ i ∧ i ≤ 64) ∨ (a = 143 ∧ 71 ≤ i ∧ i ≤ 74))) : h1 a i = h a i := fg_XX12_best (W := fun a i => (159 ≤ a ∧ a ≤ 166) ∨ (185 ≤ a ∧ a ≤ 197) ∨ (a = 143 ∧ 21 ≤ i ∧ i ≤ 27) ∨ (a = 143 ∧ 63 ≤ i ∧ i ≤ 64) ∨ (a = 143 ∧ 71 ≤ i ∧ i ≤ 74)) x0 (fun _ _ hh => hh) h (fun _ _ _ => rfl) r h1 e a i hn
theorem fg_XX12_patched {W : Nat → Nat → Prop} {h0 : Hp} (x0 : Int) (hW : ∀ a i : Nat, (False) → W a i) (h : Hp) (ag_h : Ag W h0 h) : Fr W h0 (XX12_patched x0 h) := by
  unfold XX12_patched
  refine Fr_ite ?_ ?_
  · exact Fr_some ag_h
  · refine Fr_ite ?_ ?_
    · exact Fr_some ag_h
    · refine Fr_ite ?_ ?_
      · exact Fr_some ag_h
      · refine Fr_ite ?_ ?_
        · exact Fr_some ag_h
        · refine Fr_ite ?_ ?_
          · refine Fr_ite ?_ ?_
            · exact Fr_some ag_h
            · exact Fr_some ag_h
          · exact Fr_some ag_h
theorem fr_XX12_patched {x0 : Int} {h : Hp} {r : Int} {h1 : Hp} (e : XX12_patched x0 h = some (r, h1)) (a i : Nat) (hn : ¬ (False)) : h1 a i = h a i := fg_XX12_patched (W := fun a i => False) x0 (fun _ _ hh => hh) h (fun _ _ _ => rfl) r h1 e a i hn
theorem fe_XX12_patched {x0 : Int} {h : Hp} {r : Int} {h1 : Hp} (e : XX12_patched x0 h = some (r, h1)) : h1 = h := funext (fun a => funext (fun i => fr_XX12_patched e a i (fun hh => hh)))
theorem fg_XX12_function {W : Nat → Nat → Prop} {h0 : Hp} (x0 : Int) (hW : ∀ a i : Nat, (False) → W a i) (h : Hp) (ag_h : Ag W h0 h) : Fr W h0 (XX12_function x0 h) := by
  unfold XX12_function
  refine Fr_ite ?_ ?_
  · exact Fr_some ag_h
  · refine Fr_chk ?_
    refine Fr_cal (fg_XX12_in _ _ _ (fun a i hh => hh.elim) _ ag_h) (fun r1 h2 ag_h2 => ?_)
    refine Fr_ite ?_ ?_
    · exact Fr_some ag_h2
    · refine Fr_inb ?_
      exact Fr_some ag_h2
theorem fr_XX12_function {x0 : Int} {h : Hp} {r : Int} {h1 : Hp} (e : XX12_function x0 h = some (r, h1)) (a i : Nat) (hn : ¬ (False)) : h1 a i = h a i := fg_XX12_function (W := fun a i => False) x0 (fun _ _ hh => hh) h (fun _ _ _ => rfl) r h1 e a i hn
theorem fe_XX12_function {x0 : Int} {h : Hp} {r : Int} {h1 : Hp} (e : XX12_function x0 h = some (r, h1)) : h1 = h := funext (fun a => funext (fun i => fr_XX12_function e a i (fun hh => hh)))
theorem fg_XX12_told {W : Nat → Nat → Prop} {h0 : Hp} (x0 : Int) (hW : ∀ a i : Nat, (False) → W a i) (h : Hp) (ag_h : Ag W h0 h) : Fr W h0 (XX12_told x0 h) := by
  unfold XX12_told
  refine Fr_ite ?_ ?_
  · exact Fr_some ag_h
  · refine Fr_chk ?_
    refine Fr_cal (fg_XX12_in _ _ _ (fun a i hh => hh.elim) _ ag_h) (fun r1 h2 ag_h2 => ?_)
    refine Fr_ite ?_ ?_
    · exact Fr_some ag_h2
    · refine Fr_inb ?_
      exact Fr_some ag_h2
theorem fr_XX12_told {x0 : Int} {h : Hp} {r : Int} {h1 : Hp} (e : XX12_told x0 h = some (r, h1)) (a i : Nat) (hn : ¬ (False)) : h1 a i = h a i := fg_XX12_told (W := fun a i => False) x0 (fun _ _ hh => hh) h (fun _ _ _ => rfl) r h1 e a i hn
theorem fe_XX12_told {x0 : Int} {h : Hp} {r : Int} {h1 : Hp} (e : XX12_told x0 h = some (r, h1)) : h1 = h := funext (fun a => funext (fun i => fr_XX12_told e a i (fun hh => hh)))
theorem fg_XX12_node {W : Nat → Nat → Prop} {h0 : Hp} (x0 : Int) (x1 : Int) (hW : ∀ a i : Nat, (False) → W a i) (h : Hp) (ag_h : Ag W h0 h) : Fr W h0 (XX12_node x0 x1 h) := by
  unfold XX12_node
  refine Fr_ite ?_ ?_
  · exact Fr_some ag_h
  · refine Fr_chk ?_
    refine Fr_cal (fg_XX12_in _ _ _ (fun a i hh => hh.elim) _ ag_h) (fun r1 h2 ag_h2 => ?_)
    refine Fr_ite ?_ ?_
    · exact Fr_some ag_h2
    · refine Fr_ite ?_ ?_
      · refine Fr_inb ?_
        exact Fr_some ag_h2
      · refine Fr_ite ?_ ?_
        · refine Fr_inb ?_
          exact Fr_some ag_h2
        · refine Fr_ite ?_ ?_
          · refine Fr_inb ?_
            exact Fr_some ag_h2
          · refine Fr_ite ?_ ?_
            · refine Fr_inb ?_
              exact Fr_some ag_h2
            · refine Fr_ite ?_ ?_
              · refine Fr_inb ?_
                exact Fr_some ag_h2
              · exact Fr_some ag_h2
theorem fr_XX12_node {x0 : Int} {x1 : Int} {h : Hp} {r : Int} {h1 : Hp} (e : XX12_node x0 x1 h = some (r, h1)) (a i : Nat) (hn : ¬ (False)) : h1 a i = h a i := fg_XX12_node (W := fun a i => False) x0 x1 (fun _ _ hh => hh) h (fun _ _ _ => rfl) r h1 e a i hn
theorem fe_XX12_node {x0 : Int} {x1 : Int} {h : Hp} {r : Int} {h1 : Hp} (e : XX12_node x0 x1 h = some (r, h1)) : h1 = h := funext (fun a => funext (fun i => fr_XX12_node e a i (fun hh => hh)))
theorem fg_XX12_isPlace {W : Nat → Nat → Prop} {h0 : Hp} (x0 : Int) (x1 : Int) (hW : ∀ a i : Nat, (False) → W a i) (h : Hp) (ag_h : Ag W h0 h) : Fr W h0 (XX12_isPlace x0 x1 h) := by
  unfold XX12_isPlace
  refine Fr_cal (fg_XX12_in _ _ _ (fun a i hh => hh.elim) _ ag_h) (fun r1 h2 ag_h2 => ?_)
  refine Fr_ite ?_ ?_
  · refine Fr_zb ?_
    exact Fr_some ag_h2
  · refine Fr_cal (fg_XX12_in _ _ _ (fun a i hh => hh.elim) _ ag_h2) (fun r3 h4 ag_h4 => ?_)
    refine Fr_ite ?_ ?_
    · refine Fr_zb ?_
      exact Fr_some ag_h4
    · refine Fr_zb ?_
      exact Fr_some ag_h4
theorem fr_XX12_isPlace {x0 : Int} {x1 : Int} {h : Hp} {r : Int} {h1 : Hp} (e : XX12_isPlace x0 x1 h = some (r, h1)) (a i : Nat) (hn : ¬ (False)) : h1 a i = h a i := fg_XX12_isPlace (W := fun a i => False) x0 x1 (fun _ _ hh => hh) h (fun _ _ _ => rfl) r h1 e a i hn
theorem fe_XX12_isPlace {x0 : Int} {x1 : Int} {h : Hp} {r : Int} {h1 : Hp} (e : XX12_isPlace x0 x1 h = some (r, h1)) : h1 = h := funext (fun a => funext (fun i => fr_XX12_isPlace e a i (fun hh => hh)))
theorem fg_XX12_site {W : Nat → Nat → Prop} {h0 : Hp} (x0 : Int) (x1 : Int) (x2 : Int) (hW : ∀ a i : Nat, ((150 ≤ a ∧ a ≤ 151) ∨ (a = 143 ∧ i = 23) ∨ (a = 143 ∧ i = 36)) → W a i) (h : Hp) (ag_h : Ag W h0 h) : Fr W h0 (XX12_site x0 x1 x2 h) := by
  unfold XX12_site
  refine Fr_cal (fg_XX12_isWire _ _ (fun a i hh => hh.elim) _ ag_h) (fun r1 h2 ag_h2 => ?_)
  refine Fr_ite ?_ ?_
  · exact Fr_some ag_h2
  · refine Fr_cal (fg_XX12_isPlace _ _ (fun a i hh => hh.elim) _ ag_h2) (fun r3 h4 ag_h4 => ?_)
    refine Fr_ite ?_ ?_
    · exact Fr_some ag_h4
    · refine Fr_inb ?_
      refine Fr_chk ?_
      refine Fr_inb ?_
      refine Fr_chk ?_
      refine Fr_nm (fun v5 => ?_)
      refine Fr_inb ?_
      refine Fr_wr ag_h4 (hW _ _ (Or.inl (by omega))) (fun h6 ag_h6 => ?_)
      refine Fr_inb ?_
      refine Fr_wr ag_h6 (hW _ _ (Or.inl (by omega))) (fun h7 ag_h7 => ?_)
      refine Fr_cal (fg_XX12_changed _ (fun a i hh => hW a i ((fun q => q.elim (fun q => Or.inr (Or.inl (by omega))) (fun q => Or.inr (Or.inr (by omega)))) hh)) _ ag_h7) (fun r8 h9 ag_h9 => ?_)
      exact Fr_some ag_h9
theorem fr_XX12_site {x0 : Int} {x1 : Int} {x2 : Int} {h : Hp} {r : Int} {h1 : Hp} (e : XX12_site x0 x1 x2 h = some (r, h1)) (a i : Nat) (hn : ¬ ((150 ≤ a ∧ a ≤ 151) ∨ (a = 143 ∧ i = 23) ∨ (a = 143 ∧ i = 36))) : h1 a i = h a i := fg_XX12_site (W := fun a i => (150 ≤ a ∧ a ≤ 151) ∨ (a = 143 ∧ i = 23) ∨ (a = 143 ∧ i = 36)) x0 x1 x2 (fun _ _ hh => hh) h (fun _ _ _ => rfl) r h1 e a i hn
theorem fg_XX12_spare {W : Nat → Nat → Prop} {h0 : Hp} (x0 : Int) (x1 : Int) (x2 : Int) (hW : ∀ a i : Nat, ((152 ≤ a ∧ a ≤ 155) ∨ (a = 143 ∧ i = 12) ∨ (a = 143 ∧ i = 23) ∨ (a = 143 ∧ i = 36)) → W a i) (h : Hp) (ag_h : Ag W h0 h) : Fr W h0 (XX12_spare x0 x1 x2 h) := by
  unfold XX12_spare
  refine Fr_cal (fg_XX12_in _ _ _ (fun a i hh => hh.elim) _ ag_h) (fun r1 h2 ag_h2 => ?_)
  refine Fr_ite ?_ ?_
  · exact Fr_some ag_h2
  · refine Fr_cal (fg_XX12_isPlace _ _ (fun a i hh => hh.elim) _ ag_h2) (fun r3 h4 ag_h4 => ?_)
    refine Fr_ite ?_ ?_
    · exact Fr_some ag_h4
    · refine Fr_ite ?_ ?_
      · exact Fr_some ag_h4
      · refine Fr_inb ?_
        refine Fr_wr ag_h4 (hW _ _ (Or.inl (by omega))) (fun h5 ag_h5 => ?_)
        refine Fr_inb ?_
        refine Fr_wr ag_h5 (hW _ _ (Or.inl (by omega))) (fun h6 ag_h6 => ?_)
        refine Fr_inb ?_
        refine Fr_wr ag_h6 (hW _ _ (Or.inl (by omega))) (fun h7 ag_h7 => ?_)
        refine Fr_inb ?_
        refine Fr_zb ?_
        refine Fr_wr ag_h7 (hW _ _ (Or.inl (by omega))) (fun h8 ag_h8 => ?_)
        refine Fr_chk ?_
        refine Fr_wr ag_h8 (hW _ _ (Or.inr (Or.inl (by omega)))) (fun h9 ag_h9 => ?_)
        refine Fr_cal (fg_XX12_changed _ (fun a i hh => hW a i ((fun q => q.elim (fun q => Or.inr (Or.inr (Or.inl (by omega)))) (fun q => Or.inr (Or.inr (Or.inr (by omega))))) hh)) _ ag_h9) (fun r10 h11 ag_h11 => ?_)
        refine Fr_chk ?_
        exact Fr_some ag_h11
theorem fr_XX12_spare {x0 : Int} {x1 : Int} {x2 : Int} {h : Hp} {r : Int} {h1 : Hp} (e : XX12_spare x0 x1 x2 h = some (r, h1)) (a i : Nat) (hn : ¬ ((152 ≤ a ∧ a ≤ 155) ∨ (a = 143 ∧ i = 12) ∨ (a = 143 ∧ i = 23) ∨ (a = 143 ∧ i = 36))) : h1 a i = h a i := fg_XX12_spare (W := fun a i => (152 ≤ a ∧ a ≤ 155) ∨ (a = 143 ∧ i = 12) ∨ (a = 143 ∧ i = 23) ∨ (a = 143 ∧ i = 36)) x0 x1 x2 (fun _ _ hh => hh) h (fun _ _ _ => rfl) r h1 e a i hn
theorem fg_XX12_apart {W : Nat → Nat → Prop} {h0 : Hp} (x0 : Int) (x1 : Int) (hW : ∀ a i : Nat, (False) → W a i) (h : Hp) (ag_h : Ag W h0 h) : Fr W h0 (XX12_apart x0 x1 h) := by
  unfold XX12_apart
  refine Fr_ite ?_ ?_
  · refine Fr_chk ?_
    exact Fr_some ag_h
  · refine Fr_chk ?_
    exact Fr_some ag_h
theorem fr_XX12_apart {x0 : Int} {x1 : Int} {h : Hp} {r : Int} {h1 : Hp} (e : XX12_apart x0 x1 h = some (r, h1)) (a i : Nat) (hn : ¬ (False)) : h1 a i = h a i := fg_XX12_apart (W := fun a i => False) x0 x1 (fun _ _ hh => hh) h (fun _ _ _ => rfl) r h1 e a i hn
theorem fe_XX12_apart {x0 : Int} {x1 : Int} {h : Hp} {r : Int} {h1 : Hp} (e : XX12_apart x0 x1 h = some (r, h1)) : h1 = h := funext (fun a => funext (fun i => fr_XX12_apart e a i (fun hh => hh)))
theorem fg_XX12_far {W : Nat → Nat → Prop} {h0 : Hp} (x0 : Int) (x1 : Int) (hW : ∀ a i : Nat, (False) → W a i) (h : Hp) (ag_h : Ag W h0 h) : Fr W h0 (XX12_far x0 x1 h) := by
  unfold XX12_far
  refine Fr_inb ?_
  refine Fr_inb ?_
  refine Fr_cal (fg_XX12_apart _ _ (fun a i hh => hh.elim) _ ag_h) (fun r1 h2 ag_h2 => ?_)
  refine Fr_inb ?_
  refine Fr_inb ?_
  refine Fr_cal (fg_XX12_apart _ _ (fun a i hh => hh.elim) _ ag_h2) (fun r3 h4 ag_h4 => ?_)
  refine Fr_chk ?_
  exact Fr_some ag_h4
theorem fr_XX12_far {x0 : Int} {x1 : Int} {h : Hp} {r : Int} {h1 : Hp} (e : XX12_far x0 x1 h = some (r, h1)) (a i : Nat) (hn : ¬ (False)) : h1 a i = h a i := fg_XX12_far (W := fun a i => False) x0 x1 (fun _ _ hh => hh) h (fun _ _ _ => rfl) r h1 e a i hn
theorem fe_XX12_far {x0 : Int} {x1 : Int} {h : Hp} {r : Int} {h1 : Hp} (e : XX12_far x0 x1 h = some (r, h1)) : h1 = h := funext (fun a => funext (fun i => fr_XX12_far e a i (fun hh => hh)))
theorem fg_XX12_lengthOf_p57 {W : Nat → Nat → Prop} {h0 : Hp} (l1 : Int) (l2 : Int) (s0 : Int) (s1 : Int) (hW : ∀ a i : Nat, (False) → W a i) (h : Hp) (ag_h : Ag W h0 h) : Fr W h0 (XX12_lengthOf_p57 l1 l2 s0 s1 h) := by
  unfold XX12_lengthOf_p57
  refine Fr_chk ?_
  refine Fr_nm (fun v5 => ?_)
  refine Fr_inb ?_
  refine Fr_cal (fg_XX12_in _ _ _ (fun a i hh => hh.elim) _ ag_h) (fun r6 h7 ag_h7 => ?_)
  refine Fr_ite ?_ ?_
  · refine Fr_chk ?_
    exact Fr_some ag_h7
  · refine Fr_inb ?_
    refine Fr_chk ?_
    refine Fr_inb ?_
    refine Fr_cal (fg_XX12_far _ _ (fun a i hh => hh.elim) _ ag_h7) (fun r8 h9 ag_h9 => ?_)
    refine Fr_chk ?_
    exact Fr_some ag_h9
theorem fg_XX12_lengthOf {W : Nat → Nat → Prop} {h0 : Hp} (x0 : Int) (x1 : Int) (hW : ∀ a i : Nat, (False) → W a i) (h : Hp) (ag_h : Ag W h0 h) : Fr W h0 (XX12_lengthOf x0 x1 h) := by
  unfold XX12_lengthOf
  refine Fr_inb ?_
  refine Fr_inb ?_
  refine Fr_cal (fg_XX12_far _ _ (fun a i hh => hh.elim) _ ag_h) (fun r1 h2 ag_h2 => ?_)
  refine Fr_inb ?_
  refine Fr_cal (fg_XX12_in _ _ _ (fun a i hh => hh.elim) _ ag_h2) (fun r3 h4 ag_h4 => ?_)
  refine Fr_ite ?_ ?_
  · exact fg_XX12_lengthOf_p57 _ _ _ _ (fun a i hh => hh.elim) _ ag_h4
  · refine Fr_inb ?_
    refine Fr_chk ?_
    refine Fr_inb ?_
    refine Fr_cal (fg_XX12_far _ _ (fun a i hh => hh.elim) _ ag_h4) (fun r10 h11 ag_h11 => ?_)
    exact fg_XX12_lengthOf_p57 _ _ _ _ (fun a i hh => hh.elim) _ ag_h11
theorem fr_XX12_lengthOf {x0 : Int} {x1 : Int} {h : Hp} {r : Int} {h1 : Hp} (e : XX12_lengthOf x0 x1 h = some (r, h1)) (a i : Nat) (hn : ¬ (False)) : h1 a i = h a i := fg_XX12_lengthOf (W := fun a i => False) x0 x1 (fun _ _ hh => hh) h (fun _ _ _ => rfl) r h1 e a i hn
theorem fe_XX12_lengthOf {x0 : Int} {x1 : Int} {h : Hp} {r : Int} {h1 : Hp} (e : XX12_lengthOf x0 x1 h = some (r, h1)) : h1 = h := funext (fun a => funext (fun i => fr_XX12_lengthOf e a i (fun hh => hh)))
theorem fg_XX12_bits_b4 {W : Nat → Nat → Prop} {h0 : Hp} (self4 : Int → Int → Int → Hp → OR) (hs_self4 : ∀ (y0 y1 y2 : Int) (hh : Hp), Ag W h0 hh → Fr W h0 (self4 y0 y1 y2 hh)) (l0 : Int) (l1 : Int) (l2 : Int) (hW : ∀ a i : Nat, (False) → W a i) (h : Hp) (ag_h : Ag W h0 h) : Fr W h0 (XX12_bits_b4 self4 l0 l1 l2 h) := by
  unfold XX12_bits_b4
  refine Fr_ite ?_ ?_
  · exact Fr_some ag_h
  · refine Fr_chk ?_
    refine Fr_nm (fun v1 => ?_)
    refine Fr_chk ?_
    exact hs_self4 _ _ _ _ ag_h
theorem fg_XX12_bits_L4 {W : Nat → Nat → Prop} {h0 : Hp} (l0 : Int) (l1 : Int) (l2 : Int) (hW : ∀ a i : Nat, (False) → W a i) (h : Hp) (ag_h : Ag W h0 h) : Fr W h0 (XX12_bits_L4 l0 l1 l2 h) := by
  unfold XX12_bits_L4
  exact Fr_lup3 (fun self hs z0 z1 z2 hh ag => fg_XX12_bits_b4 self hs z0 z1 z2 hW hh ag) FU _ _ _ _ ag_h
theorem fg_XX12_bits {W : Nat → Nat → Prop} {h0 : Hp} (x0 : Int) (hW : ∀ a i : Nat, (False) → W a i) (h : Hp) (ag_h : Ag W h0 h) : Fr W h0 (XX12_bits x0 h) := by
  unfold XX12_bits
  exact fg_XX12_bits_L4 _ _ _ (fun a i hh => hh.elim) _ ag_h
theorem fr_XX12_bits {x0 : Int} {h : Hp} {r : Int} {h1 : Hp} (e : XX12_bits x0 h = some (r, h1)) (a i : Nat) (hn : ¬ (False)) : h1 a i = h a i := fg_XX12_bits (W := fun a i => False) x0 (fun _ _ hh => hh) h (fun _ _ _ => rfl) r h1 e a i hn
theorem fe_XX12_bits {x0 : Int} {h : Hp} {r : Int} {h1 : Hp} (e : XX12_bits x0 h = some (r, h1)) : h1 = h := funext (fun a => funext (fun i => fr_XX12_bits e a i (fun hh => hh)))
theorem fg_XX12_canBe {W : Nat → Nat → Prop} {h0 : Hp} (x0 : Int) (x1 : Int) (x2 : Int) (hW : ∀ a i : Nat, (False) → W a i) (h : Hp) (ag_h : Ag W h0 h) : Fr W h0 (XX12_canBe x0 x1 x2 h) := by
  unfold XX12_canBe
  refine Fr_ite ?_ ?_
  · refine Fr_inb ?_
    refine Fr_ite ?_ ?_
    · refine Fr_inb ?_
      refine Fr_inb ?_
      refine Fr_ite ?_ ?_
      · refine Fr_zb ?_
        exact Fr_some ag_h
      · refine Fr_zb ?_
        exact Fr_some ag_h
    · refine Fr_zb ?_
      exact Fr_some ag_h
  · refine Fr_zb ?_
    exact Fr_some ag_h
theorem fr_XX12_canBe {x0 : Int} {x1 : Int} {x2 : Int} {h : Hp} {r : Int} {h1 : Hp} (e : XX12_canBe x0 x1 x2 h = some (r, h1)) (a i : Nat) (hn : ¬ (False)) : h1 a i = h a i := fg_XX12_canBe (W := fun a i => False) x0 x1 x2 (fun _ _ hh => hh) h (fun _ _ _ => rfl) r h1 e a i hn
theorem fe_XX12_canBe {x0 : Int} {x1 : Int} {x2 : Int} {h : Hp} {r : Int} {h1 : Hp} (e : XX12_canBe x0 x1 x2 h = some (r, h1)) : h1 = h := funext (fun a => funext (fun i => fr_XX12_canBe e a i (fun hh => hh)))
theorem fg_XX12_place_p248 {W : Nat → Nat → Prop} {h0 : Hp} (self188 : Int → Int → Hp → OR) (hs_self188 : ∀ (y0 y1 : Int) (hh : Hp), Ag W h0 hh → Fr W h0 (self188 y0 y1 hh)) (self198 : Int → Int → Int → Hp → OR) (hs_self198 : ∀ (y0 y1 y2 : Int) (hh : Hp), Ag W h0 hh → Fr W h0 (self198 y0 y1 y2 hh)) (l1 : Int) (l2 : Int) (l3 : Int) (hW : ∀ a i : Nat, (False) → W a i) (h : Hp) (ag_h : Ag W h0 h) : Fr W h0 (XX12_place_p248 self188 self198 l1 l2 l3 h) := by
  unfold XX12_place_p248
  refine Fr_chk ?_
  exact hs_self198 _ _ _ _ ag_h
theorem fg_XX12_place_b198 {W : Nat → Nat → Prop} {h0 : Hp} (self188 : Int → Int → Hp → OR) (hs_self188 : ∀ (y0 y1 : Int) (hh : Hp), Ag W h0 hh → Fr W h0 (self188 y0 y1 hh)) (self198 : Int → Int → Int → Hp → OR) (hs_self198 : ∀ (y0 y1 y2 : Int) (hh : Hp), Ag W h0 hh → Fr W h0 (self198 y0 y1 y2 hh)) (l1 : Int) (l2 : Int) (l3 : Int) (hW : ∀ a i : Nat, (a = 166) → W a i) (h : Hp) (ag_h : Ag W h0 h) : Fr W h0 (XX12_place_b198 self188 self198 l1 l2 l3 h) := by
  unfold XX12_place_b198
  refine Fr_cal (fg_XX12_canBe _ _ _ (fun a i hh => hh.elim) _ ag_h) (fun r3 h4 ag_h4 => ?_)
  refine Fr_ite ?_ ?_
  · exact fg_XX12_place_p248 _ hs_self188 _ hs_self198 _ _ _ (fun a i hh => hh.elim) _ ag_h4
  · refine Fr_inb ?_
    refine Fr_ite ?_ ?_
    · exact fg_XX12_place_p248 _ hs_self188 _ hs_self198 _ _ _ (fun a i hh => hh.elim) _ ag_h4
    · refine Fr_cal (fg_XX12_lengthOf _ _ (fun a i hh => hh.elim) _ ag_h4) (fun r5 h6 ag_h6 => ?_)
      refine Fr_inb ?_
      refine Fr_chk ?_
      refine Fr_inb ?_
      refine Fr_ite ?_ ?_
      · refine Fr_inb ?_
        refine Fr_wr ag_h6 (hW _ _ (by omega)) (fun h7 ag_h7 => ?_)
        refine Fr_nm (fun v8 => ?_)
        refine Fr_chk ?_
        exact hs_self188 _ _ _ ag_h7
      · exact fg_XX12_place_p248 _ hs_self188 _ hs_self198 _ _ _ (fun a i hh => hh.elim) _ ag_h6
theorem fg_XX12_place_L198 {W : Nat → Nat → Prop} {h0 : Hp} (self188 : Int → Int → Hp → OR) (hs_self188 : ∀ (y0 y1 : Int) (hh : Hp), Ag W h0 hh → Fr W h0 (self188 y0 y1 hh)) (l1 : Int) (l2 : Int) (l3 : Int) (hW : ∀ a i : Nat, (a = 166) → W a i) (h : Hp) (ag_h : Ag W h0 h) : Fr W h0 (XX12_place_L198 self188 l1 l2 l3 h) := by
  unfold XX12_place_L198
  exact Fr_lup3 (fun self hs z0 z1 z2 hh ag => fg_XX12_place_b198 self188 hs_self188 self hs z0 z1 z2 hW hh ag) FU _ _ _ _ ag_h
theorem fg_XX12_place_b188 {W : Nat → Nat → Prop} {h0 : Hp} (self188 : Int → Int → Hp → OR) (hs_self188 : ∀ (y0 y1 : Int) (hh : Hp), Ag W h0 hh → Fr W h0 (self188 y0 y1 hh)) (l1 : Int) (l2 : Int) (hW : ∀ a i : Nat, (a = 166 ∨ (a = 143 ∧ i = 24)) → W a i) (h : Hp) (ag_h : Ag W h0 h) : Fr W h0 (XX12_place_b188 self188 l1 l2 h) := by
  unfold XX12_place_b188
  refine Fr_ite ?_ ?_
  · refine Fr_zb ?_
    refine Fr_wr ag_h (hW _ _ (Or.inr (by omega))) (fun h2 ag_h2 => ?_)
    refine Fr_inb ?_
    exact Fr_some ag_h2
  · exact fg_XX12_place_L198 _ hs_self188 _ _ _ (fun a i hh => hW a i (Or.inl (by omega))) _ ag_h
theorem fg_XX12_place_L188 {W : Nat → Nat → Prop} {h0 : Hp} (l1 : Int) (l2 : Int) (hW : ∀ a i : Nat, (a = 166 ∨ (a = 143 ∧ i = 24)) → W a i) (h : Hp) (ag_h : Ag W h0 h) : Fr W h0 (XX12_place_L188 l1 l2 h) := by
  unfold XX12_place_L188
  exact Fr_lup2 (fun self hs z0 z1 hh ag => fg_XX12_place_b188 self hs z0 z1 hW hh ag) FU _ _ _ ag_h
theorem fg_XX12_place_p165 {W : Nat → Nat → Prop} {h0 : Hp} (self32 : Int → Hp → OR) (hs_self32 : ∀ (y0 : Int) (hh : Hp), Ag W h0 hh → Fr W h0 (self32 y0 hh)) (l1 : Int) (hW : ∀ a i : Nat, (False) → W a i) (h : Hp) (ag_h : Ag W h0 h) : Fr W h0 (XX12_place_p165 self32 l1 h) := by
  unfold XX12_place_p165
  refine Fr_chk ?_
  exact hs_self32 _ _ ag_h
theorem fg_XX12_place_p159 {W : Nat → Nat → Prop} {h0 : Hp} (self32 : Int → Hp → OR) (hs_self32 : ∀ (y0 : Int) (hh : Hp), Ag W h0 hh → Fr W h0 (self32 y0 hh)) (self62 : Int → Int → Int → Hp → OR) (hs_self62 : ∀ (y0 y1 y2 : Int) (hh : Hp), Ag W h0 hh → Fr W h0 (self62 y0 y1 y2 hh)) (l1 : Int) (l2 : Int) (l3 : Int) (hW : ∀ a i : Nat, (False) → W a i) (h : Hp) (ag_h : Ag W h0 h) : Fr W h0 (XX12_place_p159 self32 self62 l1 l2 l3 h) := by
  unfold XX12_place_p159
  refine Fr_chk ?_
  exact hs_self62 _ _ _ _ ag_h
theorem fg_XX12_place_p158 {W : Nat → Nat → Prop} {h0 : Hp} (self32 : Int → Hp → OR) (hs_self32 : ∀ (y0 : Int) (hh : Hp), Ag W h0 hh → Fr W h0 (self32 y0 hh)) (self62 : Int → Int → Int → Hp → OR) (hs_self62 : ∀ (y0 y1 y2 : Int) (hh : Hp), Ag W h0 hh → Fr W h0 (self62 y0 y1 y2 hh)) (l1 : Int) (l2 : Int) (l3 : Int) (s1 : Int) (s2 : Int) (hW : ∀ a i : Nat, (a = 198) → W a i) (h : Hp) (ag_h : Ag W h0 h) : Fr W h0 (XX12_place_p158 self32 self62 l1 l2 l3 s1 s2 h) := by
  unfold XX12_place_p158
  refine Fr_inb ?_
  refine Fr_wr ag_h (hW _ _ (by omega)) (fun h17 ag_h17 => ?_)
  exact fg_XX12_place_p159 _ hs_self32 _ hs_self62 _ _ _ (fun a i hh => hh.elim) _ ag_h17
theorem fg_XX12_place_p147 {W : Nat → Nat → Prop} {h0 : Hp} (self32 : Int → Hp → OR) (hs_self32 : ∀ (y0 : Int) (hh : Hp), Ag W h0 hh → Fr W h0 (self32 y0 hh)) (self62 : Int → Int → Int → Hp → OR) (hs_self62 : ∀ (y0 y1 y2 : Int) (hh : Hp), Ag W h0 hh → Fr W h0 (self62 y0 y1 y2 hh)) (l1 : Int) (l2 : Int) (l3 : Int) (l4 : Int) (s1 : Int) (hW : ∀ a i : Nat, (a = 198) → W a i) (h : Hp) (ag_h : Ag W h0 h) : Fr W h0 (XX12_place_p147 self32 self62 l1 l2 l3 l4 s1 h) := by
  unfold XX12_place_p147
  exact fg_XX12_place_p158 _ hs_self32 _ hs_self62 _ _ _ _ _ (fun a i hh => hW a i (by omega)) _ ag_h
theorem fg_XX12_place_b62 {W : Nat → Nat → Prop} {h0 : Hp} (self32 : Int → Hp → OR) (hs_self32 : ∀ (y0 : Int) (hh : Hp), Ag W h0 hh → Fr W h0 (self32 y0 hh)) (self62 : Int → Int → Int → Hp → OR) (hs_self62 : ∀ (y0 y1 y2 : Int) (hh : Hp), Ag W h0 hh → Fr W h0 (self62 y0 y1 y2 hh)) (l1 : Int) (l2 : Int) (l3 : Int) (hW : ∀ a i : Nat, (a = 198) → W a i) (h : Hp) (ag_h : Ag W h0 h) : Fr W h0 (XX12_place_b62 self32 self62 l1 l2 l3 h) := by
  unfold XX12_place_b62
  refine Fr_ite ?_ ?_
  · exact fg_XX12_place_p165 _ hs_self32 _ (fun a i hh => hh.elim) _ ag_h
  · refine Fr_ite ?_ ?_
    · exact fg_XX12_place_p165 _ hs_self32 _ (fun a i hh => hh.elim) _ ag_h
    · refine Fr_cal (fg_XX12_canBe _ _ _ (fun a i hh => hh.elim) _ ag_h) (fun r12 h13 ag_h13 => ?_)
      refine Fr_ite ?_ ?_
      · exact fg_XX12_place_p159 _ hs_self32 _ hs_self62 _ _ _ (fun a i hh => hh.elim) _ ag_h13
      · refine Fr_inb ?_
        refine Fr_ite ?_ ?_
        · exact fg_XX12_place_p159 _ hs_self32 _ hs_self62 _ _ _ (fun a i hh => hh.elim) _ ag_h13
        · refine Fr_cal (fg_XX12_lengthOf _ _ (fun a i hh => hh.elim) _ ag_h13) (fun r14 h15 ag_h15 => ?_)
          refine Fr_inb ?_
          refine Fr_chk ?_
          refine Fr_nm (fun v16 => ?_)
          refine Fr_inb ?_
          refine Fr_ite ?_ ?_
          · exact fg_XX12_place_p147 _ hs_self32 _ hs_self62 _ _ _ _ _ (fun a i hh => hW a i (by omega)) _ ag_h15
          · refine Fr_inb ?_
            refine Fr_ite ?_ ?_
            · refine Fr_inb ?_
              exact fg_XX12_place_p158 _ hs_self32 _ hs_self62 _ _ _ _ _ (fun a i hh => hW a i (by omega)) _ ag_h15
            · exact fg_XX12_place_p147 _ hs_self32 _ hs_self62 _ _ _ _ _ (fun a i hh => hW a i (by omega)) _ ag_h15
theorem fg_XX12_place_L62 {W : Nat → Nat → Prop} {h0 : Hp} (self32 : Int → Hp → OR) (hs_self32 : ∀ (y0 : Int) (hh : Hp), Ag W h0 hh → Fr W h0 (self32 y0 hh)) (l1 : Int) (l2 : Int) (l3 : Int) (hW : ∀ a i : Nat, (a = 198) → W a i) (h : Hp) (ag_h : Ag W h0 h) : Fr W h0 (XX12_place_L62 self32 l1 l2 l3 h) := by
  unfold XX12_place_L62
  exact Fr_lup3 (fun self hs z0 z1 z2 hh ag => fg_XX12_place_b62 self32 hs_self32 self hs z0 z1 z2 hW hh ag) FU _ _ _ _ ag_h
theorem fg_XX12_place_p59 {W : Nat → Nat → Prop} {h0 : Hp} (self32 : Int → Hp → OR) (hs_self32 : ∀ (y0 : Int) (hh : Hp), Ag W h0 hh → Fr W h0 (self32 y0 hh)) (l1 : Int) (l2 : Int) (s1 : Int) (s2 : Int) (hW : ∀ a i : Nat, (a = 198) → W a i) (h : Hp) (ag_h : Ag W h0 h) : Fr W h0 (XX12_place_p59 self32 l1 l2 s1 s2 h) := by
  unfold XX12_place_p59
  refine Fr_inb ?_
  refine Fr_wr ag_h (hW _ _ (by omega)) (fun h11 ag_h11 => ?_)
  exact fg_XX12_place_L62 _ hs_self32 _ _ _ (fun a i hh => hW a i (by omega)) _ ag_h11
theorem fg_XX12_place_b32 {W : Nat → Nat → Prop} {h0 : Hp} (self32 : Int → Hp → OR) (hs_self32 : ∀ (y0 : Int) (hh : Hp), Ag W h0 hh → Fr W h0 (self32 y0 hh)) (l1 : Int) (hW : ∀ a i : Nat, (a = 166 ∨ a = 198 ∨ (a = 143 ∧ i = 24)) → W a i) (h : Hp) (ag_h : Ag W h0 h) : Fr W h0 (XX12_place_b32 self32 l1 h) := by
  unfold XX12_place_b32
  refine Fr_ite ?_ ?_
  · refine Fr_inb ?_
    refine Fr_ite ?_ ?_
    · exact Fr_some ag_h
    · exact fg_XX12_place_L188 _ _ (fun a i hh => hW a i ((fun q => q.elim (fun q => Or.inl (by omega)) (fun q => Or.inr (Or.inr (by omega)))) hh)) _ ag_h
  · refine Fr_cal (fg_XX12_bits _ (fun a i hh => hh.elim) _ ag_h) (fun r9 h10 ag_h10 => ?_)
    refine Fr_ite ?_ ?_
    · exact fg_XX12_place_p59 _ hs_self32 _ _ _ _ (fun a i hh => hW a i (Or.inr (Or.inl (by omega)))) _ ag_h10
    · exact fg_XX12_place_p59 _ hs_self32 _ _ _ _ (fun a i hh => hW a i (Or.inr (Or.inl (by omega)))) _ ag_h10
theorem fg_XX12_place_L32 {W : Nat → Nat → Prop} {h0 : Hp} (l1 : Int) (hW : ∀ a i : Nat, (a = 166 ∨ a = 198 ∨ (a = 143 ∧ i = 24)) → W a i) (h : Hp) (ag_h : Ag W h0 h) : Fr W h0 (XX12_place_L32 l1 h) := by
  unfold XX12_place_L32
  exact Fr_lup1 (fun self hs z0 hh ag => fg_XX12_place_b32 self hs z0 hW hh ag) FU _ _ ag_h
theorem fg_XX12_place {W : Nat → Nat → Prop} {h0 : Hp} (hW : ∀ a i : Nat, (a = 166 ∨ a = 198 ∨ (a = 143 ∧ i = 24)) → W a i) (h : Hp) (ag_h : Ag W h0 h) : Fr W h0 (XX12_place  h) := by
  unfold XX12_place
  refine Fr_ite ?_ ?_
  · exact Fr_some ag_h
  · refine Fr_ite ?_ ?_
    · refine Fr_chk ?_
      refine Fr_nm (fun v1 => ?_)
      exact fg_XX12_place_L32 _ (fun a i hh => hW a i ((fun q => q.elim (fun q => Or.inl (by omega)) (fun q => q.elim (fun q => Or.inr (Or.inl (by omega))) (fun q => Or.inr (Or.inr (by omega))))) hh)) _ ag_h
    · exact Fr_some ag_h
theorem fr_XX12_place {h : Hp} {r : Int} {h1 : Hp} (e : XX12_place  h = some (r, h1)) (a i : Nat) (hn : ¬ (a = 166 ∨ a = 198 ∨ (a = 143 ∧ i = 24))) : h1 a i = h a i := fg_XX12_place (W := fun a i => a = 166 ∨ a = 198 ∨ (a = 143 ∧ i = 24))  (fun _ _ hh => hh) h (fun _ _ _ => rfl) r h1 e a i hn
theorem fg_XX12_used {W : Nat → Nat → Prop} {h0 : Hp} (x0 : Int) (hW : ∀ a i : Nat, (False) → W a i) (h : Hp) (ag_h : Ag W h0 h) : Fr W h0 (XX12_used x0 h) := by
  unfold XX12_used
  refine Fr_chk ?_
  refine Fr_cal (fg_XX12_in _ _ _ (fun a i hh => hh.elim) _ ag_h) (fun r1 h2 ag_h2 => ?_)
  refine Fr_ite ?_ ?_
  · exact Fr_some ag_h2
  · refine Fr_inb ?_
    refine Fr_ite ?_ ?_
    · exact Fr_some ag_h2
    · exact Fr_some ag_h2
theorem fr_XX12_used {x0 : Int} {h : Hp} {r : Int} {h1 : Hp} (e : XX12_used x0 h = some (r, h1)) (a i : Nat) (hn : ¬ (False)) : h1 a i = h a i := fg_XX12_used (W := fun a i => False) x0 (fun _ _ hh => hh) h (fun _ _ _ => rfl) r h1 e a i hn
theorem fe_XX12_used {x0 : Int} {h : Hp} {r : Int} {h1 : Hp} (e : XX12_used x0 h = some (r, h1)) : h1 = h := funext (fun a => funext (fun i => fr_XX12_used e a i (fun hh => hh)))
theorem fg_XX12_delay {W : Nat → Nat → Prop} {h0 : Hp} (x0 : Int) (x1 : Int) (hW : ∀ a i : Nat, (a = 156) → W a i) (h : Hp) (ag_h : Ag W h0 h) : Fr W h0 (XX12_delay x0 x1 h) := by
  unfold XX12_delay
  refine Fr_cal (fg_XX12_in _ _ _ (fun a i hh => hh.elim) _ ag_h) (fun r1 h2 ag_h2 => ?_)
  refine Fr_ite ?_ ?_
  · exact Fr_some ag_h2
  · refine Fr_cal (fg_XX12_in _ _ _ (fun a i hh => hh.elim) _ ag_h2) (fun r3 h4 ag_h4 => ?_)
    refine Fr_ite ?_ ?_
    · exact Fr_some ag_h4
    · refine Fr_inb ?_
      refine Fr_nm (fun v5 => ?_)
      refine Fr_inb ?_
      refine Fr_wr ag_h4 (hW _ _ (by omega)) (fun h6 ag_h6 => ?_)
      exact Fr_some ag_h6
theorem fr_XX12_delay {x0 : Int} {x1 : Int} {h : Hp} {r : Int} {h1 : Hp} (e : XX12_delay x0 x1 h = some (r, h1)) (a i : Nat) (hn : ¬ (a = 156)) : h1 a i = h a i := fg_XX12_delay (W := fun a i => a = 156) x0 x1 (fun _ _ hh => hh) h (fun _ _ _ => rfl) r h1 e a i hn
theorem fg_XX12_arrivals_p125 {W : Nat → Nat → Prop} {h0 : Hp} (self30 : Int → Int → Hp → OR) (hs_self30 : ∀ (y0 y1 : Int) (hh : Hp), Ag W h0 hh → Fr W h0 (self30 y0 y1 hh)) (self66 : Int → Int → Int → Int → Int → Int → Hp → OR) (hs_self66 : ∀ (y0 y1 y2 y3 y4 y5 : Int) (hh : Hp), Ag W h0 hh → Fr W h0 (self66 y0 y1 y2 y3 y4 y5 hh)) (l1 : Int) (l2 : Int) (l3 : Int) (l4 : Int) (l6 : Int) (s0 : Int) (hW : ∀ a i : Nat, (False) → W a i) (h : Hp) (ag_h : Ag W h0 h) : Fr W h0 (XX12_arrivals_p125 self30 self66 l1 l2 l3 l4 l6 s0 h) := by
  unfold XX12_arrivals_p125
  refine Fr_chk ?_
  exact hs_self66 _ _ _ _ _ _ _ ag_h
theorem fg_XX12_arrivals_b66 {W : Nat → Nat → Prop} {h0 : Hp} (self30 : Int → Int → Hp → OR) (hs_self30 : ∀ (y0 y1 : Int) (hh : Hp), Ag W h0 hh → Fr W h0 (self30 y0 y1 hh)) (self66 : Int → Int → Int → Int → Int → Int → Hp → OR) (hs_self66 : ∀ (y0 y1 y2 y3 y4 y5 : Int) (hh : Hp), Ag W h0 hh → Fr W h0 (self66 y0 y1 y2 y3 y4 y5 hh)) (l1 : Int) (l2 : Int) (l3 : Int) (l4 : Int) (l5 : Int) (l6 : Int) (hW : ∀ a i : Nat, (a = 199) → W a i) (h : Hp) (ag_h : Ag W h0 h) : Fr W h0 (XX12_arrivals_b66 self30 self66 l1 l2 l3 l4 l5 l6 h) := by
  unfold XX12_arrivals_b66
  refine Fr_inb ?_
  refine Fr_cal (fg_XX12_pinsOf _ (fun a i hh => hh.elim) _ ag_h) (fun r7 h8 ag_h8 => ?_)
  refine Fr_ite ?_ ?_
  · refine Fr_inb ?_
    refine Fr_inb ?_
    refine Fr_chk ?_
    refine Fr_inb ?_
    refine Fr_wr ag_h8 (hW _ _ (by omega)) (fun h9 ag_h9 => ?_)
    refine Fr_chk ?_
    exact hs_self30 _ _ _ ag_h9
  · refine Fr_chk ?_
    refine Fr_chk ?_
    refine Fr_inb ?_
    refine Fr_inb ?_
    refine Fr_ite ?_ ?_
    · exact fg_XX12_arrivals_p125 _ hs_self30 _ hs_self66 _ _ _ _ _ _ (fun a i hh => hh.elim) _ ag_h8
    · refine Fr_chk ?_
      refine Fr_chk ?_
      refine Fr_inb ?_
      refine Fr_inb ?_
      exact fg_XX12_arrivals_p125 _ hs_self30 _ hs_self66 _ _ _ _ _ _ (fun a i hh => hh.elim) _ ag_h8
theorem fg_XX12_arrivals_L66 {W : Nat → Nat → Prop} {h0 : Hp} (self30 : Int → Int → Hp → OR) (hs_self30 : ∀ (y0 y1 : Int) (hh : Hp), Ag W h0 hh → Fr W h0 (self30 y0 y1 hh)) (l1 : Int) (l2 : Int) (l3 : Int) (l4 : Int) (l5 : Int) (l6 : Int) (hW : ∀ a i : Nat, (a = 199) → W a i) (h : Hp) (ag_h : Ag W h0 h) : Fr W h0 (XX12_arrivals_L66 self30 l1 l2 l3 l4 l5 l6 h) := by
  unfold XX12_arrivals_L66
  exact Fr_lup6 (fun self hs z0 z1 z2 z3 z4 z5 hh ag => fg_XX12_arrivals_b66 self30 hs_self30 self hs z0 z1 z2 z3 z4 z5 hW hh ag) FU _ _ _ _ _ _ _ ag_h
theorem fg_XX12_arrivals_b30 {W : Nat → Nat → Prop} {h0 : Hp} (self30 : Int → Int → Hp → OR) (hs_self30 : ∀ (y0 y1 : Int) (hh : Hp), Ag W h0 hh → Fr W h0 (self30 y0 y1 hh)) (l1 : Int) (l2 : Int) (hW : ∀ a i : Nat, (a = 199) → W a i) (h : Hp) (ag_h : Ag W h0 h) : Fr W h0 (XX12_arrivals_b30 self30 l1 l2 h) := by
  unfold XX12_arrivals_b30
  refine Fr_inb ?_
  refine Fr_ite ?_ ?_
  · exact Fr_some ag_h
  · refine Fr_chk ?_
    refine Fr_chk ?_
    refine Fr_inb ?_
    refine Fr_nm (fun v5 => ?_)
    refine Fr_chk ?_
    refine Fr_chk ?_
    refine Fr_nm (fun v6 => ?_)
    exact fg_XX12_arrivals_L66 _ hs_self30 _ _ _ _ _ _ (fun a i hh => hW a i (by omega)) _ ag_h
theorem fg_XX12_arrivals_L30 {W : Nat → Nat → Prop} {h0 : Hp} (l1 : Int) (l2 : Int) (hW : ∀ a i : Nat, (a = 199) → W a i) (h : Hp) (ag_h : Ag W h0 h) : Fr W h0 (XX12_arrivals_L30 l1 l2 h) := by
  unfold XX12_arrivals_L30
  exact Fr_lup2 (fun self hs z0 z1 hh ag => fg_XX12_arrivals_b30 self hs z0 z1 hW hh ag) FU _ _ _ ag_h
theorem fg_XX12_arrivals_b7 {W : Nat → Nat → Prop} {h0 : Hp} (self7 : Int → Int → Hp → OR) (hs_self7 : ∀ (y0 y1 : Int) (hh : Hp), Ag W h0 hh → Fr W h0 (self7 y0 y1 hh)) (l1 : Int) (l2 : Int) (hW : ∀ a i : Nat, (a = 199) → W a i) (h : Hp) (ag_h : Ag W h0 h) : Fr W h0 (XX12_arrivals_b7 self7 l1 l2 h) := by
  unfold XX12_arrivals_b7
  refine Fr_cal (fg_XX12_begun (fun a i hh => hh.elim) _ ag_h) (fun r3 h4 ag_h4 => ?_)
  refine Fr_ite ?_ ?_
  · exact fg_XX12_arrivals_L30 _ _ (fun a i hh => hW a i (by omega)) _ ag_h4
  · refine Fr_inb ?_
    refine Fr_wr ag_h4 (hW _ _ (by omega)) (fun h10 ag_h10 => ?_)
    refine Fr_chk ?_
    exact hs_self7 _ _ _ ag_h10
theorem fg_XX12_arrivals_L7 {W : Nat → Nat → Prop} {h0 : Hp} (l1 : Int) (l2 : Int) (hW : ∀ a i : Nat, (a = 199) → W a i) (h : Hp) (ag_h : Ag W h0 h) : Fr W h0 (XX12_arrivals_L7 l1 l2 h) := by
  unfold XX12_arrivals_L7
  exact Fr_lup2 (fun self hs z0 z1 hh ag => fg_XX12_arrivals_b7 self hs z0 z1 hW hh ag) FU _ _ _ ag_h
theorem fg_XX12_arrivals {W : Nat → Nat → Prop} {h0 : Hp} (x0 : Int) (hW : ∀ a i : Nat, ((186 ≤ a ∧ a ≤ 187) ∨ a = 199) → W a i) (h : Hp) (ag_h : Ag W h0 h) : Fr W h0 (XX12_arrivals x0 h) := by
  unfold XX12_arrivals
  refine Fr_cal (fg_XX12_sorts _ (fun a i hh => hW a i (Or.inl (by omega))) _ ag_h) (fun r1 h2 ag_h2 => ?_)
  exact fg_XX12_arrivals_L7 _ _ (fun a i hh => hW a i (Or.inr (by omega))) _ ag_h2
theorem fr_XX12_arrivals {x0 : Int} {h : Hp} {r : Int} {h1 : Hp} (e : XX12_arrivals x0 h = some (r, h1)) (a i : Nat) (hn : ¬ ((186 ≤ a ∧ a ≤ 187) ∨ a = 199)) : h1 a i = h a i := fg_XX12_arrivals (W := fun a i => (186 ≤ a ∧ a ≤ 187) ∨ a = 199) x0 (fun _ _ hh => hh) h (fun _ _ _ => rfl) r h1 e a i hn
theorem fg_XX12_arrive {W : Nat → Nat → Prop} {h0 : Hp} (x0 : Int) (x1 : Int) (hW : ∀ a i : Nat, ((186 ≤ a ∧ a ≤ 187) ∨ a = 199) → W a i) (h : Hp) (ag_h : Ag W h0 h) : Fr W h0 (XX12_arrive x0 x1 h) := by
  unfold XX12_arrive
  refine Fr_cal (fg_XX12_isNet _ (fun a i hh => hh.elim) _ ag_h) (fun r1 h2 ag_h2 => ?_)
  refine Fr_ite ?_ ?_
  · exact Fr_some ag_h2
  · refine Fr_cal (fg_XX12_isWire _ _ (fun a i hh => hh.elim) _ ag_h2) (fun r3 h4 ag_h4 => ?_)
    refine Fr_ite ?_ ?_
    · exact Fr_some ag_h4
    · refine Fr_cal (fg_XX12_arrivals _ (fun a i hh => hW a i ((fun q => q.elim (fun q => Or.inl (by omega)) (fun q => Or.inr (by omega))) hh)) _ ag_h4) (fun r5 h6 ag_h6 => ?_)
      refine Fr_inb ?_
      exact Fr_some ag_h6
theorem fr_XX12_arrive {x0 : Int} {x1 : Int} {h : Hp} {r : Int} {h1 : Hp} (e : XX12_arrive x0 x1 h = some (r, h1)) (a i : Nat) (hn : ¬ ((186 ≤ a ∧ a ≤ 187) ∨ a = 199)) : h1 a i = h a i := fg_XX12_arrive (W := fun a i => (186 ≤ a ∧ a ≤ 187) ∨ a = 199) x0 x1 (fun _ _ hh => hh) h (fun _ _ _ => rfl) r h1 e a i hn
theorem fg_XX12_late_p44 {W : Nat → Nat → Prop} {h0 : Hp} (self15 : Int → Int → Int → Hp → OR) (hs_self15 : ∀ (y0 y1 y2 : Int) (hh : Hp), Ag W h0 hh → Fr W h0 (self15 y0 y1 y2 hh)) (l1 : Int) (l3 : Int) (s0 : Int) (s1 : Int) (hW : ∀ a i : Nat, (False) → W a i) (h : Hp) (ag_h : Ag W h0 h) : Fr W h0 (XX12_late_p44 self15 l1 l3 s0 s1 h) := by
  unfold XX12_late_p44
  refine Fr_chk ?_
  refine Fr_nm (fun v7 => ?_)
  refine Fr_chk ?_
  exact hs_self15 _ _ _ _ ag_h
theorem fg_XX12_late_b15 {W : Nat → Nat → Prop} {h0 : Hp} (self15 : Int → Int → Int → Hp → OR) (hs_self15 : ∀ (y0 y1 y2 : Int) (hh : Hp), Ag W h0 hh → Fr W h0 (self15 y0 y1 y2 hh)) (l1 : Int) (l2 : Int) (l3 : Int) (hW : ∀ a i : Nat, (False) → W a i) (h : Hp) (ag_h : Ag W h0 h) : Fr W h0 (XX12_late_b15 self15 l1 l2 l3 h) := by
  unfold XX12_late_b15
  refine Fr_cal (fg_XX12_observed (fun a i hh => hh.elim) _ ag_h) (fun r3 h4 ag_h4 => ?_)
  refine Fr_ite ?_ ?_
  · exact Fr_some ag_h4
  · refine Fr_cal (fg_XX12_seen _ _ (fun a i hh => hh.elim) _ ag_h4) (fun r5 h6 ag_h6 => ?_)
    refine Fr_inb ?_
    refine Fr_ite ?_ ?_
    · exact fg_XX12_late_p44 _ hs_self15 _ _ _ _ (fun a i hh => hh.elim) _ ag_h6
    · exact fg_XX12_late_p44 _ hs_self15 _ _ _ _ (fun a i hh => hh.elim) _ ag_h6
theorem fg_XX12_late_L15 {W : Nat → Nat → Prop} {h0 : Hp} (l1 : Int) (l2 : Int) (l3 : Int) (hW : ∀ a i : Nat, (False) → W a i) (h : Hp) (ag_h : Ag W h0 h) : Fr W h0 (XX12_late_L15 l1 l2 l3 h) := by
  unfold XX12_late_L15
  exact Fr_lup3 (fun self hs z0 z1 z2 hh ag => fg_XX12_late_b15 self hs z0 z1 z2 hW hh ag) FU _ _ _ _ ag_h
theorem fg_XX12_late {W : Nat → Nat → Prop} {h0 : Hp} (x0 : Int) (hW : ∀ a i : Nat, ((186 ≤ a ∧ a ≤ 187) ∨ a = 199) → W a i) (h : Hp) (ag_h : Ag W h0 h) : Fr W h0 (XX12_late x0 h) := by
  unfold XX12_late
  refine Fr_ite ?_ ?_
  · refine Fr_cal (fg_XX12_arrivals _ (fun a i hh => hW a i ((fun q => q.elim (fun q => Or.inl (by omega)) (fun q => Or.inr (by omega))) hh)) _ ag_h) (fun r1 h2 ag_h2 => ?_)
    exact fg_XX12_late_L15 _ _ _ (fun a i hh => hh.elim) _ ag_h2
  · exact Fr_some ag_h
theorem fr_XX12_late {x0 : Int} {h : Hp} {r : Int} {h1 : Hp} (e : XX12_late x0 h = some (r, h1)) (a i : Nat) (hn : ¬ ((186 ≤ a ∧ a ≤ 187) ∨ a = 199)) : h1 a i = h a i := fg_XX12_late (W := fun a i => (186 ≤ a ∧ a ≤ 187) ∨ a = 199) x0 (fun _ _ hh => hh) h (fun _ _ _ => rfl) r h1 e a i hn
theorem fg_XX12_stores_b205 {W : Nat → Nat → Prop} {h0 : Hp} (self205 : Int → Int → Hp → OR) (hs_self205 : ∀ (y0 y1 : Int) (hh : Hp), Ag W h0 hh → Fr W h0 (self205 y0 y1 hh)) (l1 : Int) (l2 : Int) (hW : ∀ a i : Nat, (a = 184) → W a i) (h : Hp) (ag_h : Ag W h0 h) : Fr W h0 (XX12_stores_b205 self205 l1 l2 h) := by
  unfold XX12_stores_b205
  refine Fr_ite ?_ ?_
  · exact Fr_some ag_h
  · refine Fr_chk ?_
    refine Fr_chk ?_
    refine Fr_inb ?_
    refine Fr_inb ?_
    refine Fr_zb ?_
    refine Fr_wr ag_h (hW _ _ (by omega)) (fun h5 ag_h5 => ?_)
    refine Fr_chk ?_
    exact hs_self205 _ _ _ ag_h5
theorem fg_XX12_stores_L205 {W : Nat → Nat → Prop} {h0 : Hp} (l1 : Int) (l2 : Int) (hW : ∀ a i : Nat, (a = 184) → W a i) (h : Hp) (ag_h : Ag W h0 h) : Fr W h0 (XX12_stores_L205 l1 l2 h) := by
  unfold XX12_stores_L205
  exact Fr_lup2 (fun self hs z0 z1 hh ag => fg_XX12_stores_b205 self hs z0 z1 hW hh ag) FU _ _ _ ag_h
theorem fg_XX12_stores_b176 {W : Nat → Nat → Prop} {h0 : Hp} (self176 : Int → Int → Hp → OR) (hs_self176 : ∀ (y0 y1 : Int) (hh : Hp), Ag W h0 hh → Fr W h0 (self176 y0 y1 hh)) (l1 : Int) (l2 : Int) (hW : ∀ a i : Nat, (a = 181 ∨ a = 184) → W a i) (h : Hp) (ag_h : Ag W h0 h) : Fr W h0 (XX12_stores_b176 self176 l1 l2 h) := by
  unfold XX12_stores_b176
  refine Fr_ite ?_ ?_
  · exact fg_XX12_stores_L205 _ _ (fun a i hh => hW a i (Or.inr (by omega))) _ ag_h
  · refine Fr_chk ?_
    refine Fr_chk ?_
    refine Fr_inb ?_
    refine Fr_inb ?_
    refine Fr_wr ag_h (hW _ _ (Or.inl (by omega))) (fun h6 ag_h6 => ?_)
    refine Fr_chk ?_
    exact hs_self176 _ _ _ ag_h6
theorem fg_XX12_stores_L176 {W : Nat → Nat → Prop} {h0 : Hp} (l1 : Int) (l2 : Int) (hW : ∀ a i : Nat, (a = 181 ∨ a = 184) → W a i) (h : Hp) (ag_h : Ag W h0 h) : Fr W h0 (XX12_stores_L176 l1 l2 h) := by
  unfold XX12_stores_L176
  exact Fr_lup2 (fun self hs z0 z1 hh ag => fg_XX12_stores_b176 self hs z0 z1 hW hh ag) FU _ _ _ ag_h
theorem fg_XX12_stores_b147 {W : Nat → Nat → Prop} {h0 : Hp} (self147 : Int → Int → Hp → OR) (hs_self147 : ∀ (y0 y1 : Int) (hh : Hp), Ag W h0 hh → Fr W h0 (self147 y0 y1 hh)) (l1 : Int) (l2 : Int) (hW : ∀ a i : Nat, ((180 ≤ a ∧ a ≤ 181) ∨ a = 184) → W a i) (h : Hp) (ag_h : Ag W h0 h) : Fr W h0 (XX12_stores_b147 self147 l1 l2 h) := by
  unfold XX12_stores_b147
  refine Fr_ite ?_ ?_
  · exact fg_XX12_stores_L176 _ _ (fun a i hh => hW a i ((fun q => q.elim (fun q => Or.inl (by omega)) (fun q => Or.inr (by omega))) hh)) _ ag_h
  · refine Fr_chk ?_
    refine Fr_chk ?_
    refine Fr_inb ?_
    refine Fr_inb ?_
    refine Fr_wr ag_h (hW _ _ (Or.inl (by omega))) (fun h7 ag_h7 => ?_)
    refine Fr_chk ?_
    exact hs_self147 _ _ _ ag_h7
theorem fg_XX12_stores_L147 {W : Nat → Nat → Prop} {h0 : Hp} (l1 : Int) (l2 : Int) (hW : ∀ a i : Nat, ((180 ≤ a ∧ a ≤ 181) ∨ a = 184) → W a i) (h : Hp) (ag_h : Ag W h0 h) : Fr W h0 (XX12_stores_L147 l1 l2 h) := by
  unfold XX12_stores_L147
  exact Fr_lup2 (fun self hs z0 z1 hh ag => fg_XX12_stores_b147 self hs z0 z1 hW hh ag) FU _ _ _ ag_h
theorem fg_XX12_stores_b103 {W : Nat → Nat → Prop} {h0 : Hp} (self44 : Int → Int → Hp → OR) (hs_self44 : ∀ (y0 y1 : Int) (hh : Hp), Ag W h0 hh → Fr W h0 (self44 y0 y1 hh)) (self103 : Int → Int → Int → Hp → OR) (hs_self103 : ∀ (y0 y1 y2 : Int) (hh : Hp), Ag W h0 hh → Fr W h0 (self103 y0 y1 y2 hh)) (l1 : Int) (l2 : Int) (l3 : Int) (hW : ∀ a i : Nat, (a = 179) → W a i) (h : Hp) (ag_h : Ag W h0 h) : Fr W h0 (XX12_stores_b103 self44 self103 l1 l2 l3 h) := by
  unfold XX12_stores_b103
  refine Fr_ite ?_ ?_
  · refine Fr_chk ?_
    exact hs_self44 _ _ _ ag_h
  · refine Fr_chk ?_
    refine Fr_chk ?_
    refine Fr_chk ?_
    refine Fr_chk ?_
    refine Fr_chk ?_
    refine Fr_chk ?_
    refine Fr_inb ?_
    refine Fr_inb ?_
    refine Fr_wr ag_h (hW _ _ (by omega)) (fun h11 ag_h11 => ?_)
    refine Fr_chk ?_
    exact hs_self103 _ _ _ _ ag_h11
theorem fg_XX12_stores_L103 {W : Nat → Nat → Prop} {h0 : Hp} (self44 : Int → Int → Hp → OR) (hs_self44 : ∀ (y0 y1 : Int) (hh : Hp), Ag W h0 hh → Fr W h0 (self44 y0 y1 hh)) (l1 : Int) (l2 : Int) (l3 : Int) (hW : ∀ a i : Nat, (a = 179) → W a i) (h : Hp) (ag_h : Ag W h0 h) : Fr W h0 (XX12_stores_L103 self44 l1 l2 l3 h) := by
  unfold XX12_stores_L103
  exact Fr_lup3 (fun self hs z0 z1 z2 hh ag => fg_XX12_stores_b103 self44 hs_self44 self hs z0 z1 z2 hW hh ag) FU _ _ _ _ ag_h
theorem fg_XX12_stores_b44 {W : Nat → Nat → Prop} {h0 : Hp} (self44 : Int → Int → Hp → OR) (hs_self44 : ∀ (y0 y1 : Int) (hh : Hp), Ag W h0 hh → Fr W h0 (self44 y0 y1 hh)) (l1 : Int) (l2 : Int) (hW : ∀ a i : Nat, ((178 ≤ a ∧ a ≤ 184)) → W a i) (h : Hp) (ag_h : Ag W h0 h) : Fr W h0 (XX12_stores_b44 self44 l1 l2 h) := by
  unfold XX12_stores_b44
  refine Fr_ite ?_ ?_
  · exact fg_XX12_stores_L147 _ _ (fun a i hh => hW a i ((fun q => q.elim (fun q => by omega) (fun q => by omega)) hh)) _ ag_h
  · refine Fr_chk ?_
    refine Fr_chk ?_
    refine Fr_inb ?_
    refine Fr_inb ?_
    refine Fr_wr ag_h (hW _ _ (by omega)) (fun h8 ag_h8 => ?_)
    refine Fr_chk ?_
    refine Fr_chk ?_
    refine Fr_inb ?_
    refine Fr_inb ?_
    refine Fr_wr ag_h8 (hW _ _ (by omega)) (fun h9 ag_h9 => ?_)
    refine Fr_chk ?_
    refine Fr_chk ?_
    refine Fr_inb ?_
    refine Fr_inb ?_
    refine Fr_wr ag_h9 (hW _ _ (by omega)) (fun h10 ag_h10 => ?_)
    exact fg_XX12_stores_L103 _ hs_self44 _ _ _ (fun a i hh => hW a i (by omega)) _ ag_h10
theorem fg_XX12_stores_L44 {W : Nat → Nat → Prop} {h0 : Hp} (l1 : Int) (l2 : Int) (hW : ∀ a i : Nat, ((178 ≤ a ∧ a ≤ 184)) → W a i) (h : Hp) (ag_h : Ag W h0 h) : Fr W h0 (XX12_stores_L44 l1 l2 h) := by
  unfold XX12_stores_L44
  exact Fr_lup2 (fun self hs z0 z1 hh ag => fg_XX12_stores_b44 self hs z0 z1 hW hh ag) FU _ _ _ ag_h
theorem fg_XX12_stores {W : Nat → Nat → Prop} {h0 : Hp} (x0 : Int) (hW : ∀ a i : Nat, ((174 ≤ a ∧ a ≤ 184)) → W a i) (h : Hp) (ag_h : Ag W h0 h) : Fr W h0 (XX12_stores x0 h) := by
  unfold XX12_stores
  refine Fr_inb ?_
  refine Fr_wr ag_h (hW _ _ (by omega)) (fun h1 ag_h1 => ?_)
  refine Fr_inb ?_
  refine Fr_wr ag_h1 (hW _ _ (by omega)) (fun h2 ag_h2 => ?_)
  refine Fr_inb ?_
  refine Fr_wr ag_h2 (hW _ _ (by omega)) (fun h3 ag_h3 => ?_)
  refine Fr_inb ?_
  refine Fr_inb ?_
  refine Fr_wr ag_h3 (hW _ _ (by omega)) (fun h4 ag_h4 => ?_)
  exact fg_XX12_stores_L44 _ _ (fun a i hh => hW a i (by omega)) _ ag_h4
theorem fr_XX12_stores {x0 : Int} {h : Hp} {r : Int} {h1 : Hp} (e : XX12_stores x0 h = some (r, h1)) (a i : Nat) (hn : ¬ ((174 ≤ a ∧ a ≤ 184))) : h1 a i = h a i := fg_XX12_stores (W := fun a i => (174 ≤ a ∧ a ≤ 184)) x0 (fun _ _ hh => hh) h (fun _ _ _ => rfl) r h1 e a i hn
theorem fg_XX12_brings_b171 {W : Nat → Nat → Prop} {h0 : Hp} (self171 : Int → Int → Hp → OR) (hs_self171 : ∀ (y0 y1 : Int) (hh : Hp), Ag W h0 hh → Fr W h0 (self171 y0 y1 hh)) (l1 : Int) (l2 : Int) (hW : ∀ a i : Nat, (a = 148 ∨ (a = 143 ∧ i = 23)) → W a i) (h : Hp) (ag_h : Ag W h0 h) : Fr W h0 (XX12_brings_b171 self171 l1 l2 h) := by
  unfold XX12_brings_b171
  refine Fr_ite ?_ ?_
  · refine Fr_zb ?_
    refine Fr_wr ag_h (hW _ _ (Or.inr (by omega))) (fun h2 ag_h2 => ?_)
    exact Fr_some ag_h2
  · refine Fr_chk ?_
    refine Fr_chk ?_
    refine Fr_inb ?_
    refine Fr_inb ?_
    refine Fr_wr ag_h (hW _ _ (Or.inl (by omega))) (fun h3 ag_h3 => ?_)
    refine Fr_chk ?_
    exact hs_self171 _ _ _ ag_h3
theorem fg_XX12_brings_L171 {W : Nat → Nat → Prop} {h0 : Hp} (l1 : Int) (l2 : Int) (hW : ∀ a i : Nat, (a = 148 ∨ (a = 143 ∧ i = 23)) → W a i) (h : Hp) (ag_h : Ag W h0 h) : Fr W h0 (XX12_brings_L171 l1 l2 h) := by
  unfold XX12_brings_L171
  exact Fr_lup2 (fun self hs z0 z1 hh ag => fg_XX12_brings_b171 self hs z0 z1 hW hh ag) FU _ _ _ ag_h
theorem fg_XX12_brings_b142 {W : Nat → Nat → Prop} {h0 : Hp} (self142 : Int → Int → Hp → OR) (hs_self142 : ∀ (y0 y1 : Int) (hh : Hp), Ag W h0 hh → Fr W h0 (self142 y0 y1 hh)) (l1 : Int) (l2 : Int) (hW : ∀ a i : Nat, ((147 ≤ a ∧ a ≤ 148) ∨ (a = 143 ∧ i = 23)) → W a i) (h : Hp) (ag_h : Ag W h0 h) : Fr W h0 (XX12_brings_b142 self142 l1 l2 h) := by
  unfold XX12_brings_b142
  refine Fr_ite ?_ ?_
  · exact fg_XX12_brings_L171 _ _ (fun a i hh => hW a i ((fun q => q.elim (fun q => Or.inl (by omega)) (fun q => Or.inr (by omega))) hh)) _ ag_h
  · refine Fr_chk ?_
    refine Fr_chk ?_
    refine Fr_inb ?_
    refine Fr_inb ?_
    refine Fr_wr ag_h (hW _ _ (Or.inl (by omega))) (fun h4 ag_h4 => ?_)
    refine Fr_chk ?_
    exact hs_self142 _ _ _ ag_h4
theorem fg_XX12_brings_L142 {W : Nat → Nat → Prop} {h0 : Hp} (l1 : Int) (l2 : Int) (hW : ∀ a i : Nat, ((147 ≤ a ∧ a ≤ 148) ∨ (a = 143 ∧ i = 23)) → W a i) (h : Hp) (ag_h : Ag W h0 h) : Fr W h0 (XX12_brings_L142 l1 l2 h) := by
  unfold XX12_brings_L142
  exact Fr_lup2 (fun self hs z0 z1 hh ag => fg_XX12_brings_b142 self hs z0 z1 hW hh ag) FU _ _ _ ag_h
theorem fg_XX12_brings_b98 {W : Nat → Nat → Prop} {h0 : Hp} (self14 : Int → Int → Hp → OR) (hs_self14 : ∀ (y0 y1 : Int) (hh : Hp), Ag W h0 hh → Fr W h0 (self14 y0 y1 hh)) (self98 : Int → Int → Int → Hp → OR) (hs_self98 : ∀ (y0 y1 y2 : Int) (hh : Hp), Ag W h0 hh → Fr W h0 (self98 y0 y1 y2 hh)) (l1 : Int) (l2 : Int) (l3 : Int) (hW : ∀ a i : Nat, (a = 146) → W a i) (h : Hp) (ag_h : Ag W h0 h) : Fr W h0 (XX12_brings_b98 self14 self98 l1 l2 l3 h) := by
  unfold XX12_brings_b98
  refine Fr_ite ?_ ?_
  · refine Fr_chk ?_
    exact hs_self14 _ _ _ ag_h
  · refine Fr_chk ?_
    refine Fr_chk ?_
    refine Fr_chk ?_
    refine Fr_chk ?_
    refine Fr_chk ?_
    refine Fr_chk ?_
    refine Fr_inb ?_
    refine Fr_inb ?_
    refine Fr_wr ag_h (hW _ _ (by omega)) (fun h11 ag_h11 => ?_)
    refine Fr_chk ?_
    exact hs_self98 _ _ _ _ ag_h11
theorem fg_XX12_brings_L98 {W : Nat → Nat → Prop} {h0 : Hp} (self14 : Int → Int → Hp → OR) (hs_self14 : ∀ (y0 y1 : Int) (hh : Hp), Ag W h0 hh → Fr W h0 (self14 y0 y1 hh)) (l1 : Int) (l2 : Int) (l3 : Int) (hW : ∀ a i : Nat, (a = 146) → W a i) (h : Hp) (ag_h : Ag W h0 h) : Fr W h0 (XX12_brings_L98 self14 l1 l2 l3 h) := by
  unfold XX12_brings_L98
  exact Fr_lup3 (fun self hs z0 z1 z2 hh ag => fg_XX12_brings_b98 self14 hs_self14 self hs z0 z1 z2 hW hh ag) FU _ _ _ _ ag_h
theorem fg_XX12_brings_p95 {W : Nat → Nat → Prop} {h0 : Hp} (self14 : Int → Int → Hp → OR) (hs_self14 : ∀ (y0 y1 : Int) (hh : Hp), Ag W h0 hh → Fr W h0 (self14 y0 y1 hh)) (l1 : Int) (l2 : Int) (s1 : Int) (s2 : Int) (hW : ∀ a i : Nat, (a = 146 ∨ a = 157) → W a i) (h : Hp) (ag_h : Ag W h0 h) : Fr W h0 (XX12_brings_p95 self14 l1 l2 s1 s2 h) := by
  unfold XX12_brings_p95
  refine Fr_inb ?_
  refine Fr_wr ag_h (hW _ _ (Or.inr (by omega))) (fun h10 ag_h10 => ?_)
  exact fg_XX12_brings_L98 _ hs_self14 _ _ _ (fun a i hh => hW a i (Or.inl (by omega))) _ ag_h10
theorem fg_XX12_brings_b14 {W : Nat → Nat → Prop} {h0 : Hp} (self14 : Int → Int → Hp → OR) (hs_self14 : ∀ (y0 y1 : Int) (hh : Hp), Ag W h0 hh → Fr W h0 (self14 y0 y1 hh)) (l1 : Int) (l2 : Int) (hW : ∀ a i : Nat, ((145 ≤ a ∧ a ≤ 148) ∨ (150 ≤ a ∧ a ≤ 151) ∨ a = 157 ∨ (a = 143 ∧ i = 23)) → W a i) (h : Hp) (ag_h : Ag W h0 h) : Fr W h0 (XX12_brings_b14 self14 l1 l2 h) := by
  unfold XX12_brings_b14
  refine Fr_ite ?_ ?_
  · exact fg_XX12_brings_L142 _ _ (fun a i hh => hW a i ((fun q => q.elim (fun q => Or.inl (by omega)) (fun q => Or.inr (Or.inr (Or.inr (by omega))))) hh)) _ ag_h
  · refine Fr_chk ?_
    refine Fr_chk ?_
    refine Fr_inb ?_
    refine Fr_inb ?_
    refine Fr_wr ag_h (hW _ _ (Or.inl (by omega))) (fun h5 ag_h5 => ?_)
    refine Fr_chk ?_
    refine Fr_chk ?_
    refine Fr_inb ?_
    refine Fr_inb ?_
    refine Fr_wr ag_h5 (hW _ _ (Or.inr (Or.inl (by omega)))) (fun h6 ag_h6 => ?_)
    refine Fr_chk ?_
    refine Fr_chk ?_
    refine Fr_inb ?_
    refine Fr_inb ?_
    refine Fr_wr ag_h6 (hW _ _ (Or.inr (Or.inl (by omega)))) (fun h7 ag_h7 => ?_)
    refine Fr_cal (fg_XX12_wires _ (fun a i hh => hh.elim) _ ag_h7) (fun r8 h9 ag_h9 => ?_)
    refine Fr_ite ?_ ?_
    · exact fg_XX12_brings_p95 _ hs_self14 _ _ _ _ (fun a i hh => hW a i ((fun q => q.elim (fun q => Or.inl (by omega)) (fun q => Or.inr (Or.inr (Or.inl (by omega))))) hh)) _ ag_h9
    · refine Fr_inb ?_
      exact fg_XX12_brings_p95 _ hs_self14 _ _ _ _ (fun a i hh => hW a i ((fun q => q.elim (fun q => Or.inl (by omega)) (fun q => Or.inr (Or.inr (Or.inl (by omega))))) hh)) _ ag_h9
theorem fg_XX12_brings_L14 {W : Nat → Nat → Prop} {h0 : Hp} (l1 : Int) (l2 : Int) (hW : ∀ a i : Nat, ((145 ≤ a ∧ a ≤ 148) ∨ (150 ≤ a ∧ a ≤ 151) ∨ a = 157 ∨ (a = 143 ∧ i = 23)) → W a i) (h : Hp) (ag_h : Ag W h0 h) : Fr W h0 (XX12_brings_L14 l1 l2 h) := by
  unfold XX12_brings_L14
  exact Fr_lup2 (fun self hs z0 z1 hh ag => fg_XX12_brings_b14 self hs z0 z1 hW hh ag) FU _ _ _ ag_h
theorem fg_XX12_brings {W : Nat → Nat → Prop} {h0 : Hp} (x0 : Int) (hW : ∀ a i : Nat, ((144 ≤ a ∧ a ≤ 148) ∨ (150 ≤ a ∧ a ≤ 151) ∨ a = 157 ∨ (a = 143 ∧ i = 23)) → W a i) (h : Hp) (ag_h : Ag W h0 h) : Fr W h0 (XX12_brings x0 h) := by
  unfold XX12_brings
  refine Fr_inb ?_
  refine Fr_inb ?_
  refine Fr_wr ag_h (hW _ _ (Or.inl (by omega))) (fun h1 ag_h1 => ?_)
  exact fg_XX12_brings_L14 _ _ (fun a i hh => hW a i ((fun q => q.elim (fun q => Or.inl (by omega)) (fun q => q.elim (fun q => Or.inr (Or.inl (by omega))) (fun q => q.elim (fun q => Or.inr (Or.inr (Or.inl (by omega)))) (fun q => Or.inr (Or.inr (Or.inr (by omega))))))) hh)) _ ag_h1
theorem fr_XX12_brings {x0 : Int} {h : Hp} {r : Int} {h1 : Hp} (e : XX12_brings x0 h = some (r, h1)) (a i : Nat) (hn : ¬ ((144 ≤ a ∧ a ≤ 148) ∨ (150 ≤ a ∧ a ≤ 151) ∨ a = 157 ∨ (a = 143 ∧ i = 23))) : h1 a i = h a i := fg_XX12_brings (W := fun a i => (144 ≤ a ∧ a ≤ 148) ∨ (150 ≤ a ∧ a ≤ 151) ∨ a = 157 ∨ (a = 143 ∧ i = 23)) x0 (fun _ _ hh => hh) h (fun _ _ _ => rfl) r h1 e a i hn
theorem fg_XX12_moves_b243 {W : Nat → Nat → Prop} {h0 : Hp} (self243 : Int → Int → Int → Hp → OR) (hs_self243 : ∀ (y0 y1 y2 : Int) (hh : Hp), Ag W h0 hh → Fr W h0 (self243 y0 y1 y2 hh)) (l1 : Int) (l2 : Int) (l3 : Int) (hW : ∀ a i : Nat, (a = 184) → W a i) (h : Hp) (ag_h : Ag W h0 h) : Fr W h0 (XX12_moves_b243 self243 l1 l2 l3 h) := by
  unfold XX12_moves_b243
  refine Fr_ite ?_ ?_
  · exact Fr_some ag_h
  · refine Fr_chk ?_
    refine Fr_chk ?_
    refine Fr_chk ?_
    refine Fr_chk ?_
    refine Fr_inb ?_
    refine Fr_inb ?_
    refine Fr_zb ?_
    refine Fr_wr ag_h (hW _ _ (by omega)) (fun h5 ag_h5 => ?_)
    refine Fr_chk ?_
    exact hs_self243 _ _ _ _ ag_h5
theorem fg_XX12_moves_L243 {W : Nat → Nat → Prop} {h0 : Hp} (l1 : Int) (l2 : Int) (l3 : Int) (hW : ∀ a i : Nat, (a = 184) → W a i) (h : Hp) (ag_h : Ag W h0 h) : Fr W h0 (XX12_moves_L243 l1 l2 l3 h) := by
  unfold XX12_moves_L243
  exact Fr_lup3 (fun self hs z0 z1 z2 hh ag => fg_XX12_moves_b243 self hs z0 z1 z2 hW hh ag) FU _ _ _ _ ag_h
theorem fg_XX12_moves_b210 {W : Nat → Nat → Prop} {h0 : Hp} (self210 : Int → Int → Int → Hp → OR) (hs_self210 : ∀ (y0 y1 y2 : Int) (hh : Hp), Ag W h0 hh → Fr W h0 (self210 y0 y1 y2 hh)) (l1 : Int) (l2 : Int) (l3 : Int) (hW : ∀ a i : Nat, (a = 181 ∨ a = 184) → W a i) (h : Hp) (ag_h : Ag W h0 h) : Fr W h0 (XX12_moves_b210 self210 l1 l2 l3 h) := by
  unfold XX12_moves_b210
  refine Fr_ite ?_ ?_
  · exact fg_XX12_moves_L243 _ _ _ (fun a i hh => hW a i (Or.inr (by omega))) _ ag_h
  · refine Fr_chk ?_
    refine Fr_chk ?_
    refine Fr_chk ?_
    refine Fr_chk ?_
    refine Fr_inb ?_
    refine Fr_inb ?_
    refine Fr_wr ag_h (hW _ _ (Or.inl (by omega))) (fun h6 ag_h6 => ?_)
    refine Fr_chk ?_
    exact hs_self210 _ _ _ _ ag_h6
theorem fg_XX12_moves_L210 {W : Nat → Nat → Prop} {h0 : Hp} (l1 : Int) (l2 : Int) (l3 : Int) (hW : ∀ a i : Nat, (a = 181 ∨ a = 184) → W a i) (h : Hp) (ag_h : Ag W h0 h) : Fr W h0 (XX12_moves_L210 l1 l2 l3 h) := by
  unfold XX12_moves_L210
  exact Fr_lup3 (fun self hs z0 z1 z2 hh ag => fg_XX12_moves_b210 self hs z0 z1 z2 hW hh ag) FU _ _ _ _ ag_h
theorem fg_XX12_moves_b177 {W : Nat → Nat → Prop} {h0 : Hp} (self177 : Int → Int → Int → Hp → OR) (hs_self177 : ∀ (y0 y1 y2 : Int) (hh : Hp), Ag W h0 hh → Fr W h0 (self177 y0 y1 y2 hh)) (l1 : Int) (l2 : Int) (l3 : Int) (hW : ∀ a i : Nat, ((180 ≤ a ∧ a ≤ 181) ∨ a = 184) → W a i) (h : Hp) (ag_h : Ag W h0 h) : Fr W h0 (XX12_moves_b177 self177 l1 l2 l3 h) := by
  unfold XX12_moves_b177
  refine Fr_ite ?_ ?_
  · exact fg_XX12_moves_L210 _ _ _ (fun a i hh => hW a i ((fun q => q.elim (fun q => Or.inl (by omega)) (fun q => Or.inr (by omega))) hh)) _ ag_h
  · refine Fr_chk ?_
    refine Fr_chk ?_
    refine Fr_chk ?_
    refine Fr_chk ?_
    refine Fr_inb ?_
    refine Fr_inb ?_
    refine Fr_wr ag_h (hW _ _ (Or.inl (by omega))) (fun h7 ag_h7 => ?_)
    refine Fr_chk ?_
    exact hs_self177 _ _ _ _ ag_h7
theorem fg_XX12_moves_L177 {W : Nat → Nat → Prop} {h0 : Hp} (l1 : Int) (l2 : Int) (l3 : Int) (hW : ∀ a i : Nat, ((180 ≤ a ∧ a ≤ 181) ∨ a = 184) → W a i) (h : Hp) (ag_h : Ag W h0 h) : Fr W h0 (XX12_moves_L177 l1 l2 l3 h) := by
  unfold XX12_moves_L177
  exact Fr_lup3 (fun self hs z0 z1 z2 hh ag => fg_XX12_moves_b177 self hs z0 z1 z2 hW hh ag) FU _ _ _ _ ag_h
theorem fg_XX12_moves_b125 {W : Nat → Nat → Prop} {h0 : Hp} (self50 : Int → Int → Int → Hp → OR) (hs_self50 : ∀ (y0 y1 y2 : Int) (hh : Hp), Ag W h0 hh → Fr W h0 (self50 y0 y1 y2 hh)) (self125 : Int → Int → Int → Int → Hp → OR) (hs_self125 : ∀ (y0 y1 y2 y3 : Int) (hh : Hp), Ag W h0 hh → Fr W h0 (self125 y0 y1 y2 y3 hh)) (l1 : Int) (l2 : Int) (l3 : Int) (l4 : Int) (hW : ∀ a i : Nat, (a = 179) → W a i) (h : Hp) (ag_h : Ag W h0 h) : Fr W h0 (XX12_moves_b125 self50 self125 l1 l2 l3 l4 h) := by
  unfold XX12_moves_b125
  refine Fr_ite ?_ ?_
  · refine Fr_chk ?_
    exact hs_self50 _ _ _ _ ag_h
  · refine Fr_chk ?_
    refine Fr_chk ?_
    refine Fr_chk ?_
    refine Fr_chk ?_
    refine Fr_chk ?_
    refine Fr_chk ?_
    refine Fr_chk ?_
    refine Fr_chk ?_
    refine Fr_inb ?_
    refine Fr_inb ?_
    refine Fr_wr ag_h (hW _ _ (by omega)) (fun h11 ag_h11 => ?_)
    refine Fr_chk ?_
    exact hs_self125 _ _ _ _ _ ag_h11
theorem fg_XX12_moves_L125 {W : Nat → Nat → Prop} {h0 : Hp} (self50 : Int → Int → Int → Hp → OR) (hs_self50 : ∀ (y0 y1 y2 : Int) (hh : Hp), Ag W h0 hh → Fr W h0 (self50 y0 y1 y2 hh)) (l1 : Int) (l2 : Int) (l3 : Int) (l4 : Int) (hW : ∀ a i : Nat, (a = 179) → W a i) (h : Hp) (ag_h : Ag W h0 h) : Fr W h0 (XX12_moves_L125 self50 l1 l2 l3 l4 h) := by
  unfold XX12_moves_L125
  exact Fr_lup4 (fun self hs z0 z1 z2 z3 hh ag => fg_XX12_moves_b125 self50 hs_self50 self hs z0 z1 z2 z3 hW hh ag) FU _ _ _ _ _ ag_h
theorem fg_XX12_moves_b50 {W : Nat → Nat → Prop} {h0 : Hp} (self50 : Int → Int → Int → Hp → OR) (hs_self50 : ∀ (y0 y1 y2 : Int) (hh : Hp), Ag W h0 hh → Fr W h0 (self50 y0 y1 y2 hh)) (l1 : Int) (l2 : Int) (l3 : Int) (hW : ∀ a i : Nat, ((178 ≤ a ∧ a ≤ 184)) → W a i) (h : Hp) (ag_h : Ag W h0 h) : Fr W h0 (XX12_moves_b50 self50 l1 l2 l3 h) := by
  unfold XX12_moves_b50
  refine Fr_ite ?_ ?_
  · exact fg_XX12_moves_L177 _ _ _ (fun a i hh => hW a i ((fun q => q.elim (fun q => by omega) (fun q => by omega)) hh)) _ ag_h
  · refine Fr_chk ?_
    refine Fr_chk ?_
    refine Fr_chk ?_
    refine Fr_chk ?_
    refine Fr_inb ?_
    refine Fr_inb ?_
    refine Fr_wr ag_h (hW _ _ (by omega)) (fun h8 ag_h8 => ?_)
    refine Fr_chk ?_
    refine Fr_chk ?_
    refine Fr_chk ?_
    refine Fr_chk ?_
    refine Fr_inb ?_
    refine Fr_inb ?_
    refine Fr_wr ag_h8 (hW _ _ (by omega)) (fun h9 ag_h9 => ?_)
    refine Fr_chk ?_
    refine Fr_chk ?_
    refine Fr_chk ?_
    refine Fr_chk ?_
    refine Fr_inb ?_
    refine Fr_inb ?_
    refine Fr_wr ag_h9 (hW _ _ (by omega)) (fun h10 ag_h10 => ?_)
    exact fg_XX12_moves_L125 _ hs_self50 _ _ _ _ (fun a i hh => hW a i (by omega)) _ ag_h10
theorem fg_XX12_moves_L50 {W : Nat → Nat → Prop} {h0 : Hp} (l1 : Int) (l2 : Int) (l3 : Int) (hW : ∀ a i : Nat, ((178 ≤ a ∧ a ≤ 184)) → W a i) (h : Hp) (ag_h : Ag W h0 h) : Fr W h0 (XX12_moves_L50 l1 l2 l3 h) := by
  unfold XX12_moves_L50
  exact Fr_lup3 (fun self hs z0 z1 z2 hh ag => fg_XX12_moves_b50 self hs z0 z1 z2 hW hh ag) FU _ _ _ _ ag_h
theorem fg_XX12_moves {W : Nat → Nat → Prop} {h0 : Hp} (x0 : Int) (x1 : Int) (hW : ∀ a i : Nat, ((174 ≤ a ∧ a ≤ 184)) → W a i) (h : Hp) (ag_h : Ag W h0 h) : Fr W h0 (XX12_moves x0 x1 h) := by
  unfold XX12_moves
  refine Fr_inb ?_
  refine Fr_inb ?_
  refine Fr_wr ag_h (hW _ _ (by omega)) (fun h1 ag_h1 => ?_)
  refine Fr_inb ?_
  refine Fr_inb ?_
  refine Fr_wr ag_h1 (hW _ _ (by omega)) (fun h2 ag_h2 => ?_)
  refine Fr_inb ?_
  refine Fr_inb ?_
  refine Fr_wr ag_h2 (hW _ _ (by omega)) (fun h3 ag_h3 => ?_)
  refine Fr_inb ?_
  refine Fr_inb ?_
  refine Fr_wr ag_h3 (hW _ _ (by omega)) (fun h4 ag_h4 => ?_)
  exact fg_XX12_moves_L50 _ _ _ (fun a i hh => hW a i (by omega)) _ ag_h4
theorem fr_XX12_moves {x0 : Int} {x1 : Int} {h : Hp} {r : Int} {h1 : Hp} (e : XX12_moves x0 x1 h = some (r, h1)) (a i : Nat) (hn : ¬ ((174 ≤ a ∧ a ≤ 184))) : h1 a i = h a i := fg_XX12_moves (W := fun a i => (174 ≤ a ∧ a ≤ 184)) x0 x1 (fun _ _ hh => hh) h (fun _ _ _ => rfl) r h1 e a i hn
theorem fg_XX12_leafOf_b12 {W : Nat → Nat → Prop} {h0 : Hp} (self12 : Int → Int → Int → Hp → OR) (hs_self12 : ∀ (y0 y1 y2 : Int) (hh : Hp), Ag W h0 hh → Fr W h0 (self12 y0 y1 y2 hh)) (l1 : Int) (l2 : Int) (l3 : Int) (hW : ∀ a i : Nat, (False) → W a i) (h : Hp) (ag_h : Ag W h0 h) : Fr W h0 (XX12_leafOf_b12 self12 l1 l2 l3 h) := by
  unfold XX12_leafOf_b12
  refine Fr_ite ?_ ?_
  · refine Fr_ite ?_ ?_
    · exact Fr_some ag_h
    · refine Fr_ite ?_ ?_
      · exact Fr_some ag_h
      · exact Fr_some ag_h
  · refine Fr_cal (fg_XX12_projection _ _ (fun a i hh => hh.elim) _ ag_h) (fun r4 h5 ag_h5 => ?_)
    refine Fr_ite ?_ ?_
    · refine Fr_chk ?_
      exact Fr_some ag_h5
    · refine Fr_chk ?_
      exact hs_self12 _ _ _ _ ag_h5
theorem fg_XX12_leafOf_L12 {W : Nat → Nat → Prop} {h0 : Hp} (l1 : Int) (l2 : Int) (l3 : Int) (hW : ∀ a i : Nat, (False) → W a i) (h : Hp) (ag_h : Ag W h0 h) : Fr W h0 (XX12_leafOf_L12 l1 l2 l3 h) := by
  unfold XX12_leafOf_L12
  exact Fr_lup3 (fun self hs z0 z1 z2 hh ag => fg_XX12_leafOf_b12 self hs z0 z1 z2 hW hh ag) FU _ _ _ _ ag_h
theorem fg_XX12_leafOf {W : Nat → Nat → Prop} {h0 : Hp} (x0 : Int) (hW : ∀ a i : Nat, (False) → W a i) (h : Hp) (ag_h : Ag W h0 h) : Fr W h0 (XX12_leafOf x0 h) := by
  unfold XX12_leafOf
  refine Fr_cal (fg_XX12_functions _ (fun a i hh => hh.elim) _ ag_h) (fun r1 h2 ag_h2 => ?_)
  refine Fr_chk ?_
  refine Fr_nm (fun v3 => ?_)
  exact fg_XX12_leafOf_L12 _ _ _ (fun a i hh => hh.elim) _ ag_h2
theorem fr_XX12_leafOf {x0 : Int} {h : Hp} {r : Int} {h1 : Hp} (e : XX12_leafOf x0 h = some (r, h1)) (a i : Nat) (hn : ¬ (False)) : h1 a i = h a i := fg_XX12_leafOf (W := fun a i => False) x0 (fun _ _ hh => hh) h (fun _ _ _ => rfl) r h1 e a i hn
theorem fe_XX12_leafOf {x0 : Int} {h : Hp} {r : Int} {h1 : Hp} (e : XX12_leafOf x0 h = some (r, h1)) : h1 = h := funext (fun a => funext (fun i => fr_XX12_leafOf e a i (fun hh => hh)))
theorem fg_XX12_partWire {W : Nat → Nat → Prop} {h0 : Hp} (x0 : Int) (hW : ∀ a i : Nat, (False) → W a i) (h : Hp) (ag_h : Ag W h0 h) : Fr W h0 (XX12_partWire x0 h) := by
  unfold XX12_partWire
  refine Fr_ite ?_ ?_
  · exact Fr_some ag_h
  · refine Fr_ite ?_ ?_
    · refine Fr_inb ?_
      exact Fr_some ag_h
    · refine Fr_chk ?_
      refine Fr_inb ?_
      exact Fr_some ag_h
theorem fr_XX12_partWire {x0 : Int} {h : Hp} {r : Int} {h1 : Hp} (e : XX12_partWire x0 h = some (r, h1)) (a i : Nat) (hn : ¬ (False)) : h1 a i = h a i := fg_XX12_partWire (W := fun a i => False) x0 (fun _ _ hh => hh) h (fun _ _ _ => rfl) r h1 e a i hn
theorem fe_XX12_partWire {x0 : Int} {h : Hp} {r : Int} {h1 : Hp} (e : XX12_partWire x0 h = some (r, h1)) : h1 = h := funext (fun a => funext (fun i => fr_XX12_partWire e a i (fun hh => hh)))
theorem fg_XX12_adds {W : Nat → Nat → Prop} {h0 : Hp} (x0 : Int) (x1 : Int) (x2 : Int) (x3 : Int) (x4 : Int) (hW : ∀ a i : Nat, ((144 ≤ a ∧ a ≤ 146) ∨ (150 ≤ a ∧ a ≤ 151)) → W a i) (h : Hp) (ag_h : Ag W h0 h) : Fr W h0 (XX12_adds x0 x1 x2 x3 x4 h) := by
  unfold XX12_adds
  refine Fr_cal (fg_XX12_makes _ _ _ _ _ (fun a i hh => hW a i ((fun q => q.elim (fun q => Or.inl (by omega)) (fun q => Or.inr (by omega))) hh)) _ ag_h) (fun r1 h2 ag_h2 => ?_)
  refine Fr_cal (fg_XX12_wires _ (fun a i hh => hh.elim) _ ag_h2) (fun r3 h4 ag_h4 => ?_)
  refine Fr_chk ?_
  refine Fr_nm (fun v5 => ?_)
  refine Fr_inb ?_
  refine Fr_wr ag_h4 (hW _ _ (Or.inr (by omega))) (fun h6 ag_h6 => ?_)
  refine Fr_inb ?_
  refine Fr_wr ag_h6 (hW _ _ (Or.inr (by omega))) (fun h7 ag_h7 => ?_)
  exact Fr_some ag_h7
theorem fr_XX12_adds {x0 : Int} {x1 : Int} {x2 : Int} {x3 : Int} {x4 : Int} {h : Hp} {r : Int} {h1 : Hp} (e : XX12_adds x0 x1 x2 x3 x4 h = some (r, h1)) (a i : Nat) (hn : ¬ ((144 ≤ a ∧ a ≤ 146) ∨ (150 ≤ a ∧ a ≤ 151))) : h1 a i = h a i := fg_XX12_adds (W := fun a i => (144 ≤ a ∧ a ≤ 146) ∨ (150 ≤ a ∧ a ≤ 151)) x0 x1 x2 x3 x4 (fun _ _ hh => hh) h (fun _ _ _ => rfl) r h1 e a i hn
theorem fg_XX12_comes_p235 {W : Nat → Nat → Prop} {h0 : Hp} (self85 : Int → Int → Int → Hp → OR) (hs_self85 : ∀ (y0 y1 y2 : Int) (hh : Hp), Ag W h0 hh → Fr W h0 (self85 y0 y1 y2 hh)) (l1 : Int) (l3 : Int) (l4 : Int) (hW : ∀ a i : Nat, (False) → W a i) (h : Hp) (ag_h : Ag W h0 h) : Fr W h0 (XX12_comes_p235 self85 l1 l3 l4 h) := by
  unfold XX12_comes_p235
  refine Fr_chk ?_
  exact hs_self85 _ _ _ _ ag_h
theorem fg_XX12_comes_p209 {W : Nat → Nat → Prop} {h0 : Hp} (self85 : Int → Int → Int → Hp → OR) (hs_self85 : ∀ (y0 y1 y2 : Int) (hh : Hp), Ag W h0 hh → Fr W h0 (self85 y0 y1 y2 hh)) (l1 : Int) (l4 : Int) (l5 : Int) (s1 : Int) (s2 : Int) (s3 : Int) (s4 : Int) (s5 : Int) (hW : ∀ a i : Nat, ((144 ≤ a ∧ a ≤ 146) ∨ (150 ≤ a ∧ a ≤ 151) ∨ a = 155 ∨ a = 200) → W a i) (h : Hp) (ag_h : Ag W h0 h) : Fr W h0 (XX12_comes_p209 self85 l1 l4 l5 s1 s2 s3 s4 s5 h) := by
  unfold XX12_comes_p209
  refine Fr_cal (fg_XX12_adds _ _ _ _ _ (fun a i hh => hW a i ((fun q => q.elim (fun q => Or.inl (by omega)) (fun q => Or.inr (Or.inl (by omega)))) hh)) _ ag_h) (fun r9 h10 ag_h10 => ?_)
  refine Fr_inb ?_
  refine Fr_wr ag_h10 (hW _ _ (Or.inr (Or.inr (Or.inr (by omega))))) (fun h11 ag_h11 => ?_)
  refine Fr_ite ?_ ?_
  · exact fg_XX12_comes_p235 _ hs_self85 _ _ _ (fun a i hh => hh.elim) _ ag_h11
  · refine Fr_inb ?_
    refine Fr_zb ?_
    refine Fr_wr ag_h11 (hW _ _ (Or.inr (Or.inr (Or.inl (by omega))))) (fun h12 ag_h12 => ?_)
    exact fg_XX12_comes_p235 _ hs_self85 _ _ _ (fun a i hh => hh.elim) _ ag_h12
theorem fg_XX12_comes_p182 {W : Nat → Nat → Prop} {h0 : Hp} (self85 : Int → Int → Int → Hp → OR) (hs_self85 : ∀ (y0 y1 y2 : Int) (hh : Hp), Ag W h0 hh → Fr W h0 (self85 y0 y1 y2 hh)) (l1 : Int) (l4 : Int) (l5 : Int) (s1 : Int) (s2 : Int) (s3 : Int) (s4 : Int) (hW : ∀ a i : Nat, ((144 ≤ a ∧ a ≤ 146) ∨ (150 ≤ a ∧ a ≤ 151) ∨ a = 155 ∨ a = 200) → W a i) (h : Hp) (ag_h : Ag W h0 h) : Fr W h0 (XX12_comes_p182 self85 l1 l4 l5 s1 s2 s3 s4 h) := by
  unfold XX12_comes_p182
  refine Fr_ite ?_ ?_
  · refine Fr_inb ?_
    refine Fr_inb ?_
    exact fg_XX12_comes_p209 _ hs_self85 _ _ _ _ _ _ _ _ (fun a i hh => hW a i ((fun q => q.elim (fun q => Or.inl (by omega)) (fun q => q.elim (fun q => Or.inr (Or.inl (by omega))) (fun q => q.elim (fun q => Or.inr (Or.inr (Or.inl (by omega)))) (fun q => Or.inr (Or.inr (Or.inr (by omega))))))) hh)) _ ag_h
  · refine Fr_inb ?_
    exact fg_XX12_comes_p209 _ hs_self85 _ _ _ _ _ _ _ _ (fun a i hh => hW a i ((fun q => q.elim (fun q => Or.inl (by omega)) (fun q => q.elim (fun q => Or.inr (Or.inl (by omega))) (fun q => q.elim (fun q => Or.inr (Or.inr (Or.inl (by omega)))) (fun q => Or.inr (Or.inr (Or.inr (by omega))))))) hh)) _ ag_h
theorem fg_XX12_comes_p123 {W : Nat → Nat → Prop} {h0 : Hp} (self85 : Int → Int → Int → Hp → OR) (hs_self85 : ∀ (y0 y1 y2 : Int) (hh : Hp), Ag W h0 hh → Fr W h0 (self85 y0 y1 y2 hh)) (l1 : Int) (l4 : Int) (s0 : Int) (hW : ∀ a i : Nat, ((144 ≤ a ∧ a ≤ 146) ∨ (150 ≤ a ∧ a ≤ 151) ∨ a = 155 ∨ a = 200) → W a i) (h : Hp) (ag_h : Ag W h0 h) : Fr W h0 (XX12_comes_p123 self85 l1 l4 s0 h) := by
  unfold XX12_comes_p123
  refine Fr_inb ?_
  refine Fr_inb ?_
  refine Fr_cal (fg_XX12_partWire _ (fun a i hh => hh.elim) _ ag_h) (fun r5 h6 ag_h6 => ?_)
  refine Fr_inb ?_
  refine Fr_cal (fg_XX12_partWire _ (fun a i hh => hh.elim) _ ag_h6) (fun r7 h8 ag_h8 => ?_)
  refine Fr_ite ?_ ?_
  · refine Fr_inb ?_
    refine Fr_inb ?_
    exact fg_XX12_comes_p182 _ hs_self85 _ _ _ _ _ _ _ (fun a i hh => hW a i ((fun q => q.elim (fun q => Or.inl (by omega)) (fun q => q.elim (fun q => Or.inr (Or.inl (by omega))) (fun q => q.elim (fun q => Or.inr (Or.inr (Or.inl (by omega)))) (fun q => Or.inr (Or.inr (Or.inr (by omega))))))) hh)) _ ag_h8
  · refine Fr_inb ?_
    exact fg_XX12_comes_p182 _ hs_self85 _ _ _ _ _ _ _ (fun a i hh => hW a i ((fun q => q.elim (fun q => Or.inl (by omega)) (fun q => q.elim (fun q => Or.inr (Or.inl (by omega))) (fun q => q.elim (fun q => Or.inr (Or.inr (Or.inl (by omega)))) (fun q => Or.inr (Or.inr (Or.inr (by omega))))))) hh)) _ ag_h8
theorem fg_XX12_comes_b85 {W : Nat → Nat → Prop} {h0 : Hp} (self85 : Int → Int → Int → Hp → OR) (hs_self85 : ∀ (y0 y1 y2 : Int) (hh : Hp), Ag W h0 hh → Fr W h0 (self85 y0 y1 y2 hh)) (l1 : Int) (l3 : Int) (l4 : Int) (hW : ∀ a i : Nat, ((144 ≤ a ∧ a ≤ 146) ∨ (150 ≤ a ∧ a ≤ 151) ∨ a = 155 ∨ a = 200) → W a i) (h : Hp) (ag_h : Ag W h0 h) : Fr W h0 (XX12_comes_b85 self85 l1 l3 l4 h) := by
  unfold XX12_comes_b85
  refine Fr_ite ?_ ?_
  · exact Fr_some ag_h
  · refine Fr_inb ?_
    refine Fr_ite ?_ ?_
    · refine Fr_ite ?_ ?_
      · exact fg_XX12_comes_p123 _ hs_self85 _ _ _ (fun a i hh => hW a i ((fun q => q.elim (fun q => Or.inl (by omega)) (fun q => q.elim (fun q => Or.inr (Or.inl (by omega))) (fun q => q.elim (fun q => Or.inr (Or.inr (Or.inl (by omega)))) (fun q => Or.inr (Or.inr (Or.inr (by omega))))))) hh)) _ ag_h
      · refine Fr_inb ?_
        exact fg_XX12_comes_p123 _ hs_self85 _ _ _ (fun a i hh => hW a i ((fun q => q.elim (fun q => Or.inl (by omega)) (fun q => q.elim (fun q => Or.inr (Or.inl (by omega))) (fun q => q.elim (fun q => Or.inr (Or.inr (Or.inl (by omega)))) (fun q => Or.inr (Or.inr (Or.inr (by omega))))))) hh)) _ ag_h
    · exact fg_XX12_comes_p235 _ hs_self85 _ _ _ (fun a i hh => hh.elim) _ ag_h
theorem fg_XX12_comes_L85 {W : Nat → Nat → Prop} {h0 : Hp} (l1 : Int) (l3 : Int) (l4 : Int) (hW : ∀ a i : Nat, ((144 ≤ a ∧ a ≤ 146) ∨ (150 ≤ a ∧ a ≤ 151) ∨ a = 155 ∨ a = 200) → W a i) (h : Hp) (ag_h : Ag W h0 h) : Fr W h0 (XX12_comes_L85 l1 l3 l4 h) := by
  unfold XX12_comes_L85
  exact Fr_lup3 (fun self hs z0 z1 z2 hh ag => fg_XX12_comes_b85 self hs z0 z1 z2 hW hh ag) FU _ _ _ _ ag_h
theorem fg_XX12_comes_p52 {W : Nat → Nat → Prop} {h0 : Hp} (l1 : Int) (s1 : Int) (hW : ∀ a i : Nat, ((144 ≤ a ∧ a ≤ 146) ∨ (150 ≤ a ∧ a ≤ 151)) → W a i) (h : Hp) (ag_h : Ag W h0 h) : Fr W h0 (XX12_comes_p52 l1 s1 h) := by
  unfold XX12_comes_p52
  refine Fr_inb ?_
  refine Fr_inb ?_
  refine Fr_inb ?_
  refine Fr_inb ?_
  refine Fr_cal (fg_XX12_adds _ _ _ _ _ (fun a i hh => hW a i ((fun q => q.elim (fun q => Or.inl (by omega)) (fun q => Or.inr (by omega))) hh)) _ ag_h) (fun r13 h14 ag_h14 => ?_)
  exact Fr_some ag_h14
theorem fg_XX12_comes {W : Nat → Nat → Prop} {h0 : Hp} (x0 : Int) (hW : ∀ a i : Nat, ((144 ≤ a ∧ a ≤ 146) ∨ (150 ≤ a ∧ a ≤ 151) ∨ a = 155 ∨ a = 200) → W a i) (h : Hp) (ag_h : Ag W h0 h) : Fr W h0 (XX12_comes x0 h) := by
  unfold XX12_comes
  refine Fr_inb ?_
  refine Fr_cal (fg_XX12_leafOf _ (fun a i hh => hh.elim) _ ag_h) (fun r1 h2 ag_h2 => ?_)
  refine Fr_cal (fg_XX12_in _ _ _ (fun a i hh => hh.elim) _ ag_h2) (fun r3 h4 ag_h4 => ?_)
  refine Fr_ite ?_ ?_
  · refine Fr_ite ?_ ?_
    · exact fg_XX12_comes_L85 _ _ _ (fun a i hh => hW a i ((fun q => q.elim (fun q => Or.inl (by omega)) (fun q => q.elim (fun q => Or.inr (Or.inl (by omega))) (fun q => q.elim (fun q => Or.inr (Or.inr (Or.inl (by omega)))) (fun q => Or.inr (Or.inr (Or.inr (by omega))))))) hh)) _ ag_h4
    · refine Fr_ite ?_ ?_
      · exact fg_XX12_comes_p52 _ _ (fun a i hh => hW a i ((fun q => q.elim (fun q => Or.inl (by omega)) (fun q => Or.inr (Or.inl (by omega)))) hh)) _ ag_h4
      · exact fg_XX12_comes_p52 _ _ (fun a i hh => hW a i ((fun q => q.elim (fun q => Or.inl (by omega)) (fun q => Or.inr (Or.inl (by omega)))) hh)) _ ag_h4
  · refine Fr_chk ?_
    refine Fr_inb ?_
    exact Fr_some ag_h4
theorem fr_XX12_comes {x0 : Int} {h : Hp} {r : Int} {h1 : Hp} (e : XX12_comes x0 h = some (r, h1)) (a i : Nat) (hn : ¬ ((144 ≤ a ∧ a ≤ 146) ∨ (150 ≤ a ∧ a ≤ 151) ∨ a = 155 ∨ a = 200)) : h1 a i = h a i := fg_XX12_comes (W := fun a i => (144 ≤ a ∧ a ≤ 146) ∨ (150 ≤ a ∧ a ≤ 151) ∨ a = 155 ∨ a = 200) x0 (fun _ _ hh => hh) h (fun _ _ _ => rfl) r h1 e a i hn
theorem fg_XX12_changes {W : Nat → Nat → Prop} {h0 : Hp} (x0 : Int) (x1 : Int) (x2 : Int) (hW : ∀ a i : Nat, ((167 ≤ a ∧ a ≤ 169) ∨ (a = 143 ∧ i = 37)) → W a i) (h : Hp) (ag_h : Ag W h0 h) : Fr W h0 (XX12_changes x0 x1 x2 h) := by
  unfold XX12_changes
  refine Fr_inb ?_
  refine Fr_wr ag_h (hW _ _ (Or.inl (by omega))) (fun h1 ag_h1 => ?_)
  refine Fr_inb ?_
  refine Fr_wr ag_h1 (hW _ _ (Or.inl (by omega))) (fun h2 ag_h2 => ?_)
  refine Fr_inb ?_
  refine Fr_wr ag_h2 (hW _ _ (Or.inl (by omega))) (fun h3 ag_h3 => ?_)
  refine Fr_chk ?_
  refine Fr_wr ag_h3 (hW _ _ (Or.inr (by omega))) (fun h4 ag_h4 => ?_)
  exact Fr_some ag_h4
theorem fr_XX12_changes {x0 : Int} {x1 : Int} {x2 : Int} {h : Hp} {r : Int} {h1 : Hp} (e : XX12_changes x0 x1 x2 h = some (r, h1)) (a i : Nat) (hn : ¬ ((167 ≤ a ∧ a ≤ 169) ∨ (a = 143 ∧ i = 37))) : h1 a i = h a i := fg_XX12_changes (W := fun a i => (167 ≤ a ∧ a ≤ 169) ∨ (a = 143 ∧ i = 37)) x0 x1 x2 (fun _ _ hh => hh) h (fun _ _ _ => rfl) r h1 e a i hn
theorem fg_XX12_turns_p152 {W : Nat → Nat → Prop} {h0 : Hp} (self120 : Int → Int → Int → Hp → OR) (hs_self120 : ∀ (y0 y1 y2 : Int) (hh : Hp), Ag W h0 hh → Fr W h0 (self120 y0 y1 y2 hh)) (l1 : Int) (l2 : Int) (l3 : Int) (hW : ∀ a i : Nat, (False) → W a i) (h : Hp) (ag_h : Ag W h0 h) : Fr W h0 (XX12_turns_p152 self120 l1 l2 l3 h) := by
  unfold XX12_turns_p152
  refine Fr_chk ?_
  exact hs_self120 _ _ _ _ ag_h
theorem fg_XX12_turns_b120 {W : Nat → Nat → Prop} {h0 : Hp} (self120 : Int → Int → Int → Hp → OR) (hs_self120 : ∀ (y0 y1 y2 : Int) (hh : Hp), Ag W h0 hh → Fr W h0 (self120 y0 y1 y2 hh)) (l1 : Int) (l2 : Int) (l3 : Int) (hW : ∀ a i : Nat, (a = 148 ∨ (167 ≤ a ∧ a ≤ 169) ∨ (a = 143 ∧ i = 37)) → W a i) (h : Hp) (ag_h : Ag W h0 h) : Fr W h0 (XX12_turns_b120 self120 l1 l2 l3 h) := by
  unfold XX12_turns_b120
  refine Fr_ite ?_ ?_
  · exact Fr_some ag_h
  · refine Fr_inb ?_
    refine Fr_ite ?_ ?_
    · refine Fr_inb ?_
      refine Fr_wr ag_h (hW _ _ (Or.inl (by omega))) (fun h5 ag_h5 => ?_)
      refine Fr_cal (fg_XX12_changes _ _ _ (fun a i hh => hW a i ((fun q => q.elim (fun q => Or.inr (Or.inl (by omega))) (fun q => Or.inr (Or.inr (by omega)))) hh)) _ ag_h5) (fun r6 h7 ag_h7 => ?_)
      exact fg_XX12_turns_p152 _ hs_self120 _ _ _ (fun a i hh => hh.elim) _ ag_h7
    · exact fg_XX12_turns_p152 _ hs_self120 _ _ _ (fun a i hh => hh.elim) _ ag_h
theorem fg_XX12_turns_L120 {W : Nat → Nat → Prop} {h0 : Hp} (l1 : Int) (l2 : Int) (l3 : Int) (hW : ∀ a i : Nat, (a = 148 ∨ (167 ≤ a ∧ a ≤ 169) ∨ (a = 143 ∧ i = 37)) → W a i) (h : Hp) (ag_h : Ag W h0 h) : Fr W h0 (XX12_turns_L120 l1 l2 l3 h) := by
  unfold XX12_turns_L120
  exact Fr_lup3 (fun self hs z0 z1 z2 hh ag => fg_XX12_turns_b120 self hs z0 z1 z2 hW hh ag) FU _ _ _ _ ag_h
theorem fg_XX12_turns_p112 {W : Nat → Nat → Prop} {h0 : Hp} (self80 : Int → Int → Int → Hp → OR) (hs_self80 : ∀ (y0 y1 y2 : Int) (hh : Hp), Ag W h0 hh → Fr W h0 (self80 y0 y1 y2 hh)) (l1 : Int) (l2 : Int) (l3 : Int) (hW : ∀ a i : Nat, (False) → W a i) (h : Hp) (ag_h : Ag W h0 h) : Fr W h0 (XX12_turns_p112 self80 l1 l2 l3 h) := by
  unfold XX12_turns_p112
  refine Fr_chk ?_
  exact hs_self80 _ _ _ _ ag_h
theorem fg_XX12_turns_b80 {W : Nat → Nat → Prop} {h0 : Hp} (self80 : Int → Int → Int → Hp → OR) (hs_self80 : ∀ (y0 y1 y2 : Int) (hh : Hp), Ag W h0 hh → Fr W h0 (self80 y0 y1 y2 hh)) (l1 : Int) (l2 : Int) (l3 : Int) (hW : ∀ a i : Nat, ((147 ≤ a ∧ a ≤ 148) ∨ (167 ≤ a ∧ a ≤ 169) ∨ (a = 143 ∧ i = 37)) → W a i) (h : Hp) (ag_h : Ag W h0 h) : Fr W h0 (XX12_turns_b80 self80 l1 l2 l3 h) := by
  unfold XX12_turns_b80
  refine Fr_ite ?_ ?_
  · exact fg_XX12_turns_L120 _ _ _ (fun a i hh => hW a i ((fun q => q.elim (fun q => Or.inl (by omega)) (fun q => q.elim (fun q => Or.inr (Or.inl (by omega))) (fun q => Or.inr (Or.inr (by omega))))) hh)) _ ag_h
  · refine Fr_inb ?_
    refine Fr_ite ?_ ?_
    · refine Fr_inb ?_
      refine Fr_wr ag_h (hW _ _ (Or.inl (by omega))) (fun h8 ag_h8 => ?_)
      refine Fr_cal (fg_XX12_changes _ _ _ (fun a i hh => hW a i ((fun q => q.elim (fun q => Or.inr (Or.inl (by omega))) (fun q => Or.inr (Or.inr (by omega)))) hh)) _ ag_h8) (fun r9 h10 ag_h10 => ?_)
      exact fg_XX12_turns_p112 _ hs_self80 _ _ _ (fun a i hh => hh.elim) _ ag_h10
    · exact fg_XX12_turns_p112 _ hs_self80 _ _ _ (fun a i hh => hh.elim) _ ag_h
theorem fg_XX12_turns_L80 {W : Nat → Nat → Prop} {h0 : Hp} (l1 : Int) (l2 : Int) (l3 : Int) (hW : ∀ a i : Nat, ((147 ≤ a ∧ a ≤ 148) ∨ (167 ≤ a ∧ a ≤ 169) ∨ (a = 143 ∧ i = 37)) → W a i) (h : Hp) (ag_h : Ag W h0 h) : Fr W h0 (XX12_turns_L80 l1 l2 l3 h) := by
  unfold XX12_turns_L80
  exact Fr_lup3 (fun self hs z0 z1 z2 hh ag => fg_XX12_turns_b80 self hs z0 z1 z2 hW hh ag) FU _ _ _ _ ag_h
theorem fg_XX12_turns_p66 {W : Nat → Nat → Prop} {h0 : Hp} (self5 : Int → Int → Int → Hp → OR) (hs_self5 : ∀ (y0 y1 y2 : Int) (hh : Hp), Ag W h0 hh → Fr W h0 (self5 y0 y1 y2 hh)) (self17 : Int → Int → Int → Int → Hp → OR) (hs_self17 : ∀ (y0 y1 y2 y3 : Int) (hh : Hp), Ag W h0 hh → Fr W h0 (self17 y0 y1 y2 y3 hh)) (l1 : Int) (l2 : Int) (l3 : Int) (l4 : Int) (hW : ∀ a i : Nat, (False) → W a i) (h : Hp) (ag_h : Ag W h0 h) : Fr W h0 (XX12_turns_p66 self5 self17 l1 l2 l3 l4 h) := by
  unfold XX12_turns_p66
  refine Fr_chk ?_
  exact hs_self17 _ _ _ _ _ ag_h
theorem fg_XX12_turns_b17 {W : Nat → Nat → Prop} {h0 : Hp} (self5 : Int → Int → Int → Hp → OR) (hs_self5 : ∀ (y0 y1 y2 : Int) (hh : Hp), Ag W h0 hh → Fr W h0 (self5 y0 y1 y2 hh)) (self17 : Int → Int → Int → Int → Hp → OR) (hs_self17 : ∀ (y0 y1 y2 y3 : Int) (hh : Hp), Ag W h0 hh → Fr W h0 (self17 y0 y1 y2 y3 hh)) (l1 : Int) (l2 : Int) (l3 : Int) (l4 : Int) (hW : ∀ a i : Nat, (a = 146 ∨ (167 ≤ a ∧ a ≤ 169) ∨ (a = 143 ∧ i = 37)) → W a i) (h : Hp) (ag_h : Ag W h0 h) : Fr W h0 (XX12_turns_b17 self5 self17 l1 l2 l3 l4 h) := by
  unfold XX12_turns_b17
  refine Fr_inb ?_
  refine Fr_cal (fg_XX12_pinsOf _ (fun a i hh => hh.elim) _ ag_h) (fun r11 h12 ag_h12 => ?_)
  refine Fr_ite ?_ ?_
  · refine Fr_chk ?_
    exact hs_self5 _ _ _ _ ag_h12
  · refine Fr_chk ?_
    refine Fr_chk ?_
    refine Fr_inb ?_
    refine Fr_ite ?_ ?_
    · refine Fr_chk ?_
      refine Fr_chk ?_
      refine Fr_inb ?_
      refine Fr_wr ag_h12 (hW _ _ (Or.inl (by omega))) (fun h13 ag_h13 => ?_)
      refine Fr_cal (fg_XX12_changes _ _ _ (fun a i hh => hW a i ((fun q => q.elim (fun q => Or.inr (Or.inl (by omega))) (fun q => Or.inr (Or.inr (by omega)))) hh)) _ ag_h13) (fun r14 h15 ag_h15 => ?_)
      exact fg_XX12_turns_p66 _ hs_self5 _ hs_self17 _ _ _ _ (fun a i hh => hh.elim) _ ag_h15
    · exact fg_XX12_turns_p66 _ hs_self5 _ hs_self17 _ _ _ _ (fun a i hh => hh.elim) _ ag_h12
theorem fg_XX12_turns_L17 {W : Nat → Nat → Prop} {h0 : Hp} (self5 : Int → Int → Int → Hp → OR) (hs_self5 : ∀ (y0 y1 y2 : Int) (hh : Hp), Ag W h0 hh → Fr W h0 (self5 y0 y1 y2 hh)) (l1 : Int) (l2 : Int) (l3 : Int) (l4 : Int) (hW : ∀ a i : Nat, (a = 146 ∨ (167 ≤ a ∧ a ≤ 169) ∨ (a = 143 ∧ i = 37)) → W a i) (h : Hp) (ag_h : Ag W h0 h) : Fr W h0 (XX12_turns_L17 self5 l1 l2 l3 l4 h) := by
  unfold XX12_turns_L17
  exact Fr_lup4 (fun self hs z0 z1 z2 z3 hh ag => fg_XX12_turns_b17 self5 hs_self5 self hs z0 z1 z2 z3 hW hh ag) FU _ _ _ _ _ ag_h
theorem fg_XX12_turns_b5 {W : Nat → Nat → Prop} {h0 : Hp} (self5 : Int → Int → Int → Hp → OR) (hs_self5 : ∀ (y0 y1 y2 : Int) (hh : Hp), Ag W h0 hh → Fr W h0 (self5 y0 y1 y2 hh)) (l1 : Int) (l2 : Int) (l3 : Int) (hW : ∀ a i : Nat, ((146 ≤ a ∧ a ≤ 148) ∨ (167 ≤ a ∧ a ≤ 169) ∨ (a = 143 ∧ i = 37)) → W a i) (h : Hp) (ag_h : Ag W h0 h) : Fr W h0 (XX12_turns_b5 self5 l1 l2 l3 h) := by
  unfold XX12_turns_b5
  refine Fr_cal (fg_XX12_wires _ (fun a i hh => hh.elim) _ ag_h) (fun r3 h4 ag_h4 => ?_)
  refine Fr_ite ?_ ?_
  · exact fg_XX12_turns_L80 _ _ _ (fun a i hh => hW a i ((fun q => q.elim (fun q => Or.inl (by omega)) (fun q => q.elim (fun q => Or.inr (Or.inl (by omega))) (fun q => Or.inr (Or.inr (by omega))))) hh)) _ ag_h4
  · exact fg_XX12_turns_L17 _ hs_self5 _ _ _ _ (fun a i hh => hW a i ((fun q => q.elim (fun q => Or.inl (by omega)) (fun q => q.elim (fun q => Or.inr (Or.inl (by omega))) (fun q => Or.inr (Or.inr (by omega))))) hh)) _ ag_h4
theorem fg_XX12_turns_L5 {W : Nat → Nat → Prop} {h0 : Hp} (l1 : Int) (l2 : Int) (l3 : Int) (hW : ∀ a i : Nat, ((146 ≤ a ∧ a ≤ 148) ∨ (167 ≤ a ∧ a ≤ 169) ∨ (a = 143 ∧ i = 37)) → W a i) (h : Hp) (ag_h : Ag W h0 h) : Fr W h0 (XX12_turns_L5 l1 l2 l3 h) := by
  unfold XX12_turns_L5
  exact Fr_lup3 (fun self hs z0 z1 z2 hh ag => fg_XX12_turns_b5 self hs z0 z1 z2 hW hh ag) FU _ _ _ _ ag_h
theorem fg_XX12_turns {W : Nat → Nat → Prop} {h0 : Hp} (x0 : Int) (x1 : Int) (hW : ∀ a i : Nat, ((146 ≤ a ∧ a ≤ 148) ∨ (167 ≤ a ∧ a ≤ 169) ∨ (a = 143 ∧ i = 37)) → W a i) (h : Hp) (ag_h : Ag W h0 h) : Fr W h0 (XX12_turns x0 x1 h) := by
  unfold XX12_turns
  refine Fr_cal (fg_XX12_begun (fun a i hh => hh.elim) _ ag_h) (fun r1 h2 ag_h2 => ?_)
  exact fg_XX12_turns_L5 _ _ _ (fun a i hh => hW a i ((fun q => q.elim (fun q => Or.inl (by omega)) (fun q => q.elim (fun q => Or.inr (Or.inl (by omega))) (fun q => Or.inr (Or.inr (by omega))))) hh)) _ ag_h2
theorem fr_XX12_turns {x0 : Int} {x1 : Int} {h : Hp} {r : Int} {h1 : Hp} (e : XX12_turns x0 x1 h = some (r, h1)) (a i : Nat) (hn : ¬ ((146 ≤ a ∧ a ≤ 148) ∨ (167 ≤ a ∧ a ≤ 169) ∨ (a = 143 ∧ i = 37))) : h1 a i = h a i := fg_XX12_turns (W := fun a i => (146 ≤ a ∧ a ≤ 148) ∨ (167 ≤ a ∧ a ≤ 169) ∨ (a = 143 ∧ i = 37)) x0 x1 (fun _ _ hh => hh) h (fun _ _ _ => rfl) r h1 e a i hn
theorem fg_XX12_shown_p35 {W : Nat → Nat → Prop} {h0 : Hp} (self4 : Int → Int → Int → Hp → OR) (hs_self4 : ∀ (y0 y1 y2 : Int) (hh : Hp), Ag W h0 hh → Fr W h0 (self4 y0 y1 y2 hh)) (l1 : Int) (l3 : Int) (s0 : Int) (s1 : Int) (hW : ∀ a i : Nat, (False) → W a i) (h : Hp) (ag_h : Ag W h0 h) : Fr W h0 (XX12_shown_p35 self4 l1 l3 s0 s1 h) := by
  unfold XX12_shown_p35
  refine Fr_nm (fun v7 => ?_)
  refine Fr_chk ?_
  exact hs_self4 _ _ _ _ ag_h
theorem fg_XX12_shown_b4 {W : Nat → Nat → Prop} {h0 : Hp} (self4 : Int → Int → Int → Hp → OR) (hs_self4 : ∀ (y0 y1 y2 : Int) (hh : Hp), Ag W h0 hh → Fr W h0 (self4 y0 y1 y2 hh)) (l1 : Int) (l2 : Int) (l3 : Int) (hW : ∀ a i : Nat, (False) → W a i) (h : Hp) (ag_h : Ag W h0 h) : Fr W h0 (XX12_shown_b4 self4 l1 l2 l3 h) := by
  unfold XX12_shown_b4
  refine Fr_cal (fg_XX12_observed (fun a i hh => hh.elim) _ ag_h) (fun r1 h2 ag_h2 => ?_)
  refine Fr_ite ?_ ?_
  · exact Fr_some ag_h2
  · refine Fr_cal (fg_XX12_seen _ _ (fun a i hh => hh.elim) _ ag_h2) (fun r3 h4 ag_h4 => ?_)
    refine Fr_cal (fg_XX12_isAt _ _ _ (fun a i hh => hh.elim) _ ag_h4) (fun r5 h6 ag_h6 => ?_)
    refine Fr_ite ?_ ?_
    · exact fg_XX12_shown_p35 _ hs_self4 _ _ _ _ (fun a i hh => hh.elim) _ ag_h6
    · exact fg_XX12_shown_p35 _ hs_self4 _ _ _ _ (fun a i hh => hh.elim) _ ag_h6
theorem fg_XX12_shown_L4 {W : Nat → Nat → Prop} {h0 : Hp} (l1 : Int) (l2 : Int) (l3 : Int) (hW : ∀ a i : Nat, (False) → W a i) (h : Hp) (ag_h : Ag W h0 h) : Fr W h0 (XX12_shown_L4 l1 l2 l3 h) := by
  unfold XX12_shown_L4
  exact Fr_lup3 (fun self hs z0 z1 z2 hh ag => fg_XX12_shown_b4 self hs z0 z1 z2 hW hh ag) FU _ _ _ _ ag_h
theorem fg_XX12_shown {W : Nat → Nat → Prop} {h0 : Hp} (x0 : Int) (hW : ∀ a i : Nat, (False) → W a i) (h : Hp) (ag_h : Ag W h0 h) : Fr W h0 (XX12_shown x0 h) := by
  unfold XX12_shown
  exact fg_XX12_shown_L4 _ _ _ (fun a i hh => hh.elim) _ ag_h
theorem fr_XX12_shown {x0 : Int} {h : Hp} {r : Int} {h1 : Hp} (e : XX12_shown x0 h = some (r, h1)) (a i : Nat) (hn : ¬ (False)) : h1 a i = h a i := fg_XX12_shown (W := fun a i => False) x0 (fun _ _ hh => hh) h (fun _ _ _ => rfl) r h1 e a i hn
theorem fe_XX12_shown {x0 : Int} {h : Hp} {r : Int} {h1 : Hp} (e : XX12_shown x0 h = some (r, h1)) : h1 = h := funext (fun a => funext (fun i => fr_XX12_shown e a i (fun hh => hh)))
theorem fg_XX12_apply_p296 {W : Nat → Nat → Prop} {h0 : Hp} (self240 : Int → Int → Hp → OR) (hs_self240 : ∀ (y0 y1 : Int) (hh : Hp), Ag W h0 hh → Fr W h0 (self240 y0 y1 hh)) (l1 : Int) (l4 : Int) (hW : ∀ a i : Nat, (False) → W a i) (h : Hp) (ag_h : Ag W h0 h) : Fr W h0 (XX12_apply_p296 self240 l1 l4 h) := by
  unfold XX12_apply_p296
  refine Fr_chk ?_
  exact hs_self240 _ _ _ ag_h
theorem fg_XX12_apply_b240 {W : Nat → Nat → Prop} {h0 : Hp} (self240 : Int → Int → Hp → OR) (hs_self240 : ∀ (y0 y1 : Int) (hh : Hp), Ag W h0 hh → Fr W h0 (self240 y0 y1 hh)) (l1 : Int) (l4 : Int) (hW : ∀ a i : Nat, (a = 170 ∨ (a = 143 ∧ i = 23) ∨ (a = 143 ∧ i = 38)) → W a i) (h : Hp) (ag_h : Ag W h0 h) : Fr W h0 (XX12_apply_b240 self240 l1 l4 h) := by
  unfold XX12_apply_b240
  refine Fr_cal (fg_XX12_cases (fun a i hh => hh.elim) _ ag_h) (fun r17 h18 ag_h18 => ?_)
  refine Fr_ite ?_ ?_
  · refine Fr_zb ?_
    refine Fr_wr ag_h18 (hW _ _ (Or.inr (Or.inl (by omega)))) (fun h19 ag_h19 => ?_)
    exact Fr_some ag_h19
  · refine Fr_inb ?_
    refine Fr_ite ?_ ?_
    · refine Fr_cal (fg_XX12_shown _ (fun a i hh => hh.elim) _ ag_h18) (fun r20 h21 ag_h21 => ?_)
      refine Fr_inb ?_
      refine Fr_ite ?_ ?_
      · exact fg_XX12_apply_p296 _ hs_self240 _ _ (fun a i hh => hh.elim) _ ag_h21
      · refine Fr_inb ?_
        refine Fr_wr ag_h21 (hW _ _ (Or.inl (by omega))) (fun h22 ag_h22 => ?_)
        refine Fr_chk ?_
        refine Fr_wr ag_h22 (hW _ _ (Or.inr (Or.inr (by omega)))) (fun h23 ag_h23 => ?_)
        exact fg_XX12_apply_p296 _ hs_self240 _ _ (fun a i hh => hh.elim) _ ag_h23
    · exact fg_XX12_apply_p296 _ hs_self240 _ _ (fun a i hh => hh.elim) _ ag_h18
theorem fg_XX12_apply_L240 {W : Nat → Nat → Prop} {h0 : Hp} (l1 : Int) (l4 : Int) (hW : ∀ a i : Nat, (a = 170 ∨ (a = 143 ∧ i = 23) ∨ (a = 143 ∧ i = 38)) → W a i) (h : Hp) (ag_h : Ag W h0 h) : Fr W h0 (XX12_apply_L240 l1 l4 h) := by
  unfold XX12_apply_L240
  exact Fr_lup2 (fun self hs z0 z1 hh ag => fg_XX12_apply_b240 self hs z0 z1 hW hh ag) FU _ _ _ ag_h
theorem fg_XX12_apply_p232 {W : Nat → Nat → Prop} {h0 : Hp} (l1 : Int) (hW : ∀ a i : Nat, (a = 170 ∨ (186 ≤ a ∧ a ≤ 188) ∨ (a = 143 ∧ i = 23) ∨ (a = 143 ∧ i = 38) ∨ (a = 143 ∧ i = 63)) → W a i) (h : Hp) (ag_h : Ag W h0 h) : Fr W h0 (XX12_apply_p232 l1 h) := by
  unfold XX12_apply_p232
  refine Fr_cal (fg_XX12_knows _ (fun a i hh => hW a i ((fun q => q.elim (fun q => Or.inr (Or.inl (by omega))) (fun q => Or.inr (Or.inr (Or.inr (Or.inr (by omega)))))) hh)) _ ag_h) (fun r15 h16 ag_h16 => ?_)
  exact fg_XX12_apply_L240 _ _ (fun a i hh => hW a i ((fun q => q.elim (fun q => Or.inl (by omega)) (fun q => q.elim (fun q => Or.inr (Or.inr (Or.inl (by omega)))) (fun q => Or.inr (Or.inr (Or.inr (Or.inl (by omega))))))) hh)) _ ag_h16
theorem fg_XX12_apply_p201 {W : Nat → Nat → Prop} {h0 : Hp} (l1 : Int) (l2 : Int) (s0 : Int) (hW : ∀ a i : Nat, ((146 ≤ a ∧ a ≤ 148) ∨ (167 ≤ a ∧ a ≤ 170) ∨ (186 ≤ a ∧ a ≤ 188) ∨ (a = 143 ∧ i = 23) ∨ (a = 143 ∧ 37 ≤ i ∧ i ≤ 38) ∨ (a = 143 ∧ i = 63)) → W a i) (h : Hp) (ag_h : Ag W h0 h) : Fr W h0 (XX12_apply_p201 l1 l2 s0 h) := by
  unfold XX12_apply_p201
  refine Fr_inb ?_
  refine Fr_cal (fg_XX12_turns _ _ (fun a i hh => hW a i ((fun q => q.elim (fun q => Or.inl (by omega)) (fun q => q.elim (fun q => Or.inr (Or.inl (by omega))) (fun q => Or.inr (Or.inr (Or.inr (Or.inr (Or.inl (by omega)))))))) hh)) _ ag_h) (fun r13 h14 ag_h14 => ?_)
  refine Fr_ite ?_ ?_
  · exact fg_XX12_apply_p232 _ (fun a i hh => hW a i ((fun q => q.elim (fun q => Or.inr (Or.inl (by omega))) (fun q => q.elim (fun q => Or.inr (Or.inr (Or.inl (by omega)))) (fun q => q.elim (fun q => Or.inr (Or.inr (Or.inr (Or.inl (by omega))))) (fun q => q.elim (fun q => Or.inr (Or.inr (Or.inr (Or.inr (Or.inl (by omega)))))) (fun q => Or.inr (Or.inr (Or.inr (Or.inr (Or.inr (by omega)))))))))) hh)) _ ag_h14
  · refine Fr_inb ?_
    refine Fr_cal (fg_XX12_turns _ _ (fun a i hh => hW a i ((fun q => q.elim (fun q => Or.inl (by omega)) (fun q => q.elim (fun q => Or.inr (Or.inl (by omega))) (fun q => Or.inr (Or.inr (Or.inr (Or.inr (Or.inl (by omega)))))))) hh)) _ ag_h14) (fun r24 h25 ag_h25 => ?_)
    exact fg_XX12_apply_p232 _ (fun a i hh => hW a i ((fun q => q.elim (fun q => Or.inr (Or.inl (by omega))) (fun q => q.elim (fun q => Or.inr (Or.inr (Or.inl (by omega)))) (fun q => q.elim (fun q => Or.inr (Or.inr (Or.inr (Or.inl (by omega))))) (fun q => q.elim (fun q => Or.inr (Or.inr (Or.inr (Or.inr (Or.inl (by omega)))))) (fun q => Or.inr (Or.inr (Or.inr (Or.inr (Or.inr (by omega)))))))))) hh)) _ ag_h25
theorem fg_XX12_apply_b143 {W : Nat → Nat → Prop} {h0 : Hp} (self143 : Int → Int → Hp → OR) (hs_self143 : ∀ (y0 y1 : Int) (hh : Hp), Ag W h0 hh → Fr W h0 (self143 y0 y1 hh)) (l1 : Int) (l2 : Int) (hW : ∀ a i : Nat, ((144 ≤ a ∧ a ≤ 148) ∨ (150 ≤ a ∧ a ≤ 151) ∨ a = 155 ∨ (167 ≤ a ∧ a ≤ 170) ∨ (186 ≤ a ∧ a ≤ 188) ∨ (200 ≤ a ∧ a ≤ 201) ∨ (a = 143 ∧ i = 23) ∨ (a = 143 ∧ 37 ≤ i ∧ i ≤ 38) ∨ (a = 143 ∧ i = 63)) → W a i) (h : Hp) (ag_h : Ag W h0 h) : Fr W h0 (XX12_apply_b143 self143 l1 l2 h) := by
  unfold XX12_apply_b143
  refine Fr_cal (fg_XX12_cases (fun a i hh => hh.elim) _ ag_h) (fun r7 h8 ag_h8 => ?_)
  refine Fr_ite ?_ ?_
  · refine Fr_wr ag_h8 (hW _ _ (Or.inr (Or.inr (Or.inr (Or.inr (Or.inr (Or.inr (Or.inr (Or.inl (by omega)))))))))) (fun h9 ag_h9 => ?_)
    refine Fr_wr ag_h9 (hW _ _ (Or.inr (Or.inr (Or.inr (Or.inr (Or.inr (Or.inr (Or.inr (Or.inl (by omega)))))))))) (fun h10 ag_h10 => ?_)
    refine Fr_cal (fg_XX12_comes _ (fun a i hh => hW a i ((fun q => q.elim (fun q => Or.inl (by omega)) (fun q => q.elim (fun q => Or.inr (Or.inl (by omega))) (fun q => q.elim (fun q => Or.inr (Or.inr (Or.inl (by omega)))) (fun q => Or.inr (Or.inr (Or.inr (Or.inr (Or.inr (Or.inl (by omega)))))))))) hh)) _ ag_h10) (fun r11 h12 ag_h12 => ?_)
    refine Fr_ite ?_ ?_
    · exact fg_XX12_apply_p201 _ _ _ (fun a i hh => hW a i ((fun q => q.elim (fun q => Or.inl (by omega)) (fun q => q.elim (fun q => Or.inr (Or.inr (Or.inr (Or.inl (by omega))))) (fun q => q.elim (fun q => Or.inr (Or.inr (Or.inr (Or.inr (Or.inl (by omega)))))) (fun q => q.elim (fun q => Or.inr (Or.inr (Or.inr (Or.inr (Or.inr (Or.inr (Or.inl (by omega)))))))) (fun q => q.elim (fun q => Or.inr (Or.inr (Or.inr (Or.inr (Or.inr (Or.inr (Or.inr (Or.inl (by omega))))))))) (fun q => Or.inr (Or.inr (Or.inr (Or.inr (Or.inr (Or.inr (Or.inr (Or.inr (by omega)))))))))))))) hh)) _ ag_h12
    · refine Fr_cal (fg_XX12_comes _ (fun a i hh => hW a i ((fun q => q.elim (fun q => Or.inl (by omega)) (fun q => q.elim (fun q => Or.inr (Or.inl (by omega))) (fun q => q.elim (fun q => Or.inr (Or.inr (Or.inl (by omega)))) (fun q => Or.inr (Or.inr (Or.inr (Or.inr (Or.inr (Or.inl (by omega)))))))))) hh)) _ ag_h12) (fun r26 h27 ag_h27 => ?_)
      exact fg_XX12_apply_p201 _ _ _ (fun a i hh => hW a i ((fun q => q.elim (fun q => Or.inl (by omega)) (fun q => q.elim (fun q => Or.inr (Or.inr (Or.inr (Or.inl (by omega))))) (fun q => q.elim (fun q => Or.inr (Or.inr (Or.inr (Or.inr (Or.inl (by omega)))))) (fun q => q.elim (fun q => Or.inr (Or.inr (Or.inr (Or.inr (Or.inr (Or.inr (Or.inl (by omega)))))))) (fun q => q.elim (fun q => Or.inr (Or.inr (Or.inr (Or.inr (Or.inr (Or.inr (Or.inr (Or.inl (by omega))))))))) (fun q => Or.inr (Or.inr (Or.inr (Or.inr (Or.inr (Or.inr (Or.inr (Or.inr (by omega)))))))))))))) hh)) _ ag_h27
  · refine Fr_cal (fg_XX12_shown _ (fun a i hh => hh.elim) _ ag_h8) (fun r28 h29 ag_h29 => ?_)
    refine Fr_inb ?_
    refine Fr_wr ag_h29 (hW _ _ (Or.inr (Or.inr (Or.inr (Or.inr (Or.inr (Or.inl (by omega)))))))) (fun h30 ag_h30 => ?_)
    refine Fr_chk ?_
    exact hs_self143 _ _ _ ag_h30
theorem fg_XX12_apply_L143 {W : Nat → Nat → Prop} {h0 : Hp} (l1 : Int) (l2 : Int) (hW : ∀ a i : Nat, ((144 ≤ a ∧ a ≤ 148) ∨ (150 ≤ a ∧ a ≤ 151) ∨ a = 155 ∨ (167 ≤ a ∧ a ≤ 170) ∨ (186 ≤ a ∧ a ≤ 188) ∨ (200 ≤ a ∧ a ≤ 201) ∨ (a = 143 ∧ i = 23) ∨ (a = 143 ∧ 37 ≤ i ∧ i ≤ 38) ∨ (a = 143 ∧ i = 63)) → W a i) (h : Hp) (ag_h : Ag W h0 h) : Fr W h0 (XX12_apply_L143 l1 l2 h) := by
  unfold XX12_apply_L143
  exact Fr_lup2 (fun self hs z0 z1 hh ag => fg_XX12_apply_b143 self hs z0 z1 hW hh ag) FU _ _ _ ag_h
theorem fg_XX12_apply_p115 {W : Nat → Nat → Prop} {h0 : Hp} (l1 : Int) (hW : ∀ a i : Nat, ((144 ≤ a ∧ a ≤ 148) ∨ (150 ≤ a ∧ a ≤ 151) ∨ a = 155 ∨ (167 ≤ a ∧ a ≤ 170) ∨ (174 ≤ a ∧ a ≤ 184) ∨ (186 ≤ a ∧ a ≤ 188) ∨ (200 ≤ a ∧ a ≤ 201) ∨ (a = 143 ∧ i = 23) ∨ (a = 143 ∧ 36 ≤ i ∧ i ≤ 38) ∨ (a = 143 ∧ i = 63)) → W a i) (h : Hp) (ag_h : Ag W h0 h) : Fr W h0 (XX12_apply_p115 l1 h) := by
  unfold XX12_apply_p115
  refine Fr_chk ?_
  refine Fr_cal (fg_XX12_stores _ (fun a i hh => hW a i (Or.inr (Or.inr (Or.inr (Or.inr (Or.inl (by omega))))))) _ ag_h) (fun r2 h3 ag_h3 => ?_)
  refine Fr_chk ?_
  refine Fr_wr ag_h3 (hW _ _ (Or.inr (Or.inr (Or.inr (Or.inr (Or.inr (Or.inr (Or.inr (Or.inr (Or.inl (by omega))))))))))) (fun h4 ag_h4 => ?_)
  refine Fr_cal (fg_XX12_knows _ (fun a i hh => hW a i ((fun q => q.elim (fun q => Or.inr (Or.inr (Or.inr (Or.inr (Or.inr (Or.inl (by omega))))))) (fun q => Or.inr (Or.inr (Or.inr (Or.inr (Or.inr (Or.inr (Or.inr (Or.inr (Or.inr (by omega))))))))))) hh)) _ ag_h4) (fun r5 h6 ag_h6 => ?_)
  exact fg_XX12_apply_L143 _ _ (fun a i hh => hW a i ((fun q => q.elim (fun q => Or.inl (by omega)) (fun q => q.elim (fun q => Or.inr (Or.inl (by omega))) (fun q => q.elim (fun q => Or.inr (Or.inr (Or.inl (by omega)))) (fun q => q.elim (fun q => Or.inr (Or.inr (Or.inr (Or.inl (by omega))))) (fun q => q.elim (fun q => Or.inr (Or.inr (Or.inr (Or.inr (Or.inr (Or.inl (by omega))))))) (fun q => q.elim (fun q => Or.inr (Or.inr (Or.inr (Or.inr (Or.inr (Or.inr (Or.inl (by omega)))))))) (fun q => q.elim (fun q => Or.inr (Or.inr (Or.inr (Or.inr (Or.inr (Or.inr (Or.inr (Or.inl (by omega))))))))) (fun q => q.elim (fun q => Or.inr (Or.inr (Or.inr (Or.inr (Or.inr (Or.inr (Or.inr (Or.inr (Or.inl (by omega)))))))))) (fun q => Or.inr (Or.inr (Or.inr (Or.inr (Or.inr (Or.inr (Or.inr (Or.inr (Or.inr (by omega)))))))))))))))))) hh)) _ ag_h6
theorem fg_XX12_apply_b80 {W : Nat → Nat → Prop} {h0 : Hp} (self80 : Int → Int → Hp → OR) (hs_self80 : ∀ (y0 y1 : Int) (hh : Hp), Ag W h0 hh → Fr W h0 (self80 y0 y1 hh)) (l1 : Int) (l2 : Int) (hW : ∀ a i : Nat, ((144 ≤ a ∧ a ≤ 148) ∨ (150 ≤ a ∧ a ≤ 151) ∨ a = 155 ∨ (167 ≤ a ∧ a ≤ 170) ∨ (174 ≤ a ∧ a ≤ 184) ∨ (186 ≤ a ∧ a ≤ 188) ∨ (200 ≤ a ∧ a ≤ 201) ∨ (a = 143 ∧ i = 23) ∨ (a = 143 ∧ 36 ≤ i ∧ i ≤ 38) ∨ (a = 143 ∧ i = 63)) → W a i) (h : Hp) (ag_h : Ag W h0 h) : Fr W h0 (XX12_apply_b80 self80 l1 l2 h) := by
  unfold XX12_apply_b80
  refine Fr_ite ?_ ?_
  · refine Fr_chk ?_
    refine Fr_wr ag_h (hW _ _ (Or.inr (Or.inr (Or.inr (Or.inr (Or.inr (Or.inr (Or.inr (Or.inr (Or.inl (by omega))))))))))) (fun h31 ag_h31 => ?_)
    exact fg_XX12_apply_p115 _ (fun a i hh => hW a i ((fun q => q.elim (fun q => Or.inl (by omega)) (fun q => q.elim (fun q => Or.inr (Or.inl (by omega))) (fun q => q.elim (fun q => Or.inr (Or.inr (Or.inl (by omega)))) (fun q => q.elim (fun q => Or.inr (Or.inr (Or.inr (Or.inl (by omega))))) (fun q => q.elim (fun q => Or.inr (Or.inr (Or.inr (Or.inr (Or.inl (by omega)))))) (fun q => q.elim (fun q => Or.inr (Or.inr (Or.inr (Or.inr (Or.inr (Or.inl (by omega))))))) (fun q => q.elim (fun q => Or.inr (Or.inr (Or.inr (Or.inr (Or.inr (Or.inr (Or.inl (by omega)))))))) (fun q => q.elim (fun q => Or.inr (Or.inr (Or.inr (Or.inr (Or.inr (Or.inr (Or.inr (Or.inl (by omega))))))))) (fun q => q.elim (fun q => Or.inr (Or.inr (Or.inr (Or.inr (Or.inr (Or.inr (Or.inr (Or.inr (Or.inl (by omega)))))))))) (fun q => Or.inr (Or.inr (Or.inr (Or.inr (Or.inr (Or.inr (Or.inr (Or.inr (Or.inr (by omega))))))))))))))))))) hh)) _ ag_h31
  · refine Fr_chk ?_
    refine Fr_chk ?_
    refine Fr_chk ?_
    refine Fr_cal (fg_XX12_moves _ _ (fun a i hh => hW a i (Or.inr (Or.inr (Or.inr (Or.inr (Or.inl (by omega))))))) _ ag_h) (fun r32 h33 ag_h33 => ?_)
    refine Fr_chk ?_
    exact hs_self80 _ _ _ ag_h33
theorem fg_XX12_apply_L80 {W : Nat → Nat → Prop} {h0 : Hp} (l1 : Int) (l2 : Int) (hW : ∀ a i : Nat, ((144 ≤ a ∧ a ≤ 148) ∨ (150 ≤ a ∧ a ≤ 151) ∨ a = 155 ∨ (167 ≤ a ∧ a ≤ 170) ∨ (174 ≤ a ∧ a ≤ 184) ∨ (186 ≤ a ∧ a ≤ 188) ∨ (200 ≤ a ∧ a ≤ 201) ∨ (a = 143 ∧ i = 23) ∨ (a = 143 ∧ 36 ≤ i ∧ i ≤ 38) ∨ (a = 143 ∧ i = 63)) → W a i) (h : Hp) (ag_h : Ag W h0 h) : Fr W h0 (XX12_apply_L80 l1 l2 h) := by
  unfold XX12_apply_L80
  exact Fr_lup2 (fun self hs z0 z1 hh ag => fg_XX12_apply_b80 self hs z0 z1 hW hh ag) FU _ _ _ ag_h
theorem fg_XX12_apply_p46 {W : Nat → Nat → Prop} {h0 : Hp} (self16 : Int → Int → Hp → OR) (hs_self16 : ∀ (y0 y1 : Int) (hh : Hp), Ag W h0 hh → Fr W h0 (self16 y0 y1 hh)) (l2 : Int) (s0 : Int) (s1 : Int) (hW : ∀ a i : Nat, (False) → W a i) (h : Hp) (ag_h : Ag W h0 h) : Fr W h0 (XX12_apply_p46 self16 l2 s0 s1 h) := by
  unfold XX12_apply_p46
  refine Fr_chk ?_
  refine Fr_nm (fun v36 => ?_)
  refine Fr_chk ?_
  exact hs_self16 _ _ _ ag_h
theorem fg_XX12_apply_b16 {W : Nat → Nat → Prop} {h0 : Hp} (self16 : Int → Int → Hp → OR) (hs_self16 : ∀ (y0 y1 : Int) (hh : Hp), Ag W h0 hh → Fr W h0 (self16 y0 y1 hh)) (l1 : Int) (l2 : Int) (hW : ∀ a i : Nat, ((144 ≤ a ∧ a ≤ 148) ∨ (150 ≤ a ∧ a ≤ 151) ∨ a = 155 ∨ (167 ≤ a ∧ a ≤ 170) ∨ (174 ≤ a ∧ a ≤ 184) ∨ (186 ≤ a ∧ a ≤ 188) ∨ (200 ≤ a ∧ a ≤ 201) ∨ (a = 143 ∧ i = 23) ∨ (a = 143 ∧ 36 ≤ i ∧ i ≤ 38) ∨ (a = 143 ∧ i = 63)) → W a i) (h : Hp) (ag_h : Ag W h0 h) : Fr W h0 (XX12_apply_b16 self16 l1 l2 h) := by
  unfold XX12_apply_b16
  refine Fr_ite ?_ ?_
  · refine Fr_inb ?_
    refine Fr_chk ?_
    refine Fr_ite ?_ ?_
    · refine Fr_ite ?_ ?_
      · exact fg_XX12_apply_L80 _ _ (fun a i hh => hW a i ((fun q => q.elim (fun q => Or.inl (by omega)) (fun q => q.elim (fun q => Or.inr (Or.inl (by omega))) (fun q => q.elim (fun q => Or.inr (Or.inr (Or.inl (by omega)))) (fun q => q.elim (fun q => Or.inr (Or.inr (Or.inr (Or.inl (by omega))))) (fun q => q.elim (fun q => Or.inr (Or.inr (Or.inr (Or.inr (Or.inl (by omega)))))) (fun q => q.elim (fun q => Or.inr (Or.inr (Or.inr (Or.inr (Or.inr (Or.inl (by omega))))))) (fun q => q.elim (fun q => Or.inr (Or.inr (Or.inr (Or.inr (Or.inr (Or.inr (Or.inl (by omega)))))))) (fun q => q.elim (fun q => Or.inr (Or.inr (Or.inr (Or.inr (Or.inr (Or.inr (Or.inr (Or.inl (by omega))))))))) (fun q => q.elim (fun q => Or.inr (Or.inr (Or.inr (Or.inr (Or.inr (Or.inr (Or.inr (Or.inr (Or.inl (by omega)))))))))) (fun q => Or.inr (Or.inr (Or.inr (Or.inr (Or.inr (Or.inr (Or.inr (Or.inr (Or.inr (by omega))))))))))))))))))) hh)) _ ag_h
      · exact fg_XX12_apply_p115 _ (fun a i hh => hW a i ((fun q => q.elim (fun q => Or.inl (by omega)) (fun q => q.elim (fun q => Or.inr (Or.inl (by omega))) (fun q => q.elim (fun q => Or.inr (Or.inr (Or.inl (by omega)))) (fun q => q.elim (fun q => Or.inr (Or.inr (Or.inr (Or.inl (by omega))))) (fun q => q.elim (fun q => Or.inr (Or.inr (Or.inr (Or.inr (Or.inl (by omega)))))) (fun q => q.elim (fun q => Or.inr (Or.inr (Or.inr (Or.inr (Or.inr (Or.inl (by omega))))))) (fun q => q.elim (fun q => Or.inr (Or.inr (Or.inr (Or.inr (Or.inr (Or.inr (Or.inl (by omega)))))))) (fun q => q.elim (fun q => Or.inr (Or.inr (Or.inr (Or.inr (Or.inr (Or.inr (Or.inr (Or.inl (by omega))))))))) (fun q => q.elim (fun q => Or.inr (Or.inr (Or.inr (Or.inr (Or.inr (Or.inr (Or.inr (Or.inr (Or.inl (by omega)))))))))) (fun q => Or.inr (Or.inr (Or.inr (Or.inr (Or.inr (Or.inr (Or.inr (Or.inr (Or.inr (by omega))))))))))))))))))) hh)) _ ag_h
    · exact Fr_some ag_h
  · refine Fr_inb ?_
    refine Fr_cal (fg_XX12_leafOf _ (fun a i hh => hh.elim) _ ag_h) (fun r34 h35 ag_h35 => ?_)
    refine Fr_ite ?_ ?_
    · exact fg_XX12_apply_p46 _ hs_self16 _ _ _ (fun a i hh => hh.elim) _ ag_h35
    · exact fg_XX12_apply_p46 _ hs_self16 _ _ _ (fun a i hh => hh.elim) _ ag_h35
theorem fg_XX12_apply_L16 {W : Nat → Nat → Prop} {h0 : Hp} (l1 : Int) (l2 : Int) (hW : ∀ a i : Nat, ((144 ≤ a ∧ a ≤ 148) ∨ (150 ≤ a ∧ a ≤ 151) ∨ a = 155 ∨ (167 ≤ a ∧ a ≤ 170) ∨ (174 ≤ a ∧ a ≤ 184) ∨ (186 ≤ a ∧ a ≤ 188) ∨ (200 ≤ a ∧ a ≤ 201) ∨ (a = 143 ∧ i = 23) ∨ (a = 143 ∧ 36 ≤ i ∧ i ≤ 38) ∨ (a = 143 ∧ i = 63)) → W a i) (h : Hp) (ag_h : Ag W h0 h) : Fr W h0 (XX12_apply_L16 l1 l2 h) := by
  unfold XX12_apply_L16
  exact Fr_lup2 (fun self hs z0 z1 hh ag => fg_XX12_apply_b16 self hs z0 z1 hW hh ag) FU _ _ _ ag_h
theorem fg_XX12_apply {W : Nat → Nat → Prop} {h0 : Hp} (hW : ∀ a i : Nat, ((144 ≤ a ∧ a ≤ 148) ∨ (150 ≤ a ∧ a ≤ 151) ∨ a = 155 ∨ (167 ≤ a ∧ a ≤ 170) ∨ (174 ≤ a ∧ a ≤ 184) ∨ (186 ≤ a ∧ a ≤ 188) ∨ (200 ≤ a ∧ a ≤ 201) ∨ (a = 143 ∧ i = 23) ∨ (a = 143 ∧ 36 ≤ i ∧ i ≤ 38) ∨ (a = 143 ∧ i = 63)) → W a i) (h : Hp) (ag_h : Ag W h0 h) : Fr W h0 (XX12_apply  h) := by
  unfold XX12_apply
  refine Fr_ite ?_ ?_
  · exact Fr_some ag_h
  · refine Fr_nm (fun v1 => ?_)
    exact fg_XX12_apply_L16 _ _ (fun a i hh => hW a i ((fun q => q.elim (fun q => Or.inl (by omega)) (fun q => q.elim (fun q => Or.inr (Or.inl (by omega))) (fun q => q.elim (fun q => Or.inr (Or.inr (Or.inl (by omega)))) (fun q => q.elim (fun q => Or.inr (Or.inr (Or.inr (Or.inl (by omega))))) (fun q => q.elim (fun q => Or.inr (Or.inr (Or.inr (Or.inr (Or.inl (by omega)))))) (fun q => q.elim (fun q => Or.inr (Or.inr (Or.inr (Or.inr (Or.inr (Or.inl (by omega))))))) (fun q => q.elim (fun q => Or.inr (Or.inr (Or.inr (Or.inr (Or.inr (Or.inr (Or.inl (by omega)))))))) (fun q => q.elim (fun q => Or.inr (Or.inr (Or.inr (Or.inr (Or.inr (Or.inr (Or.inr (Or.inl (by omega))))))))) (fun q => q.elim (fun q => Or.inr (Or.inr (Or.inr (Or.inr (Or.inr (Or.inr (Or.inr (Or.inr (Or.inl (by omega)))))))))) (fun q => Or.inr (Or.inr (Or.inr (Or.inr (Or.inr (Or.inr (Or.inr (Or.inr (Or.inr (by omega))))))))))))))))))) hh)) _ ag_h
theorem fr_XX12_apply {h : Hp} {r : Int} {h1 : Hp} (e : XX12_apply  h = some (r, h1)) (a i : Nat) (hn : ¬ ((144 ≤ a ∧ a ≤ 148) ∨ (150 ≤ a ∧ a ≤ 151) ∨ a = 155 ∨ (167 ≤ a ∧ a ≤ 170) ∨ (174 ≤ a ∧ a ≤ 184) ∨ (186 ≤ a ∧ a ≤ 188) ∨ (200 ≤ a ∧ a ≤ 201) ∨ (a = 143 ∧ i = 23) ∨ (a = 143 ∧ 36 ≤ i ∧ i ≤ 38) ∨ (a = 143 ∧ i = 63))) : h1 a i = h a i := fg_XX12_apply (W := fun a i => (144 ≤ a ∧ a ≤ 148) ∨ (150 ≤ a ∧ a ≤ 151) ∨ a = 155 ∨ (167 ≤ a ∧ a ≤ 170) ∨ (174 ≤ a ∧ a ≤ 184) ∨ (186 ≤ a ∧ a ≤ 188) ∨ (200 ≤ a ∧ a ≤ 201) ∨ (a = 143 ∧ i = 23) ∨ (a = 143 ∧ 36 ≤ i ∧ i ≤ 38) ∨ (a = 143 ∧ i = 63))  (fun _ _ hh => hh) h (fun _ _ _ => rfl) r h1 e a i hn
theorem fg_XX12_undo_b32 {W : Nat → Nat → Prop} {h0 : Hp} (self32 : Int → Hp → OR) (hs_self32 : ∀ (y0 : Int) (hh : Hp), Ag W h0 hh → Fr W h0 (self32 y0 hh)) (l1 : Int) (hW : ∀ a i : Nat, (a = 155) → W a i) (h : Hp) (ag_h : Ag W h0 h) : Fr W h0 (XX12_undo_b32 self32 l1 h) := by
  unfold XX12_undo_b32
  refine Fr_ite ?_ ?_
  · exact Fr_some ag_h
  · refine Fr_chk ?_
    refine Fr_chk ?_
    refine Fr_chk ?_
    refine Fr_inb ?_
    refine Fr_inb ?_
    refine Fr_zb ?_
    refine Fr_wr ag_h (hW _ _ (by omega)) (fun h4 ag_h4 => ?_)
    refine Fr_chk ?_
    exact hs_self32 _ _ ag_h4
theorem fg_XX12_undo_L32 {W : Nat → Nat → Prop} {h0 : Hp} (l1 : Int) (hW : ∀ a i : Nat, (a = 155) → W a i) (h : Hp) (ag_h : Ag W h0 h) : Fr W h0 (XX12_undo_L32 l1 h) := by
  unfold XX12_undo_L32
  exact Fr_lup1 (fun self hs z0 hh ag => fg_XX12_undo_b32 self hs z0 hW hh ag) FU _ _ ag_h
theorem fg_XX12_undo {W : Nat → Nat → Prop} {h0 : Hp} (hW : ∀ a i : Nat, ((144 ≤ a ∧ a ≤ 148) ∨ (150 ≤ a ∧ a ≤ 151) ∨ a = 155 ∨ a = 157 ∨ (a = 143 ∧ i = 23) ∨ (a = 143 ∧ i = 36)) → W a i) (h : Hp) (ag_h : Ag W h0 h) : Fr W h0 (XX12_undo  h) := by
  unfold XX12_undo
  refine Fr_ite ?_ ?_
  · exact Fr_some ag_h
  · refine Fr_chk ?_
    refine Fr_wr ag_h (hW _ _ (Or.inr (Or.inr (Or.inr (Or.inr (Or.inr (by omega))))))) (fun h1 ag_h1 => ?_)
    refine Fr_chk ?_
    refine Fr_cal (fg_XX12_brings _ (fun a i hh => hW a i ((fun q => q.elim (fun q => Or.inl (by omega)) (fun q => q.elim (fun q => Or.inr (Or.inl (by omega))) (fun q => q.elim (fun q => Or.inr (Or.inr (Or.inr (Or.inl (by omega))))) (fun q => Or.inr (Or.inr (Or.inr (Or.inr (Or.inl (by omega))))))))) hh)) _ ag_h1) (fun r2 h3 ag_h3 => ?_)
    exact fg_XX12_undo_L32 _ (fun a i hh => hW a i (Or.inr (Or.inr (Or.inl (by omega))))) _ ag_h3
theorem fr_XX12_undo {h : Hp} {r : Int} {h1 : Hp} (e : XX12_undo  h = some (r, h1)) (a i : Nat) (hn : ¬ ((144 ≤ a ∧ a ≤ 148) ∨ (150 ≤ a ∧ a ≤ 151) ∨ a = 155 ∨ a = 157 ∨ (a = 143 ∧ i = 23) ∨ (a = 143 ∧ i = 36))) : h1 a i = h a i := fg_XX12_undo (W := fun a i => (144 ≤ a ∧ a ≤ 148) ∨ (150 ≤ a ∧ a ≤ 151) ∨ a = 155 ∨ a = 157 ∨ (a = 143 ∧ i = 23) ∨ (a = 143 ∧ i = 36))  (fun _ _ hh => hh) h (fun _ _ _ => rfl) r h1 e a i hn
theorem fg_XX12_change {W : Nat → Nat → Prop} {h0 : Hp} (x0 : Int) (x1 : Int) (hW : ∀ a i : Nat, (False) → W a i) (h : Hp) (ag_h : Ag W h0 h) : Fr W h0 (XX12_change x0 x1 h) := by
  unfold XX12_change
  refine Fr_chk ?_
  refine Fr_cal (fg_XX12_in _ _ _ (fun a i hh => hh.elim) _ ag_h) (fun r1 h2 ag_h2 => ?_)
  refine Fr_ite ?_ ?_
  · exact Fr_some ag_h2
  · refine Fr_ite ?_ ?_
    · refine Fr_inb ?_
      exact Fr_some ag_h2
    · refine Fr_ite ?_ ?_
      · refine Fr_inb ?_
        exact Fr_some ag_h2
      · refine Fr_ite ?_ ?_
        · refine Fr_inb ?_
          exact Fr_some ag_h2
        · exact Fr_some ag_h2
theorem fr_XX12_change {x0 : Int} {x1 : Int} {h : Hp} {r : Int} {h1 : Hp} (e : XX12_change x0 x1 h = some (r, h1)) (a i : Nat) (hn : ¬ (False)) : h1 a i = h a i := fg_XX12_change (W := fun a i => False) x0 x1 (fun _ _ hh => hh) h (fun _ _ _ => rfl) r h1 e a i hn
theorem fe_XX12_change {x0 : Int} {x1 : Int} {h : Hp} {r : Int} {h1 : Hp} (e : XX12_change x0 x1 h = some (r, h1)) : h1 = h := funext (fun a => funext (fun i => fr_XX12_change e a i (fun hh => hh)))
theorem fg_XX12_test {W : Nat → Nat → Prop} {h0 : Hp} (x0 : Int) (hW : ∀ a i : Nat, (False) → W a i) (h : Hp) (ag_h : Ag W h0 h) : Fr W h0 (XX12_test x0 h) := by
  unfold XX12_test
  refine Fr_chk ?_
  refine Fr_cal (fg_XX12_in _ _ _ (fun a i hh => hh.elim) _ ag_h) (fun r1 h2 ag_h2 => ?_)
  refine Fr_ite ?_ ?_
  · exact Fr_some ag_h2
  · refine Fr_inb ?_
    exact Fr_some ag_h2
theorem fr_XX12_test {x0 : Int} {h : Hp} {r : Int} {h1 : Hp} (e : XX12_test x0 h = some (r, h1)) (a i : Nat) (hn : ¬ (False)) : h1 a i = h a i := fg_XX12_test (W := fun a i => False) x0 (fun _ _ hh => hh) h (fun _ _ _ => rfl) r h1 e a i hn
theorem fe_XX12_test {x0 : Int} {h : Hp} {r : Int} {h1 : Hp} (e : XX12_test x0 h = some (r, h1)) : h1 = h := funext (fun a => funext (fun i => fr_XX12_test e a i (fun hh => hh)))
theorem fg_XX12_idle_p85 {W : Nat → Nat → Prop} {h0 : Hp} (self16 : Int → Int → Int → Hp → OR) (hs_self16 : ∀ (y0 y1 y2 : Int) (hh : Hp), Ag W h0 hh → Fr W h0 (self16 y0 y1 y2 hh)) (l1 : Int) (l3 : Int) (s0 : Int) (s1 : Int) (hW : ∀ a i : Nat, (False) → W a i) (h : Hp) (ag_h : Ag W h0 h) : Fr W h0 (XX12_idle_p85 self16 l1 l3 s0 s1 h) := by
  unfold XX12_idle_p85
  refine Fr_chk ?_
  refine Fr_nm (fun v9 => ?_)
  refine Fr_chk ?_
  exact hs_self16 _ _ _ _ ag_h
theorem fg_XX12_idle_p66 {W : Nat → Nat → Prop} {h0 : Hp} (self16 : Int → Int → Int → Hp → OR) (hs_self16 : ∀ (y0 y1 y2 : Int) (hh : Hp), Ag W h0 hh → Fr W h0 (self16 y0 y1 y2 hh)) (self31 : Int → Int → Int → Int → Int → Hp → OR) (hs_self31 : ∀ (y0 y1 y2 y3 y4 : Int) (hh : Hp), Ag W h0 hh → Fr W h0 (self31 y0 y1 y2 y3 y4 hh)) (l1 : Int) (l2 : Int) (l3 : Int) (l5 : Int) (s0 : Int) (hW : ∀ a i : Nat, (False) → W a i) (h : Hp) (ag_h : Ag W h0 h) : Fr W h0 (XX12_idle_p66 self16 self31 l1 l2 l3 l5 s0 h) := by
  unfold XX12_idle_p66
  refine Fr_chk ?_
  exact hs_self31 _ _ _ _ _ _ ag_h
theorem fg_XX12_idle_p65 {W : Nat → Nat → Prop} {h0 : Hp} (self16 : Int → Int → Int → Hp → OR) (hs_self16 : ∀ (y0 y1 y2 : Int) (hh : Hp), Ag W h0 hh → Fr W h0 (self16 y0 y1 y2 hh)) (self31 : Int → Int → Int → Int → Int → Hp → OR) (hs_self31 : ∀ (y0 y1 y2 y3 y4 : Int) (hh : Hp), Ag W h0 hh → Fr W h0 (self31 y0 y1 y2 y3 y4 hh)) (l1 : Int) (l2 : Int) (l3 : Int) (l5 : Int) (hW : ∀ a i : Nat, (False) → W a i) (h : Hp) (ag_h : Ag W h0 h) : Fr W h0 (XX12_idle_p65 self16 self31 l1 l2 l3 l5 h) := by
  unfold XX12_idle_p65
  exact fg_XX12_idle_p66 _ hs_self16 _ hs_self31 _ _ _ _ _ (fun a i hh => hh.elim) _ ag_h
theorem fg_XX12_idle_b31 {W : Nat → Nat → Prop} {h0 : Hp} (self16 : Int → Int → Int → Hp → OR) (hs_self16 : ∀ (y0 y1 y2 : Int) (hh : Hp), Ag W h0 hh → Fr W h0 (self16 y0 y1 y2 hh)) (self31 : Int → Int → Int → Int → Int → Hp → OR) (hs_self31 : ∀ (y0 y1 y2 y3 y4 : Int) (hh : Hp), Ag W h0 hh → Fr W h0 (self31 y0 y1 y2 y3 y4 hh)) (l1 : Int) (l2 : Int) (l3 : Int) (l4 : Int) (l5 : Int) (hW : ∀ a i : Nat, (a = 185) → W a i) (h : Hp) (ag_h : Ag W h0 h) : Fr W h0 (XX12_idle_b31 self16 self31 l1 l2 l3 l4 l5 h) := by
  unfold XX12_idle_b31
  refine Fr_cal (fg_XX12_observed (fun a i hh => hh.elim) _ ag_h) (fun r7 h8 ag_h8 => ?_)
  refine Fr_ite ?_ ?_
  · refine Fr_ite ?_ ?_
    · exact fg_XX12_idle_p85 _ hs_self16 _ _ _ _ (fun a i hh => hh.elim) _ ag_h8
    · exact fg_XX12_idle_p85 _ hs_self16 _ _ _ _ (fun a i hh => hh.elim) _ ag_h8
  · refine Fr_ite ?_ ?_
    · exact fg_XX12_idle_p65 _ hs_self16 _ hs_self31 _ _ _ _ (fun a i hh => hh.elim) _ ag_h8
    · refine Fr_cal (fg_XX12_seen _ _ (fun a i hh => hh.elim) _ ag_h8) (fun r10 h11 ag_h11 => ?_)
      refine Fr_cal (fg_XX12_doesHang _ _ _ (fun a i hh => hW a i (by omega)) _ ag_h11) (fun r12 h13 ag_h13 => ?_)
      refine Fr_ite ?_ ?_
      · exact fg_XX12_idle_p66 _ hs_self16 _ hs_self31 _ _ _ _ _ (fun a i hh => hh.elim) _ ag_h13
      · exact fg_XX12_idle_p65 _ hs_self16 _ hs_self31 _ _ _ _ (fun a i hh => hh.elim) _ ag_h13
theorem fg_XX12_idle_L31 {W : Nat → Nat → Prop} {h0 : Hp} (self16 : Int → Int → Int → Hp → OR) (hs_self16 : ∀ (y0 y1 y2 : Int) (hh : Hp), Ag W h0 hh → Fr W h0 (self16 y0 y1 y2 hh)) (l1 : Int) (l2 : Int) (l3 : Int) (l4 : Int) (l5 : Int) (hW : ∀ a i : Nat, (a = 185) → W a i) (h : Hp) (ag_h : Ag W h0 h) : Fr W h0 (XX12_idle_L31 self16 l1 l2 l3 l4 l5 h) := by
  unfold XX12_idle_L31
  exact Fr_lup5 (fun self hs z0 z1 z2 z3 z4 hh ag => fg_XX12_idle_b31 self16 hs_self16 self hs z0 z1 z2 z3 z4 hW hh ag) FU _ _ _ _ _ _ ag_h
theorem fg_XX12_idle_b16 {W : Nat → Nat → Prop} {h0 : Hp} (self16 : Int → Int → Int → Hp → OR) (hs_self16 : ∀ (y0 y1 y2 : Int) (hh : Hp), Ag W h0 hh → Fr W h0 (self16 y0 y1 y2 hh)) (l1 : Int) (l2 : Int) (l3 : Int) (hW : ∀ a i : Nat, (a = 185) → W a i) (h : Hp) (ag_h : Ag W h0 h) : Fr W h0 (XX12_idle_b16 self16 l1 l2 l3 h) := by
  unfold XX12_idle_b16
  refine Fr_cal (fg_XX12_wires _ (fun a i hh => hh.elim) _ ag_h) (fun r5 h6 ag_h6 => ?_)
  refine Fr_ite ?_ ?_
  · exact Fr_some ag_h6
  · exact fg_XX12_idle_L31 _ hs_self16 _ _ _ _ _ (fun a i hh => hW a i (by omega)) _ ag_h6
theorem fg_XX12_idle_L16 {W : Nat → Nat → Prop} {h0 : Hp} (l1 : Int) (l2 : Int) (l3 : Int) (hW : ∀ a i : Nat, (a = 185) → W a i) (h : Hp) (ag_h : Ag W h0 h) : Fr W h0 (XX12_idle_L16 l1 l2 l3 h) := by
  unfold XX12_idle_L16
  exact Fr_lup3 (fun self hs z0 z1 z2 hh ag => fg_XX12_idle_b16 self hs z0 z1 z2 hW hh ag) FU _ _ _ _ ag_h
theorem fg_XX12_idle {W : Nat → Nat → Prop} {h0 : Hp} (x0 : Int) (hW : ∀ a i : Nat, (a = 185) → W a i) (h : Hp) (ag_h : Ag W h0 h) : Fr W h0 (XX12_idle x0 h) := by
  unfold XX12_idle
  refine Fr_cal (fg_XX12_isNet _ (fun a i hh => hh.elim) _ ag_h) (fun r1 h2 ag_h2 => ?_)
  refine Fr_ite ?_ ?_
  · exact Fr_some ag_h2
  · refine Fr_cal (fg_XX12_begun (fun a i hh => hh.elim) _ ag_h2) (fun r3 h4 ag_h4 => ?_)
    exact fg_XX12_idle_L16 _ _ _ (fun a i hh => hW a i (by omega)) _ ag_h4
theorem fr_XX12_idle {x0 : Int} {h : Hp} {r : Int} {h1 : Hp} (e : XX12_idle x0 h = some (r, h1)) (a i : Nat) (hn : ¬ (a = 185)) : h1 a i = h a i := fg_XX12_idle (W := fun a i => a = 185) x0 (fun _ _ hh => hh) h (fun _ _ _ => rfl) r h1 e a i hn
theorem fg_XX12_tape_b53 {W : Nat → Nat → Prop} {h0 : Hp} (self53 : Int → Int → Int → Hp → OR) (hs_self53 : ∀ (y0 y1 y2 : Int) (hh : Hp), Ag W h0 hh → Fr W h0 (self53 y0 y1 y2 hh)) (l1 : Int) (l3 : Int) (l4 : Int) (hW : ∀ a i : Nat, (a = 173) → W a i) (h : Hp) (ag_h : Ag W h0 h) : Fr W h0 (XX12_tape_b53 self53 l1 l3 l4 h) := by
  unfold XX12_tape_b53
  refine Fr_ite ?_ ?_
  · exact Fr_some ag_h
  · refine Fr_chk ?_
    refine Fr_chk ?_
    refine Fr_inb ?_
    refine Fr_wr ag_h (hW _ _ (by omega)) (fun h7 ag_h7 => ?_)
    refine Fr_chk ?_
    exact hs_self53 _ _ _ _ ag_h7
theorem fg_XX12_tape_L53 {W : Nat → Nat → Prop} {h0 : Hp} (l1 : Int) (l3 : Int) (l4 : Int) (hW : ∀ a i : Nat, (a = 173) → W a i) (h : Hp) (ag_h : Ag W h0 h) : Fr W h0 (XX12_tape_L53 l1 l3 l4 h) := by
  unfold XX12_tape_L53
  exact Fr_lup3 (fun self hs z0 z1 z2 hh ag => fg_XX12_tape_b53 self hs z0 z1 z2 hW hh ag) FU _ _ _ _ ag_h
theorem fg_XX12_tape {W : Nat → Nat → Prop} {h0 : Hp} (x0 : Int) (x1 : Int) (x2 : Int) (hW : ∀ a i : Nat, ((171 ≤ a ∧ a ≤ 173) ∨ (a = 143 ∧ i = 57)) → W a i) (h : Hp) (ag_h : Ag W h0 h) : Fr W h0 (XX12_tape x0 x1 x2 h) := by
  unfold XX12_tape
  refine Fr_cal (fg_XX12_isTape _ (fun a i hh => hh.elim) _ ag_h) (fun r1 h2 ag_h2 => ?_)
  refine Fr_ite ?_ ?_
  · exact Fr_some ag_h2
  · refine Fr_cal (fg_XX12_in _ _ _ (fun a i hh => hh.elim) _ ag_h2) (fun r3 h4 ag_h4 => ?_)
    refine Fr_ite ?_ ?_
    · exact Fr_some ag_h4
    · refine Fr_ite ?_ ?_
      · refine Fr_ite ?_ ?_
        · refine Fr_inb ?_
          refine Fr_wr ag_h4 (hW _ _ (Or.inl (by omega))) (fun h5 ag_h5 => ?_)
          refine Fr_inb ?_
          refine Fr_wr ag_h5 (hW _ _ (Or.inl (by omega))) (fun h6 ag_h6 => ?_)
          exact fg_XX12_tape_L53 _ _ _ (fun a i hh => hW a i (Or.inl (by omega))) _ ag_h6
        · refine Fr_cal (fg_XX12_refuse _ (fun a i hh => hW a i (Or.inr (by omega))) _ ag_h4) (fun r8 h9 ag_h9 => ?_)
          exact Fr_some ag_h9
      · exact Fr_some ag_h4
theorem fr_XX12_tape {x0 : Int} {x1 : Int} {x2 : Int} {h : Hp} {r : Int} {h1 : Hp} (e : XX12_tape x0 x1 x2 h = some (r, h1)) (a i : Nat) (hn : ¬ ((171 ≤ a ∧ a ≤ 173) ∨ (a = 143 ∧ i = 57))) : h1 a i = h a i := fg_XX12_tape (W := fun a i => (171 ≤ a ∧ a ≤ 173) ∨ (a = 143 ∧ i = 57)) x0 x1 x2 (fun _ _ hh => hh) h (fun _ _ _ => rfl) r h1 e a i hn
theorem fg_XX12_image {W : Nat → Nat → Prop} {h0 : Hp} (x0 : Int) (hW : ∀ a i : Nat, ((171 ≤ a ∧ a ≤ 172) ∨ (174 ≤ a ∧ a ≤ 184)) → W a i) (h : Hp) (ag_h : Ag W h0 h) : Fr W h0 (XX12_image x0 h) := by
  unfold XX12_image
  refine Fr_cal (fg_XX12_isTape _ (fun a i hh => hh.elim) _ ag_h) (fun r1 h2 ag_h2 => ?_)
  refine Fr_ite ?_ ?_
  · exact Fr_some ag_h2
  · refine Fr_inb ?_
    refine Fr_wr ag_h2 (hW _ _ (Or.inl (by omega))) (fun h3 ag_h3 => ?_)
    refine Fr_inb ?_
    refine Fr_wr ag_h3 (hW _ _ (Or.inl (by omega))) (fun h4 ag_h4 => ?_)
    refine Fr_cal (fg_XX12_stores _ (fun a i hh => hW a i (Or.inr (by omega))) _ ag_h4) (fun r5 h6 ag_h6 => ?_)
    refine Fr_inb ?_
    exact Fr_some ag_h6
theorem fr_XX12_image {x0 : Int} {h : Hp} {r : Int} {h1 : Hp} (e : XX12_image x0 h = some (r, h1)) (a i : Nat) (hn : ¬ ((171 ≤ a ∧ a ≤ 172) ∨ (174 ≤ a ∧ a ≤ 184))) : h1 a i = h a i := fg_XX12_image (W := fun a i => (171 ≤ a ∧ a ≤ 172) ∨ (174 ≤ a ∧ a ≤ 184)) x0 (fun _ _ hh => hh) h (fun _ _ _ => rfl) r h1 e a i hn
theorem fg_XX12_back {W : Nat → Nat → Prop} {h0 : Hp} (x0 : Int) (hW : ∀ a i : Nat, ((144 ≤ a ∧ a ≤ 148) ∨ (150 ≤ a ∧ a ≤ 151) ∨ a = 157 ∨ (a = 143 ∧ i = 23) ∨ (a = 143 ∧ i = 36) ∨ (a = 143 ∧ i = 57)) → W a i) (h : Hp) (ag_h : Ag W h0 h) : Fr W h0 (XX12_back x0 h) := by
  unfold XX12_back
  refine Fr_cal (fg_XX12_isTape _ (fun a i hh => hh.elim) _ ag_h) (fun r1 h2 ag_h2 => ?_)
  refine Fr_ite ?_ ?_
  · exact Fr_some ag_h2
  · refine Fr_inb ?_
    refine Fr_ite ?_ ?_
    · refine Fr_cal (fg_XX12_refuse _ (fun a i hh => hW a i (Or.inr (Or.inr (Or.inr (Or.inr (Or.inr (by omega))))))) _ ag_h2) (fun r8 h9 ag_h9 => ?_)
      exact Fr_some ag_h9
    · refine Fr_inb ?_
      refine Fr_ite ?_ ?_
      · refine Fr_inb ?_
        refine Fr_ite ?_ ?_
        · refine Fr_inb ?_
          refine Fr_ite ?_ ?_
          · refine Fr_inb ?_
            refine Fr_ite ?_ ?_
            · refine Fr_cal (fg_XX12_brings _ (fun a i hh => hW a i ((fun q => q.elim (fun q => Or.inl (by omega)) (fun q => q.elim (fun q => Or.inr (Or.inl (by omega))) (fun q => q.elim (fun q => Or.inr (Or.inr (Or.inl (by omega)))) (fun q => Or.inr (Or.inr (Or.inr (Or.inl (by omega)))))))) hh)) _ ag_h2) (fun r3 h4 ag_h4 => ?_)
              refine Fr_wr ag_h4 (hW _ _ (Or.inr (Or.inr (Or.inr (Or.inr (Or.inl (by omega))))))) (fun h5 ag_h5 => ?_)
              refine Fr_inb ?_
              exact Fr_some ag_h5
            · exact Fr_some ag_h2
          · exact Fr_some ag_h2
        · exact Fr_some ag_h2
      · refine Fr_cal (fg_XX12_refuse _ (fun a i hh => hW a i (Or.inr (Or.inr (Or.inr (Or.inr (Or.inr (by omega))))))) _ ag_h2) (fun r6 h7 ag_h7 => ?_)
        exact Fr_some ag_h7
theorem fr_XX12_back {x0 : Int} {h : Hp} {r : Int} {h1 : Hp} (e : XX12_back x0 h = some (r, h1)) (a i : Nat) (hn : ¬ ((144 ≤ a ∧ a ≤ 148) ∨ (150 ≤ a ∧ a ≤ 151) ∨ a = 157 ∨ (a = 143 ∧ i = 23) ∨ (a = 143 ∧ i = 36) ∨ (a = 143 ∧ i = 57))) : h1 a i = h a i := fg_XX12_back (W := fun a i => (144 ≤ a ∧ a ≤ 148) ∨ (150 ≤ a ∧ a ≤ 151) ∨ a = 157 ∨ (a = 143 ∧ i = 23) ∨ (a = 143 ∧ i = 36) ∨ (a = 143 ∧ i = 57)) x0 (fun _ _ hh => hh) h (fun _ _ _ => rfl) r h1 e a i hn
theorem fg_XX12_toss {W : Nat → Nat → Prop} {h0 : Hp} (x0 : Int) (hW : ∀ a i : Nat, ((a = 143 ∧ i = 57)) → W a i) (h : Hp) (ag_h : Ag W h0 h) : Fr W h0 (XX12_toss x0 h) := by
  unfold XX12_toss
  refine Fr_cal (fg_XX12_isTape _ (fun a i hh => hh.elim) _ ag_h) (fun r1 h2 ag_h2 => ?_)
  refine Fr_ite ?_ ?_
  · exact Fr_some ag_h2
  · refine Fr_inb ?_
    refine Fr_ite ?_ ?_
    · refine Fr_cal (fg_XX12_refuse _ (fun a i hh => hW a i (by omega)) _ ag_h2) (fun r7 h8 ag_h8 => ?_)
      exact Fr_some ag_h8
    · refine Fr_inb ?_
      refine Fr_ite ?_ ?_
      · refine Fr_inb ?_
        refine Fr_ite ?_ ?_
        · refine Fr_cal (fg_XX12_refuse _ (fun a i hh => hW a i (by omega)) _ ag_h2) (fun r3 h4 ag_h4 => ?_)
          exact Fr_some ag_h4
        · refine Fr_inb ?_
          exact Fr_some ag_h2
      · refine Fr_cal (fg_XX12_refuse _ (fun a i hh => hW a i (by omega)) _ ag_h2) (fun r5 h6 ag_h6 => ?_)
        exact Fr_some ag_h6
theorem fr_XX12_toss {x0 : Int} {h : Hp} {r : Int} {h1 : Hp} (e : XX12_toss x0 h = some (r, h1)) (a i : Nat) (hn : ¬ ((a = 143 ∧ i = 57))) : h1 a i = h a i := fg_XX12_toss (W := fun a i => (a = 143 ∧ i = 57)) x0 (fun _ _ hh => hh) h (fun _ _ _ => rfl) r h1 e a i hn
theorem fg_XX12_clear {W : Nat → Nat → Prop} {h0 : Hp} (x0 : Int) (hW : ∀ a i : Nat, (a = 171) → W a i) (h : Hp) (ag_h : Ag W h0 h) : Fr W h0 (XX12_clear x0 h) := by
  unfold XX12_clear
  refine Fr_cal (fg_XX12_isTape _ (fun a i hh => hh.elim) _ ag_h) (fun r1 h2 ag_h2 => ?_)
  refine Fr_ite ?_ ?_
  · exact Fr_some ag_h2
  · refine Fr_inb ?_
    refine Fr_nm (fun v3 => ?_)
    refine Fr_inb ?_
    refine Fr_wr ag_h2 (hW _ _ (by omega)) (fun h4 ag_h4 => ?_)
    exact Fr_some ag_h4
theorem fr_XX12_clear {x0 : Int} {h : Hp} {r : Int} {h1 : Hp} (e : XX12_clear x0 h = some (r, h1)) (a i : Nat) (hn : ¬ (a = 171)) : h1 a i = h a i := fg_XX12_clear (W := fun a i => a = 171) x0 (fun _ _ hh => hh) h (fun _ _ _ => rfl) r h1 e a i hn
theorem fg_XX12_narrowed {W : Nat → Nat → Prop} {h0 : Hp} (x0 : Int) (x1 : Int) (hW : ∀ a i : Nat, (False) → W a i) (h : Hp) (ag_h : Ag W h0 h) : Fr W h0 (XX12_narrowed x0 x1 h) := by
  unfold XX12_narrowed
  refine Fr_ite ?_ ?_
  · exact Fr_some ag_h
  · refine Fr_ite ?_ ?_
    · exact Fr_some ag_h
    · refine Fr_ite ?_ ?_
      · exact Fr_some ag_h
      · exact Fr_some ag_h
theorem fr_XX12_narrowed {x0 : Int} {x1 : Int} {h : Hp} {r : Int} {h1 : Hp} (e : XX12_narrowed x0 x1 h = some (r, h1)) (a i : Nat) (hn : ¬ (False)) : h1 a i = h a i := fg_XX12_narrowed (W := fun a i => False) x0 x1 (fun _ _ hh => hh) h (fun _ _ _ => rfl) r h1 e a i hn
theorem fe_XX12_narrowed {x0 : Int} {x1 : Int} {h : Hp} {r : Int} {h1 : Hp} (e : XX12_narrowed x0 x1 h = some (r, h1)) : h1 = h := funext (fun a => funext (fun i => fr_XX12_narrowed e a i (fun hh => hh)))
theorem fg_XX12_put {W : Nat → Nat → Prop} {h0 : Hp} (x0 : Int) (x1 : Int) (x2 : Int) (hW : ∀ a i : Nat, (a = 173 ∨ (a = 143 ∧ i = 57)) → W a i) (h : Hp) (ag_h : Ag W h0 h) : Fr W h0 (XX12_put x0 x1 x2 h) := by
  unfold XX12_put
  refine Fr_cal (fg_XX12_isTape _ (fun a i hh => hh.elim) _ ag_h) (fun r1 h2 ag_h2 => ?_)
  refine Fr_ite ?_ ?_
  · exact Fr_some ag_h2
  · refine Fr_inb ?_
    refine Fr_ite ?_ ?_
    · refine Fr_cal (fg_XX12_refuse _ (fun a i hh => hW a i (Or.inr (by omega))) _ ag_h2) (fun r12 h13 ag_h13 => ?_)
      exact Fr_some ag_h13
    · refine Fr_inb ?_
      refine Fr_ite ?_ ?_
      · refine Fr_cal (fg_XX12_refuse _ (fun a i hh => hW a i (Or.inr (by omega))) _ ag_h2) (fun r10 h11 ag_h11 => ?_)
        exact Fr_some ag_h11
      · refine Fr_inb ?_
        refine Fr_chk ?_
        refine Fr_cal (fg_XX12_in _ _ _ (fun a i hh => hh.elim) _ ag_h2) (fun r3 h4 ag_h4 => ?_)
        refine Fr_ite ?_ ?_
        · refine Fr_cal (fg_XX12_refuse _ (fun a i hh => hW a i (Or.inr (by omega))) _ ag_h4) (fun r8 h9 ag_h9 => ?_)
          exact Fr_some ag_h9
        · refine Fr_chk ?_
          refine Fr_chk ?_
          refine Fr_inb ?_
          refine Fr_cal (fg_XX12_narrowed _ _ (fun a i hh => hh.elim) _ ag_h4) (fun r5 h6 ag_h6 => ?_)
          refine Fr_inb ?_
          refine Fr_wr ag_h6 (hW _ _ (Or.inl (by omega))) (fun h7 ag_h7 => ?_)
          exact Fr_some ag_h7
theorem fr_XX12_put {x0 : Int} {x1 : Int} {x2 : Int} {h : Hp} {r : Int} {h1 : Hp} (e : XX12_put x0 x1 x2 h = some (r, h1)) (a i : Nat) (hn : ¬ (a = 173 ∨ (a = 143 ∧ i = 57))) : h1 a i = h a i := fg_XX12_put (W := fun a i => a = 173 ∨ (a = 143 ∧ i = 57)) x0 x1 x2 (fun _ _ hh => hh) h (fun _ _ _ => rfl) r h1 e a i hn
theorem fg_XX12_at_p52 {W : Nat → Nat → Prop} {h0 : Hp} (l1 : Int) (l2 : Int) (s1 : Int) (hW : ∀ a i : Nat, ((a = 143 ∧ i = 0)) → W a i) (h : Hp) (ag_h : Ag W h0 h) : Fr W h0 (XX12_at_p52 l1 l2 s1 h) := by
  unfold XX12_at_p52
  refine Fr_wr ag_h (hW _ _ (by omega)) (fun h3 ag_h3 => ?_)
  refine Fr_ite ?_ ?_
  · refine Fr_chk ?_
    refine Fr_chk ?_
    refine Fr_inb ?_
    exact Fr_some ag_h3
  · exact Fr_some ag_h3
theorem fg_XX12_at_p47 {W : Nat → Nat → Prop} {h0 : Hp} (l1 : Int) (l2 : Int) (hW : ∀ a i : Nat, ((a = 143 ∧ i = 0)) → W a i) (h : Hp) (ag_h : Ag W h0 h) : Fr W h0 (XX12_at_p47 l1 l2 h) := by
  unfold XX12_at_p47
  exact fg_XX12_at_p52 _ _ _ (fun a i hh => hW a i (by omega)) _ ag_h
theorem fg_XX12_at {W : Nat → Nat → Prop} {h0 : Hp} (x0 : Int) (x1 : Int) (hW : ∀ a i : Nat, ((a = 143 ∧ i = 0)) → W a i) (h : Hp) (ag_h : Ag W h0 h) : Fr W h0 (XX12_at x0 x1 h) := by
  unfold XX12_at
  refine Fr_cal (fg_XX12_isTape _ (fun a i hh => hh.elim) _ ag_h) (fun r1 h2 ag_h2 => ?_)
  refine Fr_ite ?_ ?_
  · exact fg_XX12_at_p52 _ _ _ (fun a i hh => hW a i (by omega)) _ ag_h2
  · refine Fr_inb ?_
    refine Fr_ite ?_ ?_
    · exact fg_XX12_at_p47 _ _ (fun a i hh => hW a i (by omega)) _ ag_h2
    · refine Fr_inb ?_
      refine Fr_ite ?_ ?_
      · exact fg_XX12_at_p47 _ _ (fun a i hh => hW a i (by omega)) _ ag_h2
      · refine Fr_inb ?_
        refine Fr_chk ?_
        refine Fr_cal (fg_XX12_in _ _ _ (fun a i hh => hh.elim) _ ag_h2) (fun r4 h5 ag_h5 => ?_)
        refine Fr_ite ?_ ?_
        · exact fg_XX12_at_p47 _ _ (fun a i hh => hW a i (by omega)) _ ag_h5
        · exact fg_XX12_at_p52 _ _ _ (fun a i hh => hW a i (by omega)) _ ag_h5
theorem fr_XX12_at {x0 : Int} {x1 : Int} {h : Hp} {r : Int} {h1 : Hp} (e : XX12_at x0 x1 h = some (r, h1)) (a i : Nat) (hn : ¬ ((a = 143 ∧ i = 0))) : h1 a i = h a i := fg_XX12_at (W := fun a i => (a = 143 ∧ i = 0)) x0 x1 (fun _ _ hh => hh) h (fun _ _ _ => rfl) r h1 e a i hn
theorem fg_XX12_copy_p34 {W : Nat → Nat → Prop} {h0 : Hp} (hW : ∀ a i : Nat, ((a = 143 ∧ i = 57)) → W a i) (h : Hp) (ag_h : Ag W h0 h) : Fr W h0 (XX12_copy_p34  h) := by
  unfold XX12_copy_p34
  refine Fr_cal (fg_XX12_refuse _ (fun a i hh => hW a i (by omega)) _ ag_h) (fun r5 h6 ag_h6 => ?_)
  exact Fr_some ag_h6
theorem fg_XX12_copy_p66 {W : Nat → Nat → Prop} {h0 : Hp} (hW : ∀ a i : Nat, ((a = 143 ∧ i = 57)) → W a i) (h : Hp) (ag_h : Ag W h0 h) : Fr W h0 (XX12_copy_p66  h) := by
  unfold XX12_copy_p66
  refine Fr_cal (fg_XX12_refuse _ (fun a i hh => hW a i (by omega)) _ ag_h) (fun r7 h8 ag_h8 => ?_)
  exact Fr_some ag_h8
theorem fg_XX12_copy_p114 {W : Nat → Nat → Prop} {h0 : Hp} (hW : ∀ a i : Nat, ((a = 143 ∧ i = 57)) → W a i) (h : Hp) (ag_h : Ag W h0 h) : Fr W h0 (XX12_copy_p114  h) := by
  unfold XX12_copy_p114
  refine Fr_cal (fg_XX12_refuse _ (fun a i hh => hW a i (by omega)) _ ag_h) (fun r9 h10 ag_h10 => ?_)
  exact Fr_some ag_h10
theorem fg_XX12_copy_b162 {W : Nat → Nat → Prop} {h0 : Hp} (self162 : Int → Int → Int → Int → Hp → OR) (hs_self162 : ∀ (y0 y1 y2 y3 : Int) (hh : Hp), Ag W h0 hh → Fr W h0 (self162 y0 y1 y2 y3 hh)) (l3 : Int) (l4 : Int) (l5 : Int) (l6 : Int) (hW : ∀ a i : Nat, (a = 173) → W a i) (h : Hp) (ag_h : Ag W h0 h) : Fr W h0 (XX12_copy_b162 self162 l3 l4 l5 l6 h) := by
  unfold XX12_copy_b162
  refine Fr_ite ?_ ?_
  · exact Fr_some ag_h
  · refine Fr_chk ?_
    refine Fr_chk ?_
    refine Fr_chk ?_
    refine Fr_inb ?_
    refine Fr_inb ?_
    refine Fr_wr ag_h (hW _ _ (by omega)) (fun h11 ag_h11 => ?_)
    refine Fr_chk ?_
    exact hs_self162 _ _ _ _ _ ag_h11
theorem fg_XX12_copy_L162 {W : Nat → Nat → Prop} {h0 : Hp} (l3 : Int) (l4 : Int) (l5 : Int) (l6 : Int) (hW : ∀ a i : Nat, (a = 173) → W a i) (h : Hp) (ag_h : Ag W h0 h) : Fr W h0 (XX12_copy_L162 l3 l4 l5 l6 h) := by
  unfold XX12_copy_L162
  exact Fr_lup4 (fun self hs z0 z1 z2 z3 hh ag => fg_XX12_copy_b162 self hs z0 z1 z2 z3 hW hh ag) FU _ _ _ _ _ ag_h
theorem fg_XX12_copy_b124 {W : Nat → Nat → Prop} {h0 : Hp} (self124 : Int → Int → Int → Int → Int → Int → Hp → OR) (hs_self124 : ∀ (y0 y1 y2 y3 y4 y5 : Int) (hh : Hp), Ag W h0 hh → Fr W h0 (self124 y0 y1 y2 y3 y4 y5 hh)) (l1 : Int) (l2 : Int) (l3 : Int) (l4 : Int) (l5 : Int) (l6 : Int) (hW : ∀ a i : Nat, (a = 173 ∨ a = 202) → W a i) (h : Hp) (ag_h : Ag W h0 h) : Fr W h0 (XX12_copy_b124 self124 l1 l2 l3 l4 l5 l6 h) := by
  unfold XX12_copy_b124
  refine Fr_ite ?_ ?_
  · exact fg_XX12_copy_L162 _ _ _ _ (fun a i hh => hW a i (Or.inl (by omega))) _ ag_h
  · refine Fr_chk ?_
    refine Fr_chk ?_
    refine Fr_chk ?_
    refine Fr_inb ?_
    refine Fr_inb ?_
    refine Fr_wr ag_h (hW _ _ (Or.inr (by omega))) (fun h12 ag_h12 => ?_)
    refine Fr_chk ?_
    exact hs_self124 _ _ _ _ _ _ _ ag_h12
theorem fg_XX12_copy_L124 {W : Nat → Nat → Prop} {h0 : Hp} (l1 : Int) (l2 : Int) (l3 : Int) (l4 : Int) (l5 : Int) (l6 : Int) (hW : ∀ a i : Nat, (a = 173 ∨ a = 202) → W a i) (h : Hp) (ag_h : Ag W h0 h) : Fr W h0 (XX12_copy_L124 l1 l2 l3 l4 l5 l6 h) := by
  unfold XX12_copy_L124
  exact Fr_lup6 (fun self hs z0 z1 z2 z3 z4 z5 hh ag => fg_XX12_copy_b124 self hs z0 z1 z2 z3 z4 z5 hW hh ag) FU _ _ _ _ _ _ _ ag_h
theorem fg_XX12_copy {W : Nat → Nat → Prop} {h0 : Hp} (x0 : Int) (x1 : Int) (x2 : Int) (x3 : Int) (x4 : Int) (hW : ∀ a i : Nat, (a = 173 ∨ a = 202 ∨ (a = 143 ∧ i = 57)) → W a i) (h : Hp) (ag_h : Ag W h0 h) : Fr W h0 (XX12_copy x0 x1 x2 x3 x4 h) := by
  unfold XX12_copy
  refine Fr_cal (fg_XX12_isTape _ (fun a i hh => hh.elim) _ ag_h) (fun r1 h2 ag_h2 => ?_)
  refine Fr_ite ?_ ?_
  · exact Fr_some ag_h2
  · refine Fr_cal (fg_XX12_isTape _ (fun a i hh => hh.elim) _ ag_h2) (fun r3 h4 ag_h4 => ?_)
    refine Fr_ite ?_ ?_
    · exact Fr_some ag_h4
    · refine Fr_inb ?_
      refine Fr_ite ?_ ?_
      · exact fg_XX12_copy_p34 (fun a i hh => hW a i (Or.inr (Or.inr (by omega)))) _ ag_h4
      · refine Fr_inb ?_
        refine Fr_ite ?_ ?_
        · exact fg_XX12_copy_p34 (fun a i hh => hW a i (Or.inr (Or.inr (by omega)))) _ ag_h4
        · refine Fr_inb ?_
          refine Fr_ite ?_ ?_
          · exact fg_XX12_copy_p66 (fun a i hh => hW a i (Or.inr (Or.inr (by omega)))) _ ag_h4
          · refine Fr_inb ?_
            refine Fr_inb ?_
            refine Fr_ite ?_ ?_
            · refine Fr_ite ?_ ?_
              · exact fg_XX12_copy_p114 (fun a i hh => hW a i (Or.inr (Or.inr (by omega)))) _ ag_h4
              · refine Fr_ite ?_ ?_
                · exact fg_XX12_copy_p114 (fun a i hh => hW a i (Or.inr (Or.inr (by omega)))) _ ag_h4
                · refine Fr_ite ?_ ?_
                  · exact fg_XX12_copy_p114 (fun a i hh => hW a i (Or.inr (Or.inr (by omega)))) _ ag_h4
                  · refine Fr_inb ?_
                    refine Fr_chk ?_
                    refine Fr_ite ?_ ?_
                    · exact fg_XX12_copy_p114 (fun a i hh => hW a i (Or.inr (Or.inr (by omega)))) _ ag_h4
                    · refine Fr_inb ?_
                      refine Fr_chk ?_
                      refine Fr_ite ?_ ?_
                      · exact fg_XX12_copy_L124 _ _ _ _ _ _ (fun a i hh => hW a i ((fun q => q.elim (fun q => Or.inl (by omega)) (fun q => Or.inr (Or.inl (by omega)))) hh)) _ ag_h4
                      · exact fg_XX12_copy_p114 (fun a i hh => hW a i (Or.inr (Or.inr (by omega)))) _ ag_h4
            · exact fg_XX12_copy_p66 (fun a i hh => hW a i (Or.inr (Or.inr (by omega)))) _ ag_h4
theorem fr_XX12_copy {x0 : Int} {x1 : Int} {x2 : Int} {x3 : Int} {x4 : Int} {h : Hp} {r : Int} {h1 : Hp} (e : XX12_copy x0 x1 x2 x3 x4 h = some (r, h1)) (a i : Nat) (hn : ¬ (a = 173 ∨ a = 202 ∨ (a = 143 ∧ i = 57))) : h1 a i = h a i := fg_XX12_copy (W := fun a i => a = 173 ∨ a = 202 ∨ (a = 143 ∧ i = 57)) x0 x1 x2 x3 x4 (fun _ _ hh => hh) h (fun _ _ _ => rfl) r h1 e a i hn
theorem fg_XX12_count_p114 {W : Nat → Nat → Prop} {h0 : Hp} (self91 : Int → Int → Hp → OR) (hs_self91 : ∀ (y0 y1 : Int) (hh : Hp), Ag W h0 hh → Fr W h0 (self91 y0 y1 hh)) (l3 : Int) (s0 : Int) (s1 : Int) (hW : ∀ a i : Nat, (False) → W a i) (h : Hp) (ag_h : Ag W h0 h) : Fr W h0 (XX12_count_p114 self91 l3 s0 s1 h) := by
  unfold XX12_count_p114
  refine Fr_chk ?_
  refine Fr_nm (fun v8 => ?_)
  refine Fr_chk ?_
  exact hs_self91 _ _ _ ag_h
theorem fg_XX12_count_b91 {W : Nat → Nat → Prop} {h0 : Hp} (self91 : Int → Int → Hp → OR) (hs_self91 : ∀ (y0 y1 : Int) (hh : Hp), Ag W h0 hh → Fr W h0 (self91 y0 y1 hh)) (l2 : Int) (l3 : Int) (hW : ∀ a i : Nat, (False) → W a i) (h : Hp) (ag_h : Ag W h0 h) : Fr W h0 (XX12_count_b91 self91 l2 l3 h) := by
  unfold XX12_count_b91
  refine Fr_cal (fg_XX12_cases (fun a i hh => hh.elim) _ ag_h) (fun r6 h7 ag_h7 => ?_)
  refine Fr_ite ?_ ?_
  · exact Fr_some ag_h7
  · refine Fr_inb ?_
    refine Fr_ite ?_ ?_
    · exact fg_XX12_count_p114 _ hs_self91 _ _ _ (fun a i hh => hh.elim) _ ag_h7
    · exact fg_XX12_count_p114 _ hs_self91 _ _ _ (fun a i hh => hh.elim) _ ag_h7
theorem fg_XX12_count_L91 {W : Nat → Nat → Prop} {h0 : Hp} (l2 : Int) (l3 : Int) (hW : ∀ a i : Nat, (False) → W a i) (h : Hp) (ag_h : Ag W h0 h) : Fr W h0 (XX12_count_L91 l2 l3 h) := by
  unfold XX12_count_L91
  exact Fr_lup2 (fun self hs z0 z1 hh ag => fg_XX12_count_b91 self hs z0 z1 hW hh ag) FU _ _ _ ag_h
theorem fg_XX12_count {W : Nat → Nat → Prop} {h0 : Hp} (x0 : Int) (hW : ∀ a i : Nat, (False) → W a i) (h : Hp) (ag_h : Ag W h0 h) : Fr W h0 (XX12_count x0 h) := by
  unfold XX12_count
  refine Fr_ite ?_ ?_
  · exact Fr_some ag_h
  · refine Fr_ite ?_ ?_
    · exact Fr_some ag_h
    · refine Fr_ite ?_ ?_
      · exact Fr_some ag_h
      · refine Fr_ite ?_ ?_
        · refine Fr_inb ?_
          exact Fr_some ag_h
        · refine Fr_ite ?_ ?_
          · refine Fr_inb ?_
            exact Fr_some ag_h
          · refine Fr_ite ?_ ?_
            · exact fg_XX12_count_L91 _ _ (fun a i hh => hh.elim) _ ag_h
            · refine Fr_ite ?_ ?_
              · exact Fr_some ag_h
              · refine Fr_ite ?_ ?_
                · exact Fr_some ag_h
                · refine Fr_ite ?_ ?_
                  · exact Fr_some ag_h
                  · refine Fr_ite ?_ ?_
                    · exact Fr_some ag_h
                    · refine Fr_ite ?_ ?_
                      · exact Fr_some ag_h
                      · exact Fr_some ag_h
theorem fr_XX12_count {x0 : Int} {h : Hp} {r : Int} {h1 : Hp} (e : XX12_count x0 h = some (r, h1)) (a i : Nat) (hn : ¬ (False)) : h1 a i = h a i := fg_XX12_count (W := fun a i => False) x0 (fun _ _ hh => hh) h (fun _ _ _ => rfl) r h1 e a i hn
theorem fe_XX12_count {x0 : Int} {h : Hp} {r : Int} {h1 : Hp} (e : XX12_count x0 h = some (r, h1)) : h1 = h := funext (fun a => funext (fun i => fr_XX12_count e a i (fun hh => hh)))
