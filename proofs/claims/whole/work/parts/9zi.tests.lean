theorem sbM_congr {g f : Hp} (e : ∀ a i, (a = 188 ∨ a = 147 ∨ a = 148 ∨ (a = 143 ∧ i = 3)) → f a i = g a i) (c : Nat) : sbM f c = sbM g c := by
  funext k
  unfold sbM vM sn
  rw [show f 188 = g 188 from funext (fun i => e 188 i (by omega)), show f 147 = g 147 from funext (fun i => e 147 i (by omega)), show f 148 = g 148 from funext (fun i => e 148 i (by omega)), e 143 3 (by omega)]
/-- the model looks before it patches -/
theorem aheadM {g0 : Hp} (hM : MN g0) {n C : Nat} (hn : g0 143 3 + g0 143 2 = (n : Int)) (hs : ∀ k : Nat, k < n → 0 ≤ sn 0 k g0 ∧ sn 0 k g0 < 48) (hC : ashl 1 (sM g0) = (C : Int)) (hC2 : C ≤ 256) {r : Int} {P : Int → Hp → Prop} (hend : ∀ g, (∀ y i, ¬ y = 201 → g y i = g0 y i) → (∀ c, c < C → g 201 c = ((shB (sbM g0 c) n : Nat) : Int)) → En (hm (wr g 143 37 0) (fun h9 => hm (wr h9 143 38 0) (fun h10 => cal (XX12_comes 0 h10) (fun r11 h12 => if (h12 143 25) ≤ 1 then XX12_apply_p201 r r11 (-1) h12 else cal (XX12_comes 1 h12) (fun r26 h27 => XX12_apply_p201 r r11 r26 h27))))) P) : En (XX12_apply_L143 r 0 g0) P := by
  unfold XX12_apply_L143
  refine En_lup2 (fun _ l _ => (300 - l).toNat) (fun l1 l g => r = l1 ∧ ∃ c : Nat, l = (c : Int) ∧ c ≤ C ∧ (∀ y i, ¬ y = 201 → g y i = g0 y i) ∧ ∀ c', c' < c → g 201 c' = ((shB (sbM g0 c') n : Nat) : Int)) ?_ FU _ _ _ (by unfold FU; omega) ⟨rfl, 0, rfl, Nat.zero_le _, fun _ _ _ => rfl, fun c' hc => absurd hc (Nat.not_lt_zero _)⟩
  rintro self l1 l g ih ⟨rfl, c, rfl, hc, kg, rg⟩
  have z : ∀ i, g 143 i = g0 143 i := fun i => kg 143 i (by omega)
  have hMg : MN g := by
    unfold MN at *
    rw [z 1, z 2, z 3, kg 144 0 (by omega), kg 144 1 (by omega)]; exact hM
  have hsM : sM g = sM g0 := sM_congr (z 1) (z 2)
  have hsn : ∀ k, sn 0 k g = sn 0 k g0 := fun k => by
    unfold sn
    rw [show g 147 = g0 147 from funext (fun i => kg 147 i (by omega)), show g 148 = g0 148 from funext (fun i => kg 148 i (by omega)), z 3]
  unfold XX12_apply_b143
  rw [cases_eq hMg, cal_eq, hsM, hC]
  by_cases q : (C : Int) ≤ (c : Int)
  · rw [if_pos q]
    exact hend g kg (fun c' h1 => rg c' (by omega))
  · rw [if_neg q, shown_eq hMg (n := n) (by rw [z 3, z 2]; exact hn) (fun k hk => by rw [hsn]; exact hs k hk) (show c < 256 by omega), cal_eq, inb_pos (by omega), hm_eq, chk_pos (by omega), Int.toNat_natCast]
    refine ih _ _ _ (by omega) ⟨rfl, c + 1, by omega, by omega, fun y i hh => by rw [wq_ne (by omega)]; exact kg y i hh, fun c' h1 => ?_⟩
    rw [wr_row]
    by_cases t : c' = c
    · rw [if_pos t, t, sbM_congr (fun a i hh => kg a i (by omega))]
    · rw [if_neg t]; exact rg c' (by omega)
/-- the model lists the tests -/
theorem testsM {g0 : Hp} (hM : MN g0) {n C : Nat} (hn : g0 143 3 + g0 143 2 = (n : Int)) (hs : ∀ k : Nat, k < n → 0 ≤ sn 0 k g0 ∧ sn 0 k g0 < 48) (hC : ashl 1 (sM g0) = (C : Int)) (hC2 : C ≤ 256) {D : Nat → Bool} (hD : ∀ c, c < C → (D c = true ↔ g0 149 c = 0 ∧ ((shB (sbM g0 c) n : Nat) : Int) ≠ g0 201 c)) {T : List Int} (hT : frB (tsL D) (C - 0) 0 [] = T) (h38 : g0 143 38 = 0) (r : Int) : En (XX12_apply_L240 r 0 g0) (fun x f => x = r ∧ (∀ a i, ¬ (a = 170 ∨ (a = 143 ∧ (i = 38 ∨ i = 23))) → f a i = g0 a i) ∧ f 143 23 = 0 ∧ f 143 38 = ((T.length : Nat) : Int) ∧ ∀ i e, T[i]? = some e → f 170 i = e) := by
  unfold XX12_apply_L240
  refine En_lup2 (fun _ l _ => (300 - l).toNat) (fun l1 l f => r = l1 ∧ ∃ c : Nat, l = (c : Int) ∧ c ≤ C ∧ (∀ a i, ¬ (a = 170 ∨ (a = 143 ∧ i = 38)) → f a i = g0 a i) ∧ ∃ A : List Int, A.length ≤ c ∧ f 143 38 = ((A.length : Nat) : Int) ∧ (∀ i e, A[i]? = some e → f 170 i = e) ∧ frB (tsL D) (C - c) c A = T) ?_ FU _ _ _ (by unfold FU; omega) ⟨rfl, 0, rfl, Nat.zero_le _, fun _ _ _ => rfl, [], Nat.zero_le _, h38, fun i e he => by simp at he, hT⟩
  rintro self l1 l g ih ⟨rfl, c, rfl, hc, kg, A, hA, g38, g170, eT⟩
  have z : ∀ i, i ≠ 38 → g 143 i = g0 143 i := fun i hi => kg 143 i (by omega)
  have hMg : MN g := by
    unfold MN at *
    rw [z 1 (by omega), z 2 (by omega), z 3 (by omega), kg 144 0 (by omega), kg 144 1 (by omega)]; exact hM
  have hsM : sM g = sM g0 := sM_congr (z 1 (by omega)) (z 2 (by omega))
  have hsn : ∀ k, sn 0 k g = sn 0 k g0 := fun k => by
    unfold sn
    rw [show g 147 = g0 147 from funext (fun i => kg 147 i (by omega)), show g 148 = g0 148 from funext (fun i => kg 148 i (by omega)), z 3 (by omega)]
  unfold XX12_apply_b240
  rw [cases_eq hMg, cal_eq, hsM, hC]
  by_cases q : (C : Int) ≤ (c : Int)
  · rw [if_pos q, zb_0, hm_eq]
    rw [frB_end (by omega)] at eT
    subst eT
    exact En_some ⟨rfl, fun a i hh => by rw [wq_ne (by omega)]; exact kg a i (by omega), wr_at, by rw [wq_ne (by omega)]; exact g38, fun i e he => by rw [wq_ne (by omega)]; exact g170 i e he⟩
  rw [frB_step (by omega)] at eT
  have hd := hD c (by omega)
  have skip : ¬ D c = true → En (XX12_apply_p296 self r c g) (fun x f => x = r ∧ (∀ a i, ¬ (a = 170 ∨ (a = 143 ∧ (i = 38 ∨ i = 23))) → f a i = g0 a i) ∧ f 143 23 = 0 ∧ f 143 38 = ((T.length : Nat) : Int) ∧ ∀ i e, T[i]? = some e → f 170 i = e) := by
    intro hn'
    unfold XX12_apply_p296
    rw [chk_pos (by omega)]
    refine ih _ _ _ (by omega) ⟨rfl, c + 1, by omega, by omega, kg, A, by omega, g38, g170, ?_⟩
    rw [← eT]; unfold tsL; rw [if_neg hn']
  rw [if_neg q, inb_pos (by omega), Int.toNat_natCast, kg 149 c (by omega)]
  by_cases q2 : g0 149 c = 0
  · rw [if_pos q2, shown_eq hMg (n := n) (by rw [z 3 (by omega), z 2 (by omega)]; exact hn) (fun k hk => by rw [hsn]; exact hs k hk) (show c < 256 by omega), cal_eq, inb_pos (by omega), kg 201 c (by omega), sbM_congr (fun a i hh => kg a i (by omega))]
    by_cases q3 : ((shB (sbM g0 c) n : Nat) : Int) = g0 201 c
    · rw [if_pos q3]
      exact skip (fun t => (hd.1 t).2 q3)
    · have hDc : D c = true := hd.2 ⟨q2, q3⟩
      have eA : tsL D c A = A ++ [(c : Int)] := by unfold tsL; rw [if_pos hDc]
      rw [eA] at eT
      have w6 : wr g 170 (g 143 38).toNat (c : Int) 143 38 = g 143 38 := wq_ne (by omega)
      rw [if_neg q3, inb_pos (by omega), hm_eq, w6, chk_pos (by omega), hm_eq]
      unfold XX12_apply_p296
      rw [chk_pos (by omega)]
      refine ih _ _ _ (by omega) ⟨rfl, c + 1, by omega, by omega, fun a i hh => by rw [wq_ne (by omega), wq_ne (by omega)]; exact kg a i hh, A ++ [(c : Int)], by rw [List.length_append]; show A.length + 1 ≤ c + 1; omega, ?_, fun i e he => ?_, eT⟩
      · rw [wr_at, g38, List.length_append]; show _ = ((A.length + 1 : Nat) : Int); omega
      · rw [wq_ne (by omega), wr_row, g38, Int.toNat_natCast]
        rcases last_getI he with ⟨rfl, rfl⟩ | ⟨t, he⟩
        · rw [if_pos rfl]
        · rw [if_neg t]; exact g170 i e he
  · rw [if_neg q2]
    exact skip (fun t => q2 (hd.1 t).1)
/-- how many gates are constants -/
def ctT (h : Hp) : Nat → Nat
  | 0 => 0
  | k + 1 => ctT h k + if cnT h k = true then 1 else 0
theorem ctT_le (h : Hp) : ∀ k, ctT h k ≤ k := by
  intro k
  induction k with
  | zero => exact Nat.le_refl _
  | succ k ih =>
    show ctT h k + (if cnT h k = true then 1 else 0) ≤ k + 1
    split <;> omega
theorem gatesC_ok {h : Hp} {M np : Nat} (e8 : h 56 8 = (M : Int)) (m8 : M ≤ 8) (e3 : h 56 3 = (np : Int)) (h2 : np ≤ 2) : XX7_gatesToAdd h = some (((M + ctT h np : Nat) : Int), h) := by
  have : En (XX7_gatesToAdd h) (fun r g => r = ((M + ctT h np : Nat) : Int) ∧ g = h) := by
    unfold XX7_gatesToAdd
    rw [nm_eq, e8]
    unfold XX7_gatesToAdd_L7
    refine En_lup2 (fun _ l _ => (5 - l).toNat) (fun l1 l g => h = g ∧ ∃ k : Nat, l = (k : Int) ∧ k ≤ np ∧ l1 = ((M + ctT h k : Nat) : Int)) ?_ FU _ _ _ (by unfold FU; omega) ⟨rfl, 0, rfl, Nat.zero_le _, rfl⟩
    rintro self l1 l g ih ⟨rfl, k, rfl, hk, rfl⟩
    have cl := ctT_le h k
    unfold XX7_gatesToAdd_b7
    rw [e3]
    by_cases q : (np : Int) ≤ (k : Int)
    · rw [if_pos q]
      have : k = np := by omega
      subst this
      exact En_some ⟨rfl, rfl⟩
    have st : ctT h (k + 1) = ctT h k + if cnT h k = true then 1 else 0 := rfl
    have yes : cnT h k = true → En (XX7_gatesToAdd_p39 self ((M + ctT h k : Nat) : Int) k h) (fun r g => r = ((M + ctT h np : Nat) : Int) ∧ g = h) := by
      intro t
      unfold XX7_gatesToAdd_p39 XX7_gatesToAdd_p42
      rw [chk_pos (by omega), chk_pos (by omega)]
      exact ih _ _ _ (by omega) ⟨rfl, k + 1, by omega, by omega, by rw [st, if_pos t]; omega⟩
    rw [if_neg q, inb_pos (by omega), Int.toNat_natCast]
    by_cases q1 : h 60 k = 200
    · rw [if_pos q1]; exact yes (by unfold cnT; rw [decide_eq_true q1]; rfl)
    · rw [if_neg q1, inb_pos (by omega)]
      by_cases q2 : h 60 k = 201
      · rw [if_pos q2]; exact yes (by unfold cnT; rw [decide_eq_true q2]; simp)
      · have t : ¬ cnT h k = true := by unfold cnT; rw [decide_eq_false q1, decide_eq_false q2]; decide
        rw [if_neg q2]
        unfold XX7_gatesToAdd_p42
        rw [chk_pos (by omega)]
        exact ih _ _ _ (by omega) ⟨rfl, k + 1, by omega, by omega, by rw [st, if_neg t, Nat.add_zero]⟩
  obtain ⟨r, g, e, rfl, rfl⟩ := this
  exact e
/-- the model counts them -/
theorem gatesM_ok {h g : Hp} {N M np : Nat} (p : PlB h N M) (e3 : h 56 3 = (np : Int)) (e : ∀ a i, ((a = 143 ∧ 24 ≤ i ∧ i ≤ 27) ∨ (159 ≤ a ∧ a ≤ 166)) → g a i = h a i) (hg : 0 ≤ g 144 0 ∧ g 144 0 ≤ 40) {P : Int → Hp → Prop} (hend : En (if g 144 0 + ((M + ctT h np : Nat) : Int) ≤ 40 then (if g 143 36 = 4 then XX12_apply_L80 ((M + ctT h np : Nat) : Int) 1 g else XX12_apply_p115 ((M + ctT h np : Nat) : Int) g) else some ((-3), g)) P) : En (XX12_apply_L16 M 0 g) P := by
  obtain ⟨_, _, pt, _, e8, _, m8, _⟩ := id p
  obtain ⟨_, q2, q3, _, q5, _, _, _, q9, _⟩ := id pt
  obtain ⟨m, hmm⟩ := Int.eq_ofNat_of_zero_le q3.2.1
  have hmm : h 56 5 = (m : Int) := hmm
  have hm4 : m < 4 := by omega
  have g25 : g 143 25 = (np : Int) := by rw [e 143 25 (by omega), ← q2.1]; exact e3
  have g26 : g 143 26 = (m : Int) := by rw [e 143 26 (by omega), ← q3.1]; exact hmm
  unfold XX12_apply_L16
  refine En_lup2 (fun _ l _ => (5 - l).toNat) (fun l1 l x => g = x ∧ ∃ k : Nat, l = (k : Int) ∧ k ≤ np ∧ l1 = ((M + ctT h k : Nat) : Int)) ?_ FU _ _ _ (by unfold FU; omega) ⟨rfl, 0, rfl, Nat.zero_le _, rfl⟩
  rintro self l1 l x ih ⟨rfl, k, rfl, hk, rfl⟩
  have cl := ctT_le h k
  unfold XX12_apply_b16
  rw [g25]
  by_cases q : (np : Int) ≤ (k : Int)
  · rw [if_pos q, inb_pos (by decide), show (0 : Int).toNat = 0 from rfl, chk_pos (by omega)]
    have : k = np := by omega
    subst this
    exact hend
  have st : ctT h (k + 1) = ctT h k + if cnT h k = true then 1 else 0 := rfl
  have pk := q5 k (by omega)
  have q9k := q9 k (by omega)
  obtain ⟨f, hf⟩ := Int.eq_ofNat_of_zero_le pk.2.2.2.2.1
  have hf : h 59 k = (f : Int) := hf
  rw [hmm, hf] at q9k
  have lfv : lf m f = -1 ∨ lf m f = 200 ∨ lf m f = 201 ∨ (100 ≤ lf m f ∧ lf m f < 100 + m) := by
    unfold lf
    repeat' split
    all_goals omega
  have ck : cnT h k = true ↔ ¬ lf m f < 200 := by
    unfold cnT
    by_cases z : 0 ≤ lf m f
    · rw [if_pos z] at q9k
      rw [q9k.1, Bool.or_eq_true, decide_eq_true_eq, decide_eq_true_eq]; omega
    · rw [if_neg z] at q9k
      rw [Bool.or_eq_true, decide_eq_true_eq, decide_eq_true_eq]; omega
  rw [if_neg q, inb_pos (by omega), Int.toNat_natCast, e 161 k (by omega), ← pk.2.2.2.1, hf, leafOfM_eq hm4 g26, cal_eq]
  by_cases q1 : lf m f < 200
  · rw [if_pos q1]
    unfold XX12_apply_p46
    rw [chk_pos (by omega), nm_eq, chk_pos (by omega)]
    exact ih _ _ _ (by omega) ⟨rfl, k + 1, by omega, by omega, by rw [st, if_neg (fun t => ck.1 t q1)]; omega⟩
  · rw [if_neg q1]
    unfold XX12_apply_p46
    rw [chk_pos (by omega), nm_eq, chk_pos (by omega)]
    exact ih _ _ _ (by omega) ⟨rfl, k + 1, by omega, by omega, by rw [st, if_pos (ck.2 q1)]; omega⟩
