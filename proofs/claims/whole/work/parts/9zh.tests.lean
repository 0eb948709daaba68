/-- bits put together -/
def shB (b : Nat → Bool) : Nat → Nat
  | 0 => 0
  | k + 1 => if b k = true then shB b k ||| 2 ^ k else shB b k
theorem shB_lt (b : Nat → Bool) : ∀ n, shB b n < 2 ^ n := by
  intro n
  induction n with
  | zero => exact Nat.one_pos
  | succ n ih =>
    have h1 : shB b n < 2 ^ (n + 1) := by rw [Nat.pow_succ]; omega
    show (if b n = true then shB b n ||| 2 ^ n else shB b n) < _
    split
    · exact or_lt h1 (by omega)
    · exact h1
theorem shB_bit (b : Nat → Bool) : ∀ n i, (shB b n).testBit i = (decide (i < n) && b i) := by
  intro n
  induction n with
  | zero => intro i; show Nat.testBit 0 i = _; rw [Nat.zero_testBit]; simp
  | succ n ih =>
    intro i
    show (if b n = true then shB b n ||| 2 ^ n else shB b n).testBit i = _
    by_cases q : b n = true
    · rw [if_pos q, or_bit, ih]
      by_cases t : i = n
      · subst t; simp [q]
      · by_cases t2 : i < n
        · simp [t, t2, show i < n + 1 by omega]
        · simp [t, t2, show ¬ i < n + 1 by omega]
    · rw [if_neg q, ih]
      by_cases t : i = n
      · subst t; simp [Bool.eq_false_iff.mpr q]
      · by_cases t2 : i < n
        · simp [t2, show i < n + 1 by omega]
        · simp [t2, show ¬ i < n + 1 by omega]
theorem shB_eq {b d : Nat → Bool} {n : Nat} : shB b n = shB d n ↔ ∀ k, k < n → b k = d k := by
  constructor
  · intro e k hk
    have := congrArg (fun x => Nat.testBit x k) e
    simp only [shB_bit, decide_eq_true hk, Bool.true_and] at this
    exact this
  · intro e
    apply Nat.eq_of_testBit_eq
    intro i
    rw [shB_bit, shB_bit]
    by_cases t : i < n
    · rw [e i t]
    · rw [decide_eq_false t, Bool.false_and, Bool.false_and]
theorem aor_0 {S : Nat} (hS : S < 4096) : aor (S : Int) 0 = (S : Int) := by
  refine ti_ext (inI_t _) (by unfold inI; omega) (fun c hc => ?_)
  rw [ti_aor, ti_0, Bool.or_false]
/-- what is seen of OLD in a case, of the model -/
noncomputable def sbM (g : Hp) (c k : Nat) : Bool := tb (vM 0 (c / 64) g (sn 0 k g).toNat) (c % 64)
theorem shown_eq {g : Hp} (hM : MN g) {n : Nat} (hn : g 143 3 + g 143 2 = (n : Int)) (hs : ∀ k : Nat, k < n → 0 ≤ sn 0 k g ∧ sn 0 k g < 48) {c : Nat} (hc : c < 256) : XX12_shown c g = some (((shB (sbM g c) n : Nat) : Int), g) := by
  have n6 : n ≤ 6 := by unfold MN at hM; omega
  have : En (XX12_shown c g) (fun r f => r = ((shB (sbM g c) n : Nat) : Int) ∧ f = g) := by
    unfold XX12_shown XX12_shown_L4
    refine En_lup3 (fun _ _ l3 _ => (20 - l3).toNat) (fun l1 l2 l3 f => (c : Int) = l1 ∧ g = f ∧ ∃ k : Nat, l3 = (k : Int) ∧ k ≤ n ∧ l2 = ((shB (sbM g c) k : Nat) : Int)) ?_ FU _ _ _ _ (by unfold FU; omega) ⟨rfl, rfl, 0, rfl, Nat.zero_le _, rfl⟩
    rintro self l1 l2 l3 f ih ⟨rfl, rfl, k, rfl, hk, rfl⟩
    unfold XX12_shown_b4
    rw [observed_eq hM, cal_eq, hn]
    by_cases q : (n : Int) ≤ (k : Int)
    · rw [if_pos q]
      have : k = n := by omega
      subst this
      exact En_some ⟨rfl, rfl⟩
    have hk2 := hs k (by omega)
    obtain ⟨w, hw⟩ := Int.eq_ofNat_of_zero_le hk2.1
    have hw : sn 0 k g = (w : Int) := hw
    have hb : sbM g c k = tb (vM 0 (c / 64) g w) (c % 64) := by unfold sbM; rw [hw, Int.toNat_natCast]
    have lt := shB_lt (sbM g c) k
    have l12 := p12 (show k ≤ 12 by omega)
    have step : shB (sbM g c) (k + 1) = if sbM g c k = true then shB (sbM g c) k ||| 2 ^ k else shB (sbM g c) k := rfl
    rw [if_neg q, seen_eq hM (by omega) (by omega), cal_eq, hw, isAt_eq g (by omega) (show w < 48 by omega) hc, cal_eq, ← hb]
    by_cases q2 : sbM g c k = true
    · rw [if_pos q2, if_neg n10]
      unfold XX12_shown_p35
      rw [(set_bit (show shB (sbM g c) k < 4096 by omega) (show k < 12 by omega)).2, nm_eq, chk_pos (by omega)]
      exact ih _ _ _ _ (by omega) ⟨rfl, rfl, k + 1, by omega, by omega, by rw [step, if_pos q2]⟩
    · rw [if_neg q2, if_pos rfl]
      unfold XX12_shown_p35
      rw [aor_0 (show shB (sbM g c) k < 4096 by omega), nm_eq, chk_pos (by omega)]
      exact ih _ _ _ _ (by omega) ⟨rfl, rfl, k + 1, by omega, by omega, by rw [step, if_neg q2]⟩
  obtain ⟨r, f, e, rfl, rfl⟩ := this
  exact e
/-- the cases that are listed -/
def tsL (D : Nat → Bool) (c : Nat) (acc : List Int) : List Int := if D c = true then acc ++ [(c : Int)] else acc
theorem last_getI {LG : List Int} {x e : Int} {i : Nat} (h : (LG ++ [x])[i]? = some e) : (i = LG.length ∧ e = x) ∨ (i ≠ LG.length ∧ LG[i]? = some e) := by
  by_cases t : i < LG.length
  · rw [List.getElem?_append_left t] at h
    exact Or.inr ⟨by omega, h⟩
  · rw [List.getElem?_append_right (by omega)] at h
    by_cases u : i = LG.length
    · subst u
      rw [Nat.sub_self] at h
      exact Or.inl ⟨rfl, (Option.some.inj h).symm⟩
    · have : (i - LG.length) = (i - LG.length - 1) + 1 := by omega
      rw [this] at h
      simp at h
/-- what differs, for the class -/
def dfC (g : Hp) (n c : Nat) : Prop := ∃ k, k < n ∧ tb (g 25 (4 * (g 21 k).toNat + c / 64)) (c % 64) ≠ tb (g 77 (4 * k + c / 64)) (c % 64)
theorem differs_ok {g : Hp} (hP : Pl 40 18 g) {n c : Nat} (hn : g 18 2 + g 18 1 = (n : Int)) (hc : c < 256) : En (XX3_differs 17 c g) (fun r f => f = g ∧ ((r = 1 ∧ dfC g n c) ∨ (r = 0 ∧ ¬ dfC g n c))) := by
  have lt := Pl_lt (by decide) hP.1
  have n6 : n ≤ 6 := by have := hP.1; unfold Nums at this; omega
  unfold XX3_differs XX3_differs_L2
  refine En_lup2 (fun _ l3 _ => (20 - l3).toNat) (fun l2 l3 f => (c : Int) = l2 ∧ g = f ∧ ∃ k : Nat, l3 = (k : Int) ∧ k ≤ n ∧ ∀ k', k' < k → tb (g 25 (4 * (g 21 k').toNat + c / 64)) (c % 64) = tb (g 77 (4 * k' + c / 64)) (c % 64)) ?_ FU _ _ _ (by unfold FU; omega) ⟨rfl, rfl, 0, rfl, Nat.zero_le _, fun k' hk => absurd hk (Nat.not_lt_zero _)⟩
  rintro self l2 l3 f ih ⟨rfl, rfl, k, rfl, hk, hl⟩
  unfold XX3_differs_b2
  rw [show 17 + 1 = 18 from rfl, seenCount_eq hP.1, cal_eq, hn]
  by_cases q : (n : Int) ≤ (k : Int)
  · rw [if_pos q, zb_0]
    exact En_some ⟨rfl, Or.inr ⟨rfl, fun ⟨k', h1, h2⟩ => h2 (hl k' (by omega))⟩⟩
  have hs := hP.2.2.2.1 k (by omega)
  obtain ⟨w, hw⟩ := Int.eq_ofNat_of_zero_le hs.1
  have hw : g 21 k = (w : Int) := hw
  have ed : (c : Int).tdiv 64 = ((c / 64 : Nat) : Int) := rfl
  have hc2 : (c : Int) - ((c / 64 : Nat) : Int) * 64 = ((c % 64 : Nat) : Int) := by omega
  have hw48 : w < 48 := by have := hs.2; rw [show 18 + 3 = 21 from rfl, hw] at this; omega
  rw [if_neg q, inb_pos (by omega), show 18 + 3 = 21 from rfl, show 17 + 8 = 25 from rfl, Int.toNat_natCast, hw, ed, chk_pos (by omega), chk_pos (by omega), chk_pos (by omega), inb_pos (by omega), nm_eq, chk_pos (by omega), chk_pos (by omega), chk_pos (by omega), inb_pos (by omega), hc2, chk_pos (by omega), show (4 * (w : Int) + ((c / 64 : Nat) : Int)).toNat = 4 * w + c / 64 by omega, show (4 * (k : Int) + ((c / 64 : Nat) : Int)).toNat = 4 * k + c / 64 by omega]
  have hb := jbit1 (jxor (g 25 (4 * w + c / 64)) (g 77 (4 * k + c / 64))) (k := ((c % 64 : Nat) : Int)) (by omega) (by omega)
  rw [Int.toNat_natCast, tb_jxor] at hb
  by_cases q2 : jcmp (jand (jshr (jxor (g 25 (4 * w + c / 64)) (g 77 (4 * k + c / 64))) ((c % 64 : Nat) : Int)) 1) 1 = 0
  · rw [if_pos q2, zb_1]
    refine En_some ⟨rfl, Or.inl ⟨rfl, k, by omega, ?_⟩⟩
    rw [hw, Int.toNat_natCast]
    have := hb.1 q2
    intro t; rw [t] at this; simp at this
  · rw [if_neg q2, chk_pos (by omega)]
    refine ih _ _ _ (by omega) ⟨rfl, rfl, k + 1, by omega, by omega, fun k' h1 => ?_⟩
    by_cases t : k' = k
    · subst t
      rw [hw, Int.toNat_natCast]
      have : ¬ ((tb (g 25 (4 * w + c / 64)) (c % 64) ^^ tb (g 77 (4 * k' + c / 64)) (c % 64)) = true) := fun u => q2 (hb.2 u)
      revert this
      cases tb (g 25 (4 * w + c / 64)) (c % 64) <;> cases tb (g 77 (4 * k' + c / 64)) (c % 64) <;> simp
    · exact hl k' (by omega)
/-- the class lists the tests -/
theorem findTests_ok {g : Hp} (hP : Pl 40 18 g) {n C : Nat} (hn : g 18 2 + g 18 1 = (n : Int)) (hC : g 37 0 = (C : Int)) (hC2 : C ≤ 256) {D : Nat → Bool} (hD : ∀ c, c < C → (D c = true ↔ live g c = true ∧ dfC g n c)) {T : List Int} (hT : frB (tsL D) (C - 0) 0 [] = T) : En (XX3_findTests 17 g) (fun _ f => (∀ a i, ¬ (a = 76 ∨ (a = 72 ∧ i = 6)) → f a i = g a i) ∧ f 72 6 = ((T.length : Nat) : Int) ∧ T.length ≤ C ∧ ∀ i e, T[i]? = some e → f 76 i = e) := by
  unfold XX3_findTests
  rw [hm_eq]
  have o0 : ∀ a i, ¬ (a = 76 ∨ (a = 72 ∧ i = 6)) → wr g 72 6 0 a i = g a i := fun a i hh => wq_ne (by omega)
  have v0 : wr g 72 6 0 72 6 = 0 := wr_at
  generalize wr g 72 6 0 = g0 at *
  unfold XX3_findTests_L7
  refine En_lup1 (fun l _ => (300 - l).toNat) (fun l f => ∃ c : Nat, l = (c : Int) ∧ c ≤ C ∧ (∀ a i, ¬ (a = 76 ∨ (a = 72 ∧ i = 6)) → f a i = g a i) ∧ ∃ A : List Int, A.length ≤ c ∧ f 72 6 = ((A.length : Nat) : Int) ∧ (∀ i e, A[i]? = some e → f 76 i = e) ∧ frB (tsL D) (C - c) c A = T) ?_ FU _ _ (by unfold FU; omega) ⟨0, rfl, Nat.zero_le _, o0, [], Nat.zero_le _, v0, fun i e he => by simp at he, hT⟩
  rintro self l f ih ⟨c, rfl, hc, kf, A, hA, f6, f76, eT⟩
  have hPf : Pl 40 18 f := Pl_tr (fun a i hh => kf a i (by omega)) hP
  unfold XX3_findTests_b7
  rw [kf 37 0 (by omega), hC]
  by_cases q : (C : Int) ≤ (c : Int)
  · rw [if_pos q]
    rw [frB_end (by omega)] at eT
    subst eT
    exact En_some ⟨kf, f6, by omega, f76⟩
  rw [frB_step (by omega)] at eT
  have hd := hD c (by omega)
  have lf : live f c = live g c := by unfold live; rw [kf 39 _ (by omega)]
  have df : dfC f n c ↔ dfC g n c := by
    unfold dfC
    rw [show f 25 = g 25 from funext (fun i => kf 25 i (by omega)), show f 21 = g 21 from funext (fun i => kf 21 i (by omega)), show f 77 = g 77 from funext (fun i => kf 77 i (by omega))]
  have skip : ¬ D c = true → En (XX3_findTests_p52 17 self c f) (fun _ f => (∀ a i, ¬ (a = 76 ∨ (a = 72 ∧ i = 6)) → f a i = g a i) ∧ f 72 6 = ((T.length : Nat) : Int) ∧ T.length ≤ C ∧ ∀ i e, T[i]? = some e → f 76 i = e) := by
    intro hn'
    unfold XX3_findTests_p52
    rw [chk_pos (by omega)]
    refine ih _ _ (by omega) ⟨c + 1, by omega, by omega, kf, A, by omega, f6, f76, ?_⟩
    rw [← eT]; unfold tsL; rw [if_neg hn']
  rw [if_neg q, isLive_eq f (show c < 256 by omega), cal_eq, lf]
  by_cases q2 : live g c = true
  · rw [if_pos q2, if_neg n10]
    refine En_cal (differs_ok hPf (n := n) (by rw [kf 18 2 (by omega), kf 18 1 (by omega)]; exact hn) (show c < 256 by omega)) (fun r f2 _ hr => ?_)
    obtain ⟨rfl, hr⟩ := hr
    rcases hr with ⟨rfl, hdf⟩ | ⟨rfl, hdf⟩
    · have hDc : D c = true := hd.2 ⟨q2, df.1 hdf⟩
      have eA : tsL D c A = A ++ [(c : Int)] := by unfold tsL; rw [if_pos hDc]
      rw [eA] at eT
      have w6 : wr f2 76 (f2 72 6).toNat (c : Int) 72 6 = f2 72 6 := wq_ne (by omega)
      rw [if_neg n10, inb_pos (by omega), hm_eq, w6, chk_pos (by omega), hm_eq]
      unfold XX3_findTests_p52
      rw [chk_pos (by omega)]
      refine ih _ _ (by omega) ⟨c + 1, by omega, by omega, fun a i hh => by rw [wq_ne (by omega), wq_ne (by omega)]; exact kf a i hh, A ++ [(c : Int)], by rw [List.length_append]; show A.length + 1 ≤ c + 1; omega, ?_, fun i e he => ?_, eT⟩
      · rw [wr_at, f6, List.length_append]; show _ = ((A.length + 1 : Nat) : Int); omega
      · rw [wq_ne (by omega), wr_row, f6, Int.toNat_natCast]
        rcases last_getI he with ⟨rfl, rfl⟩ | ⟨t, he⟩
        · rw [if_pos rfl]
        · rw [if_neg t]; exact f76 i e he
    · rw [if_pos rfl]
      exact skip (fun t => hdf (df.2 (hd.1 t).2))
  · rw [if_neg q2, if_pos rfl]
    exact skip (fun t => q2 (hd.1 t).1)
