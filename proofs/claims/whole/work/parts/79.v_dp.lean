/-! plans by sets: numbers -/
section
variable (J : Nat) (av : Nat → Nat → Bool) (tr mn sv : Nat → Nat) (lt : Nat → Nat → Bool) (NW : Nat)
/-- of a set, so many of a trade -/
def ctA (A t : Nat) : Nat := cnt (fun j => A.testBit j && decide (tr j = t)) 0 J
def eno (A : Nat) : Bool := !zan (fun i => decide (mn (tr i) < ctA J tr A (tr i))) J
theorem eno_iff (A : Nat) : eno J tr mn A = true ↔ ∀ i, i < J → ctA J tr A (tr i) ≤ mn (tr i) := by
  unfold eno
  constructor
  · intro h i hi
    apply Nat.le_of_not_lt
    intro hh
    have : zan (fun i => decide (mn (tr i) < ctA J tr A (tr i))) J = true := (zan_iff _).mpr ⟨i, hi, decide_eq_true hh⟩
    rw [this] at h
    cases h
  · intro h
    cases e : zan (fun i => decide (mn (tr i) < ctA J tr A (tr i))) J
    · rfl
    · obtain ⟨i, hi, hh⟩ := (zan_iff _).mp e
      have := h i hi
      have := of_decide_eq_true hh
      omega
theorem cnt_mono2 {p q : Nat → Bool} : ∀ d i, (∀ j, i ≤ j → j < i + d → p j = true → q j = true) → cnt p i d ≤ cnt q i d
  | 0, _, _ => Nat.le_refl _
  | d + 1, i, h => by
    have := cnt_mono2 d (i + 1) (fun j h1 h2 => h j (by omega) (by omega))
    unfold cnt
    by_cases e : p i = true
    · rw [if_pos e, if_pos (h i (by omega) (by omega) e)]; omega
    · rw [if_neg e]; omega
theorem eno_mono {A B : Nat} (h : ∀ i, i < J → B.testBit i = true → A.testBit i = true) (e : eno J tr mn A = true) : eno J tr mn B = true := by
  rw [eno_iff] at e ⊢
  intro i hi
  refine Nat.le_trans (cnt_mono2 J 0 fun j _ hj hh => ?_) (e i hi)
  rw [Bool.and_eq_true] at hh ⊢
  exact ⟨h j (by omega) hh.1, hh.2⟩
theorem nsu_z {g : Nat → Nat} : ∀ n, (∀ i, i < n → g i = 0) → nsu g n = 0
  | 0, _ => rfl
  | n + 1, h => by
    show nsu g n + g n = 0
    rw [nsu_z n fun i hi => h i (by omega), h n (by omega)]
def sdy (d A : Nat) : Nat := nsu (fun i => if A.testBit i = true then cst sv lt i d else 0) J
theorem nsu_one {g h : Nat → Nat} {a c : Nat} : ∀ n, a < n → g a = h a + c → (∀ i, i < n → i ≠ a → g i = h i) → nsu g n = nsu h n + c
  | 0, h, _, _ => absurd h (Nat.not_lt_zero _)
  | n + 1, ha, e, o => by
    show nsu g n + g n = nsu h n + h n + c
    by_cases q : a = n
    · subst q
      rw [e, nsu_cg a fun i hi => o i (by omega) (by omega)]
      omega
    · rw [nsu_one n (by omega) e (fun i hi => o i (by omega)), o n (by omega) (fun hh => q hh.symm)]
      omega
theorem sdy_low {P d : Nat} (hJ : J ≤ 7) (hP : P < 2 ^ J) (h0 : 0 < P) : lwb P < J ∧ sdy J sv lt d P = sdy J sv lt d (P &&& (P - 1)) + cst sv lt (lwb P) d := by
  have hP7 : P < 128 := Nat.lt_of_lt_of_le hP (Nat.pow_le_pow_right (by decide) hJ)
  obtain ⟨l1, l2, l3, l4, l5⟩ := lwb_p P hP7 h0
  have lJ : lwb P < J := Nat.lt_of_not_le fun hh => by
    rw [bit_hi hP hh] at l2
    cases l2
  refine ⟨lJ, nsu_one J lJ ?_ fun i hi hne => ?_⟩
  · rw [if_pos l2, if_neg (by rw [l4 _ l1, decide_eq_true rfl]; simp), Nat.zero_add]
  · rw [l4 i (by omega), decide_eq_false hne, Bool.not_false, Bool.and_true]
/-- the least prices of sets on one day -/
def ODy (d : Nat) (fO : Nat → Nat) : Prop := fO 0 = 0 ∧ ∀ A, 0 < A → A < 2 ^ J → fO A = if eno J tr mn A = true ∧ av (lwb A) d = true then min NW (fO (A &&& (A - 1)) + cst sv lt (lwb A) d) else NW
theorem ODy_le {d : Nat} {fO : Nat → Nat} (h : ODy J av tr mn sv lt NW d fO) {A : Nat} (hA : A < 2 ^ J) : fO A ≤ NW := by
  by_cases c : A = 0
  · rw [c, h.1]; exact Nat.zero_le _
  · rw [h.2 A (by omega) hA]
    split
    · exact Nat.min_le_left _ _
    · exact Nat.le_refl _
theorem ODy_p {d : Nat} {fO : Nat → Nat} (hJ : J ≤ 7) (h : ODy J av tr mn sv lt NW d fO) : ∀ n A, A ≤ n → A < 2 ^ J → (fO A < NW → eno J tr mn A = true ∨ A = 0) ∧ (fO A < NW → (∀ i, i < J → A.testBit i = true → av i d = true) ∧ fO A = sdy J sv lt d A) ∧ (eno J tr mn A = true → (∀ i, i < J → A.testBit i = true → av i d = true) → fO A ≤ sdy J sv lt d A) := by
  have z : ∀ d, sdy J sv lt d 0 = 0 := fun d => by
    exact nsu_z J fun i _ => if_neg (by rw [Nat.zero_testBit]; decide)
  intro n
  induction n with
  | zero =>
    intro A hn hA
    obtain rfl : A = 0 := by omega
    rw [h.1, z]
    exact ⟨fun _ => Or.inr rfl, fun _ => ⟨fun i _ hb => (by rw [Nat.zero_testBit] at hb; cases hb), rfl⟩, fun _ _ => Nat.le_refl _⟩
  | succ n ih =>
    intro A hn hA
    by_cases c0 : A = 0
    · subst c0
      exact ih 0 (Nat.zero_le _) hA
    · have hA7 : A < 128 := Nat.lt_of_lt_of_le hA (Nat.pow_le_pow_right (by decide) hJ)
      obtain ⟨l1, l2, l3, l4, l5⟩ := lwb_p A hA7 (by omega)
      obtain ⟨lJ, es⟩ := sdy_low J sv lt (d := d) hJ hA (by omega)
      obtain ⟨i1, i2, i3⟩ := ih (A &&& (A - 1)) (by omega) (by omega)
      have bs : ∀ i, i < J → (A &&& (A - 1)).testBit i = true → A.testBit i = true := fun i hi hb => by
        rw [l4 i (by omega), Bool.and_eq_true] at hb
        exact hb.1
      have e := h.2 A (by omega) hA
      refine ⟨fun hl => ?_, fun hl => ?_, fun he ha => ?_⟩
      · by_cases c : eno J tr mn A = true ∧ av (lwb A) d = true
        · exact Or.inl c.1
        · rw [e, if_neg c] at hl
          exact absurd hl (Nat.lt_irrefl _)
      · by_cases c : eno J tr mn A = true ∧ av (lwb A) d = true
        · rw [if_pos c] at e
          have e2 : fO A = fO (A &&& (A - 1)) + cst sv lt (lwb A) d := by
            revert e hl
            generalize fO (A &&& (A - 1)) + cst sv lt (lwb A) d = Z
            generalize fO A = F
            intro hl e
            omega
          obtain ⟨j1, j2⟩ := i2 (by rw [e2] at hl; exact Nat.lt_of_le_of_lt (Nat.le_add_right _ _) hl)
          refine ⟨fun i hi hb => ?_, by rw [e2, j2, es]⟩
          by_cases q : i = lwb A
          · rw [q]; exact c.2
          · exact j1 i hi (by rw [l4 i (by omega), hb, decide_eq_false q]; rfl)
        · rw [e, if_neg c] at hl
          exact absurd hl (Nat.lt_irrefl _)
      · rw [e, if_pos ⟨he, ha _ lJ l2⟩, es]
        exact Nat.le_trans (Nat.min_le_right _ _) (Nat.add_le_add_right (i3 (eno_mono J tr mn bs he) (fun i hi hb => ha i hi (bs i hi hb))) _)
/-- days are given to just these -/
def asn (d A : Nat) (y : Nat → Nat) : Prop := ∀ i, i < J → (A.testBit i = false → y i = 14) ∧ (A.testBit i = true → y i < d ∧ av i (y i) = true ∧ cdt tr y (y i) (tr i) J ≤ mn (tr i))
def pcy (y : Nat → Nat) : Nat := nsu (fun i => if y i = 14 then 0 else cst sv lt i (y i)) J
def INV (d : Nat) (fL : Nat → Nat) : Prop := ∀ A, A < 2 ^ J → fL A ≤ NW ∧ (fL A < NW → ∃ y, asn J av tr mn d A y ∧ fL A = pcy J sv lt y) ∧ ∀ y, asn J av tr mn d A y → fL A ≤ pcy J sv lt y
theorem INV_0 {fL : Nat → Nat} (h : ∀ A, A < 2 ^ J → fL A = if A = 0 then 0 else NW) : INV J av tr mn sv lt NW 0 fL := by
  intro A hA
  rw [h A hA]
  by_cases c : A = 0
  · rw [if_pos c]
    have z : pcy J sv lt (fun _ => 14) = 0 := by
      exact nsu_z J fun i _ => if_pos rfl
    refine ⟨Nat.zero_le _, fun _ => ⟨fun _ => 14, fun i _ => ⟨fun _ => rfl, fun hb => ?_⟩, z.symm⟩, fun y _ => Nat.zero_le _⟩
    rw [c, Nat.zero_testBit] at hb
    cases hb
  · rw [if_neg c]
    refine ⟨Nat.le_refl _, fun hh => absurd hh (Nat.lt_irrefl _), fun y hy => ?_⟩
    obtain ⟨i, hi, hb⟩ := bit_ex hA c
    exact absurd ((hy i hi).2 hb).1 (Nat.not_lt_zero _)
theorem cnt_cg {p q : Nat → Bool} : ∀ d i, (∀ j, i ≤ j → j < i + d → p j = q j) → cnt p i d = cnt q i d
  | 0, _, _ => rfl
  | d + 1, i, h => by
    unfold cnt
    rw [h i (by omega) (by omega), cnt_cg d (i + 1) (fun j h1 h2 => h j (by omega) (by omega))]
theorem cnt_ex {p : Nat → Bool} : ∀ d i, 0 < cnt p i d → ∃ j, i ≤ j ∧ j < i + d ∧ p j = true
  | 0, _, h => absurd h (Nat.lt_irrefl _)
  | d + 1, i, h => by
    by_cases e : p i = true
    · exact ⟨i, Nat.le_refl _, by omega, e⟩
    · unfold cnt at h
      rw [if_neg e, Nat.zero_add] at h
      obtain ⟨j, h1, h2, h3⟩ := cnt_ex d (i + 1) h
      exact ⟨j, by omega, by omega, h3⟩
/-- a day more -/
theorem INV_s {d : Nat} {fL fO fL' : Nat → Nat} (hJ : J ≤ 7) (hd : d < 14) (hI : INV J av tr mn sv lt NW d fL) (hO : ODy J av tr mn sv lt NW d fO)
    (hs : ∀ A, A < 2 ^ J → fL' A ≤ fL A ∧ (∀ P, 0 < P → P &&& A = P → fL' A ≤ fL (A - P) + fO P) ∧ (fL' A = fL A ∨ ∃ P, 0 < P ∧ P &&& A = P ∧ fL' A = fL (A - P) + fO P)) : INV J av tr mn sv lt NW (d + 1) fL' := by
  intro A hA
  have pw : 2 ^ J ≤ 128 := Nat.pow_le_pow_right (by decide) hJ
  have hA7 : A < 128 := by omega
  obtain ⟨s1, s2, s3⟩ := hs A hA
  obtain ⟨a1, a2, a3⟩ := hI A hA
  refine ⟨by omega, fun hl => ?_, fun y hy => ?_⟩
  · rcases s3 with s3 | ⟨P, p0, pA, s3⟩
    · obtain ⟨y, y1, y2⟩ := a2 (by omega)
      refine ⟨y, fun i hi => ⟨(y1 i hi).1, fun hb => ?_⟩, by rw [s3, y2]⟩
      obtain ⟨z1, z2, z3⟩ := (y1 i hi).2 hb
      exact ⟨by omega, z2, z3⟩
    · have hPA : P ≤ A := by rw [← pA]; exact Nat.and_le_right
      have hP : P < 2 ^ J := by omega
      obtain ⟨-, sb⟩ := sub_b A hA7 P (by omega) pA
      obtain ⟨o1, o2, o3⟩ := ODy_p J av tr mn sv lt NW hJ hO P P (Nat.le_refl _) hP
      obtain ⟨t1, t2⟩ := o2 (by omega)
      have en : eno J tr mn P = true := (o1 (by omega)).resolve_right (by omega)
      obtain ⟨y', y1, y2⟩ := (hI (A - P) (by omega)).2.1 (by omega)
      have y14 : ∀ i, i < J → P.testBit i = true → y' i = 14 := fun i hi hb => (y1 i hi).1 (by rw [sb i (by omega), hb]; simp)
      have y'd : ∀ i, i < J → y' i ≠ d := fun i hi e => by
        cases hb : (A - P).testBit i
        · have := (y1 i hi).1 hb; omega
        · have := ((y1 i hi).2 hb).1; omega
      refine ⟨fun i => if P.testBit i = true then d else y' i, fun i hi => ⟨fun hb => ?_, fun hb => ?_⟩, ?_⟩
      · have hp : P.testBit i = false := by
          cases e : P.testBit i
          · rfl
          · have := congrArg (fun n => n.testBit i) pA
            simp only [Nat.testBit_and] at this
            rw [e, hb] at this
            cases this
        show (if P.testBit i = true then d else y' i) = 14
        rw [if_neg (by rw [hp]; decide)]
        exact (y1 i hi).1 (by rw [sb i (by omega), hb]; rfl)
      · show (if P.testBit i = true then d else y' i) < d + 1 ∧ av i (if P.testBit i = true then d else y' i) = true ∧ cdt tr (fun i => if P.testBit i = true then d else y' i) (if P.testBit i = true then d else y' i) (tr i) J ≤ mn (tr i)
        by_cases hp : P.testBit i = true
        · rw [if_pos hp]
          refine ⟨by omega, t1 i hi hp, ?_⟩
          have := (eno_iff J tr mn P).mp en i hi
          refine Nat.le_trans (Nat.le_of_eq (cnt_cg J 0 fun j _ hj => ?_)) this
          show (decide ((if P.testBit j = true then d else y' j) = d) && decide (tr j = tr i)) = (P.testBit j && decide (tr j = tr i))
          by_cases hq : P.testBit j = true
          · rw [if_pos hq, hq, decide_eq_true rfl]
          · rw [if_neg hq, decide_eq_false (y'd j (by omega))]
            cases e : P.testBit j
            · rfl
            · exact absurd e hq
        · rw [if_neg hp]
          have hb2 : (A - P).testBit i = true := by
            rw [sb i (by omega), hb]
            cases e : P.testBit i
            · rfl
            · exact absurd e hp
          obtain ⟨z1, z2, z3⟩ := (y1 i hi).2 hb2
          refine ⟨by omega, z2, ?_⟩
          refine Nat.le_trans (Nat.le_of_eq (cnt_cg J 0 fun j _ hj => ?_)) z3
          show (decide ((if P.testBit j = true then d else y' j) = y' i) && decide (tr j = tr i)) = (decide (y' j = y' i) && decide (tr j = tr i))
          by_cases hq : P.testBit j = true
          · rw [if_pos hq, y14 j (by omega) hq, decide_eq_false (show ¬ d = y' i by omega), decide_eq_false (show ¬ 14 = y' i by omega)]
          · rw [if_neg hq]
      · rw [s3, y2, t2]
        unfold pcy sdy
        rw [← nsu_plus]
        refine nsu_cg J fun i hi => ?_
        show (if y' i = 14 then 0 else cst sv lt i (y' i)) + (if P.testBit i = true then cst sv lt i d else 0) = (if (if P.testBit i = true then d else y' i) = 14 then 0 else cst sv lt i (if P.testBit i = true then d else y' i))
        by_cases hp : P.testBit i = true
        · rw [if_pos hp, if_pos hp, if_pos (y14 i hi hp), if_neg (show ¬ d = 14 by omega), Nat.zero_add]
        · rw [if_neg hp, if_neg hp, Nat.add_zero]
  · obtain ⟨P, p1, p2⟩ := msk (fun i => decide (y i = d)) J
    have pA : P &&& A = P := sub_of hA7 (by omega) fun i _ hb => by
      by_cases c : i < J
      · rw [p2 i c] at hb
        have hb := of_decide_eq_true hb
        cases e : A.testBit i
        · have := (hy i c).1 e; omega
        · rfl
      · rw [bit_hi p1 (by omega)] at hb
        cases hb
    by_cases c0 : P = 0
    · refine Nat.le_trans s1 (a3 y fun i hi => ⟨(hy i hi).1, fun hb => ?_⟩)
      obtain ⟨z1, z2, z3⟩ := (hy i hi).2 hb
      have : y i ≠ d := fun e => by
        have := p2 i hi
        rw [c0, Nat.zero_testBit, e, decide_eq_true rfl] at this
        cases this
      exact ⟨by omega, z2, z3⟩
    · have hPA : P ≤ A := by rw [← pA]; exact Nat.and_le_right
      obtain ⟨-, sb⟩ := sub_b A hA7 P (by omega) pA
      obtain ⟨o1, o2, o3⟩ := ODy_p J av tr mn sv lt NW hJ hO P P (Nat.le_refl _) p1
      have day : ∀ i, i < J → y i = d → av i d = true ∧ cdt tr y d (tr i) J ≤ mn (tr i) := fun i hi e => by
        cases hb : A.testBit i
        · have := (hy i hi).1 hb; omega
        · obtain ⟨z1, z2, z3⟩ := (hy i hi).2 hb
          rw [e] at z2 z3
          exact ⟨z2, z3⟩
      have ce : ∀ t, ctA J tr P t = cdt tr y d t J := fun t => cnt_cg J 0 fun j _ hj => by rw [p2 j (by omega)]
      have en : eno J tr mn P = true := (eno_iff J tr mn P).mpr fun i hi => by
        by_cases cz : ctA J tr P (tr i) = 0
        · omega
        · obtain ⟨j, -, hj, hh⟩ := cnt_ex J 0 (Nat.pos_of_ne_zero cz)
          rw [Bool.and_eq_true] at hh
          have hj1 := hh.1
          rw [p2 j (by omega)] at hj1
          have h2 := of_decide_eq_true hh.2
          have := (day j (by omega) (of_decide_eq_true hj1)).2
          rw [h2] at this
          rw [ce]
          exact this
      have hO2 := o3 en (fun i hi hb => by
        rw [p2 i hi] at hb
        exact (day i hi (of_decide_eq_true hb)).1)
      have hL := (hI (A - P) (by omega)).2.2 (fun i => if y i = d then 14 else y i) (fun i hi => by
        show ((A - P).testBit i = false → (if y i = d then 14 else y i) = 14) ∧ ((A - P).testBit i = true → (if y i = d then 14 else y i) < d ∧ av i (if y i = d then 14 else y i) = true ∧ cdt tr (fun i => if y i = d then 14 else y i) (if y i = d then 14 else y i) (tr i) J ≤ mn (tr i))
        by_cases c : y i = d
        · rw [if_pos c]
          refine ⟨fun _ => rfl, fun hb => ?_⟩
          rw [sb i (by omega), p2 i hi, decide_eq_true c] at hb
          simp at hb
        · rw [if_neg c]
          rw [sb i (by omega), p2 i hi, decide_eq_false c, Bool.not_false, Bool.and_true]
          refine ⟨(hy i hi).1, fun hb => ?_⟩
          obtain ⟨z1, z2, z3⟩ := (hy i hi).2 hb
          refine ⟨by omega, z2, ?_⟩
          refine Nat.le_trans (Nat.le_of_eq (cnt_cg J 0 fun j _ hj => ?_)) z3
          show (decide ((if y j = d then 14 else y j) = y i) && decide (tr j = tr i)) = (decide (y j = y i) && decide (tr j = tr i))
          by_cases cj : y j = d
          · rw [if_pos cj, decide_eq_false (show ¬ 14 = y i by omega), cj, decide_eq_false (show ¬ d = y i from fun e => c e.symm)]
          · rw [if_neg cj])
      refine Nat.le_trans (s2 P (by omega) pA) (Nat.le_trans (Nat.add_le_add hL hO2) (Nat.le_of_eq ?_))
      unfold pcy sdy
      rw [← nsu_plus]
      refine nsu_cg J fun i hi => ?_
      show (if (if y i = d then 14 else y i) = 14 then 0 else cst sv lt i (if y i = d then 14 else y i)) + (if P.testBit i = true then cst sv lt i d else 0) = (if y i = 14 then 0 else cst sv lt i (y i))
      rw [p2 i hi]
      by_cases c : y i = d
      · rw [if_pos c, if_pos rfl, decide_eq_true c, if_pos rfl, c, if_neg (show ¬ d = 14 by omega), Nat.zero_add]
      · rw [if_neg c, decide_eq_false c, if_neg (show ¬ false = true by decide), Nat.add_zero]
end
