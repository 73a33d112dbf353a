/-! doubles -/
theorem zs_zero : ∀ n, zs (fun _ => (0 : Int32)) n = 0
  | 0 => rfl
  | n + 1 => by
    show zs (fun _ => (0 : Int32)) n + 0 = 0
    rw [zs_zero n]
    rfl
theorem zs_plus (a b : Nat → Int32) : ∀ n, zs (fun i => a i + b i) n = zs a n + zs b n
  | 0 => rfl
  | n + 1 => by
    show zs (fun i => a i + b i) n + (a n + b n) = (zs a n + a n) + (zs b n + b n)
    rw [zs_plus a b n, i_assoc, i_assoc, ← i_assoc (zs b n), i_comm (zs b n) (a n), i_assoc]
theorem zs_swap (g : Nat → Nat → Int32) (m : Nat) : ∀ n, zs (fun i => zs (fun j => g i j) m) n = zs (fun j => zs (fun i => g i j) n) m
  | 0 => (zs_zero m).symm
  | n + 1 => by
    show zs (fun i => zs (fun j => g i j) m) n + zs (fun j => g n j) m = zs (fun j => zs (fun i => g i j) n + g n j) m
    rw [zs_swap g m n, zs_plus]
theorem zs_delta (a : Nat) (x : Int32) : ∀ n, zs (fun i => if i = a then x else 0) n = if a < n then x else 0
  | 0 => by rw [if_neg (Nat.not_lt_zero a)]; rfl
  | n + 1 => by
    show zs (fun i => if i = a then x else 0) n + (if n = a then x else 0) = _
    rw [zs_delta a x n]
    by_cases c : n = a
    · rw [if_pos c, if_neg (by omega), if_pos (by omega)]
      exact Int32.zero_add x
    · rw [if_neg c]
      by_cases c2 : a < n
      · rw [if_pos c2, if_pos (by omega), i_add0]
      · rw [if_neg c2, if_neg (by omega)]; rfl
def rmn (σ : zSt) (f : Nat) : Nat := nT (gI σ 1319 0 f)
def lsE (σ : zSt) (e f : Nat) : Bool := !decide (gI σ 1324 0 f = 0) && decide (gI σ 1323 0 f = nI e)
def pft (σ : zSt) (e h r k f : Nat) : Bool := lsE σ e f && (decide (hm σ f = h) && (decide (rmn σ f = r) && decide (kd σ f = k)))
def ftd (σ : zSt) (e h r k : Nat) : Option Nat := zfirst (pft σ e h r k) 0 (mF σ)
theorem ftd_some {σ : zSt} {e h r k f : Nat} (q : ftd σ e h r k = some f) : f < mF σ ∧ lsE σ e f = true ∧ hm σ f = h ∧ rmn σ f = r ∧ kd σ f = k := by
  obtain ⟨-, q1, q2, -⟩ := zfirst_some _ _ _ q
  unfold pft at q2
  rw [Bool.and_eq_true, Bool.and_eq_true, Bool.and_eq_true] at q2
  exact ⟨by omega, q2.1, of_decide_eq_true q2.2.1, of_decide_eq_true q2.2.2.1, of_decide_eq_true q2.2.2.2⟩
def fth (σ : zSt) (e f : Nat) : Option Nat := ftd σ e (hm σ f) (rmn σ f) (kd σ f)
theorem rm_in {σ : zSt} (h : RI σ) {f : Nat} (hf : f < mF σ) : rmn σ f < 12 ∧ gI σ 1319 0 f = nI (rmn σ f) := by
  have b := (F_RF h hf).2.2.1
  have h1 := b.1
  have h2 := b.2
  refine ⟨by unfold rmn nT; omega, i_ofNat h1⟩
/-- sums over homes, rooms, kinds are sums over the faults that are first -/
theorem zs_first {σ : zSt} (h : RI σ) (e : Nat) (φ : Nat → Int32) : zs (fun i => zs (fun r => zs (fun k => match ftd σ e i r k with | some f => φ f | none => 0) (mK σ)) 12) (mH σ) = zs (fun f => if fth σ e f = some f then φ f else 0) (mF σ) := by
  have one : ∀ i r k, (match ftd σ e i r k with | some f => φ f | none => 0) = zs (fun f => if ftd σ e i r k = some f then φ f else 0) (mF σ) := fun i r k => by
    cases q : ftd σ e i r k with
    | none =>
      show (0 : Int32) = _
      exact ((zs_congr (h := fun _ => 0) (mF σ) fun f _ => if_neg (by simp)).trans (zs_zero _)).symm
    | some g =>
      show φ g = _
      have hg := (ftd_some q).1
      have := zs_delta g (φ g) (mF σ)
      rw [if_pos hg] at this
      rw [← this]
      refine zs_congr _ fun f _ => ?_
      by_cases c : f = g
      · rw [if_pos c, if_pos (by rw [c]), c]
      · rw [if_neg c, if_neg (fun hh => c (Option.some.inj hh).symm)]
  have key : ∀ f, f < mF σ → zs (fun i => zs (fun r => zs (fun k => if ftd σ e i r k = some f then φ f else 0) (mK σ)) 12) (mH σ) = if fth σ e f = some f then φ f else 0 := fun f hf => by
    obtain ⟨k1, k2, k3⟩ := F_hm h hf
    obtain ⟨d1, d2, d3⟩ := F_kd h hf
    obtain ⟨r1, r2⟩ := rm_in h hf
    have e1 : ∀ i r, zs (fun k => if ftd σ e i r k = some f then φ f else 0) (mK σ) = if ftd σ e i r (kd σ f) = some f then φ f else 0 := fun i r => by
      rw [zs_congr (mK σ) (h := fun k => if k = kd σ f then (if ftd σ e i r (kd σ f) = some f then φ f else 0) else 0) fun k _ => ?_]
      · rw [zs_delta, if_pos d2]
      · by_cases c : k = kd σ f
        · rw [if_pos c, c]
        · rw [if_neg c, if_neg fun q => c (ftd_some q).2.2.2.2.symm]
    have e2 : ∀ i, zs (fun r => zs (fun k => if ftd σ e i r k = some f then φ f else 0) (mK σ)) 12 = if ftd σ e i (rmn σ f) (kd σ f) = some f then φ f else 0 := fun i => by
      rw [zs_congr 12 (h := fun r => if r = rmn σ f then (if ftd σ e i (rmn σ f) (kd σ f) = some f then φ f else 0) else 0) fun r _ => ?_]
      · rw [zs_delta, if_pos r1]
      · rw [e1]
        by_cases c : r = rmn σ f
        · rw [if_pos c, c]
        · rw [if_neg c, if_neg fun q => c (ftd_some q).2.2.2.1.symm]
    rw [zs_congr (mH σ) (h := fun i => if i = hm σ f then (if fth σ e f = some f then φ f else 0) else 0) fun i _ => ?_]
    · rw [zs_delta, if_pos k2]
    · rw [e2]
      unfold fth
      by_cases c : i = hm σ f
      · rw [if_pos c, c]
      · rw [if_neg c, if_neg fun q => c (ftd_some q).2.2.1.symm]
  rw [← zs_congr (mF σ) key]
  rw [zs_congr (mH σ) (h := fun i => zs (fun f => zs (fun r => zs (fun k => if ftd σ e i r k = some f then φ f else 0) (mK σ)) 12) (mF σ)) fun i _ => ?_]
  · exact zs_swap _ _ _
  · rw [zs_congr 12 (h := fun r => zs (fun f => zs (fun k => if ftd σ e i r k = some f then φ f else 0) (mK σ)) (mF σ)) fun r _ => ?_]
    · exact zs_swap _ _ _
    · rw [zs_congr (mK σ) (h := fun k => zs (fun f => if ftd σ e i r k = some f then φ f else 0) (mF σ)) fun k _ => one i r k]
      exact zs_swap _ _ _
/-! the class -/
theorem e_isListedBy {σ : zSt} (h : Inv σ) {f : Nat} (hf : f < mF σ) (e : Nat) : f1_isListedBy f (nI e) σ = some (b01 (lsE σ e f)) := by
  obtain ⟨i1, i2, i3, i4, i5, i6, i7, -⟩ := F_I h hf
  unfold f1_isListedBy lsE
  rw [zlt_s, i6, i4]
  by_cases c : gI σ 1324 0 f = 0
  · rw [if_pos c, decide_eq_true c]; rfl
  · rw [if_neg c, decide_eq_false c]
    by_cases c2 : gI σ 1323 0 f = nI e
    · rw [if_pos c2, decide_eq_true c2]; rfl
    · rw [if_neg c2, decide_eq_false c2]; rfl
theorem e_sameThing {σ : zSt} (h : Inv σ) {f g : Nat} (hf : f < mF σ) (hg : g < mF σ) : f1_isSameThing g f σ = some (b01 (decide (hm σ g = hm σ f) && (decide (rmn σ g = rmn σ f) && decide (kd σ g = kd σ f)))) := by
  have hr := RI_of h
  obtain ⟨r1, r2, r3, r4⟩ := F_R h hf
  obtain ⟨q1, q2, q3, q4⟩ := F_R h hg
  obtain ⟨i1, i2, -⟩ := F_I h hf
  obtain ⟨j1, j2, -⟩ := F_I h hg
  obtain ⟨a1, a2⟩ := rm_in hr hf
  obtain ⟨b1, b2⟩ := rm_in hr hg
  obtain ⟨d1, d2, d3⟩ := F_kd hr hf
  obtain ⟨e1, e2, e3⟩ := F_kd hr hg
  unfold f1_isSameThing
  rw [zlt_s, zlt_s, zlt_s, r3, q3, i1, i2, j1, j2, a2, b2, d1, e1]
  simp only [some_eq, nI_inj (show rmn σ g < 2 ^ 31 by omega) (show rmn σ f < 2 ^ 31 by omega), nI_inj (show kd σ g < 2 ^ 31 by omega) (show kd σ f < 2 ^ 31 by omega)]
  by_cases c : hm σ g = hm σ f
  · rw [if_pos c, decide_eq_true c]
    by_cases c2 : rmn σ g = rmn σ f
    · rw [if_pos c2, decide_eq_true c2]
      by_cases c3 : kd σ g = kd σ f
      · rw [if_pos c3, decide_eq_true c3]; rfl
      · rw [if_neg c3, decide_eq_false c3]; rfl
    · rw [if_neg c2, decide_eq_false c2]; rfl
  · rw [if_neg c, decide_eq_false c]; rfl
theorem e_firstListed {σ : zSt} (h : Inv σ) {f : Nat} (hf : f < mF σ) (e : Nat) : f11_firstListed f (nI e) σ = some (fth σ e f) := by
  obtain ⟨n1, n2, n3⟩ := N_f h
  have hr := RI_of h
  unfold f11_firstListed fth ftd
  rw [lfirst (f11_firstListed_L2 f (nI e) σ _) (some none) (pft σ e (hm σ f) (rmn σ f) (kd σ f)) (fun g => zix (nI g) 200 fun m14 => zlt (gR σ 1204 0 m14) fun o15 => some o15) (mF σ) (by omega) (fun n g hg => ?_) (fun n => ?_) (zfuel_pos (by omega))]
  · cases q : zfirst (pft σ e (hm σ f) (rmn σ f) (kd σ f)) 0 (mF σ) with
    | none => rfl
    | some g =>
      have hg : g < mF σ := by have := (zfirst_some _ _ _ q).2.1; omega
      show (zix (nI g) 200 fun m14 => zlt (gR σ 1204 0 m14) fun o15 => some o15) = _
      rw [zix_s (F_lt hr hg) (by decide), zlt_s, (F_R h hg).1]
  · have hl := F_lt hr hg
    obtain ⟨r1, r2, r3, r4⟩ := F_R h hg
    rw [f11_firstListed_L2, n1, if_neg (zn_nle hg (by omega)), zix_s hl (by decide), zlt_s, r1, zoc_s, e_isListedBy h hg, zc1_s, zlt_s, zlt_s]
    simp only [zix_s hl (show 200 < 2 ^ 31 by decide), zlt_s, r1, zoc_s, e_sameThing h hf hg, zc1_s, b01_0]
    unfold pft
    cases lsE σ e g
    · rfl
    · cases (decide (hm σ g = hm σ f) && (decide (rmn σ g = rmn σ f) && decide (kd σ g = kd σ f))) <;> rfl
  · rw [f11_firstListed_L2, n1, if_pos (zn_rle _)]
def hsl (σ : zSt) (e i : Nat) : Bool := zan (fun f => lsE σ e f && decide (hm σ f = i)) (mF σ)
theorem e_hasListed {σ : zSt} (h : Inv σ) (i e : Nat) : f11_hasListed i (nI e) σ = some (b01 (hsl σ e i)) := by
  obtain ⟨n1, n2, n3⟩ := N_f h
  have hr := RI_of h
  unfold f11_hasListed hsl
  rw [zan_first, lfirst (f11_hasListed_L2 i (nI e) σ) (some 0) (fun f => lsE σ e f && decide (hm σ f = i)) (fun _ => some 1) (mF σ) (by omega) (fun n g hg => ?_) (fun n => ?_) (zfuel_pos (by omega))]
  · cases zfirst (fun f => lsE σ e f && decide (hm σ f = i)) 0 (mF σ) <;> rfl
  · have hl := F_lt hr hg
    obtain ⟨r1, r2, r3, r4⟩ := F_R h hg
    rw [f11_hasListed_L2, n1, if_neg (zn_nle hg (by omega)), zix_s hl (by decide), zlt_s, r1, zoc_s, r3, zlt_s, zlt_s, zlt_s]
    simp only [zix_s hl (show 200 < 2 ^ 31 by decide), zlt_s, r1, zoc_s, e_isListedBy h hg, zc1_s, b01_0, some_eq]
    by_cases c : hm σ g = i
    · rw [if_pos c, decide_eq_true c]
      cases lsE σ e g <;> rfl
    · rw [if_neg c, decide_eq_false c]
      cases lsE σ e g <;> rfl
  · rw [f11_hasListed_L2, n1, if_pos (zn_rle _)]
theorem e_areDoubles {σ : zSt} (h : Inv σ) (i a b : Nat) : f11_areDoubles i (nI a) (nI b) σ = some (b01 (hsl σ a i && hsl σ b i)) := by
  unfold f11_areDoubles
  rw [e_hasListed h, zc1_s, zlt_s, e_hasListed h, zc1_s]
  simp only [b01_0]
  cases hsl σ a i <;> cases hsl σ b i <;> rfl
/-- one that is the first of its eye, room and kind -/
def isf (σ : zSt) (e f : Nat) : Bool := decide (fth σ e f = some f)
theorem isf_ls {σ : zSt} {e f : Nat} (q : fth σ e f = some f) : lsE σ e f = true := (ftd_some q).2.1
def tol (σ : zSt) (a b : Nat) (w : Bool) (f : Nat) : Int32 := if fth σ a f = some f then (if hsl σ a (hm σ f) && hsl σ b (hm σ f) then (if (fth σ b f).isSome = w then 1 else 0) else 0) else 0
theorem e_toldByOne {σ : zSt} (h : Inv σ) (a b : Nat) (w : Bool) : f11_toldByOne (nI a) (nI b) (b01 w) σ = some (zs (tol σ a b w) (mF σ)) := by
  obtain ⟨n1, n2, n3⟩ := N_f h
  have hr := RI_of h
  unfold f11_toldByOne
  refine lsumK (f11_toldByOne_L6 (nI a) (nI b) (b01 w) σ) some _ _ (by omega) (fun n s f hf => ?_) (fun n s => ?_) (zfuel_pos (by omega))
  · have hl := F_lt hr hf
    obtain ⟨r1, r2, r3, r4⟩ := F_R h hf
    rw [f11_toldByOne_L6, n1, if_neg (zn_nle hf (by omega)), zix_s hl (by decide), zlt_s, r1, zoc_s, e_isListedBy h hf, zc1_s]
    simp only [zlt_s, r3, zoc_s, e_areDoubles h, zc1_s, e_firstListed h hf, b01_0, some_eq]
    unfold tol
    by_cases c : fth σ a f = some f
    · have hL := isf_ls c
      rw [if_pos c, hL, if_neg (by decide), if_pos c, if_neg (by decide)]
      cases hsl σ a (hm σ f) && hsl σ b (hm σ f)
      · rw [if_pos rfl, if_neg (by decide), i_add0]
      · rw [if_neg (by decide), if_pos rfl]
        cases q : fth σ b f with
        | none =>
          rw [zoc_n]
          cases w
          · rw [if_pos (show (0 : Int32) = b01 false from rfl), if_pos (show (none : Option Nat).isSome = false from rfl)]
          · rw [if_neg (show ¬ (0 : Int32) = b01 true by decide), if_neg (by simp), i_add0]
        | some g =>
          rw [zoc_s]
          cases w
          · rw [if_neg (show ¬ (1 : Int32) = b01 false by decide), if_neg (by simp), i_add0]
          · rw [if_pos (show (1 : Int32) = b01 true from rfl), if_pos (show (some g).isSome = true from rfl)]
    · rw [if_neg c, if_neg c, ite_self, if_pos trivial, i_add0]
  · rw [f11_toldByOne_L6, n1, if_pos (zn_rle _)]
theorem e_doubleHomes {σ : zSt} (h : Inv σ) (a b : Nat) : f11_doubleHomes (nI a) (nI b) σ = some (zs (fun i => if b01 (hsl σ a i && hsl σ b i) = 0 then 0 else 1) (mH σ)) := by
  obtain ⟨n1, n2, n3⟩ := N_h h
  unfold f11_doubleHomes
  refine lsumK (f11_doubleHomes_L5 (nI a) (nI b) σ) some _ _ (by omega) (fun n s i hi => ?_) (fun n s => ?_) (zfuel_pos (by omega))
  · have a1 := (A_H h (k := i) hi).1
    rw [f11_doubleHomes_L5, n1, if_neg (zn_nle hi (by omega)), zix_s (show i < 40 by omega) (by decide), zlt_s, a1, zoc_s, e_areDoubles h, zc1_s, zlt_s, zlt_s]
  · rw [f11_doubleHomes_L5, n1, if_pos (zn_rle _)]
def hrs (σ : zSt) (a b f : Nat) : Int32 := if fth σ a f = some f then (match fth σ b f with | none => 0 | some g => gI σ 1321 0 f - gI σ 1321 0 g) else 0
theorem e_harsh {σ : zSt} (h : Inv σ) (a b : Nat) : f11_harsh (nI a) (nI b) σ = some (zs (hrs σ a b) (mF σ)) := by
  obtain ⟨n1, n2, n3⟩ := N_f h
  have hr := RI_of h
  unfold f11_harsh
  refine lsumK (f11_harsh_L5 (nI a) (nI b) σ) some _ _ (by omega) (fun n s f hf => ?_) (fun n s => ?_) (zfuel_pos (by omega))
  · have hl := F_lt hr hf
    obtain ⟨r1, r2, r3, r4⟩ := F_R h hf
    rw [f11_harsh_L5, n1, if_neg (zn_nle hf (by omega)), zix_s hl (by decide), zlt_s, r1, zoc_s, e_isListedBy h hf, zc1_s]
    simp only [zlt_s, zc1_s, e_firstListed h hf, b01_0]
    unfold hrs
    by_cases c : fth σ a f = some f
    · have hL := isf_ls c
      rw [if_pos c, hL, if_neg (by decide), if_pos c, if_neg (by decide)]
      cases q : fth σ b f with
      | none =>
        rw [zoc_n]
      | some g =>
        have hg := (ftd_some q).1
        rw [zoc_s, (F_I h hf).2.2.1, (F_I h hg).2.2.1]
    · rw [if_neg c, if_neg c, ite_self, if_pos trivial, zoc_n]
  · rw [f11_harsh_L5, n1, if_pos (zn_rle _)]
