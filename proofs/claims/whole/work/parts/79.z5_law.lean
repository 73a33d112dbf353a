/-! the law, row by row -/
theorem zixp {L k : Nat} {i : Int32} {j : Nat} (h : i = nI (k + j)) (hk : k + 5 ≤ L) (hj : j ≤ 4) (hL : L ≤ 2560) {β : Type} (f : Nat → Option β) : zix i L f = f (k + j) := by
  rw [h]
  exact zix_s (by omega) (by omega) f
theorem zixq {k : Nat} {j : Nat} (h : k + j < 2 ^ 31) : nI k + nI j = nI (k + j) := nI_add' k j h
def RowOk (xs : Nat → Int32) (L k : Nat) (σ : zSt) (f : (zSt → Option Unit) → Option Unit) : Prop := ∀ K, ∃ σ', Inv σ' ∧ f K = K σ'
theorem l_days {σ : zSt} (h : Inv σ) (xs : Nat → Int32) {L k : Nat} (hk : k + 5 ≤ L) (hL : L ≤ 2560) (K : zSt → Option Unit) : ∃ σ', Inv σ' ∧ flaw_224 xs L (nI k) σ K = K σ' := by
  obtain ⟨r, s1, s2, h1, h2, h3, h4⟩ := t_days h (xs (k + 1))
  refine ⟨s2, h4, ?_⟩
  unfold flaw_224
  simp only [zixp (i := nI k + 1) (nI_add' k 1 (by omega)) hk (by decide) hL, zokc_s h.1, h1, zc2_s, zokc_s h2, h3, if_true]
theorem l_home {σ : zSt} (h : Inv σ) (xs : Nat → Int32) {L k : Nat} (hk : k + 5 ≤ L) (hL : L ≤ 2560) (K : zSt → Option Unit) : ∃ σ', Inv σ' ∧ flaw_247 xs L (nI k) σ K = K σ' := by
  obtain ⟨r, s1, s2, h1, h2, h3, h4⟩ := t_home h (xs (k + 1)) (xs (k + 2)) (xs (k + 3))
  refine ⟨s2, h4, ?_⟩
  unfold flaw_247
  simp only [zixp (i := nI k + 1) (nI_add' k 1 (by omega)) hk (by decide) hL, zixp (i := nI k + 2) (nI_add' k 2 (by omega)) hk (by decide) hL, zixp (i := nI k + 3) (nI_add' k 3 (by omega)) hk (by decide) hL, zokc_s h.1, h1, zc2_s, zokc_s h2, h3, if_true]
theorem l_key {σ : zSt} (h : Inv σ) (xs : Nat → Int32) {L k : Nat} (hk : k + 5 ≤ L) (hL : L ≤ 2560) (K : zSt → Option Unit) : ∃ σ', Inv σ' ∧ flaw_290 xs L (nI k) σ K = K σ' := by
  obtain ⟨r, s1, s2, h1, h2, h3, h4⟩ := t_key h (xs (k + 1)) (xs (k + 2))
  refine ⟨s2, h4, ?_⟩
  unfold flaw_290
  simp only [zixp (i := nI k + 1) (nI_add' k 1 (by omega)) hk (by decide) hL, zixp (i := nI k + 2) (nI_add' k 2 (by omega)) hk (by decide) hL, zokc_s h.1, h1, zc2_s, zokc_s h2, h3, if_true]
theorem l_sell {σ : zSt} (h : Inv σ) (xs : Nat → Int32) {L k : Nat} (hk : k + 5 ≤ L) (hL : L ≤ 2560) (K : zSt → Option Unit) : ∃ σ', Inv σ' ∧ flaw_323 xs L (nI k) σ K = K σ' := by
  obtain ⟨r, s1, s2, h1, h2, h3, h4⟩ := t_sell h (xs (k + 1))
  refine ⟨s2, h4, ?_⟩
  unfold flaw_323
  simp only [zixp (i := nI k + 1) (nI_add' k 1 (by omega)) hk (by decide) hL, zokc_s h.1, h1, zc2_s, zokc_s h2, h3, if_true]
theorem l_in {σ : zSt} (h : Inv σ) (xs : Nat → Int32) {L k : Nat} (hk : k + 5 ≤ L) (hL : L ≤ 2560) (K : zSt → Option Unit) : ∃ σ', Inv σ' ∧ flaw_346 xs L (nI k) σ K = K σ' := by
  obtain ⟨r, s1, s2, h1, h2, h3, h4⟩ := t_in h (xs (k + 1)) (xs (k + 2))
  refine ⟨s2, h4, ?_⟩
  unfold flaw_346
  simp only [zixp (i := nI k + 1) (nI_add' k 1 (by omega)) hk (by decide) hL, zixp (i := nI k + 2) (nI_add' k 2 (by omega)) hk (by decide) hL, zokc_s h.1, h1, zc2_s, zokc_s h2, h3, if_true]
theorem l_crew {σ : zSt} (h : Inv σ) (xs : Nat → Int32) {L k : Nat} (hk : k + 5 ≤ L) (hL : L ≤ 2560) (K : zSt → Option Unit) : ∃ σ', Inv σ' ∧ flaw_379 xs L (nI k) σ K = K σ' := by
  obtain ⟨r, s1, s2, h1, h2, h3, h4⟩ := t_crew h (xs (k + 1)) (xs (k + 2)) (xs (k + 3))
  refine ⟨s2, h4, ?_⟩
  unfold flaw_379
  simp only [zixp (i := nI k + 1) (nI_add' k 1 (by omega)) hk (by decide) hL, zixp (i := nI k + 2) (nI_add' k 2 (by omega)) hk (by decide) hL, zixp (i := nI k + 3) (nI_add' k 3 (by omega)) hk (by decide) hL, zokc_s h.1, h1, zc2_s, zokc_s h2, h3, if_true]
theorem l_ofHome {σ : zSt} (h : Inv σ) (xs : Nat → Int32) {L k : Nat} (hk : k + 5 ≤ L) (hL : L ≤ 2560) (K : zSt → Option Unit) : ∃ σ', Inv σ' ∧ flaw_422 xs L (nI k) σ K = K σ' := by
  obtain ⟨r, h1, h2⟩ := t_ofHome h (xs (k + 1)) (xs (k + 2))
  refine ⟨σ, h, ?_⟩
  unfold flaw_422
  simp only [zixp (i := nI k + 1) (nI_add' k 1 (by omega)) hk (by decide) hL, zixp (i := nI k + 2) (nI_add' k 2 (by omega)) hk (by decide) hL, zokc_s h.1, h1, zc1_s, h2, if_true]
theorem l_kind {σ : zSt} (h : Inv σ) (xs : Nat → Int32) {L k : Nat} (hk : k + 5 ≤ L) (hL : L ≤ 2560) (K : zSt → Option Unit) : ∃ σ', Inv σ' ∧ flaw_455 xs L (nI k) σ K = K σ' := by
  obtain ⟨r, s1, s2, h1, h2, h3, h4⟩ := t_kind h (xs (k + 1)) (xs (k + 2)) (xs (k + 3))
  refine ⟨s2, h4, ?_⟩
  unfold flaw_455
  simp only [zixp (i := nI k + 1) (nI_add' k 1 (by omega)) hk (by decide) hL, zixp (i := nI k + 2) (nI_add' k 2 (by omega)) hk (by decide) hL, zixp (i := nI k + 3) (nI_add' k 3 (by omega)) hk (by decide) hL, zokc_s h.1, h1, zc2_s, zokc_s h2, h3, if_true]
theorem l_fault {σ : zSt} (h : Inv σ) (xs : Nat → Int32) {L k : Nat} (hk : k + 5 ≤ L) (hL : L ≤ 2560) (K : zSt → Option Unit) : ∃ σ', Inv σ' ∧ flaw_498 xs L (nI k) σ K = K σ' := by
  obtain ⟨r, s1, s2, h1, h2, h3, h4⟩ := t_fault h (xs (k + 1)) (xs (k + 2)) (xs (k + 3)) (xs (k + 4))
  refine ⟨s2, h4, ?_⟩
  unfold flaw_498
  simp only [zixp (i := nI k + 1) (nI_add' k 1 (by omega)) hk (by decide) hL, zixp (i := nI k + 2) (nI_add' k 2 (by omega)) hk (by decide) hL, zixp (i := nI k + 3) (nI_add' k 3 (by omega)) hk (by decide) hL, zixp (i := nI k + 4) (nI_add' k 4 (by omega)) hk (by decide) hL, zokc_s h.1, h1, zc2_s, zokc_s h2, h3, if_true]
theorem l_promise {σ : zSt} (h : Inv σ) (xs : Nat → Int32) {L k : Nat} (hk : k + 5 ≤ L) (hL : L ≤ 2560) (K : zSt → Option Unit) : ∃ σ', Inv σ' ∧ flaw_551 xs L (nI k) σ K = K σ' := by
  obtain ⟨r, s1, s2, h1, h2, h3, h4⟩ := t_promise h (xs (k + 1)) (xs (k + 2))
  refine ⟨s2, h4, ?_⟩
  unfold flaw_551
  simp only [zixp (i := nI k + 1) (nI_add' k 1 (by omega)) hk (by decide) hL, zixp (i := nI k + 2) (nI_add' k 2 (by omega)) hk (by decide) hL, zokc_s h.1, h1, zc2_s, zokc_s h2, h3, if_true]
theorem l_said {σ : zSt} (h : Inv σ) (xs : Nat → Int32) {L k : Nat} (hk : k + 5 ≤ L) (hL : L ≤ 2560) (K : zSt → Option Unit) : ∃ σ', Inv σ' ∧ flaw_584 xs L (nI k) σ K = K σ' := by
  obtain ⟨r, s1, s2, h1, h2, h3, h4⟩ := t_said h (xs (k + 1)) (xs (k + 2))
  refine ⟨s2, h4, ?_⟩
  unfold flaw_584
  simp only [zixp (i := nI k + 1) (nI_add' k 1 (by omega)) hk (by decide) hL, zixp (i := nI k + 2) (nI_add' k 2 (by omega)) hk (by decide) hL, zokc_s h.1, h1, zc2_s, zokc_s h2, h3, if_true]
theorem l_look {σ : zSt} (h : Inv σ) (xs : Nat → Int32) {L k : Nat} (hk : k + 5 ≤ L) (hL : L ≤ 2560) (K : zSt → Option Unit) : ∃ σ', Inv σ' ∧ flaw_617 xs L (nI k) σ K = K σ' := by
  obtain ⟨r, s1, s2, h1, h2, h3, h4⟩ := t_look h (xs (k + 1)) (xs (k + 2))
  refine ⟨s2, h4, ?_⟩
  unfold flaw_617
  simp only [zixp (i := nI k + 1) (nI_add' k 1 (by omega)) hk (by decide) hL, zixp (i := nI k + 2) (nI_add' k 2 (by omega)) hk (by decide) hL, zokc_s h.1, h1, zc2_s, zokc_s h2, h3, if_true]
theorem l_voids {σ : zSt} (h : Inv σ) (xs : Nat → Int32) {L k : Nat} (hk : k + 5 ≤ L) (hL : L ≤ 2560) (K : zSt → Option Unit) : ∃ σ', Inv σ' ∧ flaw_650 xs L (nI k) σ K = K σ' := by
  obtain ⟨r, s1, s2, h1, h2, h3, h4⟩ := t_voids h (xs (k + 1))
  refine ⟨s2, h4, ?_⟩
  unfold flaw_650
  simp only [zixp (i := nI k + 1) (nI_add' k 1 (by omega)) hk (by decide) hL, zokc_s h.1, h1, zc2_s, zokc_s h2, h3, if_true]
theorem l_state {σ : zSt} (h : Inv σ) (xs : Nat → Int32) {L k : Nat} (hk : k + 5 ≤ L) (hL : L ≤ 2560) (K : zSt → Option Unit) : ∃ σ', Inv σ' ∧ flaw_673 xs L (nI k) σ K = K σ' := by
  obtain ⟨r, h1, h2⟩ := t_state h (xs (k + 1)) (xs (k + 2))
  refine ⟨σ, h, ?_⟩
  unfold flaw_673
  simp only [zixp (i := nI k + 1) (nI_add' k 1 (by omega)) hk (by decide) hL, zixp (i := nI k + 2) (nI_add' k 2 (by omega)) hk (by decide) hL, zokc_s h.1, h1, zc1_s, h2, if_true]
theorem l_ofFault {σ : zSt} (h : Inv σ) (xs : Nat → Int32) {L k : Nat} (hk : k + 5 ≤ L) (hL : L ≤ 2560) (K : zSt → Option Unit) : ∃ σ', Inv σ' ∧ flaw_706 xs L (nI k) σ K = K σ' := by
  obtain ⟨r, h1, h2⟩ := t_ofFault h (xs (k + 1)) (xs (k + 2))
  refine ⟨σ, h, ?_⟩
  unfold flaw_706
  simp only [zixp (i := nI k + 1) (nI_add' k 1 (by omega)) hk (by decide) hL, zixp (i := nI k + 2) (nI_add' k 2 (by omega)) hk (by decide) hL, zokc_s h.1, h1, zc1_s, h2, if_true]
theorem l_source {σ : zSt} (h : Inv σ) (xs : Nat → Int32) {L k : Nat} (hk : k + 5 ≤ L) (hL : L ≤ 2560) (K : zSt → Option Unit) : ∃ σ', Inv σ' ∧ flaw_739 xs L (nI k) σ K = K σ' := by
  obtain ⟨r, h1, h2⟩ := t_source h (xs (k + 1)) (xs (k + 2))
  refine ⟨σ, h, ?_⟩
  unfold flaw_739
  simp only [zixp (i := nI k + 1) (nI_add' k 1 (by omega)) hk (by decide) hL, zixp (i := nI k + 2) (nI_add' k 2 (by omega)) hk (by decide) hL, zokc_s h.1, h1, zc1_s, h2, if_true]
theorem l_damage {σ : zSt} (h : Inv σ) (xs : Nat → Int32) {L k : Nat} (hk : k + 5 ≤ L) (hL : L ≤ 2560) (K : zSt → Option Unit) : ∃ σ', Inv σ' ∧ flaw_772 xs L (nI k) σ K = K σ' := by
  obtain ⟨r, s2, h1, h2, h3⟩ := t_damage h (xs (k + 1))
  refine ⟨s2, h3, ?_⟩
  unfold flaw_772
  simp only [zixp (i := nI k + 1) (nI_add' k 1 (by omega)) hk (by decide) hL, zokc_s h.1, h1, zc1_s, zc2_s, h2, if_true]
theorem l_rule {σ : zSt} (h : Inv σ) (xs : Nat → Int32) {L k : Nat} (hk : k + 5 ≤ L) (hL : L ≤ 2560) (K : zSt → Option Unit) : ∃ σ', Inv σ' ∧ flaw_795 xs L (nI k) σ K = K σ' := by
  obtain ⟨r, s1, s2, h1, h2, h3, h4⟩ := t_rule h (xs (k + 1)) (xs (k + 2))
  refine ⟨s2, h4, ?_⟩
  unfold flaw_795
  simp only [zixp (i := nI k + 1) (nI_add' k 1 (by omega)) hk (by decide) hL, zixp (i := nI k + 2) (nI_add' k 2 (by omega)) hk (by decide) hL, zokc_s h.1, h1, zc2_s, zokc_s h2, h3, if_true]
theorem l_joined {σ : zSt} (h : Inv σ) (xs : Nat → Int32) {L k : Nat} (hk : k + 5 ≤ L) (hL : L ≤ 2560) (K : zSt → Option Unit) : ∃ σ', Inv σ' ∧ flaw_828 xs L (nI k) σ K = K σ' := by
  obtain ⟨r, s1, s2, h1, h2, h3, h4⟩ := t_joined h (xs (k + 1)) (xs (k + 2)) (xs (k + 3)) (xs (k + 4))
  refine ⟨s2, h4, ?_⟩
  unfold flaw_828
  simp only [zixp (i := nI k + 1) (nI_add' k 1 (by omega)) hk (by decide) hL, zixp (i := nI k + 2) (nI_add' k 2 (by omega)) hk (by decide) hL, zixp (i := nI k + 3) (nI_add' k 3 (by omega)) hk (by decide) hL, zixp (i := nI k + 4) (nI_add' k 4 (by omega)) hk (by decide) hL, zokc_s h.1, h1, zc2_s, zokc_s h2, h3, if_true]
theorem l_chance {σ : zSt} (h : Inv σ) (xs : Nat → Int32) {L k : Nat} (hk : k + 5 ≤ L) (hL : L ≤ 2560) (K : zSt → Option Unit) : ∃ σ', Inv σ' ∧ flaw_881 xs L (nI k) σ K = K σ' := by
  obtain ⟨r, s1, s2, h1, h2, h3, h4⟩ := t_chance h (xs (k + 1)) (xs (k + 2)) (xs (k + 3))
  refine ⟨s2, h4, ?_⟩
  unfold flaw_881
  simp only [zixp (i := nI k + 1) (nI_add' k 1 (by omega)) hk (by decide) hL, zixp (i := nI k + 2) (nI_add' k 2 (by omega)) hk (by decide) hL, zixp (i := nI k + 3) (nI_add' k 3 (by omega)) hk (by decide) hL, zokc_s h.1, h1, zc2_s, zokc_s h2, h3, if_true]
theorem l_cause {σ : zSt} (h : Inv σ) (xs : Nat → Int32) {L k : Nat} (hk : k + 5 ≤ L) (hL : L ≤ 2560) (K : zSt → Option Unit) : ∃ σ', Inv σ' ∧ flaw_924 xs L (nI k) σ K = K σ' := by
  obtain ⟨r, s1, s2, h1, h2, h3, h4⟩ := t_cause h (xs (k + 1)) (xs (k + 2)) (xs (k + 3))
  refine ⟨s2, h4, ?_⟩
  unfold flaw_924
  simp only [zixp (i := nI k + 1) (nI_add' k 1 (by omega)) hk (by decide) hL, zixp (i := nI k + 2) (nI_add' k 2 (by omega)) hk (by decide) hL, zixp (i := nI k + 3) (nI_add' k 3 (by omega)) hk (by decide) hL, zokc_s h.1, h1, zc2_s, zokc_s h2, h3, if_true]
theorem l_rivals {σ : zSt} (h : Inv σ) (xs : Nat → Int32) {L k : Nat} (hk : k + 5 ≤ L) (hL : L ≤ 2560) (K : zSt → Option Unit) : ∃ σ', Inv σ' ∧ flaw_967 xs L (nI k) σ K = K σ' := by
  obtain ⟨r, s1, s2, h1, h2, h3, h4⟩ := t_rivals h (xs (k + 1)) (xs (k + 2)) (xs (k + 3))
  refine ⟨s2, h4, ?_⟩
  unfold flaw_967
  simp only [zixp (i := nI k + 1) (nI_add' k 1 (by omega)) hk (by decide) hL, zixp (i := nI k + 2) (nI_add' k 2 (by omega)) hk (by decide) hL, zixp (i := nI k + 3) (nI_add' k 3 (by omega)) hk (by decide) hL, zokc_s h.1, h1, zc2_s, zokc_s h2, h3, if_true]
theorem l_read {σ : zSt} (h : Inv σ) (xs : Nat → Int32) {L k : Nat} (hk : k + 5 ≤ L) (hL : L ≤ 2560) (K : zSt → Option Unit) : ∃ σ', Inv σ' ∧ flaw_1010 xs L (nI k) σ K = K σ' := by
  obtain ⟨r, s1, s2, h1, h2, h3, h4⟩ := t_read h (xs (k + 1)) (xs (k + 2))
  refine ⟨s2, h4, ?_⟩
  unfold flaw_1010
  simp only [zixp (i := nI k + 1) (nI_add' k 1 (by omega)) hk (by decide) hL, zixp (i := nI k + 2) (nI_add' k 2 (by omega)) hk (by decide) hL, zokc_s h.1, h1, zc2_s, zokc_s h2, h3, if_true]
theorem l_gauge {σ : zSt} (h : Inv σ) (xs : Nat → Int32) {L k : Nat} (hk : k + 5 ≤ L) (hL : L ≤ 2560) (K : zSt → Option Unit) : ∃ σ', Inv σ' ∧ flaw_1043 xs L (nI k) σ K = K σ' := by
  obtain ⟨r, h1, h2⟩ := t_gauge h (xs (k + 1)) (xs (k + 2))
  refine ⟨σ, h, ?_⟩
  unfold flaw_1043
  simp only [zixp (i := nI k + 1) (nI_add' k 1 (by omega)) hk (by decide) hL, zixp (i := nI k + 2) (nI_add' k 2 (by omega)) hk (by decide) hL, zokc_s h.1, h1, zc1_s, h2, if_true]
theorem l_pace {σ : zSt} (h : Inv σ) (xs : Nat → Int32) {L k : Nat} (hk : k + 5 ≤ L) (hL : L ≤ 2560) (K : zSt → Option Unit) : ∃ σ', Inv σ' ∧ flaw_1076 xs L (nI k) σ K = K σ' := by
  obtain ⟨r, h1, h2⟩ := t_pace h (xs (k + 1)) (xs (k + 2))
  refine ⟨σ, h, ?_⟩
  unfold flaw_1076
  simp only [zixp (i := nI k + 1) (nI_add' k 1 (by omega)) hk (by decide) hL, zixp (i := nI k + 2) (nI_add' k 2 (by omega)) hk (by decide) hL, zokc_s h.1, h1, zc1_s, h2, if_true]
theorem l_sinking {σ : zSt} (h : Inv σ) (xs : Nat → Int32) {L k : Nat} (hk : k + 5 ≤ L) (hL : L ≤ 2560) (K : zSt → Option Unit) : ∃ σ', Inv σ' ∧ flaw_1109 xs L (nI k) σ K = K σ' := by
  obtain ⟨r, h1, h2⟩ := t_sinking h (xs (k + 1)) (xs (k + 2))
  refine ⟨σ, h, ?_⟩
  unfold flaw_1109
  simp only [zixp (i := nI k + 1) (nI_add' k 1 (by omega)) hk (by decide) hL, zixp (i := nI k + 2) (nI_add' k 2 (by omega)) hk (by decide) hL, zokc_s h.1, h1, zc1_s, h2, if_true]
theorem l_men {σ : zSt} (h : Inv σ) (xs : Nat → Int32) {L k : Nat} (hk : k + 5 ≤ L) (hL : L ≤ 2560) (K : zSt → Option Unit) : ∃ σ', Inv σ' ∧ flaw_1142 xs L (nI k) σ K = K σ' := by
  obtain ⟨r, s1, s2, h1, h2, h3, h4⟩ := t_men h (xs (k + 1)) (xs (k + 2))
  refine ⟨s2, h4, ?_⟩
  unfold flaw_1142
  simp only [zixp (i := nI k + 1) (nI_add' k 1 (by omega)) hk (by decide) hL, zixp (i := nI k + 2) (nI_add' k 2 (by omega)) hk (by decide) hL, zokc_s h.1, h1, zc2_s, zokc_s h2, h3, if_true]
theorem l_job {σ : zSt} (h : Inv σ) (xs : Nat → Int32) {L k : Nat} (hk : k + 5 ≤ L) (hL : L ≤ 2560) (K : zSt → Option Unit) : ∃ σ', Inv σ' ∧ flaw_1175 xs L (nI k) σ K = K σ' := by
  obtain ⟨r, s1, s2, h1, h2, h3, h4⟩ := t_job h (xs (k + 1))
  refine ⟨s2, h4, ?_⟩
  unfold flaw_1175
  simp only [zixp (i := nI k + 1) (nI_add' k 1 (by omega)) hk (by decide) hL, zokc_s h.1, h1, zc2_s, zokc_s h2, h3, if_true]
theorem l_plan {σ : zSt} (h : Inv σ) (xs : Nat → Int32) {L k : Nat} (hk : k + 5 ≤ L) (hL : L ≤ 2560) (K : zSt → Option Unit) : ∃ σ', Inv σ' ∧ flaw_1198 xs L (nI k) σ K = K σ' := by
  obtain ⟨r, s1, s2, h1, h2, h3, h4⟩ := t_plan h (xs (k + 1))
  refine ⟨s2, h4, ?_⟩
  unfold flaw_1198
  simp only [zixp (i := nI k + 1) (nI_add' k 1 (by omega)) hk (by decide) hL, zokc_s h.1, h1, zc2_s, zokc_s h2, h3, if_true]
theorem l_planned {σ : zSt} (h : Inv σ) (xs : Nat → Int32) {L k : Nat} (hk : k + 5 ≤ L) (hL : L ≤ 2560) (K : zSt → Option Unit) : ∃ σ', Inv σ' ∧ flaw_1221 xs L (nI k) σ K = K σ' := by
  obtain ⟨r, h1, h2⟩ := t_planned h (xs (k + 1))
  refine ⟨σ, h, ?_⟩
  unfold flaw_1221
  simp only [zixp (i := nI k + 1) (nI_add' k 1 (by omega)) hk (by decide) hL, zokc_s h.1, h1, zc1_s, h2, if_true]
theorem l_feed {σ : zSt} (h : Inv σ) (xs : Nat → Int32) {L k : Nat} (hk : k + 5 ≤ L) (hL : L ≤ 2560) (K : zSt → Option Unit) : ∃ σ', Inv σ' ∧ flaw_1244 xs L (nI k) σ K = K σ' := by
  obtain ⟨r, s1, s2, h1, h2, h3, h4⟩ := t_feed h (xs (k + 1)) (xs (k + 2))
  refine ⟨s2, h4, ?_⟩
  unfold flaw_1244
  simp only [zixp (i := nI k + 1) (nI_add' k 1 (by omega)) hk (by decide) hL, zixp (i := nI k + 2) (nI_add' k 2 (by omega)) hk (by decide) hL, zokc_s h.1, h1, zc2_s, zokc_s h2, h3, if_true]
theorem l_text {σ : zSt} (h : Inv σ) (xs : Nat → Int32) {L k : Nat} (hk : k + 5 ≤ L) (hL : L ≤ 2560) (K : zSt → Option Unit) : ∃ σ', Inv σ' ∧ flaw_1277 xs L (nI k) σ K = K σ' := by
  obtain ⟨r, s1, s2, h1, h2, h3, h4⟩ := t_text h (xs (k + 1)) (xs (k + 2))
  refine ⟨s2, h4, ?_⟩
  unfold flaw_1277
  simp only [zixp (i := nI k + 1) (nI_add' k 1 (by omega)) hk (by decide) hL, zixp (i := nI k + 2) (nI_add' k 2 (by omega)) hk (by decide) hL, zokc_s h.1, h1, zc2_s, zokc_s h2, h3, if_true]
theorem l_inForce {σ : zSt} (h : Inv σ) (xs : Nat → Int32) {L k : Nat} (hk : k + 5 ≤ L) (hL : L ≤ 2560) (K : zSt → Option Unit) : ∃ σ', Inv σ' ∧ flaw_1310 xs L (nI k) σ K = K σ' := by
  obtain ⟨r, h1, h2⟩ := t_inForce h (xs (k + 1)) (xs (k + 2)) (xs (k + 3))
  refine ⟨σ, h, ?_⟩
  unfold flaw_1310
  simp only [zixp (i := nI k + 1) (nI_add' k 1 (by omega)) hk (by decide) hL, zixp (i := nI k + 2) (nI_add' k 2 (by omega)) hk (by decide) hL, zixp (i := nI k + 3) (nI_add' k 3 (by omega)) hk (by decide) hL, zokc_s h.1, h1, zc1_s, h2, if_true]
theorem l_judge {σ : zSt} (h : Inv σ) (xs : Nat → Int32) {L k : Nat} (hk : k + 5 ≤ L) (hL : L ≤ 2560) (K : zSt → Option Unit) : ∃ σ', Inv σ' ∧ flaw_1353 xs L (nI k) σ K = K σ' := by
  obtain ⟨r, s1, s2, h1, h2, h3, h4⟩ := t_judge h (xs (k + 1)) (xs (k + 2))
  refine ⟨s2, h4, ?_⟩
  unfold flaw_1353
  simp only [zixp (i := nI k + 1) (nI_add' k 1 (by omega)) hk (by decide) hL, zixp (i := nI k + 2) (nI_add' k 2 (by omega)) hk (by decide) hL, zokc_s h.1, h1, zc2_s, zokc_s h2, h3, if_true]
theorem l_free {σ : zSt} (h : Inv σ) (xs : Nat → Int32) {L k : Nat} (hk : k + 5 ≤ L) (hL : L ≤ 2560) (K : zSt → Option Unit) : ∃ σ', Inv σ' ∧ flaw_1386 xs L (nI k) σ K = K σ' := by
  obtain ⟨r, s1, s2, h1, h2, h3, h4⟩ := t_free h (xs (k + 1))
  refine ⟨s2, h4, ?_⟩
  unfold flaw_1386
  simp only [zixp (i := nI k + 1) (nI_add' k 1 (by omega)) hk (by decide) hL, zokc_s h.1, h1, zc2_s, zokc_s h2, h3, if_true]
theorem l_take {σ : zSt} (h : Inv σ) (xs : Nat → Int32) {L k : Nat} (hk : k + 5 ≤ L) (hL : L ≤ 2560) (K : zSt → Option Unit) : ∃ σ', Inv σ' ∧ flaw_1409 xs L (nI k) σ K = K σ' := by
  obtain ⟨r, s1, s2, h1, h2, h3, h4⟩ := t_take h (xs (k + 1))
  refine ⟨s2, h4, ?_⟩
  unfold flaw_1409
  simp only [zixp (i := nI k + 1) (nI_add' k 1 (by omega)) hk (by decide) hL, zokc_s h.1, h1, zc2_s, zokc_s h2, h3, if_true]
theorem l_doubles {σ : zSt} (h : Inv σ) (xs : Nat → Int32) {L k : Nat} (hk : k + 5 ≤ L) (hL : L ≤ 2560) (K : zSt → Option Unit) : ∃ σ', Inv σ' ∧ flaw_1432 xs L (nI k) σ K = K σ' := by
  obtain ⟨r, h1, h2⟩ := t_doubles h (xs (k + 1)) (xs (k + 2)) (xs (k + 3))
  refine ⟨σ, h, ?_⟩
  unfold flaw_1432
  simp only [zixp (i := nI k + 1) (nI_add' k 1 (by omega)) hk (by decide) hL, zixp (i := nI k + 2) (nI_add' k 2 (by omega)) hk (by decide) hL, zixp (i := nI k + 3) (nI_add' k 3 (by omega)) hk (by decide) hL, zokc_s h.1, h1, zc1_s, h2, if_true]
theorem l_lots {σ : zSt} (h : Inv σ) (xs : Nat → Int32) {L k : Nat} (hk : k + 5 ≤ L) (hL : L ≤ 2560) (K : zSt → Option Unit) : ∃ σ', Inv σ' ∧ flaw_1475 xs L (nI k) σ K = K σ' := by
  obtain ⟨r, s1, s2, h1, h2, h3, h4⟩ := t_lots h (xs (k + 1))
  refine ⟨s2, h4, ?_⟩
  unfold flaw_1475
  simp only [zixp (i := nI k + 1) (nI_add' k 1 (by omega)) hk (by decide) hL, zokc_s h.1, h1, zc2_s, zokc_s h2, h3, if_true]
theorem l_draw {σ : zSt} (h : Inv σ) (xs : Nat → Int32) {L k : Nat} (hk : k + 5 ≤ L) (hL : L ≤ 2560) (K : zSt → Option Unit) : ∃ σ', Inv σ' ∧ flaw_1498 xs L (nI k) σ K = K σ' := by
  obtain ⟨r, s1, s2, h1, h2, h3, h4⟩ := t_draw h (xs (k + 1))
  refine ⟨s2, h4, ?_⟩
  unfold flaw_1498
  simp only [zixp (i := nI k + 1) (nI_add' k 1 (by omega)) hk (by decide) hL, zokc_s h.1, h1, zc2_s, zokc_s h2, h3, if_true]
theorem l_ofCrew {σ : zSt} (h : Inv σ) (xs : Nat → Int32) {L k : Nat} (hk : k + 5 ≤ L) (hL : L ≤ 2560) (K : zSt → Option Unit) : ∃ σ', Inv σ' ∧ flaw_1521 xs L (nI k) σ K = K σ' := by
  obtain ⟨r, s2, h1, h2, h3⟩ := t_ofCrew h (xs (k + 1)) (xs (k + 2))
  refine ⟨s2, h3, ?_⟩
  unfold flaw_1521
  simp only [zixp (i := nI k + 1) (nI_add' k 1 (by omega)) hk (by decide) hL, zixp (i := nI k + 2) (nI_add' k 2 (by omega)) hk (by decide) hL, zokc_s h.1, h1, zc1_s, zc2_s, h2, if_true]
theorem l_bounds {σ : zSt} (h : Inv σ) (xs : Nat → Int32) {L k : Nat} (hk : k + 5 ≤ L) (hL : L ≤ 2560) (K : zSt → Option Unit) : ∃ σ', Inv σ' ∧ flaw_1554 xs L (nI k) σ K = K σ' := by
  obtain ⟨r, h1, h2⟩ := t_bounds h (xs (k + 1)) (xs (k + 2)) (xs (k + 3))
  refine ⟨σ, h, ?_⟩
  unfold flaw_1554
  simp only [zixp (i := nI k + 1) (nI_add' k 1 (by omega)) hk (by decide) hL, zixp (i := nI k + 2) (nI_add' k 2 (by omega)) hk (by decide) hL, zixp (i := nI k + 3) (nI_add' k 3 (by omega)) hk (by decide) hL, zokc_s h.1, h1, zc1_s, h2, if_true]
theorem l_worst {σ : zSt} (h : Inv σ) (xs : Nat → Int32) {L k : Nat} (hk : k + 5 ≤ L) (hL : L ≤ 2560) (K : zSt → Option Unit) : ∃ σ', Inv σ' ∧ flaw_1597 xs L (nI k) σ K = K σ' := by
  obtain ⟨r, h1, h2⟩ := t_worst h (xs (k + 1)) (xs (k + 2))
  refine ⟨σ, h, ?_⟩
  unfold flaw_1597
  simp only [zixp (i := nI k + 1) (nI_add' k 1 (by omega)) hk (by decide) hL, zixp (i := nI k + 2) (nI_add' k 2 (by omega)) hk (by decide) hL, zokc_s h.1, h1, zc1_s, h2, if_true]
theorem l_weight {σ : zSt} (h : Inv σ) (xs : Nat → Int32) {L k : Nat} (hk : k + 5 ≤ L) (hL : L ≤ 2560) (K : zSt → Option Unit) : ∃ σ', Inv σ' ∧ flaw_1630 xs L (nI k) σ K = K σ' := by
  obtain ⟨r, h1, h2⟩ := t_weight h (xs (k + 1)) (xs (k + 2))
  refine ⟨σ, h, ?_⟩
  unfold flaw_1630
  simp only [zixp (i := nI k + 1) (nI_add' k 1 (by omega)) hk (by decide) hL, zixp (i := nI k + 2) (nI_add' k 2 (by omega)) hk (by decide) hL, zokc_s h.1, h1, zc1_s, h2, if_true]
theorem l_count {σ : zSt} (h : Inv σ) (xs : Nat → Int32) {L k : Nat} (hk : k + 5 ≤ L) (hL : L ≤ 2560) (K : zSt → Option Unit) : ∃ σ', Inv σ' ∧ flaw_1663 xs L (nI k) σ K = K σ' := by
  obtain ⟨r, h1, h2⟩ := t_count h (xs (k + 1))
  refine ⟨σ, h, ?_⟩
  unfold flaw_1663
  simp only [zixp (i := nI k + 1) (nI_add' k 1 (by omega)) hk (by decide) hL, zokc_s h.1, h1, zc1_s, h2, if_true]
