/-! THE ABSTRACT HEAP. Objects and arrays are named by a tag (their class, or the field that holds the array) and a number; a state is four tables. -/
abbrev zAV : Type := Int32 ⊕ (Int64 ⊕ (Nat × Option Nat))
abbrev aI (x : Int32) : zAV := Sum.inl x
abbrev aL (x : Int64) : zAV := Sum.inr (Sum.inl x)
abbrev aR (t : Nat) (o : Option Nat) : zAV := Sum.inr (Sum.inr (t, o))
abbrev zSt : Type := (Nat → Nat → Nat → Int32) × ((Nat → Nat → Nat → Int64) × ((Nat → Nat → Nat → Option Nat) × ((Nat → Nat) × (Nat → Nat → Nat))))
def gI (σ : zSt) (t i k : Nat) : Int32 := σ.1 t i k
def gL (σ : zSt) (t i k : Nat) : Int64 := σ.2.1 t i k
def gR (σ : zSt) (t i k : Nat) : Option Nat := σ.2.2.1 t i k
def gN (σ : zSt) (t : Nat) : Nat := σ.2.2.2.1 t
def gZ (σ : zSt) (t i : Nat) : Nat := σ.2.2.2.2 t i
def zup {α : Type} (f : Nat → Nat → Nat → α) (t i k : Nat) (v : α) : Nat → Nat → Nat → α := fun a b c => if a = t ∧ b = i ∧ c = k then v else f a b c
def zfresh {α : Type} (f : Nat → Nat → Nat → α) (t i : Nat) (v : α) : Nat → Nat → Nat → α := fun a b c => if a = t ∧ b = i then v else f a b c
def pI (σ : zSt) (t i k : Nat) (v : Int32) : zSt := (zup σ.1 t i k v, σ.2)
def pL (σ : zSt) (t i k : Nat) (v : Int64) : zSt := (σ.1, zup σ.2.1 t i k v, σ.2.2)
def pR (σ : zSt) (t i k : Nat) (v : Option Nat) : zSt := (σ.1, σ.2.1, zup σ.2.2.1 t i k v, σ.2.2.2)
def nw (σ : zSt) (t n : Nat) : zSt := (zfresh σ.1 t (gN σ t) 0, zfresh σ.2.1 t (gN σ t) 0, zfresh σ.2.2.1 t (gN σ t) none, (fun a => if a = t then gN σ t + 1 else gN σ a), fun a b => if a = t ∧ b = gN σ t then n else gZ σ a b)
theorem gI_pI (σ : zSt) (t i k : Nat) (v : Int32) (a b c : Nat) : gI (pI σ t i k v) a b c = if a = t ∧ b = i ∧ c = k then v else gI σ a b c := rfl
theorem gI_pL (σ : zSt) (t i k : Nat) (v : Int64) (a b c : Nat) : gI (pL σ t i k v) a b c = gI σ a b c := rfl
theorem gI_pR (σ : zSt) (t i k : Nat) (v : Option Nat) (a b c : Nat) : gI (pR σ t i k v) a b c = gI σ a b c := rfl
theorem gI_nw (σ : zSt) (t n a b c : Nat) : gI (nw σ t n) a b c = if a = t ∧ b = gN σ t then 0 else gI σ a b c := rfl
theorem gL_pI (σ : zSt) (t i k : Nat) (v : Int32) (a b c : Nat) : gL (pI σ t i k v) a b c = gL σ a b c := rfl
theorem gL_pL (σ : zSt) (t i k : Nat) (v : Int64) (a b c : Nat) : gL (pL σ t i k v) a b c = if a = t ∧ b = i ∧ c = k then v else gL σ a b c := rfl
theorem gL_pR (σ : zSt) (t i k : Nat) (v : Option Nat) (a b c : Nat) : gL (pR σ t i k v) a b c = gL σ a b c := rfl
theorem gL_nw (σ : zSt) (t n a b c : Nat) : gL (nw σ t n) a b c = if a = t ∧ b = gN σ t then 0 else gL σ a b c := rfl
theorem gR_pI (σ : zSt) (t i k : Nat) (v : Int32) (a b c : Nat) : gR (pI σ t i k v) a b c = gR σ a b c := rfl
theorem gR_pL (σ : zSt) (t i k : Nat) (v : Int64) (a b c : Nat) : gR (pL σ t i k v) a b c = gR σ a b c := rfl
theorem gR_pR (σ : zSt) (t i k : Nat) (v : Option Nat) (a b c : Nat) : gR (pR σ t i k v) a b c = if a = t ∧ b = i ∧ c = k then v else gR σ a b c := rfl
theorem gR_nw (σ : zSt) (t n a b c : Nat) : gR (nw σ t n) a b c = if a = t ∧ b = gN σ t then none else gR σ a b c := rfl
theorem gN_pI (σ : zSt) (t i k : Nat) (v : Int32) (a : Nat) : gN (pI σ t i k v) a = gN σ a := rfl
theorem gN_pL (σ : zSt) (t i k : Nat) (v : Int64) (a : Nat) : gN (pL σ t i k v) a = gN σ a := rfl
theorem gN_pR (σ : zSt) (t i k : Nat) (v : Option Nat) (a : Nat) : gN (pR σ t i k v) a = gN σ a := rfl
theorem gN_nw (σ : zSt) (t n a : Nat) : gN (nw σ t n) a = if a = t then gN σ t + 1 else gN σ a := rfl
theorem gZ_pI (σ : zSt) (t i k : Nat) (v : Int32) (a b : Nat) : gZ (pI σ t i k v) a b = gZ σ a b := rfl
theorem gZ_pL (σ : zSt) (t i k : Nat) (v : Int64) (a b : Nat) : gZ (pL σ t i k v) a b = gZ σ a b := rfl
theorem gZ_pR (σ : zSt) (t i k : Nat) (v : Option Nat) (a b : Nat) : gZ (pR σ t i k v) a b = gZ σ a b := rfl
theorem gZ_nw (σ : zSt) (t n a b : Nat) : gZ (nw σ t n) a b = if a = t ∧ b = gN σ t then n else gZ σ a b := rfl
def zcl : List vw_C := [(RX0, TX0, 8), (RX1, TX1, 16), (RX2, TX2, 4), (RX3, TX3, 3), (RX4, TX4, 4), (RX5, TX5, 12), (RX6, TX6, 9), (RX7, TX7, 3), (RX7, TX7, 3), (RX9, TX9, 2), (RX10, TX10, 3), (RX11, TX11, 19), (RX12, TX12, 82)]
/-- the fields of each class: none an int or a boolean, else the tag of what it refers to -/
def zfl (t : Nat) : List (Option Nat) := match t with
  | 0 => [some 100, some 101, none, some 103, none, some 105, some 106, some 107]
  | 1 => [none, some 5, none, none, some 7, none, none, some 4, some 3, none, none, none, none, none, none, none]
  | 2 => [some 300, some 301, some 302, none]
  | 3 => [some 400, some 401, none]
  | 4 => [some 500, some 501, some 502, none]
  | 5 => [none, none, none, none, none, none, none, none, none, none, some 610, some 611]
  | 6 => [some 700, none, none, none, none, some 10, none, none, none]
  | 7 => [none, none, none]
  | 8 => []
  | 9 => [some 1000, none]
  | 10 => [some 1100, none, none]
  | 11 => [some 1200, none, some 1202, none, some 1204, none, none, none, none, none, some 1210, none, some 9, some 9, some 6, some 2, some 0, some 1217, some 1218]
  | 12 => [none, some 1301, some 1302, some 1303, some 1304, some 1305, some 1306, some 1307, some 1308, some 1309, some 1310, some 1311, some 1312, none, some 1314, some 1315, some 1316, none, some 1318, some 1319, some 1320, some 1321, some 1322, some 1323, some 1324, some 1325, some 1326, some 1327, some 1328, some 1329, some 1330, some 1331, some 1332, some 1333, some 1334, some 1335, none, some 1337, some 1338, some 1339, none, none, some 1342, some 1343, some 1344, some 1345, some 1346, none, some 1348, none, some 1350, some 1351, some 1352, some 1353, some 1354, none, none, some 1357, none, none, some 1360, some 1361, none, none, none, none, none, none, none, none, none, some 1371, none, none, none, none, none, some 1377, none, none, none, none]
  | _ => []
def zlk : List (Nat × Nat) → Nat → Nat
  | [], _ => 0
  | (a, b) :: r, t => bif Nat.beq a t then b else zlk r t
/-- the arrays: what they hold (0 int, 1 boolean, 2 long, 3 .. 6 references) and how many -/
def zakL : List (Nat × Nat) := [(101, 5), (105, 2), (106, 2), (107, 1), (1000, 6), (1200, 3), (1202, 4), (1204, 5), (1218, 1), (1324, 1), (1325, 1), (1357, 1)]
def zalL : List (Nat × Nat) := [(100, 10), (101, 7), (103, 7), (105, 128), (106, 128), (107, 128), (300, 5), (301, 7), (302, 7), (400, 12), (401, 12), (500, 30), (501, 30), (502, 30), (610, 20), (611, 10), (700, 9), (1000, 10), (1200, 40), (1202, 20), (1204, 200), (1210, 160), (1217, 10), (1218, 40), (1301, 40), (1302, 40), (1303, 40), (1304, 40), (1305, 40), (1306, 800), (1307, 40), (1308, 40), (1309, 400), (1310, 40), (1311, 40), (1312, 40), (1314, 20), (1315, 20), (1316, 20), (1318, 200), (1319, 200), (1320, 200), (1321, 200), (1322, 200), (1323, 200), (1324, 200), (1325, 200), (1326, 6000), (1327, 6000), (1328, 6000), (1329, 200), (1330, 200), (1331, 200), (1332, 200), (1333, 200), (1334, 200), (1335, 200), (1337, 10), (1338, 10), (1339, 10), (1342, 2400), (1343, 2400), (1344, 200), (1345, 10), (1346, 7), (1348, 160), (1350, 3200), (1351, 20), (1352, 20), (1353, 20), (1354, 2), (1357, 40), (1360, 7), (1361, 7), (1371, 9), (1377, 5)]
def zak (t : Nat) : Nat := zlk zakL t
def zal (t : Nat) : Nat := zlk zalL t
def zatg (t : Nat) : Nat := match zak t with | 3 => 5 | 4 => 7 | 5 => 1 | _ => 10
def zety (k : Nat) : FieldType := match k with | 0 => .int | 1 => .boolean | 2 => .long | 3 => .object RX5 | 4 => .object RX7 | 5 => .object RX1 | _ => .object RX10
/-- references that are fixed from the constructor on -/
def zfin (t k i : Nat) : Option Nat := match t with
  | 0 => (match k with | 0 => some i | 1 => some i | 3 => some i | 5 => some i | 6 => some i | 7 => some i | _ => none)
  | 1 => (match k with | 7 => some i | _ => none)
  | 2 => (match k with | 0 => some i | 1 => some i | 2 => some i | _ => none)
  | 3 => (match k with | 0 => some i | 1 => some i | _ => none)
  | 4 => (match k with | 0 => some i | 1 => some i | 2 => some i | _ => none)
  | 5 => (match k with | 10 => some i | 11 => some i | _ => none)
  | 6 => (match k with | 0 => some i | _ => none)
  | 7 => none
  | 8 => none
  | 9 => (match k with | 0 => some i | _ => none)
  | 10 => (match k with | 0 => some i | _ => none)
  | 11 => (match k with | 0 => some i | 2 => some i | 4 => some i | 10 => some i | 12 => some 0 | 13 => some 1 | 14 => some 0 | 15 => some 0 | 16 => some 0 | 17 => some i | 18 => some i | _ => none)
  | 12 => (match k with | 1 => some i | 2 => some i | 3 => some i | 4 => some i | 5 => some i | 6 => some i | 7 => some i | 8 => some i | 9 => some i | 10 => some i | 11 => some i | 12 => some i | 14 => some i | 15 => some i | 16 => some i | 18 => some i | 19 => some i | 20 => some i | 21 => some i | 22 => some i | 23 => some i | 24 => some i | 25 => some i | 26 => some i | 27 => some i | 28 => some i | 29 => some i | 30 => some i | 31 => some i | 32 => some i | 33 => some i | 34 => some i | 35 => some i | 37 => some i | 38 => some i | 39 => some i | 42 => some i | 43 => some i | 44 => some i | 45 => some i | 46 => some i | 48 => some i | 50 => some i | 51 => some i | 52 => some i | 53 => some i | 54 => some i | 57 => some i | 60 => some i | 61 => some i | 71 => some i | 77 => some i | _ => none)
  | _ => none
def zfk (t k : Nat) : Option Nat := (zfl t).getD k none
def zfn (t : Nat) : Nat := (zfl t).length
def ztg (t k : Nat) : Option Nat := if t < 16 then zfk t k else if zak t < 3 then none else some (zatg t)
def zlen (σ : zSt) (t i : Nat) : Nat := if t = 1100 then gZ σ t i else zal t
/-- what may be referred to: tag 15 are the five String constants and the script -/
def gM (σ : zSt) (t : Nat) : Nat := if t = 15 then 11 else gN σ t
abbrev zOm : Type := va_G × ((Nat → ClassId) × (Nat × ((Nat → Nat) × (Nat → Nat))))
abbrev oD (Ω : zOm) : va_G := Ω.1
abbrev oC (Ω : zOm) : Nat → ClassId := Ω.2.1
abbrev oB (Ω : zOm) : Nat := Ω.2.2.1
abbrev oK (Ω : zOm) : Nat → Nat := Ω.2.2.2.1
abbrev oV (Ω : zOm) : Nat → Nat := Ω.2.2.2.2
abbrev zadr : Type := Nat → Nat → Nat
def zcv (adr : zadr) (v : zAV) : Value := match v with
  | .inl x => .int x
  | .inr (.inl x) => .long x
  | .inr (.inr (t, o)) => va_rf (o.map (adr t))
def zfv (σ : zSt) (adr : zadr) (t i k : Nat) : Value := match zfk t k with
  | none => .int (gI σ t i k)
  | some g => va_rf ((gR σ t i k).map (adr g))
def zcell (Ω : zOm) (σ : zSt) (adr : zadr) (t i : Nat) : va_E :=
  if t < 16 then .inr (t, (List.range (zfn t)).map (zfv σ adr t i))
  else .inl (oC Ω (zak t), zlen σ t i, if zak t < 2 then .inl (gI σ t i) else if zak t = 2 then .inr (.inl (gL σ t i)) else .inr (.inr (.inr (.inr (fun j => (gR σ t i j).map (adr (zatg t)))))))
def zws (Ω : zOm) (σ : zSt) (adr : zadr) (G : List (Nat × Nat)) : va_W := G.map (fun p => (adr p.1 p.2, zcell Ω σ adr p.1 p.2))
abbrev zA (b0 : Nat) : Nat → Prop := fun q => b0 ≤ q
def zVal (σ : zSt) : Prop := ∀ t i k g j, i < gN σ t → ztg t k = some g → gR σ t i k = some j → j < gN σ g
def zU (G : List (Nat × Nat)) : Prop := ∀ (a b : Nat) (p : Nat × Nat), G[a]? = some p → G[b]? = some p → a = b
def zRep (Ω : zOm) (σ : zSt) (adr : zadr) (H : Heap) : Prop :=
  ∃ G : List (Nat × Nat), zU G ∧ (∀ t i, (t, i) ∈ G ↔ i < gN σ t) ∧ va_P (oD Ω) zcl (zws Ω σ adr G) H ∧ va_D (zA (oB Ω)) (zws Ω σ adr G) ∧ zVal σ ∧ oB Ω ≤ H.size ∧ gN σ 15 = 0 ∧ ∀ i, i < 11 → adr 15 i = oK Ω i
def zExt (σ : zSt) (adr : zadr) (σ' : zSt) (adr' : zadr) : Prop := ∀ t, gN σ t ≤ gN σ' t ∧ ∀ i, i < gN σ t → adr' t i = adr t i
def zOK (σ : zSt) : Prop := ∀ t i k j, i < gN σ t → zfin t k i = some j → gR σ t i k = some j
def zv1 (σ : zSt) (v : zAV) : Prop := match v with
  | .inr (.inr (t, some i)) => i < gM σ t
  | _ => True
def zvs (σ : zSt) (l : List zAV) : Prop := ∀ v ∈ l, zv1 σ v
def zvl (σ : zSt) (l : List (Nat × zAV)) : Prop := ∀ q ∈ l, zv1 σ q.2
def zcat (v : zAV) : Nat := match v with
  | .inr (.inl _) => 2
  | _ => 1
theorem zcat_eq (adr : zadr) (v : zAV) : (zcv adr v).category = zcat v := by
  rcases v with x | x | ⟨t, o⟩
  · rfl
  · rfl
  · cases o <;> rfl
theorem zcell_congr {Ω : zOm} {σ σ' : zSt} {adr adr' : zadr} {t i : Nat} (hI : ∀ k, gI σ' t i k = gI σ t i k) (hL : ∀ k, gL σ' t i k = gL σ t i k) (hR : ∀ k, gR σ' t i k = gR σ t i k) (hZ : gZ σ' t i = gZ σ t i)
    (ha : ∀ k g j, ztg t k = some g → gR σ t i k = some j → adr' g j = adr g j) : zcell Ω σ' adr' t i = zcell Ω σ adr t i := by
  have hq : ∀ k g, ztg t k = some g → (gR σ' t i k).map (adr' g) = (gR σ t i k).map (adr g) := by
    intro k g hg
    rw [hR k]
    cases h : gR σ t i k with
    | none => rfl
    | some j => simp only [Option.map_some, ha k g j hg h]
  unfold zcell
  by_cases ht : t < 16
  · rw [if_pos ht, if_pos ht]
    congr 2
    refine List.map_congr_left fun k _ => ?_
    unfold zfv
    cases hk : zfk t k with
    | none => simp only [hI]
    | some g =>
      have : ztg t k = some g := by unfold ztg; rw [if_pos ht]; exact hk
      simp only [hq k g this]
  · rw [if_neg ht, if_neg ht]
    have hz : zlen σ' t i = zlen σ t i := by unfold zlen; rw [hZ]
    by_cases h2 : zak t < 2
    · rw [if_pos h2, if_pos h2, hz, show gI σ' t i = gI σ t i from funext hI]
    · rw [if_neg h2, if_neg h2]
      by_cases h3 : zak t = 2
      · rw [if_pos h3, if_pos h3, hz, show gL σ' t i = gL σ t i from funext hL]
      · have hf : (fun j => (gR σ' t i j).map (adr' (zatg t))) = fun j => (gR σ t i j).map (adr (zatg t)) := funext fun k => hq k _ (by unfold ztg; rw [if_neg ht, if_neg (by omega)])
        rw [if_neg h3, if_neg h3, hz, hf]
theorem zws_get {Ω : zOm} {σ : zSt} {adr : zadr} {G : List (Nat × Nat)} {t i : Nat} (h : (t, i) ∈ G) : ∃ k : Nat, G[k]? = some (t, i) ∧ (zws Ω σ adr G)[k]? = some (adr t i, zcell Ω σ adr t i) := by
  obtain ⟨k, hk⟩ := List.getElem?_of_mem h
  exact ⟨k, hk, by unfold zws; rw [List.getElem?_map, hk]; rfl⟩
theorem zws_set {Ω : zOm} {σ σ' : zSt} {adr : zadr} {G : List (Nat × Nat)} {t i k : Nat} (hn : zU G) (hk : G[k]? = some (t, i)) {e : va_E} (he : e = zcell Ω σ' adr t i)
    (ho : ∀ t' i', (t', i') ∈ G → (t', i') ≠ (t, i) → zcell Ω σ' adr t' i' = zcell Ω σ adr t' i') : (zws Ω σ adr G).set k (adr t i, e) = zws Ω σ' adr G := by
  subst he
  apply List.ext_getElem?
  intro n
  have hlt : k < G.length := (List.getElem?_eq_some_iff.mp hk).1
  by_cases hnk : n = k
  · subst hnk
    rw [List.getElem?_set_self (by unfold zws; rw [List.length_map]; exact hlt)]
    unfold zws
    rw [List.getElem?_map, hk]
    rfl
  · rw [List.getElem?_set_ne (Ne.symm hnk)]
    unfold zws
    rw [List.getElem?_map, List.getElem?_map]
    cases hg : G[n]? with
    | none => rfl
    | some p =>
      obtain ⟨t', i'⟩ := p
      have hne : (t', i') ≠ (t, i) := fun e => hnk (hn n k (t, i) (by rw [hg, e]) hk)
      simp only [Option.map_some, ho t' i' (List.mem_of_getElem? hg) hne]
theorem zws_adr {Ω : zOm} {σ : zSt} {adr : zadr} {G : List (Nat × Nat)} {H : Heap} (hD : va_D (zA (oB Ω)) (zws Ω σ adr G)) {t i t' i' : Nat} (h : (t, i) ∈ G) (h' : (t', i') ∈ G) (hn : zU G) (e : adr t i = adr t' i') : (t, i) = (t', i') := by
  obtain ⟨k, hk, h1⟩ := zws_get (Ω := Ω) (σ := σ) (adr := adr) h
  obtain ⟨k', hk', h2⟩ := zws_get (Ω := Ω) (σ := σ) (adr := adr) h'
  have := hD.1 k k' _ _ h1 h2 e
  subst this
  exact Option.some.inj (hk.symm.trans hk')
theorem zExt.rf {σ : zSt} {adr : zadr} : zExt σ adr σ adr := fun _ => ⟨Nat.le_refl _, fun _ _ => rfl⟩
theorem zExt.trans {σ σ1 σ2 : zSt} {a a1 a2 : zadr} (h : zExt σ a σ1 a1) (h' : zExt σ1 a1 σ2 a2) : zExt σ a σ2 a2 := fun t => ⟨Nat.le_trans (h t).1 (h' t).1, fun i hi => by rw [(h' t).2 i (Nat.lt_of_lt_of_le hi (h t).1), (h t).2 i hi]⟩
theorem gM_le {σ σ' : zSt} (h : ∀ t, gN σ t ≤ gN σ' t) (t : Nat) : gM σ t ≤ gM σ' t := by
  unfold gM
  split
  · exact Nat.le_refl _
  · exact h t
theorem zv1.mono {σ σ' : zSt} (h : ∀ t, gN σ t ≤ gN σ' t) {v : zAV} (hv : zv1 σ v) : zv1 σ' v := by
  rcases v with x | x | ⟨t, o⟩
  · trivial
  · trivial
  · cases o with
    | none => trivial
    | some i => exact Nat.lt_of_lt_of_le hv (gM_le h t)
/-- an address that is referred to is the same behind a step that keeps the older ones -/
theorem zcv_ext {Ω : zOm} {σ σ' : zSt} {adr adr' : zadr} (h : zExt σ adr σ' adr') (h5 : ∀ i, i < 11 → adr 15 i = oK Ω i) (h5' : ∀ i, i < 11 → adr' 15 i = oK Ω i) {v : zAV} (hv : zv1 σ v) : zcv adr' v = zcv adr v := by
  rcases v with x | x | ⟨t, o⟩
  · rfl
  · rfl
  · cases o with
    | none => rfl
    | some i =>
      have hv : i < gM σ t := hv
      show va_rf (some (adr' t i)) = va_rf (some (adr t i))
      unfold gM at hv
      by_cases ht : t = 15
      · subst ht
        rw [if_pos rfl] at hv
        rw [h5 i hv, h5' i hv]
      · rw [if_neg ht] at hv
        rw [(h t).2 i hv]
