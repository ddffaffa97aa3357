/-! worlds, contracts' forms, rows of calls -/
abbrev Mem : Type := Nat → Nat → Int32
def upc (mem : Mem) (k : Nat) (f : Nat → Int32) : Mem := fun a => if a = k then f else mem a
def up2 (mem : Mem) (k j : Nat) (v : Int32) : Mem := upc mem k (upd (mem k) j v)
def fu : Nat := 100000
abbrev isB (v : Int32) : Prop := v = 0 ∨ v = 1
def gI {α : Type} (i : Int32) (n : Nat) (t : Option α) : Option α := if i < 0 ∨ n ≤ i.toNatClampNeg then none else t
def gZ {α : Type} (d : Int32) (t : Option α) : Option α := if d = 0 then none else t
def gB {α : Type} (v : Int32) (t : Option α) : Option α := if v = 0 ∨ v = 1 then t else none
def oc {α : Type} (o : Option Nat) (a : Option α) (f : Nat → Option α) : Option α := match o with
  | none => a
  | some k => f k
theorem gI_some {α : Type} {i : Int32} {n : Nat} {t : Option α} {v : α} (h : gI i n t = some v) : vp_in i n ∧ t = some v := by
  unfold gI at h
  by_cases c : i < 0 ∨ n ≤ i.toNatClampNeg
  · rw [if_pos c] at h; cases h
  · rw [if_neg c] at h; exact ⟨c, h⟩
theorem gZ_some {α : Type} {d : Int32} {t : Option α} {v : α} (h : gZ d t = some v) : ¬ d = 0 ∧ t = some v := by
  unfold gZ at h
  by_cases c : d = 0
  · rw [if_pos c] at h; cases h
  · rw [if_neg c] at h; exact ⟨c, h⟩
theorem gB_some {α : Type} {d : Int32} {t : Option α} {v : α} (h : gB d t = some v) : isB d ∧ t = some v := by
  unfold gB at h
  by_cases c : d = 0 ∨ d = 1
  · rw [if_pos c] at h; exact ⟨c, h⟩
  · rw [if_neg c] at h; cases h
def ob1 {α β : Type} (o : Option α) (f : α → Option β) : Option β := o.bind f
def ob2 {α β γ : Type} (o : Option (α × β)) (f : α → β → Option γ) : Option γ := o.bind (fun q => f q.1 q.2)
theorem ob2_some {α β γ : Type} {o : Option (α × β)} {f : α → β → Option γ} {v : γ} (h : ob2 o f = some v) : ∃ a b, o = some (a, b) ∧ f a b = some v := by
  cases o with
  | none => cases h
  | some q => exact ⟨q.1, q.2, rfl, h⟩
theorem ob_some {α β : Type} {o : Option α} {f : α → Option β} {v : β} (h : ob1 o f = some v) : ∃ a, o = some a ∧ f a = some v := by
  cases o with
  | none => cases h
  | some a => exact ⟨a, rfl, h⟩
theorem isB_nar {v : Int32} (h : isB v) : narrow .boolean (.int v) = .int v := by
  rcases h with rfl | rfl <;> rfl
theorem isB_fit {v : Int32} (h : isB v) : fits .boolean (.int v) = true := by
  rcases h with rfl | rfl <;> rfl
theorem ne_toInt {x c : Int32} {k : Int} (h : ¬ x = c) (hc : c.toInt = k) : x.toInt ≠ k := fun q => h (Int32.toInt_inj.mp (q.trans hc.symm))
abbrev gG : Type := va_G × ClassId × ClassId × ClassId
abbrev tyG (g : gG) : List (ClassId × FieldType) := [(g.2.1, .int), (g.2.2.1, .boolean), (g.2.2.2, .object "SpeakHall$Sheet")]
def AW (n : Nat) (ad : Nat → Nat) : Nat → Prop := fun q => ∃ k : Nat, k < n ∧ q = ad k
def Apt (n : Nat) (ad : Nat → Nat) : Prop := ∀ i j : Nat, i < n → j < n → ad i = ad j → i = j
theorem wD_of {n : Nat} {ad : Nat → Nat} {w : va_W} (hw : w.map Prod.fst = (List.range n).map ad) (h : Apt n ad) : va_D (AW n ad) w := by
  have key : ∀ (i : Nat) (p : Nat × va_E), w[i]? = some p → i < n ∧ p.1 = ad i := by
    intro i p hp
    have h1 : (w.map Prod.fst)[i]? = some p.1 := by rw [List.getElem?_map, hp]; rfl
    rw [hw, List.getElem?_map] at h1
    by_cases hi : i < n
    · rw [List.getElem?_range hi] at h1
      exact ⟨hi, (Option.some.inj h1).symm⟩
    · rw [List.getElem?_eq_none (by simp; omega)] at h1
      cases h1
  refine ⟨fun i j p q hp hq he => ?_, fun k q hk => ?_⟩
  · obtain ⟨hi, e1⟩ := key i p hp
    obtain ⟨hj, e2⟩ := key j q hq
    exact h i j hi hj (by rw [← e1, ← e2, he])
  · obtain ⟨hi, e1⟩ := key k q hk
    exact ⟨k, hi, e1⟩

def wX (g : gG) (ad : Nat → Nat) (mem : Mem) : va_W := [(ad 0, .inr (8, [.ref (ad 1), .ref (ad 5), .ref (ad 11), .ref (ad 17), .ref (ad 19), .ref (ad 21), .ref (ad 27), .ref (ad 29), .ref (ad 35), .int (mem 0 9)])), (ad 1, .inr (4, [.ref (ad 2), .ref (ad 3), .ref (ad 4), .int (mem 1 3)])), (ad 2, .inl (g.2.1, 10, .inl (mem 2))), (ad 3, .inl (g.2.1, 10, .inl (mem 3))), (ad 4, .inl (g.2.2.1, 10, .inl (mem 4))), (ad 5, .inr (7, [.ref (ad 1), .ref (ad 6), .ref (ad 7), .ref (ad 8), .ref (ad 9), .ref (ad 10), .int (mem 5 6), .int (mem 5 7)])), (ad 6, .inl (g.2.1, 20, .inl (mem 6))), (ad 7, .inl (g.2.1, 20, .inl (mem 7))), (ad 8, .inl (g.2.1, 10, .inl (mem 8))), (ad 9, .inl (g.2.1, 10, .inl (mem 9))), (ad 10, .inl (g.2.1, 5, .inl (mem 10))), (ad 11, .inr (7, [.ref (ad 1), .ref (ad 12), .ref (ad 13), .ref (ad 14), .ref (ad 15), .ref (ad 16), .int (mem 11 6), .int (mem 11 7)])), (ad 12, .inl (g.2.1, 20, .inl (mem 12))), (ad 13, .inl (g.2.1, 20, .inl (mem 13))), (ad 14, .inl (g.2.1, 10, .inl (mem 14))), (ad 15, .inl (g.2.1, 10, .inl (mem 15))), (ad 16, .inl (g.2.1, 5, .inl (mem 16))), (ad 17, .inr (5, [.ref (ad 1), .ref (ad 18), .int (mem 17 2)])), (ad 18, .inl (g.2.1, 6, .inl (mem 18))), (ad 19, .inr (2, [.ref (ad 1), .ref (ad 17), .ref (ad 5), .ref (ad 20), .int (mem 19 4)])), (ad 20, .inl (g.2.1, 20, .inl (mem 20))), (ad 21, .inr (1, [.ref (ad 22), .ref (ad 23), .ref (ad 24), .ref (ad 25), .ref (ad 26), .int (mem 21 5)])), (ad 22, .inl (g.2.1, 5, .inl (mem 22))), (ad 23, .inl (g.2.1, 5, .inl (mem 23))), (ad 24, .inl (g.2.1, 5, .inl (mem 24))), (ad 25, .inl (g.2.1, 5, .inl (mem 25))), (ad 26, .inl (g.2.1, 3, .inl (mem 26))), (ad 27, .inr (0, [.ref (ad 1), .ref (ad 28), .int (mem 27 2)])), (ad 28, .inl (g.2.1, 10, .inl (mem 28))), (ad 29, .inr (3, [.ref (ad 30), .ref (ad 31), .ref (ad 32), .ref (ad 33), .ref (ad 34), .int (mem 29 5), .int (mem 29 6)])), (ad 30, .inl (g.2.1, 100, .inl (mem 30))), (ad 31, .inl (g.2.1, 100, .inl (mem 31))), (ad 32, .inl (g.2.1, 100, .inl (mem 32))), (ad 33, .inl (g.2.1, 40, .inl (mem 33))), (ad 34, .inl (g.2.1, 40, .inl (mem 34))), (ad 35, .inl (g.2.2.2, 4, .inr (.inr (.inr (.inr (fun j => some (ad (36 + 2 * j)))))))), (ad 36, .inr (6, [.ref (ad 37), .int (mem 36 1), .int (mem 36 2)])), (ad 37, .inl (g.2.1, 12, .inl (mem 37))), (ad 38, .inr (6, [.ref (ad 39), .int (mem 38 1), .int (mem 38 2)])), (ad 39, .inl (g.2.1, 12, .inl (mem 39))), (ad 40, .inr (6, [.ref (ad 41), .int (mem 40 1), .int (mem 40 2)])), (ad 41, .inl (g.2.1, 12, .inl (mem 41))), (ad 42, .inr (6, [.ref (ad 43), .int (mem 42 1), .int (mem 42 2)])), (ad 43, .inl (g.2.1, 12, .inl (mem 43)))]
theorem wX_0 {g : gG} {ad : Nat → Nat} {mem : Mem} : (wX g ad mem)[0]? = some (ad 0, .inr (8, [.ref (ad 1), .ref (ad 5), .ref (ad 11), .ref (ad 17), .ref (ad 19), .ref (ad 21), .ref (ad 27), .ref (ad 29), .ref (ad 35), .int (mem 0 9)])) := rfl
theorem wX_s0_9 {g : gG} {ad : Nat → Nat} {mem : Mem} {v : Int32} : (wX g ad mem).set 0 (ad 0, .inr (8, [.ref (ad 1), .ref (ad 5), .ref (ad 11), .ref (ad 17), .ref (ad 19), .ref (ad 21), .ref (ad 27), .ref (ad 29), .ref (ad 35), .int v])) = wX g ad (up2 mem 0 9 v) := rfl
theorem wX_1 {g : gG} {ad : Nat → Nat} {mem : Mem} : (wX g ad mem)[1]? = some (ad 1, .inr (4, [.ref (ad 2), .ref (ad 3), .ref (ad 4), .int (mem 1 3)])) := rfl
theorem wX_s1_3 {g : gG} {ad : Nat → Nat} {mem : Mem} {v : Int32} : (wX g ad mem).set 1 (ad 1, .inr (4, [.ref (ad 2), .ref (ad 3), .ref (ad 4), .int v])) = wX g ad (up2 mem 1 3 v) := rfl
theorem wX_2 {g : gG} {ad : Nat → Nat} {mem : Mem} : (wX g ad mem)[2]? = some (ad 2, .inl (g.2.1, 10, .inl (mem 2))) := rfl
theorem wX_s2 {g : gG} {ad : Nat → Nat} {mem : Mem} {f : Nat → Int32} : (wX g ad mem).set 2 (ad 2, .inl (g.2.1, 10, .inl f)) = wX g ad (upc mem 2 f) := rfl
theorem wX_3 {g : gG} {ad : Nat → Nat} {mem : Mem} : (wX g ad mem)[3]? = some (ad 3, .inl (g.2.1, 10, .inl (mem 3))) := rfl
theorem wX_s3 {g : gG} {ad : Nat → Nat} {mem : Mem} {f : Nat → Int32} : (wX g ad mem).set 3 (ad 3, .inl (g.2.1, 10, .inl f)) = wX g ad (upc mem 3 f) := rfl
theorem wX_4 {g : gG} {ad : Nat → Nat} {mem : Mem} : (wX g ad mem)[4]? = some (ad 4, .inl (g.2.2.1, 10, .inl (mem 4))) := rfl
theorem wX_s4 {g : gG} {ad : Nat → Nat} {mem : Mem} {f : Nat → Int32} : (wX g ad mem).set 4 (ad 4, .inl (g.2.2.1, 10, .inl f)) = wX g ad (upc mem 4 f) := rfl
theorem wX_5 {g : gG} {ad : Nat → Nat} {mem : Mem} : (wX g ad mem)[5]? = some (ad 5, .inr (7, [.ref (ad 1), .ref (ad 6), .ref (ad 7), .ref (ad 8), .ref (ad 9), .ref (ad 10), .int (mem 5 6), .int (mem 5 7)])) := rfl
theorem wX_s5_6 {g : gG} {ad : Nat → Nat} {mem : Mem} {v : Int32} : (wX g ad mem).set 5 (ad 5, .inr (7, [.ref (ad 1), .ref (ad 6), .ref (ad 7), .ref (ad 8), .ref (ad 9), .ref (ad 10), .int v, .int (mem 5 7)])) = wX g ad (up2 mem 5 6 v) := rfl
theorem wX_s5_7 {g : gG} {ad : Nat → Nat} {mem : Mem} {v : Int32} : (wX g ad mem).set 5 (ad 5, .inr (7, [.ref (ad 1), .ref (ad 6), .ref (ad 7), .ref (ad 8), .ref (ad 9), .ref (ad 10), .int (mem 5 6), .int v])) = wX g ad (up2 mem 5 7 v) := rfl
theorem wX_6 {g : gG} {ad : Nat → Nat} {mem : Mem} : (wX g ad mem)[6]? = some (ad 6, .inl (g.2.1, 20, .inl (mem 6))) := rfl
theorem wX_s6 {g : gG} {ad : Nat → Nat} {mem : Mem} {f : Nat → Int32} : (wX g ad mem).set 6 (ad 6, .inl (g.2.1, 20, .inl f)) = wX g ad (upc mem 6 f) := rfl
theorem wX_7 {g : gG} {ad : Nat → Nat} {mem : Mem} : (wX g ad mem)[7]? = some (ad 7, .inl (g.2.1, 20, .inl (mem 7))) := rfl
theorem wX_s7 {g : gG} {ad : Nat → Nat} {mem : Mem} {f : Nat → Int32} : (wX g ad mem).set 7 (ad 7, .inl (g.2.1, 20, .inl f)) = wX g ad (upc mem 7 f) := rfl
theorem wX_8 {g : gG} {ad : Nat → Nat} {mem : Mem} : (wX g ad mem)[8]? = some (ad 8, .inl (g.2.1, 10, .inl (mem 8))) := rfl
theorem wX_s8 {g : gG} {ad : Nat → Nat} {mem : Mem} {f : Nat → Int32} : (wX g ad mem).set 8 (ad 8, .inl (g.2.1, 10, .inl f)) = wX g ad (upc mem 8 f) := rfl
theorem wX_9 {g : gG} {ad : Nat → Nat} {mem : Mem} : (wX g ad mem)[9]? = some (ad 9, .inl (g.2.1, 10, .inl (mem 9))) := rfl
theorem wX_s9 {g : gG} {ad : Nat → Nat} {mem : Mem} {f : Nat → Int32} : (wX g ad mem).set 9 (ad 9, .inl (g.2.1, 10, .inl f)) = wX g ad (upc mem 9 f) := rfl
theorem wX_10 {g : gG} {ad : Nat → Nat} {mem : Mem} : (wX g ad mem)[10]? = some (ad 10, .inl (g.2.1, 5, .inl (mem 10))) := rfl
theorem wX_s10 {g : gG} {ad : Nat → Nat} {mem : Mem} {f : Nat → Int32} : (wX g ad mem).set 10 (ad 10, .inl (g.2.1, 5, .inl f)) = wX g ad (upc mem 10 f) := rfl
theorem wX_11 {g : gG} {ad : Nat → Nat} {mem : Mem} : (wX g ad mem)[11]? = some (ad 11, .inr (7, [.ref (ad 1), .ref (ad 12), .ref (ad 13), .ref (ad 14), .ref (ad 15), .ref (ad 16), .int (mem 11 6), .int (mem 11 7)])) := rfl
theorem wX_s11_6 {g : gG} {ad : Nat → Nat} {mem : Mem} {v : Int32} : (wX g ad mem).set 11 (ad 11, .inr (7, [.ref (ad 1), .ref (ad 12), .ref (ad 13), .ref (ad 14), .ref (ad 15), .ref (ad 16), .int v, .int (mem 11 7)])) = wX g ad (up2 mem 11 6 v) := rfl
theorem wX_s11_7 {g : gG} {ad : Nat → Nat} {mem : Mem} {v : Int32} : (wX g ad mem).set 11 (ad 11, .inr (7, [.ref (ad 1), .ref (ad 12), .ref (ad 13), .ref (ad 14), .ref (ad 15), .ref (ad 16), .int (mem 11 6), .int v])) = wX g ad (up2 mem 11 7 v) := rfl
theorem wX_12 {g : gG} {ad : Nat → Nat} {mem : Mem} : (wX g ad mem)[12]? = some (ad 12, .inl (g.2.1, 20, .inl (mem 12))) := rfl
theorem wX_s12 {g : gG} {ad : Nat → Nat} {mem : Mem} {f : Nat → Int32} : (wX g ad mem).set 12 (ad 12, .inl (g.2.1, 20, .inl f)) = wX g ad (upc mem 12 f) := rfl
theorem wX_13 {g : gG} {ad : Nat → Nat} {mem : Mem} : (wX g ad mem)[13]? = some (ad 13, .inl (g.2.1, 20, .inl (mem 13))) := rfl
theorem wX_s13 {g : gG} {ad : Nat → Nat} {mem : Mem} {f : Nat → Int32} : (wX g ad mem).set 13 (ad 13, .inl (g.2.1, 20, .inl f)) = wX g ad (upc mem 13 f) := rfl
theorem wX_14 {g : gG} {ad : Nat → Nat} {mem : Mem} : (wX g ad mem)[14]? = some (ad 14, .inl (g.2.1, 10, .inl (mem 14))) := rfl
theorem wX_s14 {g : gG} {ad : Nat → Nat} {mem : Mem} {f : Nat → Int32} : (wX g ad mem).set 14 (ad 14, .inl (g.2.1, 10, .inl f)) = wX g ad (upc mem 14 f) := rfl
theorem wX_15 {g : gG} {ad : Nat → Nat} {mem : Mem} : (wX g ad mem)[15]? = some (ad 15, .inl (g.2.1, 10, .inl (mem 15))) := rfl
theorem wX_s15 {g : gG} {ad : Nat → Nat} {mem : Mem} {f : Nat → Int32} : (wX g ad mem).set 15 (ad 15, .inl (g.2.1, 10, .inl f)) = wX g ad (upc mem 15 f) := rfl
theorem wX_16 {g : gG} {ad : Nat → Nat} {mem : Mem} : (wX g ad mem)[16]? = some (ad 16, .inl (g.2.1, 5, .inl (mem 16))) := rfl
theorem wX_s16 {g : gG} {ad : Nat → Nat} {mem : Mem} {f : Nat → Int32} : (wX g ad mem).set 16 (ad 16, .inl (g.2.1, 5, .inl f)) = wX g ad (upc mem 16 f) := rfl
theorem wX_17 {g : gG} {ad : Nat → Nat} {mem : Mem} : (wX g ad mem)[17]? = some (ad 17, .inr (5, [.ref (ad 1), .ref (ad 18), .int (mem 17 2)])) := rfl
theorem wX_s17_2 {g : gG} {ad : Nat → Nat} {mem : Mem} {v : Int32} : (wX g ad mem).set 17 (ad 17, .inr (5, [.ref (ad 1), .ref (ad 18), .int v])) = wX g ad (up2 mem 17 2 v) := rfl
theorem wX_18 {g : gG} {ad : Nat → Nat} {mem : Mem} : (wX g ad mem)[18]? = some (ad 18, .inl (g.2.1, 6, .inl (mem 18))) := rfl
theorem wX_s18 {g : gG} {ad : Nat → Nat} {mem : Mem} {f : Nat → Int32} : (wX g ad mem).set 18 (ad 18, .inl (g.2.1, 6, .inl f)) = wX g ad (upc mem 18 f) := rfl
theorem wX_19 {g : gG} {ad : Nat → Nat} {mem : Mem} : (wX g ad mem)[19]? = some (ad 19, .inr (2, [.ref (ad 1), .ref (ad 17), .ref (ad 5), .ref (ad 20), .int (mem 19 4)])) := rfl
theorem wX_s19_4 {g : gG} {ad : Nat → Nat} {mem : Mem} {v : Int32} : (wX g ad mem).set 19 (ad 19, .inr (2, [.ref (ad 1), .ref (ad 17), .ref (ad 5), .ref (ad 20), .int v])) = wX g ad (up2 mem 19 4 v) := rfl
theorem wX_20 {g : gG} {ad : Nat → Nat} {mem : Mem} : (wX g ad mem)[20]? = some (ad 20, .inl (g.2.1, 20, .inl (mem 20))) := rfl
theorem wX_s20 {g : gG} {ad : Nat → Nat} {mem : Mem} {f : Nat → Int32} : (wX g ad mem).set 20 (ad 20, .inl (g.2.1, 20, .inl f)) = wX g ad (upc mem 20 f) := rfl
theorem wX_21 {g : gG} {ad : Nat → Nat} {mem : Mem} : (wX g ad mem)[21]? = some (ad 21, .inr (1, [.ref (ad 22), .ref (ad 23), .ref (ad 24), .ref (ad 25), .ref (ad 26), .int (mem 21 5)])) := rfl
theorem wX_s21_5 {g : gG} {ad : Nat → Nat} {mem : Mem} {v : Int32} : (wX g ad mem).set 21 (ad 21, .inr (1, [.ref (ad 22), .ref (ad 23), .ref (ad 24), .ref (ad 25), .ref (ad 26), .int v])) = wX g ad (up2 mem 21 5 v) := rfl
theorem wX_22 {g : gG} {ad : Nat → Nat} {mem : Mem} : (wX g ad mem)[22]? = some (ad 22, .inl (g.2.1, 5, .inl (mem 22))) := rfl
theorem wX_s22 {g : gG} {ad : Nat → Nat} {mem : Mem} {f : Nat → Int32} : (wX g ad mem).set 22 (ad 22, .inl (g.2.1, 5, .inl f)) = wX g ad (upc mem 22 f) := rfl
theorem wX_23 {g : gG} {ad : Nat → Nat} {mem : Mem} : (wX g ad mem)[23]? = some (ad 23, .inl (g.2.1, 5, .inl (mem 23))) := rfl
theorem wX_s23 {g : gG} {ad : Nat → Nat} {mem : Mem} {f : Nat → Int32} : (wX g ad mem).set 23 (ad 23, .inl (g.2.1, 5, .inl f)) = wX g ad (upc mem 23 f) := rfl
theorem wX_24 {g : gG} {ad : Nat → Nat} {mem : Mem} : (wX g ad mem)[24]? = some (ad 24, .inl (g.2.1, 5, .inl (mem 24))) := rfl
theorem wX_s24 {g : gG} {ad : Nat → Nat} {mem : Mem} {f : Nat → Int32} : (wX g ad mem).set 24 (ad 24, .inl (g.2.1, 5, .inl f)) = wX g ad (upc mem 24 f) := rfl
theorem wX_25 {g : gG} {ad : Nat → Nat} {mem : Mem} : (wX g ad mem)[25]? = some (ad 25, .inl (g.2.1, 5, .inl (mem 25))) := rfl
theorem wX_s25 {g : gG} {ad : Nat → Nat} {mem : Mem} {f : Nat → Int32} : (wX g ad mem).set 25 (ad 25, .inl (g.2.1, 5, .inl f)) = wX g ad (upc mem 25 f) := rfl
theorem wX_26 {g : gG} {ad : Nat → Nat} {mem : Mem} : (wX g ad mem)[26]? = some (ad 26, .inl (g.2.1, 3, .inl (mem 26))) := rfl
theorem wX_s26 {g : gG} {ad : Nat → Nat} {mem : Mem} {f : Nat → Int32} : (wX g ad mem).set 26 (ad 26, .inl (g.2.1, 3, .inl f)) = wX g ad (upc mem 26 f) := rfl
theorem wX_27 {g : gG} {ad : Nat → Nat} {mem : Mem} : (wX g ad mem)[27]? = some (ad 27, .inr (0, [.ref (ad 1), .ref (ad 28), .int (mem 27 2)])) := rfl
theorem wX_s27_2 {g : gG} {ad : Nat → Nat} {mem : Mem} {v : Int32} : (wX g ad mem).set 27 (ad 27, .inr (0, [.ref (ad 1), .ref (ad 28), .int v])) = wX g ad (up2 mem 27 2 v) := rfl
theorem wX_28 {g : gG} {ad : Nat → Nat} {mem : Mem} : (wX g ad mem)[28]? = some (ad 28, .inl (g.2.1, 10, .inl (mem 28))) := rfl
theorem wX_s28 {g : gG} {ad : Nat → Nat} {mem : Mem} {f : Nat → Int32} : (wX g ad mem).set 28 (ad 28, .inl (g.2.1, 10, .inl f)) = wX g ad (upc mem 28 f) := rfl
theorem wX_29 {g : gG} {ad : Nat → Nat} {mem : Mem} : (wX g ad mem)[29]? = some (ad 29, .inr (3, [.ref (ad 30), .ref (ad 31), .ref (ad 32), .ref (ad 33), .ref (ad 34), .int (mem 29 5), .int (mem 29 6)])) := rfl
theorem wX_s29_5 {g : gG} {ad : Nat → Nat} {mem : Mem} {v : Int32} : (wX g ad mem).set 29 (ad 29, .inr (3, [.ref (ad 30), .ref (ad 31), .ref (ad 32), .ref (ad 33), .ref (ad 34), .int v, .int (mem 29 6)])) = wX g ad (up2 mem 29 5 v) := rfl
theorem wX_s29_6 {g : gG} {ad : Nat → Nat} {mem : Mem} {v : Int32} : (wX g ad mem).set 29 (ad 29, .inr (3, [.ref (ad 30), .ref (ad 31), .ref (ad 32), .ref (ad 33), .ref (ad 34), .int (mem 29 5), .int v])) = wX g ad (up2 mem 29 6 v) := rfl
theorem wX_30 {g : gG} {ad : Nat → Nat} {mem : Mem} : (wX g ad mem)[30]? = some (ad 30, .inl (g.2.1, 100, .inl (mem 30))) := rfl
theorem wX_s30 {g : gG} {ad : Nat → Nat} {mem : Mem} {f : Nat → Int32} : (wX g ad mem).set 30 (ad 30, .inl (g.2.1, 100, .inl f)) = wX g ad (upc mem 30 f) := rfl
theorem wX_31 {g : gG} {ad : Nat → Nat} {mem : Mem} : (wX g ad mem)[31]? = some (ad 31, .inl (g.2.1, 100, .inl (mem 31))) := rfl
theorem wX_s31 {g : gG} {ad : Nat → Nat} {mem : Mem} {f : Nat → Int32} : (wX g ad mem).set 31 (ad 31, .inl (g.2.1, 100, .inl f)) = wX g ad (upc mem 31 f) := rfl
theorem wX_32 {g : gG} {ad : Nat → Nat} {mem : Mem} : (wX g ad mem)[32]? = some (ad 32, .inl (g.2.1, 100, .inl (mem 32))) := rfl
theorem wX_s32 {g : gG} {ad : Nat → Nat} {mem : Mem} {f : Nat → Int32} : (wX g ad mem).set 32 (ad 32, .inl (g.2.1, 100, .inl f)) = wX g ad (upc mem 32 f) := rfl
theorem wX_33 {g : gG} {ad : Nat → Nat} {mem : Mem} : (wX g ad mem)[33]? = some (ad 33, .inl (g.2.1, 40, .inl (mem 33))) := rfl
theorem wX_s33 {g : gG} {ad : Nat → Nat} {mem : Mem} {f : Nat → Int32} : (wX g ad mem).set 33 (ad 33, .inl (g.2.1, 40, .inl f)) = wX g ad (upc mem 33 f) := rfl
theorem wX_34 {g : gG} {ad : Nat → Nat} {mem : Mem} : (wX g ad mem)[34]? = some (ad 34, .inl (g.2.1, 40, .inl (mem 34))) := rfl
theorem wX_s34 {g : gG} {ad : Nat → Nat} {mem : Mem} {f : Nat → Int32} : (wX g ad mem).set 34 (ad 34, .inl (g.2.1, 40, .inl f)) = wX g ad (upc mem 34 f) := rfl
theorem wX_35 {g : gG} {ad : Nat → Nat} {mem : Mem} : (wX g ad mem)[35]? = some (ad 35, .inl (g.2.2.2, 4, .inr (.inr (.inr (.inr (fun j => some (ad (36 + 2 * j)))))))) := rfl
theorem wX_36 {g : gG} {ad : Nat → Nat} {mem : Mem} : (wX g ad mem)[36]? = some (ad 36, .inr (6, [.ref (ad 37), .int (mem 36 1), .int (mem 36 2)])) := rfl
theorem wX_s36_1 {g : gG} {ad : Nat → Nat} {mem : Mem} {v : Int32} : (wX g ad mem).set 36 (ad 36, .inr (6, [.ref (ad 37), .int v, .int (mem 36 2)])) = wX g ad (up2 mem 36 1 v) := rfl
theorem wX_s36_2 {g : gG} {ad : Nat → Nat} {mem : Mem} {v : Int32} : (wX g ad mem).set 36 (ad 36, .inr (6, [.ref (ad 37), .int (mem 36 1), .int v])) = wX g ad (up2 mem 36 2 v) := rfl
theorem wX_37 {g : gG} {ad : Nat → Nat} {mem : Mem} : (wX g ad mem)[37]? = some (ad 37, .inl (g.2.1, 12, .inl (mem 37))) := rfl
theorem wX_s37 {g : gG} {ad : Nat → Nat} {mem : Mem} {f : Nat → Int32} : (wX g ad mem).set 37 (ad 37, .inl (g.2.1, 12, .inl f)) = wX g ad (upc mem 37 f) := rfl
theorem wX_38 {g : gG} {ad : Nat → Nat} {mem : Mem} : (wX g ad mem)[38]? = some (ad 38, .inr (6, [.ref (ad 39), .int (mem 38 1), .int (mem 38 2)])) := rfl
theorem wX_s38_1 {g : gG} {ad : Nat → Nat} {mem : Mem} {v : Int32} : (wX g ad mem).set 38 (ad 38, .inr (6, [.ref (ad 39), .int v, .int (mem 38 2)])) = wX g ad (up2 mem 38 1 v) := rfl
theorem wX_s38_2 {g : gG} {ad : Nat → Nat} {mem : Mem} {v : Int32} : (wX g ad mem).set 38 (ad 38, .inr (6, [.ref (ad 39), .int (mem 38 1), .int v])) = wX g ad (up2 mem 38 2 v) := rfl
theorem wX_39 {g : gG} {ad : Nat → Nat} {mem : Mem} : (wX g ad mem)[39]? = some (ad 39, .inl (g.2.1, 12, .inl (mem 39))) := rfl
theorem wX_s39 {g : gG} {ad : Nat → Nat} {mem : Mem} {f : Nat → Int32} : (wX g ad mem).set 39 (ad 39, .inl (g.2.1, 12, .inl f)) = wX g ad (upc mem 39 f) := rfl
theorem wX_40 {g : gG} {ad : Nat → Nat} {mem : Mem} : (wX g ad mem)[40]? = some (ad 40, .inr (6, [.ref (ad 41), .int (mem 40 1), .int (mem 40 2)])) := rfl
theorem wX_s40_1 {g : gG} {ad : Nat → Nat} {mem : Mem} {v : Int32} : (wX g ad mem).set 40 (ad 40, .inr (6, [.ref (ad 41), .int v, .int (mem 40 2)])) = wX g ad (up2 mem 40 1 v) := rfl
theorem wX_s40_2 {g : gG} {ad : Nat → Nat} {mem : Mem} {v : Int32} : (wX g ad mem).set 40 (ad 40, .inr (6, [.ref (ad 41), .int (mem 40 1), .int v])) = wX g ad (up2 mem 40 2 v) := rfl
theorem wX_41 {g : gG} {ad : Nat → Nat} {mem : Mem} : (wX g ad mem)[41]? = some (ad 41, .inl (g.2.1, 12, .inl (mem 41))) := rfl
theorem wX_s41 {g : gG} {ad : Nat → Nat} {mem : Mem} {f : Nat → Int32} : (wX g ad mem).set 41 (ad 41, .inl (g.2.1, 12, .inl f)) = wX g ad (upc mem 41 f) := rfl
theorem wX_42 {g : gG} {ad : Nat → Nat} {mem : Mem} : (wX g ad mem)[42]? = some (ad 42, .inr (6, [.ref (ad 43), .int (mem 42 1), .int (mem 42 2)])) := rfl
theorem wX_s42_1 {g : gG} {ad : Nat → Nat} {mem : Mem} {v : Int32} : (wX g ad mem).set 42 (ad 42, .inr (6, [.ref (ad 43), .int v, .int (mem 42 2)])) = wX g ad (up2 mem 42 1 v) := rfl
theorem wX_s42_2 {g : gG} {ad : Nat → Nat} {mem : Mem} {v : Int32} : (wX g ad mem).set 42 (ad 42, .inr (6, [.ref (ad 43), .int (mem 42 1), .int v])) = wX g ad (up2 mem 42 2 v) := rfl
theorem wX_43 {g : gG} {ad : Nat → Nat} {mem : Mem} : (wX g ad mem)[43]? = some (ad 43, .inl (g.2.1, 12, .inl (mem 43))) := rfl
theorem wX_s43 {g : gG} {ad : Nat → Nat} {mem : Mem} {f : Nat → Int32} : (wX g ad mem).set 43 (ad 43, .inl (g.2.1, 12, .inl f)) = wX g ad (upc mem 43 f) := rfl
theorem wX_fst {g : gG} {ad : Nat → Nat} {mem : Mem} : (wX g ad mem).map Prod.fst = (List.range 44).map ad := rfl
theorem wX_D {g : gG} {ad : Nat → Nat} {mem : Mem} (h : Apt 44 ad) : va_D (AW 44 ad) (wX g ad mem) := wD_of wX_fst h
def wM (g : gG) (ad : Nat → Nat) (mem : Mem) : va_W := [(ad 0, .inr (9, [.int (mem 0 0), .ref (ad 1), .ref (ad 2), .ref (ad 3), .ref (ad 4), .ref (ad 5), .int (mem 0 6), .ref (ad 6), .ref (ad 7), .int (mem 0 9), .ref (ad 8), .int (mem 0 11), .int (mem 0 12), .ref (ad 9), .ref (ad 10), .ref (ad 11), .ref (ad 12), .ref (ad 13), .int (mem 0 18), .ref (ad 14), .int (mem 0 20), .int (mem 0 21), .ref (ad 15), .ref (ad 16), .ref (ad 17), .int (mem 0 25), .ref (ad 18), .ref (ad 19), .ref (ad 20), .ref (ad 21), .ref (ad 22), .int (mem 0 31), .ref (ad 23), .int (mem 0 33), .ref (ad 24), .ref (ad 25), .ref (ad 26), .ref (ad 27), .ref (ad 28)])), (ad 1, .inl (g.2.1, 10, .inl (mem 1))), (ad 2, .inl (g.2.1, 10, .inl (mem 2))), (ad 3, .inl (g.2.2.1, 10, .inl (mem 3))), (ad 4, .inl (g.2.1, 10, .inl (mem 4))), (ad 5, .inl (g.2.1, 10, .inl (mem 5))), (ad 6, .inl (g.2.1, 20, .inl (mem 6))), (ad 7, .inl (g.2.1, 20, .inl (mem 7))), (ad 8, .inl (g.2.1, 6, .inl (mem 8))), (ad 9, .inl (g.2.1, 5, .inl (mem 9))), (ad 10, .inl (g.2.1, 5, .inl (mem 10))), (ad 11, .inl (g.2.1, 5, .inl (mem 11))), (ad 12, .inl (g.2.1, 5, .inl (mem 12))), (ad 13, .inl (g.2.1, 3, .inl (mem 13))), (ad 14, .inl (g.2.1, 10, .inl (mem 14))), (ad 15, .inl (g.2.1, 100, .inl (mem 15))), (ad 16, .inl (g.2.1, 100, .inl (mem 16))), (ad 17, .inl (g.2.1, 100, .inl (mem 17))), (ad 18, .inl (g.2.1, 41, .inl (mem 18))), (ad 19, .inl (g.2.1, 41, .inl (mem 19))), (ad 20, .inl (g.2.1, 4, .inl (mem 20))), (ad 21, .inl (g.2.1, 4, .inl (mem 21))), (ad 22, .inl (g.2.1, 48, .inl (mem 22))), (ad 23, .inl (g.2.1, 20, .inl (mem 23))), (ad 24, .inl (g.2.1, 20, .inl (mem 24))), (ad 25, .inl (g.2.1, 20, .inl (mem 25))), (ad 26, .inl (g.2.1, 10, .inl (mem 26))), (ad 27, .inl (g.2.1, 10, .inl (mem 27))), (ad 28, .inl (g.2.1, 12, .inl (mem 28)))]
theorem wM_0 {g : gG} {ad : Nat → Nat} {mem : Mem} : (wM g ad mem)[0]? = some (ad 0, .inr (9, [.int (mem 0 0), .ref (ad 1), .ref (ad 2), .ref (ad 3), .ref (ad 4), .ref (ad 5), .int (mem 0 6), .ref (ad 6), .ref (ad 7), .int (mem 0 9), .ref (ad 8), .int (mem 0 11), .int (mem 0 12), .ref (ad 9), .ref (ad 10), .ref (ad 11), .ref (ad 12), .ref (ad 13), .int (mem 0 18), .ref (ad 14), .int (mem 0 20), .int (mem 0 21), .ref (ad 15), .ref (ad 16), .ref (ad 17), .int (mem 0 25), .ref (ad 18), .ref (ad 19), .ref (ad 20), .ref (ad 21), .ref (ad 22), .int (mem 0 31), .ref (ad 23), .int (mem 0 33), .ref (ad 24), .ref (ad 25), .ref (ad 26), .ref (ad 27), .ref (ad 28)])) := rfl
theorem wM_s0_0 {g : gG} {ad : Nat → Nat} {mem : Mem} {v : Int32} : (wM g ad mem).set 0 (ad 0, .inr (9, [.int v, .ref (ad 1), .ref (ad 2), .ref (ad 3), .ref (ad 4), .ref (ad 5), .int (mem 0 6), .ref (ad 6), .ref (ad 7), .int (mem 0 9), .ref (ad 8), .int (mem 0 11), .int (mem 0 12), .ref (ad 9), .ref (ad 10), .ref (ad 11), .ref (ad 12), .ref (ad 13), .int (mem 0 18), .ref (ad 14), .int (mem 0 20), .int (mem 0 21), .ref (ad 15), .ref (ad 16), .ref (ad 17), .int (mem 0 25), .ref (ad 18), .ref (ad 19), .ref (ad 20), .ref (ad 21), .ref (ad 22), .int (mem 0 31), .ref (ad 23), .int (mem 0 33), .ref (ad 24), .ref (ad 25), .ref (ad 26), .ref (ad 27), .ref (ad 28)])) = wM g ad (up2 mem 0 0 v) := rfl
theorem wM_s0_6 {g : gG} {ad : Nat → Nat} {mem : Mem} {v : Int32} : (wM g ad mem).set 0 (ad 0, .inr (9, [.int (mem 0 0), .ref (ad 1), .ref (ad 2), .ref (ad 3), .ref (ad 4), .ref (ad 5), .int v, .ref (ad 6), .ref (ad 7), .int (mem 0 9), .ref (ad 8), .int (mem 0 11), .int (mem 0 12), .ref (ad 9), .ref (ad 10), .ref (ad 11), .ref (ad 12), .ref (ad 13), .int (mem 0 18), .ref (ad 14), .int (mem 0 20), .int (mem 0 21), .ref (ad 15), .ref (ad 16), .ref (ad 17), .int (mem 0 25), .ref (ad 18), .ref (ad 19), .ref (ad 20), .ref (ad 21), .ref (ad 22), .int (mem 0 31), .ref (ad 23), .int (mem 0 33), .ref (ad 24), .ref (ad 25), .ref (ad 26), .ref (ad 27), .ref (ad 28)])) = wM g ad (up2 mem 0 6 v) := rfl
theorem wM_s0_9 {g : gG} {ad : Nat → Nat} {mem : Mem} {v : Int32} : (wM g ad mem).set 0 (ad 0, .inr (9, [.int (mem 0 0), .ref (ad 1), .ref (ad 2), .ref (ad 3), .ref (ad 4), .ref (ad 5), .int (mem 0 6), .ref (ad 6), .ref (ad 7), .int v, .ref (ad 8), .int (mem 0 11), .int (mem 0 12), .ref (ad 9), .ref (ad 10), .ref (ad 11), .ref (ad 12), .ref (ad 13), .int (mem 0 18), .ref (ad 14), .int (mem 0 20), .int (mem 0 21), .ref (ad 15), .ref (ad 16), .ref (ad 17), .int (mem 0 25), .ref (ad 18), .ref (ad 19), .ref (ad 20), .ref (ad 21), .ref (ad 22), .int (mem 0 31), .ref (ad 23), .int (mem 0 33), .ref (ad 24), .ref (ad 25), .ref (ad 26), .ref (ad 27), .ref (ad 28)])) = wM g ad (up2 mem 0 9 v) := rfl
theorem wM_s0_11 {g : gG} {ad : Nat → Nat} {mem : Mem} {v : Int32} : (wM g ad mem).set 0 (ad 0, .inr (9, [.int (mem 0 0), .ref (ad 1), .ref (ad 2), .ref (ad 3), .ref (ad 4), .ref (ad 5), .int (mem 0 6), .ref (ad 6), .ref (ad 7), .int (mem 0 9), .ref (ad 8), .int v, .int (mem 0 12), .ref (ad 9), .ref (ad 10), .ref (ad 11), .ref (ad 12), .ref (ad 13), .int (mem 0 18), .ref (ad 14), .int (mem 0 20), .int (mem 0 21), .ref (ad 15), .ref (ad 16), .ref (ad 17), .int (mem 0 25), .ref (ad 18), .ref (ad 19), .ref (ad 20), .ref (ad 21), .ref (ad 22), .int (mem 0 31), .ref (ad 23), .int (mem 0 33), .ref (ad 24), .ref (ad 25), .ref (ad 26), .ref (ad 27), .ref (ad 28)])) = wM g ad (up2 mem 0 11 v) := rfl
theorem wM_s0_12 {g : gG} {ad : Nat → Nat} {mem : Mem} {v : Int32} : (wM g ad mem).set 0 (ad 0, .inr (9, [.int (mem 0 0), .ref (ad 1), .ref (ad 2), .ref (ad 3), .ref (ad 4), .ref (ad 5), .int (mem 0 6), .ref (ad 6), .ref (ad 7), .int (mem 0 9), .ref (ad 8), .int (mem 0 11), .int v, .ref (ad 9), .ref (ad 10), .ref (ad 11), .ref (ad 12), .ref (ad 13), .int (mem 0 18), .ref (ad 14), .int (mem 0 20), .int (mem 0 21), .ref (ad 15), .ref (ad 16), .ref (ad 17), .int (mem 0 25), .ref (ad 18), .ref (ad 19), .ref (ad 20), .ref (ad 21), .ref (ad 22), .int (mem 0 31), .ref (ad 23), .int (mem 0 33), .ref (ad 24), .ref (ad 25), .ref (ad 26), .ref (ad 27), .ref (ad 28)])) = wM g ad (up2 mem 0 12 v) := rfl
theorem wM_s0_18 {g : gG} {ad : Nat → Nat} {mem : Mem} {v : Int32} : (wM g ad mem).set 0 (ad 0, .inr (9, [.int (mem 0 0), .ref (ad 1), .ref (ad 2), .ref (ad 3), .ref (ad 4), .ref (ad 5), .int (mem 0 6), .ref (ad 6), .ref (ad 7), .int (mem 0 9), .ref (ad 8), .int (mem 0 11), .int (mem 0 12), .ref (ad 9), .ref (ad 10), .ref (ad 11), .ref (ad 12), .ref (ad 13), .int v, .ref (ad 14), .int (mem 0 20), .int (mem 0 21), .ref (ad 15), .ref (ad 16), .ref (ad 17), .int (mem 0 25), .ref (ad 18), .ref (ad 19), .ref (ad 20), .ref (ad 21), .ref (ad 22), .int (mem 0 31), .ref (ad 23), .int (mem 0 33), .ref (ad 24), .ref (ad 25), .ref (ad 26), .ref (ad 27), .ref (ad 28)])) = wM g ad (up2 mem 0 18 v) := rfl
theorem wM_s0_20 {g : gG} {ad : Nat → Nat} {mem : Mem} {v : Int32} : (wM g ad mem).set 0 (ad 0, .inr (9, [.int (mem 0 0), .ref (ad 1), .ref (ad 2), .ref (ad 3), .ref (ad 4), .ref (ad 5), .int (mem 0 6), .ref (ad 6), .ref (ad 7), .int (mem 0 9), .ref (ad 8), .int (mem 0 11), .int (mem 0 12), .ref (ad 9), .ref (ad 10), .ref (ad 11), .ref (ad 12), .ref (ad 13), .int (mem 0 18), .ref (ad 14), .int v, .int (mem 0 21), .ref (ad 15), .ref (ad 16), .ref (ad 17), .int (mem 0 25), .ref (ad 18), .ref (ad 19), .ref (ad 20), .ref (ad 21), .ref (ad 22), .int (mem 0 31), .ref (ad 23), .int (mem 0 33), .ref (ad 24), .ref (ad 25), .ref (ad 26), .ref (ad 27), .ref (ad 28)])) = wM g ad (up2 mem 0 20 v) := rfl
theorem wM_s0_21 {g : gG} {ad : Nat → Nat} {mem : Mem} {v : Int32} : (wM g ad mem).set 0 (ad 0, .inr (9, [.int (mem 0 0), .ref (ad 1), .ref (ad 2), .ref (ad 3), .ref (ad 4), .ref (ad 5), .int (mem 0 6), .ref (ad 6), .ref (ad 7), .int (mem 0 9), .ref (ad 8), .int (mem 0 11), .int (mem 0 12), .ref (ad 9), .ref (ad 10), .ref (ad 11), .ref (ad 12), .ref (ad 13), .int (mem 0 18), .ref (ad 14), .int (mem 0 20), .int v, .ref (ad 15), .ref (ad 16), .ref (ad 17), .int (mem 0 25), .ref (ad 18), .ref (ad 19), .ref (ad 20), .ref (ad 21), .ref (ad 22), .int (mem 0 31), .ref (ad 23), .int (mem 0 33), .ref (ad 24), .ref (ad 25), .ref (ad 26), .ref (ad 27), .ref (ad 28)])) = wM g ad (up2 mem 0 21 v) := rfl
theorem wM_s0_25 {g : gG} {ad : Nat → Nat} {mem : Mem} {v : Int32} : (wM g ad mem).set 0 (ad 0, .inr (9, [.int (mem 0 0), .ref (ad 1), .ref (ad 2), .ref (ad 3), .ref (ad 4), .ref (ad 5), .int (mem 0 6), .ref (ad 6), .ref (ad 7), .int (mem 0 9), .ref (ad 8), .int (mem 0 11), .int (mem 0 12), .ref (ad 9), .ref (ad 10), .ref (ad 11), .ref (ad 12), .ref (ad 13), .int (mem 0 18), .ref (ad 14), .int (mem 0 20), .int (mem 0 21), .ref (ad 15), .ref (ad 16), .ref (ad 17), .int v, .ref (ad 18), .ref (ad 19), .ref (ad 20), .ref (ad 21), .ref (ad 22), .int (mem 0 31), .ref (ad 23), .int (mem 0 33), .ref (ad 24), .ref (ad 25), .ref (ad 26), .ref (ad 27), .ref (ad 28)])) = wM g ad (up2 mem 0 25 v) := rfl
theorem wM_s0_31 {g : gG} {ad : Nat → Nat} {mem : Mem} {v : Int32} : (wM g ad mem).set 0 (ad 0, .inr (9, [.int (mem 0 0), .ref (ad 1), .ref (ad 2), .ref (ad 3), .ref (ad 4), .ref (ad 5), .int (mem 0 6), .ref (ad 6), .ref (ad 7), .int (mem 0 9), .ref (ad 8), .int (mem 0 11), .int (mem 0 12), .ref (ad 9), .ref (ad 10), .ref (ad 11), .ref (ad 12), .ref (ad 13), .int (mem 0 18), .ref (ad 14), .int (mem 0 20), .int (mem 0 21), .ref (ad 15), .ref (ad 16), .ref (ad 17), .int (mem 0 25), .ref (ad 18), .ref (ad 19), .ref (ad 20), .ref (ad 21), .ref (ad 22), .int v, .ref (ad 23), .int (mem 0 33), .ref (ad 24), .ref (ad 25), .ref (ad 26), .ref (ad 27), .ref (ad 28)])) = wM g ad (up2 mem 0 31 v) := rfl
theorem wM_s0_33 {g : gG} {ad : Nat → Nat} {mem : Mem} {v : Int32} : (wM g ad mem).set 0 (ad 0, .inr (9, [.int (mem 0 0), .ref (ad 1), .ref (ad 2), .ref (ad 3), .ref (ad 4), .ref (ad 5), .int (mem 0 6), .ref (ad 6), .ref (ad 7), .int (mem 0 9), .ref (ad 8), .int (mem 0 11), .int (mem 0 12), .ref (ad 9), .ref (ad 10), .ref (ad 11), .ref (ad 12), .ref (ad 13), .int (mem 0 18), .ref (ad 14), .int (mem 0 20), .int (mem 0 21), .ref (ad 15), .ref (ad 16), .ref (ad 17), .int (mem 0 25), .ref (ad 18), .ref (ad 19), .ref (ad 20), .ref (ad 21), .ref (ad 22), .int (mem 0 31), .ref (ad 23), .int v, .ref (ad 24), .ref (ad 25), .ref (ad 26), .ref (ad 27), .ref (ad 28)])) = wM g ad (up2 mem 0 33 v) := rfl
theorem wM_1 {g : gG} {ad : Nat → Nat} {mem : Mem} : (wM g ad mem)[1]? = some (ad 1, .inl (g.2.1, 10, .inl (mem 1))) := rfl
theorem wM_s1 {g : gG} {ad : Nat → Nat} {mem : Mem} {f : Nat → Int32} : (wM g ad mem).set 1 (ad 1, .inl (g.2.1, 10, .inl f)) = wM g ad (upc mem 1 f) := rfl
theorem wM_2 {g : gG} {ad : Nat → Nat} {mem : Mem} : (wM g ad mem)[2]? = some (ad 2, .inl (g.2.1, 10, .inl (mem 2))) := rfl
theorem wM_s2 {g : gG} {ad : Nat → Nat} {mem : Mem} {f : Nat → Int32} : (wM g ad mem).set 2 (ad 2, .inl (g.2.1, 10, .inl f)) = wM g ad (upc mem 2 f) := rfl
theorem wM_3 {g : gG} {ad : Nat → Nat} {mem : Mem} : (wM g ad mem)[3]? = some (ad 3, .inl (g.2.2.1, 10, .inl (mem 3))) := rfl
theorem wM_s3 {g : gG} {ad : Nat → Nat} {mem : Mem} {f : Nat → Int32} : (wM g ad mem).set 3 (ad 3, .inl (g.2.2.1, 10, .inl f)) = wM g ad (upc mem 3 f) := rfl
theorem wM_4 {g : gG} {ad : Nat → Nat} {mem : Mem} : (wM g ad mem)[4]? = some (ad 4, .inl (g.2.1, 10, .inl (mem 4))) := rfl
theorem wM_s4 {g : gG} {ad : Nat → Nat} {mem : Mem} {f : Nat → Int32} : (wM g ad mem).set 4 (ad 4, .inl (g.2.1, 10, .inl f)) = wM g ad (upc mem 4 f) := rfl
theorem wM_5 {g : gG} {ad : Nat → Nat} {mem : Mem} : (wM g ad mem)[5]? = some (ad 5, .inl (g.2.1, 10, .inl (mem 5))) := rfl
theorem wM_s5 {g : gG} {ad : Nat → Nat} {mem : Mem} {f : Nat → Int32} : (wM g ad mem).set 5 (ad 5, .inl (g.2.1, 10, .inl f)) = wM g ad (upc mem 5 f) := rfl
theorem wM_6 {g : gG} {ad : Nat → Nat} {mem : Mem} : (wM g ad mem)[6]? = some (ad 6, .inl (g.2.1, 20, .inl (mem 6))) := rfl
theorem wM_s6 {g : gG} {ad : Nat → Nat} {mem : Mem} {f : Nat → Int32} : (wM g ad mem).set 6 (ad 6, .inl (g.2.1, 20, .inl f)) = wM g ad (upc mem 6 f) := rfl
theorem wM_7 {g : gG} {ad : Nat → Nat} {mem : Mem} : (wM g ad mem)[7]? = some (ad 7, .inl (g.2.1, 20, .inl (mem 7))) := rfl
theorem wM_s7 {g : gG} {ad : Nat → Nat} {mem : Mem} {f : Nat → Int32} : (wM g ad mem).set 7 (ad 7, .inl (g.2.1, 20, .inl f)) = wM g ad (upc mem 7 f) := rfl
theorem wM_8 {g : gG} {ad : Nat → Nat} {mem : Mem} : (wM g ad mem)[8]? = some (ad 8, .inl (g.2.1, 6, .inl (mem 8))) := rfl
theorem wM_s8 {g : gG} {ad : Nat → Nat} {mem : Mem} {f : Nat → Int32} : (wM g ad mem).set 8 (ad 8, .inl (g.2.1, 6, .inl f)) = wM g ad (upc mem 8 f) := rfl
theorem wM_9 {g : gG} {ad : Nat → Nat} {mem : Mem} : (wM g ad mem)[9]? = some (ad 9, .inl (g.2.1, 5, .inl (mem 9))) := rfl
theorem wM_s9 {g : gG} {ad : Nat → Nat} {mem : Mem} {f : Nat → Int32} : (wM g ad mem).set 9 (ad 9, .inl (g.2.1, 5, .inl f)) = wM g ad (upc mem 9 f) := rfl
theorem wM_10 {g : gG} {ad : Nat → Nat} {mem : Mem} : (wM g ad mem)[10]? = some (ad 10, .inl (g.2.1, 5, .inl (mem 10))) := rfl
theorem wM_s10 {g : gG} {ad : Nat → Nat} {mem : Mem} {f : Nat → Int32} : (wM g ad mem).set 10 (ad 10, .inl (g.2.1, 5, .inl f)) = wM g ad (upc mem 10 f) := rfl
theorem wM_11 {g : gG} {ad : Nat → Nat} {mem : Mem} : (wM g ad mem)[11]? = some (ad 11, .inl (g.2.1, 5, .inl (mem 11))) := rfl
theorem wM_s11 {g : gG} {ad : Nat → Nat} {mem : Mem} {f : Nat → Int32} : (wM g ad mem).set 11 (ad 11, .inl (g.2.1, 5, .inl f)) = wM g ad (upc mem 11 f) := rfl
theorem wM_12 {g : gG} {ad : Nat → Nat} {mem : Mem} : (wM g ad mem)[12]? = some (ad 12, .inl (g.2.1, 5, .inl (mem 12))) := rfl
theorem wM_s12 {g : gG} {ad : Nat → Nat} {mem : Mem} {f : Nat → Int32} : (wM g ad mem).set 12 (ad 12, .inl (g.2.1, 5, .inl f)) = wM g ad (upc mem 12 f) := rfl
theorem wM_13 {g : gG} {ad : Nat → Nat} {mem : Mem} : (wM g ad mem)[13]? = some (ad 13, .inl (g.2.1, 3, .inl (mem 13))) := rfl
theorem wM_s13 {g : gG} {ad : Nat → Nat} {mem : Mem} {f : Nat → Int32} : (wM g ad mem).set 13 (ad 13, .inl (g.2.1, 3, .inl f)) = wM g ad (upc mem 13 f) := rfl
theorem wM_14 {g : gG} {ad : Nat → Nat} {mem : Mem} : (wM g ad mem)[14]? = some (ad 14, .inl (g.2.1, 10, .inl (mem 14))) := rfl
theorem wM_s14 {g : gG} {ad : Nat → Nat} {mem : Mem} {f : Nat → Int32} : (wM g ad mem).set 14 (ad 14, .inl (g.2.1, 10, .inl f)) = wM g ad (upc mem 14 f) := rfl
theorem wM_15 {g : gG} {ad : Nat → Nat} {mem : Mem} : (wM g ad mem)[15]? = some (ad 15, .inl (g.2.1, 100, .inl (mem 15))) := rfl
theorem wM_s15 {g : gG} {ad : Nat → Nat} {mem : Mem} {f : Nat → Int32} : (wM g ad mem).set 15 (ad 15, .inl (g.2.1, 100, .inl f)) = wM g ad (upc mem 15 f) := rfl
theorem wM_16 {g : gG} {ad : Nat → Nat} {mem : Mem} : (wM g ad mem)[16]? = some (ad 16, .inl (g.2.1, 100, .inl (mem 16))) := rfl
theorem wM_s16 {g : gG} {ad : Nat → Nat} {mem : Mem} {f : Nat → Int32} : (wM g ad mem).set 16 (ad 16, .inl (g.2.1, 100, .inl f)) = wM g ad (upc mem 16 f) := rfl
theorem wM_17 {g : gG} {ad : Nat → Nat} {mem : Mem} : (wM g ad mem)[17]? = some (ad 17, .inl (g.2.1, 100, .inl (mem 17))) := rfl
theorem wM_s17 {g : gG} {ad : Nat → Nat} {mem : Mem} {f : Nat → Int32} : (wM g ad mem).set 17 (ad 17, .inl (g.2.1, 100, .inl f)) = wM g ad (upc mem 17 f) := rfl
theorem wM_18 {g : gG} {ad : Nat → Nat} {mem : Mem} : (wM g ad mem)[18]? = some (ad 18, .inl (g.2.1, 41, .inl (mem 18))) := rfl
theorem wM_s18 {g : gG} {ad : Nat → Nat} {mem : Mem} {f : Nat → Int32} : (wM g ad mem).set 18 (ad 18, .inl (g.2.1, 41, .inl f)) = wM g ad (upc mem 18 f) := rfl
theorem wM_19 {g : gG} {ad : Nat → Nat} {mem : Mem} : (wM g ad mem)[19]? = some (ad 19, .inl (g.2.1, 41, .inl (mem 19))) := rfl
theorem wM_s19 {g : gG} {ad : Nat → Nat} {mem : Mem} {f : Nat → Int32} : (wM g ad mem).set 19 (ad 19, .inl (g.2.1, 41, .inl f)) = wM g ad (upc mem 19 f) := rfl
theorem wM_20 {g : gG} {ad : Nat → Nat} {mem : Mem} : (wM g ad mem)[20]? = some (ad 20, .inl (g.2.1, 4, .inl (mem 20))) := rfl
theorem wM_s20 {g : gG} {ad : Nat → Nat} {mem : Mem} {f : Nat → Int32} : (wM g ad mem).set 20 (ad 20, .inl (g.2.1, 4, .inl f)) = wM g ad (upc mem 20 f) := rfl
theorem wM_21 {g : gG} {ad : Nat → Nat} {mem : Mem} : (wM g ad mem)[21]? = some (ad 21, .inl (g.2.1, 4, .inl (mem 21))) := rfl
theorem wM_s21 {g : gG} {ad : Nat → Nat} {mem : Mem} {f : Nat → Int32} : (wM g ad mem).set 21 (ad 21, .inl (g.2.1, 4, .inl f)) = wM g ad (upc mem 21 f) := rfl
theorem wM_22 {g : gG} {ad : Nat → Nat} {mem : Mem} : (wM g ad mem)[22]? = some (ad 22, .inl (g.2.1, 48, .inl (mem 22))) := rfl
theorem wM_s22 {g : gG} {ad : Nat → Nat} {mem : Mem} {f : Nat → Int32} : (wM g ad mem).set 22 (ad 22, .inl (g.2.1, 48, .inl f)) = wM g ad (upc mem 22 f) := rfl
theorem wM_23 {g : gG} {ad : Nat → Nat} {mem : Mem} : (wM g ad mem)[23]? = some (ad 23, .inl (g.2.1, 20, .inl (mem 23))) := rfl
theorem wM_s23 {g : gG} {ad : Nat → Nat} {mem : Mem} {f : Nat → Int32} : (wM g ad mem).set 23 (ad 23, .inl (g.2.1, 20, .inl f)) = wM g ad (upc mem 23 f) := rfl
theorem wM_24 {g : gG} {ad : Nat → Nat} {mem : Mem} : (wM g ad mem)[24]? = some (ad 24, .inl (g.2.1, 20, .inl (mem 24))) := rfl
theorem wM_s24 {g : gG} {ad : Nat → Nat} {mem : Mem} {f : Nat → Int32} : (wM g ad mem).set 24 (ad 24, .inl (g.2.1, 20, .inl f)) = wM g ad (upc mem 24 f) := rfl
theorem wM_25 {g : gG} {ad : Nat → Nat} {mem : Mem} : (wM g ad mem)[25]? = some (ad 25, .inl (g.2.1, 20, .inl (mem 25))) := rfl
theorem wM_s25 {g : gG} {ad : Nat → Nat} {mem : Mem} {f : Nat → Int32} : (wM g ad mem).set 25 (ad 25, .inl (g.2.1, 20, .inl f)) = wM g ad (upc mem 25 f) := rfl
theorem wM_26 {g : gG} {ad : Nat → Nat} {mem : Mem} : (wM g ad mem)[26]? = some (ad 26, .inl (g.2.1, 10, .inl (mem 26))) := rfl
theorem wM_s26 {g : gG} {ad : Nat → Nat} {mem : Mem} {f : Nat → Int32} : (wM g ad mem).set 26 (ad 26, .inl (g.2.1, 10, .inl f)) = wM g ad (upc mem 26 f) := rfl
theorem wM_27 {g : gG} {ad : Nat → Nat} {mem : Mem} : (wM g ad mem)[27]? = some (ad 27, .inl (g.2.1, 10, .inl (mem 27))) := rfl
theorem wM_s27 {g : gG} {ad : Nat → Nat} {mem : Mem} {f : Nat → Int32} : (wM g ad mem).set 27 (ad 27, .inl (g.2.1, 10, .inl f)) = wM g ad (upc mem 27 f) := rfl
theorem wM_28 {g : gG} {ad : Nat → Nat} {mem : Mem} : (wM g ad mem)[28]? = some (ad 28, .inl (g.2.1, 12, .inl (mem 28))) := rfl
theorem wM_s28 {g : gG} {ad : Nat → Nat} {mem : Mem} {f : Nat → Int32} : (wM g ad mem).set 28 (ad 28, .inl (g.2.1, 12, .inl f)) = wM g ad (upc mem 28 f) := rfl
theorem wM_fst {g : gG} {ad : Nat → Nat} {mem : Mem} : (wM g ad mem).map Prod.fst = (List.range 29).map ad := rfl
theorem wM_D {g : gG} {ad : Nat → Nat} {mem : Mem} (h : Apt 29 ad) : va_D (AW 29 ad) (wM g ad mem) := wD_of wM_fst h
abbrev isSt (k : Nat) : Prop := k = 5 ∨ k = 11
theorem wX_St {g : gG} {ad : Nat → Nat} {mem : Mem} {k : Nat} (hk : isSt k) : (wX g ad mem)[k]? = some (ad k, .inr (7, [.ref (ad 1), .ref (ad (k + 1)), .ref (ad (k + 2)), .ref (ad (k + 3)), .ref (ad (k + 4)), .ref (ad (k + 5)), .int (mem k 6), .int (mem k 7)])) := by
  rcases hk with rfl | rfl <;> rfl
theorem wX_St_1 {g : gG} {ad : Nat → Nat} {mem : Mem} {k : Nat} (hk : isSt k) : (wX g ad mem)[k + 1]? = some (ad (k + 1), .inl (g.2.1, 20, .inl (mem (k + 1)))) := by
  rcases hk with rfl | rfl <;> rfl
theorem wX_St_s1 {g : gG} {ad : Nat → Nat} {mem : Mem} {k : Nat} {f : Nat → Int32} (hk : isSt k) : (wX g ad mem).set (k + 1) (ad (k + 1), .inl (g.2.1, 20, .inl f)) = wX g ad (upc mem (k + 1) f) := by
  rcases hk with rfl | rfl <;> rfl
theorem wX_St_2 {g : gG} {ad : Nat → Nat} {mem : Mem} {k : Nat} (hk : isSt k) : (wX g ad mem)[k + 2]? = some (ad (k + 2), .inl (g.2.1, 20, .inl (mem (k + 2)))) := by
  rcases hk with rfl | rfl <;> rfl
theorem wX_St_s2 {g : gG} {ad : Nat → Nat} {mem : Mem} {k : Nat} {f : Nat → Int32} (hk : isSt k) : (wX g ad mem).set (k + 2) (ad (k + 2), .inl (g.2.1, 20, .inl f)) = wX g ad (upc mem (k + 2) f) := by
  rcases hk with rfl | rfl <;> rfl
theorem wX_St_3 {g : gG} {ad : Nat → Nat} {mem : Mem} {k : Nat} (hk : isSt k) : (wX g ad mem)[k + 3]? = some (ad (k + 3), .inl (g.2.1, 10, .inl (mem (k + 3)))) := by
  rcases hk with rfl | rfl <;> rfl
theorem wX_St_s3 {g : gG} {ad : Nat → Nat} {mem : Mem} {k : Nat} {f : Nat → Int32} (hk : isSt k) : (wX g ad mem).set (k + 3) (ad (k + 3), .inl (g.2.1, 10, .inl f)) = wX g ad (upc mem (k + 3) f) := by
  rcases hk with rfl | rfl <;> rfl
theorem wX_St_4 {g : gG} {ad : Nat → Nat} {mem : Mem} {k : Nat} (hk : isSt k) : (wX g ad mem)[k + 4]? = some (ad (k + 4), .inl (g.2.1, 10, .inl (mem (k + 4)))) := by
  rcases hk with rfl | rfl <;> rfl
theorem wX_St_s4 {g : gG} {ad : Nat → Nat} {mem : Mem} {k : Nat} {f : Nat → Int32} (hk : isSt k) : (wX g ad mem).set (k + 4) (ad (k + 4), .inl (g.2.1, 10, .inl f)) = wX g ad (upc mem (k + 4) f) := by
  rcases hk with rfl | rfl <;> rfl
theorem wX_St_5 {g : gG} {ad : Nat → Nat} {mem : Mem} {k : Nat} (hk : isSt k) : (wX g ad mem)[k + 5]? = some (ad (k + 5), .inl (g.2.1, 5, .inl (mem (k + 5)))) := by
  rcases hk with rfl | rfl <;> rfl
theorem wX_St_s5 {g : gG} {ad : Nat → Nat} {mem : Mem} {k : Nat} {f : Nat → Int32} (hk : isSt k) : (wX g ad mem).set (k + 5) (ad (k + 5), .inl (g.2.1, 5, .inl f)) = wX g ad (upc mem (k + 5) f) := by
  rcases hk with rfl | rfl <;> rfl
theorem wX_St_s_6 {g : gG} {ad : Nat → Nat} {mem : Mem} {k : Nat} {v : Int32} (hk : isSt k) : (wX g ad mem).set k (ad k, .inr (7, [.ref (ad 1), .ref (ad (k + 1)), .ref (ad (k + 2)), .ref (ad (k + 3)), .ref (ad (k + 4)), .ref (ad (k + 5)), .int v, .int (mem k 7)])) = wX g ad (up2 mem k 6 v) := by
  rcases hk with rfl | rfl <;> rfl
theorem wX_St_s_7 {g : gG} {ad : Nat → Nat} {mem : Mem} {k : Nat} {v : Int32} (hk : isSt k) : (wX g ad mem).set k (ad k, .inr (7, [.ref (ad 1), .ref (ad (k + 1)), .ref (ad (k + 2)), .ref (ad (k + 3)), .ref (ad (k + 4)), .ref (ad (k + 5)), .int (mem k 6), .int v])) = wX g ad (up2 mem k 7 v) := by
  rcases hk with rfl | rfl <;> rfl
abbrev isSh (k : Nat) : Prop := k = 36 ∨ k = 38 ∨ k = 40 ∨ k = 42
theorem wX_Sh {g : gG} {ad : Nat → Nat} {mem : Mem} {k : Nat} (hk : isSh k) : (wX g ad mem)[k]? = some (ad k, .inr (6, [.ref (ad (k + 1)), .int (mem k 1), .int (mem k 2)])) := by
  rcases hk with rfl | rfl | rfl | rfl <;> rfl
theorem wX_Sh_1 {g : gG} {ad : Nat → Nat} {mem : Mem} {k : Nat} (hk : isSh k) : (wX g ad mem)[k + 1]? = some (ad (k + 1), .inl (g.2.1, 12, .inl (mem (k + 1)))) := by
  rcases hk with rfl | rfl | rfl | rfl <;> rfl
theorem wX_Sh_s1 {g : gG} {ad : Nat → Nat} {mem : Mem} {k : Nat} {f : Nat → Int32} (hk : isSh k) : (wX g ad mem).set (k + 1) (ad (k + 1), .inl (g.2.1, 12, .inl f)) = wX g ad (upc mem (k + 1) f) := by
  rcases hk with rfl | rfl | rfl | rfl <;> rfl
theorem wX_Sh_s_1 {g : gG} {ad : Nat → Nat} {mem : Mem} {k : Nat} {v : Int32} (hk : isSh k) : (wX g ad mem).set k (ad k, .inr (6, [.ref (ad (k + 1)), .int v, .int (mem k 2)])) = wX g ad (up2 mem k 1 v) := by
  rcases hk with rfl | rfl | rfl | rfl <;> rfl
theorem wX_Sh_s_2 {g : gG} {ad : Nat → Nat} {mem : Mem} {k : Nat} {v : Int32} (hk : isSh k) : (wX g ad mem).set k (ad k, .inr (6, [.ref (ad (k + 1)), .int (mem k 1), .int v])) = wX g ad (up2 mem k 2 v) := by
  rcases hk with rfl | rfl | rfl | rfl <;> rfl

/-- KIND_ABOVE -/
def kab : Nat → Int32 := fun j => if j = 3 then 1 else 0
def eM (g : gG) (ad : Nat → Nat) (U : State) : Prop := va_K g.1 vwCl (tyG g) U ∧ Apt 29 ad
/-- what of a state stays good when the machine goes on, and the heap changes in A alone -/
def Est (A : Nat → Prop) (E : State → Prop) : Prop := ∀ u U : State, u.WarmedH U.vm → u.heap.size ≤ U.heap.size → (∀ q : Nat, q < u.heap.size → ¬ A q → U.heap[q]? = u.heap[q]?) → E u → E U
theorem nw_meth : ∀ w ∈ nw, ∃ a i x h, w = Cond.methodLinkNest a i x h := by
  unfold nw
  simp only [List.forall_mem_cons]
  repeat' first | exact fun _ h => absurd h List.not_mem_nil | refine ⟨⟨_, _, _, _, rfl⟩, ?_⟩
def rdT (a n : Nat) (f : Nat → Int32) (U : State) (H : Heap) : Prop := va_T .int a n (fun j => .int (f j)) (fun _ => False) U H
theorem rdT_lt {a n : Nat} {f : Nat → Int32} {U : State} {H : Heap} (h : rdT a n f U H) : a < H.size := by
  obtain ⟨cell, h1, -⟩ := h
  exact (Array.getElem?_eq_some_iff.mp h1).1
theorem rdT_kept {a n : Nat} {f : Nat → Int32} {U : State} {H H1 : Heap} (h : rdT a n f U H) (hq : H1[a]? = H[a]?) : rdT a n f U H1 := by
  obtain ⟨cell, h1, h2⟩ := h
  exact ⟨cell, by rw [hq]; exact h1, h2⟩
theorem va_X_lt {b L : Nat} {xs : Nat → Int32} {U : State} {H : Heap} (h : va_X b L xs U H) : b < H.size := by
  obtain ⟨scr, h1, -⟩ := h
  exact (Array.getElem?_eq_some_iff.mp h1).1
def eX (g : gG) (ad : Nat → Nat) (tk : Nat) (U : State) : Prop :=
  va_K g.1 vwCl (tyG g) U ∧ (∀ w ∈ nw, va_Nw w U) ∧ Apt 44 ad ∧ va_Z "SpeakHall$Roster" "KIND_ABOVE" "[I" (.ref tk) (AW 44 ad) U U.heap ∧ rdT tk 4 kab U U.heap ∧ ¬ AW 44 ad tk
theorem eX_st {g : gG} {ad : Nat → Nat} {tk : Nat} : Est (AW 44 ad) (eX g ad tk) := by
  intro u U hW hz hq h
  obtain ⟨hK, hN, hA, hZ, hX, ht⟩ := h
  refine ⟨va_K.moved hW.alike hK, fun w hw => ?_, hA, va_Z.moved hW.alike (hZ.kept (fun a h1 h2 => hq a h1 h2)), va_T.moved hW.alike (rdT_kept hX (hq tk (rdT_lt hX) ht)), ht⟩
  obtain ⟨a, i, x, h, rfl⟩ := nw_meth w hw
  exact va_Nw.warmM hW (hN _ hw)
theorem eM_st {g : gG} {ad : Nat → Nat} : Est (AW 29 ad) (eM g ad) := by
  intro u U hW hz hq h
  exact ⟨va_K.moved hW.alike h.1, h.2⟩
/-- contracts: a start over a world, an end that leaves the heap, an end with a new world -/
def pG (w : va_W) (E : State → Prop) (g : gG) (av : List Value) : Array Value → State → Prop := fun v U => v = av.toArray ∧ va_P g.1 vwCl w U.heap ∧ E U
def qR (rv : Option Value) (ok : Prop) : Array Value → State → Outcome → State → Prop := fun _ st oc t => oc = .returned rv ∧ ok ∧ t.heap = st.heap
def qW (w : va_W) (g : gG) (A : Nat → Prop) (rv : Option Value) (ok : Prop) : Array Value → State → Outcome → State → Prop := fun _ st oc t => oc = .returned rv ∧ ok ∧ va_P g.1 vwCl w t.heap ∧ va_F A st t
def noA : Addr → Prop := fun _ => False
def cxt (E : State → Prop) (cc : ByteArray) (nL : Nat) (own : String) (ret : Option FieldType) (p : Program) (s : State) (m : MethodId) (args : Array Value) (meth : Method) (c : Code) : Prop :=
  p.tables.exec = Jvm.exec ∧ c.code = cc ∧ c.maxLocals = nL ∧ s.vm.findClass own = some m.cls ∧ (∀ w ∈ gw, w.before args s = true) ∧ meth.sig.returnType = ret ∧ meth.locks = false ∧ E s
theorem met_of {l : Launch} {w : va_W} {E : State → Prop} {g : gG} {av : List Value} {y : MethodName} {cc : ByteArray} {nL : Nat} {ret : Option FieldType} {rm : Room} {Qc : Array Value → State → Outcome → State → Prop} {free : Addr → Prop} (hy : plainName y.cls = true) (hav : (lg_sl av).length ≤ nL)
    (body : ∀ (p : Program) (e : Env) (s : State) (m : MethodId) (args : Array Value) (below : List Frame) (meth : Method) (c : Code) (ls : Array Slot), cxt E cc nL y.cls ret p s m args meth c → va_P g.1 vwCl w s.heap → lv_has ls nL (lv_args 0 av) → W p l e rm s m args below meth c s.heap [] 0 0 (MQ below Qc args s 0 0 free) (F0 m 0 ls [])) :
    Met l y (Cond.code y cc nL ret :: gw) rm (pG w E g av) Qc 0 0 free := by
  refine Met.ofW (cc := cc) (maxL := nL) (ret := ret) hy rfl ?_
  intro p e s m args below meth c s₁ B hml hv
  obtain ⟨rfl, hP, hE⟩ := hv
  have hts := atoms_spec (ws := Cond.code y cc nL ret :: gw) B.pre
  rw [lg_entry_eq]
  exact body p e s m _ below meth c _ ⟨B.exec, B.bytes, hml, findClass_of_methodNamed B.named, fun w h => hts w (List.mem_cons_of_mem _ h), B.returns, B.notSynchronized, hE⟩ hP (lv_entry av hav)
def pkV (y : MethodName) (bytes : ByteArray) (maxL : Nat) (ret : Option FieldType) (C : String) (n : Nat) : Prop :=
  Cond.instanceMethod y ∈ gw ∧ Cond.selects C y y ∈ gw ∧ Cond.initialized y.cls ∈ gw ∧ Cond.code y bytes maxL ret ∈ gw ∧ (y.cls ≠ "java/lang/invoke/MethodHandle" ∧ y.cls ≠ "java/lang/invoke/VarHandle" ∧ (parseMethodDescriptor y.desc).map (fun d => d.parameters.length) = some n)
def pkS (y : MethodName) (bytes : ByteArray) (maxL : Nat) (ret : Option FieldType) (n : Nat) : Prop :=
  Cond.static y ∈ gw ∧ Cond.initialized y.cls ∈ gw ∧ Cond.code y bytes maxL ret ∈ gw ∧ (y.cls ≠ "java/lang/invoke/MethodHandle" ∧ y.cls ≠ "java/lang/invoke/VarHandle" ∧ (parseMethodDescriptor y.desc).map (fun d => d.parameters.length) = some n)
theorem gw_goodIn {w : Cond} (h : w ∈ gw) : GoodIn gw (w :: gw) := by
  intro x hx
  have hm : x ∈ gw := (List.mem_cons.mp hx).elim (fun e => e ▸ h) id
  exact ⟨hm, good_of_word (gw_good hm)⟩
theorem pG_blind {A : Nat → Prop} {w : va_W} {E : State → Prop} {g : gG} {av : List Value} (hE : Est A E) : FrameBlind (pG w E g av) := by
  intro a U f mk h
  exact ⟨h.1, h.2.1, hE U (U.calling f mk a) (State.WarmedH.refl U) (Nat.le_refl _) (fun _ _ _ => rfl) h.2.2⟩
section CALLS
variable {p : Program} {l : Launch} {e : Env} {R : Room} {s : State} {m : MethodId} {args : Array Value} {below : List Frame} {meth : Method} {c : Code} {H : Heap} {locs : List Loc} {cells slots : Nat} {Q : State → Prop}
variable {E E' : State → Prop} {A : Nat → Prop} {cc bytes : ByteArray} {nL maxL n index pc : Nat} {own C host : String} {ret ret' : Option FieldType} {g : gG} {w w' : va_W} {y : MethodName} {rm : Room} {As rest st0 : List Value} {b : Nat} {rv : Option Value} {ok : Prop} {ls : Array Slot}
theorem e_at (C0 : cxt E cc nL own ret p s m args meth c) (hE : Est A E) (hS : va_S A s.heap H locs) {U : State} (hU : U.heap = H) (hW : s.WarmedH U.vm) : E U :=
  hE s U hW (by rw [hU]; exact hS.1) (fun q h1 h2 => by rw [hU]; exact hS.2.1 q h1 h2) C0.2.2.2.2.2.2.2
/-- behind a call that leaves the heap -/
theorem go_R {st0 : List Value} (hr : va_Run p l e R s m args below meth c H locs cells slots 0 0 (F0 m pc ls st0) rest (qR rv ok #[]) noA)
    (kk : ok → W p l e R s m args below meth c H locs cells slots Q (F0 m (pc + 3) ls (rv.toList ++ rest))) : W p l e R s m args below meth c H locs cells slots Q (F0 m pc ls st0) := by
  intro T hT X
  obtain ⟨v, st₀, t, T', L, h0, X', hL, e1, e2, ⟨hv, hp, hh⟩, st⟩ := hr T hT X
  cases hv
  obtain ⟨t2, a1, b1⟩ := kk hp T' (by rw [e1, hh, h0]) (Stand.forget X' (fun q h => (hL q h).elim))
  exact ⟨t2, st t2 a1, b1⟩
/-- behind a call with a new world -/
theorem go_W {A1 : Nat → Prop} {st0 : List Value} (hr : va_Run p l e R s m args below meth c H locs cells slots 0 0 (F0 m pc ls st0) rest (qW w' g A1 rv ok #[]) A1) (hS : va_S A s.heap H locs) (hA : ∀ q, A1 q → A q)
    (kk : ∀ (H1 : Heap) (locs1 : List Loc), ok → va_P g.1 vwCl w' H1 → va_S A s.heap H1 locs1 → H.size ≤ H1.size → (∀ q : Nat, q < H.size → ¬ A1 q → H1[q]? = H[q]?) → W p l e R s m args below meth c H1 locs1 cells slots Q (F0 m (pc + 3) ls (rv.toList ++ rest))) : W p l e R s m args below meth c H locs cells slots Q (F0 m pc ls st0) := by
  intro T hT X
  obtain ⟨v, st₀, t, T', L, h0, X', hL, e1, e2, ⟨hv, hp, hPw, hz, hk⟩, st⟩ := hr T hT X
  cases hv
  rw [h0] at hz hk
  rw [← e1] at hz hk hPw
  obtain ⟨t2, a1, b1⟩ := kk T'.heap (locs ++ L) hp hPw ⟨Nat.le_trans hS.1 hz, fun q h1 h2 => by
      rw [hk q (Nat.lt_of_lt_of_le h1 hS.1) (fun z => h2 (hA q z))]; exact hS.2.1 q h1 h2, fun q hq => by
      rcases List.mem_append.mp hq with h | h
      · exact hS.2.2 q h
      · exact hA _ (hL q h)⟩ hz hk T' rfl X'
  exact ⟨t2, st t2 a1, b1⟩
theorem run_V {Qc : State → Outcome → State → Prop} {free : Addr → Prop} (C0 : cxt E cc nL own ret p s m args meth c) (hE' : FrameBlind (pG w E' g (.ref b :: As))) (hP : va_P g.1 vwCl w H) (hU : ∀ U : State, U.heap = H → s.WarmedH U.vm → E' U) (hK : va_K g.1 vwCl (tyG g) s)
    (pk : pkV y bytes maxL ret' C n) (hM : Met l y (Cond.code y bytes maxL ret' :: gw) rm (pG w E' g (.ref b :: As)) (fun _ => Qc) 0 0 free) (hL : Cond.methodLink own index y ∈ gw)
    (hR : rm.cells = 0 ∧ rm.slots = 0 ∧ rm.frames + 1 ≤ R.frames ∧ 8 + (maxL + 11) + rm.locals ≤ R.locals ∧ cells ≤ R.cells ∧ slots ≤ R.slots)
    (q0 : Nat) {ci : Nat} {fs : List Value} {q : vw_C} (he : w[q0]? = some (b, .inr (ci, fs))) (hc : vwCl[ci]? = some q) (hq : q.1 = C) (hn : As.length = n) (hsz : ls.size = nL) (hst : st0 = As.reverse ++ .ref b :: rest) (hcat : (rest.map fun v => v.category).sum ≤ 8)
    (hdg : decode cc pc = .ok (.invokevirtual index, 3)) : va_Run p l e R s m args below meth c H locs cells slots 0 0 (F0 m pc ls st0) rest Qc free := by
  obtain ⟨hx, hb, hml, hown, hts, -⟩ := C0
  obtain ⟨p1, p2, p3, p4, p5⟩ := pk
  obtain ⟨r1, r2, r3, r4, r5, r6⟩ := hR
  subst hq
  exact va_runV (Ts := gw) (As := As) (rest := rest) ⟨hx, hb, hml, hown, hts⟩ hM ⟨callB_of n hts (gw_goodIn p4) rfl r1 r2 (hts _ p3) (hts _ hL) p5 ⟨r3, r4⟩, hts _ p1, hts _ p2⟩
    ⟨hE', va_recv hK hP hc he, fun U hU1 hW => ⟨rfl, by rw [hU1]; exact hP, hU U hU1 hW⟩⟩ rfl hn hsz hst (by show 2 * 0 + _ ≤ 8; omega) hdg ⟨by omega, by omega⟩
theorem run_S {Qc : State → Outcome → State → Prop} {free : Addr → Prop} (C0 : cxt E cc nL own ret p s m args meth c) (hE' : FrameBlind (pG w E' g As)) (hP : va_P g.1 vwCl w H) (hU : ∀ U : State, U.heap = H → s.WarmedH U.vm → E' U)
    (pk : pkS y bytes maxL ret' n) (hM : Met l y (Cond.code y bytes maxL ret' :: gw) rm (pG w E' g As) (fun _ => Qc) 0 0 free) (hL : Cond.methodLink own index y ∈ gw)
    (hR : rm.cells = 0 ∧ rm.slots = 0 ∧ rm.frames + 1 ≤ R.frames ∧ 8 + (maxL + 11) + rm.locals ≤ R.locals ∧ cells ≤ R.cells ∧ slots ≤ R.slots)
    (hn : As.length = n) (hsz : ls.size = nL) (hst : st0 = As.reverse ++ rest) (hcat : (rest.map fun v => v.category).sum ≤ 8)
    (hdg : decode cc pc = .ok (.invokestatic index, 3)) : va_Run p l e R s m args below meth c H locs cells slots 0 0 (F0 m pc ls st0) rest Qc free := by
  obtain ⟨hx, hb, hml, hown, hts, -⟩ := C0
  obtain ⟨p1, p3, p4, p5⟩ := pk
  obtain ⟨r1, r2, r3, r4, r5, r6⟩ := hR
  exact va_runS (Ts := gw) (As := As) (rest := rest) ⟨hx, hb, hml, hown, hts⟩ hM ⟨callB_of n hts (gw_goodIn p4) rfl r1 r2 (hts _ p3) (hts _ hL) p5 ⟨r3, r4⟩, hts _ p1⟩
    ⟨hE', fun U hU1 hW => ⟨rfl, by rw [hU1]; exact hP, hU U hU1 hW⟩⟩ rfl hn hsz hst (by show 2 * 0 + _ ≤ 8; omega) hdg ⟨by omega, by omega⟩
theorem run_N {Qc : State → Outcome → State → Prop} {free : Addr → Prop} (C0 : cxt E cc nL own ret p s m args meth c) (hE' : FrameBlind (pG w E' g As)) (hP : va_P g.1 vwCl w H) (hU : ∀ U : State, U.heap = H → s.WarmedH U.vm → E' U) (hN : ∀ w ∈ nw, va_Nw w s)
    (pk : pkS y bytes maxL ret' n) (hM : Met l y (Cond.code y bytes maxL ret' :: gw) rm (pG w E' g As) (fun _ => Qc) 0 0 free) (hL : Cond.methodLinkNest own index y host ∈ nw)
    (hR : rm.cells = 0 ∧ rm.slots = 0 ∧ rm.frames + 1 ≤ R.frames ∧ 8 + (maxL + 11) + rm.locals ≤ R.locals ∧ cells ≤ R.cells ∧ slots ≤ R.slots)
    (hn : As.length = n) (hsz : ls.size = nL) (hst : st0 = As.reverse ++ rest) (hcat : (rest.map fun v => v.category).sum ≤ 8)
    (hdg : decode cc pc = .ok (.invokestatic index, 3)) : va_Run p l e R s m args below meth c H locs cells slots 0 0 (F0 m pc ls st0) rest Qc free := by
  obtain ⟨hx, hb, hml, hown, hts, -⟩ := C0
  obtain ⟨p1, p3, p4, p5⟩ := pk
  obtain ⟨r1, r2, r3, r4, r5, r6⟩ := hR
  exact va_runSN (Ts := gw) (As := As) (rest := rest) ⟨hx, hb, hml, hown, hts⟩ hM ⟨va_cnB n hts (gw_goodIn p4) rfl r1 r2 (hN _ hL) (hts _ p3) p5 ⟨r3, r4⟩, hts _ p1, trivial⟩
    ⟨hE', fun U hU1 hW => ⟨rfl, by rw [hU1]; exact hP, hU U hU1 hW⟩⟩ rfl hn hsz hst (by show 2 * 0 + _ ≤ 8; omega) hdg ⟨by omega, by omega⟩
/-- invokevirtual of a method over the same world: it leaves the heap -/
theorem cV_R (C0 : cxt E cc nL own ret p s m args meth c) (hE : Est A E) (hP : va_P g.1 vwCl w H) (hS : va_S A s.heap H locs) (hK : va_K g.1 vwCl (tyG g) s)
    (pk : pkV y bytes maxL ret' C n) (hM : Met l y (Cond.code y bytes maxL ret' :: gw) rm (pG w E g (.ref b :: As)) (qR rv ok) 0 0 noA) (hL : Cond.methodLink own index y ∈ gw)
    (hR : rm.cells = 0 ∧ rm.slots = 0 ∧ rm.frames + 1 ≤ R.frames ∧ 8 + (maxL + 11) + rm.locals ≤ R.locals ∧ cells ≤ R.cells ∧ slots ≤ R.slots)
    (q0 : Nat) {ci : Nat} {fs : List Value} {q : vw_C} (he : w[q0]? = some (b, .inr (ci, fs))) (hc : vwCl[ci]? = some q) (hq : q.1 = C) (hn : As.length = n) (hsz : ls.size = nL) (hst : st0 = As.reverse ++ .ref b :: rest) (hcat : (rest.map fun v => v.category).sum ≤ 8)
    (hdg : decode cc pc = .ok (.invokevirtual index, 3)) (kk : ok → W p l e R s m args below meth c H locs cells slots Q (F0 m (pc + 3) ls (rv.toList ++ rest))) : W p l e R s m args below meth c H locs cells slots Q (F0 m pc ls st0) :=
  go_R (run_V (Qc := qR rv ok #[]) C0 (pG_blind hE) hP (fun U h1 h2 => e_at C0 hE hS h1 h2) hK pk hM hL hR q0 he hc hq hn hsz hst hcat hdg) kk
theorem cV_Ri {r : Int32} (C0 : cxt E cc nL own ret p s m args meth c) (hE : Est A E) (hP : va_P g.1 vwCl w H) (hS : va_S A s.heap H locs) (hK : va_K g.1 vwCl (tyG g) s)
    (pk : pkV y bytes maxL ret' C n) (hM : Met l y (Cond.code y bytes maxL ret' :: gw) rm (pG w E g (.ref b :: As)) (qR (some (.int r)) ok) 0 0 noA) (hL : Cond.methodLink own index y ∈ gw)
    (hR : rm.cells = 0 ∧ rm.slots = 0 ∧ rm.frames + 1 ≤ R.frames ∧ 8 + (maxL + 11) + rm.locals ≤ R.locals ∧ cells ≤ R.cells ∧ slots ≤ R.slots)
    (q0 : Nat) {ci : Nat} {fs : List Value} {q : vw_C} (he : w[q0]? = some (b, .inr (ci, fs))) (hc : vwCl[ci]? = some q) (hq : q.1 = C) (hn : As.length = n) (hsz : ls.size = nL) (hst : st0 = As.reverse ++ .ref b :: rest) (hcat : (rest.map fun v => v.category).sum ≤ 8)
    (hdg : decode cc pc = .ok (.invokevirtual index, 3)) (kk : ok → W p l e R s m args below meth c H locs cells slots Q (F0 m (pc + 3) ls (.int r :: rest))) : W p l e R s m args below meth c H locs cells slots Q (F0 m pc ls st0) :=
  go_R (run_V (Qc := qR (some (.int r)) ok #[]) C0 (pG_blind hE) hP (fun U h1 h2 => e_at C0 hE hS h1 h2) hK pk hM hL hR q0 he hc hq hn hsz hst hcat hdg) kk
theorem cV_W (C0 : cxt E cc nL own ret p s m args meth c) (hE : Est A E) (hP : va_P g.1 vwCl w H) (hS : va_S A s.heap H locs) (hK : va_K g.1 vwCl (tyG g) s)
    (pk : pkV y bytes maxL ret' C n) (hM : Met l y (Cond.code y bytes maxL ret' :: gw) rm (pG w E g (.ref b :: As)) (qW w' g A rv ok) 0 0 A) (hL : Cond.methodLink own index y ∈ gw)
    (hR : rm.cells = 0 ∧ rm.slots = 0 ∧ rm.frames + 1 ≤ R.frames ∧ 8 + (maxL + 11) + rm.locals ≤ R.locals ∧ cells ≤ R.cells ∧ slots ≤ R.slots)
    (q0 : Nat) {ci : Nat} {fs : List Value} {q : vw_C} (he : w[q0]? = some (b, .inr (ci, fs))) (hc : vwCl[ci]? = some q) (hq : q.1 = C) (hn : As.length = n) (hsz : ls.size = nL) (hst : st0 = As.reverse ++ .ref b :: rest) (hcat : (rest.map fun v => v.category).sum ≤ 8)
    (hdg : decode cc pc = .ok (.invokevirtual index, 3)) (kk : ∀ (H1 : Heap) (locs1 : List Loc), ok → va_P g.1 vwCl w' H1 → va_S A s.heap H1 locs1 → W p l e R s m args below meth c H1 locs1 cells slots Q (F0 m (pc + 3) ls (rv.toList ++ rest))) : W p l e R s m args below meth c H locs cells slots Q (F0 m pc ls st0) :=
  go_W (run_V (Qc := qW w' g A rv ok #[]) C0 (pG_blind hE) hP (fun U h1 h2 => e_at C0 hE hS h1 h2) hK pk hM hL hR q0 he hc hq hn hsz hst hcat hdg) hS (fun _ h => h) (fun H1 locs1 h1 h2 h3 _ _ => kk H1 locs1 h1 h2 h3)
theorem cV_Wi {r : Int32} (C0 : cxt E cc nL own ret p s m args meth c) (hE : Est A E) (hP : va_P g.1 vwCl w H) (hS : va_S A s.heap H locs) (hK : va_K g.1 vwCl (tyG g) s)
    (pk : pkV y bytes maxL ret' C n) (hM : Met l y (Cond.code y bytes maxL ret' :: gw) rm (pG w E g (.ref b :: As)) (qW w' g A (some (.int r)) ok) 0 0 A) (hL : Cond.methodLink own index y ∈ gw)
    (hR : rm.cells = 0 ∧ rm.slots = 0 ∧ rm.frames + 1 ≤ R.frames ∧ 8 + (maxL + 11) + rm.locals ≤ R.locals ∧ cells ≤ R.cells ∧ slots ≤ R.slots)
    (q0 : Nat) {ci : Nat} {fs : List Value} {q : vw_C} (he : w[q0]? = some (b, .inr (ci, fs))) (hc : vwCl[ci]? = some q) (hq : q.1 = C) (hn : As.length = n) (hsz : ls.size = nL) (hst : st0 = As.reverse ++ .ref b :: rest) (hcat : (rest.map fun v => v.category).sum ≤ 8)
    (hdg : decode cc pc = .ok (.invokevirtual index, 3)) (kk : ∀ (H1 : Heap) (locs1 : List Loc), ok → va_P g.1 vwCl w' H1 → va_S A s.heap H1 locs1 → W p l e R s m args below meth c H1 locs1 cells slots Q (F0 m (pc + 3) ls (.int r :: rest))) : W p l e R s m args below meth c H locs cells slots Q (F0 m pc ls st0) :=
  go_W (run_V (Qc := qW w' g A (some (.int r)) ok #[]) C0 (pG_blind hE) hP (fun U h1 h2 => e_at C0 hE hS h1 h2) hK pk hM hL hR q0 he hc hq hn hsz hst hcat hdg) hS (fun _ h => h) (fun H1 locs1 h1 h2 h3 _ _ => kk H1 locs1 h1 h2 h3)
theorem cV_Wv (C0 : cxt E cc nL own ret p s m args meth c) (hE : Est A E) (hP : va_P g.1 vwCl w H) (hS : va_S A s.heap H locs) (hK : va_K g.1 vwCl (tyG g) s)
    (pk : pkV y bytes maxL ret' C n) (hM : Met l y (Cond.code y bytes maxL ret' :: gw) rm (pG w E g (.ref b :: As)) (qW w' g A none ok) 0 0 A) (hL : Cond.methodLink own index y ∈ gw)
    (hR : rm.cells = 0 ∧ rm.slots = 0 ∧ rm.frames + 1 ≤ R.frames ∧ 8 + (maxL + 11) + rm.locals ≤ R.locals ∧ cells ≤ R.cells ∧ slots ≤ R.slots)
    (q0 : Nat) {ci : Nat} {fs : List Value} {q : vw_C} (he : w[q0]? = some (b, .inr (ci, fs))) (hc : vwCl[ci]? = some q) (hq : q.1 = C) (hn : As.length = n) (hsz : ls.size = nL) (hst : st0 = As.reverse ++ .ref b :: rest) (hcat : (rest.map fun v => v.category).sum ≤ 8)
    (hdg : decode cc pc = .ok (.invokevirtual index, 3)) (kk : ∀ (H1 : Heap) (locs1 : List Loc), ok → va_P g.1 vwCl w' H1 → va_S A s.heap H1 locs1 → W p l e R s m args below meth c H1 locs1 cells slots Q (F0 m (pc + 3) ls rest)) : W p l e R s m args below meth c H locs cells slots Q (F0 m pc ls st0) :=
  go_W (run_V (Qc := qW w' g A none ok #[]) C0 (pG_blind hE) hP (fun U h1 h2 => e_at C0 hE hS h1 h2) hK pk hM hL hR q0 he hc hq hn hsz hst hcat hdg) hS (fun _ h => h) (fun H1 locs1 h1 h2 h3 _ _ => kk H1 locs1 h1 h2 h3)
/-- invokestatic of a method of the same class over no world -/
theorem cS_R (C0 : cxt E cc nL own ret p s m args meth c)
    (pk : pkS y bytes maxL ret' n) (hM : Met l y (Cond.code y bytes maxL ret' :: gw) rm (pG [] (fun _ => True) g As) (qR rv ok) 0 0 noA) (hL : Cond.methodLink own index y ∈ gw)
    (hR : rm.cells = 0 ∧ rm.slots = 0 ∧ rm.frames + 1 ≤ R.frames ∧ 8 + (maxL + 11) + rm.locals ≤ R.locals ∧ cells ≤ R.cells ∧ slots ≤ R.slots)
    (hn : As.length = n) (hsz : ls.size = nL) (hst : st0 = As.reverse ++ rest) (hcat : (rest.map fun v => v.category).sum ≤ 8)
    (hdg : decode cc pc = .ok (.invokestatic index, 3)) (kk : ok → W p l e R s m args below meth c H locs cells slots Q (F0 m (pc + 3) ls (rv.toList ++ rest))) : W p l e R s m args below meth c H locs cells slots Q (F0 m pc ls st0) :=
  go_R (run_S (g := g) (Qc := qR rv ok #[]) C0 (pG_blind (A := fun _ => False) (fun _ _ _ _ _ _ => trivial)) (fun k q h => by simp at h) (fun _ _ _ => trivial) pk hM hL hR hn hsz hst hcat hdg) kk
theorem cS_Ri {r : Int32} (C0 : cxt E cc nL own ret p s m args meth c)
    (pk : pkS y bytes maxL ret' n) (hM : Met l y (Cond.code y bytes maxL ret' :: gw) rm (pG [] (fun _ => True) g As) (qR (some (.int r)) ok) 0 0 noA) (hL : Cond.methodLink own index y ∈ gw)
    (hR : rm.cells = 0 ∧ rm.slots = 0 ∧ rm.frames + 1 ≤ R.frames ∧ 8 + (maxL + 11) + rm.locals ≤ R.locals ∧ cells ≤ R.cells ∧ slots ≤ R.slots)
    (hn : As.length = n) (hsz : ls.size = nL) (hst : st0 = As.reverse ++ rest) (hcat : (rest.map fun v => v.category).sum ≤ 8)
    (hdg : decode cc pc = .ok (.invokestatic index, 3)) (kk : ok → W p l e R s m args below meth c H locs cells slots Q (F0 m (pc + 3) ls (.int r :: rest))) : W p l e R s m args below meth c H locs cells slots Q (F0 m pc ls st0) :=
  go_R (run_S (g := g) (Qc := qR (some (.int r)) ok #[]) C0 (pG_blind (A := fun _ => False) (fun _ _ _ _ _ _ => trivial)) (fun k q h => by simp at h) (fun _ _ _ => trivial) pk hM hL hR hn hsz hst hcat hdg) kk
/-- invokestatic over the same world -/
theorem cS_RW (C0 : cxt E cc nL own ret p s m args meth c) (hE : Est A E) (hP : va_P g.1 vwCl w H) (hS : va_S A s.heap H locs)
    (pk : pkS y bytes maxL ret' n) (hM : Met l y (Cond.code y bytes maxL ret' :: gw) rm (pG w E g As) (qR rv ok) 0 0 noA) (hL : Cond.methodLink own index y ∈ gw)
    (hR : rm.cells = 0 ∧ rm.slots = 0 ∧ rm.frames + 1 ≤ R.frames ∧ 8 + (maxL + 11) + rm.locals ≤ R.locals ∧ cells ≤ R.cells ∧ slots ≤ R.slots)
    (hn : As.length = n) (hsz : ls.size = nL) (hst : st0 = As.reverse ++ rest) (hcat : (rest.map fun v => v.category).sum ≤ 8)
    (hdg : decode cc pc = .ok (.invokestatic index, 3)) (kk : ok → W p l e R s m args below meth c H locs cells slots Q (F0 m (pc + 3) ls (rv.toList ++ rest))) : W p l e R s m args below meth c H locs cells slots Q (F0 m pc ls st0) :=
  go_R (run_S (Qc := qR rv ok #[]) C0 (pG_blind hE) hP (fun U h1 h2 => e_at C0 hE hS h1 h2) pk hM hL hR hn hsz hst hcat hdg) kk
theorem cS_RWi {r : Int32} (C0 : cxt E cc nL own ret p s m args meth c) (hE : Est A E) (hP : va_P g.1 vwCl w H) (hS : va_S A s.heap H locs)
    (pk : pkS y bytes maxL ret' n) (hM : Met l y (Cond.code y bytes maxL ret' :: gw) rm (pG w E g As) (qR (some (.int r)) ok) 0 0 noA) (hL : Cond.methodLink own index y ∈ gw)
    (hR : rm.cells = 0 ∧ rm.slots = 0 ∧ rm.frames + 1 ≤ R.frames ∧ 8 + (maxL + 11) + rm.locals ≤ R.locals ∧ cells ≤ R.cells ∧ slots ≤ R.slots)
    (hn : As.length = n) (hsz : ls.size = nL) (hst : st0 = As.reverse ++ rest) (hcat : (rest.map fun v => v.category).sum ≤ 8)
    (hdg : decode cc pc = .ok (.invokestatic index, 3)) (kk : ok → W p l e R s m args below meth c H locs cells slots Q (F0 m (pc + 3) ls (.int r :: rest))) : W p l e R s m args below meth c H locs cells slots Q (F0 m pc ls st0) :=
  go_R (run_S (Qc := qR (some (.int r)) ok #[]) C0 (pG_blind hE) hP (fun U h1 h2 => e_at C0 hE hS h1 h2) pk hM hL hR hn hsz hst hcat hdg) kk
/-- a field of a world's object becomes v -/
theorem put_W {ws ws' : va_W} {T : u_T} {N ci k a : Nat} {fs : List Value} {ref : String} {v : Value} {ty0 : Nat → FieldType} (C0 : cxt E cc nL own ret p s m args meth c) (hK : va_K g.1 vwCl (tyG g) s) (hP : va_P g.1 vwCl ws H) (hD : va_D A ws) (hS : va_S A s.heap H locs)
    (hin : ∀ w ∈ u_ws C T N, w ∈ gw) (hty : ∀ k, k < N → parseFieldDescriptor (T k).2.2.1 = some (ty0 k)) (hnm : ∀ a, a < N → ∀ b, b < N → a ≠ b → (T a).2.1 ≠ (T b).2.1) (q0 : Nat) (he : ws[q0]? = some (a, .inr (ci, fs))) (hc : vwCl[ci]? = some (C, T, N)) (hk : k < N) (hlink : Cond.fieldLink own index ref (T k).2.1 (T k).2.2.1 ∈ gw) (href : (T k).1 = ref) (hfin : (T k).2.2.2 = false)
    (hn : narrow (ty0 k) v = v) (hfit : fits (ty0 k) v = true) (hl : k < fs.length) (hset : ws.set q0 (a, .inr (ci, fs.set k v)) = ws')
    (hdg : decode cc pc = .ok (.putfield index, 3)) (kk : ∀ (H1 : Heap) (locs1 : List Loc), va_P g.1 vwCl ws' H1 → va_S A s.heap H1 locs1 → W p l e R s m args below meth c H1 locs1 cells slots Q (F0 m (pc + 3) ls rest)) : W p l e R s m args below meth c H locs cells slots Q (F0 m pc ls (v :: .ref a :: rest)) := by
  obtain ⟨hx, hb, hml, hown, hts, -⟩ := C0
  subst href
  exact va_put hx hb hts hin ty0 hty hnm hown hK hP hD hS q0 he hc k hk (hts _ hlink) (fun _ h => h) hfin (hty k hk) hn hfit hl hdg (fun H1 locs1 h1 _ h3 => kk H1 locs1 (by rw [← hset]; exact h1) h3)
theorem get_W {ws : va_W} {T : u_T} {N ci a : Nat} {fs : List Value} {ref : String} {v : Value} (C0 : cxt E cc nL own ret p s m args meth c) (hK : va_K g.1 vwCl (tyG g) s) (hP : va_P g.1 vwCl ws H)
    (hin : ∀ w ∈ u_ws C T N, w ∈ gw) (q0 : Nat) (he : ws[q0]? = some (a, .inr (ci, fs))) (hc : vwCl[ci]? = some (C, T, N)) (k : Nat) (hk : k < N) (hlink : Cond.fieldLink own index ref (T k).2.1 (T k).2.2.1 ∈ gw) (href : (T k).1 = ref) (hv : fs[k]? = some v)
    (hdg : decode cc pc = .ok (.getfield index, 3)) (kk : W p l e R s m args below meth c H locs cells slots Q (F0 m (pc + 3) ls (v :: rest))) : W p l e R s m args below meth c H locs cells slots Q (F0 m pc ls (.ref a :: rest)) := by
  obtain ⟨hx, hb, hml, hown, hts, -⟩ := C0
  subst href
  exact va_get hx hb hts hin hown hK hP q0 he hc k hk (hts _ hlink) (fun _ h => h) hv hdg kk
theorem iast_W {ws ws' : va_W} {a n : Nat} {f : Nat → Int32} {i x : Int32} (C0 : cxt E cc nL own ret p s m args meth c) (hK : va_K g.1 vwCl (tyG g) s) (hP : va_P g.1 vwCl ws H) (hD : va_D A ws) (hS : va_S A s.heap H locs)
    (q0 : Nat) (ha : ws[q0]? = some (a, .inl (g.2.1, n, .inl f))) (hin : vp_in i n) (hset : ws.set q0 (a, .inl (g.2.1, n, .inl (upd f i.toNatClampNeg x))) = ws') (hdg : decode cc pc = .ok (.iastore, 1))
    (kk : ∀ (H1 : Heap) (locs1 : List Loc), va_P g.1 vwCl ws' H1 → va_S A s.heap H1 locs1 → W p l e R s m args below meth c H1 locs1 cells slots Q (F0 m (pc + 1) ls rest)) : W p l e R s m args below meth c H locs cells slots Q (F0 m pc ls (.int x :: .int i :: .ref a :: rest)) := by
  obtain ⟨hx, hb, hml, hown, hts, -⟩ := C0
  exact va_iast hx hb hK hP hD hS q0 0 ha rfl hin hdg (fun H1 locs1 h1 _ h3 => kk H1 locs1 (by rw [← hset]; exact h1) h3)
theorem zast_W {ws ws' : va_W} {a n : Nat} {f : Nat → Int32} {i x : Int32} (C0 : cxt E cc nL own ret p s m args meth c) (hK : va_K g.1 vwCl (tyG g) s) (hP : va_P g.1 vwCl ws H) (hD : va_D A ws) (hS : va_S A s.heap H locs)
    (q0 : Nat) (ha : ws[q0]? = some (a, .inl (g.2.2.1, n, .inl f))) (hin : vp_in i n) (hset : ws.set q0 (a, .inl (g.2.2.1, n, .inl (upd f i.toNatClampNeg (vp_nar .boolean x)))) = ws') (hdg : decode cc pc = .ok (.bastore, 1))
    (kk : ∀ (H1 : Heap) (locs1 : List Loc), va_P g.1 vwCl ws' H1 → va_S A s.heap H1 locs1 → W p l e R s m args below meth c H1 locs1 cells slots Q (F0 m (pc + 1) ls rest)) : W p l e R s m args below meth c H locs cells slots Q (F0 m pc ls (.int x :: .int i :: .ref a :: rest)) := by
  obtain ⟨hx, hb, hml, hown, hts, -⟩ := C0
  exact va_zast hx hb hK hP hD hS q0 1 ha rfl hin hdg (fun H1 locs1 h1 _ h3 => kk H1 locs1 (by rw [← hset]; exact h1) h3)
/-- returns -/
theorem ret_Ri {v : Int32} {ok : Prop} (C0 : cxt E cc nL own (some .int) p s m args meth c) (hok : ok) (hdg : decode cc pc = .ok (.ireturn, 1)) : W p l e R s m args below meth c s.heap [] cells slots (MQ below (qR (some (.int v)) ok) args s cells slots noA) (F0 m pc ls [.int v]) := by
  obtain ⟨hx, hb, hml, hown, hts, hr, hlk, -⟩ := C0
  exact W.iret hx hb hr (fun t ht _ => ⟨rfl, hok, ht⟩) (fun q h => by cases h) hdg hlk
theorem ret_Rz {v : Int32} {ok : Prop} (C0 : cxt E cc nL own (some .boolean) p s m args meth c) (hv : isB v) (hok : ok) (hdg : decode cc pc = .ok (.ireturn, 1)) : W p l e R s m args below meth c s.heap [] cells slots (MQ below (qR (some (.int v)) ok) args s cells slots noA) (F0 m pc ls [.int v]) := by
  obtain ⟨hx, hb, hml, hown, hts, hr, hlk, -⟩ := C0
  exact W.zret hx hb hr (isB_nar hv) (fun t ht _ => ⟨rfl, hok, ht⟩) (fun q h => by cases h) hdg hlk
theorem ret_Wi {v : Int32} {ok : Prop} (C0 : cxt E cc nL own (some .int) p s m args meth c) (hP : va_P g.1 vwCl w H) (hS : va_S A s.heap H locs) (hok : ok) (hdg : decode cc pc = .ok (.ireturn, 1)) : W p l e R s m args below meth c H locs cells slots (MQ below (qW w g A (some (.int v)) ok) args s cells slots A) (F0 m pc ls [.int v]) := by
  obtain ⟨hx, hb, hml, hown, hts, hr, hlk, -⟩ := C0
  exact W.iret hx hb hr (fun t ht _ => ⟨rfl, hok, by rw [ht]; exact hP, hS.F ht⟩) hS.2.2 hdg hlk
theorem ret_Wv {ok : Prop} (C0 : cxt E cc nL own none p s m args meth c) (hP : va_P g.1 vwCl w H) (hS : va_S A s.heap H locs) (hok : ok) (hdg : decode cc pc = .ok (.return_, 1)) : W p l e R s m args below meth c H locs cells slots (MQ below (qW w g A none ok) args s cells slots A) (F0 m pc ls []) := by
  obtain ⟨hx, hb, hml, hown, hts, hr, hlk, -⟩ := C0
  exact W.vret hx hb hr (fun t ht _ => ⟨rfl, hok, by rw [ht]; exact hP, hS.F ht⟩) hS.2.2 hdg hlk
end CALLS
