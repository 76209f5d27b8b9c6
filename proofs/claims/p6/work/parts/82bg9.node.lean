set_option maxRecDepth 100000
def adN (m : MS) (n : Nat) (a b c d f : Int32) : MS := upA (upA (upA (upA (upA (upA (upI m 306 (I ((n + 1 : Nat) : Int))) 16 (upd (m.2.2.1 16) (n + 1) a)) 17 (upd (m.2.2.1 17) (n + 1) b)) 18 (upd (m.2.2.1 18) (n + 1) c)) 19 (upd (m.2.2.1 19) (n + 1) d)) 20 (upd (m.2.2.1 20) (n + 1) f)) 21 (upd (m.2.2.1 21) (n + 1) 0)
def nod (m : MS) (j : Nat) : Int32 × Int32 × Int32 × Int32 × Int32 := (m.2.2.1 16 j, m.2.2.1 17 j, m.2.2.1 18 j, m.2.2.1 19 j, m.2.2.1 20 j)
def KPO (n : Nat) (m v : MS) : Prop := ∀ j, j ≤ n → nod v j = nod m j ∧ v.2.2.1 21 j = m.2.2.1 21 j
def KPX (lo n ε : Nat) (m v : MS) : Prop := (∀ j, lo < j → j ≤ n → nod v j = nod m j ∧ (j ≠ ε → v.2.2.1 21 j = m.2.2.1 21 j)) ∧ Kcc m v
section
variable {m v u : MS} {n j N ε lo : Nat} {a b c d f : Int32}
theorem add_e (h : m.1 306 = I (n : Nat)) (hn : n + 1 < 8016) : hm_Tr_add N m a b c d f = some (adN m n a b c d f, I ((n + 1 : Nat) : Int)) := by
  unfold hm_Tr_add hb_Tr_add_0
  rw [h, i_suc, show (8016 : Int32) = I 8016 from rfl, decL (by omega) (by omega) (by omega) (by omega), decide_eq_true (by omega)]
  have e1 : ∀ v : MS, v.1 306 = I ((n + 1 : Nat) : Int) → ∀ o : Option (MS × Int32), ck (inb (v.1 306) 8016) o = o := fun v hv o => by
    rw [hv, i_inb (by omega) (by decide)]; rfl
  have e0 : (upI m 306 (I ((n + 1 : Nat) : Int))).1 306 = I ((n + 1 : Nat) : Int) := upI_at
  have tn : (I ((n + 1 : Nat) : Int)).toNatClampNeg = n + 1 := tnI (n := n + 1) rfl (by omega)
  show ck (inb ((upI m 306 (I ((n + 1 : Nat) : Int))).1 306) 8016) _ = _
  rw [e1 _ e0]
  show ck (inb ((upI m 306 (I ((n + 1 : Nat) : Int))).1 306) 8016) _ = _
  rw [e1 _ e0]
  show ck (inb ((upI m 306 (I ((n + 1 : Nat) : Int))).1 306) 8016) _ = _
  rw [e1 _ e0]
  show ck (inb ((upI m 306 (I ((n + 1 : Nat) : Int))).1 306) 8016) _ = _
  rw [e1 _ e0]
  show ck (inb ((upI m 306 (I ((n + 1 : Nat) : Int))).1 306) 8016) _ = _
  rw [e1 _ e0]
  show ck (inb ((upI m 306 (I ((n + 1 : Nat) : Int))).1 306) 8016) _ = _
  rw [e1 _ e0]
  have f1 : ∀ (w : MS) (k : Nat) (g : Nat → Int32), (upA w k g).1 = w.1 := fun _ _ _ => rfl
  simp only [lt, f1, e0, tn]
  rfl
theorem adN_16 : (adN m n a b c d f).2.2.1 16 = upd (m.2.2.1 16) (n + 1) a := rfl
theorem adN_17 : (adN m n a b c d f).2.2.1 17 = upd (m.2.2.1 17) (n + 1) b := rfl
theorem adN_18 : (adN m n a b c d f).2.2.1 18 = upd (m.2.2.1 18) (n + 1) c := rfl
theorem adN_19 : (adN m n a b c d f).2.2.1 19 = upd (m.2.2.1 19) (n + 1) d := rfl
theorem adN_20 : (adN m n a b c d f).2.2.1 20 = upd (m.2.2.1 20) (n + 1) f := rfl
theorem adN_21 : (adN m n a b c d f).2.2.1 21 = upd (m.2.2.1 21) (n + 1) 0 := rfl
theorem adN_r {k : Nat} (h : k < 16 ∨ 21 < k) : (adN m n a b c d f).2.2.1 k = m.2.2.1 k := by
  unfold adN
  rw [upA_no (by omega), upA_no (by omega), upA_no (by omega), upA_no (by omega), upA_no (by omega), upA_no (by omega)]
  rfl
theorem adN_i {k : Nat} (h : k ≠ 306) : (adN m n a b c d f).1 k = m.1 k := upI_ne h
theorem adN_n : (adN m n a b c d f).1 306 = I ((n + 1 : Nat) : Int) := by
  show (upI m 306 (I ((n + 1 : Nat) : Int))).1 306 = _
  exact upI_at
theorem adN_o : KPO n m (adN m n a b c d f) := fun j hj => by
  unfold nod
  rw [adN_16, adN_17, adN_18, adN_19, adN_20, adN_21, upd_no (by omega), upd_no (by omega), upd_no (by omega), upd_no (by omega), upd_no (by omega), upd_no (by omega)]
  exact ⟨rfl, rfl⟩
theorem adN_nod : nod (adN m n a b c d f) (n + 1) = (a, b, c, d, f) ∧ (adN m n a b c d f).2.2.1 21 (n + 1) = 0 := by
  unfold nod
  rw [adN_16, adN_17, adN_18, adN_19, adN_20, adN_21, upd_at, upd_at, upd_at, upd_at, upd_at, upd_at]
  exact ⟨rfl, rfl⟩
theorem KPO_rf : KPO n m m := fun _ _ => ⟨rfl, rfl⟩
theorem KPO_tr {k : Nat} (h : KPO n m v) (h2 : KPO k v u) (hk : n ≤ k) : KPO n m u := fun j hj => ⟨(h2 j (by omega)).1.trans (h j hj).1, (h2 j (by omega)).2.trans (h j hj).2⟩
theorem KPX_nod (h : KPX lo n ε m v) (h1 : lo < j) (hj : j ≤ n) : nod v j = nod m j := (h.1 j h1 hj).1
end
