set_option maxRecDepth 100000
def srK (k : Nat) : Nat := if k = 0 then 0 else if k = 1 then 4 else if k = 2 then 1 else if k = 3 then 2 else if k = 4 then 5 else if k < 20 then 3 else if k < 45 then 6 else 7
def svK (k : Nat) : Nat := if k < 20 then k - 5 else [0, 1, 2, 3, 4, 5, 6, 7, 8, 9, 11, 14, 16, 18, 19, 20, 21, 24, 10, 12, 13, 15, 17, 22, 23].getD (k - 20) 99
def TKT (K : Nat → Nat) (T : Nat) : Prop := T ≤ 4000 ∧ (∀ p, p < T → 1 ≤ K p ∧ K p ≤ 44) ∧ (K T = 0 ∨ K T = 45)
def TWK (w : MS) (K : Nat → Nat) (T : Nat) : Prop := TKT K T ∧ (∀ p, p ≤ T → w.2.2.1 6 p = I (srK (K p) : Nat)) ∧ ∀ p, p < T → 5 ≤ K p → w.2.2.1 7 p = I (svK (K p) : Nat)
def TKC (m : MS) (K : Nat → Nat) (T : Nat) : Prop := TKT K T ∧ ∀ p, p ≤ T → m.2.2.1 6 p = I (K p : Nat)
def WP (w : MS) (K : Nat → Nat) (T p : Nat) : Prop := TWK w K T ∧ w.1 69 = I (p : Nat) ∧ p ≤ T
def CP (m : MS) (K : Nat → Nat) (T p : Nat) : Prop := TKC m K T ∧ m.1 665 = I (p : Nat) ∧ p ≤ T
theorem srK_6 : ∀ k, k < 46 → (I (srK k : Nat) = 6 ↔ 20 ≤ k ∧ k ≤ 44) := by decide +kernel
theorem srK_3 : ∀ k, k < 46 → (I (srK k : Nat) = 3 ↔ 5 ≤ k ∧ k ≤ 19) := by decide +kernel
theorem srK_7 : ∀ k, k < 46 → (I (srK k : Nat) = 7 ↔ k = 45) := by decide +kernel
theorem srK_1 : ∀ k, k < 46 → (I (srK k : Nat) = 1 ↔ k = 2) := by decide +kernel
theorem srK_2 : ∀ k, k < 46 → (I (srK k : Nat) = 2 ↔ k = 3) := by decide +kernel
theorem srK_4 : ∀ k, k < 46 → (I (srK k : Nat) = 4 ↔ k = 1) := by decide +kernel
theorem srK_5 : ∀ k, k < 46 → (I (srK k : Nat) = 5 ↔ k = 4) := by decide +kernel
theorem srK_0 : ∀ k, k < 46 → (I (srK k : Nat) = 0 ↔ k = 0) := by decide +kernel
theorem svK_s : ∀ k, k < 45 → ∀ j, j < 45 → 20 ≤ k → 20 ≤ j → (I (svK k : Nat) = I (svK j : Nat) ↔ k = j) := by decide +kernel
theorem svK_w : ∀ k, k < 20 → ∀ j, j < 20 → 5 ≤ k → 5 ≤ j → (I (svK k : Nat) = I (svK j : Nat) ↔ k = j) := by decide +kernel
theorem i_nt {p : Nat} (h : p ≤ 4001) : (I (p : Nat)).toNatClampNeg = p := tnI (n := p) rfl (by omega)
theorem i_suc {p : Nat} : I (p : Nat) + 1 = I ((p + 1 : Nat) : Int) := by rw [lit1q, I_add]; rfl
theorem i_inj {a b : Nat} (ha : a ≤ 4001) (hb : b ≤ 4001) (h : I (a : Nat) = I (b : Nat)) : a = b := by
  have := congrArg Int32.toNatClampNeg h
  rw [i_nt ha, i_nt hb] at this
  exact this
theorem i_inb {p n : Nat} (h : p < n) (hn : n ≤ 2147483647) : inb (I (p : Nat)) n = true := (I_inb (by omega) (by omega)).mpr ⟨by omega, by omega⟩
section
variable {α β : Type} {w m : MS} {K : Nat → Nat} {T p k N : Nat} {s : Int32}
theorem TKT.lt (h : TKT K T) (hp : p ≤ T) (h1 : 1 ≤ K p) (h2 : K p ≤ 44) : p < T := by
  by_cases e : p = T
  · rw [e] at h1 h2
    rcases h.2.2 with z | z <;> omega
  · omega
theorem TKT.k46 (h : TKT K T) (hp : p ≤ T) : K p < 46 := by
  by_cases e : p = T
  · rw [e]
    rcases h.2.2 with z | z <;> rw [z] <;> decide
  · have := h.2.1 p (by omega)
    omega
theorem isS_e (h : WP w K T p) (hk : 20 ≤ k ∧ k ≤ 44) (hs : s = I (svK k : Nat)) : fm_M_isSign N w s = some (w, if K p = k then 1 else 0) := by
  obtain ⟨⟨ht, h6, h7⟩, h69, hp⟩ := h
  have k46 := ht.k46 hp
  have t4 := ht.1
  unfold fm_M_isSign fb_M_isSign_0 fb_M_isSign_31 fb_M_isSign_32
  have ei : inb (w.1 69) 4002 = true := by rw [h69]; exact i_inb (by omega) (by decide)
  have en : (w.1 69).toNatClampNeg = p := by rw [h69]; exact i_nt (by omega)
  rw [show ln 6 = 4002 from rfl, show ln 7 = 4002 from rfl, ei, en, h6 p hp, hs]
  have s6 := srK_6 (K p) k46
  by_cases e6 : 20 ≤ K p ∧ K p ≤ 44
  · have hl := ht.lt hp (by omega) (by omega)
    rw [decide_eq_true (s6.mpr e6), h7 p hl (by omega)]
    have e7 := svK_s (K p) (by omega) k (by omega) e6.1 hk.1
    by_cases e : K p = k
    · rw [decide_eq_true (e7.mpr e), if_pos e]; rfl
    · rw [decide_eq_false (fun z => e (e7.mp z)), if_neg e]; rfl
  · rw [decide_eq_false (fun z => e6 (s6.mp z)), if_neg (by omega)]; rfl
theorem isV_e (h : WP w K T p) (hk : 5 ≤ k ∧ k ≤ 19) (hs : s = I (svK k : Nat)) : fm_M_isWord N w s = some (w, if K p = k then 1 else 0) := by
  obtain ⟨⟨ht, h6, h7⟩, h69, hp⟩ := h
  have k46 := ht.k46 hp
  have t4 := ht.1
  unfold fm_M_isWord fb_M_isWord_0 fb_M_isWord_30 fb_M_isWord_31
  have ei : inb (w.1 69) 4002 = true := by rw [h69]; exact i_inb (by omega) (by decide)
  have en : (w.1 69).toNatClampNeg = p := by rw [h69]; exact i_nt (by omega)
  rw [show ln 6 = 4002 from rfl, show ln 7 = 4002 from rfl, ei, en, h6 p hp, hs]
  have s6 := srK_3 (K p) k46
  by_cases e6 : 5 ≤ K p ∧ K p ≤ 19
  · have hl := ht.lt hp (by omega) (by omega)
    rw [decide_eq_true (s6.mpr e6), h7 p hl (by omega)]
    have e7 := svK_w (K p) (by omega) k (by omega) e6.1 hk.1
    by_cases e : K p = k
    · rw [decide_eq_true (e7.mpr e), if_pos e]; rfl
    · rw [decide_eq_false (fun z => e (e7.mp z)), if_neg e]; rfl
  · rw [decide_eq_false (fun z => e6 (s6.mp z)), if_neg (by omega)]; rfl
def adv (w : MS) (p : Nat) : MS := upI w 69 (I ((p + 1 : Nat) : Int))
theorem adv_p (h : WP w K T p) (hl : p < T) : WP (adv w p) K T (p + 1) := ⟨h.1, upI_at, hl⟩
theorem tkS_e (h : WP w K T p) (h0 : w.1 67 = 0) (hk : 20 ≤ k ∧ k ≤ 44) (hs : s = I (svK k : Nat)) : fm_M_takeSign N w s = some (if K p = k then (adv w p, 1) else (w, 0)) := by
  unfold fm_M_takeSign fb_M_takeSign_0 fb_M_takeSign_15
  rw [decide_eq_true h0, isS_e h hk hs]
  by_cases e : K p = k
  · rw [if_pos e, if_pos e]
    show some (upI w 69 (w.1 69 + 1), (1 : Int32)) = _
    rw [h.2.1, i_suc]; rfl
  · rw [if_neg e, if_neg e]; rfl
theorem tkW_e (h : WP w K T p) (h0 : w.1 67 = 0) (hk : 5 ≤ k ∧ k ≤ 19) (hs : s = I (svK k : Nat)) : fm_M_takeWord N w s = some (if K p = k then (adv w p, 1) else (w, 0)) := by
  unfold fm_M_takeWord fb_M_takeWord_0 fb_M_takeWord_15
  rw [decide_eq_true h0, isV_e h hk hs]
  by_cases e : K p = k
  · rw [if_pos e, if_pos e]
    show some (upI w 69 (w.1 69 + 1), (1 : Int32)) = _
    rw [h.2.1, i_suc]; rfl
  · rw [if_neg e, if_neg e]; rfl
theorem ndS_1 (h : WP w K T p) (h0 : w.1 67 = 0) (hk : 20 ≤ k ∧ k ≤ 44) (hs : s = I (svK k : Nat)) (e : K p = k) : fm_M_needSign N w s = some (adv w p, ()) := by
  unfold fm_M_needSign fb_M_needSign_0 fb_M_needSign_13
  rw [tkS_e h h0 hk hs, if_pos e]; rfl
theorem ndW_1 (h : WP w K T p) (h0 : w.1 67 = 0) (hk : 5 ≤ k ∧ k ≤ 19) (hs : s = I (svK k : Nat)) (e : K p = k) : fm_M_needWord N w s = some (adv w p, ()) := by
  unfold fm_M_needWord fb_M_needWord_0 fb_M_needWord_13
  rw [tkW_e h h0 hk hs, if_pos e]; rfl
def FLW (w : MS) : Prop := w.1 67 ≠ 0
theorem ndS_0 (h : WP w K T p) (h0 : w.1 67 = 0) (hk : 20 ≤ k ∧ k ≤ 44) (hs : s = I (svK k : Nat)) (e : K p ≠ k) : PK (fun v _ => FLW v) (fm_M_needSign N w s) := by
  unfold fm_M_needSign fb_M_needSign_0 fb_M_needSign_13
  rw [tkS_e h h0 hk hs, if_neg e]
  show PK _ (bnd (fm_M_wrong N w 2) (fun u2 _ => some (u2, ())))
  exact pk_bnd (fun v r z => pk_some (wrong_s (u0 := w) (by decide) v r z))
theorem ndW_0 (h : WP w K T p) (h0 : w.1 67 = 0) (hk : 5 ≤ k ∧ k ≤ 19) (hs : s = I (svK k : Nat)) (e : K p ≠ k) : PK (fun v _ => FLW v) (fm_M_needWord N w s) := by
  unfold fm_M_needWord fb_M_needWord_0 fb_M_needWord_13
  rw [tkW_e h h0 hk hs, if_neg e]
  show PK _ (bnd (fm_M_wrong N w 2) (fun u2 _ => some (u2, ())))
  exact pk_bnd (fun v r z => pk_some (wrong_s (u0 := w) (by decide) v r z))
end
