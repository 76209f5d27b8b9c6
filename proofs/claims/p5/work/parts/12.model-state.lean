/-! the reference's state as a value (ints and booleans, longs, what arrays hold), and its world -/
abbrev MS : Type := (Nat → Int32) × (Nat → Int64) × (Nat → Nat → Int32) × (Nat → Nat → Int64)
/-- 0 int, 1 boolean, 2 long, then arrays: 3 byte, 4 int, 5 long, 6 boolean, 7 short -/
def kdl : List Nat := [3, 3, 3, 0, 3, 0, 3, 4, 4, 0, 0, 0, 3, 4, 0, 3, 4, 0, 3, 4, 0, 3, 3, 3, 7, 4, 4, 4, 4, 4, 6, 4, 0, 3, 5, 4, 4, 4, 6, 0, 4, 4, 4, 4, 4, 4, 0, 4, 4, 4, 4, 4, 0, 4, 4, 4, 0, 4, 0, 4, 4, 4, 4, 4, 4, 0, 1, 0, 0, 0, 0, 0, 0, 1, 4, 0, 4, 0, 4, 3, 7, 4, 4, 0, 0, 0, 1, 1, 5, 4, 4, 5, 4, 5, 4, 4, 4, 4, 4, 4, 4, 4, 4, 4, 4, 4, 4, 5, 4, 4, 4, 5, 6, 4, 4, 4, 4, 4, 0, 0, 0, 0, 4, 4, 4, 0, 3, 4, 0, 3, 0, 3, 4, 0, 5, 4, 0, 5, 0, 2, 0, 5, 4, 3, 0, 4, 4, 4, 5, 0, 0, 1, 1, 0, 0, 0, 0, 0, 0, 0, 4, 5, 4, 5, 0, 0, 1, 5, 6, 1, 4]
def kd (k : Nat) : Nat := kdl.getD k 0
def lnl : List Nat := [77, 161, 218, 0, 4000, 0, 4002, 4002, 4002, 0, 0, 0, 5000, 2200, 0, 5000, 2200, 0, 4002, 2002, 0, 21, 36, 16000, 16000, 16000, 16000, 16000, 16000, 16000, 16000, 16000, 0, 5000, 5000, 5000, 5000, 5000, 5000, 0, 1400, 1400, 1400, 1400, 1400, 1400, 0, 1000, 1000, 1000, 1000, 1000, 0, 1400, 1400, 1400, 0, 24000, 0, 37800, 27, 37800, 37800, 27, 27, 0, 0, 0, 0, 0, 0, 0, 0, 0, 400, 0, 3240, 0, 27, 3000, 3000, 3000, 3000, 0, 0, 0, 0, 0, 12500, 25, 24, 1104000, 24, 60000, 24, 24, 1440, 1440, 1440, 1440, 1440, 1440, 38400, 38400, 38400, 38400, 24, 720, 24, 24, 24, 24, 24, 24, 24, 24, 576, 24, 0, 0, 0, 0, 4000, 4000, 4000, 0, 20000, 200, 0, 100, 0, 2400, 24, 0, 500, 500, 0, 500, 0, 0, 0, 3000, 3000, 100, 0, 4000, 4000, 4000, 4000, 0, 0, 0, 0, 0, 0, 0, 0, 0, 0, 0, 3000, 3000, 10, 10, 0, 0, 0, 500, 500, 0, 24]
def ln (k : Nat) : Nat := lnl.getD k 0
def AK : List Nat := [170, 168, 167, 163, 162, 161, 160, 148, 147, 146, 145, 143, 142, 141, 137, 135, 134, 132, 131, 129, 127, 126, 124, 123, 122, 117, 116, 115, 114, 113, 112, 111, 110, 109, 108, 107, 106, 105, 104, 103, 102, 101, 100, 99, 98, 97, 96, 95, 94, 93, 92, 91, 90, 89, 88, 82, 81, 80, 79, 78, 76, 74, 64, 63, 62, 61, 60, 59, 57, 55, 54, 53, 51, 50, 49, 48, 47, 45, 44, 43, 42, 41, 40, 38, 37, 36, 35, 34, 33, 31, 30, 29, 28, 27, 26, 25, 24, 23, 22, 21, 19, 18, 16, 15, 13, 12, 8, 7, 6, 4, 2, 1, 0]
def VM (ad : Nat → Nat) (u : MS) (k : Nat) : Value := if kd k ≤ 1 then .int (u.1 k) else if kd k = 2 then .long (u.2.1 k) else .ref (ad k)
def cA5 (cB cI cJ cZ cS : ClassId) (k : Nat) : ClassId := if kd k = 3 then cB else if kd k = 4 then cI else if kd k = 5 then cJ else if kd k = 6 then cZ else cS
def el (cB cI cJ cZ cS : ClassId) (u : MS) (k : Nat) : va_E := if kd k = 5 then .inl (cA5 cB cI cJ cZ cS k, ln k, .inr (.inl (u.2.2.2 k))) else .inl (cA5 cB cI cJ cZ cS k, ln k, .inl (u.2.2.1 k))
def wM (cB cI cJ cZ cS : ClassId) (iM h0 : Nat) (ad : Nat → Nat) (u : MS) : va_W := (h0, .inr (iM, fl 171 (VM ad u))) :: AK.map (fun k => (ad k, el cB cI cJ cZ cS u k))
def ixf (k : Nat) : List Nat → Nat
  | [] => 0
  | b :: L => if b = k then 0 else ixf k L + 1
def plc (k : Nat) : Nat := ixf k AK + 1
def upA (u : MS) (k : Nat) (f : Nat → Int32) : MS := (u.1, u.2.1, (fun j => if j = k then f else u.2.2.1 j), u.2.2.2)
def upJ (u : MS) (k : Nat) (f : Nat → Int64) : MS := (u.1, u.2.1, u.2.2.1, (fun j => if j = k then f else u.2.2.2 j))
def upI (u : MS) (k : Nat) (v : Int32) : MS := ((fun j => if j = k then v else u.1 j), u.2.1, u.2.2.1, u.2.2.2)
def upL (u : MS) (k : Nat) (v : Int64) : MS := (u.1, (fun j => if j = k then v else u.2.1 j), u.2.2.1, u.2.2.2)
theorem AK_nd : AK.Nodup := by decide +kernel
theorem map_set {α : Type} {g g2 : Nat → α} {y : α} {k : Nat} (hg : ∀ j, j ≠ k → g j = g2 j) (hy : g2 k = y) : ∀ (L : List Nat), L.Nodup → k ∈ L → (L.map g).set (ixf k L) y = L.map g2
  | [], _, h => by cases h
  | b :: L, hn, h => by
    rw [List.nodup_cons] at hn
    by_cases hb : b = k
    · subst hb
      rw [ixf, if_pos rfl, List.map_cons, List.set_cons_zero, List.map_cons, hy]
      congr 1
      exact List.map_congr_left (fun j hj => hg j (fun z => hn.1 (z ▸ hj)))
    · rw [ixf, if_neg hb, List.map_cons, List.set_cons_succ, List.map_cons, hg b hb, map_set hg hy L hn.2 ((List.mem_cons.mp h).resolve_left (fun z => hb z.symm))]
theorem map_at {α : Type} {g : Nat → α} {k : Nat} : ∀ (L : List Nat), k ∈ L → (L.map g)[ixf k L]? = some (g k)
  | [], h => by cases h
  | b :: L, h => by
    by_cases hb : b = k
    · subst hb
      rw [ixf, if_pos rfl]
      rfl
    · rw [ixf, if_neg hb, List.map_cons, List.getElem?_cons_succ]
      exact map_at L ((List.mem_cons.mp h).resolve_left (fun z => hb z.symm))
theorem ms_at {cB cI cJ cZ cS : ClassId} {iM h0 : Nat} {ad : Nat → Nat} {u : MS} {k : Nat} (hk : k ∈ AK) : (wM cB cI cJ cZ cS iM h0 ad u)[plc k]? = some (ad k, el cB cI cJ cZ cS u k) := by
  unfold wM plc
  rw [List.getElem?_cons_succ]
  exact map_at AK hk
theorem ms_setA {cB cI cJ cZ cS : ClassId} {iM h0 : Nat} {ad : Nat → Nat} {u : MS} {k : Nat} {f : Nat → Int32} (hk : k ∈ AK) (h5 : kd k ≠ 5) : (wM cB cI cJ cZ cS iM h0 ad u).set (plc k) (ad k, .inl (cA5 cB cI cJ cZ cS k, ln k, .inl f)) = wM cB cI cJ cZ cS iM h0 ad (upA u k f) := by
  unfold wM plc
  rw [List.set_cons_succ]
  congr 1
  refine map_set (fun j hj => ?_) ?_ AK AK_nd hk
  · simp [el, upA, hj]
  · simp [el, upA, h5]
theorem ms_setJ {cB cI cJ cZ cS : ClassId} {iM h0 : Nat} {ad : Nat → Nat} {u : MS} {k : Nat} {f : Nat → Int64} (hk : k ∈ AK) (h5 : kd k = 5) : (wM cB cI cJ cZ cS iM h0 ad u).set (plc k) (ad k, .inl (cA5 cB cI cJ cZ cS k, ln k, .inr (.inl f))) = wM cB cI cJ cZ cS iM h0 ad (upJ u k f) := by
  unfold wM plc
  rw [List.set_cons_succ]
  congr 1
  refine map_set (fun j hj => ?_) ?_ AK AK_nd hk
  · simp [el, upJ, hj]
  · simp [el, upJ, h5]
theorem ms_setI {cB cI cJ cZ cS : ClassId} {iM h0 : Nat} {ad : Nat → Nat} {u : MS} {k : Nat} {v : Int32} (h : kd k ≤ 1) : (wM cB cI cJ cZ cS iM h0 ad u).set 0 (h0, .inr (iM, fl 171 (va_up (VM ad u) k (.int v)))) = wM cB cI cJ cZ cS iM h0 ad (upI u k v) := by
  unfold wM
  rw [List.set_cons_zero]
  congr 4
  refine congrArg (fl 171) (funext fun j => ?_)
  unfold va_up VM upI
  by_cases hj : j = k
  · subst hj
    simp [h]
  · simp [hj]
theorem ms_setL {cB cI cJ cZ cS : ClassId} {iM h0 : Nat} {ad : Nat → Nat} {u : MS} {k : Nat} {v : Int64} (h : kd k = 2) : (wM cB cI cJ cZ cS iM h0 ad u).set 0 (h0, .inr (iM, fl 171 (va_up (VM ad u) k (.long v)))) = wM cB cI cJ cZ cS iM h0 ad (upL u k v) := by
  unfold wM
  rw [List.set_cons_zero]
  congr 4
  refine congrArg (fl 171) (funext fun j => ?_)
  unfold va_up VM upL
  by_cases hj : j = k
  · subst hj
    simp [h]
  · simp [hj]
