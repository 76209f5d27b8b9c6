section
set_option maxRecDepth 100000
def Zp (p W : Nat) (x : Int64) (u : MS) : MS := (u.1, u.2.1, u.2.2.1, (fun K => if K = 91 then vp_updL (u.2.2.2 91) (46000 * p + W) x else u.2.2.2 K))
def ZIc (p W : Nat) (x : Int64) (u : MS) : Prop := ¬ isH x ∧ ¬ isH (u.2.2.2 91 (46000 * p + W))
def CZ {α : Type} (p W : Nat) (x : Int64) (a b : Option (MS × α)) : Prop := ∀ s' r, a = some (s', r) → ∃ s, b = some (s, r) ∧ s' = Zp p W x s ∧ ZIc p W x s
section
variable {α β : Type} {p W : Nat} {x : Int64} {s : MS} {k : Nat}
theorem zr_1 : (Zp p W x s).1 = s.1 := rfl
theorem zr_2 : (Zp p W x s).2.1 = s.2.1 := rfl
theorem zr_A (_ : k ≠ 92) : (Zp p W x s).2.2.1 k = s.2.2.1 k := rfl
theorem zr_J (h : k ≠ 91) : (Zp p W x s).2.2.2 k = s.2.2.2 k := if_neg h
theorem cz_none {b : Option (MS × α)} : CZ p W x none b := fun _ _ e => by cases e
theorem cz_some {r r' : α} (e : r' = r) (h : ZIc p W x s) : CZ p W x (some (Zp p W x s, r')) (some (s, r)) := fun s' r2 e2 => by
  injection e2 with e2
  injection e2 with e3 e4
  exact ⟨s, by rw [← e, ← e4], e3.symm, h⟩
theorem cz_ck {c c' : Bool} {a b : Option (MS × α)} (e : c' = c) (h : CZ p W x a b) : CZ p W x (ck c' a) (ck c b) := by
  subst e
  cases c'
  · exact cz_none
  · exact h
theorem cz_br {c c' : Bool} {a b a2 b2 : Option (MS × α)} (e : c' = c) (h : CZ p W x a b) (h2 : CZ p W x a2 b2) : CZ p W x (br c' a a2) (br c b b2) := by
  subst e
  cases c'
  · exact h2
  · exact h
theorem cz_bnd {a b : Option (MS × β)} {f g : MS → β → Option (MS × α)} (h1 : CZ p W x a b) (h2 : ∀ s r, ZIc p W x s → CZ p W x (f (Zp p W x s) r) (g s r)) : CZ p W x (bnd a f) (bnd b g) := by
  cases a with
  | none => exact cz_none
  | some z =>
    obtain ⟨s', r⟩ := z
    obtain ⟨s, e1, e2, e3⟩ := h1 s' r rfl
    subst e1
    subst e2
    exact h2 s r e3
theorem cz_ltv {y y' : β} {f g : β → Option (MS × α)} (e : y' = y) (h : ∀ z, CZ p W x (f z) (g z)) : CZ p W x (lt y' f) (lt y g) := by
  subst e
  exact h y'
theorem zp_A {r : Nat → Int32} (_ : k ≠ 92) : upA (Zp p W x s) k r = Zp p W x (upA s k r) := rfl
theorem zp_J {r : Nat → Int64} (hk : k ≠ 91) : upJ (Zp p W x s) k r = Zp p W x (upJ s k r) := by
  refine Prod.ext rfl (Prod.ext rfl (Prod.ext rfl (funext (fun K => ?_))))
  by_cases c : K = 91
  · subst c
    show (if (91 : Nat) = k then r else if (91 : Nat) = 91 then vp_updL (s.2.2.2 91) (46000 * p + W) x else s.2.2.2 91) = (if (91 : Nat) = 91 then vp_updL (if (91 : Nat) = k then r else s.2.2.2 91) (46000 * p + W) x else if (91 : Nat) = k then r else s.2.2.2 91)
    rw [if_neg (Ne.symm hk), if_pos rfl, if_pos rfl, if_neg (Ne.symm hk)]
  · show (if K = k then r else if K = 91 then vp_updL (s.2.2.2 91) (46000 * p + W) x else s.2.2.2 K) = (if K = 91 then vp_updL (if (91 : Nat) = k then r else s.2.2.2 91) (46000 * p + W) x else if K = k then r else s.2.2.2 K)
    rw [if_neg c, if_neg c]
theorem zi_A {r : Nat → Int32} (_ : k ≠ 92) (h : ZIc p W x s) : ZIc p W x (upA s k r) := h
theorem zi_J {r : Nat → Int64} (hk : k ≠ 91) (h : ZIc p W x s) : ZIc p W x (upJ s k r) := by
  refine ⟨h.1, ?_⟩
  show ¬ isH ((if (91 : Nat) = k then r else s.2.2.2 91) (46000 * p + W))
  rw [if_neg (Ne.symm hk)]
  exact h.2
theorem cz_A {r r' : Nat → Int32} {f g : MS → Option (MS × α)} (hk : k ≠ 92) (e : r' = r) (h : ZIc p W x s) (kk : ZIc p W x (upA s k r) → CZ p W x (f (Zp p W x (upA s k r))) (g (upA s k r))) : CZ p W x (lt (upA (Zp p W x s) k r') f) (lt (upA s k r) g) := by
  subst e
  show CZ p W x (f (upA (Zp p W x s) k r')) (g (upA s k r'))
  rw [zp_A hk]
  exact kk (zi_A hk h)
theorem cz_J {r r' : Nat → Int64} {f g : MS → Option (MS × α)} (hk : k ≠ 91) (e : r' = r) (h : ZIc p W x s) (kk : ZIc p W x (upJ s k r) → CZ p W x (f (Zp p W x (upJ s k r))) (g (upJ s k r))) : CZ p W x (lt (upJ (Zp p W x s) k r') f) (lt (upJ s k r) g) := by
  subst e
  show CZ p W x (f (upJ (Zp p W x s) k r')) (g (upJ s k r'))
  rw [zp_J hk]
  exact kk (zi_J hk h)
theorem cz_I {r r' : Int32} {f g : MS → Option (MS × α)} (e : r' = r) (h : ZIc p W x s) (kk : ZIc p W x (upI s k r) → CZ p W x (f (Zp p W x (upI s k r))) (g (upI s k r))) : CZ p W x (lt (upI (Zp p W x s) k r') f) (lt (upI s k r) g) := by
  subst e
  exact kk h
theorem cz_L {r r' : Int64} {f g : MS → Option (MS × α)} (e : r' = r) (h : ZIc p W x s) (kk : ZIc p W x (upL s k r) → CZ p W x (f (Zp p W x (upL s k r))) (g (upL s k r))) : CZ p W x (lt (upL (Zp p W x s) k r') f) (lt (upL s k r) g) := by
  subst e
  exact kk h
end
section
variable {N p W : Nat} {x : Int64} {u : MS}
theorem zc_fb_M_term_0 {v0 v0' : Int32} {v1 v1' : Int32} {G' G : Unit} (h : ZIc p W x u) (e_v0 : v0' = v0) (e_v1 : v1' = v1)  : CZ p W x (fb_M_term_0 N G' (Zp p W x u) v0' v1') (fb_M_term_0 N G u v0 v1) := by
  subst e_v0
  subst e_v1
  unfold fb_M_term_0
  repeat' (first | with_reducible rfl | with_reducible assumption | with_reducible refine cz_br ?_ ?_ ?_ | with_reducible refine cz_bnd ?_ (fun _ _ _ => ?_) | with_reducible refine cz_ck ?_ ?_ | with_reducible refine cz_some ?_ (by assumption) | with_reducible refine cz_A (by first | decide | exact And.right (by assumption)) ?_ (by assumption) (fun _ => ?_) | with_reducible refine cz_J (by first | decide | exact And.left (by assumption)) ?_ (by assumption) (fun _ => ?_) | with_reducible refine cz_I ?_ (by assumption) (fun _ => ?_) | with_reducible refine cz_L ?_ (by assumption) (fun _ => ?_) | with_reducible refine cz_ltv ?_ (fun _ => ?_) | (show _ = _; simp only [zr_1, zr_2]) | rfl)
theorem zc_fm_M_term {v0 v0' : Int32} {v1 v1' : Int32} (h : ZIc p W x u) (e_v0 : v0' = v0) (e_v1 : v1' = v1) : CZ p W x (fm_M_term N (Zp p W x u) v0' v1') (fm_M_term N u v0 v1) := by
  subst e_v0
  subst e_v1
  unfold fm_M_term
  exact zc_fb_M_term_0 h rfl rfl
theorem zc_fb_M_sortOf_0 {v0 v0' : Int64} {G' G : Unit} (h : ZIc p W x u) (e_v0 : v0' = v0)  : CZ p W x (fb_M_sortOf_0 N G' (Zp p W x u) v0') (fb_M_sortOf_0 N G u v0) := by
  subst e_v0
  unfold fb_M_sortOf_0
  repeat' (first | with_reducible rfl | with_reducible assumption | with_reducible refine cz_br ?_ ?_ ?_ | with_reducible refine cz_bnd ?_ (fun _ _ _ => ?_) | with_reducible refine cz_ck ?_ ?_ | with_reducible refine cz_some ?_ (by assumption) | with_reducible refine cz_A (by first | decide | exact And.right (by assumption)) ?_ (by assumption) (fun _ => ?_) | with_reducible refine cz_J (by first | decide | exact And.left (by assumption)) ?_ (by assumption) (fun _ => ?_) | with_reducible refine cz_I ?_ (by assumption) (fun _ => ?_) | with_reducible refine cz_L ?_ (by assumption) (fun _ => ?_) | with_reducible refine cz_ltv ?_ (fun _ => ?_) | (show _ = _; simp only [zr_1, zr_2]) | rfl)
theorem zc_fm_M_sortOf {v0 v0' : Int64} (h : ZIc p W x u) (e_v0 : v0' = v0) : CZ p W x (fm_M_sortOf N (Zp p W x u) v0') (fm_M_sortOf N u v0) := by
  subst e_v0
  unfold fm_M_sortOf
  exact zc_fb_M_sortOf_0 h rfl
theorem zc_fb_M_valueOf_0 {v0 v0' : Int64} {G' G : Unit} (h : ZIc p W x u) (e_v0 : v0' = v0)  : CZ p W x (fb_M_valueOf_0 N G' (Zp p W x u) v0') (fb_M_valueOf_0 N G u v0) := by
  subst e_v0
  unfold fb_M_valueOf_0
  repeat' (first | with_reducible rfl | with_reducible assumption | with_reducible refine cz_br ?_ ?_ ?_ | with_reducible refine cz_bnd ?_ (fun _ _ _ => ?_) | with_reducible refine cz_ck ?_ ?_ | with_reducible refine cz_some ?_ (by assumption) | with_reducible refine cz_A (by first | decide | exact And.right (by assumption)) ?_ (by assumption) (fun _ => ?_) | with_reducible refine cz_J (by first | decide | exact And.left (by assumption)) ?_ (by assumption) (fun _ => ?_) | with_reducible refine cz_I ?_ (by assumption) (fun _ => ?_) | with_reducible refine cz_L ?_ (by assumption) (fun _ => ?_) | with_reducible refine cz_ltv ?_ (fun _ => ?_) | (show _ = _; simp only [zr_1, zr_2]) | rfl)
theorem zc_fm_M_valueOf {v0 v0' : Int64} (h : ZIc p W x u) (e_v0 : v0' = v0) : CZ p W x (fm_M_valueOf N (Zp p W x u) v0') (fm_M_valueOf N u v0) := by
  subst e_v0
  unfold fm_M_valueOf
  exact zc_fb_M_valueOf_0 h rfl
theorem zc_fb_M_inHeap_26 {t0 t0' : Int32} {G' G : Unit} (h : ZIc p W x u) (e_t0 : t0' = t0)  : CZ p W x (fb_M_inHeap_26 N G' (Zp p W x u) t0') (fb_M_inHeap_26 N G u t0) := by
  subst e_t0
  unfold fb_M_inHeap_26
  repeat' (first | with_reducible rfl | with_reducible assumption | with_reducible refine cz_br ?_ ?_ ?_ | with_reducible refine cz_bnd ?_ (fun _ _ _ => ?_) | with_reducible refine cz_ck ?_ ?_ | with_reducible refine cz_some ?_ (by assumption) | with_reducible refine cz_A (by first | decide | exact And.right (by assumption)) ?_ (by assumption) (fun _ => ?_) | with_reducible refine cz_J (by first | decide | exact And.left (by assumption)) ?_ (by assumption) (fun _ => ?_) | with_reducible refine cz_I ?_ (by assumption) (fun _ => ?_) | with_reducible refine cz_L ?_ (by assumption) (fun _ => ?_) | with_reducible refine cz_ltv ?_ (fun _ => ?_) | (show _ = _; simp only [zr_1, zr_2]) | rfl)
theorem zc_fb_M_inHeap_21 {G' G : Unit} (h : ZIc p W x u)  : CZ p W x (fb_M_inHeap_21 N G' (Zp p W x u)) (fb_M_inHeap_21 N G u) := by
  unfold fb_M_inHeap_21
  repeat' (first | with_reducible rfl | with_reducible assumption | with_reducible refine cz_br ?_ ?_ ?_ | with_reducible refine cz_bnd ?_ (fun _ _ _ => ?_) | with_reducible refine cz_ck ?_ ?_ | with_reducible refine cz_some ?_ (by assumption) | with_reducible refine cz_A (by first | decide | exact And.right (by assumption)) ?_ (by assumption) (fun _ => ?_) | with_reducible refine cz_J (by first | decide | exact And.left (by assumption)) ?_ (by assumption) (fun _ => ?_) | with_reducible refine cz_I ?_ (by assumption) (fun _ => ?_) | with_reducible refine cz_L ?_ (by assumption) (fun _ => ?_) | with_reducible refine zc_fb_M_inHeap_26 (by assumption) ?_ | with_reducible refine cz_ltv ?_ (fun _ => ?_) | (show _ = _; simp only [zr_1, zr_2]) | rfl)
theorem zc_fb_M_inHeap_0 {v0 v0' : Int64} {G' G : Unit} (h : ZIc p W x u) (e_v0 : v0' = v0)  : CZ p W x (fb_M_inHeap_0 N G' (Zp p W x u) v0') (fb_M_inHeap_0 N G u v0) := by
  subst e_v0
  unfold fb_M_inHeap_0
  repeat' (first | with_reducible rfl | with_reducible assumption | with_reducible refine cz_br ?_ ?_ ?_ | with_reducible refine cz_bnd ?_ (fun _ _ _ => ?_) | with_reducible refine cz_ck ?_ ?_ | with_reducible refine cz_some ?_ (by assumption) | with_reducible refine cz_A (by first | decide | exact And.right (by assumption)) ?_ (by assumption) (fun _ => ?_) | with_reducible refine cz_J (by first | decide | exact And.left (by assumption)) ?_ (by assumption) (fun _ => ?_) | with_reducible refine cz_I ?_ (by assumption) (fun _ => ?_) | with_reducible refine cz_L ?_ (by assumption) (fun _ => ?_) | with_reducible refine zc_fb_M_inHeap_26 (by assumption) ?_ | with_reducible refine zc_fb_M_inHeap_21 (by assumption) | with_reducible refine zc_fm_M_sortOf (by assumption) ?_ | with_reducible refine cz_ltv ?_ (fun _ => ?_) | (show _ = _; simp only [zr_1, zr_2]) | rfl)
theorem zc_fm_M_inHeap {v0 v0' : Int64} (h : ZIc p W x u) (e_v0 : v0' = v0) : CZ p W x (fm_M_inHeap N (Zp p W x u) v0') (fm_M_inHeap N u v0) := by
  subst e_v0
  unfold fm_M_inHeap
  exact zc_fb_M_inHeap_0 h rfl
theorem zc_fb_M_cell_0 {v1 v1' : Int32} {v2 v2' : Int32} {G' G : Unit} (h : ZIc p W x u) (e_v1 : v1' = v1) (e_v2 : v2' = v2)  : CZ p W x (fb_M_cell_0 N G' (Zp p W x u) v1' v2') (fb_M_cell_0 N G u v1 v2) := by
  subst e_v1
  subst e_v2
  unfold fb_M_cell_0
  repeat' (first | with_reducible rfl | with_reducible assumption | with_reducible refine cz_br ?_ ?_ ?_ | with_reducible refine cz_bnd ?_ (fun _ _ _ => ?_) | with_reducible refine cz_ck ?_ ?_ | with_reducible refine cz_some ?_ (by assumption) | with_reducible refine cz_A (by first | decide | exact And.right (by assumption)) ?_ (by assumption) (fun _ => ?_) | with_reducible refine cz_J (by first | decide | exact And.left (by assumption)) ?_ (by assumption) (fun _ => ?_) | with_reducible refine cz_I ?_ (by assumption) (fun _ => ?_) | with_reducible refine cz_L ?_ (by assumption) (fun _ => ?_) | with_reducible refine cz_ltv ?_ (fun _ => ?_) | (show _ = _; simp only [zr_1, zr_2, zr_J (k := 88) (by decide)]) | rfl)
theorem zc_fm_M_cell {v1 v1' : Int32} {v2 v2' : Int32} (h : ZIc p W x u) (e_v1 : v1' = v1) (e_v2 : v2' = v2) : CZ p W x (fm_M_cell N (Zp p W x u) v1' v2') (fm_M_cell N u v1 v2) := by
  subst e_v1
  subst e_v2
  unfold fm_M_cell
  exact zc_fb_M_cell_0 h rfl rfl
theorem zc_fb_M_sizeOf_64 {t0 t0' : Int32} {G' G : Unit} (h : ZIc p W x u) (e_t0 : t0' = t0)  : CZ p W x (fb_M_sizeOf_64 N G' (Zp p W x u) t0') (fb_M_sizeOf_64 N G u t0) := by
  subst e_t0
  unfold fb_M_sizeOf_64
  repeat' (first | with_reducible rfl | with_reducible assumption | with_reducible refine cz_br ?_ ?_ ?_ | with_reducible refine cz_bnd ?_ (fun _ _ _ => ?_) | with_reducible refine cz_ck ?_ ?_ | with_reducible refine cz_some ?_ (by assumption) | with_reducible refine cz_A (by first | decide | exact And.right (by assumption)) ?_ (by assumption) (fun _ => ?_) | with_reducible refine cz_J (by first | decide | exact And.left (by assumption)) ?_ (by assumption) (fun _ => ?_) | with_reducible refine cz_I ?_ (by assumption) (fun _ => ?_) | with_reducible refine cz_L ?_ (by assumption) (fun _ => ?_) | with_reducible refine cz_ltv ?_ (fun _ => ?_) | (show _ = _; simp only [zr_1, zr_2]) | rfl)
theorem zc_fb_M_sizeOf_0 {v1 v1' : Int32} {v2 v2' : Int64} {G' G : Unit} (h : ZIc p W x u) (e_v1 : v1' = v1) (e_v2 : v2' = v2)  : CZ p W x (fb_M_sizeOf_0 N G' (Zp p W x u) v1' v2') (fb_M_sizeOf_0 N G u v1 v2) := by
  subst e_v1
  subst e_v2
  unfold fb_M_sizeOf_0
  repeat' (first | with_reducible rfl | with_reducible assumption | with_reducible refine cz_br ?_ ?_ ?_ | with_reducible refine cz_bnd ?_ (fun _ _ _ => ?_) | with_reducible refine cz_ck ?_ ?_ | with_reducible refine cz_some ?_ (by assumption) | with_reducible refine cz_A (by first | decide | exact And.right (by assumption)) ?_ (by assumption) (fun _ => ?_) | with_reducible refine cz_J (by first | decide | exact And.left (by assumption)) ?_ (by assumption) (fun _ => ?_) | with_reducible refine cz_I ?_ (by assumption) (fun _ => ?_) | with_reducible refine cz_L ?_ (by assumption) (fun _ => ?_) | with_reducible refine zc_fb_M_sizeOf_64 (by assumption) ?_ | with_reducible refine zc_fm_M_cell (by assumption) ?_ ?_ | with_reducible refine zc_fm_M_valueOf (by assumption) ?_ | with_reducible refine zc_fm_M_sortOf (by assumption) ?_ | with_reducible refine cz_ltv ?_ (fun _ => ?_) | (show _ = _; simp only [zr_1, zr_2]) | rfl)
theorem zc_fm_M_sizeOf {v1 v1' : Int32} {v2 v2' : Int64} (h : ZIc p W x u) (e_v1 : v1' = v1) (e_v2 : v2' = v2) : CZ p W x (fm_M_sizeOf N (Zp p W x u) v1' v2') (fm_M_sizeOf N u v1 v2) := by
  subst e_v1
  subst e_v2
  unfold fm_M_sizeOf
  exact zc_fb_M_sizeOf_0 h rfl rfl
theorem zc_fb_M_partsFrom_25 {t0 t0' : Int32} {G' G : Unit} (h : ZIc p W x u) (e_t0 : t0' = t0)  : CZ p W x (fb_M_partsFrom_25 N G' (Zp p W x u) t0') (fb_M_partsFrom_25 N G u t0) := by
  subst e_t0
  unfold fb_M_partsFrom_25
  repeat' (first | with_reducible rfl | with_reducible assumption | with_reducible refine cz_br ?_ ?_ ?_ | with_reducible refine cz_bnd ?_ (fun _ _ _ => ?_) | with_reducible refine cz_ck ?_ ?_ | with_reducible refine cz_some ?_ (by assumption) | with_reducible refine cz_A (by first | decide | exact And.right (by assumption)) ?_ (by assumption) (fun _ => ?_) | with_reducible refine cz_J (by first | decide | exact And.left (by assumption)) ?_ (by assumption) (fun _ => ?_) | with_reducible refine cz_I ?_ (by assumption) (fun _ => ?_) | with_reducible refine cz_L ?_ (by assumption) (fun _ => ?_) | with_reducible refine cz_ltv ?_ (fun _ => ?_) | (show _ = _; simp only [zr_1, zr_2]) | rfl)
theorem zc_fb_M_partsFrom_0 {v0 v0' : Int64} {G' G : Unit} (h : ZIc p W x u) (e_v0 : v0' = v0)  : CZ p W x (fb_M_partsFrom_0 N G' (Zp p W x u) v0') (fb_M_partsFrom_0 N G u v0) := by
  subst e_v0
  unfold fb_M_partsFrom_0
  repeat' (first | with_reducible rfl | with_reducible assumption | with_reducible refine cz_br ?_ ?_ ?_ | with_reducible refine cz_bnd ?_ (fun _ _ _ => ?_) | with_reducible refine cz_ck ?_ ?_ | with_reducible refine cz_some ?_ (by assumption) | with_reducible refine cz_A (by first | decide | exact And.right (by assumption)) ?_ (by assumption) (fun _ => ?_) | with_reducible refine cz_J (by first | decide | exact And.left (by assumption)) ?_ (by assumption) (fun _ => ?_) | with_reducible refine cz_I ?_ (by assumption) (fun _ => ?_) | with_reducible refine cz_L ?_ (by assumption) (fun _ => ?_) | with_reducible refine zc_fb_M_partsFrom_25 (by assumption) ?_ | with_reducible refine zc_fm_M_sortOf (by assumption) ?_ | with_reducible refine cz_ltv ?_ (fun _ => ?_) | (show _ = _; simp only [zr_1, zr_2]) | rfl)
theorem zc_fm_M_partsFrom {v0 v0' : Int64} (h : ZIc p W x u) (e_v0 : v0' = v0) : CZ p W x (fm_M_partsFrom N (Zp p W x u) v0') (fm_M_partsFrom N u v0) := by
  subst e_v0
  unfold fm_M_partsFrom
  exact zc_fb_M_partsFrom_0 h rfl
theorem zc_fb_M_carried_124 {v2 v2' : Int64} {v4 v4' : Int32} {G' G : (MS → Int32 → Int64 → Int32 → Int32 → Int32 → Option (MS × Int64))} (h : ZIc p W x u) (e_v2 : v2' = v2) (e_v4 : v4' = v4) (hG0 : ∀ (s : MS) (a0 b0 : Int32) (a1 b1 : Int64) (a2 b2 : Int32) (a3 b3 : Int32) (a4 b4 : Int32), ZIc p W x s → b0 = a0 → b1 = a1 → b2 = a2 → b3 = a3 → b4 = a4 → CZ p W x (G' (Zp p W x s) b0 b1 b2 b3 b4) (G s a0 a1 a2 a3 a4)) : CZ p W x (fb_M_carried_124 N G' (Zp p W x u) v2' v4') (fb_M_carried_124 N G u v2 v4) := by
  subst e_v2
  subst e_v4
  unfold fb_M_carried_124
  repeat' (first | with_reducible rfl | with_reducible assumption | with_reducible refine cz_br ?_ ?_ ?_ | with_reducible refine cz_bnd ?_ (fun _ _ _ => ?_) | with_reducible refine cz_ck ?_ ?_ | with_reducible refine cz_some ?_ (by assumption) | with_reducible refine cz_A (by first | decide | exact And.right (by assumption)) ?_ (by assumption) (fun _ => ?_) | with_reducible refine cz_J (by first | decide | exact And.left (by assumption)) ?_ (by assumption) (fun _ => ?_) | with_reducible refine cz_I ?_ (by assumption) (fun _ => ?_) | with_reducible refine cz_L ?_ (by assumption) (fun _ => ?_) | with_reducible refine hG0 _ _ _ _ _ _ _ _ _ _ _ (by assumption) ?_ ?_ ?_ ?_ ?_ | with_reducible refine cz_ltv ?_ (fun _ => ?_) | (show _ = _; simp only [zr_1, zr_2, zr_A (k := 135) (by decide)]) | rfl)
theorem zc_fb_M_carried_48 {v1 v1' : Int32} {v2 v2' : Int64} {v4 v4' : Int32} {v5 v5' : Int32} {v6 v6' : Int32} {G' G : (MS → Int32 → Int64 → Int32 → Int32 → Int32 → Option (MS × Int64))} (h : ZIc p W x u) (e_v1 : v1' = v1) (e_v2 : v2' = v2) (e_v4 : v4' = v4) (e_v5 : v5' = v5) (e_v6 : v6' = v6) (hG0 : ∀ (s : MS) (a0 b0 : Int32) (a1 b1 : Int64) (a2 b2 : Int32) (a3 b3 : Int32) (a4 b4 : Int32), ZIc p W x s → b0 = a0 → b1 = a1 → b2 = a2 → b3 = a3 → b4 = a4 → CZ p W x (G' (Zp p W x s) b0 b1 b2 b3 b4) (G s a0 a1 a2 a3 a4)) : CZ p W x (fb_M_carried_48 N G' (Zp p W x u) v1' v2' v4' v5' v6') (fb_M_carried_48 N G u v1 v2 v4 v5 v6) := by
  subst e_v1
  subst e_v2
  subst e_v4
  subst e_v5
  subst e_v6
  unfold fb_M_carried_48
  repeat' (first | with_reducible rfl | with_reducible assumption | with_reducible refine cz_br ?_ ?_ ?_ | with_reducible refine cz_bnd ?_ (fun _ _ _ => ?_) | with_reducible refine cz_ck ?_ ?_ | with_reducible refine cz_some ?_ (by assumption) | with_reducible refine cz_A (by first | decide | exact And.right (by assumption)) ?_ (by assumption) (fun _ => ?_) | with_reducible refine cz_J (by first | decide | exact And.left (by assumption)) ?_ (by assumption) (fun _ => ?_) | with_reducible refine cz_I ?_ (by assumption) (fun _ => ?_) | with_reducible refine cz_L ?_ (by assumption) (fun _ => ?_) | with_reducible refine zc_fb_M_carried_124 (by assumption) ?_ ?_ hG0 | with_reducible refine zc_fm_M_cell (by assumption) ?_ ?_ | with_reducible refine hG0 _ _ _ _ _ _ _ _ _ _ _ (by assumption) ?_ ?_ ?_ ?_ ?_ | with_reducible refine cz_ltv ?_ (fun _ => ?_) | (show _ = _; simp only [zr_1, zr_2, zr_J (k := 134) (by decide), zr_J (k := 137) (by decide)]) | rfl)
theorem zc_fb_M_carried_0 {v1 v1' : Int32} {v2 v2' : Int64} {G' G : (MS → Int32 → Int64 → Int32 → Int32 → Int32 → Option (MS × Int64))} (h : ZIc p W x u) (e_v1 : v1' = v1) (e_v2 : v2' = v2) (hG0 : ∀ (s : MS) (a0 b0 : Int32) (a1 b1 : Int64) (a2 b2 : Int32) (a3 b3 : Int32) (a4 b4 : Int32), ZIc p W x s → b0 = a0 → b1 = a1 → b2 = a2 → b3 = a3 → b4 = a4 → CZ p W x (G' (Zp p W x s) b0 b1 b2 b3 b4) (G s a0 a1 a2 a3 a4)) : CZ p W x (fb_M_carried_0 N G' (Zp p W x u) v1' v2') (fb_M_carried_0 N G u v1 v2) := by
  subst e_v1
  subst e_v2
  unfold fb_M_carried_0
  repeat' (first | with_reducible rfl | with_reducible assumption | with_reducible refine cz_br ?_ ?_ ?_ | with_reducible refine cz_bnd ?_ (fun _ _ _ => ?_) | with_reducible refine cz_ck ?_ ?_ | with_reducible refine cz_some ?_ (by assumption) | with_reducible refine cz_A (by first | decide | exact And.right (by assumption)) ?_ (by assumption) (fun _ => ?_) | with_reducible refine cz_J (by first | decide | exact And.left (by assumption)) ?_ (by assumption) (fun _ => ?_) | with_reducible refine cz_I ?_ (by assumption) (fun _ => ?_) | with_reducible refine cz_L ?_ (by assumption) (fun _ => ?_) | with_reducible refine zc_fb_M_carried_124 (by assumption) ?_ ?_ hG0 | with_reducible refine zc_fm_M_sizeOf (by assumption) ?_ ?_ | with_reducible refine zc_fm_M_valueOf (by assumption) ?_ | with_reducible refine zc_fm_M_inHeap (by assumption) ?_ | with_reducible refine hG0 _ _ _ _ _ _ _ _ _ _ _ (by assumption) ?_ ?_ ?_ ?_ ?_ | with_reducible refine cz_ltv ?_ (fun _ => ?_) | (show _ = _; simp only [zr_1, zr_2, zr_A (k := 135) (by decide)]) | rfl)
theorem zc_gg_M_carried : ∀ (n n' : Nat), n ≤ n' → (∀ (s : MS) (a0 b0 : Int32) (a1 b1 : Int64) (a2 b2 : Int32) (a3 b3 : Int32) (a4 b4 : Int32), ZIc p W x s → b0 = a0 → b1 = a1 → b2 = a2 → b3 = a3 → b4 = a4 → CZ p W x ((gg_M_carried N n) (Zp p W x s) b0 b1 b2 b3 b4) ((gg_M_carried N n') s a0 a1 a2 a3 a4)) := by
  intro n
  induction n with
  | zero => intro n' _; exact fun _ _ _ _ _ _ _ _ _ _ _ _ _ _ _ _ _ => cz_none
  | succ n ih =>
    intro n' hn
    cases n' with
    | zero => omega
    | succ n' =>
    have ih' := ih n' (by omega)
    exact fun _ _ _ _ _ _ _ _ _ _ _ h e0 e1 e2 e3 e4 => zc_fb_M_carried_48 (N := N) h e0 e1 e2 e3 e4 ih'
theorem zc_fm_M_carried {v1 v1' : Int32} {v2 v2' : Int64} (h : ZIc p W x u) (e_v1 : v1' = v1) (e_v2 : v2' = v2) : CZ p W x (fm_M_carried N (Zp p W x u) v1' v2') (fm_M_carried N u v1 v2) := by
  subst e_v1
  subst e_v2
  unfold fm_M_carried
  exact zc_fb_M_carried_0 h rfl rfl ((zc_gg_M_carried N N (Nat.le_refl _)))
theorem zc_fb_M_clear_337 {v1 v1' : Int32} {v2 v2' : Int32} {G' G : (MS → Int32 → Int32 → Option (MS × Unit)) × (MS → Int32 → Int32 → Option (MS × Unit)) × (MS → Int32 → Int32 → Option (MS × Unit)) × (MS → Int32 → Int32 → Option (MS × Unit)) × (MS → Int32 → Int32 → Option (MS × Unit)) × (MS → Int32 → Int32 → Int32 → Int32 → Int32 → Option (MS × Unit)) × (MS → Int32 → Int32 → Option (MS × Unit))} (h : ZIc p W x u) (e_v1 : v1' = v1) (e_v2 : v2' = v2) (hG0 : ∀ (s : MS) (a0 b0 : Int32) (a1 b1 : Int32), ZIc p W x s → b0 = a0 → b1 = a1 → CZ p W x (G'.1 (Zp p W x s) b0 b1) (G.1 s a0 a1)) (hG1 : ∀ (s : MS) (a0 b0 : Int32) (a1 b1 : Int32), ZIc p W x s → b0 = a0 → b1 = a1 → CZ p W x (G'.2.1 (Zp p W x s) b0 b1) (G.2.1 s a0 a1)) (hG2 : ∀ (s : MS) (a0 b0 : Int32) (a1 b1 : Int32), ZIc p W x s → b0 = a0 → b1 = a1 → CZ p W x (G'.2.2.1 (Zp p W x s) b0 b1) (G.2.2.1 s a0 a1)) (hG3 : ∀ (s : MS) (a0 b0 : Int32) (a1 b1 : Int32), ZIc p W x s → b0 = a0 → b1 = a1 → CZ p W x (G'.2.2.2.1 (Zp p W x s) b0 b1) (G.2.2.2.1 s a0 a1)) (hG4 : ∀ (s : MS) (a0 b0 : Int32) (a1 b1 : Int32), ZIc p W x s → b0 = a0 → b1 = a1 → CZ p W x (G'.2.2.2.2.1 (Zp p W x s) b0 b1) (G.2.2.2.2.1 s a0 a1)) (hG5 : ∀ (s : MS) (a0 b0 : Int32) (a1 b1 : Int32) (a2 b2 : Int32) (a3 b3 : Int32) (a4 b4 : Int32), ZIc p W x s → b0 = a0 → b1 = a1 → b2 = a2 → b3 = a3 → b4 = a4 → CZ p W x (G'.2.2.2.2.2.1 (Zp p W x s) b0 b1 b2 b3 b4) (G.2.2.2.2.2.1 s a0 a1 a2 a3 a4)) (hG6 : ∀ (s : MS) (a0 b0 : Int32) (a1 b1 : Int32), ZIc p W x s → b0 = a0 → b1 = a1 → CZ p W x (G'.2.2.2.2.2.2 (Zp p W x s) b0 b1) (G.2.2.2.2.2.2 s a0 a1)) : CZ p W x (fb_M_clear_337 N G' (Zp p W x u) v1' v2') (fb_M_clear_337 N G u v1 v2) := by
  subst e_v1
  subst e_v2
  unfold fb_M_clear_337
  repeat' (first | with_reducible rfl | with_reducible assumption | with_reducible refine cz_br ?_ ?_ ?_ | with_reducible refine cz_bnd ?_ (fun _ _ _ => ?_) | with_reducible refine cz_ck ?_ ?_ | with_reducible refine cz_some ?_ (by assumption) | with_reducible refine cz_A (by first | decide | exact And.right (by assumption)) ?_ (by assumption) (fun _ => ?_) | with_reducible refine cz_J (by first | decide | exact And.left (by assumption)) ?_ (by assumption) (fun _ => ?_) | with_reducible refine cz_I ?_ (by assumption) (fun _ => ?_) | with_reducible refine cz_L ?_ (by assumption) (fun _ => ?_) | with_reducible refine hG0 _ _ _ _ _ (by assumption) ?_ ?_ | with_reducible refine hG1 _ _ _ _ _ (by assumption) ?_ ?_ | with_reducible refine hG2 _ _ _ _ _ (by assumption) ?_ ?_ | with_reducible refine hG3 _ _ _ _ _ (by assumption) ?_ ?_ | with_reducible refine hG4 _ _ _ _ _ (by assumption) ?_ ?_ | with_reducible refine hG5 _ _ _ _ _ _ _ _ _ _ _ (by assumption) ?_ ?_ ?_ ?_ ?_ | with_reducible refine hG6 _ _ _ _ _ (by assumption) ?_ ?_ | with_reducible refine cz_ltv ?_ (fun _ => ?_) | (show _ = _; simp only [zr_1, zr_2, zr_J (k := 88) (by decide), zr_J (k := 134) (by decide)]) | rfl)
theorem zc_fb_M_clear_281 {v1 v1' : Int32} {v2 v2' : Int32} {v5 v5' : Int32} {v7 v7' : Int32} {v8 v8' : Int32} {G' G : (MS → Int32 → Int32 → Option (MS × Unit)) × (MS → Int32 → Int32 → Option (MS × Unit)) × (MS → Int32 → Int32 → Option (MS × Unit)) × (MS → Int32 → Int32 → Option (MS × Unit)) × (MS → Int32 → Int32 → Option (MS × Unit)) × (MS → Int32 → Int32 → Int32 → Int32 → Int32 → Option (MS × Unit)) × (MS → Int32 → Int32 → Option (MS × Unit))} (h : ZIc p W x u) (e_v1 : v1' = v1) (e_v2 : v2' = v2) (e_v5 : v5' = v5) (e_v7 : v7' = v7) (e_v8 : v8' = v8) (hG0 : ∀ (s : MS) (a0 b0 : Int32) (a1 b1 : Int32), ZIc p W x s → b0 = a0 → b1 = a1 → CZ p W x (G'.1 (Zp p W x s) b0 b1) (G.1 s a0 a1)) (hG1 : ∀ (s : MS) (a0 b0 : Int32) (a1 b1 : Int32), ZIc p W x s → b0 = a0 → b1 = a1 → CZ p W x (G'.2.1 (Zp p W x s) b0 b1) (G.2.1 s a0 a1)) (hG2 : ∀ (s : MS) (a0 b0 : Int32) (a1 b1 : Int32), ZIc p W x s → b0 = a0 → b1 = a1 → CZ p W x (G'.2.2.1 (Zp p W x s) b0 b1) (G.2.2.1 s a0 a1)) (hG3 : ∀ (s : MS) (a0 b0 : Int32) (a1 b1 : Int32), ZIc p W x s → b0 = a0 → b1 = a1 → CZ p W x (G'.2.2.2.1 (Zp p W x s) b0 b1) (G.2.2.2.1 s a0 a1)) (hG4 : ∀ (s : MS) (a0 b0 : Int32) (a1 b1 : Int32), ZIc p W x s → b0 = a0 → b1 = a1 → CZ p W x (G'.2.2.2.2.1 (Zp p W x s) b0 b1) (G.2.2.2.2.1 s a0 a1)) (hG5 : ∀ (s : MS) (a0 b0 : Int32) (a1 b1 : Int32) (a2 b2 : Int32) (a3 b3 : Int32) (a4 b4 : Int32), ZIc p W x s → b0 = a0 → b1 = a1 → b2 = a2 → b3 = a3 → b4 = a4 → CZ p W x (G'.2.2.2.2.2.1 (Zp p W x s) b0 b1 b2 b3 b4) (G.2.2.2.2.2.1 s a0 a1 a2 a3 a4)) (hG6 : ∀ (s : MS) (a0 b0 : Int32) (a1 b1 : Int32), ZIc p W x s → b0 = a0 → b1 = a1 → CZ p W x (G'.2.2.2.2.2.2 (Zp p W x s) b0 b1) (G.2.2.2.2.2.2 s a0 a1)) : CZ p W x (fb_M_clear_281 N G' (Zp p W x u) v1' v2' v5' v7' v8') (fb_M_clear_281 N G u v1 v2 v5 v7 v8) := by
  subst e_v1
  subst e_v2
  subst e_v5
  subst e_v7
  subst e_v8
  unfold fb_M_clear_281
  repeat' (first | with_reducible rfl | with_reducible assumption | with_reducible refine cz_br ?_ ?_ ?_ | with_reducible refine cz_bnd ?_ (fun _ _ _ => ?_) | with_reducible refine cz_ck ?_ ?_ | with_reducible refine cz_some ?_ (by assumption) | with_reducible refine cz_A (by first | decide | exact And.right (by assumption)) ?_ (by assumption) (fun _ => ?_) | with_reducible refine cz_J (by first | decide | exact And.left (by assumption)) ?_ (by assumption) (fun _ => ?_) | with_reducible refine cz_I ?_ (by assumption) (fun _ => ?_) | with_reducible refine cz_L ?_ (by assumption) (fun _ => ?_) | with_reducible refine zc_fm_M_carried (by assumption) ?_ ?_ | with_reducible refine hG0 _ _ _ _ _ (by assumption) ?_ ?_ | with_reducible refine hG1 _ _ _ _ _ (by assumption) ?_ ?_ | with_reducible refine hG2 _ _ _ _ _ (by assumption) ?_ ?_ | with_reducible refine hG3 _ _ _ _ _ (by assumption) ?_ ?_ | with_reducible refine hG4 _ _ _ _ _ (by assumption) ?_ ?_ | with_reducible refine hG5 _ _ _ _ _ _ _ _ _ _ _ (by assumption) ?_ ?_ ?_ ?_ ?_ | with_reducible refine hG6 _ _ _ _ _ (by assumption) ?_ ?_ | with_reducible refine cz_ltv ?_ (fun _ => ?_) | (show _ = _; simp only [zr_1, zr_2, zr_J (k := 134) (by decide)]) | rfl)
theorem zc_fb_M_clear_273 {v1 v1' : Int32} {v2 v2' : Int32} {v3 v3' : Int64} {v5 v5' : Int32} {t0 t0' : Int32} {G' G : (MS → Int32 → Int32 → Option (MS × Unit)) × (MS → Int32 → Int32 → Option (MS × Unit)) × (MS → Int32 → Int32 → Option (MS × Unit)) × (MS → Int32 → Int32 → Option (MS × Unit)) × (MS → Int32 → Int32 → Option (MS × Unit)) × (MS → Int32 → Int32 → Int32 → Int32 → Int32 → Option (MS × Unit)) × (MS → Int32 → Int32 → Option (MS × Unit))} (h : ZIc p W x u) (e_v1 : v1' = v1) (e_v2 : v2' = v2) (e_v3 : v3' = v3) (e_v5 : v5' = v5) (e_t0 : t0' = t0) (hG0 : ∀ (s : MS) (a0 b0 : Int32) (a1 b1 : Int32), ZIc p W x s → b0 = a0 → b1 = a1 → CZ p W x (G'.1 (Zp p W x s) b0 b1) (G.1 s a0 a1)) (hG1 : ∀ (s : MS) (a0 b0 : Int32) (a1 b1 : Int32), ZIc p W x s → b0 = a0 → b1 = a1 → CZ p W x (G'.2.1 (Zp p W x s) b0 b1) (G.2.1 s a0 a1)) (hG2 : ∀ (s : MS) (a0 b0 : Int32) (a1 b1 : Int32), ZIc p W x s → b0 = a0 → b1 = a1 → CZ p W x (G'.2.2.1 (Zp p W x s) b0 b1) (G.2.2.1 s a0 a1)) (hG3 : ∀ (s : MS) (a0 b0 : Int32) (a1 b1 : Int32), ZIc p W x s → b0 = a0 → b1 = a1 → CZ p W x (G'.2.2.2.1 (Zp p W x s) b0 b1) (G.2.2.2.1 s a0 a1)) (hG4 : ∀ (s : MS) (a0 b0 : Int32) (a1 b1 : Int32), ZIc p W x s → b0 = a0 → b1 = a1 → CZ p W x (G'.2.2.2.2.1 (Zp p W x s) b0 b1) (G.2.2.2.2.1 s a0 a1)) (hG5 : ∀ (s : MS) (a0 b0 : Int32) (a1 b1 : Int32) (a2 b2 : Int32) (a3 b3 : Int32) (a4 b4 : Int32), ZIc p W x s → b0 = a0 → b1 = a1 → b2 = a2 → b3 = a3 → b4 = a4 → CZ p W x (G'.2.2.2.2.2.1 (Zp p W x s) b0 b1 b2 b3 b4) (G.2.2.2.2.2.1 s a0 a1 a2 a3 a4)) (hG6 : ∀ (s : MS) (a0 b0 : Int32) (a1 b1 : Int32), ZIc p W x s → b0 = a0 → b1 = a1 → CZ p W x (G'.2.2.2.2.2.2 (Zp p W x s) b0 b1) (G.2.2.2.2.2.2 s a0 a1)) : CZ p W x (fb_M_clear_273 N G' (Zp p W x u) v1' v2' v3' v5' t0') (fb_M_clear_273 N G u v1 v2 v3 v5 t0) := by
  subst e_v1
  subst e_v2
  subst e_v3
  subst e_v5
  subst e_t0
  unfold fb_M_clear_273
  repeat' (first | with_reducible rfl | with_reducible assumption | with_reducible refine cz_br ?_ ?_ ?_ | with_reducible refine cz_bnd ?_ (fun _ _ _ => ?_) | with_reducible refine cz_ck ?_ ?_ | with_reducible refine cz_some ?_ (by assumption) | with_reducible refine cz_A (by first | decide | exact And.right (by assumption)) ?_ (by assumption) (fun _ => ?_) | with_reducible refine cz_J (by first | decide | exact And.left (by assumption)) ?_ (by assumption) (fun _ => ?_) | with_reducible refine cz_I ?_ (by assumption) (fun _ => ?_) | with_reducible refine cz_L ?_ (by assumption) (fun _ => ?_) | with_reducible refine zc_fm_M_partsFrom (by assumption) ?_ | with_reducible refine hG0 _ _ _ _ _ (by assumption) ?_ ?_ | with_reducible refine hG1 _ _ _ _ _ (by assumption) ?_ ?_ | with_reducible refine hG2 _ _ _ _ _ (by assumption) ?_ ?_ | with_reducible refine hG3 _ _ _ _ _ (by assumption) ?_ ?_ | with_reducible refine hG4 _ _ _ _ _ (by assumption) ?_ ?_ | with_reducible refine hG5 _ _ _ _ _ _ _ _ _ _ _ (by assumption) ?_ ?_ ?_ ?_ ?_ | with_reducible refine hG6 _ _ _ _ _ (by assumption) ?_ ?_ | with_reducible refine cz_ltv ?_ (fun _ => ?_) | (show _ = _; simp only [zr_1, zr_2]) | rfl)
theorem zc_fb_M_clear_204 {v1 v1' : Int32} {v2 v2' : Int32} {G' G : (MS → Int32 → Int32 → Option (MS × Unit)) × (MS → Int32 → Int32 → Option (MS × Unit)) × (MS → Int32 → Int32 → Option (MS × Unit)) × (MS → Int32 → Int32 → Option (MS × Unit)) × (MS → Int32 → Int32 → Option (MS × Unit)) × (MS → Int32 → Int32 → Int32 → Int32 → Int32 → Option (MS × Unit)) × (MS → Int32 → Int32 → Option (MS × Unit))} (h : ZIc p W x u) (e_v1 : v1' = v1) (e_v2 : v2' = v2) (hG0 : ∀ (s : MS) (a0 b0 : Int32) (a1 b1 : Int32), ZIc p W x s → b0 = a0 → b1 = a1 → CZ p W x (G'.1 (Zp p W x s) b0 b1) (G.1 s a0 a1)) (hG1 : ∀ (s : MS) (a0 b0 : Int32) (a1 b1 : Int32), ZIc p W x s → b0 = a0 → b1 = a1 → CZ p W x (G'.2.1 (Zp p W x s) b0 b1) (G.2.1 s a0 a1)) (hG2 : ∀ (s : MS) (a0 b0 : Int32) (a1 b1 : Int32), ZIc p W x s → b0 = a0 → b1 = a1 → CZ p W x (G'.2.2.1 (Zp p W x s) b0 b1) (G.2.2.1 s a0 a1)) (hG3 : ∀ (s : MS) (a0 b0 : Int32) (a1 b1 : Int32), ZIc p W x s → b0 = a0 → b1 = a1 → CZ p W x (G'.2.2.2.1 (Zp p W x s) b0 b1) (G.2.2.2.1 s a0 a1)) (hG4 : ∀ (s : MS) (a0 b0 : Int32) (a1 b1 : Int32), ZIc p W x s → b0 = a0 → b1 = a1 → CZ p W x (G'.2.2.2.2.1 (Zp p W x s) b0 b1) (G.2.2.2.2.1 s a0 a1)) (hG5 : ∀ (s : MS) (a0 b0 : Int32) (a1 b1 : Int32) (a2 b2 : Int32) (a3 b3 : Int32) (a4 b4 : Int32), ZIc p W x s → b0 = a0 → b1 = a1 → b2 = a2 → b3 = a3 → b4 = a4 → CZ p W x (G'.2.2.2.2.2.1 (Zp p W x s) b0 b1 b2 b3 b4) (G.2.2.2.2.2.1 s a0 a1 a2 a3 a4)) (hG6 : ∀ (s : MS) (a0 b0 : Int32) (a1 b1 : Int32), ZIc p W x s → b0 = a0 → b1 = a1 → CZ p W x (G'.2.2.2.2.2.2 (Zp p W x s) b0 b1) (G.2.2.2.2.2.2 s a0 a1)) : CZ p W x (fb_M_clear_204 N G' (Zp p W x u) v1' v2') (fb_M_clear_204 N G u v1 v2) := by
  subst e_v1
  subst e_v2
  unfold fb_M_clear_204
  repeat' (first | with_reducible rfl | with_reducible assumption | with_reducible refine cz_br ?_ ?_ ?_ | with_reducible refine cz_bnd ?_ (fun _ _ _ => ?_) | with_reducible refine cz_ck ?_ ?_ | with_reducible refine cz_some ?_ (by assumption) | with_reducible refine cz_A (by first | decide | exact And.right (by assumption)) ?_ (by assumption) (fun _ => ?_) | with_reducible refine cz_J (by first | decide | exact And.left (by assumption)) ?_ (by assumption) (fun _ => ?_) | with_reducible refine cz_I ?_ (by assumption) (fun _ => ?_) | with_reducible refine cz_L ?_ (by assumption) (fun _ => ?_) | with_reducible refine zc_fb_M_clear_273 (by assumption) ?_ ?_ ?_ ?_ ?_ hG0 hG1 hG2 hG3 hG4 hG5 hG6 | with_reducible refine zc_fm_M_valueOf (by assumption) ?_ | with_reducible refine zc_fm_M_sortOf (by assumption) ?_ | with_reducible refine hG0 _ _ _ _ _ (by assumption) ?_ ?_ | with_reducible refine hG1 _ _ _ _ _ (by assumption) ?_ ?_ | with_reducible refine hG2 _ _ _ _ _ (by assumption) ?_ ?_ | with_reducible refine hG3 _ _ _ _ _ (by assumption) ?_ ?_ | with_reducible refine hG4 _ _ _ _ _ (by assumption) ?_ ?_ | with_reducible refine hG5 _ _ _ _ _ _ _ _ _ _ _ (by assumption) ?_ ?_ ?_ ?_ ?_ | with_reducible refine hG6 _ _ _ _ _ (by assumption) ?_ ?_ | with_reducible refine cz_ltv ?_ (fun _ => ?_) | (show _ = _; simp only [zr_1, zr_2, zr_A (k := 89) (by decide), zr_J (k := 134) (by decide), zr_J (k := 137) (by decide)]) | rfl)
theorem zc_fb_M_clear_202 {v1 v1' : Int32} {G' G : (MS → Int32 → Int32 → Option (MS × Unit)) × (MS → Int32 → Int32 → Option (MS × Unit)) × (MS → Int32 → Int32 → Option (MS × Unit)) × (MS → Int32 → Int32 → Option (MS × Unit)) × (MS → Int32 → Int32 → Option (MS × Unit)) × (MS → Int32 → Int32 → Int32 → Int32 → Int32 → Option (MS × Unit)) × (MS → Int32 → Int32 → Option (MS × Unit))} (h : ZIc p W x u) (e_v1 : v1' = v1) (hG0 : ∀ (s : MS) (a0 b0 : Int32) (a1 b1 : Int32), ZIc p W x s → b0 = a0 → b1 = a1 → CZ p W x (G'.1 (Zp p W x s) b0 b1) (G.1 s a0 a1)) (hG1 : ∀ (s : MS) (a0 b0 : Int32) (a1 b1 : Int32), ZIc p W x s → b0 = a0 → b1 = a1 → CZ p W x (G'.2.1 (Zp p W x s) b0 b1) (G.2.1 s a0 a1)) (hG2 : ∀ (s : MS) (a0 b0 : Int32) (a1 b1 : Int32), ZIc p W x s → b0 = a0 → b1 = a1 → CZ p W x (G'.2.2.1 (Zp p W x s) b0 b1) (G.2.2.1 s a0 a1)) (hG3 : ∀ (s : MS) (a0 b0 : Int32) (a1 b1 : Int32), ZIc p W x s → b0 = a0 → b1 = a1 → CZ p W x (G'.2.2.2.1 (Zp p W x s) b0 b1) (G.2.2.2.1 s a0 a1)) (hG4 : ∀ (s : MS) (a0 b0 : Int32) (a1 b1 : Int32), ZIc p W x s → b0 = a0 → b1 = a1 → CZ p W x (G'.2.2.2.2.1 (Zp p W x s) b0 b1) (G.2.2.2.2.1 s a0 a1)) (hG5 : ∀ (s : MS) (a0 b0 : Int32) (a1 b1 : Int32) (a2 b2 : Int32) (a3 b3 : Int32) (a4 b4 : Int32), ZIc p W x s → b0 = a0 → b1 = a1 → b2 = a2 → b3 = a3 → b4 = a4 → CZ p W x (G'.2.2.2.2.2.1 (Zp p W x s) b0 b1 b2 b3 b4) (G.2.2.2.2.2.1 s a0 a1 a2 a3 a4)) (hG6 : ∀ (s : MS) (a0 b0 : Int32) (a1 b1 : Int32), ZIc p W x s → b0 = a0 → b1 = a1 → CZ p W x (G'.2.2.2.2.2.2 (Zp p W x s) b0 b1) (G.2.2.2.2.2.2 s a0 a1)) : CZ p W x (fb_M_clear_202 N G' (Zp p W x u) v1') (fb_M_clear_202 N G u v1) := by
  subst e_v1
  unfold fb_M_clear_202
  repeat' (first | with_reducible rfl | with_reducible assumption | with_reducible refine cz_br ?_ ?_ ?_ | with_reducible refine cz_bnd ?_ (fun _ _ _ => ?_) | with_reducible refine cz_ck ?_ ?_ | with_reducible refine cz_some ?_ (by assumption) | with_reducible refine cz_A (by first | decide | exact And.right (by assumption)) ?_ (by assumption) (fun _ => ?_) | with_reducible refine cz_J (by first | decide | exact And.left (by assumption)) ?_ (by assumption) (fun _ => ?_) | with_reducible refine cz_I ?_ (by assumption) (fun _ => ?_) | with_reducible refine cz_L ?_ (by assumption) (fun _ => ?_) | with_reducible refine hG0 _ _ _ _ _ (by assumption) ?_ ?_ | with_reducible refine hG1 _ _ _ _ _ (by assumption) ?_ ?_ | with_reducible refine hG2 _ _ _ _ _ (by assumption) ?_ ?_ | with_reducible refine hG3 _ _ _ _ _ (by assumption) ?_ ?_ | with_reducible refine hG4 _ _ _ _ _ (by assumption) ?_ ?_ | with_reducible refine hG5 _ _ _ _ _ _ _ _ _ _ _ (by assumption) ?_ ?_ ?_ ?_ ?_ | with_reducible refine hG6 _ _ _ _ _ (by assumption) ?_ ?_ | with_reducible refine cz_ltv ?_ (fun _ => ?_) | (show _ = _; simp only [zr_1, zr_2]) | rfl)
theorem zc_fb_M_clear_138 {v1 v1' : Int32} {v2 v2' : Int32} {G' G : (MS → Int32 → Int32 → Option (MS × Unit)) × (MS → Int32 → Int32 → Option (MS × Unit)) × (MS → Int32 → Int32 → Option (MS × Unit)) × (MS → Int32 → Int32 → Option (MS × Unit)) × (MS → Int32 → Int32 → Option (MS × Unit)) × (MS → Int32 → Int32 → Int32 → Int32 → Int32 → Option (MS × Unit)) × (MS → Int32 → Int32 → Option (MS × Unit))} (h : ZIc p W x u) (e_v1 : v1' = v1) (e_v2 : v2' = v2) (hG0 : ∀ (s : MS) (a0 b0 : Int32) (a1 b1 : Int32), ZIc p W x s → b0 = a0 → b1 = a1 → CZ p W x (G'.1 (Zp p W x s) b0 b1) (G.1 s a0 a1)) (hG1 : ∀ (s : MS) (a0 b0 : Int32) (a1 b1 : Int32), ZIc p W x s → b0 = a0 → b1 = a1 → CZ p W x (G'.2.1 (Zp p W x s) b0 b1) (G.2.1 s a0 a1)) (hG2 : ∀ (s : MS) (a0 b0 : Int32) (a1 b1 : Int32), ZIc p W x s → b0 = a0 → b1 = a1 → CZ p W x (G'.2.2.1 (Zp p W x s) b0 b1) (G.2.2.1 s a0 a1)) (hG3 : ∀ (s : MS) (a0 b0 : Int32) (a1 b1 : Int32), ZIc p W x s → b0 = a0 → b1 = a1 → CZ p W x (G'.2.2.2.1 (Zp p W x s) b0 b1) (G.2.2.2.1 s a0 a1)) (hG4 : ∀ (s : MS) (a0 b0 : Int32) (a1 b1 : Int32), ZIc p W x s → b0 = a0 → b1 = a1 → CZ p W x (G'.2.2.2.2.1 (Zp p W x s) b0 b1) (G.2.2.2.2.1 s a0 a1)) (hG5 : ∀ (s : MS) (a0 b0 : Int32) (a1 b1 : Int32) (a2 b2 : Int32) (a3 b3 : Int32) (a4 b4 : Int32), ZIc p W x s → b0 = a0 → b1 = a1 → b2 = a2 → b3 = a3 → b4 = a4 → CZ p W x (G'.2.2.2.2.2.1 (Zp p W x s) b0 b1 b2 b3 b4) (G.2.2.2.2.2.1 s a0 a1 a2 a3 a4)) (hG6 : ∀ (s : MS) (a0 b0 : Int32) (a1 b1 : Int32), ZIc p W x s → b0 = a0 → b1 = a1 → CZ p W x (G'.2.2.2.2.2.2 (Zp p W x s) b0 b1) (G.2.2.2.2.2.2 s a0 a1)) : CZ p W x (fb_M_clear_138 N G' (Zp p W x u) v1' v2') (fb_M_clear_138 N G u v1 v2) := by
  subst e_v1
  subst e_v2
  unfold fb_M_clear_138
  repeat' (first | with_reducible rfl | with_reducible assumption | with_reducible refine cz_br ?_ ?_ ?_ | with_reducible refine cz_bnd ?_ (fun _ _ _ => ?_) | with_reducible refine cz_ck ?_ ?_ | with_reducible refine cz_some ?_ (by assumption) | with_reducible refine cz_A (by first | decide | exact And.right (by assumption)) ?_ (by assumption) (fun _ => ?_) | with_reducible refine cz_J (by first | decide | exact And.left (by assumption)) ?_ (by assumption) (fun _ => ?_) | with_reducible refine cz_I ?_ (by assumption) (fun _ => ?_) | with_reducible refine cz_L ?_ (by assumption) (fun _ => ?_) | with_reducible refine zc_fb_M_clear_202 (by assumption) ?_ hG0 hG1 hG2 hG3 hG4 hG5 hG6 | with_reducible refine zc_fm_M_carried (by assumption) ?_ ?_ | with_reducible refine hG0 _ _ _ _ _ (by assumption) ?_ ?_ | with_reducible refine hG1 _ _ _ _ _ (by assumption) ?_ ?_ | with_reducible refine hG2 _ _ _ _ _ (by assumption) ?_ ?_ | with_reducible refine hG3 _ _ _ _ _ (by assumption) ?_ ?_ | with_reducible refine hG4 _ _ _ _ _ (by assumption) ?_ ?_ | with_reducible refine hG5 _ _ _ _ _ _ _ _ _ _ _ (by assumption) ?_ ?_ ?_ ?_ ?_ | with_reducible refine hG6 _ _ _ _ _ (by assumption) ?_ ?_ | with_reducible refine cz_ltv ?_ (fun _ => ?_) | (show _ = _; simp only [zr_1, zr_2, zr_A (k := 108) (by decide), zr_J (k := 107) (by decide)]) | rfl)
theorem zc_fb_M_clear_91 {v1 v1' : Int32} {v2 v2' : Int32} {G' G : (MS → Int32 → Int32 → Option (MS × Unit)) × (MS → Int32 → Int32 → Option (MS × Unit)) × (MS → Int32 → Int32 → Option (MS × Unit)) × (MS → Int32 → Int32 → Option (MS × Unit)) × (MS → Int32 → Int32 → Option (MS × Unit)) × (MS → Int32 → Int32 → Int32 → Int32 → Int32 → Option (MS × Unit)) × (MS → Int32 → Int32 → Option (MS × Unit))} (h : ZIc p W x u) (e_v1 : v1' = v1) (e_v2 : v2' = v2) (hG0 : ∀ (s : MS) (a0 b0 : Int32) (a1 b1 : Int32), ZIc p W x s → b0 = a0 → b1 = a1 → CZ p W x (G'.1 (Zp p W x s) b0 b1) (G.1 s a0 a1)) (hG1 : ∀ (s : MS) (a0 b0 : Int32) (a1 b1 : Int32), ZIc p W x s → b0 = a0 → b1 = a1 → CZ p W x (G'.2.1 (Zp p W x s) b0 b1) (G.2.1 s a0 a1)) (hG2 : ∀ (s : MS) (a0 b0 : Int32) (a1 b1 : Int32), ZIc p W x s → b0 = a0 → b1 = a1 → CZ p W x (G'.2.2.1 (Zp p W x s) b0 b1) (G.2.2.1 s a0 a1)) (hG3 : ∀ (s : MS) (a0 b0 : Int32) (a1 b1 : Int32), ZIc p W x s → b0 = a0 → b1 = a1 → CZ p W x (G'.2.2.2.1 (Zp p W x s) b0 b1) (G.2.2.2.1 s a0 a1)) (hG4 : ∀ (s : MS) (a0 b0 : Int32) (a1 b1 : Int32), ZIc p W x s → b0 = a0 → b1 = a1 → CZ p W x (G'.2.2.2.2.1 (Zp p W x s) b0 b1) (G.2.2.2.2.1 s a0 a1)) (hG5 : ∀ (s : MS) (a0 b0 : Int32) (a1 b1 : Int32) (a2 b2 : Int32) (a3 b3 : Int32) (a4 b4 : Int32), ZIc p W x s → b0 = a0 → b1 = a1 → b2 = a2 → b3 = a3 → b4 = a4 → CZ p W x (G'.2.2.2.2.2.1 (Zp p W x s) b0 b1 b2 b3 b4) (G.2.2.2.2.2.1 s a0 a1 a2 a3 a4)) (hG6 : ∀ (s : MS) (a0 b0 : Int32) (a1 b1 : Int32), ZIc p W x s → b0 = a0 → b1 = a1 → CZ p W x (G'.2.2.2.2.2.2 (Zp p W x s) b0 b1) (G.2.2.2.2.2.2 s a0 a1)) : CZ p W x (fb_M_clear_91 N G' (Zp p W x u) v1' v2') (fb_M_clear_91 N G u v1 v2) := by
  subst e_v1
  subst e_v2
  unfold fb_M_clear_91
  repeat' (first | with_reducible rfl | with_reducible assumption | with_reducible refine cz_br ?_ ?_ ?_ | with_reducible refine cz_bnd ?_ (fun _ _ _ => ?_) | with_reducible refine cz_ck ?_ ?_ | with_reducible refine cz_some ?_ (by assumption) | with_reducible refine cz_A (by first | decide | exact And.right (by assumption)) ?_ (by assumption) (fun _ => ?_) | with_reducible refine cz_J (by first | decide | exact And.left (by assumption)) ?_ (by assumption) (fun _ => ?_) | with_reducible refine cz_I ?_ (by assumption) (fun _ => ?_) | with_reducible refine cz_L ?_ (by assumption) (fun _ => ?_) | with_reducible refine zc_fm_M_carried (by assumption) ?_ ?_ | with_reducible refine hG0 _ _ _ _ _ (by assumption) ?_ ?_ | with_reducible refine hG1 _ _ _ _ _ (by assumption) ?_ ?_ | with_reducible refine hG2 _ _ _ _ _ (by assumption) ?_ ?_ | with_reducible refine hG3 _ _ _ _ _ (by assumption) ?_ ?_ | with_reducible refine hG4 _ _ _ _ _ (by assumption) ?_ ?_ | with_reducible refine hG5 _ _ _ _ _ _ _ _ _ _ _ (by assumption) ?_ ?_ ?_ ?_ ?_ | with_reducible refine hG6 _ _ _ _ _ (by assumption) ?_ ?_ | with_reducible refine cz_ltv ?_ (fun _ => ?_) | (show _ = _; simp only [zr_1, zr_2, zr_A (k := 94) (by decide), zr_J (k := 93) (by decide)]) | rfl)
theorem car_lit {v : Int32} {x : Int64} (hx : ¬ isH x) : fm_M_carried N u v x = some (u, x) := by
  unfold fm_M_carried fb_M_carried_0
  rw [inHeap_e.2 hx, bnd_so, show decide (I 0 = 0) = true from rfl, br_tq]
theorem zp_91 {i : Nat} : (Zp p W x u).2.2.2 91 i = if i = 46000 * p + W then x else u.2.2.2 91 i := by
  show (if (91 : Nat) = 91 then vp_updL (u.2.2.2 91) (46000 * p + W) x else u.2.2.2 91) i = _
  rw [if_pos rfl]
  rfl
theorem zp_J91 {i : Nat} {r : Int64} (hi : i ≠ 46000 * p + W) : upJ (Zp p W x u) 91 (vp_updL ((Zp p W x u).2.2.2 91) i r) = Zp p W x (upJ u 91 (vp_updL (u.2.2.2 91) i r)) := by
  refine Prod.ext rfl (Prod.ext rfl (Prod.ext rfl (funext (fun K => ?_))))
  by_cases c : K = 91
  · subst c
    funext k
    show (wj (Zp p W x u) 91 i r).2.2.2 91 k = (Zp p W x (wj u 91 i r)).2.2.2 91 k
    rw [wj_row, zp_91, zp_91, wj_row]
    by_cases c1 : k = i
    · rw [if_pos c1, if_neg (by omega), if_pos c1]
    · rw [if_neg c1, if_neg c1]
  · show (if K = 91 then vp_updL ((Zp p W x u).2.2.2 91) i r else if K = 91 then vp_updL (u.2.2.2 91) (46000 * p + W) x else u.2.2.2 K) = (if K = 91 then _ else if K = 91 then vp_updL (u.2.2.2 91) i r else u.2.2.2 K)
    rw [if_neg c, if_neg c, if_neg c, if_neg c]
theorem zp_Jx : upJ (Zp p W x u) 91 (vp_updL ((Zp p W x u).2.2.2 91) (46000 * p + W) x) = Zp p W x (upJ u 91 (vp_updL (u.2.2.2 91) (46000 * p + W) (u.2.2.2 91 (46000 * p + W)))) := by
  refine Prod.ext rfl (Prod.ext rfl (Prod.ext rfl (funext (fun K => ?_))))
  by_cases c : K = 91
  · subst c
    funext k
    show (wj (Zp p W x u) 91 (46000 * p + W) x).2.2.2 91 k = (Zp p W x (wj u 91 (46000 * p + W) (u.2.2.2 91 (46000 * p + W)))).2.2.2 91 k
    rw [wj_row, zp_91, zp_91, wj_row]
    by_cases c1 : k = 46000 * p + W
    · rw [if_pos c1, if_pos c1]
    · rw [if_neg c1, if_neg c1, if_neg c1, if_neg c1]
  · show (if K = 91 then vp_updL ((Zp p W x u).2.2.2 91) (46000 * p + W) x else if K = 91 then vp_updL (u.2.2.2 91) (46000 * p + W) x else u.2.2.2 K) = (if K = 91 then _ else if K = 91 then vp_updL (u.2.2.2 91) (46000 * p + W) (u.2.2.2 91 (46000 * p + W)) else u.2.2.2 K)
    rw [if_neg c, if_neg c, if_neg c, if_neg c]
theorem zi_91 {i : Nat} {r : Int64} (hi : i ≠ 46000 * p + W) (h : ZIc p W x u) : ZIc p W x (upJ u 91 (vp_updL (u.2.2.2 91) i r)) := by
  refine ⟨h.1, ?_⟩
  show ¬ isH ((wj u 91 i r).2.2.2 91 (46000 * p + W))
  rw [wj_row, if_neg (Ne.symm hi)]
  exact h.2
theorem zi_9x (h : ZIc p W x u) : ZIc p W x (upJ u 91 (vp_updL (u.2.2.2 91) (46000 * p + W) (u.2.2.2 91 (46000 * p + W)))) := by
  refine ⟨h.1, ?_⟩
  show ¬ isH ((wj u 91 (46000 * p + W) (u.2.2.2 91 (46000 * p + W))).2.2.2 91 (46000 * p + W))
  rw [wj_row, if_pos rfl]
  exact h.2
theorem zc_fb_M_clear_44 {v1 v1' : Int32} {v2 v2' : Int32} {G' G : (MS → Int32 → Int32 → Option (MS × Unit)) × (MS → Int32 → Int32 → Option (MS × Unit)) × (MS → Int32 → Int32 → Option (MS × Unit)) × (MS → Int32 → Int32 → Option (MS × Unit)) × (MS → Int32 → Int32 → Option (MS × Unit)) × (MS → Int32 → Int32 → Int32 → Int32 → Int32 → Option (MS × Unit)) × (MS → Int32 → Int32 → Option (MS × Unit))} (h : ZIc p W x u) (e_v1 : v1' = v1) (e_v2 : v2' = v2) (_ : ∀ (s : MS) (a0 b0 : Int32) (a1 b1 : Int32), ZIc p W x s → b0 = a0 → b1 = a1 → CZ p W x (G'.1 (Zp p W x s) b0 b1) (G.1 s a0 a1)) (hG1 : ∀ (s : MS) (a0 b0 : Int32) (a1 b1 : Int32), ZIc p W x s → b0 = a0 → b1 = a1 → CZ p W x (G'.2.1 (Zp p W x s) b0 b1) (G.2.1 s a0 a1)) (hG2 : ∀ (s : MS) (a0 b0 : Int32) (a1 b1 : Int32), ZIc p W x s → b0 = a0 → b1 = a1 → CZ p W x (G'.2.2.1 (Zp p W x s) b0 b1) (G.2.2.1 s a0 a1)) (_ : ∀ (s : MS) (a0 b0 : Int32) (a1 b1 : Int32), ZIc p W x s → b0 = a0 → b1 = a1 → CZ p W x (G'.2.2.2.1 (Zp p W x s) b0 b1) (G.2.2.2.1 s a0 a1)) (_ : ∀ (s : MS) (a0 b0 : Int32) (a1 b1 : Int32), ZIc p W x s → b0 = a0 → b1 = a1 → CZ p W x (G'.2.2.2.2.1 (Zp p W x s) b0 b1) (G.2.2.2.2.1 s a0 a1)) (_ : ∀ (s : MS) (a0 b0 : Int32) (a1 b1 : Int32) (a2 b2 : Int32) (a3 b3 : Int32) (a4 b4 : Int32), ZIc p W x s → b0 = a0 → b1 = a1 → b2 = a2 → b3 = a3 → b4 = a4 → CZ p W x (G'.2.2.2.2.2.1 (Zp p W x s) b0 b1 b2 b3 b4) (G.2.2.2.2.2.1 s a0 a1 a2 a3 a4)) (_ : ∀ (s : MS) (a0 b0 : Int32) (a1 b1 : Int32), ZIc p W x s → b0 = a0 → b1 = a1 → CZ p W x (G'.2.2.2.2.2.2 (Zp p W x s) b0 b1) (G.2.2.2.2.2.2 s a0 a1)) : CZ p W x (fb_M_clear_44 N G' (Zp p W x u) v1' v2') (fb_M_clear_44 N G u v1 v2) := by
  subst e_v1
  subst e_v2
  unfold fb_M_clear_44
  refine cz_ck rfl (cz_br rfl (hG2 _ _ _ _ _ h rfl rfl) (cz_ck rfl ?_))
  by_cases c : ((v1' * 46000) + v2').toNatClampNeg = 46000 * p + W
  · rw [c, zp_91, if_pos rfl, car_lit h.1, bnd_so, car_lit h.2, bnd_so]
    refine cz_ck rfl ?_
    rw [zp_Jx]
    exact hG1 _ _ _ _ _ (zi_9x h) rfl rfl
  · rw [zp_91, if_neg c]
    refine cz_bnd (zc_fm_M_carried h rfl rfl) (fun s r hs => cz_ck rfl ?_)
    rw [zp_J91 c]
    exact hG1 _ _ _ _ _ (zi_91 c hs) rfl rfl
theorem zc_fb_M_clear_22 {v1 v1' : Int32} {v2 v2' : Int32} {G' G : (MS → Int32 → Int32 → Option (MS × Unit)) × (MS → Int32 → Int32 → Option (MS × Unit)) × (MS → Int32 → Int32 → Option (MS × Unit)) × (MS → Int32 → Int32 → Option (MS × Unit)) × (MS → Int32 → Int32 → Option (MS × Unit)) × (MS → Int32 → Int32 → Int32 → Int32 → Int32 → Option (MS × Unit)) × (MS → Int32 → Int32 → Option (MS × Unit))} (h : ZIc p W x u) (e_v1 : v1' = v1) (e_v2 : v2' = v2) (hG0 : ∀ (s : MS) (a0 b0 : Int32) (a1 b1 : Int32), ZIc p W x s → b0 = a0 → b1 = a1 → CZ p W x (G'.1 (Zp p W x s) b0 b1) (G.1 s a0 a1)) (hG1 : ∀ (s : MS) (a0 b0 : Int32) (a1 b1 : Int32), ZIc p W x s → b0 = a0 → b1 = a1 → CZ p W x (G'.2.1 (Zp p W x s) b0 b1) (G.2.1 s a0 a1)) (hG2 : ∀ (s : MS) (a0 b0 : Int32) (a1 b1 : Int32), ZIc p W x s → b0 = a0 → b1 = a1 → CZ p W x (G'.2.2.1 (Zp p W x s) b0 b1) (G.2.2.1 s a0 a1)) (hG3 : ∀ (s : MS) (a0 b0 : Int32) (a1 b1 : Int32), ZIc p W x s → b0 = a0 → b1 = a1 → CZ p W x (G'.2.2.2.1 (Zp p W x s) b0 b1) (G.2.2.2.1 s a0 a1)) (hG4 : ∀ (s : MS) (a0 b0 : Int32) (a1 b1 : Int32), ZIc p W x s → b0 = a0 → b1 = a1 → CZ p W x (G'.2.2.2.2.1 (Zp p W x s) b0 b1) (G.2.2.2.2.1 s a0 a1)) (hG5 : ∀ (s : MS) (a0 b0 : Int32) (a1 b1 : Int32) (a2 b2 : Int32) (a3 b3 : Int32) (a4 b4 : Int32), ZIc p W x s → b0 = a0 → b1 = a1 → b2 = a2 → b3 = a3 → b4 = a4 → CZ p W x (G'.2.2.2.2.2.1 (Zp p W x s) b0 b1 b2 b3 b4) (G.2.2.2.2.2.1 s a0 a1 a2 a3 a4)) (hG6 : ∀ (s : MS) (a0 b0 : Int32) (a1 b1 : Int32), ZIc p W x s → b0 = a0 → b1 = a1 → CZ p W x (G'.2.2.2.2.2.2 (Zp p W x s) b0 b1) (G.2.2.2.2.2.2 s a0 a1)) : CZ p W x (fb_M_clear_22 N G' (Zp p W x u) v1' v2') (fb_M_clear_22 N G u v1 v2) := by
  subst e_v1
  subst e_v2
  unfold fb_M_clear_22
  repeat' (first | with_reducible rfl | with_reducible assumption | with_reducible refine cz_br ?_ ?_ ?_ | with_reducible refine cz_bnd ?_ (fun _ _ _ => ?_) | with_reducible refine cz_ck ?_ ?_ | with_reducible refine cz_some ?_ (by assumption) | with_reducible refine cz_A (by first | decide | exact And.right (by assumption)) ?_ (by assumption) (fun _ => ?_) | with_reducible refine cz_J (by first | decide | exact And.left (by assumption)) ?_ (by assumption) (fun _ => ?_) | with_reducible refine cz_I ?_ (by assumption) (fun _ => ?_) | with_reducible refine cz_L ?_ (by assumption) (fun _ => ?_) | with_reducible refine hG0 _ _ _ _ _ (by assumption) ?_ ?_ | with_reducible refine hG1 _ _ _ _ _ (by assumption) ?_ ?_ | with_reducible refine hG2 _ _ _ _ _ (by assumption) ?_ ?_ | with_reducible refine hG3 _ _ _ _ _ (by assumption) ?_ ?_ | with_reducible refine hG4 _ _ _ _ _ (by assumption) ?_ ?_ | with_reducible refine hG5 _ _ _ _ _ _ _ _ _ _ _ (by assumption) ?_ ?_ ?_ ?_ ?_ | with_reducible refine hG6 _ _ _ _ _ (by assumption) ?_ ?_ | with_reducible refine cz_ltv ?_ (fun _ => ?_) | (show _ = _; simp only [zr_1, zr_2, zr_A (k := 135) (by decide)]) | rfl)
theorem zc_fb_M_clear_0 {v1 v1' : Int32} {G' G : (MS → Int32 → Int32 → Option (MS × Unit)) × (MS → Int32 → Int32 → Option (MS × Unit)) × (MS → Int32 → Int32 → Option (MS × Unit)) × (MS → Int32 → Int32 → Option (MS × Unit)) × (MS → Int32 → Int32 → Option (MS × Unit)) × (MS → Int32 → Int32 → Int32 → Int32 → Int32 → Option (MS × Unit)) × (MS → Int32 → Int32 → Option (MS × Unit))} (h : ZIc p W x u) (e_v1 : v1' = v1) (hG0 : ∀ (s : MS) (a0 b0 : Int32) (a1 b1 : Int32), ZIc p W x s → b0 = a0 → b1 = a1 → CZ p W x (G'.1 (Zp p W x s) b0 b1) (G.1 s a0 a1)) (hG1 : ∀ (s : MS) (a0 b0 : Int32) (a1 b1 : Int32), ZIc p W x s → b0 = a0 → b1 = a1 → CZ p W x (G'.2.1 (Zp p W x s) b0 b1) (G.2.1 s a0 a1)) (hG2 : ∀ (s : MS) (a0 b0 : Int32) (a1 b1 : Int32), ZIc p W x s → b0 = a0 → b1 = a1 → CZ p W x (G'.2.2.1 (Zp p W x s) b0 b1) (G.2.2.1 s a0 a1)) (hG3 : ∀ (s : MS) (a0 b0 : Int32) (a1 b1 : Int32), ZIc p W x s → b0 = a0 → b1 = a1 → CZ p W x (G'.2.2.2.1 (Zp p W x s) b0 b1) (G.2.2.2.1 s a0 a1)) (hG4 : ∀ (s : MS) (a0 b0 : Int32) (a1 b1 : Int32), ZIc p W x s → b0 = a0 → b1 = a1 → CZ p W x (G'.2.2.2.2.1 (Zp p W x s) b0 b1) (G.2.2.2.2.1 s a0 a1)) (hG5 : ∀ (s : MS) (a0 b0 : Int32) (a1 b1 : Int32) (a2 b2 : Int32) (a3 b3 : Int32) (a4 b4 : Int32), ZIc p W x s → b0 = a0 → b1 = a1 → b2 = a2 → b3 = a3 → b4 = a4 → CZ p W x (G'.2.2.2.2.2.1 (Zp p W x s) b0 b1 b2 b3 b4) (G.2.2.2.2.2.1 s a0 a1 a2 a3 a4)) (hG6 : ∀ (s : MS) (a0 b0 : Int32) (a1 b1 : Int32), ZIc p W x s → b0 = a0 → b1 = a1 → CZ p W x (G'.2.2.2.2.2.2 (Zp p W x s) b0 b1) (G.2.2.2.2.2.2 s a0 a1)) : CZ p W x (fb_M_clear_0 N G' (Zp p W x u) v1') (fb_M_clear_0 N G u v1) := by
  subst e_v1
  unfold fb_M_clear_0
  repeat' (first | with_reducible rfl | with_reducible assumption | with_reducible refine cz_br ?_ ?_ ?_ | with_reducible refine cz_bnd ?_ (fun _ _ _ => ?_) | with_reducible refine cz_ck ?_ ?_ | with_reducible refine cz_some ?_ (by assumption) | with_reducible refine cz_A (by first | decide | exact And.right (by assumption)) ?_ (by assumption) (fun _ => ?_) | with_reducible refine cz_J (by first | decide | exact And.left (by assumption)) ?_ (by assumption) (fun _ => ?_) | with_reducible refine cz_I ?_ (by assumption) (fun _ => ?_) | with_reducible refine cz_L ?_ (by assumption) (fun _ => ?_) | with_reducible refine hG0 _ _ _ _ _ (by assumption) ?_ ?_ | with_reducible refine hG1 _ _ _ _ _ (by assumption) ?_ ?_ | with_reducible refine hG2 _ _ _ _ _ (by assumption) ?_ ?_ | with_reducible refine hG3 _ _ _ _ _ (by assumption) ?_ ?_ | with_reducible refine hG4 _ _ _ _ _ (by assumption) ?_ ?_ | with_reducible refine hG5 _ _ _ _ _ _ _ _ _ _ _ (by assumption) ?_ ?_ ?_ ?_ ?_ | with_reducible refine hG6 _ _ _ _ _ (by assumption) ?_ ?_ | with_reducible refine cz_ltv ?_ (fun _ => ?_) | (show _ = _; simp only [zr_1, zr_2, zr_A (k := 90) (by decide)]) | rfl)
theorem zc_gg_M_clear : ∀ (n n' : Nat), n ≤ n' → (∀ (s : MS) (a0 b0 : Int32) (a1 b1 : Int32), ZIc p W x s → b0 = a0 → b1 = a1 → CZ p W x ((gg_M_clear N n).1 (Zp p W x s) b0 b1) ((gg_M_clear N n').1 s a0 a1)) ∧ (∀ (s : MS) (a0 b0 : Int32) (a1 b1 : Int32), ZIc p W x s → b0 = a0 → b1 = a1 → CZ p W x ((gg_M_clear N n).2.1 (Zp p W x s) b0 b1) ((gg_M_clear N n').2.1 s a0 a1)) ∧ (∀ (s : MS) (a0 b0 : Int32) (a1 b1 : Int32), ZIc p W x s → b0 = a0 → b1 = a1 → CZ p W x ((gg_M_clear N n).2.2.1 (Zp p W x s) b0 b1) ((gg_M_clear N n').2.2.1 s a0 a1)) ∧ (∀ (s : MS) (a0 b0 : Int32) (a1 b1 : Int32), ZIc p W x s → b0 = a0 → b1 = a1 → CZ p W x ((gg_M_clear N n).2.2.2.1 (Zp p W x s) b0 b1) ((gg_M_clear N n').2.2.2.1 s a0 a1)) ∧ (∀ (s : MS) (a0 b0 : Int32) (a1 b1 : Int32), ZIc p W x s → b0 = a0 → b1 = a1 → CZ p W x ((gg_M_clear N n).2.2.2.2.1 (Zp p W x s) b0 b1) ((gg_M_clear N n').2.2.2.2.1 s a0 a1)) ∧ (∀ (s : MS) (a0 b0 : Int32) (a1 b1 : Int32) (a2 b2 : Int32) (a3 b3 : Int32) (a4 b4 : Int32), ZIc p W x s → b0 = a0 → b1 = a1 → b2 = a2 → b3 = a3 → b4 = a4 → CZ p W x ((gg_M_clear N n).2.2.2.2.2.1 (Zp p W x s) b0 b1 b2 b3 b4) ((gg_M_clear N n').2.2.2.2.2.1 s a0 a1 a2 a3 a4)) ∧ (∀ (s : MS) (a0 b0 : Int32) (a1 b1 : Int32), ZIc p W x s → b0 = a0 → b1 = a1 → CZ p W x ((gg_M_clear N n).2.2.2.2.2.2 (Zp p W x s) b0 b1) ((gg_M_clear N n').2.2.2.2.2.2 s a0 a1)) := by
  intro n
  induction n with
  | zero => intro n' _; exact ⟨fun _ _ _ _ _ _ _ _ => cz_none, fun _ _ _ _ _ _ _ _ => cz_none, fun _ _ _ _ _ _ _ _ => cz_none, fun _ _ _ _ _ _ _ _ => cz_none, fun _ _ _ _ _ _ _ _ => cz_none, fun _ _ _ _ _ _ _ _ _ _ _ _ _ _ _ _ _ => cz_none, fun _ _ _ _ _ _ _ _ => cz_none⟩
  | succ n ih =>
    intro n' hn
    cases n' with
    | zero => omega
    | succ n' =>
    have ih' := ih n' (by omega)
    exact ⟨fun _ _ _ _ _ h e0 e1 => zc_fb_M_clear_22 (N := N) h e0 e1 ih'.1 ih'.2.1 ih'.2.2.1 ih'.2.2.2.1 ih'.2.2.2.2.1 ih'.2.2.2.2.2.1 ih'.2.2.2.2.2.2, fun _ _ _ _ _ h e0 e1 => zc_fb_M_clear_44 (N := N) h e0 e1 ih'.1 ih'.2.1 ih'.2.2.1 ih'.2.2.2.1 ih'.2.2.2.2.1 ih'.2.2.2.2.2.1 ih'.2.2.2.2.2.2, fun _ _ _ _ _ h e0 e1 => zc_fb_M_clear_91 (N := N) h e0 e1 ih'.1 ih'.2.1 ih'.2.2.1 ih'.2.2.2.1 ih'.2.2.2.2.1 ih'.2.2.2.2.2.1 ih'.2.2.2.2.2.2, fun _ _ _ _ _ h e0 e1 => zc_fb_M_clear_138 (N := N) h e0 e1 ih'.1 ih'.2.1 ih'.2.2.1 ih'.2.2.2.1 ih'.2.2.2.2.1 ih'.2.2.2.2.2.1 ih'.2.2.2.2.2.2, fun _ _ _ _ _ h e0 e1 => zc_fb_M_clear_204 (N := N) h e0 e1 ih'.1 ih'.2.1 ih'.2.2.1 ih'.2.2.2.1 ih'.2.2.2.2.1 ih'.2.2.2.2.2.1 ih'.2.2.2.2.2.2, fun _ _ _ _ _ _ _ _ _ _ _ h e0 e1 e2 e3 e4 => zc_fb_M_clear_281 (N := N) h e0 e1 e2 e3 e4 ih'.1 ih'.2.1 ih'.2.2.1 ih'.2.2.2.1 ih'.2.2.2.2.1 ih'.2.2.2.2.2.1 ih'.2.2.2.2.2.2, fun _ _ _ _ _ h e0 e1 => zc_fb_M_clear_337 (N := N) h e0 e1 ih'.1 ih'.2.1 ih'.2.2.1 ih'.2.2.2.1 ih'.2.2.2.2.1 ih'.2.2.2.2.2.1 ih'.2.2.2.2.2.2⟩
theorem zc_fm_M_clear {v1 v1' : Int32} (h : ZIc p W x u) (e_v1 : v1' = v1) : CZ p W x (fm_M_clear N (Zp p W x u) v1') (fm_M_clear N u v1) := by
  subst e_v1
  unfold fm_M_clear
  exact zc_fb_M_clear_0 h rfl ((zc_gg_M_clear N N (Nat.le_refl _)).1) ((zc_gg_M_clear N N (Nat.le_refl _)).2.1) ((zc_gg_M_clear N N (Nat.le_refl _)).2.2.1) ((zc_gg_M_clear N N (Nat.le_refl _)).2.2.2.1) ((zc_gg_M_clear N N (Nat.le_refl _)).2.2.2.2.1) ((zc_gg_M_clear N N (Nat.le_refl _)).2.2.2.2.2.1) ((zc_gg_M_clear N N (Nat.le_refl _)).2.2.2.2.2.2)
theorem zc_fb_M_hand_0 {v1 v1' : Int32} {v2 v2' : Int64} {G' G : Unit} (h : ZIc p W x u) (e_v1 : v1' = v1) (e_v2 : v2' = v2)  : CZ p W x (fb_M_hand_0 N G' (Zp p W x u) v1' v2') (fb_M_hand_0 N G u v1 v2) := by
  subst e_v1
  subst e_v2
  unfold fb_M_hand_0
  repeat' (first | with_reducible rfl | with_reducible assumption | with_reducible refine cz_br ?_ ?_ ?_ | with_reducible refine cz_bnd ?_ (fun _ _ _ => ?_) | with_reducible refine cz_ck ?_ ?_ | with_reducible refine cz_some ?_ (by assumption) | with_reducible refine cz_A (by first | decide | exact And.right (by assumption)) ?_ (by assumption) (fun _ => ?_) | with_reducible refine cz_J (by first | decide | exact And.left (by assumption)) ?_ (by assumption) (fun _ => ?_) | with_reducible refine cz_I ?_ (by assumption) (fun _ => ?_) | with_reducible refine cz_L ?_ (by assumption) (fun _ => ?_) | with_reducible refine cz_ltv ?_ (fun _ => ?_) | (show _ = _; simp only [zr_1, zr_2]) | rfl)
theorem zc_fm_M_hand {v1 v1' : Int32} {v2 v2' : Int64} (h : ZIc p W x u) (e_v1 : v1' = v1) (e_v2 : v2' = v2) : CZ p W x (fm_M_hand N (Zp p W x u) v1' v2') (fm_M_hand N u v1 v2) := by
  subst e_v1
  subst e_v2
  unfold fm_M_hand
  exact zc_fb_M_hand_0 h rfl rfl
theorem zc_fb_M_handNone_0 {G' G : Unit} (h : ZIc p W x u)  : CZ p W x (fb_M_handNone_0 N G' (Zp p W x u)) (fb_M_handNone_0 N G u) := by
  unfold fb_M_handNone_0
  repeat' (first | with_reducible rfl | with_reducible assumption | with_reducible refine cz_br ?_ ?_ ?_ | with_reducible refine cz_bnd ?_ (fun _ _ _ => ?_) | with_reducible refine cz_ck ?_ ?_ | with_reducible refine cz_some ?_ (by assumption) | with_reducible refine cz_A (by first | decide | exact And.right (by assumption)) ?_ (by assumption) (fun _ => ?_) | with_reducible refine cz_J (by first | decide | exact And.left (by assumption)) ?_ (by assumption) (fun _ => ?_) | with_reducible refine cz_I ?_ (by assumption) (fun _ => ?_) | with_reducible refine cz_L ?_ (by assumption) (fun _ => ?_) | with_reducible refine zc_fm_M_term (by assumption) ?_ ?_ | with_reducible refine cz_ltv ?_ (fun _ => ?_) | (show _ = _; simp only [zr_1, zr_2]) | rfl)
theorem zc_fm_M_handNone (h : ZIc p W x u) : CZ p W x (fm_M_handNone N (Zp p W x u)) (fm_M_handNone N u) := by
  unfold fm_M_handNone
  exact zc_fb_M_handNone_0 h
theorem zc_fb_M_wants_38 {t0 t0' : Int32} {G' G : Unit} (h : ZIc p W x u) (e_t0 : t0' = t0)  : CZ p W x (fb_M_wants_38 N G' (Zp p W x u) t0') (fb_M_wants_38 N G u t0) := by
  subst e_t0
  unfold fb_M_wants_38
  repeat' (first | with_reducible rfl | with_reducible assumption | with_reducible refine cz_br ?_ ?_ ?_ | with_reducible refine cz_bnd ?_ (fun _ _ _ => ?_) | with_reducible refine cz_ck ?_ ?_ | with_reducible refine cz_some ?_ (by assumption) | with_reducible refine cz_A (by first | decide | exact And.right (by assumption)) ?_ (by assumption) (fun _ => ?_) | with_reducible refine cz_J (by first | decide | exact And.left (by assumption)) ?_ (by assumption) (fun _ => ?_) | with_reducible refine cz_I ?_ (by assumption) (fun _ => ?_) | with_reducible refine cz_L ?_ (by assumption) (fun _ => ?_) | with_reducible refine cz_ltv ?_ (fun _ => ?_) | (show _ = _; simp only [zr_1, zr_2]) | rfl)
theorem zc_fb_M_wants_19 {v1 v1' : Int32} {v2 v2' : Int32} {G' G : Unit} (h : ZIc p W x u) (e_v1 : v1' = v1) (e_v2 : v2' = v2)  : CZ p W x (fb_M_wants_19 N G' (Zp p W x u) v1' v2') (fb_M_wants_19 N G u v1 v2) := by
  subst e_v1
  subst e_v2
  unfold fb_M_wants_19
  repeat' (first | with_reducible rfl | with_reducible assumption | with_reducible refine cz_br ?_ ?_ ?_ | with_reducible refine cz_bnd ?_ (fun _ _ _ => ?_) | with_reducible refine cz_ck ?_ ?_ | with_reducible refine cz_some ?_ (by assumption) | with_reducible refine cz_A (by first | decide | exact And.right (by assumption)) ?_ (by assumption) (fun _ => ?_) | with_reducible refine cz_J (by first | decide | exact And.left (by assumption)) ?_ (by assumption) (fun _ => ?_) | with_reducible refine cz_I ?_ (by assumption) (fun _ => ?_) | with_reducible refine cz_L ?_ (by assumption) (fun _ => ?_) | with_reducible refine zc_fb_M_wants_38 (by assumption) ?_ | with_reducible refine cz_ltv ?_ (fun _ => ?_) | (show _ = _; simp only [zr_1, zr_2, zr_A (k := 89) (by decide)]) | rfl)
theorem zc_fb_M_wants_0 {v1 v1' : Int32} {v2 v2' : Int32} {G' G : Unit} (h : ZIc p W x u) (e_v1 : v1' = v1) (e_v2 : v2' = v2)  : CZ p W x (fb_M_wants_0 N G' (Zp p W x u) v1' v2') (fb_M_wants_0 N G u v1 v2) := by
  subst e_v1
  subst e_v2
  unfold fb_M_wants_0
  repeat' (first | with_reducible rfl | with_reducible assumption | with_reducible refine cz_br ?_ ?_ ?_ | with_reducible refine cz_bnd ?_ (fun _ _ _ => ?_) | with_reducible refine cz_ck ?_ ?_ | with_reducible refine cz_some ?_ (by assumption) | with_reducible refine cz_A (by first | decide | exact And.right (by assumption)) ?_ (by assumption) (fun _ => ?_) | with_reducible refine cz_J (by first | decide | exact And.left (by assumption)) ?_ (by assumption) (fun _ => ?_) | with_reducible refine cz_I ?_ (by assumption) (fun _ => ?_) | with_reducible refine cz_L ?_ (by assumption) (fun _ => ?_) | with_reducible refine zc_fb_M_wants_19 (by assumption) ?_ ?_ | with_reducible refine zc_fm_M_clear (by assumption) ?_ | with_reducible refine cz_ltv ?_ (fun _ => ?_) | (show _ = _; simp only [zr_1, zr_2, zr_A (k := 89) (by decide)]) | rfl)
theorem zc_fm_M_wants {v1 v1' : Int32} {v2 v2' : Int32} (h : ZIc p W x u) (e_v1 : v1' = v1) (e_v2 : v2' = v2) : CZ p W x (fm_M_wants N (Zp p W x u) v1' v2') (fm_M_wants N u v1 v2) := by
  subst e_v1
  subst e_v2
  unfold fm_M_wants
  exact zc_fb_M_wants_0 h rfl rfl
theorem zc_fb_M_copySize_132 {t0 t0' : Int32} {G' G : (MS → Int32 → Int32 → Int32 → Option (MS × Int32)) × (MS → Int32 → Int32 → Int32 → Int64 → Int32 → Int32 → Option (MS × Int32))} (h : ZIc p W x u) (e_t0 : t0' = t0) (hG0 : ∀ (s : MS) (a0 b0 : Int32) (a1 b1 : Int32) (a2 b2 : Int32), ZIc p W x s → b0 = a0 → b1 = a1 → b2 = a2 → CZ p W x (G'.1 (Zp p W x s) b0 b1 b2) (G.1 s a0 a1 a2)) (hG1 : ∀ (s : MS) (a0 b0 : Int32) (a1 b1 : Int32) (a2 b2 : Int32) (a3 b3 : Int64) (a4 b4 : Int32) (a5 b5 : Int32), ZIc p W x s → b0 = a0 → b1 = a1 → b2 = a2 → b3 = a3 → b4 = a4 → b5 = a5 → CZ p W x (G'.2 (Zp p W x s) b0 b1 b2 b3 b4 b5) (G.2 s a0 a1 a2 a3 a4 a5)) : CZ p W x (fb_M_copySize_132 N G' (Zp p W x u) t0') (fb_M_copySize_132 N G u t0) := by
  subst e_t0
  unfold fb_M_copySize_132
  repeat' (first | with_reducible rfl | with_reducible assumption | with_reducible refine cz_br ?_ ?_ ?_ | with_reducible refine cz_bnd ?_ (fun _ _ _ => ?_) | with_reducible refine cz_ck ?_ ?_ | with_reducible refine cz_some ?_ (by assumption) | with_reducible refine cz_A (by first | decide | exact And.right (by assumption)) ?_ (by assumption) (fun _ => ?_) | with_reducible refine cz_J (by first | decide | exact And.left (by assumption)) ?_ (by assumption) (fun _ => ?_) | with_reducible refine cz_I ?_ (by assumption) (fun _ => ?_) | with_reducible refine cz_L ?_ (by assumption) (fun _ => ?_) | with_reducible refine hG0 _ _ _ _ _ _ _ (by assumption) ?_ ?_ ?_ | with_reducible refine hG1 _ _ _ _ _ _ _ _ _ _ _ _ _ (by assumption) ?_ ?_ ?_ ?_ ?_ ?_ | with_reducible refine cz_ltv ?_ (fun _ => ?_) | (show _ = _; simp only [zr_1, zr_2]) | rfl)
theorem zc_fb_M_copySize_116 {v4 v4' : Int32} {G' G : (MS → Int32 → Int32 → Int32 → Option (MS × Int32)) × (MS → Int32 → Int32 → Int32 → Int64 → Int32 → Int32 → Option (MS × Int32))} (h : ZIc p W x u) (e_v4 : v4' = v4) (hG0 : ∀ (s : MS) (a0 b0 : Int32) (a1 b1 : Int32) (a2 b2 : Int32), ZIc p W x s → b0 = a0 → b1 = a1 → b2 = a2 → CZ p W x (G'.1 (Zp p W x s) b0 b1 b2) (G.1 s a0 a1 a2)) (hG1 : ∀ (s : MS) (a0 b0 : Int32) (a1 b1 : Int32) (a2 b2 : Int32) (a3 b3 : Int64) (a4 b4 : Int32) (a5 b5 : Int32), ZIc p W x s → b0 = a0 → b1 = a1 → b2 = a2 → b3 = a3 → b4 = a4 → b5 = a5 → CZ p W x (G'.2 (Zp p W x s) b0 b1 b2 b3 b4 b5) (G.2 s a0 a1 a2 a3 a4 a5)) : CZ p W x (fb_M_copySize_116 N G' (Zp p W x u) v4') (fb_M_copySize_116 N G u v4) := by
  subst e_v4
  unfold fb_M_copySize_116
  repeat' (first | with_reducible rfl | with_reducible assumption | with_reducible refine cz_br ?_ ?_ ?_ | with_reducible refine cz_bnd ?_ (fun _ _ _ => ?_) | with_reducible refine cz_ck ?_ ?_ | with_reducible refine cz_some ?_ (by assumption) | with_reducible refine cz_A (by first | decide | exact And.right (by assumption)) ?_ (by assumption) (fun _ => ?_) | with_reducible refine cz_J (by first | decide | exact And.left (by assumption)) ?_ (by assumption) (fun _ => ?_) | with_reducible refine cz_I ?_ (by assumption) (fun _ => ?_) | with_reducible refine cz_L ?_ (by assumption) (fun _ => ?_) | with_reducible refine zc_fb_M_copySize_132 (by assumption) ?_ hG0 hG1 | with_reducible refine hG0 _ _ _ _ _ _ _ (by assumption) ?_ ?_ ?_ | with_reducible refine hG1 _ _ _ _ _ _ _ _ _ _ _ _ _ (by assumption) ?_ ?_ ?_ ?_ ?_ ?_ | with_reducible refine cz_ltv ?_ (fun _ => ?_) | (show _ = _; simp only [zr_1, zr_2]) | rfl)
theorem zc_fb_M_copySize_113 {v1 v1' : Int32} {v4 v4' : Int32} {v5 v5' : Int32} {G' G : (MS → Int32 → Int32 → Int32 → Option (MS × Int32)) × (MS → Int32 → Int32 → Int32 → Int64 → Int32 → Int32 → Option (MS × Int32))} (h : ZIc p W x u) (e_v1 : v1' = v1) (e_v4 : v4' = v4) (e_v5 : v5' = v5) (hG0 : ∀ (s : MS) (a0 b0 : Int32) (a1 b1 : Int32) (a2 b2 : Int32), ZIc p W x s → b0 = a0 → b1 = a1 → b2 = a2 → CZ p W x (G'.1 (Zp p W x s) b0 b1 b2) (G.1 s a0 a1 a2)) (hG1 : ∀ (s : MS) (a0 b0 : Int32) (a1 b1 : Int32) (a2 b2 : Int32) (a3 b3 : Int64) (a4 b4 : Int32) (a5 b5 : Int32), ZIc p W x s → b0 = a0 → b1 = a1 → b2 = a2 → b3 = a3 → b4 = a4 → b5 = a5 → CZ p W x (G'.2 (Zp p W x s) b0 b1 b2 b3 b4 b5) (G.2 s a0 a1 a2 a3 a4 a5)) : CZ p W x (fb_M_copySize_113 N G' (Zp p W x u) v1' v4' v5') (fb_M_copySize_113 N G u v1 v4 v5) := by
  subst e_v1
  subst e_v4
  subst e_v5
  unfold fb_M_copySize_113
  repeat' (first | with_reducible rfl | with_reducible assumption | with_reducible refine cz_br ?_ ?_ ?_ | with_reducible refine cz_bnd ?_ (fun _ _ _ => ?_) | with_reducible refine cz_ck ?_ ?_ | with_reducible refine cz_some ?_ (by assumption) | with_reducible refine cz_A (by first | decide | exact And.right (by assumption)) ?_ (by assumption) (fun _ => ?_) | with_reducible refine cz_J (by first | decide | exact And.left (by assumption)) ?_ (by assumption) (fun _ => ?_) | with_reducible refine cz_I ?_ (by assumption) (fun _ => ?_) | with_reducible refine cz_L ?_ (by assumption) (fun _ => ?_) | with_reducible refine hG0 _ _ _ _ _ _ _ (by assumption) ?_ ?_ ?_ | with_reducible refine hG1 _ _ _ _ _ _ _ _ _ _ _ _ _ (by assumption) ?_ ?_ ?_ ?_ ?_ ?_ | with_reducible refine cz_ltv ?_ (fun _ => ?_) | (show _ = _; simp only [zr_1, zr_2]) | rfl)
theorem zc_fb_M_copySize_69 {v1 v1' : Int32} {v4 v4' : Int32} {v5 v5' : Int32} {v6 v6' : Int64} {v8 v8' : Int32} {v9 v9' : Int32} {G' G : (MS → Int32 → Int32 → Int32 → Option (MS × Int32)) × (MS → Int32 → Int32 → Int32 → Int64 → Int32 → Int32 → Option (MS × Int32))} (h : ZIc p W x u) (e_v1 : v1' = v1) (e_v4 : v4' = v4) (e_v5 : v5' = v5) (e_v6 : v6' = v6) (e_v8 : v8' = v8) (e_v9 : v9' = v9) (hG0 : ∀ (s : MS) (a0 b0 : Int32) (a1 b1 : Int32) (a2 b2 : Int32), ZIc p W x s → b0 = a0 → b1 = a1 → b2 = a2 → CZ p W x (G'.1 (Zp p W x s) b0 b1 b2) (G.1 s a0 a1 a2)) (hG1 : ∀ (s : MS) (a0 b0 : Int32) (a1 b1 : Int32) (a2 b2 : Int32) (a3 b3 : Int64) (a4 b4 : Int32) (a5 b5 : Int32), ZIc p W x s → b0 = a0 → b1 = a1 → b2 = a2 → b3 = a3 → b4 = a4 → b5 = a5 → CZ p W x (G'.2 (Zp p W x s) b0 b1 b2 b3 b4 b5) (G.2 s a0 a1 a2 a3 a4 a5)) : CZ p W x (fb_M_copySize_69 N G' (Zp p W x u) v1' v4' v5' v6' v8' v9') (fb_M_copySize_69 N G u v1 v4 v5 v6 v8 v9) := by
  subst e_v1
  subst e_v4
  subst e_v5
  subst e_v6
  subst e_v8
  subst e_v9
  unfold fb_M_copySize_69
  repeat' (first | with_reducible rfl | with_reducible assumption | with_reducible refine cz_br ?_ ?_ ?_ | with_reducible refine cz_bnd ?_ (fun _ _ _ => ?_) | with_reducible refine cz_ck ?_ ?_ | with_reducible refine cz_some ?_ (by assumption) | with_reducible refine cz_A (by first | decide | exact And.right (by assumption)) ?_ (by assumption) (fun _ => ?_) | with_reducible refine cz_J (by first | decide | exact And.left (by assumption)) ?_ (by assumption) (fun _ => ?_) | with_reducible refine cz_I ?_ (by assumption) (fun _ => ?_) | with_reducible refine cz_L ?_ (by assumption) (fun _ => ?_) | with_reducible refine zc_fb_M_copySize_113 (by assumption) ?_ ?_ ?_ hG0 hG1 | with_reducible refine zc_fm_M_cell (by assumption) ?_ ?_ | with_reducible refine zc_fm_M_valueOf (by assumption) ?_ | with_reducible refine hG0 _ _ _ _ _ _ _ (by assumption) ?_ ?_ ?_ | with_reducible refine hG1 _ _ _ _ _ _ _ _ _ _ _ _ _ (by assumption) ?_ ?_ ?_ ?_ ?_ ?_ | with_reducible refine cz_ltv ?_ (fun _ => ?_) | (show _ = _; simp only [zr_1, zr_2, zr_J (k := 141) (by decide)]) | rfl)
theorem zc_fb_M_copySize_13 {v1 v1' : Int32} {v4 v4' : Int32} {v5 v5' : Int32} {G' G : (MS → Int32 → Int32 → Int32 → Option (MS × Int32)) × (MS → Int32 → Int32 → Int32 → Int64 → Int32 → Int32 → Option (MS × Int32))} (h : ZIc p W x u) (e_v1 : v1' = v1) (e_v4 : v4' = v4) (e_v5 : v5' = v5) (hG0 : ∀ (s : MS) (a0 b0 : Int32) (a1 b1 : Int32) (a2 b2 : Int32), ZIc p W x s → b0 = a0 → b1 = a1 → b2 = a2 → CZ p W x (G'.1 (Zp p W x s) b0 b1 b2) (G.1 s a0 a1 a2)) (hG1 : ∀ (s : MS) (a0 b0 : Int32) (a1 b1 : Int32) (a2 b2 : Int32) (a3 b3 : Int64) (a4 b4 : Int32) (a5 b5 : Int32), ZIc p W x s → b0 = a0 → b1 = a1 → b2 = a2 → b3 = a3 → b4 = a4 → b5 = a5 → CZ p W x (G'.2 (Zp p W x s) b0 b1 b2 b3 b4 b5) (G.2 s a0 a1 a2 a3 a4 a5)) : CZ p W x (fb_M_copySize_13 N G' (Zp p W x u) v1' v4' v5') (fb_M_copySize_13 N G u v1 v4 v5) := by
  subst e_v1
  subst e_v4
  subst e_v5
  unfold fb_M_copySize_13
  repeat' (first | with_reducible rfl | with_reducible assumption | with_reducible refine cz_br ?_ ?_ ?_ | with_reducible refine cz_bnd ?_ (fun _ _ _ => ?_) | with_reducible refine cz_ck ?_ ?_ | with_reducible refine cz_some ?_ (by assumption) | with_reducible refine cz_A (by first | decide | exact And.right (by assumption)) ?_ (by assumption) (fun _ => ?_) | with_reducible refine cz_J (by first | decide | exact And.left (by assumption)) ?_ (by assumption) (fun _ => ?_) | with_reducible refine cz_I ?_ (by assumption) (fun _ => ?_) | with_reducible refine cz_L ?_ (by assumption) (fun _ => ?_) | with_reducible refine zc_fb_M_copySize_113 (by assumption) ?_ ?_ ?_ hG0 hG1 | with_reducible refine zc_fb_M_copySize_116 (by assumption) ?_ hG0 hG1 | with_reducible refine zc_fm_M_partsFrom (by assumption) ?_ | with_reducible refine zc_fm_M_sizeOf (by assumption) ?_ ?_ | with_reducible refine zc_fm_M_inHeap (by assumption) ?_ | with_reducible refine hG0 _ _ _ _ _ _ _ (by assumption) ?_ ?_ ?_ | with_reducible refine hG1 _ _ _ _ _ _ _ _ _ _ _ _ _ (by assumption) ?_ ?_ ?_ ?_ ?_ ?_ | with_reducible refine cz_ltv ?_ (fun _ => ?_) | (show _ = _; simp only [zr_1, zr_2, zr_J (k := 141) (by decide)]) | rfl)
theorem zc_fb_M_copySize_0 {v1 v1' : Int32} {v2 v2' : Int64} {G' G : (MS → Int32 → Int32 → Int32 → Option (MS × Int32)) × (MS → Int32 → Int32 → Int32 → Int64 → Int32 → Int32 → Option (MS × Int32))} (h : ZIc p W x u) (e_v1 : v1' = v1) (e_v2 : v2' = v2) (hG0 : ∀ (s : MS) (a0 b0 : Int32) (a1 b1 : Int32) (a2 b2 : Int32), ZIc p W x s → b0 = a0 → b1 = a1 → b2 = a2 → CZ p W x (G'.1 (Zp p W x s) b0 b1 b2) (G.1 s a0 a1 a2)) (hG1 : ∀ (s : MS) (a0 b0 : Int32) (a1 b1 : Int32) (a2 b2 : Int32) (a3 b3 : Int64) (a4 b4 : Int32) (a5 b5 : Int32), ZIc p W x s → b0 = a0 → b1 = a1 → b2 = a2 → b3 = a3 → b4 = a4 → b5 = a5 → CZ p W x (G'.2 (Zp p W x s) b0 b1 b2 b3 b4 b5) (G.2 s a0 a1 a2 a3 a4 a5)) : CZ p W x (fb_M_copySize_0 N G' (Zp p W x u) v1' v2') (fb_M_copySize_0 N G u v1 v2) := by
  subst e_v1
  subst e_v2
  unfold fb_M_copySize_0
  repeat' (first | with_reducible rfl | with_reducible assumption | with_reducible refine cz_br ?_ ?_ ?_ | with_reducible refine cz_bnd ?_ (fun _ _ _ => ?_) | with_reducible refine cz_ck ?_ ?_ | with_reducible refine cz_some ?_ (by assumption) | with_reducible refine cz_A (by first | decide | exact And.right (by assumption)) ?_ (by assumption) (fun _ => ?_) | with_reducible refine cz_J (by first | decide | exact And.left (by assumption)) ?_ (by assumption) (fun _ => ?_) | with_reducible refine cz_I ?_ (by assumption) (fun _ => ?_) | with_reducible refine cz_L ?_ (by assumption) (fun _ => ?_) | with_reducible refine hG0 _ _ _ _ _ _ _ (by assumption) ?_ ?_ ?_ | with_reducible refine hG1 _ _ _ _ _ _ _ _ _ _ _ _ _ (by assumption) ?_ ?_ ?_ ?_ ?_ ?_ | with_reducible refine cz_ltv ?_ (fun _ => ?_) | (show _ = _; simp only [zr_1, zr_2, zr_J (k := 141) (by decide)]) | rfl)
theorem zc_gg_M_copySize : ∀ (n n' : Nat), n ≤ n' → (∀ (s : MS) (a0 b0 : Int32) (a1 b1 : Int32) (a2 b2 : Int32), ZIc p W x s → b0 = a0 → b1 = a1 → b2 = a2 → CZ p W x ((gg_M_copySize N n).1 (Zp p W x s) b0 b1 b2) ((gg_M_copySize N n').1 s a0 a1 a2)) ∧ (∀ (s : MS) (a0 b0 : Int32) (a1 b1 : Int32) (a2 b2 : Int32) (a3 b3 : Int64) (a4 b4 : Int32) (a5 b5 : Int32), ZIc p W x s → b0 = a0 → b1 = a1 → b2 = a2 → b3 = a3 → b4 = a4 → b5 = a5 → CZ p W x ((gg_M_copySize N n).2 (Zp p W x s) b0 b1 b2 b3 b4 b5) ((gg_M_copySize N n').2 s a0 a1 a2 a3 a4 a5)) := by
  intro n
  induction n with
  | zero => intro n' _; exact ⟨fun _ _ _ _ _ _ _ _ _ _ _ => cz_none, fun _ _ _ _ _ _ _ _ _ _ _ _ _ _ _ _ _ _ _ _ => cz_none⟩
  | succ n ih =>
    intro n' hn
    cases n' with
    | zero => omega
    | succ n' =>
    have ih' := ih n' (by omega)
    exact ⟨fun _ _ _ _ _ _ _ h e0 e1 e2 => zc_fb_M_copySize_13 (N := N) h e0 e1 e2 ih'.1 ih'.2, fun _ _ _ _ _ _ _ _ _ _ _ _ _ h e0 e1 e2 e3 e4 e5 => zc_fb_M_copySize_69 (N := N) h e0 e1 e2 e3 e4 e5 ih'.1 ih'.2⟩
theorem zc_fm_M_copySize {v1 v1' : Int32} {v2 v2' : Int64} (h : ZIc p W x u) (e_v1 : v1' = v1) (e_v2 : v2' = v2) : CZ p W x (fm_M_copySize N (Zp p W x u) v1' v2') (fm_M_copySize N u v1 v2) := by
  subst e_v1
  subst e_v2
  unfold fm_M_copySize
  exact zc_fb_M_copySize_0 h rfl rfl ((zc_gg_M_copySize N N (Nat.le_refl _)).1) ((zc_gg_M_copySize N N (Nat.le_refl _)).2)
theorem zc_fb_M_copy_214 {v1 v1' : Int32} {v4 v4' : Int32} {v5 v5' : Int64} {v7 v7' : Int32} {v8 v8' : Int64} {v11 v11' : Int32} {v12 v12' : Int32} {v13 v13' : Int32} {G' G : (MS → Int32 → Int32 → Int64 → Int32 → Option (MS × Int64)) × (MS → Int32 → Int32 → Int64 → Int32 → Int64 → Int32 → Int32 → Int32 → Option (MS × Int64))} (h : ZIc p W x u) (e_v1 : v1' = v1) (e_v4 : v4' = v4) (e_v5 : v5' = v5) (e_v7 : v7' = v7) (e_v8 : v8' = v8) (e_v11 : v11' = v11) (e_v12 : v12' = v12) (e_v13 : v13' = v13) (hG0 : ∀ (s : MS) (a0 b0 : Int32) (a1 b1 : Int32) (a2 b2 : Int64) (a3 b3 : Int32), ZIc p W x s → b0 = a0 → b1 = a1 → b2 = a2 → b3 = a3 → CZ p W x (G'.1 (Zp p W x s) b0 b1 b2 b3) (G.1 s a0 a1 a2 a3)) (hG1 : ∀ (s : MS) (a0 b0 : Int32) (a1 b1 : Int32) (a2 b2 : Int64) (a3 b3 : Int32) (a4 b4 : Int64) (a5 b5 : Int32) (a6 b6 : Int32) (a7 b7 : Int32), ZIc p W x s → b0 = a0 → b1 = a1 → b2 = a2 → b3 = a3 → b4 = a4 → b5 = a5 → b6 = a6 → b7 = a7 → CZ p W x (G'.2 (Zp p W x s) b0 b1 b2 b3 b4 b5 b6 b7) (G.2 s a0 a1 a2 a3 a4 a5 a6 a7)) : CZ p W x (fb_M_copy_214 N G' (Zp p W x u) v1' v4' v5' v7' v8' v11' v12' v13') (fb_M_copy_214 N G u v1 v4 v5 v7 v8 v11 v12 v13) := by
  subst e_v1
  subst e_v4
  subst e_v5
  subst e_v7
  subst e_v8
  subst e_v11
  subst e_v12
  subst e_v13
  unfold fb_M_copy_214
  repeat' (first | with_reducible rfl | with_reducible assumption | with_reducible refine cz_br ?_ ?_ ?_ | with_reducible refine cz_bnd ?_ (fun _ _ _ => ?_) | with_reducible refine cz_ck ?_ ?_ | with_reducible refine cz_some ?_ (by assumption) | with_reducible refine cz_A (by first | decide | exact And.right (by assumption)) ?_ (by assumption) (fun _ => ?_) | with_reducible refine cz_J (by first | decide | exact And.left (by assumption)) ?_ (by assumption) (fun _ => ?_) | with_reducible refine cz_I ?_ (by assumption) (fun _ => ?_) | with_reducible refine cz_L ?_ (by assumption) (fun _ => ?_) | with_reducible refine hG0 _ _ _ _ _ _ _ _ _ (by assumption) ?_ ?_ ?_ ?_ | with_reducible refine hG1 _ _ _ _ _ _ _ _ _ _ _ _ _ _ _ _ _ (by assumption) ?_ ?_ ?_ ?_ ?_ ?_ ?_ ?_ | with_reducible refine cz_ltv ?_ (fun _ => ?_) | (show _ = _; simp only [zr_1, zr_2]) | rfl)
theorem zc_fb_M_copy_131 {v1 v1' : Int32} {v4 v4' : Int32} {v5 v5' : Int64} {v7 v7' : Int32} {v8 v8' : Int64} {v11 v11' : Int32} {v12 v12' : Int32} {v13 v13' : Int32} {G' G : (MS → Int32 → Int32 → Int64 → Int32 → Option (MS × Int64)) × (MS → Int32 → Int32 → Int64 → Int32 → Int64 → Int32 → Int32 → Int32 → Option (MS × Int64))} (h : ZIc p W x u) (e_v1 : v1' = v1) (e_v4 : v4' = v4) (e_v5 : v5' = v5) (e_v7 : v7' = v7) (e_v8 : v8' = v8) (e_v11 : v11' = v11) (e_v12 : v12' = v12) (e_v13 : v13' = v13) (hG0 : ∀ (s : MS) (a0 b0 : Int32) (a1 b1 : Int32) (a2 b2 : Int64) (a3 b3 : Int32), ZIc p W x s → b0 = a0 → b1 = a1 → b2 = a2 → b3 = a3 → CZ p W x (G'.1 (Zp p W x s) b0 b1 b2 b3) (G.1 s a0 a1 a2 a3)) (hG1 : ∀ (s : MS) (a0 b0 : Int32) (a1 b1 : Int32) (a2 b2 : Int64) (a3 b3 : Int32) (a4 b4 : Int64) (a5 b5 : Int32) (a6 b6 : Int32) (a7 b7 : Int32), ZIc p W x s → b0 = a0 → b1 = a1 → b2 = a2 → b3 = a3 → b4 = a4 → b5 = a5 → b6 = a6 → b7 = a7 → CZ p W x (G'.2 (Zp p W x s) b0 b1 b2 b3 b4 b5 b6 b7) (G.2 s a0 a1 a2 a3 a4 a5 a6 a7)) : CZ p W x (fb_M_copy_131 N G' (Zp p W x u) v1' v4' v5' v7' v8' v11' v12' v13') (fb_M_copy_131 N G u v1 v4 v5 v7 v8 v11 v12 v13) := by
  subst e_v1
  subst e_v4
  subst e_v5
  subst e_v7
  subst e_v8
  subst e_v11
  subst e_v12
  subst e_v13
  unfold fb_M_copy_131
  repeat' (first | with_reducible rfl | with_reducible assumption | with_reducible refine cz_br ?_ ?_ ?_ | with_reducible refine cz_bnd ?_ (fun _ _ _ => ?_) | with_reducible refine cz_ck ?_ ?_ | with_reducible refine cz_some ?_ (by assumption) | with_reducible refine cz_A (by first | decide | exact And.right (by assumption)) ?_ (by assumption) (fun _ => ?_) | with_reducible refine cz_J (by first | decide | exact And.left (by assumption)) ?_ (by assumption) (fun _ => ?_) | with_reducible refine cz_I ?_ (by assumption) (fun _ => ?_) | with_reducible refine cz_L ?_ (by assumption) (fun _ => ?_) | with_reducible refine zc_fb_M_copy_214 (by assumption) ?_ ?_ ?_ ?_ ?_ ?_ ?_ ?_ hG0 hG1 | with_reducible refine zc_fm_M_partsFrom (by assumption) ?_ | with_reducible refine zc_fm_M_cell (by assumption) ?_ ?_ | with_reducible refine zc_fm_M_valueOf (by assumption) ?_ | with_reducible refine zc_fm_M_inHeap (by assumption) ?_ | with_reducible refine hG0 _ _ _ _ _ _ _ _ _ (by assumption) ?_ ?_ ?_ ?_ | with_reducible refine hG1 _ _ _ _ _ _ _ _ _ _ _ _ _ _ _ _ _ (by assumption) ?_ ?_ ?_ ?_ ?_ ?_ ?_ ?_ | with_reducible refine cz_ltv ?_ (fun _ => ?_) | (show _ = _; simp only [zr_1, zr_2, zr_A (k := 142) (by decide), zr_J (k := 88) (by decide), zr_J (k := 141) (by decide)]) | rfl)
theorem zc_fb_M_copy_128 {v1 v1' : Int32} {v4 v4' : Int32} {v5 v5' : Int64} {v7 v7' : Int32} {v8 v8' : Int64} {v11 v11' : Int32} {v12 v12' : Int32} {G' G : (MS → Int32 → Int32 → Int64 → Int32 → Option (MS × Int64)) × (MS → Int32 → Int32 → Int64 → Int32 → Int64 → Int32 → Int32 → Int32 → Option (MS × Int64))} (h : ZIc p W x u) (e_v1 : v1' = v1) (e_v4 : v4' = v4) (e_v5 : v5' = v5) (e_v7 : v7' = v7) (e_v8 : v8' = v8) (e_v11 : v11' = v11) (e_v12 : v12' = v12) (hG0 : ∀ (s : MS) (a0 b0 : Int32) (a1 b1 : Int32) (a2 b2 : Int64) (a3 b3 : Int32), ZIc p W x s → b0 = a0 → b1 = a1 → b2 = a2 → b3 = a3 → CZ p W x (G'.1 (Zp p W x s) b0 b1 b2 b3) (G.1 s a0 a1 a2 a3)) (hG1 : ∀ (s : MS) (a0 b0 : Int32) (a1 b1 : Int32) (a2 b2 : Int64) (a3 b3 : Int32) (a4 b4 : Int64) (a5 b5 : Int32) (a6 b6 : Int32) (a7 b7 : Int32), ZIc p W x s → b0 = a0 → b1 = a1 → b2 = a2 → b3 = a3 → b4 = a4 → b5 = a5 → b6 = a6 → b7 = a7 → CZ p W x (G'.2 (Zp p W x s) b0 b1 b2 b3 b4 b5 b6 b7) (G.2 s a0 a1 a2 a3 a4 a5 a6 a7)) : CZ p W x (fb_M_copy_128 N G' (Zp p W x u) v1' v4' v5' v7' v8' v11' v12') (fb_M_copy_128 N G u v1 v4 v5 v7 v8 v11 v12) := by
  subst e_v1
  subst e_v4
  subst e_v5
  subst e_v7
  subst e_v8
  subst e_v11
  subst e_v12
  unfold fb_M_copy_128
  repeat' (first | with_reducible rfl | with_reducible assumption | with_reducible refine cz_br ?_ ?_ ?_ | with_reducible refine cz_bnd ?_ (fun _ _ _ => ?_) | with_reducible refine cz_ck ?_ ?_ | with_reducible refine cz_some ?_ (by assumption) | with_reducible refine cz_A (by first | decide | exact And.right (by assumption)) ?_ (by assumption) (fun _ => ?_) | with_reducible refine cz_J (by first | decide | exact And.left (by assumption)) ?_ (by assumption) (fun _ => ?_) | with_reducible refine cz_I ?_ (by assumption) (fun _ => ?_) | with_reducible refine cz_L ?_ (by assumption) (fun _ => ?_) | with_reducible refine hG0 _ _ _ _ _ _ _ _ _ (by assumption) ?_ ?_ ?_ ?_ | with_reducible refine hG1 _ _ _ _ _ _ _ _ _ _ _ _ _ _ _ _ _ (by assumption) ?_ ?_ ?_ ?_ ?_ ?_ ?_ ?_ | with_reducible refine cz_ltv ?_ (fun _ => ?_) | (show _ = _; simp only [zr_1, zr_2]) | rfl)
theorem zc_fb_M_copy_42 {v1 v1' : Int32} {v4 v4' : Int32} {v5 v5' : Int64} {v7 v7' : Int32} {G' G : (MS → Int32 → Int32 → Int64 → Int32 → Option (MS × Int64)) × (MS → Int32 → Int32 → Int64 → Int32 → Int64 → Int32 → Int32 → Int32 → Option (MS × Int64))} (h : ZIc p W x u) (e_v1 : v1' = v1) (e_v4 : v4' = v4) (e_v5 : v5' = v5) (e_v7 : v7' = v7) (hG0 : ∀ (s : MS) (a0 b0 : Int32) (a1 b1 : Int32) (a2 b2 : Int64) (a3 b3 : Int32), ZIc p W x s → b0 = a0 → b1 = a1 → b2 = a2 → b3 = a3 → CZ p W x (G'.1 (Zp p W x s) b0 b1 b2 b3) (G.1 s a0 a1 a2 a3)) (hG1 : ∀ (s : MS) (a0 b0 : Int32) (a1 b1 : Int32) (a2 b2 : Int64) (a3 b3 : Int32) (a4 b4 : Int64) (a5 b5 : Int32) (a6 b6 : Int32) (a7 b7 : Int32), ZIc p W x s → b0 = a0 → b1 = a1 → b2 = a2 → b3 = a3 → b4 = a4 → b5 = a5 → b6 = a6 → b7 = a7 → CZ p W x (G'.2 (Zp p W x s) b0 b1 b2 b3 b4 b5 b6 b7) (G.2 s a0 a1 a2 a3 a4 a5 a6 a7)) : CZ p W x (fb_M_copy_42 N G' (Zp p W x u) v1' v4' v5' v7') (fb_M_copy_42 N G u v1 v4 v5 v7) := by
  subst e_v1
  subst e_v4
  subst e_v5
  subst e_v7
  unfold fb_M_copy_42
  repeat' (first | with_reducible rfl | with_reducible assumption | with_reducible refine cz_br ?_ ?_ ?_ | with_reducible refine cz_bnd ?_ (fun _ _ _ => ?_) | with_reducible refine cz_ck ?_ ?_ | with_reducible refine cz_some ?_ (by assumption) | with_reducible refine cz_A (by first | decide | exact And.right (by assumption)) ?_ (by assumption) (fun _ => ?_) | with_reducible refine cz_J (by first | decide | exact And.left (by assumption)) ?_ (by assumption) (fun _ => ?_) | with_reducible refine cz_I ?_ (by assumption) (fun _ => ?_) | with_reducible refine cz_L ?_ (by assumption) (fun _ => ?_) | with_reducible refine zc_fb_M_copy_128 (by assumption) ?_ ?_ ?_ ?_ ?_ ?_ ?_ hG0 hG1 | with_reducible refine zc_fm_M_sizeOf (by assumption) ?_ ?_ | with_reducible refine hG0 _ _ _ _ _ _ _ _ _ (by assumption) ?_ ?_ ?_ ?_ | with_reducible refine hG1 _ _ _ _ _ _ _ _ _ _ _ _ _ _ _ _ _ (by assumption) ?_ ?_ ?_ ?_ ?_ ?_ ?_ ?_ | with_reducible refine cz_ltv ?_ (fun _ => ?_) | (show _ = _; simp only [zr_1, zr_2, zr_A (k := 89) (by decide), zr_A (k := 142) (by decide), zr_J (k := 88) (by decide), zr_J (k := 141) (by decide)]) | rfl)
theorem zc_fb_M_copy_0 {v1 v1' : Int32} {v2 v2' : Int64} {v4 v4' : Int32} {G' G : (MS → Int32 → Int32 → Int64 → Int32 → Option (MS × Int64)) × (MS → Int32 → Int32 → Int64 → Int32 → Int64 → Int32 → Int32 → Int32 → Option (MS × Int64))} (h : ZIc p W x u) (e_v1 : v1' = v1) (e_v2 : v2' = v2) (e_v4 : v4' = v4) (hG0 : ∀ (s : MS) (a0 b0 : Int32) (a1 b1 : Int32) (a2 b2 : Int64) (a3 b3 : Int32), ZIc p W x s → b0 = a0 → b1 = a1 → b2 = a2 → b3 = a3 → CZ p W x (G'.1 (Zp p W x s) b0 b1 b2 b3) (G.1 s a0 a1 a2 a3)) (hG1 : ∀ (s : MS) (a0 b0 : Int32) (a1 b1 : Int32) (a2 b2 : Int64) (a3 b3 : Int32) (a4 b4 : Int64) (a5 b5 : Int32) (a6 b6 : Int32) (a7 b7 : Int32), ZIc p W x s → b0 = a0 → b1 = a1 → b2 = a2 → b3 = a3 → b4 = a4 → b5 = a5 → b6 = a6 → b7 = a7 → CZ p W x (G'.2 (Zp p W x s) b0 b1 b2 b3 b4 b5 b6 b7) (G.2 s a0 a1 a2 a3 a4 a5 a6 a7)) : CZ p W x (fb_M_copy_0 N G' (Zp p W x u) v1' v2' v4') (fb_M_copy_0 N G u v1 v2 v4) := by
  subst e_v1
  subst e_v2
  subst e_v4
  unfold fb_M_copy_0
  repeat' (first | with_reducible rfl | with_reducible assumption | with_reducible refine cz_br ?_ ?_ ?_ | with_reducible refine cz_bnd ?_ (fun _ _ _ => ?_) | with_reducible refine cz_ck ?_ ?_ | with_reducible refine cz_some ?_ (by assumption) | with_reducible refine cz_A (by first | decide | exact And.right (by assumption)) ?_ (by assumption) (fun _ => ?_) | with_reducible refine cz_J (by first | decide | exact And.left (by assumption)) ?_ (by assumption) (fun _ => ?_) | with_reducible refine cz_I ?_ (by assumption) (fun _ => ?_) | with_reducible refine cz_L ?_ (by assumption) (fun _ => ?_) | with_reducible refine zc_fm_M_inHeap (by assumption) ?_ | with_reducible refine hG0 _ _ _ _ _ _ _ _ _ (by assumption) ?_ ?_ ?_ ?_ | with_reducible refine hG1 _ _ _ _ _ _ _ _ _ _ _ _ _ _ _ _ _ (by assumption) ?_ ?_ ?_ ?_ ?_ ?_ ?_ ?_ | with_reducible refine cz_ltv ?_ (fun _ => ?_) | (show _ = _; simp only [zr_1, zr_2, zr_A (k := 89) (by decide), zr_A (k := 142) (by decide), zr_J (k := 141) (by decide)]) | rfl)
theorem zc_gg_M_copy : ∀ (n n' : Nat), n ≤ n' → (∀ (s : MS) (a0 b0 : Int32) (a1 b1 : Int32) (a2 b2 : Int64) (a3 b3 : Int32), ZIc p W x s → b0 = a0 → b1 = a1 → b2 = a2 → b3 = a3 → CZ p W x ((gg_M_copy N n).1 (Zp p W x s) b0 b1 b2 b3) ((gg_M_copy N n').1 s a0 a1 a2 a3)) ∧ (∀ (s : MS) (a0 b0 : Int32) (a1 b1 : Int32) (a2 b2 : Int64) (a3 b3 : Int32) (a4 b4 : Int64) (a5 b5 : Int32) (a6 b6 : Int32) (a7 b7 : Int32), ZIc p W x s → b0 = a0 → b1 = a1 → b2 = a2 → b3 = a3 → b4 = a4 → b5 = a5 → b6 = a6 → b7 = a7 → CZ p W x ((gg_M_copy N n).2 (Zp p W x s) b0 b1 b2 b3 b4 b5 b6 b7) ((gg_M_copy N n').2 s a0 a1 a2 a3 a4 a5 a6 a7)) := by
  intro n
  induction n with
  | zero => intro n' _; exact ⟨fun _ _ _ _ _ _ _ _ _ _ _ _ _ _ => cz_none, fun _ _ _ _ _ _ _ _ _ _ _ _ _ _ _ _ _ _ _ _ _ _ _ _ _ _ => cz_none⟩
  | succ n ih =>
    intro n' hn
    cases n' with
    | zero => omega
    | succ n' =>
    have ih' := ih n' (by omega)
    exact ⟨fun _ _ _ _ _ _ _ _ _ h e0 e1 e2 e3 => zc_fb_M_copy_42 (N := N) h e0 e1 e2 e3 ih'.1 ih'.2, fun _ _ _ _ _ _ _ _ _ _ _ _ _ _ _ _ _ h e0 e1 e2 e3 e4 e5 e6 e7 => zc_fb_M_copy_131 (N := N) h e0 e1 e2 e3 e4 e5 e6 e7 ih'.1 ih'.2⟩
theorem zc_fm_M_copy {v1 v1' : Int32} {v2 v2' : Int64} {v4 v4' : Int32} (h : ZIc p W x u) (e_v1 : v1' = v1) (e_v2 : v2' = v2) (e_v4 : v4' = v4) : CZ p W x (fm_M_copy N (Zp p W x u) v1' v2' v4') (fm_M_copy N u v1 v2 v4) := by
  subst e_v1
  subst e_v2
  subst e_v4
  unfold fm_M_copy
  exact zc_fb_M_copy_0 h rfl rfl rfl ((zc_gg_M_copy N N (Nat.le_refl _)).1) ((zc_gg_M_copy N N (Nat.le_refl _)).2)
theorem zc_fb_M_willEnd_68 {G' G : Unit} (h : ZIc p W x u)  : CZ p W x (fb_M_willEnd_68 N G' (Zp p W x u)) (fb_M_willEnd_68 N G u) := by
  unfold fb_M_willEnd_68
  repeat' (first | with_reducible rfl | with_reducible assumption | with_reducible refine cz_br ?_ ?_ ?_ | with_reducible refine cz_bnd ?_ (fun _ _ _ => ?_) | with_reducible refine cz_ck ?_ ?_ | with_reducible refine cz_some ?_ (by assumption) | with_reducible refine cz_A (by first | decide | exact And.right (by assumption)) ?_ (by assumption) (fun _ => ?_) | with_reducible refine cz_J (by first | decide | exact And.left (by assumption)) ?_ (by assumption) (fun _ => ?_) | with_reducible refine cz_I ?_ (by assumption) (fun _ => ?_) | with_reducible refine cz_L ?_ (by assumption) (fun _ => ?_) | with_reducible refine cz_ltv ?_ (fun _ => ?_) | (show _ = _; simp only [zr_1, zr_2]) | rfl)
theorem zc_fb_M_willEnd_0 {v1 v1' : Int32} {v2 v2' : Int32} {v3 v3' : Int32} {v4 v4' : Int64} {G' G : Unit} (h : ZIc p W x u) (e_v1 : v1' = v1) (e_v2 : v2' = v2) (e_v3 : v3' = v3) (e_v4 : v4' = v4)  : CZ p W x (fb_M_willEnd_0 N G' (Zp p W x u) v1' v2' v3' v4') (fb_M_willEnd_0 N G u v1 v2 v3 v4) := by
  subst e_v1
  subst e_v2
  subst e_v3
  subst e_v4
  unfold fb_M_willEnd_0
  repeat' (first | with_reducible rfl | with_reducible assumption | with_reducible refine cz_br ?_ ?_ ?_ | with_reducible refine cz_bnd ?_ (fun _ _ _ => ?_) | with_reducible refine cz_ck ?_ ?_ | with_reducible refine cz_some ?_ (by assumption) | with_reducible refine cz_A (by first | decide | exact And.right (by assumption)) ?_ (by assumption) (fun _ => ?_) | with_reducible refine cz_J (by first | decide | exact And.left (by assumption)) ?_ (by assumption) (fun _ => ?_) | with_reducible refine cz_I ?_ (by assumption) (fun _ => ?_) | with_reducible refine cz_L ?_ (by assumption) (fun _ => ?_) | with_reducible refine zc_fb_M_willEnd_68 (by assumption) | with_reducible refine cz_ltv ?_ (fun _ => ?_) | (show _ = _; simp only [zr_1, zr_2, zr_A (k := 109) (by decide), zr_A (k := 145) (by decide), zr_A (k := 146) (by decide), zr_A (k := 147) (by decide), zr_J (k := 148) (by decide)]) | rfl)
theorem zc_fm_M_willEnd {v1 v1' : Int32} {v2 v2' : Int32} {v3 v3' : Int32} {v4 v4' : Int64} (h : ZIc p W x u) (e_v1 : v1' = v1) (e_v2 : v2' = v2) (e_v3 : v3' = v3) (e_v4 : v4' = v4) : CZ p W x (fm_M_willEnd N (Zp p W x u) v1' v2' v3' v4') (fm_M_willEnd N u v1 v2 v3 v4) := by
  subst e_v1
  subst e_v2
  subst e_v3
  subst e_v4
  unfold fm_M_willEnd
  exact zc_fb_M_willEnd_0 h rfl rfl rfl rfl
theorem zc_fb_M_message_406 {v1 v1' : Int32} {v12 v12' : Int64} {G' G : Unit} (h : ZIc p W x u) (e_v1 : v1' = v1) (e_v12 : v12' = v12)  : CZ p W x (fb_M_message_406 N G' (Zp p W x u) v1' v12') (fb_M_message_406 N G u v1 v12) := by
  subst e_v1
  subst e_v12
  unfold fb_M_message_406
  repeat' (first | with_reducible rfl | with_reducible assumption | with_reducible refine cz_br ?_ ?_ ?_ | with_reducible refine cz_bnd ?_ (fun _ _ _ => ?_) | with_reducible refine cz_ck ?_ ?_ | with_reducible refine cz_some ?_ (by assumption) | with_reducible refine cz_A (by first | decide | exact And.right (by assumption)) ?_ (by assumption) (fun _ => ?_) | with_reducible refine cz_J (by first | decide | exact And.left (by assumption)) ?_ (by assumption) (fun _ => ?_) | with_reducible refine cz_I ?_ (by assumption) (fun _ => ?_) | with_reducible refine cz_L ?_ (by assumption) (fun _ => ?_) | with_reducible refine cz_ltv ?_ (fun _ => ?_) | (show _ = _; simp only [zr_1, zr_2, zr_A (k := 108) (by decide), zr_J (k := 107) (by decide)]) | rfl)
theorem zc_fb_M_message_378 {v1 v1' : Int32} {v12 v12' : Int64} {v14 v14' : Int32} {v15 v15' : Int64} {G' G : Unit} (h : ZIc p W x u) (e_v1 : v1' = v1) (e_v12 : v12' = v12) (e_v14 : v14' = v14) (e_v15 : v15' = v15)  : CZ p W x (fb_M_message_378 N G' (Zp p W x u) v1' v12' v14' v15') (fb_M_message_378 N G u v1 v12 v14 v15) := by
  subst e_v1
  subst e_v12
  subst e_v14
  subst e_v15
  unfold fb_M_message_378
  repeat' (first | with_reducible rfl | with_reducible assumption | with_reducible refine cz_br ?_ ?_ ?_ | with_reducible refine cz_bnd ?_ (fun _ _ _ => ?_) | with_reducible refine cz_ck ?_ ?_ | with_reducible refine cz_some ?_ (by assumption) | with_reducible refine cz_A (by first | decide | exact And.right (by assumption)) ?_ (by assumption) (fun _ => ?_) | with_reducible refine cz_J (by first | decide | exact And.left (by assumption)) ?_ (by assumption) (fun _ => ?_) | with_reducible refine cz_I ?_ (by assumption) (fun _ => ?_) | with_reducible refine cz_L ?_ (by assumption) (fun _ => ?_) | with_reducible refine zc_fb_M_message_406 (by assumption) ?_ ?_ | with_reducible refine cz_ltv ?_ (fun _ => ?_) | (show _ = _; simp only [zr_1, zr_2, zr_J (k := 88) (by decide)]) | rfl)
theorem zc_fb_M_message_328 {v1 v1' : Int32} {v6 v6' : Int32} {v10 v10' : Int64} {v12 v12' : Int64} {v14 v14' : Int32} {v17 v17' : Int32} {t0 : Nat} {t1 t1' : Int32} {t2 t2' : Int32} {t3 t3' : Int32} {G' G : Unit} (h : ZIc p W x u) (e_v1 : v1' = v1) (e_v6 : v6' = v6) (e_v10 : v10' = v10) (e_v12 : v12' = v12) (e_v14 : v14' = v14) (e_v17 : v17' = v17) (hn_t0 : t0 ≠ 91 ∧ t0 ≠ 92) (e_t1 : t1' = t1) (e_t2 : t2' = t2) (e_t3 : t3' = t3)  : CZ p W x (fb_M_message_328 N G' (Zp p W x u) v1' v6' v10' v12' v14' v17' t0 t1' t2' t3') (fb_M_message_328 N G u v1 v6 v10 v12 v14 v17 t0 t1 t2 t3) := by
  subst e_v1
  subst e_v6
  subst e_v10
  subst e_v12
  subst e_v14
  subst e_v17
  subst e_t1
  subst e_t2
  subst e_t3
  unfold fb_M_message_328
  repeat' (first | with_reducible rfl | with_reducible assumption | with_reducible refine cz_br ?_ ?_ ?_ | with_reducible refine cz_bnd ?_ (fun _ _ _ => ?_) | with_reducible refine cz_ck ?_ ?_ | with_reducible refine cz_some ?_ (by assumption) | with_reducible refine cz_A (by first | decide | exact And.right (by assumption)) ?_ (by assumption) (fun _ => ?_) | with_reducible refine cz_J (by first | decide | exact And.left (by assumption)) ?_ (by assumption) (fun _ => ?_) | with_reducible refine cz_I ?_ (by assumption) (fun _ => ?_) | with_reducible refine cz_L ?_ (by assumption) (fun _ => ?_) | with_reducible refine zc_fb_M_message_378 (by assumption) ?_ ?_ ?_ ?_ | with_reducible refine zc_fm_M_copy (by assumption) ?_ ?_ ?_ | with_reducible refine zc_fm_M_term (by assumption) ?_ ?_ | with_reducible refine cz_ltv ?_ (fun _ => ?_) | (show _ = _; simp only [zr_1, zr_2, zr_J (k := 88) (by decide), zr_A hn_t0.2, zr_J hn_t0.1]) | rfl)
theorem zc_fb_M_message_261 {v1 v1' : Int32} {v5 v5' : Int32} {v6 v6' : Int32} {v10 v10' : Int64} {v12 v12' : Int64} {v14 v14' : Int32} {G' G : Unit} (h : ZIc p W x u) (e_v1 : v1' = v1) (e_v5 : v5' = v5) (e_v6 : v6' = v6) (e_v10 : v10' = v10) (e_v12 : v12' = v12) (e_v14 : v14' = v14)  : CZ p W x (fb_M_message_261 N G' (Zp p W x u) v1' v5' v6' v10' v12' v14') (fb_M_message_261 N G u v1 v5 v6 v10 v12 v14) := by
  subst e_v1
  subst e_v5
  subst e_v6
  subst e_v10
  subst e_v12
  subst e_v14
  unfold fb_M_message_261
  repeat' (first | with_reducible rfl | with_reducible assumption | with_reducible refine cz_br ?_ ?_ ?_ | with_reducible refine cz_bnd ?_ (fun _ _ _ => ?_) | with_reducible refine cz_ck ?_ ?_ | with_reducible refine cz_some ?_ (by assumption) | with_reducible refine cz_A (by first | decide | exact And.right (by assumption)) ?_ (by assumption) (fun _ => ?_) | with_reducible refine cz_J (by first | decide | exact And.left (by assumption)) ?_ (by assumption) (fun _ => ?_) | with_reducible refine cz_I ?_ (by assumption) (fun _ => ?_) | with_reducible refine cz_L ?_ (by assumption) (fun _ => ?_) | with_reducible refine zc_fb_M_message_328 (by assumption) ?_ ?_ ?_ ?_ ?_ ?_ (by first | assumption | decide) ?_ ?_ ?_ | with_reducible refine zc_fb_M_message_378 (by assumption) ?_ ?_ ?_ ?_ | with_reducible refine zc_fm_M_copy (by assumption) ?_ ?_ ?_ | with_reducible refine cz_ltv ?_ (fun _ => ?_) | (show _ = _; simp only [zr_1, zr_2, zr_A (k := 89) (by decide), zr_J (k := 88) (by decide)]) | rfl)
theorem zc_fb_M_message_222 {v1 v1' : Int32} {v4 v4' : Int32} {v5 v5' : Int32} {v6 v6' : Int32} {v10 v10' : Int64} {v15 v15' : Int32} {v16 v16' : Int32} {G' G : Unit} (h : ZIc p W x u) (e_v1 : v1' = v1) (e_v4 : v4' = v4) (e_v5 : v5' = v5) (e_v6 : v6' = v6) (e_v10 : v10' = v10) (e_v15 : v15' = v15) (e_v16 : v16' = v16)  : CZ p W x (fb_M_message_222 N G' (Zp p W x u) v1' v4' v5' v6' v10' v15' v16') (fb_M_message_222 N G u v1 v4 v5 v6 v10 v15 v16) := by
  subst e_v1
  subst e_v4
  subst e_v5
  subst e_v6
  subst e_v10
  subst e_v15
  subst e_v16
  unfold fb_M_message_222
  repeat' (first | with_reducible rfl | with_reducible assumption | with_reducible refine cz_br ?_ ?_ ?_ | with_reducible refine cz_bnd ?_ (fun _ _ _ => ?_) | with_reducible refine cz_ck ?_ ?_ | with_reducible refine cz_some ?_ (by assumption) | with_reducible refine cz_A (by first | decide | exact And.right (by assumption)) ?_ (by assumption) (fun _ => ?_) | with_reducible refine cz_J (by first | decide | exact And.left (by assumption)) ?_ (by assumption) (fun _ => ?_) | with_reducible refine cz_I ?_ (by assumption) (fun _ => ?_) | with_reducible refine cz_L ?_ (by assumption) (fun _ => ?_) | with_reducible refine zc_fb_M_message_261 (by assumption) ?_ ?_ ?_ ?_ ?_ ?_ | with_reducible refine zc_fm_M_term (by assumption) ?_ ?_ | with_reducible refine cz_ltv ?_ (fun _ => ?_) | (show _ = _; simp only [zr_1, zr_2, zr_J (k := 88) (by decide)]) | rfl)
theorem zc_fb_M_message_193 {v1 v1' : Int32} {v2 v2' : Int32} {v3 v3' : Int32} {v4 v4' : Int32} {v5 v5' : Int32} {v6 v6' : Int32} {v10 v10' : Int64} {v15 v15' : Int32} {v16 v16' : Int32} {t0 : Nat} {t1 t1' : Int32} {t2 t2' : Int32} {t3 t3' : Int32} {G' G : Unit} (h : ZIc p W x u) (e_v1 : v1' = v1) (e_v2 : v2' = v2) (e_v3 : v3' = v3) (e_v4 : v4' = v4) (e_v5 : v5' = v5) (e_v6 : v6' = v6) (e_v10 : v10' = v10) (e_v15 : v15' = v15) (e_v16 : v16' = v16) (hn_t0 : t0 ≠ 91 ∧ t0 ≠ 92) (e_t1 : t1' = t1) (e_t2 : t2' = t2) (e_t3 : t3' = t3)  : CZ p W x (fb_M_message_193 N G' (Zp p W x u) v1' v2' v3' v4' v5' v6' v10' v15' v16' t0 t1' t2' t3') (fb_M_message_193 N G u v1 v2 v3 v4 v5 v6 v10 v15 v16 t0 t1 t2 t3) := by
  subst e_v1
  subst e_v2
  subst e_v3
  subst e_v4
  subst e_v5
  subst e_v6
  subst e_v10
  subst e_v15
  subst e_v16
  subst e_t1
  subst e_t2
  subst e_t3
  unfold fb_M_message_193
  repeat' (first | with_reducible rfl | with_reducible assumption | with_reducible refine cz_br ?_ ?_ ?_ | with_reducible refine cz_bnd ?_ (fun _ _ _ => ?_) | with_reducible refine cz_ck ?_ ?_ | with_reducible refine cz_some ?_ (by assumption) | with_reducible refine cz_A (by first | decide | exact And.right (by assumption)) ?_ (by assumption) (fun _ => ?_) | with_reducible refine cz_J (by first | decide | exact And.left (by assumption)) ?_ (by assumption) (fun _ => ?_) | with_reducible refine cz_I ?_ (by assumption) (fun _ => ?_) | with_reducible refine cz_L ?_ (by assumption) (fun _ => ?_) | with_reducible refine zc_fb_M_message_222 (by assumption) ?_ ?_ ?_ ?_ ?_ ?_ ?_ | with_reducible refine zc_fm_M_term (by assumption) ?_ ?_ | with_reducible refine cz_ltv ?_ (fun _ => ?_) | (show _ = _; simp only [zr_1, zr_2, zr_J (k := 88) (by decide), zr_A hn_t0.2, zr_J hn_t0.1]) | rfl)
theorem zc_fb_M_message_136 {v1 v1' : Int32} {v2 v2' : Int32} {v3 v3' : Int32} {v4 v4' : Int32} {v5 v5' : Int32} {v6 v6' : Int32} {v10 v10' : Int64} {v15 v15' : Int32} {t0 t0' : Int32} {G' G : Unit} (h : ZIc p W x u) (e_v1 : v1' = v1) (e_v2 : v2' = v2) (e_v3 : v3' = v3) (e_v4 : v4' = v4) (e_v5 : v5' = v5) (e_v6 : v6' = v6) (e_v10 : v10' = v10) (e_v15 : v15' = v15) (e_t0 : t0' = t0)  : CZ p W x (fb_M_message_136 N G' (Zp p W x u) v1' v2' v3' v4' v5' v6' v10' v15' t0') (fb_M_message_136 N G u v1 v2 v3 v4 v5 v6 v10 v15 t0) := by
  subst e_v1
  subst e_v2
  subst e_v3
  subst e_v4
  subst e_v5
  subst e_v6
  subst e_v10
  subst e_v15
  subst e_t0
  unfold fb_M_message_136
  repeat' (first | with_reducible rfl | with_reducible assumption | with_reducible refine cz_br ?_ ?_ ?_ | with_reducible refine cz_bnd ?_ (fun _ _ _ => ?_) | with_reducible refine cz_ck ?_ ?_ | with_reducible refine cz_some ?_ (by assumption) | with_reducible refine cz_A (by first | decide | exact And.right (by assumption)) ?_ (by assumption) (fun _ => ?_) | with_reducible refine cz_J (by first | decide | exact And.left (by assumption)) ?_ (by assumption) (fun _ => ?_) | with_reducible refine cz_I ?_ (by assumption) (fun _ => ?_) | with_reducible refine cz_L ?_ (by assumption) (fun _ => ?_) | with_reducible refine zc_fb_M_message_193 (by assumption) ?_ ?_ ?_ ?_ ?_ ?_ ?_ ?_ ?_ (by first | assumption | decide) ?_ ?_ ?_ | with_reducible refine cz_ltv ?_ (fun _ => ?_) | (show _ = _; simp only [zr_1, zr_2, zr_A (k := 89) (by decide), zr_J (k := 88) (by decide)]) | rfl)
theorem zc_fb_M_message_50 {v1 v1' : Int32} {v2 v2' : Int32} {v3 v3' : Int32} {v4 v4' : Int32} {v5 v5' : Int32} {v6 v6' : Int32} {v7 v7' : Int64} {t0 t0' : Int32} {t1 t1' : Int32} {G' G : Unit} (h : ZIc p W x u) (e_v1 : v1' = v1) (e_v2 : v2' = v2) (e_v3 : v3' = v3) (e_v4 : v4' = v4) (e_v5 : v5' = v5) (e_v6 : v6' = v6) (e_v7 : v7' = v7) (e_t0 : t0' = t0) (e_t1 : t1' = t1)  : CZ p W x (fb_M_message_50 N G' (Zp p W x u) v1' v2' v3' v4' v5' v6' v7' t0' t1') (fb_M_message_50 N G u v1 v2 v3 v4 v5 v6 v7 t0 t1) := by
  subst e_v1
  subst e_v2
  subst e_v3
  subst e_v4
  subst e_v5
  subst e_v6
  subst e_v7
  subst e_t0
  subst e_t1
  unfold fb_M_message_50
  repeat' (first | with_reducible rfl | with_reducible assumption | with_reducible refine cz_br ?_ ?_ ?_ | with_reducible refine cz_bnd ?_ (fun _ _ _ => ?_) | with_reducible refine cz_ck ?_ ?_ | with_reducible refine cz_some ?_ (by assumption) | with_reducible refine cz_A (by first | decide | exact And.right (by assumption)) ?_ (by assumption) (fun _ => ?_) | with_reducible refine cz_J (by first | decide | exact And.left (by assumption)) ?_ (by assumption) (fun _ => ?_) | with_reducible refine cz_I ?_ (by assumption) (fun _ => ?_) | with_reducible refine cz_L ?_ (by assumption) (fun _ => ?_) | with_reducible refine zc_fb_M_message_136 (by assumption) ?_ ?_ ?_ ?_ ?_ ?_ ?_ ?_ ?_ | with_reducible refine zc_fb_M_message_261 (by assumption) ?_ ?_ ?_ ?_ ?_ ?_ | with_reducible refine zc_fm_M_willEnd (by assumption) ?_ ?_ ?_ ?_ | with_reducible refine zc_fm_M_copySize (by assumption) ?_ ?_ | with_reducible refine zc_fm_M_wants (by assumption) ?_ ?_ | with_reducible refine zc_fm_M_hand (by assumption) ?_ ?_ | with_reducible refine zc_fm_M_term (by assumption) ?_ ?_ | with_reducible refine zc_fm_M_handNone (by assumption) | with_reducible refine cz_ltv ?_ (fun _ => ?_) | (show _ = _; simp only [zr_1, zr_2, zr_A (k := 89) (by decide)]) | rfl)
theorem zc_fb_M_message_40 {v1 v1' : Int32} {v2 v2' : Int32} {v3 v3' : Int32} {v4 v4' : Int32} {v5 v5' : Int32} {v6 v6' : Int32} {v7 v7' : Int64} {t0 t0' : Int32} {G' G : Unit} (h : ZIc p W x u) (e_v1 : v1' = v1) (e_v2 : v2' = v2) (e_v3 : v3' = v3) (e_v4 : v4' = v4) (e_v5 : v5' = v5) (e_v6 : v6' = v6) (e_v7 : v7' = v7) (e_t0 : t0' = t0)  : CZ p W x (fb_M_message_40 N G' (Zp p W x u) v1' v2' v3' v4' v5' v6' v7' t0') (fb_M_message_40 N G u v1 v2 v3 v4 v5 v6 v7 t0) := by
  subst e_v1
  subst e_v2
  subst e_v3
  subst e_v4
  subst e_v5
  subst e_v6
  subst e_v7
  subst e_t0
  unfold fb_M_message_40
  repeat' (first | with_reducible rfl | with_reducible assumption | with_reducible refine cz_br ?_ ?_ ?_ | with_reducible refine cz_bnd ?_ (fun _ _ _ => ?_) | with_reducible refine cz_ck ?_ ?_ | with_reducible refine cz_some ?_ (by assumption) | with_reducible refine cz_A (by first | decide | exact And.right (by assumption)) ?_ (by assumption) (fun _ => ?_) | with_reducible refine cz_J (by first | decide | exact And.left (by assumption)) ?_ (by assumption) (fun _ => ?_) | with_reducible refine cz_I ?_ (by assumption) (fun _ => ?_) | with_reducible refine cz_L ?_ (by assumption) (fun _ => ?_) | with_reducible refine zc_fb_M_message_50 (by assumption) ?_ ?_ ?_ ?_ ?_ ?_ ?_ ?_ ?_ | with_reducible refine cz_ltv ?_ (fun _ => ?_) | (show _ = _; simp only [zr_1, zr_2]) | rfl)
theorem zc_fb_M_message_21 {G' G : Unit} (h : ZIc p W x u)  : CZ p W x (fb_M_message_21 N G' (Zp p W x u)) (fb_M_message_21 N G u) := by
  unfold fb_M_message_21
  repeat' (first | with_reducible rfl | with_reducible assumption | with_reducible refine cz_br ?_ ?_ ?_ | with_reducible refine cz_bnd ?_ (fun _ _ _ => ?_) | with_reducible refine cz_ck ?_ ?_ | with_reducible refine cz_some ?_ (by assumption) | with_reducible refine cz_A (by first | decide | exact And.right (by assumption)) ?_ (by assumption) (fun _ => ?_) | with_reducible refine cz_J (by first | decide | exact And.left (by assumption)) ?_ (by assumption) (fun _ => ?_) | with_reducible refine cz_I ?_ (by assumption) (fun _ => ?_) | with_reducible refine cz_L ?_ (by assumption) (fun _ => ?_) | with_reducible refine cz_ltv ?_ (fun _ => ?_) | (show _ = _; simp only [zr_1, zr_2]) | rfl)
theorem zc_fb_M_message_0 {v1 v1' : Int32} {v2 v2' : Int32} {v3 v3' : Int32} {v4 v4' : Int32} {v5 v5' : Int32} {v6 v6' : Int32} {v7 v7' : Int64} {G' G : Unit} (h : ZIc p W x u) (e_v1 : v1' = v1) (e_v2 : v2' = v2) (e_v3 : v3' = v3) (e_v4 : v4' = v4) (e_v5 : v5' = v5) (e_v6 : v6' = v6) (e_v7 : v7' = v7)  : CZ p W x (fb_M_message_0 N G' (Zp p W x u) v1' v2' v3' v4' v5' v6' v7') (fb_M_message_0 N G u v1 v2 v3 v4 v5 v6 v7) := by
  subst e_v1
  subst e_v2
  subst e_v3
  subst e_v4
  subst e_v5
  subst e_v6
  subst e_v7
  unfold fb_M_message_0
  repeat' (first | with_reducible rfl | with_reducible assumption | with_reducible refine cz_br ?_ ?_ ?_ | with_reducible refine cz_bnd ?_ (fun _ _ _ => ?_) | with_reducible refine cz_ck ?_ ?_ | with_reducible refine cz_some ?_ (by assumption) | with_reducible refine cz_A (by first | decide | exact And.right (by assumption)) ?_ (by assumption) (fun _ => ?_) | with_reducible refine cz_J (by first | decide | exact And.left (by assumption)) ?_ (by assumption) (fun _ => ?_) | with_reducible refine cz_I ?_ (by assumption) (fun _ => ?_) | with_reducible refine cz_L ?_ (by assumption) (fun _ => ?_) | with_reducible refine zc_fb_M_message_40 (by assumption) ?_ ?_ ?_ ?_ ?_ ?_ ?_ ?_ | with_reducible refine zc_fb_M_message_21 (by assumption) | with_reducible refine cz_ltv ?_ (fun _ => ?_) | (show _ = _; simp only [zr_1, zr_2, zr_A (k := 108) (by decide), zr_A (k := 109) (by decide)]) | rfl)
theorem zc_fm_M_message {v1 v1' : Int32} {v2 v2' : Int32} {v3 v3' : Int32} {v4 v4' : Int32} {v5 v5' : Int32} {v6 v6' : Int32} {v7 v7' : Int64} (h : ZIc p W x u) (e_v1 : v1' = v1) (e_v2 : v2' = v2) (e_v3 : v3' = v3) (e_v4 : v4' = v4) (e_v5 : v5' = v5) (e_v6 : v6' = v6) (e_v7 : v7' = v7) : CZ p W x (fm_M_message N (Zp p W x u) v1' v2' v3' v4' v5' v6' v7') (fm_M_message N u v1 v2 v3 v4 v5 v6 v7) := by
  subst e_v1
  subst e_v2
  subst e_v3
  subst e_v4
  subst e_v5
  subst e_v6
  subst e_v7
  unfold fm_M_message
  exact zc_fb_M_message_0 h rfl rfl rfl rfl rfl rfl rfl
theorem zc_fb_M_signal_61 {G' G : Unit} (h : ZIc p W x u)  : CZ p W x (fb_M_signal_61 N G' (Zp p W x u)) (fb_M_signal_61 N G u) := by
  unfold fb_M_signal_61
  repeat' (first | with_reducible rfl | with_reducible assumption | with_reducible refine cz_br ?_ ?_ ?_ | with_reducible refine cz_bnd ?_ (fun _ _ _ => ?_) | with_reducible refine cz_ck ?_ ?_ | with_reducible refine cz_some ?_ (by assumption) | with_reducible refine cz_A (by first | decide | exact And.right (by assumption)) ?_ (by assumption) (fun _ => ?_) | with_reducible refine cz_J (by first | decide | exact And.left (by assumption)) ?_ (by assumption) (fun _ => ?_) | with_reducible refine cz_I ?_ (by assumption) (fun _ => ?_) | with_reducible refine cz_L ?_ (by assumption) (fun _ => ?_) | with_reducible refine cz_ltv ?_ (fun _ => ?_) | (show _ = _; simp only [zr_1, zr_2]) | rfl)
theorem zc_fb_M_signal_51 {v1 v1' : Int32} {v3 v3' : Int32} {v4 v4' : Int32} {v5 v5' : Int64} {G' G : Unit} (h : ZIc p W x u) (e_v1 : v1' = v1) (e_v3 : v3' = v3) (e_v4 : v4' = v4) (e_v5 : v5' = v5)  : CZ p W x (fb_M_signal_51 N G' (Zp p W x u) v1' v3' v4' v5') (fb_M_signal_51 N G u v1 v3 v4 v5) := by
  subst e_v1
  subst e_v3
  subst e_v4
  subst e_v5
  unfold fb_M_signal_51
  repeat' (first | with_reducible rfl | with_reducible assumption | with_reducible refine cz_br ?_ ?_ ?_ | with_reducible refine cz_bnd ?_ (fun _ _ _ => ?_) | with_reducible refine cz_ck ?_ ?_ | with_reducible refine cz_some ?_ (by assumption) | with_reducible refine cz_A (by first | decide | exact And.right (by assumption)) ?_ (by assumption) (fun _ => ?_) | with_reducible refine cz_J (by first | decide | exact And.left (by assumption)) ?_ (by assumption) (fun _ => ?_) | with_reducible refine cz_I ?_ (by assumption) (fun _ => ?_) | with_reducible refine cz_L ?_ (by assumption) (fun _ => ?_) | with_reducible refine zc_fm_M_willEnd (by assumption) ?_ ?_ ?_ ?_ | with_reducible refine zc_fb_M_signal_61 (by assumption) | with_reducible refine cz_ltv ?_ (fun _ => ?_) | (show _ = _; simp only [zr_1, zr_2]) | rfl)
theorem zc_fb_M_signal_0 {v1 v1' : Int32} {v2 v2' : Int32} {v3 v3' : Int32} {v4 v4' : Int32} {v5 v5' : Int64} {G' G : Unit} (h : ZIc p W x u) (e_v1 : v1' = v1) (e_v2 : v2' = v2) (e_v3 : v3' = v3) (e_v4 : v4' = v4) (e_v5 : v5' = v5)  : CZ p W x (fb_M_signal_0 N G' (Zp p W x u) v1' v2' v3' v4' v5') (fb_M_signal_0 N G u v1 v2 v3 v4 v5) := by
  subst e_v1
  subst e_v2
  subst e_v3
  subst e_v4
  subst e_v5
  unfold fb_M_signal_0
  repeat' (first | with_reducible rfl | with_reducible assumption | with_reducible refine cz_br ?_ ?_ ?_ | with_reducible refine cz_bnd ?_ (fun _ _ _ => ?_) | with_reducible refine cz_ck ?_ ?_ | with_reducible refine cz_some ?_ (by assumption) | with_reducible refine cz_A (by first | decide | exact And.right (by assumption)) ?_ (by assumption) (fun _ => ?_) | with_reducible refine cz_J (by first | decide | exact And.left (by assumption)) ?_ (by assumption) (fun _ => ?_) | with_reducible refine cz_I ?_ (by assumption) (fun _ => ?_) | with_reducible refine cz_L ?_ (by assumption) (fun _ => ?_) | with_reducible refine zc_fm_M_message (by assumption) ?_ ?_ ?_ ?_ ?_ ?_ ?_ | with_reducible refine zc_fb_M_signal_51 (by assumption) ?_ ?_ ?_ ?_ | with_reducible refine zc_fm_M_term (by assumption) ?_ ?_ | with_reducible refine zc_fb_M_signal_61 (by assumption) | with_reducible refine cz_ltv ?_ (fun _ => ?_) | (show _ = _; simp only [zr_1, zr_2, zr_A (k := 109) (by decide), zr_A (k := 112) (by decide)]) | rfl)
theorem zc_fm_M_signal {v1 v1' : Int32} {v2 v2' : Int32} {v3 v3' : Int32} {v4 v4' : Int32} {v5 v5' : Int64} (h : ZIc p W x u) (e_v1 : v1' = v1) (e_v2 : v2' = v2) (e_v3 : v3' = v3) (e_v4 : v4' = v4) (e_v5 : v5' = v5) : CZ p W x (fm_M_signal N (Zp p W x u) v1' v2' v3' v4' v5') (fm_M_signal N u v1 v2 v3 v4 v5) := by
  subst e_v1
  subst e_v2
  subst e_v3
  subst e_v4
  subst e_v5
  unfold fm_M_signal
  exact zc_fb_M_signal_0 h rfl rfl rfl rfl rfl
theorem zc_fb_M_exitRun_111 {G' G : Unit} (h : ZIc p W x u)  : CZ p W x (fb_M_exitRun_111 N G' (Zp p W x u)) (fb_M_exitRun_111 N G u) := by
  unfold fb_M_exitRun_111
  repeat' (first | with_reducible rfl | with_reducible assumption | with_reducible refine cz_br ?_ ?_ ?_ | with_reducible refine cz_bnd ?_ (fun _ _ _ => ?_) | with_reducible refine cz_ck ?_ ?_ | with_reducible refine cz_some ?_ (by assumption) | with_reducible refine cz_A (by first | decide | exact And.right (by assumption)) ?_ (by assumption) (fun _ => ?_) | with_reducible refine cz_J (by first | decide | exact And.left (by assumption)) ?_ (by assumption) (fun _ => ?_) | with_reducible refine cz_I ?_ (by assumption) (fun _ => ?_) | with_reducible refine cz_L ?_ (by assumption) (fun _ => ?_) | with_reducible refine cz_ltv ?_ (fun _ => ?_) | (show _ = _; simp only [zr_1, zr_2]) | rfl)
theorem zc_fb_M_exitRun_84 {v1 v1' : Int32} {v2 v2' : Int64} {G' G : Unit} (h : ZIc p W x u) (e_v1 : v1' = v1) (e_v2 : v2' = v2)  : CZ p W x (fb_M_exitRun_84 N G' (Zp p W x u) v1' v2') (fb_M_exitRun_84 N G u v1 v2) := by
  subst e_v1
  subst e_v2
  unfold fb_M_exitRun_84
  repeat' (first | with_reducible rfl | with_reducible assumption | with_reducible refine cz_br ?_ ?_ ?_ | with_reducible refine cz_bnd ?_ (fun _ _ _ => ?_) | with_reducible refine cz_ck ?_ ?_ | with_reducible refine cz_some ?_ (by assumption) | with_reducible refine cz_A (by first | decide | exact And.right (by assumption)) ?_ (by assumption) (fun _ => ?_) | with_reducible refine cz_J (by first | decide | exact And.left (by assumption)) ?_ (by assumption) (fun _ => ?_) | with_reducible refine cz_I ?_ (by assumption) (fun _ => ?_) | with_reducible refine cz_L ?_ (by assumption) (fun _ => ?_) | with_reducible refine zc_fm_M_willEnd (by assumption) ?_ ?_ ?_ ?_ | with_reducible refine zc_fm_M_copy (by assumption) ?_ ?_ ?_ | with_reducible refine zc_fb_M_exitRun_111 (by assumption) | with_reducible refine cz_ltv ?_ (fun _ => ?_) | (show _ = _; simp only [zr_1, zr_2, zr_A (k := 89) (by decide)]) | rfl)
theorem zc_fb_M_exitRun_0 {v1 v1' : Int32} {v2 v2' : Int64} {G' G : Unit} (h : ZIc p W x u) (e_v1 : v1' = v1) (e_v2 : v2' = v2)  : CZ p W x (fb_M_exitRun_0 N G' (Zp p W x u) v1' v2') (fb_M_exitRun_0 N G u v1 v2) := by
  subst e_v1
  subst e_v2
  unfold fb_M_exitRun_0
  repeat' (first | with_reducible rfl | with_reducible assumption | with_reducible refine cz_br ?_ ?_ ?_ | with_reducible refine cz_bnd ?_ (fun _ _ _ => ?_) | with_reducible refine cz_ck ?_ ?_ | with_reducible refine cz_some ?_ (by assumption) | with_reducible refine cz_A (by first | decide | exact And.right (by assumption)) ?_ (by assumption) (fun _ => ?_) | with_reducible refine cz_J (by first | decide | exact And.left (by assumption)) ?_ (by assumption) (fun _ => ?_) | with_reducible refine cz_I ?_ (by assumption) (fun _ => ?_) | with_reducible refine cz_L ?_ (by assumption) (fun _ => ?_) | with_reducible refine zc_fm_M_message (by assumption) ?_ ?_ ?_ ?_ ?_ ?_ ?_ | with_reducible refine zc_fm_M_willEnd (by assumption) ?_ ?_ ?_ ?_ | with_reducible refine zc_fb_M_exitRun_84 (by assumption) ?_ ?_ | with_reducible refine zc_fb_M_exitRun_111 (by assumption) | with_reducible refine zc_fm_M_term (by assumption) ?_ ?_ | with_reducible refine cz_ltv ?_ (fun _ => ?_) | (show _ = _; simp only [zr_1, zr_2, zr_A (k := 109) (by decide), zr_A (k := 112) (by decide)]) | rfl)
theorem zc_fm_M_exitRun {v1 v1' : Int32} {v2 v2' : Int64} (h : ZIc p W x u) (e_v1 : v1' = v1) (e_v2 : v2' = v2) : CZ p W x (fm_M_exitRun N (Zp p W x u) v1' v2') (fm_M_exitRun N u v1 v2) := by
  subst e_v1
  subst e_v2
  unfold fm_M_exitRun
  exact zc_fb_M_exitRun_0 h rfl rfl
end
end
section
set_option maxRecDepth 100000
section
variable {b : Int → Nat → Nat → Prop} {Fv Fv' : Int64 → Int64 → Prop} {P P' : Int64 → Prop} {N PR q p i j : Nat} {m w : MS} {t : Int64} {v4 : Int} {RR : Nat → MS → MS → Prop}
theorem wl_lit {a sort : Nat} (hz : (a = 0 ∧ sort = 2) ∨ (a = 4 ∧ sort = 0) ∨ (a = 5 ∧ sort = 1)) (W : WLs RR PR Fv P Fv' P' none i j m w) (hp : p < PR) (hal : F m (pq p 9) ≠ 3) (hq : q < PR) (h1 : ¬ isH t) (h6 : so t = 6 → va t = 0) (hP : P t) (hP' : P' t) (h4 : RG v4) (hN : 3000000 ≤ N) : PP (fun m2 (_ : Unit) w2 (_ : Unit) => WLs RR PR Fv P Fv' P' none i j m2 w2 ∧ MVs m w m2 w2 ∧ ∀ d, d ≠ p → LOCm d m m2 ∧ LOCw d w w2) (hm_Wl_post N m p (I ((a : Nat) : Int)) (I ((q : Nat) : Int)) (I v4) t none) (fm_M_message N w (I ((p : Nat) : Int)) (I ((sort : Nat) : Int)) (I v4) (I ((q : Nat) : Int)) (I 0) (I ((q : Nat) : Int)) t) := by
  have W0 := W
  obtain ⟨sf, -, pr, hR⟩ := W
  have p24 := sf.2.1.1.1.2
  obtain ⟨h9, al⟩ : A w 109 p ≠ 3 ∧ ALr RR m w p := by
    rcases pr p hp with h | h
    · exact h.2
    · exact absurd h.1 hal
  obtain ⟨b, U, B, Wt, Y, pl, rs⟩ := al
  obtain ⟨⟨ow, kd, pt⟩, ⟨ow', kd', cw⟩, bd, b4⟩ := SF_al sf hp hal pl
  exact wl_msg hz W0 hp hal h9 (fun c => by cases c) pl rs pt cw (Or.inl ⟨⟨by omega, Or.inl ⟨rfl, rfl, h1, rfl, h6, hP', rfl⟩⟩, (fun c => by cases c), Or.inl rfl⟩) (Or.inl ⟨rfl, h1, hP⟩) (Or.inl ⟨by omega, h1, hP'⟩) ⟨by omega, by omega⟩ (by omega) (fun _ => hq) h4 hN
theorem wl_sgl (W : WLs RR PR Fv P Fv' P' none i j m w) (hp : p < PR) (hal : F m (pq p 9) ≠ 3) (hq : q < PR) (hqd : F m (pq q 9) = 3) (hqd' : A w 109 q = 3) (hN : 3000000 ≤ N) : PP (fun m2 (_ : Unit) w2 (_ : Unit) => WLs RR PR Fv P Fv' P' none i j m2 w2 ∧ MVs m w m2 w2) (hm_Wl_signal N m (I ((q : Nat) : Int)) p (mk 1 3) none) (fm_M_signal N w (I ((p : Nat) : Int)) (I ((q : Nat) : Int)) (I 0) (I ((q : Nat) : Int)) (mk 1 3)) := by
  have W0 := W
  obtain ⟨sf, -, pr, hR⟩ := W
  have sf0 := sf
  obtain ⟨⟨d, cx⟩, ⟨dw, lk, wt⟩, pb⟩ := sf
  have p24 := dw.1.2
  obtain ⟨h9, al⟩ : A w 109 p ≠ 3 ∧ ALr RR m w p := by
    rcases pr p hp with h | h
    · exact h.2
    · exact absurd h.1 hal
  obtain ⟨b, U, B, Wt, Y, pl, rs⟩ := al
  obtain ⟨⟨e, he⟩, e', he'⟩ := SF_e sf0 hp hal
  have qp : q ≠ p := fun c => hal (by rw [← c]; exact hqd)
  have n1 : ¬ isH (mk 1 3) := nh_mk (by omega)
  have n6 : so (mk 1 3) = 6 → va (mk 1 3) = 0 := fun c => by rw [so_mk (by omega) (by omega)] at c; omega
  have hP : P (mk 1 3) := cx.2.2.2.2.2.1 3 (by omega) (by have := cx.2.2.2.1; omega)
  have hP' : P' (mk 1 3) := pb.1 3 (by omega) (by omega)
  have n34 : mk 1 3 ≠ mk 1 4 := fun c => by
    have := congrArg va c
    rw [va_mk (by omega) (by omega), va_mk (by omega) (by omega)] at this
    omega
  have raw : PP (fun m2 (_ : Unit) w2 (_ : Unit) => (WLs RR PR Fv P Fv' P' none i j m2 w2 ∧ MVs m w m2 w2) ∨ (m2 = enS m p (mk 1 3) p e ∧ w2 = enR w p 0 ((q : Nat) : Int) (mk 1 3) e')) (hm_Wl_signal N m (I ((q : Nat) : Int)) p (mk 1 3) none) (fm_M_signal N w (I ((p : Nat) : Int)) (I ((q : Nat) : Int)) (I 0) (I ((q : Nat) : Int)) (mk 1 3)) := by
    have n3 : ¬ m.1 (pq p 9) = 3 := fun z => hal (by show (m.1 (pq p 9)).toInt = 3; rw [z]; rfl)
    have n3' : ¬ w.2.2.1 109 p = 3 := fun z => h9 (by show (w.2.2.1 109 p).toInt = 3; rw [z]; rfl)
    unfold hm_Wl_signal hb_Wl_signal_0 fm_M_signal fb_M_signal_0 fb_M_signal_61 fb_M_signal_51
    refine r_ck (fun _ => ?_)
    rw [tnI (n := p) rfl (by omega), decide_eq_false n3, br_fq, decide_eq_false n3', br_fq]
    refine r_ck (fun _ => ?_)
    rw [← rs.1.2.2.1]
    by_cases tr : m.1 (pq p 11) = 0
    · rw [decide_eq_true tr, br_tq, br_tq, lit1q, show (4 : Int32) = I 4 from rfl, e_make, bnd_so, term_e, bnd_so, ← lit1q, dec_lg0 n34, br_fq, show decide (I 0 = 0) = true from rfl, br_tq, br_fq]
      unfold hb_Wl_signal_43 hb_Wl_signal_59 hb_Wl_signal_70 hb_Wl_signal_121
      rw [show decide ((0 : Int32) = 0) = true from rfl, br_tq, show decide ((none : Option Nat) = none) = true from rfl, br_tq, endsW_e (e := e) hal he.1 he.2, bnd_so, willE_e (e := e') (by omega) h9 he'.1 he'.2 (by omega), bnd_so]
      exact pp_end (Or.inr ⟨rfl, rfl⟩)
    · rw [decide_eq_false tr, br_fq, br_fq]
      exact pp_bb (pp_mo (wl_lit (a := 4) (sort := 0) (v4 := 0) (Or.inr (Or.inl ⟨rfl, rfl⟩)) W0 hp hal hq n1 n6 hP hP' ⟨by omega, by omega⟩ hN) (fun m2 _ w2 _ h => pp_end (Or.inl ⟨h.1, h.2.1⟩)))
  have hpq := pp_pr (pp_pl raw (pk_ok (signalc_ok (N := N) (x := ((q : Nat) : Int)) d cx hp ⟨by omega, by omega⟩ (src := none) (fun _ => Or.inl ⟨rfl, n1, hP⟩) (fun _ jx ej hj => by cases ej) (by omega)))) (pk_ok (signal_ok (N := N) (p := q) dw hp hq pb (show 0 ≤ (0 : Int) ∧ (0 : Int) ≤ 2 by omega) (show q ≤ 24 by omega) (Or.inl ⟨n1, hP'⟩) (by omega)))
  refine pp_mo hpq (fun m2 _ w2 _ h => ?_)
  obtain ⟨⟨h | ⟨rfl, rfl⟩, ⟨dc2, wf, st⟩, e956⟩, dw2, ev, kp⟩ := h
  · exact h
  · have sf2 : SFs Fv P Fv' P' PR (enS m p (mk 1 3) p e) (enR w p 0 ((q : Nat) : Int) (mk 1 3) e') := ⟨⟨dc2, CTX_fr cx (wf.2.1 22 (by omega) (by simp)) (wf.2.2.2.1 3 (by omega) (by simp))⟩, ⟨dw2, LK_fr lk ev.1 (by simp) (by simp), WTQ_fr wt ev.1 (by simp) (by simp) (by simp)⟩, pb⟩
    have v := enS_v (m := m) (q := p) (t := mk 1 3) (hm := p) (e := e)
    have a9 := enR_9 (w := w) (q := p) (wr := 0) (o := q) (x := mk 1 3) (e := e')
    refine (fun h => ⟨h.1, h.2.1⟩) (wl_end W0 hp ⟨hal, h9⟩ (fun c => by cases c) FR.rf XMr.rf he he' pl.1.2.2 ⟨by omega, by omega⟩ (by omega) sf2 ⟨p, 0, by rw [v.2.1]; exact rf_some (by omega), hp, v.1, Or.inr ⟨hq, by rw [a9, if_neg qp]; exact hqd'⟩, ?_, Or.inl ⟨n1, hP'⟩⟩)
    rw [v.2.2]
    exact SRs_lit n1 n6 hP hP' (by omega) (by omega)
end
section
variable {w : MS} {p W j : Nat} {x : Int64}
theorem zp_put (h : A w 92 p = ((W + 1 : Nat) : Int)) : wa (wj (wa w 92 p ((W : Nat) : Int)) 91 (46000 * p + W) x) 92 p ((W + 1 : Nat) : Int) = Zp p W x w := by
  refine Prod.ext rfl (Prod.ext rfl (Prod.ext (funext (fun K => ?_)) rfl))
  by_cases c : K = 92
  · subst c
    funext k
    show (wa (wj (wa w 92 p ((W : Nat) : Int)) 91 (46000 * p + W) x) 92 p ((W + 1 : Nat) : Int)).2.2.1 92 k = w.2.2.1 92 k
    by_cases ck' : k = p
    · subst ck'
      rw [wa_s1]
      exact (I_A' h).symm
    · rw [wa_at (fun z => ck' z.2)]
      show (wa w 92 p ((W : Nat) : Int)).2.2.1 92 k = _
      rw [wa_at (fun z => ck' z.2)]
  · rw [wa_21 c]
    show (wa w 92 p ((W : Nat) : Int)).2.2.1 K = w.2.2.1 K
    rw [wa_21 c]
theorem FGw_zp (hW : W < 46000) : FGw p j w (Zp p W x w) := FGw.w91 hW
end
section
variable {α β : Type} {b : Int → Nat → Nat → Prop} {Fv Fv' : Int64 → Int64 → Prop} {P P' : Int64 → Prop} {N PR p i j0 j U B W Y a n l : Nat} {m2 w3 : MS} {x : Int64} {nb : Nat → Nat} {Hs Os : Nat → List Nat} {y : Option (Nat × Nat × Nat)} {Q : MS → α → MS → β → Prop} {K1 : MS → Option (MS × α)} {K2 : MS → Option (MS × β)}
theorem wans (hpp : p < PR) (W2 : WLs (RRx p (RUv p j nb Hs Os y a (n + 1) B (W + 1) l)) PR Fv P Fv' P' none i j0 m2 w3) (hW : W + 1 ≤ 46000) (hl2 : W + 1 ≤ l ∧ l ≤ 1000000) (f26 : F m2 (pq p 26) = ((W + 1 : Nat) : Int)) (f45 : F m2 (pq p 45) = ((l : Nat) : Int)) (f05 : F m2 1105 = ((a : Nat) : Int)) (f09 : F m2 1109 = 0) (g33 : F w3 133 = ((p : Nat) : Int)) (ha : a + 2 < 24000) (n1 : ¬ isH x) (n6 : so x = 6 → va x = 0) (cr : ∃ f, CRs (A m2 23) (ROs w3) (w3.2.2.2 34) f y (a + 2) (n + 1) (Hs j) (Os j))
    (kA : ∀ b3 U3 Y3 m3 w4, (SFs Fv P Fv' P' PR m3 w4 → WLs (RRp p) PR Fv P Fv' P' none i j0 m3 w4) → PLs b3 p m3 w4 U3 B (W + 1) Y3 → RUs m3 w4 p j nb Hs Os y (a + 2) (n + 1) → FGm p m2 m3 → FGw p j w3 w4 → PP Q (K1 m3) (K2 w4))
    (kD : ∀ m3 w4, (SFs Fv P Fv' P' PR m3 w4 → WLs (RRt p) PR Fv P Fv' P' none i j0 m3 w4) → F m3 (pq p 9) = 3 → A w4 109 p = 3 → FGm p m2 m3 → FGw p j w3 w4 → (F m3 1109 = 0 ∧ F w4 133 = ((p : Nat) : Int)) → PP Q (K1 m3) (K2 w4)) : PP Q (bnd (hb_Ma_toward_335 N () m2 p 1 x) (fun u _ => K1 u)) (K2 (Zp p W x w3)) := by
  have p24 : PR ≤ 24 := W2.1.2.1.1.1.2
  unfold hb_Ma_toward_335 hm_Ma_answer hb_Ma_answer_0
  rw [show (1 : Int32) = I 1 from rfl, drop_e (W := W + 1) (k := 1) (x := 1) f26 rfl (by omega), bnd_so, Nat.add_sub_cancel]
  refine l_bb (l_bb ?_)
  have e26' : F (wi m2 (pq p 26) ((W : Nat) : Int)) (pq p 26) = ((W : Nat) : Int) := wi_sm (by omega) (by omega)
  have e45' : F (wi m2 (pq p 26) ((W : Nat) : Int)) (pq p 45) = ((l : Nat) : Int) := by rw [wi_ne (pq_inj (by omega))]; exact f45
  refine l_bnd (pk_mo (push_m (N := N) (t := x) e26' e45' (by omega) hl2.2) (fun m8 _ h => ?_))
  obtain ⟨z1, z2, z3⟩ := h
  have h05 : F m8 1105 = ((a : Nat) : Int) := by rw [FR.F z1 (by simp [pq_n]), wi_ne (pq_n (by omega))]; exact f05
  rw [bnd_so, I_F' h05, show I ((a : Nat) : Int) + 2 = I ((a + 2 : Nat) : Int) from addN, wi_e]
  show PP Q (K1 (wi m8 1105 ((a + 2 : Nat) : Int))) (K2 (Zp p W x w3))
  have fm3 : FGm p m2 (wi m8 1105 ((a + 2 : Nat) : Int)) := FGm.tr (FGm.tr FGm.drop (FGm.push z1)) FGm.pc
  have fw3 : FGw p j w3 (Zp p W x w3) := FGw_zp (by omega)
  have rv0 : ∀ b' U' Y' B' W', PLs b' p m2 w3 U' B' W' Y' → W' = W + 1 := fun b' U' Y' B' W' pl' => by
    have h1 := pl'.2.2.1.1
    rw [f26] at h1
    omega
  rcases W2.2.2.1 p hpp with ⟨x1, x2, b', U', B', W', Y', pl', sc', rr⟩ | ⟨x1, x2, -⟩
  · have rv : RUv p j nb Hs Os y a (n + 1) B (W + 1) l m2 w3 := by
      rcases rr with ⟨-, rr⟩ | ⟨c, -⟩
      · exact rr
      · exact absurd rfl c
    have hj : j < 60 := rv.1.1.1.1.2.2
    have eW : W' = W + 1 := rv0 _ _ _ _ _ pl'
    have eB : B' = B := by
      have h1 := pl'.2.1.1
      have h2 := rv.2.2.1
      omega
    subst eW eB
    have pl3 := PLs_pc (z := ((a + 2 : Nat) : Int)) (PLs_push (x := x) (PLs_drop (k := 1) (W := W) pl' (by omega)) (RTb_lit n1 n6) z1 z2 z3)
    rw [zp_put pl'.2.2.1.2.1] at pl3
    obtain ⟨q1, ⟨q5, q6⟩, q7, ⟨q8, q9, q10⟩, q11, q12, q13⟩ := rv.1
    have ru3 := RUs_mk (a2 := a + 2) (n2 := n + 1) q1 q5 q6 q7 q8 q9 q10 q11 q12 q13 fm3 fw3 (wi_sm (by omega) (by omega)) rv.2.1.2 cr
    exact kA b' U' Y' _ _ (fun s3 => WL_own (WL_vt W2) hpp x1 x2 s3 (GGm_fg fm3) (GGw_fg fw3 hj) pl3 (SC_fg sc' fm3 fw3) ru3) pl3 ru3 fm3 fw3
  · refine kD _ _ (fun s3 => WL_gone (fun _ _ _ _ _ h h1 h2 => RRt_st h h1 h2) (WL_vt W2) s3 x1 x2 (by omega) (FR.wi (FR.tr (FR.wi FR.rf (by simp)) (FR.mo z1 (by simp) (by simp) (by simp) (by simp))) (by simp)) ⟨fun _ _ => rfl, fun _ _ => rfl, fun _ _ => rfl, fun K h => if_neg (by simpa using h)⟩ (fun k _ => rfl) (fun k _ => rfl) (fun k hk => fw3.2.2.2.2.1 k hk)) ?_ x2 fm3 fw3 ⟨?_, g33⟩
    · show ((wi m8 1105 ((a + 2 : Nat) : Int)).1 (pq p 9)).toInt = _
      rw [wi_1 (fun c => pq_n (by omega) c.symm), z1.1 _ (by simp; exact ⟨pq_inj (by omega), pq_inj (by omega)⟩), wi_1 (pq_inj (by omega))]
      exact x1
    · rw [wi_ne (by omega), FR.F z1 (by simp [pq_n]), wi_ne (pq_n (by omega))]
      exact f09
end
end
section
set_option maxRecDepth 100000
section
variable {α β : Type} {b : Int → Nat → Nat → Prop} {Fv Fv' : Int64 → Int64 → Prop} {P P' : Int64 → Prop} {N PR q p i j0 j U B W Y a n l : Nat} {m w w1 : MS} {nb : Nat → Nat} {Hs Os : Nat → List Nat} {y : Option (Nat × Nat × Nat)} {Q : MS → α → MS → β → Prop} {K1 : MS → Option (MS × α)} {K2 : MS → Option (MS × β)}
theorem tru_1 : fm_M_truth N w 1 = some (w, mk 1 0) := rfl
theorem dead_w (wl : WLs (RRp p) PR Fv P Fv' P' none i j0 m w) (hq : q < PR) (dead : F m (pq q 9) = 3) : A w 109 q = 3 := by
  rcases wl.2.2.1 q hq with h | h
  · exact absurd dead h.1
  · exact h.2.1
theorem op_linkE (hpp : p < PR) (hq : q < PR) (dead : F m (pq q 9) = 3) (wl : WLs (RRp p) PR Fv P Fv' P' none i j0 m w) (ru : RUs m w p j nb Hs Os y a n) (sc : SCs p m w) (hW : W + 1 ≤ 46000) (hl : F m (pq p 45) = ((l : Nat) : Int)) (hl2 : W + 1 ≤ l ∧ l ≤ 1000000) (pl : PLs b p m w1 U B (W + 1) Y) (e4 : so (m.2.2.2 (pq p 35) W) = 4) (g1 : FGw p j w w1) (h98 : A w1 98 (60 * p + j) = ((n + 1 : Nat) : Int)) (sf1 : SFs Fv P Fv' P' PR m w1) (cr : ∃ f, CRs (A m 23) (ROs w) (w.2.2.2 34) f y (a + 2) (n + 1) (Hs j) (Os j)) (hN : 3000000 ≤ N)
    (kA : ∀ b3 U3 Y3 m3 w3, (SFs Fv P Fv' P' PR m3 w3 → WLs (RRp p) PR Fv P Fv' P' none i j0 m3 w3) → PLs b3 p m3 w3 U3 B (W + 1) Y3 → RUs m3 w3 p j nb Hs Os y (a + 2) (n + 1) → WOs m w m3 w3 → PP Q (K1 m3) (K2 w3))
    (kD : ∀ m3 w3, (SFs Fv P Fv' P' PR m3 w3 → WLs (RRt p) PR Fv P Fv' P' none i j0 m3 w3) → F m3 (pq p 9) = 3 → A w3 109 p = 3 → WOs m w m3 w3 → (F m3 1109 = 0 ∧ F w3 133 = ((p : Nat) : Int)) → PP Q (K1 m3) (K2 w3)) : PP Q (bnd (hb_Ma_toward_95 N () m p (I 2) 1 (some q)) (fun u _ => K1 u)) (bnd (fb_M_processRun_151 N () w1 (I 2) 0 (I ((q : Nat) : Int)) 92 (I ((p : Nat) : Int)) (I ((W + 1 : Nat) : Int)) 1) (fun u _ => K2 u)) := by
  obtain ⟨⟨fa, ct⟩, ⟨r2, r3⟩, -, ⟨r5, r6⟩, r7, ⟨r8, r9, r10⟩, r11, r12, r13⟩ := id ru
  have hj : j < 60 := fa.1.2.2
  have p24 : PR ≤ 24 := wl.1.2.1.1.1.2
  have cb2 : a + 2 + 1 < 24000 := by
    obtain ⟨f9, cr9⟩ := cr
    exact (CR_b cr9).1
  have hal : F m (pq p 9) ≠ 3 := by rw [r5]; omega
  have hal' : A w 109 p ≠ 3 := by rw [r6]; omega
  have a9 : A w1 109 p ≠ 3 := by rw [FR.A g1.1 (by simp)]; exact hal'
  have dw : A w1 109 q = 3 := by rw [FR.A g1.1 (by simp)]; exact dead_w wl hq dead
  have x33 : F w1 133 = ((p : Nat) : Int) := by rw [FR.F g1.1 (by simp)]; exact r11
  have W1 : WLs (RRt p) PR Fv P Fv' P' none i j0 m w1 := WL_ownt (WL_t wl) hpp hal hal' sf1 GGm.rf (GGw_fg g1 hj) pl (SC_fg sc FGm.rf g1) ⟨hal, a9⟩
  have rb1 : RUb m w1 p j nb Hs Os y := RUb_fg (RUs_b ru) FGm.rf g1
  have Wv := WL_tv (l := l) W1 (⟨rb1, ⟨r2, h98⟩, pl.2.1.1, pl.2.2.1.1, hl⟩ : RUv p j nb Hs Os y a (n + 1) B (W + 1) l m w1)
  have ws := wl_sgl (N := N) Wv hpp hal hq dead dw hN
  have n1 : ¬ isH (mk 1 0) := nh_mk (by omega)
  have n6 : so (mk 1 0) = 6 → va (mk 1 0) = 0 := fun c => by rw [so_mk (by omega) (by omega)] at c; omega
  have rt := pl.2.2.1.2.2 W (by omega)
  have nx : ¬ isH (w1.2.2.2 91 (46000 * p + W)) := fun c => by
    have := (RTb_isH rt).mp c
    unfold isH at this
    omega
  have x92 : A (wa w1 92 p ((W : Nat) : Int)) 92 p = ((W : Nat) : Int) := wa_sm (by omega) (by omega)
  have y33 : F (wa w1 92 p ((W : Nat) : Int)) 133 = ((p : Nat) : Int) := x33
  rw [tw95_2, prr_2, sub1, tnI (n := p) rfl (by omega), wa_e, I_F' dead, show decide (I 3 = 3) = true from rfl, br_tq, oI]
  refine rb_ck (fun _ => rb_ck (fun _ => ?_))
  rw [lt_e, tru_1, bnd_so]
  refine l_bb (r_bb ?_)
  refine r_bnd (pk_mo (put_r (N := N) (x := mk 1 0) (W := W) (by omega) y33 x92 (by omega)) (fun w8 _ e => ?_))
  subst e
  rw [zp_put pl.2.2.1.2.1]
  refine rb_ck (fun _ => ?_)
  have z109 : (Zp p W (mk 1 0) w1).2.2.1 109 q = I 3 := I_A' dw
  have z133 : (Zp p W (mk 1 0) w1).1 133 = I ((p : Nat) : Int) := I_F' x33
  rw [tnI (n := q) rfl (by omega), z109, show decide (I 3 = 3) = true from rfl, br_tq, show fm_M_term N (Zp p W (mk 1 0) w1) 1 3 = some (Zp p W (mk 1 0) w1, mk 1 3) from rfl, bnd_so, z133]
  refine r_bb ?_
  refine pp_bb (fun m2 _ w4 _ e1 e2 => ?_)
  obtain ⟨w3, e3, rfl, -⟩ := zc_fm_M_signal (N := N) (p := p) (W := W) (x := mk 1 0) (u := w1) ⟨n1, nx⟩ rfl rfl rfl rfl rfl w4 () e2
  obtain ⟨W2, mv⟩ := ws m2 () w3 () e1 e3
  have ka : Kwac m m2 := ywa_hm_Wl_signal Kwa_rf m2 () e1
  have kb : Kwbc w1 w3 := ywb_fm_M_signal Kwb_rf w3 () e3
  have kc : Kwcc m m2 := ywc_hm_Wl_signal Kwc_rf m2 () e1
  have f26 : F m2 (pq p 26) = ((W + 1 : Nat) : Int) := (congrArg Int32.toInt (kc (pq p 26) ⟨by unfold pq; omega, by unfold pq; omega⟩)).trans pl.2.2.1.1
  have f45 : F m2 (pq p 45) = ((l : Nat) : Int) := (congrArg Int32.toInt (kc (pq p 45) ⟨by unfold pq; omega, by unfold pq; omega⟩)).trans hl
  have g33 : F w3 133 = ((p : Nat) : Int) := (congrArg Int32.toInt (mv.1.2.2 133 (by omega))).trans x33
  have f05 : F m2 1105 = ((a : Nat) : Int) := (congrArg Int32.toInt (mv.1.2.1 1105 (by omega) (by omega)).1).trans r2
  have f09 : F m2 1109 = 0 := (congrArg Int32.toInt (mv.1.2.1 1109 (by omega) (by omega)).1).trans r9
  have h23 : A m2 23 = A m 23 := by funext k; show (m2.2.2.1 23 k).toInt = _; rw [mv.1.1.1.1]; rfl
  have hRO : ROs w3 = ROs w := (ROs_eq mv.1.1.2.1).trans (ROs_eq (GGw_fg g1 hj).2.1.1)
  have h34 : w3.2.2.2 34 = w.2.2.2 34 := mv.1.1.2.2.1.trans (GGw_fg g1 hj).2.1.2.1
  have wo1 : WOs m w m w1 := WOs_gg GGm.rf (GGw_fg g1 hj)
  have wo2 : WOs m w1 m2 w3 := ⟨ka, kb, mv.2.2.2.1, mv.2.2.2.2.1, mv.2.2.2.2.2.1, (mv.1.2.1 1106 (by omega) (by omega)).1, mv.1.2.2 165 (by omega)⟩
  exact wans (K1 := K1) (K2 := K2) hpp W2 hW hl2 f26 f45 f05 f09 g33 (by omega) n1 n6 (by rw [h23, hRO, h34]; exact cr) (fun b3 U3 Y3 m3 w4 s1 s2 s3 s4 s5 => kA b3 U3 Y3 m3 w4 s1 s2 s3 (WOs.tr (WOs.tr wo1 wo2) (WOs_gg (GGm_fg s4) (GGw_fg s5 hj)))) (fun m3 w4 s1 s2 s3 s4 s5 s6 => kD m3 w4 s1 s2 s3 (WOs.tr (WOs.tr wo1 wo2) (WOs_gg (GGm_fg s4) (GGw_fg s5 hj))) s6)
theorem op_watchE (hpp : p < PR) (hq : q < PR) (dead : F m (pq q 9) = 3) (wl : WLs (RRp p) PR Fv P Fv' P' none i j0 m w) (hc : m.1 945 = w.1 121) (ru : RUs m w p j nb Hs Os y a n) (sc : SCs p m w) (hW : W + 1 ≤ 46000) (hl : F m (pq p 45) = ((l : Nat) : Int)) (hl2 : W + 1 ≤ l ∧ l ≤ 1000000) (pl : PLs b p m w1 U B (W + 1) Y) (e4 : so (m.2.2.2 (pq p 35) W) = 4) (g1 : FGw p j w w1) (h98 : A w1 98 (60 * p + j) = ((n + 1 : Nat) : Int)) (sf1 : SFs Fv P Fv' P' PR m w1) (cr : ∃ f, CRs (A m 23) (ROs w) (w.2.2.2 34) f y (a + 2) (n + 1) (Hs j) (Os j)) (hN : 3000000 ≤ N)
    (kA : ∀ b3 U3 Y3 m3 w3, (SFs Fv P Fv' P' PR m3 w3 → WLs (RRp p) PR Fv P Fv' P' none i j0 m3 w3) → PLs b3 p m3 w3 U3 B (W + 1) Y3 → RUs m3 w3 p j nb Hs Os y (a + 2) (n + 1) → WOs (wi m 945 (F m 945 + 1)) (wi w 121 (F m 945 + 1)) m3 w3 → PP Q (K1 m3) (K2 w3))
    (kD : ∀ m3 w3, (SFs Fv P Fv' P' PR m3 w3 → WLs (RRt p) PR Fv P Fv' P' none i j0 m3 w3) → F m3 (pq p 9) = 3 → A w3 109 p = 3 → WOs (wi m 945 (F m 945 + 1)) (wi w 121 (F m 945 + 1)) m3 w3 → (F m3 1109 = 0 ∧ F w3 133 = ((p : Nat) : Int)) → PP Q (K1 m3) (K2 w3)) : PP Q (bnd (hb_Ma_toward_95 N () m p (I 4) 1 (some q)) (fun u _ => K1 u)) (bnd (fb_M_processRun_151 N () w1 (I 4) 0 (I ((q : Nat) : Int)) 92 (I ((p : Nat) : Int)) (I ((W + 1 : Nat) : Int)) 1) (fun u _ => K2 u)) := by
  obtain ⟨⟨fa, ct⟩, ⟨r2, r3⟩, -, ⟨r5, r6⟩, r7, ⟨r8, r9, r10⟩, r11, r12, r13⟩ := id ru
  have hj : j < 60 := fa.1.2.2
  have p24 : PR ≤ 24 := wl.1.2.1.1.1.2
  have cb2 : a + 2 + 1 < 24000 := by
    obtain ⟨f9, cr9⟩ := cr
    exact (CR_b cr9).1
  have hal : F m (pq p 9) ≠ 3 := by rw [r5]; omega
  have hal' : A w 109 p ≠ 3 := by rw [r6]; omega
  have a9 : A w1 109 p ≠ 3 := by rw [FR.A g1.1 (by simp)]; exact hal'
  have dw : A w1 109 q = 3 := by rw [FR.A g1.1 (by simp)]; exact dead_w wl hq dead
  have x33 : F w1 133 = ((p : Nat) : Int) := by rw [FR.F g1.1 (by simp)]; exact r11
  have W1 : WLs (RRt p) PR Fv P Fv' P' none i j0 m w1 := WL_ownt (WL_t wl) hpp hal hal' sf1 GGm.rf (GGw_fg g1 hj) pl (SC_fg sc FGm.rf g1) ⟨hal, a9⟩
  have rb1 : RUb m w1 p j nb Hs Os y := RUb_fg (RUs_b ru) FGm.rf g1
  have r945 := F_r m 945
  have i1 : ∀ (u : MS) (k : Nat), u.1 k + 1 = I (F u k + 1) := fun u k => by rw [I_F (k := k), lit1q, I_add]
  have x21 : w1.1 121 = m.1 945 := by rw [g1.1.1 121 (by simp)]; exact hc.symm
  have f21 : F w1 121 = F m 945 := congrArg Int32.toInt x21
  generalize hz : F m 945 + 1 = z at kA kD
  have qm : ∀ k, (wi m 945 z).1 (pq p k) = m.1 (pq p k) := fun k => wi_1 (fun c => pq_n (by omega) c.symm)
  have rb2 : RUb (wi m 945 z) (wi w1 121 z) p j nb Hs Os y := RUb_st rb1 ⟨fun k _ _ => qm k, fun _ _ _ => rfl, fun _ _ _ => rfl, rfl⟩ ⟨fun _ _ _ _ _ => rfl, rfl, fun _ _ => rfl, rfl⟩ ⟨⟨⟨rfl, wi_1 (by omega), rfl⟩, fun _ _ => rfl, rfl, rfl, rfl, wi_1 (by omega)⟩, fun k h1 h2 => ⟨wi_1 (by omega), rfl⟩, fun k h => wi_1 (by omega)⟩
  have W1' : WLs (RRt p) PR Fv P Fv' P' none i j0 (wi m 945 z) (wi w1 121 z) := WL_gl W1
  have pl2 : PLs b p (wi m 945 z) (wi w1 121 z) U B (W + 1) Y := PLs_gl pl
  have r2' : F (wi m 945 z) 1105 = ((a : Nat) : Int) := by rw [wi_ne (by omega)]; exact r2
  have r9' : F (wi m 945 z) 1109 = 0 := by rw [wi_ne (by omega)]; exact r9
  have hl' : F (wi m 945 z) (pq p 45) = ((l : Nat) : Int) := (congrArg Int32.toInt (qm 45)).trans hl
  have hal2 : F (wi m 945 z) (pq p 9) ≠ 3 := by rw [show F (wi m 945 z) (pq p 9) = F m (pq p 9) from congrArg Int32.toInt (qm 9)]; exact hal
  have Wv := WL_tv (l := l) W1' (⟨rb2, ⟨r2', h98⟩, pl2.2.1.1, pl2.2.2.1.1, hl'⟩ : RUv p j nb Hs Os y a (n + 1) B (W + 1) l (wi m 945 z) (wi w1 121 z))
  have cx := W1.1.1.2
  have pb := W1.1.2.2
  have ws := wl_lit (N := N) (a := 5) (sort := 1) (q := q) (v4 := F m 945) (t := mk 1 3) (Or.inr (Or.inr ⟨rfl, rfl⟩)) Wv hpp hal2 hq (nh_mk (by omega)) (fun c => by rw [so_mk (by omega) (by omega)] at c; omega) (cx.2.2.2.2.2.1 3 (by omega) (by have := cx.2.2.2.1; omega)) (pb.1 3 (by omega) (by omega)) r945 hN
  have n1 : ¬ isH (mk 2 (F m 945)) := nh_mk (by omega)
  have n6 : so (mk 2 (F m 945)) = 6 → va (mk 2 (F m 945)) = 0 := fun c => by rw [so_mk (by omega) (by omega)] at c; omega
  have rt := pl.2.2.1.2.2 W (by omega)
  have nx : ¬ isH (w1.2.2.2 91 (46000 * p + W)) := fun c => by
    have := (RTb_isH rt).mp c
    unfold isH at this
    omega
  have fal : decide (((wi m 945 z).1 (pq q 9)) = I 3) = true := by
    rw [wi_1 (fun c => pq_n (by omega) c.symm), I_F' dead]
    rfl
  rw [tw95_4, prr_4, sub1, tnI (n := p) rfl (by omega), wa_e, wat_e, i1 m 945, hz, wi_e, lt_e, oI, oI, show (3 : Int32) = I 3 from rfl, fal, br_tq]
  refine rb_ck (fun _ => rb_ck (fun _ => ?_))
  rw [lt_e, i1 (wa w1 92 p ((W : Nat) : Int)) 121, show F (wa w1 92 p ((W : Nat) : Int)) 121 = F m 945 from f21, hz, wi_e, lt_e, show (wa w1 92 p ((W : Nat) : Int)).1 121 = m.1 945 from x21, I_F (w := m) (k := 945), show (2 : Int32) = I 2 from rfl, term_e, bnd_so, show hm_Ma_atom N (wi m 945 z) (I 3) = some (wi m 945 z, mk 1 3) from rfl, bnd_so]
  refine l_bb (l_bb (r_bb ?_))
  have y33 : F (wi (wa w1 92 p ((W : Nat) : Int)) 121 z) 133 = ((p : Nat) : Int) := by rw [wi_ne (by omega)]; exact x33
  have x92 : A (wi (wa w1 92 p ((W : Nat) : Int)) 121 z) 92 p = ((W : Nat) : Int) := wa_sm (u := w1) (by omega) (by omega)
  refine r_bnd (pk_mo (put_r (N := N) (x := mk 2 (F m 945)) (W := W) (by omega) y33 x92 (by omega)) (fun w8 _ e => ?_))
  subst e
  have zz : wa (wj (wi (wa w1 92 p ((W : Nat) : Int)) 121 z) 91 (46000 * p + W) (mk 2 (F m 945))) 92 p ((W + 1 : Nat) : Int) = Zp p W (mk 2 (F m 945)) (wi w1 121 z) := zp_put (w := wi w1 121 z) pl.2.2.1.2.1
  rw [zz]
  refine rb_ck (fun _ => ?_)
  have z109 : (Zp p W (mk 2 (F m 945)) (wi w1 121 z)).2.2.1 109 q = I 3 := I_A' dw
  have z133' : (wi w1 121 z).1 133 = I ((p : Nat) : Int) := by rw [wi_1 (by omega)]; exact I_F' x33
  have z133 : (Zp p W (mk 2 (F m 945)) (wi w1 121 z)).1 133 = I ((p : Nat) : Int) := z133'
  rw [tnI (n := q) rfl (by omega), z109, show decide (I 3 = I 3) = true from rfl, br_tq, show fm_M_term N (Zp p W (mk 2 (F m 945)) (wi w1 121 z)) 1 (I 3) = some (Zp p W (mk 2 (F m 945)) (wi w1 121 z), mk 1 3) from rfl, bnd_so, z133]
  refine r_bb ?_
  refine pp_bb (fun m2 _ w4 _ e1 e2 => ?_)
  obtain ⟨w3, e3, rfl, -⟩ := zc_fm_M_message (N := N) (p := p) (W := W) (x := mk 2 (F m 945)) (u := wi w1 121 z) ⟨n1, nx⟩ rfl rfl rfl rfl rfl rfl rfl w4 () e2
  obtain ⟨W2, mv, -⟩ := ws m2 () w3 () e1 e3
  have ka : Kwac (wi m 945 z) m2 := ywa_hm_Wl_post Kwa_rf m2 () e1
  have kb : Kwbc (wi w1 121 z) w3 := ywb_fm_M_message Kwb_rf w3 () e3
  have kc : Kwcc (wi m 945 z) m2 := ywc_hm_Wl_post Kwc_rf m2 () e1
  have f26 : F m2 (pq p 26) = ((W + 1 : Nat) : Int) := (congrArg Int32.toInt (kc (pq p 26) ⟨by unfold pq; omega, by unfold pq; omega⟩)).trans pl2.2.2.1.1
  have f45 : F m2 (pq p 45) = ((l : Nat) : Int) := (congrArg Int32.toInt (kc (pq p 45) ⟨by unfold pq; omega, by unfold pq; omega⟩)).trans hl'
  have g33 : F w3 133 = ((p : Nat) : Int) := (congrArg Int32.toInt (mv.1.2.2 133 (by omega))).trans (by rw [z133']; exact I_ti (by omega) (by omega))
  have f05 : F m2 1105 = ((a : Nat) : Int) := (congrArg Int32.toInt (mv.1.2.1 1105 (by omega) (by omega)).1).trans r2'
  have f09 : F m2 1109 = 0 := (congrArg Int32.toInt (mv.1.2.1 1109 (by omega) (by omega)).1).trans r9'
  have h23 : A m2 23 = A m 23 := by funext k; show (m2.2.2.1 23 k).toInt = _; rw [mv.1.1.1.1]; rfl
  have hRO : ROs w3 = ROs w := (ROs_eq mv.1.1.2.1).trans (ROs_eq (GGw_fg g1 hj).2.1.1)
  have h34 : w3.2.2.2 34 = w.2.2.2 34 := mv.1.1.2.2.1.trans (GGw_fg g1 hj).2.1.2.1
  have gA : FGw p j (wi w 121 z) (wi w1 121 z) := FGw_sw g1
  have wo1 : WOs (wi m 945 z) (wi w 121 z) (wi m 945 z) (wi w1 121 z) := WOs_gg GGm.rf (GGw_fg gA hj)
  have wo2 : WOs (wi m 945 z) (wi w1 121 z) m2 w3 := ⟨ka, kb, mv.2.2.2.1, mv.2.2.2.2.1, mv.2.2.2.2.2.1, (mv.1.2.1 1106 (by omega) (by omega)).1, mv.1.2.2 165 (by omega)⟩
  rw [e_make, bnd_so]
  simp only [bnd_so]
  exact wans (K1 := K1) (K2 := K2) hpp W2 hW hl2 f26 f45 f05 f09 g33 (by omega) n1 n6 (by rw [h23, hRO, h34]; exact cr) (fun b3 U3 Y3 m3 w4 s1 s2 s3 s4 s5 => kA b3 U3 Y3 m3 w4 s1 s2 s3 (WOs.tr (WOs.tr wo1 wo2) (WOs_gg (GGm_fg s4) (GGw_fg s5 hj)))) (fun m3 w4 s1 s2 s3 s4 s5 s6 => kD m3 w4 s1 s2 s3 (WOs.tr (WOs.tr wo1 wo2) (WOs_gg (GGm_fg s4) (GGw_fg s5 hj))) s6)
end
end
section
set_option maxRecDepth 100000
section
variable {b : Int → Nat → Nat → Prop} {Fv Fv' : Int64 → Int64 → Prop} {P P' P2 : Int64 → Prop} {N PR q r p i j jj U B W Y a n : Nat} {m w m2 w2 : MS} {nb : Nat → Nat} {Hs Os : Nat → List Nat} {y : Option (Nat × Nat × Nat)}
theorem RZs_st2 (h : RZs m w r) (pg : PG0 m w m2 w2) (h1 : m2.1 (pq r 17) = m.1 (pq r 17)) (h2 : m2.2.1 (pq r 16) = m.2.1 (pq r 16)) (h3 : ∀ d, rf (m.1 (pq r 17)) = some d → F m (pq d 9) = 3 → F m2 (pq d 9) = 3 ∧ m2.2.2.2 (pq d 2) = m.2.2.2 (pq d 2)) (h4 : w2.2.2.1 132 r = w.2.2.1 132 r) (h5 : ∀ i, 100 * r ≤ i → i < 100 * r + 100 → w2.2.2.1 131 i = w.2.2.1 131 i) : RZs m2 w2 r := by
  obtain ⟨hm, k, z, g1, g2, g3, g4, g5, g6, g7⟩ := h
  obtain ⟨⟨-, p2, p3⟩, -⟩ := pg
  have e22 : F m2 22 = F m 22 := congrArg Int32.toInt p2
  have hh := h3 hm g1 g3
  refine ⟨hm, k, z, by rw [h1]; exact g1, g2, hh.1, by rw [hh.2, e22, h2]; exact g4, g5, ?_, fun i hi => ?_⟩
  · show (w2.2.2.1 132 r).toInt = _
    rw [h4, hh.2, h2, p3]
    exact g6
  · rw [hh.2, h2, p3] at hi ⊢
    rw [h5 _ (by omega) (by omega)]
    exact g7 i hi
theorem DEs_st2 (h : DEs m w r) (pg : PG0 m w m2 w2) (h1 : LOCm r m m2) (h2 : LOCw r w w2) (h3 : ∀ d, rf (m.1 (pq r 17)) = some d → F m (pq d 9) = 3 → F m2 (pq d 9) = 3 ∧ m2.2.2.2 (pq d 2) = m.2.2.2 (pq d 2)) : DEs m2 w2 r := by
  obtain ⟨a1, a2, a3, ⟨a4, a5⟩, a6, a7, a8, a9⟩ := h
  refine ⟨by show (m2.1 (pq r 9)).toInt = _; rw [(h1 9 (by omega)).1]; exact a1, by show (w2.2.2.1 109 r).toInt = _; rw [h2.1 109 r (Or.inl ⟨by omega, rfl⟩)]; exact a2, RZs_st2 a3 pg (h1 17 (by omega)).1 (h1 16 (by omega)).2.1 h3 (h2.2.1 132 (by omega)) h2.2.2.1, ⟨by rw [(h1 12 (by omega)).1]; exact a4, by rw [h2.1 113 r (Or.inl ⟨by omega, rfl⟩)]; exact a5⟩, by rw [(h1 13 (by omega)).1, h2.1 114 r (Or.inl ⟨by omega, rfl⟩)]; exact a6, by rw [(h1 5 (by omega)).1, h2.2.1 90 (by omega)]; exact a7, by show (m2.1 (pq r 15)).toInt = _; rw [(h1 15 (by omega)).1]; exact a8, by show (w2.2.2.1 117 r).toInt = _; rw [h2.1 117 r (Or.inl ⟨by omega, rfl⟩)]; exact a9⟩
theorem WL_new (wl : WLs (RRt p) PR Fv P Fv' P' none i j m w) (hal : F m (pq p 9) ≠ 3) (hq : F m 955 = ((i : Nat) : Int)) (s2 : SFs Fv P Fv' P2 (PR + 1) m2 w2) (D : ∀ d, d ≠ p → d ≠ PR → LOCm d m m2 ∧ LOCw d w w2) (pg : PG0 m w m2 w2) (e1 : F m2 955 = F m 955) (e2 : F w2 150 = F w 150) (pl : PLs b p m2 w2 U B W Y) (sc2 : SCs p m2 w2) (ru : RUs m2 w2 p jj nb Hs Os y a n) (hpp : p < PR) (n9 : F m2 (pq PR 9) ≠ 3 ∧ A w2 109 PR ≠ 3) (nal : ∃ b U B W Y, PLs b PR m2 w2 U B W Y ∧ SCs PR m2 w2 ∧ WTr PR m2 w2) : WLs (RRp p) (PR + 1) Fv P Fv' P2 none i j m2 w2 := by
  obtain ⟨sf, ⟨n0, q1, q2, -, -⟩, pr, -⟩ := id wl
  have hn0 : n0 = 0 := by
    rw [hq] at q1
    omega
  subst hn0
  have f9 : ∀ d, d ≠ p → d ≠ PR → F m2 (pq d 9) = F m (pq d 9) := fun d hd h2 => congrArg Int32.toInt ((D d hd h2).1 9 (by omega)).1
  have a9 : ∀ d, d ≠ p → d ≠ PR → A w2 109 d = A w 109 d := fun d hd h2 => congrArg Int32.toInt ((D d hd h2).2.1 109 d (Or.inl ⟨by omega, rfl⟩))
  refine ⟨s2, ⟨0, by rw [e1]; exact q1, by rw [e2]; exact q2, fun k hk => absurd hk (by omega), fun k l hk => absurd hk (by omega)⟩, fun r hr => ?_, RRp_stb⟩
  by_cases rn : r = PR
  · subst rn
    obtain ⟨b', U', B', W', Y', x1, x2, x3⟩ := nal
    exact Or.inl ⟨n9.1, n9.2, b', U', B', W', Y', x1, x2, Or.inr ⟨by omega, x3⟩⟩
  by_cases rq : r = p
  · subst rq
    exact Or.inl ⟨by rw [ru.2.2.2.1.1]; omega, by rw [ru.2.2.2.1.2]; omega, b, U, B, W, Y, pl, sc2, Or.inl ⟨rfl, jj, nb, Hs, Os, y, a, n, ru⟩⟩
  obtain ⟨l1, l2⟩ := D r rq rn
  have hr2 : r < PR := by omega
  rcases pr r hr2 with ⟨x1, x2, b', U', B', W', Y', pl', sc', rr⟩ | ⟨x1, x2, x⟩
  · obtain ⟨-, -, ⟨b1, b2, b3⟩, b4⟩ := SF_al sf hr2 x1 pl'
    have hU := pl'.1.1.2.2
    have rr2 : WTr r m w := by
      rcases rr with rr | rr
      · exact absurd rr rq
      · exact rr
    refine Or.inl ⟨by rw [f9 r rq rn]; exact x1, by rw [a9 r rq rn]; exact x2, b', U', B', W', Y', PLs_cg pl' (fun k hk => (l1 k (by simp at hk; omega)).1) (fun i _ => by rw [(l1 2 (by omega)).2.2.2]) (fun i _ => by rw [(l1 33 (by omega)).2.2.2]) (fun i _ => by rw [(l1 35 (by omega)).2.2.2]) (fun i _ => by rw [(l1 6 (by omega)).2.2.2]) (fun k hk => ?_) (fun i hi => l2.2.2.2.2.1 _ (by omega) (by omega)) (fun i hi => l2.2.2.2.2.2.2.1 _ (by omega) (by omega)) (fun i hi => l2.2.2.2.2.2.1 _ (by omega) (by omega)) (fun i hi => l2.2.2.2.2.2.2.2 _ (by omega) (by omega)), SC_eq sc' b4.2 (EQm_loc pg l1) (EQw_loc pg l2), Or.inr ⟨rq, WTr_st rr2 (EQm_loc pg l1).n (EQw_loc pg l2).v⟩⟩
    simp only [List.mem_cons, List.not_mem_nil, or_false] at hk
    rcases hk with rfl | rfl | rfl | rfl | rfl
    · exact l2.2.1 89 (by omega)
    · exact l2.2.1 90 (by omega)
    · exact l2.1 92 r (Or.inl ⟨by omega, rfl⟩)
    · exact l2.1 94 r (Or.inl ⟨by omega, rfl⟩)
    · exact l2.2.1 108 (by omega)
  · refine Or.inr ⟨by rw [f9 r rq rn]; exact x1, by rw [a9 r rq rn]; exact x2, Or.inr (Or.inr ?_)⟩
    rcases x with x | ⟨k, k1, k2, -⟩ | x
    · cases x
    · rw [hq] at k2
      omega
    · obtain ⟨hq2, n', ow, kd, e1', e2', -⟩ := (sf.1.1.2 r hr2).2.1 x1
      refine DEs_st2 x pg l1 l2 (fun d hd h3 => ?_)
      rw [e1'] at hd
      injection hd with hd
      have dp : d ≠ p := fun c => hal (by rw [← c]; exact h3)
      have dn : d ≠ PR := by omega
      exact ⟨by rw [f9 d dp dn]; exact h3, ((D d dp dn).1 2 (by omega)).2.2.2⟩
theorem born_v : PK (fun m2 r => ∀ j, r = some j → m2.1 (pq j 11) = 0 ∧ m2.1 (pq j 12) = -1 ∧ m2.1 (pq j 29) = 0 ∧ m2.1 (pq j 13) = 0 ∧ m2.1 (pq j 15) = 0 ∧ m2.1 (pq j 5) = 0) (hm_Wl_born N m) := by
  have k43 : ∀ u, PK (fun m2 r => ∀ j, r = some j → m2.1 (pq j 11) = 0 ∧ m2.1 (pq j 12) = -1 ∧ m2.1 (pq j 29) = 0 ∧ m2.1 (pq j 13) = 0 ∧ m2.1 (pq j 15) = 0 ∧ m2.1 (pq j 5) = 0) (hb_Wl_born_43 N () u) := fun u => by
    unfold hb_Wl_born_43
    refine pk_ck (fun _ => ?_)
    cases h : rf (u.2.2.1 1948 (u.1 942).toNatClampNeg) with
    | none => exact fun _ _ e => by cases e
    | some d =>
      intro m2 r e j ej
      unfold hm_Pr_clear hb_Pr_clear_0 hm_Fr_clear hb_Fr_clear_0 at e
      simp only [bo_s, lt_e, bnd_so] at e
      injection e with e
      injection e with ea eb
      subst eb
      injection ej with ej
      subst ej
      subst ea
      refine ⟨?_, ?_, ?_, ?_, ?_, ?_⟩ <;> simp [upI, upL, pq] <;> omega
  unfold hm_Wl_born hb_Wl_born_0
  refine pk_br (fun _ => pk_ck (fun _ => pk_br (fun _ => pk_ltq (k43 _)) (fun _ => k43 _))) (fun _ => ?_)
  intro m2 r e j ej
  injection e with e
  injection e with ea eb
  subst eb
  cases ej
end
end
section
set_option maxRecDepth 100000
section
variable {b : Int → Nat → Nat → Prop} {q s L e c : Nat} {m w : MS} {H : List Nat} {f : Int}
def NWm (q e L : Nat) (f : Int) (H : List Nat) (m : MS) : Prop := (m.1 (pq q 5) = 0 ∧ F m (pq q 24) = ((L : Nat) : Int) ∧ F m (pq q 26) = 0 ∧ F m (pq q 7) = 0 ∧ F m (pq q 21) = 1 ∧ F m (pq q 28) = 0 ∧ F m (pq q 9) = 0) ∧ (m.1 (pq q 11) = 0 ∧ m.1 (pq q 12) = -1 ∧ m.1 (pq q 13) = 0 ∧ m.1 (pq q 15) = 0 ∧ m.1 (pq q 29) = 0) ∧ (A m (pq q 30) 0 = f ∧ A m (pq q 30) 1 = 0 ∧ A m (pq q 30) 2 = 0 ∧ A m (pq q 30) 3 = 0 ∧ A m (pq q 30) 4 = ((e : Nat) : Int)) ∧ ∀ i x : Nat, H[i]? = some x → A m (pq q 32) i = ((x : Nat) : Int)
def NWw (q L : Nat) (f : Int) (w : MS) : Prop := (w.2.2.1 90 q = 0 ∧ A w 94 q = ((L : Nat) : Int) ∧ A w 92 q = 0 ∧ A w 108 q = 0 ∧ A w 95 q = 1 ∧ A w 106 q = 0 ∧ A w 109 q = 5) ∧ (w.2.2.1 112 q = 0 ∧ w.2.2.1 113 q = -1 ∧ w.2.2.1 114 q = 0 ∧ w.2.2.1 117 q = 0 ∧ w.2.2.1 115 q = 0) ∧ A w 96 (60 * q) = f ∧ A w 97 (60 * q) = -1 ∧ A w 99 (60 * q) = 0 ∧ A w 100 (60 * q) = 0 ∧ A w 101 (60 * q) = ((L : Nat) : Int)
theorem new_al (hm : NWm q e L f H m) (hw : NWw q L f w) (hL : H.length = L) (h4 : F m (pq q 4) = ((s : Nat) : Int) ∧ A w 89 q = ((s : Nat) : Int)) (hs : s ≤ 500) (is : ISb b (m.2.2.2 (pq q 2)) s (hp w q) s) (held : ∀ i, i < L → RTb b (m.2.2.2 (pq q 33) i) (w.2.2.2 93 (2500 * q + i))) (hf : (0 ≤ f ∧ A w 50 f.toNat = ((c : Nat) : Int)) ∨ (f = -1 ∧ ∃ u : Nat, A w 170 q = ((u : Nat) : Int) ∧ A w 53 u = ((c : Nat) : Int))) (nd : H.Nodup) (zr : ∃ g g2, ZRs (A m 23) (ROs w) (w.2.2.2 34) (CRs (A m 23) (ROs w) (w.2.2.2 34) g) 0 0 H [] g2 e ((c : Nat) : Int)) : PLs b q m w s L 0 0 ∧ SCs q m w ∧ WTr q m w := by
  obtain ⟨⟨a1, a2, a3, a4, a5, a6, a7⟩, ⟨a8, a9, a10, a11, a12⟩, ⟨a13, a14, a15, a16, a17⟩, a18⟩ := hm
  obtain ⟨⟨b1, b2, b3, b4, b5, b6, b7⟩, ⟨b8, b9, b10, b11, b12⟩, b13, b14, b15, b16, b17⟩ := hw
  have e15 : F m (pq q 15) = 0 := by
    show (m.1 (pq q 15)).toInt = 0
    rw [a11]
    rfl
  refine ⟨⟨⟨⟨h4.1, h4.2, hs⟩, is, a1.trans b1.symm⟩, ⟨a2, b2, held⟩, ⟨a3, b3, fun i hi => absurd hi (by omega)⟩, a4, b4, fun i hi => absurd hi (by omega)⟩, ⟨a9.trans b9.symm, a10.trans b10.symm, a8.trans b8.symm, a11.trans b11.symm, a12.trans b12.symm, fun i hi => by omega⟩, 0, fun _ => 0, fun _ => H, fun _ => [], ⟨⟨a5, b5, by omega⟩, fun r hr => ?_, fun r hr => absurd hr (by omega), ?_⟩, ⟨0, a6, b6, by omega, fun c hc => absurd hc (by omega), fun c hc => absurd hc (by omega)⟩, e, a17, Or.inr (Or.inl ⟨a7, b7, rfl, rfl, c, ?_, nd, ?_⟩)⟩
  · have r0 : r = 0 := by omega
    subst r0
    refine ⟨a13.trans b13.symm, Or.inl ⟨b14, a14⟩, ⟨a15, b15⟩, a16.trans b16.symm, by rw [hL]; exact b17, fun i x hx => ?_⟩
    rw [List.append_nil] at hx
    rw [Nat.zero_add]
    exact a18 i x hx
  · show F m (pq q 24) = ((0 + (H ++ []).length : Nat) : Int)
    rw [a2, List.append_nil, hL, Nat.zero_add]
  · rw [b13]
    exact hf
  · obtain ⟨g, g2, z⟩ := zr
    exact ⟨g, g2, z⟩
end
end
section
set_option maxRecDepth 100000
section
variable {b : Int → Nat → Nat → Prop} {N p q d r j U B W Y K i : Nat} {m w wA wC m2 w2 w3 : MS}
theorem LOCw.sym (a : LOCw d w w2) : LOCw d w2 w := ⟨fun K i h => (a.1 K i h).symm, fun K h => (a.2.1 K h).symm, fun i h1 h2 => (a.2.2.1 i h1 h2).symm, a.2.2.2.1.symm, fun i h1 h2 => (a.2.2.2.2.1 i h1 h2).symm, fun i h1 h2 => (a.2.2.2.2.2.1 i h1 h2).symm, fun i h1 h2 => (a.2.2.2.2.2.2.1 i h1 h2).symm, fun i h1 h2 => (a.2.2.2.2.2.2.2 i h1 h2).symm⟩
def owP (p j K i : Nat) : Prop := ((K = 89 ∨ K = 90 ∨ K = 92) ∧ i = p) ∨ (K = 98 ∧ i = 60 * p + j) ∨ K = 135 ∨ K = 142
def owJ (p K i : Nat) : Prop := (K = 88 ∧ 500 * p ≤ i ∧ i < 500 * p + 500) ∨ (K = 91 ∧ 46000 * p ≤ i ∧ i < 46000 * p + 46000) ∨ (K = 93 ∧ 2500 * p ≤ i ∧ i < 2500 * p + 2500) ∨ (K = 107 ∧ 30 * p ≤ i ∧ i < 30 * p + 30) ∨ K = 134 ∨ K = 137 ∨ K = 141
noncomputable def swW (p j : Nat) (w wC : MS) : MS := (fun k => if k = 136 ∨ k = 138 ∨ k = 140 then w.1 k else wC.1 k, fun k => if k = 139 then w.2.1 k else wC.2.1 k, fun K i => @ite _ (owP p j K i) (Classical.propDecidable _) (w.2.2.1 K i) (wC.2.2.1 K i), fun K i => @ite _ (owJ p K i) (Classical.propDecidable _) (w.2.2.2 K i) (wC.2.2.2 K i))
theorem swW_A (h : ¬ owP p j K i) : (swW p j w wC).2.2.1 K i = wC.2.2.1 K i := @if_neg _ (Classical.propDecidable _) h _ _ _
theorem swW_Ap (h : owP p j K i) : (swW p j w wC).2.2.1 K i = w.2.2.1 K i := @if_pos _ (Classical.propDecidable _) h _ _ _
theorem swW_J (h : ¬ owJ p K i) : (swW p j w wC).2.2.2 K i = wC.2.2.2 K i := @if_neg _ (Classical.propDecidable _) h _ _ _
theorem swW_1 {k : Nat} (h : k ≠ 136 ∧ k ≠ 138 ∧ k ≠ 140) : (swW p j w wC).1 k = wC.1 k := if_neg (by omega)
theorem swW_fg : FGw p j (swW p j w wC) wC := by
  refine ⟨⟨fun k hk => (swW_1 (by simp at hk; omega)).symm, fun k hk => (if_neg (by simpa using hk)).symm, fun K hK => funext fun i => (swW_A (fun c => ?_)).symm, fun K hK => funext fun i => (swW_J (fun c => ?_)).symm⟩, fun k hk => ⟨?_, ?_, ?_⟩, fun k hk => ?_, fun i hi => ?_, fun i hi => ?_, fun i hi => ?_, fun i hi => ?_⟩
  · unfold owP at c
    simp at hK
    omega
  · unfold owJ at c
    simp at hK
    omega
  · exact congrArg Int32.toInt (swW_A (fun c => by unfold owP at c; omega)).symm
  · exact (swW_A (fun c => by unfold owP at c; omega)).symm
  · exact congrArg Int32.toInt (swW_A (fun c => by unfold owP at c; omega)).symm
  · exact congrArg Int32.toInt (swW_A (fun c => by unfold owP at c; omega)).symm
  · exact (swW_J (fun c => by unfold owJ at c; omega)).symm
  · exact (swW_J (fun c => by unfold owJ at c; omega)).symm
  · exact (swW_J (fun c => by unfold owJ at c; omega)).symm
  · exact (swW_J (fun c => by unfold owJ at c; omega)).symm
theorem swW_eq (g : FGw p j w wA) (L : LOCw p wA wC) (pr : ∀ K, PRr K → wC.2.2.1 K = wA.2.2.1 K) (h34 : wC.2.2.2 34 = wA.2.2.2 34) : EQw p w (swW p j w wC) := by
  obtain ⟨⟨g1, g2, g3, g4⟩, g5, g6, g7⟩ := g
  have ai : ∀ {x y : Int32}, x.toInt = y.toInt → x = y := fun h => Int32.toInt_inj.mp h
  refine ⟨fun K i h => ?_, ?_, fun K hK => funext fun i => ?_, funext fun i => ?_⟩
  · by_cases c : owP p j K i
    · exact swW_Ap c
    · rw [swW_A c, L.1 K i h]
      by_cases c98 : K = 98
      · subst c98
        exact ai (g6 i (fun e => c (Or.inr (Or.inl ⟨rfl, e⟩))))
      · have n92 : K ≠ 92 := fun e => c (by
          subst e
          refine Or.inl ⟨by omega, ?_⟩
          rcases h with h | h | h | h
          · exact h.2
          · omega
          · omega
          · omega)
        have hk := OWi_k h
        have n89 : K ≠ 89 ∧ K ≠ 90 ∧ K ≠ 135 ∧ K ≠ 142 := ⟨by omega, by omega, by omega, by omega⟩
        rw [g3 K (by simp; omega)]
  · rw [swW_J (fun c => by unfold owJ at c; omega), L.2.2.2.1, g4 111 (by simp)]
  · rw [swW_A (fun c => by unfold owP at c; unfold PRr at hK; omega), pr K hK, g3 K (by unfold PRr at hK; simp; omega)]
  · rw [swW_J (fun c => by unfold owJ at c; omega), h34, g4 34 (by simp)]
theorem AL_loc (h : PLs b r m w U B W Y ∧ SCs r m w ∧ WTr r m w) (hb : U ≤ 500 ∧ W ≤ 46000 ∧ B ≤ 2500 ∧ Y ≤ 30 ∧ F m (pq r 15) ≤ 24) (pg : PG0 m w m2 w2) (l1 : LOCm r m m2) (l2 : LOCw r w w2) : PLs b r m2 w2 U B W Y ∧ SCs r m2 w2 ∧ WTr r m2 w2 := by
  obtain ⟨pl', sc', rr⟩ := h
  refine ⟨PLs_cg pl' (fun k hk => (l1 k (by simp at hk; omega)).1) (fun i _ => by rw [(l1 2 (by omega)).2.2.2]) (fun i _ => by rw [(l1 33 (by omega)).2.2.2]) (fun i _ => by rw [(l1 35 (by omega)).2.2.2]) (fun i _ => by rw [(l1 6 (by omega)).2.2.2]) (fun k hk => ?_) (fun i hi => l2.2.2.2.2.1 _ (by omega) (by omega)) (fun i hi => l2.2.2.2.2.2.2.1 _ (by omega) (by omega)) (fun i hi => l2.2.2.2.2.2.1 _ (by omega) (by omega)) (fun i hi => l2.2.2.2.2.2.2.2 _ (by omega) (by omega)), SC_eq sc' hb.2.2.2.2 (EQm_loc pg l1) (EQw_loc pg l2), WTr_st rr (EQm_loc pg l1).n (EQw_loc pg l2).v⟩
  simp only [List.mem_cons, List.not_mem_nil, or_false] at hk
  rcases hk with rfl | rfl | rfl | rfl | rfl
  · exact l2.2.1 89 (by omega)
  · exact l2.2.1 90 (by omega)
  · exact l2.1 92 r (Or.inl ⟨by omega, rfl⟩)
  · exact l2.1 94 r (Or.inl ⟨by omega, rfl⟩)
  · exact l2.2.1 108 (by omega)
theorem hold_py {p p' v1 v2 : Nat} {v3 : Int64} {v6 : Int32} : ∀ (M : Nat) (u : MS) (v7 : Int32), hg_Ma_hold N M u p v1 v2 v3 v6 v7 = hg_Ma_hold N M u p' v1 v2 v3 v6 v7 := by
  intro M
  induction M with
  | zero => intro u v7; rfl
  | succ M ih =>
    intro u v7
    show hb_Ma_hold_40 N (hg_Ma_hold N M) u p v1 v2 v3 v6 v7 = hb_Ma_hold_40 N (hg_Ma_hold N M) u p' v1 v2 v3 v6 v7
    unfold hb_Ma_hold_40
    simp only [ih]
theorem hold_pp {p p' v1 v2 : Nat} {v3 : Int64} {u : MS} : hm_Ma_hold N u p v1 v2 v3 = hm_Ma_hold N u p' v1 v2 v3 := by
  unfold hm_Ma_hold hb_Ma_hold_0 hb_Ma_hold_24
  rw [hold_py (p' := p')]
end
end
section
set_option maxRecDepth 100000
def an4 (N : Nat) (u : MS) (v6 : Int32) : Option (MS × Unit) := bnd (fm_M_take N u) (fun u1 r1 => bnd (fm_M_term N u1 4 v6) (fun u2 r2 => bnd (fm_M_put N u2 r2) (fun u3 _ => some (u3, ()))))
def spU (w : MS) (q uu : Nat) : MS := wa (wa (npS w q) 170 q (-1)) 170 q ((uu : Nat) : Int)
def spF (w : MS) (q ff : Nat) : MS := wa (wa (npS w q) 170 q (-1)) 96 (60 * q) ((ff : Nat) : Int)
section
variable {α β : Type} {N p q v W uu ff c ar L : Nat} {w w0 : MS} {x t7 : Int64} {v1 v3 : Int64} {Q : MS → α → MS → β → Prop} {D : Option (MS × α)} {K : MS → Unit → Option (MS × β)}
theorem i64u (hd : x.toInt = ((uu : Nat) : Int)) (hu : uu < 100000) : x.toInt32 = I ((uu : Nat) : Int) := by
  apply Int32.toInt_inj.mp
  rw [Int64.toInt_toInt32, hd, I_ti (by omega) (by omega)]
  exact Int.bmod_eq_of_le (by omega) (by omega)
theorem i64f (hd : x.toInt = -1 - ((ff : Nat) : Int)) (hu : ff < 100000) : ((-1 : Int64) - x).toInt32 = I ((ff : Nat) : Int) := by
  apply Int32.toInt_inj.mp
  rw [Int64.toInt_toInt32, I_ti (by omega) (by omega), Int64.toInt_sub, hd, show (-1 : Int64).toInt = -1 from by decide, show (-1 : Int) - (-1 - ((ff : Nat) : Int)) = ((ff : Nat) : Int) by omega, Int.bmod_eq_of_le (n := ((ff : Nat) : Int)) (m := 2 ^ 64) (by omega) (by omega)]
  exact Int.bmod_eq_of_le (by omega) (by omega)
theorem sp_u (hpp : p < 24) (h133 : F w 133 = ((p : Nat) : Int)) (h92 : A w 92 p = ((W + 1 : Nat) : Int)) (hW : W + 1 ≤ 46000) (hx : w.2.2.2 91 (46000 * p + W) = x) (sx : so x = 3) (hv : va x = ((v : Nat) : Int)) (hv2 : v < 500) (hd : (hp w p v).toInt = ((uu : Nat) : Int)) (hu : uu < 100000) (h53 : A w 53 uu = ((c : Nat) : Int)) (hc : c < 100000) (h41 : A w 41 c = ((ar : Nat) : Int)) (h : PP Q D (bnd (fb_M_spawnRun_75 N (gg_M_spawnRun N N) w x (hp w p v) (I ((ar : Nat) : Int))) K)) : PP Q D (bnd (fm_M_spawnRun N w) K) := by
  unfold fm_M_spawnRun fb_M_spawnRun_0
  refine rb_bnd (pk_mo (show PK _ (fm_M_top N w 0) from top_r (N := N) (k := 0) (W := W + 1) hpp h133 h92 hW (by omega)) (fun w4 r e => ?_))
  obtain ⟨rfl, rfl⟩ := e
  have d0 : decide (0 ≤ lg_cmp (hp w4 p v) 0) = true := decide_eq_true ((lgc_ge _).mpr (by rw [hd]; omega))
  rw [show 46000 * p + (W + 1 - 1 - 0) = 46000 * p + W by omega, hx, sortOf_e, rb_bnd_so, sx, show decide (I 3 = 3) = true from rfl, br_tq, valueOf_e, rb_bnd_so, hv, I_F' h133, cell_e (by omega) hv2, rb_bnd_so]
  unfold fb_M_spawnRun_30
  rw [sortOf_e, rb_bnd_so, sx, show decide (I 3 = 3) = true from rfl, br_tq, d0, br_tq, i64u hd hu, tnI (n := uu) rfl (by omega), I_A' h53, tnI (n := c) rfl (by omega), I_A' h41]
  refine rb_ck (fun _ => rb_ck (fun _ => h))
theorem sp_f (hpp : p < 24) (h133 : F w 133 = ((p : Nat) : Int)) (h92 : A w 92 p = ((W + 1 : Nat) : Int)) (hW : W + 1 ≤ 46000) (hx : w.2.2.2 91 (46000 * p + W) = x) (sx : so x = 3) (hv : va x = ((v : Nat) : Int)) (hv2 : v < 500) (hd : (hp w p v).toInt = -1 - ((ff : Nat) : Int)) (hu : ff < 100000) (h48 : A w 48 ff = ((ar : Nat) : Int)) (h : PP Q D (bnd (fb_M_spawnRun_75 N (gg_M_spawnRun N N) w x (hp w p v) (I ((ar : Nat) : Int))) K)) : PP Q D (bnd (fm_M_spawnRun N w) K) := by
  unfold fm_M_spawnRun fb_M_spawnRun_0
  refine rb_bnd (pk_mo (show PK _ (fm_M_top N w 0) from top_r (N := N) (k := 0) (W := W + 1) hpp h133 h92 hW (by omega)) (fun w4 r e => ?_))
  obtain ⟨rfl, rfl⟩ := e
  have d0 : decide (0 ≤ lg_cmp (hp w4 p v) 0) = false := decide_eq_false (fun z => by have := (lgc_ge _).mp z; rw [hd] at this; omega)
  rw [show 46000 * p + (W + 1 - 1 - 0) = 46000 * p + W by omega, hx, sortOf_e, rb_bnd_so, sx, show decide (I 3 = 3) = true from rfl, br_tq, valueOf_e, rb_bnd_so, hv, I_F' h133, cell_e (by omega) hv2, rb_bnd_so]
  unfold fb_M_spawnRun_30
  rw [sortOf_e, rb_bnd_so, sx, show decide (I 3 = 3) = true from rfl, br_tq, d0, br_fq, i64f hd hu, tnI (n := ff) rfl (by omega), I_A' h48]
  exact rb_ck (fun _ => h)
theorem sp_n (hpp : p < 24) (h133 : F w 133 = ((p : Nat) : Int)) (h92 : A w 92 p = ((W + 1 : Nat) : Int)) (hW : W + 1 ≤ 46000) (hx : w.2.2.2 91 (46000 * p + W) = x) (sx : so x ≠ 3) (h : PP Q D (bnd (fr_M_error N w 11) (fun u _ => K u ()))) : PP Q D (bnd (fm_M_spawnRun N w) K) := by
  unfold fm_M_spawnRun fb_M_spawnRun_0
  refine rb_bnd (pk_mo (show PK _ (fm_M_top N w 0) from top_r (N := N) (k := 0) (W := W + 1) hpp h133 h92 hW (by omega)) (fun w4 r e => ?_))
  obtain ⟨rfl, rfl⟩ := e
  have d3 : decide (I (so x) = 3) = false := by
    rw [show (3 : Int32) = I 3 from rfl, decE (so_r _).1 (so_r _).2 (by omega) (by omega)]
    exact decide_eq_false sx
  rw [show 46000 * p + (W + 1 - 1 - 0) = 46000 * p + W by omega, hx, sortOf_e, rb_bnd_so, d3, br_fq]
  unfold fb_M_spawnRun_30
  rw [sortOf_e, rb_bnd_so, d3, br_fq]
  unfold fb_M_spawnRun_75 fb_M_spawnRun_91
  rw [show decide ((-1 : Int32) = 0) = false from rfl, br_fq]
  exact r_bb h
theorem sp_x {G : MS → Int32 → Int64 → Int32 → Int32 → Option (MS × Unit)} (ha : ar < 2000) (h118 : F w 118 = ((q : Nat) : Int)) (hq : q < 1000) (hz : ar ≠ 0 ∨ q = 24) (h : PP Q D (bnd (fr_M_error N w 11) (fun u _ => K u ()))) : PP Q D (bnd (fb_M_spawnRun_75 N G w v1 v3 (I ((ar : Nat) : Int))) K) := by
  unfold fb_M_spawnRun_75 fb_M_spawnRun_91
  by_cases e : ar = 0
  · subst e
    have e24 : q = 24 := by omega
    subst e24
    rw [show decide (I ((0 : Nat) : Int) = 0) = true from rfl, br_tq, I_F' h118, show decide (I ((24 : Nat) : Int) = 24) = true from rfl, br_tq]
    exact r_bb h
  · rw [show decide (I ((ar : Nat) : Int) = 0) = false from by rw [lit0q, decE (by omega) (by omega) (by omega) (by omega)]; exact decide_eq_false (by omega), br_fq]
    exact r_bb h
theorem i60 (hq : q < 24) : I ((q : Nat) : Int) * 60 = I ((60 * q : Nat) : Int) := by
  rw [show (60 : Int32) = I 60 from rfl, I_mul]
  congr 1
  omega
theorem sp_75u {G : MS → Int32 → Int64 → Int32 → Int32 → Option (MS × Unit)} (h118 : F w 118 = ((q : Nat) : Int)) (hq : q < 24) (hd : v3.toInt = ((uu : Nat) : Int)) (hu : uu < 100000) (h : PP Q D (bnd (fb_M_spawnRun_150 N G (spU w q uu) v1 v3 (I ((q : Nat) : Int)) (I ((60 * q : Nat) : Int))) K)) : PP Q D (bnd (fb_M_spawnRun_75 N G w v1 v3 (I ((0 : Nat) : Int))) K) := by
  unfold fb_M_spawnRun_75
  have d0 : decide (0 ≤ lg_cmp v3 0) = true := decide_eq_true ((lgc_ge _).mpr (by rw [hd]; omega))
  rw [show decide (I ((0 : Nat) : Int) = 0) = true from rfl, br_tq, I_F' h118, show decide (I ((q : Nat) : Int) = 24) = false from by rw [show (24 : Int32) = I 24 from rfl, decE (by omega) (by omega) (by omega) (by omega)]; exact decide_eq_false (by omega), br_fq, newProcess_e h118 hq, rb_bnd_so]
  refine rb_ck (fun c1 => ?_)
  rw [lt_e, d0, br_tq]
  refine rb_ck (fun _ => ?_)
  rw [i60 hq, tnI (n := q) rfl (by omega), litm1q, wa_e, i64u hd hu, wa_e, lt_e]
  exact h
theorem sp_75f {G : MS → Int32 → Int64 → Int32 → Int32 → Option (MS × Unit)} (h118 : F w 118 = ((q : Nat) : Int)) (hq : q < 24) (hd : v3.toInt = -1 - ((ff : Nat) : Int)) (hu : ff < 100000) (h : PP Q D (bnd (fb_M_spawnRun_150 N G (spF w q ff) v1 v3 (I ((q : Nat) : Int)) (I ((60 * q : Nat) : Int))) K)) : PP Q D (bnd (fb_M_spawnRun_75 N G w v1 v3 (I ((0 : Nat) : Int))) K) := by
  unfold fb_M_spawnRun_75
  have d0 : decide (0 ≤ lg_cmp v3 0) = false := decide_eq_false (fun z => by have := (lgc_ge _).mp z; rw [hd] at this; omega)
  rw [show decide (I ((0 : Nat) : Int) = 0) = true from rfl, br_tq, I_F' h118, show decide (I ((q : Nat) : Int) = 24) = false from by rw [show (24 : Int32) = I 24 from rfl, decE (by omega) (by omega) (by omega) (by omega)]; exact decide_eq_false (by omega), br_fq, newProcess_e h118 hq, rb_bnd_so]
  refine rb_ck (fun c1 => ?_)
  rw [lt_e, d0, br_fq]
  refine rb_ck (fun _ => ?_)
  rw [i60 hq, tnI (n := q) rfl (by omega), tnI (n := 60 * q) rfl (by omega), i64f hd hu, litm1q, wa_e, wa_e, lt_e]
  exact h
theorem sh_lp (hq : q < 24) (hn : L ≤ 2500) (hv : va t7 = ((v : Nat) : Int)) (hv2 : v + 2 + L ≤ 500) (kk : ∀ u, FR [] [] [] [93] w0 u → (∀ k, u.2.2.2 93 k = if 2500 * q ≤ k ∧ k < 2500 * q + L then hp w0 q (v + 2 + (k - 2500 * q)) else w0.2.2.2 93 k) → PP Q D (bnd (an4 N (wa u 94 q ((L : Nat) : Int)) (I ((q : Nat) : Int))) K)) : ∀ (d M : Nat) (u : MS) (i : Nat), i + d = L → FR [] [] [] [93] w0 u → (∀ k, u.2.2.2 93 k = if 2500 * q ≤ k ∧ k < 2500 * q + i then hp w0 q (v + 2 + (k - 2500 * q)) else w0.2.2.2 93 k) → PP Q D (bnd (gg_M_spawnRun N M u (I ((q : Nat) : Int)) t7 (I ((L : Nat) : Int)) (I ((i : Nat) : Int))) K) := by
  intro d
  induction d with
  | zero =>
    intro M u i hi fr r
    have : i = L := by omega
    subst this
    cases M with
    | zero => exact pp_nr
    | succ M =>
    show PP Q D (bnd (fb_M_spawnRun_234 N (gg_M_spawnRun N M) u (I ((q : Nat) : Int)) t7 (I ((i : Nat) : Int)) (I ((i : Nat) : Int))) K)
    unfold fb_M_spawnRun_234
    rw [show decide (I ((i : Nat) : Int) ≤ I ((i : Nat) : Int)) = true from decide_eq_true (Int32.le_refl _), br_tq]
    refine rb_ck (fun _ => ?_)
    rw [tnI (n := q) rfl (by omega), wa_e, lt_e]
    exact kk u fr r
  | succ d ih =>
    intro M u i hi fr r
    cases M with
    | zero => exact pp_nr
    | succ M =>
    show PP Q D (bnd (fb_M_spawnRun_234 N (gg_M_spawnRun N M) u (I ((q : Nat) : Int)) t7 (I ((L : Nat) : Int)) (I ((i : Nat) : Int))) K)
    unfold fb_M_spawnRun_234
    rw [decI (by omega) (by omega) (by omega) (by omega), show decide (((L : Nat) : Int) ≤ ((i : Nat) : Int)) = false from decide_eq_false (by omega), br_fq, valueOf_e, bnd_so, hv, show I ((v : Nat) : Int) + 2 + I ((i : Nat) : Int) = I ((v + 2 + i : Nat) : Int) from by rw [show (2 : Int32) = I 2 from rfl, I_add, I_add]; congr 1, cell_e (by omega) (by omega), bnd_so]
    refine rb_ck (fun _ => ?_)
    have ix : (I ((q : Nat) : Int) * 2500 + I ((i : Nat) : Int)).toNatClampNeg = 2500 * q + i := by
      rw [show (2500 : Int32) = I 2500 from rfl, I_mul, I_add]
      exact tnI (n := 2500 * q + i) (by omega) (by omega)
    have hpu : hp u q (v + 2 + i) = hp w0 q (v + 2 + i) := by unfold hp; rw [fr.2.2.2 88 (by simp)]
    rw [ix, hpu, wj_e, lt_e, show I ((i : Nat) : Int) + 1 = I ((i + 1 : Nat) : Int) from addN]
    refine ih M _ (i + 1) (by omega) (FR.wj fr (by simp)) (fun k => ?_)
    rw [wj_row]
    by_cases c : k = 2500 * q + i
    · subst c
      rw [if_pos rfl, if_pos (by omega), show 2500 * q + i - 2500 * q = i by omega]
    · rw [if_neg c, r k]
      by_cases c2 : 2500 * q ≤ k ∧ k < 2500 * q + i
      · rw [if_pos c2, if_pos (by omega)]
      · rw [if_neg c2, if_neg (by omega)]
end
end
section
set_option maxRecDepth 100000
section
variable {Fv : Int64 → Int64 → Prop} {P : Int64 → Prop} {N p q n s f : Nat} {ow kd : Nat → Nat} {w : MS} {x : Int64}
theorem copy_c1 (hp1 : p < 25) (hq : q < 25) (hpq : p ≠ q) (hn : n ≤ 500) (hs : s ≤ 500) (g : HP (hp w p) n ow kd Fv P) (z : SZ (hp w p) n ow kd Fv P f x s) (h89 : A w 89 q = 0) (hN : 3000 ≤ N) (e3 : so x = 3) : PK (fun w2 r => hp w2 q (vn r + 1) = hp w p (vn x + 1)) (fm_M_copy N w (I ((p : Nat) : Int)) x (I ((q : Nat) : Int))) := by
  intro w2 r e
  obtain ⟨c1, c2, c3, cc, st, src, oo, c4, c5⟩ := pk_ok (copy_ok (N := N) (fr := p) (to := q) (n0 := 0) (s := s) hp1 hq hn (by omega) (fun c => absurd c hpq) g z (by rw [h89]; rfl) hN) w2 r e
  rcases c5 with ⟨c5, -⟩ | ⟨-, e2, e3', e4, e5⟩
  · exact absurd (Or.inl e3) c5
  · obtain ⟨q1, q2, q3, q4, q5, q6⟩ := c4.2.2.1 _ e4
    rw [e5] at q2 q6
    have bp : 2 ≤ blk (hp w p) x := by unfold blk; rw [if_neg (by omega), if_neg (by omega), if_pos e3]; omega
    have pt : prt x = 2 := by unfold prt; rw [e3]; rfl
    exact (q6 1 (by omega) (fun y => by omega)).1 (by omega)
end
def NGm (q : Nat) (m m2 : MS) : Prop := (∀ d, d ≠ q → LOCm d m m2) ∧ (∀ k, k < 2000 → k ≠ 942 → m2.1 k = m.1 k) ∧ (∀ k, k < 2000 → m2.2.1 k = m.2.1 k) ∧ (∀ K, K < 2000 → K ≠ 1948 → m2.2.2.1 K = m.2.2.1 K) ∧ F m2 942 = ((q + 1 : Nat) : Int)
def NGw (q : Nat) (w w2 : MS) : Prop := (∀ d, d ≠ q → LOCw d w w2) ∧ (∀ k, k ≠ 118 → w2.1 k = w.1 k) ∧ (∀ K, K < 88 ∨ (118 ≤ K ∧ K ≤ 130) ∨ (145 ≤ K ∧ K ≤ 147) → w2.2.2.1 K = w.2.2.1 K) ∧ w2.2.2.2 34 = w.2.2.2 34 ∧ F w2 118 = ((q + 1 : Nat) : Int)
section
variable {α β : Type} {b b2 : Int → Nat → Nat → Prop} {Fv Fv' : Int64 → Int64 → Prop} {P P' : Int64 → Prop} {N PR p i j0 U B W Y l j a n s L : Nat} {m w w1 mB wC : MS} {nb : Nat → Nat} {Hs Os : Nat → List Nat} {y : Option (Nat × Nat × Nat)} {Q : MS → α → MS → β → Prop} {K1 : MS → Option (MS × α)} {K2 : MS → Option (MS × β)}
theorem spawn_fin (hpp : p < PR) (hPR : PR < 24) (wl : WLs (RRp p) PR Fv P Fv' P' none i j0 m w) (hq : F m 955 = ((i : Nat) : Int)) (ru : RUs m w p j nb Hs Os y a n) (sc : SCs p m w) (hW : W + 1 ≤ 46000) (hBY : B ≤ 2500 ∧ Y ≤ 30) (hl : F m (pq p 45) = ((l : Nat) : Int)) (hl2 : W + 1 ≤ l ∧ l ≤ 1000000) (pl : PLs b p m w1 U B (W + 1) Y) (g1 : FGw p j w w1) (h98 : A w1 98 (60 * p + j) = ((n + 1 : Nat) : Int)) (cr : ∃ f, CRs (A m 23) (ROs w) (w.2.2.2 34) f y (a + 2) (n + 1) (Hs j) (Os j))
    (gm : NGm PR m mB) (gw : NGw PR w1 wC) (hL : L ≤ 2500) (nal : PLs b2 PR mB wC s L 0 0 ∧ SCs PR mB wC ∧ WTr PR mB wC) (n9 : F mB (pq PR 9) = 0 ∧ A wC 109 PR = 5 ∧ F mB (pq PR 15) = 0)
    (c : ∀ m3 w3, (∀ P2, SFs Fv P Fv' P2 (PR + 1) m3 w3 → WLs (RRp p) (PR + 1) Fv P Fv' P2 none i j0 m3 w3) → PLs b p m3 w3 U B (W + 1) Y → RUs m3 w3 p j nb Hs Os y (a + 2) (n + 1) → NGm PR m mB → NGw PR w1 wC → FGm p mB m3 → FGw p j wC w3 → PP Q (K1 m3) (K2 w3)) : PP Q (bnd (hb_Ma_spawn_170 N () mB p PR) (fun u _ => bnd (hb_Ma_predefined_146 N () u p) (fun u _ => K1 u))) (bnd (an4 N wC (I ((PR : Nat) : Int))) (fun u _ => K2 u)) := by
  obtain ⟨⟨fa, -⟩, ⟨r2, -⟩, -, ⟨q9, q9w⟩, -, -, r11, -, -⟩ := id ru
  obtain ⟨m1, m2, m3', m4, m5⟩ := id gm
  obtain ⟨w1', w2', w3', w4', w5'⟩ := id gw
  have hj : j < 60 := fa.1.2.2
  have hU := pl.1.1.2.2
  have pn : p ≠ PR := by omega
  have cb2 : a + 2 + 1 < 24000 := by
    obtain ⟨f9, cr9⟩ := cr
    exact (CR_b cr9).1
  have lp := m1 p pn
  have lw := w1' p pn
  have plB : PLs b p mB wC U B (W + 1) Y := by
    refine PLs_cg pl (fun k hk => (lp k (by simp at hk; omega)).1) (fun i _ => by rw [(lp 2 (by omega)).2.2.2]) (fun i _ => by rw [(lp 33 (by omega)).2.2.2]) (fun i _ => by rw [(lp 35 (by omega)).2.2.2]) (fun i _ => by rw [(lp 6 (by omega)).2.2.2]) (fun k hk => ?_) (fun i hi => lw.2.2.2.2.1 _ (by omega) (by omega)) (fun i hi => lw.2.2.2.2.2.2.1 _ (by omega) (by omega)) (fun i hi => lw.2.2.2.2.2.1 _ (by omega) (by omega)) (fun i hi => lw.2.2.2.2.2.2.2 _ (by omega) (by omega))
    simp only [List.mem_cons, List.not_mem_nil, or_false] at hk
    rcases hk with rfl | rfl | rfl | rfl | rfl
    · exact lw.2.1 89 (by omega)
    · exact lw.2.1 90 (by omega)
    · exact lw.1 92 p (Or.inl ⟨by omega, rfl⟩)
    · exact lw.1 94 p (Or.inl ⟨by omega, rfl⟩)
    · exact lw.2.1 108 (by omega)
  have pd := PLs_drop (k := 1) (W := W) plB (by omega)
  have ew : EQw p w (swW p j w wC) := swW_eq g1 lw (fun K hK => w3' K (by unfold PRr at hK; omega)) w4'
  have gB : FGw p j (swW p j w wC) wC := swW_fg
  have em : EQm p m mB := ⟨fun k hk _ => (lp k hk).1, fun k hk _ => (lp k hk).2.1, fun k hk => (lp k hk).2.2.1, m4 23 (by omega) (by omega)⟩
  have bw : ∀ k, k ≠ 118 → k ≠ 136 → k ≠ 138 → k ≠ 140 → (swW p j w wC).1 k = w.1 k := fun k h0 h1 h2 h3 => by rw [swW_1 ⟨h1, h2, h3⟩, w2' k h0]; exact g1.1.1 k (by simp; omega)
  have bA : ∀ K, K < 88 ∨ (118 ≤ K ∧ K ≤ 130) → (swW p j w wC).2.2.1 K = w.2.2.1 K := fun K h => funext fun i => by rw [swW_A (fun c => by unfold owP at c; omega), w3' K (by omega)]; exact congrFun (g1.1.2.2.1 K (by simp; omega)) i
  have pg : PGs m w mB (swW p j w wC) := ⟨⟨⟨m4 23 (by omega) (by omega), m2 22 (by omega) (by omega), ATc_eq (m4 2 (by omega) (by omega)) (m4 3 (by omega) (by omega))⟩, ew.2.2.1, ew.2.2.2, bA 12 (by omega), bA 13 (by omega), bw 14 (by omega) (by omega) (by omega) (by omega)⟩, fun k h1 h2 => ⟨m2 k (by omega) (by omega), m3' k (by omega)⟩, fun k h => bw k (by omega) (by omega) (by omega) (by omega)⟩
  have ruB : RUs mB (swW p j w wC) p j nb Hs Os y a n := RUs_st ru em.n ew.v pg
  have hb15 : F m (pq p 15) ≤ 24 := by
    rcases wl.2.2.1 p hpp with ⟨x1, x2, b', U', B', W', Y', pl', -⟩ | ⟨x1, -⟩
    · exact (SF_al wl.1 hpp x1 pl').2.2.2.2
    · rw [q9] at x1
      omega
  have scB : SCs p mB (swW p j w wC) := SC_eq sc hb15 em ew
  have crB : ∃ f, CRs (A mB 23) (ROs (swW p j w wC)) ((swW p j w wC).2.2.2 34) f y (a + 2) (n + 1) (Hs j) (Os j) := by
    rw [show A mB 23 = A m 23 from by funext k; show (mB.2.2.1 23 k).toInt = _; rw [m4 23 (by omega) (by omega)]; rfl, ROs_eq (w := w) ew.2.2.1, ew.2.2.2]
    exact cr
  have x33 : F wC 133 = ((p : Nat) : Int) := by
    rw [← r11]
    show (wC.1 133).toInt = (w.1 133).toInt
    rw [w2' 133 (by omega), g1.1.1 133 (by simp)]
  have e45 : F mB (pq p 45) = ((l : Nat) : Int) := by
    rw [← hl]
    exact congrArg Int32.toInt (lp 45 (by omega)).1
  have e05 : F mB 1105 = ((a : Nat) : Int) := by
    rw [← r2]
    exact congrArg Int32.toInt (m2 1105 (by omega) (by omega))
  have e98 : A wC 98 (60 * p + j) = ((n + 1 : Nat) : Int) := by
    rw [← h98]
    exact congrArg Int32.toInt (lw.1 98 _ (Or.inr (Or.inl ⟨⟨by omega, by omega⟩, by omega, by omega⟩)))
  have tk := take_r (N := N) (W := W) (show p < 24 by omega) x33 plB.2.2.1.2.1 (by omega)
  unfold an4 hb_Ma_spawn_170
  refine r_bb (r_bnd (pk_mo tk (fun w4 r e => ?_)))
  obtain ⟨rfl, -⟩ := e
  rw [oI, show (4 : Int32) = I 4 from rfl, e_make, term_e]
  simp only [bb_e, bnd_so]
  unfold hm_Ma_answer hb_Ma_answer_0
  rw [show (1 : Int32) = I 1 from rfl, drop_e (W := W + 1) (k := 1) (x := 1) plB.2.2.1.1 rfl (by omega), bnd_so, Nat.add_sub_cancel]
  simp only [bb_e, bnd_so]
  have g3 : FGw p j (swW p j w wC) (wa wC 92 p ((W : Nat) : Int)) := FGw.tr gB FGw.w92
  refine pre_pp (l := l) (t := mk 4 ((PR : Nat) : Int)) (x := mk 4 ((PR : Nat) : Int)) (by omega) ruB (by omega) ⟨by omega, hl2.2⟩ (RTb_lit (nh_mk (by omega)) (fun h => ?_)) FGm.drop g3 pd (by rw [wi_ne (pq_inj (by omega))]; exact e45) (by rw [wa_rne (by omega)]; exact e98) (by rw [wi_ne (pq_n (by omega))]; exact e05) (by omega) crB (fun m8 w8 pl8 ru8 f8 g8 => ?_)
  · rw [so_mk (by omega) (by omega)] at h
    omega
  have gm8 := GGm_fg f8
  have gw8 := GGw_fg g8 hj
  have gwB := GGw_fg gB hj
  have L8 : ∀ d, d ≠ p → LOCw d wC w8 := fun d hd => ((gwB.1 d hd).sym).tr2 (gw8.1 d hd)
  have pg2 : PG0 mB (swW p j w wC) m8 w8 := PG0_gg gm8 gw8
  have pgC : PG0 mB wC m8 w8 := ⟨pg2.1, fun K hK => (pg2.2.1 K hK).trans (gwB.2.1.1 K hK).symm, pg2.2.2.1.trans gwB.2.1.2.1.symm, pg2.2.2.2.1.trans gwB.2.1.2.2.1.symm, pg2.2.2.2.2.1.trans gwB.2.1.2.2.2.1.symm, pg2.2.2.2.2.2.trans gwB.2.1.2.2.2.2.symm⟩
  have g1' := GGw_fg g1 hj
  have f8C : FGw p j wC w8 := by
    obtain ⟨b1, b2, b3, b4, b5, b6, b7⟩ := gB
    obtain ⟨d1, d2, d3, d4, d5, d6, d7⟩ := g8
    exact ⟨⟨fun k hk => (d1.1 k hk).trans (b1.1 k hk).symm, fun k hk => (d1.2.1 k hk).trans (b1.2.1 k hk).symm, fun k hk => (d1.2.2.1 k hk).trans (b1.2.2.1 k hk).symm, fun k hk => (d1.2.2.2 k hk).trans (b1.2.2.2 k hk).symm⟩, fun k hk => ⟨(d2 k hk).1.trans (b2 k hk).1.symm, (d2 k hk).2.1.trans (b2 k hk).2.1.symm, (d2 k hk).2.2.trans (b2 k hk).2.2.symm⟩, fun k hk => (d3 k hk).trans (b3 k hk).symm, fun k hk => (d4 k hk).trans (b4 k hk).symm, fun k hk => (d5 k hk).trans (b5 k hk).symm, fun k hk => (d6 k hk).trans (b6 k hk).symm, fun k hk => (d7 k hk).trans (b7 k hk).symm⟩
  refine c m8 w8 (fun P2 s2 => ?_) pl8 ru8 gm gw f8 f8C
  have hs := nal.1.1.1.2.2
  have na8 := AL_loc nal ⟨hs, by omega, hL, by omega, by rw [n9.2.2]; omega⟩ pgC (gm8.1 PR (Ne.symm pn)) (L8 PR (Ne.symm pn))
  refine WL_new (WL_t wl) (by rw [q9]; omega) hq s2 (fun d h1 h2 => ⟨LOCm.tr (m1 d h2) (gm8.1 d h1), ((g1'.1 d h1).tr2 (w1' d h2)).tr2 (L8 d h1)⟩) ?_ ?_ ?_ pl8 (SC_fg scB f8 g8) ru8 hpp ⟨?_, ?_⟩ ⟨b2, s, L, 0, 0, na8⟩
  · exact ⟨⟨pg2.1.1.trans pg.1.1.1, pg2.1.2.1.trans pg.1.1.2.1, pg2.1.2.2.trans pg.1.1.2.2⟩, fun K hK => (pg2.2.1 K hK).trans (pg.1.2.1 K hK), pg2.2.2.1.trans pg.1.2.2.1, pg2.2.2.2.1.trans pg.1.2.2.2.1, pg2.2.2.2.2.1.trans pg.1.2.2.2.2.1, pg2.2.2.2.2.2.trans pg.1.2.2.2.2.2⟩
  · show (m8.1 955).toInt = (m.1 955).toInt
    rw [gm8.2.2.1, m2 955 (by omega) (by omega)]
  · show (w8.1 150).toInt = (w.1 150).toInt
    rw [gw8.2.2.1, bw 150 (by omega) (by omega) (by omega) (by omega)]
  · rw [show F m8 (pq PR 9) = F mB (pq PR 9) from congrArg Int32.toInt (gm8.1 PR (Ne.symm pn) 9 (by omega)).1, n9.1]
    omega
  · rw [show A w8 109 PR = A wC 109 PR from congrArg Int32.toInt ((L8 PR (Ne.symm pn)).1 109 PR (Or.inl ⟨by omega, rfl⟩)), n9.2.1]
    omega
end
end
section
set_option maxRecDepth 100000
section
variable {b : Int → Nat → Nat → Prop} {h h' : Nat → Int64} {n n' : Nat}
theorem ISb_no : ISb (fun _ _ _ => False) h n h' n' := ⟨fun t x z r => by
  rcases r with ⟨c, -⟩ | ⟨-, -, -, c⟩
  · exact absurd z c
  · exact c.elim, fun _ _ _ _ _ _ c => c.elim, fun _ _ _ c => c.elim⟩
end
section
variable {N q : Nat} {m : MS} {z : Nat}
theorem want_0 (h4 : F m (pq q 4) = 0) (hz : z ≤ 500) : hm_Pr_want N m q (I ((z : Nat) : Int)) = some (m, 1) := by
  unfold hm_Pr_want hb_Pr_want_0 hb_Pr_want_16 hb_Pr_want_33
  have h4' : F m (pq q 4) = ((0 : Nat) : Int) := h4
  rw [I_F' h4', addN, show (500 : Int32) = I 500 from rfl, decI (by omega) (by omega) (by omega) (by omega), show decide (((0 + z : Nat) : Int) ≤ 500) = true from decide_eq_true (by omega), br_tq, decL (by omega) (by omega) (by omega) (by omega), show decide ((500 : Int) < ((0 + z : Nat) : Int)) = false from decide_eq_false (by omega), br_fq]
  rfl
end
section
variable {α β : Type} {b : Int → Nat → Nat → Prop} {Fv Fv' : Int64 → Int64 → Prop} {P P' : Int64 → Prop} {N PR p U : Nat} {ow kd ow' kd' : Nat → Nat} {m0 wS : MS} {t x v3 : Int64} {fn en : Int32} {Q : MS → α → MS → β → Prop} {KL : MS → Unit → Option (MS × α)} {KR : MS → Unit → Option (MS × β)} {h : Nat → Int64} {G : MS → Int32 → Int64 → Int32 → Int32 → Option (MS × Unit)}
theorem sp_mid (hpp : p < 24) (hPR : PR < 24) (hpn : p ≠ PR) (hh : m0.2.2.2 (pq p 2) = h) (g : HPc h U ow kd Fv P) (hU : U ≤ 500) (hF : FVc Fv) (g' : HP (hp wS p) U ow' kd' Fv' P') (is : ISb b h U (hp wS p) U) (tp : TPb b U ow kd P U ow' kd' P' t x) (e3 : so t = 3) (hv : va t = ((vn t : Nat) : Int)) (hv2 : vn t < 512) (h21 : F m0 (pq PR 21) = 0) (h24 : F m0 (pq PR 24) = 0) (h26 : F m0 (pq PR 26) = 0) (h4 : F m0 (pq PR 4) = 0) (fo : hm_Ma_functionOf N m0 ((h (vn t)).toInt32) = some (m0, fn)) (eo : hm_Ma_entryOf N m0 p ((h (vn t)).toInt32) = some (m0, en)) (h133 : F wS 133 = ((p : Nat) : Int)) (h89 : A wS 89 PR = 0) (hN : 6000 ≤ N)
    (kk : ∀ m4 r w4 r2 b2 s, FR [pq PR 4] [] [] [pq PR 2, 45] (opS m0 PR 0 0 0 fn en) m4 → F m4 (pq PR 4) = ((s : Nat) : Int) → FR [] [] [89, 142] [88, 141] wS w4 → (∀ r, A w4 89 r = if r = PR then ((s : Nat) : Int) else A wS 89 r) → (∀ i, ¬ (500 * PR ≤ i ∧ i < 500 * PR + 500) → w4.2.2.2 88 i = wS.2.2.2 88 i) → ISb b2 (m4.2.2.2 (pq PR 2)) s (hp w4 PR) s → RTb b2 r r2 → s ≤ 500 → (so r = 3 ∧ va r = 0 ∧ m4.2.2.2 (pq PR 2) 0 = h (vn t) ∧ m4.2.2.2 (pq PR 2) 1 = h (vn t + 1)) → (va r2 = 0 ∧ hp w4 PR 1 = hp wS p (vn x + 1)) → PP Q (bnd (hm_Ma_hold N m4 p PR (pq PR 2) r) (fun u _ => bnd (hb_Ma_spawn_170 N () u p PR) KL)) (bnd (br (decide ((lg_cmp v3 0) < 0)) (an4 N w4 (I ((PR : Nat) : Int))) (bnd (fm_M_valueOf N w4 r2) (fun u10 r10 => bnd (fm_M_cell N u10 (I ((PR : Nat) : Int)) (r10 + 1)) (fun u11 r11 => ck (inb (I ((60 * PR : Nat) : Int)) (ln 101)) (lt (upA u11 101 (upd (u11.2.2.1 101) (I ((60 * PR : Nat) : Int)).toNatClampNeg (r11.toInt32))) (fun w12 => G w12 (I ((PR : Nat) : Int)) r2 (r11.toInt32) (0))))))) KR)) :
    PP Q (bnd (hb_Ma_spawn_59 N () m0 p t (some PR)) KL) (bnd (fb_M_spawnRun_150 N G wS x v3 (I ((PR : Nat) : Int)) (I ((60 * PR : Nat) : Int))) KR) := by
  obtain ⟨rt, gt, gt'⟩ := id tp
  have zt : isH t := Or.inl e3
  have zx : isH x := (RTb_isH rt).mpr zt
  have ex : so x = 3 := by rw [RTb_so rt]; exact e3
  unfold hb_Ma_spawn_59 fb_M_spawnRun_150
  rw [show decide ((some PR : Option Nat) = none) = false from rfl, br_fq]
  have oe : hm_Fr_open N m0 PR fn en 0 = some (opS m0 PR 0 0 0 fn en, ()) := open_e (j := 0) (B := 0) (P0 := 0) (ar := 0) h21 (by omega) h24 h26
  refine lb_ck (fun _ => ?_)
  rw [bo_s, show (t.toInt32).toNatClampNeg = vn t from by rw [valI, hv]; exact tnI (n := vn t) rfl (by omega), hh, fo, bnd_so, eo, bnd_so, oe, bnd_so, I_F' h133]
  generalize hO : opS m0 PR 0 0 0 fn en = mO at kk
  have oJ : mO.2.2.2 = m0.2.2.2 := by rw [← hO]; rfl
  have o4 : F mO (pq PR 4) = 0 := by
    rw [← hO, ← h4]
    show ((wi m0 (pq PR 21) ((0 + 1 : Nat) : Int)).1 (pq PR 4)).toInt = _
    rw [wi_1 (pq_inj (by omega))]
    rfl
  refine l_bb (r_bb (pp_bb (pp_mo (size_pp (N := N) (v := pq p 2) (h := h) (p := p) (by unfold pq; omega) (by rw [oJ]; exact hh) rfl g hU hF g' hU (by omega) is tp hN) (fun m3 r w3 r' e => ?_))))
  obtain ⟨⟨fm3, fw3⟩, z, z1, ⟨f1, sz⟩, ⟨f2, sz'⟩, rfl, rfl⟩ := e
  obtain ⟨f9, s9, sz9, big⟩ := g t zt gt
  have es := SZ_func sz9 sz
  subst es
  have hs : s9 ≤ 500 := by
    rcases Nat.lt_or_ge 500 s9 with c | c
    · have := (big c).1
      omega
    · exact c
  have m34 : F m3 (pq PR 4) = 0 := by rw [FR.F fm3 (by simp)]; exact o4
  have w33 : F w3 133 = ((p : Nat) : Int) := by rw [FR.F fw3 (by simp)]; exact h133
  have hp3 : hp w3 p = hp wS p := by unfold hp; rw [fw3.2.2.2 88 (by simp)]
  have hh3 : m3.2.2.2 (pq p 2) = h := by rw [fm3.2.2.2 _ (by simp; unfold pq; omega), oJ]; exact hh
  have w389 : A w3 89 PR = 0 := by rw [FR.A fw3 (by simp)]; exact h89
  rw [if_pos hs, want_0 m34 hs, bnd_so, show decide ((1 : Int32) = 0) = false from rfl, br_fq, show (500 : Int32) = I 500 from rfl, decI (by omega) (by omega) (by omega) (by omega), show decide (((s9 : Nat) : Int) ≤ 500) = true from decide_eq_true (by omega), br_tq, I_F' w33]
  refine l_bb (r_bb (pp_bb (fun m4 r w4 r2 e1 e2 => ?_)))
  have g3 : HP (hp w3 p) U ow' kd' Fv' P' := by rw [hp3]; exact g'
  have sz3 : SZ (hp w3 p) U ow' kd' Fv' P' f2 x s9 := by rw [hp3]; exact sz'
  obtain ⟨⟨b2, -, -, is2, rt2⟩, ⟨y1, y2, -⟩, y4, y5, y6⟩ := copy_pp (N := N) (m := m3) (w := w3) (q := PR) (v := pq p 2) (o := p) (h := h) (s0 := 0) (s0' := 0) (bD := fun _ _ _ => False) (owd := fun _ => 0) (kdd := fun _ => 0) g hF hh3 (by omega) (fun c => absurd c (by unfold pq; omega)) g3 hU (by omega) hPR (fun c => absurd c hpn) (by rw [hp3]; exact is.w) rt sz sz3 (by rw [m34]; rfl) (by rw [w389]; rfl) ISb_no ⟨by omega, by omega⟩ HP_0 (by omega) m4 r w4 r2 e1 e2
  obtain ⟨-, -, -, ow2, kd2, -, -, -, -, -, sr, hdr⟩ := pk_ok (copyIn_hd (N := N) (u := m3) (q := PR) (b := pq p 2) (s0 := 0) (owd := fun _ => 0) (kdd := fun _ => 0) g hF (by omega) (by omega) (fun c _ => by rw [hh3]) (fun c => absurd c (by unfold pq; omega)) sz (by rw [m34]; rfl) HP_0 (by omega)) m4 r e1
  obtain ⟨vr, cl⟩ := hdr zt
  have pr : prt t = 2 := by unfold prt; rw [e3]; rfl
  have c0 := cl 0 (by omega)
  have c1 := cl 1 (by omega)
  have rr := copy_res (N := N) (w := w3) (s0' := 0) (by omega) zx (by rw [w389]; rfl) w4 r2 e2
  have v2 : va r2 = 0 := by rw [rr, va_rp (by omega) (by omega)]; rfl
  have cc : hp w4 PR (vn r2 + 1) = hp w3 p (vn x + 1) := copy_c1 (N := N) (p := p) (q := PR) (by omega) (by omega) hpn hU hs g3 sz3 w389 (by omega) ex w4 r2 e2
  rw [show vn r2 + 1 = 1 by unfold vn; rw [v2]; rfl, hp3] at cc
  rw [Nat.zero_add] at is2 y2
  show PP Q (bnd (bnd (hm_Ma_hold N m4 p PR (pq PR 2) r) (fun u36 _ => hb_Ma_spawn_170 N () u36 p PR)) KL) _
  refine l_bb ?_
  refine kk m4 r w4 r2 b2 s9 (FR.tr (FR.mo fm3 (by simp) (by simp) (by simp) (by simp)) (FR.mo y1 (by simp) (by simp) (by simp) (by simp))) y2 (FR.tr (FR.mo fw3 (by simp) (by simp) (by simp) (by simp)) y4) (fun r => ?_) (fun i hi => ?_) is2 rt2 hs ⟨sr.trans e3, vr, c0, c1⟩ ⟨v2, cc⟩
  · rw [y5 r, Nat.zero_add, FR.A fw3 (by simp)]
  · rw [y6 i (by omega), fw3.2.2.2 88 (by simp)]
end
end
section
set_option maxRecDepth 100000
section
variable {N q d K i s L uu e ad : Nat} {u w w0 w2 w4 m m0 m4 m5 : MS} {fn en : Int32} {f : Int} {H : List Nat}
theorem np_113 : A (npS u q) 113 i = if i = q then -1 else A u 113 i := by
  unfold npS; simp only [A_wa (x := 0) (by decide) (by decide), A_wa (x := 1) (by decide) (by decide), A_wa (x := 5) (by decide) (by decide), A_wa (x := -1) (by decide) (by decide), A_wj, A_wi]; simp
theorem np_at (hA : (89 ≤ K ∧ K ≤ 95) ∨ (106 ≤ K ∧ K ≤ 115) ∨ K = 117 ∨ K = 132 → i ≠ q) (hB : 96 ≤ K ∧ K ≤ 101 → i ≠ 60 * q) : (npS u q).2.2.1 K i = u.2.2.1 K i := by
  unfold npS
  rw [wa_at (by omega), wa_at (by omega), wa_at (by omega), wa_at (by omega), wa_at (by omega), wa_at (by omega), wa_at (by omega), wa_at (by omega), wa_at (by omega), wa_at (by omega), wa_at (by omega), wa_at (by omega)]
  show (wa (wa (wa (wa (wa (wa (wa (wa (wa (wi u 118 ((q : Int) + 1)) 89 q 0) 90 q 0) 92 q 0) 94 q 0) 95 q 1) 106 q 0) 108 q 0) 109 q 5) 110 q 0).2.2.1 K i = _
  rw [wa_at (by omega), wa_at (by omega), wa_at (by omega), wa_at (by omega), wa_at (by omega), wa_at (by omega), wa_at (by omega), wa_at (by omega), wa_at (by omega)]
  rfl
theorem np_loc (hd : d ≠ q) : LOCw d u (npS u q) := by
  have f := np_fr (u := u) (z := q)
  refine ⟨fun K i h => ?_, fun K h => np_at (by omega) (by omega), fun i _ _ => by rw [f.2.2.1 131 (by decide)], by rw [np_111, if_neg hd], fun i _ _ => by rw [f.2.2.2 88 (by decide)], fun i _ _ => by rw [f.2.2.2 91 (by decide)], fun i _ _ => by rw [f.2.2.2 93 (by decide)], fun i _ _ => by rw [f.2.2.2 107 (by decide)]⟩
  rcases h with ⟨h, rfl⟩ | ⟨h, h2⟩ | ⟨h, h2⟩ | ⟨rfl, h2⟩
  · exact np_at (fun _ => hd) (fun c => by omega)
  · exact np_at (fun c => by omega) (fun _ => by omega)
  · exact np_at (fun c => by omega) (fun c => by omega)
  · rw [f.2.2.1 116 (by decide)]
theorem cp_loc (hd : d ≠ q) (f : FR [] [] [89, 142] [88, 141] w w2) (h89 : ∀ r, A w2 89 r = if r = q then ((s : Nat) : Int) else A w 89 r) (h88 : ∀ i, ¬ (500 * q ≤ i ∧ i < 500 * q + 500) → w2.2.2.2 88 i = w.2.2.2 88 i) : LOCw d w w2 := by
  refine ⟨fun K i h => ?_, fun K h => ?_, fun i _ _ => by rw [f.2.2.1 131 (by simp)], by rw [f.2.2.2 111 (by simp)], fun i h1 h2 => h88 i (by omega), fun i _ _ => by rw [f.2.2.2 91 (by simp)], fun i _ _ => by rw [f.2.2.2 93 (by simp)], fun i _ _ => by rw [f.2.2.2 107 (by simp)]⟩
  · have hk := OWi_k h
    rw [f.2.2.1 K (by simp; omega)]
  · by_cases c : K = 89
    · subst c
      apply Int32.toInt_inj.mp
      have := h89 d
      rw [if_neg hd] at this
      exact this
    · rw [f.2.2.1 K (by simp; omega)]
theorem j93_loc (hd : d ≠ q) (hL : L ≤ 2500) (f : FR [] [] [] [93] w w2) {g : Nat → Int64} (h : ∀ k, w2.2.2.2 93 k = if 2500 * q ≤ k ∧ k < 2500 * q + L then g k else w.2.2.2 93 k) : LOCw d w w2 := by
  refine ⟨fun K i h => by rw [f.2.2.1 K (by simp)], fun K h => by rw [f.2.2.1 K (by simp)], fun i _ _ => by rw [f.2.2.1 131 (by simp)], by rw [f.2.2.2 111 (by simp)], fun i _ _ => by rw [f.2.2.2 88 (by simp)], fun i _ _ => by rw [f.2.2.2 91 (by simp)], fun i h1 h2 => ?_, fun i _ _ => by rw [f.2.2.2 107 (by simp)]⟩
  rw [h i, if_neg (by omega)]
theorem opS_1 {k j B P0 : Nat} (h : k ≠ pq q 21) : (opS m q j B P0 fn en).1 k = m.1 k := wi_1 h
theorem opS_21 : F (opS m q 0 0 0 fn en) (pq q 21) = 1 := by
  show F (wi m (pq q 21) ((0 + 1 : Nat) : Int)) (pq q 21) = 1
  rw [wi_sm (by omega) (by omega)]
  rfl
theorem opS_A {j B P0 : Nat} (h : K ≠ pq q 30) : (opS m q j B P0 fn en).2.2.1 K = m.2.2.1 K := by
  have s : ∀ (v : MS) (k : Nat) (z : Int32), (s30 v q k z).2.2.1 K = v.2.2.1 K := fun v k z => if_neg h
  unfold opS
  rw [s, s, s, s, s]
  rfl
theorem ng_m (f0 : FC q [942] [] [1948] R100 R100 R100 R100 m m0) (d0 : F m0 942 = ((q + 1 : Nat) : Int)) (f4 : FR [pq q 4] [] [] [pq q 2, 45] (opS m0 q 0 0 0 fn en) m4) (f5 : FC q [] [] [] [24, 42, 43] [] [32] [33] m4 m5) : NGm q m m5 := by
  have g := GGm_opS (m := m0) (p := q) (j := 0) (B := 0) (P0 := 0) (fn := fn) (en := en)
  refine ⟨fun d hd k hk => ⟨?_, ?_, ?_, ?_⟩, fun k h1 h2 => ?_, fun k h1 => ?_, fun K h1 h2 => ?_, ?_⟩
  · rw [f5.2.2.2.2.1 d k hk (fun c => absurd c hd), f4.1 _ (by simp; exact fun c => hd (pq_e hk (by omega) c).1), (g.1 d hd k hk).1, f0.2.2.2.2.1 d k hk (fun c => absurd c hd)]
  · rw [f5.2.2.2.2.2.1 d k hk (fun c => absurd c hd), f4.2.1 _ (by simp), (g.1 d hd k hk).2.1, f0.2.2.2.2.2.1 d k hk (fun c => absurd c hd)]
  · rw [f5.2.2.2.2.2.2.1 d k hk (fun c => absurd c hd), f4.2.2.1 _ (by simp), (g.1 d hd k hk).2.2.1, f0.2.2.2.2.2.2.1 d k hk (fun c => absurd c hd)]
  · rw [f5.2.2.2.2.2.2.2 d k hk (fun c => absurd c hd), f4.2.2.2 _ (by simp; exact ⟨fun c => hd (pq_e hk (by omega) c).1, fun c => pq_n (by omega) c.symm⟩), (g.1 d hd k hk).2.2.2, f0.2.2.2.2.2.2.2 d k hk (fun c => absurd c hd)]
  · rw [f5.1 k h1 (by simp), f4.1 k (by simp; exact pq_n h1), opS_1 (pq_n h1), f0.1 k h1 (by simpa using h2)]
  · rw [f5.2.1 k h1 (by simp), f4.2.1 k (by simp)]
    exact f0.2.1 k h1 (by simp)
  · rw [f5.2.2.1 K h1 (by simp), f4.2.2.1 K (by simp), opS_A (pq_n h1), f0.2.2.1 K h1 (by simpa using h2)]
  · rw [← d0]
    show (m5.1 942).toInt = (m0.1 942).toInt
    rw [f5.1 942 (by omega) (by simp), f4.1 942 (by simp; exact pq_n (by omega)), opS_1 (pq_n (by omega))]
theorem nw_m (hb : ∀ k, k ∈ [4, 5, 7, 8, 9, 13, 15, 21, 24, 26, 28] → F m0 (pq q k) = 0) (bv : m0.1 (pq q 11) = 0 ∧ m0.1 (pq q 12) = -1 ∧ m0.1 (pq q 29) = 0 ∧ m0.1 (pq q 13) = 0 ∧ m0.1 (pq q 15) = 0 ∧ m0.1 (pq q 5) = 0) (f4 : FR [pq q 4] [] [] [pq q 2, 45] (opS m0 q 0 0 0 fn (I ((e : Nat) : Int))) m4) (f5 : FC q [] [] [] [24, 42, 43] [] [32] [33] m4 m5) (hfn : fn.toInt = f) (he : e < 1000000) (q24 : F m5 (pq q 24) = ((L : Nat) : Int)) (nm : ∀ i x : Nat, H[i]? = some x → A m5 (pq q 32) i = ((x : Nat) : Int)) : NWm q e L f H m5 := by
  have e1 : ∀ k, k < 100 → k ≠ 4 → k ≠ 21 → k ≠ 24 → k ≠ 42 → k ≠ 43 → m5.1 (pq q k) = m0.1 (pq q k) := fun k h0 h1 h2 h3 h4 h5 => by
    rw [f5.2.2.2.2.1 q k h0 (fun _ => by simp; omega), f4.1 _ (by simp; exact fun c => h1 (pq_e h0 (by omega) c).2), opS_1 (pq_inj h2)]
  have eF : ∀ k, k < 100 → k ≠ 4 → k ≠ 21 → k ≠ 24 → k ≠ 42 → k ≠ 43 → F m5 (pq q k) = F m0 (pq q k) := fun k h0 h1 h2 h3 h4 h5 => congrArg Int32.toInt (e1 k h0 h1 h2 h3 h4 h5)
  have e30 : ∀ i, A m5 (pq q 30) i = if i = 4 then ((e : Nat) : Int) else if i = 1 then 0 else if i = 0 then f else if i = 3 then 0 else if i = 2 then 0 else A m0 (pq q 30) i := fun i => by
    have h1 : A m5 (pq q 30) i = A (opS m0 q 0 0 0 fn (I ((e : Nat) : Int))) (pq q 30) i := by
      show (m5.2.2.1 (pq q 30) i).toInt = _
      rw [f5.2.2.2.2.2.2.1 q 30 (by omega) (fun _ => by simp), f4.2.2.1 _ (by simp)]
      rfl
    rw [h1, opS_30 (by omega) (by omega), hfn, I_ti (by omega) (by omega)]
    rfl
  refine ⟨⟨(e1 5 (by omega) (by omega) (by omega) (by omega) (by omega) (by omega)).trans bv.2.2.2.2.2, q24, (eF 26 (by omega) (by omega) (by omega) (by omega) (by omega) (by omega)).trans (hb 26 (by simp)), (eF 7 (by omega) (by omega) (by omega) (by omega) (by omega) (by omega)).trans (hb 7 (by simp)), ?_, (eF 28 (by omega) (by omega) (by omega) (by omega) (by omega) (by omega)).trans (hb 28 (by simp)), (eF 9 (by omega) (by omega) (by omega) (by omega) (by omega) (by omega)).trans (hb 9 (by simp))⟩, ⟨(e1 11 (by omega) (by omega) (by omega) (by omega) (by omega) (by omega)).trans bv.1, (e1 12 (by omega) (by omega) (by omega) (by omega) (by omega) (by omega)).trans bv.2.1, (e1 13 (by omega) (by omega) (by omega) (by omega) (by omega) (by omega)).trans bv.2.2.2.1, (e1 15 (by omega) (by omega) (by omega) (by omega) (by omega) (by omega)).trans bv.2.2.2.2.1, (e1 29 (by omega) (by omega) (by omega) (by omega) (by omega) (by omega)).trans bv.2.2.1⟩, ⟨?_, ?_, ?_, ?_, ?_⟩, nm⟩
  · rw [← opS_21 (m := m0) (q := q) (fn := fn) (en := I ((e : Nat) : Int))]
    show (m5.1 (pq q 21)).toInt = _
    rw [f5.2.2.2.2.1 q 21 (by omega) (fun _ => by simp), f4.1 _ (by simp; exact fun c => by have := (pq_e (by omega) (by omega) c).2; omega)]
    rfl
  · rw [e30 0]; simp
  · rw [e30 1]; simp
  · rw [e30 2]; simp
  · rw [e30 3]; simp
  · rw [e30 4]; simp
theorem nw_w (hL : L ≤ 2500) (hf : A w 96 (60 * q) = f) (hr : ∀ K, K ≠ 94 → K ≠ 101 → K ≠ 96 → K ≠ 170 → K ≠ 89 → K ≠ 142 → w.2.2.1 K = (npS u q).2.2.1 K) (h94 : A w 94 q = ((L : Nat) : Int)) (h101 : A w 101 (60 * q) = ((L : Nat) : Int)) : NWw q L f w := by
  have ai : ∀ {x : Int32} {y : Int}, x.toInt = (I y).toInt → x = I y := fun h => Int32.toInt_inj.mp h
  have eA : ∀ K i, K ≠ 94 → K ≠ 101 → K ≠ 96 → K ≠ 170 → K ≠ 89 → K ≠ 142 → A w K i = A (npS u q) K i := fun K i h1 h2 h3 h4 h5 h6 => by show (w.2.2.1 K i).toInt = _; rw [hr K h1 h2 h3 h4 h5 h6]; rfl
  have z0 : ∀ K, K ∈ [89, 90, 92, 94, 106, 108, 110, 112, 114, 115, 117, 132] → K ≠ 94 → K ≠ 101 → K ≠ 96 → K ≠ 170 → K ≠ 89 → K ≠ 142 → A w K q = 0 := fun K hk h1 h2 h3 h4 h5 h6 => by rw [eA K q h1 h2 h3 h4 h5 h6, np_row hk, if_pos rfl]
  have r0 : ∀ K, K ∈ [89, 90, 92, 94, 106, 108, 110, 112, 114, 115, 117, 132] → K ≠ 94 → K ≠ 101 → K ≠ 96 → K ≠ 170 → K ≠ 89 → K ≠ 142 → w.2.2.1 K q = 0 := fun K hk h1 h2 h3 h4 h5 h6 => Int32.toInt_inj.mp (z0 K hk h1 h2 h3 h4 h5 h6)
  refine ⟨⟨r0 90 (by decide) (by omega) (by omega) (by omega) (by omega) (by omega) (by omega), h94, z0 92 (by decide) (by omega) (by omega) (by omega) (by omega) (by omega) (by omega), z0 108 (by decide) (by omega) (by omega) (by omega) (by omega) (by omega) (by omega), ?_, z0 106 (by decide) (by omega) (by omega) (by omega) (by omega) (by omega) (by omega), ?_⟩, ⟨r0 112 (by decide) (by omega) (by omega) (by omega) (by omega) (by omega) (by omega), ?_, r0 114 (by decide) (by omega) (by omega) (by omega) (by omega) (by omega) (by omega), r0 117 (by decide) (by omega) (by omega) (by omega) (by omega) (by omega) (by omega), r0 115 (by decide) (by omega) (by omega) (by omega) (by omega) (by omega) (by omega)⟩, hf, ?_, ?_, ?_, h101⟩
  · rw [eA 95 q (by omega) (by omega) (by omega) (by omega) (by omega) (by omega), np_95, if_pos rfl]
  · rw [eA 109 q (by omega) (by omega) (by omega) (by omega) (by omega) (by omega), np_109, if_pos rfl]
  · apply Int32.toInt_inj.mp
    show A w 113 q = -1
    rw [eA 113 q (by omega) (by omega) (by omega) (by omega) (by omega) (by omega), np_113, if_pos rfl]
  · rw [eA 97 _ (by omega) (by omega) (by omega) (by omega) (by omega) (by omega), np_fr1 (by decide), if_pos rfl]
  · rw [eA 99 _ (by omega) (by omega) (by omega) (by omega) (by omega) (by omega), np_fr0 (by decide), if_pos rfl]
  · rw [eA 100 _ (by omega) (by omega) (by omega) (by omega) (by omega) (by omega), np_fr0 (by decide), if_pos rfl]
theorem ng_w (hq : q < 24) (hd : ∀ d, d ≠ q → LOCw d u w) (f : FR [] [] [89, 94, 96, 101, 142, 170] [88, 93, 141] (npS u q) w) : NGw q u w := by
  have g := np_fr (u := u) (z := q)
  refine ⟨hd, fun k h => ?_, fun K h => ?_, ?_, ?_⟩
  · rw [f.1 k (by simp), g.1 k (by simpa using h)]
  · rw [f.2.2.1 K (by simp; omega), g.2.2.1 K (by simp; omega)]
  · rw [f.2.2.2 34 (by simp), g.2.2.2 34 (by simp)]
  · rw [FR.F f (by simp), np_118 hq]
end
end
section
set_option maxRecDepth 100000
section
variable {N p W l v cc ar : Nat} {m w : MS} {t : Int64}
theorem pm1 : hm_Ma_predefined N m p (I 1) = bnd (hm_Ma_spawn N m p) (fun u _ => hb_Ma_predefined_146 N () u p) := rfl
theorem pr1 : fm_M_predefinedRun N w (I 1) = bnd (fm_M_spawnRun N w) (fun u _ => some (u, ())) := rfl
theorem spw_w : hb_Ma_spawn_59 N () m p t none = some (tld m 1 (-1) (mk 1 11), ()) := rfl
theorem spw_n (h26 : F m (pq p 26) = ((W + 1 : Nat) : Int)) (hl : F m (pq p 45) = ((l : Nat) : Int)) (hl2 : W + 1 ≤ l ∧ l ≤ 1000000) (ht : m.2.2.2 (pq p 35) W = t) (st : so t ≠ 3) : hm_Ma_spawn N m p = some (tld m 1 (-1) (mk 1 11), ()) := by
  have be : hm_Fr_below N m p 0 = some (m, m.2.2.2 (pq p 35) W) := by
    have := below_e (N := N) (x := 0) (k := 0) (W := W + 1) (l := l) h26 hl hl2.1 hl2.2 rfl (by omega)
    rw [show W + 1 - 1 - 0 = W by omega] at this
    exact this
  unfold hm_Ma_spawn hb_Ma_spawn_0
  rw [be, bnd_so, e_tag, bnd_so, ht, show decide (I (so t) = 3) = false from by rw [show (3 : Int32) = I 3 from rfl, decE (so_r _).1 (so_r _).2 (by omega) (by omega)]; exact decide_eq_false st, br_fq]
  rfl
theorem spw_f (h26 : F m (pq p 26) = ((W + 1 : Nat) : Int)) (hl : F m (pq p 45) = ((l : Nat) : Int)) (hl2 : W + 1 ≤ l ∧ l ≤ 1000000) (ht : m.2.2.2 (pq p 35) W = t) (st : so t = 3) (hv : va t = ((v : Nat) : Int)) (hv2 : v < 512) (hc0 : va (m.2.2.2 (pq p 2) v) = ((cc : Nat) : Int)) (tk : hm_Co_takes N m (I ((cc : Nat) : Int)) = some (m, I ((ar : Nat) : Int))) (har : ar < 2000) : hm_Ma_spawn N m p = if ar = 0 then bnd (hm_Wl_born N m) (fun u r => hb_Ma_spawn_59 N () u p t r) else some (tld m 1 (-1) (mk 1 11), ()) := by
  have be : hm_Fr_below N m p 0 = some (m, m.2.2.2 (pq p 35) W) := by
    have := below_e (N := N) (x := 0) (k := 0) (W := W + 1) (l := l) h26 hl hl2.1 hl2.2 rfl (by omega)
    rw [show W + 1 - 1 - 0 = W by omega] at this
    exact this
  unfold hm_Ma_spawn hb_Ma_spawn_0
  have ib : inb (t.toInt32) 512 = true := by
    rw [valI, hv]
    exact (I_inb (by omega) (by omega)).mpr ⟨by omega, by omega⟩
  rw [be, bnd_so, e_tag, bnd_so, ht, show decide (I (so t) = 3) = true from by rw [st]; rfl, br_tq, ib, ck_t, show (t.toInt32).toNatClampNeg = v from by rw [valI, hv]; exact tnI (n := v) rfl (by omega), valI, hc0, tk, bnd_so]
  by_cases e : ar = 0
  · subst e
    rfl
  · rw [if_neg e, show decide (I ((ar : Nat) : Int) = 0) = false from by rw [lit0q, decE (by omega) (by omega) (by omega) (by omega)]; exact decide_eq_false (by omega), br_fq]
    rfl
theorem born_s (h : F m 942 < 24) : PK (fun _ r => r ≠ none) (hm_Wl_born N m) := by
  have k43 : ∀ u, PK (fun (_ : MS) r => r ≠ none) (hb_Wl_born_43 N () u) := fun u => by
    unfold hb_Wl_born_43
    refine pk_ck (fun _ => ?_)
    cases h : rf (u.2.2.1 1948 (u.1 942).toNatClampNeg) with
    | none => exact fun _ _ e => by cases e
    | some d =>
      intro m2 r e
      rw [bo_s] at e
      cases hc : hm_Pr_clear N u d with
      | none => rw [hc] at e; cases e
      | some z =>
        rw [hc] at e
        injection e with e
        injection e with ea eb
        rw [← eb]
        exact fun c => by cases c
  have r9 := F_r m 942
  unfold hm_Wl_born hb_Wl_born_0
  rw [I_F (k := 942), show (24 : Int32) = I 24 from rfl, decL r9.1 r9.2 (by omega) (by omega), decide_eq_true h, br_tq]
  exact pk_ck (fun _ => pk_br (fun _ => pk_ltq (k43 _)) (fun _ => k43 _))
theorem born_x (h : F m 942 = 24) : hm_Wl_born N m = some (m, none) := by
  unfold hm_Wl_born hb_Wl_born_0
  rw [I_F (k := 942), h]
  rfl
end
section
variable {α β : Type} {b : Int → Nat → Nat → Prop} {Fv Fv' : Int64 → Int64 → Prop} {P P' : Int64 → Prop} {N PR p i j0 U B W Y l j a n uu e ad L c : Nat} {ow kd ow' kd' : Nat → Nat} {m w w1 : MS} {t x : Int64} {nb : Nat → Nat} {Hs Os : Nat → List Nat} {H : List Nat} {y : Option (Nat × Nat × Nat)} {Q : MS → α → MS → β → Prop} {K1 : MS → Option (MS × α)} {K2 : MS → Option (MS × β)}
theorem op_spawnU (hpp : p < PR) (hPR : PR < 24) (wl : WLs (RRp p) PR Fv P Fv' P' none i j0 m w) (al : ALN m) (hq : F m 955 = ((i : Nat) : Int)) (ru : RUs m w p j nb Hs Os y a n) (sc : SCs p m w) (hW : W + 1 ≤ 46000) (hl : F m (pq p 45) = ((l : Nat) : Int)) (hl2 : W + 1 ≤ l ∧ l ≤ 1000000) (pl : PLs b p m w1 U B (W + 1) Y) (pt : PTQ m p U ow kd Fv P B (W + 1) Y) (xc : CX w1 p (hp w1 p) U ow' kd' Fv' P' (W + 1) B Y) (g1 : FGw p j w w1) (h98 : A w1 98 (60 * p + j) = ((n + 1 : Nat) : Int)) (cr : ∃ f, CRs (A m 23) (ROs w) (w.2.2.2 34) f y (a + 2) (n + 1) (Hs j) (Os j))
    (ht : m.2.2.2 (pq p 35) W = t) (hx : w1.2.2.2 91 (46000 * p + W) = x) (st : so t = 3) (hv : va t = ((vn t : Nat) : Int)) (hv2 : vn t + 2 + L ≤ 500) (hv' : va x = ((vn x : Nat) : Int)) (hv2' : vn x + 2 + L ≤ 500) (hc0 : va (m.2.2.2 (pq p 2) (vn t)) = ((uu : Nat) : Int)) (hLm : va (m.2.2.2 (pq p 2) (vn t + 1)) = ((L : Nat) : Int)) (hd : (hp w1 p (vn x)).toInt = ((uu : Nat) : Int)) (hLw : va (hp w1 p (vn x + 1)) = ((L : Nat) : Int))
    (h449 : ((uu : Nat) : Int) < F m 449) (hu : uu < 400) (f30 : A m 30 uu = 0) (f31 : A m 31 uu = ((e : Nat) : Int)) (f32 : A m 32 uu = ((ad : Nat) : Int)) (fL : A m 23 ad = ((L : Nat) : Int)) (had : ad + 1 + L < 24000) (hH : H.length = L) (nm : ∀ i x : Nat, H[i]? = some x → A m 23 (ad + 1 + i) = ((x : Nat) : Int)) (nd : H.Nodup) (h53 : A w 53 uu = ((c : Nat) : Int)) (hc : c < 100000) (h41 : A w 41 c = 0) (zr : ∃ g g2, ZRs (A m 23) (ROs w) (w.2.2.2 34) (CRs (A m 23) (ROs w) (w.2.2.2 34) g) 0 0 H [] g2 e ((c : Nat) : Int)) (hN : 6000 ≤ N)
    (k : ∀ mB wC m3 w3, (∀ P2, SFs Fv P Fv' P2 (PR + 1) m3 w3 → WLs (RRp p) (PR + 1) Fv P Fv' P2 none i j0 m3 w3) → PLs b p m3 w3 U B (W + 1) Y → RUs m3 w3 p j nb Hs Os y (a + 2) (n + 1) → NGm PR m mB → NGw PR w1 wC → FGm p mB m3 → FGw p j wC w3 → PP Q (K1 m3) (K2 w3)) : PP Q (bnd (hm_Ma_predefined N m p (I 1)) (fun u _ => K1 u)) (bnd (fm_M_predefinedRun N w1 (I 1)) (fun u _ => K2 u)) := by
  obtain ⟨⟨fa, -⟩, ⟨r2, -⟩, -, ⟨q9, q9w⟩, -, -, r11, -, -⟩ := id ru
  have hj : j < 60 := fa.1.2.2
  have pn : p ≠ PR := by omega
  have hL : L ≤ 498 := by omega
  have ebd : e + 1 < 24000 := by
    obtain ⟨g, g2, z⟩ := zr
    cases g2 with
    | zero => exact z.elim
    | succ g2 => exact z.1
  have dw := wl.1.1.1
  have cx := wl.1.1.2
  have h942 : F m 942 = ((PR : Nat) : Int) := dw.1.1.1
  have h118 : F w1 118 = ((PR : Nat) : Int) := by rw [FR.F g1.1 (by simp)]; exact wl.1.2.1.1.1.1
  have x33 : F w1 133 = ((p : Nat) : Int) := by rw [FR.F g1.1 (by simp)]; exact r11
  have tp : TPb b U ow kd P U ow' kd' P' t x := by
    rw [← ht, ← hx]
    exact ⟨pl.2.2.1.2.2 W (by omega), pt.2.2.1.2 W (by omega), xc.2.2.2.2.2.2.2.1 W (by omega)⟩
  have sx : so x = 3 := by rw [RTb_so tp.1]; exact st
  have tk := takes_u (N := N) h449 hu
  rw [f30] at tk
  have w53 : A w1 53 uu = ((c : Nat) : Int) := by rw [FR.A g1.1 (by simp)]; exact h53
  have w41 : A w1 41 c = ((0 : Nat) : Int) := by rw [FR.A g1.1 (by simp)]; exact h41
  rw [pm1, pr1, spw_f (ar := 0) (v := vn t) (cc := uu) pl.2.2.1.1 hl hl2 ht st hv (by omega) hc0 tk (by omega), if_pos rfl]
  refine l_bb (l_bb (l_bnd (fun m0 r eb => ?_)))
  refine r_bb ?_
  have hb := pk_ok (bornc_ok (N := N) dw al) m0 r eb
  have bv0 : ∀ j, r = some j → m0.1 (pq j 11) = 0 ∧ m0.1 (pq j 12) = -1 ∧ m0.1 (pq j 29) = 0 ∧ m0.1 (pq j 13) = 0 ∧ m0.1 (pq j 15) = 0 ∧ m0.1 (pq j 5) = 0 := born_v (N := N) m0 r eb
  have nn : r ≠ none := born_s (N := N) (m := m) (by rw [h942]; omega) m0 r eb
  rcases hb with ⟨hb, -⟩ | ⟨rfl, -, d0, f0, al0, z0, -⟩
  · exact absurd hb nn
  have bv := bv0 PR rfl
  have e942 : F m0 942 = ((PR + 1 : Nat) : Int) := d0.1.1.1
  have ln0 : LNB m0 PR := by
    rcases al0 PR hPR with z | ⟨-, z⟩
    · rw [d0.1.2.1 PR (by omega)] at z; cases z
    · exact z
  have hh : m0.2.2.2 (pq p 2) = m.2.2.2 (pq p 2) := f0.jo pn (by omega)
  have en := entry_u (N := N) (p := p) (m := m0) (uu := uu) (by rw [f0.Fg (by omega) (by simp)]; exact h449) hu
  have e31 : A m0 31 uu = ((e : Nat) : Int) := by rw [f0.ag (by omega) (by simp)]; exact f31
  rw [e31] at en
  refine sp_u (K := fun u _ => K2 u) (v := vn x) (uu := uu) (c := c) (ar := 0) (by omega) x33 pl.2.2.1.2.1 hW hx sx hv' (by omega) hd (by omega) w53 hc w41 ?_
  refine sp_75u (uu := uu) h118 hPR hd (by omega) ?_
  have sR : ∀ K, K ≠ 170 → (spU w1 PR uu).2.2.1 K = (npS w1 PR).2.2.1 K := fun K h => by
    unfold spU
    rw [wa_21 h, wa_21 h]
  have sF : FR [] [] [170] [] (npS w1 PR) (spU w1 PR uu) := FR.wa (FR.wa FR.rf (by simp)) (by simp)
  have npf := np_fr (u := w1) (z := PR)
  have hpS : hp (spU w1 PR uu) p = hp w1 p := by
    funext k
    show (npS w1 PR).2.2.2 88 (500 * p + k) = _
    rw [npf.2.2.2 88 (by decide)]
    rfl
  have s33 : F (spU w1 PR uu) 133 = ((p : Nat) : Int) := by rw [FR.F sF (by simp), FR.F npf (by decide)]; exact x33
  have s89 : A (spU w1 PR uu) 89 PR = 0 := by rw [FR.A sF (by simp), np_row (by decide), if_pos rfl]
  have s170 : A (spU w1 PR uu) 170 PR = ((uu : Nat) : Int) := wa_sm (by omega) (by omega)
  have sloc : ∀ d, d ≠ PR → LOCw d w1 (spU w1 PR uu) := fun d hd => ((np_loc hd).tr2 ((GGw_own (Or.inl ⟨by omega, rfl⟩)).1 d hd)).tr2 ((GGw_own (Or.inl ⟨by omega, rfl⟩)).1 d hd)
  refine sp_mid (b := b) (h := m.2.2.2 (pq p 2)) (U := U) (ow := ow) (kd := kd) (ow' := ow') (kd' := kd') (Fv := Fv) (Fv' := Fv') (P := P) (P' := P') (fn := I (-1)) (en := I ((e : Nat) : Int)) (by omega) hPR pn hh pt.1.2.2 pt.1.2.1 cx.1 (by rw [hpS]; exact xc.2.1) (by rw [hpS]; exact pl.1.2.1) tp st hv (by omega) (z0 21 (by simp)) (z0 24 (by simp)) (z0 26 (by simp)) (z0 4 (by simp)) (by rw [valI, hc0]; exact en.2) (by rw [valI, hc0]; exact en.1) s33 s89 hN (fun m4 r w4 r2' b2 s f4 s4 fw4 h89 h88 is2 rt2 hs cm cw => ?_)
  obtain ⟨sr, vr, c0, c1⟩ := cm
  obtain ⟨v2, cc⟩ := cw
  rw [hpS] at cc
  have i4 : ∀ k, k < 2000 → F m4 k = F m0 k := fun k h => by
    show (m4.1 k).toInt = (m0.1 k).toInt
    rw [f4.1 k (by simp; exact pq_n h), opS_1 (pq_n h)]
  have a4 : ∀ K i, K < 1948 → A m4 K i = A m K i := fun K i h => by
    show (m4.2.2.1 K i).toInt = (m.2.2.1 K i).toInt
    rw [f4.2.2.1 K (by simp), opS_A (pq_n (by omega)), f0.2.2.1 K (by omega) (by simp; omega)]
  have q4 : ∀ k, k < 100 → k ≠ 4 → k ≠ 21 → F m4 (pq PR k) = F m0 (pq PR k) := fun k h0 h1 h2 => by
    show (m4.1 (pq PR k)).toInt = (m0.1 (pq PR k)).toInt
    rw [f4.1 _ (by simp; exact fun c => h1 (pq_e h0 (by omega) c).2), opS_1 (pq_inj h2)]
  have h4342 : (((0 : Nat) : Int) ≤ F m4 (pq PR 43) ∧ ((0 : Nat) : Int) ≤ F m4 (pq PR 42)) := by
    obtain ⟨-, ⟨bb, -, b4, b5⟩, -⟩ := ln0
    rw [q4 43 (by omega) (by omega) (by omega), q4 42 (by omega) (by omega) (by omega), b4, b5]
    omega
  rw [hold_pp (p' := PR)]
  refine l_bnd (pk_mo (hold_m (N := N) (m := m4) (p := PR) (t := r) (v := 0) (L := L) (uu := uu) (ad := ad) (B := 0) vr (by omega) (by rw [c0]; exact hc0) (by rw [i4 449 (by omega), f0.Fg (by omega) (by simp)]; exact h449) hu (by rw [a4 32 uu (by omega)]; exact f32) had (by rw [a4 23 ad (by omega)]; exact fL) (by rw [q4 24 (by omega) (by omega) (by omega)]; exact z0 24 (by simp)) h4342) (fun m5 _ hx5 => ?_))
  obtain ⟨fx, q44, q24, q43, q32, q33⟩ := hx5
  rw [Nat.zero_add] at q24
  have dlt : decide (lg_cmp (hp w1 p (vn x)) 0 < 0) = false := decide_eq_false (Int32.not_lt.mpr ((lgc_ge _).mpr (by rw [hd]; omega)))
  rw [dlt, br_fq, valueOf_e, bnd_so, v2, show I 0 + 1 = I ((1 : Nat) : Int) from rfl, cell_e (by omega) (by omega), bnd_so, cc, valI, hLw]
  refine rb_ck (fun _ => ?_)
  rw [lt_e, tnI (n := 60 * PR) rfl (by omega), wa_e]
  have v2' : va r2' = ((0 : Nat) : Int) := v2
  refine sh_lp (w0 := wa w4 101 (60 * PR) ((L : Nat) : Int)) (q := PR) (L := L) (v := 0) (t7 := r2') hPR (by omega) v2' (by omega) (fun u fu ru93 => ?_) L N _ 0 (by omega) FR.rf (fun k => by rw [if_neg (by omega)])
  have uR : ∀ K, K ≠ 94 → (wa u 94 PR ((L : Nat) : Int)).2.2.1 K = (wa w4 101 (60 * PR) ((L : Nat) : Int)).2.2.1 K := fun K h => by rw [wa_21 h, fu.2.2.1 K (by simp)]
  have uR2 : ∀ K, K ≠ 94 → K ≠ 101 → K ≠ 89 → K ≠ 142 → (wa u 94 PR ((L : Nat) : Int)).2.2.1 K = (spU w1 PR uu).2.2.1 K := fun K h1 h2 h3 h4 => by rw [uR K h1, wa_21 h2, fw4.2.2.1 K (by simp; omega)]
  have uA : ∀ K i, K ≠ 94 → K ≠ 101 → K ≠ 89 → K ≠ 142 → A (wa u 94 PR ((L : Nat) : Int)) K i = A (spU w1 PR uu) K i := fun K i h1 h2 h3 h4 => by
    show ((wa u 94 PR ((L : Nat) : Int)).2.2.1 K i).toInt = _
    rw [uR2 K h1 h2 h3 h4]
    rfl
  have u94 : A (wa u 94 PR ((L : Nat) : Int)) 94 PR = ((L : Nat) : Int) := wa_sm (by omega) (by omega)
  have u101 : A (wa u 94 PR ((L : Nat) : Int)) 101 (60 * PR) = ((L : Nat) : Int) := by
    show ((wa u 94 PR ((L : Nat) : Int)).2.2.1 101 (60 * PR)).toInt = _
    rw [uR 101 (by omega)]
    exact wa_sm (by omega) (by omega)
  have u89 : A (wa u 94 PR ((L : Nat) : Int)) 89 PR = ((s : Nat) : Int) := by
    show ((wa u 94 PR ((L : Nat) : Int)).2.2.1 89 PR).toInt = _
    rw [uR 89 (by omega), wa_21 (by omega)]
    show A w4 89 PR = _
    rw [h89 PR, if_pos rfl]
  have u96 : A (wa u 94 PR ((L : Nat) : Int)) 96 (60 * PR) = -1 := by
    rw [uA 96 _ (by omega) (by omega) (by omega) (by omega), FR.A sF (by simp), np_fr1 (by decide), if_pos rfl]
  have u170 : A (wa u 94 PR ((L : Nat) : Int)) 170 PR = ((uu : Nat) : Int) := by rw [uA 170 _ (by omega) (by omega) (by omega) (by omega)]; exact s170
  have fN : FR [] [] [89, 94, 96, 101, 142, 170] [88, 93, 141] (npS w1 PR) (wa u 94 PR ((L : Nat) : Int)) := FR.wa (FR.tr (FR.wa (FR.tr (FR.mo sF (by simp) (by simp) (by simp) (by simp)) (FR.mo fw4 (by simp) (by simp) (by simp) (by simp))) (by simp)) (FR.mo fu (by simp) (by simp) (by simp) (by simp))) (by simp)
  have uloc : ∀ d, d ≠ PR → LOCw d w1 (wa u 94 PR ((L : Nat) : Int)) := fun d hd => by
    have s1 := (sloc d hd).tr2 (cp_loc hd fw4 h89 h88)
    have s2 : LOCw d w4 (wa w4 101 (60 * PR) ((L : Nat) : Int)) := (GGw_own (p := PR) (Or.inr (Or.inl ⟨by omega, by omega, by omega⟩))).1 d hd
    have s3 := j93_loc hd (show L ≤ 2500 by omega) fu ru93
    have s4 : LOCw d u (wa u 94 PR ((L : Nat) : Int)) := (GGw_own (p := PR) (Or.inl ⟨by omega, rfl⟩)).1 d hd
    exact ((s1.tr2 s2).tr2 s3).tr2 s4
  have gw := ng_w hPR uloc fN
  have gm := ng_m f0 e942 f4 fx
  have hm5 : m5.2.2.2 (pq PR 2) = m4.2.2.2 (pq PR 2) := fx.2.2.2.2.2.2.2 PR 2 (by omega) (fun _ => by simp)
  have hpC : hp (wa u 94 PR ((L : Nat) : Int)) PR = hp w4 PR := by
    funext k
    show u.2.2.2 88 (500 * PR + k) = _
    rw [fu.2.2.2 88 (by simp)]
    rfl
  have zr0 : isH r := Or.inl sr
  have vnr : vn r = 0 := by unfold vn; rw [vr]; rfl
  have vnr2 : vn r2' = 0 := by unfold vn; rw [v2]; rfl
  have prr : prt r = 2 := by unfold prt; rw [sr]; rfl
  have bl : blk (m4.2.2.2 (pq PR 2)) r = 2 + L := by
    unfold blk
    rw [if_neg (by omega), if_neg (by omega), if_pos sr, vnr, Nat.zero_add, c1]
    show 2 + (va (m.2.2.2 (pq p 2) (vn t + 1))).toNat = 2 + L
    rw [hLm, Int.toNat_natCast]
  obtain ⟨-, cs, -⟩ := is2.1 r r2' zr0 rt2
  have held : ∀ i, i < L → RTb b2 (m5.2.2.2 (pq PR 33) i) ((wa u 94 PR ((L : Nat) : Int)).2.2.2 93 (2500 * PR + i)) := fun i hi => by
    have h1 := cs (2 + i) (by omega) (by omega)
    rw [vnr, vnr2, Nat.zero_add] at h1
    rw [q33 i (by omega), if_neg (by omega), show 0 + 2 + (i - 0) = 2 + i by omega]
    show RTb b2 _ (u.2.2.2 93 (2500 * PR + i))
    rw [ru93, if_pos (by omega), show 0 + 2 + (2500 * PR + i - 2500 * PR) = 2 + i by omega]
    exact h1
  have A23 : A m5 23 = A m 23 := by
    funext k
    show (m5.2.2.1 23 k).toInt = _
    rw [fx.2.2.1 23 (by omega) (by simp)]
    exact a4 23 k (by omega)
  have gR : ∀ K, PRr K → (wa u 94 PR ((L : Nat) : Int)).2.2.1 K = w.2.2.1 K := fun K hK => (gw.2.2.1 K (by unfold PRr at hK; omega)).trans (g1.1.2.2.1 K (by unfold PRr at hK; simp; omega))
  have g34 : (wa u 94 PR ((L : Nat) : Int)).2.2.2 34 = w.2.2.2 34 := gw.2.2.2.1.trans (g1.1.2.2.2 34 (by simp))
  have nwm : NWm PR e L (-1) H m5 := nw_m (e := e) (H := H) z0 bv f4 fx (by rfl) (by omega) q24 (fun i x hx => by
    have hi : i < L := by
      rcases Nat.lt_or_ge i H.length with h | h
      · omega
      · rw [List.getElem?_eq_none h] at hx
        cases hx
    show (m5.2.2.1 (pq PR 32) i).toInt = _
    rw [q32 i (by omega), if_neg (by omega), show i - 0 = i by omega, a4 23 _ (by omega), nm i x hx]
    have := A_r m 23 (ad + 1 + i)
    rw [nm i x hx] at this
    exact I_ti this.1 this.2)
  have nww : NWw PR L (-1) (wa u 94 PR ((L : Nat) : Int)) := nw_w (u := w1) (by omega) u96 (fun K h1 h2 h3 h4 h5 h6 => by rw [uR2 K h1 h2 h5 h6, sR K h4]) u94 u101
  have f54 : F m5 (pq PR 4) = ((s : Nat) : Int) := by
    rw [← s4]
    exact congrArg Int32.toInt (fx.2.2.2.2.1 PR 4 (by omega) (fun _ => by simp))
  have nal := new_al (b := b2) (c := c) nwm nww hH ⟨f54, u89⟩ hs (by rw [hm5, hpC]; exact is2) held (Or.inr ⟨rfl, uu, u170, by
    show ((wa u 94 PR ((L : Nat) : Int)).2.2.1 53 uu).toInt = _
    rw [gR 53 (by unfold PRr; omega)]
    exact h53⟩) nd (by rw [A23, ROs_eq (w := w) gR, g34]; exact zr)
  exact spawn_fin (b2 := b2) (s := s) (L := L) hpp hPR wl hq ru sc hW ⟨xc.2.2.2.2.2.1.2, xc.2.2.2.2.2.2.1.2⟩ hl hl2 pl g1 h98 cr gm gw (by omega) nal ⟨nwm.1.2.2.2.2.2.2, nww.1.2.2.2.2.2.2, by show (m5.1 (pq PR 15)).toInt = 0; rw [nwm.2.1.2.2.2.1]; rfl⟩ (fun m3 w3 z1 z2 z3 z4 z5 z6 z7 => k m5 (wa u 94 PR ((L : Nat) : Int)) m3 w3 z1 z2 z3 z4 z5 z6 z7)
end
end
section
set_option maxRecDepth 100000
section
variable {α β : Type} {b : Int → Nat → Nat → Prop} {Fv Fv' : Int64 → Int64 → Prop} {P P' : Int64 → Prop} {N PR p i j0 U B W Y l j a n ff e c : Nat} {ow kd ow' kd' : Nat → Nat} {m w w1 : MS} {t x : Int64} {nb : Nat → Nat} {Hs Os : Nat → List Nat} {y : Option (Nat × Nat × Nat)} {Q : MS → α → MS → β → Prop} {K1 : MS → Option (MS × α)} {K2 : MS → Option (MS × β)}
theorem op_spawnF (hpp : p < PR) (hPR : PR < 24) (wl : WLs (RRp p) PR Fv P Fv' P' none i j0 m w) (al : ALN m) (hq : F m 955 = ((i : Nat) : Int)) (ru : RUs m w p j nb Hs Os y a n) (sc : SCs p m w) (hW : W + 1 ≤ 46000) (hl : F m (pq p 45) = ((l : Nat) : Int)) (hl2 : W + 1 ≤ l ∧ l ≤ 1000000) (pl : PLs b p m w1 U B (W + 1) Y) (pt : PTQ m p U ow kd Fv P B (W + 1) Y) (xc : CX w1 p (hp w1 p) U ow' kd' Fv' P' (W + 1) B Y) (g1 : FGw p j w w1) (h98 : A w1 98 (60 * p + j) = ((n + 1 : Nat) : Int)) (cr : ∃ f, CRs (A m 23) (ROs w) (w.2.2.2 34) f y (a + 2) (n + 1) (Hs j) (Os j))
    (ht : m.2.2.2 (pq p 35) W = t) (hx : w1.2.2.2 91 (46000 * p + W) = x) (st : so t = 3) (hv : va t = ((vn t : Nat) : Int)) (hv2 : vn t + 2 ≤ 500) (hv' : va x = ((vn x : Nat) : Int)) (hv2' : vn x + 2 ≤ 500) (hc0 : va (m.2.2.2 (pq p 2) (vn t)) = ((1000000 + ff : Nat) : Int)) (hd : (hp w1 p (vn x)).toInt = -1 - ((ff : Nat) : Int))
    (h442 : ((ff : Nat) : Int) < F m 442) (hu : ff < 666) (h449 : F m 449 ≤ 400) (f25 : A m 25 ff = 0) (f29 : A m 29 ff = ((e : Nat) : Int)) (h48 : A w 48 ff = 0) (h50 : A w 50 ff = ((c : Nat) : Int)) (zr : ∃ g g2, ZRs (A m 23) (ROs w) (w.2.2.2 34) (CRs (A m 23) (ROs w) (w.2.2.2 34) g) 0 0 [] [] g2 e ((c : Nat) : Int)) (hN : 6000 ≤ N)
    (k : ∀ mB wC m3 w3, (∀ P2, SFs Fv P Fv' P2 (PR + 1) m3 w3 → WLs (RRp p) (PR + 1) Fv P Fv' P2 none i j0 m3 w3) → PLs b p m3 w3 U B (W + 1) Y → RUs m3 w3 p j nb Hs Os y (a + 2) (n + 1) → NGm PR m mB → NGw PR w1 wC → FGm p mB m3 → FGw p j wC w3 → PP Q (K1 m3) (K2 w3)) : PP Q (bnd (hm_Ma_predefined N m p (I 1)) (fun u _ => K1 u)) (bnd (fm_M_predefinedRun N w1 (I 1)) (fun u _ => K2 u)) := by
  obtain ⟨⟨fa, -⟩, ⟨r2, -⟩, -, ⟨q9, q9w⟩, -, -, r11, -, -⟩ := id ru
  have hj : j < 60 := fa.1.2.2
  have pn : p ≠ PR := by omega
  have ebd : e + 1 < 24000 := by
    obtain ⟨g, g2, z⟩ := zr
    cases g2 with
    | zero => exact z.elim
    | succ g2 => exact z.1
  have dw := wl.1.1.1
  have cx := wl.1.1.2
  have h942 : F m 942 = ((PR : Nat) : Int) := dw.1.1.1
  have h118 : F w1 118 = ((PR : Nat) : Int) := by rw [FR.F g1.1 (by simp)]; exact wl.1.2.1.1.1.1
  have x33 : F w1 133 = ((p : Nat) : Int) := by rw [FR.F g1.1 (by simp)]; exact r11
  have tp : TPb b U ow kd P U ow' kd' P' t x := by
    rw [← ht, ← hx]
    exact ⟨pl.2.2.1.2.2 W (by omega), pt.2.2.1.2 W (by omega), xc.2.2.2.2.2.2.2.1 W (by omega)⟩
  have sx : so x = 3 := by rw [RTb_so tp.1]; exact st
  have tk := takes_f (N := N) h442 hu
  rw [f25] at tk
  have w48 : A w1 48 ff = ((0 : Nat) : Int) := by rw [FR.A g1.1 (by simp)]; exact h48
  rw [pm1, pr1, spw_f (ar := 0) (v := vn t) (cc := 1000000 + ff) pl.2.2.1.1 hl hl2 ht st hv (by omega) hc0 tk (by omega), if_pos rfl]
  refine l_bb (l_bb (l_bnd (fun m0 r eb => ?_)))
  refine r_bb ?_
  have hb := pk_ok (bornc_ok (N := N) dw al) m0 r eb
  have bv0 : ∀ j, r = some j → m0.1 (pq j 11) = 0 ∧ m0.1 (pq j 12) = -1 ∧ m0.1 (pq j 29) = 0 ∧ m0.1 (pq j 13) = 0 ∧ m0.1 (pq j 15) = 0 ∧ m0.1 (pq j 5) = 0 := born_v (N := N) m0 r eb
  have nn : r ≠ none := born_s (N := N) (m := m) (by rw [h942]; omega) m0 r eb
  rcases hb with ⟨hb, -⟩ | ⟨rfl, -, d0, f0, al0, z0, -⟩
  · exact absurd hb nn
  have bv := bv0 PR rfl
  have e942 : F m0 942 = ((PR + 1 : Nat) : Int) := d0.1.1.1
  have hh : m0.2.2.2 (pq p 2) = m.2.2.2 (pq p 2) := f0.jo pn (by omega)
  have en := entry_f (N := N) (p := p) (m := m0) (uu := ff) (by rw [f0.Fg (by omega) (by simp)]; exact h442) hu
  have e29 : A m0 29 ff = ((e : Nat) : Int) := by rw [f0.ag (by omega) (by simp)]; exact f29
  rw [e29] at en
  refine sp_f (K := fun u _ => K2 u) (v := vn x) (ff := ff) (ar := 0) (by omega) x33 pl.2.2.1.2.1 hW hx sx hv' (by omega) hd (by omega) w48 ?_
  refine sp_75f (ff := ff) h118 hPR hd (by omega) ?_
  have sR : ∀ K, K ≠ 170 → K ≠ 96 → (spF w1 PR ff).2.2.1 K = (npS w1 PR).2.2.1 K := fun K h h2 => by
    unfold spF
    rw [wa_21 h2, wa_21 h]
  have sF : FR [] [] [96, 170] [] (npS w1 PR) (spF w1 PR ff) := FR.wa (FR.wa FR.rf (by simp)) (by simp)
  have npf := np_fr (u := w1) (z := PR)
  have hpS : hp (spF w1 PR ff) p = hp w1 p := by
    funext k
    show (npS w1 PR).2.2.2 88 (500 * p + k) = _
    rw [npf.2.2.2 88 (by decide)]
    rfl
  have s33 : F (spF w1 PR ff) 133 = ((p : Nat) : Int) := by rw [FR.F sF (by simp), FR.F npf (by decide)]; exact x33
  have s89 : A (spF w1 PR ff) 89 PR = 0 := by rw [FR.A sF (by simp), np_row (by decide), if_pos rfl]
  have s96 : A (spF w1 PR ff) 96 (60 * PR) = ((ff : Nat) : Int) := wa_sm (by omega) (by omega)
  have sloc : ∀ d, d ≠ PR → LOCw d w1 (spF w1 PR ff) := fun d hd => ((np_loc hd).tr2 ((GGw_own (p := PR) (Or.inl ⟨by omega, rfl⟩)).1 d hd)).tr2 ((GGw_own (p := PR) (Or.inr (Or.inl ⟨by omega, by omega, by omega⟩))).1 d hd)
  refine sp_mid (b := b) (h := m.2.2.2 (pq p 2)) (U := U) (ow := ow) (kd := kd) (ow' := ow') (kd' := kd') (Fv := Fv) (Fv' := Fv') (P := P) (P' := P') (fn := I ((ff : Nat) : Int)) (en := I ((e : Nat) : Int)) (by omega) hPR pn hh pt.1.2.2 pt.1.2.1 cx.1 (by rw [hpS]; exact xc.2.1) (by rw [hpS]; exact pl.1.2.1) tp st hv (by omega) (z0 21 (by simp)) (z0 24 (by simp)) (z0 26 (by simp)) (z0 4 (by simp)) (by rw [valI, hc0]; exact en.2) (by rw [valI, hc0]; exact en.1) s33 s89 hN (fun m4 r w4 r2' b2 s f4 s4 fw4 h89 h88 is2 rt2 hs cm cw => ?_)
  obtain ⟨sr, vr, c0, c1⟩ := cm
  have i4 : ∀ k, k < 2000 → F m4 k = F m0 k := fun k h => by
    show (m4.1 k).toInt = (m0.1 k).toInt
    rw [f4.1 k (by simp; exact pq_n h), opS_1 (pq_n h)]
  have a4 : ∀ K i, K < 1948 → A m4 K i = A m K i := fun K i h => by
    show (m4.2.2.1 K i).toInt = (m.2.2.1 K i).toInt
    rw [f4.2.2.1 K (by simp), opS_A (pq_n (by omega)), f0.2.2.1 K (by omega) (by simp; omega)]
  have q4 : ∀ k, k < 100 → k ≠ 4 → k ≠ 21 → F m4 (pq PR k) = F m0 (pq PR k) := fun k h0 h1 h2 => by
    show (m4.1 (pq PR k)).toInt = (m0.1 (pq PR k)).toInt
    rw [f4.1 _ (by simp; exact fun c => h1 (pq_e h0 (by omega) c).2), opS_1 (pq_inj h2)]
  have vr' : va r = ((0 : Nat) : Int) := vr
  rw [hold_pp (p' := PR)]
  refine l_bnd (pk_mo (hold_0 (N := N) (m := m4) (p := PR) (t := r) (v := 0) (uu := ff) vr' (by omega) (by rw [c0]; exact hc0) (by omega) (by rw [i4 449 (by omega), f0.Fg (by omega) (by simp)]; exact h449)) (fun m5 _ hx5 => ?_))
  subst hx5
  have dlt : decide (lg_cmp (hp w1 p (vn x)) 0 < 0) = true := decide_eq_true (Int32.not_le.mp (fun z => by have := (lgc_ge _).mp z; rw [hd] at this; omega))
  rw [dlt, br_tq]
  have uR2 : ∀ K, K ≠ 89 → K ≠ 142 → w4.2.2.1 K = (spF w1 PR ff).2.2.1 K := fun K h3 h4 => fw4.2.2.1 K (by simp; omega)
  have uA : ∀ K i, K ≠ 89 → K ≠ 142 → A w4 K i = A (spF w1 PR ff) K i := fun K i h3 h4 => by
    show (w4.2.2.1 K i).toInt = _
    rw [uR2 K h3 h4]
    rfl
  have u94 : A w4 94 PR = ((0 : Nat) : Int) := by rw [uA 94 _ (by omega) (by omega), FR.A sF (by simp), np_row (by decide), if_pos rfl]; rfl
  have u101 : A w4 101 (60 * PR) = ((0 : Nat) : Int) := by rw [uA 101 _ (by omega) (by omega), FR.A sF (by simp), np_fr0 (by decide), if_pos rfl]; rfl
  have u89 : A w4 89 PR = ((s : Nat) : Int) := by rw [h89 PR, if_pos rfl]
  have u96 : A w4 96 (60 * PR) = ((ff : Nat) : Int) := by rw [uA 96 _ (by omega) (by omega)]; exact s96
  have fN : FR [] [] [89, 94, 96, 101, 142, 170] [88, 93, 141] (npS w1 PR) w4 := FR.tr (FR.mo sF (by simp) (by simp) (by simp) (by simp)) (FR.mo fw4 (by simp) (by simp) (by simp) (by simp))
  have uloc : ∀ d, d ≠ PR → LOCw d w1 w4 := fun d hd => (sloc d hd).tr2 (cp_loc hd fw4 h89 h88)
  have gw := ng_w hPR uloc fN
  have gm := ng_m f0 e942 f4 (FC.rf (u := m5))
  have A23 : A m5 23 = A m 23 := by
    funext k
    exact a4 23 k (by omega)
  have gR : ∀ K, PRr K → w4.2.2.1 K = w.2.2.1 K := fun K hK => (gw.2.2.1 K (by unfold PRr at hK; omega)).trans (g1.1.2.2.1 K (by unfold PRr at hK; simp; omega))
  have g34 : w4.2.2.2 34 = w.2.2.2 34 := gw.2.2.2.1.trans (g1.1.2.2.2 34 (by simp))
  have nwm : NWm PR e 0 ((ff : Nat) : Int) [] m5 := nw_m (e := e) (H := []) z0 bv f4 FC.rf (I_ti (by omega) (by omega)) (by omega) (by rw [q4 24 (by omega) (by omega) (by omega)]; exact z0 24 (by simp)) (fun i x hx => by cases hx)
  have nww : NWw PR 0 ((ff : Nat) : Int) w4 := nw_w (u := w1) (by omega) u96 (fun K h1 h2 h3 h4 h5 h6 => by rw [uR2 K h5 h6, sR K h4 h3]) u94 u101
  have nal := new_al (b := b2) (c := c) nwm nww rfl ⟨s4, u89⟩ hs is2 (fun i hi => absurd hi (by omega)) (Or.inl ⟨by omega, by
    rw [Int.toNat_natCast]
    show (w4.2.2.1 50 ff).toInt = _
    rw [gR 50 (by unfold PRr; omega)]
    exact h50⟩) List.nodup_nil (by rw [A23, ROs_eq (w := w) gR, g34]; exact zr)
  exact spawn_fin (b2 := b2) (s := s) (L := 0) hpp hPR wl hq ru sc hW ⟨xc.2.2.2.2.2.1.2, xc.2.2.2.2.2.2.1.2⟩ hl hl2 pl g1 h98 cr gm gw (by omega) nal ⟨nwm.1.2.2.2.2.2.2, nww.1.2.2.2.2.2.2, by show (m5.1 (pq PR 15)).toInt = 0; rw [nwm.2.1.2.2.2.1]; rfl⟩ (fun m3 w3 z1 z2 z3 z4 z5 z6 z7 => k m5 w4 m3 w3 z1 z2 z3 z4 z5 z6 z7)
end
section
variable {α β : Type} {N PR p W l uu ff c ar v v' : Nat} {m w1 : MS} {t x : Int64} {Q : MS → α → MS → β → Prop} {K1 : MS → Option (MS × α)} {K2 : MS → Option (MS × β)}
theorem op_spawnN (hpp : p < 24) (h26 : F m (pq p 26) = ((W + 1 : Nat) : Int)) (hl : F m (pq p 45) = ((l : Nat) : Int)) (hl2 : W + 1 ≤ l ∧ l ≤ 1000000) (x33 : F w1 133 = ((p : Nat) : Int)) (h92 : A w1 92 p = ((W + 1 : Nat) : Int)) (hW : W + 1 ≤ 46000) (ht : m.2.2.2 (pq p 35) W = t) (hx : w1.2.2.2 91 (46000 * p + W) = x) (st : so t ≠ 3) (sx : so x ≠ 3) (kX : PP Q (K1 (tld m 1 (-1) (mk 1 11))) (bnd (fr_M_error N w1 11) (fun u _ => K2 u))) : PP Q (bnd (hm_Ma_predefined N m p (I 1)) (fun u _ => K1 u)) (bnd (fm_M_predefinedRun N w1 (I 1)) (fun u _ => K2 u)) := by
  rw [pm1, pr1, spw_n h26 hl hl2 ht st, bnd_so, pre_tl ⟨by omega, by omega⟩ (by omega), bnd_so]
  refine r_bb ?_
  exact sp_n (K := fun u _ => K2 u) hpp x33 h92 hW hx sx kX
theorem op_spawnX (hpp : p < 24) (h942 : F m 942 = ((PR : Nat) : Int)) (h118 : F w1 118 = ((PR : Nat) : Int)) (hPR : PR ≤ 24) (h26 : F m (pq p 26) = ((W + 1 : Nat) : Int)) (hl : F m (pq p 45) = ((l : Nat) : Int)) (hl2 : W + 1 ≤ l ∧ l ≤ 1000000) (x33 : F w1 133 = ((p : Nat) : Int)) (h92 : A w1 92 p = ((W + 1 : Nat) : Int)) (hW : W + 1 ≤ 46000) (ht : m.2.2.2 (pq p 35) W = t) (hx : w1.2.2.2 91 (46000 * p + W) = x) (st : so t = 3) (sx : so x = 3) (hv : va t = ((v : Nat) : Int)) (hv2 : v < 500) (hv' : va x = ((v' : Nat) : Int)) (hv2' : v' < 500) (har : ar < 2000) (hz : ar ≠ 0 ∨ PR = 24)
    (hu : (∃ uu c : Nat, va (m.2.2.2 (pq p 2) v) = ((uu : Nat) : Int) ∧ (hp w1 p v').toInt = ((uu : Nat) : Int) ∧ ((uu : Nat) : Int) < F m 449 ∧ uu < 400 ∧ A m 30 uu = ((ar : Nat) : Int) ∧ A w1 53 uu = ((c : Nat) : Int) ∧ c < 100000 ∧ A w1 41 c = ((ar : Nat) : Int)) ∨ (∃ ff : Nat, va (m.2.2.2 (pq p 2) v) = ((1000000 + ff : Nat) : Int) ∧ (hp w1 p v').toInt = -1 - ((ff : Nat) : Int) ∧ ((ff : Nat) : Int) < F m 442 ∧ ff < 666 ∧ A m 25 ff = ((ar : Nat) : Int) ∧ A w1 48 ff = ((ar : Nat) : Int)))
    (kX : PP Q (K1 (tld m 1 (-1) (mk 1 11))) (bnd (fr_M_error N w1 11) (fun u _ => K2 u))) : PP Q (bnd (hm_Ma_predefined N m p (I 1)) (fun u _ => K1 u)) (bnd (fm_M_predefinedRun N w1 (I 1)) (fun u _ => K2 u)) := by
  have lf : ∀ cc : Nat, va (m.2.2.2 (pq p 2) v) = ((cc : Nat) : Int) → hm_Co_takes N m (I ((cc : Nat) : Int)) = some (m, I ((ar : Nat) : Int)) → hm_Ma_spawn N m p = some (tld m 1 (-1) (mk 1 11), ()) := fun cc h0 tk => by
    rw [spw_f h26 hl hl2 ht st hv (by omega) h0 tk har]
    by_cases e : ar = 0
    · have e24 : PR = 24 := by omega
      rw [if_pos e, born_x (by rw [h942, e24]; rfl), bnd_so, spw_w]
    · rw [if_neg e]
  have rx : ∀ v3, PP Q (K1 (tld m 1 (-1) (mk 1 11))) (bnd (fb_M_spawnRun_75 N (gg_M_spawnRun N N) w1 x v3 (I ((ar : Nat) : Int))) (fun u _ => K2 u)) := fun v3 => sp_x (K := fun u _ => K2 u) har h118 (by omega) hz kX
  rw [pm1, pr1]
  rcases hu with ⟨uu, c, u1, u2, u3, u4, u5, u6, u7, u8⟩ | ⟨ff, u1, u2, u3, u4, u5, u6⟩
  · have tk := takes_u (N := N) u3 u4
    rw [u5] at tk
    rw [lf uu u1 tk, bnd_so, pre_tl ⟨by omega, by omega⟩ (by omega), bnd_so]
    refine r_bb ?_
    exact sp_u (K := fun u _ => K2 u) hpp x33 h92 hW hx sx hv' hv2' u2 (by omega) u6 u7 u8 (rx _)
  · have tk := takes_f (N := N) u3 u4
    rw [u5] at tk
    rw [lf (1000000 + ff) u1 tk, bnd_so, pre_tl ⟨by omega, by omega⟩ (by omega), bnd_so]
    refine r_bb ?_
    exact sp_f (K := fun u _ => K2 u) hpp x33 h92 hW hx sx hv' hv2' u2 (by omega) u6 (rx _)
end
end
section
set_option maxRecDepth 100000
section
variable {Sf : MS → Int32 → Prop} {α β : Type} {N p k j a n d d' M2 : Nat} {m w : MS} {nb : Nat → Nat} {Hs Os : Nat → List Nat} {y : Option (Nat × Nat × Nat)} {G : MS → Nat → Int32 → Option (MS × Int32)} {Q : MS → Int32 → MS → Int32 → Prop} {D : Option (MS × α)} {Q2 : MS → α → MS → β → Prop} {K : MS → Unit → Option (MS × β)}
theorem go_pd (h9 : F m (pq p 9) = 0) (h8 : F m 1108 = 0) (hk : k < 1000000000) (ha : F m 1105 = ((a : Nat) : Int)) (ha2 : a + 1 < 24000) (hv : A m 23 a = 39) : q67 Sf N G m p (I ((k : Nat) : Int)) = bnd (hm_Ma_predefined N m p (I (A m 23 (a + 1)))) (fun u _ => q195 Sf N G u p (I ((k : Nat) : Int))) := by
  rw [go_67 h9 h8 hk ha (by omega) hv, show decide (I 39 = 39) = true from rfl, br_tq, show I ((a : Nat) : Int) + 1 = I ((a + 1 : Nat) : Int) from addN, Co_e (k := a + 1) rfl ha2, bnd_so]
theorem go_td (h9 : F m (pq p 9) = 0) (h8 : F m 1108 = 0) (hk : k < 1000000000) (ha : F m 1105 = ((a : Nat) : Int)) (ha2 : a + 1 < 24000) (hv : A m 23 a = 40) : q67 Sf N G m p (I ((k : Nat) : Int)) = bnd (hm_Ma_toward N m p (I (A m 23 (a + 1)))) (fun u _ => q195 Sf N G u p (I ((k : Nat) : Int))) := by
  rw [go_67 h9 h8 hk ha (by omega) hv, show decide (I 40 = 39) = false from rfl, br_fq, show decide (I 40 = 40) = true from rfl, br_tq, show I ((a : Nat) : Int) + 1 = I ((a + 1 : Nat) : Int) from addN, Co_e (k := a + 1) rfl ha2, bnd_so]
theorem pd_r (hpp : p < 24) (hn : n + 2 < 100000) (h27 : A w 27 n = ((2000 + d : Nat) : Int)) (hd : d < 30) (x33 : F w 133 = ((p : Nat) : Int)) (h95 : A w 95 p = ((j + 1 : Nat) : Int)) (hj : j < 60) (h : PP Q2 D (bnd (fm_M_predefinedRun N (wa w 98 (60 * p + j) ((n + 1 : Nat) : Int)) (I ((d : Nat) : Int))) K)) : PP Q2 D (bnd (fm_M_one N w (I ((n : Nat) : Int)) (I 12)) K) := by
  rw [show fm_M_one N w (I ((n : Nat) : Int)) (I 12) = bnd (fm_M_callRun N w (I ((n : Nat) : Int)) (I 12)) (fun u6 _ => some (u6, ())) from rfl]
  refine r_bb ?_
  unfold fm_M_callRun fb_M_callRun_0
  refine rb_ck (fun _ => ?_)
  rw [show decide (I 12 = 12) = true from rfl, br_tq]
  refine rb_ck (fun _ => ?_)
  rw [tnI (n := n) rfl (by omega), I_A' h27, show (2000 : Int32) = I 2000 from rfl, decL (by omega) (by omega) (by omega) (by omega), decide_eq_false (by omega), br_fq, show I ((n : Nat) : Int) + 1 = I ((n + 1 : Nat) : Int) from addN]
  refine rb_bnd (pk_mo (goto_r (N := N) hpp x33 h95 hj) (fun w2 _ e => ?_))
  subst e
  refine rb_ck (fun _ => ?_)
  have e27 : A (wa w 98 (60 * p + j) ((n + 1 : Nat) : Int)) 27 n = ((2000 + d : Nat) : Int) := by rw [wa_rne (by omega)]; exact h27
  rw [I_A' e27, I_sub, show ((2000 + d : Nat) : Int) - 2000 = ((d : Nat) : Int) by omega]
  refine r_bb ?_
  simp only [bnd_so]
  exact h
theorem pd_go {K2 : MS → Option (MS × Int32)} (hpp : p < 24) (hk : k < 1000000000) (ru : RUs m w p j nb Hs Os y a n) (h27 : 2000 ≤ A w 27 n) (pd : PDs (A w 27 n - 2000) (A m 23 a) (A m 23 (a + 1)))
    (c39 : ∀ d : Nat, d < 30 → A w 27 n = ((2000 + d : Nat) : Int) → A m 23 a = 39 → A m 23 (a + 1) = (if d ≤ 7 then ((d : Nat) : Int) else ((d : Nat) : Int) - 1) → d ≠ 2 → d ≠ 3 → d ≠ 4 → d ≠ 8 → d ≠ 16 → PP Q (bnd (hm_Ma_predefined N m p (I (if d ≤ 7 then ((d : Nat) : Int) else ((d : Nat) : Int) - 1))) (fun u _ => q195 Sf N G u p (I ((k : Nat) : Int)))) (bnd (fm_M_predefinedRun N (wa w 98 (60 * p + j) ((n + 1 : Nat) : Int)) (I ((d : Nat) : Int))) (fun u3 _ => K2 u3)))
    (c40 : ∀ d d' : Nat, (d = 2 ∧ d' = 2) ∨ (d = 3 ∧ d' = 3) ∨ (d = 4 ∧ d' = 4) ∨ (d = 8 ∧ d' = 29) ∨ (d = 16 ∧ d' = 15) → A w 27 n = ((2000 + d : Nat) : Int) → PP Q (bnd (hm_Ma_toward N m p (I ((d' : Nat) : Int))) (fun u _ => q195 Sf N G u p (I ((k : Nat) : Int)))) (bnd (fm_M_predefinedRun N (wa w 98 (60 * p + j) ((n + 1 : Nat) : Int)) (I ((d : Nat) : Int))) (fun u3 _ => K2 u3))) : PP Q (q67 Sf N G m p (I ((k : Nat) : Int))) (bnd (fm_M_one N w (I ((n : Nat) : Int)) (I 12)) (fun u3 _ => K2 u3)) := by
  obtain ⟨⟨fa, -⟩, ⟨r2, r3⟩, ⟨f0, cr0⟩, ⟨r5, r6⟩, -, ⟨r8, -, r10⟩, r11, -, -⟩ := id ru
  have cb := CR_b cr0
  have cn := CR_n cr0
  obtain ⟨⟨f1, f2, f3⟩, -⟩ := fa
  obtain ⟨⟨p1, p2⟩, p3, p4⟩ := pd
  obtain ⟨d, hd⟩ : ∃ d : Nat, A w 27 n = ((2000 + d : Nat) : Int) := ⟨(A w 27 n - 2000).toNat, by omega⟩
  have hd2 : d < 30 := by omega
  rw [hd, show ((2000 + d : Nat) : Int) - 2000 = ((d : Nat) : Int) by omega] at p3
  refine pd_r (d := d) hpp (by omega) hd hd2 r11 f2 f3 ?_
  by_cases c8 : d = 2 ∨ d = 3 ∨ d = 4 ∨ d = 8 ∨ d = 16
  · obtain ⟨d', hdd, e1⟩ : ∃ d' : Nat, ((d = 2 ∧ d' = 2) ∨ (d = 3 ∧ d' = 3) ∨ (d = 4 ∧ d' = 4) ∨ (d = 8 ∧ d' = 29) ∨ (d = 16 ∧ d' = 15)) ∧ A m 23 (a + 1) = ((d' : Nat) : Int) := by
      rcases c8 with rfl | rfl | rfl | rfl | rfl
      · exact ⟨2, by omega, p3⟩
      · exact ⟨3, by omega, p3⟩
      · exact ⟨4, by omega, p3⟩
      · exact ⟨29, by omega, p3⟩
      · exact ⟨15, by omega, p3⟩
    have e0 : A m 23 a = 40 := by rw [p4, if_pos (by omega)]
    rw [go_td r5 r8 hk r2 (by omega) e0, e1]
    exact c40 d d' hdd hd
  · have e1 : A m 23 (a + 1) = (if d ≤ 7 then ((d : Nat) : Int) else ((d : Nat) : Int) - 1) := by
      rw [p3]
      by_cases c : d ≤ 7
      · rw [if_pos (by omega), if_pos c]
      · rw [if_neg (by omega), if_neg (by omega), if_neg c]
    have e0 : A m 23 a = 39 := by
      rw [p4, if_neg ?_]
      rw [e1]
      by_cases c : d ≤ 7
      · rw [if_pos c]; omega
      · rw [if_neg c]; omega
    rw [go_pd r5 r8 hk r2 (by omega) e0, e1]
    exact c39 d hd2 hd e0 e1 (by omega) (by omega) (by omega) (by omega) (by omega)
end
end
section
set_option maxRecDepth 100000
section
variable {N p q W l : Nat} {u w m : MS} {x t : Int64} {Fv : Int64 → Int64 → Prop} {P : Int64 → Prop} {PR : Nat}
theorem tw29 : hm_Ma_toward N u p (I 29) = bnd (hm_Ma_processAt N u p 1) (fun u65 r65 => bnd (hm_Fr_below N u65 p 0) (fun u71 r71 => bnd (hm_Te_size N u71 (pq p 2) r71) (fun u73 r73 => br (decide (r73 ≤ 500)) (br (decide (r65 = none)) (bnd (hm_Ma_wrong N u73 p 11) (fun u61 _ => some (u61, ()))) (hb_Ma_toward_95 N () u73 p (I 29) 2 r65)) (br (decide (r65 = none)) (bnd (hm_Ma_wrong N u73 p 11) (fun u61 _ => some (u61, ()))) (bnd (hm_Ma_wrong N u73 p 11) (fun u61 _ => some (u61, ()))))))) := rfl
theorem prd8 : fm_M_predefinedRun N w (I 8) = bnd (fm_M_processRun N w (I 8)) (fun u6 _ => some (u6, ())) := rfl
theorem prs8 : fm_M_processRun N w (I 8) = bnd (fm_M_top N w 0) (fun u31 r31 => bnd (fm_M_top N u31 1) (fun u30 r30 => fb_M_processRun_45 N () u30 (I 8) r31 r30)) := rfl
theorem prt8 : fb_M_processRun_45 N () w (I 8) x t = bnd (fm_M_sortOf N w t) (fun u28 r28 => br (decide (r28 = 4)) (bnd (fm_M_copySize N u28 (u28.1 133) x) (fun u27 r27 => br (decide (500 < r27)) (bnd (fr_M_error N u27 11) (fun u26 _ => some (u26, ()))) (bnd (fm_M_valueOf N u27 t) (fun u25 r25 => ck (inb (u25.1 133) (ln 92)) (fb_M_processRun_151 N () u25 (I 8) x r25 92 (u25.1 133) (u25.2.2.1 92 (u25.1 133).toNatClampNeg) 2))))) (bnd (fr_M_error N u28 11) (fun u26 _ => some (u26, ())))) := by
  have d1 : decide ((1 : Int32) = 0) = false := rfl
  have d2 : decide ((0 : Int32) = 0) = true := rfl
  have d3 : decide (I 8 = 4) = false := rfl
  have d4 : decide (I 8 = 8) = true := rfl
  have d5 : decide True = true := rfl
  unfold fb_M_processRun_45 fb_M_processRun_61 fb_M_processRun_83 fb_M_processRun_104 fb_M_processRun_108 fb_M_processRun_109
  simp only [d1, d3, d4, d5, br_tq, br_fq]
theorem pat_41 (be : hm_Fr_below N m p 1 = some (m, t)) (e4 : so t = 4) (hq : va t = ((q : Nat) : Int)) (dwc : DWc Fv P PR m) (hq2 : q < PR) : hm_Ma_processAt N m p 1 = some (m, some q) := by
  unfold hm_Ma_processAt hb_Ma_processAt_0
  rw [be, bnd_so, e_tag, bnd_so, e4, show decide (I 4 = 4) = true from rfl, br_tq, valI, hq, find_e dwc hq2, bnd_so]
  rfl
theorem pat_01 (be : hm_Fr_below N m p 1 = some (m, t)) (e4 : so t ≠ 4) : hm_Ma_processAt N m p 1 = some (m, none) := by
  unfold hm_Ma_processAt hb_Ma_processAt_0
  rw [be, bnd_so, e_tag, bnd_so, show decide (I (so t) = 4) = false from by rw [show (4 : Int32) = I 4 from rfl, decE (so_r _).1 (so_r _).2 (by omega) (by omega)]; exact decide_eq_false e4, br_fq]
  rfl
end
section
variable {α β : Type} {b : Int → Nat → Nat → Prop} {Fv Fv' : Int64 → Int64 → Prop} {P P' : Int64 → Prop} {N PR p U B W Y l : Nat} {ow kd ow' kd' : Nat → Nat} {m w1 : MS} {Q : MS → α → MS → β → Prop} {K1 : MS → Option (MS × α)} {K2 : MS → Option (MS × β)}
theorem exit_hd (hp1 : p < 24) (dwc : DWc Fv P PR m) (hP4 : so (m.2.2.2 (pq p 35) W) = 4 → 0 ≤ va (m.2.2.2 (pq p 35) W) ∧ va (m.2.2.2 (pq p 35) W) < ((PR : Nat) : Int)) (h133 : F w1 133 = ((p : Nat) : Int)) (hW : W + 2 ≤ 46000) (hl : F m (pq p 45) = ((l : Nat) : Int)) (hl2 : W + 2 ≤ l ∧ l ≤ 1000000) (pl : PLs b p m w1 U B (W + 2) Y) (pt : PTQ m p U ow kd Fv P B (W + 2) Y) (hF : FVc Fv) (xc : CX w1 p (hp w1 p) U ow' kd' Fv' P' (W + 2) B Y) (hN : 6000 ≤ N)
    (kT : ∀ (q : Nat) m2 w2, q < PR → FR [] [] [] [45] m m2 → FR [] [] [] [141] w1 w2 → (so (m.2.2.2 (pq p 35) W) = 4 ∧ va (m.2.2.2 (pq p 35) W) = ((q : Nat) : Int)) → (∃ s : Nat, s ≤ 500 ∧ (∃ f, SZc (m.2.2.2 (pq p 2)) U ow kd Fv P f (m.2.2.2 (pq p 35) (W + 1)) s) ∧ ∃ f, SZ (hp w1 p) U ow' kd' Fv' P' f (w1.2.2.2 91 (46000 * p + (W + 1))) s) → PP Q (bnd (hb_Ma_toward_95 N () m2 p (I 29) 2 (some q)) (fun u _ => K1 u)) (bnd (fb_M_processRun_151 N () w2 (I 8) (w1.2.2.2 91 (46000 * p + (W + 1))) (I ((q : Nat) : Int)) 92 (I ((p : Nat) : Int)) (I ((W + 2 : Nat) : Int)) 2) (fun u _ => K2 u)))
    (kX : ∀ m2 w2, FR [] [] [] [45] m m2 → FR [] [] [] [141] w1 w2 → PP Q (K1 (tld m2 1 (-1) (mk 1 11))) (bnd (fr_M_error N w2 11) (fun u _ => K2 u))) : PP Q (bnd (hm_Ma_toward N m p (I 29)) (fun u _ => K1 u)) (bnd (fm_M_predefinedRun N w1 (I 8)) (fun u _ => K2 u)) := by
  have rt := pl.2.2.1.2.2 W (by omega)
  have tp : TPb b U ow kd P U ow' kd' P' (m.2.2.2 (pq p 35) (W + 1)) (w1.2.2.2 91 (46000 * p + (W + 1))) := ⟨pl.2.2.1.2.2 (W + 1) (by omega), pt.2.2.1.2 (W + 1) (by omega), xc.2.2.2.2.2.2.2.1 (W + 1) (by omega)⟩
  have be0 : hm_Fr_below N m p 0 = some (m, m.2.2.2 (pq p 35) (W + 1)) := by
    have := below_e (N := N) (x := 0) (k := 0) (W := W + 2) (l := l) pl.2.2.1.1 hl hl2.1 hl2.2 rfl (by omega)
    rw [show W + 2 - 1 - 0 = W + 1 by omega] at this
    exact this
  have be1 : hm_Fr_below N m p 1 = some (m, m.2.2.2 (pq p 35) W) := by
    have := below_e (N := N) (x := 1) (k := 1) (W := W + 2) (l := l) pl.2.2.1.1 hl hl2.1 hl2.2 rfl (by omega)
    rw [show W + 2 - 1 - 1 = W by omega] at this
    exact this
  rw [tw29, prd8, prs8]
  refine r_bb (r_bb ?_)
  refine r_bnd (pk_mo (show PK _ (fm_M_top N w1 0) from top_r (N := N) (k := 0) hp1 h133 pl.2.2.1.2.1 (by omega) (by omega)) (fun w4 r e => ?_))
  obtain ⟨rfl, rfl⟩ := e
  rw [show 46000 * p + (W + 2 - 1 - 0) = 46000 * p + (W + 1) by omega]
  refine r_bb ?_
  refine r_bnd (pk_mo (show PK _ (fm_M_top N w4 1) from top_r (N := N) (k := 1) hp1 h133 pl.2.2.1.2.1 (by omega) (by omega)) (fun w5 r e => ?_))
  obtain ⟨rfl, rfl⟩ := e
  rw [show 46000 * p + (W + 2 - 1 - 1) = 46000 * p + W by omega]
  generalize hx : w5.2.2.2 91 (46000 * p + W) = x at rt
  generalize hx1 : w5.2.2.2 91 (46000 * p + (W + 1)) = x1 at tp kT
  generalize ht : m.2.2.2 (pq p 35) W = t at rt be1 hP4 kT
  generalize ht1 : m.2.2.2 (pq p 35) (W + 1) = t1 at tp be0 kT
  rw [prt8, sortOf_e, bnd_so, RTb_so rt, show decide (I (so t) = 4) = decide (so t = 4) from by rw [show (4 : Int32) = I 4 from rfl, decE (so_r _).1 (so_r _).2 (by omega) (by omega)]]
  by_cases e4 : so t = 4
  · have xt := RTb_n rt (by unfold isH; omega)
    obtain ⟨v0, v1⟩ := hP4 e4
    obtain ⟨q, hq⟩ : ∃ q : Nat, va t = ((q : Nat) : Int) := ⟨(va t).toNat, by omega⟩
    rw [pat_41 be1 e4 hq dwc (by omega), bnd_so, be0, bnd_so, decide_eq_true e4, br_tq, I_F' h133]
    refine l_bb (r_bb (pp_bb (pp_mo (size_pp (N := N) (v := pq p 2) (h := m.2.2.2 (pq p 2)) (p := p) (by unfold pq; omega) rfl rfl pt.1.2.2 pt.1.2.1 hF xc.2.1 pt.1.2.1 (by omega) pl.1.2.1 tp hN) (fun m3 r w3 r' e => ?_))))
    obtain ⟨⟨fm3, fw3⟩, z, z1, sz, sz', rfl, rfl⟩ := e
    have x33 : F w3 133 = ((p : Nat) : Int) := by rw [FR.F fw3 (by simp)]; exact h133
    have x92 : A w3 92 p = ((W + 2 : Nat) : Int) := by rw [FR.A fw3 (by simp)]; exact pl.2.2.1.2.1
    rw [show (500 : Int32) = I 500 from rfl, decI (by omega) (by omega) (by omega) (by omega), decL (by omega) (by omega) (by split <;> omega) (by split <;> omega)]
    by_cases hz : z ≤ 500
    · rw [if_pos hz, show decide (((z : Nat) : Int) ≤ 500) = true from decide_eq_true (by omega), br_tq, show decide ((500 : Int) < ((z : Nat) : Int)) = false from decide_eq_false (by omega), br_fq, show decide ((some q : Option Nat) = none) = false from rfl, br_fq, valueOf_e, bnd_so, xt, hq, I_F' x33, tnI (n := p) rfl (by omega), I_A' x92]
      simp only [bb_e, bnd_so]
      refine rb_ck (fun _ => ?_)
      exact kT q m3 w3 (by omega) fm3 fw3 ⟨e4, hq⟩ ⟨z, hz, sz, sz'⟩
    · rw [if_neg hz, show decide (((z : Nat) : Int) ≤ 500) = false from decide_eq_false (by omega), br_fq, show decide ((500 : Int) < ((501 : Nat) : Int)) = true from rfl, br_tq, show decide ((some q : Option Nat) = none) = false from rfl, br_fq, wrong_e9, bnd_so, bnd_so]
      simp only [bb_e, bnd_so]
      exact kX m3 w3 fm3 fw3
  · rw [pat_01 be1 e4, bnd_so, be0, bnd_so, decide_eq_false e4, br_fq]
    obtain ⟨f9, s9, sz9⟩ := HP_szc pt.1.2.2 tp.2.1
    have s1 := SZ_max pt.1.2.2 sz9
    have hU := pt.1.2.1
    refine l_bb (l_bnd (pk_mo (pk_ok (size_ok (N := N) (b := pq p 2) (by unfold pq; omega) rfl (by omega) hF.1 (by omega) sz9 hN)) (fun m3 r e => ?_)))
    obtain ⟨fm3, rfl⟩ := e
    have all : bnd (br (decide (I ((s9 : Nat) : Int) ≤ 500)) (br (decide ((none : Option Nat) = none)) (bnd (hm_Ma_wrong N m3 p 11) (fun u61 _ => some (u61, ()))) (hb_Ma_toward_95 N () m3 p (I 29) 2 none)) (br (decide ((none : Option Nat) = none)) (bnd (hm_Ma_wrong N m3 p 11) (fun u61 _ => some (u61, ()))) (bnd (hm_Ma_wrong N m3 p 11) (fun u61 _ => some (u61, ()))))) (fun u _ => K1 u) = K1 (tld m3 1 (-1) (mk 1 11)) := by
      rw [show decide ((none : Option Nat) = none) = true from rfl, br_tq, br_tq, wrong_e9, bnd_so]
      cases decide (I ((s9 : Nat) : Int) ≤ 500) <;> rfl
    rw [all]
    simp only [bb_e, bnd_so]
    exact kX m3 w5 fm3 FR.rf
end
end
