set_option maxRecDepth 100000
def UNS (w w2 : MS) (k : Nat) : Prop := (k = 0 ∧ w2.1 83 = w.1 83 ∧ w2.1 70 = w.1 70) ∨ ∃ t0 : Nat, w.1 83 = I (t0 : Nat) ∧ t0 + k ≤ 3000 ∧ w2.1 83 = I ((t0 + k : Nat) : Int) ∧ (∀ i, t0 ≤ i → i < t0 + k → w2.2.2.1 79 i = 7) ∧ ∃ δ : Nat, w.1 70 = I (δ : Nat) ∧ δ + k ≤ 30 ∧ w2.1 70 = I ((δ + k : Nat) : Int)
def bkW (w w2 : MS) : MS := upI (upI w2 83 (w.1 83)) 70 (w.1 70)
section
variable {m0 w0 m w v u mB wB m2 w2 m3 w3 mi : MS} {K nm Nk W W2 : Nat → Nat} {T p n N q X Y n2 p0 n0 n3 p2 ν μ κ o s L d D k q1 q2 lo li ni : Nat} {sc sc1 sc2 sc3 t : SCT} {gd Rf Zf Rg Zg : Bool} {l : List Nat} {r v1 v2 v3 v4 v5 x y : Int32} {CL CM : Int32 × Int32 × Int32 → Prop} {NC : Nat → Prop} {B1 B2 BC : MS → Prop}
theorem inb_N {n : Nat} (h : inb x n = true) : ∃ a : Nat, x = I (a : Nat) ∧ a < n := by
  unfold inb at h
  have h := of_decide_eq_true h
  refine ⟨x.toNatClampNeg, ?_, by omega⟩
  have h0 : ¬ x < 0 := fun z => h (Or.inl z)
  have e : (0 : Int) ≤ x.toInt := by
    have : ¬ x.toInt < (0 : Int32).toInt := fun z => h0 (Int32.lt_iff_toInt_lt.mpr z)
    have z0 : (0 : Int32).toInt = 0 := rfl
    omega
  have e2 : ((x.toNatClampNeg : Nat) : Int) = x.toInt := by
    show ((x.toInt.toNat : Nat) : Int) = _
    omega
  rw [e2]
  exact I_of x
theorem bnd_ck {α β : Type} {b : Bool} {x : Option (MS × β)} {g : MS → β → Option (MS × α)} : bnd (ck b x) g = ck b (bnd x g) := by cases b <;> rfl
theorem bnd_lt {α β γ : Type} {x : γ} {f : γ → Option (MS × β)} {g : MS → β → Option (MS × α)} : bnd (lt x f) g = lt x (fun a => bnd (f a) g) := rfl
theorem bnd_br {α β : Type} {b : Bool} {x y : Option (MS × β)} {g : MS → β → Option (MS × α)} : bnd (br b x y) g = br b (bnd x g) (bnd y g) := by cases b <;> rfl
theorem bnd_as2 {α β γ : Type} {o : Option (MS × β)} {f : MS → β → Option (MS × γ)} {g : MS → γ → Option (MS × α)} : bnd (bnd o f) g = bnd o (fun u r => bnd (f u r) g) := by cases o <;> rfl
theorem upI_id (h : w.1 k = x) : upI w k x = w := by
  have e : (fun j => if j = k then x else w.1 j) = w.1 := by
    funext j
    by_cases z : j = k
    · subst z; rw [if_pos rfl, h]
    · rw [if_neg z]
  unfold upI
  rw [e]
theorem bkW_i (h : k ≠ 83) (h2 : k ≠ 70) : (bkW w w2).1 k = w2.1 k := by unfold bkW; rw [upI_ne h2, upI_ne h]
theorem bkW_83 : (bkW w w2).1 83 = w.1 83 := by unfold bkW; rw [upI_ne (by decide), upI_at]
theorem bkW_70 : (bkW w w2).1 70 = w.1 70 := by unfold bkW; rw [upI_at]
theorem bkW_r : (bkW w w2).2.2.1 = w2.2.2.1 := rfl
theorem I_sn {a : Nat} : I ((a + 1 : Nat) : Int) - 1 = I (a : Nat) := by
  rw [show (1 : Int32) = I 1 from rfl, I_sub]; congr 1; omega
theorem red_1 {R : MS → Int32 ⊕ Nat → MS → Int32 → Prop} {a : Option (MS × (Int32 ⊕ Nat))} {M b0 t lv : Nat} {f : MS → Int32 → Option (MS × Int32)} (h83 : w.1 83 = I ((t + 1 : Nat) : Int)) (ht : t < 3000) (hb : b0 ≤ t) (h79 : w.2.2.1 79 t = 7) (hlv : lv ≤ 6) (hG : ∀ u r M', SMS (upI (upI w 83 (I (t : Nat))) 70 (w.1 70 - 1)) u → u.1 69 = w.1 69 → PP R a (bnd (gg_M_reduce N M' u (I (b0 : Nat)) (I (lv : Nat)) r 1) f)) : PP R a (bnd (gg_M_reduce N M w (I (b0 : Nat)) (I (lv : Nat)) r 1) f) := by
  cases M with
  | zero => exact pp_nr
  | succ M =>
    show PP R a (bnd (fb_M_reduce_6 N (gg_M_reduce N M) w (I (b0 : Nat)) (I (lv : Nat)) r 1) f)
    unfold fb_M_reduce_6 fb_M_reduce_56 fb_M_reduce_61
    rw [show decide ((1 : Int32) = 0) = false from rfl, br_fq, h83, decI (by omega) (by omega) (by omega) (by omega), decide_eq_false (by omega), br_fq, I_sn, bnd_ck]
    refine r_ck (fun _ => ?_)
    rw [bnd_lt]
    refine r_lt ?_
    rw [tnI (n := t) rfl (by omega), h79, show (7 : Int32) = I ((7 : Nat) : Int) from rfl, decide_eq_true ((I_lt (by omega) (by omega) (by omega) (by omega)).mpr (by omega)), br_tq, br_fq, bnd_lt]
    refine r_lt ?_
    rw [show decide (I ((7 : Nat) : Int) = I ((7 : Nat) : Int)) = true from decide_eq_true rfl, br_tq, bnd_lt]
    refine r_lt ?_
    have e70 : (upI w 83 (I (t : Nat))).1 70 = w.1 70 := upI_ne (by decide)
    rw [e70]
    generalize hw9 : upI (upI w 83 (I (t : Nat))) 70 (w.1 70 - 1) = w9 at hG ⊢
    have e69 : w9.1 69 = w.1 69 := by rw [← hw9, upI_ne (by decide), upI_ne (by decide)]
    have go : ∀ t1 : Int32, (vp_nar .byte (t1.toInt8.toInt32) ≠ 12 ∧ vp_nar .byte (t1.toInt8.toInt32) ≠ 15) → PP R a (bnd (fb_M_reduce_121 N (gg_M_reduce N M) w9 (I (b0 : Nat)) (I (lv : Nat)) 1 t1) f) := fun t1 h1 => by
      unfold fb_M_reduce_121 fb_M_reduce_255
      rw [bnd_ck]
      refine r_ck (fun _ => ?_)
      rw [bnd_as2]
      refine r_bnd (pk_mo (node_s h1) (fun u r2 q => ?_))
      exact hG u r2 M q.1 (q.2.1.trans e69)
    rw [bnd_ck]
    refine r_ck (fun _ => ?_)
    rw [bnd_ck]
    refine r_ck (fun _ => ?_)
    rw [bnd_br]
    exact r_br (fun _ => go 7 (by decide)) (fun _ => go 8 (by decide))
theorem red_un {R : MS → Int32 ⊕ Nat → MS → Int32 → Prop} {a : Option (MS × (Int32 ⊕ Nat))} {b0 lv t0 δ : Nat} {f : MS → Int32 → Option (MS × Int32)} (hlv : lv ≤ 6) (hb : b0 ≤ t0) : ∀ (k M : Nat) (w2 : MS) (r : Int32), t0 + k ≤ 3000 → w2.1 83 = I ((t0 + k : Nat) : Int) → (∀ i, t0 ≤ i → i < t0 + k → w2.2.2.1 79 i = 7) → w2.1 70 = I ((δ + k : Nat) : Int) → (∀ u r' M', SMS (upI (upI w2 83 (I (t0 : Nat))) 70 (I (δ : Nat))) u → u.1 69 = w2.1 69 → PP R a (bnd (gg_M_reduce N M' u (I (b0 : Nat)) (I (lv : Nat)) r' 1) f)) → PP R a (bnd (gg_M_reduce N M w2 (I (b0 : Nat)) (I (lv : Nat)) r 1) f)
  | 0, M, w2, r, h1, h2, h3, h4, hG => by
    have e : upI (upI w2 83 (I (t0 : Nat))) 70 (I (δ : Nat)) = w2 := by
      have e1 : upI w2 83 (I (t0 : Nat)) = w2 := upI_id h2
      rw [e1]; exact upI_id h4
    exact hG w2 r M (by rw [e]; exact SMS_rf) rfl
  | k + 1, M, w2, r, h1, h2, h3, h4, hG => by
    refine red_1 (t := t0 + k) h2 (by omega) (by omega) (h3 _ (by omega) (by omega)) hlv (fun u r1 M1 s1 h69 => ?_)
    have i83 : u.1 83 = I ((t0 + k : Nat) : Int) := by rw [s1.1 83 (by decide), upI_ne (by decide), upI_at]
    have i70 : u.1 70 = I ((δ + k : Nat) : Int) := by rw [s1.1 70 (by decide), upI_at, h4]; exact I_sn
    refine red_un hlv hb k M1 u r1 (by omega) i83 (fun i i1 i2 => ?_) i70 (fun u2 r2 M2 s2 h69b => ?_)
    · rw [s1.2.1 79 (by unfold SMX; omega)]; exact h3 i i1 (by omega)
    · refine hG u2 r2 M2 (SMS_tr ?_ s2) (h69b.trans h69)
      have s3 : SMS (upI (upI w2 83 (I ((t0 + k : Nat) : Int))) 70 (w2.1 70 - 1)) u := s1
      refine ⟨fun j hj => ?_, fun j hj => s3.2.1 j hj, fun a' e1 e2 => ?_⟩
      · by_cases z : j = 70
        · subst z; rw [upI_at, upI_at]
        · rw [upI_ne z, upI_ne z]
          by_cases y : j = 83
          · subst y; rw [upI_at, upI_at]
          · rw [upI_ne y, upI_ne y, s3.1 j hj, upI_ne z, upI_ne y]
      · have f1 : (upI (upI w2 83 (I ((t0 + k : Nat) : Int))) 70 (w2.1 70 - 1)).1 32 = I (a' : Nat) := by
          rw [upI_ne (by decide), upI_ne (by decide)]
          rw [upI_ne (by decide), upI_ne (by decide)] at e1
          exact e1
        obtain ⟨b', g1, g2, g3⟩ := s3.2.2 a' f1 e2
        exact ⟨b', ⟨by rw [upI_ne (by decide), upI_ne (by decide)]; exact g1.1, g1.2⟩, g2, g3⟩
end
