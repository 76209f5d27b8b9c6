/-! expressions: fun, both -/
set_option maxRecDepth 100000
section
variable {α β : Type} {m0 w0 m w m2 w2 m3 w3 v u w1 mS wS : MS} {K nm Nk W W2 : Nat → Nat} {N T D d o a a0 b b0 c cm cm0 cm2 cm3 q q0 r s lo lo0 mid hi i j f f2 n k kk p p2 pn ph σ tk x xa xb xc mm M m1 lv y : Nat} {Q Q0 Q2 Q3 Q4 : Nat → Nat} {sc sc0 sc2 sc3 t t2 : SCT} {e e2 : List Nat × List Nat × Nat} {g lst l2 : Bool} {L L1 L2 S : List Nat} {idc fof cvr : Int → Int → Int} {z : Unit} {rt v1 v2 v3 v4 v5 : Int32}
theorem BDs_NWd (h : BDs sc sc2) : NWd sc sc2 := by
  cases sc with
  | nil =>
    cases sc2 with
    | nil => trivial
    | cons e t => exact h.elim
  | cons e t =>
    cases sc2 with
    | nil => exact h.elim
    | cons e2 t2 =>
      have h1 : e2.1 = e.1 := h.1.1
      exact ⟨by rw [h1]; exact List.prefix_rfl, h.2, fun x hx => Or.inl (by rw [← h1]; exact hx)⟩
theorem BDs_hd (h : BDs sc sc2) : (hdS sc2).1 = (hdS sc).1 := by
  cases sc with
  | nil =>
    cases sc2 with
    | nil => rfl
    | cons e t => exact h.elim
  | cons e t =>
    cases sc2 with
    | nil => exact h.elim
    | cons e2 t2 => exact h.1.1
theorem hdn_gap : ∀ (n p : Nat) (l : List Nat), (∀ j, p ≤ j → j < p + n → K j ≠ 3) → hdn Nk K W lv n p l = l
  | 0, _, _, _ => rfl
  | n + 1, p, l, h => by
    show hdn Nk K W lv n (p + 1) (if K p = 3 ∧ W p ≤ lv ∧ Nk p ∉ l then l ++ [Nk p] else l) = l
    rw [if_neg (fun z => h p (Nat.le_refl _) (by omega) z.1)]
    exact hdn_gap n (p + 1) l (fun j a b => h j (by omega) (by omega))
theorem hdn_add : ∀ (n m p : Nat) (l : List Nat), hdn Nk K W lv (n + m) p l = hdn Nk K W lv m (p + n) (hdn Nk K W lv n p l)
  | 0, m, p, l => by rw [Nat.zero_add]; rfl
  | n + 1, m, p, l => by
    rw [show n + 1 + m = (n + m) + 1 by omega]
    show hdn Nk K W lv (n + m) (p + 1) _ = hdn Nk K W lv m (p + (n + 1)) (hdn Nk K W lv n (p + 1) _)
    rw [hdn_add n m (p + 1), show p + 1 + n = p + (n + 1) by omega]
/-- the beginning of a fun, there -/
theorem fn_beg {X : MS → Int32 → Option (MS × Unit)} {B : Option (MS × β)} {RU : MS → Unit → MS → β → Prop} (hC : XCS m0 nm m a cm sc false) (hsl : 1 ≤ sc.length ∧ sc.length ≤ 26) (hq : q < 400) (hkk : kk ≤ 6) (hh : ∀ mC, XCS m0 nm mC (a + 2) 0 (([], [], 0) :: sc) false → (∀ k, k ≠ 441 → k ≠ 709 → mC.1 k = m.1 k) → mC.1 709 = I (sc.length : Nat) → (∀ k, k ≠ 23 → k ≠ 30 → k ≠ 31 → k ≠ 40 → k ≠ 41 → mC.2.2.1 k = m.2.2.1 k) → (∀ j, j < a → mC.2.2.1 23 j = m.2.2.1 23 j) → (mC.2.2.1 23 a = 18 ∧ mC.2.2.1 23 (a + 1) = 0) → (∀ k j, k = 30 ∨ k = 31 → j ≠ q → mC.2.2.1 k j = m.2.2.1 k j) → (mC.2.2.1 30 q = I (kk : Nat) ∧ mC.2.2.1 31 q = I ((a + 2 : Nat) : Int)) → (∀ k j, k = 40 ∨ k = 41 → j ≠ sc.length → mC.2.2.1 k j = m.2.2.1 k j) → PP RU (X mC (I ((a + 1 : Nat) : Int))) B) : PP RU (lt (upI m 712 0) (fun w21 => bnd (jm_Co_put N w21 18) (fun u23 _ => bnd (jm_Co_hook N u23 0) (fun u26 r26 => ck (inb (I (q : Nat)) 400) (lt (upA u26 30 (upd (u26.2.2.1 30) q (I (kk : Nat)))) (fun w32 => ck (inb (I (q : Nat)) 400) (lt (upA w32 31 (upd (w32.2.2.1 31) q (w32.1 441))) (fun w40 => lt (if 31 < ((w40.1 709) + 1) then 31 else ((w40.1 709) + 1)) (fun y42 => lt (upI w40 709 y42) (fun w43 => ck (inb (w43.1 709) 32) (lt (upA w43 40 (upd (w43.2.2.1 40) (w43.1 709).toNatClampNeg (w43.1 706))) (fun w48 => ck (inb (w48.1 709) 32) (lt (upA w48 41 (upd (w48.2.2.1 41) (w48.1 709).toNatClampNeg 0)) (fun w52 => X w52 r26)))))))))))))) B := by
  have n712 : m.1 712 = 0 := of_decide_eq_true (by have := hC.2; exact this)
  rw [show upI m 712 0 = m from upI_id n712, lt_e]
  refine l_put hC.1.2.2.1.1 hC.1.2.2.1.2.2 (fun ha => ?_)
  have k1 := XCS_put (x := 18) hC ha
  unfold jm_Co_hook jb_Co_hook_0
  rw [bnd_as2]
  refine l_put k1.1.2.2.1.1 k1.1.2.2.1.2.2 (fun ha1 => ?_)
  have k2 := XCS_put (x := 0) k1 ha1
  rw [bnd_s]
  have em : ptc (ptc m a 18) (a + 1) 0 = ptcs m a [18, 0] := rfl
  rw [em] at k2 ⊢
  have e441 : (ptcs m a [18, 0]).1 441 = I ((a + 1 + 1 : Nat) : Int) := k2.1.2.2.1.1
  have k2' : XCS m0 nm (ptcs m a [18, 0]) (a + 2) cm sc false := k2
  have pw : ∀ k z, [(18 : Int32), 0][k]? = some z → (ptcs m a [18, 0]).2.2.1 23 (a + k) = z := fun k z hz => ptcs_at hz
  have po : ∀ j, j < a → (ptcs m a [18, 0]).2.2.1 23 j = m.2.2.1 23 j := fun j hj => ptcs_o (Or.inl hj)
  have pr : ∀ k, k ≠ 23 → (ptcs m a [18, 0]).2.2.1 k = m.2.2.1 k := fun k hk => ptcs_r hk
  have pi : ∀ k, k ≠ 441 → (ptcs m a [18, 0]).1 k = m.1 k := fun k hk => ptcs_i hk
  rw [e441, I_sn]
  generalize ptcs m a [18, 0] = m1 at k2' pw po pr pi e441
  refine l_ck (fun _ => l_lt (l_ck (fun _ => l_lt ?_)))
  have e441' : (upA m1 30 (upd (m1.2.2.1 30) q (I (kk : Nat)))).1 441 = I ((a + 2 : Nat) : Int) := e441
  have h709 : m1.1 709 = I ((sc.length - 1 : Nat) : Int) := k2'.1.2.1.1
  have e709 : (upA (upA m1 30 (upd (m1.2.2.1 30) q (I (kk : Nat)))) 31 (upd ((upA m1 30 (upd (m1.2.2.1 30) q (I (kk : Nat)))).2.2.1 31) q (I ((a + 2 : Nat) : Int)))).1 709 = I ((sc.length - 1 : Nat) : Int) := h709
  rw [e441', e709, i_suc, show sc.length - 1 + 1 = sc.length by omega]
  have if31 : (if (31 : Int32) < I (sc.length : Nat) then 31 else I (sc.length : Nat)) = I (sc.length : Nat) := if_neg (fun z => by
    have := (I_lt (x := 31) (y := ((sc.length : Nat) : Int)) (by decide) (by decide) (by omega) (by omega)).mp z
    omega)
  rw [if31, lt_e]
  refine l_lt ?_
  have m30 : W46 m1 (upA m1 30 (upd (m1.2.2.1 30) q (I (kk : Nat)))) 30 q (I (kk : Nat)) := w46_of
  generalize upA m1 30 (upd (m1.2.2.1 30) q (I (kk : Nat))) = m2 at m30 e441'
  have m31 : W46 m2 (upA m2 31 (upd (m2.2.2.1 31) q (I ((a + 2 : Nat) : Int)))) 31 q (I ((a + 2 : Nat) : Int)) := w46_of
  generalize upA m2 31 (upd (m2.2.2.1 31) q (I ((a + 2 : Nat) : Int))) = m3 at m31
  rw [upI_at, i_nt2 (p := sc.length) (by omega)]
  refine l_ck (fun _ => l_lt ?_)
  have e706 : (upI m3 709 (I (sc.length : Nat))).1 706 = I (tot sc : Nat) := by
    rw [upI_ne (by decide), m31.1, m30.1]; exact k2'.1.2.1.2.2.1
  rw [e706]
  have m40 : W46 (upI m3 709 (I (sc.length : Nat))) (upA (upI m3 709 (I (sc.length : Nat))) 40 (upd ((upI m3 709 (I (sc.length : Nat))).2.2.1 40) sc.length (I (tot sc : Nat)))) 40 sc.length (I (tot sc : Nat)) := w46_of
  generalize upA (upI m3 709 (I (sc.length : Nat))) 40 (upd ((upI m3 709 (I (sc.length : Nat))).2.2.1 40) sc.length (I (tot sc : Nat))) = m4 at m40
  have e709b : m4.1 709 = I (sc.length : Nat) := by rw [m40.1, upI_at]
  rw [e709b, i_nt2 (p := sc.length) (by omega)]
  refine l_ck (fun _ => l_lt ?_)
  have m41 : W46 m4 (upA m4 41 (upd (m4.2.2.1 41) sc.length 0)) 41 sc.length 0 := w46_of
  generalize upA m4 41 (upd (m4.2.2.1 41) sc.length 0) = mC at m41
  have iC : ∀ k, k ≠ 709 → mC.1 k = m1.1 k := fun k hk => by rw [m41.1, m40.1, upI_ne hk, m31.1, m30.1]
  have i709 : mC.1 709 = I (sc.length : Nat) := by rw [m41.1]; exact e709b
  have rC : ∀ k n, ((k ≠ 30 ∧ k ≠ 31) ∨ n ≠ q) → ((k ≠ 40 ∧ k ≠ 41) ∨ n ≠ sc.length) → mC.2.2.1 k n = m1.2.2.1 k n := fun k n h1 h2 => by
    rw [m41.2.2.1 k n (by omega), m40.2.2.1 k n (by omega)]
    show m3.2.2.1 k n = _
    rw [m31.2.2.1 k n (by omega), m30.2.2.1 k n (by omega)]
  have rF : ∀ k, k ≠ 30 → k ≠ 31 → k ≠ 40 → k ≠ 41 → mC.2.2.1 k = m1.2.2.1 k := fun k a1 a2 a3 a4 => funext (fun n => rC k n (Or.inl ⟨a1, a2⟩) (Or.inl ⟨a3, a4⟩))
  have c40 : mC.2.2.1 40 sc.length = I (tot sc : Nat) := by rw [m41.2.2.1 40 _ (Or.inl (by decide))]; exact m40.2.2.2
  have c41 : mC.2.2.1 41 sc.length = 0 := m41.2.2.2
  have c30 : mC.2.2.1 30 q = I (kk : Nat) := by
    rw [m41.2.2.1 30 _ (Or.inl (by decide)), m40.2.2.1 30 _ (Or.inl (by decide))]
    show m3.2.2.1 30 q = _
    rw [m31.2.2.1 30 _ (Or.inl (by decide))]
    exact m30.2.2.2
  have c31 : mC.2.2.1 31 q = I ((a + 2 : Nat) : Int) := by
    rw [m41.2.2.1 31 _ (Or.inl (by decide)), m40.2.2.1 31 _ (Or.inl (by decide))]
    exact m31.2.2.2
  obtain ⟨⟨p1, p2, p3, p4, p5, p6, p7⟩, p8⟩ := k2'
  refine hh mC ⟨⟨⟨fun k hk => by rw [iC k (by omega)]; exact p1.1 k hk, fun k hk => by rw [rF k (by omega) (by omega) (by omega) (by omega)]; exact p1.2 k hk⟩, ⟨i709, ⟨by show 1 ≤ sc.length + 1; omega, by show sc.length + 1 ≤ 27; omega⟩, by rw [iC 706 (by decide)]; exact p2.2.2.1, p2.2.2.2.1, ⟨c40, fun k x hk => (by cases hk), CNl_fr2 p2.2.2.2.2 (fun j hj => rC 40 j (Or.inl (by decide)) (Or.inr (by omega))) (fun j _ => by rw [rF 39 (by decide) (by decide) (by decide) (by decide)])⟩⟩, ⟨by rw [iC 441 (by decide)]; exact p3.1, p3.2⟩, by rw [iC 713 (by decide)]; exact p4, c41, Nat.zero_le _, Nat.zero_le _⟩, by rw [iC 712 (by decide)]; exact p8⟩ (fun k h1 h2 => by rw [iC k h2, pi k h1]) i709 (fun k h1 h2 h3 h4 h5 => by rw [rF k h2 h3 h4 h5, pr k h1]) (fun j hj => by rw [rF 23 (by decide) (by decide) (by decide) (by decide), po j hj]) ⟨by rw [rF 23 (by decide) (by decide) (by decide) (by decide)]; exact pw 0 18 rfl, by rw [rF 23 (by decide) (by decide) (by decide) (by decide)]; exact pw 1 0 rfl⟩ (fun k j hk hj => by rw [rC k j (Or.inr hj) (Or.inl (by omega)), pr k (by omega)]) ⟨c30, c31⟩ (fun k j hk hj => by rw [rC k j (Or.inl (by omega)) (Or.inr hj), pr k (by omega)])
end
