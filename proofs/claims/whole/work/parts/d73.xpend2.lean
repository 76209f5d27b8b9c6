/-! parts: what their end writes, there -/
set_option maxRecDepth 100000
section
variable {α β : Type} {m0 w0 m w m2 w2 m3 w3 v u Z : MS} {K nm Nk W W2 : Nat → Nat} {N T D d o a b c cm p q k f i j x : Nat} {Q Q2 Q3 Q4 : Nat → Nat} {sc sc2 sc3 t : SCT} {g : Bool} {hs fs : List Nat} {v1 v2 v3 v4 v5 v8 : Int32} {RU : MS → α → MS → β → Prop} {X : MS → Int32 → Option (MS × α)} {B : Option (MS × β)}
/-- 18, a hook behind those that wait; those of the failure arrive -/
theorem pt_end (hC : XCS m0 nm m a cm sc g) (h5 : HKc m hs v5) (h8 : HKc m fs v8) (hl : (∀ h, h ∈ hs → h < a) ∧ ∀ h, h ∈ fs → h < a ∧ h ∉ hs) (hh : ∀ Z, XCS m0 nm Z (a + 2) cm sc g → (∀ k, k ≠ 441 → Z.1 k = m.1 k) → (∀ k, k ≠ 23 → Z.2.2.1 k = m.2.2.1 k) → Z.2.2.2 = m.2.2.2 → (∀ j, j < a → j ∉ fs → Z.2.2.1 23 j = m.2.2.1 23 j) → (∀ j, j ∈ fs → Z.2.2.1 23 j = I ((a + 2 : Nat) : Int)) → Z.2.2.1 23 a = 18 → HKc Z ((a + 1) :: hs) (I ((a + 1 : Nat) : Int)) → PP RU (X Z (I ((a + 1 : Nat) : Int))) B) : PP RU (bnd (jm_Co_put N m 18) (fun u9 _ => bnd (jm_Co_hook N u9 v5) (fun u12 r12 => bnd (hm_Co_arrive N u12 v8) (fun u15 _ => X u15 r12)))) B := by
  refine l_put hC.1.2.2.1.1 hC.1.2.2.1.2.2 (fun ha => ?_)
  have k1 := XCS_put (x := 18) hC ha
  unfold jm_Co_hook jb_Co_hook_0
  rw [bnd_as2]
  refine l_put k1.1.2.2.1.1 k1.1.2.2.1.2.2 (fun ha1 => ?_)
  have k2 := XCS_put (x := v5) k1 ha1
  rw [bnd_s]
  have e441 : (ptc (ptc m a 18) (a + 1) v5).1 441 = I ((a + 1 + 1 : Nat) : Int) := k2.1.2.2.1.1
  rw [e441, I_sn]
  have em : ptc (ptc m a 18) (a + 1) v5 = ptcs m a [18, v5] := rfl
  rw [em] at k2 ⊢
  have oth : ∀ j, j < a → (ptcs m a [18, v5]).2.2.1 23 j = m.2.2.1 23 j := fun j hj => ptcs_o (Or.inl hj)
  have w0' : (ptcs m a [18, v5]).2.2.1 23 a = 18 := ptcs_at (l := [18, v5]) (k := 0) rfl
  have w1' : (ptcs m a [18, v5]).2.2.1 23 (a + 1) = v5 := ptcs_at (l := [18, v5]) (k := 1) rfl
  refine arr_n k2 (HKc_fr h8 (fun j hj => oth j (hl.2 j hj).1)) (fun Z hZ hZC => ?_)
  obtain ⟨z1, z2, z3, z4, z5⟩ := hZ
  have na : ∀ j, a ≤ j → j ∉ fs := fun j hj y => by have := (hl.2 j y).1; omega
  refine hh Z hZC (fun k hk => by rw [z1]; exact ptcs_i hk) (fun k hk => (z2 k hk).trans (ptcs_r hk)) z3 (fun j hj hf => (z4 j hf).trans (oth j hj)) z5 ((z4 a (na a (Nat.le_refl _))).trans w0') ⟨rfl, ⟨by omega, by omega⟩, fun h' hm => by have := hl.1 h' hm; omega, ?_⟩
  rw [z4 (a + 1) (na (a + 1) (by omega)), w1']
  exact HKc_fr h5 (fun j hj => (z4 j (fun y => (hl.2 j y).2 hj)).trans (oth j (hl.1 j hj)))
end
