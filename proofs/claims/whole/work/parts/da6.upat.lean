/-! what compiling a PATTERN does to names, there alone: leaves -/
set_option maxRecDepth 100000
def UPQ (m0 : MS) (nm : Nat → Nat) (t : SCT) (own : Bool) (k : Nat) (m : MS) (a cm : Nat) (e : List Nat × List Nat × Nat) (m2 : MS) (b cm2 : Nat) (e2 : List Nat × List Nat × Nat) : Prop := PCS m0 nm m2 b cm2 (e2 :: t) own ∧ SOK (e2 :: t) ∧ e.1 <+: e2.1 ∧ tot (e2 :: t) ≤ tot (e :: t) + k ∧ (a ≤ b ∧ cm ≤ cm2) ∧ CFP m m2 a t.length
def UPP (m0 : MS) (nm : Nat → Nat) (t : SCT) (own : Bool) (k : Nat) (m : MS) (a cm : Nat) (e : List Nat × List Nat × Nat) (m2 : MS) : Prop := ∃ (b cm2 : Nat) (e2 : List Nat × List Nat × Nat), UPQ m0 nm t own k m a cm e m2 b cm2 e2
section
variable {α β : Type} {m0 w0 m w m2 w2 m3 w3 m4 v u w1 mS wS : MS} {K nm Nk W W2 : Nat → Nat} {N T D d o a a0 a2 b b0 c cm cm0 cm2 cm3 cm4 q q0 r s lo lo0 mid hi i j f f2 n n1 k k2 kk KK p p2 σ tk x xa xb xc mm M m1 lv y cl l2 : Nat} {sc sc0 sc2 sc3 t t2 : SCT} {e e2 e3 e4 : List Nat × List Nat × Nat} {g own lst : Bool} {idc fof cvr : Int → Int → Int} {fc : MS → Unit → Option (MS × α)} {RU : MS → α → MS → β → Prop} {B : Option (MS × β)} {S : SF_Cm_listPattern}
theorem UPQ_rf (hC : PCS m0 nm m a cm (e :: t) own) (ok : SOK (e :: t)) : UPQ m0 nm t own 0 m a cm e m a cm e := ⟨hC, ok, List.prefix_rfl, Nat.le_refl _, ⟨Nat.le_refl _, Nat.le_refl _⟩, CFP_rf⟩
theorem UPQ_tr (h : UPQ m0 nm t own k m a cm e m2 b cm2 e2) (h2 : UPQ m0 nm t own k2 m2 b cm2 e2 m3 c cm3 e3) : UPQ m0 nm t own (k + k2) m a cm e m3 c cm3 e3 := by
  obtain ⟨-, -, a3, a4, a5, a6⟩ := h
  obtain ⟨b1, b2, b3, b4, b5, b6⟩ := h2
  exact ⟨b1, b2, a3.trans b3, by omega, ⟨by omega, by omega⟩, CFP_tr a6 b6 a5.1⟩
theorem UPQ_mo (h : UPQ m0 nm t own k m a cm e m2 b cm2 e2) (hk : k ≤ k2) : UPQ m0 nm t own k2 m a cm e m2 b cm2 e2 := ⟨h.1, h.2.1, h.2.2.1, by have := h.2.2.2.1; omega, h.2.2.2.2⟩
/-- held names play no part, there -/
theorem CNl_dlh : ∀ {sc : SCT}, CNl m nm (hld x sc) → CNl m nm sc
  | [], h => h
  | e :: t, h => by
    unfold hld at h
    split at h
    · exact h
    · split at h
      · obtain ⟨h1, h2, h3⟩ := h
        rw [hld_len, tot_hld] at h1
        rw [tot_hld] at h2
        exact ⟨h1, h2, CNl_dlh h3⟩
      · exact h
theorem PCS_dlh (h : PCS m0 nm m a cm (hld x (e :: t)) own) : PCS m0 nm m a cm (e :: t) own := by
  obtain ⟨h1, h2, h3, h4, h5, h6, h7⟩ := h
  obtain ⟨c1, c2, c3, c4, c5⟩ := h2
  rw [hld_len] at c1 c2 h5
  rw [tot_hld] at c3 c4
  refine ⟨h1, ⟨c1, c2, c3, c4, CNl_dlh c5⟩, h3, h4, h5, h6, ?_⟩
  have : (hdS (hld x (e :: t))).1 = e.1 := by
    unfold hld
    split
    · rfl
    · split <;> rfl
  rw [this] at h7
  exact h7
/-- a NAME -/
theorem u_pnm (c : CTZ m0 w0 K T nm Nk) (hC : PCS m0 nm m a cm (e :: t) own) (ok : SOK (e :: t)) (hx : x < 1400) (hlo : lo ≤ 4001) (h4 : tot (e :: t) < 4000) {f : MS → Unit → Option (MS × Unit)} (hf : ∀ v, f v () = some (v, ())) : PK (fun v _ => UPP m0 nm t own 1 m a cm e v) (bnd (jm_Cm_nameInPattern N m (I (nm x : Nat)) (I (lo : Nat))) f) := by
  refine pu_pk (w := m0) (cp_nip c.2.2.1 hC ok hx hlo h4 (fun m2 b cm2 L sc2 q1 q2 q3 q4 => pp_end ?_) hf)
  have new : x ∉ e.1 → sc2 = bnS x (e :: t) → a ≤ b → cm ≤ cm2 → UPP m0 nm t own 1 m a cm e m2 := fun nx hs hab hcm => by
    rw [hs] at q1
    have := (rfX_le (own := true) ok hx).2
    refine ⟨b, cm2, (e.1 ++ [x], e.2.1, max e.2.2 (e.1.length + 1)), q1, bnS_ok ok hx nx, List.prefix_append _ _, ?_, ⟨hab, hcm⟩, q2⟩
    show tot t + (e.1 ++ [x]).length ≤ tot t + e.1.length + 1
    rw [List.length_append, List.length_singleton]
    omega
  rcases q4 with ⟨z1, z2, z3, z4, z5, z6⟩ | ⟨z1, z2, z3, z4, z5, z6⟩
  · subst z4
    exact ⟨b, cm2, e, q1, ok, List.prefix_rfl, by omega, ⟨by omega, by omega⟩, q2⟩
  · have cmle : cm ≤ cm2 := by rcases z6 with ⟨-, -, h⟩ | ⟨-, -, h⟩ <;> omega
    cases own with
    | true =>
      have z4 : sc2 = if e.1.contains x then e :: t else bnS x (e :: t) := z4
      by_cases z : e.1.contains x = true
      · rw [if_pos z] at z4
        subst z4
        exact ⟨b, cm2, e, q1, ok, List.prefix_rfl, by omega, ⟨by omega, cmle⟩, q2⟩
      · rw [if_neg z] at z4
        exact new (fun y => z (List.contains_iff_mem.mpr y)) z4 (by omega) cmle
    | false =>
      have z4 : sc2 = if fnb x (e :: t) then hld x (e :: t) else bnS x (e :: t) := z4
      by_cases z : fnb x (e :: t) = true
      · rw [if_pos z] at z4
        subst z4
        exact ⟨b, cm2, e, PCS_dlh q1, ok, List.prefix_rfl, by omega, ⟨by omega, cmle⟩, q2⟩
      · rw [if_neg z] at z4
        exact new (fun y => z (fnb_e.mpr ⟨e, List.mem_cons_self, y⟩)) z4 (by omega) cmle
end
