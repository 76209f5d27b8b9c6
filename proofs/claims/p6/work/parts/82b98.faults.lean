set_option maxRecDepth 100000
def KR {α : Type} (o : Option (MS × (α ⊕ Nat))) : Prop := ∀ w k, o = some (w, .inr k) → F w 667 ≠ 0
section
variable {α β γ : Type} {u w : MS} {N : Nat}
theorem KR_l {a : α} : KR (some (w, (.inl a : α ⊕ Nat))) := fun _ _ e => by injection e with e; injection e with _ e; cases e
theorem KR_none : KR (none : Option (MS × (α ⊕ Nat))) := fun _ _ e => by cases e
theorem KR_br {b : Bool} {p q : Option (MS × (α ⊕ Nat))} (h1 : KR p) (h2 : KR q) : KR (br b p q) := by cases b <;> assumption
theorem KR_ck {b : Bool} {p : Option (MS × (α ⊕ Nat))} (h1 : KR p) : KR (ck b p) := by
  cases b
  · exact KR_none
  · exact h1
theorem KR_lt {x : β} {f : β → Option (MS × (α ⊕ Nat))} (h2 : ∀ y, KR (f y)) : KR (lt x f) := h2 x
theorem KR_bnd {o : Option (MS × β)} {f : MS → β → Option (MS × (α ⊕ Nat))} (h2 : ∀ w r, KR (f w r)) : KR (bnd o f) := by
  cases o with
  | none => exact KR_none
  | some x => exact h2 x.1 x.2
theorem KR_T {o : Option (MS × (β ⊕ Nat))} {f : MS → β → Option (MS × (α ⊕ Nat))} (h1 : KR o) (h2 : ∀ w r, KR (f w r)) : KR (bTm o f) := by
  cases o with
  | none => exact KR_none
  | some x =>
    obtain ⟨w, r⟩ := x
    cases r with
    | inl a => exact h2 w a
    | inr k => exact fun w2 k2 e => by injection e with e; injection e with e1 _; exact e1 ▸ h1 w k rfl
theorem nz16 {a : Int} (c : Int) (hc : 1 ≤ c ∧ c ≤ 3) : (I c + 16 * I a : Int32).toInt ≠ 0 := by
  rw [show (16 : Int32) = I 16 from rfl, I_mul, I_add]
  unfold I
  rw [Int32.toInt_ofInt]
  unfold Int.bmod
  have h : ((2 ^ 32 : Nat) : Int) = 4294967296 := by decide
  rw [h]
  show (if (c + 16 * a) % 4294967296 < (4294967296 + 1) / 2 then (c + 16 * a) % 4294967296 else (c + 16 * a) % 4294967296 - 4294967296) ≠ 0
  split <;> omega
theorem KR_ref {c : Int32} (hc : c = 1 ∨ c = 2 ∨ c = 3) : KR (hm_Pa_refuse N u c) := by
  intro w k e
  unfold hm_Pa_refuse hb_Pa_refuse_0 at e
  cases hb : inb (u.1 665) 4002 with
  | false => rw [hb] at e; cases e
  | true =>
    rw [hb, ck_t, lt_e] at e
    injection e with e
    injection e with e1 _
    rw [← e1, I_of (u.2.2.1 8 _)]
    have z : ∀ c : Int, 1 ≤ c ∧ c ≤ 3 → F (upI u 667 (I c + 16 * I (u.2.2.1 8 (u.1 665).toNatClampNeg).toInt)) 667 ≠ 0 := fun c hc => by
      rw [I_of (I c + 16 * I (u.2.2.1 8 (u.1 665).toNatClampNeg).toInt), wi_e, F_wi (ti_rng _).1 (ti_rng _).2, if_pos rfl]
      exact nz16 c hc
    rcases hc with rfl | rfl | rfl
    · exact z 1 (by omega)
    · exact z 2 (by omega)
    · exact z 3 (by omega)
end
def KRS (S : SF_Pa_matched) : Prop := (∀ (u : MS) a0, KR (S.1 u a0)) ∧ (∀ (u : MS) a0, KR (S.2.1 u a0)) ∧ (∀ (u : MS), KR (S.2.2.1 u)) ∧ (∀ (u : MS), KR (S.2.2.2.1 u)) ∧ (∀ (u : MS), KR (S.2.2.2.2.1 u)) ∧ (∀ (u : MS) a0 a1, KR (S.2.2.2.2.2.1 u a0 a1)) ∧ (∀ (u : MS), KR (S.2.2.2.2.2.2.1 u)) ∧ (∀ (u : MS) a0, KR (S.2.2.2.2.2.2.2.1 u a0)) ∧ (∀ (u : MS), KR (S.2.2.2.2.2.2.2.2.1 u)) ∧ (∀ (u : MS), KR (S.2.2.2.2.2.2.2.2.2.1 u)) ∧ (∀ (u : MS), KR (S.2.2.2.2.2.2.2.2.2.2.1 u)) ∧ (∀ (u : MS), KR (S.2.2.2.2.2.2.2.2.2.2.2.1 u)) ∧ (∀ (u : MS), KR (S.2.2.2.2.2.2.2.2.2.2.2.2.1 u)) ∧ (∀ (u : MS), KR (S.2.2.2.2.2.2.2.2.2.2.2.2.2.1 u)) ∧ (∀ (u : MS) a0, KR (S.2.2.2.2.2.2.2.2.2.2.2.2.2.2.1 u a0)) ∧ (∀ (u : MS) a0, KR (S.2.2.2.2.2.2.2.2.2.2.2.2.2.2.2.1 u a0)) ∧ (∀ (u : MS) a0, KR (S.2.2.2.2.2.2.2.2.2.2.2.2.2.2.2.2.1 u a0)) ∧ (∀ (u : MS), KR (S.2.2.2.2.2.2.2.2.2.2.2.2.2.2.2.2.2.1 u)) ∧ (∀ (u : MS) a0 a1, KR (S.2.2.2.2.2.2.2.2.2.2.2.2.2.2.2.2.2.2.1 u a0 a1)) ∧ (∀ (u : MS) a0 a1 a2, KR (S.2.2.2.2.2.2.2.2.2.2.2.2.2.2.2.2.2.2.2 u a0 a1 a2))
section
variable {N : Nat}
theorem zrb_Pa_look_22 {G : Unit} {u : MS}  : KR (hb_Pa_look_22 N G u) := by
  unfold hb_Pa_look_22
  repeat' (first | with_reducible assumption | with_reducible exact KR_l | with_reducible refine KR_br ?_ ?_ | with_reducible refine KR_T ?_ (fun _ _ => ?_) | with_reducible refine KR_bnd (fun _ _ => ?_) | with_reducible refine KR_ck ?_ | with_reducible refine KR_lt (fun _ => ?_))
theorem zrb_Pa_look_0 {G : Unit} {u : MS}  : KR (hb_Pa_look_0 N G u) := by
  unfold hb_Pa_look_0
  repeat' (first | with_reducible assumption | with_reducible exact KR_l | with_reducible refine KR_br ?_ ?_ | with_reducible refine KR_T ?_ (fun _ _ => ?_) | with_reducible refine KR_bnd (fun _ _ => ?_) | with_reducible refine KR_ck ?_ | with_reducible exact zrb_Pa_look_22 | with_reducible exact KR_ref (by decide) | with_reducible refine KR_lt (fun _ => ?_))
theorem zr_Pa_look {u : MS}  : KR (hm_Pa_look N u) := by
  unfold hm_Pa_look
  exact zrb_Pa_look_0
theorem zrb_Pa_need_13 {G : Unit} {u : MS}  : KR (hb_Pa_need_13 N G u) := by
  unfold hb_Pa_need_13
  repeat' (first | with_reducible assumption | with_reducible exact KR_l | with_reducible refine KR_br ?_ ?_ | with_reducible refine KR_T ?_ (fun _ _ => ?_) | with_reducible refine KR_bnd (fun _ _ => ?_) | with_reducible refine KR_ck ?_ | with_reducible refine KR_lt (fun _ => ?_))
theorem zrb_Pa_need_0 {G : Unit} {u : MS} {v1 : Int32}  : KR (hb_Pa_need_0 N G u v1) := by
  unfold hb_Pa_need_0
  repeat' (first | with_reducible assumption | with_reducible exact KR_l | with_reducible refine KR_br ?_ ?_ | with_reducible refine KR_T ?_ (fun _ _ => ?_) | with_reducible refine KR_bnd (fun _ _ => ?_) | with_reducible refine KR_ck ?_ | with_reducible exact zrb_Pa_need_13 | with_reducible exact KR_ref (by decide) | with_reducible exact zr_Pa_look | with_reducible refine KR_lt (fun _ => ?_))
theorem zr_Pa_need {u : MS} {v1 : Int32}  : KR (hm_Pa_need N u v1) := by
  unfold hm_Pa_need
  exact zrb_Pa_need_0
theorem zrb_Pa_opens_23 {G : Unit} {u : MS}  : KR (hb_Pa_opens_23 N G u) := by
  unfold hb_Pa_opens_23
  repeat' (first | with_reducible assumption | with_reducible exact KR_l | with_reducible refine KR_br ?_ ?_ | with_reducible refine KR_T ?_ (fun _ _ => ?_) | with_reducible refine KR_bnd (fun _ _ => ?_) | with_reducible refine KR_ck ?_ | with_reducible refine KR_lt (fun _ => ?_))
theorem zrb_Pa_opens_9 {G : Unit} {u : MS}  : KR (hb_Pa_opens_9 N G u) := by
  unfold hb_Pa_opens_9
  repeat' (first | with_reducible assumption | with_reducible exact KR_l | with_reducible refine KR_br ?_ ?_ | with_reducible refine KR_T ?_ (fun _ _ => ?_) | with_reducible refine KR_bnd (fun _ _ => ?_) | with_reducible refine KR_ck ?_ | with_reducible exact zrb_Pa_opens_23 | with_reducible exact KR_ref (by decide) | with_reducible refine KR_lt (fun _ => ?_))
theorem zrb_Pa_opens_0 {G : Unit} {u : MS} {v1 : Int32}  : KR (hb_Pa_opens_0 N G u v1) := by
  unfold hb_Pa_opens_0
  repeat' (first | with_reducible assumption | with_reducible exact KR_l | with_reducible refine KR_br ?_ ?_ | with_reducible refine KR_T ?_ (fun _ _ => ?_) | with_reducible refine KR_bnd (fun _ _ => ?_) | with_reducible refine KR_ck ?_ | with_reducible exact zrb_Pa_opens_9 | with_reducible exact KR_ref (by decide) | with_reducible refine KR_lt (fun _ => ?_))
theorem zr_Pa_opens {u : MS} {v1 : Int32}  : KR (hm_Pa_opens N u v1) := by
  unfold hm_Pa_opens
  exact zrb_Pa_opens_0
theorem zrb_Pa_closeSigns_79 {G : (MS → Int32 → Int32 → Int32 → Option (MS × (Int32 ⊕ Nat)))} {u : MS} {v1 : Int32} {v2 : Int32} {v4 : Int32} {v5 : Int32} {v6 : Int32} (hG0 : ∀ (u : MS) a0 a1 a2, KR (G u a0 a1 a2)) : KR (hb_Pa_closeSigns_79 N G u v1 v2 v4 v5 v6) := by
  unfold hb_Pa_closeSigns_79
  repeat' (first | with_reducible assumption | with_reducible exact KR_l | with_reducible refine KR_br ?_ ?_ | with_reducible refine KR_T ?_ (fun _ _ => ?_) | with_reducible refine KR_bnd (fun _ _ => ?_) | with_reducible refine KR_ck ?_ | with_reducible exact hG0 _ _ _ _ | with_reducible refine KR_lt (fun _ => ?_))
theorem zrb_Pa_closeSigns_63 {G : (MS → Int32 → Int32 → Int32 → Option (MS × (Int32 ⊕ Nat)))} {u : MS} {v1 : Int32} {v2 : Int32} {v4 : Int32} {v5 : Int32} {v6 : Int32} {v7 : Int32} (hG0 : ∀ (u : MS) a0 a1 a2, KR (G u a0 a1 a2)) : KR (hb_Pa_closeSigns_63 N G u v1 v2 v4 v5 v6 v7) := by
  unfold hb_Pa_closeSigns_63
  repeat' (first | with_reducible assumption | with_reducible exact KR_l | with_reducible refine KR_br ?_ ?_ | with_reducible refine KR_T ?_ (fun _ _ => ?_) | with_reducible refine KR_bnd (fun _ _ => ?_) | with_reducible refine KR_ck ?_ | with_reducible exact zrb_Pa_closeSigns_79 hG0 | with_reducible exact KR_ref (by decide) | with_reducible exact hG0 _ _ _ _ | with_reducible refine KR_lt (fun _ => ?_))
theorem zrb_Pa_closeSigns_60 {G : (MS → Int32 → Int32 → Int32 → Option (MS × (Int32 ⊕ Nat)))} {u : MS} {v4 : Int32} (hG0 : ∀ (u : MS) a0 a1 a2, KR (G u a0 a1 a2)) : KR (hb_Pa_closeSigns_60 N G u v4) := by
  unfold hb_Pa_closeSigns_60
  repeat' (first | with_reducible assumption | with_reducible exact KR_l | with_reducible refine KR_br ?_ ?_ | with_reducible refine KR_T ?_ (fun _ _ => ?_) | with_reducible refine KR_bnd (fun _ _ => ?_) | with_reducible refine KR_ck ?_ | with_reducible exact hG0 _ _ _ _ | with_reducible refine KR_lt (fun _ => ?_))
theorem zrb_Pa_closeSigns_3 {G : (MS → Int32 → Int32 → Int32 → Option (MS × (Int32 ⊕ Nat)))} {u : MS} {v1 : Int32} {v2 : Int32} {v4 : Int32} (hG0 : ∀ (u : MS) a0 a1 a2, KR (G u a0 a1 a2)) : KR (hb_Pa_closeSigns_3 N G u v1 v2 v4) := by
  unfold hb_Pa_closeSigns_3
  repeat' (first | with_reducible assumption | with_reducible exact KR_l | with_reducible refine KR_br ?_ ?_ | with_reducible refine KR_T ?_ (fun _ _ => ?_) | with_reducible refine KR_bnd (fun _ _ => ?_) | with_reducible refine KR_ck ?_ | with_reducible exact zrb_Pa_closeSigns_60 hG0 | with_reducible exact zrb_Pa_closeSigns_63 hG0 | with_reducible exact hG0 _ _ _ _ | with_reducible refine KR_lt (fun _ => ?_))
theorem zrb_Pa_closeSigns_0 {G : (MS → Int32 → Int32 → Int32 → Option (MS × (Int32 ⊕ Nat)))} {u : MS} {v1 : Int32} {v2 : Int32} {v3 : Int32} (hG0 : ∀ (u : MS) a0 a1 a2, KR (G u a0 a1 a2)) : KR (hb_Pa_closeSigns_0 N G u v1 v2 v3) := by
  unfold hb_Pa_closeSigns_0
  repeat' (first | with_reducible assumption | with_reducible exact KR_l | with_reducible refine KR_br ?_ ?_ | with_reducible refine KR_T ?_ (fun _ _ => ?_) | with_reducible refine KR_bnd (fun _ _ => ?_) | with_reducible refine KR_ck ?_ | with_reducible exact hG0 _ _ _ _ | with_reducible refine KR_lt (fun _ => ?_))
theorem zrg_Pa_closeSigns (n : Nat) : (∀ (u : MS) a0 a1 a2, KR ((hg_Pa_closeSigns N n) u a0 a1 a2)) := by
  induction n with
  | zero => exact fun _ _ _ _ => KR_none
  | succ n ih => exact fun _ _ _ _ => zrb_Pa_closeSigns_3 (N := N) ih
theorem zr_Pa_closeSigns {u : MS} {v1 : Int32} {v2 : Int32} {v3 : Int32}  : KR (hm_Pa_closeSigns N u v1 v2 v3) := by
  unfold hm_Pa_closeSigns
  exact zrb_Pa_closeSigns_0 (zrg_Pa_closeSigns N)
theorem zrb_Pa_matched_69 {S : SF_Pa_matched} {G : Unit} {u : MS} {v1 : Int32} {v3 : Int32} {t0 : Int32} (hS : KRS S) : KR (hb_Pa_matched_69 N S G u v1 v3 t0) := by
  unfold hb_Pa_matched_69
  have hS2 := hS
  obtain ⟨s0, s1, s2, s3, s4, s5, s6, s7, s8, s9, s10, s11, s12, s13, s14, s15, s16, s17, s18, s19⟩ := hS2
  repeat' (first | with_reducible assumption | with_reducible exact KR_l | with_reducible refine KR_br ?_ ?_ | with_reducible refine KR_T ?_ (fun _ _ => ?_) | with_reducible refine KR_bnd (fun _ _ => ?_) | with_reducible refine KR_ck ?_ | with_reducible exact s0 _ _ | with_reducible exact s1 _ _ | with_reducible exact s2 _ | with_reducible exact s3 _ | with_reducible exact s4 _ | with_reducible exact s5 _ _ _ | with_reducible exact s6 _ | with_reducible exact s7 _ _ | with_reducible exact s8 _ | with_reducible exact s9 _ | with_reducible exact s10 _ | with_reducible exact s11 _ | with_reducible exact s12 _ | with_reducible exact s13 _ | with_reducible exact s14 _ _ | with_reducible exact s15 _ _ | with_reducible exact s16 _ _ | with_reducible exact s17 _ | with_reducible exact s18 _ _ _ | with_reducible exact s19 _ _ _ _ | with_reducible refine KR_lt (fun _ => ?_))
theorem zrb_Pa_matched_41 {S : SF_Pa_matched} {G : Unit} {u : MS} {v1 : Int32} {v2 : Int32} (hS : KRS S) : KR (hb_Pa_matched_41 N S G u v1 v2) := by
  unfold hb_Pa_matched_41
  have hS2 := hS
  obtain ⟨s0, s1, s2, s3, s4, s5, s6, s7, s8, s9, s10, s11, s12, s13, s14, s15, s16, s17, s18, s19⟩ := hS2
  repeat' (first | with_reducible assumption | with_reducible exact KR_l | with_reducible refine KR_br ?_ ?_ | with_reducible refine KR_T ?_ (fun _ _ => ?_) | with_reducible refine KR_bnd (fun _ _ => ?_) | with_reducible refine KR_ck ?_ | with_reducible exact zrb_Pa_matched_69 hS | with_reducible exact s0 _ _ | with_reducible exact s1 _ _ | with_reducible exact s2 _ | with_reducible exact s3 _ | with_reducible exact s4 _ | with_reducible exact s5 _ _ _ | with_reducible exact s6 _ | with_reducible exact s7 _ _ | with_reducible exact s8 _ | with_reducible exact s9 _ | with_reducible exact s10 _ | with_reducible exact s11 _ | with_reducible exact s12 _ | with_reducible exact s13 _ | with_reducible exact s14 _ _ | with_reducible exact s15 _ _ | with_reducible exact s16 _ _ | with_reducible exact s17 _ | with_reducible exact s18 _ _ _ | with_reducible exact s19 _ _ _ _ | with_reducible refine KR_lt (fun _ => ?_))
theorem zrb_Pa_matched_19 {S : SF_Pa_matched} {G : Unit} {u : MS} {v1 : Int32} {v2 : Int32} (hS : KRS S) : KR (hb_Pa_matched_19 N S G u v1 v2) := by
  unfold hb_Pa_matched_19
  have hS2 := hS
  obtain ⟨s0, s1, s2, s3, s4, s5, s6, s7, s8, s9, s10, s11, s12, s13, s14, s15, s16, s17, s18, s19⟩ := hS2
  repeat' (first | with_reducible assumption | with_reducible exact KR_l | with_reducible refine KR_br ?_ ?_ | with_reducible refine KR_T ?_ (fun _ _ => ?_) | with_reducible refine KR_bnd (fun _ _ => ?_) | with_reducible refine KR_ck ?_ | with_reducible exact zrb_Pa_matched_41 hS | with_reducible exact KR_ref (by decide) | with_reducible exact s0 _ _ | with_reducible exact s1 _ _ | with_reducible exact s2 _ | with_reducible exact s3 _ | with_reducible exact s4 _ | with_reducible exact s5 _ _ _ | with_reducible exact s6 _ | with_reducible exact s7 _ _ | with_reducible exact s8 _ | with_reducible exact s9 _ | with_reducible exact s10 _ | with_reducible exact s11 _ | with_reducible exact s12 _ | with_reducible exact s13 _ | with_reducible exact s14 _ _ | with_reducible exact s15 _ _ | with_reducible exact s16 _ _ | with_reducible exact s17 _ | with_reducible exact s18 _ _ _ | with_reducible exact s19 _ _ _ _ | with_reducible refine KR_lt (fun _ => ?_))
theorem zrb_Pa_matched_0 {S : SF_Pa_matched} {G : Unit} {u : MS} {v1 : Int32} (hS : KRS S) : KR (hb_Pa_matched_0 N S G u v1) := by
  unfold hb_Pa_matched_0
  have hS2 := hS
  obtain ⟨s0, s1, s2, s3, s4, s5, s6, s7, s8, s9, s10, s11, s12, s13, s14, s15, s16, s17, s18, s19⟩ := hS2
  repeat' (first | with_reducible assumption | with_reducible exact KR_l | with_reducible refine KR_br ?_ ?_ | with_reducible refine KR_T ?_ (fun _ _ => ?_) | with_reducible refine KR_bnd (fun _ _ => ?_) | with_reducible refine KR_ck ?_ | with_reducible exact zrb_Pa_matched_19 hS | with_reducible exact zr_Pa_look | with_reducible exact s0 _ _ | with_reducible exact s1 _ _ | with_reducible exact s2 _ | with_reducible exact s3 _ | with_reducible exact s4 _ | with_reducible exact s5 _ _ _ | with_reducible exact s6 _ | with_reducible exact s7 _ _ | with_reducible exact s8 _ | with_reducible exact s9 _ | with_reducible exact s10 _ | with_reducible exact s11 _ | with_reducible exact s12 _ | with_reducible exact s13 _ | with_reducible exact s14 _ _ | with_reducible exact s15 _ _ | with_reducible exact s16 _ _ | with_reducible exact s17 _ | with_reducible exact s18 _ _ _ | with_reducible exact s19 _ _ _ _ | with_reducible refine KR_lt (fun _ => ?_))
theorem zr_Pa_matched {S : SF_Pa_matched} {u : MS} {v1 : Int32} (hS : KRS S) : KR (hm_Pa_matched N S u v1) := by
  unfold hm_Pa_matched
  exact zrb_Pa_matched_0 hS
theorem zrb_Pa_applied_145 {S : SF_Pa_matched} {G : (MS → Int32 → Int32 → Int32 → Option (MS × (Int32 ⊕ Nat)))} {u : MS} {v2 : Int32} (hS : KRS S) (hG0 : ∀ (u : MS) a0 a1 a2, KR (G u a0 a1 a2)) : KR (hb_Pa_applied_145 N S G u v2) := by
  unfold hb_Pa_applied_145
  have hS2 := hS
  obtain ⟨s0, s1, s2, s3, s4, s5, s6, s7, s8, s9, s10, s11, s12, s13, s14, s15, s16, s17, s18, s19⟩ := hS2
  repeat' (first | with_reducible assumption | with_reducible exact KR_l | with_reducible refine KR_br ?_ ?_ | with_reducible refine KR_T ?_ (fun _ _ => ?_) | with_reducible refine KR_bnd (fun _ _ => ?_) | with_reducible refine KR_ck ?_ | with_reducible exact s0 _ _ | with_reducible exact s1 _ _ | with_reducible exact s2 _ | with_reducible exact s3 _ | with_reducible exact s4 _ | with_reducible exact s5 _ _ _ | with_reducible exact s6 _ | with_reducible exact s7 _ _ | with_reducible exact s8 _ | with_reducible exact s9 _ | with_reducible exact s10 _ | with_reducible exact s11 _ | with_reducible exact s12 _ | with_reducible exact s13 _ | with_reducible exact s14 _ _ | with_reducible exact s15 _ _ | with_reducible exact s16 _ _ | with_reducible exact s17 _ | with_reducible exact s18 _ _ _ | with_reducible exact s19 _ _ _ _ | with_reducible exact hG0 _ _ _ _ | with_reducible refine KR_lt (fun _ => ?_))
theorem zrb_Pa_applied_136 {S : SF_Pa_matched} {G : (MS → Int32 → Int32 → Int32 → Option (MS × (Int32 ⊕ Nat)))} {u : MS} {v2 : Int32} {v4 : Int32} {v7 : Int32} (hS : KRS S) (hG0 : ∀ (u : MS) a0 a1 a2, KR (G u a0 a1 a2)) : KR (hb_Pa_applied_136 N S G u v2 v4 v7) := by
  unfold hb_Pa_applied_136
  have hS2 := hS
  obtain ⟨s0, s1, s2, s3, s4, s5, s6, s7, s8, s9, s10, s11, s12, s13, s14, s15, s16, s17, s18, s19⟩ := hS2
  repeat' (first | with_reducible assumption | with_reducible exact KR_l | with_reducible refine KR_br ?_ ?_ | with_reducible refine KR_T ?_ (fun _ _ => ?_) | with_reducible refine KR_bnd (fun _ _ => ?_) | with_reducible refine KR_ck ?_ | with_reducible exact s0 _ _ | with_reducible exact s1 _ _ | with_reducible exact s2 _ | with_reducible exact s3 _ | with_reducible exact s4 _ | with_reducible exact s5 _ _ _ | with_reducible exact s6 _ | with_reducible exact s7 _ _ | with_reducible exact s8 _ | with_reducible exact s9 _ | with_reducible exact s10 _ | with_reducible exact s11 _ | with_reducible exact s12 _ | with_reducible exact s13 _ | with_reducible exact s14 _ _ | with_reducible exact s15 _ _ | with_reducible exact s16 _ _ | with_reducible exact s17 _ | with_reducible exact s18 _ _ _ | with_reducible exact s19 _ _ _ _ | with_reducible exact hG0 _ _ _ _ | with_reducible refine KR_lt (fun _ => ?_))
theorem zrb_Pa_applied_38 {S : SF_Pa_matched} {G : (MS → Int32 → Int32 → Int32 → Option (MS × (Int32 ⊕ Nat)))} {u : MS} {v2 : Int32} {v3 : Int32} {v4 : Int32} (hS : KRS S) (hG0 : ∀ (u : MS) a0 a1 a2, KR (G u a0 a1 a2)) : KR (hb_Pa_applied_38 N S G u v2 v3 v4) := by
  unfold hb_Pa_applied_38
  have hS2 := hS
  obtain ⟨s0, s1, s2, s3, s4, s5, s6, s7, s8, s9, s10, s11, s12, s13, s14, s15, s16, s17, s18, s19⟩ := hS2
  repeat' (first | with_reducible assumption | with_reducible exact KR_l | with_reducible refine KR_br ?_ ?_ | with_reducible refine KR_T ?_ (fun _ _ => ?_) | with_reducible refine KR_bnd (fun _ _ => ?_) | with_reducible refine KR_ck ?_ | with_reducible exact zrb_Pa_applied_136 hS hG0 | with_reducible exact zrb_Pa_applied_145 hS hG0 | with_reducible exact zr_Pa_look | with_reducible exact s0 _ _ | with_reducible exact s1 _ _ | with_reducible exact s2 _ | with_reducible exact s3 _ | with_reducible exact s4 _ | with_reducible exact s5 _ _ _ | with_reducible exact s6 _ | with_reducible exact s7 _ _ | with_reducible exact s8 _ | with_reducible exact s9 _ | with_reducible exact s10 _ | with_reducible exact s11 _ | with_reducible exact s12 _ | with_reducible exact s13 _ | with_reducible exact s14 _ _ | with_reducible exact s15 _ _ | with_reducible exact s16 _ _ | with_reducible exact s17 _ | with_reducible exact s18 _ _ _ | with_reducible exact s19 _ _ _ _ | with_reducible exact hG0 _ _ _ _ | with_reducible refine KR_lt (fun _ => ?_))
theorem zrb_Pa_applied_0 {S : SF_Pa_matched} {G : (MS → Int32 → Int32 → Int32 → Option (MS × (Int32 ⊕ Nat)))} {u : MS} {v1 : Int32} (hS : KRS S) (hG0 : ∀ (u : MS) a0 a1 a2, KR (G u a0 a1 a2)) : KR (hb_Pa_applied_0 N S G u v1) := by
  unfold hb_Pa_applied_0
  have hS2 := hS
  obtain ⟨s0, s1, s2, s3, s4, s5, s6, s7, s8, s9, s10, s11, s12, s13, s14, s15, s16, s17, s18, s19⟩ := hS2
  repeat' (first | with_reducible assumption | with_reducible exact KR_l | with_reducible refine KR_br ?_ ?_ | with_reducible refine KR_T ?_ (fun _ _ => ?_) | with_reducible refine KR_bnd (fun _ _ => ?_) | with_reducible refine KR_ck ?_ | with_reducible exact zr_Pa_look | with_reducible exact s0 _ _ | with_reducible exact s1 _ _ | with_reducible exact s2 _ | with_reducible exact s3 _ | with_reducible exact s4 _ | with_reducible exact s5 _ _ _ | with_reducible exact s6 _ | with_reducible exact s7 _ _ | with_reducible exact s8 _ | with_reducible exact s9 _ | with_reducible exact s10 _ | with_reducible exact s11 _ | with_reducible exact s12 _ | with_reducible exact s13 _ | with_reducible exact s14 _ _ | with_reducible exact s15 _ _ | with_reducible exact s16 _ _ | with_reducible exact s17 _ | with_reducible exact s18 _ _ _ | with_reducible exact s19 _ _ _ _ | with_reducible exact hG0 _ _ _ _ | with_reducible refine KR_lt (fun _ => ?_))
theorem zrg_Pa_applied {S : SF_Pa_matched} (hS : KRS S) (n : Nat) : (∀ (u : MS) a0 a1 a2, KR ((hg_Pa_applied N S n) u a0 a1 a2)) := by
  induction n with
  | zero => exact fun _ _ _ _ => KR_none
  | succ n ih => exact fun _ _ _ _ => zrb_Pa_applied_38 (N := N) hS ih
theorem zr_Pa_applied {S : SF_Pa_matched} {u : MS} {v1 : Int32} (hS : KRS S) : KR (hm_Pa_applied N S u v1) := by
  unfold hm_Pa_applied
  exact zrb_Pa_applied_0 hS (zrg_Pa_applied hS N)
theorem zrb_Pa_fun_0 {S : SF_Pa_matched} {G : Unit} {u : MS} (hS : KRS S) : KR (hb_Pa_fun_0 N S G u) := by
  unfold hb_Pa_fun_0
  have hS2 := hS
  obtain ⟨s0, s1, s2, s3, s4, s5, s6, s7, s8, s9, s10, s11, s12, s13, s14, s15, s16, s17, s18, s19⟩ := hS2
  repeat' (first | with_reducible assumption | with_reducible exact KR_l | with_reducible refine KR_br ?_ ?_ | with_reducible refine KR_T ?_ (fun _ _ => ?_) | with_reducible refine KR_bnd (fun _ _ => ?_) | with_reducible refine KR_ck ?_ | with_reducible exact zr_Pa_need | with_reducible exact zr_Pa_look | with_reducible exact s0 _ _ | with_reducible exact s1 _ _ | with_reducible exact s2 _ | with_reducible exact s3 _ | with_reducible exact s4 _ | with_reducible exact s5 _ _ _ | with_reducible exact s6 _ | with_reducible exact s7 _ _ | with_reducible exact s8 _ | with_reducible exact s9 _ | with_reducible exact s10 _ | with_reducible exact s11 _ | with_reducible exact s12 _ | with_reducible exact s13 _ | with_reducible exact s14 _ _ | with_reducible exact s15 _ _ | with_reducible exact s16 _ _ | with_reducible exact s17 _ | with_reducible exact s18 _ _ _ | with_reducible exact s19 _ _ _ _ | with_reducible refine KR_lt (fun _ => ?_))
theorem zr_Pa_fun {S : SF_Pa_matched} {u : MS} (hS : KRS S) : KR (hm_Pa_fun N S u) := by
  unfold hm_Pa_fun
  exact zrb_Pa_fun_0 hS
theorem zrb_Pa_receive_75 {S : SF_Pa_matched} {G : Unit} {u : MS} {v1 : Int32} {v2 : Int32} {v3 : Int32} {v4 : Int32} (hS : KRS S) : KR (hb_Pa_receive_75 N S G u v1 v2 v3 v4) := by
  unfold hb_Pa_receive_75
  have hS2 := hS
  obtain ⟨s0, s1, s2, s3, s4, s5, s6, s7, s8, s9, s10, s11, s12, s13, s14, s15, s16, s17, s18, s19⟩ := hS2
  repeat' (first | with_reducible assumption | with_reducible exact KR_l | with_reducible refine KR_br ?_ ?_ | with_reducible refine KR_T ?_ (fun _ _ => ?_) | with_reducible refine KR_bnd (fun _ _ => ?_) | with_reducible refine KR_ck ?_ | with_reducible exact zr_Pa_need | with_reducible exact s0 _ _ | with_reducible exact s1 _ _ | with_reducible exact s2 _ | with_reducible exact s3 _ | with_reducible exact s4 _ | with_reducible exact s5 _ _ _ | with_reducible exact s6 _ | with_reducible exact s7 _ _ | with_reducible exact s8 _ | with_reducible exact s9 _ | with_reducible exact s10 _ | with_reducible exact s11 _ | with_reducible exact s12 _ | with_reducible exact s13 _ | with_reducible exact s14 _ _ | with_reducible exact s15 _ _ | with_reducible exact s16 _ _ | with_reducible exact s17 _ | with_reducible exact s18 _ _ _ | with_reducible exact s19 _ _ _ _ | with_reducible refine KR_lt (fun _ => ?_))
theorem zrb_Pa_receive_32 {S : SF_Pa_matched} {G : Unit} {u : MS} {v1 : Int32} {t0 : Int32} (hS : KRS S) : KR (hb_Pa_receive_32 N S G u v1 t0) := by
  unfold hb_Pa_receive_32
  have hS2 := hS
  obtain ⟨s0, s1, s2, s3, s4, s5, s6, s7, s8, s9, s10, s11, s12, s13, s14, s15, s16, s17, s18, s19⟩ := hS2
  repeat' (first | with_reducible assumption | with_reducible exact KR_l | with_reducible refine KR_br ?_ ?_ | with_reducible refine KR_T ?_ (fun _ _ => ?_) | with_reducible refine KR_bnd (fun _ _ => ?_) | with_reducible refine KR_ck ?_ | with_reducible exact zrb_Pa_receive_75 hS | with_reducible exact zr_Pa_need | with_reducible exact zr_Pa_look | with_reducible exact s0 _ _ | with_reducible exact s1 _ _ | with_reducible exact s2 _ | with_reducible exact s3 _ | with_reducible exact s4 _ | with_reducible exact s5 _ _ _ | with_reducible exact s6 _ | with_reducible exact s7 _ _ | with_reducible exact s8 _ | with_reducible exact s9 _ | with_reducible exact s10 _ | with_reducible exact s11 _ | with_reducible exact s12 _ | with_reducible exact s13 _ | with_reducible exact s14 _ _ | with_reducible exact s15 _ _ | with_reducible exact s16 _ _ | with_reducible exact s17 _ | with_reducible exact s18 _ _ _ | with_reducible exact s19 _ _ _ _ | with_reducible refine KR_lt (fun _ => ?_))
theorem zrb_Pa_receive_0 {S : SF_Pa_matched} {G : Unit} {u : MS} (hS : KRS S) : KR (hb_Pa_receive_0 N S G u) := by
  unfold hb_Pa_receive_0
  have hS2 := hS
  obtain ⟨s0, s1, s2, s3, s4, s5, s6, s7, s8, s9, s10, s11, s12, s13, s14, s15, s16, s17, s18, s19⟩ := hS2
  repeat' (first | with_reducible assumption | with_reducible exact KR_l | with_reducible refine KR_br ?_ ?_ | with_reducible refine KR_T ?_ (fun _ _ => ?_) | with_reducible refine KR_bnd (fun _ _ => ?_) | with_reducible refine KR_ck ?_ | with_reducible exact zrb_Pa_receive_32 hS | with_reducible exact zr_Pa_look | with_reducible exact s0 _ _ | with_reducible exact s1 _ _ | with_reducible exact s2 _ | with_reducible exact s3 _ | with_reducible exact s4 _ | with_reducible exact s5 _ _ _ | with_reducible exact s6 _ | with_reducible exact s7 _ _ | with_reducible exact s8 _ | with_reducible exact s9 _ | with_reducible exact s10 _ | with_reducible exact s11 _ | with_reducible exact s12 _ | with_reducible exact s13 _ | with_reducible exact s14 _ _ | with_reducible exact s15 _ _ | with_reducible exact s16 _ _ | with_reducible exact s17 _ | with_reducible exact s18 _ _ _ | with_reducible exact s19 _ _ _ _ | with_reducible refine KR_lt (fun _ => ?_))
theorem zr_Pa_receive {S : SF_Pa_matched} {u : MS} (hS : KRS S) : KR (hm_Pa_receive N S u) := by
  unfold hm_Pa_receive
  exact zrb_Pa_receive_0 hS
theorem zrb_Pa_choice_0 {S : SF_Pa_matched} {G : Unit} {u : MS} (hS : KRS S) : KR (hb_Pa_choice_0 N S G u) := by
  unfold hb_Pa_choice_0
  have hS2 := hS
  obtain ⟨s0, s1, s2, s3, s4, s5, s6, s7, s8, s9, s10, s11, s12, s13, s14, s15, s16, s17, s18, s19⟩ := hS2
  repeat' (first | with_reducible assumption | with_reducible exact KR_l | with_reducible refine KR_br ?_ ?_ | with_reducible refine KR_T ?_ (fun _ _ => ?_) | with_reducible refine KR_bnd (fun _ _ => ?_) | with_reducible refine KR_ck ?_ | with_reducible exact zr_Pa_need | with_reducible exact s0 _ _ | with_reducible exact s1 _ _ | with_reducible exact s2 _ | with_reducible exact s3 _ | with_reducible exact s4 _ | with_reducible exact s5 _ _ _ | with_reducible exact s6 _ | with_reducible exact s7 _ _ | with_reducible exact s8 _ | with_reducible exact s9 _ | with_reducible exact s10 _ | with_reducible exact s11 _ | with_reducible exact s12 _ | with_reducible exact s13 _ | with_reducible exact s14 _ _ | with_reducible exact s15 _ _ | with_reducible exact s16 _ _ | with_reducible exact s17 _ | with_reducible exact s18 _ _ _ | with_reducible exact s19 _ _ _ _ | with_reducible refine KR_lt (fun _ => ?_))
theorem zr_Pa_choice {S : SF_Pa_matched} {u : MS} (hS : KRS S) : KR (hm_Pa_choice N S u) := by
  unfold hm_Pa_choice
  exact zrb_Pa_choice_0 hS
theorem zrb_Pa_part_30 {S : SF_Pa_matched} {G : Unit} {u : MS} {v1 : Int32} {v2 : Int32} {v3 : Int32} (hS : KRS S) : KR (hb_Pa_part_30 N S G u v1 v2 v3) := by
  unfold hb_Pa_part_30
  have hS2 := hS
  obtain ⟨s0, s1, s2, s3, s4, s5, s6, s7, s8, s9, s10, s11, s12, s13, s14, s15, s16, s17, s18, s19⟩ := hS2
  repeat' (first | with_reducible assumption | with_reducible exact KR_l | with_reducible refine KR_br ?_ ?_ | with_reducible refine KR_T ?_ (fun _ _ => ?_) | with_reducible refine KR_bnd (fun _ _ => ?_) | with_reducible refine KR_ck ?_ | with_reducible exact zr_Pa_need | with_reducible exact s0 _ _ | with_reducible exact s1 _ _ | with_reducible exact s2 _ | with_reducible exact s3 _ | with_reducible exact s4 _ | with_reducible exact s5 _ _ _ | with_reducible exact s6 _ | with_reducible exact s7 _ _ | with_reducible exact s8 _ | with_reducible exact s9 _ | with_reducible exact s10 _ | with_reducible exact s11 _ | with_reducible exact s12 _ | with_reducible exact s13 _ | with_reducible exact s14 _ _ | with_reducible exact s15 _ _ | with_reducible exact s16 _ _ | with_reducible exact s17 _ | with_reducible exact s18 _ _ _ | with_reducible exact s19 _ _ _ _ | with_reducible refine KR_lt (fun _ => ?_))
theorem zrb_Pa_part_0 {S : SF_Pa_matched} {G : Unit} {u : MS} {v1 : Int32} {v2 : Int32} (hS : KRS S) : KR (hb_Pa_part_0 N S G u v1 v2) := by
  unfold hb_Pa_part_0
  have hS2 := hS
  obtain ⟨s0, s1, s2, s3, s4, s5, s6, s7, s8, s9, s10, s11, s12, s13, s14, s15, s16, s17, s18, s19⟩ := hS2
  repeat' (first | with_reducible assumption | with_reducible exact KR_l | with_reducible refine KR_br ?_ ?_ | with_reducible refine KR_T ?_ (fun _ _ => ?_) | with_reducible refine KR_bnd (fun _ _ => ?_) | with_reducible refine KR_ck ?_ | with_reducible exact zrb_Pa_part_30 hS | with_reducible exact zr_Pa_look | with_reducible exact s0 _ _ | with_reducible exact s1 _ _ | with_reducible exact s2 _ | with_reducible exact s3 _ | with_reducible exact s4 _ | with_reducible exact s5 _ _ _ | with_reducible exact s6 _ | with_reducible exact s7 _ _ | with_reducible exact s8 _ | with_reducible exact s9 _ | with_reducible exact s10 _ | with_reducible exact s11 _ | with_reducible exact s12 _ | with_reducible exact s13 _ | with_reducible exact s14 _ _ | with_reducible exact s15 _ _ | with_reducible exact s16 _ _ | with_reducible exact s17 _ | with_reducible exact s18 _ _ _ | with_reducible exact s19 _ _ _ _ | with_reducible refine KR_lt (fun _ => ?_))
theorem zr_Pa_part {S : SF_Pa_matched} {u : MS} {v1 : Int32} {v2 : Int32} (hS : KRS S) : KR (hm_Pa_part N S u v1 v2) := by
  unfold hm_Pa_part
  exact zrb_Pa_part_0 hS
theorem zrb_Pa_oneCase_0 {S : SF_Pa_matched} {G : Unit} {u : MS} (hS : KRS S) : KR (hb_Pa_oneCase_0 N S G u) := by
  unfold hb_Pa_oneCase_0
  have hS2 := hS
  obtain ⟨s0, s1, s2, s3, s4, s5, s6, s7, s8, s9, s10, s11, s12, s13, s14, s15, s16, s17, s18, s19⟩ := hS2
  repeat' (first | with_reducible assumption | with_reducible exact KR_l | with_reducible refine KR_br ?_ ?_ | with_reducible refine KR_T ?_ (fun _ _ => ?_) | with_reducible refine KR_bnd (fun _ _ => ?_) | with_reducible refine KR_ck ?_ | with_reducible exact s0 _ _ | with_reducible exact s1 _ _ | with_reducible exact s2 _ | with_reducible exact s3 _ | with_reducible exact s4 _ | with_reducible exact s5 _ _ _ | with_reducible exact s6 _ | with_reducible exact s7 _ _ | with_reducible exact s8 _ | with_reducible exact s9 _ | with_reducible exact s10 _ | with_reducible exact s11 _ | with_reducible exact s12 _ | with_reducible exact s13 _ | with_reducible exact s14 _ _ | with_reducible exact s15 _ _ | with_reducible exact s16 _ _ | with_reducible exact s17 _ | with_reducible exact s18 _ _ _ | with_reducible exact s19 _ _ _ _ | with_reducible refine KR_lt (fun _ => ?_))
theorem zr_Pa_oneCase {S : SF_Pa_matched} {u : MS} (hS : KRS S) : KR (hm_Pa_oneCase N S u) := by
  unfold hm_Pa_oneCase
  exact zrb_Pa_oneCase_0 hS
theorem zrb_Pa_parts_75 {S : SF_Pa_matched} {G : (MS → Int32 → Int32 → Int32 → Int32 → Option (MS × (Int32 ⊕ Nat)))} {u : MS} {v2 : Int32} (hS : KRS S) (hG0 : ∀ (u : MS) a0 a1 a2 a3, KR (G u a0 a1 a2 a3)) : KR (hb_Pa_parts_75 N S G u v2) := by
  unfold hb_Pa_parts_75
  have hS2 := hS
  obtain ⟨s0, s1, s2, s3, s4, s5, s6, s7, s8, s9, s10, s11, s12, s13, s14, s15, s16, s17, s18, s19⟩ := hS2
  repeat' (first | with_reducible assumption | with_reducible exact KR_l | with_reducible refine KR_br ?_ ?_ | with_reducible refine KR_T ?_ (fun _ _ => ?_) | with_reducible refine KR_bnd (fun _ _ => ?_) | with_reducible refine KR_ck ?_ | with_reducible exact s0 _ _ | with_reducible exact s1 _ _ | with_reducible exact s2 _ | with_reducible exact s3 _ | with_reducible exact s4 _ | with_reducible exact s5 _ _ _ | with_reducible exact s6 _ | with_reducible exact s7 _ _ | with_reducible exact s8 _ | with_reducible exact s9 _ | with_reducible exact s10 _ | with_reducible exact s11 _ | with_reducible exact s12 _ | with_reducible exact s13 _ | with_reducible exact s14 _ _ | with_reducible exact s15 _ _ | with_reducible exact s16 _ _ | with_reducible exact s17 _ | with_reducible exact s18 _ _ _ | with_reducible exact s19 _ _ _ _ | with_reducible exact hG0 _ _ _ _ _ | with_reducible refine KR_lt (fun _ => ?_))
theorem zrb_Pa_parts_65 {S : SF_Pa_matched} {G : (MS → Int32 → Int32 → Int32 → Int32 → Option (MS × (Int32 ⊕ Nat)))} {u : MS} {v1 : Int32} {v2 : Int32} {v4 : Int32} {t1 : Int32} {t2 : Int32} (hS : KRS S) (hG0 : ∀ (u : MS) a0 a1 a2 a3, KR (G u a0 a1 a2 a3)) : KR (hb_Pa_parts_65 N S G u v1 v2 v4 t1 t2) := by
  unfold hb_Pa_parts_65
  have hS2 := hS
  obtain ⟨s0, s1, s2, s3, s4, s5, s6, s7, s8, s9, s10, s11, s12, s13, s14, s15, s16, s17, s18, s19⟩ := hS2
  repeat' (first | with_reducible assumption | with_reducible exact KR_l | with_reducible refine KR_br ?_ ?_ | with_reducible refine KR_T ?_ (fun _ _ => ?_) | with_reducible refine KR_bnd (fun _ _ => ?_) | with_reducible refine KR_ck ?_ | with_reducible exact s0 _ _ | with_reducible exact s1 _ _ | with_reducible exact s2 _ | with_reducible exact s3 _ | with_reducible exact s4 _ | with_reducible exact s5 _ _ _ | with_reducible exact s6 _ | with_reducible exact s7 _ _ | with_reducible exact s8 _ | with_reducible exact s9 _ | with_reducible exact s10 _ | with_reducible exact s11 _ | with_reducible exact s12 _ | with_reducible exact s13 _ | with_reducible exact s14 _ _ | with_reducible exact s15 _ _ | with_reducible exact s16 _ _ | with_reducible exact s17 _ | with_reducible exact s18 _ _ _ | with_reducible exact s19 _ _ _ _ | with_reducible exact hG0 _ _ _ _ _ | with_reducible refine KR_lt (fun _ => ?_))
theorem zrb_Pa_parts_21 {S : SF_Pa_matched} {G : (MS → Int32 → Int32 → Int32 → Int32 → Option (MS × (Int32 ⊕ Nat)))} {u : MS} {v1 : Int32} {v2 : Int32} {v3 : Int32} {v4 : Int32} (hS : KRS S) (hG0 : ∀ (u : MS) a0 a1 a2 a3, KR (G u a0 a1 a2 a3)) : KR (hb_Pa_parts_21 N S G u v1 v2 v3 v4) := by
  unfold hb_Pa_parts_21
  have hS2 := hS
  obtain ⟨s0, s1, s2, s3, s4, s5, s6, s7, s8, s9, s10, s11, s12, s13, s14, s15, s16, s17, s18, s19⟩ := hS2
  repeat' (first | with_reducible assumption | with_reducible exact KR_l | with_reducible refine KR_br ?_ ?_ | with_reducible refine KR_T ?_ (fun _ _ => ?_) | with_reducible refine KR_bnd (fun _ _ => ?_) | with_reducible refine KR_ck ?_ | with_reducible exact zrb_Pa_parts_65 hS hG0 | with_reducible exact zrb_Pa_parts_75 hS hG0 | with_reducible exact zr_Pa_look | with_reducible exact s0 _ _ | with_reducible exact s1 _ _ | with_reducible exact s2 _ | with_reducible exact s3 _ | with_reducible exact s4 _ | with_reducible exact s5 _ _ _ | with_reducible exact s6 _ | with_reducible exact s7 _ _ | with_reducible exact s8 _ | with_reducible exact s9 _ | with_reducible exact s10 _ | with_reducible exact s11 _ | with_reducible exact s12 _ | with_reducible exact s13 _ | with_reducible exact s14 _ _ | with_reducible exact s15 _ _ | with_reducible exact s16 _ _ | with_reducible exact s17 _ | with_reducible exact s18 _ _ _ | with_reducible exact s19 _ _ _ _ | with_reducible exact hG0 _ _ _ _ _ | with_reducible refine KR_lt (fun _ => ?_))
theorem zrb_Pa_parts_15 {S : SF_Pa_matched} {G : (MS → Int32 → Int32 → Int32 → Int32 → Option (MS × (Int32 ⊕ Nat)))} {u : MS} {v1 : Int32} {t0 : Int32} (hS : KRS S) (hG0 : ∀ (u : MS) a0 a1 a2 a3, KR (G u a0 a1 a2 a3)) : KR (hb_Pa_parts_15 N S G u v1 t0) := by
  unfold hb_Pa_parts_15
  have hS2 := hS
  obtain ⟨s0, s1, s2, s3, s4, s5, s6, s7, s8, s9, s10, s11, s12, s13, s14, s15, s16, s17, s18, s19⟩ := hS2
  repeat' (first | with_reducible assumption | with_reducible exact KR_l | with_reducible refine KR_br ?_ ?_ | with_reducible refine KR_T ?_ (fun _ _ => ?_) | with_reducible refine KR_bnd (fun _ _ => ?_) | with_reducible refine KR_ck ?_ | with_reducible exact s0 _ _ | with_reducible exact s1 _ _ | with_reducible exact s2 _ | with_reducible exact s3 _ | with_reducible exact s4 _ | with_reducible exact s5 _ _ _ | with_reducible exact s6 _ | with_reducible exact s7 _ _ | with_reducible exact s8 _ | with_reducible exact s9 _ | with_reducible exact s10 _ | with_reducible exact s11 _ | with_reducible exact s12 _ | with_reducible exact s13 _ | with_reducible exact s14 _ _ | with_reducible exact s15 _ _ | with_reducible exact s16 _ _ | with_reducible exact s17 _ | with_reducible exact s18 _ _ _ | with_reducible exact s19 _ _ _ _ | with_reducible exact hG0 _ _ _ _ _ | with_reducible refine KR_lt (fun _ => ?_))
theorem zrb_Pa_parts_0 {S : SF_Pa_matched} {G : (MS → Int32 → Int32 → Int32 → Int32 → Option (MS × (Int32 ⊕ Nat)))} {u : MS} {v1 : Int32} (hS : KRS S) (hG0 : ∀ (u : MS) a0 a1 a2 a3, KR (G u a0 a1 a2 a3)) : KR (hb_Pa_parts_0 N S G u v1) := by
  unfold hb_Pa_parts_0
  have hS2 := hS
  obtain ⟨s0, s1, s2, s3, s4, s5, s6, s7, s8, s9, s10, s11, s12, s13, s14, s15, s16, s17, s18, s19⟩ := hS2
  repeat' (first | with_reducible assumption | with_reducible exact KR_l | with_reducible refine KR_br ?_ ?_ | with_reducible refine KR_T ?_ (fun _ _ => ?_) | with_reducible refine KR_bnd (fun _ _ => ?_) | with_reducible refine KR_ck ?_ | with_reducible exact zrb_Pa_parts_15 hS hG0 | with_reducible exact s0 _ _ | with_reducible exact s1 _ _ | with_reducible exact s2 _ | with_reducible exact s3 _ | with_reducible exact s4 _ | with_reducible exact s5 _ _ _ | with_reducible exact s6 _ | with_reducible exact s7 _ _ | with_reducible exact s8 _ | with_reducible exact s9 _ | with_reducible exact s10 _ | with_reducible exact s11 _ | with_reducible exact s12 _ | with_reducible exact s13 _ | with_reducible exact s14 _ _ | with_reducible exact s15 _ _ | with_reducible exact s16 _ _ | with_reducible exact s17 _ | with_reducible exact s18 _ _ _ | with_reducible exact s19 _ _ _ _ | with_reducible exact hG0 _ _ _ _ _ | with_reducible refine KR_lt (fun _ => ?_))
theorem zrg_Pa_parts {S : SF_Pa_matched} (hS : KRS S) (n : Nat) : (∀ (u : MS) a0 a1 a2 a3, KR ((hg_Pa_parts N S n) u a0 a1 a2 a3)) := by
  induction n with
  | zero => exact fun _ _ _ _ _ => KR_none
  | succ n ih => exact fun _ _ _ _ _ => zrb_Pa_parts_21 (N := N) hS ih
theorem zr_Pa_parts {S : SF_Pa_matched} {u : MS} {v1 : Int32} (hS : KRS S) : KR (hm_Pa_parts N S u v1) := by
  unfold hm_Pa_parts
  exact zrb_Pa_parts_0 hS (zrg_Pa_parts hS N)
theorem zrb_Pa_caseOf_0 {S : SF_Pa_matched} {G : Unit} {u : MS} (hS : KRS S) : KR (hb_Pa_caseOf_0 N S G u) := by
  unfold hb_Pa_caseOf_0
  have hS2 := hS
  obtain ⟨s0, s1, s2, s3, s4, s5, s6, s7, s8, s9, s10, s11, s12, s13, s14, s15, s16, s17, s18, s19⟩ := hS2
  repeat' (first | with_reducible assumption | with_reducible exact KR_l | with_reducible refine KR_br ?_ ?_ | with_reducible refine KR_T ?_ (fun _ _ => ?_) | with_reducible refine KR_bnd (fun _ _ => ?_) | with_reducible refine KR_ck ?_ | with_reducible exact zr_Pa_need | with_reducible exact s0 _ _ | with_reducible exact s1 _ _ | with_reducible exact s2 _ | with_reducible exact s3 _ | with_reducible exact s4 _ | with_reducible exact s5 _ _ _ | with_reducible exact s6 _ | with_reducible exact s7 _ _ | with_reducible exact s8 _ | with_reducible exact s9 _ | with_reducible exact s10 _ | with_reducible exact s11 _ | with_reducible exact s12 _ | with_reducible exact s13 _ | with_reducible exact s14 _ _ | with_reducible exact s15 _ _ | with_reducible exact s16 _ _ | with_reducible exact s17 _ | with_reducible exact s18 _ _ _ | with_reducible exact s19 _ _ _ _ | with_reducible refine KR_lt (fun _ => ?_))
theorem zr_Pa_caseOf {S : SF_Pa_matched} {u : MS} (hS : KRS S) : KR (hm_Pa_caseOf N S u) := by
  unfold hm_Pa_caseOf
  exact zrb_Pa_caseOf_0 hS
theorem zrb_Pa_body_25 {S : SF_Pa_matched} {G : Unit} {u : MS} {t1 : Int32} (hS : KRS S) : KR (hb_Pa_body_25 N S G u t1) := by
  unfold hb_Pa_body_25
  have hS2 := hS
  obtain ⟨s0, s1, s2, s3, s4, s5, s6, s7, s8, s9, s10, s11, s12, s13, s14, s15, s16, s17, s18, s19⟩ := hS2
  repeat' (first | with_reducible assumption | with_reducible exact KR_l | with_reducible refine KR_br ?_ ?_ | with_reducible refine KR_T ?_ (fun _ _ => ?_) | with_reducible refine KR_bnd (fun _ _ => ?_) | with_reducible refine KR_ck ?_ | with_reducible exact zr_Pa_opens | with_reducible exact s0 _ _ | with_reducible exact s1 _ _ | with_reducible exact s2 _ | with_reducible exact s3 _ | with_reducible exact s4 _ | with_reducible exact s5 _ _ _ | with_reducible exact s6 _ | with_reducible exact s7 _ _ | with_reducible exact s8 _ | with_reducible exact s9 _ | with_reducible exact s10 _ | with_reducible exact s11 _ | with_reducible exact s12 _ | with_reducible exact s13 _ | with_reducible exact s14 _ _ | with_reducible exact s15 _ _ | with_reducible exact s16 _ _ | with_reducible exact s17 _ | with_reducible exact s18 _ _ _ | with_reducible exact s19 _ _ _ _ | with_reducible refine KR_lt (fun _ => ?_))
theorem zrb_Pa_body_20 {S : SF_Pa_matched} {G : Unit} {u : MS} (hS : KRS S) : KR (hb_Pa_body_20 N S G u) := by
  unfold hb_Pa_body_20
  have hS2 := hS
  obtain ⟨s0, s1, s2, s3, s4, s5, s6, s7, s8, s9, s10, s11, s12, s13, s14, s15, s16, s17, s18, s19⟩ := hS2
  repeat' (first | with_reducible assumption | with_reducible exact KR_l | with_reducible refine KR_br ?_ ?_ | with_reducible refine KR_T ?_ (fun _ _ => ?_) | with_reducible refine KR_bnd (fun _ _ => ?_) | with_reducible refine KR_ck ?_ | with_reducible exact zrb_Pa_body_25 hS | with_reducible exact s0 _ _ | with_reducible exact s1 _ _ | with_reducible exact s2 _ | with_reducible exact s3 _ | with_reducible exact s4 _ | with_reducible exact s5 _ _ _ | with_reducible exact s6 _ | with_reducible exact s7 _ _ | with_reducible exact s8 _ | with_reducible exact s9 _ | with_reducible exact s10 _ | with_reducible exact s11 _ | with_reducible exact s12 _ | with_reducible exact s13 _ | with_reducible exact s14 _ _ | with_reducible exact s15 _ _ | with_reducible exact s16 _ _ | with_reducible exact s17 _ | with_reducible exact s18 _ _ _ | with_reducible exact s19 _ _ _ _ | with_reducible refine KR_lt (fun _ => ?_))
theorem zrb_Pa_body_0 {S : SF_Pa_matched} {G : Unit} {u : MS} (hS : KRS S) : KR (hb_Pa_body_0 N S G u) := by
  unfold hb_Pa_body_0
  have hS2 := hS
  obtain ⟨s0, s1, s2, s3, s4, s5, s6, s7, s8, s9, s10, s11, s12, s13, s14, s15, s16, s17, s18, s19⟩ := hS2
  repeat' (first | with_reducible assumption | with_reducible exact KR_l | with_reducible refine KR_br ?_ ?_ | with_reducible refine KR_T ?_ (fun _ _ => ?_) | with_reducible refine KR_bnd (fun _ _ => ?_) | with_reducible refine KR_ck ?_ | with_reducible exact zrb_Pa_body_25 hS | with_reducible exact zrb_Pa_body_20 hS | with_reducible exact zr_Pa_look | with_reducible exact s0 _ _ | with_reducible exact s1 _ _ | with_reducible exact s2 _ | with_reducible exact s3 _ | with_reducible exact s4 _ | with_reducible exact s5 _ _ _ | with_reducible exact s6 _ | with_reducible exact s7 _ _ | with_reducible exact s8 _ | with_reducible exact s9 _ | with_reducible exact s10 _ | with_reducible exact s11 _ | with_reducible exact s12 _ | with_reducible exact s13 _ | with_reducible exact s14 _ _ | with_reducible exact s15 _ _ | with_reducible exact s16 _ _ | with_reducible exact s17 _ | with_reducible exact s18 _ _ _ | with_reducible exact s19 _ _ _ _ | with_reducible refine KR_lt (fun _ => ?_))
theorem zr_Pa_body {S : SF_Pa_matched} {u : MS} (hS : KRS S) : KR (hm_Pa_body N S u) := by
  unfold hm_Pa_body
  exact zrb_Pa_body_0 hS
theorem zrb_Pa_atomOrCall_0 {S : SF_Pa_matched} {G : Unit} {u : MS} (hS : KRS S) : KR (hb_Pa_atomOrCall_0 N S G u) := by
  unfold hb_Pa_atomOrCall_0
  have hS2 := hS
  obtain ⟨s0, s1, s2, s3, s4, s5, s6, s7, s8, s9, s10, s11, s12, s13, s14, s15, s16, s17, s18, s19⟩ := hS2
  repeat' (first | with_reducible assumption | with_reducible exact KR_l | with_reducible refine KR_br ?_ ?_ | with_reducible refine KR_T ?_ (fun _ _ => ?_) | with_reducible refine KR_bnd (fun _ _ => ?_) | with_reducible refine KR_ck ?_ | with_reducible exact zr_Pa_look | with_reducible exact s0 _ _ | with_reducible exact s1 _ _ | with_reducible exact s2 _ | with_reducible exact s3 _ | with_reducible exact s4 _ | with_reducible exact s5 _ _ _ | with_reducible exact s6 _ | with_reducible exact s7 _ _ | with_reducible exact s8 _ | with_reducible exact s9 _ | with_reducible exact s10 _ | with_reducible exact s11 _ | with_reducible exact s12 _ | with_reducible exact s13 _ | with_reducible exact s14 _ _ | with_reducible exact s15 _ _ | with_reducible exact s16 _ _ | with_reducible exact s17 _ | with_reducible exact s18 _ _ _ | with_reducible exact s19 _ _ _ _ | with_reducible refine KR_lt (fun _ => ?_))
theorem zr_Pa_atomOrCall {S : SF_Pa_matched} {u : MS} (hS : KRS S) : KR (hm_Pa_atomOrCall N S u) := by
  unfold hm_Pa_atomOrCall
  exact zrb_Pa_atomOrCall_0 hS
theorem zrb_Pa_primary_0 {S : SF_Pa_matched} {G : Unit} {u : MS} (hS : KRS S) : KR (hb_Pa_primary_0 N S G u) := by
  unfold hb_Pa_primary_0
  have hS2 := hS
  obtain ⟨s0, s1, s2, s3, s4, s5, s6, s7, s8, s9, s10, s11, s12, s13, s14, s15, s16, s17, s18, s19⟩ := hS2
  repeat' (first | with_reducible assumption | with_reducible exact KR_l | with_reducible refine KR_br ?_ ?_ | with_reducible refine KR_T ?_ (fun _ _ => ?_) | with_reducible refine KR_bnd (fun _ _ => ?_) | with_reducible refine KR_ck ?_ | with_reducible exact KR_ref (by decide) | with_reducible exact zr_Pa_look | with_reducible exact zr_Pa_need | with_reducible exact s0 _ _ | with_reducible exact s1 _ _ | with_reducible exact s2 _ | with_reducible exact s3 _ | with_reducible exact s4 _ | with_reducible exact s5 _ _ _ | with_reducible exact s6 _ | with_reducible exact s7 _ _ | with_reducible exact s8 _ | with_reducible exact s9 _ | with_reducible exact s10 _ | with_reducible exact s11 _ | with_reducible exact s12 _ | with_reducible exact s13 _ | with_reducible exact s14 _ _ | with_reducible exact s15 _ _ | with_reducible exact s16 _ _ | with_reducible exact s17 _ | with_reducible exact s18 _ _ _ | with_reducible exact s19 _ _ _ _ | with_reducible refine KR_lt (fun _ => ?_))
theorem zr_Pa_primary {S : SF_Pa_matched} {u : MS} (hS : KRS S) : KR (hm_Pa_primary N S u) := by
  unfold hm_Pa_primary
  exact zrb_Pa_primary_0 hS
theorem zrb_Pa_unit_69 {S : SF_Pa_matched} {G : Unit} {u : MS} {v2 : Int32} {t1 : Int32} (hS : KRS S) : KR (hb_Pa_unit_69 N S G u v2 t1) := by
  unfold hb_Pa_unit_69
  have hS2 := hS
  obtain ⟨s0, s1, s2, s3, s4, s5, s6, s7, s8, s9, s10, s11, s12, s13, s14, s15, s16, s17, s18, s19⟩ := hS2
  repeat' (first | with_reducible assumption | with_reducible exact KR_l | with_reducible refine KR_br ?_ ?_ | with_reducible refine KR_T ?_ (fun _ _ => ?_) | with_reducible refine KR_bnd (fun _ _ => ?_) | with_reducible refine KR_ck ?_ | with_reducible exact s0 _ _ | with_reducible exact s1 _ _ | with_reducible exact s2 _ | with_reducible exact s3 _ | with_reducible exact s4 _ | with_reducible exact s5 _ _ _ | with_reducible exact s6 _ | with_reducible exact s7 _ _ | with_reducible exact s8 _ | with_reducible exact s9 _ | with_reducible exact s10 _ | with_reducible exact s11 _ | with_reducible exact s12 _ | with_reducible exact s13 _ | with_reducible exact s14 _ _ | with_reducible exact s15 _ _ | with_reducible exact s16 _ _ | with_reducible exact s17 _ | with_reducible exact s18 _ _ _ | with_reducible exact s19 _ _ _ _ | with_reducible refine KR_lt (fun _ => ?_))
theorem zrb_Pa_unit_26 {S : SF_Pa_matched} {G : Unit} {u : MS} {v1 : Int32} (hS : KRS S) : KR (hb_Pa_unit_26 N S G u v1) := by
  unfold hb_Pa_unit_26
  have hS2 := hS
  obtain ⟨s0, s1, s2, s3, s4, s5, s6, s7, s8, s9, s10, s11, s12, s13, s14, s15, s16, s17, s18, s19⟩ := hS2
  repeat' (first | with_reducible assumption | with_reducible exact KR_l | with_reducible refine KR_br ?_ ?_ | with_reducible refine KR_T ?_ (fun _ _ => ?_) | with_reducible refine KR_bnd (fun _ _ => ?_) | with_reducible refine KR_ck ?_ | with_reducible exact zrb_Pa_unit_69 hS | with_reducible exact zr_Pa_opens | with_reducible exact zr_Pa_look | with_reducible exact s0 _ _ | with_reducible exact s1 _ _ | with_reducible exact s2 _ | with_reducible exact s3 _ | with_reducible exact s4 _ | with_reducible exact s5 _ _ _ | with_reducible exact s6 _ | with_reducible exact s7 _ _ | with_reducible exact s8 _ | with_reducible exact s9 _ | with_reducible exact s10 _ | with_reducible exact s11 _ | with_reducible exact s12 _ | with_reducible exact s13 _ | with_reducible exact s14 _ _ | with_reducible exact s15 _ _ | with_reducible exact s16 _ _ | with_reducible exact s17 _ | with_reducible exact s18 _ _ _ | with_reducible exact s19 _ _ _ _ | with_reducible refine KR_lt (fun _ => ?_))
theorem zrb_Pa_unit_0 {S : SF_Pa_matched} {G : Unit} {u : MS} (hS : KRS S) : KR (hb_Pa_unit_0 N S G u) := by
  unfold hb_Pa_unit_0
  have hS2 := hS
  obtain ⟨s0, s1, s2, s3, s4, s5, s6, s7, s8, s9, s10, s11, s12, s13, s14, s15, s16, s17, s18, s19⟩ := hS2
  repeat' (first | with_reducible assumption | with_reducible exact KR_l | with_reducible refine KR_br ?_ ?_ | with_reducible refine KR_T ?_ (fun _ _ => ?_) | with_reducible refine KR_bnd (fun _ _ => ?_) | with_reducible refine KR_ck ?_ | with_reducible exact zrb_Pa_unit_26 hS | with_reducible exact zr_Pa_look | with_reducible exact s0 _ _ | with_reducible exact s1 _ _ | with_reducible exact s2 _ | with_reducible exact s3 _ | with_reducible exact s4 _ | with_reducible exact s5 _ _ _ | with_reducible exact s6 _ | with_reducible exact s7 _ _ | with_reducible exact s8 _ | with_reducible exact s9 _ | with_reducible exact s10 _ | with_reducible exact s11 _ | with_reducible exact s12 _ | with_reducible exact s13 _ | with_reducible exact s14 _ _ | with_reducible exact s15 _ _ | with_reducible exact s16 _ _ | with_reducible exact s17 _ | with_reducible exact s18 _ _ _ | with_reducible exact s19 _ _ _ _ | with_reducible refine KR_lt (fun _ => ?_))
theorem zr_Pa_unit {S : SF_Pa_matched} {u : MS} (hS : KRS S) : KR (hm_Pa_unit N S u) := by
  unfold hm_Pa_unit
  exact zrb_Pa_unit_0 hS
theorem zrb_Pa_signed_155 {S : SF_Pa_matched} {G : (MS → Int32 → Int32 → Int32 → Int32 → Int32 → Int32 → Option (MS × (Int32 ⊕ Nat)))} {u : MS} {v1 : Int32} {v2 : Int32} {v3 : Int32} {v4 : Int32} {v5 : Int32} (hS : KRS S) (hG0 : ∀ (u : MS) a0 a1 a2 a3 a4 a5, KR (G u a0 a1 a2 a3 a4 a5)) : KR (hb_Pa_signed_155 N S G u v1 v2 v3 v4 v5) := by
  unfold hb_Pa_signed_155
  have hS2 := hS
  obtain ⟨s0, s1, s2, s3, s4, s5, s6, s7, s8, s9, s10, s11, s12, s13, s14, s15, s16, s17, s18, s19⟩ := hS2
  repeat' (first | with_reducible assumption | with_reducible exact KR_l | with_reducible refine KR_br ?_ ?_ | with_reducible refine KR_T ?_ (fun _ _ => ?_) | with_reducible refine KR_bnd (fun _ _ => ?_) | with_reducible refine KR_ck ?_ | with_reducible exact zr_Pa_closeSigns | with_reducible exact s0 _ _ | with_reducible exact s1 _ _ | with_reducible exact s2 _ | with_reducible exact s3 _ | with_reducible exact s4 _ | with_reducible exact s5 _ _ _ | with_reducible exact s6 _ | with_reducible exact s7 _ _ | with_reducible exact s8 _ | with_reducible exact s9 _ | with_reducible exact s10 _ | with_reducible exact s11 _ | with_reducible exact s12 _ | with_reducible exact s13 _ | with_reducible exact s14 _ _ | with_reducible exact s15 _ _ | with_reducible exact s16 _ _ | with_reducible exact s17 _ | with_reducible exact s18 _ _ _ | with_reducible exact s19 _ _ _ _ | with_reducible exact hG0 _ _ _ _ _ _ _ | with_reducible refine KR_lt (fun _ => ?_))
theorem zrb_Pa_signed_127 {S : SF_Pa_matched} {G : (MS → Int32 → Int32 → Int32 → Int32 → Int32 → Int32 → Option (MS × (Int32 ⊕ Nat)))} {u : MS} {v1 : Int32} {v2 : Int32} {v3 : Int32} {v4 : Int32} {v5 : Int32} {v6 : Int32} (hS : KRS S) (hG0 : ∀ (u : MS) a0 a1 a2 a3 a4 a5, KR (G u a0 a1 a2 a3 a4 a5)) : KR (hb_Pa_signed_127 N S G u v1 v2 v3 v4 v5 v6) := by
  unfold hb_Pa_signed_127
  have hS2 := hS
  obtain ⟨s0, s1, s2, s3, s4, s5, s6, s7, s8, s9, s10, s11, s12, s13, s14, s15, s16, s17, s18, s19⟩ := hS2
  repeat' (first | with_reducible assumption | with_reducible exact KR_l | with_reducible refine KR_br ?_ ?_ | with_reducible refine KR_T ?_ (fun _ _ => ?_) | with_reducible refine KR_bnd (fun _ _ => ?_) | with_reducible refine KR_ck ?_ | with_reducible exact s0 _ _ | with_reducible exact s1 _ _ | with_reducible exact s2 _ | with_reducible exact s3 _ | with_reducible exact s4 _ | with_reducible exact s5 _ _ _ | with_reducible exact s6 _ | with_reducible exact s7 _ _ | with_reducible exact s8 _ | with_reducible exact s9 _ | with_reducible exact s10 _ | with_reducible exact s11 _ | with_reducible exact s12 _ | with_reducible exact s13 _ | with_reducible exact s14 _ _ | with_reducible exact s15 _ _ | with_reducible exact s16 _ _ | with_reducible exact s17 _ | with_reducible exact s18 _ _ _ | with_reducible exact s19 _ _ _ _ | with_reducible exact hG0 _ _ _ _ _ _ _ | with_reducible refine KR_lt (fun _ => ?_))
theorem zrb_Pa_signed_102 {S : SF_Pa_matched} {G : (MS → Int32 → Int32 → Int32 → Int32 → Int32 → Int32 → Option (MS × (Int32 ⊕ Nat)))} {u : MS} {v1 : Int32} {v2 : Int32} {v3 : Int32} {v4 : Int32} {v5 : Int32} {v6 : Int32} {v7 : Int32} (hS : KRS S) (hG0 : ∀ (u : MS) a0 a1 a2 a3 a4 a5, KR (G u a0 a1 a2 a3 a4 a5)) : KR (hb_Pa_signed_102 N S G u v1 v2 v3 v4 v5 v6 v7) := by
  unfold hb_Pa_signed_102
  have hS2 := hS
  obtain ⟨s0, s1, s2, s3, s4, s5, s6, s7, s8, s9, s10, s11, s12, s13, s14, s15, s16, s17, s18, s19⟩ := hS2
  repeat' (first | with_reducible assumption | with_reducible exact KR_l | with_reducible refine KR_br ?_ ?_ | with_reducible refine KR_T ?_ (fun _ _ => ?_) | with_reducible refine KR_bnd (fun _ _ => ?_) | with_reducible refine KR_ck ?_ | with_reducible exact zrb_Pa_signed_127 hS hG0 | with_reducible exact s0 _ _ | with_reducible exact s1 _ _ | with_reducible exact s2 _ | with_reducible exact s3 _ | with_reducible exact s4 _ | with_reducible exact s5 _ _ _ | with_reducible exact s6 _ | with_reducible exact s7 _ _ | with_reducible exact s8 _ | with_reducible exact s9 _ | with_reducible exact s10 _ | with_reducible exact s11 _ | with_reducible exact s12 _ | with_reducible exact s13 _ | with_reducible exact s14 _ _ | with_reducible exact s15 _ _ | with_reducible exact s16 _ _ | with_reducible exact s17 _ | with_reducible exact s18 _ _ _ | with_reducible exact s19 _ _ _ _ | with_reducible exact hG0 _ _ _ _ _ _ _ | with_reducible refine KR_lt (fun _ => ?_))
theorem zrb_Pa_signed_24 {S : SF_Pa_matched} {G : (MS → Int32 → Int32 → Int32 → Int32 → Int32 → Int32 → Option (MS × (Int32 ⊕ Nat)))} {u : MS} {v1 : Int32} {v2 : Int32} {v3 : Int32} {v4 : Int32} {v5 : Int32} {v6 : Int32} (hS : KRS S) (hG0 : ∀ (u : MS) a0 a1 a2 a3 a4 a5, KR (G u a0 a1 a2 a3 a4 a5)) : KR (hb_Pa_signed_24 N S G u v1 v2 v3 v4 v5 v6) := by
  unfold hb_Pa_signed_24
  have hS2 := hS
  obtain ⟨s0, s1, s2, s3, s4, s5, s6, s7, s8, s9, s10, s11, s12, s13, s14, s15, s16, s17, s18, s19⟩ := hS2
  repeat' (first | with_reducible assumption | with_reducible exact KR_l | with_reducible refine KR_br ?_ ?_ | with_reducible refine KR_T ?_ (fun _ _ => ?_) | with_reducible refine KR_bnd (fun _ _ => ?_) | with_reducible refine KR_ck ?_ | with_reducible exact zr_Pa_closeSigns | with_reducible exact zrb_Pa_signed_102 hS hG0 | with_reducible exact zrb_Pa_signed_155 hS hG0 | with_reducible exact zrb_Pa_signed_127 hS hG0 | with_reducible exact zr_Pa_look | with_reducible exact s0 _ _ | with_reducible exact s1 _ _ | with_reducible exact s2 _ | with_reducible exact s3 _ | with_reducible exact s4 _ | with_reducible exact s5 _ _ _ | with_reducible exact s6 _ | with_reducible exact s7 _ _ | with_reducible exact s8 _ | with_reducible exact s9 _ | with_reducible exact s10 _ | with_reducible exact s11 _ | with_reducible exact s12 _ | with_reducible exact s13 _ | with_reducible exact s14 _ _ | with_reducible exact s15 _ _ | with_reducible exact s16 _ _ | with_reducible exact s17 _ | with_reducible exact s18 _ _ _ | with_reducible exact s19 _ _ _ _ | with_reducible exact hG0 _ _ _ _ _ _ _ | with_reducible refine KR_lt (fun _ => ?_))
theorem zrb_Pa_signed_0 {S : SF_Pa_matched} {G : (MS → Int32 → Int32 → Int32 → Int32 → Int32 → Int32 → Option (MS × (Int32 ⊕ Nat)))} {u : MS} (hS : KRS S) (hG0 : ∀ (u : MS) a0 a1 a2 a3 a4 a5, KR (G u a0 a1 a2 a3 a4 a5)) : KR (hb_Pa_signed_0 N S G u) := by
  unfold hb_Pa_signed_0
  have hS2 := hS
  obtain ⟨s0, s1, s2, s3, s4, s5, s6, s7, s8, s9, s10, s11, s12, s13, s14, s15, s16, s17, s18, s19⟩ := hS2
  repeat' (first | with_reducible assumption | with_reducible exact KR_l | with_reducible refine KR_br ?_ ?_ | with_reducible refine KR_T ?_ (fun _ _ => ?_) | with_reducible refine KR_bnd (fun _ _ => ?_) | with_reducible refine KR_ck ?_ | with_reducible exact s0 _ _ | with_reducible exact s1 _ _ | with_reducible exact s2 _ | with_reducible exact s3 _ | with_reducible exact s4 _ | with_reducible exact s5 _ _ _ | with_reducible exact s6 _ | with_reducible exact s7 _ _ | with_reducible exact s8 _ | with_reducible exact s9 _ | with_reducible exact s10 _ | with_reducible exact s11 _ | with_reducible exact s12 _ | with_reducible exact s13 _ | with_reducible exact s14 _ _ | with_reducible exact s15 _ _ | with_reducible exact s16 _ _ | with_reducible exact s17 _ | with_reducible exact s18 _ _ _ | with_reducible exact s19 _ _ _ _ | with_reducible exact hG0 _ _ _ _ _ _ _ | with_reducible refine KR_lt (fun _ => ?_))
theorem zrg_Pa_signed {S : SF_Pa_matched} (hS : KRS S) (n : Nat) : (∀ (u : MS) a0 a1 a2 a3 a4 a5, KR ((hg_Pa_signed N S n) u a0 a1 a2 a3 a4 a5)) := by
  induction n with
  | zero => exact fun _ _ _ _ _ _ _ => KR_none
  | succ n ih => exact fun _ _ _ _ _ _ _ => zrb_Pa_signed_24 (N := N) hS ih
theorem zr_Pa_signed {S : SF_Pa_matched} {u : MS} (hS : KRS S) : KR (hm_Pa_signed N S u) := by
  unfold hm_Pa_signed
  exact zrb_Pa_signed_0 hS (zrg_Pa_signed hS N)
theorem zrb_Pa_expression_84 {S : SF_Pa_matched} {G : Unit} {u : MS} {v4 : Int32} (hS : KRS S) : KR (hb_Pa_expression_84 N S G u v4) := by
  unfold hb_Pa_expression_84
  have hS2 := hS
  obtain ⟨s0, s1, s2, s3, s4, s5, s6, s7, s8, s9, s10, s11, s12, s13, s14, s15, s16, s17, s18, s19⟩ := hS2
  repeat' (first | with_reducible assumption | with_reducible exact KR_l | with_reducible refine KR_br ?_ ?_ | with_reducible refine KR_T ?_ (fun _ _ => ?_) | with_reducible refine KR_bnd (fun _ _ => ?_) | with_reducible refine KR_ck ?_ | with_reducible exact s0 _ _ | with_reducible exact s1 _ _ | with_reducible exact s2 _ | with_reducible exact s3 _ | with_reducible exact s4 _ | with_reducible exact s5 _ _ _ | with_reducible exact s6 _ | with_reducible exact s7 _ _ | with_reducible exact s8 _ | with_reducible exact s9 _ | with_reducible exact s10 _ | with_reducible exact s11 _ | with_reducible exact s12 _ | with_reducible exact s13 _ | with_reducible exact s14 _ _ | with_reducible exact s15 _ _ | with_reducible exact s16 _ _ | with_reducible exact s17 _ | with_reducible exact s18 _ _ _ | with_reducible exact s19 _ _ _ _ | with_reducible refine KR_lt (fun _ => ?_))
theorem zrb_Pa_expression_28 {S : SF_Pa_matched} {G : Unit} {u : MS} {v2 : Int32} {t1 : Int32} (hS : KRS S) : KR (hb_Pa_expression_28 N S G u v2 t1) := by
  unfold hb_Pa_expression_28
  have hS2 := hS
  obtain ⟨s0, s1, s2, s3, s4, s5, s6, s7, s8, s9, s10, s11, s12, s13, s14, s15, s16, s17, s18, s19⟩ := hS2
  repeat' (first | with_reducible assumption | with_reducible exact KR_l | with_reducible refine KR_br ?_ ?_ | with_reducible refine KR_T ?_ (fun _ _ => ?_) | with_reducible refine KR_bnd (fun _ _ => ?_) | with_reducible refine KR_ck ?_ | with_reducible exact zrb_Pa_expression_84 hS | with_reducible exact zr_Pa_opens | with_reducible exact s0 _ _ | with_reducible exact s1 _ _ | with_reducible exact s2 _ | with_reducible exact s3 _ | with_reducible exact s4 _ | with_reducible exact s5 _ _ _ | with_reducible exact s6 _ | with_reducible exact s7 _ _ | with_reducible exact s8 _ | with_reducible exact s9 _ | with_reducible exact s10 _ | with_reducible exact s11 _ | with_reducible exact s12 _ | with_reducible exact s13 _ | with_reducible exact s14 _ _ | with_reducible exact s15 _ _ | with_reducible exact s16 _ _ | with_reducible exact s17 _ | with_reducible exact s18 _ _ _ | with_reducible exact s19 _ _ _ _ | with_reducible refine KR_lt (fun _ => ?_))
theorem zrb_Pa_expression_27 {S : SF_Pa_matched} {G : Unit} {u : MS} {v2 : Int32} (hS : KRS S) : KR (hb_Pa_expression_27 N S G u v2) := by
  unfold hb_Pa_expression_27
  have hS2 := hS
  obtain ⟨s0, s1, s2, s3, s4, s5, s6, s7, s8, s9, s10, s11, s12, s13, s14, s15, s16, s17, s18, s19⟩ := hS2
  repeat' (first | with_reducible assumption | with_reducible exact KR_l | with_reducible refine KR_br ?_ ?_ | with_reducible refine KR_T ?_ (fun _ _ => ?_) | with_reducible refine KR_bnd (fun _ _ => ?_) | with_reducible refine KR_ck ?_ | with_reducible exact zrb_Pa_expression_28 hS | with_reducible exact s0 _ _ | with_reducible exact s1 _ _ | with_reducible exact s2 _ | with_reducible exact s3 _ | with_reducible exact s4 _ | with_reducible exact s5 _ _ _ | with_reducible exact s6 _ | with_reducible exact s7 _ _ | with_reducible exact s8 _ | with_reducible exact s9 _ | with_reducible exact s10 _ | with_reducible exact s11 _ | with_reducible exact s12 _ | with_reducible exact s13 _ | with_reducible exact s14 _ _ | with_reducible exact s15 _ _ | with_reducible exact s16 _ _ | with_reducible exact s17 _ | with_reducible exact s18 _ _ _ | with_reducible exact s19 _ _ _ _ | with_reducible refine KR_lt (fun _ => ?_))
theorem zrb_Pa_expression_23 {S : SF_Pa_matched} {G : Unit} {u : MS} {v2 : Int32} (hS : KRS S) : KR (hb_Pa_expression_23 N S G u v2) := by
  unfold hb_Pa_expression_23
  have hS2 := hS
  obtain ⟨s0, s1, s2, s3, s4, s5, s6, s7, s8, s9, s10, s11, s12, s13, s14, s15, s16, s17, s18, s19⟩ := hS2
  repeat' (first | with_reducible assumption | with_reducible exact KR_l | with_reducible refine KR_br ?_ ?_ | with_reducible refine KR_T ?_ (fun _ _ => ?_) | with_reducible refine KR_bnd (fun _ _ => ?_) | with_reducible refine KR_ck ?_ | with_reducible exact zrb_Pa_expression_28 hS | with_reducible exact s0 _ _ | with_reducible exact s1 _ _ | with_reducible exact s2 _ | with_reducible exact s3 _ | with_reducible exact s4 _ | with_reducible exact s5 _ _ _ | with_reducible exact s6 _ | with_reducible exact s7 _ _ | with_reducible exact s8 _ | with_reducible exact s9 _ | with_reducible exact s10 _ | with_reducible exact s11 _ | with_reducible exact s12 _ | with_reducible exact s13 _ | with_reducible exact s14 _ _ | with_reducible exact s15 _ _ | with_reducible exact s16 _ _ | with_reducible exact s17 _ | with_reducible exact s18 _ _ _ | with_reducible exact s19 _ _ _ _ | with_reducible refine KR_lt (fun _ => ?_))
theorem zrb_Pa_expression_0 {S : SF_Pa_matched} {G : Unit} {u : MS} {v1 : Int32} (hS : KRS S) : KR (hb_Pa_expression_0 N S G u v1) := by
  unfold hb_Pa_expression_0
  have hS2 := hS
  obtain ⟨s0, s1, s2, s3, s4, s5, s6, s7, s8, s9, s10, s11, s12, s13, s14, s15, s16, s17, s18, s19⟩ := hS2
  repeat' (first | with_reducible assumption | with_reducible exact KR_l | with_reducible refine KR_br ?_ ?_ | with_reducible refine KR_T ?_ (fun _ _ => ?_) | with_reducible refine KR_bnd (fun _ _ => ?_) | with_reducible refine KR_ck ?_ | with_reducible exact zrb_Pa_expression_23 hS | with_reducible exact zrb_Pa_expression_27 hS | with_reducible exact zr_Pa_look | with_reducible exact s0 _ _ | with_reducible exact s1 _ _ | with_reducible exact s2 _ | with_reducible exact s3 _ | with_reducible exact s4 _ | with_reducible exact s5 _ _ _ | with_reducible exact s6 _ | with_reducible exact s7 _ _ | with_reducible exact s8 _ | with_reducible exact s9 _ | with_reducible exact s10 _ | with_reducible exact s11 _ | with_reducible exact s12 _ | with_reducible exact s13 _ | with_reducible exact s14 _ _ | with_reducible exact s15 _ _ | with_reducible exact s16 _ _ | with_reducible exact s17 _ | with_reducible exact s18 _ _ _ | with_reducible exact s19 _ _ _ _ | with_reducible refine KR_lt (fun _ => ?_))
theorem zr_Pa_expression {S : SF_Pa_matched} {u : MS} {v1 : Int32} (hS : KRS S) : KR (hm_Pa_expression N S u v1) := by
  unfold hm_Pa_expression
  exact zrb_Pa_expression_0 hS
theorem zrb_Pa_list_80 {S : SF_Pa_matched} {G : Unit} {u : MS} {v2 : Int32} {v3 : Int32} {v4 : Int32} (hS : KRS S) : KR (hb_Pa_list_80 N S G u v2 v3 v4) := by
  unfold hb_Pa_list_80
  have hS2 := hS
  obtain ⟨s0, s1, s2, s3, s4, s5, s6, s7, s8, s9, s10, s11, s12, s13, s14, s15, s16, s17, s18, s19⟩ := hS2
  repeat' (first | with_reducible assumption | with_reducible exact KR_l | with_reducible refine KR_br ?_ ?_ | with_reducible refine KR_T ?_ (fun _ _ => ?_) | with_reducible refine KR_bnd (fun _ _ => ?_) | with_reducible refine KR_ck ?_ | with_reducible exact zr_Pa_need | with_reducible exact s0 _ _ | with_reducible exact s1 _ _ | with_reducible exact s2 _ | with_reducible exact s3 _ | with_reducible exact s4 _ | with_reducible exact s5 _ _ _ | with_reducible exact s6 _ | with_reducible exact s7 _ _ | with_reducible exact s8 _ | with_reducible exact s9 _ | with_reducible exact s10 _ | with_reducible exact s11 _ | with_reducible exact s12 _ | with_reducible exact s13 _ | with_reducible exact s14 _ _ | with_reducible exact s15 _ _ | with_reducible exact s16 _ _ | with_reducible exact s17 _ | with_reducible exact s18 _ _ _ | with_reducible exact s19 _ _ _ _ | with_reducible refine KR_lt (fun _ => ?_))
theorem zrb_Pa_list_78 {S : SF_Pa_matched} {G : Unit} {u : MS} {v2 : Int32} {v3 : Int32} {t0 : Int32} (hS : KRS S) : KR (hb_Pa_list_78 N S G u v2 v3 t0) := by
  unfold hb_Pa_list_78
  have hS2 := hS
  obtain ⟨s0, s1, s2, s3, s4, s5, s6, s7, s8, s9, s10, s11, s12, s13, s14, s15, s16, s17, s18, s19⟩ := hS2
  repeat' (first | with_reducible assumption | with_reducible exact KR_l | with_reducible refine KR_br ?_ ?_ | with_reducible refine KR_T ?_ (fun _ _ => ?_) | with_reducible refine KR_bnd (fun _ _ => ?_) | with_reducible refine KR_ck ?_ | with_reducible exact zrb_Pa_list_80 hS | with_reducible exact s0 _ _ | with_reducible exact s1 _ _ | with_reducible exact s2 _ | with_reducible exact s3 _ | with_reducible exact s4 _ | with_reducible exact s5 _ _ _ | with_reducible exact s6 _ | with_reducible exact s7 _ _ | with_reducible exact s8 _ | with_reducible exact s9 _ | with_reducible exact s10 _ | with_reducible exact s11 _ | with_reducible exact s12 _ | with_reducible exact s13 _ | with_reducible exact s14 _ _ | with_reducible exact s15 _ _ | with_reducible exact s16 _ _ | with_reducible exact s17 _ | with_reducible exact s18 _ _ _ | with_reducible exact s19 _ _ _ _ | with_reducible refine KR_lt (fun _ => ?_))
theorem zrb_Pa_list_35 {S : SF_Pa_matched} {G : Unit} {u : MS} {v1 : Int32} {v2 : Int32} {t0 : Int32} (hS : KRS S) : KR (hb_Pa_list_35 N S G u v1 v2 t0) := by
  unfold hb_Pa_list_35
  have hS2 := hS
  obtain ⟨s0, s1, s2, s3, s4, s5, s6, s7, s8, s9, s10, s11, s12, s13, s14, s15, s16, s17, s18, s19⟩ := hS2
  repeat' (first | with_reducible assumption | with_reducible exact KR_l | with_reducible refine KR_br ?_ ?_ | with_reducible refine KR_T ?_ (fun _ _ => ?_) | with_reducible refine KR_bnd (fun _ _ => ?_) | with_reducible refine KR_ck ?_ | with_reducible exact zrb_Pa_list_78 hS | with_reducible exact zrb_Pa_list_80 hS | with_reducible exact zr_Pa_look | with_reducible exact s0 _ _ | with_reducible exact s1 _ _ | with_reducible exact s2 _ | with_reducible exact s3 _ | with_reducible exact s4 _ | with_reducible exact s5 _ _ _ | with_reducible exact s6 _ | with_reducible exact s7 _ _ | with_reducible exact s8 _ | with_reducible exact s9 _ | with_reducible exact s10 _ | with_reducible exact s11 _ | with_reducible exact s12 _ | with_reducible exact s13 _ | with_reducible exact s14 _ _ | with_reducible exact s15 _ _ | with_reducible exact s16 _ _ | with_reducible exact s17 _ | with_reducible exact s18 _ _ _ | with_reducible exact s19 _ _ _ _ | with_reducible refine KR_lt (fun _ => ?_))
theorem zrb_Pa_list_0 {S : SF_Pa_matched} {G : Unit} {u : MS} {v1 : Int32} (hS : KRS S) : KR (hb_Pa_list_0 N S G u v1) := by
  unfold hb_Pa_list_0
  have hS2 := hS
  obtain ⟨s0, s1, s2, s3, s4, s5, s6, s7, s8, s9, s10, s11, s12, s13, s14, s15, s16, s17, s18, s19⟩ := hS2
  repeat' (first | with_reducible assumption | with_reducible exact KR_l | with_reducible refine KR_br ?_ ?_ | with_reducible refine KR_T ?_ (fun _ _ => ?_) | with_reducible refine KR_bnd (fun _ _ => ?_) | with_reducible refine KR_ck ?_ | with_reducible exact zrb_Pa_list_35 hS | with_reducible exact zr_Pa_look | with_reducible exact s0 _ _ | with_reducible exact s1 _ _ | with_reducible exact s2 _ | with_reducible exact s3 _ | with_reducible exact s4 _ | with_reducible exact s5 _ _ _ | with_reducible exact s6 _ | with_reducible exact s7 _ _ | with_reducible exact s8 _ | with_reducible exact s9 _ | with_reducible exact s10 _ | with_reducible exact s11 _ | with_reducible exact s12 _ | with_reducible exact s13 _ | with_reducible exact s14 _ _ | with_reducible exact s15 _ _ | with_reducible exact s16 _ _ | with_reducible exact s17 _ | with_reducible exact s18 _ _ _ | with_reducible exact s19 _ _ _ _ | with_reducible refine KR_lt (fun _ => ?_))
theorem zr_Pa_list {S : SF_Pa_matched} {u : MS} {v1 : Int32} (hS : KRS S) : KR (hm_Pa_list N S u v1) := by
  unfold hm_Pa_list
  exact zrb_Pa_list_0 hS
theorem zrb_Pa_tuple_0 {S : SF_Pa_matched} {G : Unit} {u : MS} {v1 : Int32} (hS : KRS S) : KR (hb_Pa_tuple_0 N S G u v1) := by
  unfold hb_Pa_tuple_0
  have hS2 := hS
  obtain ⟨s0, s1, s2, s3, s4, s5, s6, s7, s8, s9, s10, s11, s12, s13, s14, s15, s16, s17, s18, s19⟩ := hS2
  repeat' (first | with_reducible assumption | with_reducible exact KR_l | with_reducible refine KR_br ?_ ?_ | with_reducible refine KR_T ?_ (fun _ _ => ?_) | with_reducible refine KR_bnd (fun _ _ => ?_) | with_reducible refine KR_ck ?_ | with_reducible exact s0 _ _ | with_reducible exact s1 _ _ | with_reducible exact s2 _ | with_reducible exact s3 _ | with_reducible exact s4 _ | with_reducible exact s5 _ _ _ | with_reducible exact s6 _ | with_reducible exact s7 _ _ | with_reducible exact s8 _ | with_reducible exact s9 _ | with_reducible exact s10 _ | with_reducible exact s11 _ | with_reducible exact s12 _ | with_reducible exact s13 _ | with_reducible exact s14 _ _ | with_reducible exact s15 _ _ | with_reducible exact s16 _ _ | with_reducible exact s17 _ | with_reducible exact s18 _ _ _ | with_reducible exact s19 _ _ _ _ | with_reducible refine KR_lt (fun _ => ?_))
theorem zr_Pa_tuple {S : SF_Pa_matched} {u : MS} {v1 : Int32} (hS : KRS S) : KR (hm_Pa_tuple N S u v1) := by
  unfold hm_Pa_tuple
  exact zrb_Pa_tuple_0 hS
theorem zrb_Pa_pattern_162 {S : SF_Pa_matched} {G : Unit} {u : MS} {v3 : Int32} (hS : KRS S) : KR (hb_Pa_pattern_162 N S G u v3) := by
  unfold hb_Pa_pattern_162
  have hS2 := hS
  obtain ⟨s0, s1, s2, s3, s4, s5, s6, s7, s8, s9, s10, s11, s12, s13, s14, s15, s16, s17, s18, s19⟩ := hS2
  repeat' (first | with_reducible assumption | with_reducible exact KR_l | with_reducible refine KR_br ?_ ?_ | with_reducible refine KR_T ?_ (fun _ _ => ?_) | with_reducible refine KR_bnd (fun _ _ => ?_) | with_reducible refine KR_ck ?_ | with_reducible exact s0 _ _ | with_reducible exact s1 _ _ | with_reducible exact s2 _ | with_reducible exact s3 _ | with_reducible exact s4 _ | with_reducible exact s5 _ _ _ | with_reducible exact s6 _ | with_reducible exact s7 _ _ | with_reducible exact s8 _ | with_reducible exact s9 _ | with_reducible exact s10 _ | with_reducible exact s11 _ | with_reducible exact s12 _ | with_reducible exact s13 _ | with_reducible exact s14 _ _ | with_reducible exact s15 _ _ | with_reducible exact s16 _ _ | with_reducible exact s17 _ | with_reducible exact s18 _ _ _ | with_reducible exact s19 _ _ _ _ | with_reducible refine KR_lt (fun _ => ?_))
theorem zrb_Pa_pattern_137 {S : SF_Pa_matched} {G : Unit} {u : MS} {v1 : Int32} (hS : KRS S) : KR (hb_Pa_pattern_137 N S G u v1) := by
  unfold hb_Pa_pattern_137
  have hS2 := hS
  obtain ⟨s0, s1, s2, s3, s4, s5, s6, s7, s8, s9, s10, s11, s12, s13, s14, s15, s16, s17, s18, s19⟩ := hS2
  repeat' (first | with_reducible assumption | with_reducible exact KR_l | with_reducible refine KR_br ?_ ?_ | with_reducible refine KR_T ?_ (fun _ _ => ?_) | with_reducible refine KR_bnd (fun _ _ => ?_) | with_reducible refine KR_ck ?_ | with_reducible exact zrb_Pa_pattern_162 hS | with_reducible exact s0 _ _ | with_reducible exact s1 _ _ | with_reducible exact s2 _ | with_reducible exact s3 _ | with_reducible exact s4 _ | with_reducible exact s5 _ _ _ | with_reducible exact s6 _ | with_reducible exact s7 _ _ | with_reducible exact s8 _ | with_reducible exact s9 _ | with_reducible exact s10 _ | with_reducible exact s11 _ | with_reducible exact s12 _ | with_reducible exact s13 _ | with_reducible exact s14 _ _ | with_reducible exact s15 _ _ | with_reducible exact s16 _ _ | with_reducible exact s17 _ | with_reducible exact s18 _ _ _ | with_reducible exact s19 _ _ _ _ | with_reducible refine KR_lt (fun _ => ?_))
theorem zrb_Pa_pattern_0 {S : SF_Pa_matched} {G : Unit} {u : MS} (hS : KRS S) : KR (hb_Pa_pattern_0 N S G u) := by
  unfold hb_Pa_pattern_0
  have hS2 := hS
  obtain ⟨s0, s1, s2, s3, s4, s5, s6, s7, s8, s9, s10, s11, s12, s13, s14, s15, s16, s17, s18, s19⟩ := hS2
  repeat' (first | with_reducible assumption | with_reducible exact KR_l | with_reducible refine KR_br ?_ ?_ | with_reducible refine KR_T ?_ (fun _ _ => ?_) | with_reducible refine KR_bnd (fun _ _ => ?_) | with_reducible refine KR_ck ?_ | with_reducible exact zrb_Pa_pattern_162 hS | with_reducible exact zrb_Pa_pattern_137 hS | with_reducible exact KR_ref (by decide) | with_reducible exact zr_Pa_opens | with_reducible exact zr_Pa_look | with_reducible exact zr_Pa_need | with_reducible exact s0 _ _ | with_reducible exact s1 _ _ | with_reducible exact s2 _ | with_reducible exact s3 _ | with_reducible exact s4 _ | with_reducible exact s5 _ _ _ | with_reducible exact s6 _ | with_reducible exact s7 _ _ | with_reducible exact s8 _ | with_reducible exact s9 _ | with_reducible exact s10 _ | with_reducible exact s11 _ | with_reducible exact s12 _ | with_reducible exact s13 _ | with_reducible exact s14 _ _ | with_reducible exact s15 _ _ | with_reducible exact s16 _ _ | with_reducible exact s17 _ | with_reducible exact s18 _ _ _ | with_reducible exact s19 _ _ _ _ | with_reducible refine KR_lt (fun _ => ?_))
theorem zr_Pa_pattern {S : SF_Pa_matched} {u : MS} (hS : KRS S) : KR (hm_Pa_pattern N S u) := by
  unfold hm_Pa_pattern
  exact zrb_Pa_pattern_0 hS
theorem zrb_Pa_row_78 {S : SF_Pa_matched} {G : (MS → Int32 → Int32 → Int32 → Int32 → Int32 → Option (MS × (Int32 ⊕ Nat)))} {u : MS} {v3 : Int32} (hS : KRS S) (hG0 : ∀ (u : MS) a0 a1 a2 a3 a4, KR (G u a0 a1 a2 a3 a4)) : KR (hb_Pa_row_78 N S G u v3) := by
  unfold hb_Pa_row_78
  have hS2 := hS
  obtain ⟨s0, s1, s2, s3, s4, s5, s6, s7, s8, s9, s10, s11, s12, s13, s14, s15, s16, s17, s18, s19⟩ := hS2
  repeat' (first | with_reducible assumption | with_reducible exact KR_l | with_reducible refine KR_br ?_ ?_ | with_reducible refine KR_T ?_ (fun _ _ => ?_) | with_reducible refine KR_bnd (fun _ _ => ?_) | with_reducible refine KR_ck ?_ | with_reducible exact s0 _ _ | with_reducible exact s1 _ _ | with_reducible exact s2 _ | with_reducible exact s3 _ | with_reducible exact s4 _ | with_reducible exact s5 _ _ _ | with_reducible exact s6 _ | with_reducible exact s7 _ _ | with_reducible exact s8 _ | with_reducible exact s9 _ | with_reducible exact s10 _ | with_reducible exact s11 _ | with_reducible exact s12 _ | with_reducible exact s13 _ | with_reducible exact s14 _ _ | with_reducible exact s15 _ _ | with_reducible exact s16 _ _ | with_reducible exact s17 _ | with_reducible exact s18 _ _ _ | with_reducible exact s19 _ _ _ _ | with_reducible exact hG0 _ _ _ _ _ _ | with_reducible refine KR_lt (fun _ => ?_))
theorem zrb_Pa_row_67 {S : SF_Pa_matched} {G : (MS → Int32 → Int32 → Int32 → Int32 → Int32 → Option (MS × (Int32 ⊕ Nat)))} {u : MS} {v1 : Int32} {v2 : Int32} {v3 : Int32} {v5 : Int32} {t1 : Int32} {t2 : Int32} (hS : KRS S) (hG0 : ∀ (u : MS) a0 a1 a2 a3 a4, KR (G u a0 a1 a2 a3 a4)) : KR (hb_Pa_row_67 N S G u v1 v2 v3 v5 t1 t2) := by
  unfold hb_Pa_row_67
  have hS2 := hS
  obtain ⟨s0, s1, s2, s3, s4, s5, s6, s7, s8, s9, s10, s11, s12, s13, s14, s15, s16, s17, s18, s19⟩ := hS2
  repeat' (first | with_reducible assumption | with_reducible exact KR_l | with_reducible refine KR_br ?_ ?_ | with_reducible refine KR_T ?_ (fun _ _ => ?_) | with_reducible refine KR_bnd (fun _ _ => ?_) | with_reducible refine KR_ck ?_ | with_reducible exact s0 _ _ | with_reducible exact s1 _ _ | with_reducible exact s2 _ | with_reducible exact s3 _ | with_reducible exact s4 _ | with_reducible exact s5 _ _ _ | with_reducible exact s6 _ | with_reducible exact s7 _ _ | with_reducible exact s8 _ | with_reducible exact s9 _ | with_reducible exact s10 _ | with_reducible exact s11 _ | with_reducible exact s12 _ | with_reducible exact s13 _ | with_reducible exact s14 _ _ | with_reducible exact s15 _ _ | with_reducible exact s16 _ _ | with_reducible exact s17 _ | with_reducible exact s18 _ _ _ | with_reducible exact s19 _ _ _ _ | with_reducible exact hG0 _ _ _ _ _ _ | with_reducible refine KR_lt (fun _ => ?_))
theorem zrb_Pa_row_23 {S : SF_Pa_matched} {G : (MS → Int32 → Int32 → Int32 → Int32 → Int32 → Option (MS × (Int32 ⊕ Nat)))} {u : MS} {v1 : Int32} {v2 : Int32} {v3 : Int32} {v4 : Int32} {v5 : Int32} (hS : KRS S) (hG0 : ∀ (u : MS) a0 a1 a2 a3 a4, KR (G u a0 a1 a2 a3 a4)) : KR (hb_Pa_row_23 N S G u v1 v2 v3 v4 v5) := by
  unfold hb_Pa_row_23
  have hS2 := hS
  obtain ⟨s0, s1, s2, s3, s4, s5, s6, s7, s8, s9, s10, s11, s12, s13, s14, s15, s16, s17, s18, s19⟩ := hS2
  repeat' (first | with_reducible assumption | with_reducible exact KR_l | with_reducible refine KR_br ?_ ?_ | with_reducible refine KR_T ?_ (fun _ _ => ?_) | with_reducible refine KR_bnd (fun _ _ => ?_) | with_reducible refine KR_ck ?_ | with_reducible exact zrb_Pa_row_67 hS hG0 | with_reducible exact zrb_Pa_row_78 hS hG0 | with_reducible exact zr_Pa_look | with_reducible exact s0 _ _ | with_reducible exact s1 _ _ | with_reducible exact s2 _ | with_reducible exact s3 _ | with_reducible exact s4 _ | with_reducible exact s5 _ _ _ | with_reducible exact s6 _ | with_reducible exact s7 _ _ | with_reducible exact s8 _ | with_reducible exact s9 _ | with_reducible exact s10 _ | with_reducible exact s11 _ | with_reducible exact s12 _ | with_reducible exact s13 _ | with_reducible exact s14 _ _ | with_reducible exact s15 _ _ | with_reducible exact s16 _ _ | with_reducible exact s17 _ | with_reducible exact s18 _ _ _ | with_reducible exact s19 _ _ _ _ | with_reducible exact hG0 _ _ _ _ _ _ | with_reducible refine KR_lt (fun _ => ?_))
theorem zrb_Pa_row_16 {S : SF_Pa_matched} {G : (MS → Int32 → Int32 → Int32 → Int32 → Int32 → Option (MS × (Int32 ⊕ Nat)))} {u : MS} {v1 : Int32} {v2 : Int32} {t0 : Int32} (hS : KRS S) (hG0 : ∀ (u : MS) a0 a1 a2 a3 a4, KR (G u a0 a1 a2 a3 a4)) : KR (hb_Pa_row_16 N S G u v1 v2 t0) := by
  unfold hb_Pa_row_16
  have hS2 := hS
  obtain ⟨s0, s1, s2, s3, s4, s5, s6, s7, s8, s9, s10, s11, s12, s13, s14, s15, s16, s17, s18, s19⟩ := hS2
  repeat' (first | with_reducible assumption | with_reducible exact KR_l | with_reducible refine KR_br ?_ ?_ | with_reducible refine KR_T ?_ (fun _ _ => ?_) | with_reducible refine KR_bnd (fun _ _ => ?_) | with_reducible refine KR_ck ?_ | with_reducible exact s0 _ _ | with_reducible exact s1 _ _ | with_reducible exact s2 _ | with_reducible exact s3 _ | with_reducible exact s4 _ | with_reducible exact s5 _ _ _ | with_reducible exact s6 _ | with_reducible exact s7 _ _ | with_reducible exact s8 _ | with_reducible exact s9 _ | with_reducible exact s10 _ | with_reducible exact s11 _ | with_reducible exact s12 _ | with_reducible exact s13 _ | with_reducible exact s14 _ _ | with_reducible exact s15 _ _ | with_reducible exact s16 _ _ | with_reducible exact s17 _ | with_reducible exact s18 _ _ _ | with_reducible exact s19 _ _ _ _ | with_reducible exact hG0 _ _ _ _ _ _ | with_reducible refine KR_lt (fun _ => ?_))
theorem zrb_Pa_row_0 {S : SF_Pa_matched} {G : (MS → Int32 → Int32 → Int32 → Int32 → Int32 → Option (MS × (Int32 ⊕ Nat)))} {u : MS} {v1 : Int32} {v2 : Int32} (hS : KRS S) (hG0 : ∀ (u : MS) a0 a1 a2 a3 a4, KR (G u a0 a1 a2 a3 a4)) : KR (hb_Pa_row_0 N S G u v1 v2) := by
  unfold hb_Pa_row_0
  have hS2 := hS
  obtain ⟨s0, s1, s2, s3, s4, s5, s6, s7, s8, s9, s10, s11, s12, s13, s14, s15, s16, s17, s18, s19⟩ := hS2
  repeat' (first | with_reducible assumption | with_reducible exact KR_l | with_reducible refine KR_br ?_ ?_ | with_reducible refine KR_T ?_ (fun _ _ => ?_) | with_reducible refine KR_bnd (fun _ _ => ?_) | with_reducible refine KR_ck ?_ | with_reducible exact zrb_Pa_row_16 hS hG0 | with_reducible exact s0 _ _ | with_reducible exact s1 _ _ | with_reducible exact s2 _ | with_reducible exact s3 _ | with_reducible exact s4 _ | with_reducible exact s5 _ _ _ | with_reducible exact s6 _ | with_reducible exact s7 _ _ | with_reducible exact s8 _ | with_reducible exact s9 _ | with_reducible exact s10 _ | with_reducible exact s11 _ | with_reducible exact s12 _ | with_reducible exact s13 _ | with_reducible exact s14 _ _ | with_reducible exact s15 _ _ | with_reducible exact s16 _ _ | with_reducible exact s17 _ | with_reducible exact s18 _ _ _ | with_reducible exact s19 _ _ _ _ | with_reducible exact hG0 _ _ _ _ _ _ | with_reducible refine KR_lt (fun _ => ?_))
theorem zrg_Pa_row {S : SF_Pa_matched} (hS : KRS S) (n : Nat) : (∀ (u : MS) a0 a1 a2 a3 a4, KR ((hg_Pa_row N S n) u a0 a1 a2 a3 a4)) := by
  induction n with
  | zero => exact fun _ _ _ _ _ _ => KR_none
  | succ n ih => exact fun _ _ _ _ _ _ => zrb_Pa_row_23 (N := N) hS ih
theorem zr_Pa_row {S : SF_Pa_matched} {u : MS} {v1 : Int32} {v2 : Int32} (hS : KRS S) : KR (hm_Pa_row N S u v1 v2) := by
  unfold hm_Pa_row
  exact zrb_Pa_row_0 hS (zrg_Pa_row hS N)
theorem zrb_Pa_rowUpTo_18 {S : SF_Pa_matched} {G : Unit} {u : MS} {v3 : Int32} {t0 : Int32} (hS : KRS S) : KR (hb_Pa_rowUpTo_18 N S G u v3 t0) := by
  unfold hb_Pa_rowUpTo_18
  have hS2 := hS
  obtain ⟨s0, s1, s2, s3, s4, s5, s6, s7, s8, s9, s10, s11, s12, s13, s14, s15, s16, s17, s18, s19⟩ := hS2
  repeat' (first | with_reducible assumption | with_reducible exact KR_l | with_reducible refine KR_br ?_ ?_ | with_reducible refine KR_T ?_ (fun _ _ => ?_) | with_reducible refine KR_bnd (fun _ _ => ?_) | with_reducible refine KR_ck ?_ | with_reducible exact zr_Pa_need | with_reducible exact s0 _ _ | with_reducible exact s1 _ _ | with_reducible exact s2 _ | with_reducible exact s3 _ | with_reducible exact s4 _ | with_reducible exact s5 _ _ _ | with_reducible exact s6 _ | with_reducible exact s7 _ _ | with_reducible exact s8 _ | with_reducible exact s9 _ | with_reducible exact s10 _ | with_reducible exact s11 _ | with_reducible exact s12 _ | with_reducible exact s13 _ | with_reducible exact s14 _ _ | with_reducible exact s15 _ _ | with_reducible exact s16 _ _ | with_reducible exact s17 _ | with_reducible exact s18 _ _ _ | with_reducible exact s19 _ _ _ _ | with_reducible refine KR_lt (fun _ => ?_))
theorem zrb_Pa_rowUpTo_0 {S : SF_Pa_matched} {G : Unit} {u : MS} {v1 : Int32} {v2 : Int32} {v3 : Int32} (hS : KRS S) : KR (hb_Pa_rowUpTo_0 N S G u v1 v2 v3) := by
  unfold hb_Pa_rowUpTo_0
  have hS2 := hS
  obtain ⟨s0, s1, s2, s3, s4, s5, s6, s7, s8, s9, s10, s11, s12, s13, s14, s15, s16, s17, s18, s19⟩ := hS2
  repeat' (first | with_reducible assumption | with_reducible exact KR_l | with_reducible refine KR_br ?_ ?_ | with_reducible refine KR_T ?_ (fun _ _ => ?_) | with_reducible refine KR_bnd (fun _ _ => ?_) | with_reducible refine KR_ck ?_ | with_reducible exact zrb_Pa_rowUpTo_18 hS | with_reducible exact zr_Pa_look | with_reducible exact s0 _ _ | with_reducible exact s1 _ _ | with_reducible exact s2 _ | with_reducible exact s3 _ | with_reducible exact s4 _ | with_reducible exact s5 _ _ _ | with_reducible exact s6 _ | with_reducible exact s7 _ _ | with_reducible exact s8 _ | with_reducible exact s9 _ | with_reducible exact s10 _ | with_reducible exact s11 _ | with_reducible exact s12 _ | with_reducible exact s13 _ | with_reducible exact s14 _ _ | with_reducible exact s15 _ _ | with_reducible exact s16 _ _ | with_reducible exact s17 _ | with_reducible exact s18 _ _ _ | with_reducible exact s19 _ _ _ _ | with_reducible refine KR_lt (fun _ => ?_))
theorem zr_Pa_rowUpTo {S : SF_Pa_matched} {u : MS} {v1 : Int32} {v2 : Int32} {v3 : Int32} (hS : KRS S) : KR (hm_Pa_rowUpTo N S u v1 v2 v3) := by
  unfold hm_Pa_rowUpTo
  exact zrb_Pa_rowUpTo_0 hS
theorem zrs : ∀ d, KRS (hrc_Pa_matched N d)
  | 0 => ⟨fun _ _ => KR_none, fun _ _ => KR_none, fun _ => KR_none, fun _ => KR_none, fun _ => KR_none, fun _ _ _ => KR_none, fun _ => KR_none, fun _ _ => KR_none, fun _ => KR_none, fun _ => KR_none, fun _ => KR_none, fun _ => KR_none, fun _ => KR_none, fun _ => KR_none, fun _ _ => KR_none, fun _ _ => KR_none, fun _ _ => KR_none, fun _ => KR_none, fun _ _ _ => KR_none, fun _ _ _ _ => KR_none⟩
  | d + 1 => ⟨fun _ _ => zr_Pa_matched (N := N) (zrs d), fun _ _ => zr_Pa_applied (N := N) (zrs d), fun _ => zr_Pa_fun (N := N) (zrs d), fun _ => zr_Pa_receive (N := N) (zrs d), fun _ => zr_Pa_choice (N := N) (zrs d), fun _ _ _ => zr_Pa_part (N := N) (zrs d), fun _ => zr_Pa_oneCase (N := N) (zrs d), fun _ _ => zr_Pa_parts (N := N) (zrs d), fun _ => zr_Pa_caseOf (N := N) (zrs d), fun _ => zr_Pa_body (N := N) (zrs d), fun _ => zr_Pa_atomOrCall (N := N) (zrs d), fun _ => zr_Pa_primary (N := N) (zrs d), fun _ => zr_Pa_unit (N := N) (zrs d), fun _ => zr_Pa_signed (N := N) (zrs d), fun _ _ => zr_Pa_expression (N := N) (zrs d), fun _ _ => zr_Pa_list (N := N) (zrs d), fun _ _ => zr_Pa_tuple (N := N) (zrs d), fun _ => zr_Pa_pattern (N := N) (zrs d), fun _ _ _ => zr_Pa_row (N := N) (zrs d), fun _ _ _ _ => zr_Pa_rowUpTo (N := N) (zrs d)⟩
theorem zrr_Pa_part {u : MS} {v1 : Int32} {v2 : Int32} : KR (hr_Pa_part N u v1 v2) := (zrs 300).2.2.2.2.2.1 _ _ _
theorem zrr_Pa_rowUpTo {u : MS} {v1 : Int32} {v2 : Int32} {v3 : Int32} : KR (hr_Pa_rowUpTo N u v1 v2 v3) := (zrs 300).2.2.2.2.2.2.2.2.2.2.2.2.2.2.2.2.2.2.2 _ _ _ _
theorem zrb_Pa_clause_0 {G : Unit} {u : MS}  : KR (hb_Pa_clause_0 N G u) := by
  unfold hb_Pa_clause_0
  repeat' (first | with_reducible assumption | with_reducible exact KR_l | with_reducible refine KR_br ?_ ?_ | with_reducible refine KR_T ?_ (fun _ _ => ?_) | with_reducible refine KR_bnd (fun _ _ => ?_) | with_reducible refine KR_ck ?_ | with_reducible exact zrr_Pa_rowUpTo | with_reducible exact zr_Pa_need | with_reducible exact zrr_Pa_part | with_reducible refine KR_lt (fun _ => ?_))
theorem zr_Pa_clause {u : MS}  : KR (hm_Pa_clause N u) := by
  unfold hm_Pa_clause
  exact zrb_Pa_clause_0
theorem zrb_Pa_oneFunction_58 {G : (MS → Int32 → Int32 → Int32 → Int32 → Option (MS × (Unit ⊕ Nat)))} {u : MS} {v1 : Int32} {v2 : Int32} (hG0 : ∀ (u : MS) a0 a1 a2 a3, KR (G u a0 a1 a2 a3)) : KR (hb_Pa_oneFunction_58 N G u v1 v2) := by
  unfold hb_Pa_oneFunction_58
  repeat' (first | with_reducible assumption | with_reducible exact KR_l | with_reducible refine KR_br ?_ ?_ | with_reducible refine KR_T ?_ (fun _ _ => ?_) | with_reducible refine KR_bnd (fun _ _ => ?_) | with_reducible refine KR_ck ?_ | with_reducible exact zr_Pa_need | with_reducible exact hG0 _ _ _ _ _ | with_reducible refine KR_lt (fun _ => ?_))
theorem zrb_Pa_oneFunction_15 {G : (MS → Int32 → Int32 → Int32 → Int32 → Option (MS × (Unit ⊕ Nat)))} {u : MS} {v1 : Int32} {v2 : Int32} {v3 : Int32} {v4 : Int32} (hG0 : ∀ (u : MS) a0 a1 a2 a3, KR (G u a0 a1 a2 a3)) : KR (hb_Pa_oneFunction_15 N G u v1 v2 v3 v4) := by
  unfold hb_Pa_oneFunction_15
  repeat' (first | with_reducible assumption | with_reducible exact KR_l | with_reducible refine KR_br ?_ ?_ | with_reducible refine KR_T ?_ (fun _ _ => ?_) | with_reducible refine KR_bnd (fun _ _ => ?_) | with_reducible refine KR_ck ?_ | with_reducible exact zrb_Pa_oneFunction_58 hG0 | with_reducible exact zr_Pa_clause | with_reducible exact zr_Pa_look | with_reducible exact hG0 _ _ _ _ _ | with_reducible refine KR_lt (fun _ => ?_))
theorem zrb_Pa_oneFunction_0 {G : (MS → Int32 → Int32 → Int32 → Int32 → Option (MS × (Unit ⊕ Nat)))} {u : MS} (hG0 : ∀ (u : MS) a0 a1 a2 a3, KR (G u a0 a1 a2 a3)) : KR (hb_Pa_oneFunction_0 N G u) := by
  unfold hb_Pa_oneFunction_0
  repeat' (first | with_reducible assumption | with_reducible exact KR_l | with_reducible refine KR_br ?_ ?_ | with_reducible refine KR_T ?_ (fun _ _ => ?_) | with_reducible refine KR_bnd (fun _ _ => ?_) | with_reducible refine KR_ck ?_ | with_reducible exact zr_Pa_clause | with_reducible exact hG0 _ _ _ _ _ | with_reducible refine KR_lt (fun _ => ?_))
theorem zrg_Pa_oneFunction (n : Nat) : (∀ (u : MS) a0 a1 a2 a3, KR ((hg_Pa_oneFunction N n) u a0 a1 a2 a3)) := by
  induction n with
  | zero => exact fun _ _ _ _ _ => KR_none
  | succ n ih => exact fun _ _ _ _ _ => zrb_Pa_oneFunction_15 (N := N) ih
theorem zr_Pa_oneFunction {u : MS}  : KR (hm_Pa_oneFunction N u) := by
  unfold hm_Pa_oneFunction
  exact zrb_Pa_oneFunction_0 (zrg_Pa_oneFunction N)
end
