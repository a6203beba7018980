/-! ===== pure rows: the rolls as codes ===== -/
theorem qP_pos {d : Nat → Nat} : ∀ {k : Nat}, 0 < qP d k
  | 0 => Nat.one_pos
  | k + 1 => Nat.mul_pos (qP_pos (k := k)) (Nat.succ_pos _)
theorem qP_6 {d : Nat → Nat} {K : Nat} (hd : ∀ k, k < K → d k ≤ 5) : ∀ {k : Nat}, k ≤ K → qP d k ≤ 6 ^ k
  | 0, _ => Nat.le_refl _
  | k + 1, h => by
    have h1 := qP_6 hd (k := k) (by omega)
    have h2 := hd k (by omega)
    show qP d k * (d k + 1) ≤ 6 ^ k * 6
    exact Nat.mul_le_mul h1 (by omega)
theorem qP_b {d : Nat → Nat} {K k : Nat} (hK : K ≤ 6) (hd : ∀ k, k < K → d k ≤ 5) (hk : k ≤ K) : qP d k ≤ 46656 :=
  Nat.le_trans (qP_6 hd hk) (Nat.le_trans (Nat.pow_le_pow_right (n := 6) (by omega) (show k ≤ 6 by omega)) (by decide))
theorem qP_dvd {d : Nat → Nat} {k : Nat} : ∀ {s : Nat}, k ≤ s → qP d k ∣ qP d s
  | 0, h => by rw [show k = 0 by omega]; exact Nat.dvd_refl _
  | s + 1, h => by
    by_cases c : k = s + 1
    · rw [c]; exact Nat.dvd_refl _
    · exact Nat.dvd_trans (qP_dvd (s := s) (by omega)) (Nat.dvd_mul_right _ _)
theorem qP_mono {d : Nat → Nat} {k s : Nat} (h : k ≤ s) : qP d k ≤ qP d s := Nat.le_of_dvd qP_pos (qP_dvd h)
theorem qD_e {d : Nat → Nat} {e k : Nat} : e / qP d k % (d k + 1) = e % qP d (k + 1) / qP d k := (Nat.mod_mul_right_div_self _ _ _).symm
theorem qY_mod {a d : Nat → Nat} {e s k : Nat} (h : k < s) : qY a d (e % qP d s) k = qY a d e k := by
  unfold qY
  rw [qD_e, qD_e, Nat.mod_mod_of_dvd _ (qP_dvd h)]
theorem qY_c {a d : Nat → Nat} {e e' s k : Nat} (h : e % qP d s = e' % qP d s) (hk : k < s) : qY a d e k = qY a d e' k := by
  have h1 := qY_mod (a := a) (d := d) (e := e) hk
  have h2 := qY_mod (a := a) (d := d) (e := e') hk
  rw [← h1, ← h2, h]
theorem qY_le {a d : Nat → Nat} {e k : Nat} : a k ≤ qY a d e k ∧ qY a d e k ≤ a k + d k := by
  unfold qY
  have := Nat.mod_lt (e / qP d k) (show 0 < d k + 1 by omega)
  omega
theorem qcs_lt {d : Nat → Nat} {p s x : Nat} (hp : p < qP d s) (hx : x ≤ d s) : p + x * qP d s < qP d (s + 1) := by
  show p + x * qP d s < qP d s * (d s + 1)
  have h1 : x * qP d s ≤ d s * qP d s := Nat.mul_le_mul_right _ hx
  rw [Nat.mul_add, Nat.mul_one, Nat.mul_comm (qP d s)]
  omega
theorem qcs_mod {d : Nat → Nat} {p s x : Nat} (hp : p < qP d s) : (p + x * qP d s) % qP d s = p := by
  rw [Nat.add_mul_mod_self_right, Nat.mod_eq_of_lt hp]
theorem qcs_div {d : Nat → Nat} {p s x : Nat} (hp : p < qP d s) : (p + x * qP d s) / qP d s = x := by
  rw [Nat.add_mul_div_right _ _ qP_pos, Nat.div_eq_of_lt hp, Nat.zero_add]
theorem qcs_k {a d : Nat → Nat} {p s x k : Nat} (hp : p < qP d s) (hk : k < s) : qY a d (p + x * qP d s) k = qY a d p k :=
  qY_c (s := s) (by rw [qcs_mod hp, Nat.mod_eq_of_lt hp]) hk
theorem qcs_s {a d : Nat → Nat} {p s x : Nat} (hp : p < qP d s) (hx : x ≤ d s) : qY a d (p + x * qP d s) s = a s + x := by
  unfold qY
  rw [qcs_div hp, Nat.mod_eq_of_lt (by omega)]
/-- the code's next digit -/
theorem qcs_e {d : Nat → Nat} {e s : Nat} : e % qP d (s + 1) = e % qP d s + e / qP d s % (d s + 1) * qP d s := by
  show e % (qP d s * (d s + 1)) = _
  rw [Nat.mod_mul, Nat.mul_comm (e / qP d s % (d s + 1))]
def qT (K sp off : Nat) (a d : Nat → Nat) (f35 f38 f39 f40 : Nat → Int32) (s e : Nat) : Prop := (∀ k, s ≤ k → k < K → off.testBit k = true → qY a d e k = a k) ∧ ∀ u, s ≤ u → u < K → ¬ off.testBit u = true → ∀ t, t < u → ¬ off.testBit t = true → qG sp f35 f38 f39 f40 (qY a d e) t u
def qF (sp off : Nat) (a d : Nat → Nat) (f35 f38 f39 f40 : Nat → Int32) (s e : Nat) : Prop := ∀ t, t < s → ¬ off.testBit t = true → qG sp f35 f38 f39 f40 (qY a d e) t s
section
variable {K sp off : Nat} {a d : Nat → Nat} {f35 f38 f39 f40 : Nat → Int32} {s e e' p x : Nat}
theorem qG_c {y y' : Nat → Nat} {t s : Nat} (h1 : y t = y' t) (h2 : y s = y' s) : qG sp f35 f38 f39 f40 y t s ↔ qG sp f35 f38 f39 f40 y' t s := by
  unfold qG
  rw [h1, h2]
theorem qF_c (h : e % qP d (s + 1) = e' % qP d (s + 1)) : qF sp off a d f35 f38 f39 f40 s e ↔ qF sp off a d f35 f38 f39 f40 s e' := by
  have k : ∀ t, t < s → (qG sp f35 f38 f39 f40 (qY a d e) t s ↔ qG sp f35 f38 f39 f40 (qY a d e') t s) := fun t ht => qG_c (qY_c h (by omega)) (qY_c h (by omega))
  exact ⟨fun q t ht ho => (k t ht).mp (q t ht ho), fun q t ht ho => (k t ht).mpr (q t ht ho)⟩
theorem qT_0 : qT K sp off a d f35 f38 f39 f40 0 e ↔ qR K sp off a d f35 f38 f39 f40 e :=
  ⟨fun h => ⟨fun k hk ho => h.1 k (Nat.zero_le _) hk ho, fun t s ht hs o1 o2 => h.2 s (Nat.zero_le _) hs o2 t ht o1⟩, fun h => ⟨fun k _ hk ho => h.1 k hk ho, fun u _ hu o2 t ht o1 => h.2 t u ht hu o1 o2⟩⟩
theorem qT_K (h : K ≤ s) : qT K sp off a d f35 f38 f39 f40 s e := ⟨fun k h1 h2 => by omega, fun u h1 h2 => by omega⟩
theorem qT_n (hs : s < K) (ho : ¬ off.testBit s = true) : qT K sp off a d f35 f38 f39 f40 s e ↔ qF sp off a d f35 f38 f39 f40 s e ∧ qT K sp off a d f35 f38 f39 f40 (s + 1) e :=
  ⟨fun h => ⟨fun t ht o1 => h.2 s (Nat.le_refl _) hs ho t ht o1, fun k h1 h2 => h.1 k (by omega) h2, fun u h1 h2 => h.2 u (by omega) h2⟩, fun h => ⟨fun k h1 h2 o => by
    by_cases c : k = s
    · subst c; exact absurd o ho
    · exact h.2.1 k (by omega) h2 o, fun u h1 h2 o t ht o1 => by
    by_cases c : u = s
    · subst c; exact h.1 t ht o1
    · exact h.2.2 u (by omega) h2 o t ht o1⟩⟩
theorem qT_o (hs : s < K) (ho : off.testBit s = true) : qT K sp off a d f35 f38 f39 f40 s e ↔ qY a d e s = a s ∧ qT K sp off a d f35 f38 f39 f40 (s + 1) e :=
  ⟨fun h => ⟨h.1 s (Nat.le_refl _) hs ho, fun k h1 h2 => h.1 k (by omega) h2, fun u h1 h2 => h.2 u (by omega) h2⟩, fun h => ⟨fun k h1 h2 o => by
    by_cases c : k = s
    · subst c; exact h.1
    · exact h.2.1 k (by omega) h2 o, fun u h1 h2 o t ht o1 => by
    by_cases c : u = s
    · subst c; exact absurd ho o
    · exact h.2.2 u (by omega) h2 o t ht o1⟩⟩
/-- a roll with these years ahead of s -/
def qX (K sp off : Nat) (a d : Nat → Nat) (f35 f38 f39 f40 : Nat → Int32) (s p : Nat) : Prop := ∃ e, e < qP d K ∧ e % qP d s = p ∧ qT K sp off a d f35 f38 f39 f40 s e
theorem qX_K (hp : p < qP d K) : qX K sp off a d f35 f38 f39 f40 K p := ⟨p, hp, Nat.mod_eq_of_lt hp, qT_K (Nat.le_refl _)⟩
theorem qm_s (h : e % qP d (s + 1) = p + x * qP d s) (hp : p < qP d s) : e % qP d s = p := by
  rw [← Nat.mod_mod_of_dvd e (qP_dvd (d := d) (Nat.le_succ s)), h, qcs_mod hp]
theorem qX_o (hs : s < K) (ho : off.testBit s = true) (hp : p < qP d s) : qX K sp off a d f35 f38 f39 f40 s p ↔ qX K sp off a d f35 f38 f39 f40 (s + 1) p := by
  have p1 : p < qP d (s + 1) := Nat.lt_of_lt_of_le hp (qP_mono (Nat.le_succ s))
  constructor
  · rintro ⟨e, h1, h2, h3⟩
    obtain ⟨h4, h5⟩ := (qT_o hs ho).mp h3
    refine ⟨e, h1, ?_, h5⟩
    have h6 : e / qP d s % (d s + 1) = 0 := by
      unfold qY at h4
      omega
    rw [qcs_e, h6, h2, Nat.zero_mul, Nat.add_zero]
  · rintro ⟨e, h1, h2, h3⟩
    refine ⟨e, h1, qm_s (x := 0) (by rw [h2, Nat.zero_mul, Nat.add_zero]) hp, (qT_o hs ho).mpr ⟨?_, h3⟩⟩
    have h4 := qcs_s (a := a) (d := d) (p := p) (s := s) (x := 0) hp (Nat.zero_le _)
    rw [Nat.zero_mul, Nat.add_zero, Nat.add_zero] at h4
    rw [← h4]
    exact qY_c (s := s + 1) (by rw [h2, Nat.mod_eq_of_lt p1]) (by omega)
theorem qX_n (hs : s < K) (ho : ¬ off.testBit s = true) (hp : p < qP d s) : qX K sp off a d f35 f38 f39 f40 s p ↔ ∃ x, x ≤ d s ∧ qF sp off a d f35 f38 f39 f40 s (p + x * qP d s) ∧ qX K sp off a d f35 f38 f39 f40 (s + 1) (p + x * qP d s) := by
  constructor
  · rintro ⟨e, h1, h2, h3⟩
    obtain ⟨h4, h5⟩ := (qT_n hs ho).mp h3
    have hx : e / qP d s % (d s + 1) ≤ d s := by
      have := Nat.mod_lt (e / qP d s) (show 0 < d s + 1 by omega)
      omega
    have h6 : e % qP d (s + 1) = p + e / qP d s % (d s + 1) * qP d s := by rw [qcs_e, h2]
    exact ⟨_, hx, (qF_c (by rw [h6, Nat.mod_eq_of_lt (qcs_lt hp hx)])).mp h4, e, h1, h6, h5⟩
  · rintro ⟨x, hx, h4, e, h1, h2, h5⟩
    exact ⟨e, h1, qm_s h2 hp, (qT_n hs ho).mpr ⟨(qF_c (by rw [h2, Nat.mod_eq_of_lt (qcs_lt hp hx)])).mpr h4, h5⟩⟩
end
/-- how many codes are behind s -/
def qN (K : Nat) (d : Nat → Nat) (s : Nat) : Nat := qP d K / qP d s
theorem qN_e {K s : Nat} {d : Nat → Nat} (h : s ≤ K) : qP d s * qN K d s = qP d K := Nat.mul_div_cancel' (qP_dvd h)
theorem qN_s {K s : Nat} {d : Nat → Nat} (h : s < K) : qN K d s = (d s + 1) * qN K d (s + 1) := by
  have h1 := qN_e (d := d) (show s ≤ K by omega)
  have h2 := qN_e (d := d) (show s + 1 ≤ K by omega)
  refine Nat.eq_of_mul_eq_mul_left (qP_pos (d := d) (k := s)) ?_
  rw [h1, ← h2, ← Nat.mul_assoc]
  rfl
theorem qN_le {K s : Nat} {d : Nat → Nat} : qN K d s ≤ qP d K := Nat.div_le_self _ _
noncomputable def qB (c : Prop) : Bool := @decide c (Classical.propDecidable _)
theorem qB_t {c : Prop} : qB c = true ↔ c := @decide_eq_true_iff _ (Classical.propDecidable _)
theorem qB_c {c c' : Prop} (h : c ↔ c') : qB c = qB c' := by rw [propext h]
theorem ct_mul {f : Nat → Bool} {A : Nat} : ∀ {B : Nat}, ct f (A * B) = sm (fun x => ct (fun z => f (x + A * z)) B) A
  | 0 => (sm_0 (fun _ _ => rfl)).symm
  | B + 1 => by
    have e1 : ∀ n, ct f (A * B + n) = ct f (A * B) + sm (fun x => if f (x + A * B) = true then 1 else 0) n := by
      intro n
      induction n with
      | zero => rfl
      | succ n ih =>
        show ct f (A * B + n) + (if f (A * B + n) = true then 1 else 0) = ct f (A * B) + (sm (fun x => if f (x + A * B) = true then 1 else 0) n + if f (n + A * B) = true then 1 else 0)
        rw [ih, Nat.add_comm n (A * B)]
        exact Nat.add_assoc _ _ _
    rw [Nat.mul_add, Nat.mul_one, e1, ct_mul (B := B), ← sm_add]
    exact sm_congr (fun x _ => rfl)
theorem sm_le {g : Nat → Nat} {m : Nat} : ∀ {n : Nat}, m ≤ n → sm g m ≤ sm g n
  | 0, h => by rw [show m = 0 by omega]; exact Nat.le_refl _
  | n + 1, h => by
    by_cases c : m = n + 1
    · rw [c]; exact Nat.le_refl _
    · exact Nat.le_trans (sm_le (n := n) (by omega)) (Nat.le_add_right _ _)
theorem ct_f {p : Nat → Bool} {n : Nat} (h : ∀ k, k < n → ¬ p k = true) : ct p n = 0 := by
  by_cases c : 0 < ct p n
  · obtain ⟨s, h1, h2, -⟩ := ct_ex c
    exact absurd h2 (h s h1)
  · omega
section
variable {K sp off : Nat} {a d : Nat → Nat} {f35 f38 f39 f40 : Nat → Int32} {s e e' p : Nat}
/-- how many rolls with these years ahead of s -/
noncomputable def qC1 (K sp : Nat) (a d : Nat → Nat) (f35 f38 f39 f40 : Nat → Int32) (s p : Nat) : Nat := ct (fun z => qB (qT K sp 0 a d f35 f38 f39 f40 s (p + z * qP d s))) (qN K d s)
theorem qC_pos (hs : s ≤ K) (hp : p < qP d s) : 0 < qC1 K sp a d f35 f38 f39 f40 s p ↔ qX K sp 0 a d f35 f38 f39 f40 s p := by
  constructor
  · intro h
    obtain ⟨z, h1, h2, -⟩ := ct_ex h
    refine ⟨p + z * qP d s, ?_, qcs_mod hp, qB_t.mp h2⟩
    rw [← qN_e hs]
    have h3 : qP d s * (z + 1) ≤ qP d s * qN K d s := Nat.mul_le_mul_left _ h1
    rw [Nat.mul_add, Nat.mul_one, Nat.mul_comm (qP d s) z] at h3
    omega
  · rintro ⟨e, h1, h2, h3⟩
    have h4 : e = p + e / qP d s * qP d s := by
      have := Nat.mod_add_div e (qP d s)
      rw [Nat.mul_comm, h2] at this
      exact this.symm
    have h5 : e / qP d s < qN K d s := by
      rw [← qN_e hs] at h1
      exact Nat.div_lt_of_lt_mul h1
    have h6 : (fun z => qB (qT K sp 0 a d f35 f38 f39 f40 s (p + z * qP d s))) (e / qP d s) = true := by
      refine qB_t.mpr ?_
      rw [← h4]
      exact h3
    exact Nat.lt_of_le_of_lt (Nat.zero_le _) (ct_lt h5 h6)
theorem qC_le : qC1 K sp a d f35 f38 f39 f40 s p ≤ qP d K := Nat.le_trans ct_le qN_le
theorem qC_K (hp : p < qP d K) : qC1 K sp a d f35 f38 f39 f40 K p = 1 := by
  unfold qC1
  have e1 : qN K d K = 1 := Nat.div_self qP_pos
  rw [e1, ct_all (fun k _ => qB_t.mpr (qT_K (Nat.le_refl _)))]
noncomputable def qC2 (K sp : Nat) (a d : Nat → Nat) (f35 f38 f39 f40 : Nat → Int32) (s p x : Nat) : Nat := if qB (qF sp 0 a d f35 f38 f39 f40 s (p + x * qP d s)) = true then qC1 K sp a d f35 f38 f39 f40 (s + 1) (p + x * qP d s) else 0
theorem qC_s (hs : s < K) (hp : p < qP d s) : qC1 K sp a d f35 f38 f39 f40 s p = sm (qC2 K sp a d f35 f38 f39 f40 s p) (d s + 1) := by
  have n0 : ¬ (0 : Nat).testBit s = true := by rw [Nat.zero_testBit]; decide
  unfold qC1
  rw [qN_s hs, ct_mul]
  refine sm_congr (fun x hx => ?_)
  have ex : ∀ z, p + (x + (d s + 1) * z) * qP d s = (p + x * qP d s) + z * qP d (s + 1) := fun z => by
    show _ = (p + x * qP d s) + z * (qP d s * (d s + 1))
    rw [Nat.add_mul, Nat.add_assoc, Nat.mul_comm (qP d s), ← Nat.mul_assoc z, Nat.mul_comm z]
  have hx' : x ≤ d s := by omega
  have fe : ∀ z, qF sp 0 a d f35 f38 f39 f40 s (p + (x + (d s + 1) * z) * qP d s) ↔ qF sp 0 a d f35 f38 f39 f40 s (p + x * qP d s) := fun z => by
    rw [ex z]
    exact qF_c (by rw [Nat.add_mul_mod_self_right])
  unfold qC2
  by_cases c : qF sp 0 a d f35 f38 f39 f40 s (p + x * qP d s)
  · rw [if_pos (qB_t.mpr c)]
    unfold qC1
    have key : ∀ z, qT K sp 0 a d f35 f38 f39 f40 s (p + (x + (d s + 1) * z) * qP d s) ↔ qT K sp 0 a d f35 f38 f39 f40 (s + 1) ((p + x * qP d s) + z * qP d (s + 1)) := fun z => by
      rw [qT_n hs n0, ← ex z]
      exact ⟨fun h => h.2, fun h => ⟨(fe z).mpr c, h⟩⟩
    exact ct_ext (fun z _ => qB_c (key z))
  · rw [if_neg (fun h => c (qB_t.mp h))]
    exact ct_f (fun z _ h => c ((fe z).mp ((qT_n hs n0).mp (qB_t.mp h)).1))
theorem qC_0 : qC1 K sp a d f35 f38 f39 f40 0 0 = ct (qRb K sp 0 a d f35 f38 f39 f40) (qP d K) := by
  unfold qC1
  have e1 : qN K d 0 = qP d K := Nat.div_one _
  rw [e1]
  refine ct_ext (fun z _ => ?_)
  have e2 : 0 + z * qP d 0 = z := by
    show 0 + z * 1 = z
    omega
  show qB (qT K sp 0 a d f35 f38 f39 f40 0 (0 + z * qP d 0)) = qB (qR K sp 0 a d f35 f38 f39 f40 z)
  rw [e2]
  exact qB_c qT_0
end
