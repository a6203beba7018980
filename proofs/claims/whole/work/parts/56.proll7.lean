/-! ===== pure rows: how many rolls, and the years that are in some ===== -/
theorem q_orb {S y z : Nat} : (S ||| 2 ^ y).testBit z = true ↔ S.testBit z = true ∨ z = y := by
  rw [Nat.testBit_or, Nat.testBit_two_pow, Bool.or_eq_true, decide_eq_true_iff]
  exact ⟨fun h => h.imp id Eq.symm, fun h => h.imp id Eq.symm⟩
theorem q_orl {S y : Nat} (hy : y < 64) : lN S ||| z_lshl 1 (nI y) = lN (S ||| 2 ^ y) := by
  unfold z_lshl
  rw [show (1 : Int64) = lN 1 from rfl, wb_shl 1 hy, Nat.one_mul, fb_orL]
theorem q_acc {A B C : Prop} {s k x D : Nat} {Y : Nat → Prop} (h1 : B ↔ A ∨ (s ≤ k ∧ Y x)) (h2 : C ↔ B ∨ (s ≤ k ∧ ∃ x', x + 1 ≤ x' ∧ x' ≤ D ∧ Y x')) (hx : x ≤ D) : C ↔ A ∨ (s ≤ k ∧ ∃ x', x ≤ x' ∧ x' ≤ D ∧ Y x') := by
  rw [h2, h1]
  constructor
  · rintro ((h | ⟨h, y⟩) | ⟨h, x', p, q, y⟩)
    · exact Or.inl h
    · exact Or.inr ⟨h, x, Nat.le_refl _, hx, y⟩
    · exact Or.inr ⟨h, x', by omega, q, y⟩
  · rintro (h | ⟨h, x', p, q, y⟩)
    · exact Or.inl (Or.inl h)
    · by_cases c : x' = x
      · subst c; exact Or.inl (Or.inr ⟨h, y⟩)
      · exact Or.inr ⟨h, x', by omega, q, y⟩
section
variable {N K sp : Nat} {a d Bj : Nat → Nat} {f0 f1 f2 f6 f9 f35 f38 f39 f40 : Nat → Int32}
theorem qXZ {Z : Nat → Prop} {s p off : Nat} (hs : s < K) (ho : ¬ off.testBit s = true) (hp : p < qP d s) : (∃ e, e < qP d K ∧ e % qP d s = p ∧ qT K sp off a d f35 f38 f39 f40 s e ∧ Z e) ↔ ∃ x, x ≤ d s ∧ qF sp off a d f35 f38 f39 f40 s (p + x * qP d s) ∧ ∃ e, e < qP d K ∧ e % qP d (s + 1) = p + x * qP d s ∧ qT K sp off a d f35 f38 f39 f40 (s + 1) e ∧ Z e := by
  constructor
  · rintro ⟨e, h1, h2, h3, z⟩
    obtain ⟨h4, h5⟩ := (qT_n hs ho).mp h3
    have hx : e / qP d s % (d s + 1) ≤ d s := by
      have := Nat.mod_lt (e / qP d s) (show 0 < d s + 1 by omega)
      omega
    have h6 : e % qP d (s + 1) = p + e / qP d s % (d s + 1) * qP d s := by rw [qcs_e, h2]
    exact ⟨_, hx, (qF_c (by rw [h6, Nat.mod_eq_of_lt (qcs_lt hp hx)])).mp h4, e, h1, h6, h5, z⟩
  · rintro ⟨x, hx, h4, e, h1, h2, h5, z⟩
    exact ⟨e, h1, qm_s h2 hp, (qT_n hs ho).mpr ⟨(qF_c (by rw [h2, Nat.mod_eq_of_lt (qcs_lt hp hx)])).mpr h4, h5⟩, z⟩
theorem q_cf (hN : 60000 ≤ N) (hE : qE K sp a d Bj f0 f1 f2 f6 f9 f35 f38 f39 f40) : ∀ (D s p : Nat) (f10 : Nat → Int32) (f11 : Nat → Int64) (S : Nat → Nat), s ≤ K → K - s < D → p < qP d s → (∀ k, k < s → f10 k = nI (qY a d p k)) → (∀ k, k < K → f11 k = lN (S k)) → ∃ (F : Nat → Int32) (G : Nat → Int64) (S' : Nat → Nat), q_X3_countFrom_D N D (nI s) (nI K) (nI sp) f0 f1 f2 f6 f9 f10 f11 = some (nI (qC1 K sp a d f35 f38 f39 f40 s p), F, G) ∧ (∀ k, k < s → F k = f10 k) ∧ (∀ k, k < K → G k = lN (S' k)) ∧ ∀ k, k < K → ∀ z, (S' k).testBit z = true ↔ (S k).testBit z = true ∨ (s ≤ k ∧ ∃ e, e < qP d K ∧ e % qP d s = p ∧ qT K sp 0 a d f35 f38 f39 f40 s e ∧ qY a d e k = z) := by
  have hK := hE.1
  have n0 : ∀ k, ¬ (0 : Nat).testBit k = true := fun k => by rw [Nat.zero_testBit]; decide
  have hd : ∀ k, k < K → d k ≤ 5 := fun k hk => (hE.2.2.1 k hk).2.2.2.1
  have hkm : ∀ t, t < K → q_X4_hasBit N (-1) (nI t) = some (if (0 : Nat).testBit t = true then 0 else 1) := fun t ht => by
    rw [if_neg (n0 t)]
    exact q_bitm ⟨t, by omega⟩
  intro D
  induction D with
  | zero => intro s p f10 f11 S _ h; omega
  | succ D ihD =>
    intro s p f10 f11 S hs hD hp h10 h11
    show ∃ (F : Nat → Int32) (G : Nat → Int64) (S' : Nat → Nat), q_X3_countFrom_B N (q_X3_countFrom_D N D) (nI s) (nI K) (nI sp) f0 f1 f2 f6 f9 f10 f11 = some (nI (qC1 K sp a d f35 f38 f39 f40 s p), F, G) ∧ (∀ k, k < s → F k = f10 k) ∧ (∀ k, k < K → G k = lN (S' k)) ∧ ∀ k, k < K → ∀ z, (S' k).testBit z = true ↔ (S k).testBit z = true ∨ (s ≤ k ∧ ∃ e, e < qP d K ∧ e % qP d s = p ∧ qT K sp 0 a d f35 f38 f39 f40 s e ∧ qY a d e k = z)
    unfold q_X3_countFrom_B
    by_cases c : s = K
    · subst c
      rw [qC_K hp]
      exact ⟨f10, f11, S, e_p (e_le (Nat.le_refl _) (by omega)) rfl, fun _ _ => rfl, h11, fun k hk z => ⟨Or.inl, fun h => h.elim id (fun q => by omega)⟩⟩
    · have sK : s < K := by omega
      have nle : ¬ nI K ≤ nI s := e_nle sK (by omega)
      have l6 : nI s < 6 := e_lt (b := 6) (by omega) (by omega)
      have hin : z_in (nI s) 6 := e_in (by omega) (by omega)
      obtain ⟨-, h1, h2, d5, y40⟩ := hE.2.2.1 s sK
      have r1 : f1 (Int32.toNatClampNeg (nI s)) = nI (a s) := by rw [e_cl (n := s) (by omega), h1]
      have r2 : f2 (Int32.toNatClampNeg (nI s)) = nI (a s + d s) := by rw [e_cl (n := s) (by omega), h2]
      have L : ∀ (m x : Nat) (f10 : Nat → Int32) (f11 : Nat → Int64) (S : Nat → Nat), x ≤ d s + 1 → d s + 1 - x < m → (∀ k, k < s → f10 k = nI (qY a d p k)) → (∀ k, k < K → f11 k = lN (S k)) → ∃ (F : Nat → Int32) (G : Nat → Int64) (S' : Nat → Nat), q_X3_countFrom_L25 N (nI s) (nI K) (nI sp) f0 f1 f2 f6 f9 (q_X3_countFrom_D N D) m (nI (sm (qC2 K sp a d f35 f38 f39 f40 s p) x)) (nI (a s + x)) f10 f11 = some (nI (sm (qC2 K sp a d f35 f38 f39 f40 s p) (d s + 1)), F, G) ∧ (∀ k, k < s → F k = f10 k) ∧ (∀ k, k < K → G k = lN (S' k)) ∧ ∀ k, k < K → ∀ z, (S' k).testBit z = true ↔ (S k).testBit z = true ∨ (s ≤ k ∧ ∃ x', x ≤ x' ∧ x' ≤ d s ∧ (qF sp 0 a d f35 f38 f39 f40 s (p + x' * qP d s) ∧ ∃ e, e < qP d K ∧ e % qP d (s + 1) = p + x' * qP d s ∧ qT K sp 0 a d f35 f38 f39 f40 (s + 1) e ∧ qY a d e k = z)) := by
        intro m
        induction m with
        | zero => intro x f10 f11 S _ h; omega
        | succ m ih =>
          intro x f10 f11 S hx hm h10 h11
          have hu : ∀ v, upd f10 (Int32.toNatClampNeg (nI s)) v = upd f10 s v := fun v => by rw [e_cl (n := s) (by omega)]
          rw [q_X3_countFrom_L25, nI_1, r2, nI_1, hu]
          by_cases cx : x = d s + 1
          · subst cx
            exact ⟨f10, f11, S, e_p hin (e_p (e_lt (by omega) (by omega)) rfl), fun _ _ => rfl, h11, fun k hk z => ⟨Or.inl, fun h => h.elim id (fun ⟨_, x', q1, q2, _⟩ => by omega)⟩⟩
          · have hx' : x ≤ d s := by omega
            have nlt : ¬ nI (a s + d s) < nI (a s + x) := e_nlt (by omega) (by omega)
            have hy := q_y1 (off := 0) hp hx' (fun k hk _ => h10 k hk)
            have step : sm (qC2 K sp a d f35 f38 f39 f40 s p) (x + 1) = sm (qC2 K sp a d f35 f38 f39 f40 s p) x + qC2 K sp a d f35 f38 f39 f40 s p x := rfl
            rcases q_fit (N := N) hN hE hkm sK (n0 s) hy with ⟨t1, t2⟩ | ⟨t1, t2⟩
            · have e2 : qC2 K sp a d f35 f38 f39 f40 s p x = qC1 K sp a d f35 f38 f39 f40 (s + 1) (p + x * qP d s) := if_pos (qB_t.mpr t1)
              have hp1 := qcs_lt hp hx'
              obtain ⟨F, G, S1, g1, g2, g3, g4⟩ := ihD (s + 1) (p + x * qP d s) (upd f10 s (nI (a s + x))) f11 S (by omega) (by omega) hp1 (fun k hk => hy k (by omega) (n0 k)) h11
              have g2' : ∀ k, k < s → F k = f10 k := fun k hk => by rw [g2 k (by omega), pk_un (by omega)]
              have hpos := qC_pos (sp := sp) (a := a) (f35 := f35) (f38 := f38) (f39 := f39) (f40 := f40) (show s + 1 ≤ K by omega) hp1
              have hle : qC1 K sp a d f35 f38 f39 f40 (s + 1) (p + x * qP d s) ≤ 46656 := Nat.le_trans qC_le (qP_b hK hd (Nat.le_refl _))
              have ys : ∀ e, e % qP d (s + 1) = p + x * qP d s → qY a d e s = a s + x := fun e he => by
                rw [← qcs_s (a := a) hp hx']
                exact qY_c (s := s + 1) (by rw [he, Nat.mod_eq_of_lt hp1]) (Nat.lt_succ_self _)
              by_cases cp : 0 < qC1 K sp a d f35 f38 f39 f40 (s + 1) (p + x * qP d s)
              · obtain ⟨e0, e01, e02, e03⟩ := hpos.mp cp
                have hS2 : ∀ k, k < K → vp_updL G s (lN (S1 s ||| 2 ^ (a s + x))) k = lN (if k = s then S1 s ||| 2 ^ (a s + x) else S1 k) := fun k hk => by
                  by_cases z : k = s
                  · rw [if_pos z, z, pk_uLs]
                  · rw [pk_uLn z, if_neg z, g3 k hk]
                obtain ⟨F', G', S2, k1, k2, k3, k4⟩ := ih (x + 1) F (vp_updL G s (lN (S1 s ||| 2 ^ (a s + x)))) (fun k => if k = s then S1 s ||| 2 ^ (a s + x) else S1 k) (by omega) (by omega) (fun k hk => by rw [g2' k hk, h10 k hk]) hS2
                refine ⟨F', G', S2, e_p hin (e_n nlt (e_b t2 (e_n e_10 (e_b g1 (e_n (e_nle (b := 0) cp (by omega)) (e_s ?_)))))), fun k hk => by rw [k2 k hk, g2' k hk], k3, fun k hk z => q_acc (Y := fun x' => qF sp 0 a d f35 f38 f39 f40 s (p + x' * qP d s) ∧ ∃ e, e < qP d K ∧ e % qP d (s + 1) = p + x' * qP d s ∧ qT K sp 0 a d f35 f38 f39 f40 (s + 1) e ∧ qY a d e k = z) (B := (if k = s then S1 s ||| 2 ^ (a s + x) else S1 k).testBit z = true) ?_ (k4 k hk z) hx'⟩
                · show q_X3_countFrom_L25 N (nI s) (nI K) (nI sp) f0 f1 f2 f6 f9 (q_X3_countFrom_D N D) m (nI (sm (qC2 K sp a d f35 f38 f39 f40 s p) x) + nI (qC1 K sp a d f35 f38 f39 f40 (s + 1) (p + x * qP d s))) (nI (a s + x + 1)) F (vp_updL G (Int32.toNatClampNeg (nI s)) (G (Int32.toNatClampNeg (nI s)) ||| z_lshl 1 (nI (a s + x)))) = _
                  rw [e_cl (n := s) (by omega), g3 s sK, q_orl (by omega), nI_add, ← e2, ← step]
                  exact k1
                · by_cases w : k = s
                  · subst w
                    rw [if_pos rfl, q_orb, g4 k hk]
                    refine ⟨fun h => h.elim (fun h => h.elim Or.inl (fun h => absurd h.1 (Nat.not_succ_le_self _))) (fun h => Or.inr ⟨Nat.le_refl _, t1, e0, e01, e02, e03, by rw [ys e0 e02, h]⟩), fun h => h.elim (fun h => Or.inl (Or.inl h)) (fun ⟨_, _, e, q1, q2, q3, q4⟩ => Or.inr (by rw [← q4, ys e q2]))⟩
                  · rw [if_neg w, g4 k hk]
                    exact ⟨fun h => h.imp id (fun ⟨q1, q2⟩ => ⟨by omega, t1, q2⟩), fun h => h.imp id (fun ⟨q1, _, q2⟩ => ⟨by omega, q2⟩)⟩
              · have z0 : qC1 K sp a d f35 f38 f39 f40 (s + 1) (p + x * qP d s) = 0 := by omega
                obtain ⟨F', G', S2, k1, k2, k3, k4⟩ := ih (x + 1) F G S1 (by omega) (by omega) (fun k hk => by rw [g2' k hk, h10 k hk]) g3
                rw [step, e2, z0, Nat.add_zero] at k1
                rw [z0] at g1
                refine ⟨F', G', S2, e_p hin (e_n nlt (e_b t2 (e_n e_10 (e_b g1 (e_p (e_le (b := 0) (Nat.le_refl _) (by omega)) k1))))), fun k hk => by rw [k2 k hk, g2' k hk], k3, fun k hk z => q_acc (Y := fun x' => qF sp 0 a d f35 f38 f39 f40 s (p + x' * qP d s) ∧ ∃ e, e < qP d K ∧ e % qP d (s + 1) = p + x' * qP d s ∧ qT K sp 0 a d f35 f38 f39 f40 (s + 1) e ∧ qY a d e k = z) (B := (S1 k).testBit z = true) ?_ (k4 k hk z) hx'⟩
                rw [g4 k hk]
                have no : ∀ e, e < qP d K → e % qP d (s + 1) = p + x * qP d s → qT K sp 0 a d f35 f38 f39 f40 (s + 1) e → False := fun e q1 q2 q3 => cp (hpos.mpr ⟨e, q1, q2, q3⟩)
                exact ⟨fun h => h.imp id (fun ⟨_, e, q1, q2, q3, _⟩ => (no e q1 q2 q3).elim), fun h => h.imp id (fun ⟨_, _, e, q1, q2, q3, _⟩ => (no e q1 q2 q3).elim)⟩
            · have e2 : qC2 K sp a d f35 f38 f39 f40 s p x = 0 := if_neg (fun h => t1 (qB_t.mp h))
              obtain ⟨F', G', S2, k1, k2, k3, k4⟩ := ih (x + 1) (upd f10 s (nI (a s + x))) f11 S (by omega) (by omega) (fun k hk => by rw [pk_un (by omega), h10 k hk]) h11
              rw [step, e2, Nat.add_zero] at k1
              refine ⟨F', G', S2, e_p hin (e_n nlt (e_b t2 (e_p rfl k1))), fun k hk => by rw [k2 k hk, pk_un (by omega)], k3, fun k hk z => q_acc (Y := fun x' => qF sp 0 a d f35 f38 f39 f40 s (p + x' * qP d s) ∧ ∃ e, e < qP d K ∧ e % qP d (s + 1) = p + x' * qP d s ∧ qT K sp 0 a d f35 f38 f39 f40 (s + 1) e ∧ qY a d e k = z) (B := (S k).testBit z = true) ⟨Or.inl, fun h => h.elim id (fun ⟨_, q, _⟩ => absurd q t1)⟩ (k4 k hk z) hx'⟩
      obtain ⟨F, G, S', g1, g2, g3, g4⟩ := L N 0 f10 f11 S (Nat.zero_le _) (by omega) h10 h11
      rw [qC_s sK hp, r1]
      refine ⟨F, G, S', e_n nle (e_p l6 (e_p hin (e_b g1 rfl))), g2, g3, fun k hk z => ?_⟩
      rw [g4 k hk z, qXZ sK (n0 s) hp]
      exact ⟨fun h => h.imp id (fun ⟨q1, x', _, q2⟩ => ⟨q1, x', q2⟩), fun h => h.imp id (fun ⟨q1, x', q2⟩ => ⟨q1, x', Nat.zero_le _, q2⟩)⟩
end
