def fc65 (Q Q' : Nat → Int → Int) (w w' : Nat → Nat → Int64) (rf rf' : Nat → Nat → Option Nat) : Prop := (∀ a, a ≠ 65 → Q' a = Q a) ∧ (Q' 65 1 = Q 65 1 ∧ Q' 65 2 = Q 65 2) ∧ (∀ a j, ¬ (a = 65 ∧ j = 7) → w' a j = w a j) ∧ (∀ a j, ¬ (a = 65 ∧ j = 8) → rf' a j = rf a j)
def fm64 (R R' : Nat → Int → Int) (v v' : Nat → Nat → Int64) : Prop := (∀ a, a ≠ 64 → R' a = R a) ∧ (∀ j, j < 5 ∨ 13 < j → R' 64 j = R 64 j) ∧ (∀ a j, ¬ (a = 64 ∧ j = 12) → v' a j = v a j)
theorem fc_of {Q Q' : Nat → Int → Int} {w w' : Nat → Nat → Int64} {rf rf' : Nat → Nat → Option Nat} (h : fr65 Q Q' w w' rf rf') : fc65 Q Q' w w' rf rf' := ⟨h.1, ⟨h.2.1 1 (by omega), h.2.1 2 (by omega)⟩, h.2.2.1, h.2.2.2⟩
theorem fc_refl {Q : Nat → Int → Int} {w : Nat → Nat → Int64} {rf : Nat → Nat → Option Nat} : fc65 Q Q w w rf rf := ⟨fun _ _ => rfl, ⟨rfl, rfl⟩, fun _ _ _ => rfl, fun _ _ _ => rfl⟩
theorem fc_trans {Q Q' Q'' : Nat → Int → Int} {w w' w'' : Nat → Nat → Int64} {rf rf' rf'' : Nat → Nat → Option Nat} (h : fc65 Q Q' w w' rf rf') (h2 : fc65 Q' Q'' w' w'' rf' rf'') : fc65 Q Q'' w w'' rf rf'' := ⟨fun a ha => (h2.1 a ha).trans (h.1 a ha), ⟨h2.2.1.1.trans h.2.1.1, h2.2.1.2.trans h.2.1.2⟩, fun a j ha => (h2.2.2.1 a j ha).trans (h.2.2.1 a j ha), fun a j ha => (h2.2.2.2 a j ha).trans (h.2.2.2 a j ha)⟩
theorem fc_fail {Q Q' : Nat → Int → Int} {w w' : Nat → Nat → Int64} {rf rf' : Nat → Nat → Option Nat} {k : Int} (h : fc65 Q Q' w w' rf rf') : fc65 Q (failQ Q' k) w w' rf rf' := by
  refine ⟨fun a ha => ?_, ⟨?_, ?_⟩, h.2.2⟩
  · unfold failQ; rw [setR_ne ha]; exact h.1 a ha
  · unfold failQ; rw [setR_same, updf_ne (by omega), updf_ne (by omega)]; exact h.2.1.1
  · unfold failQ; rw [setR_same, updf_ne (by omega), updf_ne (by omega)]; exact h.2.1.2
theorem fc_rok {Q Q' : Nat → Int → Int} {w w' : Nat → Nat → Int64} {rf rf' : Nat → Nat → Option Nat} (h : fc65 Q Q' w w' rf rf') (hr : RCok rf) : RCok rf' := RCok_of hr (fun a j hx => h.2.2.2 a j hx.2.2.2.2.2)
theorem fm_of {R R' : Nat → Int → Int} {v v' : Nat → Nat → Int64} (h : fr64 R R' v v') : fm64 R R' v v' := ⟨h.1, fun j hj => h.2.1 j (by omega), h.2.2⟩
theorem fm_refl {R : Nat → Int → Int} {v : Nat → Nat → Int64} : fm64 R R v v := ⟨fun _ _ => rfl, fun _ _ => rfl, fun _ _ _ => rfl⟩
theorem fm_trans {R R' R'' : Nat → Int → Int} {v v' v'' : Nat → Nat → Int64} (h : fm64 R R' v v') (h2 : fm64 R' R'' v' v'') : fm64 R R'' v v'' := ⟨fun a ha => (h2.1 a ha).trans (h.1 a ha), fun j hj => (h2.2.1 j hj).trans (h.2.1 j hj), fun a j ha => (h2.2.2 a j ha).trans (h.2.2 a j ha)⟩
theorem fm_set {R R' : Nat → Int → Int} {v v' : Nat → Nat → Int64} {j x : Int} (h : fm64 R R' v v') (hj : 5 ≤ j ∧ j ≤ 13) : fm64 R (setR R' 64 (updf (R' 64) j x)) v v' := by
  refine ⟨fun a ha => ?_, fun i hi => ?_, h.2.2⟩
  · rw [setR_ne ha]; exact h.1 a ha
  · rw [setR_same, updf_ne (by omega)]; exact h.2.1 i hi
theorem fm_bad {R R' : Nat → Int → Int} {v v' : Nat → Nat → Int64} {k : Int} (h : fm64 R R' v v') : fm64 R (badR R' k) v v' := by
  refine ⟨fun a ha => ?_, fun i hi => ?_, h.2.2⟩
  · unfold badR; rw [setR_ne ha]; exact h.1 a ha
  · unfold badR; rw [setR_same, updf_ne (by omega), updf_ne (by omega)]; exact h.2.1 i hi
theorem SYN_13 {Q R : Nat → Int → Int} {w v : Nat → Nat → Int64} {rf : Nat → Nat → Option Nat} {n m x : Int} (h : SYN Q w rf R v n m) : SYN Q w rf (setR R 64 (updf (R 64) 13 x)) v n m :=
  SYN_q h (fun _ _ _ => rfl) rfl (fun j h1 h2 => by rw [setR_same, updf_ne (by omega)]) (by rw [setR_ne (by omega)]) rfl rfl rfl
theorem TK_num {Q R : Nat → Int → Int} {c x : Int64} {st : Option Nat} {n : Int} (h : TK Q c st R x n) (h3 : R 64 7 = 3) : Q 65 6 = R 64 8 ∧ 0 ≤ R 64 8 ∧ R 64 8 ≤ 999 := by
  unfold TK at h
  rcases h.2.2 with ⟨z1, z2, z3, -⟩ | ⟨z1, z2, z3⟩ | ⟨z1, z4, z2, z3, -⟩ | ⟨z1, z2, -⟩ | ⟨z1, z2, z3, z4, z5, z6⟩
  · omega
  · omega
  · omega
  · omega
  · exact ⟨z5, z6⟩
theorem NUM {S S' : Nat → Nat × Nat} {Q : Nat → Int → Int} {w : Nat → Nat → Int64} {rf : Nat → Nat → Option Nat} {R : Nat → Int → Int} {v : Nat → Nat → Int64} {rm : Nat → Nat → Option Nat} {n m : Int} {lo hi : Int} (hS : SCok S) (hS' : SMok S') (hr : RCok rf) (hr' : RMok rm) (h : BEH S' rm Q R v n m) (hlo : -1000 ≤ lo ∧ lo ≤ 1000) (hhi : -1000 ≤ hi ∧ hi ≤ 1000) : ∃ Q1 w1 rf1 R1 v1, RCok rf1 ∧ fc65 Q Q1 w w1 rf rf1 ∧ fm64 R R1 v v1 ∧ ((fX8_takeNumber S (mk Q w rf) 65 (I lo) (I hi) = some (1, mk Q1 w1 rf1) ∧ fX13_readNumber S' (mk R v rm) 64 (I lo) (I hi) = some (1, mk R1 v1 rm) ∧ BEH S' rm Q1 R1 v1 n m ∧ Q1 65 6 = R1 64 13 ∧ lo ≤ R1 64 13 ∧ R1 64 13 ≤ hi ∧ Q 65 3 < Q1 65 3) ∨ (fX8_takeNumber S (mk Q w rf) 65 (I lo) (I hi) = some (0, mk Q1 w1 rf1) ∧ fX13_readNumber S' (mk R v rm) 64 (I lo) (I hi) = some (0, mk R1 v1 rm) ∧ FAIL Q1 R1)) := by
  obtain ⟨Q', w', rf', k1, k2, k3, k4, k5⟩ := nextB (S := S) (w := w) hS hS' hr hr' h
  obtain ⟨t1, t2, t3, t4, t5, -⟩ := TK_k k3.2
  have e7 : (mk R v rm).1 64 7 = I (R 64 7) := by rw [mk_1, castI]
  have e8 : (mk R v rm).1 64 8 = I (R 64 8) := by rw [mk_1, castI]
  have q4 : (mk Q' w' rf').1 65 4 = I (Q' 65 4) := by rw [mk_1, castI]
  have q6 : (mk Q' w' rf').1 65 6 = I (Q' 65 6) := by rw [mk_1, castI]
  by_cases c3 : R 64 7 = 3
  · obtain ⟨u1, u2, u3⟩ := TK_num k3.2 c3
    by_cases c4 : lo ≤ R 64 8 ∧ R 64 8 ≤ hi
    · obtain ⟨R2, v2, g1, g2, g3⟩ := goS (w := w') hS hS' k2 hr' (SYN_13 (x := R 64 8) k3) (by rw [setR_same, updf_ne (by omega)]; omega)
      refine ⟨Q', w', rf', R2, v2, k2, fc_of k4, fm_trans (fm_set fm_refl (by omega)) (fm_of g3), Or.inl ⟨?_, ?_, g2, ?_, ?_, ?_, ?_⟩⟩
      · unfold fX8_takeNumber
        rw [k1, bd0_s, q4, q6, if_pos (by rw [t3.2 c3]; rfl), if_neg (by rw [I_lt (by omega) (by omega)]; omega), if_pos (by rw [I_le (by omega) (by omega)]; omega)]
        rfl
      · unfold fX13_readNumber
        rw [e7, e8, if_pos (by rw [c3]; rfl), M_isIn (by omega) (by omega) (by omega), bd0_s, b2_t c4, if_pos (by decide), wI_mk]
        rw [castI] 
        rw [g1, bd0_s]
      · rw [g3.2.1 13 (by omega), setR_same, updf_same rfl]; exact u1
      · rw [g3.2.1 13 (by omega), setR_same, updf_same rfl]; exact c4.1
      · rw [g3.2.1 13 (by omega), setR_same, updf_same rfl]; exact c4.2
      · unfold wpos at k5; omega
    · have mb := M_bad (S' := S') (R := R) (v := v) (rm := rm) (k := 2) (by omega) t1
      refine ⟨failQ Q' 2, w', rf', badR R 2, v, k2, fc_fail (fc_of k4), fm_bad fm_refl, Or.inr ⟨?_, ?_, FAIL_mk k3.2⟩⟩
      · have e34 : fX8_takeNumber_b34 S (mk Q' w' rf') 65 = some (0, mk (failQ Q' 2) w' rf') := by
          unfold fX8_takeNumber_b34
          rw [I_lit, C_fails, bd2_s]
          rfl
        unfold fX8_takeNumber
        rw [k1, bd0_s, q4, q6, if_pos (by rw [t3.2 c3]; rfl), e34]
        by_cases c5 : Q' 65 6 < lo
        · rw [if_pos (by rw [I_lt (by omega) (by omega)]; exact c5)]
        · rw [if_neg (by rw [I_lt (by omega) (by omega)]; exact c5), if_neg (by rw [I_le (by omega) (by omega)]; omega)]
      · unfold fX13_readNumber
        rw [e7, e8, if_pos (by rw [c3]; rfl), M_isIn (by omega) (by omega) (by omega), bd0_s, b2_f c4, if_neg (by decide), I_lit, mb, bd2_s]
        rfl
  · have mb := M_bad (S' := S') (R := R) (v := v) (rm := rm) (k := 1) (by omega) t1
    refine ⟨failQ Q' 1, w', rf', badR R 1, v, k2, fc_fail (fc_of k4), fm_bad fm_refl, Or.inr ⟨?_, ?_, FAIL_mk k3.2⟩⟩
    · unfold fX8_takeNumber
      rw [k1, bd0_s, q4, if_neg (by rw [I_lit, I_eq (by omega) (by omega)]; exact fun hh => c3 (t3.1 hh)), I_lit, C_fails, bd2_s]
      rfl
    · unfold fX13_readNumber
      rw [e7, if_neg (by rw [I_lit, I_eq (by omega) (by omega)]; exact c3), I_lit, mb, bd2_s]
      rfl
theorem SEM {S S' : Nat → Nat × Nat} {Q : Nat → Int → Int} {w : Nat → Nat → Int64} {rf : Nat → Nat → Option Nat} {R : Nat → Int → Int} {v : Nat → Nat → Int64} {rm : Nat → Nat → Option Nat} {n m : Int} (hS : SCok S) (hS' : SMok S') (hr : RCok rf) (hr' : RMok rm) (h : BEH S' rm Q R v n m) : ∃ Q1 w1 rf1 R1 v1, RCok rf1 ∧ fc65 Q Q1 w w1 rf rf1 ∧ fm64 R R1 v v1 ∧ ((fX8_takeSemicolon S (mk Q w rf) 65 = some (1, mk Q1 w1 rf1) ∧ fX13_readEnd S' (mk R v rm) 64 = some (1, mk R1 v1 rm) ∧ BEH S' rm Q1 R1 v1 n m ∧ Q 65 3 < Q1 65 3) ∨ (fX8_takeSemicolon S (mk Q w rf) 65 = some (0, mk Q1 w1 rf1) ∧ fX13_readEnd S' (mk R v rm) 64 = some (0, mk R1 v1 rm) ∧ FAIL Q1 R1)) := by
  obtain ⟨Q', w', rf', k1, k2, k3, k4, k5⟩ := nextB (S := S) (w := w) hS hS' hr hr' h
  obtain ⟨t1, t2, t3, t4, t5, -⟩ := TK_k k3.2
  have q4 : (mk Q' w' rf').1 65 4 = I (Q' 65 4) := by rw [mk_1, castI]
  have ms := M_isSign (S' := S') (v := v) (rm := rm) (s := 59) k3.2 (by unfold sgn; omega)
  by_cases c3 : Q' 65 4 = 59
  · rw [b2_t c3] at ms
    have h7 : R 64 7 = 4 := by
      have := k3.2.2.2
      unfold sgn at this
      omega
    obtain ⟨R2, v2, g1, g2, g3⟩ := goS (w := w') hS hS' k2 hr' k3 (by omega)
    refine ⟨Q', w', rf', R2, v2, k2, fc_of k4, fm_of g3, Or.inl ⟨?_, ?_, g2, ?_⟩⟩
    · unfold fX8_takeSemicolon
      rw [k1, bd0_s, q4, if_pos (by rw [c3]; rfl)]
      rfl
    · unfold fX13_readEnd
      rw [I_lit, ms, bd0_s, if_pos (by decide), g1, bd0_s]
    · unfold wpos at k5; omega
  · rw [b2_f c3] at ms
    have mb := M_bad (S' := S') (R := R) (v := v) (rm := rm) (k := 1) (by omega) t1
    refine ⟨failQ Q' 1, w', rf', badR R 1, v, k2, fc_fail (fc_of k4), fm_bad fm_refl, Or.inr ⟨?_, ?_, FAIL_mk k3.2⟩⟩
    · unfold fX8_takeSemicolon
      rw [k1, bd0_s, q4, if_neg (by rw [I_lit, I_eq (by omega) (by omega)]; exact c3), I_lit, C_fails, bd2_s]
      rfl
    · unfold fX13_readEnd
      rw [I_lit, ms, bd0_s, if_neg (by decide), I_lit, mb, bd2_s]
      rfl
def Fnd (f : Nat → Prop) (many : Nat) (r : Int) : Prop := (r = -1 ∧ ∀ p, p < many → ¬ f p) ∨ (∃ k : Nat, r = k ∧ k < many ∧ f k ∧ ∀ p, p < k → ¬ f p)
theorem Fnd_ex (f : Nat → Prop) (many : Nat) : ∃ r, Fnd f many r := by
  induction many with
  | zero => exact ⟨-1, Or.inl ⟨rfl, fun p hp => by omega⟩⟩
  | succ k ih =>
    obtain ⟨r, h⟩ := ih
    rcases h with ⟨h1, h2⟩ | ⟨j, h1, h2, h3, h4⟩
    · by_cases q : f k
      · exact ⟨k, Or.inr ⟨k, rfl, by omega, q, h2⟩⟩
      · refine ⟨-1, Or.inl ⟨rfl, fun p hp => ?_⟩⟩
        by_cases e : p = k
        · rw [e]; exact q
        · exact h2 p (by omega)
    · exact ⟨r, Or.inr ⟨j, h1, by omega, h3, h4⟩⟩
theorem C_placeOf {S : Nat → Nat × Nat} {Q : Nat → Int → Int} {w : Nat → Nat → Int64} {rf : Nat → Nat → Option Nat} {a cap many : Nat} {c : Int64} {r : Int} (hS : (S a).2 = cap) (hc : cap < 100) (hm : many ≤ cap) (hf : Fnd (fun p => w a p = c) many r) : fX4_placeOf S (mk Q w rf) a (I many) c = some (I r) := by
  have ecap : (Int32.ofNat (S a).2) = I cap := by rw [hS]; rfl
  have st : ∀ k : Nat, k < many → (fX4_placeOf_L3 S (mk Q w rf) a (I many) c (I k) = if ¬ (lg_cmp (w a k) c) = 0 then some (.inl (I (k + 1 : Nat))) else some (.inr (.inl (I k)))) := by
    intro k hk
    have ek : ((k : Int)).toNat = k := by omega
    have e1 : I k + 1 = I (k + 1 : Nat) := by rw [I_lit, I_add]; rfl
    unfold fX4_placeOf_L3
    show (if I many ≤ I k then _ else _) = _
    rw [ecap, if_neg (by rw [I_le (by omega) (by omega)]; omega), if_neg (by rw [I_le (by omega) (by omega)]; omega), ldL_mk hS (by omega) (by omega), ek, nm_eq, e1]
  unfold fX4_placeOf
  have e0 : ((0 : Int32)) = I ((0 : Nat) : Int) := rfl
  rcases hf with ⟨h1, h2⟩ | ⟨k, h1, h2, h3, h4⟩
  · have := loop_seq (f := fX4_placeOf_L3 S (mk Q w rf) a (I many) c) (fun k => I (k : Nat)) many (m := 1000) (r := .inr ()) (by omega) (fun k hk => by
      rw [st k hk, if_pos (fun hz => h2 k hk (lg_0.1 hz))]) (by
      unfold fX4_placeOf_L3
      show (if I many ≤ I many then _ else _) = _
      rw [if_pos (by rw [I_le (by omega) (by omega)]; omega)])
    rw [e0, this, h1]
    rfl
  · have := loop_seq (f := fX4_placeOf_L3 S (mk Q w rf) a (I many) c) (fun k => I (k : Nat)) k (m := 1000) (r := .inl (I k)) (by omega) (fun j hj => by
      rw [st j (by omega), if_pos (fun hz => h4 j hj (lg_0.1 hz))]) (by
      rw [st k h2, if_neg (fun hn => hn (lg_0.2 h3))])
    rw [e0, this, h1]
    rfl
theorem M_findIn {S : Nat → Nat × Nat} {R : Nat → Int → Int} {v : Nat → Nat → Int64} {rm : Nat → Nat → Option Nat} {a cap base many : Nat} {x : Int64} {r : Int} (hS : (S a).2 = cap) (hc : cap < 100) (hm : base + many ≤ cap) (hf : Fnd (fun p => v a (base + p) = x) many r) : fX13_findIn S (mk R v rm) a (I base) (I many) x = some (I r) := by
  have st : ∀ k : Nat, k < many → (fX13_findIn_L3 S (mk R v rm) a (I base) (I many) x (I k) = if ¬ (lg_cmp (v a (base + k)) x) = 0 then some (.inl (I (k + 1 : Nat))) else some (.inr (.inl (I k)))) := by
    intro k hk
    have ek : ((base : Int) + (k : Int)).toNat = base + k := by omega
    have e1 : I k + 1 = I (k + 1 : Nat) := by rw [I_lit, I_add]; rfl
    unfold fX13_findIn_L3
    show (if I many ≤ I k then _ else _) = _
    rw [if_neg (by rw [I_le (by omega) (by omega)]; omega), I_add, ldL_mk hS (by omega) (by omega), ek, nm_eq, e1]
  unfold fX13_findIn
  have e0 : ((0 : Int32)) = I ((0 : Nat) : Int) := rfl
  rcases hf with ⟨h1, h2⟩ | ⟨k, h1, h2, h3, h4⟩
  · have := loop_seq (f := fX13_findIn_L3 S (mk R v rm) a (I base) (I many) x) (fun k => I (k : Nat)) many (m := 1000) (r := .inr ()) (by omega) (fun k hk => by
      rw [st k hk, if_pos (fun hz => h2 k hk (lg_0.1 hz))]) (by
      unfold fX13_findIn_L3
      show (if I many ≤ I many then _ else _) = _
      rw [if_pos (by rw [I_le (by omega) (by omega)]; omega)])
    rw [e0, this, h1]
    rfl
  · have := loop_seq (f := fX13_findIn_L3 S (mk R v rm) a (I base) (I many) x) (fun k => I (k : Nat)) k (m := 1000) (r := .inl (I k)) (by omega) (fun j hj => by
      rw [st j (by omega), if_pos (fun hz => h4 j hj (lg_0.1 hz))]) (by
      rw [st k h2, if_neg (fun hn => hn (lg_0.2 h3))])
    rw [e0, this, h1]
    rfl
theorem Fnd_iff {f g : Nat → Prop} {many : Nat} {r : Int} (h : ∀ p, p < many → (f p ↔ g p)) (hf : Fnd f many r) : Fnd g many r := by
  rcases hf with ⟨h1, h2⟩ | ⟨k, h1, h2, h3, h4⟩
  · exact Or.inl ⟨h1, fun p hp hg => h2 p hp ((h p hp).2 hg)⟩
  · exact Or.inr ⟨k, h1, h2, (h k h2).1 h3, fun p hp hg => h4 p hp ((h p (by omega)).2 hg)⟩
theorem Fnd_r {f : Nat → Prop} {many : Nat} {r : Int} (hf : Fnd f many r) : -1 ≤ r ∧ r < many := by
  rcases hf with ⟨h1, h2⟩ | ⟨k, h1, h2, h3, h4⟩ <;> omega
theorem find_eq {S S' : Nat → Nat × Nat} {Q R : Nat → Int → Int} {w v : Nat → Nat → Int64} {rf rm : Nat → Nat → Option Nat} {a cap a' cap' base : Nat} {many : Int} {c x : Int64} {l : List Nat} (hS : (S a).2 = cap) (hc : cap < 100) (hm : 0 ≤ many ∧ many ≤ cap) (hS' : (S' a').2 = cap') (hc' : cap' < 100) (hm' : base + many ≤ cap') (hn : ∀ p : Nat, (p : Int) < many → nmR (w a p) (v a' (base + p))) (hl : isNm l) (e1 : c = Int64.ofNat (n5 l)) (e2 : x = Int64.ofNat (n27 l)) : ∃ r, -1 ≤ r ∧ r < many ∧ fX4_placeOf S (mk Q w rf) a (I many) c = some (I r) ∧ fX13_findIn S' (mk R v rm) a' (I base) (I many) x = some (I r) := by
  obtain ⟨k, hk⟩ : ∃ k : Nat, many = k := ⟨many.toNat, by omega⟩
  subst hk
  obtain ⟨r, hf⟩ := Fnd_ex (fun p => w a p = c) k
  have hg : Fnd (fun p => v a' (base + p) = x) k r := by
    refine Fnd_iff ?_ hf
    intro p hp
    obtain ⟨l', z1, z2, z3⟩ := hn p (by omega)
    have := nm_eq2 z1 hl
    rw [z2, z3, e1, e2, this.1, this.2]
  have hr := Fnd_r hf
  exact ⟨r, by omega, by omega, C_placeOf hS hc (by omega) hf, M_findIn hS' hc' (by omega) hg⟩
