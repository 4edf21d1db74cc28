theorem stk_set {S S1 : PS} {ad : Nat → Nat} {p : Nat} {v : Int32} {r : List Int32} (e : S1 = S.setA (ad p) r.length v) (h : stk (S.A (ad p)) r) : stk (S1.A (ad p)) (v :: r) := by
  rw [e]
  refine ⟨by simp only [setI_K, setI_ln, setI_R, setI_Q, setI_I, setI_J, setI_A, setI_B, setJ_K, setJ_ln, setJ_R, setJ_Q, setJ_I, setJ_J, setJ_A, setJ_B, setR_K, setR_ln, setR_R, setR_Q, setR_I, setR_J, setR_A, setR_B, setA_K, setA_ln, setA_R, setA_Q, setA_I, setA_J, setA_A, setA_B, setB_K, setB_ln, setB_R, setB_Q, setB_I, setB_J, setB_A, setB_B, setQ_K, setQ_ln, setQ_R, setQ_Q, setQ_I, setQ_J, setQ_A, setQ_B, u2_ap, and_self, true_and, and_true, Option.some.injEq, exists_eq_left', exists_eq_left, forall_eq, forall_eq_apply_imp_iff, true_or, or_true, false_or, or_false, not_true_eq_false, not_false_eq_true, false_and, if_true, if_false, reduceIte], stk_up r (fun i hi => ?_) h⟩
  simp only [setI_K, setI_ln, setI_R, setI_Q, setI_I, setI_J, setI_A, setI_B, setJ_K, setJ_ln, setJ_R, setJ_Q, setJ_I, setJ_J, setJ_A, setJ_B, setR_K, setR_ln, setR_R, setR_Q, setR_I, setR_J, setR_A, setR_B, setA_K, setA_ln, setA_R, setA_Q, setA_I, setA_J, setA_A, setA_B, setB_K, setB_ln, setB_R, setB_Q, setB_I, setB_J, setB_A, setB_B, setQ_K, setQ_ln, setQ_R, setQ_Q, setQ_I, setQ_J, setQ_A, setQ_B, u2_ap, true_and]
  rw [if_neg (by omega)]
theorem len_m1 (r : List Int32) : nI (r.length + 1) - 1 = nI r.length := nI_pred _
theorem len_m2 (r : List Int32) : nI (r.length + 1 + 1) + (-1) = nI (r.length + 1) := pk_m1 _
theorem m200 (k : Nat) : 200 * nI k = nI (200 * k) := by rw [show (200 : Int32) = nI 200 from rfl, pk_mul]
theorem l_so11 {N h nc : Nat} {ad : Nat → Nat} {F f : Nat → Int32} {K : Int32 → PS → Prop} (hh : h < 8) (hc : nc ≤ 200) : ∀ (m n k : Nat) (t : List Bool) (vs : List Int32) (S : PS), Sh ad S → (∀ i, i < 7 → S.A (ad 93) i = F i) → S.A (ad 84) h = nI nc → (∀ i, i < nc → S.A (ad 85) (200 * h + i) = f i) → wrn f m k t [true] → okv t vs → stk (S.A (ad 92)) vs → vs.length ≤ k → k + m = nc → m < n → (∀ S' b, Un ad (fun _ _ => False) (fun n => n = 92) False S S' → evs F f m k vs = [b] → (b = 0 ∨ b = 1) → K b S') → wq_X11_isSo_17 N K n S (ad 80) (nI h) (nI vs.length) (nI (200 * h + k)) := by
  intro m
  induction m with
  | zero =>
    intro n k t vs S g hF h84 h85 hw ho hs hl hk hn hK
    obtain ⟨n, rfl⟩ : ∃ z, n = z + 1 := ⟨n - 1, by omega⟩
    have hw' : t = [true] := hw
    subst hw'
    obtain ⟨x, r, rfl, k3, k4⟩ := okv1 ho
    have hr := okv_len _ _ k4
    obtain rfl : r = [] := List.length_eq_zero_iff.mp hr
    have hx : S.A (ad 92) 0 = x := hs.1
    rw [wq_X11_isSo_17.eq_2, m200]
    refine ⟨g.k80, ad 84, g.r779, g.k84, by rw [g.l84]; exact vp_in_nI hh (by decide), ?_⟩
    rw [nI_clamp (by omega), h84, nI_add, if_pos (nI_le (by omega) (by omega))]
    refine ⟨ad 92, g.r802, g.k92, by rw [g.l92]; exact vp_in_nI (n := 0) (by decide) (by decide), ?_⟩
    rw [show (0 : Int32).toNatClampNeg = 0 from rfl, hx]
    have hK := hK S x Un.rf rfl (k3 rfl)
    rcases k3 rfl with rfl | rfl
    · rw [if_pos rfl]
      exact hK
    · rw [if_neg (by decide)]
      exact hK
  | succ m ih =>
    intro n k t vs S g hF h84 h85 hw ho hs hl hk hn hK
    obtain ⟨n, rfl⟩ : ∃ z, n = z + 1 := ⟨n - 1, by omega⟩
    obtain ⟨t1, hw1, hw2⟩ := hw
    have step : ∀ (v : Int32) (r : List Int32) (S1 : PS), S1 = S.setA (ad 92) r.length v → ev1 F (f k) vs = v :: r → stk (S.A (ad 92)) r → r.length ≤ k → wq_X11_isSo_17 N K n S1 (ad 80) (nI h) (nI (r.length + 1)) (nI (200 * h + k) + 1) := by
      intro v r S1 e1 e2 e3 e4
      have hU : Un ad (fun _ _ => False) (fun n => n = 92) False S S1 := by rw [e1]; exact Un.setA rfl
      have ho1 := ev_ok F hw1 ho
      rw [e2] at ho1
      rw [a1i]
      refine ih n (k + 1) t1 (v :: r) S1 (hU.sh g) ?_ ?_ ?_ hw2 ho1 (stk_set e1 e3) (by simp; omega) (by omega) (by omega) (fun S' b hU' e hb => hK S' b (Un.tr hU hU') ?_ hb)
      · rw [hU.A g (by omega)]; exact hF
      · rw [hU.A g (by omega)]; exact h84
      · rw [hU.A g (by omega)]; exact h85
      · rw [evs, e2]; exact e
    have hv : vp_in (nI (200 * h + k)) 1600 := vp_in_nI (by omega) (by decide)
    rw [wq_X11_isSo_17.eq_2, m200]
    refine ⟨g.k80, ad 84, g.r779, g.k84, by rw [g.l84]; exact vp_in_nI hh (by decide), ?_⟩
    rw [nI_clamp (show h < 2 ^ 31 by omega), h84, nI_add, if_neg (nI_ge (by omega) (by omega))]
    refine ⟨ad 85, g.r780, g.k85, by rw [g.l85]; exact hv, fun v19 e19 => ?_⟩
    rw [nI_clamp (by omega), h85 k (by omega)] at e19
    rw [e19]
    have bin : (f k = 40000 ∨ f k = 40001 ∨ f k = 30042 ∨ f k = 30043 ∨ f k = 30045 ∨ f k = 30060 ∨ f k = 30061 ∨ f k = 30062) → (∃ b1 b2 r, t = b1 :: b2 :: r) → (if f k = 40002 then (∃ p50 : Nat, S.R 802 (ad 80) = some p50 ∧ ∃ p51 : Nat, S.R 802 (ad 80) = some p51 ∧ S.K p51 = 20 ∧ vp_in (nI vs.length - 1) (S.ln p51) ∧ S.K p50 = 20 ∧ vp_in (nI vs.length - 1) (S.ln p50) ∧ ∀ S56 : PS, S56 = S.setA p50 (nI vs.length - 1).toNatClampNeg (1 - (S.A p51 (nI vs.length - 1).toNatClampNeg)) → wq_X11_isSo_17 N K n S56 (ad 80) (nI h) (nI vs.length) (nI (200 * h + k) + 1)) else (if f k = 40003 then (∃ p43 : Nat, S.R 802 (ad 80) = some p43 ∧ ∃ p44 : Nat, S.R 802 (ad 80) = some p44 ∧ S.K p44 = 20 ∧ vp_in (nI vs.length - 1) (S.ln p44) ∧ S.K p43 = 20 ∧ vp_in (nI vs.length - 1) (S.ln p43) ∧ ∀ S49 : PS, S49 = S.setA p43 (nI vs.length - 1).toNatClampNeg (0 - (S.A p44 (nI vs.length - 1).toNatClampNeg)) → wq_X11_isSo_17 N K n S49 (ad 80) (nI h) (nI vs.length) (nI (200 * h + k) + 1)) else (if f k < 30000 then (∃ p23 : Nat, S.R 802 (ad 80) = some p23 ∧ if f k < 20000 then (wq_X11_isSo_171 N K (fun S a0 x1 x3 x4 => wq_X11_isSo_17 N K n S a0 x1 x3 x4) S (ad 80) (nI h) (nI vs.length) (nI (200 * h + k)) p23 (nI vs.length) (f k)) else (∃ p28 : Nat, S.R 803 (ad 80) = some p28 ∧ S.K p28 = 20 ∧ vp_in (f k - 20000) (S.ln p28) ∧ wq_X11_isSo_171 N K (fun S a0 x1 x3 x4 => wq_X11_isSo_17 N K n S a0 x1 x3 x4) S (ad 80) (nI h) (nI vs.length) (nI (200 * h + k)) p23 (nI vs.length) (S.A p28 (f k - 20000).toNatClampNeg))) else (∃ p31 : Nat, S.R 802 (ad 80) = some p31 ∧ ∃ p32 : Nat, S.R 802 (ad 80) = some p32 ∧ S.K p32 = 20 ∧ vp_in ((nI vs.length + (-1)) - 1) (S.ln p32) ∧ ∃ p35 : Nat, S.R 802 (ad 80) = some p35 ∧ S.K p35 = 20 ∧ vp_in (nI vs.length + (-1)) (S.ln p35) ∧ wp_X11_joined N S (f k) (S.A p32 ((nI vs.length + (-1)) - 1).toNatClampNeg) (S.A p35 (nI vs.length + (-1)).toNatClampNeg) (fun r39 S38 => S38.K p31 = 20 ∧ vp_in ((nI vs.length + (-1)) - 1) (S38.ln p31) ∧ ∀ S42 : PS, S42 = S38.setA p31 ((nI vs.length + (-1)) - 1).toNatClampNeg r39 → wq_X11_isSo_17 N K n S42 (ad 80) (nI h) (nI vs.length + (-1)) (nI (200 * h + k) + 1)))))) := by
      intro hf ⟨b1, b2, r, et⟩
      rw [et] at ho
      obtain ⟨y, q, rfl, -, k2⟩ := okv1 ho
      obtain ⟨x, q, rfl, -, k3⟩ := okv1 k2
      have hl' : q.length + 1 + 1 ≤ k := hl
      have n1 : ¬ f k = 40002 := by rcases hf with e | e | e | e | e | e | e | e <;> rw [e] <;> decide
      have n2 : ¬ f k = 40003 := by rcases hf with e | e | e | e | e | e | e | e <;> rw [e] <;> decide
      have n3 : ¬ f k < 30000 := by rcases hf with e | e | e | e | e | e | e | e <;> rw [e] <;> decide
      have s1 : S.A (ad 92) (q.length + 1) = y := hs.1
      have s2 : S.A (ad 92) q.length = x := hs.2.1
      have v0 : vp_in (nI q.length) 200 := vp_in_nI (by omega) (by decide)
      have v1 : vp_in (nI (q.length + 1)) 200 := vp_in_nI (by omega) (by decide)
      show (if f k = 40002 then _ else _)
      rw [if_neg n1, if_neg n2, if_neg n3]
      rw [show (y :: x :: q).length = q.length + 1 + 1 from rfl, len_m2, len_m1, nI_clamp (by omega), nI_clamp (by omega)]
      refine ⟨ad 92, g.r802, ad 92, g.r802, g.k92, by rw [g.l92]; exact v0, ad 92, g.r802, g.k92, by rw [g.l92]; exact v1, ?_⟩
      rw [w_joined11, s1, s2]
      exact ⟨g.k92, by rw [g.l92]; exact v0, fun S42 e42 => step _ q S42 e42 (ev_bin F hf y x q) hs.2.2 (by omega)⟩
    rcases id hw1 with ⟨hf, r, et, -⟩ | ⟨hf, r, et, -⟩ | ⟨hf, r, et, -⟩ | ⟨hf, r, et, -⟩ | ⟨hf, r, et, -⟩ | ⟨hf, -⟩
    · rw [et] at ho
      obtain ⟨x, q, rfl, k2, k3⟩ := okv1 ho
      have hl' : q.length + 1 ≤ k := hl
      have s1 : S.A (ad 92) q.length = x := hs.1
      have v0 : vp_in (nI q.length) 200 := vp_in_nI (by omega) (by decide)
      rw [if_pos hf, show (x :: q).length = q.length + 1 from rfl, len_m1, nI_clamp (by omega)]
      refine ⟨ad 92, g.r802, ad 92, g.r802, g.k92, by rw [g.l92]; exact v0, g.k92, by rw [g.l92]; exact v0, fun S56 e56 => ?_⟩
      rw [s1] at e56
      exact step _ q S56 e56 (by rw [hf]; rfl) hs.2 (by omega)
    · rw [et] at ho
      obtain ⟨x, q, rfl, k2, k3⟩ := okv1 ho
      have hl' : q.length + 1 ≤ k := hl
      have s1 : S.A (ad 92) q.length = x := hs.1
      have v0 : vp_in (nI q.length) 200 := vp_in_nI (by omega) (by decide)
      rw [if_neg (by rw [hf]; decide), if_pos hf, show (x :: q).length = q.length + 1 from rfl, len_m1, nI_clamp (by omega)]
      refine ⟨ad 92, g.r802, ad 92, g.r802, g.k92, by rw [g.l92]; exact v0, g.k92, by rw [g.l92]; exact v0, fun S56 e56 => ?_⟩
      rw [s1] at e56
      exact step _ q S56 e56 (by rw [hf]; rfl) hs.2 (by omega)
    · exact bin (by rcases hf with e | e <;> simp [e]) ⟨_, _, _, et⟩
    · exact bin (by rcases hf with e | e | e <;> simp [e]) ⟨_, _, _, et⟩
    · exact bin (by rcases hf with e | e | e <;> simp [e]) ⟨_, _, _, et⟩
    · have v0 : vp_in (nI vs.length) 200 := vp_in_nI (by omega) (by decide)
      rcases hf with ⟨q, hq, hf⟩ | ⟨q, hq, hf⟩
      · have n1 : ¬ f k = 40002 := by rw [hf]; exact ii_ne (b := 40002) (by omega) (by decide) (by omega)
        have n2 : ¬ f k = 40003 := by rw [hf]; exact ii_ne (b := 40003) (by omega) (by decide) (by omega)
        have n3 : f k < 30000 := by rw [hf]; exact nI_lt (b := 30000) (by omega) (by decide)
        have n4 : f k < 20000 := by rw [hf]; exact nI_lt (b := 20000) (by omega) (by decide)
        rw [if_neg n1, if_neg n2, if_pos n3]
        refine ⟨ad 92, g.r802, ?_⟩
        rw [if_pos n4]
        unfold wq_X11_isSo_171
        rw [nI_clamp (by omega), a1i vs.length]
        exact ⟨g.k92, by rw [g.l92]; exact v0, fun S27 e27 => step _ vs S27 e27 (by rw [hf]; exact ev_num F hq vs) hs hl⟩
      · have n1 : ¬ f k = 40002 := by rw [hf]; exact ii_ne (b := 40002) (by omega) (by decide) (by omega)
        have n2 : ¬ f k = 40003 := by rw [hf]; exact ii_ne (b := 40003) (by omega) (by decide) (by omega)
        have n3 : f k < 30000 := by rw [hf]; exact nI_lt (b := 30000) (by omega) (by decide)
        have n4 : ¬ f k < 20000 := by rw [hf]; exact nI_nlt (b := 20000) (by omega) (by omega)
        have n5 : f k - 20000 = nI q := by rw [hf, show (20000 : Int32) = nI 20000 from rfl, pk_sub (by omega), Nat.add_sub_cancel_left]
        rw [if_neg n1, if_neg n2, if_pos n3]
        refine ⟨ad 92, g.r802, ?_⟩
        rw [if_neg n4, n5]
        refine ⟨ad 93, g.r803, g.k93, by rw [g.l93]; exact vp_in_nI (by omega) (by decide), ?_⟩
        unfold wq_X11_isSo_171
        rw [nI_clamp (by omega), nI_clamp (by omega), a1i vs.length, hF q (by omega)]
        exact ⟨g.k92, by rw [g.l92]; exact v0, fun S27 e27 => step _ vs S27 e27 (by rw [hf]; exact ev_fact F hq vs) hs hl⟩
theorem l_met10 {N nc a c : Nat} {ad : Nat → Nat} {F f : Nat → Int32} {K : Int32 → PS → Prop} (hc : nc ≤ 200) (hca : ∀ n, isN n → c ≠ ad n) : ∀ (m n k : Nat) (t : List Bool) (vs : List Int32) (S : PS), Sh ad S → (∀ i, i < 7 → S.A (ad 8) i = F i) → S.K a = 3 → S.R 192 a = some c → S.K c = 20 → S.ln c = nc → (∀ i, i < nc → S.A c i = phi (f i)) → wrn f m k t [true] → okv t vs → stk (S.A (ad 9)) vs → vs.length ≤ k → k + m = nc → m < n → (∀ S' b, Un ad (fun _ _ => False) (fun n => n = 9) False S S' → evs F f m k vs = [b] → (b = 0 ∨ b = 1) → K b S') → wq_X2_isMet_5 N K n S a (ad 8) (ad 9) (nI vs.length) (nI k) := by
  intro m
  induction m with
  | zero =>
    intro n k t vs S g hF ka kr kc kl h85 hw ho hs hl hk hn hK
    obtain ⟨n, rfl⟩ : ∃ z, n = z + 1 := ⟨n - 1, by omega⟩
    have hw' : t = [true] := hw
    subst hw'
    obtain ⟨x, r, rfl, k3, k4⟩ := okv1 ho
    have hr := okv_len _ _ k4
    obtain rfl : r = [] := List.length_eq_zero_iff.mp hr
    have hx : S.A (ad 9) 0 = x := hs.1
    rw [wq_X2_isMet_5.eq_2]
    refine ⟨ka, c, kr, kc, ?_⟩
    rw [kl, if_pos (nI_le (by omega) (by omega)), if_pos (by rfl)]
    refine ⟨g.k9, by rw [g.l9]; exact vp_in_nI (n := 0) (by decide) (by decide), ?_⟩
    rw [show (0 : Int32).toNatClampNeg = 0 from rfl, hx]
    have hK := hK S x Un.rf rfl (k3 rfl)
    rcases k3 rfl with rfl | rfl
    · rw [if_neg (by decide)]
      exact hK
    · rw [if_pos rfl]
      exact hK
  | succ m ih =>
    intro n k t vs S g hF ka kr kc kl h85 hw ho hs hl hk hn hK
    obtain ⟨n, rfl⟩ : ∃ z, n = z + 1 := ⟨n - 1, by omega⟩
    obtain ⟨t1, hw1, hw2⟩ := hw
    have step : ∀ (v : Int32) (r : List Int32) (S1 : PS), S1 = S.setA (ad 9) r.length v → ev1 F (f k) vs = v :: r → stk (S.A (ad 9)) r → r.length ≤ k → wq_X2_isMet_5 N K n S1 a (ad 8) (ad 9) (nI (r.length + 1)) (nI k + 1) := by
      intro v r S1 e1 e2 e3 e4
      have hU : Un ad (fun _ _ => False) (fun n => n = 9) False S S1 := by rw [e1]; exact Un.setA rfl
      have ho1 := ev_ok F hw1 ho
      rw [e2] at ho1
      rw [a1i]
      refine ih n (k + 1) t1 (v :: r) S1 (hU.sh g) ?_ (by rw [e1]; exact ka) (by rw [e1]; exact kr) (by rw [e1]; exact kc) (by rw [e1]; exact kl) ?_ hw2 ho1 (stk_set e1 e3) (by simp; omega) (by omega) (by omega) (fun S' b hU' e hb => hK S' b (Un.tr hU hU') ?_ hb)
      · rw [hU.A g (by omega)]; exact hF
      · rw [hU.2.2.2.2.2.1 c (fun n hn _ => hca n hn)]; exact h85
      · rw [evs, e2]; exact e
    have hv : vp_in (nI k) nc := vp_in_nI (by omega) (by omega)
    rw [wq_X2_isMet_5.eq_2]
    refine ⟨ka, c, kr, kc, ?_⟩
    rw [kl, if_neg (nI_ge (by omega) (by omega))]
    refine ⟨c, kr, kc, by rw [kl]; exact hv, fun v12 e12 => ?_⟩
    rw [nI_clamp (by omega), h85 k (by omega)] at e12
    rw [e12]
    have bin : ∀ b1 b2 r, t = b1 :: b2 :: r → (f k = 40000 ∨ f k = 40001 ∨ f k = 30042 ∨ f k = 30043 ∨ f k = 30045 ∨ f k = 30060 ∨ f k = 30061 ∨ f k = 30062) → ((f k = 40000 ∨ f k = 40001) → b1 = true ∧ b2 = true) → (phi (f k) ≤ -8 ∧ phi (f k) < -9) ∧ 2 ≤ nI vs.length ∧ S.K (ad 9) = 20 ∧ vp_in ((nI vs.length + (-1)) - 1) (S.ln (ad 9)) ∧ vp_in (nI vs.length + (-1)) (S.ln (ad 9)) ∧ wp_X2_joined N S (phi (f k)) (S.A (ad 9) ((nI vs.length + (-1)) - 1).toNatClampNeg) (S.A (ad 9) (nI vs.length + (-1)).toNatClampNeg) (fun r20 S19 => S19.K (ad 9) = 20 ∧ vp_in ((nI vs.length + (-1)) - 1) (S19.ln (ad 9)) ∧ ∀ S23 : PS, S23 = S19.setA (ad 9) ((nI vs.length + (-1)) - 1).toNatClampNeg r20 → wq_X2_isMet_5 N K n S23 a (ad 8) (ad 9) (nI vs.length + (-1)) (nI k + 1)) := by
      intro b1 b2 r et hf hb
      rw [et] at ho
      obtain ⟨y, q, rfl, k1, k2⟩ := okv1 ho
      obtain ⟨x, q, rfl, k0, k3⟩ := okv1 k2
      have hl' : q.length + 1 + 1 ≤ k := hl
      have n1 : phi (f k) ≤ -8 ∧ phi (f k) < -9 := by rcases hf with e | e | e | e | e | e | e | e <;> rw [e] <;> decide
      have s1 : S.A (ad 9) (q.length + 1) = y := hs.1
      have s2 : S.A (ad 9) q.length = x := hs.2.1
      have v0 : vp_in (nI q.length) 200 := vp_in_nI (by omega) (by decide)
      have v1 : vp_in (nI (q.length + 1)) 200 := vp_in_nI (by omega) (by decide)
      rw [show (y :: x :: q).length = q.length + 1 + 1 from rfl, len_m2, len_m1, nI_clamp (by omega), nI_clamp (by omega)]
      have n4 : 2 ≤ nI (q.length + 1 + 1) := nI_le (a := 2) (by omega) (by omega)
      refine ⟨n1, n4, g.k9, by rw [g.l9]; exact v0, by rw [g.l9]; exact v1, ?_⟩
      rw [s1, s2, w_joined10 hf (fun e => ⟨k0 (hb e).2, k1 (hb e).1⟩)]
      exact ⟨g.k9, by rw [g.l9]; exact v0, fun S42 e42 => step _ q S42 e42 (ev_bin F hf y x q) hs.2.2 (by omega)⟩
    have fin : ∀ b1 b2 r, t = b1 :: b2 :: r → (f k = 40000 ∨ f k = 40001 ∨ f k = 30042 ∨ f k = 30043 ∨ f k = 30045 ∨ f k = 30060 ∨ f k = 30061 ∨ f k = 30062) → ((f k = 40000 ∨ f k = 40001) → b1 = true ∧ b2 = true) → ∀ A B C D : Prop, (if phi (f k) ≤ -8 then (if phi (f k) < -9 then (if 2 ≤ nI vs.length then (S.K (ad 9) = 20 ∧ vp_in ((nI vs.length + (-1)) - 1) (S.ln (ad 9)) ∧ vp_in (nI vs.length + (-1)) (S.ln (ad 9)) ∧ wp_X2_joined N S (phi (f k)) (S.A (ad 9) ((nI vs.length + (-1)) - 1).toNatClampNeg) (S.A (ad 9) (nI vs.length + (-1)).toNatClampNeg) (fun r20 S19 => S19.K (ad 9) = 20 ∧ vp_in ((nI vs.length + (-1)) - 1) (S19.ln (ad 9)) ∧ ∀ S23 : PS, S23 = S19.setA (ad 9) ((nI vs.length + (-1)) - 1).toNatClampNeg r20 → wq_X2_isMet_5 N K n S23 a (ad 8) (ad 9) (nI vs.length + (-1)) (nI k + 1))) else A) else B) else C) := by
      intro b1 b2 r et hf hb A B C D
      obtain ⟨⟨z1, z2⟩, z3, z4⟩ := bin b1 b2 r et hf hb
      rw [if_pos z1, if_pos z2, if_pos z3]
      exact z4
    rcases id hw1 with ⟨hf, r, et, -⟩ | ⟨hf, r, et, -⟩ | ⟨hf, r, et, -⟩ | ⟨hf, r, et, -⟩ | ⟨hf, r, et, -⟩ | ⟨hf, -⟩
    · rw [et] at ho
      obtain ⟨x, q, rfl, k2, k3⟩ := okv1 ho
      have hl' : q.length + 1 ≤ k := hl
      have s1 : S.A (ad 9) q.length = x := hs.1
      have v0 : vp_in (nI q.length) 200 := vp_in_nI (by omega) (by decide)
      have n4 : 1 ≤ nI (q.length + 1) := nI_le (a := 1) (by omega) (by omega)
      rw [hf, show phi 40002 = -9 by decide, if_pos (by decide), if_neg (by decide), show (x :: q).length = q.length + 1 from rfl, if_pos n4, len_m1, nI_clamp (by omega)]
      refine ⟨g.k9, by rw [g.l9]; exact v0, fun v27 e27 => ?_⟩
      rw [if_neg (by decide), e27, s1]
      unfold wq_X2_isMet_96
      rw [nI_clamp (by omega)]
      exact ⟨g.k9, by rw [g.l9]; exact v0, fun S56 e56 => step _ q S56 e56 (by rw [hf]; rfl) hs.2 (by omega)⟩
    · rw [et] at ho
      obtain ⟨x, q, rfl, k2, k3⟩ := okv1 ho
      have hl' : q.length + 1 ≤ k := hl
      have s1 : S.A (ad 9) q.length = x := hs.1
      have v0 : vp_in (nI q.length) 200 := vp_in_nI (by omega) (by decide)
      have n4 : 1 ≤ nI (q.length + 1) := nI_le (a := 1) (by omega) (by omega)
      rw [hf, show phi 40003 = -8 by decide, if_pos (by decide), if_neg (by decide), show (x :: q).length = q.length + 1 from rfl, if_pos n4, len_m1, nI_clamp (by omega)]
      refine ⟨g.k9, by rw [g.l9]; exact v0, fun v27 e27 => ?_⟩
      rw [if_pos rfl, e27, s1]
      unfold wq_X2_isMet_96
      rw [nI_clamp (by omega)]
      exact ⟨g.k9, by rw [g.l9]; exact v0, fun S56 e56 => step _ q S56 e56 (by rw [hf, ← Int32.zero_sub]; rfl) hs.2 (by omega)⟩
    · exact fin _ _ _ et (by rcases hf with e | e <;> simp [e]) (fun _ => ⟨rfl, rfl⟩) _ _ _ True
    · exact fin _ _ _ et (by rcases hf with e | e | e <;> simp [e]) (fun e => absurd e (by rcases hf with h | h | h <;> rw [h] <;> decide)) _ _ _ True
    · exact fin _ _ _ et (by rcases hf with e | e | e <;> simp [e]) (fun e => absurd e (by rcases hf with h | h | h <;> rw [h] <;> decide)) _ _ _ True
    · have v0 : vp_in (nI vs.length) 200 := vp_in_nI (by omega) (by decide)
      have v3 : nI vs.length < nI 200 := nI_lt (by omega) (by decide)
      rcases hf with ⟨q, hq, hf⟩ | ⟨q, hq, hf⟩
      · have n1 : ¬ phi (f k) ≤ -8 := by
          rw [hf, phi_num hq]
          exact fun e => absurd (Int32.le_trans (nI_pos' (by omega)) e) (by decide)
        rw [if_neg n1]
        refine ⟨g.k9, ?_⟩
        rw [g.l9, if_pos v3]
        unfold wp_X2_valueOf
        rw [if_neg (by rw [hf, phi_num hq]; exact nI_pos (by omega)), nI_clamp (by omega), a1i vs.length]
        exact ⟨g.k9, by rw [g.l9]; exact v0, fun S27 e27 => step _ vs S27 e27 (by rw [hf, phi_num hq]; exact ev_num F hq vs) hs hl⟩
      · have n0 : ¬ phi (nI (20000 + q)) ≤ -8 ∧ phi (nI (20000 + q)) < 0 ∧ -1 - phi (nI (20000 + q)) = nI q := by
          obtain rfl | rfl | rfl | rfl | rfl | rfl | rfl : q = 0 ∨ q = 1 ∨ q = 2 ∨ q = 3 ∨ q = 4 ∨ q = 5 ∨ q = 6 := by omega
          all_goals decide
        rw [hf, if_neg n0.1]
        refine ⟨g.k9, ?_⟩
        rw [g.l9, if_pos v3]
        unfold wp_X2_valueOf
        rw [if_pos n0.2.1, n0.2.2]
        intro v2 e2
        rw [e2]
        refine ⟨g.k8, ?_⟩
        rw [g.l8, if_neg (nI_ge (by omega) (by decide)), nI_clamp (by omega), nI_clamp (by omega), a1i vs.length, hF q (by omega)]
        exact ⟨vp_in_nI (by omega) (by decide), g.k9, by rw [g.l9]; exact v0, fun S27 e27 => step _ vs S27 e27 (by rw [hf]; exact ev_fact F hq vs) hs hl⟩
