/-! shares: both sides -/
theorem fac_le : ∀ n, n < 9 → 0 < fac n ∧ fac n < 131072 := by decide +kernel
theorem share_eq {g : Nat → Nat} {l : Nat → Int32} {B : Nat} {a : AL} {x : LV} {p : Nat → Int32} (hb : Bo g l B a x p) (hB : B ≤ 1600) (h8 : nsg a ≤ 8) (xt s1 s2 s3 s4 s5 : LV) (fm fw : Int32) (tr ba va th : Nat → Int32) (v1 v2 : Int32) : ∃ r y t1 t2 t3 t4 t5 fm' fw' tr' ba' va' th', f_X3_share x xt s1 s2 s3 s4 s5 v1 v2 = some (r, y, t1, t2, t3, t4, t5) ∧ f_X4_share fm fw l p tr ba va th v1 v2 = some (r, 0, fm', fw', tr', ba', va', th') := by
  unfold f_X3_share f_X4_share
  rcases cellCs v1 with ⟨h1, h2, -⟩ | ⟨c, hc, rfl⟩
  · rw [h1, h2, if_pos rfl, if_neg (by decide)]
    exact ⟨-1, xt, s1, s2, s3, s4, s5, fm, fw, tr, ba, va, th, rfl, rfl⟩
  · have hs4 := hb.2.2.2.2.1 c hc
    rw [(cellOk c hc).1, (cellOk c hc).2, if_neg (show ¬ (1 : Int32) = 0 by decide), if_pos (show (0 : Int32) = 0 from rfl), o_g_nI (by omega) (by decide), signOf_nb x (by omega), hb.1.2.1 c hc, nI_clamp (by omega), hb.2.1.1 c hc]
    by_cases z : aS a c = 0
    · have z2 : nI (aS a c) = (0 : Int32) := by rw [z]; rfl
      rw [if_pos z2, if_pos z2]
      exact ⟨-3, xt, s1, s2, s3, s4, s5, fm, fw, tr, ba, va, th, rfl, rfl⟩
    · have hsc : sgd a c = true := by simp [sgd, z]
      have z2 := n0_nI z (by omega)
      have ho := oth_ct hc hsc
      have h256 : 2 ^ nsg a ≤ 256 := Nat.pow_le_pow_right (n := 2) (by decide) h8
      have hr : fb_ct (sgd a) c < nsg a := rk_lt hsc hc
      obtain ⟨th', ht1, ht2⟩ := those_L hc hb.2.1 hb.2.2.2.2 h8 12 FU 0 th rfl (by decide) (fun j hj => by omega)
      rw [if_neg (show ¬ (c < 0 ∧ sgd a c = true) from fun q => by have := q.1; omega), if_pos hsc, show fb_ct (sgd a) 0 = 0 from rfl, show nI 0 = (0 : Int32) from rfl] at ht1
      have hlt : f_X4_layThose p th (nI c) = some (nI (fb_ct (sgd a) c), th') := by
        unfold f_X4_layThose
        exact ht1
      have em : (nI (mk (sgd a) 12) &&& (i_shl (1 : Int32) (nI c) ^^^ (-1 : Int32))) = nI (mk (oth a c) 12) := mk_minus hc
      rw [if_neg z2, if_neg z2, sgdC hb.1 hb.2.2.2.2, sgdM hb.2.1 hb.2.2.2.2, hlt, bd, bd, bd, em, bc_mk]
      (try dsimp only)
      obtain ⟨y, u1, u2, u3, u4, u5, hC⟩ := shareC_L (K := (fun (v5_6 : Int64) (v7_7 : Int32) (x_trial_8 : LV) (x_t1_9 : LV) (x_t2_10 : LV) (x_t3_11 : LV) (x_t4_12 : LV) (x_t5_13 : LV) => Option.bind (f_X3_ordersOf (nI (fb_ct (oth a c) 12) + (1 : Int32))) (fun o_14 => Option.bind (f_X3_fraction v5_6 o_14 v2) (fun o_15 => some (o_15, x_trial_8, x_t1_9, x_t2_10, x_t3_11, x_t4_12, x_t5_13))))) hc (show fb_ct (oth a c) 12 < 9 by omega) hb.1 hb.2.2.2.1 hb.2.2.2.2 (by omega) 4096 FU 0 xt s1 s2 s3 s4 s5 rfl (by decide)
      rw [show Int64.ofInt (fb_si (GS g a c) 0) = (0 : Int64) from rfl, show nI 0 = (0 : Int32) from rfl] at hC
      rw [hC]
      (try dsimp only)
      obtain ⟨fm', fw', tr', ba', va', e1, e2⟩ := value_L (K := (fun (v5_7 : Int32) (m_foundMost_8 : Int32) (m_foundRow_9 : Int32) (r_trial_10 : Nat → Int32) (r_base_11 : Nat → Int32) (r_value_12 : Nat → Int32) => f_X4_share_L165 (fun (v5_16 : Int32) (v6_17 : Int32) => Option.bind (f_X4_ways (nI (nsg a))) (fun o_18 => Option.bind (f_X4_fraction v5_16 o_18 v2) (fun o_19 => some (o_19, (0 : Int32), m_foundMost_8, m_foundRow_9, r_trial_10, r_base_11, r_value_12, th')))) (nI (fb_ct (sgd a) c)) (nI (nsg a)) r_value_12 FU (0 : Int32) (0 : Int32))) hb.2.2.1 hb.2.2.2.1 hb.2.1 hb.2.2.2.2 (by omega) h8 ht2 (2 ^ nsg a) FU 0 fm fw tr ba va (by omega) (by unfold FU; omega) (fun j hj => by omega)
      rw [show nI 0 = (0 : Int32) from rfl] at e1
      rw [e1]
      (try dsimp only)
      have e3 := sumM_L (K := (fun (v5_16 : Int32) (v6_17 : Int32) => Option.bind (f_X4_ways (nI (nsg a))) (fun o_18 => Option.bind (f_X4_fraction v5_16 o_18 v2) (fun o_19 => some (o_19, (0 : Int32), fm', fw', tr', ba', va', th'))))) hc hsc hb.2.2.2.2 (by omega) h8 e2 (2 ^ nsg a) FU 0 (by omega) (by unfold FU; omega)
      rw [show Int32.ofInt (fb_si (HS g a c) 0) = (0 : Int32) from rfl, show nI 0 = (0 : Int32) from rfl] at e3
      rw [e3]
      (try dsimp only)
      rw [nI_1, ho, ord_C _ (by omega), way_M _ (by omega), bd, bd, sums_eq hc hsc h8]
      obtain ⟨b1, b2⟩ := sum_bd (g := g) hb.2.2.2.2 hB h8 hc hsc
      obtain ⟨f1, f2⟩ := fac_le (nsg a) (by omega)
      obtain ⟨r, h3, h4⟩ := frac_eq b1 b2 f1 f2 v2
      rw [h3, h4]
      exact ⟨r, y, u1, u2, u3, u4, u5, fm', fw', tr', ba', va', th', rfl, rfl⟩
