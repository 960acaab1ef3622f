/-! shares: a life with some of its signs alone -/
def rs (a : AL) (m : Nat) : AL := (fun j => if m.testBit j = true then aS a j else 0, aP a, aF a, aH a, aT a, aD a)
def rsi (a : AL) (m i : Nat) : AL := (fun j => if j < i then (if m.testBit j = true then aS a j else 0) else aS a j, aP a, aF a, aH a, aT a, aD a)
def rb (a : AL) (s k : Nat) : AL := (fun c => if fb_ct (sgd a) c < k then (if s.testBit (fb_ct (sgd a) c) = true then aS a c else 0) else aS a c, aP a, aF a, aH a, aT a, aD a)
def V2 (g : Nat → Nat) (a : AL) (m : Nat) : Nat := (bst g 2 (rs a m)).getD 0
theorem CR_cong {g : Nat → Nat} {a b : AL} {x : LV} (h : CR g a x) (e : ∀ c, c < 12 → aS b c = aS a c) (e2 : b.2 = a.2) : CR g b x := by
  obtain ⟨b1, b2⟩ := b
  obtain ⟨a1, a2⟩ := a
  obtain rfl : b2 = a2 := e2
  exact ⟨h.1, fun c hc => (h.2.1 c hc).trans (e c hc).symm, h.2.2⟩
theorem PR_congA {a b : AL} {p : Nat → Int32} (h : PR a p) (e : ∀ c, c < 12 → aS b c = aS a c) (e2 : b.2 = a.2) : PR b p := by
  obtain ⟨b1, b2⟩ := b
  obtain ⟨a1, a2⟩ := a
  obtain rfl : b2 = a2 := e2
  exact ⟨fun c hc => by rw [h.1 c hc]; exact congrArg nI (e c hc).symm, h.2⟩
theorem WA_rs {B : Nat} {a : AL} {m : Nat} (hw : WA B a) : WA B (rs a m) := ⟨fun j hj => by
  show (if m.testBit j = true then aS a j else 0) ≤ 4
  split
  · exact hw.1 j hj
  · omega, hw.2.1, hw.2.2.1, hw.2.2.2.1, hw.2.2.2.2⟩
theorem leave_L {g : Nat → Nat} {a : AL} {m : Nat} (hm : m < 4096) : ∀ (k f i : Nat) (y : LV), i + k = 12 → k < f → CR g (rsi a m i) y → ∃ y', f_X1_leaveSigns_L2 (fun (v2_2 : Int32) (x_this_3 : LV) => some x_this_3) (nI m) f (nI i) y = some y' ∧ CR g (rs a m) y'
  | 0, f, i, y, hik, h1, h => by
    obtain ⟨f, rfl⟩ : ∃ m, f = m + 1 := ⟨f - 1, by omega⟩
    obtain rfl : i = 12 := by omega
    refine ⟨y, rfl, CR_cong h (fun c hc => ?_) rfl⟩
    show (if m.testBit c = true then aS a c else 0) = if c < 12 then _ else _
    rw [if_pos hc]
  | k + 1, f, i, y, hik, h1, h => by
    obtain ⟨f, rfl⟩ : ∃ m, f = m + 1 := ⟨f - 1, by omega⟩
    have hi : i < 12 := by omega
    rw [f_X1_leaveSigns_L2]
    dsimp only
    rw [if_neg (nge_nI 12 12 rfl hi (by decide)), hasC (by omega) (by omega), nI_1]
    by_cases hb : m.testBit i = true
    · rw [if_pos hb, if_neg (by decide)]
      refine leave_L hm k f (i + 1) y (by omega) (by omega) (CR_cong h (fun c hc => ?_) rfl)
      show (if c < i + 1 then (if m.testBit c = true then aS a c else 0) else aS a c) = (if c < i then (if m.testBit c = true then aS a c else 0) else aS a c)
      by_cases e : c = i
      · subst e
        rw [if_pos (by omega), if_pos hb, if_neg (by omega)]
      · by_cases q : c < i
        · rw [if_pos q, if_pos (by omega)]
        · rw [if_neg q, if_neg (by omega)]
    · rw [if_neg hb, if_pos rfl]
      unfold o_let
      refine leave_L hm k f (i + 1) _ (by omega) (by omega) (CR_cong (CR_se (s := 0) h hi (by decide)) (fun c hc => ?_) rfl)
      show (if c < i + 1 then (if m.testBit c = true then aS a c else 0) else aS a c) = (if c = i then 0 else if c < i then (if m.testBit c = true then aS a c else 0) else aS a c)
      by_cases e : c = i
      · subst e
        rw [if_pos (by omega), if_neg hb, if_pos rfl]
      · rw [if_neg e]
        by_cases q : c < i
        · rw [if_pos q, if_pos (by omega)]
        · rw [if_neg q, if_neg (by omega)]
theorem leave_C {g : Nat → Nat} {a : AL} {x : LV} {m : Nat} (hm : m < 4096) (h : CR g a x) : ∃ y, f_X1_leaveSigns x (nI m) = some y ∧ CR g (rs a m) y := by
  have h2 := leave_L (g := g) (a := a) hm 12 FU 0 x rfl (by decide) (CR_cong h (fun c hc => rfl) rfl)
  unfold f_X1_leaveSigns
  rw [show nI 0 = (0 : Int32) from rfl] at h2
  exact h2
theorem max0 {o : Option Nat} {B : Nat} (hB : B < 2 ^ 31) (h : oB B o) : i_max (0 : Int32) (vI o) = nI (o.getD 0) := by
  unfold i_max
  cases o with
  | none => rfl
  | some m =>
    have hm := h m rfl
    show (if (0 : Int32) < nI m then nI m else 0) = nI m
    rcases Nat.eq_zero_or_pos m with z | z
    · subst z
      rfl
    · rw [if_pos (pos_nI z (by omega))]
theorem V2_le {g : Nat → Nat} {B : Nat} {a : AL} (hw : WA B a) (m : Nat) : V2 g a m ≤ B + 6 := by
  have h := oB_bst (g := g) (n := 2) (WA_rs (m := m) hw)
  unfold V2
  cases e : bst g 2 (rs a m) with
  | none => show 0 ≤ _; omega
  | some v => exact h v e
theorem food2_C {g : Nat → Nat} {B : Nat} {a : AL} {x : LV} {m : Nat} (hm : m < 4096) (hc : CR g a x) (hg : WG g) (hw : WA B a) (hB : B + 100 < 2 ^ 20) (t1 t2 t3 t4 t5 : LV) : ∃ y u1 u2 u3 u4 u5, f_X3_foodOfTwoDays x t1 t2 t3 t4 t5 (nI m) = some (nI (V2 g a m), y, u1, u2, u3, u4, u5) := by
  obtain ⟨y, h1, h2⟩ := leave_C hm hc
  obtain ⟨u1, u2, u3, u4, u5, h3⟩ := mf_6 (n := 2) (by decide) h2 hg (WA_rs hw) (by omega) t1 t2 t3 t4 t5
  unfold f_X3_foodOfTwoDays o_let
  dsimp only
  rw [become_eq, h1]
  dsimp only [Option.bind]
  rw [show (2 : Int32) = nI 2 from rfl, h3]
  dsimp only
  rw [max0 (B := B + 3 * 2) (by omega) (oB_bst (WA_rs hw))]
  exact ⟨y, u1, u2, u3, u4, u5, rfl⟩
/-! the class's sum -/
def oth (a : AL) (c : Nat) : Nat → Bool := fun k => if k = c then false else sgd a k
def wgt (n j : Nat) : Int := ((fac j * fac (n - j) : Nat) : Int)
def GC (g : Nat → Nat) (a : AL) (c m : Nat) : Int := wgt (fb_ct (oth a c) 12) (pc m 12) * ((V2 g a (m ||| 2 ^ c) : Int) - (V2 g a m : Int))
def GS (g : Nat → Nat) (a : AL) (c m : Nat) : Int := if sub (oth a c) m 12 = true then GC g a c m else 0
theorem lN_ofInt (n : Nat) : lN n = Int64.ofInt (n : Int) := Int64.ofInt_eq_ofNat.symm
theorem nI_ofInt (n : Nat) : nI n = Int32.ofInt (n : Int) := Int32.ofInt_eq_ofNat.symm
theorem dif_64 {u v : Nat} (hu : u < 2 ^ 30) (hv : v < 2 ^ 30) : (nI u - nI v).toInt64 = Int64.ofInt ((u : Int) - (v : Int)) := by
  apply Int64.toInt_inj.mp
  rw [Int32.toInt_toInt64, pk_sub_toInt hu hv, Int64.toInt_ofInt_of_le (by omega) (by omega)]
theorem pc_le {p : Nat → Bool} {m : Nat} (h : sub p m 12 = true) : pc m 12 ≤ fb_ct p 12 := fb_ct_sub (fun c hc hb => (sub_iff p m 12).mp h c hc hb)
theorem shareC_L {g : Nat → Nat} {B : Nat} {a : AL} {x : LV} {c : Nat} (hc12 : c < 12) (h9 : fb_ct (oth a c) 12 < 9) (hc : CR g a x) (hg : WG g) (hw : WA B a) (hB : B + 100 < 2 ^ 20) {K : Int64 → Int32 → LV → LV → LV → LV → LV → LV → Option (Int32 × LV × LV × LV × LV × LV × LV)} : ∀ (k f i : Nat) (xt t1 t2 t3 t4 t5 : LV), i + k = 4096 → k < f → ∃ y u1 u2 u3 u4 u5, f_X3_share_L49 K (nI c) (nI (mk (oth a c) 12)) (nI (fb_ct (oth a c) 12)) x f (Int64.ofInt (fb_si (GS g a c) i)) (nI i) xt t1 t2 t3 t4 t5 = K (Int64.ofInt (fb_si (GS g a c) 4096)) (nI 4096) y u1 u2 u3 u4 u5
  | 0, f, i, xt, t1, t2, t3, t4, t5, hik, h1 => by
    obtain ⟨f, rfl⟩ : ∃ m, f = m + 1 := ⟨f - 1, by omega⟩
    obtain rfl : i = 4096 := by omega
    rw [f_X3_share_L49]
    dsimp only
    rw [if_pos (ge_nI 4096 4096 rfl (by omega) (by omega))]
    exact ⟨xt, t1, t2, t3, t4, t5, rfl⟩
  | k + 1, f, i, xt, t1, t2, t3, t4, t5, hik, h1 => by
    obtain ⟨f, rfl⟩ : ∃ m, f = m + 1 := ⟨f - 1, by omega⟩
    have hi : i < 4096 := by omega
    rw [f_X3_share_L49]
    dsimp only
    rw [if_neg (nge_nI 4096 4096 rfl hi (by decide)), nI_1]
    by_cases hs : sub (oth a c) i 12 = true
    · have hio : i ||| 2 ^ c < 4096 := or_lt hi hc12
      have hp := pc_le hs
      rw [if_pos ((sub_C hi).mpr hs), i_shl_one (by omega), fa_or]
      obtain ⟨y, u1, u2, u3, u4, u5, h2⟩ := food2_C hio hc hg hw hB t1 t2 t3 t4 t5
      rw [h2]
      dsimp only [Option.bind]
      obtain ⟨y', w1, w2, w3, w4, w5, h3⟩ := food2_C hi hc hg hw hB u1 u2 u3 u4 u5
      rw [h3]
      dsimp only
      rw [bc_pc hi, ord_C _ (by omega)]
      dsimp only
      rw [pk_sub hp, ord_C _ (by omega)]
      dsimp only
      have hv1 := V2_le (g := g) hw (i ||| 2 ^ c)
      have hv2 := V2_le (g := g) hw i
      have e : Int64.ofInt (fb_si (GS g a c) i) + lN (fac (pc i 12)) * lN (fac (fb_ct (oth a c) 12 - pc i 12)) * (nI (V2 g a (i ||| 2 ^ c)) - nI (V2 g a i)).toInt64 = Int64.ofInt (fb_si (GS g a c) (i + 1)) := by
        rw [fb_si_succ, Int64.ofInt_add, dif_64 (by omega) (by omega), lN_mul, lN_ofInt, ← Int64.ofInt_mul]
        congr 2
        unfold GS
        rw [if_pos hs]
        rfl
      rw [e]
      exact shareC_L hc12 h9 hc hg hw hB k f (i + 1) _ _ _ _ _ _ (by omega) (by omega)
    · rw [if_neg (fun q => hs ((sub_C hi).mp q))]
      have e : Int64.ofInt (fb_si (GS g a c) i) = Int64.ofInt (fb_si (GS g a c) (i + 1)) := by
        rw [fb_si_succ]
        unfold GS
        rw [if_neg hs, Int.add_zero]
      rw [e]
      exact shareC_L hc12 h9 hc hg hw hB k f (i + 1) _ _ _ _ _ _ (by omega) (by omega)
/-! the reference's sum -/
theorem those_L {a : AL} {p : Nat → Int32} {B c : Nat} (hc : c < 12) (hp : PR a p) (hw : WA B a) (h8 : nsg a ≤ 8) : ∀ (k f i : Nat) (th : Nat → Int32), i + k = 12 → k < f → (∀ j, j < i → sgd a j = true → th (fb_ct (sgd a) j) = nI j) → ∃ th', f_X4_layThose_L8 (fun (v2_1 : Int32) (v3_2 : Int32) (v4_3 : Int32) (r_those_4 : Nat → Int32) => some (v3_2, r_those_4)) (nI c) p f (nI (fb_ct (sgd a) i)) (if c < i ∧ sgd a c = true then nI (fb_ct (sgd a) c) else -9) (nI i) th = some (if sgd a c = true then nI (fb_ct (sgd a) c) else -9, th') ∧ ∀ j, j < 12 → sgd a j = true → th' (fb_ct (sgd a) j) = nI j
  | 0, f, i, th, hik, h1, h => by
    obtain ⟨f, rfl⟩ : ∃ m, f = m + 1 := ⟨f - 1, by omega⟩
    obtain rfl : i = 12 := by omega
    refine ⟨th, ?_, h⟩
    rw [f_X4_layThose_L8]
    dsimp only
    rw [if_pos (ge_nI 12 12 rfl (by omega) (by omega))]
    simp only [hc, true_and]
  | k + 1, f, i, th, hik, h1, h => by
    obtain ⟨f, rfl⟩ : ∃ m, f = m + 1 := ⟨f - 1, by omega⟩
    have hi : i < 12 := by omega
    have hle := fb_ct_le (sgd a) i
    have hs4 := hw.1 i hi
    rw [f_X4_layThose_L8]
    dsimp only
    rw [if_neg (nge_nI 12 12 rfl hi (by decide)), o_g_nI (by omega) (by decide), nI_clamp (by omega), hp.1 i hi, nI_1, nI_1]
    by_cases z : aS a i = 0
    · have hs : ¬ sgd a i = true := by simp [sgd, z]
      have e1 : fb_ct (sgd a) i = fb_ct (sgd a) (i + 1) := by
        rw [fb_ct_succ, if_neg hs]
        rfl
      have e2 : (if c < i ∧ sgd a c = true then nI (fb_ct (sgd a) c) else (-9 : Int32)) = if c < i + 1 ∧ sgd a c = true then nI (fb_ct (sgd a) c) else -9 := by
        by_cases q : sgd a c = true
        · have : c ≠ i := fun y => hs (y ▸ q)
          by_cases w : c < i
          · rw [if_pos ⟨w, q⟩, if_pos ⟨by omega, q⟩]
          · rw [if_neg (fun y => w y.1), if_neg (fun y => by have := y.1; omega)]
        · rw [if_neg (fun y => q y.2), if_neg (fun y => q y.2)]
      rw [if_pos (by rw [z]; exact le0_0), e2]
      rw [show nI (fb_ct (sgd a) i) = nI (fb_ct (sgd a) (i + 1)) from congrArg nI e1]
      refine those_L hc hp hw h8 k f (i + 1) th (by omega) (by omega) (fun j hj hq => h j ?_ hq)
      have : j ≠ i := fun y => hs (y ▸ hq)
      omega
    · have hs : sgd a i = true := by simp [sgd, z]
      have e1 : fb_ct (sgd a) (i + 1) = fb_ct (sgd a) i + 1 := by
        rw [fb_ct_succ, if_pos hs]
      have hlt := rk_lt hs hi
      have h8' : fb_ct (sgd a) 12 ≤ 8 := h8
      rw [if_neg (nle0_nI z (by omega)), o_g_nI (by omega) (by decide), o_g_nI (by omega) (by decide), nI_clamp (by omega), ← e1]
      have hth : ∀ j, j < i + 1 → sgd a j = true → upd th (fb_ct (sgd a) i) (nI i) (fb_ct (sgd a) j) = nI j := by
        intro j hj hq
        by_cases y : j = i
        · subst y
          rw [upd_eq]
        · rw [upd_ne (fun w => y (fb_ct_kth_one hq hs w))]
          exact h j (by omega) hq
      by_cases y : i = c
      · subst y
        rw [if_pos rfl]
        have e2 : nI (fb_ct (sgd a) i) = if i < i + 1 ∧ sgd a i = true then nI (fb_ct (sgd a) i) else -9 := by
          rw [if_pos ⟨by omega, hs⟩]
        have ih := those_L hc hp hw h8 k f (i + 1) _ (by omega) (by omega) hth
        rw [← e2] at ih
        exact ih
      · rw [if_neg (fun w => y ((nI_eq (by omega) (by omega)).mp w))]
        have e2 : (if c < i ∧ sgd a c = true then nI (fb_ct (sgd a) c) else (-9 : Int32)) = if c < i + 1 ∧ sgd a c = true then nI (fb_ct (sgd a) c) else -9 := by
          by_cases w : c < i
          · simp only [w, show c < i + 1 by omega]
          · simp only [w, show ¬ c < i + 1 by omega]
        rw [e2]
        exact those_L hc hp hw h8 k f (i + 1) _ (by omega) (by omega) hth
