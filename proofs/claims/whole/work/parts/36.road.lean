/-! roads: both sides -/
def Qw (op : Nat → Bool) (d c k w : Nat) : Bool := match tgt c w with
  | none => false
  | some t => op t && decide (dst op t d = some k)
theorem Qw_iff {op : Nat → Bool} {d c k w : Nat} : Qw op d c k w = true ↔ ∃ t, tgt c w = some t ∧ op t = true ∧ dst op t d = some k := by
  unfold Qw
  cases e : tgt c w with
  | none => exact ⟨fun h => (by cases h), fun ⟨t, h, _⟩ => (by cases h)⟩
  | some t =>
    dsimp only
    rw [Bool.and_eq_true, decide_eq_true_eq]
    constructor
    · rintro ⟨h1, h2⟩
      exact ⟨t, rfl, h1, h2⟩
    · rintro ⟨u, h0, h1, h2⟩
      cases h0
      exact ⟨h1, h2⟩
def dn (Q : Nat → Bool) : Nat → Option Nat → Option Nat
  | 0, o => o
  | k + 1, o => dn Q k (if Q k = true then some k else o)
theorem dn_fw1 (Q : Nat → Bool) : ∀ (k : Nat) (o : Option Nat), dn Q k o = (match fw1 Q k with | some w => some w | none => o)
  | 0, o => rfl
  | k + 1, o => by
    show dn Q k (if Q k = true then some k else o) = _
    rw [dn_fw1 Q k]
    cases e : fw1 Q k with
    | some w => rw [fw1_up e]
    | none =>
      rw [fw1_up0 e]
      by_cases q : Q k = true
      · rw [if_pos q, if_pos q]
      · rw [if_neg q, if_neg q]
def rwv (op : Nat → Bool) (d : Nat) : Nat → Nat → Nat → Nat
  | 0, _, acc => acc
  | k + 1, c, acc => match fw1 (Qw op d c k) 4 with
    | none => acc
    | some w => rwv op d k ((tgt c w).getD 0) (acc * 10 + w)
theorem rwv_up {op : Nat → Bool} {d k c acc w t : Nat} (h : fw1 (Qw op d c k) 4 = some w) (ht : tgt c w = some t) : rwv op d (k + 1) c acc = rwv op d k t (acc * 10 + w) := by
  show (match fw1 (Qw op d c k) 4 with | none => acc | some w => rwv op d k ((tgt c w).getD 0) (acc * 10 + w)) = _
  rw [h]
  dsimp only
  rw [ht]
  rfl
theorem dst_step {op : Nat → Bool} {d c k : Nat} (hc : c < 12) (h : dst op c d = some (k + 1)) : ∃ w t, fw1 (Qw op d c k) 4 = some w ∧ w < 4 ∧ tgt c w = some t ∧ t < 12 ∧ op t = true ∧ dst op t d = some k := by
  obtain ⟨h1, h2, h3⟩ := fw1_some h
  obtain ⟨w, t, g1, g2, g3, g4⟩ := wn_succ.mp h2
  have hd : dst op t d = some k := fw1_intro (by omega) g4 (fun j hj => by
    cases e : wn op j t d with
    | false => rfl
    | true =>
      have := h3 (j + 1) (by omega)
      rw [wn_succ.mpr ⟨w, t, g1, g2, g3, e⟩] at this
      cases this)
  have hQ : Qw op d c k w = true := Qw_iff.mpr ⟨t, g2, g3, hd⟩
  cases e : fw1 (Qw op d c k) 4 with
  | none =>
    have := fw1_none.mp e w g1
    rw [hQ] at this
    cases this
  | some w' =>
    obtain ⟨q1, q2, _⟩ := fw1_some e
    obtain ⟨t', p1, p2, p3⟩ := Qw_iff.mp q2
    exact ⟨w', t', rfl, q1, p1, tgt_lt hc p1, p2, p3⟩
theorem dst_lt {op : Nat → Bool} {d c : Nat} : ∀ k, dst op c d = some k → k < 2 ^ 31 := fun k h => by
  have := (fw1_some h).1
  omega
/-! the class's first road -/
theorem firstC_L {op : Nat → Bool} {d c k acc w0 t0 : Nat} (hc : c < 12) (hd : d < 12) (hk : k < 12) (hf : fw1 (Qw op d c k) 4 = some w0) (ht0 : tgt c w0 = some t0) {K : Int32 → Int32 → Int32 → Option Int32} : ∀ (j f w : Nat), w + j = w0 → j < f → f_X3_firstRoad_L19 K (nI d) (nI (mk op 12)) (nI k) f (nI c) (nI acc) (nI w) = K (nI t0) (nI (acc * 10 + w0)) (nI w0) := by
  obtain ⟨h4, hQ, hmin⟩ := fw1_some hf
  have hM := mk_lt op 12
  intro j
  induction j with
  | zero =>
    intro f w hik h1
    obtain ⟨f, rfl⟩ : ∃ m, f = m + 1 := ⟨f - 1, by omega⟩
    obtain rfl : w = w0 := by omega
    obtain ⟨t, p1, p2, p3⟩ := Qw_iff.mp hQ
    obtain rfl : t = t0 := by rw [ht0] at p1; cases p1; rfl
    have ht := tgt_lt hc p1
    rw [f_X3_firstRoad_L19]
    dsimp only
    rw [if_neg (nge_nI 4 4 rfl h4 (by omega)), bes_tgt c hc w (by omega), p1]
    dsimp only
    rw [if_neg (nI_nm1 t ht), hasC (by omega) (by omega), mk_bit, if_pos (show (decide (t < 12) && op t) = true by simp [ht, p2]), if_neg (show ¬ (1 : Int32) = 0 by decide), steps_C ht hd, bd, p3, if_pos (show vI (some k) = nI k from rfl), show (10 : Int32) = nI 10 from rfl, pk_mul, nI_add]
  | succ j ih =>
    intro f w hik h1
    obtain ⟨f, rfl⟩ : ∃ m, f = m + 1 := ⟨f - 1, by omega⟩
    have ih' := ih f (w + 1) (by omega) (by omega)
    have hQw := hmin w (by omega)
    rw [f_X3_firstRoad_L19]
    dsimp only
    rw [if_neg (nge_nI 4 4 rfl (by omega) (by omega)), bes_tgt c hc w (by omega), nI_1]
    cases e : tgt c w with
    | none =>
      dsimp only
      rw [if_pos rfl]
      exact ih'
    | some t =>
      have ht := tgt_lt hc e
      dsimp only
      rw [if_neg (nI_nm1 t ht), hasC (by omega) (by omega), mk_bit]
      by_cases o : op t = true
      · have hne : ¬ dst op t d = some k := fun z => by
          rw [Qw_iff.mpr ⟨t, e, o, z⟩] at hQw
          cases hQw
        rw [if_pos (show (decide (t < 12) && op t) = true by simp [ht, o]), if_neg (show ¬ (1 : Int32) = 0 by decide), steps_C ht hd, bd, if_neg (fun z => hne ((vI_is (by omega) dst_lt).mp z))]
        exact ih'
      · rw [if_neg (show ¬ (decide (t < 12) && op t) = true by simp [o]), if_pos rfl]
        exact ih'
theorem firstC_R {op : Nat → Bool} {d : Nat} (hd : d < 12) : ∀ (k f c acc : Nat), c < 12 → dst op c d = some k → k < f → f_X3_firstRoad_L11 (fun (v4_5 : Int32) (v5_6 : Int32) (v6_7 : Int32) => some v5_6) (nI d) (nI (mk op 12)) f (nI c) (nI acc) (nI k + (-1)) = some (nI (rwv op d k c acc))
  | 0, f, c, acc, hc, h, h1 => by
    obtain ⟨f, rfl⟩ : ∃ m, f = m + 1 := ⟨f - 1, by omega⟩
    rw [f_X3_firstRoad_L11]
    dsimp only
    rw [if_pos (by decide)]
    rfl
  | k + 1, f, c, acc, hc, h, h1 => by
    obtain ⟨f, rfl⟩ : ∃ m, f = m + 1 := ⟨f - 1, by omega⟩
    have hk := (fw1_some h).1
    obtain ⟨w, t, g1, g2, g3, g4, g5, g6⟩ := dst_step hc h
    rw [f_X3_firstRoad_L11, pk_m1]
    dsimp only
    rw [if_neg (show ¬ nI k < 0 from nI_pos (by omega))]
    have h2 := firstC_L (acc := acc) (K := (fun (v4_2 : Int32) (v5_3 : Int32) (v7_4 : Int32) => f_X3_firstRoad_L11 (fun (v4_5 : Int32) (v5_6 : Int32) (v6_7 : Int32) => some v5_6) (nI d) (nI (mk op 12)) f v4_2 v5_3 (nI k + (-1)))) hc hd (by omega) g1 g3 w FU 0 (by omega) (by unfold FU; omega)
    rw [show nI 0 = (0 : Int32) from rfl] at h2
    rw [h2, rwv_up g1 g3]
    exact firstC_R hd k f t (acc * 10 + w) g4 g6 (by omega)
theorem firstC {op : Nat → Bool} {d c k : Nat} (hc : c < 12) (hd : d < 12) (h : dst op c d = some k) : f_X3_firstRoad (nI c) (nI d) (nI (mk op 12)) (nI k) = some (nI (rwv op d k c 1)) := by
  have hk := (fw1_some h).1
  have h2 := firstC_R hd k FU c 1 hc h (by unfold FU; omega)
  unfold f_X3_firstRoad
  rw [show nI 1 = (1 : Int32) from rfl] at h2
  rw [show nI k - (1 : Int32) = nI k + (-1) from Int32.sub_eq_add_neg _ _]
  exact h2
/-! the reference's way back -/
theorem backM_L {g : Nat → Nat} {a : AL} {l p far : Nat → Int32} {B c d k : Nat} {v2 : Int32} (hp : PR a p) (hl : LR g l) (hg : WG g) (hw : WA B a) (hc : c < 12) (hk : k < 12) (hfar : ∀ e, e < 12 → far e = vI (dst (opt g a (decide (v2 = 0))) e d)) {K : Int32 → Int32 → Option (Int32 × Int32 × (Nat → Int32))} : ∀ (j f : Nat) (o : Option Nat), j ≤ 4 → j < f → ∃ v9, f_X4_road_L76 K v2 (nI c) (nI (k + 1)) l p far f (vI o) (nI j + (-1)) = K (vI (dn (Qw (opt g a (decide (v2 = 0))) d c k) j o)) v9
  | 0, f, o, hj, h1 => by
    obtain ⟨f, rfl⟩ : ∃ m, f = m + 1 := ⟨f - 1, by omega⟩
    rw [f_X4_road_L76]
    dsimp only
    rw [if_pos (show nI 0 + (-1) < 0 by decide)]
    exact ⟨_, rfl⟩
  | j + 1, f, o, hj, h1 => by
    obtain ⟨f, rfl⟩ : ∃ m, f = m + 1 := ⟨f - 1, by omega⟩
    have ih := fun o => backM_L hp hl hg hw hc hk hfar (K := K) j f o (by omega) (by omega)
    have ex : dn (Qw (opt g a (decide (v2 = 0))) d c k) (j + 1) o = dn (Qw (opt g a (decide (v2 = 0))) d c k) j (if Qw (opt g a (decide (v2 = 0))) d c k j = true then some j else o) := rfl
    rw [ex]
    have hQ := Qw_iff (op := opt g a (decide (v2 = 0))) (d := d) (c := c) (k := k) (w := j)
    rw [f_X4_road_L76, pk_m1]
    dsimp only
    rw [if_neg (show ¬ nI j < 0 from nI_pos (by omega)), to_tgt c hc j (by omega)]
    have hyes : Qw (opt g a (decide (v2 = 0))) d c k j = true → ∃ v9, f_X4_road_L76 K v2 (nI c) (nI (k + 1)) l p far f (nI j) (nI j + (-1)) = K (vI (dn (Qw (opt g a (decide (v2 = 0))) d c k) j (if Qw (opt g a (decide (v2 = 0))) d c k j = true then some j else o))) v9 := fun q => by
      rw [if_pos q]
      exact ih (some j)
    have hno : ¬ Qw (opt g a (decide (v2 = 0))) d c k j = true → ∃ v9, f_X4_road_L76 K v2 (nI c) (nI (k + 1)) l p far f (vI o) (nI j + (-1)) = K (vI (dn (Qw (opt g a (decide (v2 = 0))) d c k) j (if Qw (opt g a (decide (v2 = 0))) d c k j = true then some j else o))) v9 := fun q => by
      rw [if_neg q]
      exact ih o
    cases e : tgt c j with
    | none =>
      dsimp only
      unfold f_X4_mayEnter
      rw [if_pos rfl, bd, if_pos rfl]
      exact hno (fun q => by
        obtain ⟨t, p1, _⟩ := hQ.mp q
        rw [e] at p1
        cases p1)
    | some t =>
      have ht := tgt_lt hc e
      have hgt := hg t ht
      dsimp only
      rw [enterM (hp.1 t ht) (hw.1 t ht) ht, bd, nI_clamp (by omega), hl t ht, hfar t ht, one_nI, pk_sub (by omega), Nat.add_sub_cancel]
      have hv := vI_is (n := k) (by omega) (dst_lt (op := opt g a (decide (v2 = 0))) (d := d) (c := t))
      have hq2 : Qw (opt g a (decide (v2 = 0))) d c k j = true ↔ opt g a (decide (v2 = 0)) t = true ∧ vI (dst (opt g a (decide (v2 = 0))) t d) = nI k := by
        rw [hQ, hv]
        constructor
        · rintro ⟨u, p1, p2, p3⟩
          rw [e] at p1
          cases p1
          exact ⟨p2, p3⟩
        · rintro ⟨p2, p3⟩
          exact ⟨t, e, p2, p3⟩
      by_cases op : opn a t = true
      · rw [if_pos op, if_neg (show ¬ nI 1 = 0 by decide)]
        by_cases z : v2 = 0
        · have ho : opt g a (decide (v2 = 0)) t = true := by simp [opt, op, z]
          rw [if_pos z, o_g_nI ht (by decide)]
          by_cases y : vI (dst (opt g a (decide (v2 = 0))) t d) = nI k
          · rw [if_pos y]
            exact hyes (hq2.mpr ⟨ho, y⟩)
          · rw [if_neg y]
            exact hno (fun q => y (hq2.mp q).2)
        · rw [if_neg z, o_g_nI ht (by decide)]
          by_cases w4 : g t = 4
          · have ho : opt g a (decide (v2 = 0)) t = false := by simp [opt, z, w4]
            rw [if_pos (by rw [w4]; rfl)]
            exact hno (fun q => by
              have := (hq2.mp q).1
              rw [ho] at this
              cases this)
          · have ho : opt g a (decide (v2 = 0)) t = true := by simp [opt, op, w4]
            rw [if_neg (neq_nI 4 4 rfl w4 (by omega) (by decide)), o_g_nI ht (by decide)]
            by_cases y : vI (dst (opt g a (decide (v2 = 0))) t d) = nI k
            · rw [if_pos y]
              exact hyes (hq2.mpr ⟨ho, y⟩)
            · rw [if_neg y]
              exact hno (fun q => y (hq2.mp q).2)
      · have ho : opt g a (decide (v2 = 0)) t = false := by simp [opt, op]
        rw [if_neg op, if_pos rfl]
        exact hno (fun q => by
          have := (hq2.mp q).1
          rw [ho] at this
          cases this)
theorem back_M {g : Nat → Nat} {a : AL} {l p far : Nat → Int32} {B c d k w : Nat} {v2 : Int32} (hp : PR a p) (hl : LR g l) (hg : WG g) (hw : WA B a) (hc : c < 12) (hk : k < 12) (hfar : ∀ e, e < 12 → far e = vI (dst (opt g a (decide (v2 = 0))) e d)) (hf : fw1 (Qw (opt g a (decide (v2 = 0))) d c k) 4 = some w) {K : Int32 → Int32 → Option (Int32 × Int32 × (Nat → Int32))} : ∃ v9, f_X4_road_L76 K v2 (nI c) (nI (k + 1)) l p far FU (-9 : Int32) (3 : Int32) = K (nI w) v9 := by
  obtain ⟨v9, h⟩ := backM_L hp hl hg hw hc hk hfar (K := K) 4 FU none (by omega) (by decide)
  rw [dn_fw1, hf, show nI 4 + (-1) = (3 : Int32) by decide, show vI none = (-9 : Int32) from rfl] at h
  exact ⟨v9, h⟩
theorem rowM_A {g : Nat → Nat} {a : AL} {l p far : Nat → Int32} {B d n : Nat} {v2 : Int32} (hn : n ≤ 8) (hp : PR a p) (hl : LR g l) (hg : WG g) (hw : WA B a) (hfar : ∀ e, e < 12 → far e = vI (dst (opt g a (decide (v2 = 0))) e d)) {K : Int32 → Int32 → Int32 → Option (Int32 × Int32 × (Nat → Int32))} : ∀ (k f c acc : Nat), c < 12 → dst (opt g a (decide (v2 = 0))) c d = some k → k < f → ∃ v6 v7, f_X4_road_L64 K v2 (nI n) l p far f (nI acc) (nI c) (nI k) = K (nI (rwv (opt g a (decide (v2 = 0))) d k c acc)) v6 v7
  | 0, f, c, acc, hc, h, h1 => by
    obtain ⟨f, rfl⟩ : ∃ m, f = m + 1 := ⟨f - 1, by omega⟩
    rw [f_X4_road_L64]
    dsimp only
    rw [if_pos (by decide)]
    exact ⟨_, _, rfl⟩
  | k + 1, f, c, acc, hc, h, h1 => by
    obtain ⟨f, rfl⟩ : ∃ m, f = m + 1 := ⟨f - 1, by omega⟩
    have hk := (fw1_some h).1
    obtain ⟨w, t, g1, g2, g3, g4, g5, g6⟩ := dst_step hc h
    rw [f_X4_road_L64]
    dsimp only
    rw [if_neg (nle0_nI (by omega) (by omega)), pk_m1]
    obtain ⟨v9, h2⟩ := back_M (K := (fun (v8_3 : Int32) (v9_4 : Int32) => if nI n ≤ (8 : Int32) then f_X4_road_L64 K v2 (nI n) l p far f (((10 : Int32) * nI acc) + v8_3) (f_X4_to (nI c) v8_3) (nI k) else f_X4_road_L64 K v2 (nI n) l p far f (-9 : Int32) (f_X4_to (nI c) v8_3) (nI k))) hp hl hg hw hc (by omega) hfar g1
    rw [h2, if_pos (show nI n ≤ (8 : Int32) from (nI_leI (b := 8) (by omega) (by decide)).mpr hn), to_tgt c hc w g2, g3]
    dsimp only
    rw [show (10 : Int32) = nI 10 from rfl, pk_mul, nI_add, Nat.mul_comm 10 acc, rwv_up g1 g3]
    exact rowM_A hn hp hl hg hw hfar k f t (acc * 10 + w) g4 g6 (by omega)
theorem rowM_B {g : Nat → Nat} {a : AL} {l p far : Nat → Int32} {B d n : Nat} {v2 : Int32} (hn : 8 < n) (hn2 : n < 12) (hp : PR a p) (hl : LR g l) (hg : WG g) (hw : WA B a) (hfar : ∀ e, e < 12 → far e = vI (dst (opt g a (decide (v2 = 0))) e d)) {K : Int32 → Int32 → Int32 → Option (Int32 × Int32 × (Nat → Int32))} : ∀ (k f c : Nat) (v5 : Int32), c < 12 → dst (opt g a (decide (v2 = 0))) c d = some k → k < f → ∃ v6 v7, f_X4_road_L64 K v2 (nI n) l p far f v5 (nI c) (nI k) = K (if k = 0 then v5 else -9) v6 v7
  | 0, f, c, v5, hc, h, h1 => by
    obtain ⟨f, rfl⟩ : ∃ m, f = m + 1 := ⟨f - 1, by omega⟩
    rw [f_X4_road_L64]
    dsimp only
    rw [if_pos (by decide)]
    exact ⟨_, _, rfl⟩
  | k + 1, f, c, v5, hc, h, h1 => by
    obtain ⟨f, rfl⟩ : ∃ m, f = m + 1 := ⟨f - 1, by omega⟩
    have hk := (fw1_some h).1
    obtain ⟨w, t, g1, g2, g3, g4, g5, g6⟩ := dst_step hc h
    rw [f_X4_road_L64]
    dsimp only
    rw [if_neg (nle0_nI (by omega) (by omega)), pk_m1]
    obtain ⟨v9, h2⟩ := back_M (K := (fun (v8_3 : Int32) (v9_4 : Int32) => if nI n ≤ (8 : Int32) then f_X4_road_L64 K v2 (nI n) l p far f (((10 : Int32) * v5) + v8_3) (f_X4_to (nI c) v8_3) (nI k) else f_X4_road_L64 K v2 (nI n) l p far f (-9 : Int32) (f_X4_to (nI c) v8_3) (nI k))) hp hl hg hw hc (by omega) hfar g1
    rw [h2, if_neg (show ¬ nI n ≤ (8 : Int32) from fun q => by have := (nI_leI (b := 8) (by omega) (by decide)).mp q; omega), to_tgt c hc w g2, g3]
    dsimp only
    obtain ⟨v6, v7, h3⟩ := rowM_B hn hn2 hp hl hg hw hfar (K := K) k f t (-9) g4 g6 (by omega)
    rw [h3, if_neg (show ¬ k + 1 = 0 by omega)]
    refine ⟨v6, v7, ?_⟩
    split <;> rfl
theorem road_eq {g : Nat → Nat} {l : Nat → Int32} {B : Nat} {a : AL} {x : LV} {p : Nat → Int32} (hb : Bo g l B a x p) (far : Nat → Int32) (v1 v2 v3 : Int32) : ∃ r far', f_X3_road x v1 v2 v3 = some r ∧ f_X4_road l p far v1 v2 v3 = some (r, 0, far') := by
  unfold f_X3_road f_X4_road
  rcases cellCs v1 with ⟨h1, h2, -⟩ | ⟨d, hd, rfl⟩
  · rw [h1, h2, if_pos rfl, if_neg (by decide)]
    exact ⟨-1, far, rfl, rfl⟩
  · have hP := hb.2.2.2.2.2.1
    obtain ⟨far', f1, f2⟩ := far_M (v2 := v2) hd hb.2.1 hb.2.2.1 hb.2.2.2.1 hb.2.2.2.2 far
    rw [(cellOk d hd).1, (cellOk d hd).2, if_neg (show ¬ (1 : Int32) = 0 by decide), if_pos (show (0 : Int32) = 0 from rfl), optC hb.1 hb.2.2.2.1 hb.2.2.2.2, bd, hb.1.2.2.1, steps_C hP hd, bd, f1, bd, hb.2.1.2.1, o_g_nI hP (by decide), nI_clamp (by omega), f2 _ hP]
    by_cases z : v3 = 0
    · rw [if_pos z, if_pos z]
      exact ⟨_, far', rfl, rfl⟩
    · rw [if_neg z, if_neg z]
      cases e : dst (opt g a (decide (v2 = 0))) (aP a) d with
      | none =>
        rw [if_pos (show vI none = -9 from rfl), if_pos (show vI none = -9 from rfl)]
        exact ⟨_, far', rfl, rfl⟩
      | some n =>
        have hn := (fw1_some e).1
        have hne : ¬ vI (some n) = -9 := fun q => absurd q.symm (fa_of_lt (nm9_lt (a := n) (by omega))).2.2.2.1
        rw [if_neg hne, if_neg hne, show vI (some n) = nI n from rfl]
        by_cases q : n ≤ 8
        · rw [if_pos (show nI n ≤ (8 : Int32) from (nI_leI (b := 8) (by omega) (by decide)).mpr q), firstC hP hd e, bd]
          obtain ⟨v6, v7, h3⟩ := rowM_A q hb.2.1 hb.2.2.1 hb.2.2.2.1 hb.2.2.2.2 f2 (K := (fun (v5_5 : Int32) (v6_6 : Int32) (v7_7 : Int32) => some (v5_5, (0 : Int32), far'))) n FU (aP a) 1 hP e (by unfold FU; omega)
          rw [show nI 1 = (1 : Int32) from rfl] at h3
          exact ⟨_, far', rfl, h3⟩
        · rw [if_neg (show ¬ nI n ≤ (8 : Int32) from fun w => q ((nI_leI (b := 8) (by omega) (by decide)).mp w))]
          obtain ⟨v6, v7, h3⟩ := rowM_B (by omega) hn hb.2.1 hb.2.2.1 hb.2.2.2.1 hb.2.2.2.2 f2 (K := (fun (v5_5 : Int32) (v6_6 : Int32) (v7_7 : Int32) => some (v5_5, (0 : Int32), far'))) n FU (aP a) 1 hP e (by unfold FU; omega)
          rw [if_neg (show ¬ n = 0 by omega)] at h3
          exact ⟨-9, far', rfl, h3⟩
